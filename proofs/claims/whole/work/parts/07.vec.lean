/-! a place of a vector set anew: by recursors alone, so that the kernel goes to the value at once -/
noncomputable abbrev uv (f : Nat → Int32) (k : Nat) (x : Int32) : Nat → Int32 := fun j => @Bool.rec (fun _ => Int32) (f j) x (Nat.beq j k)
noncomputable abbrev uw (f : Nat → Int64) (k : Nat) (x : Int64) : Nat → Int64 := fun j => @Bool.rec (fun _ => Int64) (f j) x (Nat.beq j k)
noncomputable abbrev u2 (f : Nat → Nat → Int32) (k : Nat) (x : Nat → Int32) : Nat → Nat → Int32 := fun j => @Bool.rec (fun _ => Nat → Int32) (f j) x (Nat.beq j k)
