theorem mwithin_in {x m : Int32} {n : Nat} (hm : m.toInt + 1 = n) (h : ¬ r_mwithin x 0 m = 0) : vp_in x n := isWithin_in hm h
theorem vp_in_10 {x : Int32} (h : vp_in x 6) : vp_in x 10 := by
  rw [vp_in_iff] at h ⊢
  omega
theorem vp_in_6 {x : Int32} (h : vp_in x 4) : vp_in (6 + x) 10 := by
  rw [vp_in_iff] at h ⊢
  have e : (6 : Int32).toInt = 6 := by decide
  rw [Jvm.Kit.i32_add (by rw [e]; omega) (by rw [e]; omega), e]
  omega
