/-! kq_: the rows of a call in one piece, over one list of words for all methods (gw: what the tables say and every warmer table keeps) and one state word (nw: links of nest mates, casts, declared members) -/
def gw : List Cond := lw_tbl.filter goodWord
abbrev wz (y : MethodName) (b : ByteArray) (n : Nat) (r : Option FieldType) : List Cond := Cond.code y b n r :: gw
theorem gwm {w : Cond} (h : w ∈ lw_tbl) (hg : goodWord w = true) : w ∈ gw := List.mem_filter.mpr ⟨h, hg⟩
theorem gw_good {y : MethodName} {b : ByteArray} {n : Nat} {r : Option FieldType} (hc : Cond.code y b n r ∈ gw) : GoodIn gw (wz y b n r) := by
  intro w hw
  rcases List.mem_cons.mp hw with rfl | h
  · exact ⟨hc, Or.inl (by first | rfl | simp [Cond.onTables, Cond.keeps, Cond.steady])⟩
  · exact ⟨h, good_of_word (List.mem_filter.mp h).2⟩
def nw_is : Cond → Bool
  | .fieldLinkNest .. => true
  | .methodLinkNest .. => true
  | .castable .. => true
  | .declares _ => true
  | _ => false
def nwL : List Cond := lw_tbl.filter nw_is
def nw (U : State) : Prop := ∀ w ∈ nwL, va_Nw w U
theorem nwm {w : Cond} (h : w ∈ lw_tbl) (hg : nw_is w = true) : w ∈ nwL := List.mem_filter.mpr ⟨h, hg⟩
theorem nw_on {w : Cond} (h : nw_is w = true) : w.onTables = true := by
  cases w <;> first | rfl | (simp [nw_is] at h)
theorem nw_warm {s U : State} (hW : s.WarmedH U.vm) (h : nw s) : nw U := by
  intro w hw
  have h1 := (List.mem_filter.mp hw).2
  have h2 := h w hw
  cases w <;> first | (simp [nw_is] at h1; done) | exact va_Nw.warmF hW h2 | exact va_Nw.warmM hW h2 | exact va_Nw.warmC hW h2 | exact va_Nw.warmD hW h2
theorem nw_same {u U : State} (h : u.vm = U.vm) (hn : nw u) : nw U := fun w hw => va_Nw.same (nw_on (List.mem_filter.mp hw).2) h (hn w hw)
theorem nw_use {A : Array Value} {U : State} (h : nw U) {w : Cond} (hw : w ∈ nwL) : w.before A U = true := va_Nw.use (nw_on (List.mem_filter.mp hw).2) (h w hw)
theorem kq_in {i : Int32} {n : Nat} (h : decide (0 ≤ i.toInt ∧ i.toInt < n) = true) : vp_in i n := vp_in_iff.mpr (of_decide_eq_true h)
theorem kq_neI {x n : Int32} {z : Int} (h : ¬ x = n) (hn : n.toInt = z) : x.toInt ≠ z := fun q => h (Int32.toInt_inj.mp (q.trans hn.symm))
section KW
variable {R : Room} {s : State} {args : Array Value} {own host C : String} {index maxL mc ms n : Nat} {y : MethodName} {b : ByteArray} {ret : Option FieldType} {rm : Room}
theorem kw_S (ht : ∀ w ∈ gw, w.before args s = true) (hl : Cond.methodLink own index y ∈ gw) (hst : Cond.static y ∈ gw) (hini : Cond.initialized y.cls ∈ gw) (hc : Cond.code y b maxL ret ∈ gw) (hrc : rm.cells = mc) (hrs : rm.slots = ms)
    (hd : y.cls ≠ "java/lang/invoke/MethodHandle" ∧ y.cls ≠ "java/lang/invoke/VarHandle" ∧ (parseMethodDescriptor y.desc).map (fun d => d.parameters.length) = some n) (hR : rm.frames + 1 ≤ R.frames ∧ 8 + (maxL + 11) + rm.locals ≤ R.locals) :
    CallB R s args own index y b maxL ret (wz y b maxL ret) rm mc ms n ∧ (Cond.static y).before args s = true :=
  ⟨callB_of n ht (gw_good hc) rfl hrc hrs (ht _ hini) (ht _ hl) hd hR, ht _ hst⟩
theorem kw_V (ht : ∀ w ∈ gw, w.before args s = true) (hl : Cond.methodLink own index y ∈ gw) (hin : Cond.instanceMethod y ∈ gw) (hse : Cond.selects C y y ∈ gw) (hini : Cond.initialized y.cls ∈ gw) (hc : Cond.code y b maxL ret ∈ gw) (hrc : rm.cells = mc) (hrs : rm.slots = ms)
    (hd : y.cls ≠ "java/lang/invoke/MethodHandle" ∧ y.cls ≠ "java/lang/invoke/VarHandle" ∧ (parseMethodDescriptor y.desc).map (fun d => d.parameters.length) = some n) (hR : rm.frames + 1 ≤ R.frames ∧ 8 + (maxL + 11) + rm.locals ≤ R.locals) :
    CallW R s args own C index y b maxL ret (wz y b maxL ret) rm mc ms n :=
  ⟨callB_of n ht (gw_good hc) rfl hrc hrs (ht _ hini) (ht _ hl) hd hR, ht _ hin, ht _ hse⟩
theorem kw_I (ht : ∀ w ∈ gw, w.before args s = true) (hl : Cond.methodLink own index y ∈ gw) (hin : Cond.instanceMethod y ∈ gw) (hini : Cond.initialized y.cls ∈ gw) (hc : Cond.code y b maxL none ∈ gw) (hy1 : y.name = "<init>") (hrc : rm.cells = mc) (hrs : rm.slots = ms)
    (hd : y.cls ≠ "java/lang/invoke/MethodHandle" ∧ y.cls ≠ "java/lang/invoke/VarHandle" ∧ (parseMethodDescriptor y.desc).map (fun d => d.parameters.length) = some n) (hR : rm.frames + 1 ≤ R.frames ∧ 8 + (maxL + 11) + rm.locals ≤ R.locals) :
    CallB R s args own index y b maxL none (wz y b maxL none) rm mc ms n ∧ y.name = "<init>" ∧ (Cond.instanceMethod y).before args s = true :=
  ⟨callB_of n ht (gw_good hc) rfl hrc hrs (ht _ hini) (ht _ hl) hd hR, hy1, ht _ hin⟩
theorem kw_SN (ht : ∀ w ∈ gw, w.before args s = true) (hN : nw s) (hl : Cond.methodLinkNest own index y host ∈ nwL) (hst : Cond.static y ∈ gw) (hini : Cond.initialized y.cls ∈ gw) (hc : Cond.code y b maxL ret ∈ gw) (hrc : rm.cells = mc) (hrs : rm.slots = ms)
    (hd : y.cls ≠ "java/lang/invoke/MethodHandle" ∧ y.cls ≠ "java/lang/invoke/VarHandle" ∧ (parseMethodDescriptor y.desc).map (fun d => d.parameters.length) = some n) (hR : rm.frames + 1 ≤ R.frames ∧ 8 + (maxL + 11) + rm.locals ≤ R.locals) :
    va_CN R s args own index y host b maxL ret (wz y b maxL ret) rm mc ms n ∧ (Cond.static y).before args s = true ∧ True :=
  ⟨va_cnB n ht (gw_good hc) rfl hrc hrs (hN _ hl) (ht _ hini) hd hR, ht _ hst, trivial⟩
theorem kw_VN (ht : ∀ w ∈ gw, w.before args s = true) (hN : nw s) (hl : Cond.methodLinkNest own index y host ∈ nwL) (hin : Cond.instanceMethod y ∈ gw) (hse : Cond.selects C y y ∈ gw) (hini : Cond.initialized y.cls ∈ gw) (hc : Cond.code y b maxL ret ∈ gw) (hrc : rm.cells = mc) (hrs : rm.slots = ms)
    (hd : y.cls ≠ "java/lang/invoke/MethodHandle" ∧ y.cls ≠ "java/lang/invoke/VarHandle" ∧ (parseMethodDescriptor y.desc).map (fun d => d.parameters.length) = some n) (hR : rm.frames + 1 ≤ R.frames ∧ 8 + (maxL + 11) + rm.locals ≤ R.locals) :
    va_CN R s args own index y host b maxL ret (wz y b maxL ret) rm mc ms n ∧ (Cond.instanceMethod y).before args s = true ∧ (Cond.selects C y y).before args s = true :=
  ⟨va_cnB n ht (gw_good hc) rfl hrc hrs (hN _ hl) (ht _ hini) hd hR, ht _ hin, ht _ hse⟩
theorem kw_IN (ht : ∀ w ∈ gw, w.before args s = true) (hN : nw s) (hl : Cond.methodLinkNest own index y host ∈ nwL) (hin : Cond.instanceMethod y ∈ gw) (hini : Cond.initialized y.cls ∈ gw) (hc : Cond.code y b maxL none ∈ gw) (hy1 : y.name = "<init>") (hrc : rm.cells = mc) (hrs : rm.slots = ms)
    (hd : y.cls ≠ "java/lang/invoke/MethodHandle" ∧ y.cls ≠ "java/lang/invoke/VarHandle" ∧ (parseMethodDescriptor y.desc).map (fun d => d.parameters.length) = some n) (hR : rm.frames + 1 ≤ R.frames ∧ 8 + (maxL + 11) + rm.locals ≤ R.locals) :
    va_CN R s args own index y host b maxL none (wz y b maxL none) rm mc ms n ∧ y.name = "<init>" ∧ (Cond.instanceMethod y).before args s = true :=
  ⟨va_cnB n ht (gw_good hc) rfl hrc hrs (hN _ hl) (ht _ hini) hd hR, hy1, ht _ hin⟩
end KW
section KP
variable {s : State} {H : Heap} {D : va_G} {cl : List vw_C} {wc : va_W} {tc : List (ClassId × FieldType)}
theorem kq_blR {av : List Value} : FrameBlind (va_Pc av (fun U => nw U ∧ va_P D cl wc U.heap ∧ va_K D cl tc U)) := by
  intro a U g mk q
  obtain ⟨q0, q1, qP, qK⟩ := q
  exact ⟨q0, nw_same (u := U) rfl q1, qP, va_K.moved (u := U) (U := U.calling g mk a) (Vm.Alike.refl U.vm) qK⟩
theorem kq_preS {av : List Value} (hn : nw s) (hP : va_P D cl wc H) (hK : va_K D cl tc s) : PreS s H (va_Pc av (fun U => nw U ∧ va_P D cl wc U.heap ∧ va_K D cl tc U)) av :=
  ⟨kq_blR, fun U hU hW => ⟨rfl, nw_warm hW hn, by rw [hU]; exact hP, va_K.moved hW.alike hK⟩⟩
theorem kq_preV {As : List Value} {b : Nat} {C : String} {T : u_T} {N ci : Nat} {fs : List Value} (hn : nw s) (hP : va_P D cl wc H) (hK : va_K D cl tc s) (q0 : Nat) (he : wc[q0]? = some (b, .inr (ci, fs))) (hc : cl[ci]? = some (C, T, N)) : PreV s H C b (va_Pc (.ref b :: As) (fun U => nw U ∧ va_P D cl wc U.heap ∧ va_K D cl tc U)) As :=
  ⟨kq_blR, va_recv hK hP hc he, fun U hU hW => ⟨rfl, nw_warm hW hn, by rw [hU]; exact hP, va_K.moved hW.alike hK⟩⟩
theorem kq_blM {av : List Value} {sz : Nat} : FrameBlind (va_Pc av (fun U => U.heap.size = sz ∧ nw U ∧ va_P D cl wc U.heap ∧ va_K D cl tc U ∧ va_D (fun _ => True) wc)) := by
  intro a U g mk q
  obtain ⟨q0, q2, q1, qP, qK, qD⟩ := q
  exact ⟨q0, q2, nw_same (u := U) rfl q1, qP, va_K.moved (u := U) (U := U.calling g mk a) (Vm.Alike.refl U.vm) qK, qD⟩
theorem kq_preMS {av : List Value} {A : Nat → Prop} (hn : nw s) (hP : va_P D cl wc H) (hK : va_K D cl tc s) (hD : va_D A wc) : PreS s H (va_Pc av (fun U => U.heap.size = H.size ∧ nw U ∧ va_P D cl wc U.heap ∧ va_K D cl tc U ∧ va_D (fun _ => True) wc)) av :=
  ⟨kq_blM, fun U hU hW => ⟨rfl, by rw [hU], nw_warm hW hn, by rw [hU]; exact hP, va_K.moved hW.alike hK, hD.weaken (fun _ _ _ _ => trivial)⟩⟩
theorem kq_preMV {As : List Value} {b : Nat} {C : String} {T : u_T} {N ci : Nat} {fs : List Value} {A : Nat → Prop} (hn : nw s) (hP : va_P D cl wc H) (hK : va_K D cl tc s) (hD : va_D A wc) (q0 : Nat) (he : wc[q0]? = some (b, .inr (ci, fs))) (hc : cl[ci]? = some (C, T, N)) :
    PreV s H C b (va_Pc (.ref b :: As) (fun U => U.heap.size = H.size ∧ nw U ∧ va_P D cl wc U.heap ∧ va_K D cl tc U ∧ va_D (fun _ => True) wc)) As :=
  ⟨kq_blM, va_recv hK hP hc he, fun U hU hW => ⟨rfl, by rw [hU], nw_warm hW hn, by rw [hU]; exact hP, va_K.moved hW.alike hK, hD.weaken (fun _ _ _ _ => trivial)⟩⟩
end KP
section KQ
variable {p : Program} {l : Launch} {e : Env} {R : Room} {s : State} {m : MethodId} {args : Array Value} {below : List Frame} {meth : Method} {c : Code} {H : Heap} {locs : List Loc} {cells slots : Nat} {Q : State → Prop}
variable {pc : Nat} {ls : Array Slot} {rest st0 : List Value} {D : va_G} {cl : List vw_C} {A : Nat → Prop} {tys : List (ClassId × FieldType)} {ws : va_W} {H0 : Heap}
theorem kq_fi {x y : Int32} (h : y = x) (k : W p l e R s m args below meth c H locs cells slots Q (F0 m pc ls (.int y :: rest))) : W p l e R s m args below meth c H locs cells slots Q (F0 m pc ls (.int x :: rest)) := h ▸ k
theorem kq_fl {x y : Int64} (h : y = x) (k : W p l e R s m args below meth c H locs cells slots Q (F0 m pc ls (.long y :: rest))) : W p l e R s m args below meth c H locs cells slots Q (F0 m pc ls (.long x :: rest)) := h ▸ k
theorem kq_iald {cc : ByteArray} {a : Nat} (hexec : p.tables.exec = Jvm.exec) (hb : c.code = cc) (hK : va_K D cl tys s) (hP : va_P D cl ws H) (q0 t0 : Nat) {cA : ClassId} {n : Nat} {f : Nat → Int32} (ha : ws[q0]? = some (a, .inl (cA, n, .inl f))) (ht : tys[t0]? = some (cA, .int)) {i v : Int32} {j : Nat} (hj : i.toNatClampNeg = j) (hv : f j = v) (hin : vp_in i n) (hdg : decode cc pc = .ok (.iaload, 1))
    (kk : W p l e R s m args below meth c H locs cells slots Q (F0 m (pc + 1) ls (.int v :: rest))) : W p l e R s m args below meth c H locs cells slots Q (F0 m pc ls (.int i :: .ref a :: rest)) := by
  subst hj; subst hv
  exact va_iald hexec hb hK hP q0 t0 ha ht hin hdg kk
theorem kq_lald {cc : ByteArray} {a : Nat} (hexec : p.tables.exec = Jvm.exec) (hb : c.code = cc) (hK : va_K D cl tys s) (hP : va_P D cl ws H) (q0 t0 : Nat) {cA : ClassId} {n : Nat} {f : Nat → Int64} (ha : ws[q0]? = some (a, .inl (cA, n, .inr (.inl f)))) (ht : tys[t0]? = some (cA, .long)) {i : Int32} {v : Int64} {j : Nat} (hj : i.toNatClampNeg = j) (hv : f j = v) (hin : vp_in i n) (hdg : decode cc pc = .ok (.laload, 1))
    (kk : W p l e R s m args below meth c H locs cells slots Q (F0 m (pc + 1) ls (.long v :: rest))) : W p l e R s m args below meth c H locs cells slots Q (F0 m pc ls (.int i :: .ref a :: rest)) := by
  subst hj; subst hv
  exact va_lald hexec hb hK hP q0 t0 ha ht hin hdg kk
theorem kq_aald {cc : ByteArray} {a : Nat} (hexec : p.tables.exec = Jvm.exec) (hb : c.code = cc) (hK : va_K D cl tys s) (hP : va_P D cl ws H) (q0 t0 : Nat) {cA : ClassId} {C : String} {n : Nat} {f : Nat → Option Nat} (ha : ws[q0]? = some (a, .inl (cA, n, .inr (.inr (.inr (.inr f)))))) (ht : tys[t0]? = some (cA, .object C)) {i : Int32} {j b : Nat} (hj : i.toNatClampNeg = j) (hv : f j = some b) (hin : vp_in i n) (hdg : decode cc pc = .ok (.aaload, 1))
    (kk : W p l e R s m args below meth c H locs cells slots Q (F0 m (pc + 1) ls (.ref b :: rest))) : W p l e R s m args below meth c H locs cells slots Q (F0 m pc ls (.int i :: .ref a :: rest)) := by
  subst hj
  refine va_aldq hexec hb hK hP q0 t0 ha ht hin hdg ?_
  rw [hv]
  exact kk
theorem kq_R {r : Value} {a : Array Value} (hr : va_Run p l e R s m args below meth c H locs cells slots 0 0 (F0 m pc ls st0) rest (k2_QcV r a) (fun _ => False)) (kk : W p l e R s m args below meth c H locs cells slots Q (F0 m (pc + 3) ls (r :: rest))) : W p l e R s m args below meth c H locs cells slots Q (F0 m pc ls st0) := by
  intro T hT X
  obtain ⟨v, st₀, t, T', L, h0, X', hL, e1, -, ⟨hv, hh⟩, st⟩ := hr T hT X
  cases hv
  obtain ⟨t2, a1, b1⟩ := kk T' (by rw [e1, hh, h0]) (Stand.forget X' (fun q h => (hL q h).elim))
  exact ⟨t2, st t2 a1, b1⟩
variable {wc wr w1 : va_W} {tc : List (ClassId × FieldType)} {a : Array Value} {mc ms : Nat}
theorem kq_Mv (hr : va_Run p l e R s m args below meth c H locs cells slots mc ms (F0 m pc ls st0) rest (va_Qv (fun _ : Unit => True) (fun _ t => va_P D cl w1 t.heap ∧ va_K D cl tc t ∧ va_D (va_A wc H.size) w1) (va_A wc H.size) a) (va_A wc H.size)) (hS : va_S A H0 H locs) (hA : ∀ q, H0.size ≤ q → A q) (hP : va_P D cl ws H) (hD : va_D A ws) (isC isR : List Nat) (hC : isC.map (fun i => ws[i]?) = wc.map some) (hR : isR.map (fun i => ws[i]?) = wr.map some) (hn : va_nd isR = true) (hdis : ∀ i ∈ isR, i ∉ isC)
    (kk : ∀ (H1 : Heap) (locs1 : List Loc), va_P D cl (wr ++ w1) H1 → va_K D cl tc s → va_D A (wr ++ w1) → va_S A H0 H1 locs1 → W p l e R s m args below meth c H1 locs1 (cells + mc) (slots + ms) Q (F0 m (pc + 3) ls rest)) : W p l e R s m args below meth c H locs cells slots Q (F0 m pc ls st0) := by
  have hF := va_free (wc := wc) hD hS hA isC hC
  refine va_callv hr hS (fun q _ h => hF q h) hF (fun u t H1 locs1 ht hvm _ hB hz1 hk1 hS => ?_)
  obtain ⟨hP1, hK1, hD1⟩ := hB
  rw [ht] at hP1
  obtain ⟨hP, hD⟩ := va_join (wr := wr) (w1 := w1) hP hD isC isR hC hR hn hdis hk1 hF hP1 hD1
  exact kk H1 locs1 hP (va_K.moved hvm.symm hK1) hD hS
theorem kq_Mi {v : Int32} (hr : va_Run p l e R s m args below meth c H locs cells slots mc ms (F0 m pc ls st0) rest (va_Qi (fun r (_ : Unit) => r = v) (fun _ t => va_P D cl w1 t.heap ∧ va_K D cl tc t ∧ va_D (va_A wc H.size) w1) (va_A wc H.size) a) (va_A wc H.size)) (hS : va_S A H0 H locs) (hA : ∀ q, H0.size ≤ q → A q) (hP : va_P D cl ws H) (hD : va_D A ws) (isC isR : List Nat) (hC : isC.map (fun i => ws[i]?) = wc.map some) (hR : isR.map (fun i => ws[i]?) = wr.map some) (hn : va_nd isR = true) (hdis : ∀ i ∈ isR, i ∉ isC)
    (kk : ∀ (H1 : Heap) (locs1 : List Loc), va_P D cl (wr ++ w1) H1 → va_K D cl tc s → va_D A (wr ++ w1) → va_S A H0 H1 locs1 → W p l e R s m args below meth c H1 locs1 (cells + mc) (slots + ms) Q (F0 m (pc + 3) ls (.int v :: rest))) : W p l e R s m args below meth c H locs cells slots Q (F0 m pc ls st0) := by
  have hF := va_free (wc := wc) hD hS hA isC hC
  refine va_calli hr hS (fun q _ h => hF q h) hF (fun r u t H1 locs1 ht hvm hpo hB hz1 hk1 hS => ?_)
  obtain ⟨hP1, hK1, hD1⟩ := hB
  rw [ht] at hP1
  obtain ⟨hP, hD⟩ := va_join (wr := wr) (w1 := w1) hP hD isC isR hC hR hn hdis hk1 hF hP1 hD1
  subst hpo
  exact kk H1 locs1 hP (va_K.moved hvm.symm hK1) hD hS
theorem kq_Ml {v : Int64} (hr : va_Run p l e R s m args below meth c H locs cells slots mc ms (F0 m pc ls st0) rest (va_Ql (fun r (_ : Unit) => r = v) (fun _ t => va_P D cl w1 t.heap ∧ va_K D cl tc t ∧ va_D (va_A wc H.size) w1) (va_A wc H.size) a) (va_A wc H.size)) (hS : va_S A H0 H locs) (hA : ∀ q, H0.size ≤ q → A q) (hP : va_P D cl ws H) (hD : va_D A ws) (isC isR : List Nat) (hC : isC.map (fun i => ws[i]?) = wc.map some) (hR : isR.map (fun i => ws[i]?) = wr.map some) (hn : va_nd isR = true) (hdis : ∀ i ∈ isR, i ∉ isC)
    (kk : ∀ (H1 : Heap) (locs1 : List Loc), va_P D cl (wr ++ w1) H1 → va_K D cl tc s → va_D A (wr ++ w1) → va_S A H0 H1 locs1 → W p l e R s m args below meth c H1 locs1 (cells + mc) (slots + ms) Q (F0 m (pc + 3) ls (.long v :: rest))) : W p l e R s m args below meth c H locs cells slots Q (F0 m pc ls st0) := by
  have hF := va_free (wc := wc) hD hS hA isC hC
  refine va_calll hr hS (fun q _ h => hF q h) hF (fun r u t H1 locs1 ht hvm hpo hB hz1 hk1 hS => ?_)
  obtain ⟨hP1, hK1, hD1⟩ := hB
  rw [ht] at hP1
  obtain ⟨hP, hD⟩ := va_join (wr := wr) (w1 := w1) hP hD isC isR hC hR hn hdis hk1 hF hP1 hD1
  subst hpo
  exact kk H1 locs1 hP (va_K.moved hvm.symm hK1) hD hS
end KQ
