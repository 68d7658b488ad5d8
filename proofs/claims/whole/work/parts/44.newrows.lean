/-! rows that make cells: arrays whose kind is already named in the world; the clone of the static array FIRST_VALUES, from the one premise that the Statement lacks (fv_ok's last member: its own kind is the one that the name [I finds) -/
def fv_ok (U : State) : Prop := ∃ (t : Nat) (scr : Cell), va_Z "GridConverter" "FIRST_VALUES" "[I" (.ref t) (fun _ => False) U U.heap ∧ U.heap[t]? = some scr ∧ U.isArrayOf scr .int ∧ scr.vm ≠ .unknown ∧ scr.slots.size = 12 ∧ (∀ j : Nat, j < 12 → scr.slots[j]? = some (.int (firstV j))) ∧ U.vm.findClass "[I" = some scr.cls
theorem fv_mv {s U : State} (hal : s.vm.Alike U.vm) (hh : ∀ q : Nat, q < s.heap.size → U.heap[q]? = s.heap[q]?) (h : fv_ok s) : fv_ok U := by
  obtain ⟨t, scr, hZ, h1, h2, h3, h4, h5, h6⟩ := h
  exact ⟨t, scr, va_Z.moved hal (hZ.kept (fun a ha _ => hh a ha)), by rw [hh t (Array.getElem?_eq_some_iff.mp h1).1]; exact h1, State.isArrayOf_alike hal h2, h3, h4, h5, by rw [hal.findClass]; exact h6⟩
theorem kq_arrI {cI : ClassId} {scr : Cell} {f : Nat → Int32} {n : Nat} (h1 : scr.slots.size = n) (h2 : ∀ j : Nat, j < n → scr.slots[j]? = some (.int (f j))) (h3 : scr.cls = cI) : ({ cls := scr.cls, slots := scr.slots } : Cell) = vp_cell cI (n, .inl f) := by
  rw [vp_cell_i]
  have e : scr.slots = (arrV cI n (fun j => .int (f j))).slots := by
    apply Array.ext_getElem?
    intro i
    by_cases hi : i < n
    · rw [h2 i hi, arrV_read cI _ hi]
    · rw [Array.getElem?_eq_none (by omega), Array.getElem?_eq_none (by rw [arrV_size]; omega)]
  rw [h3, e]
  rfl
theorem kq_arrq {cA : ClassId} {n : Nat} {f g : Nat → Option Nat} (h : ∀ j : Nat, j < n → f j = g j) : vp_cell cA (n, .inr (.inr (.inr (.inr f)))) = vp_cell cA (n, .inr (.inr (.inr (.inr g)))) := by
  rw [vp_cell_q, vp_cell_q]
  have e : (arrV cA n (fun j => va_rf (f j))).slots = (arrV cA n (fun j => va_rf (g j))).slots := by
    apply Array.ext_getElem?
    intro i
    by_cases hi : i < n
    · rw [arrV_read cA _ hi, arrV_read cA _ hi, h i hi]
    · rw [Array.getElem?_eq_none (by rw [arrV_size]; omega), Array.getElem?_eq_none (by rw [arrV_size]; omega)]
  show ({ cls := cA, slots := (arrV cA n (fun j => va_rf (f j))).slots, vm := .none } : Cell) = { cls := cA, slots := (arrV cA n (fun j => va_rf (g j))).slots, vm := .none }
  rw [e]
theorem kq_refs {D : va_G} {cl : List vw_C} {ws : va_W} {H : Heap} {cA : ClassId} {a n q0 : Nat} {f g : Nat → Option Nat} (hP : va_P D cl ws H) (hq : ws[q0]? = some (a, .inl (cA, n, .inr (.inr (.inr (.inr f)))))) (h : ∀ j : Nat, j < n → f j = g j) : va_P D cl (ws.set q0 (a, .inl (cA, n, .inr (.inr (.inr (.inr g)))))) H := by
  intro k q hk
  by_cases e : q0 = k
  · subst e
    have hlt : q0 < ws.length := (List.getElem?_eq_some_iff.mp hq).1
    rw [List.getElem?_set_self hlt] at hk
    cases hk
    have h1 : H[a]? = some (vp_cell cA (n, .inr (.inr (.inr (.inr f))))) := hP q0 _ hq
    show H[a]? = some (vp_cell cA (n, .inr (.inr (.inr (.inr g)))))
    rw [h1, kq_arrq h]
  · rw [List.getElem?_set_ne e] at hk
    exact hP k q hk
theorem kq_dset {A : Nat → Prop} {ws : va_W} {q0 a : Nat} {x y : va_E} (hD : va_D A ws) (hq : ws[q0]? = some (a, x)) : va_D A (ws.set q0 (a, y)) := hD.set hq
section KN
variable {p : Program} {l : Launch} {e : Env} {R : Room} {s : State} {m : MethodId} {args : Array Value} {below : List Frame} {meth : Method} {c : Code} {H : Heap} {locs : List Loc} {cells slots : Nat} {Q : State → Prop}
variable {pc : Nat} {ls : Array Slot} {rest : List Value} {D : va_G} {cl : List vw_C} {A : Nat → Prop} {tys : List (ClassId × FieldType)} {ws : va_W} {H0 : Heap}
theorem kq_newi {cc : ByteArray} {cI : ClassId} (hexec : p.tables.exec = Jvm.exec) (hb : c.code = cc) (harr : (Cond.arrayClass .int).before args s = true) (hK : va_K D cl tys s) (hP : va_P D cl ws H) (hD : va_D A ws) (hS : va_S A H0 H locs) (hA : ∀ q, H0.size ≤ q → A q) (t0 : Nat) (ht : tys[t0]? = some (cI, .int)) {n : Int32} {N : Nat}
    (hn : ¬ n < 0) (hN : n.toNatClampNeg = N) (hbytes : N * 4 ≤ 536870912) (hcells : cells + 1 ≤ R.cells) (hslots : slots + N ≤ R.slots) (hdg : decode cc pc = .ok (.newarray .int, 2))
    (kk : ∀ (q : Nat) (H1 : Heap), va_P D cl (ws ++ [(q, .inl (cI, N, .inl (fun _ => 0)))]) H1 → va_D A (ws ++ [(q, .inl (cI, N, .inl (fun _ => 0)))]) → va_S A H0 H1 locs → W p l e R s m args below meth c H1 locs (cells + 1) (slots + N) Q (F0 m (pc + 2) ls (.ref q :: rest))) :
    W p l e R s m args below meth c H locs cells slots Q (F0 m pc ls (.int n :: rest)) := by
  refine va_newa (a0 := (N, .inl (fun _ => 0))) hexec hb (atype := .int) harr (ty := .int) rfl hK hP hD hS hA (fun _ => rfl) hn hN hbytes hcells hslots hdg (fun q cA H1 hK1 hP1 hD1 hS1 => ?_)
  have h1 : s.vm.findClass ("[" ++ FieldType.int.toString) = some cA := (hK1.2 tys.length (cA, .int) (by simp)).2
  have h2 : s.vm.findClass ("[" ++ FieldType.int.toString) = some cI := (hK.2 t0 _ ht).2
  cases h1.symm.trans h2
  exact kk q H1 hP1 hD1 hS1
theorem kq_newl {cc : ByteArray} {cI : ClassId} (hexec : p.tables.exec = Jvm.exec) (hb : c.code = cc) (harr : (Cond.arrayClass .long).before args s = true) (hK : va_K D cl tys s) (hP : va_P D cl ws H) (hD : va_D A ws) (hS : va_S A H0 H locs) (hA : ∀ q, H0.size ≤ q → A q) (t0 : Nat) (ht : tys[t0]? = some (cI, .long)) {n : Int32} {N : Nat}
    (hn : ¬ n < 0) (hN : n.toNatClampNeg = N) (hbytes : N * 8 ≤ 536870912) (hcells : cells + 1 ≤ R.cells) (hslots : slots + N ≤ R.slots) (hdg : decode cc pc = .ok (.newarray .long, 2))
    (kk : ∀ (q : Nat) (H1 : Heap), va_P D cl (ws ++ [(q, .inl (cI, N, .inr (.inl (fun _ => 0))))]) H1 → va_D A (ws ++ [(q, .inl (cI, N, .inr (.inl (fun _ => 0))))]) → va_S A H0 H1 locs → W p l e R s m args below meth c H1 locs (cells + 1) (slots + N) Q (F0 m (pc + 2) ls (.ref q :: rest))) :
    W p l e R s m args below meth c H locs cells slots Q (F0 m pc ls (.int n :: rest)) := by
  refine va_newa (a0 := (N, .inr (.inl (fun _ => 0)))) hexec hb (atype := .long) harr (ty := .long) rfl hK hP hD hS hA (fun _ => rfl) hn hN hbytes hcells hslots hdg (fun q cA H1 hK1 hP1 hD1 hS1 => ?_)
  have h1 : s.vm.findClass ("[" ++ FieldType.long.toString) = some cA := (hK1.2 tys.length (cA, .long) (by simp)).2
  have h2 : s.vm.findClass ("[" ++ FieldType.long.toString) = some cI := (hK.2 t0 _ ht).2
  cases h1.symm.trans h2
  exact kk q H1 hP1 hD1 hS1
theorem kq_newp {cc : ByteArray} {cP : ClassId} {own C : String} {index : Nat} (hexec : p.tables.exec = Jvm.exec) (hb : c.code = cc) (hown : s.vm.findClass own = some m.cls) (hclink : (Cond.classLink own index C).before args s = true) (hover : va_AO C s) (hK : va_K D cl tys s) (hP : va_P D cl ws H) (hD : va_D A ws) (hS : va_S A H0 H locs) (hA : ∀ q, H0.size ≤ q → A q) (t0 : Nat) (ht : tys[t0]? = some (cP, .object C)) {n : Int32} {N : Nat}
    (hn : ¬ n < 0) (hN : n.toNatClampNeg = N) (hbytes : N * 4 ≤ 536870912) (hcells : cells + 1 ≤ R.cells) (hslots : slots + N ≤ R.slots) (hdg : decode cc pc = .ok (.anewarray index, 3))
    (kk : ∀ (q : Nat) (H1 : Heap), va_P D cl (ws ++ [(q, .inl (cP, N, .inr (.inr (.inr (.inr (fun _ => none))))))]) H1 → va_D A (ws ++ [(q, .inl (cP, N, .inr (.inr (.inr (.inr (fun _ => none))))))]) → va_S A H0 H1 locs → W p l e R s m args below meth c H1 locs (cells + 1) (slots + N) Q (F0 m (pc + 3) ls (.ref q :: rest))) :
    W p l e R s m args below meth c H locs cells slots Q (F0 m pc ls (.int n :: rest)) := by
  refine va_newq hexec hb hown hclink hover hK hP hD hS hA hn hN hbytes hcells hslots hdg (fun q cA H1 hK1 hP1 hD1 hS1 => ?_)
  obtain ⟨kA, comp, -, -, -, h1⟩ := (hK1.2 tys.length (cA, .object C) (by simp)).2
  obtain ⟨kA2, comp2, -, -, -, h2⟩ := (hK.2 t0 _ ht).2
  cases h1.symm.trans h2
  exact kk q H1 hP1 hD1 hS1
theorem kq_cloneF {cc : ByteArray} {cI : ClassId} {own : String} {index t : Nat} {scr : Cell} (hexec : p.tables.exec = Jvm.exec) (hb : c.code = cc) (hml : c.maxLocals = ls.size) (hown : s.vm.findClass own = some m.cls)
    (hlink : (Cond.methodLink own index ⟨"[I", "clone", "()Ljava/lang/Object;"⟩).before args s = true) (hsame : (Cond.sameMethod "[I" "java/lang/Object" "clone" "()Ljava/lang/Object;").before args s = true)
    (hnat : (Cond.native ⟨"java/lang/Object", "clone", "()Ljava/lang/Object;"⟩).before args s = true) (hinst : (Cond.instanceMethod ⟨"java/lang/Object", "clone", "()Ljava/lang/Object;"⟩).before args s = true)
    (hsel : (Cond.selects "[I" ⟨"[I", "clone", "()Ljava/lang/Object;"⟩ ⟨"java/lang/Object", "clone", "()Ljava/lang/Object;"⟩).before args s = true) (hcl : va_Nw (.castable "[I" "java/lang/Cloneable") s)
    (hK : va_K D cl tys s) (hP : va_P D cl ws H) (hD : va_D A ws) (hS : va_S A H0 H locs) (hA : ∀ q, H0.size ≤ q → A q) (t0 : Nat) (ht : tys[t0]? = some (cI, .int))
    (h1 : H[t]? = some scr) (h2 : s.isArrayOf scr .int) (h3 : scr.vm ≠ .unknown) (h4 : scr.slots.size = 12) (h5 : ∀ j : Nat, j < 12 → scr.slots[j]? = some (.int (firstV j))) (h6 : s.vm.findClass "[I" = some scr.cls)
    (hframes : 1 ≤ R.frames) (hlocals : (rest.map fun v => v.category).sum + 14 ≤ R.locals) (hcells : cells + 1 ≤ R.cells) (hslots : slots + 12 ≤ R.slots) (hdg : decode cc pc = .ok (.invokevirtual index, 3))
    (kk : ∀ (q : Nat) (H1 : Heap), va_P D cl (ws ++ [(q, .inl (cI, 12, .inl firstV))]) H1 → va_D A (ws ++ [(q, .inl (cI, 12, .inl firstV))]) → va_S A H0 H1 locs →
      W p l e R s m args below meth c H1 locs (cells + 1) (slots + 12) Q (F0 m (pc + 3) ls (.ref q :: rest))) : W p l e R s m args below meth c H locs cells slots Q (F0 m pc ls (.ref t :: rest)) := by
  have hcI : scr.cls = cI := by
    have g2 : s.vm.findClass ("[" ++ FieldType.int.toString) = some cI := (hK.2 t0 _ ht).2
    exact Option.some.inj (h6.symm.trans g2)
  have hcellE := kq_arrI (cI := cI) h4 h5 hcI
  obtain ⟨c0, t0', f1, f2, f3⟩ := Cond.castable_spec (va_Nw.use (A := args) rfl hcl)
  cases h6.symm.trans f1
  obtain ⟨hns, kS, hkS, compS, hkindS⟩ := h2
  intro T hT X
  have hcellT : T.heap[t]? = some scr := by rw [hT]; exact h1
  obtain ⟨-, kA, hkA, comp, hkind⟩ := State.isArrayOf_alike X.warmed.alike (show s.isArrayOf scr .int from ⟨hns, kS, hkS, compS, hkindS⟩)
  obtain ⟨vm', X', st⟩ := X.cloneArray hexec hown hlink hsame hnat hinst hsel (a := t) (cell := scr) hcellT hns h3 h6 f2 f3
    (fun i v hv => by
      have hk' : T.vm.classes[scr.cls]? = some kA := hkA
      have hi : i < 12 := by rw [← h4]; exact (Array.getElem?_eq_some_iff.mp hv).1
      rw [h5 i hi] at hv
      cases hv
      simp [State.fitsSlot, State.slotType?, hk', hkind, fits])
    (g := F0 m pc ls (.ref t :: rest)) rfl (by rw [hml]) rfl (by rw [hb]; exact hdg) hframes (by show 2 * 0 + _ + 14 ≤ _; omega) hcells (by rw [h4]; exact hslots) (hloader := Vm.clonesLoader_of_array hkS hkindS)
  rw [hcellE, h4] at X'
  generalize hH1 : H.push (vp_cell cI (12, .inl firstV)) = H1
  have z1 : H1.size = H.size + 1 := by rw [← hH1, Array.size_push]
  have e1 : H1[H.size]? = some (vp_cell cI (12, .inl firstV)) := by rw [← hH1, Array.getElem?_push_size]
  have o1 : ∀ q : Nat, q < H.size → H1[q]? = H[q]? := fun q hq => by rw [← hH1, Array.getElem?_push, if_neg (Nat.ne_of_lt hq)]
  have hk : ∀ (k : Nat) (y : Nat × va_E), ws[k]? = some y → H1[y.1]? = H[y.1]? := fun k y hy => o1 y.1 ((hP k y hy).lt)
  obtain ⟨t9, b1, b2⟩ := kk H.size H1 ((hP.kept hk).app (fun k y hy => by
      have hz : k < 1 := (List.getElem?_eq_some_iff.mp hy).1
      rw [show k = 0 by omega] at hy
      cases hy
      exact e1)) (hD.push hP rfl (hA _ hS.1)) ⟨Nat.le_trans hS.1 (by omega), fun y g1 g2 => (o1 y (Nat.lt_of_lt_of_le g1 hS.1)).trans (hS.2.1 y g1 g2), hS.2.2⟩
    ((T.setVm vm').pushCell (vp_cell cI (12, .inl firstV))) (by rw [← hH1, ← hT]; rfl) X'
  refine ⟨t9, st t9 ?_, b2⟩
  rw [hcellE, hT]
  exact b1
end KN
theorem kq_blN {D : va_G} {cl : List vw_C} {wc : va_W} {tc : List (ClassId × FieldType)} {av : List Value} {sz : Nat} : FrameBlind (va_Pc av (fun U => U.heap.size = sz ∧ nw U ∧ va_P D cl wc U.heap ∧ va_K D cl tc U ∧ va_D (fun _ => True) wc ∧ fv_ok U ∧ va_AO "GridConverter$Point" U)) := by
  intro a U g mk q
  obtain ⟨q0, q2, q1, qP, qK, qD, qF, qO⟩ := q
  exact ⟨q0, q2, nw_same (u := U) rfl q1, qP, va_K.moved (u := U) (U := U.calling g mk a) (Vm.Alike.refl U.vm) qK, qD, fv_mv (s := U) (U := U.calling g mk a) (Vm.Alike.refl U.vm) (fun _ _ => rfl) qF, va_AO.moved (u := U) (U := U.calling g mk a) (Vm.Alike.refl U.vm) qO⟩
theorem kq_preN {s : State} {H : Heap} {D : va_G} {cl : List vw_C} {wc : va_W} {tc : List (ClassId × FieldType)} {av : List Value} {A : Nat → Prop} (hn : nw s) (hP : va_P D cl wc H) (hK : va_K D cl tc s) (hD : va_D A wc) (hF : fv_ok s) (hO : va_AO "GridConverter$Point" s) (hh : ∀ q : Nat, q < s.heap.size → H[q]? = s.heap[q]?) :
    PreS s H (va_Pc av (fun U => U.heap.size = H.size ∧ nw U ∧ va_P D cl wc U.heap ∧ va_K D cl tc U ∧ va_D (fun _ => True) wc ∧ fv_ok U ∧ va_AO "GridConverter$Point" U)) av :=
  ⟨kq_blN, fun U hU hW => ⟨rfl, by rw [hU], nw_warm hW hn, by rw [hU]; exact hP, va_K.moved hW.alike hK, hD.weaken (fun _ _ _ _ => trivial), fv_mv hW.alike (by rw [hU]; exact hh) hF, va_AO.moved hW.alike hO⟩⟩
theorem kq_blO {D : va_G} {cl : List vw_C} {wc : va_W} {tc : List (ClassId × FieldType)} {av : List Value} {sz : Nat} : FrameBlind (va_Pc av (fun U => U.heap.size = sz ∧ nw U ∧ va_P D cl wc U.heap ∧ va_K D cl tc U ∧ va_D (fun _ => True) wc ∧ va_AO "GridConverter$Point" U)) := by
  intro a U g mk q
  obtain ⟨q0, q2, q1, qP, qK, qD, qO⟩ := q
  exact ⟨q0, q2, nw_same (u := U) rfl q1, qP, va_K.moved (u := U) (U := U.calling g mk a) (Vm.Alike.refl U.vm) qK, qD, va_AO.moved (u := U) (U := U.calling g mk a) (Vm.Alike.refl U.vm) qO⟩
theorem kq_preO {s : State} {H : Heap} {D : va_G} {cl : List vw_C} {wc : va_W} {tc : List (ClassId × FieldType)} {av : List Value} {A : Nat → Prop} (hn : nw s) (hP : va_P D cl wc H) (hK : va_K D cl tc s) (hD : va_D A wc) (hO : va_AO "GridConverter$Point" s) :
    PreS s H (va_Pc av (fun U => U.heap.size = H.size ∧ nw U ∧ va_P D cl wc U.heap ∧ va_K D cl tc U ∧ va_D (fun _ => True) wc ∧ va_AO "GridConverter$Point" U)) av :=
  ⟨kq_blO, fun U hU hW => ⟨rfl, by rw [hU], nw_warm hW hn, by rw [hU]; exact hP, va_K.moved hW.alike hK, hD.weaken (fun _ _ _ _ => trivial), va_AO.moved hW.alike hO⟩⟩
