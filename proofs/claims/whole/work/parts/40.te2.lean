def te_up : List String := ["java/lang/RuntimeException", "java/lang/Exception"]
def te_S1 : Term := .static "java/lang/Throwable" "UNASSIGNED_STACK" "[Ljava/lang/StackTraceElement;"
def te_S2 : Term := .static "java/lang/Throwable" "SUPPRESSED_SENTINEL" "Ljava/util/List;"
def te_stL : List Cond := [.laysStatic "java/lang/Throwable" "UNASSIGNED_STACK" "[Ljava/lang/StackTraceElement;", .laysStatic "java/lang/Throwable" "SUPPRESSED_SENTINEL" "Ljava/util/List;", .isRef te_S1, .isRef te_S2]
def te_is : Cond → Bool
  | .stringRef o _ _ => o == "GridConverter"
  | _ => false
def te_strL : List Cond := lw_tbl.filter te_is
def XI : String := "java/lang/IndexOutOfBoundsException"
def XA : String := "java/lang/IllegalArgumentException"
def XS : String := "java/lang/IllegalStateException"
def leastV (j : Nat) : Int32 := ([0, 1, 1, 0, 0, 40000, 40000, 40000, 0, 0, 0, 1] : List Int32).getD j 0
def greatV (j : Nat) : Int32 := ([20000, 2000, 500, 20000, 20000, 70000, 70000, 70000, 2000, 1, 100, 200] : List Int32).getD j 0
def firstV (j : Nat) : Int32 := ([10000, 100, 20, 9000, 11000, 49500, 50500, 50200, 0, 0, 0, 20] : List Int32).getD j 0
def sg_one (n : String) (f : Nat → Int32) (U : State) : Prop := ∃ t : Nat, va_Z "GridConverter" n "[I" (.ref t) (fun _ => False) U U.heap ∧ va_X t 12 f U U.heap
def te_Ok (U : State) : Prop := (∀ w ∈ te_stL, w.before #[] U = true) ∧ (∀ w ∈ te_strL, w.before #[] U = true) ∧ (va_Nc XA XI U ∧ va_Nc XS XI U ∧ va_Nc XS XA U) ∧ (∃ d, U.vm.findClass "GridConverter" = some d) ∧ sg_one "LEAST_VALUES" leastV U ∧ sg_one "GREATEST_VALUES" greatV U ∧ sg_one "FIRST_VALUES" firstV U
theorem te_lays {C n d : String} {s U : State} (hal : s.vm.Alike U.vm) (hh : ∀ q : Nat, q < s.heap.size → U.heap[q]? = s.heap[q]?) (h : (Cond.laysStatic C n d).before #[] s = true) : (Cond.laysStatic C n d).before #[] U = true := by
  obtain ⟨c, k, i, f, a, cell, hc, hi, hst, ha, hcell, hs, hcls, hlt, hty⟩ := Cond.laysStatic_spec h
  obtain ⟨k', hi', he⟩ := State.fieldFound?_setVm hal hi
  have hi2 : U.fieldFound? C n d = some (c, k', i, f) := hi'
  have hc' : U.vm.findClass C = some c := by rw [hal.findClass]; exact hc
  have hcell' : U.heap[a]? = some cell := by rw [hh a (Array.getElem?_eq_some_iff.mp hcell).1]; exact hcell
  have ha' : k'.statics = some a := by rw [he]; exact ha
  have hty' : k'.staticTypes[f.slot]? = some f.type := by rw [he]; exact hty
  simp [Cond.before, Cond.holds, Cond.value, hc', hi2, ha', hcell', hst, hs, hcls, hlt, hty']
theorem te_ref {C n d : String} {s U : State} (hal : s.vm.Alike U.vm) (hh : ∀ q : Nat, q < s.heap.size → U.heap[q]? = s.heap[q]?) (hl : (Cond.laysStatic C n d).before #[] s = true) (h : (Cond.isRef (.static C n d)).before #[] s = true) : (Cond.isRef (.static C n d)).before #[] U = true := by
  cases hv : (Term.static C n d).eval #[] s none [] s with
  | none => simp [Cond.before, Cond.holds, Cond.value, hv] at h
  | some v =>
    obtain ⟨c, k, i, f, a, cell, hc, hi, hst, ha, hcell, hs, hcls, hlt, hty⟩ := Cond.laysStatic_spec hl
    obtain ⟨hst', a', cell', ha', hcell', -, hslot⟩ := Term.static_spec hi hv
    cases ha.symm.trans ha'
    cases hcell.symm.trans hcell'
    obtain ⟨k', hi', he⟩ := State.fieldFound?_setVm hal hi
    have hi2 : U.fieldFound? C n d = some (c, k', i, f) := hi'
    have hc2 : U.heap[a]? = some cell := by rw [hh a (Array.getElem?_eq_some_iff.mp hcell).1]; exact hcell
    have ha2 : k'.statics = some a := by rw [he]; exact ha
    have hvU : (Term.static C n d).eval #[] U none [] U = some v := by
      simp [Term.eval, State.fieldNamed?, hi2, hst, ha2, hc2, hs, hslot]
    simp only [Cond.before, Cond.holds, Cond.value, hv] at h
    simp only [Cond.before, Cond.holds, Cond.value, hvU]
    exact h
theorem sg_mv {n : String} {f : Nat → Int32} {s U : State} (hal : s.vm.Alike U.vm) (hh : ∀ q : Nat, q < s.heap.size → U.heap[q]? = s.heap[q]?) (h : sg_one n f s) : sg_one n f U := by
  obtain ⟨t, hZ, scr, h1, h2, h3⟩ := h
  exact ⟨t, va_Z.moved hal (hZ.kept (fun a ha _ => hh a ha)), scr, by rw [hh t (Array.getElem?_eq_some_iff.mp h1).1]; exact h1, State.isArrayOf_alike hal h2, h3⟩
theorem te_mv {s U : State} (hW : s.WarmedH U.vm) (hh : ∀ q : Nat, q < s.heap.size → U.heap[q]? = s.heap[q]?) (h : te_Ok s) : te_Ok U := by
  obtain ⟨h1, h2, ⟨n1, n2, n3⟩, ⟨d, hd⟩, g1, g2, g3⟩ := h
  have hal := hW.alike
  refine ⟨?_, ?_, ⟨va_Nc.moved hal n1, va_Nc.moved hal n2, va_Nc.moved hal n3⟩, ⟨d, by rw [hal.findClass]; exact hd⟩, sg_mv hal hh g1, sg_mv hal hh g2, sg_mv hal hh g3⟩
  · have a1 := h1 (.laysStatic "java/lang/Throwable" "UNASSIGNED_STACK" "[Ljava/lang/StackTraceElement;") (by simp [te_stL])
    have a2 := h1 (.laysStatic "java/lang/Throwable" "SUPPRESSED_SENTINEL" "Ljava/util/List;") (by simp [te_stL])
    have a3 := h1 (.isRef te_S1) (by simp [te_stL])
    have a4 := h1 (.isRef te_S2) (by simp [te_stL])
    intro w hw
    simp only [te_stL, List.mem_cons, List.not_mem_nil, or_false] at hw
    rcases hw with rfl | rfl | rfl | rfl
    · exact te_lays hal hh a1
    · exact te_lays hal hh a2
    · exact te_ref hal hh a1 a3
    · exact te_ref hal hh a2 a4
  · intro w hw
    have h3 := h2 w hw
    have h4 := (List.mem_filter.mp hw).2
    cases w <;> first | (simp [te_is] at h4; done) | skip
    rename_i o k tx
    simp only [te_is, beq_iff_eq] at h4
    subst h4
    obtain ⟨-, -, -, sa, -, -, -, -, -, hev⟩ := Cond.stringRef_spec hd h3
    exact (vk_R.warm hW (vk_R.of (A := #[]) h3 hev)).1
theorem te_same {u U : State} (hv : u.vm = U.vm) (hh : u.heap = U.heap) (h : te_Ok u) : te_Ok U := by
  have e : ∀ w : Cond, w.before #[] u = true → w ∈ te_stL → w.before #[] U = true := by
    intro w hw hm
    simp only [te_stL, List.mem_cons, List.not_mem_nil, or_false] at hm
    have hal : u.vm.Alike U.vm := by rw [hv]; exact Vm.Alike.refl _
    have hq : ∀ q : Nat, q < u.heap.size → U.heap[q]? = u.heap[q]? := fun q _ => by rw [hh]
    have a1 := h.1 (.laysStatic "java/lang/Throwable" "UNASSIGNED_STACK" "[Ljava/lang/StackTraceElement;") (by simp [te_stL])
    have a2 := h.1 (.laysStatic "java/lang/Throwable" "SUPPRESSED_SENTINEL" "Ljava/util/List;") (by simp [te_stL])
    rcases hm with rfl | rfl | rfl | rfl
    · exact te_lays hal hq hw
    · exact te_lays hal hq hw
    · exact te_ref hal hq a1 hw
    · exact te_ref hal hq a2 hw
  obtain ⟨h1, h2, ⟨n1, n2, n3⟩, ⟨d, hd⟩, g1, g2, g3⟩ := h
  have hal : u.vm.Alike U.vm := by rw [hv]; exact Vm.Alike.refl _
  have hq : ∀ q : Nat, q < u.heap.size → U.heap[q]? = u.heap[q]? := fun q _ => by rw [hh]
  refine ⟨fun w hw => e w (h1 w hw) hw, ?_, ⟨va_Nc.moved hal n1, va_Nc.moved hal n2, va_Nc.moved hal n3⟩, ⟨d, by rw [← hv]; exact hd⟩, sg_mv hal hq g1, sg_mv hal hq g2, sg_mv hal hq g3⟩
  intro w hw
  have h3 := h2 w hw
  have h4 := (List.mem_filter.mp hw).2
  cases w <;> first | (simp [te_is] at h4; done) | skip
  rename_i o k tx
  simp only [te_is, beq_iff_eq] at h4
  subst h4
  obtain ⟨-, -, -, sa, -, -, -, -, -, hev⟩ := Cond.stringRef_spec hd h3
  exact (vk_R.same hv.symm (vk_R.of (A := #[]) h3 hev)).1
theorem te_any {w : Cond} (hw : w ∈ te_stL) {A : Array Value} {U : State} (h : w.before #[] U = true) : w.before A U = true := by
  simp only [te_stL, List.mem_cons, List.not_mem_nil, or_false] at hw
  rcases hw with rfl | rfl | rfl | rfl <;> exact h
theorem te_str {o tx : String} {k : Nat} {A : Array Value} {U : State} (hT : te_Ok U) (hw : Cond.stringRef o k tx ∈ te_strL) : (Cond.stringRef o k tx).before A U = true := hT.2.1 _ hw
theorem te_ow {args : Array Value} {s : State} (ht : ∀ w ∈ gw, w.before args s = true) (hN : nw s) (hT : te_Ok s) {own X : String} {ic : Nat} (h : (Bundle.ownAtoms own ic X te_up).all (fun w => decide (w ∈ gw) || decide (w ∈ nwL) || decide (w ∈ te_stL)) = true) : ∀ a ∈ Bundle.ownAtoms own ic X te_up, a.before args s = true := by
  intro a ha
  have h1 := List.all_eq_true.mp h a ha
  simp only [Bool.or_eq_true, decide_eq_true_eq] at h1
  rcases h1 with (h1 | h1) | h1
  · exact ht a h1
  · exact nw_use hN h1
  · exact te_any h1 (hT.1 a h1)
set_option maxRecDepth 100000 in
theorem te_owI : (Bundle.ownAtoms "GridConverter" 71 XI te_up).all (fun w => decide (w ∈ gw) || decide (w ∈ nwL) || decide (w ∈ te_stL)) = true := by decide +kernel
set_option maxRecDepth 100000 in
theorem te_owA : (Bundle.ownAtoms "GridConverter" 84 XA te_up).all (fun w => decide (w ∈ gw) || decide (w ∈ nwL) || decide (w ∈ te_stL)) = true := by decide +kernel
set_option maxRecDepth 100000 in
theorem te_owS : (Bundle.ownAtoms "GridConverter" 114 XS te_up).all (fun w => decide (w ∈ gw) || decide (w ∈ nwL) || decide (w ∈ te_stL)) = true := by decide +kernel
theorem te_fitI : Bundle.fit XI = true := by decide +kernel
theorem te_fitA : Bundle.fit XA = true := by decide +kernel
theorem te_fitS : Bundle.fit XS = true := by decide +kernel
theorem te_fitU : ∀ n ∈ te_up, Bundle.fit n = true := by decide +kernel
theorem sg_lt {t L : Nat} {f : Nat → Int32} {U : State} (h : va_X t L f U U.heap) : t < U.heap.size := by
  obtain ⟨scr, h1, -⟩ := h
  exact (Array.getElem?_eq_some_iff.mp h1).1
section KT
variable {s : State} {H : Heap} {D : va_G} {cl : List vw_C} {wc : va_W} {tc : List (ClassId × FieldType)}
theorem kq_blT {av : List Value} : FrameBlind (va_Pc av (fun U => nw U ∧ va_P D cl wc U.heap ∧ va_K D cl tc U ∧ te_Ok U)) := by
  intro a U g mk q
  obtain ⟨q0, q1, qP, qK, qT⟩ := q
  exact ⟨q0, nw_same (u := U) rfl q1, qP, va_K.moved (u := U) (U := U.calling g mk a) (Vm.Alike.refl U.vm) qK, te_same (u := U) rfl rfl qT⟩
theorem kq_preTV {As : List Value} {b : Nat} {C : String} {T : u_T} {N ci : Nat} {fs : List Value} (hn : nw s) (hP : va_P D cl wc H) (hK : va_K D cl tc s) (hT : te_Ok s) (hh : ∀ q : Nat, q < s.heap.size → H[q]? = s.heap[q]?) (q0 : Nat) (he : wc[q0]? = some (b, .inr (ci, fs))) (hc : cl[ci]? = some (C, T, N)) :
    PreV s H C b (va_Pc (.ref b :: As) (fun U => nw U ∧ va_P D cl wc U.heap ∧ va_K D cl tc U ∧ te_Ok U)) As :=
  ⟨kq_blT, va_recv hK hP hc he, fun U hU hW => ⟨rfl, nw_warm hW hn, by rw [hU]; exact hP, va_K.moved hW.alike hK, te_mv hW (by rw [hU]; exact hh) hT⟩⟩
theorem kq_blMT {av : List Value} {sz : Nat} : FrameBlind (va_Pc av (fun U => U.heap.size = sz ∧ nw U ∧ va_P D cl wc U.heap ∧ va_K D cl tc U ∧ va_D (fun _ => True) wc ∧ te_Ok U)) := by
  intro a U g mk q
  obtain ⟨q0, q2, q1, qP, qK, qD, qT⟩ := q
  exact ⟨q0, q2, nw_same (u := U) rfl q1, qP, va_K.moved (u := U) (U := U.calling g mk a) (Vm.Alike.refl U.vm) qK, qD, te_same (u := U) rfl rfl qT⟩
theorem kq_preMVT {As : List Value} {b : Nat} {C : String} {T : u_T} {N ci : Nat} {fs : List Value} {A : Nat → Prop} (hn : nw s) (hP : va_P D cl wc H) (hK : va_K D cl tc s) (hD : va_D A wc) (hT : te_Ok s) (hh : ∀ q : Nat, q < s.heap.size → H[q]? = s.heap[q]?) (q0 : Nat) (he : wc[q0]? = some (b, .inr (ci, fs))) (hc : cl[ci]? = some (C, T, N)) :
    PreV s H C b (va_Pc (.ref b :: As) (fun U => U.heap.size = H.size ∧ nw U ∧ va_P D cl wc U.heap ∧ va_K D cl tc U ∧ va_D (fun _ => True) wc ∧ te_Ok U)) As :=
  ⟨kq_blMT, va_recv hK hP hc he, fun U hU hW => ⟨rfl, by rw [hU], nw_warm hW hn, by rw [hU]; exact hP, va_K.moved hW.alike hK, hD.weaken (fun _ _ _ _ => trivial), te_mv hW (by rw [hU]; exact hh) hT⟩⟩
theorem kq_preMST {av : List Value} {A : Nat → Prop} (hn : nw s) (hP : va_P D cl wc H) (hK : va_K D cl tc s) (hD : va_D A wc) (hT : te_Ok s) (hh : ∀ q : Nat, q < s.heap.size → H[q]? = s.heap[q]?) :
    PreS s H (va_Pc av (fun U => U.heap.size = H.size ∧ nw U ∧ va_P D cl wc U.heap ∧ va_K D cl tc U ∧ va_D (fun _ => True) wc ∧ te_Ok U)) av :=
  ⟨kq_blMT, fun U hU hW => ⟨rfl, by rw [hU], nw_warm hW hn, by rw [hU]; exact hP, va_K.moved hW.alike hK, hD.weaken (fun _ _ _ _ => trivial), te_mv hW (by rw [hU]; exact hh) hT⟩⟩
end KT
theorem wt_357 : (Jvm.Cond.stringRef "GridConverter" (69 : Nat) "no such setting") ∈ te_strL := List.mem_filter.mpr ⟨List.mem_append_right _ (List.mem_of_getElem? (i := 357) (by decide +kernel)), rfl⟩
theorem wt_397 : (Jvm.Cond.stringRef "GridConverter" (82 : Nat) "no value of this setting") ∈ te_strL := List.mem_filter.mpr ⟨List.mem_append_right _ (List.mem_of_getElem? (i := 397) (by decide +kernel)), rfl⟩
theorem wt_417 : (Jvm.Cond.stringRef "GridConverter" (240 : Nat) "on is wished") ∈ te_strL := List.mem_filter.mpr ⟨List.mem_append_right _ (List.mem_of_getElem? (i := 417) (by decide +kernel)), rfl⟩
theorem wt_435 : (Jvm.Cond.stringRef "GridConverter" (242 : Nat) "no such point") ∈ te_strL := List.mem_filter.mpr ⟨List.mem_append_right _ (List.mem_of_getElem? (i := 435) (by decide +kernel)), rfl⟩
theorem wt_437 : (Jvm.Cond.stringRef "GridConverter" (245 : Nat) "no such kind, level or time") ∈ te_strL := List.mem_filter.mpr ⟨List.mem_append_right _ (List.mem_of_getElem? (i := 437) (by decide +kernel)), rfl⟩
theorem wt_456 : (Jvm.Cond.stringRef "GridConverter" (112 : Nat) "not checked, or locked") ∈ te_strL := List.mem_filter.mpr ⟨List.mem_append_right _ (List.mem_of_getElem? (i := 456) (by decide +kernel)), rfl⟩
theorem wt_464 : (Jvm.Cond.stringRef "GridConverter" (132 : Nat) "no such power") ∈ te_strL := List.mem_filter.mpr ⟨List.mem_append_right _ (List.mem_of_getElem? (i := 464) (by decide +kernel)), rfl⟩
theorem wt_475 : (Jvm.Cond.stringRef "GridConverter" (144 : Nat) "no such sample") ∈ te_strL := List.mem_filter.mpr ⟨List.mem_append_right _ (List.mem_of_getElem? (i := 475) (by decide +kernel)), rfl⟩
theorem wt_601 : (Jvm.Cond.stringRef "GridConverter" (159 : Nat) "no such grid") ∈ te_strL := List.mem_filter.mpr ⟨List.mem_append_right _ (List.mem_of_getElem? (i := 601) (by decide +kernel)), rfl⟩
theorem wt_615 : (Jvm.Cond.stringRef "GridConverter" (164 : Nat) "no such number of steps") ∈ te_strL := List.mem_filter.mpr ⟨List.mem_append_right _ (List.mem_of_getElem? (i := 615) (by decide +kernel)), rfl⟩
theorem wt_616 : (Jvm.Cond.stringRef "GridConverter" (169 : Nat) "no grid") ∈ te_strL := List.mem_filter.mpr ⟨List.mem_append_right _ (List.mem_of_getElem? (i := 616) (by decide +kernel)), rfl⟩
theorem wt_635 : (Jvm.Cond.stringRef "GridConverter" (198 : Nat) "no such signal") ∈ te_strL := List.mem_filter.mpr ⟨List.mem_append_right _ (List.mem_of_getElem? (i := 635) (by decide +kernel)), rfl⟩
theorem wt_646 : (Jvm.Cond.stringRef "GridConverter" (216 : Nat) "no such state") ∈ te_strL := List.mem_filter.mpr ⟨List.mem_append_right _ (List.mem_of_getElem? (i := 646) (by decide +kernel)), rfl⟩
theorem wt_654 : (Jvm.Cond.stringRef "GridConverter" (218 : Nat) "no such curve") ∈ te_strL := List.mem_filter.mpr ⟨List.mem_append_right _ (List.mem_of_getElem? (i := 654) (by decide +kernel)), rfl⟩
theorem wt_668 : (Jvm.Cond.stringRef "GridConverter" (232 : Nat) "no such event") ∈ te_strL := List.mem_filter.mpr ⟨List.mem_append_right _ (List.mem_of_getElem? (i := 668) (by decide +kernel)), rfl⟩
