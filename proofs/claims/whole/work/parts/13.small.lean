noncomputable def o_countQuiet_ko (ko : Nat → Int32) (ia : Int32) : Nat → Int32 := if ia = 0 then uv ko 5 0 else uv ko 5 (r_min ((ko 5) + 1) 1000)
set_option maxHeartbeats 4000000 in
set_option maxRecDepth 100000 in
theorem c_countQuiet (l : Launch) (dC : Nat → ClassId) (dI : Nat → Nat → Nat) (b0 : Nat) (ko : Nat → Int32) (ia : Int32) (sz : Nat) : Met l y_Ko_countQuiet (wz y_Ko_countQuiet b_Ko_countQuiet 2 none) { frames := 1, cells := 0, slots := 0, locals := 21 } (va_Pc [.ref b0, .int ia] (fun U => U.heap.size = sz ∧ nw U ∧ va_P (dC, dI) vwCl [(b0, .inr (4, [.int (ko 0), .int (ko 1), .int (ko 2), .int (ko 3), .int (ko 4), .int (ko 5)]))] U.heap ∧ va_K (dC, dI) vwCl [] U ∧ va_D (fun _ => True) [(b0, .inr (4, [.int (ko 0), .int (ko 1), .int (ko 2), .int (ko 3), .int (ko 4), .int (ko 5)]))])) (va_Qv (fun _ : Unit => True) (fun _ t => va_P (dC, dI) vwCl [(b0, .inr (4, [.int ((o_countQuiet_ko ko ia) 0), .int ((o_countQuiet_ko ko ia) 1), .int ((o_countQuiet_ko ko ia) 2), .int ((o_countQuiet_ko ko ia) 3), .int ((o_countQuiet_ko ko ia) 4), .int ((o_countQuiet_ko ko ia) 5)]))] t.heap ∧ va_K (dC, dI) vwCl [] t ∧ va_D (va_A [(b0, .inr (4, [.int (ko 0), .int (ko 1), .int (ko 2), .int (ko 3), .int (ko 4), .int (ko 5)]))] sz) [(b0, .inr (4, [.int ((o_countQuiet_ko ko ia) 0), .int ((o_countQuiet_ko ko ia) 1), .int ((o_countQuiet_ko ko ia) 2), .int ((o_countQuiet_ko ko ia) 3), .int ((o_countQuiet_ko ko ia) 4), .int ((o_countQuiet_ko ko ia) 5)]))]) (va_A [(b0, .inr (4, [.int (ko 0), .int (ko 1), .int (ko 2), .int (ko 3), .int (ko 4), .int (ko 5)]))] sz)) 0 0 (va_A [(b0, .inr (4, [.int (ko 0), .int (ko 1), .int (ko 2), .int (ko 3), .int (ko 4), .int (ko 5)]))] sz) := by
  refine Met.ofW (cc := b_Ko_countQuiet) (maxL := 2) (ret := none) (by decide) rfl ?_
  intro p e s m args below meth c s₁ B hml hv
  obtain ⟨rfl, hsz, hN, hP, hK, hD0⟩ := hv
  have hx := B.exec
  have hb := B.bytes
  have hr := B.returns
  have hts := fun w h => atoms_spec (ws := (wz y_Ko_countQuiet b_Ko_countQuiet 2 none)) B.pre w (List.mem_cons_of_mem _ h)
  have hown : s.vm.findClass R_Ko = some m.cls := findClass_of_methodNamed B.named
  have hlocks := B.notSynchronized
  subst hsz
  have hD := hD0.self (sz := s.heap.size)
  generalize hAe : va_A [(b0, .inr (4, [.int (ko 0), .int (ko 1), .int (ko 2), .int (ko 3), .int (ko 4), .int (ko 5)]))] s.heap.size = A at hD ⊢
  have hA : ∀ q : Nat, s.heap.size ≤ q → A q := fun q h => by rw [← hAe]; exact Or.inr h
  have hS : va_S A s.heap s.heap [] := va_S.rf
  have hl := lv_entry ([.ref b0, .int ia]) (n := 2) (Nat.le_of_ble_eq_true rfl)
  rw [lg_entry_eq]
  generalize (lg_sl ([.ref b0, .int ia]) ++ List.replicate (2 - (lg_sl ([.ref b0, .int ia])).length) Slot.unset).toArray = ls at hl ⊢
  have hl : lv_has ls 2 [(0, .ref b0), (1, .int ia)] := hl
  refine lv_aload_n hx hb d_Ko_countQuiet_0 rfl (lv_at hl 0 rfl) ?_
  refine lv_iload_n hx hb d_Ko_countQuiet_1 rfl (lv_at hl 1 rfl) ?_
  refine lv_if_eq hx hb (tgt := 20) d_Ko_countQuiet_2 rfl (fun h1 => ?_) (fun h1 => ?_)
  · refine lv_iconst (v := 0) hx hb d_Ko_countQuiet_20 (by decide) ?_
    refine va_put (D := (dC, dI)) (ci := 4) (v := .int 0) (ty := .int) (C := R_Ko) (T := T_Ko) (N := 6) hx hb hts uin_Ko t_Ko t_Ko_ok n_Ko hown hK hP hD hS 0 rfl rfl 5 (by decide) (hts _ wd_147) (fun _ h9 => h9) rfl (by decide +kernel) rfl rfl (Nat.le_of_ble_eq_true rfl) d_Ko_countQuiet_21 (fun H locs hP hD hS => ?_)
    have hP : va_P (dC, dI) vwCl [(b0, .inr (4, [.int (ko 0), .int (ko 1), .int (ko 2), .int (ko 3), .int (ko 4), .int 0]))] H := hP
    have hD : va_D A [(b0, .inr (4, [.int (ko 0), .int (ko 1), .int (ko 2), .int (ko 3), .int (ko 4), .int 0]))] := hD
    have hP9 := hP.sub (ws' := [(b0, .inr (4, [.int (ko 0), .int (ko 1), .int (ko 2), .int (ko 3), .int (ko 4), .int 0]))]) [0] rfl
    have hD9 := hD.sub (ws' := [(b0, .inr (4, [.int (ko 0), .int (ko 1), .int (ko 2), .int (ko 3), .int (ko 4), .int 0]))]) [0] (by decide) rfl
    have E0 : o_countQuiet_ko ko ia = uv ko 5 0 := by unfold o_countQuiet_ko; rw [if_pos h1]
    exact W.vret hx hb hr (fun t ht hW => ⟨⟨(), rfl, trivial, by rw [ht, E0]; exact hP9, va_K.moved hW.alike hK, by rw [E0]; exact hD9⟩, hS.F ht⟩) hS.2.2 d_Ko_countQuiet_24
  · refine lv_aload_n hx hb d_Ko_countQuiet_5 rfl (lv_at hl 0 rfl) ?_
    refine va_get (D := (dC, dI)) (ci := 4) (v := .int (ko 5)) (C := R_Ko) (T := T_Ko) (N := 6) hx hb hts uin_Ko hown hK hP 0 rfl rfl 5 (by decide) (hts _ wd_147) (fun _ h9 => h9) rfl d_Ko_countQuiet_6 ?_
    refine lv_iconst (v := 1) hx hb d_Ko_countQuiet_9 (by decide) ?_
    refine lv_iadd hx hb d_Ko_countQuiet_10 ?_
    refine lv_sipush (v := 1000) hx hb d_Ko_countQuiet_11 (by decide) ?_
    refine kq_R (r := .int (r_min ((ko 5) + 1) 1000)) (va_runS (As := [.int ((ko 5) + 1), .int 1000]) (rest := [.ref b0]) ⟨hx, hb, hml, hown, hts⟩ (c_min l dC dI ((ko 5) + 1) 1000) (kw_S (n := 2) hts wd_556 wd_505 wd_17 wd_506 rfl rfl (by decide +kernel) ⟨Nat.le_of_ble_eq_true rfl, Nat.le_of_ble_eq_true rfl⟩) (kq_preS hN (hP.sub (ws' := []) [] rfl) (hK.sub (tys' := []) [] rfl)) rfl rfl hl.1 rfl (lv_room (Nat.le_of_ble_eq_true rfl)) d_Ko_countQuiet_14 ⟨Nat.le_of_ble_eq_true rfl, Nat.le_of_ble_eq_true rfl⟩) ?_
    refine lv_goto (tgt := 21) hx hb d_Ko_countQuiet_17 rfl ?_
    refine va_put (D := (dC, dI)) (ci := 4) (v := .int (r_min ((ko 5) + 1) 1000)) (ty := .int) (C := R_Ko) (T := T_Ko) (N := 6) hx hb hts uin_Ko t_Ko t_Ko_ok n_Ko hown hK hP hD hS 0 rfl rfl 5 (by decide) (hts _ wd_147) (fun _ h9 => h9) rfl (by decide +kernel) rfl rfl (Nat.le_of_ble_eq_true rfl) d_Ko_countQuiet_21 (fun H locs hP hD hS => ?_)
    have hP : va_P (dC, dI) vwCl [(b0, .inr (4, [.int (ko 0), .int (ko 1), .int (ko 2), .int (ko 3), .int (ko 4), .int (r_min ((ko 5) + 1) 1000)]))] H := hP
    have hD : va_D A [(b0, .inr (4, [.int (ko 0), .int (ko 1), .int (ko 2), .int (ko 3), .int (ko 4), .int (r_min ((ko 5) + 1) 1000)]))] := hD
    have hP9 := hP.sub (ws' := [(b0, .inr (4, [.int (ko 0), .int (ko 1), .int (ko 2), .int (ko 3), .int (ko 4), .int (r_min ((ko 5) + 1) 1000)]))]) [0] rfl
    have hD9 := hD.sub (ws' := [(b0, .inr (4, [.int (ko 0), .int (ko 1), .int (ko 2), .int (ko 3), .int (ko 4), .int (r_min ((ko 5) + 1) 1000)]))]) [0] (by decide) rfl
    have E0 : o_countQuiet_ko ko ia = uv ko 5 (r_min ((ko 5) + 1) 1000) := by unfold o_countQuiet_ko; rw [if_neg h1]
    exact W.vret hx hb hr (fun t ht hW => ⟨⟨(), rfl, trivial, by rw [ht, E0]; exact hP9, va_K.moved hW.alike hK, by rw [E0]; exact hD9⟩, hS.F ht⟩) hS.2.2 d_Ko_countQuiet_24
noncomputable def r_mayClose (ko : Nat → Int32) (ia : Int32) : Int32 := if (ko 0) = 0 then (if (ko 2) = 0 then 0 else (if (ko 3) = 0 then (if (ko 5) < ia then 0 else 1) else 0)) else 0
theorem z_mayClose (ko : Nat → Int32) (ia : Int32) : narrow .boolean (.int (r_mayClose ko ia)) = .int (r_mayClose ko ia) ∧ fits .boolean (.int (r_mayClose ko ia)) = true := by
  unfold r_mayClose
  (repeat' split) <;> first | exact ⟨by decide, by decide⟩
set_option maxHeartbeats 4000000 in
set_option maxRecDepth 100000 in
theorem c_mayClose (l : Launch) (dC : Nat → ClassId) (dI : Nat → Nat → Nat) (b0 : Nat) (ko : Nat → Int32) (ia : Int32) : Met l y_Ko_mayClose (wz y_Ko_mayClose b_Ko_mayClose 2 (some .boolean)) { frames := 0, cells := 0, slots := 0, locals := 0 } (va_Pc [.ref b0, .int ia] (fun U => nw U ∧ va_P (dC, dI) vwCl [(b0, .inr (4, [.int (ko 0), .int (ko 1), .int (ko 2), .int (ko 3), .int (ko 4), .int (ko 5)]))] U.heap ∧ va_K (dC, dI) vwCl [] U)) (k2_QcV (.int (r_mayClose ko ia))) 0 0 (fun _ => False) := by
  refine Met.ofW (cc := b_Ko_mayClose) (maxL := 2) (ret := (some .boolean)) (by decide) rfl ?_
  intro p e s m args below meth c s₁ B hml hv
  obtain ⟨rfl, hN, hP, hK⟩ := hv
  have hx := B.exec
  have hb := B.bytes
  have hr := B.returns
  have hts := fun w h => atoms_spec (ws := (wz y_Ko_mayClose b_Ko_mayClose 2 (some .boolean))) B.pre w (List.mem_cons_of_mem _ h)
  have hown : s.vm.findClass R_Ko = some m.cls := findClass_of_methodNamed B.named
  have hlocks := B.notSynchronized
  have hl := lv_entry ([.ref b0, .int ia]) (n := 2) (Nat.le_of_ble_eq_true rfl)
  rw [lg_entry_eq]
  generalize (lg_sl ([.ref b0, .int ia]) ++ List.replicate (2 - (lg_sl ([.ref b0, .int ia])).length) Slot.unset).toArray = ls at hl ⊢
  have hl : lv_has ls 2 [(0, .ref b0), (1, .int ia)] := hl
  refine lv_aload_n hx hb d_Ko_mayClose_0 rfl (lv_at hl 0 rfl) ?_
  refine va_get (D := (dC, dI)) (ci := 4) (v := .int (ko 0)) (C := R_Ko) (T := T_Ko) (N := 6) hx hb hts uin_Ko hown hK hP 0 rfl rfl 0 (by decide) (hts _ wd_137) (fun _ h9 => h9) rfl d_Ko_mayClose_1 ?_
  refine lv_if_ne hx hb (tgt := 33) d_Ko_mayClose_4 rfl (fun h1 => ?_) (fun h1 => ?_)
  · refine lv_iconst (v := 0) hx hb d_Ko_mayClose_33 (by decide) ?_
    exact W.zret (v := 0) hx hb hr (by decide) (fun t ht hW => ⟨by rw [(show r_mayClose ko ia = 0 from by unfold r_mayClose; rw [if_neg h1])], ht⟩) (fun q hq => by cases hq) d_Ko_mayClose_34
  · refine lv_aload_n hx hb d_Ko_mayClose_7 rfl (lv_at hl 0 rfl) ?_
    refine va_get (D := (dC, dI)) (ci := 4) (v := .int (ko 2)) (C := R_Ko) (T := T_Ko) (N := 6) hx hb hts uin_Ko hown hK hP 0 rfl rfl 2 (by decide) (hts _ wd_141) (fun _ h9 => h9) rfl d_Ko_mayClose_8 ?_
    refine lv_if_eq hx hb (tgt := 33) d_Ko_mayClose_11 rfl (fun h2 => ?_) (fun h2 => ?_)
    · refine lv_iconst (v := 0) hx hb d_Ko_mayClose_33 (by decide) ?_
      exact W.zret (v := 0) hx hb hr (by decide) (fun t ht hW => ⟨by rw [(show r_mayClose ko ia = 0 from by unfold r_mayClose; rw [if_pos h1, if_pos h2])], ht⟩) (fun q hq => by cases hq) d_Ko_mayClose_34
    · refine lv_aload_n hx hb d_Ko_mayClose_14 rfl (lv_at hl 0 rfl) ?_
      refine va_get (D := (dC, dI)) (ci := 4) (v := .int (ko 3)) (C := R_Ko) (T := T_Ko) (N := 6) hx hb hts uin_Ko hown hK hP 0 rfl rfl 3 (by decide) (hts _ wd_143) (fun _ h9 => h9) rfl d_Ko_mayClose_15 ?_
      refine lv_if_ne hx hb (tgt := 33) d_Ko_mayClose_18 rfl (fun h3 => ?_) (fun h3 => ?_)
      · refine lv_iconst (v := 0) hx hb d_Ko_mayClose_33 (by decide) ?_
        exact W.zret (v := 0) hx hb hr (by decide) (fun t ht hW => ⟨by rw [(show r_mayClose ko ia = 0 from by unfold r_mayClose; rw [if_pos h1, if_neg h2, if_neg h3])], ht⟩) (fun q hq => by cases hq) d_Ko_mayClose_34
      · refine lv_aload_n hx hb d_Ko_mayClose_21 rfl (lv_at hl 0 rfl) ?_
        refine va_get (D := (dC, dI)) (ci := 4) (v := .int (ko 5)) (C := R_Ko) (T := T_Ko) (N := 6) hx hb hts uin_Ko hown hK hP 0 rfl rfl 5 (by decide) (hts _ wd_147) (fun _ h9 => h9) rfl d_Ko_mayClose_22 ?_
        refine lv_iload_n hx hb d_Ko_mayClose_25 rfl (lv_at hl 1 rfl) ?_
        refine lv_icmp_lt hx hb (tgt := 33) d_Ko_mayClose_26 rfl (fun h4 => ?_) (fun h4 => ?_)
        · refine lv_iconst (v := 0) hx hb d_Ko_mayClose_33 (by decide) ?_
          exact W.zret (v := 0) hx hb hr (by decide) (fun t ht hW => ⟨by rw [(show r_mayClose ko ia = 0 from by unfold r_mayClose; rw [if_pos h1, if_neg h2, if_pos h3, if_pos h4])], ht⟩) (fun q hq => by cases hq) d_Ko_mayClose_34
        · refine lv_iconst (v := 1) hx hb d_Ko_mayClose_29 (by decide) ?_
          refine lv_goto (tgt := 34) hx hb d_Ko_mayClose_30 rfl ?_
          exact W.zret (v := 1) hx hb hr (by decide) (fun t ht hW => ⟨by rw [(show r_mayClose ko ia = 1 from by unfold r_mayClose; rw [if_pos h1, if_neg h2, if_pos h3, if_neg h4])], ht⟩) (fun q hq => by cases hq) d_Ko_mayClose_34
noncomputable def o_countMissed_ko (ko : Nat → Int32) : Nat → Int32 := if (ko 1) = (ko 0) then uv ko 4 0 else uv ko 4 ((ko 4) + 1)
set_option maxHeartbeats 4000000 in
set_option maxRecDepth 100000 in
theorem c_countMissed (l : Launch) (dC : Nat → ClassId) (dI : Nat → Nat → Nat) (b0 : Nat) (ko : Nat → Int32) (sz : Nat) : Met l y_Ko_countMissed (wz y_Ko_countMissed b_Ko_countMissed 1 none) { frames := 0, cells := 0, slots := 0, locals := 0 } (va_Pc [.ref b0] (fun U => U.heap.size = sz ∧ nw U ∧ va_P (dC, dI) vwCl [(b0, .inr (4, [.int (ko 0), .int (ko 1), .int (ko 2), .int (ko 3), .int (ko 4), .int (ko 5)]))] U.heap ∧ va_K (dC, dI) vwCl [] U ∧ va_D (fun _ => True) [(b0, .inr (4, [.int (ko 0), .int (ko 1), .int (ko 2), .int (ko 3), .int (ko 4), .int (ko 5)]))])) (va_Qv (fun _ : Unit => True) (fun _ t => va_P (dC, dI) vwCl [(b0, .inr (4, [.int ((o_countMissed_ko ko) 0), .int ((o_countMissed_ko ko) 1), .int ((o_countMissed_ko ko) 2), .int ((o_countMissed_ko ko) 3), .int ((o_countMissed_ko ko) 4), .int ((o_countMissed_ko ko) 5)]))] t.heap ∧ va_K (dC, dI) vwCl [] t ∧ va_D (va_A [(b0, .inr (4, [.int (ko 0), .int (ko 1), .int (ko 2), .int (ko 3), .int (ko 4), .int (ko 5)]))] sz) [(b0, .inr (4, [.int ((o_countMissed_ko ko) 0), .int ((o_countMissed_ko ko) 1), .int ((o_countMissed_ko ko) 2), .int ((o_countMissed_ko ko) 3), .int ((o_countMissed_ko ko) 4), .int ((o_countMissed_ko ko) 5)]))]) (va_A [(b0, .inr (4, [.int (ko 0), .int (ko 1), .int (ko 2), .int (ko 3), .int (ko 4), .int (ko 5)]))] sz)) 0 0 (va_A [(b0, .inr (4, [.int (ko 0), .int (ko 1), .int (ko 2), .int (ko 3), .int (ko 4), .int (ko 5)]))] sz) := by
  refine Met.ofW (cc := b_Ko_countMissed) (maxL := 1) (ret := none) (by decide) rfl ?_
  intro p e s m args below meth c s₁ B hml hv
  obtain ⟨rfl, hsz, hN, hP, hK, hD0⟩ := hv
  have hx := B.exec
  have hb := B.bytes
  have hr := B.returns
  have hts := fun w h => atoms_spec (ws := (wz y_Ko_countMissed b_Ko_countMissed 1 none)) B.pre w (List.mem_cons_of_mem _ h)
  have hown : s.vm.findClass R_Ko = some m.cls := findClass_of_methodNamed B.named
  have hlocks := B.notSynchronized
  subst hsz
  have hD := hD0.self (sz := s.heap.size)
  generalize hAe : va_A [(b0, .inr (4, [.int (ko 0), .int (ko 1), .int (ko 2), .int (ko 3), .int (ko 4), .int (ko 5)]))] s.heap.size = A at hD ⊢
  have hA : ∀ q : Nat, s.heap.size ≤ q → A q := fun q h => by rw [← hAe]; exact Or.inr h
  have hS : va_S A s.heap s.heap [] := va_S.rf
  have hl := lv_entry ([.ref b0]) (n := 1) (Nat.le_of_ble_eq_true rfl)
  rw [lg_entry_eq]
  generalize (lg_sl ([.ref b0]) ++ List.replicate (1 - (lg_sl ([.ref b0])).length) Slot.unset).toArray = ls at hl ⊢
  have hl : lv_has ls 1 [(0, .ref b0)] := hl
  refine lv_aload_n hx hb d_Ko_countMissed_0 rfl (lv_at hl 0 rfl) ?_
  refine lv_aload_n hx hb d_Ko_countMissed_1 rfl (lv_at hl 0 rfl) ?_
  refine va_get (D := (dC, dI)) (ci := 4) (v := .int (ko 1)) (C := R_Ko) (T := T_Ko) (N := 6) hx hb hts uin_Ko hown hK hP 0 rfl rfl 1 (by decide) (hts _ wd_139) (fun _ h9 => h9) rfl d_Ko_countMissed_2 ?_
  refine lv_aload_n hx hb d_Ko_countMissed_5 rfl (lv_at hl 0 rfl) ?_
  refine va_get (D := (dC, dI)) (ci := 4) (v := .int (ko 0)) (C := R_Ko) (T := T_Ko) (N := 6) hx hb hts uin_Ko hown hK hP 0 rfl rfl 0 (by decide) (hts _ wd_137) (fun _ h9 => h9) rfl d_Ko_countMissed_6 ?_
  refine lv_icmp_eq hx hb (tgt := 21) d_Ko_countMissed_9 rfl (fun h1 => ?_) (fun h1 => ?_)
  · refine lv_iconst (v := 0) hx hb d_Ko_countMissed_21 (by decide) ?_
    refine va_put (D := (dC, dI)) (ci := 4) (v := .int 0) (ty := .int) (C := R_Ko) (T := T_Ko) (N := 6) hx hb hts uin_Ko t_Ko t_Ko_ok n_Ko hown hK hP hD hS 0 rfl rfl 4 (by decide) (hts _ wd_145) (fun _ h9 => h9) rfl (by decide +kernel) rfl rfl (Nat.le_of_ble_eq_true rfl) d_Ko_countMissed_22 (fun H locs hP hD hS => ?_)
    have hP : va_P (dC, dI) vwCl [(b0, .inr (4, [.int (ko 0), .int (ko 1), .int (ko 2), .int (ko 3), .int 0, .int (ko 5)]))] H := hP
    have hD : va_D A [(b0, .inr (4, [.int (ko 0), .int (ko 1), .int (ko 2), .int (ko 3), .int 0, .int (ko 5)]))] := hD
    have hP9 := hP.sub (ws' := [(b0, .inr (4, [.int (ko 0), .int (ko 1), .int (ko 2), .int (ko 3), .int 0, .int (ko 5)]))]) [0] rfl
    have hD9 := hD.sub (ws' := [(b0, .inr (4, [.int (ko 0), .int (ko 1), .int (ko 2), .int (ko 3), .int 0, .int (ko 5)]))]) [0] (by decide) rfl
    have E0 : o_countMissed_ko ko = uv ko 4 0 := by unfold o_countMissed_ko; rw [if_pos h1]
    exact W.vret hx hb hr (fun t ht hW => ⟨⟨(), rfl, trivial, by rw [ht, E0]; exact hP9, va_K.moved hW.alike hK, by rw [E0]; exact hD9⟩, hS.F ht⟩) hS.2.2 d_Ko_countMissed_25
  · refine lv_aload_n hx hb d_Ko_countMissed_12 rfl (lv_at hl 0 rfl) ?_
    refine va_get (D := (dC, dI)) (ci := 4) (v := .int (ko 4)) (C := R_Ko) (T := T_Ko) (N := 6) hx hb hts uin_Ko hown hK hP 0 rfl rfl 4 (by decide) (hts _ wd_145) (fun _ h9 => h9) rfl d_Ko_countMissed_13 ?_
    refine lv_iconst (v := 1) hx hb d_Ko_countMissed_16 (by decide) ?_
    refine lv_iadd hx hb d_Ko_countMissed_17 ?_
    refine lv_goto (tgt := 22) hx hb d_Ko_countMissed_18 rfl ?_
    refine va_put (D := (dC, dI)) (ci := 4) (v := .int ((ko 4) + 1)) (ty := .int) (C := R_Ko) (T := T_Ko) (N := 6) hx hb hts uin_Ko t_Ko t_Ko_ok n_Ko hown hK hP hD hS 0 rfl rfl 4 (by decide) (hts _ wd_145) (fun _ h9 => h9) rfl (by decide +kernel) rfl rfl (Nat.le_of_ble_eq_true rfl) d_Ko_countMissed_22 (fun H locs hP hD hS => ?_)
    have hP : va_P (dC, dI) vwCl [(b0, .inr (4, [.int (ko 0), .int (ko 1), .int (ko 2), .int (ko 3), .int ((ko 4) + 1), .int (ko 5)]))] H := hP
    have hD : va_D A [(b0, .inr (4, [.int (ko 0), .int (ko 1), .int (ko 2), .int (ko 3), .int ((ko 4) + 1), .int (ko 5)]))] := hD
    have hP9 := hP.sub (ws' := [(b0, .inr (4, [.int (ko 0), .int (ko 1), .int (ko 2), .int (ko 3), .int ((ko 4) + 1), .int (ko 5)]))]) [0] rfl
    have hD9 := hD.sub (ws' := [(b0, .inr (4, [.int (ko 0), .int (ko 1), .int (ko 2), .int (ko 3), .int ((ko 4) + 1), .int (ko 5)]))]) [0] (by decide) rfl
    have E0 : o_countMissed_ko ko = uv ko 4 ((ko 4) + 1) := by unfold o_countMissed_ko; rw [if_neg h1]
    exact W.vret hx hb hr (fun t ht hW => ⟨⟨(), rfl, trivial, by rw [ht, E0]; exact hP9, va_K.moved hW.alike hK, by rw [E0]; exact hD9⟩, hS.F ht⟩) hS.2.2 d_Ko_countMissed_25
noncomputable def o_lock_ko (ko : Nat → Int32) : Nat → Int32 := uv (uv (uv (uv ko 0 0) 2 0) 3 1) 4 0
set_option maxHeartbeats 4000000 in
set_option maxRecDepth 100000 in
theorem c_lock (l : Launch) (dC : Nat → ClassId) (dI : Nat → Nat → Nat) (b0 : Nat) (ko : Nat → Int32) (sz : Nat) : Met l y_Ko_lock (wz y_Ko_lock b_Ko_lock 1 none) { frames := 0, cells := 0, slots := 0, locals := 0 } (va_Pc [.ref b0] (fun U => U.heap.size = sz ∧ nw U ∧ va_P (dC, dI) vwCl [(b0, .inr (4, [.int (ko 0), .int (ko 1), .int (ko 2), .int (ko 3), .int (ko 4), .int (ko 5)]))] U.heap ∧ va_K (dC, dI) vwCl [] U ∧ va_D (fun _ => True) [(b0, .inr (4, [.int (ko 0), .int (ko 1), .int (ko 2), .int (ko 3), .int (ko 4), .int (ko 5)]))])) (va_Qv (fun _ : Unit => True) (fun _ t => va_P (dC, dI) vwCl [(b0, .inr (4, [.int ((o_lock_ko ko) 0), .int ((o_lock_ko ko) 1), .int ((o_lock_ko ko) 2), .int ((o_lock_ko ko) 3), .int ((o_lock_ko ko) 4), .int ((o_lock_ko ko) 5)]))] t.heap ∧ va_K (dC, dI) vwCl [] t ∧ va_D (va_A [(b0, .inr (4, [.int (ko 0), .int (ko 1), .int (ko 2), .int (ko 3), .int (ko 4), .int (ko 5)]))] sz) [(b0, .inr (4, [.int ((o_lock_ko ko) 0), .int ((o_lock_ko ko) 1), .int ((o_lock_ko ko) 2), .int ((o_lock_ko ko) 3), .int ((o_lock_ko ko) 4), .int ((o_lock_ko ko) 5)]))]) (va_A [(b0, .inr (4, [.int (ko 0), .int (ko 1), .int (ko 2), .int (ko 3), .int (ko 4), .int (ko 5)]))] sz)) 0 0 (va_A [(b0, .inr (4, [.int (ko 0), .int (ko 1), .int (ko 2), .int (ko 3), .int (ko 4), .int (ko 5)]))] sz) := by
  refine Met.ofW (cc := b_Ko_lock) (maxL := 1) (ret := none) (by decide) rfl ?_
  intro p e s m args below meth c s₁ B hml hv
  obtain ⟨rfl, hsz, hN, hP, hK, hD0⟩ := hv
  have hx := B.exec
  have hb := B.bytes
  have hr := B.returns
  have hts := fun w h => atoms_spec (ws := (wz y_Ko_lock b_Ko_lock 1 none)) B.pre w (List.mem_cons_of_mem _ h)
  have hown : s.vm.findClass R_Ko = some m.cls := findClass_of_methodNamed B.named
  have hlocks := B.notSynchronized
  subst hsz
  have hD := hD0.self (sz := s.heap.size)
  generalize hAe : va_A [(b0, .inr (4, [.int (ko 0), .int (ko 1), .int (ko 2), .int (ko 3), .int (ko 4), .int (ko 5)]))] s.heap.size = A at hD ⊢
  have hA : ∀ q : Nat, s.heap.size ≤ q → A q := fun q h => by rw [← hAe]; exact Or.inr h
  have hS : va_S A s.heap s.heap [] := va_S.rf
  have hl := lv_entry ([.ref b0]) (n := 1) (Nat.le_of_ble_eq_true rfl)
  rw [lg_entry_eq]
  generalize (lg_sl ([.ref b0]) ++ List.replicate (1 - (lg_sl ([.ref b0])).length) Slot.unset).toArray = ls at hl ⊢
  have hl : lv_has ls 1 [(0, .ref b0)] := hl
  refine lv_aload_n hx hb d_Ko_lock_0 rfl (lv_at hl 0 rfl) ?_
  refine lv_iconst (v := 1) hx hb d_Ko_lock_1 (by decide) ?_
  refine va_put (D := (dC, dI)) (ci := 4) (v := .int 1) (ty := .boolean) (C := R_Ko) (T := T_Ko) (N := 6) hx hb hts uin_Ko t_Ko t_Ko_ok n_Ko hown hK hP hD hS 0 rfl rfl 3 (by decide) (hts _ wd_143) (fun _ h9 => h9) rfl (by decide +kernel) (by decide) (by decide) (Nat.le_of_ble_eq_true rfl) d_Ko_lock_2 (fun H locs hP hD hS => ?_)
  have hP : va_P (dC, dI) vwCl [(b0, .inr (4, [.int (ko 0), .int (ko 1), .int (ko 2), .int 1, .int (ko 4), .int (ko 5)]))] H := hP
  have hD : va_D A [(b0, .inr (4, [.int (ko 0), .int (ko 1), .int (ko 2), .int 1, .int (ko 4), .int (ko 5)]))] := hD
  refine lv_aload_n hx hb d_Ko_lock_5 rfl (lv_at hl 0 rfl) ?_
  refine lv_iconst (v := 0) hx hb d_Ko_lock_6 (by decide) ?_
  refine va_put (D := (dC, dI)) (ci := 4) (v := .int 0) (ty := .boolean) (C := R_Ko) (T := T_Ko) (N := 6) hx hb hts uin_Ko t_Ko t_Ko_ok n_Ko hown hK hP hD hS 0 rfl rfl 2 (by decide) (hts _ wd_141) (fun _ h9 => h9) rfl (by decide +kernel) (by decide) (by decide) (Nat.le_of_ble_eq_true rfl) d_Ko_lock_7 (fun H locs hP hD hS => ?_)
  have hP : va_P (dC, dI) vwCl [(b0, .inr (4, [.int (ko 0), .int (ko 1), .int 0, .int 1, .int (ko 4), .int (ko 5)]))] H := hP
  have hD : va_D A [(b0, .inr (4, [.int (ko 0), .int (ko 1), .int 0, .int 1, .int (ko 4), .int (ko 5)]))] := hD
  refine lv_aload_n hx hb d_Ko_lock_10 rfl (lv_at hl 0 rfl) ?_
  refine lv_iconst (v := 0) hx hb d_Ko_lock_11 (by decide) ?_
  refine va_put (D := (dC, dI)) (ci := 4) (v := .int 0) (ty := .boolean) (C := R_Ko) (T := T_Ko) (N := 6) hx hb hts uin_Ko t_Ko t_Ko_ok n_Ko hown hK hP hD hS 0 rfl rfl 0 (by decide) (hts _ wd_137) (fun _ h9 => h9) rfl (by decide +kernel) (by decide) (by decide) (Nat.le_of_ble_eq_true rfl) d_Ko_lock_12 (fun H locs hP hD hS => ?_)
  have hP : va_P (dC, dI) vwCl [(b0, .inr (4, [.int 0, .int (ko 1), .int 0, .int 1, .int (ko 4), .int (ko 5)]))] H := hP
  have hD : va_D A [(b0, .inr (4, [.int 0, .int (ko 1), .int 0, .int 1, .int (ko 4), .int (ko 5)]))] := hD
  refine lv_aload_n hx hb d_Ko_lock_15 rfl (lv_at hl 0 rfl) ?_
  refine lv_iconst (v := 0) hx hb d_Ko_lock_16 (by decide) ?_
  refine va_put (D := (dC, dI)) (ci := 4) (v := .int 0) (ty := .int) (C := R_Ko) (T := T_Ko) (N := 6) hx hb hts uin_Ko t_Ko t_Ko_ok n_Ko hown hK hP hD hS 0 rfl rfl 4 (by decide) (hts _ wd_145) (fun _ h9 => h9) rfl (by decide +kernel) rfl rfl (Nat.le_of_ble_eq_true rfl) d_Ko_lock_17 (fun H locs hP hD hS => ?_)
  have hP : va_P (dC, dI) vwCl [(b0, .inr (4, [.int 0, .int (ko 1), .int 0, .int 1, .int 0, .int (ko 5)]))] H := hP
  have hD : va_D A [(b0, .inr (4, [.int 0, .int (ko 1), .int 0, .int 1, .int 0, .int (ko 5)]))] := hD
  have hP9 := hP.sub (ws' := [(b0, .inr (4, [.int 0, .int (ko 1), .int 0, .int 1, .int 0, .int (ko 5)]))]) [0] rfl
  have hD9 := hD.sub (ws' := [(b0, .inr (4, [.int 0, .int (ko 1), .int 0, .int 1, .int 0, .int (ko 5)]))]) [0] (by decide) rfl
  have E0 : o_lock_ko ko = uv (uv (uv (uv ko 0 0) 2 0) 3 1) 4 0 := rfl
  exact W.vret hx hb hr (fun t ht hW => ⟨⟨(), rfl, trivial, by rw [ht, E0]; exact hP9, va_K.moved hW.alike hK, by rw [E0]; exact hD9⟩, hS.F ht⟩) hS.2.2 d_Ko_lock_20
noncomputable def o_clear_co (co : Nat → Int32) : Nat → Int32 := uv (uv (uv co 2 0) 3 0) 4 0
set_option maxHeartbeats 4000000 in
set_option maxRecDepth 100000 in
theorem c_clear (l : Launch) (dC : Nat → ClassId) (dI : Nat → Nat → Nat) (b0 : Nat) (co : Nat → Int32) (sz : Nat) : Met l y_Co_clear (wz y_Co_clear b_Co_clear 1 none) { frames := 0, cells := 0, slots := 0, locals := 0 } (va_Pc [.ref b0] (fun U => U.heap.size = sz ∧ nw U ∧ va_P (dC, dI) vwCl [(b0, .inr (5, [.int (co 0), .int (co 1), .int (co 2), .int (co 3), .int (co 4)]))] U.heap ∧ va_K (dC, dI) vwCl [] U ∧ va_D (fun _ => True) [(b0, .inr (5, [.int (co 0), .int (co 1), .int (co 2), .int (co 3), .int (co 4)]))])) (va_Qv (fun _ : Unit => True) (fun _ t => va_P (dC, dI) vwCl [(b0, .inr (5, [.int ((o_clear_co co) 0), .int ((o_clear_co co) 1), .int ((o_clear_co co) 2), .int ((o_clear_co co) 3), .int ((o_clear_co co) 4)]))] t.heap ∧ va_K (dC, dI) vwCl [] t ∧ va_D (va_A [(b0, .inr (5, [.int (co 0), .int (co 1), .int (co 2), .int (co 3), .int (co 4)]))] sz) [(b0, .inr (5, [.int ((o_clear_co co) 0), .int ((o_clear_co co) 1), .int ((o_clear_co co) 2), .int ((o_clear_co co) 3), .int ((o_clear_co co) 4)]))]) (va_A [(b0, .inr (5, [.int (co 0), .int (co 1), .int (co 2), .int (co 3), .int (co 4)]))] sz)) 0 0 (va_A [(b0, .inr (5, [.int (co 0), .int (co 1), .int (co 2), .int (co 3), .int (co 4)]))] sz) := by
  refine Met.ofW (cc := b_Co_clear) (maxL := 1) (ret := none) (by decide) rfl ?_
  intro p e s m args below meth c s₁ B hml hv
  obtain ⟨rfl, hsz, hN, hP, hK, hD0⟩ := hv
  have hx := B.exec
  have hb := B.bytes
  have hr := B.returns
  have hts := fun w h => atoms_spec (ws := (wz y_Co_clear b_Co_clear 1 none)) B.pre w (List.mem_cons_of_mem _ h)
  have hown : s.vm.findClass R_Co = some m.cls := findClass_of_methodNamed B.named
  have hlocks := B.notSynchronized
  subst hsz
  have hD := hD0.self (sz := s.heap.size)
  generalize hAe : va_A [(b0, .inr (5, [.int (co 0), .int (co 1), .int (co 2), .int (co 3), .int (co 4)]))] s.heap.size = A at hD ⊢
  have hA : ∀ q : Nat, s.heap.size ≤ q → A q := fun q h => by rw [← hAe]; exact Or.inr h
  have hS : va_S A s.heap s.heap [] := va_S.rf
  have hl := lv_entry ([.ref b0]) (n := 1) (Nat.le_of_ble_eq_true rfl)
  rw [lg_entry_eq]
  generalize (lg_sl ([.ref b0]) ++ List.replicate (1 - (lg_sl ([.ref b0])).length) Slot.unset).toArray = ls at hl ⊢
  have hl : lv_has ls 1 [(0, .ref b0)] := hl
  refine lv_aload_n hx hb d_Co_clear_0 rfl (lv_at hl 0 rfl) ?_
  refine lv_iconst (v := 0) hx hb d_Co_clear_1 (by decide) ?_
  refine va_put (D := (dC, dI)) (ci := 5) (v := .int 0) (ty := .int) (C := R_Co) (T := T_Co) (N := 5) hx hb hts uin_Co t_Co t_Co_ok n_Co hown hK hP hD hS 0 rfl rfl 2 (by decide) (hts _ wd_172) (fun _ h9 => h9) rfl (by decide +kernel) rfl rfl (Nat.le_of_ble_eq_true rfl) d_Co_clear_2 (fun H locs hP hD hS => ?_)
  have hP : va_P (dC, dI) vwCl [(b0, .inr (5, [.int (co 0), .int (co 1), .int 0, .int (co 3), .int (co 4)]))] H := hP
  have hD : va_D A [(b0, .inr (5, [.int (co 0), .int (co 1), .int 0, .int (co 3), .int (co 4)]))] := hD
  refine lv_aload_n hx hb d_Co_clear_5 rfl (lv_at hl 0 rfl) ?_
  refine lv_iconst (v := 0) hx hb d_Co_clear_6 (by decide) ?_
  refine va_put (D := (dC, dI)) (ci := 5) (v := .int 0) (ty := .int) (C := R_Co) (T := T_Co) (N := 5) hx hb hts uin_Co t_Co t_Co_ok n_Co hown hK hP hD hS 0 rfl rfl 3 (by decide) (hts _ wd_174) (fun _ h9 => h9) rfl (by decide +kernel) rfl rfl (Nat.le_of_ble_eq_true rfl) d_Co_clear_7 (fun H locs hP hD hS => ?_)
  have hP : va_P (dC, dI) vwCl [(b0, .inr (5, [.int (co 0), .int (co 1), .int 0, .int 0, .int (co 4)]))] H := hP
  have hD : va_D A [(b0, .inr (5, [.int (co 0), .int (co 1), .int 0, .int 0, .int (co 4)]))] := hD
  refine lv_aload_n hx hb d_Co_clear_10 rfl (lv_at hl 0 rfl) ?_
  refine lv_iconst (v := 0) hx hb d_Co_clear_11 (by decide) ?_
  refine va_put (D := (dC, dI)) (ci := 5) (v := .int 0) (ty := .int) (C := R_Co) (T := T_Co) (N := 5) hx hb hts uin_Co t_Co t_Co_ok n_Co hown hK hP hD hS 0 rfl rfl 4 (by decide) (hts _ wd_176) (fun _ h9 => h9) rfl (by decide +kernel) rfl rfl (Nat.le_of_ble_eq_true rfl) d_Co_clear_12 (fun H locs hP hD hS => ?_)
  have hP : va_P (dC, dI) vwCl [(b0, .inr (5, [.int (co 0), .int (co 1), .int 0, .int 0, .int 0]))] H := hP
  have hD : va_D A [(b0, .inr (5, [.int (co 0), .int (co 1), .int 0, .int 0, .int 0]))] := hD
  have hP9 := hP.sub (ws' := [(b0, .inr (5, [.int (co 0), .int (co 1), .int 0, .int 0, .int 0]))]) [0] rfl
  have hD9 := hD.sub (ws' := [(b0, .inr (5, [.int (co 0), .int (co 1), .int 0, .int 0, .int 0]))]) [0] (by decide) rfl
  have E0 : o_clear_co co = uv (uv (uv co 2 0) 3 0) 4 0 := rfl
  exact W.vret hx hb hr (fun t ht hW => ⟨⟨(), rfl, trivial, by rw [ht, E0]; exact hP9, va_K.moved hW.alike hK, by rw [E0]; exact hD9⟩, hS.F ht⟩) hS.2.2 d_Co_clear_15
noncomputable def o_turn_og (og : Nat → Int32) : Nat → Int32 := uv og 3 ((og 3) + (og 2))
set_option maxHeartbeats 4000000 in
set_option maxRecDepth 100000 in
theorem c_turn (l : Launch) (dC : Nat → ClassId) (dI : Nat → Nat → Nat) (b0 : Nat) (og : Nat → Int32) (sz : Nat) : Met l y_Og_turn (wz y_Og_turn b_Og_turn 1 none) { frames := 0, cells := 0, slots := 0, locals := 0 } (va_Pc [.ref b0] (fun U => U.heap.size = sz ∧ nw U ∧ va_P (dC, dI) vwCl [(b0, .inr (6, [.int (og 0), .int (og 1), .int (og 2), .int (og 3)]))] U.heap ∧ va_K (dC, dI) vwCl [] U ∧ va_D (fun _ => True) [(b0, .inr (6, [.int (og 0), .int (og 1), .int (og 2), .int (og 3)]))])) (va_Qv (fun _ : Unit => True) (fun _ t => va_P (dC, dI) vwCl [(b0, .inr (6, [.int ((o_turn_og og) 0), .int ((o_turn_og og) 1), .int ((o_turn_og og) 2), .int ((o_turn_og og) 3)]))] t.heap ∧ va_K (dC, dI) vwCl [] t ∧ va_D (va_A [(b0, .inr (6, [.int (og 0), .int (og 1), .int (og 2), .int (og 3)]))] sz) [(b0, .inr (6, [.int ((o_turn_og og) 0), .int ((o_turn_og og) 1), .int ((o_turn_og og) 2), .int ((o_turn_og og) 3)]))]) (va_A [(b0, .inr (6, [.int (og 0), .int (og 1), .int (og 2), .int (og 3)]))] sz)) 0 0 (va_A [(b0, .inr (6, [.int (og 0), .int (og 1), .int (og 2), .int (og 3)]))] sz) := by
  refine Met.ofW (cc := b_Og_turn) (maxL := 1) (ret := none) (by decide) rfl ?_
  intro p e s m args below meth c s₁ B hml hv
  obtain ⟨rfl, hsz, hN, hP, hK, hD0⟩ := hv
  have hx := B.exec
  have hb := B.bytes
  have hr := B.returns
  have hts := fun w h => atoms_spec (ws := (wz y_Og_turn b_Og_turn 1 none)) B.pre w (List.mem_cons_of_mem _ h)
  have hown : s.vm.findClass R_Og = some m.cls := findClass_of_methodNamed B.named
  have hlocks := B.notSynchronized
  subst hsz
  have hD := hD0.self (sz := s.heap.size)
  generalize hAe : va_A [(b0, .inr (6, [.int (og 0), .int (og 1), .int (og 2), .int (og 3)]))] s.heap.size = A at hD ⊢
  have hA : ∀ q : Nat, s.heap.size ≤ q → A q := fun q h => by rw [← hAe]; exact Or.inr h
  have hS : va_S A s.heap s.heap [] := va_S.rf
  have hl := lv_entry ([.ref b0]) (n := 1) (Nat.le_of_ble_eq_true rfl)
  rw [lg_entry_eq]
  generalize (lg_sl ([.ref b0]) ++ List.replicate (1 - (lg_sl ([.ref b0])).length) Slot.unset).toArray = ls at hl ⊢
  have hl : lv_has ls 1 [(0, .ref b0)] := hl
  refine lv_aload_n hx hb d_Og_turn_0 rfl (lv_at hl 0 rfl) ?_
  refine lv_dup hx hb d_Og_turn_1 rfl ?_
  refine va_get (D := (dC, dI)) (ci := 6) (v := .int (og 3)) (C := R_Og) (T := T_Og) (N := 4) hx hb hts uin_Og hown hK hP 0 rfl rfl 3 (by decide) (hts _ wd_199) (fun _ h9 => h9) rfl d_Og_turn_2 ?_
  refine lv_aload_n hx hb d_Og_turn_5 rfl (lv_at hl 0 rfl) ?_
  refine va_get (D := (dC, dI)) (ci := 6) (v := .int (og 2)) (C := R_Og) (T := T_Og) (N := 4) hx hb hts uin_Og hown hK hP 0 rfl rfl 2 (by decide) (hts _ wd_198) (fun _ h9 => h9) rfl d_Og_turn_6 ?_
  refine lv_iadd hx hb d_Og_turn_9 ?_
  refine va_put (D := (dC, dI)) (ci := 6) (v := .int ((og 3) + (og 2))) (ty := .int) (C := R_Og) (T := T_Og) (N := 4) hx hb hts uin_Og t_Og t_Og_ok n_Og hown hK hP hD hS 0 rfl rfl 3 (by decide) (hts _ wd_199) (fun _ h9 => h9) rfl (by decide +kernel) rfl rfl (Nat.le_of_ble_eq_true rfl) d_Og_turn_10 (fun H locs hP hD hS => ?_)
  have hP : va_P (dC, dI) vwCl [(b0, .inr (6, [.int (og 0), .int (og 1), .int (og 2), .int ((og 3) + (og 2))]))] H := hP
  have hD : va_D A [(b0, .inr (6, [.int (og 0), .int (og 1), .int (og 2), .int ((og 3) + (og 2))]))] := hD
  have hP9 := hP.sub (ws' := [(b0, .inr (6, [.int (og 0), .int (og 1), .int (og 2), .int ((og 3) + (og 2))]))]) [0] rfl
  have hD9 := hD.sub (ws' := [(b0, .inr (6, [.int (og 0), .int (og 1), .int (og 2), .int ((og 3) + (og 2))]))]) [0] (by decide) rfl
  have E0 : o_turn_og og = uv og 3 ((og 3) + (og 2)) := rfl
  exact W.vret hx hb hr (fun t ht hW => ⟨⟨(), rfl, trivial, by rw [ht, E0]; exact hP9, va_K.moved hW.alike hK, by rw [E0]; exact hD9⟩, hS.F ht⟩) hS.2.2 d_Og_turn_13
noncomputable def o_gbecome_og (og : Nat → Int32) (ia : Int32) (ib : Int32) (ic : Int32) : Nat → Int32 := uv (uv (uv (uv og 0 1) 1 ia) 2 (((ib.toInt64 * 4294967296) / 10000000).toInt32)) 3 ((og 3) + ic)
set_option maxHeartbeats 4000000 in
set_option maxRecDepth 100000 in
theorem c_gbecome (l : Launch) (dC : Nat → ClassId) (dI : Nat → Nat → Nat) (b0 : Nat) (og : Nat → Int32) (ia : Int32) (ib : Int32) (ic : Int32) (sz : Nat) : Met l y_Og_become (wz y_Og_become b_Og_become 4 none) { frames := 0, cells := 0, slots := 0, locals := 0 } (va_Pc [.ref b0, .int ia, .int ib, .int ic] (fun U => U.heap.size = sz ∧ nw U ∧ va_P (dC, dI) vwCl [(b0, .inr (6, [.int (og 0), .int (og 1), .int (og 2), .int (og 3)]))] U.heap ∧ va_K (dC, dI) vwCl [] U ∧ va_D (fun _ => True) [(b0, .inr (6, [.int (og 0), .int (og 1), .int (og 2), .int (og 3)]))])) (va_Qv (fun _ : Unit => True) (fun _ t => va_P (dC, dI) vwCl [(b0, .inr (6, [.int ((o_gbecome_og og ia ib ic) 0), .int ((o_gbecome_og og ia ib ic) 1), .int ((o_gbecome_og og ia ib ic) 2), .int ((o_gbecome_og og ia ib ic) 3)]))] t.heap ∧ va_K (dC, dI) vwCl [] t ∧ va_D (va_A [(b0, .inr (6, [.int (og 0), .int (og 1), .int (og 2), .int (og 3)]))] sz) [(b0, .inr (6, [.int ((o_gbecome_og og ia ib ic) 0), .int ((o_gbecome_og og ia ib ic) 1), .int ((o_gbecome_og og ia ib ic) 2), .int ((o_gbecome_og og ia ib ic) 3)]))]) (va_A [(b0, .inr (6, [.int (og 0), .int (og 1), .int (og 2), .int (og 3)]))] sz)) 0 0 (va_A [(b0, .inr (6, [.int (og 0), .int (og 1), .int (og 2), .int (og 3)]))] sz) := by
  refine Met.ofW (cc := b_Og_become) (maxL := 4) (ret := none) (by decide) rfl ?_
  intro p e s m args below meth c s₁ B hml hv
  obtain ⟨rfl, hsz, hN, hP, hK, hD0⟩ := hv
  have hx := B.exec
  have hb := B.bytes
  have hr := B.returns
  have hts := fun w h => atoms_spec (ws := (wz y_Og_become b_Og_become 4 none)) B.pre w (List.mem_cons_of_mem _ h)
  have hown : s.vm.findClass R_Og = some m.cls := findClass_of_methodNamed B.named
  have hlocks := B.notSynchronized
  subst hsz
  have hD := hD0.self (sz := s.heap.size)
  generalize hAe : va_A [(b0, .inr (6, [.int (og 0), .int (og 1), .int (og 2), .int (og 3)]))] s.heap.size = A at hD ⊢
  have hA : ∀ q : Nat, s.heap.size ≤ q → A q := fun q h => by rw [← hAe]; exact Or.inr h
  have hS : va_S A s.heap s.heap [] := va_S.rf
  have hl := lv_entry ([.ref b0, .int ia, .int ib, .int ic]) (n := 4) (Nat.le_of_ble_eq_true rfl)
  rw [lg_entry_eq]
  generalize (lg_sl ([.ref b0, .int ia, .int ib, .int ic]) ++ List.replicate (4 - (lg_sl ([.ref b0, .int ia, .int ib, .int ic])).length) Slot.unset).toArray = ls at hl ⊢
  have hl : lv_has ls 4 [(0, .ref b0), (1, .int ia), (2, .int ib), (3, .int ic)] := hl
  refine lv_aload_n hx hb d_Og_become_0 rfl (lv_at hl 0 rfl) ?_
  refine lv_iconst (v := 1) hx hb d_Og_become_1 (by decide) ?_
  refine va_put (D := (dC, dI)) (ci := 6) (v := .int 1) (ty := .boolean) (C := R_Og) (T := T_Og) (N := 4) hx hb hts uin_Og t_Og t_Og_ok n_Og hown hK hP hD hS 0 rfl rfl 0 (by decide) (hts _ wd_195) (fun _ h9 => h9) rfl (by decide +kernel) (by decide) (by decide) (Nat.le_of_ble_eq_true rfl) d_Og_become_2 (fun H locs hP hD hS => ?_)
  have hP : va_P (dC, dI) vwCl [(b0, .inr (6, [.int 1, .int (og 1), .int (og 2), .int (og 3)]))] H := hP
  have hD : va_D A [(b0, .inr (6, [.int 1, .int (og 1), .int (og 2), .int (og 3)]))] := hD
  refine lv_aload_n hx hb d_Og_become_5 rfl (lv_at hl 0 rfl) ?_
  refine lv_iload_n hx hb d_Og_become_6 rfl (lv_at hl 1 rfl) ?_
  refine va_put (D := (dC, dI)) (ci := 6) (v := .int ia) (ty := .int) (C := R_Og) (T := T_Og) (N := 4) hx hb hts uin_Og t_Og t_Og_ok n_Og hown hK hP hD hS 0 rfl rfl 1 (by decide) (hts _ wd_197) (fun _ h9 => h9) rfl (by decide +kernel) rfl rfl (Nat.le_of_ble_eq_true rfl) d_Og_become_7 (fun H locs hP hD hS => ?_)
  have hP : va_P (dC, dI) vwCl [(b0, .inr (6, [.int 1, .int ia, .int (og 2), .int (og 3)]))] H := hP
  have hD : va_D A [(b0, .inr (6, [.int 1, .int ia, .int (og 2), .int (og 3)]))] := hD
  refine lv_aload_n hx hb d_Og_become_10 rfl (lv_at hl 0 rfl) ?_
  refine lv_iload_n hx hb d_Og_become_11 rfl (lv_at hl 2 rfl) ?_
  refine lv_i2l hx hb d_Og_become_12 rfl ?_
  refine lv_ldc2 (v := 4294967296) hx hb hown (hts _ wd_606) d_Og_become_13 ?_
  refine lv_lmul hx hb d_Og_become_16 ?_
  refine lv_ldc2 (v := 10000000) hx hb hown (hts _ wd_607) d_Og_become_17 ?_
  refine lv_ldiv hx hb d_Og_become_20 (by decide) ?_
  refine lv_l2i hx hb d_Og_become_21 rfl ?_
  refine va_put (D := (dC, dI)) (ci := 6) (v := .int (((ib.toInt64 * 4294967296) / 10000000).toInt32)) (ty := .int) (C := R_Og) (T := T_Og) (N := 4) hx hb hts uin_Og t_Og t_Og_ok n_Og hown hK hP hD hS 0 rfl rfl 2 (by decide) (hts _ wd_198) (fun _ h9 => h9) rfl (by decide +kernel) rfl rfl (Nat.le_of_ble_eq_true rfl) d_Og_become_22 (fun H locs hP hD hS => ?_)
  have hP : va_P (dC, dI) vwCl [(b0, .inr (6, [.int 1, .int ia, .int (((ib.toInt64 * 4294967296) / 10000000).toInt32), .int (og 3)]))] H := hP
  have hD : va_D A [(b0, .inr (6, [.int 1, .int ia, .int (((ib.toInt64 * 4294967296) / 10000000).toInt32), .int (og 3)]))] := hD
  refine lv_aload_n hx hb d_Og_become_25 rfl (lv_at hl 0 rfl) ?_
  refine lv_dup hx hb d_Og_become_26 rfl ?_
  refine va_get (D := (dC, dI)) (ci := 6) (v := .int (og 3)) (C := R_Og) (T := T_Og) (N := 4) hx hb hts uin_Og hown hK hP 0 rfl rfl 3 (by decide) (hts _ wd_199) (fun _ h9 => h9) rfl d_Og_become_27 ?_
  refine lv_iload_n hx hb d_Og_become_30 rfl (lv_at hl 3 rfl) ?_
  refine lv_iadd hx hb d_Og_become_31 ?_
  refine va_put (D := (dC, dI)) (ci := 6) (v := .int ((og 3) + ic)) (ty := .int) (C := R_Og) (T := T_Og) (N := 4) hx hb hts uin_Og t_Og t_Og_ok n_Og hown hK hP hD hS 0 rfl rfl 3 (by decide) (hts _ wd_199) (fun _ h9 => h9) rfl (by decide +kernel) rfl rfl (Nat.le_of_ble_eq_true rfl) d_Og_become_32 (fun H locs hP hD hS => ?_)
  have hP : va_P (dC, dI) vwCl [(b0, .inr (6, [.int 1, .int ia, .int (((ib.toInt64 * 4294967296) / 10000000).toInt32), .int ((og 3) + ic)]))] H := hP
  have hD : va_D A [(b0, .inr (6, [.int 1, .int ia, .int (((ib.toInt64 * 4294967296) / 10000000).toInt32), .int ((og 3) + ic)]))] := hD
  have hP9 := hP.sub (ws' := [(b0, .inr (6, [.int 1, .int ia, .int (((ib.toInt64 * 4294967296) / 10000000).toInt32), .int ((og 3) + ic)]))]) [0] rfl
  have hD9 := hD.sub (ws' := [(b0, .inr (6, [.int 1, .int ia, .int (((ib.toInt64 * 4294967296) / 10000000).toInt32), .int ((og 3) + ic)]))]) [0] (by decide) rfl
  have E0 : o_gbecome_og og ia ib ic = uv (uv (uv (uv og 0 1) 1 ia) 2 (((ib.toInt64 * 4294967296) / 10000000).toInt32)) 3 ((og 3) + ic) := rfl
  exact W.vret hx hb hr (fun t ht hW => ⟨⟨(), rfl, trivial, by rw [ht, E0]; exact hP9, va_K.moved hW.alike hK, by rw [E0]; exact hD9⟩, hS.F ht⟩) hS.2.2 d_Og_become_35
noncomputable def r_phase (og : Nat → Int32) (ia : Int32) : Int32 := ((og 1) * (r_cosine ((og 3) + ia))) / 16384
set_option maxHeartbeats 4000000 in
set_option maxRecDepth 100000 in
theorem c_phase (l : Launch) (dC : Nat → ClassId) (dI : Nat → Nat → Nat) (b0 : Nat) (og : Nat → Int32) (ia : Int32) : Met l y_Og_phase (wz y_Og_phase b_Og_phase 2 (some .int)) { frames := 2, cells := 0, slots := 0, locals := 42 } (va_Pc [.ref b0, .int ia] (fun U => nw U ∧ va_P (dC, dI) vwCl [(b0, .inr (6, [.int (og 0), .int (og 1), .int (og 2), .int (og 3)]))] U.heap ∧ va_K (dC, dI) vwCl [] U)) (k2_QcV (.int (r_phase og ia))) 0 0 (fun _ => False) := by
  refine Met.ofW (cc := b_Og_phase) (maxL := 2) (ret := (some .int)) (by decide) rfl ?_
  intro p e s m args below meth c s₁ B hml hv
  obtain ⟨rfl, hN, hP, hK⟩ := hv
  have hx := B.exec
  have hb := B.bytes
  have hr := B.returns
  have hts := fun w h => atoms_spec (ws := (wz y_Og_phase b_Og_phase 2 (some .int))) B.pre w (List.mem_cons_of_mem _ h)
  have hown : s.vm.findClass R_Og = some m.cls := findClass_of_methodNamed B.named
  have hlocks := B.notSynchronized
  have hl := lv_entry ([.ref b0, .int ia]) (n := 2) (Nat.le_of_ble_eq_true rfl)
  rw [lg_entry_eq]
  generalize (lg_sl ([.ref b0, .int ia]) ++ List.replicate (2 - (lg_sl ([.ref b0, .int ia])).length) Slot.unset).toArray = ls at hl ⊢
  have hl : lv_has ls 2 [(0, .ref b0), (1, .int ia)] := hl
  refine lv_aload_n hx hb d_Og_phase_0 rfl (lv_at hl 0 rfl) ?_
  refine va_get (D := (dC, dI)) (ci := 6) (v := .int (og 1)) (C := R_Og) (T := T_Og) (N := 4) hx hb hts uin_Og hown hK hP 0 rfl rfl 1 (by decide) (hts _ wd_197) (fun _ h9 => h9) rfl d_Og_phase_1 ?_
  refine lv_aload_n hx hb d_Og_phase_4 rfl (lv_at hl 0 rfl) ?_
  refine va_get (D := (dC, dI)) (ci := 6) (v := .int (og 3)) (C := R_Og) (T := T_Og) (N := 4) hx hb hts uin_Og hown hK hP 0 rfl rfl 3 (by decide) (hts _ wd_199) (fun _ h9 => h9) rfl d_Og_phase_5 ?_
  refine lv_iload_n hx hb d_Og_phase_8 rfl (lv_at hl 1 rfl) ?_
  refine lv_iadd hx hb d_Og_phase_9 ?_
  refine kq_R (r := .int (r_cosine ((og 3) + ia))) (va_runSN (As := [.int ((og 3) + ia)]) (rest := [.int (og 1)]) ⟨hx, hb, hml, hown, hts⟩ (c_cosine l dC dI ((og 3) + ia)) (kw_SN (n := 1) hts hN wd_621 wd_491 wd_1 wd_492 rfl rfl (by decide +kernel) ⟨Nat.le_of_ble_eq_true rfl, Nat.le_of_ble_eq_true rfl⟩) (kq_preS hN (hP.sub (ws' := []) [] rfl) (hK.sub (tys' := []) [] rfl)) rfl rfl hl.1 rfl (lv_room (Nat.le_of_ble_eq_true rfl)) d_Og_phase_10 ⟨Nat.le_of_ble_eq_true rfl, Nat.le_of_ble_eq_true rfl⟩) ?_
  refine lv_imul hx hb d_Og_phase_13 ?_
  refine lv_sipush (v := 16384) hx hb d_Og_phase_14 (by decide) ?_
  refine lv_idiv hx hb d_Og_phase_17 (by decide) ?_
  exact W.iret (v := ((og 1) * (r_cosine ((og 3) + ia))) / 16384) hx hb hr (fun t ht hW => ⟨by rw [(show r_phase og ia = ((og 1) * (r_cosine ((og 3) + ia))) / 16384 from rfl)], ht⟩) (fun q hq => by cases hq) d_Og_phase_18
noncomputable def o_note_en (ev : Nat → Int32) (en : Nat → Int32) (ia : Int32) : Nat → Int32 := upd en ((r_placeOf (ev 0)).toNatClampNeg) ia
noncomputable def o_note_et (ev : Nat → Int32) (et : Nat → Int32) (ib : Int32) : Nat → Int32 := upd et ((r_placeOf (ev 0)).toNatClampNeg) ib
noncomputable def o_note_ev (ev : Nat → Int32) : Nat → Int32 := uv ev 0 ((ev 0) + 1)
set_option maxHeartbeats 4000000 in
set_option maxRecDepth 100000 in
theorem c_note (l : Launch) (dC : Nat → ClassId) (dI : Nat → Nat → Nat) (b0 : Nat) (bn : Nat) (bt : Nat) (cI : ClassId) (ev : Nat → Int32) (en : Nat → Int32) (et : Nat → Int32) (ia : Int32) (ib : Int32) (sz : Nat) : Met l y_Ev_note (wz y_Ev_note b_Ev_note 3 none) { frames := 2, cells := 0, slots := 0, locals := 42 } (va_Pc [.ref b0, .int ia, .int ib] (fun U => U.heap.size = sz ∧ nw U ∧ va_P (dC, dI) vwCl [(b0, .inr (7, [.ref bn, .ref bt, .int (ev 0)])), (bn, .inl (cI, 16, .inl en)), (bt, .inl (cI, 16, .inl et))] U.heap ∧ va_K (dC, dI) vwCl [(cI, .int)] U ∧ va_D (fun _ => True) [(b0, .inr (7, [.ref bn, .ref bt, .int (ev 0)])), (bn, .inl (cI, 16, .inl en)), (bt, .inl (cI, 16, .inl et))])) (va_Qv (fun _ : Unit => True) (fun _ t => va_P (dC, dI) vwCl [(b0, .inr (7, [.ref bn, .ref bt, .int ((o_note_ev ev) 0)])), (bn, .inl (cI, 16, .inl (o_note_en ev en ia))), (bt, .inl (cI, 16, .inl (o_note_et ev et ib)))] t.heap ∧ va_K (dC, dI) vwCl [(cI, .int)] t ∧ va_D (va_A [(b0, .inr (7, [.ref bn, .ref bt, .int (ev 0)])), (bn, .inl (cI, 16, .inl en)), (bt, .inl (cI, 16, .inl et))] sz) [(b0, .inr (7, [.ref bn, .ref bt, .int ((o_note_ev ev) 0)])), (bn, .inl (cI, 16, .inl (o_note_en ev en ia))), (bt, .inl (cI, 16, .inl (o_note_et ev et ib)))]) (va_A [(b0, .inr (7, [.ref bn, .ref bt, .int (ev 0)])), (bn, .inl (cI, 16, .inl en)), (bt, .inl (cI, 16, .inl et))] sz)) 0 0 (va_A [(b0, .inr (7, [.ref bn, .ref bt, .int (ev 0)])), (bn, .inl (cI, 16, .inl en)), (bt, .inl (cI, 16, .inl et))] sz) := by
  refine Met.ofW (cc := b_Ev_note) (maxL := 3) (ret := none) (by decide) rfl ?_
  intro p e s m args below meth c s₁ B hml hv
  obtain ⟨rfl, hsz, hN, hP, hK, hD0⟩ := hv
  have hx := B.exec
  have hb := B.bytes
  have hr := B.returns
  have hts := fun w h => atoms_spec (ws := (wz y_Ev_note b_Ev_note 3 none)) B.pre w (List.mem_cons_of_mem _ h)
  have hown : s.vm.findClass R_Ev = some m.cls := findClass_of_methodNamed B.named
  have hlocks := B.notSynchronized
  subst hsz
  have hD := hD0.self (sz := s.heap.size)
  generalize hAe : va_A [(b0, .inr (7, [.ref bn, .ref bt, .int (ev 0)])), (bn, .inl (cI, 16, .inl en)), (bt, .inl (cI, 16, .inl et))] s.heap.size = A at hD ⊢
  have hA : ∀ q : Nat, s.heap.size ≤ q → A q := fun q h => by rw [← hAe]; exact Or.inr h
  have hS : va_S A s.heap s.heap [] := va_S.rf
  have hl := lv_entry ([.ref b0, .int ia, .int ib]) (n := 3) (Nat.le_of_ble_eq_true rfl)
  rw [lg_entry_eq]
  generalize (lg_sl ([.ref b0, .int ia, .int ib]) ++ List.replicate (3 - (lg_sl ([.ref b0, .int ia, .int ib])).length) Slot.unset).toArray = ls at hl ⊢
  have hl : lv_has ls 3 [(0, .ref b0), (1, .int ia), (2, .int ib)] := hl
  refine lv_aload_n hx hb d_Ev_note_0 rfl (lv_at hl 0 rfl) ?_
  refine va_get (D := (dC, dI)) (ci := 7) (v := .ref bn) (C := R_Ev) (T := T_Ev) (N := 3) hx hb hts uin_Ev hown hK hP 0 rfl rfl 0 (by decide) (hts _ wd_215) (fun _ h9 => h9) rfl d_Ev_note_1 ?_
  refine lv_aload_n hx hb d_Ev_note_4 rfl (lv_at hl 0 rfl) ?_
  refine va_get (D := (dC, dI)) (ci := 7) (v := .int (ev 0)) (C := R_Ev) (T := T_Ev) (N := 3) hx hb hts uin_Ev hown hK hP 0 rfl rfl 2 (by decide) (hts _ wd_217) (fun _ h9 => h9) rfl d_Ev_note_5 ?_
  refine kq_R (r := .int (r_placeOf (ev 0))) (va_runS (As := [.int (ev 0)]) (rest := [.ref bn]) ⟨hx, hb, hml, hown, hts⟩ (c_placeOf l dC dI (ev 0)) (kw_S (n := 1) hts wd_285 wd_286 wd_9 wd_287 rfl rfl (by decide +kernel) ⟨Nat.le_of_ble_eq_true rfl, Nat.le_of_ble_eq_true rfl⟩) (kq_preS hN (hP.sub (ws' := []) [] rfl) (hK.sub (tys' := []) [] rfl)) rfl rfl hl.1 rfl (lv_room (Nat.le_of_ble_eq_true rfl)) d_Ev_note_8 ⟨Nat.le_of_ble_eq_true rfl, Nat.le_of_ble_eq_true rfl⟩) ?_
  refine lv_iload_n hx hb d_Ev_note_11 rfl (lv_at hl 1 rfl) ?_
  refine va_iast hx hb hK hP hD hS 1 0 rfl rfl (placeOf_in _) d_Ev_note_12 (fun H locs hP hD hS => ?_)
  have hP : va_P (dC, dI) vwCl [(b0, .inr (7, [.ref bn, .ref bt, .int (ev 0)])), (bn, .inl (cI, 16, .inl (upd en ((r_placeOf (ev 0)).toNatClampNeg) ia))), (bt, .inl (cI, 16, .inl et))] H := hP
  have hD : va_D A [(b0, .inr (7, [.ref bn, .ref bt, .int (ev 0)])), (bn, .inl (cI, 16, .inl (upd en ((r_placeOf (ev 0)).toNatClampNeg) ia))), (bt, .inl (cI, 16, .inl et))] := hD
  refine lv_aload_n hx hb d_Ev_note_13 rfl (lv_at hl 0 rfl) ?_
  refine va_get (D := (dC, dI)) (ci := 7) (v := .ref bt) (C := R_Ev) (T := T_Ev) (N := 3) hx hb hts uin_Ev hown hK hP 0 rfl rfl 1 (by decide) (hts _ wd_216) (fun _ h9 => h9) rfl d_Ev_note_14 ?_
  refine lv_aload_n hx hb d_Ev_note_17 rfl (lv_at hl 0 rfl) ?_
  refine va_get (D := (dC, dI)) (ci := 7) (v := .int (ev 0)) (C := R_Ev) (T := T_Ev) (N := 3) hx hb hts uin_Ev hown hK hP 0 rfl rfl 2 (by decide) (hts _ wd_217) (fun _ h9 => h9) rfl d_Ev_note_18 ?_
  refine kq_R (r := .int (r_placeOf (ev 0))) (va_runS (As := [.int (ev 0)]) (rest := [.ref bt]) ⟨hx, hb, hml, hown, hts⟩ (c_placeOf l dC dI (ev 0)) (kw_S (n := 1) hts wd_285 wd_286 wd_9 wd_287 rfl rfl (by decide +kernel) ⟨Nat.le_of_ble_eq_true rfl, Nat.le_of_ble_eq_true rfl⟩) (kq_preS hN (hP.sub (ws' := []) [] rfl) (hK.sub (tys' := []) [] rfl)) rfl rfl hl.1 rfl (lv_room (Nat.le_of_ble_eq_true rfl)) d_Ev_note_21 ⟨Nat.le_of_ble_eq_true rfl, Nat.le_of_ble_eq_true rfl⟩) ?_
  refine lv_iload_n hx hb d_Ev_note_24 rfl (lv_at hl 2 rfl) ?_
  refine va_iast hx hb hK hP hD hS 2 0 rfl rfl (placeOf_in _) d_Ev_note_25 (fun H locs hP hD hS => ?_)
  have hP : va_P (dC, dI) vwCl [(b0, .inr (7, [.ref bn, .ref bt, .int (ev 0)])), (bn, .inl (cI, 16, .inl (upd en ((r_placeOf (ev 0)).toNatClampNeg) ia))), (bt, .inl (cI, 16, .inl (upd et ((r_placeOf (ev 0)).toNatClampNeg) ib)))] H := hP
  have hD : va_D A [(b0, .inr (7, [.ref bn, .ref bt, .int (ev 0)])), (bn, .inl (cI, 16, .inl (upd en ((r_placeOf (ev 0)).toNatClampNeg) ia))), (bt, .inl (cI, 16, .inl (upd et ((r_placeOf (ev 0)).toNatClampNeg) ib)))] := hD
  refine lv_aload_n hx hb d_Ev_note_26 rfl (lv_at hl 0 rfl) ?_
  refine lv_dup hx hb d_Ev_note_27 rfl ?_
  refine va_get (D := (dC, dI)) (ci := 7) (v := .int (ev 0)) (C := R_Ev) (T := T_Ev) (N := 3) hx hb hts uin_Ev hown hK hP 0 rfl rfl 2 (by decide) (hts _ wd_217) (fun _ h9 => h9) rfl d_Ev_note_28 ?_
  refine lv_iconst (v := 1) hx hb d_Ev_note_31 (by decide) ?_
  refine lv_iadd hx hb d_Ev_note_32 ?_
  refine va_put (D := (dC, dI)) (ci := 7) (v := .int ((ev 0) + 1)) (ty := .int) (C := R_Ev) (T := T_Ev) (N := 3) hx hb hts uin_Ev t_Ev t_Ev_ok n_Ev hown hK hP hD hS 0 rfl rfl 2 (by decide) (hts _ wd_217) (fun _ h9 => h9) rfl (by decide +kernel) rfl rfl (Nat.le_of_ble_eq_true rfl) d_Ev_note_33 (fun H locs hP hD hS => ?_)
  have hP : va_P (dC, dI) vwCl [(b0, .inr (7, [.ref bn, .ref bt, .int ((ev 0) + 1)])), (bn, .inl (cI, 16, .inl (upd en ((r_placeOf (ev 0)).toNatClampNeg) ia))), (bt, .inl (cI, 16, .inl (upd et ((r_placeOf (ev 0)).toNatClampNeg) ib)))] H := hP
  have hD : va_D A [(b0, .inr (7, [.ref bn, .ref bt, .int ((ev 0) + 1)])), (bn, .inl (cI, 16, .inl (upd en ((r_placeOf (ev 0)).toNatClampNeg) ia))), (bt, .inl (cI, 16, .inl (upd et ((r_placeOf (ev 0)).toNatClampNeg) ib)))] := hD
  have hP9 := hP.sub (ws' := [(b0, .inr (7, [.ref bn, .ref bt, .int ((ev 0) + 1)])), (bn, .inl (cI, 16, .inl (upd en ((r_placeOf (ev 0)).toNatClampNeg) ia))), (bt, .inl (cI, 16, .inl (upd et ((r_placeOf (ev 0)).toNatClampNeg) ib)))]) [0, 1, 2] rfl
  have hD9 := hD.sub (ws' := [(b0, .inr (7, [.ref bn, .ref bt, .int ((ev 0) + 1)])), (bn, .inl (cI, 16, .inl (upd en ((r_placeOf (ev 0)).toNatClampNeg) ia))), (bt, .inl (cI, 16, .inl (upd et ((r_placeOf (ev 0)).toNatClampNeg) ib)))]) [0, 1, 2] (by decide) rfl
  have E0 : o_note_en ev en ia = upd en ((r_placeOf (ev 0)).toNatClampNeg) ia := rfl
  have E1 : o_note_et ev et ib = upd et ((r_placeOf (ev 0)).toNatClampNeg) ib := rfl
  have E2 : o_note_ev ev = uv ev 0 ((ev 0) + 1) := rfl
  exact W.vret hx hb hr (fun t ht hW => ⟨⟨(), rfl, trivial, by rw [ht, E0, E1, E2]; exact hP9, va_K.moved hW.alike hK, by rw [E0, E1, E2]; exact hD9⟩, hS.F ht⟩) hS.2.2 d_Ev_note_36
noncomputable def r_has (ev : Nat → Int32) (ia : Int32) : Int32 := r_isWithin ia 0 ((r_min (ev 0) 16) - 1)
theorem z_has (ev : Nat → Int32) (ia : Int32) : narrow .boolean (.int (r_has ev ia)) = .int (r_has ev ia) ∧ fits .boolean (.int (r_has ev ia)) = true := by
  unfold r_has
  first | exact z_isWithin ia 0 ((r_min (ev 0) 16) - 1)
set_option maxHeartbeats 4000000 in
set_option maxRecDepth 100000 in
theorem c_has (l : Launch) (dC : Nat → ClassId) (dI : Nat → Nat → Nat) (b0 : Nat) (bn : Nat) (bt : Nat) (ev : Nat → Int32) (ia : Int32) : Met l y_Ev_has (wz y_Ev_has b_Ev_has 2 (some .boolean)) { frames := 1, cells := 0, slots := 0, locals := 22 } (va_Pc [.ref b0, .int ia] (fun U => nw U ∧ va_P (dC, dI) vwCl [(b0, .inr (7, [.ref bn, .ref bt, .int (ev 0)]))] U.heap ∧ va_K (dC, dI) vwCl [] U)) (k2_QcV (.int (r_has ev ia))) 0 0 (fun _ => False) := by
  refine Met.ofW (cc := b_Ev_has) (maxL := 2) (ret := (some .boolean)) (by decide) rfl ?_
  intro p e s m args below meth c s₁ B hml hv
  obtain ⟨rfl, hN, hP, hK⟩ := hv
  have hx := B.exec
  have hb := B.bytes
  have hr := B.returns
  have hts := fun w h => atoms_spec (ws := (wz y_Ev_has b_Ev_has 2 (some .boolean))) B.pre w (List.mem_cons_of_mem _ h)
  have hown : s.vm.findClass R_Ev = some m.cls := findClass_of_methodNamed B.named
  have hlocks := B.notSynchronized
  have hl := lv_entry ([.ref b0, .int ia]) (n := 2) (Nat.le_of_ble_eq_true rfl)
  rw [lg_entry_eq]
  generalize (lg_sl ([.ref b0, .int ia]) ++ List.replicate (2 - (lg_sl ([.ref b0, .int ia])).length) Slot.unset).toArray = ls at hl ⊢
  have hl : lv_has ls 2 [(0, .ref b0), (1, .int ia)] := hl
  refine lv_iload_n hx hb d_Ev_has_0 rfl (lv_at hl 1 rfl) ?_
  refine lv_iconst (v := 0) hx hb d_Ev_has_1 (by decide) ?_
  refine lv_aload_n hx hb d_Ev_has_2 rfl (lv_at hl 0 rfl) ?_
  refine va_get (D := (dC, dI)) (ci := 7) (v := .int (ev 0)) (C := R_Ev) (T := T_Ev) (N := 3) hx hb hts uin_Ev hown hK hP 0 rfl rfl 2 (by decide) (hts _ wd_217) (fun _ h9 => h9) rfl d_Ev_has_3 ?_
  refine lv_bipush (v := 16) hx hb d_Ev_has_6 (by decide) ?_
  refine kq_R (r := .int (r_min (ev 0) 16)) (va_runS (As := [.int (ev 0), .int 16]) (rest := [.int 0, .int ia]) ⟨hx, hb, hml, hown, hts⟩ (c_min l dC dI (ev 0) 16) (kw_S (n := 2) hts wd_666 wd_505 wd_17 wd_506 rfl rfl (by decide +kernel) ⟨Nat.le_of_ble_eq_true rfl, Nat.le_of_ble_eq_true rfl⟩) (kq_preS hN (hP.sub (ws' := []) [] rfl) (hK.sub (tys' := []) [] rfl)) rfl rfl hl.1 rfl (lv_room (Nat.le_of_ble_eq_true rfl)) d_Ev_has_8 ⟨Nat.le_of_ble_eq_true rfl, Nat.le_of_ble_eq_true rfl⟩) ?_
  refine lv_iconst (v := 1) hx hb d_Ev_has_11 (by decide) ?_
  refine lv_isub hx hb d_Ev_has_12 ?_
  refine kq_R (r := .int (r_isWithin ia 0 ((r_min (ev 0) 16) - 1))) (va_runSN (As := [.int ia, .int 0, .int ((r_min (ev 0) 16) - 1)]) (rest := []) ⟨hx, hb, hml, hown, hts⟩ (c_isWithin l dC dI ia 0 ((r_min (ev 0) 16) - 1)) (kw_SN (n := 3) hts hN wd_667 wd_314 wd_1 wd_315 rfl rfl (by decide +kernel) ⟨Nat.le_of_ble_eq_true rfl, Nat.le_of_ble_eq_true rfl⟩) (kq_preS hN (hP.sub (ws' := []) [] rfl) (hK.sub (tys' := []) [] rfl)) rfl rfl hl.1 rfl (lv_room (Nat.le_of_ble_eq_true rfl)) d_Ev_has_13 ⟨Nat.le_of_ble_eq_true rfl, Nat.le_of_ble_eq_true rfl⟩) ?_
  exact W.zret (v := r_isWithin ia 0 ((r_min (ev 0) 16) - 1)) hx hb hr (z_isWithin ia 0 ((r_min (ev 0) 16) - 1)).1 (fun t ht hW => ⟨by rw [(show r_has ev ia = r_isWithin ia 0 ((r_min (ev 0) 16) - 1) from rfl)], ht⟩) (fun q hq => by cases hq) d_Ev_has_16
noncomputable def r_numberOf (ev : Nat → Int32) (en : Nat → Int32) (ia : Int32) : Int32 := en ((r_placeOf (((ev 0) - 1) - ia)).toNatClampNeg)
set_option maxHeartbeats 4000000 in
set_option maxRecDepth 100000 in
theorem c_numberOf (l : Launch) (dC : Nat → ClassId) (dI : Nat → Nat → Nat) (b0 : Nat) (bn : Nat) (bt : Nat) (cI : ClassId) (ev : Nat → Int32) (en : Nat → Int32) (et : Nat → Int32) (ia : Int32) : Met l y_Ev_numberOf (wz y_Ev_numberOf b_Ev_numberOf 2 (some .int)) { frames := 2, cells := 0, slots := 0, locals := 42 } (va_Pc [.ref b0, .int ia] (fun U => nw U ∧ va_P (dC, dI) vwCl [(b0, .inr (7, [.ref bn, .ref bt, .int (ev 0)])), (bn, .inl (cI, 16, .inl en)), (bt, .inl (cI, 16, .inl et))] U.heap ∧ va_K (dC, dI) vwCl [(cI, .int)] U)) (k2_QcV (.int (r_numberOf ev en ia))) 0 0 (fun _ => False) := by
  refine Met.ofW (cc := b_Ev_numberOf) (maxL := 2) (ret := (some .int)) (by decide) rfl ?_
  intro p e s m args below meth c s₁ B hml hv
  obtain ⟨rfl, hN, hP, hK⟩ := hv
  have hx := B.exec
  have hb := B.bytes
  have hr := B.returns
  have hts := fun w h => atoms_spec (ws := (wz y_Ev_numberOf b_Ev_numberOf 2 (some .int))) B.pre w (List.mem_cons_of_mem _ h)
  have hown : s.vm.findClass R_Ev = some m.cls := findClass_of_methodNamed B.named
  have hlocks := B.notSynchronized
  have hl := lv_entry ([.ref b0, .int ia]) (n := 2) (Nat.le_of_ble_eq_true rfl)
  rw [lg_entry_eq]
  generalize (lg_sl ([.ref b0, .int ia]) ++ List.replicate (2 - (lg_sl ([.ref b0, .int ia])).length) Slot.unset).toArray = ls at hl ⊢
  have hl : lv_has ls 2 [(0, .ref b0), (1, .int ia)] := hl
  refine lv_aload_n hx hb d_Ev_numberOf_0 rfl (lv_at hl 0 rfl) ?_
  refine va_get (D := (dC, dI)) (ci := 7) (v := .ref bn) (C := R_Ev) (T := T_Ev) (N := 3) hx hb hts uin_Ev hown hK hP 0 rfl rfl 0 (by decide) (hts _ wd_215) (fun _ h9 => h9) rfl d_Ev_numberOf_1 ?_
  refine lv_aload_n hx hb d_Ev_numberOf_4 rfl (lv_at hl 0 rfl) ?_
  refine va_get (D := (dC, dI)) (ci := 7) (v := .int (ev 0)) (C := R_Ev) (T := T_Ev) (N := 3) hx hb hts uin_Ev hown hK hP 0 rfl rfl 2 (by decide) (hts _ wd_217) (fun _ h9 => h9) rfl d_Ev_numberOf_5 ?_
  refine lv_iconst (v := 1) hx hb d_Ev_numberOf_8 (by decide) ?_
  refine lv_isub hx hb d_Ev_numberOf_9 ?_
  refine lv_iload_n hx hb d_Ev_numberOf_10 rfl (lv_at hl 1 rfl) ?_
  refine lv_isub hx hb d_Ev_numberOf_11 ?_
  refine kq_R (r := .int (r_placeOf (((ev 0) - 1) - ia))) (va_runS (As := [.int (((ev 0) - 1) - ia)]) (rest := [.ref bn]) ⟨hx, hb, hml, hown, hts⟩ (c_placeOf l dC dI (((ev 0) - 1) - ia)) (kw_S (n := 1) hts wd_285 wd_286 wd_9 wd_287 rfl rfl (by decide +kernel) ⟨Nat.le_of_ble_eq_true rfl, Nat.le_of_ble_eq_true rfl⟩) (kq_preS hN (hP.sub (ws' := []) [] rfl) (hK.sub (tys' := []) [] rfl)) rfl rfl hl.1 rfl (lv_room (Nat.le_of_ble_eq_true rfl)) d_Ev_numberOf_12 ⟨Nat.le_of_ble_eq_true rfl, Nat.le_of_ble_eq_true rfl⟩) ?_
  refine kq_iald (j := (r_placeOf (((ev 0) - 1) - ia)).toNatClampNeg) (v := en ((r_placeOf (((ev 0) - 1) - ia)).toNatClampNeg)) hx hb hK hP 1 0 rfl rfl rfl rfl (placeOf_in _) d_Ev_numberOf_15 ?_
  exact W.iret (v := en ((r_placeOf (((ev 0) - 1) - ia)).toNatClampNeg)) hx hb hr (fun t ht hW => ⟨by rw [(show r_numberOf ev en ia = en ((r_placeOf (((ev 0) - 1) - ia)).toNatClampNeg) from rfl)], ht⟩) (fun q hq => by cases hq) d_Ev_numberOf_16
noncomputable def r_stepsAt (ev : Nat → Int32) (et : Nat → Int32) (ia : Int32) : Int32 := et ((r_placeOf (((ev 0) - 1) - ia)).toNatClampNeg)
set_option maxHeartbeats 4000000 in
set_option maxRecDepth 100000 in
theorem c_stepsAt (l : Launch) (dC : Nat → ClassId) (dI : Nat → Nat → Nat) (b0 : Nat) (bn : Nat) (bt : Nat) (cI : ClassId) (ev : Nat → Int32) (en : Nat → Int32) (et : Nat → Int32) (ia : Int32) : Met l y_Ev_stepsAt (wz y_Ev_stepsAt b_Ev_stepsAt 2 (some .int)) { frames := 2, cells := 0, slots := 0, locals := 42 } (va_Pc [.ref b0, .int ia] (fun U => nw U ∧ va_P (dC, dI) vwCl [(b0, .inr (7, [.ref bn, .ref bt, .int (ev 0)])), (bn, .inl (cI, 16, .inl en)), (bt, .inl (cI, 16, .inl et))] U.heap ∧ va_K (dC, dI) vwCl [(cI, .int)] U)) (k2_QcV (.int (r_stepsAt ev et ia))) 0 0 (fun _ => False) := by
  refine Met.ofW (cc := b_Ev_stepsAt) (maxL := 2) (ret := (some .int)) (by decide) rfl ?_
  intro p e s m args below meth c s₁ B hml hv
  obtain ⟨rfl, hN, hP, hK⟩ := hv
  have hx := B.exec
  have hb := B.bytes
  have hr := B.returns
  have hts := fun w h => atoms_spec (ws := (wz y_Ev_stepsAt b_Ev_stepsAt 2 (some .int))) B.pre w (List.mem_cons_of_mem _ h)
  have hown : s.vm.findClass R_Ev = some m.cls := findClass_of_methodNamed B.named
  have hlocks := B.notSynchronized
  have hl := lv_entry ([.ref b0, .int ia]) (n := 2) (Nat.le_of_ble_eq_true rfl)
  rw [lg_entry_eq]
  generalize (lg_sl ([.ref b0, .int ia]) ++ List.replicate (2 - (lg_sl ([.ref b0, .int ia])).length) Slot.unset).toArray = ls at hl ⊢
  have hl : lv_has ls 2 [(0, .ref b0), (1, .int ia)] := hl
  refine lv_aload_n hx hb d_Ev_stepsAt_0 rfl (lv_at hl 0 rfl) ?_
  refine va_get (D := (dC, dI)) (ci := 7) (v := .ref bt) (C := R_Ev) (T := T_Ev) (N := 3) hx hb hts uin_Ev hown hK hP 0 rfl rfl 1 (by decide) (hts _ wd_216) (fun _ h9 => h9) rfl d_Ev_stepsAt_1 ?_
  refine lv_aload_n hx hb d_Ev_stepsAt_4 rfl (lv_at hl 0 rfl) ?_
  refine va_get (D := (dC, dI)) (ci := 7) (v := .int (ev 0)) (C := R_Ev) (T := T_Ev) (N := 3) hx hb hts uin_Ev hown hK hP 0 rfl rfl 2 (by decide) (hts _ wd_217) (fun _ h9 => h9) rfl d_Ev_stepsAt_5 ?_
  refine lv_iconst (v := 1) hx hb d_Ev_stepsAt_8 (by decide) ?_
  refine lv_isub hx hb d_Ev_stepsAt_9 ?_
  refine lv_iload_n hx hb d_Ev_stepsAt_10 rfl (lv_at hl 1 rfl) ?_
  refine lv_isub hx hb d_Ev_stepsAt_11 ?_
  refine kq_R (r := .int (r_placeOf (((ev 0) - 1) - ia))) (va_runS (As := [.int (((ev 0) - 1) - ia)]) (rest := [.ref bt]) ⟨hx, hb, hml, hown, hts⟩ (c_placeOf l dC dI (((ev 0) - 1) - ia)) (kw_S (n := 1) hts wd_285 wd_286 wd_9 wd_287 rfl rfl (by decide +kernel) ⟨Nat.le_of_ble_eq_true rfl, Nat.le_of_ble_eq_true rfl⟩) (kq_preS hN (hP.sub (ws' := []) [] rfl) (hK.sub (tys' := []) [] rfl)) rfl rfl hl.1 rfl (lv_room (Nat.le_of_ble_eq_true rfl)) d_Ev_stepsAt_12 ⟨Nat.le_of_ble_eq_true rfl, Nat.le_of_ble_eq_true rfl⟩) ?_
  refine kq_iald (j := (r_placeOf (((ev 0) - 1) - ia)).toNatClampNeg) (v := et ((r_placeOf (((ev 0) - 1) - ia)).toNatClampNeg)) hx hb hK hP 2 0 rfl rfl rfl rfl (placeOf_in _) d_Ev_stepsAt_15 ?_
  exact W.iret (v := et ((r_placeOf (((ev 0) - 1) - ia)).toNatClampNeg)) hx hb hr (fun t ht hW => ⟨by rw [(show r_stepsAt ev et ia = et ((r_placeOf (((ev 0) - 1) - ia)).toNatClampNeg) from rfl)], ht⟩) (fun q hq => by cases hq) d_Ev_stepsAt_16
