noncomputable def r_restOf (ia : Int32) (ib : Int32) : Int32 := r_root ((ia.toInt64 * ia.toInt64) - (ib.toInt64 * ib.toInt64))
set_option maxHeartbeats 4000000 in
set_option maxRecDepth 100000 in
theorem c_restOf (l : Launch) (dC : Nat → ClassId) (dI : Nat → Nat → Nat) (ia : Int32) (ib : Int32) : Met l y_Co_restOf (wz y_Co_restOf b_Co_restOf 2 (some .int)) { frames := 1, cells := 0, slots := 0, locals := 26 } (va_Pc [.int ia, .int ib] (fun U => nw U ∧ va_P (dC, dI) vwCl [] U.heap ∧ va_K (dC, dI) vwCl [] U)) (k2_QcV (.int (r_restOf ia ib))) 0 0 (fun _ => False) := by
  refine Met.ofW (cc := b_Co_restOf) (maxL := 2) (ret := (some .int)) (by decide) rfl ?_
  intro p e s m args below meth c s₁ B hml hv
  obtain ⟨rfl, hN, hP, hK⟩ := hv
  have hx := B.exec
  have hb := B.bytes
  have hr := B.returns
  have hts := fun w h => atoms_spec (ws := (wz y_Co_restOf b_Co_restOf 2 (some .int))) B.pre w (List.mem_cons_of_mem _ h)
  have hown : s.vm.findClass R_Co = some m.cls := findClass_of_methodNamed B.named
  have hlocks := B.notSynchronized
  have hl := lv_entry ([.int ia, .int ib]) (n := 2) (Nat.le_of_ble_eq_true rfl)
  rw [lg_entry_eq]
  generalize (lg_sl ([.int ia, .int ib]) ++ List.replicate (2 - (lg_sl ([.int ia, .int ib])).length) Slot.unset).toArray = ls at hl ⊢
  have hl : lv_has ls 2 [(0, .int ia), (1, .int ib)] := hl
  refine lv_iload_n hx hb d_Co_restOf_0 rfl (lv_at hl 0 rfl) ?_
  refine lv_i2l hx hb d_Co_restOf_1 rfl ?_
  refine lv_iload_n hx hb d_Co_restOf_2 rfl (lv_at hl 0 rfl) ?_
  refine lv_i2l hx hb d_Co_restOf_3 rfl ?_
  refine lv_lmul hx hb d_Co_restOf_4 ?_
  refine lv_iload_n hx hb d_Co_restOf_5 rfl (lv_at hl 1 rfl) ?_
  refine lv_i2l hx hb d_Co_restOf_6 rfl ?_
  refine lv_iload_n hx hb d_Co_restOf_7 rfl (lv_at hl 1 rfl) ?_
  refine lv_i2l hx hb d_Co_restOf_8 rfl ?_
  refine lv_lmul hx hb d_Co_restOf_9 ?_
  refine lv_lsub hx hb d_Co_restOf_10 ?_
  refine kq_R (r := .int (r_root ((ia.toInt64 * ia.toInt64) - (ib.toInt64 * ib.toInt64)))) (va_runSN (As := [.long ((ia.toInt64 * ia.toInt64) - (ib.toInt64 * ib.toInt64))]) (rest := []) ⟨hx, hb, hml, hown, hts⟩ (c_root l dC dI ((ia.toInt64 * ia.toInt64) - (ib.toInt64 * ib.toInt64))) (kw_SN (n := 1) hts hN wd_586 wd_488 wd_1 wd_489 rfl rfl (by decide +kernel) ⟨Nat.le_of_ble_eq_true rfl, Nat.le_of_ble_eq_true rfl⟩) (kq_preS hN (hP.sub (ws' := []) [] rfl) (hK.sub (tys' := []) [] rfl)) rfl rfl hl.1 rfl (lv_room (Nat.le_of_ble_eq_true rfl)) d_Co_restOf_11 ⟨Nat.le_of_ble_eq_true rfl, Nat.le_of_ble_eq_true rfl⟩) ?_
  exact W.iret (v := r_root ((ia.toInt64 * ia.toInt64) - (ib.toInt64 * ib.toInt64))) hx hb hr (fun t ht hW => ⟨by rw [(show r_restOf ia ib = r_root ((ia.toInt64 * ia.toInt64) - (ib.toInt64 * ib.toInt64)) from rfl)], ht⟩) (fun q hq => by cases hq) d_Co_restOf_14
noncomputable def r_activeTarget (co : Nat → Int32) (se : Nat → Int32) (ia : Int32) : Int32 := if ia ≤ (se 7) then r_limited (co 0) 0 (se 0) else r_limited ((co 0) - ((se 8) * ((ia - (se 7)) / 100))) 0 (se 0)
set_option maxHeartbeats 4000000 in
set_option maxRecDepth 100000 in
theorem c_activeTarget (l : Launch) (dC : Nat → ClassId) (dI : Nat → Nat → Nat) (b0 : Nat) (ba : Nat) (cI : ClassId) (co : Nat → Int32) (se : Nat → Int32) (ia : Int32) : Met l y_Co_activeTarget (wz y_Co_activeTarget b_Co_activeTarget 4 (some .int)) { frames := 2, cells := 0, slots := 0, locals := 43 } (va_Pc [.ref b0, .ref ba, .int ia] (fun U => nw U ∧ va_P (dC, dI) vwCl [(b0, .inr (5, [.int (co 0), .int (co 1), .int (co 2), .int (co 3), .int (co 4)])), (ba, .inl (cI, 12, .inl se))] U.heap ∧ va_K (dC, dI) vwCl [(cI, .int)] U)) (k2_QcV (.int (r_activeTarget co se ia))) 0 0 (fun _ => False) := by
  refine Met.ofW (cc := b_Co_activeTarget) (maxL := 4) (ret := (some .int)) (by decide) rfl ?_
  intro p e s m args below meth c s₁ B hml hv
  obtain ⟨rfl, hN, hP, hK⟩ := hv
  have hx := B.exec
  have hb := B.bytes
  have hr := B.returns
  have hts := fun w h => atoms_spec (ws := (wz y_Co_activeTarget b_Co_activeTarget 4 (some .int))) B.pre w (List.mem_cons_of_mem _ h)
  have hown : s.vm.findClass R_Co = some m.cls := findClass_of_methodNamed B.named
  have hlocks := B.notSynchronized
  have hl := lv_entry ([.ref b0, .ref ba, .int ia]) (n := 4) (Nat.le_of_ble_eq_true rfl)
  rw [lg_entry_eq]
  generalize (lg_sl ([.ref b0, .ref ba, .int ia]) ++ List.replicate (4 - (lg_sl ([.ref b0, .ref ba, .int ia])).length) Slot.unset).toArray = ls at hl ⊢
  have hl : lv_has ls 4 [(0, .ref b0), (1, .ref ba), (2, .int ia)] := hl
  refine lv_aload_n hx hb d_Co_activeTarget_0 rfl (lv_at hl 0 rfl) ?_
  refine va_get (D := (dC, dI)) (ci := 5) (v := .int (co 0)) (C := R_Co) (T := T_Co) (N := 5) hx hb hts uin_Co hown hK hP 0 rfl rfl 0 (by decide) (hts _ wd_168) (fun _ h9 => h9) rfl d_Co_activeTarget_1 ?_
  refine lv_istore_n (lv' := [(3, .int (co 0)), (0, .ref b0), (1, .ref ba), (2, .int ia)]) hx hb d_Co_activeTarget_4 rfl hl (by decide) rfl (fun ls hl => ?_)
  refine lv_iload_n hx hb d_Co_activeTarget_5 rfl (lv_at hl 3 rfl) ?_
  refine lv_aload_n hx hb d_Co_activeTarget_6 rfl (lv_at hl 2 rfl) ?_
  refine lv_bipush (v := 7) hx hb d_Co_activeTarget_7 (by decide) ?_
  refine kq_iald (j := 7) (v := se 7) hx hb hK hP 1 0 rfl rfl (by decide) rfl (kq_in (by decide)) d_Co_activeTarget_9 ?_
  refine lv_icmp_le hx hb (tgt := 30) d_Co_activeTarget_10 rfl (fun h1 => ?_) (fun h1 => ?_)
  · refine lv_iload_n hx hb d_Co_activeTarget_30 rfl (lv_at hl 0 rfl) ?_
    refine lv_iconst (v := 0) hx hb d_Co_activeTarget_31 (by decide) ?_
    refine lv_aload_n hx hb d_Co_activeTarget_32 rfl (lv_at hl 2 rfl) ?_
    refine lv_iconst (v := 0) hx hb d_Co_activeTarget_33 (by decide) ?_
    refine kq_iald (j := 0) (v := se 0) hx hb hK hP 1 0 rfl rfl (by decide) rfl (kq_in (by decide)) d_Co_activeTarget_34 ?_
    refine kq_R (r := .int (r_limited (co 0) 0 (se 0))) (va_runSN (As := [.int (co 0), .int 0, .int (se 0)]) (rest := []) ⟨hx, hb, hml, hown, hts⟩ (c_limited l dC dI (co 0) 0 (se 0)) (kw_SN (n := 3) hts hN wd_581 wd_502 wd_1 wd_503 rfl rfl (by decide +kernel) ⟨Nat.le_of_ble_eq_true rfl, Nat.le_of_ble_eq_true rfl⟩) (kq_preS hN (hP.sub (ws' := []) [] rfl) (hK.sub (tys' := []) [] rfl)) rfl rfl hl.1 rfl (lv_room (Nat.le_of_ble_eq_true rfl)) d_Co_activeTarget_35 ⟨Nat.le_of_ble_eq_true rfl, Nat.le_of_ble_eq_true rfl⟩) ?_
    exact W.iret (v := r_limited (co 0) 0 (se 0)) hx hb hr (fun t ht hW => ⟨by rw [(show r_activeTarget co se ia = r_limited (co 0) 0 (se 0) from by unfold r_activeTarget; rw [if_pos h1])], ht⟩) (fun q hq => by cases hq) d_Co_activeTarget_38
  · refine lv_iload_n hx hb d_Co_activeTarget_13 rfl (lv_at hl 0 rfl) ?_
    refine lv_aload_n hx hb d_Co_activeTarget_14 rfl (lv_at hl 2 rfl) ?_
    refine lv_bipush (v := 8) hx hb d_Co_activeTarget_15 (by decide) ?_
    refine kq_iald (j := 8) (v := se 8) hx hb hK hP 1 0 rfl rfl (by decide) rfl (kq_in (by decide)) d_Co_activeTarget_17 ?_
    refine lv_iload_n hx hb d_Co_activeTarget_18 rfl (lv_at hl 3 rfl) ?_
    refine lv_aload_n hx hb d_Co_activeTarget_19 rfl (lv_at hl 2 rfl) ?_
    refine lv_bipush (v := 7) hx hb d_Co_activeTarget_20 (by decide) ?_
    refine kq_iald (j := 7) (v := se 7) hx hb hK hP 1 0 rfl rfl (by decide) rfl (kq_in (by decide)) d_Co_activeTarget_22 ?_
    refine lv_isub hx hb d_Co_activeTarget_23 ?_
    refine lv_bipush (v := 100) hx hb d_Co_activeTarget_24 (by decide) ?_
    refine lv_idiv hx hb d_Co_activeTarget_26 (by decide) ?_
    refine lv_imul hx hb d_Co_activeTarget_27 ?_
    refine lv_isub hx hb d_Co_activeTarget_28 ?_
    refine lv_istore_n (lv' := [(3, .int ((co 0) - ((se 8) * ((ia - (se 7)) / 100)))), (0, .ref b0), (1, .ref ba), (2, .int ia)]) hx hb d_Co_activeTarget_29 rfl hl (by decide) rfl (fun ls hl => ?_)
    refine lv_iload_n hx hb d_Co_activeTarget_30 rfl (lv_at hl 0 rfl) ?_
    refine lv_iconst (v := 0) hx hb d_Co_activeTarget_31 (by decide) ?_
    refine lv_aload_n hx hb d_Co_activeTarget_32 rfl (lv_at hl 2 rfl) ?_
    refine lv_iconst (v := 0) hx hb d_Co_activeTarget_33 (by decide) ?_
    refine kq_iald (j := 0) (v := se 0) hx hb hK hP 1 0 rfl rfl (by decide) rfl (kq_in (by decide)) d_Co_activeTarget_34 ?_
    refine kq_R (r := .int (r_limited ((co 0) - ((se 8) * ((ia - (se 7)) / 100))) 0 (se 0))) (va_runSN (As := [.int ((co 0) - ((se 8) * ((ia - (se 7)) / 100))), .int 0, .int (se 0)]) (rest := []) ⟨hx, hb, hml, hown, hts⟩ (c_limited l dC dI ((co 0) - ((se 8) * ((ia - (se 7)) / 100))) 0 (se 0)) (kw_SN (n := 3) hts hN wd_581 wd_502 wd_1 wd_503 rfl rfl (by decide +kernel) ⟨Nat.le_of_ble_eq_true rfl, Nat.le_of_ble_eq_true rfl⟩) (kq_preS hN (hP.sub (ws' := []) [] rfl) (hK.sub (tys' := []) [] rfl)) rfl rfl hl.1 rfl (lv_room (Nat.le_of_ble_eq_true rfl)) d_Co_activeTarget_35 ⟨Nat.le_of_ble_eq_true rfl, Nat.le_of_ble_eq_true rfl⟩) ?_
    exact W.iret (v := r_limited ((co 0) - ((se 8) * ((ia - (se 7)) / 100))) 0 (se 0)) hx hb hr (fun t ht hW => ⟨by rw [(show r_activeTarget co se ia = r_limited ((co 0) - ((se 8) * ((ia - (se 7)) / 100))) 0 (se 0) from by unfold r_activeTarget; rw [if_neg h1])], ht⟩) (fun q hq => by cases hq) d_Co_activeTarget_38
noncomputable def v_approach_0 (co : Nat → Int32) (se : Nat → Int32) (ib : Int32) : Int32 := (co 2) + (r_limited ((r_activeTarget co se ib) - (co 2)) (-(se 1)) (se 1))
noncomputable def v_approach_1 (co : Nat → Int32) (se : Nat → Int32) (ia : Int32) : Int32 := r_limited ((co 1) + (((se 10) * (10000 - ia)) / 100)) (-(se 0)) (se 0)
noncomputable def v_approach_2 (co : Nat → Int32) (se : Nat → Int32) (ia : Int32) (ib : Int32) : Int32 := r_min (v_approach_0 co se ib) (r_restOf (se 0) (v_approach_1 co se ia))
noncomputable def v_approach_3 (co : Nat → Int32) (se : Nat → Int32) (ia : Int32) (ib : Int32) : Int32 := r_limited (v_approach_1 co se ia) (-(r_restOf (se 0) (r_min (v_approach_0 co se ib) (se 0)))) (r_restOf (se 0) (r_min (v_approach_0 co se ib) (se 0)))
noncomputable def o_approach_co (co : Nat → Int32) (se : Nat → Int32) (ia : Int32) (ib : Int32) : Nat → Int32 := if (se 9) = 0 then uv (uv (uv co 2 (v_approach_0 co se ib)) 3 (r_min (v_approach_0 co se ib) (se 0))) 4 (v_approach_3 co se ia ib) else uv (uv (uv co 2 (v_approach_0 co se ib)) 3 (v_approach_2 co se ia ib)) 4 (v_approach_1 co se ia)
set_option maxHeartbeats 4000000 in
set_option maxRecDepth 100000 in
theorem c_approach (l : Launch) (dC : Nat → ClassId) (dI : Nat → Nat → Nat) (b0 : Nat) (ba : Nat) (cI : ClassId) (co : Nat → Int32) (se : Nat → Int32) (ia : Int32) (ib : Int32) (sz : Nat) : Met l y_Co_approach (wz y_Co_approach b_Co_approach 9 none) { frames := 3, cells := 0, slots := 0, locals := 66 } (va_Pc [.ref b0, .ref ba, .int ia, .int ib] (fun U => U.heap.size = sz ∧ nw U ∧ va_P (dC, dI) vwCl [(b0, .inr (5, [.int (co 0), .int (co 1), .int (co 2), .int (co 3), .int (co 4)])), (ba, .inl (cI, 12, .inl se))] U.heap ∧ va_K (dC, dI) vwCl [(cI, .int)] U ∧ va_D (fun _ => True) [(b0, .inr (5, [.int (co 0), .int (co 1), .int (co 2), .int (co 3), .int (co 4)])), (ba, .inl (cI, 12, .inl se))])) (va_Qv (fun _ : Unit => True) (fun _ t => va_P (dC, dI) vwCl [(b0, .inr (5, [.int ((o_approach_co co se ia ib) 0), .int ((o_approach_co co se ia ib) 1), .int ((o_approach_co co se ia ib) 2), .int ((o_approach_co co se ia ib) 3), .int ((o_approach_co co se ia ib) 4)])), (ba, .inl (cI, 12, .inl se))] t.heap ∧ va_K (dC, dI) vwCl [(cI, .int)] t ∧ va_D (va_A [(b0, .inr (5, [.int (co 0), .int (co 1), .int (co 2), .int (co 3), .int (co 4)])), (ba, .inl (cI, 12, .inl se))] sz) [(b0, .inr (5, [.int ((o_approach_co co se ia ib) 0), .int ((o_approach_co co se ia ib) 1), .int ((o_approach_co co se ia ib) 2), .int ((o_approach_co co se ia ib) 3), .int ((o_approach_co co se ia ib) 4)])), (ba, .inl (cI, 12, .inl se))]) (va_A [(b0, .inr (5, [.int (co 0), .int (co 1), .int (co 2), .int (co 3), .int (co 4)])), (ba, .inl (cI, 12, .inl se))] sz)) 0 0 (va_A [(b0, .inr (5, [.int (co 0), .int (co 1), .int (co 2), .int (co 3), .int (co 4)])), (ba, .inl (cI, 12, .inl se))] sz) := by
  refine Met.ofW (cc := b_Co_approach) (maxL := 9) (ret := none) (by decide) rfl ?_
  intro p e s m args below meth c s₁ B hml hv
  obtain ⟨rfl, hsz, hN, hP, hK, hD0⟩ := hv
  have hx := B.exec
  have hb := B.bytes
  have hr := B.returns
  have hts := fun w h => atoms_spec (ws := (wz y_Co_approach b_Co_approach 9 none)) B.pre w (List.mem_cons_of_mem _ h)
  have hown : s.vm.findClass R_Co = some m.cls := findClass_of_methodNamed B.named
  have hlocks := B.notSynchronized
  subst hsz
  have hD := hD0.self (sz := s.heap.size)
  generalize hAe : va_A [(b0, .inr (5, [.int (co 0), .int (co 1), .int (co 2), .int (co 3), .int (co 4)])), (ba, .inl (cI, 12, .inl se))] s.heap.size = A at hD ⊢
  have hA : ∀ q : Nat, s.heap.size ≤ q → A q := fun q h => by rw [← hAe]; exact Or.inr h
  have hS : va_S A s.heap s.heap [] := va_S.rf
  have hl := lv_entry ([.ref b0, .ref ba, .int ia, .int ib]) (n := 9) (Nat.le_of_ble_eq_true rfl)
  rw [lg_entry_eq]
  generalize (lg_sl ([.ref b0, .ref ba, .int ia, .int ib]) ++ List.replicate (9 - (lg_sl ([.ref b0, .ref ba, .int ia, .int ib])).length) Slot.unset).toArray = ls at hl ⊢
  have hl : lv_has ls 9 [(0, .ref b0), (1, .ref ba), (2, .int ia), (3, .int ib)] := hl
  refine lv_aload_n hx hb d_Co_approach_0 rfl (lv_at hl 1 rfl) ?_
  refine lv_iconst (v := 0) hx hb d_Co_approach_1 (by decide) ?_
  refine kq_iald (j := 0) (v := se 0) hx hb hK hP 1 0 rfl rfl (by decide) rfl (kq_in (by decide)) d_Co_approach_2 ?_
  refine lv_istore (lv' := [(4, .int (se 0)), (0, .ref b0), (1, .ref ba), (2, .int ia), (3, .int ib)]) hx hb d_Co_approach_3 hl (by decide) rfl (fun ls hl => ?_)
  refine lv_aload_n hx hb d_Co_approach_5 rfl (lv_at hl 2 rfl) ?_
  refine lv_iconst (v := 1) hx hb d_Co_approach_6 (by decide) ?_
  refine kq_iald (j := 1) (v := se 1) hx hb hK hP 1 0 rfl rfl (by decide) rfl (kq_in (by decide)) d_Co_approach_7 ?_
  refine lv_istore (lv' := [(5, .int (se 1)), (4, .int (se 0)), (0, .ref b0), (1, .ref ba), (2, .int ia), (3, .int ib)]) hx hb d_Co_approach_8 hl (by decide) rfl (fun ls hl => ?_)
  refine lv_aload_n hx hb d_Co_approach_10 rfl (lv_at hl 2 rfl) ?_
  refine lv_dup hx hb d_Co_approach_11 rfl ?_
  refine va_get (D := (dC, dI)) (ci := 5) (v := .int (co 2)) (C := R_Co) (T := T_Co) (N := 5) hx hb hts uin_Co hown hK hP 0 rfl rfl 2 (by decide) (hts _ wd_172) (fun _ h9 => h9) rfl d_Co_approach_12 ?_
  refine lv_aload_n hx hb d_Co_approach_15 rfl (lv_at hl 2 rfl) ?_
  refine lv_aload_n hx hb d_Co_approach_16 rfl (lv_at hl 3 rfl) ?_
  refine lv_iload_n hx hb d_Co_approach_17 rfl (lv_at hl 5 rfl) ?_
  refine kq_R (r := .int (r_activeTarget co se ib)) (va_runV (As := [.ref ba, .int ib]) (rest := [.int (co 2), .ref b0]) ⟨hx, hb, hml, hown, hts⟩ (c_activeTarget l dC dI b0 ba cI co se ib) (kw_V (n := 2) hts wd_577 wd_579 wp_13 wd_7 wd_580 rfl rfl (by decide +kernel) ⟨Nat.le_of_ble_eq_true rfl, Nat.le_of_ble_eq_true rfl⟩) (kq_preV hN (hP.sub (ws' := [(b0, .inr (5, [.int (co 0), .int (co 1), .int (co 2), .int (co 3), .int (co 4)])), (ba, .inl (cI, 12, .inl se))]) [0, 1] rfl) (hK.sub (tys' := [(cI, .int)]) [0] rfl) 0 rfl rfl) rfl rfl hl.1 rfl (lv_room (Nat.le_of_ble_eq_true rfl)) d_Co_approach_18 ⟨Nat.le_of_ble_eq_true rfl, Nat.le_of_ble_eq_true rfl⟩) ?_
  refine lv_aload_n hx hb d_Co_approach_21 rfl (lv_at hl 2 rfl) ?_
  refine va_get (D := (dC, dI)) (ci := 5) (v := .int (co 2)) (C := R_Co) (T := T_Co) (N := 5) hx hb hts uin_Co hown hK hP 0 rfl rfl 2 (by decide) (hts _ wd_172) (fun _ h9 => h9) rfl d_Co_approach_22 ?_
  refine lv_isub hx hb d_Co_approach_25 ?_
  refine lv_iload hx hb d_Co_approach_26 (lv_at hl 0 rfl) ?_
  refine lv_ineg hx hb d_Co_approach_28 ?_
  refine lv_iload hx hb d_Co_approach_29 (lv_at hl 0 rfl) ?_
  refine kq_R (r := .int (r_limited ((r_activeTarget co se ib) - (co 2)) (-(se 1)) (se 1))) (va_runSN (As := [.int ((r_activeTarget co se ib) - (co 2)), .int (-(se 1)), .int (se 1)]) (rest := [.int (co 2), .ref b0]) ⟨hx, hb, hml, hown, hts⟩ (c_limited l dC dI ((r_activeTarget co se ib) - (co 2)) (-(se 1)) (se 1)) (kw_SN (n := 3) hts hN wd_581 wd_502 wd_1 wd_503 rfl rfl (by decide +kernel) ⟨Nat.le_of_ble_eq_true rfl, Nat.le_of_ble_eq_true rfl⟩) (kq_preS hN (hP.sub (ws' := []) [] rfl) (hK.sub (tys' := []) [] rfl)) rfl rfl hl.1 rfl (lv_room (Nat.le_of_ble_eq_true rfl)) d_Co_approach_31 ⟨Nat.le_of_ble_eq_true rfl, Nat.le_of_ble_eq_true rfl⟩) ?_
  refine lv_iadd hx hb d_Co_approach_34 ?_
  refine kq_fi (y := v_approach_0 co se ib) rfl ?_
  refine va_put (D := (dC, dI)) (ci := 5) (v := .int (v_approach_0 co se ib)) (ty := .int) (C := R_Co) (T := T_Co) (N := 5) hx hb hts uin_Co t_Co t_Co_ok n_Co hown hK hP hD hS 0 rfl rfl 2 (by decide) (hts _ wd_172) (fun _ h9 => h9) rfl (by decide +kernel) rfl rfl (Nat.le_of_ble_eq_true rfl) d_Co_approach_35 (fun H locs hP hD hS => ?_)
  have hP : va_P (dC, dI) vwCl [(b0, .inr (5, [.int (co 0), .int (co 1), .int (v_approach_0 co se ib), .int (co 3), .int (co 4)])), (ba, .inl (cI, 12, .inl se))] H := hP
  have hD : va_D A [(b0, .inr (5, [.int (co 0), .int (co 1), .int (v_approach_0 co se ib), .int (co 3), .int (co 4)])), (ba, .inl (cI, 12, .inl se))] := hD
  refine lv_aload_n hx hb d_Co_approach_38 rfl (lv_at hl 3 rfl) ?_
  refine lv_bipush (v := 10) hx hb d_Co_approach_39 (by decide) ?_
  refine kq_iald (j := 10) (v := se 10) hx hb hK hP 1 0 rfl rfl (by decide) rfl (kq_in (by decide)) d_Co_approach_41 ?_
  refine lv_sipush (v := 10000) hx hb d_Co_approach_42 (by decide) ?_
  refine lv_iload_n hx hb d_Co_approach_45 rfl (lv_at hl 4 rfl) ?_
  refine lv_isub hx hb d_Co_approach_46 ?_
  refine lv_imul hx hb d_Co_approach_47 ?_
  refine lv_bipush (v := 100) hx hb d_Co_approach_48 (by decide) ?_
  refine lv_idiv hx hb d_Co_approach_50 (by decide) ?_
  refine lv_istore (lv' := [(6, .int (((se 10) * (10000 - ia)) / 100)), (5, .int (se 1)), (4, .int (se 0)), (0, .ref b0), (1, .ref ba), (2, .int ia), (3, .int ib)]) hx hb d_Co_approach_51 hl (by decide) rfl (fun ls hl => ?_)
  refine lv_aload_n hx hb d_Co_approach_53 rfl (lv_at hl 3 rfl) ?_
  refine va_get (D := (dC, dI)) (ci := 5) (v := .int (co 1)) (C := R_Co) (T := T_Co) (N := 5) hx hb hts uin_Co hown hK hP 0 rfl rfl 1 (by decide) (hts _ wd_170) (fun _ h9 => h9) rfl d_Co_approach_54 ?_
  refine lv_iload hx hb d_Co_approach_57 (lv_at hl 0 rfl) ?_
  refine lv_iadd hx hb d_Co_approach_59 ?_
  refine lv_iload hx hb d_Co_approach_60 (lv_at hl 2 rfl) ?_
  refine lv_ineg hx hb d_Co_approach_62 ?_
  refine lv_iload hx hb d_Co_approach_63 (lv_at hl 2 rfl) ?_
  refine kq_R (r := .int (r_limited ((co 1) + (((se 10) * (10000 - ia)) / 100)) (-(se 0)) (se 0))) (va_runSN (As := [.int ((co 1) + (((se 10) * (10000 - ia)) / 100)), .int (-(se 0)), .int (se 0)]) (rest := []) ⟨hx, hb, hml, hown, hts⟩ (c_limited l dC dI ((co 1) + (((se 10) * (10000 - ia)) / 100)) (-(se 0)) (se 0)) (kw_SN (n := 3) hts hN wd_581 wd_502 wd_1 wd_503 rfl rfl (by decide +kernel) ⟨Nat.le_of_ble_eq_true rfl, Nat.le_of_ble_eq_true rfl⟩) (kq_preS hN (hP.sub (ws' := []) [] rfl) (hK.sub (tys' := []) [] rfl)) rfl rfl hl.1 rfl (lv_room (Nat.le_of_ble_eq_true rfl)) d_Co_approach_65 ⟨Nat.le_of_ble_eq_true rfl, Nat.le_of_ble_eq_true rfl⟩) ?_
  refine kq_fi (y := v_approach_1 co se ia) rfl ?_
  refine lv_istore (lv' := [(7, .int (v_approach_1 co se ia)), (6, .int (((se 10) * (10000 - ia)) / 100)), (5, .int (se 1)), (4, .int (se 0)), (0, .ref b0), (1, .ref ba), (2, .int ia), (3, .int ib)]) hx hb d_Co_approach_68 hl (by decide) rfl (fun ls hl => ?_)
  refine lv_aload_n hx hb d_Co_approach_70 rfl (lv_at hl 5 rfl) ?_
  refine lv_bipush (v := 9) hx hb d_Co_approach_71 (by decide) ?_
  refine kq_iald (j := 9) (v := se 9) hx hb hK hP 1 0 rfl rfl (by decide) rfl (kq_in (by decide)) d_Co_approach_73 ?_
  refine lv_if_ne hx hb (tgt := 118) d_Co_approach_74 rfl (fun h1 => ?_) (fun h1 => ?_)
  · refine lv_aload_n hx hb d_Co_approach_118 rfl (lv_at hl 4 rfl) ?_
    refine lv_iload hx hb d_Co_approach_119 (lv_at hl 0 rfl) ?_
    refine va_put (D := (dC, dI)) (ci := 5) (v := .int (v_approach_1 co se ia)) (ty := .int) (C := R_Co) (T := T_Co) (N := 5) hx hb hts uin_Co t_Co t_Co_ok n_Co hown hK hP hD hS 0 rfl rfl 4 (by decide) (hts _ wd_176) (fun _ h9 => h9) rfl (by decide +kernel) rfl rfl (Nat.le_of_ble_eq_true rfl) d_Co_approach_121 (fun H locs hP hD hS => ?_)
    have hP : va_P (dC, dI) vwCl [(b0, .inr (5, [.int (co 0), .int (co 1), .int (v_approach_0 co se ib), .int (co 3), .int (v_approach_1 co se ia)])), (ba, .inl (cI, 12, .inl se))] H := hP
    have hD : va_D A [(b0, .inr (5, [.int (co 0), .int (co 1), .int (v_approach_0 co se ib), .int (co 3), .int (v_approach_1 co se ia)])), (ba, .inl (cI, 12, .inl se))] := hD
    refine lv_aload_n hx hb d_Co_approach_124 rfl (lv_at hl 4 rfl) ?_
    refine lv_aload_n hx hb d_Co_approach_125 rfl (lv_at hl 4 rfl) ?_
    refine va_get (D := (dC, dI)) (ci := 5) (v := .int (v_approach_0 co se ib)) (C := R_Co) (T := T_Co) (N := 5) hx hb hts uin_Co hown hK hP 0 rfl rfl 2 (by decide) (hts _ wd_172) (fun _ h9 => h9) rfl d_Co_approach_126 ?_
    refine lv_iload hx hb d_Co_approach_129 (lv_at hl 3 rfl) ?_
    refine lv_aload_n hx hb d_Co_approach_131 rfl (lv_at hl 4 rfl) ?_
    refine va_get (D := (dC, dI)) (ci := 5) (v := .int (v_approach_1 co se ia)) (C := R_Co) (T := T_Co) (N := 5) hx hb hts uin_Co hown hK hP 0 rfl rfl 4 (by decide) (hts _ wd_176) (fun _ h9 => h9) rfl d_Co_approach_132 ?_
    refine kq_R (r := .int (r_restOf (se 0) (v_approach_1 co se ia))) (va_runS (As := [.int (se 0), .int (v_approach_1 co se ia)]) (rest := [.int (v_approach_0 co se ib), .ref b0]) ⟨hx, hb, hml, hown, hts⟩ (c_restOf l dC dI (se 0) (v_approach_1 co se ia)) (kw_S (n := 2) hts wd_583 wd_584 wd_7 wd_585 rfl rfl (by decide +kernel) ⟨Nat.le_of_ble_eq_true rfl, Nat.le_of_ble_eq_true rfl⟩) (kq_preS hN (hP.sub (ws' := []) [] rfl) (hK.sub (tys' := []) [] rfl)) rfl rfl hl.1 rfl (lv_room (Nat.le_of_ble_eq_true rfl)) d_Co_approach_135 ⟨Nat.le_of_ble_eq_true rfl, Nat.le_of_ble_eq_true rfl⟩) ?_
    refine kq_R (r := .int (r_min (v_approach_0 co se ib) (r_restOf (se 0) (v_approach_1 co se ia)))) (va_runS (As := [.int (v_approach_0 co se ib), .int (r_restOf (se 0) (v_approach_1 co se ia))]) (rest := [.ref b0]) ⟨hx, hb, hml, hown, hts⟩ (c_min l dC dI (v_approach_0 co se ib) (r_restOf (se 0) (v_approach_1 co se ia))) (kw_S (n := 2) hts wd_582 wd_505 wd_17 wd_506 rfl rfl (by decide +kernel) ⟨Nat.le_of_ble_eq_true rfl, Nat.le_of_ble_eq_true rfl⟩) (kq_preS hN (hP.sub (ws' := []) [] rfl) (hK.sub (tys' := []) [] rfl)) rfl rfl hl.1 rfl (lv_room (Nat.le_of_ble_eq_true rfl)) d_Co_approach_138 ⟨Nat.le_of_ble_eq_true rfl, Nat.le_of_ble_eq_true rfl⟩) ?_
    refine kq_fi (y := v_approach_2 co se ia ib) rfl ?_
    refine va_put (D := (dC, dI)) (ci := 5) (v := .int (v_approach_2 co se ia ib)) (ty := .int) (C := R_Co) (T := T_Co) (N := 5) hx hb hts uin_Co t_Co t_Co_ok n_Co hown hK hP hD hS 0 rfl rfl 3 (by decide) (hts _ wd_174) (fun _ h9 => h9) rfl (by decide +kernel) rfl rfl (Nat.le_of_ble_eq_true rfl) d_Co_approach_141 (fun H locs hP hD hS => ?_)
    have hP : va_P (dC, dI) vwCl [(b0, .inr (5, [.int (co 0), .int (co 1), .int (v_approach_0 co se ib), .int (v_approach_2 co se ia ib), .int (v_approach_1 co se ia)])), (ba, .inl (cI, 12, .inl se))] H := hP
    have hD : va_D A [(b0, .inr (5, [.int (co 0), .int (co 1), .int (v_approach_0 co se ib), .int (v_approach_2 co se ia ib), .int (v_approach_1 co se ia)])), (ba, .inl (cI, 12, .inl se))] := hD
    have hP9 := hP.sub (ws' := [(b0, .inr (5, [.int (co 0), .int (co 1), .int (v_approach_0 co se ib), .int (v_approach_2 co se ia ib), .int (v_approach_1 co se ia)])), (ba, .inl (cI, 12, .inl se))]) [0, 1] rfl
    have hD9 := hD.sub (ws' := [(b0, .inr (5, [.int (co 0), .int (co 1), .int (v_approach_0 co se ib), .int (v_approach_2 co se ia ib), .int (v_approach_1 co se ia)])), (ba, .inl (cI, 12, .inl se))]) [0, 1] (by decide) rfl
    have E0 : o_approach_co co se ia ib = uv (uv (uv co 2 (v_approach_0 co se ib)) 3 (v_approach_2 co se ia ib)) 4 (v_approach_1 co se ia) := by unfold o_approach_co; rw [if_neg h1]
    exact W.vret hx hb hr (fun t ht hW => ⟨⟨(), rfl, trivial, by rw [ht, E0]; exact hP9, va_K.moved hW.alike hK, by rw [E0]; exact hD9⟩, hS.F ht⟩) hS.2.2 d_Co_approach_144
  · refine lv_aload_n hx hb d_Co_approach_77 rfl (lv_at hl 4 rfl) ?_
    refine lv_aload_n hx hb d_Co_approach_78 rfl (lv_at hl 4 rfl) ?_
    refine va_get (D := (dC, dI)) (ci := 5) (v := .int (v_approach_0 co se ib)) (C := R_Co) (T := T_Co) (N := 5) hx hb hts uin_Co hown hK hP 0 rfl rfl 2 (by decide) (hts _ wd_172) (fun _ h9 => h9) rfl d_Co_approach_79 ?_
    refine lv_iload hx hb d_Co_approach_82 (lv_at hl 3 rfl) ?_
    refine kq_R (r := .int (r_min (v_approach_0 co se ib) (se 0))) (va_runS (As := [.int (v_approach_0 co se ib), .int (se 0)]) (rest := [.ref b0]) ⟨hx, hb, hml, hown, hts⟩ (c_min l dC dI (v_approach_0 co se ib) (se 0)) (kw_S (n := 2) hts wd_582 wd_505 wd_17 wd_506 rfl rfl (by decide +kernel) ⟨Nat.le_of_ble_eq_true rfl, Nat.le_of_ble_eq_true rfl⟩) (kq_preS hN (hP.sub (ws' := []) [] rfl) (hK.sub (tys' := []) [] rfl)) rfl rfl hl.1 rfl (lv_room (Nat.le_of_ble_eq_true rfl)) d_Co_approach_84 ⟨Nat.le_of_ble_eq_true rfl, Nat.le_of_ble_eq_true rfl⟩) ?_
    refine va_put (D := (dC, dI)) (ci := 5) (v := .int (r_min (v_approach_0 co se ib) (se 0))) (ty := .int) (C := R_Co) (T := T_Co) (N := 5) hx hb hts uin_Co t_Co t_Co_ok n_Co hown hK hP hD hS 0 rfl rfl 3 (by decide) (hts _ wd_174) (fun _ h9 => h9) rfl (by decide +kernel) rfl rfl (Nat.le_of_ble_eq_true rfl) d_Co_approach_87 (fun H locs hP hD hS => ?_)
    have hP : va_P (dC, dI) vwCl [(b0, .inr (5, [.int (co 0), .int (co 1), .int (v_approach_0 co se ib), .int (r_min (v_approach_0 co se ib) (se 0)), .int (co 4)])), (ba, .inl (cI, 12, .inl se))] H := hP
    have hD : va_D A [(b0, .inr (5, [.int (co 0), .int (co 1), .int (v_approach_0 co se ib), .int (r_min (v_approach_0 co se ib) (se 0)), .int (co 4)])), (ba, .inl (cI, 12, .inl se))] := hD
    refine lv_iload hx hb d_Co_approach_90 (lv_at hl 3 rfl) ?_
    refine lv_aload_n hx hb d_Co_approach_92 rfl (lv_at hl 4 rfl) ?_
    refine va_get (D := (dC, dI)) (ci := 5) (v := .int (r_min (v_approach_0 co se ib) (se 0))) (C := R_Co) (T := T_Co) (N := 5) hx hb hts uin_Co hown hK hP 0 rfl rfl 3 (by decide) (hts _ wd_174) (fun _ h9 => h9) rfl d_Co_approach_93 ?_
    refine kq_R (r := .int (r_restOf (se 0) (r_min (v_approach_0 co se ib) (se 0)))) (va_runS (As := [.int (se 0), .int (r_min (v_approach_0 co se ib) (se 0))]) (rest := []) ⟨hx, hb, hml, hown, hts⟩ (c_restOf l dC dI (se 0) (r_min (v_approach_0 co se ib) (se 0))) (kw_S (n := 2) hts wd_583 wd_584 wd_7 wd_585 rfl rfl (by decide +kernel) ⟨Nat.le_of_ble_eq_true rfl, Nat.le_of_ble_eq_true rfl⟩) (kq_preS hN (hP.sub (ws' := []) [] rfl) (hK.sub (tys' := []) [] rfl)) rfl rfl hl.1 rfl (lv_room (Nat.le_of_ble_eq_true rfl)) d_Co_approach_96 ⟨Nat.le_of_ble_eq_true rfl, Nat.le_of_ble_eq_true rfl⟩) ?_
    refine lv_istore (lv' := [(8, .int (r_restOf (se 0) (r_min (v_approach_0 co se ib) (se 0)))), (7, .int (v_approach_1 co se ia)), (6, .int (((se 10) * (10000 - ia)) / 100)), (5, .int (se 1)), (4, .int (se 0)), (0, .ref b0), (1, .ref ba), (2, .int ia), (3, .int ib)]) hx hb d_Co_approach_99 hl (by decide) rfl (fun ls hl => ?_)
    refine lv_aload_n hx hb d_Co_approach_101 rfl (lv_at hl 5 rfl) ?_
    refine lv_iload hx hb d_Co_approach_102 (lv_at hl 1 rfl) ?_
    refine lv_iload hx hb d_Co_approach_104 (lv_at hl 0 rfl) ?_
    refine lv_ineg hx hb d_Co_approach_106 ?_
    refine lv_iload hx hb d_Co_approach_107 (lv_at hl 0 rfl) ?_
    refine kq_R (r := .int (r_limited (v_approach_1 co se ia) (-(r_restOf (se 0) (r_min (v_approach_0 co se ib) (se 0)))) (r_restOf (se 0) (r_min (v_approach_0 co se ib) (se 0))))) (va_runSN (As := [.int (v_approach_1 co se ia), .int (-(r_restOf (se 0) (r_min (v_approach_0 co se ib) (se 0)))), .int (r_restOf (se 0) (r_min (v_approach_0 co se ib) (se 0)))]) (rest := [.ref b0]) ⟨hx, hb, hml, hown, hts⟩ (c_limited l dC dI (v_approach_1 co se ia) (-(r_restOf (se 0) (r_min (v_approach_0 co se ib) (se 0)))) (r_restOf (se 0) (r_min (v_approach_0 co se ib) (se 0)))) (kw_SN (n := 3) hts hN wd_581 wd_502 wd_1 wd_503 rfl rfl (by decide +kernel) ⟨Nat.le_of_ble_eq_true rfl, Nat.le_of_ble_eq_true rfl⟩) (kq_preS hN (hP.sub (ws' := []) [] rfl) (hK.sub (tys' := []) [] rfl)) rfl rfl hl.1 rfl (lv_room (Nat.le_of_ble_eq_true rfl)) d_Co_approach_109 ⟨Nat.le_of_ble_eq_true rfl, Nat.le_of_ble_eq_true rfl⟩) ?_
    refine kq_fi (y := v_approach_3 co se ia ib) rfl ?_
    refine va_put (D := (dC, dI)) (ci := 5) (v := .int (v_approach_3 co se ia ib)) (ty := .int) (C := R_Co) (T := T_Co) (N := 5) hx hb hts uin_Co t_Co t_Co_ok n_Co hown hK hP hD hS 0 rfl rfl 4 (by decide) (hts _ wd_176) (fun _ h9 => h9) rfl (by decide +kernel) rfl rfl (Nat.le_of_ble_eq_true rfl) d_Co_approach_112 (fun H locs hP hD hS => ?_)
    have hP : va_P (dC, dI) vwCl [(b0, .inr (5, [.int (co 0), .int (co 1), .int (v_approach_0 co se ib), .int (r_min (v_approach_0 co se ib) (se 0)), .int (v_approach_3 co se ia ib)])), (ba, .inl (cI, 12, .inl se))] H := hP
    have hD : va_D A [(b0, .inr (5, [.int (co 0), .int (co 1), .int (v_approach_0 co se ib), .int (r_min (v_approach_0 co se ib) (se 0)), .int (v_approach_3 co se ia ib)])), (ba, .inl (cI, 12, .inl se))] := hD
    refine lv_goto (tgt := 144) hx hb d_Co_approach_115 rfl ?_
    have hP9 := hP.sub (ws' := [(b0, .inr (5, [.int (co 0), .int (co 1), .int (v_approach_0 co se ib), .int (r_min (v_approach_0 co se ib) (se 0)), .int (v_approach_3 co se ia ib)])), (ba, .inl (cI, 12, .inl se))]) [0, 1] rfl
    have hD9 := hD.sub (ws' := [(b0, .inr (5, [.int (co 0), .int (co 1), .int (v_approach_0 co se ib), .int (r_min (v_approach_0 co se ib) (se 0)), .int (v_approach_3 co se ia ib)])), (ba, .inl (cI, 12, .inl se))]) [0, 1] (by decide) rfl
    have E0 : o_approach_co co se ia ib = uv (uv (uv co 2 (v_approach_0 co se ib)) 3 (r_min (v_approach_0 co se ib) (se 0))) 4 (v_approach_3 co se ia ib) := by unfold o_approach_co; rw [if_pos h1]
    exact W.vret hx hb hr (fun t ht hW => ⟨⟨(), rfl, trivial, by rw [ht, E0]; exact hP9, va_K.moved hW.alike hK, by rw [E0]; exact hD9⟩, hS.F ht⟩) hS.2.2 d_Co_approach_144
