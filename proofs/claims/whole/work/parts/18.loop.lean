noncomputable def r_floorDiv (ia : Int32) (ib : Int32) : Int32 := if 0 ≤ (ia ^^^ ib) then ia / ib else (if ((ia / ib) * ib) = ia then ia / ib else (ia / ib) - 1)
set_option maxHeartbeats 4000000 in
set_option maxRecDepth 100000 in
theorem c_floorDiv (l : Launch) (dC : Nat → ClassId) (dI : Nat → Nat → Nat) (ia : Int32) (ib : Int32) (hy0 : ¬ ib = 0) : Met l y_Ma_floorDiv (wz y_Ma_floorDiv b_Ma_floorDiv 3 (some .int)) { frames := 0, cells := 0, slots := 0, locals := 0 } (va_Pc [.int ia, .int ib] (fun U => nw U ∧ va_P (dC, dI) vwCl [] U.heap ∧ va_K (dC, dI) vwCl [] U)) (k2_QcV (.int (r_floorDiv ia ib))) 0 0 (fun _ => False) := by
  refine va_MetF (cc := b_Ma_floorDiv) (maxL := 3) (ret := (some .int)) (by decide +kernel) rfl ?_
  intro p e s m args below meth c s₁ B hml hv
  obtain ⟨rfl, hN, hP, hK⟩ := hv
  have hx := B.exec
  have hb := B.bytes
  have hr := B.returns
  have hts := fun w h => atoms_spec (ws := (wz y_Ma_floorDiv b_Ma_floorDiv 3 (some .int))) B.pre w (List.mem_cons_of_mem _ h)
  have hown : s.vm.findClass R_Ma = some m.cls := findClass_of_methodNamed B.named
  have hlocks := B.notSynchronized
  have hl := lv_entry ([.int ia, .int ib]) (n := 3) (Nat.le_of_ble_eq_true rfl)
  rw [lg_entry_eq]
  generalize (lg_sl ([.int ia, .int ib]) ++ List.replicate (3 - (lg_sl ([.int ia, .int ib])).length) Slot.unset).toArray = ls at hl ⊢
  have hl : lv_has ls 3 [(0, .int ia), (1, .int ib)] := hl
  refine lv_iload_n hx hb d_Ma_floorDiv_0 rfl (lv_at hl 0 rfl) ?_
  refine lv_iload_n hx hb d_Ma_floorDiv_1 rfl (lv_at hl 1 rfl) ?_
  refine lv_idiv hx hb d_Ma_floorDiv_2 hy0 ?_
  refine lv_istore_n (lv' := [(2, .int (ia / ib)), (0, .int ia), (1, .int ib)]) hx hb d_Ma_floorDiv_3 rfl hl (by decide) rfl (fun ls hl => ?_)
  refine lv_iload_n hx hb d_Ma_floorDiv_4 rfl (lv_at hl 1 rfl) ?_
  refine lv_iload_n hx hb d_Ma_floorDiv_5 rfl (lv_at hl 2 rfl) ?_
  refine lv_ixor hx hb d_Ma_floorDiv_6 ?_
  refine lv_if_ge hx hb (tgt := 21) d_Ma_floorDiv_7 rfl (fun h1 => ?_) (fun h1 => ?_)
  · refine lv_iload_n hx hb d_Ma_floorDiv_21 rfl (lv_at hl 0 rfl) ?_
    exact W.iret (v := ia / ib) hx hb hr (fun t ht hW => ⟨by rw [(show r_floorDiv ia ib = ia / ib from by unfold r_floorDiv; rw [if_pos h1])], ht⟩) (fun q hq => by cases hq) d_Ma_floorDiv_22
  · refine lv_iload_n hx hb d_Ma_floorDiv_10 rfl (lv_at hl 0 rfl) ?_
    refine lv_iload_n hx hb d_Ma_floorDiv_11 rfl (lv_at hl 2 rfl) ?_
    refine lv_imul hx hb d_Ma_floorDiv_12 ?_
    refine lv_iload_n hx hb d_Ma_floorDiv_13 rfl (lv_at hl 1 rfl) ?_
    refine lv_icmp_eq hx hb (tgt := 21) d_Ma_floorDiv_14 rfl (fun h2 => ?_) (fun h2 => ?_)
    · refine lv_iload_n hx hb d_Ma_floorDiv_21 rfl (lv_at hl 0 rfl) ?_
      exact W.iret (v := ia / ib) hx hb hr (fun t ht hW => ⟨by rw [(show r_floorDiv ia ib = ia / ib from by unfold r_floorDiv; rw [if_neg h1, if_pos h2])], ht⟩) (fun q hq => by cases hq) d_Ma_floorDiv_22
    · refine lv_iload_n hx hb d_Ma_floorDiv_17 rfl (lv_at hl 0 rfl) ?_
      refine lv_iconst (v := 1) hx hb d_Ma_floorDiv_18 (by decide) ?_
      refine lv_isub hx hb d_Ma_floorDiv_19 ?_
      exact W.iret (v := (ia / ib) - 1) hx hb hr (fun t ht hW => ⟨by rw [(show r_floorDiv ia ib = (ia / ib) - 1 from by unfold r_floorDiv; rw [if_neg h1, if_neg h2])], ht⟩) (fun q hq => by cases hq) d_Ma_floorDiv_20
noncomputable def v_keepM_0 (xi : Nat → Int32) (xm : Nat → Int32) : Int32 := (xi 5) - (xm ((((xi 0) + 1) - ((xi 0) + 1) / 16 * 16).toNatClampNeg))
noncomputable def v_keepM_1 (xi : Nat → Int32) (xm : Nat → Int32) : Nat → Int32 := upd xm ((((xi 0) + 1) - ((xi 0) + 1) / 16 * 16).toNatClampNeg) (xi 5)
noncomputable def o_keepM_xi (xi : Nat → Int32) (xj : Nat → Int64) (xm : Nat → Int32) : Nat → Int32 := uv (uv xi 0 (((xi 0) + 1) - ((xi 0) + 1) / 16 * 16)) 6 ((((xj 0) + ((v_keepM_0 xi xm).toInt64)) / 48).toInt32)
noncomputable def o_keepM_xj (xi : Nat → Int32) (xj : Nat → Int64) (xm : Nat → Int32) : Nat → Int64 := uw xj 0 ((xj 0) + ((v_keepM_0 xi xm).toInt64))
noncomputable def o_keepM_xm (xi : Nat → Int32) (xm : Nat → Int32) : Nat → Int32 := v_keepM_1 xi xm
set_option maxHeartbeats 4000000 in
set_option maxRecDepth 100000 in
theorem c_keepM (l : Launch) (dC : Nat → ClassId) (dI : Nat → Nat → Nat) (b0 : Nat) (bm : Nat) (bp : Nat) (cI : ClassId) (xi : Nat → Int32) (xj : Nat → Int64) (xm : Nat → Int32) (sz : Nat) (ha : vp_in (xi 0) 16) : Met l y_Lo_keepMagnitude (wz y_Lo_keepMagnitude b_Lo_keepMagnitude 1 none) { frames := 0, cells := 0, slots := 0, locals := 0 } (va_Pc [.ref b0] (fun U => U.heap.size = sz ∧ nw U ∧ va_P (dC, dI) vwCl [(b0, .inr (1, [.ref bm, .ref bp, .int (xi 0), .int (xi 1), .long (xj 0), .long (xj 1), .int (xi 2), .int (xi 3), .int (xi 4), .int (xi 5), .int (xi 6), .int (xi 7)])), (bm, .inl (cI, 16, .inl xm))] U.heap ∧ va_K (dC, dI) vwCl [(cI, .int)] U ∧ va_D (fun _ => True) [(b0, .inr (1, [.ref bm, .ref bp, .int (xi 0), .int (xi 1), .long (xj 0), .long (xj 1), .int (xi 2), .int (xi 3), .int (xi 4), .int (xi 5), .int (xi 6), .int (xi 7)])), (bm, .inl (cI, 16, .inl xm))])) (va_Qv (fun _ : Unit => True) (fun _ t => va_P (dC, dI) vwCl [(b0, .inr (1, [.ref bm, .ref bp, .int ((o_keepM_xi xi xj xm) 0), .int ((o_keepM_xi xi xj xm) 1), .long ((o_keepM_xj xi xj xm) 0), .long ((o_keepM_xj xi xj xm) 1), .int ((o_keepM_xi xi xj xm) 2), .int ((o_keepM_xi xi xj xm) 3), .int ((o_keepM_xi xi xj xm) 4), .int ((o_keepM_xi xi xj xm) 5), .int ((o_keepM_xi xi xj xm) 6), .int ((o_keepM_xi xi xj xm) 7)])), (bm, .inl (cI, 16, .inl (o_keepM_xm xi xm)))] t.heap ∧ va_K (dC, dI) vwCl [(cI, .int)] t ∧ va_D (va_A [(b0, .inr (1, [.ref bm, .ref bp, .int (xi 0), .int (xi 1), .long (xj 0), .long (xj 1), .int (xi 2), .int (xi 3), .int (xi 4), .int (xi 5), .int (xi 6), .int (xi 7)])), (bm, .inl (cI, 16, .inl xm))] sz) [(b0, .inr (1, [.ref bm, .ref bp, .int ((o_keepM_xi xi xj xm) 0), .int ((o_keepM_xi xi xj xm) 1), .long ((o_keepM_xj xi xj xm) 0), .long ((o_keepM_xj xi xj xm) 1), .int ((o_keepM_xi xi xj xm) 2), .int ((o_keepM_xi xi xj xm) 3), .int ((o_keepM_xi xi xj xm) 4), .int ((o_keepM_xi xi xj xm) 5), .int ((o_keepM_xi xi xj xm) 6), .int ((o_keepM_xi xi xj xm) 7)])), (bm, .inl (cI, 16, .inl (o_keepM_xm xi xm)))]) (va_A [(b0, .inr (1, [.ref bm, .ref bp, .int (xi 0), .int (xi 1), .long (xj 0), .long (xj 1), .int (xi 2), .int (xi 3), .int (xi 4), .int (xi 5), .int (xi 6), .int (xi 7)])), (bm, .inl (cI, 16, .inl xm))] sz)) 0 0 (va_A [(b0, .inr (1, [.ref bm, .ref bp, .int (xi 0), .int (xi 1), .long (xj 0), .long (xj 1), .int (xi 2), .int (xi 3), .int (xi 4), .int (xi 5), .int (xi 6), .int (xi 7)])), (bm, .inl (cI, 16, .inl xm))] sz) := by
  refine Met.ofW (cc := b_Lo_keepMagnitude) (maxL := 1) (ret := none) (by decide) rfl ?_
  intro p e s m args below meth c s₁ B hml hv
  obtain ⟨rfl, hsz, hN, hP, hK, hD0⟩ := hv
  have hx := B.exec
  have hb := B.bytes
  have hr := B.returns
  have hts := fun w h => atoms_spec (ws := (wz y_Lo_keepMagnitude b_Lo_keepMagnitude 1 none)) B.pre w (List.mem_cons_of_mem _ h)
  have hown : s.vm.findClass R_Lo = some m.cls := findClass_of_methodNamed B.named
  have hlocks := B.notSynchronized
  subst hsz
  have hD := hD0.self (sz := s.heap.size)
  generalize hAe : va_A [(b0, .inr (1, [.ref bm, .ref bp, .int (xi 0), .int (xi 1), .long (xj 0), .long (xj 1), .int (xi 2), .int (xi 3), .int (xi 4), .int (xi 5), .int (xi 6), .int (xi 7)])), (bm, .inl (cI, 16, .inl xm))] s.heap.size = A at hD ⊢
  have hA : ∀ q : Nat, s.heap.size ≤ q → A q := fun q h => by rw [← hAe]; exact Or.inr h
  have hS : va_S A s.heap s.heap [] := va_S.rf
  have hl := lv_entry ([.ref b0]) (n := 1) (Nat.le_of_ble_eq_true rfl)
  rw [lg_entry_eq]
  generalize (lg_sl ([.ref b0]) ++ List.replicate (1 - (lg_sl ([.ref b0])).length) Slot.unset).toArray = ls at hl ⊢
  have hl : lv_has ls 1 [(0, .ref b0)] := hl
  refine lv_aload_n hx hb d_Lo_keepMagnitude_0 rfl (lv_at hl 0 rfl) ?_
  refine lv_aload_n hx hb d_Lo_keepMagnitude_1 rfl (lv_at hl 0 rfl) ?_
  refine va_get (D := (dC, dI)) (ci := 1) (v := .int (xi 0)) (C := R_Lo) (T := T_Lo) (N := 12) hx hb hts uin_Lo hown hK hP 0 rfl rfl 2 (by decide) (hts _ wd_53) (fun _ h9 => h9) rfl d_Lo_keepMagnitude_2 ?_
  refine lv_iconst (v := 1) hx hb d_Lo_keepMagnitude_5 (by decide) ?_
  refine lv_iadd hx hb d_Lo_keepMagnitude_6 ?_
  refine lv_bipush (v := 16) hx hb d_Lo_keepMagnitude_7 (by decide) ?_
  refine lv_irem hx hb d_Lo_keepMagnitude_9 (by decide) ?_
  refine va_put (D := (dC, dI)) (ci := 1) (v := .int (((xi 0) + 1) - ((xi 0) + 1) / 16 * 16)) (ty := .int) (C := R_Lo) (T := T_Lo) (N := 12) hx hb hts uin_Lo t_Lo t_Lo_ok n_Lo hown hK hP hD hS 0 rfl rfl 2 (by decide) (hts _ wd_53) (fun _ h9 => h9) rfl (by decide +kernel) rfl rfl (Nat.le_of_ble_eq_true rfl) d_Lo_keepMagnitude_10 (fun H locs hP hD hS => ?_)
  have hP : va_P (dC, dI) vwCl [(b0, .inr (1, [.ref bm, .ref bp, .int (((xi 0) + 1) - ((xi 0) + 1) / 16 * 16), .int (xi 1), .long (xj 0), .long (xj 1), .int (xi 2), .int (xi 3), .int (xi 4), .int (xi 5), .int (xi 6), .int (xi 7)])), (bm, .inl (cI, 16, .inl xm))] H := hP
  have hD : va_D A [(b0, .inr (1, [.ref bm, .ref bp, .int (((xi 0) + 1) - ((xi 0) + 1) / 16 * 16), .int (xi 1), .long (xj 0), .long (xj 1), .int (xi 2), .int (xi 3), .int (xi 4), .int (xi 5), .int (xi 6), .int (xi 7)])), (bm, .inl (cI, 16, .inl xm))] := hD
  refine lv_aload_n hx hb d_Lo_keepMagnitude_13 rfl (lv_at hl 0 rfl) ?_
  refine lv_dup hx hb d_Lo_keepMagnitude_14 rfl ?_
  refine va_get (D := (dC, dI)) (ci := 1) (v := .long (xj 0)) (C := R_Lo) (T := T_Lo) (N := 12) hx hb hts uin_Lo hown hK hP 0 rfl rfl 4 (by decide) (hts _ wd_55) (fun _ h9 => h9) rfl d_Lo_keepMagnitude_15 ?_
  refine lv_aload_n hx hb d_Lo_keepMagnitude_18 rfl (lv_at hl 0 rfl) ?_
  refine va_get (D := (dC, dI)) (ci := 1) (v := .int (xi 5)) (C := R_Lo) (T := T_Lo) (N := 12) hx hb hts uin_Lo hown hK hP 0 rfl rfl 9 (by decide) (hts _ wd_63) (fun _ h9 => h9) rfl d_Lo_keepMagnitude_19 ?_
  refine lv_aload_n hx hb d_Lo_keepMagnitude_22 rfl (lv_at hl 0 rfl) ?_
  refine va_get (D := (dC, dI)) (ci := 1) (v := .ref bm) (C := R_Lo) (T := T_Lo) (N := 12) hx hb hts uin_Lo hown hK hP 0 rfl rfl 0 (by decide) (hts _ wd_51) (fun _ h9 => h9) rfl d_Lo_keepMagnitude_23 ?_
  refine lv_aload_n hx hb d_Lo_keepMagnitude_26 rfl (lv_at hl 0 rfl) ?_
  refine va_get (D := (dC, dI)) (ci := 1) (v := .int (((xi 0) + 1) - ((xi 0) + 1) / 16 * 16)) (C := R_Lo) (T := T_Lo) (N := 12) hx hb hts uin_Lo hown hK hP 0 rfl rfl 2 (by decide) (hts _ wd_53) (fun _ h9 => h9) rfl d_Lo_keepMagnitude_27 ?_
  refine kq_iald (j := (((xi 0) + 1) - ((xi 0) + 1) / 16 * 16).toNatClampNeg) (v := xm ((((xi 0) + 1) - ((xi 0) + 1) / 16 * 16).toNatClampNeg)) hx hb hK hP 1 0 rfl rfl rfl rfl (ring16_in ha) d_Lo_keepMagnitude_30 ?_
  refine lv_isub hx hb d_Lo_keepMagnitude_31 ?_
  refine kq_fi (y := v_keepM_0 xi xm) rfl ?_
  refine lv_i2l hx hb d_Lo_keepMagnitude_32 rfl ?_
  refine lv_ladd hx hb d_Lo_keepMagnitude_33 ?_
  refine va_put (D := (dC, dI)) (ci := 1) (v := .long ((xj 0) + ((v_keepM_0 xi xm).toInt64))) (ty := .long) (C := R_Lo) (T := T_Lo) (N := 12) hx hb hts uin_Lo t_Lo t_Lo_ok n_Lo hown hK hP hD hS 0 rfl rfl 4 (by decide) (hts _ wd_55) (fun _ h9 => h9) rfl (by decide +kernel) rfl rfl (Nat.le_of_ble_eq_true rfl) d_Lo_keepMagnitude_34 (fun H locs hP hD hS => ?_)
  have hP : va_P (dC, dI) vwCl [(b0, .inr (1, [.ref bm, .ref bp, .int (((xi 0) + 1) - ((xi 0) + 1) / 16 * 16), .int (xi 1), .long ((xj 0) + ((v_keepM_0 xi xm).toInt64)), .long (xj 1), .int (xi 2), .int (xi 3), .int (xi 4), .int (xi 5), .int (xi 6), .int (xi 7)])), (bm, .inl (cI, 16, .inl xm))] H := hP
  have hD : va_D A [(b0, .inr (1, [.ref bm, .ref bp, .int (((xi 0) + 1) - ((xi 0) + 1) / 16 * 16), .int (xi 1), .long ((xj 0) + ((v_keepM_0 xi xm).toInt64)), .long (xj 1), .int (xi 2), .int (xi 3), .int (xi 4), .int (xi 5), .int (xi 6), .int (xi 7)])), (bm, .inl (cI, 16, .inl xm))] := hD
  refine lv_aload_n hx hb d_Lo_keepMagnitude_37 rfl (lv_at hl 0 rfl) ?_
  refine va_get (D := (dC, dI)) (ci := 1) (v := .ref bm) (C := R_Lo) (T := T_Lo) (N := 12) hx hb hts uin_Lo hown hK hP 0 rfl rfl 0 (by decide) (hts _ wd_51) (fun _ h9 => h9) rfl d_Lo_keepMagnitude_38 ?_
  refine lv_aload_n hx hb d_Lo_keepMagnitude_41 rfl (lv_at hl 0 rfl) ?_
  refine va_get (D := (dC, dI)) (ci := 1) (v := .int (((xi 0) + 1) - ((xi 0) + 1) / 16 * 16)) (C := R_Lo) (T := T_Lo) (N := 12) hx hb hts uin_Lo hown hK hP 0 rfl rfl 2 (by decide) (hts _ wd_53) (fun _ h9 => h9) rfl d_Lo_keepMagnitude_42 ?_
  refine lv_aload_n hx hb d_Lo_keepMagnitude_45 rfl (lv_at hl 0 rfl) ?_
  refine va_get (D := (dC, dI)) (ci := 1) (v := .int (xi 5)) (C := R_Lo) (T := T_Lo) (N := 12) hx hb hts uin_Lo hown hK hP 0 rfl rfl 9 (by decide) (hts _ wd_63) (fun _ h9 => h9) rfl d_Lo_keepMagnitude_46 ?_
  refine va_iast hx hb hK hP hD hS 1 0 rfl rfl (ring16_in ha) d_Lo_keepMagnitude_49 (fun H locs hP hD hS => ?_)
  have hP : va_P (dC, dI) vwCl [(b0, .inr (1, [.ref bm, .ref bp, .int (((xi 0) + 1) - ((xi 0) + 1) / 16 * 16), .int (xi 1), .long ((xj 0) + ((v_keepM_0 xi xm).toInt64)), .long (xj 1), .int (xi 2), .int (xi 3), .int (xi 4), .int (xi 5), .int (xi 6), .int (xi 7)])), (bm, .inl (cI, 16, .inl (v_keepM_1 xi xm)))] H := hP
  have hD : va_D A [(b0, .inr (1, [.ref bm, .ref bp, .int (((xi 0) + 1) - ((xi 0) + 1) / 16 * 16), .int (xi 1), .long ((xj 0) + ((v_keepM_0 xi xm).toInt64)), .long (xj 1), .int (xi 2), .int (xi 3), .int (xi 4), .int (xi 5), .int (xi 6), .int (xi 7)])), (bm, .inl (cI, 16, .inl (v_keepM_1 xi xm)))] := hD
  refine lv_aload_n hx hb d_Lo_keepMagnitude_50 rfl (lv_at hl 0 rfl) ?_
  refine lv_aload_n hx hb d_Lo_keepMagnitude_51 rfl (lv_at hl 0 rfl) ?_
  refine va_get (D := (dC, dI)) (ci := 1) (v := .long ((xj 0) + ((v_keepM_0 xi xm).toInt64))) (C := R_Lo) (T := T_Lo) (N := 12) hx hb hts uin_Lo hown hK hP 0 rfl rfl 4 (by decide) (hts _ wd_55) (fun _ h9 => h9) rfl d_Lo_keepMagnitude_52 ?_
  refine lv_ldc2 (v := 48) hx hb hown (hts _ wd_514) d_Lo_keepMagnitude_55 ?_
  refine lv_ldiv hx hb d_Lo_keepMagnitude_58 (by decide) ?_
  refine lv_l2i hx hb d_Lo_keepMagnitude_59 rfl ?_
  refine va_put (D := (dC, dI)) (ci := 1) (v := .int ((((xj 0) + ((v_keepM_0 xi xm).toInt64)) / 48).toInt32)) (ty := .int) (C := R_Lo) (T := T_Lo) (N := 12) hx hb hts uin_Lo t_Lo t_Lo_ok n_Lo hown hK hP hD hS 0 rfl rfl 10 (by decide) (hts _ wd_65) (fun _ h9 => h9) rfl (by decide +kernel) rfl rfl (Nat.le_of_ble_eq_true rfl) d_Lo_keepMagnitude_60 (fun H locs hP hD hS => ?_)
  have hP : va_P (dC, dI) vwCl [(b0, .inr (1, [.ref bm, .ref bp, .int (((xi 0) + 1) - ((xi 0) + 1) / 16 * 16), .int (xi 1), .long ((xj 0) + ((v_keepM_0 xi xm).toInt64)), .long (xj 1), .int (xi 2), .int (xi 3), .int (xi 4), .int (xi 5), .int ((((xj 0) + ((v_keepM_0 xi xm).toInt64)) / 48).toInt32), .int (xi 7)])), (bm, .inl (cI, 16, .inl (v_keepM_1 xi xm)))] H := hP
  have hD : va_D A [(b0, .inr (1, [.ref bm, .ref bp, .int (((xi 0) + 1) - ((xi 0) + 1) / 16 * 16), .int (xi 1), .long ((xj 0) + ((v_keepM_0 xi xm).toInt64)), .long (xj 1), .int (xi 2), .int (xi 3), .int (xi 4), .int (xi 5), .int ((((xj 0) + ((v_keepM_0 xi xm).toInt64)) / 48).toInt32), .int (xi 7)])), (bm, .inl (cI, 16, .inl (v_keepM_1 xi xm)))] := hD
  have hP9 := hP.sub (ws' := [(b0, .inr (1, [.ref bm, .ref bp, .int (((xi 0) + 1) - ((xi 0) + 1) / 16 * 16), .int (xi 1), .long ((xj 0) + ((v_keepM_0 xi xm).toInt64)), .long (xj 1), .int (xi 2), .int (xi 3), .int (xi 4), .int (xi 5), .int ((((xj 0) + ((v_keepM_0 xi xm).toInt64)) / 48).toInt32), .int (xi 7)])), (bm, .inl (cI, 16, .inl (v_keepM_1 xi xm)))]) [0, 1] rfl
  have hD9 := hD.sub (ws' := [(b0, .inr (1, [.ref bm, .ref bp, .int (((xi 0) + 1) - ((xi 0) + 1) / 16 * 16), .int (xi 1), .long ((xj 0) + ((v_keepM_0 xi xm).toInt64)), .long (xj 1), .int (xi 2), .int (xi 3), .int (xi 4), .int (xi 5), .int ((((xj 0) + ((v_keepM_0 xi xm).toInt64)) / 48).toInt32), .int (xi 7)])), (bm, .inl (cI, 16, .inl (v_keepM_1 xi xm)))]) [0, 1] (by decide) rfl
  have E0 : o_keepM_xi xi xj xm = uv (uv xi 0 (((xi 0) + 1) - ((xi 0) + 1) / 16 * 16)) 6 ((((xj 0) + ((v_keepM_0 xi xm).toInt64)) / 48).toInt32) := rfl
  have E1 : o_keepM_xj xi xj xm = uw xj 0 ((xj 0) + ((v_keepM_0 xi xm).toInt64)) := rfl
  have E2 : o_keepM_xm xi xm = v_keepM_1 xi xm := rfl
  exact W.vret hx hb hr (fun t ht hW => ⟨⟨(), rfl, trivial, by rw [ht, E0, E1, E2]; exact hP9, va_K.moved hW.alike hK, by rw [E0, E1, E2]; exact hD9⟩, hS.F ht⟩) hS.2.2 d_Lo_keepMagnitude_63
noncomputable def v_keepP_0 (xi : Nat → Int32) (xp : Nat → Int32) (ia : Int32) : Int32 := ia - (xp ((((xi 1) + 1) - ((xi 1) + 1) / 32 * 32).toNatClampNeg))
noncomputable def v_keepP_1 (xi : Nat → Int32) (xp : Nat → Int32) (ia : Int32) : Nat → Int32 := upd xp ((((xi 1) + 1) - ((xi 1) + 1) / 32 * 32).toNatClampNeg) ia
noncomputable def o_keepP_xi (xi : Nat → Int32) (xj : Nat → Int64) (xp : Nat → Int32) (ia : Int32) : Nat → Int32 := uv (uv xi 1 (((xi 1) + 1) - ((xi 1) + 1) / 32 * 32)) 7 (r_meanF ((xj 1) + ((v_keepP_0 xi xp ia).toInt64)))
noncomputable def o_keepP_xj (xi : Nat → Int32) (xj : Nat → Int64) (xp : Nat → Int32) (ia : Int32) : Nat → Int64 := uw xj 1 ((xj 1) + ((v_keepP_0 xi xp ia).toInt64))
noncomputable def o_keepP_xp (xi : Nat → Int32) (xp : Nat → Int32) (ia : Int32) : Nat → Int32 := v_keepP_1 xi xp ia
set_option maxHeartbeats 4000000 in
set_option maxRecDepth 100000 in
theorem c_keepP (l : Launch) (dC : Nat → ClassId) (dI : Nat → Nat → Nat) (b0 : Nat) (bm : Nat) (bp : Nat) (cI : ClassId) (xi : Nat → Int32) (xj : Nat → Int64) (xp : Nat → Int32) (ia : Int32) (sz : Nat) (hc : vp_in (xi 1) 32) : Met l y_Lo_keepPace (wz y_Lo_keepPace b_Lo_keepPace 2 none) { frames := 1, cells := 0, slots := 0, locals := 21 } (va_Pc [.ref b0, .int ia] (fun U => U.heap.size = sz ∧ nw U ∧ va_P (dC, dI) vwCl [(b0, .inr (1, [.ref bm, .ref bp, .int (xi 0), .int (xi 1), .long (xj 0), .long (xj 1), .int (xi 2), .int (xi 3), .int (xi 4), .int (xi 5), .int (xi 6), .int (xi 7)])), (bp, .inl (cI, 32, .inl xp))] U.heap ∧ va_K (dC, dI) vwCl [(cI, .int)] U ∧ va_D (fun _ => True) [(b0, .inr (1, [.ref bm, .ref bp, .int (xi 0), .int (xi 1), .long (xj 0), .long (xj 1), .int (xi 2), .int (xi 3), .int (xi 4), .int (xi 5), .int (xi 6), .int (xi 7)])), (bp, .inl (cI, 32, .inl xp))])) (va_Qv (fun _ : Unit => True) (fun _ t => va_P (dC, dI) vwCl [(b0, .inr (1, [.ref bm, .ref bp, .int ((o_keepP_xi xi xj xp ia) 0), .int ((o_keepP_xi xi xj xp ia) 1), .long ((o_keepP_xj xi xj xp ia) 0), .long ((o_keepP_xj xi xj xp ia) 1), .int ((o_keepP_xi xi xj xp ia) 2), .int ((o_keepP_xi xi xj xp ia) 3), .int ((o_keepP_xi xi xj xp ia) 4), .int ((o_keepP_xi xi xj xp ia) 5), .int ((o_keepP_xi xi xj xp ia) 6), .int ((o_keepP_xi xi xj xp ia) 7)])), (bp, .inl (cI, 32, .inl (o_keepP_xp xi xp ia)))] t.heap ∧ va_K (dC, dI) vwCl [(cI, .int)] t ∧ va_D (va_A [(b0, .inr (1, [.ref bm, .ref bp, .int (xi 0), .int (xi 1), .long (xj 0), .long (xj 1), .int (xi 2), .int (xi 3), .int (xi 4), .int (xi 5), .int (xi 6), .int (xi 7)])), (bp, .inl (cI, 32, .inl xp))] sz) [(b0, .inr (1, [.ref bm, .ref bp, .int ((o_keepP_xi xi xj xp ia) 0), .int ((o_keepP_xi xi xj xp ia) 1), .long ((o_keepP_xj xi xj xp ia) 0), .long ((o_keepP_xj xi xj xp ia) 1), .int ((o_keepP_xi xi xj xp ia) 2), .int ((o_keepP_xi xi xj xp ia) 3), .int ((o_keepP_xi xi xj xp ia) 4), .int ((o_keepP_xi xi xj xp ia) 5), .int ((o_keepP_xi xi xj xp ia) 6), .int ((o_keepP_xi xi xj xp ia) 7)])), (bp, .inl (cI, 32, .inl (o_keepP_xp xi xp ia)))]) (va_A [(b0, .inr (1, [.ref bm, .ref bp, .int (xi 0), .int (xi 1), .long (xj 0), .long (xj 1), .int (xi 2), .int (xi 3), .int (xi 4), .int (xi 5), .int (xi 6), .int (xi 7)])), (bp, .inl (cI, 32, .inl xp))] sz)) 0 0 (va_A [(b0, .inr (1, [.ref bm, .ref bp, .int (xi 0), .int (xi 1), .long (xj 0), .long (xj 1), .int (xi 2), .int (xi 3), .int (xi 4), .int (xi 5), .int (xi 6), .int (xi 7)])), (bp, .inl (cI, 32, .inl xp))] sz) := by
  refine Met.ofW (cc := b_Lo_keepPace) (maxL := 2) (ret := none) (by decide) rfl ?_
  intro p e s m args below meth c s₁ B hml hv
  obtain ⟨rfl, hsz, hN, hP, hK, hD0⟩ := hv
  have hx := B.exec
  have hb := B.bytes
  have hr := B.returns
  have hts := fun w h => atoms_spec (ws := (wz y_Lo_keepPace b_Lo_keepPace 2 none)) B.pre w (List.mem_cons_of_mem _ h)
  have hown : s.vm.findClass R_Lo = some m.cls := findClass_of_methodNamed B.named
  have hlocks := B.notSynchronized
  subst hsz
  have hD := hD0.self (sz := s.heap.size)
  generalize hAe : va_A [(b0, .inr (1, [.ref bm, .ref bp, .int (xi 0), .int (xi 1), .long (xj 0), .long (xj 1), .int (xi 2), .int (xi 3), .int (xi 4), .int (xi 5), .int (xi 6), .int (xi 7)])), (bp, .inl (cI, 32, .inl xp))] s.heap.size = A at hD ⊢
  have hA : ∀ q : Nat, s.heap.size ≤ q → A q := fun q h => by rw [← hAe]; exact Or.inr h
  have hS : va_S A s.heap s.heap [] := va_S.rf
  have hl := lv_entry ([.ref b0, .int ia]) (n := 2) (Nat.le_of_ble_eq_true rfl)
  rw [lg_entry_eq]
  generalize (lg_sl ([.ref b0, .int ia]) ++ List.replicate (2 - (lg_sl ([.ref b0, .int ia])).length) Slot.unset).toArray = ls at hl ⊢
  have hl : lv_has ls 2 [(0, .ref b0), (1, .int ia)] := hl
  refine lv_aload_n hx hb d_Lo_keepPace_0 rfl (lv_at hl 0 rfl) ?_
  refine lv_aload_n hx hb d_Lo_keepPace_1 rfl (lv_at hl 0 rfl) ?_
  refine va_get (D := (dC, dI)) (ci := 1) (v := .int (xi 1)) (C := R_Lo) (T := T_Lo) (N := 12) hx hb hts uin_Lo hown hK hP 0 rfl rfl 3 (by decide) (hts _ wd_54) (fun _ h9 => h9) rfl d_Lo_keepPace_2 ?_
  refine lv_iconst (v := 1) hx hb d_Lo_keepPace_5 (by decide) ?_
  refine lv_iadd hx hb d_Lo_keepPace_6 ?_
  refine lv_bipush (v := 32) hx hb d_Lo_keepPace_7 (by decide) ?_
  refine lv_irem hx hb d_Lo_keepPace_9 (by decide) ?_
  refine va_put (D := (dC, dI)) (ci := 1) (v := .int (((xi 1) + 1) - ((xi 1) + 1) / 32 * 32)) (ty := .int) (C := R_Lo) (T := T_Lo) (N := 12) hx hb hts uin_Lo t_Lo t_Lo_ok n_Lo hown hK hP hD hS 0 rfl rfl 3 (by decide) (hts _ wd_54) (fun _ h9 => h9) rfl (by decide +kernel) rfl rfl (Nat.le_of_ble_eq_true rfl) d_Lo_keepPace_10 (fun H locs hP hD hS => ?_)
  have hP : va_P (dC, dI) vwCl [(b0, .inr (1, [.ref bm, .ref bp, .int (xi 0), .int (((xi 1) + 1) - ((xi 1) + 1) / 32 * 32), .long (xj 0), .long (xj 1), .int (xi 2), .int (xi 3), .int (xi 4), .int (xi 5), .int (xi 6), .int (xi 7)])), (bp, .inl (cI, 32, .inl xp))] H := hP
  have hD : va_D A [(b0, .inr (1, [.ref bm, .ref bp, .int (xi 0), .int (((xi 1) + 1) - ((xi 1) + 1) / 32 * 32), .long (xj 0), .long (xj 1), .int (xi 2), .int (xi 3), .int (xi 4), .int (xi 5), .int (xi 6), .int (xi 7)])), (bp, .inl (cI, 32, .inl xp))] := hD
  refine lv_aload_n hx hb d_Lo_keepPace_13 rfl (lv_at hl 0 rfl) ?_
  refine lv_dup hx hb d_Lo_keepPace_14 rfl ?_
  refine va_get (D := (dC, dI)) (ci := 1) (v := .long (xj 1)) (C := R_Lo) (T := T_Lo) (N := 12) hx hb hts uin_Lo hown hK hP 0 rfl rfl 5 (by decide) (hts _ wd_56) (fun _ h9 => h9) rfl d_Lo_keepPace_15 ?_
  refine lv_iload_n hx hb d_Lo_keepPace_18 rfl (lv_at hl 1 rfl) ?_
  refine lv_aload_n hx hb d_Lo_keepPace_19 rfl (lv_at hl 0 rfl) ?_
  refine va_get (D := (dC, dI)) (ci := 1) (v := .ref bp) (C := R_Lo) (T := T_Lo) (N := 12) hx hb hts uin_Lo hown hK hP 0 rfl rfl 1 (by decide) (hts _ wd_52) (fun _ h9 => h9) rfl d_Lo_keepPace_20 ?_
  refine lv_aload_n hx hb d_Lo_keepPace_23 rfl (lv_at hl 0 rfl) ?_
  refine va_get (D := (dC, dI)) (ci := 1) (v := .int (((xi 1) + 1) - ((xi 1) + 1) / 32 * 32)) (C := R_Lo) (T := T_Lo) (N := 12) hx hb hts uin_Lo hown hK hP 0 rfl rfl 3 (by decide) (hts _ wd_54) (fun _ h9 => h9) rfl d_Lo_keepPace_24 ?_
  refine kq_iald (j := (((xi 1) + 1) - ((xi 1) + 1) / 32 * 32).toNatClampNeg) (v := xp ((((xi 1) + 1) - ((xi 1) + 1) / 32 * 32).toNatClampNeg)) hx hb hK hP 1 0 rfl rfl rfl rfl (ring32_in hc) d_Lo_keepPace_27 ?_
  refine lv_isub hx hb d_Lo_keepPace_28 ?_
  refine kq_fi (y := v_keepP_0 xi xp ia) rfl ?_
  refine lv_i2l hx hb d_Lo_keepPace_29 rfl ?_
  refine lv_ladd hx hb d_Lo_keepPace_30 ?_
  refine va_put (D := (dC, dI)) (ci := 1) (v := .long ((xj 1) + ((v_keepP_0 xi xp ia).toInt64))) (ty := .long) (C := R_Lo) (T := T_Lo) (N := 12) hx hb hts uin_Lo t_Lo t_Lo_ok n_Lo hown hK hP hD hS 0 rfl rfl 5 (by decide) (hts _ wd_56) (fun _ h9 => h9) rfl (by decide +kernel) rfl rfl (Nat.le_of_ble_eq_true rfl) d_Lo_keepPace_31 (fun H locs hP hD hS => ?_)
  have hP : va_P (dC, dI) vwCl [(b0, .inr (1, [.ref bm, .ref bp, .int (xi 0), .int (((xi 1) + 1) - ((xi 1) + 1) / 32 * 32), .long (xj 0), .long ((xj 1) + ((v_keepP_0 xi xp ia).toInt64)), .int (xi 2), .int (xi 3), .int (xi 4), .int (xi 5), .int (xi 6), .int (xi 7)])), (bp, .inl (cI, 32, .inl xp))] H := hP
  have hD : va_D A [(b0, .inr (1, [.ref bm, .ref bp, .int (xi 0), .int (((xi 1) + 1) - ((xi 1) + 1) / 32 * 32), .long (xj 0), .long ((xj 1) + ((v_keepP_0 xi xp ia).toInt64)), .int (xi 2), .int (xi 3), .int (xi 4), .int (xi 5), .int (xi 6), .int (xi 7)])), (bp, .inl (cI, 32, .inl xp))] := hD
  refine lv_aload_n hx hb d_Lo_keepPace_34 rfl (lv_at hl 0 rfl) ?_
  refine va_get (D := (dC, dI)) (ci := 1) (v := .ref bp) (C := R_Lo) (T := T_Lo) (N := 12) hx hb hts uin_Lo hown hK hP 0 rfl rfl 1 (by decide) (hts _ wd_52) (fun _ h9 => h9) rfl d_Lo_keepPace_35 ?_
  refine lv_aload_n hx hb d_Lo_keepPace_38 rfl (lv_at hl 0 rfl) ?_
  refine va_get (D := (dC, dI)) (ci := 1) (v := .int (((xi 1) + 1) - ((xi 1) + 1) / 32 * 32)) (C := R_Lo) (T := T_Lo) (N := 12) hx hb hts uin_Lo hown hK hP 0 rfl rfl 3 (by decide) (hts _ wd_54) (fun _ h9 => h9) rfl d_Lo_keepPace_39 ?_
  refine lv_iload_n hx hb d_Lo_keepPace_42 rfl (lv_at hl 1 rfl) ?_
  refine va_iast hx hb hK hP hD hS 1 0 rfl rfl (ring32_in hc) d_Lo_keepPace_43 (fun H locs hP hD hS => ?_)
  have hP : va_P (dC, dI) vwCl [(b0, .inr (1, [.ref bm, .ref bp, .int (xi 0), .int (((xi 1) + 1) - ((xi 1) + 1) / 32 * 32), .long (xj 0), .long ((xj 1) + ((v_keepP_0 xi xp ia).toInt64)), .int (xi 2), .int (xi 3), .int (xi 4), .int (xi 5), .int (xi 6), .int (xi 7)])), (bp, .inl (cI, 32, .inl (v_keepP_1 xi xp ia)))] H := hP
  have hD : va_D A [(b0, .inr (1, [.ref bm, .ref bp, .int (xi 0), .int (((xi 1) + 1) - ((xi 1) + 1) / 32 * 32), .long (xj 0), .long ((xj 1) + ((v_keepP_0 xi xp ia).toInt64)), .int (xi 2), .int (xi 3), .int (xi 4), .int (xi 5), .int (xi 6), .int (xi 7)])), (bp, .inl (cI, 32, .inl (v_keepP_1 xi xp ia)))] := hD
  refine lv_aload_n hx hb d_Lo_keepPace_44 rfl (lv_at hl 0 rfl) ?_
  refine lv_aload_n hx hb d_Lo_keepPace_45 rfl (lv_at hl 0 rfl) ?_
  refine va_get (D := (dC, dI)) (ci := 1) (v := .long ((xj 1) + ((v_keepP_0 xi xp ia).toInt64))) (C := R_Lo) (T := T_Lo) (N := 12) hx hb hts uin_Lo hown hK hP 0 rfl rfl 5 (by decide) (hts _ wd_56) (fun _ h9 => h9) rfl d_Lo_keepPace_46 ?_
  refine kq_R (r := .int (r_meanF ((xj 1) + ((v_keepP_0 xi xp ia).toInt64)))) (va_runS (As := [.long ((xj 1) + ((v_keepP_0 xi xp ia).toInt64))]) (rest := [.ref b0]) ⟨hx, hb, hml, hown, hts⟩ (c_meanF l dC dI ((xj 1) + ((v_keepP_0 xi xp ia).toInt64))) (kw_S (n := 1) hts wd_46 wd_47 wd_2 wd_48 rfl rfl (by decide +kernel) ⟨Nat.le_of_ble_eq_true rfl, Nat.le_of_ble_eq_true rfl⟩) (kq_preS hN (hP.sub (ws' := []) [] rfl) (hK.sub (tys' := []) [] rfl)) rfl rfl hl.1 rfl (lv_room (Nat.le_of_ble_eq_true rfl)) d_Lo_keepPace_49 ⟨Nat.le_of_ble_eq_true rfl, Nat.le_of_ble_eq_true rfl⟩) ?_
  refine va_put (D := (dC, dI)) (ci := 1) (v := .int (r_meanF ((xj 1) + ((v_keepP_0 xi xp ia).toInt64)))) (ty := .int) (C := R_Lo) (T := T_Lo) (N := 12) hx hb hts uin_Lo t_Lo t_Lo_ok n_Lo hown hK hP hD hS 0 rfl rfl 11 (by decide) (hts _ wd_67) (fun _ h9 => h9) rfl (by decide +kernel) rfl rfl (Nat.le_of_ble_eq_true rfl) d_Lo_keepPace_52 (fun H locs hP hD hS => ?_)
  have hP : va_P (dC, dI) vwCl [(b0, .inr (1, [.ref bm, .ref bp, .int (xi 0), .int (((xi 1) + 1) - ((xi 1) + 1) / 32 * 32), .long (xj 0), .long ((xj 1) + ((v_keepP_0 xi xp ia).toInt64)), .int (xi 2), .int (xi 3), .int (xi 4), .int (xi 5), .int (xi 6), .int (r_meanF ((xj 1) + ((v_keepP_0 xi xp ia).toInt64)))])), (bp, .inl (cI, 32, .inl (v_keepP_1 xi xp ia)))] H := hP
  have hD : va_D A [(b0, .inr (1, [.ref bm, .ref bp, .int (xi 0), .int (((xi 1) + 1) - ((xi 1) + 1) / 32 * 32), .long (xj 0), .long ((xj 1) + ((v_keepP_0 xi xp ia).toInt64)), .int (xi 2), .int (xi 3), .int (xi 4), .int (xi 5), .int (xi 6), .int (r_meanF ((xj 1) + ((v_keepP_0 xi xp ia).toInt64)))])), (bp, .inl (cI, 32, .inl (v_keepP_1 xi xp ia)))] := hD
  have hP9 := hP.sub (ws' := [(b0, .inr (1, [.ref bm, .ref bp, .int (xi 0), .int (((xi 1) + 1) - ((xi 1) + 1) / 32 * 32), .long (xj 0), .long ((xj 1) + ((v_keepP_0 xi xp ia).toInt64)), .int (xi 2), .int (xi 3), .int (xi 4), .int (xi 5), .int (xi 6), .int (r_meanF ((xj 1) + ((v_keepP_0 xi xp ia).toInt64)))])), (bp, .inl (cI, 32, .inl (v_keepP_1 xi xp ia)))]) [0, 1] rfl
  have hD9 := hD.sub (ws' := [(b0, .inr (1, [.ref bm, .ref bp, .int (xi 0), .int (((xi 1) + 1) - ((xi 1) + 1) / 32 * 32), .long (xj 0), .long ((xj 1) + ((v_keepP_0 xi xp ia).toInt64)), .int (xi 2), .int (xi 3), .int (xi 4), .int (xi 5), .int (xi 6), .int (r_meanF ((xj 1) + ((v_keepP_0 xi xp ia).toInt64)))])), (bp, .inl (cI, 32, .inl (v_keepP_1 xi xp ia)))]) [0, 1] (by decide) rfl
  have E0 : o_keepP_xi xi xj xp ia = uv (uv xi 1 (((xi 1) + 1) - ((xi 1) + 1) / 32 * 32)) 7 (r_meanF ((xj 1) + ((v_keepP_0 xi xp ia).toInt64))) := rfl
  have E1 : o_keepP_xj xi xj xp ia = uw xj 1 ((xj 1) + ((v_keepP_0 xi xp ia).toInt64)) := rfl
  have E2 : o_keepP_xp xi xp ia = v_keepP_1 xi xp ia := rfl
  exact W.vret hx hb hr (fun t ht hW => ⟨⟨(), rfl, trivial, by rw [ht, E0, E1, E2]; exact hP9, va_K.moved hW.alike hK, by rw [E0, E1, E2]; exact hD9⟩, hS.F ht⟩) hS.2.2 d_Lo_keepPace_55
noncomputable def v_follow_0 (ia : Int32) (ib : Int32) (ic : Int32) : Int64 := ((((2 * ia) - ib) - ic).toInt64) * ((((2 * ia) - ib) - ic).toInt64)
noncomputable def v_follow_1 (ib : Int32) (ic : Int32) : Int64 := ((r_floorDiv ((ib - ic) * 1774) 1024).toInt64) * ((r_floorDiv ((ib - ic) * 1774) 1024).toInt64)
noncomputable def v_follow_2 (xi : Nat → Int32) (ib : Int32) (ic : Int32) : Int64 := ((r_floorDiv ((ib - ic) * 1774) 1024).toInt64) * ((r_cosine (xi 2)).toInt64)
noncomputable def v_follow_3 (xi : Nat → Int32) (ia : Int32) (ib : Int32) (ic : Int32) : Int64 := (v_follow_2 xi ib ic) - (((((2 * ia) - ib) - ic).toInt64) * ((r_sine (xi 2)).toInt64))
noncomputable def v_follow_4 (ia : Int32) (ib : Int32) (ic : Int32) : Int64 := ((r_root ((v_follow_0 ia ib ic) + (v_follow_1 ib ic))) + 1).toInt64
noncomputable def v_follow_5 (xi : Nat → Int32) (ia : Int32) (ib : Int32) (ic : Int32) : Int32 := (xi 3) + (2 * (((v_follow_3 xi ia ib ic) / (v_follow_4 ia ib ic)).toInt32))
noncomputable def v_follow_6 (xi : Nat → Int32) (ia : Int32) (ib : Int32) (ic : Int32) : Int32 := 21474836 + (r_limited (v_follow_5 xi ia ib ic) (-4000000) 4000000)
noncomputable def v_follow_7 (xi : Nat → Int32) (ia : Int32) (ib : Int32) (ic : Int32) : Int32 := 200 * (((v_follow_3 xi ia ib ic) / (v_follow_4 ia ib ic)).toInt32)
noncomputable def v_follow_8 (xi : Nat → Int32) (ia : Int32) (ib : Int32) (ic : Int32) : Nat → Int32 := uv (uv (uv (uv xi 2 ((xi 2) + ((v_follow_6 xi ia ib ic) + (v_follow_7 xi ia ib ic)))) 3 (r_limited (v_follow_5 xi ia ib ic) (-4000000) 4000000)) 4 (((v_follow_3 xi ia ib ic) / (v_follow_4 ia ib ic)).toInt32)) 5 (r_root ((v_follow_0 ia ib ic) + (v_follow_1 ib ic)))
noncomputable def v_follow_9 (xi : Nat → Int32) (xj : Nat → Int64) (xm : Nat → Int32) (ia : Int32) (ib : Int32) (ic : Int32) : Nat → Int32 := o_keepM_xi (v_follow_8 xi ia ib ic) xj xm
noncomputable def v_follow_10 (xi : Nat → Int32) (xj : Nat → Int64) (xm : Nat → Int32) (ia : Int32) (ib : Int32) (ic : Int32) : Nat → Int64 := o_keepM_xj (v_follow_8 xi ia ib ic) xj xm
noncomputable def v_follow_11 (xi : Nat → Int32) (xm : Nat → Int32) (ia : Int32) (ib : Int32) (ic : Int32) : Nat → Int32 := o_keepM_xm (v_follow_8 xi ia ib ic) xm
noncomputable def v_follow_12 (xi : Nat → Int32) (xj : Nat → Int64) (xm : Nat → Int32) (xp : Nat → Int32) (ia : Int32) (ib : Int32) (ic : Int32) : Nat → Int32 := o_keepP_xi (v_follow_9 xi xj xm ia ib ic) (v_follow_10 xi xj xm ia ib ic) xp ((v_follow_6 xi ia ib ic) + (v_follow_7 xi ia ib ic))
noncomputable def v_follow_13 (xi : Nat → Int32) (xj : Nat → Int64) (xm : Nat → Int32) (xp : Nat → Int32) (ia : Int32) (ib : Int32) (ic : Int32) : Nat → Int64 := o_keepP_xj (v_follow_9 xi xj xm ia ib ic) (v_follow_10 xi xj xm ia ib ic) xp ((v_follow_6 xi ia ib ic) + (v_follow_7 xi ia ib ic))
noncomputable def v_follow_14 (xi : Nat → Int32) (xj : Nat → Int64) (xm : Nat → Int32) (xp : Nat → Int32) (ia : Int32) (ib : Int32) (ic : Int32) : Nat → Int32 := o_keepP_xp (v_follow_9 xi xj xm ia ib ic) xp ((v_follow_6 xi ia ib ic) + (v_follow_7 xi ia ib ic))
noncomputable def o_follow_xi (xi : Nat → Int32) (xj : Nat → Int64) (xm : Nat → Int32) (xp : Nat → Int32) (ia : Int32) (ib : Int32) (ic : Int32) : Nat → Int32 := v_follow_12 xi xj xm xp ia ib ic
noncomputable def o_follow_xj (xi : Nat → Int32) (xj : Nat → Int64) (xm : Nat → Int32) (xp : Nat → Int32) (ia : Int32) (ib : Int32) (ic : Int32) : Nat → Int64 := v_follow_13 xi xj xm xp ia ib ic
noncomputable def o_follow_xm (xi : Nat → Int32) (xm : Nat → Int32) (ia : Int32) (ib : Int32) (ic : Int32) : Nat → Int32 := v_follow_11 xi xm ia ib ic
noncomputable def o_follow_xp (xi : Nat → Int32) (xj : Nat → Int64) (xm : Nat → Int32) (xp : Nat → Int32) (ia : Int32) (ib : Int32) (ic : Int32) : Nat → Int32 := v_follow_14 xi xj xm xp ia ib ic
set_option maxHeartbeats 4000000 in
set_option maxRecDepth 100000 in
theorem c_follow (l : Launch) (dC : Nat → ClassId) (dI : Nat → Nat → Nat) (b0 : Nat) (bm : Nat) (bp : Nat) (cI : ClassId) (xi : Nat → Int32) (xj : Nat → Int64) (xm : Nat → Int32) (xp : Nat → Int32) (ia : Int32) (ib : Int32) (ic : Int32) (sz : Nat) (ha : vp_in (xi 0) 16) (hc : vp_in (xi 1) 32) : Met l y_Lo_follow (wz y_Lo_follow b_Lo_follow 7 none) { frames := 2, cells := 0, slots := 0, locals := 43 } (va_Pc [.ref b0, .int ia, .int ib, .int ic] (fun U => U.heap.size = sz ∧ nw U ∧ va_P (dC, dI) vwCl [(b0, .inr (1, [.ref bm, .ref bp, .int (xi 0), .int (xi 1), .long (xj 0), .long (xj 1), .int (xi 2), .int (xi 3), .int (xi 4), .int (xi 5), .int (xi 6), .int (xi 7)])), (bm, .inl (cI, 16, .inl xm)), (bp, .inl (cI, 32, .inl xp))] U.heap ∧ va_K (dC, dI) vwCl [(cI, .int)] U ∧ va_D (fun _ => True) [(b0, .inr (1, [.ref bm, .ref bp, .int (xi 0), .int (xi 1), .long (xj 0), .long (xj 1), .int (xi 2), .int (xi 3), .int (xi 4), .int (xi 5), .int (xi 6), .int (xi 7)])), (bm, .inl (cI, 16, .inl xm)), (bp, .inl (cI, 32, .inl xp))])) (va_Qv (fun _ : Unit => True) (fun _ t => va_P (dC, dI) vwCl [(b0, .inr (1, [.ref bm, .ref bp, .int ((o_follow_xi xi xj xm xp ia ib ic) 0), .int ((o_follow_xi xi xj xm xp ia ib ic) 1), .long ((o_follow_xj xi xj xm xp ia ib ic) 0), .long ((o_follow_xj xi xj xm xp ia ib ic) 1), .int ((o_follow_xi xi xj xm xp ia ib ic) 2), .int ((o_follow_xi xi xj xm xp ia ib ic) 3), .int ((o_follow_xi xi xj xm xp ia ib ic) 4), .int ((o_follow_xi xi xj xm xp ia ib ic) 5), .int ((o_follow_xi xi xj xm xp ia ib ic) 6), .int ((o_follow_xi xi xj xm xp ia ib ic) 7)])), (bm, .inl (cI, 16, .inl (o_follow_xm xi xm ia ib ic))), (bp, .inl (cI, 32, .inl (o_follow_xp xi xj xm xp ia ib ic)))] t.heap ∧ va_K (dC, dI) vwCl [(cI, .int)] t ∧ va_D (va_A [(b0, .inr (1, [.ref bm, .ref bp, .int (xi 0), .int (xi 1), .long (xj 0), .long (xj 1), .int (xi 2), .int (xi 3), .int (xi 4), .int (xi 5), .int (xi 6), .int (xi 7)])), (bm, .inl (cI, 16, .inl xm)), (bp, .inl (cI, 32, .inl xp))] sz) [(b0, .inr (1, [.ref bm, .ref bp, .int ((o_follow_xi xi xj xm xp ia ib ic) 0), .int ((o_follow_xi xi xj xm xp ia ib ic) 1), .long ((o_follow_xj xi xj xm xp ia ib ic) 0), .long ((o_follow_xj xi xj xm xp ia ib ic) 1), .int ((o_follow_xi xi xj xm xp ia ib ic) 2), .int ((o_follow_xi xi xj xm xp ia ib ic) 3), .int ((o_follow_xi xi xj xm xp ia ib ic) 4), .int ((o_follow_xi xi xj xm xp ia ib ic) 5), .int ((o_follow_xi xi xj xm xp ia ib ic) 6), .int ((o_follow_xi xi xj xm xp ia ib ic) 7)])), (bm, .inl (cI, 16, .inl (o_follow_xm xi xm ia ib ic))), (bp, .inl (cI, 32, .inl (o_follow_xp xi xj xm xp ia ib ic)))]) (va_A [(b0, .inr (1, [.ref bm, .ref bp, .int (xi 0), .int (xi 1), .long (xj 0), .long (xj 1), .int (xi 2), .int (xi 3), .int (xi 4), .int (xi 5), .int (xi 6), .int (xi 7)])), (bm, .inl (cI, 16, .inl xm)), (bp, .inl (cI, 32, .inl xp))] sz)) 0 0 (va_A [(b0, .inr (1, [.ref bm, .ref bp, .int (xi 0), .int (xi 1), .long (xj 0), .long (xj 1), .int (xi 2), .int (xi 3), .int (xi 4), .int (xi 5), .int (xi 6), .int (xi 7)])), (bm, .inl (cI, 16, .inl xm)), (bp, .inl (cI, 32, .inl xp))] sz) := by
  refine Met.ofW (cc := b_Lo_follow) (maxL := 7) (ret := none) (by decide) rfl ?_
  intro p e s m args below meth c s₁ B hml hv
  obtain ⟨rfl, hsz, hN, hP, hK, hD0⟩ := hv
  have hx := B.exec
  have hb := B.bytes
  have hr := B.returns
  have hts := fun w h => atoms_spec (ws := (wz y_Lo_follow b_Lo_follow 7 none)) B.pre w (List.mem_cons_of_mem _ h)
  have hown : s.vm.findClass R_Lo = some m.cls := findClass_of_methodNamed B.named
  have hlocks := B.notSynchronized
  subst hsz
  have hD := hD0.self (sz := s.heap.size)
  generalize hAe : va_A [(b0, .inr (1, [.ref bm, .ref bp, .int (xi 0), .int (xi 1), .long (xj 0), .long (xj 1), .int (xi 2), .int (xi 3), .int (xi 4), .int (xi 5), .int (xi 6), .int (xi 7)])), (bm, .inl (cI, 16, .inl xm)), (bp, .inl (cI, 32, .inl xp))] s.heap.size = A at hD ⊢
  have hA : ∀ q : Nat, s.heap.size ≤ q → A q := fun q h => by rw [← hAe]; exact Or.inr h
  have hS : va_S A s.heap s.heap [] := va_S.rf
  have hl := lv_entry ([.ref b0, .int ia, .int ib, .int ic]) (n := 7) (Nat.le_of_ble_eq_true rfl)
  rw [lg_entry_eq]
  generalize (lg_sl ([.ref b0, .int ia, .int ib, .int ic]) ++ List.replicate (7 - (lg_sl ([.ref b0, .int ia, .int ib, .int ic])).length) Slot.unset).toArray = ls at hl ⊢
  have hl : lv_has ls 7 [(0, .ref b0), (1, .int ia), (2, .int ib), (3, .int ic)] := hl
  refine lv_iconst (v := 2) hx hb d_Lo_follow_0 (by decide) ?_
  refine lv_iload_n hx hb d_Lo_follow_1 rfl (lv_at hl 1 rfl) ?_
  refine lv_imul hx hb d_Lo_follow_2 ?_
  refine lv_iload_n hx hb d_Lo_follow_3 rfl (lv_at hl 2 rfl) ?_
  refine lv_isub hx hb d_Lo_follow_4 ?_
  refine lv_iload_n hx hb d_Lo_follow_5 rfl (lv_at hl 3 rfl) ?_
  refine lv_isub hx hb d_Lo_follow_6 ?_
  refine lv_istore (lv' := [(4, .int (((2 * ia) - ib) - ic)), (0, .ref b0), (1, .int ia), (2, .int ib), (3, .int ic)]) hx hb d_Lo_follow_7 hl (by decide) rfl (fun ls hl => ?_)
  refine lv_iload_n hx hb d_Lo_follow_9 rfl (lv_at hl 3 rfl) ?_
  refine lv_iload_n hx hb d_Lo_follow_10 rfl (lv_at hl 4 rfl) ?_
  refine lv_isub hx hb d_Lo_follow_11 ?_
  refine lv_sipush (v := 1774) hx hb d_Lo_follow_12 (by decide) ?_
  refine lv_imul hx hb d_Lo_follow_15 ?_
  refine lv_sipush (v := 1024) hx hb d_Lo_follow_16 (by decide) ?_
  refine kq_R (r := .int (r_floorDiv ((ib - ic) * 1774) 1024)) (va_runS (As := [.int ((ib - ic) * 1774), .int 1024]) (rest := []) ⟨hx, hb, hml, hown, hts⟩ (c_floorDiv l dC dI ((ib - ic) * 1774) 1024 (by decide)) (kw_S (n := 2) hts wd_484 wd_485 wd_17 wd_486 rfl rfl (by decide +kernel) ⟨Nat.le_of_ble_eq_true rfl, Nat.le_of_ble_eq_true rfl⟩) (kq_preS hN (hP.sub (ws' := []) [] rfl) (hK.sub (tys' := []) [] rfl)) rfl rfl hl.1 rfl (lv_room (Nat.le_of_ble_eq_true rfl)) d_Lo_follow_19 ⟨Nat.le_of_ble_eq_true rfl, Nat.le_of_ble_eq_true rfl⟩) ?_
  refine lv_istore (lv' := [(5, .int (r_floorDiv ((ib - ic) * 1774) 1024)), (4, .int (((2 * ia) - ib) - ic)), (0, .ref b0), (1, .int ia), (2, .int ib), (3, .int ic)]) hx hb d_Lo_follow_22 hl (by decide) rfl (fun ls hl => ?_)
  refine lv_aload_n hx hb d_Lo_follow_24 rfl (lv_at hl 2 rfl) ?_
  refine lv_iload hx hb d_Lo_follow_25 (lv_at hl 1 rfl) ?_
  refine lv_i2l hx hb d_Lo_follow_27 rfl ?_
  refine lv_iload hx hb d_Lo_follow_28 (lv_at hl 1 rfl) ?_
  refine lv_i2l hx hb d_Lo_follow_30 rfl ?_
  refine lv_lmul hx hb d_Lo_follow_31 ?_
  refine kq_fl (y := v_follow_0 ia ib ic) rfl ?_
  refine lv_iload hx hb d_Lo_follow_32 (lv_at hl 0 rfl) ?_
  refine lv_i2l hx hb d_Lo_follow_34 rfl ?_
  refine lv_iload hx hb d_Lo_follow_35 (lv_at hl 0 rfl) ?_
  refine lv_i2l hx hb d_Lo_follow_37 rfl ?_
  refine lv_lmul hx hb d_Lo_follow_38 ?_
  refine kq_fl (y := v_follow_1 ib ic) rfl ?_
  refine lv_ladd hx hb d_Lo_follow_39 ?_
  refine kq_R (r := .int (r_root ((v_follow_0 ia ib ic) + (v_follow_1 ib ic)))) (va_runSN (As := [.long ((v_follow_0 ia ib ic) + (v_follow_1 ib ic))]) (rest := [.ref b0]) ⟨hx, hb, hml, hown, hts⟩ (c_root l dC dI ((v_follow_0 ia ib ic) + (v_follow_1 ib ic))) (kw_SN (n := 1) hts hN wd_487 wd_488 wd_1 wd_489 rfl rfl (by decide +kernel) ⟨Nat.le_of_ble_eq_true rfl, Nat.le_of_ble_eq_true rfl⟩) (kq_preS hN (hP.sub (ws' := []) [] rfl) (hK.sub (tys' := []) [] rfl)) rfl rfl hl.1 rfl (lv_room (Nat.le_of_ble_eq_true rfl)) d_Lo_follow_40 ⟨Nat.le_of_ble_eq_true rfl, Nat.le_of_ble_eq_true rfl⟩) ?_
  refine va_put (D := (dC, dI)) (ci := 1) (v := .int (r_root ((v_follow_0 ia ib ic) + (v_follow_1 ib ic)))) (ty := .int) (C := R_Lo) (T := T_Lo) (N := 12) hx hb hts uin_Lo t_Lo t_Lo_ok n_Lo hown hK hP hD hS 0 rfl rfl 9 (by decide) (hts _ wd_63) (fun _ h9 => h9) rfl (by decide +kernel) rfl rfl (Nat.le_of_ble_eq_true rfl) d_Lo_follow_43 (fun H locs hP hD hS => ?_)
  have hP : va_P (dC, dI) vwCl [(b0, .inr (1, [.ref bm, .ref bp, .int (xi 0), .int (xi 1), .long (xj 0), .long (xj 1), .int (xi 2), .int (xi 3), .int (xi 4), .int (r_root ((v_follow_0 ia ib ic) + (v_follow_1 ib ic))), .int (xi 6), .int (xi 7)])), (bm, .inl (cI, 16, .inl xm)), (bp, .inl (cI, 32, .inl xp))] H := hP
  have hD : va_D A [(b0, .inr (1, [.ref bm, .ref bp, .int (xi 0), .int (xi 1), .long (xj 0), .long (xj 1), .int (xi 2), .int (xi 3), .int (xi 4), .int (r_root ((v_follow_0 ia ib ic) + (v_follow_1 ib ic))), .int (xi 6), .int (xi 7)])), (bm, .inl (cI, 16, .inl xm)), (bp, .inl (cI, 32, .inl xp))] := hD
  refine lv_aload_n hx hb d_Lo_follow_46 rfl (lv_at hl 2 rfl) ?_
  refine lv_iload hx hb d_Lo_follow_47 (lv_at hl 0 rfl) ?_
  refine lv_i2l hx hb d_Lo_follow_49 rfl ?_
  refine lv_aload_n hx hb d_Lo_follow_50 rfl (lv_at hl 2 rfl) ?_
  refine va_get (D := (dC, dI)) (ci := 1) (v := .int (xi 2)) (C := R_Lo) (T := T_Lo) (N := 12) hx hb hts uin_Lo hown hK hP 0 rfl rfl 6 (by decide) (hts _ wd_57) (fun _ h9 => h9) rfl d_Lo_follow_51 ?_
  refine kq_R (r := .int (r_cosine (xi 2))) (va_runSN (As := [.int (xi 2)]) (rest := [.long ((r_floorDiv ((ib - ic) * 1774) 1024).toInt64), .ref b0]) ⟨hx, hb, hml, hown, hts⟩ (c_cosine l dC dI (xi 2)) (kw_SN (n := 1) hts hN wd_490 wd_491 wd_1 wd_492 rfl rfl (by decide +kernel) ⟨Nat.le_of_ble_eq_true rfl, Nat.le_of_ble_eq_true rfl⟩) (kq_preS hN (hP.sub (ws' := []) [] rfl) (hK.sub (tys' := []) [] rfl)) rfl rfl hl.1 rfl (lv_room (Nat.le_of_ble_eq_true rfl)) d_Lo_follow_54 ⟨Nat.le_of_ble_eq_true rfl, Nat.le_of_ble_eq_true rfl⟩) ?_
  refine lv_i2l hx hb d_Lo_follow_57 rfl ?_
  refine lv_lmul hx hb d_Lo_follow_58 ?_
  refine kq_fl (y := v_follow_2 xi ib ic) rfl ?_
  refine lv_iload hx hb d_Lo_follow_59 (lv_at hl 1 rfl) ?_
  refine lv_i2l hx hb d_Lo_follow_61 rfl ?_
  refine lv_aload_n hx hb d_Lo_follow_62 rfl (lv_at hl 2 rfl) ?_
  refine va_get (D := (dC, dI)) (ci := 1) (v := .int (xi 2)) (C := R_Lo) (T := T_Lo) (N := 12) hx hb hts uin_Lo hown hK hP 0 rfl rfl 6 (by decide) (hts _ wd_57) (fun _ h9 => h9) rfl d_Lo_follow_63 ?_
  refine kq_R (r := .int (r_sine (xi 2))) (va_runSN (As := [.int (xi 2)]) (rest := [.long ((((2 * ia) - ib) - ic).toInt64), .long (v_follow_2 xi ib ic), .ref b0]) ⟨hx, hb, hml, hown, hts⟩ (c_sine l dC dI (xi 2)) (kw_SN (n := 1) hts hN wd_498 wd_495 wd_1 wd_496 rfl rfl (by decide +kernel) ⟨Nat.le_of_ble_eq_true rfl, Nat.le_of_ble_eq_true rfl⟩) (kq_preS hN (hP.sub (ws' := []) [] rfl) (hK.sub (tys' := []) [] rfl)) rfl rfl hl.1 rfl (lv_room (Nat.le_of_ble_eq_true rfl)) d_Lo_follow_66 ⟨Nat.le_of_ble_eq_true rfl, Nat.le_of_ble_eq_true rfl⟩) ?_
  refine lv_i2l hx hb d_Lo_follow_69 rfl ?_
  refine lv_lmul hx hb d_Lo_follow_70 ?_
  refine lv_lsub hx hb d_Lo_follow_71 ?_
  refine kq_fl (y := v_follow_3 xi ia ib ic) rfl ?_
  refine lv_aload_n hx hb d_Lo_follow_72 rfl (lv_at hl 2 rfl) ?_
  refine va_get (D := (dC, dI)) (ci := 1) (v := .int (r_root ((v_follow_0 ia ib ic) + (v_follow_1 ib ic)))) (C := R_Lo) (T := T_Lo) (N := 12) hx hb hts uin_Lo hown hK hP 0 rfl rfl 9 (by decide) (hts _ wd_63) (fun _ h9 => h9) rfl d_Lo_follow_73 ?_
  refine lv_iconst (v := 1) hx hb d_Lo_follow_76 (by decide) ?_
  refine lv_iadd hx hb d_Lo_follow_77 ?_
  refine lv_i2l hx hb d_Lo_follow_78 rfl ?_
  refine kq_fl (y := v_follow_4 ia ib ic) rfl ?_
  refine lv_ldiv hx hb d_Lo_follow_79 (root_ne _) ?_
  refine lv_l2i hx hb d_Lo_follow_80 rfl ?_
  refine va_put (D := (dC, dI)) (ci := 1) (v := .int (((v_follow_3 xi ia ib ic) / (v_follow_4 ia ib ic)).toInt32)) (ty := .int) (C := R_Lo) (T := T_Lo) (N := 12) hx hb hts uin_Lo t_Lo t_Lo_ok n_Lo hown hK hP hD hS 0 rfl rfl 8 (by decide) (hts _ wd_61) (fun _ h9 => h9) rfl (by decide +kernel) rfl rfl (Nat.le_of_ble_eq_true rfl) d_Lo_follow_81 (fun H locs hP hD hS => ?_)
  have hP : va_P (dC, dI) vwCl [(b0, .inr (1, [.ref bm, .ref bp, .int (xi 0), .int (xi 1), .long (xj 0), .long (xj 1), .int (xi 2), .int (xi 3), .int (((v_follow_3 xi ia ib ic) / (v_follow_4 ia ib ic)).toInt32), .int (r_root ((v_follow_0 ia ib ic) + (v_follow_1 ib ic))), .int (xi 6), .int (xi 7)])), (bm, .inl (cI, 16, .inl xm)), (bp, .inl (cI, 32, .inl xp))] H := hP
  have hD : va_D A [(b0, .inr (1, [.ref bm, .ref bp, .int (xi 0), .int (xi 1), .long (xj 0), .long (xj 1), .int (xi 2), .int (xi 3), .int (((v_follow_3 xi ia ib ic) / (v_follow_4 ia ib ic)).toInt32), .int (r_root ((v_follow_0 ia ib ic) + (v_follow_1 ib ic))), .int (xi 6), .int (xi 7)])), (bm, .inl (cI, 16, .inl xm)), (bp, .inl (cI, 32, .inl xp))] := hD
  refine lv_aload_n hx hb d_Lo_follow_84 rfl (lv_at hl 2 rfl) ?_
  refine lv_aload_n hx hb d_Lo_follow_85 rfl (lv_at hl 2 rfl) ?_
  refine va_get (D := (dC, dI)) (ci := 1) (v := .int (xi 3)) (C := R_Lo) (T := T_Lo) (N := 12) hx hb hts uin_Lo hown hK hP 0 rfl rfl 7 (by decide) (hts _ wd_59) (fun _ h9 => h9) rfl d_Lo_follow_86 ?_
  refine lv_iconst (v := 2) hx hb d_Lo_follow_89 (by decide) ?_
  refine lv_aload_n hx hb d_Lo_follow_90 rfl (lv_at hl 2 rfl) ?_
  refine va_get (D := (dC, dI)) (ci := 1) (v := .int (((v_follow_3 xi ia ib ic) / (v_follow_4 ia ib ic)).toInt32)) (C := R_Lo) (T := T_Lo) (N := 12) hx hb hts uin_Lo hown hK hP 0 rfl rfl 8 (by decide) (hts _ wd_61) (fun _ h9 => h9) rfl d_Lo_follow_91 ?_
  refine lv_imul hx hb d_Lo_follow_94 ?_
  refine lv_iadd hx hb d_Lo_follow_95 ?_
  refine kq_fi (y := v_follow_5 xi ia ib ic) rfl ?_
  refine lv_ldc (v := (-4000000)) hx hb hown (hts _ wd_499) d_Lo_follow_96 ?_
  refine lv_ldc (v := 4000000) hx hb hown (hts _ wd_500) d_Lo_follow_98 ?_
  refine kq_R (r := .int (r_limited (v_follow_5 xi ia ib ic) (-4000000) 4000000)) (va_runSN (As := [.int (v_follow_5 xi ia ib ic), .int (-4000000), .int 4000000]) (rest := [.ref b0]) ⟨hx, hb, hml, hown, hts⟩ (c_limited l dC dI (v_follow_5 xi ia ib ic) (-4000000) 4000000) (kw_SN (n := 3) hts hN wd_501 wd_502 wd_1 wd_503 rfl rfl (by decide +kernel) ⟨Nat.le_of_ble_eq_true rfl, Nat.le_of_ble_eq_true rfl⟩) (kq_preS hN (hP.sub (ws' := []) [] rfl) (hK.sub (tys' := []) [] rfl)) rfl rfl hl.1 rfl (lv_room (Nat.le_of_ble_eq_true rfl)) d_Lo_follow_100 ⟨Nat.le_of_ble_eq_true rfl, Nat.le_of_ble_eq_true rfl⟩) ?_
  refine va_put (D := (dC, dI)) (ci := 1) (v := .int (r_limited (v_follow_5 xi ia ib ic) (-4000000) 4000000)) (ty := .int) (C := R_Lo) (T := T_Lo) (N := 12) hx hb hts uin_Lo t_Lo t_Lo_ok n_Lo hown hK hP hD hS 0 rfl rfl 7 (by decide) (hts _ wd_59) (fun _ h9 => h9) rfl (by decide +kernel) rfl rfl (Nat.le_of_ble_eq_true rfl) d_Lo_follow_103 (fun H locs hP hD hS => ?_)
  have hP : va_P (dC, dI) vwCl [(b0, .inr (1, [.ref bm, .ref bp, .int (xi 0), .int (xi 1), .long (xj 0), .long (xj 1), .int (xi 2), .int (r_limited (v_follow_5 xi ia ib ic) (-4000000) 4000000), .int (((v_follow_3 xi ia ib ic) / (v_follow_4 ia ib ic)).toInt32), .int (r_root ((v_follow_0 ia ib ic) + (v_follow_1 ib ic))), .int (xi 6), .int (xi 7)])), (bm, .inl (cI, 16, .inl xm)), (bp, .inl (cI, 32, .inl xp))] H := hP
  have hD : va_D A [(b0, .inr (1, [.ref bm, .ref bp, .int (xi 0), .int (xi 1), .long (xj 0), .long (xj 1), .int (xi 2), .int (r_limited (v_follow_5 xi ia ib ic) (-4000000) 4000000), .int (((v_follow_3 xi ia ib ic) / (v_follow_4 ia ib ic)).toInt32), .int (r_root ((v_follow_0 ia ib ic) + (v_follow_1 ib ic))), .int (xi 6), .int (xi 7)])), (bm, .inl (cI, 16, .inl xm)), (bp, .inl (cI, 32, .inl xp))] := hD
  refine lv_ldc (v := 21474836) hx hb hown (hts _ wd_41) d_Lo_follow_106 ?_
  refine lv_aload_n hx hb d_Lo_follow_108 rfl (lv_at hl 2 rfl) ?_
  refine va_get (D := (dC, dI)) (ci := 1) (v := .int (r_limited (v_follow_5 xi ia ib ic) (-4000000) 4000000)) (C := R_Lo) (T := T_Lo) (N := 12) hx hb hts uin_Lo hown hK hP 0 rfl rfl 7 (by decide) (hts _ wd_59) (fun _ h9 => h9) rfl d_Lo_follow_109 ?_
  refine lv_iadd hx hb d_Lo_follow_112 ?_
  refine kq_fi (y := v_follow_6 xi ia ib ic) rfl ?_
  refine lv_sipush (v := 200) hx hb d_Lo_follow_113 (by decide) ?_
  refine lv_aload_n hx hb d_Lo_follow_116 rfl (lv_at hl 2 rfl) ?_
  refine va_get (D := (dC, dI)) (ci := 1) (v := .int (((v_follow_3 xi ia ib ic) / (v_follow_4 ia ib ic)).toInt32)) (C := R_Lo) (T := T_Lo) (N := 12) hx hb hts uin_Lo hown hK hP 0 rfl rfl 8 (by decide) (hts _ wd_61) (fun _ h9 => h9) rfl d_Lo_follow_117 ?_
  refine lv_imul hx hb d_Lo_follow_120 ?_
  refine kq_fi (y := v_follow_7 xi ia ib ic) rfl ?_
  refine lv_iadd hx hb d_Lo_follow_121 ?_
  refine lv_istore (lv' := [(6, .int ((v_follow_6 xi ia ib ic) + (v_follow_7 xi ia ib ic))), (5, .int (r_floorDiv ((ib - ic) * 1774) 1024)), (4, .int (((2 * ia) - ib) - ic)), (0, .ref b0), (1, .int ia), (2, .int ib), (3, .int ic)]) hx hb d_Lo_follow_122 hl (by decide) rfl (fun ls hl => ?_)
  refine lv_aload_n hx hb d_Lo_follow_124 rfl (lv_at hl 3 rfl) ?_
  refine lv_dup hx hb d_Lo_follow_125 rfl ?_
  refine va_get (D := (dC, dI)) (ci := 1) (v := .int (xi 2)) (C := R_Lo) (T := T_Lo) (N := 12) hx hb hts uin_Lo hown hK hP 0 rfl rfl 6 (by decide) (hts _ wd_57) (fun _ h9 => h9) rfl d_Lo_follow_126 ?_
  refine lv_iload hx hb d_Lo_follow_129 (lv_at hl 0 rfl) ?_
  refine lv_iadd hx hb d_Lo_follow_131 ?_
  refine va_put (D := (dC, dI)) (ci := 1) (v := .int ((xi 2) + ((v_follow_6 xi ia ib ic) + (v_follow_7 xi ia ib ic)))) (ty := .int) (C := R_Lo) (T := T_Lo) (N := 12) hx hb hts uin_Lo t_Lo t_Lo_ok n_Lo hown hK hP hD hS 0 rfl rfl 6 (by decide) (hts _ wd_57) (fun _ h9 => h9) rfl (by decide +kernel) rfl rfl (Nat.le_of_ble_eq_true rfl) d_Lo_follow_132 (fun H locs hP hD hS => ?_)
  have hP : va_P (dC, dI) vwCl [(b0, .inr (1, [.ref bm, .ref bp, .int (xi 0), .int (xi 1), .long (xj 0), .long (xj 1), .int ((xi 2) + ((v_follow_6 xi ia ib ic) + (v_follow_7 xi ia ib ic))), .int (r_limited (v_follow_5 xi ia ib ic) (-4000000) 4000000), .int (((v_follow_3 xi ia ib ic) / (v_follow_4 ia ib ic)).toInt32), .int (r_root ((v_follow_0 ia ib ic) + (v_follow_1 ib ic))), .int (xi 6), .int (xi 7)])), (bm, .inl (cI, 16, .inl xm)), (bp, .inl (cI, 32, .inl xp))] H := hP
  have hD : va_D A [(b0, .inr (1, [.ref bm, .ref bp, .int (xi 0), .int (xi 1), .long (xj 0), .long (xj 1), .int ((xi 2) + ((v_follow_6 xi ia ib ic) + (v_follow_7 xi ia ib ic))), .int (r_limited (v_follow_5 xi ia ib ic) (-4000000) 4000000), .int (((v_follow_3 xi ia ib ic) / (v_follow_4 ia ib ic)).toInt32), .int (r_root ((v_follow_0 ia ib ic) + (v_follow_1 ib ic))), .int (xi 6), .int (xi 7)])), (bm, .inl (cI, 16, .inl xm)), (bp, .inl (cI, 32, .inl xp))] := hD
  refine lv_aload_n hx hb d_Lo_follow_135 rfl (lv_at hl 3 rfl) ?_
  refine kq_Mv (wr := [(bp, .inl (cI, 32, .inl xp))]) (w1 := [(b0, .inr (1, [.ref bm, .ref bp, .int ((v_follow_9 xi xj xm ia ib ic) 0), .int ((v_follow_9 xi xj xm ia ib ic) 1), .long ((v_follow_10 xi xj xm ia ib ic) 0), .long ((v_follow_10 xi xj xm ia ib ic) 1), .int ((v_follow_9 xi xj xm ia ib ic) 2), .int ((v_follow_9 xi xj xm ia ib ic) 3), .int ((v_follow_9 xi xj xm ia ib ic) 4), .int ((v_follow_9 xi xj xm ia ib ic) 5), .int ((v_follow_9 xi xj xm ia ib ic) 6), .int ((v_follow_9 xi xj xm ia ib ic) 7)])), (bm, .inl (cI, 16, .inl (v_follow_11 xi xm ia ib ic)))]) (va_runV (As := []) (rest := []) ⟨hx, hb, hml, hown, hts⟩ (c_keepM l dC dI b0 bm bp cI (v_follow_8 xi ia ib ic) xj xm H.size ha) (kw_V (n := 0) hts wd_510 wd_512 wp_6 wd_2 wd_513 rfl rfl (by decide +kernel) ⟨Nat.le_of_ble_eq_true rfl, Nat.le_of_ble_eq_true rfl⟩) (kq_preMV hN (hP.sub (ws' := [(b0, .inr (1, [.ref bm, .ref bp, .int ((v_follow_8 xi ia ib ic) 0), .int ((v_follow_8 xi ia ib ic) 1), .long (xj 0), .long (xj 1), .int ((v_follow_8 xi ia ib ic) 2), .int ((v_follow_8 xi ia ib ic) 3), .int ((v_follow_8 xi ia ib ic) 4), .int ((v_follow_8 xi ia ib ic) 5), .int ((v_follow_8 xi ia ib ic) 6), .int ((v_follow_8 xi ia ib ic) 7)])), (bm, .inl (cI, 16, .inl xm))]) [0, 1] rfl) (hK.sub (tys' := [(cI, .int)]) [0] rfl) (hD.sub (ws' := [(b0, .inr (1, [.ref bm, .ref bp, .int ((v_follow_8 xi ia ib ic) 0), .int ((v_follow_8 xi ia ib ic) 1), .long (xj 0), .long (xj 1), .int ((v_follow_8 xi ia ib ic) 2), .int ((v_follow_8 xi ia ib ic) 3), .int ((v_follow_8 xi ia ib ic) 4), .int ((v_follow_8 xi ia ib ic) 5), .int ((v_follow_8 xi ia ib ic) 6), .int ((v_follow_8 xi ia ib ic) 7)])), (bm, .inl (cI, 16, .inl xm))]) [0, 1] (by decide) rfl) 0 rfl rfl) rfl rfl hl.1 rfl (lv_room (Nat.le_of_ble_eq_true rfl)) d_Lo_follow_136 ⟨Nat.le_of_ble_eq_true rfl, Nat.le_of_ble_eq_true rfl⟩) hS hA hP hD [0, 1] [2] rfl rfl (by decide) (by decide) (fun H locs hP _ hD hS => ?_)
  have hP : va_P (dC, dI) vwCl [(bp, .inl (cI, 32, .inl xp)), (b0, .inr (1, [.ref bm, .ref bp, .int ((v_follow_9 xi xj xm ia ib ic) 0), .int ((v_follow_9 xi xj xm ia ib ic) 1), .long ((v_follow_10 xi xj xm ia ib ic) 0), .long ((v_follow_10 xi xj xm ia ib ic) 1), .int ((v_follow_9 xi xj xm ia ib ic) 2), .int ((v_follow_9 xi xj xm ia ib ic) 3), .int ((v_follow_9 xi xj xm ia ib ic) 4), .int ((v_follow_9 xi xj xm ia ib ic) 5), .int ((v_follow_9 xi xj xm ia ib ic) 6), .int ((v_follow_9 xi xj xm ia ib ic) 7)])), (bm, .inl (cI, 16, .inl (v_follow_11 xi xm ia ib ic)))] H := hP
  have hD : va_D A [(bp, .inl (cI, 32, .inl xp)), (b0, .inr (1, [.ref bm, .ref bp, .int ((v_follow_9 xi xj xm ia ib ic) 0), .int ((v_follow_9 xi xj xm ia ib ic) 1), .long ((v_follow_10 xi xj xm ia ib ic) 0), .long ((v_follow_10 xi xj xm ia ib ic) 1), .int ((v_follow_9 xi xj xm ia ib ic) 2), .int ((v_follow_9 xi xj xm ia ib ic) 3), .int ((v_follow_9 xi xj xm ia ib ic) 4), .int ((v_follow_9 xi xj xm ia ib ic) 5), .int ((v_follow_9 xi xj xm ia ib ic) 6), .int ((v_follow_9 xi xj xm ia ib ic) 7)])), (bm, .inl (cI, 16, .inl (v_follow_11 xi xm ia ib ic)))] := hD
  refine lv_aload_n hx hb d_Lo_follow_139 rfl (lv_at hl 3 rfl) ?_
  refine lv_iload hx hb d_Lo_follow_140 (lv_at hl 0 rfl) ?_
  refine kq_Mv (wr := [(bm, .inl (cI, 16, .inl (v_follow_11 xi xm ia ib ic)))]) (w1 := [(b0, .inr (1, [.ref bm, .ref bp, .int ((v_follow_12 xi xj xm xp ia ib ic) 0), .int ((v_follow_12 xi xj xm xp ia ib ic) 1), .long ((v_follow_13 xi xj xm xp ia ib ic) 0), .long ((v_follow_13 xi xj xm xp ia ib ic) 1), .int ((v_follow_12 xi xj xm xp ia ib ic) 2), .int ((v_follow_12 xi xj xm xp ia ib ic) 3), .int ((v_follow_12 xi xj xm xp ia ib ic) 4), .int ((v_follow_12 xi xj xm xp ia ib ic) 5), .int ((v_follow_12 xi xj xm xp ia ib ic) 6), .int ((v_follow_12 xi xj xm xp ia ib ic) 7)])), (bp, .inl (cI, 32, .inl (v_follow_14 xi xj xm xp ia ib ic)))]) (va_runV (As := [.int ((v_follow_6 xi ia ib ic) + (v_follow_7 xi ia ib ic))]) (rest := []) ⟨hx, hb, hml, hown, hts⟩ (c_keepP l dC dI b0 bm bp cI (v_follow_9 xi xj xm ia ib ic) (v_follow_10 xi xj xm ia ib ic) xp ((v_follow_6 xi ia ib ic) + (v_follow_7 xi ia ib ic)) H.size hc) (kw_V (n := 1) hts wd_515 wd_517 wp_7 wd_2 wd_518 rfl rfl (by decide +kernel) ⟨Nat.le_of_ble_eq_true rfl, Nat.le_of_ble_eq_true rfl⟩) (kq_preMV hN (hP.sub (ws' := [(b0, .inr (1, [.ref bm, .ref bp, .int ((v_follow_9 xi xj xm ia ib ic) 0), .int ((v_follow_9 xi xj xm ia ib ic) 1), .long ((v_follow_10 xi xj xm ia ib ic) 0), .long ((v_follow_10 xi xj xm ia ib ic) 1), .int ((v_follow_9 xi xj xm ia ib ic) 2), .int ((v_follow_9 xi xj xm ia ib ic) 3), .int ((v_follow_9 xi xj xm ia ib ic) 4), .int ((v_follow_9 xi xj xm ia ib ic) 5), .int ((v_follow_9 xi xj xm ia ib ic) 6), .int ((v_follow_9 xi xj xm ia ib ic) 7)])), (bp, .inl (cI, 32, .inl xp))]) [1, 0] rfl) (hK.sub (tys' := [(cI, .int)]) [0] rfl) (hD.sub (ws' := [(b0, .inr (1, [.ref bm, .ref bp, .int ((v_follow_9 xi xj xm ia ib ic) 0), .int ((v_follow_9 xi xj xm ia ib ic) 1), .long ((v_follow_10 xi xj xm ia ib ic) 0), .long ((v_follow_10 xi xj xm ia ib ic) 1), .int ((v_follow_9 xi xj xm ia ib ic) 2), .int ((v_follow_9 xi xj xm ia ib ic) 3), .int ((v_follow_9 xi xj xm ia ib ic) 4), .int ((v_follow_9 xi xj xm ia ib ic) 5), .int ((v_follow_9 xi xj xm ia ib ic) 6), .int ((v_follow_9 xi xj xm ia ib ic) 7)])), (bp, .inl (cI, 32, .inl xp))]) [1, 0] (by decide) rfl) 0 rfl rfl) rfl rfl hl.1 rfl (lv_room (Nat.le_of_ble_eq_true rfl)) d_Lo_follow_142 ⟨Nat.le_of_ble_eq_true rfl, Nat.le_of_ble_eq_true rfl⟩) hS hA hP hD [1, 0] [2] rfl rfl (by decide) (by decide) (fun H locs hP _ hD hS => ?_)
  have hP : va_P (dC, dI) vwCl [(bm, .inl (cI, 16, .inl (v_follow_11 xi xm ia ib ic))), (b0, .inr (1, [.ref bm, .ref bp, .int ((v_follow_12 xi xj xm xp ia ib ic) 0), .int ((v_follow_12 xi xj xm xp ia ib ic) 1), .long ((v_follow_13 xi xj xm xp ia ib ic) 0), .long ((v_follow_13 xi xj xm xp ia ib ic) 1), .int ((v_follow_12 xi xj xm xp ia ib ic) 2), .int ((v_follow_12 xi xj xm xp ia ib ic) 3), .int ((v_follow_12 xi xj xm xp ia ib ic) 4), .int ((v_follow_12 xi xj xm xp ia ib ic) 5), .int ((v_follow_12 xi xj xm xp ia ib ic) 6), .int ((v_follow_12 xi xj xm xp ia ib ic) 7)])), (bp, .inl (cI, 32, .inl (v_follow_14 xi xj xm xp ia ib ic)))] H := hP
  have hD : va_D A [(bm, .inl (cI, 16, .inl (v_follow_11 xi xm ia ib ic))), (b0, .inr (1, [.ref bm, .ref bp, .int ((v_follow_12 xi xj xm xp ia ib ic) 0), .int ((v_follow_12 xi xj xm xp ia ib ic) 1), .long ((v_follow_13 xi xj xm xp ia ib ic) 0), .long ((v_follow_13 xi xj xm xp ia ib ic) 1), .int ((v_follow_12 xi xj xm xp ia ib ic) 2), .int ((v_follow_12 xi xj xm xp ia ib ic) 3), .int ((v_follow_12 xi xj xm xp ia ib ic) 4), .int ((v_follow_12 xi xj xm xp ia ib ic) 5), .int ((v_follow_12 xi xj xm xp ia ib ic) 6), .int ((v_follow_12 xi xj xm xp ia ib ic) 7)])), (bp, .inl (cI, 32, .inl (v_follow_14 xi xj xm xp ia ib ic)))] := hD
  have hP9 := hP.sub (ws' := [(b0, .inr (1, [.ref bm, .ref bp, .int ((v_follow_12 xi xj xm xp ia ib ic) 0), .int ((v_follow_12 xi xj xm xp ia ib ic) 1), .long ((v_follow_13 xi xj xm xp ia ib ic) 0), .long ((v_follow_13 xi xj xm xp ia ib ic) 1), .int ((v_follow_12 xi xj xm xp ia ib ic) 2), .int ((v_follow_12 xi xj xm xp ia ib ic) 3), .int ((v_follow_12 xi xj xm xp ia ib ic) 4), .int ((v_follow_12 xi xj xm xp ia ib ic) 5), .int ((v_follow_12 xi xj xm xp ia ib ic) 6), .int ((v_follow_12 xi xj xm xp ia ib ic) 7)])), (bm, .inl (cI, 16, .inl (v_follow_11 xi xm ia ib ic))), (bp, .inl (cI, 32, .inl (v_follow_14 xi xj xm xp ia ib ic)))]) [1, 0, 2] rfl
  have hD9 := hD.sub (ws' := [(b0, .inr (1, [.ref bm, .ref bp, .int ((v_follow_12 xi xj xm xp ia ib ic) 0), .int ((v_follow_12 xi xj xm xp ia ib ic) 1), .long ((v_follow_13 xi xj xm xp ia ib ic) 0), .long ((v_follow_13 xi xj xm xp ia ib ic) 1), .int ((v_follow_12 xi xj xm xp ia ib ic) 2), .int ((v_follow_12 xi xj xm xp ia ib ic) 3), .int ((v_follow_12 xi xj xm xp ia ib ic) 4), .int ((v_follow_12 xi xj xm xp ia ib ic) 5), .int ((v_follow_12 xi xj xm xp ia ib ic) 6), .int ((v_follow_12 xi xj xm xp ia ib ic) 7)])), (bm, .inl (cI, 16, .inl (v_follow_11 xi xm ia ib ic))), (bp, .inl (cI, 32, .inl (v_follow_14 xi xj xm xp ia ib ic)))]) [1, 0, 2] (by decide) rfl
  have E0 : o_follow_xi xi xj xm xp ia ib ic = v_follow_12 xi xj xm xp ia ib ic := rfl
  have E1 : o_follow_xj xi xj xm xp ia ib ic = v_follow_13 xi xj xm xp ia ib ic := rfl
  have E2 : o_follow_xm xi xm ia ib ic = v_follow_11 xi xm ia ib ic := rfl
  have E3 : o_follow_xp xi xj xm xp ia ib ic = v_follow_14 xi xj xm xp ia ib ic := rfl
  exact W.vret hx hb hr (fun t ht hW => ⟨⟨(), rfl, trivial, by rw [ht, E0, E1, E2, E3]; exact hP9, va_K.moved hW.alike hK, by rw [E0, E1, E2, E3]; exact hD9⟩, hS.F ht⟩) hS.2.2 d_Lo_follow_145
