noncomputable def r_mwithin (iv : Int32) (ia : Int32) (ib : Int32) : Int32 := if iv < ia then 0 else (if ib < iv then 0 else 1)
theorem z_mwithin (iv : Int32) (ia : Int32) (ib : Int32) : narrow .boolean (.int (r_mwithin iv ia ib)) = .int (r_mwithin iv ia ib) ∧ fits .boolean (.int (r_mwithin iv ia ib)) = true := by
  unfold r_mwithin
  (repeat' split) <;> first | exact ⟨by decide, by decide⟩
set_option maxHeartbeats 4000000 in
set_option maxRecDepth 100000 in
theorem c_mwithin (l : Launch) (dC : Nat → ClassId) (dI : Nat → Nat → Nat) (iv : Int32) (ia : Int32) (ib : Int32) : Met l y_Mo_within (wz y_Mo_within b_Mo_within 3 (some .boolean)) { frames := 0, cells := 0, slots := 0, locals := 0 } (va_Pc [.int iv, .int ia, .int ib] (fun U => nw U ∧ va_P (dC, dI) vwCl [] U.heap ∧ va_K (dC, dI) vwCl [] U)) (k2_QcV (.int (r_mwithin iv ia ib))) 0 0 (fun _ => False) := by
  refine Met.ofW (cc := b_Mo_within) (maxL := 3) (ret := (some .boolean)) (by decide) rfl ?_
  intro p e s m args below meth c s₁ B hml hv
  obtain ⟨rfl, hN, hP, hK⟩ := hv
  have hx := B.exec
  have hb := B.bytes
  have hr := B.returns
  have hts := fun w h => atoms_spec (ws := (wz y_Mo_within b_Mo_within 3 (some .boolean))) B.pre w (List.mem_cons_of_mem _ h)
  have hown : s.vm.findClass R_Mo = some m.cls := findClass_of_methodNamed B.named
  have hlocks := B.notSynchronized
  have hl := lv_entry ([.int iv, .int ia, .int ib]) (n := 3) (Nat.le_of_ble_eq_true rfl)
  rw [lg_entry_eq]
  generalize (lg_sl ([.int iv, .int ia, .int ib]) ++ List.replicate (3 - (lg_sl ([.int iv, .int ia, .int ib])).length) Slot.unset).toArray = ls at hl ⊢
  have hl : lv_has ls 3 [(0, .int iv), (1, .int ia), (2, .int ib)] := hl
  refine lv_iload_n hx hb d_Mo_within_0 rfl (lv_at hl 0 rfl) ?_
  refine lv_iload_n hx hb d_Mo_within_1 rfl (lv_at hl 1 rfl) ?_
  refine lv_icmp_lt hx hb (tgt := 14) d_Mo_within_2 rfl (fun h1 => ?_) (fun h1 => ?_)
  · refine lv_iconst (v := 0) hx hb d_Mo_within_14 (by decide) ?_
    exact W.zret (v := 0) hx hb hr (by decide) (fun t ht hW => ⟨by rw [(show r_mwithin iv ia ib = 0 from by unfold r_mwithin; rw [if_pos h1])], ht⟩) (fun q hq => by cases hq) d_Mo_within_15
  · refine lv_iload_n hx hb d_Mo_within_5 rfl (lv_at hl 0 rfl) ?_
    refine lv_iload_n hx hb d_Mo_within_6 rfl (lv_at hl 2 rfl) ?_
    refine lv_icmp_gt hx hb (tgt := 14) d_Mo_within_7 rfl (fun h2 => ?_) (fun h2 => ?_)
    · refine lv_iconst (v := 0) hx hb d_Mo_within_14 (by decide) ?_
      exact W.zret (v := 0) hx hb hr (by decide) (fun t ht hW => ⟨by rw [(show r_mwithin iv ia ib = 0 from by unfold r_mwithin; rw [if_neg h1, if_pos h2])], ht⟩) (fun q hq => by cases hq) d_Mo_within_15
    · refine lv_iconst (v := 1) hx hb d_Mo_within_10 (by decide) ?_
      refine lv_goto (tgt := 15) hx hb d_Mo_within_11 rfl ?_
      exact W.zret (v := 1) hx hb hr (by decide) (fun t ht hW => ⟨by rw [(show r_mwithin iv ia ib = 1 from by unfold r_mwithin; rw [if_neg h1, if_neg h2])], ht⟩) (fun q hq => by cases hq) d_Mo_within_15
noncomputable def r_mbit (iv : Int32) : Int32 := if iv = 0 then 0 else 1
set_option maxHeartbeats 4000000 in
set_option maxRecDepth 100000 in
theorem c_mbit (l : Launch) (dC : Nat → ClassId) (dI : Nat → Nat → Nat) (iv : Int32) : Met l y_Mo_bit (wz y_Mo_bit b_Mo_bit 1 (some .int)) { frames := 0, cells := 0, slots := 0, locals := 0 } (va_Pc [.int iv] (fun U => nw U ∧ va_P (dC, dI) vwCl [] U.heap ∧ va_K (dC, dI) vwCl [] U)) (k2_QcV (.int (r_mbit iv))) 0 0 (fun _ => False) := by
  refine Met.ofW (cc := b_Mo_bit) (maxL := 1) (ret := (some .int)) (by decide) rfl ?_
  intro p e s m args below meth c s₁ B hml hv
  obtain ⟨rfl, hN, hP, hK⟩ := hv
  have hx := B.exec
  have hb := B.bytes
  have hr := B.returns
  have hts := fun w h => atoms_spec (ws := (wz y_Mo_bit b_Mo_bit 1 (some .int))) B.pre w (List.mem_cons_of_mem _ h)
  have hown : s.vm.findClass R_Mo = some m.cls := findClass_of_methodNamed B.named
  have hlocks := B.notSynchronized
  have hl := lv_entry ([.int iv]) (n := 1) (Nat.le_of_ble_eq_true rfl)
  rw [lg_entry_eq]
  generalize (lg_sl ([.int iv]) ++ List.replicate (1 - (lg_sl ([.int iv])).length) Slot.unset).toArray = ls at hl ⊢
  have hl : lv_has ls 1 [(0, .int iv)] := hl
  refine lv_iload_n hx hb d_Mo_bit_0 rfl (lv_at hl 0 rfl) ?_
  refine lv_if_eq hx hb (tgt := 8) d_Mo_bit_1 rfl (fun h1 => ?_) (fun h1 => ?_)
  · refine lv_iconst (v := 0) hx hb d_Mo_bit_8 (by decide) ?_
    exact W.iret (v := 0) hx hb hr (fun t ht hW => ⟨by rw [(show r_mbit iv = 0 from by unfold r_mbit; rw [if_pos h1])], ht⟩) (fun q hq => by cases hq) d_Mo_bit_9
  · refine lv_iconst (v := 1) hx hb d_Mo_bit_4 (by decide) ?_
    refine lv_goto (tgt := 9) hx hb d_Mo_bit_5 rfl ?_
    exact W.iret (v := 1) hx hb hr (fun t ht hW => ⟨by rw [(show r_mbit iv = 1 from by unfold r_mbit; rw [if_neg h1])], ht⟩) (fun q hq => by cases hq) d_Mo_bit_9
noncomputable def r_misSample (iv : Int32) : Int32 := r_mwithin iv (-32768) 32767
theorem z_misSample (iv : Int32) : narrow .boolean (.int (r_misSample iv)) = .int (r_misSample iv) ∧ fits .boolean (.int (r_misSample iv)) = true := by
  unfold r_misSample
  first | exact z_mwithin iv (-32768) 32767
set_option maxHeartbeats 4000000 in
set_option maxRecDepth 100000 in
theorem c_misSample (l : Launch) (dC : Nat → ClassId) (dI : Nat → Nat → Nat) (iv : Int32) : Met l y_Mo_isSample (wz y_Mo_isSample b_Mo_isSample 1 (some .boolean)) { frames := 1, cells := 0, slots := 0, locals := 22 } (va_Pc [.int iv] (fun U => nw U ∧ va_P (dC, dI) vwCl [] U.heap ∧ va_K (dC, dI) vwCl [] U)) (k2_QcV (.int (r_misSample iv))) 0 0 (fun _ => False) := by
  refine Met.ofW (cc := b_Mo_isSample) (maxL := 1) (ret := (some .boolean)) (by decide) rfl ?_
  intro p e s m args below meth c s₁ B hml hv
  obtain ⟨rfl, hN, hP, hK⟩ := hv
  have hx := B.exec
  have hb := B.bytes
  have hr := B.returns
  have hts := fun w h => atoms_spec (ws := (wz y_Mo_isSample b_Mo_isSample 1 (some .boolean))) B.pre w (List.mem_cons_of_mem _ h)
  have hown : s.vm.findClass R_Mo = some m.cls := findClass_of_methodNamed B.named
  have hlocks := B.notSynchronized
  have hl := lv_entry ([.int iv]) (n := 1) (Nat.le_of_ble_eq_true rfl)
  rw [lg_entry_eq]
  generalize (lg_sl ([.int iv]) ++ List.replicate (1 - (lg_sl ([.int iv])).length) Slot.unset).toArray = ls at hl ⊢
  have hl : lv_has ls 1 [(0, .int iv)] := hl
  refine lv_iload_n hx hb d_Mo_isSample_0 rfl (lv_at hl 0 rfl) ?_
  refine lv_sipush (v := (-32768)) hx hb d_Mo_isSample_1 (by decide) ?_
  refine lv_sipush (v := 32767) hx hb d_Mo_isSample_4 (by decide) ?_
  refine kq_R (r := .int (r_mwithin iv (-32768) 32767)) (va_runS (As := [.int iv, .int (-32768), .int 32767]) (rest := []) ⟨hx, hb, hml, hown, hts⟩ (c_mwithin l dC dI iv (-32768) 32767) (kw_S (n := 3) hts wd_803 wd_804 wd_10 wd_805 rfl rfl (by decide +kernel) ⟨Nat.le_of_ble_eq_true rfl, Nat.le_of_ble_eq_true rfl⟩) (kq_preS hN (hP.sub (ws' := []) [] rfl) (hK.sub (tys' := []) [] rfl)) rfl rfl hl.1 rfl (lv_room (Nat.le_of_ble_eq_true rfl)) d_Mo_isSample_7 ⟨Nat.le_of_ble_eq_true rfl, Nat.le_of_ble_eq_true rfl⟩) ?_
  exact W.zret (v := r_mwithin iv (-32768) 32767) hx hb hr (z_mwithin iv (-32768) 32767).1 (fun t ht hW => ⟨by rw [(show r_misSample iv = r_mwithin iv (-32768) 32767 from rfl)], ht⟩) (fun q hq => by cases hq) d_Mo_isSample_10
noncomputable def v_msine_0 (iw : Int32) : Int32 := (iw.toUInt32 >>> ((16 : Int32).toUInt32 &&& Int32.toUInt32 31)).toInt32
noncomputable def v_msine_1 (iw : Int32) : Int32 := ((v_msine_0 iw) &&& 32767) * (32768 - ((v_msine_0 iw) &&& 32767))
noncomputable def r_msine (iw : Int32) : Int32 := if 0 ≤ iw then (v_msine_1 iw) / 16384 else -((v_msine_1 iw) / 16384)
set_option maxHeartbeats 4000000 in
set_option maxRecDepth 100000 in
theorem c_msine (l : Launch) (dC : Nat → ClassId) (dI : Nat → Nat → Nat) (iw : Int32) : Met l y_Mo_sine (wz y_Mo_sine b_Mo_sine 3 (some .int)) { frames := 0, cells := 0, slots := 0, locals := 0 } (va_Pc [.int iw] (fun U => nw U ∧ va_P (dC, dI) vwCl [] U.heap ∧ va_K (dC, dI) vwCl [] U)) (k2_QcV (.int (r_msine iw))) 0 0 (fun _ => False) := by
  refine Met.ofW (cc := b_Mo_sine) (maxL := 3) (ret := (some .int)) (by decide) rfl ?_
  intro p e s m args below meth c s₁ B hml hv
  obtain ⟨rfl, hN, hP, hK⟩ := hv
  have hx := B.exec
  have hb := B.bytes
  have hr := B.returns
  have hts := fun w h => atoms_spec (ws := (wz y_Mo_sine b_Mo_sine 3 (some .int))) B.pre w (List.mem_cons_of_mem _ h)
  have hown : s.vm.findClass R_Mo = some m.cls := findClass_of_methodNamed B.named
  have hlocks := B.notSynchronized
  have hl := lv_entry ([.int iw]) (n := 3) (Nat.le_of_ble_eq_true rfl)
  rw [lg_entry_eq]
  generalize (lg_sl ([.int iw]) ++ List.replicate (3 - (lg_sl ([.int iw])).length) Slot.unset).toArray = ls at hl ⊢
  have hl : lv_has ls 3 [(0, .int iw)] := hl
  refine lv_iload_n hx hb d_Mo_sine_0 rfl (lv_at hl 0 rfl) ?_
  refine lv_bipush (v := 16) hx hb d_Mo_sine_1 (by decide) ?_
  refine lv_iushr hx hb d_Mo_sine_3 rfl ?_
  refine kq_fi (y := v_msine_0 iw) rfl ?_
  refine lv_sipush (v := 32767) hx hb d_Mo_sine_4 (by decide) ?_
  refine lv_iand hx hb d_Mo_sine_7 ?_
  refine lv_istore_n (lv' := [(1, .int ((v_msine_0 iw) &&& 32767)), (0, .int iw)]) hx hb d_Mo_sine_8 rfl hl (by decide) rfl (fun ls hl => ?_)
  refine lv_iload_n hx hb d_Mo_sine_9 rfl (lv_at hl 0 rfl) ?_
  refine lv_ldc (v := 32768) hx hb hown (hts _ wd_887) d_Mo_sine_10 ?_
  refine lv_iload_n hx hb d_Mo_sine_12 rfl (lv_at hl 0 rfl) ?_
  refine lv_isub hx hb d_Mo_sine_13 ?_
  refine lv_imul hx hb d_Mo_sine_14 ?_
  refine kq_fi (y := v_msine_1 iw) rfl ?_
  refine lv_sipush (v := 16384) hx hb d_Mo_sine_15 (by decide) ?_
  refine lv_idiv hx hb d_Mo_sine_18 (by decide) ?_
  refine lv_istore_n (lv' := [(2, .int ((v_msine_1 iw) / 16384)), (1, .int ((v_msine_0 iw) &&& 32767)), (0, .int iw)]) hx hb d_Mo_sine_19 rfl hl (by decide) rfl (fun ls hl => ?_)
  refine lv_iload_n hx hb d_Mo_sine_20 rfl (lv_at hl 2 rfl) ?_
  refine lv_if_ge hx hb (tgt := 29) d_Mo_sine_21 rfl (fun h1 => ?_) (fun h1 => ?_)
  · refine lv_iload_n hx hb d_Mo_sine_29 rfl (lv_at hl 0 rfl) ?_
    exact W.iret (v := (v_msine_1 iw) / 16384) hx hb hr (fun t ht hW => ⟨by rw [(show r_msine iw = (v_msine_1 iw) / 16384 from by unfold r_msine; rw [if_pos h1])], ht⟩) (fun q hq => by cases hq) d_Mo_sine_30
  · refine lv_iload_n hx hb d_Mo_sine_24 rfl (lv_at hl 0 rfl) ?_
    refine lv_ineg hx hb d_Mo_sine_25 ?_
    refine lv_goto (tgt := 30) hx hb d_Mo_sine_26 rfl ?_
    exact W.iret (v := -((v_msine_1 iw) / 16384)) hx hb hr (fun t ht hW => ⟨by rw [(show r_msine iw = -((v_msine_1 iw) / 16384) from by unfold r_msine; rw [if_neg h1])], ht⟩) (fun q hq => by cases hq) d_Mo_sine_30
noncomputable def r_mcosine (iw : Int32) : Int32 := r_msine (iw + 1073741824)
set_option maxHeartbeats 4000000 in
set_option maxRecDepth 100000 in
theorem c_mcosine (l : Launch) (dC : Nat → ClassId) (dI : Nat → Nat → Nat) (iw : Int32) : Met l y_Mo_cosine (wz y_Mo_cosine b_Mo_cosine 1 (some .int)) { frames := 1, cells := 0, slots := 0, locals := 22 } (va_Pc [.int iw] (fun U => nw U ∧ va_P (dC, dI) vwCl [] U.heap ∧ va_K (dC, dI) vwCl [] U)) (k2_QcV (.int (r_mcosine iw))) 0 0 (fun _ => False) := by
  refine Met.ofW (cc := b_Mo_cosine) (maxL := 1) (ret := (some .int)) (by decide) rfl ?_
  intro p e s m args below meth c s₁ B hml hv
  obtain ⟨rfl, hN, hP, hK⟩ := hv
  have hx := B.exec
  have hb := B.bytes
  have hr := B.returns
  have hts := fun w h => atoms_spec (ws := (wz y_Mo_cosine b_Mo_cosine 1 (some .int))) B.pre w (List.mem_cons_of_mem _ h)
  have hown : s.vm.findClass R_Mo = some m.cls := findClass_of_methodNamed B.named
  have hlocks := B.notSynchronized
  have hl := lv_entry ([.int iw]) (n := 1) (Nat.le_of_ble_eq_true rfl)
  rw [lg_entry_eq]
  generalize (lg_sl ([.int iw]) ++ List.replicate (1 - (lg_sl ([.int iw])).length) Slot.unset).toArray = ls at hl ⊢
  have hl : lv_has ls 1 [(0, .int iw)] := hl
  refine lv_iload_n hx hb d_Mo_cosine_0 rfl (lv_at hl 0 rfl) ?_
  refine lv_ldc (v := 1073741824) hx hb hown (hts _ wd_883) d_Mo_cosine_1 ?_
  refine lv_iadd hx hb d_Mo_cosine_3 ?_
  refine kq_R (r := .int (r_msine (iw + 1073741824))) (va_runS (As := [.int (iw + 1073741824)]) (rest := []) ⟨hx, hb, hml, hown, hts⟩ (c_msine l dC dI (iw + 1073741824)) (kw_S (n := 1) hts wd_884 wd_885 wd_10 wd_886 rfl rfl (by decide +kernel) ⟨Nat.le_of_ble_eq_true rfl, Nat.le_of_ble_eq_true rfl⟩) (kq_preS hN (hP.sub (ws' := []) [] rfl) (hK.sub (tys' := []) [] rfl)) rfl rfl hl.1 rfl (lv_room (Nat.le_of_ble_eq_true rfl)) d_Mo_cosine_4 ⟨Nat.le_of_ble_eq_true rfl, Nat.le_of_ble_eq_true rfl⟩) ?_
  exact W.iret (v := r_msine (iw + 1073741824)) hx hb hr (fun t ht hW => ⟨by rw [(show r_mcosine iw = r_msine (iw + 1073741824) from rfl)], ht⟩) (fun q hq => by cases hq) d_Mo_cosine_7
noncomputable def r_mlimited (iv : Int32) (ia : Int32) : Int32 := if iv ≤ ia then (if (-ia) ≤ iv then iv else -ia) else ia
set_option maxHeartbeats 4000000 in
set_option maxRecDepth 100000 in
theorem c_mlimited (l : Launch) (dC : Nat → ClassId) (dI : Nat → Nat → Nat) (iv : Int32) (ia : Int32) : Met l y_Mo_limited (wz y_Mo_limited b_Mo_limited 2 (some .int)) { frames := 0, cells := 0, slots := 0, locals := 0 } (va_Pc [.int iv, .int ia] (fun U => nw U ∧ va_P (dC, dI) vwCl [] U.heap ∧ va_K (dC, dI) vwCl [] U)) (k2_QcV (.int (r_mlimited iv ia))) 0 0 (fun _ => False) := by
  refine Met.ofW (cc := b_Mo_limited) (maxL := 2) (ret := (some .int)) (by decide) rfl ?_
  intro p e s m args below meth c s₁ B hml hv
  obtain ⟨rfl, hN, hP, hK⟩ := hv
  have hx := B.exec
  have hb := B.bytes
  have hr := B.returns
  have hts := fun w h => atoms_spec (ws := (wz y_Mo_limited b_Mo_limited 2 (some .int))) B.pre w (List.mem_cons_of_mem _ h)
  have hown : s.vm.findClass R_Mo = some m.cls := findClass_of_methodNamed B.named
  have hlocks := B.notSynchronized
  have hl := lv_entry ([.int iv, .int ia]) (n := 2) (Nat.le_of_ble_eq_true rfl)
  rw [lg_entry_eq]
  generalize (lg_sl ([.int iv, .int ia]) ++ List.replicate (2 - (lg_sl ([.int iv, .int ia])).length) Slot.unset).toArray = ls at hl ⊢
  have hl : lv_has ls 2 [(0, .int iv), (1, .int ia)] := hl
  refine lv_iload_n hx hb d_Mo_limited_0 rfl (lv_at hl 0 rfl) ?_
  refine lv_iload_n hx hb d_Mo_limited_1 rfl (lv_at hl 1 rfl) ?_
  refine lv_icmp_le hx hb (tgt := 9) d_Mo_limited_2 rfl (fun h1 => ?_) (fun h1 => ?_)
  · refine lv_iload_n hx hb d_Mo_limited_9 rfl (lv_at hl 0 rfl) ?_
    refine lv_iload_n hx hb d_Mo_limited_10 rfl (lv_at hl 1 rfl) ?_
    refine lv_ineg hx hb d_Mo_limited_11 ?_
    refine lv_icmp_ge hx hb (tgt := 20) d_Mo_limited_12 rfl (fun h2 => ?_) (fun h2 => ?_)
    · refine lv_iload_n hx hb d_Mo_limited_20 rfl (lv_at hl 0 rfl) ?_
      exact W.iret (v := iv) hx hb hr (fun t ht hW => ⟨by rw [(show r_mlimited iv ia = iv from by unfold r_mlimited; rw [if_pos h1, if_pos h2])], ht⟩) (fun q hq => by cases hq) d_Mo_limited_21
    · refine lv_iload_n hx hb d_Mo_limited_15 rfl (lv_at hl 1 rfl) ?_
      refine lv_ineg hx hb d_Mo_limited_16 ?_
      refine lv_goto (tgt := 21) hx hb d_Mo_limited_17 rfl ?_
      exact W.iret (v := -ia) hx hb hr (fun t ht hW => ⟨by rw [(show r_mlimited iv ia = -ia from by unfold r_mlimited; rw [if_pos h1, if_neg h2])], ht⟩) (fun q hq => by cases hq) d_Mo_limited_21
  · refine lv_iload_n hx hb d_Mo_limited_5 rfl (lv_at hl 1 rfl) ?_
    refine lv_goto (tgt := 21) hx hb d_Mo_limited_6 rfl ?_
    exact W.iret (v := ia) hx hb hr (fun t ht hW => ⟨by rw [(show r_mlimited iv ia = ia from by unfold r_mlimited; rw [if_neg h1])], ht⟩) (fun q hq => by cases hq) d_Mo_limited_21
noncomputable def r_mthrown (mo : Nat → Int32) : Int32 := mo 0
set_option maxHeartbeats 4000000 in
set_option maxRecDepth 100000 in
theorem c_mthrown (l : Launch) (dC : Nat → ClassId) (dI : Nat → Nat → Nat) (b0 : Nat) (a1 : Nat) (a2 : Nat) (a3 : Nat) (a4 : Nat) (a5 : Nat) (a6 : Nat) (a7 : Nat) (a8 : Nat) (a9 : Nat) (a10 : Nat) (a11 : Nat) (mo : Nat → Int32) (ml : Nat → Int64) : Met l y_Mo_thrown (wz y_Mo_thrown b_Mo_thrown 1 (some .int)) { frames := 0, cells := 0, slots := 0, locals := 0 } (va_Pc [.ref b0] (fun U => nw U ∧ va_P (dC, dI) vwCl [(b0, .inr (8, [.int (mo 0), .ref a1, .ref a2, .ref a3, .ref a4, .ref a5, .ref a6, .ref a7, .int (mo 1), .int (mo 2), .int (mo 3), .int (mo 4), .int (mo 5), .int (mo 6), .int (mo 7), .int (mo 8), .int (mo 9), .int (mo 10), .int (mo 11), .int (mo 12), .int (mo 13), .int (mo 14), .int (mo 15), .int (mo 16), .int (mo 17), .long (ml 0), .ref a8, .ref a9, .int (mo 18), .ref a10, .ref a11, .int (mo 19), .int (mo 20), .int (mo 21), .int (mo 22)]))] U.heap ∧ va_K (dC, dI) vwCl [] U)) (k2_QcV (.int (r_mthrown mo))) 0 0 (fun _ => False) := by
  refine Met.ofW (cc := b_Mo_thrown) (maxL := 1) (ret := (some .int)) (by decide) rfl ?_
  intro p e s m args below meth c s₁ B hml hv
  obtain ⟨rfl, hN, hP, hK⟩ := hv
  have hx := B.exec
  have hb := B.bytes
  have hr := B.returns
  have hts := fun w h => atoms_spec (ws := (wz y_Mo_thrown b_Mo_thrown 1 (some .int))) B.pre w (List.mem_cons_of_mem _ h)
  have hown : s.vm.findClass R_Mo = some m.cls := findClass_of_methodNamed B.named
  have hlocks := B.notSynchronized
  have hl := lv_entry ([.ref b0]) (n := 1) (Nat.le_of_ble_eq_true rfl)
  rw [lg_entry_eq]
  generalize (lg_sl ([.ref b0]) ++ List.replicate (1 - (lg_sl ([.ref b0])).length) Slot.unset).toArray = ls at hl ⊢
  have hl : lv_has ls 1 [(0, .ref b0)] := hl
  refine lv_aload_n hx hb d_Mo_thrown_0 rfl (lv_at hl 0 rfl) ?_
  refine va_get (D := (dC, dI)) (ci := 8) (v := .int (mo 0)) (C := R_Mo) (T := T_Mo) (N := 35) hx hb hts uin_Mo hown hK hP 0 rfl rfl 0 (by decide) (hts _ wd_689) (fun _ h9 => h9) rfl d_Mo_thrown_1 ?_
  exact W.iret (v := mo 0) hx hb hr (fun t ht hW => ⟨by rw [(show r_mthrown mo = mo 0 from rfl)], ht⟩) (fun q hq => by cases hq) d_Mo_thrown_4
noncomputable def r_mfail  : Int32 := 0
noncomputable def o_mfail_mo (mo : Nat → Int32) (ia : Int32) : Nat → Int32 := uv mo 0 ia
set_option maxHeartbeats 4000000 in
set_option maxRecDepth 100000 in
theorem c_mfail (l : Launch) (dC : Nat → ClassId) (dI : Nat → Nat → Nat) (b0 : Nat) (a1 : Nat) (a2 : Nat) (a3 : Nat) (a4 : Nat) (a5 : Nat) (a6 : Nat) (a7 : Nat) (a8 : Nat) (a9 : Nat) (a10 : Nat) (a11 : Nat) (mo : Nat → Int32) (ml : Nat → Int64) (ia : Int32) (sz : Nat) : Met l y_Mo_fail (wz y_Mo_fail b_Mo_fail 2 (some .int)) { frames := 0, cells := 0, slots := 0, locals := 0 } (va_Pc [.ref b0, .int ia] (fun U => U.heap.size = sz ∧ nw U ∧ va_P (dC, dI) vwCl [(b0, .inr (8, [.int (mo 0), .ref a1, .ref a2, .ref a3, .ref a4, .ref a5, .ref a6, .ref a7, .int (mo 1), .int (mo 2), .int (mo 3), .int (mo 4), .int (mo 5), .int (mo 6), .int (mo 7), .int (mo 8), .int (mo 9), .int (mo 10), .int (mo 11), .int (mo 12), .int (mo 13), .int (mo 14), .int (mo 15), .int (mo 16), .int (mo 17), .long (ml 0), .ref a8, .ref a9, .int (mo 18), .ref a10, .ref a11, .int (mo 19), .int (mo 20), .int (mo 21), .int (mo 22)]))] U.heap ∧ va_K (dC, dI) vwCl [] U ∧ va_D (fun _ => True) [(b0, .inr (8, [.int (mo 0), .ref a1, .ref a2, .ref a3, .ref a4, .ref a5, .ref a6, .ref a7, .int (mo 1), .int (mo 2), .int (mo 3), .int (mo 4), .int (mo 5), .int (mo 6), .int (mo 7), .int (mo 8), .int (mo 9), .int (mo 10), .int (mo 11), .int (mo 12), .int (mo 13), .int (mo 14), .int (mo 15), .int (mo 16), .int (mo 17), .long (ml 0), .ref a8, .ref a9, .int (mo 18), .ref a10, .ref a11, .int (mo 19), .int (mo 20), .int (mo 21), .int (mo 22)]))])) (va_Qi (fun r (_ : Unit) => r = r_mfail) (fun _ t => va_P (dC, dI) vwCl [(b0, .inr (8, [.int ((o_mfail_mo mo ia) 0), .ref a1, .ref a2, .ref a3, .ref a4, .ref a5, .ref a6, .ref a7, .int ((o_mfail_mo mo ia) 1), .int ((o_mfail_mo mo ia) 2), .int ((o_mfail_mo mo ia) 3), .int ((o_mfail_mo mo ia) 4), .int ((o_mfail_mo mo ia) 5), .int ((o_mfail_mo mo ia) 6), .int ((o_mfail_mo mo ia) 7), .int ((o_mfail_mo mo ia) 8), .int ((o_mfail_mo mo ia) 9), .int ((o_mfail_mo mo ia) 10), .int ((o_mfail_mo mo ia) 11), .int ((o_mfail_mo mo ia) 12), .int ((o_mfail_mo mo ia) 13), .int ((o_mfail_mo mo ia) 14), .int ((o_mfail_mo mo ia) 15), .int ((o_mfail_mo mo ia) 16), .int ((o_mfail_mo mo ia) 17), .long (ml 0), .ref a8, .ref a9, .int ((o_mfail_mo mo ia) 18), .ref a10, .ref a11, .int ((o_mfail_mo mo ia) 19), .int ((o_mfail_mo mo ia) 20), .int ((o_mfail_mo mo ia) 21), .int ((o_mfail_mo mo ia) 22)]))] t.heap ∧ va_K (dC, dI) vwCl [] t ∧ va_D (va_A [(b0, .inr (8, [.int (mo 0), .ref a1, .ref a2, .ref a3, .ref a4, .ref a5, .ref a6, .ref a7, .int (mo 1), .int (mo 2), .int (mo 3), .int (mo 4), .int (mo 5), .int (mo 6), .int (mo 7), .int (mo 8), .int (mo 9), .int (mo 10), .int (mo 11), .int (mo 12), .int (mo 13), .int (mo 14), .int (mo 15), .int (mo 16), .int (mo 17), .long (ml 0), .ref a8, .ref a9, .int (mo 18), .ref a10, .ref a11, .int (mo 19), .int (mo 20), .int (mo 21), .int (mo 22)]))] sz) [(b0, .inr (8, [.int ((o_mfail_mo mo ia) 0), .ref a1, .ref a2, .ref a3, .ref a4, .ref a5, .ref a6, .ref a7, .int ((o_mfail_mo mo ia) 1), .int ((o_mfail_mo mo ia) 2), .int ((o_mfail_mo mo ia) 3), .int ((o_mfail_mo mo ia) 4), .int ((o_mfail_mo mo ia) 5), .int ((o_mfail_mo mo ia) 6), .int ((o_mfail_mo mo ia) 7), .int ((o_mfail_mo mo ia) 8), .int ((o_mfail_mo mo ia) 9), .int ((o_mfail_mo mo ia) 10), .int ((o_mfail_mo mo ia) 11), .int ((o_mfail_mo mo ia) 12), .int ((o_mfail_mo mo ia) 13), .int ((o_mfail_mo mo ia) 14), .int ((o_mfail_mo mo ia) 15), .int ((o_mfail_mo mo ia) 16), .int ((o_mfail_mo mo ia) 17), .long (ml 0), .ref a8, .ref a9, .int ((o_mfail_mo mo ia) 18), .ref a10, .ref a11, .int ((o_mfail_mo mo ia) 19), .int ((o_mfail_mo mo ia) 20), .int ((o_mfail_mo mo ia) 21), .int ((o_mfail_mo mo ia) 22)]))]) (va_A [(b0, .inr (8, [.int (mo 0), .ref a1, .ref a2, .ref a3, .ref a4, .ref a5, .ref a6, .ref a7, .int (mo 1), .int (mo 2), .int (mo 3), .int (mo 4), .int (mo 5), .int (mo 6), .int (mo 7), .int (mo 8), .int (mo 9), .int (mo 10), .int (mo 11), .int (mo 12), .int (mo 13), .int (mo 14), .int (mo 15), .int (mo 16), .int (mo 17), .long (ml 0), .ref a8, .ref a9, .int (mo 18), .ref a10, .ref a11, .int (mo 19), .int (mo 20), .int (mo 21), .int (mo 22)]))] sz)) 0 0 (va_A [(b0, .inr (8, [.int (mo 0), .ref a1, .ref a2, .ref a3, .ref a4, .ref a5, .ref a6, .ref a7, .int (mo 1), .int (mo 2), .int (mo 3), .int (mo 4), .int (mo 5), .int (mo 6), .int (mo 7), .int (mo 8), .int (mo 9), .int (mo 10), .int (mo 11), .int (mo 12), .int (mo 13), .int (mo 14), .int (mo 15), .int (mo 16), .int (mo 17), .long (ml 0), .ref a8, .ref a9, .int (mo 18), .ref a10, .ref a11, .int (mo 19), .int (mo 20), .int (mo 21), .int (mo 22)]))] sz) := by
  refine Met.ofW (cc := b_Mo_fail) (maxL := 2) (ret := (some .int)) (by decide) rfl ?_
  intro p e s m args below meth c s₁ B hml hv
  obtain ⟨rfl, hsz, hN, hP, hK, hD0⟩ := hv
  have hx := B.exec
  have hb := B.bytes
  have hr := B.returns
  have hts := fun w h => atoms_spec (ws := (wz y_Mo_fail b_Mo_fail 2 (some .int))) B.pre w (List.mem_cons_of_mem _ h)
  have hown : s.vm.findClass R_Mo = some m.cls := findClass_of_methodNamed B.named
  have hlocks := B.notSynchronized
  subst hsz
  have hD := hD0.self (sz := s.heap.size)
  generalize hAe : va_A [(b0, .inr (8, [.int (mo 0), .ref a1, .ref a2, .ref a3, .ref a4, .ref a5, .ref a6, .ref a7, .int (mo 1), .int (mo 2), .int (mo 3), .int (mo 4), .int (mo 5), .int (mo 6), .int (mo 7), .int (mo 8), .int (mo 9), .int (mo 10), .int (mo 11), .int (mo 12), .int (mo 13), .int (mo 14), .int (mo 15), .int (mo 16), .int (mo 17), .long (ml 0), .ref a8, .ref a9, .int (mo 18), .ref a10, .ref a11, .int (mo 19), .int (mo 20), .int (mo 21), .int (mo 22)]))] s.heap.size = A at hD ⊢
  have hA : ∀ q : Nat, s.heap.size ≤ q → A q := fun q h => by rw [← hAe]; exact Or.inr h
  have hS : va_S A s.heap s.heap [] := va_S.rf
  have hl := lv_entry ([.ref b0, .int ia]) (n := 2) (Nat.le_of_ble_eq_true rfl)
  rw [lg_entry_eq]
  generalize (lg_sl ([.ref b0, .int ia]) ++ List.replicate (2 - (lg_sl ([.ref b0, .int ia])).length) Slot.unset).toArray = ls at hl ⊢
  have hl : lv_has ls 2 [(0, .ref b0), (1, .int ia)] := hl
  refine lv_aload_n hx hb d_Mo_fail_0 rfl (lv_at hl 0 rfl) ?_
  refine lv_iload_n hx hb d_Mo_fail_1 rfl (lv_at hl 1 rfl) ?_
  refine va_put (D := (dC, dI)) (ci := 8) (v := .int ia) (ty := .int) (C := R_Mo) (T := T_Mo) (N := 35) hx hb hts uin_Mo t_Mo t_Mo_ok n_Mo hown hK hP hD hS 0 rfl rfl 0 (by decide) (hts _ wd_689) (fun _ h9 => h9) rfl (by decide +kernel) rfl rfl (Nat.le_of_ble_eq_true rfl) d_Mo_fail_2 (fun H locs hP hD hS => ?_)
  have hP : va_P (dC, dI) vwCl [(b0, .inr (8, [.int ia, .ref a1, .ref a2, .ref a3, .ref a4, .ref a5, .ref a6, .ref a7, .int (mo 1), .int (mo 2), .int (mo 3), .int (mo 4), .int (mo 5), .int (mo 6), .int (mo 7), .int (mo 8), .int (mo 9), .int (mo 10), .int (mo 11), .int (mo 12), .int (mo 13), .int (mo 14), .int (mo 15), .int (mo 16), .int (mo 17), .long (ml 0), .ref a8, .ref a9, .int (mo 18), .ref a10, .ref a11, .int (mo 19), .int (mo 20), .int (mo 21), .int (mo 22)]))] H := hP
  have hD : va_D A [(b0, .inr (8, [.int ia, .ref a1, .ref a2, .ref a3, .ref a4, .ref a5, .ref a6, .ref a7, .int (mo 1), .int (mo 2), .int (mo 3), .int (mo 4), .int (mo 5), .int (mo 6), .int (mo 7), .int (mo 8), .int (mo 9), .int (mo 10), .int (mo 11), .int (mo 12), .int (mo 13), .int (mo 14), .int (mo 15), .int (mo 16), .int (mo 17), .long (ml 0), .ref a8, .ref a9, .int (mo 18), .ref a10, .ref a11, .int (mo 19), .int (mo 20), .int (mo 21), .int (mo 22)]))] := hD
  refine lv_iconst (v := 0) hx hb d_Mo_fail_5 (by decide) ?_
  have hP9 := hP.sub (ws' := [(b0, .inr (8, [.int ia, .ref a1, .ref a2, .ref a3, .ref a4, .ref a5, .ref a6, .ref a7, .int (mo 1), .int (mo 2), .int (mo 3), .int (mo 4), .int (mo 5), .int (mo 6), .int (mo 7), .int (mo 8), .int (mo 9), .int (mo 10), .int (mo 11), .int (mo 12), .int (mo 13), .int (mo 14), .int (mo 15), .int (mo 16), .int (mo 17), .long (ml 0), .ref a8, .ref a9, .int (mo 18), .ref a10, .ref a11, .int (mo 19), .int (mo 20), .int (mo 21), .int (mo 22)]))]) [0] rfl
  have hD9 := hD.sub (ws' := [(b0, .inr (8, [.int ia, .ref a1, .ref a2, .ref a3, .ref a4, .ref a5, .ref a6, .ref a7, .int (mo 1), .int (mo 2), .int (mo 3), .int (mo 4), .int (mo 5), .int (mo 6), .int (mo 7), .int (mo 8), .int (mo 9), .int (mo 10), .int (mo 11), .int (mo 12), .int (mo 13), .int (mo 14), .int (mo 15), .int (mo 16), .int (mo 17), .long (ml 0), .ref a8, .ref a9, .int (mo 18), .ref a10, .ref a11, .int (mo 19), .int (mo 20), .int (mo 21), .int (mo 22)]))]) [0] (by decide) rfl
  have E0 : o_mfail_mo mo ia = uv mo 0 ia := rfl
  exact W.iret (v := 0) hx hb hr (fun t ht hW => ⟨⟨_, (), rfl, (show r_mfail = 0 from rfl).symm, by rw [ht, E0]; exact hP9, va_K.moved hW.alike hK, by rw [E0]; exact hD9⟩, hS.F ht⟩) hS.2.2 d_Mo_fail_6
noncomputable def v_happens_0 (un : Nat → Int32) : Nat → Int32 := upd (upd (upd un 15 (un 14)) 14 ((upd un 15 (un 14)) 13)) 13 ((upd (upd un 15 (un 14)) 14 ((upd un 15 (un 14)) 13)) 12)
noncomputable def v_happens_1 (ue : Nat → Int32) : Nat → Int32 := upd (upd (upd ue 15 (ue 14)) 14 ((upd ue 15 (ue 14)) 13)) 13 ((upd (upd ue 15 (ue 14)) 14 ((upd ue 15 (ue 14)) 13)) 12)
noncomputable def v_happens_2 (un : Nat → Int32) : Nat → Int32 := upd (upd (v_happens_0 un) 12 ((v_happens_0 un) 11)) 11 ((upd (v_happens_0 un) 12 ((v_happens_0 un) 11)) 10)
noncomputable def v_happens_3 (ue : Nat → Int32) : Nat → Int32 := upd (upd (v_happens_1 ue) 12 ((v_happens_1 ue) 11)) 11 ((upd (v_happens_1 ue) 12 ((v_happens_1 ue) 11)) 10)
noncomputable def v_happens_4 (un : Nat → Int32) : Nat → Int32 := upd (upd (v_happens_2 un) 10 ((v_happens_2 un) 9)) 9 ((upd (v_happens_2 un) 10 ((v_happens_2 un) 9)) 8)
noncomputable def v_happens_5 (ue : Nat → Int32) : Nat → Int32 := upd (upd (v_happens_3 ue) 10 ((v_happens_3 ue) 9)) 9 ((upd (v_happens_3 ue) 10 ((v_happens_3 ue) 9)) 8)
noncomputable def v_happens_6 (un : Nat → Int32) : Nat → Int32 := upd (upd (v_happens_4 un) 8 ((v_happens_4 un) 7)) 7 ((upd (v_happens_4 un) 8 ((v_happens_4 un) 7)) 6)
noncomputable def v_happens_7 (ue : Nat → Int32) : Nat → Int32 := upd (upd (v_happens_5 ue) 8 ((v_happens_5 ue) 7)) 7 ((upd (v_happens_5 ue) 8 ((v_happens_5 ue) 7)) 6)
noncomputable def v_happens_8 (un : Nat → Int32) : Nat → Int32 := upd (upd (v_happens_6 un) 6 ((v_happens_6 un) 5)) 5 ((upd (v_happens_6 un) 6 ((v_happens_6 un) 5)) 4)
noncomputable def v_happens_9 (ue : Nat → Int32) : Nat → Int32 := upd (upd (v_happens_7 ue) 6 ((v_happens_7 ue) 5)) 5 ((upd (v_happens_7 ue) 6 ((v_happens_7 ue) 5)) 4)
noncomputable def v_happens_10 (un : Nat → Int32) : Nat → Int32 := upd (upd (v_happens_8 un) 4 ((v_happens_8 un) 3)) 3 ((upd (v_happens_8 un) 4 ((v_happens_8 un) 3)) 2)
noncomputable def v_happens_11 (ue : Nat → Int32) : Nat → Int32 := upd (upd (v_happens_9 ue) 4 ((v_happens_9 ue) 3)) 3 ((upd (v_happens_9 ue) 4 ((v_happens_9 ue) 3)) 2)
noncomputable def v_happens_12 (un : Nat → Int32) : Nat → Int32 := upd (upd (v_happens_10 un) 2 ((v_happens_10 un) 1)) 1 ((upd (v_happens_10 un) 2 ((v_happens_10 un) 1)) 0)
noncomputable def v_happens_13 (ue : Nat → Int32) : Nat → Int32 := upd (upd (v_happens_11 ue) 2 ((v_happens_11 ue) 1)) 1 ((upd (v_happens_11 ue) 2 ((v_happens_11 ue) 1)) 0)
noncomputable def o_happens_mo (mo : Nat → Int32) : Nat → Int32 := uv mo 18 ((mo 18) + 1)
noncomputable def o_happens_ue (mo : Nat → Int32) (ue : Nat → Int32) : Nat → Int32 := upd (v_happens_13 ue) 0 (mo 17)
noncomputable def o_happens_un (un : Nat → Int32) (ia : Int32) : Nat → Int32 := upd (v_happens_12 un) 0 ia
set_option maxHeartbeats 4000000 in
set_option maxRecDepth 100000 in
theorem c_happens (l : Launch) (dC : Nat → ClassId) (dI : Nat → Nat → Nat) (b0 : Nat) (a1 : Nat) (a2 : Nat) (a3 : Nat) (a4 : Nat) (a5 : Nat) (a6 : Nat) (a7 : Nat) (a8 : Nat) (a9 : Nat) (a10 : Nat) (a11 : Nat) (cI : ClassId) (mo : Nat → Int32) (ml : Nat → Int64) (un : Nat → Int32) (ue : Nat → Int32) (ia : Int32) (sz : Nat) : Met l y_Mo_happens (wz y_Mo_happens b_Mo_happens 3 none) { frames := 0, cells := 0, slots := 0, locals := 0 } (va_Pc [.ref b0, .int ia] (fun U => U.heap.size = sz ∧ nw U ∧ va_P (dC, dI) vwCl [(b0, .inr (8, [.int (mo 0), .ref a1, .ref a2, .ref a3, .ref a4, .ref a5, .ref a6, .ref a7, .int (mo 1), .int (mo 2), .int (mo 3), .int (mo 4), .int (mo 5), .int (mo 6), .int (mo 7), .int (mo 8), .int (mo 9), .int (mo 10), .int (mo 11), .int (mo 12), .int (mo 13), .int (mo 14), .int (mo 15), .int (mo 16), .int (mo 17), .long (ml 0), .ref a8, .ref a9, .int (mo 18), .ref a10, .ref a11, .int (mo 19), .int (mo 20), .int (mo 21), .int (mo 22)])), (a10, .inl (cI, 16, .inl un)), (a11, .inl (cI, 16, .inl ue))] U.heap ∧ va_K (dC, dI) vwCl [(cI, .int)] U ∧ va_D (fun _ => True) [(b0, .inr (8, [.int (mo 0), .ref a1, .ref a2, .ref a3, .ref a4, .ref a5, .ref a6, .ref a7, .int (mo 1), .int (mo 2), .int (mo 3), .int (mo 4), .int (mo 5), .int (mo 6), .int (mo 7), .int (mo 8), .int (mo 9), .int (mo 10), .int (mo 11), .int (mo 12), .int (mo 13), .int (mo 14), .int (mo 15), .int (mo 16), .int (mo 17), .long (ml 0), .ref a8, .ref a9, .int (mo 18), .ref a10, .ref a11, .int (mo 19), .int (mo 20), .int (mo 21), .int (mo 22)])), (a10, .inl (cI, 16, .inl un)), (a11, .inl (cI, 16, .inl ue))])) (va_Qv (fun _ : Unit => True) (fun _ t => va_P (dC, dI) vwCl [(b0, .inr (8, [.int ((o_happens_mo mo) 0), .ref a1, .ref a2, .ref a3, .ref a4, .ref a5, .ref a6, .ref a7, .int ((o_happens_mo mo) 1), .int ((o_happens_mo mo) 2), .int ((o_happens_mo mo) 3), .int ((o_happens_mo mo) 4), .int ((o_happens_mo mo) 5), .int ((o_happens_mo mo) 6), .int ((o_happens_mo mo) 7), .int ((o_happens_mo mo) 8), .int ((o_happens_mo mo) 9), .int ((o_happens_mo mo) 10), .int ((o_happens_mo mo) 11), .int ((o_happens_mo mo) 12), .int ((o_happens_mo mo) 13), .int ((o_happens_mo mo) 14), .int ((o_happens_mo mo) 15), .int ((o_happens_mo mo) 16), .int ((o_happens_mo mo) 17), .long (ml 0), .ref a8, .ref a9, .int ((o_happens_mo mo) 18), .ref a10, .ref a11, .int ((o_happens_mo mo) 19), .int ((o_happens_mo mo) 20), .int ((o_happens_mo mo) 21), .int ((o_happens_mo mo) 22)])), (a10, .inl (cI, 16, .inl (o_happens_un un ia))), (a11, .inl (cI, 16, .inl (o_happens_ue mo ue)))] t.heap ∧ va_K (dC, dI) vwCl [(cI, .int)] t ∧ va_D (va_A [(b0, .inr (8, [.int (mo 0), .ref a1, .ref a2, .ref a3, .ref a4, .ref a5, .ref a6, .ref a7, .int (mo 1), .int (mo 2), .int (mo 3), .int (mo 4), .int (mo 5), .int (mo 6), .int (mo 7), .int (mo 8), .int (mo 9), .int (mo 10), .int (mo 11), .int (mo 12), .int (mo 13), .int (mo 14), .int (mo 15), .int (mo 16), .int (mo 17), .long (ml 0), .ref a8, .ref a9, .int (mo 18), .ref a10, .ref a11, .int (mo 19), .int (mo 20), .int (mo 21), .int (mo 22)])), (a10, .inl (cI, 16, .inl un)), (a11, .inl (cI, 16, .inl ue))] sz) [(b0, .inr (8, [.int ((o_happens_mo mo) 0), .ref a1, .ref a2, .ref a3, .ref a4, .ref a5, .ref a6, .ref a7, .int ((o_happens_mo mo) 1), .int ((o_happens_mo mo) 2), .int ((o_happens_mo mo) 3), .int ((o_happens_mo mo) 4), .int ((o_happens_mo mo) 5), .int ((o_happens_mo mo) 6), .int ((o_happens_mo mo) 7), .int ((o_happens_mo mo) 8), .int ((o_happens_mo mo) 9), .int ((o_happens_mo mo) 10), .int ((o_happens_mo mo) 11), .int ((o_happens_mo mo) 12), .int ((o_happens_mo mo) 13), .int ((o_happens_mo mo) 14), .int ((o_happens_mo mo) 15), .int ((o_happens_mo mo) 16), .int ((o_happens_mo mo) 17), .long (ml 0), .ref a8, .ref a9, .int ((o_happens_mo mo) 18), .ref a10, .ref a11, .int ((o_happens_mo mo) 19), .int ((o_happens_mo mo) 20), .int ((o_happens_mo mo) 21), .int ((o_happens_mo mo) 22)])), (a10, .inl (cI, 16, .inl (o_happens_un un ia))), (a11, .inl (cI, 16, .inl (o_happens_ue mo ue)))]) (va_A [(b0, .inr (8, [.int (mo 0), .ref a1, .ref a2, .ref a3, .ref a4, .ref a5, .ref a6, .ref a7, .int (mo 1), .int (mo 2), .int (mo 3), .int (mo 4), .int (mo 5), .int (mo 6), .int (mo 7), .int (mo 8), .int (mo 9), .int (mo 10), .int (mo 11), .int (mo 12), .int (mo 13), .int (mo 14), .int (mo 15), .int (mo 16), .int (mo 17), .long (ml 0), .ref a8, .ref a9, .int (mo 18), .ref a10, .ref a11, .int (mo 19), .int (mo 20), .int (mo 21), .int (mo 22)])), (a10, .inl (cI, 16, .inl un)), (a11, .inl (cI, 16, .inl ue))] sz)) 0 0 (va_A [(b0, .inr (8, [.int (mo 0), .ref a1, .ref a2, .ref a3, .ref a4, .ref a5, .ref a6, .ref a7, .int (mo 1), .int (mo 2), .int (mo 3), .int (mo 4), .int (mo 5), .int (mo 6), .int (mo 7), .int (mo 8), .int (mo 9), .int (mo 10), .int (mo 11), .int (mo 12), .int (mo 13), .int (mo 14), .int (mo 15), .int (mo 16), .int (mo 17), .long (ml 0), .ref a8, .ref a9, .int (mo 18), .ref a10, .ref a11, .int (mo 19), .int (mo 20), .int (mo 21), .int (mo 22)])), (a10, .inl (cI, 16, .inl un)), (a11, .inl (cI, 16, .inl ue))] sz) := by
  refine Met.ofW (cc := b_Mo_happens) (maxL := 3) (ret := none) (by decide) rfl ?_
  intro p e s m args below meth c s₁ B hml hv
  obtain ⟨rfl, hsz, hN, hP, hK, hD0⟩ := hv
  have hx := B.exec
  have hb := B.bytes
  have hr := B.returns
  have hts := fun w h => atoms_spec (ws := (wz y_Mo_happens b_Mo_happens 3 none)) B.pre w (List.mem_cons_of_mem _ h)
  have hown : s.vm.findClass R_Mo = some m.cls := findClass_of_methodNamed B.named
  have hlocks := B.notSynchronized
  subst hsz
  have hD := hD0.self (sz := s.heap.size)
  generalize hAe : va_A [(b0, .inr (8, [.int (mo 0), .ref a1, .ref a2, .ref a3, .ref a4, .ref a5, .ref a6, .ref a7, .int (mo 1), .int (mo 2), .int (mo 3), .int (mo 4), .int (mo 5), .int (mo 6), .int (mo 7), .int (mo 8), .int (mo 9), .int (mo 10), .int (mo 11), .int (mo 12), .int (mo 13), .int (mo 14), .int (mo 15), .int (mo 16), .int (mo 17), .long (ml 0), .ref a8, .ref a9, .int (mo 18), .ref a10, .ref a11, .int (mo 19), .int (mo 20), .int (mo 21), .int (mo 22)])), (a10, .inl (cI, 16, .inl un)), (a11, .inl (cI, 16, .inl ue))] s.heap.size = A at hD ⊢
  have hA : ∀ q : Nat, s.heap.size ≤ q → A q := fun q h => by rw [← hAe]; exact Or.inr h
  have hS : va_S A s.heap s.heap [] := va_S.rf
  have hl := lv_entry ([.ref b0, .int ia]) (n := 3) (Nat.le_of_ble_eq_true rfl)
  rw [lg_entry_eq]
  generalize (lg_sl ([.ref b0, .int ia]) ++ List.replicate (3 - (lg_sl ([.ref b0, .int ia])).length) Slot.unset).toArray = ls at hl ⊢
  have hl : lv_has ls 3 [(0, .ref b0), (1, .int ia)] := hl
  refine lv_bipush (v := 15) hx hb d_Mo_happens_0 (by decide) ?_
  refine lv_istore_n (lv' := [(2, .int 15), (0, .ref b0), (1, .int ia)]) hx hb d_Mo_happens_2 rfl hl (by decide) rfl (fun ls hl => ?_)
  refine lv_iload_n hx hb d_Mo_happens_3 rfl (lv_at hl 0 rfl) ?_
  refine lv_if_le (tgt := 41) hx hb d_Mo_happens_4 rfl (fun h => absurd h (by decide)) (fun _ => ?_)
  refine lv_aload_n hx hb d_Mo_happens_7 rfl (lv_at hl 1 rfl) ?_
  refine va_get (D := (dC, dI)) (ci := 8) (v := .ref a10) (C := R_Mo) (T := T_Mo) (N := 35) hx hb hts uin_Mo hown hK hP 0 rfl rfl 29 (by decide) (hts _ wd_718) (fun _ h9 => h9) rfl d_Mo_happens_8 ?_
  refine lv_iload_n hx hb d_Mo_happens_11 rfl (lv_at hl 0 rfl) ?_
  refine lv_aload_n hx hb d_Mo_happens_12 rfl (lv_at hl 1 rfl) ?_
  refine va_get (D := (dC, dI)) (ci := 8) (v := .ref a10) (C := R_Mo) (T := T_Mo) (N := 35) hx hb hts uin_Mo hown hK hP 0 rfl rfl 29 (by decide) (hts _ wd_718) (fun _ h9 => h9) rfl d_Mo_happens_13 ?_
  refine lv_iload_n hx hb d_Mo_happens_16 rfl (lv_at hl 0 rfl) ?_
  refine lv_iconst (v := 1) hx hb d_Mo_happens_17 (by decide) ?_
  refine lv_isub hx hb d_Mo_happens_18 ?_
  refine kq_fi (y := 14) (by decide) ?_
  refine kq_iald (j := 14) (v := un 14) hx hb hK hP 1 0 rfl rfl (by decide) rfl (kq_in (by decide)) d_Mo_happens_19 ?_
  refine va_iast hx hb hK hP hD hS 1 0 rfl rfl (kq_in (by decide)) d_Mo_happens_20 (fun H locs hP hD hS => ?_)
  have hP : va_P (dC, dI) vwCl [(b0, .inr (8, [.int (mo 0), .ref a1, .ref a2, .ref a3, .ref a4, .ref a5, .ref a6, .ref a7, .int (mo 1), .int (mo 2), .int (mo 3), .int (mo 4), .int (mo 5), .int (mo 6), .int (mo 7), .int (mo 8), .int (mo 9), .int (mo 10), .int (mo 11), .int (mo 12), .int (mo 13), .int (mo 14), .int (mo 15), .int (mo 16), .int (mo 17), .long (ml 0), .ref a8, .ref a9, .int (mo 18), .ref a10, .ref a11, .int (mo 19), .int (mo 20), .int (mo 21), .int (mo 22)])), (a10, .inl (cI, 16, .inl (upd un 15 (un 14)))), (a11, .inl (cI, 16, .inl ue))] H := hP
  have hD : va_D A [(b0, .inr (8, [.int (mo 0), .ref a1, .ref a2, .ref a3, .ref a4, .ref a5, .ref a6, .ref a7, .int (mo 1), .int (mo 2), .int (mo 3), .int (mo 4), .int (mo 5), .int (mo 6), .int (mo 7), .int (mo 8), .int (mo 9), .int (mo 10), .int (mo 11), .int (mo 12), .int (mo 13), .int (mo 14), .int (mo 15), .int (mo 16), .int (mo 17), .long (ml 0), .ref a8, .ref a9, .int (mo 18), .ref a10, .ref a11, .int (mo 19), .int (mo 20), .int (mo 21), .int (mo 22)])), (a10, .inl (cI, 16, .inl (upd un 15 (un 14)))), (a11, .inl (cI, 16, .inl ue))] := hD
  refine lv_aload_n hx hb d_Mo_happens_21 rfl (lv_at hl 1 rfl) ?_
  refine va_get (D := (dC, dI)) (ci := 8) (v := .ref a11) (C := R_Mo) (T := T_Mo) (N := 35) hx hb hts uin_Mo hown hK hP 0 rfl rfl 30 (by decide) (hts _ wd_719) (fun _ h9 => h9) rfl d_Mo_happens_22 ?_
  refine lv_iload_n hx hb d_Mo_happens_25 rfl (lv_at hl 0 rfl) ?_
  refine lv_aload_n hx hb d_Mo_happens_26 rfl (lv_at hl 1 rfl) ?_
  refine va_get (D := (dC, dI)) (ci := 8) (v := .ref a11) (C := R_Mo) (T := T_Mo) (N := 35) hx hb hts uin_Mo hown hK hP 0 rfl rfl 30 (by decide) (hts _ wd_719) (fun _ h9 => h9) rfl d_Mo_happens_27 ?_
  refine lv_iload_n hx hb d_Mo_happens_30 rfl (lv_at hl 0 rfl) ?_
  refine lv_iconst (v := 1) hx hb d_Mo_happens_31 (by decide) ?_
  refine lv_isub hx hb d_Mo_happens_32 ?_
  refine kq_fi (y := 14) (by decide) ?_
  refine kq_iald (j := 14) (v := ue 14) hx hb hK hP 2 0 rfl rfl (by decide) rfl (kq_in (by decide)) d_Mo_happens_33 ?_
  refine va_iast hx hb hK hP hD hS 2 0 rfl rfl (kq_in (by decide)) d_Mo_happens_34 (fun H locs hP hD hS => ?_)
  have hP : va_P (dC, dI) vwCl [(b0, .inr (8, [.int (mo 0), .ref a1, .ref a2, .ref a3, .ref a4, .ref a5, .ref a6, .ref a7, .int (mo 1), .int (mo 2), .int (mo 3), .int (mo 4), .int (mo 5), .int (mo 6), .int (mo 7), .int (mo 8), .int (mo 9), .int (mo 10), .int (mo 11), .int (mo 12), .int (mo 13), .int (mo 14), .int (mo 15), .int (mo 16), .int (mo 17), .long (ml 0), .ref a8, .ref a9, .int (mo 18), .ref a10, .ref a11, .int (mo 19), .int (mo 20), .int (mo 21), .int (mo 22)])), (a10, .inl (cI, 16, .inl (upd un 15 (un 14)))), (a11, .inl (cI, 16, .inl (upd ue 15 (ue 14))))] H := hP
  have hD : va_D A [(b0, .inr (8, [.int (mo 0), .ref a1, .ref a2, .ref a3, .ref a4, .ref a5, .ref a6, .ref a7, .int (mo 1), .int (mo 2), .int (mo 3), .int (mo 4), .int (mo 5), .int (mo 6), .int (mo 7), .int (mo 8), .int (mo 9), .int (mo 10), .int (mo 11), .int (mo 12), .int (mo 13), .int (mo 14), .int (mo 15), .int (mo 16), .int (mo 17), .long (ml 0), .ref a8, .ref a9, .int (mo 18), .ref a10, .ref a11, .int (mo 19), .int (mo 20), .int (mo 21), .int (mo 22)])), (a10, .inl (cI, 16, .inl (upd un 15 (un 14)))), (a11, .inl (cI, 16, .inl (upd ue 15 (ue 14))))] := hD
  refine lv_iinc (k := 0) (v := 14) (lv' := [(2, .int 14), (0, .ref b0), (1, .int ia)]) hx hb d_Mo_happens_35 hl rfl (by decide) (by decide) rfl (fun ls hl => ?_)
  refine lv_goto (tgt := 3) hx hb d_Mo_happens_38 rfl ?_
  refine lv_iload_n hx hb d_Mo_happens_3 rfl (lv_at hl 0 rfl) ?_
  refine lv_if_le (tgt := 41) hx hb d_Mo_happens_4 rfl (fun h => absurd h (by decide)) (fun _ => ?_)
  refine lv_aload_n hx hb d_Mo_happens_7 rfl (lv_at hl 1 rfl) ?_
  refine va_get (D := (dC, dI)) (ci := 8) (v := .ref a10) (C := R_Mo) (T := T_Mo) (N := 35) hx hb hts uin_Mo hown hK hP 0 rfl rfl 29 (by decide) (hts _ wd_718) (fun _ h9 => h9) rfl d_Mo_happens_8 ?_
  refine lv_iload_n hx hb d_Mo_happens_11 rfl (lv_at hl 0 rfl) ?_
  refine lv_aload_n hx hb d_Mo_happens_12 rfl (lv_at hl 1 rfl) ?_
  refine va_get (D := (dC, dI)) (ci := 8) (v := .ref a10) (C := R_Mo) (T := T_Mo) (N := 35) hx hb hts uin_Mo hown hK hP 0 rfl rfl 29 (by decide) (hts _ wd_718) (fun _ h9 => h9) rfl d_Mo_happens_13 ?_
  refine lv_iload_n hx hb d_Mo_happens_16 rfl (lv_at hl 0 rfl) ?_
  refine lv_iconst (v := 1) hx hb d_Mo_happens_17 (by decide) ?_
  refine lv_isub hx hb d_Mo_happens_18 ?_
  refine kq_fi (y := 13) (by decide) ?_
  refine kq_iald (j := 13) (v := (upd un 15 (un 14)) 13) hx hb hK hP 1 0 rfl rfl (by decide) rfl (kq_in (by decide)) d_Mo_happens_19 ?_
  refine va_iast hx hb hK hP hD hS 1 0 rfl rfl (kq_in (by decide)) d_Mo_happens_20 (fun H locs hP hD hS => ?_)
  have hP : va_P (dC, dI) vwCl [(b0, .inr (8, [.int (mo 0), .ref a1, .ref a2, .ref a3, .ref a4, .ref a5, .ref a6, .ref a7, .int (mo 1), .int (mo 2), .int (mo 3), .int (mo 4), .int (mo 5), .int (mo 6), .int (mo 7), .int (mo 8), .int (mo 9), .int (mo 10), .int (mo 11), .int (mo 12), .int (mo 13), .int (mo 14), .int (mo 15), .int (mo 16), .int (mo 17), .long (ml 0), .ref a8, .ref a9, .int (mo 18), .ref a10, .ref a11, .int (mo 19), .int (mo 20), .int (mo 21), .int (mo 22)])), (a10, .inl (cI, 16, .inl (upd (upd un 15 (un 14)) 14 ((upd un 15 (un 14)) 13)))), (a11, .inl (cI, 16, .inl (upd ue 15 (ue 14))))] H := hP
  have hD : va_D A [(b0, .inr (8, [.int (mo 0), .ref a1, .ref a2, .ref a3, .ref a4, .ref a5, .ref a6, .ref a7, .int (mo 1), .int (mo 2), .int (mo 3), .int (mo 4), .int (mo 5), .int (mo 6), .int (mo 7), .int (mo 8), .int (mo 9), .int (mo 10), .int (mo 11), .int (mo 12), .int (mo 13), .int (mo 14), .int (mo 15), .int (mo 16), .int (mo 17), .long (ml 0), .ref a8, .ref a9, .int (mo 18), .ref a10, .ref a11, .int (mo 19), .int (mo 20), .int (mo 21), .int (mo 22)])), (a10, .inl (cI, 16, .inl (upd (upd un 15 (un 14)) 14 ((upd un 15 (un 14)) 13)))), (a11, .inl (cI, 16, .inl (upd ue 15 (ue 14))))] := hD
  refine lv_aload_n hx hb d_Mo_happens_21 rfl (lv_at hl 1 rfl) ?_
  refine va_get (D := (dC, dI)) (ci := 8) (v := .ref a11) (C := R_Mo) (T := T_Mo) (N := 35) hx hb hts uin_Mo hown hK hP 0 rfl rfl 30 (by decide) (hts _ wd_719) (fun _ h9 => h9) rfl d_Mo_happens_22 ?_
  refine lv_iload_n hx hb d_Mo_happens_25 rfl (lv_at hl 0 rfl) ?_
  refine lv_aload_n hx hb d_Mo_happens_26 rfl (lv_at hl 1 rfl) ?_
  refine va_get (D := (dC, dI)) (ci := 8) (v := .ref a11) (C := R_Mo) (T := T_Mo) (N := 35) hx hb hts uin_Mo hown hK hP 0 rfl rfl 30 (by decide) (hts _ wd_719) (fun _ h9 => h9) rfl d_Mo_happens_27 ?_
  refine lv_iload_n hx hb d_Mo_happens_30 rfl (lv_at hl 0 rfl) ?_
  refine lv_iconst (v := 1) hx hb d_Mo_happens_31 (by decide) ?_
  refine lv_isub hx hb d_Mo_happens_32 ?_
  refine kq_fi (y := 13) (by decide) ?_
  refine kq_iald (j := 13) (v := (upd ue 15 (ue 14)) 13) hx hb hK hP 2 0 rfl rfl (by decide) rfl (kq_in (by decide)) d_Mo_happens_33 ?_
  refine va_iast hx hb hK hP hD hS 2 0 rfl rfl (kq_in (by decide)) d_Mo_happens_34 (fun H locs hP hD hS => ?_)
  have hP : va_P (dC, dI) vwCl [(b0, .inr (8, [.int (mo 0), .ref a1, .ref a2, .ref a3, .ref a4, .ref a5, .ref a6, .ref a7, .int (mo 1), .int (mo 2), .int (mo 3), .int (mo 4), .int (mo 5), .int (mo 6), .int (mo 7), .int (mo 8), .int (mo 9), .int (mo 10), .int (mo 11), .int (mo 12), .int (mo 13), .int (mo 14), .int (mo 15), .int (mo 16), .int (mo 17), .long (ml 0), .ref a8, .ref a9, .int (mo 18), .ref a10, .ref a11, .int (mo 19), .int (mo 20), .int (mo 21), .int (mo 22)])), (a10, .inl (cI, 16, .inl (upd (upd un 15 (un 14)) 14 ((upd un 15 (un 14)) 13)))), (a11, .inl (cI, 16, .inl (upd (upd ue 15 (ue 14)) 14 ((upd ue 15 (ue 14)) 13))))] H := hP
  have hD : va_D A [(b0, .inr (8, [.int (mo 0), .ref a1, .ref a2, .ref a3, .ref a4, .ref a5, .ref a6, .ref a7, .int (mo 1), .int (mo 2), .int (mo 3), .int (mo 4), .int (mo 5), .int (mo 6), .int (mo 7), .int (mo 8), .int (mo 9), .int (mo 10), .int (mo 11), .int (mo 12), .int (mo 13), .int (mo 14), .int (mo 15), .int (mo 16), .int (mo 17), .long (ml 0), .ref a8, .ref a9, .int (mo 18), .ref a10, .ref a11, .int (mo 19), .int (mo 20), .int (mo 21), .int (mo 22)])), (a10, .inl (cI, 16, .inl (upd (upd un 15 (un 14)) 14 ((upd un 15 (un 14)) 13)))), (a11, .inl (cI, 16, .inl (upd (upd ue 15 (ue 14)) 14 ((upd ue 15 (ue 14)) 13))))] := hD
  refine lv_iinc (k := 0) (v := 13) (lv' := [(2, .int 13), (0, .ref b0), (1, .int ia)]) hx hb d_Mo_happens_35 hl rfl (by decide) (by decide) rfl (fun ls hl => ?_)
  refine lv_goto (tgt := 3) hx hb d_Mo_happens_38 rfl ?_
  refine lv_iload_n hx hb d_Mo_happens_3 rfl (lv_at hl 0 rfl) ?_
  refine lv_if_le (tgt := 41) hx hb d_Mo_happens_4 rfl (fun h => absurd h (by decide)) (fun _ => ?_)
  refine lv_aload_n hx hb d_Mo_happens_7 rfl (lv_at hl 1 rfl) ?_
  refine va_get (D := (dC, dI)) (ci := 8) (v := .ref a10) (C := R_Mo) (T := T_Mo) (N := 35) hx hb hts uin_Mo hown hK hP 0 rfl rfl 29 (by decide) (hts _ wd_718) (fun _ h9 => h9) rfl d_Mo_happens_8 ?_
  refine lv_iload_n hx hb d_Mo_happens_11 rfl (lv_at hl 0 rfl) ?_
  refine lv_aload_n hx hb d_Mo_happens_12 rfl (lv_at hl 1 rfl) ?_
  refine va_get (D := (dC, dI)) (ci := 8) (v := .ref a10) (C := R_Mo) (T := T_Mo) (N := 35) hx hb hts uin_Mo hown hK hP 0 rfl rfl 29 (by decide) (hts _ wd_718) (fun _ h9 => h9) rfl d_Mo_happens_13 ?_
  refine lv_iload_n hx hb d_Mo_happens_16 rfl (lv_at hl 0 rfl) ?_
  refine lv_iconst (v := 1) hx hb d_Mo_happens_17 (by decide) ?_
  refine lv_isub hx hb d_Mo_happens_18 ?_
  refine kq_fi (y := 12) (by decide) ?_
  refine kq_iald (j := 12) (v := (upd (upd un 15 (un 14)) 14 ((upd un 15 (un 14)) 13)) 12) hx hb hK hP 1 0 rfl rfl (by decide) rfl (kq_in (by decide)) d_Mo_happens_19 ?_
  refine va_iast hx hb hK hP hD hS 1 0 rfl rfl (kq_in (by decide)) d_Mo_happens_20 (fun H locs hP hD hS => ?_)
  have hP : va_P (dC, dI) vwCl [(b0, .inr (8, [.int (mo 0), .ref a1, .ref a2, .ref a3, .ref a4, .ref a5, .ref a6, .ref a7, .int (mo 1), .int (mo 2), .int (mo 3), .int (mo 4), .int (mo 5), .int (mo 6), .int (mo 7), .int (mo 8), .int (mo 9), .int (mo 10), .int (mo 11), .int (mo 12), .int (mo 13), .int (mo 14), .int (mo 15), .int (mo 16), .int (mo 17), .long (ml 0), .ref a8, .ref a9, .int (mo 18), .ref a10, .ref a11, .int (mo 19), .int (mo 20), .int (mo 21), .int (mo 22)])), (a10, .inl (cI, 16, .inl (v_happens_0 un))), (a11, .inl (cI, 16, .inl (upd (upd ue 15 (ue 14)) 14 ((upd ue 15 (ue 14)) 13))))] H := hP
  have hD : va_D A [(b0, .inr (8, [.int (mo 0), .ref a1, .ref a2, .ref a3, .ref a4, .ref a5, .ref a6, .ref a7, .int (mo 1), .int (mo 2), .int (mo 3), .int (mo 4), .int (mo 5), .int (mo 6), .int (mo 7), .int (mo 8), .int (mo 9), .int (mo 10), .int (mo 11), .int (mo 12), .int (mo 13), .int (mo 14), .int (mo 15), .int (mo 16), .int (mo 17), .long (ml 0), .ref a8, .ref a9, .int (mo 18), .ref a10, .ref a11, .int (mo 19), .int (mo 20), .int (mo 21), .int (mo 22)])), (a10, .inl (cI, 16, .inl (v_happens_0 un))), (a11, .inl (cI, 16, .inl (upd (upd ue 15 (ue 14)) 14 ((upd ue 15 (ue 14)) 13))))] := hD
  refine lv_aload_n hx hb d_Mo_happens_21 rfl (lv_at hl 1 rfl) ?_
  refine va_get (D := (dC, dI)) (ci := 8) (v := .ref a11) (C := R_Mo) (T := T_Mo) (N := 35) hx hb hts uin_Mo hown hK hP 0 rfl rfl 30 (by decide) (hts _ wd_719) (fun _ h9 => h9) rfl d_Mo_happens_22 ?_
  refine lv_iload_n hx hb d_Mo_happens_25 rfl (lv_at hl 0 rfl) ?_
  refine lv_aload_n hx hb d_Mo_happens_26 rfl (lv_at hl 1 rfl) ?_
  refine va_get (D := (dC, dI)) (ci := 8) (v := .ref a11) (C := R_Mo) (T := T_Mo) (N := 35) hx hb hts uin_Mo hown hK hP 0 rfl rfl 30 (by decide) (hts _ wd_719) (fun _ h9 => h9) rfl d_Mo_happens_27 ?_
  refine lv_iload_n hx hb d_Mo_happens_30 rfl (lv_at hl 0 rfl) ?_
  refine lv_iconst (v := 1) hx hb d_Mo_happens_31 (by decide) ?_
  refine lv_isub hx hb d_Mo_happens_32 ?_
  refine kq_fi (y := 12) (by decide) ?_
  refine kq_iald (j := 12) (v := (upd (upd ue 15 (ue 14)) 14 ((upd ue 15 (ue 14)) 13)) 12) hx hb hK hP 2 0 rfl rfl (by decide) rfl (kq_in (by decide)) d_Mo_happens_33 ?_
  refine va_iast hx hb hK hP hD hS 2 0 rfl rfl (kq_in (by decide)) d_Mo_happens_34 (fun H locs hP hD hS => ?_)
  have hP : va_P (dC, dI) vwCl [(b0, .inr (8, [.int (mo 0), .ref a1, .ref a2, .ref a3, .ref a4, .ref a5, .ref a6, .ref a7, .int (mo 1), .int (mo 2), .int (mo 3), .int (mo 4), .int (mo 5), .int (mo 6), .int (mo 7), .int (mo 8), .int (mo 9), .int (mo 10), .int (mo 11), .int (mo 12), .int (mo 13), .int (mo 14), .int (mo 15), .int (mo 16), .int (mo 17), .long (ml 0), .ref a8, .ref a9, .int (mo 18), .ref a10, .ref a11, .int (mo 19), .int (mo 20), .int (mo 21), .int (mo 22)])), (a10, .inl (cI, 16, .inl (v_happens_0 un))), (a11, .inl (cI, 16, .inl (v_happens_1 ue)))] H := hP
  have hD : va_D A [(b0, .inr (8, [.int (mo 0), .ref a1, .ref a2, .ref a3, .ref a4, .ref a5, .ref a6, .ref a7, .int (mo 1), .int (mo 2), .int (mo 3), .int (mo 4), .int (mo 5), .int (mo 6), .int (mo 7), .int (mo 8), .int (mo 9), .int (mo 10), .int (mo 11), .int (mo 12), .int (mo 13), .int (mo 14), .int (mo 15), .int (mo 16), .int (mo 17), .long (ml 0), .ref a8, .ref a9, .int (mo 18), .ref a10, .ref a11, .int (mo 19), .int (mo 20), .int (mo 21), .int (mo 22)])), (a10, .inl (cI, 16, .inl (v_happens_0 un))), (a11, .inl (cI, 16, .inl (v_happens_1 ue)))] := hD
  refine lv_iinc (k := 0) (v := 12) (lv' := [(2, .int 12), (0, .ref b0), (1, .int ia)]) hx hb d_Mo_happens_35 hl rfl (by decide) (by decide) rfl (fun ls hl => ?_)
  refine lv_goto (tgt := 3) hx hb d_Mo_happens_38 rfl ?_
  refine lv_iload_n hx hb d_Mo_happens_3 rfl (lv_at hl 0 rfl) ?_
  refine lv_if_le (tgt := 41) hx hb d_Mo_happens_4 rfl (fun h => absurd h (by decide)) (fun _ => ?_)
  refine lv_aload_n hx hb d_Mo_happens_7 rfl (lv_at hl 1 rfl) ?_
  refine va_get (D := (dC, dI)) (ci := 8) (v := .ref a10) (C := R_Mo) (T := T_Mo) (N := 35) hx hb hts uin_Mo hown hK hP 0 rfl rfl 29 (by decide) (hts _ wd_718) (fun _ h9 => h9) rfl d_Mo_happens_8 ?_
  refine lv_iload_n hx hb d_Mo_happens_11 rfl (lv_at hl 0 rfl) ?_
  refine lv_aload_n hx hb d_Mo_happens_12 rfl (lv_at hl 1 rfl) ?_
  refine va_get (D := (dC, dI)) (ci := 8) (v := .ref a10) (C := R_Mo) (T := T_Mo) (N := 35) hx hb hts uin_Mo hown hK hP 0 rfl rfl 29 (by decide) (hts _ wd_718) (fun _ h9 => h9) rfl d_Mo_happens_13 ?_
  refine lv_iload_n hx hb d_Mo_happens_16 rfl (lv_at hl 0 rfl) ?_
  refine lv_iconst (v := 1) hx hb d_Mo_happens_17 (by decide) ?_
  refine lv_isub hx hb d_Mo_happens_18 ?_
  refine kq_fi (y := 11) (by decide) ?_
  refine kq_iald (j := 11) (v := (v_happens_0 un) 11) hx hb hK hP 1 0 rfl rfl (by decide) rfl (kq_in (by decide)) d_Mo_happens_19 ?_
  refine va_iast hx hb hK hP hD hS 1 0 rfl rfl (kq_in (by decide)) d_Mo_happens_20 (fun H locs hP hD hS => ?_)
  have hP : va_P (dC, dI) vwCl [(b0, .inr (8, [.int (mo 0), .ref a1, .ref a2, .ref a3, .ref a4, .ref a5, .ref a6, .ref a7, .int (mo 1), .int (mo 2), .int (mo 3), .int (mo 4), .int (mo 5), .int (mo 6), .int (mo 7), .int (mo 8), .int (mo 9), .int (mo 10), .int (mo 11), .int (mo 12), .int (mo 13), .int (mo 14), .int (mo 15), .int (mo 16), .int (mo 17), .long (ml 0), .ref a8, .ref a9, .int (mo 18), .ref a10, .ref a11, .int (mo 19), .int (mo 20), .int (mo 21), .int (mo 22)])), (a10, .inl (cI, 16, .inl (upd (v_happens_0 un) 12 ((v_happens_0 un) 11)))), (a11, .inl (cI, 16, .inl (v_happens_1 ue)))] H := hP
  have hD : va_D A [(b0, .inr (8, [.int (mo 0), .ref a1, .ref a2, .ref a3, .ref a4, .ref a5, .ref a6, .ref a7, .int (mo 1), .int (mo 2), .int (mo 3), .int (mo 4), .int (mo 5), .int (mo 6), .int (mo 7), .int (mo 8), .int (mo 9), .int (mo 10), .int (mo 11), .int (mo 12), .int (mo 13), .int (mo 14), .int (mo 15), .int (mo 16), .int (mo 17), .long (ml 0), .ref a8, .ref a9, .int (mo 18), .ref a10, .ref a11, .int (mo 19), .int (mo 20), .int (mo 21), .int (mo 22)])), (a10, .inl (cI, 16, .inl (upd (v_happens_0 un) 12 ((v_happens_0 un) 11)))), (a11, .inl (cI, 16, .inl (v_happens_1 ue)))] := hD
  refine lv_aload_n hx hb d_Mo_happens_21 rfl (lv_at hl 1 rfl) ?_
  refine va_get (D := (dC, dI)) (ci := 8) (v := .ref a11) (C := R_Mo) (T := T_Mo) (N := 35) hx hb hts uin_Mo hown hK hP 0 rfl rfl 30 (by decide) (hts _ wd_719) (fun _ h9 => h9) rfl d_Mo_happens_22 ?_
  refine lv_iload_n hx hb d_Mo_happens_25 rfl (lv_at hl 0 rfl) ?_
  refine lv_aload_n hx hb d_Mo_happens_26 rfl (lv_at hl 1 rfl) ?_
  refine va_get (D := (dC, dI)) (ci := 8) (v := .ref a11) (C := R_Mo) (T := T_Mo) (N := 35) hx hb hts uin_Mo hown hK hP 0 rfl rfl 30 (by decide) (hts _ wd_719) (fun _ h9 => h9) rfl d_Mo_happens_27 ?_
  refine lv_iload_n hx hb d_Mo_happens_30 rfl (lv_at hl 0 rfl) ?_
  refine lv_iconst (v := 1) hx hb d_Mo_happens_31 (by decide) ?_
  refine lv_isub hx hb d_Mo_happens_32 ?_
  refine kq_fi (y := 11) (by decide) ?_
  refine kq_iald (j := 11) (v := (v_happens_1 ue) 11) hx hb hK hP 2 0 rfl rfl (by decide) rfl (kq_in (by decide)) d_Mo_happens_33 ?_
  refine va_iast hx hb hK hP hD hS 2 0 rfl rfl (kq_in (by decide)) d_Mo_happens_34 (fun H locs hP hD hS => ?_)
  have hP : va_P (dC, dI) vwCl [(b0, .inr (8, [.int (mo 0), .ref a1, .ref a2, .ref a3, .ref a4, .ref a5, .ref a6, .ref a7, .int (mo 1), .int (mo 2), .int (mo 3), .int (mo 4), .int (mo 5), .int (mo 6), .int (mo 7), .int (mo 8), .int (mo 9), .int (mo 10), .int (mo 11), .int (mo 12), .int (mo 13), .int (mo 14), .int (mo 15), .int (mo 16), .int (mo 17), .long (ml 0), .ref a8, .ref a9, .int (mo 18), .ref a10, .ref a11, .int (mo 19), .int (mo 20), .int (mo 21), .int (mo 22)])), (a10, .inl (cI, 16, .inl (upd (v_happens_0 un) 12 ((v_happens_0 un) 11)))), (a11, .inl (cI, 16, .inl (upd (v_happens_1 ue) 12 ((v_happens_1 ue) 11))))] H := hP
  have hD : va_D A [(b0, .inr (8, [.int (mo 0), .ref a1, .ref a2, .ref a3, .ref a4, .ref a5, .ref a6, .ref a7, .int (mo 1), .int (mo 2), .int (mo 3), .int (mo 4), .int (mo 5), .int (mo 6), .int (mo 7), .int (mo 8), .int (mo 9), .int (mo 10), .int (mo 11), .int (mo 12), .int (mo 13), .int (mo 14), .int (mo 15), .int (mo 16), .int (mo 17), .long (ml 0), .ref a8, .ref a9, .int (mo 18), .ref a10, .ref a11, .int (mo 19), .int (mo 20), .int (mo 21), .int (mo 22)])), (a10, .inl (cI, 16, .inl (upd (v_happens_0 un) 12 ((v_happens_0 un) 11)))), (a11, .inl (cI, 16, .inl (upd (v_happens_1 ue) 12 ((v_happens_1 ue) 11))))] := hD
  refine lv_iinc (k := 0) (v := 11) (lv' := [(2, .int 11), (0, .ref b0), (1, .int ia)]) hx hb d_Mo_happens_35 hl rfl (by decide) (by decide) rfl (fun ls hl => ?_)
  refine lv_goto (tgt := 3) hx hb d_Mo_happens_38 rfl ?_
  refine lv_iload_n hx hb d_Mo_happens_3 rfl (lv_at hl 0 rfl) ?_
  refine lv_if_le (tgt := 41) hx hb d_Mo_happens_4 rfl (fun h => absurd h (by decide)) (fun _ => ?_)
  refine lv_aload_n hx hb d_Mo_happens_7 rfl (lv_at hl 1 rfl) ?_
  refine va_get (D := (dC, dI)) (ci := 8) (v := .ref a10) (C := R_Mo) (T := T_Mo) (N := 35) hx hb hts uin_Mo hown hK hP 0 rfl rfl 29 (by decide) (hts _ wd_718) (fun _ h9 => h9) rfl d_Mo_happens_8 ?_
  refine lv_iload_n hx hb d_Mo_happens_11 rfl (lv_at hl 0 rfl) ?_
  refine lv_aload_n hx hb d_Mo_happens_12 rfl (lv_at hl 1 rfl) ?_
  refine va_get (D := (dC, dI)) (ci := 8) (v := .ref a10) (C := R_Mo) (T := T_Mo) (N := 35) hx hb hts uin_Mo hown hK hP 0 rfl rfl 29 (by decide) (hts _ wd_718) (fun _ h9 => h9) rfl d_Mo_happens_13 ?_
  refine lv_iload_n hx hb d_Mo_happens_16 rfl (lv_at hl 0 rfl) ?_
  refine lv_iconst (v := 1) hx hb d_Mo_happens_17 (by decide) ?_
  refine lv_isub hx hb d_Mo_happens_18 ?_
  refine kq_fi (y := 10) (by decide) ?_
  refine kq_iald (j := 10) (v := (upd (v_happens_0 un) 12 ((v_happens_0 un) 11)) 10) hx hb hK hP 1 0 rfl rfl (by decide) rfl (kq_in (by decide)) d_Mo_happens_19 ?_
  refine va_iast hx hb hK hP hD hS 1 0 rfl rfl (kq_in (by decide)) d_Mo_happens_20 (fun H locs hP hD hS => ?_)
  have hP : va_P (dC, dI) vwCl [(b0, .inr (8, [.int (mo 0), .ref a1, .ref a2, .ref a3, .ref a4, .ref a5, .ref a6, .ref a7, .int (mo 1), .int (mo 2), .int (mo 3), .int (mo 4), .int (mo 5), .int (mo 6), .int (mo 7), .int (mo 8), .int (mo 9), .int (mo 10), .int (mo 11), .int (mo 12), .int (mo 13), .int (mo 14), .int (mo 15), .int (mo 16), .int (mo 17), .long (ml 0), .ref a8, .ref a9, .int (mo 18), .ref a10, .ref a11, .int (mo 19), .int (mo 20), .int (mo 21), .int (mo 22)])), (a10, .inl (cI, 16, .inl (v_happens_2 un))), (a11, .inl (cI, 16, .inl (upd (v_happens_1 ue) 12 ((v_happens_1 ue) 11))))] H := hP
  have hD : va_D A [(b0, .inr (8, [.int (mo 0), .ref a1, .ref a2, .ref a3, .ref a4, .ref a5, .ref a6, .ref a7, .int (mo 1), .int (mo 2), .int (mo 3), .int (mo 4), .int (mo 5), .int (mo 6), .int (mo 7), .int (mo 8), .int (mo 9), .int (mo 10), .int (mo 11), .int (mo 12), .int (mo 13), .int (mo 14), .int (mo 15), .int (mo 16), .int (mo 17), .long (ml 0), .ref a8, .ref a9, .int (mo 18), .ref a10, .ref a11, .int (mo 19), .int (mo 20), .int (mo 21), .int (mo 22)])), (a10, .inl (cI, 16, .inl (v_happens_2 un))), (a11, .inl (cI, 16, .inl (upd (v_happens_1 ue) 12 ((v_happens_1 ue) 11))))] := hD
  refine lv_aload_n hx hb d_Mo_happens_21 rfl (lv_at hl 1 rfl) ?_
  refine va_get (D := (dC, dI)) (ci := 8) (v := .ref a11) (C := R_Mo) (T := T_Mo) (N := 35) hx hb hts uin_Mo hown hK hP 0 rfl rfl 30 (by decide) (hts _ wd_719) (fun _ h9 => h9) rfl d_Mo_happens_22 ?_
  refine lv_iload_n hx hb d_Mo_happens_25 rfl (lv_at hl 0 rfl) ?_
  refine lv_aload_n hx hb d_Mo_happens_26 rfl (lv_at hl 1 rfl) ?_
  refine va_get (D := (dC, dI)) (ci := 8) (v := .ref a11) (C := R_Mo) (T := T_Mo) (N := 35) hx hb hts uin_Mo hown hK hP 0 rfl rfl 30 (by decide) (hts _ wd_719) (fun _ h9 => h9) rfl d_Mo_happens_27 ?_
  refine lv_iload_n hx hb d_Mo_happens_30 rfl (lv_at hl 0 rfl) ?_
  refine lv_iconst (v := 1) hx hb d_Mo_happens_31 (by decide) ?_
  refine lv_isub hx hb d_Mo_happens_32 ?_
  refine kq_fi (y := 10) (by decide) ?_
  refine kq_iald (j := 10) (v := (upd (v_happens_1 ue) 12 ((v_happens_1 ue) 11)) 10) hx hb hK hP 2 0 rfl rfl (by decide) rfl (kq_in (by decide)) d_Mo_happens_33 ?_
  refine va_iast hx hb hK hP hD hS 2 0 rfl rfl (kq_in (by decide)) d_Mo_happens_34 (fun H locs hP hD hS => ?_)
  have hP : va_P (dC, dI) vwCl [(b0, .inr (8, [.int (mo 0), .ref a1, .ref a2, .ref a3, .ref a4, .ref a5, .ref a6, .ref a7, .int (mo 1), .int (mo 2), .int (mo 3), .int (mo 4), .int (mo 5), .int (mo 6), .int (mo 7), .int (mo 8), .int (mo 9), .int (mo 10), .int (mo 11), .int (mo 12), .int (mo 13), .int (mo 14), .int (mo 15), .int (mo 16), .int (mo 17), .long (ml 0), .ref a8, .ref a9, .int (mo 18), .ref a10, .ref a11, .int (mo 19), .int (mo 20), .int (mo 21), .int (mo 22)])), (a10, .inl (cI, 16, .inl (v_happens_2 un))), (a11, .inl (cI, 16, .inl (v_happens_3 ue)))] H := hP
  have hD : va_D A [(b0, .inr (8, [.int (mo 0), .ref a1, .ref a2, .ref a3, .ref a4, .ref a5, .ref a6, .ref a7, .int (mo 1), .int (mo 2), .int (mo 3), .int (mo 4), .int (mo 5), .int (mo 6), .int (mo 7), .int (mo 8), .int (mo 9), .int (mo 10), .int (mo 11), .int (mo 12), .int (mo 13), .int (mo 14), .int (mo 15), .int (mo 16), .int (mo 17), .long (ml 0), .ref a8, .ref a9, .int (mo 18), .ref a10, .ref a11, .int (mo 19), .int (mo 20), .int (mo 21), .int (mo 22)])), (a10, .inl (cI, 16, .inl (v_happens_2 un))), (a11, .inl (cI, 16, .inl (v_happens_3 ue)))] := hD
  refine lv_iinc (k := 0) (v := 10) (lv' := [(2, .int 10), (0, .ref b0), (1, .int ia)]) hx hb d_Mo_happens_35 hl rfl (by decide) (by decide) rfl (fun ls hl => ?_)
  refine lv_goto (tgt := 3) hx hb d_Mo_happens_38 rfl ?_
  refine lv_iload_n hx hb d_Mo_happens_3 rfl (lv_at hl 0 rfl) ?_
  refine lv_if_le (tgt := 41) hx hb d_Mo_happens_4 rfl (fun h => absurd h (by decide)) (fun _ => ?_)
  refine lv_aload_n hx hb d_Mo_happens_7 rfl (lv_at hl 1 rfl) ?_
  refine va_get (D := (dC, dI)) (ci := 8) (v := .ref a10) (C := R_Mo) (T := T_Mo) (N := 35) hx hb hts uin_Mo hown hK hP 0 rfl rfl 29 (by decide) (hts _ wd_718) (fun _ h9 => h9) rfl d_Mo_happens_8 ?_
  refine lv_iload_n hx hb d_Mo_happens_11 rfl (lv_at hl 0 rfl) ?_
  refine lv_aload_n hx hb d_Mo_happens_12 rfl (lv_at hl 1 rfl) ?_
  refine va_get (D := (dC, dI)) (ci := 8) (v := .ref a10) (C := R_Mo) (T := T_Mo) (N := 35) hx hb hts uin_Mo hown hK hP 0 rfl rfl 29 (by decide) (hts _ wd_718) (fun _ h9 => h9) rfl d_Mo_happens_13 ?_
  refine lv_iload_n hx hb d_Mo_happens_16 rfl (lv_at hl 0 rfl) ?_
  refine lv_iconst (v := 1) hx hb d_Mo_happens_17 (by decide) ?_
  refine lv_isub hx hb d_Mo_happens_18 ?_
  refine kq_fi (y := 9) (by decide) ?_
  refine kq_iald (j := 9) (v := (v_happens_2 un) 9) hx hb hK hP 1 0 rfl rfl (by decide) rfl (kq_in (by decide)) d_Mo_happens_19 ?_
  refine va_iast hx hb hK hP hD hS 1 0 rfl rfl (kq_in (by decide)) d_Mo_happens_20 (fun H locs hP hD hS => ?_)
  have hP : va_P (dC, dI) vwCl [(b0, .inr (8, [.int (mo 0), .ref a1, .ref a2, .ref a3, .ref a4, .ref a5, .ref a6, .ref a7, .int (mo 1), .int (mo 2), .int (mo 3), .int (mo 4), .int (mo 5), .int (mo 6), .int (mo 7), .int (mo 8), .int (mo 9), .int (mo 10), .int (mo 11), .int (mo 12), .int (mo 13), .int (mo 14), .int (mo 15), .int (mo 16), .int (mo 17), .long (ml 0), .ref a8, .ref a9, .int (mo 18), .ref a10, .ref a11, .int (mo 19), .int (mo 20), .int (mo 21), .int (mo 22)])), (a10, .inl (cI, 16, .inl (upd (v_happens_2 un) 10 ((v_happens_2 un) 9)))), (a11, .inl (cI, 16, .inl (v_happens_3 ue)))] H := hP
  have hD : va_D A [(b0, .inr (8, [.int (mo 0), .ref a1, .ref a2, .ref a3, .ref a4, .ref a5, .ref a6, .ref a7, .int (mo 1), .int (mo 2), .int (mo 3), .int (mo 4), .int (mo 5), .int (mo 6), .int (mo 7), .int (mo 8), .int (mo 9), .int (mo 10), .int (mo 11), .int (mo 12), .int (mo 13), .int (mo 14), .int (mo 15), .int (mo 16), .int (mo 17), .long (ml 0), .ref a8, .ref a9, .int (mo 18), .ref a10, .ref a11, .int (mo 19), .int (mo 20), .int (mo 21), .int (mo 22)])), (a10, .inl (cI, 16, .inl (upd (v_happens_2 un) 10 ((v_happens_2 un) 9)))), (a11, .inl (cI, 16, .inl (v_happens_3 ue)))] := hD
  refine lv_aload_n hx hb d_Mo_happens_21 rfl (lv_at hl 1 rfl) ?_
  refine va_get (D := (dC, dI)) (ci := 8) (v := .ref a11) (C := R_Mo) (T := T_Mo) (N := 35) hx hb hts uin_Mo hown hK hP 0 rfl rfl 30 (by decide) (hts _ wd_719) (fun _ h9 => h9) rfl d_Mo_happens_22 ?_
  refine lv_iload_n hx hb d_Mo_happens_25 rfl (lv_at hl 0 rfl) ?_
  refine lv_aload_n hx hb d_Mo_happens_26 rfl (lv_at hl 1 rfl) ?_
  refine va_get (D := (dC, dI)) (ci := 8) (v := .ref a11) (C := R_Mo) (T := T_Mo) (N := 35) hx hb hts uin_Mo hown hK hP 0 rfl rfl 30 (by decide) (hts _ wd_719) (fun _ h9 => h9) rfl d_Mo_happens_27 ?_
  refine lv_iload_n hx hb d_Mo_happens_30 rfl (lv_at hl 0 rfl) ?_
  refine lv_iconst (v := 1) hx hb d_Mo_happens_31 (by decide) ?_
  refine lv_isub hx hb d_Mo_happens_32 ?_
  refine kq_fi (y := 9) (by decide) ?_
  refine kq_iald (j := 9) (v := (v_happens_3 ue) 9) hx hb hK hP 2 0 rfl rfl (by decide) rfl (kq_in (by decide)) d_Mo_happens_33 ?_
  refine va_iast hx hb hK hP hD hS 2 0 rfl rfl (kq_in (by decide)) d_Mo_happens_34 (fun H locs hP hD hS => ?_)
  have hP : va_P (dC, dI) vwCl [(b0, .inr (8, [.int (mo 0), .ref a1, .ref a2, .ref a3, .ref a4, .ref a5, .ref a6, .ref a7, .int (mo 1), .int (mo 2), .int (mo 3), .int (mo 4), .int (mo 5), .int (mo 6), .int (mo 7), .int (mo 8), .int (mo 9), .int (mo 10), .int (mo 11), .int (mo 12), .int (mo 13), .int (mo 14), .int (mo 15), .int (mo 16), .int (mo 17), .long (ml 0), .ref a8, .ref a9, .int (mo 18), .ref a10, .ref a11, .int (mo 19), .int (mo 20), .int (mo 21), .int (mo 22)])), (a10, .inl (cI, 16, .inl (upd (v_happens_2 un) 10 ((v_happens_2 un) 9)))), (a11, .inl (cI, 16, .inl (upd (v_happens_3 ue) 10 ((v_happens_3 ue) 9))))] H := hP
  have hD : va_D A [(b0, .inr (8, [.int (mo 0), .ref a1, .ref a2, .ref a3, .ref a4, .ref a5, .ref a6, .ref a7, .int (mo 1), .int (mo 2), .int (mo 3), .int (mo 4), .int (mo 5), .int (mo 6), .int (mo 7), .int (mo 8), .int (mo 9), .int (mo 10), .int (mo 11), .int (mo 12), .int (mo 13), .int (mo 14), .int (mo 15), .int (mo 16), .int (mo 17), .long (ml 0), .ref a8, .ref a9, .int (mo 18), .ref a10, .ref a11, .int (mo 19), .int (mo 20), .int (mo 21), .int (mo 22)])), (a10, .inl (cI, 16, .inl (upd (v_happens_2 un) 10 ((v_happens_2 un) 9)))), (a11, .inl (cI, 16, .inl (upd (v_happens_3 ue) 10 ((v_happens_3 ue) 9))))] := hD
  refine lv_iinc (k := 0) (v := 9) (lv' := [(2, .int 9), (0, .ref b0), (1, .int ia)]) hx hb d_Mo_happens_35 hl rfl (by decide) (by decide) rfl (fun ls hl => ?_)
  refine lv_goto (tgt := 3) hx hb d_Mo_happens_38 rfl ?_
  refine lv_iload_n hx hb d_Mo_happens_3 rfl (lv_at hl 0 rfl) ?_
  refine lv_if_le (tgt := 41) hx hb d_Mo_happens_4 rfl (fun h => absurd h (by decide)) (fun _ => ?_)
  refine lv_aload_n hx hb d_Mo_happens_7 rfl (lv_at hl 1 rfl) ?_
  refine va_get (D := (dC, dI)) (ci := 8) (v := .ref a10) (C := R_Mo) (T := T_Mo) (N := 35) hx hb hts uin_Mo hown hK hP 0 rfl rfl 29 (by decide) (hts _ wd_718) (fun _ h9 => h9) rfl d_Mo_happens_8 ?_
  refine lv_iload_n hx hb d_Mo_happens_11 rfl (lv_at hl 0 rfl) ?_
  refine lv_aload_n hx hb d_Mo_happens_12 rfl (lv_at hl 1 rfl) ?_
  refine va_get (D := (dC, dI)) (ci := 8) (v := .ref a10) (C := R_Mo) (T := T_Mo) (N := 35) hx hb hts uin_Mo hown hK hP 0 rfl rfl 29 (by decide) (hts _ wd_718) (fun _ h9 => h9) rfl d_Mo_happens_13 ?_
  refine lv_iload_n hx hb d_Mo_happens_16 rfl (lv_at hl 0 rfl) ?_
  refine lv_iconst (v := 1) hx hb d_Mo_happens_17 (by decide) ?_
  refine lv_isub hx hb d_Mo_happens_18 ?_
  refine kq_fi (y := 8) (by decide) ?_
  refine kq_iald (j := 8) (v := (upd (v_happens_2 un) 10 ((v_happens_2 un) 9)) 8) hx hb hK hP 1 0 rfl rfl (by decide) rfl (kq_in (by decide)) d_Mo_happens_19 ?_
  refine va_iast hx hb hK hP hD hS 1 0 rfl rfl (kq_in (by decide)) d_Mo_happens_20 (fun H locs hP hD hS => ?_)
  have hP : va_P (dC, dI) vwCl [(b0, .inr (8, [.int (mo 0), .ref a1, .ref a2, .ref a3, .ref a4, .ref a5, .ref a6, .ref a7, .int (mo 1), .int (mo 2), .int (mo 3), .int (mo 4), .int (mo 5), .int (mo 6), .int (mo 7), .int (mo 8), .int (mo 9), .int (mo 10), .int (mo 11), .int (mo 12), .int (mo 13), .int (mo 14), .int (mo 15), .int (mo 16), .int (mo 17), .long (ml 0), .ref a8, .ref a9, .int (mo 18), .ref a10, .ref a11, .int (mo 19), .int (mo 20), .int (mo 21), .int (mo 22)])), (a10, .inl (cI, 16, .inl (v_happens_4 un))), (a11, .inl (cI, 16, .inl (upd (v_happens_3 ue) 10 ((v_happens_3 ue) 9))))] H := hP
  have hD : va_D A [(b0, .inr (8, [.int (mo 0), .ref a1, .ref a2, .ref a3, .ref a4, .ref a5, .ref a6, .ref a7, .int (mo 1), .int (mo 2), .int (mo 3), .int (mo 4), .int (mo 5), .int (mo 6), .int (mo 7), .int (mo 8), .int (mo 9), .int (mo 10), .int (mo 11), .int (mo 12), .int (mo 13), .int (mo 14), .int (mo 15), .int (mo 16), .int (mo 17), .long (ml 0), .ref a8, .ref a9, .int (mo 18), .ref a10, .ref a11, .int (mo 19), .int (mo 20), .int (mo 21), .int (mo 22)])), (a10, .inl (cI, 16, .inl (v_happens_4 un))), (a11, .inl (cI, 16, .inl (upd (v_happens_3 ue) 10 ((v_happens_3 ue) 9))))] := hD
  refine lv_aload_n hx hb d_Mo_happens_21 rfl (lv_at hl 1 rfl) ?_
  refine va_get (D := (dC, dI)) (ci := 8) (v := .ref a11) (C := R_Mo) (T := T_Mo) (N := 35) hx hb hts uin_Mo hown hK hP 0 rfl rfl 30 (by decide) (hts _ wd_719) (fun _ h9 => h9) rfl d_Mo_happens_22 ?_
  refine lv_iload_n hx hb d_Mo_happens_25 rfl (lv_at hl 0 rfl) ?_
  refine lv_aload_n hx hb d_Mo_happens_26 rfl (lv_at hl 1 rfl) ?_
  refine va_get (D := (dC, dI)) (ci := 8) (v := .ref a11) (C := R_Mo) (T := T_Mo) (N := 35) hx hb hts uin_Mo hown hK hP 0 rfl rfl 30 (by decide) (hts _ wd_719) (fun _ h9 => h9) rfl d_Mo_happens_27 ?_
  refine lv_iload_n hx hb d_Mo_happens_30 rfl (lv_at hl 0 rfl) ?_
  refine lv_iconst (v := 1) hx hb d_Mo_happens_31 (by decide) ?_
  refine lv_isub hx hb d_Mo_happens_32 ?_
  refine kq_fi (y := 8) (by decide) ?_
  refine kq_iald (j := 8) (v := (upd (v_happens_3 ue) 10 ((v_happens_3 ue) 9)) 8) hx hb hK hP 2 0 rfl rfl (by decide) rfl (kq_in (by decide)) d_Mo_happens_33 ?_
  refine va_iast hx hb hK hP hD hS 2 0 rfl rfl (kq_in (by decide)) d_Mo_happens_34 (fun H locs hP hD hS => ?_)
  have hP : va_P (dC, dI) vwCl [(b0, .inr (8, [.int (mo 0), .ref a1, .ref a2, .ref a3, .ref a4, .ref a5, .ref a6, .ref a7, .int (mo 1), .int (mo 2), .int (mo 3), .int (mo 4), .int (mo 5), .int (mo 6), .int (mo 7), .int (mo 8), .int (mo 9), .int (mo 10), .int (mo 11), .int (mo 12), .int (mo 13), .int (mo 14), .int (mo 15), .int (mo 16), .int (mo 17), .long (ml 0), .ref a8, .ref a9, .int (mo 18), .ref a10, .ref a11, .int (mo 19), .int (mo 20), .int (mo 21), .int (mo 22)])), (a10, .inl (cI, 16, .inl (v_happens_4 un))), (a11, .inl (cI, 16, .inl (v_happens_5 ue)))] H := hP
  have hD : va_D A [(b0, .inr (8, [.int (mo 0), .ref a1, .ref a2, .ref a3, .ref a4, .ref a5, .ref a6, .ref a7, .int (mo 1), .int (mo 2), .int (mo 3), .int (mo 4), .int (mo 5), .int (mo 6), .int (mo 7), .int (mo 8), .int (mo 9), .int (mo 10), .int (mo 11), .int (mo 12), .int (mo 13), .int (mo 14), .int (mo 15), .int (mo 16), .int (mo 17), .long (ml 0), .ref a8, .ref a9, .int (mo 18), .ref a10, .ref a11, .int (mo 19), .int (mo 20), .int (mo 21), .int (mo 22)])), (a10, .inl (cI, 16, .inl (v_happens_4 un))), (a11, .inl (cI, 16, .inl (v_happens_5 ue)))] := hD
  refine lv_iinc (k := 0) (v := 8) (lv' := [(2, .int 8), (0, .ref b0), (1, .int ia)]) hx hb d_Mo_happens_35 hl rfl (by decide) (by decide) rfl (fun ls hl => ?_)
  refine lv_goto (tgt := 3) hx hb d_Mo_happens_38 rfl ?_
  refine lv_iload_n hx hb d_Mo_happens_3 rfl (lv_at hl 0 rfl) ?_
  refine lv_if_le (tgt := 41) hx hb d_Mo_happens_4 rfl (fun h => absurd h (by decide)) (fun _ => ?_)
  refine lv_aload_n hx hb d_Mo_happens_7 rfl (lv_at hl 1 rfl) ?_
  refine va_get (D := (dC, dI)) (ci := 8) (v := .ref a10) (C := R_Mo) (T := T_Mo) (N := 35) hx hb hts uin_Mo hown hK hP 0 rfl rfl 29 (by decide) (hts _ wd_718) (fun _ h9 => h9) rfl d_Mo_happens_8 ?_
  refine lv_iload_n hx hb d_Mo_happens_11 rfl (lv_at hl 0 rfl) ?_
  refine lv_aload_n hx hb d_Mo_happens_12 rfl (lv_at hl 1 rfl) ?_
  refine va_get (D := (dC, dI)) (ci := 8) (v := .ref a10) (C := R_Mo) (T := T_Mo) (N := 35) hx hb hts uin_Mo hown hK hP 0 rfl rfl 29 (by decide) (hts _ wd_718) (fun _ h9 => h9) rfl d_Mo_happens_13 ?_
  refine lv_iload_n hx hb d_Mo_happens_16 rfl (lv_at hl 0 rfl) ?_
  refine lv_iconst (v := 1) hx hb d_Mo_happens_17 (by decide) ?_
  refine lv_isub hx hb d_Mo_happens_18 ?_
  refine kq_fi (y := 7) (by decide) ?_
  refine kq_iald (j := 7) (v := (v_happens_4 un) 7) hx hb hK hP 1 0 rfl rfl (by decide) rfl (kq_in (by decide)) d_Mo_happens_19 ?_
  refine va_iast hx hb hK hP hD hS 1 0 rfl rfl (kq_in (by decide)) d_Mo_happens_20 (fun H locs hP hD hS => ?_)
  have hP : va_P (dC, dI) vwCl [(b0, .inr (8, [.int (mo 0), .ref a1, .ref a2, .ref a3, .ref a4, .ref a5, .ref a6, .ref a7, .int (mo 1), .int (mo 2), .int (mo 3), .int (mo 4), .int (mo 5), .int (mo 6), .int (mo 7), .int (mo 8), .int (mo 9), .int (mo 10), .int (mo 11), .int (mo 12), .int (mo 13), .int (mo 14), .int (mo 15), .int (mo 16), .int (mo 17), .long (ml 0), .ref a8, .ref a9, .int (mo 18), .ref a10, .ref a11, .int (mo 19), .int (mo 20), .int (mo 21), .int (mo 22)])), (a10, .inl (cI, 16, .inl (upd (v_happens_4 un) 8 ((v_happens_4 un) 7)))), (a11, .inl (cI, 16, .inl (v_happens_5 ue)))] H := hP
  have hD : va_D A [(b0, .inr (8, [.int (mo 0), .ref a1, .ref a2, .ref a3, .ref a4, .ref a5, .ref a6, .ref a7, .int (mo 1), .int (mo 2), .int (mo 3), .int (mo 4), .int (mo 5), .int (mo 6), .int (mo 7), .int (mo 8), .int (mo 9), .int (mo 10), .int (mo 11), .int (mo 12), .int (mo 13), .int (mo 14), .int (mo 15), .int (mo 16), .int (mo 17), .long (ml 0), .ref a8, .ref a9, .int (mo 18), .ref a10, .ref a11, .int (mo 19), .int (mo 20), .int (mo 21), .int (mo 22)])), (a10, .inl (cI, 16, .inl (upd (v_happens_4 un) 8 ((v_happens_4 un) 7)))), (a11, .inl (cI, 16, .inl (v_happens_5 ue)))] := hD
  refine lv_aload_n hx hb d_Mo_happens_21 rfl (lv_at hl 1 rfl) ?_
  refine va_get (D := (dC, dI)) (ci := 8) (v := .ref a11) (C := R_Mo) (T := T_Mo) (N := 35) hx hb hts uin_Mo hown hK hP 0 rfl rfl 30 (by decide) (hts _ wd_719) (fun _ h9 => h9) rfl d_Mo_happens_22 ?_
  refine lv_iload_n hx hb d_Mo_happens_25 rfl (lv_at hl 0 rfl) ?_
  refine lv_aload_n hx hb d_Mo_happens_26 rfl (lv_at hl 1 rfl) ?_
  refine va_get (D := (dC, dI)) (ci := 8) (v := .ref a11) (C := R_Mo) (T := T_Mo) (N := 35) hx hb hts uin_Mo hown hK hP 0 rfl rfl 30 (by decide) (hts _ wd_719) (fun _ h9 => h9) rfl d_Mo_happens_27 ?_
  refine lv_iload_n hx hb d_Mo_happens_30 rfl (lv_at hl 0 rfl) ?_
  refine lv_iconst (v := 1) hx hb d_Mo_happens_31 (by decide) ?_
  refine lv_isub hx hb d_Mo_happens_32 ?_
  refine kq_fi (y := 7) (by decide) ?_
  refine kq_iald (j := 7) (v := (v_happens_5 ue) 7) hx hb hK hP 2 0 rfl rfl (by decide) rfl (kq_in (by decide)) d_Mo_happens_33 ?_
  refine va_iast hx hb hK hP hD hS 2 0 rfl rfl (kq_in (by decide)) d_Mo_happens_34 (fun H locs hP hD hS => ?_)
  have hP : va_P (dC, dI) vwCl [(b0, .inr (8, [.int (mo 0), .ref a1, .ref a2, .ref a3, .ref a4, .ref a5, .ref a6, .ref a7, .int (mo 1), .int (mo 2), .int (mo 3), .int (mo 4), .int (mo 5), .int (mo 6), .int (mo 7), .int (mo 8), .int (mo 9), .int (mo 10), .int (mo 11), .int (mo 12), .int (mo 13), .int (mo 14), .int (mo 15), .int (mo 16), .int (mo 17), .long (ml 0), .ref a8, .ref a9, .int (mo 18), .ref a10, .ref a11, .int (mo 19), .int (mo 20), .int (mo 21), .int (mo 22)])), (a10, .inl (cI, 16, .inl (upd (v_happens_4 un) 8 ((v_happens_4 un) 7)))), (a11, .inl (cI, 16, .inl (upd (v_happens_5 ue) 8 ((v_happens_5 ue) 7))))] H := hP
  have hD : va_D A [(b0, .inr (8, [.int (mo 0), .ref a1, .ref a2, .ref a3, .ref a4, .ref a5, .ref a6, .ref a7, .int (mo 1), .int (mo 2), .int (mo 3), .int (mo 4), .int (mo 5), .int (mo 6), .int (mo 7), .int (mo 8), .int (mo 9), .int (mo 10), .int (mo 11), .int (mo 12), .int (mo 13), .int (mo 14), .int (mo 15), .int (mo 16), .int (mo 17), .long (ml 0), .ref a8, .ref a9, .int (mo 18), .ref a10, .ref a11, .int (mo 19), .int (mo 20), .int (mo 21), .int (mo 22)])), (a10, .inl (cI, 16, .inl (upd (v_happens_4 un) 8 ((v_happens_4 un) 7)))), (a11, .inl (cI, 16, .inl (upd (v_happens_5 ue) 8 ((v_happens_5 ue) 7))))] := hD
  refine lv_iinc (k := 0) (v := 7) (lv' := [(2, .int 7), (0, .ref b0), (1, .int ia)]) hx hb d_Mo_happens_35 hl rfl (by decide) (by decide) rfl (fun ls hl => ?_)
  refine lv_goto (tgt := 3) hx hb d_Mo_happens_38 rfl ?_
  refine lv_iload_n hx hb d_Mo_happens_3 rfl (lv_at hl 0 rfl) ?_
  refine lv_if_le (tgt := 41) hx hb d_Mo_happens_4 rfl (fun h => absurd h (by decide)) (fun _ => ?_)
  refine lv_aload_n hx hb d_Mo_happens_7 rfl (lv_at hl 1 rfl) ?_
  refine va_get (D := (dC, dI)) (ci := 8) (v := .ref a10) (C := R_Mo) (T := T_Mo) (N := 35) hx hb hts uin_Mo hown hK hP 0 rfl rfl 29 (by decide) (hts _ wd_718) (fun _ h9 => h9) rfl d_Mo_happens_8 ?_
  refine lv_iload_n hx hb d_Mo_happens_11 rfl (lv_at hl 0 rfl) ?_
  refine lv_aload_n hx hb d_Mo_happens_12 rfl (lv_at hl 1 rfl) ?_
  refine va_get (D := (dC, dI)) (ci := 8) (v := .ref a10) (C := R_Mo) (T := T_Mo) (N := 35) hx hb hts uin_Mo hown hK hP 0 rfl rfl 29 (by decide) (hts _ wd_718) (fun _ h9 => h9) rfl d_Mo_happens_13 ?_
  refine lv_iload_n hx hb d_Mo_happens_16 rfl (lv_at hl 0 rfl) ?_
  refine lv_iconst (v := 1) hx hb d_Mo_happens_17 (by decide) ?_
  refine lv_isub hx hb d_Mo_happens_18 ?_
  refine kq_fi (y := 6) (by decide) ?_
  refine kq_iald (j := 6) (v := (upd (v_happens_4 un) 8 ((v_happens_4 un) 7)) 6) hx hb hK hP 1 0 rfl rfl (by decide) rfl (kq_in (by decide)) d_Mo_happens_19 ?_
  refine va_iast hx hb hK hP hD hS 1 0 rfl rfl (kq_in (by decide)) d_Mo_happens_20 (fun H locs hP hD hS => ?_)
  have hP : va_P (dC, dI) vwCl [(b0, .inr (8, [.int (mo 0), .ref a1, .ref a2, .ref a3, .ref a4, .ref a5, .ref a6, .ref a7, .int (mo 1), .int (mo 2), .int (mo 3), .int (mo 4), .int (mo 5), .int (mo 6), .int (mo 7), .int (mo 8), .int (mo 9), .int (mo 10), .int (mo 11), .int (mo 12), .int (mo 13), .int (mo 14), .int (mo 15), .int (mo 16), .int (mo 17), .long (ml 0), .ref a8, .ref a9, .int (mo 18), .ref a10, .ref a11, .int (mo 19), .int (mo 20), .int (mo 21), .int (mo 22)])), (a10, .inl (cI, 16, .inl (v_happens_6 un))), (a11, .inl (cI, 16, .inl (upd (v_happens_5 ue) 8 ((v_happens_5 ue) 7))))] H := hP
  have hD : va_D A [(b0, .inr (8, [.int (mo 0), .ref a1, .ref a2, .ref a3, .ref a4, .ref a5, .ref a6, .ref a7, .int (mo 1), .int (mo 2), .int (mo 3), .int (mo 4), .int (mo 5), .int (mo 6), .int (mo 7), .int (mo 8), .int (mo 9), .int (mo 10), .int (mo 11), .int (mo 12), .int (mo 13), .int (mo 14), .int (mo 15), .int (mo 16), .int (mo 17), .long (ml 0), .ref a8, .ref a9, .int (mo 18), .ref a10, .ref a11, .int (mo 19), .int (mo 20), .int (mo 21), .int (mo 22)])), (a10, .inl (cI, 16, .inl (v_happens_6 un))), (a11, .inl (cI, 16, .inl (upd (v_happens_5 ue) 8 ((v_happens_5 ue) 7))))] := hD
  refine lv_aload_n hx hb d_Mo_happens_21 rfl (lv_at hl 1 rfl) ?_
  refine va_get (D := (dC, dI)) (ci := 8) (v := .ref a11) (C := R_Mo) (T := T_Mo) (N := 35) hx hb hts uin_Mo hown hK hP 0 rfl rfl 30 (by decide) (hts _ wd_719) (fun _ h9 => h9) rfl d_Mo_happens_22 ?_
  refine lv_iload_n hx hb d_Mo_happens_25 rfl (lv_at hl 0 rfl) ?_
  refine lv_aload_n hx hb d_Mo_happens_26 rfl (lv_at hl 1 rfl) ?_
  refine va_get (D := (dC, dI)) (ci := 8) (v := .ref a11) (C := R_Mo) (T := T_Mo) (N := 35) hx hb hts uin_Mo hown hK hP 0 rfl rfl 30 (by decide) (hts _ wd_719) (fun _ h9 => h9) rfl d_Mo_happens_27 ?_
  refine lv_iload_n hx hb d_Mo_happens_30 rfl (lv_at hl 0 rfl) ?_
  refine lv_iconst (v := 1) hx hb d_Mo_happens_31 (by decide) ?_
  refine lv_isub hx hb d_Mo_happens_32 ?_
  refine kq_fi (y := 6) (by decide) ?_
  refine kq_iald (j := 6) (v := (upd (v_happens_5 ue) 8 ((v_happens_5 ue) 7)) 6) hx hb hK hP 2 0 rfl rfl (by decide) rfl (kq_in (by decide)) d_Mo_happens_33 ?_
  refine va_iast hx hb hK hP hD hS 2 0 rfl rfl (kq_in (by decide)) d_Mo_happens_34 (fun H locs hP hD hS => ?_)
  have hP : va_P (dC, dI) vwCl [(b0, .inr (8, [.int (mo 0), .ref a1, .ref a2, .ref a3, .ref a4, .ref a5, .ref a6, .ref a7, .int (mo 1), .int (mo 2), .int (mo 3), .int (mo 4), .int (mo 5), .int (mo 6), .int (mo 7), .int (mo 8), .int (mo 9), .int (mo 10), .int (mo 11), .int (mo 12), .int (mo 13), .int (mo 14), .int (mo 15), .int (mo 16), .int (mo 17), .long (ml 0), .ref a8, .ref a9, .int (mo 18), .ref a10, .ref a11, .int (mo 19), .int (mo 20), .int (mo 21), .int (mo 22)])), (a10, .inl (cI, 16, .inl (v_happens_6 un))), (a11, .inl (cI, 16, .inl (v_happens_7 ue)))] H := hP
  have hD : va_D A [(b0, .inr (8, [.int (mo 0), .ref a1, .ref a2, .ref a3, .ref a4, .ref a5, .ref a6, .ref a7, .int (mo 1), .int (mo 2), .int (mo 3), .int (mo 4), .int (mo 5), .int (mo 6), .int (mo 7), .int (mo 8), .int (mo 9), .int (mo 10), .int (mo 11), .int (mo 12), .int (mo 13), .int (mo 14), .int (mo 15), .int (mo 16), .int (mo 17), .long (ml 0), .ref a8, .ref a9, .int (mo 18), .ref a10, .ref a11, .int (mo 19), .int (mo 20), .int (mo 21), .int (mo 22)])), (a10, .inl (cI, 16, .inl (v_happens_6 un))), (a11, .inl (cI, 16, .inl (v_happens_7 ue)))] := hD
  refine lv_iinc (k := 0) (v := 6) (lv' := [(2, .int 6), (0, .ref b0), (1, .int ia)]) hx hb d_Mo_happens_35 hl rfl (by decide) (by decide) rfl (fun ls hl => ?_)
  refine lv_goto (tgt := 3) hx hb d_Mo_happens_38 rfl ?_
  refine lv_iload_n hx hb d_Mo_happens_3 rfl (lv_at hl 0 rfl) ?_
  refine lv_if_le (tgt := 41) hx hb d_Mo_happens_4 rfl (fun h => absurd h (by decide)) (fun _ => ?_)
  refine lv_aload_n hx hb d_Mo_happens_7 rfl (lv_at hl 1 rfl) ?_
  refine va_get (D := (dC, dI)) (ci := 8) (v := .ref a10) (C := R_Mo) (T := T_Mo) (N := 35) hx hb hts uin_Mo hown hK hP 0 rfl rfl 29 (by decide) (hts _ wd_718) (fun _ h9 => h9) rfl d_Mo_happens_8 ?_
  refine lv_iload_n hx hb d_Mo_happens_11 rfl (lv_at hl 0 rfl) ?_
  refine lv_aload_n hx hb d_Mo_happens_12 rfl (lv_at hl 1 rfl) ?_
  refine va_get (D := (dC, dI)) (ci := 8) (v := .ref a10) (C := R_Mo) (T := T_Mo) (N := 35) hx hb hts uin_Mo hown hK hP 0 rfl rfl 29 (by decide) (hts _ wd_718) (fun _ h9 => h9) rfl d_Mo_happens_13 ?_
  refine lv_iload_n hx hb d_Mo_happens_16 rfl (lv_at hl 0 rfl) ?_
  refine lv_iconst (v := 1) hx hb d_Mo_happens_17 (by decide) ?_
  refine lv_isub hx hb d_Mo_happens_18 ?_
  refine kq_fi (y := 5) (by decide) ?_
  refine kq_iald (j := 5) (v := (v_happens_6 un) 5) hx hb hK hP 1 0 rfl rfl (by decide) rfl (kq_in (by decide)) d_Mo_happens_19 ?_
  refine va_iast hx hb hK hP hD hS 1 0 rfl rfl (kq_in (by decide)) d_Mo_happens_20 (fun H locs hP hD hS => ?_)
  have hP : va_P (dC, dI) vwCl [(b0, .inr (8, [.int (mo 0), .ref a1, .ref a2, .ref a3, .ref a4, .ref a5, .ref a6, .ref a7, .int (mo 1), .int (mo 2), .int (mo 3), .int (mo 4), .int (mo 5), .int (mo 6), .int (mo 7), .int (mo 8), .int (mo 9), .int (mo 10), .int (mo 11), .int (mo 12), .int (mo 13), .int (mo 14), .int (mo 15), .int (mo 16), .int (mo 17), .long (ml 0), .ref a8, .ref a9, .int (mo 18), .ref a10, .ref a11, .int (mo 19), .int (mo 20), .int (mo 21), .int (mo 22)])), (a10, .inl (cI, 16, .inl (upd (v_happens_6 un) 6 ((v_happens_6 un) 5)))), (a11, .inl (cI, 16, .inl (v_happens_7 ue)))] H := hP
  have hD : va_D A [(b0, .inr (8, [.int (mo 0), .ref a1, .ref a2, .ref a3, .ref a4, .ref a5, .ref a6, .ref a7, .int (mo 1), .int (mo 2), .int (mo 3), .int (mo 4), .int (mo 5), .int (mo 6), .int (mo 7), .int (mo 8), .int (mo 9), .int (mo 10), .int (mo 11), .int (mo 12), .int (mo 13), .int (mo 14), .int (mo 15), .int (mo 16), .int (mo 17), .long (ml 0), .ref a8, .ref a9, .int (mo 18), .ref a10, .ref a11, .int (mo 19), .int (mo 20), .int (mo 21), .int (mo 22)])), (a10, .inl (cI, 16, .inl (upd (v_happens_6 un) 6 ((v_happens_6 un) 5)))), (a11, .inl (cI, 16, .inl (v_happens_7 ue)))] := hD
  refine lv_aload_n hx hb d_Mo_happens_21 rfl (lv_at hl 1 rfl) ?_
  refine va_get (D := (dC, dI)) (ci := 8) (v := .ref a11) (C := R_Mo) (T := T_Mo) (N := 35) hx hb hts uin_Mo hown hK hP 0 rfl rfl 30 (by decide) (hts _ wd_719) (fun _ h9 => h9) rfl d_Mo_happens_22 ?_
  refine lv_iload_n hx hb d_Mo_happens_25 rfl (lv_at hl 0 rfl) ?_
  refine lv_aload_n hx hb d_Mo_happens_26 rfl (lv_at hl 1 rfl) ?_
  refine va_get (D := (dC, dI)) (ci := 8) (v := .ref a11) (C := R_Mo) (T := T_Mo) (N := 35) hx hb hts uin_Mo hown hK hP 0 rfl rfl 30 (by decide) (hts _ wd_719) (fun _ h9 => h9) rfl d_Mo_happens_27 ?_
  refine lv_iload_n hx hb d_Mo_happens_30 rfl (lv_at hl 0 rfl) ?_
  refine lv_iconst (v := 1) hx hb d_Mo_happens_31 (by decide) ?_
  refine lv_isub hx hb d_Mo_happens_32 ?_
  refine kq_fi (y := 5) (by decide) ?_
  refine kq_iald (j := 5) (v := (v_happens_7 ue) 5) hx hb hK hP 2 0 rfl rfl (by decide) rfl (kq_in (by decide)) d_Mo_happens_33 ?_
  refine va_iast hx hb hK hP hD hS 2 0 rfl rfl (kq_in (by decide)) d_Mo_happens_34 (fun H locs hP hD hS => ?_)
  have hP : va_P (dC, dI) vwCl [(b0, .inr (8, [.int (mo 0), .ref a1, .ref a2, .ref a3, .ref a4, .ref a5, .ref a6, .ref a7, .int (mo 1), .int (mo 2), .int (mo 3), .int (mo 4), .int (mo 5), .int (mo 6), .int (mo 7), .int (mo 8), .int (mo 9), .int (mo 10), .int (mo 11), .int (mo 12), .int (mo 13), .int (mo 14), .int (mo 15), .int (mo 16), .int (mo 17), .long (ml 0), .ref a8, .ref a9, .int (mo 18), .ref a10, .ref a11, .int (mo 19), .int (mo 20), .int (mo 21), .int (mo 22)])), (a10, .inl (cI, 16, .inl (upd (v_happens_6 un) 6 ((v_happens_6 un) 5)))), (a11, .inl (cI, 16, .inl (upd (v_happens_7 ue) 6 ((v_happens_7 ue) 5))))] H := hP
  have hD : va_D A [(b0, .inr (8, [.int (mo 0), .ref a1, .ref a2, .ref a3, .ref a4, .ref a5, .ref a6, .ref a7, .int (mo 1), .int (mo 2), .int (mo 3), .int (mo 4), .int (mo 5), .int (mo 6), .int (mo 7), .int (mo 8), .int (mo 9), .int (mo 10), .int (mo 11), .int (mo 12), .int (mo 13), .int (mo 14), .int (mo 15), .int (mo 16), .int (mo 17), .long (ml 0), .ref a8, .ref a9, .int (mo 18), .ref a10, .ref a11, .int (mo 19), .int (mo 20), .int (mo 21), .int (mo 22)])), (a10, .inl (cI, 16, .inl (upd (v_happens_6 un) 6 ((v_happens_6 un) 5)))), (a11, .inl (cI, 16, .inl (upd (v_happens_7 ue) 6 ((v_happens_7 ue) 5))))] := hD
  refine lv_iinc (k := 0) (v := 5) (lv' := [(2, .int 5), (0, .ref b0), (1, .int ia)]) hx hb d_Mo_happens_35 hl rfl (by decide) (by decide) rfl (fun ls hl => ?_)
  refine lv_goto (tgt := 3) hx hb d_Mo_happens_38 rfl ?_
  refine lv_iload_n hx hb d_Mo_happens_3 rfl (lv_at hl 0 rfl) ?_
  refine lv_if_le (tgt := 41) hx hb d_Mo_happens_4 rfl (fun h => absurd h (by decide)) (fun _ => ?_)
  refine lv_aload_n hx hb d_Mo_happens_7 rfl (lv_at hl 1 rfl) ?_
  refine va_get (D := (dC, dI)) (ci := 8) (v := .ref a10) (C := R_Mo) (T := T_Mo) (N := 35) hx hb hts uin_Mo hown hK hP 0 rfl rfl 29 (by decide) (hts _ wd_718) (fun _ h9 => h9) rfl d_Mo_happens_8 ?_
  refine lv_iload_n hx hb d_Mo_happens_11 rfl (lv_at hl 0 rfl) ?_
  refine lv_aload_n hx hb d_Mo_happens_12 rfl (lv_at hl 1 rfl) ?_
  refine va_get (D := (dC, dI)) (ci := 8) (v := .ref a10) (C := R_Mo) (T := T_Mo) (N := 35) hx hb hts uin_Mo hown hK hP 0 rfl rfl 29 (by decide) (hts _ wd_718) (fun _ h9 => h9) rfl d_Mo_happens_13 ?_
  refine lv_iload_n hx hb d_Mo_happens_16 rfl (lv_at hl 0 rfl) ?_
  refine lv_iconst (v := 1) hx hb d_Mo_happens_17 (by decide) ?_
  refine lv_isub hx hb d_Mo_happens_18 ?_
  refine kq_fi (y := 4) (by decide) ?_
  refine kq_iald (j := 4) (v := (upd (v_happens_6 un) 6 ((v_happens_6 un) 5)) 4) hx hb hK hP 1 0 rfl rfl (by decide) rfl (kq_in (by decide)) d_Mo_happens_19 ?_
  refine va_iast hx hb hK hP hD hS 1 0 rfl rfl (kq_in (by decide)) d_Mo_happens_20 (fun H locs hP hD hS => ?_)
  have hP : va_P (dC, dI) vwCl [(b0, .inr (8, [.int (mo 0), .ref a1, .ref a2, .ref a3, .ref a4, .ref a5, .ref a6, .ref a7, .int (mo 1), .int (mo 2), .int (mo 3), .int (mo 4), .int (mo 5), .int (mo 6), .int (mo 7), .int (mo 8), .int (mo 9), .int (mo 10), .int (mo 11), .int (mo 12), .int (mo 13), .int (mo 14), .int (mo 15), .int (mo 16), .int (mo 17), .long (ml 0), .ref a8, .ref a9, .int (mo 18), .ref a10, .ref a11, .int (mo 19), .int (mo 20), .int (mo 21), .int (mo 22)])), (a10, .inl (cI, 16, .inl (v_happens_8 un))), (a11, .inl (cI, 16, .inl (upd (v_happens_7 ue) 6 ((v_happens_7 ue) 5))))] H := hP
  have hD : va_D A [(b0, .inr (8, [.int (mo 0), .ref a1, .ref a2, .ref a3, .ref a4, .ref a5, .ref a6, .ref a7, .int (mo 1), .int (mo 2), .int (mo 3), .int (mo 4), .int (mo 5), .int (mo 6), .int (mo 7), .int (mo 8), .int (mo 9), .int (mo 10), .int (mo 11), .int (mo 12), .int (mo 13), .int (mo 14), .int (mo 15), .int (mo 16), .int (mo 17), .long (ml 0), .ref a8, .ref a9, .int (mo 18), .ref a10, .ref a11, .int (mo 19), .int (mo 20), .int (mo 21), .int (mo 22)])), (a10, .inl (cI, 16, .inl (v_happens_8 un))), (a11, .inl (cI, 16, .inl (upd (v_happens_7 ue) 6 ((v_happens_7 ue) 5))))] := hD
  refine lv_aload_n hx hb d_Mo_happens_21 rfl (lv_at hl 1 rfl) ?_
  refine va_get (D := (dC, dI)) (ci := 8) (v := .ref a11) (C := R_Mo) (T := T_Mo) (N := 35) hx hb hts uin_Mo hown hK hP 0 rfl rfl 30 (by decide) (hts _ wd_719) (fun _ h9 => h9) rfl d_Mo_happens_22 ?_
  refine lv_iload_n hx hb d_Mo_happens_25 rfl (lv_at hl 0 rfl) ?_
  refine lv_aload_n hx hb d_Mo_happens_26 rfl (lv_at hl 1 rfl) ?_
  refine va_get (D := (dC, dI)) (ci := 8) (v := .ref a11) (C := R_Mo) (T := T_Mo) (N := 35) hx hb hts uin_Mo hown hK hP 0 rfl rfl 30 (by decide) (hts _ wd_719) (fun _ h9 => h9) rfl d_Mo_happens_27 ?_
  refine lv_iload_n hx hb d_Mo_happens_30 rfl (lv_at hl 0 rfl) ?_
  refine lv_iconst (v := 1) hx hb d_Mo_happens_31 (by decide) ?_
  refine lv_isub hx hb d_Mo_happens_32 ?_
  refine kq_fi (y := 4) (by decide) ?_
  refine kq_iald (j := 4) (v := (upd (v_happens_7 ue) 6 ((v_happens_7 ue) 5)) 4) hx hb hK hP 2 0 rfl rfl (by decide) rfl (kq_in (by decide)) d_Mo_happens_33 ?_
  refine va_iast hx hb hK hP hD hS 2 0 rfl rfl (kq_in (by decide)) d_Mo_happens_34 (fun H locs hP hD hS => ?_)
  have hP : va_P (dC, dI) vwCl [(b0, .inr (8, [.int (mo 0), .ref a1, .ref a2, .ref a3, .ref a4, .ref a5, .ref a6, .ref a7, .int (mo 1), .int (mo 2), .int (mo 3), .int (mo 4), .int (mo 5), .int (mo 6), .int (mo 7), .int (mo 8), .int (mo 9), .int (mo 10), .int (mo 11), .int (mo 12), .int (mo 13), .int (mo 14), .int (mo 15), .int (mo 16), .int (mo 17), .long (ml 0), .ref a8, .ref a9, .int (mo 18), .ref a10, .ref a11, .int (mo 19), .int (mo 20), .int (mo 21), .int (mo 22)])), (a10, .inl (cI, 16, .inl (v_happens_8 un))), (a11, .inl (cI, 16, .inl (v_happens_9 ue)))] H := hP
  have hD : va_D A [(b0, .inr (8, [.int (mo 0), .ref a1, .ref a2, .ref a3, .ref a4, .ref a5, .ref a6, .ref a7, .int (mo 1), .int (mo 2), .int (mo 3), .int (mo 4), .int (mo 5), .int (mo 6), .int (mo 7), .int (mo 8), .int (mo 9), .int (mo 10), .int (mo 11), .int (mo 12), .int (mo 13), .int (mo 14), .int (mo 15), .int (mo 16), .int (mo 17), .long (ml 0), .ref a8, .ref a9, .int (mo 18), .ref a10, .ref a11, .int (mo 19), .int (mo 20), .int (mo 21), .int (mo 22)])), (a10, .inl (cI, 16, .inl (v_happens_8 un))), (a11, .inl (cI, 16, .inl (v_happens_9 ue)))] := hD
  refine lv_iinc (k := 0) (v := 4) (lv' := [(2, .int 4), (0, .ref b0), (1, .int ia)]) hx hb d_Mo_happens_35 hl rfl (by decide) (by decide) rfl (fun ls hl => ?_)
  refine lv_goto (tgt := 3) hx hb d_Mo_happens_38 rfl ?_
  refine lv_iload_n hx hb d_Mo_happens_3 rfl (lv_at hl 0 rfl) ?_
  refine lv_if_le (tgt := 41) hx hb d_Mo_happens_4 rfl (fun h => absurd h (by decide)) (fun _ => ?_)
  refine lv_aload_n hx hb d_Mo_happens_7 rfl (lv_at hl 1 rfl) ?_
  refine va_get (D := (dC, dI)) (ci := 8) (v := .ref a10) (C := R_Mo) (T := T_Mo) (N := 35) hx hb hts uin_Mo hown hK hP 0 rfl rfl 29 (by decide) (hts _ wd_718) (fun _ h9 => h9) rfl d_Mo_happens_8 ?_
  refine lv_iload_n hx hb d_Mo_happens_11 rfl (lv_at hl 0 rfl) ?_
  refine lv_aload_n hx hb d_Mo_happens_12 rfl (lv_at hl 1 rfl) ?_
  refine va_get (D := (dC, dI)) (ci := 8) (v := .ref a10) (C := R_Mo) (T := T_Mo) (N := 35) hx hb hts uin_Mo hown hK hP 0 rfl rfl 29 (by decide) (hts _ wd_718) (fun _ h9 => h9) rfl d_Mo_happens_13 ?_
  refine lv_iload_n hx hb d_Mo_happens_16 rfl (lv_at hl 0 rfl) ?_
  refine lv_iconst (v := 1) hx hb d_Mo_happens_17 (by decide) ?_
  refine lv_isub hx hb d_Mo_happens_18 ?_
  refine kq_fi (y := 3) (by decide) ?_
  refine kq_iald (j := 3) (v := (v_happens_8 un) 3) hx hb hK hP 1 0 rfl rfl (by decide) rfl (kq_in (by decide)) d_Mo_happens_19 ?_
  refine va_iast hx hb hK hP hD hS 1 0 rfl rfl (kq_in (by decide)) d_Mo_happens_20 (fun H locs hP hD hS => ?_)
  have hP : va_P (dC, dI) vwCl [(b0, .inr (8, [.int (mo 0), .ref a1, .ref a2, .ref a3, .ref a4, .ref a5, .ref a6, .ref a7, .int (mo 1), .int (mo 2), .int (mo 3), .int (mo 4), .int (mo 5), .int (mo 6), .int (mo 7), .int (mo 8), .int (mo 9), .int (mo 10), .int (mo 11), .int (mo 12), .int (mo 13), .int (mo 14), .int (mo 15), .int (mo 16), .int (mo 17), .long (ml 0), .ref a8, .ref a9, .int (mo 18), .ref a10, .ref a11, .int (mo 19), .int (mo 20), .int (mo 21), .int (mo 22)])), (a10, .inl (cI, 16, .inl (upd (v_happens_8 un) 4 ((v_happens_8 un) 3)))), (a11, .inl (cI, 16, .inl (v_happens_9 ue)))] H := hP
  have hD : va_D A [(b0, .inr (8, [.int (mo 0), .ref a1, .ref a2, .ref a3, .ref a4, .ref a5, .ref a6, .ref a7, .int (mo 1), .int (mo 2), .int (mo 3), .int (mo 4), .int (mo 5), .int (mo 6), .int (mo 7), .int (mo 8), .int (mo 9), .int (mo 10), .int (mo 11), .int (mo 12), .int (mo 13), .int (mo 14), .int (mo 15), .int (mo 16), .int (mo 17), .long (ml 0), .ref a8, .ref a9, .int (mo 18), .ref a10, .ref a11, .int (mo 19), .int (mo 20), .int (mo 21), .int (mo 22)])), (a10, .inl (cI, 16, .inl (upd (v_happens_8 un) 4 ((v_happens_8 un) 3)))), (a11, .inl (cI, 16, .inl (v_happens_9 ue)))] := hD
  refine lv_aload_n hx hb d_Mo_happens_21 rfl (lv_at hl 1 rfl) ?_
  refine va_get (D := (dC, dI)) (ci := 8) (v := .ref a11) (C := R_Mo) (T := T_Mo) (N := 35) hx hb hts uin_Mo hown hK hP 0 rfl rfl 30 (by decide) (hts _ wd_719) (fun _ h9 => h9) rfl d_Mo_happens_22 ?_
  refine lv_iload_n hx hb d_Mo_happens_25 rfl (lv_at hl 0 rfl) ?_
  refine lv_aload_n hx hb d_Mo_happens_26 rfl (lv_at hl 1 rfl) ?_
  refine va_get (D := (dC, dI)) (ci := 8) (v := .ref a11) (C := R_Mo) (T := T_Mo) (N := 35) hx hb hts uin_Mo hown hK hP 0 rfl rfl 30 (by decide) (hts _ wd_719) (fun _ h9 => h9) rfl d_Mo_happens_27 ?_
  refine lv_iload_n hx hb d_Mo_happens_30 rfl (lv_at hl 0 rfl) ?_
  refine lv_iconst (v := 1) hx hb d_Mo_happens_31 (by decide) ?_
  refine lv_isub hx hb d_Mo_happens_32 ?_
  refine kq_fi (y := 3) (by decide) ?_
  refine kq_iald (j := 3) (v := (v_happens_9 ue) 3) hx hb hK hP 2 0 rfl rfl (by decide) rfl (kq_in (by decide)) d_Mo_happens_33 ?_
  refine va_iast hx hb hK hP hD hS 2 0 rfl rfl (kq_in (by decide)) d_Mo_happens_34 (fun H locs hP hD hS => ?_)
  have hP : va_P (dC, dI) vwCl [(b0, .inr (8, [.int (mo 0), .ref a1, .ref a2, .ref a3, .ref a4, .ref a5, .ref a6, .ref a7, .int (mo 1), .int (mo 2), .int (mo 3), .int (mo 4), .int (mo 5), .int (mo 6), .int (mo 7), .int (mo 8), .int (mo 9), .int (mo 10), .int (mo 11), .int (mo 12), .int (mo 13), .int (mo 14), .int (mo 15), .int (mo 16), .int (mo 17), .long (ml 0), .ref a8, .ref a9, .int (mo 18), .ref a10, .ref a11, .int (mo 19), .int (mo 20), .int (mo 21), .int (mo 22)])), (a10, .inl (cI, 16, .inl (upd (v_happens_8 un) 4 ((v_happens_8 un) 3)))), (a11, .inl (cI, 16, .inl (upd (v_happens_9 ue) 4 ((v_happens_9 ue) 3))))] H := hP
  have hD : va_D A [(b0, .inr (8, [.int (mo 0), .ref a1, .ref a2, .ref a3, .ref a4, .ref a5, .ref a6, .ref a7, .int (mo 1), .int (mo 2), .int (mo 3), .int (mo 4), .int (mo 5), .int (mo 6), .int (mo 7), .int (mo 8), .int (mo 9), .int (mo 10), .int (mo 11), .int (mo 12), .int (mo 13), .int (mo 14), .int (mo 15), .int (mo 16), .int (mo 17), .long (ml 0), .ref a8, .ref a9, .int (mo 18), .ref a10, .ref a11, .int (mo 19), .int (mo 20), .int (mo 21), .int (mo 22)])), (a10, .inl (cI, 16, .inl (upd (v_happens_8 un) 4 ((v_happens_8 un) 3)))), (a11, .inl (cI, 16, .inl (upd (v_happens_9 ue) 4 ((v_happens_9 ue) 3))))] := hD
  refine lv_iinc (k := 0) (v := 3) (lv' := [(2, .int 3), (0, .ref b0), (1, .int ia)]) hx hb d_Mo_happens_35 hl rfl (by decide) (by decide) rfl (fun ls hl => ?_)
  refine lv_goto (tgt := 3) hx hb d_Mo_happens_38 rfl ?_
  refine lv_iload_n hx hb d_Mo_happens_3 rfl (lv_at hl 0 rfl) ?_
  refine lv_if_le (tgt := 41) hx hb d_Mo_happens_4 rfl (fun h => absurd h (by decide)) (fun _ => ?_)
  refine lv_aload_n hx hb d_Mo_happens_7 rfl (lv_at hl 1 rfl) ?_
  refine va_get (D := (dC, dI)) (ci := 8) (v := .ref a10) (C := R_Mo) (T := T_Mo) (N := 35) hx hb hts uin_Mo hown hK hP 0 rfl rfl 29 (by decide) (hts _ wd_718) (fun _ h9 => h9) rfl d_Mo_happens_8 ?_
  refine lv_iload_n hx hb d_Mo_happens_11 rfl (lv_at hl 0 rfl) ?_
  refine lv_aload_n hx hb d_Mo_happens_12 rfl (lv_at hl 1 rfl) ?_
  refine va_get (D := (dC, dI)) (ci := 8) (v := .ref a10) (C := R_Mo) (T := T_Mo) (N := 35) hx hb hts uin_Mo hown hK hP 0 rfl rfl 29 (by decide) (hts _ wd_718) (fun _ h9 => h9) rfl d_Mo_happens_13 ?_
  refine lv_iload_n hx hb d_Mo_happens_16 rfl (lv_at hl 0 rfl) ?_
  refine lv_iconst (v := 1) hx hb d_Mo_happens_17 (by decide) ?_
  refine lv_isub hx hb d_Mo_happens_18 ?_
  refine kq_fi (y := 2) (by decide) ?_
  refine kq_iald (j := 2) (v := (upd (v_happens_8 un) 4 ((v_happens_8 un) 3)) 2) hx hb hK hP 1 0 rfl rfl (by decide) rfl (kq_in (by decide)) d_Mo_happens_19 ?_
  refine va_iast hx hb hK hP hD hS 1 0 rfl rfl (kq_in (by decide)) d_Mo_happens_20 (fun H locs hP hD hS => ?_)
  have hP : va_P (dC, dI) vwCl [(b0, .inr (8, [.int (mo 0), .ref a1, .ref a2, .ref a3, .ref a4, .ref a5, .ref a6, .ref a7, .int (mo 1), .int (mo 2), .int (mo 3), .int (mo 4), .int (mo 5), .int (mo 6), .int (mo 7), .int (mo 8), .int (mo 9), .int (mo 10), .int (mo 11), .int (mo 12), .int (mo 13), .int (mo 14), .int (mo 15), .int (mo 16), .int (mo 17), .long (ml 0), .ref a8, .ref a9, .int (mo 18), .ref a10, .ref a11, .int (mo 19), .int (mo 20), .int (mo 21), .int (mo 22)])), (a10, .inl (cI, 16, .inl (v_happens_10 un))), (a11, .inl (cI, 16, .inl (upd (v_happens_9 ue) 4 ((v_happens_9 ue) 3))))] H := hP
  have hD : va_D A [(b0, .inr (8, [.int (mo 0), .ref a1, .ref a2, .ref a3, .ref a4, .ref a5, .ref a6, .ref a7, .int (mo 1), .int (mo 2), .int (mo 3), .int (mo 4), .int (mo 5), .int (mo 6), .int (mo 7), .int (mo 8), .int (mo 9), .int (mo 10), .int (mo 11), .int (mo 12), .int (mo 13), .int (mo 14), .int (mo 15), .int (mo 16), .int (mo 17), .long (ml 0), .ref a8, .ref a9, .int (mo 18), .ref a10, .ref a11, .int (mo 19), .int (mo 20), .int (mo 21), .int (mo 22)])), (a10, .inl (cI, 16, .inl (v_happens_10 un))), (a11, .inl (cI, 16, .inl (upd (v_happens_9 ue) 4 ((v_happens_9 ue) 3))))] := hD
  refine lv_aload_n hx hb d_Mo_happens_21 rfl (lv_at hl 1 rfl) ?_
  refine va_get (D := (dC, dI)) (ci := 8) (v := .ref a11) (C := R_Mo) (T := T_Mo) (N := 35) hx hb hts uin_Mo hown hK hP 0 rfl rfl 30 (by decide) (hts _ wd_719) (fun _ h9 => h9) rfl d_Mo_happens_22 ?_
  refine lv_iload_n hx hb d_Mo_happens_25 rfl (lv_at hl 0 rfl) ?_
  refine lv_aload_n hx hb d_Mo_happens_26 rfl (lv_at hl 1 rfl) ?_
  refine va_get (D := (dC, dI)) (ci := 8) (v := .ref a11) (C := R_Mo) (T := T_Mo) (N := 35) hx hb hts uin_Mo hown hK hP 0 rfl rfl 30 (by decide) (hts _ wd_719) (fun _ h9 => h9) rfl d_Mo_happens_27 ?_
  refine lv_iload_n hx hb d_Mo_happens_30 rfl (lv_at hl 0 rfl) ?_
  refine lv_iconst (v := 1) hx hb d_Mo_happens_31 (by decide) ?_
  refine lv_isub hx hb d_Mo_happens_32 ?_
  refine kq_fi (y := 2) (by decide) ?_
  refine kq_iald (j := 2) (v := (upd (v_happens_9 ue) 4 ((v_happens_9 ue) 3)) 2) hx hb hK hP 2 0 rfl rfl (by decide) rfl (kq_in (by decide)) d_Mo_happens_33 ?_
  refine va_iast hx hb hK hP hD hS 2 0 rfl rfl (kq_in (by decide)) d_Mo_happens_34 (fun H locs hP hD hS => ?_)
  have hP : va_P (dC, dI) vwCl [(b0, .inr (8, [.int (mo 0), .ref a1, .ref a2, .ref a3, .ref a4, .ref a5, .ref a6, .ref a7, .int (mo 1), .int (mo 2), .int (mo 3), .int (mo 4), .int (mo 5), .int (mo 6), .int (mo 7), .int (mo 8), .int (mo 9), .int (mo 10), .int (mo 11), .int (mo 12), .int (mo 13), .int (mo 14), .int (mo 15), .int (mo 16), .int (mo 17), .long (ml 0), .ref a8, .ref a9, .int (mo 18), .ref a10, .ref a11, .int (mo 19), .int (mo 20), .int (mo 21), .int (mo 22)])), (a10, .inl (cI, 16, .inl (v_happens_10 un))), (a11, .inl (cI, 16, .inl (v_happens_11 ue)))] H := hP
  have hD : va_D A [(b0, .inr (8, [.int (mo 0), .ref a1, .ref a2, .ref a3, .ref a4, .ref a5, .ref a6, .ref a7, .int (mo 1), .int (mo 2), .int (mo 3), .int (mo 4), .int (mo 5), .int (mo 6), .int (mo 7), .int (mo 8), .int (mo 9), .int (mo 10), .int (mo 11), .int (mo 12), .int (mo 13), .int (mo 14), .int (mo 15), .int (mo 16), .int (mo 17), .long (ml 0), .ref a8, .ref a9, .int (mo 18), .ref a10, .ref a11, .int (mo 19), .int (mo 20), .int (mo 21), .int (mo 22)])), (a10, .inl (cI, 16, .inl (v_happens_10 un))), (a11, .inl (cI, 16, .inl (v_happens_11 ue)))] := hD
  refine lv_iinc (k := 0) (v := 2) (lv' := [(2, .int 2), (0, .ref b0), (1, .int ia)]) hx hb d_Mo_happens_35 hl rfl (by decide) (by decide) rfl (fun ls hl => ?_)
  refine lv_goto (tgt := 3) hx hb d_Mo_happens_38 rfl ?_
  refine lv_iload_n hx hb d_Mo_happens_3 rfl (lv_at hl 0 rfl) ?_
  refine lv_if_le (tgt := 41) hx hb d_Mo_happens_4 rfl (fun h => absurd h (by decide)) (fun _ => ?_)
  refine lv_aload_n hx hb d_Mo_happens_7 rfl (lv_at hl 1 rfl) ?_
  refine va_get (D := (dC, dI)) (ci := 8) (v := .ref a10) (C := R_Mo) (T := T_Mo) (N := 35) hx hb hts uin_Mo hown hK hP 0 rfl rfl 29 (by decide) (hts _ wd_718) (fun _ h9 => h9) rfl d_Mo_happens_8 ?_
  refine lv_iload_n hx hb d_Mo_happens_11 rfl (lv_at hl 0 rfl) ?_
  refine lv_aload_n hx hb d_Mo_happens_12 rfl (lv_at hl 1 rfl) ?_
  refine va_get (D := (dC, dI)) (ci := 8) (v := .ref a10) (C := R_Mo) (T := T_Mo) (N := 35) hx hb hts uin_Mo hown hK hP 0 rfl rfl 29 (by decide) (hts _ wd_718) (fun _ h9 => h9) rfl d_Mo_happens_13 ?_
  refine lv_iload_n hx hb d_Mo_happens_16 rfl (lv_at hl 0 rfl) ?_
  refine lv_iconst (v := 1) hx hb d_Mo_happens_17 (by decide) ?_
  refine lv_isub hx hb d_Mo_happens_18 ?_
  refine kq_fi (y := 1) (by decide) ?_
  refine kq_iald (j := 1) (v := (v_happens_10 un) 1) hx hb hK hP 1 0 rfl rfl (by decide) rfl (kq_in (by decide)) d_Mo_happens_19 ?_
  refine va_iast hx hb hK hP hD hS 1 0 rfl rfl (kq_in (by decide)) d_Mo_happens_20 (fun H locs hP hD hS => ?_)
  have hP : va_P (dC, dI) vwCl [(b0, .inr (8, [.int (mo 0), .ref a1, .ref a2, .ref a3, .ref a4, .ref a5, .ref a6, .ref a7, .int (mo 1), .int (mo 2), .int (mo 3), .int (mo 4), .int (mo 5), .int (mo 6), .int (mo 7), .int (mo 8), .int (mo 9), .int (mo 10), .int (mo 11), .int (mo 12), .int (mo 13), .int (mo 14), .int (mo 15), .int (mo 16), .int (mo 17), .long (ml 0), .ref a8, .ref a9, .int (mo 18), .ref a10, .ref a11, .int (mo 19), .int (mo 20), .int (mo 21), .int (mo 22)])), (a10, .inl (cI, 16, .inl (upd (v_happens_10 un) 2 ((v_happens_10 un) 1)))), (a11, .inl (cI, 16, .inl (v_happens_11 ue)))] H := hP
  have hD : va_D A [(b0, .inr (8, [.int (mo 0), .ref a1, .ref a2, .ref a3, .ref a4, .ref a5, .ref a6, .ref a7, .int (mo 1), .int (mo 2), .int (mo 3), .int (mo 4), .int (mo 5), .int (mo 6), .int (mo 7), .int (mo 8), .int (mo 9), .int (mo 10), .int (mo 11), .int (mo 12), .int (mo 13), .int (mo 14), .int (mo 15), .int (mo 16), .int (mo 17), .long (ml 0), .ref a8, .ref a9, .int (mo 18), .ref a10, .ref a11, .int (mo 19), .int (mo 20), .int (mo 21), .int (mo 22)])), (a10, .inl (cI, 16, .inl (upd (v_happens_10 un) 2 ((v_happens_10 un) 1)))), (a11, .inl (cI, 16, .inl (v_happens_11 ue)))] := hD
  refine lv_aload_n hx hb d_Mo_happens_21 rfl (lv_at hl 1 rfl) ?_
  refine va_get (D := (dC, dI)) (ci := 8) (v := .ref a11) (C := R_Mo) (T := T_Mo) (N := 35) hx hb hts uin_Mo hown hK hP 0 rfl rfl 30 (by decide) (hts _ wd_719) (fun _ h9 => h9) rfl d_Mo_happens_22 ?_
  refine lv_iload_n hx hb d_Mo_happens_25 rfl (lv_at hl 0 rfl) ?_
  refine lv_aload_n hx hb d_Mo_happens_26 rfl (lv_at hl 1 rfl) ?_
  refine va_get (D := (dC, dI)) (ci := 8) (v := .ref a11) (C := R_Mo) (T := T_Mo) (N := 35) hx hb hts uin_Mo hown hK hP 0 rfl rfl 30 (by decide) (hts _ wd_719) (fun _ h9 => h9) rfl d_Mo_happens_27 ?_
  refine lv_iload_n hx hb d_Mo_happens_30 rfl (lv_at hl 0 rfl) ?_
  refine lv_iconst (v := 1) hx hb d_Mo_happens_31 (by decide) ?_
  refine lv_isub hx hb d_Mo_happens_32 ?_
  refine kq_fi (y := 1) (by decide) ?_
  refine kq_iald (j := 1) (v := (v_happens_11 ue) 1) hx hb hK hP 2 0 rfl rfl (by decide) rfl (kq_in (by decide)) d_Mo_happens_33 ?_
  refine va_iast hx hb hK hP hD hS 2 0 rfl rfl (kq_in (by decide)) d_Mo_happens_34 (fun H locs hP hD hS => ?_)
  have hP : va_P (dC, dI) vwCl [(b0, .inr (8, [.int (mo 0), .ref a1, .ref a2, .ref a3, .ref a4, .ref a5, .ref a6, .ref a7, .int (mo 1), .int (mo 2), .int (mo 3), .int (mo 4), .int (mo 5), .int (mo 6), .int (mo 7), .int (mo 8), .int (mo 9), .int (mo 10), .int (mo 11), .int (mo 12), .int (mo 13), .int (mo 14), .int (mo 15), .int (mo 16), .int (mo 17), .long (ml 0), .ref a8, .ref a9, .int (mo 18), .ref a10, .ref a11, .int (mo 19), .int (mo 20), .int (mo 21), .int (mo 22)])), (a10, .inl (cI, 16, .inl (upd (v_happens_10 un) 2 ((v_happens_10 un) 1)))), (a11, .inl (cI, 16, .inl (upd (v_happens_11 ue) 2 ((v_happens_11 ue) 1))))] H := hP
  have hD : va_D A [(b0, .inr (8, [.int (mo 0), .ref a1, .ref a2, .ref a3, .ref a4, .ref a5, .ref a6, .ref a7, .int (mo 1), .int (mo 2), .int (mo 3), .int (mo 4), .int (mo 5), .int (mo 6), .int (mo 7), .int (mo 8), .int (mo 9), .int (mo 10), .int (mo 11), .int (mo 12), .int (mo 13), .int (mo 14), .int (mo 15), .int (mo 16), .int (mo 17), .long (ml 0), .ref a8, .ref a9, .int (mo 18), .ref a10, .ref a11, .int (mo 19), .int (mo 20), .int (mo 21), .int (mo 22)])), (a10, .inl (cI, 16, .inl (upd (v_happens_10 un) 2 ((v_happens_10 un) 1)))), (a11, .inl (cI, 16, .inl (upd (v_happens_11 ue) 2 ((v_happens_11 ue) 1))))] := hD
  refine lv_iinc (k := 0) (v := 1) (lv' := [(2, .int 1), (0, .ref b0), (1, .int ia)]) hx hb d_Mo_happens_35 hl rfl (by decide) (by decide) rfl (fun ls hl => ?_)
  refine lv_goto (tgt := 3) hx hb d_Mo_happens_38 rfl ?_
  refine lv_iload_n hx hb d_Mo_happens_3 rfl (lv_at hl 0 rfl) ?_
  refine lv_if_le (tgt := 41) hx hb d_Mo_happens_4 rfl (fun h => absurd h (by decide)) (fun _ => ?_)
  refine lv_aload_n hx hb d_Mo_happens_7 rfl (lv_at hl 1 rfl) ?_
  refine va_get (D := (dC, dI)) (ci := 8) (v := .ref a10) (C := R_Mo) (T := T_Mo) (N := 35) hx hb hts uin_Mo hown hK hP 0 rfl rfl 29 (by decide) (hts _ wd_718) (fun _ h9 => h9) rfl d_Mo_happens_8 ?_
  refine lv_iload_n hx hb d_Mo_happens_11 rfl (lv_at hl 0 rfl) ?_
  refine lv_aload_n hx hb d_Mo_happens_12 rfl (lv_at hl 1 rfl) ?_
  refine va_get (D := (dC, dI)) (ci := 8) (v := .ref a10) (C := R_Mo) (T := T_Mo) (N := 35) hx hb hts uin_Mo hown hK hP 0 rfl rfl 29 (by decide) (hts _ wd_718) (fun _ h9 => h9) rfl d_Mo_happens_13 ?_
  refine lv_iload_n hx hb d_Mo_happens_16 rfl (lv_at hl 0 rfl) ?_
  refine lv_iconst (v := 1) hx hb d_Mo_happens_17 (by decide) ?_
  refine lv_isub hx hb d_Mo_happens_18 ?_
  refine kq_fi (y := 0) (by decide) ?_
  refine kq_iald (j := 0) (v := (upd (v_happens_10 un) 2 ((v_happens_10 un) 1)) 0) hx hb hK hP 1 0 rfl rfl (by decide) rfl (kq_in (by decide)) d_Mo_happens_19 ?_
  refine va_iast hx hb hK hP hD hS 1 0 rfl rfl (kq_in (by decide)) d_Mo_happens_20 (fun H locs hP hD hS => ?_)
  have hP : va_P (dC, dI) vwCl [(b0, .inr (8, [.int (mo 0), .ref a1, .ref a2, .ref a3, .ref a4, .ref a5, .ref a6, .ref a7, .int (mo 1), .int (mo 2), .int (mo 3), .int (mo 4), .int (mo 5), .int (mo 6), .int (mo 7), .int (mo 8), .int (mo 9), .int (mo 10), .int (mo 11), .int (mo 12), .int (mo 13), .int (mo 14), .int (mo 15), .int (mo 16), .int (mo 17), .long (ml 0), .ref a8, .ref a9, .int (mo 18), .ref a10, .ref a11, .int (mo 19), .int (mo 20), .int (mo 21), .int (mo 22)])), (a10, .inl (cI, 16, .inl (v_happens_12 un))), (a11, .inl (cI, 16, .inl (upd (v_happens_11 ue) 2 ((v_happens_11 ue) 1))))] H := hP
  have hD : va_D A [(b0, .inr (8, [.int (mo 0), .ref a1, .ref a2, .ref a3, .ref a4, .ref a5, .ref a6, .ref a7, .int (mo 1), .int (mo 2), .int (mo 3), .int (mo 4), .int (mo 5), .int (mo 6), .int (mo 7), .int (mo 8), .int (mo 9), .int (mo 10), .int (mo 11), .int (mo 12), .int (mo 13), .int (mo 14), .int (mo 15), .int (mo 16), .int (mo 17), .long (ml 0), .ref a8, .ref a9, .int (mo 18), .ref a10, .ref a11, .int (mo 19), .int (mo 20), .int (mo 21), .int (mo 22)])), (a10, .inl (cI, 16, .inl (v_happens_12 un))), (a11, .inl (cI, 16, .inl (upd (v_happens_11 ue) 2 ((v_happens_11 ue) 1))))] := hD
  refine lv_aload_n hx hb d_Mo_happens_21 rfl (lv_at hl 1 rfl) ?_
  refine va_get (D := (dC, dI)) (ci := 8) (v := .ref a11) (C := R_Mo) (T := T_Mo) (N := 35) hx hb hts uin_Mo hown hK hP 0 rfl rfl 30 (by decide) (hts _ wd_719) (fun _ h9 => h9) rfl d_Mo_happens_22 ?_
  refine lv_iload_n hx hb d_Mo_happens_25 rfl (lv_at hl 0 rfl) ?_
  refine lv_aload_n hx hb d_Mo_happens_26 rfl (lv_at hl 1 rfl) ?_
  refine va_get (D := (dC, dI)) (ci := 8) (v := .ref a11) (C := R_Mo) (T := T_Mo) (N := 35) hx hb hts uin_Mo hown hK hP 0 rfl rfl 30 (by decide) (hts _ wd_719) (fun _ h9 => h9) rfl d_Mo_happens_27 ?_
  refine lv_iload_n hx hb d_Mo_happens_30 rfl (lv_at hl 0 rfl) ?_
  refine lv_iconst (v := 1) hx hb d_Mo_happens_31 (by decide) ?_
  refine lv_isub hx hb d_Mo_happens_32 ?_
  refine kq_fi (y := 0) (by decide) ?_
  refine kq_iald (j := 0) (v := (upd (v_happens_11 ue) 2 ((v_happens_11 ue) 1)) 0) hx hb hK hP 2 0 rfl rfl (by decide) rfl (kq_in (by decide)) d_Mo_happens_33 ?_
  refine va_iast hx hb hK hP hD hS 2 0 rfl rfl (kq_in (by decide)) d_Mo_happens_34 (fun H locs hP hD hS => ?_)
  have hP : va_P (dC, dI) vwCl [(b0, .inr (8, [.int (mo 0), .ref a1, .ref a2, .ref a3, .ref a4, .ref a5, .ref a6, .ref a7, .int (mo 1), .int (mo 2), .int (mo 3), .int (mo 4), .int (mo 5), .int (mo 6), .int (mo 7), .int (mo 8), .int (mo 9), .int (mo 10), .int (mo 11), .int (mo 12), .int (mo 13), .int (mo 14), .int (mo 15), .int (mo 16), .int (mo 17), .long (ml 0), .ref a8, .ref a9, .int (mo 18), .ref a10, .ref a11, .int (mo 19), .int (mo 20), .int (mo 21), .int (mo 22)])), (a10, .inl (cI, 16, .inl (v_happens_12 un))), (a11, .inl (cI, 16, .inl (v_happens_13 ue)))] H := hP
  have hD : va_D A [(b0, .inr (8, [.int (mo 0), .ref a1, .ref a2, .ref a3, .ref a4, .ref a5, .ref a6, .ref a7, .int (mo 1), .int (mo 2), .int (mo 3), .int (mo 4), .int (mo 5), .int (mo 6), .int (mo 7), .int (mo 8), .int (mo 9), .int (mo 10), .int (mo 11), .int (mo 12), .int (mo 13), .int (mo 14), .int (mo 15), .int (mo 16), .int (mo 17), .long (ml 0), .ref a8, .ref a9, .int (mo 18), .ref a10, .ref a11, .int (mo 19), .int (mo 20), .int (mo 21), .int (mo 22)])), (a10, .inl (cI, 16, .inl (v_happens_12 un))), (a11, .inl (cI, 16, .inl (v_happens_13 ue)))] := hD
  refine lv_iinc (k := 0) (v := 0) (lv' := [(2, .int 0), (0, .ref b0), (1, .int ia)]) hx hb d_Mo_happens_35 hl rfl (by decide) (by decide) rfl (fun ls hl => ?_)
  refine lv_goto (tgt := 3) hx hb d_Mo_happens_38 rfl ?_
  refine lv_iload_n hx hb d_Mo_happens_3 rfl (lv_at hl 0 rfl) ?_
  refine lv_if_le (tgt := 41) hx hb d_Mo_happens_4 rfl (fun _ => ?_) (fun h => absurd h (by decide))
  refine lv_aload_n hx hb d_Mo_happens_41 rfl (lv_at hl 1 rfl) ?_
  refine va_get (D := (dC, dI)) (ci := 8) (v := .ref a10) (C := R_Mo) (T := T_Mo) (N := 35) hx hb hts uin_Mo hown hK hP 0 rfl rfl 29 (by decide) (hts _ wd_718) (fun _ h9 => h9) rfl d_Mo_happens_42 ?_
  refine lv_iconst (v := 0) hx hb d_Mo_happens_45 (by decide) ?_
  refine lv_iload_n hx hb d_Mo_happens_46 rfl (lv_at hl 2 rfl) ?_
  refine va_iast hx hb hK hP hD hS 1 0 rfl rfl (kq_in (by decide)) d_Mo_happens_47 (fun H locs hP hD hS => ?_)
  have hP : va_P (dC, dI) vwCl [(b0, .inr (8, [.int (mo 0), .ref a1, .ref a2, .ref a3, .ref a4, .ref a5, .ref a6, .ref a7, .int (mo 1), .int (mo 2), .int (mo 3), .int (mo 4), .int (mo 5), .int (mo 6), .int (mo 7), .int (mo 8), .int (mo 9), .int (mo 10), .int (mo 11), .int (mo 12), .int (mo 13), .int (mo 14), .int (mo 15), .int (mo 16), .int (mo 17), .long (ml 0), .ref a8, .ref a9, .int (mo 18), .ref a10, .ref a11, .int (mo 19), .int (mo 20), .int (mo 21), .int (mo 22)])), (a10, .inl (cI, 16, .inl (upd (v_happens_12 un) 0 ia))), (a11, .inl (cI, 16, .inl (v_happens_13 ue)))] H := hP
  have hD : va_D A [(b0, .inr (8, [.int (mo 0), .ref a1, .ref a2, .ref a3, .ref a4, .ref a5, .ref a6, .ref a7, .int (mo 1), .int (mo 2), .int (mo 3), .int (mo 4), .int (mo 5), .int (mo 6), .int (mo 7), .int (mo 8), .int (mo 9), .int (mo 10), .int (mo 11), .int (mo 12), .int (mo 13), .int (mo 14), .int (mo 15), .int (mo 16), .int (mo 17), .long (ml 0), .ref a8, .ref a9, .int (mo 18), .ref a10, .ref a11, .int (mo 19), .int (mo 20), .int (mo 21), .int (mo 22)])), (a10, .inl (cI, 16, .inl (upd (v_happens_12 un) 0 ia))), (a11, .inl (cI, 16, .inl (v_happens_13 ue)))] := hD
  refine lv_aload_n hx hb d_Mo_happens_48 rfl (lv_at hl 1 rfl) ?_
  refine va_get (D := (dC, dI)) (ci := 8) (v := .ref a11) (C := R_Mo) (T := T_Mo) (N := 35) hx hb hts uin_Mo hown hK hP 0 rfl rfl 30 (by decide) (hts _ wd_719) (fun _ h9 => h9) rfl d_Mo_happens_49 ?_
  refine lv_iconst (v := 0) hx hb d_Mo_happens_52 (by decide) ?_
  refine lv_aload_n hx hb d_Mo_happens_53 rfl (lv_at hl 1 rfl) ?_
  refine va_get (D := (dC, dI)) (ci := 8) (v := .int (mo 17)) (C := R_Mo) (T := T_Mo) (N := 35) hx hb hts uin_Mo hown hK hP 0 rfl rfl 24 (by decide) (hts _ wd_713) (fun _ h9 => h9) rfl d_Mo_happens_54 ?_
  refine va_iast hx hb hK hP hD hS 2 0 rfl rfl (kq_in (by decide)) d_Mo_happens_57 (fun H locs hP hD hS => ?_)
  have hP : va_P (dC, dI) vwCl [(b0, .inr (8, [.int (mo 0), .ref a1, .ref a2, .ref a3, .ref a4, .ref a5, .ref a6, .ref a7, .int (mo 1), .int (mo 2), .int (mo 3), .int (mo 4), .int (mo 5), .int (mo 6), .int (mo 7), .int (mo 8), .int (mo 9), .int (mo 10), .int (mo 11), .int (mo 12), .int (mo 13), .int (mo 14), .int (mo 15), .int (mo 16), .int (mo 17), .long (ml 0), .ref a8, .ref a9, .int (mo 18), .ref a10, .ref a11, .int (mo 19), .int (mo 20), .int (mo 21), .int (mo 22)])), (a10, .inl (cI, 16, .inl (upd (v_happens_12 un) 0 ia))), (a11, .inl (cI, 16, .inl (upd (v_happens_13 ue) 0 (mo 17))))] H := hP
  have hD : va_D A [(b0, .inr (8, [.int (mo 0), .ref a1, .ref a2, .ref a3, .ref a4, .ref a5, .ref a6, .ref a7, .int (mo 1), .int (mo 2), .int (mo 3), .int (mo 4), .int (mo 5), .int (mo 6), .int (mo 7), .int (mo 8), .int (mo 9), .int (mo 10), .int (mo 11), .int (mo 12), .int (mo 13), .int (mo 14), .int (mo 15), .int (mo 16), .int (mo 17), .long (ml 0), .ref a8, .ref a9, .int (mo 18), .ref a10, .ref a11, .int (mo 19), .int (mo 20), .int (mo 21), .int (mo 22)])), (a10, .inl (cI, 16, .inl (upd (v_happens_12 un) 0 ia))), (a11, .inl (cI, 16, .inl (upd (v_happens_13 ue) 0 (mo 17))))] := hD
  refine lv_aload_n hx hb d_Mo_happens_58 rfl (lv_at hl 1 rfl) ?_
  refine lv_dup hx hb d_Mo_happens_59 rfl ?_
  refine va_get (D := (dC, dI)) (ci := 8) (v := .int (mo 18)) (C := R_Mo) (T := T_Mo) (N := 35) hx hb hts uin_Mo hown hK hP 0 rfl rfl 28 (by decide) (hts _ wd_717) (fun _ h9 => h9) rfl d_Mo_happens_60 ?_
  refine lv_iconst (v := 1) hx hb d_Mo_happens_63 (by decide) ?_
  refine lv_iadd hx hb d_Mo_happens_64 ?_
  refine va_put (D := (dC, dI)) (ci := 8) (v := .int ((mo 18) + 1)) (ty := .int) (C := R_Mo) (T := T_Mo) (N := 35) hx hb hts uin_Mo t_Mo t_Mo_ok n_Mo hown hK hP hD hS 0 rfl rfl 28 (by decide) (hts _ wd_717) (fun _ h9 => h9) rfl (by decide +kernel) rfl rfl (Nat.le_of_ble_eq_true rfl) d_Mo_happens_65 (fun H locs hP hD hS => ?_)
  have hP : va_P (dC, dI) vwCl [(b0, .inr (8, [.int (mo 0), .ref a1, .ref a2, .ref a3, .ref a4, .ref a5, .ref a6, .ref a7, .int (mo 1), .int (mo 2), .int (mo 3), .int (mo 4), .int (mo 5), .int (mo 6), .int (mo 7), .int (mo 8), .int (mo 9), .int (mo 10), .int (mo 11), .int (mo 12), .int (mo 13), .int (mo 14), .int (mo 15), .int (mo 16), .int (mo 17), .long (ml 0), .ref a8, .ref a9, .int ((mo 18) + 1), .ref a10, .ref a11, .int (mo 19), .int (mo 20), .int (mo 21), .int (mo 22)])), (a10, .inl (cI, 16, .inl (upd (v_happens_12 un) 0 ia))), (a11, .inl (cI, 16, .inl (upd (v_happens_13 ue) 0 (mo 17))))] H := hP
  have hD : va_D A [(b0, .inr (8, [.int (mo 0), .ref a1, .ref a2, .ref a3, .ref a4, .ref a5, .ref a6, .ref a7, .int (mo 1), .int (mo 2), .int (mo 3), .int (mo 4), .int (mo 5), .int (mo 6), .int (mo 7), .int (mo 8), .int (mo 9), .int (mo 10), .int (mo 11), .int (mo 12), .int (mo 13), .int (mo 14), .int (mo 15), .int (mo 16), .int (mo 17), .long (ml 0), .ref a8, .ref a9, .int ((mo 18) + 1), .ref a10, .ref a11, .int (mo 19), .int (mo 20), .int (mo 21), .int (mo 22)])), (a10, .inl (cI, 16, .inl (upd (v_happens_12 un) 0 ia))), (a11, .inl (cI, 16, .inl (upd (v_happens_13 ue) 0 (mo 17))))] := hD
  have hP9 := hP.sub (ws' := [(b0, .inr (8, [.int (mo 0), .ref a1, .ref a2, .ref a3, .ref a4, .ref a5, .ref a6, .ref a7, .int (mo 1), .int (mo 2), .int (mo 3), .int (mo 4), .int (mo 5), .int (mo 6), .int (mo 7), .int (mo 8), .int (mo 9), .int (mo 10), .int (mo 11), .int (mo 12), .int (mo 13), .int (mo 14), .int (mo 15), .int (mo 16), .int (mo 17), .long (ml 0), .ref a8, .ref a9, .int ((mo 18) + 1), .ref a10, .ref a11, .int (mo 19), .int (mo 20), .int (mo 21), .int (mo 22)])), (a10, .inl (cI, 16, .inl (upd (v_happens_12 un) 0 ia))), (a11, .inl (cI, 16, .inl (upd (v_happens_13 ue) 0 (mo 17))))]) [0, 1, 2] rfl
  have hD9 := hD.sub (ws' := [(b0, .inr (8, [.int (mo 0), .ref a1, .ref a2, .ref a3, .ref a4, .ref a5, .ref a6, .ref a7, .int (mo 1), .int (mo 2), .int (mo 3), .int (mo 4), .int (mo 5), .int (mo 6), .int (mo 7), .int (mo 8), .int (mo 9), .int (mo 10), .int (mo 11), .int (mo 12), .int (mo 13), .int (mo 14), .int (mo 15), .int (mo 16), .int (mo 17), .long (ml 0), .ref a8, .ref a9, .int ((mo 18) + 1), .ref a10, .ref a11, .int (mo 19), .int (mo 20), .int (mo 21), .int (mo 22)])), (a10, .inl (cI, 16, .inl (upd (v_happens_12 un) 0 ia))), (a11, .inl (cI, 16, .inl (upd (v_happens_13 ue) 0 (mo 17))))]) [0, 1, 2] (by decide) rfl
  have E0 : o_happens_mo mo = uv mo 18 ((mo 18) + 1) := rfl
  have E1 : o_happens_ue mo ue = upd (v_happens_13 ue) 0 (mo 17) := rfl
  have E2 : o_happens_un un ia = upd (v_happens_12 un) 0 ia := rfl
  exact W.vret hx hb hr (fun t ht hW => ⟨⟨(), rfl, trivial, by rw [ht, E0, E1, E2]; exact hP9, va_K.moved hW.alike hK, by rw [E0, E1, E2]; exact hD9⟩, hS.F ht⟩) hS.2.2 d_Mo_happens_68
