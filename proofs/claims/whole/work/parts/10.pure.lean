noncomputable def r_max (ia : Int32) (ib : Int32) : Int32 := if ia < ib then ib else ia
set_option maxHeartbeats 4000000 in
set_option maxRecDepth 100000 in
theorem c_max (l : Launch) (dC : Nat → ClassId) (dI : Nat → Nat → Nat) (ia : Int32) (ib : Int32) : Met l y_Ma_max (wz y_Ma_max b_Ma_max 2 (some .int)) { frames := 0, cells := 0, slots := 0, locals := 0 } (va_Pc [.int ia, .int ib] (fun U => nw U ∧ va_P (dC, dI) vwCl [] U.heap ∧ va_K (dC, dI) vwCl [] U)) (k2_QcV (.int (r_max ia ib))) 0 0 (fun _ => False) := by
  refine va_MetF (cc := b_Ma_max) (maxL := 2) (ret := (some .int)) (by decide +kernel) rfl ?_
  intro p e s m args below meth c s₁ B hml hv
  obtain ⟨rfl, hN, hP, hK⟩ := hv
  have hx := B.exec
  have hb := B.bytes
  have hr := B.returns
  have hts := fun w h => atoms_spec (ws := (wz y_Ma_max b_Ma_max 2 (some .int))) B.pre w (List.mem_cons_of_mem _ h)
  have hown : s.vm.findClass R_Ma = some m.cls := findClass_of_methodNamed B.named
  have hlocks := B.notSynchronized
  have hl := lv_entry ([.int ia, .int ib]) (n := 2) (Nat.le_of_ble_eq_true rfl)
  rw [lg_entry_eq]
  generalize (lg_sl ([.int ia, .int ib]) ++ List.replicate (2 - (lg_sl ([.int ia, .int ib])).length) Slot.unset).toArray = ls at hl ⊢
  have hl : lv_has ls 2 [(0, .int ia), (1, .int ib)] := hl
  refine lv_iload_n hx hb d_Ma_max_0 rfl (lv_at hl 0 rfl) ?_
  refine lv_iload_n hx hb d_Ma_max_1 rfl (lv_at hl 1 rfl) ?_
  refine lv_icmp_lt hx hb (tgt := 9) d_Ma_max_2 rfl (fun h1 => ?_) (fun h1 => ?_)
  · refine lv_iload_n hx hb d_Ma_max_9 rfl (lv_at hl 1 rfl) ?_
    exact W.iret (v := ib) hx hb hr (fun t ht hW => ⟨by rw [(show r_max ia ib = ib from by unfold r_max; rw [if_pos h1])], ht⟩) (fun q hq => by cases hq) d_Ma_max_10
  · refine lv_iload_n hx hb d_Ma_max_5 rfl (lv_at hl 0 rfl) ?_
    refine lv_goto (tgt := 10) hx hb d_Ma_max_6 rfl ?_
    exact W.iret (v := ia) hx hb hr (fun t ht hW => ⟨by rw [(show r_max ia ib = ia from by unfold r_max; rw [if_neg h1])], ht⟩) (fun q hq => by cases hq) d_Ma_max_10
noncomputable def r_min (ia : Int32) (ib : Int32) : Int32 := if ib < ia then ib else ia
set_option maxHeartbeats 4000000 in
set_option maxRecDepth 100000 in
theorem c_min (l : Launch) (dC : Nat → ClassId) (dI : Nat → Nat → Nat) (ia : Int32) (ib : Int32) : Met l y_Ma_min (wz y_Ma_min b_Ma_min 2 (some .int)) { frames := 0, cells := 0, slots := 0, locals := 0 } (va_Pc [.int ia, .int ib] (fun U => nw U ∧ va_P (dC, dI) vwCl [] U.heap ∧ va_K (dC, dI) vwCl [] U)) (k2_QcV (.int (r_min ia ib))) 0 0 (fun _ => False) := by
  refine va_MetF (cc := b_Ma_min) (maxL := 2) (ret := (some .int)) (by decide +kernel) rfl ?_
  intro p e s m args below meth c s₁ B hml hv
  obtain ⟨rfl, hN, hP, hK⟩ := hv
  have hx := B.exec
  have hb := B.bytes
  have hr := B.returns
  have hts := fun w h => atoms_spec (ws := (wz y_Ma_min b_Ma_min 2 (some .int))) B.pre w (List.mem_cons_of_mem _ h)
  have hown : s.vm.findClass R_Ma = some m.cls := findClass_of_methodNamed B.named
  have hlocks := B.notSynchronized
  have hl := lv_entry ([.int ia, .int ib]) (n := 2) (Nat.le_of_ble_eq_true rfl)
  rw [lg_entry_eq]
  generalize (lg_sl ([.int ia, .int ib]) ++ List.replicate (2 - (lg_sl ([.int ia, .int ib])).length) Slot.unset).toArray = ls at hl ⊢
  have hl : lv_has ls 2 [(0, .int ia), (1, .int ib)] := hl
  refine lv_iload_n hx hb d_Ma_min_0 rfl (lv_at hl 0 rfl) ?_
  refine lv_iload_n hx hb d_Ma_min_1 rfl (lv_at hl 1 rfl) ?_
  refine lv_icmp_gt hx hb (tgt := 9) d_Ma_min_2 rfl (fun h1 => ?_) (fun h1 => ?_)
  · refine lv_iload_n hx hb d_Ma_min_9 rfl (lv_at hl 1 rfl) ?_
    exact W.iret (v := ib) hx hb hr (fun t ht hW => ⟨by rw [(show r_min ia ib = ib from by unfold r_min; rw [if_pos h1])], ht⟩) (fun q hq => by cases hq) d_Ma_min_10
  · refine lv_iload_n hx hb d_Ma_min_5 rfl (lv_at hl 0 rfl) ?_
    refine lv_goto (tgt := 10) hx hb d_Ma_min_6 rfl ?_
    exact W.iret (v := ia) hx hb hr (fun t ht hW => ⟨by rw [(show r_min ia ib = ia from by unfold r_min; rw [if_neg h1])], ht⟩) (fun q hq => by cases hq) d_Ma_min_10
noncomputable def r_isWithin (iv : Int32) (ia : Int32) (ib : Int32) : Int32 := if iv < ia then 0 else (if ib < iv then 0 else 1)
theorem z_isWithin (iv : Int32) (ia : Int32) (ib : Int32) : narrow .boolean (.int (r_isWithin iv ia ib)) = .int (r_isWithin iv ia ib) ∧ fits .boolean (.int (r_isWithin iv ia ib)) = true := by
  unfold r_isWithin
  (repeat' split) <;> first | exact ⟨by decide, by decide⟩
set_option maxHeartbeats 4000000 in
set_option maxRecDepth 100000 in
theorem c_isWithin (l : Launch) (dC : Nat → ClassId) (dI : Nat → Nat → Nat) (iv : Int32) (ia : Int32) (ib : Int32) : Met l y_G_isWithin (wz y_G_isWithin b_G_isWithin 3 (some .boolean)) { frames := 0, cells := 0, slots := 0, locals := 0 } (va_Pc [.int iv, .int ia, .int ib] (fun U => nw U ∧ va_P (dC, dI) vwCl [] U.heap ∧ va_K (dC, dI) vwCl [] U)) (k2_QcV (.int (r_isWithin iv ia ib))) 0 0 (fun _ => False) := by
  refine Met.ofW (cc := b_G_isWithin) (maxL := 3) (ret := (some .boolean)) (by decide) rfl ?_
  intro p e s m args below meth c s₁ B hml hv
  obtain ⟨rfl, hN, hP, hK⟩ := hv
  have hx := B.exec
  have hb := B.bytes
  have hr := B.returns
  have hts := fun w h => atoms_spec (ws := (wz y_G_isWithin b_G_isWithin 3 (some .boolean))) B.pre w (List.mem_cons_of_mem _ h)
  have hown : s.vm.findClass R_G = some m.cls := findClass_of_methodNamed B.named
  have hlocks := B.notSynchronized
  have hl := lv_entry ([.int iv, .int ia, .int ib]) (n := 3) (Nat.le_of_ble_eq_true rfl)
  rw [lg_entry_eq]
  generalize (lg_sl ([.int iv, .int ia, .int ib]) ++ List.replicate (3 - (lg_sl ([.int iv, .int ia, .int ib])).length) Slot.unset).toArray = ls at hl ⊢
  have hl : lv_has ls 3 [(0, .int iv), (1, .int ia), (2, .int ib)] := hl
  refine lv_iload_n hx hb d_G_isWithin_0 rfl (lv_at hl 0 rfl) ?_
  refine lv_iload_n hx hb d_G_isWithin_1 rfl (lv_at hl 1 rfl) ?_
  refine lv_icmp_lt hx hb (tgt := 14) d_G_isWithin_2 rfl (fun h1 => ?_) (fun h1 => ?_)
  · refine lv_iconst (v := 0) hx hb d_G_isWithin_14 (by decide) ?_
    exact W.zret (v := 0) hx hb hr (by decide) (fun t ht hW => ⟨by rw [(show r_isWithin iv ia ib = 0 from by unfold r_isWithin; rw [if_pos h1])], ht⟩) (fun q hq => by cases hq) d_G_isWithin_15
  · refine lv_iload_n hx hb d_G_isWithin_5 rfl (lv_at hl 0 rfl) ?_
    refine lv_iload_n hx hb d_G_isWithin_6 rfl (lv_at hl 2 rfl) ?_
    refine lv_icmp_gt hx hb (tgt := 14) d_G_isWithin_7 rfl (fun h2 => ?_) (fun h2 => ?_)
    · refine lv_iconst (v := 0) hx hb d_G_isWithin_14 (by decide) ?_
      exact W.zret (v := 0) hx hb hr (by decide) (fun t ht hW => ⟨by rw [(show r_isWithin iv ia ib = 0 from by unfold r_isWithin; rw [if_neg h1, if_pos h2])], ht⟩) (fun q hq => by cases hq) d_G_isWithin_15
    · refine lv_iconst (v := 1) hx hb d_G_isWithin_10 (by decide) ?_
      refine lv_goto (tgt := 15) hx hb d_G_isWithin_11 rfl ?_
      exact W.zret (v := 1) hx hb hr (by decide) (fun t ht hW => ⟨by rw [(show r_isWithin iv ia ib = 1 from by unfold r_isWithin; rw [if_neg h1, if_neg h2])], ht⟩) (fun q hq => by cases hq) d_G_isWithin_15
noncomputable def r_isSample (iv : Int32) : Int32 := r_isWithin iv (-32768) 32767
theorem z_isSample (iv : Int32) : narrow .boolean (.int (r_isSample iv)) = .int (r_isSample iv) ∧ fits .boolean (.int (r_isSample iv)) = true := by
  unfold r_isSample
  first | exact z_isWithin iv (-32768) 32767
set_option maxHeartbeats 4000000 in
set_option maxRecDepth 100000 in
theorem c_isSample (l : Launch) (dC : Nat → ClassId) (dI : Nat → Nat → Nat) (iv : Int32) : Met l y_G_isSample (wz y_G_isSample b_G_isSample 1 (some .boolean)) { frames := 1, cells := 0, slots := 0, locals := 22 } (va_Pc [.int iv] (fun U => nw U ∧ va_P (dC, dI) vwCl [] U.heap ∧ va_K (dC, dI) vwCl [] U)) (k2_QcV (.int (r_isSample iv))) 0 0 (fun _ => False) := by
  refine Met.ofW (cc := b_G_isSample) (maxL := 1) (ret := (some .boolean)) (by decide) rfl ?_
  intro p e s m args below meth c s₁ B hml hv
  obtain ⟨rfl, hN, hP, hK⟩ := hv
  have hx := B.exec
  have hb := B.bytes
  have hr := B.returns
  have hts := fun w h => atoms_spec (ws := (wz y_G_isSample b_G_isSample 1 (some .boolean))) B.pre w (List.mem_cons_of_mem _ h)
  have hown : s.vm.findClass R_G = some m.cls := findClass_of_methodNamed B.named
  have hlocks := B.notSynchronized
  have hl := lv_entry ([.int iv]) (n := 1) (Nat.le_of_ble_eq_true rfl)
  rw [lg_entry_eq]
  generalize (lg_sl ([.int iv]) ++ List.replicate (1 - (lg_sl ([.int iv])).length) Slot.unset).toArray = ls at hl ⊢
  have hl : lv_has ls 1 [(0, .int iv)] := hl
  refine lv_iload_n hx hb d_G_isSample_0 rfl (lv_at hl 0 rfl) ?_
  refine lv_sipush (v := (-32768)) hx hb d_G_isSample_1 (by decide) ?_
  refine lv_sipush (v := 32767) hx hb d_G_isSample_4 (by decide) ?_
  refine kq_R (r := .int (r_isWithin iv (-32768) 32767)) (va_runS (As := [.int iv, .int (-32768), .int 32767]) (rest := []) ⟨hx, hb, hml, hown, hts⟩ (c_isWithin l dC dI iv (-32768) 32767) (kw_S (n := 3) hts wd_313 wd_314 wd_1 wd_315 rfl rfl (by decide +kernel) ⟨Nat.le_of_ble_eq_true rfl, Nat.le_of_ble_eq_true rfl⟩) (kq_preS hN (hP.sub (ws' := []) [] rfl) (hK.sub (tys' := []) [] rfl)) rfl rfl hl.1 rfl (lv_room (Nat.le_of_ble_eq_true rfl)) d_G_isSample_7 ⟨Nat.le_of_ble_eq_true rfl, Nat.le_of_ble_eq_true rfl⟩) ?_
  exact W.zret (v := r_isWithin iv (-32768) 32767) hx hb hr (z_isWithin iv (-32768) 32767).1 (fun t ht hW => ⟨by rw [(show r_isSample iv = r_isWithin iv (-32768) 32767 from rfl)], ht⟩) (fun q hq => by cases hq) d_G_isSample_10
noncomputable def r_limited (iv : Int32) (ia : Int32) (ib : Int32) : Int32 := r_max ia (r_min ib iv)
set_option maxHeartbeats 4000000 in
set_option maxRecDepth 100000 in
theorem c_limited (l : Launch) (dC : Nat → ClassId) (dI : Nat → Nat → Nat) (iv : Int32) (ia : Int32) (ib : Int32) : Met l y_G_limited (wz y_G_limited b_G_limited 3 (some .int)) { frames := 1, cells := 0, slots := 0, locals := 21 } (va_Pc [.int iv, .int ia, .int ib] (fun U => nw U ∧ va_P (dC, dI) vwCl [] U.heap ∧ va_K (dC, dI) vwCl [] U)) (k2_QcV (.int (r_limited iv ia ib))) 0 0 (fun _ => False) := by
  refine Met.ofW (cc := b_G_limited) (maxL := 3) (ret := (some .int)) (by decide) rfl ?_
  intro p e s m args below meth c s₁ B hml hv
  obtain ⟨rfl, hN, hP, hK⟩ := hv
  have hx := B.exec
  have hb := B.bytes
  have hr := B.returns
  have hts := fun w h => atoms_spec (ws := (wz y_G_limited b_G_limited 3 (some .int))) B.pre w (List.mem_cons_of_mem _ h)
  have hown : s.vm.findClass R_G = some m.cls := findClass_of_methodNamed B.named
  have hlocks := B.notSynchronized
  have hl := lv_entry ([.int iv, .int ia, .int ib]) (n := 3) (Nat.le_of_ble_eq_true rfl)
  rw [lg_entry_eq]
  generalize (lg_sl ([.int iv, .int ia, .int ib]) ++ List.replicate (3 - (lg_sl ([.int iv, .int ia, .int ib])).length) Slot.unset).toArray = ls at hl ⊢
  have hl : lv_has ls 3 [(0, .int iv), (1, .int ia), (2, .int ib)] := hl
  refine lv_iload_n hx hb d_G_limited_0 rfl (lv_at hl 1 rfl) ?_
  refine lv_iload_n hx hb d_G_limited_1 rfl (lv_at hl 2 rfl) ?_
  refine lv_iload_n hx hb d_G_limited_2 rfl (lv_at hl 0 rfl) ?_
  refine kq_R (r := .int (r_min ib iv)) (va_runS (As := [.int ib, .int iv]) (rest := [.int ia]) ⟨hx, hb, hml, hown, hts⟩ (c_min l dC dI ib iv) (kw_S (n := 2) hts wd_504 wd_505 wd_17 wd_506 rfl rfl (by decide +kernel) ⟨Nat.le_of_ble_eq_true rfl, Nat.le_of_ble_eq_true rfl⟩) (kq_preS hN (hP.sub (ws' := []) [] rfl) (hK.sub (tys' := []) [] rfl)) rfl rfl hl.1 rfl (lv_room (Nat.le_of_ble_eq_true rfl)) d_G_limited_3 ⟨Nat.le_of_ble_eq_true rfl, Nat.le_of_ble_eq_true rfl⟩) ?_
  refine kq_R (r := .int (r_max ia (r_min ib iv))) (va_runS (As := [.int ia, .int (r_min ib iv)]) (rest := []) ⟨hx, hb, hml, hown, hts⟩ (c_max l dC dI ia (r_min ib iv)) (kw_S (n := 2) hts wd_507 wd_508 wd_17 wd_509 rfl rfl (by decide +kernel) ⟨Nat.le_of_ble_eq_true rfl, Nat.le_of_ble_eq_true rfl⟩) (kq_preS hN (hP.sub (ws' := []) [] rfl) (hK.sub (tys' := []) [] rfl)) rfl rfl hl.1 rfl (lv_room (Nat.le_of_ble_eq_true rfl)) d_G_limited_6 ⟨Nat.le_of_ble_eq_true rfl, Nat.le_of_ble_eq_true rfl⟩) ?_
  exact W.iret (v := r_max ia (r_min ib iv)) hx hb hr (fun t ht hW => ⟨by rw [(show r_limited iv ia ib = r_max ia (r_min ib iv) from rfl)], ht⟩) (fun q hq => by cases hq) d_G_limited_9
noncomputable def r_asNumber (iv : Int32) : Int32 := if iv = 0 then 0 else 1
set_option maxHeartbeats 4000000 in
set_option maxRecDepth 100000 in
theorem c_asNumber (l : Launch) (dC : Nat → ClassId) (dI : Nat → Nat → Nat) (iv : Int32) : Met l y_G_asNumber (wz y_G_asNumber b_G_asNumber 1 (some .int)) { frames := 0, cells := 0, slots := 0, locals := 0 } (va_Pc [.int iv] (fun U => nw U ∧ va_P (dC, dI) vwCl [] U.heap ∧ va_K (dC, dI) vwCl [] U)) (k2_QcV (.int (r_asNumber iv))) 0 0 (fun _ => False) := by
  refine Met.ofW (cc := b_G_asNumber) (maxL := 1) (ret := (some .int)) (by decide) rfl ?_
  intro p e s m args below meth c s₁ B hml hv
  obtain ⟨rfl, hN, hP, hK⟩ := hv
  have hx := B.exec
  have hb := B.bytes
  have hr := B.returns
  have hts := fun w h => atoms_spec (ws := (wz y_G_asNumber b_G_asNumber 1 (some .int))) B.pre w (List.mem_cons_of_mem _ h)
  have hown : s.vm.findClass R_G = some m.cls := findClass_of_methodNamed B.named
  have hlocks := B.notSynchronized
  have hl := lv_entry ([.int iv]) (n := 1) (Nat.le_of_ble_eq_true rfl)
  rw [lg_entry_eq]
  generalize (lg_sl ([.int iv]) ++ List.replicate (1 - (lg_sl ([.int iv])).length) Slot.unset).toArray = ls at hl ⊢
  have hl : lv_has ls 1 [(0, .int iv)] := hl
  refine lv_iload_n hx hb d_G_asNumber_0 rfl (lv_at hl 0 rfl) ?_
  refine lv_if_eq hx hb (tgt := 8) d_G_asNumber_1 rfl (fun h1 => ?_) (fun h1 => ?_)
  · refine lv_iconst (v := 0) hx hb d_G_asNumber_8 (by decide) ?_
    exact W.iret (v := 0) hx hb hr (fun t ht hW => ⟨by rw [(show r_asNumber iv = 0 from by unfold r_asNumber; rw [if_pos h1])], ht⟩) (fun q hq => by cases hq) d_G_asNumber_9
  · refine lv_iconst (v := 1) hx hb d_G_asNumber_4 (by decide) ?_
    refine lv_goto (tgt := 9) hx hb d_G_asNumber_5 rfl ?_
    exact W.iret (v := 1) hx hb hr (fun t ht hW => ⟨by rw [(show r_asNumber iv = 1 from by unfold r_asNumber; rw [if_neg h1])], ht⟩) (fun q hq => by cases hq) d_G_asNumber_9
noncomputable def v_sine_0 (iw : Int32) : Int32 := (iw.toUInt32 >>> ((16 : Int32).toUInt32 &&& Int32.toUInt32 31)).toInt32
noncomputable def v_sine_1 (iw : Int32) : Int32 := (((v_sine_0 iw) &&& 32767) * (32768 - ((v_sine_0 iw) &&& 32767))) / 16384
noncomputable def r_sine (iw : Int32) : Int32 := if 0 ≤ iw then v_sine_1 iw else -(v_sine_1 iw)
set_option maxHeartbeats 4000000 in
set_option maxRecDepth 100000 in
theorem c_sine (l : Launch) (dC : Nat → ClassId) (dI : Nat → Nat → Nat) (iw : Int32) : Met l y_G_sine (wz y_G_sine b_G_sine 3 (some .int)) { frames := 0, cells := 0, slots := 0, locals := 0 } (va_Pc [.int iw] (fun U => nw U ∧ va_P (dC, dI) vwCl [] U.heap ∧ va_K (dC, dI) vwCl [] U)) (k2_QcV (.int (r_sine iw))) 0 0 (fun _ => False) := by
  refine Met.ofW (cc := b_G_sine) (maxL := 3) (ret := (some .int)) (by decide) rfl ?_
  intro p e s m args below meth c s₁ B hml hv
  obtain ⟨rfl, hN, hP, hK⟩ := hv
  have hx := B.exec
  have hb := B.bytes
  have hr := B.returns
  have hts := fun w h => atoms_spec (ws := (wz y_G_sine b_G_sine 3 (some .int))) B.pre w (List.mem_cons_of_mem _ h)
  have hown : s.vm.findClass R_G = some m.cls := findClass_of_methodNamed B.named
  have hlocks := B.notSynchronized
  have hl := lv_entry ([.int iw]) (n := 3) (Nat.le_of_ble_eq_true rfl)
  rw [lg_entry_eq]
  generalize (lg_sl ([.int iw]) ++ List.replicate (3 - (lg_sl ([.int iw])).length) Slot.unset).toArray = ls at hl ⊢
  have hl : lv_has ls 3 [(0, .int iw)] := hl
  refine lv_iload_n hx hb d_G_sine_0 rfl (lv_at hl 0 rfl) ?_
  refine lv_bipush (v := 16) hx hb d_G_sine_1 (by decide) ?_
  refine lv_iushr hx hb d_G_sine_3 rfl ?_
  refine kq_fi (y := v_sine_0 iw) rfl ?_
  refine lv_sipush (v := 32767) hx hb d_G_sine_4 (by decide) ?_
  refine lv_iand hx hb d_G_sine_7 ?_
  refine lv_istore_n (lv' := [(1, .int ((v_sine_0 iw) &&& 32767)), (0, .int iw)]) hx hb d_G_sine_8 rfl hl (by decide) rfl (fun ls hl => ?_)
  refine lv_iload_n hx hb d_G_sine_9 rfl (lv_at hl 0 rfl) ?_
  refine lv_ldcw (v := 32768) hx hb hown (hts _ wd_497) d_G_sine_10 ?_
  refine lv_iload_n hx hb d_G_sine_13 rfl (lv_at hl 0 rfl) ?_
  refine lv_isub hx hb d_G_sine_14 ?_
  refine lv_imul hx hb d_G_sine_15 ?_
  refine lv_sipush (v := 16384) hx hb d_G_sine_16 (by decide) ?_
  refine lv_idiv hx hb d_G_sine_19 (by decide) ?_
  refine kq_fi (y := v_sine_1 iw) rfl ?_
  refine lv_istore_n (lv' := [(2, .int (v_sine_1 iw)), (1, .int ((v_sine_0 iw) &&& 32767)), (0, .int iw)]) hx hb d_G_sine_20 rfl hl (by decide) rfl (fun ls hl => ?_)
  refine lv_iload_n hx hb d_G_sine_21 rfl (lv_at hl 2 rfl) ?_
  refine lv_if_ge hx hb (tgt := 30) d_G_sine_22 rfl (fun h1 => ?_) (fun h1 => ?_)
  · refine lv_iload_n hx hb d_G_sine_30 rfl (lv_at hl 0 rfl) ?_
    exact W.iret (v := v_sine_1 iw) hx hb hr (fun t ht hW => ⟨by rw [(show r_sine iw = v_sine_1 iw from by unfold r_sine; rw [if_pos h1])], ht⟩) (fun q hq => by cases hq) d_G_sine_31
  · refine lv_iload_n hx hb d_G_sine_25 rfl (lv_at hl 0 rfl) ?_
    refine lv_ineg hx hb d_G_sine_26 ?_
    refine lv_goto (tgt := 31) hx hb d_G_sine_27 rfl ?_
    exact W.iret (v := -(v_sine_1 iw)) hx hb hr (fun t ht hW => ⟨by rw [(show r_sine iw = -(v_sine_1 iw) from by unfold r_sine; rw [if_neg h1])], ht⟩) (fun q hq => by cases hq) d_G_sine_31
noncomputable def r_cosine (iw : Int32) : Int32 := r_sine (iw + 1073741824)
set_option maxHeartbeats 4000000 in
set_option maxRecDepth 100000 in
theorem c_cosine (l : Launch) (dC : Nat → ClassId) (dI : Nat → Nat → Nat) (iw : Int32) : Met l y_G_cosine (wz y_G_cosine b_G_cosine 1 (some .int)) { frames := 1, cells := 0, slots := 0, locals := 22 } (va_Pc [.int iw] (fun U => nw U ∧ va_P (dC, dI) vwCl [] U.heap ∧ va_K (dC, dI) vwCl [] U)) (k2_QcV (.int (r_cosine iw))) 0 0 (fun _ => False) := by
  refine Met.ofW (cc := b_G_cosine) (maxL := 1) (ret := (some .int)) (by decide) rfl ?_
  intro p e s m args below meth c s₁ B hml hv
  obtain ⟨rfl, hN, hP, hK⟩ := hv
  have hx := B.exec
  have hb := B.bytes
  have hr := B.returns
  have hts := fun w h => atoms_spec (ws := (wz y_G_cosine b_G_cosine 1 (some .int))) B.pre w (List.mem_cons_of_mem _ h)
  have hown : s.vm.findClass R_G = some m.cls := findClass_of_methodNamed B.named
  have hlocks := B.notSynchronized
  have hl := lv_entry ([.int iw]) (n := 1) (Nat.le_of_ble_eq_true rfl)
  rw [lg_entry_eq]
  generalize (lg_sl ([.int iw]) ++ List.replicate (1 - (lg_sl ([.int iw])).length) Slot.unset).toArray = ls at hl ⊢
  have hl : lv_has ls 1 [(0, .int iw)] := hl
  refine lv_iload_n hx hb d_G_cosine_0 rfl (lv_at hl 0 rfl) ?_
  refine lv_ldcw (v := 1073741824) hx hb hown (hts _ wd_493) d_G_cosine_1 ?_
  refine lv_iadd hx hb d_G_cosine_4 ?_
  refine kq_R (r := .int (r_sine (iw + 1073741824))) (va_runS (As := [.int (iw + 1073741824)]) (rest := []) ⟨hx, hb, hml, hown, hts⟩ (c_sine l dC dI (iw + 1073741824)) (kw_S (n := 1) hts wd_494 wd_495 wd_1 wd_496 rfl rfl (by decide +kernel) ⟨Nat.le_of_ble_eq_true rfl, Nat.le_of_ble_eq_true rfl⟩) (kq_preS hN (hP.sub (ws' := []) [] rfl) (hK.sub (tys' := []) [] rfl)) rfl rfl hl.1 rfl (lv_room (Nat.le_of_ble_eq_true rfl)) d_G_cosine_5 ⟨Nat.le_of_ble_eq_true rfl, Nat.le_of_ble_eq_true rfl⟩) ?_
  exact W.iret (v := r_sine (iw + 1073741824)) hx hb hr (fun t ht hW => ⟨by rw [(show r_cosine iw = r_sine (iw + 1073741824) from rfl)], ht⟩) (fun q hq => by cases hq) d_G_cosine_8
noncomputable def r_meanF (ls0 : Int64) : Int32 := ((ls0 * 10000000) / 137438953472).toInt32
set_option maxHeartbeats 4000000 in
set_option maxRecDepth 100000 in
theorem c_meanF (l : Launch) (dC : Nat → ClassId) (dI : Nat → Nat → Nat) (ls0 : Int64) : Met l y_Lo_meanFrequency (wz y_Lo_meanFrequency b_Lo_meanFrequency 2 (some .int)) { frames := 0, cells := 0, slots := 0, locals := 0 } (va_Pc [.long ls0] (fun U => nw U ∧ va_P (dC, dI) vwCl [] U.heap ∧ va_K (dC, dI) vwCl [] U)) (k2_QcV (.int (r_meanF ls0))) 0 0 (fun _ => False) := by
  refine Met.ofW (cc := b_Lo_meanFrequency) (maxL := 2) (ret := (some .int)) (by decide) rfl ?_
  intro p e s m args below meth c s₁ B hml hv
  obtain ⟨rfl, hN, hP, hK⟩ := hv
  have hx := B.exec
  have hb := B.bytes
  have hr := B.returns
  have hts := fun w h => atoms_spec (ws := (wz y_Lo_meanFrequency b_Lo_meanFrequency 2 (some .int))) B.pre w (List.mem_cons_of_mem _ h)
  have hown : s.vm.findClass R_Lo = some m.cls := findClass_of_methodNamed B.named
  have hlocks := B.notSynchronized
  have hl := lv_entry ([.long ls0]) (n := 2) (Nat.le_of_ble_eq_true rfl)
  rw [lg_entry_eq]
  generalize (lg_sl ([.long ls0]) ++ List.replicate (2 - (lg_sl ([.long ls0])).length) Slot.unset).toArray = ls at hl ⊢
  have hl : lv_has ls 2 [(0, .long ls0)] := hl
  refine lv_lload_n hx hb d_Lo_meanFrequency_0 rfl (lv_at hl 0 rfl) ?_
  refine lv_ldc2 (v := 10000000) hx hb hown (hts _ wd_49) d_Lo_meanFrequency_1 ?_
  refine lv_lmul hx hb d_Lo_meanFrequency_4 ?_
  refine lv_ldc2 (v := 137438953472) hx hb hown (hts _ wd_50) d_Lo_meanFrequency_5 ?_
  refine lv_ldiv hx hb d_Lo_meanFrequency_8 (by decide) ?_
  refine lv_l2i hx hb d_Lo_meanFrequency_9 rfl ?_
  exact W.iret (v := ((ls0 * 10000000) / 137438953472).toInt32) hx hb hr (fun t ht hW => ⟨by rw [(show r_meanF ls0 = ((ls0 * 10000000) / 137438953472).toInt32 from rfl)], ht⟩) (fun q hq => by cases hq) d_Lo_meanFrequency_10
