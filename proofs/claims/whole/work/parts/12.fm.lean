noncomputable def r_floorMod (ia : Int32) (ib : Int32) : Int32 := if 0 ≤ (ia ^^^ ib) then ia - ia / ib * ib else (if (ia - ia / ib * ib) = 0 then ia - ia / ib * ib else (ia - ia / ib * ib) + ib)
set_option maxHeartbeats 4000000 in
set_option maxRecDepth 100000 in
theorem c_floorMod (l : Launch) (dC : Nat → ClassId) (dI : Nat → Nat → Nat) (ia : Int32) (ib : Int32) (hy0 : ¬ ib = 0) : Met l y_Ma_floorMod (wz y_Ma_floorMod b_Ma_floorMod 3 (some .int)) { frames := 0, cells := 0, slots := 0, locals := 0 } (va_Pc [.int ia, .int ib] (fun U => nw U ∧ va_P (dC, dI) vwCl [] U.heap ∧ va_K (dC, dI) vwCl [] U)) (k2_QcV (.int (r_floorMod ia ib))) 0 0 (fun _ => False) := by
  refine va_MetF (cc := b_Ma_floorMod) (maxL := 3) (ret := (some .int)) (by decide +kernel) rfl ?_
  intro p e s m args below meth c s₁ B hml hv
  obtain ⟨rfl, hN, hP, hK⟩ := hv
  have hx := B.exec
  have hb := B.bytes
  have hr := B.returns
  have hts := fun w h => atoms_spec (ws := (wz y_Ma_floorMod b_Ma_floorMod 3 (some .int))) B.pre w (List.mem_cons_of_mem _ h)
  have hown : s.vm.findClass R_Ma = some m.cls := findClass_of_methodNamed B.named
  have hlocks := B.notSynchronized
  have hl := lv_entry ([.int ia, .int ib]) (n := 3) (Nat.le_of_ble_eq_true rfl)
  rw [lg_entry_eq]
  generalize (lg_sl ([.int ia, .int ib]) ++ List.replicate (3 - (lg_sl ([.int ia, .int ib])).length) Slot.unset).toArray = ls at hl ⊢
  have hl : lv_has ls 3 [(0, .int ia), (1, .int ib)] := hl
  refine lv_iload_n hx hb d_Ma_floorMod_0 rfl (lv_at hl 0 rfl) ?_
  refine lv_iload_n hx hb d_Ma_floorMod_1 rfl (lv_at hl 1 rfl) ?_
  refine lv_irem hx hb d_Ma_floorMod_2 hy0 ?_
  refine lv_istore_n (lv' := [(2, .int (ia - ia / ib * ib)), (0, .int ia), (1, .int ib)]) hx hb d_Ma_floorMod_3 rfl hl (by decide) rfl (fun ls hl => ?_)
  refine lv_iload_n hx hb d_Ma_floorMod_4 rfl (lv_at hl 1 rfl) ?_
  refine lv_iload_n hx hb d_Ma_floorMod_5 rfl (lv_at hl 2 rfl) ?_
  refine lv_ixor hx hb d_Ma_floorMod_6 ?_
  refine lv_if_ge hx hb (tgt := 18) d_Ma_floorMod_7 rfl (fun h1 => ?_) (fun h1 => ?_)
  · refine lv_iload_n hx hb d_Ma_floorMod_18 rfl (lv_at hl 0 rfl) ?_
    exact W.iret (v := ia - ia / ib * ib) hx hb hr (fun t ht hW => ⟨by rw [(show r_floorMod ia ib = ia - ia / ib * ib from by unfold r_floorMod; rw [if_pos h1])], ht⟩) (fun q hq => by cases hq) d_Ma_floorMod_19
  · refine lv_iload_n hx hb d_Ma_floorMod_10 rfl (lv_at hl 0 rfl) ?_
    refine lv_if_eq hx hb (tgt := 18) d_Ma_floorMod_11 rfl (fun h2 => ?_) (fun h2 => ?_)
    · refine lv_iload_n hx hb d_Ma_floorMod_18 rfl (lv_at hl 0 rfl) ?_
      exact W.iret (v := ia - ia / ib * ib) hx hb hr (fun t ht hW => ⟨by rw [(show r_floorMod ia ib = ia - ia / ib * ib from by unfold r_floorMod; rw [if_neg h1, if_pos h2])], ht⟩) (fun q hq => by cases hq) d_Ma_floorMod_19
    · refine lv_iload_n hx hb d_Ma_floorMod_14 rfl (lv_at hl 0 rfl) ?_
      refine lv_iload_n hx hb d_Ma_floorMod_15 rfl (lv_at hl 2 rfl) ?_
      refine lv_iadd hx hb d_Ma_floorMod_16 ?_
      exact W.iret (v := (ia - ia / ib * ib) + ib) hx hb hr (fun t ht hW => ⟨by rw [(show r_floorMod ia ib = (ia - ia / ib * ib) + ib from by unfold r_floorMod; rw [if_neg h1, if_neg h2])], ht⟩) (fun q hq => by cases hq) d_Ma_floorMod_17
noncomputable def r_placeOf (ia : Int32) : Int32 := r_floorMod ia 16
set_option maxHeartbeats 4000000 in
set_option maxRecDepth 100000 in
theorem c_placeOf (l : Launch) (dC : Nat → ClassId) (dI : Nat → Nat → Nat) (ia : Int32) : Met l y_Ev_placeOf (wz y_Ev_placeOf b_Ev_placeOf 1 (some .int)) { frames := 1, cells := 0, slots := 0, locals := 22 } (va_Pc [.int ia] (fun U => nw U ∧ va_P (dC, dI) vwCl [] U.heap ∧ va_K (dC, dI) vwCl [] U)) (k2_QcV (.int (r_placeOf ia))) 0 0 (fun _ => False) := by
  refine Met.ofW (cc := b_Ev_placeOf) (maxL := 1) (ret := (some .int)) (by decide) rfl ?_
  intro p e s m args below meth c s₁ B hml hv
  obtain ⟨rfl, hN, hP, hK⟩ := hv
  have hx := B.exec
  have hb := B.bytes
  have hr := B.returns
  have hts := fun w h => atoms_spec (ws := (wz y_Ev_placeOf b_Ev_placeOf 1 (some .int))) B.pre w (List.mem_cons_of_mem _ h)
  have hown : s.vm.findClass R_Ev = some m.cls := findClass_of_methodNamed B.named
  have hlocks := B.notSynchronized
  have hl := lv_entry ([.int ia]) (n := 1) (Nat.le_of_ble_eq_true rfl)
  rw [lg_entry_eq]
  generalize (lg_sl ([.int ia]) ++ List.replicate (1 - (lg_sl ([.int ia])).length) Slot.unset).toArray = ls at hl ⊢
  have hl : lv_has ls 1 [(0, .int ia)] := hl
  refine lv_iload_n hx hb d_Ev_placeOf_0 rfl (lv_at hl 0 rfl) ?_
  refine lv_bipush (v := 16) hx hb d_Ev_placeOf_1 (by decide) ?_
  refine kq_R (r := .int (r_floorMod ia 16)) (va_runS (As := [.int ia, .int 16]) (rest := []) ⟨hx, hb, hml, hown, hts⟩ (c_floorMod l dC dI ia 16 (by decide)) (kw_S (n := 2) hts wd_288 wd_289 wd_17 wd_290 rfl rfl (by decide +kernel) ⟨Nat.le_of_ble_eq_true rfl, Nat.le_of_ble_eq_true rfl⟩) (kq_preS hN (hP.sub (ws' := []) [] rfl) (hK.sub (tys' := []) [] rfl)) rfl rfl hl.1 rfl (lv_room (Nat.le_of_ble_eq_true rfl)) d_Ev_placeOf_3 ⟨Nat.le_of_ble_eq_true rfl, Nat.le_of_ble_eq_true rfl⟩) ?_
  exact W.iret (v := r_floorMod ia 16) hx hb hr (fun t ht hW => ⟨by rw [(show r_placeOf ia = r_floorMod ia 16 from rfl)], ht⟩) (fun q hq => by cases hq) d_Ev_placeOf_6
theorem pu_msb (y : Int32) : 0 ≤ y ↔ y.toBitVec.msb = false := by
  rw [Int32.le_iff_toInt_le]
  show (0 : Int) ≤ y.toBitVec.toInt ↔ _
  rw [BitVec.msb_eq_toInt]
  simp
theorem pu_x16 (x : Int32) : 0 ≤ (x ^^^ 16) ↔ 0 ≤ x := by
  rw [pu_msb, pu_msb]
  have e : (x ^^^ 16).toBitVec = x.toBitVec ^^^ (16 : Int32).toBitVec := rfl
  have e2 : (16 : Int32).toBitVec.msb = false := by decide
  rw [e, BitVec.msb_xor, e2]
  simp
theorem pu_nn {x : Int32} (h : 0 ≤ x) : 0 ≤ x.toInt := by
  have := Int32.le_iff_toInt_le.mp h
  rwa [Int32.toInt_zero] at this
theorem pu_ng {x : Int32} (h : ¬ 0 ≤ x) : x.toInt < 0 := by
  have h1 : ¬ (0 : Int32).toInt ≤ x.toInt := mt Int32.le_iff_toInt_le.mpr h
  rw [Int32.toInt_zero] at h1
  omega
theorem pu_tneg (a : Int) (h : a < 0) : a.tmod 16 = -((-a) % 16) := by
  have e : a.tmod 16 = -((-a).tmod 16) := by rw [Int.neg_tmod, Int.neg_neg]
  rw [e, Int.tmod_eq_emod_of_nonneg (by omega)]
theorem pu_floorMod (x : Int32) : (r_placeOf x).toInt = x.toInt % 16 := by
  have hm : (x - x / 16 * 16).toInt = x.toInt.tmod 16 := rem_toInt x 16
  unfold r_placeOf r_floorMod
  split
  · rename_i h
    have h0 := pu_nn ((pu_x16 x).mp h)
    rw [hm, Int.tmod_eq_emod_of_nonneg h0]
  · rename_i h
    have h0 : x.toInt < 0 := pu_ng (fun q => h ((pu_x16 x).mpr q))
    have ht := pu_tneg _ h0
    split
    · rename_i h2
      rw [h2] at hm
      rw [h2]
      have z : (0 : Int32).toInt = 0 := Int32.toInt_zero
      rw [z] at hm ⊢
      omega
    · rename_i h2
      have hne : x.toInt.tmod 16 ≠ 0 := fun q => h2 (Int32.toInt_inj.mp (by rw [hm, q]; rfl))
      have e16 : (16 : Int32).toInt = 16 := by decide
      rw [Jvm.Kit.i32_add (by rw [hm, e16]; omega) (by rw [hm, e16]; omega), hm, e16]
      omega
theorem placeOf_in (x : Int32) : vp_in (r_placeOf x) 16 := by
  rw [vp_in_iff, pu_floorMod]
  omega
