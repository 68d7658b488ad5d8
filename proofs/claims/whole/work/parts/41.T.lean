set_option maxHeartbeats 4000000 in
set_option maxRecDepth 100000 in
theorem t_refuseT (l : Launch) (hl0 : l.stackTraces = false) (dC : Nat → ClassId) (dI : Nat → Nat → Nat) (b0 : Nat) (ba : Nat) (bl : Nat) (bq : Nat) (bk : Nat) (bd : Nat) (bo : Nat) (be : Nat) (gz : Nat → Int32) (gl : Nat → Int64) (ko : Nat → Int32) (ha4 : ¬ (ko 2) = 0) : te_Met l y_G_refuseWhenOnIsWished (wz y_G_refuseWhenOnIsWished b_G_refuseWhenOnIsWished 1 none) { frames := 6, cells := 1, slots := 6, locals := 82 } (va_Pc [.ref b0] (fun U => nw U ∧ va_P (dC, dI) vwCl [(b0, .inr (0, [.ref ba, .ref bl, .ref bq, .ref bk, .ref bd, .ref bo, .ref be, .int (gz 0), .int (gz 1), .long (gl 0)])), (bk, .inr (4, [.int (ko 0), .int (ko 1), .int (ko 2), .int (ko 3), .int (ko 4), .int (ko 5)]))] U.heap ∧ va_K (dC, dI) vwCl [] U ∧ te_Ok U)) XS 1 6 := by
  refine te_ofW (cc := b_G_refuseWhenOnIsWished) (maxL := 1) (ret := none) (by decide) rfl ?_
  intro p e s m args below meth c s₁ B hml hv
  obtain ⟨rfl, hN, hP, hK, hT⟩ := hv
  have hx := B.exec
  have hb := B.bytes
  have hr := B.returns
  have hts := fun w h => atoms_spec (ws := (wz y_G_refuseWhenOnIsWished b_G_refuseWhenOnIsWished 1 none)) B.pre w (List.mem_cons_of_mem _ h)
  have hown : s.vm.findClass R_G = some m.cls := findClass_of_methodNamed B.named
  have hlocks := B.notSynchronized
  have hnoh : c.exceptionTable.isEmpty = true := B.noHandlers (atoms_spec (ws := (wz y_G_refuseWhenOnIsWished b_G_refuseWhenOnIsWished 1 none)) B.pre _ List.mem_cons_self)
  obtain ⟨⟨t1, hZ1, hX1⟩, ⟨t2, hZ2, hX2⟩, t3, hZ3, hX3⟩ := hT.2.2.2.2
  have hl := lv_entry ([.ref b0]) (n := 1) (Nat.le_of_ble_eq_true rfl)
  rw [lg_entry_eq]
  generalize (lg_sl ([.ref b0]) ++ List.replicate (1 - (lg_sl ([.ref b0])).length) Slot.unset).toArray = ls at hl ⊢
  have hl : lv_has ls 1 [(0, .ref b0)] := hl
  refine lv_aload_n hx hb d_G_refuseWhenOnIsWished_0 rfl (lv_at hl 0 rfl) ?_
  refine va_get (D := (dC, dI)) (ci := 0) (v := .ref bk) (C := R_G) (T := T_G) (N := 10) hx hb hts uin_G hown hK hP 0 rfl rfl 3 (by decide) (hts _ wd_229) (fun _ h9 => h9) rfl d_G_refuseWhenOnIsWished_1 ?_
  refine va_getN (D := (dC, dI)) (ci := 4) (v := .int (ko 2)) (C := R_Ko) (T := T_Ko) (N := 6) hx hb hts uin_Ko hown hK hP 1 rfl rfl 2 (by decide) (nw_use hN wd_142) (fun _ h9 => h9) rfl d_G_refuseWhenOnIsWished_4 ?_
  refine lv_if_eq hx hb (tgt := 20) d_G_refuseWhenOnIsWished_7 rfl (fun h => absurd h ha4) (fun _ => ?_)
  exact te_throw (X := XS) (names := te_up) hx hb hl0 (hml.trans hl.1.symm) hown te_fitS te_fitU (te_ow hts hN hT te_owS) (hts _ wd_408) (hts _ wd_16) (te_str hT wt_417) hnoh hlocks (Nat.le_refl _) d_G_refuseWhenOnIsWished_10 d_G_refuseWhenOnIsWished_13 d_G_refuseWhenOnIsWished_14 d_G_refuseWhenOnIsWished_16 d_G_refuseWhenOnIsWished_19 (Nat.le_of_ble_eq_true rfl) (Nat.le_of_ble_eq_true rfl) (Nat.le_of_ble_eq_true rfl) (Nat.le_of_ble_eq_true rfl)
set_option maxHeartbeats 4000000 in
set_option maxRecDepth 100000 in
theorem t_setT1 (l : Launch) (hl0 : l.stackTraces = false) (dC : Nat → ClassId) (dI : Nat → Nat → Nat) (b0 : Nat) (ba : Nat) (bl : Nat) (bq : Nat) (bk : Nat) (bd : Nat) (bo : Nat) (be : Nat) (cI : ClassId) (gz : Nat → Int32) (gl : Nat → Int64) (se : Nat → Int32) (ko : Nat → Int32) (ia : Int32) (ib : Int32) (ha0 : (r_isWithin ia 0 11) = 0) : te_Met l y_G_set (wz y_G_set b_G_set 4 (some .int)) { frames := 6, cells := 1, slots := 6, locals := 82 } (va_Pc [.ref b0, .int ia, .int ib] (fun U => nw U ∧ va_P (dC, dI) vwCl [(b0, .inr (0, [.ref ba, .ref bl, .ref bq, .ref bk, .ref bd, .ref bo, .ref be, .int (gz 0), .int (gz 1), .long (gl 0)])), (ba, .inl (cI, 12, .inl se)), (bk, .inr (4, [.int (ko 0), .int (ko 1), .int (ko 2), .int (ko 3), .int (ko 4), .int (ko 5)]))] U.heap ∧ va_K (dC, dI) vwCl [(cI, .int)] U ∧ te_Ok U)) XI 1 6 := by
  refine te_ofW (cc := b_G_set) (maxL := 4) (ret := (some .int)) (by decide) rfl ?_
  intro p e s m args below meth c s₁ B hml hv
  obtain ⟨rfl, hN, hP, hK, hT⟩ := hv
  have hx := B.exec
  have hb := B.bytes
  have hr := B.returns
  have hts := fun w h => atoms_spec (ws := (wz y_G_set b_G_set 4 (some .int))) B.pre w (List.mem_cons_of_mem _ h)
  have hown : s.vm.findClass R_G = some m.cls := findClass_of_methodNamed B.named
  have hlocks := B.notSynchronized
  have hnoh : c.exceptionTable.isEmpty = true := B.noHandlers (atoms_spec (ws := (wz y_G_set b_G_set 4 (some .int))) B.pre _ List.mem_cons_self)
  obtain ⟨⟨t1, hZ1, hX1⟩, ⟨t2, hZ2, hX2⟩, t3, hZ3, hX3⟩ := hT.2.2.2.2
  have hl := lv_entry ([.ref b0, .int ia, .int ib]) (n := 4) (Nat.le_of_ble_eq_true rfl)
  rw [lg_entry_eq]
  generalize (lg_sl ([.ref b0, .int ia, .int ib]) ++ List.replicate (4 - (lg_sl ([.ref b0, .int ia, .int ib])).length) Slot.unset).toArray = ls at hl ⊢
  have hl : lv_has ls 4 [(0, .ref b0), (1, .int ia), (2, .int ib)] := hl
  refine lv_iload_n hx hb d_G_set_0 rfl (lv_at hl 1 rfl) ?_
  refine lv_iconst (v := 0) hx hb d_G_set_1 (by decide) ?_
  refine lv_aload_n hx hb d_G_set_2 rfl (lv_at hl 0 rfl) ?_
  refine va_get (D := (dC, dI)) (ci := 0) (v := .ref ba) (C := R_G) (T := T_G) (N := 10) hx hb hts uin_G hown hK hP 0 rfl rfl 0 (by decide) (hts _ wd_226) (fun _ h9 => h9) rfl d_G_set_3 ?_
  refine va_alen (v := 12) hx hb hK hP 1 0 rfl rfl (show Int32.ofNat 12 = 12 by decide) d_G_set_6 ?_
  refine lv_iconst (v := 1) hx hb d_G_set_7 (by decide) ?_
  refine lv_isub hx hb d_G_set_8 ?_
  refine kq_fi (y := 11) (by decide) ?_
  refine kq_R (r := .int (r_isWithin ia 0 11)) (va_runS (As := [.int ia, .int 0, .int 11]) (rest := []) ⟨hx, hb, hml, hown, hts⟩ (c_isWithin l dC dI ia 0 11) (kw_S (n := 3) hts wd_313 wd_314 wd_1 wd_315 rfl rfl (by decide +kernel) ⟨Nat.le_of_ble_eq_true rfl, Nat.le_of_ble_eq_true rfl⟩) (kq_preS hN (hP.sub (ws' := []) [] rfl) (hK.sub (tys' := []) [] rfl)) rfl rfl hl.1 rfl (lv_room (Nat.le_of_ble_eq_true rfl)) d_G_set_9 ⟨Nat.le_of_ble_eq_true rfl, Nat.le_of_ble_eq_true rfl⟩) ?_
  refine lv_if_ne hx hb (tgt := 25) d_G_set_12 rfl (fun h => absurd ha0 h) (fun _ => ?_)
  exact te_throw (X := XI) (names := te_up) hx hb hl0 (hml.trans hl.1.symm) hown te_fitI te_fitU (te_ow hts hN hT te_owI) (hts _ wd_316) (hts _ wd_14) (te_str hT wt_357) hnoh hlocks (Nat.le_refl _) d_G_set_15 d_G_set_18 d_G_set_19 d_G_set_21 d_G_set_24 (Nat.le_of_ble_eq_true rfl) (Nat.le_of_ble_eq_true rfl) (Nat.le_of_ble_eq_true rfl) (Nat.le_of_ble_eq_true rfl)
set_option maxHeartbeats 4000000 in
set_option maxRecDepth 100000 in
theorem t_setT2 (l : Launch) (hl0 : l.stackTraces = false) (dC : Nat → ClassId) (dI : Nat → Nat → Nat) (b0 : Nat) (ba : Nat) (bl : Nat) (bq : Nat) (bk : Nat) (bd : Nat) (bo : Nat) (be : Nat) (cI : ClassId) (gz : Nat → Int32) (gl : Nat → Int64) (se : Nat → Int32) (ko : Nat → Int32) (ia : Int32) (ib : Int32) (ha0 : ¬ (r_isWithin ia 0 11) = 0) (ha1 : (r_isWithin ib (leastV ia.toNatClampNeg) (greatV ia.toNatClampNeg)) = 0) : te_Met l y_G_set (wz y_G_set b_G_set 4 (some .int)) { frames := 6, cells := 1, slots := 6, locals := 82 } (va_Pc [.ref b0, .int ia, .int ib] (fun U => nw U ∧ va_P (dC, dI) vwCl [(b0, .inr (0, [.ref ba, .ref bl, .ref bq, .ref bk, .ref bd, .ref bo, .ref be, .int (gz 0), .int (gz 1), .long (gl 0)])), (ba, .inl (cI, 12, .inl se)), (bk, .inr (4, [.int (ko 0), .int (ko 1), .int (ko 2), .int (ko 3), .int (ko 4), .int (ko 5)]))] U.heap ∧ va_K (dC, dI) vwCl [(cI, .int)] U ∧ te_Ok U)) XA 1 6 := by
  refine te_ofW (cc := b_G_set) (maxL := 4) (ret := (some .int)) (by decide) rfl ?_
  intro p e s m args below meth c s₁ B hml hv
  obtain ⟨rfl, hN, hP, hK, hT⟩ := hv
  have hx := B.exec
  have hb := B.bytes
  have hr := B.returns
  have hts := fun w h => atoms_spec (ws := (wz y_G_set b_G_set 4 (some .int))) B.pre w (List.mem_cons_of_mem _ h)
  have hown : s.vm.findClass R_G = some m.cls := findClass_of_methodNamed B.named
  have hlocks := B.notSynchronized
  have hnoh : c.exceptionTable.isEmpty = true := B.noHandlers (atoms_spec (ws := (wz y_G_set b_G_set 4 (some .int))) B.pre _ List.mem_cons_self)
  obtain ⟨⟨t1, hZ1, hX1⟩, ⟨t2, hZ2, hX2⟩, t3, hZ3, hX3⟩ := hT.2.2.2.2
  have hl := lv_entry ([.ref b0, .int ia, .int ib]) (n := 4) (Nat.le_of_ble_eq_true rfl)
  rw [lg_entry_eq]
  generalize (lg_sl ([.ref b0, .int ia, .int ib]) ++ List.replicate (4 - (lg_sl ([.ref b0, .int ia, .int ib])).length) Slot.unset).toArray = ls at hl ⊢
  have hl : lv_has ls 4 [(0, .ref b0), (1, .int ia), (2, .int ib)] := hl
  refine lv_iload_n hx hb d_G_set_0 rfl (lv_at hl 1 rfl) ?_
  refine lv_iconst (v := 0) hx hb d_G_set_1 (by decide) ?_
  refine lv_aload_n hx hb d_G_set_2 rfl (lv_at hl 0 rfl) ?_
  refine va_get (D := (dC, dI)) (ci := 0) (v := .ref ba) (C := R_G) (T := T_G) (N := 10) hx hb hts uin_G hown hK hP 0 rfl rfl 0 (by decide) (hts _ wd_226) (fun _ h9 => h9) rfl d_G_set_3 ?_
  refine va_alen (v := 12) hx hb hK hP 1 0 rfl rfl (show Int32.ofNat 12 = 12 by decide) d_G_set_6 ?_
  refine lv_iconst (v := 1) hx hb d_G_set_7 (by decide) ?_
  refine lv_isub hx hb d_G_set_8 ?_
  refine kq_fi (y := 11) (by decide) ?_
  refine kq_R (r := .int (r_isWithin ia 0 11)) (va_runS (As := [.int ia, .int 0, .int 11]) (rest := []) ⟨hx, hb, hml, hown, hts⟩ (c_isWithin l dC dI ia 0 11) (kw_S (n := 3) hts wd_313 wd_314 wd_1 wd_315 rfl rfl (by decide +kernel) ⟨Nat.le_of_ble_eq_true rfl, Nat.le_of_ble_eq_true rfl⟩) (kq_preS hN (hP.sub (ws' := []) [] rfl) (hK.sub (tys' := []) [] rfl)) rfl rfl hl.1 rfl (lv_room (Nat.le_of_ble_eq_true rfl)) d_G_set_9 ⟨Nat.le_of_ble_eq_true rfl, Nat.le_of_ble_eq_true rfl⟩) ?_
  refine lv_if_ne hx hb (tgt := 25) d_G_set_12 rfl (fun _ => ?_) (fun h => absurd h ha0)
  refine lv_iload_n hx hb d_G_set_25 rfl (lv_at hl 2 rfl) ?_
  refine va_gets (A := fun _ => False) hx hb hZ1 va_S.rf hown (hts _ wd_384) (fun _ h9 => h9) d_G_set_26 ?_
  refine lv_iload_n hx hb d_G_set_29 rfl (lv_at hl 1 rfl) ?_
  refine va_sld (A := fun _ => False) hx hb hX1 (sg_lt hX1) (fun h => h) va_S.rf (isWithin_in (n := 12) (by decide) ha0) d_G_set_30 ?_
  refine va_gets (A := fun _ => False) hx hb hZ2 va_S.rf hown (hts _ wd_386) (fun _ h9 => h9) d_G_set_31 ?_
  refine lv_iload_n hx hb d_G_set_34 rfl (lv_at hl 1 rfl) ?_
  refine va_sld (A := fun _ => False) hx hb hX2 (sg_lt hX2) (fun h => h) va_S.rf (isWithin_in (n := 12) (by decide) ha0) d_G_set_35 ?_
  refine kq_R (r := .int (r_isWithin ib (leastV ia.toNatClampNeg) (greatV ia.toNatClampNeg))) (va_runS (As := [.int ib, .int (leastV ia.toNatClampNeg), .int (greatV ia.toNatClampNeg)]) (rest := []) ⟨hx, hb, hml, hown, hts⟩ (c_isWithin l dC dI ib (leastV ia.toNatClampNeg) (greatV ia.toNatClampNeg)) (kw_S (n := 3) hts wd_313 wd_314 wd_1 wd_315 rfl rfl (by decide +kernel) ⟨Nat.le_of_ble_eq_true rfl, Nat.le_of_ble_eq_true rfl⟩) (kq_preS hN (hP.sub (ws' := []) [] rfl) (hK.sub (tys' := []) [] rfl)) rfl rfl hl.1 rfl (lv_room (Nat.le_of_ble_eq_true rfl)) d_G_set_36 ⟨Nat.le_of_ble_eq_true rfl, Nat.le_of_ble_eq_true rfl⟩) ?_
  refine lv_if_ne hx hb (tgt := 52) d_G_set_39 rfl (fun h => absurd ha1 h) (fun _ => ?_)
  exact te_throw (X := XA) (names := te_up) hx hb hl0 (hml.trans hl.1.symm) hown te_fitA te_fitU (te_ow hts hN hT te_owA) (hts _ wd_388) (hts _ wd_15) (te_str hT wt_397) hnoh hlocks (Nat.le_refl _) d_G_set_42 d_G_set_45 d_G_set_46 d_G_set_48 d_G_set_51 (Nat.le_of_ble_eq_true rfl) (Nat.le_of_ble_eq_true rfl) (Nat.le_of_ble_eq_true rfl) (Nat.le_of_ble_eq_true rfl)
set_option maxHeartbeats 4000000 in
set_option maxRecDepth 100000 in
theorem t_setT3 (l : Launch) (hl0 : l.stackTraces = false) (dC : Nat → ClassId) (dI : Nat → Nat → Nat) (b0 : Nat) (ba : Nat) (bl : Nat) (bq : Nat) (bk : Nat) (bd : Nat) (bo : Nat) (be : Nat) (cI : ClassId) (gz : Nat → Int32) (gl : Nat → Int64) (se : Nat → Int32) (ko : Nat → Int32) (ia : Int32) (ib : Int32) (ha0 : ¬ (r_isWithin ia 0 11) = 0) (ha1 : ¬ (r_isWithin ib (leastV ia.toNatClampNeg) (greatV ia.toNatClampNeg)) = 0) (ha4 : ¬ (ko 2) = 0) : te_Met l y_G_set (wz y_G_set b_G_set 4 (some .int)) { frames := 7, cells := 1, slots := 6, locals := 102 } (va_Pc [.ref b0, .int ia, .int ib] (fun U => nw U ∧ va_P (dC, dI) vwCl [(b0, .inr (0, [.ref ba, .ref bl, .ref bq, .ref bk, .ref bd, .ref bo, .ref be, .int (gz 0), .int (gz 1), .long (gl 0)])), (ba, .inl (cI, 12, .inl se)), (bk, .inr (4, [.int (ko 0), .int (ko 1), .int (ko 2), .int (ko 3), .int (ko 4), .int (ko 5)]))] U.heap ∧ va_K (dC, dI) vwCl [(cI, .int)] U ∧ te_Ok U)) XS 1 6 := by
  refine te_ofW (cc := b_G_set) (maxL := 4) (ret := (some .int)) (by decide) rfl ?_
  intro p e s m args below meth c s₁ B hml hv
  obtain ⟨rfl, hN, hP, hK, hT⟩ := hv
  have hx := B.exec
  have hb := B.bytes
  have hr := B.returns
  have hts := fun w h => atoms_spec (ws := (wz y_G_set b_G_set 4 (some .int))) B.pre w (List.mem_cons_of_mem _ h)
  have hown : s.vm.findClass R_G = some m.cls := findClass_of_methodNamed B.named
  have hlocks := B.notSynchronized
  have hnoh : c.exceptionTable.isEmpty = true := B.noHandlers (atoms_spec (ws := (wz y_G_set b_G_set 4 (some .int))) B.pre _ List.mem_cons_self)
  obtain ⟨⟨t1, hZ1, hX1⟩, ⟨t2, hZ2, hX2⟩, t3, hZ3, hX3⟩ := hT.2.2.2.2
  have hl := lv_entry ([.ref b0, .int ia, .int ib]) (n := 4) (Nat.le_of_ble_eq_true rfl)
  rw [lg_entry_eq]
  generalize (lg_sl ([.ref b0, .int ia, .int ib]) ++ List.replicate (4 - (lg_sl ([.ref b0, .int ia, .int ib])).length) Slot.unset).toArray = ls at hl ⊢
  have hl : lv_has ls 4 [(0, .ref b0), (1, .int ia), (2, .int ib)] := hl
  refine lv_iload_n hx hb d_G_set_0 rfl (lv_at hl 1 rfl) ?_
  refine lv_iconst (v := 0) hx hb d_G_set_1 (by decide) ?_
  refine lv_aload_n hx hb d_G_set_2 rfl (lv_at hl 0 rfl) ?_
  refine va_get (D := (dC, dI)) (ci := 0) (v := .ref ba) (C := R_G) (T := T_G) (N := 10) hx hb hts uin_G hown hK hP 0 rfl rfl 0 (by decide) (hts _ wd_226) (fun _ h9 => h9) rfl d_G_set_3 ?_
  refine va_alen (v := 12) hx hb hK hP 1 0 rfl rfl (show Int32.ofNat 12 = 12 by decide) d_G_set_6 ?_
  refine lv_iconst (v := 1) hx hb d_G_set_7 (by decide) ?_
  refine lv_isub hx hb d_G_set_8 ?_
  refine kq_fi (y := 11) (by decide) ?_
  refine kq_R (r := .int (r_isWithin ia 0 11)) (va_runS (As := [.int ia, .int 0, .int 11]) (rest := []) ⟨hx, hb, hml, hown, hts⟩ (c_isWithin l dC dI ia 0 11) (kw_S (n := 3) hts wd_313 wd_314 wd_1 wd_315 rfl rfl (by decide +kernel) ⟨Nat.le_of_ble_eq_true rfl, Nat.le_of_ble_eq_true rfl⟩) (kq_preS hN (hP.sub (ws' := []) [] rfl) (hK.sub (tys' := []) [] rfl)) rfl rfl hl.1 rfl (lv_room (Nat.le_of_ble_eq_true rfl)) d_G_set_9 ⟨Nat.le_of_ble_eq_true rfl, Nat.le_of_ble_eq_true rfl⟩) ?_
  refine lv_if_ne hx hb (tgt := 25) d_G_set_12 rfl (fun _ => ?_) (fun h => absurd h ha0)
  refine lv_iload_n hx hb d_G_set_25 rfl (lv_at hl 2 rfl) ?_
  refine va_gets (A := fun _ => False) hx hb hZ1 va_S.rf hown (hts _ wd_384) (fun _ h9 => h9) d_G_set_26 ?_
  refine lv_iload_n hx hb d_G_set_29 rfl (lv_at hl 1 rfl) ?_
  refine va_sld (A := fun _ => False) hx hb hX1 (sg_lt hX1) (fun h => h) va_S.rf (isWithin_in (n := 12) (by decide) ha0) d_G_set_30 ?_
  refine va_gets (A := fun _ => False) hx hb hZ2 va_S.rf hown (hts _ wd_386) (fun _ h9 => h9) d_G_set_31 ?_
  refine lv_iload_n hx hb d_G_set_34 rfl (lv_at hl 1 rfl) ?_
  refine va_sld (A := fun _ => False) hx hb hX2 (sg_lt hX2) (fun h => h) va_S.rf (isWithin_in (n := 12) (by decide) ha0) d_G_set_35 ?_
  refine kq_R (r := .int (r_isWithin ib (leastV ia.toNatClampNeg) (greatV ia.toNatClampNeg))) (va_runS (As := [.int ib, .int (leastV ia.toNatClampNeg), .int (greatV ia.toNatClampNeg)]) (rest := []) ⟨hx, hb, hml, hown, hts⟩ (c_isWithin l dC dI ib (leastV ia.toNatClampNeg) (greatV ia.toNatClampNeg)) (kw_S (n := 3) hts wd_313 wd_314 wd_1 wd_315 rfl rfl (by decide +kernel) ⟨Nat.le_of_ble_eq_true rfl, Nat.le_of_ble_eq_true rfl⟩) (kq_preS hN (hP.sub (ws' := []) [] rfl) (hK.sub (tys' := []) [] rfl)) rfl rfl hl.1 rfl (lv_room (Nat.le_of_ble_eq_true rfl)) d_G_set_36 ⟨Nat.le_of_ble_eq_true rfl, Nat.le_of_ble_eq_true rfl⟩) ?_
  refine lv_if_ne hx hb (tgt := 52) d_G_set_39 rfl (fun _ => ?_) (fun h => absurd h ha1)
  refine lv_aload_n hx hb d_G_set_52 rfl (lv_at hl 0 rfl) ?_
  exact te_passV (As := []) (rest := []) ⟨hx, hb, hml, hown, hts⟩ (t_refuseT l hl0 dC dI b0 ba bl bq bk bd bo be gz gl ko (by assumption)) (kw_V (n := 0) hts wd_404 wd_406 wp_3 wd_1 wd_407 rfl rfl (by decide +kernel) ⟨Nat.le_of_ble_eq_true rfl, Nat.le_of_ble_eq_true rfl⟩) (kq_preTV hN (hP.sub (ws' := [(b0, .inr (0, [.ref ba, .ref bl, .ref bq, .ref bk, .ref bd, .ref bo, .ref be, .int (gz 0), .int (gz 1), .long (gl 0)])), (bk, .inr (4, [.int (ko 0), .int (ko 1), .int (ko 2), .int (ko 3), .int (ko 4), .int (ko 5)]))]) [0, 2] rfl) (hK.sub (tys' := []) [] rfl) hT (fun _ _ => rfl) 0 rfl rfl) hnoh hlocks (Nat.le_refl _) rfl hl.1 rfl (Nat.le_of_ble_eq_true rfl) d_G_set_53 ⟨Nat.le_of_ble_eq_true rfl, Nat.le_of_ble_eq_true rfl⟩
noncomputable def r_set (se : Nat → Int32) (ia : Int32) : Int32 := se ia.toNatClampNeg
noncomputable def o_set_gz (gz : Nat → Int32) : Nat → Int32 := uv gz 0 0
noncomputable def o_set_se (se : Nat → Int32) (ia : Int32) (ib : Int32) : Nat → Int32 := upd se ia.toNatClampNeg ib
set_option maxHeartbeats 4000000 in
set_option maxRecDepth 100000 in
theorem c_set (l : Launch) (dC : Nat → ClassId) (dI : Nat → Nat → Nat) (b0 : Nat) (ba : Nat) (bl : Nat) (bq : Nat) (bk : Nat) (bd : Nat) (bo : Nat) (be : Nat) (cI : ClassId) (gz : Nat → Int32) (gl : Nat → Int64) (se : Nat → Int32) (ko : Nat → Int32) (ia : Int32) (ib : Int32) (sz : Nat) (ha0 : ¬ (r_isWithin ia 0 11) = 0) (ha1 : ¬ (r_isWithin ib (leastV ia.toNatClampNeg) (greatV ia.toNatClampNeg)) = 0) (ha4 : (ko 2) = 0) : Met l y_G_set (wz y_G_set b_G_set 4 (some .int)) { frames := 1, cells := 0, slots := 0, locals := 22 } (va_Pc [.ref b0, .int ia, .int ib] (fun U => U.heap.size = sz ∧ nw U ∧ va_P (dC, dI) vwCl [(b0, .inr (0, [.ref ba, .ref bl, .ref bq, .ref bk, .ref bd, .ref bo, .ref be, .int (gz 0), .int (gz 1), .long (gl 0)])), (ba, .inl (cI, 12, .inl se)), (bk, .inr (4, [.int (ko 0), .int (ko 1), .int (ko 2), .int (ko 3), .int (ko 4), .int (ko 5)]))] U.heap ∧ va_K (dC, dI) vwCl [(cI, .int)] U ∧ va_D (fun _ => True) [(b0, .inr (0, [.ref ba, .ref bl, .ref bq, .ref bk, .ref bd, .ref bo, .ref be, .int (gz 0), .int (gz 1), .long (gl 0)])), (ba, .inl (cI, 12, .inl se)), (bk, .inr (4, [.int (ko 0), .int (ko 1), .int (ko 2), .int (ko 3), .int (ko 4), .int (ko 5)]))] ∧ te_Ok U)) (va_Qi (fun r (_ : Unit) => r = r_set se ia) (fun _ t => va_P (dC, dI) vwCl [(b0, .inr (0, [.ref ba, .ref bl, .ref bq, .ref bk, .ref bd, .ref bo, .ref be, .int ((o_set_gz gz) 0), .int ((o_set_gz gz) 1), .long (gl 0)])), (ba, .inl (cI, 12, .inl (o_set_se se ia ib))), (bk, .inr (4, [.int (ko 0), .int (ko 1), .int (ko 2), .int (ko 3), .int (ko 4), .int (ko 5)]))] t.heap ∧ va_K (dC, dI) vwCl [(cI, .int)] t ∧ va_D (va_A [(b0, .inr (0, [.ref ba, .ref bl, .ref bq, .ref bk, .ref bd, .ref bo, .ref be, .int (gz 0), .int (gz 1), .long (gl 0)])), (ba, .inl (cI, 12, .inl se)), (bk, .inr (4, [.int (ko 0), .int (ko 1), .int (ko 2), .int (ko 3), .int (ko 4), .int (ko 5)]))] sz) [(b0, .inr (0, [.ref ba, .ref bl, .ref bq, .ref bk, .ref bd, .ref bo, .ref be, .int ((o_set_gz gz) 0), .int ((o_set_gz gz) 1), .long (gl 0)])), (ba, .inl (cI, 12, .inl (o_set_se se ia ib))), (bk, .inr (4, [.int (ko 0), .int (ko 1), .int (ko 2), .int (ko 3), .int (ko 4), .int (ko 5)]))]) (va_A [(b0, .inr (0, [.ref ba, .ref bl, .ref bq, .ref bk, .ref bd, .ref bo, .ref be, .int (gz 0), .int (gz 1), .long (gl 0)])), (ba, .inl (cI, 12, .inl se)), (bk, .inr (4, [.int (ko 0), .int (ko 1), .int (ko 2), .int (ko 3), .int (ko 4), .int (ko 5)]))] sz)) 0 0 (va_A [(b0, .inr (0, [.ref ba, .ref bl, .ref bq, .ref bk, .ref bd, .ref bo, .ref be, .int (gz 0), .int (gz 1), .long (gl 0)])), (ba, .inl (cI, 12, .inl se)), (bk, .inr (4, [.int (ko 0), .int (ko 1), .int (ko 2), .int (ko 3), .int (ko 4), .int (ko 5)]))] sz) := by
  refine Met.ofW (cc := b_G_set) (maxL := 4) (ret := (some .int)) (by decide) rfl ?_
  intro p e s m args below meth c s₁ B hml hv
  obtain ⟨rfl, hsz, hN, hP, hK, hD0, hT⟩ := hv
  have hx := B.exec
  have hb := B.bytes
  have hr := B.returns
  have hts := fun w h => atoms_spec (ws := (wz y_G_set b_G_set 4 (some .int))) B.pre w (List.mem_cons_of_mem _ h)
  have hown : s.vm.findClass R_G = some m.cls := findClass_of_methodNamed B.named
  have hlocks := B.notSynchronized
  obtain ⟨⟨t1, hZ1, hX1⟩, ⟨t2, hZ2, hX2⟩, t3, hZ3, hX3⟩ := hT.2.2.2.2
  subst hsz
  have hD := hD0.self (sz := s.heap.size)
  generalize hAe : va_A [(b0, .inr (0, [.ref ba, .ref bl, .ref bq, .ref bk, .ref bd, .ref bo, .ref be, .int (gz 0), .int (gz 1), .long (gl 0)])), (ba, .inl (cI, 12, .inl se)), (bk, .inr (4, [.int (ko 0), .int (ko 1), .int (ko 2), .int (ko 3), .int (ko 4), .int (ko 5)]))] s.heap.size = A at hD ⊢
  have hA : ∀ q : Nat, s.heap.size ≤ q → A q := fun q h => by rw [← hAe]; exact Or.inr h
  have hS : va_S A s.heap s.heap [] := va_S.rf
  have hl := lv_entry ([.ref b0, .int ia, .int ib]) (n := 4) (Nat.le_of_ble_eq_true rfl)
  rw [lg_entry_eq]
  generalize (lg_sl ([.ref b0, .int ia, .int ib]) ++ List.replicate (4 - (lg_sl ([.ref b0, .int ia, .int ib])).length) Slot.unset).toArray = ls at hl ⊢
  have hl : lv_has ls 4 [(0, .ref b0), (1, .int ia), (2, .int ib)] := hl
  refine lv_iload_n hx hb d_G_set_0 rfl (lv_at hl 1 rfl) ?_
  refine lv_iconst (v := 0) hx hb d_G_set_1 (by decide) ?_
  refine lv_aload_n hx hb d_G_set_2 rfl (lv_at hl 0 rfl) ?_
  refine va_get (D := (dC, dI)) (ci := 0) (v := .ref ba) (C := R_G) (T := T_G) (N := 10) hx hb hts uin_G hown hK hP 0 rfl rfl 0 (by decide) (hts _ wd_226) (fun _ h9 => h9) rfl d_G_set_3 ?_
  refine va_alen (v := 12) hx hb hK hP 1 0 rfl rfl (show Int32.ofNat 12 = 12 by decide) d_G_set_6 ?_
  refine lv_iconst (v := 1) hx hb d_G_set_7 (by decide) ?_
  refine lv_isub hx hb d_G_set_8 ?_
  refine kq_fi (y := 11) (by decide) ?_
  refine kq_R (r := .int (r_isWithin ia 0 11)) (va_runS (As := [.int ia, .int 0, .int 11]) (rest := []) ⟨hx, hb, hml, hown, hts⟩ (c_isWithin l dC dI ia 0 11) (kw_S (n := 3) hts wd_313 wd_314 wd_1 wd_315 rfl rfl (by decide +kernel) ⟨Nat.le_of_ble_eq_true rfl, Nat.le_of_ble_eq_true rfl⟩) (kq_preS hN (hP.sub (ws' := []) [] rfl) (hK.sub (tys' := []) [] rfl)) rfl rfl hl.1 rfl (lv_room (Nat.le_of_ble_eq_true rfl)) d_G_set_9 ⟨Nat.le_of_ble_eq_true rfl, Nat.le_of_ble_eq_true rfl⟩) ?_
  refine lv_if_ne hx hb (tgt := 25) d_G_set_12 rfl (fun _ => ?_) (fun h => absurd h ha0)
  refine lv_iload_n hx hb d_G_set_25 rfl (lv_at hl 2 rfl) ?_
  refine va_gets (A := fun _ => False) hx hb hZ1 va_S.rf hown (hts _ wd_384) (fun _ h9 => h9) d_G_set_26 ?_
  refine lv_iload_n hx hb d_G_set_29 rfl (lv_at hl 1 rfl) ?_
  refine va_sld (A := fun _ => False) hx hb hX1 (sg_lt hX1) (fun h => h) va_S.rf (isWithin_in (n := 12) (by decide) ha0) d_G_set_30 ?_
  refine va_gets (A := fun _ => False) hx hb hZ2 va_S.rf hown (hts _ wd_386) (fun _ h9 => h9) d_G_set_31 ?_
  refine lv_iload_n hx hb d_G_set_34 rfl (lv_at hl 1 rfl) ?_
  refine va_sld (A := fun _ => False) hx hb hX2 (sg_lt hX2) (fun h => h) va_S.rf (isWithin_in (n := 12) (by decide) ha0) d_G_set_35 ?_
  refine kq_R (r := .int (r_isWithin ib (leastV ia.toNatClampNeg) (greatV ia.toNatClampNeg))) (va_runS (As := [.int ib, .int (leastV ia.toNatClampNeg), .int (greatV ia.toNatClampNeg)]) (rest := []) ⟨hx, hb, hml, hown, hts⟩ (c_isWithin l dC dI ib (leastV ia.toNatClampNeg) (greatV ia.toNatClampNeg)) (kw_S (n := 3) hts wd_313 wd_314 wd_1 wd_315 rfl rfl (by decide +kernel) ⟨Nat.le_of_ble_eq_true rfl, Nat.le_of_ble_eq_true rfl⟩) (kq_preS hN (hP.sub (ws' := []) [] rfl) (hK.sub (tys' := []) [] rfl)) rfl rfl hl.1 rfl (lv_room (Nat.le_of_ble_eq_true rfl)) d_G_set_36 ⟨Nat.le_of_ble_eq_true rfl, Nat.le_of_ble_eq_true rfl⟩) ?_
  refine lv_if_ne hx hb (tgt := 52) d_G_set_39 rfl (fun _ => ?_) (fun h => absurd h ha1)
  refine lv_aload_n hx hb d_G_set_52 rfl (lv_at hl 0 rfl) ?_
  refine kq_Mv (wr := [(ba, .inl (cI, 12, .inl se))]) (w1 := [(b0, .inr (0, [.ref ba, .ref bl, .ref bq, .ref bk, .ref bd, .ref bo, .ref be, .int (gz 0), .int (gz 1), .long (gl 0)])), (bk, .inr (4, [.int (ko 0), .int (ko 1), .int (ko 2), .int (ko 3), .int (ko 4), .int (ko 5)]))]) (va_runV (As := []) (rest := []) ⟨hx, hb, hml, hown, hts⟩ (c_refuse l dC dI b0 ba bl bq bk bd bo be gz gl ko s.heap.size (by assumption)) (kw_V (n := 0) hts wd_404 wd_406 wp_3 wd_1 wd_407 rfl rfl (by decide +kernel) ⟨Nat.le_of_ble_eq_true rfl, Nat.le_of_ble_eq_true rfl⟩) (kq_preMV hN (hP.sub (ws' := [(b0, .inr (0, [.ref ba, .ref bl, .ref bq, .ref bk, .ref bd, .ref bo, .ref be, .int (gz 0), .int (gz 1), .long (gl 0)])), (bk, .inr (4, [.int (ko 0), .int (ko 1), .int (ko 2), .int (ko 3), .int (ko 4), .int (ko 5)]))]) [0, 2] rfl) (hK.sub (tys' := []) [] rfl) (hD.sub (ws' := [(b0, .inr (0, [.ref ba, .ref bl, .ref bq, .ref bk, .ref bd, .ref bo, .ref be, .int (gz 0), .int (gz 1), .long (gl 0)])), (bk, .inr (4, [.int (ko 0), .int (ko 1), .int (ko 2), .int (ko 3), .int (ko 4), .int (ko 5)]))]) [0, 2] (by decide) rfl) 0 rfl rfl) rfl rfl hl.1 rfl (lv_room (Nat.le_of_ble_eq_true rfl)) d_G_set_53 ⟨Nat.le_of_ble_eq_true rfl, Nat.le_of_ble_eq_true rfl⟩) hS hA hP hD [0, 2] [1] rfl rfl (by decide) (by decide) (fun H locs hP _ hD hS => ?_)
  have hP : va_P (dC, dI) vwCl [(ba, .inl (cI, 12, .inl se)), (b0, .inr (0, [.ref ba, .ref bl, .ref bq, .ref bk, .ref bd, .ref bo, .ref be, .int (gz 0), .int (gz 1), .long (gl 0)])), (bk, .inr (4, [.int (ko 0), .int (ko 1), .int (ko 2), .int (ko 3), .int (ko 4), .int (ko 5)]))] H := hP
  have hD : va_D A [(ba, .inl (cI, 12, .inl se)), (b0, .inr (0, [.ref ba, .ref bl, .ref bq, .ref bk, .ref bd, .ref bo, .ref be, .int (gz 0), .int (gz 1), .long (gl 0)])), (bk, .inr (4, [.int (ko 0), .int (ko 1), .int (ko 2), .int (ko 3), .int (ko 4), .int (ko 5)]))] := hD
  refine lv_aload_n hx hb d_G_set_56 rfl (lv_at hl 0 rfl) ?_
  refine va_get (D := (dC, dI)) (ci := 0) (v := .ref ba) (C := R_G) (T := T_G) (N := 10) hx hb hts uin_G hown hK hP 1 rfl rfl 0 (by decide) (hts _ wd_226) (fun _ h9 => h9) rfl d_G_set_57 ?_
  refine lv_iload_n hx hb d_G_set_60 rfl (lv_at hl 1 rfl) ?_
  refine kq_iald (j := ia.toNatClampNeg) (v := se ia.toNatClampNeg) hx hb hK hP 0 0 rfl rfl rfl rfl (isWithin_in (n := 12) (by decide) ha0) d_G_set_61 ?_
  refine lv_istore_n (lv' := [(3, .int (se ia.toNatClampNeg)), (0, .ref b0), (1, .int ia), (2, .int ib)]) hx hb d_G_set_62 rfl hl (by decide) rfl (fun ls hl => ?_)
  refine lv_aload_n hx hb d_G_set_63 rfl (lv_at hl 1 rfl) ?_
  refine va_get (D := (dC, dI)) (ci := 0) (v := .ref ba) (C := R_G) (T := T_G) (N := 10) hx hb hts uin_G hown hK hP 1 rfl rfl 0 (by decide) (hts _ wd_226) (fun _ h9 => h9) rfl d_G_set_64 ?_
  refine lv_iload_n hx hb d_G_set_67 rfl (lv_at hl 2 rfl) ?_
  refine lv_iload_n hx hb d_G_set_68 rfl (lv_at hl 3 rfl) ?_
  refine va_iast hx hb hK hP hD hS 0 0 rfl rfl (isWithin_in (n := 12) (by decide) ha0) d_G_set_69 (fun H locs hP hD hS => ?_)
  have hP : va_P (dC, dI) vwCl [(ba, .inl (cI, 12, .inl (upd se ia.toNatClampNeg ib))), (b0, .inr (0, [.ref ba, .ref bl, .ref bq, .ref bk, .ref bd, .ref bo, .ref be, .int (gz 0), .int (gz 1), .long (gl 0)])), (bk, .inr (4, [.int (ko 0), .int (ko 1), .int (ko 2), .int (ko 3), .int (ko 4), .int (ko 5)]))] H := hP
  have hD : va_D A [(ba, .inl (cI, 12, .inl (upd se ia.toNatClampNeg ib))), (b0, .inr (0, [.ref ba, .ref bl, .ref bq, .ref bk, .ref bd, .ref bo, .ref be, .int (gz 0), .int (gz 1), .long (gl 0)])), (bk, .inr (4, [.int (ko 0), .int (ko 1), .int (ko 2), .int (ko 3), .int (ko 4), .int (ko 5)]))] := hD
  refine lv_aload_n hx hb d_G_set_70 rfl (lv_at hl 1 rfl) ?_
  refine lv_iconst (v := 0) hx hb d_G_set_71 (by decide) ?_
  refine va_put (D := (dC, dI)) (ci := 0) (v := .int 0) (ty := .boolean) (C := R_G) (T := T_G) (N := 10) hx hb hts uin_G t_G t_G_ok n_G hown hK hP hD hS 1 rfl rfl 7 (by decide) (hts _ wd_233) (fun _ h9 => h9) rfl (by decide +kernel) (by decide) (by decide) (Nat.le_of_ble_eq_true rfl) d_G_set_72 (fun H locs hP hD hS => ?_)
  have hP : va_P (dC, dI) vwCl [(ba, .inl (cI, 12, .inl (upd se ia.toNatClampNeg ib))), (b0, .inr (0, [.ref ba, .ref bl, .ref bq, .ref bk, .ref bd, .ref bo, .ref be, .int 0, .int (gz 1), .long (gl 0)])), (bk, .inr (4, [.int (ko 0), .int (ko 1), .int (ko 2), .int (ko 3), .int (ko 4), .int (ko 5)]))] H := hP
  have hD : va_D A [(ba, .inl (cI, 12, .inl (upd se ia.toNatClampNeg ib))), (b0, .inr (0, [.ref ba, .ref bl, .ref bq, .ref bk, .ref bd, .ref bo, .ref be, .int 0, .int (gz 1), .long (gl 0)])), (bk, .inr (4, [.int (ko 0), .int (ko 1), .int (ko 2), .int (ko 3), .int (ko 4), .int (ko 5)]))] := hD
  refine lv_iload_n hx hb d_G_set_75 rfl (lv_at hl 0 rfl) ?_
  have hP9 := hP.sub (ws' := [(b0, .inr (0, [.ref ba, .ref bl, .ref bq, .ref bk, .ref bd, .ref bo, .ref be, .int 0, .int (gz 1), .long (gl 0)])), (ba, .inl (cI, 12, .inl (upd se ia.toNatClampNeg ib))), (bk, .inr (4, [.int (ko 0), .int (ko 1), .int (ko 2), .int (ko 3), .int (ko 4), .int (ko 5)]))]) [1, 0, 2] rfl
  have hD9 := hD.sub (ws' := [(b0, .inr (0, [.ref ba, .ref bl, .ref bq, .ref bk, .ref bd, .ref bo, .ref be, .int 0, .int (gz 1), .long (gl 0)])), (ba, .inl (cI, 12, .inl (upd se ia.toNatClampNeg ib))), (bk, .inr (4, [.int (ko 0), .int (ko 1), .int (ko 2), .int (ko 3), .int (ko 4), .int (ko 5)]))]) [1, 0, 2] (by decide) rfl
  have E0 : o_set_gz gz = uv gz 0 0 := rfl
  have E1 : o_set_se se ia ib = upd se ia.toNatClampNeg ib := rfl
  exact W.iret (v := se ia.toNatClampNeg) hx hb hr (fun t ht hW => ⟨⟨_, (), rfl, (show r_set se ia = se ia.toNatClampNeg from rfl).symm, by rw [ht, E0, E1]; exact hP9, va_K.moved hW.alike hK, by rw [E0, E1]; exact hD9⟩, hS.F ht⟩) hS.2.2 d_G_set_76
set_option maxHeartbeats 4000000 in
set_option maxRecDepth 100000 in
theorem t_placeCT1 (l : Launch) (hl0 : l.stackTraces = false) (dC : Nat → ClassId) (dI : Nat → Nat → Nat) (b0 : Nat) (ba : Nat) (bl : Nat) (bq : Nat) (bk : Nat) (bd : Nat) (bo : Nat) (be : Nat) (gz : Nat → Int32) (gl : Nat → Int64) (ko : Nat → Int32) (bc : Nat) (bs : Nat) (cP : ClassId) (ad : Nat → Nat) (pP : Nat → Nat → Int32) (ia : Int32) (ib : Int32) (ic : Int32) (id0 : Int32) (ha0 : (r_isWithin ia 0 5) = 0) : te_Met l y_G_place (wz y_G_place b_G_place 6 none) { frames := 6, cells := 1, slots := 6, locals := 82 } (va_Pc [.ref b0, .ref bc, .int ia, .int ib, .int ic, .int id0] (fun U => nw U ∧ va_P (dC, dI) vwCl [(b0, .inr (0, [.ref ba, .ref bl, .ref bq, .ref bk, .ref bd, .ref bo, .ref be, .int (gz 0), .int (gz 1), .long (gl 0)])), (bk, .inr (4, [.int (ko 0), .int (ko 1), .int (ko 2), .int (ko 3), .int (ko 4), .int (ko 5)])), (bq, .inr (3, [.ref bc, .ref bs])), (bc, .inl (cP, 6, .inr (.inr (.inr (.inr (fun j => some (ad j))))))), (ad 0, .inr (2, [.int ((pP 0) 0), .int ((pP 0) 1), .int ((pP 0) 2), .int ((pP 0) 3)])), (ad 1, .inr (2, [.int ((pP 1) 0), .int ((pP 1) 1), .int ((pP 1) 2), .int ((pP 1) 3)])), (ad 2, .inr (2, [.int ((pP 2) 0), .int ((pP 2) 1), .int ((pP 2) 2), .int ((pP 2) 3)])), (ad 3, .inr (2, [.int ((pP 3) 0), .int ((pP 3) 1), .int ((pP 3) 2), .int ((pP 3) 3)])), (ad 4, .inr (2, [.int ((pP 4) 0), .int ((pP 4) 1), .int ((pP 4) 2), .int ((pP 4) 3)])), (ad 5, .inr (2, [.int ((pP 5) 0), .int ((pP 5) 1), .int ((pP 5) 2), .int ((pP 5) 3)]))] U.heap ∧ va_K (dC, dI) vwCl [(cP, (.object "GridConverter$Point"))] U ∧ te_Ok U)) XI 1 6 := by
  refine te_ofW (cc := b_G_place) (maxL := 6) (ret := none) (by decide) rfl ?_
  intro p e s m args below meth c s₁ B hml hv
  obtain ⟨rfl, hN, hP, hK, hT⟩ := hv
  have hx := B.exec
  have hb := B.bytes
  have hr := B.returns
  have hts := fun w h => atoms_spec (ws := (wz y_G_place b_G_place 6 none)) B.pre w (List.mem_cons_of_mem _ h)
  have hown : s.vm.findClass R_G = some m.cls := findClass_of_methodNamed B.named
  have hlocks := B.notSynchronized
  have hnoh : c.exceptionTable.isEmpty = true := B.noHandlers (atoms_spec (ws := (wz y_G_place b_G_place 6 none)) B.pre _ List.mem_cons_self)
  obtain ⟨⟨t1, hZ1, hX1⟩, ⟨t2, hZ2, hX2⟩, t3, hZ3, hX3⟩ := hT.2.2.2.2
  have hl := lv_entry ([.ref b0, .ref bc, .int ia, .int ib, .int ic, .int id0]) (n := 6) (Nat.le_of_ble_eq_true rfl)
  rw [lg_entry_eq]
  generalize (lg_sl ([.ref b0, .ref bc, .int ia, .int ib, .int ic, .int id0]) ++ List.replicate (6 - (lg_sl ([.ref b0, .ref bc, .int ia, .int ib, .int ic, .int id0])).length) Slot.unset).toArray = ls at hl ⊢
  have hl : lv_has ls 6 [(0, .ref b0), (1, .ref bc), (2, .int ia), (3, .int ib), (4, .int ic), (5, .int id0)] := hl
  refine lv_iload_n hx hb d_G_place_0 rfl (lv_at hl 2 rfl) ?_
  refine lv_iconst (v := 0) hx hb d_G_place_1 (by decide) ?_
  refine lv_aload_n hx hb d_G_place_2 rfl (lv_at hl 1 rfl) ?_
  refine va_alen (v := 6) hx hb hK hP 3 0 rfl rfl (show Int32.ofNat 6 = 6 by decide) d_G_place_3 ?_
  refine lv_iconst (v := 1) hx hb d_G_place_4 (by decide) ?_
  refine lv_isub hx hb d_G_place_5 ?_
  refine kq_fi (y := 5) (by decide) ?_
  refine kq_R (r := .int (r_isWithin ia 0 5)) (va_runS (As := [.int ia, .int 0, .int 5]) (rest := []) ⟨hx, hb, hml, hown, hts⟩ (c_isWithin l dC dI ia 0 5) (kw_S (n := 3) hts wd_313 wd_314 wd_1 wd_315 rfl rfl (by decide +kernel) ⟨Nat.le_of_ble_eq_true rfl, Nat.le_of_ble_eq_true rfl⟩) (kq_preS hN (hP.sub (ws' := []) [] rfl) (hK.sub (tys' := []) [] rfl)) rfl rfl hl.1 rfl (lv_room (Nat.le_of_ble_eq_true rfl)) d_G_place_6 ⟨Nat.le_of_ble_eq_true rfl, Nat.le_of_ble_eq_true rfl⟩) ?_
  refine lv_if_ne hx hb (tgt := 22) d_G_place_9 rfl (fun h => absurd ha0 h) (fun _ => ?_)
  exact te_throw (X := XI) (names := te_up) hx hb hl0 (hml.trans hl.1.symm) hown te_fitI te_fitU (te_ow hts hN hT te_owI) (hts _ wd_316) (hts _ wd_14) (te_str hT wt_435) hnoh hlocks (Nat.le_refl _) d_G_place_12 d_G_place_15 d_G_place_16 d_G_place_18 d_G_place_21 (Nat.le_of_ble_eq_true rfl) (Nat.le_of_ble_eq_true rfl) (Nat.le_of_ble_eq_true rfl) (Nat.le_of_ble_eq_true rfl)
set_option maxHeartbeats 4000000 in
set_option maxRecDepth 100000 in
theorem t_placeCT2 (l : Launch) (hl0 : l.stackTraces = false) (dC : Nat → ClassId) (dI : Nat → Nat → Nat) (b0 : Nat) (ba : Nat) (bl : Nat) (bq : Nat) (bk : Nat) (bd : Nat) (bo : Nat) (be : Nat) (gz : Nat → Int32) (gl : Nat → Int64) (ko : Nat → Int32) (bc : Nat) (bs : Nat) (cP : ClassId) (ad : Nat → Nat) (pP : Nat → Nat → Int32) (ia : Int32) (ib : Int32) (ic : Int32) (id0 : Int32) (hbad : (r_isWithin ib 0 4) = 0 ∨ (r_isWithin ic 0 100000) = 0 ∨ (r_isWithin id0 1 1000) = 0) (ha0 : ¬ (r_isWithin ia 0 5) = 0) : te_Met l y_G_place (wz y_G_place b_G_place 6 none) { frames := 6, cells := 1, slots := 6, locals := 82 } (va_Pc [.ref b0, .ref bc, .int ia, .int ib, .int ic, .int id0] (fun U => nw U ∧ va_P (dC, dI) vwCl [(b0, .inr (0, [.ref ba, .ref bl, .ref bq, .ref bk, .ref bd, .ref bo, .ref be, .int (gz 0), .int (gz 1), .long (gl 0)])), (bk, .inr (4, [.int (ko 0), .int (ko 1), .int (ko 2), .int (ko 3), .int (ko 4), .int (ko 5)])), (bq, .inr (3, [.ref bc, .ref bs])), (bc, .inl (cP, 6, .inr (.inr (.inr (.inr (fun j => some (ad j))))))), (ad 0, .inr (2, [.int ((pP 0) 0), .int ((pP 0) 1), .int ((pP 0) 2), .int ((pP 0) 3)])), (ad 1, .inr (2, [.int ((pP 1) 0), .int ((pP 1) 1), .int ((pP 1) 2), .int ((pP 1) 3)])), (ad 2, .inr (2, [.int ((pP 2) 0), .int ((pP 2) 1), .int ((pP 2) 2), .int ((pP 2) 3)])), (ad 3, .inr (2, [.int ((pP 3) 0), .int ((pP 3) 1), .int ((pP 3) 2), .int ((pP 3) 3)])), (ad 4, .inr (2, [.int ((pP 4) 0), .int ((pP 4) 1), .int ((pP 4) 2), .int ((pP 4) 3)])), (ad 5, .inr (2, [.int ((pP 5) 0), .int ((pP 5) 1), .int ((pP 5) 2), .int ((pP 5) 3)]))] U.heap ∧ va_K (dC, dI) vwCl [(cP, (.object "GridConverter$Point"))] U ∧ te_Ok U)) XA 1 6 := by
  refine te_ofW (cc := b_G_place) (maxL := 6) (ret := none) (by decide) rfl ?_
  intro p e s m args below meth c s₁ B hml hv
  obtain ⟨rfl, hN, hP, hK, hT⟩ := hv
  have hx := B.exec
  have hb := B.bytes
  have hr := B.returns
  have hts := fun w h => atoms_spec (ws := (wz y_G_place b_G_place 6 none)) B.pre w (List.mem_cons_of_mem _ h)
  have hown : s.vm.findClass R_G = some m.cls := findClass_of_methodNamed B.named
  have hlocks := B.notSynchronized
  have hnoh : c.exceptionTable.isEmpty = true := B.noHandlers (atoms_spec (ws := (wz y_G_place b_G_place 6 none)) B.pre _ List.mem_cons_self)
  obtain ⟨⟨t1, hZ1, hX1⟩, ⟨t2, hZ2, hX2⟩, t3, hZ3, hX3⟩ := hT.2.2.2.2
  have hl := lv_entry ([.ref b0, .ref bc, .int ia, .int ib, .int ic, .int id0]) (n := 6) (Nat.le_of_ble_eq_true rfl)
  rw [lg_entry_eq]
  generalize (lg_sl ([.ref b0, .ref bc, .int ia, .int ib, .int ic, .int id0]) ++ List.replicate (6 - (lg_sl ([.ref b0, .ref bc, .int ia, .int ib, .int ic, .int id0])).length) Slot.unset).toArray = ls at hl ⊢
  have hl : lv_has ls 6 [(0, .ref b0), (1, .ref bc), (2, .int ia), (3, .int ib), (4, .int ic), (5, .int id0)] := hl
  refine lv_iload_n hx hb d_G_place_0 rfl (lv_at hl 2 rfl) ?_
  refine lv_iconst (v := 0) hx hb d_G_place_1 (by decide) ?_
  refine lv_aload_n hx hb d_G_place_2 rfl (lv_at hl 1 rfl) ?_
  refine va_alen (v := 6) hx hb hK hP 3 0 rfl rfl (show Int32.ofNat 6 = 6 by decide) d_G_place_3 ?_
  refine lv_iconst (v := 1) hx hb d_G_place_4 (by decide) ?_
  refine lv_isub hx hb d_G_place_5 ?_
  refine kq_fi (y := 5) (by decide) ?_
  refine kq_R (r := .int (r_isWithin ia 0 5)) (va_runS (As := [.int ia, .int 0, .int 5]) (rest := []) ⟨hx, hb, hml, hown, hts⟩ (c_isWithin l dC dI ia 0 5) (kw_S (n := 3) hts wd_313 wd_314 wd_1 wd_315 rfl rfl (by decide +kernel) ⟨Nat.le_of_ble_eq_true rfl, Nat.le_of_ble_eq_true rfl⟩) (kq_preS hN (hP.sub (ws' := []) [] rfl) (hK.sub (tys' := []) [] rfl)) rfl rfl hl.1 rfl (lv_room (Nat.le_of_ble_eq_true rfl)) d_G_place_6 ⟨Nat.le_of_ble_eq_true rfl, Nat.le_of_ble_eq_true rfl⟩) ?_
  refine lv_if_ne hx hb (tgt := 22) d_G_place_9 rfl (fun _ => ?_) (fun h => absurd h ha0)
  refine lv_iload_n hx hb d_G_place_22 rfl (lv_at hl 3 rfl) ?_
  refine lv_iconst (v := 0) hx hb d_G_place_23 (by decide) ?_
  refine lv_iconst (v := 4) hx hb d_G_place_24 (by decide) ?_
  refine kq_R (r := .int (r_isWithin ib 0 4)) (va_runS (As := [.int ib, .int 0, .int 4]) (rest := []) ⟨hx, hb, hml, hown, hts⟩ (c_isWithin l dC dI ib 0 4) (kw_S (n := 3) hts wd_313 wd_314 wd_1 wd_315 rfl rfl (by decide +kernel) ⟨Nat.le_of_ble_eq_true rfl, Nat.le_of_ble_eq_true rfl⟩) (kq_preS hN (hP.sub (ws' := []) [] rfl) (hK.sub (tys' := []) [] rfl)) rfl rfl hl.1 rfl (lv_room (Nat.le_of_ble_eq_true rfl)) d_G_place_25 ⟨Nat.le_of_ble_eq_true rfl, Nat.le_of_ble_eq_true rfl⟩) ?_
  refine lv_if_eq hx hb (tgt := 54) d_G_place_28 rfl (fun h1 => ?_) (fun h1 => ?_)
  · exact te_throw (X := XA) (names := te_up) hx hb hl0 (hml.trans hl.1.symm) hown te_fitA te_fitU (te_ow hts hN hT te_owA) (hts _ wd_388) (hts _ wd_15) (te_str hT wt_437) hnoh hlocks (Nat.le_refl _) d_G_place_54 d_G_place_57 d_G_place_58 d_G_place_60 d_G_place_63 (Nat.le_of_ble_eq_true rfl) (Nat.le_of_ble_eq_true rfl) (Nat.le_of_ble_eq_true rfl) (Nat.le_of_ble_eq_true rfl)
  · refine lv_iload hx hb d_G_place_31 (lv_at hl 4 rfl) ?_
    refine lv_iconst (v := 0) hx hb d_G_place_33 (by decide) ?_
    refine lv_ldc (v := 100000) hx hb hown (hts _ wd_436) d_G_place_34 ?_
    refine kq_R (r := .int (r_isWithin ic 0 100000)) (va_runS (As := [.int ic, .int 0, .int 100000]) (rest := []) ⟨hx, hb, hml, hown, hts⟩ (c_isWithin l dC dI ic 0 100000) (kw_S (n := 3) hts wd_313 wd_314 wd_1 wd_315 rfl rfl (by decide +kernel) ⟨Nat.le_of_ble_eq_true rfl, Nat.le_of_ble_eq_true rfl⟩) (kq_preS hN (hP.sub (ws' := []) [] rfl) (hK.sub (tys' := []) [] rfl)) rfl rfl hl.1 rfl (lv_room (Nat.le_of_ble_eq_true rfl)) d_G_place_36 ⟨Nat.le_of_ble_eq_true rfl, Nat.le_of_ble_eq_true rfl⟩) ?_
    refine lv_if_eq hx hb (tgt := 54) d_G_place_39 rfl (fun h2 => ?_) (fun h2 => ?_)
    · exact te_throw (X := XA) (names := te_up) hx hb hl0 (hml.trans hl.1.symm) hown te_fitA te_fitU (te_ow hts hN hT te_owA) (hts _ wd_388) (hts _ wd_15) (te_str hT wt_437) hnoh hlocks (Nat.le_refl _) d_G_place_54 d_G_place_57 d_G_place_58 d_G_place_60 d_G_place_63 (Nat.le_of_ble_eq_true rfl) (Nat.le_of_ble_eq_true rfl) (Nat.le_of_ble_eq_true rfl) (Nat.le_of_ble_eq_true rfl)
    · refine lv_iload hx hb d_G_place_42 (lv_at hl 5 rfl) ?_
      refine lv_iconst (v := 1) hx hb d_G_place_44 (by decide) ?_
      refine lv_sipush (v := 1000) hx hb d_G_place_45 (by decide) ?_
      refine kq_R (r := .int (r_isWithin id0 1 1000)) (va_runS (As := [.int id0, .int 1, .int 1000]) (rest := []) ⟨hx, hb, hml, hown, hts⟩ (c_isWithin l dC dI id0 1 1000) (kw_S (n := 3) hts wd_313 wd_314 wd_1 wd_315 rfl rfl (by decide +kernel) ⟨Nat.le_of_ble_eq_true rfl, Nat.le_of_ble_eq_true rfl⟩) (kq_preS hN (hP.sub (ws' := []) [] rfl) (hK.sub (tys' := []) [] rfl)) rfl rfl hl.1 rfl (lv_room (Nat.le_of_ble_eq_true rfl)) d_G_place_48 ⟨Nat.le_of_ble_eq_true rfl, Nat.le_of_ble_eq_true rfl⟩) ?_
      refine lv_if_ne hx hb (tgt := 64) d_G_place_51 rfl (fun h3 => ?_) (fun h3 => ?_)
      · exact ((fun q => q.elim (fun x => absurd x h1) (fun q => q.elim (fun x => absurd x h2) (fun x => absurd x h3))) hbad : False).elim
      · exact te_throw (X := XA) (names := te_up) hx hb hl0 (hml.trans hl.1.symm) hown te_fitA te_fitU (te_ow hts hN hT te_owA) (hts _ wd_388) (hts _ wd_15) (te_str hT wt_437) hnoh hlocks (Nat.le_refl _) d_G_place_54 d_G_place_57 d_G_place_58 d_G_place_60 d_G_place_63 (Nat.le_of_ble_eq_true rfl) (Nat.le_of_ble_eq_true rfl) (Nat.le_of_ble_eq_true rfl) (Nat.le_of_ble_eq_true rfl)
set_option maxHeartbeats 4000000 in
set_option maxRecDepth 100000 in
theorem t_placeCT3 (l : Launch) (hl0 : l.stackTraces = false) (dC : Nat → ClassId) (dI : Nat → Nat → Nat) (b0 : Nat) (ba : Nat) (bl : Nat) (bq : Nat) (bk : Nat) (bd : Nat) (bo : Nat) (be : Nat) (gz : Nat → Int32) (gl : Nat → Int64) (ko : Nat → Int32) (bc : Nat) (bs : Nat) (cP : ClassId) (ad : Nat → Nat) (pP : Nat → Nat → Int32) (ia : Int32) (ib : Int32) (ic : Int32) (id0 : Int32) (ha0 : ¬ (r_isWithin ia 0 5) = 0) (ha1 : ¬ (r_isWithin ib 0 4) = 0) (ha2 : ¬ (r_isWithin ic 0 100000) = 0) (ha3 : ¬ (r_isWithin id0 1 1000) = 0) (ha4 : ¬ (ko 2) = 0) : te_Met l y_G_place (wz y_G_place b_G_place 6 none) { frames := 7, cells := 1, slots := 6, locals := 102 } (va_Pc [.ref b0, .ref bc, .int ia, .int ib, .int ic, .int id0] (fun U => nw U ∧ va_P (dC, dI) vwCl [(b0, .inr (0, [.ref ba, .ref bl, .ref bq, .ref bk, .ref bd, .ref bo, .ref be, .int (gz 0), .int (gz 1), .long (gl 0)])), (bk, .inr (4, [.int (ko 0), .int (ko 1), .int (ko 2), .int (ko 3), .int (ko 4), .int (ko 5)])), (bq, .inr (3, [.ref bc, .ref bs])), (bc, .inl (cP, 6, .inr (.inr (.inr (.inr (fun j => some (ad j))))))), (ad 0, .inr (2, [.int ((pP 0) 0), .int ((pP 0) 1), .int ((pP 0) 2), .int ((pP 0) 3)])), (ad 1, .inr (2, [.int ((pP 1) 0), .int ((pP 1) 1), .int ((pP 1) 2), .int ((pP 1) 3)])), (ad 2, .inr (2, [.int ((pP 2) 0), .int ((pP 2) 1), .int ((pP 2) 2), .int ((pP 2) 3)])), (ad 3, .inr (2, [.int ((pP 3) 0), .int ((pP 3) 1), .int ((pP 3) 2), .int ((pP 3) 3)])), (ad 4, .inr (2, [.int ((pP 4) 0), .int ((pP 4) 1), .int ((pP 4) 2), .int ((pP 4) 3)])), (ad 5, .inr (2, [.int ((pP 5) 0), .int ((pP 5) 1), .int ((pP 5) 2), .int ((pP 5) 3)]))] U.heap ∧ va_K (dC, dI) vwCl [(cP, (.object "GridConverter$Point"))] U ∧ te_Ok U)) XS 1 6 := by
  refine te_ofW (cc := b_G_place) (maxL := 6) (ret := none) (by decide) rfl ?_
  intro p e s m args below meth c s₁ B hml hv
  obtain ⟨rfl, hN, hP, hK, hT⟩ := hv
  have hx := B.exec
  have hb := B.bytes
  have hr := B.returns
  have hts := fun w h => atoms_spec (ws := (wz y_G_place b_G_place 6 none)) B.pre w (List.mem_cons_of_mem _ h)
  have hown : s.vm.findClass R_G = some m.cls := findClass_of_methodNamed B.named
  have hlocks := B.notSynchronized
  have hnoh : c.exceptionTable.isEmpty = true := B.noHandlers (atoms_spec (ws := (wz y_G_place b_G_place 6 none)) B.pre _ List.mem_cons_self)
  obtain ⟨⟨t1, hZ1, hX1⟩, ⟨t2, hZ2, hX2⟩, t3, hZ3, hX3⟩ := hT.2.2.2.2
  have hl := lv_entry ([.ref b0, .ref bc, .int ia, .int ib, .int ic, .int id0]) (n := 6) (Nat.le_of_ble_eq_true rfl)
  rw [lg_entry_eq]
  generalize (lg_sl ([.ref b0, .ref bc, .int ia, .int ib, .int ic, .int id0]) ++ List.replicate (6 - (lg_sl ([.ref b0, .ref bc, .int ia, .int ib, .int ic, .int id0])).length) Slot.unset).toArray = ls at hl ⊢
  have hl : lv_has ls 6 [(0, .ref b0), (1, .ref bc), (2, .int ia), (3, .int ib), (4, .int ic), (5, .int id0)] := hl
  refine lv_iload_n hx hb d_G_place_0 rfl (lv_at hl 2 rfl) ?_
  refine lv_iconst (v := 0) hx hb d_G_place_1 (by decide) ?_
  refine lv_aload_n hx hb d_G_place_2 rfl (lv_at hl 1 rfl) ?_
  refine va_alen (v := 6) hx hb hK hP 3 0 rfl rfl (show Int32.ofNat 6 = 6 by decide) d_G_place_3 ?_
  refine lv_iconst (v := 1) hx hb d_G_place_4 (by decide) ?_
  refine lv_isub hx hb d_G_place_5 ?_
  refine kq_fi (y := 5) (by decide) ?_
  refine kq_R (r := .int (r_isWithin ia 0 5)) (va_runS (As := [.int ia, .int 0, .int 5]) (rest := []) ⟨hx, hb, hml, hown, hts⟩ (c_isWithin l dC dI ia 0 5) (kw_S (n := 3) hts wd_313 wd_314 wd_1 wd_315 rfl rfl (by decide +kernel) ⟨Nat.le_of_ble_eq_true rfl, Nat.le_of_ble_eq_true rfl⟩) (kq_preS hN (hP.sub (ws' := []) [] rfl) (hK.sub (tys' := []) [] rfl)) rfl rfl hl.1 rfl (lv_room (Nat.le_of_ble_eq_true rfl)) d_G_place_6 ⟨Nat.le_of_ble_eq_true rfl, Nat.le_of_ble_eq_true rfl⟩) ?_
  refine lv_if_ne hx hb (tgt := 22) d_G_place_9 rfl (fun _ => ?_) (fun h => absurd h ha0)
  refine lv_iload_n hx hb d_G_place_22 rfl (lv_at hl 3 rfl) ?_
  refine lv_iconst (v := 0) hx hb d_G_place_23 (by decide) ?_
  refine lv_iconst (v := 4) hx hb d_G_place_24 (by decide) ?_
  refine kq_R (r := .int (r_isWithin ib 0 4)) (va_runS (As := [.int ib, .int 0, .int 4]) (rest := []) ⟨hx, hb, hml, hown, hts⟩ (c_isWithin l dC dI ib 0 4) (kw_S (n := 3) hts wd_313 wd_314 wd_1 wd_315 rfl rfl (by decide +kernel) ⟨Nat.le_of_ble_eq_true rfl, Nat.le_of_ble_eq_true rfl⟩) (kq_preS hN (hP.sub (ws' := []) [] rfl) (hK.sub (tys' := []) [] rfl)) rfl rfl hl.1 rfl (lv_room (Nat.le_of_ble_eq_true rfl)) d_G_place_25 ⟨Nat.le_of_ble_eq_true rfl, Nat.le_of_ble_eq_true rfl⟩) ?_
  refine lv_if_eq hx hb (tgt := 54) d_G_place_28 rfl (fun h => absurd h ha1) (fun _ => ?_)
  refine lv_iload hx hb d_G_place_31 (lv_at hl 4 rfl) ?_
  refine lv_iconst (v := 0) hx hb d_G_place_33 (by decide) ?_
  refine lv_ldc (v := 100000) hx hb hown (hts _ wd_436) d_G_place_34 ?_
  refine kq_R (r := .int (r_isWithin ic 0 100000)) (va_runS (As := [.int ic, .int 0, .int 100000]) (rest := []) ⟨hx, hb, hml, hown, hts⟩ (c_isWithin l dC dI ic 0 100000) (kw_S (n := 3) hts wd_313 wd_314 wd_1 wd_315 rfl rfl (by decide +kernel) ⟨Nat.le_of_ble_eq_true rfl, Nat.le_of_ble_eq_true rfl⟩) (kq_preS hN (hP.sub (ws' := []) [] rfl) (hK.sub (tys' := []) [] rfl)) rfl rfl hl.1 rfl (lv_room (Nat.le_of_ble_eq_true rfl)) d_G_place_36 ⟨Nat.le_of_ble_eq_true rfl, Nat.le_of_ble_eq_true rfl⟩) ?_
  refine lv_if_eq hx hb (tgt := 54) d_G_place_39 rfl (fun h => absurd h ha2) (fun _ => ?_)
  refine lv_iload hx hb d_G_place_42 (lv_at hl 5 rfl) ?_
  refine lv_iconst (v := 1) hx hb d_G_place_44 (by decide) ?_
  refine lv_sipush (v := 1000) hx hb d_G_place_45 (by decide) ?_
  refine kq_R (r := .int (r_isWithin id0 1 1000)) (va_runS (As := [.int id0, .int 1, .int 1000]) (rest := []) ⟨hx, hb, hml, hown, hts⟩ (c_isWithin l dC dI id0 1 1000) (kw_S (n := 3) hts wd_313 wd_314 wd_1 wd_315 rfl rfl (by decide +kernel) ⟨Nat.le_of_ble_eq_true rfl, Nat.le_of_ble_eq_true rfl⟩) (kq_preS hN (hP.sub (ws' := []) [] rfl) (hK.sub (tys' := []) [] rfl)) rfl rfl hl.1 rfl (lv_room (Nat.le_of_ble_eq_true rfl)) d_G_place_48 ⟨Nat.le_of_ble_eq_true rfl, Nat.le_of_ble_eq_true rfl⟩) ?_
  refine lv_if_ne hx hb (tgt := 64) d_G_place_51 rfl (fun _ => ?_) (fun h => absurd h ha3)
  refine lv_aload_n hx hb d_G_place_64 rfl (lv_at hl 0 rfl) ?_
  exact te_passV (As := []) (rest := []) ⟨hx, hb, hml, hown, hts⟩ (t_refuseT l hl0 dC dI b0 ba bl bq bk bd bo be gz gl ko (by assumption)) (kw_V (n := 0) hts wd_404 wd_406 wp_3 wd_1 wd_407 rfl rfl (by decide +kernel) ⟨Nat.le_of_ble_eq_true rfl, Nat.le_of_ble_eq_true rfl⟩) (kq_preTV hN (hP.sub (ws' := [(b0, .inr (0, [.ref ba, .ref bl, .ref bq, .ref bk, .ref bd, .ref bo, .ref be, .int (gz 0), .int (gz 1), .long (gl 0)])), (bk, .inr (4, [.int (ko 0), .int (ko 1), .int (ko 2), .int (ko 3), .int (ko 4), .int (ko 5)]))]) [0, 1] rfl) (hK.sub (tys' := []) [] rfl) hT (fun _ _ => rfl) 0 rfl rfl) hnoh hlocks (Nat.le_refl _) rfl hl.1 rfl (Nat.le_of_ble_eq_true rfl) d_G_place_65 ⟨Nat.le_of_ble_eq_true rfl, Nat.le_of_ble_eq_true rfl⟩
set_option maxHeartbeats 4000000 in
set_option maxRecDepth 100000 in
theorem t_curveT1 (l : Launch) (hl0 : l.stackTraces = false) (dC : Nat → ClassId) (dI : Nat → Nat → Nat) (b0 : Nat) (ba : Nat) (bl : Nat) (bq : Nat) (bk : Nat) (bd : Nat) (bo : Nat) (be : Nat) (gz : Nat → Int32) (gl : Nat → Int64) (ko : Nat → Int32) (bc : Nat) (bs : Nat) (cP : ClassId) (ad : Nat → Nat) (pP : Nat → Nat → Int32) (ia : Int32) (ib : Int32) (ic : Int32) (id0 : Int32) (ha0 : (r_isWithin ia 0 5) = 0) : te_Met l y_G_curve (wz y_G_curve b_G_curve 5 none) { frames := 7, cells := 1, slots := 6, locals := 107 } (va_Pc [.ref b0, .int ia, .int ib, .int ic, .int id0] (fun U => nw U ∧ va_P (dC, dI) vwCl [(b0, .inr (0, [.ref ba, .ref bl, .ref bq, .ref bk, .ref bd, .ref bo, .ref be, .int (gz 0), .int (gz 1), .long (gl 0)])), (bk, .inr (4, [.int (ko 0), .int (ko 1), .int (ko 2), .int (ko 3), .int (ko 4), .int (ko 5)])), (bq, .inr (3, [.ref bc, .ref bs])), (bc, .inl (cP, 6, .inr (.inr (.inr (.inr (fun j => some (ad j))))))), (ad 0, .inr (2, [.int ((pP 0) 0), .int ((pP 0) 1), .int ((pP 0) 2), .int ((pP 0) 3)])), (ad 1, .inr (2, [.int ((pP 1) 0), .int ((pP 1) 1), .int ((pP 1) 2), .int ((pP 1) 3)])), (ad 2, .inr (2, [.int ((pP 2) 0), .int ((pP 2) 1), .int ((pP 2) 2), .int ((pP 2) 3)])), (ad 3, .inr (2, [.int ((pP 3) 0), .int ((pP 3) 1), .int ((pP 3) 2), .int ((pP 3) 3)])), (ad 4, .inr (2, [.int ((pP 4) 0), .int ((pP 4) 1), .int ((pP 4) 2), .int ((pP 4) 3)])), (ad 5, .inr (2, [.int ((pP 5) 0), .int ((pP 5) 1), .int ((pP 5) 2), .int ((pP 5) 3)]))] U.heap ∧ va_K (dC, dI) vwCl [(cP, (.object "GridConverter$Point"))] U ∧ te_Ok U)) XI 1 6 := by
  refine te_ofW (cc := b_G_curve) (maxL := 5) (ret := none) (by decide) rfl ?_
  intro p e s m args below meth c s₁ B hml hv
  obtain ⟨rfl, hN, hP, hK, hT⟩ := hv
  have hx := B.exec
  have hb := B.bytes
  have hr := B.returns
  have hts := fun w h => atoms_spec (ws := (wz y_G_curve b_G_curve 5 none)) B.pre w (List.mem_cons_of_mem _ h)
  have hown : s.vm.findClass R_G = some m.cls := findClass_of_methodNamed B.named
  have hlocks := B.notSynchronized
  have hnoh : c.exceptionTable.isEmpty = true := B.noHandlers (atoms_spec (ws := (wz y_G_curve b_G_curve 5 none)) B.pre _ List.mem_cons_self)
  obtain ⟨⟨t1, hZ1, hX1⟩, ⟨t2, hZ2, hX2⟩, t3, hZ3, hX3⟩ := hT.2.2.2.2
  have hl := lv_entry ([.ref b0, .int ia, .int ib, .int ic, .int id0]) (n := 5) (Nat.le_of_ble_eq_true rfl)
  rw [lg_entry_eq]
  generalize (lg_sl ([.ref b0, .int ia, .int ib, .int ic, .int id0]) ++ List.replicate (5 - (lg_sl ([.ref b0, .int ia, .int ib, .int ic, .int id0])).length) Slot.unset).toArray = ls at hl ⊢
  have hl : lv_has ls 5 [(0, .ref b0), (1, .int ia), (2, .int ib), (3, .int ic), (4, .int id0)] := hl
  refine lv_aload_n hx hb d_G_curve_0 rfl (lv_at hl 0 rfl) ?_
  refine lv_aload_n hx hb d_G_curve_1 rfl (lv_at hl 0 rfl) ?_
  refine va_get (D := (dC, dI)) (ci := 0) (v := .ref bq) (C := R_G) (T := T_G) (N := 10) hx hb hts uin_G hown hK hP 0 rfl rfl 2 (by decide) (hts _ wd_228) (fun _ h9 => h9) rfl d_G_curve_2 ?_
  refine va_getN (D := (dC, dI)) (ci := 3) (v := .ref bc) (C := R_Pr) (T := T_Pr) (N := 2) hx hb hts uin_Pr hown hK hP 2 rfl rfl 0 (by decide) (nw_use hN wd_123) (fun _ h9 => h9) rfl d_G_curve_5 ?_
  refine lv_iload_n hx hb d_G_curve_8 rfl (lv_at hl 1 rfl) ?_
  refine lv_iload_n hx hb d_G_curve_9 rfl (lv_at hl 2 rfl) ?_
  refine lv_iload_n hx hb d_G_curve_10 rfl (lv_at hl 3 rfl) ?_
  refine lv_iload hx hb d_G_curve_11 (lv_at hl 4 rfl) ?_
  exact te_passV (As := [.ref bc, .int ia, .int ib, .int ic, .int id0]) (rest := []) ⟨hx, hb, hml, hown, hts⟩ (t_placeCT1 l hl0 dC dI b0 ba bl bq bk bd bo be gz gl ko bc bs cP ad pP ia ib ic id0 (by assumption)) (kw_V (n := 5) hts wd_431 wd_433 wp_4 wd_1 wd_434 rfl rfl (by decide +kernel) ⟨Nat.le_of_ble_eq_true rfl, Nat.le_of_ble_eq_true rfl⟩) (kq_preTV hN (hP.sub (ws' := [(b0, .inr (0, [.ref ba, .ref bl, .ref bq, .ref bk, .ref bd, .ref bo, .ref be, .int (gz 0), .int (gz 1), .long (gl 0)])), (bk, .inr (4, [.int (ko 0), .int (ko 1), .int (ko 2), .int (ko 3), .int (ko 4), .int (ko 5)])), (bq, .inr (3, [.ref bc, .ref bs])), (bc, .inl (cP, 6, .inr (.inr (.inr (.inr (fun j => some (ad j))))))), (ad 0, .inr (2, [.int ((pP 0) 0), .int ((pP 0) 1), .int ((pP 0) 2), .int ((pP 0) 3)])), (ad 1, .inr (2, [.int ((pP 1) 0), .int ((pP 1) 1), .int ((pP 1) 2), .int ((pP 1) 3)])), (ad 2, .inr (2, [.int ((pP 2) 0), .int ((pP 2) 1), .int ((pP 2) 2), .int ((pP 2) 3)])), (ad 3, .inr (2, [.int ((pP 3) 0), .int ((pP 3) 1), .int ((pP 3) 2), .int ((pP 3) 3)])), (ad 4, .inr (2, [.int ((pP 4) 0), .int ((pP 4) 1), .int ((pP 4) 2), .int ((pP 4) 3)])), (ad 5, .inr (2, [.int ((pP 5) 0), .int ((pP 5) 1), .int ((pP 5) 2), .int ((pP 5) 3)]))]) [0, 1, 2, 3, 4, 5, 6, 7, 8, 9] rfl) (hK.sub (tys' := [(cP, (.object "GridConverter$Point"))]) [0] rfl) hT (fun _ _ => rfl) 0 rfl rfl) hnoh hlocks (Nat.le_refl _) rfl hl.1 rfl (Nat.le_of_ble_eq_true rfl) d_G_curve_13 ⟨Nat.le_of_ble_eq_true rfl, Nat.le_of_ble_eq_true rfl⟩
set_option maxHeartbeats 4000000 in
set_option maxRecDepth 100000 in
theorem t_curveT2 (l : Launch) (hl0 : l.stackTraces = false) (dC : Nat → ClassId) (dI : Nat → Nat → Nat) (b0 : Nat) (ba : Nat) (bl : Nat) (bq : Nat) (bk : Nat) (bd : Nat) (bo : Nat) (be : Nat) (gz : Nat → Int32) (gl : Nat → Int64) (ko : Nat → Int32) (bc : Nat) (bs : Nat) (cP : ClassId) (ad : Nat → Nat) (pP : Nat → Nat → Int32) (ia : Int32) (ib : Int32) (ic : Int32) (id0 : Int32) (hbad : (r_isWithin ib 0 4) = 0 ∨ (r_isWithin ic 0 100000) = 0 ∨ (r_isWithin id0 1 1000) = 0) (ha0 : ¬ (r_isWithin ia 0 5) = 0) : te_Met l y_G_curve (wz y_G_curve b_G_curve 5 none) { frames := 7, cells := 1, slots := 6, locals := 107 } (va_Pc [.ref b0, .int ia, .int ib, .int ic, .int id0] (fun U => nw U ∧ va_P (dC, dI) vwCl [(b0, .inr (0, [.ref ba, .ref bl, .ref bq, .ref bk, .ref bd, .ref bo, .ref be, .int (gz 0), .int (gz 1), .long (gl 0)])), (bk, .inr (4, [.int (ko 0), .int (ko 1), .int (ko 2), .int (ko 3), .int (ko 4), .int (ko 5)])), (bq, .inr (3, [.ref bc, .ref bs])), (bc, .inl (cP, 6, .inr (.inr (.inr (.inr (fun j => some (ad j))))))), (ad 0, .inr (2, [.int ((pP 0) 0), .int ((pP 0) 1), .int ((pP 0) 2), .int ((pP 0) 3)])), (ad 1, .inr (2, [.int ((pP 1) 0), .int ((pP 1) 1), .int ((pP 1) 2), .int ((pP 1) 3)])), (ad 2, .inr (2, [.int ((pP 2) 0), .int ((pP 2) 1), .int ((pP 2) 2), .int ((pP 2) 3)])), (ad 3, .inr (2, [.int ((pP 3) 0), .int ((pP 3) 1), .int ((pP 3) 2), .int ((pP 3) 3)])), (ad 4, .inr (2, [.int ((pP 4) 0), .int ((pP 4) 1), .int ((pP 4) 2), .int ((pP 4) 3)])), (ad 5, .inr (2, [.int ((pP 5) 0), .int ((pP 5) 1), .int ((pP 5) 2), .int ((pP 5) 3)]))] U.heap ∧ va_K (dC, dI) vwCl [(cP, (.object "GridConverter$Point"))] U ∧ te_Ok U)) XA 1 6 := by
  refine te_ofW (cc := b_G_curve) (maxL := 5) (ret := none) (by decide) rfl ?_
  intro p e s m args below meth c s₁ B hml hv
  obtain ⟨rfl, hN, hP, hK, hT⟩ := hv
  have hx := B.exec
  have hb := B.bytes
  have hr := B.returns
  have hts := fun w h => atoms_spec (ws := (wz y_G_curve b_G_curve 5 none)) B.pre w (List.mem_cons_of_mem _ h)
  have hown : s.vm.findClass R_G = some m.cls := findClass_of_methodNamed B.named
  have hlocks := B.notSynchronized
  have hnoh : c.exceptionTable.isEmpty = true := B.noHandlers (atoms_spec (ws := (wz y_G_curve b_G_curve 5 none)) B.pre _ List.mem_cons_self)
  obtain ⟨⟨t1, hZ1, hX1⟩, ⟨t2, hZ2, hX2⟩, t3, hZ3, hX3⟩ := hT.2.2.2.2
  have hl := lv_entry ([.ref b0, .int ia, .int ib, .int ic, .int id0]) (n := 5) (Nat.le_of_ble_eq_true rfl)
  rw [lg_entry_eq]
  generalize (lg_sl ([.ref b0, .int ia, .int ib, .int ic, .int id0]) ++ List.replicate (5 - (lg_sl ([.ref b0, .int ia, .int ib, .int ic, .int id0])).length) Slot.unset).toArray = ls at hl ⊢
  have hl : lv_has ls 5 [(0, .ref b0), (1, .int ia), (2, .int ib), (3, .int ic), (4, .int id0)] := hl
  refine lv_aload_n hx hb d_G_curve_0 rfl (lv_at hl 0 rfl) ?_
  refine lv_aload_n hx hb d_G_curve_1 rfl (lv_at hl 0 rfl) ?_
  refine va_get (D := (dC, dI)) (ci := 0) (v := .ref bq) (C := R_G) (T := T_G) (N := 10) hx hb hts uin_G hown hK hP 0 rfl rfl 2 (by decide) (hts _ wd_228) (fun _ h9 => h9) rfl d_G_curve_2 ?_
  refine va_getN (D := (dC, dI)) (ci := 3) (v := .ref bc) (C := R_Pr) (T := T_Pr) (N := 2) hx hb hts uin_Pr hown hK hP 2 rfl rfl 0 (by decide) (nw_use hN wd_123) (fun _ h9 => h9) rfl d_G_curve_5 ?_
  refine lv_iload_n hx hb d_G_curve_8 rfl (lv_at hl 1 rfl) ?_
  refine lv_iload_n hx hb d_G_curve_9 rfl (lv_at hl 2 rfl) ?_
  refine lv_iload_n hx hb d_G_curve_10 rfl (lv_at hl 3 rfl) ?_
  refine lv_iload hx hb d_G_curve_11 (lv_at hl 4 rfl) ?_
  exact te_passV (As := [.ref bc, .int ia, .int ib, .int ic, .int id0]) (rest := []) ⟨hx, hb, hml, hown, hts⟩ (t_placeCT2 l hl0 dC dI b0 ba bl bq bk bd bo be gz gl ko bc bs cP ad pP ia ib ic id0 (by assumption) (by assumption)) (kw_V (n := 5) hts wd_431 wd_433 wp_4 wd_1 wd_434 rfl rfl (by decide +kernel) ⟨Nat.le_of_ble_eq_true rfl, Nat.le_of_ble_eq_true rfl⟩) (kq_preTV hN (hP.sub (ws' := [(b0, .inr (0, [.ref ba, .ref bl, .ref bq, .ref bk, .ref bd, .ref bo, .ref be, .int (gz 0), .int (gz 1), .long (gl 0)])), (bk, .inr (4, [.int (ko 0), .int (ko 1), .int (ko 2), .int (ko 3), .int (ko 4), .int (ko 5)])), (bq, .inr (3, [.ref bc, .ref bs])), (bc, .inl (cP, 6, .inr (.inr (.inr (.inr (fun j => some (ad j))))))), (ad 0, .inr (2, [.int ((pP 0) 0), .int ((pP 0) 1), .int ((pP 0) 2), .int ((pP 0) 3)])), (ad 1, .inr (2, [.int ((pP 1) 0), .int ((pP 1) 1), .int ((pP 1) 2), .int ((pP 1) 3)])), (ad 2, .inr (2, [.int ((pP 2) 0), .int ((pP 2) 1), .int ((pP 2) 2), .int ((pP 2) 3)])), (ad 3, .inr (2, [.int ((pP 3) 0), .int ((pP 3) 1), .int ((pP 3) 2), .int ((pP 3) 3)])), (ad 4, .inr (2, [.int ((pP 4) 0), .int ((pP 4) 1), .int ((pP 4) 2), .int ((pP 4) 3)])), (ad 5, .inr (2, [.int ((pP 5) 0), .int ((pP 5) 1), .int ((pP 5) 2), .int ((pP 5) 3)]))]) [0, 1, 2, 3, 4, 5, 6, 7, 8, 9] rfl) (hK.sub (tys' := [(cP, (.object "GridConverter$Point"))]) [0] rfl) hT (fun _ _ => rfl) 0 rfl rfl) hnoh hlocks (Nat.le_refl _) rfl hl.1 rfl (Nat.le_of_ble_eq_true rfl) d_G_curve_13 ⟨Nat.le_of_ble_eq_true rfl, Nat.le_of_ble_eq_true rfl⟩
set_option maxHeartbeats 4000000 in
set_option maxRecDepth 100000 in
theorem t_curveT3 (l : Launch) (hl0 : l.stackTraces = false) (dC : Nat → ClassId) (dI : Nat → Nat → Nat) (b0 : Nat) (ba : Nat) (bl : Nat) (bq : Nat) (bk : Nat) (bd : Nat) (bo : Nat) (be : Nat) (gz : Nat → Int32) (gl : Nat → Int64) (ko : Nat → Int32) (bc : Nat) (bs : Nat) (cP : ClassId) (ad : Nat → Nat) (pP : Nat → Nat → Int32) (ia : Int32) (ib : Int32) (ic : Int32) (id0 : Int32) (ha0 : ¬ (r_isWithin ia 0 5) = 0) (ha1 : ¬ (r_isWithin ib 0 4) = 0) (ha2 : ¬ (r_isWithin ic 0 100000) = 0) (ha3 : ¬ (r_isWithin id0 1 1000) = 0) (ha4 : ¬ (ko 2) = 0) : te_Met l y_G_curve (wz y_G_curve b_G_curve 5 none) { frames := 8, cells := 1, slots := 6, locals := 127 } (va_Pc [.ref b0, .int ia, .int ib, .int ic, .int id0] (fun U => nw U ∧ va_P (dC, dI) vwCl [(b0, .inr (0, [.ref ba, .ref bl, .ref bq, .ref bk, .ref bd, .ref bo, .ref be, .int (gz 0), .int (gz 1), .long (gl 0)])), (bk, .inr (4, [.int (ko 0), .int (ko 1), .int (ko 2), .int (ko 3), .int (ko 4), .int (ko 5)])), (bq, .inr (3, [.ref bc, .ref bs])), (bc, .inl (cP, 6, .inr (.inr (.inr (.inr (fun j => some (ad j))))))), (ad 0, .inr (2, [.int ((pP 0) 0), .int ((pP 0) 1), .int ((pP 0) 2), .int ((pP 0) 3)])), (ad 1, .inr (2, [.int ((pP 1) 0), .int ((pP 1) 1), .int ((pP 1) 2), .int ((pP 1) 3)])), (ad 2, .inr (2, [.int ((pP 2) 0), .int ((pP 2) 1), .int ((pP 2) 2), .int ((pP 2) 3)])), (ad 3, .inr (2, [.int ((pP 3) 0), .int ((pP 3) 1), .int ((pP 3) 2), .int ((pP 3) 3)])), (ad 4, .inr (2, [.int ((pP 4) 0), .int ((pP 4) 1), .int ((pP 4) 2), .int ((pP 4) 3)])), (ad 5, .inr (2, [.int ((pP 5) 0), .int ((pP 5) 1), .int ((pP 5) 2), .int ((pP 5) 3)]))] U.heap ∧ va_K (dC, dI) vwCl [(cP, (.object "GridConverter$Point"))] U ∧ te_Ok U)) XS 1 6 := by
  refine te_ofW (cc := b_G_curve) (maxL := 5) (ret := none) (by decide) rfl ?_
  intro p e s m args below meth c s₁ B hml hv
  obtain ⟨rfl, hN, hP, hK, hT⟩ := hv
  have hx := B.exec
  have hb := B.bytes
  have hr := B.returns
  have hts := fun w h => atoms_spec (ws := (wz y_G_curve b_G_curve 5 none)) B.pre w (List.mem_cons_of_mem _ h)
  have hown : s.vm.findClass R_G = some m.cls := findClass_of_methodNamed B.named
  have hlocks := B.notSynchronized
  have hnoh : c.exceptionTable.isEmpty = true := B.noHandlers (atoms_spec (ws := (wz y_G_curve b_G_curve 5 none)) B.pre _ List.mem_cons_self)
  obtain ⟨⟨t1, hZ1, hX1⟩, ⟨t2, hZ2, hX2⟩, t3, hZ3, hX3⟩ := hT.2.2.2.2
  have hl := lv_entry ([.ref b0, .int ia, .int ib, .int ic, .int id0]) (n := 5) (Nat.le_of_ble_eq_true rfl)
  rw [lg_entry_eq]
  generalize (lg_sl ([.ref b0, .int ia, .int ib, .int ic, .int id0]) ++ List.replicate (5 - (lg_sl ([.ref b0, .int ia, .int ib, .int ic, .int id0])).length) Slot.unset).toArray = ls at hl ⊢
  have hl : lv_has ls 5 [(0, .ref b0), (1, .int ia), (2, .int ib), (3, .int ic), (4, .int id0)] := hl
  refine lv_aload_n hx hb d_G_curve_0 rfl (lv_at hl 0 rfl) ?_
  refine lv_aload_n hx hb d_G_curve_1 rfl (lv_at hl 0 rfl) ?_
  refine va_get (D := (dC, dI)) (ci := 0) (v := .ref bq) (C := R_G) (T := T_G) (N := 10) hx hb hts uin_G hown hK hP 0 rfl rfl 2 (by decide) (hts _ wd_228) (fun _ h9 => h9) rfl d_G_curve_2 ?_
  refine va_getN (D := (dC, dI)) (ci := 3) (v := .ref bc) (C := R_Pr) (T := T_Pr) (N := 2) hx hb hts uin_Pr hown hK hP 2 rfl rfl 0 (by decide) (nw_use hN wd_123) (fun _ h9 => h9) rfl d_G_curve_5 ?_
  refine lv_iload_n hx hb d_G_curve_8 rfl (lv_at hl 1 rfl) ?_
  refine lv_iload_n hx hb d_G_curve_9 rfl (lv_at hl 2 rfl) ?_
  refine lv_iload_n hx hb d_G_curve_10 rfl (lv_at hl 3 rfl) ?_
  refine lv_iload hx hb d_G_curve_11 (lv_at hl 4 rfl) ?_
  exact te_passV (As := [.ref bc, .int ia, .int ib, .int ic, .int id0]) (rest := []) ⟨hx, hb, hml, hown, hts⟩ (t_placeCT3 l hl0 dC dI b0 ba bl bq bk bd bo be gz gl ko bc bs cP ad pP ia ib ic id0 (by assumption) (by assumption) (by assumption) (by assumption) (by assumption)) (kw_V (n := 5) hts wd_431 wd_433 wp_4 wd_1 wd_434 rfl rfl (by decide +kernel) ⟨Nat.le_of_ble_eq_true rfl, Nat.le_of_ble_eq_true rfl⟩) (kq_preTV hN (hP.sub (ws' := [(b0, .inr (0, [.ref ba, .ref bl, .ref bq, .ref bk, .ref bd, .ref bo, .ref be, .int (gz 0), .int (gz 1), .long (gl 0)])), (bk, .inr (4, [.int (ko 0), .int (ko 1), .int (ko 2), .int (ko 3), .int (ko 4), .int (ko 5)])), (bq, .inr (3, [.ref bc, .ref bs])), (bc, .inl (cP, 6, .inr (.inr (.inr (.inr (fun j => some (ad j))))))), (ad 0, .inr (2, [.int ((pP 0) 0), .int ((pP 0) 1), .int ((pP 0) 2), .int ((pP 0) 3)])), (ad 1, .inr (2, [.int ((pP 1) 0), .int ((pP 1) 1), .int ((pP 1) 2), .int ((pP 1) 3)])), (ad 2, .inr (2, [.int ((pP 2) 0), .int ((pP 2) 1), .int ((pP 2) 2), .int ((pP 2) 3)])), (ad 3, .inr (2, [.int ((pP 3) 0), .int ((pP 3) 1), .int ((pP 3) 2), .int ((pP 3) 3)])), (ad 4, .inr (2, [.int ((pP 4) 0), .int ((pP 4) 1), .int ((pP 4) 2), .int ((pP 4) 3)])), (ad 5, .inr (2, [.int ((pP 5) 0), .int ((pP 5) 1), .int ((pP 5) 2), .int ((pP 5) 3)]))]) [0, 1, 2, 3, 4, 5, 6, 7, 8, 9] rfl) (hK.sub (tys' := [(cP, (.object "GridConverter$Point"))]) [0] rfl) hT (fun _ _ => rfl) 0 rfl rfl) hnoh hlocks (Nat.le_refl _) rfl hl.1 rfl (Nat.le_of_ble_eq_true rfl) d_G_curve_13 ⟨Nat.le_of_ble_eq_true rfl, Nat.le_of_ble_eq_true rfl⟩
set_option maxHeartbeats 4000000 in
set_option maxRecDepth 100000 in
theorem t_placeST1 (l : Launch) (hl0 : l.stackTraces = false) (dC : Nat → ClassId) (dI : Nat → Nat → Nat) (b0 : Nat) (ba : Nat) (bl : Nat) (bq : Nat) (bk : Nat) (bd : Nat) (bo : Nat) (be : Nat) (gz : Nat → Int32) (gl : Nat → Int64) (ko : Nat → Int32) (bc : Nat) (bs : Nat) (cP : ClassId) (ae : Nat → Nat) (pS : Nat → Nat → Int32) (ia : Int32) (ib : Int32) (ic : Int32) (id0 : Int32) (ha0 : (r_isWithin ia 0 3) = 0) : te_Met l y_G_place (wz y_G_place b_G_place 6 none) { frames := 6, cells := 1, slots := 6, locals := 82 } (va_Pc [.ref b0, .ref bs, .int ia, .int ib, .int ic, .int id0] (fun U => nw U ∧ va_P (dC, dI) vwCl [(b0, .inr (0, [.ref ba, .ref bl, .ref bq, .ref bk, .ref bd, .ref bo, .ref be, .int (gz 0), .int (gz 1), .long (gl 0)])), (bk, .inr (4, [.int (ko 0), .int (ko 1), .int (ko 2), .int (ko 3), .int (ko 4), .int (ko 5)])), (bq, .inr (3, [.ref bc, .ref bs])), (bs, .inl (cP, 4, .inr (.inr (.inr (.inr (fun j => some (ae j))))))), (ae 0, .inr (2, [.int ((pS 0) 0), .int ((pS 0) 1), .int ((pS 0) 2), .int ((pS 0) 3)])), (ae 1, .inr (2, [.int ((pS 1) 0), .int ((pS 1) 1), .int ((pS 1) 2), .int ((pS 1) 3)])), (ae 2, .inr (2, [.int ((pS 2) 0), .int ((pS 2) 1), .int ((pS 2) 2), .int ((pS 2) 3)])), (ae 3, .inr (2, [.int ((pS 3) 0), .int ((pS 3) 1), .int ((pS 3) 2), .int ((pS 3) 3)]))] U.heap ∧ va_K (dC, dI) vwCl [(cP, (.object "GridConverter$Point"))] U ∧ te_Ok U)) XI 1 6 := by
  refine te_ofW (cc := b_G_place) (maxL := 6) (ret := none) (by decide) rfl ?_
  intro p e s m args below meth c s₁ B hml hv
  obtain ⟨rfl, hN, hP, hK, hT⟩ := hv
  have hx := B.exec
  have hb := B.bytes
  have hr := B.returns
  have hts := fun w h => atoms_spec (ws := (wz y_G_place b_G_place 6 none)) B.pre w (List.mem_cons_of_mem _ h)
  have hown : s.vm.findClass R_G = some m.cls := findClass_of_methodNamed B.named
  have hlocks := B.notSynchronized
  have hnoh : c.exceptionTable.isEmpty = true := B.noHandlers (atoms_spec (ws := (wz y_G_place b_G_place 6 none)) B.pre _ List.mem_cons_self)
  obtain ⟨⟨t1, hZ1, hX1⟩, ⟨t2, hZ2, hX2⟩, t3, hZ3, hX3⟩ := hT.2.2.2.2
  have hl := lv_entry ([.ref b0, .ref bs, .int ia, .int ib, .int ic, .int id0]) (n := 6) (Nat.le_of_ble_eq_true rfl)
  rw [lg_entry_eq]
  generalize (lg_sl ([.ref b0, .ref bs, .int ia, .int ib, .int ic, .int id0]) ++ List.replicate (6 - (lg_sl ([.ref b0, .ref bs, .int ia, .int ib, .int ic, .int id0])).length) Slot.unset).toArray = ls at hl ⊢
  have hl : lv_has ls 6 [(0, .ref b0), (1, .ref bs), (2, .int ia), (3, .int ib), (4, .int ic), (5, .int id0)] := hl
  refine lv_iload_n hx hb d_G_place_0 rfl (lv_at hl 2 rfl) ?_
  refine lv_iconst (v := 0) hx hb d_G_place_1 (by decide) ?_
  refine lv_aload_n hx hb d_G_place_2 rfl (lv_at hl 1 rfl) ?_
  refine va_alen (v := 4) hx hb hK hP 3 0 rfl rfl (show Int32.ofNat 4 = 4 by decide) d_G_place_3 ?_
  refine lv_iconst (v := 1) hx hb d_G_place_4 (by decide) ?_
  refine lv_isub hx hb d_G_place_5 ?_
  refine kq_fi (y := 3) (by decide) ?_
  refine kq_R (r := .int (r_isWithin ia 0 3)) (va_runS (As := [.int ia, .int 0, .int 3]) (rest := []) ⟨hx, hb, hml, hown, hts⟩ (c_isWithin l dC dI ia 0 3) (kw_S (n := 3) hts wd_313 wd_314 wd_1 wd_315 rfl rfl (by decide +kernel) ⟨Nat.le_of_ble_eq_true rfl, Nat.le_of_ble_eq_true rfl⟩) (kq_preS hN (hP.sub (ws' := []) [] rfl) (hK.sub (tys' := []) [] rfl)) rfl rfl hl.1 rfl (lv_room (Nat.le_of_ble_eq_true rfl)) d_G_place_6 ⟨Nat.le_of_ble_eq_true rfl, Nat.le_of_ble_eq_true rfl⟩) ?_
  refine lv_if_ne hx hb (tgt := 22) d_G_place_9 rfl (fun h => absurd ha0 h) (fun _ => ?_)
  exact te_throw (X := XI) (names := te_up) hx hb hl0 (hml.trans hl.1.symm) hown te_fitI te_fitU (te_ow hts hN hT te_owI) (hts _ wd_316) (hts _ wd_14) (te_str hT wt_435) hnoh hlocks (Nat.le_refl _) d_G_place_12 d_G_place_15 d_G_place_16 d_G_place_18 d_G_place_21 (Nat.le_of_ble_eq_true rfl) (Nat.le_of_ble_eq_true rfl) (Nat.le_of_ble_eq_true rfl) (Nat.le_of_ble_eq_true rfl)
set_option maxHeartbeats 4000000 in
set_option maxRecDepth 100000 in
theorem t_placeST2 (l : Launch) (hl0 : l.stackTraces = false) (dC : Nat → ClassId) (dI : Nat → Nat → Nat) (b0 : Nat) (ba : Nat) (bl : Nat) (bq : Nat) (bk : Nat) (bd : Nat) (bo : Nat) (be : Nat) (gz : Nat → Int32) (gl : Nat → Int64) (ko : Nat → Int32) (bc : Nat) (bs : Nat) (cP : ClassId) (ae : Nat → Nat) (pS : Nat → Nat → Int32) (ia : Int32) (ib : Int32) (ic : Int32) (id0 : Int32) (hbad : (r_isWithin ib 0 4) = 0 ∨ (r_isWithin ic 0 100000) = 0 ∨ (r_isWithin id0 1 1000) = 0) (ha0 : ¬ (r_isWithin ia 0 3) = 0) : te_Met l y_G_place (wz y_G_place b_G_place 6 none) { frames := 6, cells := 1, slots := 6, locals := 82 } (va_Pc [.ref b0, .ref bs, .int ia, .int ib, .int ic, .int id0] (fun U => nw U ∧ va_P (dC, dI) vwCl [(b0, .inr (0, [.ref ba, .ref bl, .ref bq, .ref bk, .ref bd, .ref bo, .ref be, .int (gz 0), .int (gz 1), .long (gl 0)])), (bk, .inr (4, [.int (ko 0), .int (ko 1), .int (ko 2), .int (ko 3), .int (ko 4), .int (ko 5)])), (bq, .inr (3, [.ref bc, .ref bs])), (bs, .inl (cP, 4, .inr (.inr (.inr (.inr (fun j => some (ae j))))))), (ae 0, .inr (2, [.int ((pS 0) 0), .int ((pS 0) 1), .int ((pS 0) 2), .int ((pS 0) 3)])), (ae 1, .inr (2, [.int ((pS 1) 0), .int ((pS 1) 1), .int ((pS 1) 2), .int ((pS 1) 3)])), (ae 2, .inr (2, [.int ((pS 2) 0), .int ((pS 2) 1), .int ((pS 2) 2), .int ((pS 2) 3)])), (ae 3, .inr (2, [.int ((pS 3) 0), .int ((pS 3) 1), .int ((pS 3) 2), .int ((pS 3) 3)]))] U.heap ∧ va_K (dC, dI) vwCl [(cP, (.object "GridConverter$Point"))] U ∧ te_Ok U)) XA 1 6 := by
  refine te_ofW (cc := b_G_place) (maxL := 6) (ret := none) (by decide) rfl ?_
  intro p e s m args below meth c s₁ B hml hv
  obtain ⟨rfl, hN, hP, hK, hT⟩ := hv
  have hx := B.exec
  have hb := B.bytes
  have hr := B.returns
  have hts := fun w h => atoms_spec (ws := (wz y_G_place b_G_place 6 none)) B.pre w (List.mem_cons_of_mem _ h)
  have hown : s.vm.findClass R_G = some m.cls := findClass_of_methodNamed B.named
  have hlocks := B.notSynchronized
  have hnoh : c.exceptionTable.isEmpty = true := B.noHandlers (atoms_spec (ws := (wz y_G_place b_G_place 6 none)) B.pre _ List.mem_cons_self)
  obtain ⟨⟨t1, hZ1, hX1⟩, ⟨t2, hZ2, hX2⟩, t3, hZ3, hX3⟩ := hT.2.2.2.2
  have hl := lv_entry ([.ref b0, .ref bs, .int ia, .int ib, .int ic, .int id0]) (n := 6) (Nat.le_of_ble_eq_true rfl)
  rw [lg_entry_eq]
  generalize (lg_sl ([.ref b0, .ref bs, .int ia, .int ib, .int ic, .int id0]) ++ List.replicate (6 - (lg_sl ([.ref b0, .ref bs, .int ia, .int ib, .int ic, .int id0])).length) Slot.unset).toArray = ls at hl ⊢
  have hl : lv_has ls 6 [(0, .ref b0), (1, .ref bs), (2, .int ia), (3, .int ib), (4, .int ic), (5, .int id0)] := hl
  refine lv_iload_n hx hb d_G_place_0 rfl (lv_at hl 2 rfl) ?_
  refine lv_iconst (v := 0) hx hb d_G_place_1 (by decide) ?_
  refine lv_aload_n hx hb d_G_place_2 rfl (lv_at hl 1 rfl) ?_
  refine va_alen (v := 4) hx hb hK hP 3 0 rfl rfl (show Int32.ofNat 4 = 4 by decide) d_G_place_3 ?_
  refine lv_iconst (v := 1) hx hb d_G_place_4 (by decide) ?_
  refine lv_isub hx hb d_G_place_5 ?_
  refine kq_fi (y := 3) (by decide) ?_
  refine kq_R (r := .int (r_isWithin ia 0 3)) (va_runS (As := [.int ia, .int 0, .int 3]) (rest := []) ⟨hx, hb, hml, hown, hts⟩ (c_isWithin l dC dI ia 0 3) (kw_S (n := 3) hts wd_313 wd_314 wd_1 wd_315 rfl rfl (by decide +kernel) ⟨Nat.le_of_ble_eq_true rfl, Nat.le_of_ble_eq_true rfl⟩) (kq_preS hN (hP.sub (ws' := []) [] rfl) (hK.sub (tys' := []) [] rfl)) rfl rfl hl.1 rfl (lv_room (Nat.le_of_ble_eq_true rfl)) d_G_place_6 ⟨Nat.le_of_ble_eq_true rfl, Nat.le_of_ble_eq_true rfl⟩) ?_
  refine lv_if_ne hx hb (tgt := 22) d_G_place_9 rfl (fun _ => ?_) (fun h => absurd h ha0)
  refine lv_iload_n hx hb d_G_place_22 rfl (lv_at hl 3 rfl) ?_
  refine lv_iconst (v := 0) hx hb d_G_place_23 (by decide) ?_
  refine lv_iconst (v := 4) hx hb d_G_place_24 (by decide) ?_
  refine kq_R (r := .int (r_isWithin ib 0 4)) (va_runS (As := [.int ib, .int 0, .int 4]) (rest := []) ⟨hx, hb, hml, hown, hts⟩ (c_isWithin l dC dI ib 0 4) (kw_S (n := 3) hts wd_313 wd_314 wd_1 wd_315 rfl rfl (by decide +kernel) ⟨Nat.le_of_ble_eq_true rfl, Nat.le_of_ble_eq_true rfl⟩) (kq_preS hN (hP.sub (ws' := []) [] rfl) (hK.sub (tys' := []) [] rfl)) rfl rfl hl.1 rfl (lv_room (Nat.le_of_ble_eq_true rfl)) d_G_place_25 ⟨Nat.le_of_ble_eq_true rfl, Nat.le_of_ble_eq_true rfl⟩) ?_
  refine lv_if_eq hx hb (tgt := 54) d_G_place_28 rfl (fun h1 => ?_) (fun h1 => ?_)
  · exact te_throw (X := XA) (names := te_up) hx hb hl0 (hml.trans hl.1.symm) hown te_fitA te_fitU (te_ow hts hN hT te_owA) (hts _ wd_388) (hts _ wd_15) (te_str hT wt_437) hnoh hlocks (Nat.le_refl _) d_G_place_54 d_G_place_57 d_G_place_58 d_G_place_60 d_G_place_63 (Nat.le_of_ble_eq_true rfl) (Nat.le_of_ble_eq_true rfl) (Nat.le_of_ble_eq_true rfl) (Nat.le_of_ble_eq_true rfl)
  · refine lv_iload hx hb d_G_place_31 (lv_at hl 4 rfl) ?_
    refine lv_iconst (v := 0) hx hb d_G_place_33 (by decide) ?_
    refine lv_ldc (v := 100000) hx hb hown (hts _ wd_436) d_G_place_34 ?_
    refine kq_R (r := .int (r_isWithin ic 0 100000)) (va_runS (As := [.int ic, .int 0, .int 100000]) (rest := []) ⟨hx, hb, hml, hown, hts⟩ (c_isWithin l dC dI ic 0 100000) (kw_S (n := 3) hts wd_313 wd_314 wd_1 wd_315 rfl rfl (by decide +kernel) ⟨Nat.le_of_ble_eq_true rfl, Nat.le_of_ble_eq_true rfl⟩) (kq_preS hN (hP.sub (ws' := []) [] rfl) (hK.sub (tys' := []) [] rfl)) rfl rfl hl.1 rfl (lv_room (Nat.le_of_ble_eq_true rfl)) d_G_place_36 ⟨Nat.le_of_ble_eq_true rfl, Nat.le_of_ble_eq_true rfl⟩) ?_
    refine lv_if_eq hx hb (tgt := 54) d_G_place_39 rfl (fun h2 => ?_) (fun h2 => ?_)
    · exact te_throw (X := XA) (names := te_up) hx hb hl0 (hml.trans hl.1.symm) hown te_fitA te_fitU (te_ow hts hN hT te_owA) (hts _ wd_388) (hts _ wd_15) (te_str hT wt_437) hnoh hlocks (Nat.le_refl _) d_G_place_54 d_G_place_57 d_G_place_58 d_G_place_60 d_G_place_63 (Nat.le_of_ble_eq_true rfl) (Nat.le_of_ble_eq_true rfl) (Nat.le_of_ble_eq_true rfl) (Nat.le_of_ble_eq_true rfl)
    · refine lv_iload hx hb d_G_place_42 (lv_at hl 5 rfl) ?_
      refine lv_iconst (v := 1) hx hb d_G_place_44 (by decide) ?_
      refine lv_sipush (v := 1000) hx hb d_G_place_45 (by decide) ?_
      refine kq_R (r := .int (r_isWithin id0 1 1000)) (va_runS (As := [.int id0, .int 1, .int 1000]) (rest := []) ⟨hx, hb, hml, hown, hts⟩ (c_isWithin l dC dI id0 1 1000) (kw_S (n := 3) hts wd_313 wd_314 wd_1 wd_315 rfl rfl (by decide +kernel) ⟨Nat.le_of_ble_eq_true rfl, Nat.le_of_ble_eq_true rfl⟩) (kq_preS hN (hP.sub (ws' := []) [] rfl) (hK.sub (tys' := []) [] rfl)) rfl rfl hl.1 rfl (lv_room (Nat.le_of_ble_eq_true rfl)) d_G_place_48 ⟨Nat.le_of_ble_eq_true rfl, Nat.le_of_ble_eq_true rfl⟩) ?_
      refine lv_if_ne hx hb (tgt := 64) d_G_place_51 rfl (fun h3 => ?_) (fun h3 => ?_)
      · exact ((fun q => q.elim (fun x => absurd x h1) (fun q => q.elim (fun x => absurd x h2) (fun x => absurd x h3))) hbad : False).elim
      · exact te_throw (X := XA) (names := te_up) hx hb hl0 (hml.trans hl.1.symm) hown te_fitA te_fitU (te_ow hts hN hT te_owA) (hts _ wd_388) (hts _ wd_15) (te_str hT wt_437) hnoh hlocks (Nat.le_refl _) d_G_place_54 d_G_place_57 d_G_place_58 d_G_place_60 d_G_place_63 (Nat.le_of_ble_eq_true rfl) (Nat.le_of_ble_eq_true rfl) (Nat.le_of_ble_eq_true rfl) (Nat.le_of_ble_eq_true rfl)
set_option maxHeartbeats 4000000 in
set_option maxRecDepth 100000 in
theorem t_placeST3 (l : Launch) (hl0 : l.stackTraces = false) (dC : Nat → ClassId) (dI : Nat → Nat → Nat) (b0 : Nat) (ba : Nat) (bl : Nat) (bq : Nat) (bk : Nat) (bd : Nat) (bo : Nat) (be : Nat) (gz : Nat → Int32) (gl : Nat → Int64) (ko : Nat → Int32) (bc : Nat) (bs : Nat) (cP : ClassId) (ae : Nat → Nat) (pS : Nat → Nat → Int32) (ia : Int32) (ib : Int32) (ic : Int32) (id0 : Int32) (ha0 : ¬ (r_isWithin ia 0 3) = 0) (ha1 : ¬ (r_isWithin ib 0 4) = 0) (ha2 : ¬ (r_isWithin ic 0 100000) = 0) (ha3 : ¬ (r_isWithin id0 1 1000) = 0) (ha4 : ¬ (ko 2) = 0) : te_Met l y_G_place (wz y_G_place b_G_place 6 none) { frames := 7, cells := 1, slots := 6, locals := 102 } (va_Pc [.ref b0, .ref bs, .int ia, .int ib, .int ic, .int id0] (fun U => nw U ∧ va_P (dC, dI) vwCl [(b0, .inr (0, [.ref ba, .ref bl, .ref bq, .ref bk, .ref bd, .ref bo, .ref be, .int (gz 0), .int (gz 1), .long (gl 0)])), (bk, .inr (4, [.int (ko 0), .int (ko 1), .int (ko 2), .int (ko 3), .int (ko 4), .int (ko 5)])), (bq, .inr (3, [.ref bc, .ref bs])), (bs, .inl (cP, 4, .inr (.inr (.inr (.inr (fun j => some (ae j))))))), (ae 0, .inr (2, [.int ((pS 0) 0), .int ((pS 0) 1), .int ((pS 0) 2), .int ((pS 0) 3)])), (ae 1, .inr (2, [.int ((pS 1) 0), .int ((pS 1) 1), .int ((pS 1) 2), .int ((pS 1) 3)])), (ae 2, .inr (2, [.int ((pS 2) 0), .int ((pS 2) 1), .int ((pS 2) 2), .int ((pS 2) 3)])), (ae 3, .inr (2, [.int ((pS 3) 0), .int ((pS 3) 1), .int ((pS 3) 2), .int ((pS 3) 3)]))] U.heap ∧ va_K (dC, dI) vwCl [(cP, (.object "GridConverter$Point"))] U ∧ te_Ok U)) XS 1 6 := by
  refine te_ofW (cc := b_G_place) (maxL := 6) (ret := none) (by decide) rfl ?_
  intro p e s m args below meth c s₁ B hml hv
  obtain ⟨rfl, hN, hP, hK, hT⟩ := hv
  have hx := B.exec
  have hb := B.bytes
  have hr := B.returns
  have hts := fun w h => atoms_spec (ws := (wz y_G_place b_G_place 6 none)) B.pre w (List.mem_cons_of_mem _ h)
  have hown : s.vm.findClass R_G = some m.cls := findClass_of_methodNamed B.named
  have hlocks := B.notSynchronized
  have hnoh : c.exceptionTable.isEmpty = true := B.noHandlers (atoms_spec (ws := (wz y_G_place b_G_place 6 none)) B.pre _ List.mem_cons_self)
  obtain ⟨⟨t1, hZ1, hX1⟩, ⟨t2, hZ2, hX2⟩, t3, hZ3, hX3⟩ := hT.2.2.2.2
  have hl := lv_entry ([.ref b0, .ref bs, .int ia, .int ib, .int ic, .int id0]) (n := 6) (Nat.le_of_ble_eq_true rfl)
  rw [lg_entry_eq]
  generalize (lg_sl ([.ref b0, .ref bs, .int ia, .int ib, .int ic, .int id0]) ++ List.replicate (6 - (lg_sl ([.ref b0, .ref bs, .int ia, .int ib, .int ic, .int id0])).length) Slot.unset).toArray = ls at hl ⊢
  have hl : lv_has ls 6 [(0, .ref b0), (1, .ref bs), (2, .int ia), (3, .int ib), (4, .int ic), (5, .int id0)] := hl
  refine lv_iload_n hx hb d_G_place_0 rfl (lv_at hl 2 rfl) ?_
  refine lv_iconst (v := 0) hx hb d_G_place_1 (by decide) ?_
  refine lv_aload_n hx hb d_G_place_2 rfl (lv_at hl 1 rfl) ?_
  refine va_alen (v := 4) hx hb hK hP 3 0 rfl rfl (show Int32.ofNat 4 = 4 by decide) d_G_place_3 ?_
  refine lv_iconst (v := 1) hx hb d_G_place_4 (by decide) ?_
  refine lv_isub hx hb d_G_place_5 ?_
  refine kq_fi (y := 3) (by decide) ?_
  refine kq_R (r := .int (r_isWithin ia 0 3)) (va_runS (As := [.int ia, .int 0, .int 3]) (rest := []) ⟨hx, hb, hml, hown, hts⟩ (c_isWithin l dC dI ia 0 3) (kw_S (n := 3) hts wd_313 wd_314 wd_1 wd_315 rfl rfl (by decide +kernel) ⟨Nat.le_of_ble_eq_true rfl, Nat.le_of_ble_eq_true rfl⟩) (kq_preS hN (hP.sub (ws' := []) [] rfl) (hK.sub (tys' := []) [] rfl)) rfl rfl hl.1 rfl (lv_room (Nat.le_of_ble_eq_true rfl)) d_G_place_6 ⟨Nat.le_of_ble_eq_true rfl, Nat.le_of_ble_eq_true rfl⟩) ?_
  refine lv_if_ne hx hb (tgt := 22) d_G_place_9 rfl (fun _ => ?_) (fun h => absurd h ha0)
  refine lv_iload_n hx hb d_G_place_22 rfl (lv_at hl 3 rfl) ?_
  refine lv_iconst (v := 0) hx hb d_G_place_23 (by decide) ?_
  refine lv_iconst (v := 4) hx hb d_G_place_24 (by decide) ?_
  refine kq_R (r := .int (r_isWithin ib 0 4)) (va_runS (As := [.int ib, .int 0, .int 4]) (rest := []) ⟨hx, hb, hml, hown, hts⟩ (c_isWithin l dC dI ib 0 4) (kw_S (n := 3) hts wd_313 wd_314 wd_1 wd_315 rfl rfl (by decide +kernel) ⟨Nat.le_of_ble_eq_true rfl, Nat.le_of_ble_eq_true rfl⟩) (kq_preS hN (hP.sub (ws' := []) [] rfl) (hK.sub (tys' := []) [] rfl)) rfl rfl hl.1 rfl (lv_room (Nat.le_of_ble_eq_true rfl)) d_G_place_25 ⟨Nat.le_of_ble_eq_true rfl, Nat.le_of_ble_eq_true rfl⟩) ?_
  refine lv_if_eq hx hb (tgt := 54) d_G_place_28 rfl (fun h => absurd h ha1) (fun _ => ?_)
  refine lv_iload hx hb d_G_place_31 (lv_at hl 4 rfl) ?_
  refine lv_iconst (v := 0) hx hb d_G_place_33 (by decide) ?_
  refine lv_ldc (v := 100000) hx hb hown (hts _ wd_436) d_G_place_34 ?_
  refine kq_R (r := .int (r_isWithin ic 0 100000)) (va_runS (As := [.int ic, .int 0, .int 100000]) (rest := []) ⟨hx, hb, hml, hown, hts⟩ (c_isWithin l dC dI ic 0 100000) (kw_S (n := 3) hts wd_313 wd_314 wd_1 wd_315 rfl rfl (by decide +kernel) ⟨Nat.le_of_ble_eq_true rfl, Nat.le_of_ble_eq_true rfl⟩) (kq_preS hN (hP.sub (ws' := []) [] rfl) (hK.sub (tys' := []) [] rfl)) rfl rfl hl.1 rfl (lv_room (Nat.le_of_ble_eq_true rfl)) d_G_place_36 ⟨Nat.le_of_ble_eq_true rfl, Nat.le_of_ble_eq_true rfl⟩) ?_
  refine lv_if_eq hx hb (tgt := 54) d_G_place_39 rfl (fun h => absurd h ha2) (fun _ => ?_)
  refine lv_iload hx hb d_G_place_42 (lv_at hl 5 rfl) ?_
  refine lv_iconst (v := 1) hx hb d_G_place_44 (by decide) ?_
  refine lv_sipush (v := 1000) hx hb d_G_place_45 (by decide) ?_
  refine kq_R (r := .int (r_isWithin id0 1 1000)) (va_runS (As := [.int id0, .int 1, .int 1000]) (rest := []) ⟨hx, hb, hml, hown, hts⟩ (c_isWithin l dC dI id0 1 1000) (kw_S (n := 3) hts wd_313 wd_314 wd_1 wd_315 rfl rfl (by decide +kernel) ⟨Nat.le_of_ble_eq_true rfl, Nat.le_of_ble_eq_true rfl⟩) (kq_preS hN (hP.sub (ws' := []) [] rfl) (hK.sub (tys' := []) [] rfl)) rfl rfl hl.1 rfl (lv_room (Nat.le_of_ble_eq_true rfl)) d_G_place_48 ⟨Nat.le_of_ble_eq_true rfl, Nat.le_of_ble_eq_true rfl⟩) ?_
  refine lv_if_ne hx hb (tgt := 64) d_G_place_51 rfl (fun _ => ?_) (fun h => absurd h ha3)
  refine lv_aload_n hx hb d_G_place_64 rfl (lv_at hl 0 rfl) ?_
  exact te_passV (As := []) (rest := []) ⟨hx, hb, hml, hown, hts⟩ (t_refuseT l hl0 dC dI b0 ba bl bq bk bd bo be gz gl ko (by assumption)) (kw_V (n := 0) hts wd_404 wd_406 wp_3 wd_1 wd_407 rfl rfl (by decide +kernel) ⟨Nat.le_of_ble_eq_true rfl, Nat.le_of_ble_eq_true rfl⟩) (kq_preTV hN (hP.sub (ws' := [(b0, .inr (0, [.ref ba, .ref bl, .ref bq, .ref bk, .ref bd, .ref bo, .ref be, .int (gz 0), .int (gz 1), .long (gl 0)])), (bk, .inr (4, [.int (ko 0), .int (ko 1), .int (ko 2), .int (ko 3), .int (ko 4), .int (ko 5)]))]) [0, 1] rfl) (hK.sub (tys' := []) [] rfl) hT (fun _ _ => rfl) 0 rfl rfl) hnoh hlocks (Nat.le_refl _) rfl hl.1 rfl (Nat.le_of_ble_eq_true rfl) d_G_place_65 ⟨Nat.le_of_ble_eq_true rfl, Nat.le_of_ble_eq_true rfl⟩
set_option maxHeartbeats 4000000 in
set_option maxRecDepth 100000 in
theorem t_stayT1 (l : Launch) (hl0 : l.stackTraces = false) (dC : Nat → ClassId) (dI : Nat → Nat → Nat) (b0 : Nat) (ba : Nat) (bl : Nat) (bq : Nat) (bk : Nat) (bd : Nat) (bo : Nat) (be : Nat) (gz : Nat → Int32) (gl : Nat → Int64) (ko : Nat → Int32) (bc : Nat) (bs : Nat) (cP : ClassId) (ae : Nat → Nat) (pS : Nat → Nat → Int32) (ia : Int32) (ib : Int32) (ic : Int32) (id0 : Int32) (ha0 : (r_isWithin ia 0 3) = 0) : te_Met l y_G_stay (wz y_G_stay b_G_stay 5 none) { frames := 7, cells := 1, slots := 6, locals := 107 } (va_Pc [.ref b0, .int ia, .int ib, .int ic, .int id0] (fun U => nw U ∧ va_P (dC, dI) vwCl [(b0, .inr (0, [.ref ba, .ref bl, .ref bq, .ref bk, .ref bd, .ref bo, .ref be, .int (gz 0), .int (gz 1), .long (gl 0)])), (bk, .inr (4, [.int (ko 0), .int (ko 1), .int (ko 2), .int (ko 3), .int (ko 4), .int (ko 5)])), (bq, .inr (3, [.ref bc, .ref bs])), (bs, .inl (cP, 4, .inr (.inr (.inr (.inr (fun j => some (ae j))))))), (ae 0, .inr (2, [.int ((pS 0) 0), .int ((pS 0) 1), .int ((pS 0) 2), .int ((pS 0) 3)])), (ae 1, .inr (2, [.int ((pS 1) 0), .int ((pS 1) 1), .int ((pS 1) 2), .int ((pS 1) 3)])), (ae 2, .inr (2, [.int ((pS 2) 0), .int ((pS 2) 1), .int ((pS 2) 2), .int ((pS 2) 3)])), (ae 3, .inr (2, [.int ((pS 3) 0), .int ((pS 3) 1), .int ((pS 3) 2), .int ((pS 3) 3)]))] U.heap ∧ va_K (dC, dI) vwCl [(cP, (.object "GridConverter$Point"))] U ∧ te_Ok U)) XI 1 6 := by
  refine te_ofW (cc := b_G_stay) (maxL := 5) (ret := none) (by decide) rfl ?_
  intro p e s m args below meth c s₁ B hml hv
  obtain ⟨rfl, hN, hP, hK, hT⟩ := hv
  have hx := B.exec
  have hb := B.bytes
  have hr := B.returns
  have hts := fun w h => atoms_spec (ws := (wz y_G_stay b_G_stay 5 none)) B.pre w (List.mem_cons_of_mem _ h)
  have hown : s.vm.findClass R_G = some m.cls := findClass_of_methodNamed B.named
  have hlocks := B.notSynchronized
  have hnoh : c.exceptionTable.isEmpty = true := B.noHandlers (atoms_spec (ws := (wz y_G_stay b_G_stay 5 none)) B.pre _ List.mem_cons_self)
  obtain ⟨⟨t1, hZ1, hX1⟩, ⟨t2, hZ2, hX2⟩, t3, hZ3, hX3⟩ := hT.2.2.2.2
  have hl := lv_entry ([.ref b0, .int ia, .int ib, .int ic, .int id0]) (n := 5) (Nat.le_of_ble_eq_true rfl)
  rw [lg_entry_eq]
  generalize (lg_sl ([.ref b0, .int ia, .int ib, .int ic, .int id0]) ++ List.replicate (5 - (lg_sl ([.ref b0, .int ia, .int ib, .int ic, .int id0])).length) Slot.unset).toArray = ls at hl ⊢
  have hl : lv_has ls 5 [(0, .ref b0), (1, .int ia), (2, .int ib), (3, .int ic), (4, .int id0)] := hl
  refine lv_aload_n hx hb d_G_stay_0 rfl (lv_at hl 0 rfl) ?_
  refine lv_aload_n hx hb d_G_stay_1 rfl (lv_at hl 0 rfl) ?_
  refine va_get (D := (dC, dI)) (ci := 0) (v := .ref bq) (C := R_G) (T := T_G) (N := 10) hx hb hts uin_G hown hK hP 0 rfl rfl 2 (by decide) (hts _ wd_228) (fun _ h9 => h9) rfl d_G_stay_2 ?_
  refine va_getN (D := (dC, dI)) (ci := 3) (v := .ref bs) (C := R_Pr) (T := T_Pr) (N := 2) hx hb hts uin_Pr hown hK hP 2 rfl rfl 1 (by decide) (nw_use hN wd_125) (fun _ h9 => h9) rfl d_G_stay_5 ?_
  refine lv_iload_n hx hb d_G_stay_8 rfl (lv_at hl 1 rfl) ?_
  refine lv_iload_n hx hb d_G_stay_9 rfl (lv_at hl 2 rfl) ?_
  refine lv_iload_n hx hb d_G_stay_10 rfl (lv_at hl 3 rfl) ?_
  refine lv_iload hx hb d_G_stay_11 (lv_at hl 4 rfl) ?_
  exact te_passV (As := [.ref bs, .int ia, .int ib, .int ic, .int id0]) (rest := []) ⟨hx, hb, hml, hown, hts⟩ (t_placeST1 l hl0 dC dI b0 ba bl bq bk bd bo be gz gl ko bc bs cP ae pS ia ib ic id0 (by assumption)) (kw_V (n := 5) hts wd_431 wd_433 wp_4 wd_1 wd_434 rfl rfl (by decide +kernel) ⟨Nat.le_of_ble_eq_true rfl, Nat.le_of_ble_eq_true rfl⟩) (kq_preTV hN (hP.sub (ws' := [(b0, .inr (0, [.ref ba, .ref bl, .ref bq, .ref bk, .ref bd, .ref bo, .ref be, .int (gz 0), .int (gz 1), .long (gl 0)])), (bk, .inr (4, [.int (ko 0), .int (ko 1), .int (ko 2), .int (ko 3), .int (ko 4), .int (ko 5)])), (bq, .inr (3, [.ref bc, .ref bs])), (bs, .inl (cP, 4, .inr (.inr (.inr (.inr (fun j => some (ae j))))))), (ae 0, .inr (2, [.int ((pS 0) 0), .int ((pS 0) 1), .int ((pS 0) 2), .int ((pS 0) 3)])), (ae 1, .inr (2, [.int ((pS 1) 0), .int ((pS 1) 1), .int ((pS 1) 2), .int ((pS 1) 3)])), (ae 2, .inr (2, [.int ((pS 2) 0), .int ((pS 2) 1), .int ((pS 2) 2), .int ((pS 2) 3)])), (ae 3, .inr (2, [.int ((pS 3) 0), .int ((pS 3) 1), .int ((pS 3) 2), .int ((pS 3) 3)]))]) [0, 1, 2, 3, 4, 5, 6, 7] rfl) (hK.sub (tys' := [(cP, (.object "GridConverter$Point"))]) [0] rfl) hT (fun _ _ => rfl) 0 rfl rfl) hnoh hlocks (Nat.le_refl _) rfl hl.1 rfl (Nat.le_of_ble_eq_true rfl) d_G_stay_13 ⟨Nat.le_of_ble_eq_true rfl, Nat.le_of_ble_eq_true rfl⟩
set_option maxHeartbeats 4000000 in
set_option maxRecDepth 100000 in
theorem t_stayT2 (l : Launch) (hl0 : l.stackTraces = false) (dC : Nat → ClassId) (dI : Nat → Nat → Nat) (b0 : Nat) (ba : Nat) (bl : Nat) (bq : Nat) (bk : Nat) (bd : Nat) (bo : Nat) (be : Nat) (gz : Nat → Int32) (gl : Nat → Int64) (ko : Nat → Int32) (bc : Nat) (bs : Nat) (cP : ClassId) (ae : Nat → Nat) (pS : Nat → Nat → Int32) (ia : Int32) (ib : Int32) (ic : Int32) (id0 : Int32) (hbad : (r_isWithin ib 0 4) = 0 ∨ (r_isWithin ic 0 100000) = 0 ∨ (r_isWithin id0 1 1000) = 0) (ha0 : ¬ (r_isWithin ia 0 3) = 0) : te_Met l y_G_stay (wz y_G_stay b_G_stay 5 none) { frames := 7, cells := 1, slots := 6, locals := 107 } (va_Pc [.ref b0, .int ia, .int ib, .int ic, .int id0] (fun U => nw U ∧ va_P (dC, dI) vwCl [(b0, .inr (0, [.ref ba, .ref bl, .ref bq, .ref bk, .ref bd, .ref bo, .ref be, .int (gz 0), .int (gz 1), .long (gl 0)])), (bk, .inr (4, [.int (ko 0), .int (ko 1), .int (ko 2), .int (ko 3), .int (ko 4), .int (ko 5)])), (bq, .inr (3, [.ref bc, .ref bs])), (bs, .inl (cP, 4, .inr (.inr (.inr (.inr (fun j => some (ae j))))))), (ae 0, .inr (2, [.int ((pS 0) 0), .int ((pS 0) 1), .int ((pS 0) 2), .int ((pS 0) 3)])), (ae 1, .inr (2, [.int ((pS 1) 0), .int ((pS 1) 1), .int ((pS 1) 2), .int ((pS 1) 3)])), (ae 2, .inr (2, [.int ((pS 2) 0), .int ((pS 2) 1), .int ((pS 2) 2), .int ((pS 2) 3)])), (ae 3, .inr (2, [.int ((pS 3) 0), .int ((pS 3) 1), .int ((pS 3) 2), .int ((pS 3) 3)]))] U.heap ∧ va_K (dC, dI) vwCl [(cP, (.object "GridConverter$Point"))] U ∧ te_Ok U)) XA 1 6 := by
  refine te_ofW (cc := b_G_stay) (maxL := 5) (ret := none) (by decide) rfl ?_
  intro p e s m args below meth c s₁ B hml hv
  obtain ⟨rfl, hN, hP, hK, hT⟩ := hv
  have hx := B.exec
  have hb := B.bytes
  have hr := B.returns
  have hts := fun w h => atoms_spec (ws := (wz y_G_stay b_G_stay 5 none)) B.pre w (List.mem_cons_of_mem _ h)
  have hown : s.vm.findClass R_G = some m.cls := findClass_of_methodNamed B.named
  have hlocks := B.notSynchronized
  have hnoh : c.exceptionTable.isEmpty = true := B.noHandlers (atoms_spec (ws := (wz y_G_stay b_G_stay 5 none)) B.pre _ List.mem_cons_self)
  obtain ⟨⟨t1, hZ1, hX1⟩, ⟨t2, hZ2, hX2⟩, t3, hZ3, hX3⟩ := hT.2.2.2.2
  have hl := lv_entry ([.ref b0, .int ia, .int ib, .int ic, .int id0]) (n := 5) (Nat.le_of_ble_eq_true rfl)
  rw [lg_entry_eq]
  generalize (lg_sl ([.ref b0, .int ia, .int ib, .int ic, .int id0]) ++ List.replicate (5 - (lg_sl ([.ref b0, .int ia, .int ib, .int ic, .int id0])).length) Slot.unset).toArray = ls at hl ⊢
  have hl : lv_has ls 5 [(0, .ref b0), (1, .int ia), (2, .int ib), (3, .int ic), (4, .int id0)] := hl
  refine lv_aload_n hx hb d_G_stay_0 rfl (lv_at hl 0 rfl) ?_
  refine lv_aload_n hx hb d_G_stay_1 rfl (lv_at hl 0 rfl) ?_
  refine va_get (D := (dC, dI)) (ci := 0) (v := .ref bq) (C := R_G) (T := T_G) (N := 10) hx hb hts uin_G hown hK hP 0 rfl rfl 2 (by decide) (hts _ wd_228) (fun _ h9 => h9) rfl d_G_stay_2 ?_
  refine va_getN (D := (dC, dI)) (ci := 3) (v := .ref bs) (C := R_Pr) (T := T_Pr) (N := 2) hx hb hts uin_Pr hown hK hP 2 rfl rfl 1 (by decide) (nw_use hN wd_125) (fun _ h9 => h9) rfl d_G_stay_5 ?_
  refine lv_iload_n hx hb d_G_stay_8 rfl (lv_at hl 1 rfl) ?_
  refine lv_iload_n hx hb d_G_stay_9 rfl (lv_at hl 2 rfl) ?_
  refine lv_iload_n hx hb d_G_stay_10 rfl (lv_at hl 3 rfl) ?_
  refine lv_iload hx hb d_G_stay_11 (lv_at hl 4 rfl) ?_
  exact te_passV (As := [.ref bs, .int ia, .int ib, .int ic, .int id0]) (rest := []) ⟨hx, hb, hml, hown, hts⟩ (t_placeST2 l hl0 dC dI b0 ba bl bq bk bd bo be gz gl ko bc bs cP ae pS ia ib ic id0 (by assumption) (by assumption)) (kw_V (n := 5) hts wd_431 wd_433 wp_4 wd_1 wd_434 rfl rfl (by decide +kernel) ⟨Nat.le_of_ble_eq_true rfl, Nat.le_of_ble_eq_true rfl⟩) (kq_preTV hN (hP.sub (ws' := [(b0, .inr (0, [.ref ba, .ref bl, .ref bq, .ref bk, .ref bd, .ref bo, .ref be, .int (gz 0), .int (gz 1), .long (gl 0)])), (bk, .inr (4, [.int (ko 0), .int (ko 1), .int (ko 2), .int (ko 3), .int (ko 4), .int (ko 5)])), (bq, .inr (3, [.ref bc, .ref bs])), (bs, .inl (cP, 4, .inr (.inr (.inr (.inr (fun j => some (ae j))))))), (ae 0, .inr (2, [.int ((pS 0) 0), .int ((pS 0) 1), .int ((pS 0) 2), .int ((pS 0) 3)])), (ae 1, .inr (2, [.int ((pS 1) 0), .int ((pS 1) 1), .int ((pS 1) 2), .int ((pS 1) 3)])), (ae 2, .inr (2, [.int ((pS 2) 0), .int ((pS 2) 1), .int ((pS 2) 2), .int ((pS 2) 3)])), (ae 3, .inr (2, [.int ((pS 3) 0), .int ((pS 3) 1), .int ((pS 3) 2), .int ((pS 3) 3)]))]) [0, 1, 2, 3, 4, 5, 6, 7] rfl) (hK.sub (tys' := [(cP, (.object "GridConverter$Point"))]) [0] rfl) hT (fun _ _ => rfl) 0 rfl rfl) hnoh hlocks (Nat.le_refl _) rfl hl.1 rfl (Nat.le_of_ble_eq_true rfl) d_G_stay_13 ⟨Nat.le_of_ble_eq_true rfl, Nat.le_of_ble_eq_true rfl⟩
set_option maxHeartbeats 4000000 in
set_option maxRecDepth 100000 in
theorem t_stayT3 (l : Launch) (hl0 : l.stackTraces = false) (dC : Nat → ClassId) (dI : Nat → Nat → Nat) (b0 : Nat) (ba : Nat) (bl : Nat) (bq : Nat) (bk : Nat) (bd : Nat) (bo : Nat) (be : Nat) (gz : Nat → Int32) (gl : Nat → Int64) (ko : Nat → Int32) (bc : Nat) (bs : Nat) (cP : ClassId) (ae : Nat → Nat) (pS : Nat → Nat → Int32) (ia : Int32) (ib : Int32) (ic : Int32) (id0 : Int32) (ha0 : ¬ (r_isWithin ia 0 3) = 0) (ha1 : ¬ (r_isWithin ib 0 4) = 0) (ha2 : ¬ (r_isWithin ic 0 100000) = 0) (ha3 : ¬ (r_isWithin id0 1 1000) = 0) (ha4 : ¬ (ko 2) = 0) : te_Met l y_G_stay (wz y_G_stay b_G_stay 5 none) { frames := 8, cells := 1, slots := 6, locals := 127 } (va_Pc [.ref b0, .int ia, .int ib, .int ic, .int id0] (fun U => nw U ∧ va_P (dC, dI) vwCl [(b0, .inr (0, [.ref ba, .ref bl, .ref bq, .ref bk, .ref bd, .ref bo, .ref be, .int (gz 0), .int (gz 1), .long (gl 0)])), (bk, .inr (4, [.int (ko 0), .int (ko 1), .int (ko 2), .int (ko 3), .int (ko 4), .int (ko 5)])), (bq, .inr (3, [.ref bc, .ref bs])), (bs, .inl (cP, 4, .inr (.inr (.inr (.inr (fun j => some (ae j))))))), (ae 0, .inr (2, [.int ((pS 0) 0), .int ((pS 0) 1), .int ((pS 0) 2), .int ((pS 0) 3)])), (ae 1, .inr (2, [.int ((pS 1) 0), .int ((pS 1) 1), .int ((pS 1) 2), .int ((pS 1) 3)])), (ae 2, .inr (2, [.int ((pS 2) 0), .int ((pS 2) 1), .int ((pS 2) 2), .int ((pS 2) 3)])), (ae 3, .inr (2, [.int ((pS 3) 0), .int ((pS 3) 1), .int ((pS 3) 2), .int ((pS 3) 3)]))] U.heap ∧ va_K (dC, dI) vwCl [(cP, (.object "GridConverter$Point"))] U ∧ te_Ok U)) XS 1 6 := by
  refine te_ofW (cc := b_G_stay) (maxL := 5) (ret := none) (by decide) rfl ?_
  intro p e s m args below meth c s₁ B hml hv
  obtain ⟨rfl, hN, hP, hK, hT⟩ := hv
  have hx := B.exec
  have hb := B.bytes
  have hr := B.returns
  have hts := fun w h => atoms_spec (ws := (wz y_G_stay b_G_stay 5 none)) B.pre w (List.mem_cons_of_mem _ h)
  have hown : s.vm.findClass R_G = some m.cls := findClass_of_methodNamed B.named
  have hlocks := B.notSynchronized
  have hnoh : c.exceptionTable.isEmpty = true := B.noHandlers (atoms_spec (ws := (wz y_G_stay b_G_stay 5 none)) B.pre _ List.mem_cons_self)
  obtain ⟨⟨t1, hZ1, hX1⟩, ⟨t2, hZ2, hX2⟩, t3, hZ3, hX3⟩ := hT.2.2.2.2
  have hl := lv_entry ([.ref b0, .int ia, .int ib, .int ic, .int id0]) (n := 5) (Nat.le_of_ble_eq_true rfl)
  rw [lg_entry_eq]
  generalize (lg_sl ([.ref b0, .int ia, .int ib, .int ic, .int id0]) ++ List.replicate (5 - (lg_sl ([.ref b0, .int ia, .int ib, .int ic, .int id0])).length) Slot.unset).toArray = ls at hl ⊢
  have hl : lv_has ls 5 [(0, .ref b0), (1, .int ia), (2, .int ib), (3, .int ic), (4, .int id0)] := hl
  refine lv_aload_n hx hb d_G_stay_0 rfl (lv_at hl 0 rfl) ?_
  refine lv_aload_n hx hb d_G_stay_1 rfl (lv_at hl 0 rfl) ?_
  refine va_get (D := (dC, dI)) (ci := 0) (v := .ref bq) (C := R_G) (T := T_G) (N := 10) hx hb hts uin_G hown hK hP 0 rfl rfl 2 (by decide) (hts _ wd_228) (fun _ h9 => h9) rfl d_G_stay_2 ?_
  refine va_getN (D := (dC, dI)) (ci := 3) (v := .ref bs) (C := R_Pr) (T := T_Pr) (N := 2) hx hb hts uin_Pr hown hK hP 2 rfl rfl 1 (by decide) (nw_use hN wd_125) (fun _ h9 => h9) rfl d_G_stay_5 ?_
  refine lv_iload_n hx hb d_G_stay_8 rfl (lv_at hl 1 rfl) ?_
  refine lv_iload_n hx hb d_G_stay_9 rfl (lv_at hl 2 rfl) ?_
  refine lv_iload_n hx hb d_G_stay_10 rfl (lv_at hl 3 rfl) ?_
  refine lv_iload hx hb d_G_stay_11 (lv_at hl 4 rfl) ?_
  exact te_passV (As := [.ref bs, .int ia, .int ib, .int ic, .int id0]) (rest := []) ⟨hx, hb, hml, hown, hts⟩ (t_placeST3 l hl0 dC dI b0 ba bl bq bk bd bo be gz gl ko bc bs cP ae pS ia ib ic id0 (by assumption) (by assumption) (by assumption) (by assumption) (by assumption)) (kw_V (n := 5) hts wd_431 wd_433 wp_4 wd_1 wd_434 rfl rfl (by decide +kernel) ⟨Nat.le_of_ble_eq_true rfl, Nat.le_of_ble_eq_true rfl⟩) (kq_preTV hN (hP.sub (ws' := [(b0, .inr (0, [.ref ba, .ref bl, .ref bq, .ref bk, .ref bd, .ref bo, .ref be, .int (gz 0), .int (gz 1), .long (gl 0)])), (bk, .inr (4, [.int (ko 0), .int (ko 1), .int (ko 2), .int (ko 3), .int (ko 4), .int (ko 5)])), (bq, .inr (3, [.ref bc, .ref bs])), (bs, .inl (cP, 4, .inr (.inr (.inr (.inr (fun j => some (ae j))))))), (ae 0, .inr (2, [.int ((pS 0) 0), .int ((pS 0) 1), .int ((pS 0) 2), .int ((pS 0) 3)])), (ae 1, .inr (2, [.int ((pS 1) 0), .int ((pS 1) 1), .int ((pS 1) 2), .int ((pS 1) 3)])), (ae 2, .inr (2, [.int ((pS 2) 0), .int ((pS 2) 1), .int ((pS 2) 2), .int ((pS 2) 3)])), (ae 3, .inr (2, [.int ((pS 3) 0), .int ((pS 3) 1), .int ((pS 3) 2), .int ((pS 3) 3)]))]) [0, 1, 2, 3, 4, 5, 6, 7] rfl) (hK.sub (tys' := [(cP, (.object "GridConverter$Point"))]) [0] rfl) hT (fun _ _ => rfl) 0 rfl rfl) hnoh hlocks (Nat.le_refl _) rfl hl.1 rfl (Nat.le_of_ble_eq_true rfl) d_G_stay_13 ⟨Nat.le_of_ble_eq_true rfl, Nat.le_of_ble_eq_true rfl⟩
set_option maxHeartbeats 4000000 in
set_option maxRecDepth 100000 in
theorem t_onT (l : Launch) (hl0 : l.stackTraces = false) (dC : Nat → ClassId) (dI : Nat → Nat → Nat) (b0 : Nat) (ba : Nat) (bl : Nat) (bq : Nat) (bk : Nat) (bd : Nat) (bo : Nat) (be : Nat) (gz : Nat → Int32) (gl : Nat → Int64) (ko : Nat → Int32) (hbad : (gz 0) = 0 ∨ ¬ (ko 3) = 0) : te_Met l y_G_on (wz y_G_on b_G_on 2 (some .boolean)) { frames := 6, cells := 1, slots := 6, locals := 82 } (va_Pc [.ref b0] (fun U => nw U ∧ va_P (dC, dI) vwCl [(b0, .inr (0, [.ref ba, .ref bl, .ref bq, .ref bk, .ref bd, .ref bo, .ref be, .int (gz 0), .int (gz 1), .long (gl 0)])), (bk, .inr (4, [.int (ko 0), .int (ko 1), .int (ko 2), .int (ko 3), .int (ko 4), .int (ko 5)]))] U.heap ∧ va_K (dC, dI) vwCl [] U ∧ te_Ok U)) XS 1 6 := by
  refine te_ofW (cc := b_G_on) (maxL := 2) (ret := (some .boolean)) (by decide) rfl ?_
  intro p e s m args below meth c s₁ B hml hv
  obtain ⟨rfl, hN, hP, hK, hT⟩ := hv
  have hx := B.exec
  have hb := B.bytes
  have hr := B.returns
  have hts := fun w h => atoms_spec (ws := (wz y_G_on b_G_on 2 (some .boolean))) B.pre w (List.mem_cons_of_mem _ h)
  have hown : s.vm.findClass R_G = some m.cls := findClass_of_methodNamed B.named
  have hlocks := B.notSynchronized
  have hnoh : c.exceptionTable.isEmpty = true := B.noHandlers (atoms_spec (ws := (wz y_G_on b_G_on 2 (some .boolean))) B.pre _ List.mem_cons_self)
  obtain ⟨⟨t1, hZ1, hX1⟩, ⟨t2, hZ2, hX2⟩, t3, hZ3, hX3⟩ := hT.2.2.2.2
  have hl := lv_entry ([.ref b0]) (n := 2) (Nat.le_of_ble_eq_true rfl)
  rw [lg_entry_eq]
  generalize (lg_sl ([.ref b0]) ++ List.replicate (2 - (lg_sl ([.ref b0])).length) Slot.unset).toArray = ls at hl ⊢
  have hl : lv_has ls 2 [(0, .ref b0)] := hl
  refine lv_aload_n hx hb d_G_on_0 rfl (lv_at hl 0 rfl) ?_
  refine va_get (D := (dC, dI)) (ci := 0) (v := .int (gz 0)) (C := R_G) (T := T_G) (N := 10) hx hb hts uin_G hown hK hP 0 rfl rfl 7 (by decide) (hts _ wd_233) (fun _ h9 => h9) rfl d_G_on_1 ?_
  refine lv_if_eq hx hb (tgt := 17) d_G_on_4 rfl (fun h1 => ?_) (fun h1 => ?_)
  · exact te_throw (X := XS) (names := te_up) hx hb hl0 (hml.trans hl.1.symm) hown te_fitS te_fitU (te_ow hts hN hT te_owS) (hts _ wd_408) (hts _ wd_16) (te_str hT wt_456) hnoh hlocks (Nat.le_refl _) d_G_on_17 d_G_on_20 d_G_on_21 d_G_on_23 d_G_on_26 (Nat.le_of_ble_eq_true rfl) (Nat.le_of_ble_eq_true rfl) (Nat.le_of_ble_eq_true rfl) (Nat.le_of_ble_eq_true rfl)
  · refine lv_aload_n hx hb d_G_on_7 rfl (lv_at hl 0 rfl) ?_
    refine va_get (D := (dC, dI)) (ci := 0) (v := .ref bk) (C := R_G) (T := T_G) (N := 10) hx hb hts uin_G hown hK hP 0 rfl rfl 3 (by decide) (hts _ wd_229) (fun _ h9 => h9) rfl d_G_on_8 ?_
    refine va_getN (D := (dC, dI)) (ci := 4) (v := .int (ko 3)) (C := R_Ko) (T := T_Ko) (N := 6) hx hb hts uin_Ko hown hK hP 1 rfl rfl 3 (by decide) (nw_use hN wd_144) (fun _ h9 => h9) rfl d_G_on_11 ?_
    refine lv_if_eq hx hb (tgt := 27) d_G_on_14 rfl (fun h2 => ?_) (fun h2 => ?_)
    · exact ((fun q => q.elim (fun x => absurd x h1) (fun x => absurd h2 x)) hbad : False).elim
    · exact te_throw (X := XS) (names := te_up) hx hb hl0 (hml.trans hl.1.symm) hown te_fitS te_fitU (te_ow hts hN hT te_owS) (hts _ wd_408) (hts _ wd_16) (te_str hT wt_456) hnoh hlocks (Nat.le_refl _) d_G_on_17 d_G_on_20 d_G_on_21 d_G_on_23 d_G_on_26 (Nat.le_of_ble_eq_true rfl) (Nat.le_of_ble_eq_true rfl) (Nat.le_of_ble_eq_true rfl) (Nat.le_of_ble_eq_true rfl)
set_option maxHeartbeats 4000000 in
set_option maxRecDepth 100000 in
theorem t_powerT (l : Launch) (hl0 : l.stackTraces = false) (dC : Nat → ClassId) (dI : Nat → Nat → Nat) (b0 : Nat) (ba : Nat) (bl : Nat) (bq : Nat) (bk : Nat) (bd : Nat) (bo : Nat) (be : Nat) (gz : Nat → Int32) (gl : Nat → Int64) (co : Nat → Int32) (ia : Int32) (ib : Int32) (hbad : (r_isWithin ia 0 20000) = 0 ∨ (r_isWithin ib (-20000) 20000) = 0) : te_Met l y_G_power (wz y_G_power b_G_power 3 none) { frames := 6, cells := 1, slots := 6, locals := 82 } (va_Pc [.ref b0, .int ia, .int ib] (fun U => nw U ∧ va_P (dC, dI) vwCl [(b0, .inr (0, [.ref ba, .ref bl, .ref bq, .ref bk, .ref bd, .ref bo, .ref be, .int (gz 0), .int (gz 1), .long (gl 0)])), (bd, .inr (5, [.int (co 0), .int (co 1), .int (co 2), .int (co 3), .int (co 4)]))] U.heap ∧ va_K (dC, dI) vwCl [] U ∧ te_Ok U)) XA 1 6 := by
  refine te_ofW (cc := b_G_power) (maxL := 3) (ret := none) (by decide) rfl ?_
  intro p e s m args below meth c s₁ B hml hv
  obtain ⟨rfl, hN, hP, hK, hT⟩ := hv
  have hx := B.exec
  have hb := B.bytes
  have hr := B.returns
  have hts := fun w h => atoms_spec (ws := (wz y_G_power b_G_power 3 none)) B.pre w (List.mem_cons_of_mem _ h)
  have hown : s.vm.findClass R_G = some m.cls := findClass_of_methodNamed B.named
  have hlocks := B.notSynchronized
  have hnoh : c.exceptionTable.isEmpty = true := B.noHandlers (atoms_spec (ws := (wz y_G_power b_G_power 3 none)) B.pre _ List.mem_cons_self)
  obtain ⟨⟨t1, hZ1, hX1⟩, ⟨t2, hZ2, hX2⟩, t3, hZ3, hX3⟩ := hT.2.2.2.2
  have hl := lv_entry ([.ref b0, .int ia, .int ib]) (n := 3) (Nat.le_of_ble_eq_true rfl)
  rw [lg_entry_eq]
  generalize (lg_sl ([.ref b0, .int ia, .int ib]) ++ List.replicate (3 - (lg_sl ([.ref b0, .int ia, .int ib])).length) Slot.unset).toArray = ls at hl ⊢
  have hl : lv_has ls 3 [(0, .ref b0), (1, .int ia), (2, .int ib)] := hl
  refine lv_iload_n hx hb d_G_power_0 rfl (lv_at hl 1 rfl) ?_
  refine lv_iconst (v := 0) hx hb d_G_power_1 (by decide) ?_
  refine lv_sipush (v := 20000) hx hb d_G_power_2 (by decide) ?_
  refine kq_R (r := .int (r_isWithin ia 0 20000)) (va_runS (As := [.int ia, .int 0, .int 20000]) (rest := []) ⟨hx, hb, hml, hown, hts⟩ (c_isWithin l dC dI ia 0 20000) (kw_S (n := 3) hts wd_313 wd_314 wd_1 wd_315 rfl rfl (by decide +kernel) ⟨Nat.le_of_ble_eq_true rfl, Nat.le_of_ble_eq_true rfl⟩) (kq_preS hN (hP.sub (ws' := []) [] rfl) (hK.sub (tys' := []) [] rfl)) rfl rfl hl.1 rfl (lv_room (Nat.le_of_ble_eq_true rfl)) d_G_power_5 ⟨Nat.le_of_ble_eq_true rfl, Nat.le_of_ble_eq_true rfl⟩) ?_
  refine lv_if_eq hx hb (tgt := 24) d_G_power_8 rfl (fun h1 => ?_) (fun h1 => ?_)
  · exact te_throw (X := XA) (names := te_up) hx hb hl0 (hml.trans hl.1.symm) hown te_fitA te_fitU (te_ow hts hN hT te_owA) (hts _ wd_388) (hts _ wd_15) (te_str hT wt_464) hnoh hlocks (Nat.le_refl _) d_G_power_24 d_G_power_27 d_G_power_28 d_G_power_30 d_G_power_33 (Nat.le_of_ble_eq_true rfl) (Nat.le_of_ble_eq_true rfl) (Nat.le_of_ble_eq_true rfl) (Nat.le_of_ble_eq_true rfl)
  · refine lv_iload_n hx hb d_G_power_11 rfl (lv_at hl 2 rfl) ?_
    refine lv_sipush (v := (-20000)) hx hb d_G_power_12 (by decide) ?_
    refine lv_sipush (v := 20000) hx hb d_G_power_15 (by decide) ?_
    refine kq_R (r := .int (r_isWithin ib (-20000) 20000)) (va_runS (As := [.int ib, .int (-20000), .int 20000]) (rest := []) ⟨hx, hb, hml, hown, hts⟩ (c_isWithin l dC dI ib (-20000) 20000) (kw_S (n := 3) hts wd_313 wd_314 wd_1 wd_315 rfl rfl (by decide +kernel) ⟨Nat.le_of_ble_eq_true rfl, Nat.le_of_ble_eq_true rfl⟩) (kq_preS hN (hP.sub (ws' := []) [] rfl) (hK.sub (tys' := []) [] rfl)) rfl rfl hl.1 rfl (lv_room (Nat.le_of_ble_eq_true rfl)) d_G_power_18 ⟨Nat.le_of_ble_eq_true rfl, Nat.le_of_ble_eq_true rfl⟩) ?_
    refine lv_if_ne hx hb (tgt := 34) d_G_power_21 rfl (fun h2 => ?_) (fun h2 => ?_)
    · exact ((fun q => q.elim (fun x => absurd x h1) (fun x => absurd x h2)) hbad : False).elim
    · exact te_throw (X := XA) (names := te_up) hx hb hl0 (hml.trans hl.1.symm) hown te_fitA te_fitU (te_ow hts hN hT te_owA) (hts _ wd_388) (hts _ wd_15) (te_str hT wt_464) hnoh hlocks (Nat.le_refl _) d_G_power_24 d_G_power_27 d_G_power_28 d_G_power_30 d_G_power_33 (Nat.le_of_ble_eq_true rfl) (Nat.le_of_ble_eq_true rfl) (Nat.le_of_ble_eq_true rfl) (Nat.le_of_ble_eq_true rfl)
set_option maxHeartbeats 4000000 in
set_option maxRecDepth 100000 in
theorem t_gridT (l : Launch) (hl0 : l.stackTraces = false) (dC : Nat → ClassId) (dI : Nat → Nat → Nat) (b0 : Nat) (ba : Nat) (bl : Nat) (bq : Nat) (bk : Nat) (bd : Nat) (bo : Nat) (be : Nat) (gz : Nat → Int32) (gl : Nat → Int64) (og : Nat → Int32) (ia : Int32) (ib : Int32) (ic : Int32) (hbad : (r_isWithin ia 0 20000) = 0 ∨ (r_isWithin ib 40000 70000) = 0) : te_Met l y_G_grid (wz y_G_grid b_G_grid 4 none) { frames := 6, cells := 1, slots := 6, locals := 82 } (va_Pc [.ref b0, .int ia, .int ib, .int ic] (fun U => nw U ∧ va_P (dC, dI) vwCl [(b0, .inr (0, [.ref ba, .ref bl, .ref bq, .ref bk, .ref bd, .ref bo, .ref be, .int (gz 0), .int (gz 1), .long (gl 0)])), (bo, .inr (6, [.int (og 0), .int (og 1), .int (og 2), .int (og 3)]))] U.heap ∧ va_K (dC, dI) vwCl [] U ∧ te_Ok U)) XA 1 6 := by
  refine te_ofW (cc := b_G_grid) (maxL := 4) (ret := none) (by decide) rfl ?_
  intro p e s m args below meth c s₁ B hml hv
  obtain ⟨rfl, hN, hP, hK, hT⟩ := hv
  have hx := B.exec
  have hb := B.bytes
  have hr := B.returns
  have hts := fun w h => atoms_spec (ws := (wz y_G_grid b_G_grid 4 none)) B.pre w (List.mem_cons_of_mem _ h)
  have hown : s.vm.findClass R_G = some m.cls := findClass_of_methodNamed B.named
  have hlocks := B.notSynchronized
  have hnoh : c.exceptionTable.isEmpty = true := B.noHandlers (atoms_spec (ws := (wz y_G_grid b_G_grid 4 none)) B.pre _ List.mem_cons_self)
  obtain ⟨⟨t1, hZ1, hX1⟩, ⟨t2, hZ2, hX2⟩, t3, hZ3, hX3⟩ := hT.2.2.2.2
  have hl := lv_entry ([.ref b0, .int ia, .int ib, .int ic]) (n := 4) (Nat.le_of_ble_eq_true rfl)
  rw [lg_entry_eq]
  generalize (lg_sl ([.ref b0, .int ia, .int ib, .int ic]) ++ List.replicate (4 - (lg_sl ([.ref b0, .int ia, .int ib, .int ic])).length) Slot.unset).toArray = ls at hl ⊢
  have hl : lv_has ls 4 [(0, .ref b0), (1, .int ia), (2, .int ib), (3, .int ic)] := hl
  refine lv_iload_n hx hb d_G_grid_0 rfl (lv_at hl 1 rfl) ?_
  refine lv_iconst (v := 0) hx hb d_G_grid_1 (by decide) ?_
  refine lv_sipush (v := 20000) hx hb d_G_grid_2 (by decide) ?_
  refine kq_R (r := .int (r_isWithin ia 0 20000)) (va_runS (As := [.int ia, .int 0, .int 20000]) (rest := []) ⟨hx, hb, hml, hown, hts⟩ (c_isWithin l dC dI ia 0 20000) (kw_S (n := 3) hts wd_313 wd_314 wd_1 wd_315 rfl rfl (by decide +kernel) ⟨Nat.le_of_ble_eq_true rfl, Nat.le_of_ble_eq_true rfl⟩) (kq_preS hN (hP.sub (ws' := []) [] rfl) (hK.sub (tys' := []) [] rfl)) rfl rfl hl.1 rfl (lv_room (Nat.le_of_ble_eq_true rfl)) d_G_grid_5 ⟨Nat.le_of_ble_eq_true rfl, Nat.le_of_ble_eq_true rfl⟩) ?_
  refine lv_if_eq hx hb (tgt := 22) d_G_grid_8 rfl (fun h1 => ?_) (fun h1 => ?_)
  · exact te_throw (X := XA) (names := te_up) hx hb hl0 (hml.trans hl.1.symm) hown te_fitA te_fitU (te_ow hts hN hT te_owA) (hts _ wd_388) (hts _ wd_15) (te_str hT wt_601) hnoh hlocks (Nat.le_refl _) d_G_grid_22 d_G_grid_25 d_G_grid_26 d_G_grid_28 d_G_grid_31 (Nat.le_of_ble_eq_true rfl) (Nat.le_of_ble_eq_true rfl) (Nat.le_of_ble_eq_true rfl) (Nat.le_of_ble_eq_true rfl)
  · refine lv_iload_n hx hb d_G_grid_11 rfl (lv_at hl 2 rfl) ?_
    refine lv_ldc (v := 40000) hx hb hown (hts _ wd_599) d_G_grid_12 ?_
    refine lv_ldc (v := 70000) hx hb hown (hts _ wd_600) d_G_grid_14 ?_
    refine kq_R (r := .int (r_isWithin ib 40000 70000)) (va_runS (As := [.int ib, .int 40000, .int 70000]) (rest := []) ⟨hx, hb, hml, hown, hts⟩ (c_isWithin l dC dI ib 40000 70000) (kw_S (n := 3) hts wd_313 wd_314 wd_1 wd_315 rfl rfl (by decide +kernel) ⟨Nat.le_of_ble_eq_true rfl, Nat.le_of_ble_eq_true rfl⟩) (kq_preS hN (hP.sub (ws' := []) [] rfl) (hK.sub (tys' := []) [] rfl)) rfl rfl hl.1 rfl (lv_room (Nat.le_of_ble_eq_true rfl)) d_G_grid_16 ⟨Nat.le_of_ble_eq_true rfl, Nat.le_of_ble_eq_true rfl⟩) ?_
    refine lv_if_ne hx hb (tgt := 32) d_G_grid_19 rfl (fun h2 => ?_) (fun h2 => ?_)
    · exact ((fun q => q.elim (fun x => absurd x h1) (fun x => absurd x h2)) hbad : False).elim
    · exact te_throw (X := XA) (names := te_up) hx hb hl0 (hml.trans hl.1.symm) hown te_fitA te_fitU (te_ow hts hN hT te_owA) (hts _ wd_388) (hts _ wd_15) (te_str hT wt_601) hnoh hlocks (Nat.le_refl _) d_G_grid_22 d_G_grid_25 d_G_grid_26 d_G_grid_28 d_G_grid_31 (Nat.le_of_ble_eq_true rfl) (Nat.le_of_ble_eq_true rfl) (Nat.le_of_ble_eq_true rfl) (Nat.le_of_ble_eq_true rfl)
set_option maxHeartbeats 4000000 in
set_option maxRecDepth 100000 in
theorem t_sampleT (l : Launch) (hl0 : l.stackTraces = false) (dC : Nat → ClassId) (dI : Nat → Nat → Nat) (b0 : Nat) (ba : Nat) (bl : Nat) (bq : Nat) (bk : Nat) (bd : Nat) (bo : Nat) (be : Nat) (gz : Nat → Int32) (gl : Nat → Int64) (ia : Int32) (ib : Int32) (ic : Int32) (hbad : (r_isSample ia) = 0 ∨ (r_isSample ib) = 0 ∨ (r_isSample ic) = 0) : te_Met l y_G_sample (wz y_G_sample b_G_sample 4 (some .int)) { frames := 6, cells := 1, slots := 6, locals := 82 } (va_Pc [.ref b0, .int ia, .int ib, .int ic] (fun U => nw U ∧ va_P (dC, dI) vwCl [(b0, .inr (0, [.ref ba, .ref bl, .ref bq, .ref bk, .ref bd, .ref bo, .ref be, .int (gz 0), .int (gz 1), .long (gl 0)]))] U.heap ∧ va_K (dC, dI) vwCl [] U ∧ te_Ok U)) XA 1 6 := by
  refine te_ofW (cc := b_G_sample) (maxL := 4) (ret := (some .int)) (by decide) rfl ?_
  intro p e s m args below meth c s₁ B hml hv
  obtain ⟨rfl, hN, hP, hK, hT⟩ := hv
  have hx := B.exec
  have hb := B.bytes
  have hr := B.returns
  have hts := fun w h => atoms_spec (ws := (wz y_G_sample b_G_sample 4 (some .int))) B.pre w (List.mem_cons_of_mem _ h)
  have hown : s.vm.findClass R_G = some m.cls := findClass_of_methodNamed B.named
  have hlocks := B.notSynchronized
  have hnoh : c.exceptionTable.isEmpty = true := B.noHandlers (atoms_spec (ws := (wz y_G_sample b_G_sample 4 (some .int))) B.pre _ List.mem_cons_self)
  obtain ⟨⟨t1, hZ1, hX1⟩, ⟨t2, hZ2, hX2⟩, t3, hZ3, hX3⟩ := hT.2.2.2.2
  have hl := lv_entry ([.ref b0, .int ia, .int ib, .int ic]) (n := 4) (Nat.le_of_ble_eq_true rfl)
  rw [lg_entry_eq]
  generalize (lg_sl ([.ref b0, .int ia, .int ib, .int ic]) ++ List.replicate (4 - (lg_sl ([.ref b0, .int ia, .int ib, .int ic])).length) Slot.unset).toArray = ls at hl ⊢
  have hl : lv_has ls 4 [(0, .ref b0), (1, .int ia), (2, .int ib), (3, .int ic)] := hl
  refine lv_iload_n hx hb d_G_sample_0 rfl (lv_at hl 1 rfl) ?_
  refine kq_R (r := .int (r_isSample ia)) (va_runS (As := [.int ia]) (rest := []) ⟨hx, hb, hml, hown, hts⟩ (c_isSample l dC dI ia) (kw_S (n := 1) hts wd_472 wd_473 wd_1 wd_474 rfl rfl (by decide +kernel) ⟨Nat.le_of_ble_eq_true rfl, Nat.le_of_ble_eq_true rfl⟩) (kq_preS hN (hP.sub (ws' := []) [] rfl) (hK.sub (tys' := []) [] rfl)) rfl rfl hl.1 rfl (lv_room (Nat.le_of_ble_eq_true rfl)) d_G_sample_1 ⟨Nat.le_of_ble_eq_true rfl, Nat.le_of_ble_eq_true rfl⟩) ?_
  refine lv_if_eq hx hb (tgt := 21) d_G_sample_4 rfl (fun h1 => ?_) (fun h1 => ?_)
  · exact te_throw (X := XA) (names := te_up) hx hb hl0 (hml.trans hl.1.symm) hown te_fitA te_fitU (te_ow hts hN hT te_owA) (hts _ wd_388) (hts _ wd_15) (te_str hT wt_475) hnoh hlocks (Nat.le_refl _) d_G_sample_21 d_G_sample_24 d_G_sample_25 d_G_sample_27 d_G_sample_30 (Nat.le_of_ble_eq_true rfl) (Nat.le_of_ble_eq_true rfl) (Nat.le_of_ble_eq_true rfl) (Nat.le_of_ble_eq_true rfl)
  · refine lv_iload_n hx hb d_G_sample_7 rfl (lv_at hl 2 rfl) ?_
    refine kq_R (r := .int (r_isSample ib)) (va_runS (As := [.int ib]) (rest := []) ⟨hx, hb, hml, hown, hts⟩ (c_isSample l dC dI ib) (kw_S (n := 1) hts wd_472 wd_473 wd_1 wd_474 rfl rfl (by decide +kernel) ⟨Nat.le_of_ble_eq_true rfl, Nat.le_of_ble_eq_true rfl⟩) (kq_preS hN (hP.sub (ws' := []) [] rfl) (hK.sub (tys' := []) [] rfl)) rfl rfl hl.1 rfl (lv_room (Nat.le_of_ble_eq_true rfl)) d_G_sample_8 ⟨Nat.le_of_ble_eq_true rfl, Nat.le_of_ble_eq_true rfl⟩) ?_
    refine lv_if_eq hx hb (tgt := 21) d_G_sample_11 rfl (fun h2 => ?_) (fun h2 => ?_)
    · exact te_throw (X := XA) (names := te_up) hx hb hl0 (hml.trans hl.1.symm) hown te_fitA te_fitU (te_ow hts hN hT te_owA) (hts _ wd_388) (hts _ wd_15) (te_str hT wt_475) hnoh hlocks (Nat.le_refl _) d_G_sample_21 d_G_sample_24 d_G_sample_25 d_G_sample_27 d_G_sample_30 (Nat.le_of_ble_eq_true rfl) (Nat.le_of_ble_eq_true rfl) (Nat.le_of_ble_eq_true rfl) (Nat.le_of_ble_eq_true rfl)
    · refine lv_iload_n hx hb d_G_sample_14 rfl (lv_at hl 3 rfl) ?_
      refine kq_R (r := .int (r_isSample ic)) (va_runS (As := [.int ic]) (rest := []) ⟨hx, hb, hml, hown, hts⟩ (c_isSample l dC dI ic) (kw_S (n := 1) hts wd_472 wd_473 wd_1 wd_474 rfl rfl (by decide +kernel) ⟨Nat.le_of_ble_eq_true rfl, Nat.le_of_ble_eq_true rfl⟩) (kq_preS hN (hP.sub (ws' := []) [] rfl) (hK.sub (tys' := []) [] rfl)) rfl rfl hl.1 rfl (lv_room (Nat.le_of_ble_eq_true rfl)) d_G_sample_15 ⟨Nat.le_of_ble_eq_true rfl, Nat.le_of_ble_eq_true rfl⟩) ?_
      refine lv_if_ne hx hb (tgt := 31) d_G_sample_18 rfl (fun h3 => ?_) (fun h3 => ?_)
      · exact ((fun q => q.elim (fun x => absurd x h1) (fun q => q.elim (fun x => absurd x h2) (fun x => absurd x h3))) hbad : False).elim
      · exact te_throw (X := XA) (names := te_up) hx hb hl0 (hml.trans hl.1.symm) hown te_fitA te_fitU (te_ow hts hN hT te_owA) (hts _ wd_388) (hts _ wd_15) (te_str hT wt_475) hnoh hlocks (Nat.le_refl _) d_G_sample_21 d_G_sample_24 d_G_sample_25 d_G_sample_27 d_G_sample_30 (Nat.le_of_ble_eq_true rfl) (Nat.le_of_ble_eq_true rfl) (Nat.le_of_ble_eq_true rfl) (Nat.le_of_ble_eq_true rfl)
set_option maxHeartbeats 4000000 in
set_option maxRecDepth 100000 in
theorem t_runT1 (l : Launch) (hl0 : l.stackTraces = false) (dC : Nat → ClassId) (dI : Nat → Nat → Nat) (b0 : Nat) (ba : Nat) (bl : Nat) (bq : Nat) (bk : Nat) (bd : Nat) (bo : Nat) (be : Nat) (gz : Nat → Int32) (gl : Nat → Int64) (og : Nat → Int32) (ia : Int32) (ha0 : (r_isWithin ia 1 500) = 0) : te_Met l y_G_run (wz y_G_run b_G_run 4 (some .int)) { frames := 6, cells := 1, slots := 6, locals := 82 } (va_Pc [.ref b0, .int ia] (fun U => nw U ∧ va_P (dC, dI) vwCl [(b0, .inr (0, [.ref ba, .ref bl, .ref bq, .ref bk, .ref bd, .ref bo, .ref be, .int (gz 0), .int (gz 1), .long (gl 0)])), (bo, .inr (6, [.int (og 0), .int (og 1), .int (og 2), .int (og 3)]))] U.heap ∧ va_K (dC, dI) vwCl [] U ∧ te_Ok U)) XA 1 6 := by
  refine te_ofW (cc := b_G_run) (maxL := 4) (ret := (some .int)) (by decide) rfl ?_
  intro p e s m args below meth c s₁ B hml hv
  obtain ⟨rfl, hN, hP, hK, hT⟩ := hv
  have hx := B.exec
  have hb := B.bytes
  have hr := B.returns
  have hts := fun w h => atoms_spec (ws := (wz y_G_run b_G_run 4 (some .int))) B.pre w (List.mem_cons_of_mem _ h)
  have hown : s.vm.findClass R_G = some m.cls := findClass_of_methodNamed B.named
  have hlocks := B.notSynchronized
  have hnoh : c.exceptionTable.isEmpty = true := B.noHandlers (atoms_spec (ws := (wz y_G_run b_G_run 4 (some .int))) B.pre _ List.mem_cons_self)
  obtain ⟨⟨t1, hZ1, hX1⟩, ⟨t2, hZ2, hX2⟩, t3, hZ3, hX3⟩ := hT.2.2.2.2
  have hl := lv_entry ([.ref b0, .int ia]) (n := 4) (Nat.le_of_ble_eq_true rfl)
  rw [lg_entry_eq]
  generalize (lg_sl ([.ref b0, .int ia]) ++ List.replicate (4 - (lg_sl ([.ref b0, .int ia])).length) Slot.unset).toArray = ls at hl ⊢
  have hl : lv_has ls 4 [(0, .ref b0), (1, .int ia)] := hl
  refine lv_iload_n hx hb d_G_run_0 rfl (lv_at hl 1 rfl) ?_
  refine lv_iconst (v := 1) hx hb d_G_run_1 (by decide) ?_
  refine lv_sipush (v := 500) hx hb d_G_run_2 (by decide) ?_
  refine kq_R (r := .int (r_isWithin ia 1 500)) (va_runS (As := [.int ia, .int 1, .int 500]) (rest := []) ⟨hx, hb, hml, hown, hts⟩ (c_isWithin l dC dI ia 1 500) (kw_S (n := 3) hts wd_313 wd_314 wd_1 wd_315 rfl rfl (by decide +kernel) ⟨Nat.le_of_ble_eq_true rfl, Nat.le_of_ble_eq_true rfl⟩) (kq_preS hN (hP.sub (ws' := []) [] rfl) (hK.sub (tys' := []) [] rfl)) rfl rfl hl.1 rfl (lv_room (Nat.le_of_ble_eq_true rfl)) d_G_run_5 ⟨Nat.le_of_ble_eq_true rfl, Nat.le_of_ble_eq_true rfl⟩) ?_
  refine lv_if_ne hx hb (tgt := 21) d_G_run_8 rfl (fun h => absurd ha0 h) (fun _ => ?_)
  exact te_throw (X := XA) (names := te_up) hx hb hl0 (hml.trans hl.1.symm) hown te_fitA te_fitU (te_ow hts hN hT te_owA) (hts _ wd_388) (hts _ wd_15) (te_str hT wt_615) hnoh hlocks (Nat.le_refl _) d_G_run_11 d_G_run_14 d_G_run_15 d_G_run_17 d_G_run_20 (Nat.le_of_ble_eq_true rfl) (Nat.le_of_ble_eq_true rfl) (Nat.le_of_ble_eq_true rfl) (Nat.le_of_ble_eq_true rfl)
set_option maxHeartbeats 4000000 in
set_option maxRecDepth 100000 in
theorem t_runT2 (l : Launch) (hl0 : l.stackTraces = false) (dC : Nat → ClassId) (dI : Nat → Nat → Nat) (b0 : Nat) (ba : Nat) (bl : Nat) (bq : Nat) (bk : Nat) (bd : Nat) (bo : Nat) (be : Nat) (gz : Nat → Int32) (gl : Nat → Int64) (og : Nat → Int32) (ia : Int32) (ha0 : ¬ (r_isWithin ia 1 500) = 0) (ha1 : (og 0) = 0) : te_Met l y_G_run (wz y_G_run b_G_run 4 (some .int)) { frames := 6, cells := 1, slots := 6, locals := 82 } (va_Pc [.ref b0, .int ia] (fun U => nw U ∧ va_P (dC, dI) vwCl [(b0, .inr (0, [.ref ba, .ref bl, .ref bq, .ref bk, .ref bd, .ref bo, .ref be, .int (gz 0), .int (gz 1), .long (gl 0)])), (bo, .inr (6, [.int (og 0), .int (og 1), .int (og 2), .int (og 3)]))] U.heap ∧ va_K (dC, dI) vwCl [] U ∧ te_Ok U)) XS 1 6 := by
  refine te_ofW (cc := b_G_run) (maxL := 4) (ret := (some .int)) (by decide) rfl ?_
  intro p e s m args below meth c s₁ B hml hv
  obtain ⟨rfl, hN, hP, hK, hT⟩ := hv
  have hx := B.exec
  have hb := B.bytes
  have hr := B.returns
  have hts := fun w h => atoms_spec (ws := (wz y_G_run b_G_run 4 (some .int))) B.pre w (List.mem_cons_of_mem _ h)
  have hown : s.vm.findClass R_G = some m.cls := findClass_of_methodNamed B.named
  have hlocks := B.notSynchronized
  have hnoh : c.exceptionTable.isEmpty = true := B.noHandlers (atoms_spec (ws := (wz y_G_run b_G_run 4 (some .int))) B.pre _ List.mem_cons_self)
  obtain ⟨⟨t1, hZ1, hX1⟩, ⟨t2, hZ2, hX2⟩, t3, hZ3, hX3⟩ := hT.2.2.2.2
  have hl := lv_entry ([.ref b0, .int ia]) (n := 4) (Nat.le_of_ble_eq_true rfl)
  rw [lg_entry_eq]
  generalize (lg_sl ([.ref b0, .int ia]) ++ List.replicate (4 - (lg_sl ([.ref b0, .int ia])).length) Slot.unset).toArray = ls at hl ⊢
  have hl : lv_has ls 4 [(0, .ref b0), (1, .int ia)] := hl
  refine lv_iload_n hx hb d_G_run_0 rfl (lv_at hl 1 rfl) ?_
  refine lv_iconst (v := 1) hx hb d_G_run_1 (by decide) ?_
  refine lv_sipush (v := 500) hx hb d_G_run_2 (by decide) ?_
  refine kq_R (r := .int (r_isWithin ia 1 500)) (va_runS (As := [.int ia, .int 1, .int 500]) (rest := []) ⟨hx, hb, hml, hown, hts⟩ (c_isWithin l dC dI ia 1 500) (kw_S (n := 3) hts wd_313 wd_314 wd_1 wd_315 rfl rfl (by decide +kernel) ⟨Nat.le_of_ble_eq_true rfl, Nat.le_of_ble_eq_true rfl⟩) (kq_preS hN (hP.sub (ws' := []) [] rfl) (hK.sub (tys' := []) [] rfl)) rfl rfl hl.1 rfl (lv_room (Nat.le_of_ble_eq_true rfl)) d_G_run_5 ⟨Nat.le_of_ble_eq_true rfl, Nat.le_of_ble_eq_true rfl⟩) ?_
  refine lv_if_ne hx hb (tgt := 21) d_G_run_8 rfl (fun _ => ?_) (fun h => absurd h ha0)
  refine lv_aload_n hx hb d_G_run_21 rfl (lv_at hl 0 rfl) ?_
  refine va_get (D := (dC, dI)) (ci := 0) (v := .ref bo) (C := R_G) (T := T_G) (N := 10) hx hb hts uin_G hown hK hP 0 rfl rfl 5 (by decide) (hts _ wd_231) (fun _ h9 => h9) rfl d_G_run_22 ?_
  refine va_getN (D := (dC, dI)) (ci := 6) (v := .int (og 0)) (C := R_Og) (T := T_Og) (N := 4) hx hb hts uin_Og hown hK hP 1 rfl rfl 0 (by decide) (nw_use hN wd_196) (fun _ h9 => h9) rfl d_G_run_25 ?_
  refine lv_if_ne hx hb (tgt := 41) d_G_run_28 rfl (fun h => absurd ha1 h) (fun _ => ?_)
  exact te_throw (X := XS) (names := te_up) hx hb hl0 (hml.trans hl.1.symm) hown te_fitS te_fitU (te_ow hts hN hT te_owS) (hts _ wd_408) (hts _ wd_16) (te_str hT wt_616) hnoh hlocks (Nat.le_refl _) d_G_run_31 d_G_run_34 d_G_run_35 d_G_run_37 d_G_run_40 (Nat.le_of_ble_eq_true rfl) (Nat.le_of_ble_eq_true rfl) (Nat.le_of_ble_eq_true rfl) (Nat.le_of_ble_eq_true rfl)
set_option maxHeartbeats 4000000 in
set_option maxRecDepth 100000 in
theorem t_signalT (l : Launch) (hl0 : l.stackTraces = false) (dC : Nat → ClassId) (dI : Nat → Nat → Nat) (b0 : Nat) (ba : Nat) (bl : Nat) (bq : Nat) (bk : Nat) (bd : Nat) (bo : Nat) (be : Nat) (gz : Nat → Int32) (gl : Nat → Int64) (ia : Int32) (hnin : ¬ vp_in ia 6) : te_Met l y_G_signal (wz y_G_signal b_G_signal 2 (some .int)) { frames := 6, cells := 1, slots := 6, locals := 82 } (va_Pc [.ref b0, .int ia] (fun U => nw U ∧ va_P (dC, dI) vwCl [(b0, .inr (0, [.ref ba, .ref bl, .ref bq, .ref bk, .ref bd, .ref bo, .ref be, .int (gz 0), .int (gz 1), .long (gl 0)]))] U.heap ∧ va_K (dC, dI) vwCl [] U ∧ te_Ok U)) XI 1 6 := by
  refine te_ofW (cc := b_G_signal) (maxL := 2) (ret := (some .int)) (by decide) rfl ?_
  intro p e s m args below meth c s₁ B hml hv
  obtain ⟨rfl, hN, hP, hK, hT⟩ := hv
  have hx := B.exec
  have hb := B.bytes
  have hr := B.returns
  have hts := fun w h => atoms_spec (ws := (wz y_G_signal b_G_signal 2 (some .int))) B.pre w (List.mem_cons_of_mem _ h)
  have hown : s.vm.findClass R_G = some m.cls := findClass_of_methodNamed B.named
  have hlocks := B.notSynchronized
  have hnoh : c.exceptionTable.isEmpty = true := B.noHandlers (atoms_spec (ws := (wz y_G_signal b_G_signal 2 (some .int))) B.pre _ List.mem_cons_self)
  obtain ⟨⟨t1, hZ1, hX1⟩, ⟨t2, hZ2, hX2⟩, t3, hZ3, hX3⟩ := hT.2.2.2.2
  have hl := lv_entry ([.ref b0, .int ia]) (n := 2) (Nat.le_of_ble_eq_true rfl)
  rw [lg_entry_eq]
  generalize (lg_sl ([.ref b0, .int ia]) ++ List.replicate (2 - (lg_sl ([.ref b0, .int ia])).length) Slot.unset).toArray = ls at hl ⊢
  have hl : lv_has ls 2 [(0, .ref b0), (1, .int ia)] := hl
  refine lv_iload_n hx hb d_G_signal_0 rfl (lv_at hl 1 rfl) ?_
  by_cases h1 : ia = 0
  · refine lv_tableIn (off := 39) (tgt := 40) hx hb d_G_signal_1 (by rw [h1]; decide) (by rw [h1]; decide) (by rw [h1]; rfl) rfl ?_
    exact absurd (show vp_in ia _ by rw [h1]; exact kq_in (by decide)) hnin
  · by_cases h2 : ia = 1
    · refine lv_tableIn (off := 47) (tgt := 48) hx hb d_G_signal_1 (by rw [h2]; decide) (by rw [h2]; decide) (by rw [h2]; rfl) rfl ?_
      exact absurd (show vp_in ia _ by rw [h2]; exact kq_in (by decide)) hnin
    · by_cases h3 : ia = 2
      · refine lv_tableIn (off := 55) (tgt := 56) hx hb d_G_signal_1 (by rw [h3]; decide) (by rw [h3]; decide) (by rw [h3]; rfl) rfl ?_
        exact absurd (show vp_in ia _ by rw [h3]; exact kq_in (by decide)) hnin
      · by_cases h4 : ia = 3
        · refine lv_tableIn (off := 63) (tgt := 64) hx hb d_G_signal_1 (by rw [h4]; decide) (by rw [h4]; decide) (by rw [h4]; rfl) rfl ?_
          exact absurd (show vp_in ia _ by rw [h4]; exact kq_in (by decide)) hnin
        · by_cases h5 : ia = 4
          · refine lv_tableIn (off := 71) (tgt := 72) hx hb d_G_signal_1 (by rw [h5]; decide) (by rw [h5]; decide) (by rw [h5]; rfl) rfl ?_
            exact absurd (show vp_in ia _ by rw [h5]; exact kq_in (by decide)) hnin
          · by_cases h6 : ia = 5
            · refine lv_tableIn (off := 79) (tgt := 80) hx hb d_G_signal_1 (by rw [h6]; decide) (by rw [h6]; decide) (by rw [h6]; rfl) rfl ?_
              exact absurd (show vp_in ia _ by rw [h6]; exact kq_in (by decide)) hnin
            · refine lv_tableOut (tgt := 88) hx hb d_G_signal_1 (by have g0 := kq_neI (z := 0) h1 (by decide); have g1 := kq_neI (z := 1) h2 (by decide); have g2 := kq_neI (z := 2) h3 (by decide); have g3 := kq_neI (z := 3) h4 (by decide); have g4 := kq_neI (z := 4) h5 (by decide); have g5 := kq_neI (z := 5) h6 (by decide); omega) rfl ?_
              exact te_throw (X := XI) (names := te_up) hx hb hl0 (hml.trans hl.1.symm) hown te_fitI te_fitU (te_ow hts hN hT te_owI) (hts _ wd_316) (hts _ wd_14) (te_str hT wt_635) hnoh hlocks (Nat.le_refl _) d_G_signal_88 d_G_signal_91 d_G_signal_92 d_G_signal_94 d_G_signal_97 (Nat.le_of_ble_eq_true rfl) (Nat.le_of_ble_eq_true rfl) (Nat.le_of_ble_eq_true rfl) (Nat.le_of_ble_eq_true rfl)
set_option maxHeartbeats 4000000 in
set_option maxRecDepth 100000 in
theorem t_stateT (l : Launch) (hl0 : l.stackTraces = false) (dC : Nat → ClassId) (dI : Nat → Nat → Nat) (b0 : Nat) (ba : Nat) (bl : Nat) (bq : Nat) (bk : Nat) (bd : Nat) (bo : Nat) (be : Nat) (gz : Nat → Int32) (gl : Nat → Int64) (ia : Int32) (hnin : ¬ vp_in ia 12) : te_Met l y_G_state (wz y_G_state b_G_state 2 (some .int)) { frames := 6, cells := 1, slots := 6, locals := 82 } (va_Pc [.ref b0, .int ia] (fun U => nw U ∧ va_P (dC, dI) vwCl [(b0, .inr (0, [.ref ba, .ref bl, .ref bq, .ref bk, .ref bd, .ref bo, .ref be, .int (gz 0), .int (gz 1), .long (gl 0)]))] U.heap ∧ va_K (dC, dI) vwCl [] U ∧ te_Ok U)) XI 1 6 := by
  refine te_ofW (cc := b_G_state) (maxL := 2) (ret := (some .int)) (by decide) rfl ?_
  intro p e s m args below meth c s₁ B hml hv
  obtain ⟨rfl, hN, hP, hK, hT⟩ := hv
  have hx := B.exec
  have hb := B.bytes
  have hr := B.returns
  have hts := fun w h => atoms_spec (ws := (wz y_G_state b_G_state 2 (some .int))) B.pre w (List.mem_cons_of_mem _ h)
  have hown : s.vm.findClass R_G = some m.cls := findClass_of_methodNamed B.named
  have hlocks := B.notSynchronized
  have hnoh : c.exceptionTable.isEmpty = true := B.noHandlers (atoms_spec (ws := (wz y_G_state b_G_state 2 (some .int))) B.pre _ List.mem_cons_self)
  obtain ⟨⟨t1, hZ1, hX1⟩, ⟨t2, hZ2, hX2⟩, t3, hZ3, hX3⟩ := hT.2.2.2.2
  have hl := lv_entry ([.ref b0, .int ia]) (n := 2) (Nat.le_of_ble_eq_true rfl)
  rw [lg_entry_eq]
  generalize (lg_sl ([.ref b0, .int ia]) ++ List.replicate (2 - (lg_sl ([.ref b0, .int ia])).length) Slot.unset).toArray = ls at hl ⊢
  have hl : lv_has ls 2 [(0, .ref b0), (1, .int ia)] := hl
  refine lv_iload_n hx hb d_G_state_0 rfl (lv_at hl 1 rfl) ?_
  by_cases h1 : ia = 0
  · refine lv_tableIn (off := 63) (tgt := 64) hx hb d_G_state_1 (by rw [h1]; decide) (by rw [h1]; decide) (by rw [h1]; rfl) rfl ?_
    exact absurd (show vp_in ia _ by rw [h1]; exact kq_in (by decide)) hnin
  · by_cases h2 : ia = 1
    · refine lv_tableIn (off := 74) (tgt := 75) hx hb d_G_state_1 (by rw [h2]; decide) (by rw [h2]; decide) (by rw [h2]; rfl) rfl ?_
      exact absurd (show vp_in ia _ by rw [h2]; exact kq_in (by decide)) hnin
    · by_cases h3 : ia = 2
      · refine lv_tableIn (off := 85) (tgt := 86) hx hb d_G_state_1 (by rw [h3]; decide) (by rw [h3]; decide) (by rw [h3]; rfl) rfl ?_
        exact absurd (show vp_in ia _ by rw [h3]; exact kq_in (by decide)) hnin
      · by_cases h4 : ia = 3
        · refine lv_tableIn (off := 96) (tgt := 97) hx hb d_G_state_1 (by rw [h4]; decide) (by rw [h4]; decide) (by rw [h4]; rfl) rfl ?_
          exact absurd (show vp_in ia _ by rw [h4]; exact kq_in (by decide)) hnin
        · by_cases h5 : ia = 4
          · refine lv_tableIn (off := 107) (tgt := 108) hx hb d_G_state_1 (by rw [h5]; decide) (by rw [h5]; decide) (by rw [h5]; rfl) rfl ?_
            exact absurd (show vp_in ia _ by rw [h5]; exact kq_in (by decide)) hnin
          · by_cases h6 : ia = 5
            · refine lv_tableIn (off := 115) (tgt := 116) hx hb d_G_state_1 (by rw [h6]; decide) (by rw [h6]; decide) (by rw [h6]; rfl) rfl ?_
              exact absurd (show vp_in ia _ by rw [h6]; exact kq_in (by decide)) hnin
            · by_cases h7 : ia = 6
              · refine lv_tableIn (off := 123) (tgt := 124) hx hb d_G_state_1 (by rw [h7]; decide) (by rw [h7]; decide) (by rw [h7]; rfl) rfl ?_
                exact absurd (show vp_in ia _ by rw [h7]; exact kq_in (by decide)) hnin
              · by_cases h8 : ia = 7
                · refine lv_tableIn (off := 131) (tgt := 132) hx hb d_G_state_1 (by rw [h8]; decide) (by rw [h8]; decide) (by rw [h8]; rfl) rfl ?_
                  exact absurd (show vp_in ia _ by rw [h8]; exact kq_in (by decide)) hnin
                · by_cases h9 : ia = 8
                  · refine lv_tableIn (off := 139) (tgt := 140) hx hb d_G_state_1 (by rw [h9]; decide) (by rw [h9]; decide) (by rw [h9]; rfl) rfl ?_
                    exact absurd (show vp_in ia _ by rw [h9]; exact kq_in (by decide)) hnin
                  · by_cases h10 : ia = 9
                    · refine lv_tableIn (off := 147) (tgt := 148) hx hb d_G_state_1 (by rw [h10]; decide) (by rw [h10]; decide) (by rw [h10]; rfl) rfl ?_
                      exact absurd (show vp_in ia _ by rw [h10]; exact kq_in (by decide)) hnin
                    · by_cases h11 : ia = 10
                      · refine lv_tableIn (off := 155) (tgt := 156) hx hb d_G_state_1 (by rw [h11]; decide) (by rw [h11]; decide) (by rw [h11]; rfl) rfl ?_
                        exact absurd (show vp_in ia _ by rw [h11]; exact kq_in (by decide)) hnin
                      · by_cases h12 : ia = 11
                        · refine lv_tableIn (off := 160) (tgt := 161) hx hb d_G_state_1 (by rw [h12]; decide) (by rw [h12]; decide) (by rw [h12]; rfl) rfl ?_
                          exact absurd (show vp_in ia _ by rw [h12]; exact kq_in (by decide)) hnin
                        · refine lv_tableOut (tgt := 169) hx hb d_G_state_1 (by have g0 := kq_neI (z := 0) h1 (by decide); have g1 := kq_neI (z := 1) h2 (by decide); have g2 := kq_neI (z := 2) h3 (by decide); have g3 := kq_neI (z := 3) h4 (by decide); have g4 := kq_neI (z := 4) h5 (by decide); have g5 := kq_neI (z := 5) h6 (by decide); have g6 := kq_neI (z := 6) h7 (by decide); have g7 := kq_neI (z := 7) h8 (by decide); have g8 := kq_neI (z := 8) h9 (by decide); have g9 := kq_neI (z := 9) h10 (by decide); have g10 := kq_neI (z := 10) h11 (by decide); have g11 := kq_neI (z := 11) h12 (by decide); omega) rfl ?_
                          exact te_throw (X := XI) (names := te_up) hx hb hl0 (hml.trans hl.1.symm) hown te_fitI te_fitU (te_ow hts hN hT te_owI) (hts _ wd_316) (hts _ wd_14) (te_str hT wt_646) hnoh hlocks (Nat.le_refl _) d_G_state_169 d_G_state_172 d_G_state_173 d_G_state_175 d_G_state_178 (Nat.le_of_ble_eq_true rfl) (Nat.le_of_ble_eq_true rfl) (Nat.le_of_ble_eq_true rfl) (Nat.le_of_ble_eq_true rfl)
set_option maxHeartbeats 4000000 in
set_option maxRecDepth 100000 in
theorem t_countT (l : Launch) (hl0 : l.stackTraces = false) (dC : Nat → ClassId) (dI : Nat → Nat → Nat) (b0 : Nat) (ba : Nat) (bl : Nat) (bq : Nat) (bk : Nat) (bd : Nat) (bo : Nat) (be : Nat) (gz : Nat → Int32) (gl : Nat → Int64) (ia : Int32) (ha0 : (r_isWithin ia 0 5) = 0) : te_Met l y_G_count (wz y_G_count b_G_count 2 (some .int)) { frames := 6, cells := 1, slots := 6, locals := 82 } (va_Pc [.ref b0, .int ia] (fun U => nw U ∧ va_P (dC, dI) vwCl [(b0, .inr (0, [.ref ba, .ref bl, .ref bq, .ref bk, .ref bd, .ref bo, .ref be, .int (gz 0), .int (gz 1), .long (gl 0)]))] U.heap ∧ va_K (dC, dI) vwCl [] U ∧ te_Ok U)) XI 1 6 := by
  refine te_ofW (cc := b_G_count) (maxL := 2) (ret := (some .int)) (by decide) rfl ?_
  intro p e s m args below meth c s₁ B hml hv
  obtain ⟨rfl, hN, hP, hK, hT⟩ := hv
  have hx := B.exec
  have hb := B.bytes
  have hr := B.returns
  have hts := fun w h => atoms_spec (ws := (wz y_G_count b_G_count 2 (some .int))) B.pre w (List.mem_cons_of_mem _ h)
  have hown : s.vm.findClass R_G = some m.cls := findClass_of_methodNamed B.named
  have hlocks := B.notSynchronized
  have hnoh : c.exceptionTable.isEmpty = true := B.noHandlers (atoms_spec (ws := (wz y_G_count b_G_count 2 (some .int))) B.pre _ List.mem_cons_self)
  obtain ⟨⟨t1, hZ1, hX1⟩, ⟨t2, hZ2, hX2⟩, t3, hZ3, hX3⟩ := hT.2.2.2.2
  have hl := lv_entry ([.ref b0, .int ia]) (n := 2) (Nat.le_of_ble_eq_true rfl)
  rw [lg_entry_eq]
  generalize (lg_sl ([.ref b0, .int ia]) ++ List.replicate (2 - (lg_sl ([.ref b0, .int ia])).length) Slot.unset).toArray = ls at hl ⊢
  have hl : lv_has ls 2 [(0, .ref b0), (1, .int ia)] := hl
  refine lv_iload_n hx hb d_G_count_0 rfl (lv_at hl 1 rfl) ?_
  refine lv_iconst (v := 0) hx hb d_G_count_1 (by decide) ?_
  refine lv_iconst (v := 5) hx hb d_G_count_2 (by decide) ?_
  refine kq_R (r := .int (r_isWithin ia 0 5)) (va_runS (As := [.int ia, .int 0, .int 5]) (rest := []) ⟨hx, hb, hml, hown, hts⟩ (c_isWithin l dC dI ia 0 5) (kw_S (n := 3) hts wd_313 wd_314 wd_1 wd_315 rfl rfl (by decide +kernel) ⟨Nat.le_of_ble_eq_true rfl, Nat.le_of_ble_eq_true rfl⟩) (kq_preS hN (hP.sub (ws' := []) [] rfl) (hK.sub (tys' := []) [] rfl)) rfl rfl hl.1 rfl (lv_room (Nat.le_of_ble_eq_true rfl)) d_G_count_3 ⟨Nat.le_of_ble_eq_true rfl, Nat.le_of_ble_eq_true rfl⟩) ?_
  refine lv_if_ne hx hb (tgt := 19) d_G_count_6 rfl (fun h => absurd ha0 h) (fun _ => ?_)
  exact te_throw (X := XI) (names := te_up) hx hb hl0 (hml.trans hl.1.symm) hown te_fitI te_fitU (te_ow hts hN hT te_owI) (hts _ wd_316) (hts _ wd_14) (te_str hT wt_654) hnoh hlocks (Nat.le_refl _) d_G_count_9 d_G_count_12 d_G_count_13 d_G_count_15 d_G_count_18 (Nat.le_of_ble_eq_true rfl) (Nat.le_of_ble_eq_true rfl) (Nat.le_of_ble_eq_true rfl) (Nat.le_of_ble_eq_true rfl)
set_option maxHeartbeats 4000000 in
set_option maxRecDepth 100000 in
theorem t_eventT (l : Launch) (hl0 : l.stackTraces = false) (dC : Nat → ClassId) (dI : Nat → Nat → Nat) (b0 : Nat) (ba : Nat) (bl : Nat) (bq : Nat) (bk : Nat) (bd : Nat) (bo : Nat) (be : Nat) (gz : Nat → Int32) (gl : Nat → Int64) (bn : Nat) (bt : Nat) (ev : Nat → Int32) (ia : Int32) (ib : Int32) (hbad : (r_has ev ia) = 0 ∨ (r_isWithin ib 0 1) = 0) : te_Met l y_G_event (wz y_G_event b_G_event 3 (some .int)) { frames := 6, cells := 1, slots := 6, locals := 82 } (va_Pc [.ref b0, .int ia, .int ib] (fun U => nw U ∧ va_P (dC, dI) vwCl [(b0, .inr (0, [.ref ba, .ref bl, .ref bq, .ref bk, .ref bd, .ref bo, .ref be, .int (gz 0), .int (gz 1), .long (gl 0)])), (be, .inr (7, [.ref bn, .ref bt, .int (ev 0)]))] U.heap ∧ va_K (dC, dI) vwCl [] U ∧ te_Ok U)) XI 1 6 := by
  refine te_ofW (cc := b_G_event) (maxL := 3) (ret := (some .int)) (by decide) rfl ?_
  intro p e s m args below meth c s₁ B hml hv
  obtain ⟨rfl, hN, hP, hK, hT⟩ := hv
  have hx := B.exec
  have hb := B.bytes
  have hr := B.returns
  have hts := fun w h => atoms_spec (ws := (wz y_G_event b_G_event 3 (some .int))) B.pre w (List.mem_cons_of_mem _ h)
  have hown : s.vm.findClass R_G = some m.cls := findClass_of_methodNamed B.named
  have hlocks := B.notSynchronized
  have hnoh : c.exceptionTable.isEmpty = true := B.noHandlers (atoms_spec (ws := (wz y_G_event b_G_event 3 (some .int))) B.pre _ List.mem_cons_self)
  obtain ⟨⟨t1, hZ1, hX1⟩, ⟨t2, hZ2, hX2⟩, t3, hZ3, hX3⟩ := hT.2.2.2.2
  have hl := lv_entry ([.ref b0, .int ia, .int ib]) (n := 3) (Nat.le_of_ble_eq_true rfl)
  rw [lg_entry_eq]
  generalize (lg_sl ([.ref b0, .int ia, .int ib]) ++ List.replicate (3 - (lg_sl ([.ref b0, .int ia, .int ib])).length) Slot.unset).toArray = ls at hl ⊢
  have hl : lv_has ls 3 [(0, .ref b0), (1, .int ia), (2, .int ib)] := hl
  refine lv_aload_n hx hb d_G_event_0 rfl (lv_at hl 0 rfl) ?_
  refine va_get (D := (dC, dI)) (ci := 0) (v := .ref be) (C := R_G) (T := T_G) (N := 10) hx hb hts uin_G hown hK hP 0 rfl rfl 6 (by decide) (hts _ wd_232) (fun _ h9 => h9) rfl d_G_event_1 ?_
  refine lv_iload_n hx hb d_G_event_4 rfl (lv_at hl 1 rfl) ?_
  refine kq_R (r := .int (r_has ev ia)) (va_runV (As := [.int ia]) (rest := []) ⟨hx, hb, hml, hown, hts⟩ (c_has l dC dI be bn bt ev ia) (kw_V (n := 1) hts wd_662 wd_663 wd_664 wd_9 wd_665 rfl rfl (by decide +kernel) ⟨Nat.le_of_ble_eq_true rfl, Nat.le_of_ble_eq_true rfl⟩) (kq_preV hN (hP.sub (ws' := [(be, .inr (7, [.ref bn, .ref bt, .int (ev 0)]))]) [1] rfl) (hK.sub (tys' := []) [] rfl) 0 rfl rfl) rfl rfl hl.1 rfl (lv_room (Nat.le_of_ble_eq_true rfl)) d_G_event_5 ⟨Nat.le_of_ble_eq_true rfl, Nat.le_of_ble_eq_true rfl⟩) ?_
  refine lv_if_eq hx hb (tgt := 20) d_G_event_8 rfl (fun h1 => ?_) (fun h1 => ?_)
  · exact te_throw (X := XI) (names := te_up) hx hb hl0 (hml.trans hl.1.symm) hown te_fitI te_fitU (te_ow hts hN hT te_owI) (hts _ wd_316) (hts _ wd_14) (te_str hT wt_668) hnoh hlocks (Nat.le_refl _) d_G_event_20 d_G_event_23 d_G_event_24 d_G_event_26 d_G_event_29 (Nat.le_of_ble_eq_true rfl) (Nat.le_of_ble_eq_true rfl) (Nat.le_of_ble_eq_true rfl) (Nat.le_of_ble_eq_true rfl)
  · refine lv_iload_n hx hb d_G_event_11 rfl (lv_at hl 2 rfl) ?_
    refine lv_iconst (v := 0) hx hb d_G_event_12 (by decide) ?_
    refine lv_iconst (v := 1) hx hb d_G_event_13 (by decide) ?_
    refine kq_R (r := .int (r_isWithin ib 0 1)) (va_runS (As := [.int ib, .int 0, .int 1]) (rest := []) ⟨hx, hb, hml, hown, hts⟩ (c_isWithin l dC dI ib 0 1) (kw_S (n := 3) hts wd_313 wd_314 wd_1 wd_315 rfl rfl (by decide +kernel) ⟨Nat.le_of_ble_eq_true rfl, Nat.le_of_ble_eq_true rfl⟩) (kq_preS hN (hP.sub (ws' := []) [] rfl) (hK.sub (tys' := []) [] rfl)) rfl rfl hl.1 rfl (lv_room (Nat.le_of_ble_eq_true rfl)) d_G_event_14 ⟨Nat.le_of_ble_eq_true rfl, Nat.le_of_ble_eq_true rfl⟩) ?_
    refine lv_if_ne hx hb (tgt := 30) d_G_event_17 rfl (fun h2 => ?_) (fun h2 => ?_)
    · exact ((fun q => q.elim (fun x => absurd x h1) (fun x => absurd x h2)) hbad : False).elim
    · exact te_throw (X := XI) (names := te_up) hx hb hl0 (hml.trans hl.1.symm) hown te_fitI te_fitU (te_ow hts hN hT te_owI) (hts _ wd_316) (hts _ wd_14) (te_str hT wt_668) hnoh hlocks (Nat.le_refl _) d_G_event_20 d_G_event_23 d_G_event_24 d_G_event_26 d_G_event_29 (Nat.le_of_ble_eq_true rfl) (Nat.le_of_ble_eq_true rfl) (Nat.le_of_ble_eq_true rfl) (Nat.le_of_ble_eq_true rfl)
