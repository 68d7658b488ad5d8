noncomputable def o_become_pt (pt : Nat → Int32) (ia : Int32) (ib : Int32) (ic : Int32) : Nat → Int32 := uv (uv (uv (uv pt 0 ia) 1 ib) 2 ic) 3 0
set_option maxHeartbeats 4000000 in
set_option maxRecDepth 100000 in
theorem c_become (l : Launch) (dC : Nat → ClassId) (dI : Nat → Nat → Nat) (b0 : Nat) (pt : Nat → Int32) (ia : Int32) (ib : Int32) (ic : Int32) (sz : Nat) : Met l y_Pt_become (wz y_Pt_become b_Pt_become 4 none) { frames := 0, cells := 0, slots := 0, locals := 0 } (va_Pc [.ref b0, .int ia, .int ib, .int ic] (fun U => U.heap.size = sz ∧ nw U ∧ va_P (dC, dI) vwCl [(b0, .inr (2, [.int (pt 0), .int (pt 1), .int (pt 2), .int (pt 3)]))] U.heap ∧ va_K (dC, dI) vwCl [] U ∧ va_D (fun _ => True) [(b0, .inr (2, [.int (pt 0), .int (pt 1), .int (pt 2), .int (pt 3)]))])) (va_Qv (fun _ : Unit => True) (fun _ t => va_P (dC, dI) vwCl [(b0, .inr (2, [.int ((o_become_pt pt ia ib ic) 0), .int ((o_become_pt pt ia ib ic) 1), .int ((o_become_pt pt ia ib ic) 2), .int ((o_become_pt pt ia ib ic) 3)]))] t.heap ∧ va_K (dC, dI) vwCl [] t ∧ va_D (va_A [(b0, .inr (2, [.int (pt 0), .int (pt 1), .int (pt 2), .int (pt 3)]))] sz) [(b0, .inr (2, [.int ((o_become_pt pt ia ib ic) 0), .int ((o_become_pt pt ia ib ic) 1), .int ((o_become_pt pt ia ib ic) 2), .int ((o_become_pt pt ia ib ic) 3)]))]) (va_A [(b0, .inr (2, [.int (pt 0), .int (pt 1), .int (pt 2), .int (pt 3)]))] sz)) 0 0 (va_A [(b0, .inr (2, [.int (pt 0), .int (pt 1), .int (pt 2), .int (pt 3)]))] sz) := by
  refine Met.ofW (cc := b_Pt_become) (maxL := 4) (ret := none) (by decide) rfl ?_
  intro p e s m args below meth c s₁ B hml hv
  obtain ⟨rfl, hsz, hN, hP, hK, hD0⟩ := hv
  have hx := B.exec
  have hb := B.bytes
  have hr := B.returns
  have hts := fun w h => atoms_spec (ws := (wz y_Pt_become b_Pt_become 4 none)) B.pre w (List.mem_cons_of_mem _ h)
  have hown : s.vm.findClass R_Pt = some m.cls := findClass_of_methodNamed B.named
  have hlocks := B.notSynchronized
  subst hsz
  have hD := hD0.self (sz := s.heap.size)
  generalize hAe : va_A [(b0, .inr (2, [.int (pt 0), .int (pt 1), .int (pt 2), .int (pt 3)]))] s.heap.size = A at hD ⊢
  have hA : ∀ q : Nat, s.heap.size ≤ q → A q := fun q h => by rw [← hAe]; exact Or.inr h
  have hS : va_S A s.heap s.heap [] := va_S.rf
  have hl := lv_entry ([.ref b0, .int ia, .int ib, .int ic]) (n := 4) (Nat.le_of_ble_eq_true rfl)
  rw [lg_entry_eq]
  generalize (lg_sl ([.ref b0, .int ia, .int ib, .int ic]) ++ List.replicate (4 - (lg_sl ([.ref b0, .int ia, .int ib, .int ic])).length) Slot.unset).toArray = ls at hl ⊢
  have hl : lv_has ls 4 [(0, .ref b0), (1, .int ia), (2, .int ib), (3, .int ic)] := hl
  refine lv_aload_n hx hb d_Pt_become_0 rfl (lv_at hl 0 rfl) ?_
  refine lv_iload_n hx hb d_Pt_become_1 rfl (lv_at hl 1 rfl) ?_
  refine va_put (D := (dC, dI)) (ci := 2) (v := .int ia) (ty := .int) (C := R_Pt) (T := T_Pt) (N := 4) hx hb hts uin_Pt t_Pt t_Pt_ok n_Pt hown hK hP hD hS 0 rfl rfl 0 (by decide) (hts _ wd_108) (fun _ h9 => h9) rfl (by decide +kernel) rfl rfl (Nat.le_of_ble_eq_true rfl) d_Pt_become_2 (fun H locs hP hD hS => ?_)
  have hP : va_P (dC, dI) vwCl [(b0, .inr (2, [.int ia, .int (pt 1), .int (pt 2), .int (pt 3)]))] H := hP
  have hD : va_D A [(b0, .inr (2, [.int ia, .int (pt 1), .int (pt 2), .int (pt 3)]))] := hD
  refine lv_aload_n hx hb d_Pt_become_5 rfl (lv_at hl 0 rfl) ?_
  refine lv_iload_n hx hb d_Pt_become_6 rfl (lv_at hl 2 rfl) ?_
  refine va_put (D := (dC, dI)) (ci := 2) (v := .int ib) (ty := .int) (C := R_Pt) (T := T_Pt) (N := 4) hx hb hts uin_Pt t_Pt t_Pt_ok n_Pt hown hK hP hD hS 0 rfl rfl 1 (by decide) (hts _ wd_109) (fun _ h9 => h9) rfl (by decide +kernel) rfl rfl (Nat.le_of_ble_eq_true rfl) d_Pt_become_7 (fun H locs hP hD hS => ?_)
  have hP : va_P (dC, dI) vwCl [(b0, .inr (2, [.int ia, .int ib, .int (pt 2), .int (pt 3)]))] H := hP
  have hD : va_D A [(b0, .inr (2, [.int ia, .int ib, .int (pt 2), .int (pt 3)]))] := hD
  refine lv_aload_n hx hb d_Pt_become_10 rfl (lv_at hl 0 rfl) ?_
  refine lv_iload_n hx hb d_Pt_become_11 rfl (lv_at hl 3 rfl) ?_
  refine va_put (D := (dC, dI)) (ci := 2) (v := .int ic) (ty := .int) (C := R_Pt) (T := T_Pt) (N := 4) hx hb hts uin_Pt t_Pt t_Pt_ok n_Pt hown hK hP hD hS 0 rfl rfl 2 (by decide) (hts _ wd_110) (fun _ h9 => h9) rfl (by decide +kernel) rfl rfl (Nat.le_of_ble_eq_true rfl) d_Pt_become_12 (fun H locs hP hD hS => ?_)
  have hP : va_P (dC, dI) vwCl [(b0, .inr (2, [.int ia, .int ib, .int ic, .int (pt 3)]))] H := hP
  have hD : va_D A [(b0, .inr (2, [.int ia, .int ib, .int ic, .int (pt 3)]))] := hD
  refine lv_aload_n hx hb d_Pt_become_15 rfl (lv_at hl 0 rfl) ?_
  refine lv_iconst (v := 0) hx hb d_Pt_become_16 (by decide) ?_
  refine va_put (D := (dC, dI)) (ci := 2) (v := .int 0) (ty := .int) (C := R_Pt) (T := T_Pt) (N := 4) hx hb hts uin_Pt t_Pt t_Pt_ok n_Pt hown hK hP hD hS 0 rfl rfl 3 (by decide) (hts _ wd_111) (fun _ h9 => h9) rfl (by decide +kernel) rfl rfl (Nat.le_of_ble_eq_true rfl) d_Pt_become_17 (fun H locs hP hD hS => ?_)
  have hP : va_P (dC, dI) vwCl [(b0, .inr (2, [.int ia, .int ib, .int ic, .int 0]))] H := hP
  have hD : va_D A [(b0, .inr (2, [.int ia, .int ib, .int ic, .int 0]))] := hD
  have hP9 := hP.sub (ws' := [(b0, .inr (2, [.int ia, .int ib, .int ic, .int 0]))]) [0] rfl
  have hD9 := hD.sub (ws' := [(b0, .inr (2, [.int ia, .int ib, .int ic, .int 0]))]) [0] (by decide) rfl
  have E0 : o_become_pt pt ia ib ic = uv (uv (uv (uv pt 0 ia) 1 ib) 2 ic) 3 0 := rfl
  exact W.vret hx hb hr (fun t ht hW => ⟨⟨(), rfl, trivial, by rw [ht, E0]; exact hP9, va_K.moved hW.alike hK, by rw [E0]; exact hD9⟩, hS.F ht⟩) hS.2.2 d_Pt_become_20
noncomputable def r_isBeyond (pt : Nat → Int32) (ia : Int32) (ib : Int32) : Int32 := if (pt 0) = 1 then (if (pt 1) ≤ ia then 0 else 1) else (if (pt 0) = 2 then (if ia ≤ (pt 1) then 0 else 1) else (if (pt 0) = 3 then (if (pt 1) ≤ ib then 0 else 1) else (if (pt 0) = 4 then (if ib ≤ (pt 1) then 0 else 1) else 0)))
theorem z_isBeyond (pt : Nat → Int32) (ia : Int32) (ib : Int32) : narrow .boolean (.int (r_isBeyond pt ia ib)) = .int (r_isBeyond pt ia ib) ∧ fits .boolean (.int (r_isBeyond pt ia ib)) = true := by
  unfold r_isBeyond
  (repeat' split) <;> first | exact ⟨by decide, by decide⟩
set_option maxHeartbeats 4000000 in
set_option maxRecDepth 100000 in
theorem c_isBeyond (l : Launch) (dC : Nat → ClassId) (dI : Nat → Nat → Nat) (b0 : Nat) (pt : Nat → Int32) (ia : Int32) (ib : Int32) : Met l y_Pt_isBeyond (wz y_Pt_isBeyond b_Pt_isBeyond 3 (some .boolean)) { frames := 0, cells := 0, slots := 0, locals := 0 } (va_Pc [.ref b0, .int ia, .int ib] (fun U => nw U ∧ va_P (dC, dI) vwCl [(b0, .inr (2, [.int (pt 0), .int (pt 1), .int (pt 2), .int (pt 3)]))] U.heap ∧ va_K (dC, dI) vwCl [] U)) (k2_QcV (.int (r_isBeyond pt ia ib))) 0 0 (fun _ => False) := by
  refine Met.ofW (cc := b_Pt_isBeyond) (maxL := 3) (ret := (some .boolean)) (by decide) rfl ?_
  intro p e s m args below meth c s₁ B hml hv
  obtain ⟨rfl, hN, hP, hK⟩ := hv
  have hx := B.exec
  have hb := B.bytes
  have hr := B.returns
  have hts := fun w h => atoms_spec (ws := (wz y_Pt_isBeyond b_Pt_isBeyond 3 (some .boolean))) B.pre w (List.mem_cons_of_mem _ h)
  have hown : s.vm.findClass R_Pt = some m.cls := findClass_of_methodNamed B.named
  have hlocks := B.notSynchronized
  have hl := lv_entry ([.ref b0, .int ia, .int ib]) (n := 3) (Nat.le_of_ble_eq_true rfl)
  rw [lg_entry_eq]
  generalize (lg_sl ([.ref b0, .int ia, .int ib]) ++ List.replicate (3 - (lg_sl ([.ref b0, .int ia, .int ib])).length) Slot.unset).toArray = ls at hl ⊢
  have hl : lv_has ls 3 [(0, .ref b0), (1, .int ia), (2, .int ib)] := hl
  refine lv_aload_n hx hb d_Pt_isBeyond_0 rfl (lv_at hl 0 rfl) ?_
  refine va_get (D := (dC, dI)) (ci := 2) (v := .int (pt 0)) (C := R_Pt) (T := T_Pt) (N := 4) hx hb hts uin_Pt hown hK hP 0 rfl rfl 0 (by decide) (hts _ wd_108) (fun _ h9 => h9) rfl d_Pt_isBeyond_1 ?_
  by_cases h1 : (pt 0) = 1
  · refine lv_tableIn (off := 32) (tgt := 36) hx hb d_Pt_isBeyond_4 (by rw [h1]; decide) (by rw [h1]; decide) (by rw [h1]; rfl) rfl ?_
    refine lv_iload_n hx hb d_Pt_isBeyond_36 rfl (lv_at hl 1 rfl) ?_
    refine lv_aload_n hx hb d_Pt_isBeyond_37 rfl (lv_at hl 0 rfl) ?_
    refine va_get (D := (dC, dI)) (ci := 2) (v := .int (pt 1)) (C := R_Pt) (T := T_Pt) (N := 4) hx hb hts uin_Pt hown hK hP 0 rfl rfl 1 (by decide) (hts _ wd_109) (fun _ h9 => h9) rfl d_Pt_isBeyond_38 ?_
    refine lv_icmp_ge hx hb (tgt := 48) d_Pt_isBeyond_41 rfl (fun h2 => ?_) (fun h2 => ?_)
    · refine lv_iconst (v := 0) hx hb d_Pt_isBeyond_48 (by decide) ?_
      exact W.zret (v := 0) hx hb hr (by decide) (fun t ht hW => ⟨by rw [(show r_isBeyond pt ia ib = 0 from by unfold r_isBeyond; rw [if_pos h1, if_pos h2])], ht⟩) (fun q hq => by cases hq) d_Pt_isBeyond_49
    · refine lv_iconst (v := 1) hx hb d_Pt_isBeyond_44 (by decide) ?_
      refine lv_goto (tgt := 49) hx hb d_Pt_isBeyond_45 rfl ?_
      exact W.zret (v := 1) hx hb hr (by decide) (fun t ht hW => ⟨by rw [(show r_isBeyond pt ia ib = 1 from by unfold r_isBeyond; rw [if_pos h1, if_neg h2])], ht⟩) (fun q hq => by cases hq) d_Pt_isBeyond_49
  · by_cases h2 : (pt 0) = 2
    · refine lv_tableIn (off := 46) (tgt := 50) hx hb d_Pt_isBeyond_4 (by rw [h2]; decide) (by rw [h2]; decide) (by rw [h2]; rfl) rfl ?_
      refine lv_iload_n hx hb d_Pt_isBeyond_50 rfl (lv_at hl 1 rfl) ?_
      refine lv_aload_n hx hb d_Pt_isBeyond_51 rfl (lv_at hl 0 rfl) ?_
      refine va_get (D := (dC, dI)) (ci := 2) (v := .int (pt 1)) (C := R_Pt) (T := T_Pt) (N := 4) hx hb hts uin_Pt hown hK hP 0 rfl rfl 1 (by decide) (hts _ wd_109) (fun _ h9 => h9) rfl d_Pt_isBeyond_52 ?_
      refine lv_icmp_le hx hb (tgt := 62) d_Pt_isBeyond_55 rfl (fun h3 => ?_) (fun h3 => ?_)
      · refine lv_iconst (v := 0) hx hb d_Pt_isBeyond_62 (by decide) ?_
        exact W.zret (v := 0) hx hb hr (by decide) (fun t ht hW => ⟨by rw [(show r_isBeyond pt ia ib = 0 from by unfold r_isBeyond; rw [if_neg h1, if_pos h2, if_pos h3])], ht⟩) (fun q hq => by cases hq) d_Pt_isBeyond_63
      · refine lv_iconst (v := 1) hx hb d_Pt_isBeyond_58 (by decide) ?_
        refine lv_goto (tgt := 63) hx hb d_Pt_isBeyond_59 rfl ?_
        exact W.zret (v := 1) hx hb hr (by decide) (fun t ht hW => ⟨by rw [(show r_isBeyond pt ia ib = 1 from by unfold r_isBeyond; rw [if_neg h1, if_pos h2, if_neg h3])], ht⟩) (fun q hq => by cases hq) d_Pt_isBeyond_63
    · by_cases h3 : (pt 0) = 3
      · refine lv_tableIn (off := 60) (tgt := 64) hx hb d_Pt_isBeyond_4 (by rw [h3]; decide) (by rw [h3]; decide) (by rw [h3]; rfl) rfl ?_
        refine lv_iload_n hx hb d_Pt_isBeyond_64 rfl (lv_at hl 2 rfl) ?_
        refine lv_aload_n hx hb d_Pt_isBeyond_65 rfl (lv_at hl 0 rfl) ?_
        refine va_get (D := (dC, dI)) (ci := 2) (v := .int (pt 1)) (C := R_Pt) (T := T_Pt) (N := 4) hx hb hts uin_Pt hown hK hP 0 rfl rfl 1 (by decide) (hts _ wd_109) (fun _ h9 => h9) rfl d_Pt_isBeyond_66 ?_
        refine lv_icmp_ge hx hb (tgt := 76) d_Pt_isBeyond_69 rfl (fun h4 => ?_) (fun h4 => ?_)
        · refine lv_iconst (v := 0) hx hb d_Pt_isBeyond_76 (by decide) ?_
          exact W.zret (v := 0) hx hb hr (by decide) (fun t ht hW => ⟨by rw [(show r_isBeyond pt ia ib = 0 from by unfold r_isBeyond; rw [if_neg h1, if_neg h2, if_pos h3, if_pos h4])], ht⟩) (fun q hq => by cases hq) d_Pt_isBeyond_77
        · refine lv_iconst (v := 1) hx hb d_Pt_isBeyond_72 (by decide) ?_
          refine lv_goto (tgt := 77) hx hb d_Pt_isBeyond_73 rfl ?_
          exact W.zret (v := 1) hx hb hr (by decide) (fun t ht hW => ⟨by rw [(show r_isBeyond pt ia ib = 1 from by unfold r_isBeyond; rw [if_neg h1, if_neg h2, if_pos h3, if_neg h4])], ht⟩) (fun q hq => by cases hq) d_Pt_isBeyond_77
      · by_cases h4 : (pt 0) = 4
        · refine lv_tableIn (off := 74) (tgt := 78) hx hb d_Pt_isBeyond_4 (by rw [h4]; decide) (by rw [h4]; decide) (by rw [h4]; rfl) rfl ?_
          refine lv_iload_n hx hb d_Pt_isBeyond_78 rfl (lv_at hl 2 rfl) ?_
          refine lv_aload_n hx hb d_Pt_isBeyond_79 rfl (lv_at hl 0 rfl) ?_
          refine va_get (D := (dC, dI)) (ci := 2) (v := .int (pt 1)) (C := R_Pt) (T := T_Pt) (N := 4) hx hb hts uin_Pt hown hK hP 0 rfl rfl 1 (by decide) (hts _ wd_109) (fun _ h9 => h9) rfl d_Pt_isBeyond_80 ?_
          refine lv_icmp_le hx hb (tgt := 90) d_Pt_isBeyond_83 rfl (fun h5 => ?_) (fun h5 => ?_)
          · refine lv_iconst (v := 0) hx hb d_Pt_isBeyond_90 (by decide) ?_
            exact W.zret (v := 0) hx hb hr (by decide) (fun t ht hW => ⟨by rw [(show r_isBeyond pt ia ib = 0 from by unfold r_isBeyond; rw [if_neg h1, if_neg h2, if_neg h3, if_pos h4, if_pos h5])], ht⟩) (fun q hq => by cases hq) d_Pt_isBeyond_91
          · refine lv_iconst (v := 1) hx hb d_Pt_isBeyond_86 (by decide) ?_
            refine lv_goto (tgt := 91) hx hb d_Pt_isBeyond_87 rfl ?_
            exact W.zret (v := 1) hx hb hr (by decide) (fun t ht hW => ⟨by rw [(show r_isBeyond pt ia ib = 1 from by unfold r_isBeyond; rw [if_neg h1, if_neg h2, if_neg h3, if_pos h4, if_neg h5])], ht⟩) (fun q hq => by cases hq) d_Pt_isBeyond_91
        · refine lv_tableOut (tgt := 92) hx hb d_Pt_isBeyond_4 (by have g0 := kq_neI (z := 1) h1 (by decide); have g1 := kq_neI (z := 2) h2 (by decide); have g2 := kq_neI (z := 3) h3 (by decide); have g3 := kq_neI (z := 4) h4 (by decide); omega) rfl ?_
          refine lv_iconst (v := 0) hx hb d_Pt_isBeyond_92 (by decide) ?_
          exact W.zret (v := 0) hx hb hr (by decide) (fun t ht hW => ⟨by rw [(show r_isBeyond pt ia ib = 0 from by unfold r_isBeyond; rw [if_neg h1, if_neg h2, if_neg h3, if_neg h4])], ht⟩) (fun q hq => by cases hq) d_Pt_isBeyond_93
noncomputable def o_pwatch_pt (pt : Nat → Int32) (ia : Int32) (ib : Int32) : Nat → Int32 := if (r_isBeyond pt ia ib) = 0 then uv pt 3 0 else uv pt 3 (r_min ((pt 3) + 1) (pt 2))
set_option maxHeartbeats 4000000 in
set_option maxRecDepth 100000 in
theorem c_pwatch (l : Launch) (dC : Nat → ClassId) (dI : Nat → Nat → Nat) (b0 : Nat) (pt : Nat → Int32) (ia : Int32) (ib : Int32) (sz : Nat) : Met l y_Pt_watch (wz y_Pt_watch b_Pt_watch 3 none) { frames := 1, cells := 0, slots := 0, locals := 22 } (va_Pc [.ref b0, .int ia, .int ib] (fun U => U.heap.size = sz ∧ nw U ∧ va_P (dC, dI) vwCl [(b0, .inr (2, [.int (pt 0), .int (pt 1), .int (pt 2), .int (pt 3)]))] U.heap ∧ va_K (dC, dI) vwCl [] U ∧ va_D (fun _ => True) [(b0, .inr (2, [.int (pt 0), .int (pt 1), .int (pt 2), .int (pt 3)]))])) (va_Qv (fun _ : Unit => True) (fun _ t => va_P (dC, dI) vwCl [(b0, .inr (2, [.int ((o_pwatch_pt pt ia ib) 0), .int ((o_pwatch_pt pt ia ib) 1), .int ((o_pwatch_pt pt ia ib) 2), .int ((o_pwatch_pt pt ia ib) 3)]))] t.heap ∧ va_K (dC, dI) vwCl [] t ∧ va_D (va_A [(b0, .inr (2, [.int (pt 0), .int (pt 1), .int (pt 2), .int (pt 3)]))] sz) [(b0, .inr (2, [.int ((o_pwatch_pt pt ia ib) 0), .int ((o_pwatch_pt pt ia ib) 1), .int ((o_pwatch_pt pt ia ib) 2), .int ((o_pwatch_pt pt ia ib) 3)]))]) (va_A [(b0, .inr (2, [.int (pt 0), .int (pt 1), .int (pt 2), .int (pt 3)]))] sz)) 0 0 (va_A [(b0, .inr (2, [.int (pt 0), .int (pt 1), .int (pt 2), .int (pt 3)]))] sz) := by
  refine Met.ofW (cc := b_Pt_watch) (maxL := 3) (ret := none) (by decide) rfl ?_
  intro p e s m args below meth c s₁ B hml hv
  obtain ⟨rfl, hsz, hN, hP, hK, hD0⟩ := hv
  have hx := B.exec
  have hb := B.bytes
  have hr := B.returns
  have hts := fun w h => atoms_spec (ws := (wz y_Pt_watch b_Pt_watch 3 none)) B.pre w (List.mem_cons_of_mem _ h)
  have hown : s.vm.findClass R_Pt = some m.cls := findClass_of_methodNamed B.named
  have hlocks := B.notSynchronized
  subst hsz
  have hD := hD0.self (sz := s.heap.size)
  generalize hAe : va_A [(b0, .inr (2, [.int (pt 0), .int (pt 1), .int (pt 2), .int (pt 3)]))] s.heap.size = A at hD ⊢
  have hA : ∀ q : Nat, s.heap.size ≤ q → A q := fun q h => by rw [← hAe]; exact Or.inr h
  have hS : va_S A s.heap s.heap [] := va_S.rf
  have hl := lv_entry ([.ref b0, .int ia, .int ib]) (n := 3) (Nat.le_of_ble_eq_true rfl)
  rw [lg_entry_eq]
  generalize (lg_sl ([.ref b0, .int ia, .int ib]) ++ List.replicate (3 - (lg_sl ([.ref b0, .int ia, .int ib])).length) Slot.unset).toArray = ls at hl ⊢
  have hl : lv_has ls 3 [(0, .ref b0), (1, .int ia), (2, .int ib)] := hl
  refine lv_aload_n hx hb d_Pt_watch_0 rfl (lv_at hl 0 rfl) ?_
  refine lv_aload_n hx hb d_Pt_watch_1 rfl (lv_at hl 0 rfl) ?_
  refine lv_iload_n hx hb d_Pt_watch_2 rfl (lv_at hl 1 rfl) ?_
  refine lv_iload_n hx hb d_Pt_watch_3 rfl (lv_at hl 2 rfl) ?_
  refine kq_R (r := .int (r_isBeyond pt ia ib)) (va_runV (As := [.int ia, .int ib]) (rest := [.ref b0]) ⟨hx, hb, hml, hown, hts⟩ (c_isBeyond l dC dI b0 pt ia ib) (kw_V (n := 2) hts wd_527 wd_529 wp_8 wd_5 wd_530 rfl rfl (by decide +kernel) ⟨Nat.le_of_ble_eq_true rfl, Nat.le_of_ble_eq_true rfl⟩) (kq_preV hN (hP.sub (ws' := [(b0, .inr (2, [.int (pt 0), .int (pt 1), .int (pt 2), .int (pt 3)]))]) [0] rfl) (hK.sub (tys' := []) [] rfl) 0 rfl rfl) rfl rfl hl.1 rfl (lv_room (Nat.le_of_ble_eq_true rfl)) d_Pt_watch_4 ⟨Nat.le_of_ble_eq_true rfl, Nat.le_of_ble_eq_true rfl⟩) ?_
  refine lv_if_eq hx hb (tgt := 26) d_Pt_watch_7 rfl (fun h1 => ?_) (fun h1 => ?_)
  · refine lv_iconst (v := 0) hx hb d_Pt_watch_26 (by decide) ?_
    refine va_put (D := (dC, dI)) (ci := 2) (v := .int 0) (ty := .int) (C := R_Pt) (T := T_Pt) (N := 4) hx hb hts uin_Pt t_Pt t_Pt_ok n_Pt hown hK hP hD hS 0 rfl rfl 3 (by decide) (hts _ wd_111) (fun _ h9 => h9) rfl (by decide +kernel) rfl rfl (Nat.le_of_ble_eq_true rfl) d_Pt_watch_27 (fun H locs hP hD hS => ?_)
    have hP : va_P (dC, dI) vwCl [(b0, .inr (2, [.int (pt 0), .int (pt 1), .int (pt 2), .int 0]))] H := hP
    have hD : va_D A [(b0, .inr (2, [.int (pt 0), .int (pt 1), .int (pt 2), .int 0]))] := hD
    have hP9 := hP.sub (ws' := [(b0, .inr (2, [.int (pt 0), .int (pt 1), .int (pt 2), .int 0]))]) [0] rfl
    have hD9 := hD.sub (ws' := [(b0, .inr (2, [.int (pt 0), .int (pt 1), .int (pt 2), .int 0]))]) [0] (by decide) rfl
    have E0 : o_pwatch_pt pt ia ib = uv pt 3 0 := by unfold o_pwatch_pt; rw [if_pos h1]
    exact W.vret hx hb hr (fun t ht hW => ⟨⟨(), rfl, trivial, by rw [ht, E0]; exact hP9, va_K.moved hW.alike hK, by rw [E0]; exact hD9⟩, hS.F ht⟩) hS.2.2 d_Pt_watch_30
  · refine lv_aload_n hx hb d_Pt_watch_10 rfl (lv_at hl 0 rfl) ?_
    refine va_get (D := (dC, dI)) (ci := 2) (v := .int (pt 3)) (C := R_Pt) (T := T_Pt) (N := 4) hx hb hts uin_Pt hown hK hP 0 rfl rfl 3 (by decide) (hts _ wd_111) (fun _ h9 => h9) rfl d_Pt_watch_11 ?_
    refine lv_iconst (v := 1) hx hb d_Pt_watch_14 (by decide) ?_
    refine lv_iadd hx hb d_Pt_watch_15 ?_
    refine lv_aload_n hx hb d_Pt_watch_16 rfl (lv_at hl 0 rfl) ?_
    refine va_get (D := (dC, dI)) (ci := 2) (v := .int (pt 2)) (C := R_Pt) (T := T_Pt) (N := 4) hx hb hts uin_Pt hown hK hP 0 rfl rfl 2 (by decide) (hts _ wd_110) (fun _ h9 => h9) rfl d_Pt_watch_17 ?_
    refine kq_R (r := .int (r_min ((pt 3) + 1) (pt 2))) (va_runS (As := [.int ((pt 3) + 1), .int (pt 2)]) (rest := [.ref b0]) ⟨hx, hb, hml, hown, hts⟩ (c_min l dC dI ((pt 3) + 1) (pt 2)) (kw_S (n := 2) hts wd_531 wd_505 wd_17 wd_506 rfl rfl (by decide +kernel) ⟨Nat.le_of_ble_eq_true rfl, Nat.le_of_ble_eq_true rfl⟩) (kq_preS hN (hP.sub (ws' := []) [] rfl) (hK.sub (tys' := []) [] rfl)) rfl rfl hl.1 rfl (lv_room (Nat.le_of_ble_eq_true rfl)) d_Pt_watch_20 ⟨Nat.le_of_ble_eq_true rfl, Nat.le_of_ble_eq_true rfl⟩) ?_
    refine lv_goto (tgt := 27) hx hb d_Pt_watch_23 rfl ?_
    refine va_put (D := (dC, dI)) (ci := 2) (v := .int (r_min ((pt 3) + 1) (pt 2))) (ty := .int) (C := R_Pt) (T := T_Pt) (N := 4) hx hb hts uin_Pt t_Pt t_Pt_ok n_Pt hown hK hP hD hS 0 rfl rfl 3 (by decide) (hts _ wd_111) (fun _ h9 => h9) rfl (by decide +kernel) rfl rfl (Nat.le_of_ble_eq_true rfl) d_Pt_watch_27 (fun H locs hP hD hS => ?_)
    have hP : va_P (dC, dI) vwCl [(b0, .inr (2, [.int (pt 0), .int (pt 1), .int (pt 2), .int (r_min ((pt 3) + 1) (pt 2))]))] H := hP
    have hD : va_D A [(b0, .inr (2, [.int (pt 0), .int (pt 1), .int (pt 2), .int (r_min ((pt 3) + 1) (pt 2))]))] := hD
    have hP9 := hP.sub (ws' := [(b0, .inr (2, [.int (pt 0), .int (pt 1), .int (pt 2), .int (r_min ((pt 3) + 1) (pt 2))]))]) [0] rfl
    have hD9 := hD.sub (ws' := [(b0, .inr (2, [.int (pt 0), .int (pt 1), .int (pt 2), .int (r_min ((pt 3) + 1) (pt 2))]))]) [0] (by decide) rfl
    have E0 : o_pwatch_pt pt ia ib = uv pt 3 (r_min ((pt 3) + 1) (pt 2)) := by unfold o_pwatch_pt; rw [if_neg h1]
    exact W.vret hx hb hr (fun t ht hW => ⟨⟨(), rfl, trivial, by rw [ht, E0]; exact hP9, va_K.moved hW.alike hK, by rw [E0]; exact hD9⟩, hS.F ht⟩) hS.2.2 d_Pt_watch_30
noncomputable def r_isTripping (pt : Nat → Int32) : Int32 := if (pt 0) = 0 then 0 else (if (pt 3) = (pt 2) then 1 else 0)
theorem z_isTripping (pt : Nat → Int32) : narrow .boolean (.int (r_isTripping pt)) = .int (r_isTripping pt) ∧ fits .boolean (.int (r_isTripping pt)) = true := by
  unfold r_isTripping
  (repeat' split) <;> first | exact ⟨by decide, by decide⟩
set_option maxHeartbeats 4000000 in
set_option maxRecDepth 100000 in
theorem c_isTripping (l : Launch) (dC : Nat → ClassId) (dI : Nat → Nat → Nat) (b0 : Nat) (pt : Nat → Int32) : Met l y_Pt_isTripping (wz y_Pt_isTripping b_Pt_isTripping 1 (some .boolean)) { frames := 0, cells := 0, slots := 0, locals := 0 } (va_Pc [.ref b0] (fun U => nw U ∧ va_P (dC, dI) vwCl [(b0, .inr (2, [.int (pt 0), .int (pt 1), .int (pt 2), .int (pt 3)]))] U.heap ∧ va_K (dC, dI) vwCl [] U)) (k2_QcV (.int (r_isTripping pt))) 0 0 (fun _ => False) := by
  refine Met.ofW (cc := b_Pt_isTripping) (maxL := 1) (ret := (some .boolean)) (by decide) rfl ?_
  intro p e s m args below meth c s₁ B hml hv
  obtain ⟨rfl, hN, hP, hK⟩ := hv
  have hx := B.exec
  have hb := B.bytes
  have hr := B.returns
  have hts := fun w h => atoms_spec (ws := (wz y_Pt_isTripping b_Pt_isTripping 1 (some .boolean))) B.pre w (List.mem_cons_of_mem _ h)
  have hown : s.vm.findClass R_Pt = some m.cls := findClass_of_methodNamed B.named
  have hlocks := B.notSynchronized
  have hl := lv_entry ([.ref b0]) (n := 1) (Nat.le_of_ble_eq_true rfl)
  rw [lg_entry_eq]
  generalize (lg_sl ([.ref b0]) ++ List.replicate (1 - (lg_sl ([.ref b0])).length) Slot.unset).toArray = ls at hl ⊢
  have hl : lv_has ls 1 [(0, .ref b0)] := hl
  refine lv_aload_n hx hb d_Pt_isTripping_0 rfl (lv_at hl 0 rfl) ?_
  refine va_get (D := (dC, dI)) (ci := 2) (v := .int (pt 0)) (C := R_Pt) (T := T_Pt) (N := 4) hx hb hts uin_Pt hown hK hP 0 rfl rfl 0 (by decide) (hts _ wd_108) (fun _ h9 => h9) rfl d_Pt_isTripping_1 ?_
  refine lv_if_eq hx hb (tgt := 22) d_Pt_isTripping_4 rfl (fun h1 => ?_) (fun h1 => ?_)
  · refine lv_iconst (v := 0) hx hb d_Pt_isTripping_22 (by decide) ?_
    exact W.zret (v := 0) hx hb hr (by decide) (fun t ht hW => ⟨by rw [(show r_isTripping pt = 0 from by unfold r_isTripping; rw [if_pos h1])], ht⟩) (fun q hq => by cases hq) d_Pt_isTripping_23
  · refine lv_aload_n hx hb d_Pt_isTripping_7 rfl (lv_at hl 0 rfl) ?_
    refine va_get (D := (dC, dI)) (ci := 2) (v := .int (pt 3)) (C := R_Pt) (T := T_Pt) (N := 4) hx hb hts uin_Pt hown hK hP 0 rfl rfl 3 (by decide) (hts _ wd_111) (fun _ h9 => h9) rfl d_Pt_isTripping_8 ?_
    refine lv_aload_n hx hb d_Pt_isTripping_11 rfl (lv_at hl 0 rfl) ?_
    refine va_get (D := (dC, dI)) (ci := 2) (v := .int (pt 2)) (C := R_Pt) (T := T_Pt) (N := 4) hx hb hts uin_Pt hown hK hP 0 rfl rfl 2 (by decide) (hts _ wd_110) (fun _ h9 => h9) rfl d_Pt_isTripping_12 ?_
    refine lv_icmp_ne hx hb (tgt := 22) d_Pt_isTripping_15 rfl (fun h2 => ?_) (fun h2 => ?_)
    · refine lv_iconst (v := 0) hx hb d_Pt_isTripping_22 (by decide) ?_
      exact W.zret (v := 0) hx hb hr (by decide) (fun t ht hW => ⟨by rw [(show r_isTripping pt = 0 from by unfold r_isTripping; rw [if_neg h1, if_neg h2])], ht⟩) (fun q hq => by cases hq) d_Pt_isTripping_23
    · refine lv_iconst (v := 1) hx hb d_Pt_isTripping_18 (by decide) ?_
      refine lv_goto (tgt := 23) hx hb d_Pt_isTripping_19 rfl ?_
      exact W.zret (v := 1) hx hb hr (by decide) (fun t ht hW => ⟨by rw [(show r_isTripping pt = 1 from by unfold r_isTripping; rw [if_neg h1, if_pos h2])], ht⟩) (fun q hq => by cases hq) d_Pt_isTripping_23
noncomputable def r_isCutting (pt : Nat → Int32) (qt : Nat → Int32) : Int32 := if (pt 0) = 0 then 0 else (if (pt 0) = (qt 0) then (if (pt 2) ≤ (qt 2) then (if (pt 0) = 1 then (if (pt 1) ≤ (qt 1) then 0 else 1) else (if (pt 0) = 3 then (if (pt 1) ≤ (qt 1) then 0 else 1) else (if (qt 1) ≤ (pt 1) then 0 else 1))) else 0) else 0)
theorem z_isCutting (pt : Nat → Int32) (qt : Nat → Int32) : narrow .boolean (.int (r_isCutting pt qt)) = .int (r_isCutting pt qt) ∧ fits .boolean (.int (r_isCutting pt qt)) = true := by
  unfold r_isCutting
  (repeat' split) <;> first | exact ⟨by decide, by decide⟩
set_option maxHeartbeats 4000000 in
set_option maxRecDepth 100000 in
theorem c_isCutting (l : Launch) (dC : Nat → ClassId) (dI : Nat → Nat → Nat) (b0 : Nat) (b1 : Nat) (pt : Nat → Int32) (qt : Nat → Int32) : Met l y_Pt_isCutting (wz y_Pt_isCutting b_Pt_isCutting 3 (some .boolean)) { frames := 0, cells := 0, slots := 0, locals := 0 } (va_Pc [.ref b0, .ref b1] (fun U => nw U ∧ va_P (dC, dI) vwCl [(b0, .inr (2, [.int (pt 0), .int (pt 1), .int (pt 2), .int (pt 3)])), (b1, .inr (2, [.int (qt 0), .int (qt 1), .int (qt 2), .int (qt 3)]))] U.heap ∧ va_K (dC, dI) vwCl [] U)) (k2_QcV (.int (r_isCutting pt qt))) 0 0 (fun _ => False) := by
  refine Met.ofW (cc := b_Pt_isCutting) (maxL := 3) (ret := (some .boolean)) (by decide) rfl ?_
  intro p e s m args below meth c s₁ B hml hv
  obtain ⟨rfl, hN, hP, hK⟩ := hv
  have hx := B.exec
  have hb := B.bytes
  have hr := B.returns
  have hts := fun w h => atoms_spec (ws := (wz y_Pt_isCutting b_Pt_isCutting 3 (some .boolean))) B.pre w (List.mem_cons_of_mem _ h)
  have hown : s.vm.findClass R_Pt = some m.cls := findClass_of_methodNamed B.named
  have hlocks := B.notSynchronized
  have hl := lv_entry ([.ref b0, .ref b1]) (n := 3) (Nat.le_of_ble_eq_true rfl)
  rw [lg_entry_eq]
  generalize (lg_sl ([.ref b0, .ref b1]) ++ List.replicate (3 - (lg_sl ([.ref b0, .ref b1])).length) Slot.unset).toArray = ls at hl ⊢
  have hl : lv_has ls 3 [(0, .ref b0), (1, .ref b1)] := hl
  refine lv_aload_n hx hb d_Pt_isCutting_0 rfl (lv_at hl 0 rfl) ?_
  refine va_get (D := (dC, dI)) (ci := 2) (v := .int (pt 0)) (C := R_Pt) (T := T_Pt) (N := 4) hx hb hts uin_Pt hown hK hP 0 rfl rfl 0 (by decide) (hts _ wd_108) (fun _ h9 => h9) rfl d_Pt_isCutting_1 ?_
  refine lv_if_eq hx hb (tgt := 29) d_Pt_isCutting_4 rfl (fun h1 => ?_) (fun h1 => ?_)
  · refine lv_iconst (v := 0) hx hb d_Pt_isCutting_29 (by decide) ?_
    exact W.zret (v := 0) hx hb hr (by decide) (fun t ht hW => ⟨by rw [(show r_isCutting pt qt = 0 from by unfold r_isCutting; rw [if_pos h1])], ht⟩) (fun q hq => by cases hq) d_Pt_isCutting_30
  · refine lv_aload_n hx hb d_Pt_isCutting_7 rfl (lv_at hl 0 rfl) ?_
    refine va_get (D := (dC, dI)) (ci := 2) (v := .int (pt 0)) (C := R_Pt) (T := T_Pt) (N := 4) hx hb hts uin_Pt hown hK hP 0 rfl rfl 0 (by decide) (hts _ wd_108) (fun _ h9 => h9) rfl d_Pt_isCutting_8 ?_
    refine lv_aload_n hx hb d_Pt_isCutting_11 rfl (lv_at hl 1 rfl) ?_
    refine va_get (D := (dC, dI)) (ci := 2) (v := .int (qt 0)) (C := R_Pt) (T := T_Pt) (N := 4) hx hb hts uin_Pt hown hK hP 1 rfl rfl 0 (by decide) (hts _ wd_108) (fun _ h9 => h9) rfl d_Pt_isCutting_12 ?_
    refine lv_icmp_ne hx hb (tgt := 29) d_Pt_isCutting_15 rfl (fun h2 => ?_) (fun h2 => ?_)
    · refine lv_iconst (v := 0) hx hb d_Pt_isCutting_29 (by decide) ?_
      exact W.zret (v := 0) hx hb hr (by decide) (fun t ht hW => ⟨by rw [(show r_isCutting pt qt = 0 from by unfold r_isCutting; rw [if_neg h1, if_neg h2])], ht⟩) (fun q hq => by cases hq) d_Pt_isCutting_30
    · refine lv_aload_n hx hb d_Pt_isCutting_18 rfl (lv_at hl 0 rfl) ?_
      refine va_get (D := (dC, dI)) (ci := 2) (v := .int (pt 2)) (C := R_Pt) (T := T_Pt) (N := 4) hx hb hts uin_Pt hown hK hP 0 rfl rfl 2 (by decide) (hts _ wd_110) (fun _ h9 => h9) rfl d_Pt_isCutting_19 ?_
      refine lv_aload_n hx hb d_Pt_isCutting_22 rfl (lv_at hl 1 rfl) ?_
      refine va_get (D := (dC, dI)) (ci := 2) (v := .int (qt 2)) (C := R_Pt) (T := T_Pt) (N := 4) hx hb hts uin_Pt hown hK hP 1 rfl rfl 2 (by decide) (hts _ wd_110) (fun _ h9 => h9) rfl d_Pt_isCutting_23 ?_
      refine lv_icmp_le hx hb (tgt := 31) d_Pt_isCutting_26 rfl (fun h3 => ?_) (fun h3 => ?_)
      · refine lv_aload_n hx hb d_Pt_isCutting_31 rfl (lv_at hl 0 rfl) ?_
        refine va_get (D := (dC, dI)) (ci := 2) (v := .int (pt 0)) (C := R_Pt) (T := T_Pt) (N := 4) hx hb hts uin_Pt hown hK hP 0 rfl rfl 0 (by decide) (hts _ wd_108) (fun _ h9 => h9) rfl d_Pt_isCutting_32 ?_
        refine lv_iconst (v := 1) hx hb d_Pt_isCutting_35 (by decide) ?_
        refine lv_icmp_eq hx hb (tgt := 47) d_Pt_isCutting_36 rfl (fun h4 => ?_) (fun h4 => ?_)
        · refine lv_iconst (v := 1) hx hb d_Pt_isCutting_47 (by decide) ?_
          refine lv_goto (tgt := 52) hx hb d_Pt_isCutting_48 rfl ?_
          refine lv_istore_n (lv' := [(2, .int 1), (0, .ref b0), (1, .ref b1)]) hx hb d_Pt_isCutting_52 rfl hl (by decide) rfl (fun ls hl => ?_)
          refine lv_iload_n hx hb d_Pt_isCutting_53 rfl (lv_at hl 0 rfl) ?_
          refine lv_if_eq (tgt := 76) hx hb d_Pt_isCutting_54 rfl (fun h => absurd h (by decide)) (fun _ => ?_)
          refine lv_aload_n hx hb d_Pt_isCutting_57 rfl (lv_at hl 1 rfl) ?_
          refine va_get (D := (dC, dI)) (ci := 2) (v := .int (pt 1)) (C := R_Pt) (T := T_Pt) (N := 4) hx hb hts uin_Pt hown hK hP 0 rfl rfl 1 (by decide) (hts _ wd_109) (fun _ h9 => h9) rfl d_Pt_isCutting_58 ?_
          refine lv_aload_n hx hb d_Pt_isCutting_61 rfl (lv_at hl 2 rfl) ?_
          refine va_get (D := (dC, dI)) (ci := 2) (v := .int (qt 1)) (C := R_Pt) (T := T_Pt) (N := 4) hx hb hts uin_Pt hown hK hP 1 rfl rfl 1 (by decide) (hts _ wd_109) (fun _ h9 => h9) rfl d_Pt_isCutting_62 ?_
          refine lv_icmp_le hx hb (tgt := 72) d_Pt_isCutting_65 rfl (fun h5 => ?_) (fun h5 => ?_)
          · refine lv_iconst (v := 0) hx hb d_Pt_isCutting_72 (by decide) ?_
            refine lv_goto (tgt := 92) hx hb d_Pt_isCutting_73 rfl ?_
            exact W.zret (v := 0) hx hb hr (by decide) (fun t ht hW => ⟨by rw [(show r_isCutting pt qt = 0 from by unfold r_isCutting; rw [if_neg h1, if_pos h2, if_pos h3, if_pos h4, if_pos h5])], ht⟩) (fun q hq => by cases hq) d_Pt_isCutting_92
          · refine lv_iconst (v := 1) hx hb d_Pt_isCutting_68 (by decide) ?_
            refine lv_goto (tgt := 92) hx hb d_Pt_isCutting_69 rfl ?_
            exact W.zret (v := 1) hx hb hr (by decide) (fun t ht hW => ⟨by rw [(show r_isCutting pt qt = 1 from by unfold r_isCutting; rw [if_neg h1, if_pos h2, if_pos h3, if_pos h4, if_neg h5])], ht⟩) (fun q hq => by cases hq) d_Pt_isCutting_92
        · refine lv_aload_n hx hb d_Pt_isCutting_39 rfl (lv_at hl 0 rfl) ?_
          refine va_get (D := (dC, dI)) (ci := 2) (v := .int (pt 0)) (C := R_Pt) (T := T_Pt) (N := 4) hx hb hts uin_Pt hown hK hP 0 rfl rfl 0 (by decide) (hts _ wd_108) (fun _ h9 => h9) rfl d_Pt_isCutting_40 ?_
          refine lv_iconst (v := 3) hx hb d_Pt_isCutting_43 (by decide) ?_
          refine lv_icmp_ne hx hb (tgt := 51) d_Pt_isCutting_44 rfl (fun h5 => ?_) (fun h5 => ?_)
          · refine lv_iconst (v := 0) hx hb d_Pt_isCutting_51 (by decide) ?_
            refine lv_istore_n (lv' := [(2, .int 0), (0, .ref b0), (1, .ref b1)]) hx hb d_Pt_isCutting_52 rfl hl (by decide) rfl (fun ls hl => ?_)
            refine lv_iload_n hx hb d_Pt_isCutting_53 rfl (lv_at hl 0 rfl) ?_
            refine lv_if_eq (tgt := 76) hx hb d_Pt_isCutting_54 rfl (fun _ => ?_) (fun h => absurd h (by decide))
            refine lv_aload_n hx hb d_Pt_isCutting_76 rfl (lv_at hl 1 rfl) ?_
            refine va_get (D := (dC, dI)) (ci := 2) (v := .int (pt 1)) (C := R_Pt) (T := T_Pt) (N := 4) hx hb hts uin_Pt hown hK hP 0 rfl rfl 1 (by decide) (hts _ wd_109) (fun _ h9 => h9) rfl d_Pt_isCutting_77 ?_
            refine lv_aload_n hx hb d_Pt_isCutting_80 rfl (lv_at hl 2 rfl) ?_
            refine va_get (D := (dC, dI)) (ci := 2) (v := .int (qt 1)) (C := R_Pt) (T := T_Pt) (N := 4) hx hb hts uin_Pt hown hK hP 1 rfl rfl 1 (by decide) (hts _ wd_109) (fun _ h9 => h9) rfl d_Pt_isCutting_81 ?_
            refine lv_icmp_ge hx hb (tgt := 91) d_Pt_isCutting_84 rfl (fun h6 => ?_) (fun h6 => ?_)
            · refine lv_iconst (v := 0) hx hb d_Pt_isCutting_91 (by decide) ?_
              exact W.zret (v := 0) hx hb hr (by decide) (fun t ht hW => ⟨by rw [(show r_isCutting pt qt = 0 from by unfold r_isCutting; rw [if_neg h1, if_pos h2, if_pos h3, if_neg h4, if_neg h5, if_pos h6])], ht⟩) (fun q hq => by cases hq) d_Pt_isCutting_92
            · refine lv_iconst (v := 1) hx hb d_Pt_isCutting_87 (by decide) ?_
              refine lv_goto (tgt := 92) hx hb d_Pt_isCutting_88 rfl ?_
              exact W.zret (v := 1) hx hb hr (by decide) (fun t ht hW => ⟨by rw [(show r_isCutting pt qt = 1 from by unfold r_isCutting; rw [if_neg h1, if_pos h2, if_pos h3, if_neg h4, if_neg h5, if_neg h6])], ht⟩) (fun q hq => by cases hq) d_Pt_isCutting_92
          · refine lv_iconst (v := 1) hx hb d_Pt_isCutting_47 (by decide) ?_
            refine lv_goto (tgt := 52) hx hb d_Pt_isCutting_48 rfl ?_
            refine lv_istore_n (lv' := [(2, .int 1), (0, .ref b0), (1, .ref b1)]) hx hb d_Pt_isCutting_52 rfl hl (by decide) rfl (fun ls hl => ?_)
            refine lv_iload_n hx hb d_Pt_isCutting_53 rfl (lv_at hl 0 rfl) ?_
            refine lv_if_eq (tgt := 76) hx hb d_Pt_isCutting_54 rfl (fun h => absurd h (by decide)) (fun _ => ?_)
            refine lv_aload_n hx hb d_Pt_isCutting_57 rfl (lv_at hl 1 rfl) ?_
            refine va_get (D := (dC, dI)) (ci := 2) (v := .int (pt 1)) (C := R_Pt) (T := T_Pt) (N := 4) hx hb hts uin_Pt hown hK hP 0 rfl rfl 1 (by decide) (hts _ wd_109) (fun _ h9 => h9) rfl d_Pt_isCutting_58 ?_
            refine lv_aload_n hx hb d_Pt_isCutting_61 rfl (lv_at hl 2 rfl) ?_
            refine va_get (D := (dC, dI)) (ci := 2) (v := .int (qt 1)) (C := R_Pt) (T := T_Pt) (N := 4) hx hb hts uin_Pt hown hK hP 1 rfl rfl 1 (by decide) (hts _ wd_109) (fun _ h9 => h9) rfl d_Pt_isCutting_62 ?_
            refine lv_icmp_le hx hb (tgt := 72) d_Pt_isCutting_65 rfl (fun h6 => ?_) (fun h6 => ?_)
            · refine lv_iconst (v := 0) hx hb d_Pt_isCutting_72 (by decide) ?_
              refine lv_goto (tgt := 92) hx hb d_Pt_isCutting_73 rfl ?_
              exact W.zret (v := 0) hx hb hr (by decide) (fun t ht hW => ⟨by rw [(show r_isCutting pt qt = 0 from by unfold r_isCutting; rw [if_neg h1, if_pos h2, if_pos h3, if_neg h4, if_pos h5, if_pos h6])], ht⟩) (fun q hq => by cases hq) d_Pt_isCutting_92
            · refine lv_iconst (v := 1) hx hb d_Pt_isCutting_68 (by decide) ?_
              refine lv_goto (tgt := 92) hx hb d_Pt_isCutting_69 rfl ?_
              exact W.zret (v := 1) hx hb hr (by decide) (fun t ht hW => ⟨by rw [(show r_isCutting pt qt = 1 from by unfold r_isCutting; rw [if_neg h1, if_pos h2, if_pos h3, if_neg h4, if_pos h5, if_neg h6])], ht⟩) (fun q hq => by cases hq) d_Pt_isCutting_92
      · refine lv_iconst (v := 0) hx hb d_Pt_isCutting_29 (by decide) ?_
        exact W.zret (v := 0) hx hb hr (by decide) (fun t ht hW => ⟨by rw [(show r_isCutting pt qt = 0 from by unfold r_isCutting; rw [if_neg h1, if_pos h2, if_neg h3])], ht⟩) (fun q hq => by cases hq) d_Pt_isCutting_30
