noncomputable def v_fill_0 (ff : Nat → Int32) (ia : Int32) : Nat → Int32 := upd (upd (upd (upd (upd (upd ff 0 ia) 1 ia) 2 ia) 3 ia) 4 ia) 5 ia
noncomputable def v_fill_1 (ff : Nat → Int32) (ia : Int32) : Nat → Int32 := upd (upd (upd (upd (upd (v_fill_0 ff ia) 6 ia) 7 ia) 8 ia) 9 ia) 10 ia
noncomputable def v_fill_2 (ff : Nat → Int32) (ia : Int32) : Nat → Int32 := upd (upd (upd (upd (upd (v_fill_1 ff ia) 11 ia) 12 ia) 13 ia) 14 ia) 15 ia
noncomputable def v_fill_3 (ff : Nat → Int32) (ia : Int32) : Nat → Int32 := upd (upd (upd (upd (upd (v_fill_2 ff ia) 16 ia) 17 ia) 18 ia) 19 ia) 20 ia
noncomputable def v_fill_4 (ff : Nat → Int32) (ia : Int32) : Nat → Int32 := upd (upd (upd (upd (upd (v_fill_3 ff ia) 21 ia) 22 ia) 23 ia) 24 ia) 25 ia
noncomputable def v_fill_5 (ff : Nat → Int32) (ia : Int32) : Nat → Int32 := upd (upd (upd (upd (upd (v_fill_4 ff ia) 26 ia) 27 ia) 28 ia) 29 ia) 30 ia
noncomputable def o_fill_ff (ff : Nat → Int32) (ia : Int32) : Nat → Int32 := upd (v_fill_5 ff ia) 31 ia
set_option maxHeartbeats 4000000 in
set_option maxRecDepth 100000 in
theorem c_fill (l : Launch) (dC : Nat → ClassId) (dI : Nat → Nat → Nat) (bf : Nat) (cI : ClassId) (ff : Nat → Int32) (ia : Int32) (sz : Nat) : Met l y_Ar_fill (wz y_Ar_fill b_Ar_fill 4 none) { frames := 0, cells := 0, slots := 0, locals := 0 } (va_Pc [.ref bf, .int ia] (fun U => U.heap.size = sz ∧ nw U ∧ va_P (dC, dI) vwCl [(bf, .inl (cI, 32, .inl ff))] U.heap ∧ va_K (dC, dI) vwCl [(cI, .int)] U ∧ va_D (fun _ => True) [(bf, .inl (cI, 32, .inl ff))])) (va_Qv (fun _ : Unit => True) (fun _ t => va_P (dC, dI) vwCl [(bf, .inl (cI, 32, .inl (o_fill_ff ff ia)))] t.heap ∧ va_K (dC, dI) vwCl [(cI, .int)] t ∧ va_D (va_A [(bf, .inl (cI, 32, .inl ff))] sz) [(bf, .inl (cI, 32, .inl (o_fill_ff ff ia)))]) (va_A [(bf, .inl (cI, 32, .inl ff))] sz)) 0 0 (va_A [(bf, .inl (cI, 32, .inl ff))] sz) := by
  refine va_MetF (cc := b_Ar_fill) (maxL := 4) (ret := none) (by decide +kernel) rfl ?_
  intro p e s m args below meth c s₁ B hml hv
  obtain ⟨rfl, hsz, hN, hP, hK, hD0⟩ := hv
  have hx := B.exec
  have hb := B.bytes
  have hr := B.returns
  have hts := fun w h => atoms_spec (ws := (wz y_Ar_fill b_Ar_fill 4 none)) B.pre w (List.mem_cons_of_mem _ h)
  have hown : s.vm.findClass R_Ar = some m.cls := findClass_of_methodNamed B.named
  have hlocks := B.notSynchronized
  subst hsz
  have hD := hD0.self (sz := s.heap.size)
  generalize hAe : va_A [(bf, .inl (cI, 32, .inl ff))] s.heap.size = A at hD ⊢
  have hA : ∀ q : Nat, s.heap.size ≤ q → A q := fun q h => by rw [← hAe]; exact Or.inr h
  have hS : va_S A s.heap s.heap [] := va_S.rf
  have hl := lv_entry ([.ref bf, .int ia]) (n := 4) (Nat.le_of_ble_eq_true rfl)
  rw [lg_entry_eq]
  generalize (lg_sl ([.ref bf, .int ia]) ++ List.replicate (4 - (lg_sl ([.ref bf, .int ia])).length) Slot.unset).toArray = ls at hl ⊢
  have hl : lv_has ls 4 [(0, .ref bf), (1, .int ia)] := hl
  refine lv_iconst (v := 0) hx hb d_Ar_fill_0 (by decide) ?_
  refine lv_istore_n (lv' := [(2, .int 0), (0, .ref bf), (1, .int ia)]) hx hb d_Ar_fill_1 rfl hl (by decide) rfl (fun ls hl => ?_)
  refine lv_aload_n hx hb d_Ar_fill_2 rfl (lv_at hl 1 rfl) ?_
  refine va_alen (v := 32) hx hb hK hP 0 0 rfl rfl (show Int32.ofNat 32 = 32 by decide) d_Ar_fill_3 ?_
  refine lv_istore_n (lv' := [(3, .int 32), (2, .int 0), (0, .ref bf), (1, .int ia)]) hx hb d_Ar_fill_4 rfl hl (by decide) rfl (fun ls hl => ?_)
  refine lv_iload_n hx hb d_Ar_fill_5 rfl (lv_at hl 1 rfl) ?_
  refine lv_iload_n hx hb d_Ar_fill_6 rfl (lv_at hl 0 rfl) ?_
  refine lv_icmp_ge (tgt := 20) hx hb d_Ar_fill_7 rfl (fun h => absurd h (by decide)) (fun _ => ?_)
  refine lv_aload_n hx hb d_Ar_fill_10 rfl (lv_at hl 2 rfl) ?_
  refine lv_iload_n hx hb d_Ar_fill_11 rfl (lv_at hl 1 rfl) ?_
  refine lv_iload_n hx hb d_Ar_fill_12 rfl (lv_at hl 3 rfl) ?_
  refine va_iast hx hb hK hP hD hS 0 0 rfl rfl (kq_in (by decide)) d_Ar_fill_13 (fun H locs hP hD hS => ?_)
  have hP : va_P (dC, dI) vwCl [(bf, .inl (cI, 32, .inl (upd ff 0 ia)))] H := hP
  have hD : va_D A [(bf, .inl (cI, 32, .inl (upd ff 0 ia)))] := hD
  refine lv_iinc (k := 1) (v := 1) (lv' := [(2, .int 1), (3, .int 32), (0, .ref bf), (1, .int ia)]) hx hb d_Ar_fill_14 hl rfl (by decide) (by decide) rfl (fun ls hl => ?_)
  refine lv_goto (tgt := 5) hx hb d_Ar_fill_17 rfl ?_
  refine lv_iload_n hx hb d_Ar_fill_5 rfl (lv_at hl 0 rfl) ?_
  refine lv_iload_n hx hb d_Ar_fill_6 rfl (lv_at hl 1 rfl) ?_
  refine lv_icmp_ge (tgt := 20) hx hb d_Ar_fill_7 rfl (fun h => absurd h (by decide)) (fun _ => ?_)
  refine lv_aload_n hx hb d_Ar_fill_10 rfl (lv_at hl 2 rfl) ?_
  refine lv_iload_n hx hb d_Ar_fill_11 rfl (lv_at hl 0 rfl) ?_
  refine lv_iload_n hx hb d_Ar_fill_12 rfl (lv_at hl 3 rfl) ?_
  refine va_iast hx hb hK hP hD hS 0 0 rfl rfl (kq_in (by decide)) d_Ar_fill_13 (fun H locs hP hD hS => ?_)
  have hP : va_P (dC, dI) vwCl [(bf, .inl (cI, 32, .inl (upd (upd ff 0 ia) 1 ia)))] H := hP
  have hD : va_D A [(bf, .inl (cI, 32, .inl (upd (upd ff 0 ia) 1 ia)))] := hD
  refine lv_iinc (k := 0) (v := 2) (lv' := [(2, .int 2), (3, .int 32), (0, .ref bf), (1, .int ia)]) hx hb d_Ar_fill_14 hl rfl (by decide) (by decide) rfl (fun ls hl => ?_)
  refine lv_goto (tgt := 5) hx hb d_Ar_fill_17 rfl ?_
  refine lv_iload_n hx hb d_Ar_fill_5 rfl (lv_at hl 0 rfl) ?_
  refine lv_iload_n hx hb d_Ar_fill_6 rfl (lv_at hl 1 rfl) ?_
  refine lv_icmp_ge (tgt := 20) hx hb d_Ar_fill_7 rfl (fun h => absurd h (by decide)) (fun _ => ?_)
  refine lv_aload_n hx hb d_Ar_fill_10 rfl (lv_at hl 2 rfl) ?_
  refine lv_iload_n hx hb d_Ar_fill_11 rfl (lv_at hl 0 rfl) ?_
  refine lv_iload_n hx hb d_Ar_fill_12 rfl (lv_at hl 3 rfl) ?_
  refine va_iast hx hb hK hP hD hS 0 0 rfl rfl (kq_in (by decide)) d_Ar_fill_13 (fun H locs hP hD hS => ?_)
  have hP : va_P (dC, dI) vwCl [(bf, .inl (cI, 32, .inl (upd (upd (upd ff 0 ia) 1 ia) 2 ia)))] H := hP
  have hD : va_D A [(bf, .inl (cI, 32, .inl (upd (upd (upd ff 0 ia) 1 ia) 2 ia)))] := hD
  refine lv_iinc (k := 0) (v := 3) (lv' := [(2, .int 3), (3, .int 32), (0, .ref bf), (1, .int ia)]) hx hb d_Ar_fill_14 hl rfl (by decide) (by decide) rfl (fun ls hl => ?_)
  refine lv_goto (tgt := 5) hx hb d_Ar_fill_17 rfl ?_
  refine lv_iload_n hx hb d_Ar_fill_5 rfl (lv_at hl 0 rfl) ?_
  refine lv_iload_n hx hb d_Ar_fill_6 rfl (lv_at hl 1 rfl) ?_
  refine lv_icmp_ge (tgt := 20) hx hb d_Ar_fill_7 rfl (fun h => absurd h (by decide)) (fun _ => ?_)
  refine lv_aload_n hx hb d_Ar_fill_10 rfl (lv_at hl 2 rfl) ?_
  refine lv_iload_n hx hb d_Ar_fill_11 rfl (lv_at hl 0 rfl) ?_
  refine lv_iload_n hx hb d_Ar_fill_12 rfl (lv_at hl 3 rfl) ?_
  refine va_iast hx hb hK hP hD hS 0 0 rfl rfl (kq_in (by decide)) d_Ar_fill_13 (fun H locs hP hD hS => ?_)
  have hP : va_P (dC, dI) vwCl [(bf, .inl (cI, 32, .inl (upd (upd (upd (upd ff 0 ia) 1 ia) 2 ia) 3 ia)))] H := hP
  have hD : va_D A [(bf, .inl (cI, 32, .inl (upd (upd (upd (upd ff 0 ia) 1 ia) 2 ia) 3 ia)))] := hD
  refine lv_iinc (k := 0) (v := 4) (lv' := [(2, .int 4), (3, .int 32), (0, .ref bf), (1, .int ia)]) hx hb d_Ar_fill_14 hl rfl (by decide) (by decide) rfl (fun ls hl => ?_)
  refine lv_goto (tgt := 5) hx hb d_Ar_fill_17 rfl ?_
  refine lv_iload_n hx hb d_Ar_fill_5 rfl (lv_at hl 0 rfl) ?_
  refine lv_iload_n hx hb d_Ar_fill_6 rfl (lv_at hl 1 rfl) ?_
  refine lv_icmp_ge (tgt := 20) hx hb d_Ar_fill_7 rfl (fun h => absurd h (by decide)) (fun _ => ?_)
  refine lv_aload_n hx hb d_Ar_fill_10 rfl (lv_at hl 2 rfl) ?_
  refine lv_iload_n hx hb d_Ar_fill_11 rfl (lv_at hl 0 rfl) ?_
  refine lv_iload_n hx hb d_Ar_fill_12 rfl (lv_at hl 3 rfl) ?_
  refine va_iast hx hb hK hP hD hS 0 0 rfl rfl (kq_in (by decide)) d_Ar_fill_13 (fun H locs hP hD hS => ?_)
  have hP : va_P (dC, dI) vwCl [(bf, .inl (cI, 32, .inl (upd (upd (upd (upd (upd ff 0 ia) 1 ia) 2 ia) 3 ia) 4 ia)))] H := hP
  have hD : va_D A [(bf, .inl (cI, 32, .inl (upd (upd (upd (upd (upd ff 0 ia) 1 ia) 2 ia) 3 ia) 4 ia)))] := hD
  refine lv_iinc (k := 0) (v := 5) (lv' := [(2, .int 5), (3, .int 32), (0, .ref bf), (1, .int ia)]) hx hb d_Ar_fill_14 hl rfl (by decide) (by decide) rfl (fun ls hl => ?_)
  refine lv_goto (tgt := 5) hx hb d_Ar_fill_17 rfl ?_
  refine lv_iload_n hx hb d_Ar_fill_5 rfl (lv_at hl 0 rfl) ?_
  refine lv_iload_n hx hb d_Ar_fill_6 rfl (lv_at hl 1 rfl) ?_
  refine lv_icmp_ge (tgt := 20) hx hb d_Ar_fill_7 rfl (fun h => absurd h (by decide)) (fun _ => ?_)
  refine lv_aload_n hx hb d_Ar_fill_10 rfl (lv_at hl 2 rfl) ?_
  refine lv_iload_n hx hb d_Ar_fill_11 rfl (lv_at hl 0 rfl) ?_
  refine lv_iload_n hx hb d_Ar_fill_12 rfl (lv_at hl 3 rfl) ?_
  refine va_iast hx hb hK hP hD hS 0 0 rfl rfl (kq_in (by decide)) d_Ar_fill_13 (fun H locs hP hD hS => ?_)
  have hP : va_P (dC, dI) vwCl [(bf, .inl (cI, 32, .inl (v_fill_0 ff ia)))] H := hP
  have hD : va_D A [(bf, .inl (cI, 32, .inl (v_fill_0 ff ia)))] := hD
  refine lv_iinc (k := 0) (v := 6) (lv' := [(2, .int 6), (3, .int 32), (0, .ref bf), (1, .int ia)]) hx hb d_Ar_fill_14 hl rfl (by decide) (by decide) rfl (fun ls hl => ?_)
  refine lv_goto (tgt := 5) hx hb d_Ar_fill_17 rfl ?_
  refine lv_iload_n hx hb d_Ar_fill_5 rfl (lv_at hl 0 rfl) ?_
  refine lv_iload_n hx hb d_Ar_fill_6 rfl (lv_at hl 1 rfl) ?_
  refine lv_icmp_ge (tgt := 20) hx hb d_Ar_fill_7 rfl (fun h => absurd h (by decide)) (fun _ => ?_)
  refine lv_aload_n hx hb d_Ar_fill_10 rfl (lv_at hl 2 rfl) ?_
  refine lv_iload_n hx hb d_Ar_fill_11 rfl (lv_at hl 0 rfl) ?_
  refine lv_iload_n hx hb d_Ar_fill_12 rfl (lv_at hl 3 rfl) ?_
  refine va_iast hx hb hK hP hD hS 0 0 rfl rfl (kq_in (by decide)) d_Ar_fill_13 (fun H locs hP hD hS => ?_)
  have hP : va_P (dC, dI) vwCl [(bf, .inl (cI, 32, .inl (upd (v_fill_0 ff ia) 6 ia)))] H := hP
  have hD : va_D A [(bf, .inl (cI, 32, .inl (upd (v_fill_0 ff ia) 6 ia)))] := hD
  refine lv_iinc (k := 0) (v := 7) (lv' := [(2, .int 7), (3, .int 32), (0, .ref bf), (1, .int ia)]) hx hb d_Ar_fill_14 hl rfl (by decide) (by decide) rfl (fun ls hl => ?_)
  refine lv_goto (tgt := 5) hx hb d_Ar_fill_17 rfl ?_
  refine lv_iload_n hx hb d_Ar_fill_5 rfl (lv_at hl 0 rfl) ?_
  refine lv_iload_n hx hb d_Ar_fill_6 rfl (lv_at hl 1 rfl) ?_
  refine lv_icmp_ge (tgt := 20) hx hb d_Ar_fill_7 rfl (fun h => absurd h (by decide)) (fun _ => ?_)
  refine lv_aload_n hx hb d_Ar_fill_10 rfl (lv_at hl 2 rfl) ?_
  refine lv_iload_n hx hb d_Ar_fill_11 rfl (lv_at hl 0 rfl) ?_
  refine lv_iload_n hx hb d_Ar_fill_12 rfl (lv_at hl 3 rfl) ?_
  refine va_iast hx hb hK hP hD hS 0 0 rfl rfl (kq_in (by decide)) d_Ar_fill_13 (fun H locs hP hD hS => ?_)
  have hP : va_P (dC, dI) vwCl [(bf, .inl (cI, 32, .inl (upd (upd (v_fill_0 ff ia) 6 ia) 7 ia)))] H := hP
  have hD : va_D A [(bf, .inl (cI, 32, .inl (upd (upd (v_fill_0 ff ia) 6 ia) 7 ia)))] := hD
  refine lv_iinc (k := 0) (v := 8) (lv' := [(2, .int 8), (3, .int 32), (0, .ref bf), (1, .int ia)]) hx hb d_Ar_fill_14 hl rfl (by decide) (by decide) rfl (fun ls hl => ?_)
  refine lv_goto (tgt := 5) hx hb d_Ar_fill_17 rfl ?_
  refine lv_iload_n hx hb d_Ar_fill_5 rfl (lv_at hl 0 rfl) ?_
  refine lv_iload_n hx hb d_Ar_fill_6 rfl (lv_at hl 1 rfl) ?_
  refine lv_icmp_ge (tgt := 20) hx hb d_Ar_fill_7 rfl (fun h => absurd h (by decide)) (fun _ => ?_)
  refine lv_aload_n hx hb d_Ar_fill_10 rfl (lv_at hl 2 rfl) ?_
  refine lv_iload_n hx hb d_Ar_fill_11 rfl (lv_at hl 0 rfl) ?_
  refine lv_iload_n hx hb d_Ar_fill_12 rfl (lv_at hl 3 rfl) ?_
  refine va_iast hx hb hK hP hD hS 0 0 rfl rfl (kq_in (by decide)) d_Ar_fill_13 (fun H locs hP hD hS => ?_)
  have hP : va_P (dC, dI) vwCl [(bf, .inl (cI, 32, .inl (upd (upd (upd (v_fill_0 ff ia) 6 ia) 7 ia) 8 ia)))] H := hP
  have hD : va_D A [(bf, .inl (cI, 32, .inl (upd (upd (upd (v_fill_0 ff ia) 6 ia) 7 ia) 8 ia)))] := hD
  refine lv_iinc (k := 0) (v := 9) (lv' := [(2, .int 9), (3, .int 32), (0, .ref bf), (1, .int ia)]) hx hb d_Ar_fill_14 hl rfl (by decide) (by decide) rfl (fun ls hl => ?_)
  refine lv_goto (tgt := 5) hx hb d_Ar_fill_17 rfl ?_
  refine lv_iload_n hx hb d_Ar_fill_5 rfl (lv_at hl 0 rfl) ?_
  refine lv_iload_n hx hb d_Ar_fill_6 rfl (lv_at hl 1 rfl) ?_
  refine lv_icmp_ge (tgt := 20) hx hb d_Ar_fill_7 rfl (fun h => absurd h (by decide)) (fun _ => ?_)
  refine lv_aload_n hx hb d_Ar_fill_10 rfl (lv_at hl 2 rfl) ?_
  refine lv_iload_n hx hb d_Ar_fill_11 rfl (lv_at hl 0 rfl) ?_
  refine lv_iload_n hx hb d_Ar_fill_12 rfl (lv_at hl 3 rfl) ?_
  refine va_iast hx hb hK hP hD hS 0 0 rfl rfl (kq_in (by decide)) d_Ar_fill_13 (fun H locs hP hD hS => ?_)
  have hP : va_P (dC, dI) vwCl [(bf, .inl (cI, 32, .inl (upd (upd (upd (upd (v_fill_0 ff ia) 6 ia) 7 ia) 8 ia) 9 ia)))] H := hP
  have hD : va_D A [(bf, .inl (cI, 32, .inl (upd (upd (upd (upd (v_fill_0 ff ia) 6 ia) 7 ia) 8 ia) 9 ia)))] := hD
  refine lv_iinc (k := 0) (v := 10) (lv' := [(2, .int 10), (3, .int 32), (0, .ref bf), (1, .int ia)]) hx hb d_Ar_fill_14 hl rfl (by decide) (by decide) rfl (fun ls hl => ?_)
  refine lv_goto (tgt := 5) hx hb d_Ar_fill_17 rfl ?_
  refine lv_iload_n hx hb d_Ar_fill_5 rfl (lv_at hl 0 rfl) ?_
  refine lv_iload_n hx hb d_Ar_fill_6 rfl (lv_at hl 1 rfl) ?_
  refine lv_icmp_ge (tgt := 20) hx hb d_Ar_fill_7 rfl (fun h => absurd h (by decide)) (fun _ => ?_)
  refine lv_aload_n hx hb d_Ar_fill_10 rfl (lv_at hl 2 rfl) ?_
  refine lv_iload_n hx hb d_Ar_fill_11 rfl (lv_at hl 0 rfl) ?_
  refine lv_iload_n hx hb d_Ar_fill_12 rfl (lv_at hl 3 rfl) ?_
  refine va_iast hx hb hK hP hD hS 0 0 rfl rfl (kq_in (by decide)) d_Ar_fill_13 (fun H locs hP hD hS => ?_)
  have hP : va_P (dC, dI) vwCl [(bf, .inl (cI, 32, .inl (v_fill_1 ff ia)))] H := hP
  have hD : va_D A [(bf, .inl (cI, 32, .inl (v_fill_1 ff ia)))] := hD
  refine lv_iinc (k := 0) (v := 11) (lv' := [(2, .int 11), (3, .int 32), (0, .ref bf), (1, .int ia)]) hx hb d_Ar_fill_14 hl rfl (by decide) (by decide) rfl (fun ls hl => ?_)
  refine lv_goto (tgt := 5) hx hb d_Ar_fill_17 rfl ?_
  refine lv_iload_n hx hb d_Ar_fill_5 rfl (lv_at hl 0 rfl) ?_
  refine lv_iload_n hx hb d_Ar_fill_6 rfl (lv_at hl 1 rfl) ?_
  refine lv_icmp_ge (tgt := 20) hx hb d_Ar_fill_7 rfl (fun h => absurd h (by decide)) (fun _ => ?_)
  refine lv_aload_n hx hb d_Ar_fill_10 rfl (lv_at hl 2 rfl) ?_
  refine lv_iload_n hx hb d_Ar_fill_11 rfl (lv_at hl 0 rfl) ?_
  refine lv_iload_n hx hb d_Ar_fill_12 rfl (lv_at hl 3 rfl) ?_
  refine va_iast hx hb hK hP hD hS 0 0 rfl rfl (kq_in (by decide)) d_Ar_fill_13 (fun H locs hP hD hS => ?_)
  have hP : va_P (dC, dI) vwCl [(bf, .inl (cI, 32, .inl (upd (v_fill_1 ff ia) 11 ia)))] H := hP
  have hD : va_D A [(bf, .inl (cI, 32, .inl (upd (v_fill_1 ff ia) 11 ia)))] := hD
  refine lv_iinc (k := 0) (v := 12) (lv' := [(2, .int 12), (3, .int 32), (0, .ref bf), (1, .int ia)]) hx hb d_Ar_fill_14 hl rfl (by decide) (by decide) rfl (fun ls hl => ?_)
  refine lv_goto (tgt := 5) hx hb d_Ar_fill_17 rfl ?_
  refine lv_iload_n hx hb d_Ar_fill_5 rfl (lv_at hl 0 rfl) ?_
  refine lv_iload_n hx hb d_Ar_fill_6 rfl (lv_at hl 1 rfl) ?_
  refine lv_icmp_ge (tgt := 20) hx hb d_Ar_fill_7 rfl (fun h => absurd h (by decide)) (fun _ => ?_)
  refine lv_aload_n hx hb d_Ar_fill_10 rfl (lv_at hl 2 rfl) ?_
  refine lv_iload_n hx hb d_Ar_fill_11 rfl (lv_at hl 0 rfl) ?_
  refine lv_iload_n hx hb d_Ar_fill_12 rfl (lv_at hl 3 rfl) ?_
  refine va_iast hx hb hK hP hD hS 0 0 rfl rfl (kq_in (by decide)) d_Ar_fill_13 (fun H locs hP hD hS => ?_)
  have hP : va_P (dC, dI) vwCl [(bf, .inl (cI, 32, .inl (upd (upd (v_fill_1 ff ia) 11 ia) 12 ia)))] H := hP
  have hD : va_D A [(bf, .inl (cI, 32, .inl (upd (upd (v_fill_1 ff ia) 11 ia) 12 ia)))] := hD
  refine lv_iinc (k := 0) (v := 13) (lv' := [(2, .int 13), (3, .int 32), (0, .ref bf), (1, .int ia)]) hx hb d_Ar_fill_14 hl rfl (by decide) (by decide) rfl (fun ls hl => ?_)
  refine lv_goto (tgt := 5) hx hb d_Ar_fill_17 rfl ?_
  refine lv_iload_n hx hb d_Ar_fill_5 rfl (lv_at hl 0 rfl) ?_
  refine lv_iload_n hx hb d_Ar_fill_6 rfl (lv_at hl 1 rfl) ?_
  refine lv_icmp_ge (tgt := 20) hx hb d_Ar_fill_7 rfl (fun h => absurd h (by decide)) (fun _ => ?_)
  refine lv_aload_n hx hb d_Ar_fill_10 rfl (lv_at hl 2 rfl) ?_
  refine lv_iload_n hx hb d_Ar_fill_11 rfl (lv_at hl 0 rfl) ?_
  refine lv_iload_n hx hb d_Ar_fill_12 rfl (lv_at hl 3 rfl) ?_
  refine va_iast hx hb hK hP hD hS 0 0 rfl rfl (kq_in (by decide)) d_Ar_fill_13 (fun H locs hP hD hS => ?_)
  have hP : va_P (dC, dI) vwCl [(bf, .inl (cI, 32, .inl (upd (upd (upd (v_fill_1 ff ia) 11 ia) 12 ia) 13 ia)))] H := hP
  have hD : va_D A [(bf, .inl (cI, 32, .inl (upd (upd (upd (v_fill_1 ff ia) 11 ia) 12 ia) 13 ia)))] := hD
  refine lv_iinc (k := 0) (v := 14) (lv' := [(2, .int 14), (3, .int 32), (0, .ref bf), (1, .int ia)]) hx hb d_Ar_fill_14 hl rfl (by decide) (by decide) rfl (fun ls hl => ?_)
  refine lv_goto (tgt := 5) hx hb d_Ar_fill_17 rfl ?_
  refine lv_iload_n hx hb d_Ar_fill_5 rfl (lv_at hl 0 rfl) ?_
  refine lv_iload_n hx hb d_Ar_fill_6 rfl (lv_at hl 1 rfl) ?_
  refine lv_icmp_ge (tgt := 20) hx hb d_Ar_fill_7 rfl (fun h => absurd h (by decide)) (fun _ => ?_)
  refine lv_aload_n hx hb d_Ar_fill_10 rfl (lv_at hl 2 rfl) ?_
  refine lv_iload_n hx hb d_Ar_fill_11 rfl (lv_at hl 0 rfl) ?_
  refine lv_iload_n hx hb d_Ar_fill_12 rfl (lv_at hl 3 rfl) ?_
  refine va_iast hx hb hK hP hD hS 0 0 rfl rfl (kq_in (by decide)) d_Ar_fill_13 (fun H locs hP hD hS => ?_)
  have hP : va_P (dC, dI) vwCl [(bf, .inl (cI, 32, .inl (upd (upd (upd (upd (v_fill_1 ff ia) 11 ia) 12 ia) 13 ia) 14 ia)))] H := hP
  have hD : va_D A [(bf, .inl (cI, 32, .inl (upd (upd (upd (upd (v_fill_1 ff ia) 11 ia) 12 ia) 13 ia) 14 ia)))] := hD
  refine lv_iinc (k := 0) (v := 15) (lv' := [(2, .int 15), (3, .int 32), (0, .ref bf), (1, .int ia)]) hx hb d_Ar_fill_14 hl rfl (by decide) (by decide) rfl (fun ls hl => ?_)
  refine lv_goto (tgt := 5) hx hb d_Ar_fill_17 rfl ?_
  refine lv_iload_n hx hb d_Ar_fill_5 rfl (lv_at hl 0 rfl) ?_
  refine lv_iload_n hx hb d_Ar_fill_6 rfl (lv_at hl 1 rfl) ?_
  refine lv_icmp_ge (tgt := 20) hx hb d_Ar_fill_7 rfl (fun h => absurd h (by decide)) (fun _ => ?_)
  refine lv_aload_n hx hb d_Ar_fill_10 rfl (lv_at hl 2 rfl) ?_
  refine lv_iload_n hx hb d_Ar_fill_11 rfl (lv_at hl 0 rfl) ?_
  refine lv_iload_n hx hb d_Ar_fill_12 rfl (lv_at hl 3 rfl) ?_
  refine va_iast hx hb hK hP hD hS 0 0 rfl rfl (kq_in (by decide)) d_Ar_fill_13 (fun H locs hP hD hS => ?_)
  have hP : va_P (dC, dI) vwCl [(bf, .inl (cI, 32, .inl (v_fill_2 ff ia)))] H := hP
  have hD : va_D A [(bf, .inl (cI, 32, .inl (v_fill_2 ff ia)))] := hD
  refine lv_iinc (k := 0) (v := 16) (lv' := [(2, .int 16), (3, .int 32), (0, .ref bf), (1, .int ia)]) hx hb d_Ar_fill_14 hl rfl (by decide) (by decide) rfl (fun ls hl => ?_)
  refine lv_goto (tgt := 5) hx hb d_Ar_fill_17 rfl ?_
  refine lv_iload_n hx hb d_Ar_fill_5 rfl (lv_at hl 0 rfl) ?_
  refine lv_iload_n hx hb d_Ar_fill_6 rfl (lv_at hl 1 rfl) ?_
  refine lv_icmp_ge (tgt := 20) hx hb d_Ar_fill_7 rfl (fun h => absurd h (by decide)) (fun _ => ?_)
  refine lv_aload_n hx hb d_Ar_fill_10 rfl (lv_at hl 2 rfl) ?_
  refine lv_iload_n hx hb d_Ar_fill_11 rfl (lv_at hl 0 rfl) ?_
  refine lv_iload_n hx hb d_Ar_fill_12 rfl (lv_at hl 3 rfl) ?_
  refine va_iast hx hb hK hP hD hS 0 0 rfl rfl (kq_in (by decide)) d_Ar_fill_13 (fun H locs hP hD hS => ?_)
  have hP : va_P (dC, dI) vwCl [(bf, .inl (cI, 32, .inl (upd (v_fill_2 ff ia) 16 ia)))] H := hP
  have hD : va_D A [(bf, .inl (cI, 32, .inl (upd (v_fill_2 ff ia) 16 ia)))] := hD
  refine lv_iinc (k := 0) (v := 17) (lv' := [(2, .int 17), (3, .int 32), (0, .ref bf), (1, .int ia)]) hx hb d_Ar_fill_14 hl rfl (by decide) (by decide) rfl (fun ls hl => ?_)
  refine lv_goto (tgt := 5) hx hb d_Ar_fill_17 rfl ?_
  refine lv_iload_n hx hb d_Ar_fill_5 rfl (lv_at hl 0 rfl) ?_
  refine lv_iload_n hx hb d_Ar_fill_6 rfl (lv_at hl 1 rfl) ?_
  refine lv_icmp_ge (tgt := 20) hx hb d_Ar_fill_7 rfl (fun h => absurd h (by decide)) (fun _ => ?_)
  refine lv_aload_n hx hb d_Ar_fill_10 rfl (lv_at hl 2 rfl) ?_
  refine lv_iload_n hx hb d_Ar_fill_11 rfl (lv_at hl 0 rfl) ?_
  refine lv_iload_n hx hb d_Ar_fill_12 rfl (lv_at hl 3 rfl) ?_
  refine va_iast hx hb hK hP hD hS 0 0 rfl rfl (kq_in (by decide)) d_Ar_fill_13 (fun H locs hP hD hS => ?_)
  have hP : va_P (dC, dI) vwCl [(bf, .inl (cI, 32, .inl (upd (upd (v_fill_2 ff ia) 16 ia) 17 ia)))] H := hP
  have hD : va_D A [(bf, .inl (cI, 32, .inl (upd (upd (v_fill_2 ff ia) 16 ia) 17 ia)))] := hD
  refine lv_iinc (k := 0) (v := 18) (lv' := [(2, .int 18), (3, .int 32), (0, .ref bf), (1, .int ia)]) hx hb d_Ar_fill_14 hl rfl (by decide) (by decide) rfl (fun ls hl => ?_)
  refine lv_goto (tgt := 5) hx hb d_Ar_fill_17 rfl ?_
  refine lv_iload_n hx hb d_Ar_fill_5 rfl (lv_at hl 0 rfl) ?_
  refine lv_iload_n hx hb d_Ar_fill_6 rfl (lv_at hl 1 rfl) ?_
  refine lv_icmp_ge (tgt := 20) hx hb d_Ar_fill_7 rfl (fun h => absurd h (by decide)) (fun _ => ?_)
  refine lv_aload_n hx hb d_Ar_fill_10 rfl (lv_at hl 2 rfl) ?_
  refine lv_iload_n hx hb d_Ar_fill_11 rfl (lv_at hl 0 rfl) ?_
  refine lv_iload_n hx hb d_Ar_fill_12 rfl (lv_at hl 3 rfl) ?_
  refine va_iast hx hb hK hP hD hS 0 0 rfl rfl (kq_in (by decide)) d_Ar_fill_13 (fun H locs hP hD hS => ?_)
  have hP : va_P (dC, dI) vwCl [(bf, .inl (cI, 32, .inl (upd (upd (upd (v_fill_2 ff ia) 16 ia) 17 ia) 18 ia)))] H := hP
  have hD : va_D A [(bf, .inl (cI, 32, .inl (upd (upd (upd (v_fill_2 ff ia) 16 ia) 17 ia) 18 ia)))] := hD
  refine lv_iinc (k := 0) (v := 19) (lv' := [(2, .int 19), (3, .int 32), (0, .ref bf), (1, .int ia)]) hx hb d_Ar_fill_14 hl rfl (by decide) (by decide) rfl (fun ls hl => ?_)
  refine lv_goto (tgt := 5) hx hb d_Ar_fill_17 rfl ?_
  refine lv_iload_n hx hb d_Ar_fill_5 rfl (lv_at hl 0 rfl) ?_
  refine lv_iload_n hx hb d_Ar_fill_6 rfl (lv_at hl 1 rfl) ?_
  refine lv_icmp_ge (tgt := 20) hx hb d_Ar_fill_7 rfl (fun h => absurd h (by decide)) (fun _ => ?_)
  refine lv_aload_n hx hb d_Ar_fill_10 rfl (lv_at hl 2 rfl) ?_
  refine lv_iload_n hx hb d_Ar_fill_11 rfl (lv_at hl 0 rfl) ?_
  refine lv_iload_n hx hb d_Ar_fill_12 rfl (lv_at hl 3 rfl) ?_
  refine va_iast hx hb hK hP hD hS 0 0 rfl rfl (kq_in (by decide)) d_Ar_fill_13 (fun H locs hP hD hS => ?_)
  have hP : va_P (dC, dI) vwCl [(bf, .inl (cI, 32, .inl (upd (upd (upd (upd (v_fill_2 ff ia) 16 ia) 17 ia) 18 ia) 19 ia)))] H := hP
  have hD : va_D A [(bf, .inl (cI, 32, .inl (upd (upd (upd (upd (v_fill_2 ff ia) 16 ia) 17 ia) 18 ia) 19 ia)))] := hD
  refine lv_iinc (k := 0) (v := 20) (lv' := [(2, .int 20), (3, .int 32), (0, .ref bf), (1, .int ia)]) hx hb d_Ar_fill_14 hl rfl (by decide) (by decide) rfl (fun ls hl => ?_)
  refine lv_goto (tgt := 5) hx hb d_Ar_fill_17 rfl ?_
  refine lv_iload_n hx hb d_Ar_fill_5 rfl (lv_at hl 0 rfl) ?_
  refine lv_iload_n hx hb d_Ar_fill_6 rfl (lv_at hl 1 rfl) ?_
  refine lv_icmp_ge (tgt := 20) hx hb d_Ar_fill_7 rfl (fun h => absurd h (by decide)) (fun _ => ?_)
  refine lv_aload_n hx hb d_Ar_fill_10 rfl (lv_at hl 2 rfl) ?_
  refine lv_iload_n hx hb d_Ar_fill_11 rfl (lv_at hl 0 rfl) ?_
  refine lv_iload_n hx hb d_Ar_fill_12 rfl (lv_at hl 3 rfl) ?_
  refine va_iast hx hb hK hP hD hS 0 0 rfl rfl (kq_in (by decide)) d_Ar_fill_13 (fun H locs hP hD hS => ?_)
  have hP : va_P (dC, dI) vwCl [(bf, .inl (cI, 32, .inl (v_fill_3 ff ia)))] H := hP
  have hD : va_D A [(bf, .inl (cI, 32, .inl (v_fill_3 ff ia)))] := hD
  refine lv_iinc (k := 0) (v := 21) (lv' := [(2, .int 21), (3, .int 32), (0, .ref bf), (1, .int ia)]) hx hb d_Ar_fill_14 hl rfl (by decide) (by decide) rfl (fun ls hl => ?_)
  refine lv_goto (tgt := 5) hx hb d_Ar_fill_17 rfl ?_
  refine lv_iload_n hx hb d_Ar_fill_5 rfl (lv_at hl 0 rfl) ?_
  refine lv_iload_n hx hb d_Ar_fill_6 rfl (lv_at hl 1 rfl) ?_
  refine lv_icmp_ge (tgt := 20) hx hb d_Ar_fill_7 rfl (fun h => absurd h (by decide)) (fun _ => ?_)
  refine lv_aload_n hx hb d_Ar_fill_10 rfl (lv_at hl 2 rfl) ?_
  refine lv_iload_n hx hb d_Ar_fill_11 rfl (lv_at hl 0 rfl) ?_
  refine lv_iload_n hx hb d_Ar_fill_12 rfl (lv_at hl 3 rfl) ?_
  refine va_iast hx hb hK hP hD hS 0 0 rfl rfl (kq_in (by decide)) d_Ar_fill_13 (fun H locs hP hD hS => ?_)
  have hP : va_P (dC, dI) vwCl [(bf, .inl (cI, 32, .inl (upd (v_fill_3 ff ia) 21 ia)))] H := hP
  have hD : va_D A [(bf, .inl (cI, 32, .inl (upd (v_fill_3 ff ia) 21 ia)))] := hD
  refine lv_iinc (k := 0) (v := 22) (lv' := [(2, .int 22), (3, .int 32), (0, .ref bf), (1, .int ia)]) hx hb d_Ar_fill_14 hl rfl (by decide) (by decide) rfl (fun ls hl => ?_)
  refine lv_goto (tgt := 5) hx hb d_Ar_fill_17 rfl ?_
  refine lv_iload_n hx hb d_Ar_fill_5 rfl (lv_at hl 0 rfl) ?_
  refine lv_iload_n hx hb d_Ar_fill_6 rfl (lv_at hl 1 rfl) ?_
  refine lv_icmp_ge (tgt := 20) hx hb d_Ar_fill_7 rfl (fun h => absurd h (by decide)) (fun _ => ?_)
  refine lv_aload_n hx hb d_Ar_fill_10 rfl (lv_at hl 2 rfl) ?_
  refine lv_iload_n hx hb d_Ar_fill_11 rfl (lv_at hl 0 rfl) ?_
  refine lv_iload_n hx hb d_Ar_fill_12 rfl (lv_at hl 3 rfl) ?_
  refine va_iast hx hb hK hP hD hS 0 0 rfl rfl (kq_in (by decide)) d_Ar_fill_13 (fun H locs hP hD hS => ?_)
  have hP : va_P (dC, dI) vwCl [(bf, .inl (cI, 32, .inl (upd (upd (v_fill_3 ff ia) 21 ia) 22 ia)))] H := hP
  have hD : va_D A [(bf, .inl (cI, 32, .inl (upd (upd (v_fill_3 ff ia) 21 ia) 22 ia)))] := hD
  refine lv_iinc (k := 0) (v := 23) (lv' := [(2, .int 23), (3, .int 32), (0, .ref bf), (1, .int ia)]) hx hb d_Ar_fill_14 hl rfl (by decide) (by decide) rfl (fun ls hl => ?_)
  refine lv_goto (tgt := 5) hx hb d_Ar_fill_17 rfl ?_
  refine lv_iload_n hx hb d_Ar_fill_5 rfl (lv_at hl 0 rfl) ?_
  refine lv_iload_n hx hb d_Ar_fill_6 rfl (lv_at hl 1 rfl) ?_
  refine lv_icmp_ge (tgt := 20) hx hb d_Ar_fill_7 rfl (fun h => absurd h (by decide)) (fun _ => ?_)
  refine lv_aload_n hx hb d_Ar_fill_10 rfl (lv_at hl 2 rfl) ?_
  refine lv_iload_n hx hb d_Ar_fill_11 rfl (lv_at hl 0 rfl) ?_
  refine lv_iload_n hx hb d_Ar_fill_12 rfl (lv_at hl 3 rfl) ?_
  refine va_iast hx hb hK hP hD hS 0 0 rfl rfl (kq_in (by decide)) d_Ar_fill_13 (fun H locs hP hD hS => ?_)
  have hP : va_P (dC, dI) vwCl [(bf, .inl (cI, 32, .inl (upd (upd (upd (v_fill_3 ff ia) 21 ia) 22 ia) 23 ia)))] H := hP
  have hD : va_D A [(bf, .inl (cI, 32, .inl (upd (upd (upd (v_fill_3 ff ia) 21 ia) 22 ia) 23 ia)))] := hD
  refine lv_iinc (k := 0) (v := 24) (lv' := [(2, .int 24), (3, .int 32), (0, .ref bf), (1, .int ia)]) hx hb d_Ar_fill_14 hl rfl (by decide) (by decide) rfl (fun ls hl => ?_)
  refine lv_goto (tgt := 5) hx hb d_Ar_fill_17 rfl ?_
  refine lv_iload_n hx hb d_Ar_fill_5 rfl (lv_at hl 0 rfl) ?_
  refine lv_iload_n hx hb d_Ar_fill_6 rfl (lv_at hl 1 rfl) ?_
  refine lv_icmp_ge (tgt := 20) hx hb d_Ar_fill_7 rfl (fun h => absurd h (by decide)) (fun _ => ?_)
  refine lv_aload_n hx hb d_Ar_fill_10 rfl (lv_at hl 2 rfl) ?_
  refine lv_iload_n hx hb d_Ar_fill_11 rfl (lv_at hl 0 rfl) ?_
  refine lv_iload_n hx hb d_Ar_fill_12 rfl (lv_at hl 3 rfl) ?_
  refine va_iast hx hb hK hP hD hS 0 0 rfl rfl (kq_in (by decide)) d_Ar_fill_13 (fun H locs hP hD hS => ?_)
  have hP : va_P (dC, dI) vwCl [(bf, .inl (cI, 32, .inl (upd (upd (upd (upd (v_fill_3 ff ia) 21 ia) 22 ia) 23 ia) 24 ia)))] H := hP
  have hD : va_D A [(bf, .inl (cI, 32, .inl (upd (upd (upd (upd (v_fill_3 ff ia) 21 ia) 22 ia) 23 ia) 24 ia)))] := hD
  refine lv_iinc (k := 0) (v := 25) (lv' := [(2, .int 25), (3, .int 32), (0, .ref bf), (1, .int ia)]) hx hb d_Ar_fill_14 hl rfl (by decide) (by decide) rfl (fun ls hl => ?_)
  refine lv_goto (tgt := 5) hx hb d_Ar_fill_17 rfl ?_
  refine lv_iload_n hx hb d_Ar_fill_5 rfl (lv_at hl 0 rfl) ?_
  refine lv_iload_n hx hb d_Ar_fill_6 rfl (lv_at hl 1 rfl) ?_
  refine lv_icmp_ge (tgt := 20) hx hb d_Ar_fill_7 rfl (fun h => absurd h (by decide)) (fun _ => ?_)
  refine lv_aload_n hx hb d_Ar_fill_10 rfl (lv_at hl 2 rfl) ?_
  refine lv_iload_n hx hb d_Ar_fill_11 rfl (lv_at hl 0 rfl) ?_
  refine lv_iload_n hx hb d_Ar_fill_12 rfl (lv_at hl 3 rfl) ?_
  refine va_iast hx hb hK hP hD hS 0 0 rfl rfl (kq_in (by decide)) d_Ar_fill_13 (fun H locs hP hD hS => ?_)
  have hP : va_P (dC, dI) vwCl [(bf, .inl (cI, 32, .inl (v_fill_4 ff ia)))] H := hP
  have hD : va_D A [(bf, .inl (cI, 32, .inl (v_fill_4 ff ia)))] := hD
  refine lv_iinc (k := 0) (v := 26) (lv' := [(2, .int 26), (3, .int 32), (0, .ref bf), (1, .int ia)]) hx hb d_Ar_fill_14 hl rfl (by decide) (by decide) rfl (fun ls hl => ?_)
  refine lv_goto (tgt := 5) hx hb d_Ar_fill_17 rfl ?_
  refine lv_iload_n hx hb d_Ar_fill_5 rfl (lv_at hl 0 rfl) ?_
  refine lv_iload_n hx hb d_Ar_fill_6 rfl (lv_at hl 1 rfl) ?_
  refine lv_icmp_ge (tgt := 20) hx hb d_Ar_fill_7 rfl (fun h => absurd h (by decide)) (fun _ => ?_)
  refine lv_aload_n hx hb d_Ar_fill_10 rfl (lv_at hl 2 rfl) ?_
  refine lv_iload_n hx hb d_Ar_fill_11 rfl (lv_at hl 0 rfl) ?_
  refine lv_iload_n hx hb d_Ar_fill_12 rfl (lv_at hl 3 rfl) ?_
  refine va_iast hx hb hK hP hD hS 0 0 rfl rfl (kq_in (by decide)) d_Ar_fill_13 (fun H locs hP hD hS => ?_)
  have hP : va_P (dC, dI) vwCl [(bf, .inl (cI, 32, .inl (upd (v_fill_4 ff ia) 26 ia)))] H := hP
  have hD : va_D A [(bf, .inl (cI, 32, .inl (upd (v_fill_4 ff ia) 26 ia)))] := hD
  refine lv_iinc (k := 0) (v := 27) (lv' := [(2, .int 27), (3, .int 32), (0, .ref bf), (1, .int ia)]) hx hb d_Ar_fill_14 hl rfl (by decide) (by decide) rfl (fun ls hl => ?_)
  refine lv_goto (tgt := 5) hx hb d_Ar_fill_17 rfl ?_
  refine lv_iload_n hx hb d_Ar_fill_5 rfl (lv_at hl 0 rfl) ?_
  refine lv_iload_n hx hb d_Ar_fill_6 rfl (lv_at hl 1 rfl) ?_
  refine lv_icmp_ge (tgt := 20) hx hb d_Ar_fill_7 rfl (fun h => absurd h (by decide)) (fun _ => ?_)
  refine lv_aload_n hx hb d_Ar_fill_10 rfl (lv_at hl 2 rfl) ?_
  refine lv_iload_n hx hb d_Ar_fill_11 rfl (lv_at hl 0 rfl) ?_
  refine lv_iload_n hx hb d_Ar_fill_12 rfl (lv_at hl 3 rfl) ?_
  refine va_iast hx hb hK hP hD hS 0 0 rfl rfl (kq_in (by decide)) d_Ar_fill_13 (fun H locs hP hD hS => ?_)
  have hP : va_P (dC, dI) vwCl [(bf, .inl (cI, 32, .inl (upd (upd (v_fill_4 ff ia) 26 ia) 27 ia)))] H := hP
  have hD : va_D A [(bf, .inl (cI, 32, .inl (upd (upd (v_fill_4 ff ia) 26 ia) 27 ia)))] := hD
  refine lv_iinc (k := 0) (v := 28) (lv' := [(2, .int 28), (3, .int 32), (0, .ref bf), (1, .int ia)]) hx hb d_Ar_fill_14 hl rfl (by decide) (by decide) rfl (fun ls hl => ?_)
  refine lv_goto (tgt := 5) hx hb d_Ar_fill_17 rfl ?_
  refine lv_iload_n hx hb d_Ar_fill_5 rfl (lv_at hl 0 rfl) ?_
  refine lv_iload_n hx hb d_Ar_fill_6 rfl (lv_at hl 1 rfl) ?_
  refine lv_icmp_ge (tgt := 20) hx hb d_Ar_fill_7 rfl (fun h => absurd h (by decide)) (fun _ => ?_)
  refine lv_aload_n hx hb d_Ar_fill_10 rfl (lv_at hl 2 rfl) ?_
  refine lv_iload_n hx hb d_Ar_fill_11 rfl (lv_at hl 0 rfl) ?_
  refine lv_iload_n hx hb d_Ar_fill_12 rfl (lv_at hl 3 rfl) ?_
  refine va_iast hx hb hK hP hD hS 0 0 rfl rfl (kq_in (by decide)) d_Ar_fill_13 (fun H locs hP hD hS => ?_)
  have hP : va_P (dC, dI) vwCl [(bf, .inl (cI, 32, .inl (upd (upd (upd (v_fill_4 ff ia) 26 ia) 27 ia) 28 ia)))] H := hP
  have hD : va_D A [(bf, .inl (cI, 32, .inl (upd (upd (upd (v_fill_4 ff ia) 26 ia) 27 ia) 28 ia)))] := hD
  refine lv_iinc (k := 0) (v := 29) (lv' := [(2, .int 29), (3, .int 32), (0, .ref bf), (1, .int ia)]) hx hb d_Ar_fill_14 hl rfl (by decide) (by decide) rfl (fun ls hl => ?_)
  refine lv_goto (tgt := 5) hx hb d_Ar_fill_17 rfl ?_
  refine lv_iload_n hx hb d_Ar_fill_5 rfl (lv_at hl 0 rfl) ?_
  refine lv_iload_n hx hb d_Ar_fill_6 rfl (lv_at hl 1 rfl) ?_
  refine lv_icmp_ge (tgt := 20) hx hb d_Ar_fill_7 rfl (fun h => absurd h (by decide)) (fun _ => ?_)
  refine lv_aload_n hx hb d_Ar_fill_10 rfl (lv_at hl 2 rfl) ?_
  refine lv_iload_n hx hb d_Ar_fill_11 rfl (lv_at hl 0 rfl) ?_
  refine lv_iload_n hx hb d_Ar_fill_12 rfl (lv_at hl 3 rfl) ?_
  refine va_iast hx hb hK hP hD hS 0 0 rfl rfl (kq_in (by decide)) d_Ar_fill_13 (fun H locs hP hD hS => ?_)
  have hP : va_P (dC, dI) vwCl [(bf, .inl (cI, 32, .inl (upd (upd (upd (upd (v_fill_4 ff ia) 26 ia) 27 ia) 28 ia) 29 ia)))] H := hP
  have hD : va_D A [(bf, .inl (cI, 32, .inl (upd (upd (upd (upd (v_fill_4 ff ia) 26 ia) 27 ia) 28 ia) 29 ia)))] := hD
  refine lv_iinc (k := 0) (v := 30) (lv' := [(2, .int 30), (3, .int 32), (0, .ref bf), (1, .int ia)]) hx hb d_Ar_fill_14 hl rfl (by decide) (by decide) rfl (fun ls hl => ?_)
  refine lv_goto (tgt := 5) hx hb d_Ar_fill_17 rfl ?_
  refine lv_iload_n hx hb d_Ar_fill_5 rfl (lv_at hl 0 rfl) ?_
  refine lv_iload_n hx hb d_Ar_fill_6 rfl (lv_at hl 1 rfl) ?_
  refine lv_icmp_ge (tgt := 20) hx hb d_Ar_fill_7 rfl (fun h => absurd h (by decide)) (fun _ => ?_)
  refine lv_aload_n hx hb d_Ar_fill_10 rfl (lv_at hl 2 rfl) ?_
  refine lv_iload_n hx hb d_Ar_fill_11 rfl (lv_at hl 0 rfl) ?_
  refine lv_iload_n hx hb d_Ar_fill_12 rfl (lv_at hl 3 rfl) ?_
  refine va_iast hx hb hK hP hD hS 0 0 rfl rfl (kq_in (by decide)) d_Ar_fill_13 (fun H locs hP hD hS => ?_)
  have hP : va_P (dC, dI) vwCl [(bf, .inl (cI, 32, .inl (v_fill_5 ff ia)))] H := hP
  have hD : va_D A [(bf, .inl (cI, 32, .inl (v_fill_5 ff ia)))] := hD
  refine lv_iinc (k := 0) (v := 31) (lv' := [(2, .int 31), (3, .int 32), (0, .ref bf), (1, .int ia)]) hx hb d_Ar_fill_14 hl rfl (by decide) (by decide) rfl (fun ls hl => ?_)
  refine lv_goto (tgt := 5) hx hb d_Ar_fill_17 rfl ?_
  refine lv_iload_n hx hb d_Ar_fill_5 rfl (lv_at hl 0 rfl) ?_
  refine lv_iload_n hx hb d_Ar_fill_6 rfl (lv_at hl 1 rfl) ?_
  refine lv_icmp_ge (tgt := 20) hx hb d_Ar_fill_7 rfl (fun h => absurd h (by decide)) (fun _ => ?_)
  refine lv_aload_n hx hb d_Ar_fill_10 rfl (lv_at hl 2 rfl) ?_
  refine lv_iload_n hx hb d_Ar_fill_11 rfl (lv_at hl 0 rfl) ?_
  refine lv_iload_n hx hb d_Ar_fill_12 rfl (lv_at hl 3 rfl) ?_
  refine va_iast hx hb hK hP hD hS 0 0 rfl rfl (kq_in (by decide)) d_Ar_fill_13 (fun H locs hP hD hS => ?_)
  have hP : va_P (dC, dI) vwCl [(bf, .inl (cI, 32, .inl (upd (v_fill_5 ff ia) 31 ia)))] H := hP
  have hD : va_D A [(bf, .inl (cI, 32, .inl (upd (v_fill_5 ff ia) 31 ia)))] := hD
  refine lv_iinc (k := 0) (v := 32) (lv' := [(2, .int 32), (3, .int 32), (0, .ref bf), (1, .int ia)]) hx hb d_Ar_fill_14 hl rfl (by decide) (by decide) rfl (fun ls hl => ?_)
  refine lv_goto (tgt := 5) hx hb d_Ar_fill_17 rfl ?_
  refine lv_iload_n hx hb d_Ar_fill_5 rfl (lv_at hl 0 rfl) ?_
  refine lv_iload_n hx hb d_Ar_fill_6 rfl (lv_at hl 1 rfl) ?_
  refine lv_icmp_ge (tgt := 20) hx hb d_Ar_fill_7 rfl (fun _ => ?_) (fun h => absurd h (by decide))
  have hP9 := hP.sub (ws' := [(bf, .inl (cI, 32, .inl (upd (v_fill_5 ff ia) 31 ia)))]) [0] rfl
  have hD9 := hD.sub (ws' := [(bf, .inl (cI, 32, .inl (upd (v_fill_5 ff ia) 31 ia)))]) [0] (by decide) rfl
  have E0 : o_fill_ff ff ia = upd (v_fill_5 ff ia) 31 ia := rfl
  exact W.vret hx hb hr (fun t ht hW => ⟨⟨(), rfl, trivial, by rw [ht, E0]; exact hP9, va_K.moved hW.alike hK, by rw [E0]; exact hD9⟩, hS.F ht⟩) hS.2.2 d_Ar_fill_20
set_option maxHeartbeats 4000000 in
set_option maxRecDepth 100000 in
theorem n_niKo (l : Launch) (dC : Nat → ClassId) (dI : Nat → Nat → Nat) (b0 : Nat) (sz : Nat) : Met l y_Ko_init (wz y_Ko_init b_Ko_init 1 none) { frames := 1, cells := 0, slots := 0, locals := 12 } (va_Pc [.ref b0] (fun U => U.heap.size = sz ∧ nw U ∧ va_P (dC, dI) vwCl [(b0, .inr (4, [.int 0, .int 0, .int 0, .int 0, .int 0, .int 0]))] U.heap ∧ va_K (dC, dI) vwCl [] U ∧ va_D (fun _ => True) [(b0, .inr (4, [.int 0, .int 0, .int 0, .int 0, .int 0, .int 0]))])) (va_Qv (fun _ : Unit => True) (fun _ t => va_P (dC, dI) vwCl [(b0, .inr (4, [.int 0, .int 0, .int 0, .int 0, .int 0, .int 0]))] t.heap ∧ va_K (dC, dI) vwCl [] t ∧ va_D (va_A [(b0, .inr (4, [.int 0, .int 0, .int 0, .int 0, .int 0, .int 0]))] sz) [(b0, .inr (4, [.int 0, .int 0, .int 0, .int 0, .int 0, .int 0]))]) (va_A [(b0, .inr (4, [.int 0, .int 0, .int 0, .int 0, .int 0, .int 0]))] sz)) 0 0 (va_A [(b0, .inr (4, [.int 0, .int 0, .int 0, .int 0, .int 0, .int 0]))] sz) := by
  refine Met.ofW (cc := b_Ko_init) (maxL := 1) (ret := none) (by decide) rfl ?_
  intro p e s m args below meth c s₁ B hml hv
  obtain ⟨rfl, hsz, hN, hP, hK, hD0⟩ := hv
  have hx := B.exec
  have hb := B.bytes
  have hr := B.returns
  have hts := fun w h => atoms_spec (ws := (wz y_Ko_init b_Ko_init 1 none)) B.pre w (List.mem_cons_of_mem _ h)
  have hown : s.vm.findClass R_Ko = some m.cls := findClass_of_methodNamed B.named
  have hlocks := B.notSynchronized
  have hin : meth.name = "<init>" := (name_of_methodNamed B.named B.method).1
  subst hsz
  have hD := hD0.self (sz := s.heap.size)
  generalize hAe : va_A [(b0, .inr (4, [.int 0, .int 0, .int 0, .int 0, .int 0, .int 0]))] s.heap.size = A at hD ⊢
  have hA : ∀ q : Nat, s.heap.size ≤ q → A q := fun q h => by rw [← hAe]; exact Or.inr h
  have hS : va_S A s.heap s.heap [] := va_S.rf
  have hl := lv_entry ([.ref b0]) (n := 1) (Nat.le_of_ble_eq_true rfl)
  rw [lg_entry_eq]
  generalize (lg_sl ([.ref b0]) ++ List.replicate (1 - (lg_sl ([.ref b0])).length) Slot.unset).toArray = ls at hl ⊢
  have hl : lv_has ls 1 [(0, .ref b0)] := hl
  refine lv_aload_n hx hb d_Ko_init_0 rfl (lv_at hl 0 rfl) ?_
  refine W.objInit hx hb hown (hts _ wd_136) (hts _ wd_24) (hts _ wd_25) rfl (by rw [hml]; exact hl.1) rfl d_Ko_init_1 (Nat.le_of_ble_eq_true rfl) (Nat.le_of_ble_eq_true rfl) ?_
  refine W.eq (g2 := F0 m 4 ls []) rfl ?_
  refine W.widen (k := 0) (n := 0) (by decide) (by decide) ?_
  exact W.vret hx hb hr (fun t ht hW => ⟨⟨(), rfl, trivial, by rw [ht]; exact hP, va_K.moved hW.alike hK, hD⟩, hS.F ht⟩) hS.2.2 d_Ko_init_4
set_option maxHeartbeats 4000000 in
set_option maxRecDepth 100000 in
theorem n_niCo (l : Launch) (dC : Nat → ClassId) (dI : Nat → Nat → Nat) (b0 : Nat) (sz : Nat) : Met l y_Co_init (wz y_Co_init b_Co_init 1 none) { frames := 1, cells := 0, slots := 0, locals := 12 } (va_Pc [.ref b0] (fun U => U.heap.size = sz ∧ nw U ∧ va_P (dC, dI) vwCl [(b0, .inr (5, [.int 0, .int 0, .int 0, .int 0, .int 0]))] U.heap ∧ va_K (dC, dI) vwCl [] U ∧ va_D (fun _ => True) [(b0, .inr (5, [.int 0, .int 0, .int 0, .int 0, .int 0]))])) (va_Qv (fun _ : Unit => True) (fun _ t => va_P (dC, dI) vwCl [(b0, .inr (5, [.int 0, .int 0, .int 0, .int 0, .int 0]))] t.heap ∧ va_K (dC, dI) vwCl [] t ∧ va_D (va_A [(b0, .inr (5, [.int 0, .int 0, .int 0, .int 0, .int 0]))] sz) [(b0, .inr (5, [.int 0, .int 0, .int 0, .int 0, .int 0]))]) (va_A [(b0, .inr (5, [.int 0, .int 0, .int 0, .int 0, .int 0]))] sz)) 0 0 (va_A [(b0, .inr (5, [.int 0, .int 0, .int 0, .int 0, .int 0]))] sz) := by
  refine Met.ofW (cc := b_Co_init) (maxL := 1) (ret := none) (by decide) rfl ?_
  intro p e s m args below meth c s₁ B hml hv
  obtain ⟨rfl, hsz, hN, hP, hK, hD0⟩ := hv
  have hx := B.exec
  have hb := B.bytes
  have hr := B.returns
  have hts := fun w h => atoms_spec (ws := (wz y_Co_init b_Co_init 1 none)) B.pre w (List.mem_cons_of_mem _ h)
  have hown : s.vm.findClass R_Co = some m.cls := findClass_of_methodNamed B.named
  have hlocks := B.notSynchronized
  have hin : meth.name = "<init>" := (name_of_methodNamed B.named B.method).1
  subst hsz
  have hD := hD0.self (sz := s.heap.size)
  generalize hAe : va_A [(b0, .inr (5, [.int 0, .int 0, .int 0, .int 0, .int 0]))] s.heap.size = A at hD ⊢
  have hA : ∀ q : Nat, s.heap.size ≤ q → A q := fun q h => by rw [← hAe]; exact Or.inr h
  have hS : va_S A s.heap s.heap [] := va_S.rf
  have hl := lv_entry ([.ref b0]) (n := 1) (Nat.le_of_ble_eq_true rfl)
  rw [lg_entry_eq]
  generalize (lg_sl ([.ref b0]) ++ List.replicate (1 - (lg_sl ([.ref b0])).length) Slot.unset).toArray = ls at hl ⊢
  have hl : lv_has ls 1 [(0, .ref b0)] := hl
  refine lv_aload_n hx hb d_Co_init_0 rfl (lv_at hl 0 rfl) ?_
  refine W.objInit hx hb hown (hts _ wd_167) (hts _ wd_24) (hts _ wd_25) rfl (by rw [hml]; exact hl.1) rfl d_Co_init_1 (Nat.le_of_ble_eq_true rfl) (Nat.le_of_ble_eq_true rfl) ?_
  refine W.eq (g2 := F0 m 4 ls []) rfl ?_
  refine W.widen (k := 0) (n := 0) (by decide) (by decide) ?_
  exact W.vret hx hb hr (fun t ht hW => ⟨⟨(), rfl, trivial, by rw [ht]; exact hP, va_K.moved hW.alike hK, hD⟩, hS.F ht⟩) hS.2.2 d_Co_init_4
set_option maxHeartbeats 4000000 in
set_option maxRecDepth 100000 in
theorem n_niOg (l : Launch) (dC : Nat → ClassId) (dI : Nat → Nat → Nat) (b0 : Nat) (sz : Nat) : Met l y_Og_init (wz y_Og_init b_Og_init 1 none) { frames := 1, cells := 0, slots := 0, locals := 12 } (va_Pc [.ref b0] (fun U => U.heap.size = sz ∧ nw U ∧ va_P (dC, dI) vwCl [(b0, .inr (6, [.int 0, .int 0, .int 0, .int 0]))] U.heap ∧ va_K (dC, dI) vwCl [] U ∧ va_D (fun _ => True) [(b0, .inr (6, [.int 0, .int 0, .int 0, .int 0]))])) (va_Qv (fun _ : Unit => True) (fun _ t => va_P (dC, dI) vwCl [(b0, .inr (6, [.int 0, .int 0, .int 0, .int 0]))] t.heap ∧ va_K (dC, dI) vwCl [] t ∧ va_D (va_A [(b0, .inr (6, [.int 0, .int 0, .int 0, .int 0]))] sz) [(b0, .inr (6, [.int 0, .int 0, .int 0, .int 0]))]) (va_A [(b0, .inr (6, [.int 0, .int 0, .int 0, .int 0]))] sz)) 0 0 (va_A [(b0, .inr (6, [.int 0, .int 0, .int 0, .int 0]))] sz) := by
  refine Met.ofW (cc := b_Og_init) (maxL := 1) (ret := none) (by decide) rfl ?_
  intro p e s m args below meth c s₁ B hml hv
  obtain ⟨rfl, hsz, hN, hP, hK, hD0⟩ := hv
  have hx := B.exec
  have hb := B.bytes
  have hr := B.returns
  have hts := fun w h => atoms_spec (ws := (wz y_Og_init b_Og_init 1 none)) B.pre w (List.mem_cons_of_mem _ h)
  have hown : s.vm.findClass R_Og = some m.cls := findClass_of_methodNamed B.named
  have hlocks := B.notSynchronized
  have hin : meth.name = "<init>" := (name_of_methodNamed B.named B.method).1
  subst hsz
  have hD := hD0.self (sz := s.heap.size)
  generalize hAe : va_A [(b0, .inr (6, [.int 0, .int 0, .int 0, .int 0]))] s.heap.size = A at hD ⊢
  have hA : ∀ q : Nat, s.heap.size ≤ q → A q := fun q h => by rw [← hAe]; exact Or.inr h
  have hS : va_S A s.heap s.heap [] := va_S.rf
  have hl := lv_entry ([.ref b0]) (n := 1) (Nat.le_of_ble_eq_true rfl)
  rw [lg_entry_eq]
  generalize (lg_sl ([.ref b0]) ++ List.replicate (1 - (lg_sl ([.ref b0])).length) Slot.unset).toArray = ls at hl ⊢
  have hl : lv_has ls 1 [(0, .ref b0)] := hl
  refine lv_aload_n hx hb d_Og_init_0 rfl (lv_at hl 0 rfl) ?_
  refine W.objInit hx hb hown (hts _ wd_194) (hts _ wd_24) (hts _ wd_25) rfl (by rw [hml]; exact hl.1) rfl d_Og_init_1 (Nat.le_of_ble_eq_true rfl) (Nat.le_of_ble_eq_true rfl) ?_
  refine W.eq (g2 := F0 m 4 ls []) rfl ?_
  refine W.widen (k := 0) (n := 0) (by decide) (by decide) ?_
  exact W.vret hx hb hr (fun t ht hW => ⟨⟨(), rfl, trivial, by rw [ht]; exact hP, va_K.moved hW.alike hK, hD⟩, hS.F ht⟩) hS.2.2 d_Og_init_4
set_option maxHeartbeats 4000000 in
set_option maxRecDepth 100000 in
theorem n_niPt (l : Launch) (dC : Nat → ClassId) (dI : Nat → Nat → Nat) (b0 : Nat) (sz : Nat) : Met l y_Pt_init (wz y_Pt_init b_Pt_init 1 none) { frames := 1, cells := 0, slots := 0, locals := 12 } (va_Pc [.ref b0] (fun U => U.heap.size = sz ∧ nw U ∧ va_P (dC, dI) vwCl [(b0, .inr (2, [.int 0, .int 0, .int 0, .int 0]))] U.heap ∧ va_K (dC, dI) vwCl [] U ∧ va_D (fun _ => True) [(b0, .inr (2, [.int 0, .int 0, .int 0, .int 0]))])) (va_Qv (fun _ : Unit => True) (fun _ t => va_P (dC, dI) vwCl [(b0, .inr (2, [.int 0, .int 0, .int 1, .int 0]))] t.heap ∧ va_K (dC, dI) vwCl [] t ∧ va_D (va_A [(b0, .inr (2, [.int 0, .int 0, .int 0, .int 0]))] sz) [(b0, .inr (2, [.int 0, .int 0, .int 1, .int 0]))]) (va_A [(b0, .inr (2, [.int 0, .int 0, .int 0, .int 0]))] sz)) 0 0 (va_A [(b0, .inr (2, [.int 0, .int 0, .int 0, .int 0]))] sz) := by
  refine Met.ofW (cc := b_Pt_init) (maxL := 1) (ret := none) (by decide) rfl ?_
  intro p e s m args below meth c s₁ B hml hv
  obtain ⟨rfl, hsz, hN, hP, hK, hD0⟩ := hv
  have hx := B.exec
  have hb := B.bytes
  have hr := B.returns
  have hts := fun w h => atoms_spec (ws := (wz y_Pt_init b_Pt_init 1 none)) B.pre w (List.mem_cons_of_mem _ h)
  have hown : s.vm.findClass R_Pt = some m.cls := findClass_of_methodNamed B.named
  have hlocks := B.notSynchronized
  have hin : meth.name = "<init>" := (name_of_methodNamed B.named B.method).1
  subst hsz
  have hD := hD0.self (sz := s.heap.size)
  generalize hAe : va_A [(b0, .inr (2, [.int 0, .int 0, .int 0, .int 0]))] s.heap.size = A at hD ⊢
  have hA : ∀ q : Nat, s.heap.size ≤ q → A q := fun q h => by rw [← hAe]; exact Or.inr h
  have hS : va_S A s.heap s.heap [] := va_S.rf
  have hl := lv_entry ([.ref b0]) (n := 1) (Nat.le_of_ble_eq_true rfl)
  rw [lg_entry_eq]
  generalize (lg_sl ([.ref b0]) ++ List.replicate (1 - (lg_sl ([.ref b0])).length) Slot.unset).toArray = ls at hl ⊢
  have hl : lv_has ls 1 [(0, .ref b0)] := hl
  refine lv_aload_n hx hb d_Pt_init_0 rfl (lv_at hl 0 rfl) ?_
  refine W.objInit hx hb hown (hts _ wd_107) (hts _ wd_24) (hts _ wd_25) rfl (by rw [hml]; exact hl.1) rfl d_Pt_init_1 (Nat.le_of_ble_eq_true rfl) (Nat.le_of_ble_eq_true rfl) ?_
  refine W.eq (g2 := F0 m 4 ls []) rfl ?_
  refine lv_aload_n hx hb d_Pt_init_4 rfl (lv_at hl 0 rfl) ?_
  refine lv_iconst (v := 0) hx hb d_Pt_init_5 (by decide) ?_
  refine va_put (D := (dC, dI)) (ci := 2) (v := .int 0) (ty := .int) (C := R_Pt) (T := T_Pt) (N := 4) hx hb hts uin_Pt t_Pt t_Pt_ok n_Pt hown hK hP hD hS 0 rfl rfl 0 (by decide) (hts _ wd_108) (fun _ h9 => h9) rfl (by decide +kernel) rfl rfl (Nat.le_of_ble_eq_true rfl) d_Pt_init_6 (fun H locs hP hD hS => ?_)
  have hP : va_P (dC, dI) vwCl [(b0, .inr (2, [.int 0, .int 0, .int 0, .int 0]))] H := hP
  have hD : va_D A [(b0, .inr (2, [.int 0, .int 0, .int 0, .int 0]))] := hD
  refine lv_aload_n hx hb d_Pt_init_9 rfl (lv_at hl 0 rfl) ?_
  refine lv_iconst (v := 1) hx hb d_Pt_init_10 (by decide) ?_
  refine va_put (D := (dC, dI)) (ci := 2) (v := .int 1) (ty := .int) (C := R_Pt) (T := T_Pt) (N := 4) hx hb hts uin_Pt t_Pt t_Pt_ok n_Pt hown hK hP hD hS 0 rfl rfl 2 (by decide) (hts _ wd_110) (fun _ h9 => h9) rfl (by decide +kernel) rfl rfl (Nat.le_of_ble_eq_true rfl) d_Pt_init_11 (fun H locs hP hD hS => ?_)
  have hP : va_P (dC, dI) vwCl [(b0, .inr (2, [.int 0, .int 0, .int 1, .int 0]))] H := hP
  have hD : va_D A [(b0, .inr (2, [.int 0, .int 0, .int 1, .int 0]))] := hD
  refine W.widen (k := 0) (n := 0) (by decide) (by decide) ?_
  exact W.vret hx hb hr (fun t ht hW => ⟨⟨(), rfl, trivial, by rw [ht]; exact hP, va_K.moved hW.alike hK, hD⟩, hS.F ht⟩) hS.2.2 d_Pt_init_14
set_option maxHeartbeats 4000000 in
set_option maxRecDepth 100000 in
theorem n_niEv (l : Launch) (dC : Nat → ClassId) (dI : Nat → Nat → Nat) (b0 : Nat) (cI : ClassId) (sz : Nat) : Met l y_Ev_init (wz y_Ev_init b_Ev_init 1 none) { frames := 1, cells := 2, slots := 32, locals := 12 } (va_Pc [.ref b0] (fun U => U.heap.size = sz ∧ nw U ∧ va_P (dC, dI) vwCl [(b0, .inr (7, [.null, .null, .int 0]))] U.heap ∧ va_K (dC, dI) vwCl [(cI, .int)] U ∧ va_D (fun _ => True) [(b0, .inr (7, [.null, .null, .int 0]))])) (va_Qv (fun _ : Unit => True) (fun _ t => ∃ (q1 : Nat) (q2 : Nat), va_P (dC, dI) vwCl [(b0, .inr (7, [.ref q1, .ref q2, .int 0])), (q1, .inl (cI, 16, .inl (fun _ => 0))), (q2, .inl (cI, 16, .inl (fun _ => 0)))] t.heap ∧ va_K (dC, dI) vwCl [(cI, .int)] t ∧ va_D (va_A [(b0, .inr (7, [.null, .null, .int 0]))] sz) [(b0, .inr (7, [.ref q1, .ref q2, .int 0])), (q1, .inl (cI, 16, .inl (fun _ => 0))), (q2, .inl (cI, 16, .inl (fun _ => 0)))]) (va_A [(b0, .inr (7, [.null, .null, .int 0]))] sz)) 2 32 (va_A [(b0, .inr (7, [.null, .null, .int 0]))] sz) := by
  refine Met.ofW (cc := b_Ev_init) (maxL := 1) (ret := none) (by decide) rfl ?_
  intro p e s m args below meth c s₁ B hml hv
  obtain ⟨rfl, hsz, hN, hP, hK, hD0⟩ := hv
  have hx := B.exec
  have hb := B.bytes
  have hr := B.returns
  have hts := fun w h => atoms_spec (ws := (wz y_Ev_init b_Ev_init 1 none)) B.pre w (List.mem_cons_of_mem _ h)
  have hown : s.vm.findClass R_Ev = some m.cls := findClass_of_methodNamed B.named
  have hlocks := B.notSynchronized
  have hin : meth.name = "<init>" := (name_of_methodNamed B.named B.method).1
  subst hsz
  have hD := hD0.self (sz := s.heap.size)
  generalize hAe : va_A [(b0, .inr (7, [.null, .null, .int 0]))] s.heap.size = A at hD ⊢
  have hA : ∀ q : Nat, s.heap.size ≤ q → A q := fun q h => by rw [← hAe]; exact Or.inr h
  have hS : va_S A s.heap s.heap [] := va_S.rf
  have hl := lv_entry ([.ref b0]) (n := 1) (Nat.le_of_ble_eq_true rfl)
  rw [lg_entry_eq]
  generalize (lg_sl ([.ref b0]) ++ List.replicate (1 - (lg_sl ([.ref b0])).length) Slot.unset).toArray = ls at hl ⊢
  have hl : lv_has ls 1 [(0, .ref b0)] := hl
  refine lv_aload_n hx hb d_Ev_init_0 rfl (lv_at hl 0 rfl) ?_
  refine W.objInit hx hb hown (hts _ wd_214) (hts _ wd_24) (hts _ wd_25) rfl (by rw [hml]; exact hl.1) rfl d_Ev_init_1 (Nat.le_of_ble_eq_true rfl) (Nat.le_of_ble_eq_true rfl) ?_
  refine W.eq (g2 := F0 m 4 ls []) rfl ?_
  refine lv_aload_n hx hb d_Ev_init_4 rfl (lv_at hl 0 rfl) ?_
  refine lv_bipush (v := 16) hx hb d_Ev_init_5 (by decide) ?_
  refine kq_newi (N := 16) hx hb (hts _ wd_94) hK hP hD hS hA 0 rfl (by decide) (by decide) (by decide) (Nat.le_of_ble_eq_true rfl) (Nat.le_of_ble_eq_true rfl) d_Ev_init_7 (fun q1 H hP hD hS => ?_)
  have hP : va_P (dC, dI) vwCl [(b0, .inr (7, [.null, .null, .int 0])), (q1, .inl (cI, 16, .inl (fun _ => 0)))] H := hP
  have hD : va_D A [(b0, .inr (7, [.null, .null, .int 0])), (q1, .inl (cI, 16, .inl (fun _ => 0)))] := hD
  refine va_putF (D := (dC, dI)) (ci := 7) (v := .ref q1) (ty := (t_Ev 0)) (C := R_Ev) (T := T_Ev) (N := 3) hx hb hts uin_Ev t_Ev t_Ev_ok n_Ev hown hK hP hD hS 0 rfl rfl 0 (by decide) (hts _ wd_215) (fun _ h9 => h9) rfl hin rfl (by decide +kernel) rfl rfl (Nat.le_of_ble_eq_true rfl) d_Ev_init_9 (fun H locs hP hD hS => ?_)
  have hP : va_P (dC, dI) vwCl [(b0, .inr (7, [.ref q1, .null, .int 0])), (q1, .inl (cI, 16, .inl (fun _ => 0)))] H := hP
  have hD : va_D A [(b0, .inr (7, [.ref q1, .null, .int 0])), (q1, .inl (cI, 16, .inl (fun _ => 0)))] := hD
  refine lv_aload_n hx hb d_Ev_init_12 rfl (lv_at hl 0 rfl) ?_
  refine lv_bipush (v := 16) hx hb d_Ev_init_13 (by decide) ?_
  refine kq_newi (N := 16) hx hb (hts _ wd_94) hK hP hD hS hA 0 rfl (by decide) (by decide) (by decide) (Nat.le_of_ble_eq_true rfl) (Nat.le_of_ble_eq_true rfl) d_Ev_init_15 (fun q2 H hP hD hS => ?_)
  have hP : va_P (dC, dI) vwCl [(b0, .inr (7, [.ref q1, .null, .int 0])), (q1, .inl (cI, 16, .inl (fun _ => 0))), (q2, .inl (cI, 16, .inl (fun _ => 0)))] H := hP
  have hD : va_D A [(b0, .inr (7, [.ref q1, .null, .int 0])), (q1, .inl (cI, 16, .inl (fun _ => 0))), (q2, .inl (cI, 16, .inl (fun _ => 0)))] := hD
  refine va_putF (D := (dC, dI)) (ci := 7) (v := .ref q2) (ty := (t_Ev 1)) (C := R_Ev) (T := T_Ev) (N := 3) hx hb hts uin_Ev t_Ev t_Ev_ok n_Ev hown hK hP hD hS 0 rfl rfl 1 (by decide) (hts _ wd_216) (fun _ h9 => h9) rfl hin rfl (by decide +kernel) rfl rfl (Nat.le_of_ble_eq_true rfl) d_Ev_init_17 (fun H locs hP hD hS => ?_)
  have hP : va_P (dC, dI) vwCl [(b0, .inr (7, [.ref q1, .ref q2, .int 0])), (q1, .inl (cI, 16, .inl (fun _ => 0))), (q2, .inl (cI, 16, .inl (fun _ => 0)))] H := hP
  have hD : va_D A [(b0, .inr (7, [.ref q1, .ref q2, .int 0])), (q1, .inl (cI, 16, .inl (fun _ => 0))), (q2, .inl (cI, 16, .inl (fun _ => 0)))] := hD
  refine W.widen (k := 2) (n := 32) (by decide) (by decide) ?_
  exact W.vret hx hb hr (fun t ht hW => ⟨⟨(), rfl, trivial, q1, q2, by rw [ht]; exact hP, va_K.moved hW.alike hK, hD⟩, hS.F ht⟩) hS.2.2 d_Ev_init_20
noncomputable def v_niLo_0  : Nat → Int32 := o_fill_ff (fun _ => 0) 21474836
set_option maxHeartbeats 4000000 in
set_option maxRecDepth 100000 in
theorem n_niLo (l : Launch) (dC : Nat → ClassId) (dI : Nat → Nat → Nat) (b0 : Nat) (cI : ClassId) (sz : Nat) : Met l y_Lo_init (wz y_Lo_init b_Lo_init 1 none) { frames := 1, cells := 2, slots := 48, locals := 23 } (va_Pc [.ref b0] (fun U => U.heap.size = sz ∧ nw U ∧ va_P (dC, dI) vwCl [(b0, .inr (1, [.null, .null, .int 0, .int 0, .long 0, .long 0, .int 0, .int 0, .int 0, .int 0, .int 0, .int 0]))] U.heap ∧ va_K (dC, dI) vwCl [(cI, .int)] U ∧ va_D (fun _ => True) [(b0, .inr (1, [.null, .null, .int 0, .int 0, .long 0, .long 0, .int 0, .int 0, .int 0, .int 0, .int 0, .int 0]))])) (va_Qv (fun _ : Unit => True) (fun _ t => ∃ (q1 : Nat) (q2 : Nat), va_P (dC, dI) vwCl [(b0, .inr (1, [.ref q1, .ref q2, .int 0, .int 0, .long 0, .long 687194752, .int 0, .int 0, .int 0, .int 0, .int 0, .int (r_meanF 687194752)])), (q1, .inl (cI, 16, .inl (fun _ => 0))), (q2, .inl (cI, 32, .inl v_niLo_0))] t.heap ∧ va_K (dC, dI) vwCl [(cI, .int)] t ∧ va_D (va_A [(b0, .inr (1, [.null, .null, .int 0, .int 0, .long 0, .long 0, .int 0, .int 0, .int 0, .int 0, .int 0, .int 0]))] sz) [(b0, .inr (1, [.ref q1, .ref q2, .int 0, .int 0, .long 0, .long 687194752, .int 0, .int 0, .int 0, .int 0, .int 0, .int (r_meanF 687194752)])), (q1, .inl (cI, 16, .inl (fun _ => 0))), (q2, .inl (cI, 32, .inl v_niLo_0))]) (va_A [(b0, .inr (1, [.null, .null, .int 0, .int 0, .long 0, .long 0, .int 0, .int 0, .int 0, .int 0, .int 0, .int 0]))] sz)) 2 48 (va_A [(b0, .inr (1, [.null, .null, .int 0, .int 0, .long 0, .long 0, .int 0, .int 0, .int 0, .int 0, .int 0, .int 0]))] sz) := by
  refine Met.ofW (cc := b_Lo_init) (maxL := 1) (ret := none) (by decide) rfl ?_
  intro p e s m args below meth c s₁ B hml hv
  obtain ⟨rfl, hsz, hN, hP, hK, hD0⟩ := hv
  have hx := B.exec
  have hb := B.bytes
  have hr := B.returns
  have hts := fun w h => atoms_spec (ws := (wz y_Lo_init b_Lo_init 1 none)) B.pre w (List.mem_cons_of_mem _ h)
  have hown : s.vm.findClass R_Lo = some m.cls := findClass_of_methodNamed B.named
  have hlocks := B.notSynchronized
  have hin : meth.name = "<init>" := (name_of_methodNamed B.named B.method).1
  subst hsz
  have hD := hD0.self (sz := s.heap.size)
  generalize hAe : va_A [(b0, .inr (1, [.null, .null, .int 0, .int 0, .long 0, .long 0, .int 0, .int 0, .int 0, .int 0, .int 0, .int 0]))] s.heap.size = A at hD ⊢
  have hA : ∀ q : Nat, s.heap.size ≤ q → A q := fun q h => by rw [← hAe]; exact Or.inr h
  have hS : va_S A s.heap s.heap [] := va_S.rf
  have hl := lv_entry ([.ref b0]) (n := 1) (Nat.le_of_ble_eq_true rfl)
  rw [lg_entry_eq]
  generalize (lg_sl ([.ref b0]) ++ List.replicate (1 - (lg_sl ([.ref b0])).length) Slot.unset).toArray = ls at hl ⊢
  have hl : lv_has ls 1 [(0, .ref b0)] := hl
  refine lv_aload_n hx hb d_Lo_init_0 rfl (lv_at hl 0 rfl) ?_
  refine W.objInit hx hb hown (hts _ wd_40) (hts _ wd_24) (hts _ wd_25) rfl (by rw [hml]; exact hl.1) rfl d_Lo_init_1 (Nat.le_of_ble_eq_true rfl) (Nat.le_of_ble_eq_true rfl) ?_
  refine W.eq (g2 := F0 m 4 ls []) rfl ?_
  refine lv_aload_n hx hb d_Lo_init_4 rfl (lv_at hl 0 rfl) ?_
  refine lv_bipush (v := 16) hx hb d_Lo_init_5 (by decide) ?_
  refine kq_newi (N := 16) hx hb (hts _ wd_94) hK hP hD hS hA 0 rfl (by decide) (by decide) (by decide) (Nat.le_of_ble_eq_true rfl) (Nat.le_of_ble_eq_true rfl) d_Lo_init_7 (fun q1 H hP hD hS => ?_)
  have hP : va_P (dC, dI) vwCl [(b0, .inr (1, [.null, .null, .int 0, .int 0, .long 0, .long 0, .int 0, .int 0, .int 0, .int 0, .int 0, .int 0])), (q1, .inl (cI, 16, .inl (fun _ => 0)))] H := hP
  have hD : va_D A [(b0, .inr (1, [.null, .null, .int 0, .int 0, .long 0, .long 0, .int 0, .int 0, .int 0, .int 0, .int 0, .int 0])), (q1, .inl (cI, 16, .inl (fun _ => 0)))] := hD
  refine va_putF (D := (dC, dI)) (ci := 1) (v := .ref q1) (ty := (t_Lo 0)) (C := R_Lo) (T := T_Lo) (N := 12) hx hb hts uin_Lo t_Lo t_Lo_ok n_Lo hown hK hP hD hS 0 rfl rfl 0 (by decide) (hts _ wd_51) (fun _ h9 => h9) rfl hin rfl (by decide +kernel) rfl rfl (Nat.le_of_ble_eq_true rfl) d_Lo_init_9 (fun H locs hP hD hS => ?_)
  have hP : va_P (dC, dI) vwCl [(b0, .inr (1, [.ref q1, .null, .int 0, .int 0, .long 0, .long 0, .int 0, .int 0, .int 0, .int 0, .int 0, .int 0])), (q1, .inl (cI, 16, .inl (fun _ => 0)))] H := hP
  have hD : va_D A [(b0, .inr (1, [.ref q1, .null, .int 0, .int 0, .long 0, .long 0, .int 0, .int 0, .int 0, .int 0, .int 0, .int 0])), (q1, .inl (cI, 16, .inl (fun _ => 0)))] := hD
  refine lv_aload_n hx hb d_Lo_init_12 rfl (lv_at hl 0 rfl) ?_
  refine lv_bipush (v := 32) hx hb d_Lo_init_13 (by decide) ?_
  refine kq_newi (N := 32) hx hb (hts _ wd_94) hK hP hD hS hA 0 rfl (by decide) (by decide) (by decide) (Nat.le_of_ble_eq_true rfl) (Nat.le_of_ble_eq_true rfl) d_Lo_init_15 (fun q2 H hP hD hS => ?_)
  have hP : va_P (dC, dI) vwCl [(b0, .inr (1, [.ref q1, .null, .int 0, .int 0, .long 0, .long 0, .int 0, .int 0, .int 0, .int 0, .int 0, .int 0])), (q1, .inl (cI, 16, .inl (fun _ => 0))), (q2, .inl (cI, 32, .inl (fun _ => 0)))] H := hP
  have hD : va_D A [(b0, .inr (1, [.ref q1, .null, .int 0, .int 0, .long 0, .long 0, .int 0, .int 0, .int 0, .int 0, .int 0, .int 0])), (q1, .inl (cI, 16, .inl (fun _ => 0))), (q2, .inl (cI, 32, .inl (fun _ => 0)))] := hD
  refine va_putF (D := (dC, dI)) (ci := 1) (v := .ref q2) (ty := (t_Lo 1)) (C := R_Lo) (T := T_Lo) (N := 12) hx hb hts uin_Lo t_Lo t_Lo_ok n_Lo hown hK hP hD hS 0 rfl rfl 1 (by decide) (hts _ wd_52) (fun _ h9 => h9) rfl hin rfl (by decide +kernel) rfl rfl (Nat.le_of_ble_eq_true rfl) d_Lo_init_17 (fun H locs hP hD hS => ?_)
  have hP : va_P (dC, dI) vwCl [(b0, .inr (1, [.ref q1, .ref q2, .int 0, .int 0, .long 0, .long 0, .int 0, .int 0, .int 0, .int 0, .int 0, .int 0])), (q1, .inl (cI, 16, .inl (fun _ => 0))), (q2, .inl (cI, 32, .inl (fun _ => 0)))] H := hP
  have hD : va_D A [(b0, .inr (1, [.ref q1, .ref q2, .int 0, .int 0, .long 0, .long 0, .int 0, .int 0, .int 0, .int 0, .int 0, .int 0])), (q1, .inl (cI, 16, .inl (fun _ => 0))), (q2, .inl (cI, 32, .inl (fun _ => 0)))] := hD
  refine lv_aload_n hx hb d_Lo_init_20 rfl (lv_at hl 0 rfl) ?_
  refine va_get (D := (dC, dI)) (ci := 1) (v := .ref q2) (C := R_Lo) (T := T_Lo) (N := 12) hx hb hts uin_Lo hown hK hP 0 rfl rfl 1 (by decide) (hts _ wd_52) (fun _ h9 => h9) rfl d_Lo_init_21 ?_
  refine lv_ldc (v := 21474836) hx hb hown (hts _ wd_41) d_Lo_init_24 ?_
  refine kq_Mv (wr := [(b0, .inr (1, [.ref q1, .ref q2, .int 0, .int 0, .long 0, .long 0, .int 0, .int 0, .int 0, .int 0, .int 0, .int 0])), (q1, .inl (cI, 16, .inl (fun _ => 0)))]) (w1 := [(q2, .inl (cI, 32, .inl v_niLo_0))]) (va_runS (As := [.ref q2, .int 21474836]) (rest := []) ⟨hx, hb, hml, hown, hts⟩ (c_fill l dC dI q2 cI (fun _ => 0) 21474836 H.size) (kw_S (n := 2) hts wd_42 wd_43 wd_3 wd_44 rfl rfl (by decide +kernel) ⟨Nat.le_of_ble_eq_true rfl, Nat.le_of_ble_eq_true rfl⟩) (kq_preMS hN (hP.sub (ws' := [(q2, .inl (cI, 32, .inl (fun _ => 0)))]) [2] rfl) (hK.sub (tys' := [(cI, .int)]) [0] rfl) (hD.sub (ws' := [(q2, .inl (cI, 32, .inl (fun _ => 0)))]) [2] (by decide) rfl)) rfl rfl hl.1 rfl (lv_room (Nat.le_of_ble_eq_true rfl)) d_Lo_init_26 ⟨Nat.le_of_ble_eq_true rfl, Nat.le_of_ble_eq_true rfl⟩) hS hA hP hD [2] [0, 1] rfl rfl (by decide) (by decide) (fun H locs hP _ hD hS => ?_)
  have hP : va_P (dC, dI) vwCl [(b0, .inr (1, [.ref q1, .ref q2, .int 0, .int 0, .long 0, .long 0, .int 0, .int 0, .int 0, .int 0, .int 0, .int 0])), (q1, .inl (cI, 16, .inl (fun _ => 0))), (q2, .inl (cI, 32, .inl v_niLo_0))] H := hP
  have hD : va_D A [(b0, .inr (1, [.ref q1, .ref q2, .int 0, .int 0, .long 0, .long 0, .int 0, .int 0, .int 0, .int 0, .int 0, .int 0])), (q1, .inl (cI, 16, .inl (fun _ => 0))), (q2, .inl (cI, 32, .inl v_niLo_0))] := hD
  refine lv_aload_n hx hb d_Lo_init_29 rfl (lv_at hl 0 rfl) ?_
  refine lv_ldc2 (v := 687194752) hx hb hown (hts _ wd_45) d_Lo_init_30 ?_
  refine va_put (D := (dC, dI)) (ci := 1) (v := .long 687194752) (ty := .long) (C := R_Lo) (T := T_Lo) (N := 12) hx hb hts uin_Lo t_Lo t_Lo_ok n_Lo hown hK hP hD hS 0 rfl rfl 5 (by decide) (hts _ wd_56) (fun _ h9 => h9) rfl (by decide +kernel) rfl rfl (Nat.le_of_ble_eq_true rfl) d_Lo_init_33 (fun H locs hP hD hS => ?_)
  have hP : va_P (dC, dI) vwCl [(b0, .inr (1, [.ref q1, .ref q2, .int 0, .int 0, .long 0, .long 687194752, .int 0, .int 0, .int 0, .int 0, .int 0, .int 0])), (q1, .inl (cI, 16, .inl (fun _ => 0))), (q2, .inl (cI, 32, .inl v_niLo_0))] H := hP
  have hD : va_D A [(b0, .inr (1, [.ref q1, .ref q2, .int 0, .int 0, .long 0, .long 687194752, .int 0, .int 0, .int 0, .int 0, .int 0, .int 0])), (q1, .inl (cI, 16, .inl (fun _ => 0))), (q2, .inl (cI, 32, .inl v_niLo_0))] := hD
  refine lv_aload_n hx hb d_Lo_init_36 rfl (lv_at hl 0 rfl) ?_
  refine lv_aload_n hx hb d_Lo_init_37 rfl (lv_at hl 0 rfl) ?_
  refine va_get (D := (dC, dI)) (ci := 1) (v := .long 687194752) (C := R_Lo) (T := T_Lo) (N := 12) hx hb hts uin_Lo hown hK hP 0 rfl rfl 5 (by decide) (hts _ wd_56) (fun _ h9 => h9) rfl d_Lo_init_38 ?_
  refine kq_R (r := .int (r_meanF 687194752)) (va_runS (As := [.long 687194752]) (rest := [.ref b0]) ⟨hx, hb, hml, hown, hts⟩ (c_meanF l dC dI 687194752) (kw_S (n := 1) hts wd_46 wd_47 wd_2 wd_48 rfl rfl (by decide +kernel) ⟨Nat.le_of_ble_eq_true rfl, Nat.le_of_ble_eq_true rfl⟩) (kq_preS hN (hP.sub (ws' := []) [] rfl) (hK.sub (tys' := []) [] rfl)) rfl rfl hl.1 rfl (lv_room (Nat.le_of_ble_eq_true rfl)) d_Lo_init_41 ⟨Nat.le_of_ble_eq_true rfl, Nat.le_of_ble_eq_true rfl⟩) ?_
  refine va_put (D := (dC, dI)) (ci := 1) (v := .int (r_meanF 687194752)) (ty := .int) (C := R_Lo) (T := T_Lo) (N := 12) hx hb hts uin_Lo t_Lo t_Lo_ok n_Lo hown hK hP hD hS 0 rfl rfl 11 (by decide) (hts _ wd_67) (fun _ h9 => h9) rfl (by decide +kernel) rfl rfl (Nat.le_of_ble_eq_true rfl) d_Lo_init_44 (fun H locs hP hD hS => ?_)
  have hP : va_P (dC, dI) vwCl [(b0, .inr (1, [.ref q1, .ref q2, .int 0, .int 0, .long 0, .long 687194752, .int 0, .int 0, .int 0, .int 0, .int 0, .int (r_meanF 687194752)])), (q1, .inl (cI, 16, .inl (fun _ => 0))), (q2, .inl (cI, 32, .inl v_niLo_0))] H := hP
  have hD : va_D A [(b0, .inr (1, [.ref q1, .ref q2, .int 0, .int 0, .long 0, .long 687194752, .int 0, .int 0, .int 0, .int 0, .int 0, .int (r_meanF 687194752)])), (q1, .inl (cI, 16, .inl (fun _ => 0))), (q2, .inl (cI, 32, .inl v_niLo_0))] := hD
  refine W.widen (k := 2) (n := 48) (by decide) (by decide) ?_
  exact W.vret hx hb hr (fun t ht hW => ⟨⟨(), rfl, trivial, q1, q2, by rw [ht]; exact hP, va_K.moved hW.alike hK, hD⟩, hS.F ht⟩) hS.2.2 d_Lo_init_47
set_option maxHeartbeats 4000000 in
set_option maxRecDepth 100000 in
theorem n_niPr (l : Launch) (dC : Nat → ClassId) (dI : Nat → Nat → Nat) (b0 : Nat) (cP : ClassId) (sz : Nat) : Met l y_Pr_init (wz y_Pr_init b_Pr_init 2 none) { frames := 2, cells := 12, slots := 50, locals := 32 } (va_Pc [.ref b0] (fun U => U.heap.size = sz ∧ nw U ∧ va_P (dC, dI) vwCl [(b0, .inr (3, [.null, .null]))] U.heap ∧ va_K (dC, dI) vwCl [(cP, (.object "GridConverter$Point"))] U ∧ va_D (fun _ => True) [(b0, .inr (3, [.null, .null]))] ∧ va_AO "GridConverter$Point" U)) (va_Qv (fun _ : Unit => True) (fun _ t => ∃ (bc : Nat) (bs : Nat) (ad : Nat → Nat) (ae : Nat → Nat), va_P (dC, dI) vwCl [(b0, .inr (3, [.ref bc, .ref bs])), (bc, .inl (cP, 6, .inr (.inr (.inr (.inr (fun j => some (ad j))))))), (bs, .inl (cP, 4, .inr (.inr (.inr (.inr (fun j => some (ae j))))))), (ad 0, .inr (2, [.int 0, .int 0, .int 1, .int 0])), (ad 1, .inr (2, [.int 0, .int 0, .int 1, .int 0])), (ad 2, .inr (2, [.int 0, .int 0, .int 1, .int 0])), (ad 3, .inr (2, [.int 0, .int 0, .int 1, .int 0])), (ad 4, .inr (2, [.int 0, .int 0, .int 1, .int 0])), (ad 5, .inr (2, [.int 0, .int 0, .int 1, .int 0])), (ae 0, .inr (2, [.int 0, .int 0, .int 1, .int 0])), (ae 1, .inr (2, [.int 0, .int 0, .int 1, .int 0])), (ae 2, .inr (2, [.int 0, .int 0, .int 1, .int 0])), (ae 3, .inr (2, [.int 0, .int 0, .int 1, .int 0]))] t.heap ∧ va_K (dC, dI) vwCl [(cP, (.object "GridConverter$Point"))] t ∧ va_D (va_A [(b0, .inr (3, [.null, .null]))] sz) [(b0, .inr (3, [.ref bc, .ref bs])), (bc, .inl (cP, 6, .inr (.inr (.inr (.inr (fun j => some (ad j))))))), (bs, .inl (cP, 4, .inr (.inr (.inr (.inr (fun j => some (ae j))))))), (ad 0, .inr (2, [.int 0, .int 0, .int 1, .int 0])), (ad 1, .inr (2, [.int 0, .int 0, .int 1, .int 0])), (ad 2, .inr (2, [.int 0, .int 0, .int 1, .int 0])), (ad 3, .inr (2, [.int 0, .int 0, .int 1, .int 0])), (ad 4, .inr (2, [.int 0, .int 0, .int 1, .int 0])), (ad 5, .inr (2, [.int 0, .int 0, .int 1, .int 0])), (ae 0, .inr (2, [.int 0, .int 0, .int 1, .int 0])), (ae 1, .inr (2, [.int 0, .int 0, .int 1, .int 0])), (ae 2, .inr (2, [.int 0, .int 0, .int 1, .int 0])), (ae 3, .inr (2, [.int 0, .int 0, .int 1, .int 0]))]) (va_A [(b0, .inr (3, [.null, .null]))] sz)) 12 50 (va_A [(b0, .inr (3, [.null, .null]))] sz) := by
  refine Met.ofW (cc := b_Pr_init) (maxL := 2) (ret := none) (by decide) rfl ?_
  intro p e s m args below meth c s₁ B hml hv
  obtain ⟨rfl, hsz, hN, hP, hK, hD0, hO⟩ := hv
  have hx := B.exec
  have hb := B.bytes
  have hr := B.returns
  have hts := fun w h => atoms_spec (ws := (wz y_Pr_init b_Pr_init 2 none)) B.pre w (List.mem_cons_of_mem _ h)
  have hown : s.vm.findClass R_Pr = some m.cls := findClass_of_methodNamed B.named
  have hlocks := B.notSynchronized
  have hin : meth.name = "<init>" := (name_of_methodNamed B.named B.method).1
  subst hsz
  have hD := hD0.self (sz := s.heap.size)
  generalize hAe : va_A [(b0, .inr (3, [.null, .null]))] s.heap.size = A at hD ⊢
  have hA : ∀ q : Nat, s.heap.size ≤ q → A q := fun q h => by rw [← hAe]; exact Or.inr h
  have hS : va_S A s.heap s.heap [] := va_S.rf
  have hl := lv_entry ([.ref b0]) (n := 2) (Nat.le_of_ble_eq_true rfl)
  rw [lg_entry_eq]
  generalize (lg_sl ([.ref b0]) ++ List.replicate (2 - (lg_sl ([.ref b0])).length) Slot.unset).toArray = ls at hl ⊢
  have hl : lv_has ls 2 [(0, .ref b0)] := hl
  refine lv_aload_n hx hb d_Pr_init_0 rfl (lv_at hl 0 rfl) ?_
  refine W.objInit hx hb hown (hts _ wd_100) (hts _ wd_24) (hts _ wd_25) rfl (by rw [hml]; exact hl.1) rfl d_Pr_init_1 (Nat.le_of_ble_eq_true rfl) (Nat.le_of_ble_eq_true rfl) ?_
  refine W.eq (g2 := F0 m 4 ls []) rfl ?_
  refine lv_aload_n hx hb d_Pr_init_4 rfl (lv_at hl 0 rfl) ?_
  refine lv_bipush (v := 6) hx hb d_Pr_init_5 (by decide) ?_
  refine kq_newp (N := 6) hx hb hown (hts _ wd_101) hO hK hP hD hS hA 0 rfl (by decide) (by decide) (by decide) (Nat.le_of_ble_eq_true rfl) (Nat.le_of_ble_eq_true rfl) d_Pr_init_7 (fun q1 H hP hD hS => ?_)
  have hP : va_P (dC, dI) vwCl [(b0, .inr (3, [.null, .null])), (q1, .inl (cP, 6, .inr (.inr (.inr (.inr (fun _ => none))))))] H := hP
  have hD : va_D A [(b0, .inr (3, [.null, .null])), (q1, .inl (cP, 6, .inr (.inr (.inr (.inr (fun _ => none))))))] := hD
  refine va_putF (D := (dC, dI)) (ci := 3) (v := .ref q1) (ty := (t_Pr 0)) (C := R_Pr) (T := T_Pr) (N := 2) hx hb hts uin_Pr t_Pr t_Pr_ok n_Pr hown hK hP hD hS 0 rfl rfl 0 (by decide) (hts _ wd_122) (fun _ h9 => h9) rfl hin rfl (by decide +kernel) rfl rfl (Nat.le_of_ble_eq_true rfl) d_Pr_init_10 (fun H locs hP hD hS => ?_)
  have hP : va_P (dC, dI) vwCl [(b0, .inr (3, [.ref q1, .null])), (q1, .inl (cP, 6, .inr (.inr (.inr (.inr (fun _ => none))))))] H := hP
  have hD : va_D A [(b0, .inr (3, [.ref q1, .null])), (q1, .inl (cP, 6, .inr (.inr (.inr (.inr (fun _ => none))))))] := hD
  refine lv_aload_n hx hb d_Pr_init_13 rfl (lv_at hl 0 rfl) ?_
  refine lv_iconst (v := 4) hx hb d_Pr_init_14 (by decide) ?_
  refine kq_newp (N := 4) hx hb hown (hts _ wd_101) hO hK hP hD hS hA 0 rfl (by decide) (by decide) (by decide) (Nat.le_of_ble_eq_true rfl) (Nat.le_of_ble_eq_true rfl) d_Pr_init_15 (fun q2 H hP hD hS => ?_)
  have hP : va_P (dC, dI) vwCl [(b0, .inr (3, [.ref q1, .null])), (q1, .inl (cP, 6, .inr (.inr (.inr (.inr (fun _ => none)))))), (q2, .inl (cP, 4, .inr (.inr (.inr (.inr (fun _ => none))))))] H := hP
  have hD : va_D A [(b0, .inr (3, [.ref q1, .null])), (q1, .inl (cP, 6, .inr (.inr (.inr (.inr (fun _ => none)))))), (q2, .inl (cP, 4, .inr (.inr (.inr (.inr (fun _ => none))))))] := hD
  refine va_putF (D := (dC, dI)) (ci := 3) (v := .ref q2) (ty := (t_Pr 1)) (C := R_Pr) (T := T_Pr) (N := 2) hx hb hts uin_Pr t_Pr t_Pr_ok n_Pr hown hK hP hD hS 0 rfl rfl 1 (by decide) (hts _ wd_124) (fun _ h9 => h9) rfl hin rfl (by decide +kernel) rfl rfl (Nat.le_of_ble_eq_true rfl) d_Pr_init_18 (fun H locs hP hD hS => ?_)
  have hP : va_P (dC, dI) vwCl [(b0, .inr (3, [.ref q1, .ref q2])), (q1, .inl (cP, 6, .inr (.inr (.inr (.inr (fun _ => none)))))), (q2, .inl (cP, 4, .inr (.inr (.inr (.inr (fun _ => none))))))] H := hP
  have hD : va_D A [(b0, .inr (3, [.ref q1, .ref q2])), (q1, .inl (cP, 6, .inr (.inr (.inr (.inr (fun _ => none)))))), (q2, .inl (cP, 4, .inr (.inr (.inr (.inr (fun _ => none))))))] := hD
  refine lv_iconst (v := 0) hx hb d_Pr_init_21 (by decide) ?_
  refine lv_istore_n (lv' := [(1, .int 0), (0, .ref b0)]) hx hb d_Pr_init_22 rfl hl (by decide) rfl (fun ls hl => ?_)
  refine lv_iload_n hx hb d_Pr_init_23 rfl (lv_at hl 0 rfl) ?_
  refine lv_bipush (v := 6) hx hb d_Pr_init_24 (by decide) ?_
  refine lv_icmp_ge (tgt := 48) hx hb d_Pr_init_26 rfl (fun h => absurd h (by decide)) (fun _ => ?_)
  refine lv_aload_n hx hb d_Pr_init_29 rfl (lv_at hl 1 rfl) ?_
  refine va_get (D := (dC, dI)) (ci := 3) (v := .ref q1) (C := R_Pr) (T := T_Pr) (N := 2) hx hb hts uin_Pr hown hK hP 0 rfl rfl 0 (by decide) (hts _ wd_122) (fun _ h9 => h9) rfl d_Pr_init_30 ?_
  refine lv_iload_n hx hb d_Pr_init_33 rfl (lv_at hl 0 rfl) ?_
  refine va_new (ci := 2) (fs := [.int 0, .int 0, .int 0, .int 0]) (C := R_Pt) (T := T_Pt) (N := 4) hx hb hts uin_Pt t_Pt t_Pt_ok hown (hts _ wd_101) (hts _ wd_103) (hts _ wd_5) hK hP hD hS hA rfl (by decide +kernel) (Nat.le_of_ble_eq_true rfl) (Nat.le_of_ble_eq_true rfl) d_Pr_init_34 (fun q3 H hP hD hS => ?_)
  have hP : va_P (dC, dI) vwCl [(b0, .inr (3, [.ref q1, .ref q2])), (q1, .inl (cP, 6, .inr (.inr (.inr (.inr (fun _ => none)))))), (q2, .inl (cP, 4, .inr (.inr (.inr (.inr (fun _ => none)))))), (q3, .inr (2, [.int 0, .int 0, .int 0, .int 0]))] H := hP
  have hD : va_D A [(b0, .inr (3, [.ref q1, .ref q2])), (q1, .inl (cP, 6, .inr (.inr (.inr (.inr (fun _ => none)))))), (q2, .inl (cP, 4, .inr (.inr (.inr (.inr (fun _ => none)))))), (q3, .inr (2, [.int 0, .int 0, .int 0, .int 0]))] := hD
  refine lv_dup hx hb d_Pr_init_37 rfl ?_
  have hFc := va_free (wc := [(q3, .inr (2, [.int 0, .int 0, .int 0, .int 0]))]) hD hS hA [3] rfl
  refine va_callv (va_runIN (As := []) (rest := [.ref q3, .int 0, .ref q1]) ⟨hx, hb, hml, hown, hts⟩ (n_niPt l dC dI q3 H.size) (kw_IN (n := 0) hts hN wd_104 wd_105 wd_5 wd_106 rfl rfl rfl (by decide +kernel) ⟨Nat.le_of_ble_eq_true rfl, Nat.le_of_ble_eq_true rfl⟩) (kq_preMS hN (hP.sub (ws' := [(q3, .inr (2, [.int 0, .int 0, .int 0, .int 0]))]) [3] rfl) (hK.sub (tys' := []) [] rfl) (hD.sub (ws' := [(q3, .inr (2, [.int 0, .int 0, .int 0, .int 0]))]) [3] (by decide) rfl)) rfl rfl hl.1 rfl (lv_room (Nat.le_of_ble_eq_true rfl)) d_Pr_init_38 ⟨Nat.le_of_ble_eq_true rfl, Nat.le_of_ble_eq_true rfl⟩) hS (fun q _ h => hFc q h) hFc (fun u t H locs ht hvm _ hB hz1 hk1 hS => ?_)
  obtain ⟨hP1, hK1, hD1⟩ := hB
  rw [ht] at hP1
  obtain ⟨hP, hD⟩ := va_join (wr := [(b0, .inr (3, [.ref q1, .ref q2])), (q1, .inl (cP, 6, .inr (.inr (.inr (.inr (fun _ => none)))))), (q2, .inl (cP, 4, .inr (.inr (.inr (.inr (fun _ => none))))))]) (w1 := [(q3, .inr (2, [.int 0, .int 0, .int 1, .int 0]))]) hP hD [3] [0, 1, 2] rfl rfl (by decide) (by decide) hk1 hFc hP1 hD1
  have hP : va_P (dC, dI) vwCl [(b0, .inr (3, [.ref q1, .ref q2])), (q1, .inl (cP, 6, .inr (.inr (.inr (.inr (fun _ => none)))))), (q2, .inl (cP, 4, .inr (.inr (.inr (.inr (fun _ => none)))))), (q3, .inr (2, [.int 0, .int 0, .int 1, .int 0]))] H := hP
  have hD : va_D A [(b0, .inr (3, [.ref q1, .ref q2])), (q1, .inl (cP, 6, .inr (.inr (.inr (.inr (fun _ => none)))))), (q2, .inl (cP, 4, .inr (.inr (.inr (.inr (fun _ => none)))))), (q3, .inr (2, [.int 0, .int 0, .int 1, .int 0]))] := hD
  refine va_astq hx hb hK hP hD hS 1 0 3 2 rfl rfl rfl rfl (kq_in (by decide)) d_Pr_init_41 (fun H locs hP hD hS => ?_)
  have hP : va_P (dC, dI) vwCl [(b0, .inr (3, [.ref q1, .ref q2])), (q1, .inl (cP, 6, .inr (.inr (.inr (.inr (va_up (fun _ => none) 0 (some q3))))))), (q2, .inl (cP, 4, .inr (.inr (.inr (.inr (fun _ => none)))))), (q3, .inr (2, [.int 0, .int 0, .int 1, .int 0]))] H := hP
  have hD : va_D A [(b0, .inr (3, [.ref q1, .ref q2])), (q1, .inl (cP, 6, .inr (.inr (.inr (.inr (va_up (fun _ => none) 0 (some q3))))))), (q2, .inl (cP, 4, .inr (.inr (.inr (.inr (fun _ => none)))))), (q3, .inr (2, [.int 0, .int 0, .int 1, .int 0]))] := hD
  refine lv_iinc (k := 0) (v := 1) (lv' := [(1, .int 1), (0, .ref b0)]) hx hb d_Pr_init_42 hl rfl (by decide) (by decide) rfl (fun ls hl => ?_)
  refine lv_goto (tgt := 23) hx hb d_Pr_init_45 rfl ?_
  refine lv_iload_n hx hb d_Pr_init_23 rfl (lv_at hl 0 rfl) ?_
  refine lv_bipush (v := 6) hx hb d_Pr_init_24 (by decide) ?_
  refine lv_icmp_ge (tgt := 48) hx hb d_Pr_init_26 rfl (fun h => absurd h (by decide)) (fun _ => ?_)
  refine lv_aload_n hx hb d_Pr_init_29 rfl (lv_at hl 1 rfl) ?_
  refine va_get (D := (dC, dI)) (ci := 3) (v := .ref q1) (C := R_Pr) (T := T_Pr) (N := 2) hx hb hts uin_Pr hown hK hP 0 rfl rfl 0 (by decide) (hts _ wd_122) (fun _ h9 => h9) rfl d_Pr_init_30 ?_
  refine lv_iload_n hx hb d_Pr_init_33 rfl (lv_at hl 0 rfl) ?_
  refine va_new (ci := 2) (fs := [.int 0, .int 0, .int 0, .int 0]) (C := R_Pt) (T := T_Pt) (N := 4) hx hb hts uin_Pt t_Pt t_Pt_ok hown (hts _ wd_101) (hts _ wd_103) (hts _ wd_5) hK hP hD hS hA rfl (by decide +kernel) (Nat.le_of_ble_eq_true rfl) (Nat.le_of_ble_eq_true rfl) d_Pr_init_34 (fun q4 H hP hD hS => ?_)
  have hP : va_P (dC, dI) vwCl [(b0, .inr (3, [.ref q1, .ref q2])), (q1, .inl (cP, 6, .inr (.inr (.inr (.inr (va_up (fun _ => none) 0 (some q3))))))), (q2, .inl (cP, 4, .inr (.inr (.inr (.inr (fun _ => none)))))), (q3, .inr (2, [.int 0, .int 0, .int 1, .int 0])), (q4, .inr (2, [.int 0, .int 0, .int 0, .int 0]))] H := hP
  have hD : va_D A [(b0, .inr (3, [.ref q1, .ref q2])), (q1, .inl (cP, 6, .inr (.inr (.inr (.inr (va_up (fun _ => none) 0 (some q3))))))), (q2, .inl (cP, 4, .inr (.inr (.inr (.inr (fun _ => none)))))), (q3, .inr (2, [.int 0, .int 0, .int 1, .int 0])), (q4, .inr (2, [.int 0, .int 0, .int 0, .int 0]))] := hD
  refine lv_dup hx hb d_Pr_init_37 rfl ?_
  have hFc := va_free (wc := [(q4, .inr (2, [.int 0, .int 0, .int 0, .int 0]))]) hD hS hA [4] rfl
  refine va_callv (va_runIN (As := []) (rest := [.ref q4, .int 1, .ref q1]) ⟨hx, hb, hml, hown, hts⟩ (n_niPt l dC dI q4 H.size) (kw_IN (n := 0) hts hN wd_104 wd_105 wd_5 wd_106 rfl rfl rfl (by decide +kernel) ⟨Nat.le_of_ble_eq_true rfl, Nat.le_of_ble_eq_true rfl⟩) (kq_preMS hN (hP.sub (ws' := [(q4, .inr (2, [.int 0, .int 0, .int 0, .int 0]))]) [4] rfl) (hK.sub (tys' := []) [] rfl) (hD.sub (ws' := [(q4, .inr (2, [.int 0, .int 0, .int 0, .int 0]))]) [4] (by decide) rfl)) rfl rfl hl.1 rfl (lv_room (Nat.le_of_ble_eq_true rfl)) d_Pr_init_38 ⟨Nat.le_of_ble_eq_true rfl, Nat.le_of_ble_eq_true rfl⟩) hS (fun q _ h => hFc q h) hFc (fun u t H locs ht hvm _ hB hz1 hk1 hS => ?_)
  obtain ⟨hP1, hK1, hD1⟩ := hB
  rw [ht] at hP1
  obtain ⟨hP, hD⟩ := va_join (wr := [(b0, .inr (3, [.ref q1, .ref q2])), (q1, .inl (cP, 6, .inr (.inr (.inr (.inr (va_up (fun _ => none) 0 (some q3))))))), (q2, .inl (cP, 4, .inr (.inr (.inr (.inr (fun _ => none)))))), (q3, .inr (2, [.int 0, .int 0, .int 1, .int 0]))]) (w1 := [(q4, .inr (2, [.int 0, .int 0, .int 1, .int 0]))]) hP hD [4] [0, 1, 2, 3] rfl rfl (by decide) (by decide) hk1 hFc hP1 hD1
  have hP : va_P (dC, dI) vwCl [(b0, .inr (3, [.ref q1, .ref q2])), (q1, .inl (cP, 6, .inr (.inr (.inr (.inr (va_up (fun _ => none) 0 (some q3))))))), (q2, .inl (cP, 4, .inr (.inr (.inr (.inr (fun _ => none)))))), (q3, .inr (2, [.int 0, .int 0, .int 1, .int 0])), (q4, .inr (2, [.int 0, .int 0, .int 1, .int 0]))] H := hP
  have hD : va_D A [(b0, .inr (3, [.ref q1, .ref q2])), (q1, .inl (cP, 6, .inr (.inr (.inr (.inr (va_up (fun _ => none) 0 (some q3))))))), (q2, .inl (cP, 4, .inr (.inr (.inr (.inr (fun _ => none)))))), (q3, .inr (2, [.int 0, .int 0, .int 1, .int 0])), (q4, .inr (2, [.int 0, .int 0, .int 1, .int 0]))] := hD
  refine va_astq hx hb hK hP hD hS 1 0 4 2 rfl rfl rfl rfl (kq_in (by decide)) d_Pr_init_41 (fun H locs hP hD hS => ?_)
  have hP : va_P (dC, dI) vwCl [(b0, .inr (3, [.ref q1, .ref q2])), (q1, .inl (cP, 6, .inr (.inr (.inr (.inr (va_up (va_up (fun _ => none) 0 (some q3)) 1 (some q4))))))), (q2, .inl (cP, 4, .inr (.inr (.inr (.inr (fun _ => none)))))), (q3, .inr (2, [.int 0, .int 0, .int 1, .int 0])), (q4, .inr (2, [.int 0, .int 0, .int 1, .int 0]))] H := hP
  have hD : va_D A [(b0, .inr (3, [.ref q1, .ref q2])), (q1, .inl (cP, 6, .inr (.inr (.inr (.inr (va_up (va_up (fun _ => none) 0 (some q3)) 1 (some q4))))))), (q2, .inl (cP, 4, .inr (.inr (.inr (.inr (fun _ => none)))))), (q3, .inr (2, [.int 0, .int 0, .int 1, .int 0])), (q4, .inr (2, [.int 0, .int 0, .int 1, .int 0]))] := hD
  refine lv_iinc (k := 0) (v := 2) (lv' := [(1, .int 2), (0, .ref b0)]) hx hb d_Pr_init_42 hl rfl (by decide) (by decide) rfl (fun ls hl => ?_)
  refine lv_goto (tgt := 23) hx hb d_Pr_init_45 rfl ?_
  refine lv_iload_n hx hb d_Pr_init_23 rfl (lv_at hl 0 rfl) ?_
  refine lv_bipush (v := 6) hx hb d_Pr_init_24 (by decide) ?_
  refine lv_icmp_ge (tgt := 48) hx hb d_Pr_init_26 rfl (fun h => absurd h (by decide)) (fun _ => ?_)
  refine lv_aload_n hx hb d_Pr_init_29 rfl (lv_at hl 1 rfl) ?_
  refine va_get (D := (dC, dI)) (ci := 3) (v := .ref q1) (C := R_Pr) (T := T_Pr) (N := 2) hx hb hts uin_Pr hown hK hP 0 rfl rfl 0 (by decide) (hts _ wd_122) (fun _ h9 => h9) rfl d_Pr_init_30 ?_
  refine lv_iload_n hx hb d_Pr_init_33 rfl (lv_at hl 0 rfl) ?_
  refine va_new (ci := 2) (fs := [.int 0, .int 0, .int 0, .int 0]) (C := R_Pt) (T := T_Pt) (N := 4) hx hb hts uin_Pt t_Pt t_Pt_ok hown (hts _ wd_101) (hts _ wd_103) (hts _ wd_5) hK hP hD hS hA rfl (by decide +kernel) (Nat.le_of_ble_eq_true rfl) (Nat.le_of_ble_eq_true rfl) d_Pr_init_34 (fun q5 H hP hD hS => ?_)
  have hP : va_P (dC, dI) vwCl [(b0, .inr (3, [.ref q1, .ref q2])), (q1, .inl (cP, 6, .inr (.inr (.inr (.inr (va_up (va_up (fun _ => none) 0 (some q3)) 1 (some q4))))))), (q2, .inl (cP, 4, .inr (.inr (.inr (.inr (fun _ => none)))))), (q3, .inr (2, [.int 0, .int 0, .int 1, .int 0])), (q4, .inr (2, [.int 0, .int 0, .int 1, .int 0])), (q5, .inr (2, [.int 0, .int 0, .int 0, .int 0]))] H := hP
  have hD : va_D A [(b0, .inr (3, [.ref q1, .ref q2])), (q1, .inl (cP, 6, .inr (.inr (.inr (.inr (va_up (va_up (fun _ => none) 0 (some q3)) 1 (some q4))))))), (q2, .inl (cP, 4, .inr (.inr (.inr (.inr (fun _ => none)))))), (q3, .inr (2, [.int 0, .int 0, .int 1, .int 0])), (q4, .inr (2, [.int 0, .int 0, .int 1, .int 0])), (q5, .inr (2, [.int 0, .int 0, .int 0, .int 0]))] := hD
  refine lv_dup hx hb d_Pr_init_37 rfl ?_
  have hFc := va_free (wc := [(q5, .inr (2, [.int 0, .int 0, .int 0, .int 0]))]) hD hS hA [5] rfl
  refine va_callv (va_runIN (As := []) (rest := [.ref q5, .int 2, .ref q1]) ⟨hx, hb, hml, hown, hts⟩ (n_niPt l dC dI q5 H.size) (kw_IN (n := 0) hts hN wd_104 wd_105 wd_5 wd_106 rfl rfl rfl (by decide +kernel) ⟨Nat.le_of_ble_eq_true rfl, Nat.le_of_ble_eq_true rfl⟩) (kq_preMS hN (hP.sub (ws' := [(q5, .inr (2, [.int 0, .int 0, .int 0, .int 0]))]) [5] rfl) (hK.sub (tys' := []) [] rfl) (hD.sub (ws' := [(q5, .inr (2, [.int 0, .int 0, .int 0, .int 0]))]) [5] (by decide) rfl)) rfl rfl hl.1 rfl (lv_room (Nat.le_of_ble_eq_true rfl)) d_Pr_init_38 ⟨Nat.le_of_ble_eq_true rfl, Nat.le_of_ble_eq_true rfl⟩) hS (fun q _ h => hFc q h) hFc (fun u t H locs ht hvm _ hB hz1 hk1 hS => ?_)
  obtain ⟨hP1, hK1, hD1⟩ := hB
  rw [ht] at hP1
  obtain ⟨hP, hD⟩ := va_join (wr := [(b0, .inr (3, [.ref q1, .ref q2])), (q1, .inl (cP, 6, .inr (.inr (.inr (.inr (va_up (va_up (fun _ => none) 0 (some q3)) 1 (some q4))))))), (q2, .inl (cP, 4, .inr (.inr (.inr (.inr (fun _ => none)))))), (q3, .inr (2, [.int 0, .int 0, .int 1, .int 0])), (q4, .inr (2, [.int 0, .int 0, .int 1, .int 0]))]) (w1 := [(q5, .inr (2, [.int 0, .int 0, .int 1, .int 0]))]) hP hD [5] [0, 1, 2, 3, 4] rfl rfl (by decide) (by decide) hk1 hFc hP1 hD1
  have hP : va_P (dC, dI) vwCl [(b0, .inr (3, [.ref q1, .ref q2])), (q1, .inl (cP, 6, .inr (.inr (.inr (.inr (va_up (va_up (fun _ => none) 0 (some q3)) 1 (some q4))))))), (q2, .inl (cP, 4, .inr (.inr (.inr (.inr (fun _ => none)))))), (q3, .inr (2, [.int 0, .int 0, .int 1, .int 0])), (q4, .inr (2, [.int 0, .int 0, .int 1, .int 0])), (q5, .inr (2, [.int 0, .int 0, .int 1, .int 0]))] H := hP
  have hD : va_D A [(b0, .inr (3, [.ref q1, .ref q2])), (q1, .inl (cP, 6, .inr (.inr (.inr (.inr (va_up (va_up (fun _ => none) 0 (some q3)) 1 (some q4))))))), (q2, .inl (cP, 4, .inr (.inr (.inr (.inr (fun _ => none)))))), (q3, .inr (2, [.int 0, .int 0, .int 1, .int 0])), (q4, .inr (2, [.int 0, .int 0, .int 1, .int 0])), (q5, .inr (2, [.int 0, .int 0, .int 1, .int 0]))] := hD
  refine va_astq hx hb hK hP hD hS 1 0 5 2 rfl rfl rfl rfl (kq_in (by decide)) d_Pr_init_41 (fun H locs hP hD hS => ?_)
  have hP : va_P (dC, dI) vwCl [(b0, .inr (3, [.ref q1, .ref q2])), (q1, .inl (cP, 6, .inr (.inr (.inr (.inr (va_up (va_up (va_up (fun _ => none) 0 (some q3)) 1 (some q4)) 2 (some q5))))))), (q2, .inl (cP, 4, .inr (.inr (.inr (.inr (fun _ => none)))))), (q3, .inr (2, [.int 0, .int 0, .int 1, .int 0])), (q4, .inr (2, [.int 0, .int 0, .int 1, .int 0])), (q5, .inr (2, [.int 0, .int 0, .int 1, .int 0]))] H := hP
  have hD : va_D A [(b0, .inr (3, [.ref q1, .ref q2])), (q1, .inl (cP, 6, .inr (.inr (.inr (.inr (va_up (va_up (va_up (fun _ => none) 0 (some q3)) 1 (some q4)) 2 (some q5))))))), (q2, .inl (cP, 4, .inr (.inr (.inr (.inr (fun _ => none)))))), (q3, .inr (2, [.int 0, .int 0, .int 1, .int 0])), (q4, .inr (2, [.int 0, .int 0, .int 1, .int 0])), (q5, .inr (2, [.int 0, .int 0, .int 1, .int 0]))] := hD
  refine lv_iinc (k := 0) (v := 3) (lv' := [(1, .int 3), (0, .ref b0)]) hx hb d_Pr_init_42 hl rfl (by decide) (by decide) rfl (fun ls hl => ?_)
  refine lv_goto (tgt := 23) hx hb d_Pr_init_45 rfl ?_
  refine lv_iload_n hx hb d_Pr_init_23 rfl (lv_at hl 0 rfl) ?_
  refine lv_bipush (v := 6) hx hb d_Pr_init_24 (by decide) ?_
  refine lv_icmp_ge (tgt := 48) hx hb d_Pr_init_26 rfl (fun h => absurd h (by decide)) (fun _ => ?_)
  refine lv_aload_n hx hb d_Pr_init_29 rfl (lv_at hl 1 rfl) ?_
  refine va_get (D := (dC, dI)) (ci := 3) (v := .ref q1) (C := R_Pr) (T := T_Pr) (N := 2) hx hb hts uin_Pr hown hK hP 0 rfl rfl 0 (by decide) (hts _ wd_122) (fun _ h9 => h9) rfl d_Pr_init_30 ?_
  refine lv_iload_n hx hb d_Pr_init_33 rfl (lv_at hl 0 rfl) ?_
  refine va_new (ci := 2) (fs := [.int 0, .int 0, .int 0, .int 0]) (C := R_Pt) (T := T_Pt) (N := 4) hx hb hts uin_Pt t_Pt t_Pt_ok hown (hts _ wd_101) (hts _ wd_103) (hts _ wd_5) hK hP hD hS hA rfl (by decide +kernel) (Nat.le_of_ble_eq_true rfl) (Nat.le_of_ble_eq_true rfl) d_Pr_init_34 (fun q6 H hP hD hS => ?_)
  have hP : va_P (dC, dI) vwCl [(b0, .inr (3, [.ref q1, .ref q2])), (q1, .inl (cP, 6, .inr (.inr (.inr (.inr (va_up (va_up (va_up (fun _ => none) 0 (some q3)) 1 (some q4)) 2 (some q5))))))), (q2, .inl (cP, 4, .inr (.inr (.inr (.inr (fun _ => none)))))), (q3, .inr (2, [.int 0, .int 0, .int 1, .int 0])), (q4, .inr (2, [.int 0, .int 0, .int 1, .int 0])), (q5, .inr (2, [.int 0, .int 0, .int 1, .int 0])), (q6, .inr (2, [.int 0, .int 0, .int 0, .int 0]))] H := hP
  have hD : va_D A [(b0, .inr (3, [.ref q1, .ref q2])), (q1, .inl (cP, 6, .inr (.inr (.inr (.inr (va_up (va_up (va_up (fun _ => none) 0 (some q3)) 1 (some q4)) 2 (some q5))))))), (q2, .inl (cP, 4, .inr (.inr (.inr (.inr (fun _ => none)))))), (q3, .inr (2, [.int 0, .int 0, .int 1, .int 0])), (q4, .inr (2, [.int 0, .int 0, .int 1, .int 0])), (q5, .inr (2, [.int 0, .int 0, .int 1, .int 0])), (q6, .inr (2, [.int 0, .int 0, .int 0, .int 0]))] := hD
  refine lv_dup hx hb d_Pr_init_37 rfl ?_
  have hFc := va_free (wc := [(q6, .inr (2, [.int 0, .int 0, .int 0, .int 0]))]) hD hS hA [6] rfl
  refine va_callv (va_runIN (As := []) (rest := [.ref q6, .int 3, .ref q1]) ⟨hx, hb, hml, hown, hts⟩ (n_niPt l dC dI q6 H.size) (kw_IN (n := 0) hts hN wd_104 wd_105 wd_5 wd_106 rfl rfl rfl (by decide +kernel) ⟨Nat.le_of_ble_eq_true rfl, Nat.le_of_ble_eq_true rfl⟩) (kq_preMS hN (hP.sub (ws' := [(q6, .inr (2, [.int 0, .int 0, .int 0, .int 0]))]) [6] rfl) (hK.sub (tys' := []) [] rfl) (hD.sub (ws' := [(q6, .inr (2, [.int 0, .int 0, .int 0, .int 0]))]) [6] (by decide) rfl)) rfl rfl hl.1 rfl (lv_room (Nat.le_of_ble_eq_true rfl)) d_Pr_init_38 ⟨Nat.le_of_ble_eq_true rfl, Nat.le_of_ble_eq_true rfl⟩) hS (fun q _ h => hFc q h) hFc (fun u t H locs ht hvm _ hB hz1 hk1 hS => ?_)
  obtain ⟨hP1, hK1, hD1⟩ := hB
  rw [ht] at hP1
  obtain ⟨hP, hD⟩ := va_join (wr := [(b0, .inr (3, [.ref q1, .ref q2])), (q1, .inl (cP, 6, .inr (.inr (.inr (.inr (va_up (va_up (va_up (fun _ => none) 0 (some q3)) 1 (some q4)) 2 (some q5))))))), (q2, .inl (cP, 4, .inr (.inr (.inr (.inr (fun _ => none)))))), (q3, .inr (2, [.int 0, .int 0, .int 1, .int 0])), (q4, .inr (2, [.int 0, .int 0, .int 1, .int 0])), (q5, .inr (2, [.int 0, .int 0, .int 1, .int 0]))]) (w1 := [(q6, .inr (2, [.int 0, .int 0, .int 1, .int 0]))]) hP hD [6] [0, 1, 2, 3, 4, 5] rfl rfl (by decide) (by decide) hk1 hFc hP1 hD1
  have hP : va_P (dC, dI) vwCl [(b0, .inr (3, [.ref q1, .ref q2])), (q1, .inl (cP, 6, .inr (.inr (.inr (.inr (va_up (va_up (va_up (fun _ => none) 0 (some q3)) 1 (some q4)) 2 (some q5))))))), (q2, .inl (cP, 4, .inr (.inr (.inr (.inr (fun _ => none)))))), (q3, .inr (2, [.int 0, .int 0, .int 1, .int 0])), (q4, .inr (2, [.int 0, .int 0, .int 1, .int 0])), (q5, .inr (2, [.int 0, .int 0, .int 1, .int 0])), (q6, .inr (2, [.int 0, .int 0, .int 1, .int 0]))] H := hP
  have hD : va_D A [(b0, .inr (3, [.ref q1, .ref q2])), (q1, .inl (cP, 6, .inr (.inr (.inr (.inr (va_up (va_up (va_up (fun _ => none) 0 (some q3)) 1 (some q4)) 2 (some q5))))))), (q2, .inl (cP, 4, .inr (.inr (.inr (.inr (fun _ => none)))))), (q3, .inr (2, [.int 0, .int 0, .int 1, .int 0])), (q4, .inr (2, [.int 0, .int 0, .int 1, .int 0])), (q5, .inr (2, [.int 0, .int 0, .int 1, .int 0])), (q6, .inr (2, [.int 0, .int 0, .int 1, .int 0]))] := hD
  refine va_astq hx hb hK hP hD hS 1 0 6 2 rfl rfl rfl rfl (kq_in (by decide)) d_Pr_init_41 (fun H locs hP hD hS => ?_)
  have hP : va_P (dC, dI) vwCl [(b0, .inr (3, [.ref q1, .ref q2])), (q1, .inl (cP, 6, .inr (.inr (.inr (.inr (va_up (va_up (va_up (va_up (fun _ => none) 0 (some q3)) 1 (some q4)) 2 (some q5)) 3 (some q6))))))), (q2, .inl (cP, 4, .inr (.inr (.inr (.inr (fun _ => none)))))), (q3, .inr (2, [.int 0, .int 0, .int 1, .int 0])), (q4, .inr (2, [.int 0, .int 0, .int 1, .int 0])), (q5, .inr (2, [.int 0, .int 0, .int 1, .int 0])), (q6, .inr (2, [.int 0, .int 0, .int 1, .int 0]))] H := hP
  have hD : va_D A [(b0, .inr (3, [.ref q1, .ref q2])), (q1, .inl (cP, 6, .inr (.inr (.inr (.inr (va_up (va_up (va_up (va_up (fun _ => none) 0 (some q3)) 1 (some q4)) 2 (some q5)) 3 (some q6))))))), (q2, .inl (cP, 4, .inr (.inr (.inr (.inr (fun _ => none)))))), (q3, .inr (2, [.int 0, .int 0, .int 1, .int 0])), (q4, .inr (2, [.int 0, .int 0, .int 1, .int 0])), (q5, .inr (2, [.int 0, .int 0, .int 1, .int 0])), (q6, .inr (2, [.int 0, .int 0, .int 1, .int 0]))] := hD
  refine lv_iinc (k := 0) (v := 4) (lv' := [(1, .int 4), (0, .ref b0)]) hx hb d_Pr_init_42 hl rfl (by decide) (by decide) rfl (fun ls hl => ?_)
  refine lv_goto (tgt := 23) hx hb d_Pr_init_45 rfl ?_
  refine lv_iload_n hx hb d_Pr_init_23 rfl (lv_at hl 0 rfl) ?_
  refine lv_bipush (v := 6) hx hb d_Pr_init_24 (by decide) ?_
  refine lv_icmp_ge (tgt := 48) hx hb d_Pr_init_26 rfl (fun h => absurd h (by decide)) (fun _ => ?_)
  refine lv_aload_n hx hb d_Pr_init_29 rfl (lv_at hl 1 rfl) ?_
  refine va_get (D := (dC, dI)) (ci := 3) (v := .ref q1) (C := R_Pr) (T := T_Pr) (N := 2) hx hb hts uin_Pr hown hK hP 0 rfl rfl 0 (by decide) (hts _ wd_122) (fun _ h9 => h9) rfl d_Pr_init_30 ?_
  refine lv_iload_n hx hb d_Pr_init_33 rfl (lv_at hl 0 rfl) ?_
  refine va_new (ci := 2) (fs := [.int 0, .int 0, .int 0, .int 0]) (C := R_Pt) (T := T_Pt) (N := 4) hx hb hts uin_Pt t_Pt t_Pt_ok hown (hts _ wd_101) (hts _ wd_103) (hts _ wd_5) hK hP hD hS hA rfl (by decide +kernel) (Nat.le_of_ble_eq_true rfl) (Nat.le_of_ble_eq_true rfl) d_Pr_init_34 (fun q7 H hP hD hS => ?_)
  have hP : va_P (dC, dI) vwCl [(b0, .inr (3, [.ref q1, .ref q2])), (q1, .inl (cP, 6, .inr (.inr (.inr (.inr (va_up (va_up (va_up (va_up (fun _ => none) 0 (some q3)) 1 (some q4)) 2 (some q5)) 3 (some q6))))))), (q2, .inl (cP, 4, .inr (.inr (.inr (.inr (fun _ => none)))))), (q3, .inr (2, [.int 0, .int 0, .int 1, .int 0])), (q4, .inr (2, [.int 0, .int 0, .int 1, .int 0])), (q5, .inr (2, [.int 0, .int 0, .int 1, .int 0])), (q6, .inr (2, [.int 0, .int 0, .int 1, .int 0])), (q7, .inr (2, [.int 0, .int 0, .int 0, .int 0]))] H := hP
  have hD : va_D A [(b0, .inr (3, [.ref q1, .ref q2])), (q1, .inl (cP, 6, .inr (.inr (.inr (.inr (va_up (va_up (va_up (va_up (fun _ => none) 0 (some q3)) 1 (some q4)) 2 (some q5)) 3 (some q6))))))), (q2, .inl (cP, 4, .inr (.inr (.inr (.inr (fun _ => none)))))), (q3, .inr (2, [.int 0, .int 0, .int 1, .int 0])), (q4, .inr (2, [.int 0, .int 0, .int 1, .int 0])), (q5, .inr (2, [.int 0, .int 0, .int 1, .int 0])), (q6, .inr (2, [.int 0, .int 0, .int 1, .int 0])), (q7, .inr (2, [.int 0, .int 0, .int 0, .int 0]))] := hD
  refine lv_dup hx hb d_Pr_init_37 rfl ?_
  have hFc := va_free (wc := [(q7, .inr (2, [.int 0, .int 0, .int 0, .int 0]))]) hD hS hA [7] rfl
  refine va_callv (va_runIN (As := []) (rest := [.ref q7, .int 4, .ref q1]) ⟨hx, hb, hml, hown, hts⟩ (n_niPt l dC dI q7 H.size) (kw_IN (n := 0) hts hN wd_104 wd_105 wd_5 wd_106 rfl rfl rfl (by decide +kernel) ⟨Nat.le_of_ble_eq_true rfl, Nat.le_of_ble_eq_true rfl⟩) (kq_preMS hN (hP.sub (ws' := [(q7, .inr (2, [.int 0, .int 0, .int 0, .int 0]))]) [7] rfl) (hK.sub (tys' := []) [] rfl) (hD.sub (ws' := [(q7, .inr (2, [.int 0, .int 0, .int 0, .int 0]))]) [7] (by decide) rfl)) rfl rfl hl.1 rfl (lv_room (Nat.le_of_ble_eq_true rfl)) d_Pr_init_38 ⟨Nat.le_of_ble_eq_true rfl, Nat.le_of_ble_eq_true rfl⟩) hS (fun q _ h => hFc q h) hFc (fun u t H locs ht hvm _ hB hz1 hk1 hS => ?_)
  obtain ⟨hP1, hK1, hD1⟩ := hB
  rw [ht] at hP1
  obtain ⟨hP, hD⟩ := va_join (wr := [(b0, .inr (3, [.ref q1, .ref q2])), (q1, .inl (cP, 6, .inr (.inr (.inr (.inr (va_up (va_up (va_up (va_up (fun _ => none) 0 (some q3)) 1 (some q4)) 2 (some q5)) 3 (some q6))))))), (q2, .inl (cP, 4, .inr (.inr (.inr (.inr (fun _ => none)))))), (q3, .inr (2, [.int 0, .int 0, .int 1, .int 0])), (q4, .inr (2, [.int 0, .int 0, .int 1, .int 0])), (q5, .inr (2, [.int 0, .int 0, .int 1, .int 0])), (q6, .inr (2, [.int 0, .int 0, .int 1, .int 0]))]) (w1 := [(q7, .inr (2, [.int 0, .int 0, .int 1, .int 0]))]) hP hD [7] [0, 1, 2, 3, 4, 5, 6] rfl rfl (by decide) (by decide) hk1 hFc hP1 hD1
  have hP : va_P (dC, dI) vwCl [(b0, .inr (3, [.ref q1, .ref q2])), (q1, .inl (cP, 6, .inr (.inr (.inr (.inr (va_up (va_up (va_up (va_up (fun _ => none) 0 (some q3)) 1 (some q4)) 2 (some q5)) 3 (some q6))))))), (q2, .inl (cP, 4, .inr (.inr (.inr (.inr (fun _ => none)))))), (q3, .inr (2, [.int 0, .int 0, .int 1, .int 0])), (q4, .inr (2, [.int 0, .int 0, .int 1, .int 0])), (q5, .inr (2, [.int 0, .int 0, .int 1, .int 0])), (q6, .inr (2, [.int 0, .int 0, .int 1, .int 0])), (q7, .inr (2, [.int 0, .int 0, .int 1, .int 0]))] H := hP
  have hD : va_D A [(b0, .inr (3, [.ref q1, .ref q2])), (q1, .inl (cP, 6, .inr (.inr (.inr (.inr (va_up (va_up (va_up (va_up (fun _ => none) 0 (some q3)) 1 (some q4)) 2 (some q5)) 3 (some q6))))))), (q2, .inl (cP, 4, .inr (.inr (.inr (.inr (fun _ => none)))))), (q3, .inr (2, [.int 0, .int 0, .int 1, .int 0])), (q4, .inr (2, [.int 0, .int 0, .int 1, .int 0])), (q5, .inr (2, [.int 0, .int 0, .int 1, .int 0])), (q6, .inr (2, [.int 0, .int 0, .int 1, .int 0])), (q7, .inr (2, [.int 0, .int 0, .int 1, .int 0]))] := hD
  refine va_astq hx hb hK hP hD hS 1 0 7 2 rfl rfl rfl rfl (kq_in (by decide)) d_Pr_init_41 (fun H locs hP hD hS => ?_)
  have hP : va_P (dC, dI) vwCl [(b0, .inr (3, [.ref q1, .ref q2])), (q1, .inl (cP, 6, .inr (.inr (.inr (.inr (va_up (va_up (va_up (va_up (va_up (fun _ => none) 0 (some q3)) 1 (some q4)) 2 (some q5)) 3 (some q6)) 4 (some q7))))))), (q2, .inl (cP, 4, .inr (.inr (.inr (.inr (fun _ => none)))))), (q3, .inr (2, [.int 0, .int 0, .int 1, .int 0])), (q4, .inr (2, [.int 0, .int 0, .int 1, .int 0])), (q5, .inr (2, [.int 0, .int 0, .int 1, .int 0])), (q6, .inr (2, [.int 0, .int 0, .int 1, .int 0])), (q7, .inr (2, [.int 0, .int 0, .int 1, .int 0]))] H := hP
  have hD : va_D A [(b0, .inr (3, [.ref q1, .ref q2])), (q1, .inl (cP, 6, .inr (.inr (.inr (.inr (va_up (va_up (va_up (va_up (va_up (fun _ => none) 0 (some q3)) 1 (some q4)) 2 (some q5)) 3 (some q6)) 4 (some q7))))))), (q2, .inl (cP, 4, .inr (.inr (.inr (.inr (fun _ => none)))))), (q3, .inr (2, [.int 0, .int 0, .int 1, .int 0])), (q4, .inr (2, [.int 0, .int 0, .int 1, .int 0])), (q5, .inr (2, [.int 0, .int 0, .int 1, .int 0])), (q6, .inr (2, [.int 0, .int 0, .int 1, .int 0])), (q7, .inr (2, [.int 0, .int 0, .int 1, .int 0]))] := hD
  refine lv_iinc (k := 0) (v := 5) (lv' := [(1, .int 5), (0, .ref b0)]) hx hb d_Pr_init_42 hl rfl (by decide) (by decide) rfl (fun ls hl => ?_)
  refine lv_goto (tgt := 23) hx hb d_Pr_init_45 rfl ?_
  refine lv_iload_n hx hb d_Pr_init_23 rfl (lv_at hl 0 rfl) ?_
  refine lv_bipush (v := 6) hx hb d_Pr_init_24 (by decide) ?_
  refine lv_icmp_ge (tgt := 48) hx hb d_Pr_init_26 rfl (fun h => absurd h (by decide)) (fun _ => ?_)
  refine lv_aload_n hx hb d_Pr_init_29 rfl (lv_at hl 1 rfl) ?_
  refine va_get (D := (dC, dI)) (ci := 3) (v := .ref q1) (C := R_Pr) (T := T_Pr) (N := 2) hx hb hts uin_Pr hown hK hP 0 rfl rfl 0 (by decide) (hts _ wd_122) (fun _ h9 => h9) rfl d_Pr_init_30 ?_
  refine lv_iload_n hx hb d_Pr_init_33 rfl (lv_at hl 0 rfl) ?_
  refine va_new (ci := 2) (fs := [.int 0, .int 0, .int 0, .int 0]) (C := R_Pt) (T := T_Pt) (N := 4) hx hb hts uin_Pt t_Pt t_Pt_ok hown (hts _ wd_101) (hts _ wd_103) (hts _ wd_5) hK hP hD hS hA rfl (by decide +kernel) (Nat.le_of_ble_eq_true rfl) (Nat.le_of_ble_eq_true rfl) d_Pr_init_34 (fun q8 H hP hD hS => ?_)
  have hP : va_P (dC, dI) vwCl [(b0, .inr (3, [.ref q1, .ref q2])), (q1, .inl (cP, 6, .inr (.inr (.inr (.inr (va_up (va_up (va_up (va_up (va_up (fun _ => none) 0 (some q3)) 1 (some q4)) 2 (some q5)) 3 (some q6)) 4 (some q7))))))), (q2, .inl (cP, 4, .inr (.inr (.inr (.inr (fun _ => none)))))), (q3, .inr (2, [.int 0, .int 0, .int 1, .int 0])), (q4, .inr (2, [.int 0, .int 0, .int 1, .int 0])), (q5, .inr (2, [.int 0, .int 0, .int 1, .int 0])), (q6, .inr (2, [.int 0, .int 0, .int 1, .int 0])), (q7, .inr (2, [.int 0, .int 0, .int 1, .int 0])), (q8, .inr (2, [.int 0, .int 0, .int 0, .int 0]))] H := hP
  have hD : va_D A [(b0, .inr (3, [.ref q1, .ref q2])), (q1, .inl (cP, 6, .inr (.inr (.inr (.inr (va_up (va_up (va_up (va_up (va_up (fun _ => none) 0 (some q3)) 1 (some q4)) 2 (some q5)) 3 (some q6)) 4 (some q7))))))), (q2, .inl (cP, 4, .inr (.inr (.inr (.inr (fun _ => none)))))), (q3, .inr (2, [.int 0, .int 0, .int 1, .int 0])), (q4, .inr (2, [.int 0, .int 0, .int 1, .int 0])), (q5, .inr (2, [.int 0, .int 0, .int 1, .int 0])), (q6, .inr (2, [.int 0, .int 0, .int 1, .int 0])), (q7, .inr (2, [.int 0, .int 0, .int 1, .int 0])), (q8, .inr (2, [.int 0, .int 0, .int 0, .int 0]))] := hD
  refine lv_dup hx hb d_Pr_init_37 rfl ?_
  have hFc := va_free (wc := [(q8, .inr (2, [.int 0, .int 0, .int 0, .int 0]))]) hD hS hA [8] rfl
  refine va_callv (va_runIN (As := []) (rest := [.ref q8, .int 5, .ref q1]) ⟨hx, hb, hml, hown, hts⟩ (n_niPt l dC dI q8 H.size) (kw_IN (n := 0) hts hN wd_104 wd_105 wd_5 wd_106 rfl rfl rfl (by decide +kernel) ⟨Nat.le_of_ble_eq_true rfl, Nat.le_of_ble_eq_true rfl⟩) (kq_preMS hN (hP.sub (ws' := [(q8, .inr (2, [.int 0, .int 0, .int 0, .int 0]))]) [8] rfl) (hK.sub (tys' := []) [] rfl) (hD.sub (ws' := [(q8, .inr (2, [.int 0, .int 0, .int 0, .int 0]))]) [8] (by decide) rfl)) rfl rfl hl.1 rfl (lv_room (Nat.le_of_ble_eq_true rfl)) d_Pr_init_38 ⟨Nat.le_of_ble_eq_true rfl, Nat.le_of_ble_eq_true rfl⟩) hS (fun q _ h => hFc q h) hFc (fun u t H locs ht hvm _ hB hz1 hk1 hS => ?_)
  obtain ⟨hP1, hK1, hD1⟩ := hB
  rw [ht] at hP1
  obtain ⟨hP, hD⟩ := va_join (wr := [(b0, .inr (3, [.ref q1, .ref q2])), (q1, .inl (cP, 6, .inr (.inr (.inr (.inr (va_up (va_up (va_up (va_up (va_up (fun _ => none) 0 (some q3)) 1 (some q4)) 2 (some q5)) 3 (some q6)) 4 (some q7))))))), (q2, .inl (cP, 4, .inr (.inr (.inr (.inr (fun _ => none)))))), (q3, .inr (2, [.int 0, .int 0, .int 1, .int 0])), (q4, .inr (2, [.int 0, .int 0, .int 1, .int 0])), (q5, .inr (2, [.int 0, .int 0, .int 1, .int 0])), (q6, .inr (2, [.int 0, .int 0, .int 1, .int 0])), (q7, .inr (2, [.int 0, .int 0, .int 1, .int 0]))]) (w1 := [(q8, .inr (2, [.int 0, .int 0, .int 1, .int 0]))]) hP hD [8] [0, 1, 2, 3, 4, 5, 6, 7] rfl rfl (by decide) (by decide) hk1 hFc hP1 hD1
  have hP : va_P (dC, dI) vwCl [(b0, .inr (3, [.ref q1, .ref q2])), (q1, .inl (cP, 6, .inr (.inr (.inr (.inr (va_up (va_up (va_up (va_up (va_up (fun _ => none) 0 (some q3)) 1 (some q4)) 2 (some q5)) 3 (some q6)) 4 (some q7))))))), (q2, .inl (cP, 4, .inr (.inr (.inr (.inr (fun _ => none)))))), (q3, .inr (2, [.int 0, .int 0, .int 1, .int 0])), (q4, .inr (2, [.int 0, .int 0, .int 1, .int 0])), (q5, .inr (2, [.int 0, .int 0, .int 1, .int 0])), (q6, .inr (2, [.int 0, .int 0, .int 1, .int 0])), (q7, .inr (2, [.int 0, .int 0, .int 1, .int 0])), (q8, .inr (2, [.int 0, .int 0, .int 1, .int 0]))] H := hP
  have hD : va_D A [(b0, .inr (3, [.ref q1, .ref q2])), (q1, .inl (cP, 6, .inr (.inr (.inr (.inr (va_up (va_up (va_up (va_up (va_up (fun _ => none) 0 (some q3)) 1 (some q4)) 2 (some q5)) 3 (some q6)) 4 (some q7))))))), (q2, .inl (cP, 4, .inr (.inr (.inr (.inr (fun _ => none)))))), (q3, .inr (2, [.int 0, .int 0, .int 1, .int 0])), (q4, .inr (2, [.int 0, .int 0, .int 1, .int 0])), (q5, .inr (2, [.int 0, .int 0, .int 1, .int 0])), (q6, .inr (2, [.int 0, .int 0, .int 1, .int 0])), (q7, .inr (2, [.int 0, .int 0, .int 1, .int 0])), (q8, .inr (2, [.int 0, .int 0, .int 1, .int 0]))] := hD
  refine va_astq hx hb hK hP hD hS 1 0 8 2 rfl rfl rfl rfl (kq_in (by decide)) d_Pr_init_41 (fun H locs hP hD hS => ?_)
  have hP : va_P (dC, dI) vwCl [(b0, .inr (3, [.ref q1, .ref q2])), (q1, .inl (cP, 6, .inr (.inr (.inr (.inr (va_up (va_up (va_up (va_up (va_up (va_up (fun _ => none) 0 (some q3)) 1 (some q4)) 2 (some q5)) 3 (some q6)) 4 (some q7)) 5 (some q8))))))), (q2, .inl (cP, 4, .inr (.inr (.inr (.inr (fun _ => none)))))), (q3, .inr (2, [.int 0, .int 0, .int 1, .int 0])), (q4, .inr (2, [.int 0, .int 0, .int 1, .int 0])), (q5, .inr (2, [.int 0, .int 0, .int 1, .int 0])), (q6, .inr (2, [.int 0, .int 0, .int 1, .int 0])), (q7, .inr (2, [.int 0, .int 0, .int 1, .int 0])), (q8, .inr (2, [.int 0, .int 0, .int 1, .int 0]))] H := hP
  have hD : va_D A [(b0, .inr (3, [.ref q1, .ref q2])), (q1, .inl (cP, 6, .inr (.inr (.inr (.inr (va_up (va_up (va_up (va_up (va_up (va_up (fun _ => none) 0 (some q3)) 1 (some q4)) 2 (some q5)) 3 (some q6)) 4 (some q7)) 5 (some q8))))))), (q2, .inl (cP, 4, .inr (.inr (.inr (.inr (fun _ => none)))))), (q3, .inr (2, [.int 0, .int 0, .int 1, .int 0])), (q4, .inr (2, [.int 0, .int 0, .int 1, .int 0])), (q5, .inr (2, [.int 0, .int 0, .int 1, .int 0])), (q6, .inr (2, [.int 0, .int 0, .int 1, .int 0])), (q7, .inr (2, [.int 0, .int 0, .int 1, .int 0])), (q8, .inr (2, [.int 0, .int 0, .int 1, .int 0]))] := hD
  refine lv_iinc (k := 0) (v := 6) (lv' := [(1, .int 6), (0, .ref b0)]) hx hb d_Pr_init_42 hl rfl (by decide) (by decide) rfl (fun ls hl => ?_)
  refine lv_goto (tgt := 23) hx hb d_Pr_init_45 rfl ?_
  refine lv_iload_n hx hb d_Pr_init_23 rfl (lv_at hl 0 rfl) ?_
  refine lv_bipush (v := 6) hx hb d_Pr_init_24 (by decide) ?_
  refine lv_icmp_ge (tgt := 48) hx hb d_Pr_init_26 rfl (fun _ => ?_) (fun h => absurd h (by decide))
  refine lv_iconst (v := 0) hx hb d_Pr_init_48 (by decide) ?_
  refine lv_istore_n (lv' := [(1, .int 0), (0, .ref b0)]) hx hb d_Pr_init_49 rfl hl (by decide) rfl (fun ls hl => ?_)
  refine lv_iload_n hx hb d_Pr_init_50 rfl (lv_at hl 0 rfl) ?_
  refine lv_iconst (v := 4) hx hb d_Pr_init_51 (by decide) ?_
  refine lv_icmp_ge (tgt := 74) hx hb d_Pr_init_52 rfl (fun h => absurd h (by decide)) (fun _ => ?_)
  refine lv_aload_n hx hb d_Pr_init_55 rfl (lv_at hl 1 rfl) ?_
  refine va_get (D := (dC, dI)) (ci := 3) (v := .ref q2) (C := R_Pr) (T := T_Pr) (N := 2) hx hb hts uin_Pr hown hK hP 0 rfl rfl 1 (by decide) (hts _ wd_124) (fun _ h9 => h9) rfl d_Pr_init_56 ?_
  refine lv_iload_n hx hb d_Pr_init_59 rfl (lv_at hl 0 rfl) ?_
  refine va_new (ci := 2) (fs := [.int 0, .int 0, .int 0, .int 0]) (C := R_Pt) (T := T_Pt) (N := 4) hx hb hts uin_Pt t_Pt t_Pt_ok hown (hts _ wd_101) (hts _ wd_103) (hts _ wd_5) hK hP hD hS hA rfl (by decide +kernel) (Nat.le_of_ble_eq_true rfl) (Nat.le_of_ble_eq_true rfl) d_Pr_init_60 (fun q9 H hP hD hS => ?_)
  have hP : va_P (dC, dI) vwCl [(b0, .inr (3, [.ref q1, .ref q2])), (q1, .inl (cP, 6, .inr (.inr (.inr (.inr (va_up (va_up (va_up (va_up (va_up (va_up (fun _ => none) 0 (some q3)) 1 (some q4)) 2 (some q5)) 3 (some q6)) 4 (some q7)) 5 (some q8))))))), (q2, .inl (cP, 4, .inr (.inr (.inr (.inr (fun _ => none)))))), (q3, .inr (2, [.int 0, .int 0, .int 1, .int 0])), (q4, .inr (2, [.int 0, .int 0, .int 1, .int 0])), (q5, .inr (2, [.int 0, .int 0, .int 1, .int 0])), (q6, .inr (2, [.int 0, .int 0, .int 1, .int 0])), (q7, .inr (2, [.int 0, .int 0, .int 1, .int 0])), (q8, .inr (2, [.int 0, .int 0, .int 1, .int 0])), (q9, .inr (2, [.int 0, .int 0, .int 0, .int 0]))] H := hP
  have hD : va_D A [(b0, .inr (3, [.ref q1, .ref q2])), (q1, .inl (cP, 6, .inr (.inr (.inr (.inr (va_up (va_up (va_up (va_up (va_up (va_up (fun _ => none) 0 (some q3)) 1 (some q4)) 2 (some q5)) 3 (some q6)) 4 (some q7)) 5 (some q8))))))), (q2, .inl (cP, 4, .inr (.inr (.inr (.inr (fun _ => none)))))), (q3, .inr (2, [.int 0, .int 0, .int 1, .int 0])), (q4, .inr (2, [.int 0, .int 0, .int 1, .int 0])), (q5, .inr (2, [.int 0, .int 0, .int 1, .int 0])), (q6, .inr (2, [.int 0, .int 0, .int 1, .int 0])), (q7, .inr (2, [.int 0, .int 0, .int 1, .int 0])), (q8, .inr (2, [.int 0, .int 0, .int 1, .int 0])), (q9, .inr (2, [.int 0, .int 0, .int 0, .int 0]))] := hD
  refine lv_dup hx hb d_Pr_init_63 rfl ?_
  have hFc := va_free (wc := [(q9, .inr (2, [.int 0, .int 0, .int 0, .int 0]))]) hD hS hA [9] rfl
  refine va_callv (va_runIN (As := []) (rest := [.ref q9, .int 0, .ref q2]) ⟨hx, hb, hml, hown, hts⟩ (n_niPt l dC dI q9 H.size) (kw_IN (n := 0) hts hN wd_104 wd_105 wd_5 wd_106 rfl rfl rfl (by decide +kernel) ⟨Nat.le_of_ble_eq_true rfl, Nat.le_of_ble_eq_true rfl⟩) (kq_preMS hN (hP.sub (ws' := [(q9, .inr (2, [.int 0, .int 0, .int 0, .int 0]))]) [9] rfl) (hK.sub (tys' := []) [] rfl) (hD.sub (ws' := [(q9, .inr (2, [.int 0, .int 0, .int 0, .int 0]))]) [9] (by decide) rfl)) rfl rfl hl.1 rfl (lv_room (Nat.le_of_ble_eq_true rfl)) d_Pr_init_64 ⟨Nat.le_of_ble_eq_true rfl, Nat.le_of_ble_eq_true rfl⟩) hS (fun q _ h => hFc q h) hFc (fun u t H locs ht hvm _ hB hz1 hk1 hS => ?_)
  obtain ⟨hP1, hK1, hD1⟩ := hB
  rw [ht] at hP1
  obtain ⟨hP, hD⟩ := va_join (wr := [(b0, .inr (3, [.ref q1, .ref q2])), (q1, .inl (cP, 6, .inr (.inr (.inr (.inr (va_up (va_up (va_up (va_up (va_up (va_up (fun _ => none) 0 (some q3)) 1 (some q4)) 2 (some q5)) 3 (some q6)) 4 (some q7)) 5 (some q8))))))), (q2, .inl (cP, 4, .inr (.inr (.inr (.inr (fun _ => none)))))), (q3, .inr (2, [.int 0, .int 0, .int 1, .int 0])), (q4, .inr (2, [.int 0, .int 0, .int 1, .int 0])), (q5, .inr (2, [.int 0, .int 0, .int 1, .int 0])), (q6, .inr (2, [.int 0, .int 0, .int 1, .int 0])), (q7, .inr (2, [.int 0, .int 0, .int 1, .int 0])), (q8, .inr (2, [.int 0, .int 0, .int 1, .int 0]))]) (w1 := [(q9, .inr (2, [.int 0, .int 0, .int 1, .int 0]))]) hP hD [9] [0, 1, 2, 3, 4, 5, 6, 7, 8] rfl rfl (by decide) (by decide) hk1 hFc hP1 hD1
  have hP : va_P (dC, dI) vwCl [(b0, .inr (3, [.ref q1, .ref q2])), (q1, .inl (cP, 6, .inr (.inr (.inr (.inr (va_up (va_up (va_up (va_up (va_up (va_up (fun _ => none) 0 (some q3)) 1 (some q4)) 2 (some q5)) 3 (some q6)) 4 (some q7)) 5 (some q8))))))), (q2, .inl (cP, 4, .inr (.inr (.inr (.inr (fun _ => none)))))), (q3, .inr (2, [.int 0, .int 0, .int 1, .int 0])), (q4, .inr (2, [.int 0, .int 0, .int 1, .int 0])), (q5, .inr (2, [.int 0, .int 0, .int 1, .int 0])), (q6, .inr (2, [.int 0, .int 0, .int 1, .int 0])), (q7, .inr (2, [.int 0, .int 0, .int 1, .int 0])), (q8, .inr (2, [.int 0, .int 0, .int 1, .int 0])), (q9, .inr (2, [.int 0, .int 0, .int 1, .int 0]))] H := hP
  have hD : va_D A [(b0, .inr (3, [.ref q1, .ref q2])), (q1, .inl (cP, 6, .inr (.inr (.inr (.inr (va_up (va_up (va_up (va_up (va_up (va_up (fun _ => none) 0 (some q3)) 1 (some q4)) 2 (some q5)) 3 (some q6)) 4 (some q7)) 5 (some q8))))))), (q2, .inl (cP, 4, .inr (.inr (.inr (.inr (fun _ => none)))))), (q3, .inr (2, [.int 0, .int 0, .int 1, .int 0])), (q4, .inr (2, [.int 0, .int 0, .int 1, .int 0])), (q5, .inr (2, [.int 0, .int 0, .int 1, .int 0])), (q6, .inr (2, [.int 0, .int 0, .int 1, .int 0])), (q7, .inr (2, [.int 0, .int 0, .int 1, .int 0])), (q8, .inr (2, [.int 0, .int 0, .int 1, .int 0])), (q9, .inr (2, [.int 0, .int 0, .int 1, .int 0]))] := hD
  refine va_astq hx hb hK hP hD hS 2 0 9 2 rfl rfl rfl rfl (kq_in (by decide)) d_Pr_init_67 (fun H locs hP hD hS => ?_)
  have hP : va_P (dC, dI) vwCl [(b0, .inr (3, [.ref q1, .ref q2])), (q1, .inl (cP, 6, .inr (.inr (.inr (.inr (va_up (va_up (va_up (va_up (va_up (va_up (fun _ => none) 0 (some q3)) 1 (some q4)) 2 (some q5)) 3 (some q6)) 4 (some q7)) 5 (some q8))))))), (q2, .inl (cP, 4, .inr (.inr (.inr (.inr (va_up (fun _ => none) 0 (some q9))))))), (q3, .inr (2, [.int 0, .int 0, .int 1, .int 0])), (q4, .inr (2, [.int 0, .int 0, .int 1, .int 0])), (q5, .inr (2, [.int 0, .int 0, .int 1, .int 0])), (q6, .inr (2, [.int 0, .int 0, .int 1, .int 0])), (q7, .inr (2, [.int 0, .int 0, .int 1, .int 0])), (q8, .inr (2, [.int 0, .int 0, .int 1, .int 0])), (q9, .inr (2, [.int 0, .int 0, .int 1, .int 0]))] H := hP
  have hD : va_D A [(b0, .inr (3, [.ref q1, .ref q2])), (q1, .inl (cP, 6, .inr (.inr (.inr (.inr (va_up (va_up (va_up (va_up (va_up (va_up (fun _ => none) 0 (some q3)) 1 (some q4)) 2 (some q5)) 3 (some q6)) 4 (some q7)) 5 (some q8))))))), (q2, .inl (cP, 4, .inr (.inr (.inr (.inr (va_up (fun _ => none) 0 (some q9))))))), (q3, .inr (2, [.int 0, .int 0, .int 1, .int 0])), (q4, .inr (2, [.int 0, .int 0, .int 1, .int 0])), (q5, .inr (2, [.int 0, .int 0, .int 1, .int 0])), (q6, .inr (2, [.int 0, .int 0, .int 1, .int 0])), (q7, .inr (2, [.int 0, .int 0, .int 1, .int 0])), (q8, .inr (2, [.int 0, .int 0, .int 1, .int 0])), (q9, .inr (2, [.int 0, .int 0, .int 1, .int 0]))] := hD
  refine lv_iinc (k := 0) (v := 1) (lv' := [(1, .int 1), (0, .ref b0)]) hx hb d_Pr_init_68 hl rfl (by decide) (by decide) rfl (fun ls hl => ?_)
  refine lv_goto (tgt := 50) hx hb d_Pr_init_71 rfl ?_
  refine lv_iload_n hx hb d_Pr_init_50 rfl (lv_at hl 0 rfl) ?_
  refine lv_iconst (v := 4) hx hb d_Pr_init_51 (by decide) ?_
  refine lv_icmp_ge (tgt := 74) hx hb d_Pr_init_52 rfl (fun h => absurd h (by decide)) (fun _ => ?_)
  refine lv_aload_n hx hb d_Pr_init_55 rfl (lv_at hl 1 rfl) ?_
  refine va_get (D := (dC, dI)) (ci := 3) (v := .ref q2) (C := R_Pr) (T := T_Pr) (N := 2) hx hb hts uin_Pr hown hK hP 0 rfl rfl 1 (by decide) (hts _ wd_124) (fun _ h9 => h9) rfl d_Pr_init_56 ?_
  refine lv_iload_n hx hb d_Pr_init_59 rfl (lv_at hl 0 rfl) ?_
  refine va_new (ci := 2) (fs := [.int 0, .int 0, .int 0, .int 0]) (C := R_Pt) (T := T_Pt) (N := 4) hx hb hts uin_Pt t_Pt t_Pt_ok hown (hts _ wd_101) (hts _ wd_103) (hts _ wd_5) hK hP hD hS hA rfl (by decide +kernel) (Nat.le_of_ble_eq_true rfl) (Nat.le_of_ble_eq_true rfl) d_Pr_init_60 (fun q10 H hP hD hS => ?_)
  have hP : va_P (dC, dI) vwCl [(b0, .inr (3, [.ref q1, .ref q2])), (q1, .inl (cP, 6, .inr (.inr (.inr (.inr (va_up (va_up (va_up (va_up (va_up (va_up (fun _ => none) 0 (some q3)) 1 (some q4)) 2 (some q5)) 3 (some q6)) 4 (some q7)) 5 (some q8))))))), (q2, .inl (cP, 4, .inr (.inr (.inr (.inr (va_up (fun _ => none) 0 (some q9))))))), (q3, .inr (2, [.int 0, .int 0, .int 1, .int 0])), (q4, .inr (2, [.int 0, .int 0, .int 1, .int 0])), (q5, .inr (2, [.int 0, .int 0, .int 1, .int 0])), (q6, .inr (2, [.int 0, .int 0, .int 1, .int 0])), (q7, .inr (2, [.int 0, .int 0, .int 1, .int 0])), (q8, .inr (2, [.int 0, .int 0, .int 1, .int 0])), (q9, .inr (2, [.int 0, .int 0, .int 1, .int 0])), (q10, .inr (2, [.int 0, .int 0, .int 0, .int 0]))] H := hP
  have hD : va_D A [(b0, .inr (3, [.ref q1, .ref q2])), (q1, .inl (cP, 6, .inr (.inr (.inr (.inr (va_up (va_up (va_up (va_up (va_up (va_up (fun _ => none) 0 (some q3)) 1 (some q4)) 2 (some q5)) 3 (some q6)) 4 (some q7)) 5 (some q8))))))), (q2, .inl (cP, 4, .inr (.inr (.inr (.inr (va_up (fun _ => none) 0 (some q9))))))), (q3, .inr (2, [.int 0, .int 0, .int 1, .int 0])), (q4, .inr (2, [.int 0, .int 0, .int 1, .int 0])), (q5, .inr (2, [.int 0, .int 0, .int 1, .int 0])), (q6, .inr (2, [.int 0, .int 0, .int 1, .int 0])), (q7, .inr (2, [.int 0, .int 0, .int 1, .int 0])), (q8, .inr (2, [.int 0, .int 0, .int 1, .int 0])), (q9, .inr (2, [.int 0, .int 0, .int 1, .int 0])), (q10, .inr (2, [.int 0, .int 0, .int 0, .int 0]))] := hD
  refine lv_dup hx hb d_Pr_init_63 rfl ?_
  have hFc := va_free (wc := [(q10, .inr (2, [.int 0, .int 0, .int 0, .int 0]))]) hD hS hA [10] rfl
  refine va_callv (va_runIN (As := []) (rest := [.ref q10, .int 1, .ref q2]) ⟨hx, hb, hml, hown, hts⟩ (n_niPt l dC dI q10 H.size) (kw_IN (n := 0) hts hN wd_104 wd_105 wd_5 wd_106 rfl rfl rfl (by decide +kernel) ⟨Nat.le_of_ble_eq_true rfl, Nat.le_of_ble_eq_true rfl⟩) (kq_preMS hN (hP.sub (ws' := [(q10, .inr (2, [.int 0, .int 0, .int 0, .int 0]))]) [10] rfl) (hK.sub (tys' := []) [] rfl) (hD.sub (ws' := [(q10, .inr (2, [.int 0, .int 0, .int 0, .int 0]))]) [10] (by decide) rfl)) rfl rfl hl.1 rfl (lv_room (Nat.le_of_ble_eq_true rfl)) d_Pr_init_64 ⟨Nat.le_of_ble_eq_true rfl, Nat.le_of_ble_eq_true rfl⟩) hS (fun q _ h => hFc q h) hFc (fun u t H locs ht hvm _ hB hz1 hk1 hS => ?_)
  obtain ⟨hP1, hK1, hD1⟩ := hB
  rw [ht] at hP1
  obtain ⟨hP, hD⟩ := va_join (wr := [(b0, .inr (3, [.ref q1, .ref q2])), (q1, .inl (cP, 6, .inr (.inr (.inr (.inr (va_up (va_up (va_up (va_up (va_up (va_up (fun _ => none) 0 (some q3)) 1 (some q4)) 2 (some q5)) 3 (some q6)) 4 (some q7)) 5 (some q8))))))), (q2, .inl (cP, 4, .inr (.inr (.inr (.inr (va_up (fun _ => none) 0 (some q9))))))), (q3, .inr (2, [.int 0, .int 0, .int 1, .int 0])), (q4, .inr (2, [.int 0, .int 0, .int 1, .int 0])), (q5, .inr (2, [.int 0, .int 0, .int 1, .int 0])), (q6, .inr (2, [.int 0, .int 0, .int 1, .int 0])), (q7, .inr (2, [.int 0, .int 0, .int 1, .int 0])), (q8, .inr (2, [.int 0, .int 0, .int 1, .int 0])), (q9, .inr (2, [.int 0, .int 0, .int 1, .int 0]))]) (w1 := [(q10, .inr (2, [.int 0, .int 0, .int 1, .int 0]))]) hP hD [10] [0, 1, 2, 3, 4, 5, 6, 7, 8, 9] rfl rfl (by decide) (by decide) hk1 hFc hP1 hD1
  have hP : va_P (dC, dI) vwCl [(b0, .inr (3, [.ref q1, .ref q2])), (q1, .inl (cP, 6, .inr (.inr (.inr (.inr (va_up (va_up (va_up (va_up (va_up (va_up (fun _ => none) 0 (some q3)) 1 (some q4)) 2 (some q5)) 3 (some q6)) 4 (some q7)) 5 (some q8))))))), (q2, .inl (cP, 4, .inr (.inr (.inr (.inr (va_up (fun _ => none) 0 (some q9))))))), (q3, .inr (2, [.int 0, .int 0, .int 1, .int 0])), (q4, .inr (2, [.int 0, .int 0, .int 1, .int 0])), (q5, .inr (2, [.int 0, .int 0, .int 1, .int 0])), (q6, .inr (2, [.int 0, .int 0, .int 1, .int 0])), (q7, .inr (2, [.int 0, .int 0, .int 1, .int 0])), (q8, .inr (2, [.int 0, .int 0, .int 1, .int 0])), (q9, .inr (2, [.int 0, .int 0, .int 1, .int 0])), (q10, .inr (2, [.int 0, .int 0, .int 1, .int 0]))] H := hP
  have hD : va_D A [(b0, .inr (3, [.ref q1, .ref q2])), (q1, .inl (cP, 6, .inr (.inr (.inr (.inr (va_up (va_up (va_up (va_up (va_up (va_up (fun _ => none) 0 (some q3)) 1 (some q4)) 2 (some q5)) 3 (some q6)) 4 (some q7)) 5 (some q8))))))), (q2, .inl (cP, 4, .inr (.inr (.inr (.inr (va_up (fun _ => none) 0 (some q9))))))), (q3, .inr (2, [.int 0, .int 0, .int 1, .int 0])), (q4, .inr (2, [.int 0, .int 0, .int 1, .int 0])), (q5, .inr (2, [.int 0, .int 0, .int 1, .int 0])), (q6, .inr (2, [.int 0, .int 0, .int 1, .int 0])), (q7, .inr (2, [.int 0, .int 0, .int 1, .int 0])), (q8, .inr (2, [.int 0, .int 0, .int 1, .int 0])), (q9, .inr (2, [.int 0, .int 0, .int 1, .int 0])), (q10, .inr (2, [.int 0, .int 0, .int 1, .int 0]))] := hD
  refine va_astq hx hb hK hP hD hS 2 0 10 2 rfl rfl rfl rfl (kq_in (by decide)) d_Pr_init_67 (fun H locs hP hD hS => ?_)
  have hP : va_P (dC, dI) vwCl [(b0, .inr (3, [.ref q1, .ref q2])), (q1, .inl (cP, 6, .inr (.inr (.inr (.inr (va_up (va_up (va_up (va_up (va_up (va_up (fun _ => none) 0 (some q3)) 1 (some q4)) 2 (some q5)) 3 (some q6)) 4 (some q7)) 5 (some q8))))))), (q2, .inl (cP, 4, .inr (.inr (.inr (.inr (va_up (va_up (fun _ => none) 0 (some q9)) 1 (some q10))))))), (q3, .inr (2, [.int 0, .int 0, .int 1, .int 0])), (q4, .inr (2, [.int 0, .int 0, .int 1, .int 0])), (q5, .inr (2, [.int 0, .int 0, .int 1, .int 0])), (q6, .inr (2, [.int 0, .int 0, .int 1, .int 0])), (q7, .inr (2, [.int 0, .int 0, .int 1, .int 0])), (q8, .inr (2, [.int 0, .int 0, .int 1, .int 0])), (q9, .inr (2, [.int 0, .int 0, .int 1, .int 0])), (q10, .inr (2, [.int 0, .int 0, .int 1, .int 0]))] H := hP
  have hD : va_D A [(b0, .inr (3, [.ref q1, .ref q2])), (q1, .inl (cP, 6, .inr (.inr (.inr (.inr (va_up (va_up (va_up (va_up (va_up (va_up (fun _ => none) 0 (some q3)) 1 (some q4)) 2 (some q5)) 3 (some q6)) 4 (some q7)) 5 (some q8))))))), (q2, .inl (cP, 4, .inr (.inr (.inr (.inr (va_up (va_up (fun _ => none) 0 (some q9)) 1 (some q10))))))), (q3, .inr (2, [.int 0, .int 0, .int 1, .int 0])), (q4, .inr (2, [.int 0, .int 0, .int 1, .int 0])), (q5, .inr (2, [.int 0, .int 0, .int 1, .int 0])), (q6, .inr (2, [.int 0, .int 0, .int 1, .int 0])), (q7, .inr (2, [.int 0, .int 0, .int 1, .int 0])), (q8, .inr (2, [.int 0, .int 0, .int 1, .int 0])), (q9, .inr (2, [.int 0, .int 0, .int 1, .int 0])), (q10, .inr (2, [.int 0, .int 0, .int 1, .int 0]))] := hD
  refine lv_iinc (k := 0) (v := 2) (lv' := [(1, .int 2), (0, .ref b0)]) hx hb d_Pr_init_68 hl rfl (by decide) (by decide) rfl (fun ls hl => ?_)
  refine lv_goto (tgt := 50) hx hb d_Pr_init_71 rfl ?_
  refine lv_iload_n hx hb d_Pr_init_50 rfl (lv_at hl 0 rfl) ?_
  refine lv_iconst (v := 4) hx hb d_Pr_init_51 (by decide) ?_
  refine lv_icmp_ge (tgt := 74) hx hb d_Pr_init_52 rfl (fun h => absurd h (by decide)) (fun _ => ?_)
  refine lv_aload_n hx hb d_Pr_init_55 rfl (lv_at hl 1 rfl) ?_
  refine va_get (D := (dC, dI)) (ci := 3) (v := .ref q2) (C := R_Pr) (T := T_Pr) (N := 2) hx hb hts uin_Pr hown hK hP 0 rfl rfl 1 (by decide) (hts _ wd_124) (fun _ h9 => h9) rfl d_Pr_init_56 ?_
  refine lv_iload_n hx hb d_Pr_init_59 rfl (lv_at hl 0 rfl) ?_
  refine va_new (ci := 2) (fs := [.int 0, .int 0, .int 0, .int 0]) (C := R_Pt) (T := T_Pt) (N := 4) hx hb hts uin_Pt t_Pt t_Pt_ok hown (hts _ wd_101) (hts _ wd_103) (hts _ wd_5) hK hP hD hS hA rfl (by decide +kernel) (Nat.le_of_ble_eq_true rfl) (Nat.le_of_ble_eq_true rfl) d_Pr_init_60 (fun q11 H hP hD hS => ?_)
  have hP : va_P (dC, dI) vwCl [(b0, .inr (3, [.ref q1, .ref q2])), (q1, .inl (cP, 6, .inr (.inr (.inr (.inr (va_up (va_up (va_up (va_up (va_up (va_up (fun _ => none) 0 (some q3)) 1 (some q4)) 2 (some q5)) 3 (some q6)) 4 (some q7)) 5 (some q8))))))), (q2, .inl (cP, 4, .inr (.inr (.inr (.inr (va_up (va_up (fun _ => none) 0 (some q9)) 1 (some q10))))))), (q3, .inr (2, [.int 0, .int 0, .int 1, .int 0])), (q4, .inr (2, [.int 0, .int 0, .int 1, .int 0])), (q5, .inr (2, [.int 0, .int 0, .int 1, .int 0])), (q6, .inr (2, [.int 0, .int 0, .int 1, .int 0])), (q7, .inr (2, [.int 0, .int 0, .int 1, .int 0])), (q8, .inr (2, [.int 0, .int 0, .int 1, .int 0])), (q9, .inr (2, [.int 0, .int 0, .int 1, .int 0])), (q10, .inr (2, [.int 0, .int 0, .int 1, .int 0])), (q11, .inr (2, [.int 0, .int 0, .int 0, .int 0]))] H := hP
  have hD : va_D A [(b0, .inr (3, [.ref q1, .ref q2])), (q1, .inl (cP, 6, .inr (.inr (.inr (.inr (va_up (va_up (va_up (va_up (va_up (va_up (fun _ => none) 0 (some q3)) 1 (some q4)) 2 (some q5)) 3 (some q6)) 4 (some q7)) 5 (some q8))))))), (q2, .inl (cP, 4, .inr (.inr (.inr (.inr (va_up (va_up (fun _ => none) 0 (some q9)) 1 (some q10))))))), (q3, .inr (2, [.int 0, .int 0, .int 1, .int 0])), (q4, .inr (2, [.int 0, .int 0, .int 1, .int 0])), (q5, .inr (2, [.int 0, .int 0, .int 1, .int 0])), (q6, .inr (2, [.int 0, .int 0, .int 1, .int 0])), (q7, .inr (2, [.int 0, .int 0, .int 1, .int 0])), (q8, .inr (2, [.int 0, .int 0, .int 1, .int 0])), (q9, .inr (2, [.int 0, .int 0, .int 1, .int 0])), (q10, .inr (2, [.int 0, .int 0, .int 1, .int 0])), (q11, .inr (2, [.int 0, .int 0, .int 0, .int 0]))] := hD
  refine lv_dup hx hb d_Pr_init_63 rfl ?_
  have hFc := va_free (wc := [(q11, .inr (2, [.int 0, .int 0, .int 0, .int 0]))]) hD hS hA [11] rfl
  refine va_callv (va_runIN (As := []) (rest := [.ref q11, .int 2, .ref q2]) ⟨hx, hb, hml, hown, hts⟩ (n_niPt l dC dI q11 H.size) (kw_IN (n := 0) hts hN wd_104 wd_105 wd_5 wd_106 rfl rfl rfl (by decide +kernel) ⟨Nat.le_of_ble_eq_true rfl, Nat.le_of_ble_eq_true rfl⟩) (kq_preMS hN (hP.sub (ws' := [(q11, .inr (2, [.int 0, .int 0, .int 0, .int 0]))]) [11] rfl) (hK.sub (tys' := []) [] rfl) (hD.sub (ws' := [(q11, .inr (2, [.int 0, .int 0, .int 0, .int 0]))]) [11] (by decide) rfl)) rfl rfl hl.1 rfl (lv_room (Nat.le_of_ble_eq_true rfl)) d_Pr_init_64 ⟨Nat.le_of_ble_eq_true rfl, Nat.le_of_ble_eq_true rfl⟩) hS (fun q _ h => hFc q h) hFc (fun u t H locs ht hvm _ hB hz1 hk1 hS => ?_)
  obtain ⟨hP1, hK1, hD1⟩ := hB
  rw [ht] at hP1
  obtain ⟨hP, hD⟩ := va_join (wr := [(b0, .inr (3, [.ref q1, .ref q2])), (q1, .inl (cP, 6, .inr (.inr (.inr (.inr (va_up (va_up (va_up (va_up (va_up (va_up (fun _ => none) 0 (some q3)) 1 (some q4)) 2 (some q5)) 3 (some q6)) 4 (some q7)) 5 (some q8))))))), (q2, .inl (cP, 4, .inr (.inr (.inr (.inr (va_up (va_up (fun _ => none) 0 (some q9)) 1 (some q10))))))), (q3, .inr (2, [.int 0, .int 0, .int 1, .int 0])), (q4, .inr (2, [.int 0, .int 0, .int 1, .int 0])), (q5, .inr (2, [.int 0, .int 0, .int 1, .int 0])), (q6, .inr (2, [.int 0, .int 0, .int 1, .int 0])), (q7, .inr (2, [.int 0, .int 0, .int 1, .int 0])), (q8, .inr (2, [.int 0, .int 0, .int 1, .int 0])), (q9, .inr (2, [.int 0, .int 0, .int 1, .int 0])), (q10, .inr (2, [.int 0, .int 0, .int 1, .int 0]))]) (w1 := [(q11, .inr (2, [.int 0, .int 0, .int 1, .int 0]))]) hP hD [11] [0, 1, 2, 3, 4, 5, 6, 7, 8, 9, 10] rfl rfl (by decide) (by decide) hk1 hFc hP1 hD1
  have hP : va_P (dC, dI) vwCl [(b0, .inr (3, [.ref q1, .ref q2])), (q1, .inl (cP, 6, .inr (.inr (.inr (.inr (va_up (va_up (va_up (va_up (va_up (va_up (fun _ => none) 0 (some q3)) 1 (some q4)) 2 (some q5)) 3 (some q6)) 4 (some q7)) 5 (some q8))))))), (q2, .inl (cP, 4, .inr (.inr (.inr (.inr (va_up (va_up (fun _ => none) 0 (some q9)) 1 (some q10))))))), (q3, .inr (2, [.int 0, .int 0, .int 1, .int 0])), (q4, .inr (2, [.int 0, .int 0, .int 1, .int 0])), (q5, .inr (2, [.int 0, .int 0, .int 1, .int 0])), (q6, .inr (2, [.int 0, .int 0, .int 1, .int 0])), (q7, .inr (2, [.int 0, .int 0, .int 1, .int 0])), (q8, .inr (2, [.int 0, .int 0, .int 1, .int 0])), (q9, .inr (2, [.int 0, .int 0, .int 1, .int 0])), (q10, .inr (2, [.int 0, .int 0, .int 1, .int 0])), (q11, .inr (2, [.int 0, .int 0, .int 1, .int 0]))] H := hP
  have hD : va_D A [(b0, .inr (3, [.ref q1, .ref q2])), (q1, .inl (cP, 6, .inr (.inr (.inr (.inr (va_up (va_up (va_up (va_up (va_up (va_up (fun _ => none) 0 (some q3)) 1 (some q4)) 2 (some q5)) 3 (some q6)) 4 (some q7)) 5 (some q8))))))), (q2, .inl (cP, 4, .inr (.inr (.inr (.inr (va_up (va_up (fun _ => none) 0 (some q9)) 1 (some q10))))))), (q3, .inr (2, [.int 0, .int 0, .int 1, .int 0])), (q4, .inr (2, [.int 0, .int 0, .int 1, .int 0])), (q5, .inr (2, [.int 0, .int 0, .int 1, .int 0])), (q6, .inr (2, [.int 0, .int 0, .int 1, .int 0])), (q7, .inr (2, [.int 0, .int 0, .int 1, .int 0])), (q8, .inr (2, [.int 0, .int 0, .int 1, .int 0])), (q9, .inr (2, [.int 0, .int 0, .int 1, .int 0])), (q10, .inr (2, [.int 0, .int 0, .int 1, .int 0])), (q11, .inr (2, [.int 0, .int 0, .int 1, .int 0]))] := hD
  refine va_astq hx hb hK hP hD hS 2 0 11 2 rfl rfl rfl rfl (kq_in (by decide)) d_Pr_init_67 (fun H locs hP hD hS => ?_)
  have hP : va_P (dC, dI) vwCl [(b0, .inr (3, [.ref q1, .ref q2])), (q1, .inl (cP, 6, .inr (.inr (.inr (.inr (va_up (va_up (va_up (va_up (va_up (va_up (fun _ => none) 0 (some q3)) 1 (some q4)) 2 (some q5)) 3 (some q6)) 4 (some q7)) 5 (some q8))))))), (q2, .inl (cP, 4, .inr (.inr (.inr (.inr (va_up (va_up (va_up (fun _ => none) 0 (some q9)) 1 (some q10)) 2 (some q11))))))), (q3, .inr (2, [.int 0, .int 0, .int 1, .int 0])), (q4, .inr (2, [.int 0, .int 0, .int 1, .int 0])), (q5, .inr (2, [.int 0, .int 0, .int 1, .int 0])), (q6, .inr (2, [.int 0, .int 0, .int 1, .int 0])), (q7, .inr (2, [.int 0, .int 0, .int 1, .int 0])), (q8, .inr (2, [.int 0, .int 0, .int 1, .int 0])), (q9, .inr (2, [.int 0, .int 0, .int 1, .int 0])), (q10, .inr (2, [.int 0, .int 0, .int 1, .int 0])), (q11, .inr (2, [.int 0, .int 0, .int 1, .int 0]))] H := hP
  have hD : va_D A [(b0, .inr (3, [.ref q1, .ref q2])), (q1, .inl (cP, 6, .inr (.inr (.inr (.inr (va_up (va_up (va_up (va_up (va_up (va_up (fun _ => none) 0 (some q3)) 1 (some q4)) 2 (some q5)) 3 (some q6)) 4 (some q7)) 5 (some q8))))))), (q2, .inl (cP, 4, .inr (.inr (.inr (.inr (va_up (va_up (va_up (fun _ => none) 0 (some q9)) 1 (some q10)) 2 (some q11))))))), (q3, .inr (2, [.int 0, .int 0, .int 1, .int 0])), (q4, .inr (2, [.int 0, .int 0, .int 1, .int 0])), (q5, .inr (2, [.int 0, .int 0, .int 1, .int 0])), (q6, .inr (2, [.int 0, .int 0, .int 1, .int 0])), (q7, .inr (2, [.int 0, .int 0, .int 1, .int 0])), (q8, .inr (2, [.int 0, .int 0, .int 1, .int 0])), (q9, .inr (2, [.int 0, .int 0, .int 1, .int 0])), (q10, .inr (2, [.int 0, .int 0, .int 1, .int 0])), (q11, .inr (2, [.int 0, .int 0, .int 1, .int 0]))] := hD
  refine lv_iinc (k := 0) (v := 3) (lv' := [(1, .int 3), (0, .ref b0)]) hx hb d_Pr_init_68 hl rfl (by decide) (by decide) rfl (fun ls hl => ?_)
  refine lv_goto (tgt := 50) hx hb d_Pr_init_71 rfl ?_
  refine lv_iload_n hx hb d_Pr_init_50 rfl (lv_at hl 0 rfl) ?_
  refine lv_iconst (v := 4) hx hb d_Pr_init_51 (by decide) ?_
  refine lv_icmp_ge (tgt := 74) hx hb d_Pr_init_52 rfl (fun h => absurd h (by decide)) (fun _ => ?_)
  refine lv_aload_n hx hb d_Pr_init_55 rfl (lv_at hl 1 rfl) ?_
  refine va_get (D := (dC, dI)) (ci := 3) (v := .ref q2) (C := R_Pr) (T := T_Pr) (N := 2) hx hb hts uin_Pr hown hK hP 0 rfl rfl 1 (by decide) (hts _ wd_124) (fun _ h9 => h9) rfl d_Pr_init_56 ?_
  refine lv_iload_n hx hb d_Pr_init_59 rfl (lv_at hl 0 rfl) ?_
  refine va_new (ci := 2) (fs := [.int 0, .int 0, .int 0, .int 0]) (C := R_Pt) (T := T_Pt) (N := 4) hx hb hts uin_Pt t_Pt t_Pt_ok hown (hts _ wd_101) (hts _ wd_103) (hts _ wd_5) hK hP hD hS hA rfl (by decide +kernel) (Nat.le_of_ble_eq_true rfl) (Nat.le_of_ble_eq_true rfl) d_Pr_init_60 (fun q12 H hP hD hS => ?_)
  have hP : va_P (dC, dI) vwCl [(b0, .inr (3, [.ref q1, .ref q2])), (q1, .inl (cP, 6, .inr (.inr (.inr (.inr (va_up (va_up (va_up (va_up (va_up (va_up (fun _ => none) 0 (some q3)) 1 (some q4)) 2 (some q5)) 3 (some q6)) 4 (some q7)) 5 (some q8))))))), (q2, .inl (cP, 4, .inr (.inr (.inr (.inr (va_up (va_up (va_up (fun _ => none) 0 (some q9)) 1 (some q10)) 2 (some q11))))))), (q3, .inr (2, [.int 0, .int 0, .int 1, .int 0])), (q4, .inr (2, [.int 0, .int 0, .int 1, .int 0])), (q5, .inr (2, [.int 0, .int 0, .int 1, .int 0])), (q6, .inr (2, [.int 0, .int 0, .int 1, .int 0])), (q7, .inr (2, [.int 0, .int 0, .int 1, .int 0])), (q8, .inr (2, [.int 0, .int 0, .int 1, .int 0])), (q9, .inr (2, [.int 0, .int 0, .int 1, .int 0])), (q10, .inr (2, [.int 0, .int 0, .int 1, .int 0])), (q11, .inr (2, [.int 0, .int 0, .int 1, .int 0])), (q12, .inr (2, [.int 0, .int 0, .int 0, .int 0]))] H := hP
  have hD : va_D A [(b0, .inr (3, [.ref q1, .ref q2])), (q1, .inl (cP, 6, .inr (.inr (.inr (.inr (va_up (va_up (va_up (va_up (va_up (va_up (fun _ => none) 0 (some q3)) 1 (some q4)) 2 (some q5)) 3 (some q6)) 4 (some q7)) 5 (some q8))))))), (q2, .inl (cP, 4, .inr (.inr (.inr (.inr (va_up (va_up (va_up (fun _ => none) 0 (some q9)) 1 (some q10)) 2 (some q11))))))), (q3, .inr (2, [.int 0, .int 0, .int 1, .int 0])), (q4, .inr (2, [.int 0, .int 0, .int 1, .int 0])), (q5, .inr (2, [.int 0, .int 0, .int 1, .int 0])), (q6, .inr (2, [.int 0, .int 0, .int 1, .int 0])), (q7, .inr (2, [.int 0, .int 0, .int 1, .int 0])), (q8, .inr (2, [.int 0, .int 0, .int 1, .int 0])), (q9, .inr (2, [.int 0, .int 0, .int 1, .int 0])), (q10, .inr (2, [.int 0, .int 0, .int 1, .int 0])), (q11, .inr (2, [.int 0, .int 0, .int 1, .int 0])), (q12, .inr (2, [.int 0, .int 0, .int 0, .int 0]))] := hD
  refine lv_dup hx hb d_Pr_init_63 rfl ?_
  have hFc := va_free (wc := [(q12, .inr (2, [.int 0, .int 0, .int 0, .int 0]))]) hD hS hA [12] rfl
  refine va_callv (va_runIN (As := []) (rest := [.ref q12, .int 3, .ref q2]) ⟨hx, hb, hml, hown, hts⟩ (n_niPt l dC dI q12 H.size) (kw_IN (n := 0) hts hN wd_104 wd_105 wd_5 wd_106 rfl rfl rfl (by decide +kernel) ⟨Nat.le_of_ble_eq_true rfl, Nat.le_of_ble_eq_true rfl⟩) (kq_preMS hN (hP.sub (ws' := [(q12, .inr (2, [.int 0, .int 0, .int 0, .int 0]))]) [12] rfl) (hK.sub (tys' := []) [] rfl) (hD.sub (ws' := [(q12, .inr (2, [.int 0, .int 0, .int 0, .int 0]))]) [12] (by decide) rfl)) rfl rfl hl.1 rfl (lv_room (Nat.le_of_ble_eq_true rfl)) d_Pr_init_64 ⟨Nat.le_of_ble_eq_true rfl, Nat.le_of_ble_eq_true rfl⟩) hS (fun q _ h => hFc q h) hFc (fun u t H locs ht hvm _ hB hz1 hk1 hS => ?_)
  obtain ⟨hP1, hK1, hD1⟩ := hB
  rw [ht] at hP1
  obtain ⟨hP, hD⟩ := va_join (wr := [(b0, .inr (3, [.ref q1, .ref q2])), (q1, .inl (cP, 6, .inr (.inr (.inr (.inr (va_up (va_up (va_up (va_up (va_up (va_up (fun _ => none) 0 (some q3)) 1 (some q4)) 2 (some q5)) 3 (some q6)) 4 (some q7)) 5 (some q8))))))), (q2, .inl (cP, 4, .inr (.inr (.inr (.inr (va_up (va_up (va_up (fun _ => none) 0 (some q9)) 1 (some q10)) 2 (some q11))))))), (q3, .inr (2, [.int 0, .int 0, .int 1, .int 0])), (q4, .inr (2, [.int 0, .int 0, .int 1, .int 0])), (q5, .inr (2, [.int 0, .int 0, .int 1, .int 0])), (q6, .inr (2, [.int 0, .int 0, .int 1, .int 0])), (q7, .inr (2, [.int 0, .int 0, .int 1, .int 0])), (q8, .inr (2, [.int 0, .int 0, .int 1, .int 0])), (q9, .inr (2, [.int 0, .int 0, .int 1, .int 0])), (q10, .inr (2, [.int 0, .int 0, .int 1, .int 0])), (q11, .inr (2, [.int 0, .int 0, .int 1, .int 0]))]) (w1 := [(q12, .inr (2, [.int 0, .int 0, .int 1, .int 0]))]) hP hD [12] [0, 1, 2, 3, 4, 5, 6, 7, 8, 9, 10, 11] rfl rfl (by decide) (by decide) hk1 hFc hP1 hD1
  have hP : va_P (dC, dI) vwCl [(b0, .inr (3, [.ref q1, .ref q2])), (q1, .inl (cP, 6, .inr (.inr (.inr (.inr (va_up (va_up (va_up (va_up (va_up (va_up (fun _ => none) 0 (some q3)) 1 (some q4)) 2 (some q5)) 3 (some q6)) 4 (some q7)) 5 (some q8))))))), (q2, .inl (cP, 4, .inr (.inr (.inr (.inr (va_up (va_up (va_up (fun _ => none) 0 (some q9)) 1 (some q10)) 2 (some q11))))))), (q3, .inr (2, [.int 0, .int 0, .int 1, .int 0])), (q4, .inr (2, [.int 0, .int 0, .int 1, .int 0])), (q5, .inr (2, [.int 0, .int 0, .int 1, .int 0])), (q6, .inr (2, [.int 0, .int 0, .int 1, .int 0])), (q7, .inr (2, [.int 0, .int 0, .int 1, .int 0])), (q8, .inr (2, [.int 0, .int 0, .int 1, .int 0])), (q9, .inr (2, [.int 0, .int 0, .int 1, .int 0])), (q10, .inr (2, [.int 0, .int 0, .int 1, .int 0])), (q11, .inr (2, [.int 0, .int 0, .int 1, .int 0])), (q12, .inr (2, [.int 0, .int 0, .int 1, .int 0]))] H := hP
  have hD : va_D A [(b0, .inr (3, [.ref q1, .ref q2])), (q1, .inl (cP, 6, .inr (.inr (.inr (.inr (va_up (va_up (va_up (va_up (va_up (va_up (fun _ => none) 0 (some q3)) 1 (some q4)) 2 (some q5)) 3 (some q6)) 4 (some q7)) 5 (some q8))))))), (q2, .inl (cP, 4, .inr (.inr (.inr (.inr (va_up (va_up (va_up (fun _ => none) 0 (some q9)) 1 (some q10)) 2 (some q11))))))), (q3, .inr (2, [.int 0, .int 0, .int 1, .int 0])), (q4, .inr (2, [.int 0, .int 0, .int 1, .int 0])), (q5, .inr (2, [.int 0, .int 0, .int 1, .int 0])), (q6, .inr (2, [.int 0, .int 0, .int 1, .int 0])), (q7, .inr (2, [.int 0, .int 0, .int 1, .int 0])), (q8, .inr (2, [.int 0, .int 0, .int 1, .int 0])), (q9, .inr (2, [.int 0, .int 0, .int 1, .int 0])), (q10, .inr (2, [.int 0, .int 0, .int 1, .int 0])), (q11, .inr (2, [.int 0, .int 0, .int 1, .int 0])), (q12, .inr (2, [.int 0, .int 0, .int 1, .int 0]))] := hD
  refine va_astq hx hb hK hP hD hS 2 0 12 2 rfl rfl rfl rfl (kq_in (by decide)) d_Pr_init_67 (fun H locs hP hD hS => ?_)
  have hP : va_P (dC, dI) vwCl [(b0, .inr (3, [.ref q1, .ref q2])), (q1, .inl (cP, 6, .inr (.inr (.inr (.inr (va_up (va_up (va_up (va_up (va_up (va_up (fun _ => none) 0 (some q3)) 1 (some q4)) 2 (some q5)) 3 (some q6)) 4 (some q7)) 5 (some q8))))))), (q2, .inl (cP, 4, .inr (.inr (.inr (.inr (va_up (va_up (va_up (va_up (fun _ => none) 0 (some q9)) 1 (some q10)) 2 (some q11)) 3 (some q12))))))), (q3, .inr (2, [.int 0, .int 0, .int 1, .int 0])), (q4, .inr (2, [.int 0, .int 0, .int 1, .int 0])), (q5, .inr (2, [.int 0, .int 0, .int 1, .int 0])), (q6, .inr (2, [.int 0, .int 0, .int 1, .int 0])), (q7, .inr (2, [.int 0, .int 0, .int 1, .int 0])), (q8, .inr (2, [.int 0, .int 0, .int 1, .int 0])), (q9, .inr (2, [.int 0, .int 0, .int 1, .int 0])), (q10, .inr (2, [.int 0, .int 0, .int 1, .int 0])), (q11, .inr (2, [.int 0, .int 0, .int 1, .int 0])), (q12, .inr (2, [.int 0, .int 0, .int 1, .int 0]))] H := hP
  have hD : va_D A [(b0, .inr (3, [.ref q1, .ref q2])), (q1, .inl (cP, 6, .inr (.inr (.inr (.inr (va_up (va_up (va_up (va_up (va_up (va_up (fun _ => none) 0 (some q3)) 1 (some q4)) 2 (some q5)) 3 (some q6)) 4 (some q7)) 5 (some q8))))))), (q2, .inl (cP, 4, .inr (.inr (.inr (.inr (va_up (va_up (va_up (va_up (fun _ => none) 0 (some q9)) 1 (some q10)) 2 (some q11)) 3 (some q12))))))), (q3, .inr (2, [.int 0, .int 0, .int 1, .int 0])), (q4, .inr (2, [.int 0, .int 0, .int 1, .int 0])), (q5, .inr (2, [.int 0, .int 0, .int 1, .int 0])), (q6, .inr (2, [.int 0, .int 0, .int 1, .int 0])), (q7, .inr (2, [.int 0, .int 0, .int 1, .int 0])), (q8, .inr (2, [.int 0, .int 0, .int 1, .int 0])), (q9, .inr (2, [.int 0, .int 0, .int 1, .int 0])), (q10, .inr (2, [.int 0, .int 0, .int 1, .int 0])), (q11, .inr (2, [.int 0, .int 0, .int 1, .int 0])), (q12, .inr (2, [.int 0, .int 0, .int 1, .int 0]))] := hD
  refine lv_iinc (k := 0) (v := 4) (lv' := [(1, .int 4), (0, .ref b0)]) hx hb d_Pr_init_68 hl rfl (by decide) (by decide) rfl (fun ls hl => ?_)
  refine lv_goto (tgt := 50) hx hb d_Pr_init_71 rfl ?_
  refine lv_iload_n hx hb d_Pr_init_50 rfl (lv_at hl 0 rfl) ?_
  refine lv_iconst (v := 4) hx hb d_Pr_init_51 (by decide) ?_
  refine lv_icmp_ge (tgt := 74) hx hb d_Pr_init_52 rfl (fun _ => ?_) (fun h => absurd h (by decide))
  have hP := kq_refs (g := fun j => some (([q3, q4, q5, q6, q7, q8] : List Nat).getD j 0)) hP (q0 := 1) rfl (fun j hj => by have cs : j = 0 ∨ j = 1 ∨ j = 2 ∨ j = 3 ∨ j = 4 ∨ j = 5 := (by omega); rcases cs with rfl | rfl | rfl | rfl | rfl | rfl <;> rfl)
  have hD := kq_dset (y := .inl (cP, 6, .inr (.inr (.inr (.inr (fun j => some (([q3, q4, q5, q6, q7, q8] : List Nat).getD j 0))))))) hD (q0 := 1) rfl
  have hP : va_P (dC, dI) vwCl [(b0, .inr (3, [.ref q1, .ref q2])), (q1, .inl (cP, 6, .inr (.inr (.inr (.inr (fun j => some (([q3, q4, q5, q6, q7, q8] : List Nat).getD j 0))))))), (q2, .inl (cP, 4, .inr (.inr (.inr (.inr (va_up (va_up (va_up (va_up (fun _ => none) 0 (some q9)) 1 (some q10)) 2 (some q11)) 3 (some q12))))))), (q3, .inr (2, [.int 0, .int 0, .int 1, .int 0])), (q4, .inr (2, [.int 0, .int 0, .int 1, .int 0])), (q5, .inr (2, [.int 0, .int 0, .int 1, .int 0])), (q6, .inr (2, [.int 0, .int 0, .int 1, .int 0])), (q7, .inr (2, [.int 0, .int 0, .int 1, .int 0])), (q8, .inr (2, [.int 0, .int 0, .int 1, .int 0])), (q9, .inr (2, [.int 0, .int 0, .int 1, .int 0])), (q10, .inr (2, [.int 0, .int 0, .int 1, .int 0])), (q11, .inr (2, [.int 0, .int 0, .int 1, .int 0])), (q12, .inr (2, [.int 0, .int 0, .int 1, .int 0]))] H := hP
  have hD : va_D A [(b0, .inr (3, [.ref q1, .ref q2])), (q1, .inl (cP, 6, .inr (.inr (.inr (.inr (fun j => some (([q3, q4, q5, q6, q7, q8] : List Nat).getD j 0))))))), (q2, .inl (cP, 4, .inr (.inr (.inr (.inr (va_up (va_up (va_up (va_up (fun _ => none) 0 (some q9)) 1 (some q10)) 2 (some q11)) 3 (some q12))))))), (q3, .inr (2, [.int 0, .int 0, .int 1, .int 0])), (q4, .inr (2, [.int 0, .int 0, .int 1, .int 0])), (q5, .inr (2, [.int 0, .int 0, .int 1, .int 0])), (q6, .inr (2, [.int 0, .int 0, .int 1, .int 0])), (q7, .inr (2, [.int 0, .int 0, .int 1, .int 0])), (q8, .inr (2, [.int 0, .int 0, .int 1, .int 0])), (q9, .inr (2, [.int 0, .int 0, .int 1, .int 0])), (q10, .inr (2, [.int 0, .int 0, .int 1, .int 0])), (q11, .inr (2, [.int 0, .int 0, .int 1, .int 0])), (q12, .inr (2, [.int 0, .int 0, .int 1, .int 0]))] := hD
  have hP := kq_refs (g := fun j => some (([q9, q10, q11, q12] : List Nat).getD j 0)) hP (q0 := 2) rfl (fun j hj => by have cs : j = 0 ∨ j = 1 ∨ j = 2 ∨ j = 3 := (by omega); rcases cs with rfl | rfl | rfl | rfl <;> rfl)
  have hD := kq_dset (y := .inl (cP, 4, .inr (.inr (.inr (.inr (fun j => some (([q9, q10, q11, q12] : List Nat).getD j 0))))))) hD (q0 := 2) rfl
  have hP : va_P (dC, dI) vwCl [(b0, .inr (3, [.ref q1, .ref q2])), (q1, .inl (cP, 6, .inr (.inr (.inr (.inr (fun j => some (([q3, q4, q5, q6, q7, q8] : List Nat).getD j 0))))))), (q2, .inl (cP, 4, .inr (.inr (.inr (.inr (fun j => some (([q9, q10, q11, q12] : List Nat).getD j 0))))))), (q3, .inr (2, [.int 0, .int 0, .int 1, .int 0])), (q4, .inr (2, [.int 0, .int 0, .int 1, .int 0])), (q5, .inr (2, [.int 0, .int 0, .int 1, .int 0])), (q6, .inr (2, [.int 0, .int 0, .int 1, .int 0])), (q7, .inr (2, [.int 0, .int 0, .int 1, .int 0])), (q8, .inr (2, [.int 0, .int 0, .int 1, .int 0])), (q9, .inr (2, [.int 0, .int 0, .int 1, .int 0])), (q10, .inr (2, [.int 0, .int 0, .int 1, .int 0])), (q11, .inr (2, [.int 0, .int 0, .int 1, .int 0])), (q12, .inr (2, [.int 0, .int 0, .int 1, .int 0]))] H := hP
  have hD : va_D A [(b0, .inr (3, [.ref q1, .ref q2])), (q1, .inl (cP, 6, .inr (.inr (.inr (.inr (fun j => some (([q3, q4, q5, q6, q7, q8] : List Nat).getD j 0))))))), (q2, .inl (cP, 4, .inr (.inr (.inr (.inr (fun j => some (([q9, q10, q11, q12] : List Nat).getD j 0))))))), (q3, .inr (2, [.int 0, .int 0, .int 1, .int 0])), (q4, .inr (2, [.int 0, .int 0, .int 1, .int 0])), (q5, .inr (2, [.int 0, .int 0, .int 1, .int 0])), (q6, .inr (2, [.int 0, .int 0, .int 1, .int 0])), (q7, .inr (2, [.int 0, .int 0, .int 1, .int 0])), (q8, .inr (2, [.int 0, .int 0, .int 1, .int 0])), (q9, .inr (2, [.int 0, .int 0, .int 1, .int 0])), (q10, .inr (2, [.int 0, .int 0, .int 1, .int 0])), (q11, .inr (2, [.int 0, .int 0, .int 1, .int 0])), (q12, .inr (2, [.int 0, .int 0, .int 1, .int 0]))] := hD
  refine W.widen (k := 12) (n := 50) (by decide) (by decide) ?_
  exact W.vret hx hb hr (fun t ht hW => ⟨⟨(), rfl, trivial, q1, q2, (fun j => ([q3, q4, q5, q6, q7, q8] : List Nat).getD j 0), (fun j => ([q9, q10, q11, q12] : List Nat).getD j 0), by rw [ht]; exact hP, va_K.moved hW.alike hK, hD⟩, hS.F ht⟩) hS.2.2 d_Pr_init_74
set_option maxHeartbeats 4000000 in
set_option maxRecDepth 100000 in
theorem n_niG (l : Launch) (dC : Nat → ClassId) (dI : Nat → Nat → Nat) (b0 : Nat) (cI : ClassId) (cP : ClassId) (sz : Nat) : Met l y_G_init (wz y_G_init b_G_init 1 none) { frames := 3, cells := 23, slots := 174, locals := 53 } (va_Pc [.ref b0] (fun U => U.heap.size = sz ∧ nw U ∧ va_P (dC, dI) vwCl [(b0, .inr (0, [.null, .null, .null, .null, .null, .null, .null, .int 0, .int 0, .long 0]))] U.heap ∧ va_K (dC, dI) vwCl [(cI, .int), (cP, (.object "GridConverter$Point"))] U ∧ va_D (fun _ => True) [(b0, .inr (0, [.null, .null, .null, .null, .null, .null, .null, .int 0, .int 0, .long 0]))] ∧ fv_ok U ∧ va_AO "GridConverter$Point" U)) (va_Qv (fun _ : Unit => True) (fun _ t => ∃ (ba : Nat) (bl : Nat) (bm : Nat) (bp : Nat) (bq : Nat) (bc : Nat) (bs : Nat) (ad : Nat → Nat) (ae : Nat → Nat) (bk : Nat) (bd : Nat) (bo : Nat) (be : Nat) (bn : Nat) (bt : Nat), va_P (dC, dI) vwCl [(b0, .inr (0, [.ref ba, .ref bl, .ref bq, .ref bk, .ref bd, .ref bo, .ref be, .int 0, .int 0, .long 0])), (ba, .inl (cI, 12, .inl firstV)), (bl, .inr (1, [.ref bm, .ref bp, .int 0, .int 0, .long 0, .long 687194752, .int 0, .int 0, .int 0, .int 0, .int 0, .int (r_meanF 687194752)])), (bm, .inl (cI, 16, .inl (fun _ => 0))), (bp, .inl (cI, 32, .inl v_niLo_0)), (bq, .inr (3, [.ref bc, .ref bs])), (bc, .inl (cP, 6, .inr (.inr (.inr (.inr (fun j => some (ad j))))))), (bs, .inl (cP, 4, .inr (.inr (.inr (.inr (fun j => some (ae j))))))), (ad 0, .inr (2, [.int 0, .int 0, .int 1, .int 0])), (ad 1, .inr (2, [.int 0, .int 0, .int 1, .int 0])), (ad 2, .inr (2, [.int 0, .int 0, .int 1, .int 0])), (ad 3, .inr (2, [.int 0, .int 0, .int 1, .int 0])), (ad 4, .inr (2, [.int 0, .int 0, .int 1, .int 0])), (ad 5, .inr (2, [.int 0, .int 0, .int 1, .int 0])), (ae 0, .inr (2, [.int 0, .int 0, .int 1, .int 0])), (ae 1, .inr (2, [.int 0, .int 0, .int 1, .int 0])), (ae 2, .inr (2, [.int 0, .int 0, .int 1, .int 0])), (ae 3, .inr (2, [.int 0, .int 0, .int 1, .int 0])), (bk, .inr (4, [.int 0, .int 0, .int 0, .int 0, .int 0, .int 0])), (bd, .inr (5, [.int 0, .int 0, .int 0, .int 0, .int 0])), (bo, .inr (6, [.int 0, .int 0, .int 0, .int 0])), (be, .inr (7, [.ref bn, .ref bt, .int 0])), (bn, .inl (cI, 16, .inl (fun _ => 0))), (bt, .inl (cI, 16, .inl (fun _ => 0)))] t.heap ∧ va_K (dC, dI) vwCl [(cI, .int), (cP, (.object "GridConverter$Point"))] t ∧ va_D (va_A [(b0, .inr (0, [.null, .null, .null, .null, .null, .null, .null, .int 0, .int 0, .long 0]))] sz) [(b0, .inr (0, [.ref ba, .ref bl, .ref bq, .ref bk, .ref bd, .ref bo, .ref be, .int 0, .int 0, .long 0])), (ba, .inl (cI, 12, .inl firstV)), (bl, .inr (1, [.ref bm, .ref bp, .int 0, .int 0, .long 0, .long 687194752, .int 0, .int 0, .int 0, .int 0, .int 0, .int (r_meanF 687194752)])), (bm, .inl (cI, 16, .inl (fun _ => 0))), (bp, .inl (cI, 32, .inl v_niLo_0)), (bq, .inr (3, [.ref bc, .ref bs])), (bc, .inl (cP, 6, .inr (.inr (.inr (.inr (fun j => some (ad j))))))), (bs, .inl (cP, 4, .inr (.inr (.inr (.inr (fun j => some (ae j))))))), (ad 0, .inr (2, [.int 0, .int 0, .int 1, .int 0])), (ad 1, .inr (2, [.int 0, .int 0, .int 1, .int 0])), (ad 2, .inr (2, [.int 0, .int 0, .int 1, .int 0])), (ad 3, .inr (2, [.int 0, .int 0, .int 1, .int 0])), (ad 4, .inr (2, [.int 0, .int 0, .int 1, .int 0])), (ad 5, .inr (2, [.int 0, .int 0, .int 1, .int 0])), (ae 0, .inr (2, [.int 0, .int 0, .int 1, .int 0])), (ae 1, .inr (2, [.int 0, .int 0, .int 1, .int 0])), (ae 2, .inr (2, [.int 0, .int 0, .int 1, .int 0])), (ae 3, .inr (2, [.int 0, .int 0, .int 1, .int 0])), (bk, .inr (4, [.int 0, .int 0, .int 0, .int 0, .int 0, .int 0])), (bd, .inr (5, [.int 0, .int 0, .int 0, .int 0, .int 0])), (bo, .inr (6, [.int 0, .int 0, .int 0, .int 0])), (be, .inr (7, [.ref bn, .ref bt, .int 0])), (bn, .inl (cI, 16, .inl (fun _ => 0))), (bt, .inl (cI, 16, .inl (fun _ => 0)))]) (va_A [(b0, .inr (0, [.null, .null, .null, .null, .null, .null, .null, .int 0, .int 0, .long 0]))] sz)) 23 174 (va_A [(b0, .inr (0, [.null, .null, .null, .null, .null, .null, .null, .int 0, .int 0, .long 0]))] sz) := by
  refine Met.ofW (cc := b_G_init) (maxL := 1) (ret := none) (by decide) rfl ?_
  intro p e s m args below meth c s₁ B hml hv
  obtain ⟨rfl, hsz, hN, hP, hK, hD0, hF, hO⟩ := hv
  have hx := B.exec
  have hb := B.bytes
  have hr := B.returns
  have hts := fun w h => atoms_spec (ws := (wz y_G_init b_G_init 1 none)) B.pre w (List.mem_cons_of_mem _ h)
  have hown : s.vm.findClass R_G = some m.cls := findClass_of_methodNamed B.named
  have hlocks := B.notSynchronized
  have hin : meth.name = "<init>" := (name_of_methodNamed B.named B.method).1
  obtain ⟨t3, scr, hZ3, g1, g2, g3, g4, g5, g6⟩ := hF
  subst hsz
  have hD := hD0.self (sz := s.heap.size)
  generalize hAe : va_A [(b0, .inr (0, [.null, .null, .null, .null, .null, .null, .null, .int 0, .int 0, .long 0]))] s.heap.size = A at hD ⊢
  have hA : ∀ q : Nat, s.heap.size ≤ q → A q := fun q h => by rw [← hAe]; exact Or.inr h
  have hS : va_S A s.heap s.heap [] := va_S.rf
  have hl := lv_entry ([.ref b0]) (n := 1) (Nat.le_of_ble_eq_true rfl)
  rw [lg_entry_eq]
  generalize (lg_sl ([.ref b0]) ++ List.replicate (1 - (lg_sl ([.ref b0])).length) Slot.unset).toArray = ls at hl ⊢
  have hl : lv_has ls 1 [(0, .ref b0)] := hl
  refine lv_aload_n hx hb d_G_init_0 rfl (lv_at hl 0 rfl) ?_
  refine W.objInit hx hb hown (hts _ wd_23) (hts _ wd_24) (hts _ wd_25) rfl (by rw [hml]; exact hl.1) rfl d_G_init_1 (Nat.le_of_ble_eq_true rfl) (Nat.le_of_ble_eq_true rfl) ?_
  refine W.eq (g2 := F0 m 4 ls []) rfl ?_
  refine lv_aload_n hx hb d_G_init_4 rfl (lv_at hl 0 rfl) ?_
  refine va_gets (A := fun _ => False) hx hb hZ3 va_S.rf hown (hts _ wd_26) (fun _ h9 => h9) d_G_init_5 ?_
  refine kq_cloneF hx hb (hml.trans hl.1.symm) hown (hts _ wd_28) (hts _ wd_29) (hts _ wd_30) (hts _ wd_31) (hts _ wd_32) (hN _ wd_33) hK hP hD hS hA 0 rfl g1 g2 g3 g4 g5 g6 (Nat.le_of_ble_eq_true rfl) (Nat.le_of_ble_eq_true rfl) (Nat.le_of_ble_eq_true rfl) (Nat.le_of_ble_eq_true rfl) d_G_init_8 (fun q1 H hP hD hS => ?_)
  have hP : va_P (dC, dI) vwCl [(b0, .inr (0, [.null, .null, .null, .null, .null, .null, .null, .int 0, .int 0, .long 0])), (q1, .inl (cI, 12, .inl firstV))] H := hP
  have hD : va_D A [(b0, .inr (0, [.null, .null, .null, .null, .null, .null, .null, .int 0, .int 0, .long 0])), (q1, .inl (cI, 12, .inl firstV))] := hD
  refine va_castA hx hb hown (hts _ wd_34) hP 1 rfl (hK.2 0 _ rfl).2 d_G_init_11 ?_
  refine va_putF (D := (dC, dI)) (ci := 0) (v := .ref q1) (ty := (t_G 0)) (C := R_G) (T := T_G) (N := 10) hx hb hts uin_G t_G t_G_ok n_G hown hK hP hD hS 0 rfl rfl 0 (by decide) (hts _ wd_226) (fun _ h9 => h9) rfl hin rfl (by decide +kernel) rfl rfl (Nat.le_of_ble_eq_true rfl) d_G_init_14 (fun H locs hP hD hS => ?_)
  have hP : va_P (dC, dI) vwCl [(b0, .inr (0, [.ref q1, .null, .null, .null, .null, .null, .null, .int 0, .int 0, .long 0])), (q1, .inl (cI, 12, .inl firstV))] H := hP
  have hD : va_D A [(b0, .inr (0, [.ref q1, .null, .null, .null, .null, .null, .null, .int 0, .int 0, .long 0])), (q1, .inl (cI, 12, .inl firstV))] := hD
  refine lv_aload_n hx hb d_G_init_17 rfl (lv_at hl 0 rfl) ?_
  refine va_new (ci := 1) (fs := [.null, .null, .int 0, .int 0, .long 0, .long 0, .int 0, .int 0, .int 0, .int 0, .int 0, .int 0]) (C := R_Lo) (T := T_Lo) (N := 12) hx hb hts uin_Lo t_Lo t_Lo_ok hown (hts _ wd_35) (hts _ wd_36) (hts _ wd_2) hK hP hD hS hA rfl (by decide +kernel) (Nat.le_of_ble_eq_true rfl) (Nat.le_of_ble_eq_true rfl) d_G_init_18 (fun q2 H hP hD hS => ?_)
  have hP : va_P (dC, dI) vwCl [(b0, .inr (0, [.ref q1, .null, .null, .null, .null, .null, .null, .int 0, .int 0, .long 0])), (q1, .inl (cI, 12, .inl firstV)), (q2, .inr (1, [.null, .null, .int 0, .int 0, .long 0, .long 0, .int 0, .int 0, .int 0, .int 0, .int 0, .int 0]))] H := hP
  have hD : va_D A [(b0, .inr (0, [.ref q1, .null, .null, .null, .null, .null, .null, .int 0, .int 0, .long 0])), (q1, .inl (cI, 12, .inl firstV)), (q2, .inr (1, [.null, .null, .int 0, .int 0, .long 0, .long 0, .int 0, .int 0, .int 0, .int 0, .int 0, .int 0]))] := hD
  refine lv_dup hx hb d_G_init_21 rfl ?_
  have hFc := va_free (wc := [(q2, .inr (1, [.null, .null, .int 0, .int 0, .long 0, .long 0, .int 0, .int 0, .int 0, .int 0, .int 0, .int 0]))]) hD hS hA [2] rfl
  refine va_callv (va_runI (As := []) (rest := [.ref q2, .ref b0]) ⟨hx, hb, hml, hown, hts⟩ (n_niLo l dC dI q2 cI H.size) (kw_I (n := 0) hts wd_37 wd_38 wd_2 wd_39 rfl rfl rfl (by decide +kernel) ⟨Nat.le_of_ble_eq_true rfl, Nat.le_of_ble_eq_true rfl⟩) (kq_preMS hN (hP.sub (ws' := [(q2, .inr (1, [.null, .null, .int 0, .int 0, .long 0, .long 0, .int 0, .int 0, .int 0, .int 0, .int 0, .int 0]))]) [2] rfl) (hK.sub (tys' := [(cI, .int)]) [0] rfl) (hD.sub (ws' := [(q2, .inr (1, [.null, .null, .int 0, .int 0, .long 0, .long 0, .int 0, .int 0, .int 0, .int 0, .int 0, .int 0]))]) [2] (by decide) rfl)) rfl rfl hl.1 rfl (lv_room (Nat.le_of_ble_eq_true rfl)) d_G_init_22 ⟨Nat.le_of_ble_eq_true rfl, Nat.le_of_ble_eq_true rfl⟩) hS (fun q _ h => hFc q h) hFc (fun u t H locs ht hvm _ hB hz1 hk1 hS => ?_)
  obtain ⟨q3, q4, hP1, hK1, hD1⟩ := hB
  rw [ht] at hP1
  obtain ⟨hP, hD⟩ := va_join (wr := [(b0, .inr (0, [.ref q1, .null, .null, .null, .null, .null, .null, .int 0, .int 0, .long 0])), (q1, .inl (cI, 12, .inl firstV))]) (w1 := [(q2, .inr (1, [.ref q3, .ref q4, .int 0, .int 0, .long 0, .long 687194752, .int 0, .int 0, .int 0, .int 0, .int 0, .int (r_meanF 687194752)])), (q3, .inl (cI, 16, .inl (fun _ => 0))), (q4, .inl (cI, 32, .inl v_niLo_0))]) hP hD [2] [0, 1] rfl rfl (by decide) (by decide) hk1 hFc hP1 hD1
  have hP : va_P (dC, dI) vwCl [(b0, .inr (0, [.ref q1, .null, .null, .null, .null, .null, .null, .int 0, .int 0, .long 0])), (q1, .inl (cI, 12, .inl firstV)), (q2, .inr (1, [.ref q3, .ref q4, .int 0, .int 0, .long 0, .long 687194752, .int 0, .int 0, .int 0, .int 0, .int 0, .int (r_meanF 687194752)])), (q3, .inl (cI, 16, .inl (fun _ => 0))), (q4, .inl (cI, 32, .inl v_niLo_0))] H := hP
  have hD : va_D A [(b0, .inr (0, [.ref q1, .null, .null, .null, .null, .null, .null, .int 0, .int 0, .long 0])), (q1, .inl (cI, 12, .inl firstV)), (q2, .inr (1, [.ref q3, .ref q4, .int 0, .int 0, .long 0, .long 687194752, .int 0, .int 0, .int 0, .int 0, .int 0, .int (r_meanF 687194752)])), (q3, .inl (cI, 16, .inl (fun _ => 0))), (q4, .inl (cI, 32, .inl v_niLo_0))] := hD
  refine va_putF (D := (dC, dI)) (ci := 0) (v := .ref q2) (ty := (t_G 1)) (C := R_G) (T := T_G) (N := 10) hx hb hts uin_G t_G t_G_ok n_G hown hK hP hD hS 0 rfl rfl 1 (by decide) (hts _ wd_227) (fun _ h9 => h9) rfl hin rfl (by decide +kernel) rfl rfl (Nat.le_of_ble_eq_true rfl) d_G_init_25 (fun H locs hP hD hS => ?_)
  have hP : va_P (dC, dI) vwCl [(b0, .inr (0, [.ref q1, .ref q2, .null, .null, .null, .null, .null, .int 0, .int 0, .long 0])), (q1, .inl (cI, 12, .inl firstV)), (q2, .inr (1, [.ref q3, .ref q4, .int 0, .int 0, .long 0, .long 687194752, .int 0, .int 0, .int 0, .int 0, .int 0, .int (r_meanF 687194752)])), (q3, .inl (cI, 16, .inl (fun _ => 0))), (q4, .inl (cI, 32, .inl v_niLo_0))] H := hP
  have hD : va_D A [(b0, .inr (0, [.ref q1, .ref q2, .null, .null, .null, .null, .null, .int 0, .int 0, .long 0])), (q1, .inl (cI, 12, .inl firstV)), (q2, .inr (1, [.ref q3, .ref q4, .int 0, .int 0, .long 0, .long 687194752, .int 0, .int 0, .int 0, .int 0, .int 0, .int (r_meanF 687194752)])), (q3, .inl (cI, 16, .inl (fun _ => 0))), (q4, .inl (cI, 32, .inl v_niLo_0))] := hD
  refine lv_aload_n hx hb d_G_init_28 rfl (lv_at hl 0 rfl) ?_
  refine va_new (ci := 3) (fs := [.null, .null]) (C := R_Pr) (T := T_Pr) (N := 2) hx hb hts uin_Pr t_Pr t_Pr_ok hown (hts _ wd_95) (hts _ wd_96) (hts _ wd_4) hK hP hD hS hA rfl (by decide +kernel) (Nat.le_of_ble_eq_true rfl) (Nat.le_of_ble_eq_true rfl) d_G_init_29 (fun q5 H hP hD hS => ?_)
  have hP : va_P (dC, dI) vwCl [(b0, .inr (0, [.ref q1, .ref q2, .null, .null, .null, .null, .null, .int 0, .int 0, .long 0])), (q1, .inl (cI, 12, .inl firstV)), (q2, .inr (1, [.ref q3, .ref q4, .int 0, .int 0, .long 0, .long 687194752, .int 0, .int 0, .int 0, .int 0, .int 0, .int (r_meanF 687194752)])), (q3, .inl (cI, 16, .inl (fun _ => 0))), (q4, .inl (cI, 32, .inl v_niLo_0)), (q5, .inr (3, [.null, .null]))] H := hP
  have hD : va_D A [(b0, .inr (0, [.ref q1, .ref q2, .null, .null, .null, .null, .null, .int 0, .int 0, .long 0])), (q1, .inl (cI, 12, .inl firstV)), (q2, .inr (1, [.ref q3, .ref q4, .int 0, .int 0, .long 0, .long 687194752, .int 0, .int 0, .int 0, .int 0, .int 0, .int (r_meanF 687194752)])), (q3, .inl (cI, 16, .inl (fun _ => 0))), (q4, .inl (cI, 32, .inl v_niLo_0)), (q5, .inr (3, [.null, .null]))] := hD
  refine lv_dup hx hb d_G_init_32 rfl ?_
  have hFc := va_free (wc := [(q5, .inr (3, [.null, .null]))]) hD hS hA [5] rfl
  refine va_callv (va_runI (As := []) (rest := [.ref q5, .ref b0]) ⟨hx, hb, hml, hown, hts⟩ (n_niPr l dC dI q5 cP H.size) (kw_I (n := 0) hts wd_97 wd_98 wd_4 wd_99 rfl rfl rfl (by decide +kernel) ⟨Nat.le_of_ble_eq_true rfl, Nat.le_of_ble_eq_true rfl⟩) (kq_preO hN (hP.sub (ws' := [(q5, .inr (3, [.null, .null]))]) [5] rfl) (hK.sub (tys' := [(cP, (.object "GridConverter$Point"))]) [1] rfl) (hD.sub (ws' := [(q5, .inr (3, [.null, .null]))]) [5] (by decide) rfl) hO) rfl rfl hl.1 rfl (lv_room (Nat.le_of_ble_eq_true rfl)) d_G_init_33 ⟨Nat.le_of_ble_eq_true rfl, Nat.le_of_ble_eq_true rfl⟩) hS (fun q _ h => hFc q h) hFc (fun u t H locs ht hvm _ hB hz1 hk1 hS => ?_)
  obtain ⟨q6, q7, q8, q9, hP1, hK1, hD1⟩ := hB
  rw [ht] at hP1
  obtain ⟨hP, hD⟩ := va_join (wr := [(b0, .inr (0, [.ref q1, .ref q2, .null, .null, .null, .null, .null, .int 0, .int 0, .long 0])), (q1, .inl (cI, 12, .inl firstV)), (q2, .inr (1, [.ref q3, .ref q4, .int 0, .int 0, .long 0, .long 687194752, .int 0, .int 0, .int 0, .int 0, .int 0, .int (r_meanF 687194752)])), (q3, .inl (cI, 16, .inl (fun _ => 0))), (q4, .inl (cI, 32, .inl v_niLo_0))]) (w1 := [(q5, .inr (3, [.ref q6, .ref q7])), (q6, .inl (cP, 6, .inr (.inr (.inr (.inr (fun j => some (q8 j))))))), (q7, .inl (cP, 4, .inr (.inr (.inr (.inr (fun j => some (q9 j))))))), (q8 0, .inr (2, [.int 0, .int 0, .int 1, .int 0])), (q8 1, .inr (2, [.int 0, .int 0, .int 1, .int 0])), (q8 2, .inr (2, [.int 0, .int 0, .int 1, .int 0])), (q8 3, .inr (2, [.int 0, .int 0, .int 1, .int 0])), (q8 4, .inr (2, [.int 0, .int 0, .int 1, .int 0])), (q8 5, .inr (2, [.int 0, .int 0, .int 1, .int 0])), (q9 0, .inr (2, [.int 0, .int 0, .int 1, .int 0])), (q9 1, .inr (2, [.int 0, .int 0, .int 1, .int 0])), (q9 2, .inr (2, [.int 0, .int 0, .int 1, .int 0])), (q9 3, .inr (2, [.int 0, .int 0, .int 1, .int 0]))]) hP hD [5] [0, 1, 2, 3, 4] rfl rfl (by decide) (by decide) hk1 hFc hP1 hD1
  have hP : va_P (dC, dI) vwCl [(b0, .inr (0, [.ref q1, .ref q2, .null, .null, .null, .null, .null, .int 0, .int 0, .long 0])), (q1, .inl (cI, 12, .inl firstV)), (q2, .inr (1, [.ref q3, .ref q4, .int 0, .int 0, .long 0, .long 687194752, .int 0, .int 0, .int 0, .int 0, .int 0, .int (r_meanF 687194752)])), (q3, .inl (cI, 16, .inl (fun _ => 0))), (q4, .inl (cI, 32, .inl v_niLo_0)), (q5, .inr (3, [.ref q6, .ref q7])), (q6, .inl (cP, 6, .inr (.inr (.inr (.inr (fun j => some (q8 j))))))), (q7, .inl (cP, 4, .inr (.inr (.inr (.inr (fun j => some (q9 j))))))), (q8 0, .inr (2, [.int 0, .int 0, .int 1, .int 0])), (q8 1, .inr (2, [.int 0, .int 0, .int 1, .int 0])), (q8 2, .inr (2, [.int 0, .int 0, .int 1, .int 0])), (q8 3, .inr (2, [.int 0, .int 0, .int 1, .int 0])), (q8 4, .inr (2, [.int 0, .int 0, .int 1, .int 0])), (q8 5, .inr (2, [.int 0, .int 0, .int 1, .int 0])), (q9 0, .inr (2, [.int 0, .int 0, .int 1, .int 0])), (q9 1, .inr (2, [.int 0, .int 0, .int 1, .int 0])), (q9 2, .inr (2, [.int 0, .int 0, .int 1, .int 0])), (q9 3, .inr (2, [.int 0, .int 0, .int 1, .int 0]))] H := hP
  have hD : va_D A [(b0, .inr (0, [.ref q1, .ref q2, .null, .null, .null, .null, .null, .int 0, .int 0, .long 0])), (q1, .inl (cI, 12, .inl firstV)), (q2, .inr (1, [.ref q3, .ref q4, .int 0, .int 0, .long 0, .long 687194752, .int 0, .int 0, .int 0, .int 0, .int 0, .int (r_meanF 687194752)])), (q3, .inl (cI, 16, .inl (fun _ => 0))), (q4, .inl (cI, 32, .inl v_niLo_0)), (q5, .inr (3, [.ref q6, .ref q7])), (q6, .inl (cP, 6, .inr (.inr (.inr (.inr (fun j => some (q8 j))))))), (q7, .inl (cP, 4, .inr (.inr (.inr (.inr (fun j => some (q9 j))))))), (q8 0, .inr (2, [.int 0, .int 0, .int 1, .int 0])), (q8 1, .inr (2, [.int 0, .int 0, .int 1, .int 0])), (q8 2, .inr (2, [.int 0, .int 0, .int 1, .int 0])), (q8 3, .inr (2, [.int 0, .int 0, .int 1, .int 0])), (q8 4, .inr (2, [.int 0, .int 0, .int 1, .int 0])), (q8 5, .inr (2, [.int 0, .int 0, .int 1, .int 0])), (q9 0, .inr (2, [.int 0, .int 0, .int 1, .int 0])), (q9 1, .inr (2, [.int 0, .int 0, .int 1, .int 0])), (q9 2, .inr (2, [.int 0, .int 0, .int 1, .int 0])), (q9 3, .inr (2, [.int 0, .int 0, .int 1, .int 0]))] := hD
  refine va_putF (D := (dC, dI)) (ci := 0) (v := .ref q5) (ty := (t_G 2)) (C := R_G) (T := T_G) (N := 10) hx hb hts uin_G t_G t_G_ok n_G hown hK hP hD hS 0 rfl rfl 2 (by decide) (hts _ wd_228) (fun _ h9 => h9) rfl hin rfl (by decide +kernel) rfl rfl (Nat.le_of_ble_eq_true rfl) d_G_init_36 (fun H locs hP hD hS => ?_)
  have hP : va_P (dC, dI) vwCl [(b0, .inr (0, [.ref q1, .ref q2, .ref q5, .null, .null, .null, .null, .int 0, .int 0, .long 0])), (q1, .inl (cI, 12, .inl firstV)), (q2, .inr (1, [.ref q3, .ref q4, .int 0, .int 0, .long 0, .long 687194752, .int 0, .int 0, .int 0, .int 0, .int 0, .int (r_meanF 687194752)])), (q3, .inl (cI, 16, .inl (fun _ => 0))), (q4, .inl (cI, 32, .inl v_niLo_0)), (q5, .inr (3, [.ref q6, .ref q7])), (q6, .inl (cP, 6, .inr (.inr (.inr (.inr (fun j => some (q8 j))))))), (q7, .inl (cP, 4, .inr (.inr (.inr (.inr (fun j => some (q9 j))))))), (q8 0, .inr (2, [.int 0, .int 0, .int 1, .int 0])), (q8 1, .inr (2, [.int 0, .int 0, .int 1, .int 0])), (q8 2, .inr (2, [.int 0, .int 0, .int 1, .int 0])), (q8 3, .inr (2, [.int 0, .int 0, .int 1, .int 0])), (q8 4, .inr (2, [.int 0, .int 0, .int 1, .int 0])), (q8 5, .inr (2, [.int 0, .int 0, .int 1, .int 0])), (q9 0, .inr (2, [.int 0, .int 0, .int 1, .int 0])), (q9 1, .inr (2, [.int 0, .int 0, .int 1, .int 0])), (q9 2, .inr (2, [.int 0, .int 0, .int 1, .int 0])), (q9 3, .inr (2, [.int 0, .int 0, .int 1, .int 0]))] H := hP
  have hD : va_D A [(b0, .inr (0, [.ref q1, .ref q2, .ref q5, .null, .null, .null, .null, .int 0, .int 0, .long 0])), (q1, .inl (cI, 12, .inl firstV)), (q2, .inr (1, [.ref q3, .ref q4, .int 0, .int 0, .long 0, .long 687194752, .int 0, .int 0, .int 0, .int 0, .int 0, .int (r_meanF 687194752)])), (q3, .inl (cI, 16, .inl (fun _ => 0))), (q4, .inl (cI, 32, .inl v_niLo_0)), (q5, .inr (3, [.ref q6, .ref q7])), (q6, .inl (cP, 6, .inr (.inr (.inr (.inr (fun j => some (q8 j))))))), (q7, .inl (cP, 4, .inr (.inr (.inr (.inr (fun j => some (q9 j))))))), (q8 0, .inr (2, [.int 0, .int 0, .int 1, .int 0])), (q8 1, .inr (2, [.int 0, .int 0, .int 1, .int 0])), (q8 2, .inr (2, [.int 0, .int 0, .int 1, .int 0])), (q8 3, .inr (2, [.int 0, .int 0, .int 1, .int 0])), (q8 4, .inr (2, [.int 0, .int 0, .int 1, .int 0])), (q8 5, .inr (2, [.int 0, .int 0, .int 1, .int 0])), (q9 0, .inr (2, [.int 0, .int 0, .int 1, .int 0])), (q9 1, .inr (2, [.int 0, .int 0, .int 1, .int 0])), (q9 2, .inr (2, [.int 0, .int 0, .int 1, .int 0])), (q9 3, .inr (2, [.int 0, .int 0, .int 1, .int 0]))] := hD
  refine lv_aload_n hx hb d_G_init_39 rfl (lv_at hl 0 rfl) ?_
  refine va_new (ci := 4) (fs := [.int 0, .int 0, .int 0, .int 0, .int 0, .int 0]) (C := R_Ko) (T := T_Ko) (N := 6) hx hb hts uin_Ko t_Ko t_Ko_ok hown (hts _ wd_131) (hts _ wd_132) (hts _ wd_6) hK hP hD hS hA rfl (by decide +kernel) (Nat.le_of_ble_eq_true rfl) (Nat.le_of_ble_eq_true rfl) d_G_init_40 (fun q10 H hP hD hS => ?_)
  have hP : va_P (dC, dI) vwCl [(b0, .inr (0, [.ref q1, .ref q2, .ref q5, .null, .null, .null, .null, .int 0, .int 0, .long 0])), (q1, .inl (cI, 12, .inl firstV)), (q2, .inr (1, [.ref q3, .ref q4, .int 0, .int 0, .long 0, .long 687194752, .int 0, .int 0, .int 0, .int 0, .int 0, .int (r_meanF 687194752)])), (q3, .inl (cI, 16, .inl (fun _ => 0))), (q4, .inl (cI, 32, .inl v_niLo_0)), (q5, .inr (3, [.ref q6, .ref q7])), (q6, .inl (cP, 6, .inr (.inr (.inr (.inr (fun j => some (q8 j))))))), (q7, .inl (cP, 4, .inr (.inr (.inr (.inr (fun j => some (q9 j))))))), (q8 0, .inr (2, [.int 0, .int 0, .int 1, .int 0])), (q8 1, .inr (2, [.int 0, .int 0, .int 1, .int 0])), (q8 2, .inr (2, [.int 0, .int 0, .int 1, .int 0])), (q8 3, .inr (2, [.int 0, .int 0, .int 1, .int 0])), (q8 4, .inr (2, [.int 0, .int 0, .int 1, .int 0])), (q8 5, .inr (2, [.int 0, .int 0, .int 1, .int 0])), (q9 0, .inr (2, [.int 0, .int 0, .int 1, .int 0])), (q9 1, .inr (2, [.int 0, .int 0, .int 1, .int 0])), (q9 2, .inr (2, [.int 0, .int 0, .int 1, .int 0])), (q9 3, .inr (2, [.int 0, .int 0, .int 1, .int 0])), (q10, .inr (4, [.int 0, .int 0, .int 0, .int 0, .int 0, .int 0]))] H := hP
  have hD : va_D A [(b0, .inr (0, [.ref q1, .ref q2, .ref q5, .null, .null, .null, .null, .int 0, .int 0, .long 0])), (q1, .inl (cI, 12, .inl firstV)), (q2, .inr (1, [.ref q3, .ref q4, .int 0, .int 0, .long 0, .long 687194752, .int 0, .int 0, .int 0, .int 0, .int 0, .int (r_meanF 687194752)])), (q3, .inl (cI, 16, .inl (fun _ => 0))), (q4, .inl (cI, 32, .inl v_niLo_0)), (q5, .inr (3, [.ref q6, .ref q7])), (q6, .inl (cP, 6, .inr (.inr (.inr (.inr (fun j => some (q8 j))))))), (q7, .inl (cP, 4, .inr (.inr (.inr (.inr (fun j => some (q9 j))))))), (q8 0, .inr (2, [.int 0, .int 0, .int 1, .int 0])), (q8 1, .inr (2, [.int 0, .int 0, .int 1, .int 0])), (q8 2, .inr (2, [.int 0, .int 0, .int 1, .int 0])), (q8 3, .inr (2, [.int 0, .int 0, .int 1, .int 0])), (q8 4, .inr (2, [.int 0, .int 0, .int 1, .int 0])), (q8 5, .inr (2, [.int 0, .int 0, .int 1, .int 0])), (q9 0, .inr (2, [.int 0, .int 0, .int 1, .int 0])), (q9 1, .inr (2, [.int 0, .int 0, .int 1, .int 0])), (q9 2, .inr (2, [.int 0, .int 0, .int 1, .int 0])), (q9 3, .inr (2, [.int 0, .int 0, .int 1, .int 0])), (q10, .inr (4, [.int 0, .int 0, .int 0, .int 0, .int 0, .int 0]))] := hD
  refine lv_dup hx hb d_G_init_43 rfl ?_
  have hFc := va_free (wc := [(q10, .inr (4, [.int 0, .int 0, .int 0, .int 0, .int 0, .int 0]))]) hD hS hA [18] rfl
  refine va_callv (va_runIN (As := []) (rest := [.ref q10, .ref b0]) ⟨hx, hb, hml, hown, hts⟩ (n_niKo l dC dI q10 H.size) (kw_IN (n := 0) hts hN wd_133 wd_134 wd_6 wd_135 rfl rfl rfl (by decide +kernel) ⟨Nat.le_of_ble_eq_true rfl, Nat.le_of_ble_eq_true rfl⟩) (kq_preMS hN (hP.sub (ws' := [(q10, .inr (4, [.int 0, .int 0, .int 0, .int 0, .int 0, .int 0]))]) [18] rfl) (hK.sub (tys' := []) [] rfl) (hD.sub (ws' := [(q10, .inr (4, [.int 0, .int 0, .int 0, .int 0, .int 0, .int 0]))]) [18] (by decide) rfl)) rfl rfl hl.1 rfl (lv_room (Nat.le_of_ble_eq_true rfl)) d_G_init_44 ⟨Nat.le_of_ble_eq_true rfl, Nat.le_of_ble_eq_true rfl⟩) hS (fun q _ h => hFc q h) hFc (fun u t H locs ht hvm _ hB hz1 hk1 hS => ?_)
  obtain ⟨hP1, hK1, hD1⟩ := hB
  rw [ht] at hP1
  obtain ⟨hP, hD⟩ := va_join (wr := [(b0, .inr (0, [.ref q1, .ref q2, .ref q5, .null, .null, .null, .null, .int 0, .int 0, .long 0])), (q1, .inl (cI, 12, .inl firstV)), (q2, .inr (1, [.ref q3, .ref q4, .int 0, .int 0, .long 0, .long 687194752, .int 0, .int 0, .int 0, .int 0, .int 0, .int (r_meanF 687194752)])), (q3, .inl (cI, 16, .inl (fun _ => 0))), (q4, .inl (cI, 32, .inl v_niLo_0)), (q5, .inr (3, [.ref q6, .ref q7])), (q6, .inl (cP, 6, .inr (.inr (.inr (.inr (fun j => some (q8 j))))))), (q7, .inl (cP, 4, .inr (.inr (.inr (.inr (fun j => some (q9 j))))))), (q8 0, .inr (2, [.int 0, .int 0, .int 1, .int 0])), (q8 1, .inr (2, [.int 0, .int 0, .int 1, .int 0])), (q8 2, .inr (2, [.int 0, .int 0, .int 1, .int 0])), (q8 3, .inr (2, [.int 0, .int 0, .int 1, .int 0])), (q8 4, .inr (2, [.int 0, .int 0, .int 1, .int 0])), (q8 5, .inr (2, [.int 0, .int 0, .int 1, .int 0])), (q9 0, .inr (2, [.int 0, .int 0, .int 1, .int 0])), (q9 1, .inr (2, [.int 0, .int 0, .int 1, .int 0])), (q9 2, .inr (2, [.int 0, .int 0, .int 1, .int 0])), (q9 3, .inr (2, [.int 0, .int 0, .int 1, .int 0]))]) (w1 := [(q10, .inr (4, [.int 0, .int 0, .int 0, .int 0, .int 0, .int 0]))]) hP hD [18] [0, 1, 2, 3, 4, 5, 6, 7, 8, 9, 10, 11, 12, 13, 14, 15, 16, 17] rfl rfl (by decide) (by decide) hk1 hFc hP1 hD1
  have hP : va_P (dC, dI) vwCl [(b0, .inr (0, [.ref q1, .ref q2, .ref q5, .null, .null, .null, .null, .int 0, .int 0, .long 0])), (q1, .inl (cI, 12, .inl firstV)), (q2, .inr (1, [.ref q3, .ref q4, .int 0, .int 0, .long 0, .long 687194752, .int 0, .int 0, .int 0, .int 0, .int 0, .int (r_meanF 687194752)])), (q3, .inl (cI, 16, .inl (fun _ => 0))), (q4, .inl (cI, 32, .inl v_niLo_0)), (q5, .inr (3, [.ref q6, .ref q7])), (q6, .inl (cP, 6, .inr (.inr (.inr (.inr (fun j => some (q8 j))))))), (q7, .inl (cP, 4, .inr (.inr (.inr (.inr (fun j => some (q9 j))))))), (q8 0, .inr (2, [.int 0, .int 0, .int 1, .int 0])), (q8 1, .inr (2, [.int 0, .int 0, .int 1, .int 0])), (q8 2, .inr (2, [.int 0, .int 0, .int 1, .int 0])), (q8 3, .inr (2, [.int 0, .int 0, .int 1, .int 0])), (q8 4, .inr (2, [.int 0, .int 0, .int 1, .int 0])), (q8 5, .inr (2, [.int 0, .int 0, .int 1, .int 0])), (q9 0, .inr (2, [.int 0, .int 0, .int 1, .int 0])), (q9 1, .inr (2, [.int 0, .int 0, .int 1, .int 0])), (q9 2, .inr (2, [.int 0, .int 0, .int 1, .int 0])), (q9 3, .inr (2, [.int 0, .int 0, .int 1, .int 0])), (q10, .inr (4, [.int 0, .int 0, .int 0, .int 0, .int 0, .int 0]))] H := hP
  have hD : va_D A [(b0, .inr (0, [.ref q1, .ref q2, .ref q5, .null, .null, .null, .null, .int 0, .int 0, .long 0])), (q1, .inl (cI, 12, .inl firstV)), (q2, .inr (1, [.ref q3, .ref q4, .int 0, .int 0, .long 0, .long 687194752, .int 0, .int 0, .int 0, .int 0, .int 0, .int (r_meanF 687194752)])), (q3, .inl (cI, 16, .inl (fun _ => 0))), (q4, .inl (cI, 32, .inl v_niLo_0)), (q5, .inr (3, [.ref q6, .ref q7])), (q6, .inl (cP, 6, .inr (.inr (.inr (.inr (fun j => some (q8 j))))))), (q7, .inl (cP, 4, .inr (.inr (.inr (.inr (fun j => some (q9 j))))))), (q8 0, .inr (2, [.int 0, .int 0, .int 1, .int 0])), (q8 1, .inr (2, [.int 0, .int 0, .int 1, .int 0])), (q8 2, .inr (2, [.int 0, .int 0, .int 1, .int 0])), (q8 3, .inr (2, [.int 0, .int 0, .int 1, .int 0])), (q8 4, .inr (2, [.int 0, .int 0, .int 1, .int 0])), (q8 5, .inr (2, [.int 0, .int 0, .int 1, .int 0])), (q9 0, .inr (2, [.int 0, .int 0, .int 1, .int 0])), (q9 1, .inr (2, [.int 0, .int 0, .int 1, .int 0])), (q9 2, .inr (2, [.int 0, .int 0, .int 1, .int 0])), (q9 3, .inr (2, [.int 0, .int 0, .int 1, .int 0])), (q10, .inr (4, [.int 0, .int 0, .int 0, .int 0, .int 0, .int 0]))] := hD
  refine va_putF (D := (dC, dI)) (ci := 0) (v := .ref q10) (ty := (t_G 3)) (C := R_G) (T := T_G) (N := 10) hx hb hts uin_G t_G t_G_ok n_G hown hK hP hD hS 0 rfl rfl 3 (by decide) (hts _ wd_229) (fun _ h9 => h9) rfl hin rfl (by decide +kernel) rfl rfl (Nat.le_of_ble_eq_true rfl) d_G_init_47 (fun H locs hP hD hS => ?_)
  have hP : va_P (dC, dI) vwCl [(b0, .inr (0, [.ref q1, .ref q2, .ref q5, .ref q10, .null, .null, .null, .int 0, .int 0, .long 0])), (q1, .inl (cI, 12, .inl firstV)), (q2, .inr (1, [.ref q3, .ref q4, .int 0, .int 0, .long 0, .long 687194752, .int 0, .int 0, .int 0, .int 0, .int 0, .int (r_meanF 687194752)])), (q3, .inl (cI, 16, .inl (fun _ => 0))), (q4, .inl (cI, 32, .inl v_niLo_0)), (q5, .inr (3, [.ref q6, .ref q7])), (q6, .inl (cP, 6, .inr (.inr (.inr (.inr (fun j => some (q8 j))))))), (q7, .inl (cP, 4, .inr (.inr (.inr (.inr (fun j => some (q9 j))))))), (q8 0, .inr (2, [.int 0, .int 0, .int 1, .int 0])), (q8 1, .inr (2, [.int 0, .int 0, .int 1, .int 0])), (q8 2, .inr (2, [.int 0, .int 0, .int 1, .int 0])), (q8 3, .inr (2, [.int 0, .int 0, .int 1, .int 0])), (q8 4, .inr (2, [.int 0, .int 0, .int 1, .int 0])), (q8 5, .inr (2, [.int 0, .int 0, .int 1, .int 0])), (q9 0, .inr (2, [.int 0, .int 0, .int 1, .int 0])), (q9 1, .inr (2, [.int 0, .int 0, .int 1, .int 0])), (q9 2, .inr (2, [.int 0, .int 0, .int 1, .int 0])), (q9 3, .inr (2, [.int 0, .int 0, .int 1, .int 0])), (q10, .inr (4, [.int 0, .int 0, .int 0, .int 0, .int 0, .int 0]))] H := hP
  have hD : va_D A [(b0, .inr (0, [.ref q1, .ref q2, .ref q5, .ref q10, .null, .null, .null, .int 0, .int 0, .long 0])), (q1, .inl (cI, 12, .inl firstV)), (q2, .inr (1, [.ref q3, .ref q4, .int 0, .int 0, .long 0, .long 687194752, .int 0, .int 0, .int 0, .int 0, .int 0, .int (r_meanF 687194752)])), (q3, .inl (cI, 16, .inl (fun _ => 0))), (q4, .inl (cI, 32, .inl v_niLo_0)), (q5, .inr (3, [.ref q6, .ref q7])), (q6, .inl (cP, 6, .inr (.inr (.inr (.inr (fun j => some (q8 j))))))), (q7, .inl (cP, 4, .inr (.inr (.inr (.inr (fun j => some (q9 j))))))), (q8 0, .inr (2, [.int 0, .int 0, .int 1, .int 0])), (q8 1, .inr (2, [.int 0, .int 0, .int 1, .int 0])), (q8 2, .inr (2, [.int 0, .int 0, .int 1, .int 0])), (q8 3, .inr (2, [.int 0, .int 0, .int 1, .int 0])), (q8 4, .inr (2, [.int 0, .int 0, .int 1, .int 0])), (q8 5, .inr (2, [.int 0, .int 0, .int 1, .int 0])), (q9 0, .inr (2, [.int 0, .int 0, .int 1, .int 0])), (q9 1, .inr (2, [.int 0, .int 0, .int 1, .int 0])), (q9 2, .inr (2, [.int 0, .int 0, .int 1, .int 0])), (q9 3, .inr (2, [.int 0, .int 0, .int 1, .int 0])), (q10, .inr (4, [.int 0, .int 0, .int 0, .int 0, .int 0, .int 0]))] := hD
  refine lv_aload_n hx hb d_G_init_50 rfl (lv_at hl 0 rfl) ?_
  refine va_new (ci := 5) (fs := [.int 0, .int 0, .int 0, .int 0, .int 0]) (C := R_Co) (T := T_Co) (N := 5) hx hb hts uin_Co t_Co t_Co_ok hown (hts _ wd_162) (hts _ wd_163) (hts _ wd_7) hK hP hD hS hA rfl (by decide +kernel) (Nat.le_of_ble_eq_true rfl) (Nat.le_of_ble_eq_true rfl) d_G_init_51 (fun q11 H hP hD hS => ?_)
  have hP : va_P (dC, dI) vwCl [(b0, .inr (0, [.ref q1, .ref q2, .ref q5, .ref q10, .null, .null, .null, .int 0, .int 0, .long 0])), (q1, .inl (cI, 12, .inl firstV)), (q2, .inr (1, [.ref q3, .ref q4, .int 0, .int 0, .long 0, .long 687194752, .int 0, .int 0, .int 0, .int 0, .int 0, .int (r_meanF 687194752)])), (q3, .inl (cI, 16, .inl (fun _ => 0))), (q4, .inl (cI, 32, .inl v_niLo_0)), (q5, .inr (3, [.ref q6, .ref q7])), (q6, .inl (cP, 6, .inr (.inr (.inr (.inr (fun j => some (q8 j))))))), (q7, .inl (cP, 4, .inr (.inr (.inr (.inr (fun j => some (q9 j))))))), (q8 0, .inr (2, [.int 0, .int 0, .int 1, .int 0])), (q8 1, .inr (2, [.int 0, .int 0, .int 1, .int 0])), (q8 2, .inr (2, [.int 0, .int 0, .int 1, .int 0])), (q8 3, .inr (2, [.int 0, .int 0, .int 1, .int 0])), (q8 4, .inr (2, [.int 0, .int 0, .int 1, .int 0])), (q8 5, .inr (2, [.int 0, .int 0, .int 1, .int 0])), (q9 0, .inr (2, [.int 0, .int 0, .int 1, .int 0])), (q9 1, .inr (2, [.int 0, .int 0, .int 1, .int 0])), (q9 2, .inr (2, [.int 0, .int 0, .int 1, .int 0])), (q9 3, .inr (2, [.int 0, .int 0, .int 1, .int 0])), (q10, .inr (4, [.int 0, .int 0, .int 0, .int 0, .int 0, .int 0])), (q11, .inr (5, [.int 0, .int 0, .int 0, .int 0, .int 0]))] H := hP
  have hD : va_D A [(b0, .inr (0, [.ref q1, .ref q2, .ref q5, .ref q10, .null, .null, .null, .int 0, .int 0, .long 0])), (q1, .inl (cI, 12, .inl firstV)), (q2, .inr (1, [.ref q3, .ref q4, .int 0, .int 0, .long 0, .long 687194752, .int 0, .int 0, .int 0, .int 0, .int 0, .int (r_meanF 687194752)])), (q3, .inl (cI, 16, .inl (fun _ => 0))), (q4, .inl (cI, 32, .inl v_niLo_0)), (q5, .inr (3, [.ref q6, .ref q7])), (q6, .inl (cP, 6, .inr (.inr (.inr (.inr (fun j => some (q8 j))))))), (q7, .inl (cP, 4, .inr (.inr (.inr (.inr (fun j => some (q9 j))))))), (q8 0, .inr (2, [.int 0, .int 0, .int 1, .int 0])), (q8 1, .inr (2, [.int 0, .int 0, .int 1, .int 0])), (q8 2, .inr (2, [.int 0, .int 0, .int 1, .int 0])), (q8 3, .inr (2, [.int 0, .int 0, .int 1, .int 0])), (q8 4, .inr (2, [.int 0, .int 0, .int 1, .int 0])), (q8 5, .inr (2, [.int 0, .int 0, .int 1, .int 0])), (q9 0, .inr (2, [.int 0, .int 0, .int 1, .int 0])), (q9 1, .inr (2, [.int 0, .int 0, .int 1, .int 0])), (q9 2, .inr (2, [.int 0, .int 0, .int 1, .int 0])), (q9 3, .inr (2, [.int 0, .int 0, .int 1, .int 0])), (q10, .inr (4, [.int 0, .int 0, .int 0, .int 0, .int 0, .int 0])), (q11, .inr (5, [.int 0, .int 0, .int 0, .int 0, .int 0]))] := hD
  refine lv_dup hx hb d_G_init_54 rfl ?_
  have hFc := va_free (wc := [(q11, .inr (5, [.int 0, .int 0, .int 0, .int 0, .int 0]))]) hD hS hA [19] rfl
  refine va_callv (va_runIN (As := []) (rest := [.ref q11, .ref b0]) ⟨hx, hb, hml, hown, hts⟩ (n_niCo l dC dI q11 H.size) (kw_IN (n := 0) hts hN wd_164 wd_165 wd_7 wd_166 rfl rfl rfl (by decide +kernel) ⟨Nat.le_of_ble_eq_true rfl, Nat.le_of_ble_eq_true rfl⟩) (kq_preMS hN (hP.sub (ws' := [(q11, .inr (5, [.int 0, .int 0, .int 0, .int 0, .int 0]))]) [19] rfl) (hK.sub (tys' := []) [] rfl) (hD.sub (ws' := [(q11, .inr (5, [.int 0, .int 0, .int 0, .int 0, .int 0]))]) [19] (by decide) rfl)) rfl rfl hl.1 rfl (lv_room (Nat.le_of_ble_eq_true rfl)) d_G_init_55 ⟨Nat.le_of_ble_eq_true rfl, Nat.le_of_ble_eq_true rfl⟩) hS (fun q _ h => hFc q h) hFc (fun u t H locs ht hvm _ hB hz1 hk1 hS => ?_)
  obtain ⟨hP1, hK1, hD1⟩ := hB
  rw [ht] at hP1
  obtain ⟨hP, hD⟩ := va_join (wr := [(b0, .inr (0, [.ref q1, .ref q2, .ref q5, .ref q10, .null, .null, .null, .int 0, .int 0, .long 0])), (q1, .inl (cI, 12, .inl firstV)), (q2, .inr (1, [.ref q3, .ref q4, .int 0, .int 0, .long 0, .long 687194752, .int 0, .int 0, .int 0, .int 0, .int 0, .int (r_meanF 687194752)])), (q3, .inl (cI, 16, .inl (fun _ => 0))), (q4, .inl (cI, 32, .inl v_niLo_0)), (q5, .inr (3, [.ref q6, .ref q7])), (q6, .inl (cP, 6, .inr (.inr (.inr (.inr (fun j => some (q8 j))))))), (q7, .inl (cP, 4, .inr (.inr (.inr (.inr (fun j => some (q9 j))))))), (q8 0, .inr (2, [.int 0, .int 0, .int 1, .int 0])), (q8 1, .inr (2, [.int 0, .int 0, .int 1, .int 0])), (q8 2, .inr (2, [.int 0, .int 0, .int 1, .int 0])), (q8 3, .inr (2, [.int 0, .int 0, .int 1, .int 0])), (q8 4, .inr (2, [.int 0, .int 0, .int 1, .int 0])), (q8 5, .inr (2, [.int 0, .int 0, .int 1, .int 0])), (q9 0, .inr (2, [.int 0, .int 0, .int 1, .int 0])), (q9 1, .inr (2, [.int 0, .int 0, .int 1, .int 0])), (q9 2, .inr (2, [.int 0, .int 0, .int 1, .int 0])), (q9 3, .inr (2, [.int 0, .int 0, .int 1, .int 0])), (q10, .inr (4, [.int 0, .int 0, .int 0, .int 0, .int 0, .int 0]))]) (w1 := [(q11, .inr (5, [.int 0, .int 0, .int 0, .int 0, .int 0]))]) hP hD [19] [0, 1, 2, 3, 4, 5, 6, 7, 8, 9, 10, 11, 12, 13, 14, 15, 16, 17, 18] rfl rfl (by decide) (by decide) hk1 hFc hP1 hD1
  have hP : va_P (dC, dI) vwCl [(b0, .inr (0, [.ref q1, .ref q2, .ref q5, .ref q10, .null, .null, .null, .int 0, .int 0, .long 0])), (q1, .inl (cI, 12, .inl firstV)), (q2, .inr (1, [.ref q3, .ref q4, .int 0, .int 0, .long 0, .long 687194752, .int 0, .int 0, .int 0, .int 0, .int 0, .int (r_meanF 687194752)])), (q3, .inl (cI, 16, .inl (fun _ => 0))), (q4, .inl (cI, 32, .inl v_niLo_0)), (q5, .inr (3, [.ref q6, .ref q7])), (q6, .inl (cP, 6, .inr (.inr (.inr (.inr (fun j => some (q8 j))))))), (q7, .inl (cP, 4, .inr (.inr (.inr (.inr (fun j => some (q9 j))))))), (q8 0, .inr (2, [.int 0, .int 0, .int 1, .int 0])), (q8 1, .inr (2, [.int 0, .int 0, .int 1, .int 0])), (q8 2, .inr (2, [.int 0, .int 0, .int 1, .int 0])), (q8 3, .inr (2, [.int 0, .int 0, .int 1, .int 0])), (q8 4, .inr (2, [.int 0, .int 0, .int 1, .int 0])), (q8 5, .inr (2, [.int 0, .int 0, .int 1, .int 0])), (q9 0, .inr (2, [.int 0, .int 0, .int 1, .int 0])), (q9 1, .inr (2, [.int 0, .int 0, .int 1, .int 0])), (q9 2, .inr (2, [.int 0, .int 0, .int 1, .int 0])), (q9 3, .inr (2, [.int 0, .int 0, .int 1, .int 0])), (q10, .inr (4, [.int 0, .int 0, .int 0, .int 0, .int 0, .int 0])), (q11, .inr (5, [.int 0, .int 0, .int 0, .int 0, .int 0]))] H := hP
  have hD : va_D A [(b0, .inr (0, [.ref q1, .ref q2, .ref q5, .ref q10, .null, .null, .null, .int 0, .int 0, .long 0])), (q1, .inl (cI, 12, .inl firstV)), (q2, .inr (1, [.ref q3, .ref q4, .int 0, .int 0, .long 0, .long 687194752, .int 0, .int 0, .int 0, .int 0, .int 0, .int (r_meanF 687194752)])), (q3, .inl (cI, 16, .inl (fun _ => 0))), (q4, .inl (cI, 32, .inl v_niLo_0)), (q5, .inr (3, [.ref q6, .ref q7])), (q6, .inl (cP, 6, .inr (.inr (.inr (.inr (fun j => some (q8 j))))))), (q7, .inl (cP, 4, .inr (.inr (.inr (.inr (fun j => some (q9 j))))))), (q8 0, .inr (2, [.int 0, .int 0, .int 1, .int 0])), (q8 1, .inr (2, [.int 0, .int 0, .int 1, .int 0])), (q8 2, .inr (2, [.int 0, .int 0, .int 1, .int 0])), (q8 3, .inr (2, [.int 0, .int 0, .int 1, .int 0])), (q8 4, .inr (2, [.int 0, .int 0, .int 1, .int 0])), (q8 5, .inr (2, [.int 0, .int 0, .int 1, .int 0])), (q9 0, .inr (2, [.int 0, .int 0, .int 1, .int 0])), (q9 1, .inr (2, [.int 0, .int 0, .int 1, .int 0])), (q9 2, .inr (2, [.int 0, .int 0, .int 1, .int 0])), (q9 3, .inr (2, [.int 0, .int 0, .int 1, .int 0])), (q10, .inr (4, [.int 0, .int 0, .int 0, .int 0, .int 0, .int 0])), (q11, .inr (5, [.int 0, .int 0, .int 0, .int 0, .int 0]))] := hD
  refine va_putF (D := (dC, dI)) (ci := 0) (v := .ref q11) (ty := (t_G 4)) (C := R_G) (T := T_G) (N := 10) hx hb hts uin_G t_G t_G_ok n_G hown hK hP hD hS 0 rfl rfl 4 (by decide) (hts _ wd_230) (fun _ h9 => h9) rfl hin rfl (by decide +kernel) rfl rfl (Nat.le_of_ble_eq_true rfl) d_G_init_58 (fun H locs hP hD hS => ?_)
  have hP : va_P (dC, dI) vwCl [(b0, .inr (0, [.ref q1, .ref q2, .ref q5, .ref q10, .ref q11, .null, .null, .int 0, .int 0, .long 0])), (q1, .inl (cI, 12, .inl firstV)), (q2, .inr (1, [.ref q3, .ref q4, .int 0, .int 0, .long 0, .long 687194752, .int 0, .int 0, .int 0, .int 0, .int 0, .int (r_meanF 687194752)])), (q3, .inl (cI, 16, .inl (fun _ => 0))), (q4, .inl (cI, 32, .inl v_niLo_0)), (q5, .inr (3, [.ref q6, .ref q7])), (q6, .inl (cP, 6, .inr (.inr (.inr (.inr (fun j => some (q8 j))))))), (q7, .inl (cP, 4, .inr (.inr (.inr (.inr (fun j => some (q9 j))))))), (q8 0, .inr (2, [.int 0, .int 0, .int 1, .int 0])), (q8 1, .inr (2, [.int 0, .int 0, .int 1, .int 0])), (q8 2, .inr (2, [.int 0, .int 0, .int 1, .int 0])), (q8 3, .inr (2, [.int 0, .int 0, .int 1, .int 0])), (q8 4, .inr (2, [.int 0, .int 0, .int 1, .int 0])), (q8 5, .inr (2, [.int 0, .int 0, .int 1, .int 0])), (q9 0, .inr (2, [.int 0, .int 0, .int 1, .int 0])), (q9 1, .inr (2, [.int 0, .int 0, .int 1, .int 0])), (q9 2, .inr (2, [.int 0, .int 0, .int 1, .int 0])), (q9 3, .inr (2, [.int 0, .int 0, .int 1, .int 0])), (q10, .inr (4, [.int 0, .int 0, .int 0, .int 0, .int 0, .int 0])), (q11, .inr (5, [.int 0, .int 0, .int 0, .int 0, .int 0]))] H := hP
  have hD : va_D A [(b0, .inr (0, [.ref q1, .ref q2, .ref q5, .ref q10, .ref q11, .null, .null, .int 0, .int 0, .long 0])), (q1, .inl (cI, 12, .inl firstV)), (q2, .inr (1, [.ref q3, .ref q4, .int 0, .int 0, .long 0, .long 687194752, .int 0, .int 0, .int 0, .int 0, .int 0, .int (r_meanF 687194752)])), (q3, .inl (cI, 16, .inl (fun _ => 0))), (q4, .inl (cI, 32, .inl v_niLo_0)), (q5, .inr (3, [.ref q6, .ref q7])), (q6, .inl (cP, 6, .inr (.inr (.inr (.inr (fun j => some (q8 j))))))), (q7, .inl (cP, 4, .inr (.inr (.inr (.inr (fun j => some (q9 j))))))), (q8 0, .inr (2, [.int 0, .int 0, .int 1, .int 0])), (q8 1, .inr (2, [.int 0, .int 0, .int 1, .int 0])), (q8 2, .inr (2, [.int 0, .int 0, .int 1, .int 0])), (q8 3, .inr (2, [.int 0, .int 0, .int 1, .int 0])), (q8 4, .inr (2, [.int 0, .int 0, .int 1, .int 0])), (q8 5, .inr (2, [.int 0, .int 0, .int 1, .int 0])), (q9 0, .inr (2, [.int 0, .int 0, .int 1, .int 0])), (q9 1, .inr (2, [.int 0, .int 0, .int 1, .int 0])), (q9 2, .inr (2, [.int 0, .int 0, .int 1, .int 0])), (q9 3, .inr (2, [.int 0, .int 0, .int 1, .int 0])), (q10, .inr (4, [.int 0, .int 0, .int 0, .int 0, .int 0, .int 0])), (q11, .inr (5, [.int 0, .int 0, .int 0, .int 0, .int 0]))] := hD
  refine lv_aload_n hx hb d_G_init_61 rfl (lv_at hl 0 rfl) ?_
  refine va_new (ci := 6) (fs := [.int 0, .int 0, .int 0, .int 0]) (C := R_Og) (T := T_Og) (N := 4) hx hb hts uin_Og t_Og t_Og_ok hown (hts _ wd_189) (hts _ wd_190) (hts _ wd_8) hK hP hD hS hA rfl (by decide +kernel) (Nat.le_of_ble_eq_true rfl) (Nat.le_of_ble_eq_true rfl) d_G_init_62 (fun q12 H hP hD hS => ?_)
  have hP : va_P (dC, dI) vwCl [(b0, .inr (0, [.ref q1, .ref q2, .ref q5, .ref q10, .ref q11, .null, .null, .int 0, .int 0, .long 0])), (q1, .inl (cI, 12, .inl firstV)), (q2, .inr (1, [.ref q3, .ref q4, .int 0, .int 0, .long 0, .long 687194752, .int 0, .int 0, .int 0, .int 0, .int 0, .int (r_meanF 687194752)])), (q3, .inl (cI, 16, .inl (fun _ => 0))), (q4, .inl (cI, 32, .inl v_niLo_0)), (q5, .inr (3, [.ref q6, .ref q7])), (q6, .inl (cP, 6, .inr (.inr (.inr (.inr (fun j => some (q8 j))))))), (q7, .inl (cP, 4, .inr (.inr (.inr (.inr (fun j => some (q9 j))))))), (q8 0, .inr (2, [.int 0, .int 0, .int 1, .int 0])), (q8 1, .inr (2, [.int 0, .int 0, .int 1, .int 0])), (q8 2, .inr (2, [.int 0, .int 0, .int 1, .int 0])), (q8 3, .inr (2, [.int 0, .int 0, .int 1, .int 0])), (q8 4, .inr (2, [.int 0, .int 0, .int 1, .int 0])), (q8 5, .inr (2, [.int 0, .int 0, .int 1, .int 0])), (q9 0, .inr (2, [.int 0, .int 0, .int 1, .int 0])), (q9 1, .inr (2, [.int 0, .int 0, .int 1, .int 0])), (q9 2, .inr (2, [.int 0, .int 0, .int 1, .int 0])), (q9 3, .inr (2, [.int 0, .int 0, .int 1, .int 0])), (q10, .inr (4, [.int 0, .int 0, .int 0, .int 0, .int 0, .int 0])), (q11, .inr (5, [.int 0, .int 0, .int 0, .int 0, .int 0])), (q12, .inr (6, [.int 0, .int 0, .int 0, .int 0]))] H := hP
  have hD : va_D A [(b0, .inr (0, [.ref q1, .ref q2, .ref q5, .ref q10, .ref q11, .null, .null, .int 0, .int 0, .long 0])), (q1, .inl (cI, 12, .inl firstV)), (q2, .inr (1, [.ref q3, .ref q4, .int 0, .int 0, .long 0, .long 687194752, .int 0, .int 0, .int 0, .int 0, .int 0, .int (r_meanF 687194752)])), (q3, .inl (cI, 16, .inl (fun _ => 0))), (q4, .inl (cI, 32, .inl v_niLo_0)), (q5, .inr (3, [.ref q6, .ref q7])), (q6, .inl (cP, 6, .inr (.inr (.inr (.inr (fun j => some (q8 j))))))), (q7, .inl (cP, 4, .inr (.inr (.inr (.inr (fun j => some (q9 j))))))), (q8 0, .inr (2, [.int 0, .int 0, .int 1, .int 0])), (q8 1, .inr (2, [.int 0, .int 0, .int 1, .int 0])), (q8 2, .inr (2, [.int 0, .int 0, .int 1, .int 0])), (q8 3, .inr (2, [.int 0, .int 0, .int 1, .int 0])), (q8 4, .inr (2, [.int 0, .int 0, .int 1, .int 0])), (q8 5, .inr (2, [.int 0, .int 0, .int 1, .int 0])), (q9 0, .inr (2, [.int 0, .int 0, .int 1, .int 0])), (q9 1, .inr (2, [.int 0, .int 0, .int 1, .int 0])), (q9 2, .inr (2, [.int 0, .int 0, .int 1, .int 0])), (q9 3, .inr (2, [.int 0, .int 0, .int 1, .int 0])), (q10, .inr (4, [.int 0, .int 0, .int 0, .int 0, .int 0, .int 0])), (q11, .inr (5, [.int 0, .int 0, .int 0, .int 0, .int 0])), (q12, .inr (6, [.int 0, .int 0, .int 0, .int 0]))] := hD
  refine lv_dup hx hb d_G_init_65 rfl ?_
  have hFc := va_free (wc := [(q12, .inr (6, [.int 0, .int 0, .int 0, .int 0]))]) hD hS hA [20] rfl
  refine va_callv (va_runIN (As := []) (rest := [.ref q12, .ref b0]) ⟨hx, hb, hml, hown, hts⟩ (n_niOg l dC dI q12 H.size) (kw_IN (n := 0) hts hN wd_191 wd_192 wd_8 wd_193 rfl rfl rfl (by decide +kernel) ⟨Nat.le_of_ble_eq_true rfl, Nat.le_of_ble_eq_true rfl⟩) (kq_preMS hN (hP.sub (ws' := [(q12, .inr (6, [.int 0, .int 0, .int 0, .int 0]))]) [20] rfl) (hK.sub (tys' := []) [] rfl) (hD.sub (ws' := [(q12, .inr (6, [.int 0, .int 0, .int 0, .int 0]))]) [20] (by decide) rfl)) rfl rfl hl.1 rfl (lv_room (Nat.le_of_ble_eq_true rfl)) d_G_init_66 ⟨Nat.le_of_ble_eq_true rfl, Nat.le_of_ble_eq_true rfl⟩) hS (fun q _ h => hFc q h) hFc (fun u t H locs ht hvm _ hB hz1 hk1 hS => ?_)
  obtain ⟨hP1, hK1, hD1⟩ := hB
  rw [ht] at hP1
  obtain ⟨hP, hD⟩ := va_join (wr := [(b0, .inr (0, [.ref q1, .ref q2, .ref q5, .ref q10, .ref q11, .null, .null, .int 0, .int 0, .long 0])), (q1, .inl (cI, 12, .inl firstV)), (q2, .inr (1, [.ref q3, .ref q4, .int 0, .int 0, .long 0, .long 687194752, .int 0, .int 0, .int 0, .int 0, .int 0, .int (r_meanF 687194752)])), (q3, .inl (cI, 16, .inl (fun _ => 0))), (q4, .inl (cI, 32, .inl v_niLo_0)), (q5, .inr (3, [.ref q6, .ref q7])), (q6, .inl (cP, 6, .inr (.inr (.inr (.inr (fun j => some (q8 j))))))), (q7, .inl (cP, 4, .inr (.inr (.inr (.inr (fun j => some (q9 j))))))), (q8 0, .inr (2, [.int 0, .int 0, .int 1, .int 0])), (q8 1, .inr (2, [.int 0, .int 0, .int 1, .int 0])), (q8 2, .inr (2, [.int 0, .int 0, .int 1, .int 0])), (q8 3, .inr (2, [.int 0, .int 0, .int 1, .int 0])), (q8 4, .inr (2, [.int 0, .int 0, .int 1, .int 0])), (q8 5, .inr (2, [.int 0, .int 0, .int 1, .int 0])), (q9 0, .inr (2, [.int 0, .int 0, .int 1, .int 0])), (q9 1, .inr (2, [.int 0, .int 0, .int 1, .int 0])), (q9 2, .inr (2, [.int 0, .int 0, .int 1, .int 0])), (q9 3, .inr (2, [.int 0, .int 0, .int 1, .int 0])), (q10, .inr (4, [.int 0, .int 0, .int 0, .int 0, .int 0, .int 0])), (q11, .inr (5, [.int 0, .int 0, .int 0, .int 0, .int 0]))]) (w1 := [(q12, .inr (6, [.int 0, .int 0, .int 0, .int 0]))]) hP hD [20] [0, 1, 2, 3, 4, 5, 6, 7, 8, 9, 10, 11, 12, 13, 14, 15, 16, 17, 18, 19] rfl rfl (by decide) (by decide) hk1 hFc hP1 hD1
  have hP : va_P (dC, dI) vwCl [(b0, .inr (0, [.ref q1, .ref q2, .ref q5, .ref q10, .ref q11, .null, .null, .int 0, .int 0, .long 0])), (q1, .inl (cI, 12, .inl firstV)), (q2, .inr (1, [.ref q3, .ref q4, .int 0, .int 0, .long 0, .long 687194752, .int 0, .int 0, .int 0, .int 0, .int 0, .int (r_meanF 687194752)])), (q3, .inl (cI, 16, .inl (fun _ => 0))), (q4, .inl (cI, 32, .inl v_niLo_0)), (q5, .inr (3, [.ref q6, .ref q7])), (q6, .inl (cP, 6, .inr (.inr (.inr (.inr (fun j => some (q8 j))))))), (q7, .inl (cP, 4, .inr (.inr (.inr (.inr (fun j => some (q9 j))))))), (q8 0, .inr (2, [.int 0, .int 0, .int 1, .int 0])), (q8 1, .inr (2, [.int 0, .int 0, .int 1, .int 0])), (q8 2, .inr (2, [.int 0, .int 0, .int 1, .int 0])), (q8 3, .inr (2, [.int 0, .int 0, .int 1, .int 0])), (q8 4, .inr (2, [.int 0, .int 0, .int 1, .int 0])), (q8 5, .inr (2, [.int 0, .int 0, .int 1, .int 0])), (q9 0, .inr (2, [.int 0, .int 0, .int 1, .int 0])), (q9 1, .inr (2, [.int 0, .int 0, .int 1, .int 0])), (q9 2, .inr (2, [.int 0, .int 0, .int 1, .int 0])), (q9 3, .inr (2, [.int 0, .int 0, .int 1, .int 0])), (q10, .inr (4, [.int 0, .int 0, .int 0, .int 0, .int 0, .int 0])), (q11, .inr (5, [.int 0, .int 0, .int 0, .int 0, .int 0])), (q12, .inr (6, [.int 0, .int 0, .int 0, .int 0]))] H := hP
  have hD : va_D A [(b0, .inr (0, [.ref q1, .ref q2, .ref q5, .ref q10, .ref q11, .null, .null, .int 0, .int 0, .long 0])), (q1, .inl (cI, 12, .inl firstV)), (q2, .inr (1, [.ref q3, .ref q4, .int 0, .int 0, .long 0, .long 687194752, .int 0, .int 0, .int 0, .int 0, .int 0, .int (r_meanF 687194752)])), (q3, .inl (cI, 16, .inl (fun _ => 0))), (q4, .inl (cI, 32, .inl v_niLo_0)), (q5, .inr (3, [.ref q6, .ref q7])), (q6, .inl (cP, 6, .inr (.inr (.inr (.inr (fun j => some (q8 j))))))), (q7, .inl (cP, 4, .inr (.inr (.inr (.inr (fun j => some (q9 j))))))), (q8 0, .inr (2, [.int 0, .int 0, .int 1, .int 0])), (q8 1, .inr (2, [.int 0, .int 0, .int 1, .int 0])), (q8 2, .inr (2, [.int 0, .int 0, .int 1, .int 0])), (q8 3, .inr (2, [.int 0, .int 0, .int 1, .int 0])), (q8 4, .inr (2, [.int 0, .int 0, .int 1, .int 0])), (q8 5, .inr (2, [.int 0, .int 0, .int 1, .int 0])), (q9 0, .inr (2, [.int 0, .int 0, .int 1, .int 0])), (q9 1, .inr (2, [.int 0, .int 0, .int 1, .int 0])), (q9 2, .inr (2, [.int 0, .int 0, .int 1, .int 0])), (q9 3, .inr (2, [.int 0, .int 0, .int 1, .int 0])), (q10, .inr (4, [.int 0, .int 0, .int 0, .int 0, .int 0, .int 0])), (q11, .inr (5, [.int 0, .int 0, .int 0, .int 0, .int 0])), (q12, .inr (6, [.int 0, .int 0, .int 0, .int 0]))] := hD
  refine va_putF (D := (dC, dI)) (ci := 0) (v := .ref q12) (ty := (t_G 5)) (C := R_G) (T := T_G) (N := 10) hx hb hts uin_G t_G t_G_ok n_G hown hK hP hD hS 0 rfl rfl 5 (by decide) (hts _ wd_231) (fun _ h9 => h9) rfl hin rfl (by decide +kernel) rfl rfl (Nat.le_of_ble_eq_true rfl) d_G_init_69 (fun H locs hP hD hS => ?_)
  have hP : va_P (dC, dI) vwCl [(b0, .inr (0, [.ref q1, .ref q2, .ref q5, .ref q10, .ref q11, .ref q12, .null, .int 0, .int 0, .long 0])), (q1, .inl (cI, 12, .inl firstV)), (q2, .inr (1, [.ref q3, .ref q4, .int 0, .int 0, .long 0, .long 687194752, .int 0, .int 0, .int 0, .int 0, .int 0, .int (r_meanF 687194752)])), (q3, .inl (cI, 16, .inl (fun _ => 0))), (q4, .inl (cI, 32, .inl v_niLo_0)), (q5, .inr (3, [.ref q6, .ref q7])), (q6, .inl (cP, 6, .inr (.inr (.inr (.inr (fun j => some (q8 j))))))), (q7, .inl (cP, 4, .inr (.inr (.inr (.inr (fun j => some (q9 j))))))), (q8 0, .inr (2, [.int 0, .int 0, .int 1, .int 0])), (q8 1, .inr (2, [.int 0, .int 0, .int 1, .int 0])), (q8 2, .inr (2, [.int 0, .int 0, .int 1, .int 0])), (q8 3, .inr (2, [.int 0, .int 0, .int 1, .int 0])), (q8 4, .inr (2, [.int 0, .int 0, .int 1, .int 0])), (q8 5, .inr (2, [.int 0, .int 0, .int 1, .int 0])), (q9 0, .inr (2, [.int 0, .int 0, .int 1, .int 0])), (q9 1, .inr (2, [.int 0, .int 0, .int 1, .int 0])), (q9 2, .inr (2, [.int 0, .int 0, .int 1, .int 0])), (q9 3, .inr (2, [.int 0, .int 0, .int 1, .int 0])), (q10, .inr (4, [.int 0, .int 0, .int 0, .int 0, .int 0, .int 0])), (q11, .inr (5, [.int 0, .int 0, .int 0, .int 0, .int 0])), (q12, .inr (6, [.int 0, .int 0, .int 0, .int 0]))] H := hP
  have hD : va_D A [(b0, .inr (0, [.ref q1, .ref q2, .ref q5, .ref q10, .ref q11, .ref q12, .null, .int 0, .int 0, .long 0])), (q1, .inl (cI, 12, .inl firstV)), (q2, .inr (1, [.ref q3, .ref q4, .int 0, .int 0, .long 0, .long 687194752, .int 0, .int 0, .int 0, .int 0, .int 0, .int (r_meanF 687194752)])), (q3, .inl (cI, 16, .inl (fun _ => 0))), (q4, .inl (cI, 32, .inl v_niLo_0)), (q5, .inr (3, [.ref q6, .ref q7])), (q6, .inl (cP, 6, .inr (.inr (.inr (.inr (fun j => some (q8 j))))))), (q7, .inl (cP, 4, .inr (.inr (.inr (.inr (fun j => some (q9 j))))))), (q8 0, .inr (2, [.int 0, .int 0, .int 1, .int 0])), (q8 1, .inr (2, [.int 0, .int 0, .int 1, .int 0])), (q8 2, .inr (2, [.int 0, .int 0, .int 1, .int 0])), (q8 3, .inr (2, [.int 0, .int 0, .int 1, .int 0])), (q8 4, .inr (2, [.int 0, .int 0, .int 1, .int 0])), (q8 5, .inr (2, [.int 0, .int 0, .int 1, .int 0])), (q9 0, .inr (2, [.int 0, .int 0, .int 1, .int 0])), (q9 1, .inr (2, [.int 0, .int 0, .int 1, .int 0])), (q9 2, .inr (2, [.int 0, .int 0, .int 1, .int 0])), (q9 3, .inr (2, [.int 0, .int 0, .int 1, .int 0])), (q10, .inr (4, [.int 0, .int 0, .int 0, .int 0, .int 0, .int 0])), (q11, .inr (5, [.int 0, .int 0, .int 0, .int 0, .int 0])), (q12, .inr (6, [.int 0, .int 0, .int 0, .int 0]))] := hD
  refine lv_aload_n hx hb d_G_init_72 rfl (lv_at hl 0 rfl) ?_
  refine va_new (ci := 7) (fs := [.null, .null, .int 0]) (C := R_Ev) (T := T_Ev) (N := 3) hx hb hts uin_Ev t_Ev t_Ev_ok hown (hts _ wd_209) (hts _ wd_210) (hts _ wd_9) hK hP hD hS hA rfl (by decide +kernel) (Nat.le_of_ble_eq_true rfl) (Nat.le_of_ble_eq_true rfl) d_G_init_73 (fun q13 H hP hD hS => ?_)
  have hP : va_P (dC, dI) vwCl [(b0, .inr (0, [.ref q1, .ref q2, .ref q5, .ref q10, .ref q11, .ref q12, .null, .int 0, .int 0, .long 0])), (q1, .inl (cI, 12, .inl firstV)), (q2, .inr (1, [.ref q3, .ref q4, .int 0, .int 0, .long 0, .long 687194752, .int 0, .int 0, .int 0, .int 0, .int 0, .int (r_meanF 687194752)])), (q3, .inl (cI, 16, .inl (fun _ => 0))), (q4, .inl (cI, 32, .inl v_niLo_0)), (q5, .inr (3, [.ref q6, .ref q7])), (q6, .inl (cP, 6, .inr (.inr (.inr (.inr (fun j => some (q8 j))))))), (q7, .inl (cP, 4, .inr (.inr (.inr (.inr (fun j => some (q9 j))))))), (q8 0, .inr (2, [.int 0, .int 0, .int 1, .int 0])), (q8 1, .inr (2, [.int 0, .int 0, .int 1, .int 0])), (q8 2, .inr (2, [.int 0, .int 0, .int 1, .int 0])), (q8 3, .inr (2, [.int 0, .int 0, .int 1, .int 0])), (q8 4, .inr (2, [.int 0, .int 0, .int 1, .int 0])), (q8 5, .inr (2, [.int 0, .int 0, .int 1, .int 0])), (q9 0, .inr (2, [.int 0, .int 0, .int 1, .int 0])), (q9 1, .inr (2, [.int 0, .int 0, .int 1, .int 0])), (q9 2, .inr (2, [.int 0, .int 0, .int 1, .int 0])), (q9 3, .inr (2, [.int 0, .int 0, .int 1, .int 0])), (q10, .inr (4, [.int 0, .int 0, .int 0, .int 0, .int 0, .int 0])), (q11, .inr (5, [.int 0, .int 0, .int 0, .int 0, .int 0])), (q12, .inr (6, [.int 0, .int 0, .int 0, .int 0])), (q13, .inr (7, [.null, .null, .int 0]))] H := hP
  have hD : va_D A [(b0, .inr (0, [.ref q1, .ref q2, .ref q5, .ref q10, .ref q11, .ref q12, .null, .int 0, .int 0, .long 0])), (q1, .inl (cI, 12, .inl firstV)), (q2, .inr (1, [.ref q3, .ref q4, .int 0, .int 0, .long 0, .long 687194752, .int 0, .int 0, .int 0, .int 0, .int 0, .int (r_meanF 687194752)])), (q3, .inl (cI, 16, .inl (fun _ => 0))), (q4, .inl (cI, 32, .inl v_niLo_0)), (q5, .inr (3, [.ref q6, .ref q7])), (q6, .inl (cP, 6, .inr (.inr (.inr (.inr (fun j => some (q8 j))))))), (q7, .inl (cP, 4, .inr (.inr (.inr (.inr (fun j => some (q9 j))))))), (q8 0, .inr (2, [.int 0, .int 0, .int 1, .int 0])), (q8 1, .inr (2, [.int 0, .int 0, .int 1, .int 0])), (q8 2, .inr (2, [.int 0, .int 0, .int 1, .int 0])), (q8 3, .inr (2, [.int 0, .int 0, .int 1, .int 0])), (q8 4, .inr (2, [.int 0, .int 0, .int 1, .int 0])), (q8 5, .inr (2, [.int 0, .int 0, .int 1, .int 0])), (q9 0, .inr (2, [.int 0, .int 0, .int 1, .int 0])), (q9 1, .inr (2, [.int 0, .int 0, .int 1, .int 0])), (q9 2, .inr (2, [.int 0, .int 0, .int 1, .int 0])), (q9 3, .inr (2, [.int 0, .int 0, .int 1, .int 0])), (q10, .inr (4, [.int 0, .int 0, .int 0, .int 0, .int 0, .int 0])), (q11, .inr (5, [.int 0, .int 0, .int 0, .int 0, .int 0])), (q12, .inr (6, [.int 0, .int 0, .int 0, .int 0])), (q13, .inr (7, [.null, .null, .int 0]))] := hD
  refine lv_dup hx hb d_G_init_76 rfl ?_
  have hFc := va_free (wc := [(q13, .inr (7, [.null, .null, .int 0]))]) hD hS hA [21] rfl
  refine va_callv (va_runIN (As := []) (rest := [.ref q13, .ref b0]) ⟨hx, hb, hml, hown, hts⟩ (n_niEv l dC dI q13 cI H.size) (kw_IN (n := 0) hts hN wd_211 wd_212 wd_9 wd_213 rfl rfl rfl (by decide +kernel) ⟨Nat.le_of_ble_eq_true rfl, Nat.le_of_ble_eq_true rfl⟩) (kq_preMS hN (hP.sub (ws' := [(q13, .inr (7, [.null, .null, .int 0]))]) [21] rfl) (hK.sub (tys' := [(cI, .int)]) [0] rfl) (hD.sub (ws' := [(q13, .inr (7, [.null, .null, .int 0]))]) [21] (by decide) rfl)) rfl rfl hl.1 rfl (lv_room (Nat.le_of_ble_eq_true rfl)) d_G_init_77 ⟨Nat.le_of_ble_eq_true rfl, Nat.le_of_ble_eq_true rfl⟩) hS (fun q _ h => hFc q h) hFc (fun u t H locs ht hvm _ hB hz1 hk1 hS => ?_)
  obtain ⟨q14, q15, hP1, hK1, hD1⟩ := hB
  rw [ht] at hP1
  obtain ⟨hP, hD⟩ := va_join (wr := [(b0, .inr (0, [.ref q1, .ref q2, .ref q5, .ref q10, .ref q11, .ref q12, .null, .int 0, .int 0, .long 0])), (q1, .inl (cI, 12, .inl firstV)), (q2, .inr (1, [.ref q3, .ref q4, .int 0, .int 0, .long 0, .long 687194752, .int 0, .int 0, .int 0, .int 0, .int 0, .int (r_meanF 687194752)])), (q3, .inl (cI, 16, .inl (fun _ => 0))), (q4, .inl (cI, 32, .inl v_niLo_0)), (q5, .inr (3, [.ref q6, .ref q7])), (q6, .inl (cP, 6, .inr (.inr (.inr (.inr (fun j => some (q8 j))))))), (q7, .inl (cP, 4, .inr (.inr (.inr (.inr (fun j => some (q9 j))))))), (q8 0, .inr (2, [.int 0, .int 0, .int 1, .int 0])), (q8 1, .inr (2, [.int 0, .int 0, .int 1, .int 0])), (q8 2, .inr (2, [.int 0, .int 0, .int 1, .int 0])), (q8 3, .inr (2, [.int 0, .int 0, .int 1, .int 0])), (q8 4, .inr (2, [.int 0, .int 0, .int 1, .int 0])), (q8 5, .inr (2, [.int 0, .int 0, .int 1, .int 0])), (q9 0, .inr (2, [.int 0, .int 0, .int 1, .int 0])), (q9 1, .inr (2, [.int 0, .int 0, .int 1, .int 0])), (q9 2, .inr (2, [.int 0, .int 0, .int 1, .int 0])), (q9 3, .inr (2, [.int 0, .int 0, .int 1, .int 0])), (q10, .inr (4, [.int 0, .int 0, .int 0, .int 0, .int 0, .int 0])), (q11, .inr (5, [.int 0, .int 0, .int 0, .int 0, .int 0])), (q12, .inr (6, [.int 0, .int 0, .int 0, .int 0]))]) (w1 := [(q13, .inr (7, [.ref q14, .ref q15, .int 0])), (q14, .inl (cI, 16, .inl (fun _ => 0))), (q15, .inl (cI, 16, .inl (fun _ => 0)))]) hP hD [21] [0, 1, 2, 3, 4, 5, 6, 7, 8, 9, 10, 11, 12, 13, 14, 15, 16, 17, 18, 19, 20] rfl rfl (by decide) (by decide) hk1 hFc hP1 hD1
  have hP : va_P (dC, dI) vwCl [(b0, .inr (0, [.ref q1, .ref q2, .ref q5, .ref q10, .ref q11, .ref q12, .null, .int 0, .int 0, .long 0])), (q1, .inl (cI, 12, .inl firstV)), (q2, .inr (1, [.ref q3, .ref q4, .int 0, .int 0, .long 0, .long 687194752, .int 0, .int 0, .int 0, .int 0, .int 0, .int (r_meanF 687194752)])), (q3, .inl (cI, 16, .inl (fun _ => 0))), (q4, .inl (cI, 32, .inl v_niLo_0)), (q5, .inr (3, [.ref q6, .ref q7])), (q6, .inl (cP, 6, .inr (.inr (.inr (.inr (fun j => some (q8 j))))))), (q7, .inl (cP, 4, .inr (.inr (.inr (.inr (fun j => some (q9 j))))))), (q8 0, .inr (2, [.int 0, .int 0, .int 1, .int 0])), (q8 1, .inr (2, [.int 0, .int 0, .int 1, .int 0])), (q8 2, .inr (2, [.int 0, .int 0, .int 1, .int 0])), (q8 3, .inr (2, [.int 0, .int 0, .int 1, .int 0])), (q8 4, .inr (2, [.int 0, .int 0, .int 1, .int 0])), (q8 5, .inr (2, [.int 0, .int 0, .int 1, .int 0])), (q9 0, .inr (2, [.int 0, .int 0, .int 1, .int 0])), (q9 1, .inr (2, [.int 0, .int 0, .int 1, .int 0])), (q9 2, .inr (2, [.int 0, .int 0, .int 1, .int 0])), (q9 3, .inr (2, [.int 0, .int 0, .int 1, .int 0])), (q10, .inr (4, [.int 0, .int 0, .int 0, .int 0, .int 0, .int 0])), (q11, .inr (5, [.int 0, .int 0, .int 0, .int 0, .int 0])), (q12, .inr (6, [.int 0, .int 0, .int 0, .int 0])), (q13, .inr (7, [.ref q14, .ref q15, .int 0])), (q14, .inl (cI, 16, .inl (fun _ => 0))), (q15, .inl (cI, 16, .inl (fun _ => 0)))] H := hP
  have hD : va_D A [(b0, .inr (0, [.ref q1, .ref q2, .ref q5, .ref q10, .ref q11, .ref q12, .null, .int 0, .int 0, .long 0])), (q1, .inl (cI, 12, .inl firstV)), (q2, .inr (1, [.ref q3, .ref q4, .int 0, .int 0, .long 0, .long 687194752, .int 0, .int 0, .int 0, .int 0, .int 0, .int (r_meanF 687194752)])), (q3, .inl (cI, 16, .inl (fun _ => 0))), (q4, .inl (cI, 32, .inl v_niLo_0)), (q5, .inr (3, [.ref q6, .ref q7])), (q6, .inl (cP, 6, .inr (.inr (.inr (.inr (fun j => some (q8 j))))))), (q7, .inl (cP, 4, .inr (.inr (.inr (.inr (fun j => some (q9 j))))))), (q8 0, .inr (2, [.int 0, .int 0, .int 1, .int 0])), (q8 1, .inr (2, [.int 0, .int 0, .int 1, .int 0])), (q8 2, .inr (2, [.int 0, .int 0, .int 1, .int 0])), (q8 3, .inr (2, [.int 0, .int 0, .int 1, .int 0])), (q8 4, .inr (2, [.int 0, .int 0, .int 1, .int 0])), (q8 5, .inr (2, [.int 0, .int 0, .int 1, .int 0])), (q9 0, .inr (2, [.int 0, .int 0, .int 1, .int 0])), (q9 1, .inr (2, [.int 0, .int 0, .int 1, .int 0])), (q9 2, .inr (2, [.int 0, .int 0, .int 1, .int 0])), (q9 3, .inr (2, [.int 0, .int 0, .int 1, .int 0])), (q10, .inr (4, [.int 0, .int 0, .int 0, .int 0, .int 0, .int 0])), (q11, .inr (5, [.int 0, .int 0, .int 0, .int 0, .int 0])), (q12, .inr (6, [.int 0, .int 0, .int 0, .int 0])), (q13, .inr (7, [.ref q14, .ref q15, .int 0])), (q14, .inl (cI, 16, .inl (fun _ => 0))), (q15, .inl (cI, 16, .inl (fun _ => 0)))] := hD
  refine va_putF (D := (dC, dI)) (ci := 0) (v := .ref q13) (ty := (t_G 6)) (C := R_G) (T := T_G) (N := 10) hx hb hts uin_G t_G t_G_ok n_G hown hK hP hD hS 0 rfl rfl 6 (by decide) (hts _ wd_232) (fun _ h9 => h9) rfl hin rfl (by decide +kernel) rfl rfl (Nat.le_of_ble_eq_true rfl) d_G_init_80 (fun H locs hP hD hS => ?_)
  have hP : va_P (dC, dI) vwCl [(b0, .inr (0, [.ref q1, .ref q2, .ref q5, .ref q10, .ref q11, .ref q12, .ref q13, .int 0, .int 0, .long 0])), (q1, .inl (cI, 12, .inl firstV)), (q2, .inr (1, [.ref q3, .ref q4, .int 0, .int 0, .long 0, .long 687194752, .int 0, .int 0, .int 0, .int 0, .int 0, .int (r_meanF 687194752)])), (q3, .inl (cI, 16, .inl (fun _ => 0))), (q4, .inl (cI, 32, .inl v_niLo_0)), (q5, .inr (3, [.ref q6, .ref q7])), (q6, .inl (cP, 6, .inr (.inr (.inr (.inr (fun j => some (q8 j))))))), (q7, .inl (cP, 4, .inr (.inr (.inr (.inr (fun j => some (q9 j))))))), (q8 0, .inr (2, [.int 0, .int 0, .int 1, .int 0])), (q8 1, .inr (2, [.int 0, .int 0, .int 1, .int 0])), (q8 2, .inr (2, [.int 0, .int 0, .int 1, .int 0])), (q8 3, .inr (2, [.int 0, .int 0, .int 1, .int 0])), (q8 4, .inr (2, [.int 0, .int 0, .int 1, .int 0])), (q8 5, .inr (2, [.int 0, .int 0, .int 1, .int 0])), (q9 0, .inr (2, [.int 0, .int 0, .int 1, .int 0])), (q9 1, .inr (2, [.int 0, .int 0, .int 1, .int 0])), (q9 2, .inr (2, [.int 0, .int 0, .int 1, .int 0])), (q9 3, .inr (2, [.int 0, .int 0, .int 1, .int 0])), (q10, .inr (4, [.int 0, .int 0, .int 0, .int 0, .int 0, .int 0])), (q11, .inr (5, [.int 0, .int 0, .int 0, .int 0, .int 0])), (q12, .inr (6, [.int 0, .int 0, .int 0, .int 0])), (q13, .inr (7, [.ref q14, .ref q15, .int 0])), (q14, .inl (cI, 16, .inl (fun _ => 0))), (q15, .inl (cI, 16, .inl (fun _ => 0)))] H := hP
  have hD : va_D A [(b0, .inr (0, [.ref q1, .ref q2, .ref q5, .ref q10, .ref q11, .ref q12, .ref q13, .int 0, .int 0, .long 0])), (q1, .inl (cI, 12, .inl firstV)), (q2, .inr (1, [.ref q3, .ref q4, .int 0, .int 0, .long 0, .long 687194752, .int 0, .int 0, .int 0, .int 0, .int 0, .int (r_meanF 687194752)])), (q3, .inl (cI, 16, .inl (fun _ => 0))), (q4, .inl (cI, 32, .inl v_niLo_0)), (q5, .inr (3, [.ref q6, .ref q7])), (q6, .inl (cP, 6, .inr (.inr (.inr (.inr (fun j => some (q8 j))))))), (q7, .inl (cP, 4, .inr (.inr (.inr (.inr (fun j => some (q9 j))))))), (q8 0, .inr (2, [.int 0, .int 0, .int 1, .int 0])), (q8 1, .inr (2, [.int 0, .int 0, .int 1, .int 0])), (q8 2, .inr (2, [.int 0, .int 0, .int 1, .int 0])), (q8 3, .inr (2, [.int 0, .int 0, .int 1, .int 0])), (q8 4, .inr (2, [.int 0, .int 0, .int 1, .int 0])), (q8 5, .inr (2, [.int 0, .int 0, .int 1, .int 0])), (q9 0, .inr (2, [.int 0, .int 0, .int 1, .int 0])), (q9 1, .inr (2, [.int 0, .int 0, .int 1, .int 0])), (q9 2, .inr (2, [.int 0, .int 0, .int 1, .int 0])), (q9 3, .inr (2, [.int 0, .int 0, .int 1, .int 0])), (q10, .inr (4, [.int 0, .int 0, .int 0, .int 0, .int 0, .int 0])), (q11, .inr (5, [.int 0, .int 0, .int 0, .int 0, .int 0])), (q12, .inr (6, [.int 0, .int 0, .int 0, .int 0])), (q13, .inr (7, [.ref q14, .ref q15, .int 0])), (q14, .inl (cI, 16, .inl (fun _ => 0))), (q15, .inl (cI, 16, .inl (fun _ => 0)))] := hD
  refine W.widen (k := 23) (n := 174) (by decide) (by decide) ?_
  exact W.vret hx hb hr (fun t ht hW => ⟨⟨(), rfl, trivial, q1, q2, q3, q4, q5, q6, q7, q8, q9, q10, q11, q12, q13, q14, q15, by rw [ht]; exact hP, va_K.moved hW.alike hK, hD⟩, hS.F ht⟩) hS.2.2 d_G_init_83
