noncomputable def v_rootS_0 (lf : Int64) (ib : Int32) : Int64 := (lf + (1 <<< ((ib : Int32).toInt64 &&& 63))) * (lf + (1 <<< ((ib : Int32).toInt64 &&& 63)))
noncomputable def lo_rootS_2 (ls0 : Int64) (lf : Int64) (ib : Int32) : Int64 := if 0 < (lg_cmp (v_rootS_0 lf ib) ls0) then lf else lf + (1 <<< ((ib : Int32).toInt64 &&& 63))
noncomputable def lo_rootS_4 (ib : Int32) : Int32 := ib + (-1)
set_option maxHeartbeats 4000000 in
set_option maxRecDepth 100000 in
theorem g_rootS {p : Program} {l : Launch} {e : Env} {R : Room} {s : State} {m : MethodId} {args : Array Value} {below : List Frame} {meth : Method} {c : Code} {H : Heap} {locs : List Loc} {cells slots : Nat} {Q : State → Prop} {ls : Array Slot} (dC : Nat → ClassId) (dI : Nat → Nat → Nat) (ls0 : Int64) (lf : Int64) (ib : Int32) (hb0 : ¬ ib < 0) (hx : p.tables.exec = Jvm.exec) (hb : c.code = b_G_root) (hml : c.maxLocals = 7) (hts : ∀ w ∈ gw, w.before args s = true) (hown : s.vm.findClass R_G = some m.cls) (hN : nw s) (hK : va_K (dC, dI) vwCl [] s) (hl : lv_has ls 7 [(0, .long ls0), (2, .long lf), (4, .int ib)]) (hP : va_P (dC, dI) vwCl [] H) (kk : ∀ ls : Array Slot, lv_has ls 7 [(0, .long ls0), (2, .long (lo_rootS_2 ls0 lf ib)), (4, .int (lo_rootS_4 ib))] → W p l e R s m args below meth c H locs cells slots Q (F0 m 6 ls [])) : W p l e R s m args below meth c H locs cells slots Q (F0 m 6 ls []) := by
  refine lv_iload hx hb d_G_root_6 (lv_at hl 2 rfl) ?_
  refine lv_if_lt hx hb (tgt := 38) d_G_root_8 rfl (fun h => absurd h hb0) (fun _ => ?_)
  refine lv_lload_n hx hb d_G_root_11 rfl (lv_at hl 1 rfl) ?_
  refine lv_lconst (v := 1) hx hb d_G_root_12 (by decide) ?_
  refine lv_iload hx hb d_G_root_13 (lv_at hl 2 rfl) ?_
  refine lv_lshl hx hb d_G_root_15 rfl ?_
  refine lv_ladd hx hb d_G_root_16 ?_
  refine lv_lstore (lv' := [(5, .long (lf + (1 <<< ((ib : Int32).toInt64 &&& 63)))), (0, .long ls0), (2, .long lf), (4, .int ib)]) hx hb d_G_root_17 hl (by decide) rfl (fun ls hl => ?_)
  refine lv_lload hx hb d_G_root_19 (lv_at hl 0 rfl) ?_
  refine lv_lload hx hb d_G_root_21 (lv_at hl 0 rfl) ?_
  refine lv_lmul hx hb d_G_root_23 ?_
  refine kq_fl (y := v_rootS_0 lf ib) rfl ?_
  refine lv_lload_n hx hb d_G_root_24 rfl (lv_at hl 1 rfl) ?_
  refine W.lcmp hx hb d_G_root_25 ?_
  refine lv_if_gt hx hb (tgt := 32) d_G_root_26 rfl (fun h1 => ?_) (fun h1 => ?_)
  · refine lv_iinc (k := 3) (v := ib + (-1)) (lv' := [(4, .int (ib + (-1))), (5, .long (lf + (1 <<< ((ib : Int32).toInt64 &&& 63)))), (0, .long ls0), (2, .long lf)]) hx hb d_G_root_32 hl rfl (by rfl) (by decide) rfl (fun ls hl => ?_)
    refine lv_goto (tgt := 6) hx hb d_G_root_35 rfl ?_
    have Fl0 : lo_rootS_2 ls0 lf ib = lf := by unfold lo_rootS_2; rw [if_pos h1]
    have Fl1 : lo_rootS_4 ib = ib + (-1) := rfl
    exact kk ls (by rw [Fl0, Fl1]; exact lv_sub hl (l' := [(0, .long ls0), (2, .long lf), (4, .int (ib + (-1)))]) [2, 3, 0] rfl)
  · refine lv_lload hx hb d_G_root_29 (lv_at hl 0 rfl) ?_
    refine lv_lstore_n (lv' := [(2, .long (lf + (1 <<< ((ib : Int32).toInt64 &&& 63)))), (5, .long (lf + (1 <<< ((ib : Int32).toInt64 &&& 63)))), (0, .long ls0), (4, .int ib)]) hx hb d_G_root_31 rfl hl (by decide) rfl (fun ls hl => ?_)
    refine lv_iinc (k := 3) (v := ib + (-1)) (lv' := [(4, .int (ib + (-1))), (2, .long (lf + (1 <<< ((ib : Int32).toInt64 &&& 63)))), (5, .long (lf + (1 <<< ((ib : Int32).toInt64 &&& 63)))), (0, .long ls0)]) hx hb d_G_root_32 hl rfl (by rfl) (by decide) rfl (fun ls hl => ?_)
    refine lv_goto (tgt := 6) hx hb d_G_root_35 rfl ?_
    have Fl0 : lo_rootS_2 ls0 lf ib = lf + (1 <<< ((ib : Int32).toInt64 &&& 63)) := by unfold lo_rootS_2; rw [if_neg h1]
    have Fl1 : lo_rootS_4 ib = ib + (-1) := rfl
    exact kk ls (by rw [Fl0, Fl1]; exact lv_sub hl (l' := [(0, .long ls0), (2, .long (lf + (1 <<< ((ib : Int32).toInt64 &&& 63)))), (4, .int (ib + (-1)))]) [3, 1, 0] rfl)
noncomputable def v_root_0 (ls0 : Int64) : Int64 := lo_rootS_2 ls0 0 17
noncomputable def v_root_1 (ls0 : Int64) : Int64 := lo_rootS_2 ls0 (v_root_0 ls0) 16
noncomputable def v_root_2 (ls0 : Int64) : Int64 := lo_rootS_2 ls0 (v_root_1 ls0) 15
noncomputable def v_root_3 (ls0 : Int64) : Int64 := lo_rootS_2 ls0 (v_root_2 ls0) 14
noncomputable def v_root_4 (ls0 : Int64) : Int64 := lo_rootS_2 ls0 (v_root_3 ls0) 13
noncomputable def v_root_5 (ls0 : Int64) : Int64 := lo_rootS_2 ls0 (v_root_4 ls0) 12
noncomputable def v_root_6 (ls0 : Int64) : Int64 := lo_rootS_2 ls0 (v_root_5 ls0) 11
noncomputable def v_root_7 (ls0 : Int64) : Int64 := lo_rootS_2 ls0 (v_root_6 ls0) 10
noncomputable def v_root_8 (ls0 : Int64) : Int64 := lo_rootS_2 ls0 (v_root_7 ls0) 9
noncomputable def v_root_9 (ls0 : Int64) : Int64 := lo_rootS_2 ls0 (v_root_8 ls0) 8
noncomputable def v_root_10 (ls0 : Int64) : Int64 := lo_rootS_2 ls0 (v_root_9 ls0) 7
noncomputable def v_root_11 (ls0 : Int64) : Int64 := lo_rootS_2 ls0 (v_root_10 ls0) 6
noncomputable def v_root_12 (ls0 : Int64) : Int64 := lo_rootS_2 ls0 (v_root_11 ls0) 5
noncomputable def v_root_13 (ls0 : Int64) : Int64 := lo_rootS_2 ls0 (v_root_12 ls0) 4
noncomputable def v_root_14 (ls0 : Int64) : Int64 := lo_rootS_2 ls0 (v_root_13 ls0) 3
noncomputable def v_root_15 (ls0 : Int64) : Int64 := lo_rootS_2 ls0 (v_root_14 ls0) 2
noncomputable def v_root_16 (ls0 : Int64) : Int64 := lo_rootS_2 ls0 (v_root_15 ls0) 1
noncomputable def v_root_17 (ls0 : Int64) : Int64 := lo_rootS_2 ls0 (v_root_16 ls0) 0
noncomputable def r_root (ls0 : Int64) : Int32 := (v_root_17 ls0).toInt32
set_option maxHeartbeats 4000000 in
set_option maxRecDepth 100000 in
theorem c_root (l : Launch) (dC : Nat → ClassId) (dI : Nat → Nat → Nat) (ls0 : Int64) : Met l y_G_root (wz y_G_root b_G_root 7 (some .int)) { frames := 0, cells := 0, slots := 0, locals := 0 } (va_Pc [.long ls0] (fun U => nw U ∧ va_P (dC, dI) vwCl [] U.heap ∧ va_K (dC, dI) vwCl [] U)) (k2_QcV (.int (r_root ls0))) 0 0 (fun _ => False) := by
  refine Met.ofW (cc := b_G_root) (maxL := 7) (ret := (some .int)) (by decide) rfl ?_
  intro p e s m args below meth c s₁ B hml hv
  obtain ⟨rfl, hN, hP, hK⟩ := hv
  have hx := B.exec
  have hb := B.bytes
  have hr := B.returns
  have hts := fun w h => atoms_spec (ws := (wz y_G_root b_G_root 7 (some .int))) B.pre w (List.mem_cons_of_mem _ h)
  have hown : s.vm.findClass R_G = some m.cls := findClass_of_methodNamed B.named
  have hlocks := B.notSynchronized
  have hl := lv_entry ([.long ls0]) (n := 7) (Nat.le_of_ble_eq_true rfl)
  rw [lg_entry_eq]
  generalize (lg_sl ([.long ls0]) ++ List.replicate (7 - (lg_sl ([.long ls0])).length) Slot.unset).toArray = ls at hl ⊢
  have hl : lv_has ls 7 [(0, .long ls0)] := hl
  refine lv_lconst (v := 0) hx hb d_G_root_0 (by decide) ?_
  refine lv_lstore_n (lv' := [(2, .long 0), (0, .long ls0)]) hx hb d_G_root_1 rfl hl (by decide) rfl (fun ls hl => ?_)
  refine lv_bipush (v := 17) hx hb d_G_root_2 (by decide) ?_
  refine lv_istore (lv' := [(4, .int 17), (2, .long 0), (0, .long ls0)]) hx hb d_G_root_4 hl (by decide) rfl (fun ls hl => ?_)
  refine g_rootS dC dI ls0 0 17 (by decide) hx hb hml hts hown hN (hK.sub (tys' := []) [] rfl) (lv_sub hl (l' := [(0, .long ls0), (2, .long 0), (4, .int 17)]) [2, 1, 0] rfl) (hP.sub (ws' := []) [] rfl) (fun ls hl => ?_)
  have hl : lv_has ls 7 [(0, .long ls0), (2, .long (v_root_0 ls0)), (4, .int 16)] := hl
  refine g_rootS dC dI ls0 (v_root_0 ls0) 16 (by decide) hx hb hml hts hown hN (hK.sub (tys' := []) [] rfl) (lv_sub hl (l' := [(0, .long ls0), (2, .long (v_root_0 ls0)), (4, .int 16)]) [0, 1, 2] rfl) (hP.sub (ws' := []) [] rfl) (fun ls hl => ?_)
  have hl : lv_has ls 7 [(0, .long ls0), (2, .long (v_root_1 ls0)), (4, .int 15)] := hl
  refine g_rootS dC dI ls0 (v_root_1 ls0) 15 (by decide) hx hb hml hts hown hN (hK.sub (tys' := []) [] rfl) (lv_sub hl (l' := [(0, .long ls0), (2, .long (v_root_1 ls0)), (4, .int 15)]) [0, 1, 2] rfl) (hP.sub (ws' := []) [] rfl) (fun ls hl => ?_)
  have hl : lv_has ls 7 [(0, .long ls0), (2, .long (v_root_2 ls0)), (4, .int 14)] := hl
  refine g_rootS dC dI ls0 (v_root_2 ls0) 14 (by decide) hx hb hml hts hown hN (hK.sub (tys' := []) [] rfl) (lv_sub hl (l' := [(0, .long ls0), (2, .long (v_root_2 ls0)), (4, .int 14)]) [0, 1, 2] rfl) (hP.sub (ws' := []) [] rfl) (fun ls hl => ?_)
  have hl : lv_has ls 7 [(0, .long ls0), (2, .long (v_root_3 ls0)), (4, .int 13)] := hl
  refine g_rootS dC dI ls0 (v_root_3 ls0) 13 (by decide) hx hb hml hts hown hN (hK.sub (tys' := []) [] rfl) (lv_sub hl (l' := [(0, .long ls0), (2, .long (v_root_3 ls0)), (4, .int 13)]) [0, 1, 2] rfl) (hP.sub (ws' := []) [] rfl) (fun ls hl => ?_)
  have hl : lv_has ls 7 [(0, .long ls0), (2, .long (v_root_4 ls0)), (4, .int 12)] := hl
  refine g_rootS dC dI ls0 (v_root_4 ls0) 12 (by decide) hx hb hml hts hown hN (hK.sub (tys' := []) [] rfl) (lv_sub hl (l' := [(0, .long ls0), (2, .long (v_root_4 ls0)), (4, .int 12)]) [0, 1, 2] rfl) (hP.sub (ws' := []) [] rfl) (fun ls hl => ?_)
  have hl : lv_has ls 7 [(0, .long ls0), (2, .long (v_root_5 ls0)), (4, .int 11)] := hl
  refine g_rootS dC dI ls0 (v_root_5 ls0) 11 (by decide) hx hb hml hts hown hN (hK.sub (tys' := []) [] rfl) (lv_sub hl (l' := [(0, .long ls0), (2, .long (v_root_5 ls0)), (4, .int 11)]) [0, 1, 2] rfl) (hP.sub (ws' := []) [] rfl) (fun ls hl => ?_)
  have hl : lv_has ls 7 [(0, .long ls0), (2, .long (v_root_6 ls0)), (4, .int 10)] := hl
  refine g_rootS dC dI ls0 (v_root_6 ls0) 10 (by decide) hx hb hml hts hown hN (hK.sub (tys' := []) [] rfl) (lv_sub hl (l' := [(0, .long ls0), (2, .long (v_root_6 ls0)), (4, .int 10)]) [0, 1, 2] rfl) (hP.sub (ws' := []) [] rfl) (fun ls hl => ?_)
  have hl : lv_has ls 7 [(0, .long ls0), (2, .long (v_root_7 ls0)), (4, .int 9)] := hl
  refine g_rootS dC dI ls0 (v_root_7 ls0) 9 (by decide) hx hb hml hts hown hN (hK.sub (tys' := []) [] rfl) (lv_sub hl (l' := [(0, .long ls0), (2, .long (v_root_7 ls0)), (4, .int 9)]) [0, 1, 2] rfl) (hP.sub (ws' := []) [] rfl) (fun ls hl => ?_)
  have hl : lv_has ls 7 [(0, .long ls0), (2, .long (v_root_8 ls0)), (4, .int 8)] := hl
  refine g_rootS dC dI ls0 (v_root_8 ls0) 8 (by decide) hx hb hml hts hown hN (hK.sub (tys' := []) [] rfl) (lv_sub hl (l' := [(0, .long ls0), (2, .long (v_root_8 ls0)), (4, .int 8)]) [0, 1, 2] rfl) (hP.sub (ws' := []) [] rfl) (fun ls hl => ?_)
  have hl : lv_has ls 7 [(0, .long ls0), (2, .long (v_root_9 ls0)), (4, .int 7)] := hl
  refine g_rootS dC dI ls0 (v_root_9 ls0) 7 (by decide) hx hb hml hts hown hN (hK.sub (tys' := []) [] rfl) (lv_sub hl (l' := [(0, .long ls0), (2, .long (v_root_9 ls0)), (4, .int 7)]) [0, 1, 2] rfl) (hP.sub (ws' := []) [] rfl) (fun ls hl => ?_)
  have hl : lv_has ls 7 [(0, .long ls0), (2, .long (v_root_10 ls0)), (4, .int 6)] := hl
  refine g_rootS dC dI ls0 (v_root_10 ls0) 6 (by decide) hx hb hml hts hown hN (hK.sub (tys' := []) [] rfl) (lv_sub hl (l' := [(0, .long ls0), (2, .long (v_root_10 ls0)), (4, .int 6)]) [0, 1, 2] rfl) (hP.sub (ws' := []) [] rfl) (fun ls hl => ?_)
  have hl : lv_has ls 7 [(0, .long ls0), (2, .long (v_root_11 ls0)), (4, .int 5)] := hl
  refine g_rootS dC dI ls0 (v_root_11 ls0) 5 (by decide) hx hb hml hts hown hN (hK.sub (tys' := []) [] rfl) (lv_sub hl (l' := [(0, .long ls0), (2, .long (v_root_11 ls0)), (4, .int 5)]) [0, 1, 2] rfl) (hP.sub (ws' := []) [] rfl) (fun ls hl => ?_)
  have hl : lv_has ls 7 [(0, .long ls0), (2, .long (v_root_12 ls0)), (4, .int 4)] := hl
  refine g_rootS dC dI ls0 (v_root_12 ls0) 4 (by decide) hx hb hml hts hown hN (hK.sub (tys' := []) [] rfl) (lv_sub hl (l' := [(0, .long ls0), (2, .long (v_root_12 ls0)), (4, .int 4)]) [0, 1, 2] rfl) (hP.sub (ws' := []) [] rfl) (fun ls hl => ?_)
  have hl : lv_has ls 7 [(0, .long ls0), (2, .long (v_root_13 ls0)), (4, .int 3)] := hl
  refine g_rootS dC dI ls0 (v_root_13 ls0) 3 (by decide) hx hb hml hts hown hN (hK.sub (tys' := []) [] rfl) (lv_sub hl (l' := [(0, .long ls0), (2, .long (v_root_13 ls0)), (4, .int 3)]) [0, 1, 2] rfl) (hP.sub (ws' := []) [] rfl) (fun ls hl => ?_)
  have hl : lv_has ls 7 [(0, .long ls0), (2, .long (v_root_14 ls0)), (4, .int 2)] := hl
  refine g_rootS dC dI ls0 (v_root_14 ls0) 2 (by decide) hx hb hml hts hown hN (hK.sub (tys' := []) [] rfl) (lv_sub hl (l' := [(0, .long ls0), (2, .long (v_root_14 ls0)), (4, .int 2)]) [0, 1, 2] rfl) (hP.sub (ws' := []) [] rfl) (fun ls hl => ?_)
  have hl : lv_has ls 7 [(0, .long ls0), (2, .long (v_root_15 ls0)), (4, .int 1)] := hl
  refine g_rootS dC dI ls0 (v_root_15 ls0) 1 (by decide) hx hb hml hts hown hN (hK.sub (tys' := []) [] rfl) (lv_sub hl (l' := [(0, .long ls0), (2, .long (v_root_15 ls0)), (4, .int 1)]) [0, 1, 2] rfl) (hP.sub (ws' := []) [] rfl) (fun ls hl => ?_)
  have hl : lv_has ls 7 [(0, .long ls0), (2, .long (v_root_16 ls0)), (4, .int 0)] := hl
  refine g_rootS dC dI ls0 (v_root_16 ls0) 0 (by decide) hx hb hml hts hown hN (hK.sub (tys' := []) [] rfl) (lv_sub hl (l' := [(0, .long ls0), (2, .long (v_root_16 ls0)), (4, .int 0)]) [0, 1, 2] rfl) (hP.sub (ws' := []) [] rfl) (fun ls hl => ?_)
  have hl : lv_has ls 7 [(0, .long ls0), (2, .long (v_root_17 ls0)), (4, .int (-1))] := hl
  refine lv_iload hx hb d_G_root_6 (lv_at hl 2 rfl) ?_
  refine lv_if_lt (tgt := 38) hx hb d_G_root_8 rfl (fun _ => ?_) (fun h => absurd h (by decide))
  refine lv_lload_n hx hb d_G_root_38 rfl (lv_at hl 1 rfl) ?_
  refine lv_l2i hx hb d_G_root_39 rfl ?_
  exact W.iret (v := (v_root_17 ls0).toInt32) hx hb hr (fun t ht hW => ⟨by rw [(show r_root ls0 = (v_root_17 ls0).toInt32 from rfl)], ht⟩) (fun q hq => by cases hq) d_G_root_40
