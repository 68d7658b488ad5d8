noncomputable def lo_mrootS_2 (ls0 : Int64) (lo : Int64) (lh : Int64) : Int64 := if 0 < (lg_cmp ((((lo + lh) + 1) / 2) * (((lo + lh) + 1) / 2)) ls0) then lo else ((lo + lh) + 1) / 2
noncomputable def lo_mrootS_4 (ls0 : Int64) (lo : Int64) (lh : Int64) : Int64 := if 0 < (lg_cmp ((((lo + lh) + 1) / 2) * (((lo + lh) + 1) / 2)) ls0) then (((lo + lh) + 1) / 2) - 1 else lh
set_option maxHeartbeats 4000000 in
set_option maxRecDepth 100000 in
theorem g_mrootS {p : Program} {l : Launch} {e : Env} {R : Room} {s : State} {m : MethodId} {args : Array Value} {below : List Frame} {meth : Method} {c : Code} {H : Heap} {locs : List Loc} {cells slots : Nat} {Q : State → Prop} {ls : Array Slot} (dC : Nat → ClassId) (dI : Nat → Nat → Nat) (ls0 : Int64) (lo : Int64) (lh : Int64) (hx : p.tables.exec = Jvm.exec) (hb : c.code = b_Mo_root) (hml : c.maxLocals = 8) (hts : ∀ w ∈ gw, w.before args s = true) (hown : s.vm.findClass R_Mo = some m.cls) (hN : nw s) (hK : va_K (dC, dI) vwCl [] s) (hl : lv_has ls 8 [(0, .long ls0), (2, .long lo), (4, .long lh)]) (hP : va_P (dC, dI) vwCl [] H) (kk : ∀ ls : Array Slot, lv_has ls 8 [(0, .long ls0), (2, .long (lo_mrootS_2 ls0 lo lh)), (4, .long (lo_mrootS_4 ls0 lo lh))] → W p l e R s m args below meth c H locs cells slots Q (F0 m 7 ls [])) : W p l e R s m args below meth c H locs cells slots Q (F0 m 14 ls []) := by
  refine lv_lload_n hx hb d_Mo_root_14 rfl (lv_at hl 1 rfl) ?_
  refine lv_lload hx hb d_Mo_root_15 (lv_at hl 2 rfl) ?_
  refine lv_ladd hx hb d_Mo_root_17 ?_
  refine lv_lconst (v := 1) hx hb d_Mo_root_18 (by decide) ?_
  refine lv_ladd hx hb d_Mo_root_19 ?_
  refine lv_ldc2 (v := 2) hx hb hown (hts _ wd_874) d_Mo_root_20 ?_
  refine lv_ldiv hx hb d_Mo_root_23 (by decide) ?_
  refine lv_lstore (lv' := [(6, .long (((lo + lh) + 1) / 2)), (0, .long ls0), (2, .long lo), (4, .long lh)]) hx hb d_Mo_root_24 hl (by decide) rfl (fun ls hl => ?_)
  refine lv_lload hx hb d_Mo_root_26 (lv_at hl 0 rfl) ?_
  refine lv_lload hx hb d_Mo_root_28 (lv_at hl 0 rfl) ?_
  refine lv_lmul hx hb d_Mo_root_30 ?_
  refine lv_lload_n hx hb d_Mo_root_31 rfl (lv_at hl 1 rfl) ?_
  refine W.lcmp hx hb d_Mo_root_32 ?_
  refine lv_if_gt hx hb (tgt := 42) d_Mo_root_33 rfl (fun h1 => ?_) (fun h1 => ?_)
  · refine lv_lload hx hb d_Mo_root_42 (lv_at hl 0 rfl) ?_
    refine lv_lconst (v := 1) hx hb d_Mo_root_44 (by decide) ?_
    refine lv_lsub hx hb d_Mo_root_45 ?_
    refine lv_lstore (lv' := [(4, .long ((((lo + lh) + 1) / 2) - 1)), (6, .long (((lo + lh) + 1) / 2)), (0, .long ls0), (2, .long lo)]) hx hb d_Mo_root_46 hl (by decide) rfl (fun ls hl => ?_)
    refine lv_goto (tgt := 7) hx hb d_Mo_root_48 rfl ?_
    have Fl0 : lo_mrootS_2 ls0 lo lh = lo := by unfold lo_mrootS_2; rw [if_pos h1]
    have Fl1 : lo_mrootS_4 ls0 lo lh = (((lo + lh) + 1) / 2) - 1 := by unfold lo_mrootS_4; rw [if_pos h1]
    exact kk ls (by rw [Fl0, Fl1]; exact lv_sub hl (l' := [(0, .long ls0), (2, .long lo), (4, .long ((((lo + lh) + 1) / 2) - 1))]) [2, 3, 0] rfl)
  · refine lv_lload hx hb d_Mo_root_36 (lv_at hl 0 rfl) ?_
    refine lv_lstore_n (lv' := [(2, .long (((lo + lh) + 1) / 2)), (6, .long (((lo + lh) + 1) / 2)), (0, .long ls0), (4, .long lh)]) hx hb d_Mo_root_38 rfl hl (by decide) rfl (fun ls hl => ?_)
    refine lv_goto (tgt := 48) hx hb d_Mo_root_39 rfl ?_
    refine lv_goto (tgt := 7) hx hb d_Mo_root_48 rfl ?_
    have Fl0 : lo_mrootS_2 ls0 lo lh = ((lo + lh) + 1) / 2 := by unfold lo_mrootS_2; rw [if_neg h1]
    have Fl1 : lo_mrootS_4 ls0 lo lh = lh := by unfold lo_mrootS_4; rw [if_neg h1]
    exact kk ls (by rw [Fl0, Fl1]; exact lv_sub hl (l' := [(0, .long ls0), (2, .long (((lo + lh) + 1) / 2)), (4, .long lh)]) [2, 0, 3] rfl)
noncomputable def v_mroot_0 (ls0 : Int64) : Int64 := lo_mrootS_2 ls0 0 200000
noncomputable def v_mroot_1 (ls0 : Int64) : Int64 := lo_mrootS_4 ls0 0 200000
noncomputable def v_mroot_2 (ls0 : Int64) : Int64 := lo_mrootS_2 ls0 (v_mroot_0 ls0) (v_mroot_1 ls0)
noncomputable def v_mroot_3 (ls0 : Int64) : Int64 := lo_mrootS_4 ls0 (v_mroot_0 ls0) (v_mroot_1 ls0)
noncomputable def v_mroot_4 (ls0 : Int64) : Int64 := lo_mrootS_2 ls0 (v_mroot_2 ls0) (v_mroot_3 ls0)
noncomputable def v_mroot_5 (ls0 : Int64) : Int64 := lo_mrootS_4 ls0 (v_mroot_2 ls0) (v_mroot_3 ls0)
noncomputable def v_mroot_6 (ls0 : Int64) : Int64 := lo_mrootS_2 ls0 (v_mroot_4 ls0) (v_mroot_5 ls0)
noncomputable def v_mroot_7 (ls0 : Int64) : Int64 := lo_mrootS_4 ls0 (v_mroot_4 ls0) (v_mroot_5 ls0)
noncomputable def v_mroot_8 (ls0 : Int64) : Int64 := lo_mrootS_2 ls0 (v_mroot_6 ls0) (v_mroot_7 ls0)
noncomputable def v_mroot_9 (ls0 : Int64) : Int64 := lo_mrootS_4 ls0 (v_mroot_6 ls0) (v_mroot_7 ls0)
noncomputable def v_mroot_10 (ls0 : Int64) : Int64 := lo_mrootS_2 ls0 (v_mroot_8 ls0) (v_mroot_9 ls0)
noncomputable def v_mroot_11 (ls0 : Int64) : Int64 := lo_mrootS_4 ls0 (v_mroot_8 ls0) (v_mroot_9 ls0)
noncomputable def v_mroot_12 (ls0 : Int64) : Int64 := lo_mrootS_2 ls0 (v_mroot_10 ls0) (v_mroot_11 ls0)
noncomputable def v_mroot_13 (ls0 : Int64) : Int64 := lo_mrootS_4 ls0 (v_mroot_10 ls0) (v_mroot_11 ls0)
noncomputable def v_mroot_14 (ls0 : Int64) : Int64 := lo_mrootS_2 ls0 (v_mroot_12 ls0) (v_mroot_13 ls0)
noncomputable def v_mroot_15 (ls0 : Int64) : Int64 := lo_mrootS_4 ls0 (v_mroot_12 ls0) (v_mroot_13 ls0)
noncomputable def v_mroot_16 (ls0 : Int64) : Int64 := lo_mrootS_2 ls0 (v_mroot_14 ls0) (v_mroot_15 ls0)
noncomputable def v_mroot_17 (ls0 : Int64) : Int64 := lo_mrootS_4 ls0 (v_mroot_14 ls0) (v_mroot_15 ls0)
noncomputable def v_mroot_18 (ls0 : Int64) : Int64 := lo_mrootS_2 ls0 (v_mroot_16 ls0) (v_mroot_17 ls0)
noncomputable def v_mroot_19 (ls0 : Int64) : Int64 := lo_mrootS_4 ls0 (v_mroot_16 ls0) (v_mroot_17 ls0)
noncomputable def v_mroot_20 (ls0 : Int64) : Int64 := lo_mrootS_2 ls0 (v_mroot_18 ls0) (v_mroot_19 ls0)
noncomputable def v_mroot_21 (ls0 : Int64) : Int64 := lo_mrootS_4 ls0 (v_mroot_18 ls0) (v_mroot_19 ls0)
noncomputable def v_mroot_22 (ls0 : Int64) : Int64 := lo_mrootS_2 ls0 (v_mroot_20 ls0) (v_mroot_21 ls0)
noncomputable def v_mroot_23 (ls0 : Int64) : Int64 := lo_mrootS_4 ls0 (v_mroot_20 ls0) (v_mroot_21 ls0)
noncomputable def v_mroot_24 (ls0 : Int64) : Int64 := lo_mrootS_2 ls0 (v_mroot_22 ls0) (v_mroot_23 ls0)
noncomputable def v_mroot_25 (ls0 : Int64) : Int64 := lo_mrootS_4 ls0 (v_mroot_22 ls0) (v_mroot_23 ls0)
noncomputable def v_mroot_26 (ls0 : Int64) : Int64 := lo_mrootS_2 ls0 (v_mroot_24 ls0) (v_mroot_25 ls0)
noncomputable def v_mroot_27 (ls0 : Int64) : Int64 := lo_mrootS_4 ls0 (v_mroot_24 ls0) (v_mroot_25 ls0)
noncomputable def v_mroot_28 (ls0 : Int64) : Int64 := lo_mrootS_2 ls0 (v_mroot_26 ls0) (v_mroot_27 ls0)
noncomputable def v_mroot_29 (ls0 : Int64) : Int64 := lo_mrootS_4 ls0 (v_mroot_26 ls0) (v_mroot_27 ls0)
noncomputable def v_mroot_30 (ls0 : Int64) : Int64 := lo_mrootS_2 ls0 (v_mroot_28 ls0) (v_mroot_29 ls0)
noncomputable def v_mroot_31 (ls0 : Int64) : Int64 := lo_mrootS_4 ls0 (v_mroot_28 ls0) (v_mroot_29 ls0)
noncomputable def v_mroot_32 (ls0 : Int64) : Int64 := lo_mrootS_2 ls0 (v_mroot_30 ls0) (v_mroot_31 ls0)
noncomputable def v_mroot_33 (ls0 : Int64) : Int64 := lo_mrootS_4 ls0 (v_mroot_30 ls0) (v_mroot_31 ls0)
noncomputable def v_mroot_34 (ls0 : Int64) : Int64 := lo_mrootS_2 ls0 (v_mroot_32 ls0) (v_mroot_33 ls0)
noncomputable def v_mroot_35 (ls0 : Int64) : Int64 := lo_mrootS_4 ls0 (v_mroot_32 ls0) (v_mroot_33 ls0)
noncomputable def r_mroot (ls0 : Int64) : Int32 := if 0 ≤ (lg_cmp (v_mroot_0 ls0) (v_mroot_1 ls0)) then (v_mroot_0 ls0).toInt32 else (if 0 ≤ (lg_cmp (v_mroot_2 ls0) (v_mroot_3 ls0)) then (v_mroot_2 ls0).toInt32 else (if 0 ≤ (lg_cmp (v_mroot_4 ls0) (v_mroot_5 ls0)) then (v_mroot_4 ls0).toInt32 else (if 0 ≤ (lg_cmp (v_mroot_6 ls0) (v_mroot_7 ls0)) then (v_mroot_6 ls0).toInt32 else (if 0 ≤ (lg_cmp (v_mroot_8 ls0) (v_mroot_9 ls0)) then (v_mroot_8 ls0).toInt32 else (if 0 ≤ (lg_cmp (v_mroot_10 ls0) (v_mroot_11 ls0)) then (v_mroot_10 ls0).toInt32 else (if 0 ≤ (lg_cmp (v_mroot_12 ls0) (v_mroot_13 ls0)) then (v_mroot_12 ls0).toInt32 else (if 0 ≤ (lg_cmp (v_mroot_14 ls0) (v_mroot_15 ls0)) then (v_mroot_14 ls0).toInt32 else (if 0 ≤ (lg_cmp (v_mroot_16 ls0) (v_mroot_17 ls0)) then (v_mroot_16 ls0).toInt32 else (if 0 ≤ (lg_cmp (v_mroot_18 ls0) (v_mroot_19 ls0)) then (v_mroot_18 ls0).toInt32 else (if 0 ≤ (lg_cmp (v_mroot_20 ls0) (v_mroot_21 ls0)) then (v_mroot_20 ls0).toInt32 else (if 0 ≤ (lg_cmp (v_mroot_22 ls0) (v_mroot_23 ls0)) then (v_mroot_22 ls0).toInt32 else (if 0 ≤ (lg_cmp (v_mroot_24 ls0) (v_mroot_25 ls0)) then (v_mroot_24 ls0).toInt32 else (if 0 ≤ (lg_cmp (v_mroot_26 ls0) (v_mroot_27 ls0)) then (v_mroot_26 ls0).toInt32 else (if 0 ≤ (lg_cmp (v_mroot_28 ls0) (v_mroot_29 ls0)) then (v_mroot_28 ls0).toInt32 else (if 0 ≤ (lg_cmp (v_mroot_30 ls0) (v_mroot_31 ls0)) then (v_mroot_30 ls0).toInt32 else (if 0 ≤ (lg_cmp (v_mroot_32 ls0) (v_mroot_33 ls0)) then (v_mroot_32 ls0).toInt32 else (if 0 ≤ (lg_cmp (v_mroot_34 ls0) (v_mroot_35 ls0)) then (v_mroot_34 ls0).toInt32 else 0)))))))))))))))))
def mi (v lo hi : Int) : Prop := 0 ≤ lo ∧ lo ≤ hi ∧ hi ≤ 200000 ∧ (0 ≤ v → lo * lo ≤ v) ∧ (v < 40000400001 → v < (hi + 1) * (hi + 1))
theorem mi_next {x lo hi : Int64} {d d' : Int} (h : mi x.toInt lo.toInt hi.toInt ∧ hi.toInt - lo.toInt ≤ d) (hd : d / 2 = d') (hlt : ¬ 0 ≤ lg_cmp lo hi) : mi x.toInt (lo_mrootS_2 x lo hi).toInt (lo_mrootS_4 x lo hi).toInt ∧ (lo_mrootS_4 x lo hi).toInt - (lo_mrootS_2 x lo hi).toInt ≤ d' := by
  obtain ⟨⟨h0, h1, h2, h3, h4⟩, h5⟩ := h
  rw [lg_cmp_ge, Int64.le_iff_toInt_le] at hlt
  have e1 : (1 : Int64).toInt = 1 := by decide
  have e2 : (2 : Int64).toInt = 2 := by decide
  have a1 : (lo + hi).toInt = lo.toInt + hi.toInt := Jvm.Kit.i64_add (by omega) (by omega)
  have a2 : (lo + hi + 1).toInt = lo.toInt + hi.toInt + 1 := by rw [Jvm.Kit.i64_add (by rw [a1, e1]; omega) (by rw [a1, e1]; omega), a1, e1]
  have a3 : ((lo + hi + 1) / 2).toInt = (lo.toInt + hi.toInt + 1) / 2 := by
    rw [Jvm.Kit.i64_div (by rw [e2]; omega), a2, e2, Int.tdiv_eq_ediv_of_nonneg (by omega)]
  generalize hM : (lo.toInt + hi.toInt + 1) / 2 = M at a3
  have b1 : lo.toInt < M := by omega
  have b2 : M ≤ hi.toInt := by omega
  have b3 : 0 ≤ M * M := Int.mul_nonneg (by omega) (by omega)
  have b4 : M * M ≤ 200000 * 200000 := Int.mul_le_mul (by omega) (by omega) (by omega) (by omega)
  have a4 : ((lo + hi + 1) / 2 * ((lo + hi + 1) / 2)).toInt = M * M := by
    rw [Jvm.Kit.i64_mul (by rw [a3]; omega) (by rw [a3]; omega), a3]
  unfold lo_mrootS_2 lo_mrootS_4
  by_cases hc : 0 < lg_cmp ((lo + hi + 1) / 2 * ((lo + hi + 1) / 2)) x
  · rw [if_pos hc, if_pos hc]
    rw [lg_cmp_gt, Int64.lt_iff_toInt_lt, a4] at hc
    have a5 : ((lo + hi + 1) / 2 - 1).toInt = M - 1 := by rw [Jvm.Kit.i64_sub (by rw [a3, e1]; omega) (by rw [a3, e1]; omega), a3, e1]
    rw [a5]
    refine ⟨⟨h0, by omega, by omega, h3, fun _ => ?_⟩, by omega⟩
    have e : M - 1 + 1 = M := by omega
    rw [e]
    exact hc
  · rw [if_neg hc, if_neg hc]
    rw [lg_cmp_gt, Int64.lt_iff_toInt_lt, a4] at hc
    rw [a3]
    exact ⟨⟨by omega, b2, h2, fun _ => by omega, h4⟩, by omega⟩
theorem mr_0 (x : Int64) : mi x.toInt (0 : Int64).toInt (200000 : Int64).toInt ∧ (200000 : Int64).toInt - (0 : Int64).toInt ≤ 200000 := by
  have e1 : (0 : Int64).toInt = 0 := Int64.toInt_zero
  have e2 : (200000 : Int64).toInt = 200000 := by decide
  rw [e1, e2]
  exact ⟨⟨by decide, by decide, by decide, fun h => by omega, fun h => by omega⟩, by decide⟩
theorem mr_1 (x : Int64) : mi x.toInt (v_mroot_0 x).toInt (v_mroot_1 x).toInt ∧ (v_mroot_1 x).toInt - (v_mroot_0 x).toInt ≤ 100000 := mi_next (mr_0 x) (by decide) (by decide)
theorem mr_2 (x : Int64) (h1 : ¬ 0 ≤ lg_cmp (v_mroot_0 x) (v_mroot_1 x)) : mi x.toInt (v_mroot_2 x).toInt (v_mroot_3 x).toInt ∧ (v_mroot_3 x).toInt - (v_mroot_2 x).toInt ≤ 50000 := mi_next (mr_1 x) (by decide) h1
theorem mr_3 (x : Int64) (h1 : ¬ 0 ≤ lg_cmp (v_mroot_0 x) (v_mroot_1 x)) (h2 : ¬ 0 ≤ lg_cmp (v_mroot_2 x) (v_mroot_3 x)) : mi x.toInt (v_mroot_4 x).toInt (v_mroot_5 x).toInt ∧ (v_mroot_5 x).toInt - (v_mroot_4 x).toInt ≤ 25000 := mi_next (mr_2 x h1) (by decide) h2
theorem mr_4 (x : Int64) (h1 : ¬ 0 ≤ lg_cmp (v_mroot_0 x) (v_mroot_1 x)) (h2 : ¬ 0 ≤ lg_cmp (v_mroot_2 x) (v_mroot_3 x)) (h3 : ¬ 0 ≤ lg_cmp (v_mroot_4 x) (v_mroot_5 x)) : mi x.toInt (v_mroot_6 x).toInt (v_mroot_7 x).toInt ∧ (v_mroot_7 x).toInt - (v_mroot_6 x).toInt ≤ 12500 := mi_next (mr_3 x h1 h2) (by decide) h3
theorem mr_5 (x : Int64) (h1 : ¬ 0 ≤ lg_cmp (v_mroot_0 x) (v_mroot_1 x)) (h2 : ¬ 0 ≤ lg_cmp (v_mroot_2 x) (v_mroot_3 x)) (h3 : ¬ 0 ≤ lg_cmp (v_mroot_4 x) (v_mroot_5 x)) (h4 : ¬ 0 ≤ lg_cmp (v_mroot_6 x) (v_mroot_7 x)) : mi x.toInt (v_mroot_8 x).toInt (v_mroot_9 x).toInt ∧ (v_mroot_9 x).toInt - (v_mroot_8 x).toInt ≤ 6250 := mi_next (mr_4 x h1 h2 h3) (by decide) h4
theorem mr_6 (x : Int64) (h1 : ¬ 0 ≤ lg_cmp (v_mroot_0 x) (v_mroot_1 x)) (h2 : ¬ 0 ≤ lg_cmp (v_mroot_2 x) (v_mroot_3 x)) (h3 : ¬ 0 ≤ lg_cmp (v_mroot_4 x) (v_mroot_5 x)) (h4 : ¬ 0 ≤ lg_cmp (v_mroot_6 x) (v_mroot_7 x)) (h5 : ¬ 0 ≤ lg_cmp (v_mroot_8 x) (v_mroot_9 x)) : mi x.toInt (v_mroot_10 x).toInt (v_mroot_11 x).toInt ∧ (v_mroot_11 x).toInt - (v_mroot_10 x).toInt ≤ 3125 := mi_next (mr_5 x h1 h2 h3 h4) (by decide) h5
theorem mr_7 (x : Int64) (h1 : ¬ 0 ≤ lg_cmp (v_mroot_0 x) (v_mroot_1 x)) (h2 : ¬ 0 ≤ lg_cmp (v_mroot_2 x) (v_mroot_3 x)) (h3 : ¬ 0 ≤ lg_cmp (v_mroot_4 x) (v_mroot_5 x)) (h4 : ¬ 0 ≤ lg_cmp (v_mroot_6 x) (v_mroot_7 x)) (h5 : ¬ 0 ≤ lg_cmp (v_mroot_8 x) (v_mroot_9 x)) (h6 : ¬ 0 ≤ lg_cmp (v_mroot_10 x) (v_mroot_11 x)) : mi x.toInt (v_mroot_12 x).toInt (v_mroot_13 x).toInt ∧ (v_mroot_13 x).toInt - (v_mroot_12 x).toInt ≤ 1562 := mi_next (mr_6 x h1 h2 h3 h4 h5) (by decide) h6
theorem mr_8 (x : Int64) (h1 : ¬ 0 ≤ lg_cmp (v_mroot_0 x) (v_mroot_1 x)) (h2 : ¬ 0 ≤ lg_cmp (v_mroot_2 x) (v_mroot_3 x)) (h3 : ¬ 0 ≤ lg_cmp (v_mroot_4 x) (v_mroot_5 x)) (h4 : ¬ 0 ≤ lg_cmp (v_mroot_6 x) (v_mroot_7 x)) (h5 : ¬ 0 ≤ lg_cmp (v_mroot_8 x) (v_mroot_9 x)) (h6 : ¬ 0 ≤ lg_cmp (v_mroot_10 x) (v_mroot_11 x)) (h7 : ¬ 0 ≤ lg_cmp (v_mroot_12 x) (v_mroot_13 x)) : mi x.toInt (v_mroot_14 x).toInt (v_mroot_15 x).toInt ∧ (v_mroot_15 x).toInt - (v_mroot_14 x).toInt ≤ 781 := mi_next (mr_7 x h1 h2 h3 h4 h5 h6) (by decide) h7
theorem mr_9 (x : Int64) (h1 : ¬ 0 ≤ lg_cmp (v_mroot_0 x) (v_mroot_1 x)) (h2 : ¬ 0 ≤ lg_cmp (v_mroot_2 x) (v_mroot_3 x)) (h3 : ¬ 0 ≤ lg_cmp (v_mroot_4 x) (v_mroot_5 x)) (h4 : ¬ 0 ≤ lg_cmp (v_mroot_6 x) (v_mroot_7 x)) (h5 : ¬ 0 ≤ lg_cmp (v_mroot_8 x) (v_mroot_9 x)) (h6 : ¬ 0 ≤ lg_cmp (v_mroot_10 x) (v_mroot_11 x)) (h7 : ¬ 0 ≤ lg_cmp (v_mroot_12 x) (v_mroot_13 x)) (h8 : ¬ 0 ≤ lg_cmp (v_mroot_14 x) (v_mroot_15 x)) : mi x.toInt (v_mroot_16 x).toInt (v_mroot_17 x).toInt ∧ (v_mroot_17 x).toInt - (v_mroot_16 x).toInt ≤ 390 := mi_next (mr_8 x h1 h2 h3 h4 h5 h6 h7) (by decide) h8
theorem mr_10 (x : Int64) (h1 : ¬ 0 ≤ lg_cmp (v_mroot_0 x) (v_mroot_1 x)) (h2 : ¬ 0 ≤ lg_cmp (v_mroot_2 x) (v_mroot_3 x)) (h3 : ¬ 0 ≤ lg_cmp (v_mroot_4 x) (v_mroot_5 x)) (h4 : ¬ 0 ≤ lg_cmp (v_mroot_6 x) (v_mroot_7 x)) (h5 : ¬ 0 ≤ lg_cmp (v_mroot_8 x) (v_mroot_9 x)) (h6 : ¬ 0 ≤ lg_cmp (v_mroot_10 x) (v_mroot_11 x)) (h7 : ¬ 0 ≤ lg_cmp (v_mroot_12 x) (v_mroot_13 x)) (h8 : ¬ 0 ≤ lg_cmp (v_mroot_14 x) (v_mroot_15 x)) (h9 : ¬ 0 ≤ lg_cmp (v_mroot_16 x) (v_mroot_17 x)) : mi x.toInt (v_mroot_18 x).toInt (v_mroot_19 x).toInt ∧ (v_mroot_19 x).toInt - (v_mroot_18 x).toInt ≤ 195 := mi_next (mr_9 x h1 h2 h3 h4 h5 h6 h7 h8) (by decide) h9
theorem mr_11 (x : Int64) (h1 : ¬ 0 ≤ lg_cmp (v_mroot_0 x) (v_mroot_1 x)) (h2 : ¬ 0 ≤ lg_cmp (v_mroot_2 x) (v_mroot_3 x)) (h3 : ¬ 0 ≤ lg_cmp (v_mroot_4 x) (v_mroot_5 x)) (h4 : ¬ 0 ≤ lg_cmp (v_mroot_6 x) (v_mroot_7 x)) (h5 : ¬ 0 ≤ lg_cmp (v_mroot_8 x) (v_mroot_9 x)) (h6 : ¬ 0 ≤ lg_cmp (v_mroot_10 x) (v_mroot_11 x)) (h7 : ¬ 0 ≤ lg_cmp (v_mroot_12 x) (v_mroot_13 x)) (h8 : ¬ 0 ≤ lg_cmp (v_mroot_14 x) (v_mroot_15 x)) (h9 : ¬ 0 ≤ lg_cmp (v_mroot_16 x) (v_mroot_17 x)) (h10 : ¬ 0 ≤ lg_cmp (v_mroot_18 x) (v_mroot_19 x)) : mi x.toInt (v_mroot_20 x).toInt (v_mroot_21 x).toInt ∧ (v_mroot_21 x).toInt - (v_mroot_20 x).toInt ≤ 97 := mi_next (mr_10 x h1 h2 h3 h4 h5 h6 h7 h8 h9) (by decide) h10
theorem mr_12 (x : Int64) (h1 : ¬ 0 ≤ lg_cmp (v_mroot_0 x) (v_mroot_1 x)) (h2 : ¬ 0 ≤ lg_cmp (v_mroot_2 x) (v_mroot_3 x)) (h3 : ¬ 0 ≤ lg_cmp (v_mroot_4 x) (v_mroot_5 x)) (h4 : ¬ 0 ≤ lg_cmp (v_mroot_6 x) (v_mroot_7 x)) (h5 : ¬ 0 ≤ lg_cmp (v_mroot_8 x) (v_mroot_9 x)) (h6 : ¬ 0 ≤ lg_cmp (v_mroot_10 x) (v_mroot_11 x)) (h7 : ¬ 0 ≤ lg_cmp (v_mroot_12 x) (v_mroot_13 x)) (h8 : ¬ 0 ≤ lg_cmp (v_mroot_14 x) (v_mroot_15 x)) (h9 : ¬ 0 ≤ lg_cmp (v_mroot_16 x) (v_mroot_17 x)) (h10 : ¬ 0 ≤ lg_cmp (v_mroot_18 x) (v_mroot_19 x)) (h11 : ¬ 0 ≤ lg_cmp (v_mroot_20 x) (v_mroot_21 x)) : mi x.toInt (v_mroot_22 x).toInt (v_mroot_23 x).toInt ∧ (v_mroot_23 x).toInt - (v_mroot_22 x).toInt ≤ 48 := mi_next (mr_11 x h1 h2 h3 h4 h5 h6 h7 h8 h9 h10) (by decide) h11
theorem mr_13 (x : Int64) (h1 : ¬ 0 ≤ lg_cmp (v_mroot_0 x) (v_mroot_1 x)) (h2 : ¬ 0 ≤ lg_cmp (v_mroot_2 x) (v_mroot_3 x)) (h3 : ¬ 0 ≤ lg_cmp (v_mroot_4 x) (v_mroot_5 x)) (h4 : ¬ 0 ≤ lg_cmp (v_mroot_6 x) (v_mroot_7 x)) (h5 : ¬ 0 ≤ lg_cmp (v_mroot_8 x) (v_mroot_9 x)) (h6 : ¬ 0 ≤ lg_cmp (v_mroot_10 x) (v_mroot_11 x)) (h7 : ¬ 0 ≤ lg_cmp (v_mroot_12 x) (v_mroot_13 x)) (h8 : ¬ 0 ≤ lg_cmp (v_mroot_14 x) (v_mroot_15 x)) (h9 : ¬ 0 ≤ lg_cmp (v_mroot_16 x) (v_mroot_17 x)) (h10 : ¬ 0 ≤ lg_cmp (v_mroot_18 x) (v_mroot_19 x)) (h11 : ¬ 0 ≤ lg_cmp (v_mroot_20 x) (v_mroot_21 x)) (h12 : ¬ 0 ≤ lg_cmp (v_mroot_22 x) (v_mroot_23 x)) : mi x.toInt (v_mroot_24 x).toInt (v_mroot_25 x).toInt ∧ (v_mroot_25 x).toInt - (v_mroot_24 x).toInt ≤ 24 := mi_next (mr_12 x h1 h2 h3 h4 h5 h6 h7 h8 h9 h10 h11) (by decide) h12
theorem mr_14 (x : Int64) (h1 : ¬ 0 ≤ lg_cmp (v_mroot_0 x) (v_mroot_1 x)) (h2 : ¬ 0 ≤ lg_cmp (v_mroot_2 x) (v_mroot_3 x)) (h3 : ¬ 0 ≤ lg_cmp (v_mroot_4 x) (v_mroot_5 x)) (h4 : ¬ 0 ≤ lg_cmp (v_mroot_6 x) (v_mroot_7 x)) (h5 : ¬ 0 ≤ lg_cmp (v_mroot_8 x) (v_mroot_9 x)) (h6 : ¬ 0 ≤ lg_cmp (v_mroot_10 x) (v_mroot_11 x)) (h7 : ¬ 0 ≤ lg_cmp (v_mroot_12 x) (v_mroot_13 x)) (h8 : ¬ 0 ≤ lg_cmp (v_mroot_14 x) (v_mroot_15 x)) (h9 : ¬ 0 ≤ lg_cmp (v_mroot_16 x) (v_mroot_17 x)) (h10 : ¬ 0 ≤ lg_cmp (v_mroot_18 x) (v_mroot_19 x)) (h11 : ¬ 0 ≤ lg_cmp (v_mroot_20 x) (v_mroot_21 x)) (h12 : ¬ 0 ≤ lg_cmp (v_mroot_22 x) (v_mroot_23 x)) (h13 : ¬ 0 ≤ lg_cmp (v_mroot_24 x) (v_mroot_25 x)) : mi x.toInt (v_mroot_26 x).toInt (v_mroot_27 x).toInt ∧ (v_mroot_27 x).toInt - (v_mroot_26 x).toInt ≤ 12 := mi_next (mr_13 x h1 h2 h3 h4 h5 h6 h7 h8 h9 h10 h11 h12) (by decide) h13
theorem mr_15 (x : Int64) (h1 : ¬ 0 ≤ lg_cmp (v_mroot_0 x) (v_mroot_1 x)) (h2 : ¬ 0 ≤ lg_cmp (v_mroot_2 x) (v_mroot_3 x)) (h3 : ¬ 0 ≤ lg_cmp (v_mroot_4 x) (v_mroot_5 x)) (h4 : ¬ 0 ≤ lg_cmp (v_mroot_6 x) (v_mroot_7 x)) (h5 : ¬ 0 ≤ lg_cmp (v_mroot_8 x) (v_mroot_9 x)) (h6 : ¬ 0 ≤ lg_cmp (v_mroot_10 x) (v_mroot_11 x)) (h7 : ¬ 0 ≤ lg_cmp (v_mroot_12 x) (v_mroot_13 x)) (h8 : ¬ 0 ≤ lg_cmp (v_mroot_14 x) (v_mroot_15 x)) (h9 : ¬ 0 ≤ lg_cmp (v_mroot_16 x) (v_mroot_17 x)) (h10 : ¬ 0 ≤ lg_cmp (v_mroot_18 x) (v_mroot_19 x)) (h11 : ¬ 0 ≤ lg_cmp (v_mroot_20 x) (v_mroot_21 x)) (h12 : ¬ 0 ≤ lg_cmp (v_mroot_22 x) (v_mroot_23 x)) (h13 : ¬ 0 ≤ lg_cmp (v_mroot_24 x) (v_mroot_25 x)) (h14 : ¬ 0 ≤ lg_cmp (v_mroot_26 x) (v_mroot_27 x)) : mi x.toInt (v_mroot_28 x).toInt (v_mroot_29 x).toInt ∧ (v_mroot_29 x).toInt - (v_mroot_28 x).toInt ≤ 6 := mi_next (mr_14 x h1 h2 h3 h4 h5 h6 h7 h8 h9 h10 h11 h12 h13) (by decide) h14
theorem mr_16 (x : Int64) (h1 : ¬ 0 ≤ lg_cmp (v_mroot_0 x) (v_mroot_1 x)) (h2 : ¬ 0 ≤ lg_cmp (v_mroot_2 x) (v_mroot_3 x)) (h3 : ¬ 0 ≤ lg_cmp (v_mroot_4 x) (v_mroot_5 x)) (h4 : ¬ 0 ≤ lg_cmp (v_mroot_6 x) (v_mroot_7 x)) (h5 : ¬ 0 ≤ lg_cmp (v_mroot_8 x) (v_mroot_9 x)) (h6 : ¬ 0 ≤ lg_cmp (v_mroot_10 x) (v_mroot_11 x)) (h7 : ¬ 0 ≤ lg_cmp (v_mroot_12 x) (v_mroot_13 x)) (h8 : ¬ 0 ≤ lg_cmp (v_mroot_14 x) (v_mroot_15 x)) (h9 : ¬ 0 ≤ lg_cmp (v_mroot_16 x) (v_mroot_17 x)) (h10 : ¬ 0 ≤ lg_cmp (v_mroot_18 x) (v_mroot_19 x)) (h11 : ¬ 0 ≤ lg_cmp (v_mroot_20 x) (v_mroot_21 x)) (h12 : ¬ 0 ≤ lg_cmp (v_mroot_22 x) (v_mroot_23 x)) (h13 : ¬ 0 ≤ lg_cmp (v_mroot_24 x) (v_mroot_25 x)) (h14 : ¬ 0 ≤ lg_cmp (v_mroot_26 x) (v_mroot_27 x)) (h15 : ¬ 0 ≤ lg_cmp (v_mroot_28 x) (v_mroot_29 x)) : mi x.toInt (v_mroot_30 x).toInt (v_mroot_31 x).toInt ∧ (v_mroot_31 x).toInt - (v_mroot_30 x).toInt ≤ 3 := mi_next (mr_15 x h1 h2 h3 h4 h5 h6 h7 h8 h9 h10 h11 h12 h13 h14) (by decide) h15
theorem mr_17 (x : Int64) (h1 : ¬ 0 ≤ lg_cmp (v_mroot_0 x) (v_mroot_1 x)) (h2 : ¬ 0 ≤ lg_cmp (v_mroot_2 x) (v_mroot_3 x)) (h3 : ¬ 0 ≤ lg_cmp (v_mroot_4 x) (v_mroot_5 x)) (h4 : ¬ 0 ≤ lg_cmp (v_mroot_6 x) (v_mroot_7 x)) (h5 : ¬ 0 ≤ lg_cmp (v_mroot_8 x) (v_mroot_9 x)) (h6 : ¬ 0 ≤ lg_cmp (v_mroot_10 x) (v_mroot_11 x)) (h7 : ¬ 0 ≤ lg_cmp (v_mroot_12 x) (v_mroot_13 x)) (h8 : ¬ 0 ≤ lg_cmp (v_mroot_14 x) (v_mroot_15 x)) (h9 : ¬ 0 ≤ lg_cmp (v_mroot_16 x) (v_mroot_17 x)) (h10 : ¬ 0 ≤ lg_cmp (v_mroot_18 x) (v_mroot_19 x)) (h11 : ¬ 0 ≤ lg_cmp (v_mroot_20 x) (v_mroot_21 x)) (h12 : ¬ 0 ≤ lg_cmp (v_mroot_22 x) (v_mroot_23 x)) (h13 : ¬ 0 ≤ lg_cmp (v_mroot_24 x) (v_mroot_25 x)) (h14 : ¬ 0 ≤ lg_cmp (v_mroot_26 x) (v_mroot_27 x)) (h15 : ¬ 0 ≤ lg_cmp (v_mroot_28 x) (v_mroot_29 x)) (h16 : ¬ 0 ≤ lg_cmp (v_mroot_30 x) (v_mroot_31 x)) : mi x.toInt (v_mroot_32 x).toInt (v_mroot_33 x).toInt ∧ (v_mroot_33 x).toInt - (v_mroot_32 x).toInt ≤ 1 := mi_next (mr_16 x h1 h2 h3 h4 h5 h6 h7 h8 h9 h10 h11 h12 h13 h14 h15) (by decide) h16
theorem mr_18 (x : Int64) (h1 : ¬ 0 ≤ lg_cmp (v_mroot_0 x) (v_mroot_1 x)) (h2 : ¬ 0 ≤ lg_cmp (v_mroot_2 x) (v_mroot_3 x)) (h3 : ¬ 0 ≤ lg_cmp (v_mroot_4 x) (v_mroot_5 x)) (h4 : ¬ 0 ≤ lg_cmp (v_mroot_6 x) (v_mroot_7 x)) (h5 : ¬ 0 ≤ lg_cmp (v_mroot_8 x) (v_mroot_9 x)) (h6 : ¬ 0 ≤ lg_cmp (v_mroot_10 x) (v_mroot_11 x)) (h7 : ¬ 0 ≤ lg_cmp (v_mroot_12 x) (v_mroot_13 x)) (h8 : ¬ 0 ≤ lg_cmp (v_mroot_14 x) (v_mroot_15 x)) (h9 : ¬ 0 ≤ lg_cmp (v_mroot_16 x) (v_mroot_17 x)) (h10 : ¬ 0 ≤ lg_cmp (v_mroot_18 x) (v_mroot_19 x)) (h11 : ¬ 0 ≤ lg_cmp (v_mroot_20 x) (v_mroot_21 x)) (h12 : ¬ 0 ≤ lg_cmp (v_mroot_22 x) (v_mroot_23 x)) (h13 : ¬ 0 ≤ lg_cmp (v_mroot_24 x) (v_mroot_25 x)) (h14 : ¬ 0 ≤ lg_cmp (v_mroot_26 x) (v_mroot_27 x)) (h15 : ¬ 0 ≤ lg_cmp (v_mroot_28 x) (v_mroot_29 x)) (h16 : ¬ 0 ≤ lg_cmp (v_mroot_30 x) (v_mroot_31 x)) (h17 : ¬ 0 ≤ lg_cmp (v_mroot_32 x) (v_mroot_33 x)) : mi x.toInt (v_mroot_34 x).toInt (v_mroot_35 x).toInt ∧ (v_mroot_35 x).toInt - (v_mroot_34 x).toInt ≤ 0 := mi_next (mr_17 x h1 h2 h3 h4 h5 h6 h7 h8 h9 h10 h11 h12 h13 h14 h15 h16) (by decide) h17
theorem mroot_end (x : Int64) (h1 : ¬ 0 ≤ lg_cmp (v_mroot_0 x) (v_mroot_1 x)) (h2 : ¬ 0 ≤ lg_cmp (v_mroot_2 x) (v_mroot_3 x)) (h3 : ¬ 0 ≤ lg_cmp (v_mroot_4 x) (v_mroot_5 x)) (h4 : ¬ 0 ≤ lg_cmp (v_mroot_6 x) (v_mroot_7 x)) (h5 : ¬ 0 ≤ lg_cmp (v_mroot_8 x) (v_mroot_9 x)) (h6 : ¬ 0 ≤ lg_cmp (v_mroot_10 x) (v_mroot_11 x)) (h7 : ¬ 0 ≤ lg_cmp (v_mroot_12 x) (v_mroot_13 x)) (h8 : ¬ 0 ≤ lg_cmp (v_mroot_14 x) (v_mroot_15 x)) (h9 : ¬ 0 ≤ lg_cmp (v_mroot_16 x) (v_mroot_17 x)) (h10 : ¬ 0 ≤ lg_cmp (v_mroot_18 x) (v_mroot_19 x)) (h11 : ¬ 0 ≤ lg_cmp (v_mroot_20 x) (v_mroot_21 x)) (h12 : ¬ 0 ≤ lg_cmp (v_mroot_22 x) (v_mroot_23 x)) (h13 : ¬ 0 ≤ lg_cmp (v_mroot_24 x) (v_mroot_25 x)) (h14 : ¬ 0 ≤ lg_cmp (v_mroot_26 x) (v_mroot_27 x)) (h15 : ¬ 0 ≤ lg_cmp (v_mroot_28 x) (v_mroot_29 x)) (h16 : ¬ 0 ≤ lg_cmp (v_mroot_30 x) (v_mroot_31 x)) (h17 : ¬ 0 ≤ lg_cmp (v_mroot_32 x) (v_mroot_33 x)) : 0 ≤ lg_cmp (v_mroot_34 x) (v_mroot_35 x) := by
  obtain ⟨⟨-, h, -⟩, hd⟩ := mr_18 x h1 h2 h3 h4 h5 h6 h7 h8 h9 h10 h11 h12 h13 h14 h15 h16 h17
  rw [lg_cmp_ge, Int64.le_iff_toInt_le]
  omega
def mr_P (X : Int) (r : Int32) : Prop := 0 ≤ r.toInt ∧ r.toInt ≤ 200000 ∧ (0 ≤ X → X < 40000400001 → r.toInt * r.toInt ≤ X ∧ X < (r.toInt + 1) * (r.toInt + 1))
theorem mr_fin {X : Int} {lo hi : Int64} {d : Int} (h : mi X lo.toInt hi.toInt ∧ hi.toInt - lo.toInt ≤ d) (hge : 0 ≤ lg_cmp lo hi) : mr_P X lo.toInt32 := by
  obtain ⟨⟨h0, h1, h2, h3, h4⟩, -⟩ := h
  rw [lg_cmp_ge, Int64.le_iff_toInt_le] at hge
  have e : lo.toInt32.toInt = lo.toInt := Jvm.Kit.i32_of_i64 (by omega) (by omega)
  have e2 : hi.toInt = lo.toInt := by omega
  unfold mr_P
  rw [e]
  refine ⟨h0, by omega, fun q1 q2 => ⟨h3 q1, ?_⟩⟩
  have := h4 q2
  rw [e2] at this
  exact this
theorem mroot_P (x : Int64) : mr_P x.toInt (r_mroot x) := by
  unfold r_mroot
  by_cases h1 : 0 ≤ lg_cmp (v_mroot_0 x) (v_mroot_1 x)
  · rw [if_pos h1]
    exact mr_fin (mr_1 x) h1
  rw [if_neg h1]
  by_cases h2 : 0 ≤ lg_cmp (v_mroot_2 x) (v_mroot_3 x)
  · rw [if_pos h2]
    exact mr_fin (mr_2 x h1) h2
  rw [if_neg h2]
  by_cases h3 : 0 ≤ lg_cmp (v_mroot_4 x) (v_mroot_5 x)
  · rw [if_pos h3]
    exact mr_fin (mr_3 x h1 h2) h3
  rw [if_neg h3]
  by_cases h4 : 0 ≤ lg_cmp (v_mroot_6 x) (v_mroot_7 x)
  · rw [if_pos h4]
    exact mr_fin (mr_4 x h1 h2 h3) h4
  rw [if_neg h4]
  by_cases h5 : 0 ≤ lg_cmp (v_mroot_8 x) (v_mroot_9 x)
  · rw [if_pos h5]
    exact mr_fin (mr_5 x h1 h2 h3 h4) h5
  rw [if_neg h5]
  by_cases h6 : 0 ≤ lg_cmp (v_mroot_10 x) (v_mroot_11 x)
  · rw [if_pos h6]
    exact mr_fin (mr_6 x h1 h2 h3 h4 h5) h6
  rw [if_neg h6]
  by_cases h7 : 0 ≤ lg_cmp (v_mroot_12 x) (v_mroot_13 x)
  · rw [if_pos h7]
    exact mr_fin (mr_7 x h1 h2 h3 h4 h5 h6) h7
  rw [if_neg h7]
  by_cases h8 : 0 ≤ lg_cmp (v_mroot_14 x) (v_mroot_15 x)
  · rw [if_pos h8]
    exact mr_fin (mr_8 x h1 h2 h3 h4 h5 h6 h7) h8
  rw [if_neg h8]
  by_cases h9 : 0 ≤ lg_cmp (v_mroot_16 x) (v_mroot_17 x)
  · rw [if_pos h9]
    exact mr_fin (mr_9 x h1 h2 h3 h4 h5 h6 h7 h8) h9
  rw [if_neg h9]
  by_cases h10 : 0 ≤ lg_cmp (v_mroot_18 x) (v_mroot_19 x)
  · rw [if_pos h10]
    exact mr_fin (mr_10 x h1 h2 h3 h4 h5 h6 h7 h8 h9) h10
  rw [if_neg h10]
  by_cases h11 : 0 ≤ lg_cmp (v_mroot_20 x) (v_mroot_21 x)
  · rw [if_pos h11]
    exact mr_fin (mr_11 x h1 h2 h3 h4 h5 h6 h7 h8 h9 h10) h11
  rw [if_neg h11]
  by_cases h12 : 0 ≤ lg_cmp (v_mroot_22 x) (v_mroot_23 x)
  · rw [if_pos h12]
    exact mr_fin (mr_12 x h1 h2 h3 h4 h5 h6 h7 h8 h9 h10 h11) h12
  rw [if_neg h12]
  by_cases h13 : 0 ≤ lg_cmp (v_mroot_24 x) (v_mroot_25 x)
  · rw [if_pos h13]
    exact mr_fin (mr_13 x h1 h2 h3 h4 h5 h6 h7 h8 h9 h10 h11 h12) h13
  rw [if_neg h13]
  by_cases h14 : 0 ≤ lg_cmp (v_mroot_26 x) (v_mroot_27 x)
  · rw [if_pos h14]
    exact mr_fin (mr_14 x h1 h2 h3 h4 h5 h6 h7 h8 h9 h10 h11 h12 h13) h14
  rw [if_neg h14]
  by_cases h15 : 0 ≤ lg_cmp (v_mroot_28 x) (v_mroot_29 x)
  · rw [if_pos h15]
    exact mr_fin (mr_15 x h1 h2 h3 h4 h5 h6 h7 h8 h9 h10 h11 h12 h13 h14) h15
  rw [if_neg h15]
  by_cases h16 : 0 ≤ lg_cmp (v_mroot_30 x) (v_mroot_31 x)
  · rw [if_pos h16]
    exact mr_fin (mr_16 x h1 h2 h3 h4 h5 h6 h7 h8 h9 h10 h11 h12 h13 h14 h15) h16
  rw [if_neg h16]
  by_cases h17 : 0 ≤ lg_cmp (v_mroot_32 x) (v_mroot_33 x)
  · rw [if_pos h17]
    exact mr_fin (mr_17 x h1 h2 h3 h4 h5 h6 h7 h8 h9 h10 h11 h12 h13 h14 h15 h16) h17
  rw [if_neg h17]
  by_cases h18 : 0 ≤ lg_cmp (v_mroot_34 x) (v_mroot_35 x)
  · rw [if_pos h18]
    exact mr_fin (mr_18 x h1 h2 h3 h4 h5 h6 h7 h8 h9 h10 h11 h12 h13 h14 h15 h16 h17) h18
  rw [if_neg h18]
  exact absurd (mroot_end x h1 h2 h3 h4 h5 h6 h7 h8 h9 h10 h11 h12 h13 h14 h15 h16 h17) h18
theorem mroot_ne (x : Int64) : ¬ (r_mroot x + 1).toInt64 = 0 := by
  intro h
  obtain ⟨h0, h1, -⟩ := mroot_P x
  have e := congrArg Int64.toInt h
  have e1 : (1 : Int32).toInt = 1 := by decide
  rw [Jvm.Kit.i64_of_i32, Jvm.Kit.i32_add (by rw [e1]; omega) (by rw [e1]; omega), e1, Int64.toInt_zero] at e
  omega
set_option maxHeartbeats 4000000 in
set_option maxRecDepth 100000 in
theorem c_mroot (l : Launch) (dC : Nat → ClassId) (dI : Nat → Nat → Nat) (ls0 : Int64) : Met l y_Mo_root (wz y_Mo_root b_Mo_root 8 (some .int)) { frames := 0, cells := 0, slots := 0, locals := 0 } (va_Pc [.long ls0] (fun U => nw U ∧ va_P (dC, dI) vwCl [] U.heap ∧ va_K (dC, dI) vwCl [] U)) (k2_QcV (.int (r_mroot ls0))) 0 0 (fun _ => False) := by
  refine Met.ofW (cc := b_Mo_root) (maxL := 8) (ret := (some .int)) (by decide) rfl ?_
  intro p e s m args below meth c s₁ B hml hv
  obtain ⟨rfl, hN, hP, hK⟩ := hv
  have hx := B.exec
  have hb := B.bytes
  have hr := B.returns
  have hts := fun w h => atoms_spec (ws := (wz y_Mo_root b_Mo_root 8 (some .int))) B.pre w (List.mem_cons_of_mem _ h)
  have hown : s.vm.findClass R_Mo = some m.cls := findClass_of_methodNamed B.named
  have hlocks := B.notSynchronized
  have hl := lv_entry ([.long ls0]) (n := 8) (Nat.le_of_ble_eq_true rfl)
  rw [lg_entry_eq]
  generalize (lg_sl ([.long ls0]) ++ List.replicate (8 - (lg_sl ([.long ls0])).length) Slot.unset).toArray = ls at hl ⊢
  have hl : lv_has ls 8 [(0, .long ls0)] := hl
  refine lv_lconst (v := 0) hx hb d_Mo_root_0 (by decide) ?_
  refine lv_lstore_n (lv' := [(2, .long 0), (0, .long ls0)]) hx hb d_Mo_root_1 rfl hl (by decide) rfl (fun ls hl => ?_)
  refine lv_ldc2 (v := 200000) hx hb hown (hts _ wd_879) d_Mo_root_2 ?_
  refine lv_lstore (lv' := [(4, .long 200000), (2, .long 0), (0, .long ls0)]) hx hb d_Mo_root_5 hl (by decide) rfl (fun ls hl => ?_)
  refine lv_lload_n hx hb d_Mo_root_7 rfl (lv_at hl 1 rfl) ?_
  refine lv_lload hx hb d_Mo_root_8 (lv_at hl 0 rfl) ?_
  refine W.lcmp hx hb d_Mo_root_10 ?_
  refine kq_fi (y := (-1)) (by decide) ?_
  refine lv_if_ge (tgt := 51) hx hb d_Mo_root_11 rfl (fun h => absurd h (by decide)) (fun _ => ?_)
  refine g_mrootS dC dI ls0 0 200000 hx hb hml hts hown hN (hK.sub (tys' := []) [] rfl) (lv_sub hl (l' := [(0, .long ls0), (2, .long 0), (4, .long 200000)]) [2, 1, 0] rfl) (hP.sub (ws' := []) [] rfl) (fun ls hl => ?_)
  have hl : lv_has ls 8 [(0, .long ls0), (2, .long (v_mroot_0 ls0)), (4, .long (v_mroot_1 ls0))] := hl
  refine lv_lload_n hx hb d_Mo_root_7 rfl (lv_at hl 1 rfl) ?_
  refine lv_lload hx hb d_Mo_root_8 (lv_at hl 2 rfl) ?_
  refine W.lcmp hx hb d_Mo_root_10 ?_
  refine lv_if_ge hx hb (tgt := 51) d_Mo_root_11 rfl (fun h1 => ?_) (fun h1 => ?_)
  · refine lv_lload_n hx hb d_Mo_root_51 rfl (lv_at hl 1 rfl) ?_
    refine lv_l2i hx hb d_Mo_root_52 rfl ?_
    exact W.iret (v := (v_mroot_0 ls0).toInt32) hx hb hr (fun t ht hW => ⟨by rw [(show r_mroot ls0 = (v_mroot_0 ls0).toInt32 from by unfold r_mroot; rw [if_pos h1])], ht⟩) (fun q hq => by cases hq) d_Mo_root_53
  · refine g_mrootS dC dI ls0 (v_mroot_0 ls0) (v_mroot_1 ls0) hx hb hml hts hown hN (hK.sub (tys' := []) [] rfl) (lv_sub hl (l' := [(0, .long ls0), (2, .long (v_mroot_0 ls0)), (4, .long (v_mroot_1 ls0))]) [0, 1, 2] rfl) (hP.sub (ws' := []) [] rfl) (fun ls hl => ?_)
    have hl : lv_has ls 8 [(0, .long ls0), (2, .long (v_mroot_2 ls0)), (4, .long (v_mroot_3 ls0))] := hl
    refine lv_lload_n hx hb d_Mo_root_7 rfl (lv_at hl 1 rfl) ?_
    refine lv_lload hx hb d_Mo_root_8 (lv_at hl 2 rfl) ?_
    refine W.lcmp hx hb d_Mo_root_10 ?_
    refine lv_if_ge hx hb (tgt := 51) d_Mo_root_11 rfl (fun h2 => ?_) (fun h2 => ?_)
    · refine lv_lload_n hx hb d_Mo_root_51 rfl (lv_at hl 1 rfl) ?_
      refine lv_l2i hx hb d_Mo_root_52 rfl ?_
      exact W.iret (v := (v_mroot_2 ls0).toInt32) hx hb hr (fun t ht hW => ⟨by rw [(show r_mroot ls0 = (v_mroot_2 ls0).toInt32 from by unfold r_mroot; rw [if_neg h1, if_pos h2])], ht⟩) (fun q hq => by cases hq) d_Mo_root_53
    · refine g_mrootS dC dI ls0 (v_mroot_2 ls0) (v_mroot_3 ls0) hx hb hml hts hown hN (hK.sub (tys' := []) [] rfl) (lv_sub hl (l' := [(0, .long ls0), (2, .long (v_mroot_2 ls0)), (4, .long (v_mroot_3 ls0))]) [0, 1, 2] rfl) (hP.sub (ws' := []) [] rfl) (fun ls hl => ?_)
      have hl : lv_has ls 8 [(0, .long ls0), (2, .long (v_mroot_4 ls0)), (4, .long (v_mroot_5 ls0))] := hl
      refine lv_lload_n hx hb d_Mo_root_7 rfl (lv_at hl 1 rfl) ?_
      refine lv_lload hx hb d_Mo_root_8 (lv_at hl 2 rfl) ?_
      refine W.lcmp hx hb d_Mo_root_10 ?_
      refine lv_if_ge hx hb (tgt := 51) d_Mo_root_11 rfl (fun h3 => ?_) (fun h3 => ?_)
      · refine lv_lload_n hx hb d_Mo_root_51 rfl (lv_at hl 1 rfl) ?_
        refine lv_l2i hx hb d_Mo_root_52 rfl ?_
        exact W.iret (v := (v_mroot_4 ls0).toInt32) hx hb hr (fun t ht hW => ⟨by rw [(show r_mroot ls0 = (v_mroot_4 ls0).toInt32 from by unfold r_mroot; rw [if_neg h1, if_neg h2, if_pos h3])], ht⟩) (fun q hq => by cases hq) d_Mo_root_53
      · refine g_mrootS dC dI ls0 (v_mroot_4 ls0) (v_mroot_5 ls0) hx hb hml hts hown hN (hK.sub (tys' := []) [] rfl) (lv_sub hl (l' := [(0, .long ls0), (2, .long (v_mroot_4 ls0)), (4, .long (v_mroot_5 ls0))]) [0, 1, 2] rfl) (hP.sub (ws' := []) [] rfl) (fun ls hl => ?_)
        have hl : lv_has ls 8 [(0, .long ls0), (2, .long (v_mroot_6 ls0)), (4, .long (v_mroot_7 ls0))] := hl
        refine lv_lload_n hx hb d_Mo_root_7 rfl (lv_at hl 1 rfl) ?_
        refine lv_lload hx hb d_Mo_root_8 (lv_at hl 2 rfl) ?_
        refine W.lcmp hx hb d_Mo_root_10 ?_
        refine lv_if_ge hx hb (tgt := 51) d_Mo_root_11 rfl (fun h4 => ?_) (fun h4 => ?_)
        · refine lv_lload_n hx hb d_Mo_root_51 rfl (lv_at hl 1 rfl) ?_
          refine lv_l2i hx hb d_Mo_root_52 rfl ?_
          exact W.iret (v := (v_mroot_6 ls0).toInt32) hx hb hr (fun t ht hW => ⟨by rw [(show r_mroot ls0 = (v_mroot_6 ls0).toInt32 from by unfold r_mroot; rw [if_neg h1, if_neg h2, if_neg h3, if_pos h4])], ht⟩) (fun q hq => by cases hq) d_Mo_root_53
        · refine g_mrootS dC dI ls0 (v_mroot_6 ls0) (v_mroot_7 ls0) hx hb hml hts hown hN (hK.sub (tys' := []) [] rfl) (lv_sub hl (l' := [(0, .long ls0), (2, .long (v_mroot_6 ls0)), (4, .long (v_mroot_7 ls0))]) [0, 1, 2] rfl) (hP.sub (ws' := []) [] rfl) (fun ls hl => ?_)
          have hl : lv_has ls 8 [(0, .long ls0), (2, .long (v_mroot_8 ls0)), (4, .long (v_mroot_9 ls0))] := hl
          refine lv_lload_n hx hb d_Mo_root_7 rfl (lv_at hl 1 rfl) ?_
          refine lv_lload hx hb d_Mo_root_8 (lv_at hl 2 rfl) ?_
          refine W.lcmp hx hb d_Mo_root_10 ?_
          refine lv_if_ge hx hb (tgt := 51) d_Mo_root_11 rfl (fun h5 => ?_) (fun h5 => ?_)
          · refine lv_lload_n hx hb d_Mo_root_51 rfl (lv_at hl 1 rfl) ?_
            refine lv_l2i hx hb d_Mo_root_52 rfl ?_
            exact W.iret (v := (v_mroot_8 ls0).toInt32) hx hb hr (fun t ht hW => ⟨by rw [(show r_mroot ls0 = (v_mroot_8 ls0).toInt32 from by unfold r_mroot; rw [if_neg h1, if_neg h2, if_neg h3, if_neg h4, if_pos h5])], ht⟩) (fun q hq => by cases hq) d_Mo_root_53
          · refine g_mrootS dC dI ls0 (v_mroot_8 ls0) (v_mroot_9 ls0) hx hb hml hts hown hN (hK.sub (tys' := []) [] rfl) (lv_sub hl (l' := [(0, .long ls0), (2, .long (v_mroot_8 ls0)), (4, .long (v_mroot_9 ls0))]) [0, 1, 2] rfl) (hP.sub (ws' := []) [] rfl) (fun ls hl => ?_)
            have hl : lv_has ls 8 [(0, .long ls0), (2, .long (v_mroot_10 ls0)), (4, .long (v_mroot_11 ls0))] := hl
            refine lv_lload_n hx hb d_Mo_root_7 rfl (lv_at hl 1 rfl) ?_
            refine lv_lload hx hb d_Mo_root_8 (lv_at hl 2 rfl) ?_
            refine W.lcmp hx hb d_Mo_root_10 ?_
            refine lv_if_ge hx hb (tgt := 51) d_Mo_root_11 rfl (fun h6 => ?_) (fun h6 => ?_)
            · refine lv_lload_n hx hb d_Mo_root_51 rfl (lv_at hl 1 rfl) ?_
              refine lv_l2i hx hb d_Mo_root_52 rfl ?_
              exact W.iret (v := (v_mroot_10 ls0).toInt32) hx hb hr (fun t ht hW => ⟨by rw [(show r_mroot ls0 = (v_mroot_10 ls0).toInt32 from by unfold r_mroot; rw [if_neg h1, if_neg h2, if_neg h3, if_neg h4, if_neg h5, if_pos h6])], ht⟩) (fun q hq => by cases hq) d_Mo_root_53
            · refine g_mrootS dC dI ls0 (v_mroot_10 ls0) (v_mroot_11 ls0) hx hb hml hts hown hN (hK.sub (tys' := []) [] rfl) (lv_sub hl (l' := [(0, .long ls0), (2, .long (v_mroot_10 ls0)), (4, .long (v_mroot_11 ls0))]) [0, 1, 2] rfl) (hP.sub (ws' := []) [] rfl) (fun ls hl => ?_)
              have hl : lv_has ls 8 [(0, .long ls0), (2, .long (v_mroot_12 ls0)), (4, .long (v_mroot_13 ls0))] := hl
              refine lv_lload_n hx hb d_Mo_root_7 rfl (lv_at hl 1 rfl) ?_
              refine lv_lload hx hb d_Mo_root_8 (lv_at hl 2 rfl) ?_
              refine W.lcmp hx hb d_Mo_root_10 ?_
              refine lv_if_ge hx hb (tgt := 51) d_Mo_root_11 rfl (fun h7 => ?_) (fun h7 => ?_)
              · refine lv_lload_n hx hb d_Mo_root_51 rfl (lv_at hl 1 rfl) ?_
                refine lv_l2i hx hb d_Mo_root_52 rfl ?_
                exact W.iret (v := (v_mroot_12 ls0).toInt32) hx hb hr (fun t ht hW => ⟨by rw [(show r_mroot ls0 = (v_mroot_12 ls0).toInt32 from by unfold r_mroot; rw [if_neg h1, if_neg h2, if_neg h3, if_neg h4, if_neg h5, if_neg h6, if_pos h7])], ht⟩) (fun q hq => by cases hq) d_Mo_root_53
              · refine g_mrootS dC dI ls0 (v_mroot_12 ls0) (v_mroot_13 ls0) hx hb hml hts hown hN (hK.sub (tys' := []) [] rfl) (lv_sub hl (l' := [(0, .long ls0), (2, .long (v_mroot_12 ls0)), (4, .long (v_mroot_13 ls0))]) [0, 1, 2] rfl) (hP.sub (ws' := []) [] rfl) (fun ls hl => ?_)
                have hl : lv_has ls 8 [(0, .long ls0), (2, .long (v_mroot_14 ls0)), (4, .long (v_mroot_15 ls0))] := hl
                refine lv_lload_n hx hb d_Mo_root_7 rfl (lv_at hl 1 rfl) ?_
                refine lv_lload hx hb d_Mo_root_8 (lv_at hl 2 rfl) ?_
                refine W.lcmp hx hb d_Mo_root_10 ?_
                refine lv_if_ge hx hb (tgt := 51) d_Mo_root_11 rfl (fun h8 => ?_) (fun h8 => ?_)
                · refine lv_lload_n hx hb d_Mo_root_51 rfl (lv_at hl 1 rfl) ?_
                  refine lv_l2i hx hb d_Mo_root_52 rfl ?_
                  exact W.iret (v := (v_mroot_14 ls0).toInt32) hx hb hr (fun t ht hW => ⟨by rw [(show r_mroot ls0 = (v_mroot_14 ls0).toInt32 from by unfold r_mroot; rw [if_neg h1, if_neg h2, if_neg h3, if_neg h4, if_neg h5, if_neg h6, if_neg h7, if_pos h8])], ht⟩) (fun q hq => by cases hq) d_Mo_root_53
                · refine g_mrootS dC dI ls0 (v_mroot_14 ls0) (v_mroot_15 ls0) hx hb hml hts hown hN (hK.sub (tys' := []) [] rfl) (lv_sub hl (l' := [(0, .long ls0), (2, .long (v_mroot_14 ls0)), (4, .long (v_mroot_15 ls0))]) [0, 1, 2] rfl) (hP.sub (ws' := []) [] rfl) (fun ls hl => ?_)
                  have hl : lv_has ls 8 [(0, .long ls0), (2, .long (v_mroot_16 ls0)), (4, .long (v_mroot_17 ls0))] := hl
                  refine lv_lload_n hx hb d_Mo_root_7 rfl (lv_at hl 1 rfl) ?_
                  refine lv_lload hx hb d_Mo_root_8 (lv_at hl 2 rfl) ?_
                  refine W.lcmp hx hb d_Mo_root_10 ?_
                  refine lv_if_ge hx hb (tgt := 51) d_Mo_root_11 rfl (fun h9 => ?_) (fun h9 => ?_)
                  · refine lv_lload_n hx hb d_Mo_root_51 rfl (lv_at hl 1 rfl) ?_
                    refine lv_l2i hx hb d_Mo_root_52 rfl ?_
                    exact W.iret (v := (v_mroot_16 ls0).toInt32) hx hb hr (fun t ht hW => ⟨by rw [(show r_mroot ls0 = (v_mroot_16 ls0).toInt32 from by unfold r_mroot; rw [if_neg h1, if_neg h2, if_neg h3, if_neg h4, if_neg h5, if_neg h6, if_neg h7, if_neg h8, if_pos h9])], ht⟩) (fun q hq => by cases hq) d_Mo_root_53
                  · refine g_mrootS dC dI ls0 (v_mroot_16 ls0) (v_mroot_17 ls0) hx hb hml hts hown hN (hK.sub (tys' := []) [] rfl) (lv_sub hl (l' := [(0, .long ls0), (2, .long (v_mroot_16 ls0)), (4, .long (v_mroot_17 ls0))]) [0, 1, 2] rfl) (hP.sub (ws' := []) [] rfl) (fun ls hl => ?_)
                    have hl : lv_has ls 8 [(0, .long ls0), (2, .long (v_mroot_18 ls0)), (4, .long (v_mroot_19 ls0))] := hl
                    refine lv_lload_n hx hb d_Mo_root_7 rfl (lv_at hl 1 rfl) ?_
                    refine lv_lload hx hb d_Mo_root_8 (lv_at hl 2 rfl) ?_
                    refine W.lcmp hx hb d_Mo_root_10 ?_
                    refine lv_if_ge hx hb (tgt := 51) d_Mo_root_11 rfl (fun h10 => ?_) (fun h10 => ?_)
                    · refine lv_lload_n hx hb d_Mo_root_51 rfl (lv_at hl 1 rfl) ?_
                      refine lv_l2i hx hb d_Mo_root_52 rfl ?_
                      exact W.iret (v := (v_mroot_18 ls0).toInt32) hx hb hr (fun t ht hW => ⟨by rw [(show r_mroot ls0 = (v_mroot_18 ls0).toInt32 from by unfold r_mroot; rw [if_neg h1, if_neg h2, if_neg h3, if_neg h4, if_neg h5, if_neg h6, if_neg h7, if_neg h8, if_neg h9, if_pos h10])], ht⟩) (fun q hq => by cases hq) d_Mo_root_53
                    · refine g_mrootS dC dI ls0 (v_mroot_18 ls0) (v_mroot_19 ls0) hx hb hml hts hown hN (hK.sub (tys' := []) [] rfl) (lv_sub hl (l' := [(0, .long ls0), (2, .long (v_mroot_18 ls0)), (4, .long (v_mroot_19 ls0))]) [0, 1, 2] rfl) (hP.sub (ws' := []) [] rfl) (fun ls hl => ?_)
                      have hl : lv_has ls 8 [(0, .long ls0), (2, .long (v_mroot_20 ls0)), (4, .long (v_mroot_21 ls0))] := hl
                      refine lv_lload_n hx hb d_Mo_root_7 rfl (lv_at hl 1 rfl) ?_
                      refine lv_lload hx hb d_Mo_root_8 (lv_at hl 2 rfl) ?_
                      refine W.lcmp hx hb d_Mo_root_10 ?_
                      refine lv_if_ge hx hb (tgt := 51) d_Mo_root_11 rfl (fun h11 => ?_) (fun h11 => ?_)
                      · refine lv_lload_n hx hb d_Mo_root_51 rfl (lv_at hl 1 rfl) ?_
                        refine lv_l2i hx hb d_Mo_root_52 rfl ?_
                        exact W.iret (v := (v_mroot_20 ls0).toInt32) hx hb hr (fun t ht hW => ⟨by rw [(show r_mroot ls0 = (v_mroot_20 ls0).toInt32 from by unfold r_mroot; rw [if_neg h1, if_neg h2, if_neg h3, if_neg h4, if_neg h5, if_neg h6, if_neg h7, if_neg h8, if_neg h9, if_neg h10, if_pos h11])], ht⟩) (fun q hq => by cases hq) d_Mo_root_53
                      · refine g_mrootS dC dI ls0 (v_mroot_20 ls0) (v_mroot_21 ls0) hx hb hml hts hown hN (hK.sub (tys' := []) [] rfl) (lv_sub hl (l' := [(0, .long ls0), (2, .long (v_mroot_20 ls0)), (4, .long (v_mroot_21 ls0))]) [0, 1, 2] rfl) (hP.sub (ws' := []) [] rfl) (fun ls hl => ?_)
                        have hl : lv_has ls 8 [(0, .long ls0), (2, .long (v_mroot_22 ls0)), (4, .long (v_mroot_23 ls0))] := hl
                        refine lv_lload_n hx hb d_Mo_root_7 rfl (lv_at hl 1 rfl) ?_
                        refine lv_lload hx hb d_Mo_root_8 (lv_at hl 2 rfl) ?_
                        refine W.lcmp hx hb d_Mo_root_10 ?_
                        refine lv_if_ge hx hb (tgt := 51) d_Mo_root_11 rfl (fun h12 => ?_) (fun h12 => ?_)
                        · refine lv_lload_n hx hb d_Mo_root_51 rfl (lv_at hl 1 rfl) ?_
                          refine lv_l2i hx hb d_Mo_root_52 rfl ?_
                          exact W.iret (v := (v_mroot_22 ls0).toInt32) hx hb hr (fun t ht hW => ⟨by rw [(show r_mroot ls0 = (v_mroot_22 ls0).toInt32 from by unfold r_mroot; rw [if_neg h1, if_neg h2, if_neg h3, if_neg h4, if_neg h5, if_neg h6, if_neg h7, if_neg h8, if_neg h9, if_neg h10, if_neg h11, if_pos h12])], ht⟩) (fun q hq => by cases hq) d_Mo_root_53
                        · refine g_mrootS dC dI ls0 (v_mroot_22 ls0) (v_mroot_23 ls0) hx hb hml hts hown hN (hK.sub (tys' := []) [] rfl) (lv_sub hl (l' := [(0, .long ls0), (2, .long (v_mroot_22 ls0)), (4, .long (v_mroot_23 ls0))]) [0, 1, 2] rfl) (hP.sub (ws' := []) [] rfl) (fun ls hl => ?_)
                          have hl : lv_has ls 8 [(0, .long ls0), (2, .long (v_mroot_24 ls0)), (4, .long (v_mroot_25 ls0))] := hl
                          refine lv_lload_n hx hb d_Mo_root_7 rfl (lv_at hl 1 rfl) ?_
                          refine lv_lload hx hb d_Mo_root_8 (lv_at hl 2 rfl) ?_
                          refine W.lcmp hx hb d_Mo_root_10 ?_
                          refine lv_if_ge hx hb (tgt := 51) d_Mo_root_11 rfl (fun h13 => ?_) (fun h13 => ?_)
                          · refine lv_lload_n hx hb d_Mo_root_51 rfl (lv_at hl 1 rfl) ?_
                            refine lv_l2i hx hb d_Mo_root_52 rfl ?_
                            exact W.iret (v := (v_mroot_24 ls0).toInt32) hx hb hr (fun t ht hW => ⟨by rw [(show r_mroot ls0 = (v_mroot_24 ls0).toInt32 from by unfold r_mroot; rw [if_neg h1, if_neg h2, if_neg h3, if_neg h4, if_neg h5, if_neg h6, if_neg h7, if_neg h8, if_neg h9, if_neg h10, if_neg h11, if_neg h12, if_pos h13])], ht⟩) (fun q hq => by cases hq) d_Mo_root_53
                          · refine g_mrootS dC dI ls0 (v_mroot_24 ls0) (v_mroot_25 ls0) hx hb hml hts hown hN (hK.sub (tys' := []) [] rfl) (lv_sub hl (l' := [(0, .long ls0), (2, .long (v_mroot_24 ls0)), (4, .long (v_mroot_25 ls0))]) [0, 1, 2] rfl) (hP.sub (ws' := []) [] rfl) (fun ls hl => ?_)
                            have hl : lv_has ls 8 [(0, .long ls0), (2, .long (v_mroot_26 ls0)), (4, .long (v_mroot_27 ls0))] := hl
                            refine lv_lload_n hx hb d_Mo_root_7 rfl (lv_at hl 1 rfl) ?_
                            refine lv_lload hx hb d_Mo_root_8 (lv_at hl 2 rfl) ?_
                            refine W.lcmp hx hb d_Mo_root_10 ?_
                            refine lv_if_ge hx hb (tgt := 51) d_Mo_root_11 rfl (fun h14 => ?_) (fun h14 => ?_)
                            · refine lv_lload_n hx hb d_Mo_root_51 rfl (lv_at hl 1 rfl) ?_
                              refine lv_l2i hx hb d_Mo_root_52 rfl ?_
                              exact W.iret (v := (v_mroot_26 ls0).toInt32) hx hb hr (fun t ht hW => ⟨by rw [(show r_mroot ls0 = (v_mroot_26 ls0).toInt32 from by unfold r_mroot; rw [if_neg h1, if_neg h2, if_neg h3, if_neg h4, if_neg h5, if_neg h6, if_neg h7, if_neg h8, if_neg h9, if_neg h10, if_neg h11, if_neg h12, if_neg h13, if_pos h14])], ht⟩) (fun q hq => by cases hq) d_Mo_root_53
                            · refine g_mrootS dC dI ls0 (v_mroot_26 ls0) (v_mroot_27 ls0) hx hb hml hts hown hN (hK.sub (tys' := []) [] rfl) (lv_sub hl (l' := [(0, .long ls0), (2, .long (v_mroot_26 ls0)), (4, .long (v_mroot_27 ls0))]) [0, 1, 2] rfl) (hP.sub (ws' := []) [] rfl) (fun ls hl => ?_)
                              have hl : lv_has ls 8 [(0, .long ls0), (2, .long (v_mroot_28 ls0)), (4, .long (v_mroot_29 ls0))] := hl
                              refine lv_lload_n hx hb d_Mo_root_7 rfl (lv_at hl 1 rfl) ?_
                              refine lv_lload hx hb d_Mo_root_8 (lv_at hl 2 rfl) ?_
                              refine W.lcmp hx hb d_Mo_root_10 ?_
                              refine lv_if_ge hx hb (tgt := 51) d_Mo_root_11 rfl (fun h15 => ?_) (fun h15 => ?_)
                              · refine lv_lload_n hx hb d_Mo_root_51 rfl (lv_at hl 1 rfl) ?_
                                refine lv_l2i hx hb d_Mo_root_52 rfl ?_
                                exact W.iret (v := (v_mroot_28 ls0).toInt32) hx hb hr (fun t ht hW => ⟨by rw [(show r_mroot ls0 = (v_mroot_28 ls0).toInt32 from by unfold r_mroot; rw [if_neg h1, if_neg h2, if_neg h3, if_neg h4, if_neg h5, if_neg h6, if_neg h7, if_neg h8, if_neg h9, if_neg h10, if_neg h11, if_neg h12, if_neg h13, if_neg h14, if_pos h15])], ht⟩) (fun q hq => by cases hq) d_Mo_root_53
                              · refine g_mrootS dC dI ls0 (v_mroot_28 ls0) (v_mroot_29 ls0) hx hb hml hts hown hN (hK.sub (tys' := []) [] rfl) (lv_sub hl (l' := [(0, .long ls0), (2, .long (v_mroot_28 ls0)), (4, .long (v_mroot_29 ls0))]) [0, 1, 2] rfl) (hP.sub (ws' := []) [] rfl) (fun ls hl => ?_)
                                have hl : lv_has ls 8 [(0, .long ls0), (2, .long (v_mroot_30 ls0)), (4, .long (v_mroot_31 ls0))] := hl
                                refine lv_lload_n hx hb d_Mo_root_7 rfl (lv_at hl 1 rfl) ?_
                                refine lv_lload hx hb d_Mo_root_8 (lv_at hl 2 rfl) ?_
                                refine W.lcmp hx hb d_Mo_root_10 ?_
                                refine lv_if_ge hx hb (tgt := 51) d_Mo_root_11 rfl (fun h16 => ?_) (fun h16 => ?_)
                                · refine lv_lload_n hx hb d_Mo_root_51 rfl (lv_at hl 1 rfl) ?_
                                  refine lv_l2i hx hb d_Mo_root_52 rfl ?_
                                  exact W.iret (v := (v_mroot_30 ls0).toInt32) hx hb hr (fun t ht hW => ⟨by rw [(show r_mroot ls0 = (v_mroot_30 ls0).toInt32 from by unfold r_mroot; rw [if_neg h1, if_neg h2, if_neg h3, if_neg h4, if_neg h5, if_neg h6, if_neg h7, if_neg h8, if_neg h9, if_neg h10, if_neg h11, if_neg h12, if_neg h13, if_neg h14, if_neg h15, if_pos h16])], ht⟩) (fun q hq => by cases hq) d_Mo_root_53
                                · refine g_mrootS dC dI ls0 (v_mroot_30 ls0) (v_mroot_31 ls0) hx hb hml hts hown hN (hK.sub (tys' := []) [] rfl) (lv_sub hl (l' := [(0, .long ls0), (2, .long (v_mroot_30 ls0)), (4, .long (v_mroot_31 ls0))]) [0, 1, 2] rfl) (hP.sub (ws' := []) [] rfl) (fun ls hl => ?_)
                                  have hl : lv_has ls 8 [(0, .long ls0), (2, .long (v_mroot_32 ls0)), (4, .long (v_mroot_33 ls0))] := hl
                                  refine lv_lload_n hx hb d_Mo_root_7 rfl (lv_at hl 1 rfl) ?_
                                  refine lv_lload hx hb d_Mo_root_8 (lv_at hl 2 rfl) ?_
                                  refine W.lcmp hx hb d_Mo_root_10 ?_
                                  refine lv_if_ge hx hb (tgt := 51) d_Mo_root_11 rfl (fun h17 => ?_) (fun h17 => ?_)
                                  · refine lv_lload_n hx hb d_Mo_root_51 rfl (lv_at hl 1 rfl) ?_
                                    refine lv_l2i hx hb d_Mo_root_52 rfl ?_
                                    exact W.iret (v := (v_mroot_32 ls0).toInt32) hx hb hr (fun t ht hW => ⟨by rw [(show r_mroot ls0 = (v_mroot_32 ls0).toInt32 from by unfold r_mroot; rw [if_neg h1, if_neg h2, if_neg h3, if_neg h4, if_neg h5, if_neg h6, if_neg h7, if_neg h8, if_neg h9, if_neg h10, if_neg h11, if_neg h12, if_neg h13, if_neg h14, if_neg h15, if_neg h16, if_pos h17])], ht⟩) (fun q hq => by cases hq) d_Mo_root_53
                                  · refine g_mrootS dC dI ls0 (v_mroot_32 ls0) (v_mroot_33 ls0) hx hb hml hts hown hN (hK.sub (tys' := []) [] rfl) (lv_sub hl (l' := [(0, .long ls0), (2, .long (v_mroot_32 ls0)), (4, .long (v_mroot_33 ls0))]) [0, 1, 2] rfl) (hP.sub (ws' := []) [] rfl) (fun ls hl => ?_)
                                    have hl : lv_has ls 8 [(0, .long ls0), (2, .long (v_mroot_34 ls0)), (4, .long (v_mroot_35 ls0))] := hl
                                    refine lv_lload_n hx hb d_Mo_root_7 rfl (lv_at hl 1 rfl) ?_
                                    refine lv_lload hx hb d_Mo_root_8 (lv_at hl 2 rfl) ?_
                                    refine W.lcmp hx hb d_Mo_root_10 ?_
                                    refine lv_if_ge hx hb (tgt := 51) d_Mo_root_11 rfl (fun h18 => ?_) (fun h18 => ?_)
                                    · refine lv_lload_n hx hb d_Mo_root_51 rfl (lv_at hl 1 rfl) ?_
                                      refine lv_l2i hx hb d_Mo_root_52 rfl ?_
                                      exact W.iret (v := (v_mroot_34 ls0).toInt32) hx hb hr (fun t ht hW => ⟨by rw [(show r_mroot ls0 = (v_mroot_34 ls0).toInt32 from by unfold r_mroot; rw [if_neg h1, if_neg h2, if_neg h3, if_neg h4, if_neg h5, if_neg h6, if_neg h7, if_neg h8, if_neg h9, if_neg h10, if_neg h11, if_neg h12, if_neg h13, if_neg h14, if_neg h15, if_neg h16, if_neg h17, if_pos h18])], ht⟩) (fun q hq => by cases hq) d_Mo_root_53
                                    · exact absurd (mroot_end ls0 h1 h2 h3 h4 h5 h6 h7 h8 h9 h10 h11 h12 h13 h14 h15 h16 h17) h18
