theorem ring16_in {x : Int32} (h : vp_in x 16) : vp_in ((x + 1) - (x + 1) / 16 * 16) 16 := by
  obtain ⟨j, hj, rfl⟩ := vp_in_of h (by decide)
  have e : (16 : Int32) = nI 16 := by decide
  rw [nI_1, e, pk_rem (by omega) (by decide) (by decide)]
  exact vp_in_nI (Nat.mod_lt _ (by decide)) (by decide)
theorem ring32_in {x : Int32} (h : vp_in x 32) : vp_in ((x + 1) - (x + 1) / 32 * 32) 32 := by
  obtain ⟨j, hj, rfl⟩ := vp_in_of h (by decide)
  have e : (32 : Int32) = nI 32 := by decide
  rw [nI_1, e, pk_rem (by omega) (by decide) (by decide)]
  exact vp_in_nI (Nat.mod_lt _ (by decide)) (by decide)
theorem rt_st {x f : Int64} {k : Int32} {P : Int64} {B : Int} (hk : (1 : Int64) <<< (k.toInt64 &&& 63) = P) (hP : P.toInt = B) (h0 : 0 ≤ f.toInt) (hB : 0 < B) (h1 : f.toInt + B ≤ 262144) :
    (lo_rootS_2 x f k).toInt = if (f.toInt + B) * (f.toInt + B) ≤ x.toInt then f.toInt + B else f.toInt := by
  have e1 : (f + P).toInt = f.toInt + B := by rw [Jvm.Kit.i64_add (by rw [hP]; omega) (by rw [hP]; omega), hP]
  have hb : (f.toInt + B) * (f.toInt + B) ≤ 262144 * 262144 := Int.mul_le_mul h1 h1 (by omega) (by omega)
  have hn : 0 ≤ (f.toInt + B) * (f.toInt + B) := Int.mul_nonneg (by omega) (by omega)
  have e2 : ((f + P) * (f + P)).toInt = (f.toInt + B) * (f.toInt + B) := by
    rw [Jvm.Kit.i64_mul (by rw [e1]; omega) (by rw [e1]; omega), e1]
  unfold lo_rootS_2 v_rootS_0
  rw [hk]
  by_cases h : (f.toInt + B) * (f.toInt + B) ≤ x.toInt
  · rw [if_pos h, if_neg, e1]
    rw [lg_cmp_gt, Int64.lt_iff_toInt_lt, e2]
    omega
  · rw [if_neg h, if_pos]
    rw [lg_cmp_gt, Int64.lt_iff_toInt_lt, e2]
    omega
def rt_ok (X F B : Int) : Prop := 0 ≤ F ∧ F + B ≤ 262144 ∧ (0 ≤ X → F * F ≤ X) ∧ (X < 68719476736 → X < (F + B) * (F + B))
theorem rt_next {x f : Int64} {k : Int32} {P : Int64} {B C : Int} (hk : (1 : Int64) <<< (k.toInt64 &&& 63) = P) (hP : P.toInt = B) (hB : 0 < B) (hC : C = B + B) (h : rt_ok x.toInt f.toInt C) : rt_ok x.toInt (lo_rootS_2 x f k).toInt B := by
  obtain ⟨h0, h1, h2, h3⟩ := h
  rw [rt_st hk hP h0 hB (by omega)]
  by_cases h : (f.toInt + B) * (f.toInt + B) ≤ x.toInt
  · rw [if_pos h]
    refine ⟨by omega, by omega, fun _ => h, fun q => ?_⟩
    have := h3 q
    rw [hC] at this
    rw [Int.add_assoc]
    exact this
  · rw [if_neg h]
    exact ⟨h0, by omega, h2, fun _ => by omega⟩
theorem rt_start (x : Int64) : rt_ok x.toInt (0 : Int64).toInt 262144 := by
  rw [Int64.toInt_zero]
  exact ⟨by decide, by decide, fun h => by omega, fun h => by omega⟩
theorem rt_0 (x : Int64) : rt_ok x.toInt (v_root_0 x).toInt 131072 := rt_next (P := 131072) (by decide) (by decide) (by decide) (by decide) (rt_start x)
theorem rt_1 (x : Int64) : rt_ok x.toInt (v_root_1 x).toInt 65536 := rt_next (P := 65536) (by decide) (by decide) (by decide) (by decide) (rt_0 x)
theorem rt_2 (x : Int64) : rt_ok x.toInt (v_root_2 x).toInt 32768 := rt_next (P := 32768) (by decide) (by decide) (by decide) (by decide) (rt_1 x)
theorem rt_3 (x : Int64) : rt_ok x.toInt (v_root_3 x).toInt 16384 := rt_next (P := 16384) (by decide) (by decide) (by decide) (by decide) (rt_2 x)
theorem rt_4 (x : Int64) : rt_ok x.toInt (v_root_4 x).toInt 8192 := rt_next (P := 8192) (by decide) (by decide) (by decide) (by decide) (rt_3 x)
theorem rt_5 (x : Int64) : rt_ok x.toInt (v_root_5 x).toInt 4096 := rt_next (P := 4096) (by decide) (by decide) (by decide) (by decide) (rt_4 x)
theorem rt_6 (x : Int64) : rt_ok x.toInt (v_root_6 x).toInt 2048 := rt_next (P := 2048) (by decide) (by decide) (by decide) (by decide) (rt_5 x)
theorem rt_7 (x : Int64) : rt_ok x.toInt (v_root_7 x).toInt 1024 := rt_next (P := 1024) (by decide) (by decide) (by decide) (by decide) (rt_6 x)
theorem rt_8 (x : Int64) : rt_ok x.toInt (v_root_8 x).toInt 512 := rt_next (P := 512) (by decide) (by decide) (by decide) (by decide) (rt_7 x)
theorem rt_9 (x : Int64) : rt_ok x.toInt (v_root_9 x).toInt 256 := rt_next (P := 256) (by decide) (by decide) (by decide) (by decide) (rt_8 x)
theorem rt_10 (x : Int64) : rt_ok x.toInt (v_root_10 x).toInt 128 := rt_next (P := 128) (by decide) (by decide) (by decide) (by decide) (rt_9 x)
theorem rt_11 (x : Int64) : rt_ok x.toInt (v_root_11 x).toInt 64 := rt_next (P := 64) (by decide) (by decide) (by decide) (by decide) (rt_10 x)
theorem rt_12 (x : Int64) : rt_ok x.toInt (v_root_12 x).toInt 32 := rt_next (P := 32) (by decide) (by decide) (by decide) (by decide) (rt_11 x)
theorem rt_13 (x : Int64) : rt_ok x.toInt (v_root_13 x).toInt 16 := rt_next (P := 16) (by decide) (by decide) (by decide) (by decide) (rt_12 x)
theorem rt_14 (x : Int64) : rt_ok x.toInt (v_root_14 x).toInt 8 := rt_next (P := 8) (by decide) (by decide) (by decide) (by decide) (rt_13 x)
theorem rt_15 (x : Int64) : rt_ok x.toInt (v_root_15 x).toInt 4 := rt_next (P := 4) (by decide) (by decide) (by decide) (by decide) (rt_14 x)
theorem rt_16 (x : Int64) : rt_ok x.toInt (v_root_16 x).toInt 2 := rt_next (P := 2) (by decide) (by decide) (by decide) (by decide) (rt_15 x)
theorem rt_17 (x : Int64) : rt_ok x.toInt (v_root_17 x).toInt 1 := rt_next (P := 1) (by decide) (by decide) (by decide) (by decide) (rt_16 x)
theorem root_toInt (x : Int64) : (r_root x).toInt = (v_root_17 x).toInt := by
  obtain ⟨h0, h1, -, -⟩ := rt_17 x
  exact Jvm.Kit.i32_of_i64 (by omega) (by omega)
theorem root_bd (x : Int64) : 0 ≤ (r_root x).toInt ∧ (r_root x).toInt < 262144 := by
  obtain ⟨h0, h1, -, -⟩ := rt_17 x
  rw [root_toInt]
  omega
theorem root_spec (x : Int64) (h0 : 0 ≤ x.toInt) (h1 : x.toInt < 68719476736) : (r_root x).toInt * (r_root x).toInt ≤ x.toInt ∧ x.toInt < ((r_root x).toInt + 1) * ((r_root x).toInt + 1) := by
  obtain ⟨-, -, h2, h3⟩ := rt_17 x
  rw [root_toInt]
  exact ⟨h2 h0, h3 h1⟩
theorem root_ne (x : Int64) : ¬ (r_root x + 1).toInt64 = 0 := by
  intro h
  have hb := root_bd x
  have e := congrArg Int64.toInt h
  have e1 : (1 : Int32).toInt = 1 := by decide
  rw [Jvm.Kit.i64_of_i32, Jvm.Kit.i32_add (by rw [e1]; omega) (by rw [e1]; omega), e1, Int64.toInt_zero] at e
  omega
