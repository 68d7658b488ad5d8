theorem isWithin_in {x m : Int32} {n : Nat} (hm : m.toInt + 1 = n) (h : ¬ r_isWithin x 0 m = 0) : vp_in x n := by
  rw [vp_in_iff]
  unfold r_isWithin at h
  by_cases h1 : x < 0
  · rw [if_pos h1] at h
    exact absurd rfl h
  · rw [if_neg h1] at h
    by_cases h2 : m < x
    · rw [if_pos h2] at h
      exact absurd rfl h
    · have e1 : ¬ x.toInt < (0 : Int32).toInt := fun q => h1 (Int32.lt_iff_toInt_lt.mpr q)
      have e2 : ¬ m.toInt < x.toInt := fun q => h2 (Int32.lt_iff_toInt_lt.mpr q)
      rw [Int32.toInt_zero] at e1
      omega
