/-! the input: what the class and the reference make of a tick -/
theorem lN_of {t : Int64} (h : 0 ≤ t.toInt) : ∃ k : Nat, k < 2 ^ 63 ∧ t = lN k ∧ t.toInt = (k : Int) := by
  have h1 : ¬ t < 0 := fun q => by
    have := Int64.lt_iff_toInt_lt.mp q
    have e : (0 : Int64).toInt = 0 := by decide
    omega
  obtain ⟨k, hk, rfl⟩ := pk_lOf h1
  exact ⟨k, hk, rfl, pk_lT hk⟩
theorem nI_of' {x : Int32} (h : 0 ≤ x.toInt) : ∃ k : Nat, k < 2 ^ 31 ∧ x = nI k ∧ x.toInt = (k : Int) := by
  have h1 : ¬ x < 0 := fun q => by
    have := Int32.lt_iff_toInt_lt.mp q
    have e : (0 : Int32).toInt = 0 := by decide
    omega
  obtain ⟨k, hk, rfl⟩ := nI_of h1
  exact ⟨k, hk, rfl, nI_toInt hk⟩
theorem wave0 : ∀ k, k < 20 → f_X7_swing 0 (nI k) = ((f_X10_waveAt 0 (nI k)).1.toInt64, ()) := by decide +kernel
theorem wave1 : ∀ k, k < 20 → f_X7_swing 1 (nI k) = ((f_X10_waveAt 1 (nI k)).1.toInt64, ()) := by decide +kernel
theorem wave2 : ∀ k, k < 20 → f_X7_swing 2 (nI k) = ((f_X10_waveAt 2 (nI k)).1.toInt64, ()) := by decide +kernel
theorem wave_eq (w : Int32) {k : Nat} (hk : k < 20) : f_X7_swing w (nI k) = ((f_X10_waveAt w (nI k)).1.toInt64, ()) := by
  by_cases h0 : w = 0
  · subst h0; exact wave0 k hk
  · by_cases h1 : w = 1
    · subst h1; exact wave1 k hk
    · have h2 := wave2 k hk
      rw [f_X7_swing, f_X10_waveAt] at h2 ⊢
      rw [if_neg (by decide), if_neg (by decide), if_neg (by decide), if_neg (by decide)] at h2
      rw [if_neg h0, if_neg h1, if_neg h0, if_neg h1]
      exact h2
theorem rem20 {t : Int64} (h : 0 ≤ t.toInt) : ∃ k : Nat, k < 20 ∧ (gRemL t (20 : Int64)).toInt32 = nI k := by
  obtain ⟨k, hk, rfl, -⟩ := lN_of h
  refine ⟨k % 20, Nat.mod_lt _ (by decide), ?_⟩
  have e := pk_lRem (a := k) (b := 20) hk (by decide) (by decide)
  have e2 : gRemL (lN k) (20 : Int64) = lN (k % 20) := e
  rw [e2, lN_i]
theorem calm_eq (dc hum w : Int32) {t : Int64} (h : 0 ≤ t.toInt) : f_X7_calmAt dc hum w t = f_X10_withHum dc hum w (gRemL t (20 : Int64)).toInt32 := by
  obtain ⟨k, hk, e⟩ := rem20 h
  rw [f_X7_calmAt, f_X10_withHum, e, wave_eq w hk]
theorem two_n {n : Int32} (h : 0 ≤ n.toInt ∧ n.toInt ≤ 10000) : (((2 : Int32) * n) + (1 : Int32)).toInt64 = ((2 : Int64) * n.toInt64) + (1 : Int64) := by
  obtain ⟨k, -, rfl, hk⟩ := nI_of' h.1
  have hk2 : k ≤ 10000 := by omega
  have e1 : ((2 : Int32) * nI k) + (1 : Int32) = nI (2 * k + 1) := by
    have q : (2 : Int32) = nI 2 := by decide
    have q1 : (1 : Int32) = nI 1 := by decide
    rw [q, q1, pk_mul, nI_add]
  have e2 : ((2 : Int64) * (nI k).toInt64) + (1 : Int64) = lN (2 * k + 1) := by
    have q : (2 : Int64) = lN 2 := by decide
    have q1 : (1 : Int64) = lN 1 := by decide
    rw [nI_l (by omega), q, q1, lN_mul, lN_add]
  rw [e1, e2, nI_l (by omega)]
/-- the input of a tick, with its noise -/
theorem input_eq (dc hum w : Int32) {n : Int32} (seed : Int64) {t : Int64} (h : 0 ≤ t.toInt) (hn : 0 ≤ n.toInt ∧ n.toInt ≤ 10000) :
    f_X10_inputNow dc hum w n seed t = ((f_X7_calmAt dc hum w t).1 + (f_X7_stir n seed).1, (f_X7_stir n seed).2) := by
  rw [f_X10_inputNow, calm_eq dc hum w h, f_X7_stir]
  rcases f_X10_withHum dc hum w (gRemL t (20 : Int64)).toInt32 with ⟨r, u⟩
  dsimp only
  by_cases h0 : n ≤ 0
  · rw [if_pos h0, if_pos h0]
    show (r, seed) = (r + 0, seed)
    rw [Int64.add_zero]
  · rw [if_neg h0, if_neg h0, f_X7_draw, if_neg]
    · dsimp only
      rw [two_n hn]
    · rw [← two_n hn]
      intro q
      have q1 := Int64.le_iff_toInt_le.mp q
      have e0 : (0 : Int64).toInt = 0 := by decide
      rw [Int32.toInt_toInt64, e0] at q1
      have e2 : (2 : Int32).toInt = 2 := by decide
      have e1 : (1 : Int32).toInt = 1 := by decide
      have g1 : ((2 : Int32) * n).toInt = 2 * n.toInt := by
        rw [gi_mul (by rw [e2]; omega) (by rw [e2]; omega), e2]
      rw [gi_add (by omega) (by omega), g1, e1] at q1
      omega
