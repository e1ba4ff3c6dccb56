/-! a conversion: class and reference come to the same -/
theorem cdv_le {a s : Nat} (hs : 0 < s) (h : a ≤ 999 * s) : cdv a s ≤ 999 := by
  have h1 := cdv_hi (a := a) hs
  have h2 : cdv a s * s < 1000 * s := by omega
  have := Nat.lt_of_mul_lt_mul_right h2
  omega
theorem pSv_next : ∀ k, k < 3 → pSv k ≤ 999 * pSv (k + 1) := by decide
theorem gSl_k {k : Nat} (hk : k < 4) : gSlopeL (nI k).toNatClampNeg = gSlopeL k := by rw [nI_clamp (by omega)]
theorem k4 {k : Nat} (hk : k < 4) : ¬ (4 : Int32) ≤ nI k := by
  have e : (4 : Int32) = nI 4 := by decide
  rw [e]
  exact nI_ge hk (by decide)
set_option maxHeartbeats 1000000 in
theorem sim23 {P : (Int64 × (Int64 × Int64 × (Nat → Int32))) → (Int64 × Int64 × Int32 × Bool × Int32 × Int32 × Int32 × Int64 × Bool × Int64 × Int64 × Bool × Int32 × Int32 × Int32 × (Nat → Int32)) → Prop} (KX : (Int64 × Int64 × Int64 × (Nat → Int32)) → (Int64 × (Int64 × Int64 × (Nat → Int32)))) (KM : (Int64 × Int64 × Int64 × (Nat → Int32)) → (Int64 × Int64 × Int32 × Bool × Int32 × Int32 × Int32 × Int64 × Bool × Int64 × Int64 × Bool × Int32 × Int32 × Int32 × (Nat → Int32))) (t0 : Int64)
    (hK : ∀ (l1 ch sum : Int64) (f : Nat → Int32), 0 ≤ l1.toInt → l1.toInt ≤ 4000 → (-200000000000 ≤ sum.toInt ∧ sum.toInt ≤ 200000000000) → P (KX (l1, ch, sum, f)) (KM (t0 + l1, ch, sum, f))) :
    ∀ (m k : Nat) (l1 ch sum : Int64) (f : Nat → Int32), k ≤ 4 → 4 - k < m → (0 ≤ l1.toInt ∧ l1.toInt ≤ 1000 * k) → (k < 4 → -(999 * (pSv k : Int)) ≤ ch.toInt ∧ ch.toInt ≤ 999 * (pSv k : Int)) → (-(30000000000 + 30000000000 * (k : Int)) ≤ sum.toInt ∧ sum.toInt ≤ 30000000000 + 30000000000 * (k : Int)) →
      P (f_X2_runDown_L23 KX m (l1, nI k, ch, sum, f)) (f_X10_converts_L74 KM m (nI k, t0 + l1, ch, sum, f)) := by
  intro m
  induction m with
  | zero => intro k l1 ch sum f _ h; omega
  | succ m ih =>
    intro k l1 ch sum f hk hm hl hch hsu
    rw [f_X2_runDown_L23, f_X10_converts_L74]
    by_cases h4 : k = 4
    · subst h4
      rw [if_pos (by decide), if_pos (by decide)]
      exact hK l1 ch sum f hl.1 (by omega) (by omega)
    · have hk4 : k < 4 := by omega
      obtain ⟨s1, s2, s0, s3⟩ := pSv_slope k hk4
      obtain ⟨hc1, hc2⟩ := hch hk4
      have hb : -1000000000000 ≤ ch.toInt ∧ ch.toInt ≤ 1000000000000 := by omega
      have e0 : (0 : Int64).toInt = 0 := by decide
      have ek : (nI k).toNatClampNeg = k := nI_clamp (by omega)
      rw [if_neg (k4 hk4), if_neg (k4 hk4), if_neg (k4 hk4), ek, st_eq hk4 ch hb, rd_eq hk4 (t0 + l1) ch f hb, s1, s2]
      dsimp only
      by_cases hc : ch ≤ 0
      · have hcz := gl_le.mp hc
        rw [e0] at hcz
        simp only [if_pos hc]
        have hle := cdv_le (a := (-ch.toInt).toNat) s0 (by omega)
        have hlo := cdv_lo (a := (-ch.toInt).toNat) s0
        have hhi := cdv_hi (a := (-ch.toInt).toNat) s0
        generalize cdv (-ch.toInt).toNat (pSv k) = c at hle hlo hhi ⊢
        have hmul : c * pSv k ≤ 999 * 25600000 := Nat.mul_le_mul hle s3
        have ec : (ch + lN c * lN (pSv k)).toInt = ch.toInt + (c * pSv k : Nat) := by
          rw [lN_mul, gl_add (by rw [lN_T (by omega)]; omega) (by rw [lN_T (by omega)]; omega), lN_T (by omega)]
        have el : (l1 + lN c).toInt = l1.toInt + c := by
          rw [gl_add (by rw [lN_T (by omega)]; omega) (by rw [lN_T (by omega)]; omega), lN_T (by omega)]
        have es : (sum - lN c * lN (pSv k)).toInt = sum.toInt - (c * pSv k : Nat) := by
          rw [lN_mul, gl_sub (by rw [lN_T (by omega)]; omega) (by rw [lN_T (by omega)]; omega), lN_T (by omega)]
        rw [upd_at, nI_l (by omega), lN_i, nI_1, Int64.add_assoc]
        refine ih (k + 1) (l1 + lN c) _ _ _ (by omega) (by omega) (by omega) (fun h3 => ?_) (by rw [es]; omega)
        have hn := pSv_next k (by omega)
        rw [ec]
        omega
      · have hcz : ¬ ch.toInt ≤ 0 := fun q => hc (gl_le.mpr (by rw [e0]; exact q))
        simp only [if_neg hc]
        have hle := cdv_le (a := ch.toInt.toNat) s0 (by omega)
        have hlo := cdv_lo (a := ch.toInt.toNat) s0
        have hhi := cdv_hi (a := ch.toInt.toNat) s0
        generalize cdv ch.toInt.toNat (pSv k) = c at hle hlo hhi ⊢
        have hmul : c * pSv k ≤ 999 * 25600000 := Nat.mul_le_mul hle s3
        have en : (-lN (c * pSv k)).toInt = -((c * pSv k : Nat) : Int) := by
          have q : -lN (c * pSv k) = (0 : Int64) - lN (c * pSv k) := (Int64.zero_sub _).symm
          rw [q, gl_sub (by rw [e0, lN_T (by omega)]; omega) (by rw [e0, lN_T (by omega)]; omega), e0, lN_T (by omega)]
          omega
        have ec : (ch + -lN c * lN (pSv k)).toInt = ch.toInt - (c * pSv k : Nat) := by
          rw [Int64.neg_mul, lN_mul, gl_add (by rw [en]; omega) (by rw [en]; omega), en]
          omega
        have el : (l1 + lN c).toInt = l1.toInt + c := by
          rw [gl_add (by rw [lN_T (by omega)]; omega) (by rw [lN_T (by omega)]; omega), lN_T (by omega)]
        have es : (sum - -lN c * lN (pSv k)).toInt = sum.toInt + (c * pSv k : Nat) := by
          rw [Int64.neg_mul, lN_mul, gl_sub (by rw [en]; omega) (by rw [en]; omega), en]
          omega
        rw [upd_at, neg_i2l (by omega), neg_l2i, nI_1, Int64.add_assoc]
        refine ih (k + 1) (l1 + lN c) _ _ _ (by omega) (by omega) (by omega) (fun h3 => ?_) (by rw [es]; omega)
        have hn := pSv_next k (by omega)
        rw [ec]
        omega
theorem creep_eq (o c : Int32) : (if (o + c) ≤ (2000 : Int32) then (if (-2000 : Int32) ≤ (o + c) then (o + c) else (-2000 : Int32)) else (2000 : Int32)) = f_X0_creepOn o c := by
  rw [f_X0_creepOn]
  unfold gMaxI gMinI
  generalize o + c = v
  have e1 : (2000 : Int32).toInt = 2000 := by decide
  have e2 : (-2000 : Int32).toInt = -2000 := by decide
  by_cases h1 : v ≤ (2000 : Int32)
  · have i1 := gi_le h1 rfl e1
    rw [if_pos h1]
    by_cases h2 : v < (2000 : Int32)
    · have i2 := gi_lt h2 rfl e1
      simp only [if_pos h2]
      by_cases h3 : (-2000 : Int32) ≤ v
      · have i3 := gi_le h3 e2 rfl
        rw [if_pos h3]
        by_cases h4 : (-2000 : Int32) < v
        · rw [if_pos h4]
        · have i4 := gi_nlt h4 e2 rfl
          rw [if_neg h4]
          exact Int32.toInt_inj.mp (by omega)
      · rw [if_neg h3, if_neg (fun q => h3 (by have := gi_lt q e2 rfl; exact Int32.le_iff_toInt_le.mpr (by omega)))]
    · have i2 := gi_nlt h2 rfl e1
      have hv : v = (2000 : Int32) := Int32.toInt_inj.mp (by omega)
      subst hv
      decide
  · have i1 := gi_nle h1 rfl e1
    rw [if_neg h1]
    have h2 : ¬ v < (2000 : Int32) := fun q => by have := gi_lt q rfl e1; omega
    simp only [if_neg h2]
    decide
theorem sum0_bd {pl mi : Int32} (hp : 0 ≤ pl.toInt ∧ pl.toInt ≤ 500) (hm : 0 ≤ mi.toInt ∧ mi.toInt ≤ 500) : -30000000000 ≤ ((-(pl - mi)).toInt64 * (25600000 : Int64)).toInt ∧ ((-(pl - mi)).toInt64 * (25600000 : Int64)).toInt ≤ 30000000000 := by
  have e0 : (0 : Int32).toInt = 0 := by decide
  have eR : (25600000 : Int64).toInt = 25600000 := by decide
  have e1 : (pl - mi).toInt = pl.toInt - mi.toInt := gi_sub (by omega) (by omega)
  have e2 : (-(pl - mi)).toInt = -(pl.toInt - mi.toInt) := by
    have q : -(pl - mi) = (0 : Int32) - (pl - mi) := (Int32.zero_sub _).symm
    rw [q, gi_sub (by rw [e0, e1]; omega) (by rw [e0, e1]; omega), e0, e1]
    omega
  have e3 : ((-(pl - mi)).toInt64).toInt = -(pl.toInt - mi.toInt) := by rw [Int32.toInt_toInt64, e2]
  rw [gl_mul (by rw [e3, eR]; omega) (by rw [e3, eR]; omega), e3, eR]
  omega
