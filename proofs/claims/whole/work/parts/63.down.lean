/-! run down: a quotient in the class, a loop in the reference -/
def cdv (a s : Nat) : Nat := (a + s - 1) / s
theorem cdv_0 {s : Nat} (h : 0 < s) : cdv 0 s = 0 := by
  unfold cdv
  exact Nat.div_eq_of_lt (by omega)
theorem cdv_1 {a s : Nat} (h0 : 0 < a) (h : a ≤ s) : cdv a s = 1 := by
  unfold cdv
  have hs : 0 < s := by omega
  have e : a + s - 1 = (a - 1) + s := by omega
  rw [e, Nat.add_div_right _ hs, Nat.div_eq_of_lt (by omega)]
theorem cdv_s {a s : Nat} (hs : 0 < s) (h : s < a) : cdv a s = cdv (a - s) s + 1 := by
  unfold cdv
  have e : a + s - 1 = (a - s + s - 1) + s := by omega
  rw [e, Nat.add_div_right _ hs]
theorem cdv_lo {a s : Nat} (hs : 0 < s) : a ≤ cdv a s * s := by
  unfold cdv
  have h := Nat.div_add_mod (a + s - 1) s
  have h2 := Nat.mod_lt (a + s - 1) hs
  rw [Nat.mul_comm] at h
  omega
theorem cdv_hi {a s : Nat} (hs : 0 < s) : cdv a s * s ≤ a + s - 1 := Nat.div_mul_le_self _ _
theorem upd_upd (f : Nat → Int32) (k : Nat) (x y : Int32) : upd (upd f k x) k y = upd f k y := by
  funext j
  unfold upd
  by_cases h : j = k
  · rw [if_pos h, if_pos h]
  · rw [if_neg h, if_neg h, if_neg h]
theorem upd_self (f : Nat → Int32) (k : Nat) : upd f k (f k) = f := by
  funext j
  unfold upd
  by_cases h : j = k
  · rw [if_pos h, h]
  · rw [if_neg h]
theorem upd_at (f : Nat → Int32) (k : Nat) (x : Int32) : upd f k x k = x := by
  unfold upd
  rw [if_pos rfl]
theorem lN_T {a : Nat} (h : a < 2 ^ 62) : (lN a).toInt = (a : Int) := pk_lT (by omega)
theorem l1_mul (x : Int64) : (1 : Int32).toInt64 * x = x := by
  have e : (1 : Int32).toInt64 = 1 := by decide
  rw [e, Int64.one_mul]
theorem lm_mul (x : Int64) : (-1 : Int32).toInt64 * x = -x := by
  have e : (-1 : Int32).toInt64 = -1 := by decide
  rw [e, Int64.neg_mul, Int64.one_mul]
set_option maxHeartbeats 1000000 in
theorem rd_up {k : Int32} {sv : Nat} (hsl : f_X10_slope k = (lN sv, ())) (h0 : 0 < sv) (hsv : sv ≤ 25600000) (K : (Int64 × Int64 × (Nat → Int32)) → (Int64 × Int64 × (Nat → Int32))) :
    ∀ (m a : Nat) (t ch : Int64) (f : Nat → Int32), ch.toInt = -(a : Int) → a < m → a ≤ 1000000000000 →
      f_X10_runDown_L22 k K m (t, ch, f) = K (t + lN (cdv a sv), ch + lN (cdv a sv) * lN sv, upd f k.toNatClampNeg (f k.toNatClampNeg + nI (cdv a sv))) := by
  intro m
  induction m with
  | zero => intro a t ch f _ h; omega
  | succ m ih =>
    intro a t ch f hch hm ha
    have e0 : (0 : Int64).toInt = 0 := by decide
    rw [f_X10_runDown_L22]
    by_cases hz : a = 0
    · subst hz
      rw [if_pos (gl_le.mpr (by rw [e0]; omega)), cdv_0 h0]
      have z1 : lN 0 = 0 := by decide
      have z2 : nI 0 = 0 := nI_0
      rw [z1, z2, Int64.add_zero, Int64.zero_mul, Int64.add_zero, Int32.add_zero, upd_self]
    · rw [if_neg (fun q => by have := gl_le.mp q; rw [e0] at this; omega), hsl]
      dsimp only
      rw [l1_mul]
      have es : (lN sv).toInt = (sv : Int) := lN_T (by omega)
      have ec : (ch + lN sv).toInt = -(a : Int) + sv := by rw [gl_add (by omega) (by omega), hch, es]
      by_cases hs : a ≤ sv
      · rw [cdv_1 (by omega) hs]
        cases m with
        | zero => omega
        | succ m =>
          rw [f_X10_runDown_L22, if_pos (gl_le.mpr (by rw [e0, ec]; omega))]
          have z1 : lN 1 = 1 := by decide
          have z2 : nI 1 = 1 := by decide
          rw [z1, z2, Int64.one_mul]
      · have hr := ih (a - sv) (t + 1) (ch + lN sv) (upd f k.toNatClampNeg (f k.toNatClampNeg + 1)) (by rw [ec]; omega) (by omega) (by omega)
        rw [hr, cdv_s (a := a) h0 (by omega), upd_at, upd_upd]
        have q1 : t + 1 + lN (cdv (a - sv) sv) = t + lN (cdv (a - sv) sv + 1) := by
          rw [← lN_1, Int64.add_assoc, Int64.add_comm 1]
        have q2 : ch + lN sv + lN (cdv (a - sv) sv) * lN sv = ch + lN (cdv (a - sv) sv + 1) * lN sv := by
          rw [← lN_1, Int64.add_mul, Int64.one_mul, Int64.add_assoc, Int64.add_comm (lN sv)]
        have q3 : f k.toNatClampNeg + 1 + nI (cdv (a - sv) sv) = f k.toNatClampNeg + nI (cdv (a - sv) sv + 1) := by
          rw [← nI_1, Int32.add_assoc, Int32.add_comm 1]
        rw [q1, q2, q3]
set_option maxHeartbeats 1000000 in
theorem rd_dn {k : Int32} {sv : Nat} (hsl : f_X10_slope k = (lN sv, ())) (h0 : 0 < sv) (hsv : sv ≤ 25600000) (K : (Int64 × Int64 × (Nat → Int32)) → (Int64 × Int64 × (Nat → Int32))) :
    ∀ (m a : Nat) (t ch : Int64) (f : Nat → Int32), ch.toInt = (a : Int) → a < m → a ≤ 1000000000000 →
      f_X10_runDown_L22_2 k K m (t, ch, f) = K (t + lN (cdv a sv), ch + -lN (cdv a sv) * lN sv, upd f k.toNatClampNeg (f k.toNatClampNeg + -nI (cdv a sv))) := by
  intro m
  induction m with
  | zero => intro a t ch f _ h; omega
  | succ m ih =>
    intro a t ch f hch hm ha
    have e0 : (0 : Int64).toInt = 0 := by decide
    rw [f_X10_runDown_L22_2]
    by_cases hz : a = 0
    · subst hz
      rw [if_pos (gl_le.mpr (by rw [e0]; omega)), cdv_0 h0]
      have z1 : lN 0 = 0 := by decide
      have z2 : nI 0 = 0 := nI_0
      rw [z1, z2, Int64.neg_zero, Int32.neg_zero, Int64.add_zero, Int64.zero_mul, Int64.add_zero, Int32.add_zero, upd_self]
    · rw [if_neg (fun q => by have := gl_le.mp q; rw [e0] at this; omega), hsl]
      dsimp only
      rw [lm_mul]
      have es : (lN sv).toInt = (sv : Int) := lN_T (by omega)
      have en : (-lN sv).toInt = -(sv : Int) := by
        have q : -lN sv = (0 : Int64) - lN sv := (Int64.zero_sub _).symm
        rw [q, gl_sub (by rw [e0]; omega) (by rw [e0]; omega), e0, es]; omega
      have ec : (ch + -lN sv).toInt = (a : Int) - sv := by rw [gl_add (by omega) (by omega), hch, en]; omega
      by_cases hs : a ≤ sv
      · rw [cdv_1 (by omega) hs]
        cases m with
        | zero => omega
        | succ m =>
          rw [f_X10_runDown_L22_2, if_pos (gl_le.mpr (by rw [e0, ec]; omega))]
          have z1 : lN 1 = 1 := by decide
          have z2 : nI 1 = 1 := by decide
          rw [z1, z2, Int64.neg_mul, Int64.one_mul]
      · have hr := ih (a - sv) (t + 1) (ch + -lN sv) (upd f k.toNatClampNeg (f k.toNatClampNeg + -1)) (by rw [ec]; omega) (by omega) (by omega)
        rw [hr, cdv_s (a := a) h0 (by omega), upd_at, upd_upd]
        have q1 : t + 1 + lN (cdv (a - sv) sv) = t + lN (cdv (a - sv) sv + 1) := by
          rw [← lN_1, Int64.add_assoc, Int64.add_comm 1]
        have q2 : ch + -lN sv + -lN (cdv (a - sv) sv) * lN sv = ch + -lN (cdv (a - sv) sv + 1) * lN sv := by
          rw [← lN_1, Int64.neg_add, Int64.sub_eq_add_neg, Int64.add_mul, Int64.neg_mul 1, Int64.one_mul, Int64.add_assoc, Int64.add_comm (-lN sv)]
        have q3 : f k.toNatClampNeg + -1 + -nI (cdv (a - sv) sv) = f k.toNatClampNeg + -nI (cdv (a - sv) sv + 1) := by
          rw [← nI_1, Int32.neg_add, Int32.sub_eq_add_neg, Int32.add_assoc, Int32.add_comm (-1)]
        rw [q1, q2, q3]

/-- the slopes -/
def pSv (k : Nat) : Nat := match k with
  | 0 => 25600000
  | 1 => 1600000
  | 2 => 100000
  | _ => 6250
theorem pSv_slope : ∀ k, k < 4 → f_X10_slope (nI k) = (lN (pSv k), ()) ∧ gSlopeL k = lN (pSv k) ∧ 0 < pSv k ∧ pSv k ≤ 25600000 := by decide +kernel
/-- one slope: the reference -/
theorem rd_eq {k : Nat} (hk : k < 4) (t ch : Int64) (f : Nat → Int32) (hb : -1000000000000 ≤ ch.toInt ∧ ch.toInt ≤ 1000000000000) :
    f_X10_runDown t ch f (nI k) = if ch ≤ 0 then (t + lN (cdv (-ch.toInt).toNat (pSv k)), ch + lN (cdv (-ch.toInt).toNat (pSv k)) * lN (pSv k), upd f k (nI (cdv (-ch.toInt).toNat (pSv k)))) else (t + lN (cdv ch.toInt.toNat (pSv k)), ch + -lN (cdv ch.toInt.toNat (pSv k)) * lN (pSv k), upd f k (-nI (cdv ch.toInt.toNat (pSv k)))) := by
  obtain ⟨h1, -, h0, hs⟩ := pSv_slope k hk
  have e0 : (0 : Int64).toInt = 0 := by decide
  have ek : (nI k).toNatClampNeg = k := nI_clamp (by omega)
  rw [f_X10_runDown]
  by_cases hc : ch ≤ 0
  · have hc2 := gl_le.mp hc
    rw [e0] at hc2
    rw [if_pos hc, if_pos hc, rd_up h1 h0 hs _ _ (-ch.toInt).toNat t ch _ (by omega) (by unfold rdMu; rw [if_neg (by decide)]; omega) (by omega)]
    dsimp only
    rw [ek, upd_at, upd_upd, Int32.zero_add]
  · have hc2 : ¬ ch.toInt ≤ 0 := fun q => hc (gl_le.mpr (by rw [e0]; exact q))
    rw [if_neg hc, if_neg hc, rd_dn h1 h0 hs _ _ ch.toInt.toNat t ch _ (by omega) (by unfold rdMu; rw [if_pos (by decide)]; omega) (by omega)]
    dsimp only
    rw [ek, upd_at, upd_upd, Int32.zero_add]
theorem lN_sub1 {a : Nat} (h : 0 < a) : lN a - 1 = lN (a - 1) := by
  have e : (1 : Int64) = lN 1 := by decide
  rw [e, lN_sub (by omega)]
/-- one slope: the class's quotient -/
theorem st_eq {k : Nat} (hk : k < 4) (ch : Int64) (hb : -1000000000000 ≤ ch.toInt ∧ ch.toInt ≤ 1000000000000) :
    f_X2_stepsOf ch (gSlopeL k) = (lN (cdv (if ch ≤ 0 then (-ch.toInt).toNat else ch.toInt.toNat) (pSv k)), ()) := by
  obtain ⟨-, h1, h0, hs⟩ := pSv_slope k hk
  have e0 : (0 : Int64).toInt = 0 := by decide
  have ha : gAbsL ch = lN (if ch ≤ 0 then (-ch.toInt).toNat else ch.toInt.toNat) := by
    unfold gAbsL
    by_cases hc : ch ≤ 0
    · have hc2 := gl_le.mp hc
      rw [e0] at hc2
      rw [if_pos hc, if_neg (fun q => by have := gl_lt.mp q; rw [e0] at this; omega)]
      apply Int64.toInt_inj.mp
      have q : -ch = (0 : Int64) - ch := (Int64.zero_sub _).symm
      rw [q, gl_sub (by rw [e0]; omega) (by rw [e0]; omega), e0, lN_T (by omega)]
      omega
    · have hc2 : ¬ ch.toInt ≤ 0 := fun q => hc (gl_le.mpr (by rw [e0]; exact q))
      rw [if_neg hc, if_pos (gl_lt.mpr (by rw [e0]; omega))]
      apply Int64.toInt_inj.mp
      rw [lN_T (by omega)]
      omega
  have hA : (if ch ≤ 0 then (-ch.toInt).toNat else ch.toInt.toNat) ≤ 1000000000000 := by split <;> omega
  generalize (if ch ≤ 0 then (-ch.toInt).toNat else ch.toInt.toNat) = a at ha hA ⊢
  rw [f_X2_stepsOf, h1, if_neg (fun q => by have := gl_le.mp q; rw [e0, lN_T (by omega)] at this; omega), ha, lN_add, lN_sub1 (by omega), pk_lDiv (by omega) h0 (by omega)]
  rfl
theorem neg_l2i (c : Nat) : (-lN c).toInt32 = -nI c := by
  rw [Int64.toInt32_neg, lN_i]
theorem neg_i2l {c : Nat} (h : c < 2 ^ 31) : (-nI c).toInt64 = -lN c := by
  apply Int64.toInt_inj.mp
  have e0 : (0 : Int64).toInt = 0 := by decide
  have q : -lN c = (0 : Int64) - lN c := (Int64.zero_sub _).symm
  rw [Int32.toInt_toInt64, sb_negT h, q, gl_sub (by rw [e0, lN_T (by omega)]; omega) (by rw [e0, lN_T (by omega)]; omega), e0, lN_T (by omega)]
  omega
