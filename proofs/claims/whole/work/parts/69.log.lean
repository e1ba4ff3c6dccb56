/-! the readings that are kept -/
def pU8 (f : Nat → Int32) (b : Nat) (v0 v1 v2 v3 v4 v5 v6 v7 : Int32) : Nat → Int32 := (upd (upd (upd (upd (upd (upd (upd (upd f (b + 0) v0) (b + 1) v1) (b + 2) v2) (b + 3) v3) (b + 4) v4) (b + 5) v5) (b + 6) v6) (b + 7) v7)
theorem pU8_ne (f : Nat → Int32) (b : Nat) (v0 v1 v2 v3 v4 v5 v6 v7 : Int32) {j : Nat} (h : j < b ∨ b + 8 ≤ j) : pU8 f b v0 v1 v2 v3 v4 v5 v6 v7 j = f j := by
  unfold pU8 upd
  rw [if_neg (by omega), if_neg (by omega), if_neg (by omega), if_neg (by omega), if_neg (by omega), if_neg (by omega), if_neg (by omega), if_neg (by omega)]
theorem pU8_0 (f : Nat → Int32) (b : Nat) (v0 v1 v2 v3 v4 v5 v6 v7 : Int32) : pU8 f b v0 v1 v2 v3 v4 v5 v6 v7 (b + 0) = v0 := by
  unfold pU8 upd
  rw [if_neg (by omega), if_neg (by omega), if_neg (by omega), if_neg (by omega), if_neg (by omega), if_neg (by omega), if_neg (by omega), if_pos rfl]
theorem pU8_1 (f : Nat → Int32) (b : Nat) (v0 v1 v2 v3 v4 v5 v6 v7 : Int32) : pU8 f b v0 v1 v2 v3 v4 v5 v6 v7 (b + 1) = v1 := by
  unfold pU8 upd
  rw [if_neg (by omega), if_neg (by omega), if_neg (by omega), if_neg (by omega), if_neg (by omega), if_neg (by omega), if_pos rfl]
theorem pU8_2 (f : Nat → Int32) (b : Nat) (v0 v1 v2 v3 v4 v5 v6 v7 : Int32) : pU8 f b v0 v1 v2 v3 v4 v5 v6 v7 (b + 2) = v2 := by
  unfold pU8 upd
  rw [if_neg (by omega), if_neg (by omega), if_neg (by omega), if_neg (by omega), if_neg (by omega), if_pos rfl]
theorem pU8_3 (f : Nat → Int32) (b : Nat) (v0 v1 v2 v3 v4 v5 v6 v7 : Int32) : pU8 f b v0 v1 v2 v3 v4 v5 v6 v7 (b + 3) = v3 := by
  unfold pU8 upd
  rw [if_neg (by omega), if_neg (by omega), if_neg (by omega), if_neg (by omega), if_pos rfl]
theorem pU8_4 (f : Nat → Int32) (b : Nat) (v0 v1 v2 v3 v4 v5 v6 v7 : Int32) : pU8 f b v0 v1 v2 v3 v4 v5 v6 v7 (b + 4) = v4 := by
  unfold pU8 upd
  rw [if_neg (by omega), if_neg (by omega), if_neg (by omega), if_pos rfl]
theorem pU8_5 (f : Nat → Int32) (b : Nat) (v0 v1 v2 v3 v4 v5 v6 v7 : Int32) : pU8 f b v0 v1 v2 v3 v4 v5 v6 v7 (b + 5) = v5 := by
  unfold pU8 upd
  rw [if_neg (by omega), if_neg (by omega), if_pos rfl]
theorem pU8_6 (f : Nat → Int32) (b : Nat) (v0 v1 v2 v3 v4 v5 v6 v7 : Int32) : pU8 f b v0 v1 v2 v3 v4 v5 v6 v7 (b + 6) = v6 := by
  unfold pU8 upd
  rw [if_neg (by omega), if_pos rfl]
theorem pU8_7 (f : Nat → Int32) (b : Nat) (v0 v1 v2 v3 v4 v5 v6 v7 : Int32) : pU8 f b v0 v1 v2 v3 v4 v5 v6 v7 (b + 7) = v7 := by
  unfold pU8 upd
  rw [if_pos rfl]
theorem pU8_two (f g : Nat → Int32) (a b : Nat) (v0 v1 v2 v3 v4 v5 v6 v7 : Int32) {w : Nat} (h : w < 8) : pU8 f a v0 v1 v2 v3 v4 v5 v6 v7 (a + w) = pU8 g b v0 v1 v2 v3 v4 v5 v6 v7 (b + w) := by
  have hw : w = 0 ∨ w = 1 ∨ w = 2 ∨ w = 3 ∨ w = 4 ∨ w = 5 ∨ w = 6 ∨ w = 7 := by omega
  rcases hw with rfl | rfl | rfl | rfl | rfl | rfl | rfl | rfl
  · rw [pU8_0, pU8_0]
  · rw [pU8_1, pU8_1]
  · rw [pU8_2, pU8_2]
  · rw [pU8_3, pU8_3]
  · rw [pU8_4, pU8_4]
  · rw [pU8_5, pU8_5]
  · rw [pU8_6, pU8_6]
  · rw [pU8_7, pU8_7]
def pLog (t : Nat) (lcl told : Nat → Int32) : Prop := ∀ place what : Nat, place < min t 12 → what < 8 → told (8 * place + what) = lcl ((t - 1 - place) % 12 * 8 + what)
theorem nd_in (K : (Nat → Int32) → (Int32 × (Nat → Int32))) :
    ∀ (m k : Nat) (g : Nat → Int32), 7 ≤ k → k ≤ 95 → k - 7 < m → f_X10_noteDown_L4 K m (nI k, g) = K (fun j => if 8 ≤ j ∧ j ≤ k then g (j - 8) else g j) := by
  intro m
  induction m with
  | zero => intro k g _ _ h; omega
  | succ m ih =>
    intro k g h7 hk hm
    have e8 : (8 : Int32) = nI 8 := by decide
    rw [f_X10_noteDown_L4, e8]
    by_cases he : k = 7
    · subst he
      rw [if_pos (nI_lt (by decide) (by decide))]
      congr 1
      funext j
      rw [if_neg (by omega)]
    · have e1 : nI k + (-1) = nI (k - 1) := by
        have := pk_m1 (k - 1)
        rw [Nat.sub_add_cancel (by omega)] at this
        exact this
      rw [if_neg (nI_nlt (by omega) (by omega)), e1, pk_sub (by omega), nI_clamp (by omega), nI_clamp (by omega), ih (k - 1) _ (by omega) (by omega) (by omega)]
      congr 1
      funext j
      by_cases hj : j = k
      · subst hj
        rw [if_neg (by omega), upd_at, if_pos (by omega)]
      · by_cases hj2 : 8 ≤ j ∧ j ≤ k - 1
        · rw [if_pos hj2, if_pos (by omega)]
          unfold upd
          rw [if_neg (by omega)]
        · rw [if_neg hj2, if_neg (by omega)]
          unfold upd
          rw [if_neg hj]
theorem put_eq {r w : Nat} (hr : r < 12) (hw : w < 8) (f : Nat → Int32) (x : Int32) : f_X3_put f (nI r) (nI w) x = upd f (r * 8 + w) x := by
  have e8 : (8 : Int32) = nI 8 := by decide
  have e96 : (96 : Int32) = nI 96 := by decide
  have e : nI r * 8 + nI w = nI (r * 8 + w) := by rw [e8, pk_mul, nI_add]
  rw [f_X3_put, e, if_neg (nI_pos (by omega)), e96, if_neg (nI_ge (by omega) (by decide)), nI_clamp (by omega)]
theorem rem12 {t : Nat} (h : t < 2 ^ 31) : gRemI (nI t) (12 : Int32) = nI (t % 12) := by
  have e : (12 : Int32) = nI 12 := by decide
  unfold gRemI
  rw [e]
  exact pk_rem h (by decide) (by decide)
theorem flag_eq (b : Bool) : f_X9_flag b = (bI b, ()) := by cases b <;> rfl
theorem kept_eq {t : Nat} (h : t < 2 ^ 31) : f_X3_kept (nI t) = (nI (min t 12), ()) := by
  have e : (12 : Int32) = nI 12 := by decide
  rw [f_X3_kept]
  unfold gMinI
  rw [e]
  by_cases c : 12 < t
  · rw [if_pos (nI_lt c h)]
    have : min t 12 = 12 := by omega
    rw [this]
  · rw [if_neg (nI_nlt (by omega) (by decide))]
    have : min t 12 = t := by omega
    rw [this]
set_option maxHeartbeats 1000000 in
theorem note_eq {t : Nat} {lcl told : Nat → Int32} (hp : pLog t lcl told) (ht : t < 2 ^ 30) (ov : Int32) (v : Int64) (range : Int32) (over : Bool) (many : Int32) (jp : Bool) (tick : Int64) :
    ∃ lcl' told' : Nat → Int32, f_X3_note (nI t) ov lcl v range over many jp tick.toInt32 = (nI (t + 1), ov + bI over, lcl') ∧ f_X10_noteDown tick range (nI (min t 12)) (nI (t + 1)) told v over many jp = (nI (min (t + 1) 12), told') ∧ pLog (t + 1) lcl' told' := by
  refine ⟨pU8 lcl (t % 12 * 8) (nI (t + 1)) (v / 1000).toInt32 (gRemL v 1000).toInt32 range (bI over) many (bI jp) tick.toInt32, pU8 (fun j => if 8 ≤ j ∧ j ≤ 95 then told (j - 8) else told j) 0 (nI (t + 1)) (v / 1000).toInt32 (gRemL v 1000).toInt32 range (bI over) many (bI jp) tick.toInt32, ?_, ?_, ?_⟩
  · have hr : t % 12 < 12 := Nat.mod_lt _ (by decide)
    rw [f_X3_note, rem12 (by omega)]
    have z0 : (0 : Int32) = nI 0 := by decide
    have z1 : (1 : Int32) = nI 1 := by decide
    have z2 : (2 : Int32) = nI 2 := by decide
    have z3 : (3 : Int32) = nI 3 := by decide
    have z4 : (4 : Int32) = nI 4 := by decide
    have z5 : (5 : Int32) = nI 5 := by decide
    have z6 : (6 : Int32) = nI 6 := by decide
    have z7 : (7 : Int32) = nI 7 := by decide
    rw [gB1]
    dsimp only
    rw [flag_eq, flag_eq]
    dsimp only
    have eo : (if over = true then ov + 1 else ov) = ov + bI over := by
      cases over with
      | true => rfl
      | false => exact (bI_0 ov).symm
    rw [nI_1, eo]
    have p0 := put_eq hr (by decide : 0 < 8)
    have p1 := put_eq hr (by decide : 1 < 8)
    have p2 := put_eq hr (by decide : 2 < 8)
    have p3 := put_eq hr (by decide : 3 < 8)
    have p4 := put_eq hr (by decide : 4 < 8)
    have p5 := put_eq hr (by decide : 5 < 8)
    have p6 := put_eq hr (by decide : 6 < 8)
    have p7 := put_eq hr (by decide : 7 < 8)
    rw [← z0] at p0
    rw [← z1] at p1
    rw [← z2] at p2
    rw [← z3] at p3
    rw [← z4] at p4
    rw [← z5] at p5
    rw [← z6] at p6
    rw [← z7] at p7
    rw [p0, p1, p2, p3, p4, p5, p6, p7]
    rfl
  · have e95 : (95 : Int32) = nI 95 := by decide
    have e12 : (12 : Int32) = nI 12 := by decide
    rw [f_X10_noteDown, e95, nd_in _ 96 95 told (by omega) (by omega) (by omega), gB1, gB1, ite_k2, ite_k2]
    have c0 : (0 : Int32).toNatClampNeg = 0 + 0 := by decide
    have c1 : (1 : Int32).toNatClampNeg = 0 + 1 := by decide
    have c2 : (2 : Int32).toNatClampNeg = 0 + 2 := by decide
    have c3 : (3 : Int32).toNatClampNeg = 0 + 3 := by decide
    have c4 : (4 : Int32).toNatClampNeg = 0 + 4 := by decide
    have c5 : (5 : Int32).toNatClampNeg = 0 + 5 := by decide
    have c6 : (6 : Int32).toNatClampNeg = 0 + 6 := by decide
    have c7 : (7 : Int32).toNatClampNeg = 0 + 7 := by decide
    rw [c0, c1, c2, c3, c4, c5, c6, c7, e12]
    by_cases c : 12 ≤ t
    · have m1 : min t 12 = 12 := by omega
      have m2 : min (t + 1) 12 = 12 := by omega
      rw [m1, m2, if_pos (nI_le (Nat.le_refl _) (by decide)), Int32.add_zero]
      rfl
    · have m1 : min t 12 = t := by omega
      have m2 : min (t + 1) 12 = t + 1 := by omega
      rw [m1, m2, if_neg (nI_ge (by omega) (by decide)), nI_1]
      rfl
  · intro place what h1 h2
    by_cases hz : place = 0
    · subst hz
      have e1 : 8 * 0 + what = 0 + what := by omega
      have e2 : t + 1 - 1 - 0 = t := by omega
      rw [e1, e2]
      exact pU8_two _ _ _ _ _ _ _ _ _ _ _ _ h2
    · rw [pU8_ne _ _ _ _ _ _ _ _ _ _ (by omega), pU8_ne _ _ _ _ _ _ _ _ _ _ (by omega), if_pos (by omega)]
      have := hp (place - 1) what (by omega) h2
      have e1 : 8 * place + what - 8 = 8 * (place - 1) + what := by omega
      have e2 : t + 1 - 1 - place = t - 1 - (place - 1) := by omega
      rw [e1, e2]
      exact this
theorem reading_eq {t : Nat} {lcl told : Nat → Int32} (hp : pLog t lcl told) (ht : t < 2 ^ 30) (p q : Int32) : f_X9_reading (nI t) lcl p q = f_X10_reading (nI (min t 12)) told p q := by
  have e0 : (0 : Int32).toInt = 0 := by decide
  have e1 : (1 : Int32).toInt = 1 := by decide
  have e7 : (7 : Int32).toInt = 7 := by decide
  have e8 : (8 : Int32).toInt = 8 := by decide
  have ek : (nI (min t 12)).toInt = ((min t 12 : Nat) : Int) := nI_toInt (by omega)
  have es : (nI (min t 12) - 1).toInt = ((min t 12 : Nat) : Int) - 1 := by rw [gi_sub (by omega) (by omega), ek, e1]
  rw [f_X9_reading, f_X10_reading, kept_eq (by omega)]
  by_cases a1 : p < 0
  · have := gi_lt a1 rfl e0
    rw [if_pos a1, wi_f (by omega)]
    rfl
  · have i1 := gi_nlt a1 rfl e0
    rw [if_neg a1]
    dsimp only
    by_cases a2 : p < nI (min t 12)
    · have i2 := gi_lt a2 rfl ek
      rw [if_pos a2, wi_t (by omega) (by omega)]
      dsimp only
      rw [if_pos (rfl : true = true)]
      by_cases a3 : q < 0
      · have i3 := gi_lt a3 rfl e0
        rw [if_pos a3, wi_f (by omega)]
        rfl
      · have i3 := gi_nlt a3 rfl e0
        rw [if_neg a3]
        by_cases a4 : q < 8
        · have i4 := gi_lt a4 rfl e8
          obtain ⟨k, k1, k2, k3⟩ := nI_of' (x := p) i1
          obtain ⟨w, w1, w2, w3⟩ := nI_of' (x := q) i3
          subst k2
          subst w2
          have z8 : (8 : Int32) = nI 8 := by decide
          have z96 : (96 : Int32) = nI 96 := by decide
          have ep : nI t - 1 - nI k = nI (t - 1 - k) := by
            have := nI_pred (t - 1)
            rw [Nat.sub_add_cancel (by omega)] at this
            rw [this, pk_sub (by omega)]
          have ec : gRemI (nI t - 1 - nI k) 12 * 8 + nI w = nI ((t - 1 - k) % 12 * 8 + w) := by
            rw [ep, rem12 (by omega), z8, pk_mul, nI_add]
          have ec2 : (8 : Int32) * nI k + nI w = nI (8 * k + w) := by rw [z8, pk_mul, nI_add]
          rw [if_pos a4, wi_t (by omega) (by omega), f_X3_part, ec, ec2, if_neg (nI_pos (by omega)), z96, if_neg (nI_ge (by omega) (by decide)), nI_clamp (by omega), nI_clamp (by omega), hp k w (by omega) (by omega)]
          rfl
        · have i4 := gi_nlt a4 rfl e8
          rw [if_neg a4, wi_f (by omega)]
          rfl
    · have i2 := gi_nlt a2 rfl ek
      rw [if_neg a2, wi_f (by omega)]
      rfl
