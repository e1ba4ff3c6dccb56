/-! run up: cycle by cycle, tick by tick, class and reference go together -/
theorem nI_ge10 {i : Nat} (h : i < 10) : ¬ (10 : Int32) ≤ nI i := by
  have e : (10 : Int32) = nI 10 := by decide
  rw [e]
  exact nI_ge h (by decide)
theorem gl_inc {t : Int64} (h : t.toInt < 9223372036854775807) : (t + 1).toInt = t.toInt + 1 := by
  have h1 := gl_min t
  have e : (1 : Int64).toInt = 1 := by decide
  rw [gl_add (by omega) (by omega), e]
theorem s64_1 : ((25600000 : Int64) * (1 : Int32).toInt64).toInt = 25600000 := by decide
theorem s64_m : ((25600000 : Int64) * (-1 : Int32).toInt64).toInt = -25600000 := by decide
theorem ch_bd {ch : Int64} {v : Int64} {s : Int32} {C : Int} (hs : s = 1 ∨ s = -1) (h : -C ≤ ch.toInt ∧ ch.toInt ≤ C) (hC : C ≤ 1000000000000000) :
    -(C + 48000000) ≤ (ch + (pCut v + ((25600000 : Int64) * s.toInt64))).toInt ∧ (ch + (pCut v + ((25600000 : Int64) * s.toInt64))).toInt ≤ C + 48000000 := by
  have hp := pCut_bd v
  rcases hs with rfl | rfl
  · have e1 : (pCut v + ((25600000 : Int64) * (1 : Int32).toInt64)).toInt = (pCut v).toInt + 25600000 := by
      rw [gl_add (by rw [s64_1]; omega) (by rw [s64_1]; omega), s64_1]
    rw [gl_add (by rw [e1]; omega) (by rw [e1]; omega), e1]
    omega
  · have e1 : (pCut v + ((25600000 : Int64) * (-1 : Int32).toInt64)).toInt = (pCut v).toInt - 25600000 := by
      rw [gl_add (by rw [s64_m]; omega) (by rw [s64_m]; omega), s64_m]; omega
    rw [gl_add (by rw [e1]; omega) (by rw [e1]; omega), e1]
    omega
theorem fl_bd {fl : Int64} {v : Int64} {C : Int} (h : -C ≤ fl.toInt ∧ fl.toInt ≤ C) (hC : C ≤ 1000000000000000) : -(C + 48000000) ≤ (fl + pCut v).toInt ∧ (fl + pCut v).toInt ≤ C + 48000000 := by
  have hb := pCut_bd v
  rw [gl_add (by omega) (by omega)]
  omega
theorem cnt_bd {x s : Int32} {B : Int} (h : 0 ≤ x.toInt ∧ x.toInt ≤ B) (hB : B ≤ 1000000) : 0 ≤ (if s ≤ 0 then x else x + 1).toInt ∧ (if s ≤ 0 then x else x + 1).toInt ≤ B + 1 := by
  split
  · omega
  · rw [gi_inc (by omega)]; omega
theorem cnt_bd2 {x s : Int32} {B : Int} (h : 0 ≤ x.toInt ∧ x.toInt ≤ B) (hB : B ≤ 1000000) : 0 ≤ (if s ≤ 0 then x + 1 else x).toInt ∧ (if s ≤ 0 then x + 1 else x).toInt ≤ B + 1 := by
  split
  · rw [gi_inc (by omega)]; omega
  · omega
theorem sgn_or (p : Int32) : (f_X1_signAt p (1 : Int32)).1 = 1 ∨ (f_X1_signAt p (1 : Int32)).1 = -1 := by
  rw [f_X1_signAt]
  by_cases h0 : p = 0
  · rw [if_pos h0]; exact Or.inl rfl
  · rw [if_neg h0]
    by_cases h9 : p = 9
    · rw [if_pos h9]; exact Or.inr rfl
    · rw [if_neg h9]; exact Or.inl rfl
set_option maxHeartbeats 1000000 in
theorem stepX (dc hum w n range off : Int32) (sh : Bool) (KX : (Int64 × Int64 × Bool × Int32 × Int32 × Int32 × Int64 × Int64 × Int32) → (Int64 × Int32 × Int32 × Int64 × Int32 × Bool × Int32 × Bool × Int32 × Int32 × Int32 × Int64 × Int64 × Int64 × Int32 × (Nat → Int32))) (m i : Nat) (t seed : Int64) (ov : Bool) (pl mi sw : Int32) (ch fl : Int64) (sg : Int32) (h : ¬ (10 : Int32) ≤ nI i) :
    f_X1_converse_L46 dc hum w n range off sh KX (m + 1) (nI i, t, seed, ov, pl, mi, sw, ch, fl, sg) = f_X1_converse_L46 dc hum w n range off sh KX m (nI i + 1, t + 1, (pIn dc hum w n seed t sh).2, pOv ov (pAmp range off (pIn dc hum w n seed t sh).1), (if (f_X1_signAt (nI i) (1 : Int32)).1 ≤ 0 then pl else pl + 1), (if (f_X1_signAt (nI i) (1 : Int32)).1 ≤ 0 then mi + 1 else mi), sw + bI (pSw sg (f_X1_signAt (nI i) (1 : Int32)).1), ch + (pCut (pAmp range off (pIn dc hum w n seed t sh).1) + ((25600000 : Int64) * ((f_X1_signAt (nI i) (1 : Int32)).1).toInt64)), fl + pCut (pAmp range off (pIn dc hum w n seed t sh).1), (f_X1_signAt (nI i) (1 : Int32)).1) := by
  rw [f_X1_converse_L46, if_neg h]
  unfold gBind
  dsimp only
  by_cases h0 : sh = true
  · rw [if_pos h0]
    rw [amp_eq]
    dsimp only
    rw [flow_eq]
    unfold pIn
    rw [if_pos h0]
  · rw [if_neg h0]
    rw [amp_eq]
    dsimp only
    rw [flow_eq]
    unfold pIn
    rw [if_neg h0]
set_option maxHeartbeats 1000000 in
theorem stepM (dc hum w : Int32) {n : Int32} (range off : Int32) (sh : Bool) (hn : 0 ≤ n.toInt ∧ n.toInt ≤ 10000) (KM : (Int32 × Int64 × Int64 × Int32 × Int32 × Int32 × Int64 × Bool × Int64) → (Int64 × Int64 × Int32 × Int32 × Int32 × Int64 × Bool × Int64)) (m i : Nat) {t : Int64} (seed : Int64) (ov : Bool) (pl mi sw : Int32) (ch fl : Int64) (sg : Int32) (h : ¬ (10 : Int32) ≤ nI i) (ht : 0 ≤ t.toInt) :
    f_X10_runUp_L31 dc hum w n range off sh KM (m + 1) (sg, nI i, seed, t, pl, mi, sw, ch, ov, fl) = f_X10_runUp_L31 dc hum w n range off sh KM m ((f_X1_signAt (nI i) (1 : Int32)).1, nI i + 1, (pIn dc hum w n seed t sh).2, t + 1, (if (f_X1_signAt (nI i) (1 : Int32)).1 ≤ 0 then pl else pl + 1), (if (f_X1_signAt (nI i) (1 : Int32)).1 ≤ 0 then mi + 1 else mi), sw + bI (pSw sg (f_X1_signAt (nI i) (1 : Int32)).1), ch + (pCut (pAmp range off (pIn dc hum w n seed t sh).1) + ((25600000 : Int64) * ((f_X1_signAt (nI i) (1 : Int32)).1).toInt64)), pOv ov (pAmp range off (pIn dc hum w n seed t sh).1), fl + pCut (pAmp range off (pIn dc hum w n seed t sh).1)) := by
  rw [f_X10_runUp_L31, if_neg h, out_eq dc hum w seed range off ov sh ht hn]
  generalize pIn dc hum w n seed t sh = q
  obtain ⟨v, seed2⟩ := q
  unfold gBind
  dsimp only
  generalize pAmp range off v = av
  have key : ∀ s : Int32, (s = 1 ∨ s = -1) → (if s = (1 : Int32) then (if s = (1 : Int32) then (if sg = (0 : Int32) then (f_X10_runUp_L31 dc hum w n range off sh KM m (s, nI i + 1, seed2, t + (1 : Int64), pl + bI true, mi + bI false, sw + bI false, ch + (pCut av + ((25600000 : Int64) * s.toInt64)), pOv ov av, fl + pCut av)) else (if sg = s then (f_X10_runUp_L31 dc hum w n range off sh KM m (s, nI i + 1, seed2, t + (1 : Int64), pl + bI true, mi + bI false, sw + bI false, ch + (pCut av + ((25600000 : Int64) * s.toInt64)), pOv ov av, fl + pCut av)) else (f_X10_runUp_L31 dc hum w n range off sh KM m (s, nI i + 1, seed2, t + (1 : Int64), pl + bI true, mi + bI false, sw + bI true, ch + (pCut av + ((25600000 : Int64) * s.toInt64)), pOv ov av, fl + pCut av)))) else (if sg = (0 : Int32) then (f_X10_runUp_L31 dc hum w n range off sh KM m (s, nI i + 1, seed2, t + (1 : Int64), pl + bI true, mi + bI true, sw + bI false, ch + (pCut av + ((25600000 : Int64) * s.toInt64)), pOv ov av, fl + pCut av)) else (if sg = s then (f_X10_runUp_L31 dc hum w n range off sh KM m (s, nI i + 1, seed2, t + (1 : Int64), pl + bI true, mi + bI true, sw + bI false, ch + (pCut av + ((25600000 : Int64) * s.toInt64)), pOv ov av, fl + pCut av)) else (f_X10_runUp_L31 dc hum w n range off sh KM m (s, nI i + 1, seed2, t + (1 : Int64), pl + bI true, mi + bI true, sw + bI true, ch + (pCut av + ((25600000 : Int64) * s.toInt64)), pOv ov av, fl + pCut av))))) else (if s = (1 : Int32) then (if sg = (0 : Int32) then (f_X10_runUp_L31 dc hum w n range off sh KM m (s, nI i + 1, seed2, t + (1 : Int64), pl + bI false, mi + bI false, sw + bI false, ch + (pCut av + ((25600000 : Int64) * s.toInt64)), pOv ov av, fl + pCut av)) else (if sg = s then (f_X10_runUp_L31 dc hum w n range off sh KM m (s, nI i + 1, seed2, t + (1 : Int64), pl + bI false, mi + bI false, sw + bI false, ch + (pCut av + ((25600000 : Int64) * s.toInt64)), pOv ov av, fl + pCut av)) else (f_X10_runUp_L31 dc hum w n range off sh KM m (s, nI i + 1, seed2, t + (1 : Int64), pl + bI false, mi + bI false, sw + bI true, ch + (pCut av + ((25600000 : Int64) * s.toInt64)), pOv ov av, fl + pCut av)))) else (if sg = (0 : Int32) then (f_X10_runUp_L31 dc hum w n range off sh KM m (s, nI i + 1, seed2, t + (1 : Int64), pl + bI false, mi + bI true, sw + bI false, ch + (pCut av + ((25600000 : Int64) * s.toInt64)), pOv ov av, fl + pCut av)) else (if sg = s then (f_X10_runUp_L31 dc hum w n range off sh KM m (s, nI i + 1, seed2, t + (1 : Int64), pl + bI false, mi + bI true, sw + bI false, ch + (pCut av + ((25600000 : Int64) * s.toInt64)), pOv ov av, fl + pCut av)) else (f_X10_runUp_L31 dc hum w n range off sh KM m (s, nI i + 1, seed2, t + (1 : Int64), pl + bI false, mi + bI true, sw + bI true, ch + (pCut av + ((25600000 : Int64) * s.toInt64)), pOv ov av, fl + pCut av)))))) = f_X10_runUp_L31 dc hum w n range off sh KM m (s, nI i + 1, seed2, t + 1, (if s ≤ 0 then pl else pl + 1), (if s ≤ 0 then mi + 1 else mi), sw + bI (pSw sg s), ch + (pCut av + ((25600000 : Int64) * s.toInt64)), pOv ov av, fl + pCut av) := by
    intro s hs
    unfold pSw
    rcases hs with rfl | rfl
    · rw [if_pos (rfl : (1 : Int32) = 1), if_pos (rfl : (1 : Int32) = 1), if_neg (by decide : ¬ (1 : Int32) ≤ 0), if_neg (by decide : ¬ (1 : Int32) ≤ 0)]
      by_cases h3 : sg = 0
      · rw [if_pos h3, if_pos h3, bI_1, bI_0, bI_0]
      · rw [if_neg h3, if_neg h3]
        by_cases h4 : sg = 1
        · rw [if_pos h4, if_pos h4, bI_1, bI_0, bI_0]
        · rw [if_neg h4, if_neg h4, bI_1, bI_0]
    · rw [if_neg (by decide : ¬ (-1 : Int32) = 1), if_neg (by decide : ¬ (-1 : Int32) = 1), if_pos (by decide : (-1 : Int32) ≤ 0), if_pos (by decide : (-1 : Int32) ≤ 0)]
      by_cases h3 : sg = 0
      · rw [if_pos h3, if_pos h3, bI_0, bI_1, bI_0]
      · rw [if_neg h3, if_neg h3]
        by_cases h4 : sg = -1
        · rw [if_pos h4, if_pos h4, bI_0, bI_1, bI_0]
        · rw [if_neg h4, if_neg h4, bI_0, bI_1]
  rw [f_X1_signAt]
  by_cases h0 : nI i = 0
  · simp only [if_pos h0]
    exact key 1 (Or.inl rfl)
  · simp only [if_neg h0]
    by_cases h9 : nI i = 9
    · simp only [if_pos h9]
      exact key (-1) (Or.inr rfl)
    · simp only [if_neg h9]
      exact key (1 : Int32) (Or.inl rfl)
set_option maxHeartbeats 1000000 in
theorem sim46 (dc hum w : Int32) {n : Int32} (range off : Int32) (sh : Bool) (hn : 0 ≤ n.toInt ∧ n.toInt ≤ 10000) {P : (Int64 × Int32 × Int32 × Int64 × Int32 × Bool × Int32 × Bool × Int32 × Int32 × Int32 × Int64 × Int64 × Int64 × Int32 × (Nat → Int32)) → (Int64 × Int64 × Int32 × Int32 × Int32 × Int64 × Bool × Int64) → Prop} {T C L : Int} (hL : L ≤ 1000) (hT : T ≤ 1000000000000000) (hC : C ≤ 1000000000000000)
    (KX : (Int64 × Int64 × Bool × Int32 × Int32 × Int32 × Int64 × Int64 × Int32) → (Int64 × Int32 × Int32 × Int64 × Int32 × Bool × Int32 × Bool × Int32 × Int32 × Int32 × Int64 × Int64 × Int64 × Int32 × (Nat → Int32))) (KM : (Int32 × Int64 × Int64 × Int32 × Int32 × Int32 × Int64 × Bool × Int64) → (Int64 × Int64 × Int32 × Int32 × Int32 × Int64 × Bool × Int64))
    (hK : ∀ (t seed : Int64) (ov : Bool) (pl mi sw : Int32) (ch fl : Int64) (sg : Int32), t.toInt = T → ((-C ≤ ch.toInt ∧ ch.toInt ≤ C) ∧ -C ≤ fl.toInt ∧ fl.toInt ≤ C) → (0 ≤ pl.toInt ∧ pl.toInt ≤ L) → (0 ≤ mi.toInt ∧ mi.toInt ≤ L) → P (KX (t, seed, ov, pl, mi, sw, ch, fl, sg)) (KM (sg, seed, t, pl, mi, sw, ch, ov, fl))) :
    ∀ (m i : Nat) (t seed : Int64) (ov : Bool) (pl mi sw : Int32) (ch fl : Int64) (sg : Int32), i ≤ 10 → 10 - i < m → 0 ≤ t.toInt → t.toInt + (10 - i) = T → ((-(C - 48000000 * (10 - i)) ≤ ch.toInt ∧ ch.toInt ≤ C - 48000000 * (10 - i)) ∧ -(C - 48000000 * (10 - i)) ≤ fl.toInt ∧ fl.toInt ≤ C - 48000000 * (10 - i)) → (0 ≤ pl.toInt ∧ pl.toInt ≤ L - (10 - i)) → (0 ≤ mi.toInt ∧ mi.toInt ≤ L - (10 - i)) →
      P (f_X1_converse_L46 dc hum w n range off sh KX m (nI i, t, seed, ov, pl, mi, sw, ch, fl, sg)) (f_X10_runUp_L31 dc hum w n range off sh KM m (sg, nI i, seed, t, pl, mi, sw, ch, ov, fl)) := by
  intro m
  induction m with
  | zero => intro i t seed ov pl mi sw ch fl sg _ h; omega
  | succ m ih =>
    intro i t seed ov pl mi sw ch fl sg hi hm ht hT2 hch hpl hmi
    by_cases h10 : i = 10
    · subst h10
      rw [f_X1_converse_L46, f_X10_runUp_L31, if_pos (by decide), if_pos (by decide)]
      exact hK t seed ov pl mi sw ch fl sg (by omega) (by omega) (by omega) (by omega)
    · have hi2 : i < 10 := by omega
      rw [stepX dc hum w n range off sh KX m i t seed ov pl mi sw ch fl sg (nI_ge10 hi2), stepM dc hum w range off sh hn KM m i seed ov pl mi sw ch fl sg (nI_ge10 hi2) ht]
      have hs := sgn_or (nI i)
      generalize (f_X1_signAt (nI i) (1 : Int32)).1 = s at hs ⊢
      generalize pIn dc hum w n seed t sh = q
      generalize pAmp range off q.1 = av
      rw [nI_1]
      have e1 := gl_inc (t := t) (by omega)
      have hb := ch_bd (v := av) hs hch.1 (by omega)
      have hf := fl_bd (v := av) hch.2 (by omega)
      have hp2 := cnt_bd (s := s) hpl (by omega)
      have hm2 := cnt_bd2 (s := s) hmi (by omega)
      exact ih (i + 1) _ _ _ _ _ _ _ _ _ (by omega) (by omega) (by omega) (by omega) (by omega) (by omega) (by omega)

theorem sgn_or_2 (p : Int32) : (f_X1_signAt p (-1 : Int32)).1 = 1 ∨ (f_X1_signAt p (-1 : Int32)).1 = -1 := by
  rw [f_X1_signAt]
  by_cases h0 : p = 0
  · rw [if_pos h0]; exact Or.inl rfl
  · rw [if_neg h0]
    by_cases h9 : p = 9
    · rw [if_pos h9]; exact Or.inr rfl
    · rw [if_neg h9]; exact Or.inr rfl
set_option maxHeartbeats 1000000 in
theorem stepX_2 (dc hum w n range off : Int32) (sh : Bool) (KX : (Int64 × Int64 × Bool × Int32 × Int32 × Int32 × Int64 × Int64 × Int32) → (Int64 × Int32 × Int32 × Int64 × Int32 × Bool × Int32 × Bool × Int32 × Int32 × Int32 × Int64 × Int64 × Int64 × Int32 × (Nat → Int32))) (m i : Nat) (t seed : Int64) (ov : Bool) (pl mi sw : Int32) (ch fl : Int64) (sg : Int32) (h : ¬ (10 : Int32) ≤ nI i) :
    f_X1_converse_L46_2 dc hum w n range off sh KX (m + 1) (nI i, t, seed, ov, pl, mi, sw, ch, fl, sg) = f_X1_converse_L46_2 dc hum w n range off sh KX m (nI i + 1, t + 1, (pIn dc hum w n seed t sh).2, pOv ov (pAmp range off (pIn dc hum w n seed t sh).1), (if (f_X1_signAt (nI i) (-1 : Int32)).1 ≤ 0 then pl else pl + 1), (if (f_X1_signAt (nI i) (-1 : Int32)).1 ≤ 0 then mi + 1 else mi), sw + bI (pSw sg (f_X1_signAt (nI i) (-1 : Int32)).1), ch + (pCut (pAmp range off (pIn dc hum w n seed t sh).1) + ((25600000 : Int64) * ((f_X1_signAt (nI i) (-1 : Int32)).1).toInt64)), fl + pCut (pAmp range off (pIn dc hum w n seed t sh).1), (f_X1_signAt (nI i) (-1 : Int32)).1) := by
  rw [f_X1_converse_L46_2, if_neg h]
  unfold gBind
  dsimp only
  by_cases h0 : sh = true
  · rw [if_pos h0]
    rw [amp_eq]
    dsimp only
    rw [flow_eq]
    unfold pIn
    rw [if_pos h0]
  · rw [if_neg h0]
    rw [amp_eq]
    dsimp only
    rw [flow_eq]
    unfold pIn
    rw [if_neg h0]
set_option maxHeartbeats 1000000 in
theorem stepM_2 (dc hum w : Int32) {n : Int32} (range off : Int32) (sh : Bool) (hn : 0 ≤ n.toInt ∧ n.toInt ≤ 10000) (KM : (Int32 × Int64 × Int64 × Int32 × Int32 × Int32 × Int64 × Bool × Int64) → (Int64 × Int64 × Int32 × Int32 × Int32 × Int64 × Bool × Int64)) (m i : Nat) {t : Int64} (seed : Int64) (ov : Bool) (pl mi sw : Int32) (ch fl : Int64) (sg : Int32) (h : ¬ (10 : Int32) ≤ nI i) (ht : 0 ≤ t.toInt) :
    f_X10_runUp_L31_2 dc hum w n range off sh KM (m + 1) (sg, nI i, seed, t, pl, mi, sw, ch, ov, fl) = f_X10_runUp_L31_2 dc hum w n range off sh KM m ((f_X1_signAt (nI i) (-1 : Int32)).1, nI i + 1, (pIn dc hum w n seed t sh).2, t + 1, (if (f_X1_signAt (nI i) (-1 : Int32)).1 ≤ 0 then pl else pl + 1), (if (f_X1_signAt (nI i) (-1 : Int32)).1 ≤ 0 then mi + 1 else mi), sw + bI (pSw sg (f_X1_signAt (nI i) (-1 : Int32)).1), ch + (pCut (pAmp range off (pIn dc hum w n seed t sh).1) + ((25600000 : Int64) * ((f_X1_signAt (nI i) (-1 : Int32)).1).toInt64)), pOv ov (pAmp range off (pIn dc hum w n seed t sh).1), fl + pCut (pAmp range off (pIn dc hum w n seed t sh).1)) := by
  rw [f_X10_runUp_L31_2, if_neg h, out_eq dc hum w seed range off ov sh ht hn]
  generalize pIn dc hum w n seed t sh = q
  obtain ⟨v, seed2⟩ := q
  unfold gBind
  dsimp only
  generalize pAmp range off v = av
  have key : ∀ s : Int32, (s = 1 ∨ s = -1) → (if s = (1 : Int32) then (if s = (1 : Int32) then (if sg = (0 : Int32) then (f_X10_runUp_L31_2 dc hum w n range off sh KM m (s, nI i + 1, seed2, t + (1 : Int64), pl + bI true, mi + bI false, sw + bI false, ch + (pCut av + ((25600000 : Int64) * s.toInt64)), pOv ov av, fl + pCut av)) else (if sg = s then (f_X10_runUp_L31_2 dc hum w n range off sh KM m (s, nI i + 1, seed2, t + (1 : Int64), pl + bI true, mi + bI false, sw + bI false, ch + (pCut av + ((25600000 : Int64) * s.toInt64)), pOv ov av, fl + pCut av)) else (f_X10_runUp_L31_2 dc hum w n range off sh KM m (s, nI i + 1, seed2, t + (1 : Int64), pl + bI true, mi + bI false, sw + bI true, ch + (pCut av + ((25600000 : Int64) * s.toInt64)), pOv ov av, fl + pCut av)))) else (if sg = (0 : Int32) then (f_X10_runUp_L31_2 dc hum w n range off sh KM m (s, nI i + 1, seed2, t + (1 : Int64), pl + bI true, mi + bI true, sw + bI false, ch + (pCut av + ((25600000 : Int64) * s.toInt64)), pOv ov av, fl + pCut av)) else (if sg = s then (f_X10_runUp_L31_2 dc hum w n range off sh KM m (s, nI i + 1, seed2, t + (1 : Int64), pl + bI true, mi + bI true, sw + bI false, ch + (pCut av + ((25600000 : Int64) * s.toInt64)), pOv ov av, fl + pCut av)) else (f_X10_runUp_L31_2 dc hum w n range off sh KM m (s, nI i + 1, seed2, t + (1 : Int64), pl + bI true, mi + bI true, sw + bI true, ch + (pCut av + ((25600000 : Int64) * s.toInt64)), pOv ov av, fl + pCut av))))) else (if s = (1 : Int32) then (if sg = (0 : Int32) then (f_X10_runUp_L31_2 dc hum w n range off sh KM m (s, nI i + 1, seed2, t + (1 : Int64), pl + bI false, mi + bI false, sw + bI false, ch + (pCut av + ((25600000 : Int64) * s.toInt64)), pOv ov av, fl + pCut av)) else (if sg = s then (f_X10_runUp_L31_2 dc hum w n range off sh KM m (s, nI i + 1, seed2, t + (1 : Int64), pl + bI false, mi + bI false, sw + bI false, ch + (pCut av + ((25600000 : Int64) * s.toInt64)), pOv ov av, fl + pCut av)) else (f_X10_runUp_L31_2 dc hum w n range off sh KM m (s, nI i + 1, seed2, t + (1 : Int64), pl + bI false, mi + bI false, sw + bI true, ch + (pCut av + ((25600000 : Int64) * s.toInt64)), pOv ov av, fl + pCut av)))) else (if sg = (0 : Int32) then (f_X10_runUp_L31_2 dc hum w n range off sh KM m (s, nI i + 1, seed2, t + (1 : Int64), pl + bI false, mi + bI true, sw + bI false, ch + (pCut av + ((25600000 : Int64) * s.toInt64)), pOv ov av, fl + pCut av)) else (if sg = s then (f_X10_runUp_L31_2 dc hum w n range off sh KM m (s, nI i + 1, seed2, t + (1 : Int64), pl + bI false, mi + bI true, sw + bI false, ch + (pCut av + ((25600000 : Int64) * s.toInt64)), pOv ov av, fl + pCut av)) else (f_X10_runUp_L31_2 dc hum w n range off sh KM m (s, nI i + 1, seed2, t + (1 : Int64), pl + bI false, mi + bI true, sw + bI true, ch + (pCut av + ((25600000 : Int64) * s.toInt64)), pOv ov av, fl + pCut av)))))) = f_X10_runUp_L31_2 dc hum w n range off sh KM m (s, nI i + 1, seed2, t + 1, (if s ≤ 0 then pl else pl + 1), (if s ≤ 0 then mi + 1 else mi), sw + bI (pSw sg s), ch + (pCut av + ((25600000 : Int64) * s.toInt64)), pOv ov av, fl + pCut av) := by
    intro s hs
    unfold pSw
    rcases hs with rfl | rfl
    · rw [if_pos (rfl : (1 : Int32) = 1), if_pos (rfl : (1 : Int32) = 1), if_neg (by decide : ¬ (1 : Int32) ≤ 0), if_neg (by decide : ¬ (1 : Int32) ≤ 0)]
      by_cases h3 : sg = 0
      · rw [if_pos h3, if_pos h3, bI_1, bI_0, bI_0]
      · rw [if_neg h3, if_neg h3]
        by_cases h4 : sg = 1
        · rw [if_pos h4, if_pos h4, bI_1, bI_0, bI_0]
        · rw [if_neg h4, if_neg h4, bI_1, bI_0]
    · rw [if_neg (by decide : ¬ (-1 : Int32) = 1), if_neg (by decide : ¬ (-1 : Int32) = 1), if_pos (by decide : (-1 : Int32) ≤ 0), if_pos (by decide : (-1 : Int32) ≤ 0)]
      by_cases h3 : sg = 0
      · rw [if_pos h3, if_pos h3, bI_0, bI_1, bI_0]
      · rw [if_neg h3, if_neg h3]
        by_cases h4 : sg = -1
        · rw [if_pos h4, if_pos h4, bI_0, bI_1, bI_0]
        · rw [if_neg h4, if_neg h4, bI_0, bI_1]
  rw [f_X1_signAt]
  by_cases h0 : nI i = 0
  · simp only [if_pos h0]
    exact key 1 (Or.inl rfl)
  · simp only [if_neg h0]
    by_cases h9 : nI i = 9
    · simp only [if_pos h9]
      exact key (-1) (Or.inr rfl)
    · simp only [if_neg h9]
      exact key (-1 : Int32) (Or.inr rfl)
set_option maxHeartbeats 1000000 in
theorem sim46_2 (dc hum w : Int32) {n : Int32} (range off : Int32) (sh : Bool) (hn : 0 ≤ n.toInt ∧ n.toInt ≤ 10000) {P : (Int64 × Int32 × Int32 × Int64 × Int32 × Bool × Int32 × Bool × Int32 × Int32 × Int32 × Int64 × Int64 × Int64 × Int32 × (Nat → Int32)) → (Int64 × Int64 × Int32 × Int32 × Int32 × Int64 × Bool × Int64) → Prop} {T C L : Int} (hL : L ≤ 1000) (hT : T ≤ 1000000000000000) (hC : C ≤ 1000000000000000)
    (KX : (Int64 × Int64 × Bool × Int32 × Int32 × Int32 × Int64 × Int64 × Int32) → (Int64 × Int32 × Int32 × Int64 × Int32 × Bool × Int32 × Bool × Int32 × Int32 × Int32 × Int64 × Int64 × Int64 × Int32 × (Nat → Int32))) (KM : (Int32 × Int64 × Int64 × Int32 × Int32 × Int32 × Int64 × Bool × Int64) → (Int64 × Int64 × Int32 × Int32 × Int32 × Int64 × Bool × Int64))
    (hK : ∀ (t seed : Int64) (ov : Bool) (pl mi sw : Int32) (ch fl : Int64) (sg : Int32), t.toInt = T → ((-C ≤ ch.toInt ∧ ch.toInt ≤ C) ∧ -C ≤ fl.toInt ∧ fl.toInt ≤ C) → (0 ≤ pl.toInt ∧ pl.toInt ≤ L) → (0 ≤ mi.toInt ∧ mi.toInt ≤ L) → P (KX (t, seed, ov, pl, mi, sw, ch, fl, sg)) (KM (sg, seed, t, pl, mi, sw, ch, ov, fl))) :
    ∀ (m i : Nat) (t seed : Int64) (ov : Bool) (pl mi sw : Int32) (ch fl : Int64) (sg : Int32), i ≤ 10 → 10 - i < m → 0 ≤ t.toInt → t.toInt + (10 - i) = T → ((-(C - 48000000 * (10 - i)) ≤ ch.toInt ∧ ch.toInt ≤ C - 48000000 * (10 - i)) ∧ -(C - 48000000 * (10 - i)) ≤ fl.toInt ∧ fl.toInt ≤ C - 48000000 * (10 - i)) → (0 ≤ pl.toInt ∧ pl.toInt ≤ L - (10 - i)) → (0 ≤ mi.toInt ∧ mi.toInt ≤ L - (10 - i)) →
      P (f_X1_converse_L46_2 dc hum w n range off sh KX m (nI i, t, seed, ov, pl, mi, sw, ch, fl, sg)) (f_X10_runUp_L31_2 dc hum w n range off sh KM m (sg, nI i, seed, t, pl, mi, sw, ch, ov, fl)) := by
  intro m
  induction m with
  | zero => intro i t seed ov pl mi sw ch fl sg _ h; omega
  | succ m ih =>
    intro i t seed ov pl mi sw ch fl sg hi hm ht hT2 hch hpl hmi
    by_cases h10 : i = 10
    · subst h10
      rw [f_X1_converse_L46_2, f_X10_runUp_L31_2, if_pos (by decide), if_pos (by decide)]
      exact hK t seed ov pl mi sw ch fl sg (by omega) (by omega) (by omega) (by omega)
    · have hi2 : i < 10 := by omega
      rw [stepX_2 dc hum w n range off sh KX m i t seed ov pl mi sw ch fl sg (nI_ge10 hi2), stepM_2 dc hum w range off sh hn KM m i seed ov pl mi sw ch fl sg (nI_ge10 hi2) ht]
      have hs := sgn_or_2 (nI i)
      generalize (f_X1_signAt (nI i) (-1 : Int32)).1 = s at hs ⊢
      generalize pIn dc hum w n seed t sh = q
      generalize pAmp range off q.1 = av
      rw [nI_1]
      have e1 := gl_inc (t := t) (by omega)
      have hb := ch_bd (v := av) hs hch.1 (by omega)
      have hf := fl_bd (v := av) hch.2 (by omega)
      have hp2 := cnt_bd (s := s) hpl (by omega)
      have hm2 := cnt_bd2 (s := s) hmi (by omega)
      exact ih (i + 1) _ _ _ _ _ _ _ _ _ (by omega) (by omega) (by omega) (by omega) (by omega) (by omega) (by omega)
theorem nI_cyc {N i : Nat} (hN : N ≤ 50) (h : i < N) : ¬ nI N ≤ nI i := nI_ge h (by omega)
set_option maxHeartbeats 1000000 in
theorem sim17 (dc hum w : Int32) {n : Int32} (range off : Int32) (sh : Bool) (hn : 0 ≤ n.toInt ∧ n.toInt ≤ 10000) {N : Nat} (hN : N ≤ 50) {P : (Int64 × Int32 × Int32 × Int64 × Int32 × Bool × Int32 × Bool × Int32 × Int32 × Int32 × Int64 × Int64 × Int64 × Int32 × (Nat → Int32)) → (Int64 × Int64 × Int32 × Int32 × Int32 × Int64 × Bool × Int64) → Prop} {T C L : Int} (hL : L ≤ 1000) (hT : T ≤ 1000000000000000) (hC : C ≤ 1000000000000000)
    (KX : (Int64 × Int64 × Bool × Int32 × Int32 × Int32 × Int64 × Int64 × Int32) → (Int64 × Int32 × Int32 × Int64 × Int32 × Bool × Int32 × Bool × Int32 × Int32 × Int32 × Int64 × Int64 × Int64 × Int32 × (Nat → Int32))) (KM : (Int64 × Int64 × Int32 × Int32 × Int32 × Int64 × Bool × Int64) → (Int64 × Int64 × Int32 × Int32 × Int32 × Int64 × Bool × Int64))
    (hK : ∀ (t seed : Int64) (ov : Bool) (pl mi sw : Int32) (ch fl : Int64) (sg : Int32), t.toInt = T → ((-C ≤ ch.toInt ∧ ch.toInt ≤ C) ∧ -C ≤ fl.toInt ∧ fl.toInt ≤ C) → (0 ≤ pl.toInt ∧ pl.toInt ≤ L) → (0 ≤ mi.toInt ∧ mi.toInt ≤ L) → P (KX (t, seed, ov, pl, mi, sw, ch, fl, sg)) (KM (seed, t, pl, mi, sw, ch, ov, fl))) :
    ∀ (m i : Nat) (t seed : Int64) (ov : Bool) (pl mi sw : Int32) (ch fl : Int64) (sg : Int32), i ≤ N → N - i < m → 0 ≤ t.toInt → t.toInt + 10 * ((N : Int) - i) = T → ((-(C - 480000000 * ((N : Int) - i)) ≤ ch.toInt ∧ ch.toInt ≤ C - 480000000 * ((N : Int) - i)) ∧ -(C - 480000000 * ((N : Int) - i)) ≤ fl.toInt ∧ fl.toInt ≤ C - 480000000 * ((N : Int) - i)) → (0 ≤ pl.toInt ∧ pl.toInt ≤ L - 10 * ((N : Int) - i)) → (0 ≤ mi.toInt ∧ mi.toInt ≤ L - 10 * ((N : Int) - i)) →
      P (f_X1_converse_L17 (nI N) dc hum w n range off sh KX m (nI i, t, seed, ov, pl, mi, sw, ch, fl, sg)) (f_X10_runUp_L4 dc hum w n range off (nI N) sh KM m (sg, nI i, seed, t, pl, mi, sw, ch, ov, fl)) := by
  intro m
  induction m with
  | zero => intro i t seed ov pl mi sw ch fl sg _ h; omega
  | succ m ih =>
    intro i t seed ov pl mi sw ch fl sg hi hm ht hT2 hch hpl hmi
    rw [f_X1_converse_L17, f_X10_runUp_L4]
    by_cases hiN : i = N
    · subst hiN
      rw [if_pos (nI_le (Nat.le_refl i) (by omega)), if_pos (nI_le (Nat.le_refl i) (by omega))]
      exact hK t seed ov pl mi sw ch fl sg (by omega) (by omega) (by omega) (by omega)
    · have hi2 : i < N := by omega
      rw [if_neg (nI_cyc hN hi2), if_neg (nI_cyc hN hi2)]
      have go : ∀ (t2 seed2 : Int64) (ov2 : Bool) (pl2 mi2 sw2 : Int32) (ch2 fl2 : Int64) (sg2 : Int32), t2.toInt = t.toInt + 10 → ((-(C - 480000000 * ((N : Int) - (i + 1))) ≤ ch2.toInt ∧ ch2.toInt ≤ C - 480000000 * ((N : Int) - (i + 1))) ∧ -(C - 480000000 * ((N : Int) - (i + 1))) ≤ fl2.toInt ∧ fl2.toInt ≤ C - 480000000 * ((N : Int) - (i + 1))) → (0 ≤ pl2.toInt ∧ pl2.toInt ≤ L - 10 * ((N : Int) - (i + 1))) → (0 ≤ mi2.toInt ∧ mi2.toInt ≤ L - 10 * ((N : Int) - (i + 1))) →
          P (f_X1_converse_L17 (nI N) dc hum w n range off sh KX m ((nI i + 1), t2, seed2, ov2, pl2, mi2, sw2, ch2, fl2, sg2)) (f_X10_runUp_L4 dc hum w n range off (nI N) sh KM m (sg2, (nI i + 1), seed2, t2, pl2, mi2, sw2, ch2, ov2, fl2)) := by
        intro t2 seed2 ov2 pl2 mi2 sw2 ch2 fl2 sg2 h1 h2 h3 h4
        rw [nI_1]
        exact ih (i + 1) t2 seed2 ov2 pl2 mi2 sw2 ch2 fl2 sg2 (by omega) (by omega) (by omega) (by omega) (by omega) (by omega) (by omega)
      by_cases hc : ch ≤ 0
      · rw [if_pos hc, if_pos hc]
        have q := sim46 dc hum w range off sh hn (P := P) (T := t.toInt + 10) (C := C - 480000000 * ((N : Int) - (i + 1))) (L := L - 10 * ((N : Int) - (i + 1))) (by omega) (by omega) (by omega) (fun q => match q with | (t2, seed2, ov2, pl2, mi2, sw2, ch2, fl2, sg2) => f_X1_converse_L17 (nI N) dc hum w n range off sh KX m ((nI i + 1), t2, seed2, ov2, pl2, mi2, sw2, ch2, fl2, sg2)) (fun q => match q with | (sg2, seed2, t2, pl2, mi2, sw2, ch2, ov2, fl2) => f_X10_runUp_L4 dc hum w n range off (nI N) sh KM m (sg2, (nI i + 1), seed2, t2, pl2, mi2, sw2, ch2, ov2, fl2)) go 11 0 t seed ov pl mi sw ch fl sg (by omega) (by omega) ht (by omega) (by omega) (by omega) (by omega)
        rw [nI_0] at q
        exact q
      · rw [if_neg hc, if_neg hc]
        have q := sim46_2 dc hum w range off sh hn (P := P) (T := t.toInt + 10) (C := C - 480000000 * ((N : Int) - (i + 1))) (L := L - 10 * ((N : Int) - (i + 1))) (by omega) (by omega) (by omega) (fun q => match q with | (t2, seed2, ov2, pl2, mi2, sw2, ch2, fl2, sg2) => f_X1_converse_L17 (nI N) dc hum w n range off sh KX m ((nI i + 1), t2, seed2, ov2, pl2, mi2, sw2, ch2, fl2, sg2)) (fun q => match q with | (sg2, seed2, t2, pl2, mi2, sw2, ch2, ov2, fl2) => f_X10_runUp_L4 dc hum w n range off (nI N) sh KM m (sg2, (nI i + 1), seed2, t2, pl2, mi2, sw2, ch2, ov2, fl2)) go 11 0 t seed ov pl mi sw ch fl sg (by omega) (by omega) ht (by omega) (by omega) (by omega) (by omega)
        rw [nI_0] at q
        exact q
