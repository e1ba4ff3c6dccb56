/-! ranges are found alike -/
theorem gB1 {α ρ : Type} {K : α → ρ} {a b : α} {c1 : Prop} [Decidable c1] : gBind (fun k : α → ρ => if c1 then k a else k b) K = K (if c1 then a else b) := by
  unfold gBind
  by_cases h1 : c1 <;> simp only [h1, if_true, if_false, ↓reduceIte]
theorem gB2 {α ρ : Type} {K : α → ρ} {a b d : α} {c1 c2 : Prop} [Decidable c1] [Decidable c2] : gBind (fun k : α → ρ => if c1 then k a else (if c2 then k b else k d)) K = K (if c1 then a else (if c2 then b else d)) := by
  unfold gBind
  by_cases h1 : c1 <;> by_cases h2 : c2 <;> simp only [h1, h2, if_true, if_false, ↓reduceIte]
theorem gB3 {α ρ : Type} {K : α → ρ} {a b d e : α} {c1 c2 c3 : Prop} [Decidable c1] [Decidable c2] [Decidable c3] : gBind (fun k : α → ρ => if c1 then k a else (if c2 then k b else (if c3 then k d else k e))) K = K (if c1 then a else (if c2 then b else (if c3 then d else e))) := by
  unfold gBind
  by_cases h1 : c1 <;> by_cases h2 : c2 <;> by_cases h3 : c3 <;> simp only [h1, h2, h3, if_true, if_false, ↓reduceIte]
theorem gB21 {α ρ : Type} {K : α → ρ} {a b d e : α} {c1 c2 c3 : Prop} [Decidable c1] [Decidable c2] [Decidable c3] : gBind (fun k : α → ρ => if c1 then (if c2 then k a else (if c3 then k b else k d)) else k e) K = K (if c1 then (if c2 then a else (if c3 then b else d)) else e) := by
  unfold gBind
  by_cases h1 : c1 <;> by_cases h2 : c2 <;> by_cases h3 : c3 <;> simp only [h1, h2, h3, if_true, if_false, ↓reduceIte]
theorem gB41 {α ρ : Type} {K : α → ρ} {a b d e f g : α} {c1 c2 c3 c4 c5 : Prop} [Decidable c1] [Decidable c2] [Decidable c3] [Decidable c4] [Decidable c5] : gBind (fun k : α → ρ => if c1 then (if c2 then k a else (if c3 then k b else (if c4 then k d else (if c5 then k e else k f)))) else k g) K = K (if c1 then (if c2 then a else (if c3 then b else (if c4 then d else (if c5 then e else f)))) else g) := by
  unfold gBind
  by_cases h1 : c1 <;> by_cases h2 : c2 <;> by_cases h3 : c3 <;> by_cases h4 : c4 <;> by_cases h5 : c5 <;> simp only [h1, h2, h3, h4, h5, if_true, if_false, ↓reduceIte]
noncomputable def pHigh (cy : Int32) (ov : Bool) (su : Int64) : Bool := if ov = true then true else (if ((210000000 : Int64) * cy.toInt64) < su then true else (if (-su) ≤ ((210000000 : Int64) * cy.toInt64) then false else true))
noncomputable def pLow (cy : Int32) (ov : Bool) (su : Int64) : Bool := if ov = true then false else (if ((15000000 : Int64) * cy.toInt64) ≤ su then false else (if ((15000000 : Int64) * cy.toInt64) ≤ (-su) then false else true))
noncomputable def pGd (au : Bool) (cy r : Int32) (ov : Bool) (su : Int64) : Bool := if au = true then (if r ≤ (0 : Int32) then false else (if pHigh cy ov su = true then true else false)) else false
noncomputable def pGu (au : Bool) (cy r : Int32) (less ov : Bool) (su : Int64) : Bool := if au = true then (if pGd au cy r ov su = true then false else (if (2 : Int32) ≤ r then false else (if less = true then false else (if pLow cy ov su = true then true else false)))) else false
theorem ite_tf (b : Bool) : (if b = true then true else false) = b := by cases b <;> rfl
theorem cyX {N : Nat} (h : 1 ≤ N ∧ N ≤ 50) {q : Nat} (hq : q ≤ 210000000) : (lN q * (nI N).toInt64).toInt = (q * N : Nat) := by
  have h1 : q * N ≤ 210000000 * 50 := Nat.mul_le_mul hq h.2
  rw [nI_l (by omega), lN_mul, lN_T (by omega)]
theorem neg_T {x : Int64} (h : -9223372036854775808 < x.toInt) : (-x).toInt = -x.toInt := by
  have e0 : (0 : Int64).toInt = 0 := by decide
  have hm := gl_max x
  have q : -x = (0 : Int64) - x := (Int64.zero_sub _).symm
  rw [q, gl_sub (by rw [e0]; omega) (by rw [e0]; omega), e0]
  omega
theorem tg_eq {N : Nat} (h : 1 ≤ N ∧ N ≤ 50) (r : Int32) (ov : Bool) (su : Int64) : f_X9_tooGreat (nI N) r ov su = (pGd true (nI N) r ov su, ()) := by
  have e0 : (0 : Int64).toInt = 0 := by decide
  have eX : ((210000000 : Int64) * (nI N).toInt64).toInt = (210000000 * N : Nat) := cyX h (q := 210000000) (by decide)
  rw [f_X9_tooGreat]
  unfold pGd pHigh
  rw [if_pos (rfl : true = true)]
  by_cases h1 : r ≤ 0
  · rw [if_pos h1, if_pos h1]
  · rw [if_neg h1, if_neg h1, ite_tf]
    by_cases h2 : ov = true
    · rw [if_pos h2, if_pos h2]
    · rw [if_neg h2, if_neg h2]
      generalize (210000000 : Int64) * (nI N).toInt64 = X at eX ⊢
      unfold gAbsL
      by_cases h3 : 0 < su
      · have i3 := gl_lt.mp h3
        rw [e0] at i3
        rw [if_pos h3]
        have i5 : -su ≤ X := gl_le.mpr (by rw [neg_T (by omega), eX]; omega)
        rw [if_pos i5]
        by_cases h4 : su ≤ X
        · have i4 := gl_le.mp h4
          rw [if_pos h4, if_neg (fun q => by have := gl_lt.mp q; omega)]
        · rw [if_neg h4, if_pos (gl_lt.mpr (Int.not_le.mp (fun q => h4 (gl_le.mpr q))))]
      · have i3 : ¬ (0 : Int64).toInt < su.toInt := fun q => h3 (gl_lt.mpr q)
        rw [e0] at i3
        have n1 : ¬ X < su := fun q => by have := gl_lt.mp q; rw [eX] at this; omega
        rw [if_neg h3, if_neg n1]
        by_cases h4 : -su ≤ X
        · rw [if_pos h4, if_pos h4]
        · rw [if_neg h4, if_neg h4]
theorem ts_eq {N : Nat} (h : 1 ≤ N ∧ N ≤ 50) (r : Int32) (ov : Bool) (su : Int64) : f_X9_tooSmall (nI N) r ov su = ((if (2 : Int32) ≤ r then false else pLow (nI N) ov su), ()) := by
  have e0 : (0 : Int64).toInt = 0 := by decide
  have eX : ((15000000 : Int64) * (nI N).toInt64).toInt = (15000000 * N : Nat) := cyX h (q := 15000000) (by decide)
  rw [f_X9_tooSmall]
  unfold pLow
  by_cases h1 : (2 : Int32) ≤ r
  · rw [if_pos h1, if_pos h1]
  · rw [if_neg h1, if_neg h1]
    by_cases h2 : ov = true
    · rw [if_pos h2, if_pos h2]
    · rw [if_neg h2, if_neg h2]
      generalize (15000000 : Int64) * (nI N).toInt64 = X at eX ⊢
      unfold gAbsL
      by_cases h3 : 0 < su
      · have i3 := gl_lt.mp h3
        rw [e0] at i3
        rw [if_pos h3]
        have i5 : ¬ X ≤ -su := fun q => by have := gl_le.mp q; rw [neg_T (by omega), eX] at this; omega
        rw [if_neg i5]
        by_cases h4 : X ≤ su
        · rw [if_pos h4, if_pos h4]
        · rw [if_neg h4, if_neg h4]
      · have i3 : ¬ (0 : Int64).toInt < su.toInt := fun q => h3 (gl_lt.mpr q)
        rw [e0] at i3
        have n1 : ¬ X ≤ su := fun q => by have := gl_le.mp q; rw [eX] at this; omega
        rw [if_neg h3, if_neg n1]
        by_cases h4 : X ≤ -su
        · rw [if_pos h4, if_pos h4]
        · rw [if_neg h4, if_neg h4]

/-- what finding a range comes to -/
def pFR (conv : Int32) (t0 : Int64) (x : (Int32 × Int32 × Int64 × Int32 × Int32 × Int64 × Int32 × Int32 × Bool × Int32 × Bool × Int32 × Int32 × Int32 × Int64 × Int64 × Int64 × Int32 × (Nat → Int32))) (m : (Int32 × (Int64 × Int64 × Int32 × Int32 × Bool × Int32 × Int32 × Int32 × Int64 × Bool × Int64 × Int64 × Bool × Int32 × Int32 × Int32 × Int32 × Int32 × (Nat → Int32)))) : Prop := ∃ (j : Nat) (ups downs : Int32) (t : Int64) (sh : Int32) (seed : Int64) (range off rt : Int32) (ov : Bool) (pl mi sw : Int32) (ch su fl : Int64) (sg : Int32) (cnt : Nat → Int32),
  x = (ups, downs, t, conv + nI j, sh, seed, range, off, false, rt, ov, pl, mi, sw, ch, su, fl, sg, cnt) ∧ m = (nI j, (seed, t, range, off, true, pl, mi, sw, ch, ov, su, fl, false, rt, conv + nI j, sh, ups, downs, cnt)) ∧ 1 ≤ j ∧ j ≤ 7 ∧ vp_in range 3 ∧ t0.toInt ≤ t.toInt ∧ t.toInt ≤ t0.toInt + 5000 * j ∧ (-200000000000 ≤ su.toInt ∧ su.toInt ≤ 200000000000)
noncomputable def frK (q : (Int32 × Int64 × Int64 × Int32 × Int32 × Bool × Int32 × Int32 × Int32 × Int64 × Bool × Int64 × Int64 × Bool × Int32 × Int32 × Int32 × Int32 × Int32 × (Nat → Int32))) : (Int32 × (Int64 × Int64 × Int32 × Int32 × Bool × Int32 × Int32 × Int32 × Int64 × Bool × Int64 × Int64 × Bool × Int32 × Int32 × Int32 × Int32 × Int32 × (Nat → Int32))) := match q with | (l1, seed, t, range, off, wc, pl, mi, sw, ch, ov, su, fl, ws, rt, cv, sh, mm, ml, f) => (l1, (seed, t, range, off, wc, pl, mi, sw, ch, ov, su, fl, ws, rt, cv, sh, mm, ml, f))
set_option maxHeartbeats 2000000 in
theorem fr_sim (dc hum w : Int32) {n : Int32} (au : Bool) (creep : Int32) {N : Nat} (hN : 1 ≤ N ∧ N ≤ 50) (hn : 0 ≤ n.toInt ∧ n.toInt ≤ 10000) (KX : (Int32 × Int32 × Int64 × Int32 × Int32 × Int64 × Int32 × Int32 × Bool × Int32 × Bool × Int32 × Int32 × Int32 × Int64 × Int64 × Int64 × Int32 × (Nat → Int32)) → (Int32 × Int32 × Int64 × Int32 × Int32 × Int64 × Int32 × Int32 × Bool × Int32 × Bool × Int32 × Int32 × Int32 × Int64 × Int64 × Int64 × Int32 × (Nat → Int32))) (conv0 : Int32) (t0 : Int64) (h0 : 0 ≤ t0.toInt ∧ t0.toInt ≤ 90000000000000) :
    ∀ (d i mX mM : Nat) (less : Bool) (ups downs : Int32) (t : Int64) (sh : Int32) (seed : Int64) (range off : Int32) (cs : Bool) (cr : Int32) (ov : Bool) (pl mi sw : Int32) (ch su fl : Int64) (sg : Int32) (cnt : Nat → Int32) (wc : Bool) (pl2 mi2 sw2 : Int32) (ch2 : Int64) (ov2 : Bool) (su2 fl2 : Int64) (cs2 : Bool) (cr2 : Int32),
      frMu range less true ≤ d → i + d ≤ 7 → d < mX → d < mM → vp_in range 3 → t0.toInt ≤ t.toInt → t.toInt ≤ t0.toInt + 5000 * i →
      pFR conv0 t0 (f_X9_findRange_L4 au (nI N) dc hum w n creep KX mX (bI less, nI i, ups, downs, t, conv0 + nI i, sh, seed, range, off, cs, cr, ov, pl, mi, sw, ch, su, fl, sg, cnt)) (f_X10_findRange_L6 dc hum w n au creep (nI N) frK mM (nI i, less, true, seed, t, range, off, wc, pl2, mi2, sw2, ch2, ov2, su2, fl2, cs2, cr2, conv0 + nI i, sh, ups, downs, cnt)) := by
  intro d
  induction d with
  | zero =>
    intro i mX mM less ups downs t sh seed range off cs cr ov pl mi sw ch su fl sg cnt wc pl2 mi2 sw2 ch2 ov2 su2 fl2 cs2 cr2 hd
    exfalso
    unfold frMu at hd
    rw [if_pos rfl] at hd
    split at hd <;> omega
  | succ d ih =>
    intro i mX mM less ups downs t sh seed range off cs cr ov pl mi sw ch su fl sg cnt wc pl2 mi2 sw2 ch2 ov2 su2 fl2 cs2 cr2 hd hi hX hM hr ht1 ht2
    cases mX with
    | zero => omega
    | succ mX =>
    cases mM with
    | zero => omega
    | succ mM =>
    obtain ⟨t', seed', off', ov', pl', mi', sw', ch', su', fl', sg', cnt', hx, hm, hb1, hb2, hb3, hb4⟩ := conv_eq dc hum w seed (t0 := t) range off creep (conv0 + nI i) sh cnt false hN.2 hn ⟨by omega, by omega⟩
    have ec : conv0 + nI i + 1 = conv0 + nI (i + 1) := by rw [Int32.add_assoc, nI_1]
    rw [ec] at hx hm
    simp only [Bool.false_eq_true, if_false, ↓reduceIte] at hx hm
    have h8 : ¬ (8 : Int32) ≤ nI i := by
      have e : (8 : Int32) = nI 8 := by decide
      rw [e]
      exact nI_ge (by omega) (by decide)
    have ei : nI i + 1 = nI (i + 1) := nI_1 i
    have hmM : ∃ mm, mM = mm + 1 := by
      cases mM with
      | zero => omega
      | succ mm => exact ⟨mm, rfl⟩
    -- the reference's step
    have sM : f_X10_findRange_L6 dc hum w n au creep (nI N) frK (mM + 1) (nI i, less, true, seed, t, range, off, wc, pl2, mi2, sw2, ch2, ov2, su2, fl2, cs2, cr2, conv0 + nI i, sh, ups, downs, cnt) = f_X10_findRange_L6 dc hum w n au creep (nI N) frK mM (nI (i + 1), (if less = true then true else (if pGd au (nI N) range ov' su' = true then true else false)), (if pGd au (nI N) range ov' su' = true then true else (if pGu au (nI N) range less ov' su' = true then true else false)), seed', t', range + (if pGd au (nI N) range ov' su' = true then (-1 : Int32) else (if pGu au (nI N) range less ov' su' = true then (1 : Int32) else (0 : Int32))), off', true, pl', mi', sw', ch', ov', su', fl', false, range, conv0 + nI (i + 1), sh, ups + bI (if pGu au (nI N) range less ov' su' = true then true else false), downs + bI (if pGd au (nI N) range ov' su' = true then true else false), cnt') := by
      rw [f_X10_findRange_L6, if_pos rfl, hm]
      dsimp only
      rw [gB3, gB3, gB21, gB41, gB2, gB1, gB1, gB2, gB2, ei]
      rfl
    have sX : f_X9_findRange_L4 au (nI N) dc hum w n creep KX (mX + 1) (bI less, nI i, ups, downs, t, conv0 + nI i, sh, seed, range, off, cs, cr, ov, pl, mi, sw, ch, su, fl, sg, cnt) = (if au = true then (if pGd true (nI N) range ov' su' = true then f_X9_findRange_L4 au (nI N) dc hum w n creep KX mX (bI true, nI (i + 1), ups, downs + 1, t', conv0 + nI (i + 1), sh, seed', range - 1, off', false, range, ov', pl', mi', sw', ch', su', fl', sg', cnt') else (if bI less = (0 : Int32) then (if (if (2 : Int32) ≤ range then false else pLow (nI N) ov' su') = true then f_X9_findRange_L4 au (nI N) dc hum w n creep KX mX (bI less, nI (i + 1), ups + 1, downs, t', conv0 + nI (i + 1), sh, seed', range + 1, off', false, range, ov', pl', mi', sw', ch', su', fl', sg', cnt') else (ups, downs, t', conv0 + nI (i + 1), sh, seed', range, off', false, range, ov', pl', mi', sw', ch', su', fl', sg', cnt')) else (ups, downs, t', conv0 + nI (i + 1), sh, seed', range, off', false, range, ov', pl', mi', sw', ch', su', fl', sg', cnt'))) else (ups, downs, t', conv0 + nI (i + 1), sh, seed', range, off', false, range, ov', pl', mi', sw', ch', su', fl', sg', cnt')) := by
      rw [f_X9_findRange_L4, if_neg h8, hx]
      dsimp only
      rw [tg_eq hN, ts_eq hN, ei]
      rfl
    -- an end: the reference takes one more turn, which only leaves
    have fin : pGd au (nI N) range ov' su' = false → pGu au (nI N) range less ov' su' = false → pFR conv0 t0 (ups, downs, t', conv0 + nI (i + 1), sh, seed', range, off', false, range, ov', pl', mi', sw', ch', su', fl', sg', cnt') (f_X10_findRange_L6 dc hum w n au creep (nI N) frK (mM + 1) (nI i, less, true, seed, t, range, off, wc, pl2, mi2, sw2, ch2, ov2, su2, fl2, cs2, cr2, conv0 + nI i, sh, ups, downs, cnt)) := by
      intro g1 g2
      obtain ⟨mm, rfl⟩ := hmM
      rw [sM, g1, g2]
      simp only [Bool.false_eq_true, if_false, ↓reduceIte, bI_0, Int32.add_zero]
      rw [f_X10_findRange_L6, if_neg (by decide)]
      exact ⟨i + 1, ups, downs, t', sh, seed', range, off', range, ov', pl', mi', sw', ch', su', fl', sg', cnt', rfl, rfl, by omega, by omega, hr, by omega, by omega, hb3⟩
    have hv := vp_in_iff.mp hr
    rw [sX]
    by_cases ha : au = true
    · subst ha
      rw [if_pos rfl]
      by_cases g1 : pGd true (nI N) range ov' su' = true
      · rw [if_pos g1, sM, g1]
        simp only [if_true, ↓reduceIte]
        have hpos : 0 < range.toInt := by
          unfold pGd at g1
          rw [if_pos rfl] at g1
          by_cases q : range ≤ 0
          · rw [if_pos q] at g1; exact absurd g1 (by decide)
          · exact gi_nle q rfl (by decide)
        have g2 : pGu true (nI N) range less ov' su' = false := by
          unfold pGu
          rw [if_pos rfl, if_pos g1]
        rw [g2]
        simp only [Bool.false_eq_true, if_false, ↓reduceIte, bI_0, bI_1]
        have el : (if less = true then true else true) = true := by split <;> rfl
        rw [el]
        have er : range + (-1 : Int32) = range - 1 := by rw [Int32.sub_eq_add_neg]
        rw [er]
        have dd := fr_dec (r := range) (d := (-1 : Int32)) (gd := true) (gu := false) (l2 := less) (ls' := true) (mo' := true) hr (fun _ => hpos) (fun q => absurd q (by decide)) (Or.inl ⟨rfl, rfl⟩) ⟨fun _ => rfl, fun _ => rfl, fun q => absurd rfl q⟩ (fun _ => Or.inl rfl)
        rw [er] at dd
        exact ih (i + 1) mX mM true ups (downs + 1) t' sh seed' (range - 1) off' _ _ _ _ _ _ _ _ _ _ _ _ _ _ _ _ _ _ _ _ _ (by omega) (by omega) (by omega) (by omega) dd.1 (by omega) (by omega)
      · have g1f : pGd true (nI N) range ov' su' = false := by
          cases hh : pGd true (nI N) range ov' su' with
          | true => exact absurd hh g1
          | false => rfl
        rw [if_neg g1]
        cases less with
        | true =>
          rw [if_neg (by decide : ¬ bI true = (0 : Int32))]
          exact fin g1f (by unfold pGu; rw [if_pos rfl, if_neg g1]; split <;> rfl)
        | false =>
          rw [if_pos (by decide : bI false = (0 : Int32))]
          by_cases h2 : (2 : Int32) ≤ range
          · rw [if_pos h2, if_neg (by decide)]
            exact fin g1f (by unfold pGu; rw [if_pos rfl, if_neg g1, if_pos h2])
          · rw [if_neg h2]
            have i2 := gi_nle h2 (by decide : (2 : Int32).toInt = 2) rfl
            have eu : pGu true (nI N) range false ov' su' = pLow (nI N) ov' su' := by
              unfold pGu
              rw [if_pos rfl, if_neg g1, if_neg h2, if_neg (by decide), ite_tf]
            by_cases hl : pLow (nI N) ov' su' = true
            · rw [if_pos hl, sM, g1f, eu, hl]
              simp only [Bool.false_eq_true, if_false, if_true, ↓reduceIte, bI_0, bI_1]
              have dd := fr_dec (r := range) (d := (1 : Int32)) (gd := false) (gu := true) (l2 := false) (ls' := false) (mo' := true) hr (fun q => absurd q (by decide)) (fun _ => ⟨by omega, by decide⟩) (Or.inr (Or.inl ⟨by decide, rfl, rfl⟩)) ⟨fun q => absurd q (by decide), fun q => absurd q (by decide), fun _ q => absurd q (by decide)⟩ (fun _ => Or.inr rfl)
              exact ih (i + 1) mX mM false (ups + 1) downs t' sh seed' (range + 1) off' _ _ _ _ _ _ _ _ _ _ _ _ _ _ _ _ _ _ _ _ _ (by omega) (by omega) (by omega) (by omega) dd.1 (by omega) (by omega)
            · rw [if_neg hl]
              exact fin g1f (by rw [eu]; cases hh : pLow (nI N) ov' su' with | true => exact absurd hh hl | false => rfl)
    · rw [if_neg ha]
      exact fin (by unfold pGd; rw [if_neg ha]) (by unfold pGu; rw [if_neg ha])
theorem fr_6 {r : Int32} (h : vp_in r 3) : frMu r false true ≤ 6 := by
  have h1 := vp_in_iff.mp h
  unfold frMu
  rw [if_pos rfl, if_neg (by decide)]
  omega
