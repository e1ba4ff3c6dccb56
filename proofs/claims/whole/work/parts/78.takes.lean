/-! a letter: both readers take it alike -/
theorem most_no {p : Int32} (h1 : p ≠ 65) (h2 : ¬ pNA p) : f_X6_most p = (-1, ()) := by
  rw [f_X6_most]
  by_cases h65 : p = 65
  · exact absurd h65 h1
  rw [if_neg h65]
  by_cases h66 : p = 66
  · rw [if_pos h66]
  rw [if_neg h66]
  by_cases h67 : p = 67
  · rw [if_pos h67]
  rw [if_neg h67]
  by_cases h68 : p = 68
  · exact absurd (Or.inl h68) h2
  rw [if_neg h68]
  by_cases h69 : p = 69
  · rw [if_pos h69]
  rw [if_neg h69]
  by_cases h70 : p = 70
  · exact absurd (Or.inr (Or.inl h70)) h2
  rw [if_neg h70]
  by_cases h71 : p = 71
  · exact absurd (Or.inr (Or.inr (Or.inl h71))) h2
  rw [if_neg h71]
  by_cases h72 : p = 72
  · rw [if_pos h72]
  rw [if_neg h72]
  by_cases h73 : p = 73
  · rw [if_pos h73]
  rw [if_neg h73]
  by_cases h74 : p = 74
  · rw [if_pos h74]
  rw [if_neg h74]
  by_cases h75 : p = 75
  · rw [if_pos h75]
  rw [if_neg h75]
  by_cases h76 : p = 76
  · rw [if_pos h76]
  rw [if_neg h76]
  by_cases h77 : p = 77
  · rw [if_pos h77]
  rw [if_neg h77]
  by_cases h78 : p = 78
  · exact absurd (Or.inr (Or.inr (Or.inr (Or.inl h78)))) h2
  rw [if_neg h78]
  by_cases h79 : p = 79
  · rw [if_pos h79]
  rw [if_neg h79]
  by_cases h80 : p = 80
  · rw [if_pos h80]
  rw [if_neg h80]
  by_cases h81 : p = 81
  · rw [if_pos h81]
  rw [if_neg h81]
  by_cases h82 : p = 82
  · exact absurd (Or.inr (Or.inr (Or.inr (Or.inr (Or.inl h82))))) h2
  rw [if_neg h82]
  by_cases h83 : p = 83
  · rw [if_pos h83]
  rw [if_neg h83]
  by_cases h84 : p = 84
  · rw [if_pos h84]
  rw [if_neg h84]
  by_cases h85 : p = 85
  · rw [if_pos h85]
  rw [if_neg h85]
  by_cases h86 : p = 86
  · rw [if_pos h86]
  rw [if_neg h86]
  by_cases h87 : p = 87
  · exact absurd (Or.inr (Or.inr (Or.inr (Or.inr (Or.inr (Or.inl h87)))))) h2
  rw [if_neg h87]
  by_cases h88 : p = 88
  · rw [if_pos h88]
  rw [if_neg h88]
  by_cases h89 : p = 89
  · rw [if_pos h89]
  rw [if_neg h89]
  by_cases h90 : p = 90
  · exact absurd (Or.inr (Or.inr (Or.inr (Or.inr (Or.inr (Or.inr (h90))))))) h2
  rw [if_neg h90]
theorem isc_no {p : Int32} (h1 : p ≠ 65) (h2 : ¬ pNA p) : f_X10_isCommand p = (false, ()) := by
  rw [f_X10_isCommand]
  by_cases h78 : p = 78
  · exact absurd (Or.inr (Or.inr (Or.inr (Or.inl h78)))) h2
  rw [if_neg h78]
  by_cases h82 : p = 82
  · exact absurd (Or.inr (Or.inr (Or.inr (Or.inr (Or.inl h82))))) h2
  rw [if_neg h82]
  by_cases h65 : p = 65
  · exact absurd h65 h1
  rw [if_neg h65]
  by_cases h90 : p = 90
  · exact absurd (Or.inr (Or.inr (Or.inr (Or.inr (Or.inr (Or.inr (h90))))))) h2
  rw [if_neg h90]
  by_cases h70 : p = 70
  · exact absurd (Or.inr (Or.inl h70)) h2
  rw [if_neg h70]
  by_cases h87 : p = 87
  · exact absurd (Or.inr (Or.inr (Or.inr (Or.inr (Or.inr (Or.inl h87)))))) h2
  rw [if_neg h87]
  by_cases h68 : p = 68
  · exact absurd (Or.inl h68) h2
  rw [if_neg h68]
  by_cases h71 : p = 71
  · exact absurd (Or.inr (Or.inr (Or.inl h71))) h2
  rw [if_neg h71]
theorem isc_yes {p : Int32} (h : pNA p) : f_X10_isCommand p = (true, ()) := by
  rcases h with rfl | rfl | rfl | rfl | rfl | rfl | rfl <;> rfl
theorem isc_A : f_X10_isCommand 65 = (true, ()) := rfl
theorem fig_A (fi nu p : Int32) (ib : Bool) : f_X10_takesFigure 65 fi nu ib p = (false, (fi, nu)) := by
  rw [f_X10_takesFigure]
  unfold gBind
  dsimp only
  simp only [if_true, ↓reduceIte, Bool.false_eq_true, if_false]
  by_cases c1 : fi = 0
  · simp only [if_pos c1]
    by_cases c2 : ib = true
    · simp only [if_pos c2]
      by_cases c3 : p ≤ (0 : Int32)
      · simp only [if_pos c3]
      · simp only [if_neg c3]
    · simp only [if_neg c2]
  · simp only [if_neg c1]
    by_cases c3 : nu ≤ (0 : Int32)
    · simp only [if_pos c3]
    · simp only [if_neg c3]
/-- a letter that is no figure, no minus and no end -/
theorem tM_no {cm fi nu p : Int32} {ib : Bool} (h0 : cm ≠ 0) (h1 : ¬ (48 ≤ p.toInt ∧ p.toInt ≤ 57)) (h2 : p ≠ 45) (h3 : p ≠ 59) : f_X10_takes cm fi nu ib p = (false, (cm, fi, nu, ib)) := by
  have e1 : (48 : Int32).toInt = 48 := by decide
  have e2 : (57 : Int32).toInt = 57 := by decide
  rw [f_X10_takes, if_neg h0, wi_f (by rw [e1, e2]; exact h1)]
  dsimp only
  rw [if_neg (by decide), if_neg h2, if_neg h3]
theorem tM_fig {cm fi nu : Int32} {ib : Bool} {v : Nat} (h0 : cm ≠ 0) (hv : v ≤ 9) {r : Bool} {fi' nu' : Int32} (hf : f_X10_takesFigure cm fi nu ib (nI v) = (r, (fi', nu'))) : f_X10_takes cm fi nu ib (nI (48 + v)) = (r, (cm, fi', nu', ib)) := by
  have e1 : (48 : Int32).toInt = 48 := by decide
  have e2 : (57 : Int32).toInt = 57 := by decide
  have e48 : (48 : Int32) = nI 48 := by decide
  have ev : (nI (48 + v)).toInt = 48 + (v : Int) := by rw [nI_toInt (by omega)]; omega
  have e9 : 48 + v - 48 = v := by omega
  rw [f_X10_takes, if_neg h0, wi_t (by omega) (by omega)]
  dsimp only
  rw [if_pos rfl, e48, pk_sub (by omega), e9, hf]
theorem tM_min {cm fi nu : Int32} {ib : Bool} (h0 : cm ≠ 0) (h : ¬ (cm = 68 ∧ fi = 0 ∧ ib = false)) : f_X10_takes cm fi nu ib 45 = (false, (cm, fi, nu, ib)) := by
  rw [f_X10_takes, if_neg h0, wi_f (by decide)]
  dsimp only
  unfold gBind
  dsimp only
  rw [if_neg (by decide), if_pos rfl]
  by_cases c1 : cm = 68
  · by_cases c2 : fi = 0
    · have c3 : ib = true := by
        cases ib with
        | true => rfl
        | false => exact absurd ⟨c1, c2, rfl⟩ h
      subst c3
      simp only [if_pos c1, if_pos c2, if_true, ↓reduceIte]
    · cases ib with
      | true => simp only [if_pos c1, if_neg c2, if_true, ↓reduceIte]
      | false => simp only [if_pos c1, if_neg c2, if_false, ↓reduceIte, Bool.false_eq_true]
  · cases ib with
    | true => simp only [if_neg c1, if_true, ↓reduceIte]
    | false => simp only [if_neg c1, if_false, ↓reduceIte, Bool.false_eq_true]
theorem fig_of {p : Int32} (h : 48 ≤ p.toInt ∧ p.toInt ≤ 57) : ∃ v : Nat, v ≤ 9 ∧ p = nI (48 + v) := by
  obtain ⟨k, k1, k2, k3⟩ := nI_of' (x := p) (by omega)
  refine ⟨k - 48, by omega, ?_⟩
  have e : 48 + (k - 48) = k := by omega
  rw [e, k2]
theorem ne_59 {v : Nat} (hv : v ≤ 9) : nI (48 + v) ≠ (45 : Int32) ∧ nI (48 + v) ≠ (59 : Int32) := by
  have e45 : (45 : Int32) = nI 45 := by decide
  have e59 : (59 : Int32) = nI 59 := by decide
  rw [e45, e59]
  exact ⟨fun q => by have := (nI_eq (by omega) (by omega)).mp q; omega, fun q => by have := (nI_eq (by omega) (by omega)).mp q; omega⟩
theorem lN_0' : (0 : Int64) = lN 0 := by decide
set_option maxHeartbeats 1000000 in
theorem tk_ne {P : Nat} {st : Int32} {be : Bool} {am : Int64} {co cm fi nu : Int32} {ib : Bool} (h : pP P st be am co cm fi nu ib) (hP : P ≤ 100) {p : Int32} (hp : p ≠ 59) :
    ∃ (r : Bool) (st' : Int32) (be' : Bool) (am' : Int64) (co' cm' fi' nu' : Int32) (ib' : Bool), f_X6_takes st be am co p = (r, (st', be', am', co')) ∧ f_X10_takes cm fi nu ib p = (r, (cm', fi', nu', ib')) ∧ pP (P + 1) st' be' am' co' cm' fi' nu' ib' := by
  rcases h with ⟨rfl, rfl⟩ | ⟨rfl, rfl, rfl, hc, rfl, rfl, rfl, rfl⟩ | ⟨rfl, rfl, rfl, rfl, rfl, rfl, rfl, rfl⟩ | ⟨k, a, M, rfl, rfl, hc, rfl, rfl, rfl, rfl, hk0, hk, ha0, ha, hM0, hM, hM2, hbe⟩ | ⟨rfl, rfl, rfl, rfl, rfl, rfl, hh⟩
  · -- a command
    rw [f_X6_takes, if_pos rfl, f_X6_takesCommand, f_X10_takes, if_pos rfl, f_X10_beginsWith]
    by_cases h65 : p = 65
    · subst h65
      exact ⟨true, 4, false, 0, 65, 65, 0, 0, false, rfl, rfl, Or.inr (Or.inr (Or.inr (Or.inr ⟨rfl, rfl, rfl, rfl, rfl, rfl, Or.inl ⟨rfl, rfl⟩⟩)))⟩
    · by_cases hn : pNA p
      · obtain ⟨M, m1, m2, m3, m4, m5, m6, m7⟩ := na_f hn
        rw [m1, isc_yes hn]
        dsimp only
        rw [if_pos (nI_pos' (by omega)), if_neg h65]
        unfold gBind
        dsimp only
        rw [if_pos rfl, if_neg m5]
        exact ⟨true, 1, false, 0, p, p, 0, 0, false, rfl, rfl, Or.inr (Or.inl ⟨rfl, rfl, rfl, hn, rfl, rfl, rfl, rfl⟩)⟩
      · rw [most_no h65 hn, isc_no h65 hn]
        dsimp only
        rw [if_neg (by decide)]
        unfold gBind
        dsimp only
        rw [if_neg (by decide), if_pos rfl]
        exact ⟨false, 0, be, am, co, 0, 0, 0, false, rfl, rfl, Or.inl ⟨rfl, rfl⟩⟩
  · -- a number begins
    obtain ⟨M, m1, m2, m3, m4, m5, m6, m7⟩ := na_f hc
    obtain ⟨L, l1, l2, l3, l4⟩ := na_l hc
    rw [f_X6_takes, if_neg (by decide), if_pos rfl]
    by_cases h45 : p = 45
    · subst h45
      rw [if_pos rfl, f_X6_takesMinus, l1]
      dsimp only
      by_cases h68 : cm = 68
      · rw [l3 h68, if_pos (by decide)]
        subst h68
        exact ⟨true, 2, true, 0, 68, 68, 0, 0, true, rfl, rfl, Or.inr (Or.inr (Or.inl ⟨rfl, rfl, rfl, rfl, rfl, rfl, rfl, rfl⟩))⟩
      · have i := l4 h68
        rw [if_neg (fun q => by have := gi_lt q rfl (by decide : (0 : Int32).toInt = 0); omega), tM_min m5 (fun q => h68 q.1)]
        exact ⟨false, 1, false, 0, cm, cm, 0, 0, false, rfl, rfl, Or.inr (Or.inl ⟨rfl, rfl, rfl, hc, rfl, rfl, rfl, rfl⟩)⟩
    · rw [if_neg h45]
      by_cases hf : 48 ≤ p.toInt ∧ p.toInt ≤ 57
      · obtain ⟨v, hv, rfl⟩ := fig_of hf
        have fX := fig_X (st := 1) (be := false) (a := 0) (v := v) hc hv m1 m4 (by omega) (fun q => absurd q (by decide))
        have fM := fig_M (co := cm) (fi := 0) (ib := false) (a := 0) (v := v) hv m6 m2 m4 (by omega) true rfl
        rw [← lN_0'] at fX
        rw [nI_0] at fM
        rw [fX]
        by_cases hle : 0 * 10 + v ≤ M
        · rw [if_pos hle]
          rw [if_pos ⟨rfl, hle⟩] at fM
          rw [tM_fig m5 hv fM]
          have e1 : (0 : Int32) + 1 = nI 1 := by decide
          have ez : 0 * 10 + v = v := by omega
          rw [e1, ez]
          by_cases hv0 : v = 0
          · subst hv0
            rw [if_pos rfl]
            exact ⟨true, 4, false, 0, cm, cm, nI 1, 0, false, rfl, rfl, Or.inr (Or.inr (Or.inr (Or.inr ⟨rfl, rfl, rfl, rfl, rfl, rfl, Or.inr ⟨hc, 1, rfl, by omega, by omega⟩⟩)))⟩
          · rw [if_neg hv0]
            exact ⟨true, 3, false, lN v, cm, cm, nI 1, nI v, false, rfl, rfl, Or.inr (Or.inr (Or.inr (Or.inl ⟨1, v, M, rfl, rfl, hc, rfl, rfl, rfl, rfl, by omega, by omega, by omega, by omega, m4, m1, m2, fun q => absurd q (by decide)⟩)))⟩
        · rw [if_neg hle]
          rw [if_neg (fun q => hle q.2)] at fM
          rw [tM_fig m5 hv fM]
          exact ⟨false, 1, false, 0, cm, cm, 0, 0, false, rfl, rfl, Or.inr (Or.inl ⟨rfl, rfl, rfl, hc, rfl, rfl, rfl, rfl⟩)⟩
      · rw [fig_no hf, tM_no m5 hf h45 hp]
        exact ⟨false, 1, false, 0, cm, cm, 0, 0, false, rfl, rfl, Or.inr (Or.inl ⟨rfl, rfl, rfl, hc, rfl, rfl, rfl, rfl⟩)⟩
  · -- behind a minus
    have hc : pNA 68 := Or.inl rfl
    have m1 : f_X6_most 68 = (nI 25000000, ()) := rfl
    have m2 : f_X10_mostOf 68 = (nI 25000000, ()) := rfl
    have same : pP (P + 1) 2 true 0 68 68 0 0 true := Or.inr (Or.inr (Or.inl ⟨rfl, rfl, rfl, rfl, rfl, rfl, rfl, rfl⟩))
    rw [f_X6_takes, if_neg (by decide), if_neg (by decide), if_pos rfl]
    by_cases h48 : p = 48
    · subst h48
      have fM := fig_M (co := 68) (fi := 0) (ib := true) (a := 0) (v := 0) (by omega) (by decide) m2 (by omega) (by omega) false rfl
      rw [if_neg (fun q => absurd q.1 (by decide)), nI_0] at fM
      have t := tM_fig (cm := 68) (v := 0) (by decide) (by omega) fM
      have e48 : nI (48 + 0) = 48 := by decide
      rw [e48] at t
      rw [if_pos rfl, t]
      exact ⟨false, 2, true, 0, 68, 68, 0, 0, true, rfl, rfl, same⟩
    · rw [if_neg h48]
      by_cases hf : 48 ≤ p.toInt ∧ p.toInt ≤ 57
      · obtain ⟨v, hv, rfl⟩ := fig_of hf
        have hv0 : 0 < v := by
          rcases Nat.eq_zero_or_pos v with q | q
          · exact absurd (by rw [q]; decide) h48
          · exact q
        have fX := fig_X (st := 2) (be := true) (a := 0) (v := v) hc hv m1 (by omega) (by omega) (fun _ => rfl)
        have fM := fig_M (co := 68) (fi := 0) (ib := true) (a := 0) (v := v) hv (by decide) m2 (by omega) (by omega) true (by rw [if_pos rfl, if_pos rfl, if_neg (nI_nle hv0 (by omega))])
        rw [← lN_0'] at fX
        rw [nI_0, if_pos ⟨rfl, by omega⟩] at fM
        rw [fX, if_pos (by omega), tM_fig (by decide) hv fM]
        have e1 : (0 : Int32) + 1 = nI 1 := by decide
        have ez : 0 * 10 + v = v := by omega
        rw [e1, ez, if_neg (by omega)]
        exact ⟨true, 3, true, lN v, 68, 68, nI 1, nI v, true, rfl, rfl, Or.inr (Or.inr (Or.inr (Or.inl ⟨1, v, 25000000, rfl, rfl, hc, rfl, rfl, rfl, rfl, by omega, by omega, by omega, by omega, by omega, m1, m2, fun _ => rfl⟩)))⟩
      · rw [fig_no hf]
        by_cases h45 : p = 45
        · subst h45
          rw [tM_min (by decide) (fun q => absurd q.2.2 (by decide))]
          exact ⟨false, 2, true, 0, 68, 68, 0, 0, true, rfl, rfl, same⟩
        · rw [tM_no (by decide) hf h45 hp]
          exact ⟨false, 2, true, 0, 68, 68, 0, 0, true, rfl, rfl, same⟩
  · -- in a number
    obtain ⟨M', m1, m2, m3, m4, m5, m6, m7⟩ := na_f hc
    have same : pP (P + 1) 3 ib (lN a) cm cm (nI k) (nI a) ib := Or.inr (Or.inr (Or.inr (Or.inl ⟨k, a, M, rfl, rfl, hc, rfl, rfl, rfl, rfl, hk0, by omega, ha0, ha, hM0, hM, hM2, hbe⟩)))
    rw [f_X6_takes, if_neg (by decide), if_neg (by decide), if_neg (by decide), if_pos rfl, if_neg hp]
    have kz : nI k ≠ 0 := nI_ne0 hk0 (by omega)
    by_cases hf : 48 ≤ p.toInt ∧ p.toInt ≤ 57
    · obtain ⟨v, hv, rfl⟩ := fig_of hf
      have fX := fig_X (st := 3) (be := ib) (a := a) (v := v) hc hv hM hM0 ha hbe
      have fM := fig_M (co := cm) (fi := nI k) (ib := ib) (a := a) (v := v) hv m6 hM2 hM0 ha true (by rw [if_neg kz, if_neg (nI_nle ha0 (by omega))])
      rw [fX]
      by_cases hle : a * 10 + v ≤ M
      · rw [if_pos ⟨rfl, hle⟩] at fM
        rw [if_pos hle, if_neg (by omega), tM_fig m5 hv fM, nI_1]
        exact ⟨true, 3, ib, lN (a * 10 + v), cm, cm, nI (k + 1), nI (a * 10 + v), ib, rfl, rfl, Or.inr (Or.inr (Or.inr (Or.inl ⟨k + 1, a * 10 + v, M, rfl, rfl, hc, rfl, rfl, rfl, rfl, by omega, by omega, by omega, hle, hM0, hM, hM2, hbe⟩)))⟩
      · rw [if_neg (fun q => hle q.2)] at fM
        rw [if_neg hle, tM_fig m5 hv fM]
        exact ⟨false, 3, ib, lN a, cm, cm, nI k, nI a, ib, rfl, rfl, same⟩
    · rw [fig_no hf]
      by_cases h45 : p = 45
      · subst h45
        rw [tM_min m5 (fun q => kz q.2.1)]
        exact ⟨false, 3, ib, lN a, cm, cm, nI k, nI a, ib, rfl, rfl, same⟩
      · rw [tM_no m5 hf h45 hp]
        exact ⟨false, 3, ib, lN a, cm, cm, nI k, nI a, ib, rfl, rfl, same⟩
  · -- at an end
    rw [f_X6_takes, if_neg (by decide), if_neg (by decide), if_neg (by decide), if_neg (by decide), if_neg hp]
    rcases hh with ⟨rfl, rfl⟩ | ⟨hc, k, rfl, hk0, hk⟩
    · have same : pP (P + 1) 4 false 0 65 65 0 0 false := Or.inr (Or.inr (Or.inr (Or.inr ⟨rfl, rfl, rfl, rfl, rfl, rfl, Or.inl ⟨rfl, rfl⟩⟩)))
      by_cases hf : 48 ≤ p.toInt ∧ p.toInt ≤ 57
      · obtain ⟨v, hv, rfl⟩ := fig_of hf
        rw [tM_fig (by decide) hv (fig_A 0 0 (nI v) false)]
        exact ⟨false, 4, false, 0, 65, 65, 0, 0, false, rfl, rfl, same⟩
      · by_cases h45 : p = 45
        · subst h45
          rw [tM_min (by decide) (fun q => absurd q.1 (by decide))]
          exact ⟨false, 4, false, 0, 65, 65, 0, 0, false, rfl, rfl, same⟩
        · rw [tM_no (by decide) hf h45 hp]
          exact ⟨false, 4, false, 0, 65, 65, 0, 0, false, rfl, rfl, same⟩
    · obtain ⟨M, m1, m2, m3, m4, m5, m6, m7⟩ := na_f hc
      have kz : nI k ≠ 0 := nI_ne0 hk0 (by omega)
      have same : pP (P + 1) 4 false 0 cm cm (nI k) 0 false := Or.inr (Or.inr (Or.inr (Or.inr ⟨rfl, rfl, rfl, rfl, rfl, rfl, Or.inr ⟨hc, k, rfl, hk0, by omega⟩⟩)))
      by_cases hf : 48 ≤ p.toInt ∧ p.toInt ≤ 57
      · obtain ⟨v, hv, rfl⟩ := fig_of hf
        have fM := fig_M (co := cm) (fi := nI k) (ib := false) (a := 0) (v := v) hv m6 m2 m4 (by omega) false (by rw [if_neg kz, nI_0, if_pos (by decide)])
        rw [if_neg (fun q => absurd q.1 (by decide)), nI_0] at fM
        rw [tM_fig m5 hv fM]
        exact ⟨false, 4, false, 0, cm, cm, nI k, 0, false, rfl, rfl, same⟩
      · by_cases h45 : p = 45
        · subst h45
          rw [tM_min m5 (fun q => kz q.2.1)]
          exact ⟨false, 4, false, 0, cm, cm, nI k, 0, false, rfl, rfl, same⟩
        · rw [tM_no m5 hf h45 hp]
          exact ⟨false, 4, false, 0, cm, cm, nI k, 0, false, rfl, rfl, same⟩
theorem tM_59 {cm fi nu : Int32} {ib r : Bool} (h0 : cm ≠ 0) (hw : f_X10_isWhole cm fi nu ib = (r, ())) : f_X10_takes cm fi nu ib 59 = (r, (cm, fi, nu, ib)) := by
  rw [f_X10_takes, if_neg h0, wi_f (by decide)]
  dsimp only
  rw [if_neg (by decide), if_neg (by decide), if_pos rfl, hw]
  cases r <;> rfl
theorem tk_59 {P : Nat} {st : Int32} {be : Bool} {am : Int64} {co cm fi nu : Int32} {ib : Bool} (h : pP P st be am co cm fi nu ib) (hP : P ≤ 100) :
    ∃ (r : Bool) (st' cm' fi' nu' : Int32) (ib' : Bool), f_X6_takes st be am co 59 = (r, (st', be, am, co)) ∧ f_X10_takes cm fi nu ib 59 = (r, (cm', fi', nu', ib')) ∧ (r = true → st' = 0 ∧ cm' = cm ∧ nu' = nu ∧ ib' = ib ∧ cm = co ∧ ∃ v, f_X6_value be am = (v, ()) ∧ pWo v co nu ib) ∧ (r = false → pP (P + 1) st' be am co cm' fi' nu' ib') := by
  have mono : pP (P + 1) st be am co cm fi nu ib := by
    rcases h with h | h | h | ⟨k, a, M, a1, a2, a3, a4, a5, a6, a7, a8, a9, rest⟩ | ⟨a1, a2, a3, a4, a5, a6, hh⟩
    · exact Or.inl h
    · exact Or.inr (Or.inl h)
    · exact Or.inr (Or.inr (Or.inl h))
    · exact Or.inr (Or.inr (Or.inr (Or.inl ⟨k, a, M, a1, a2, a3, a4, a5, a6, a7, a8, by omega, rest⟩)))
    · refine Or.inr (Or.inr (Or.inr (Or.inr ⟨a1, a2, a3, a4, a5, a6, ?_⟩)))
      rcases hh with hh | ⟨hc, k, k1, k2, k3⟩
      · exact Or.inl hh
      · exact Or.inr ⟨hc, k, k1, k2, by omega⟩
  obtain ⟨r, e1, e2, e3⟩ := end_eq h hP
  have h2 := h
  rcases h with ⟨hs, hc⟩ | ⟨hs, a2, a3, hc, a5, a6, a7, a8⟩ | ⟨hs, a2, a3, a4, a5, a6, a7, a8⟩ | ⟨k, a, M, hs, a2, hc, a5, rest⟩ | ⟨hs, a2, a3, a4, a5, a6, hh⟩
  · subst hs
    subst hc
    have h65 : (59 : Int32) ≠ 65 := by decide
    have hn : ¬ pNA 59 := by
      intro q
      rcases q with q | q | q | q | q | q | q <;> exact absurd q (by decide)
    rw [f_X6_takes, if_pos rfl, f_X6_takesCommand, f_X10_takes, if_pos rfl, f_X10_beginsWith, most_no h65 hn, isc_no h65 hn]
    dsimp only
    rw [if_neg (by decide)]
    unfold gBind
    dsimp only
    rw [if_neg (by decide), if_pos rfl]
    exact ⟨false, 0, 0, 0, 0, false, rfl, rfl, fun q => absurd q (by decide), fun _ => Or.inl ⟨rfl, rfl⟩⟩
  · have rf : r = false := by
      cases r with
      | false => rfl
      | true => rcases (e3 rfl).1 with q | q <;> (rw [hs] at q; exact absurd q (by decide))
    subst rf
    obtain ⟨M, m1, m2, m3, m4, m5, m6, m7⟩ := na_f hc
    rw [tM_59 (by rw [a5]; exact m5) e2, f_X6_takes, hs, if_neg (by decide), if_pos rfl, if_neg (by decide), fig_no (by decide)]
    rw [hs] at mono
    exact ⟨false, 1, cm, fi, nu, ib, rfl, rfl, fun q => absurd q (by decide), fun _ => mono⟩
  · have rf : r = false := by
      cases r with
      | false => rfl
      | true => rcases (e3 rfl).1 with q | q <;> (rw [hs] at q; exact absurd q (by decide))
    subst rf
    rw [tM_59 (by rw [a5]; decide) e2, f_X6_takes, hs, if_neg (by decide), if_neg (by decide), if_pos rfl, if_neg (by decide), fig_no (by decide)]
    rw [hs] at mono
    exact ⟨false, 2, cm, fi, nu, ib, rfl, rfl, fun q => absurd q (by decide), fun _ => mono⟩
  · obtain ⟨M', m1, m2, m3, m4, m5, m6, m7⟩ := na_f hc
    have eT : f_X6_takes st be am co 59 = (r, ((if r = true then (0 : Int32) else st), be, am, co)) := by
      have e4 : f_X6_takesEnd st be am co = (r, (if r = true then (0 : Int32) else st)) := by
        rw [f_X6_takesEnd, e1]
        cases r <;> rfl
      rw [f_X6_takes, e4, hs, if_neg (by decide), if_neg (by decide), if_neg (by decide), if_pos rfl, if_pos rfl]
    rw [eT, tM_59 (by rw [a5]; exact m5) e2]
    cases r with
    | true => exact ⟨true, 0, cm, fi, nu, ib, rfl, rfl, fun _ => ⟨rfl, rfl, rfl, rfl, (e3 rfl).2⟩, fun q => absurd q (by decide)⟩
    | false => exact ⟨false, st, cm, fi, nu, ib, rfl, rfl, fun q => absurd q (by decide), fun _ => mono⟩
  · have hcm : cm ≠ 0 := by
      rw [a4]
      rcases hh with ⟨q, _⟩ | ⟨hc, _⟩
      · rw [q]; decide
      · obtain ⟨M', m1, m2, m3, m4, m5, m6, m7⟩ := na_f hc
        exact m5
    have eT : f_X6_takes st be am co 59 = (r, ((if r = true then (0 : Int32) else st), be, am, co)) := by
      have e4 : f_X6_takesEnd st be am co = (r, (if r = true then (0 : Int32) else st)) := by
        rw [f_X6_takesEnd, e1]
        cases r <;> rfl
      rw [f_X6_takes, e4, hs, if_neg (by decide), if_neg (by decide), if_neg (by decide), if_neg (by decide), if_pos rfl]
      cases r <;> rfl
    rw [eT, tM_59 hcm e2]
    cases r with
    | true => exact ⟨true, 0, cm, fi, nu, ib, rfl, rfl, fun _ => ⟨rfl, rfl, rfl, rfl, (e3 rfl).2⟩, fun q => absurd q (by decide)⟩
    | false => exact ⟨false, st, cm, fi, nu, ib, rfl, rfl, fun q => absurd q (by decide), fun _ => mono⟩
