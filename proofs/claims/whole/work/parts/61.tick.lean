/-! one tick of a cycle -/
noncomputable def pCut (v : Int64) : Int64 := gMaxL (-22000000 : Int64) (gMinL (22000000 : Int64) v)
theorem gl_lt {x y : Int64} : x < y ↔ x.toInt < y.toInt := Int64.lt_iff_toInt_lt
theorem gl_le {x y : Int64} : x ≤ y ↔ x.toInt ≤ y.toInt := Int64.le_iff_toInt_le
theorem eP : (22000000 : Int64).toInt = 22000000 := by decide
theorem eM : (-22000000 : Int64).toInt = -22000000 := by decide
theorem pCut_eq (v : Int64) : pCut v = if v ≤ (22000000 : Int64) then (if (-22000000 : Int64) ≤ v then v else (-22000000 : Int64)) else (22000000 : Int64) := by
  unfold pCut gMaxL gMinL
  by_cases h1 : v ≤ (22000000 : Int64)
  · rw [if_pos h1]
    by_cases h2 : v < (22000000 : Int64)
    · rw [if_pos h2]
      by_cases h3 : (-22000000 : Int64) ≤ v
      · rw [if_pos h3]
        rw [if_neg]
        intro q
        have a := gl_lt.mp q
        have b := gl_le.mp h3
        omega
      · rw [if_neg h3, if_pos]
        rw [gl_lt]
        have b : ¬ (-22000000 : Int64).toInt ≤ v.toInt := fun z => h3 (gl_le.mpr z)
        omega
    · have hv : v = (22000000 : Int64) := by
        have a := gl_le.mp h1
        have b : ¬ v.toInt < (22000000 : Int64).toInt := fun z => h2 (gl_lt.mpr z)
        exact Int64.toInt_inj.mp (by omega)
      subst hv
      decide
  · rw [if_neg h1]
    have a : ¬ v.toInt ≤ (22000000 : Int64).toInt := fun z => h1 (gl_le.mpr z)
    have hn : ¬ v < (22000000 : Int64) := fun q => by have := gl_lt.mp q; omega
    simp only [if_neg hn]
    decide
theorem pCut_bd (v : Int64) : -22000000 ≤ (pCut v).toInt ∧ (pCut v).toInt ≤ 22000000 := by
  rw [pCut_eq]
  by_cases h1 : v ≤ (22000000 : Int64)
  · rw [if_pos h1]
    by_cases h3 : (-22000000 : Int64) ≤ v
    · rw [if_pos h3]
      have a := gl_le.mp h1
      have b := gl_le.mp h3
      rw [eP] at a
      rw [eM] at b
      exact ⟨b, a⟩
    · rw [if_neg h3]; decide
  · rw [if_neg h1]; decide
theorem fold_cut (v : Int64) : gMaxL (-22000000 : Int64) (gMinL (22000000 : Int64) v) = pCut v := rfl
/-- whether it is over behind a tick -/
noncomputable def pOv (ov : Bool) (v : Int64) : Bool := if pCut v = v then ov else true
theorem pOv_eq (ov : Bool) (v : Int64) : pOv ov v = (if ov = true then true else (if (22000000 : Int64) < v then true else (if (-22000000 : Int64) ≤ v then false else true))) := by
  unfold pOv
  by_cases h0 : ov = true
  · rw [if_pos h0, h0]
    split <;> rfl
  · rw [if_neg h0]
    have hf : ov = false := by cases ov; rfl; exact absurd rfl h0
    subst hf
    by_cases h1 : v ≤ (22000000 : Int64)
    · have n1 : ¬ (22000000 : Int64) < v := fun q => by have a := gl_lt.mp q; have b := gl_le.mp h1; omega
      rw [if_neg n1]
      by_cases h3 : (-22000000 : Int64) ≤ v
      · rw [if_pos h3, if_pos]
        rw [pCut_eq, if_pos h1, if_pos h3]
      · rw [if_neg h3, if_neg]
        rw [pCut_eq, if_pos h1, if_neg h3]
        intro q
        exact h3 (by rw [← q]; decide)
    · have p1 : (22000000 : Int64) < v := gl_lt.mpr (by have a : ¬ v.toInt ≤ (22000000 : Int64).toInt := fun z => h1 (gl_le.mpr z); omega)
      rw [if_pos p1, if_neg]
      rw [pCut_eq, if_neg h1]
      intro q
      exact h1 (by rw [← q]; decide)
def pSw (sg s : Int32) : Bool := if sg = 0 then false else (if sg = s then false else true)
theorem bI_1 (x : Int32) : x + bI true = x + 1 := rfl
theorem bI_0 (x : Int32) : x + bI false = x := Int32.add_zero x
theorem flow_eq (ov : Bool) (pl mi sw : Int32) (ch fl : Int64) (sg : Int32) (v : Int64) (s : Int32) : f_X2_flow ov pl mi sw ch fl sg v s =
    (pOv ov v, (if s ≤ 0 then pl else pl + 1), (if s ≤ 0 then mi + 1 else mi), sw + bI (pSw sg s), ch + (pCut v + ((25600000 : Int64) * s.toInt64)), fl + pCut v, s) := by
  rw [f_X2_flow]
  simp only [fold_cut]
  unfold gBind pOv pSw
  by_cases h1 : pCut v = v <;> by_cases h2 : s ≤ 0 <;> by_cases h3 : sg = 0 <;> by_cases h4 : sg = s <;>
    simp only [h1, h2, h3, h4, if_true, if_false, bI_1, bI_0, ↓reduceIte] <;> first | rfl | (simp_all [bI_1, bI_0]; done) | (simp_all [bI]; done)
/-- what comes in at a tick, and the seed behind it -/
noncomputable def pIn (dc hum w n : Int32) (seed t : Int64) (sh : Bool) : Int64 × Int64 := if sh = true then (0, seed) else ((f_X7_calmAt dc hum w t).1 + (f_X7_stir n seed).1, (f_X7_stir n seed).2)
noncomputable def pAmp (range off : Int32) (v : Int64) : Int64 := (f_X0_gain range).1 * (v + off.toInt64)
theorem gain_eq (r : Int32) : f_X10_gain r = f_X0_gain r := rfl
theorem amp_eq (range off : Int32) (v : Int64) : f_X0_amplified range off v = (pAmp range off v, ()) := by
  rw [f_X0_amplified, pAmp]
theorem out_eq (dc hum w : Int32) {n : Int32} (seed : Int64) {t : Int64} (range off : Int32) (ov sh : Bool) (h : 0 ≤ t.toInt) (hn : 0 ≤ n.toInt ∧ n.toInt ≤ 10000) :
    f_X10_outNow dc hum w n seed t range off ov sh = (pCut (pAmp range off (pIn dc hum w n seed t sh).1), (pIn dc hum w n seed t sh).2, pOv ov (pAmp range off (pIn dc hum w n seed t sh).1)) := by
  rw [f_X10_outNow, gain_eq, pOv_eq, pCut_eq]
  unfold gBind pAmp pIn
  rcases f_X0_gain range with ⟨g, u⟩
  dsimp only
  by_cases h0 : sh = true
  · rw [if_pos h0, if_pos h0]
    dsimp only
    rw [Int64.zero_add]
    by_cases h1 : ov = true <;> by_cases h2 : (22000000 : Int64) < g * off.toInt64 <;> by_cases h3 : (-22000000 : Int64) ≤ g * off.toInt64 <;> by_cases h4 : g * off.toInt64 ≤ (22000000 : Int64) <;> simp [h1, h2, h3, h4]
  · rw [if_neg h0, if_neg h0, input_eq dc hum w seed h hn]
    dsimp only
    generalize hv : g * ((f_X7_calmAt dc hum w t).1 + (f_X7_stir n seed).1 + off.toInt64) = v
    by_cases h1 : ov = true <;> by_cases h2 : (22000000 : Int64) < v <;> by_cases h3 : (-22000000 : Int64) ≤ v <;> by_cases h4 : v ≤ (22000000 : Int64) <;> simp [h1, h2, h3, h4]
