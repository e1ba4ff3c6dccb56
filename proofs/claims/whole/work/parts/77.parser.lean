/-! the two readers of settings -/
def pNA (c : Int32) : Prop := c = 68 ∨ c = 70 ∨ c = 71 ∨ c = 78 ∨ c = 82 ∨ c = 87 ∨ c = 90
theorem na_f {c : Int32} (h : pNA c) : ∃ M : Nat, f_X6_most c = (nI M, ()) ∧ f_X10_mostOf c = (nI M, ()) ∧ 1 ≤ M ∧ M ≤ 25000000 ∧ c ≠ 0 ∧ c ≠ 65 ∧ (c = 68 → M = 25000000) := by
  rcases h with rfl | rfl | rfl | rfl | rfl | rfl | rfl
  · exact ⟨25000000, rfl, rfl, by decide, by decide, by decide, by decide, fun _ => rfl⟩
  · exact ⟨16, rfl, rfl, by decide, by decide, by decide, by decide, fun q => absurd q (by decide)⟩
  · exact ⟨9, rfl, rfl, by decide, by decide, by decide, by decide, fun q => absurd q (by decide)⟩
  · exact ⟨50, rfl, rfl, by decide, by decide, by decide, by decide, fun q => absurd q (by decide)⟩
  · exact ⟨2, rfl, rfl, by decide, by decide, by decide, by decide, fun q => absurd q (by decide)⟩
  · exact ⟨99999, rfl, rfl, by decide, by decide, by decide, by decide, fun q => absurd q (by decide)⟩
  · exact ⟨2, rfl, rfl, by decide, by decide, by decide, by decide, fun q => absurd q (by decide)⟩
theorem na_l {c : Int32} (h : pNA c) : ∃ L : Int32, f_X6_least c = (L, ()) ∧ f_X10_leastOf c = (L, ()) ∧ (c = 68 → L = -25000000) ∧ (c ≠ 68 → 0 ≤ L.toInt) := by
  rcases h with rfl | rfl | rfl | rfl | rfl | rfl | rfl
  · exact ⟨-25000000, rfl, rfl, fun _ => rfl, fun q => absurd rfl q⟩
  · exact ⟨1, rfl, rfl, fun q => absurd q (by decide), fun _ => by decide⟩
  · exact ⟨1, rfl, rfl, fun q => absurd q (by decide), fun _ => by decide⟩
  · exact ⟨1, rfl, rfl, fun q => absurd q (by decide), fun _ => by decide⟩
  · exact ⟨0, rfl, rfl, fun q => absurd q (by decide), fun _ => by decide⟩
  · exact ⟨0, rfl, rfl, fun q => absurd q (by decide), fun _ => by decide⟩
  · exact ⟨0, rfl, rfl, fun q => absurd q (by decide), fun _ => by decide⟩
def pP (P : Nat) (st : Int32) (be : Bool) (am : Int64) (co cm fi nu : Int32) (ib : Bool) : Prop :=
  (st = 0 ∧ cm = 0) ∨
  (st = 1 ∧ be = false ∧ am = 0 ∧ pNA co ∧ cm = co ∧ fi = 0 ∧ nu = 0 ∧ ib = false) ∨
  (st = 2 ∧ be = true ∧ am = 0 ∧ co = 68 ∧ cm = 68 ∧ fi = 0 ∧ nu = 0 ∧ ib = true) ∨
  (∃ k a M : Nat, st = 3 ∧ am = lN a ∧ pNA co ∧ cm = co ∧ fi = nI k ∧ nu = nI a ∧ ib = be ∧ 0 < k ∧ k ≤ P ∧ 0 < a ∧ a ≤ M ∧ M ≤ 25000000 ∧ f_X6_most co = (nI M, ()) ∧ f_X10_mostOf co = (nI M, ()) ∧ (be = true → co = 68)) ∨
  (st = 4 ∧ be = false ∧ am = 0 ∧ cm = co ∧ nu = 0 ∧ ib = false ∧ ((co = 65 ∧ fi = 0) ∨ (pNA co ∧ ∃ k : Nat, fi = nI k ∧ 0 < k ∧ k ≤ P)))
/-- a command that is whole -/
def pWo (v co nu : Int32) (ib : Bool) : Prop := v = (if ib = true then -nu else nu) ∧ (co = 65 ∨ (co = 68 ∧ -25000000 ≤ v.toInt ∧ v.toInt ≤ 25000000) ∨ (co = 70 ∧ 1 ≤ v.toInt ∧ v.toInt ≤ 16) ∨ (co = 71 ∧ 1 ≤ v.toInt ∧ v.toInt ≤ 9) ∨ (co = 78 ∧ 1 ≤ v.toInt ∧ v.toInt ≤ 50) ∨ (co = 82 ∧ 0 ≤ v.toInt ∧ v.toInt ≤ 2) ∨ (co = 87 ∧ 0 ≤ v.toInt ∧ v.toInt ≤ 99999) ∨ (co = 90 ∧ 0 ≤ v.toInt ∧ v.toInt ≤ 2))
theorem wo_of {v co nu L : Int32} {ib : Bool} {M : Nat} (hc : pNA co) (hv : v = (if ib = true then -nu else nu)) (hL : f_X6_least co = (L, ())) (hM : f_X6_most co = (nI M, ())) (h1 : L.toInt ≤ v.toInt) (h2 : v.toInt ≤ (nI M).toInt) : pWo v co nu ib := by
  refine ⟨hv, ?_⟩
  rcases hc with rfl | rfl | rfl | rfl | rfl | rfl | rfl
  · have a : (-25000000 : Int32) = L := congrArg Prod.fst hL
    have b : (25000000 : Int32) = nI M := congrArg Prod.fst hM
    rw [← a] at h1
    rw [← b] at h2
    have e1 : (-25000000 : Int32).toInt = -25000000 := by decide
    have e2 : (25000000 : Int32).toInt = 25000000 := by decide
    exact Or.inr (Or.inl ⟨rfl, by omega, by omega⟩)
  · have a : (1 : Int32) = L := congrArg Prod.fst hL
    have b : (16 : Int32) = nI M := congrArg Prod.fst hM
    rw [← a] at h1
    rw [← b] at h2
    have e1 : (1 : Int32).toInt = 1 := by decide
    have e2 : (16 : Int32).toInt = 16 := by decide
    exact Or.inr (Or.inr (Or.inl ⟨rfl, by omega, by omega⟩))
  · have a : (1 : Int32) = L := congrArg Prod.fst hL
    have b : (9 : Int32) = nI M := congrArg Prod.fst hM
    rw [← a] at h1
    rw [← b] at h2
    have e1 : (1 : Int32).toInt = 1 := by decide
    have e2 : (9 : Int32).toInt = 9 := by decide
    exact Or.inr (Or.inr (Or.inr (Or.inl ⟨rfl, by omega, by omega⟩)))
  · have a : (1 : Int32) = L := congrArg Prod.fst hL
    have b : (50 : Int32) = nI M := congrArg Prod.fst hM
    rw [← a] at h1
    rw [← b] at h2
    have e1 : (1 : Int32).toInt = 1 := by decide
    have e2 : (50 : Int32).toInt = 50 := by decide
    exact Or.inr (Or.inr (Or.inr (Or.inr (Or.inl ⟨rfl, by omega, by omega⟩))))
  · have a : (0 : Int32) = L := congrArg Prod.fst hL
    have b : (2 : Int32) = nI M := congrArg Prod.fst hM
    rw [← a] at h1
    rw [← b] at h2
    have e1 : (0 : Int32).toInt = 0 := by decide
    have e2 : (2 : Int32).toInt = 2 := by decide
    exact Or.inr (Or.inr (Or.inr (Or.inr (Or.inr (Or.inl ⟨rfl, by omega, by omega⟩)))))
  · have a : (0 : Int32) = L := congrArg Prod.fst hL
    have b : (99999 : Int32) = nI M := congrArg Prod.fst hM
    rw [← a] at h1
    rw [← b] at h2
    have e1 : (0 : Int32).toInt = 0 := by decide
    have e2 : (99999 : Int32).toInt = 99999 := by decide
    exact Or.inr (Or.inr (Or.inr (Or.inr (Or.inr (Or.inr (Or.inl ⟨rfl, by omega, by omega⟩))))))
  · have a : (0 : Int32) = L := congrArg Prod.fst hL
    have b : (2 : Int32) = nI M := congrArg Prod.fst hM
    rw [← a] at h1
    rw [← b] at h2
    have e1 : (0 : Int32).toInt = 0 := by decide
    have e2 : (2 : Int32).toInt = 2 := by decide
    exact Or.inr (Or.inr (Or.inr (Or.inr (Or.inr (Or.inr (Or.inr ⟨rfl, by omega, by omega⟩))))))
theorem neg_I {x : Int32} (h : -2147483648 < x.toInt) : (-x).toInt = -x.toInt := by
  have e0 : (0 : Int32).toInt = 0 := by decide
  have hm := gi_max x
  have q : -x = (0 : Int32) - x := (Int32.zero_sub _).symm
  rw [q, gi_sub (by rw [e0]; omega) (by rw [e0]; omega), e0]
  omega
/-! whether a text may end there -/
theorem end_eq {P : Nat} {st : Int32} {be : Bool} {am : Int64} {co cm fi nu : Int32} {ib : Bool} (h : pP P st be am co cm fi nu ib) (hP : P ≤ 100) :
    ∃ r : Bool, f_X6_mayEnd st be am co = (r, ()) ∧ f_X10_isWhole cm fi nu ib = (r, ()) ∧ (r = true → (st = 3 ∨ st = 4) ∧ cm = co ∧ ∃ v, f_X6_value be am = (v, ()) ∧ pWo v co nu ib) := by
  rcases h with ⟨rfl, rfl⟩ | ⟨rfl, rfl, rfl, hc, rfl, rfl, rfl, rfl⟩ | ⟨rfl, rfl, rfl, rfl, rfl, rfl, rfl, rfl⟩ | ⟨k, a, M, rfl, rfl, hc, rfl, rfl, rfl, rfl, hk0, hk, ha0, ha, hM0, hM, hM2, hbe⟩ | ⟨rfl, rfl, rfl, rfl, rfl, rfl, hh⟩
  · refine ⟨false, ?_, ?_, fun q => absurd q (by decide)⟩
    · rw [f_X6_mayEnd, if_neg (by decide), if_neg (by decide)]
    · rw [f_X10_isWhole, if_pos rfl]
  · obtain ⟨M, m1, m2, m3, m4, m5, m6, m7⟩ := na_f hc
    refine ⟨false, ?_, ?_, fun q => absurd q (by decide)⟩
    · rw [f_X6_mayEnd, if_neg (by decide), if_neg (by decide)]
    · rw [f_X10_isWhole, if_neg m5, if_neg m6, if_pos (by decide)]
  · refine ⟨false, ?_, ?_, fun q => absurd q (by decide)⟩
    · rw [f_X6_mayEnd, if_neg (by decide), if_neg (by decide)]
    · rw [f_X10_isWhole, if_neg (by decide), if_neg (by decide), if_pos (by decide)]
  · obtain ⟨M', m1, m2, m3, m4, m5, m6, m7⟩ := na_f hc
    obtain ⟨L, l1, l2, l3, l4⟩ := na_l hc
    have ea : (nI a).toInt = (a : Int) := nI_toInt (by omega)
    have eM : (nI M).toInt = (M : Int) := nI_toInt (by omega)
    rw [f_X6_mayEnd, if_pos rfl, l1, f_X10_isWhole, if_neg m5, if_neg m6, if_neg (nI_nle hk0 (by omega)), l2]
    cases ib with
    | true =>
      have h68 := hbe rfl
      have eL := l3 h68
      have en : (-nI a).toInt = -(a : Int) := by rw [neg_I (by omega), ea]
      have eLi : L.toInt = -25000000 := by rw [eL]; decide
      have hv : f_X6_value true (lN a) = (-nI a, ()) := by rw [f_X6_value, if_pos rfl, neg_l2i]
      rw [hv, if_pos rfl]
      dsimp only
      rw [if_neg (fun q => by have := gi_lt q en eLi; omega)]
      exact ⟨true, rfl, rfl, fun _ => ⟨Or.inl rfl, rfl, -nI a, rfl, wo_of hc (by rw [if_pos rfl]) l1 hM (by rw [eLi, en]; omega) (by rw [eM, en]; omega)⟩⟩
    | false =>
      have hv : f_X6_value false (lN a) = (nI a, ()) := by rw [f_X6_value, if_neg (by decide), lN_i]
      rw [hv, if_neg (by decide)]
      dsimp only
      by_cases c : nI a < L
      · rw [if_pos c]
        exact ⟨false, rfl, rfl, fun q => absurd q (by decide)⟩
      · have i := gi_nlt c rfl rfl
        rw [if_neg c]
        exact ⟨true, rfl, rfl, fun _ => ⟨Or.inl rfl, rfl, nI a, rfl, wo_of hc (by rw [if_neg (by decide)]) l1 hM i (by rw [eM, ea]; omega)⟩⟩
  · rcases hh with ⟨rfl, rfl⟩ | ⟨hc, k, rfl, hk0, hk⟩
    · refine ⟨true, ?_, ?_, fun _ => ⟨Or.inr rfl, rfl, 0, rfl, rfl, Or.inl rfl⟩⟩
      · rw [f_X6_mayEnd, if_neg (by decide), if_pos rfl]
        rfl
      · rw [f_X10_isWhole, if_neg (by decide), if_pos rfl]
    · obtain ⟨M, m1, m2, m3, m4, m5, m6, m7⟩ := na_f hc
      obtain ⟨L, l1, l2, l3, l4⟩ := na_l hc
      have e0 : (0 : Int32).toInt = 0 := by decide
      have eM : (nI M).toInt = (M : Int) := nI_toInt (by omega)
      have hv : f_X6_value false 0 = (0, ()) := rfl
      rw [f_X6_mayEnd, if_neg (by decide), if_pos rfl, hv, l1, f_X10_isWhole, if_neg m5, if_neg m6, if_neg (nI_nle hk0 (by omega)), if_neg (by decide), l2]
      dsimp only
      by_cases c : (0 : Int32) < L
      · rw [if_pos c]
        exact ⟨false, rfl, rfl, fun q => absurd q (by decide)⟩
      · have i := gi_nlt c e0 rfl
        rw [if_neg c]
        exact ⟨true, rfl, rfl, fun _ => ⟨Or.inr rfl, rfl, 0, rfl, wo_of hc rfl l1 m1 (by rw [e0]; exact i) (by rw [eM, e0]; omega)⟩⟩
/-! a figure -/
theorem fig_no {st : Int32} {be : Bool} {am : Int64} {co p : Int32} (h : ¬ (48 ≤ p.toInt ∧ p.toInt ≤ 57)) : f_X6_takesFigure st be am co p = (false, (st, am)) := by
  rw [f_X6_takesFigure]
  by_cases c1 : p < 48
  · rw [if_pos c1]
  · have i1 := gi_nlt c1 rfl (by decide : (48 : Int32).toInt = 48)
    rw [if_neg c1, if_neg (fun q => by have := gi_le q rfl (by decide : (57 : Int32).toInt = 57); omega)]
theorem fig_X {st : Int32} {be : Bool} {co : Int32} {a M v : Nat} (hc : pNA co) (hv : v ≤ 9) (hM : f_X6_most co = (nI M, ())) (hM0 : M ≤ 25000000) (ha : a ≤ M) (hbe : be = true → co = 68) : f_X6_takesFigure st be (lN a) co (nI (48 + v)) = if a * 10 + v ≤ M then (true, ((if a * 10 + v = 0 then (4 : Int32) else (3 : Int32)), lN (a * 10 + v))) else (false, (st, lN a)) := by
  have e48 : (48 : Int32) = nI 48 := by decide
  have e57 : (57 : Int32) = nI 57 := by decide
  have e10 : (10 : Int64) = lN 10 := by decide
  have e0 : (0 : Int64) = lN 0 := by decide
  have eg : lN a * (10 : Int64) + (nI (48 + v) - (48 : Int32)).toInt64 = lN (a * 10 + v) := by
    have e9 : 48 + v - 48 = v := by omega
    rw [e48, pk_sub (by omega), e9, nI_l (by omega), e10, lN_mul, lN_add]
  have gz : (lN (a * 10 + v) = (0 : Int64)) ↔ a * 10 + v = 0 := by rw [e0]; exact pk_lEQ (by omega) (by decide)
  rw [f_X6_takesFigure, eg, e48, if_neg (nI_nlt (by omega) (by omega)), e57, if_pos (nI_le (by omega) (by omega)), hM]
  have fin : ∀ (c : Prop) [Decidable c], (c ↔ a * 10 + v ≤ M) → (if c then (if lN (a * 10 + v) = (0 : Int64) then (true, ((4 : Int32), lN (a * 10 + v))) else (true, ((3 : Int32), lN (a * 10 + v)))) else (false, (st, lN a))) = if a * 10 + v ≤ M then (true, ((if a * 10 + v = 0 then (4 : Int32) else (3 : Int32)), lN (a * 10 + v))) else (false, (st, lN a)) := by
    intro c _ hcM
    by_cases h1 : a * 10 + v ≤ M
    · rw [if_pos (hcM.mpr h1), if_pos h1]
      by_cases h2 : a * 10 + v = 0
      · rw [if_pos (gz.mpr h2), if_pos h2]
      · rw [if_neg (fun q => h2 (gz.mp q)), if_neg h2]
    · rw [if_neg (fun q => h1 (hcM.mp q)), if_neg h1]
  cases be with
  | true =>
    obtain ⟨M', m1, m2, m3, m4, m5, m6, m7⟩ := na_f hc
    obtain ⟨L, l1, l2, l3, l4⟩ := na_l hc
    have h68 := hbe rfl
    have eM : nI M' = nI M := congrArg Prod.fst (m1.symm.trans hM)
    have eM2 : M' = M := (nI_eq (by omega) (by omega)).mp eM
    have eM3 := m7 h68
    have eL := l3 h68
    rw [if_pos rfl, l1]
    dsimp only
    have ex : L.toInt64.toInt = -25000000 := by rw [Int32.toInt_toInt64, eL]; decide
    have ey : (-lN (a * 10 + v)).toInt = -((a * 10 + v : Nat) : Int) := by rw [neg_T (by rw [lN_T (by omega)]; omega), lN_T (by omega)]
    exact fin (L.toInt64 ≤ -lN (a * 10 + v)) ⟨fun q => by have := gl_le.mp q; rw [ex, ey] at this; omega, fun q => gl_le.mpr (by rw [ex, ey]; omega)⟩
  | false =>
    rw [if_neg (by decide)]
    dsimp only
    rw [nI_l (by omega)]
    exact fin (lN (a * 10 + v) ≤ lN M) (pk_lLE (by omega) (by omega))
theorem fig_M {co fi : Int32} {ib : Bool} {a M v : Nat} (hv : v ≤ 9) (hco : co ≠ 65) (hM : f_X10_mostOf co = (nI M, ())) (hM0 : M ≤ 25000000) (ha : a ≤ M) (hah : Bool) (hA : (if fi = (0 : Int32) then (if ib = true then (if nI v ≤ (0 : Int32) then false else true) else true) else (if nI a ≤ (0 : Int32) then false else true)) = hah) : f_X10_takesFigure co fi (nI a) ib (nI v) = if hah = true ∧ a * 10 + v ≤ M then (true, (fi + 1, nI (a * 10 + v))) else (false, (fi, nI a)) := by
  have e10 : (10 : Int32) = nI 10 := by decide
  have eg : (10 : Int32) * nI a + nI v = nI (a * 10 + v) := by rw [e10, pk_mul, nI_add, Nat.mul_comm]
  have aheadK : ∀ (K : Bool → (Bool × (Int32 × Int32))), gBind (fun (k_5 : Bool → (Bool × (Int32 × Int32))) => (if fi = (0 : Int32) then (if ib = true then (if nI v ≤ (0 : Int32) then (k_5 false) else (k_5 true)) else (k_5 true)) else (if nI a ≤ (0 : Int32) then (k_5 false) else (k_5 true)))) K = K hah := by
    intro K
    rw [← hA]
    unfold gBind
    by_cases c1 : fi = 0
    · simp only [if_pos c1]
      by_cases c2 : ib = true
      · simp only [if_pos c2]
        by_cases c3 : nI v ≤ (0 : Int32)
        · simp only [if_pos c3]
        · simp only [if_neg c3]
      · simp only [if_neg c2]
    · simp only [if_neg c1]
      by_cases c3 : nI a ≤ (0 : Int32)
      · simp only [if_pos c3]
      · simp only [if_neg c3]
  rw [f_X10_takesFigure, aheadK, hM, eg]
  dsimp only
  unfold gBind
  dsimp only
  rw [if_neg hco]
  cases hah with
  | false =>
    rw [if_neg (by decide), if_neg (by decide), if_neg (fun q => absurd q.1 (by decide))]
  | true =>
    rw [if_pos rfl]
    by_cases c : a * 10 + v ≤ M
    · rw [if_neg (nI_nlt c (by omega)), if_pos rfl, if_pos ⟨rfl, c⟩]
    · rw [if_pos (nI_lt (by omega) (by omega)), if_neg (by decide), if_neg (fun q => c q.2)]
