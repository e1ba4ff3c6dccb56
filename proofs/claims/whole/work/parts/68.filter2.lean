/-! what is told of the filter -/
theorem wi_t {p a b : Int32} (h1 : a.toInt ≤ p.toInt) (h2 : p.toInt ≤ b.toInt) : f_X10_within p a b = (true, ()) := by
  rw [f_X10_within, if_neg (fun q => by have := gi_lt q rfl rfl; omega), if_neg (fun q => by have := gi_lt q rfl rfl; omega)]
theorem wi_f {p a b : Int32} (h : ¬ (a.toInt ≤ p.toInt ∧ p.toInt ≤ b.toInt)) : f_X10_within p a b = (false, ()) := by
  rw [f_X10_within]
  by_cases h1 : p < a
  · rw [if_pos h1]
  · have i1 := gi_nlt h1 rfl rfl
    rw [if_neg h1, if_pos (Int32.lt_iff_toInt_lt.mpr (by omega))]
theorem min_eq (a v : Int64) : gMinL a v = (if a ≤ v then a else v) := by
  unfold gMinL
  by_cases h : v < a
  · have i := gl_lt.mp h
    rw [if_pos h, if_neg (fun q => by have := gl_le.mp q; omega)]
  · rw [if_neg h, if_pos (gl_le.mpr (Int.not_lt.mp (fun q => h (gl_lt.mpr q))))]
theorem max_eq (a v : Int64) : gMaxL a v = (if v ≤ a then a else v) := by
  unfold gMaxL
  by_cases h : v < a
  · have i := gl_lt.mp h
    rw [if_pos h, if_pos (gl_le.mpr (by omega))]
  · have i : ¬ v.toInt < a.toInt := fun q => h (gl_lt.mpr q)
    rw [if_neg h]
    by_cases h2 : v ≤ a
    · have j := gl_le.mp h2
      rw [if_pos h2]
      exact Int64.toInt_inj.mp (by omega)
    · rw [if_neg h2]
theorem bo_least {h : Nat} (hh : h ≤ 16) {f g : Nat → Int64} (hf : ∀ i, i < h → f i = g i) :
    ∀ (m i : Nat) (a : Int64), i ≤ 17 → h - i < m → ∃ b : Int64, f_X4_least_L8 (nI h) f (fun l1 => (l1, ())) m (a, nI i) = (b, ()) ∧ f_X10_bound_L21 (nI h) g false (fun l2 => ((l2 / (1000 : Int64)).toInt32, ())) m (a, nI i) = ((b / (1000 : Int64)).toInt32, ()) := by
  intro m
  induction m with
  | zero => intro i a _ h; omega
  | succ m ih =>
    intro i a hi7 hm
    rw [f_X4_least_L8, f_X10_bound_L21]
    by_cases hi : i < h
    · rw [if_neg (nI_ge hi (by omega)), if_neg (nI_ge hi (by omega)), va_eq hh hi, nI_clamp (by omega), nI_1, ← hf i hi]
      dsimp only
      have e : (gBind (fun (k_36 : Int64 → (Int32 × Unit)) => (if false = true then (if f i ≤ a then (k_36 a) else (k_36 (f i))) else (if a ≤ f i then (k_36 a) else (k_36 (f i))))) (fun k0_36 => (f_X10_bound_L21 (nI h) g false (fun l2 => ((l2 / (1000 : Int64)).toInt32, ())) m (k0_36, nI (i + 1))))) = f_X10_bound_L21 (nI h) g false (fun l2 => ((l2 / (1000 : Int64)).toInt32, ())) m (gMinL a (f i), nI (i + 1)) := by
        rw [min_eq]
        unfold gBind
        dsimp only
        rw [if_neg (by decide)]
        by_cases c : a ≤ f i
        · rw [if_pos c, if_pos c]
        · rw [if_neg c, if_neg c]
      rw [e]
      exact ih (i + 1) _ (by omega) (by omega)
    · rw [if_pos (nI_le (by omega) (by omega)), if_pos (nI_le (by omega) (by omega))]
      exact ⟨a, rfl, rfl⟩
theorem least_eq {h K : Nat} {f g : Nat → Int64} (hp : pFil h K f g) : ∃ b : Int64, f_X4_least (nI h) f = (b, ()) ∧ f_X10_bound (nI h) g false = ((b / (1000 : Int64)).toInt32, ()) := by
  obtain ⟨p1, p2, p3, p4⟩ := hp
  have eh : (nI h).toInt = (h : Int) := nI_toInt (by omega)
  have e0 : f_X4_valueAt (nI h) f (0 : Int32) = ((if nI h = (0 : Int32) then (0 : Int64) else g (0 : Int32).toNatClampNeg), ()) := by
    by_cases hz : h = 0
    · subst hz
      rw [nI_0, if_pos rfl, f_X4_valueAt, if_neg (by decide), if_pos (by decide)]
    · have := va_eq (h := h) (i := 0) (by omega) (by omega) f
      rw [nI_0] at this
      rw [this, if_neg (nI_ne0 (by omega) (by omega)), (p4 0 (by omega)).1]
      rfl
  rw [f_X4_least, f_X10_bound, e0, gB1]
  dsimp only
  have e1 : (1 : Int32) = nI 1 := by decide
  rw [e1]
  exact bo_least (by omega) (fun i hi => (p4 i hi).1) _ 1 _ (by omega) (by omega)
theorem bo_greatest {h : Nat} (hh : h ≤ 16) {f g : Nat → Int64} (hf : ∀ i, i < h → f i = g i) :
    ∀ (m i : Nat) (a : Int64), i ≤ 17 → h - i < m → ∃ b : Int64, f_X4_greatest_L8 (nI h) f (fun l1 => (l1, ())) m (a, nI i) = (b, ()) ∧ f_X10_bound_L21 (nI h) g true (fun l2 => ((l2 / (1000 : Int64)).toInt32, ())) m (a, nI i) = ((b / (1000 : Int64)).toInt32, ()) := by
  intro m
  induction m with
  | zero => intro i a _ h; omega
  | succ m ih =>
    intro i a hi7 hm
    rw [f_X4_greatest_L8, f_X10_bound_L21]
    by_cases hi : i < h
    · rw [if_neg (nI_ge hi (by omega)), if_neg (nI_ge hi (by omega)), va_eq hh hi, nI_clamp (by omega), nI_1, ← hf i hi]
      dsimp only
      have e : (gBind (fun (k_36 : Int64 → (Int32 × Unit)) => (if true = true then (if f i ≤ a then (k_36 a) else (k_36 (f i))) else (if a ≤ f i then (k_36 a) else (k_36 (f i))))) (fun k0_36 => (f_X10_bound_L21 (nI h) g true (fun l2 => ((l2 / (1000 : Int64)).toInt32, ())) m (k0_36, nI (i + 1))))) = f_X10_bound_L21 (nI h) g true (fun l2 => ((l2 / (1000 : Int64)).toInt32, ())) m (gMaxL a (f i), nI (i + 1)) := by
        rw [max_eq]
        unfold gBind
        dsimp only
        rw [if_pos rfl]
        by_cases c : f i ≤ a
        · rw [if_pos c, if_pos c]
        · rw [if_neg c, if_neg c]
      rw [e]
      exact ih (i + 1) _ (by omega) (by omega)
    · rw [if_pos (nI_le (by omega) (by omega)), if_pos (nI_le (by omega) (by omega))]
      exact ⟨a, rfl, rfl⟩
theorem greatest_eq {h K : Nat} {f g : Nat → Int64} (hp : pFil h K f g) : ∃ b : Int64, f_X4_greatest (nI h) f = (b, ()) ∧ f_X10_bound (nI h) g true = ((b / (1000 : Int64)).toInt32, ()) := by
  obtain ⟨p1, p2, p3, p4⟩ := hp
  have eh : (nI h).toInt = (h : Int) := nI_toInt (by omega)
  have e0 : f_X4_valueAt (nI h) f (0 : Int32) = ((if nI h = (0 : Int32) then (0 : Int64) else g (0 : Int32).toNatClampNeg), ()) := by
    by_cases hz : h = 0
    · subst hz
      rw [nI_0, if_pos rfl, f_X4_valueAt, if_neg (by decide), if_pos (by decide)]
    · have := va_eq (h := h) (i := 0) (by omega) (by omega) f
      rw [nI_0] at this
      rw [this, if_neg (nI_ne0 (by omega) (by omega)), (p4 0 (by omega)).1]
      rfl
  rw [f_X4_greatest, f_X10_bound, e0, gB1]
  dsimp only
  have e1 : (1 : Int32) = nI 1 := by decide
  rw [e1]
  exact bo_greatest (by omega) (fun i hi => (p4 i hi).1) _ 1 _ (by omega) (by omega)
theorem filter_eq {h K : Nat} {f g : Nat → Int64} (hp : pFil h K f g) (p : Int32) : f_X9_filter (nI h) (nI K) f p = f_X10_filter (nI K) (nI h) g p := by
  have e0 : (0 : Int32).toInt = 0 := by decide
  have e5 : (5 : Int32).toInt = 5 := by decide
  obtain ⟨bl, l1, l2⟩ := least_eq hp
  obtain ⟨bg, g1, g2⟩ := greatest_eq hp
  rw [f_X9_filter, (sh_eq hp).1, l1, g1, f_X10_filter]
  by_cases h0 : p = 0
  · subst h0
    rw [wi_t (by decide) (by decide)]
    dsimp only
    rw [if_pos rfl, if_pos rfl, f_X10_filterNow, if_pos rfl]
  · rw [if_neg h0]
    by_cases h1 : p = 1
    · subst h1
      rw [wi_t (by decide) (by decide)]
      dsimp only
      rw [if_pos rfl, if_pos rfl, f_X10_filterNow, if_neg h0, if_pos rfl]
    · rw [if_neg h1]
      by_cases h2 : p = 2
      · subst h2
        rw [wi_t (by decide) (by decide)]
        dsimp only
        rw [if_pos rfl, if_pos rfl, f_X10_filterNow, if_neg h0, if_neg h1, if_pos rfl]
      · rw [if_neg h2]
        by_cases h3 : p = 3
        · subst h3
          rw [wi_t (by decide) (by decide)]
          dsimp only
          rw [if_pos rfl, if_pos rfl, f_X10_filterNow, if_neg h0, if_neg h1, if_neg h2, if_pos rfl]
          by_cases c : nI h = nI K
          · rw [if_pos c, if_pos c]
            rfl
          · rw [if_neg c, if_neg c]
            rfl
        · rw [if_neg h3]
          by_cases h4 : p = 4
          · subst h4
            rw [wi_t (by decide) (by decide)]
            dsimp only
            rw [if_pos rfl, if_pos rfl, f_X10_filterNow, if_neg h0, if_neg h1, if_neg h2, if_neg h3, if_neg (by decide), l2]
          · rw [if_neg h4]
            by_cases h5 : p = 5
            · subst h5
              rw [wi_t (by decide) (by decide)]
              dsimp only
              rw [if_pos rfl, if_pos rfl, f_X10_filterNow, if_neg h0, if_neg h1, if_neg h2, if_neg h3, if_pos rfl, g2]
            · rw [if_neg h5]
              have i0 := gi_ne h0 rfl e0
              have i1 := gi_ne h1 rfl (by decide : (1 : Int32).toInt = 1)
              have i2 := gi_ne h2 rfl (by decide : (2 : Int32).toInt = 2)
              have i3 := gi_ne h3 rfl (by decide : (3 : Int32).toInt = 3)
              have i4 := gi_ne h4 rfl (by decide : (4 : Int32).toInt = 4)
              have i5 := gi_ne h5 rfl e5
              rw [wi_f (by rw [e0, e5]; omega)]
              rfl
theorem filter_now {h K : Nat} {f g : Nat → Int64} (hp : pFil h K f g) {p : Int32} (h0 : 0 ≤ p.toInt) (h5 : p.toInt ≤ 5) : f_X9_filter (nI h) (nI K) f p = f_X10_filterNow (nI K) (nI h) g p := by
  have e0 : (0 : Int32).toInt = 0 := by decide
  have e5 : (5 : Int32).toInt = 5 := by decide
  rw [filter_eq hp, f_X10_filter, wi_t (by omega) (by omega)]
  rfl
theorem held_eq {h K : Nat} {f g : Nat → Int64} (hp : pFil h K f g) (p q : Int32) : f_X9_held (nI h) f p q = f_X10_held (nI h) g p q := by
  obtain ⟨p1, p2, p3, p4⟩ := hp
  have e0 : (0 : Int32).toInt = 0 := by decide
  have e1 : (1 : Int32).toInt = 1 := by decide
  have eh : (nI h).toInt = (h : Int) := nI_toInt (by omega)
  have es : (nI h - 1).toInt = (h : Int) - 1 := by rw [gi_sub (by omega) (by omega), eh, e1]
  rw [f_X9_held, f_X10_held]
  by_cases a1 : p < 0
  · have := gi_lt a1 rfl e0
    rw [if_pos a1, wi_f (by omega)]
    rfl
  · have i1 := gi_nlt a1 rfl e0
    rw [if_neg a1]
    by_cases a2 : p < nI h
    · have i2 := gi_lt a2 rfl eh
      rw [if_pos a2, wi_t (by omega) (by omega)]
      dsimp only
      rw [if_pos (rfl : true = true)]
      by_cases a3 : q < 0
      · have i3 := gi_lt a3 rfl e0
        rw [if_pos a3, wi_f (by omega)]
        rfl
      · have i3 := gi_nlt a3 rfl e0
        rw [if_neg a3]
        by_cases a4 : q < 2
        · have i4 := gi_lt a4 rfl (by decide : (2 : Int32).toInt = 2)
          obtain ⟨k, k1, k2, k3⟩ := nI_of' (x := p) i1
          subst k2
          rw [if_pos a4, wi_t (by omega) (by omega), va_eq (by omega) (by omega), f_X10_heldNow, nI_clamp k1, (p4 k (by omega)).1]
          dsimp only
          rw [if_pos (rfl : true = true)]
        · have i4 := gi_nlt a4 rfl (by decide : (2 : Int32).toInt = 2)
          rw [if_neg a4, wi_f (by omega)]
          rfl
    · have i2 := gi_nlt a2 rfl eh
      rw [if_neg a2, wi_f (by omega)]
      rfl
