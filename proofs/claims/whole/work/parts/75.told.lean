/-! what is told of conversions, settings and counts -/
theorem eta1 (q : Int32 × Unit) : (match q with | (r, _) => (r, ())) = q := rfl
theorem about_eq (dc : Int32) (seed tk : Int64) (range : Int32) (au : Bool) (off N z K win p : Int32) : f_X9_about au z N tk dc seed range off K win p = f_X10_about dc seed tk range au off N z K win p := by
  rw [f_X9_about, f_X10_about]
  by_cases h0 : p = 0
  · subst h0
    rw [if_pos rfl, wi_t (by decide) (by decide)]
    rfl
  · rw [if_neg h0]
    by_cases h1 : p = 1
    · subst h1
      rw [if_pos rfl, wi_t (by decide) (by decide)]
      cases au <;> rfl
    · rw [if_neg h1]
      by_cases h2 : p = 2
      · subst h2
        rw [if_pos rfl, wi_t (by decide) (by decide)]
        rfl
      · rw [if_neg h2]
        by_cases h3 : p = 3
        · subst h3
          rw [if_pos rfl, wi_t (by decide) (by decide)]
          rfl
        · rw [if_neg h3]
          by_cases h4 : p = 4
          · subst h4
            rw [if_pos rfl, wi_t (by decide) (by decide)]
            rfl
          · rw [if_neg h4]
            by_cases h5 : p = 5
            · subst h5
              rw [if_pos rfl, wi_t (by decide) (by decide)]
              rfl
            · rw [if_neg h5]
              by_cases h6 : p = 6
              · subst h6
                rw [if_pos rfl, wi_t (by decide) (by decide)]
                rfl
              · rw [if_neg h6]
                by_cases h7 : p = 7
                · subst h7
                  rw [if_pos rfl, wi_t (by decide) (by decide)]
                  rfl
                · rw [if_neg h7]
                  by_cases h8 : p = 8
                  · subst h8
                    rw [if_pos rfl, wi_t (by decide) (by decide)]
                    rfl
                  · rw [if_neg h8]
                    by_cases h9 : p = 9
                    · subst h9
                      rw [if_pos rfl, wi_t (by decide) (by decide)]
                      rfl
                    · rw [if_neg h9]
                      have i0 := gi_ne h0 rfl (by decide : (0 : Int32).toInt = 0)
                      have i1 := gi_ne h1 rfl (by decide : (1 : Int32).toInt = 1)
                      have i2 := gi_ne h2 rfl (by decide : (2 : Int32).toInt = 2)
                      have i3 := gi_ne h3 rfl (by decide : (3 : Int32).toInt = 3)
                      have i4 := gi_ne h4 rfl (by decide : (4 : Int32).toInt = 4)
                      have i5 := gi_ne h5 rfl (by decide : (5 : Int32).toInt = 5)
                      have i6 := gi_ne h6 rfl (by decide : (6 : Int32).toInt = 6)
                      have i7 := gi_ne h7 rfl (by decide : (7 : Int32).toInt = 7)
                      have i8 := gi_ne h8 rfl (by decide : (8 : Int32).toInt = 8)
                      have i9 := gi_ne h9 rfl (by decide : (9 : Int32).toInt = 9)
                      have e0 : (0 : Int32).toInt = 0 := by decide
                      have e9 : (9 : Int32).toInt = 9 := by decide
                      rw [wi_f (by omega)]
                      rfl
theorem latest_eq (pl mi sw : Int32) (ch : Int64) (ov : Bool) (su fl : Int64) (cs : Bool) (rt : Int32) (cnt : Nat → Int32) {c : Nat} (hc : c < 2 ^ 31) {wc : Bool} (hw : wc = true ↔ 0 < c) (p : Int32) : f_X9_latest (nI c) cs rt ov pl mi sw ch su fl cnt p = f_X10_latest wc pl mi sw ch ov su fl cs rt cnt p := by
  have e0 : (0 : Int32).toInt = 0 := by decide
  have e14 : (14 : Int32).toInt = 14 := by decide
  have e15 : (15 : Int32).toInt = 15 := by decide
  rw [f_X9_latest, f_X10_latest]
  by_cases a1 : p < 0
  · have i1 := gi_lt a1 rfl e0
    rw [if_pos a1, wi_f (by omega)]
    rfl
  · have i1 := gi_nlt a1 rfl e0
    rw [if_neg a1]
    by_cases a2 : p < 15
    · have i2 := gi_lt a2 rfl e15
      rw [if_pos a2, wi_t (by omega) (by omega)]
      dsimp only
      rw [if_pos (rfl : true = true)]
      by_cases a3 : c = 0
      · subst a3
        rw [nI_0, if_pos rfl, if_neg (fun q => by have := hw.mp q; omega)]
      · rw [if_neg (nI_ne0 (by omega) hc), if_pos (hw.mpr (by omega))]
        obtain ⟨k, k1, k2, k3⟩ := nI_of' (x := p) i1
        subst k2
        have hk : k < 15 := by omega
        clear k3 i1 i2 a1 a2 k1
        have hw : k = 0 ∨ k = 1 ∨ k = 2 ∨ k = 3 ∨ k = 4 ∨ k = 5 ∨ k = 6 ∨ k = 7 ∨ k = 8 ∨ k = 9 ∨ k = 10 ∨ k = 11 ∨ k = 12 ∨ k = 13 ∨ k = 14 := by omega
        rcases hw with rfl | rfl | rfl | rfl | rfl | rfl | rfl | rfl | rfl | rfl | rfl | rfl | rfl | rfl | rfl
        · rfl
        · rfl
        · rfl
        · rfl
        · rfl
        · rfl
        · rfl
        · rfl
        · cases ov <;> rfl
        · rfl
        · rfl
        · rfl
        · rfl
        · cases cs <;> rfl
        · rfl
    · have i2 := gi_nlt a2 rfl e15
      rw [if_neg a2, wi_f (by omega)]
      rfl
theorem latest_now (pl mi sw : Int32) (ch : Int64) (ov : Bool) (su fl : Int64) (cs : Bool) (rt : Int32) (cnt : Nat → Int32) {c : Nat} (hc : c < 2 ^ 31) (h0 : 0 < c) {i : Nat} (hi : i < 15) : f_X9_latest (nI c) cs rt ov pl mi sw ch su fl cnt (nI i) = ((f_X10_latestNow pl mi sw ch ov su fl cs rt cnt (nI i)).1, ()) := by
  have e0 : (0 : Int32).toInt = 0 := by decide
  have e14 : (14 : Int32).toInt = 14 := by decide
  have ei : (nI i).toInt = (i : Int) := nI_toInt (by omega)
  rw [latest_eq pl mi sw ch ov su fl cs rt cnt hc (wc := true) ⟨fun _ => h0, fun _ => rfl⟩, f_X10_latest, wi_t (by omega) (by omega)]
  rfl
theorem count_eq (ups downs st cv sh jm t go l p : Int32) : f_X9_count ups downs st cv sh jm t go l p = f_X10_count t go cv sh ups downs jm st l p := by
  have e : f_X9_count ups downs st cv sh jm t go l p = f_X10_howMany t go cv sh ups downs jm st l p := by rw [f_X9_count, f_X10_howMany]
  rw [f_X10_count, e]
theorem rem20I {k : Nat} (hk : k < 2 ^ 31) : gRemI (nI k) (20 : Int32) = nI (k % 20) := by
  have e : (20 : Int32) = nI 20 := by decide
  unfold gRemI
  rw [e]
  exact pk_rem hk (by decide) (by decide)
theorem rem20L {k : Nat} (hk : k < 2 ^ 31) : (gRemL (nI k).toInt64 (20 : Int64)).toInt32 = nI (k % 20) := by
  have e : (20 : Int64) = lN 20 := by decide
  unfold gRemL
  rw [nI_l hk, e, pk_lRem (by omega) (by decide) (by decide), lN_i]
theorem in_eq (dc hum w p : Int32) : f_X9_input dc hum w p = f_X10_input dc hum w p := by
  have e0 : (0 : Int32).toInt = 0 := by decide
  rw [f_X9_input, f_X10_input]
  by_cases a : (0 : Int32) ≤ p
  · have i := gi_le a e0 rfl
    obtain ⟨k, k1, k2, k3⟩ := nI_of' (x := p) i
    subst k2
    rw [if_pos a, if_pos a, calm_eq dc hum w (by rw [Int32.toInt_toInt64]; exact i), rem20L k1, rem20I k1]
  · rw [if_neg a, if_neg a]
/-! folding -/
def pF (v : Nat → Int64) : Nat → Nat → Int64 → Int64
  | 0, _, h => h
  | k + 1, i, h => pF v k (i + 1) (((31 : Int64) * h) + v i)
theorem pF_add (v : Nat → Int64) : ∀ (a b i : Nat) (h : Int64), pF v (a + b) i h = pF v b (i + a) (pF v a i h) := by
  intro a
  induction a with
  | zero => intro b i h; rw [Nat.zero_add]; rfl
  | succ a ih =>
    intro b i h
    have e : a + 1 + b = (a + b) + 1 := by omega
    have e2 : i + 1 + a = i + (a + 1) := by omega
    rw [e, pF, pF, ih, e2]
theorem pF_congr {v w : Nat → Int64} : ∀ (k i j : Nat) (h : Int64), (∀ q, q < k → v (i + q) = w (j + q)) → pF v k i h = pF w k j h := by
  intro k
  induction k with
  | zero => intro i j h _; rfl
  | succ k ih =>
    intro i j h hq
    have h0 := hq 0 (by omega)
    rw [Nat.add_zero, Nat.add_zero] at h0
    rw [pF, pF, h0]
    exact ih (i + 1) (j + 1) _ (fun q hk => by
      have := hq (q + 1) (by omega)
      have e1 : i + 1 + q = i + (q + 1) := by omega
      have e2 : j + 1 + q = j + (q + 1) := by omega
      rw [e1, e2]
      exact this)
theorem lp_x6 (au : Bool) (z N : Int32) (tk : Int64) (dc : Int32) (seed : Int64) (range off K0 win : Int32) {u : Nat → Int32}  (hv : ∀ i, i < 10 → f_X9_about au z N tk dc seed range off K0 win (nI i) = (u i, ())) (K : Int64 → (Int64 × Unit)) :
    ∀ (m i : Nat) (h : Int64), i ≤ 10 → 10 - i < m → f_X9_digest_L6 au z N tk dc seed range off K0 win K m (h, nI i) = K (pF (fun j => (u j).toInt64) (10 - i) i h) := by
  intro m
  induction m with
  | zero => intro i h _ q; omega
  | succ m ih =>
    intro i h hi hm
    rw [f_X9_digest_L6, (by decide : (10 : Int32) = nI 10)]
    by_cases he : i = 10
    · have e : 10 - i = 0 := by omega
      rw [if_pos (nI_le (by omega) (by omega)), e]
      rfl
    · have e : 10 - i = (10 - (i + 1)) + 1 := by omega
      have hv1 := hv i (by omega)
      rw [if_neg (nI_ge (by omega) (by omega))]
      rw [hv1]
      dsimp only
      rw [f_X9_folded]
      dsimp only
      rw [nI_1, ih (i + 1) _ (by omega) (by omega), e, pF]
theorem lp_xlat (cv : Int32) (cs : Bool) (rt : Int32) (ov : Bool) (pl mi sw : Int32) (ch su fl : Int64) (cnt : Nat → Int32) {u : Nat → Int32}  (hv : ∀ i, i < 15 → f_X9_latest cv cs rt ov pl mi sw ch su fl cnt (nI i) = (u i, ())) (K : Int64 → (Int64 × Unit)) :
    ∀ (m i : Nat) (h : Int64), i ≤ 15 → 15 - i < m → f_X9_foldLatest_L14 cv cs rt ov pl mi sw ch su fl cnt K m (h, nI i) = K (pF (fun j => (u j).toInt64) (15 - i) i h) := by
  intro m
  induction m with
  | zero => intro i h _ q; omega
  | succ m ih =>
    intro i h hi hm
    rw [f_X9_foldLatest_L14, (by decide : (15 : Int32) = nI 15)]
    by_cases he : i = 15
    · have e : 15 - i = 0 := by omega
      rw [if_pos (nI_le (by omega) (by omega)), e]
      rfl
    · have e : 15 - i = (15 - (i + 1)) + 1 := by omega
      have hv1 := hv i (by omega)
      rw [if_neg (nI_ge (by omega) (by omega))]
      rw [hv1]
      dsimp only
      rw [f_X9_folded]
      dsimp only
      rw [nI_1, ih (i + 1) _ (by omega) (by omega), e, pF]
theorem lp_x20 (t : Int32) (lcl : Nat → Int32) (pc : Int32) {u : Nat → Int32}  (hv : ∀ i, i < 8 → f_X9_reading t lcl pc (nI i) = (u i, ())) (K : Int64 → (Int64 × Unit)) :
    ∀ (m i : Nat) (h : Int64), i ≤ 8 → 8 - i < m → f_X9_foldReadings_L20 t lcl pc K m (h, nI i) = K (pF (fun j => (u j).toInt64) (8 - i) i h) := by
  intro m
  induction m with
  | zero => intro i h _ q; omega
  | succ m ih =>
    intro i h hi hm
    rw [f_X9_foldReadings_L20, (by decide : (8 : Int32) = nI 8)]
    by_cases he : i = 8
    · have e : 8 - i = 0 := by omega
      rw [if_pos (nI_le (by omega) (by omega)), e]
      rfl
    · have e : 8 - i = (8 - (i + 1)) + 1 := by omega
      have hv1 := hv i (by omega)
      rw [if_neg (nI_ge (by omega) (by omega))]
      rw [hv1]
      dsimp only
      rw [f_X9_folded]
      dsimp only
      rw [nI_1, ih (i + 1) _ (by omega) (by omega), e, pF]
theorem lp_xf2 (h0 K0 : Int32) (f : Nat → Int64) {u : Nat → Int32}  (hv : ∀ i, i < 6 → f_X9_filter h0 K0 f (nI i) = (u i, ())) (K : Int64 → (Int64 × Unit)) :
    ∀ (m i : Nat) (h : Int64), i ≤ 6 → 6 - i < m → f_X9_foldFilter_L2 h0 K0 f K m (h, nI i) = K (pF (fun j => (u j).toInt64) (6 - i) i h) := by
  intro m
  induction m with
  | zero => intro i h _ q; omega
  | succ m ih =>
    intro i h hi hm
    rw [f_X9_foldFilter_L2, (by decide : (6 : Int32) = nI 6)]
    by_cases he : i = 6
    · have e : 6 - i = 0 := by omega
      rw [if_pos (nI_le (by omega) (by omega)), e]
      rfl
    · have e : 6 - i = (6 - (i + 1)) + 1 := by omega
      have hv1 := hv i (by omega)
      rw [if_neg (nI_ge (by omega) (by omega))]
      rw [hv1]
      dsimp only
      rw [f_X9_folded]
      dsimp only
      rw [nI_1, ih (i + 1) _ (by omega) (by omega), e, pF]
theorem lp_x41 (h0 : Int32) (f : Nat → Int64) (pc : Int32) {u : Nat → Int32}  (hv : ∀ i, i < 2 → f_X9_held h0 f pc (nI i) = (u i, ())) (K : Int64 → (Int64 × Unit)) :
    ∀ (m i : Nat) (h : Int64), i ≤ 2 → 2 - i < m → f_X9_foldFilter_L41 h0 f pc K m (h, nI i) = K (pF (fun j => (u j).toInt64) (2 - i) i h) := by
  intro m
  induction m with
  | zero => intro i h _ q; omega
  | succ m ih =>
    intro i h hi hm
    rw [f_X9_foldFilter_L41, (by decide : (2 : Int32) = nI 2)]
    by_cases he : i = 2
    · have e : 2 - i = 0 := by omega
      rw [if_pos (nI_le (by omega) (by omega)), e]
      rfl
    · have e : 2 - i = (2 - (i + 1)) + 1 := by omega
      have hv1 := hv i (by omega)
      rw [if_neg (nI_ge (by omega) (by omega))]
      rw [hv1]
      dsimp only
      rw [f_X9_folded]
      dsimp only
      rw [nI_1, ih (i + 1) _ (by omega) (by omega), e, pF]
theorem lp_x21 (zs : Nat → Int64) (zc zn : Nat → Int32) (r : Int32) {u : Nat → Int32}  (hv : ∀ i, i < 4 → f_X9_zero zs zc zn r (nI i) = (u i, ())) (K : Int64 → (Int64 × Unit)) :
    ∀ (m i : Nat) (h : Int64), i ≤ 4 → 4 - i < m → f_X9_foldZeros_L21 zs zc zn r K m (h, nI i) = K (pF (fun j => (u j).toInt64) (4 - i) i h) := by
  intro m
  induction m with
  | zero => intro i h _ q; omega
  | succ m ih =>
    intro i h hi hm
    rw [f_X9_foldZeros_L21, (by decide : (4 : Int32) = nI 4)]
    by_cases he : i = 4
    · have e : 4 - i = 0 := by omega
      rw [if_pos (nI_le (by omega) (by omega)), e]
      rfl
    · have e : 4 - i = (4 - (i + 1)) + 1 := by omega
      have hv1 := hv i (by omega)
      rw [if_neg (nI_ge (by omega) (by omega))]
      rw [hv1]
      dsimp only
      rw [f_X9_folded]
      dsimp only
      rw [nI_1, ih (i + 1) _ (by omega) (by omega), e, pF]
theorem lp_x55 (dc hum w : Int32) {u : Nat → Int32}  (hv : ∀ i, i < 20 → f_X9_input dc hum w (nI i) = (u i, ())) (K : Int64 → (Int64 × Unit)) :
    ∀ (m i : Nat) (h : Int64), i ≤ 20 → 20 - i < m → f_X9_digest_L55 dc hum w K m (h, nI i) = K (pF (fun j => (u j).toInt64) (20 - i) i h) := by
  intro m
  induction m with
  | zero => intro i h _ q; omega
  | succ m ih =>
    intro i h hi hm
    rw [f_X9_digest_L55, (by decide : (20 : Int32) = nI 20)]
    by_cases he : i = 20
    · have e : 20 - i = 0 := by omega
      rw [if_pos (nI_le (by omega) (by omega)), e]
      rfl
    · have e : 20 - i = (20 - (i + 1)) + 1 := by omega
      have hv1 := hv i (by omega)
      rw [if_neg (nI_ge (by omega) (by omega))]
      rw [hv1]
      dsimp only
      rw [f_X9_folded]
      dsimp only
      rw [nI_1, ih (i + 1) _ (by omega) (by omega), e, pF]
theorem lp_x80 {l : Nat} (pg : Nat → Int32) {u : Nat → Int32} (hl : l ≤ 40) (hv : ∀ i, i < l → f_X5_codeAt (nI l) pg (nI i) = (u i, ())) (K : Int64 → (Int64 × Unit)) :
    ∀ (m i : Nat) (h : Int64), i ≤ l → l - i < m → f_X9_digest_L80 (nI l) pg K m (h, nI i) = K (pF (fun j => (u j).toInt64) (l - i) i h) := by
  intro m
  induction m with
  | zero => intro i h _ q; omega
  | succ m ih =>
    intro i h hi hm
    rw [f_X9_digest_L80]
    by_cases he : i = l
    · have e : l - i = 0 := by omega
      rw [if_pos (nI_le (by omega) (by omega)), e]
      rfl
    · have e : l - i = (l - (i + 1)) + 1 := by omega
      have hv1 := hv i (by omega)
      rw [if_neg (nI_ge (by omega) (by omega))]
      rw [hv1]
      dsimp only
      rw [f_X9_folded]
      dsimp only
      rw [nI_1, ih (i + 1) _ (by omega) (by omega), e, pF]
theorem lp_x113 (ups downs st cv sh jm t go l : Int32) {u : Nat → Int32}  (hv : ∀ i, i < 9 → f_X9_count ups downs st cv sh jm t go l (nI i) = (u i, ())) (K : Int64 → (Int64 × Unit)) :
    ∀ (m i : Nat) (h : Int64), i ≤ 9 → 9 - i < m → f_X9_digest_L113 ups downs st cv sh jm t go l K m (h, nI i) = K (pF (fun j => (u j).toInt64) (9 - i) i h) := by
  intro m
  induction m with
  | zero => intro i h _ q; omega
  | succ m ih =>
    intro i h hi hm
    rw [f_X9_digest_L113, (by decide : (9 : Int32) = nI 9)]
    by_cases he : i = 9
    · have e : 9 - i = 0 := by omega
      rw [if_pos (nI_le (by omega) (by omega)), e]
      rfl
    · have e : 9 - i = (9 - (i + 1)) + 1 := by omega
      have hv1 := hv i (by omega)
      rw [if_neg (nI_ge (by omega) (by omega))]
      rw [hv1]
      dsimp only
      rw [f_X9_folded]
      dsimp only
      rw [nI_1, ih (i + 1) _ (by omega) (by omega), e, pF]
theorem lp_m2 {k : Nat} (told : Nat → Int32) {u : Nat → Int32} (hk : k ≤ 12) (hv : ∀ i, i < (8 * k) → told i = u i) (K : Int64 → Int64) :
    ∀ (m i : Nat) (h : Int64), i ≤ (8 * k) → (8 * k) - i < m → f_X10_mixReadings_L2 (nI k) told K m (nI i, h) = K (pF (fun j => (u j).toInt64) ((8 * k) - i) i h) := by
  intro m
  induction m with
  | zero => intro i h _ q; omega
  | succ m ih =>
    intro i h hi hm
    rw [f_X10_mixReadings_L2, (by decide : (8 : Int32) = nI 8), pk_mul]
    by_cases he : i = (8 * k)
    · have e : (8 * k) - i = 0 := by omega
      rw [if_pos (nI_le (by omega) (by omega)), e]
      rfl
    · have e : (8 * k) - i = ((8 * k) - (i + 1)) + 1 := by omega
      have hv1 := hv i (by omega)
      rw [if_neg (nI_ge (by omega) (by omega))]
      rw [nI_clamp (by omega), hv1]
      dsimp only
      rw [f_X10_mix]
      rw [nI_1, ih (i + 1) _ (by omega) (by omega), e, pF]
theorem lp_m32 (K0 h0 : Int32) (g : Nat → Int64) {u : Nat → Int32}  (hv : ∀ i, i < 6 → f_X10_filterNow K0 h0 g (nI i) = (u i, ())) (K : Int64 → Int64) :
    ∀ (m i : Nat) (h : Int64), i ≤ 6 → 6 - i < m → f_X10_mixReadings_L32 K0 h0 g K m (nI i, h) = K (pF (fun j => (u j).toInt64) (6 - i) i h) := by
  intro m
  induction m with
  | zero => intro i h _ q; omega
  | succ m ih =>
    intro i h hi hm
    rw [f_X10_mixReadings_L32, (by decide : (6 : Int32) = nI 6)]
    by_cases he : i = 6
    · have e : 6 - i = 0 := by omega
      rw [if_pos (nI_le (by omega) (by omega)), e]
      rfl
    · have e : 6 - i = (6 - (i + 1)) + 1 := by omega
      have hv1 := hv i (by omega)
      rw [if_neg (nI_ge (by omega) (by omega))]
      rw [hv1]
      dsimp only
      rw [f_X10_mix]
      rw [nI_1, ih (i + 1) _ (by omega) (by omega), e, pF]
theorem lp_m56 {k : Nat} (g : Nat → Int64) {u : Nat → Int32} (hk : k ≤ 17) (hv : ∀ i, i < (2 * k) → f_X10_heldNow g (nI i / nI 2) (gRemI (nI i) (nI 2)) = (u i, ())) (K : Int64 → Int64) :
    ∀ (m i : Nat) (h : Int64), i ≤ (2 * k) → (2 * k) - i < m → f_X10_mixReadings_L56 (nI k) g K m (nI i, h) = K (pF (fun j => (u j).toInt64) ((2 * k) - i) i h) := by
  intro m
  induction m with
  | zero => intro i h _ q; omega
  | succ m ih =>
    intro i h hi hm
    rw [f_X10_mixReadings_L56, (by decide : (2 : Int32) = nI 2), pk_mul]
    by_cases he : i = (2 * k)
    · have e : (2 * k) - i = 0 := by omega
      rw [if_pos (nI_le (by omega) (by omega)), e]
      rfl
    · have e : (2 * k) - i = ((2 * k) - (i + 1)) + 1 := by omega
      have hv1 := hv i (by omega)
      rw [if_neg (nI_ge (by omega) (by omega))]
      rw [hv1]
      dsimp only
      rw [f_X10_mix]
      rw [nI_1, ih (i + 1) _ (by omega) (by omega), e, pF]
theorem lp_m9 (dc : Int32) (seed tk : Int64) (range : Int32) (au : Bool) (off N z K0 win : Int32) {u : Nat → Int32}  (hv : ∀ i, i < 10 → f_X10_aboutNow dc seed tk range au off N z K0 win (nI i) = (u i, ())) (K : Int64 → (Int64 × Int64)) :
    ∀ (m i : Nat) (h : Int64), i ≤ 10 → 10 - i < m → f_X10_digest_L9 dc seed tk range au off N z K0 win K m (nI i, h) = K (pF (fun j => (u j).toInt64) (10 - i) i h) := by
  intro m
  induction m with
  | zero => intro i h _ q; omega
  | succ m ih =>
    intro i h hi hm
    rw [f_X10_digest_L9, (by decide : (10 : Int32) = nI 10)]
    by_cases he : i = 10
    · have e : 10 - i = 0 := by omega
      rw [if_pos (nI_le (by omega) (by omega)), e]
      rfl
    · have e : 10 - i = (10 - (i + 1)) + 1 := by omega
      have hv1 := hv i (by omega)
      rw [if_neg (nI_ge (by omega) (by omega))]
      rw [hv1]
      dsimp only
      rw [f_X10_mix]
      rw [nI_1, ih (i + 1) _ (by omega) (by omega), e, pF]
theorem lp_m68 (dc hum w : Int32) {u : Nat → Int64}  (hv : ∀ i, i < 20 → f_X10_withHum dc hum w (nI i) = (u i, ())) (K : Int64 → (Int64 × Int64)) :
    ∀ (m i : Nat) (h : Int64), i ≤ 20 → 20 - i < m → f_X10_digest_L68 dc hum w K m (nI i, h) = K (pF (fun j => u j) (20 - i) i h) := by
  intro m
  induction m with
  | zero => intro i h _ q; omega
  | succ m ih =>
    intro i h hi hm
    rw [f_X10_digest_L68, (by decide : (20 : Int32) = nI 20)]
    by_cases he : i = 20
    · have e : 20 - i = 0 := by omega
      rw [if_pos (nI_le (by omega) (by omega)), e]
      rfl
    · have e : 20 - i = (20 - (i + 1)) + 1 := by omega
      have hv1 := hv i (by omega)
      rw [if_neg (nI_ge (by omega) (by omega))]
      rw [hv1]
      dsimp only
      rw [f_X10_mix]
      rw [nI_1, ih (i + 1) _ (by omega) (by omega), e, pF]
theorem lp_m91 {l : Nat} (pg : Nat → Int32) {u : Nat → Int32} (hl : l ≤ 40) (hv : ∀ i, i < l → pg i = u i) (K : Int64 → (Int64 × Int64)) :
    ∀ (m i : Nat) (h : Int64), i ≤ l → l - i < m → f_X10_digest_L91 (nI l) pg K m (nI i, h) = K (pF (fun j => (u j).toInt64) (l - i) i h) := by
  intro m
  induction m with
  | zero => intro i h _ q; omega
  | succ m ih =>
    intro i h hi hm
    rw [f_X10_digest_L91]
    by_cases he : i = l
    · have e : l - i = 0 := by omega
      rw [if_pos (nI_le (by omega) (by omega)), e]
      rfl
    · have e : l - i = (l - (i + 1)) + 1 := by omega
      have hv1 := hv i (by omega)
      rw [if_neg (nI_ge (by omega) (by omega))]
      rw [nI_clamp (by omega), hv1]
      dsimp only
      rw [f_X10_mix]
      rw [nI_1, ih (i + 1) _ (by omega) (by omega), e, pF]
theorem lp_m118 (t go cv sh ups downs jm st l : Int32) {u : Nat → Int32}  (hv : ∀ i, i < 9 → f_X10_howMany t go cv sh ups downs jm st l (nI i) = (u i, ())) (K : Int64 → (Int64 × Int64)) :
    ∀ (m i : Nat) (h : Int64), i ≤ 9 → 9 - i < m → f_X10_digest_L118 t go cv sh ups downs jm st l K m (nI i, h) = K (pF (fun j => (u j).toInt64) (9 - i) i h) := by
  intro m
  induction m with
  | zero => intro i h _ q; omega
  | succ m ih =>
    intro i h hi hm
    rw [f_X10_digest_L118, (by decide : (9 : Int32) = nI 9)]
    by_cases he : i = 9
    · have e : 9 - i = 0 := by omega
      rw [if_pos (nI_le (by omega) (by omega)), e]
      rfl
    · have e : 9 - i = (9 - (i + 1)) + 1 := by omega
      have hv1 := hv i (by omega)
      rw [if_neg (nI_ge (by omega) (by omega))]
      rw [hv1]
      dsimp only
      rw [f_X10_mix]
      rw [nI_1, ih (i + 1) _ (by omega) (by omega), e, pF]
theorem lp_m33 (pl mi sw : Int32) (ch : Int64) (ov : Bool) (su fl : Int64) (cs : Bool) (rt : Int32) (cnt : Nat → Int32) {u : Nat → Int32}  (hv : ∀ i, i < 15 → f_X10_latestNow pl mi sw ch ov su fl cs rt cnt (nI i) = (u i, ())) (K : Int64 → (Int64 × Int64)) :
    ∀ (m i : Nat) (h : Int64), i ≤ 15 → 15 - i < m → f_X10_digest_L33 true pl mi sw ch ov su fl cs rt cnt K m (nI i, h) = K (pF (fun j => (u j).toInt64) (15 - i) i h) := by
  intro m
  induction m with
  | zero => intro i h _ q; omega
  | succ m ih =>
    intro i h hi hm
    rw [f_X10_digest_L33, (by decide : (15 : Int32) = nI 15)]
    by_cases he : i = 15
    · have e : 15 - i = 0 := by omega
      rw [if_pos (nI_le (by omega) (by omega)), e]
      rfl
    · have e : 15 - i = (15 - (i + 1)) + 1 := by omega
      have hv1 := hv i (by omega)
      rw [if_neg (nI_ge (by omega) (by omega)), if_pos (rfl : true = true), hv1]
      dsimp only
      rw [f_X10_mix, nI_1, ih (i + 1) _ (by omega) (by omega), e, pF]
theorem lp_m96 (ms : Nat → Int64) (mc mr : Nat → Int32) (r : Int32) {u : Nat → Int32} (hc : ¬ mc r.toNatClampNeg ≤ (0 : Int32)) (hv : ∀ i, i < 4 → f_X10_zeroNow ms mc mr r (nI i) = (u i, ())) (K : Int64 → Int64) :
    ∀ (m i : Nat) (h : Int64), i ≤ 4 → 4 - i < m → f_X10_mixReadings_L96 ms mc mr r K m (nI i, h) = K (pF (fun j => (u j).toInt64) (4 - i) i h) := by
  intro m
  induction m with
  | zero => intro i h _ q; omega
  | succ m ih =>
    intro i h hi hm
    rw [f_X10_mixReadings_L96, (by decide : (4 : Int32) = nI 4)]
    by_cases he : i = 4
    · have e : 4 - i = 0 := by omega
      rw [if_pos (nI_le (by omega) (by omega)), e]
      rfl
    · have e : 4 - i = (4 - (i + 1)) + 1 := by omega
      have hv1 := hv i (by omega)
      rw [if_neg (nI_ge (by omega) (by omega)), if_neg hc, hv1]
      dsimp only
      rw [f_X10_mix, nI_1, ih (i + 1) _ (by omega) (by omega), e, pF]
