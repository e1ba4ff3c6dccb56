/-! the digest -/
theorem wv_bd : ∀ w, w < 3 → ∀ k, k < 20 → (f_X10_waveAt (nI w) (nI k)).1.toInt.natAbs ≤ 1000 := by decide +kernel
theorem l2i2l {x : Int64} (h1 : -2147483648 ≤ x.toInt) (h2 : x.toInt ≤ 2147483647) : x.toInt32.toInt64 = x := by
  apply Int64.toInt_inj.mp
  rw [Int32.toInt_toInt64, Int64.toInt_toInt32]
  exact Int.bmod_eq_of_le (by omega) (by omega)
theorem wh_bd {dc hum w : Int32} (hd : -25000000 ≤ dc.toInt ∧ dc.toInt ≤ 25000000) (hh : 0 ≤ hum.toInt ∧ hum.toInt ≤ 2000000) (hw : 0 ≤ w.toInt ∧ w.toInt ≤ 2) {k : Nat} (hk : k < 20) : -2147483648 ≤ (f_X10_withHum dc hum w (nI k)).1.toInt ∧ (f_X10_withHum dc hum w (nI k)).1.toInt ≤ 2147483647 := by
  obtain ⟨v, v1, v2, v3⟩ := nI_of' (x := w) hw.1
  subst v2
  have hb := wv_bd v (by omega) k hk
  rw [f_X10_withHum]
  dsimp only
  generalize (f_X10_waveAt (nI v) (nI k)).1 = r at hb ⊢
  have e1 : (hum.toInt64).toInt = hum.toInt := Int32.toInt_toInt64 _
  have e2 : (r.toInt64).toInt = r.toInt := Int32.toInt_toInt64 _
  have e3 : (dc.toInt64).toInt = dc.toInt := Int32.toInt_toInt64 _
  have eM : (1000 : Int64).toInt = ((1000 : Nat) : Int) := by decide
  have b1 : (hum.toInt * r.toInt).natAbs ≤ 2000000 * 1000 := mul_bd (by omega) hb
  have m1 : (hum.toInt64 * r.toInt64).toInt = hum.toInt * r.toInt := by rw [gl_mul (by rw [e1, e2]; omega) (by rw [e1, e2]; omega), e1, e2]
  have b2 := ldiv_bd2 (x := hum.toInt64 * r.toInt64) (d := (1000 : Int64)) (B := 2000000) (D := 1000) (by rw [m1]; exact b1) eM (by decide)
  rw [gl_add (by omega) (by omega), e3]
  omega
theorem reading_now {t : Nat} {lcl told : Nat → Int32} (hp : pLog t lcl told) (ht : t < 2 ^ 30) {i w : Nat} (hi : i < min t 12) (hw : w < 8) : f_X9_reading (nI t) lcl (nI i) (nI w) = (told (8 * i + w), ()) := by
  have e0 : (0 : Int32).toInt = 0 := by decide
  have e1 : (1 : Int32).toInt = 1 := by decide
  have e7 : (7 : Int32).toInt = 7 := by decide
  have z8 : (8 : Int32) = nI 8 := by decide
  have ei : (nI i).toInt = (i : Int) := nI_toInt (by omega)
  have ew : (nI w).toInt = (w : Int) := nI_toInt (by omega)
  have ek : (nI (min t 12)).toInt = ((min t 12 : Nat) : Int) := nI_toInt (by omega)
  have es : (nI (min t 12) - 1).toInt = ((min t 12 : Nat) : Int) - 1 := by rw [gi_sub (by omega) (by omega), ek, e1]
  rw [reading_eq hp ht, f_X10_reading, wi_t (by omega) (by omega), wi_t (by omega) (by omega), z8, pk_mul, nI_add, nI_clamp (by omega)]
  rfl
theorem held_now {h K : Nat} {f g : Nat → Int64} (hp : pFil h K f g) {i w : Nat} (hi : i < h) (hw : w < 2) : f_X9_held (nI h) f (nI i) (nI w) = ((f_X10_heldNow g (nI i) (nI w)).1, ()) := by
  have hp1 := hp.1
  have hp2 := hp.2.2.1
  have e0 : (0 : Int32).toInt = 0 := by decide
  have e1 : (1 : Int32).toInt = 1 := by decide
  have ei : (nI i).toInt = (i : Int) := nI_toInt (by omega)
  have ew : (nI w).toInt = (w : Int) := nI_toInt (by omega)
  have ek : (nI h).toInt = (h : Int) := nI_toInt (by omega)
  have es : (nI h - 1).toInt = (h : Int) - 1 := by rw [gi_sub (by omega) (by omega), ek, e1]
  rw [held_eq hp, f_X10_held, wi_t (by omega) (by omega), wi_t (by omega) (by omega)]
  rfl
theorem xr11 {t : Nat} {lcl told : Nat → Int32} (hp : pLog t lcl told) (ht : t < 2 ^ 30) (K : Int64 → (Int64 × Unit)) :
    ∀ (m i : Nat) (h : Int64), i ≤ min t 12 → min t 12 - i < m → f_X9_foldReadings_L11 (nI t) lcl (nI (min t 12)) K m (h, nI i) = K (pF (fun j => (told j).toInt64) (8 * (min t 12 - i)) (8 * i) h) := by
  intro m
  induction m with
  | zero => intro i h _ q; omega
  | succ m ih =>
    intro i h hi hm
    rw [f_X9_foldReadings_L11]
    by_cases he : i = min t 12
    · have e : min t 12 - i = 0 := by omega
      rw [if_pos (nI_le (by omega) (by omega)), e]
      rfl
    · have e : 8 * (min t 12 - i) = 8 + 8 * (min t 12 - (i + 1)) := by omega
      have e2 : 8 * i + 8 = 8 * (i + 1) := by omega
      have key := lp_x20 (nI t) lcl (nI i) (u := fun w => told (8 * i + w)) (fun w hw => reading_now hp ht (by omega) hw) (fun l1 => f_X9_foldReadings_L11 (nI t) lcl (nI (min t 12)) K m (l1, nI i + 1)) 9 0 h (by omega) (by omega)
      rw [nI_0] at key
      rw [if_neg (nI_ge (by omega) (by omega)), key, nI_1, ih (i + 1) _ (by omega) (by omega), e, pF_add, e2]
      congr 2
theorem div2 {g : Nat → Int64} {j : Nat} (hj : j < 100) : f_X10_heldNow g (nI j / nI 2) (gRemI (nI j) (nI 2)) = ((f_X10_heldNow g (nI (j / 2)) (nI (j % 2))).1, ()) := by
  unfold gRemI
  rw [pk_div (by omega) (by decide) (by decide), pk_mul, pk_sub (by omega)]
  have e : j - j / 2 * 2 = j % 2 := by omega
  rw [e]
theorem xf27 {h0 K0 : Nat} {f g : Nat → Int64} (hp : pFil h0 K0 f g) (K : Int64 → (Int64 × Unit)) :
    ∀ (m i : Nat) (h : Int64), i ≤ h0 → h0 - i < m → f_X9_foldFilter_L27 (nI h0) f K m (h, nI i) = K (pF (fun j => ((f_X10_heldNow g (nI (j / 2)) (nI (j % 2))).1).toInt64) (2 * (h0 - i)) (2 * i) h) := by
  have hp1 := hp.1
  have hp2 := hp.2.2.1
  intro m
  induction m with
  | zero => intro i h _ q; omega
  | succ m ih =>
    intro i h hi hm
    rw [f_X9_foldFilter_L27]
    by_cases he : i = h0
    · have e : h0 - i = 0 := by omega
      rw [if_pos (nI_le (by omega) (by omega)), e]
      rfl
    · have e : 2 * (h0 - i) = 2 + 2 * (h0 - (i + 1)) := by omega
      have e2 : 2 * i + 2 = 2 * (i + 1) := by omega
      have key := lp_x41 (nI h0) f (nI i) (u := fun w => (f_X10_heldNow g (nI i) (nI w)).1) (fun w hw => held_now hp (by omega) hw) (fun l1 => f_X9_foldFilter_L27 (nI h0) f K m (l1, nI i + 1)) 3 0 h (by omega) (by omega)
      rw [nI_0] at key
      rw [if_neg (nI_ge (by omega) (by omega)), key, nI_1, ih (i + 1) _ (by omega) (by omega), e, pF_add, e2]
      congr 2
      refine pF_congr 2 0 (2 * i) h (fun q hq => ?_)
      have a1 : (2 * i + q) / 2 = i := by omega
      have a2 : (2 * i + q) % 2 = 0 + q := by omega
      rw [a1, a2]
noncomputable def zStep (ms : Nat → Int64) (mc mr : Nat → Int32) (r : Nat) (h : Int64) : Int64 := if mc r ≤ (0 : Int32) then h else pF (fun j => ((f_X10_zeroNow ms mc mr (nI r) (nI j)).1).toInt64) 4 0 h
theorem zsX {zs ms : Nat → Int64} {zc mc zn mr : Nat → Int32} (hp : pZ zs ms zc mc zn mr) {r : Nat} (hr : r < 3) (K : Int64 → (Int64 × Unit)) (n : Nat) (h : Int64) : f_X9_foldZeros_L2 zs zc zn K (n + 1) (h, nI r) = f_X9_foldZeros_L2 zs zc zn K n (zStep ms mc mr r h, nI (r + 1)) := by
  have e3 : (3 : Int32) = nI 3 := by decide
  have e0 : (0 : Int32).toInt = 0 := by decide
  rw [f_X9_foldZeros_L2, e3, if_neg (nI_ge hr (by decide)), has_eq hr, nI_1]
  unfold zStep
  dsimp only
  rcases hp r hr with ⟨h1, h2⟩ | ⟨h1, h2, h3, h4, h5, h6⟩
  · rw [if_pos (le0_iff.mpr h1), if_neg (by decide), if_pos (le0_iff.mpr h2)]
  · have n1 : ¬ zn r ≤ (0 : Int32) := fun z => by have := le0_iff.mp z; omega
    have n2 : ¬ mc r ≤ (0 : Int32) := fun z => by have := le0_iff.mp z; omega
    have key := lp_x21 zs zc zn (nI r) (u := fun j => (f_X10_zeroNow ms mc mr (nI r) (nI j)).1) (fun i hi => by
      rw [zero_now hp hr h2 (q := nI i) (by rw [nI_toInt (by omega)]; omega) (by rw [nI_toInt (by omega)]; omega)]) (fun l1 => f_X9_foldZeros_L2 zs zc zn K n (l1, nI (r + 1))) 5 0 h (by omega) (by omega)
    rw [nI_0] at key
    rw [if_neg n1, if_pos rfl, if_neg n2, key]
theorem zsM (ms : Nat → Int64) (mc mr : Nat → Int32) {r : Nat} (hr : r < 3) (K : Int64 → Int64) (n : Nat) (h : Int64) : f_X10_mixReadings_L89 ms mc mr K (n + 1) (nI r, h) = f_X10_mixReadings_L89 ms mc mr K n (nI (r + 1), zStep ms mc mr r h) := by
  have e3 : (3 : Int32) = nI 3 := by decide
  rw [f_X10_mixReadings_L89, e3, if_neg (nI_ge hr (by decide)), nI_1]
  unfold zStep
  by_cases c : mc r ≤ (0 : Int32)
  · rw [if_pos c, f_X10_mixReadings_L96, if_neg (by decide), nI_clamp (by omega), if_pos c]
  · have key := lp_m96 ms mc mr (nI r) (u := fun j => (f_X10_zeroNow ms mc mr (nI r) (nI j)).1) (by rw [nI_clamp (by omega)]; exact c) (fun i hi => rfl) (fun l1 => f_X10_mixReadings_L89 ms mc mr K n (nI (r + 1), l1)) 5 0 h (by omega) (by omega)
    rw [nI_0] at key
    rw [if_neg c, key]
theorem about_now (dc : Int32) (seed tk : Int64) (range : Int32) (au : Bool) (off N z K win : Int32) {i : Nat} (hi : i < 10) : f_X9_about au z N tk dc seed range off K win (nI i) = ((f_X10_aboutNow dc seed tk range au off N z K win (nI i)).1, ()) := by
  have e0 : (0 : Int32).toInt = 0 := by decide
  have e9 : (9 : Int32).toInt = 9 := by decide
  have ei : (nI i).toInt = (i : Int) := nI_toInt (by omega)
  rw [about_eq, f_X10_about, wi_t (by omega) (by omega)]
  rfl
theorem in_now (dc hum w : Int32) {i : Nat} (hi : i < 20) : f_X9_input dc hum w (nI i) = ((f_X10_withHum dc hum w (nI i)).1.toInt32, ()) := by
  have em : i % 20 = i := Nat.mod_eq_of_lt hi
  rw [in_eq, f_X10_input, if_pos (nI_pos' (by omega)), rem20I (by omega), em]
theorem code_eq {l i : Nat} (hl : l ≤ 40) (hi : i < l) (pg : Nat → Int32) : f_X5_codeAt (nI l) pg (nI i) = (pg i, ()) := by
  have e40 : (40 : Int32) = nI 40 := by decide
  rw [f_X5_codeAt, if_neg (nI_pos (by omega)), if_neg (nI_ge hi (by omega)), e40, if_neg (nI_ge (by omega) (by decide)), nI_clamp (by omega)]
/-- the digest that both come to -/
noncomputable def pDig (dc hum w : Int32) (seed tk : Int64) (range : Int32) (au : Bool) (off N z : Int32) (K0 : Nat) (win : Int32) (wc : Bool) (pl mi sw : Int32) (ch : Int64) (ov : Bool) (su fl : Int64) (cs : Bool) (rt : Int32) (h0 t : Nat) (go : Int32) (cv sh ups downs jm st : Int32) (l : Nat) (cnt : Nat → Int32) (ms : Nat → Int64) (mc mr : Nat → Int32) (g : Nat → Int64) (told pg : Nat → Int32) : Int64 :=
  pF (fun j => ((f_X10_howMany (nI t) go cv sh ups downs jm st (nI l) (nI j)).1).toInt64) 9 0 (pF (fun j => (pg j).toInt64) l 0 (pF (fun j => (f_X10_withHum dc hum w (nI j)).1) 20 0 (zStep ms mc mr 2 (zStep ms mc mr 1 (zStep ms mc mr 0 (pF (fun j => ((f_X10_heldNow g (nI (j / 2)) (nI (j % 2))).1).toInt64) (2 * h0) 0 (pF (fun j => ((f_X10_filterNow (nI K0) (nI h0) g (nI j)).1).toInt64) 6 0 (pF (fun j => (told j).toInt64) (8 * min t 12) 0 (if wc = true then pF (fun j => ((f_X10_latestNow pl mi sw ch ov su fl cs rt cnt (nI j)).1).toInt64) 15 0 (pF (fun j => ((f_X10_aboutNow dc seed tk range au off N z (nI K0) win (nI j)).1).toInt64) 10 0 1601) else (pF (fun j => ((f_X10_aboutNow dc seed tk range au off N z (nI K0) win (nI j)).1).toInt64) 10 0 1601))))))))))
set_option maxHeartbeats 1000000 in
theorem digM (dc hum w : Int32) (seed tk : Int64) (range : Int32) (au : Bool) (off N z : Int32) {K0 : Nat} (win : Int32) (wc : Bool) (pl mi sw : Int32) (ch : Int64) (ov : Bool) (su fl : Int64) (cs : Bool) (rt : Int32) {h0 t : Nat} (go cv sh ups downs jm st : Int32) {l : Nat} (cnt : Nat → Int32) (ms : Nat → Int64) (mc mr : Nat → Int32) (g : Nat → Int64) (told pg : Nat → Int32) (hh : h0 ≤ 16) (hl : l ≤ 40) :
    f_X10_digest dc hum w seed tk range au off N z (nI K0) win wc pl mi sw ch ov su fl cs rt (nI h0) (nI (min t 12)) (nI t) go cv sh ups downs jm st (nI l) cnt ms mc mr g told pg = (pDig dc hum w seed tk range au off N z K0 win wc pl mi sw ch ov su fl cs rt h0 t go cv sh ups downs jm st l cnt ms mc mr g told pg, pDig dc hum w seed tk range au off N z K0 win wc pl mi sw ch ov su fl cs rt h0 t go cv sh ups downs jm st l cnt ms mc mr g told pg) := by
  have e2 : (2 : Int32) = nI 2 := by decide
  have e8 : (8 : Int32) = nI 8 := by decide
  -- the readings' part
  have mr1 : ∀ h : Int64, f_X10_mixReadings (nI K0) (nI h0) (nI (min t 12)) h ms mc mr g told = zStep ms mc mr 2 (zStep ms mc mr 1 (zStep ms mc mr 0 (pF (fun j => ((f_X10_heldNow g (nI (j / 2)) (nI (j % 2))).1).toInt64) (2 * h0) 0 (pF (fun j => ((f_X10_filterNow (nI K0) (nI h0) g (nI j)).1).toInt64) 6 0 (pF (fun j => (told j).toInt64) (8 * min t 12) 0 h))))) := by
    intro h
    have zs : ∀ q : Int64, f_X10_mixReadings_L89 ms mc mr (fun x => x) 4 (0, q) = zStep ms mc mr 2 (zStep ms mc mr 1 (zStep ms mc mr 0 q)) := by
      intro q
      have a := zsM ms mc mr (r := 0) (by decide) (fun x => x) 3 q
      rw [nI_0] at a
      rw [a, zsM ms mc mr (by decide), zsM ms mc mr (by decide), f_X10_mixReadings_L89, if_pos (by decide)]
    have f56 : ∀ (K : Int64 → Int64) (q : Int64), f_X10_mixReadings_L56 (nI h0) g K (((2 : Int32) * nI h0).toInt.toNat + 1) (0, q) = K (pF (fun j => ((f_X10_heldNow g (nI (j / 2)) (nI (j % 2))).1).toInt64) (2 * h0) 0 q) := by
      intro K q
      have a := lp_m56 (k := h0) g (u := fun j => (f_X10_heldNow g (nI (j / 2)) (nI (j % 2))).1) (by omega) (fun i hi => div2 (by omega)) K (((2 : Int32) * nI h0).toInt.toNat + 1) 0 q (by omega) (by rw [e2, pk_mul, nI_toInt (by omega)]; omega)
      rw [nI_0] at a
      exact a
    have f32 : ∀ (K : Int64 → Int64) (q : Int64), f_X10_mixReadings_L32 (nI K0) (nI h0) g K 7 (0, q) = K (pF (fun j => ((f_X10_filterNow (nI K0) (nI h0) g (nI j)).1).toInt64) 6 0 q) := by
      intro K q
      have a := lp_m32 (nI K0) (nI h0) g (u := fun j => (f_X10_filterNow (nI K0) (nI h0) g (nI j)).1) (fun i hi => rfl) K 7 0 q (by omega) (by omega)
      rw [nI_0] at a
      exact a
    have f2 : ∀ (K : Int64 → Int64) (q : Int64), f_X10_mixReadings_L2 (nI (min t 12)) told K (((8 : Int32) * nI (min t 12)).toInt.toNat + 1) (0, q) = K (pF (fun j => (told j).toInt64) (8 * min t 12) 0 q) := by
      intro K q
      have a := lp_m2 (k := min t 12) told (u := told) (by omega) (fun i hi => rfl) K (((8 : Int32) * nI (min t 12)).toInt.toNat + 1) 0 q (by omega) (by rw [e8, pk_mul, nI_toInt (by omega)]; omega)
      rw [nI_0] at a
      exact a
    rw [f_X10_mixReadings, f2, f32, f56, zs]
  have f9 : ∀ (K : Int64 → (Int64 × Int64)) (q : Int64), f_X10_digest_L9 dc seed tk range au off N z (nI K0) win K 11 (0, q) = K (pF (fun j => ((f_X10_aboutNow dc seed tk range au off N z (nI K0) win (nI j)).1).toInt64) 10 0 q) := by
    intro K q
    have a := lp_m9 dc seed tk range au off N z (nI K0) win (u := fun j => (f_X10_aboutNow dc seed tk range au off N z (nI K0) win (nI j)).1) (fun i hi => rfl) K 11 0 q (by omega) (by omega)
    rw [nI_0] at a
    exact a
  have f33 : ∀ (K : Int64 → (Int64 × Int64)) (q : Int64), f_X10_digest_L33 wc pl mi sw ch ov su fl cs rt cnt K 16 (0, q) = K (if wc = true then pF (fun j => ((f_X10_latestNow pl mi sw ch ov su fl cs rt cnt (nI j)).1).toInt64) 15 0 q else q) := by
    intro K q
    cases wc with
    | true =>
      have a := lp_m33 pl mi sw ch ov su fl cs rt cnt (u := fun j => (f_X10_latestNow pl mi sw ch ov su fl cs rt cnt (nI j)).1) (fun i hi => rfl) K 16 0 q (by omega) (by omega)
      rw [nI_0] at a
      rw [a, if_pos rfl]
    | false =>
      rw [f_X10_digest_L33, if_neg (by decide), if_neg (by decide), if_neg (by decide)]
  have f68 : ∀ (K : Int64 → (Int64 × Int64)) (q : Int64), f_X10_digest_L68 dc hum w K 21 (0, q) = K (pF (fun j => (f_X10_withHum dc hum w (nI j)).1) 20 0 q) := by
    intro K q
    have a := lp_m68 dc hum w (u := fun j => (f_X10_withHum dc hum w (nI j)).1) (fun i hi => rfl) K 21 0 q (by omega) (by omega)
    rw [nI_0] at a
    exact a
  have f91 : ∀ (K : Int64 → (Int64 × Int64)) (q : Int64), f_X10_digest_L91 (nI l) pg K ((nI l).toInt.toNat + 1) (0, q) = K (pF (fun j => (pg j).toInt64) l 0 q) := by
    intro K q
    have a := lp_m91 (l := l) pg (u := pg) hl (fun i hi => rfl) K ((nI l).toInt.toNat + 1) 0 q (by omega) (by rw [nI_toInt (by omega)]; omega)
    rw [nI_0] at a
    exact a
  have f118 : ∀ (K : Int64 → (Int64 × Int64)) (q : Int64), f_X10_digest_L118 (nI t) go cv sh ups downs jm st (nI l) K 10 (0, q) = K (pF (fun j => ((f_X10_howMany (nI t) go cv sh ups downs jm st (nI l) (nI j)).1).toInt64) 9 0 q) := by
    intro K q
    have a := lp_m118 (nI t) go cv sh ups downs jm st (nI l) (u := fun j => (f_X10_howMany (nI t) go cv sh ups downs jm st (nI l) (nI j)).1) (fun i hi => rfl) K 10 0 q (by omega) (by omega)
    rw [nI_0] at a
    exact a
  rw [f_X10_digest, f9, f33, mr1]
  dsimp only
  rw [f68, f91, f118]
  rfl
set_option maxHeartbeats 1000000 in
theorem digX {dc hum w : Int32} (seed tk : Int64) (range : Int32) (au : Bool) (off N z : Int32) {K0 : Nat} (win : Int32) {wc : Bool} (pl mi sw : Int32) (ch : Int64) (ov : Bool) (su fl : Int64) (cs : Bool) (rt : Int32) {h0 t : Nat} (go : Int32) {c : Nat} (sh ups downs jm st : Int32) {l : Nat} (cnt : Nat → Int32) {zs ms : Nat → Int64} {zc mc zn mr : Nat → Int32} {f g : Nat → Int64} {lcl told : Nat → Int32} (pg : Nat → Int32) (hd : -25000000 ≤ dc.toInt ∧ dc.toInt ≤ 25000000) (hhu : 0 ≤ hum.toInt ∧ hum.toInt ≤ 2000000) (hw : 0 ≤ w.toInt ∧ w.toInt ≤ 2) (hc : c < 2 ^ 31) (hwc : wc = true ↔ 0 < c) (ht : t < 2 ^ 30) (hl : l ≤ 40) (hZ : pZ zs ms zc mc zn mr) (hF : pFil h0 K0 f g) (hL : pLog t lcl told) :
    f_X9_digest au z ups downs st N tk (nI c) sh dc hum w seed range off cs rt ov pl mi sw ch su fl cnt zs zc zn (nI h0) (nI K0) win jm f (nI t) go lcl (nI l) pg = (pDig dc hum w seed tk range au off N z K0 win wc pl mi sw ch ov su fl cs rt h0 t go (nI c) sh ups downs jm st l cnt ms mc mr g told pg, ()) := by
  have hp1 := hF.1
  have hp2 := hF.2.2.1
  have f9 : ∀ (K : Int64 → (Int64 × Unit)) (q : Int64), f_X9_digest_L6 au z N tk dc seed range off (nI K0) win K 11 (q, 0) = K (pF (fun j => ((f_X10_aboutNow dc seed tk range au off N z (nI K0) win (nI j)).1).toInt64) 10 0 q) := by
    intro K q
    have a := lp_x6 au z N tk dc seed range off (nI K0) win (u := fun j => (f_X10_aboutNow dc seed tk range au off N z (nI K0) win (nI j)).1) (fun i hi => about_now _ _ _ _ _ _ _ _ _ _ hi) K 11 0 q (by omega) (by omega)
    rw [nI_0] at a
    exact a
  have f33 : ∀ (q : Int64), f_X9_foldLatest (nI c) cs rt ov pl mi sw ch su fl cnt q = ((if wc = true then pF (fun j => ((f_X10_latestNow pl mi sw ch ov su fl cs rt cnt (nI j)).1).toInt64) 15 0 q else q), ()) := by
    intro q
    rw [f_X9_foldLatest]
    by_cases h : c = 0
    · subst h
      rw [nI_0, if_pos rfl, if_neg (fun z => by have := hwc.mp z; omega)]
    · have a := lp_xlat (nI c) cs rt ov pl mi sw ch su fl cnt (u := fun j => (f_X10_latestNow pl mi sw ch ov su fl cs rt cnt (nI j)).1) (fun i hi => latest_now _ _ _ _ _ _ _ _ _ _ hc (by omega) hi) (fun l1 => (l1, ())) 16 0 q (by omega) (by omega)
      rw [nI_0] at a
      rw [if_neg (nI_ne0 (by omega) hc), if_pos (hwc.mpr (by omega)), a]
  have fR : ∀ (q : Int64), f_X9_foldReadings (nI t) lcl q = (pF (fun j => (told j).toInt64) (8 * min t 12) 0 q, ()) := by
    intro q
    have a := xr11 hL ht (fun l1 => (l1, ())) ((nI (min t 12)).toInt.toNat + 1) 0 q (by omega) (by rw [nI_toInt (by omega)]; omega)
    rw [nI_0, Nat.sub_zero, Nat.mul_zero] at a
    rw [f_X9_foldReadings, kept_eq (by omega)]
    exact a
  have fF : ∀ (q : Int64), f_X9_foldFilter (nI h0) (nI K0) f q = (pF (fun j => ((f_X10_heldNow g (nI (j / 2)) (nI (j % 2))).1).toInt64) (2 * h0) 0 (pF (fun j => ((f_X10_filterNow (nI K0) (nI h0) g (nI j)).1).toInt64) 6 0 q), ()) := by
    intro q
    have a := lp_xf2 (nI h0) (nI K0) f (u := fun j => (f_X10_filterNow (nI K0) (nI h0) g (nI j)).1) (fun i hi => by
      rw [filter_now hF (p := nI i) (by rw [nI_toInt (by omega)]; omega) (by rw [nI_toInt (by omega)]; omega)]) (fun l1 => f_X9_foldFilter_L27 (nI h0) f (fun l2 => (l2, ())) ((nI h0).toInt.toNat + 1) (l1, 0)) 7 0 q (by omega) (by omega)
    rw [nI_0] at a
    rw [f_X9_foldFilter, a]
    have b := xf27 hF (fun l2 => (l2, ())) ((nI h0).toInt.toNat + 1) 0 (pF (fun j => ((f_X10_filterNow (nI K0) (nI h0) g (nI j)).1).toInt64) 6 0 q) (by omega) (by rw [nI_toInt (by omega)]; omega)
    rw [nI_0, Nat.sub_zero, Nat.mul_zero] at b
    exact b
  have fZ : ∀ q : Int64, f_X9_foldZeros zs zc zn q = (zStep ms mc mr 2 (zStep ms mc mr 1 (zStep ms mc mr 0 q)), ()) := by
    intro q
    have a := zsX hZ (r := 0) (by decide) (fun x => (x, ())) 3 q
    rw [nI_0] at a
    rw [f_X9_foldZeros, a, zsX hZ (by decide), zsX hZ (by decide), f_X9_foldZeros_L2, if_pos (by decide)]
  have f68 : ∀ (K : Int64 → (Int64 × Unit)) (q : Int64), f_X9_digest_L55 dc hum w K 21 (q, 0) = K (pF (fun j => (f_X10_withHum dc hum w (nI j)).1) 20 0 q) := by
    intro K q
    have a := lp_x55 dc hum w (u := fun j => (f_X10_withHum dc hum w (nI j)).1.toInt32) (fun i hi => in_now _ _ _ hi) K 21 0 q (by omega) (by omega)
    rw [nI_0] at a
    have e : pF (fun j => ((f_X10_withHum dc hum w (nI j)).1.toInt32).toInt64) 20 0 q = pF (fun j => (f_X10_withHum dc hum w (nI j)).1) 20 0 q := by
      refine pF_congr 20 0 0 q (fun j hj => ?_)
      have b := wh_bd hd hhu hw hj
      rw [Nat.zero_add]
      exact l2i2l b.1 b.2
    rw [← e]
    exact a
  have f91 : ∀ (K : Int64 → (Int64 × Unit)) (q : Int64), f_X9_digest_L80 (nI l) pg K ((nI l).toInt.toNat + 1) (q, 0) = K (pF (fun j => (pg j).toInt64) l 0 q) := by
    intro K q
    have a := lp_x80 (l := l) pg (u := pg) hl (fun i hi => code_eq hl hi pg) K ((nI l).toInt.toNat + 1) 0 q (by omega) (by rw [nI_toInt (by omega)]; omega)
    rw [nI_0] at a
    exact a
  have f118 : ∀ (K : Int64 → (Int64 × Unit)) (q : Int64), f_X9_digest_L113 ups downs st (nI c) sh jm (nI t) go (nI l) K 10 (q, 0) = K (pF (fun j => ((f_X10_howMany (nI t) go (nI c) sh ups downs jm st (nI l) (nI j)).1).toInt64) 9 0 q) := by
    intro K q
    have a := lp_x113 ups downs st (nI c) sh jm (nI t) go (nI l) (u := fun j => (f_X10_howMany (nI t) go (nI c) sh ups downs jm st (nI l) (nI j)).1) (fun i hi => by rw [count_eq, f_X10_count]) K 10 0 q (by omega) (by omega)
    rw [nI_0] at a
    exact a
  rw [f_X9_digest, f9, f33]
  dsimp only
  rw [fR]
  dsimp only
  rw [fF]
  dsimp only
  rw [fZ]
  dsimp only
  rw [f68, f91, f118]
  rfl
