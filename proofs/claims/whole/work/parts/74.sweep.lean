/-! sweeps, and what is set -/
noncomputable def swX (q : (Int64 × Int64 × Int32 × Int32 × Int32 × Int64 × Int32 × Bool × Int32 × Bool × Int32 × Int32 × Int32 × Int64 × Int64 × Int64 × Int32 × (Nat → Int32))) : (Int32 × (Int64 × Int32 × Int32 × Int64 × Int32 × Bool × Int32 × Bool × Int32 × Int32 × Int32 × Int64 × Int64 × Int64 × Int32 × (Nat → Int32))) := match q with | (l7, t, cv, sh, dc, seed, off, cs, rt, ov, pl, mi, sw, ch, su, fl, sg, cnt) => (l7.toInt32, (t, cv, sh, seed, off, cs, rt, ov, pl, mi, sw, ch, su, fl, sg, cnt))
noncomputable def swM (q : (Int64 × Int32 × Int64 × Int64 × Int32 × Bool × Int32 × Int32 × Int32 × Int64 × Bool × Int64 × Int64 × Bool × Int32 × Int32 × Int32 × (Nat → Int32))) : (Int32 × (Int64 × Int64 × Int32 × Bool × Int32 × Int32 × Int32 × Int64 × Bool × Int64 × Int64 × Bool × Int32 × Int32 × Int32 × (Nat → Int32))) := match q with | (l5, dc, seed, t, off, wc, pl, mi, sw, ch, ov, su, fl, cs, rt, cv, sh, cnt) => (l5.toInt32, (seed, t, off, wc, pl, mi, sw, ch, ov, su, fl, cs, rt, cv, sh, cnt))
theorem sw_dc (p0 p1 : Int32) (i : Nat) : (p0.toInt64 + (p1.toInt64 * (nI i).toInt64)).toInt32 = p0 + (nI i * p1) := by
  rw [Int64.toInt32_add, Int64.toInt32_mul, Int32.toInt32_toInt64, Int32.toInt32_toInt64, Int32.toInt32_toInt64, Int32.mul_comm]
theorem sw_by {l su fl : Int64} (h1 : -200000000000 ≤ su.toInt ∧ su.toInt ≤ 200000000000) (h2 : -200000000000 ≤ fl.toInt ∧ fl.toInt ≤ 200000000000) {ρ : Type} (k : Int64 → ρ) : k (gMaxL l (f_X2_error su fl).1) = (if su ≤ fl then (if (fl - su) ≤ l then k l else k (fl - su)) else (if (su - fl) ≤ l then k l else k (su - fl))) := by
  rw [max_eq, f_X2_error]
  dsimp only
  by_cases c : su ≤ fl
  · rw [if_pos c, abs_lo c (by omega) (by omega)]
    by_cases d : fl - su ≤ l
    · rw [if_pos d, if_pos d]
    · rw [if_neg d, if_neg d]
  · rw [if_neg c, abs_hi c (by omega) (by omega)]
    by_cases d : su - fl ≤ l
    · rw [if_pos d, if_pos d]
    · rw [if_neg d, if_neg d]
set_option maxHeartbeats 1000000 in
theorem sw_sim (hum w : Int32) {n : Int32} (range creep p0 p1 : Int32) {N k : Nat} (hN : N ≤ 50) (hn : 0 ≤ n.toInt ∧ n.toInt ≤ 10000) (hk : 1 ≤ k ∧ k ≤ 8) (c0 : Nat) (wc0 : Bool) {t0 : Int64} (h0 : 0 ≤ t0.toInt ∧ t0.toInt ≤ 90000000000000) :
    ∀ (m i : Nat) (l t : Int64) (sh dc : Int32) (seed : Int64) (off : Int32) (cs : Bool) (rt : Int32) (ov : Bool) (pl mi sw : Int32) (ch su fl : Int64) (sg : Int32) (cnt : Nat → Int32) (dc2 : Int32) (wc : Bool), i ≤ k → k - i < m → t0.toInt ≤ t.toInt → t.toInt ≤ t0.toInt + 5000 * i → (wc = true ↔ (wc0 = true ∨ 0 < i)) →
      ∃ r x y, f_X9_sweep_L69 (nI N) hum w n range creep p0 p1 (nI k) swX m (l, nI i, t, nI (c0 + i), sh, dc, seed, off, cs, rt, ov, pl, mi, sw, ch, su, fl, sg, cnt) = (r, x) ∧ f_X10_sweepNow_L12 hum w n range creep (nI N) p0 p1 (nI k) swM m (l, nI i, dc2, seed, t, off, wc, pl, mi, sw, ch, ov, su, fl, cs, rt, nI (c0 + i), sh, cnt) = (r, y) ∧ pC c0 wc0 t0 40000 x y := by
  intro m
  induction m with
  | zero => intro i l t sh dc seed off cs rt ov pl mi sw ch su fl sg cnt dc2 wc _ h; omega
  | succ m ih =>
    intro i l t sh dc seed off cs rt ov pl mi sw ch su fl sg cnt dc2 wc hi hm ht1 ht2 hw
    rw [f_X9_sweep_L69, f_X10_sweepNow_L12]
    by_cases hik : i = k
    · rw [if_pos (nI_le (by omega) (by omega)), if_pos (nI_le (by omega) (by omega))]
      exact ⟨l.toInt32, _, _, rfl, rfl, t, seed, off, cs, rt, sh, ov, pl, mi, sw, ch, su, fl, sg, cnt, i, wc, rfl, rfl, by omega, by omega, by omega, hw⟩
    · obtain ⟨t', seed', off', ov', pl', mi', sw', ch', su', fl', sg', cnt', hx, hy, hb1, hb2, hb3, hb4⟩ := conv_eq (p0 + (nI i * p1)) hum w seed (t0 := t) range off creep (nI (c0 + i)) sh cnt false hN hn (by omega)
      rw [nI_1, if_neg (by decide)] at hx hy
      rw [if_neg (nI_ge (by omega) (by omega)), if_neg (nI_ge (by omega) (by omega)), sw_dc, hx, hy]
      dsimp only
      have key := ih (i + 1) (gMaxL l (f_X2_error su' fl').1) t' sh (p0 + (nI i * p1)) seed' off' false range ov' pl' mi' sw' ch' su' fl' sg' cnt' (p0 + (nI i * p1)) true (by omega) (by omega) (by omega) (by omega) ⟨fun _ => Or.inr (by omega), fun _ => rfl⟩
      obtain ⟨r, x, y, kx, ky, kp⟩ := key
      refine ⟨r, x, y, ?_, ?_, kp⟩
      · rw [nI_1]
        exact kx
      · rw [nI_1, ← ky]
        exact (sw_by hb3 hb4 (fun q => f_X10_sweepNow_L12 hum w n range creep (nI N) p0 p1 (nI k) swM m (q, nI (i + 1), p0 + nI i * p1, seed', t', off', true, pl', mi', sw', ch', ov', su', fl', false, range, nI (c0 + (i + 1)), sh, cnt'))).symm
theorem w9_t {x B : Int64} {b : Int} (hB : B.toInt = b) (h0 : 0 ≤ b) (h : -b ≤ x.toInt ∧ x.toInt ≤ b) : f_X9_within x B = (true, ()) := by
  rw [f_X9_within, if_neg (fun q => by have := gl_lt.mp q; rw [neg_T (by omega)] at this; omega), if_neg (fun q => by have := gl_lt.mp q; omega)]
theorem w9_f {x B : Int64} {b : Int} (hB : B.toInt = b) (h0 : 0 ≤ b) (h : ¬ (-b ≤ x.toInt ∧ x.toInt ≤ b)) : f_X9_within x B = (false, ()) := by
  rw [f_X9_within]
  by_cases h1 : x < -B
  · rw [if_pos h1]
  · have i1 : ¬ x.toInt < (-B).toInt := fun q => h1 (gl_lt.mpr q)
    rw [neg_T (by omega)] at i1
    rw [if_neg h1, if_pos (gl_lt.mpr (by omega))]
theorem sweep_eq (dc hum w : Int32) {n : Int32} (seed : Int64) {tk : Int64} (range off creep : Int32) (c : Nat) (sh : Int32) (cs : Bool) (rt : Int32) (ov : Bool) (pl mi sw : Int32) (ch su fl : Int64) (sg : Int32) (cnt : Nat → Int32) (wc : Bool) {N : Nat} (hN : N ≤ 50) (hn : 0 ≤ n.toInt ∧ n.toInt ≤ 10000) (ht : 0 ≤ tk.toInt ∧ tk.toInt ≤ 90000000000000) (p q k : Int32) :
    ∃ r x m, f_X9_sweep (nI N) tk (nI c) sh dc hum w n seed range off creep cs rt ov pl mi sw ch su fl sg cnt p q k = (r, x) ∧ f_X10_sweep dc hum w n seed tk range off creep (nI N) wc pl mi sw ch ov su fl cs rt (nI c) sh cnt p q k = (r, m) ∧ pC c wc tk 40000 x m := by
  have sam : pC c wc tk 40000 (tk, nI c, sh, seed, off, cs, rt, ov, pl, mi, sw, ch, su, fl, sg, cnt) (seed, tk, off, wc, pl, mi, sw, ch, ov, su, fl, cs, rt, nI c, sh, cnt) :=
    ⟨tk, seed, off, cs, rt, sh, ov, pl, mi, sw, ch, su, fl, sg, cnt, 0, wc, rfl, rfl, by omega, by omega, by omega, ⟨fun q => Or.inl q, fun q => q.elim (fun a => a) (fun a => absurd a (by omega))⟩⟩
  have eb : (25000000 : Int64).toInt = 25000000 := by decide
  have em : (-25000000 : Int64).toInt = -25000000 := by decide
  have e1 : (1 : Int32).toInt = 1 := by decide
  have e8 : (8 : Int32).toInt = 8 := by decide
  have ib : (25000000 : Int32).toInt = 25000000 := by decide
  have im : (-25000000 : Int32).toInt = -25000000 := by decide
  have ep : (p.toInt64).toInt = p.toInt := Int32.toInt_toInt64 _
  rw [f_X9_sweep, f_X10_sweep]
  by_cases a1 : -25000000 ≤ p.toInt ∧ p.toInt ≤ 25000000
  · rw [w9_t eb (by decide) (by rw [ep]; exact a1), wi_t (by omega) (by omega)]
    dsimp only
    rw [if_pos rfl, if_pos rfl]
    by_cases a2 : k < 1
    · have i2 := gi_lt a2 rfl e1
      rw [if_pos a2, wi_f (by omega)]
      exact ⟨_, _, _, rfl, rfl, sam⟩
    · have i2 := gi_nlt a2 rfl e1
      rw [if_neg a2]
      by_cases a3 : k ≤ 8
      · have i3 := gi_le a3 rfl e8
        rw [if_pos a3, wi_t (by omega) (by omega)]
        dsimp only
        rw [if_pos rfl]
        generalize p.toInt64 + (q.toInt64 * (k - (1 : Int32)).toInt64) = last
        by_cases a4 : -25000000 ≤ last.toInt ∧ last.toInt ≤ 25000000
        · rw [w9_t eb (by decide) a4]
          dsimp only
          rw [if_pos rfl, if_neg (fun z => by have := gl_lt.mp z; omega), if_pos (gl_le.mpr (by omega))]
          obtain ⟨j, j1, j2, j3⟩ := nI_of' (x := k) (by omega)
          subst j2
          have key := sw_sim hum w range creep p q hN hn (k := j) (by omega) c wc ht ((nI j).toInt.toNat + 1) 0 0 tk sh dc seed off cs rt ov pl mi sw ch su fl sg cnt dc wc (by omega) (by omega) (by omega) (by omega) ⟨fun z => Or.inl z, fun z => z.elim (fun a => a) (fun a => absurd a (by omega))⟩
          rw [nI_0, Nat.add_zero] at key
          obtain ⟨r, x, y, kx, ky, kp⟩ := key
          have ky' : f_X10_sweepNow dc hum w n seed tk range off creep (nI N) wc pl mi sw ch ov su fl cs rt (nI c) sh cnt p q (nI j) = (r, y) := by
            rw [f_X10_sweepNow]
            exact ky
          have kp2 := kp
          obtain ⟨t', seed', off', cs', rt', sh', ov', pl', mi', sw', ch', su', fl', sg', cnt', jj, wc', rfl, rfl, q1, q2, q3, q4⟩ := kp
          rw [ky']
          exact ⟨r, _, _, kx, rfl, kp2⟩
        · rw [w9_f eb (by decide) a4]
          dsimp only
          rw [if_neg (by decide)]
          by_cases a5 : (25000000 : Int64) < last
          · rw [if_pos a5]
            exact ⟨_, _, _, rfl, rfl, sam⟩
          · have i5 : ¬ (25000000 : Int64).toInt < last.toInt := fun z => a5 (gl_lt.mpr z)
            rw [if_neg a5, if_neg (fun z => by have := gl_le.mp z; omega)]
            exact ⟨_, _, _, rfl, rfl, sam⟩
      · have i3 := gi_nle a3 rfl e8
        rw [if_neg a3, wi_f (by omega)]
        exact ⟨_, _, _, rfl, rfl, sam⟩
  · rw [w9_f eb (by decide) (by rw [ep]; exact a1), wi_f (by omega)]
    exact ⟨_, _, _, rfl, rfl, sam⟩
/-! what is set -/
theorem dc_eq {d : Int32} (h : -25000000 ≤ d.toInt ∧ d.toInt ≤ 25000000) (p : Int32) : ∃ r d', f_X9_dc d p = (r, d') ∧ f_X10_dc d p = (r, d') ∧ (-25000000 ≤ d'.toInt ∧ d'.toInt ≤ 25000000) := by
  have eb : (25000000 : Int64).toInt = 25000000 := by decide
  have ib : (25000000 : Int32).toInt = 25000000 := by decide
  have im : (-25000000 : Int32).toInt = -25000000 := by decide
  have ep : (p.toInt64).toInt = p.toInt := Int32.toInt_toInt64 _
  rw [f_X9_dc, f_X10_dc]
  by_cases a1 : -25000000 ≤ p.toInt ∧ p.toInt ≤ 25000000
  · rw [w9_t eb (by decide) (by rw [ep]; exact a1), wi_t (by omega) (by omega)]
    exact ⟨d, p, rfl, rfl, a1⟩
  · rw [w9_f eb (by decide) (by rw [ep]; exact a1), wi_f (by omega)]
    exact ⟨_, d, rfl, rfl, h⟩
theorem hum_eq {a b : Int32} (h : (0 ≤ a.toInt ∧ a.toInt ≤ 2000000) ∧ 0 ≤ b.toInt ∧ b.toInt ≤ 2) (p q : Int32) : ∃ r a' b', f_X9_hum a b p q = (r, (a', b')) ∧ f_X10_hum a b p q = (r, (a', b')) ∧ (0 ≤ a'.toInt ∧ a'.toInt ≤ 2000000) ∧ 0 ≤ b'.toInt ∧ b'.toInt ≤ 2 := by
  have e0 : (0 : Int32).toInt = 0 := by decide
  have e2 : (2 : Int32).toInt = 2 := by decide
  have e3 : (3 : Int32).toInt = 3 := by decide
  have eM : (2000000 : Int32).toInt = 2000000 := by decide
  rw [f_X9_hum, f_X10_hum]
  by_cases a1 : p < 0
  · have i1 := gi_lt a1 rfl e0
    rw [if_pos a1, wi_f (by omega)]
    exact ⟨_, a, b, rfl, rfl, h⟩
  · have i1 := gi_nlt a1 rfl e0
    rw [if_neg a1]
    by_cases a2 : (2000000 : Int32) < p
    · have i2 := gi_lt a2 eM rfl
      rw [if_pos a2, wi_f (by omega)]
      exact ⟨_, a, b, rfl, rfl, h⟩
    · have i2 := gi_nlt a2 eM rfl
      rw [if_neg a2, wi_t (by omega) (by omega)]
      by_cases a3 : q < 0
      · have i3 := gi_lt a3 rfl e0
        rw [if_pos a3, wi_f (by omega)]
        exact ⟨_, a, b, rfl, rfl, h⟩
      · have i3 := gi_nlt a3 rfl e0
        rw [if_neg a3]
        by_cases a4 : q < 3
        · have i4 := gi_lt a4 rfl e3
          rw [if_pos a4, wi_t (by omega) (by omega)]
          exact ⟨a, p, q, rfl, rfl, ⟨i1, i2⟩, i3, by omega⟩
        · have i4 := gi_nlt a4 rfl e3
          rw [if_neg a4, wi_f (by omega)]
          exact ⟨_, a, b, rfl, rfl, h⟩
theorem noise_eq {a : Int32} (h : 0 ≤ a.toInt ∧ a.toInt ≤ 10000) (p : Int32) : ∃ r a', f_X9_noise a p = (r, a') ∧ f_X10_noise a p = (r, a') ∧ (0 ≤ a'.toInt ∧ a'.toInt ≤ 10000) := by
  have e0 : (0 : Int32).toInt = 0 := by decide
  have eM : (10000 : Int32).toInt = 10000 := by decide
  rw [f_X9_noise, f_X10_noise]
  by_cases a1 : p < 0
  · have i1 := gi_lt a1 rfl e0
    rw [if_pos a1, wi_f (by omega)]
    exact ⟨_, a, rfl, rfl, h⟩
  · have i1 := gi_nlt a1 rfl e0
    rw [if_neg a1]
    by_cases a2 : p ≤ (10000 : Int32)
    · have i2 := gi_le a2 rfl eM
      rw [if_pos a2, wi_t (by omega) (by omega)]
      exact ⟨a, p, rfl, rfl, i1, i2⟩
    · have i2 := gi_nle a2 rfl eM
      rw [if_neg a2, wi_f (by omega)]
      exact ⟨_, a, rfl, rfl, h⟩
theorem seed_eq (a : Int64) (p : Int32) : f_X9_seed a p = f_X10_seed a p := by rw [f_X9_seed, f_X10_seed]
theorem ampl_eq {a b : Int32}  (p q : Int32) : ∃ r a' b', f_X9_amplifier a b p q = (r, (a', b')) ∧ f_X10_amplifier a b p q = (r, (a', b')) := by
  have eb : (2000 : Int64).toInt = 2000 := by decide
  have ed : (50 : Int64).toInt = 50 := by decide
  have ib : (2000 : Int32).toInt = 2000 := by decide
  have im : (-2000 : Int32).toInt = -2000 := by decide
  have jb : (50 : Int32).toInt = 50 := by decide
  have jm : (-50 : Int32).toInt = -50 := by decide
  have ep : (p.toInt64).toInt = p.toInt := Int32.toInt_toInt64 _
  have eq : (q.toInt64).toInt = q.toInt := Int32.toInt_toInt64 _
  rw [f_X9_amplifier, f_X10_amplifier]
  by_cases a1 : -2000 ≤ p.toInt ∧ p.toInt ≤ 2000
  · rw [w9_t eb (by decide) (by rw [ep]; exact a1), wi_t (by omega) (by omega)]
    by_cases a2 : -50 ≤ q.toInt ∧ q.toInt ≤ 50
    · rw [w9_t ed (by decide) (by rw [eq]; exact a2), wi_t (by omega) (by omega)]
      exact ⟨a, p, q, rfl, rfl⟩
    · rw [w9_f ed (by decide) (by rw [eq]; exact a2), wi_f (by omega)]
      exact ⟨_, a, b, rfl, rfl⟩
  · rw [w9_f eb (by decide) (by rw [ep]; exact a1), wi_f (by omega)]
    exact ⟨_, a, b, rfl, rfl⟩
theorem corr_eq {a b : Int32} (h : a.toInt.natAbs ≤ 1000 ∧ b.toInt.natAbs ≤ 1000000) (p q : Int32) : ∃ r a' b', f_X9_correct a b p q = (r, (a', b')) ∧ f_X10_correct a b p q = (r, (a', b')) ∧ a'.toInt.natAbs ≤ 1000 ∧ b'.toInt.natAbs ≤ 1000000 := by
  have eb : (1000 : Int64).toInt = 1000 := by decide
  have ed : (1000000 : Int64).toInt = 1000000 := by decide
  have ib : (1000 : Int32).toInt = 1000 := by decide
  have im : (-1000 : Int32).toInt = -1000 := by decide
  have jb : (1000000 : Int32).toInt = 1000000 := by decide
  have jm : (-1000000 : Int32).toInt = -1000000 := by decide
  have ep : (p.toInt64).toInt = p.toInt := Int32.toInt_toInt64 _
  have eq : (q.toInt64).toInt = q.toInt := Int32.toInt_toInt64 _
  rw [f_X9_correct, f_X10_correct]
  by_cases a1 : -1000 ≤ p.toInt ∧ p.toInt ≤ 1000
  · rw [w9_t eb (by decide) (by rw [ep]; exact a1), wi_t (by omega) (by omega)]
    by_cases a2 : -1000000 ≤ q.toInt ∧ q.toInt ≤ 1000000
    · rw [w9_t ed (by decide) (by rw [eq]; exact a2), wi_t (by omega) (by omega)]
      exact ⟨a, p, q, rfl, rfl, by omega, by omega⟩
    · rw [w9_f ed (by decide) (by rw [eq]; exact a2), wi_f (by omega)]
      exact ⟨_, a, b, rfl, rfl, h⟩
  · rw [w9_f eb (by decide) (by rw [ep]; exact a1), wi_f (by omega)]
    exact ⟨_, a, b, rfl, rfl, h⟩
theorem letter_eq {l : Nat} (h : l ≤ 40) (pg : Nat → Int32) (p : Int32) : ∃ r l' pg', f_X9_letter (nI l) pg p = (r, (nI l', pg')) ∧ f_X10_letter (nI l) pg p = (r, (nI l', pg')) ∧ l' ≤ 40 := by
  have e0 : (32 : Int32).toInt = 32 := by decide
  have eM : (126 : Int32).toInt = 126 := by decide
  have e40 : (40 : Int32) = nI 40 := by decide
  rw [f_X9_letter, f_X10_letter]
  by_cases a1 : p < 32
  · have i1 := gi_lt a1 rfl e0
    rw [if_pos a1, wi_f (by omega)]
    exact ⟨_, l, pg, rfl, rfl, h⟩
  · have i1 := gi_nlt a1 rfl e0
    rw [if_neg a1]
    by_cases a2 : p ≤ (126 : Int32)
    · have i2 := gi_le a2 rfl eM
      rw [if_pos a2, wi_t (by omega) (by omega), f_X5_write, if_neg (nI_pos (by omega)), e40]
      dsimp only
      rw [if_pos rfl]
      by_cases hl : l = 40
      · subst hl
        rw [if_neg (nI_nlt (by omega) (by omega)), if_pos rfl]
        exact ⟨_, 40, pg, rfl, rfl, h⟩
      · rw [if_pos (nI_lt (by omega) (by omega)), if_neg (fun q => hl ((nI_eq (by omega) (by omega)).mp q)), nI_1]
        exact ⟨_, l + 1, _, rfl, rfl, by omega⟩
    · have i2 := gi_nle a2 rfl eM
      rw [if_neg a2, wi_f (by omega)]
      exact ⟨_, l, pg, rfl, rfl, h⟩
