/-! readings, conversions, sweeps -/
set_option maxHeartbeats 1000000 in
theorem gn_sim (dc hum w : Int32) {n : Int32} (au : Bool) (creep : Int32) {z factor shift : Int32} (win : Int32) {N K k : Nat} (hN : 1 ≤ N ∧ N ≤ 50) (hn : 0 ≤ n.toInt ∧ n.toInt ≤ 10000) (hz : 0 ≤ z.toInt) (hfa : factor.toInt.natAbs ≤ 1000) (hsh : shift.toInt.natAbs ≤ 1000000) (hk : k ≤ 9) :
    ∀ (m i B t : Nat) (a : Int32) (x : (Int32 × Int32 × Int64 × Int32 × Int32 × Int64 × Int32 × Int32 × Bool × Int32 × Bool × Int32 × Int32 × Int32 × Int64 × Int64 × Int64 × Int32 × (Nat → Int32) × (Nat → Int64) × (Nat → Int32) × (Nat → Int32) × Int32 × Int32 × (Nat → Int64) × Int32 × Int32 × (Nat → Int32))) (y : (Int64 × Int64 × Int32 × Int32 × Bool × Int32 × Int32 × Int32 × Int64 × Bool × Int64 × Int64 × Bool × Int32 × Int32 × Int32 × Int32 × Int32 × Int32 × Int32 × Int32 × Int32 × Int32 × (Nat → Int32) × (Nat → Int64) × (Nat → Int32) × (Nat → Int32) × (Nat → Int64) × (Nat → Int32))), i ≤ k → k - i < m → B + (k - i) ≤ 1000000 → pM B K t x y →
      ∃ (r : Int32) (x' : (Int32 × Int32 × Int64 × Int32 × Int32 × Int64 × Int32 × Int32 × Bool × Int32 × Bool × Int32 × Int32 × Int32 × Int64 × Int64 × Int64 × Int32 × (Nat → Int32) × (Nat → Int64) × (Nat → Int32) × (Nat → Int32) × Int32 × Int32 × (Nat → Int64) × Int32 × Int32 × (Nat → Int32))) (y' : (Int64 × Int64 × Int32 × Int32 × Bool × Int32 × Int32 × Int32 × Int64 × Bool × Int64 × Int64 × Bool × Int32 × Int32 × Int32 × Int32 × Int32 × Int32 × Int32 × Int32 × Int32 × Int32 × (Nat → Int32) × (Nat → Int64) × (Nat → Int32) × (Nat → Int32) × (Nat → Int64) × (Nat → Int32))), f_X9_takeReadings_L4 au z factor shift (nI N) dc hum w n creep (nI K) win (nI k) (fun q => q) m (a, nI i, x) = (r, x') ∧ f_X10_goNow_L4 dc hum w n au creep factor shift (nI N) z (nI K) win (nI k) (fun q => q) m (a, nI i, y) = (r, y') ∧ pM (B + (k - i)) K (t + (k - i)) x' y' := by
  intro m
  induction m with
  | zero => intro i B t a x y _ h; omega
  | succ m ih =>
    intro i B t a x y hi hm hB hp
    have hp0 := hp
    obtain ⟨ups, downs, tk, c, sh, seed, range, off, cs, rt, ov, pl, mi, sw, ch, su, fl, sg, cnt, zs, ms, zc, mc, zn, mr, h, jm, f, g, go, lcl, told, wc, rfl, rfl, hI⟩ := hp
    rw [f_X9_takeReadings_L4, f_X10_goNow_L4]
    by_cases hik : i = k
    · rw [if_pos (nI_le (by omega) (by omega)), if_pos (nI_le (by omega) (by omega))]
      have e1 : k - i = 0 := by omega
      rw [e1]
      exact ⟨_, _, _, rfl, rfl, hp0⟩
    · obtain ⟨b, x1, y1, hx, hy, hp1⟩ := tr_eq dc hum w au creep win hN hn hz hfa hsh (B := B) (K := K) (by omega) ups downs tk c sh seed range off cs rt ov pl mi sw ch su fl sg cnt zs ms zc mc zn mr h jm f g t go lcl told wc hI
      have hp2 := hp1
      obtain ⟨ups1, downs1, tk1, c1, sh1, seed1, range1, off1, cs1, rt1, ov1, pl1, mi1, sw1, ch1, su1, fl1, sg1, cnt1, zs1, ms1, zc1, mc1, zn1, mr1, h1, jm1, f1, g1, go1, lcl1, told1, wc1, rfl, rfl, hI1⟩ := hp1
      rw [if_neg (nI_ge (by omega) (by omega)), if_neg (nI_ge (by omega) (by omega)), hx, hy]
      dsimp only
      rw [gB1, gB1, ite_k2, nI_1]
      have ea : (if b = true then a + 1 else a) = a + bI b := by
        cases b with
        | true => rfl
        | false => exact (bI_0 a).symm
      rw [ea]
      have e1 : B + (k - i) = B + 1 + (k - (i + 1)) := by omega
      have e2 : t + (k - i) = t + 1 + (k - (i + 1)) := by omega
      rw [e1, e2]
      exact ih (i + 1) (B + 1) (t + 1) (a + bI b) _ _ (by omega) (by omega) (by omega) hp2
theorem gn_eq (dc hum w : Int32) {n : Int32} (au : Bool) (creep : Int32) {z factor shift : Int32} (win : Int32) {N B K : Nat} (hN : 1 ≤ N ∧ N ≤ 50) (hn : 0 ≤ n.toInt ∧ n.toInt ≤ 10000) (hz : 0 ≤ z.toInt) (hfa : factor.toInt.natAbs ≤ 1000) (hsh : shift.toInt.natAbs ≤ 1000000) (ups downs : Int32) (tk : Int64) (c : Nat) (sh : Int32) (seed : Int64) (range off : Int32) (cs : Bool) (rt : Int32) (ov : Bool) (pl mi sw : Int32) (ch su fl : Int64) (sg : Int32) (cnt : Nat → Int32) (zs ms : Nat → Int64) (zc mc zn mr : Nat → Int32) (h : Nat) (jm : Int32) (f g : Nat → Int64) (t : Nat) (go : Int32) (lcl told : Nat → Int32) (wc : Bool) (hi : iM B K c t h tk range wc zs ms zc mc zn mr f g lcl told) {k : Nat} (hk : k ≤ 9) (hB : B + k ≤ 1000000) :
    ∃ (r : Int32) (x : (Int32 × Int32 × Int64 × Int32 × Int32 × Int64 × Int32 × Int32 × Bool × Int32 × Bool × Int32 × Int32 × Int32 × Int64 × Int64 × Int64 × Int32 × (Nat → Int32) × (Nat → Int64) × (Nat → Int32) × (Nat → Int32) × Int32 × Int32 × (Nat → Int64) × Int32 × Int32 × (Nat → Int32))) (m : (Int64 × Int64 × Int32 × Int32 × Bool × Int32 × Int32 × Int32 × Int64 × Bool × Int64 × Int64 × Bool × Int32 × Int32 × Int32 × Int32 × Int32 × Int32 × Int32 × Int32 × Int32 × Int32 × (Nat → Int32) × (Nat → Int64) × (Nat → Int32) × (Nat → Int32) × (Nat → Int64) × (Nat → Int32))), f_X9_takeReadings au z factor shift ups downs (nI N) tk (nI c) sh dc hum w n seed range off creep cs rt ov pl mi sw ch su fl sg cnt zs zc zn (nI h) (nI K) win jm f (nI t) go lcl (nI k) = (r, x) ∧ f_X10_goNow dc hum w n seed tk range au off creep factor shift (nI N) z (nI K) win wc pl mi sw ch ov su fl cs rt (nI h) (nI (min t 12)) (nI t) go (nI c) sh ups downs jm cnt ms mc mr g told (nI k) = (r, m) ∧ pM (B + k) K (t + k) x m := by
  have ek : (nI k).toInt = (k : Int) := nI_toInt (by omega)
  have main := gn_sim dc hum w au creep win hN hn hz hfa hsh (K := K) hk ((nI k).toInt.toNat + 1) 0 B t 0 (ups, downs, tk, nI c, sh, seed, range, off, cs, rt, ov, pl, mi, sw, ch, su, fl, sg, cnt, zs, zc, zn, nI h, jm, f, nI t, go, lcl) (seed, tk, range, off, wc, pl, mi, sw, ch, ov, su, fl, cs, rt, nI h, nI (min t 12), nI t, go, nI c, sh, ups, downs, jm, cnt, ms, mc, mr, g, told) (by omega) (by omega) (by omega) ⟨ups, downs, tk, c, sh, seed, range, off, cs, rt, ov, pl, mi, sw, ch, su, fl, sg, cnt, zs, ms, zc, mc, zn, mr, h, jm, f, g, go, lcl, told, wc, rfl, rfl, hi⟩
  rw [nI_0] at main
  rw [f_X9_takeReadings, f_X10_goNow]
  exact main
theorem go_eq (dc hum w : Int32) {n : Int32} (au : Bool) (creep : Int32) {z factor shift : Int32} (win : Int32) {N B K : Nat} (hN : 1 ≤ N ∧ N ≤ 50) (hn : 0 ≤ n.toInt ∧ n.toInt ≤ 10000) (hz : 0 ≤ z.toInt) (hfa : factor.toInt.natAbs ≤ 1000) (hsh : shift.toInt.natAbs ≤ 1000000) (ups downs : Int32) (tk : Int64) (c : Nat) (sh : Int32) (seed : Int64) (range off : Int32) (cs : Bool) (rt : Int32) (ov : Bool) (pl mi sw : Int32) (ch su fl : Int64) (sg : Int32) (cnt : Nat → Int32) (zs ms : Nat → Int64) (zc mc zn mr : Nat → Int32) (h : Nat) (jm : Int32) (f g : Nat → Int64) (t : Nat) (go : Int32) (lcl told : Nat → Int32) (wc : Bool) (hi : iM B K c t h tk range wc zs ms zc mc zn mr f g lcl told) (p : Int32) (hB : B + 9 ≤ 1000000) :
    ∃ (r : Int32) (x : (Int32 × Int32 × Int64 × Int32 × Int32 × Int64 × Int32 × Int32 × Bool × Int32 × Bool × Int32 × Int32 × Int32 × Int64 × Int64 × Int64 × Int32 × (Nat → Int32) × (Nat → Int64) × (Nat → Int32) × (Nat → Int32) × Int32 × Int32 × (Nat → Int64) × Int32 × Int32 × (Nat → Int32))) (m : (Int64 × Int64 × Int32 × Int32 × Bool × Int32 × Int32 × Int32 × Int64 × Bool × Int64 × Int64 × Bool × Int32 × Int32 × Int32 × Int32 × Int32 × Int32 × Int32 × Int32 × Int32 × Int32 × (Nat → Int32) × (Nat → Int64) × (Nat → Int32) × (Nat → Int32) × (Nat → Int64) × (Nat → Int32))), f_X9_go au z factor shift ups downs (nI N) tk (nI c) sh dc hum w n seed range off creep cs rt ov pl mi sw ch su fl sg cnt zs zc zn (nI h) (nI K) win jm f (nI t) go lcl p = (r, x) ∧ f_X10_go dc hum w n seed tk range au off creep factor shift (nI N) z (nI K) win wc pl mi sw ch ov su fl cs rt (nI h) (nI (min t 12)) (nI t) go (nI c) sh ups downs jm cnt ms mc mr g told p = (r, m) ∧ ∃ B' t', B' ≤ B + 9 ∧ pM B' K t' x m := by
  have e1 : (1 : Int32).toInt = 1 := by decide
  have e8 : (8 : Int32).toInt = 8 := by decide
  rw [f_X9_go, f_X10_go]
  by_cases a1 : p < 1
  · have i1 := gi_lt a1 rfl e1
    rw [if_pos a1, wi_f (by omega)]
    exact ⟨_, _, _, rfl, rfl, B, t, by omega, ups, downs, tk, c, sh, seed, range, off, cs, rt, ov, pl, mi, sw, ch, su, fl, sg, cnt, zs, ms, zc, mc, zn, mr, h, jm, f, g, go, lcl, told, wc, rfl, rfl, hi⟩
  · have i1 := gi_nlt a1 rfl e1
    rw [if_neg a1]
    by_cases a2 : p ≤ 8
    · have i2 := gi_le a2 rfl e8
      obtain ⟨k, k1, k2, k3⟩ := nI_of' (x := p) (by omega)
      subst k2
      obtain ⟨r, x, m, hx, hm, hp⟩ := gn_eq dc hum w au creep win hN hn hz hfa hsh ups downs tk c sh seed range off cs rt ov pl mi sw ch su fl sg cnt zs ms zc mc zn mr h jm f g t go lcl told wc hi (k := k) (by omega) (by omega)
      have hp2 := hp
      obtain ⟨ups1, downs1, tk1, c1, sh1, seed1, range1, off1, cs1, rt1, ov1, pl1, mi1, sw1, ch1, su1, fl1, sg1, cnt1, zs1, ms1, zc1, mc1, zn1, mr1, h1, jm1, f1, g1, go1, lcl1, told1, wc1, rfl, rfl, hI1⟩ := hp
      rw [if_pos a2, wi_t (by omega) (by omega), hx, hm]
      exact ⟨_, _, _, rfl, rfl, B + k, t + k, by omega, hp2⟩
    · have i2 := gi_nle a2 rfl e8
      rw [if_neg a2, wi_f (by omega)]
      exact ⟨_, _, _, rfl, rfl, B, t, by omega, ups, downs, tk, c, sh, seed, range, off, cs, rt, ov, pl, mi, sw, ch, su, fl, sg, cnt, zs, ms, zc, mc, zn, mr, h, jm, f, g, go, lcl, told, wc, rfl, rfl, hi⟩
/-- what the converter holds behind a call -/
def pC (conv : Nat) (wc : Bool) (t0 : Int64) (lim : Int) (x : (Int64 × Int32 × Int32 × Int64 × Int32 × Bool × Int32 × Bool × Int32 × Int32 × Int32 × Int64 × Int64 × Int64 × Int32 × (Nat → Int32))) (m : (Int64 × Int64 × Int32 × Bool × Int32 × Int32 × Int32 × Int64 × Bool × Int64 × Int64 × Bool × Int32 × Int32 × Int32 × (Nat → Int32))) : Prop := ∃ (t seed : Int64) (off : Int32) (cs : Bool) (rt sh : Int32) (ov : Bool) (pl mi sw : Int32) (ch su fl : Int64) (sg : Int32) (cnt : Nat → Int32) (j : Nat) (wc' : Bool), x = (t, nI (conv + j), sh, seed, off, cs, rt, ov, pl, mi, sw, ch, su, fl, sg, cnt) ∧ m = (seed, t, off, wc', pl, mi, sw, ch, ov, su, fl, cs, rt, nI (conv + j), sh, cnt) ∧ t0.toInt ≤ t.toInt ∧ t.toInt ≤ t0.toInt + lim ∧ j ≤ 8 ∧ (wc' = true ↔ (wc = true ∨ 0 < j))
theorem convert_eq (dc hum w : Int32) {n : Int32} (seed : Int64) {tk : Int64} (range off creep : Int32) (c : Nat) (sh : Int32) (cs : Bool) (rt : Int32) (ov : Bool) (pl mi sw : Int32) (ch su fl : Int64) (sg : Int32) (cnt : Nat → Int32) (wc : Bool) {N : Nat} (hN : N ≤ 50) (hn : 0 ≤ n.toInt ∧ n.toInt ≤ 10000) (ht : 0 ≤ tk.toInt ∧ tk.toInt ≤ 100000000000000) (p : Int32) :
    ∃ r x m, f_X9_convert (nI N) tk (nI c) sh dc hum w n seed range off creep cs rt ov pl mi sw ch su fl sg cnt p = (r, x) ∧ f_X10_convert dc hum w n seed tk range off creep (nI N) wc pl mi sw ch ov su fl cs rt (nI c) sh cnt p = (r, m) ∧ pC c wc tk 40000 x m := by
  have e0 : (0 : Int32).toInt = 0 := by decide
  have e1 : (1 : Int32).toInt = 1 := by decide
  have step : ∀ b : Bool, ∃ (o : Bool) (x : (Int64 × Int32 × Int32 × Int64 × Int32 × Bool × Int32 × Bool × Int32 × Int32 × Int32 × Int64 × Int64 × Int64 × Int32 × (Nat → Int32))) (m : (Int64 × Int64 × Int32 × Bool × Int32 × Int32 × Int32 × Int64 × Bool × Int64 × Int64 × Bool × Int32 × Int32 × Int32 × (Nat → Int32))), f_X1_converse (nI N) tk (nI c) sh dc hum w n seed range off creep cnt b = x ∧ f_X10_converts dc hum w n seed tk range off creep (nI N) (nI c) sh cnt b = m ∧ x.2.2.2.2.2.2.2.1 = o ∧ m.2.2.2.2.2.2.2.2.1 = o ∧ pC c wc tk 40000 x m := by
    intro b
    obtain ⟨t', seed', off', ov', pl', mi', sw', ch', su', fl', sg', cnt', hx, hm, hb1, hb2, hb3, hb4⟩ := conv_eq dc hum w seed (t0 := tk) range off creep (nI c) sh cnt b hN hn ht
    rw [nI_1] at hx hm
    exact ⟨ov', _, _, hx, hm, rfl, rfl, t', seed', off', b, range, _, ov', pl', mi', sw', ch', su', fl', sg', cnt', 1, true, rfl, rfl, by omega, by omega, by omega, ⟨fun _ => Or.inr (by omega), fun _ => rfl⟩⟩
  have sam : pC c wc tk 40000 (tk, nI c, sh, seed, off, cs, rt, ov, pl, mi, sw, ch, su, fl, sg, cnt) (seed, tk, off, wc, pl, mi, sw, ch, ov, su, fl, cs, rt, nI c, sh, cnt) :=
    ⟨tk, seed, off, cs, rt, sh, ov, pl, mi, sw, ch, su, fl, sg, cnt, 0, wc, rfl, rfl, by omega, by omega, by omega, ⟨fun q => Or.inl q, fun q => q.elim (fun a => a) (fun a => absurd a (by omega))⟩⟩
  rw [f_X9_convert, f_X10_convert]
  by_cases a0 : p = 0
  · subst a0
    rw [if_pos rfl, wi_t (by decide) (by decide)]
    dsimp only
    rw [if_pos rfl, gB1, gB1, if_neg (by decide)]
    obtain ⟨o, x, m, hx, hm, ho1, ho2, hp⟩ := step false
    have hp2 := hp
    obtain ⟨t', seed', off', cs', rt', sh', ov', pl', mi', sw', ch', su', fl', sg', cnt', j, wc', rfl, rfl, q1, q2, q3, q4⟩ := hp
    rw [hx, hm]
    dsimp only
    rw [flag_eq]
    cases ov' with
    | true => exact ⟨_, _, _, rfl, rfl, hp2⟩
    | false => exact ⟨_, _, _, rfl, rfl, hp2⟩
  · rw [if_neg a0]
    by_cases a1 : p = 1
    · subst a1
      rw [if_pos rfl, wi_t (by decide) (by decide)]
      dsimp only
      rw [if_pos rfl, gB1, gB1, if_pos rfl]
      obtain ⟨o, x, m, hx, hm, ho1, ho2, hp⟩ := step true
      have hp2 := hp
      obtain ⟨t', seed', off', cs', rt', sh', ov', pl', mi', sw', ch', su', fl', sg', cnt', j, wc', rfl, rfl, q1, q2, q3, q4⟩ := hp
      rw [hx, hm]
      dsimp only
      rw [flag_eq]
      cases ov' with
      | true => exact ⟨_, _, _, rfl, rfl, hp2⟩
      | false => exact ⟨_, _, _, rfl, rfl, hp2⟩
    · have i0 := gi_ne a0 rfl e0
      have i1 := gi_ne a1 rfl e1
      rw [if_neg a1, wi_f (by omega)]
      exact ⟨_, _, _, rfl, rfl, sam⟩
