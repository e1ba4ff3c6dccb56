/-! settings: the class and the reference do the same -/
def iS (B N K c t h : Nat) (tk : Int64) (range : Int32) (wc : Bool) (zs ms : Nat → Int64) (zc mc zn mr : Nat → Int32) (f g : Nat → Int64) (lcl told : Nat → Int32) (dc z : Int32) : Prop := iM B K c t h tk range wc zs ms zc mc zn mr f g lcl told ∧ (1 ≤ N ∧ N ≤ 50) ∧ (-25000000 ≤ dc.toInt ∧ dc.toInt ≤ 25000000) ∧ (0 ≤ z.toInt ∧ z.toInt ≤ 2)
theorem iM_mono {B B' K c t h : Nat} {tk : Int64} {range : Int32} {wc : Bool} {zs ms : Nat → Int64} {zc mc zn mr : Nat → Int32} {f g : Nat → Int64} {lcl told : Nat → Int32} (hi : iM B K c t h tk range wc zs ms zc mc zn mr f g lcl told) (h1 : B ≤ B') (h2 : B' ≤ 1000000) : iM B' K c t h tk range wc zs ms zc mc zn mr f g lcl told := by
  obtain ⟨i1, i2, i3, i4, i5, i6, i7, i8, i9⟩ := hi
  exact ⟨h2, by omega, by omega, by omega, i5, i6, i7, i8, i9⟩
theorem iS_mono {B B' N K c t h : Nat} {tk : Int64} {range : Int32} {wc : Bool} {zs ms : Nat → Int64} {zc mc zn mr : Nat → Int32} {f g : Nat → Int64} {lcl told : Nat → Int32} {dc z : Int32} (hi : iS B N K c t h tk range wc zs ms zc mc zn mr f g lcl told dc z) (h1 : B ≤ B') (h2 : B' ≤ 1000000) : iS B' N K c t h tk range wc zs ms zc mc zn mr f g lcl told dc z := ⟨iM_mono hi.1 h1 h2, hi.2⟩
theorem does_v (dc : Int32) (hum : Int32) (w : Int32) (n : Int32) (seed : Int64) (tk : Int64) (range : Int32) (au : Bool) (off : Int32) (creep : Int32) (factor : Int32) (shift : Int32) (N : Int32) (z : Int32) (K0 : Int32) (win : Int32) (wc : Bool) (pl : Int32) (mi : Int32) (sw : Int32) (ch : Int64) (ov : Bool) (su : Int64) (fl : Int64) (cs : Bool) (rt : Int32) (h : Int32) (kept : Int32) (t : Int32) (go : Int32) (c : Int32) (sh : Int32) (ups : Int32) (downs : Int32) (jm : Int32) (co : Int32) (cnt : Nat → Int32) (ms : Nat → Int64) (mc : Nat → Int32) (mr : Nat → Int32) (g : Nat → Int64) (told : Nat → Int32) {nu v : Int32} {ib : Bool} (hv : v = (if ib = true then -nu else nu)) : f_X10_does dc hum w n seed tk range au off creep factor shift N z K0 win wc pl mi sw ch ov su fl cs rt h kept t go c sh ups downs jm co nu ib cnt ms mc mr g told = f_X10_does dc hum w n seed tk range au off creep factor shift N z K0 win wc pl mi sw ch ov su fl cs rt h kept t go c sh ups downs jm co v false cnt ms mc mr g told := by
  cases ib with
  | true =>
    rw [if_pos rfl] at hv
    subst hv
    rw [f_X10_does, f_X10_does, if_pos rfl, if_neg (by decide : ¬ false = true)]
  | false =>
    rw [if_neg (by decide)] at hv
    subst hv
    rfl
set_option maxHeartbeats 2000000 in
theorem do_step (hum w creep : Int32) {n factor shift : Int32} (hn : 0 ≤ n.toInt ∧ n.toInt ≤ 10000) (hfa : factor.toInt.natAbs ≤ 1000) (hsh : shift.toInt.natAbs ≤ 1000000) {l : Nat} {pg : Nat → Int32} (KX : (Int32 × Bool × Int32 × Int32 × Int32 × Int32 × Int64 × Int32 × Int32 × Int32 × Int64 × Int32 × Int32 × Bool × Int32 × Bool × Int32 × Int32 × Int32 × Int64 × Int64 × Int64 × Int32 × (Nat → Int32) × (Nat → Int64) × (Nat → Int32) × (Nat → Int32) × Int32 × Int32 × Int32 × Int32 × (Nat → Int64) × Int32 × Int32 × (Nat → Int32) × Int32 × Bool × Int64 × Int32) → (Int32 × (Bool × Int32 × Int32 × Int32 × Int32 × Int32 × Int64 × Int32 × Int32 × Int32 × Int64 × Int32 × Int32 × Bool × Int32 × Bool × Int32 × Int32 × Int32 × Int64 × Int64 × Int64 × Int32 × (Nat → Int32) × (Nat → Int64) × (Nat → Int32) × (Nat → Int32) × Int32 × Int32 × Int32 × Int32 × (Nat → Int64) × Int32 × Int32 × (Nat → Int32) × Int32 × Int32 × Bool × Int64 × Int32))) (m : Nat) (l1 : Int32) {i : Int32} (hi : ¬ nI l < i) (hc : sC (nI l) pg i 59) {B : Nat} (hB : B + 9 ≤ 1000000) (au : Bool) (z : Int32) (ups : Int32) (downs : Int32) (N : Nat) (tk : Int64) (c : Nat) (sh : Int32) (dc : Int32) (seed : Int64) (range : Int32) (off : Int32) (cs : Bool) (rt : Int32) (ov : Bool) (pl : Int32) (mi : Int32) (sw : Int32) (ch : Int64) (su : Int64) (fl : Int64) (sg : Int32) (cnt : Nat → Int32) (zs : Nat → Int64) (zc : Nat → Int32) (zn : Nat → Int32) (h : Nat) (K0 : Nat) (win : Int32) (jm : Int32) (f : Nat → Int64) (t : Nat) (go : Int32) (lcl : Nat → Int32) (wc : Bool) (ms : Nat → Int64) (mc : Nat → Int32) (mr : Nat → Int32) (g : Nat → Int64) (told : Nat → Int32) (hI : iS B N K0 c t h tk range wc zs ms zc mc zn mr f g lcl told dc z) {st : Int32} {be : Bool} {am : Int64} {co v nu : Int32} {ib : Bool} (hv : f_X6_value be am = (v, ())) (hw : pWo v co nu ib) {r : Bool} {st1 : Int32} {be1 : Bool} {am1 : Int64} {co1 : Int32} (ht : f_X6_takes st be am co 59 = (r, (st1, be1, am1, co1))) :
    ∃ (au' : Bool) (z' : Int32) (ups' : Int32) (downs' : Int32) (N' : Nat) (tk' : Int64) (c' : Nat) (sh' : Int32) (dc' : Int32) (seed' : Int64) (range' : Int32) (off' : Int32) (cs' : Bool) (rt' : Int32) (ov' : Bool) (pl' : Int32) (mi' : Int32) (sw' : Int32) (ch' : Int64) (su' : Int64) (fl' : Int64) (sg' : Int32) (cnt' : Nat → Int32) (zs' : Nat → Int64) (zc' : Nat → Int32) (zn' : Nat → Int32) (h' : Nat) (K0' : Nat) (win' : Int32) (jm' : Int32) (f' : Nat → Int64) (t' : Nat) (go' : Int32) (lcl' : Nat → Int32) (wc' : Bool) (ms' : Nat → Int64) (mc' : Nat → Int32) (mr' : Nat → Int32) (g' : Nat → Int64) (told' : Nat → Int32), f_X9_set_L38 factor shift hum w n creep (nI l) pg KX (m + 1) (l1, i, au, z, ups, downs, (nI N), tk, (nI c), sh, dc, seed, range, off, cs, rt, ov, pl, mi, sw, ch, su, fl, sg, cnt, zs, zc, zn, (nI h), (nI K0), win, jm, f, (nI t), go, lcl, st, be, am, co) = f_X9_set_L38 factor shift hum w n creep (nI l) pg KX m ((l1 + nI (t' - t)), i + 1, au', z', ups', downs', (nI N'), tk', (nI c'), sh', dc', seed', range', off', cs', rt', ov', pl', mi', sw', ch', su', fl', sg', cnt', zs', zc', zn', (nI h'), (nI K0'), win', jm', f', (nI t'), go', lcl', st1, be1, am1, co1) ∧ f_X10_does dc hum w n seed tk range au off creep factor shift (nI N) z (nI K0) win wc pl mi sw ch ov su fl cs rt (nI h) (nI (min t 12)) (nI t) go (nI c) sh ups downs jm co nu ib cnt ms mc mr g told = (dc', seed', tk', range', au', off', (nI N'), z', (nI K0'), win', wc', pl', mi', sw', ch', ov', su', fl', cs', rt', (nI h'), (nI (min t' 12)), (nI t'), go', (nI c'), sh', ups', downs', jm', cnt', ms', mc', mr', g', told') ∧ iS (B + 9) N' K0' c' t' h' tk' range' wc' zs' ms' zc' mc' zn' mr' f' g' lcl' told' dc' z' ∧ t ≤ t' := by
  obtain ⟨hve, hw⟩ := hw
  obtain ⟨iI, iN, iD, iZ⟩ := hI
  have iI9 := iM_mono iI (B' := B + 9) (by omega) hB
  have ez : l1 + nI (t - t) = l1 := by rw [Nat.sub_self, nI_0, Int32.add_zero]
  rw [does_v _ _ _ _ _ _ _ _ _ _ _ _ _ _ _ _ _ _ _ _ _ _ _ _ _ _ _ _ _ _ _ _ _ _ _ _ _ _ _ _ _ _ hve]
  rcases hw with rfl | ⟨rfl, b1, b2⟩ | ⟨rfl, b1, b2⟩ | ⟨rfl, b1, b2⟩ | ⟨rfl, b1, b2⟩ | ⟨rfl, b1, b2⟩ | ⟨rfl, b1, b2⟩ | ⟨rfl, b1, b2⟩
  · refine ⟨true, z, ups, downs, N, tk, c, sh, dc, seed, range, off, cs, rt, ov, pl, mi, sw, ch, su, fl, sg, cnt, zs, zc, zn, h, K0, win, jm, f, t, go, lcl, wc, ms, mc, mr, g, told, ?_, ?_, ⟨iI9, iN, iD, iZ⟩, Nat.le_refl _⟩
    · rw [ez]
      exact sx_adj factor shift hum w n creep KX m l1 au z ups downs (nI N) tk (nI c) sh dc seed range off cs rt ov pl mi sw ch su fl sg cnt zs zc zn (nI h) (nI K0) win jm f (nI t) go lcl hi hc rfl (by decide) hv (by rw [f_X9_adjust, if_pos rfl]) ht
    · rw [f_X10_does, if_neg (by decide), if_pos rfl]
  · refine ⟨au, z, ups, downs, N, tk, c, sh, v, seed, range, off, cs, rt, ov, pl, mi, sw, ch, su, fl, sg, cnt, zs, zc, zn, h, K0, win, jm, f, t, go, lcl, wc, ms, mc, mr, g, told, ?_, ?_, ⟨iI9, iN, ⟨b1, b2⟩, iZ⟩, Nat.le_refl _⟩
    · rw [ez]
      exact sx_adj factor shift hum w n creep KX m l1 au z ups downs (nI N) tk (nI c) sh dc seed range off cs rt ov pl mi sw ch su fl sg cnt zs zc zn (nI h) (nI K0) win jm f (nI t) go lcl hi hc rfl (by decide) hv (by rw [f_X9_adjust, if_neg (by decide), if_pos rfl]) ht
    · rw [f_X10_does, if_neg (by decide), if_neg (by decide), if_pos rfl]
  · obtain ⟨p, p1, p2, p3⟩ := nI_of' (x := v) (by omega)
    subst p2
    obtain ⟨f', g', q1, q2, q3⟩ := resize_eq iI.2.2.2.2.2.2.2.1 (p := p) (by omega) (by omega)
    refine ⟨au, z, ups, downs, N, tk, c, sh, dc, seed, range, off, cs, rt, ov, pl, mi, sw, ch, su, fl, sg, cnt, zs, zc, zn, min h p, p, win, jm, f', t, go, lcl, wc, ms, mc, mr, g', told, ?_, ?_, ⟨⟨iI9.1, iI9.2.1, iI9.2.2.1, iI9.2.2.2.1, iI9.2.2.2.2.1, iI9.2.2.2.2.2.1, iI9.2.2.2.2.2.2.1, q3, iI9.2.2.2.2.2.2.2.2⟩, iN, iD, iZ⟩, Nat.le_refl _⟩
    · rw [ez]
      exact sx_adj factor shift hum w n creep KX m l1 au z ups downs (nI N) tk (nI c) sh dc seed range off cs rt ov pl mi sw ch su fl sg cnt zs zc zn (nI h) (nI K0) win jm f (nI t) go lcl hi hc rfl (by decide) hv (by rw [f_X9_adjust, if_neg (by decide), if_neg (by decide), if_pos rfl]; rw [q1]) ht
    · rw [f_X10_does, if_neg (by decide), if_neg (by decide), if_neg (by decide), if_pos rfl]
      rw [q2]
  · obtain ⟨p, p1, p2, p3⟩ := nI_of' (x := v) (by omega)
    subst p2
    obtain ⟨b, x, y, hx, hy, hp⟩ := gn_eq dc hum w au creep win iN hn iZ.1 hfa hsh ups downs tk c sh seed range off cs rt ov pl mi sw ch su fl sg cnt zs ms zc mc zn mr h jm f g t go lcl told wc iI (k := p) (by omega) (by omega)
    obtain ⟨ups1, downs1, tk1, c1, sh1, seed1, range1, off1, cs1, rt1, ov1, pl1, mi1, sw1, ch1, su1, fl1, sg1, cnt1, zs1, ms1, zc1, mc1, zn1, mr1, h1, jm1, f1, g1, go1, lcl1, told1, wc1, rfl, rfl, hI1⟩ := hp
    refine ⟨au, z, ups1, downs1, N, tk1, c1, sh1, dc, seed1, range1, off1, cs1, rt1, ov1, pl1, mi1, sw1, ch1, su1, fl1, sg1, cnt1, zs1, zc1, zn1, h1, K0, win, jm1, f1, t + p, go1, lcl1, wc1, ms1, mc1, mr1, g1, told1, ?_, ?_, ⟨iM_mono hI1 (by omega) hB, iN, iD, iZ⟩, by omega⟩
    · have e9 : t + p - t = p := by omega
      rw [e9]
      exact sx_G factor shift hum w n creep KX m l1 au z ups downs (nI N) tk (nI c) sh dc seed range off cs rt ov pl mi sw ch su fl sg cnt zs zc zn (nI h) (nI K0) win jm f (nI t) go lcl hi hc rfl rfl hv hx ht
    · rw [f_X10_does, if_neg (by decide), if_neg (by decide), if_neg (by decide), if_neg (by decide), if_neg (by decide), if_neg (by decide), if_neg (by decide), if_neg (by decide), hy]
  · obtain ⟨p, p1, p2, p3⟩ := nI_of' (x := v) (by omega)
    subst p2
    refine ⟨au, z, ups, downs, p, tk, c, sh, dc, seed, range, off, cs, rt, ov, pl, mi, sw, ch, su, fl, sg, cnt, zs, zc, zn, h, K0, win, jm, f, t, go, lcl, wc, ms, mc, mr, g, told, ?_, ?_, ⟨iI9, ⟨by omega, by omega⟩, iD, iZ⟩, Nat.le_refl _⟩
    · rw [ez]
      exact sx_adj factor shift hum w n creep KX m l1 au z ups downs (nI N) tk (nI c) sh dc seed range off cs rt ov pl mi sw ch su fl sg cnt zs zc zn (nI h) (nI K0) win jm f (nI t) go lcl hi hc rfl (by decide) hv (by rw [f_X9_adjust, if_neg (by decide), if_neg (by decide), if_neg (by decide), if_pos rfl]) ht
    · rw [f_X10_does, if_neg (by decide), if_neg (by decide), if_neg (by decide), if_neg (by decide), if_pos rfl]
  · refine ⟨false, z, ups, downs, N, tk, c, sh, dc, seed, v, off, cs, rt, ov, pl, mi, sw, ch, su, fl, sg, cnt, zs, zc, zn, h, K0, win, jm, f, t, go, lcl, wc, ms, mc, mr, g, told, ?_, ?_, ⟨⟨iI9.1, iI9.2.1, iI9.2.2.1, iI9.2.2.2.1, vp_in_iff.mpr ⟨by omega, by omega⟩, iI9.2.2.2.2.2⟩, iN, iD, iZ⟩, Nat.le_refl _⟩
    · rw [ez]
      exact sx_adj factor shift hum w n creep KX m l1 au z ups downs (nI N) tk (nI c) sh dc seed range off cs rt ov pl mi sw ch su fl sg cnt zs zc zn (nI h) (nI K0) win jm f (nI t) go lcl hi hc rfl (by decide) hv (by rw [f_X9_adjust, if_neg (by decide), if_neg (by decide), if_neg (by decide), if_neg (by decide), if_pos rfl]) ht
    · rw [f_X10_does, if_neg (by decide), if_neg (by decide), if_neg (by decide), if_neg (by decide), if_neg (by decide), if_pos rfl]
  · refine ⟨au, z, ups, downs, N, tk, c, sh, dc, seed, range, off, cs, rt, ov, pl, mi, sw, ch, su, fl, sg, cnt, zs, zc, zn, h, K0, v, jm, f, t, go, lcl, wc, ms, mc, mr, g, told, ?_, ?_, ⟨iI9, iN, iD, iZ⟩, Nat.le_refl _⟩
    · rw [ez]
      exact sx_adj factor shift hum w n creep KX m l1 au z ups downs (nI N) tk (nI c) sh dc seed range off cs rt ov pl mi sw ch su fl sg cnt zs zc zn (nI h) (nI K0) win jm f (nI t) go lcl hi hc rfl (by decide) hv (by rw [f_X9_adjust, if_neg (by decide), if_neg (by decide), if_neg (by decide), if_neg (by decide), if_neg (by decide), if_pos rfl]) ht
    · rw [f_X10_does, if_neg (by decide), if_neg (by decide), if_neg (by decide), if_neg (by decide), if_neg (by decide), if_neg (by decide), if_pos rfl]
  · refine ⟨au, v, ups, downs, N, tk, c, sh, dc, seed, range, off, cs, rt, ov, pl, mi, sw, ch, su, fl, sg, cnt, zs, zc, zn, h, K0, win, jm, f, t, go, lcl, wc, ms, mc, mr, g, told, ?_, ?_, ⟨iI9, iN, iD, ⟨b1, b2⟩⟩, Nat.le_refl _⟩
    · rw [ez]
      exact sx_adj factor shift hum w n creep KX m l1 au z ups downs (nI N) tk (nI c) sh dc seed range off cs rt ov pl mi sw ch su fl sg cnt zs zc zn (nI h) (nI K0) win jm f (nI t) go lcl hi hc rfl (by decide) hv (by rw [f_X9_adjust, if_neg (by decide), if_neg (by decide), if_neg (by decide), if_neg (by decide), if_neg (by decide), if_neg (by decide), if_pos rfl]) ht
    · rw [f_X10_does, if_neg (by decide), if_neg (by decide), if_neg (by decide), if_neg (by decide), if_neg (by decide), if_neg (by decide), if_neg (by decide), if_pos rfl]
