/-! the whole of set -/
theorem nI_sub_add {t0 t t' : Nat} (h1 : t0 ≤ t) (h2 : t ≤ t') : nI (t - t0) + nI (t' - t) = nI (t' - t0) := by
  have e : t - t0 + (t' - t) = t' - t0 := by omega
  rw [nI_add, e]
set_option maxHeartbeats 300000 in
theorem st_sim (hum w creep : Int32) {n factor shift : Int32} (hn : 0 ≤ n.toInt ∧ n.toInt ≤ 10000) (hfa : factor.toInt.natAbs ≤ 1000) (hsh : shift.toInt.natAbs ≤ 1000000) {l : Nat} (hl : l ≤ 40) {pg : Nat → Int32} (KX : (Int32 × Bool × Int32 × Int32 × Int32 × Int32 × Int64 × Int32 × Int32 × Int32 × Int64 × Int32 × Int32 × Bool × Int32 × Bool × Int32 × Int32 × Int32 × Int64 × Int64 × Int64 × Int32 × (Nat → Int32) × (Nat → Int64) × (Nat → Int32) × (Nat → Int32) × Int32 × Int32 × Int32 × Int32 × (Nat → Int64) × Int32 × Int32 × (Nat → Int32) × Int32 × Bool × Int64 × Int32) → (Int32 × (Bool × Int32 × Int32 × Int32 × Int32 × Int32 × Int64 × Int32 × Int32 × Int32 × Int64 × Int32 × Int32 × Bool × Int32 × Bool × Int32 × Int32 × Int32 × Int64 × Int64 × Int64 × Int32 × (Nat → Int32) × (Nat → Int64) × (Nat → Int32) × (Nat → Int32) × Int32 × Int32 × Int32 × Int32 × (Nat → Int64) × Int32 × Int32 × (Nat → Int32) × Int32 × Int32 × Bool × Int64 × Int32))) (t0 : Nat) :
    ∀ (m mm i B : Nat) (au : Bool) (z : Int32) (ups : Int32) (downs : Int32) (N : Nat) (tk : Int64) (c : Nat) (sh : Int32) (dc : Int32) (seed : Int64) (range : Int32) (off : Int32) (cs : Bool) (rt : Int32) (ov : Bool) (pl : Int32) (mi : Int32) (sw : Int32) (ch : Int64) (su : Int64) (fl : Int64) (sg : Int32) (cnt : Nat → Int32) (zs : Nat → Int64) (zc : Nat → Int32) (zn : Nat → Int32) (h : Nat) (K0 : Nat) (win : Int32) (jm : Int32) (f : Nat → Int64) (t : Nat) (go : Int32) (lcl : Nat → Int32) (wc : Bool) (ms : Nat → Int64) (mc : Nat → Int32) (mr : Nat → Int32) (g : Nat → Int64) (told : Nat → Int32) (st : Int32) (be : Bool) (am : Int64) (co cm fi nu : Int32) (ib : Bool) (fst : Int32) (fbe : Bool) (fam : Int64) (fco : Int32), i ≤ l → l + 1 - i < m → l - i < mm → B + 9 * (l + 1 - i) ≤ 1000000 → t0 ≤ t → iS B N K0 c t h tk range wc zs ms zc mc zn mr f g lcl told dc z → pP i st be am co cm fi nu ib →
      f_X9_fault_L9 (nI l) pg (fun q => (nI l, q)) (l - i + 1) (nI i, st, be, am, co) = (nI l, (fst, fbe, fam, fco)) → f_X6_mayEnd fst fbe fam fco = (true, ()) →
      ∃ (au' : Bool) (z' : Int32) (ups' : Int32) (downs' : Int32) (N' : Nat) (tk' : Int64) (c' : Nat) (sh' : Int32) (dc' : Int32) (seed' : Int64) (range' : Int32) (off' : Int32) (cs' : Bool) (rt' : Int32) (ov' : Bool) (pl' : Int32) (mi' : Int32) (sw' : Int32) (ch' : Int64) (su' : Int64) (fl' : Int64) (sg' : Int32) (cnt' : Nat → Int32) (zs' : Nat → Int64) (zc' : Nat → Int32) (zn' : Nat → Int32) (h' : Nat) (K0' : Nat) (win' : Int32) (jm' : Int32) (f' : Nat → Int64) (t' : Nat) (go' : Int32) (lcl' : Nat → Int32) (wc' : Bool) (ms' : Nat → Int64) (mc' : Nat → Int32) (mr' : Nat → Int32) (g' : Nat → Int64) (told' : Nat → Int32) (st' : Int32) (be' : Bool) (am' : Int64) (co' : Int32) (au1 : Bool) (z1 : Int32) (ups1 : Int32) (downs1 : Int32) (N1 : Nat) (tk1 : Int64) (c1 : Nat) (sh1 : Int32) (dc1 : Int32) (seed1 : Int64) (range1 : Int32) (off1 : Int32) (cs1 : Bool) (rt1 : Int32) (ov1 : Bool) (pl1 : Int32) (mi1 : Int32) (sw1 : Int32) (ch1 : Int64) (su1 : Int64) (fl1 : Int64) (sg1 : Int32) (cnt1 : Nat → Int32) (zs1 : Nat → Int64) (zc1 : Nat → Int32) (zn1 : Nat → Int32) (h1 : Nat) (K01 : Nat) (win1 : Int32) (jm1 : Int32) (f1 : Nat → Int64) (t1 : Nat) (go1 : Int32) (lcl1 : Nat → Int32) (wc1 : Bool) (ms1 : Nat → Int64) (mc1 : Nat → Int32) (mr1 : Nat → Int32) (g1 : Nat → Int64) (told1 : Nat → Int32) (cm1 fi1 nu1 : Int32) (ib1 : Bool), f_X9_set_L38 factor shift hum w n creep (nI l) pg KX m (nI (t - t0), nI i, au, z, ups, downs, (nI N), tk, (nI c), sh, dc, seed, range, off, cs, rt, ov, pl, mi, sw, ch, su, fl, sg, cnt, zs, zc, zn, (nI h), (nI K0), win, jm, f, (nI t), go, lcl, st, be, am, co) = KX (nI (t' - t0), au', z', ups', downs', (nI N'), tk', (nI c'), sh', dc', seed', range', off', cs', rt', ov', pl', mi', sw', ch', su', fl', sg', cnt', zs', zc', zn', (nI h'), (nI K0'), win', jm', f', (nI t'), go', lcl', st', be', am', co') ∧ f_X10_goAlong_L7 hum w n creep factor shift (nI l) pg true (fun q => q) mm (nI i, dc, seed, tk, range, au, off, (nI N), z, (nI K0), win, wc, pl, mi, sw, ch, ov, su, fl, cs, rt, (nI h), (nI (min t 12)), (nI t), go, (nI c), sh, ups, downs, jm, cm, fi, nu, ib, cnt, ms, mc, mr, g, told) = (nI l, (dc1, seed1, tk1, range1, au1, off1, (nI N1), z1, (nI K01), win1, wc1, pl1, mi1, sw1, ch1, ov1, su1, fl1, cs1, rt1, (nI h1), (nI (min t1 12)), (nI t1), go1, (nI c1), sh1, ups1, downs1, jm1, cm1, fi1, nu1, ib1, cnt1, ms1, mc1, mr1, g1, told1)) ∧ f_X10_does dc1 hum w n seed1 tk1 range1 au1 off1 creep factor shift (nI N1) z1 (nI K01) win1 wc1 pl1 mi1 sw1 ch1 ov1 su1 fl1 cs1 rt1 (nI h1) (nI (min t1 12)) (nI t1) go1 (nI c1) sh1 ups1 downs1 jm1 cm1 nu1 ib1 cnt1 ms1 mc1 mr1 g1 told1 = (dc', seed', tk', range', au', off', (nI N'), z', (nI K0'), win', wc', pl', mi', sw', ch', ov', su', fl', cs', rt', (nI h'), (nI (min t' 12)), (nI t'), go', (nI c'), sh', ups', downs', jm', cnt', ms', mc', mr', g', told') ∧ iS (B + 9 * (l + 1 - i)) N' K0' c' t' h' tk' range' wc' zs' ms' zc' mc' zn' mr' f' g' lcl' told' dc' z' ∧ t0 ≤ t' := by
  intro m
  induction m with
  | zero => intro mm i B au z ups downs N tk c sh dc seed range off cs rt ov pl mi sw ch su fl sg cnt zs zc zn h K0 win jm f t go lcl wc ms mc mr g told st be am co cm fi nu ib fst fbe fam fco _ q; omega
  | succ m ih =>
    intro mm i B au z ups downs N tk c sh dc seed range off cs rt ov pl mi sw ch su fl sg cnt zs zc zn h K0 win jm f t go lcl wc ms mc mr g told st be am co cm fi nu ib fst fbe fam fco hi hm hmm hB ht0 hI hp hH hE
    cases mm with
    | zero => omega
    | succ mm =>
    have hin : ¬ nI l < nI i := nI_nlt hi (by omega)
    by_cases he : i = l
    · -- the last command
      subst he
      have e0 : i - i + 1 = 0 + 1 := by omega
      rw [e0, f_X9_fault_L9, if_pos (nI_le (Nat.le_refl _) (by omega))] at hH
      injection hH with _ hH
      injection hH with q1 hH
      injection hH with q2 hH
      injection hH with q3 q4
      subst q1 q2 q3 q4
      obtain ⟨r, e1, e2, e3⟩ := end_eq hp (by omega)
      have hr : r = true := by
        have := e1.symm.trans hE
        injection this
      subst hr
      obtain ⟨_, k1, v, hv, hw⟩ := e3 rfl
      subst k1
      obtain ⟨r, st1, cm1, fi1, nu1, ib1, tx, tm, htt, hff⟩ := tk_59 hp (by omega)
      obtain ⟨au', z', ups', downs', N', tk', c', sh', dc', seed', range', off', cs', rt', ov', pl', mi', sw', ch', su', fl', sg', cnt', zs', zc', zn', h', K0', win', jm', f', t', go', lcl', wc', ms', mc', mr', g', told', d1, d2, d3, d4⟩ := do_step hum w creep hn hfa hsh (l := i) (pg := pg) KX m (nI (t - t0)) (i := nI i) hin (sC_eq pg) (B := B) (by omega) au z ups downs N tk c sh dc seed range off cs rt ov pl mi sw ch su fl sg cnt zs zc zn h K0 win jm f t go lcl wc ms mc mr g told hI hv hw tx
      refine ⟨au', z', ups', downs', N', tk', c', sh', dc', seed', range', off', cs', rt', ov', pl', mi', sw', ch', su', fl', sg', cnt', zs', zc', zn', h', K0', win', jm', f', t', go', lcl', wc', ms', mc', mr', g', told', st1, be, am, cm, au, z, ups, downs, N, tk, c, sh, dc, seed, range, off, cs, rt, ov, pl, mi, sw, ch, su, fl, sg, cnt, zs, zc, zn, h, K0, win, jm, f, t, go, lcl, wc, ms, mc, mr, g, told, cm, fi, nu, ib, ?_, ?_, d2, iS_mono d3 (by omega) (by omega), by omega⟩
      · rw [d1, nI_sub_add ht0 d4, nI_1]
        cases m with
        | zero => omega
        | succ m =>
          rw [f_X9_set_L38, if_pos (nI_lt (by omega) (by omega))]
      · rw [f_X10_goAlong_L7, if_pos (nI_le (Nat.le_refl _) (by omega))]
    · have hil : i < l := by omega
      have ef : l - i + 1 = (l - (i + 1) + 1) + 1 := by omega
      rw [ef, f_X9_fault_L9, if_neg (nI_ge hil (by omega)), code_eq hl hil] at hH
      dsimp only at hH
      by_cases h59 : pg i = 59
      · obtain ⟨r, st1, cm1, fi1, nu1, ib1, tx, tm, htt, hff⟩ := tk_59 hp (by omega)
        rw [h59, tx] at hH
        cases r with
        | false =>
          exfalso
          have hH2 : (nI i, (st1, be, am, co)) = (nI l, (fst, fbe, fam, fco)) := hH
          injection hH2 with q _
          have := (nI_eq (by omega) (by omega)).mp q
          omega
        | true =>
          obtain ⟨q1, q2, q3, q4, q5, v, hv, hw⟩ := htt rfl
          subst q1 q2 q3 q4 q5
          dsimp only at hH
          rw [if_pos rfl, nI_1] at hH
          have hsc : sC (nI l) pg (nI i) 59 := by rw [← h59]; exact sC_lt hl hil pg
          obtain ⟨au', z', ups', downs', N', tk', c', sh', dc', seed', range', off', cs', rt', ov', pl', mi', sw', ch', su', fl', sg', cnt', zs', zc', zn', h', K0', win', jm', f', t', go', lcl', wc', ms', mc', mr', g', told', d1, d2, d3, d4⟩ := do_step hum w creep hn hfa hsh (l := l) (pg := pg) KX m (nI (t - t0)) (i := nI i) hin hsc (B := B) (by omega) au z ups downs N tk c sh dc seed range off cs rt ov pl mi sw ch su fl sg cnt zs zc zn h K0 win jm f t go lcl wc ms mc mr g told hI hv hw tx
          have key := ih mm (i + 1) (B + 9) au' z' ups' downs' N' tk' c' sh' dc' seed' range' off' cs' rt' ov' pl' mi' sw' ch' su' fl' sg' cnt' zs' zc' zn' h' K0' win' jm' f' t' go' lcl' wc' ms' mc' mr' g' told' 0 be am cm1 0 fi1 nu1 ib1 fst fbe fam fco (by omega) (by omega) (by omega) (by omega) (by omega) d3 (Or.inl ⟨rfl, rfl⟩) hH hE
          obtain ⟨au2, z2, ups2, downs2, N2, tk2, c2, sh2, dc2, seed2, range2, off2, cs2, rt2, ov2, pl2, mi2, sw2, ch2, su2, fl2, sg2, cnt2, zs2, zc2, zn2, h2, K02, win2, jm2, f2, t2, go2, lcl2, wc2, ms2, mc2, mr2, g2, told2, st2, be2, am2, co2, au3, z3, ups3, downs3, N3, tk3, c3, sh3, dc3, seed3, range3, off3, cs3, rt3, ov3, pl3, mi3, sw3, ch3, su3, fl3, sg3, cnt3, zs3, zc3, zn3, h3, K03, win3, jm3, f3, t3, go3, lcl3, wc3, ms3, mc3, mr3, g3, told3, cm3, fi3, nu3, ib3, k1, k2, k3, k4, k5⟩ := key
          refine ⟨au2, z2, ups2, downs2, N2, tk2, c2, sh2, dc2, seed2, range2, off2, cs2, rt2, ov2, pl2, mi2, sw2, ch2, su2, fl2, sg2, cnt2, zs2, zc2, zn2, h2, K02, win2, jm2, f2, t2, go2, lcl2, wc2, ms2, mc2, mr2, g2, told2, st2, be2, am2, co2, au3, z3, ups3, downs3, N3, tk3, c3, sh3, dc3, seed3, range3, off3, cs3, rt3, ov3, pl3, mi3, sw3, ch3, su3, fl3, sg3, cnt3, zs3, zc3, zn3, h3, K03, win3, jm3, f3, t3, go3, lcl3, wc3, ms3, mc3, mr3, g3, told3, cm3, fi3, nu3, ib3, ?_, ?_, k3, iS_mono k4 (by omega) (by omega), k5⟩
          · rw [d1, nI_sub_add ht0 d4, nI_1]
            exact k1
          · rw [f_X10_goAlong_L7, if_neg (nI_ge hil (by omega)), nI_clamp (by omega), h59, tm]
            dsimp only
            rw [if_pos rfl, if_pos rfl, if_pos rfl, d2, nI_1]
            exact k2
      · obtain ⟨r, st1, be1, am1, co1, cm1, fi1, nu1, ib1, tx, tm, hq⟩ := tk_ne hp (by omega) h59
        rw [tx] at hH
        cases r with
        | false =>
          exfalso
          have hH2 : (nI i, (st1, be1, am1, co1)) = (nI l, (fst, fbe, fam, fco)) := hH
          injection hH2 with q _
          have := (nI_eq (by omega) (by omega)).mp q
          omega
        | true =>
          dsimp only at hH
          rw [if_pos rfl, nI_1] at hH
          have d1 := sx_ne factor shift hum w n creep KX m (nI (t - t0)) au z ups downs (nI N) tk (nI c) sh dc seed range off cs rt ov pl mi sw ch su fl sg cnt zs zc zn (nI h) (nI K0) win jm f (nI t) go lcl hin (sC_lt hl hil pg) h59 tx
          have key := ih mm (i + 1) B au z ups downs N tk c sh dc seed range off cs rt ov pl mi sw ch su fl sg cnt zs zc zn h K0 win jm f t go lcl wc ms mc mr g told st1 be1 am1 co1 cm1 fi1 nu1 ib1 fst fbe fam fco (by omega) (by omega) (by omega) (by omega) ht0 hI hq hH hE
          obtain ⟨au2, z2, ups2, downs2, N2, tk2, c2, sh2, dc2, seed2, range2, off2, cs2, rt2, ov2, pl2, mi2, sw2, ch2, su2, fl2, sg2, cnt2, zs2, zc2, zn2, h2, K02, win2, jm2, f2, t2, go2, lcl2, wc2, ms2, mc2, mr2, g2, told2, st2, be2, am2, co2, au3, z3, ups3, downs3, N3, tk3, c3, sh3, dc3, seed3, range3, off3, cs3, rt3, ov3, pl3, mi3, sw3, ch3, su3, fl3, sg3, cnt3, zs3, zc3, zn3, h3, K03, win3, jm3, f3, t3, go3, lcl3, wc3, ms3, mc3, mr3, g3, told3, cm3, fi3, nu3, ib3, k1, k2, k3, k4, k5⟩ := key
          refine ⟨au2, z2, ups2, downs2, N2, tk2, c2, sh2, dc2, seed2, range2, off2, cs2, rt2, ov2, pl2, mi2, sw2, ch2, su2, fl2, sg2, cnt2, zs2, zc2, zn2, h2, K02, win2, jm2, f2, t2, go2, lcl2, wc2, ms2, mc2, mr2, g2, told2, st2, be2, am2, co2, au3, z3, ups3, downs3, N3, tk3, c3, sh3, dc3, seed3, range3, off3, cs3, rt3, ov3, pl3, mi3, sw3, ch3, su3, fl3, sg3, cnt3, zs3, zc3, zn3, h3, K03, win3, jm3, f3, t3, go3, lcl3, wc3, ms3, mc3, mr3, g3, told3, cm3, fi3, nu3, ib3, ?_, ?_, k3, iS_mono k4 (by omega) (by omega), k5⟩
          · rw [d1, nI_1]
            exact k1
          · rw [f_X10_goAlong_L7, if_neg (nI_ge hil (by omega)), nI_clamp (by omega), tm]
            dsimp only
            rw [if_pos rfl, if_neg h59, nI_1]
            exact k2
