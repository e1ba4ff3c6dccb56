/-! a reading: class and reference -/
def iM (B K c t h : Nat) (tk : Int64) (range : Int32) (wc : Bool) (zs ms : Nat → Int64) (zc mc zn mr : Nat → Int32) (f g : Nat → Int64) (lcl told : Nat → Int32) : Prop := B ≤ 1000000 ∧ c ≤ 8 * B ∧ t ≤ B ∧ (0 ≤ tk.toInt ∧ tk.toInt ≤ 40000 * (B : Int)) ∧ vp_in range 3 ∧ (wc = true ↔ 0 < c) ∧ pZ zs ms zc mc zn mr ∧ pFil h K f g ∧ pLog t lcl told
def pM (B K t : Nat) (x : (Int32 × Int32 × Int64 × Int32 × Int32 × Int64 × Int32 × Int32 × Bool × Int32 × Bool × Int32 × Int32 × Int32 × Int64 × Int64 × Int64 × Int32 × (Nat → Int32) × (Nat → Int64) × (Nat → Int32) × (Nat → Int32) × Int32 × Int32 × (Nat → Int64) × Int32 × Int32 × (Nat → Int32))) (m : (Int64 × Int64 × Int32 × Int32 × Bool × Int32 × Int32 × Int32 × Int64 × Bool × Int64 × Int64 × Bool × Int32 × Int32 × Int32 × Int32 × Int32 × Int32 × Int32 × Int32 × Int32 × Int32 × (Nat → Int32) × (Nat → Int64) × (Nat → Int32) × (Nat → Int32) × (Nat → Int64) × (Nat → Int32))) : Prop := ∃ (ups downs : Int32) (tk : Int64) (c : Nat) (sh : Int32) (seed : Int64) (range off : Int32) (cs : Bool) (rt : Int32) (ov : Bool) (pl mi sw : Int32) (ch su fl : Int64) (sg : Int32) (cnt : Nat → Int32) (zs ms : Nat → Int64) (zc mc zn mr : Nat → Int32) (h : Nat) (jm : Int32) (f g : Nat → Int64) (go : Int32) (lcl told : Nat → Int32) (wc : Bool), x = (ups, downs, tk, nI c, sh, seed, range, off, cs, rt, ov, pl, mi, sw, ch, su, fl, sg, cnt, zs, zc, zn, nI h, jm, f, nI t, go, lcl) ∧ m = (seed, tk, range, off, wc, pl, mi, sw, ch, ov, su, fl, cs, rt, nI h, nI (min t 12), nI t, go, nI c, sh, ups, downs, jm, cnt, ms, mc, mr, g, told) ∧ iM B K c t h tk range wc zs ms zc mc zn mr f g lcl told
set_option maxHeartbeats 400000 in
theorem tr_eq (dc hum w : Int32) {n : Int32} (au : Bool) (creep : Int32) {z factor shift : Int32} (win : Int32) {N B K : Nat} (hN : 1 ≤ N ∧ N ≤ 50) (hn : 0 ≤ n.toInt ∧ n.toInt ≤ 10000) (hz : 0 ≤ z.toInt) (hfa : factor.toInt.natAbs ≤ 1000) (hsh : shift.toInt.natAbs ≤ 1000000) (hB : B + 1 ≤ 1000000) (ups downs : Int32) (tk : Int64) (c : Nat) (sh : Int32) (seed : Int64) (range off : Int32) (cs : Bool) (rt : Int32) (ov : Bool) (pl mi sw : Int32) (ch su fl : Int64) (sg : Int32) (cnt : Nat → Int32) (zs ms : Nat → Int64) (zc mc zn mr : Nat → Int32) (h : Nat) (jm : Int32) (f g : Nat → Int64) (t : Nat) (go : Int32) (lcl told : Nat → Int32) (wc : Bool) (hi : iM B K c t h tk range wc zs ms zc mc zn mr f g lcl told) :
    ∃ (b : Bool) (x : (Int32 × Int32 × Int64 × Int32 × Int32 × Int64 × Int32 × Int32 × Bool × Int32 × Bool × Int32 × Int32 × Int32 × Int64 × Int64 × Int64 × Int32 × (Nat → Int32) × (Nat → Int64) × (Nat → Int32) × (Nat → Int32) × Int32 × Int32 × (Nat → Int64) × Int32 × Int32 × (Nat → Int32))) (m : (Int64 × Int64 × Int32 × Int32 × Bool × Int32 × Int32 × Int32 × Int64 × Bool × Int64 × Int64 × Bool × Int32 × Int32 × Int32 × Int32 × Int32 × Int32 × Int32 × Int32 × Int32 × Int32 × (Nat → Int32) × (Nat → Int64) × (Nat → Int32) × (Nat → Int32) × (Nat → Int64) × (Nat → Int32))), f_X9_takeReading au z factor shift ups downs (nI N) tk (nI c) sh dc hum w n seed range off creep cs rt ov pl mi sw ch su fl sg cnt zs zc zn (nI h) (nI K) win jm f (nI t) go lcl = (b, x) ∧ f_X10_takesReading dc hum w n seed tk range au off creep factor shift (nI N) z (nI K) win wc pl mi sw ch ov su fl cs rt (nI h) (nI (min t 12)) (nI t) go (nI c) sh ups downs jm cnt ms mc mr g told = (b, m) ∧ pM (B + 1) K (t + 1) x m := by
  obtain ⟨i1, i2, i3, i4, i5, i6, i7, i8, i9⟩ := hi
  have hfr := fr_sim dc hum w (n := n) au creep hN hn (fun q => q) (nI c) tk (by omega) 6 0 9 8 false ups downs tk sh seed range off cs rt ov pl mi sw ch su fl sg cnt wc pl mi sw ch ov su fl cs rt (fr_6 i5) (by omega) (by omega) (by omega) i5 (by omega) (by omega)
  rw [nI_0, Int32.add_zero] at hfr
  obtain ⟨j, ups1, downs1, tk1, sh1, seed1, range1, off1, rt1, ov1, pl1, mi1, sw1, ch1, su1, fl1, sg1, cnt1, hx, hm, j1, j2, r1, t1, t2, s1⟩ := hfr
  rw [nI_add] at hx hm
  have hx' : f_X9_findRange au ups downs (nI N) tk (nI c) sh dc hum w n seed range off creep cs rt ov pl mi sw ch su fl sg cnt = (ups1, downs1, tk1, nI (c + j), sh1, seed1, range1, off1, false, rt1, ov1, pl1, mi1, sw1, ch1, su1, fl1, sg1, cnt1) := by
    rw [f_X9_findRange]
    exact hx
  have hm' : f_X10_findRange dc hum w n seed tk range au off creep (nI N) wc pl mi sw ch ov su fl cs rt (nI c) sh ups downs cnt = (nI j, (seed1, tk1, range1, off1, true, pl1, mi1, sw1, ch1, ov1, su1, fl1, false, rt1, nI (c + j), sh1, ups1, downs1, cnt1)) := by
    rw [f_X10_findRange]
    exact hm
  obtain ⟨r, hr, rfl⟩ := vp_in_of r1 (by decide)
  obtain ⟨zv, q, tk2, sh2, seed2, off2, cs2, rt2, ov2, pl2, mi2, sw2, ch2, su2, fl2, sg2, cnt2, zs2, ms2, zc2, mc2, zn2, mr2, zx, zm, q1, u1, u2, z1, z2, z3⟩ := zp_eq dc hum w (n := n) (creep := creep) (z := z) (N := N) (r := r) (t := t) j (c + j) hN hn hr hz (by omega) seed1 (tk := tk1) (by omega) off1 pl1 mi1 sw1 ch1 ov1 su1 fl1 false rt1 sh1 sg1 cnt1 i7
  have ed : (su1 - zv).toInt = su1.toInt - zv.toInt := gl_sub (by omega) (by omega)
  have hv := val_bd hN (nI r) hfa hsh (d := su1 - zv) (by omega)
  have hve := val_eq hN (nI r) factor shift (su1 - zv)
  have ec : nI (c + j + q) - nI c = nI (j + q) := by
    have e9 : c + j + q - c = j + q := by omega
    rw [pk_sub (by omega), e9]
  -- the class
  have fX : f_X9_takeReading au z factor shift ups downs (nI N) tk (nI c) sh dc hum w n seed range off creep cs rt ov pl mi sw ch su fl sg cnt zs zc zn (nI h) (nI K) win jm f (nI t) go lcl = (gBind (fun (k_8 : (Bool × Int32 × Int32 × (Nat → Int64)) → (Bool × (Int32 × Int32 × Int64 × Int32 × Int32 × Int64 × Int32 × Int32 × Bool × Int32 × Bool × Int32 × Int32 × Int32 × Int64 × Int64 × Int64 × Int32 × (Nat → Int32) × (Nat → Int64) × (Nat → Int32) × (Nat → Int32) × Int32 × Int32 × (Nat → Int64) × Int32 × Int32 × (Nat → Int32)))) => (if ov1 = true then (k_8 (false, nI h, jm, f)) else (match (f_X4_takeIn (nI h) (nI K) win jm f (pVal (nI N) (nI r) factor shift (su1 - zv))) with | (r_64_10, mn_size_10, mn_jumps_10, f_vals_10) => (if r_64_10 = true then (k_8 (true, mn_size_10, mn_jumps_10, f_vals_10)) else (k_8 (false, mn_size_10, mn_jumps_10, f_vals_10)))))) (fun q_8 => match q_8 with | (k0_8, mn_size_8, mn_jumps_8, f_vals_8) => (match (f_X3_note (nI t) go lcl (pVal (nI N) (nI r) factor shift (su1 - zv)) (nI r) ov1 (nI (j + q)) k0_8 tk2.toInt32) with | (lg_taken_12, lg_over_12, f_lcl_12) => (ov1, (ups1, downs1, tk2, nI (c + j + q), sh2, seed2, nI r, off2, cs2, rt2, ov2, pl2, mi2, sw2, ch2, su2, fl2, sg2, cnt2, zs2, zc2, zn2, mn_size_8, mn_jumps_8, f_vals_8, lg_taken_12, lg_over_12, f_lcl_12))))) := by
    rw [f_X9_takeReading, hx']
    dsimp only
    rw [zx]
    dsimp only
    rw [hve, ec]
  have fM : f_X10_takesReading dc hum w n seed tk range au off creep factor shift (nI N) z (nI K) win wc pl mi sw ch ov su fl cs rt (nI h) (nI (min t 12)) (nI t) go (nI c) sh ups downs jm cnt ms mc mr g told = (gBind (fun (k_21 : (Bool × Int32 × Int32 × (Nat → Int64)) → (Bool × (Int64 × Int64 × Int32 × Int32 × Bool × Int32 × Int32 × Int32 × Int64 × Bool × Int64 × Int64 × Bool × Int32 × Int32 × Int32 × Int32 × Int32 × Int32 × Int32 × Int32 × Int32 × Int32 × (Nat → Int32) × (Nat → Int64) × (Nat → Int32) × (Nat → Int32) × (Nat → Int64) × (Nat → Int32)))) => (if ov1 = true then (k_21 (false, nI h, jm, g)) else (match (f_X10_comes (nI K) win (nI h) jm g (pVal (nI N) (nI r) factor shift (su1 - zv))) with | (r_115_23, md_held_23, md_jumps_23, f_mvals_23) => (if r_115_23 = true then (k_21 (true, md_held_23, md_jumps_23, f_mvals_23)) else (k_21 (false, md_held_23, md_jumps_23, f_mvals_23)))))) (fun q_21 => match q_21 with | (k0_21, md_held_21, md_jumps_21, f_mvals_21) => (match (f_X10_noteDown tk2 (nI r) (nI (min t 12)) (nI t + (1 : Int32)) told (pVal (nI N) (nI r) factor shift (su1 - zv)) ov1 (nI (j + q)) k0_21) with | (md_kept_25, f_mtold_25) => (if ov1 = true then (ov1, (seed2, tk2, nI r, off2, true, pl2, mi2, sw2, ch2, ov2, su2, fl2, cs2, rt2, md_held_21, md_kept_25, (nI t + (1 : Int32)), (go + (1 : Int32)), nI (c + j + q), sh2, ups1, downs1, md_jumps_21, cnt2, ms2, mc2, mr2, f_mvals_21, f_mtold_25)) else (ov1, (seed2, tk2, nI r, off2, true, pl2, mi2, sw2, ch2, ov2, su2, fl2, cs2, rt2, md_held_21, md_kept_25, (nI t + (1 : Int32)), (go + (0 : Int32)), nI (c + j + q), sh2, ups1, downs1, md_jumps_21, cnt2, ms2, mc2, mr2, f_mvals_21, f_mtold_25)))))) := by
    rw [f_X10_takesReading, hm']
    dsimp only
    unfold pMz at zm
    dsimp only at zm
    rw [zm]
    dsimp only
    unfold pVal
    rfl
  rw [fX, fM]
  -- what came into the filter
  have hf : ∃ (jp : Bool) (h' : Nat) (j' : Int32) (f' g' : Nat → Int64), (∀ K9, gBind (fun (k_8 : (Bool × Int32 × Int32 × (Nat → Int64)) → (Bool × (Int32 × Int32 × Int64 × Int32 × Int32 × Int64 × Int32 × Int32 × Bool × Int32 × Bool × Int32 × Int32 × Int32 × Int64 × Int64 × Int64 × Int32 × (Nat → Int32) × (Nat → Int64) × (Nat → Int32) × (Nat → Int32) × Int32 × Int32 × (Nat → Int64) × Int32 × Int32 × (Nat → Int32)))) => (if ov1 = true then (k_8 (false, nI h, jm, f)) else (match (f_X4_takeIn (nI h) (nI K) win jm f (pVal (nI N) (nI r) factor shift (su1 - zv))) with | (r_64_10, mn_size_10, mn_jumps_10, f_vals_10) => (if r_64_10 = true then (k_8 (true, mn_size_10, mn_jumps_10, f_vals_10)) else (k_8 (false, mn_size_10, mn_jumps_10, f_vals_10)))))) K9 = K9 (jp, nI h', j', f')) ∧ (∀ K9, gBind (fun (k_21 : (Bool × Int32 × Int32 × (Nat → Int64)) → (Bool × (Int64 × Int64 × Int32 × Int32 × Bool × Int32 × Int32 × Int32 × Int64 × Bool × Int64 × Int64 × Bool × Int32 × Int32 × Int32 × Int32 × Int32 × Int32 × Int32 × Int32 × Int32 × Int32 × (Nat → Int32) × (Nat → Int64) × (Nat → Int32) × (Nat → Int32) × (Nat → Int64) × (Nat → Int32)))) => (if ov1 = true then (k_21 (false, nI h, jm, g)) else (match (f_X10_comes (nI K) win (nI h) jm g (pVal (nI N) (nI r) factor shift (su1 - zv))) with | (r_115_23, md_held_23, md_jumps_23, f_mvals_23) => (if r_115_23 = true then (k_21 (true, md_held_23, md_jumps_23, f_mvals_23)) else (k_21 (false, md_held_23, md_jumps_23, f_mvals_23)))))) K9 = K9 (jp, nI h', j', g')) ∧ pFil h' K f' g' := by
    by_cases ho : ov1 = true
    · exact ⟨false, h, jm, f, g, fun K9 => by rw [gBif, if_pos ho, gBk], fun K9 => by rw [gBif, if_pos ho, gBk], i8⟩
    · obtain ⟨jp, h', j', f', g', k1, k2, k3, k4⟩ := take_eq i8 win jm hv
      refine ⟨jp, h', j', f', g', fun K9 => ?_, fun K9 => ?_, k3⟩
      · rw [gBif, if_neg ho, k1]
        unfold gBind
        cases jp <;> rfl
      · rw [gBif, if_neg ho, k2]
        unfold gBind
        cases jp <;> rfl
  obtain ⟨jp, h', j', f', g', k1, k2, k3⟩ := hf
  rw [k1, k2]
  dsimp only
  obtain ⟨lcl', told', l1, l2, l3⟩ := note_eq i9 (by omega) go (pVal (nI N) (nI r) factor shift (su1 - zv)) (nI r) ov1 (nI (j + q)) jp tk2
  rw [nI_1, l1, l2]
  dsimp only
  have eo : (if ov1 = true then (ov1, (seed2, tk2, nI r, off2, true, pl2, mi2, sw2, ch2, ov2, su2, fl2, cs2, rt2, nI h', nI (min (t + 1) 12), nI (t + 1), (go + (1 : Int32)), nI (c + j + q), sh2, ups1, downs1, j', cnt2, ms2, mc2, mr2, g', told')) else (ov1, (seed2, tk2, nI r, off2, true, pl2, mi2, sw2, ch2, ov2, su2, fl2, cs2, rt2, nI h', nI (min (t + 1) 12), nI (t + 1), (go + (0 : Int32)), nI (c + j + q), sh2, ups1, downs1, j', cnt2, ms2, mc2, mr2, g', told'))) = (ov1, (seed2, tk2, nI r, off2, true, pl2, mi2, sw2, ch2, ov2, su2, fl2, cs2, rt2, nI h', nI (min (t + 1) 12), nI (t + 1), (go + bI ov1), nI (c + j + q), sh2, ups1, downs1, j', cnt2, ms2, mc2, mr2, g', told')) := by
    cases ov1 <;> rfl
  rw [eo]
  exact ⟨ov1, _, _, rfl, rfl, ups1, downs1, tk2, c + j + q, sh2, seed2, nI r, off2, cs2, rt2, ov2, pl2, mi2, sw2, ch2, su2, fl2, sg2, cnt2, zs2, ms2, zc2, mc2, zn2, mr2, h', j', f', g', go + bI ov1, lcl', told', true, rfl, rfl, by omega, by omega, by omega, by omega, vp_in_nI hr (by decide), ⟨fun _ => by omega, fun _ => rfl⟩, z1, k3, l3⟩
