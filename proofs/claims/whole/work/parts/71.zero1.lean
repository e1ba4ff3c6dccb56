/-! a reading -/
noncomputable def pMz (dc hum w n creep z : Int32) (N r t j c : Nat) (seed tk : Int64) (off : Int32) (pl mi sw : Int32) (ch : Int64) (ov : Bool) (su fl : Int64) (cs : Bool) (rt sh : Int32) (cnt : Nat → Int32) (ms : Nat → Int64) (mc mr : Nat → Int32) : ((Int32 × Int64 × Int64 × Int64 × Int32 × Bool × Int32 × Int32 × Int32 × Int64 × Bool × Int64 × Int64 × Bool × Int32 × Int32 × Int32 × (Nat → Int32) × (Nat → Int64) × (Nat → Int32) × (Nat → Int32)) → (Bool × (Int64 × Int64 × Int32 × Int32 × Bool × Int32 × Int32 × Int32 × Int64 × Bool × Int64 × Int64 × Bool × Int32 × Int32 × Int32 × Int32 × Int32 × Int32 × Int32 × Int32 × Int32 × Int32 × (Nat → Int32) × (Nat → Int64) × (Nat → Int32) × (Nat → Int32) × (Nat → Int64) × (Nat → Int32)))) → (Bool × (Int64 × Int64 × Int32 × Int32 × Bool × Int32 × Int32 × Int32 × Int64 × Bool × Int64 × Int64 × Bool × Int32 × Int32 × Int32 × Int32 × Int32 × Int32 × Int32 × Int32 × Int32 × Int32 × (Nat → Int32) × (Nat → Int64) × (Nat → Int32) × (Nat → Int32) × (Nat → Int64) × (Nat → Int32))) := (fun (k_9 : (Int32 × Int64 × Int64 × Int64 × Int32 × Bool × Int32 × Int32 × Int32 × Int64 × Bool × Int64 × Int64 × Bool × Int32 × Int32 × Int32 × (Nat → Int32) × (Nat → Int64) × (Nat → Int32) × (Nat → Int32)) → (Bool × (Int64 × Int64 × Int32 × Int32 × Bool × Int32 × Int32 × Int32 × Int64 × Bool × Int64 × Int64 × Bool × Int32 × Int32 × Int32 × Int32 × Int32 × Int32 × Int32 × Int32 × Int32 × Int32 × (Nat → Int32) × (Nat → Int64) × (Nat → Int32) × (Nat → Int32) × (Nat → Int64) × (Nat → Int32)))) => (if z ≤ (0 : Int32) then (k_9 ((nI j), (0 : Int64), seed, tk, off, true, pl, mi, sw, ch, ov, su, fl, cs, rt, (nI c), sh, cnt, ms, mc, mr)) else (match (f_X10_isZeroKept (nI r) (nI N) z ((nI t) + (1 : Int32)) mc mr) with | (r_36_11, _) => (gBind (fun (k_14 : (Int32 × Int64 × Int64 × Int32 × Bool × Int32 × Int32 × Int32 × Int64 × Bool × Int64 × Int64 × Bool × Int32 × Int32 × Int32 × (Nat → Int32) × (Nat → Int64) × (Nat → Int32) × (Nat → Int32)) → (Bool × (Int64 × Int64 × Int32 × Int32 × Bool × Int32 × Int32 × Int32 × Int64 × Bool × Int64 × Int64 × Bool × Int32 × Int32 × Int32 × Int32 × Int32 × Int32 × Int32 × Int32 × Int32 × Int32 × (Nat → Int32) × (Nat → Int64) × (Nat → Int32) × (Nat → Int32) × (Nat → Int64) × (Nat → Int32)))) => (if r_36_11 = true then (k_14 ((nI j), seed, tk, off, true, pl, mi, sw, ch, ov, su, fl, cs, rt, (nI c), sh, cnt, ms, mc, mr)) else (match (f_X10_takeZero dc hum w n seed tk (nI r) off creep (nI N) ((nI t) + (1 : Int32)) (nI c) sh cnt ms mc mr) with | (md_seedNow_16, md_tick_16, md_offset_16, md_wasConversion_16, md_plus_16, md_minus_16, md_switched_16, md_charge_16, md_wasOver_16, md_sum_16, md_flowed_16, md_wasShorted_16, md_rangeThen_16, md_conversions_16, md_shortedOnes_16, f_mcnt_16, f_mzs_16, f_mzc_16, f_mzr_16) => (k_14 (((nI j) + 1), md_seedNow_16, md_tick_16, md_offset_16, md_wasConversion_16, md_plus_16, md_minus_16, md_switched_16, md_charge_16, md_wasOver_16, md_sum_16, md_flowed_16, md_wasShorted_16, md_rangeThen_16, md_conversions_16, md_shortedOnes_16, f_mcnt_16, f_mzs_16, f_mzc_16, f_mzr_16))))) (fun q_14 => match q_14 with | (l1_14, md_seedNow_14, md_tick_14, md_offset_14, md_wasConversion_14, md_plus_14, md_minus_14, md_switched_14, md_charge_14, md_wasOver_14, md_sum_14, md_flowed_14, md_wasShorted_14, md_rangeThen_14, md_conversions_14, md_shortedOnes_14, f_mcnt_14, f_mzs_14, f_mzc_14, f_mzr_14) => (k_9 (l1_14, (f_mzs_14 (nI r).toNatClampNeg), md_seedNow_14, md_tick_14, md_offset_14, md_wasConversion_14, md_plus_14, md_minus_14, md_switched_14, md_charge_14, md_wasOver_14, md_sum_14, md_flowed_14, md_wasShorted_14, md_rangeThen_14, md_conversions_14, md_shortedOnes_14, f_mcnt_14, f_mzs_14, f_mzc_14, f_mzr_14)))))))
set_option maxHeartbeats 1000000 in
theorem zp_eq (dc hum w : Int32) {n creep z : Int32} {N r t : Nat} (j c : Nat) (hN : 1 ≤ N ∧ N ≤ 50) (hn : 0 ≤ n.toInt ∧ n.toInt ≤ 10000) (hr : r < 3) (hz : 0 ≤ z.toInt) (ht : t < 2 ^ 30) (seed : Int64) {tk : Int64} (htk : 0 ≤ tk.toInt ∧ tk.toInt ≤ 100000000000000) (off pl mi sw : Int32) (ch : Int64) (ov : Bool) (su fl : Int64) (cs : Bool) (rt sh sg : Int32) (cnt : Nat → Int32) {zs ms : Nat → Int64} {zc mc zn mr : Nat → Int32} (hp : pZ zs ms zc mc zn mr) :
    ∃ (zv : Int64) (q : Nat) (tk' : Int64) (sh' : Int32) (seed' : Int64) (off' : Int32) (cs' : Bool) (rt' : Int32) (ov' : Bool) (pl' mi' sw' : Int32) (ch' su' fl' : Int64) (sg' : Int32) (cnt' : Nat → Int32) (zs' ms' : Nat → Int64) (zc' mc' zn' mr' : Nat → Int32),
      f_X9_findZero z (nI N) tk (nI c) sh dc hum w n seed (nI r) off creep cs rt ov pl mi sw ch su fl sg cnt zs zc zn (nI t) = (zv, (tk', nI (c + q), sh', seed', off', cs', rt', ov', pl', mi', sw', ch', su', fl', sg', cnt', zs', zc', zn')) ∧
      (∀ K9, gBind (pMz dc hum w n creep z N r t j c seed tk off pl mi sw ch ov su fl cs rt sh cnt ms mc mr) K9 = K9 (nI (j + q), zv, seed', tk', off', true, pl', mi', sw', ch', ov', su', fl', cs', rt', nI (c + q), sh', cnt', ms', mc', mr')) ∧ q ≤ 1 ∧ tk.toInt ≤ tk'.toInt ∧ tk'.toInt ≤ tk.toInt + 5000 ∧ pZ zs' ms' zc' mc' zn' mr' ∧ -200000000000 ≤ zv.toInt ∧ zv.toInt ≤ 200000000000 := by
  have e0 : (0 : Int32).toInt = 0 := by decide
  by_cases h0 : z = 0
  · refine ⟨0, 0, tk, sh, seed, off, cs, rt, ov, pl, mi, sw, ch, su, fl, sg, cnt, zs, ms, zc, mc, zn, mr, ?_, ?_, by omega, by omega, by omega, hp, by decide, by decide⟩
    · rw [f_X9_findZero, if_pos h0]
      rfl
    · intro K9
      unfold pMz
      rw [gBif, if_pos (by rw [h0]; decide), gBk]
      rfl
  · have hz0 : ¬ z ≤ (0 : Int32) := fun q => by
      have := le0_iff.mp q
      exact h0 (Int32.toInt_inj.mp (by omega))
    have hb : ∃ b : Bool, f_X10_isZeroKept (nI r) (nI N) z (nI t + 1) mc mr = (b, ()) ∧ (z = 2 → f_X8_serves zc zn (nI r) (nI N) (nI t + 1) = (b, ())) ∧ (b = true → z = 2 ∧ zs r = ms r ∧ -200000000000 ≤ (ms r).toInt ∧ (ms r).toInt ≤ 200000000000) := by
      by_cases h2 : z = 2
      · obtain ⟨b, b1, b2, b3⟩ := sv_eq hp hr hN (nI t + 1)
        exact ⟨b, by rw [h2]; exact b2, fun _ => b1, fun q => ⟨h2, b3 q⟩⟩
      · exact ⟨false, by rw [f_X10_isZeroKept, if_neg h2], fun q => absurd q h2, fun q => absurd q (by decide)⟩
    obtain ⟨b, hk, hs, hb3⟩ := hb
    cases b with
    | false =>
      obtain ⟨t', seed', off', ov', pl', mi', sw', ch', su', fl', sg', cnt', hx, hm, hb1, hb2, hb3, hb4⟩ := conv_eq dc hum w seed (t0 := tk) (nI r) off creep (nI c) sh cnt true hN.2 hn htk
      rw [if_pos rfl, nI_1] at hx hm
      refine ⟨su', 1, t', sh + 1, seed', off', true, nI r, ov', pl', mi', sw', ch', su', fl', sg', cnt', vp_updL zs r su', vp_updL ms r su', upd zc r (nI N), upd mc r (nI N), upd zn r (nI t + 1), upd mr r (nI t + 1), ?_, ?_, by omega, hb1, hb2, pZ_keep hp r hb3 (by rw [nI_toInt (by omega)]; omega) (by rw [nI_1, nI_toInt (by omega)]; omega), hb3.1, hb3.2⟩
      · rw [f_X9_findZero, if_neg h0, hx]
        dsimp only
        rw [keep_eq hr]
        by_cases h2 : z = 2
        · rw [if_pos h2, hs h2]
          rfl
        · rw [if_neg h2]
      · intro K9
        unfold pMz
        rw [gBif, if_neg hz0, hk, f_X10_takeZero, hm, nI_clamp (by omega), nI_1]
        dsimp only
        unfold gBind
        dsimp only
        rw [if_neg (by decide), pk_uLs, nI_1]
    | true =>
      obtain ⟨h2, k1, k2, k3⟩ := hb3 rfl
      refine ⟨ms r, 0, tk, sh, seed, off, cs, rt, ov, pl, mi, sw, ch, su, fl, sg, cnt, zs, ms, zc, mc, zn, mr, ?_, ?_, by omega, by omega, by omega, hp, k2, k3⟩
      · rw [f_X9_findZero, if_neg h0, if_pos h2, hs h2]
        dsimp only
        rw [if_pos rfl, so_eq hr, k1]
        rfl
      · intro K9
        unfold pMz
        rw [gBif, if_neg hz0, hk]
        dsimp only
        unfold gBind
        dsimp only
        rw [if_pos rfl, nI_clamp (by omega)]
        rfl
