/-! where a text is at fault -/
set_option maxHeartbeats 1000000 in
theorem fa_sim (hum w n creep factor shift : Int32) {l : Nat} (hl : l ≤ 40) (pg : Nat → Int32) (dc : Int32) (seed tk : Int64) (range : Int32) (au : Bool) (off N z K0 win : Int32) (wc : Bool) (pl mi sw : Int32) (ch : Int64) (ov : Bool) (su fl : Int64) (cs : Bool) (rt h0 kept t go cv sh ups downs jm : Int32) (cnt : Nat → Int32) (ms : Nat → Int64) (mc mr : Nat → Int32) (g : Nat → Int64) (told : Nat → Int32) :
    ∀ (m i : Nat) (st : Int32) (be : Bool) (am : Int64) (co cm fi nu : Int32) (ib : Bool), i ≤ l → l - i < m → pP i st be am co cm fi nu ib →
      ∃ (j : Nat) (st' : Int32) (be' : Bool) (am' : Int64) (co' cm' fi' nu' : Int32) (ib' : Bool), f_X9_fault_L9 (nI l) pg (fun q => (nI l, q)) m (nI i, st, be, am, co) = (nI j, (st', be', am', co')) ∧ f_X10_goAlong_L7 hum w n creep factor shift (nI l) pg false (fun q => q) m (nI i, dc, seed, tk, range, au, off, N, z, K0, win, wc, pl, mi, sw, ch, ov, su, fl, cs, rt, h0, kept, t, go, cv, sh, ups, downs, jm, cm, fi, nu, ib, cnt, ms, mc, mr, g, told) = (nI j, (dc, seed, tk, range, au, off, N, z, K0, win, wc, pl, mi, sw, ch, ov, su, fl, cs, rt, h0, kept, t, go, cv, sh, ups, downs, jm, cm', fi', nu', ib', cnt, ms, mc, mr, g, told)) ∧ j ≤ l ∧ (j = l → pP l st' be' am' co' cm' fi' nu' ib') := by
  intro m
  induction m with
  | zero => intro i st be am co cm fi nu ib _ q; omega
  | succ m ih =>
    intro i st be am co cm fi nu ib hi hm hp
    rw [f_X9_fault_L9, f_X10_goAlong_L7]
    by_cases he : i = l
    · subst he
      rw [if_pos (nI_le (Nat.le_refl _) (by omega)), if_pos (nI_le (Nat.le_refl _) (by omega))]
      exact ⟨i, st, be, am, co, cm, fi, nu, ib, rfl, rfl, Nat.le_refl _, fun _ => hp⟩
    · rw [if_neg (nI_ge (by omega) (by omega)), if_neg (nI_ge (by omega) (by omega)), code_eq hl (by omega), nI_clamp (by omega), nI_1]
      dsimp only
      by_cases h59 : pg i = 59
      · obtain ⟨r, st1, cm1, fi1, nu1, ib1, tx, tm, ht, hf⟩ := tk_59 hp (by omega)
        rw [h59, tx, tm]
        cases r with
        | true =>
          obtain ⟨q1, q2⟩ := ht rfl
          subst q1
          dsimp only
          rw [if_pos rfl, if_pos rfl, if_pos rfl, if_neg (by decide)]
          exact ih (i + 1) 0 be am co 0 fi1 nu1 ib1 (by omega) (by omega) (Or.inl ⟨rfl, rfl⟩)
        | false =>
          exact ⟨i, st1, be, am, co, cm1, fi1, nu1, ib1, rfl, rfl, by omega, fun q => absurd q he⟩
      · obtain ⟨r, st1, be1, am1, co1, cm1, fi1, nu1, ib1, tx, tm, hq⟩ := tk_ne hp (by omega) h59
        rw [tx, tm]
        cases r with
        | true =>
          dsimp only
          rw [if_pos rfl, if_pos rfl, if_neg h59]
          exact ih (i + 1) st1 be1 am1 co1 cm1 fi1 nu1 ib1 (by omega) (by omega) hq
        | false =>
          exact ⟨i, st1, be1, am1, co1, cm1, fi1, nu1, ib1, rfl, rfl, by omega, fun q => absurd q he⟩
theorem ga_eq (hum w n creep factor shift : Int32) {l : Nat} (hl : l ≤ 40) (pg : Nat → Int32) (dc : Int32) (seed tk : Int64) (range : Int32) (au : Bool) (off N z K0 win : Int32) (wc : Bool) (pl mi sw : Int32) (ch : Int64) (ov : Bool) (su fl : Int64) (cs : Bool) (rt h0 kept t go cv sh ups downs jm : Int32) (cnt : Nat → Int32) (ms : Nat → Int64) (mc mr : Nat → Int32) (g : Nat → Int64) (told : Nat → Int32) (fi nu : Int32) (ib : Bool) :
    ∃ (j : Nat) (st' : Int32) (be' : Bool) (am' : Int64) (co' cm' fi' nu' : Int32) (ib' : Bool), f_X9_fault (nI l) pg = (nI j, (st', be', am', co')) ∧ f_X9_fault_L9 (nI l) pg (fun q => (nI l, q)) (l + 1) (0, 0, false, 0, 0) = (nI j, (st', be', am', co')) ∧ f_X10_goAlong dc hum w n seed tk range au off creep factor shift N z K0 win wc pl mi sw ch ov su fl cs rt h0 kept t go cv sh ups downs jm (nI l) fi nu ib cnt ms mc mr g told pg false = (nI j, (dc, seed, tk, range, au, off, N, z, K0, win, wc, pl, mi, sw, ch, ov, su, fl, cs, rt, h0, kept, t, go, cv, sh, ups, downs, jm, cm', fi', nu', ib', cnt, ms, mc, mr, g, told)) ∧ j ≤ l ∧ (j = l → pP l st' be' am' co' cm' fi' nu' ib') := by
  have el : (nI l).toInt.toNat + 1 = l + 1 := by rw [nI_toInt (by omega)]; omega
  have main := fa_sim hum w n creep factor shift hl pg dc seed tk range au off N z K0 win wc pl mi sw ch ov su fl cs rt h0 kept t go cv sh ups downs jm cnt ms mc mr g told (l + 1) 0 0 false 0 0 0 fi nu ib (by omega) (by omega) (Or.inl ⟨rfl, rfl⟩)
  rw [nI_0] at main
  obtain ⟨j, st', be', am', co', cm', fi', nu', ib', hx, hm, hj, hp⟩ := main
  refine ⟨j, st', be', am', co', cm', fi', nu', ib', ?_, hx, ?_, hj, hp⟩
  · rw [f_X9_fault, f_X6_begin, el]
    exact hx
  · rw [f_X10_goAlong, el]
    exact hm
theorem fault_eq (hum w n creep factor shift : Int32) {l : Nat} (hl : l ≤ 40) (pg : Nat → Int32) (dc : Int32) (seed tk : Int64) (range : Int32) (au : Bool) (off N z K0 win : Int32) (wc : Bool) (pl mi sw : Int32) (ch : Int64) (ov : Bool) (su fl : Int64) (cs : Bool) (rt h0 kept t go cv sh ups downs jm : Int32) (cnt : Nat → Int32) (ms : Nat → Int64) (mc mr : Nat → Int32) (g : Nat → Int64) (told : Nat → Int32) (fi nu : Int32) (ib : Bool) :
    ∃ (r st' : Int32) (be' : Bool) (am' : Int64) (co' cm' fi' nu' : Int32) (ib' : Bool), f_X9_fault (nI l) pg = (r, (st', be', am', co')) ∧ f_X10_fault dc hum w n seed tk range au off creep factor shift N z K0 win wc pl mi sw ch ov su fl cs rt h0 kept t go cv sh ups downs jm (nI l) fi nu ib cnt ms mc mr g told pg = (r, (dc, seed, tk, range, au, off, N, z, K0, win, wc, pl, mi, sw, ch, ov, su, fl, cs, rt, h0, kept, t, go, cv, sh, ups, downs, jm, cm', fi', nu', ib', cnt, ms, mc, mr, g, told)) := by
  obtain ⟨j, st', be', am', co', cm', fi', nu', ib', hx, hx2, hm, hj, hp⟩ := ga_eq hum w n creep factor shift hl pg dc seed tk range au off N z K0 win wc pl mi sw ch ov su fl cs rt h0 kept t go cv sh ups downs jm cnt ms mc mr g told fi nu ib
  refine ⟨nI j, st', be', am', co', cm', fi', nu', ib', hx, ?_⟩
  rw [f_X10_fault, hm]
