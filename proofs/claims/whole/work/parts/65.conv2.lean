noncomputable def contM (off creep conv sh range : Int32) (cnt : Nat → Int32) (p0 : Bool) (u : (Int64 × Int64 × Int32 × Int32 × Int32 × Int64 × Bool × Int64)) : (Int64 × Int64 × Int32 × Bool × Int32 × Int32 × Int32 × Int64 × Bool × Int64 × Int64 × Bool × Int32 × Int32 × Int32 × (Nat → Int32)) := match u with | (md_seedNow_1, md_tick_1, md_plus_1, md_minus_1, md_switched_1, md_charge_1, md_wasOver_1, md_flowed_1) => (f_X10_converts_L74 (fun q_9 => match q_9 with | (md_tick_9, md_charge_9, md_sum_9, f_mcnt_9) => (gBind (fun (k_15 : Int32 → (Int64 × Int64 × Int32 × Bool × Int32 × Int32 × Int32 × Int64 × Bool × Int64 × Int64 × Bool × Int32 × Int32 × Int32 × (Nat → Int32))) => (if (off + creep) ≤ (2000 : Int32) then (if (-2000 : Int32) ≤ (off + creep) then (k_15 (off + creep)) else (k_15 (-2000 : Int32))) else (k_15 (2000 : Int32)))) (fun k0_15 => (if p0 = true then (md_seedNow_1, md_tick_9, k0_15, true, md_plus_1, md_minus_1, md_switched_1, md_charge_9, md_wasOver_1, md_sum_9, md_flowed_1, p0, range, (conv + (1 : Int32)), (sh + (1 : Int32)), f_mcnt_9) else (md_seedNow_1, md_tick_9, k0_15, true, md_plus_1, md_minus_1, md_switched_1, md_charge_9, md_wasOver_1, md_sum_9, md_flowed_1, p0, range, (conv + (1 : Int32)), (sh + (0 : Int32)), f_mcnt_9))))) (5) ((0 : Int32), md_tick_1, md_charge_1, ((-(md_plus_1 - md_minus_1)).toInt64 * (25600000 : Int64)), cnt))
noncomputable def contX (off creep conv sh range : Int32) (p0 : Bool) (t seed : Int64) (ov : Bool) (pl mi sw : Int32) (fl : Int64) (sg : Int32) (x : (Int64 × (Int64 × Int64 × (Nat → Int32)))) : (Int64 × Int32 × Int32 × Int64 × Int32 × Bool × Int32 × Bool × Int32 × Int32 × Int32 × Int64 × Int64 × Int64 × Int32 × (Nat → Int32)) := match x with | (r_135_433, cv_charge_433, cv_sum_433, f_cnt_433) => (match (f_X0_creepOn off creep) with | amp_offset_434 => (if p0 = true then ((t + r_135_433), (conv + (1 : Int32)), (sh + (1 : Int32)), seed, amp_offset_434, p0, range, ov, pl, mi, sw, cv_charge_433, cv_sum_433, fl, sg, f_cnt_433) else ((t + r_135_433), (conv + (1 : Int32)), sh, seed, amp_offset_434, p0, range, ov, pl, mi, sw, cv_charge_433, cv_sum_433, fl, sg, f_cnt_433)))
/-- what a conversion comes to, in the class and in the reference -/
def pConv (p0 : Bool) (range conv sh : Int32) (t0 : Int64) (x : (Int64 × Int32 × Int32 × Int64 × Int32 × Bool × Int32 × Bool × Int32 × Int32 × Int32 × Int64 × Int64 × Int64 × Int32 × (Nat → Int32))) (m : (Int64 × Int64 × Int32 × Bool × Int32 × Int32 × Int32 × Int64 × Bool × Int64 × Int64 × Bool × Int32 × Int32 × Int32 × (Nat → Int32))) : Prop := ∃ (t seed : Int64) (off : Int32) (ov : Bool) (pl mi sw : Int32) (ch su fl : Int64) (sg : Int32) (cnt : Nat → Int32), x = (t, conv + 1, (if p0 = true then sh + 1 else sh), seed, off, p0, range, ov, pl, mi, sw, ch, su, fl, sg, cnt) ∧ m = (seed, t, off, true, pl, mi, sw, ch, ov, su, fl, p0, range, conv + 1, (if p0 = true then sh + 1 else sh), cnt) ∧ t0.toInt ≤ t.toInt ∧ t.toInt ≤ t0.toInt + 5000 ∧ (-200000000000 ≤ su.toInt ∧ su.toInt ≤ 200000000000) ∧ (-200000000000 ≤ fl.toInt ∧ fl.toInt ≤ 200000000000)
set_option maxHeartbeats 1000000 in
theorem conv_eq (dc hum w : Int32) {n : Int32} (seed : Int64) {t0 : Int64} (range off creep conv sh : Int32) (cnt : Nat → Int32) (p0 : Bool) {N : Nat} (hN : N ≤ 50) (hn : 0 ≤ n.toInt ∧ n.toInt ≤ 10000) (ht : 0 ≤ t0.toInt ∧ t0.toInt ≤ 100000000000000) :
    pConv p0 range conv sh t0 (f_X1_converse (nI N) t0 conv sh dc hum w n seed range off creep cnt p0) (f_X10_converts dc hum w n seed t0 range off creep (nI N) conv sh cnt p0) := by
  have eN : (nI N).toInt = (N : Int) := nI_toInt (by omega)
  have main := sim17 dc hum w range off p0 hn hN (P := fun x u => pConv p0 range conv sh t0 x (contM off creep conv sh range cnt p0 u)) (T := t0.toInt + 10 * N) (C := 480000000 * N) (L := 10 * N) (by omega) (by omega) (by omega)
    (fun q => match q with | (t, seed, ov, pl, mi, sw, ch, fl, sg) => contX off creep conv sh range p0 t seed ov pl mi sw fl sg (f_X2_runDown pl mi ch cnt)) (fun q => q) ?_ ((nI N).toInt.toNat + 1) 0 t0 seed false 0 0 0 0 0 0 (by omega) (by omega) ht.1 (by omega) (by have e0 : (0 : Int64).toInt = 0 := (by decide); rw [e0]; omega) (by have e0 : (0 : Int32).toInt = 0 := (by decide); rw [e0]; omega) (by have e0 : (0 : Int32).toInt = 0 := (by decide); rw [e0]; omega)
  · rw [nI_0] at main
    exact main
  · intro t seed ov pl mi sw ch fl sg hT hC hL1 hL2
    have hs0 := sum0_bd (pl := pl) (mi := mi) (by omega) (by omega)
    show pConv p0 range conv sh t0 (contX off creep conv sh range p0 t seed ov pl mi sw fl sg (f_X2_runDown pl mi ch cnt)) (contM off creep conv sh range cnt p0 (seed, t, pl, mi, sw, ch, ov, fl))
    rw [f_X2_runDown]
    have m2 := sim23 (P := fun x m => pConv p0 range conv sh t0 (contX off creep conv sh range p0 t seed ov pl mi sw fl sg x) m) (fun q => match q with | (l1, ch, su, f) => (l1, (ch, su, f))) (fun q => match q with | (t9, ch9, su9, f9) => (if p0 = true then (seed, t9, f_X0_creepOn off creep, true, pl, mi, sw, ch9, ov, su9, fl, p0, range, (conv + (1 : Int32)), (sh + (1 : Int32)), f9) else (seed, t9, f_X0_creepOn off creep, true, pl, mi, sw, ch9, ov, su9, fl, p0, range, (conv + (1 : Int32)), (sh + (0 : Int32)), f9))) t ?_ 5 0 0 ch ((-(pl - mi)).toInt64 * (25600000 : Int64)) cnt (by omega) (by omega) (by decide) (fun _ => by show -(999 * ((25600000 : Nat) : Int)) ≤ _ ∧ _ ≤ 999 * ((25600000 : Nat) : Int); omega) (by omega)
    · rw [nI_0, Int64.add_zero] at m2
      have ec : ∀ (g : Int32 → (Int64 × Int64 × Int32 × Bool × Int32 × Int32 × Int32 × Int64 × Bool × Int64 × Int64 × Bool × Int32 × Int32 × Int32 × (Nat → Int32))), gBind (fun (k : Int32 → (Int64 × Int64 × Int32 × Bool × Int32 × Int32 × Int32 × Int64 × Bool × Int64 × Int64 × Bool × Int32 × Int32 × Int32 × (Nat → Int32))) => (if (off + creep) ≤ (2000 : Int32) then (if (-2000 : Int32) ≤ (off + creep) then (k (off + creep)) else (k (-2000 : Int32))) else (k (2000 : Int32)))) g = g (f_X0_creepOn off creep) := by
        intro g
        rw [← creep_eq off creep]
        unfold gBind
        split
        · split <;> rfl
        · rfl
      unfold contM
      dsimp only
      simp only [ec]
      exact m2
    · intro l1 ch9 su9 f9 h1 h2 h3
      have et : (t + l1).toInt = t.toInt + l1.toInt := gl_add (by omega) (by omega)
      refine ⟨t + l1, seed, f_X0_creepOn off creep, ov, pl, mi, sw, ch9, su9, fl, sg, f9, ?_, ?_, by omega, by omega, h3, by omega⟩
      · unfold contX
        by_cases h : p0 = true
        · simp only [if_pos h]
        · simp only [if_neg h]
      · by_cases h : p0 = true
        · simp only [if_pos h]
        · simp only [if_neg h, Int32.add_zero]
