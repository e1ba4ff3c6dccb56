/-! the zeros -/
def pZ (zs ms : Nat → Int64) (zc mc zn mr : Nat → Int32) : Prop := ∀ r, r < 3 → ((zn r).toInt ≤ 0 ∧ (mc r).toInt ≤ 0) ∨ (0 < (zn r).toInt ∧ 0 < (mc r).toInt ∧ zs r = ms r ∧ zc r = mc r ∧ zn r = mr r ∧ -200000000000 ≤ (ms r).toInt ∧ (ms r).toInt ≤ 200000000000)
theorem ir_eq {r : Nat} (h : r < 3) : f_X8_isRange (nI r) = (true, ()) := by
  have e : (3 : Int32) = nI 3 := by decide
  rw [f_X8_isRange, if_neg (nI_pos (by omega)), e, if_neg (nI_ge h (by decide))]
theorem has_eq {r : Nat} (h : r < 3) (zn : Nat → Int32) : f_X8_has zn (nI r) = ((if zn r ≤ (0 : Int32) then false else true), ()) := by
  rw [f_X8_has, ir_eq h]
  dsimp only
  rw [if_pos rfl, nI_clamp (by omega)]
  split <;> rfl
theorem le0_iff {x : Int32} : x ≤ (0 : Int32) ↔ x.toInt ≤ 0 := by
  have e0 : (0 : Int32).toInt = 0 := by decide
  rw [Int32.le_iff_toInt_le, e0]
theorem sv_eq {zs ms : Nat → Int64} {zc mc zn mr : Nat → Int32} (hp : pZ zs ms zc mc zn mr) {r N : Nat} (hr : r < 3) (hN : 1 ≤ N ∧ N ≤ 50) (num : Int32) :
    ∃ b : Bool, f_X8_serves zc zn (nI r) (nI N) num = (b, ()) ∧ f_X10_isZeroKept (nI r) (nI N) 2 num mc mr = (b, ()) ∧ (b = true → zs r = ms r ∧ -200000000000 ≤ (ms r).toInt ∧ (ms r).toInt ≤ 200000000000) := by
  have eN : (nI N).toInt = (N : Int) := nI_toInt (by omega)
  rw [f_X8_serves, has_eq hr, f_X10_isZeroKept, if_pos rfl, nI_clamp (by omega)]
  dsimp only
  rcases hp r hr with ⟨h1, h2⟩ | ⟨h1, h2, h3, h4, h5, h6⟩
  · rw [if_pos (le0_iff.mpr h1), if_neg (by decide), if_neg (fun q => by rw [q] at h2; omega)]
    exact ⟨false, rfl, rfl, fun q => absurd q (by decide)⟩
  · have n1 : ¬ zn r ≤ (0 : Int32) := fun z => by have := le0_iff.mp z; omega
    rw [if_neg n1, if_pos rfl, h4, h5]
    by_cases c1 : mc r = nI N
    · rw [if_pos c1]
      by_cases c2 : mr r < num - 4
      · rw [if_pos c2]
        exact ⟨false, rfl, rfl, fun q => absurd q (by decide)⟩
      · rw [if_neg c2]
        exact ⟨true, rfl, rfl, fun _ => ⟨h3, h6⟩⟩
    · rw [if_neg c1]
      exact ⟨false, rfl, rfl, fun q => absurd q (by decide)⟩
theorem keep_eq {r : Nat} (h : r < 3) (zs : Nat → Int64) (zc zn : Nat → Int32) (su : Int64) (N num : Int32) : f_X8_keep zs zc zn (nI r) su N num = (vp_updL zs r su, upd zc r N, upd zn r num) := by
  rw [f_X8_keep, ir_eq h]
  dsimp only
  rw [if_pos rfl, nI_clamp (by omega)]
theorem so_eq {r : Nat} (h : r < 3) (zs : Nat → Int64) : f_X8_sumOf zs (nI r) = (zs r, ()) := by
  rw [f_X8_sumOf, ir_eq h]
  dsimp only
  rw [if_pos rfl, nI_clamp (by omega)]
theorem pZ_keep {zs ms : Nat → Int64} {zc mc zn mr : Nat → Int32} (hp : pZ zs ms zc mc zn mr) (r : Nat) {su : Int64} {N num : Int32} (hs : -200000000000 ≤ su.toInt ∧ su.toInt ≤ 200000000000) (hN : 0 < N.toInt) (hn : 0 < num.toInt) :
    pZ (vp_updL zs r su) (vp_updL ms r su) (upd zc r N) (upd mc r N) (upd zn r num) (upd mr r num) := by
  intro i hi
  by_cases h : i = r
  · subst h
    rw [pk_uLs, pk_uLs, upd_at, upd_at, upd_at, upd_at]
    exact Or.inr ⟨hn, hN, rfl, rfl, rfl, hs.1, hs.2⟩
  · rw [pk_uLn h, pk_uLn h]
    unfold upd
    rw [if_neg h, if_neg h, if_neg h, if_neg h]
    exact hp i hi
theorem fo_eq (zn : Nat → Int32) : f_X8_forget zn = upd (upd (upd zn 0 0) 1 0) 2 0 := by
  rw [f_X8_forget, f_X8_forget_L2, if_neg (by decide), f_X8_forget_L2, if_neg (by decide), f_X8_forget_L2, if_neg (by decide), f_X8_forget_L2, if_pos (by decide)]
  rfl
theorem cl_eq (h : Int32) (mc : Nat → Int32) : f_X10_clear h mc = (h, ((0 : Int32), upd (upd (upd mc 0 0) 1 0) 2 0)) := by
  rw [f_X10_clear, f_X10_clear_L12, if_neg (by decide), f_X10_clear_L12, if_neg (by decide), f_X10_clear_L12, if_neg (by decide), f_X10_clear_L12, if_pos (by decide)]
  rfl
theorem u3_0 (f : Nat → Int32) {r : Nat} (hr : r < 3) : upd (upd (upd f 0 0) 1 0) 2 0 r = 0 := by
  have hw : r = 0 ∨ r = 1 ∨ r = 2 := by omega
  rcases hw with rfl | rfl | rfl
  · unfold upd
    rfl
  · unfold upd
    rfl
  · unfold upd
    rfl
theorem pZ_clear (zs ms : Nat → Int64) (zc mc zn mr : Nat → Int32) : pZ zs ms zc (upd (upd (upd mc 0 0) 1 0) 2 0) (upd (upd (upd zn 0 0) 1 0) 2 0) mr := by
  intro r hr
  left
  rw [u3_0 _ hr, u3_0 _ hr]
  exact ⟨by decide, by decide⟩
theorem clear_eq (zn mc : Nat → Int32) (h : Int32) : f_X9_clear zn h = (h, (upd (upd (upd zn 0 0) 1 0) 2 0, (0 : Int32))) ∧ f_X10_clear h mc = (h, ((0 : Int32), upd (upd (upd mc 0 0) 1 0) 2 0)) := by
  refine ⟨?_, cl_eq h mc⟩
  rw [f_X9_clear, fo_eq]
theorem zero_eq {zs ms : Nat → Int64} {zc mc zn mr : Nat → Int32} (hp : pZ zs ms zc mc zn mr) (p q : Int32) : f_X9_zero zs zc zn p q = f_X10_zero ms mc mr p q := by
  have e0 : (0 : Int32).toInt = 0 := by decide
  have e2 : (2 : Int32).toInt = 2 := by decide
  have e3 : (3 : Int32).toInt = 3 := by decide
  have e4 : (4 : Int32).toInt = 4 := by decide
  rw [f_X9_zero, f_X10_zero]
  by_cases a1 : p < 0
  · have := gi_lt a1 rfl e0
    rw [if_pos a1, wi_f (by omega)]
    rfl
  · have i1 := gi_nlt a1 rfl e0
    rw [if_neg a1]
    by_cases a2 : (3 : Int32) ≤ p
    · have i2 := gi_le a2 e3 rfl
      rw [if_pos a2, wi_f (by omega)]
      rfl
    · have i2 := gi_nle a2 e3 rfl
      rw [if_neg a2, wi_t (by omega) (by omega)]
      dsimp only
      rw [if_pos (rfl : true = true)]
      by_cases a3 : q < 0
      · have := gi_lt a3 rfl e0
        rw [if_pos a3, wi_f (by omega)]
        rfl
      · have i3 := gi_nlt a3 rfl e0
        rw [if_neg a3]
        by_cases a4 : q < 4
        · have i4 := gi_lt a4 rfl e4
          obtain ⟨k, k1, k2, k3⟩ := nI_of' (x := p) i1
          subst k2
          have hk : k < 3 := by omega
          rw [if_pos a4, wi_t (by omega) (by omega), has_eq hk, nI_clamp k1]
          dsimp only
          rw [if_pos (rfl : true = true)]
          rcases hp k hk with ⟨h1, h2⟩ | ⟨h1, h2, h3, h4, h5, h6⟩
          · rw [if_pos (le0_iff.mpr h1), if_neg (by decide), if_pos (le0_iff.mpr h2)]
          · have n1 : ¬ zn k ≤ (0 : Int32) := fun z => by have := le0_iff.mp z; omega
            have n2 : ¬ mc k ≤ (0 : Int32) := fun z => by have := le0_iff.mp z; omega
            rw [if_neg n1, if_pos rfl, if_neg n2, f_X8_part, ir_eq hk, f_X10_zeroNow, nI_clamp k1, h3, h4, h5]
            dsimp only
            rw [if_pos rfl]
        · have i4 := gi_nlt a4 rfl e4
          rw [if_neg a4, wi_f (by omega)]
          rfl
theorem zero_now {zs ms : Nat → Int64} {zc mc zn mr : Nat → Int32} (hp : pZ zs ms zc mc zn mr) {r : Nat} (hr : r < 3) (h : 0 < (mc r).toInt) {q : Int32} (h0 : 0 ≤ q.toInt) (h3 : q.toInt ≤ 3) : f_X9_zero zs zc zn (nI r) q = f_X10_zeroNow ms mc mr (nI r) q := by
  have e0 : (0 : Int32).toInt = 0 := by decide
  have e2 : (2 : Int32).toInt = 2 := by decide
  have e3 : (3 : Int32).toInt = 3 := by decide
  have er : (nI r).toInt = (r : Int) := nI_toInt (by omega)
  rw [zero_eq hp, f_X10_zero, wi_t (by omega) (by omega), wi_t (by omega) (by omega), nI_clamp (by omega)]
  dsimp only
  rw [if_pos rfl, if_pos rfl, if_neg (fun z => by have := le0_iff.mp z; omega)]
/-! bounds of products and quotients -/
theorem mul_bd {p q : Int} {P Q : Nat} (h1 : p.natAbs ≤ P) (h2 : q.natAbs ≤ Q) : (p * q).natAbs ≤ P * Q := by
  rw [Int.natAbs_mul]
  exact Nat.mul_le_mul h1 h2
theorem ldiv_bd2 {x d : Int64} {B D : Nat} (h : x.toInt.natAbs ≤ B * D) (hd : d.toInt = (D : Int)) (h0 : 0 < D) : (x / d).toInt.natAbs ≤ B := by
  have hne : d ≠ -1 := fun q => by
    rw [q] at hd
    have : (-1 : Int64).toInt = -1 := by decide
    omega
  rw [Int64.toInt_div_of_ne_right x d hne, Int.natAbs_tdiv, hd, Int.natAbs_natCast]
  exact Nat.div_le_of_le_mul (by rw [Nat.mul_comm]; exact h)
/-- a value, corrected -/
noncomputable def pVal (N range factor shift : Int32) (d : Int64) : Int64 := (((d * (100 : Int64)) / (N.toInt64 * (f_X10_gain range).1)) + (((d * (100 : Int64)) / (N.toInt64 * (f_X10_gain range).1)) / (1000000 : Int64)) * factor.toInt64) + (shift.toInt64 * (1000 : Int64))
theorem gainM {range : Int32} : ∃ G : Nat, f_X10_gain range = (lN G, ()) ∧ f_X0_gain range = (lN G, ()) ∧ 1 ≤ G ∧ G ≤ 100 := by
  rw [f_X10_gain, f_X0_gain]
  by_cases h0 : range = 0
  · rw [if_pos h0]
    exact ⟨1, rfl, rfl, by decide, by decide⟩
  · rw [if_neg h0]
    by_cases h1 : range = 1
    · rw [if_pos h1]
      exact ⟨10, rfl, rfl, by decide, by decide⟩
    · rw [if_neg h1]
      exact ⟨100, rfl, rfl, by decide, by decide⟩
theorem val_eq {N : Nat} (hN : 1 ≤ N ∧ N ≤ 50) (range factor shift : Int32) (d : Int64) : f_X9_corrected factor shift (f_X9_plain (nI N) range d).1 = (pVal (nI N) range factor shift d, ()) := by
  obtain ⟨G, g1, g2, g3, g4⟩ := gainM (range := range)
  have hm : N * G ≤ 50 * 100 := Nat.mul_le_mul hN.2 g4
  have hm0 : 1 * 1 ≤ N * G := Nat.mul_le_mul hN.1 g3
  have ed : (nI N).toInt64 * lN G = lN (N * G) := by rw [nI_l (by omega), lN_mul]
  have e0 : (0 : Int64).toInt = 0 := by decide
  unfold pVal
  rw [f_X9_plain, g2, g1, f_X9_corrected]
  dsimp only
  rw [ed, if_pos (gl_lt.mpr (by rw [e0, lN_T (by omega)]; omega))]
theorem val_bd {N : Nat} (hN : 1 ≤ N ∧ N ≤ 50) (range : Int32) {factor shift : Int32} (hf : factor.toInt.natAbs ≤ 1000) (hs : shift.toInt.natAbs ≤ 1000000) {d : Int64} (hd : d.toInt.natAbs ≤ 400000000000) : -100000000000000 ≤ (pVal (nI N) range factor shift d).toInt ∧ (pVal (nI N) range factor shift d).toInt ≤ 100000000000000 := by
  obtain ⟨G, g1, g2, g3, g4⟩ := gainM (range := range)
  have hm : N * G ≤ 50 * 100 := Nat.mul_le_mul hN.2 g4
  have hm0 : 1 * 1 ≤ N * G := Nat.mul_le_mul hN.1 g3
  have ed : (nI N).toInt64 * lN G = lN (N * G) := by rw [nI_l (by omega), lN_mul]
  unfold pVal
  rw [g1]
  dsimp only
  rw [ed]
  have e100 : (100 : Int64).toInt = 100 := by decide
  have e1000 : (1000 : Int64).toInt = 1000 := by decide
  have eM : (1000000 : Int64).toInt = ((1000000 : Nat) : Int) := by decide
  have m1 : (d * 100).toInt = d.toInt * 100 := by rw [gl_mul (by rw [e100]; omega) (by rw [e100]; omega), e100]
  have b1 := ldiv_bd (x := d * 100) (d := lN (N * G)) (B := 40000000000000) (by rw [m1]; omega) (by rw [lN_T (by omega)]; omega)
  generalize d * 100 / lN (N * G) = p at b1
  have b2 := ldiv_bd2 (x := p) (d := (1000000 : Int64)) (B := 40000000) (D := 1000000) (by omega) eM (by decide)
  generalize p / 1000000 = q at b2
  have ef : (factor.toInt64).toInt = factor.toInt := Int32.toInt_toInt64 _
  have b3 := mul_bd b2 hf
  have m2 : (q * factor.toInt64).toInt = q.toInt * factor.toInt := by rw [gl_mul (by rw [ef]; omega) (by rw [ef]; omega), ef]
  have es : (shift.toInt64).toInt = shift.toInt := Int32.toInt_toInt64 _
  have m3 : (shift.toInt64 * 1000).toInt = shift.toInt * 1000 := by rw [gl_mul (by rw [es, e1000]; omega) (by rw [es, e1000]; omega), es, e1000]
  have a1 : (p + q * factor.toInt64).toInt = p.toInt + q.toInt * factor.toInt := by rw [gl_add (by rw [m2]; omega) (by rw [m2]; omega), m2]
  rw [gl_add (by rw [a1, m3]; omega) (by rw [a1, m3]; omega), a1, m3]
  omega
theorem gBif {α ρ : Type} {c : Prop} [Decidable c] {A B : (α → ρ) → ρ} {K : α → ρ} : gBind (fun k => if c then A k else B k) K = if c then gBind A K else gBind B K := by
  unfold gBind
  rfl
theorem gBk {α ρ : Type} {a : α} {K : α → ρ} : gBind (fun k => k a) K = K a := rfl
