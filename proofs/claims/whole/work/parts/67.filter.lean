/-! the filter -/
def pFil (h K : Nat) (f g : Nat → Int64) : Prop := h ≤ K ∧ 1 ≤ K ∧ K ≤ 16 ∧ ∀ i, i < h → f i = g i ∧ -100000000000000 ≤ (f i).toInt ∧ (f i).toInt ≤ 100000000000000
theorem ldiv_bd {x d : Int64} {B : Int} (h : -B ≤ x.toInt ∧ x.toInt ≤ B) (hd : 0 < d.toInt) : -B ≤ (x / d).toInt ∧ (x / d).toInt ≤ B := by
  have hne : d ≠ -1 := fun q => by rw [q] at hd; exact absurd hd (by decide)
  rw [Int64.toInt_div_of_ne_right x d hne]
  have := Int.natAbs_tdiv_le_natAbs x.toInt d.toInt
  omega
theorem va_eq {h i : Nat} (hh : h ≤ 16) (hi : i < h) (f : Nat → Int64) : f_X4_valueAt (nI h) f (nI i) = (f i, ()) := by
  have e : (16 : Int32) = nI 16 := by decide
  rw [f_X4_valueAt, if_neg (nI_pos (by omega)), if_neg (nI_ge hi (by omega)), e, if_neg (nI_ge (by omega) (by decide)), nI_clamp (by omega)]
theorem sh_sim {P : (Int64 × Unit) → Prop} {h : Nat} (hh : h ≤ 16) {f g : Nat → Int64} (hf : ∀ i, i < h → f i = g i ∧ -100000000000000 ≤ (f i).toInt ∧ (f i).toInt ≤ 100000000000000) (KX KM : Int64 → (Int64 × Unit))
    (hK : ∀ a : Int64, -(100000000000000 * (h : Int)) ≤ a.toInt → a.toInt ≤ 100000000000000 * (h : Int) → KX a = KM a ∧ P (KM a)) :
    ∀ (m i : Nat) (a : Int64), i ≤ h → h - i < m → -(100000000000000 * (i : Int)) ≤ a.toInt → a.toInt ≤ 100000000000000 * (i : Int) →
      f_X4_shown_L13 (nI h) f KX m (a, nI i) = f_X10_shown_L4 (nI h) g KM m (a, nI i) ∧ P (f_X10_shown_L4 (nI h) g KM m (a, nI i)) := by
  intro m
  induction m with
  | zero => intro i a _ h; omega
  | succ m ih =>
    intro i a hi hm h1 h2
    rw [f_X4_shown_L13, f_X10_shown_L4]
    by_cases he : i = h
    · subst he
      rw [if_pos (nI_le (Nat.le_refl _) (by omega)), if_pos (nI_le (Nat.le_refl _) (by omega))]
      exact hK a h1 h2
    · have hi' : i < h := by omega
      obtain ⟨q1, q2, q3⟩ := hf i hi'
      rw [if_neg (nI_ge hi' (by omega)), if_neg (nI_ge hi' (by omega)), va_eq hh hi', nI_clamp (by omega), nI_1, ← q1]
      dsimp only
      have ea : (a + f i).toInt = a.toInt + (f i).toInt := gl_add (by omega) (by omega)
      exact ih (i + 1) (a + f i) (by omega) (by omega) (by omega) (by omega)
theorem sh_eq {h K : Nat} {f g : Nat → Int64} (hp : pFil h K f g) : f_X4_shown (nI h) f = f_X10_shown (nI h) g ∧ -1600000000000000 ≤ (f_X10_shown (nI h) g).1.toInt ∧ (f_X10_shown (nI h) g).1.toInt ≤ 1600000000000000 := by
  obtain ⟨p1, p2, p3, p4⟩ := hp
  rw [f_X4_shown, f_X10_shown]
  have eh : (nI h).toInt = (h : Int) := nI_toInt (by omega)
  have e0 : (0 : Int64).toInt = 0 := by decide
  by_cases hz : h = 0
  · subst hz
    rw [nI_0, if_neg (by decide)]
    have ez : f_X10_shown_L4 0 g (fun l1_4 => (if (0 : Int32) = (0 : Int32) then ((0 : Int64), ()) else ((l1_4 / (0 : Int32).toInt64), ()))) ((0 : Int32).toInt.toNat + 1) ((0 : Int64), (0 : Int32)) = ((0 : Int64), ()) := by
      have e1 : (0 : Int32).toInt.toNat + 1 = 0 + 1 := by decide
      rw [e1, f_X10_shown_L4, if_pos (by decide), if_pos rfl]
    rw [ez]
    exact ⟨rfl, by decide, by decide⟩
  · have n0 : nI h ≠ 0 := nI_ne0 (by omega) (by omega)
    have l0 : (0 : Int32) < nI h := by rw [← nI_0]; exact nI_lt (by omega) (by omega)
    rw [if_pos l0]
    have hd : 0 < ((nI h).toInt64).toInt := by rw [Int32.toInt_toInt64, eh]; omega
    have main := sh_sim (P := fun q => -1600000000000000 ≤ q.1.toInt ∧ q.1.toInt ≤ 1600000000000000) (h := h) (by omega) (f := f) (g := g) p4 (fun l1 => ((l1 / (nI h).toInt64), ())) (fun l1 => (if nI h = (0 : Int32) then ((0 : Int64), ()) else ((l1 / (nI h).toInt64), ()))) (fun a a1 a2 => by
      rw [if_neg n0]
      exact ⟨rfl, ldiv_bd (B := 1600000000000000) ⟨by omega, by omega⟩ hd⟩) ((nI h).toInt.toNat + 1) 0 0 (by omega) (by omega) (by omega) (by omega)
    rw [nI_0] at main
    exact main
/-! the reference's shift, and the class's -/
theorem ho_in {h : Nat} (hh : h ≤ 17) (h0 : 0 < h) (K : (Nat → Int64) → (Int32 × (Nat → Int64))) :
    ∀ (m i : Nat) (g : Nat → Int64), i ≤ h - 1 → h - 1 - i < m → f_X10_holdAtMost_L23 (nI h) K m (nI i, g) = K (fun j => if i ≤ j ∧ j < h - 1 then g (j + 1) else g j) := by
  intro m
  induction m with
  | zero => intro i g _ h; omega
  | succ m ih =>
    intro i g hi hm
    have e1 : nI h - 1 = nI (h - 1) := by
      have := nI_pred (h - 1)
      rw [Nat.sub_add_cancel (by omega)] at this
      exact this
    rw [f_X10_holdAtMost_L23, e1]
    by_cases he : i = h - 1
    · rw [if_pos (nI_le (by omega) (by omega))]
      congr 1
      funext j
      rw [if_neg (by omega)]
    · rw [if_neg (nI_ge (by omega) (by omega)), nI_clamp (by omega), nI_1, nI_clamp (by omega), ih (i + 1) _ (by omega) (by omega)]
      congr 1
      funext j
      by_cases hj : j = i
      · subst hj
        rw [if_neg (by omega), pk_uLs, if_pos (by omega)]
      · by_cases hj2 : i + 1 ≤ j ∧ j < h - 1
        · rw [if_pos hj2, if_pos (by omega), pk_uLn (by omega)]
        · rw [if_neg hj2, if_neg (by omega), pk_uLn hj]
theorem ho_sp {K : Nat} (hK : K ≤ 16) (KK : (Int32 × (Nat → Int64)) → (Int32 × (Nat → Int64))) :
    ∀ (m h : Nat) (g : Nat → Int64), h ≤ 17 → h - K < m → ∃ g' : Nat → Int64, f_X10_holdAtMost_L0 (nI K) KK m (nI h, g) = KK (nI (min h K), g') ∧ ∀ j, j < min h K → g' j = g (j + (h - min h K)) := by
  intro m
  induction m with
  | zero => intro h g _ h; omega
  | succ m ih =>
    intro h g hh hm
    rw [f_X10_holdAtMost_L0]
    by_cases hk : h ≤ K
    · rw [if_pos (nI_le hk (by omega))]
      have e : min h K = h := by omega
      rw [e]
      exact ⟨g, rfl, fun j _ => by rw [Nat.sub_self, Nat.add_zero]⟩
    · have e1 : nI h - 1 = nI (h - 1) := by
        have := nI_pred (h - 1)
        rw [Nat.sub_add_cancel (by omega)] at this
        exact this
      have ei := ho_in (h := h) hh (by omega) (fun g' => f_X10_holdAtMost_L0 (nI K) KK m ((nI h - 1), g')) ((nI h - 1).toInt.toNat + 1) 0 g (by omega) (by rw [e1, nI_toInt (by omega)]; omega)
      rw [nI_0] at ei
      rw [if_neg (nI_ge (by omega) (by omega)), ei, e1]
      obtain ⟨g', q1, q2⟩ := ih (h - 1) (fun j => if 0 ≤ j ∧ j < h - 1 then g (j + 1) else g j) (by omega) (by omega)
      have e2 : min (h - 1) K = min h K := by omega
      rw [e2] at q1 q2
      refine ⟨g', q1, fun j hj => ?_⟩
      rw [q2 j hj, if_pos (by omega)]
      congr 1
      omega
theorem ho_eq {h K : Nat} (hK : K ≤ 16) (hh : h ≤ 17) (g : Nat → Int64) : ∃ g' : Nat → Int64, f_X10_holdAtMost (nI K) (nI h) g = (nI (min h K), g') ∧ ∀ j, j < min h K → g' j = g (j + (h - min h K)) := by
  rw [f_X10_holdAtMost]
  exact ho_sp hK _ _ h g hh (by rw [nI_toInt (by omega), nI_toInt (by omega)]; omega)
theorem kn_in {h p : Nat} (hh : h ≤ 16) (hp : p < h) (K : (Nat → Int64) → (Int32 × (Nat → Int64))) :
    ∀ (m i : Nat) (f : Nat → Int64), i ≤ p → p - i < m → f_X4_keepNewest_L14 (nI h) (nI p) K m (nI i, f) = K (fun j => if i ≤ j ∧ j < p then f (j + (h - p)) else f j) := by
  intro m
  induction m with
  | zero => intro i f _ h; omega
  | succ m ih =>
    intro i f hi hm
    have e16 : (16 : Int32) = nI 16 := by decide
    rw [f_X4_keepNewest_L14]
    by_cases he : i = p
    · rw [if_pos (nI_le (by omega) (by omega))]
      congr 1
      funext j
      rw [if_neg (by omega)]
    · rw [if_neg (nI_ge (by omega) (by omega)), e16, if_neg (nI_ge (by omega) (by decide)), pk_sub (by omega), nI_add, va_eq hh (by omega), nI_clamp (by omega), nI_1]
      dsimp only
      rw [ih (i + 1) _ (by omega) (by omega)]
      congr 1
      funext j
      by_cases hj : j = i
      · subst hj
        rw [if_neg (by omega), pk_uLs, if_pos (by omega)]
      · by_cases hj2 : i + 1 ≤ j ∧ j < p
        · rw [if_pos hj2, if_pos (by omega), pk_uLn (by omega)]
        · rw [if_neg hj2, if_neg (by omega), pk_uLn hj]
theorem kn_eq {h p : Nat} (hh : h ≤ 16) (hp : p ≤ 16) (f : Nat → Int64) : ∃ f' : Nat → Int64, f_X4_keepNewest (nI h) f (nI p) = (nI (min h p), f') ∧ ∀ j, j < min h p → f' j = f (j + (h - min h p)) := by
  rw [f_X4_keepNewest]
  by_cases hl : p < h
  · have e : min h p = p := by omega
    have c : (0 : Int32) < nI h - nI p := by rw [pk_sub (by omega), ← nI_0]; exact nI_lt (by omega) (by omega)
    have ei := kn_in hh hl (fun f' => (nI p, f')) 17 0 f (by omega) (by omega)
    rw [nI_0] at ei
    rw [if_pos c, ei, e]
    exact ⟨_, rfl, fun j hj => by rw [if_pos (by omega)]⟩
  · have e : min h p = h := by omega
    have c : ¬ (0 : Int32) < nI h - nI p := fun q => by
      have := gi_lt q (by decide : (0 : Int32).toInt = 0) (pk_sub_toInt (by omega) (by omega))
      omega
    rw [if_neg c, e]
    exact ⟨f, rfl, fun j _ => by rw [Nat.sub_self, Nat.add_zero]⟩
theorem resize_eq {h K p : Nat} {f g : Nat → Int64} (hp : pFil h K f g) (h1 : 1 ≤ p) (h2 : p ≤ 16) : ∃ f' g' : Nat → Int64, f_X4_resize (nI h) f (nI p) = (nI (min h p), nI p, f') ∧ f_X10_holdAtMost (nI p) (nI h) g = (nI (min h p), g') ∧ pFil (min h p) p f' g' := by
  obtain ⟨p1, p2, p3, p4⟩ := hp
  obtain ⟨f', a1, a2⟩ := kn_eq (h := h) (p := p) (by omega) h2 f
  obtain ⟨g', b1, b2⟩ := ho_eq (h := h) (K := p) h2 (by omega) g
  refine ⟨f', g', ?_, b1, by omega, h1, h2, fun i hi => ?_⟩
  · rw [f_X4_resize, a1]
  · rw [a2 i hi, b2 i hi]
    exact p4 _ (by omega)
/-- the jump -/
noncomputable def pJump (h : Nat) (w : Int32) (r v : Int64) : Bool := if nI h ≤ (0 : Int32) then false else (if w ≤ (0 : Int32) then false else (if (gAbsL (v - r)) ≤ (w.toInt64 * (1000 : Int64)) then false else true))
theorem abs_lo {v r : Int64} (h : v ≤ r) (hv : -1000000000000000000 ≤ v.toInt) (hr : r.toInt ≤ 1000000000000000000) : gAbsL (v - r) = r - v := by
  have e0 : (0 : Int64).toInt = 0 := by decide
  have i1 := gl_le.mp h
  unfold gAbsL
  rw [if_neg (fun q => by have := gl_lt.mp q; rw [gl_sub (by omega) (by omega), e0] at this; omega), Int64.neg_sub]
theorem abs_hi {v r : Int64} (h : ¬ v ≤ r) (hv : v.toInt ≤ 1000000000000000000) (hr : -1000000000000000000 ≤ r.toInt) : gAbsL (v - r) = v - r := by
  have e0 : (0 : Int64).toInt = 0 := by decide
  have i1 : ¬ v.toInt ≤ r.toInt := fun q => h (gl_le.mpr q)
  unfold gAbsL
  rw [if_pos (gl_lt.mpr (by rw [gl_sub (by omega) (by omega), e0]; omega))]
theorem ite_k2 {b : Bool} : (if b = true then true else false) = b := by cases b <;> rfl
/-- what a value in the filter comes to -/
theorem take_eq {h K : Nat} {f g : Nat → Int64} (hp : pFil h K f g) (w jm : Int32) {v : Int64} (hv : -100000000000000 ≤ v.toInt ∧ v.toInt ≤ 100000000000000) :
    ∃ (jp : Bool) (h' : Nat) (j' : Int32) (f' g' : Nat → Int64), f_X4_takeIn (nI h) (nI K) w jm f v = (jp, (nI h', j', f')) ∧ f_X10_comes (nI K) w (nI h) jm g v = (jp, (nI h', j', g')) ∧ pFil h' K f' g' ∧ j' = jm + bI jp := by
  obtain ⟨s1, s2, s3⟩ := sh_eq hp
  obtain ⟨p1, p2, p3, p4⟩ := hp
  have eK : nI K - 1 = nI (K - 1) := by
    have := nI_pred (K - 1)
    rw [Nat.sub_add_cancel (by omega)] at this
    exact this
  generalize hr : f_X10_shown (nI h) g = R at s1 s2 s3
  obtain ⟨r, u⟩ := R
  dsimp only at s2 s3
  have e16 : (16 : Int32) = nI 16 := by decide
  -- the rest of both, behind the test
  have rest : ∀ (h1 : Nat), h1 ≤ h → ∃ (h' : Nat) (f' g' : Nat → Int64), (match (f_X4_keepNewest (nI h1) f (nI K - (1 : Int32))) with | (mn_size_15, f_vals_15) => (mn_size_15, f_vals_15)) = (nI h', f') ∧ h' < K ∧ f_X10_holdAtMost (nI K) (nI h1 + (1 : Int32)) (vp_updL g (nI h1).toNatClampNeg v) = (nI (h' + 1), g') ∧ pFil (h' + 1) K (vp_updL f' h' v) g' := by
    intro h1 hle
    obtain ⟨f', a1, a2⟩ := kn_eq (h := h1) (p := K - 1) (by omega) (by omega) f
    obtain ⟨g', b1, b2⟩ := ho_eq (h := h1 + 1) (K := K) p3 (by omega) (vp_updL g h1 v)
    have em : min (h1 + 1) K = min h1 (K - 1) + 1 := by omega
    rw [em] at b1 b2
    refine ⟨min h1 (K - 1), f', g', ?_, by omega, ?_, by omega, p2, p3, fun i hi => ?_⟩
    · rw [eK, a1]
    · rw [nI_1, nI_clamp (by omega)]
      exact b1
    · rw [b2 i hi]
      by_cases hi2 : i = min h1 (K - 1)
      · have e : i + (h1 + 1 - (min h1 (K - 1) + 1)) = h1 := by omega
        rw [e, pk_uLs, hi2, pk_uLs]
        exact ⟨rfl, hv.1, hv.2⟩
      · have e : i + (h1 + 1 - (min h1 (K - 1) + 1)) = i + (h1 - min h1 (K - 1)) := by omega
        rw [e, pk_uLn hi2, pk_uLn (by omega), a2 i (by omega)]
        exact p4 _ (by omega)
  have fX : ∀ (jp : Bool), f_X4_takeIn (nI h) (nI K) w jm f v = gBind (fun (k : Bool → (Bool × (Int32 × Int32 × (Nat → Int64)))) => k (pJump h w r v)) (fun k0_6 => (gBind (fun (k_13 : (Int32 × Int32) → (Bool × (Int32 × Int32 × (Nat → Int64)))) => (if k0_6 = true then (k_13 ((0 : Int32), (jm + (1 : Int32)))) else (k_13 (nI h, jm)))) (fun q_13 => match q_13 with | (mn_size_13, mn_jumps_13) => (match (f_X4_keepNewest mn_size_13 f (nI K - (1 : Int32))) with | (mn_size_15, f_vals_15) => (if mn_size_15 < (0 : Int32) then (k0_6, (mn_size_15, mn_jumps_13, f_vals_15)) else (if (16 : Int32) ≤ mn_size_15 then (k0_6, (mn_size_15, mn_jumps_13, f_vals_15)) else (k0_6, ((mn_size_15 + (1 : Int32)), mn_jumps_13, (vp_updL f_vals_15 mn_size_15.toNatClampNeg v))))))))) := by
    intro _
    rw [f_X4_takeIn, s1]
    dsimp only
    rw [gB3]
    unfold pJump gBind
    rfl
  have fM : f_X10_comes (nI K) w (nI h) jm g v = (match (f_X10_holdAtMost (nI K) ((if pJump h w r v = true then (0 : Int32) else nI h) + (1 : Int32)) (vp_updL g (if pJump h w r v = true then (0 : Int32) else nI h).toNatClampNeg v)) with | (md_held_71, f_mvals_71) => (pJump h w r v, (md_held_71, (jm + (bI (pJump h w r v))), f_mvals_71))) := by
    rw [f_X10_comes, hr]
    dsimp only
    by_cases hc : v ≤ r
    · have ea := abs_lo hc (by omega) (by omega)
      rw [if_pos hc, gB3, gB1, gB1, ite_k2, ← ea]
      rfl
    · have ea := abs_hi hc (by omega) (by omega)
      rw [if_neg hc, gB3, gB1, gB1, ite_k2, ← ea]
      rfl
  rw [fX true, fM]
  generalize pJump h w r v = jp
  cases jp with
  | true =>
    obtain ⟨h', f', g', a1, a2, a3, a4⟩ := rest 0 (by omega)
    rw [nI_0] at a1 a3
    unfold gBind
    simp only [if_true, ↓reduceIte]
    rw [a3]
    have a5 : f_X4_keepNewest 0 f (nI K - 1) = (nI h', f') := a1
    rw [a5]
    dsimp only
    rw [if_neg (nI_pos (by omega)), e16, if_neg (nI_ge (by omega) (by decide)), nI_1, nI_clamp (by omega)]
    exact ⟨true, h' + 1, _, _, _, rfl, rfl, a4, rfl⟩
  | false =>
    obtain ⟨h', f', g', a1, a2, a3, a4⟩ := rest h (Nat.le_refl _)
    unfold gBind
    simp only [Bool.false_eq_true, if_false, ↓reduceIte]
    rw [a3]
    have a5 : f_X4_keepNewest (nI h) f (nI K - 1) = (nI h', f') := a1
    rw [a5]
    dsimp only
    rw [if_neg (nI_pos (by omega)), e16, if_neg (nI_ge (by omega) (by decide)), nI_1, nI_clamp (by omega), bI_0]
    exact ⟨false, h' + 1, _, _, _, rfl, rfl, a4, (bI_0 _).symm⟩
