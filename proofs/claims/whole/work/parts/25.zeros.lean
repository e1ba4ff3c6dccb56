noncomputable def f_X8_has (f_znum : Nat → Int32) (p0 : Int32) : (Bool × Unit) := (match (f_X8_isRange p0) with | (r_1_1, _) => (if r_1_1 = true then (if (f_znum p0.toNatClampNeg) ≤ (0 : Int32) then (false, ()) else (true, ())) else (false, ())))
set_option maxHeartbeats 4000000 in
set_option maxRecDepth 100000 in
theorem c_X8_has (l : Launch) (D : va_G) (cI cJ : ClassId) (h_zs h_zsum h_zcyc h_znum : Nat) (sz : Nat) (f_zsum : Nat → Int64) (f_zcyc : Nat → Int32) (f_znum : Nat → Int32) (p0 : Int32) : Met l yX8_has wsX8_has ({ frames := 1, cells := 0, slots := 0, locals := 20 }) (gPc D cI cJ [.ref h_zs, .int p0] [(h_zs, .inr (8, [.ref h_zsum, .ref h_zcyc, .ref h_znum])), (h_zsum, .inl (cJ, 3, .inr (.inl f_zsum))), (h_zcyc, .inl (cI, 3, .inl f_zcyc)), (h_znum, .inl (cI, 3, .inl f_znum))] sz) (gQz D cI cJ (f_X8_has f_znum p0) (fun _ _ => True) (fun _ : Unit => [(h_zs, .inr (8, [.ref h_zsum, .ref h_zcyc, .ref h_znum])), (h_zsum, .inl (cJ, 3, .inr (.inl f_zsum))), (h_zcyc, .inl (cI, 3, .inl f_zcyc)), (h_znum, .inl (cI, 3, .inl f_znum))]) (va_A [(h_zs, .inr (8, [.ref h_zsum, .ref h_zcyc, .ref h_znum])), (h_zsum, .inl (cJ, 3, .inr (.inl f_zsum))), (h_zcyc, .inl (cI, 3, .inl f_zcyc)), (h_znum, .inl (cI, 3, .inl f_znum))] sz)) 0 0 (va_A [(h_zs, .inr (8, [.ref h_zsum, .ref h_zcyc, .ref h_znum])), (h_zsum, .inl (cJ, 3, .inr (.inl f_zsum))), (h_zcyc, .inl (cI, 3, .inl f_zcyc)), (h_znum, .inl (cI, 3, .inl f_znum))] sz) := by
  refine g_met (cc := cX8_has) (maxL := 2) (ret := (some .boolean)) (Qc := gQz D cI cJ (f_X8_has f_znum p0) _ _) (by decide) rfl (Nat.le_of_ble_eq_true rfl) ?_
  intro A p e s m below meth c hx hb hr hml hts hown hlk hnm hP hK hD hE hA hS ls hl
  have hown : s.vm.findClass RX8 = some m.cls := hown
  have hl : lv_has ls 2 [(0, .ref h_zs), (1, .int p0)] := hl
  have hi8 : ∀ w ∈ u_ws RX8 TX8 3, w ∈ wsX8_has := fun w h9 => List.mem_cons_of_mem _ (List.mem_append_right _ h9)
  have hm1 := hts (.fieldLink RX8 19 "VoltSlopes$Zeros" "numbers" "[I") (List.mem_of_getElem? (i := 1) rfl)
  have hF := f_X8_has.eq_1 f_znum p0
  refine lv_iload_n hx hb dX8_has_0 rfl (lv_at hl 1 rfl) ?_
  refine g_csz (rest := []) ⟨hx, hb, hml, hown, hts⟩ hP hD hK hS hA hE (c_X8_isRange l D cI cJ s.heap.size p0) (va_cwS 1 hts gX8_has_X8_isRange rfl rfl rfl (by decide +kernel) ⟨Nat.le_of_ble_eq_true rfl, Nat.le_of_ble_eq_true rfl⟩) rfl hl rfl (Nat.le_of_ble_eq_true rfl) ⟨Nat.zero_le _, Nat.zero_le _⟩ dX8_has_1 (fun r_1_1 H locs hw_1 hx_1 hP hS => ?_)
  have hq := isRange_in hw_1
  have hF := hF
  rw [hw_1] at hF
  try dsimp only at hF
  refine lv_if_eq (tgt := 20) hx hb dX8_has_4 (by decide) (fun c_4_2w => ?_) (fun c_4_2w => ?_)
  · have c_4_2 := bI_f2 c_4_2w
    have hF := hF.trans (if_neg c_4_2)
    refine lv_iconst (v := 0) hx hb dX8_has_20 (by decide) ?_
    exact g_zret false () hx hb hr hlk hP hK hD hS hF trivial rfl dX8_has_21
  · have c_4_2 := bI_t c_4_2w
    have hF := hF.trans (if_pos c_4_2)
    refine lv_aload_n hx hb dX8_has_7 rfl (lv_at hl 0 rfl) ?_
    refine va_get (D := D) (ci := 8) (v := .ref h_znum) (C := RX8) (T := TX8) (N := 3) hx hb hts hi8 hown hK hP 0 rfl rfl 2 (by decide) hm1 (fun _ h9 => h9) rfl dX8_has_8 ?_
    refine lv_iload_n hx hb dX8_has_11 rfl (lv_at hl 1 rfl) ?_
    refine va_iald hx hb hK hP 3 0 rfl rfl (hq (by with_reducible assumption)) dX8_has_12 ?_
    refine lv_if_le (tgt := 20) hx hb dX8_has_13 (by decide) (fun c_13_3 => ?_) (fun c_13_3 => ?_)
    · have hF := hF.trans (if_pos c_13_3)
      have i_13_3 : (f_znum p0.toNatClampNeg).toInt ≤ 0 := gi_le c_13_3 rfl (by decide)
      refine lv_iconst (v := 0) hx hb dX8_has_20 (by decide) ?_
      exact g_zret false () hx hb hr hlk hP hK hD hS hF trivial rfl dX8_has_21
    · have hF := hF.trans (if_neg c_13_3)
      have i_13_3 : 0 < (f_znum p0.toNatClampNeg).toInt := gi_nle c_13_3 rfl (by decide)
      refine lv_iconst (v := 1) hx hb dX8_has_16 (by decide) ?_
      refine lv_goto (tgt := 21) hx hb dX8_has_17 (by decide) ?_
      exact g_zret true () hx hb hr hlk hP hK hD hS hF trivial rfl dX8_has_21

theorem has_in {f : Nat → Int32} {p : Int32} {r : Bool} (h : f_X8_has f p = (r, ())) : r = true → vp_in p 3 := by
  intro hr
  subst hr
  rw [f_X8_has] at h
  cases hw : f_X8_isRange p with
  | mk q u =>
    rw [hw] at h
    dsimp only at h
    by_cases h1 : q = true
    · exact isRange_in hw h1
    · rw [if_neg h1] at h; cases h

noncomputable def f_X8_serves (f_zcyc : Nat → Int32) (f_znum : Nat → Int32) (p0 : Int32) (p1 : Int32) (p2 : Int32) : (Bool × Unit) := (match (f_X8_has f_znum p0) with | (r_2_1, _) => (if r_2_1 = true then (if (f_zcyc p0.toNatClampNeg) = p1 then (if (f_znum p0.toNatClampNeg) < (p2 - (4 : Int32)) then (false, ()) else (true, ())) else (false, ())) else (false, ())))
set_option maxHeartbeats 4000000 in
set_option maxRecDepth 100000 in
theorem c_X8_serves (l : Launch) (D : va_G) (cI cJ : ClassId) (h_zs h_zsum h_zcyc h_znum : Nat) (sz : Nat) (f_zsum : Nat → Int64) (f_zcyc : Nat → Int32) (f_znum : Nat → Int32) (p0 : Int32) (p1 : Int32) (p2 : Int32) : Met l yX8_serves wsX8_serves ({ frames := 2, cells := 0, slots := 0, locals := 41 }) (gPc D cI cJ [.ref h_zs, .int p0, .int p1, .int p2] [(h_zs, .inr (8, [.ref h_zsum, .ref h_zcyc, .ref h_znum])), (h_zsum, .inl (cJ, 3, .inr (.inl f_zsum))), (h_zcyc, .inl (cI, 3, .inl f_zcyc)), (h_znum, .inl (cI, 3, .inl f_znum))] sz) (gQz D cI cJ (f_X8_serves f_zcyc f_znum p0 p1 p2) (fun _ _ => True) (fun _ : Unit => [(h_zs, .inr (8, [.ref h_zsum, .ref h_zcyc, .ref h_znum])), (h_zsum, .inl (cJ, 3, .inr (.inl f_zsum))), (h_zcyc, .inl (cI, 3, .inl f_zcyc)), (h_znum, .inl (cI, 3, .inl f_znum))]) (va_A [(h_zs, .inr (8, [.ref h_zsum, .ref h_zcyc, .ref h_znum])), (h_zsum, .inl (cJ, 3, .inr (.inl f_zsum))), (h_zcyc, .inl (cI, 3, .inl f_zcyc)), (h_znum, .inl (cI, 3, .inl f_znum))] sz)) 0 0 (va_A [(h_zs, .inr (8, [.ref h_zsum, .ref h_zcyc, .ref h_znum])), (h_zsum, .inl (cJ, 3, .inr (.inl f_zsum))), (h_zcyc, .inl (cI, 3, .inl f_zcyc)), (h_znum, .inl (cI, 3, .inl f_znum))] sz) := by
  refine g_met (cc := cX8_serves) (maxL := 4) (ret := (some .boolean)) (Qc := gQz D cI cJ (f_X8_serves f_zcyc f_znum p0 p1 p2) _ _) (by decide) rfl (Nat.le_of_ble_eq_true rfl) ?_
  intro A p e s m below meth c hx hb hr hml hts hown hlk hnm hP hK hD hE hA hS ls hl
  have hown : s.vm.findClass RX8 = some m.cls := hown
  have hl : lv_has ls 4 [(0, .ref h_zs), (1, .int p0), (2, .int p1), (3, .int p2)] := hl
  have hi8 : ∀ w ∈ u_ws RX8 TX8 3, w ∈ wsX8_serves := fun w h9 => List.mem_cons_of_mem _ (List.mem_append_right _ h9)
  have hm1 := hts (.fieldLink RX8 15 "VoltSlopes$Zeros" "cycles" "[I") (List.mem_of_getElem? (i := 1) rfl)
  have hm2 := hts (.fieldLink RX8 19 "VoltSlopes$Zeros" "numbers" "[I") (List.mem_of_getElem? (i := 2) rfl)
  have hF := f_X8_serves.eq_1 f_zcyc f_znum p0 p1 p2
  refine lv_aload_n hx hb dX8_serves_0 rfl (lv_at hl 0 rfl) ?_
  refine lv_iload_n hx hb dX8_serves_1 rfl (lv_at hl 1 rfl) ?_
  refine g_cvz (rest := []) ⟨hx, hb, hml, hown, hts⟩ hP hD hK hS hA hE (c_X8_has l D cI cJ h_zs h_zsum h_zcyc h_znum s.heap.size f_zsum f_zcyc f_znum p0) (cwV 1 hts gX8_serves_X8_has rfl rfl rfl (by decide +kernel) ⟨Nat.le_of_ble_eq_true rfl, Nat.le_of_ble_eq_true rfl⟩) [0, 1, 2, 3] [] rfl rfl rfl rfl rfl 8 0 rfl rfl rfl hl rfl (Nat.le_of_ble_eq_true rfl) ⟨Nat.zero_le _, Nat.zero_le _⟩ dX8_serves_2 (fun r_2_1 u_1 H locs hw_1 hx_1 hP hD hS => ?_)
  obtain ⟨hP, hD⟩ := g_re (ws' := [(h_zs, .inr (8, [.ref h_zsum, .ref h_zcyc, .ref h_znum])), (h_zsum, .inl (cJ, 3, .inr (.inl f_zsum))), (h_zcyc, .inl (cI, 3, .inl f_zcyc)), (h_znum, .inl (cI, 3, .inl f_znum))]) rfl hP hD
  have hq := has_in hw_1
  have hF := hF
  rw [hw_1] at hF
  try dsimp only at hF
  refine lv_if_eq (tgt := 34) hx hb dX8_serves_5 (by decide) (fun c_5_2w => ?_) (fun c_5_2w => ?_)
  · have c_5_2 := bI_f2 c_5_2w
    have hF := hF.trans (if_neg c_5_2)
    refine lv_iconst (v := 0) hx hb dX8_serves_34 (by decide) ?_
    exact g_zret false () hx hb hr hlk hP hK hD hS hF trivial rfl dX8_serves_35
  · have c_5_2 := bI_t c_5_2w
    have hF := hF.trans (if_pos c_5_2)
    refine lv_aload_n hx hb dX8_serves_8 rfl (lv_at hl 0 rfl) ?_
    refine va_get (D := D) (ci := 8) (v := .ref h_zcyc) (C := RX8) (T := TX8) (N := 3) hx hb hts hi8 hown hK hP 0 rfl rfl 1 (by decide) hm1 (fun _ h9 => h9) rfl dX8_serves_9 ?_
    refine lv_iload_n hx hb dX8_serves_12 rfl (lv_at hl 1 rfl) ?_
    refine va_iald hx hb hK hP 2 0 rfl rfl (hq (by with_reducible assumption)) dX8_serves_13 ?_
    refine lv_iload_n hx hb dX8_serves_14 rfl (lv_at hl 2 rfl) ?_
    refine lv_icmp_ne (tgt := 34) hx hb dX8_serves_15 (by decide) (fun c_15_3 => ?_) (fun c_15_3 => ?_)
    · have hF := hF.trans (if_neg c_15_3)
      have i_15_3 : (f_zcyc p0.toNatClampNeg).toInt ≠ p1.toInt := gi_ne c_15_3 rfl rfl
      refine lv_iconst (v := 0) hx hb dX8_serves_34 (by decide) ?_
      exact g_zret false () hx hb hr hlk hP hK hD hS hF trivial rfl dX8_serves_35
    · have hF := hF.trans (if_pos c_15_3)
      have i_15_3 : (f_zcyc p0.toNatClampNeg).toInt = p1.toInt := gi_eq c_15_3 rfl rfl
      refine lv_aload_n hx hb dX8_serves_18 rfl (lv_at hl 0 rfl) ?_
      refine va_get (D := D) (ci := 8) (v := .ref h_znum) (C := RX8) (T := TX8) (N := 3) hx hb hts hi8 hown hK hP 0 rfl rfl 2 (by decide) hm2 (fun _ h9 => h9) rfl dX8_serves_19 ?_
      refine lv_iload_n hx hb dX8_serves_22 rfl (lv_at hl 1 rfl) ?_
      refine va_iald hx hb hK hP 3 0 rfl rfl (hq (by with_reducible assumption)) dX8_serves_23 ?_
      refine lv_iload_n hx hb dX8_serves_24 rfl (lv_at hl 3 rfl) ?_
      refine lv_iconst (v := 4) hx hb dX8_serves_25 (by decide) ?_
      refine lv_isub hx hb dX8_serves_26 ?_
      refine lv_icmp_lt (tgt := 34) hx hb dX8_serves_27 (by decide) (fun c_27_4 => ?_) (fun c_27_4 => ?_)
      · have hF := hF.trans (if_pos c_27_4)
        have i_27_4 : (f_znum p0.toNatClampNeg).toInt < (p2 - (4 : Int32)).toInt := gi_lt c_27_4 rfl rfl
        refine lv_iconst (v := 0) hx hb dX8_serves_34 (by decide) ?_
        exact g_zret false () hx hb hr hlk hP hK hD hS hF trivial rfl dX8_serves_35
      · have hF := hF.trans (if_neg c_27_4)
        have i_27_4 : (p2 - (4 : Int32)).toInt ≤ (f_znum p0.toNatClampNeg).toInt := gi_nlt c_27_4 rfl rfl
        refine lv_iconst (v := 1) hx hb dX8_serves_30 (by decide) ?_
        refine lv_goto (tgt := 35) hx hb dX8_serves_31 (by decide) ?_
        exact g_zret true () hx hb hr hlk hP hK hD hS hF trivial rfl dX8_serves_35

noncomputable def f_X8_sumOf (f_zsum : Nat → Int64) (p0 : Int32) : (Int64 × Unit) := (match (f_X8_isRange p0) with | (r_1_1, _) => (if r_1_1 = true then ((f_zsum p0.toNatClampNeg), ()) else ((0 : Int64), ())))
set_option maxHeartbeats 4000000 in
set_option maxRecDepth 100000 in
theorem c_X8_sumOf (l : Launch) (D : va_G) (cI cJ : ClassId) (h_zs h_zsum h_zcyc h_znum : Nat) (sz : Nat) (f_zsum : Nat → Int64) (f_zcyc : Nat → Int32) (f_znum : Nat → Int32) (p0 : Int32) : Met l yX8_sumOf wsX8_sumOf ({ frames := 1, cells := 0, slots := 0, locals := 20 }) (gPc D cI cJ [.ref h_zs, .int p0] [(h_zs, .inr (8, [.ref h_zsum, .ref h_zcyc, .ref h_znum])), (h_zsum, .inl (cJ, 3, .inr (.inl f_zsum))), (h_zcyc, .inl (cI, 3, .inl f_zcyc)), (h_znum, .inl (cI, 3, .inl f_znum))] sz) (gQl D cI cJ (f_X8_sumOf f_zsum p0) (fun _ _ => True) (fun _ : Unit => [(h_zs, .inr (8, [.ref h_zsum, .ref h_zcyc, .ref h_znum])), (h_zsum, .inl (cJ, 3, .inr (.inl f_zsum))), (h_zcyc, .inl (cI, 3, .inl f_zcyc)), (h_znum, .inl (cI, 3, .inl f_znum))]) (va_A [(h_zs, .inr (8, [.ref h_zsum, .ref h_zcyc, .ref h_znum])), (h_zsum, .inl (cJ, 3, .inr (.inl f_zsum))), (h_zcyc, .inl (cI, 3, .inl f_zcyc)), (h_znum, .inl (cI, 3, .inl f_znum))] sz)) 0 0 (va_A [(h_zs, .inr (8, [.ref h_zsum, .ref h_zcyc, .ref h_znum])), (h_zsum, .inl (cJ, 3, .inr (.inl f_zsum))), (h_zcyc, .inl (cI, 3, .inl f_zcyc)), (h_znum, .inl (cI, 3, .inl f_znum))] sz) := by
  refine g_met (cc := cX8_sumOf) (maxL := 2) (ret := (some .long)) (Qc := gQl D cI cJ (f_X8_sumOf f_zsum p0) _ _) (by decide) rfl (Nat.le_of_ble_eq_true rfl) ?_
  intro A p e s m below meth c hx hb hr hml hts hown hlk hnm hP hK hD hE hA hS ls hl
  have hown : s.vm.findClass RX8 = some m.cls := hown
  have hl : lv_has ls 2 [(0, .ref h_zs), (1, .int p0)] := hl
  have hi8 : ∀ w ∈ u_ws RX8 TX8 3, w ∈ wsX8_sumOf := fun w h9 => List.mem_cons_of_mem _ (List.mem_append_right _ h9)
  have hm1 := hts (.fieldLink RX8 9 "VoltSlopes$Zeros" "sums" "[J") (List.mem_of_getElem? (i := 1) rfl)
  have hF := f_X8_sumOf.eq_1 f_zsum p0
  refine lv_iload_n hx hb dX8_sumOf_0 rfl (lv_at hl 1 rfl) ?_
  refine g_csz (rest := []) ⟨hx, hb, hml, hown, hts⟩ hP hD hK hS hA hE (c_X8_isRange l D cI cJ s.heap.size p0) (va_cwS 1 hts gX8_sumOf_X8_isRange rfl rfl rfl (by decide +kernel) ⟨Nat.le_of_ble_eq_true rfl, Nat.le_of_ble_eq_true rfl⟩) rfl hl rfl (Nat.le_of_ble_eq_true rfl) ⟨Nat.zero_le _, Nat.zero_le _⟩ dX8_sumOf_1 (fun r_1_1 H locs hw_1 hx_1 hP hS => ?_)
  have hq := isRange_in hw_1
  have hF := hF
  rw [hw_1] at hF
  try dsimp only at hF
  refine lv_if_eq (tgt := 16) hx hb dX8_sumOf_4 (by decide) (fun c_4_2w => ?_) (fun c_4_2w => ?_)
  · have c_4_2 := bI_f2 c_4_2w
    have hF := hF.trans (if_neg c_4_2)
    refine lv_lconst (v := 0) hx hb dX8_sumOf_16 (by decide) ?_
    exact g_lret () hx hb hr hlk hP hK hD hS hF trivial rfl dX8_sumOf_17
  · have c_4_2 := bI_t c_4_2w
    have hF := hF.trans (if_pos c_4_2)
    refine lv_aload_n hx hb dX8_sumOf_7 rfl (lv_at hl 0 rfl) ?_
    refine va_get (D := D) (ci := 8) (v := .ref h_zsum) (C := RX8) (T := TX8) (N := 3) hx hb hts hi8 hown hK hP 0 rfl rfl 0 (by decide) hm1 (fun _ h9 => h9) rfl dX8_sumOf_8 ?_
    refine lv_iload_n hx hb dX8_sumOf_11 rfl (lv_at hl 1 rfl) ?_
    refine va_lald hx hb hK hP 1 1 rfl rfl (hq (by with_reducible assumption)) dX8_sumOf_12 ?_
    refine lv_goto (tgt := 17) hx hb dX8_sumOf_13 (by decide) ?_
    exact g_lret () hx hb hr hlk hP hK hD hS hF trivial rfl dX8_sumOf_17

noncomputable def f_X8_keep (f_zsum : Nat → Int64) (f_zcyc : Nat → Int32) (f_znum : Nat → Int32) (p0 : Int32) (p1 : Int64) (p2 : Int32) (p3 : Int32) : ((Nat → Int64) × (Nat → Int32) × (Nat → Int32)) := (match (f_X8_isRange p0) with | (r_1_1, _) => (if r_1_1 = true then ((vp_updL f_zsum p0.toNatClampNeg p1), (upd f_zcyc p0.toNatClampNeg p2), (upd f_znum p0.toNatClampNeg p3)) else (f_zsum, f_zcyc, f_znum)))
set_option maxHeartbeats 4000000 in
set_option maxRecDepth 100000 in
theorem c_X8_keep (l : Launch) (D : va_G) (cI cJ : ClassId) (h_zs h_zsum h_zcyc h_znum : Nat) (sz : Nat) (f_zsum : Nat → Int64) (f_zcyc : Nat → Int32) (f_znum : Nat → Int32) (p0 : Int32) (p1 : Int64) (p2 : Int32) (p3 : Int32) : Met l yX8_keep wsX8_keep ({ frames := 1, cells := 0, slots := 0, locals := 20 }) (gPc D cI cJ [.ref h_zs, .int p0, .long p1, .int p2, .int p3] [(h_zs, .inr (8, [.ref h_zsum, .ref h_zcyc, .ref h_znum])), (h_zsum, .inl (cJ, 3, .inr (.inl f_zsum))), (h_zcyc, .inl (cI, 3, .inl f_zcyc)), (h_znum, .inl (cI, 3, .inl f_znum))] sz) (gQv D cI cJ (f_X8_keep f_zsum f_zcyc f_znum p0 p1 p2 p3) (fun _ => True) (fun u : ((Nat → Int64) × (Nat → Int32) × (Nat → Int32)) => [(h_zs, .inr (8, [.ref h_zsum, .ref h_zcyc, .ref h_znum])), (h_zsum, .inl (cJ, 3, .inr (.inl u.1))), (h_zcyc, .inl (cI, 3, .inl u.2.1)), (h_znum, .inl (cI, 3, .inl u.2.2))]) (va_A [(h_zs, .inr (8, [.ref h_zsum, .ref h_zcyc, .ref h_znum])), (h_zsum, .inl (cJ, 3, .inr (.inl f_zsum))), (h_zcyc, .inl (cI, 3, .inl f_zcyc)), (h_znum, .inl (cI, 3, .inl f_znum))] sz)) 0 0 (va_A [(h_zs, .inr (8, [.ref h_zsum, .ref h_zcyc, .ref h_znum])), (h_zsum, .inl (cJ, 3, .inr (.inl f_zsum))), (h_zcyc, .inl (cI, 3, .inl f_zcyc)), (h_znum, .inl (cI, 3, .inl f_znum))] sz) := by
  refine g_met (cc := cX8_keep) (maxL := 6) (ret := none) (Qc := gQv D cI cJ (f_X8_keep f_zsum f_zcyc f_znum p0 p1 p2 p3) _ _) (by decide) rfl (Nat.le_of_ble_eq_true rfl) ?_
  intro A p e s m below meth c hx hb hr hml hts hown hlk hnm hP hK hD hE hA hS ls hl
  have hown : s.vm.findClass RX8 = some m.cls := hown
  have hl : lv_has ls 6 [(0, .ref h_zs), (1, .int p0), (2, .long p1), (4, .int p2), (5, .int p3)] := hl
  have hi8 : ∀ w ∈ u_ws RX8 TX8 3, w ∈ wsX8_keep := fun w h9 => List.mem_cons_of_mem _ (List.mem_append_right _ h9)
  have hm1 := hts (.fieldLink RX8 9 "VoltSlopes$Zeros" "sums" "[J") (List.mem_of_getElem? (i := 1) rfl)
  have hm2 := hts (.fieldLink RX8 15 "VoltSlopes$Zeros" "cycles" "[I") (List.mem_of_getElem? (i := 2) rfl)
  have hm3 := hts (.fieldLink RX8 19 "VoltSlopes$Zeros" "numbers" "[I") (List.mem_of_getElem? (i := 3) rfl)
  have hF := f_X8_keep.eq_1 f_zsum f_zcyc f_znum p0 p1 p2 p3
  refine lv_iload_n hx hb dX8_keep_0 rfl (lv_at hl 1 rfl) ?_
  refine g_csz (rest := []) ⟨hx, hb, hml, hown, hts⟩ hP hD hK hS hA hE (c_X8_isRange l D cI cJ s.heap.size p0) (va_cwS 1 hts gX8_keep_X8_isRange rfl rfl rfl (by decide +kernel) ⟨Nat.le_of_ble_eq_true rfl, Nat.le_of_ble_eq_true rfl⟩) rfl hl rfl (Nat.le_of_ble_eq_true rfl) ⟨Nat.zero_le _, Nat.zero_le _⟩ dX8_keep_1 (fun r_1_1 H locs hw_1 hx_1 hP hS => ?_)
  have hq := isRange_in hw_1
  have hF := hF
  rw [hw_1] at hF
  try dsimp only at hF
  refine lv_if_eq (tgt := 30) hx hb dX8_keep_4 (by decide) (fun c_4_2w => ?_) (fun c_4_2w => ?_)
  · have c_4_2 := bI_f2 c_4_2w
    have hF := hF.trans (if_neg c_4_2)
    exact g_vret (f_zsum, f_zcyc, f_znum) hx hb hr hlk hP hK hD hS hF trivial rfl dX8_keep_30
  · have c_4_2 := bI_t c_4_2w
    have hF := hF.trans (if_pos c_4_2)
    refine lv_aload_n hx hb dX8_keep_7 rfl (lv_at hl 0 rfl) ?_
    refine va_get (D := D) (ci := 8) (v := .ref h_zsum) (C := RX8) (T := TX8) (N := 3) hx hb hts hi8 hown hK hP 0 rfl rfl 0 (by decide) hm1 (fun _ h9 => h9) rfl dX8_keep_8 ?_
    refine lv_iload_n hx hb dX8_keep_11 rfl (lv_at hl 1 rfl) ?_
    refine lv_lload_n hx hb dX8_keep_12 rfl (lv_at hl 2 rfl) ?_
    refine va_last hx hb hK hP hD hS 1 1 rfl rfl (hq (by with_reducible assumption)) dX8_keep_13 (fun H locs hP hD hS => ?_)
    obtain ⟨hP, hD⟩ := g_re (ws' := [(h_zs, .inr (8, [.ref h_zsum, .ref h_zcyc, .ref h_znum])), (h_zsum, .inl (cJ, 3, .inr (.inl (vp_updL f_zsum p0.toNatClampNeg p1)))), (h_zcyc, .inl (cI, 3, .inl f_zcyc)), (h_znum, .inl (cI, 3, .inl f_znum))]) rfl hP hD
    refine lv_aload_n hx hb dX8_keep_14 rfl (lv_at hl 0 rfl) ?_
    refine va_get (D := D) (ci := 8) (v := .ref h_zcyc) (C := RX8) (T := TX8) (N := 3) hx hb hts hi8 hown hK hP 0 rfl rfl 1 (by decide) hm2 (fun _ h9 => h9) rfl dX8_keep_15 ?_
    refine lv_iload_n hx hb dX8_keep_18 rfl (lv_at hl 1 rfl) ?_
    refine lv_iload hx hb dX8_keep_19 (lv_at hl 3 rfl) ?_
    refine va_iast hx hb hK hP hD hS 2 0 rfl rfl (hq (by with_reducible assumption)) dX8_keep_21 (fun H locs hP hD hS => ?_)
    obtain ⟨hP, hD⟩ := g_re (ws' := [(h_zs, .inr (8, [.ref h_zsum, .ref h_zcyc, .ref h_znum])), (h_zsum, .inl (cJ, 3, .inr (.inl (vp_updL f_zsum p0.toNatClampNeg p1)))), (h_zcyc, .inl (cI, 3, .inl (upd f_zcyc p0.toNatClampNeg p2))), (h_znum, .inl (cI, 3, .inl f_znum))]) rfl hP hD
    refine lv_aload_n hx hb dX8_keep_22 rfl (lv_at hl 0 rfl) ?_
    refine va_get (D := D) (ci := 8) (v := .ref h_znum) (C := RX8) (T := TX8) (N := 3) hx hb hts hi8 hown hK hP 0 rfl rfl 2 (by decide) hm3 (fun _ h9 => h9) rfl dX8_keep_23 ?_
    refine lv_iload_n hx hb dX8_keep_26 rfl (lv_at hl 1 rfl) ?_
    refine lv_iload hx hb dX8_keep_27 (lv_at hl 4 rfl) ?_
    refine va_iast hx hb hK hP hD hS 3 0 rfl rfl (hq (by with_reducible assumption)) dX8_keep_29 (fun H locs hP hD hS => ?_)
    obtain ⟨hP, hD⟩ := g_re (ws' := [(h_zs, .inr (8, [.ref h_zsum, .ref h_zcyc, .ref h_znum])), (h_zsum, .inl (cJ, 3, .inr (.inl (vp_updL f_zsum p0.toNatClampNeg p1)))), (h_zcyc, .inl (cI, 3, .inl (upd f_zcyc p0.toNatClampNeg p2))), (h_znum, .inl (cI, 3, .inl (upd f_znum p0.toNatClampNeg p3)))]) rfl hP hD
    exact g_vret ((vp_updL f_zsum p0.toNatClampNeg p1), (upd f_zcyc p0.toNatClampNeg p2), (upd f_znum p0.toNatClampNeg p3)) hx hb hr hlk hP hK hD hS hF trivial rfl dX8_keep_30

noncomputable def f_X8_forget_L2  (K : (Nat → Int32) → (Nat → Int32)) : Nat → (Int32 × (Nat → Int32)) → (Nat → Int32)
  | 0, _ => K default
  | n + 1, (l1_3, f_znum_3) => (if (3 : Int32) ≤ l1_3 then (K f_znum_3) else (f_X8_forget_L2 K n ((l1_3 + 1), (upd f_znum_3 l1_3.toNatClampNeg (0 : Int32)))))
noncomputable def f_X8_forget (f_znum : Nat → Int32) : (Nat → Int32) := (f_X8_forget_L2 (fun f_znum_4 => f_znum_4) (4) ((0 : Int32), f_znum))
set_option maxHeartbeats 4000000 in
set_option maxRecDepth 100000 in
theorem c_X8_forget (l : Launch) (D : va_G) (cI cJ : ClassId) (h_zs h_zsum h_zcyc h_znum : Nat) (sz : Nat) (f_zsum : Nat → Int64) (f_zcyc : Nat → Int32) (f_znum : Nat → Int32) : Met l yX8_forget wsX8_forget ({ frames := 0, cells := 0, slots := 0, locals := 0 }) (gPc D cI cJ [.ref h_zs] [(h_zs, .inr (8, [.ref h_zsum, .ref h_zcyc, .ref h_znum])), (h_zsum, .inl (cJ, 3, .inr (.inl f_zsum))), (h_zcyc, .inl (cI, 3, .inl f_zcyc)), (h_znum, .inl (cI, 3, .inl f_znum))] sz) (gQv D cI cJ (f_X8_forget f_znum) (fun _ => True) (fun u : (Nat → Int32) => [(h_zs, .inr (8, [.ref h_zsum, .ref h_zcyc, .ref h_znum])), (h_zsum, .inl (cJ, 3, .inr (.inl f_zsum))), (h_zcyc, .inl (cI, 3, .inl f_zcyc)), (h_znum, .inl (cI, 3, .inl u))]) (va_A [(h_zs, .inr (8, [.ref h_zsum, .ref h_zcyc, .ref h_znum])), (h_zsum, .inl (cJ, 3, .inr (.inl f_zsum))), (h_zcyc, .inl (cI, 3, .inl f_zcyc)), (h_znum, .inl (cI, 3, .inl f_znum))] sz)) 0 0 (va_A [(h_zs, .inr (8, [.ref h_zsum, .ref h_zcyc, .ref h_znum])), (h_zsum, .inl (cJ, 3, .inr (.inl f_zsum))), (h_zcyc, .inl (cI, 3, .inl f_zcyc)), (h_znum, .inl (cI, 3, .inl f_znum))] sz) := by
  refine g_met (cc := cX8_forget) (maxL := 2) (ret := none) (Qc := gQv D cI cJ (f_X8_forget f_znum) _ _) (by decide) rfl (Nat.le_of_ble_eq_true rfl) ?_
  intro A p e s m below meth c hx hb hr hml hts hown hlk hnm hP hK hD hE hA hS ls hl
  have hown : s.vm.findClass RX8 = some m.cls := hown
  have hl : lv_has ls 2 [(0, .ref h_zs)] := hl
  have hi8 : ∀ w ∈ u_ws RX8 TX8 3, w ∈ wsX8_forget := fun w h9 => List.mem_cons_of_mem _ (List.mem_append_right _ h9)
  have hm1 := hts (.fieldLink RX8 19 "VoltSlopes$Zeros" "numbers" "[I") (List.mem_of_getElem? (i := 1) rfl)
  have hF := f_X8_forget.eq_1 f_znum
  refine lv_iconst (v := 0) hx hb dX8_forget_0 (by decide) ?_
  refine lv_istore_n (lv' := [(1, .int (0 : Int32)), (0, .ref h_zs)]) hx hb dX8_forget_1 rfl hl (by decide) rfl (fun ls hl => ?_)
  refine gLoopW (f := f_X8_forget_L2) (α := (Int32 × (Nat → Int32))) (β := (Nat → Int32)) (fun v => [(h_zs, .inr (8, [.ref h_zsum, .ref h_zcyc, .ref h_znum])), (h_zsum, .inl (cJ, 3, .inr (.inl f_zsum))), (h_zcyc, .inl (cI, 3, .inl f_zcyc)), (h_znum, .inl (cI, 3, .inl v.2))]) (fun v => [(0, .ref h_zs), (1, .int v.1)]) 2 (fun v => [(h_zs, .inr (8, [.ref h_zsum, .ref h_zcyc, .ref h_znum])), (h_zsum, .inl (cJ, 3, .inr (.inl f_zsum))), (h_zcyc, .inl (cI, 3, .inl f_zcyc)), (h_znum, .inl (cI, 3, .inl v))]) (fun v => []) 20 (fun v => True) (fun v => 0 ≤ (v.1).toInt) (fun v => (3 - (v.1).toInt).toNat) (a0 := ((0 : Int32), f_znum)) hF (by show 0 ≤ (((0 : Int32))).toInt; have h7 : (0 : Int32).toInt = 0 := (by decide); omega) (by show (3 - (((0 : Int32))).toInt).toNat < 4; have h7 : (0 : Int32).toInt = 0 := (by decide); omega) hP hD hS (lv_sub hl [1, 0] rfl) (fun v hxi_3 hF => ?_) (fun K_3 n JX_3 IH_3 v hi_3 hmu_3 hF => ?_)
  · obtain ⟨f_znum_4, rfl⟩ : ∃ z, z = v := ⟨_, rfl⟩
    intro H locs ls hP hD hS hl
    obtain ⟨hP, hD⟩ := g_re (ws' := [(h_zs, .inr (8, [.ref h_zsum, .ref h_zcyc, .ref h_znum])), (h_zsum, .inl (cJ, 3, .inr (.inl f_zsum))), (h_zcyc, .inl (cI, 3, .inl f_zcyc)), (h_znum, .inl (cI, 3, .inl f_znum_4))]) rfl hP hD
    have hl : lv_has ls 2 [] := hl
    show W p l e _ s m _ below meth c H locs _ _ _ (F0 m 20 ls [])
    exact g_vret f_znum_4 hx hb hr hlk hP hK hD hS hF trivial rfl dX8_forget_20
  · obtain ⟨l1_3, f_znum_3⟩ := v
    intro H locs ls hP hD hS hl
    have hF := hF
    rw [f_X8_forget_L2] at hF
    obtain ⟨hP, hD⟩ := g_re (ws' := [(h_zs, .inr (8, [.ref h_zsum, .ref h_zcyc, .ref h_znum])), (h_zsum, .inl (cJ, 3, .inr (.inl f_zsum))), (h_zcyc, .inl (cI, 3, .inl f_zcyc)), (h_znum, .inl (cI, 3, .inl f_znum_3))]) rfl hP hD
    have hl : lv_has ls 2 [(0, .ref h_zs), (1, .int l1_3)] := hl
    show W p l e _ s m _ below meth c H locs _ _ _ (F0 m 2 ls [])
    have hi_3 : 0 ≤ (l1_3).toInt := hi_3
    have hmu_3 : (3 - (l1_3).toInt).toNat < n + 1 := hmu_3
    refine lv_iload_n hx hb dX8_forget_2 rfl (lv_at hl 1 rfl) ?_
    refine lv_iconst (v := 3) hx hb dX8_forget_3 (by decide) ?_
    refine lv_icmp_ge (tgt := 20) hx hb dX8_forget_4 (by decide) (fun c_4_5 => ?_) (fun c_4_5 => ?_)
    · have hF := hF.trans (if_pos c_4_5)
      have i_4_5 : 3 ≤ l1_3.toInt := gi_le c_4_5 (by decide) rfl
      exact JX_3 f_znum_3 (trivial) hF _ _ _ hP hD hS (lv_sub hl [] rfl)
    · have hF := hF.trans (if_neg c_4_5)
      have i_4_5 : l1_3.toInt < 3 := gi_nle c_4_5 (by decide) rfl
      refine lv_aload_n hx hb dX8_forget_7 rfl (lv_at hl 0 rfl) ?_
      refine va_get (D := D) (ci := 8) (v := .ref h_znum) (C := RX8) (T := TX8) (N := 3) hx hb hts hi8 hown hK hP 0 rfl rfl 2 (by decide) hm1 (fun _ h9 => h9) rfl dX8_forget_8 ?_
      refine lv_iload_n hx hb dX8_forget_11 rfl (lv_at hl 1 rfl) ?_
      refine lv_iconst (v := 0) hx hb dX8_forget_12 (by decide) ?_
      refine va_iast hx hb hK hP hD hS 3 0 rfl rfl (gi_in ⟨by omega, by omega⟩) dX8_forget_13 (fun H locs hP hD hS => ?_)
      obtain ⟨hP, hD⟩ := g_re (ws' := [(h_zs, .inr (8, [.ref h_zsum, .ref h_zcyc, .ref h_znum])), (h_zsum, .inl (cJ, 3, .inr (.inl f_zsum))), (h_zcyc, .inl (cI, 3, .inl f_zcyc)), (h_znum, .inl (cI, 3, .inl (upd f_znum_3 l1_3.toNatClampNeg (0 : Int32))))]) rfl hP hD
      refine lv_iinc (v := (l1_3 + 1)) (lv' := [(1, .int (l1_3 + 1)), (0, .ref h_zs)]) hx hb dX8_forget_14 hl (k := 1) rfl rfl (by decide) rfl (fun ls hl => ?_)
      refine lv_goto (tgt := 2) hx hb dX8_forget_17 (by decide) ?_
      exact IH_3 ((l1_3 + 1), (upd f_znum_3 l1_3.toNatClampNeg (0 : Int32))) (by show 0 ≤ ((l1_3 + 1)).toInt; have h9 := gi_inc (x := l1_3) (by omega); omega) (by show (3 - ((l1_3 + 1)).toInt).toNat < n; have h9 := gi_inc (x := l1_3) (by omega); omega) hF _ _ _ hP hD hS (lv_sub hl [1, 0] rfl)

noncomputable def f_X8_part (f_zsum : Nat → Int64) (f_zcyc : Nat → Int32) (f_znum : Nat → Int32) (p0 : Int32) (p1 : Int32) : (Int32 × Unit) := (match (f_X8_isRange p0) with | (r_1_1, _) => (if r_1_1 = true then (if p1 = (0 : Int32) then (((f_zsum p0.toNatClampNeg) / (1000 : Int64)).toInt32, ()) else (if p1 = (1 : Int32) then ((gRemL (f_zsum p0.toNatClampNeg) (1000 : Int64)).toInt32, ()) else (if p1 = (2 : Int32) then ((f_zcyc p0.toNatClampNeg), ()) else ((f_znum p0.toNatClampNeg), ())))) else ((-1000000002 : Int32), ())))
set_option maxHeartbeats 4000000 in
set_option maxRecDepth 100000 in
theorem c_X8_part (l : Launch) (D : va_G) (cI cJ : ClassId) (h_zs h_zsum h_zcyc h_znum : Nat) (sz : Nat) (f_zsum : Nat → Int64) (f_zcyc : Nat → Int32) (f_znum : Nat → Int32) (p0 : Int32) (p1 : Int32) : Met l yX8_part wsX8_part ({ frames := 1, cells := 0, slots := 0, locals := 20 }) (gPc D cI cJ [.ref h_zs, .int p0, .int p1] [(h_zs, .inr (8, [.ref h_zsum, .ref h_zcyc, .ref h_znum])), (h_zsum, .inl (cJ, 3, .inr (.inl f_zsum))), (h_zcyc, .inl (cI, 3, .inl f_zcyc)), (h_znum, .inl (cI, 3, .inl f_znum))] sz) (gQi D cI cJ (f_X8_part f_zsum f_zcyc f_znum p0 p1) (fun _ _ => True) (fun _ : Unit => [(h_zs, .inr (8, [.ref h_zsum, .ref h_zcyc, .ref h_znum])), (h_zsum, .inl (cJ, 3, .inr (.inl f_zsum))), (h_zcyc, .inl (cI, 3, .inl f_zcyc)), (h_znum, .inl (cI, 3, .inl f_znum))]) (va_A [(h_zs, .inr (8, [.ref h_zsum, .ref h_zcyc, .ref h_znum])), (h_zsum, .inl (cJ, 3, .inr (.inl f_zsum))), (h_zcyc, .inl (cI, 3, .inl f_zcyc)), (h_znum, .inl (cI, 3, .inl f_znum))] sz)) 0 0 (va_A [(h_zs, .inr (8, [.ref h_zsum, .ref h_zcyc, .ref h_znum])), (h_zsum, .inl (cJ, 3, .inr (.inl f_zsum))), (h_zcyc, .inl (cI, 3, .inl f_zcyc)), (h_znum, .inl (cI, 3, .inl f_znum))] sz) := by
  refine g_met (cc := cX8_part) (maxL := 3) (ret := (some .int)) (Qc := gQi D cI cJ (f_X8_part f_zsum f_zcyc f_znum p0 p1) _ _) (by decide) rfl (Nat.le_of_ble_eq_true rfl) ?_
  intro A p e s m below meth c hx hb hr hml hts hown hlk hnm hP hK hD hE hA hS ls hl
  have hown : s.vm.findClass RX8 = some m.cls := hown
  have hl : lv_has ls 3 [(0, .ref h_zs), (1, .int p0), (2, .int p1)] := hl
  have hi8 : ∀ w ∈ u_ws RX8 TX8 3, w ∈ wsX8_part := fun w h9 => List.mem_cons_of_mem _ (List.mem_append_right _ h9)
  have hm1 := hts (.constant RX8 29 (-1000000002)) (List.mem_of_getElem? (i := 1) rfl)
  have hm2 := hts (.fieldLink RX8 9 "VoltSlopes$Zeros" "sums" "[J") (List.mem_of_getElem? (i := 2) rfl)
  have hm3 := hts (.constantLong RX8 30 (1000)) (List.mem_of_getElem? (i := 3) rfl)
  have hm4 := hts (.fieldLink RX8 15 "VoltSlopes$Zeros" "cycles" "[I") (List.mem_of_getElem? (i := 4) rfl)
  have hm5 := hts (.fieldLink RX8 19 "VoltSlopes$Zeros" "numbers" "[I") (List.mem_of_getElem? (i := 5) rfl)
  have hF := f_X8_part.eq_1 f_zsum f_zcyc f_znum p0 p1
  refine lv_iload_n hx hb dX8_part_0 rfl (lv_at hl 1 rfl) ?_
  refine g_csz (rest := []) ⟨hx, hb, hml, hown, hts⟩ hP hD hK hS hA hE (c_X8_isRange l D cI cJ s.heap.size p0) (va_cwS 1 hts gX8_part_X8_isRange rfl rfl rfl (by decide +kernel) ⟨Nat.le_of_ble_eq_true rfl, Nat.le_of_ble_eq_true rfl⟩) rfl hl rfl (Nat.le_of_ble_eq_true rfl) ⟨Nat.zero_le _, Nat.zero_le _⟩ dX8_part_1 (fun r_1_1 H locs hw_1 hx_1 hP hS => ?_)
  have hq := isRange_in hw_1
  have hF := hF
  rw [hw_1] at hF
  try dsimp only at hF
  refine lv_if_ne (tgt := 10) hx hb dX8_part_4 (by decide) (fun c_4_2w => ?_) (fun c_4_2w => ?_)
  · have c_4_2 := bI_t c_4_2w
    have hF := hF.trans (if_pos c_4_2)
    refine lv_iload_n hx hb dX8_part_10 rfl (lv_at hl 2 rfl) ?_
    by_cases c_11_3_0 : p1 = (0 : Int32)
    · have hF := hF.trans (if_pos c_11_3_0)
      have i_11_3_0 : p1.toInt = 0 := gi_eq c_11_3_0 rfl (by decide)
      refine lv_tableIn (off := 25) (tgt := 36) hx hb dX8_part_11 (by rw [c_11_3_0]; decide) (by rw [c_11_3_0]; decide) (by rw [c_11_3_0]; rfl) (by decide) ?_
      refine lv_aload_n hx hb dX8_part_36 rfl (lv_at hl 0 rfl) ?_
      refine va_get (D := D) (ci := 8) (v := .ref h_zsum) (C := RX8) (T := TX8) (N := 3) hx hb hts hi8 hown hK hP 0 rfl rfl 0 (by decide) hm2 (fun _ h9 => h9) rfl dX8_part_37 ?_
      refine lv_iload_n hx hb dX8_part_40 rfl (lv_at hl 1 rfl) ?_
      refine va_lald hx hb hK hP 1 1 rfl rfl (hq (by with_reducible assumption)) dX8_part_41 ?_
      refine lv_ldc2 hx hb hown hm3 dX8_part_42 ?_
      refine lv_ldiv hx hb dX8_part_45 (by decide) ?_
      refine lv_l2i (v := ((f_zsum p0.toNatClampNeg) / (1000 : Int64)).toInt32) hx hb dX8_part_46 rfl ?_
      exact g_iret () hx hb hr hlk hP hK hD hS hF trivial rfl dX8_part_47
    have hF := hF.trans (if_neg c_11_3_0)
    have i_11_3_0 : p1.toInt ≠ 0 := gi_ne c_11_3_0 rfl (by decide)
    by_cases c_11_3_1 : p1 = (1 : Int32)
    · have hF := hF.trans (if_pos c_11_3_1)
      have i_11_3_1 : p1.toInt = 1 := gi_eq c_11_3_1 rfl (by decide)
      refine lv_tableIn (off := 37) (tgt := 48) hx hb dX8_part_11 (by rw [c_11_3_1]; decide) (by rw [c_11_3_1]; decide) (by rw [c_11_3_1]; rfl) (by decide) ?_
      refine lv_aload_n hx hb dX8_part_48 rfl (lv_at hl 0 rfl) ?_
      refine va_get (D := D) (ci := 8) (v := .ref h_zsum) (C := RX8) (T := TX8) (N := 3) hx hb hts hi8 hown hK hP 0 rfl rfl 0 (by decide) hm2 (fun _ h9 => h9) rfl dX8_part_49 ?_
      refine lv_iload_n hx hb dX8_part_52 rfl (lv_at hl 1 rfl) ?_
      refine va_lald hx hb hK hP 1 1 rfl rfl (hq (by with_reducible assumption)) dX8_part_53 ?_
      refine lv_ldc2 hx hb hown hm3 dX8_part_54 ?_
      refine g_lrem hx hb dX8_part_57 (by decide) ?_
      refine lv_l2i (v := (gRemL (f_zsum p0.toNatClampNeg) (1000 : Int64)).toInt32) hx hb dX8_part_58 rfl ?_
      exact g_iret () hx hb hr hlk hP hK hD hS hF trivial rfl dX8_part_59
    have hF := hF.trans (if_neg c_11_3_1)
    have i_11_3_1 : p1.toInt ≠ 1 := gi_ne c_11_3_1 rfl (by decide)
    by_cases c_11_3_2 : p1 = (2 : Int32)
    · have hF := hF.trans (if_pos c_11_3_2)
      have i_11_3_2 : p1.toInt = 2 := gi_eq c_11_3_2 rfl (by decide)
      refine lv_tableIn (off := 49) (tgt := 60) hx hb dX8_part_11 (by rw [c_11_3_2]; decide) (by rw [c_11_3_2]; decide) (by rw [c_11_3_2]; rfl) (by decide) ?_
      refine lv_aload_n hx hb dX8_part_60 rfl (lv_at hl 0 rfl) ?_
      refine va_get (D := D) (ci := 8) (v := .ref h_zcyc) (C := RX8) (T := TX8) (N := 3) hx hb hts hi8 hown hK hP 0 rfl rfl 1 (by decide) hm4 (fun _ h9 => h9) rfl dX8_part_61 ?_
      refine lv_iload_n hx hb dX8_part_64 rfl (lv_at hl 1 rfl) ?_
      refine va_iald hx hb hK hP 2 0 rfl rfl (hq (by with_reducible assumption)) dX8_part_65 ?_
      exact g_iret () hx hb hr hlk hP hK hD hS hF trivial rfl dX8_part_66
    have hF := hF.trans (if_neg c_11_3_2)
    have i_11_3_2 : p1.toInt ≠ 2 := gi_ne c_11_3_2 rfl (by decide)
    refine lv_tableOut (tgt := 67) hx hb dX8_part_11 (by have := lv_neT (a := 0) c_11_3_0 (by decide); have := lv_neT (a := 1) c_11_3_1 (by decide); have := lv_neT (a := 2) c_11_3_2 (by decide); omega) (by decide) ?_
    refine lv_aload_n hx hb dX8_part_67 rfl (lv_at hl 0 rfl) ?_
    refine va_get (D := D) (ci := 8) (v := .ref h_znum) (C := RX8) (T := TX8) (N := 3) hx hb hts hi8 hown hK hP 0 rfl rfl 2 (by decide) hm5 (fun _ h9 => h9) rfl dX8_part_68 ?_
    refine lv_iload_n hx hb dX8_part_71 rfl (lv_at hl 1 rfl) ?_
    refine va_iald hx hb hK hP 3 0 rfl rfl (hq (by with_reducible assumption)) dX8_part_72 ?_
    exact g_iret () hx hb hr hlk hP hK hD hS hF trivial rfl dX8_part_73
  · have c_4_2 := bI_f2 c_4_2w
    have hF := hF.trans (if_neg c_4_2)
    refine lv_ldc hx hb hown hm1 dX8_part_7 ?_
    exact g_iret () hx hb hr hlk hP hK hD hS hF trivial rfl dX8_part_9
