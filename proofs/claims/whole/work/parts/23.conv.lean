noncomputable def f_X2_begin (p0 : Bool) (p1 : Int32) : (Bool × Int32 × Bool × Int32 × Int32 × Int32 × Int64 × Int64 × Int64 × Int32) := (p0, p1, false, (0 : Int32), (0 : Int32), (0 : Int32), (0 : Int64), (0 : Int64), (0 : Int64), (0 : Int32))
set_option maxHeartbeats 4000000 in
set_option maxRecDepth 100000 in
theorem c_X2_begin (l : Launch) (D : va_G) (cI cJ : ClassId) (h_cv h_cnt : Nat) (sz : Nat) (c_shorted : Bool) (c_range : Int32) (c_over : Bool) (c_plus : Int32) (c_minus : Int32) (c_switched : Int32) (c_charge : Int64) (c_sum : Int64) (c_flowed : Int64) (c_signAhead : Int32) (f_cnt : Nat → Int32) (p0 : Bool) (p1 : Int32) : Met l yX2_begin wsX2_begin ({ frames := 0, cells := 0, slots := 0, locals := 0 }) (gPc D cI cJ [.ref h_cv, .int (bI p0), .int p1] [(h_cv, .inr (2, [.int (bI c_shorted), .int c_range, .int (bI c_over), .int c_plus, .int c_minus, .int c_switched, .long c_charge, .long c_sum, .long c_flowed, .int c_signAhead, .ref h_cnt])), (h_cnt, .inl (cI, 4, .inl f_cnt))] sz) (gQv D cI cJ (f_X2_begin p0 p1) (fun _ => True) (fun u : (Bool × Int32 × Bool × Int32 × Int32 × Int32 × Int64 × Int64 × Int64 × Int32) => [(h_cv, .inr (2, [.int (bI u.1), .int u.2.1, .int (bI u.2.2.1), .int u.2.2.2.1, .int u.2.2.2.2.1, .int u.2.2.2.2.2.1, .long u.2.2.2.2.2.2.1, .long u.2.2.2.2.2.2.2.1, .long u.2.2.2.2.2.2.2.2.1, .int u.2.2.2.2.2.2.2.2.2, .ref h_cnt])), (h_cnt, .inl (cI, 4, .inl f_cnt))]) (va_A [(h_cv, .inr (2, [.int (bI c_shorted), .int c_range, .int (bI c_over), .int c_plus, .int c_minus, .int c_switched, .long c_charge, .long c_sum, .long c_flowed, .int c_signAhead, .ref h_cnt])), (h_cnt, .inl (cI, 4, .inl f_cnt))] sz)) 0 0 (va_A [(h_cv, .inr (2, [.int (bI c_shorted), .int c_range, .int (bI c_over), .int c_plus, .int c_minus, .int c_switched, .long c_charge, .long c_sum, .long c_flowed, .int c_signAhead, .ref h_cnt])), (h_cnt, .inl (cI, 4, .inl f_cnt))] sz) := by
  refine g_met (cc := cX2_begin) (maxL := 3) (ret := none) (Qc := gQv D cI cJ (f_X2_begin p0 p1) _ _) (by decide) rfl (Nat.le_of_ble_eq_true rfl) ?_
  intro A p e s m below meth c hx hb hr hml hts hown hlk hnm hP hK hD hE hA hS ls hl
  have hown : s.vm.findClass RX2 = some m.cls := hown
  have hl : lv_has ls 3 [(0, .ref h_cv), (1, .int (bI p0)), (2, .int p1)] := hl
  have hi2 : ∀ w ∈ u_ws RX2 TX2 11, w ∈ wsX2_begin := fun w h9 => List.mem_cons_of_mem _ (List.mem_append_right _ h9)
  have hm1 := hts (.fieldLink RX2 9 "VoltSlopes$Conversion" "shorted" "Z") (List.mem_of_getElem? (i := 1) rfl)
  have hm2 := hts (.fieldLink RX2 15 "VoltSlopes$Conversion" "range" "I") (List.mem_of_getElem? (i := 2) rfl)
  have hm3 := hts (.fieldLink RX2 19 "VoltSlopes$Conversion" "over" "Z") (List.mem_of_getElem? (i := 3) rfl)
  have hm4 := hts (.fieldLink RX2 22 "VoltSlopes$Conversion" "plus" "I") (List.mem_of_getElem? (i := 4) rfl)
  have hm5 := hts (.fieldLink RX2 25 "VoltSlopes$Conversion" "minus" "I") (List.mem_of_getElem? (i := 5) rfl)
  have hm6 := hts (.fieldLink RX2 28 "VoltSlopes$Conversion" "switched" "I") (List.mem_of_getElem? (i := 6) rfl)
  have hm7 := hts (.fieldLink RX2 31 "VoltSlopes$Conversion" "charge" "J") (List.mem_of_getElem? (i := 7) rfl)
  have hm8 := hts (.fieldLink RX2 35 "VoltSlopes$Conversion" "sum" "J") (List.mem_of_getElem? (i := 8) rfl)
  have hm9 := hts (.fieldLink RX2 38 "VoltSlopes$Conversion" "flowed" "J") (List.mem_of_getElem? (i := 9) rfl)
  have hm10 := hts (.fieldLink RX2 41 "VoltSlopes$Conversion" "signAhead" "I") (List.mem_of_getElem? (i := 10) rfl)
  have hF := f_X2_begin.eq_1 p0 p1
  refine lv_aload_n hx hb dX2_begin_0 rfl (lv_at hl 0 rfl) ?_
  refine lv_iload_n hx hb dX2_begin_1 rfl (lv_at hl 1 rfl) ?_
  refine va_put (D := D) (ci := 2) (v := .int (bI p0)) (ty := .boolean) (C := RX2) (T := TX2) (N := 11) hx hb hts hi2 tyX2 tyX2_ok nmX2 hown hK hP hD hS 0 rfl rfl 0 (by decide) hm1 (fun _ h9 => h9) rfl (by decide +kernel) (bI_nar p0) (bI_fit p0) (Nat.le_of_ble_eq_true rfl) dX2_begin_2 (fun H locs hP hD hS => ?_)
  obtain ⟨hP, hD⟩ := g_re (ws' := [(h_cv, .inr (2, [.int (bI p0), .int c_range, .int (bI c_over), .int c_plus, .int c_minus, .int c_switched, .long c_charge, .long c_sum, .long c_flowed, .int c_signAhead, .ref h_cnt])), (h_cnt, .inl (cI, 4, .inl f_cnt))]) rfl hP hD
  refine lv_aload_n hx hb dX2_begin_5 rfl (lv_at hl 0 rfl) ?_
  refine lv_iload_n hx hb dX2_begin_6 rfl (lv_at hl 2 rfl) ?_
  refine va_put (D := D) (ci := 2) (v := .int p1) (ty := .int) (C := RX2) (T := TX2) (N := 11) hx hb hts hi2 tyX2 tyX2_ok nmX2 hown hK hP hD hS 0 rfl rfl 1 (by decide) hm2 (fun _ h9 => h9) rfl (by decide +kernel) rfl rfl (Nat.le_of_ble_eq_true rfl) dX2_begin_7 (fun H locs hP hD hS => ?_)
  obtain ⟨hP, hD⟩ := g_re (ws' := [(h_cv, .inr (2, [.int (bI p0), .int p1, .int (bI c_over), .int c_plus, .int c_minus, .int c_switched, .long c_charge, .long c_sum, .long c_flowed, .int c_signAhead, .ref h_cnt])), (h_cnt, .inl (cI, 4, .inl f_cnt))]) rfl hP hD
  refine lv_aload_n hx hb dX2_begin_10 rfl (lv_at hl 0 rfl) ?_
  refine lv_iconst (v := 0) hx hb dX2_begin_11 (by decide) ?_
  refine va_put (D := D) (ci := 2) (v := .int (bI false)) (ty := .boolean) (C := RX2) (T := TX2) (N := 11) hx hb hts hi2 tyX2 tyX2_ok nmX2 hown hK hP hD hS 0 rfl rfl 2 (by decide) hm3 (fun _ h9 => h9) rfl (by decide +kernel) (bI_nar false) (bI_fit false) (Nat.le_of_ble_eq_true rfl) dX2_begin_12 (fun H locs hP hD hS => ?_)
  obtain ⟨hP, hD⟩ := g_re (ws' := [(h_cv, .inr (2, [.int (bI p0), .int p1, .int (bI false), .int c_plus, .int c_minus, .int c_switched, .long c_charge, .long c_sum, .long c_flowed, .int c_signAhead, .ref h_cnt])), (h_cnt, .inl (cI, 4, .inl f_cnt))]) rfl hP hD
  refine lv_aload_n hx hb dX2_begin_15 rfl (lv_at hl 0 rfl) ?_
  refine lv_iconst (v := 0) hx hb dX2_begin_16 (by decide) ?_
  refine va_put (D := D) (ci := 2) (v := .int (0 : Int32)) (ty := .int) (C := RX2) (T := TX2) (N := 11) hx hb hts hi2 tyX2 tyX2_ok nmX2 hown hK hP hD hS 0 rfl rfl 3 (by decide) hm4 (fun _ h9 => h9) rfl (by decide +kernel) rfl rfl (Nat.le_of_ble_eq_true rfl) dX2_begin_17 (fun H locs hP hD hS => ?_)
  obtain ⟨hP, hD⟩ := g_re (ws' := [(h_cv, .inr (2, [.int (bI p0), .int p1, .int (bI false), .int (0 : Int32), .int c_minus, .int c_switched, .long c_charge, .long c_sum, .long c_flowed, .int c_signAhead, .ref h_cnt])), (h_cnt, .inl (cI, 4, .inl f_cnt))]) rfl hP hD
  refine lv_aload_n hx hb dX2_begin_20 rfl (lv_at hl 0 rfl) ?_
  refine lv_iconst (v := 0) hx hb dX2_begin_21 (by decide) ?_
  refine va_put (D := D) (ci := 2) (v := .int (0 : Int32)) (ty := .int) (C := RX2) (T := TX2) (N := 11) hx hb hts hi2 tyX2 tyX2_ok nmX2 hown hK hP hD hS 0 rfl rfl 4 (by decide) hm5 (fun _ h9 => h9) rfl (by decide +kernel) rfl rfl (Nat.le_of_ble_eq_true rfl) dX2_begin_22 (fun H locs hP hD hS => ?_)
  obtain ⟨hP, hD⟩ := g_re (ws' := [(h_cv, .inr (2, [.int (bI p0), .int p1, .int (bI false), .int (0 : Int32), .int (0 : Int32), .int c_switched, .long c_charge, .long c_sum, .long c_flowed, .int c_signAhead, .ref h_cnt])), (h_cnt, .inl (cI, 4, .inl f_cnt))]) rfl hP hD
  refine lv_aload_n hx hb dX2_begin_25 rfl (lv_at hl 0 rfl) ?_
  refine lv_iconst (v := 0) hx hb dX2_begin_26 (by decide) ?_
  refine va_put (D := D) (ci := 2) (v := .int (0 : Int32)) (ty := .int) (C := RX2) (T := TX2) (N := 11) hx hb hts hi2 tyX2 tyX2_ok nmX2 hown hK hP hD hS 0 rfl rfl 5 (by decide) hm6 (fun _ h9 => h9) rfl (by decide +kernel) rfl rfl (Nat.le_of_ble_eq_true rfl) dX2_begin_27 (fun H locs hP hD hS => ?_)
  obtain ⟨hP, hD⟩ := g_re (ws' := [(h_cv, .inr (2, [.int (bI p0), .int p1, .int (bI false), .int (0 : Int32), .int (0 : Int32), .int (0 : Int32), .long c_charge, .long c_sum, .long c_flowed, .int c_signAhead, .ref h_cnt])), (h_cnt, .inl (cI, 4, .inl f_cnt))]) rfl hP hD
  refine lv_aload_n hx hb dX2_begin_30 rfl (lv_at hl 0 rfl) ?_
  refine lv_lconst (v := 0) hx hb dX2_begin_31 (by decide) ?_
  refine va_put (D := D) (ci := 2) (v := .long (0 : Int64)) (ty := .long) (C := RX2) (T := TX2) (N := 11) hx hb hts hi2 tyX2 tyX2_ok nmX2 hown hK hP hD hS 0 rfl rfl 6 (by decide) hm7 (fun _ h9 => h9) rfl (by decide +kernel) rfl rfl (Nat.le_of_ble_eq_true rfl) dX2_begin_32 (fun H locs hP hD hS => ?_)
  obtain ⟨hP, hD⟩ := g_re (ws' := [(h_cv, .inr (2, [.int (bI p0), .int p1, .int (bI false), .int (0 : Int32), .int (0 : Int32), .int (0 : Int32), .long (0 : Int64), .long c_sum, .long c_flowed, .int c_signAhead, .ref h_cnt])), (h_cnt, .inl (cI, 4, .inl f_cnt))]) rfl hP hD
  refine lv_aload_n hx hb dX2_begin_35 rfl (lv_at hl 0 rfl) ?_
  refine lv_lconst (v := 0) hx hb dX2_begin_36 (by decide) ?_
  refine va_put (D := D) (ci := 2) (v := .long (0 : Int64)) (ty := .long) (C := RX2) (T := TX2) (N := 11) hx hb hts hi2 tyX2 tyX2_ok nmX2 hown hK hP hD hS 0 rfl rfl 7 (by decide) hm8 (fun _ h9 => h9) rfl (by decide +kernel) rfl rfl (Nat.le_of_ble_eq_true rfl) dX2_begin_37 (fun H locs hP hD hS => ?_)
  obtain ⟨hP, hD⟩ := g_re (ws' := [(h_cv, .inr (2, [.int (bI p0), .int p1, .int (bI false), .int (0 : Int32), .int (0 : Int32), .int (0 : Int32), .long (0 : Int64), .long (0 : Int64), .long c_flowed, .int c_signAhead, .ref h_cnt])), (h_cnt, .inl (cI, 4, .inl f_cnt))]) rfl hP hD
  refine lv_aload_n hx hb dX2_begin_40 rfl (lv_at hl 0 rfl) ?_
  refine lv_lconst (v := 0) hx hb dX2_begin_41 (by decide) ?_
  refine va_put (D := D) (ci := 2) (v := .long (0 : Int64)) (ty := .long) (C := RX2) (T := TX2) (N := 11) hx hb hts hi2 tyX2 tyX2_ok nmX2 hown hK hP hD hS 0 rfl rfl 8 (by decide) hm9 (fun _ h9 => h9) rfl (by decide +kernel) rfl rfl (Nat.le_of_ble_eq_true rfl) dX2_begin_42 (fun H locs hP hD hS => ?_)
  obtain ⟨hP, hD⟩ := g_re (ws' := [(h_cv, .inr (2, [.int (bI p0), .int p1, .int (bI false), .int (0 : Int32), .int (0 : Int32), .int (0 : Int32), .long (0 : Int64), .long (0 : Int64), .long (0 : Int64), .int c_signAhead, .ref h_cnt])), (h_cnt, .inl (cI, 4, .inl f_cnt))]) rfl hP hD
  refine lv_aload_n hx hb dX2_begin_45 rfl (lv_at hl 0 rfl) ?_
  refine lv_iconst (v := 0) hx hb dX2_begin_46 (by decide) ?_
  refine va_put (D := D) (ci := 2) (v := .int (0 : Int32)) (ty := .int) (C := RX2) (T := TX2) (N := 11) hx hb hts hi2 tyX2 tyX2_ok nmX2 hown hK hP hD hS 0 rfl rfl 9 (by decide) hm10 (fun _ h9 => h9) rfl (by decide +kernel) rfl rfl (Nat.le_of_ble_eq_true rfl) dX2_begin_47 (fun H locs hP hD hS => ?_)
  obtain ⟨hP, hD⟩ := g_re (ws' := [(h_cv, .inr (2, [.int (bI p0), .int p1, .int (bI false), .int (0 : Int32), .int (0 : Int32), .int (0 : Int32), .long (0 : Int64), .long (0 : Int64), .long (0 : Int64), .int (0 : Int32), .ref h_cnt])), (h_cnt, .inl (cI, 4, .inl f_cnt))]) rfl hP hD
  exact g_vret (p0, p1, false, (0 : Int32), (0 : Int32), (0 : Int32), (0 : Int64), (0 : Int64), (0 : Int64), (0 : Int32)) hx hb hr hlk hP hK hD hS hF trivial rfl dX2_begin_50

noncomputable def f_X2_flow (c_over : Bool) (c_plus : Int32) (c_minus : Int32) (c_switched : Int32) (c_charge : Int64) (c_flowed : Int64) (c_signAhead : Int32) (p0 : Int64) (p1 : Int32) : (Bool × Int32 × Int32 × Int32 × Int64 × Int64 × Int32) := (if (gMaxL (-22000000 : Int64) (gMinL (22000000 : Int64) p0)) = p0 then (gBind (fun (k_14 : (Int32 × Int32) → (Bool × Int32 × Int32 × Int32 × Int64 × Int64 × Int32)) => (if p1 ≤ (0 : Int32) then (k_14 (c_plus, (c_minus + (1 : Int32)))) else (k_14 ((c_plus + (1 : Int32)), c_minus)))) (fun q_14 => match q_14 with | (cv_plus_14, cv_minus_14) => (if c_signAhead = (0 : Int32) then (c_over, cv_plus_14, cv_minus_14, c_switched, (c_charge + ((gMaxL (-22000000 : Int64) (gMinL (22000000 : Int64) p0)) + ((25600000 : Int64) * p1.toInt64))), (c_flowed + (gMaxL (-22000000 : Int64) (gMinL (22000000 : Int64) p0))), p1) else (if c_signAhead = p1 then (c_over, cv_plus_14, cv_minus_14, c_switched, (c_charge + ((gMaxL (-22000000 : Int64) (gMinL (22000000 : Int64) p0)) + ((25600000 : Int64) * p1.toInt64))), (c_flowed + (gMaxL (-22000000 : Int64) (gMinL (22000000 : Int64) p0))), p1) else (c_over, cv_plus_14, cv_minus_14, (c_switched + (1 : Int32)), (c_charge + ((gMaxL (-22000000 : Int64) (gMinL (22000000 : Int64) p0)) + ((25600000 : Int64) * p1.toInt64))), (c_flowed + (gMaxL (-22000000 : Int64) (gMinL (22000000 : Int64) p0))), p1))))) else (gBind (fun (k_19 : (Int32 × Int32) → (Bool × Int32 × Int32 × Int32 × Int64 × Int64 × Int32)) => (if p1 ≤ (0 : Int32) then (k_19 (c_plus, (c_minus + (1 : Int32)))) else (k_19 ((c_plus + (1 : Int32)), c_minus)))) (fun q_19 => match q_19 with | (cv_plus_19, cv_minus_19) => (if c_signAhead = (0 : Int32) then (true, cv_plus_19, cv_minus_19, c_switched, (c_charge + ((gMaxL (-22000000 : Int64) (gMinL (22000000 : Int64) p0)) + ((25600000 : Int64) * p1.toInt64))), (c_flowed + (gMaxL (-22000000 : Int64) (gMinL (22000000 : Int64) p0))), p1) else (if c_signAhead = p1 then (true, cv_plus_19, cv_minus_19, c_switched, (c_charge + ((gMaxL (-22000000 : Int64) (gMinL (22000000 : Int64) p0)) + ((25600000 : Int64) * p1.toInt64))), (c_flowed + (gMaxL (-22000000 : Int64) (gMinL (22000000 : Int64) p0))), p1) else (true, cv_plus_19, cv_minus_19, (c_switched + (1 : Int32)), (c_charge + ((gMaxL (-22000000 : Int64) (gMinL (22000000 : Int64) p0)) + ((25600000 : Int64) * p1.toInt64))), (c_flowed + (gMaxL (-22000000 : Int64) (gMinL (22000000 : Int64) p0))), p1))))))
set_option maxHeartbeats 4000000 in
set_option maxRecDepth 100000 in
theorem c_X2_flow (l : Launch) (D : va_G) (cI cJ : ClassId) (h_cv h_cnt : Nat) (sz : Nat) (c_shorted : Bool) (c_range : Int32) (c_over : Bool) (c_plus : Int32) (c_minus : Int32) (c_switched : Int32) (c_charge : Int64) (c_sum : Int64) (c_flowed : Int64) (c_signAhead : Int32) (f_cnt : Nat → Int32) (p0 : Int64) (p1 : Int32) : Met l yX2_flow wsX2_flow ({ frames := 1, cells := 0, slots := 0, locals := 17 }) (gPc D cI cJ [.ref h_cv, .long p0, .int p1] [(h_cv, .inr (2, [.int (bI c_shorted), .int c_range, .int (bI c_over), .int c_plus, .int c_minus, .int c_switched, .long c_charge, .long c_sum, .long c_flowed, .int c_signAhead, .ref h_cnt])), (h_cnt, .inl (cI, 4, .inl f_cnt))] sz) (gQv D cI cJ (f_X2_flow c_over c_plus c_minus c_switched c_charge c_flowed c_signAhead p0 p1) (fun _ => True) (fun u : (Bool × Int32 × Int32 × Int32 × Int64 × Int64 × Int32) => [(h_cv, .inr (2, [.int (bI c_shorted), .int c_range, .int (bI u.1), .int u.2.1, .int u.2.2.1, .int u.2.2.2.1, .long u.2.2.2.2.1, .long c_sum, .long u.2.2.2.2.2.1, .int u.2.2.2.2.2.2, .ref h_cnt])), (h_cnt, .inl (cI, 4, .inl f_cnt))]) (va_A [(h_cv, .inr (2, [.int (bI c_shorted), .int c_range, .int (bI c_over), .int c_plus, .int c_minus, .int c_switched, .long c_charge, .long c_sum, .long c_flowed, .int c_signAhead, .ref h_cnt])), (h_cnt, .inl (cI, 4, .inl f_cnt))] sz)) 0 0 (va_A [(h_cv, .inr (2, [.int (bI c_shorted), .int c_range, .int (bI c_over), .int c_plus, .int c_minus, .int c_switched, .long c_charge, .long c_sum, .long c_flowed, .int c_signAhead, .ref h_cnt])), (h_cnt, .inl (cI, 4, .inl f_cnt))] sz) := by
  refine g_met (cc := cX2_flow) (maxL := 6) (ret := none) (Qc := gQv D cI cJ (f_X2_flow c_over c_plus c_minus c_switched c_charge c_flowed c_signAhead p0 p1) _ _) (by decide) rfl (Nat.le_of_ble_eq_true rfl) ?_
  intro A p e s m below meth c hx hb hr hml hts hown hlk hnm hP hK hD hE hA hS ls hl
  have hown : s.vm.findClass RX2 = some m.cls := hown
  have hl : lv_has ls 6 [(0, .ref h_cv), (1, .long p0), (3, .int p1)] := hl
  have hi2 : ∀ w ∈ u_ws RX2 TX2 11, w ∈ wsX2_flow := fun w h9 => List.mem_cons_of_mem _ (List.mem_append_right _ h9)
  have hm1 := hts (.constantLong RX2 48 (-22000000)) (List.mem_of_getElem? (i := 1) rfl)
  have hm2 := hts (.constantLong RX2 50 (22000000)) (List.mem_of_getElem? (i := 2) rfl)
  have hm3 := hts (.methodLink RX2 52 Lib.MathLoose.min_long.x) (List.mem_of_getElem? (i := 3) rfl)
  have hm4 := hts (.static Lib.MathLoose.min_long.x) (List.mem_of_getElem? (i := 4) rfl)
  have hm5 := hts (.initialized "java/lang/Math") (List.mem_of_getElem? (i := 5) rfl)
  have hm6 := hts (.code Lib.MathLoose.min_long.x Lib.MathLoose.min_long.code 4 (some .long)) (List.mem_of_getElem? (i := 6) rfl)
  have hm7 := hts (.methodLink RX2 58 Lib.MathLoose.max_long.x) (List.mem_of_getElem? (i := 7) rfl)
  have hm8 := hts (.static Lib.MathLoose.max_long.x) (List.mem_of_getElem? (i := 8) rfl)
  have hm9 := hts (.code Lib.MathLoose.max_long.x Lib.MathLoose.max_long.code 4 (some .long)) (List.mem_of_getElem? (i := 9) rfl)
  have hm10 := hts (.fieldLink RX2 19 "VoltSlopes$Conversion" "over" "Z") (List.mem_of_getElem? (i := 10) rfl)
  have hm11 := hts (.fieldLink RX2 38 "VoltSlopes$Conversion" "flowed" "J") (List.mem_of_getElem? (i := 11) rfl)
  have hm12 := hts (.fieldLink RX2 31 "VoltSlopes$Conversion" "charge" "J") (List.mem_of_getElem? (i := 12) rfl)
  have hm13 := hts (.constantLong RX2 61 (25600000)) (List.mem_of_getElem? (i := 13) rfl)
  have hm14 := hts (.fieldLink RX2 22 "VoltSlopes$Conversion" "plus" "I") (List.mem_of_getElem? (i := 14) rfl)
  have hm15 := hts (.fieldLink RX2 25 "VoltSlopes$Conversion" "minus" "I") (List.mem_of_getElem? (i := 15) rfl)
  have hm16 := hts (.fieldLink RX2 41 "VoltSlopes$Conversion" "signAhead" "I") (List.mem_of_getElem? (i := 16) rfl)
  have hm17 := hts (.fieldLink RX2 28 "VoltSlopes$Conversion" "switched" "I") (List.mem_of_getElem? (i := 17) rfl)
  have hF := f_X2_flow.eq_1 c_over c_plus c_minus c_switched c_charge c_flowed c_signAhead p0 p1
  refine lv_ldc2 hx hb hown hm1 dX2_flow_0 ?_
  refine lv_ldc2 hx hb hown hm2 dX2_flow_3 ?_
  refine lv_lload_n hx hb dX2_flow_6 rfl (lv_at hl 1 rfl) ?_
  refine va_mmin_long hx hb (by rw [hml]; exact hl.1.symm) hown hm3 hm4 hm5 hm6 (Nat.le_of_ble_eq_true rfl) (Nat.le_of_ble_eq_true rfl) (Nat.zero_le _) (Nat.zero_le _) dX2_flow_7 ?_
  refine W.eq (g2 := F0 m 10 ls [.long (gMinL (22000000 : Int64) p0), .long (-22000000 : Int64)]) rfl ?_
  refine va_mmax_long hx hb (by rw [hml]; exact hl.1.symm) hown hm7 hm8 hm5 hm9 (Nat.le_of_ble_eq_true rfl) (Nat.le_of_ble_eq_true rfl) (Nat.zero_le _) (Nat.zero_le _) dX2_flow_10 ?_
  refine W.eq (g2 := F0 m 13 ls [.long (gMaxL (-22000000 : Int64) (gMinL (22000000 : Int64) p0))]) rfl ?_
  refine lv_lstore (lv' := [(4, .long (gMaxL (-22000000 : Int64) (gMinL (22000000 : Int64) p0))), (0, .ref h_cv), (1, .long p0), (3, .int p1)]) hx hb dX2_flow_13 hl (by decide) rfl (fun ls hl => ?_)
  refine lv_lload hx hb dX2_flow_15 (lv_at hl 0 rfl) ?_
  refine lv_lload_n hx hb dX2_flow_17 rfl (lv_at hl 2 rfl) ?_
  refine g_l_eq (tgt := 27) hx hb dX2_flow_18 dX2_flow_19 (by decide) (fun c_18_12 => ?_) (fun c_18_12 => ?_)
  · have hF := hF.trans (if_pos c_18_12)
    refine lv_aload_n hx hb dX2_flow_27 rfl (lv_at hl 1 rfl) ?_
    refine lv_dup hx hb dX2_flow_28 rfl ?_
    refine va_get (D := D) (ci := 2) (v := .long c_flowed) (C := RX2) (T := TX2) (N := 11) hx hb hts hi2 hown hK hP 0 rfl rfl 8 (by decide) hm11 (fun _ h9 => h9) rfl dX2_flow_29 ?_
    refine lv_lload hx hb dX2_flow_32 (lv_at hl 0 rfl) ?_
    refine lv_ladd hx hb dX2_flow_34 ?_
    refine va_put (D := D) (ci := 2) (v := .long (c_flowed + (gMaxL (-22000000 : Int64) (gMinL (22000000 : Int64) p0)))) (ty := .long) (C := RX2) (T := TX2) (N := 11) hx hb hts hi2 tyX2 tyX2_ok nmX2 hown hK hP hD hS 0 rfl rfl 8 (by decide) hm11 (fun _ h9 => h9) rfl (by decide +kernel) rfl rfl (Nat.le_of_ble_eq_true rfl) dX2_flow_35 (fun H locs hP hD hS => ?_)
    obtain ⟨hP, hD⟩ := g_re (ws' := [(h_cv, .inr (2, [.int (bI c_shorted), .int c_range, .int (bI c_over), .int c_plus, .int c_minus, .int c_switched, .long c_charge, .long c_sum, .long (c_flowed + (gMaxL (-22000000 : Int64) (gMinL (22000000 : Int64) p0))), .int c_signAhead, .ref h_cnt])), (h_cnt, .inl (cI, 4, .inl f_cnt))]) rfl hP hD
    refine lv_aload_n hx hb dX2_flow_38 rfl (lv_at hl 1 rfl) ?_
    refine lv_dup hx hb dX2_flow_39 rfl ?_
    refine va_get (D := D) (ci := 2) (v := .long c_charge) (C := RX2) (T := TX2) (N := 11) hx hb hts hi2 hown hK hP 0 rfl rfl 6 (by decide) hm12 (fun _ h9 => h9) rfl dX2_flow_40 ?_
    refine lv_lload hx hb dX2_flow_43 (lv_at hl 0 rfl) ?_
    refine lv_ldc2 hx hb hown hm13 dX2_flow_45 ?_
    refine lv_iload_n hx hb dX2_flow_48 rfl (lv_at hl 3 rfl) ?_
    refine lv_i2l (v := p1.toInt64) hx hb dX2_flow_49 rfl ?_
    refine lv_lmul hx hb dX2_flow_50 ?_
    refine lv_ladd hx hb dX2_flow_51 ?_
    refine lv_ladd hx hb dX2_flow_52 ?_
    refine va_put (D := D) (ci := 2) (v := .long (c_charge + ((gMaxL (-22000000 : Int64) (gMinL (22000000 : Int64) p0)) + ((25600000 : Int64) * p1.toInt64)))) (ty := .long) (C := RX2) (T := TX2) (N := 11) hx hb hts hi2 tyX2 tyX2_ok nmX2 hown hK hP hD hS 0 rfl rfl 6 (by decide) hm12 (fun _ h9 => h9) rfl (by decide +kernel) rfl rfl (Nat.le_of_ble_eq_true rfl) dX2_flow_53 (fun H locs hP hD hS => ?_)
    obtain ⟨hP, hD⟩ := g_re (ws' := [(h_cv, .inr (2, [.int (bI c_shorted), .int c_range, .int (bI c_over), .int c_plus, .int c_minus, .int c_switched, .long (c_charge + ((gMaxL (-22000000 : Int64) (gMinL (22000000 : Int64) p0)) + ((25600000 : Int64) * p1.toInt64))), .long c_sum, .long (c_flowed + (gMaxL (-22000000 : Int64) (gMinL (22000000 : Int64) p0))), .int c_signAhead, .ref h_cnt])), (h_cnt, .inl (cI, 4, .inl f_cnt))]) rfl hP hD
    refine lv_iload_n hx hb dX2_flow_56 rfl (lv_at hl 3 rfl) ?_
    refine gJoinW (α := (Int32 × Int32)) (fun v => [(h_cv, .inr (2, [.int (bI c_shorted), .int c_range, .int (bI c_over), .int v.1, .int v.2, .int c_switched, .long (c_charge + ((gMaxL (-22000000 : Int64) (gMinL (22000000 : Int64) p0)) + ((25600000 : Int64) * p1.toInt64))), .long c_sum, .long (c_flowed + (gMaxL (-22000000 : Int64) (gMinL (22000000 : Int64) p0))), .int c_signAhead, .ref h_cnt])), (h_cnt, .inl (cI, 4, .inl f_cnt))]) (fun v => [(0, .ref h_cv), (3, .int p1)]) 83 (fun v => []) (fun v => True) hF hl hD hP (fun K_14 J_14 hF => ?_) (fun v hj_14 hF => ?_)
    · refine lv_if_le (tgt := 73) hx hb dX2_flow_57 (by decide) (fun c_57_15 => ?_) (fun c_57_15 => ?_)
      · have hF := hF.trans (if_pos c_57_15)
        refine lv_aload_n hx hb dX2_flow_73 rfl (lv_at hl 1 rfl) ?_
        refine lv_dup hx hb dX2_flow_74 rfl ?_
        refine va_get (D := D) (ci := 2) (v := .int c_minus) (C := RX2) (T := TX2) (N := 11) hx hb hts hi2 hown hK hP 0 rfl rfl 4 (by decide) hm15 (fun _ h9 => h9) rfl dX2_flow_75 ?_
        refine lv_iconst (v := 1) hx hb dX2_flow_78 (by decide) ?_
        refine lv_iadd hx hb dX2_flow_79 ?_
        refine va_put (D := D) (ci := 2) (v := .int (c_minus + (1 : Int32))) (ty := .int) (C := RX2) (T := TX2) (N := 11) hx hb hts hi2 tyX2 tyX2_ok nmX2 hown hK hP hD hS 0 rfl rfl 4 (by decide) hm15 (fun _ h9 => h9) rfl (by decide +kernel) rfl rfl (Nat.le_of_ble_eq_true rfl) dX2_flow_80 (fun H locs hP hD hS => ?_)
        obtain ⟨hP, hD⟩ := g_re (ws' := [(h_cv, .inr (2, [.int (bI c_shorted), .int c_range, .int (bI c_over), .int c_plus, .int (c_minus + (1 : Int32)), .int c_switched, .long (c_charge + ((gMaxL (-22000000 : Int64) (gMinL (22000000 : Int64) p0)) + ((25600000 : Int64) * p1.toInt64))), .long c_sum, .long (c_flowed + (gMaxL (-22000000 : Int64) (gMinL (22000000 : Int64) p0))), .int c_signAhead, .ref h_cnt])), (h_cnt, .inl (cI, 4, .inl f_cnt))]) rfl hP hD
        exact J_14 (c_plus, (c_minus + (1 : Int32))) (trivial) hF _ _ _ hP hD hS (lv_sub hl [1, 3] rfl)
      · have hF := hF.trans (if_neg c_57_15)
        refine lv_aload_n hx hb dX2_flow_60 rfl (lv_at hl 1 rfl) ?_
        refine lv_dup hx hb dX2_flow_61 rfl ?_
        refine va_get (D := D) (ci := 2) (v := .int c_plus) (C := RX2) (T := TX2) (N := 11) hx hb hts hi2 hown hK hP 0 rfl rfl 3 (by decide) hm14 (fun _ h9 => h9) rfl dX2_flow_62 ?_
        refine lv_iconst (v := 1) hx hb dX2_flow_65 (by decide) ?_
        refine lv_iadd hx hb dX2_flow_66 ?_
        refine va_put (D := D) (ci := 2) (v := .int (c_plus + (1 : Int32))) (ty := .int) (C := RX2) (T := TX2) (N := 11) hx hb hts hi2 tyX2 tyX2_ok nmX2 hown hK hP hD hS 0 rfl rfl 3 (by decide) hm14 (fun _ h9 => h9) rfl (by decide +kernel) rfl rfl (Nat.le_of_ble_eq_true rfl) dX2_flow_67 (fun H locs hP hD hS => ?_)
        obtain ⟨hP, hD⟩ := g_re (ws' := [(h_cv, .inr (2, [.int (bI c_shorted), .int c_range, .int (bI c_over), .int (c_plus + (1 : Int32)), .int c_minus, .int c_switched, .long (c_charge + ((gMaxL (-22000000 : Int64) (gMinL (22000000 : Int64) p0)) + ((25600000 : Int64) * p1.toInt64))), .long c_sum, .long (c_flowed + (gMaxL (-22000000 : Int64) (gMinL (22000000 : Int64) p0))), .int c_signAhead, .ref h_cnt])), (h_cnt, .inl (cI, 4, .inl f_cnt))]) rfl hP hD
        refine lv_goto (tgt := 83) hx hb dX2_flow_70 (by decide) ?_
        exact J_14 ((c_plus + (1 : Int32)), c_minus) (trivial) hF _ _ _ hP hD hS (lv_sub hl [1, 3] rfl)
    · obtain ⟨cv_plus_14, cv_minus_14⟩ := v
      intro H locs ls hP hD hS hl
      have hF := hF
      try dsimp only at hF
      obtain ⟨hP, hD⟩ := g_re (ws' := [(h_cv, .inr (2, [.int (bI c_shorted), .int c_range, .int (bI c_over), .int cv_plus_14, .int cv_minus_14, .int c_switched, .long (c_charge + ((gMaxL (-22000000 : Int64) (gMinL (22000000 : Int64) p0)) + ((25600000 : Int64) * p1.toInt64))), .long c_sum, .long (c_flowed + (gMaxL (-22000000 : Int64) (gMinL (22000000 : Int64) p0))), .int c_signAhead, .ref h_cnt])), (h_cnt, .inl (cI, 4, .inl f_cnt))]) rfl hP hD
      have hl : lv_has ls 6 [(0, .ref h_cv), (3, .int p1)] := hl
      show W p l e _ s m _ below meth c H locs _ _ _ (F0 m 83 ls [])
      refine lv_aload_n hx hb dX2_flow_83 rfl (lv_at hl 0 rfl) ?_
      refine va_get (D := D) (ci := 2) (v := .int c_signAhead) (C := RX2) (T := TX2) (N := 11) hx hb hts hi2 hown hK hP 0 rfl rfl 9 (by decide) hm16 (fun _ h9 => h9) rfl dX2_flow_84 ?_
      refine lv_if_eq (tgt := 108) hx hb dX2_flow_87 (by decide) (fun c_87_16 => ?_) (fun c_87_16 => ?_)
      · have hF := hF.trans (if_pos c_87_16)
        refine lv_aload_n hx hb dX2_flow_108 rfl (lv_at hl 0 rfl) ?_
        refine lv_iload_n hx hb dX2_flow_109 rfl (lv_at hl 1 rfl) ?_
        refine va_put (D := D) (ci := 2) (v := .int p1) (ty := .int) (C := RX2) (T := TX2) (N := 11) hx hb hts hi2 tyX2 tyX2_ok nmX2 hown hK hP hD hS 0 rfl rfl 9 (by decide) hm16 (fun _ h9 => h9) rfl (by decide +kernel) rfl rfl (Nat.le_of_ble_eq_true rfl) dX2_flow_110 (fun H locs hP hD hS => ?_)
        obtain ⟨hP, hD⟩ := g_re (ws' := [(h_cv, .inr (2, [.int (bI c_shorted), .int c_range, .int (bI c_over), .int cv_plus_14, .int cv_minus_14, .int c_switched, .long (c_charge + ((gMaxL (-22000000 : Int64) (gMinL (22000000 : Int64) p0)) + ((25600000 : Int64) * p1.toInt64))), .long c_sum, .long (c_flowed + (gMaxL (-22000000 : Int64) (gMinL (22000000 : Int64) p0))), .int p1, .ref h_cnt])), (h_cnt, .inl (cI, 4, .inl f_cnt))]) rfl hP hD
        exact g_vret (c_over, cv_plus_14, cv_minus_14, c_switched, (c_charge + ((gMaxL (-22000000 : Int64) (gMinL (22000000 : Int64) p0)) + ((25600000 : Int64) * p1.toInt64))), (c_flowed + (gMaxL (-22000000 : Int64) (gMinL (22000000 : Int64) p0))), p1) hx hb hr hlk hP hK hD hS hF trivial rfl dX2_flow_113
      · have hF := hF.trans (if_neg c_87_16)
        refine lv_aload_n hx hb dX2_flow_90 rfl (lv_at hl 0 rfl) ?_
        refine va_get (D := D) (ci := 2) (v := .int c_signAhead) (C := RX2) (T := TX2) (N := 11) hx hb hts hi2 hown hK hP 0 rfl rfl 9 (by decide) hm16 (fun _ h9 => h9) rfl dX2_flow_91 ?_
        refine lv_iload_n hx hb dX2_flow_94 rfl (lv_at hl 1 rfl) ?_
        refine lv_icmp_eq (tgt := 108) hx hb dX2_flow_95 (by decide) (fun c_95_17 => ?_) (fun c_95_17 => ?_)
        · have hF := hF.trans (if_pos c_95_17)
          refine lv_aload_n hx hb dX2_flow_108 rfl (lv_at hl 0 rfl) ?_
          refine lv_iload_n hx hb dX2_flow_109 rfl (lv_at hl 1 rfl) ?_
          refine va_put (D := D) (ci := 2) (v := .int p1) (ty := .int) (C := RX2) (T := TX2) (N := 11) hx hb hts hi2 tyX2 tyX2_ok nmX2 hown hK hP hD hS 0 rfl rfl 9 (by decide) hm16 (fun _ h9 => h9) rfl (by decide +kernel) rfl rfl (Nat.le_of_ble_eq_true rfl) dX2_flow_110 (fun H locs hP hD hS => ?_)
          obtain ⟨hP, hD⟩ := g_re (ws' := [(h_cv, .inr (2, [.int (bI c_shorted), .int c_range, .int (bI c_over), .int cv_plus_14, .int cv_minus_14, .int c_switched, .long (c_charge + ((gMaxL (-22000000 : Int64) (gMinL (22000000 : Int64) p0)) + ((25600000 : Int64) * p1.toInt64))), .long c_sum, .long (c_flowed + (gMaxL (-22000000 : Int64) (gMinL (22000000 : Int64) p0))), .int p1, .ref h_cnt])), (h_cnt, .inl (cI, 4, .inl f_cnt))]) rfl hP hD
          exact g_vret (c_over, cv_plus_14, cv_minus_14, c_switched, (c_charge + ((gMaxL (-22000000 : Int64) (gMinL (22000000 : Int64) p0)) + ((25600000 : Int64) * p1.toInt64))), (c_flowed + (gMaxL (-22000000 : Int64) (gMinL (22000000 : Int64) p0))), p1) hx hb hr hlk hP hK hD hS hF trivial rfl dX2_flow_113
        · have hF := hF.trans (if_neg c_95_17)
          refine lv_aload_n hx hb dX2_flow_98 rfl (lv_at hl 0 rfl) ?_
          refine lv_dup hx hb dX2_flow_99 rfl ?_
          refine va_get (D := D) (ci := 2) (v := .int c_switched) (C := RX2) (T := TX2) (N := 11) hx hb hts hi2 hown hK hP 0 rfl rfl 5 (by decide) hm17 (fun _ h9 => h9) rfl dX2_flow_100 ?_
          refine lv_iconst (v := 1) hx hb dX2_flow_103 (by decide) ?_
          refine lv_iadd hx hb dX2_flow_104 ?_
          refine va_put (D := D) (ci := 2) (v := .int (c_switched + (1 : Int32))) (ty := .int) (C := RX2) (T := TX2) (N := 11) hx hb hts hi2 tyX2 tyX2_ok nmX2 hown hK hP hD hS 0 rfl rfl 5 (by decide) hm17 (fun _ h9 => h9) rfl (by decide +kernel) rfl rfl (Nat.le_of_ble_eq_true rfl) dX2_flow_105 (fun H locs hP hD hS => ?_)
          obtain ⟨hP, hD⟩ := g_re (ws' := [(h_cv, .inr (2, [.int (bI c_shorted), .int c_range, .int (bI c_over), .int cv_plus_14, .int cv_minus_14, .int (c_switched + (1 : Int32)), .long (c_charge + ((gMaxL (-22000000 : Int64) (gMinL (22000000 : Int64) p0)) + ((25600000 : Int64) * p1.toInt64))), .long c_sum, .long (c_flowed + (gMaxL (-22000000 : Int64) (gMinL (22000000 : Int64) p0))), .int c_signAhead, .ref h_cnt])), (h_cnt, .inl (cI, 4, .inl f_cnt))]) rfl hP hD
          refine lv_aload_n hx hb dX2_flow_108 rfl (lv_at hl 0 rfl) ?_
          refine lv_iload_n hx hb dX2_flow_109 rfl (lv_at hl 1 rfl) ?_
          refine va_put (D := D) (ci := 2) (v := .int p1) (ty := .int) (C := RX2) (T := TX2) (N := 11) hx hb hts hi2 tyX2 tyX2_ok nmX2 hown hK hP hD hS 0 rfl rfl 9 (by decide) hm16 (fun _ h9 => h9) rfl (by decide +kernel) rfl rfl (Nat.le_of_ble_eq_true rfl) dX2_flow_110 (fun H locs hP hD hS => ?_)
          obtain ⟨hP, hD⟩ := g_re (ws' := [(h_cv, .inr (2, [.int (bI c_shorted), .int c_range, .int (bI c_over), .int cv_plus_14, .int cv_minus_14, .int (c_switched + (1 : Int32)), .long (c_charge + ((gMaxL (-22000000 : Int64) (gMinL (22000000 : Int64) p0)) + ((25600000 : Int64) * p1.toInt64))), .long c_sum, .long (c_flowed + (gMaxL (-22000000 : Int64) (gMinL (22000000 : Int64) p0))), .int p1, .ref h_cnt])), (h_cnt, .inl (cI, 4, .inl f_cnt))]) rfl hP hD
          exact g_vret (c_over, cv_plus_14, cv_minus_14, (c_switched + (1 : Int32)), (c_charge + ((gMaxL (-22000000 : Int64) (gMinL (22000000 : Int64) p0)) + ((25600000 : Int64) * p1.toInt64))), (c_flowed + (gMaxL (-22000000 : Int64) (gMinL (22000000 : Int64) p0))), p1) hx hb hr hlk hP hK hD hS hF trivial rfl dX2_flow_113
  · have hF := hF.trans (if_neg c_18_12)
    refine lv_aload_n hx hb dX2_flow_22 rfl (lv_at hl 1 rfl) ?_
    refine lv_iconst (v := 1) hx hb dX2_flow_23 (by decide) ?_
    refine va_put (D := D) (ci := 2) (v := .int (bI true)) (ty := .boolean) (C := RX2) (T := TX2) (N := 11) hx hb hts hi2 tyX2 tyX2_ok nmX2 hown hK hP hD hS 0 rfl rfl 2 (by decide) hm10 (fun _ h9 => h9) rfl (by decide +kernel) (bI_nar true) (bI_fit true) (Nat.le_of_ble_eq_true rfl) dX2_flow_24 (fun H locs hP hD hS => ?_)
    obtain ⟨hP, hD⟩ := g_re (ws' := [(h_cv, .inr (2, [.int (bI c_shorted), .int c_range, .int (bI true), .int c_plus, .int c_minus, .int c_switched, .long c_charge, .long c_sum, .long c_flowed, .int c_signAhead, .ref h_cnt])), (h_cnt, .inl (cI, 4, .inl f_cnt))]) rfl hP hD
    refine lv_aload_n hx hb dX2_flow_27 rfl (lv_at hl 1 rfl) ?_
    refine lv_dup hx hb dX2_flow_28 rfl ?_
    refine va_get (D := D) (ci := 2) (v := .long c_flowed) (C := RX2) (T := TX2) (N := 11) hx hb hts hi2 hown hK hP 0 rfl rfl 8 (by decide) hm11 (fun _ h9 => h9) rfl dX2_flow_29 ?_
    refine lv_lload hx hb dX2_flow_32 (lv_at hl 0 rfl) ?_
    refine lv_ladd hx hb dX2_flow_34 ?_
    refine va_put (D := D) (ci := 2) (v := .long (c_flowed + (gMaxL (-22000000 : Int64) (gMinL (22000000 : Int64) p0)))) (ty := .long) (C := RX2) (T := TX2) (N := 11) hx hb hts hi2 tyX2 tyX2_ok nmX2 hown hK hP hD hS 0 rfl rfl 8 (by decide) hm11 (fun _ h9 => h9) rfl (by decide +kernel) rfl rfl (Nat.le_of_ble_eq_true rfl) dX2_flow_35 (fun H locs hP hD hS => ?_)
    obtain ⟨hP, hD⟩ := g_re (ws' := [(h_cv, .inr (2, [.int (bI c_shorted), .int c_range, .int (bI true), .int c_plus, .int c_minus, .int c_switched, .long c_charge, .long c_sum, .long (c_flowed + (gMaxL (-22000000 : Int64) (gMinL (22000000 : Int64) p0))), .int c_signAhead, .ref h_cnt])), (h_cnt, .inl (cI, 4, .inl f_cnt))]) rfl hP hD
    refine lv_aload_n hx hb dX2_flow_38 rfl (lv_at hl 1 rfl) ?_
    refine lv_dup hx hb dX2_flow_39 rfl ?_
    refine va_get (D := D) (ci := 2) (v := .long c_charge) (C := RX2) (T := TX2) (N := 11) hx hb hts hi2 hown hK hP 0 rfl rfl 6 (by decide) hm12 (fun _ h9 => h9) rfl dX2_flow_40 ?_
    refine lv_lload hx hb dX2_flow_43 (lv_at hl 0 rfl) ?_
    refine lv_ldc2 hx hb hown hm13 dX2_flow_45 ?_
    refine lv_iload_n hx hb dX2_flow_48 rfl (lv_at hl 3 rfl) ?_
    refine lv_i2l (v := p1.toInt64) hx hb dX2_flow_49 rfl ?_
    refine lv_lmul hx hb dX2_flow_50 ?_
    refine lv_ladd hx hb dX2_flow_51 ?_
    refine lv_ladd hx hb dX2_flow_52 ?_
    refine va_put (D := D) (ci := 2) (v := .long (c_charge + ((gMaxL (-22000000 : Int64) (gMinL (22000000 : Int64) p0)) + ((25600000 : Int64) * p1.toInt64)))) (ty := .long) (C := RX2) (T := TX2) (N := 11) hx hb hts hi2 tyX2 tyX2_ok nmX2 hown hK hP hD hS 0 rfl rfl 6 (by decide) hm12 (fun _ h9 => h9) rfl (by decide +kernel) rfl rfl (Nat.le_of_ble_eq_true rfl) dX2_flow_53 (fun H locs hP hD hS => ?_)
    obtain ⟨hP, hD⟩ := g_re (ws' := [(h_cv, .inr (2, [.int (bI c_shorted), .int c_range, .int (bI true), .int c_plus, .int c_minus, .int c_switched, .long (c_charge + ((gMaxL (-22000000 : Int64) (gMinL (22000000 : Int64) p0)) + ((25600000 : Int64) * p1.toInt64))), .long c_sum, .long (c_flowed + (gMaxL (-22000000 : Int64) (gMinL (22000000 : Int64) p0))), .int c_signAhead, .ref h_cnt])), (h_cnt, .inl (cI, 4, .inl f_cnt))]) rfl hP hD
    refine lv_iload_n hx hb dX2_flow_56 rfl (lv_at hl 3 rfl) ?_
    refine gJoinW (α := (Int32 × Int32)) (fun v => [(h_cv, .inr (2, [.int (bI c_shorted), .int c_range, .int (bI true), .int v.1, .int v.2, .int c_switched, .long (c_charge + ((gMaxL (-22000000 : Int64) (gMinL (22000000 : Int64) p0)) + ((25600000 : Int64) * p1.toInt64))), .long c_sum, .long (c_flowed + (gMaxL (-22000000 : Int64) (gMinL (22000000 : Int64) p0))), .int c_signAhead, .ref h_cnt])), (h_cnt, .inl (cI, 4, .inl f_cnt))]) (fun v => [(0, .ref h_cv), (3, .int p1)]) 83 (fun v => []) (fun v => True) hF hl hD hP (fun K_19 J_19 hF => ?_) (fun v hj_19 hF => ?_)
    · refine lv_if_le (tgt := 73) hx hb dX2_flow_57 (by decide) (fun c_57_20 => ?_) (fun c_57_20 => ?_)
      · have hF := hF.trans (if_pos c_57_20)
        refine lv_aload_n hx hb dX2_flow_73 rfl (lv_at hl 1 rfl) ?_
        refine lv_dup hx hb dX2_flow_74 rfl ?_
        refine va_get (D := D) (ci := 2) (v := .int c_minus) (C := RX2) (T := TX2) (N := 11) hx hb hts hi2 hown hK hP 0 rfl rfl 4 (by decide) hm15 (fun _ h9 => h9) rfl dX2_flow_75 ?_
        refine lv_iconst (v := 1) hx hb dX2_flow_78 (by decide) ?_
        refine lv_iadd hx hb dX2_flow_79 ?_
        refine va_put (D := D) (ci := 2) (v := .int (c_minus + (1 : Int32))) (ty := .int) (C := RX2) (T := TX2) (N := 11) hx hb hts hi2 tyX2 tyX2_ok nmX2 hown hK hP hD hS 0 rfl rfl 4 (by decide) hm15 (fun _ h9 => h9) rfl (by decide +kernel) rfl rfl (Nat.le_of_ble_eq_true rfl) dX2_flow_80 (fun H locs hP hD hS => ?_)
        obtain ⟨hP, hD⟩ := g_re (ws' := [(h_cv, .inr (2, [.int (bI c_shorted), .int c_range, .int (bI true), .int c_plus, .int (c_minus + (1 : Int32)), .int c_switched, .long (c_charge + ((gMaxL (-22000000 : Int64) (gMinL (22000000 : Int64) p0)) + ((25600000 : Int64) * p1.toInt64))), .long c_sum, .long (c_flowed + (gMaxL (-22000000 : Int64) (gMinL (22000000 : Int64) p0))), .int c_signAhead, .ref h_cnt])), (h_cnt, .inl (cI, 4, .inl f_cnt))]) rfl hP hD
        exact J_19 (c_plus, (c_minus + (1 : Int32))) (trivial) hF _ _ _ hP hD hS (lv_sub hl [1, 3] rfl)
      · have hF := hF.trans (if_neg c_57_20)
        refine lv_aload_n hx hb dX2_flow_60 rfl (lv_at hl 1 rfl) ?_
        refine lv_dup hx hb dX2_flow_61 rfl ?_
        refine va_get (D := D) (ci := 2) (v := .int c_plus) (C := RX2) (T := TX2) (N := 11) hx hb hts hi2 hown hK hP 0 rfl rfl 3 (by decide) hm14 (fun _ h9 => h9) rfl dX2_flow_62 ?_
        refine lv_iconst (v := 1) hx hb dX2_flow_65 (by decide) ?_
        refine lv_iadd hx hb dX2_flow_66 ?_
        refine va_put (D := D) (ci := 2) (v := .int (c_plus + (1 : Int32))) (ty := .int) (C := RX2) (T := TX2) (N := 11) hx hb hts hi2 tyX2 tyX2_ok nmX2 hown hK hP hD hS 0 rfl rfl 3 (by decide) hm14 (fun _ h9 => h9) rfl (by decide +kernel) rfl rfl (Nat.le_of_ble_eq_true rfl) dX2_flow_67 (fun H locs hP hD hS => ?_)
        obtain ⟨hP, hD⟩ := g_re (ws' := [(h_cv, .inr (2, [.int (bI c_shorted), .int c_range, .int (bI true), .int (c_plus + (1 : Int32)), .int c_minus, .int c_switched, .long (c_charge + ((gMaxL (-22000000 : Int64) (gMinL (22000000 : Int64) p0)) + ((25600000 : Int64) * p1.toInt64))), .long c_sum, .long (c_flowed + (gMaxL (-22000000 : Int64) (gMinL (22000000 : Int64) p0))), .int c_signAhead, .ref h_cnt])), (h_cnt, .inl (cI, 4, .inl f_cnt))]) rfl hP hD
        refine lv_goto (tgt := 83) hx hb dX2_flow_70 (by decide) ?_
        exact J_19 ((c_plus + (1 : Int32)), c_minus) (trivial) hF _ _ _ hP hD hS (lv_sub hl [1, 3] rfl)
    · obtain ⟨cv_plus_19, cv_minus_19⟩ := v
      intro H locs ls hP hD hS hl
      have hF := hF
      try dsimp only at hF
      obtain ⟨hP, hD⟩ := g_re (ws' := [(h_cv, .inr (2, [.int (bI c_shorted), .int c_range, .int (bI true), .int cv_plus_19, .int cv_minus_19, .int c_switched, .long (c_charge + ((gMaxL (-22000000 : Int64) (gMinL (22000000 : Int64) p0)) + ((25600000 : Int64) * p1.toInt64))), .long c_sum, .long (c_flowed + (gMaxL (-22000000 : Int64) (gMinL (22000000 : Int64) p0))), .int c_signAhead, .ref h_cnt])), (h_cnt, .inl (cI, 4, .inl f_cnt))]) rfl hP hD
      have hl : lv_has ls 6 [(0, .ref h_cv), (3, .int p1)] := hl
      show W p l e _ s m _ below meth c H locs _ _ _ (F0 m 83 ls [])
      refine lv_aload_n hx hb dX2_flow_83 rfl (lv_at hl 0 rfl) ?_
      refine va_get (D := D) (ci := 2) (v := .int c_signAhead) (C := RX2) (T := TX2) (N := 11) hx hb hts hi2 hown hK hP 0 rfl rfl 9 (by decide) hm16 (fun _ h9 => h9) rfl dX2_flow_84 ?_
      refine lv_if_eq (tgt := 108) hx hb dX2_flow_87 (by decide) (fun c_87_21 => ?_) (fun c_87_21 => ?_)
      · have hF := hF.trans (if_pos c_87_21)
        refine lv_aload_n hx hb dX2_flow_108 rfl (lv_at hl 0 rfl) ?_
        refine lv_iload_n hx hb dX2_flow_109 rfl (lv_at hl 1 rfl) ?_
        refine va_put (D := D) (ci := 2) (v := .int p1) (ty := .int) (C := RX2) (T := TX2) (N := 11) hx hb hts hi2 tyX2 tyX2_ok nmX2 hown hK hP hD hS 0 rfl rfl 9 (by decide) hm16 (fun _ h9 => h9) rfl (by decide +kernel) rfl rfl (Nat.le_of_ble_eq_true rfl) dX2_flow_110 (fun H locs hP hD hS => ?_)
        obtain ⟨hP, hD⟩ := g_re (ws' := [(h_cv, .inr (2, [.int (bI c_shorted), .int c_range, .int (bI true), .int cv_plus_19, .int cv_minus_19, .int c_switched, .long (c_charge + ((gMaxL (-22000000 : Int64) (gMinL (22000000 : Int64) p0)) + ((25600000 : Int64) * p1.toInt64))), .long c_sum, .long (c_flowed + (gMaxL (-22000000 : Int64) (gMinL (22000000 : Int64) p0))), .int p1, .ref h_cnt])), (h_cnt, .inl (cI, 4, .inl f_cnt))]) rfl hP hD
        exact g_vret (true, cv_plus_19, cv_minus_19, c_switched, (c_charge + ((gMaxL (-22000000 : Int64) (gMinL (22000000 : Int64) p0)) + ((25600000 : Int64) * p1.toInt64))), (c_flowed + (gMaxL (-22000000 : Int64) (gMinL (22000000 : Int64) p0))), p1) hx hb hr hlk hP hK hD hS hF trivial rfl dX2_flow_113
      · have hF := hF.trans (if_neg c_87_21)
        refine lv_aload_n hx hb dX2_flow_90 rfl (lv_at hl 0 rfl) ?_
        refine va_get (D := D) (ci := 2) (v := .int c_signAhead) (C := RX2) (T := TX2) (N := 11) hx hb hts hi2 hown hK hP 0 rfl rfl 9 (by decide) hm16 (fun _ h9 => h9) rfl dX2_flow_91 ?_
        refine lv_iload_n hx hb dX2_flow_94 rfl (lv_at hl 1 rfl) ?_
        refine lv_icmp_eq (tgt := 108) hx hb dX2_flow_95 (by decide) (fun c_95_22 => ?_) (fun c_95_22 => ?_)
        · have hF := hF.trans (if_pos c_95_22)
          refine lv_aload_n hx hb dX2_flow_108 rfl (lv_at hl 0 rfl) ?_
          refine lv_iload_n hx hb dX2_flow_109 rfl (lv_at hl 1 rfl) ?_
          refine va_put (D := D) (ci := 2) (v := .int p1) (ty := .int) (C := RX2) (T := TX2) (N := 11) hx hb hts hi2 tyX2 tyX2_ok nmX2 hown hK hP hD hS 0 rfl rfl 9 (by decide) hm16 (fun _ h9 => h9) rfl (by decide +kernel) rfl rfl (Nat.le_of_ble_eq_true rfl) dX2_flow_110 (fun H locs hP hD hS => ?_)
          obtain ⟨hP, hD⟩ := g_re (ws' := [(h_cv, .inr (2, [.int (bI c_shorted), .int c_range, .int (bI true), .int cv_plus_19, .int cv_minus_19, .int c_switched, .long (c_charge + ((gMaxL (-22000000 : Int64) (gMinL (22000000 : Int64) p0)) + ((25600000 : Int64) * p1.toInt64))), .long c_sum, .long (c_flowed + (gMaxL (-22000000 : Int64) (gMinL (22000000 : Int64) p0))), .int p1, .ref h_cnt])), (h_cnt, .inl (cI, 4, .inl f_cnt))]) rfl hP hD
          exact g_vret (true, cv_plus_19, cv_minus_19, c_switched, (c_charge + ((gMaxL (-22000000 : Int64) (gMinL (22000000 : Int64) p0)) + ((25600000 : Int64) * p1.toInt64))), (c_flowed + (gMaxL (-22000000 : Int64) (gMinL (22000000 : Int64) p0))), p1) hx hb hr hlk hP hK hD hS hF trivial rfl dX2_flow_113
        · have hF := hF.trans (if_neg c_95_22)
          refine lv_aload_n hx hb dX2_flow_98 rfl (lv_at hl 0 rfl) ?_
          refine lv_dup hx hb dX2_flow_99 rfl ?_
          refine va_get (D := D) (ci := 2) (v := .int c_switched) (C := RX2) (T := TX2) (N := 11) hx hb hts hi2 hown hK hP 0 rfl rfl 5 (by decide) hm17 (fun _ h9 => h9) rfl dX2_flow_100 ?_
          refine lv_iconst (v := 1) hx hb dX2_flow_103 (by decide) ?_
          refine lv_iadd hx hb dX2_flow_104 ?_
          refine va_put (D := D) (ci := 2) (v := .int (c_switched + (1 : Int32))) (ty := .int) (C := RX2) (T := TX2) (N := 11) hx hb hts hi2 tyX2 tyX2_ok nmX2 hown hK hP hD hS 0 rfl rfl 5 (by decide) hm17 (fun _ h9 => h9) rfl (by decide +kernel) rfl rfl (Nat.le_of_ble_eq_true rfl) dX2_flow_105 (fun H locs hP hD hS => ?_)
          obtain ⟨hP, hD⟩ := g_re (ws' := [(h_cv, .inr (2, [.int (bI c_shorted), .int c_range, .int (bI true), .int cv_plus_19, .int cv_minus_19, .int (c_switched + (1 : Int32)), .long (c_charge + ((gMaxL (-22000000 : Int64) (gMinL (22000000 : Int64) p0)) + ((25600000 : Int64) * p1.toInt64))), .long c_sum, .long (c_flowed + (gMaxL (-22000000 : Int64) (gMinL (22000000 : Int64) p0))), .int c_signAhead, .ref h_cnt])), (h_cnt, .inl (cI, 4, .inl f_cnt))]) rfl hP hD
          refine lv_aload_n hx hb dX2_flow_108 rfl (lv_at hl 0 rfl) ?_
          refine lv_iload_n hx hb dX2_flow_109 rfl (lv_at hl 1 rfl) ?_
          refine va_put (D := D) (ci := 2) (v := .int p1) (ty := .int) (C := RX2) (T := TX2) (N := 11) hx hb hts hi2 tyX2 tyX2_ok nmX2 hown hK hP hD hS 0 rfl rfl 9 (by decide) hm16 (fun _ h9 => h9) rfl (by decide +kernel) rfl rfl (Nat.le_of_ble_eq_true rfl) dX2_flow_110 (fun H locs hP hD hS => ?_)
          obtain ⟨hP, hD⟩ := g_re (ws' := [(h_cv, .inr (2, [.int (bI c_shorted), .int c_range, .int (bI true), .int cv_plus_19, .int cv_minus_19, .int (c_switched + (1 : Int32)), .long (c_charge + ((gMaxL (-22000000 : Int64) (gMinL (22000000 : Int64) p0)) + ((25600000 : Int64) * p1.toInt64))), .long c_sum, .long (c_flowed + (gMaxL (-22000000 : Int64) (gMinL (22000000 : Int64) p0))), .int p1, .ref h_cnt])), (h_cnt, .inl (cI, 4, .inl f_cnt))]) rfl hP hD
          exact g_vret (true, cv_plus_19, cv_minus_19, (c_switched + (1 : Int32)), (c_charge + ((gMaxL (-22000000 : Int64) (gMinL (22000000 : Int64) p0)) + ((25600000 : Int64) * p1.toInt64))), (c_flowed + (gMaxL (-22000000 : Int64) (gMinL (22000000 : Int64) p0))), p1) hx hb hr hlk hP hK hD hS hF trivial rfl dX2_flow_113

noncomputable def f_X2_stepsOf (c_charge : Int64) (p0 : Int64) : (Int64 × Unit) := (if p0 ≤ (0 : Int64) then ((0 : Int64), ()) else (((((gAbsL c_charge) + p0) - (1 : Int64)) / p0), ()))
set_option maxHeartbeats 4000000 in
set_option maxRecDepth 100000 in
theorem c_X2_stepsOf (l : Launch) (D : va_G) (cI cJ : ClassId) (h_cv h_cnt : Nat) (sz : Nat) (c_shorted : Bool) (c_range : Int32) (c_over : Bool) (c_plus : Int32) (c_minus : Int32) (c_switched : Int32) (c_charge : Int64) (c_sum : Int64) (c_flowed : Int64) (c_signAhead : Int32) (f_cnt : Nat → Int32) (p0 : Int64) : Met l yX2_stepsOf wsX2_stepsOf ({ frames := 1, cells := 0, slots := 0, locals := 13 }) (gPc D cI cJ [.ref h_cv, .long p0] [(h_cv, .inr (2, [.int (bI c_shorted), .int c_range, .int (bI c_over), .int c_plus, .int c_minus, .int c_switched, .long c_charge, .long c_sum, .long c_flowed, .int c_signAhead, .ref h_cnt])), (h_cnt, .inl (cI, 4, .inl f_cnt))] sz) (gQl D cI cJ (f_X2_stepsOf c_charge p0) (fun _ _ => True) (fun _ : Unit => [(h_cv, .inr (2, [.int (bI c_shorted), .int c_range, .int (bI c_over), .int c_plus, .int c_minus, .int c_switched, .long c_charge, .long c_sum, .long c_flowed, .int c_signAhead, .ref h_cnt])), (h_cnt, .inl (cI, 4, .inl f_cnt))]) (va_A [(h_cv, .inr (2, [.int (bI c_shorted), .int c_range, .int (bI c_over), .int c_plus, .int c_minus, .int c_switched, .long c_charge, .long c_sum, .long c_flowed, .int c_signAhead, .ref h_cnt])), (h_cnt, .inl (cI, 4, .inl f_cnt))] sz)) 0 0 (va_A [(h_cv, .inr (2, [.int (bI c_shorted), .int c_range, .int (bI c_over), .int c_plus, .int c_minus, .int c_switched, .long c_charge, .long c_sum, .long c_flowed, .int c_signAhead, .ref h_cnt])), (h_cnt, .inl (cI, 4, .inl f_cnt))] sz) := by
  refine g_met (cc := cX2_stepsOf) (maxL := 3) (ret := (some .long)) (Qc := gQl D cI cJ (f_X2_stepsOf c_charge p0) _ _) (by decide) rfl (Nat.le_of_ble_eq_true rfl) ?_
  intro A p e s m below meth c hx hb hr hml hts hown hlk hnm hP hK hD hE hA hS ls hl
  have hown : s.vm.findClass RX2 = some m.cls := hown
  have hl : lv_has ls 3 [(0, .ref h_cv), (1, .long p0)] := hl
  have hi2 : ∀ w ∈ u_ws RX2 TX2 11, w ∈ wsX2_stepsOf := fun w h9 => List.mem_cons_of_mem _ (List.mem_append_right _ h9)
  have hm1 := hts (.fieldLink RX2 31 "VoltSlopes$Conversion" "charge" "J") (List.mem_of_getElem? (i := 1) rfl)
  have hm2 := hts (.methodLink RX2 71 Lib.MathLoose.abs_long.x) (List.mem_of_getElem? (i := 2) rfl)
  have hm3 := hts (.static Lib.MathLoose.abs_long.x) (List.mem_of_getElem? (i := 3) rfl)
  have hm4 := hts (.initialized "java/lang/Math") (List.mem_of_getElem? (i := 4) rfl)
  have hm5 := hts (.code Lib.MathLoose.abs_long.x Lib.MathLoose.abs_long.code 2 (some .long)) (List.mem_of_getElem? (i := 5) rfl)
  have hF := f_X2_stepsOf.eq_1 c_charge p0
  refine lv_lload_n hx hb dX2_stepsOf_0 rfl (lv_at hl 1 rfl) ?_
  refine lv_lconst (v := 0) hx hb dX2_stepsOf_1 (by decide) ?_
  refine g_l_le (tgt := 22) hx hb dX2_stepsOf_2 dX2_stepsOf_3 (by decide) (fun c_2_2 => ?_) (fun c_2_2 => ?_)
  · have hF := hF.trans (if_pos c_2_2)
    refine lv_lconst (v := 0) hx hb dX2_stepsOf_22 (by decide) ?_
    exact g_lret () hx hb hr hlk hP hK hD hS hF trivial rfl dX2_stepsOf_23
  · have hF := hF.trans (if_neg c_2_2)
    refine lv_aload_n hx hb dX2_stepsOf_6 rfl (lv_at hl 0 rfl) ?_
    refine va_get (D := D) (ci := 2) (v := .long c_charge) (C := RX2) (T := TX2) (N := 11) hx hb hts hi2 hown hK hP 0 rfl rfl 6 (by decide) hm1 (fun _ h9 => h9) rfl dX2_stepsOf_7 ?_
    refine va_mabs_long hx hb (by rw [hml]; exact hl.1.symm) hown hm2 hm3 hm4 hm5 (Nat.le_of_ble_eq_true rfl) (Nat.le_of_ble_eq_true rfl) (Nat.zero_le _) (Nat.zero_le _) dX2_stepsOf_10 ?_
    refine W.eq (g2 := F0 m 13 ls [.long (gAbsL c_charge)]) rfl ?_
    refine lv_lload_n hx hb dX2_stepsOf_13 rfl (lv_at hl 1 rfl) ?_
    refine lv_ladd hx hb dX2_stepsOf_14 ?_
    refine lv_lconst (v := 1) hx hb dX2_stepsOf_15 (by decide) ?_
    refine lv_lsub hx hb dX2_stepsOf_16 ?_
    refine lv_lload_n hx hb dX2_stepsOf_17 rfl (lv_at hl 1 rfl) ?_
    refine lv_ldiv hx hb dX2_stepsOf_18 (ne_nle (by with_reducible assumption)) ?_
    refine lv_goto (tgt := 23) hx hb dX2_stepsOf_19 (by decide) ?_
    exact g_lret () hx hb hr hlk hP hK hD hS hF trivial rfl dX2_stepsOf_23

noncomputable def f_X2_runDown_L23  (K : (Int64 × Int64 × Int64 × (Nat → Int32)) → (Int64 × (Int64 × Int64 × (Nat → Int32)))) : Nat → (Int64 × Int32 × Int64 × Int64 × (Nat → Int32)) → (Int64 × (Int64 × Int64 × (Nat → Int32)))
  | 0, _ => K default
  | n + 1, (l1_11, l3_11, cv_charge_11, cv_sum_11, f_cnt_11) => (if (4 : Int32) ≤ l3_11 then (K (l1_11, cv_charge_11, cv_sum_11, f_cnt_11)) else (if (4 : Int32) ≤ l3_11 then (K (l1_11, cv_charge_11, cv_sum_11, f_cnt_11)) else (match (f_X2_stepsOf cv_charge_11 (gSlopeL l3_11.toNatClampNeg)) with | (r_50_15, _) => (if cv_charge_11 ≤ (0 : Int64) then (f_X2_runDown_L23 K n ((l1_11 + r_50_15), (l3_11 + 1), (cv_charge_11 + (r_50_15 * (gSlopeL l3_11.toNatClampNeg))), (cv_sum_11 - (r_50_15 * (gSlopeL l3_11.toNatClampNeg))), (upd f_cnt_11 l3_11.toNatClampNeg r_50_15.toInt32))) else (f_X2_runDown_L23 K n ((l1_11 + r_50_15), (l3_11 + 1), (cv_charge_11 + ((-r_50_15) * (gSlopeL l3_11.toNatClampNeg))), (cv_sum_11 - ((-r_50_15) * (gSlopeL l3_11.toNatClampNeg))), (upd f_cnt_11 l3_11.toNatClampNeg (-r_50_15).toInt32)))))))
noncomputable def f_X2_runDown (c_plus : Int32) (c_minus : Int32) (c_charge : Int64) (f_cnt : Nat → Int32) : (Int64 × (Int64 × Int64 × (Nat → Int32))) := (f_X2_runDown_L23 (fun q_12 => match q_12 with | (l1_12, cv_charge_12, cv_sum_12, f_cnt_12) => (l1_12, (cv_charge_12, cv_sum_12, f_cnt_12))) (5) ((0 : Int64), (0 : Int32), c_charge, ((-(c_plus - c_minus)).toInt64 * (25600000 : Int64)), f_cnt))
set_option maxHeartbeats 4000000 in
set_option maxRecDepth 100000 in
theorem c_X2_runDown (l : Launch) (D : va_G) (cI cJ : ClassId) (h_cv h_cnt : Nat) (sz : Nat) (c_shorted : Bool) (c_range : Int32) (c_over : Bool) (c_plus : Int32) (c_minus : Int32) (c_switched : Int32) (c_charge : Int64) (c_sum : Int64) (c_flowed : Int64) (c_signAhead : Int32) (f_cnt : Nat → Int32) : Met l yX2_runDown wsX2_runDown ({ frames := 2, cells := 0, slots := 0, locals := 35 }) (gPc D cI cJ [.ref h_cv] [(h_cv, .inr (2, [.int (bI c_shorted), .int c_range, .int (bI c_over), .int c_plus, .int c_minus, .int c_switched, .long c_charge, .long c_sum, .long c_flowed, .int c_signAhead, .ref h_cnt])), (h_cnt, .inl (cI, 4, .inl f_cnt))] sz) (gQl D cI cJ (f_X2_runDown c_plus c_minus c_charge f_cnt) (fun _ _ => True) (fun u : (Int64 × Int64 × (Nat → Int32)) => [(h_cv, .inr (2, [.int (bI c_shorted), .int c_range, .int (bI c_over), .int c_plus, .int c_minus, .int c_switched, .long u.1, .long u.2.1, .long c_flowed, .int c_signAhead, .ref h_cnt])), (h_cnt, .inl (cI, 4, .inl u.2.2))]) (va_A [(h_cv, .inr (2, [.int (bI c_shorted), .int c_range, .int (bI c_over), .int c_plus, .int c_minus, .int c_switched, .long c_charge, .long c_sum, .long c_flowed, .int c_signAhead, .ref h_cnt])), (h_cnt, .inl (cI, 4, .inl f_cnt))] sz)) 0 0 (va_A [(h_cv, .inr (2, [.int (bI c_shorted), .int c_range, .int (bI c_over), .int c_plus, .int c_minus, .int c_switched, .long c_charge, .long c_sum, .long c_flowed, .int c_signAhead, .ref h_cnt])), (h_cnt, .inl (cI, 4, .inl f_cnt))] sz) := by
  refine g_met (cc := cX2_runDown) (maxL := 10) (ret := (some .long)) (Qc := gQl D cI cJ (f_X2_runDown c_plus c_minus c_charge f_cnt) _ _) (by decide) rfl (Nat.le_of_ble_eq_true rfl) ?_
  intro A p e s m below meth c hx hb hr hml hts hown hlk hnm hP hK hD hE hA hS ls hl
  have hown : s.vm.findClass RX2 = some m.cls := hown
  have hl : lv_has ls 10 [(0, .ref h_cv)] := hl
  have hi2 : ∀ w ∈ u_ws RX2 TX2 11, w ∈ wsX2_runDown := fun w h9 => List.mem_cons_of_mem _ (List.mem_append_right _ h9)
  have hm1 := hts (.fieldLink RX2 22 "VoltSlopes$Conversion" "plus" "I") (List.mem_of_getElem? (i := 1) rfl)
  have hm2 := hts (.fieldLink RX2 25 "VoltSlopes$Conversion" "minus" "I") (List.mem_of_getElem? (i := 2) rfl)
  have hm3 := hts (.constantLong RX2 61 (25600000)) (List.mem_of_getElem? (i := 3) rfl)
  have hm4 := hts (.fieldLink RX2 35 "VoltSlopes$Conversion" "sum" "J") (List.mem_of_getElem? (i := 4) rfl)
  have hm5 := hts (.fieldLink RX2 44 "VoltSlopes$Conversion" "slopeCounts" "[I") (List.mem_of_getElem? (i := 5) rfl)
  have hm6 := hts (.fieldLink RX2 31 "VoltSlopes$Conversion" "charge" "J") (List.mem_of_getElem? (i := 6) rfl)
  obtain ⟨t_SINE, t_SLOPES, hZ_SINE, hT_SINE, hZ_SLOPES, hT_SLOPES⟩ := hE.2
  have hF := f_X2_runDown.eq_1 c_plus c_minus c_charge f_cnt
  refine lv_lconst (v := 0) hx hb dX2_runDown_0 (by decide) ?_
  refine lv_lstore_n (lv' := [(1, .long (0 : Int64)), (0, .ref h_cv)]) hx hb dX2_runDown_1 rfl hl (by decide) rfl (fun ls hl => ?_)
  refine lv_aload_n hx hb dX2_runDown_2 rfl (lv_at hl 1 rfl) ?_
  refine lv_aload_n hx hb dX2_runDown_3 rfl (lv_at hl 1 rfl) ?_
  refine va_get (D := D) (ci := 2) (v := .int c_plus) (C := RX2) (T := TX2) (N := 11) hx hb hts hi2 hown hK hP 0 rfl rfl 3 (by decide) hm1 (fun _ h9 => h9) rfl dX2_runDown_4 ?_
  refine lv_aload_n hx hb dX2_runDown_7 rfl (lv_at hl 1 rfl) ?_
  refine va_get (D := D) (ci := 2) (v := .int c_minus) (C := RX2) (T := TX2) (N := 11) hx hb hts hi2 hown hK hP 0 rfl rfl 4 (by decide) hm2 (fun _ h9 => h9) rfl dX2_runDown_8 ?_
  refine lv_isub hx hb dX2_runDown_11 ?_
  refine lv_ineg hx hb dX2_runDown_12 ?_
  refine lv_i2l (v := (-(c_plus - c_minus)).toInt64) hx hb dX2_runDown_13 rfl ?_
  refine lv_ldc2 hx hb hown hm3 dX2_runDown_14 ?_
  refine lv_lmul hx hb dX2_runDown_17 ?_
  refine va_put (D := D) (ci := 2) (v := .long ((-(c_plus - c_minus)).toInt64 * (25600000 : Int64))) (ty := .long) (C := RX2) (T := TX2) (N := 11) hx hb hts hi2 tyX2 tyX2_ok nmX2 hown hK hP hD hS 0 rfl rfl 7 (by decide) hm4 (fun _ h9 => h9) rfl (by decide +kernel) rfl rfl (Nat.le_of_ble_eq_true rfl) dX2_runDown_18 (fun H locs hP hD hS => ?_)
  obtain ⟨hP, hD⟩ := g_re (ws' := [(h_cv, .inr (2, [.int (bI c_shorted), .int c_range, .int (bI c_over), .int c_plus, .int c_minus, .int c_switched, .long c_charge, .long ((-(c_plus - c_minus)).toInt64 * (25600000 : Int64)), .long c_flowed, .int c_signAhead, .ref h_cnt])), (h_cnt, .inl (cI, 4, .inl f_cnt))]) rfl hP hD
  refine lv_iconst (v := 0) hx hb dX2_runDown_21 (by decide) ?_
  refine lv_istore_n (lv' := [(3, .int (0 : Int32)), (1, .long (0 : Int64)), (0, .ref h_cv)]) hx hb dX2_runDown_22 rfl hl (by decide) rfl (fun ls hl => ?_)
  refine gLoopW (f := f_X2_runDown_L23) (α := (Int64 × Int32 × Int64 × Int64 × (Nat → Int32))) (β := (Int64 × Int64 × Int64 × (Nat → Int32))) (fun v => [(h_cv, .inr (2, [.int (bI c_shorted), .int c_range, .int (bI c_over), .int c_plus, .int c_minus, .int c_switched, .long v.2.2.1, .long v.2.2.2.1, .long c_flowed, .int c_signAhead, .ref h_cnt])), (h_cnt, .inl (cI, 4, .inl v.2.2.2.2))]) (fun v => [(0, .ref h_cv), (1, .long v.1), (3, .int v.2.1)]) 23 (fun v => [(h_cv, .inr (2, [.int (bI c_shorted), .int c_range, .int (bI c_over), .int c_plus, .int c_minus, .int c_switched, .long v.2.1, .long v.2.2.1, .long c_flowed, .int c_signAhead, .ref h_cnt])), (h_cnt, .inl (cI, 4, .inl v.2.2.2))]) (fun v => [(1, .long v.1)]) 122 (fun v => True) (fun v => 0 ≤ (v.2.1).toInt) (fun v => (4 - (v.2.1).toInt).toNat) (a0 := ((0 : Int64), (0 : Int32), c_charge, ((-(c_plus - c_minus)).toInt64 * (25600000 : Int64)), f_cnt)) hF (by show 0 ≤ (((0 : Int32))).toInt; have h7 : (0 : Int32).toInt = 0 := (by decide); omega) (by show (4 - (((0 : Int32))).toInt).toNat < 5; have h7 : (0 : Int32).toInt = 0 := (by decide); omega) hP hD hS (lv_sub hl [2, 1, 0] rfl) (fun v hxi_11 hF => ?_) (fun K_11 n JX_11 IH_11 v hi_11 hmu_11 hF => ?_)
  · obtain ⟨l1_12, cv_charge_12, cv_sum_12, f_cnt_12⟩ := v
    intro H locs ls hP hD hS hl
    have hF := hF
    try dsimp only at hF
    obtain ⟨hP, hD⟩ := g_re (ws' := [(h_cv, .inr (2, [.int (bI c_shorted), .int c_range, .int (bI c_over), .int c_plus, .int c_minus, .int c_switched, .long cv_charge_12, .long cv_sum_12, .long c_flowed, .int c_signAhead, .ref h_cnt])), (h_cnt, .inl (cI, 4, .inl f_cnt_12))]) rfl hP hD
    have hl : lv_has ls 10 [(1, .long l1_12)] := hl
    show W p l e _ s m _ below meth c H locs _ _ _ (F0 m 122 ls [])
    refine lv_lload_n hx hb dX2_runDown_122 rfl (lv_at hl 0 rfl) ?_
    exact g_lret (cv_charge_12, cv_sum_12, f_cnt_12) hx hb hr hlk hP hK hD hS hF trivial rfl dX2_runDown_123
  · obtain ⟨l1_11, l3_11, cv_charge_11, cv_sum_11, f_cnt_11⟩ := v
    intro H locs ls hP hD hS hl
    have hF := hF
    rw [f_X2_runDown_L23] at hF
    obtain ⟨hP, hD⟩ := g_re (ws' := [(h_cv, .inr (2, [.int (bI c_shorted), .int c_range, .int (bI c_over), .int c_plus, .int c_minus, .int c_switched, .long cv_charge_11, .long cv_sum_11, .long c_flowed, .int c_signAhead, .ref h_cnt])), (h_cnt, .inl (cI, 4, .inl f_cnt_11))]) rfl hP hD
    have hl : lv_has ls 10 [(0, .ref h_cv), (1, .long l1_11), (3, .int l3_11)] := hl
    show W p l e _ s m _ below meth c H locs _ _ _ (F0 m 23 ls [])
    have hi_11 : 0 ≤ (l3_11).toInt := hi_11
    have hmu_11 : (4 - (l3_11).toInt).toNat < n + 1 := hmu_11
    refine lv_iload_n hx hb dX2_runDown_23 rfl (lv_at hl 2 rfl) ?_
    refine va_getsN (host := RX9) hx hb hZ_SLOPES hS hown (va_Nw.use rfl (hE.1 (.fieldLinkNest RX2 63 RX9 "SLOPES" "[J" RX9) (List.mem_of_getElem? (i := 12) rfl))) (fun _ h9 => h9) dX2_runDown_24 ?_
    refine va_tlen (v := 4) hx hb hT_SLOPES hS (by decide) dX2_runDown_27 ?_
    refine lv_icmp_ge (tgt := 122) hx hb dX2_runDown_28 (by decide) (fun c_28_13 => ?_) (fun c_28_13 => ?_)
    · have hF := hF.trans (if_pos c_28_13)
      have i_28_13 : 4 ≤ l3_11.toInt := gi_le c_28_13 (by decide) rfl
      exact JX_11 (l1_11, cv_charge_11, cv_sum_11, f_cnt_11) (trivial) hF _ _ _ hP hD hS (lv_sub hl [1] rfl)
    · have hF := hF.trans (if_neg c_28_13)
      have i_28_13 : l3_11.toInt < 4 := gi_nle c_28_13 (by decide) rfl
      refine lv_iload_n hx hb dX2_runDown_31 rfl (lv_at hl 2 rfl) ?_
      refine lv_aload_n hx hb dX2_runDown_32 rfl (lv_at hl 0 rfl) ?_
      refine va_get (D := D) (ci := 2) (v := .ref h_cnt) (C := RX2) (T := TX2) (N := 11) hx hb hts hi2 hown hK hP 0 rfl rfl 10 (by decide) hm5 (fun _ h9 => h9) rfl dX2_runDown_33 ?_
      refine va_alen (v := 4) hx hb hK hP 1 0 rfl rfl rfl dX2_runDown_36 ?_
      refine lv_icmp_ge (tgt := 122) hx hb dX2_runDown_37 (by decide) (fun c_37_14 => ?_) (fun c_37_14 => ?_)
      · have hF := hF.trans (if_pos c_37_14)
        have i_37_14 : 4 ≤ l3_11.toInt := gi_le c_37_14 (by decide) rfl
        exact JX_11 (l1_11, cv_charge_11, cv_sum_11, f_cnt_11) (trivial) hF _ _ _ hP hD hS (lv_sub hl [1] rfl)
      · have hF := hF.trans (if_neg c_37_14)
        have i_37_14 : l3_11.toInt < 4 := gi_nle c_37_14 (by decide) rfl
        refine va_getsN (host := RX9) hx hb hZ_SLOPES hS hown (va_Nw.use rfl (hE.1 (.fieldLinkNest RX2 63 RX9 "SLOPES" "[J" RX9) (List.mem_of_getElem? (i := 12) rfl))) (fun _ h9 => h9) dX2_runDown_40 ?_
        refine lv_iload_n hx hb dX2_runDown_43 rfl (lv_at hl 2 rfl) ?_
        refine va_tl (v := .long (gSlopeL l3_11.toNatClampNeg)) hx hb hT_SLOPES hS (gi_in ⟨by omega, by omega⟩) rfl dX2_runDown_44 ?_
        refine lv_lstore (lv' := [(4, .long (gSlopeL l3_11.toNatClampNeg)), (0, .ref h_cv), (1, .long l1_11), (3, .int l3_11)]) hx hb dX2_runDown_45 hl (by decide) rfl (fun ls hl => ?_)
        refine lv_aload_n hx hb dX2_runDown_47 rfl (lv_at hl 1 rfl) ?_
        refine lv_lload hx hb dX2_runDown_48 (lv_at hl 0 rfl) ?_
        refine g_cvl (rest := []) ⟨hx, hb, hml, hown, hts⟩ hP hD hK hS hA hE (c_X2_stepsOf l D cI cJ h_cv h_cnt H.size c_shorted c_range c_over c_plus c_minus c_switched cv_charge_11 cv_sum_11 c_flowed c_signAhead f_cnt_11 (gSlopeL l3_11.toNatClampNeg)) (cwV 1 hts gX2_runDown_X2_stepsOf rfl rfl rfl (by decide +kernel) ⟨Nat.le_of_ble_eq_true rfl, Nat.le_of_ble_eq_true rfl⟩) [0, 1] [] rfl rfl rfl rfl rfl 2 0 rfl rfl rfl hl rfl (Nat.le_of_ble_eq_true rfl) ⟨Nat.zero_le _, Nat.zero_le _⟩ dX2_runDown_50 (fun r_50_15 u_15 H locs hw_15 hx_15 hP hD hS => ?_)
        obtain ⟨hP, hD⟩ := g_re (ws' := [(h_cv, .inr (2, [.int (bI c_shorted), .int c_range, .int (bI c_over), .int c_plus, .int c_minus, .int c_switched, .long cv_charge_11, .long cv_sum_11, .long c_flowed, .int c_signAhead, .ref h_cnt])), (h_cnt, .inl (cI, 4, .inl f_cnt_11))]) rfl hP hD
        have hF := hF
        rw [hw_15] at hF
        try dsimp only at hF
        refine lv_lstore (lv' := [(6, .long r_50_15), (4, .long (gSlopeL l3_11.toNatClampNeg)), (0, .ref h_cv), (1, .long l1_11), (3, .int l3_11)]) hx hb dX2_runDown_53 hl (by decide) rfl (fun ls hl => ?_)
        refine lv_aload_n hx hb dX2_runDown_55 rfl (lv_at hl 2 rfl) ?_
        refine va_get (D := D) (ci := 2) (v := .long cv_charge_11) (C := RX2) (T := TX2) (N := 11) hx hb hts hi2 hown hK hP 0 rfl rfl 6 (by decide) hm6 (fun _ h9 => h9) rfl dX2_runDown_56 ?_
        refine lv_lconst (v := 0) hx hb dX2_runDown_59 (by decide) ?_
        refine g_l_le (tgt := 70) hx hb dX2_runDown_60 dX2_runDown_61 (by decide) (fun c_60_17 => ?_) (fun c_60_17 => ?_)
        · have hF := hF.trans (if_pos c_60_17)
          refine lv_lload hx hb dX2_runDown_70 (lv_at hl 0 rfl) ?_
          refine lv_lstore (lv' := [(8, .long r_50_15), (6, .long r_50_15), (4, .long (gSlopeL l3_11.toNatClampNeg)), (0, .ref h_cv), (1, .long l1_11), (3, .int l3_11)]) hx hb dX2_runDown_72 hl (by decide) rfl (fun ls hl => ?_)
          refine lv_aload_n hx hb dX2_runDown_74 rfl (lv_at hl 3 rfl) ?_
          refine va_get (D := D) (ci := 2) (v := .ref h_cnt) (C := RX2) (T := TX2) (N := 11) hx hb hts hi2 hown hK hP 0 rfl rfl 10 (by decide) hm5 (fun _ h9 => h9) rfl dX2_runDown_75 ?_
          refine lv_iload_n hx hb dX2_runDown_78 rfl (lv_at hl 5 rfl) ?_
          refine lv_lload hx hb dX2_runDown_79 (lv_at hl 0 rfl) ?_
          refine lv_l2i (v := r_50_15.toInt32) hx hb dX2_runDown_81 rfl ?_
          refine va_iast hx hb hK hP hD hS 1 0 rfl rfl (gi_in ⟨by omega, by omega⟩) dX2_runDown_82 (fun H locs hP hD hS => ?_)
          obtain ⟨hP, hD⟩ := g_re (ws' := [(h_cv, .inr (2, [.int (bI c_shorted), .int c_range, .int (bI c_over), .int c_plus, .int c_minus, .int c_switched, .long cv_charge_11, .long cv_sum_11, .long c_flowed, .int c_signAhead, .ref h_cnt])), (h_cnt, .inl (cI, 4, .inl (upd f_cnt_11 l3_11.toNatClampNeg r_50_15.toInt32)))]) rfl hP hD
          refine lv_aload_n hx hb dX2_runDown_83 rfl (lv_at hl 3 rfl) ?_
          refine lv_dup hx hb dX2_runDown_84 rfl ?_
          refine va_get (D := D) (ci := 2) (v := .long cv_charge_11) (C := RX2) (T := TX2) (N := 11) hx hb hts hi2 hown hK hP 0 rfl rfl 6 (by decide) hm6 (fun _ h9 => h9) rfl dX2_runDown_85 ?_
          refine lv_lload hx hb dX2_runDown_88 (lv_at hl 0 rfl) ?_
          refine lv_lload hx hb dX2_runDown_90 (lv_at hl 2 rfl) ?_
          refine lv_lmul hx hb dX2_runDown_92 ?_
          refine lv_ladd hx hb dX2_runDown_93 ?_
          refine va_put (D := D) (ci := 2) (v := .long (cv_charge_11 + (r_50_15 * (gSlopeL l3_11.toNatClampNeg)))) (ty := .long) (C := RX2) (T := TX2) (N := 11) hx hb hts hi2 tyX2 tyX2_ok nmX2 hown hK hP hD hS 0 rfl rfl 6 (by decide) hm6 (fun _ h9 => h9) rfl (by decide +kernel) rfl rfl (Nat.le_of_ble_eq_true rfl) dX2_runDown_94 (fun H locs hP hD hS => ?_)
          obtain ⟨hP, hD⟩ := g_re (ws' := [(h_cv, .inr (2, [.int (bI c_shorted), .int c_range, .int (bI c_over), .int c_plus, .int c_minus, .int c_switched, .long (cv_charge_11 + (r_50_15 * (gSlopeL l3_11.toNatClampNeg))), .long cv_sum_11, .long c_flowed, .int c_signAhead, .ref h_cnt])), (h_cnt, .inl (cI, 4, .inl (upd f_cnt_11 l3_11.toNatClampNeg r_50_15.toInt32)))]) rfl hP hD
          refine lv_aload_n hx hb dX2_runDown_97 rfl (lv_at hl 3 rfl) ?_
          refine lv_dup hx hb dX2_runDown_98 rfl ?_
          refine va_get (D := D) (ci := 2) (v := .long cv_sum_11) (C := RX2) (T := TX2) (N := 11) hx hb hts hi2 hown hK hP 0 rfl rfl 7 (by decide) hm4 (fun _ h9 => h9) rfl dX2_runDown_99 ?_
          refine lv_lload hx hb dX2_runDown_102 (lv_at hl 0 rfl) ?_
          refine lv_lload hx hb dX2_runDown_104 (lv_at hl 2 rfl) ?_
          refine lv_lmul hx hb dX2_runDown_106 ?_
          refine lv_lsub hx hb dX2_runDown_107 ?_
          refine va_put (D := D) (ci := 2) (v := .long (cv_sum_11 - (r_50_15 * (gSlopeL l3_11.toNatClampNeg)))) (ty := .long) (C := RX2) (T := TX2) (N := 11) hx hb hts hi2 tyX2 tyX2_ok nmX2 hown hK hP hD hS 0 rfl rfl 7 (by decide) hm4 (fun _ h9 => h9) rfl (by decide +kernel) rfl rfl (Nat.le_of_ble_eq_true rfl) dX2_runDown_108 (fun H locs hP hD hS => ?_)
          obtain ⟨hP, hD⟩ := g_re (ws' := [(h_cv, .inr (2, [.int (bI c_shorted), .int c_range, .int (bI c_over), .int c_plus, .int c_minus, .int c_switched, .long (cv_charge_11 + (r_50_15 * (gSlopeL l3_11.toNatClampNeg))), .long (cv_sum_11 - (r_50_15 * (gSlopeL l3_11.toNatClampNeg))), .long c_flowed, .int c_signAhead, .ref h_cnt])), (h_cnt, .inl (cI, 4, .inl (upd f_cnt_11 l3_11.toNatClampNeg r_50_15.toInt32)))]) rfl hP hD
          refine lv_lload_n hx hb dX2_runDown_111 rfl (lv_at hl 4 rfl) ?_
          refine lv_lload hx hb dX2_runDown_112 (lv_at hl 1 rfl) ?_
          refine lv_ladd hx hb dX2_runDown_114 ?_
          refine lv_lstore_n (lv' := [(1, .long (l1_11 + r_50_15)), (8, .long r_50_15), (6, .long r_50_15), (4, .long (gSlopeL l3_11.toNatClampNeg)), (0, .ref h_cv), (3, .int l3_11)]) hx hb dX2_runDown_115 rfl hl (by decide) rfl (fun ls hl => ?_)
          refine lv_iinc (v := (l3_11 + 1)) (lv' := [(3, .int (l3_11 + 1)), (1, .long (l1_11 + r_50_15)), (8, .long r_50_15), (6, .long r_50_15), (4, .long (gSlopeL l3_11.toNatClampNeg)), (0, .ref h_cv)]) hx hb dX2_runDown_116 hl (k := 5) rfl rfl (by decide) rfl (fun ls hl => ?_)
          refine lv_goto (tgt := 23) hx hb dX2_runDown_119 (by decide) ?_
          exact IH_11 ((l1_11 + r_50_15), (l3_11 + 1), (cv_charge_11 + (r_50_15 * (gSlopeL l3_11.toNatClampNeg))), (cv_sum_11 - (r_50_15 * (gSlopeL l3_11.toNatClampNeg))), (upd f_cnt_11 l3_11.toNatClampNeg r_50_15.toInt32)) (by show 0 ≤ ((l3_11 + 1)).toInt; have h9 := gi_inc (x := l3_11) (by omega); omega) (by show (4 - ((l3_11 + 1)).toInt).toNat < n; have h9 := gi_inc (x := l3_11) (by omega); omega) hF _ _ _ hP hD hS (lv_sub hl [5, 1, 0] rfl)
        · have hF := hF.trans (if_neg c_60_17)
          refine lv_lload hx hb dX2_runDown_64 (lv_at hl 0 rfl) ?_
          refine lv_lneg hx hb dX2_runDown_66 ?_
          refine lv_goto (tgt := 72) hx hb dX2_runDown_67 (by decide) ?_
          refine lv_lstore (lv' := [(8, .long (-r_50_15)), (6, .long r_50_15), (4, .long (gSlopeL l3_11.toNatClampNeg)), (0, .ref h_cv), (1, .long l1_11), (3, .int l3_11)]) hx hb dX2_runDown_72 hl (by decide) rfl (fun ls hl => ?_)
          refine lv_aload_n hx hb dX2_runDown_74 rfl (lv_at hl 3 rfl) ?_
          refine va_get (D := D) (ci := 2) (v := .ref h_cnt) (C := RX2) (T := TX2) (N := 11) hx hb hts hi2 hown hK hP 0 rfl rfl 10 (by decide) hm5 (fun _ h9 => h9) rfl dX2_runDown_75 ?_
          refine lv_iload_n hx hb dX2_runDown_78 rfl (lv_at hl 5 rfl) ?_
          refine lv_lload hx hb dX2_runDown_79 (lv_at hl 0 rfl) ?_
          refine lv_l2i (v := (-r_50_15).toInt32) hx hb dX2_runDown_81 rfl ?_
          refine va_iast hx hb hK hP hD hS 1 0 rfl rfl (gi_in ⟨by omega, by omega⟩) dX2_runDown_82 (fun H locs hP hD hS => ?_)
          obtain ⟨hP, hD⟩ := g_re (ws' := [(h_cv, .inr (2, [.int (bI c_shorted), .int c_range, .int (bI c_over), .int c_plus, .int c_minus, .int c_switched, .long cv_charge_11, .long cv_sum_11, .long c_flowed, .int c_signAhead, .ref h_cnt])), (h_cnt, .inl (cI, 4, .inl (upd f_cnt_11 l3_11.toNatClampNeg (-r_50_15).toInt32)))]) rfl hP hD
          refine lv_aload_n hx hb dX2_runDown_83 rfl (lv_at hl 3 rfl) ?_
          refine lv_dup hx hb dX2_runDown_84 rfl ?_
          refine va_get (D := D) (ci := 2) (v := .long cv_charge_11) (C := RX2) (T := TX2) (N := 11) hx hb hts hi2 hown hK hP 0 rfl rfl 6 (by decide) hm6 (fun _ h9 => h9) rfl dX2_runDown_85 ?_
          refine lv_lload hx hb dX2_runDown_88 (lv_at hl 0 rfl) ?_
          refine lv_lload hx hb dX2_runDown_90 (lv_at hl 2 rfl) ?_
          refine lv_lmul hx hb dX2_runDown_92 ?_
          refine lv_ladd hx hb dX2_runDown_93 ?_
          refine va_put (D := D) (ci := 2) (v := .long (cv_charge_11 + ((-r_50_15) * (gSlopeL l3_11.toNatClampNeg)))) (ty := .long) (C := RX2) (T := TX2) (N := 11) hx hb hts hi2 tyX2 tyX2_ok nmX2 hown hK hP hD hS 0 rfl rfl 6 (by decide) hm6 (fun _ h9 => h9) rfl (by decide +kernel) rfl rfl (Nat.le_of_ble_eq_true rfl) dX2_runDown_94 (fun H locs hP hD hS => ?_)
          obtain ⟨hP, hD⟩ := g_re (ws' := [(h_cv, .inr (2, [.int (bI c_shorted), .int c_range, .int (bI c_over), .int c_plus, .int c_minus, .int c_switched, .long (cv_charge_11 + ((-r_50_15) * (gSlopeL l3_11.toNatClampNeg))), .long cv_sum_11, .long c_flowed, .int c_signAhead, .ref h_cnt])), (h_cnt, .inl (cI, 4, .inl (upd f_cnt_11 l3_11.toNatClampNeg (-r_50_15).toInt32)))]) rfl hP hD
          refine lv_aload_n hx hb dX2_runDown_97 rfl (lv_at hl 3 rfl) ?_
          refine lv_dup hx hb dX2_runDown_98 rfl ?_
          refine va_get (D := D) (ci := 2) (v := .long cv_sum_11) (C := RX2) (T := TX2) (N := 11) hx hb hts hi2 hown hK hP 0 rfl rfl 7 (by decide) hm4 (fun _ h9 => h9) rfl dX2_runDown_99 ?_
          refine lv_lload hx hb dX2_runDown_102 (lv_at hl 0 rfl) ?_
          refine lv_lload hx hb dX2_runDown_104 (lv_at hl 2 rfl) ?_
          refine lv_lmul hx hb dX2_runDown_106 ?_
          refine lv_lsub hx hb dX2_runDown_107 ?_
          refine va_put (D := D) (ci := 2) (v := .long (cv_sum_11 - ((-r_50_15) * (gSlopeL l3_11.toNatClampNeg)))) (ty := .long) (C := RX2) (T := TX2) (N := 11) hx hb hts hi2 tyX2 tyX2_ok nmX2 hown hK hP hD hS 0 rfl rfl 7 (by decide) hm4 (fun _ h9 => h9) rfl (by decide +kernel) rfl rfl (Nat.le_of_ble_eq_true rfl) dX2_runDown_108 (fun H locs hP hD hS => ?_)
          obtain ⟨hP, hD⟩ := g_re (ws' := [(h_cv, .inr (2, [.int (bI c_shorted), .int c_range, .int (bI c_over), .int c_plus, .int c_minus, .int c_switched, .long (cv_charge_11 + ((-r_50_15) * (gSlopeL l3_11.toNatClampNeg))), .long (cv_sum_11 - ((-r_50_15) * (gSlopeL l3_11.toNatClampNeg))), .long c_flowed, .int c_signAhead, .ref h_cnt])), (h_cnt, .inl (cI, 4, .inl (upd f_cnt_11 l3_11.toNatClampNeg (-r_50_15).toInt32)))]) rfl hP hD
          refine lv_lload_n hx hb dX2_runDown_111 rfl (lv_at hl 4 rfl) ?_
          refine lv_lload hx hb dX2_runDown_112 (lv_at hl 1 rfl) ?_
          refine lv_ladd hx hb dX2_runDown_114 ?_
          refine lv_lstore_n (lv' := [(1, .long (l1_11 + r_50_15)), (8, .long (-r_50_15)), (6, .long r_50_15), (4, .long (gSlopeL l3_11.toNatClampNeg)), (0, .ref h_cv), (3, .int l3_11)]) hx hb dX2_runDown_115 rfl hl (by decide) rfl (fun ls hl => ?_)
          refine lv_iinc (v := (l3_11 + 1)) (lv' := [(3, .int (l3_11 + 1)), (1, .long (l1_11 + r_50_15)), (8, .long (-r_50_15)), (6, .long r_50_15), (4, .long (gSlopeL l3_11.toNatClampNeg)), (0, .ref h_cv)]) hx hb dX2_runDown_116 hl (k := 5) rfl rfl (by decide) rfl (fun ls hl => ?_)
          refine lv_goto (tgt := 23) hx hb dX2_runDown_119 (by decide) ?_
          exact IH_11 ((l1_11 + r_50_15), (l3_11 + 1), (cv_charge_11 + ((-r_50_15) * (gSlopeL l3_11.toNatClampNeg))), (cv_sum_11 - ((-r_50_15) * (gSlopeL l3_11.toNatClampNeg))), (upd f_cnt_11 l3_11.toNatClampNeg (-r_50_15).toInt32)) (by show 0 ≤ ((l3_11 + 1)).toInt; have h9 := gi_inc (x := l3_11) (by omega); omega) (by show (4 - ((l3_11 + 1)).toInt).toNat < n; have h9 := gi_inc (x := l3_11) (by omega); omega) hF _ _ _ hP hD hS (lv_sub hl [5, 1, 0] rfl)

noncomputable def f_X2_error (c_sum : Int64) (c_flowed : Int64) : (Int64 × Unit) := ((gAbsL (c_sum - c_flowed)), ())
set_option maxHeartbeats 4000000 in
set_option maxRecDepth 100000 in
theorem c_X2_error (l : Launch) (D : va_G) (cI cJ : ClassId) (h_cv h_cnt : Nat) (sz : Nat) (c_shorted : Bool) (c_range : Int32) (c_over : Bool) (c_plus : Int32) (c_minus : Int32) (c_switched : Int32) (c_charge : Int64) (c_sum : Int64) (c_flowed : Int64) (c_signAhead : Int32) (f_cnt : Nat → Int32) : Met l yX2_error wsX2_error ({ frames := 1, cells := 0, slots := 0, locals := 13 }) (gPc D cI cJ [.ref h_cv] [(h_cv, .inr (2, [.int (bI c_shorted), .int c_range, .int (bI c_over), .int c_plus, .int c_minus, .int c_switched, .long c_charge, .long c_sum, .long c_flowed, .int c_signAhead, .ref h_cnt])), (h_cnt, .inl (cI, 4, .inl f_cnt))] sz) (gQl D cI cJ (f_X2_error c_sum c_flowed) (fun _ _ => True) (fun _ : Unit => [(h_cv, .inr (2, [.int (bI c_shorted), .int c_range, .int (bI c_over), .int c_plus, .int c_minus, .int c_switched, .long c_charge, .long c_sum, .long c_flowed, .int c_signAhead, .ref h_cnt])), (h_cnt, .inl (cI, 4, .inl f_cnt))]) (va_A [(h_cv, .inr (2, [.int (bI c_shorted), .int c_range, .int (bI c_over), .int c_plus, .int c_minus, .int c_switched, .long c_charge, .long c_sum, .long c_flowed, .int c_signAhead, .ref h_cnt])), (h_cnt, .inl (cI, 4, .inl f_cnt))] sz)) 0 0 (va_A [(h_cv, .inr (2, [.int (bI c_shorted), .int c_range, .int (bI c_over), .int c_plus, .int c_minus, .int c_switched, .long c_charge, .long c_sum, .long c_flowed, .int c_signAhead, .ref h_cnt])), (h_cnt, .inl (cI, 4, .inl f_cnt))] sz) := by
  refine g_met (cc := cX2_error) (maxL := 1) (ret := (some .long)) (Qc := gQl D cI cJ (f_X2_error c_sum c_flowed) _ _) (by decide) rfl (Nat.le_of_ble_eq_true rfl) ?_
  intro A p e s m below meth c hx hb hr hml hts hown hlk hnm hP hK hD hE hA hS ls hl
  have hown : s.vm.findClass RX2 = some m.cls := hown
  have hl : lv_has ls 1 [(0, .ref h_cv)] := hl
  have hi2 : ∀ w ∈ u_ws RX2 TX2 11, w ∈ wsX2_error := fun w h9 => List.mem_cons_of_mem _ (List.mem_append_right _ h9)
  have hm1 := hts (.fieldLink RX2 35 "VoltSlopes$Conversion" "sum" "J") (List.mem_of_getElem? (i := 1) rfl)
  have hm2 := hts (.fieldLink RX2 38 "VoltSlopes$Conversion" "flowed" "J") (List.mem_of_getElem? (i := 2) rfl)
  have hm3 := hts (.methodLink RX2 71 Lib.MathLoose.abs_long.x) (List.mem_of_getElem? (i := 3) rfl)
  have hm4 := hts (.static Lib.MathLoose.abs_long.x) (List.mem_of_getElem? (i := 4) rfl)
  have hm5 := hts (.initialized "java/lang/Math") (List.mem_of_getElem? (i := 5) rfl)
  have hm6 := hts (.code Lib.MathLoose.abs_long.x Lib.MathLoose.abs_long.code 2 (some .long)) (List.mem_of_getElem? (i := 6) rfl)
  have hF := f_X2_error.eq_1 c_sum c_flowed
  refine lv_aload_n hx hb dX2_error_0 rfl (lv_at hl 0 rfl) ?_
  refine va_get (D := D) (ci := 2) (v := .long c_sum) (C := RX2) (T := TX2) (N := 11) hx hb hts hi2 hown hK hP 0 rfl rfl 7 (by decide) hm1 (fun _ h9 => h9) rfl dX2_error_1 ?_
  refine lv_aload_n hx hb dX2_error_4 rfl (lv_at hl 0 rfl) ?_
  refine va_get (D := D) (ci := 2) (v := .long c_flowed) (C := RX2) (T := TX2) (N := 11) hx hb hts hi2 hown hK hP 0 rfl rfl 8 (by decide) hm2 (fun _ h9 => h9) rfl dX2_error_5 ?_
  refine lv_lsub hx hb dX2_error_8 ?_
  refine va_mabs_long hx hb (by rw [hml]; exact hl.1.symm) hown hm3 hm4 hm5 hm6 (Nat.le_of_ble_eq_true rfl) (Nat.le_of_ble_eq_true rfl) (Nat.zero_le _) (Nat.zero_le _) dX2_error_9 ?_
  refine W.eq (g2 := F0 m 12 ls [.long (gAbsL (c_sum - c_flowed))]) rfl ?_
  exact g_lret () hx hb hr hlk hP hK hD hS hF trivial rfl dX2_error_12

noncomputable def f_X2_slopeCount (f_cnt : Nat → Int32) (p0 : Int32) : (Int32 × Unit) := (if p0 < (0 : Int32) then ((-1000000002 : Int32), ()) else (if (4 : Int32) ≤ p0 then ((-1000000002 : Int32), ()) else ((f_cnt p0.toNatClampNeg), ())))
set_option maxHeartbeats 4000000 in
set_option maxRecDepth 100000 in
theorem c_X2_slopeCount (l : Launch) (D : va_G) (cI cJ : ClassId) (h_cv h_cnt : Nat) (sz : Nat) (c_shorted : Bool) (c_range : Int32) (c_over : Bool) (c_plus : Int32) (c_minus : Int32) (c_switched : Int32) (c_charge : Int64) (c_sum : Int64) (c_flowed : Int64) (c_signAhead : Int32) (f_cnt : Nat → Int32) (p0 : Int32) : Met l yX2_slopeCount wsX2_slopeCount ({ frames := 0, cells := 0, slots := 0, locals := 0 }) (gPc D cI cJ [.ref h_cv, .int p0] [(h_cv, .inr (2, [.int (bI c_shorted), .int c_range, .int (bI c_over), .int c_plus, .int c_minus, .int c_switched, .long c_charge, .long c_sum, .long c_flowed, .int c_signAhead, .ref h_cnt])), (h_cnt, .inl (cI, 4, .inl f_cnt))] sz) (gQi D cI cJ (f_X2_slopeCount f_cnt p0) (fun _ _ => True) (fun _ : Unit => [(h_cv, .inr (2, [.int (bI c_shorted), .int c_range, .int (bI c_over), .int c_plus, .int c_minus, .int c_switched, .long c_charge, .long c_sum, .long c_flowed, .int c_signAhead, .ref h_cnt])), (h_cnt, .inl (cI, 4, .inl f_cnt))]) (va_A [(h_cv, .inr (2, [.int (bI c_shorted), .int c_range, .int (bI c_over), .int c_plus, .int c_minus, .int c_switched, .long c_charge, .long c_sum, .long c_flowed, .int c_signAhead, .ref h_cnt])), (h_cnt, .inl (cI, 4, .inl f_cnt))] sz)) 0 0 (va_A [(h_cv, .inr (2, [.int (bI c_shorted), .int c_range, .int (bI c_over), .int c_plus, .int c_minus, .int c_switched, .long c_charge, .long c_sum, .long c_flowed, .int c_signAhead, .ref h_cnt])), (h_cnt, .inl (cI, 4, .inl f_cnt))] sz) := by
  refine g_met (cc := cX2_slopeCount) (maxL := 2) (ret := (some .int)) (Qc := gQi D cI cJ (f_X2_slopeCount f_cnt p0) _ _) (by decide) rfl (Nat.le_of_ble_eq_true rfl) ?_
  intro A p e s m below meth c hx hb hr hml hts hown hlk hnm hP hK hD hE hA hS ls hl
  have hown : s.vm.findClass RX2 = some m.cls := hown
  have hl : lv_has ls 2 [(0, .ref h_cv), (1, .int p0)] := hl
  have hi2 : ∀ w ∈ u_ws RX2 TX2 11, w ∈ wsX2_slopeCount := fun w h9 => List.mem_cons_of_mem _ (List.mem_append_right _ h9)
  have hm1 := hts (.fieldLink RX2 44 "VoltSlopes$Conversion" "slopeCounts" "[I") (List.mem_of_getElem? (i := 1) rfl)
  have hm2 := hts (.constant RX2 84 (-1000000002)) (List.mem_of_getElem? (i := 2) rfl)
  have hF := f_X2_slopeCount.eq_1 f_cnt p0
  refine lv_iload_n hx hb dX2_slopeCount_0 rfl (lv_at hl 1 rfl) ?_
  refine lv_if_lt (tgt := 22) hx hb dX2_slopeCount_1 (by decide) (fun c_1_1 => ?_) (fun c_1_1 => ?_)
  · have hF := hF.trans (if_pos c_1_1)
    have i_1_1 : p0.toInt < 0 := gi_lt c_1_1 rfl (by decide)
    refine lv_ldc hx hb hown hm2 dX2_slopeCount_22 ?_
    exact g_iret () hx hb hr hlk hP hK hD hS hF trivial rfl dX2_slopeCount_24
  · have hF := hF.trans (if_neg c_1_1)
    have i_1_1 : 0 ≤ p0.toInt := gi_nlt c_1_1 rfl (by decide)
    refine lv_iload_n hx hb dX2_slopeCount_4 rfl (lv_at hl 1 rfl) ?_
    refine lv_aload_n hx hb dX2_slopeCount_5 rfl (lv_at hl 0 rfl) ?_
    refine va_get (D := D) (ci := 2) (v := .ref h_cnt) (C := RX2) (T := TX2) (N := 11) hx hb hts hi2 hown hK hP 0 rfl rfl 10 (by decide) hm1 (fun _ h9 => h9) rfl dX2_slopeCount_6 ?_
    refine va_alen (v := 4) hx hb hK hP 1 0 rfl rfl rfl dX2_slopeCount_9 ?_
    refine lv_icmp_ge (tgt := 22) hx hb dX2_slopeCount_10 (by decide) (fun c_10_2 => ?_) (fun c_10_2 => ?_)
    · have hF := hF.trans (if_pos c_10_2)
      have i_10_2 : 4 ≤ p0.toInt := gi_le c_10_2 (by decide) rfl
      refine lv_ldc hx hb hown hm2 dX2_slopeCount_22 ?_
      exact g_iret () hx hb hr hlk hP hK hD hS hF trivial rfl dX2_slopeCount_24
    · have hF := hF.trans (if_neg c_10_2)
      have i_10_2 : p0.toInt < 4 := gi_nle c_10_2 (by decide) rfl
      refine lv_aload_n hx hb dX2_slopeCount_13 rfl (lv_at hl 0 rfl) ?_
      refine va_get (D := D) (ci := 2) (v := .ref h_cnt) (C := RX2) (T := TX2) (N := 11) hx hb hts hi2 hown hK hP 0 rfl rfl 10 (by decide) hm1 (fun _ h9 => h9) rfl dX2_slopeCount_14 ?_
      refine lv_iload_n hx hb dX2_slopeCount_17 rfl (lv_at hl 1 rfl) ?_
      refine va_iald hx hb hK hP 1 0 rfl rfl (gi_in ⟨by omega, by omega⟩) dX2_slopeCount_18 ?_
      refine lv_goto (tgt := 24) hx hb dX2_slopeCount_19 (by decide) ?_
      exact g_iret () hx hb hr hlk hP hK hD hS hF trivial rfl dX2_slopeCount_24

noncomputable def f_X2_part (c_shorted : Bool) (c_range : Int32) (c_over : Bool) (c_plus : Int32) (c_minus : Int32) (c_switched : Int32) (c_charge : Int64) (c_sum : Int64) (c_flowed : Int64) (f_cnt : Nat → Int32) (p0 : Int32) : (Int32 × Unit) := (if p0 = (0 : Int32) then (c_plus, ()) else (if p0 = (1 : Int32) then (c_minus, ()) else (if p0 = (2 : Int32) then (c_switched, ()) else (if p0 = (3 : Int32) then (match (f_X2_slopeCount f_cnt (p0 - (3 : Int32))) with | (r_162_2, _) => (r_162_2, ())) else (if p0 = (4 : Int32) then (match (f_X2_slopeCount f_cnt (p0 - (3 : Int32))) with | (r_162_3, _) => (r_162_3, ())) else (if p0 = (5 : Int32) then (match (f_X2_slopeCount f_cnt (p0 - (3 : Int32))) with | (r_162_4, _) => (r_162_4, ())) else (if p0 = (6 : Int32) then (match (f_X2_slopeCount f_cnt (p0 - (3 : Int32))) with | (r_162_5, _) => (r_162_5, ())) else (if p0 = (7 : Int32) then (c_charge.toInt32, ()) else (if p0 = (8 : Int32) then (match (f_X9_flag c_over) with | (r_101_6, _) => (r_101_6, ())) else (if p0 = (9 : Int32) then ((c_sum / (1000000 : Int64)).toInt32, ()) else (if p0 = (10 : Int32) then ((gRemL c_sum (1000000 : Int64)).toInt32, ()) else (if p0 = (11 : Int32) then ((c_flowed / (1000000 : Int64)).toInt32, ()) else (if p0 = (12 : Int32) then ((gRemL c_flowed (1000000 : Int64)).toInt32, ()) else (if p0 = (13 : Int32) then (match (f_X9_flag c_shorted) with | (r_149_7, _) => (r_149_7, ())) else (if p0 = (14 : Int32) then (c_range, ()) else (match (f_X2_slopeCount f_cnt (p0 - (3 : Int32))) with | (r_162_8, _) => (r_162_8, ())))))))))))))))))
set_option maxHeartbeats 4000000 in
set_option maxRecDepth 100000 in
theorem c_X2_part (l : Launch) (D : va_G) (cI cJ : ClassId) (h_cv h_cnt : Nat) (sz : Nat) (c_shorted : Bool) (c_range : Int32) (c_over : Bool) (c_plus : Int32) (c_minus : Int32) (c_switched : Int32) (c_charge : Int64) (c_sum : Int64) (c_flowed : Int64) (c_signAhead : Int32) (f_cnt : Nat → Int32) (p0 : Int32) : Met l yX2_part wsX2_part ({ frames := 1, cells := 0, slots := 0, locals := 21 }) (gPc D cI cJ [.ref h_cv, .int p0] [(h_cv, .inr (2, [.int (bI c_shorted), .int c_range, .int (bI c_over), .int c_plus, .int c_minus, .int c_switched, .long c_charge, .long c_sum, .long c_flowed, .int c_signAhead, .ref h_cnt])), (h_cnt, .inl (cI, 4, .inl f_cnt))] sz) (gQi D cI cJ (f_X2_part c_shorted c_range c_over c_plus c_minus c_switched c_charge c_sum c_flowed f_cnt p0) (fun _ _ => True) (fun _ : Unit => [(h_cv, .inr (2, [.int (bI c_shorted), .int c_range, .int (bI c_over), .int c_plus, .int c_minus, .int c_switched, .long c_charge, .long c_sum, .long c_flowed, .int c_signAhead, .ref h_cnt])), (h_cnt, .inl (cI, 4, .inl f_cnt))]) (va_A [(h_cv, .inr (2, [.int (bI c_shorted), .int c_range, .int (bI c_over), .int c_plus, .int c_minus, .int c_switched, .long c_charge, .long c_sum, .long c_flowed, .int c_signAhead, .ref h_cnt])), (h_cnt, .inl (cI, 4, .inl f_cnt))] sz)) 0 0 (va_A [(h_cv, .inr (2, [.int (bI c_shorted), .int c_range, .int (bI c_over), .int c_plus, .int c_minus, .int c_switched, .long c_charge, .long c_sum, .long c_flowed, .int c_signAhead, .ref h_cnt])), (h_cnt, .inl (cI, 4, .inl f_cnt))] sz) := by
  refine g_met (cc := cX2_part) (maxL := 2) (ret := (some .int)) (Qc := gQi D cI cJ (f_X2_part c_shorted c_range c_over c_plus c_minus c_switched c_charge c_sum c_flowed f_cnt p0) _ _) (by decide) rfl (Nat.le_of_ble_eq_true rfl) ?_
  intro A p e s m below meth c hx hb hr hml hts hown hlk hnm hP hK hD hE hA hS ls hl
  have hown : s.vm.findClass RX2 = some m.cls := hown
  have hl : lv_has ls 2 [(0, .ref h_cv), (1, .int p0)] := hl
  have hi2 : ∀ w ∈ u_ws RX2 TX2 11, w ∈ wsX2_part := fun w h9 => List.mem_cons_of_mem _ (List.mem_append_right _ h9)
  have hm1 := hts (.fieldLink RX2 22 "VoltSlopes$Conversion" "plus" "I") (List.mem_of_getElem? (i := 1) rfl)
  have hm2 := hts (.fieldLink RX2 25 "VoltSlopes$Conversion" "minus" "I") (List.mem_of_getElem? (i := 2) rfl)
  have hm3 := hts (.fieldLink RX2 28 "VoltSlopes$Conversion" "switched" "I") (List.mem_of_getElem? (i := 3) rfl)
  have hm4 := hts (.fieldLink RX2 31 "VoltSlopes$Conversion" "charge" "J") (List.mem_of_getElem? (i := 4) rfl)
  have hm5 := hts (.fieldLink RX2 19 "VoltSlopes$Conversion" "over" "Z") (List.mem_of_getElem? (i := 5) rfl)
  have hm6 := hts (.fieldLink RX2 35 "VoltSlopes$Conversion" "sum" "J") (List.mem_of_getElem? (i := 6) rfl)
  have hm7 := hts (.constantLong RX2 78 (1000000)) (List.mem_of_getElem? (i := 7) rfl)
  have hm8 := hts (.fieldLink RX2 38 "VoltSlopes$Conversion" "flowed" "J") (List.mem_of_getElem? (i := 8) rfl)
  have hm9 := hts (.fieldLink RX2 9 "VoltSlopes$Conversion" "shorted" "Z") (List.mem_of_getElem? (i := 9) rfl)
  have hm10 := hts (.fieldLink RX2 15 "VoltSlopes$Conversion" "range" "I") (List.mem_of_getElem? (i := 10) rfl)
  have hm11 := hts (.static yX9_flag) (List.mem_of_getElem? (i := 11) rfl)
  have hm12 := hts (.initialized RX9) (List.mem_of_getElem? (i := 12) rfl)
  have hF := f_X2_part.eq_1 c_shorted c_range c_over c_plus c_minus c_switched c_charge c_sum c_flowed f_cnt p0
  refine lv_iload_n hx hb dX2_part_0 rfl (lv_at hl 1 rfl) ?_
  by_cases c_1_1_0 : p0 = (0 : Int32)
  · have hF := hF.trans (if_pos c_1_1_0)
    refine lv_tableIn (off := 75) (tgt := 76) hx hb dX2_part_1 (by rw [c_1_1_0]; decide) (by rw [c_1_1_0]; decide) (by rw [c_1_1_0]; rfl) (by decide) ?_
    refine lv_aload_n hx hb dX2_part_76 rfl (lv_at hl 0 rfl) ?_
    refine va_get (D := D) (ci := 2) (v := .int c_plus) (C := RX2) (T := TX2) (N := 11) hx hb hts hi2 hown hK hP 0 rfl rfl 3 (by decide) hm1 (fun _ h9 => h9) rfl dX2_part_77 ?_
    exact g_iret () hx hb hr hlk hP hK hD hS hF trivial rfl dX2_part_80
  have hF := hF.trans (if_neg c_1_1_0)
  by_cases c_1_1_1 : p0 = (1 : Int32)
  · have hF := hF.trans (if_pos c_1_1_1)
    refine lv_tableIn (off := 80) (tgt := 81) hx hb dX2_part_1 (by rw [c_1_1_1]; decide) (by rw [c_1_1_1]; decide) (by rw [c_1_1_1]; rfl) (by decide) ?_
    refine lv_aload_n hx hb dX2_part_81 rfl (lv_at hl 0 rfl) ?_
    refine va_get (D := D) (ci := 2) (v := .int c_minus) (C := RX2) (T := TX2) (N := 11) hx hb hts hi2 hown hK hP 0 rfl rfl 4 (by decide) hm2 (fun _ h9 => h9) rfl dX2_part_82 ?_
    exact g_iret () hx hb hr hlk hP hK hD hS hF trivial rfl dX2_part_85
  have hF := hF.trans (if_neg c_1_1_1)
  by_cases c_1_1_2 : p0 = (2 : Int32)
  · have hF := hF.trans (if_pos c_1_1_2)
    refine lv_tableIn (off := 85) (tgt := 86) hx hb dX2_part_1 (by rw [c_1_1_2]; decide) (by rw [c_1_1_2]; decide) (by rw [c_1_1_2]; rfl) (by decide) ?_
    refine lv_aload_n hx hb dX2_part_86 rfl (lv_at hl 0 rfl) ?_
    refine va_get (D := D) (ci := 2) (v := .int c_switched) (C := RX2) (T := TX2) (N := 11) hx hb hts hi2 hown hK hP 0 rfl rfl 5 (by decide) hm3 (fun _ h9 => h9) rfl dX2_part_87 ?_
    exact g_iret () hx hb hr hlk hP hK hD hS hF trivial rfl dX2_part_90
  have hF := hF.trans (if_neg c_1_1_2)
  by_cases c_1_1_3 : p0 = (3 : Int32)
  · have hF := hF.trans (if_pos c_1_1_3)
    refine lv_tableIn (off := 157) (tgt := 158) hx hb dX2_part_1 (by rw [c_1_1_3]; decide) (by rw [c_1_1_3]; decide) (by rw [c_1_1_3]; rfl) (by decide) ?_
    refine lv_aload_n hx hb dX2_part_158 rfl (lv_at hl 0 rfl) ?_
    refine lv_iload_n hx hb dX2_part_159 rfl (lv_at hl 1 rfl) ?_
    refine lv_iconst (v := 3) hx hb dX2_part_160 (by decide) ?_
    refine lv_isub hx hb dX2_part_161 ?_
    refine g_cvi (rest := []) ⟨hx, hb, hml, hown, hts⟩ hP hD hK hS hA hE (c_X2_slopeCount l D cI cJ h_cv h_cnt s.heap.size c_shorted c_range c_over c_plus c_minus c_switched c_charge c_sum c_flowed c_signAhead f_cnt (p0 - (3 : Int32))) (cwV 1 hts gX2_part_X2_slopeCount rfl rfl rfl (by decide +kernel) ⟨Nat.le_of_ble_eq_true rfl, Nat.le_of_ble_eq_true rfl⟩) [0, 1] [] rfl rfl rfl rfl rfl 2 0 rfl rfl rfl hl rfl (Nat.le_of_ble_eq_true rfl) ⟨Nat.zero_le _, Nat.zero_le _⟩ dX2_part_162 (fun r_162_2 u_2 H locs hw_2 hx_2 hP hD hS => ?_)
    obtain ⟨hP, hD⟩ := g_re (ws' := [(h_cv, .inr (2, [.int (bI c_shorted), .int c_range, .int (bI c_over), .int c_plus, .int c_minus, .int c_switched, .long c_charge, .long c_sum, .long c_flowed, .int c_signAhead, .ref h_cnt])), (h_cnt, .inl (cI, 4, .inl f_cnt))]) rfl hP hD
    have hF := hF
    rw [hw_2] at hF
    try dsimp only at hF
    exact g_iret () hx hb hr hlk hP hK hD hS hF trivial rfl dX2_part_165
  have hF := hF.trans (if_neg c_1_1_3)
  by_cases c_1_1_4 : p0 = (4 : Int32)
  · have hF := hF.trans (if_pos c_1_1_4)
    refine lv_tableIn (off := 157) (tgt := 158) hx hb dX2_part_1 (by rw [c_1_1_4]; decide) (by rw [c_1_1_4]; decide) (by rw [c_1_1_4]; rfl) (by decide) ?_
    refine lv_aload_n hx hb dX2_part_158 rfl (lv_at hl 0 rfl) ?_
    refine lv_iload_n hx hb dX2_part_159 rfl (lv_at hl 1 rfl) ?_
    refine lv_iconst (v := 3) hx hb dX2_part_160 (by decide) ?_
    refine lv_isub hx hb dX2_part_161 ?_
    refine g_cvi (rest := []) ⟨hx, hb, hml, hown, hts⟩ hP hD hK hS hA hE (c_X2_slopeCount l D cI cJ h_cv h_cnt s.heap.size c_shorted c_range c_over c_plus c_minus c_switched c_charge c_sum c_flowed c_signAhead f_cnt (p0 - (3 : Int32))) (cwV 1 hts gX2_part_X2_slopeCount rfl rfl rfl (by decide +kernel) ⟨Nat.le_of_ble_eq_true rfl, Nat.le_of_ble_eq_true rfl⟩) [0, 1] [] rfl rfl rfl rfl rfl 2 0 rfl rfl rfl hl rfl (Nat.le_of_ble_eq_true rfl) ⟨Nat.zero_le _, Nat.zero_le _⟩ dX2_part_162 (fun r_162_3 u_3 H locs hw_3 hx_3 hP hD hS => ?_)
    obtain ⟨hP, hD⟩ := g_re (ws' := [(h_cv, .inr (2, [.int (bI c_shorted), .int c_range, .int (bI c_over), .int c_plus, .int c_minus, .int c_switched, .long c_charge, .long c_sum, .long c_flowed, .int c_signAhead, .ref h_cnt])), (h_cnt, .inl (cI, 4, .inl f_cnt))]) rfl hP hD
    have hF := hF
    rw [hw_3] at hF
    try dsimp only at hF
    exact g_iret () hx hb hr hlk hP hK hD hS hF trivial rfl dX2_part_165
  have hF := hF.trans (if_neg c_1_1_4)
  by_cases c_1_1_5 : p0 = (5 : Int32)
  · have hF := hF.trans (if_pos c_1_1_5)
    refine lv_tableIn (off := 157) (tgt := 158) hx hb dX2_part_1 (by rw [c_1_1_5]; decide) (by rw [c_1_1_5]; decide) (by rw [c_1_1_5]; rfl) (by decide) ?_
    refine lv_aload_n hx hb dX2_part_158 rfl (lv_at hl 0 rfl) ?_
    refine lv_iload_n hx hb dX2_part_159 rfl (lv_at hl 1 rfl) ?_
    refine lv_iconst (v := 3) hx hb dX2_part_160 (by decide) ?_
    refine lv_isub hx hb dX2_part_161 ?_
    refine g_cvi (rest := []) ⟨hx, hb, hml, hown, hts⟩ hP hD hK hS hA hE (c_X2_slopeCount l D cI cJ h_cv h_cnt s.heap.size c_shorted c_range c_over c_plus c_minus c_switched c_charge c_sum c_flowed c_signAhead f_cnt (p0 - (3 : Int32))) (cwV 1 hts gX2_part_X2_slopeCount rfl rfl rfl (by decide +kernel) ⟨Nat.le_of_ble_eq_true rfl, Nat.le_of_ble_eq_true rfl⟩) [0, 1] [] rfl rfl rfl rfl rfl 2 0 rfl rfl rfl hl rfl (Nat.le_of_ble_eq_true rfl) ⟨Nat.zero_le _, Nat.zero_le _⟩ dX2_part_162 (fun r_162_4 u_4 H locs hw_4 hx_4 hP hD hS => ?_)
    obtain ⟨hP, hD⟩ := g_re (ws' := [(h_cv, .inr (2, [.int (bI c_shorted), .int c_range, .int (bI c_over), .int c_plus, .int c_minus, .int c_switched, .long c_charge, .long c_sum, .long c_flowed, .int c_signAhead, .ref h_cnt])), (h_cnt, .inl (cI, 4, .inl f_cnt))]) rfl hP hD
    have hF := hF
    rw [hw_4] at hF
    try dsimp only at hF
    exact g_iret () hx hb hr hlk hP hK hD hS hF trivial rfl dX2_part_165
  have hF := hF.trans (if_neg c_1_1_5)
  by_cases c_1_1_6 : p0 = (6 : Int32)
  · have hF := hF.trans (if_pos c_1_1_6)
    refine lv_tableIn (off := 157) (tgt := 158) hx hb dX2_part_1 (by rw [c_1_1_6]; decide) (by rw [c_1_1_6]; decide) (by rw [c_1_1_6]; rfl) (by decide) ?_
    refine lv_aload_n hx hb dX2_part_158 rfl (lv_at hl 0 rfl) ?_
    refine lv_iload_n hx hb dX2_part_159 rfl (lv_at hl 1 rfl) ?_
    refine lv_iconst (v := 3) hx hb dX2_part_160 (by decide) ?_
    refine lv_isub hx hb dX2_part_161 ?_
    refine g_cvi (rest := []) ⟨hx, hb, hml, hown, hts⟩ hP hD hK hS hA hE (c_X2_slopeCount l D cI cJ h_cv h_cnt s.heap.size c_shorted c_range c_over c_plus c_minus c_switched c_charge c_sum c_flowed c_signAhead f_cnt (p0 - (3 : Int32))) (cwV 1 hts gX2_part_X2_slopeCount rfl rfl rfl (by decide +kernel) ⟨Nat.le_of_ble_eq_true rfl, Nat.le_of_ble_eq_true rfl⟩) [0, 1] [] rfl rfl rfl rfl rfl 2 0 rfl rfl rfl hl rfl (Nat.le_of_ble_eq_true rfl) ⟨Nat.zero_le _, Nat.zero_le _⟩ dX2_part_162 (fun r_162_5 u_5 H locs hw_5 hx_5 hP hD hS => ?_)
    obtain ⟨hP, hD⟩ := g_re (ws' := [(h_cv, .inr (2, [.int (bI c_shorted), .int c_range, .int (bI c_over), .int c_plus, .int c_minus, .int c_switched, .long c_charge, .long c_sum, .long c_flowed, .int c_signAhead, .ref h_cnt])), (h_cnt, .inl (cI, 4, .inl f_cnt))]) rfl hP hD
    have hF := hF
    rw [hw_5] at hF
    try dsimp only at hF
    exact g_iret () hx hb hr hlk hP hK hD hS hF trivial rfl dX2_part_165
  have hF := hF.trans (if_neg c_1_1_6)
  by_cases c_1_1_7 : p0 = (7 : Int32)
  · have hF := hF.trans (if_pos c_1_1_7)
    refine lv_tableIn (off := 90) (tgt := 91) hx hb dX2_part_1 (by rw [c_1_1_7]; decide) (by rw [c_1_1_7]; decide) (by rw [c_1_1_7]; rfl) (by decide) ?_
    refine lv_aload_n hx hb dX2_part_91 rfl (lv_at hl 0 rfl) ?_
    refine va_get (D := D) (ci := 2) (v := .long c_charge) (C := RX2) (T := TX2) (N := 11) hx hb hts hi2 hown hK hP 0 rfl rfl 6 (by decide) hm4 (fun _ h9 => h9) rfl dX2_part_92 ?_
    refine lv_l2i (v := c_charge.toInt32) hx hb dX2_part_95 rfl ?_
    exact g_iret () hx hb hr hlk hP hK hD hS hF trivial rfl dX2_part_96
  have hF := hF.trans (if_neg c_1_1_7)
  by_cases c_1_1_8 : p0 = (8 : Int32)
  · have hF := hF.trans (if_pos c_1_1_8)
    refine lv_tableIn (off := 96) (tgt := 97) hx hb dX2_part_1 (by rw [c_1_1_8]; decide) (by rw [c_1_1_8]; decide) (by rw [c_1_1_8]; rfl) (by decide) ?_
    refine lv_aload_n hx hb dX2_part_97 rfl (lv_at hl 0 rfl) ?_
    refine va_get (D := D) (ci := 2) (v := .int (bI c_over)) (C := RX2) (T := TX2) (N := 11) hx hb hts hi2 hown hK hP 0 rfl rfl 2 (by decide) hm5 (fun _ h9 => h9) rfl dX2_part_98 ?_
    refine g_cni (rest := []) ⟨hx, hb, hml, hown, hts⟩ hP hD hK hS hA hE (c_X9_flag l D cI cJ s.heap.size c_over) ⟨va_cnB (host := RX9) 1 hts gX2_part_X9_flag_n74 rfl rfl rfl (hE.1 (.methodLinkNest RX2 74 yX9_flag RX9) (List.mem_of_getElem? (i := 10) rfl)) hm12 (by decide +kernel) ⟨Nat.le_of_ble_eq_true rfl, Nat.le_of_ble_eq_true rfl⟩, hm11, trivial⟩ rfl hl rfl (Nat.le_of_ble_eq_true rfl) ⟨Nat.zero_le _, Nat.zero_le _⟩ dX2_part_101 (fun r_101_6 H locs hw_6 hx_6 hP hS => ?_)
    have hF := hF
    rw [hw_6] at hF
    try dsimp only at hF
    exact g_iret () hx hb hr hlk hP hK hD hS hF trivial rfl dX2_part_104
  have hF := hF.trans (if_neg c_1_1_8)
  by_cases c_1_1_9 : p0 = (9 : Int32)
  · have hF := hF.trans (if_pos c_1_1_9)
    refine lv_tableIn (off := 104) (tgt := 105) hx hb dX2_part_1 (by rw [c_1_1_9]; decide) (by rw [c_1_1_9]; decide) (by rw [c_1_1_9]; rfl) (by decide) ?_
    refine lv_aload_n hx hb dX2_part_105 rfl (lv_at hl 0 rfl) ?_
    refine va_get (D := D) (ci := 2) (v := .long c_sum) (C := RX2) (T := TX2) (N := 11) hx hb hts hi2 hown hK hP 0 rfl rfl 7 (by decide) hm6 (fun _ h9 => h9) rfl dX2_part_106 ?_
    refine lv_ldc2 hx hb hown hm7 dX2_part_109 ?_
    refine lv_ldiv hx hb dX2_part_112 (by decide) ?_
    refine lv_l2i (v := (c_sum / (1000000 : Int64)).toInt32) hx hb dX2_part_113 rfl ?_
    exact g_iret () hx hb hr hlk hP hK hD hS hF trivial rfl dX2_part_114
  have hF := hF.trans (if_neg c_1_1_9)
  by_cases c_1_1_10 : p0 = (10 : Int32)
  · have hF := hF.trans (if_pos c_1_1_10)
    refine lv_tableIn (off := 114) (tgt := 115) hx hb dX2_part_1 (by rw [c_1_1_10]; decide) (by rw [c_1_1_10]; decide) (by rw [c_1_1_10]; rfl) (by decide) ?_
    refine lv_aload_n hx hb dX2_part_115 rfl (lv_at hl 0 rfl) ?_
    refine va_get (D := D) (ci := 2) (v := .long c_sum) (C := RX2) (T := TX2) (N := 11) hx hb hts hi2 hown hK hP 0 rfl rfl 7 (by decide) hm6 (fun _ h9 => h9) rfl dX2_part_116 ?_
    refine lv_ldc2 hx hb hown hm7 dX2_part_119 ?_
    refine g_lrem hx hb dX2_part_122 (by decide) ?_
    refine lv_l2i (v := (gRemL c_sum (1000000 : Int64)).toInt32) hx hb dX2_part_123 rfl ?_
    exact g_iret () hx hb hr hlk hP hK hD hS hF trivial rfl dX2_part_124
  have hF := hF.trans (if_neg c_1_1_10)
  by_cases c_1_1_11 : p0 = (11 : Int32)
  · have hF := hF.trans (if_pos c_1_1_11)
    refine lv_tableIn (off := 124) (tgt := 125) hx hb dX2_part_1 (by rw [c_1_1_11]; decide) (by rw [c_1_1_11]; decide) (by rw [c_1_1_11]; rfl) (by decide) ?_
    refine lv_aload_n hx hb dX2_part_125 rfl (lv_at hl 0 rfl) ?_
    refine va_get (D := D) (ci := 2) (v := .long c_flowed) (C := RX2) (T := TX2) (N := 11) hx hb hts hi2 hown hK hP 0 rfl rfl 8 (by decide) hm8 (fun _ h9 => h9) rfl dX2_part_126 ?_
    refine lv_ldc2 hx hb hown hm7 dX2_part_129 ?_
    refine lv_ldiv hx hb dX2_part_132 (by decide) ?_
    refine lv_l2i (v := (c_flowed / (1000000 : Int64)).toInt32) hx hb dX2_part_133 rfl ?_
    exact g_iret () hx hb hr hlk hP hK hD hS hF trivial rfl dX2_part_134
  have hF := hF.trans (if_neg c_1_1_11)
  by_cases c_1_1_12 : p0 = (12 : Int32)
  · have hF := hF.trans (if_pos c_1_1_12)
    refine lv_tableIn (off := 134) (tgt := 135) hx hb dX2_part_1 (by rw [c_1_1_12]; decide) (by rw [c_1_1_12]; decide) (by rw [c_1_1_12]; rfl) (by decide) ?_
    refine lv_aload_n hx hb dX2_part_135 rfl (lv_at hl 0 rfl) ?_
    refine va_get (D := D) (ci := 2) (v := .long c_flowed) (C := RX2) (T := TX2) (N := 11) hx hb hts hi2 hown hK hP 0 rfl rfl 8 (by decide) hm8 (fun _ h9 => h9) rfl dX2_part_136 ?_
    refine lv_ldc2 hx hb hown hm7 dX2_part_139 ?_
    refine g_lrem hx hb dX2_part_142 (by decide) ?_
    refine lv_l2i (v := (gRemL c_flowed (1000000 : Int64)).toInt32) hx hb dX2_part_143 rfl ?_
    exact g_iret () hx hb hr hlk hP hK hD hS hF trivial rfl dX2_part_144
  have hF := hF.trans (if_neg c_1_1_12)
  by_cases c_1_1_13 : p0 = (13 : Int32)
  · have hF := hF.trans (if_pos c_1_1_13)
    refine lv_tableIn (off := 144) (tgt := 145) hx hb dX2_part_1 (by rw [c_1_1_13]; decide) (by rw [c_1_1_13]; decide) (by rw [c_1_1_13]; rfl) (by decide) ?_
    refine lv_aload_n hx hb dX2_part_145 rfl (lv_at hl 0 rfl) ?_
    refine va_get (D := D) (ci := 2) (v := .int (bI c_shorted)) (C := RX2) (T := TX2) (N := 11) hx hb hts hi2 hown hK hP 0 rfl rfl 0 (by decide) hm9 (fun _ h9 => h9) rfl dX2_part_146 ?_
    refine g_cni (rest := []) ⟨hx, hb, hml, hown, hts⟩ hP hD hK hS hA hE (c_X9_flag l D cI cJ s.heap.size c_shorted) ⟨va_cnB (host := RX9) 1 hts gX2_part_X9_flag_n74 rfl rfl rfl (hE.1 (.methodLinkNest RX2 74 yX9_flag RX9) (List.mem_of_getElem? (i := 10) rfl)) hm12 (by decide +kernel) ⟨Nat.le_of_ble_eq_true rfl, Nat.le_of_ble_eq_true rfl⟩, hm11, trivial⟩ rfl hl rfl (Nat.le_of_ble_eq_true rfl) ⟨Nat.zero_le _, Nat.zero_le _⟩ dX2_part_149 (fun r_149_7 H locs hw_7 hx_7 hP hS => ?_)
    have hF := hF
    rw [hw_7] at hF
    try dsimp only at hF
    exact g_iret () hx hb hr hlk hP hK hD hS hF trivial rfl dX2_part_152
  have hF := hF.trans (if_neg c_1_1_13)
  by_cases c_1_1_14 : p0 = (14 : Int32)
  · have hF := hF.trans (if_pos c_1_1_14)
    refine lv_tableIn (off := 152) (tgt := 153) hx hb dX2_part_1 (by rw [c_1_1_14]; decide) (by rw [c_1_1_14]; decide) (by rw [c_1_1_14]; rfl) (by decide) ?_
    refine lv_aload_n hx hb dX2_part_153 rfl (lv_at hl 0 rfl) ?_
    refine va_get (D := D) (ci := 2) (v := .int c_range) (C := RX2) (T := TX2) (N := 11) hx hb hts hi2 hown hK hP 0 rfl rfl 1 (by decide) hm10 (fun _ h9 => h9) rfl dX2_part_154 ?_
    exact g_iret () hx hb hr hlk hP hK hD hS hF trivial rfl dX2_part_157
  have hF := hF.trans (if_neg c_1_1_14)
  refine lv_tableOut (tgt := 158) hx hb dX2_part_1 (by have := lv_neT (a := 0) c_1_1_0 (by decide); have := lv_neT (a := 1) c_1_1_1 (by decide); have := lv_neT (a := 2) c_1_1_2 (by decide); have := lv_neT (a := 3) c_1_1_3 (by decide); have := lv_neT (a := 4) c_1_1_4 (by decide); have := lv_neT (a := 5) c_1_1_5 (by decide); have := lv_neT (a := 6) c_1_1_6 (by decide); have := lv_neT (a := 7) c_1_1_7 (by decide); have := lv_neT (a := 8) c_1_1_8 (by decide); have := lv_neT (a := 9) c_1_1_9 (by decide); have := lv_neT (a := 10) c_1_1_10 (by decide); have := lv_neT (a := 11) c_1_1_11 (by decide); have := lv_neT (a := 12) c_1_1_12 (by decide); have := lv_neT (a := 13) c_1_1_13 (by decide); have := lv_neT (a := 14) c_1_1_14 (by decide); omega) (by decide) ?_
  refine lv_aload_n hx hb dX2_part_158 rfl (lv_at hl 0 rfl) ?_
  refine lv_iload_n hx hb dX2_part_159 rfl (lv_at hl 1 rfl) ?_
  refine lv_iconst (v := 3) hx hb dX2_part_160 (by decide) ?_
  refine lv_isub hx hb dX2_part_161 ?_
  refine g_cvi (rest := []) ⟨hx, hb, hml, hown, hts⟩ hP hD hK hS hA hE (c_X2_slopeCount l D cI cJ h_cv h_cnt s.heap.size c_shorted c_range c_over c_plus c_minus c_switched c_charge c_sum c_flowed c_signAhead f_cnt (p0 - (3 : Int32))) (cwV 1 hts gX2_part_X2_slopeCount rfl rfl rfl (by decide +kernel) ⟨Nat.le_of_ble_eq_true rfl, Nat.le_of_ble_eq_true rfl⟩) [0, 1] [] rfl rfl rfl rfl rfl 2 0 rfl rfl rfl hl rfl (Nat.le_of_ble_eq_true rfl) ⟨Nat.zero_le _, Nat.zero_le _⟩ dX2_part_162 (fun r_162_8 u_8 H locs hw_8 hx_8 hP hD hS => ?_)
  obtain ⟨hP, hD⟩ := g_re (ws' := [(h_cv, .inr (2, [.int (bI c_shorted), .int c_range, .int (bI c_over), .int c_plus, .int c_minus, .int c_switched, .long c_charge, .long c_sum, .long c_flowed, .int c_signAhead, .ref h_cnt])), (h_cnt, .inl (cI, 4, .inl f_cnt))]) rfl hP hD
  have hF := hF
  rw [hw_8] at hF
  try dsimp only at hF
  exact g_iret () hx hb hr hlk hP hK hD hS hF trivial rfl dX2_part_165
