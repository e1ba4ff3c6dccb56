noncomputable def f_X10_latestNow (x_plus : Int32) (x_minus : Int32) (x_switched : Int32) (x_charge : Int64) (x_wasOver : Bool) (x_sum : Int64) (x_flowed : Int64) (x_wasShorted : Bool) (x_rangeThen : Int32) (f_mcnt : Nat → Int32) (p0 : Int32) : (Int32 × Unit) := (if p0 = (0 : Int32) then (x_plus, ()) else (if p0 = (1 : Int32) then (x_minus, ()) else (if p0 = (2 : Int32) then (x_switched, ()) else (if p0 = (3 : Int32) then ((f_mcnt (p0 - (3 : Int32)).toNatClampNeg), ()) else (if p0 = (4 : Int32) then ((f_mcnt (p0 - (3 : Int32)).toNatClampNeg), ()) else (if p0 = (5 : Int32) then ((f_mcnt (p0 - (3 : Int32)).toNatClampNeg), ()) else (if p0 = (6 : Int32) then ((f_mcnt (p0 - (3 : Int32)).toNatClampNeg), ()) else (if p0 = (7 : Int32) then (x_charge.toInt32, ()) else (if p0 = (8 : Int32) then (if x_wasOver = true then ((1 : Int32), ()) else ((0 : Int32), ())) else (if p0 = (9 : Int32) then ((x_sum / (1000000 : Int64)).toInt32, ()) else (if p0 = (10 : Int32) then ((gRemL x_sum (1000000 : Int64)).toInt32, ()) else (if p0 = (11 : Int32) then ((x_flowed / (1000000 : Int64)).toInt32, ()) else (if p0 = (12 : Int32) then ((gRemL x_flowed (1000000 : Int64)).toInt32, ()) else (if p0 = (13 : Int32) then (if x_wasShorted = true then ((1 : Int32), ()) else ((0 : Int32), ())) else (if p0 = (14 : Int32) then (x_rangeThen, ()) else ((f_mcnt (p0 - (3 : Int32)).toNatClampNeg), ()))))))))))))))))
set_option maxHeartbeats 4000000 in
set_option maxRecDepth 100000 in
theorem c_X10_latestNow (l : Launch) (D : va_G) (cI cJ : ClassId) (h_md h_mcnt h_mzs h_mzc h_mzr h_mvals h_mtold h_mpage : Nat) (sz : Nat) (x_dcNow : Int32) (x_humNow : Int32) (x_wave : Int32) (x_noiseNow : Int32) (x_seedNow : Int64) (x_tick : Int64) (x_range : Int32) (x_isAuto : Bool) (x_offset : Int32) (x_creep : Int32) (x_factor : Int32) (x_shift : Int32) (x_cycles : Int32) (x_zeroing : Int32) (x_most : Int32) (x_window : Int32) (x_wasConversion : Bool) (x_plus : Int32) (x_minus : Int32) (x_switched : Int32) (x_charge : Int64) (x_wasOver : Bool) (x_sum : Int64) (x_flowed : Int64) (x_wasShorted : Bool) (x_rangeThen : Int32) (x_held : Int32) (x_kept : Int32) (x_readings : Int32) (x_readingsOver : Int32) (x_conversions : Int32) (x_shortedOnes : Int32) (x_madeMore : Int32) (x_madeLess : Int32) (x_jumps : Int32) (x_settings : Int32) (x_pageLength : Int32) (x_command : Int32) (x_figures : Int32) (x_number : Int32) (x_isBelow : Bool) (x_h : Int64) (f_mcnt : Nat → Int32) (f_mzs : Nat → Int64) (f_mzc : Nat → Int32) (f_mzr : Nat → Int32) (f_mvals : Nat → Int64) (f_mtold : Nat → Int32) (f_mpage : Nat → Int32) (p0 : Int32) (hp : 0 ≤ p0.toInt ∧ p0.toInt ≤ 14) : Met l yX10_latestNow wsX10_latestNow ({ frames := 0, cells := 0, slots := 0, locals := 0 }) (gPc D cI cJ [.ref h_md, .int p0] [(h_md, .inr (10, [.int x_dcNow, .int x_humNow, .int x_wave, .int x_noiseNow, .long x_seedNow, .long x_tick, .int x_range, .int (bI x_isAuto), .int x_offset, .int x_creep, .int x_factor, .int x_shift, .int x_cycles, .int x_zeroing, .int x_most, .int x_window, .int (bI x_wasConversion), .int x_plus, .int x_minus, .int x_switched, .ref h_mcnt, .long x_charge, .int (bI x_wasOver), .long x_sum, .long x_flowed, .int (bI x_wasShorted), .int x_rangeThen, .ref h_mzs, .ref h_mzc, .ref h_mzr, .int x_held, .ref h_mvals, .int x_kept, .ref h_mtold, .int x_readings, .int x_readingsOver, .int x_conversions, .int x_shortedOnes, .int x_madeMore, .int x_madeLess, .int x_jumps, .int x_settings, .int x_pageLength, .ref h_mpage, .int x_command, .int x_figures, .int x_number, .int (bI x_isBelow), .long x_h])), (h_mcnt, .inl (cI, 4, .inl f_mcnt)), (h_mzs, .inl (cJ, 3, .inr (.inl f_mzs))), (h_mzc, .inl (cI, 3, .inl f_mzc)), (h_mzr, .inl (cI, 3, .inl f_mzr)), (h_mvals, .inl (cJ, 17, .inr (.inl f_mvals))), (h_mtold, .inl (cI, 96, .inl f_mtold)), (h_mpage, .inl (cI, 40, .inl f_mpage))] sz) (gQi D cI cJ (f_X10_latestNow x_plus x_minus x_switched x_charge x_wasOver x_sum x_flowed x_wasShorted x_rangeThen f_mcnt p0) (fun _ _ => True) (fun _ : Unit => [(h_md, .inr (10, [.int x_dcNow, .int x_humNow, .int x_wave, .int x_noiseNow, .long x_seedNow, .long x_tick, .int x_range, .int (bI x_isAuto), .int x_offset, .int x_creep, .int x_factor, .int x_shift, .int x_cycles, .int x_zeroing, .int x_most, .int x_window, .int (bI x_wasConversion), .int x_plus, .int x_minus, .int x_switched, .ref h_mcnt, .long x_charge, .int (bI x_wasOver), .long x_sum, .long x_flowed, .int (bI x_wasShorted), .int x_rangeThen, .ref h_mzs, .ref h_mzc, .ref h_mzr, .int x_held, .ref h_mvals, .int x_kept, .ref h_mtold, .int x_readings, .int x_readingsOver, .int x_conversions, .int x_shortedOnes, .int x_madeMore, .int x_madeLess, .int x_jumps, .int x_settings, .int x_pageLength, .ref h_mpage, .int x_command, .int x_figures, .int x_number, .int (bI x_isBelow), .long x_h])), (h_mcnt, .inl (cI, 4, .inl f_mcnt)), (h_mzs, .inl (cJ, 3, .inr (.inl f_mzs))), (h_mzc, .inl (cI, 3, .inl f_mzc)), (h_mzr, .inl (cI, 3, .inl f_mzr)), (h_mvals, .inl (cJ, 17, .inr (.inl f_mvals))), (h_mtold, .inl (cI, 96, .inl f_mtold)), (h_mpage, .inl (cI, 40, .inl f_mpage))]) (va_A [(h_md, .inr (10, [.int x_dcNow, .int x_humNow, .int x_wave, .int x_noiseNow, .long x_seedNow, .long x_tick, .int x_range, .int (bI x_isAuto), .int x_offset, .int x_creep, .int x_factor, .int x_shift, .int x_cycles, .int x_zeroing, .int x_most, .int x_window, .int (bI x_wasConversion), .int x_plus, .int x_minus, .int x_switched, .ref h_mcnt, .long x_charge, .int (bI x_wasOver), .long x_sum, .long x_flowed, .int (bI x_wasShorted), .int x_rangeThen, .ref h_mzs, .ref h_mzc, .ref h_mzr, .int x_held, .ref h_mvals, .int x_kept, .ref h_mtold, .int x_readings, .int x_readingsOver, .int x_conversions, .int x_shortedOnes, .int x_madeMore, .int x_madeLess, .int x_jumps, .int x_settings, .int x_pageLength, .ref h_mpage, .int x_command, .int x_figures, .int x_number, .int (bI x_isBelow), .long x_h])), (h_mcnt, .inl (cI, 4, .inl f_mcnt)), (h_mzs, .inl (cJ, 3, .inr (.inl f_mzs))), (h_mzc, .inl (cI, 3, .inl f_mzc)), (h_mzr, .inl (cI, 3, .inl f_mzr)), (h_mvals, .inl (cJ, 17, .inr (.inl f_mvals))), (h_mtold, .inl (cI, 96, .inl f_mtold)), (h_mpage, .inl (cI, 40, .inl f_mpage))] sz)) 0 0 (va_A [(h_md, .inr (10, [.int x_dcNow, .int x_humNow, .int x_wave, .int x_noiseNow, .long x_seedNow, .long x_tick, .int x_range, .int (bI x_isAuto), .int x_offset, .int x_creep, .int x_factor, .int x_shift, .int x_cycles, .int x_zeroing, .int x_most, .int x_window, .int (bI x_wasConversion), .int x_plus, .int x_minus, .int x_switched, .ref h_mcnt, .long x_charge, .int (bI x_wasOver), .long x_sum, .long x_flowed, .int (bI x_wasShorted), .int x_rangeThen, .ref h_mzs, .ref h_mzc, .ref h_mzr, .int x_held, .ref h_mvals, .int x_kept, .ref h_mtold, .int x_readings, .int x_readingsOver, .int x_conversions, .int x_shortedOnes, .int x_madeMore, .int x_madeLess, .int x_jumps, .int x_settings, .int x_pageLength, .ref h_mpage, .int x_command, .int x_figures, .int x_number, .int (bI x_isBelow), .long x_h])), (h_mcnt, .inl (cI, 4, .inl f_mcnt)), (h_mzs, .inl (cJ, 3, .inr (.inl f_mzs))), (h_mzc, .inl (cI, 3, .inl f_mzc)), (h_mzr, .inl (cI, 3, .inl f_mzr)), (h_mvals, .inl (cJ, 17, .inr (.inl f_mvals))), (h_mtold, .inl (cI, 96, .inl f_mtold)), (h_mpage, .inl (cI, 40, .inl f_mpage))] sz) := by
  refine g_met (cc := cX10_latestNow) (maxL := 2) (ret := (some .int)) (Qc := gQi D cI cJ (f_X10_latestNow x_plus x_minus x_switched x_charge x_wasOver x_sum x_flowed x_wasShorted x_rangeThen f_mcnt p0) _ _) (by decide) rfl (Nat.le_of_ble_eq_true rfl) ?_
  intro A p e s m below meth c hx hb hr hml hts hown hlk hnm hP hK hD hE hA hS ls hl
  have hown : s.vm.findClass RX10 = some m.cls := hown
  have hl : lv_has ls 2 [(0, .ref h_md), (1, .int p0)] := hl
  have hi10 : ∀ w ∈ u_ws RX10 TX10 49, w ∈ wsX10_latestNow := fun w h9 => List.mem_cons_of_mem _ (List.mem_append_right _ h9)
  have hm1 := hts (.fieldLink RX10 206 "VoltSlopesModel" "plus" "I") (List.mem_of_getElem? (i := 1) rfl)
  have hm2 := hts (.fieldLink RX10 209 "VoltSlopesModel" "minus" "I") (List.mem_of_getElem? (i := 2) rfl)
  have hm3 := hts (.fieldLink RX10 212 "VoltSlopesModel" "switched" "I") (List.mem_of_getElem? (i := 3) rfl)
  have hm4 := hts (.fieldLink RX10 194 "VoltSlopesModel" "charge" "J") (List.mem_of_getElem? (i := 4) rfl)
  have hm5 := hts (.fieldLink RX10 187 "VoltSlopesModel" "wasOver" "Z") (List.mem_of_getElem? (i := 5) rfl)
  have hm6 := hts (.fieldLink RX10 237 "VoltSlopesModel" "sum" "J") (List.mem_of_getElem? (i := 6) rfl)
  have hm7 := hts (.constantLong RX10 293 (1000000)) (List.mem_of_getElem? (i := 7) rfl)
  have hm8 := hts (.fieldLink RX10 201 "VoltSlopesModel" "flowed" "J") (List.mem_of_getElem? (i := 8) rfl)
  have hm9 := hts (.fieldLink RX10 227 "VoltSlopesModel" "wasShorted" "Z") (List.mem_of_getElem? (i := 9) rfl)
  have hm10 := hts (.fieldLink RX10 230 "VoltSlopesModel" "rangeThen" "I") (List.mem_of_getElem? (i := 10) rfl)
  have hm11 := hts (.fieldLink RX10 27 "VoltSlopesModel" "counts" "[I") (List.mem_of_getElem? (i := 11) rfl)
  have hF := f_X10_latestNow.eq_1 x_plus x_minus x_switched x_charge x_wasOver x_sum x_flowed x_wasShorted x_rangeThen f_mcnt p0
  refine lv_iload_n hx hb dX10_latestNow_0 rfl (lv_at hl 1 rfl) ?_
  by_cases c_1_1_0 : p0 = (0 : Int32)
  · have hF := hF.trans (if_pos c_1_1_0)
    have i_1_1_0 : p0.toInt = 0 := gi_eq c_1_1_0 rfl (by decide)
    refine lv_tableIn (off := 75) (tgt := 76) hx hb dX10_latestNow_1 (by rw [c_1_1_0]; decide) (by rw [c_1_1_0]; decide) (by rw [c_1_1_0]; rfl) (by decide) ?_
    refine lv_aload_n hx hb dX10_latestNow_76 rfl (lv_at hl 0 rfl) ?_
    refine va_get (D := D) (ci := 10) (v := .int x_plus) (C := RX10) (T := TX10) (N := 49) hx hb hts hi10 hown hK hP 0 rfl rfl 17 (by decide) hm1 (fun _ h9 => h9) rfl dX10_latestNow_77 ?_
    exact g_iret () hx hb hr hlk hP hK hD hS hF trivial rfl dX10_latestNow_80
  have hF := hF.trans (if_neg c_1_1_0)
  have i_1_1_0 : p0.toInt ≠ 0 := gi_ne c_1_1_0 rfl (by decide)
  by_cases c_1_1_1 : p0 = (1 : Int32)
  · have hF := hF.trans (if_pos c_1_1_1)
    have i_1_1_1 : p0.toInt = 1 := gi_eq c_1_1_1 rfl (by decide)
    refine lv_tableIn (off := 80) (tgt := 81) hx hb dX10_latestNow_1 (by rw [c_1_1_1]; decide) (by rw [c_1_1_1]; decide) (by rw [c_1_1_1]; rfl) (by decide) ?_
    refine lv_aload_n hx hb dX10_latestNow_81 rfl (lv_at hl 0 rfl) ?_
    refine va_get (D := D) (ci := 10) (v := .int x_minus) (C := RX10) (T := TX10) (N := 49) hx hb hts hi10 hown hK hP 0 rfl rfl 18 (by decide) hm2 (fun _ h9 => h9) rfl dX10_latestNow_82 ?_
    exact g_iret () hx hb hr hlk hP hK hD hS hF trivial rfl dX10_latestNow_85
  have hF := hF.trans (if_neg c_1_1_1)
  have i_1_1_1 : p0.toInt ≠ 1 := gi_ne c_1_1_1 rfl (by decide)
  by_cases c_1_1_2 : p0 = (2 : Int32)
  · have hF := hF.trans (if_pos c_1_1_2)
    have i_1_1_2 : p0.toInt = 2 := gi_eq c_1_1_2 rfl (by decide)
    refine lv_tableIn (off := 85) (tgt := 86) hx hb dX10_latestNow_1 (by rw [c_1_1_2]; decide) (by rw [c_1_1_2]; decide) (by rw [c_1_1_2]; rfl) (by decide) ?_
    refine lv_aload_n hx hb dX10_latestNow_86 rfl (lv_at hl 0 rfl) ?_
    refine va_get (D := D) (ci := 10) (v := .int x_switched) (C := RX10) (T := TX10) (N := 49) hx hb hts hi10 hown hK hP 0 rfl rfl 19 (by decide) hm3 (fun _ h9 => h9) rfl dX10_latestNow_87 ?_
    exact g_iret () hx hb hr hlk hP hK hD hS hF trivial rfl dX10_latestNow_90
  have hF := hF.trans (if_neg c_1_1_2)
  have i_1_1_2 : p0.toInt ≠ 2 := gi_ne c_1_1_2 rfl (by decide)
  by_cases c_1_1_3 : p0 = (3 : Int32)
  · have hF := hF.trans (if_pos c_1_1_3)
    have i_1_1_3 : p0.toInt = 3 := gi_eq c_1_1_3 rfl (by decide)
    refine lv_tableIn (off := 167) (tgt := 168) hx hb dX10_latestNow_1 (by rw [c_1_1_3]; decide) (by rw [c_1_1_3]; decide) (by rw [c_1_1_3]; rfl) (by decide) ?_
    refine lv_aload_n hx hb dX10_latestNow_168 rfl (lv_at hl 0 rfl) ?_
    refine va_get (D := D) (ci := 10) (v := .ref h_mcnt) (C := RX10) (T := TX10) (N := 49) hx hb hts hi10 hown hK hP 0 rfl rfl 20 (by decide) hm11 (fun _ h9 => h9) rfl dX10_latestNow_169 ?_
    refine lv_iload_n hx hb dX10_latestNow_172 rfl (lv_at hl 1 rfl) ?_
    refine lv_iconst (v := 3) hx hb dX10_latestNow_173 (by decide) ?_
    refine lv_isub hx hb dX10_latestNow_174 ?_
    refine va_iald hx hb hK hP 1 0 rfl rfl (sub3_in (by omega)) dX10_latestNow_175 ?_
    exact g_iret () hx hb hr hlk hP hK hD hS hF trivial rfl dX10_latestNow_176
  have hF := hF.trans (if_neg c_1_1_3)
  have i_1_1_3 : p0.toInt ≠ 3 := gi_ne c_1_1_3 rfl (by decide)
  by_cases c_1_1_4 : p0 = (4 : Int32)
  · have hF := hF.trans (if_pos c_1_1_4)
    have i_1_1_4 : p0.toInt = 4 := gi_eq c_1_1_4 rfl (by decide)
    refine lv_tableIn (off := 167) (tgt := 168) hx hb dX10_latestNow_1 (by rw [c_1_1_4]; decide) (by rw [c_1_1_4]; decide) (by rw [c_1_1_4]; rfl) (by decide) ?_
    refine lv_aload_n hx hb dX10_latestNow_168 rfl (lv_at hl 0 rfl) ?_
    refine va_get (D := D) (ci := 10) (v := .ref h_mcnt) (C := RX10) (T := TX10) (N := 49) hx hb hts hi10 hown hK hP 0 rfl rfl 20 (by decide) hm11 (fun _ h9 => h9) rfl dX10_latestNow_169 ?_
    refine lv_iload_n hx hb dX10_latestNow_172 rfl (lv_at hl 1 rfl) ?_
    refine lv_iconst (v := 3) hx hb dX10_latestNow_173 (by decide) ?_
    refine lv_isub hx hb dX10_latestNow_174 ?_
    refine va_iald hx hb hK hP 1 0 rfl rfl (sub3_in (by omega)) dX10_latestNow_175 ?_
    exact g_iret () hx hb hr hlk hP hK hD hS hF trivial rfl dX10_latestNow_176
  have hF := hF.trans (if_neg c_1_1_4)
  have i_1_1_4 : p0.toInt ≠ 4 := gi_ne c_1_1_4 rfl (by decide)
  by_cases c_1_1_5 : p0 = (5 : Int32)
  · have hF := hF.trans (if_pos c_1_1_5)
    have i_1_1_5 : p0.toInt = 5 := gi_eq c_1_1_5 rfl (by decide)
    refine lv_tableIn (off := 167) (tgt := 168) hx hb dX10_latestNow_1 (by rw [c_1_1_5]; decide) (by rw [c_1_1_5]; decide) (by rw [c_1_1_5]; rfl) (by decide) ?_
    refine lv_aload_n hx hb dX10_latestNow_168 rfl (lv_at hl 0 rfl) ?_
    refine va_get (D := D) (ci := 10) (v := .ref h_mcnt) (C := RX10) (T := TX10) (N := 49) hx hb hts hi10 hown hK hP 0 rfl rfl 20 (by decide) hm11 (fun _ h9 => h9) rfl dX10_latestNow_169 ?_
    refine lv_iload_n hx hb dX10_latestNow_172 rfl (lv_at hl 1 rfl) ?_
    refine lv_iconst (v := 3) hx hb dX10_latestNow_173 (by decide) ?_
    refine lv_isub hx hb dX10_latestNow_174 ?_
    refine va_iald hx hb hK hP 1 0 rfl rfl (sub3_in (by omega)) dX10_latestNow_175 ?_
    exact g_iret () hx hb hr hlk hP hK hD hS hF trivial rfl dX10_latestNow_176
  have hF := hF.trans (if_neg c_1_1_5)
  have i_1_1_5 : p0.toInt ≠ 5 := gi_ne c_1_1_5 rfl (by decide)
  by_cases c_1_1_6 : p0 = (6 : Int32)
  · have hF := hF.trans (if_pos c_1_1_6)
    have i_1_1_6 : p0.toInt = 6 := gi_eq c_1_1_6 rfl (by decide)
    refine lv_tableIn (off := 167) (tgt := 168) hx hb dX10_latestNow_1 (by rw [c_1_1_6]; decide) (by rw [c_1_1_6]; decide) (by rw [c_1_1_6]; rfl) (by decide) ?_
    refine lv_aload_n hx hb dX10_latestNow_168 rfl (lv_at hl 0 rfl) ?_
    refine va_get (D := D) (ci := 10) (v := .ref h_mcnt) (C := RX10) (T := TX10) (N := 49) hx hb hts hi10 hown hK hP 0 rfl rfl 20 (by decide) hm11 (fun _ h9 => h9) rfl dX10_latestNow_169 ?_
    refine lv_iload_n hx hb dX10_latestNow_172 rfl (lv_at hl 1 rfl) ?_
    refine lv_iconst (v := 3) hx hb dX10_latestNow_173 (by decide) ?_
    refine lv_isub hx hb dX10_latestNow_174 ?_
    refine va_iald hx hb hK hP 1 0 rfl rfl (sub3_in (by omega)) dX10_latestNow_175 ?_
    exact g_iret () hx hb hr hlk hP hK hD hS hF trivial rfl dX10_latestNow_176
  have hF := hF.trans (if_neg c_1_1_6)
  have i_1_1_6 : p0.toInt ≠ 6 := gi_ne c_1_1_6 rfl (by decide)
  by_cases c_1_1_7 : p0 = (7 : Int32)
  · have hF := hF.trans (if_pos c_1_1_7)
    have i_1_1_7 : p0.toInt = 7 := gi_eq c_1_1_7 rfl (by decide)
    refine lv_tableIn (off := 90) (tgt := 91) hx hb dX10_latestNow_1 (by rw [c_1_1_7]; decide) (by rw [c_1_1_7]; decide) (by rw [c_1_1_7]; rfl) (by decide) ?_
    refine lv_aload_n hx hb dX10_latestNow_91 rfl (lv_at hl 0 rfl) ?_
    refine va_get (D := D) (ci := 10) (v := .long x_charge) (C := RX10) (T := TX10) (N := 49) hx hb hts hi10 hown hK hP 0 rfl rfl 21 (by decide) hm4 (fun _ h9 => h9) rfl dX10_latestNow_92 ?_
    refine lv_l2i (v := x_charge.toInt32) hx hb dX10_latestNow_95 rfl ?_
    exact g_iret () hx hb hr hlk hP hK hD hS hF trivial rfl dX10_latestNow_96
  have hF := hF.trans (if_neg c_1_1_7)
  have i_1_1_7 : p0.toInt ≠ 7 := gi_ne c_1_1_7 rfl (by decide)
  by_cases c_1_1_8 : p0 = (8 : Int32)
  · have hF := hF.trans (if_pos c_1_1_8)
    have i_1_1_8 : p0.toInt = 8 := gi_eq c_1_1_8 rfl (by decide)
    refine lv_tableIn (off := 96) (tgt := 97) hx hb dX10_latestNow_1 (by rw [c_1_1_8]; decide) (by rw [c_1_1_8]; decide) (by rw [c_1_1_8]; rfl) (by decide) ?_
    refine lv_aload_n hx hb dX10_latestNow_97 rfl (lv_at hl 0 rfl) ?_
    refine va_get (D := D) (ci := 10) (v := .int (bI x_wasOver)) (C := RX10) (T := TX10) (N := 49) hx hb hts hi10 hown hK hP 0 rfl rfl 22 (by decide) hm5 (fun _ h9 => h9) rfl dX10_latestNow_98 ?_
    refine lv_if_eq (tgt := 108) hx hb dX10_latestNow_101 (by decide) (fun c_101_2w => ?_) (fun c_101_2w => ?_)
    · have c_101_2 := bI_f2 c_101_2w
      have hF := hF.trans (if_neg c_101_2)
      refine lv_iconst (v := 0) hx hb dX10_latestNow_108 (by decide) ?_
      exact g_iret () hx hb hr hlk hP hK hD hS hF trivial rfl dX10_latestNow_109
    · have c_101_2 := bI_t c_101_2w
      have hF := hF.trans (if_pos c_101_2)
      refine lv_iconst (v := 1) hx hb dX10_latestNow_104 (by decide) ?_
      refine lv_goto (tgt := 109) hx hb dX10_latestNow_105 (by decide) ?_
      exact g_iret () hx hb hr hlk hP hK hD hS hF trivial rfl dX10_latestNow_109
  have hF := hF.trans (if_neg c_1_1_8)
  have i_1_1_8 : p0.toInt ≠ 8 := gi_ne c_1_1_8 rfl (by decide)
  by_cases c_1_1_9 : p0 = (9 : Int32)
  · have hF := hF.trans (if_pos c_1_1_9)
    have i_1_1_9 : p0.toInt = 9 := gi_eq c_1_1_9 rfl (by decide)
    refine lv_tableIn (off := 109) (tgt := 110) hx hb dX10_latestNow_1 (by rw [c_1_1_9]; decide) (by rw [c_1_1_9]; decide) (by rw [c_1_1_9]; rfl) (by decide) ?_
    refine lv_aload_n hx hb dX10_latestNow_110 rfl (lv_at hl 0 rfl) ?_
    refine va_get (D := D) (ci := 10) (v := .long x_sum) (C := RX10) (T := TX10) (N := 49) hx hb hts hi10 hown hK hP 0 rfl rfl 23 (by decide) hm6 (fun _ h9 => h9) rfl dX10_latestNow_111 ?_
    refine lv_ldc2 hx hb hown hm7 dX10_latestNow_114 ?_
    refine lv_ldiv hx hb dX10_latestNow_117 (by decide) ?_
    refine lv_l2i (v := (x_sum / (1000000 : Int64)).toInt32) hx hb dX10_latestNow_118 rfl ?_
    exact g_iret () hx hb hr hlk hP hK hD hS hF trivial rfl dX10_latestNow_119
  have hF := hF.trans (if_neg c_1_1_9)
  have i_1_1_9 : p0.toInt ≠ 9 := gi_ne c_1_1_9 rfl (by decide)
  by_cases c_1_1_10 : p0 = (10 : Int32)
  · have hF := hF.trans (if_pos c_1_1_10)
    have i_1_1_10 : p0.toInt = 10 := gi_eq c_1_1_10 rfl (by decide)
    refine lv_tableIn (off := 119) (tgt := 120) hx hb dX10_latestNow_1 (by rw [c_1_1_10]; decide) (by rw [c_1_1_10]; decide) (by rw [c_1_1_10]; rfl) (by decide) ?_
    refine lv_aload_n hx hb dX10_latestNow_120 rfl (lv_at hl 0 rfl) ?_
    refine va_get (D := D) (ci := 10) (v := .long x_sum) (C := RX10) (T := TX10) (N := 49) hx hb hts hi10 hown hK hP 0 rfl rfl 23 (by decide) hm6 (fun _ h9 => h9) rfl dX10_latestNow_121 ?_
    refine lv_ldc2 hx hb hown hm7 dX10_latestNow_124 ?_
    refine g_lrem hx hb dX10_latestNow_127 (by decide) ?_
    refine lv_l2i (v := (gRemL x_sum (1000000 : Int64)).toInt32) hx hb dX10_latestNow_128 rfl ?_
    exact g_iret () hx hb hr hlk hP hK hD hS hF trivial rfl dX10_latestNow_129
  have hF := hF.trans (if_neg c_1_1_10)
  have i_1_1_10 : p0.toInt ≠ 10 := gi_ne c_1_1_10 rfl (by decide)
  by_cases c_1_1_11 : p0 = (11 : Int32)
  · have hF := hF.trans (if_pos c_1_1_11)
    have i_1_1_11 : p0.toInt = 11 := gi_eq c_1_1_11 rfl (by decide)
    refine lv_tableIn (off := 129) (tgt := 130) hx hb dX10_latestNow_1 (by rw [c_1_1_11]; decide) (by rw [c_1_1_11]; decide) (by rw [c_1_1_11]; rfl) (by decide) ?_
    refine lv_aload_n hx hb dX10_latestNow_130 rfl (lv_at hl 0 rfl) ?_
    refine va_get (D := D) (ci := 10) (v := .long x_flowed) (C := RX10) (T := TX10) (N := 49) hx hb hts hi10 hown hK hP 0 rfl rfl 24 (by decide) hm8 (fun _ h9 => h9) rfl dX10_latestNow_131 ?_
    refine lv_ldc2 hx hb hown hm7 dX10_latestNow_134 ?_
    refine lv_ldiv hx hb dX10_latestNow_137 (by decide) ?_
    refine lv_l2i (v := (x_flowed / (1000000 : Int64)).toInt32) hx hb dX10_latestNow_138 rfl ?_
    exact g_iret () hx hb hr hlk hP hK hD hS hF trivial rfl dX10_latestNow_139
  have hF := hF.trans (if_neg c_1_1_11)
  have i_1_1_11 : p0.toInt ≠ 11 := gi_ne c_1_1_11 rfl (by decide)
  by_cases c_1_1_12 : p0 = (12 : Int32)
  · have hF := hF.trans (if_pos c_1_1_12)
    have i_1_1_12 : p0.toInt = 12 := gi_eq c_1_1_12 rfl (by decide)
    refine lv_tableIn (off := 139) (tgt := 140) hx hb dX10_latestNow_1 (by rw [c_1_1_12]; decide) (by rw [c_1_1_12]; decide) (by rw [c_1_1_12]; rfl) (by decide) ?_
    refine lv_aload_n hx hb dX10_latestNow_140 rfl (lv_at hl 0 rfl) ?_
    refine va_get (D := D) (ci := 10) (v := .long x_flowed) (C := RX10) (T := TX10) (N := 49) hx hb hts hi10 hown hK hP 0 rfl rfl 24 (by decide) hm8 (fun _ h9 => h9) rfl dX10_latestNow_141 ?_
    refine lv_ldc2 hx hb hown hm7 dX10_latestNow_144 ?_
    refine g_lrem hx hb dX10_latestNow_147 (by decide) ?_
    refine lv_l2i (v := (gRemL x_flowed (1000000 : Int64)).toInt32) hx hb dX10_latestNow_148 rfl ?_
    exact g_iret () hx hb hr hlk hP hK hD hS hF trivial rfl dX10_latestNow_149
  have hF := hF.trans (if_neg c_1_1_12)
  have i_1_1_12 : p0.toInt ≠ 12 := gi_ne c_1_1_12 rfl (by decide)
  by_cases c_1_1_13 : p0 = (13 : Int32)
  · have hF := hF.trans (if_pos c_1_1_13)
    have i_1_1_13 : p0.toInt = 13 := gi_eq c_1_1_13 rfl (by decide)
    refine lv_tableIn (off := 149) (tgt := 150) hx hb dX10_latestNow_1 (by rw [c_1_1_13]; decide) (by rw [c_1_1_13]; decide) (by rw [c_1_1_13]; rfl) (by decide) ?_
    refine lv_aload_n hx hb dX10_latestNow_150 rfl (lv_at hl 0 rfl) ?_
    refine va_get (D := D) (ci := 10) (v := .int (bI x_wasShorted)) (C := RX10) (T := TX10) (N := 49) hx hb hts hi10 hown hK hP 0 rfl rfl 25 (by decide) hm9 (fun _ h9 => h9) rfl dX10_latestNow_151 ?_
    refine lv_if_eq (tgt := 161) hx hb dX10_latestNow_154 (by decide) (fun c_154_3w => ?_) (fun c_154_3w => ?_)
    · have c_154_3 := bI_f2 c_154_3w
      have hF := hF.trans (if_neg c_154_3)
      refine lv_iconst (v := 0) hx hb dX10_latestNow_161 (by decide) ?_
      exact g_iret () hx hb hr hlk hP hK hD hS hF trivial rfl dX10_latestNow_162
    · have c_154_3 := bI_t c_154_3w
      have hF := hF.trans (if_pos c_154_3)
      refine lv_iconst (v := 1) hx hb dX10_latestNow_157 (by decide) ?_
      refine lv_goto (tgt := 162) hx hb dX10_latestNow_158 (by decide) ?_
      exact g_iret () hx hb hr hlk hP hK hD hS hF trivial rfl dX10_latestNow_162
  have hF := hF.trans (if_neg c_1_1_13)
  have i_1_1_13 : p0.toInt ≠ 13 := gi_ne c_1_1_13 rfl (by decide)
  by_cases c_1_1_14 : p0 = (14 : Int32)
  · have hF := hF.trans (if_pos c_1_1_14)
    have i_1_1_14 : p0.toInt = 14 := gi_eq c_1_1_14 rfl (by decide)
    refine lv_tableIn (off := 162) (tgt := 163) hx hb dX10_latestNow_1 (by rw [c_1_1_14]; decide) (by rw [c_1_1_14]; decide) (by rw [c_1_1_14]; rfl) (by decide) ?_
    refine lv_aload_n hx hb dX10_latestNow_163 rfl (lv_at hl 0 rfl) ?_
    refine va_get (D := D) (ci := 10) (v := .int x_rangeThen) (C := RX10) (T := TX10) (N := 49) hx hb hts hi10 hown hK hP 0 rfl rfl 26 (by decide) hm10 (fun _ h9 => h9) rfl dX10_latestNow_164 ?_
    exact g_iret () hx hb hr hlk hP hK hD hS hF trivial rfl dX10_latestNow_167
  have hF := hF.trans (if_neg c_1_1_14)
  have i_1_1_14 : p0.toInt ≠ 14 := gi_ne c_1_1_14 rfl (by decide)
  refine lv_tableOut (tgt := 168) hx hb dX10_latestNow_1 (by have := lv_neT (a := 0) c_1_1_0 (by decide); have := lv_neT (a := 1) c_1_1_1 (by decide); have := lv_neT (a := 2) c_1_1_2 (by decide); have := lv_neT (a := 3) c_1_1_3 (by decide); have := lv_neT (a := 4) c_1_1_4 (by decide); have := lv_neT (a := 5) c_1_1_5 (by decide); have := lv_neT (a := 6) c_1_1_6 (by decide); have := lv_neT (a := 7) c_1_1_7 (by decide); have := lv_neT (a := 8) c_1_1_8 (by decide); have := lv_neT (a := 9) c_1_1_9 (by decide); have := lv_neT (a := 10) c_1_1_10 (by decide); have := lv_neT (a := 11) c_1_1_11 (by decide); have := lv_neT (a := 12) c_1_1_12 (by decide); have := lv_neT (a := 13) c_1_1_13 (by decide); have := lv_neT (a := 14) c_1_1_14 (by decide); omega) (by decide) ?_
  refine lv_aload_n hx hb dX10_latestNow_168 rfl (lv_at hl 0 rfl) ?_
  refine va_get (D := D) (ci := 10) (v := .ref h_mcnt) (C := RX10) (T := TX10) (N := 49) hx hb hts hi10 hown hK hP 0 rfl rfl 20 (by decide) hm11 (fun _ h9 => h9) rfl dX10_latestNow_169 ?_
  refine lv_iload_n hx hb dX10_latestNow_172 rfl (lv_at hl 1 rfl) ?_
  refine lv_iconst (v := 3) hx hb dX10_latestNow_173 (by decide) ?_
  refine lv_isub hx hb dX10_latestNow_174 ?_
  refine va_iald hx hb hK hP 1 0 rfl rfl (sub3_in (by omega)) dX10_latestNow_175 ?_
  exact g_iret () hx hb hr hlk hP hK hD hS hF trivial rfl dX10_latestNow_176

noncomputable def f_X10_latest (x_wasConversion : Bool) (x_plus : Int32) (x_minus : Int32) (x_switched : Int32) (x_charge : Int64) (x_wasOver : Bool) (x_sum : Int64) (x_flowed : Int64) (x_wasShorted : Bool) (x_rangeThen : Int32) (f_mcnt : Nat → Int32) (p0 : Int32) : (Int32 × Unit) := (match (f_X10_within p0 (0 : Int32) (14 : Int32)) with | (r_4_1, _) => (if r_4_1 = true then (if x_wasConversion = true then (match (f_X10_latestNow x_plus x_minus x_switched x_charge x_wasOver x_sum x_flowed x_wasShorted x_rangeThen f_mcnt p0) with | (r_22_4, _) => (r_22_4, ())) else ((-1000000003 : Int32), ())) else ((-1000000002 : Int32), ())))
set_option maxHeartbeats 4000000 in
set_option maxRecDepth 100000 in
theorem c_X10_latest (l : Launch) (D : va_G) (cI cJ : ClassId) (h_md h_mcnt h_mzs h_mzc h_mzr h_mvals h_mtold h_mpage : Nat) (sz : Nat) (x_dcNow : Int32) (x_humNow : Int32) (x_wave : Int32) (x_noiseNow : Int32) (x_seedNow : Int64) (x_tick : Int64) (x_range : Int32) (x_isAuto : Bool) (x_offset : Int32) (x_creep : Int32) (x_factor : Int32) (x_shift : Int32) (x_cycles : Int32) (x_zeroing : Int32) (x_most : Int32) (x_window : Int32) (x_wasConversion : Bool) (x_plus : Int32) (x_minus : Int32) (x_switched : Int32) (x_charge : Int64) (x_wasOver : Bool) (x_sum : Int64) (x_flowed : Int64) (x_wasShorted : Bool) (x_rangeThen : Int32) (x_held : Int32) (x_kept : Int32) (x_readings : Int32) (x_readingsOver : Int32) (x_conversions : Int32) (x_shortedOnes : Int32) (x_madeMore : Int32) (x_madeLess : Int32) (x_jumps : Int32) (x_settings : Int32) (x_pageLength : Int32) (x_command : Int32) (x_figures : Int32) (x_number : Int32) (x_isBelow : Bool) (x_h : Int64) (f_mcnt : Nat → Int32) (f_mzs : Nat → Int64) (f_mzc : Nat → Int32) (f_mzr : Nat → Int32) (f_mvals : Nat → Int64) (f_mtold : Nat → Int32) (f_mpage : Nat → Int32) (p0 : Int32) : Met l yX10_latest wsX10_latest ({ frames := 1, cells := 0, slots := 0, locals := 22 }) (gPc D cI cJ [.ref h_md, .int p0] [(h_md, .inr (10, [.int x_dcNow, .int x_humNow, .int x_wave, .int x_noiseNow, .long x_seedNow, .long x_tick, .int x_range, .int (bI x_isAuto), .int x_offset, .int x_creep, .int x_factor, .int x_shift, .int x_cycles, .int x_zeroing, .int x_most, .int x_window, .int (bI x_wasConversion), .int x_plus, .int x_minus, .int x_switched, .ref h_mcnt, .long x_charge, .int (bI x_wasOver), .long x_sum, .long x_flowed, .int (bI x_wasShorted), .int x_rangeThen, .ref h_mzs, .ref h_mzc, .ref h_mzr, .int x_held, .ref h_mvals, .int x_kept, .ref h_mtold, .int x_readings, .int x_readingsOver, .int x_conversions, .int x_shortedOnes, .int x_madeMore, .int x_madeLess, .int x_jumps, .int x_settings, .int x_pageLength, .ref h_mpage, .int x_command, .int x_figures, .int x_number, .int (bI x_isBelow), .long x_h])), (h_mcnt, .inl (cI, 4, .inl f_mcnt)), (h_mzs, .inl (cJ, 3, .inr (.inl f_mzs))), (h_mzc, .inl (cI, 3, .inl f_mzc)), (h_mzr, .inl (cI, 3, .inl f_mzr)), (h_mvals, .inl (cJ, 17, .inr (.inl f_mvals))), (h_mtold, .inl (cI, 96, .inl f_mtold)), (h_mpage, .inl (cI, 40, .inl f_mpage))] sz) (gQi D cI cJ (f_X10_latest x_wasConversion x_plus x_minus x_switched x_charge x_wasOver x_sum x_flowed x_wasShorted x_rangeThen f_mcnt p0) (fun _ _ => True) (fun _ : Unit => [(h_md, .inr (10, [.int x_dcNow, .int x_humNow, .int x_wave, .int x_noiseNow, .long x_seedNow, .long x_tick, .int x_range, .int (bI x_isAuto), .int x_offset, .int x_creep, .int x_factor, .int x_shift, .int x_cycles, .int x_zeroing, .int x_most, .int x_window, .int (bI x_wasConversion), .int x_plus, .int x_minus, .int x_switched, .ref h_mcnt, .long x_charge, .int (bI x_wasOver), .long x_sum, .long x_flowed, .int (bI x_wasShorted), .int x_rangeThen, .ref h_mzs, .ref h_mzc, .ref h_mzr, .int x_held, .ref h_mvals, .int x_kept, .ref h_mtold, .int x_readings, .int x_readingsOver, .int x_conversions, .int x_shortedOnes, .int x_madeMore, .int x_madeLess, .int x_jumps, .int x_settings, .int x_pageLength, .ref h_mpage, .int x_command, .int x_figures, .int x_number, .int (bI x_isBelow), .long x_h])), (h_mcnt, .inl (cI, 4, .inl f_mcnt)), (h_mzs, .inl (cJ, 3, .inr (.inl f_mzs))), (h_mzc, .inl (cI, 3, .inl f_mzc)), (h_mzr, .inl (cI, 3, .inl f_mzr)), (h_mvals, .inl (cJ, 17, .inr (.inl f_mvals))), (h_mtold, .inl (cI, 96, .inl f_mtold)), (h_mpage, .inl (cI, 40, .inl f_mpage))]) (va_A [(h_md, .inr (10, [.int x_dcNow, .int x_humNow, .int x_wave, .int x_noiseNow, .long x_seedNow, .long x_tick, .int x_range, .int (bI x_isAuto), .int x_offset, .int x_creep, .int x_factor, .int x_shift, .int x_cycles, .int x_zeroing, .int x_most, .int x_window, .int (bI x_wasConversion), .int x_plus, .int x_minus, .int x_switched, .ref h_mcnt, .long x_charge, .int (bI x_wasOver), .long x_sum, .long x_flowed, .int (bI x_wasShorted), .int x_rangeThen, .ref h_mzs, .ref h_mzc, .ref h_mzr, .int x_held, .ref h_mvals, .int x_kept, .ref h_mtold, .int x_readings, .int x_readingsOver, .int x_conversions, .int x_shortedOnes, .int x_madeMore, .int x_madeLess, .int x_jumps, .int x_settings, .int x_pageLength, .ref h_mpage, .int x_command, .int x_figures, .int x_number, .int (bI x_isBelow), .long x_h])), (h_mcnt, .inl (cI, 4, .inl f_mcnt)), (h_mzs, .inl (cJ, 3, .inr (.inl f_mzs))), (h_mzc, .inl (cI, 3, .inl f_mzc)), (h_mzr, .inl (cI, 3, .inl f_mzr)), (h_mvals, .inl (cJ, 17, .inr (.inl f_mvals))), (h_mtold, .inl (cI, 96, .inl f_mtold)), (h_mpage, .inl (cI, 40, .inl f_mpage))] sz)) 0 0 (va_A [(h_md, .inr (10, [.int x_dcNow, .int x_humNow, .int x_wave, .int x_noiseNow, .long x_seedNow, .long x_tick, .int x_range, .int (bI x_isAuto), .int x_offset, .int x_creep, .int x_factor, .int x_shift, .int x_cycles, .int x_zeroing, .int x_most, .int x_window, .int (bI x_wasConversion), .int x_plus, .int x_minus, .int x_switched, .ref h_mcnt, .long x_charge, .int (bI x_wasOver), .long x_sum, .long x_flowed, .int (bI x_wasShorted), .int x_rangeThen, .ref h_mzs, .ref h_mzc, .ref h_mzr, .int x_held, .ref h_mvals, .int x_kept, .ref h_mtold, .int x_readings, .int x_readingsOver, .int x_conversions, .int x_shortedOnes, .int x_madeMore, .int x_madeLess, .int x_jumps, .int x_settings, .int x_pageLength, .ref h_mpage, .int x_command, .int x_figures, .int x_number, .int (bI x_isBelow), .long x_h])), (h_mcnt, .inl (cI, 4, .inl f_mcnt)), (h_mzs, .inl (cJ, 3, .inr (.inl f_mzs))), (h_mzc, .inl (cI, 3, .inl f_mzc)), (h_mzr, .inl (cI, 3, .inl f_mzr)), (h_mvals, .inl (cJ, 17, .inr (.inl f_mvals))), (h_mtold, .inl (cI, 96, .inl f_mtold)), (h_mpage, .inl (cI, 40, .inl f_mpage))] sz) := by
  refine g_met (cc := cX10_latest) (maxL := 2) (ret := (some .int)) (Qc := gQi D cI cJ (f_X10_latest x_wasConversion x_plus x_minus x_switched x_charge x_wasOver x_sum x_flowed x_wasShorted x_rangeThen f_mcnt p0) _ _) (by decide) rfl (Nat.le_of_ble_eq_true rfl) ?_
  intro A p e s m below meth c hx hb hr hml hts hown hlk hnm hP hK hD hE hA hS ls hl
  have hown : s.vm.findClass RX10 = some m.cls := hown
  have hl : lv_has ls 2 [(0, .ref h_md), (1, .int p0)] := hl
  have hi10 : ∀ w ∈ u_ws RX10 TX10 49, w ∈ wsX10_latest := fun w h9 => List.mem_cons_of_mem _ (List.mem_append_right _ h9)
  have hm1 := hts (.constant RX10 54 (-1000000002)) (List.mem_of_getElem? (i := 1) rfl)
  have hm2 := hts (.fieldLink RX10 224 "VoltSlopesModel" "wasConversion" "Z") (List.mem_of_getElem? (i := 2) rfl)
  have hm3 := hts (.constant RX10 120 (-1000000003)) (List.mem_of_getElem? (i := 3) rfl)
  have hF := f_X10_latest.eq_1 x_wasConversion x_plus x_minus x_switched x_charge x_wasOver x_sum x_flowed x_wasShorted x_rangeThen f_mcnt p0
  refine lv_iload_n hx hb dX10_latest_0 rfl (lv_at hl 1 rfl) ?_
  refine lv_iconst (v := 0) hx hb dX10_latest_1 (by decide) ?_
  refine lv_bipush (v := 14) hx hb dX10_latest_2 (by decide) ?_
  refine g_csz (rest := []) ⟨hx, hb, hml, hown, hts⟩ hP hD hK hS hA hE (c_X10_within l D cI cJ s.heap.size p0 (0 : Int32) (14 : Int32)) (va_cwS 3 hts gX10_latest_X10_within rfl rfl rfl (by decide +kernel) ⟨Nat.le_of_ble_eq_true rfl, Nat.le_of_ble_eq_true rfl⟩) rfl hl rfl (Nat.le_of_ble_eq_true rfl) ⟨Nat.zero_le _, Nat.zero_le _⟩ dX10_latest_4 (fun r_4_1 H locs hw_1 hx_1 hP hS => ?_)
  have hwi_4 := within_in hw_1
  have hF := hF
  rw [hw_1] at hF
  try dsimp only at hF
  refine lv_if_ne (tgt := 13) hx hb dX10_latest_7 (by decide) (fun c_7_2w => ?_) (fun c_7_2w => ?_)
  · have c_7_2 := bI_t c_7_2w
    have hF := hF.trans (if_pos c_7_2)
    refine lv_aload_n hx hb dX10_latest_13 rfl (lv_at hl 0 rfl) ?_
    refine va_get (D := D) (ci := 10) (v := .int (bI x_wasConversion)) (C := RX10) (T := TX10) (N := 49) hx hb hts hi10 hown hK hP 0 rfl rfl 16 (by decide) hm2 (fun _ h9 => h9) rfl dX10_latest_14 ?_
    refine lv_if_eq (tgt := 28) hx hb dX10_latest_17 (by decide) (fun c_17_3w => ?_) (fun c_17_3w => ?_)
    · have c_17_3 := bI_f2 c_17_3w
      have hF := hF.trans (if_neg c_17_3)
      refine lv_ldc hx hb hown hm3 dX10_latest_28 ?_
      exact g_iret () hx hb hr hlk hP hK hD hS hF trivial rfl dX10_latest_30
    · have c_17_3 := bI_t c_17_3w
      have hF := hF.trans (if_pos c_17_3)
      refine lv_aload_n hx hb dX10_latest_20 rfl (lv_at hl 0 rfl) ?_
      refine lv_iload_n hx hb dX10_latest_21 rfl (lv_at hl 1 rfl) ?_
      refine g_cvi (rest := []) ⟨hx, hb, hml, hown, hts⟩ hP hD hK hS hA hE (c_X10_latestNow l D cI cJ h_md h_mcnt h_mzs h_mzc h_mzr h_mvals h_mtold h_mpage H.size x_dcNow x_humNow x_wave x_noiseNow x_seedNow x_tick x_range x_isAuto x_offset x_creep x_factor x_shift x_cycles x_zeroing x_most x_window x_wasConversion x_plus x_minus x_switched x_charge x_wasOver x_sum x_flowed x_wasShorted x_rangeThen x_held x_kept x_readings x_readingsOver x_conversions x_shortedOnes x_madeMore x_madeLess x_jumps x_settings x_pageLength x_command x_figures x_number x_isBelow x_h f_mcnt f_mzs f_mzc f_mzr f_mvals f_mtold f_mpage p0 (by have h8 := hwi_4 (by with_reducible assumption); have e1 : (0 : Int32).toInt = 0 := (by decide); have e2 : (14 : Int32).toInt = 14 := (by decide); omega)) (cwV 1 hts gX10_latest_X10_latestNow rfl rfl rfl (by decide +kernel) ⟨Nat.le_of_ble_eq_true rfl, Nat.le_of_ble_eq_true rfl⟩) [0, 1, 2, 3, 4, 5, 6, 7] [] rfl rfl rfl rfl rfl 10 0 rfl rfl rfl hl rfl (Nat.le_of_ble_eq_true rfl) ⟨Nat.zero_le _, Nat.zero_le _⟩ dX10_latest_22 (fun r_22_4 u_4 H locs hw_4 hx_4 hP hD hS => ?_)
      obtain ⟨hP, hD⟩ := g_re (ws' := [(h_md, .inr (10, [.int x_dcNow, .int x_humNow, .int x_wave, .int x_noiseNow, .long x_seedNow, .long x_tick, .int x_range, .int (bI x_isAuto), .int x_offset, .int x_creep, .int x_factor, .int x_shift, .int x_cycles, .int x_zeroing, .int x_most, .int x_window, .int (bI x_wasConversion), .int x_plus, .int x_minus, .int x_switched, .ref h_mcnt, .long x_charge, .int (bI x_wasOver), .long x_sum, .long x_flowed, .int (bI x_wasShorted), .int x_rangeThen, .ref h_mzs, .ref h_mzc, .ref h_mzr, .int x_held, .ref h_mvals, .int x_kept, .ref h_mtold, .int x_readings, .int x_readingsOver, .int x_conversions, .int x_shortedOnes, .int x_madeMore, .int x_madeLess, .int x_jumps, .int x_settings, .int x_pageLength, .ref h_mpage, .int x_command, .int x_figures, .int x_number, .int (bI x_isBelow), .long x_h])), (h_mcnt, .inl (cI, 4, .inl f_mcnt)), (h_mzs, .inl (cJ, 3, .inr (.inl f_mzs))), (h_mzc, .inl (cI, 3, .inl f_mzc)), (h_mzr, .inl (cI, 3, .inl f_mzr)), (h_mvals, .inl (cJ, 17, .inr (.inl f_mvals))), (h_mtold, .inl (cI, 96, .inl f_mtold)), (h_mpage, .inl (cI, 40, .inl f_mpage))]) rfl hP hD
      have hF := hF
      rw [hw_4] at hF
      try dsimp only at hF
      refine lv_goto (tgt := 30) hx hb dX10_latest_25 (by decide) ?_
      exact g_iret () hx hb hr hlk hP hK hD hS hF trivial rfl dX10_latest_30
  · have c_7_2 := bI_f2 c_7_2w
    have hF := hF.trans (if_neg c_7_2)
    refine lv_ldc hx hb hown hm1 dX10_latest_10 ?_
    exact g_iret () hx hb hr hlk hP hK hD hS hF trivial rfl dX10_latest_12

noncomputable def f_X10_reading (x_kept : Int32) (f_mtold : Nat → Int32) (p0 : Int32) (p1 : Int32) : (Int32 × Unit) := (match (f_X10_within p0 (0 : Int32) (x_kept - (1 : Int32))) with | (r_8_1, _) => (if r_8_1 = true then (match (f_X10_within p1 (0 : Int32) (7 : Int32)) with | (r_22_3, _) => (if r_22_3 = true then ((f_mtold (((8 : Int32) * p0) + p1).toNatClampNeg), ()) else ((-1000000002 : Int32), ()))) else ((-1000000001 : Int32), ())))
set_option maxHeartbeats 4000000 in
set_option maxRecDepth 100000 in
theorem c_X10_reading (l : Launch) (D : va_G) (cI cJ : ClassId) (h_md h_mcnt h_mzs h_mzc h_mzr h_mvals h_mtold h_mpage : Nat) (sz : Nat) (x_dcNow : Int32) (x_humNow : Int32) (x_wave : Int32) (x_noiseNow : Int32) (x_seedNow : Int64) (x_tick : Int64) (x_range : Int32) (x_isAuto : Bool) (x_offset : Int32) (x_creep : Int32) (x_factor : Int32) (x_shift : Int32) (x_cycles : Int32) (x_zeroing : Int32) (x_most : Int32) (x_window : Int32) (x_wasConversion : Bool) (x_plus : Int32) (x_minus : Int32) (x_switched : Int32) (x_charge : Int64) (x_wasOver : Bool) (x_sum : Int64) (x_flowed : Int64) (x_wasShorted : Bool) (x_rangeThen : Int32) (x_held : Int32) (x_kept : Int32) (x_readings : Int32) (x_readingsOver : Int32) (x_conversions : Int32) (x_shortedOnes : Int32) (x_madeMore : Int32) (x_madeLess : Int32) (x_jumps : Int32) (x_settings : Int32) (x_pageLength : Int32) (x_command : Int32) (x_figures : Int32) (x_number : Int32) (x_isBelow : Bool) (x_h : Int64) (f_mcnt : Nat → Int32) (f_mzs : Nat → Int64) (f_mzc : Nat → Int32) (f_mzr : Nat → Int32) (f_mvals : Nat → Int64) (f_mtold : Nat → Int32) (f_mpage : Nat → Int32) (p0 : Int32) (p1 : Int32) (hkp : 0 ≤ x_kept.toInt ∧ x_kept.toInt ≤ 12) : Met l yX10_reading wsX10_reading ({ frames := 1, cells := 0, slots := 0, locals := 22 }) (gPc D cI cJ [.ref h_md, .int p0, .int p1] [(h_md, .inr (10, [.int x_dcNow, .int x_humNow, .int x_wave, .int x_noiseNow, .long x_seedNow, .long x_tick, .int x_range, .int (bI x_isAuto), .int x_offset, .int x_creep, .int x_factor, .int x_shift, .int x_cycles, .int x_zeroing, .int x_most, .int x_window, .int (bI x_wasConversion), .int x_plus, .int x_minus, .int x_switched, .ref h_mcnt, .long x_charge, .int (bI x_wasOver), .long x_sum, .long x_flowed, .int (bI x_wasShorted), .int x_rangeThen, .ref h_mzs, .ref h_mzc, .ref h_mzr, .int x_held, .ref h_mvals, .int x_kept, .ref h_mtold, .int x_readings, .int x_readingsOver, .int x_conversions, .int x_shortedOnes, .int x_madeMore, .int x_madeLess, .int x_jumps, .int x_settings, .int x_pageLength, .ref h_mpage, .int x_command, .int x_figures, .int x_number, .int (bI x_isBelow), .long x_h])), (h_mcnt, .inl (cI, 4, .inl f_mcnt)), (h_mzs, .inl (cJ, 3, .inr (.inl f_mzs))), (h_mzc, .inl (cI, 3, .inl f_mzc)), (h_mzr, .inl (cI, 3, .inl f_mzr)), (h_mvals, .inl (cJ, 17, .inr (.inl f_mvals))), (h_mtold, .inl (cI, 96, .inl f_mtold)), (h_mpage, .inl (cI, 40, .inl f_mpage))] sz) (gQi D cI cJ (f_X10_reading x_kept f_mtold p0 p1) (fun _ _ => True) (fun _ : Unit => [(h_md, .inr (10, [.int x_dcNow, .int x_humNow, .int x_wave, .int x_noiseNow, .long x_seedNow, .long x_tick, .int x_range, .int (bI x_isAuto), .int x_offset, .int x_creep, .int x_factor, .int x_shift, .int x_cycles, .int x_zeroing, .int x_most, .int x_window, .int (bI x_wasConversion), .int x_plus, .int x_minus, .int x_switched, .ref h_mcnt, .long x_charge, .int (bI x_wasOver), .long x_sum, .long x_flowed, .int (bI x_wasShorted), .int x_rangeThen, .ref h_mzs, .ref h_mzc, .ref h_mzr, .int x_held, .ref h_mvals, .int x_kept, .ref h_mtold, .int x_readings, .int x_readingsOver, .int x_conversions, .int x_shortedOnes, .int x_madeMore, .int x_madeLess, .int x_jumps, .int x_settings, .int x_pageLength, .ref h_mpage, .int x_command, .int x_figures, .int x_number, .int (bI x_isBelow), .long x_h])), (h_mcnt, .inl (cI, 4, .inl f_mcnt)), (h_mzs, .inl (cJ, 3, .inr (.inl f_mzs))), (h_mzc, .inl (cI, 3, .inl f_mzc)), (h_mzr, .inl (cI, 3, .inl f_mzr)), (h_mvals, .inl (cJ, 17, .inr (.inl f_mvals))), (h_mtold, .inl (cI, 96, .inl f_mtold)), (h_mpage, .inl (cI, 40, .inl f_mpage))]) (va_A [(h_md, .inr (10, [.int x_dcNow, .int x_humNow, .int x_wave, .int x_noiseNow, .long x_seedNow, .long x_tick, .int x_range, .int (bI x_isAuto), .int x_offset, .int x_creep, .int x_factor, .int x_shift, .int x_cycles, .int x_zeroing, .int x_most, .int x_window, .int (bI x_wasConversion), .int x_plus, .int x_minus, .int x_switched, .ref h_mcnt, .long x_charge, .int (bI x_wasOver), .long x_sum, .long x_flowed, .int (bI x_wasShorted), .int x_rangeThen, .ref h_mzs, .ref h_mzc, .ref h_mzr, .int x_held, .ref h_mvals, .int x_kept, .ref h_mtold, .int x_readings, .int x_readingsOver, .int x_conversions, .int x_shortedOnes, .int x_madeMore, .int x_madeLess, .int x_jumps, .int x_settings, .int x_pageLength, .ref h_mpage, .int x_command, .int x_figures, .int x_number, .int (bI x_isBelow), .long x_h])), (h_mcnt, .inl (cI, 4, .inl f_mcnt)), (h_mzs, .inl (cJ, 3, .inr (.inl f_mzs))), (h_mzc, .inl (cI, 3, .inl f_mzc)), (h_mzr, .inl (cI, 3, .inl f_mzr)), (h_mvals, .inl (cJ, 17, .inr (.inl f_mvals))), (h_mtold, .inl (cI, 96, .inl f_mtold)), (h_mpage, .inl (cI, 40, .inl f_mpage))] sz)) 0 0 (va_A [(h_md, .inr (10, [.int x_dcNow, .int x_humNow, .int x_wave, .int x_noiseNow, .long x_seedNow, .long x_tick, .int x_range, .int (bI x_isAuto), .int x_offset, .int x_creep, .int x_factor, .int x_shift, .int x_cycles, .int x_zeroing, .int x_most, .int x_window, .int (bI x_wasConversion), .int x_plus, .int x_minus, .int x_switched, .ref h_mcnt, .long x_charge, .int (bI x_wasOver), .long x_sum, .long x_flowed, .int (bI x_wasShorted), .int x_rangeThen, .ref h_mzs, .ref h_mzc, .ref h_mzr, .int x_held, .ref h_mvals, .int x_kept, .ref h_mtold, .int x_readings, .int x_readingsOver, .int x_conversions, .int x_shortedOnes, .int x_madeMore, .int x_madeLess, .int x_jumps, .int x_settings, .int x_pageLength, .ref h_mpage, .int x_command, .int x_figures, .int x_number, .int (bI x_isBelow), .long x_h])), (h_mcnt, .inl (cI, 4, .inl f_mcnt)), (h_mzs, .inl (cJ, 3, .inr (.inl f_mzs))), (h_mzc, .inl (cI, 3, .inl f_mzc)), (h_mzr, .inl (cI, 3, .inl f_mzr)), (h_mvals, .inl (cJ, 17, .inr (.inl f_mvals))), (h_mtold, .inl (cI, 96, .inl f_mtold)), (h_mpage, .inl (cI, 40, .inl f_mpage))] sz) := by
  refine g_met (cc := cX10_reading) (maxL := 3) (ret := (some .int)) (Qc := gQi D cI cJ (f_X10_reading x_kept f_mtold p0 p1) _ _) (by decide) rfl (Nat.le_of_ble_eq_true rfl) ?_
  intro A p e s m below meth c hx hb hr hml hts hown hlk hnm hP hK hD hE hA hS ls hl
  have hown : s.vm.findClass RX10 = some m.cls := hown
  have hl : lv_has ls 3 [(0, .ref h_md), (1, .int p0), (2, .int p1)] := hl
  have hi10 : ∀ w ∈ u_ws RX10 TX10 49, w ∈ wsX10_reading := fun w h9 => List.mem_cons_of_mem _ (List.mem_append_right _ h9)
  have hm1 := hts (.fieldLink RX10 280 "VoltSlopesModel" "kept" "I") (List.mem_of_getElem? (i := 1) rfl)
  have hm2 := hts (.constant RX10 312 (-1000000001)) (List.mem_of_getElem? (i := 2) rfl)
  have hm3 := hts (.fieldLink RX10 44 "VoltSlopesModel" "told" "[I") (List.mem_of_getElem? (i := 3) rfl)
  have hm4 := hts (.constant RX10 54 (-1000000002)) (List.mem_of_getElem? (i := 4) rfl)
  have hF := f_X10_reading.eq_1 x_kept f_mtold p0 p1
  refine lv_iload_n hx hb dX10_reading_0 rfl (lv_at hl 1 rfl) ?_
  refine lv_iconst (v := 0) hx hb dX10_reading_1 (by decide) ?_
  refine lv_aload_n hx hb dX10_reading_2 rfl (lv_at hl 0 rfl) ?_
  refine va_get (D := D) (ci := 10) (v := .int x_kept) (C := RX10) (T := TX10) (N := 49) hx hb hts hi10 hown hK hP 0 rfl rfl 32 (by decide) hm1 (fun _ h9 => h9) rfl dX10_reading_3 ?_
  refine lv_iconst (v := 1) hx hb dX10_reading_6 (by decide) ?_
  refine lv_isub hx hb dX10_reading_7 ?_
  refine g_csz (rest := []) ⟨hx, hb, hml, hown, hts⟩ hP hD hK hS hA hE (c_X10_within l D cI cJ s.heap.size p0 (0 : Int32) (x_kept - (1 : Int32))) (va_cwS 3 hts gX10_reading_X10_within rfl rfl rfl (by decide +kernel) ⟨Nat.le_of_ble_eq_true rfl, Nat.le_of_ble_eq_true rfl⟩) rfl hl rfl (Nat.le_of_ble_eq_true rfl) ⟨Nat.zero_le _, Nat.zero_le _⟩ dX10_reading_8 (fun r_8_1 H locs hw_1 hx_1 hP hS => ?_)
  have hwi_8 := within_in hw_1
  have hF := hF
  rw [hw_1] at hF
  try dsimp only at hF
  refine lv_if_ne (tgt := 18) hx hb dX10_reading_11 (by decide) (fun c_11_2w => ?_) (fun c_11_2w => ?_)
  · have c_11_2 := bI_t c_11_2w
    have hF := hF.trans (if_pos c_11_2)
    refine lv_iload_n hx hb dX10_reading_18 rfl (lv_at hl 2 rfl) ?_
    refine lv_iconst (v := 0) hx hb dX10_reading_19 (by decide) ?_
    refine lv_bipush (v := 7) hx hb dX10_reading_20 (by decide) ?_
    refine g_csz (rest := []) ⟨hx, hb, hml, hown, hts⟩ hP hD hK hS hA hE (c_X10_within l D cI cJ H.size p1 (0 : Int32) (7 : Int32)) (va_cwS 3 hts gX10_reading_X10_within rfl rfl rfl (by decide +kernel) ⟨Nat.le_of_ble_eq_true rfl, Nat.le_of_ble_eq_true rfl⟩) rfl hl rfl (Nat.le_of_ble_eq_true rfl) ⟨Nat.zero_le _, Nat.zero_le _⟩ dX10_reading_22 (fun r_22_3 H locs hw_3 hx_3 hP hS => ?_)
    have hwi_22 := within_in hw_3
    have hF := hF
    rw [hw_3] at hF
    try dsimp only at hF
    refine lv_if_eq (tgt := 42) hx hb dX10_reading_25 (by decide) (fun c_25_4w => ?_) (fun c_25_4w => ?_)
    · have c_25_4 := bI_f2 c_25_4w
      have hF := hF.trans (if_neg c_25_4)
      refine lv_ldc hx hb hown hm4 dX10_reading_42 ?_
      exact g_iret () hx hb hr hlk hP hK hD hS hF trivial rfl dX10_reading_44
    · have c_25_4 := bI_t c_25_4w
      have hF := hF.trans (if_pos c_25_4)
      refine lv_aload_n hx hb dX10_reading_28 rfl (lv_at hl 0 rfl) ?_
      refine va_get (D := D) (ci := 10) (v := .ref h_mtold) (C := RX10) (T := TX10) (N := 49) hx hb hts hi10 hown hK hP 0 rfl rfl 33 (by decide) hm3 (fun _ h9 => h9) rfl dX10_reading_29 ?_
      refine lv_bipush (v := 8) hx hb dX10_reading_32 (by decide) ?_
      refine lv_iload_n hx hb dX10_reading_34 rfl (lv_at hl 1 rfl) ?_
      refine lv_imul hx hb dX10_reading_35 ?_
      refine lv_iload_n hx hb dX10_reading_36 rfl (lv_at hl 2 rfl) ?_
      refine lv_iadd hx hb dX10_reading_37 ?_
      refine va_iald hx hb hK hP 6 0 rfl rfl (read_in hkp (hwi_8 (by with_reducible assumption)) (hwi_22 (by with_reducible assumption))) dX10_reading_38 ?_
      refine lv_goto (tgt := 44) hx hb dX10_reading_39 (by decide) ?_
      exact g_iret () hx hb hr hlk hP hK hD hS hF trivial rfl dX10_reading_44
  · have c_11_2 := bI_f2 c_11_2w
    have hF := hF.trans (if_neg c_11_2)
    refine lv_ldcw hx hb hown hm2 dX10_reading_14 ?_
    exact g_iret () hx hb hr hlk hP hK hD hS hF trivial rfl dX10_reading_17

noncomputable def f_X10_bound_L21 (x_held : Int32) (f_mvals : Nat → Int64) (p0 : Bool) (K : Int64 → (Int32 × Unit)) : Nat → (Int64 × Int32) → (Int32 × Unit)
  | 0, _ => K default
  | n + 1, (l2_28, l4_28) => (if x_held ≤ l4_28 then (K l2_28) else (gBind (fun (k_36 : Int64 → (Int32 × Unit)) => (if p0 = true then (if (f_mvals l4_28.toNatClampNeg) ≤ l2_28 then (k_36 l2_28) else (k_36 (f_mvals l4_28.toNatClampNeg))) else (if l2_28 ≤ (f_mvals l4_28.toNatClampNeg) then (k_36 l2_28) else (k_36 (f_mvals l4_28.toNatClampNeg))))) (fun k0_36 => (f_X10_bound_L21 x_held f_mvals p0 K n (k0_36, (l4_28 + 1))))))
noncomputable def f_X10_bound (x_held : Int32) (f_mvals : Nat → Int64) (p0 : Bool) : (Int32 × Unit) := (gBind (fun (k_2 : Int64 → (Int32 × Unit)) => (if x_held = (0 : Int32) then (k_2 (0 : Int64)) else (k_2 (f_mvals (0 : Int32).toNatClampNeg)))) (fun k0_2 => (f_X10_bound_L21 x_held f_mvals p0 (fun l2_29 => ((l2_29 / (1000 : Int64)).toInt32, ())) (((x_held).toInt.toNat + 1)) (k0_2, (1 : Int32)))))
set_option maxHeartbeats 4000000 in
set_option maxRecDepth 100000 in
theorem c_X10_bound (l : Launch) (D : va_G) (cI cJ : ClassId) (h_md h_mcnt h_mzs h_mzc h_mzr h_mvals h_mtold h_mpage : Nat) (sz : Nat) (x_dcNow : Int32) (x_humNow : Int32) (x_wave : Int32) (x_noiseNow : Int32) (x_seedNow : Int64) (x_tick : Int64) (x_range : Int32) (x_isAuto : Bool) (x_offset : Int32) (x_creep : Int32) (x_factor : Int32) (x_shift : Int32) (x_cycles : Int32) (x_zeroing : Int32) (x_most : Int32) (x_window : Int32) (x_wasConversion : Bool) (x_plus : Int32) (x_minus : Int32) (x_switched : Int32) (x_charge : Int64) (x_wasOver : Bool) (x_sum : Int64) (x_flowed : Int64) (x_wasShorted : Bool) (x_rangeThen : Int32) (x_held : Int32) (x_kept : Int32) (x_readings : Int32) (x_readingsOver : Int32) (x_conversions : Int32) (x_shortedOnes : Int32) (x_madeMore : Int32) (x_madeLess : Int32) (x_jumps : Int32) (x_settings : Int32) (x_pageLength : Int32) (x_command : Int32) (x_figures : Int32) (x_number : Int32) (x_isBelow : Bool) (x_h : Int64) (f_mcnt : Nat → Int32) (f_mzs : Nat → Int64) (f_mzc : Nat → Int32) (f_mzr : Nat → Int32) (f_mvals : Nat → Int64) (f_mtold : Nat → Int32) (f_mpage : Nat → Int32) (p0 : Bool) (hh : x_held.toInt ≤ 17) : Met l yX10_bound wsX10_bound ({ frames := 0, cells := 0, slots := 0, locals := 0 }) (gPc D cI cJ [.ref h_md, .int (bI p0)] [(h_md, .inr (10, [.int x_dcNow, .int x_humNow, .int x_wave, .int x_noiseNow, .long x_seedNow, .long x_tick, .int x_range, .int (bI x_isAuto), .int x_offset, .int x_creep, .int x_factor, .int x_shift, .int x_cycles, .int x_zeroing, .int x_most, .int x_window, .int (bI x_wasConversion), .int x_plus, .int x_minus, .int x_switched, .ref h_mcnt, .long x_charge, .int (bI x_wasOver), .long x_sum, .long x_flowed, .int (bI x_wasShorted), .int x_rangeThen, .ref h_mzs, .ref h_mzc, .ref h_mzr, .int x_held, .ref h_mvals, .int x_kept, .ref h_mtold, .int x_readings, .int x_readingsOver, .int x_conversions, .int x_shortedOnes, .int x_madeMore, .int x_madeLess, .int x_jumps, .int x_settings, .int x_pageLength, .ref h_mpage, .int x_command, .int x_figures, .int x_number, .int (bI x_isBelow), .long x_h])), (h_mcnt, .inl (cI, 4, .inl f_mcnt)), (h_mzs, .inl (cJ, 3, .inr (.inl f_mzs))), (h_mzc, .inl (cI, 3, .inl f_mzc)), (h_mzr, .inl (cI, 3, .inl f_mzr)), (h_mvals, .inl (cJ, 17, .inr (.inl f_mvals))), (h_mtold, .inl (cI, 96, .inl f_mtold)), (h_mpage, .inl (cI, 40, .inl f_mpage))] sz) (gQi D cI cJ (f_X10_bound x_held f_mvals p0) (fun _ _ => True) (fun _ : Unit => [(h_md, .inr (10, [.int x_dcNow, .int x_humNow, .int x_wave, .int x_noiseNow, .long x_seedNow, .long x_tick, .int x_range, .int (bI x_isAuto), .int x_offset, .int x_creep, .int x_factor, .int x_shift, .int x_cycles, .int x_zeroing, .int x_most, .int x_window, .int (bI x_wasConversion), .int x_plus, .int x_minus, .int x_switched, .ref h_mcnt, .long x_charge, .int (bI x_wasOver), .long x_sum, .long x_flowed, .int (bI x_wasShorted), .int x_rangeThen, .ref h_mzs, .ref h_mzc, .ref h_mzr, .int x_held, .ref h_mvals, .int x_kept, .ref h_mtold, .int x_readings, .int x_readingsOver, .int x_conversions, .int x_shortedOnes, .int x_madeMore, .int x_madeLess, .int x_jumps, .int x_settings, .int x_pageLength, .ref h_mpage, .int x_command, .int x_figures, .int x_number, .int (bI x_isBelow), .long x_h])), (h_mcnt, .inl (cI, 4, .inl f_mcnt)), (h_mzs, .inl (cJ, 3, .inr (.inl f_mzs))), (h_mzc, .inl (cI, 3, .inl f_mzc)), (h_mzr, .inl (cI, 3, .inl f_mzr)), (h_mvals, .inl (cJ, 17, .inr (.inl f_mvals))), (h_mtold, .inl (cI, 96, .inl f_mtold)), (h_mpage, .inl (cI, 40, .inl f_mpage))]) (va_A [(h_md, .inr (10, [.int x_dcNow, .int x_humNow, .int x_wave, .int x_noiseNow, .long x_seedNow, .long x_tick, .int x_range, .int (bI x_isAuto), .int x_offset, .int x_creep, .int x_factor, .int x_shift, .int x_cycles, .int x_zeroing, .int x_most, .int x_window, .int (bI x_wasConversion), .int x_plus, .int x_minus, .int x_switched, .ref h_mcnt, .long x_charge, .int (bI x_wasOver), .long x_sum, .long x_flowed, .int (bI x_wasShorted), .int x_rangeThen, .ref h_mzs, .ref h_mzc, .ref h_mzr, .int x_held, .ref h_mvals, .int x_kept, .ref h_mtold, .int x_readings, .int x_readingsOver, .int x_conversions, .int x_shortedOnes, .int x_madeMore, .int x_madeLess, .int x_jumps, .int x_settings, .int x_pageLength, .ref h_mpage, .int x_command, .int x_figures, .int x_number, .int (bI x_isBelow), .long x_h])), (h_mcnt, .inl (cI, 4, .inl f_mcnt)), (h_mzs, .inl (cJ, 3, .inr (.inl f_mzs))), (h_mzc, .inl (cI, 3, .inl f_mzc)), (h_mzr, .inl (cI, 3, .inl f_mzr)), (h_mvals, .inl (cJ, 17, .inr (.inl f_mvals))), (h_mtold, .inl (cI, 96, .inl f_mtold)), (h_mpage, .inl (cI, 40, .inl f_mpage))] sz)) 0 0 (va_A [(h_md, .inr (10, [.int x_dcNow, .int x_humNow, .int x_wave, .int x_noiseNow, .long x_seedNow, .long x_tick, .int x_range, .int (bI x_isAuto), .int x_offset, .int x_creep, .int x_factor, .int x_shift, .int x_cycles, .int x_zeroing, .int x_most, .int x_window, .int (bI x_wasConversion), .int x_plus, .int x_minus, .int x_switched, .ref h_mcnt, .long x_charge, .int (bI x_wasOver), .long x_sum, .long x_flowed, .int (bI x_wasShorted), .int x_rangeThen, .ref h_mzs, .ref h_mzc, .ref h_mzr, .int x_held, .ref h_mvals, .int x_kept, .ref h_mtold, .int x_readings, .int x_readingsOver, .int x_conversions, .int x_shortedOnes, .int x_madeMore, .int x_madeLess, .int x_jumps, .int x_settings, .int x_pageLength, .ref h_mpage, .int x_command, .int x_figures, .int x_number, .int (bI x_isBelow), .long x_h])), (h_mcnt, .inl (cI, 4, .inl f_mcnt)), (h_mzs, .inl (cJ, 3, .inr (.inl f_mzs))), (h_mzc, .inl (cI, 3, .inl f_mzc)), (h_mzr, .inl (cI, 3, .inl f_mzr)), (h_mvals, .inl (cJ, 17, .inr (.inl f_mvals))), (h_mtold, .inl (cI, 96, .inl f_mtold)), (h_mpage, .inl (cI, 40, .inl f_mpage))] sz) := by
  refine g_met (cc := cX10_bound) (maxL := 5) (ret := (some .int)) (Qc := gQi D cI cJ (f_X10_bound x_held f_mvals p0) _ _) (by decide) rfl (Nat.le_of_ble_eq_true rfl) ?_
  intro A p e s m below meth c hx hb hr hml hts hown hlk hnm hP hK hD hE hA hS ls hl
  have hown : s.vm.findClass RX10 = some m.cls := hown
  have hl : lv_has ls 5 [(0, .ref h_md), (1, .int (bI p0))] := hl
  have hi10 : ∀ w ∈ u_ws RX10 TX10 49, w ∈ wsX10_bound := fun w h9 => List.mem_cons_of_mem _ (List.mem_append_right _ h9)
  have hm1 := hts (.fieldLink RX10 271 "VoltSlopesModel" "held" "I") (List.mem_of_getElem? (i := 1) rfl)
  have hm2 := hts (.fieldLink RX10 41 "VoltSlopesModel" "values" "[J") (List.mem_of_getElem? (i := 2) rfl)
  have hm3 := hts (.constantLong RX10 157 (1000)) (List.mem_of_getElem? (i := 3) rfl)
  have hF := f_X10_bound.eq_1 x_held f_mvals p0
  refine lv_aload_n hx hb dX10_bound_0 rfl (lv_at hl 0 rfl) ?_
  refine va_get (D := D) (ci := 10) (v := .int x_held) (C := RX10) (T := TX10) (N := 49) hx hb hts hi10 hown hK hP 0 rfl rfl 30 (by decide) hm1 (fun _ h9 => h9) rfl dX10_bound_1 ?_
  refine gJoinW (α := Int64) (fun v => [(h_md, .inr (10, [.int x_dcNow, .int x_humNow, .int x_wave, .int x_noiseNow, .long x_seedNow, .long x_tick, .int x_range, .int (bI x_isAuto), .int x_offset, .int x_creep, .int x_factor, .int x_shift, .int x_cycles, .int x_zeroing, .int x_most, .int x_window, .int (bI x_wasConversion), .int x_plus, .int x_minus, .int x_switched, .ref h_mcnt, .long x_charge, .int (bI x_wasOver), .long x_sum, .long x_flowed, .int (bI x_wasShorted), .int x_rangeThen, .ref h_mzs, .ref h_mzc, .ref h_mzr, .int x_held, .ref h_mvals, .int x_kept, .ref h_mtold, .int x_readings, .int x_readingsOver, .int x_conversions, .int x_shortedOnes, .int x_madeMore, .int x_madeLess, .int x_jumps, .int x_settings, .int x_pageLength, .ref h_mpage, .int x_command, .int x_figures, .int x_number, .int (bI x_isBelow), .long x_h])), (h_mcnt, .inl (cI, 4, .inl f_mcnt)), (h_mzs, .inl (cJ, 3, .inr (.inl f_mzs))), (h_mzc, .inl (cI, 3, .inl f_mzc)), (h_mzr, .inl (cI, 3, .inl f_mzr)), (h_mvals, .inl (cJ, 17, .inr (.inl f_mvals))), (h_mtold, .inl (cI, 96, .inl f_mtold)), (h_mpage, .inl (cI, 40, .inl f_mpage))]) (fun v => [(0, .ref h_md), (1, .int (bI p0))]) 17 (fun v => [.long v]) (fun v => True) hF hl hD hP (fun K_2 J_2 hF => ?_) (fun v hj_2 hF => ?_)
  · refine lv_if_ne (tgt := 11) hx hb dX10_bound_4 (by decide) (fun c_4_3 => ?_) (fun c_4_3 => ?_)
    · have hF := hF.trans (if_neg c_4_3)
      have i_4_3 : x_held.toInt ≠ 0 := gi_ne c_4_3 rfl (by decide)
      refine lv_aload_n hx hb dX10_bound_11 rfl (lv_at hl 0 rfl) ?_
      refine va_get (D := D) (ci := 10) (v := .ref h_mvals) (C := RX10) (T := TX10) (N := 49) hx hb hts hi10 hown hK hP 0 rfl rfl 31 (by decide) hm2 (fun _ h9 => h9) rfl dX10_bound_12 ?_
      refine lv_iconst (v := 0) hx hb dX10_bound_15 (by decide) ?_
      refine va_lald hx hb hK hP 5 1 rfl rfl (gi_in (by decide)) dX10_bound_16 ?_
      exact J_2 (f_mvals (0 : Int32).toNatClampNeg) (trivial) hF _ _ _ hP hD hS (lv_sub hl [0, 1] rfl)
    · have hF := hF.trans (if_pos c_4_3)
      have i_4_3 : x_held.toInt = 0 := gi_eq c_4_3 rfl (by decide)
      refine lv_lconst (v := 0) hx hb dX10_bound_7 (by decide) ?_
      refine lv_goto (tgt := 17) hx hb dX10_bound_8 (by decide) ?_
      exact J_2 (0 : Int64) (trivial) hF _ _ _ hP hD hS (lv_sub hl [0, 1] rfl)
  · obtain ⟨k0_2, rfl⟩ : ∃ z, z = v := ⟨_, rfl⟩
    intro H locs ls hP hD hS hl
    obtain ⟨hP, hD⟩ := g_re (ws' := [(h_md, .inr (10, [.int x_dcNow, .int x_humNow, .int x_wave, .int x_noiseNow, .long x_seedNow, .long x_tick, .int x_range, .int (bI x_isAuto), .int x_offset, .int x_creep, .int x_factor, .int x_shift, .int x_cycles, .int x_zeroing, .int x_most, .int x_window, .int (bI x_wasConversion), .int x_plus, .int x_minus, .int x_switched, .ref h_mcnt, .long x_charge, .int (bI x_wasOver), .long x_sum, .long x_flowed, .int (bI x_wasShorted), .int x_rangeThen, .ref h_mzs, .ref h_mzc, .ref h_mzr, .int x_held, .ref h_mvals, .int x_kept, .ref h_mtold, .int x_readings, .int x_readingsOver, .int x_conversions, .int x_shortedOnes, .int x_madeMore, .int x_madeLess, .int x_jumps, .int x_settings, .int x_pageLength, .ref h_mpage, .int x_command, .int x_figures, .int x_number, .int (bI x_isBelow), .long x_h])), (h_mcnt, .inl (cI, 4, .inl f_mcnt)), (h_mzs, .inl (cJ, 3, .inr (.inl f_mzs))), (h_mzc, .inl (cI, 3, .inl f_mzc)), (h_mzr, .inl (cI, 3, .inl f_mzr)), (h_mvals, .inl (cJ, 17, .inr (.inl f_mvals))), (h_mtold, .inl (cI, 96, .inl f_mtold)), (h_mpage, .inl (cI, 40, .inl f_mpage))]) rfl hP hD
    have hl : lv_has ls 5 [(0, .ref h_md), (1, .int (bI p0))] := hl
    show W p l e _ s m _ below meth c H locs _ _ _ (F0 m 17 ls [.long k0_2])
    refine lv_lstore_n (lv' := [(2, .long k0_2), (0, .ref h_md), (1, .int (bI p0))]) hx hb dX10_bound_17 rfl hl (by decide) rfl (fun ls hl => ?_)
    refine lv_iconst (v := 1) hx hb dX10_bound_18 (by decide) ?_
    refine lv_istore (lv' := [(4, .int (1 : Int32)), (2, .long k0_2), (0, .ref h_md), (1, .int (bI p0))]) hx hb dX10_bound_19 hl (by decide) rfl (fun ls hl => ?_)
    refine gLoopW (f := (f_X10_bound_L21 x_held f_mvals p0)) (α := (Int64 × Int32)) (β := Int64) (fun v => [(h_md, .inr (10, [.int x_dcNow, .int x_humNow, .int x_wave, .int x_noiseNow, .long x_seedNow, .long x_tick, .int x_range, .int (bI x_isAuto), .int x_offset, .int x_creep, .int x_factor, .int x_shift, .int x_cycles, .int x_zeroing, .int x_most, .int x_window, .int (bI x_wasConversion), .int x_plus, .int x_minus, .int x_switched, .ref h_mcnt, .long x_charge, .int (bI x_wasOver), .long x_sum, .long x_flowed, .int (bI x_wasShorted), .int x_rangeThen, .ref h_mzs, .ref h_mzc, .ref h_mzr, .int x_held, .ref h_mvals, .int x_kept, .ref h_mtold, .int x_readings, .int x_readingsOver, .int x_conversions, .int x_shortedOnes, .int x_madeMore, .int x_madeLess, .int x_jumps, .int x_settings, .int x_pageLength, .ref h_mpage, .int x_command, .int x_figures, .int x_number, .int (bI x_isBelow), .long x_h])), (h_mcnt, .inl (cI, 4, .inl f_mcnt)), (h_mzs, .inl (cJ, 3, .inr (.inl f_mzs))), (h_mzc, .inl (cI, 3, .inl f_mzc)), (h_mzr, .inl (cI, 3, .inl f_mzr)), (h_mvals, .inl (cJ, 17, .inr (.inl f_mvals))), (h_mtold, .inl (cI, 96, .inl f_mtold)), (h_mpage, .inl (cI, 40, .inl f_mpage))]) (fun v => [(0, .ref h_md), (1, .int (bI p0)), (2, .long v.1), (4, .int v.2)]) 21 (fun v => [(h_md, .inr (10, [.int x_dcNow, .int x_humNow, .int x_wave, .int x_noiseNow, .long x_seedNow, .long x_tick, .int x_range, .int (bI x_isAuto), .int x_offset, .int x_creep, .int x_factor, .int x_shift, .int x_cycles, .int x_zeroing, .int x_most, .int x_window, .int (bI x_wasConversion), .int x_plus, .int x_minus, .int x_switched, .ref h_mcnt, .long x_charge, .int (bI x_wasOver), .long x_sum, .long x_flowed, .int (bI x_wasShorted), .int x_rangeThen, .ref h_mzs, .ref h_mzc, .ref h_mzr, .int x_held, .ref h_mvals, .int x_kept, .ref h_mtold, .int x_readings, .int x_readingsOver, .int x_conversions, .int x_shortedOnes, .int x_madeMore, .int x_madeLess, .int x_jumps, .int x_settings, .int x_pageLength, .ref h_mpage, .int x_command, .int x_figures, .int x_number, .int (bI x_isBelow), .long x_h])), (h_mcnt, .inl (cI, 4, .inl f_mcnt)), (h_mzs, .inl (cJ, 3, .inr (.inl f_mzs))), (h_mzc, .inl (cI, 3, .inl f_mzc)), (h_mzr, .inl (cI, 3, .inl f_mzr)), (h_mvals, .inl (cJ, 17, .inr (.inl f_mvals))), (h_mtold, .inl (cI, 96, .inl f_mtold)), (h_mpage, .inl (cI, 40, .inl f_mpage))]) (fun v => [(2, .long v)]) 79 (fun v => True) (fun v => 0 ≤ (v.2).toInt) (fun v => ((x_held).toInt - (v.2).toInt).toNat) (a0 := (k0_2, (1 : Int32))) hF (by show 0 ≤ (((1 : Int32))).toInt; have h7 : (1 : Int32).toInt = 1 := (by decide); omega) (by show ((x_held).toInt - (((1 : Int32))).toInt).toNat < ((x_held).toInt.toNat + 1); have h7 : (1 : Int32).toInt = 1 := (by decide); omega) hP hD hS (lv_sub hl [2, 3, 1, 0] rfl) (fun v hxi_28 hF => ?_) (fun K_28 n JX_28 IH_28 v hi_28 hmu_28 hF => ?_)
    · obtain ⟨l2_29, rfl⟩ : ∃ z, z = v := ⟨_, rfl⟩
      intro H locs ls hP hD hS hl
      obtain ⟨hP, hD⟩ := g_re (ws' := [(h_md, .inr (10, [.int x_dcNow, .int x_humNow, .int x_wave, .int x_noiseNow, .long x_seedNow, .long x_tick, .int x_range, .int (bI x_isAuto), .int x_offset, .int x_creep, .int x_factor, .int x_shift, .int x_cycles, .int x_zeroing, .int x_most, .int x_window, .int (bI x_wasConversion), .int x_plus, .int x_minus, .int x_switched, .ref h_mcnt, .long x_charge, .int (bI x_wasOver), .long x_sum, .long x_flowed, .int (bI x_wasShorted), .int x_rangeThen, .ref h_mzs, .ref h_mzc, .ref h_mzr, .int x_held, .ref h_mvals, .int x_kept, .ref h_mtold, .int x_readings, .int x_readingsOver, .int x_conversions, .int x_shortedOnes, .int x_madeMore, .int x_madeLess, .int x_jumps, .int x_settings, .int x_pageLength, .ref h_mpage, .int x_command, .int x_figures, .int x_number, .int (bI x_isBelow), .long x_h])), (h_mcnt, .inl (cI, 4, .inl f_mcnt)), (h_mzs, .inl (cJ, 3, .inr (.inl f_mzs))), (h_mzc, .inl (cI, 3, .inl f_mzc)), (h_mzr, .inl (cI, 3, .inl f_mzr)), (h_mvals, .inl (cJ, 17, .inr (.inl f_mvals))), (h_mtold, .inl (cI, 96, .inl f_mtold)), (h_mpage, .inl (cI, 40, .inl f_mpage))]) rfl hP hD
      have hl : lv_has ls 5 [(2, .long l2_29)] := hl
      show W p l e _ s m _ below meth c H locs _ _ _ (F0 m 79 ls [])
      refine lv_lload_n hx hb dX10_bound_79 rfl (lv_at hl 0 rfl) ?_
      refine lv_ldc2 hx hb hown hm3 dX10_bound_80 ?_
      refine lv_ldiv hx hb dX10_bound_83 (by decide) ?_
      refine lv_l2i (v := (l2_29 / (1000 : Int64)).toInt32) hx hb dX10_bound_84 rfl ?_
      exact g_iret () hx hb hr hlk hP hK hD hS hF trivial rfl dX10_bound_85
    · obtain ⟨l2_28, l4_28⟩ := v
      intro H locs ls hP hD hS hl
      have hF := hF
      rw [f_X10_bound_L21] at hF
      obtain ⟨hP, hD⟩ := g_re (ws' := [(h_md, .inr (10, [.int x_dcNow, .int x_humNow, .int x_wave, .int x_noiseNow, .long x_seedNow, .long x_tick, .int x_range, .int (bI x_isAuto), .int x_offset, .int x_creep, .int x_factor, .int x_shift, .int x_cycles, .int x_zeroing, .int x_most, .int x_window, .int (bI x_wasConversion), .int x_plus, .int x_minus, .int x_switched, .ref h_mcnt, .long x_charge, .int (bI x_wasOver), .long x_sum, .long x_flowed, .int (bI x_wasShorted), .int x_rangeThen, .ref h_mzs, .ref h_mzc, .ref h_mzr, .int x_held, .ref h_mvals, .int x_kept, .ref h_mtold, .int x_readings, .int x_readingsOver, .int x_conversions, .int x_shortedOnes, .int x_madeMore, .int x_madeLess, .int x_jumps, .int x_settings, .int x_pageLength, .ref h_mpage, .int x_command, .int x_figures, .int x_number, .int (bI x_isBelow), .long x_h])), (h_mcnt, .inl (cI, 4, .inl f_mcnt)), (h_mzs, .inl (cJ, 3, .inr (.inl f_mzs))), (h_mzc, .inl (cI, 3, .inl f_mzc)), (h_mzr, .inl (cI, 3, .inl f_mzr)), (h_mvals, .inl (cJ, 17, .inr (.inl f_mvals))), (h_mtold, .inl (cI, 96, .inl f_mtold)), (h_mpage, .inl (cI, 40, .inl f_mpage))]) rfl hP hD
      have hl : lv_has ls 5 [(0, .ref h_md), (1, .int (bI p0)), (2, .long l2_28), (4, .int l4_28)] := hl
      show W p l e _ s m _ below meth c H locs _ _ _ (F0 m 21 ls [])
      have hi_28 : 0 ≤ (l4_28).toInt := hi_28
      have hmu_28 : ((x_held).toInt - (l4_28).toInt).toNat < n + 1 := hmu_28
      refine lv_iload hx hb dX10_bound_21 (lv_at hl 3 rfl) ?_
      refine lv_aload_n hx hb dX10_bound_23 rfl (lv_at hl 0 rfl) ?_
      refine va_get (D := D) (ci := 10) (v := .int x_held) (C := RX10) (T := TX10) (N := 49) hx hb hts hi10 hown hK hP 0 rfl rfl 30 (by decide) hm1 (fun _ h9 => h9) rfl dX10_bound_24 ?_
      refine lv_icmp_ge (tgt := 79) hx hb dX10_bound_27 (by decide) (fun c_27_30 => ?_) (fun c_27_30 => ?_)
      · have hF := hF.trans (if_pos c_27_30)
        have i_27_30 : x_held.toInt ≤ l4_28.toInt := gi_le c_27_30 rfl rfl
        exact JX_28 l2_28 (trivial) hF _ _ _ hP hD hS (lv_sub hl [2] rfl)
      · have hF := hF.trans (if_neg c_27_30)
        have i_27_30 : l4_28.toInt < x_held.toInt := gi_nle c_27_30 rfl rfl
        refine lv_iload_n hx hb dX10_bound_30 rfl (lv_at hl 1 rfl) ?_
        refine gJoinW (α := Int64) (fun v => [(h_md, .inr (10, [.int x_dcNow, .int x_humNow, .int x_wave, .int x_noiseNow, .long x_seedNow, .long x_tick, .int x_range, .int (bI x_isAuto), .int x_offset, .int x_creep, .int x_factor, .int x_shift, .int x_cycles, .int x_zeroing, .int x_most, .int x_window, .int (bI x_wasConversion), .int x_plus, .int x_minus, .int x_switched, .ref h_mcnt, .long x_charge, .int (bI x_wasOver), .long x_sum, .long x_flowed, .int (bI x_wasShorted), .int x_rangeThen, .ref h_mzs, .ref h_mzc, .ref h_mzr, .int x_held, .ref h_mvals, .int x_kept, .ref h_mtold, .int x_readings, .int x_readingsOver, .int x_conversions, .int x_shortedOnes, .int x_madeMore, .int x_madeLess, .int x_jumps, .int x_settings, .int x_pageLength, .ref h_mpage, .int x_command, .int x_figures, .int x_number, .int (bI x_isBelow), .long x_h])), (h_mcnt, .inl (cI, 4, .inl f_mcnt)), (h_mzs, .inl (cJ, 3, .inr (.inl f_mzs))), (h_mzc, .inl (cI, 3, .inl f_mzc)), (h_mzr, .inl (cI, 3, .inl f_mzr)), (h_mvals, .inl (cJ, 17, .inr (.inl f_mvals))), (h_mtold, .inl (cI, 96, .inl f_mtold)), (h_mpage, .inl (cI, 40, .inl f_mpage))]) (fun v => [(0, .ref h_md), (1, .int (bI p0)), (4, .int l4_28)]) 72 (fun v => [.long v]) (fun v => True) hF hl hD hP (fun K_36 J_36 hF => ?_) (fun v hj_36 hF => ?_)
        · refine lv_if_eq (tgt := 49) hx hb dX10_bound_31 (by decide) (fun c_31_37w => ?_) (fun c_31_37w => ?_)
          · have c_31_37 := bI_f2 c_31_37w
            have hF := hF.trans (if_neg c_31_37)
            refine lv_aload_n hx hb dX10_bound_49 rfl (lv_at hl 0 rfl) ?_
            refine va_get (D := D) (ci := 10) (v := .ref h_mvals) (C := RX10) (T := TX10) (N := 49) hx hb hts hi10 hown hK hP 0 rfl rfl 31 (by decide) hm2 (fun _ h9 => h9) rfl dX10_bound_50 ?_
            refine lv_iload hx hb dX10_bound_53 (lv_at hl 3 rfl) ?_
            refine va_lald hx hb hK hP 5 1 rfl rfl (gi_in ⟨by omega, by omega⟩) dX10_bound_55 ?_
            refine lv_lload_n hx hb dX10_bound_56 rfl (lv_at hl 2 rfl) ?_
            refine g_l_ge (tgt := 71) hx hb dX10_bound_57 dX10_bound_58 (by decide) (fun c_57_39 => ?_) (fun c_57_39 => ?_)
            · have hF := hF.trans (if_pos c_57_39)
              refine lv_lload_n hx hb dX10_bound_71 rfl (lv_at hl 2 rfl) ?_
              exact J_36 l2_28 (trivial) hF _ _ _ hP hD hS (lv_sub hl [0, 1, 3] rfl)
            · have hF := hF.trans (if_neg c_57_39)
              refine lv_aload_n hx hb dX10_bound_61 rfl (lv_at hl 0 rfl) ?_
              refine va_get (D := D) (ci := 10) (v := .ref h_mvals) (C := RX10) (T := TX10) (N := 49) hx hb hts hi10 hown hK hP 0 rfl rfl 31 (by decide) hm2 (fun _ h9 => h9) rfl dX10_bound_62 ?_
              refine lv_iload hx hb dX10_bound_65 (lv_at hl 3 rfl) ?_
              refine va_lald hx hb hK hP 5 1 rfl rfl (gi_in ⟨by omega, by omega⟩) dX10_bound_67 ?_
              refine lv_goto (tgt := 72) hx hb dX10_bound_68 (by decide) ?_
              exact J_36 (f_mvals l4_28.toNatClampNeg) (trivial) hF _ _ _ hP hD hS (lv_sub hl [0, 1, 3] rfl)
          · have c_31_37 := bI_t c_31_37w
            have hF := hF.trans (if_pos c_31_37)
            refine lv_aload_n hx hb dX10_bound_34 rfl (lv_at hl 0 rfl) ?_
            refine va_get (D := D) (ci := 10) (v := .ref h_mvals) (C := RX10) (T := TX10) (N := 49) hx hb hts hi10 hown hK hP 0 rfl rfl 31 (by decide) hm2 (fun _ h9 => h9) rfl dX10_bound_35 ?_
            refine lv_iload hx hb dX10_bound_38 (lv_at hl 3 rfl) ?_
            refine va_lald hx hb hK hP 5 1 rfl rfl (gi_in ⟨by omega, by omega⟩) dX10_bound_40 ?_
            refine lv_lload_n hx hb dX10_bound_41 rfl (lv_at hl 2 rfl) ?_
            refine g_l_le (tgt := 71) hx hb dX10_bound_42 dX10_bound_43 (by decide) (fun c_42_41 => ?_) (fun c_42_41 => ?_)
            · have hF := hF.trans (if_pos c_42_41)
              refine lv_lload_n hx hb dX10_bound_71 rfl (lv_at hl 2 rfl) ?_
              exact J_36 l2_28 (trivial) hF _ _ _ hP hD hS (lv_sub hl [0, 1, 3] rfl)
            · have hF := hF.trans (if_neg c_42_41)
              refine lv_goto (tgt := 61) hx hb dX10_bound_46 (by decide) ?_
              refine lv_aload_n hx hb dX10_bound_61 rfl (lv_at hl 0 rfl) ?_
              refine va_get (D := D) (ci := 10) (v := .ref h_mvals) (C := RX10) (T := TX10) (N := 49) hx hb hts hi10 hown hK hP 0 rfl rfl 31 (by decide) hm2 (fun _ h9 => h9) rfl dX10_bound_62 ?_
              refine lv_iload hx hb dX10_bound_65 (lv_at hl 3 rfl) ?_
              refine va_lald hx hb hK hP 5 1 rfl rfl (gi_in ⟨by omega, by omega⟩) dX10_bound_67 ?_
              refine lv_goto (tgt := 72) hx hb dX10_bound_68 (by decide) ?_
              exact J_36 (f_mvals l4_28.toNatClampNeg) (trivial) hF _ _ _ hP hD hS (lv_sub hl [0, 1, 3] rfl)
        · obtain ⟨k0_36, rfl⟩ : ∃ z, z = v := ⟨_, rfl⟩
          intro H locs ls hP hD hS hl
          obtain ⟨hP, hD⟩ := g_re (ws' := [(h_md, .inr (10, [.int x_dcNow, .int x_humNow, .int x_wave, .int x_noiseNow, .long x_seedNow, .long x_tick, .int x_range, .int (bI x_isAuto), .int x_offset, .int x_creep, .int x_factor, .int x_shift, .int x_cycles, .int x_zeroing, .int x_most, .int x_window, .int (bI x_wasConversion), .int x_plus, .int x_minus, .int x_switched, .ref h_mcnt, .long x_charge, .int (bI x_wasOver), .long x_sum, .long x_flowed, .int (bI x_wasShorted), .int x_rangeThen, .ref h_mzs, .ref h_mzc, .ref h_mzr, .int x_held, .ref h_mvals, .int x_kept, .ref h_mtold, .int x_readings, .int x_readingsOver, .int x_conversions, .int x_shortedOnes, .int x_madeMore, .int x_madeLess, .int x_jumps, .int x_settings, .int x_pageLength, .ref h_mpage, .int x_command, .int x_figures, .int x_number, .int (bI x_isBelow), .long x_h])), (h_mcnt, .inl (cI, 4, .inl f_mcnt)), (h_mzs, .inl (cJ, 3, .inr (.inl f_mzs))), (h_mzc, .inl (cI, 3, .inl f_mzc)), (h_mzr, .inl (cI, 3, .inl f_mzr)), (h_mvals, .inl (cJ, 17, .inr (.inl f_mvals))), (h_mtold, .inl (cI, 96, .inl f_mtold)), (h_mpage, .inl (cI, 40, .inl f_mpage))]) rfl hP hD
          have hl : lv_has ls 5 [(0, .ref h_md), (1, .int (bI p0)), (4, .int l4_28)] := hl
          show W p l e _ s m _ below meth c H locs _ _ _ (F0 m 72 ls [.long k0_36])
          refine lv_lstore_n (lv' := [(2, .long k0_36), (0, .ref h_md), (1, .int (bI p0)), (4, .int l4_28)]) hx hb dX10_bound_72 rfl hl (by decide) rfl (fun ls hl => ?_)
          refine lv_iinc (v := (l4_28 + 1)) (lv' := [(4, .int (l4_28 + 1)), (2, .long k0_36), (0, .ref h_md), (1, .int (bI p0))]) hx hb dX10_bound_73 hl (k := 3) rfl rfl (by decide) rfl (fun ls hl => ?_)
          refine lv_goto (tgt := 21) hx hb dX10_bound_76 (by decide) ?_
          exact IH_28 (k0_36, (l4_28 + 1)) (by show 0 ≤ ((l4_28 + 1)).toInt; have h8 := gi_max (x_held); have h9 := gi_inc (x := l4_28) (by omega); omega) (by show ((x_held).toInt - ((l4_28 + 1)).toInt).toNat < n; have h8 := gi_max (x_held); have h9 := gi_inc (x := l4_28) (by omega); omega) hF _ _ _ hP hD hS (lv_sub hl [2, 3, 1, 0] rfl)

noncomputable def f_X10_filterNow (x_most : Int32) (x_held : Int32) (f_mvals : Nat → Int64) (p0 : Int32) : (Int32 × Unit) := (if p0 = (0 : Int32) then (match (f_X10_shown x_held f_mvals) with | (r_33_2, _) => ((r_33_2 / (1000 : Int64)).toInt32, ())) else (if p0 = (1 : Int32) then (match (f_X10_shown x_held f_mvals) with | (r_43_3, _) => ((gRemL r_43_3 (1000 : Int64)).toInt32, ())) else (if p0 = (2 : Int32) then (x_held, ()) else (if p0 = (3 : Int32) then (if x_held = x_most then ((1 : Int32), ()) else ((0 : Int32), ())) else (if p0 = (5 : Int32) then (match (f_X10_bound x_held f_mvals true) with | (r_85_7, _) => (r_85_7, ())) else (match (f_X10_bound x_held f_mvals false) with | (r_85_6, _) => (r_85_6, ())))))))
set_option maxHeartbeats 4000000 in
set_option maxRecDepth 100000 in
theorem c_X10_filterNow (l : Launch) (D : va_G) (cI cJ : ClassId) (h_md h_mcnt h_mzs h_mzc h_mzr h_mvals h_mtold h_mpage : Nat) (sz : Nat) (x_dcNow : Int32) (x_humNow : Int32) (x_wave : Int32) (x_noiseNow : Int32) (x_seedNow : Int64) (x_tick : Int64) (x_range : Int32) (x_isAuto : Bool) (x_offset : Int32) (x_creep : Int32) (x_factor : Int32) (x_shift : Int32) (x_cycles : Int32) (x_zeroing : Int32) (x_most : Int32) (x_window : Int32) (x_wasConversion : Bool) (x_plus : Int32) (x_minus : Int32) (x_switched : Int32) (x_charge : Int64) (x_wasOver : Bool) (x_sum : Int64) (x_flowed : Int64) (x_wasShorted : Bool) (x_rangeThen : Int32) (x_held : Int32) (x_kept : Int32) (x_readings : Int32) (x_readingsOver : Int32) (x_conversions : Int32) (x_shortedOnes : Int32) (x_madeMore : Int32) (x_madeLess : Int32) (x_jumps : Int32) (x_settings : Int32) (x_pageLength : Int32) (x_command : Int32) (x_figures : Int32) (x_number : Int32) (x_isBelow : Bool) (x_h : Int64) (f_mcnt : Nat → Int32) (f_mzs : Nat → Int64) (f_mzc : Nat → Int32) (f_mzr : Nat → Int32) (f_mvals : Nat → Int64) (f_mtold : Nat → Int32) (f_mpage : Nat → Int32) (p0 : Int32) (hh : x_held.toInt ≤ 17) : Met l yX10_filterNow wsX10_filterNow ({ frames := 1, cells := 0, slots := 0, locals := 24 }) (gPc D cI cJ [.ref h_md, .int p0] [(h_md, .inr (10, [.int x_dcNow, .int x_humNow, .int x_wave, .int x_noiseNow, .long x_seedNow, .long x_tick, .int x_range, .int (bI x_isAuto), .int x_offset, .int x_creep, .int x_factor, .int x_shift, .int x_cycles, .int x_zeroing, .int x_most, .int x_window, .int (bI x_wasConversion), .int x_plus, .int x_minus, .int x_switched, .ref h_mcnt, .long x_charge, .int (bI x_wasOver), .long x_sum, .long x_flowed, .int (bI x_wasShorted), .int x_rangeThen, .ref h_mzs, .ref h_mzc, .ref h_mzr, .int x_held, .ref h_mvals, .int x_kept, .ref h_mtold, .int x_readings, .int x_readingsOver, .int x_conversions, .int x_shortedOnes, .int x_madeMore, .int x_madeLess, .int x_jumps, .int x_settings, .int x_pageLength, .ref h_mpage, .int x_command, .int x_figures, .int x_number, .int (bI x_isBelow), .long x_h])), (h_mcnt, .inl (cI, 4, .inl f_mcnt)), (h_mzs, .inl (cJ, 3, .inr (.inl f_mzs))), (h_mzc, .inl (cI, 3, .inl f_mzc)), (h_mzr, .inl (cI, 3, .inl f_mzr)), (h_mvals, .inl (cJ, 17, .inr (.inl f_mvals))), (h_mtold, .inl (cI, 96, .inl f_mtold)), (h_mpage, .inl (cI, 40, .inl f_mpage))] sz) (gQi D cI cJ (f_X10_filterNow x_most x_held f_mvals p0) (fun _ _ => True) (fun _ : Unit => [(h_md, .inr (10, [.int x_dcNow, .int x_humNow, .int x_wave, .int x_noiseNow, .long x_seedNow, .long x_tick, .int x_range, .int (bI x_isAuto), .int x_offset, .int x_creep, .int x_factor, .int x_shift, .int x_cycles, .int x_zeroing, .int x_most, .int x_window, .int (bI x_wasConversion), .int x_plus, .int x_minus, .int x_switched, .ref h_mcnt, .long x_charge, .int (bI x_wasOver), .long x_sum, .long x_flowed, .int (bI x_wasShorted), .int x_rangeThen, .ref h_mzs, .ref h_mzc, .ref h_mzr, .int x_held, .ref h_mvals, .int x_kept, .ref h_mtold, .int x_readings, .int x_readingsOver, .int x_conversions, .int x_shortedOnes, .int x_madeMore, .int x_madeLess, .int x_jumps, .int x_settings, .int x_pageLength, .ref h_mpage, .int x_command, .int x_figures, .int x_number, .int (bI x_isBelow), .long x_h])), (h_mcnt, .inl (cI, 4, .inl f_mcnt)), (h_mzs, .inl (cJ, 3, .inr (.inl f_mzs))), (h_mzc, .inl (cI, 3, .inl f_mzc)), (h_mzr, .inl (cI, 3, .inl f_mzr)), (h_mvals, .inl (cJ, 17, .inr (.inl f_mvals))), (h_mtold, .inl (cI, 96, .inl f_mtold)), (h_mpage, .inl (cI, 40, .inl f_mpage))]) (va_A [(h_md, .inr (10, [.int x_dcNow, .int x_humNow, .int x_wave, .int x_noiseNow, .long x_seedNow, .long x_tick, .int x_range, .int (bI x_isAuto), .int x_offset, .int x_creep, .int x_factor, .int x_shift, .int x_cycles, .int x_zeroing, .int x_most, .int x_window, .int (bI x_wasConversion), .int x_plus, .int x_minus, .int x_switched, .ref h_mcnt, .long x_charge, .int (bI x_wasOver), .long x_sum, .long x_flowed, .int (bI x_wasShorted), .int x_rangeThen, .ref h_mzs, .ref h_mzc, .ref h_mzr, .int x_held, .ref h_mvals, .int x_kept, .ref h_mtold, .int x_readings, .int x_readingsOver, .int x_conversions, .int x_shortedOnes, .int x_madeMore, .int x_madeLess, .int x_jumps, .int x_settings, .int x_pageLength, .ref h_mpage, .int x_command, .int x_figures, .int x_number, .int (bI x_isBelow), .long x_h])), (h_mcnt, .inl (cI, 4, .inl f_mcnt)), (h_mzs, .inl (cJ, 3, .inr (.inl f_mzs))), (h_mzc, .inl (cI, 3, .inl f_mzc)), (h_mzr, .inl (cI, 3, .inl f_mzr)), (h_mvals, .inl (cJ, 17, .inr (.inl f_mvals))), (h_mtold, .inl (cI, 96, .inl f_mtold)), (h_mpage, .inl (cI, 40, .inl f_mpage))] sz)) 0 0 (va_A [(h_md, .inr (10, [.int x_dcNow, .int x_humNow, .int x_wave, .int x_noiseNow, .long x_seedNow, .long x_tick, .int x_range, .int (bI x_isAuto), .int x_offset, .int x_creep, .int x_factor, .int x_shift, .int x_cycles, .int x_zeroing, .int x_most, .int x_window, .int (bI x_wasConversion), .int x_plus, .int x_minus, .int x_switched, .ref h_mcnt, .long x_charge, .int (bI x_wasOver), .long x_sum, .long x_flowed, .int (bI x_wasShorted), .int x_rangeThen, .ref h_mzs, .ref h_mzc, .ref h_mzr, .int x_held, .ref h_mvals, .int x_kept, .ref h_mtold, .int x_readings, .int x_readingsOver, .int x_conversions, .int x_shortedOnes, .int x_madeMore, .int x_madeLess, .int x_jumps, .int x_settings, .int x_pageLength, .ref h_mpage, .int x_command, .int x_figures, .int x_number, .int (bI x_isBelow), .long x_h])), (h_mcnt, .inl (cI, 4, .inl f_mcnt)), (h_mzs, .inl (cJ, 3, .inr (.inl f_mzs))), (h_mzc, .inl (cI, 3, .inl f_mzc)), (h_mzr, .inl (cI, 3, .inl f_mzr)), (h_mvals, .inl (cJ, 17, .inr (.inl f_mvals))), (h_mtold, .inl (cI, 96, .inl f_mtold)), (h_mpage, .inl (cI, 40, .inl f_mpage))] sz) := by
  refine g_met (cc := cX10_filterNow) (maxL := 2) (ret := (some .int)) (Qc := gQi D cI cJ (f_X10_filterNow x_most x_held f_mvals p0) _ _) (by decide) rfl (Nat.le_of_ble_eq_true rfl) ?_
  intro A p e s m below meth c hx hb hr hml hts hown hlk hnm hP hK hD hE hA hS ls hl
  have hown : s.vm.findClass RX10 = some m.cls := hown
  have hl : lv_has ls 2 [(0, .ref h_md), (1, .int p0)] := hl
  have hi10 : ∀ w ∈ u_ws RX10 TX10 49, w ∈ wsX10_filterNow := fun w h9 => List.mem_cons_of_mem _ (List.mem_append_right _ h9)
  have hm1 := hts (.constantLong RX10 157 (1000)) (List.mem_of_getElem? (i := 1) rfl)
  have hm2 := hts (.fieldLink RX10 271 "VoltSlopesModel" "held" "I") (List.mem_of_getElem? (i := 2) rfl)
  have hm3 := hts (.fieldLink RX10 24 "VoltSlopesModel" "most" "I") (List.mem_of_getElem? (i := 3) rfl)
  have hF := f_X10_filterNow.eq_1 x_most x_held f_mvals p0
  refine lv_iload_n hx hb dX10_filterNow_0 rfl (lv_at hl 1 rfl) ?_
  by_cases c_1_1_0 : p0 = (0 : Int32)
  · have hF := hF.trans (if_pos c_1_1_0)
    refine lv_tableIn (off := 31) (tgt := 32) hx hb dX10_filterNow_1 (by rw [c_1_1_0]; decide) (by rw [c_1_1_0]; decide) (by rw [c_1_1_0]; rfl) (by decide) ?_
    refine lv_aload_n hx hb dX10_filterNow_32 rfl (lv_at hl 0 rfl) ?_
    refine g_cvl (rest := []) ⟨hx, hb, hml, hown, hts⟩ hP hD hK hS hA hE (c_X10_shown l D cI cJ h_md h_mcnt h_mzs h_mzc h_mzr h_mvals h_mtold h_mpage s.heap.size x_dcNow x_humNow x_wave x_noiseNow x_seedNow x_tick x_range x_isAuto x_offset x_creep x_factor x_shift x_cycles x_zeroing x_most x_window x_wasConversion x_plus x_minus x_switched x_charge x_wasOver x_sum x_flowed x_wasShorted x_rangeThen x_held x_kept x_readings x_readingsOver x_conversions x_shortedOnes x_madeMore x_madeLess x_jumps x_settings x_pageLength x_command x_figures x_number x_isBelow x_h f_mcnt f_mzs f_mzc f_mzr f_mvals f_mtold f_mpage (hh)) (cwV 0 hts gX10_filterNow_X10_shown rfl rfl rfl (by decide +kernel) ⟨Nat.le_of_ble_eq_true rfl, Nat.le_of_ble_eq_true rfl⟩) [0, 1, 2, 3, 4, 5, 6, 7] [] rfl rfl rfl rfl rfl 10 0 rfl rfl rfl hl rfl (Nat.le_of_ble_eq_true rfl) ⟨Nat.zero_le _, Nat.zero_le _⟩ dX10_filterNow_33 (fun r_33_2 u_2 H locs hw_2 hx_2 hP hD hS => ?_)
    obtain ⟨hP, hD⟩ := g_re (ws' := [(h_md, .inr (10, [.int x_dcNow, .int x_humNow, .int x_wave, .int x_noiseNow, .long x_seedNow, .long x_tick, .int x_range, .int (bI x_isAuto), .int x_offset, .int x_creep, .int x_factor, .int x_shift, .int x_cycles, .int x_zeroing, .int x_most, .int x_window, .int (bI x_wasConversion), .int x_plus, .int x_minus, .int x_switched, .ref h_mcnt, .long x_charge, .int (bI x_wasOver), .long x_sum, .long x_flowed, .int (bI x_wasShorted), .int x_rangeThen, .ref h_mzs, .ref h_mzc, .ref h_mzr, .int x_held, .ref h_mvals, .int x_kept, .ref h_mtold, .int x_readings, .int x_readingsOver, .int x_conversions, .int x_shortedOnes, .int x_madeMore, .int x_madeLess, .int x_jumps, .int x_settings, .int x_pageLength, .ref h_mpage, .int x_command, .int x_figures, .int x_number, .int (bI x_isBelow), .long x_h])), (h_mcnt, .inl (cI, 4, .inl f_mcnt)), (h_mzs, .inl (cJ, 3, .inr (.inl f_mzs))), (h_mzc, .inl (cI, 3, .inl f_mzc)), (h_mzr, .inl (cI, 3, .inl f_mzr)), (h_mvals, .inl (cJ, 17, .inr (.inl f_mvals))), (h_mtold, .inl (cI, 96, .inl f_mtold)), (h_mpage, .inl (cI, 40, .inl f_mpage))]) rfl hP hD
    have hF := hF
    rw [hw_2] at hF
    try dsimp only at hF
    refine lv_ldc2 hx hb hown hm1 dX10_filterNow_36 ?_
    refine lv_ldiv hx hb dX10_filterNow_39 (by decide) ?_
    refine lv_l2i (v := (r_33_2 / (1000 : Int64)).toInt32) hx hb dX10_filterNow_40 rfl ?_
    exact g_iret () hx hb hr hlk hP hK hD hS hF trivial rfl dX10_filterNow_41
  have hF := hF.trans (if_neg c_1_1_0)
  by_cases c_1_1_1 : p0 = (1 : Int32)
  · have hF := hF.trans (if_pos c_1_1_1)
    refine lv_tableIn (off := 41) (tgt := 42) hx hb dX10_filterNow_1 (by rw [c_1_1_1]; decide) (by rw [c_1_1_1]; decide) (by rw [c_1_1_1]; rfl) (by decide) ?_
    refine lv_aload_n hx hb dX10_filterNow_42 rfl (lv_at hl 0 rfl) ?_
    refine g_cvl (rest := []) ⟨hx, hb, hml, hown, hts⟩ hP hD hK hS hA hE (c_X10_shown l D cI cJ h_md h_mcnt h_mzs h_mzc h_mzr h_mvals h_mtold h_mpage s.heap.size x_dcNow x_humNow x_wave x_noiseNow x_seedNow x_tick x_range x_isAuto x_offset x_creep x_factor x_shift x_cycles x_zeroing x_most x_window x_wasConversion x_plus x_minus x_switched x_charge x_wasOver x_sum x_flowed x_wasShorted x_rangeThen x_held x_kept x_readings x_readingsOver x_conversions x_shortedOnes x_madeMore x_madeLess x_jumps x_settings x_pageLength x_command x_figures x_number x_isBelow x_h f_mcnt f_mzs f_mzc f_mzr f_mvals f_mtold f_mpage (hh)) (cwV 0 hts gX10_filterNow_X10_shown rfl rfl rfl (by decide +kernel) ⟨Nat.le_of_ble_eq_true rfl, Nat.le_of_ble_eq_true rfl⟩) [0, 1, 2, 3, 4, 5, 6, 7] [] rfl rfl rfl rfl rfl 10 0 rfl rfl rfl hl rfl (Nat.le_of_ble_eq_true rfl) ⟨Nat.zero_le _, Nat.zero_le _⟩ dX10_filterNow_43 (fun r_43_3 u_3 H locs hw_3 hx_3 hP hD hS => ?_)
    obtain ⟨hP, hD⟩ := g_re (ws' := [(h_md, .inr (10, [.int x_dcNow, .int x_humNow, .int x_wave, .int x_noiseNow, .long x_seedNow, .long x_tick, .int x_range, .int (bI x_isAuto), .int x_offset, .int x_creep, .int x_factor, .int x_shift, .int x_cycles, .int x_zeroing, .int x_most, .int x_window, .int (bI x_wasConversion), .int x_plus, .int x_minus, .int x_switched, .ref h_mcnt, .long x_charge, .int (bI x_wasOver), .long x_sum, .long x_flowed, .int (bI x_wasShorted), .int x_rangeThen, .ref h_mzs, .ref h_mzc, .ref h_mzr, .int x_held, .ref h_mvals, .int x_kept, .ref h_mtold, .int x_readings, .int x_readingsOver, .int x_conversions, .int x_shortedOnes, .int x_madeMore, .int x_madeLess, .int x_jumps, .int x_settings, .int x_pageLength, .ref h_mpage, .int x_command, .int x_figures, .int x_number, .int (bI x_isBelow), .long x_h])), (h_mcnt, .inl (cI, 4, .inl f_mcnt)), (h_mzs, .inl (cJ, 3, .inr (.inl f_mzs))), (h_mzc, .inl (cI, 3, .inl f_mzc)), (h_mzr, .inl (cI, 3, .inl f_mzr)), (h_mvals, .inl (cJ, 17, .inr (.inl f_mvals))), (h_mtold, .inl (cI, 96, .inl f_mtold)), (h_mpage, .inl (cI, 40, .inl f_mpage))]) rfl hP hD
    have hF := hF
    rw [hw_3] at hF
    try dsimp only at hF
    refine lv_ldc2 hx hb hown hm1 dX10_filterNow_46 ?_
    refine g_lrem hx hb dX10_filterNow_49 (by decide) ?_
    refine lv_l2i (v := (gRemL r_43_3 (1000 : Int64)).toInt32) hx hb dX10_filterNow_50 rfl ?_
    exact g_iret () hx hb hr hlk hP hK hD hS hF trivial rfl dX10_filterNow_51
  have hF := hF.trans (if_neg c_1_1_1)
  by_cases c_1_1_2 : p0 = (2 : Int32)
  · have hF := hF.trans (if_pos c_1_1_2)
    refine lv_tableIn (off := 51) (tgt := 52) hx hb dX10_filterNow_1 (by rw [c_1_1_2]; decide) (by rw [c_1_1_2]; decide) (by rw [c_1_1_2]; rfl) (by decide) ?_
    refine lv_aload_n hx hb dX10_filterNow_52 rfl (lv_at hl 0 rfl) ?_
    refine va_get (D := D) (ci := 10) (v := .int x_held) (C := RX10) (T := TX10) (N := 49) hx hb hts hi10 hown hK hP 0 rfl rfl 30 (by decide) hm2 (fun _ h9 => h9) rfl dX10_filterNow_53 ?_
    exact g_iret () hx hb hr hlk hP hK hD hS hF trivial rfl dX10_filterNow_56
  have hF := hF.trans (if_neg c_1_1_2)
  by_cases c_1_1_3 : p0 = (3 : Int32)
  · have hF := hF.trans (if_pos c_1_1_3)
    refine lv_tableIn (off := 56) (tgt := 57) hx hb dX10_filterNow_1 (by rw [c_1_1_3]; decide) (by rw [c_1_1_3]; decide) (by rw [c_1_1_3]; rfl) (by decide) ?_
    refine lv_aload_n hx hb dX10_filterNow_57 rfl (lv_at hl 0 rfl) ?_
    refine va_get (D := D) (ci := 10) (v := .int x_held) (C := RX10) (T := TX10) (N := 49) hx hb hts hi10 hown hK hP 0 rfl rfl 30 (by decide) hm2 (fun _ h9 => h9) rfl dX10_filterNow_58 ?_
    refine lv_aload_n hx hb dX10_filterNow_61 rfl (lv_at hl 0 rfl) ?_
    refine va_get (D := D) (ci := 10) (v := .int x_most) (C := RX10) (T := TX10) (N := 49) hx hb hts hi10 hown hK hP 0 rfl rfl 14 (by decide) hm3 (fun _ h9 => h9) rfl dX10_filterNow_62 ?_
    refine lv_icmp_ne (tgt := 72) hx hb dX10_filterNow_65 (by decide) (fun c_65_4 => ?_) (fun c_65_4 => ?_)
    · have hF := hF.trans (if_neg c_65_4)
      refine lv_iconst (v := 0) hx hb dX10_filterNow_72 (by decide) ?_
      exact g_iret () hx hb hr hlk hP hK hD hS hF trivial rfl dX10_filterNow_73
    · have hF := hF.trans (if_pos c_65_4)
      refine lv_iconst (v := 1) hx hb dX10_filterNow_68 (by decide) ?_
      refine lv_goto (tgt := 73) hx hb dX10_filterNow_69 (by decide) ?_
      exact g_iret () hx hb hr hlk hP hK hD hS hF trivial rfl dX10_filterNow_73
  have hF := hF.trans (if_neg c_1_1_3)
  refine lv_tableOut (tgt := 74) hx hb dX10_filterNow_1 (by have := lv_neT (a := 0) c_1_1_0 (by decide); have := lv_neT (a := 1) c_1_1_1 (by decide); have := lv_neT (a := 2) c_1_1_2 (by decide); have := lv_neT (a := 3) c_1_1_3 (by decide); omega) (by decide) ?_
  refine lv_aload_n hx hb dX10_filterNow_74 rfl (lv_at hl 0 rfl) ?_
  refine lv_iload_n hx hb dX10_filterNow_75 rfl (lv_at hl 1 rfl) ?_
  refine lv_iconst (v := 5) hx hb dX10_filterNow_76 (by decide) ?_
  refine lv_icmp_ne (tgt := 84) hx hb dX10_filterNow_77 (by decide) (fun c_77_5 => ?_) (fun c_77_5 => ?_)
  · have hF := hF.trans (if_neg c_77_5)
    refine lv_iconst (v := 0) hx hb dX10_filterNow_84 (by decide) ?_
    refine g_cvi (rest := []) ⟨hx, hb, hml, hown, hts⟩ hP hD hK hS hA hE (c_X10_bound l D cI cJ h_md h_mcnt h_mzs h_mzc h_mzr h_mvals h_mtold h_mpage s.heap.size x_dcNow x_humNow x_wave x_noiseNow x_seedNow x_tick x_range x_isAuto x_offset x_creep x_factor x_shift x_cycles x_zeroing x_most x_window x_wasConversion x_plus x_minus x_switched x_charge x_wasOver x_sum x_flowed x_wasShorted x_rangeThen x_held x_kept x_readings x_readingsOver x_conversions x_shortedOnes x_madeMore x_madeLess x_jumps x_settings x_pageLength x_command x_figures x_number x_isBelow x_h f_mcnt f_mzs f_mzc f_mzr f_mvals f_mtold f_mpage false (hh)) (cwV 1 hts gX10_filterNow_X10_bound rfl rfl rfl (by decide +kernel) ⟨Nat.le_of_ble_eq_true rfl, Nat.le_of_ble_eq_true rfl⟩) [0, 1, 2, 3, 4, 5, 6, 7] [] rfl rfl rfl rfl rfl 10 0 rfl rfl rfl hl rfl (Nat.le_of_ble_eq_true rfl) ⟨Nat.zero_le _, Nat.zero_le _⟩ dX10_filterNow_85 (fun r_85_6 u_6 H locs hw_6 hx_6 hP hD hS => ?_)
    obtain ⟨hP, hD⟩ := g_re (ws' := [(h_md, .inr (10, [.int x_dcNow, .int x_humNow, .int x_wave, .int x_noiseNow, .long x_seedNow, .long x_tick, .int x_range, .int (bI x_isAuto), .int x_offset, .int x_creep, .int x_factor, .int x_shift, .int x_cycles, .int x_zeroing, .int x_most, .int x_window, .int (bI x_wasConversion), .int x_plus, .int x_minus, .int x_switched, .ref h_mcnt, .long x_charge, .int (bI x_wasOver), .long x_sum, .long x_flowed, .int (bI x_wasShorted), .int x_rangeThen, .ref h_mzs, .ref h_mzc, .ref h_mzr, .int x_held, .ref h_mvals, .int x_kept, .ref h_mtold, .int x_readings, .int x_readingsOver, .int x_conversions, .int x_shortedOnes, .int x_madeMore, .int x_madeLess, .int x_jumps, .int x_settings, .int x_pageLength, .ref h_mpage, .int x_command, .int x_figures, .int x_number, .int (bI x_isBelow), .long x_h])), (h_mcnt, .inl (cI, 4, .inl f_mcnt)), (h_mzs, .inl (cJ, 3, .inr (.inl f_mzs))), (h_mzc, .inl (cI, 3, .inl f_mzc)), (h_mzr, .inl (cI, 3, .inl f_mzr)), (h_mvals, .inl (cJ, 17, .inr (.inl f_mvals))), (h_mtold, .inl (cI, 96, .inl f_mtold)), (h_mpage, .inl (cI, 40, .inl f_mpage))]) rfl hP hD
    have hF := hF
    rw [hw_6] at hF
    try dsimp only at hF
    exact g_iret () hx hb hr hlk hP hK hD hS hF trivial rfl dX10_filterNow_88
  · have hF := hF.trans (if_pos c_77_5)
    refine lv_iconst (v := 1) hx hb dX10_filterNow_80 (by decide) ?_
    refine lv_goto (tgt := 85) hx hb dX10_filterNow_81 (by decide) ?_
    refine g_cvi (rest := []) ⟨hx, hb, hml, hown, hts⟩ hP hD hK hS hA hE (c_X10_bound l D cI cJ h_md h_mcnt h_mzs h_mzc h_mzr h_mvals h_mtold h_mpage s.heap.size x_dcNow x_humNow x_wave x_noiseNow x_seedNow x_tick x_range x_isAuto x_offset x_creep x_factor x_shift x_cycles x_zeroing x_most x_window x_wasConversion x_plus x_minus x_switched x_charge x_wasOver x_sum x_flowed x_wasShorted x_rangeThen x_held x_kept x_readings x_readingsOver x_conversions x_shortedOnes x_madeMore x_madeLess x_jumps x_settings x_pageLength x_command x_figures x_number x_isBelow x_h f_mcnt f_mzs f_mzc f_mzr f_mvals f_mtold f_mpage true (hh)) (cwV 1 hts gX10_filterNow_X10_bound rfl rfl rfl (by decide +kernel) ⟨Nat.le_of_ble_eq_true rfl, Nat.le_of_ble_eq_true rfl⟩) [0, 1, 2, 3, 4, 5, 6, 7] [] rfl rfl rfl rfl rfl 10 0 rfl rfl rfl hl rfl (Nat.le_of_ble_eq_true rfl) ⟨Nat.zero_le _, Nat.zero_le _⟩ dX10_filterNow_85 (fun r_85_7 u_7 H locs hw_7 hx_7 hP hD hS => ?_)
    obtain ⟨hP, hD⟩ := g_re (ws' := [(h_md, .inr (10, [.int x_dcNow, .int x_humNow, .int x_wave, .int x_noiseNow, .long x_seedNow, .long x_tick, .int x_range, .int (bI x_isAuto), .int x_offset, .int x_creep, .int x_factor, .int x_shift, .int x_cycles, .int x_zeroing, .int x_most, .int x_window, .int (bI x_wasConversion), .int x_plus, .int x_minus, .int x_switched, .ref h_mcnt, .long x_charge, .int (bI x_wasOver), .long x_sum, .long x_flowed, .int (bI x_wasShorted), .int x_rangeThen, .ref h_mzs, .ref h_mzc, .ref h_mzr, .int x_held, .ref h_mvals, .int x_kept, .ref h_mtold, .int x_readings, .int x_readingsOver, .int x_conversions, .int x_shortedOnes, .int x_madeMore, .int x_madeLess, .int x_jumps, .int x_settings, .int x_pageLength, .ref h_mpage, .int x_command, .int x_figures, .int x_number, .int (bI x_isBelow), .long x_h])), (h_mcnt, .inl (cI, 4, .inl f_mcnt)), (h_mzs, .inl (cJ, 3, .inr (.inl f_mzs))), (h_mzc, .inl (cI, 3, .inl f_mzc)), (h_mzr, .inl (cI, 3, .inl f_mzr)), (h_mvals, .inl (cJ, 17, .inr (.inl f_mvals))), (h_mtold, .inl (cI, 96, .inl f_mtold)), (h_mpage, .inl (cI, 40, .inl f_mpage))]) rfl hP hD
    have hF := hF
    rw [hw_7] at hF
    try dsimp only at hF
    exact g_iret () hx hb hr hlk hP hK hD hS hF trivial rfl dX10_filterNow_88

noncomputable def f_X10_filter (x_most : Int32) (x_held : Int32) (f_mvals : Nat → Int64) (p0 : Int32) : (Int32 × Unit) := (match (f_X10_within p0 (0 : Int32) (5 : Int32)) with | (r_3_1, _) => (if r_3_1 = true then (match (f_X10_filterNow x_most x_held f_mvals p0) with | (r_11_3, _) => (r_11_3, ())) else ((-1000000002 : Int32), ())))
set_option maxHeartbeats 4000000 in
set_option maxRecDepth 100000 in
theorem c_X10_filter (l : Launch) (D : va_G) (cI cJ : ClassId) (h_md h_mcnt h_mzs h_mzc h_mzr h_mvals h_mtold h_mpage : Nat) (sz : Nat) (x_dcNow : Int32) (x_humNow : Int32) (x_wave : Int32) (x_noiseNow : Int32) (x_seedNow : Int64) (x_tick : Int64) (x_range : Int32) (x_isAuto : Bool) (x_offset : Int32) (x_creep : Int32) (x_factor : Int32) (x_shift : Int32) (x_cycles : Int32) (x_zeroing : Int32) (x_most : Int32) (x_window : Int32) (x_wasConversion : Bool) (x_plus : Int32) (x_minus : Int32) (x_switched : Int32) (x_charge : Int64) (x_wasOver : Bool) (x_sum : Int64) (x_flowed : Int64) (x_wasShorted : Bool) (x_rangeThen : Int32) (x_held : Int32) (x_kept : Int32) (x_readings : Int32) (x_readingsOver : Int32) (x_conversions : Int32) (x_shortedOnes : Int32) (x_madeMore : Int32) (x_madeLess : Int32) (x_jumps : Int32) (x_settings : Int32) (x_pageLength : Int32) (x_command : Int32) (x_figures : Int32) (x_number : Int32) (x_isBelow : Bool) (x_h : Int64) (f_mcnt : Nat → Int32) (f_mzs : Nat → Int64) (f_mzc : Nat → Int32) (f_mzr : Nat → Int32) (f_mvals : Nat → Int64) (f_mtold : Nat → Int32) (f_mpage : Nat → Int32) (p0 : Int32) (hh : x_held.toInt ≤ 17) : Met l yX10_filter wsX10_filter ({ frames := 2, cells := 0, slots := 0, locals := 45 }) (gPc D cI cJ [.ref h_md, .int p0] [(h_md, .inr (10, [.int x_dcNow, .int x_humNow, .int x_wave, .int x_noiseNow, .long x_seedNow, .long x_tick, .int x_range, .int (bI x_isAuto), .int x_offset, .int x_creep, .int x_factor, .int x_shift, .int x_cycles, .int x_zeroing, .int x_most, .int x_window, .int (bI x_wasConversion), .int x_plus, .int x_minus, .int x_switched, .ref h_mcnt, .long x_charge, .int (bI x_wasOver), .long x_sum, .long x_flowed, .int (bI x_wasShorted), .int x_rangeThen, .ref h_mzs, .ref h_mzc, .ref h_mzr, .int x_held, .ref h_mvals, .int x_kept, .ref h_mtold, .int x_readings, .int x_readingsOver, .int x_conversions, .int x_shortedOnes, .int x_madeMore, .int x_madeLess, .int x_jumps, .int x_settings, .int x_pageLength, .ref h_mpage, .int x_command, .int x_figures, .int x_number, .int (bI x_isBelow), .long x_h])), (h_mcnt, .inl (cI, 4, .inl f_mcnt)), (h_mzs, .inl (cJ, 3, .inr (.inl f_mzs))), (h_mzc, .inl (cI, 3, .inl f_mzc)), (h_mzr, .inl (cI, 3, .inl f_mzr)), (h_mvals, .inl (cJ, 17, .inr (.inl f_mvals))), (h_mtold, .inl (cI, 96, .inl f_mtold)), (h_mpage, .inl (cI, 40, .inl f_mpage))] sz) (gQi D cI cJ (f_X10_filter x_most x_held f_mvals p0) (fun _ _ => True) (fun _ : Unit => [(h_md, .inr (10, [.int x_dcNow, .int x_humNow, .int x_wave, .int x_noiseNow, .long x_seedNow, .long x_tick, .int x_range, .int (bI x_isAuto), .int x_offset, .int x_creep, .int x_factor, .int x_shift, .int x_cycles, .int x_zeroing, .int x_most, .int x_window, .int (bI x_wasConversion), .int x_plus, .int x_minus, .int x_switched, .ref h_mcnt, .long x_charge, .int (bI x_wasOver), .long x_sum, .long x_flowed, .int (bI x_wasShorted), .int x_rangeThen, .ref h_mzs, .ref h_mzc, .ref h_mzr, .int x_held, .ref h_mvals, .int x_kept, .ref h_mtold, .int x_readings, .int x_readingsOver, .int x_conversions, .int x_shortedOnes, .int x_madeMore, .int x_madeLess, .int x_jumps, .int x_settings, .int x_pageLength, .ref h_mpage, .int x_command, .int x_figures, .int x_number, .int (bI x_isBelow), .long x_h])), (h_mcnt, .inl (cI, 4, .inl f_mcnt)), (h_mzs, .inl (cJ, 3, .inr (.inl f_mzs))), (h_mzc, .inl (cI, 3, .inl f_mzc)), (h_mzr, .inl (cI, 3, .inl f_mzr)), (h_mvals, .inl (cJ, 17, .inr (.inl f_mvals))), (h_mtold, .inl (cI, 96, .inl f_mtold)), (h_mpage, .inl (cI, 40, .inl f_mpage))]) (va_A [(h_md, .inr (10, [.int x_dcNow, .int x_humNow, .int x_wave, .int x_noiseNow, .long x_seedNow, .long x_tick, .int x_range, .int (bI x_isAuto), .int x_offset, .int x_creep, .int x_factor, .int x_shift, .int x_cycles, .int x_zeroing, .int x_most, .int x_window, .int (bI x_wasConversion), .int x_plus, .int x_minus, .int x_switched, .ref h_mcnt, .long x_charge, .int (bI x_wasOver), .long x_sum, .long x_flowed, .int (bI x_wasShorted), .int x_rangeThen, .ref h_mzs, .ref h_mzc, .ref h_mzr, .int x_held, .ref h_mvals, .int x_kept, .ref h_mtold, .int x_readings, .int x_readingsOver, .int x_conversions, .int x_shortedOnes, .int x_madeMore, .int x_madeLess, .int x_jumps, .int x_settings, .int x_pageLength, .ref h_mpage, .int x_command, .int x_figures, .int x_number, .int (bI x_isBelow), .long x_h])), (h_mcnt, .inl (cI, 4, .inl f_mcnt)), (h_mzs, .inl (cJ, 3, .inr (.inl f_mzs))), (h_mzc, .inl (cI, 3, .inl f_mzc)), (h_mzr, .inl (cI, 3, .inl f_mzr)), (h_mvals, .inl (cJ, 17, .inr (.inl f_mvals))), (h_mtold, .inl (cI, 96, .inl f_mtold)), (h_mpage, .inl (cI, 40, .inl f_mpage))] sz)) 0 0 (va_A [(h_md, .inr (10, [.int x_dcNow, .int x_humNow, .int x_wave, .int x_noiseNow, .long x_seedNow, .long x_tick, .int x_range, .int (bI x_isAuto), .int x_offset, .int x_creep, .int x_factor, .int x_shift, .int x_cycles, .int x_zeroing, .int x_most, .int x_window, .int (bI x_wasConversion), .int x_plus, .int x_minus, .int x_switched, .ref h_mcnt, .long x_charge, .int (bI x_wasOver), .long x_sum, .long x_flowed, .int (bI x_wasShorted), .int x_rangeThen, .ref h_mzs, .ref h_mzc, .ref h_mzr, .int x_held, .ref h_mvals, .int x_kept, .ref h_mtold, .int x_readings, .int x_readingsOver, .int x_conversions, .int x_shortedOnes, .int x_madeMore, .int x_madeLess, .int x_jumps, .int x_settings, .int x_pageLength, .ref h_mpage, .int x_command, .int x_figures, .int x_number, .int (bI x_isBelow), .long x_h])), (h_mcnt, .inl (cI, 4, .inl f_mcnt)), (h_mzs, .inl (cJ, 3, .inr (.inl f_mzs))), (h_mzc, .inl (cI, 3, .inl f_mzc)), (h_mzr, .inl (cI, 3, .inl f_mzr)), (h_mvals, .inl (cJ, 17, .inr (.inl f_mvals))), (h_mtold, .inl (cI, 96, .inl f_mtold)), (h_mpage, .inl (cI, 40, .inl f_mpage))] sz) := by
  refine g_met (cc := cX10_filter) (maxL := 2) (ret := (some .int)) (Qc := gQi D cI cJ (f_X10_filter x_most x_held f_mvals p0) _ _) (by decide) rfl (Nat.le_of_ble_eq_true rfl) ?_
  intro A p e s m below meth c hx hb hr hml hts hown hlk hnm hP hK hD hE hA hS ls hl
  have hown : s.vm.findClass RX10 = some m.cls := hown
  have hl : lv_has ls 2 [(0, .ref h_md), (1, .int p0)] := hl
  have hm1 := hts (.constant RX10 54 (-1000000002)) (List.mem_of_getElem? (i := 1) rfl)
  have hF := f_X10_filter.eq_1 x_most x_held f_mvals p0
  refine lv_iload_n hx hb dX10_filter_0 rfl (lv_at hl 1 rfl) ?_
  refine lv_iconst (v := 0) hx hb dX10_filter_1 (by decide) ?_
  refine lv_iconst (v := 5) hx hb dX10_filter_2 (by decide) ?_
  refine g_csz (rest := []) ⟨hx, hb, hml, hown, hts⟩ hP hD hK hS hA hE (c_X10_within l D cI cJ s.heap.size p0 (0 : Int32) (5 : Int32)) (va_cwS 3 hts gX10_filter_X10_within rfl rfl rfl (by decide +kernel) ⟨Nat.le_of_ble_eq_true rfl, Nat.le_of_ble_eq_true rfl⟩) rfl hl rfl (Nat.le_of_ble_eq_true rfl) ⟨Nat.zero_le _, Nat.zero_le _⟩ dX10_filter_3 (fun r_3_1 H locs hw_1 hx_1 hP hS => ?_)
  have hF := hF
  rw [hw_1] at hF
  try dsimp only at hF
  refine lv_if_eq (tgt := 17) hx hb dX10_filter_6 (by decide) (fun c_6_2w => ?_) (fun c_6_2w => ?_)
  · have c_6_2 := bI_f2 c_6_2w
    have hF := hF.trans (if_neg c_6_2)
    refine lv_ldc hx hb hown hm1 dX10_filter_17 ?_
    exact g_iret () hx hb hr hlk hP hK hD hS hF trivial rfl dX10_filter_19
  · have c_6_2 := bI_t c_6_2w
    have hF := hF.trans (if_pos c_6_2)
    refine lv_aload_n hx hb dX10_filter_9 rfl (lv_at hl 0 rfl) ?_
    refine lv_iload_n hx hb dX10_filter_10 rfl (lv_at hl 1 rfl) ?_
    refine g_cvi (rest := []) ⟨hx, hb, hml, hown, hts⟩ hP hD hK hS hA hE (c_X10_filterNow l D cI cJ h_md h_mcnt h_mzs h_mzc h_mzr h_mvals h_mtold h_mpage H.size x_dcNow x_humNow x_wave x_noiseNow x_seedNow x_tick x_range x_isAuto x_offset x_creep x_factor x_shift x_cycles x_zeroing x_most x_window x_wasConversion x_plus x_minus x_switched x_charge x_wasOver x_sum x_flowed x_wasShorted x_rangeThen x_held x_kept x_readings x_readingsOver x_conversions x_shortedOnes x_madeMore x_madeLess x_jumps x_settings x_pageLength x_command x_figures x_number x_isBelow x_h f_mcnt f_mzs f_mzc f_mzr f_mvals f_mtold f_mpage p0 (hh)) (cwV 1 hts gX10_filter_X10_filterNow rfl rfl rfl (by decide +kernel) ⟨Nat.le_of_ble_eq_true rfl, Nat.le_of_ble_eq_true rfl⟩) [0, 1, 2, 3, 4, 5, 6, 7] [] rfl rfl rfl rfl rfl 10 0 rfl rfl rfl hl rfl (Nat.le_of_ble_eq_true rfl) ⟨Nat.zero_le _, Nat.zero_le _⟩ dX10_filter_11 (fun r_11_3 u_3 H locs hw_3 hx_3 hP hD hS => ?_)
    obtain ⟨hP, hD⟩ := g_re (ws' := [(h_md, .inr (10, [.int x_dcNow, .int x_humNow, .int x_wave, .int x_noiseNow, .long x_seedNow, .long x_tick, .int x_range, .int (bI x_isAuto), .int x_offset, .int x_creep, .int x_factor, .int x_shift, .int x_cycles, .int x_zeroing, .int x_most, .int x_window, .int (bI x_wasConversion), .int x_plus, .int x_minus, .int x_switched, .ref h_mcnt, .long x_charge, .int (bI x_wasOver), .long x_sum, .long x_flowed, .int (bI x_wasShorted), .int x_rangeThen, .ref h_mzs, .ref h_mzc, .ref h_mzr, .int x_held, .ref h_mvals, .int x_kept, .ref h_mtold, .int x_readings, .int x_readingsOver, .int x_conversions, .int x_shortedOnes, .int x_madeMore, .int x_madeLess, .int x_jumps, .int x_settings, .int x_pageLength, .ref h_mpage, .int x_command, .int x_figures, .int x_number, .int (bI x_isBelow), .long x_h])), (h_mcnt, .inl (cI, 4, .inl f_mcnt)), (h_mzs, .inl (cJ, 3, .inr (.inl f_mzs))), (h_mzc, .inl (cI, 3, .inl f_mzc)), (h_mzr, .inl (cI, 3, .inl f_mzr)), (h_mvals, .inl (cJ, 17, .inr (.inl f_mvals))), (h_mtold, .inl (cI, 96, .inl f_mtold)), (h_mpage, .inl (cI, 40, .inl f_mpage))]) rfl hP hD
    have hF := hF
    rw [hw_3] at hF
    try dsimp only at hF
    refine lv_goto (tgt := 19) hx hb dX10_filter_14 (by decide) ?_
    exact g_iret () hx hb hr hlk hP hK hD hS hF trivial rfl dX10_filter_19

noncomputable def f_X10_heldNow (f_mvals : Nat → Int64) (p0 : Int32) (p1 : Int32) : (Int32 × Unit) := (if p1 = (0 : Int32) then (((f_mvals p0.toNatClampNeg) / (1000 : Int64)).toInt32, ()) else ((gRemL (f_mvals p0.toNatClampNeg) (1000 : Int64)).toInt32, ()))
set_option maxHeartbeats 4000000 in
set_option maxRecDepth 100000 in
theorem c_X10_heldNow (l : Launch) (D : va_G) (cI cJ : ClassId) (h_md h_mcnt h_mzs h_mzc h_mzr h_mvals h_mtold h_mpage : Nat) (sz : Nat) (x_dcNow : Int32) (x_humNow : Int32) (x_wave : Int32) (x_noiseNow : Int32) (x_seedNow : Int64) (x_tick : Int64) (x_range : Int32) (x_isAuto : Bool) (x_offset : Int32) (x_creep : Int32) (x_factor : Int32) (x_shift : Int32) (x_cycles : Int32) (x_zeroing : Int32) (x_most : Int32) (x_window : Int32) (x_wasConversion : Bool) (x_plus : Int32) (x_minus : Int32) (x_switched : Int32) (x_charge : Int64) (x_wasOver : Bool) (x_sum : Int64) (x_flowed : Int64) (x_wasShorted : Bool) (x_rangeThen : Int32) (x_held : Int32) (x_kept : Int32) (x_readings : Int32) (x_readingsOver : Int32) (x_conversions : Int32) (x_shortedOnes : Int32) (x_madeMore : Int32) (x_madeLess : Int32) (x_jumps : Int32) (x_settings : Int32) (x_pageLength : Int32) (x_command : Int32) (x_figures : Int32) (x_number : Int32) (x_isBelow : Bool) (x_h : Int64) (f_mcnt : Nat → Int32) (f_mzs : Nat → Int64) (f_mzc : Nat → Int32) (f_mzr : Nat → Int32) (f_mvals : Nat → Int64) (f_mtold : Nat → Int32) (f_mpage : Nat → Int32) (p0 : Int32) (p1 : Int32) (hp : vp_in p0 17) : Met l yX10_heldNow wsX10_heldNow ({ frames := 0, cells := 0, slots := 0, locals := 0 }) (gPc D cI cJ [.ref h_md, .int p0, .int p1] [(h_md, .inr (10, [.int x_dcNow, .int x_humNow, .int x_wave, .int x_noiseNow, .long x_seedNow, .long x_tick, .int x_range, .int (bI x_isAuto), .int x_offset, .int x_creep, .int x_factor, .int x_shift, .int x_cycles, .int x_zeroing, .int x_most, .int x_window, .int (bI x_wasConversion), .int x_plus, .int x_minus, .int x_switched, .ref h_mcnt, .long x_charge, .int (bI x_wasOver), .long x_sum, .long x_flowed, .int (bI x_wasShorted), .int x_rangeThen, .ref h_mzs, .ref h_mzc, .ref h_mzr, .int x_held, .ref h_mvals, .int x_kept, .ref h_mtold, .int x_readings, .int x_readingsOver, .int x_conversions, .int x_shortedOnes, .int x_madeMore, .int x_madeLess, .int x_jumps, .int x_settings, .int x_pageLength, .ref h_mpage, .int x_command, .int x_figures, .int x_number, .int (bI x_isBelow), .long x_h])), (h_mcnt, .inl (cI, 4, .inl f_mcnt)), (h_mzs, .inl (cJ, 3, .inr (.inl f_mzs))), (h_mzc, .inl (cI, 3, .inl f_mzc)), (h_mzr, .inl (cI, 3, .inl f_mzr)), (h_mvals, .inl (cJ, 17, .inr (.inl f_mvals))), (h_mtold, .inl (cI, 96, .inl f_mtold)), (h_mpage, .inl (cI, 40, .inl f_mpage))] sz) (gQi D cI cJ (f_X10_heldNow f_mvals p0 p1) (fun _ _ => True) (fun _ : Unit => [(h_md, .inr (10, [.int x_dcNow, .int x_humNow, .int x_wave, .int x_noiseNow, .long x_seedNow, .long x_tick, .int x_range, .int (bI x_isAuto), .int x_offset, .int x_creep, .int x_factor, .int x_shift, .int x_cycles, .int x_zeroing, .int x_most, .int x_window, .int (bI x_wasConversion), .int x_plus, .int x_minus, .int x_switched, .ref h_mcnt, .long x_charge, .int (bI x_wasOver), .long x_sum, .long x_flowed, .int (bI x_wasShorted), .int x_rangeThen, .ref h_mzs, .ref h_mzc, .ref h_mzr, .int x_held, .ref h_mvals, .int x_kept, .ref h_mtold, .int x_readings, .int x_readingsOver, .int x_conversions, .int x_shortedOnes, .int x_madeMore, .int x_madeLess, .int x_jumps, .int x_settings, .int x_pageLength, .ref h_mpage, .int x_command, .int x_figures, .int x_number, .int (bI x_isBelow), .long x_h])), (h_mcnt, .inl (cI, 4, .inl f_mcnt)), (h_mzs, .inl (cJ, 3, .inr (.inl f_mzs))), (h_mzc, .inl (cI, 3, .inl f_mzc)), (h_mzr, .inl (cI, 3, .inl f_mzr)), (h_mvals, .inl (cJ, 17, .inr (.inl f_mvals))), (h_mtold, .inl (cI, 96, .inl f_mtold)), (h_mpage, .inl (cI, 40, .inl f_mpage))]) (va_A [(h_md, .inr (10, [.int x_dcNow, .int x_humNow, .int x_wave, .int x_noiseNow, .long x_seedNow, .long x_tick, .int x_range, .int (bI x_isAuto), .int x_offset, .int x_creep, .int x_factor, .int x_shift, .int x_cycles, .int x_zeroing, .int x_most, .int x_window, .int (bI x_wasConversion), .int x_plus, .int x_minus, .int x_switched, .ref h_mcnt, .long x_charge, .int (bI x_wasOver), .long x_sum, .long x_flowed, .int (bI x_wasShorted), .int x_rangeThen, .ref h_mzs, .ref h_mzc, .ref h_mzr, .int x_held, .ref h_mvals, .int x_kept, .ref h_mtold, .int x_readings, .int x_readingsOver, .int x_conversions, .int x_shortedOnes, .int x_madeMore, .int x_madeLess, .int x_jumps, .int x_settings, .int x_pageLength, .ref h_mpage, .int x_command, .int x_figures, .int x_number, .int (bI x_isBelow), .long x_h])), (h_mcnt, .inl (cI, 4, .inl f_mcnt)), (h_mzs, .inl (cJ, 3, .inr (.inl f_mzs))), (h_mzc, .inl (cI, 3, .inl f_mzc)), (h_mzr, .inl (cI, 3, .inl f_mzr)), (h_mvals, .inl (cJ, 17, .inr (.inl f_mvals))), (h_mtold, .inl (cI, 96, .inl f_mtold)), (h_mpage, .inl (cI, 40, .inl f_mpage))] sz)) 0 0 (va_A [(h_md, .inr (10, [.int x_dcNow, .int x_humNow, .int x_wave, .int x_noiseNow, .long x_seedNow, .long x_tick, .int x_range, .int (bI x_isAuto), .int x_offset, .int x_creep, .int x_factor, .int x_shift, .int x_cycles, .int x_zeroing, .int x_most, .int x_window, .int (bI x_wasConversion), .int x_plus, .int x_minus, .int x_switched, .ref h_mcnt, .long x_charge, .int (bI x_wasOver), .long x_sum, .long x_flowed, .int (bI x_wasShorted), .int x_rangeThen, .ref h_mzs, .ref h_mzc, .ref h_mzr, .int x_held, .ref h_mvals, .int x_kept, .ref h_mtold, .int x_readings, .int x_readingsOver, .int x_conversions, .int x_shortedOnes, .int x_madeMore, .int x_madeLess, .int x_jumps, .int x_settings, .int x_pageLength, .ref h_mpage, .int x_command, .int x_figures, .int x_number, .int (bI x_isBelow), .long x_h])), (h_mcnt, .inl (cI, 4, .inl f_mcnt)), (h_mzs, .inl (cJ, 3, .inr (.inl f_mzs))), (h_mzc, .inl (cI, 3, .inl f_mzc)), (h_mzr, .inl (cI, 3, .inl f_mzr)), (h_mvals, .inl (cJ, 17, .inr (.inl f_mvals))), (h_mtold, .inl (cI, 96, .inl f_mtold)), (h_mpage, .inl (cI, 40, .inl f_mpage))] sz) := by
  refine g_met (cc := cX10_heldNow) (maxL := 3) (ret := (some .int)) (Qc := gQi D cI cJ (f_X10_heldNow f_mvals p0 p1) _ _) (by decide) rfl (Nat.le_of_ble_eq_true rfl) ?_
  intro A p e s m below meth c hx hb hr hml hts hown hlk hnm hP hK hD hE hA hS ls hl
  have hown : s.vm.findClass RX10 = some m.cls := hown
  have hl : lv_has ls 3 [(0, .ref h_md), (1, .int p0), (2, .int p1)] := hl
  have hi10 : ∀ w ∈ u_ws RX10 TX10 49, w ∈ wsX10_heldNow := fun w h9 => List.mem_cons_of_mem _ (List.mem_append_right _ h9)
  have hm1 := hts (.fieldLink RX10 41 "VoltSlopesModel" "values" "[J") (List.mem_of_getElem? (i := 1) rfl)
  have hm2 := hts (.constantLong RX10 157 (1000)) (List.mem_of_getElem? (i := 2) rfl)
  have hF := f_X10_heldNow.eq_1 f_mvals p0 p1
  refine lv_iload_n hx hb dX10_heldNow_0 rfl (lv_at hl 2 rfl) ?_
  refine lv_if_ne (tgt := 17) hx hb dX10_heldNow_1 (by decide) (fun c_1_1 => ?_) (fun c_1_1 => ?_)
  · have hF := hF.trans (if_neg c_1_1)
    have i_1_1 : p1.toInt ≠ 0 := gi_ne c_1_1 rfl (by decide)
    refine lv_aload_n hx hb dX10_heldNow_17 rfl (lv_at hl 0 rfl) ?_
    refine va_get (D := D) (ci := 10) (v := .ref h_mvals) (C := RX10) (T := TX10) (N := 49) hx hb hts hi10 hown hK hP 0 rfl rfl 31 (by decide) hm1 (fun _ h9 => h9) rfl dX10_heldNow_18 ?_
    refine lv_iload_n hx hb dX10_heldNow_21 rfl (lv_at hl 1 rfl) ?_
    refine va_lald hx hb hK hP 5 1 rfl rfl (hp) dX10_heldNow_22 ?_
    refine lv_ldc2 hx hb hown hm2 dX10_heldNow_23 ?_
    refine g_lrem hx hb dX10_heldNow_26 (by decide) ?_
    refine lv_l2i (v := (gRemL (f_mvals p0.toNatClampNeg) (1000 : Int64)).toInt32) hx hb dX10_heldNow_27 rfl ?_
    exact g_iret () hx hb hr hlk hP hK hD hS hF trivial rfl dX10_heldNow_28
  · have hF := hF.trans (if_pos c_1_1)
    have i_1_1 : p1.toInt = 0 := gi_eq c_1_1 rfl (by decide)
    refine lv_aload_n hx hb dX10_heldNow_4 rfl (lv_at hl 0 rfl) ?_
    refine va_get (D := D) (ci := 10) (v := .ref h_mvals) (C := RX10) (T := TX10) (N := 49) hx hb hts hi10 hown hK hP 0 rfl rfl 31 (by decide) hm1 (fun _ h9 => h9) rfl dX10_heldNow_5 ?_
    refine lv_iload_n hx hb dX10_heldNow_8 rfl (lv_at hl 1 rfl) ?_
    refine va_lald hx hb hK hP 5 1 rfl rfl (hp) dX10_heldNow_9 ?_
    refine lv_ldc2 hx hb hown hm2 dX10_heldNow_10 ?_
    refine lv_ldiv hx hb dX10_heldNow_13 (by decide) ?_
    refine lv_goto (tgt := 27) hx hb dX10_heldNow_14 (by decide) ?_
    refine lv_l2i (v := ((f_mvals p0.toNatClampNeg) / (1000 : Int64)).toInt32) hx hb dX10_heldNow_27 rfl ?_
    exact g_iret () hx hb hr hlk hP hK hD hS hF trivial rfl dX10_heldNow_28

noncomputable def f_X10_held (x_held : Int32) (f_mvals : Nat → Int64) (p0 : Int32) (p1 : Int32) : (Int32 × Unit) := (match (f_X10_within p0 (0 : Int32) (x_held - (1 : Int32))) with | (r_8_1, _) => (if r_8_1 = true then (match (f_X10_within p1 (0 : Int32) (1 : Int32)) with | (r_21_3, _) => (if r_21_3 = true then (match (f_X10_heldNow f_mvals p0 p1) with | (r_30_5, _) => (r_30_5, ())) else ((-1000000002 : Int32), ()))) else ((-1000000001 : Int32), ())))
set_option maxHeartbeats 4000000 in
set_option maxRecDepth 100000 in
theorem c_X10_held (l : Launch) (D : va_G) (cI cJ : ClassId) (h_md h_mcnt h_mzs h_mzc h_mzr h_mvals h_mtold h_mpage : Nat) (sz : Nat) (x_dcNow : Int32) (x_humNow : Int32) (x_wave : Int32) (x_noiseNow : Int32) (x_seedNow : Int64) (x_tick : Int64) (x_range : Int32) (x_isAuto : Bool) (x_offset : Int32) (x_creep : Int32) (x_factor : Int32) (x_shift : Int32) (x_cycles : Int32) (x_zeroing : Int32) (x_most : Int32) (x_window : Int32) (x_wasConversion : Bool) (x_plus : Int32) (x_minus : Int32) (x_switched : Int32) (x_charge : Int64) (x_wasOver : Bool) (x_sum : Int64) (x_flowed : Int64) (x_wasShorted : Bool) (x_rangeThen : Int32) (x_held : Int32) (x_kept : Int32) (x_readings : Int32) (x_readingsOver : Int32) (x_conversions : Int32) (x_shortedOnes : Int32) (x_madeMore : Int32) (x_madeLess : Int32) (x_jumps : Int32) (x_settings : Int32) (x_pageLength : Int32) (x_command : Int32) (x_figures : Int32) (x_number : Int32) (x_isBelow : Bool) (x_h : Int64) (f_mcnt : Nat → Int32) (f_mzs : Nat → Int64) (f_mzc : Nat → Int32) (f_mzr : Nat → Int32) (f_mvals : Nat → Int64) (f_mtold : Nat → Int32) (f_mpage : Nat → Int32) (p0 : Int32) (p1 : Int32) (hh : 0 ≤ x_held.toInt ∧ x_held.toInt ≤ 17) : Met l yX10_held wsX10_held ({ frames := 1, cells := 0, slots := 0, locals := 22 }) (gPc D cI cJ [.ref h_md, .int p0, .int p1] [(h_md, .inr (10, [.int x_dcNow, .int x_humNow, .int x_wave, .int x_noiseNow, .long x_seedNow, .long x_tick, .int x_range, .int (bI x_isAuto), .int x_offset, .int x_creep, .int x_factor, .int x_shift, .int x_cycles, .int x_zeroing, .int x_most, .int x_window, .int (bI x_wasConversion), .int x_plus, .int x_minus, .int x_switched, .ref h_mcnt, .long x_charge, .int (bI x_wasOver), .long x_sum, .long x_flowed, .int (bI x_wasShorted), .int x_rangeThen, .ref h_mzs, .ref h_mzc, .ref h_mzr, .int x_held, .ref h_mvals, .int x_kept, .ref h_mtold, .int x_readings, .int x_readingsOver, .int x_conversions, .int x_shortedOnes, .int x_madeMore, .int x_madeLess, .int x_jumps, .int x_settings, .int x_pageLength, .ref h_mpage, .int x_command, .int x_figures, .int x_number, .int (bI x_isBelow), .long x_h])), (h_mcnt, .inl (cI, 4, .inl f_mcnt)), (h_mzs, .inl (cJ, 3, .inr (.inl f_mzs))), (h_mzc, .inl (cI, 3, .inl f_mzc)), (h_mzr, .inl (cI, 3, .inl f_mzr)), (h_mvals, .inl (cJ, 17, .inr (.inl f_mvals))), (h_mtold, .inl (cI, 96, .inl f_mtold)), (h_mpage, .inl (cI, 40, .inl f_mpage))] sz) (gQi D cI cJ (f_X10_held x_held f_mvals p0 p1) (fun _ _ => True) (fun _ : Unit => [(h_md, .inr (10, [.int x_dcNow, .int x_humNow, .int x_wave, .int x_noiseNow, .long x_seedNow, .long x_tick, .int x_range, .int (bI x_isAuto), .int x_offset, .int x_creep, .int x_factor, .int x_shift, .int x_cycles, .int x_zeroing, .int x_most, .int x_window, .int (bI x_wasConversion), .int x_plus, .int x_minus, .int x_switched, .ref h_mcnt, .long x_charge, .int (bI x_wasOver), .long x_sum, .long x_flowed, .int (bI x_wasShorted), .int x_rangeThen, .ref h_mzs, .ref h_mzc, .ref h_mzr, .int x_held, .ref h_mvals, .int x_kept, .ref h_mtold, .int x_readings, .int x_readingsOver, .int x_conversions, .int x_shortedOnes, .int x_madeMore, .int x_madeLess, .int x_jumps, .int x_settings, .int x_pageLength, .ref h_mpage, .int x_command, .int x_figures, .int x_number, .int (bI x_isBelow), .long x_h])), (h_mcnt, .inl (cI, 4, .inl f_mcnt)), (h_mzs, .inl (cJ, 3, .inr (.inl f_mzs))), (h_mzc, .inl (cI, 3, .inl f_mzc)), (h_mzr, .inl (cI, 3, .inl f_mzr)), (h_mvals, .inl (cJ, 17, .inr (.inl f_mvals))), (h_mtold, .inl (cI, 96, .inl f_mtold)), (h_mpage, .inl (cI, 40, .inl f_mpage))]) (va_A [(h_md, .inr (10, [.int x_dcNow, .int x_humNow, .int x_wave, .int x_noiseNow, .long x_seedNow, .long x_tick, .int x_range, .int (bI x_isAuto), .int x_offset, .int x_creep, .int x_factor, .int x_shift, .int x_cycles, .int x_zeroing, .int x_most, .int x_window, .int (bI x_wasConversion), .int x_plus, .int x_minus, .int x_switched, .ref h_mcnt, .long x_charge, .int (bI x_wasOver), .long x_sum, .long x_flowed, .int (bI x_wasShorted), .int x_rangeThen, .ref h_mzs, .ref h_mzc, .ref h_mzr, .int x_held, .ref h_mvals, .int x_kept, .ref h_mtold, .int x_readings, .int x_readingsOver, .int x_conversions, .int x_shortedOnes, .int x_madeMore, .int x_madeLess, .int x_jumps, .int x_settings, .int x_pageLength, .ref h_mpage, .int x_command, .int x_figures, .int x_number, .int (bI x_isBelow), .long x_h])), (h_mcnt, .inl (cI, 4, .inl f_mcnt)), (h_mzs, .inl (cJ, 3, .inr (.inl f_mzs))), (h_mzc, .inl (cI, 3, .inl f_mzc)), (h_mzr, .inl (cI, 3, .inl f_mzr)), (h_mvals, .inl (cJ, 17, .inr (.inl f_mvals))), (h_mtold, .inl (cI, 96, .inl f_mtold)), (h_mpage, .inl (cI, 40, .inl f_mpage))] sz)) 0 0 (va_A [(h_md, .inr (10, [.int x_dcNow, .int x_humNow, .int x_wave, .int x_noiseNow, .long x_seedNow, .long x_tick, .int x_range, .int (bI x_isAuto), .int x_offset, .int x_creep, .int x_factor, .int x_shift, .int x_cycles, .int x_zeroing, .int x_most, .int x_window, .int (bI x_wasConversion), .int x_plus, .int x_minus, .int x_switched, .ref h_mcnt, .long x_charge, .int (bI x_wasOver), .long x_sum, .long x_flowed, .int (bI x_wasShorted), .int x_rangeThen, .ref h_mzs, .ref h_mzc, .ref h_mzr, .int x_held, .ref h_mvals, .int x_kept, .ref h_mtold, .int x_readings, .int x_readingsOver, .int x_conversions, .int x_shortedOnes, .int x_madeMore, .int x_madeLess, .int x_jumps, .int x_settings, .int x_pageLength, .ref h_mpage, .int x_command, .int x_figures, .int x_number, .int (bI x_isBelow), .long x_h])), (h_mcnt, .inl (cI, 4, .inl f_mcnt)), (h_mzs, .inl (cJ, 3, .inr (.inl f_mzs))), (h_mzc, .inl (cI, 3, .inl f_mzc)), (h_mzr, .inl (cI, 3, .inl f_mzr)), (h_mvals, .inl (cJ, 17, .inr (.inl f_mvals))), (h_mtold, .inl (cI, 96, .inl f_mtold)), (h_mpage, .inl (cI, 40, .inl f_mpage))] sz) := by
  refine g_met (cc := cX10_held) (maxL := 3) (ret := (some .int)) (Qc := gQi D cI cJ (f_X10_held x_held f_mvals p0 p1) _ _) (by decide) rfl (Nat.le_of_ble_eq_true rfl) ?_
  intro A p e s m below meth c hx hb hr hml hts hown hlk hnm hP hK hD hE hA hS ls hl
  have hown : s.vm.findClass RX10 = some m.cls := hown
  have hl : lv_has ls 3 [(0, .ref h_md), (1, .int p0), (2, .int p1)] := hl
  have hi10 : ∀ w ∈ u_ws RX10 TX10 49, w ∈ wsX10_held := fun w h9 => List.mem_cons_of_mem _ (List.mem_append_right _ h9)
  have hm1 := hts (.fieldLink RX10 271 "VoltSlopesModel" "held" "I") (List.mem_of_getElem? (i := 1) rfl)
  have hm2 := hts (.constant RX10 312 (-1000000001)) (List.mem_of_getElem? (i := 2) rfl)
  have hm3 := hts (.constant RX10 54 (-1000000002)) (List.mem_of_getElem? (i := 3) rfl)
  have hF := f_X10_held.eq_1 x_held f_mvals p0 p1
  refine lv_iload_n hx hb dX10_held_0 rfl (lv_at hl 1 rfl) ?_
  refine lv_iconst (v := 0) hx hb dX10_held_1 (by decide) ?_
  refine lv_aload_n hx hb dX10_held_2 rfl (lv_at hl 0 rfl) ?_
  refine va_get (D := D) (ci := 10) (v := .int x_held) (C := RX10) (T := TX10) (N := 49) hx hb hts hi10 hown hK hP 0 rfl rfl 30 (by decide) hm1 (fun _ h9 => h9) rfl dX10_held_3 ?_
  refine lv_iconst (v := 1) hx hb dX10_held_6 (by decide) ?_
  refine lv_isub hx hb dX10_held_7 ?_
  refine g_csz (rest := []) ⟨hx, hb, hml, hown, hts⟩ hP hD hK hS hA hE (c_X10_within l D cI cJ s.heap.size p0 (0 : Int32) (x_held - (1 : Int32))) (va_cwS 3 hts gX10_held_X10_within rfl rfl rfl (by decide +kernel) ⟨Nat.le_of_ble_eq_true rfl, Nat.le_of_ble_eq_true rfl⟩) rfl hl rfl (Nat.le_of_ble_eq_true rfl) ⟨Nat.zero_le _, Nat.zero_le _⟩ dX10_held_8 (fun r_8_1 H locs hw_1 hx_1 hP hS => ?_)
  have hwi_8 := within_in hw_1
  have hF := hF
  rw [hw_1] at hF
  try dsimp only at hF
  refine lv_if_ne (tgt := 18) hx hb dX10_held_11 (by decide) (fun c_11_2w => ?_) (fun c_11_2w => ?_)
  · have c_11_2 := bI_t c_11_2w
    have hF := hF.trans (if_pos c_11_2)
    refine lv_iload_n hx hb dX10_held_18 rfl (lv_at hl 2 rfl) ?_
    refine lv_iconst (v := 0) hx hb dX10_held_19 (by decide) ?_
    refine lv_iconst (v := 1) hx hb dX10_held_20 (by decide) ?_
    refine g_csz (rest := []) ⟨hx, hb, hml, hown, hts⟩ hP hD hK hS hA hE (c_X10_within l D cI cJ H.size p1 (0 : Int32) (1 : Int32)) (va_cwS 3 hts gX10_held_X10_within rfl rfl rfl (by decide +kernel) ⟨Nat.le_of_ble_eq_true rfl, Nat.le_of_ble_eq_true rfl⟩) rfl hl rfl (Nat.le_of_ble_eq_true rfl) ⟨Nat.zero_le _, Nat.zero_le _⟩ dX10_held_21 (fun r_21_3 H locs hw_3 hx_3 hP hS => ?_)
    have hwi_21 := within_in hw_3
    have hF := hF
    rw [hw_3] at hF
    try dsimp only at hF
    refine lv_if_eq (tgt := 36) hx hb dX10_held_24 (by decide) (fun c_24_4w => ?_) (fun c_24_4w => ?_)
    · have c_24_4 := bI_f2 c_24_4w
      have hF := hF.trans (if_neg c_24_4)
      refine lv_ldc hx hb hown hm3 dX10_held_36 ?_
      exact g_iret () hx hb hr hlk hP hK hD hS hF trivial rfl dX10_held_38
    · have c_24_4 := bI_t c_24_4w
      have hF := hF.trans (if_pos c_24_4)
      refine lv_aload_n hx hb dX10_held_27 rfl (lv_at hl 0 rfl) ?_
      refine lv_iload_n hx hb dX10_held_28 rfl (lv_at hl 1 rfl) ?_
      refine lv_iload_n hx hb dX10_held_29 rfl (lv_at hl 2 rfl) ?_
      refine g_cvi (rest := []) ⟨hx, hb, hml, hown, hts⟩ hP hD hK hS hA hE (c_X10_heldNow l D cI cJ h_md h_mcnt h_mzs h_mzc h_mzr h_mvals h_mtold h_mpage H.size x_dcNow x_humNow x_wave x_noiseNow x_seedNow x_tick x_range x_isAuto x_offset x_creep x_factor x_shift x_cycles x_zeroing x_most x_window x_wasConversion x_plus x_minus x_switched x_charge x_wasOver x_sum x_flowed x_wasShorted x_rangeThen x_held x_kept x_readings x_readingsOver x_conversions x_shortedOnes x_madeMore x_madeLess x_jumps x_settings x_pageLength x_command x_figures x_number x_isBelow x_h f_mcnt f_mzs f_mzc f_mzr f_mvals f_mtold f_mpage p0 p1 (held_in hh (hwi_8 (by with_reducible assumption)))) (cwV 2 hts gX10_held_X10_heldNow rfl rfl rfl (by decide +kernel) ⟨Nat.le_of_ble_eq_true rfl, Nat.le_of_ble_eq_true rfl⟩) [0, 1, 2, 3, 4, 5, 6, 7] [] rfl rfl rfl rfl rfl 10 0 rfl rfl rfl hl rfl (Nat.le_of_ble_eq_true rfl) ⟨Nat.zero_le _, Nat.zero_le _⟩ dX10_held_30 (fun r_30_5 u_5 H locs hw_5 hx_5 hP hD hS => ?_)
      obtain ⟨hP, hD⟩ := g_re (ws' := [(h_md, .inr (10, [.int x_dcNow, .int x_humNow, .int x_wave, .int x_noiseNow, .long x_seedNow, .long x_tick, .int x_range, .int (bI x_isAuto), .int x_offset, .int x_creep, .int x_factor, .int x_shift, .int x_cycles, .int x_zeroing, .int x_most, .int x_window, .int (bI x_wasConversion), .int x_plus, .int x_minus, .int x_switched, .ref h_mcnt, .long x_charge, .int (bI x_wasOver), .long x_sum, .long x_flowed, .int (bI x_wasShorted), .int x_rangeThen, .ref h_mzs, .ref h_mzc, .ref h_mzr, .int x_held, .ref h_mvals, .int x_kept, .ref h_mtold, .int x_readings, .int x_readingsOver, .int x_conversions, .int x_shortedOnes, .int x_madeMore, .int x_madeLess, .int x_jumps, .int x_settings, .int x_pageLength, .ref h_mpage, .int x_command, .int x_figures, .int x_number, .int (bI x_isBelow), .long x_h])), (h_mcnt, .inl (cI, 4, .inl f_mcnt)), (h_mzs, .inl (cJ, 3, .inr (.inl f_mzs))), (h_mzc, .inl (cI, 3, .inl f_mzc)), (h_mzr, .inl (cI, 3, .inl f_mzr)), (h_mvals, .inl (cJ, 17, .inr (.inl f_mvals))), (h_mtold, .inl (cI, 96, .inl f_mtold)), (h_mpage, .inl (cI, 40, .inl f_mpage))]) rfl hP hD
      have hF := hF
      rw [hw_5] at hF
      try dsimp only at hF
      refine lv_goto (tgt := 38) hx hb dX10_held_33 (by decide) ?_
      exact g_iret () hx hb hr hlk hP hK hD hS hF trivial rfl dX10_held_38
  · have c_11_2 := bI_f2 c_11_2w
    have hF := hF.trans (if_neg c_11_2)
    refine lv_ldcw hx hb hown hm2 dX10_held_14 ?_
    exact g_iret () hx hb hr hlk hP hK hD hS hF trivial rfl dX10_held_17

noncomputable def f_X10_aboutNow (x_dcNow : Int32) (x_seedNow : Int64) (x_tick : Int64) (x_range : Int32) (x_isAuto : Bool) (x_offset : Int32) (x_cycles : Int32) (x_zeroing : Int32) (x_most : Int32) (x_window : Int32) (p0 : Int32) : (Int32 × Unit) := (if p0 = (0 : Int32) then (x_range, ()) else (if p0 = (1 : Int32) then (if x_isAuto = true then ((1 : Int32), ()) else ((0 : Int32), ())) else (if p0 = (2 : Int32) then (x_cycles, ()) else (if p0 = (3 : Int32) then (x_zeroing, ()) else (if p0 = (4 : Int32) then (x_most, ()) else (if p0 = (5 : Int32) then (x_window, ()) else (if p0 = (6 : Int32) then (x_dcNow, ()) else (if p0 = (7 : Int32) then (x_offset, ()) else (if p0 = (8 : Int32) then (x_seedNow.toInt32, ()) else (x_tick.toInt32, ()))))))))))
set_option maxHeartbeats 4000000 in
set_option maxRecDepth 100000 in
theorem c_X10_aboutNow (l : Launch) (D : va_G) (cI cJ : ClassId) (h_md h_mcnt h_mzs h_mzc h_mzr h_mvals h_mtold h_mpage : Nat) (sz : Nat) (x_dcNow : Int32) (x_humNow : Int32) (x_wave : Int32) (x_noiseNow : Int32) (x_seedNow : Int64) (x_tick : Int64) (x_range : Int32) (x_isAuto : Bool) (x_offset : Int32) (x_creep : Int32) (x_factor : Int32) (x_shift : Int32) (x_cycles : Int32) (x_zeroing : Int32) (x_most : Int32) (x_window : Int32) (x_wasConversion : Bool) (x_plus : Int32) (x_minus : Int32) (x_switched : Int32) (x_charge : Int64) (x_wasOver : Bool) (x_sum : Int64) (x_flowed : Int64) (x_wasShorted : Bool) (x_rangeThen : Int32) (x_held : Int32) (x_kept : Int32) (x_readings : Int32) (x_readingsOver : Int32) (x_conversions : Int32) (x_shortedOnes : Int32) (x_madeMore : Int32) (x_madeLess : Int32) (x_jumps : Int32) (x_settings : Int32) (x_pageLength : Int32) (x_command : Int32) (x_figures : Int32) (x_number : Int32) (x_isBelow : Bool) (x_h : Int64) (f_mcnt : Nat → Int32) (f_mzs : Nat → Int64) (f_mzc : Nat → Int32) (f_mzr : Nat → Int32) (f_mvals : Nat → Int64) (f_mtold : Nat → Int32) (f_mpage : Nat → Int32) (p0 : Int32) : Met l yX10_aboutNow wsX10_aboutNow ({ frames := 0, cells := 0, slots := 0, locals := 0 }) (gPc D cI cJ [.ref h_md, .int p0] [(h_md, .inr (10, [.int x_dcNow, .int x_humNow, .int x_wave, .int x_noiseNow, .long x_seedNow, .long x_tick, .int x_range, .int (bI x_isAuto), .int x_offset, .int x_creep, .int x_factor, .int x_shift, .int x_cycles, .int x_zeroing, .int x_most, .int x_window, .int (bI x_wasConversion), .int x_plus, .int x_minus, .int x_switched, .ref h_mcnt, .long x_charge, .int (bI x_wasOver), .long x_sum, .long x_flowed, .int (bI x_wasShorted), .int x_rangeThen, .ref h_mzs, .ref h_mzc, .ref h_mzr, .int x_held, .ref h_mvals, .int x_kept, .ref h_mtold, .int x_readings, .int x_readingsOver, .int x_conversions, .int x_shortedOnes, .int x_madeMore, .int x_madeLess, .int x_jumps, .int x_settings, .int x_pageLength, .ref h_mpage, .int x_command, .int x_figures, .int x_number, .int (bI x_isBelow), .long x_h])), (h_mcnt, .inl (cI, 4, .inl f_mcnt)), (h_mzs, .inl (cJ, 3, .inr (.inl f_mzs))), (h_mzc, .inl (cI, 3, .inl f_mzc)), (h_mzr, .inl (cI, 3, .inl f_mzr)), (h_mvals, .inl (cJ, 17, .inr (.inl f_mvals))), (h_mtold, .inl (cI, 96, .inl f_mtold)), (h_mpage, .inl (cI, 40, .inl f_mpage))] sz) (gQi D cI cJ (f_X10_aboutNow x_dcNow x_seedNow x_tick x_range x_isAuto x_offset x_cycles x_zeroing x_most x_window p0) (fun _ _ => True) (fun _ : Unit => [(h_md, .inr (10, [.int x_dcNow, .int x_humNow, .int x_wave, .int x_noiseNow, .long x_seedNow, .long x_tick, .int x_range, .int (bI x_isAuto), .int x_offset, .int x_creep, .int x_factor, .int x_shift, .int x_cycles, .int x_zeroing, .int x_most, .int x_window, .int (bI x_wasConversion), .int x_plus, .int x_minus, .int x_switched, .ref h_mcnt, .long x_charge, .int (bI x_wasOver), .long x_sum, .long x_flowed, .int (bI x_wasShorted), .int x_rangeThen, .ref h_mzs, .ref h_mzc, .ref h_mzr, .int x_held, .ref h_mvals, .int x_kept, .ref h_mtold, .int x_readings, .int x_readingsOver, .int x_conversions, .int x_shortedOnes, .int x_madeMore, .int x_madeLess, .int x_jumps, .int x_settings, .int x_pageLength, .ref h_mpage, .int x_command, .int x_figures, .int x_number, .int (bI x_isBelow), .long x_h])), (h_mcnt, .inl (cI, 4, .inl f_mcnt)), (h_mzs, .inl (cJ, 3, .inr (.inl f_mzs))), (h_mzc, .inl (cI, 3, .inl f_mzc)), (h_mzr, .inl (cI, 3, .inl f_mzr)), (h_mvals, .inl (cJ, 17, .inr (.inl f_mvals))), (h_mtold, .inl (cI, 96, .inl f_mtold)), (h_mpage, .inl (cI, 40, .inl f_mpage))]) (va_A [(h_md, .inr (10, [.int x_dcNow, .int x_humNow, .int x_wave, .int x_noiseNow, .long x_seedNow, .long x_tick, .int x_range, .int (bI x_isAuto), .int x_offset, .int x_creep, .int x_factor, .int x_shift, .int x_cycles, .int x_zeroing, .int x_most, .int x_window, .int (bI x_wasConversion), .int x_plus, .int x_minus, .int x_switched, .ref h_mcnt, .long x_charge, .int (bI x_wasOver), .long x_sum, .long x_flowed, .int (bI x_wasShorted), .int x_rangeThen, .ref h_mzs, .ref h_mzc, .ref h_mzr, .int x_held, .ref h_mvals, .int x_kept, .ref h_mtold, .int x_readings, .int x_readingsOver, .int x_conversions, .int x_shortedOnes, .int x_madeMore, .int x_madeLess, .int x_jumps, .int x_settings, .int x_pageLength, .ref h_mpage, .int x_command, .int x_figures, .int x_number, .int (bI x_isBelow), .long x_h])), (h_mcnt, .inl (cI, 4, .inl f_mcnt)), (h_mzs, .inl (cJ, 3, .inr (.inl f_mzs))), (h_mzc, .inl (cI, 3, .inl f_mzc)), (h_mzr, .inl (cI, 3, .inl f_mzr)), (h_mvals, .inl (cJ, 17, .inr (.inl f_mvals))), (h_mtold, .inl (cI, 96, .inl f_mtold)), (h_mpage, .inl (cI, 40, .inl f_mpage))] sz)) 0 0 (va_A [(h_md, .inr (10, [.int x_dcNow, .int x_humNow, .int x_wave, .int x_noiseNow, .long x_seedNow, .long x_tick, .int x_range, .int (bI x_isAuto), .int x_offset, .int x_creep, .int x_factor, .int x_shift, .int x_cycles, .int x_zeroing, .int x_most, .int x_window, .int (bI x_wasConversion), .int x_plus, .int x_minus, .int x_switched, .ref h_mcnt, .long x_charge, .int (bI x_wasOver), .long x_sum, .long x_flowed, .int (bI x_wasShorted), .int x_rangeThen, .ref h_mzs, .ref h_mzc, .ref h_mzr, .int x_held, .ref h_mvals, .int x_kept, .ref h_mtold, .int x_readings, .int x_readingsOver, .int x_conversions, .int x_shortedOnes, .int x_madeMore, .int x_madeLess, .int x_jumps, .int x_settings, .int x_pageLength, .ref h_mpage, .int x_command, .int x_figures, .int x_number, .int (bI x_isBelow), .long x_h])), (h_mcnt, .inl (cI, 4, .inl f_mcnt)), (h_mzs, .inl (cJ, 3, .inr (.inl f_mzs))), (h_mzc, .inl (cI, 3, .inl f_mzc)), (h_mzr, .inl (cI, 3, .inl f_mzr)), (h_mvals, .inl (cJ, 17, .inr (.inl f_mvals))), (h_mtold, .inl (cI, 96, .inl f_mtold)), (h_mpage, .inl (cI, 40, .inl f_mpage))] sz) := by
  refine g_met (cc := cX10_aboutNow) (maxL := 2) (ret := (some .int)) (Qc := gQi D cI cJ (f_X10_aboutNow x_dcNow x_seedNow x_tick x_range x_isAuto x_offset x_cycles x_zeroing x_most x_window p0) _ _) (by decide) rfl (Nat.le_of_ble_eq_true rfl) ?_
  intro A p e s m below meth c hx hb hr hml hts hown hlk hnm hP hK hD hE hA hS ls hl
  have hown : s.vm.findClass RX10 = some m.cls := hown
  have hl : lv_has ls 2 [(0, .ref h_md), (1, .int p0)] := hl
  have hi10 : ∀ w ∈ u_ws RX10 TX10 49, w ∈ wsX10_aboutNow := fun w h9 => List.mem_cons_of_mem _ (List.mem_append_right _ h9)
  have hm1 := hts (.fieldLink RX10 95 "VoltSlopesModel" "range" "I") (List.mem_of_getElem? (i := 1) rfl)
  have hm2 := hts (.fieldLink RX10 13 "VoltSlopesModel" "isAuto" "Z") (List.mem_of_getElem? (i := 2) rfl)
  have hm3 := hts (.fieldLink RX10 17 "VoltSlopesModel" "cycles" "I") (List.mem_of_getElem? (i := 3) rfl)
  have hm4 := hts (.fieldLink RX10 21 "VoltSlopesModel" "zeroing" "I") (List.mem_of_getElem? (i := 4) rfl)
  have hm5 := hts (.fieldLink RX10 24 "VoltSlopesModel" "most" "I") (List.mem_of_getElem? (i := 5) rfl)
  have hm6 := hts (.fieldLink RX10 101 "VoltSlopesModel" "window" "I") (List.mem_of_getElem? (i := 6) rfl)
  have hm7 := hts (.fieldLink RX10 104 "VoltSlopesModel" "dcNow" "I") (List.mem_of_getElem? (i := 7) rfl)
  have hm8 := hts (.fieldLink RX10 137 "VoltSlopesModel" "offset" "I") (List.mem_of_getElem? (i := 8) rfl)
  have hm9 := hts (.fieldLink RX10 7 "VoltSlopesModel" "seedNow" "J") (List.mem_of_getElem? (i := 9) rfl)
  have hm10 := hts (.fieldLink RX10 163 "VoltSlopesModel" "tick" "J") (List.mem_of_getElem? (i := 10) rfl)
  have hF := f_X10_aboutNow.eq_1 x_dcNow x_seedNow x_tick x_range x_isAuto x_offset x_cycles x_zeroing x_most x_window p0
  refine lv_iload_n hx hb dX10_aboutNow_0 rfl (lv_at hl 1 rfl) ?_
  by_cases c_1_1_0 : p0 = (0 : Int32)
  · have hF := hF.trans (if_pos c_1_1_0)
    refine lv_tableIn (off := 51) (tgt := 52) hx hb dX10_aboutNow_1 (by rw [c_1_1_0]; decide) (by rw [c_1_1_0]; decide) (by rw [c_1_1_0]; rfl) (by decide) ?_
    refine lv_aload_n hx hb dX10_aboutNow_52 rfl (lv_at hl 0 rfl) ?_
    refine va_get (D := D) (ci := 10) (v := .int x_range) (C := RX10) (T := TX10) (N := 49) hx hb hts hi10 hown hK hP 0 rfl rfl 6 (by decide) hm1 (fun _ h9 => h9) rfl dX10_aboutNow_53 ?_
    exact g_iret () hx hb hr hlk hP hK hD hS hF trivial rfl dX10_aboutNow_56
  have hF := hF.trans (if_neg c_1_1_0)
  by_cases c_1_1_1 : p0 = (1 : Int32)
  · have hF := hF.trans (if_pos c_1_1_1)
    refine lv_tableIn (off := 56) (tgt := 57) hx hb dX10_aboutNow_1 (by rw [c_1_1_1]; decide) (by rw [c_1_1_1]; decide) (by rw [c_1_1_1]; rfl) (by decide) ?_
    refine lv_aload_n hx hb dX10_aboutNow_57 rfl (lv_at hl 0 rfl) ?_
    refine va_get (D := D) (ci := 10) (v := .int (bI x_isAuto)) (C := RX10) (T := TX10) (N := 49) hx hb hts hi10 hown hK hP 0 rfl rfl 7 (by decide) hm2 (fun _ h9 => h9) rfl dX10_aboutNow_58 ?_
    refine lv_if_eq (tgt := 68) hx hb dX10_aboutNow_61 (by decide) (fun c_61_2w => ?_) (fun c_61_2w => ?_)
    · have c_61_2 := bI_f2 c_61_2w
      have hF := hF.trans (if_neg c_61_2)
      refine lv_iconst (v := 0) hx hb dX10_aboutNow_68 (by decide) ?_
      exact g_iret () hx hb hr hlk hP hK hD hS hF trivial rfl dX10_aboutNow_69
    · have c_61_2 := bI_t c_61_2w
      have hF := hF.trans (if_pos c_61_2)
      refine lv_iconst (v := 1) hx hb dX10_aboutNow_64 (by decide) ?_
      refine lv_goto (tgt := 69) hx hb dX10_aboutNow_65 (by decide) ?_
      exact g_iret () hx hb hr hlk hP hK hD hS hF trivial rfl dX10_aboutNow_69
  have hF := hF.trans (if_neg c_1_1_1)
  by_cases c_1_1_2 : p0 = (2 : Int32)
  · have hF := hF.trans (if_pos c_1_1_2)
    refine lv_tableIn (off := 69) (tgt := 70) hx hb dX10_aboutNow_1 (by rw [c_1_1_2]; decide) (by rw [c_1_1_2]; decide) (by rw [c_1_1_2]; rfl) (by decide) ?_
    refine lv_aload_n hx hb dX10_aboutNow_70 rfl (lv_at hl 0 rfl) ?_
    refine va_get (D := D) (ci := 10) (v := .int x_cycles) (C := RX10) (T := TX10) (N := 49) hx hb hts hi10 hown hK hP 0 rfl rfl 12 (by decide) hm3 (fun _ h9 => h9) rfl dX10_aboutNow_71 ?_
    exact g_iret () hx hb hr hlk hP hK hD hS hF trivial rfl dX10_aboutNow_74
  have hF := hF.trans (if_neg c_1_1_2)
  by_cases c_1_1_3 : p0 = (3 : Int32)
  · have hF := hF.trans (if_pos c_1_1_3)
    refine lv_tableIn (off := 74) (tgt := 75) hx hb dX10_aboutNow_1 (by rw [c_1_1_3]; decide) (by rw [c_1_1_3]; decide) (by rw [c_1_1_3]; rfl) (by decide) ?_
    refine lv_aload_n hx hb dX10_aboutNow_75 rfl (lv_at hl 0 rfl) ?_
    refine va_get (D := D) (ci := 10) (v := .int x_zeroing) (C := RX10) (T := TX10) (N := 49) hx hb hts hi10 hown hK hP 0 rfl rfl 13 (by decide) hm4 (fun _ h9 => h9) rfl dX10_aboutNow_76 ?_
    exact g_iret () hx hb hr hlk hP hK hD hS hF trivial rfl dX10_aboutNow_79
  have hF := hF.trans (if_neg c_1_1_3)
  by_cases c_1_1_4 : p0 = (4 : Int32)
  · have hF := hF.trans (if_pos c_1_1_4)
    refine lv_tableIn (off := 79) (tgt := 80) hx hb dX10_aboutNow_1 (by rw [c_1_1_4]; decide) (by rw [c_1_1_4]; decide) (by rw [c_1_1_4]; rfl) (by decide) ?_
    refine lv_aload_n hx hb dX10_aboutNow_80 rfl (lv_at hl 0 rfl) ?_
    refine va_get (D := D) (ci := 10) (v := .int x_most) (C := RX10) (T := TX10) (N := 49) hx hb hts hi10 hown hK hP 0 rfl rfl 14 (by decide) hm5 (fun _ h9 => h9) rfl dX10_aboutNow_81 ?_
    exact g_iret () hx hb hr hlk hP hK hD hS hF trivial rfl dX10_aboutNow_84
  have hF := hF.trans (if_neg c_1_1_4)
  by_cases c_1_1_5 : p0 = (5 : Int32)
  · have hF := hF.trans (if_pos c_1_1_5)
    refine lv_tableIn (off := 84) (tgt := 85) hx hb dX10_aboutNow_1 (by rw [c_1_1_5]; decide) (by rw [c_1_1_5]; decide) (by rw [c_1_1_5]; rfl) (by decide) ?_
    refine lv_aload_n hx hb dX10_aboutNow_85 rfl (lv_at hl 0 rfl) ?_
    refine va_get (D := D) (ci := 10) (v := .int x_window) (C := RX10) (T := TX10) (N := 49) hx hb hts hi10 hown hK hP 0 rfl rfl 15 (by decide) hm6 (fun _ h9 => h9) rfl dX10_aboutNow_86 ?_
    exact g_iret () hx hb hr hlk hP hK hD hS hF trivial rfl dX10_aboutNow_89
  have hF := hF.trans (if_neg c_1_1_5)
  by_cases c_1_1_6 : p0 = (6 : Int32)
  · have hF := hF.trans (if_pos c_1_1_6)
    refine lv_tableIn (off := 89) (tgt := 90) hx hb dX10_aboutNow_1 (by rw [c_1_1_6]; decide) (by rw [c_1_1_6]; decide) (by rw [c_1_1_6]; rfl) (by decide) ?_
    refine lv_aload_n hx hb dX10_aboutNow_90 rfl (lv_at hl 0 rfl) ?_
    refine va_get (D := D) (ci := 10) (v := .int x_dcNow) (C := RX10) (T := TX10) (N := 49) hx hb hts hi10 hown hK hP 0 rfl rfl 0 (by decide) hm7 (fun _ h9 => h9) rfl dX10_aboutNow_91 ?_
    exact g_iret () hx hb hr hlk hP hK hD hS hF trivial rfl dX10_aboutNow_94
  have hF := hF.trans (if_neg c_1_1_6)
  by_cases c_1_1_7 : p0 = (7 : Int32)
  · have hF := hF.trans (if_pos c_1_1_7)
    refine lv_tableIn (off := 94) (tgt := 95) hx hb dX10_aboutNow_1 (by rw [c_1_1_7]; decide) (by rw [c_1_1_7]; decide) (by rw [c_1_1_7]; rfl) (by decide) ?_
    refine lv_aload_n hx hb dX10_aboutNow_95 rfl (lv_at hl 0 rfl) ?_
    refine va_get (D := D) (ci := 10) (v := .int x_offset) (C := RX10) (T := TX10) (N := 49) hx hb hts hi10 hown hK hP 0 rfl rfl 8 (by decide) hm8 (fun _ h9 => h9) rfl dX10_aboutNow_96 ?_
    exact g_iret () hx hb hr hlk hP hK hD hS hF trivial rfl dX10_aboutNow_99
  have hF := hF.trans (if_neg c_1_1_7)
  by_cases c_1_1_8 : p0 = (8 : Int32)
  · have hF := hF.trans (if_pos c_1_1_8)
    refine lv_tableIn (off := 99) (tgt := 100) hx hb dX10_aboutNow_1 (by rw [c_1_1_8]; decide) (by rw [c_1_1_8]; decide) (by rw [c_1_1_8]; rfl) (by decide) ?_
    refine lv_aload_n hx hb dX10_aboutNow_100 rfl (lv_at hl 0 rfl) ?_
    refine va_get (D := D) (ci := 10) (v := .long x_seedNow) (C := RX10) (T := TX10) (N := 49) hx hb hts hi10 hown hK hP 0 rfl rfl 4 (by decide) hm9 (fun _ h9 => h9) rfl dX10_aboutNow_101 ?_
    refine lv_l2i (v := x_seedNow.toInt32) hx hb dX10_aboutNow_104 rfl ?_
    exact g_iret () hx hb hr hlk hP hK hD hS hF trivial rfl dX10_aboutNow_105
  have hF := hF.trans (if_neg c_1_1_8)
  refine lv_tableOut (tgt := 106) hx hb dX10_aboutNow_1 (by have := lv_neT (a := 0) c_1_1_0 (by decide); have := lv_neT (a := 1) c_1_1_1 (by decide); have := lv_neT (a := 2) c_1_1_2 (by decide); have := lv_neT (a := 3) c_1_1_3 (by decide); have := lv_neT (a := 4) c_1_1_4 (by decide); have := lv_neT (a := 5) c_1_1_5 (by decide); have := lv_neT (a := 6) c_1_1_6 (by decide); have := lv_neT (a := 7) c_1_1_7 (by decide); have := lv_neT (a := 8) c_1_1_8 (by decide); omega) (by decide) ?_
  refine lv_aload_n hx hb dX10_aboutNow_106 rfl (lv_at hl 0 rfl) ?_
  refine va_get (D := D) (ci := 10) (v := .long x_tick) (C := RX10) (T := TX10) (N := 49) hx hb hts hi10 hown hK hP 0 rfl rfl 5 (by decide) hm10 (fun _ h9 => h9) rfl dX10_aboutNow_107 ?_
  refine lv_l2i (v := x_tick.toInt32) hx hb dX10_aboutNow_110 rfl ?_
  exact g_iret () hx hb hr hlk hP hK hD hS hF trivial rfl dX10_aboutNow_111

noncomputable def f_X10_about (x_dcNow : Int32) (x_seedNow : Int64) (x_tick : Int64) (x_range : Int32) (x_isAuto : Bool) (x_offset : Int32) (x_cycles : Int32) (x_zeroing : Int32) (x_most : Int32) (x_window : Int32) (p0 : Int32) : (Int32 × Unit) := (match (f_X10_within p0 (0 : Int32) (9 : Int32)) with | (r_4_1, _) => (if r_4_1 = true then (match (f_X10_aboutNow x_dcNow x_seedNow x_tick x_range x_isAuto x_offset x_cycles x_zeroing x_most x_window p0) with | (r_12_3, _) => (r_12_3, ())) else ((-1000000002 : Int32), ())))
set_option maxHeartbeats 4000000 in
set_option maxRecDepth 100000 in
theorem c_X10_about (l : Launch) (D : va_G) (cI cJ : ClassId) (h_md h_mcnt h_mzs h_mzc h_mzr h_mvals h_mtold h_mpage : Nat) (sz : Nat) (x_dcNow : Int32) (x_humNow : Int32) (x_wave : Int32) (x_noiseNow : Int32) (x_seedNow : Int64) (x_tick : Int64) (x_range : Int32) (x_isAuto : Bool) (x_offset : Int32) (x_creep : Int32) (x_factor : Int32) (x_shift : Int32) (x_cycles : Int32) (x_zeroing : Int32) (x_most : Int32) (x_window : Int32) (x_wasConversion : Bool) (x_plus : Int32) (x_minus : Int32) (x_switched : Int32) (x_charge : Int64) (x_wasOver : Bool) (x_sum : Int64) (x_flowed : Int64) (x_wasShorted : Bool) (x_rangeThen : Int32) (x_held : Int32) (x_kept : Int32) (x_readings : Int32) (x_readingsOver : Int32) (x_conversions : Int32) (x_shortedOnes : Int32) (x_madeMore : Int32) (x_madeLess : Int32) (x_jumps : Int32) (x_settings : Int32) (x_pageLength : Int32) (x_command : Int32) (x_figures : Int32) (x_number : Int32) (x_isBelow : Bool) (x_h : Int64) (f_mcnt : Nat → Int32) (f_mzs : Nat → Int64) (f_mzc : Nat → Int32) (f_mzr : Nat → Int32) (f_mvals : Nat → Int64) (f_mtold : Nat → Int32) (f_mpage : Nat → Int32) (p0 : Int32) : Met l yX10_about wsX10_about ({ frames := 1, cells := 0, slots := 0, locals := 22 }) (gPc D cI cJ [.ref h_md, .int p0] [(h_md, .inr (10, [.int x_dcNow, .int x_humNow, .int x_wave, .int x_noiseNow, .long x_seedNow, .long x_tick, .int x_range, .int (bI x_isAuto), .int x_offset, .int x_creep, .int x_factor, .int x_shift, .int x_cycles, .int x_zeroing, .int x_most, .int x_window, .int (bI x_wasConversion), .int x_plus, .int x_minus, .int x_switched, .ref h_mcnt, .long x_charge, .int (bI x_wasOver), .long x_sum, .long x_flowed, .int (bI x_wasShorted), .int x_rangeThen, .ref h_mzs, .ref h_mzc, .ref h_mzr, .int x_held, .ref h_mvals, .int x_kept, .ref h_mtold, .int x_readings, .int x_readingsOver, .int x_conversions, .int x_shortedOnes, .int x_madeMore, .int x_madeLess, .int x_jumps, .int x_settings, .int x_pageLength, .ref h_mpage, .int x_command, .int x_figures, .int x_number, .int (bI x_isBelow), .long x_h])), (h_mcnt, .inl (cI, 4, .inl f_mcnt)), (h_mzs, .inl (cJ, 3, .inr (.inl f_mzs))), (h_mzc, .inl (cI, 3, .inl f_mzc)), (h_mzr, .inl (cI, 3, .inl f_mzr)), (h_mvals, .inl (cJ, 17, .inr (.inl f_mvals))), (h_mtold, .inl (cI, 96, .inl f_mtold)), (h_mpage, .inl (cI, 40, .inl f_mpage))] sz) (gQi D cI cJ (f_X10_about x_dcNow x_seedNow x_tick x_range x_isAuto x_offset x_cycles x_zeroing x_most x_window p0) (fun _ _ => True) (fun _ : Unit => [(h_md, .inr (10, [.int x_dcNow, .int x_humNow, .int x_wave, .int x_noiseNow, .long x_seedNow, .long x_tick, .int x_range, .int (bI x_isAuto), .int x_offset, .int x_creep, .int x_factor, .int x_shift, .int x_cycles, .int x_zeroing, .int x_most, .int x_window, .int (bI x_wasConversion), .int x_plus, .int x_minus, .int x_switched, .ref h_mcnt, .long x_charge, .int (bI x_wasOver), .long x_sum, .long x_flowed, .int (bI x_wasShorted), .int x_rangeThen, .ref h_mzs, .ref h_mzc, .ref h_mzr, .int x_held, .ref h_mvals, .int x_kept, .ref h_mtold, .int x_readings, .int x_readingsOver, .int x_conversions, .int x_shortedOnes, .int x_madeMore, .int x_madeLess, .int x_jumps, .int x_settings, .int x_pageLength, .ref h_mpage, .int x_command, .int x_figures, .int x_number, .int (bI x_isBelow), .long x_h])), (h_mcnt, .inl (cI, 4, .inl f_mcnt)), (h_mzs, .inl (cJ, 3, .inr (.inl f_mzs))), (h_mzc, .inl (cI, 3, .inl f_mzc)), (h_mzr, .inl (cI, 3, .inl f_mzr)), (h_mvals, .inl (cJ, 17, .inr (.inl f_mvals))), (h_mtold, .inl (cI, 96, .inl f_mtold)), (h_mpage, .inl (cI, 40, .inl f_mpage))]) (va_A [(h_md, .inr (10, [.int x_dcNow, .int x_humNow, .int x_wave, .int x_noiseNow, .long x_seedNow, .long x_tick, .int x_range, .int (bI x_isAuto), .int x_offset, .int x_creep, .int x_factor, .int x_shift, .int x_cycles, .int x_zeroing, .int x_most, .int x_window, .int (bI x_wasConversion), .int x_plus, .int x_minus, .int x_switched, .ref h_mcnt, .long x_charge, .int (bI x_wasOver), .long x_sum, .long x_flowed, .int (bI x_wasShorted), .int x_rangeThen, .ref h_mzs, .ref h_mzc, .ref h_mzr, .int x_held, .ref h_mvals, .int x_kept, .ref h_mtold, .int x_readings, .int x_readingsOver, .int x_conversions, .int x_shortedOnes, .int x_madeMore, .int x_madeLess, .int x_jumps, .int x_settings, .int x_pageLength, .ref h_mpage, .int x_command, .int x_figures, .int x_number, .int (bI x_isBelow), .long x_h])), (h_mcnt, .inl (cI, 4, .inl f_mcnt)), (h_mzs, .inl (cJ, 3, .inr (.inl f_mzs))), (h_mzc, .inl (cI, 3, .inl f_mzc)), (h_mzr, .inl (cI, 3, .inl f_mzr)), (h_mvals, .inl (cJ, 17, .inr (.inl f_mvals))), (h_mtold, .inl (cI, 96, .inl f_mtold)), (h_mpage, .inl (cI, 40, .inl f_mpage))] sz)) 0 0 (va_A [(h_md, .inr (10, [.int x_dcNow, .int x_humNow, .int x_wave, .int x_noiseNow, .long x_seedNow, .long x_tick, .int x_range, .int (bI x_isAuto), .int x_offset, .int x_creep, .int x_factor, .int x_shift, .int x_cycles, .int x_zeroing, .int x_most, .int x_window, .int (bI x_wasConversion), .int x_plus, .int x_minus, .int x_switched, .ref h_mcnt, .long x_charge, .int (bI x_wasOver), .long x_sum, .long x_flowed, .int (bI x_wasShorted), .int x_rangeThen, .ref h_mzs, .ref h_mzc, .ref h_mzr, .int x_held, .ref h_mvals, .int x_kept, .ref h_mtold, .int x_readings, .int x_readingsOver, .int x_conversions, .int x_shortedOnes, .int x_madeMore, .int x_madeLess, .int x_jumps, .int x_settings, .int x_pageLength, .ref h_mpage, .int x_command, .int x_figures, .int x_number, .int (bI x_isBelow), .long x_h])), (h_mcnt, .inl (cI, 4, .inl f_mcnt)), (h_mzs, .inl (cJ, 3, .inr (.inl f_mzs))), (h_mzc, .inl (cI, 3, .inl f_mzc)), (h_mzr, .inl (cI, 3, .inl f_mzr)), (h_mvals, .inl (cJ, 17, .inr (.inl f_mvals))), (h_mtold, .inl (cI, 96, .inl f_mtold)), (h_mpage, .inl (cI, 40, .inl f_mpage))] sz) := by
  refine g_met (cc := cX10_about) (maxL := 2) (ret := (some .int)) (Qc := gQi D cI cJ (f_X10_about x_dcNow x_seedNow x_tick x_range x_isAuto x_offset x_cycles x_zeroing x_most x_window p0) _ _) (by decide) rfl (Nat.le_of_ble_eq_true rfl) ?_
  intro A p e s m below meth c hx hb hr hml hts hown hlk hnm hP hK hD hE hA hS ls hl
  have hown : s.vm.findClass RX10 = some m.cls := hown
  have hl : lv_has ls 2 [(0, .ref h_md), (1, .int p0)] := hl
  have hm1 := hts (.constant RX10 54 (-1000000002)) (List.mem_of_getElem? (i := 1) rfl)
  have hF := f_X10_about.eq_1 x_dcNow x_seedNow x_tick x_range x_isAuto x_offset x_cycles x_zeroing x_most x_window p0
  refine lv_iload_n hx hb dX10_about_0 rfl (lv_at hl 1 rfl) ?_
  refine lv_iconst (v := 0) hx hb dX10_about_1 (by decide) ?_
  refine lv_bipush (v := 9) hx hb dX10_about_2 (by decide) ?_
  refine g_csz (rest := []) ⟨hx, hb, hml, hown, hts⟩ hP hD hK hS hA hE (c_X10_within l D cI cJ s.heap.size p0 (0 : Int32) (9 : Int32)) (va_cwS 3 hts gX10_about_X10_within rfl rfl rfl (by decide +kernel) ⟨Nat.le_of_ble_eq_true rfl, Nat.le_of_ble_eq_true rfl⟩) rfl hl rfl (Nat.le_of_ble_eq_true rfl) ⟨Nat.zero_le _, Nat.zero_le _⟩ dX10_about_4 (fun r_4_1 H locs hw_1 hx_1 hP hS => ?_)
  have hF := hF
  rw [hw_1] at hF
  try dsimp only at hF
  refine lv_if_eq (tgt := 18) hx hb dX10_about_7 (by decide) (fun c_7_2w => ?_) (fun c_7_2w => ?_)
  · have c_7_2 := bI_f2 c_7_2w
    have hF := hF.trans (if_neg c_7_2)
    refine lv_ldc hx hb hown hm1 dX10_about_18 ?_
    exact g_iret () hx hb hr hlk hP hK hD hS hF trivial rfl dX10_about_20
  · have c_7_2 := bI_t c_7_2w
    have hF := hF.trans (if_pos c_7_2)
    refine lv_aload_n hx hb dX10_about_10 rfl (lv_at hl 0 rfl) ?_
    refine lv_iload_n hx hb dX10_about_11 rfl (lv_at hl 1 rfl) ?_
    refine g_cvi (rest := []) ⟨hx, hb, hml, hown, hts⟩ hP hD hK hS hA hE (c_X10_aboutNow l D cI cJ h_md h_mcnt h_mzs h_mzc h_mzr h_mvals h_mtold h_mpage H.size x_dcNow x_humNow x_wave x_noiseNow x_seedNow x_tick x_range x_isAuto x_offset x_creep x_factor x_shift x_cycles x_zeroing x_most x_window x_wasConversion x_plus x_minus x_switched x_charge x_wasOver x_sum x_flowed x_wasShorted x_rangeThen x_held x_kept x_readings x_readingsOver x_conversions x_shortedOnes x_madeMore x_madeLess x_jumps x_settings x_pageLength x_command x_figures x_number x_isBelow x_h f_mcnt f_mzs f_mzc f_mzr f_mvals f_mtold f_mpage p0) (cwV 1 hts gX10_about_X10_aboutNow rfl rfl rfl (by decide +kernel) ⟨Nat.le_of_ble_eq_true rfl, Nat.le_of_ble_eq_true rfl⟩) [0, 1, 2, 3, 4, 5, 6, 7] [] rfl rfl rfl rfl rfl 10 0 rfl rfl rfl hl rfl (Nat.le_of_ble_eq_true rfl) ⟨Nat.zero_le _, Nat.zero_le _⟩ dX10_about_12 (fun r_12_3 u_3 H locs hw_3 hx_3 hP hD hS => ?_)
    obtain ⟨hP, hD⟩ := g_re (ws' := [(h_md, .inr (10, [.int x_dcNow, .int x_humNow, .int x_wave, .int x_noiseNow, .long x_seedNow, .long x_tick, .int x_range, .int (bI x_isAuto), .int x_offset, .int x_creep, .int x_factor, .int x_shift, .int x_cycles, .int x_zeroing, .int x_most, .int x_window, .int (bI x_wasConversion), .int x_plus, .int x_minus, .int x_switched, .ref h_mcnt, .long x_charge, .int (bI x_wasOver), .long x_sum, .long x_flowed, .int (bI x_wasShorted), .int x_rangeThen, .ref h_mzs, .ref h_mzc, .ref h_mzr, .int x_held, .ref h_mvals, .int x_kept, .ref h_mtold, .int x_readings, .int x_readingsOver, .int x_conversions, .int x_shortedOnes, .int x_madeMore, .int x_madeLess, .int x_jumps, .int x_settings, .int x_pageLength, .ref h_mpage, .int x_command, .int x_figures, .int x_number, .int (bI x_isBelow), .long x_h])), (h_mcnt, .inl (cI, 4, .inl f_mcnt)), (h_mzs, .inl (cJ, 3, .inr (.inl f_mzs))), (h_mzc, .inl (cI, 3, .inl f_mzc)), (h_mzr, .inl (cI, 3, .inl f_mzr)), (h_mvals, .inl (cJ, 17, .inr (.inl f_mvals))), (h_mtold, .inl (cI, 96, .inl f_mtold)), (h_mpage, .inl (cI, 40, .inl f_mpage))]) rfl hP hD
    have hF := hF
    rw [hw_3] at hF
    try dsimp only at hF
    refine lv_goto (tgt := 20) hx hb dX10_about_15 (by decide) ?_
    exact g_iret () hx hb hr hlk hP hK hD hS hF trivial rfl dX10_about_20

noncomputable def f_X10_zeroNow (f_mzs : Nat → Int64) (f_mzc : Nat → Int32) (f_mzr : Nat → Int32) (p0 : Int32) (p1 : Int32) : (Int32 × Unit) := (if p1 = (0 : Int32) then (((f_mzs p0.toNatClampNeg) / (1000 : Int64)).toInt32, ()) else (if p1 = (1 : Int32) then ((gRemL (f_mzs p0.toNatClampNeg) (1000 : Int64)).toInt32, ()) else (if p1 = (2 : Int32) then ((f_mzc p0.toNatClampNeg), ()) else ((f_mzr p0.toNatClampNeg), ()))))
set_option maxHeartbeats 4000000 in
set_option maxRecDepth 100000 in
theorem c_X10_zeroNow (l : Launch) (D : va_G) (cI cJ : ClassId) (h_md h_mcnt h_mzs h_mzc h_mzr h_mvals h_mtold h_mpage : Nat) (sz : Nat) (x_dcNow : Int32) (x_humNow : Int32) (x_wave : Int32) (x_noiseNow : Int32) (x_seedNow : Int64) (x_tick : Int64) (x_range : Int32) (x_isAuto : Bool) (x_offset : Int32) (x_creep : Int32) (x_factor : Int32) (x_shift : Int32) (x_cycles : Int32) (x_zeroing : Int32) (x_most : Int32) (x_window : Int32) (x_wasConversion : Bool) (x_plus : Int32) (x_minus : Int32) (x_switched : Int32) (x_charge : Int64) (x_wasOver : Bool) (x_sum : Int64) (x_flowed : Int64) (x_wasShorted : Bool) (x_rangeThen : Int32) (x_held : Int32) (x_kept : Int32) (x_readings : Int32) (x_readingsOver : Int32) (x_conversions : Int32) (x_shortedOnes : Int32) (x_madeMore : Int32) (x_madeLess : Int32) (x_jumps : Int32) (x_settings : Int32) (x_pageLength : Int32) (x_command : Int32) (x_figures : Int32) (x_number : Int32) (x_isBelow : Bool) (x_h : Int64) (f_mcnt : Nat → Int32) (f_mzs : Nat → Int64) (f_mzc : Nat → Int32) (f_mzr : Nat → Int32) (f_mvals : Nat → Int64) (f_mtold : Nat → Int32) (f_mpage : Nat → Int32) (p0 : Int32) (p1 : Int32) (hp : vp_in p0 3) : Met l yX10_zeroNow wsX10_zeroNow ({ frames := 0, cells := 0, slots := 0, locals := 0 }) (gPc D cI cJ [.ref h_md, .int p0, .int p1] [(h_md, .inr (10, [.int x_dcNow, .int x_humNow, .int x_wave, .int x_noiseNow, .long x_seedNow, .long x_tick, .int x_range, .int (bI x_isAuto), .int x_offset, .int x_creep, .int x_factor, .int x_shift, .int x_cycles, .int x_zeroing, .int x_most, .int x_window, .int (bI x_wasConversion), .int x_plus, .int x_minus, .int x_switched, .ref h_mcnt, .long x_charge, .int (bI x_wasOver), .long x_sum, .long x_flowed, .int (bI x_wasShorted), .int x_rangeThen, .ref h_mzs, .ref h_mzc, .ref h_mzr, .int x_held, .ref h_mvals, .int x_kept, .ref h_mtold, .int x_readings, .int x_readingsOver, .int x_conversions, .int x_shortedOnes, .int x_madeMore, .int x_madeLess, .int x_jumps, .int x_settings, .int x_pageLength, .ref h_mpage, .int x_command, .int x_figures, .int x_number, .int (bI x_isBelow), .long x_h])), (h_mcnt, .inl (cI, 4, .inl f_mcnt)), (h_mzs, .inl (cJ, 3, .inr (.inl f_mzs))), (h_mzc, .inl (cI, 3, .inl f_mzc)), (h_mzr, .inl (cI, 3, .inl f_mzr)), (h_mvals, .inl (cJ, 17, .inr (.inl f_mvals))), (h_mtold, .inl (cI, 96, .inl f_mtold)), (h_mpage, .inl (cI, 40, .inl f_mpage))] sz) (gQi D cI cJ (f_X10_zeroNow f_mzs f_mzc f_mzr p0 p1) (fun _ _ => True) (fun _ : Unit => [(h_md, .inr (10, [.int x_dcNow, .int x_humNow, .int x_wave, .int x_noiseNow, .long x_seedNow, .long x_tick, .int x_range, .int (bI x_isAuto), .int x_offset, .int x_creep, .int x_factor, .int x_shift, .int x_cycles, .int x_zeroing, .int x_most, .int x_window, .int (bI x_wasConversion), .int x_plus, .int x_minus, .int x_switched, .ref h_mcnt, .long x_charge, .int (bI x_wasOver), .long x_sum, .long x_flowed, .int (bI x_wasShorted), .int x_rangeThen, .ref h_mzs, .ref h_mzc, .ref h_mzr, .int x_held, .ref h_mvals, .int x_kept, .ref h_mtold, .int x_readings, .int x_readingsOver, .int x_conversions, .int x_shortedOnes, .int x_madeMore, .int x_madeLess, .int x_jumps, .int x_settings, .int x_pageLength, .ref h_mpage, .int x_command, .int x_figures, .int x_number, .int (bI x_isBelow), .long x_h])), (h_mcnt, .inl (cI, 4, .inl f_mcnt)), (h_mzs, .inl (cJ, 3, .inr (.inl f_mzs))), (h_mzc, .inl (cI, 3, .inl f_mzc)), (h_mzr, .inl (cI, 3, .inl f_mzr)), (h_mvals, .inl (cJ, 17, .inr (.inl f_mvals))), (h_mtold, .inl (cI, 96, .inl f_mtold)), (h_mpage, .inl (cI, 40, .inl f_mpage))]) (va_A [(h_md, .inr (10, [.int x_dcNow, .int x_humNow, .int x_wave, .int x_noiseNow, .long x_seedNow, .long x_tick, .int x_range, .int (bI x_isAuto), .int x_offset, .int x_creep, .int x_factor, .int x_shift, .int x_cycles, .int x_zeroing, .int x_most, .int x_window, .int (bI x_wasConversion), .int x_plus, .int x_minus, .int x_switched, .ref h_mcnt, .long x_charge, .int (bI x_wasOver), .long x_sum, .long x_flowed, .int (bI x_wasShorted), .int x_rangeThen, .ref h_mzs, .ref h_mzc, .ref h_mzr, .int x_held, .ref h_mvals, .int x_kept, .ref h_mtold, .int x_readings, .int x_readingsOver, .int x_conversions, .int x_shortedOnes, .int x_madeMore, .int x_madeLess, .int x_jumps, .int x_settings, .int x_pageLength, .ref h_mpage, .int x_command, .int x_figures, .int x_number, .int (bI x_isBelow), .long x_h])), (h_mcnt, .inl (cI, 4, .inl f_mcnt)), (h_mzs, .inl (cJ, 3, .inr (.inl f_mzs))), (h_mzc, .inl (cI, 3, .inl f_mzc)), (h_mzr, .inl (cI, 3, .inl f_mzr)), (h_mvals, .inl (cJ, 17, .inr (.inl f_mvals))), (h_mtold, .inl (cI, 96, .inl f_mtold)), (h_mpage, .inl (cI, 40, .inl f_mpage))] sz)) 0 0 (va_A [(h_md, .inr (10, [.int x_dcNow, .int x_humNow, .int x_wave, .int x_noiseNow, .long x_seedNow, .long x_tick, .int x_range, .int (bI x_isAuto), .int x_offset, .int x_creep, .int x_factor, .int x_shift, .int x_cycles, .int x_zeroing, .int x_most, .int x_window, .int (bI x_wasConversion), .int x_plus, .int x_minus, .int x_switched, .ref h_mcnt, .long x_charge, .int (bI x_wasOver), .long x_sum, .long x_flowed, .int (bI x_wasShorted), .int x_rangeThen, .ref h_mzs, .ref h_mzc, .ref h_mzr, .int x_held, .ref h_mvals, .int x_kept, .ref h_mtold, .int x_readings, .int x_readingsOver, .int x_conversions, .int x_shortedOnes, .int x_madeMore, .int x_madeLess, .int x_jumps, .int x_settings, .int x_pageLength, .ref h_mpage, .int x_command, .int x_figures, .int x_number, .int (bI x_isBelow), .long x_h])), (h_mcnt, .inl (cI, 4, .inl f_mcnt)), (h_mzs, .inl (cJ, 3, .inr (.inl f_mzs))), (h_mzc, .inl (cI, 3, .inl f_mzc)), (h_mzr, .inl (cI, 3, .inl f_mzr)), (h_mvals, .inl (cJ, 17, .inr (.inl f_mvals))), (h_mtold, .inl (cI, 96, .inl f_mtold)), (h_mpage, .inl (cI, 40, .inl f_mpage))] sz) := by
  refine g_met (cc := cX10_zeroNow) (maxL := 3) (ret := (some .int)) (Qc := gQi D cI cJ (f_X10_zeroNow f_mzs f_mzc f_mzr p0 p1) _ _) (by decide) rfl (Nat.le_of_ble_eq_true rfl) ?_
  intro A p e s m below meth c hx hb hr hml hts hown hlk hnm hP hK hD hE hA hS ls hl
  have hown : s.vm.findClass RX10 = some m.cls := hown
  have hl : lv_has ls 3 [(0, .ref h_md), (1, .int p0), (2, .int p1)] := hl
  have hi10 : ∀ w ∈ u_ws RX10 TX10 49, w ∈ wsX10_zeroNow := fun w h9 => List.mem_cons_of_mem _ (List.mem_append_right _ h9)
  have hm1 := hts (.fieldLink RX10 31 "VoltSlopesModel" "zeroSum" "[J") (List.mem_of_getElem? (i := 1) rfl)
  have hm2 := hts (.constantLong RX10 157 (1000)) (List.mem_of_getElem? (i := 2) rfl)
  have hm3 := hts (.fieldLink RX10 35 "VoltSlopesModel" "zeroCycles" "[I") (List.mem_of_getElem? (i := 3) rfl)
  have hm4 := hts (.fieldLink RX10 38 "VoltSlopesModel" "zeroReading" "[I") (List.mem_of_getElem? (i := 4) rfl)
  have hF := f_X10_zeroNow.eq_1 f_mzs f_mzc f_mzr p0 p1
  refine lv_iload_n hx hb dX10_zeroNow_0 rfl (lv_at hl 2 rfl) ?_
  by_cases c_1_1_0 : p1 = (0 : Int32)
  · have hF := hF.trans (if_pos c_1_1_0)
    have i_1_1_0 : p1.toInt = 0 := gi_eq c_1_1_0 rfl (by decide)
    refine lv_tableIn (off := 27) (tgt := 28) hx hb dX10_zeroNow_1 (by rw [c_1_1_0]; decide) (by rw [c_1_1_0]; decide) (by rw [c_1_1_0]; rfl) (by decide) ?_
    refine lv_aload_n hx hb dX10_zeroNow_28 rfl (lv_at hl 0 rfl) ?_
    refine va_get (D := D) (ci := 10) (v := .ref h_mzs) (C := RX10) (T := TX10) (N := 49) hx hb hts hi10 hown hK hP 0 rfl rfl 27 (by decide) hm1 (fun _ h9 => h9) rfl dX10_zeroNow_29 ?_
    refine lv_iload_n hx hb dX10_zeroNow_32 rfl (lv_at hl 1 rfl) ?_
    refine va_lald hx hb hK hP 2 1 rfl rfl (hp) dX10_zeroNow_33 ?_
    refine lv_ldc2 hx hb hown hm2 dX10_zeroNow_34 ?_
    refine lv_ldiv hx hb dX10_zeroNow_37 (by decide) ?_
    refine lv_l2i (v := ((f_mzs p0.toNatClampNeg) / (1000 : Int64)).toInt32) hx hb dX10_zeroNow_38 rfl ?_
    exact g_iret () hx hb hr hlk hP hK hD hS hF trivial rfl dX10_zeroNow_39
  have hF := hF.trans (if_neg c_1_1_0)
  have i_1_1_0 : p1.toInt ≠ 0 := gi_ne c_1_1_0 rfl (by decide)
  by_cases c_1_1_1 : p1 = (1 : Int32)
  · have hF := hF.trans (if_pos c_1_1_1)
    have i_1_1_1 : p1.toInt = 1 := gi_eq c_1_1_1 rfl (by decide)
    refine lv_tableIn (off := 39) (tgt := 40) hx hb dX10_zeroNow_1 (by rw [c_1_1_1]; decide) (by rw [c_1_1_1]; decide) (by rw [c_1_1_1]; rfl) (by decide) ?_
    refine lv_aload_n hx hb dX10_zeroNow_40 rfl (lv_at hl 0 rfl) ?_
    refine va_get (D := D) (ci := 10) (v := .ref h_mzs) (C := RX10) (T := TX10) (N := 49) hx hb hts hi10 hown hK hP 0 rfl rfl 27 (by decide) hm1 (fun _ h9 => h9) rfl dX10_zeroNow_41 ?_
    refine lv_iload_n hx hb dX10_zeroNow_44 rfl (lv_at hl 1 rfl) ?_
    refine va_lald hx hb hK hP 2 1 rfl rfl (hp) dX10_zeroNow_45 ?_
    refine lv_ldc2 hx hb hown hm2 dX10_zeroNow_46 ?_
    refine g_lrem hx hb dX10_zeroNow_49 (by decide) ?_
    refine lv_l2i (v := (gRemL (f_mzs p0.toNatClampNeg) (1000 : Int64)).toInt32) hx hb dX10_zeroNow_50 rfl ?_
    exact g_iret () hx hb hr hlk hP hK hD hS hF trivial rfl dX10_zeroNow_51
  have hF := hF.trans (if_neg c_1_1_1)
  have i_1_1_1 : p1.toInt ≠ 1 := gi_ne c_1_1_1 rfl (by decide)
  by_cases c_1_1_2 : p1 = (2 : Int32)
  · have hF := hF.trans (if_pos c_1_1_2)
    have i_1_1_2 : p1.toInt = 2 := gi_eq c_1_1_2 rfl (by decide)
    refine lv_tableIn (off := 51) (tgt := 52) hx hb dX10_zeroNow_1 (by rw [c_1_1_2]; decide) (by rw [c_1_1_2]; decide) (by rw [c_1_1_2]; rfl) (by decide) ?_
    refine lv_aload_n hx hb dX10_zeroNow_52 rfl (lv_at hl 0 rfl) ?_
    refine va_get (D := D) (ci := 10) (v := .ref h_mzc) (C := RX10) (T := TX10) (N := 49) hx hb hts hi10 hown hK hP 0 rfl rfl 28 (by decide) hm3 (fun _ h9 => h9) rfl dX10_zeroNow_53 ?_
    refine lv_iload_n hx hb dX10_zeroNow_56 rfl (lv_at hl 1 rfl) ?_
    refine va_iald hx hb hK hP 3 0 rfl rfl (hp) dX10_zeroNow_57 ?_
    exact g_iret () hx hb hr hlk hP hK hD hS hF trivial rfl dX10_zeroNow_58
  have hF := hF.trans (if_neg c_1_1_2)
  have i_1_1_2 : p1.toInt ≠ 2 := gi_ne c_1_1_2 rfl (by decide)
  refine lv_tableOut (tgt := 59) hx hb dX10_zeroNow_1 (by have := lv_neT (a := 0) c_1_1_0 (by decide); have := lv_neT (a := 1) c_1_1_1 (by decide); have := lv_neT (a := 2) c_1_1_2 (by decide); omega) (by decide) ?_
  refine lv_aload_n hx hb dX10_zeroNow_59 rfl (lv_at hl 0 rfl) ?_
  refine va_get (D := D) (ci := 10) (v := .ref h_mzr) (C := RX10) (T := TX10) (N := 49) hx hb hts hi10 hown hK hP 0 rfl rfl 29 (by decide) hm4 (fun _ h9 => h9) rfl dX10_zeroNow_60 ?_
  refine lv_iload_n hx hb dX10_zeroNow_63 rfl (lv_at hl 1 rfl) ?_
  refine va_iald hx hb hK hP 4 0 rfl rfl (hp) dX10_zeroNow_64 ?_
  exact g_iret () hx hb hr hlk hP hK hD hS hF trivial rfl dX10_zeroNow_65

noncomputable def f_X10_zero (f_mzs : Nat → Int64) (f_mzc : Nat → Int32) (f_mzr : Nat → Int32) (p0 : Int32) (p1 : Int32) : (Int32 × Unit) := (match (f_X10_within p0 (0 : Int32) (2 : Int32)) with | (r_3_1, _) => (if r_3_1 = true then (match (f_X10_within p1 (0 : Int32) (3 : Int32)) with | (r_12_3, _) => (if r_12_3 = true then (if (f_mzc p0.toNatClampNeg) ≤ (0 : Int32) then ((-1000000003 : Int32), ()) else (match (f_X10_zeroNow f_mzs f_mzc f_mzr p0 p1) with | (r_33_6, _) => (r_33_6, ()))) else ((-1000000002 : Int32), ()))) else ((-1000000002 : Int32), ())))
set_option maxHeartbeats 4000000 in
set_option maxRecDepth 100000 in
theorem c_X10_zero (l : Launch) (D : va_G) (cI cJ : ClassId) (h_md h_mcnt h_mzs h_mzc h_mzr h_mvals h_mtold h_mpage : Nat) (sz : Nat) (x_dcNow : Int32) (x_humNow : Int32) (x_wave : Int32) (x_noiseNow : Int32) (x_seedNow : Int64) (x_tick : Int64) (x_range : Int32) (x_isAuto : Bool) (x_offset : Int32) (x_creep : Int32) (x_factor : Int32) (x_shift : Int32) (x_cycles : Int32) (x_zeroing : Int32) (x_most : Int32) (x_window : Int32) (x_wasConversion : Bool) (x_plus : Int32) (x_minus : Int32) (x_switched : Int32) (x_charge : Int64) (x_wasOver : Bool) (x_sum : Int64) (x_flowed : Int64) (x_wasShorted : Bool) (x_rangeThen : Int32) (x_held : Int32) (x_kept : Int32) (x_readings : Int32) (x_readingsOver : Int32) (x_conversions : Int32) (x_shortedOnes : Int32) (x_madeMore : Int32) (x_madeLess : Int32) (x_jumps : Int32) (x_settings : Int32) (x_pageLength : Int32) (x_command : Int32) (x_figures : Int32) (x_number : Int32) (x_isBelow : Bool) (x_h : Int64) (f_mcnt : Nat → Int32) (f_mzs : Nat → Int64) (f_mzc : Nat → Int32) (f_mzr : Nat → Int32) (f_mvals : Nat → Int64) (f_mtold : Nat → Int32) (f_mpage : Nat → Int32) (p0 : Int32) (p1 : Int32) : Met l yX10_zero wsX10_zero ({ frames := 1, cells := 0, slots := 0, locals := 22 }) (gPc D cI cJ [.ref h_md, .int p0, .int p1] [(h_md, .inr (10, [.int x_dcNow, .int x_humNow, .int x_wave, .int x_noiseNow, .long x_seedNow, .long x_tick, .int x_range, .int (bI x_isAuto), .int x_offset, .int x_creep, .int x_factor, .int x_shift, .int x_cycles, .int x_zeroing, .int x_most, .int x_window, .int (bI x_wasConversion), .int x_plus, .int x_minus, .int x_switched, .ref h_mcnt, .long x_charge, .int (bI x_wasOver), .long x_sum, .long x_flowed, .int (bI x_wasShorted), .int x_rangeThen, .ref h_mzs, .ref h_mzc, .ref h_mzr, .int x_held, .ref h_mvals, .int x_kept, .ref h_mtold, .int x_readings, .int x_readingsOver, .int x_conversions, .int x_shortedOnes, .int x_madeMore, .int x_madeLess, .int x_jumps, .int x_settings, .int x_pageLength, .ref h_mpage, .int x_command, .int x_figures, .int x_number, .int (bI x_isBelow), .long x_h])), (h_mcnt, .inl (cI, 4, .inl f_mcnt)), (h_mzs, .inl (cJ, 3, .inr (.inl f_mzs))), (h_mzc, .inl (cI, 3, .inl f_mzc)), (h_mzr, .inl (cI, 3, .inl f_mzr)), (h_mvals, .inl (cJ, 17, .inr (.inl f_mvals))), (h_mtold, .inl (cI, 96, .inl f_mtold)), (h_mpage, .inl (cI, 40, .inl f_mpage))] sz) (gQi D cI cJ (f_X10_zero f_mzs f_mzc f_mzr p0 p1) (fun _ _ => True) (fun _ : Unit => [(h_md, .inr (10, [.int x_dcNow, .int x_humNow, .int x_wave, .int x_noiseNow, .long x_seedNow, .long x_tick, .int x_range, .int (bI x_isAuto), .int x_offset, .int x_creep, .int x_factor, .int x_shift, .int x_cycles, .int x_zeroing, .int x_most, .int x_window, .int (bI x_wasConversion), .int x_plus, .int x_minus, .int x_switched, .ref h_mcnt, .long x_charge, .int (bI x_wasOver), .long x_sum, .long x_flowed, .int (bI x_wasShorted), .int x_rangeThen, .ref h_mzs, .ref h_mzc, .ref h_mzr, .int x_held, .ref h_mvals, .int x_kept, .ref h_mtold, .int x_readings, .int x_readingsOver, .int x_conversions, .int x_shortedOnes, .int x_madeMore, .int x_madeLess, .int x_jumps, .int x_settings, .int x_pageLength, .ref h_mpage, .int x_command, .int x_figures, .int x_number, .int (bI x_isBelow), .long x_h])), (h_mcnt, .inl (cI, 4, .inl f_mcnt)), (h_mzs, .inl (cJ, 3, .inr (.inl f_mzs))), (h_mzc, .inl (cI, 3, .inl f_mzc)), (h_mzr, .inl (cI, 3, .inl f_mzr)), (h_mvals, .inl (cJ, 17, .inr (.inl f_mvals))), (h_mtold, .inl (cI, 96, .inl f_mtold)), (h_mpage, .inl (cI, 40, .inl f_mpage))]) (va_A [(h_md, .inr (10, [.int x_dcNow, .int x_humNow, .int x_wave, .int x_noiseNow, .long x_seedNow, .long x_tick, .int x_range, .int (bI x_isAuto), .int x_offset, .int x_creep, .int x_factor, .int x_shift, .int x_cycles, .int x_zeroing, .int x_most, .int x_window, .int (bI x_wasConversion), .int x_plus, .int x_minus, .int x_switched, .ref h_mcnt, .long x_charge, .int (bI x_wasOver), .long x_sum, .long x_flowed, .int (bI x_wasShorted), .int x_rangeThen, .ref h_mzs, .ref h_mzc, .ref h_mzr, .int x_held, .ref h_mvals, .int x_kept, .ref h_mtold, .int x_readings, .int x_readingsOver, .int x_conversions, .int x_shortedOnes, .int x_madeMore, .int x_madeLess, .int x_jumps, .int x_settings, .int x_pageLength, .ref h_mpage, .int x_command, .int x_figures, .int x_number, .int (bI x_isBelow), .long x_h])), (h_mcnt, .inl (cI, 4, .inl f_mcnt)), (h_mzs, .inl (cJ, 3, .inr (.inl f_mzs))), (h_mzc, .inl (cI, 3, .inl f_mzc)), (h_mzr, .inl (cI, 3, .inl f_mzr)), (h_mvals, .inl (cJ, 17, .inr (.inl f_mvals))), (h_mtold, .inl (cI, 96, .inl f_mtold)), (h_mpage, .inl (cI, 40, .inl f_mpage))] sz)) 0 0 (va_A [(h_md, .inr (10, [.int x_dcNow, .int x_humNow, .int x_wave, .int x_noiseNow, .long x_seedNow, .long x_tick, .int x_range, .int (bI x_isAuto), .int x_offset, .int x_creep, .int x_factor, .int x_shift, .int x_cycles, .int x_zeroing, .int x_most, .int x_window, .int (bI x_wasConversion), .int x_plus, .int x_minus, .int x_switched, .ref h_mcnt, .long x_charge, .int (bI x_wasOver), .long x_sum, .long x_flowed, .int (bI x_wasShorted), .int x_rangeThen, .ref h_mzs, .ref h_mzc, .ref h_mzr, .int x_held, .ref h_mvals, .int x_kept, .ref h_mtold, .int x_readings, .int x_readingsOver, .int x_conversions, .int x_shortedOnes, .int x_madeMore, .int x_madeLess, .int x_jumps, .int x_settings, .int x_pageLength, .ref h_mpage, .int x_command, .int x_figures, .int x_number, .int (bI x_isBelow), .long x_h])), (h_mcnt, .inl (cI, 4, .inl f_mcnt)), (h_mzs, .inl (cJ, 3, .inr (.inl f_mzs))), (h_mzc, .inl (cI, 3, .inl f_mzc)), (h_mzr, .inl (cI, 3, .inl f_mzr)), (h_mvals, .inl (cJ, 17, .inr (.inl f_mvals))), (h_mtold, .inl (cI, 96, .inl f_mtold)), (h_mpage, .inl (cI, 40, .inl f_mpage))] sz) := by
  refine g_met (cc := cX10_zero) (maxL := 3) (ret := (some .int)) (Qc := gQi D cI cJ (f_X10_zero f_mzs f_mzc f_mzr p0 p1) _ _) (by decide) rfl (Nat.le_of_ble_eq_true rfl) ?_
  intro A p e s m below meth c hx hb hr hml hts hown hlk hnm hP hK hD hE hA hS ls hl
  have hown : s.vm.findClass RX10 = some m.cls := hown
  have hl : lv_has ls 3 [(0, .ref h_md), (1, .int p0), (2, .int p1)] := hl
  have hi10 : ∀ w ∈ u_ws RX10 TX10 49, w ∈ wsX10_zero := fun w h9 => List.mem_cons_of_mem _ (List.mem_append_right _ h9)
  have hm1 := hts (.constant RX10 54 (-1000000002)) (List.mem_of_getElem? (i := 1) rfl)
  have hm2 := hts (.fieldLink RX10 35 "VoltSlopesModel" "zeroCycles" "[I") (List.mem_of_getElem? (i := 2) rfl)
  have hm3 := hts (.constant RX10 120 (-1000000003)) (List.mem_of_getElem? (i := 3) rfl)
  have hF := f_X10_zero.eq_1 f_mzs f_mzc f_mzr p0 p1
  refine lv_iload_n hx hb dX10_zero_0 rfl (lv_at hl 1 rfl) ?_
  refine lv_iconst (v := 0) hx hb dX10_zero_1 (by decide) ?_
  refine lv_iconst (v := 2) hx hb dX10_zero_2 (by decide) ?_
  refine g_csz (rest := []) ⟨hx, hb, hml, hown, hts⟩ hP hD hK hS hA hE (c_X10_within l D cI cJ s.heap.size p0 (0 : Int32) (2 : Int32)) (va_cwS 3 hts gX10_zero_X10_within rfl rfl rfl (by decide +kernel) ⟨Nat.le_of_ble_eq_true rfl, Nat.le_of_ble_eq_true rfl⟩) rfl hl rfl (Nat.le_of_ble_eq_true rfl) ⟨Nat.zero_le _, Nat.zero_le _⟩ dX10_zero_3 (fun r_3_1 H locs hw_1 hx_1 hP hS => ?_)
  have hwi_3 := within_in hw_1
  have hF := hF
  rw [hw_1] at hF
  try dsimp only at hF
  refine lv_if_eq (tgt := 18) hx hb dX10_zero_6 (by decide) (fun c_6_2w => ?_) (fun c_6_2w => ?_)
  · have c_6_2 := bI_f2 c_6_2w
    have hF := hF.trans (if_neg c_6_2)
    refine lv_ldc hx hb hown hm1 dX10_zero_18 ?_
    exact g_iret () hx hb hr hlk hP hK hD hS hF trivial rfl dX10_zero_20
  · have c_6_2 := bI_t c_6_2w
    have hF := hF.trans (if_pos c_6_2)
    refine lv_iload_n hx hb dX10_zero_9 rfl (lv_at hl 2 rfl) ?_
    refine lv_iconst (v := 0) hx hb dX10_zero_10 (by decide) ?_
    refine lv_iconst (v := 3) hx hb dX10_zero_11 (by decide) ?_
    refine g_csz (rest := []) ⟨hx, hb, hml, hown, hts⟩ hP hD hK hS hA hE (c_X10_within l D cI cJ H.size p1 (0 : Int32) (3 : Int32)) (va_cwS 3 hts gX10_zero_X10_within rfl rfl rfl (by decide +kernel) ⟨Nat.le_of_ble_eq_true rfl, Nat.le_of_ble_eq_true rfl⟩) rfl hl rfl (Nat.le_of_ble_eq_true rfl) ⟨Nat.zero_le _, Nat.zero_le _⟩ dX10_zero_12 (fun r_12_3 H locs hw_3 hx_3 hP hS => ?_)
    have hwi_12 := within_in hw_3
    have hF := hF
    rw [hw_3] at hF
    try dsimp only at hF
    refine lv_if_ne (tgt := 21) hx hb dX10_zero_15 (by decide) (fun c_15_4w => ?_) (fun c_15_4w => ?_)
    · have c_15_4 := bI_t c_15_4w
      have hF := hF.trans (if_pos c_15_4)
      refine lv_aload_n hx hb dX10_zero_21 rfl (lv_at hl 0 rfl) ?_
      refine va_get (D := D) (ci := 10) (v := .ref h_mzc) (C := RX10) (T := TX10) (N := 49) hx hb hts hi10 hown hK hP 0 rfl rfl 28 (by decide) hm2 (fun _ h9 => h9) rfl dX10_zero_22 ?_
      refine lv_iload_n hx hb dX10_zero_25 rfl (lv_at hl 1 rfl) ?_
      refine va_iald hx hb hK hP 3 0 rfl rfl (r3_in (hwi_3 (by with_reducible assumption))) dX10_zero_26 ?_
      refine lv_if_le (tgt := 39) hx hb dX10_zero_27 (by decide) (fun c_27_5 => ?_) (fun c_27_5 => ?_)
      · have hF := hF.trans (if_pos c_27_5)
        have i_27_5 : (f_mzc p0.toNatClampNeg).toInt ≤ 0 := gi_le c_27_5 rfl (by decide)
        refine lv_ldc hx hb hown hm3 dX10_zero_39 ?_
        exact g_iret () hx hb hr hlk hP hK hD hS hF trivial rfl dX10_zero_41
      · have hF := hF.trans (if_neg c_27_5)
        have i_27_5 : 0 < (f_mzc p0.toNatClampNeg).toInt := gi_nle c_27_5 rfl (by decide)
        refine lv_aload_n hx hb dX10_zero_30 rfl (lv_at hl 0 rfl) ?_
        refine lv_iload_n hx hb dX10_zero_31 rfl (lv_at hl 1 rfl) ?_
        refine lv_iload_n hx hb dX10_zero_32 rfl (lv_at hl 2 rfl) ?_
        refine g_cvi (rest := []) ⟨hx, hb, hml, hown, hts⟩ hP hD hK hS hA hE (c_X10_zeroNow l D cI cJ h_md h_mcnt h_mzs h_mzc h_mzr h_mvals h_mtold h_mpage H.size x_dcNow x_humNow x_wave x_noiseNow x_seedNow x_tick x_range x_isAuto x_offset x_creep x_factor x_shift x_cycles x_zeroing x_most x_window x_wasConversion x_plus x_minus x_switched x_charge x_wasOver x_sum x_flowed x_wasShorted x_rangeThen x_held x_kept x_readings x_readingsOver x_conversions x_shortedOnes x_madeMore x_madeLess x_jumps x_settings x_pageLength x_command x_figures x_number x_isBelow x_h f_mcnt f_mzs f_mzc f_mzr f_mvals f_mtold f_mpage p0 p1 (r3_in (hwi_3 (by with_reducible assumption)))) (cwV 2 hts gX10_zero_X10_zeroNow rfl rfl rfl (by decide +kernel) ⟨Nat.le_of_ble_eq_true rfl, Nat.le_of_ble_eq_true rfl⟩) [0, 1, 2, 3, 4, 5, 6, 7] [] rfl rfl rfl rfl rfl 10 0 rfl rfl rfl hl rfl (Nat.le_of_ble_eq_true rfl) ⟨Nat.zero_le _, Nat.zero_le _⟩ dX10_zero_33 (fun r_33_6 u_6 H locs hw_6 hx_6 hP hD hS => ?_)
        obtain ⟨hP, hD⟩ := g_re (ws' := [(h_md, .inr (10, [.int x_dcNow, .int x_humNow, .int x_wave, .int x_noiseNow, .long x_seedNow, .long x_tick, .int x_range, .int (bI x_isAuto), .int x_offset, .int x_creep, .int x_factor, .int x_shift, .int x_cycles, .int x_zeroing, .int x_most, .int x_window, .int (bI x_wasConversion), .int x_plus, .int x_minus, .int x_switched, .ref h_mcnt, .long x_charge, .int (bI x_wasOver), .long x_sum, .long x_flowed, .int (bI x_wasShorted), .int x_rangeThen, .ref h_mzs, .ref h_mzc, .ref h_mzr, .int x_held, .ref h_mvals, .int x_kept, .ref h_mtold, .int x_readings, .int x_readingsOver, .int x_conversions, .int x_shortedOnes, .int x_madeMore, .int x_madeLess, .int x_jumps, .int x_settings, .int x_pageLength, .ref h_mpage, .int x_command, .int x_figures, .int x_number, .int (bI x_isBelow), .long x_h])), (h_mcnt, .inl (cI, 4, .inl f_mcnt)), (h_mzs, .inl (cJ, 3, .inr (.inl f_mzs))), (h_mzc, .inl (cI, 3, .inl f_mzc)), (h_mzr, .inl (cI, 3, .inl f_mzr)), (h_mvals, .inl (cJ, 17, .inr (.inl f_mvals))), (h_mtold, .inl (cI, 96, .inl f_mtold)), (h_mpage, .inl (cI, 40, .inl f_mpage))]) rfl hP hD
        have hF := hF
        rw [hw_6] at hF
        try dsimp only at hF
        refine lv_goto (tgt := 41) hx hb dX10_zero_36 (by decide) ?_
        exact g_iret () hx hb hr hlk hP hK hD hS hF trivial rfl dX10_zero_41
    · have c_15_4 := bI_f2 c_15_4w
      have hF := hF.trans (if_neg c_15_4)
      refine lv_ldc hx hb hown hm1 dX10_zero_18 ?_
      exact g_iret () hx hb hr hlk hP hK hD hS hF trivial rfl dX10_zero_20

noncomputable def f_X10_howMany (x_readings : Int32) (x_readingsOver : Int32) (x_conversions : Int32) (x_shortedOnes : Int32) (x_madeMore : Int32) (x_madeLess : Int32) (x_jumps : Int32) (x_settings : Int32) (x_pageLength : Int32) (p0 : Int32) : (Int32 × Unit) := (if p0 = (0 : Int32) then (x_pageLength, ()) else (if p0 = (1 : Int32) then (x_readings, ()) else (if p0 = (2 : Int32) then (x_readingsOver, ()) else (if p0 = (3 : Int32) then (x_conversions, ()) else (if p0 = (4 : Int32) then (x_shortedOnes, ()) else (if p0 = (5 : Int32) then (x_madeMore, ()) else (if p0 = (6 : Int32) then (x_madeLess, ()) else (if p0 = (7 : Int32) then (x_jumps, ()) else (if p0 = (8 : Int32) then (x_settings, ()) else ((-1000000002 : Int32), ()))))))))))
set_option maxHeartbeats 4000000 in
set_option maxRecDepth 100000 in
theorem c_X10_howMany (l : Launch) (D : va_G) (cI cJ : ClassId) (h_md h_mcnt h_mzs h_mzc h_mzr h_mvals h_mtold h_mpage : Nat) (sz : Nat) (x_dcNow : Int32) (x_humNow : Int32) (x_wave : Int32) (x_noiseNow : Int32) (x_seedNow : Int64) (x_tick : Int64) (x_range : Int32) (x_isAuto : Bool) (x_offset : Int32) (x_creep : Int32) (x_factor : Int32) (x_shift : Int32) (x_cycles : Int32) (x_zeroing : Int32) (x_most : Int32) (x_window : Int32) (x_wasConversion : Bool) (x_plus : Int32) (x_minus : Int32) (x_switched : Int32) (x_charge : Int64) (x_wasOver : Bool) (x_sum : Int64) (x_flowed : Int64) (x_wasShorted : Bool) (x_rangeThen : Int32) (x_held : Int32) (x_kept : Int32) (x_readings : Int32) (x_readingsOver : Int32) (x_conversions : Int32) (x_shortedOnes : Int32) (x_madeMore : Int32) (x_madeLess : Int32) (x_jumps : Int32) (x_settings : Int32) (x_pageLength : Int32) (x_command : Int32) (x_figures : Int32) (x_number : Int32) (x_isBelow : Bool) (x_h : Int64) (f_mcnt : Nat → Int32) (f_mzs : Nat → Int64) (f_mzc : Nat → Int32) (f_mzr : Nat → Int32) (f_mvals : Nat → Int64) (f_mtold : Nat → Int32) (f_mpage : Nat → Int32) (p0 : Int32) : Met l yX10_howMany wsX10_howMany ({ frames := 0, cells := 0, slots := 0, locals := 0 }) (gPc D cI cJ [.ref h_md, .int p0] [(h_md, .inr (10, [.int x_dcNow, .int x_humNow, .int x_wave, .int x_noiseNow, .long x_seedNow, .long x_tick, .int x_range, .int (bI x_isAuto), .int x_offset, .int x_creep, .int x_factor, .int x_shift, .int x_cycles, .int x_zeroing, .int x_most, .int x_window, .int (bI x_wasConversion), .int x_plus, .int x_minus, .int x_switched, .ref h_mcnt, .long x_charge, .int (bI x_wasOver), .long x_sum, .long x_flowed, .int (bI x_wasShorted), .int x_rangeThen, .ref h_mzs, .ref h_mzc, .ref h_mzr, .int x_held, .ref h_mvals, .int x_kept, .ref h_mtold, .int x_readings, .int x_readingsOver, .int x_conversions, .int x_shortedOnes, .int x_madeMore, .int x_madeLess, .int x_jumps, .int x_settings, .int x_pageLength, .ref h_mpage, .int x_command, .int x_figures, .int x_number, .int (bI x_isBelow), .long x_h])), (h_mcnt, .inl (cI, 4, .inl f_mcnt)), (h_mzs, .inl (cJ, 3, .inr (.inl f_mzs))), (h_mzc, .inl (cI, 3, .inl f_mzc)), (h_mzr, .inl (cI, 3, .inl f_mzr)), (h_mvals, .inl (cJ, 17, .inr (.inl f_mvals))), (h_mtold, .inl (cI, 96, .inl f_mtold)), (h_mpage, .inl (cI, 40, .inl f_mpage))] sz) (gQi D cI cJ (f_X10_howMany x_readings x_readingsOver x_conversions x_shortedOnes x_madeMore x_madeLess x_jumps x_settings x_pageLength p0) (fun _ _ => True) (fun _ : Unit => [(h_md, .inr (10, [.int x_dcNow, .int x_humNow, .int x_wave, .int x_noiseNow, .long x_seedNow, .long x_tick, .int x_range, .int (bI x_isAuto), .int x_offset, .int x_creep, .int x_factor, .int x_shift, .int x_cycles, .int x_zeroing, .int x_most, .int x_window, .int (bI x_wasConversion), .int x_plus, .int x_minus, .int x_switched, .ref h_mcnt, .long x_charge, .int (bI x_wasOver), .long x_sum, .long x_flowed, .int (bI x_wasShorted), .int x_rangeThen, .ref h_mzs, .ref h_mzc, .ref h_mzr, .int x_held, .ref h_mvals, .int x_kept, .ref h_mtold, .int x_readings, .int x_readingsOver, .int x_conversions, .int x_shortedOnes, .int x_madeMore, .int x_madeLess, .int x_jumps, .int x_settings, .int x_pageLength, .ref h_mpage, .int x_command, .int x_figures, .int x_number, .int (bI x_isBelow), .long x_h])), (h_mcnt, .inl (cI, 4, .inl f_mcnt)), (h_mzs, .inl (cJ, 3, .inr (.inl f_mzs))), (h_mzc, .inl (cI, 3, .inl f_mzc)), (h_mzr, .inl (cI, 3, .inl f_mzr)), (h_mvals, .inl (cJ, 17, .inr (.inl f_mvals))), (h_mtold, .inl (cI, 96, .inl f_mtold)), (h_mpage, .inl (cI, 40, .inl f_mpage))]) (va_A [(h_md, .inr (10, [.int x_dcNow, .int x_humNow, .int x_wave, .int x_noiseNow, .long x_seedNow, .long x_tick, .int x_range, .int (bI x_isAuto), .int x_offset, .int x_creep, .int x_factor, .int x_shift, .int x_cycles, .int x_zeroing, .int x_most, .int x_window, .int (bI x_wasConversion), .int x_plus, .int x_minus, .int x_switched, .ref h_mcnt, .long x_charge, .int (bI x_wasOver), .long x_sum, .long x_flowed, .int (bI x_wasShorted), .int x_rangeThen, .ref h_mzs, .ref h_mzc, .ref h_mzr, .int x_held, .ref h_mvals, .int x_kept, .ref h_mtold, .int x_readings, .int x_readingsOver, .int x_conversions, .int x_shortedOnes, .int x_madeMore, .int x_madeLess, .int x_jumps, .int x_settings, .int x_pageLength, .ref h_mpage, .int x_command, .int x_figures, .int x_number, .int (bI x_isBelow), .long x_h])), (h_mcnt, .inl (cI, 4, .inl f_mcnt)), (h_mzs, .inl (cJ, 3, .inr (.inl f_mzs))), (h_mzc, .inl (cI, 3, .inl f_mzc)), (h_mzr, .inl (cI, 3, .inl f_mzr)), (h_mvals, .inl (cJ, 17, .inr (.inl f_mvals))), (h_mtold, .inl (cI, 96, .inl f_mtold)), (h_mpage, .inl (cI, 40, .inl f_mpage))] sz)) 0 0 (va_A [(h_md, .inr (10, [.int x_dcNow, .int x_humNow, .int x_wave, .int x_noiseNow, .long x_seedNow, .long x_tick, .int x_range, .int (bI x_isAuto), .int x_offset, .int x_creep, .int x_factor, .int x_shift, .int x_cycles, .int x_zeroing, .int x_most, .int x_window, .int (bI x_wasConversion), .int x_plus, .int x_minus, .int x_switched, .ref h_mcnt, .long x_charge, .int (bI x_wasOver), .long x_sum, .long x_flowed, .int (bI x_wasShorted), .int x_rangeThen, .ref h_mzs, .ref h_mzc, .ref h_mzr, .int x_held, .ref h_mvals, .int x_kept, .ref h_mtold, .int x_readings, .int x_readingsOver, .int x_conversions, .int x_shortedOnes, .int x_madeMore, .int x_madeLess, .int x_jumps, .int x_settings, .int x_pageLength, .ref h_mpage, .int x_command, .int x_figures, .int x_number, .int (bI x_isBelow), .long x_h])), (h_mcnt, .inl (cI, 4, .inl f_mcnt)), (h_mzs, .inl (cJ, 3, .inr (.inl f_mzs))), (h_mzc, .inl (cI, 3, .inl f_mzc)), (h_mzr, .inl (cI, 3, .inl f_mzr)), (h_mvals, .inl (cJ, 17, .inr (.inl f_mvals))), (h_mtold, .inl (cI, 96, .inl f_mtold)), (h_mpage, .inl (cI, 40, .inl f_mpage))] sz) := by
  refine g_met (cc := cX10_howMany) (maxL := 2) (ret := (some .int)) (Qc := gQi D cI cJ (f_X10_howMany x_readings x_readingsOver x_conversions x_shortedOnes x_madeMore x_madeLess x_jumps x_settings x_pageLength p0) _ _) (by decide) rfl (Nat.le_of_ble_eq_true rfl) ?_
  intro A p e s m below meth c hx hb hr hml hts hown hlk hnm hP hK hD hE hA hS ls hl
  have hown : s.vm.findClass RX10 = some m.cls := hown
  have hl : lv_has ls 2 [(0, .ref h_md), (1, .int p0)] := hl
  have hi10 : ∀ w ∈ u_ws RX10 TX10 49, w ∈ wsX10_howMany := fun w h9 => List.mem_cons_of_mem _ (List.mem_append_right _ h9)
  have hm1 := hts (.fieldLink RX10 55 "VoltSlopesModel" "pageLength" "I") (List.mem_of_getElem? (i := 1) rfl)
  have hm2 := hts (.fieldLink RX10 121 "VoltSlopesModel" "readings" "I") (List.mem_of_getElem? (i := 2) rfl)
  have hm3 := hts (.fieldLink RX10 303 "VoltSlopesModel" "readingsOver" "I") (List.mem_of_getElem? (i := 3) rfl)
  have hm4 := hts (.fieldLink RX10 244 "VoltSlopesModel" "conversions" "I") (List.mem_of_getElem? (i := 4) rfl)
  have hm5 := hts (.fieldLink RX10 247 "VoltSlopesModel" "shortedOnes" "I") (List.mem_of_getElem? (i := 5) rfl)
  have hm6 := hts (.fieldLink RX10 268 "VoltSlopesModel" "madeMore" "I") (List.mem_of_getElem? (i := 6) rfl)
  have hm7 := hts (.fieldLink RX10 265 "VoltSlopesModel" "madeLess" "I") (List.mem_of_getElem? (i := 7) rfl)
  have hm8 := hts (.fieldLink RX10 277 "VoltSlopesModel" "jumps" "I") (List.mem_of_getElem? (i := 8) rfl)
  have hm9 := hts (.fieldLink RX10 124 "VoltSlopesModel" "settings" "I") (List.mem_of_getElem? (i := 9) rfl)
  have hm10 := hts (.constant RX10 54 (-1000000002)) (List.mem_of_getElem? (i := 10) rfl)
  have hF := f_X10_howMany.eq_1 x_readings x_readingsOver x_conversions x_shortedOnes x_madeMore x_madeLess x_jumps x_settings x_pageLength p0
  refine lv_iload_n hx hb dX10_howMany_0 rfl (lv_at hl 1 rfl) ?_
  by_cases c_1_1_0 : p0 = (0 : Int32)
  · have hF := hF.trans (if_pos c_1_1_0)
    refine lv_tableIn (off := 51) (tgt := 52) hx hb dX10_howMany_1 (by rw [c_1_1_0]; decide) (by rw [c_1_1_0]; decide) (by rw [c_1_1_0]; rfl) (by decide) ?_
    refine lv_aload_n hx hb dX10_howMany_52 rfl (lv_at hl 0 rfl) ?_
    refine va_get (D := D) (ci := 10) (v := .int x_pageLength) (C := RX10) (T := TX10) (N := 49) hx hb hts hi10 hown hK hP 0 rfl rfl 42 (by decide) hm1 (fun _ h9 => h9) rfl dX10_howMany_53 ?_
    exact g_iret () hx hb hr hlk hP hK hD hS hF trivial rfl dX10_howMany_56
  have hF := hF.trans (if_neg c_1_1_0)
  by_cases c_1_1_1 : p0 = (1 : Int32)
  · have hF := hF.trans (if_pos c_1_1_1)
    refine lv_tableIn (off := 56) (tgt := 57) hx hb dX10_howMany_1 (by rw [c_1_1_1]; decide) (by rw [c_1_1_1]; decide) (by rw [c_1_1_1]; rfl) (by decide) ?_
    refine lv_aload_n hx hb dX10_howMany_57 rfl (lv_at hl 0 rfl) ?_
    refine va_get (D := D) (ci := 10) (v := .int x_readings) (C := RX10) (T := TX10) (N := 49) hx hb hts hi10 hown hK hP 0 rfl rfl 34 (by decide) hm2 (fun _ h9 => h9) rfl dX10_howMany_58 ?_
    exact g_iret () hx hb hr hlk hP hK hD hS hF trivial rfl dX10_howMany_61
  have hF := hF.trans (if_neg c_1_1_1)
  by_cases c_1_1_2 : p0 = (2 : Int32)
  · have hF := hF.trans (if_pos c_1_1_2)
    refine lv_tableIn (off := 61) (tgt := 62) hx hb dX10_howMany_1 (by rw [c_1_1_2]; decide) (by rw [c_1_1_2]; decide) (by rw [c_1_1_2]; rfl) (by decide) ?_
    refine lv_aload_n hx hb dX10_howMany_62 rfl (lv_at hl 0 rfl) ?_
    refine va_get (D := D) (ci := 10) (v := .int x_readingsOver) (C := RX10) (T := TX10) (N := 49) hx hb hts hi10 hown hK hP 0 rfl rfl 35 (by decide) hm3 (fun _ h9 => h9) rfl dX10_howMany_63 ?_
    exact g_iret () hx hb hr hlk hP hK hD hS hF trivial rfl dX10_howMany_66
  have hF := hF.trans (if_neg c_1_1_2)
  by_cases c_1_1_3 : p0 = (3 : Int32)
  · have hF := hF.trans (if_pos c_1_1_3)
    refine lv_tableIn (off := 66) (tgt := 67) hx hb dX10_howMany_1 (by rw [c_1_1_3]; decide) (by rw [c_1_1_3]; decide) (by rw [c_1_1_3]; rfl) (by decide) ?_
    refine lv_aload_n hx hb dX10_howMany_67 rfl (lv_at hl 0 rfl) ?_
    refine va_get (D := D) (ci := 10) (v := .int x_conversions) (C := RX10) (T := TX10) (N := 49) hx hb hts hi10 hown hK hP 0 rfl rfl 36 (by decide) hm4 (fun _ h9 => h9) rfl dX10_howMany_68 ?_
    exact g_iret () hx hb hr hlk hP hK hD hS hF trivial rfl dX10_howMany_71
  have hF := hF.trans (if_neg c_1_1_3)
  by_cases c_1_1_4 : p0 = (4 : Int32)
  · have hF := hF.trans (if_pos c_1_1_4)
    refine lv_tableIn (off := 71) (tgt := 72) hx hb dX10_howMany_1 (by rw [c_1_1_4]; decide) (by rw [c_1_1_4]; decide) (by rw [c_1_1_4]; rfl) (by decide) ?_
    refine lv_aload_n hx hb dX10_howMany_72 rfl (lv_at hl 0 rfl) ?_
    refine va_get (D := D) (ci := 10) (v := .int x_shortedOnes) (C := RX10) (T := TX10) (N := 49) hx hb hts hi10 hown hK hP 0 rfl rfl 37 (by decide) hm5 (fun _ h9 => h9) rfl dX10_howMany_73 ?_
    exact g_iret () hx hb hr hlk hP hK hD hS hF trivial rfl dX10_howMany_76
  have hF := hF.trans (if_neg c_1_1_4)
  by_cases c_1_1_5 : p0 = (5 : Int32)
  · have hF := hF.trans (if_pos c_1_1_5)
    refine lv_tableIn (off := 76) (tgt := 77) hx hb dX10_howMany_1 (by rw [c_1_1_5]; decide) (by rw [c_1_1_5]; decide) (by rw [c_1_1_5]; rfl) (by decide) ?_
    refine lv_aload_n hx hb dX10_howMany_77 rfl (lv_at hl 0 rfl) ?_
    refine va_get (D := D) (ci := 10) (v := .int x_madeMore) (C := RX10) (T := TX10) (N := 49) hx hb hts hi10 hown hK hP 0 rfl rfl 38 (by decide) hm6 (fun _ h9 => h9) rfl dX10_howMany_78 ?_
    exact g_iret () hx hb hr hlk hP hK hD hS hF trivial rfl dX10_howMany_81
  have hF := hF.trans (if_neg c_1_1_5)
  by_cases c_1_1_6 : p0 = (6 : Int32)
  · have hF := hF.trans (if_pos c_1_1_6)
    refine lv_tableIn (off := 81) (tgt := 82) hx hb dX10_howMany_1 (by rw [c_1_1_6]; decide) (by rw [c_1_1_6]; decide) (by rw [c_1_1_6]; rfl) (by decide) ?_
    refine lv_aload_n hx hb dX10_howMany_82 rfl (lv_at hl 0 rfl) ?_
    refine va_get (D := D) (ci := 10) (v := .int x_madeLess) (C := RX10) (T := TX10) (N := 49) hx hb hts hi10 hown hK hP 0 rfl rfl 39 (by decide) hm7 (fun _ h9 => h9) rfl dX10_howMany_83 ?_
    exact g_iret () hx hb hr hlk hP hK hD hS hF trivial rfl dX10_howMany_86
  have hF := hF.trans (if_neg c_1_1_6)
  by_cases c_1_1_7 : p0 = (7 : Int32)
  · have hF := hF.trans (if_pos c_1_1_7)
    refine lv_tableIn (off := 86) (tgt := 87) hx hb dX10_howMany_1 (by rw [c_1_1_7]; decide) (by rw [c_1_1_7]; decide) (by rw [c_1_1_7]; rfl) (by decide) ?_
    refine lv_aload_n hx hb dX10_howMany_87 rfl (lv_at hl 0 rfl) ?_
    refine va_get (D := D) (ci := 10) (v := .int x_jumps) (C := RX10) (T := TX10) (N := 49) hx hb hts hi10 hown hK hP 0 rfl rfl 40 (by decide) hm8 (fun _ h9 => h9) rfl dX10_howMany_88 ?_
    exact g_iret () hx hb hr hlk hP hK hD hS hF trivial rfl dX10_howMany_91
  have hF := hF.trans (if_neg c_1_1_7)
  by_cases c_1_1_8 : p0 = (8 : Int32)
  · have hF := hF.trans (if_pos c_1_1_8)
    refine lv_tableIn (off := 91) (tgt := 92) hx hb dX10_howMany_1 (by rw [c_1_1_8]; decide) (by rw [c_1_1_8]; decide) (by rw [c_1_1_8]; rfl) (by decide) ?_
    refine lv_aload_n hx hb dX10_howMany_92 rfl (lv_at hl 0 rfl) ?_
    refine va_get (D := D) (ci := 10) (v := .int x_settings) (C := RX10) (T := TX10) (N := 49) hx hb hts hi10 hown hK hP 0 rfl rfl 41 (by decide) hm9 (fun _ h9 => h9) rfl dX10_howMany_93 ?_
    exact g_iret () hx hb hr hlk hP hK hD hS hF trivial rfl dX10_howMany_96
  have hF := hF.trans (if_neg c_1_1_8)
  refine lv_tableOut (tgt := 97) hx hb dX10_howMany_1 (by have := lv_neT (a := 0) c_1_1_0 (by decide); have := lv_neT (a := 1) c_1_1_1 (by decide); have := lv_neT (a := 2) c_1_1_2 (by decide); have := lv_neT (a := 3) c_1_1_3 (by decide); have := lv_neT (a := 4) c_1_1_4 (by decide); have := lv_neT (a := 5) c_1_1_5 (by decide); have := lv_neT (a := 6) c_1_1_6 (by decide); have := lv_neT (a := 7) c_1_1_7 (by decide); have := lv_neT (a := 8) c_1_1_8 (by decide); omega) (by decide) ?_
  refine lv_ldc hx hb hown hm10 dX10_howMany_97 ?_
  exact g_iret () hx hb hr hlk hP hK hD hS hF trivial rfl dX10_howMany_99

noncomputable def f_X10_count (x_readings : Int32) (x_readingsOver : Int32) (x_conversions : Int32) (x_shortedOnes : Int32) (x_madeMore : Int32) (x_madeLess : Int32) (x_jumps : Int32) (x_settings : Int32) (x_pageLength : Int32) (p0 : Int32) : (Int32 × Unit) := (match (f_X10_howMany x_readings x_readingsOver x_conversions x_shortedOnes x_madeMore x_madeLess x_jumps x_settings x_pageLength p0) with | (r_2_1, _) => (r_2_1, ()))
set_option maxHeartbeats 4000000 in
set_option maxRecDepth 100000 in
theorem c_X10_count (l : Launch) (D : va_G) (cI cJ : ClassId) (h_md h_mcnt h_mzs h_mzc h_mzr h_mvals h_mtold h_mpage : Nat) (sz : Nat) (x_dcNow : Int32) (x_humNow : Int32) (x_wave : Int32) (x_noiseNow : Int32) (x_seedNow : Int64) (x_tick : Int64) (x_range : Int32) (x_isAuto : Bool) (x_offset : Int32) (x_creep : Int32) (x_factor : Int32) (x_shift : Int32) (x_cycles : Int32) (x_zeroing : Int32) (x_most : Int32) (x_window : Int32) (x_wasConversion : Bool) (x_plus : Int32) (x_minus : Int32) (x_switched : Int32) (x_charge : Int64) (x_wasOver : Bool) (x_sum : Int64) (x_flowed : Int64) (x_wasShorted : Bool) (x_rangeThen : Int32) (x_held : Int32) (x_kept : Int32) (x_readings : Int32) (x_readingsOver : Int32) (x_conversions : Int32) (x_shortedOnes : Int32) (x_madeMore : Int32) (x_madeLess : Int32) (x_jumps : Int32) (x_settings : Int32) (x_pageLength : Int32) (x_command : Int32) (x_figures : Int32) (x_number : Int32) (x_isBelow : Bool) (x_h : Int64) (f_mcnt : Nat → Int32) (f_mzs : Nat → Int64) (f_mzc : Nat → Int32) (f_mzr : Nat → Int32) (f_mvals : Nat → Int64) (f_mtold : Nat → Int32) (f_mpage : Nat → Int32) (p0 : Int32) : Met l yX10_count wsX10_count ({ frames := 1, cells := 0, slots := 0, locals := 21 }) (gPc D cI cJ [.ref h_md, .int p0] [(h_md, .inr (10, [.int x_dcNow, .int x_humNow, .int x_wave, .int x_noiseNow, .long x_seedNow, .long x_tick, .int x_range, .int (bI x_isAuto), .int x_offset, .int x_creep, .int x_factor, .int x_shift, .int x_cycles, .int x_zeroing, .int x_most, .int x_window, .int (bI x_wasConversion), .int x_plus, .int x_minus, .int x_switched, .ref h_mcnt, .long x_charge, .int (bI x_wasOver), .long x_sum, .long x_flowed, .int (bI x_wasShorted), .int x_rangeThen, .ref h_mzs, .ref h_mzc, .ref h_mzr, .int x_held, .ref h_mvals, .int x_kept, .ref h_mtold, .int x_readings, .int x_readingsOver, .int x_conversions, .int x_shortedOnes, .int x_madeMore, .int x_madeLess, .int x_jumps, .int x_settings, .int x_pageLength, .ref h_mpage, .int x_command, .int x_figures, .int x_number, .int (bI x_isBelow), .long x_h])), (h_mcnt, .inl (cI, 4, .inl f_mcnt)), (h_mzs, .inl (cJ, 3, .inr (.inl f_mzs))), (h_mzc, .inl (cI, 3, .inl f_mzc)), (h_mzr, .inl (cI, 3, .inl f_mzr)), (h_mvals, .inl (cJ, 17, .inr (.inl f_mvals))), (h_mtold, .inl (cI, 96, .inl f_mtold)), (h_mpage, .inl (cI, 40, .inl f_mpage))] sz) (gQi D cI cJ (f_X10_count x_readings x_readingsOver x_conversions x_shortedOnes x_madeMore x_madeLess x_jumps x_settings x_pageLength p0) (fun _ _ => True) (fun _ : Unit => [(h_md, .inr (10, [.int x_dcNow, .int x_humNow, .int x_wave, .int x_noiseNow, .long x_seedNow, .long x_tick, .int x_range, .int (bI x_isAuto), .int x_offset, .int x_creep, .int x_factor, .int x_shift, .int x_cycles, .int x_zeroing, .int x_most, .int x_window, .int (bI x_wasConversion), .int x_plus, .int x_minus, .int x_switched, .ref h_mcnt, .long x_charge, .int (bI x_wasOver), .long x_sum, .long x_flowed, .int (bI x_wasShorted), .int x_rangeThen, .ref h_mzs, .ref h_mzc, .ref h_mzr, .int x_held, .ref h_mvals, .int x_kept, .ref h_mtold, .int x_readings, .int x_readingsOver, .int x_conversions, .int x_shortedOnes, .int x_madeMore, .int x_madeLess, .int x_jumps, .int x_settings, .int x_pageLength, .ref h_mpage, .int x_command, .int x_figures, .int x_number, .int (bI x_isBelow), .long x_h])), (h_mcnt, .inl (cI, 4, .inl f_mcnt)), (h_mzs, .inl (cJ, 3, .inr (.inl f_mzs))), (h_mzc, .inl (cI, 3, .inl f_mzc)), (h_mzr, .inl (cI, 3, .inl f_mzr)), (h_mvals, .inl (cJ, 17, .inr (.inl f_mvals))), (h_mtold, .inl (cI, 96, .inl f_mtold)), (h_mpage, .inl (cI, 40, .inl f_mpage))]) (va_A [(h_md, .inr (10, [.int x_dcNow, .int x_humNow, .int x_wave, .int x_noiseNow, .long x_seedNow, .long x_tick, .int x_range, .int (bI x_isAuto), .int x_offset, .int x_creep, .int x_factor, .int x_shift, .int x_cycles, .int x_zeroing, .int x_most, .int x_window, .int (bI x_wasConversion), .int x_plus, .int x_minus, .int x_switched, .ref h_mcnt, .long x_charge, .int (bI x_wasOver), .long x_sum, .long x_flowed, .int (bI x_wasShorted), .int x_rangeThen, .ref h_mzs, .ref h_mzc, .ref h_mzr, .int x_held, .ref h_mvals, .int x_kept, .ref h_mtold, .int x_readings, .int x_readingsOver, .int x_conversions, .int x_shortedOnes, .int x_madeMore, .int x_madeLess, .int x_jumps, .int x_settings, .int x_pageLength, .ref h_mpage, .int x_command, .int x_figures, .int x_number, .int (bI x_isBelow), .long x_h])), (h_mcnt, .inl (cI, 4, .inl f_mcnt)), (h_mzs, .inl (cJ, 3, .inr (.inl f_mzs))), (h_mzc, .inl (cI, 3, .inl f_mzc)), (h_mzr, .inl (cI, 3, .inl f_mzr)), (h_mvals, .inl (cJ, 17, .inr (.inl f_mvals))), (h_mtold, .inl (cI, 96, .inl f_mtold)), (h_mpage, .inl (cI, 40, .inl f_mpage))] sz)) 0 0 (va_A [(h_md, .inr (10, [.int x_dcNow, .int x_humNow, .int x_wave, .int x_noiseNow, .long x_seedNow, .long x_tick, .int x_range, .int (bI x_isAuto), .int x_offset, .int x_creep, .int x_factor, .int x_shift, .int x_cycles, .int x_zeroing, .int x_most, .int x_window, .int (bI x_wasConversion), .int x_plus, .int x_minus, .int x_switched, .ref h_mcnt, .long x_charge, .int (bI x_wasOver), .long x_sum, .long x_flowed, .int (bI x_wasShorted), .int x_rangeThen, .ref h_mzs, .ref h_mzc, .ref h_mzr, .int x_held, .ref h_mvals, .int x_kept, .ref h_mtold, .int x_readings, .int x_readingsOver, .int x_conversions, .int x_shortedOnes, .int x_madeMore, .int x_madeLess, .int x_jumps, .int x_settings, .int x_pageLength, .ref h_mpage, .int x_command, .int x_figures, .int x_number, .int (bI x_isBelow), .long x_h])), (h_mcnt, .inl (cI, 4, .inl f_mcnt)), (h_mzs, .inl (cJ, 3, .inr (.inl f_mzs))), (h_mzc, .inl (cI, 3, .inl f_mzc)), (h_mzr, .inl (cI, 3, .inl f_mzr)), (h_mvals, .inl (cJ, 17, .inr (.inl f_mvals))), (h_mtold, .inl (cI, 96, .inl f_mtold)), (h_mpage, .inl (cI, 40, .inl f_mpage))] sz) := by
  refine g_met (cc := cX10_count) (maxL := 2) (ret := (some .int)) (Qc := gQi D cI cJ (f_X10_count x_readings x_readingsOver x_conversions x_shortedOnes x_madeMore x_madeLess x_jumps x_settings x_pageLength p0) _ _) (by decide) rfl (Nat.le_of_ble_eq_true rfl) ?_
  intro A p e s m below meth c hx hb hr hml hts hown hlk hnm hP hK hD hE hA hS ls hl
  have hown : s.vm.findClass RX10 = some m.cls := hown
  have hl : lv_has ls 2 [(0, .ref h_md), (1, .int p0)] := hl
  have hF := f_X10_count.eq_1 x_readings x_readingsOver x_conversions x_shortedOnes x_madeMore x_madeLess x_jumps x_settings x_pageLength p0
  refine lv_aload_n hx hb dX10_count_0 rfl (lv_at hl 0 rfl) ?_
  refine lv_iload_n hx hb dX10_count_1 rfl (lv_at hl 1 rfl) ?_
  refine g_cvi (rest := []) ⟨hx, hb, hml, hown, hts⟩ hP hD hK hS hA hE (c_X10_howMany l D cI cJ h_md h_mcnt h_mzs h_mzc h_mzr h_mvals h_mtold h_mpage s.heap.size x_dcNow x_humNow x_wave x_noiseNow x_seedNow x_tick x_range x_isAuto x_offset x_creep x_factor x_shift x_cycles x_zeroing x_most x_window x_wasConversion x_plus x_minus x_switched x_charge x_wasOver x_sum x_flowed x_wasShorted x_rangeThen x_held x_kept x_readings x_readingsOver x_conversions x_shortedOnes x_madeMore x_madeLess x_jumps x_settings x_pageLength x_command x_figures x_number x_isBelow x_h f_mcnt f_mzs f_mzc f_mzr f_mvals f_mtold f_mpage p0) (cwV 1 hts gX10_count_X10_howMany rfl rfl rfl (by decide +kernel) ⟨Nat.le_of_ble_eq_true rfl, Nat.le_of_ble_eq_true rfl⟩) [0, 1, 2, 3, 4, 5, 6, 7] [] rfl rfl rfl rfl rfl 10 0 rfl rfl rfl hl rfl (Nat.le_of_ble_eq_true rfl) ⟨Nat.zero_le _, Nat.zero_le _⟩ dX10_count_2 (fun r_2_1 u_1 H locs hw_1 hx_1 hP hD hS => ?_)
  obtain ⟨hP, hD⟩ := g_re (ws' := [(h_md, .inr (10, [.int x_dcNow, .int x_humNow, .int x_wave, .int x_noiseNow, .long x_seedNow, .long x_tick, .int x_range, .int (bI x_isAuto), .int x_offset, .int x_creep, .int x_factor, .int x_shift, .int x_cycles, .int x_zeroing, .int x_most, .int x_window, .int (bI x_wasConversion), .int x_plus, .int x_minus, .int x_switched, .ref h_mcnt, .long x_charge, .int (bI x_wasOver), .long x_sum, .long x_flowed, .int (bI x_wasShorted), .int x_rangeThen, .ref h_mzs, .ref h_mzc, .ref h_mzr, .int x_held, .ref h_mvals, .int x_kept, .ref h_mtold, .int x_readings, .int x_readingsOver, .int x_conversions, .int x_shortedOnes, .int x_madeMore, .int x_madeLess, .int x_jumps, .int x_settings, .int x_pageLength, .ref h_mpage, .int x_command, .int x_figures, .int x_number, .int (bI x_isBelow), .long x_h])), (h_mcnt, .inl (cI, 4, .inl f_mcnt)), (h_mzs, .inl (cJ, 3, .inr (.inl f_mzs))), (h_mzc, .inl (cI, 3, .inl f_mzc)), (h_mzr, .inl (cI, 3, .inl f_mzr)), (h_mvals, .inl (cJ, 17, .inr (.inl f_mvals))), (h_mtold, .inl (cI, 96, .inl f_mtold)), (h_mpage, .inl (cI, 40, .inl f_mpage))]) rfl hP hD
  have hF := hF
  rw [hw_1] at hF
  try dsimp only at hF
  exact g_iret () hx hb hr hlk hP hK hD hS hF trivial rfl dX10_count_5
