noncomputable def f_X0_gain (a_range : Int32) : (Int64 × Unit) := (if a_range = (0 : Int32) then ((1 : Int64), ()) else (if a_range = (1 : Int32) then ((10 : Int64), ()) else ((100 : Int64), ())))
set_option maxHeartbeats 4000000 in
set_option maxRecDepth 100000 in
theorem c_X0_gain (l : Launch) (D : va_G) (cI cJ : ClassId) (h_amp : Nat) (sz : Nat) (a_range : Int32) (a_offset : Int32) (a_creep : Int32) : Met l yX0_gain wsX0_gain ({ frames := 0, cells := 0, slots := 0, locals := 0 }) (gPc D cI cJ [.ref h_amp] [(h_amp, .inr (0, [.int a_range, .int a_offset, .int a_creep]))] sz) (gQl D cI cJ (f_X0_gain a_range) (fun _ _ => True) (fun _ : Unit => [(h_amp, .inr (0, [.int a_range, .int a_offset, .int a_creep]))]) (va_A [(h_amp, .inr (0, [.int a_range, .int a_offset, .int a_creep]))] sz)) 0 0 (va_A [(h_amp, .inr (0, [.int a_range, .int a_offset, .int a_creep]))] sz) := by
  refine g_met (cc := cX0_gain) (maxL := 1) (ret := (some .long)) (Qc := gQl D cI cJ (f_X0_gain a_range) _ _) (by decide) rfl (Nat.le_of_ble_eq_true rfl) ?_
  intro A p e s m below meth c hx hb hr hml hts hown hlk hnm hP hK hD hE hA hS ls hl
  have hown : s.vm.findClass RX0 = some m.cls := hown
  have hl : lv_has ls 1 [(0, .ref h_amp)] := hl
  have hi0 : ∀ w ∈ u_ws RX0 TX0 3, w ∈ wsX0_gain := fun w h9 => List.mem_cons_of_mem _ (List.mem_append_right _ h9)
  have hm1 := hts (.fieldLink RX0 9 "VoltSlopes$Amplifier" "range" "I") (List.mem_of_getElem? (i := 1) rfl)
  have hm2 := hts (.constantLong RX0 21 (10)) (List.mem_of_getElem? (i := 2) rfl)
  have hm3 := hts (.constantLong RX0 23 (100)) (List.mem_of_getElem? (i := 3) rfl)
  have hF := f_X0_gain.eq_1 a_range
  refine lv_aload_n hx hb dX0_gain_0 rfl (lv_at hl 0 rfl) ?_
  refine va_get (D := D) (ci := 0) (v := .int a_range) (C := RX0) (T := TX0) (N := 3) hx hb hts hi0 hown hK hP 0 rfl rfl 0 (by decide) hm1 (fun _ h9 => h9) rfl dX0_gain_1 ?_
  refine lv_if_ne (tgt := 11) hx hb dX0_gain_4 (by decide) (fun c_4_1 => ?_) (fun c_4_1 => ?_)
  · have hF := hF.trans (if_neg c_4_1)
    refine lv_aload_n hx hb dX0_gain_11 rfl (lv_at hl 0 rfl) ?_
    refine va_get (D := D) (ci := 0) (v := .int a_range) (C := RX0) (T := TX0) (N := 3) hx hb hts hi0 hown hK hP 0 rfl rfl 0 (by decide) hm1 (fun _ h9 => h9) rfl dX0_gain_12 ?_
    refine lv_iconst (v := 1) hx hb dX0_gain_15 (by decide) ?_
    refine lv_icmp_ne (tgt := 25) hx hb dX0_gain_16 (by decide) (fun c_16_2 => ?_) (fun c_16_2 => ?_)
    · have hF := hF.trans (if_neg c_16_2)
      refine lv_ldc2 hx hb hown hm3 dX0_gain_25 ?_
      exact g_lret () hx hb hr hlk hP hK hD hS hF trivial rfl dX0_gain_28
    · have hF := hF.trans (if_pos c_16_2)
      refine lv_ldc2 hx hb hown hm2 dX0_gain_19 ?_
      refine lv_goto (tgt := 28) hx hb dX0_gain_22 (by decide) ?_
      exact g_lret () hx hb hr hlk hP hK hD hS hF trivial rfl dX0_gain_28
  · have hF := hF.trans (if_pos c_4_1)
    refine lv_lconst (v := 1) hx hb dX0_gain_7 (by decide) ?_
    refine lv_goto (tgt := 28) hx hb dX0_gain_8 (by decide) ?_
    exact g_lret () hx hb hr hlk hP hK hD hS hF trivial rfl dX0_gain_28

noncomputable def f_X0_amplified (a_range : Int32) (a_offset : Int32) (p0 : Int64) : (Int64 × Unit) := (match (f_X0_gain a_range) with | (r_1_1, _) => ((r_1_1 * (p0 + a_offset.toInt64)), ()))
set_option maxHeartbeats 4000000 in
set_option maxRecDepth 100000 in
theorem c_X0_amplified (l : Launch) (D : va_G) (cI cJ : ClassId) (h_amp : Nat) (sz : Nat) (a_range : Int32) (a_offset : Int32) (a_creep : Int32) (p0 : Int64) : Met l yX0_amplified wsX0_amplified ({ frames := 1, cells := 0, slots := 0, locals := 20 }) (gPc D cI cJ [.ref h_amp, .long p0] [(h_amp, .inr (0, [.int a_range, .int a_offset, .int a_creep]))] sz) (gQl D cI cJ (f_X0_amplified a_range a_offset p0) (fun _ _ => True) (fun _ : Unit => [(h_amp, .inr (0, [.int a_range, .int a_offset, .int a_creep]))]) (va_A [(h_amp, .inr (0, [.int a_range, .int a_offset, .int a_creep]))] sz)) 0 0 (va_A [(h_amp, .inr (0, [.int a_range, .int a_offset, .int a_creep]))] sz) := by
  refine g_met (cc := cX0_amplified) (maxL := 3) (ret := (some .long)) (Qc := gQl D cI cJ (f_X0_amplified a_range a_offset p0) _ _) (by decide) rfl (Nat.le_of_ble_eq_true rfl) ?_
  intro A p e s m below meth c hx hb hr hml hts hown hlk hnm hP hK hD hE hA hS ls hl
  have hown : s.vm.findClass RX0 = some m.cls := hown
  have hl : lv_has ls 3 [(0, .ref h_amp), (1, .long p0)] := hl
  have hi0 : ∀ w ∈ u_ws RX0 TX0 3, w ∈ wsX0_amplified := fun w h9 => List.mem_cons_of_mem _ (List.mem_append_right _ h9)
  have hm1 := hts (.fieldLink RX0 15 "VoltSlopes$Amplifier" "offset" "I") (List.mem_of_getElem? (i := 1) rfl)
  have hF := f_X0_amplified.eq_1 a_range a_offset p0
  refine lv_aload_n hx hb dX0_amplified_0 rfl (lv_at hl 0 rfl) ?_
  refine g_cvl (rest := []) ⟨hx, hb, hml, hown, hts⟩ hP hD hK hS hA hE (c_X0_gain l D cI cJ h_amp s.heap.size a_range a_offset a_creep ) (cwV 0 hts gX0_amplified_X0_gain rfl rfl rfl (by decide +kernel) ⟨Nat.le_of_ble_eq_true rfl, Nat.le_of_ble_eq_true rfl⟩) [0] [] rfl rfl rfl rfl rfl 0 0 rfl rfl rfl hl rfl (Nat.le_of_ble_eq_true rfl) ⟨Nat.zero_le _, Nat.zero_le _⟩ dX0_amplified_1 (fun r_1_1 u_1 H locs hw_1 hx_1 hP hD hS => ?_)
  obtain ⟨hP, hD⟩ := g_re (ws' := [(h_amp, .inr (0, [.int a_range, .int a_offset, .int a_creep]))]) rfl hP hD
  have hF := hF
  rw [hw_1] at hF
  try dsimp only at hF
  refine lv_lload_n hx hb dX0_amplified_4 rfl (lv_at hl 1 rfl) ?_
  refine lv_aload_n hx hb dX0_amplified_5 rfl (lv_at hl 0 rfl) ?_
  refine va_get (D := D) (ci := 0) (v := .int a_offset) (C := RX0) (T := TX0) (N := 3) hx hb hts hi0 hown hK hP 0 rfl rfl 1 (by decide) hm1 (fun _ h9 => h9) rfl dX0_amplified_6 ?_
  refine lv_i2l (v := a_offset.toInt64) hx hb dX0_amplified_9 rfl ?_
  refine lv_ladd hx hb dX0_amplified_10 ?_
  refine lv_lmul hx hb dX0_amplified_11 ?_
  exact g_lret () hx hb hr hlk hP hK hD hS hF trivial rfl dX0_amplified_12

noncomputable def f_X0_creepOn (a_offset : Int32) (a_creep : Int32) : Int32 := (gMaxI (-2000 : Int32) (gMinI (2000 : Int32) (a_offset + a_creep)))
set_option maxHeartbeats 4000000 in
set_option maxRecDepth 100000 in
theorem c_X0_creepOn (l : Launch) (D : va_G) (cI cJ : ClassId) (h_amp : Nat) (sz : Nat) (a_range : Int32) (a_offset : Int32) (a_creep : Int32) : Met l yX0_creepOn wsX0_creepOn ({ frames := 1, cells := 0, slots := 0, locals := 15 }) (gPc D cI cJ [.ref h_amp] [(h_amp, .inr (0, [.int a_range, .int a_offset, .int a_creep]))] sz) (gQv D cI cJ (f_X0_creepOn a_offset a_creep) (fun _ => True) (fun u : Int32 => [(h_amp, .inr (0, [.int a_range, .int u, .int a_creep]))]) (va_A [(h_amp, .inr (0, [.int a_range, .int a_offset, .int a_creep]))] sz)) 0 0 (va_A [(h_amp, .inr (0, [.int a_range, .int a_offset, .int a_creep]))] sz) := by
  refine g_met (cc := cX0_creepOn) (maxL := 1) (ret := none) (Qc := gQv D cI cJ (f_X0_creepOn a_offset a_creep) _ _) (by decide) rfl (Nat.le_of_ble_eq_true rfl) ?_
  intro A p e s m below meth c hx hb hr hml hts hown hlk hnm hP hK hD hE hA hS ls hl
  have hown : s.vm.findClass RX0 = some m.cls := hown
  have hl : lv_has ls 1 [(0, .ref h_amp)] := hl
  have hi0 : ∀ w ∈ u_ws RX0 TX0 3, w ∈ wsX0_creepOn := fun w h9 => List.mem_cons_of_mem _ (List.mem_append_right _ h9)
  have hm1 := hts (.fieldLink RX0 15 "VoltSlopes$Amplifier" "offset" "I") (List.mem_of_getElem? (i := 1) rfl)
  have hm2 := hts (.fieldLink RX0 18 "VoltSlopes$Amplifier" "creep" "I") (List.mem_of_getElem? (i := 2) rfl)
  have hm3 := hts (.methodLink RX0 29 Lib.Math.min.name) (List.mem_of_getElem? (i := 3) rfl)
  have hm4 := hts (.static Lib.Math.min.name) (List.mem_of_getElem? (i := 4) rfl)
  have hm5 := hts (.initialized "java/lang/Math") (List.mem_of_getElem? (i := 5) rfl)
  have hm6 := hts (.code Lib.Math.min.name Lib.Math.min.code 2 (some .int)) (List.mem_of_getElem? (i := 6) rfl)
  have hm7 := hts (.methodLink RX0 35 Lib.Math.max.name) (List.mem_of_getElem? (i := 7) rfl)
  have hm8 := hts (.static Lib.Math.max.name) (List.mem_of_getElem? (i := 8) rfl)
  have hm9 := hts (.code Lib.Math.max.name Lib.Math.max.code 2 (some .int)) (List.mem_of_getElem? (i := 9) rfl)
  have hF := f_X0_creepOn.eq_1 a_offset a_creep
  refine lv_aload_n hx hb dX0_creepOn_0 rfl (lv_at hl 0 rfl) ?_
  refine lv_sipush (v := -2000) hx hb dX0_creepOn_1 (by decide) ?_
  refine lv_sipush (v := 2000) hx hb dX0_creepOn_4 (by decide) ?_
  refine lv_aload_n hx hb dX0_creepOn_7 rfl (lv_at hl 0 rfl) ?_
  refine va_get (D := D) (ci := 0) (v := .int a_offset) (C := RX0) (T := TX0) (N := 3) hx hb hts hi0 hown hK hP 0 rfl rfl 1 (by decide) hm1 (fun _ h9 => h9) rfl dX0_creepOn_8 ?_
  refine lv_aload_n hx hb dX0_creepOn_11 rfl (lv_at hl 0 rfl) ?_
  refine va_get (D := D) (ci := 0) (v := .int a_creep) (C := RX0) (T := TX0) (N := 3) hx hb hts hi0 hown hK hP 0 rfl rfl 2 (by decide) hm2 (fun _ h9 => h9) rfl dX0_creepOn_12 ?_
  refine lv_iadd hx hb dX0_creepOn_15 ?_
  refine va_mmin hx hb (by rw [hml]; exact hl.1.symm) hown hm3 hm4 hm5 hm6 (Nat.le_of_ble_eq_true rfl) (Nat.le_of_ble_eq_true rfl) (Nat.zero_le _) (Nat.zero_le _) dX0_creepOn_16 ?_
  refine W.eq (g2 := F0 m 19 ls [.int (gMinI (2000 : Int32) (a_offset + a_creep)), .int (-2000 : Int32), .ref h_amp]) rfl ?_
  refine va_mmax hx hb (by rw [hml]; exact hl.1.symm) hown hm7 hm8 hm5 hm9 (Nat.le_of_ble_eq_true rfl) (Nat.le_of_ble_eq_true rfl) (Nat.zero_le _) (Nat.zero_le _) dX0_creepOn_19 ?_
  refine W.eq (g2 := F0 m 22 ls [.int (gMaxI (-2000 : Int32) (gMinI (2000 : Int32) (a_offset + a_creep))), .ref h_amp]) rfl ?_
  refine va_put (D := D) (ci := 0) (v := .int (gMaxI (-2000 : Int32) (gMinI (2000 : Int32) (a_offset + a_creep)))) (ty := .int) (C := RX0) (T := TX0) (N := 3) hx hb hts hi0 tyX0 tyX0_ok nmX0 hown hK hP hD hS 0 rfl rfl 1 (by decide) hm1 (fun _ h9 => h9) rfl (by decide +kernel) rfl rfl (Nat.le_of_ble_eq_true rfl) dX0_creepOn_22 (fun H locs hP hD hS => ?_)
  obtain ⟨hP, hD⟩ := g_re (ws' := [(h_amp, .inr (0, [.int a_range, .int (gMaxI (-2000 : Int32) (gMinI (2000 : Int32) (a_offset + a_creep))), .int a_creep]))]) rfl hP hD
  exact g_vret (gMaxI (-2000 : Int32) (gMinI (2000 : Int32) (a_offset + a_creep))) hx hb hr hlk hP hK hD hS hF trivial rfl dX0_creepOn_25
