noncomputable def f_X7_swing (s_wave : Int32) (p0 : Int32) : (Int64 × Unit) := (if s_wave = (0 : Int32) then (gBind (fun (k_6 : Int64 → (Int64 × Unit)) => (if (gRemI p0 (10 : Int32)) < (0 : Int32) then (k_6 (0 : Int64)) else (if (10 : Int32) ≤ (gRemI p0 (10 : Int32)) then (k_6 (0 : Int64)) else (k_6 (gSineI (gRemI p0 (10 : Int32)).toNatClampNeg).toInt64)))) (fun k0_6 => (if (10 : Int32) ≤ p0 then ((-k0_6), ()) else (k0_6, ())))) else (if s_wave = (1 : Int32) then (if (10 : Int32) ≤ p0 then ((-1000 : Int64), ()) else ((1000 : Int64), ())) else ((((100 : Int64) * p0.toInt64) - (950 : Int64)), ())))
set_option maxHeartbeats 4000000 in
set_option maxRecDepth 100000 in
theorem c_X7_swing (l : Launch) (D : va_G) (cI cJ : ClassId) (h_src : Nat) (sz : Nat) (s_dc : Int32) (s_hum : Int32) (s_wave : Int32) (s_noise : Int32) (s_seed : Int64) (p0 : Int32) : Met l yX7_swing wsX7_swing ({ frames := 0, cells := 0, slots := 0, locals := 0 }) (gPc D cI cJ [.ref h_src, .int p0] [(h_src, .inr (7, [.int s_dc, .int s_hum, .int s_wave, .int s_noise, .long s_seed]))] sz) (gQl D cI cJ (f_X7_swing s_wave p0) (fun _ _ => True) (fun _ : Unit => [(h_src, .inr (7, [.int s_dc, .int s_hum, .int s_wave, .int s_noise, .long s_seed]))]) (va_A [(h_src, .inr (7, [.int s_dc, .int s_hum, .int s_wave, .int s_noise, .long s_seed]))] sz)) 0 0 (va_A [(h_src, .inr (7, [.int s_dc, .int s_hum, .int s_wave, .int s_noise, .long s_seed]))] sz) := by
  refine g_met (cc := cX7_swing) (maxL := 5) (ret := (some .long)) (Qc := gQl D cI cJ (f_X7_swing s_wave p0) _ _) (by decide) rfl (Nat.le_of_ble_eq_true rfl) ?_
  intro A p e s m below meth c hx hb hr hml hts hown hlk hnm hP hK hD hE hA hS ls hl
  have hown : s.vm.findClass RX7 = some m.cls := hown
  have hl : lv_has ls 5 [(0, .ref h_src), (1, .int p0)] := hl
  have hi7 : ∀ w ∈ u_ws RX7 TX7 5, w ∈ wsX7_swing := fun w h9 => List.mem_cons_of_mem _ (List.mem_append_right _ h9)
  have hm1 := hts (.fieldLink RX7 18 "VoltSlopes$Source" "wave" "I") (List.mem_of_getElem? (i := 1) rfl)
  have hm2 := hts (.constantLong RX7 34 (1000)) (List.mem_of_getElem? (i := 2) rfl)
  have hm3 := hts (.constantLong RX7 40 (-1000)) (List.mem_of_getElem? (i := 3) rfl)
  have hm4 := hts (.constantLong RX7 42 (100)) (List.mem_of_getElem? (i := 4) rfl)
  have hm5 := hts (.constantLong RX7 44 (950)) (List.mem_of_getElem? (i := 5) rfl)
  obtain ⟨t_SINE, t_SLOPES, hZ_SINE, hT_SINE, hZ_SLOPES, hT_SLOPES⟩ := hE.2
  have hF := f_X7_swing.eq_1 s_wave p0
  refine lv_aload_n hx hb dX7_swing_0 rfl (lv_at hl 0 rfl) ?_
  refine va_get (D := D) (ci := 7) (v := .int s_wave) (C := RX7) (T := TX7) (N := 5) hx hb hts hi7 hown hK hP 0 rfl rfl 2 (by decide) hm1 (fun _ h9 => h9) rfl dX7_swing_1 ?_
  refine lv_if_ne (tgt := 48) hx hb dX7_swing_4 (by decide) (fun c_4_1 => ?_) (fun c_4_1 => ?_)
  · have hF := hF.trans (if_neg c_4_1)
    have i_4_1 : s_wave.toInt ≠ 0 := gi_ne c_4_1 rfl (by decide)
    refine lv_aload_n hx hb dX7_swing_48 rfl (lv_at hl 0 rfl) ?_
    refine va_get (D := D) (ci := 7) (v := .int s_wave) (C := RX7) (T := TX7) (N := 5) hx hb hts hi7 hown hK hP 0 rfl rfl 2 (by decide) hm1 (fun _ h9 => h9) rfl dX7_swing_49 ?_
    refine lv_iconst (v := 1) hx hb dX7_swing_52 (by decide) ?_
    refine lv_icmp_ne (tgt := 72) hx hb dX7_swing_53 (by decide) (fun c_53_2 => ?_) (fun c_53_2 => ?_)
    · have hF := hF.trans (if_neg c_53_2)
      have i_53_2 : s_wave.toInt ≠ 1 := gi_ne c_53_2 rfl (by decide)
      refine lv_ldc2 hx hb hown hm4 dX7_swing_72 ?_
      refine lv_iload_n hx hb dX7_swing_75 rfl (lv_at hl 1 rfl) ?_
      refine lv_i2l (v := p0.toInt64) hx hb dX7_swing_76 rfl ?_
      refine lv_lmul hx hb dX7_swing_77 ?_
      refine lv_ldc2 hx hb hown hm5 dX7_swing_78 ?_
      refine lv_lsub hx hb dX7_swing_81 ?_
      exact g_lret () hx hb hr hlk hP hK hD hS hF trivial rfl dX7_swing_82
    · have hF := hF.trans (if_pos c_53_2)
      have i_53_2 : s_wave.toInt = 1 := gi_eq c_53_2 rfl (by decide)
      refine lv_iload_n hx hb dX7_swing_56 rfl (lv_at hl 1 rfl) ?_
      refine lv_bipush (v := 10) hx hb dX7_swing_57 (by decide) ?_
      refine lv_icmp_ge (tgt := 68) hx hb dX7_swing_59 (by decide) (fun c_59_3 => ?_) (fun c_59_3 => ?_)
      · have hF := hF.trans (if_pos c_59_3)
        have i_59_3 : 10 ≤ p0.toInt := gi_le c_59_3 (by decide) rfl
        refine lv_ldc2 hx hb hown hm3 dX7_swing_68 ?_
        exact g_lret () hx hb hr hlk hP hK hD hS hF trivial rfl dX7_swing_71
      · have hF := hF.trans (if_neg c_59_3)
        have i_59_3 : p0.toInt < 10 := gi_nle c_59_3 (by decide) rfl
        refine lv_ldc2 hx hb hown hm2 dX7_swing_62 ?_
        refine lv_goto (tgt := 71) hx hb dX7_swing_65 (by decide) ?_
        exact g_lret () hx hb hr hlk hP hK hD hS hF trivial rfl dX7_swing_71
  · have hF := hF.trans (if_pos c_4_1)
    have i_4_1 : s_wave.toInt = 0 := gi_eq c_4_1 rfl (by decide)
    refine lv_iload_n hx hb dX7_swing_7 rfl (lv_at hl 1 rfl) ?_
    refine lv_bipush (v := 10) hx hb dX7_swing_8 (by decide) ?_
    refine g_irem hx hb dX7_swing_10 (by decide) ?_
    refine lv_istore_n (lv' := [(2, .int (gRemI p0 (10 : Int32))), (0, .ref h_src), (1, .int p0)]) hx hb dX7_swing_11 rfl hl (by decide) rfl (fun ls hl => ?_)
    refine lv_iload_n hx hb dX7_swing_12 rfl (lv_at hl 0 rfl) ?_
    refine gJoinW (α := Int64) (fun v => [(h_src, .inr (7, [.int s_dc, .int s_hum, .int s_wave, .int s_noise, .long s_seed]))]) (fun v => [(1, .int p0)]) 34 (fun v => [.long v]) (fun v => True) hF hl hD hP (fun K_6 J_6 hF => ?_) (fun v hj_6 hF => ?_)
    · refine lv_if_lt (tgt := 33) hx hb dX7_swing_13 (by decide) (fun c_13_7 => ?_) (fun c_13_7 => ?_)
      · have hF := hF.trans (if_pos c_13_7)
        have i_13_7 : (gRemI p0 (10 : Int32)).toInt < 0 := gi_lt c_13_7 rfl (by decide)
        refine lv_lconst (v := 0) hx hb dX7_swing_33 (by decide) ?_
        exact J_6 (0 : Int64) (trivial) hF _ _ _ hP hD hS (lv_sub hl [2] rfl)
      · have hF := hF.trans (if_neg c_13_7)
        have i_13_7 : 0 ≤ (gRemI p0 (10 : Int32)).toInt := gi_nlt c_13_7 rfl (by decide)
        refine lv_iload_n hx hb dX7_swing_16 rfl (lv_at hl 0 rfl) ?_
        refine va_getsN (host := RX9) hx hb hZ_SINE hS hown (va_Nw.use rfl (hE.1 (.fieldLinkNest RX7 36 RX9 "SINE" "[I" RX9) (List.mem_of_getElem? (i := 11) rfl))) (fun _ h9 => h9) dX7_swing_17 ?_
        refine va_tlen (v := 10) hx hb hT_SINE hS (by decide) dX7_swing_20 ?_
        refine lv_icmp_ge (tgt := 33) hx hb dX7_swing_21 (by decide) (fun c_21_8 => ?_) (fun c_21_8 => ?_)
        · have hF := hF.trans (if_pos c_21_8)
          have i_21_8 : 10 ≤ (gRemI p0 (10 : Int32)).toInt := gi_le c_21_8 (by decide) rfl
          refine lv_lconst (v := 0) hx hb dX7_swing_33 (by decide) ?_
          exact J_6 (0 : Int64) (trivial) hF _ _ _ hP hD hS (lv_sub hl [2] rfl)
        · have hF := hF.trans (if_neg c_21_8)
          have i_21_8 : (gRemI p0 (10 : Int32)).toInt < 10 := gi_nle c_21_8 (by decide) rfl
          refine va_getsN (host := RX9) hx hb hZ_SINE hS hown (va_Nw.use rfl (hE.1 (.fieldLinkNest RX7 36 RX9 "SINE" "[I" RX9) (List.mem_of_getElem? (i := 11) rfl))) (fun _ h9 => h9) dX7_swing_24 ?_
          refine lv_iload_n hx hb dX7_swing_27 rfl (lv_at hl 0 rfl) ?_
          refine va_ti (v := .int (gSineI (gRemI p0 (10 : Int32)).toNatClampNeg)) hx hb hT_SINE hS (gi_in ⟨by omega, by omega⟩) rfl dX7_swing_28 ?_
          refine lv_i2l (v := (gSineI (gRemI p0 (10 : Int32)).toNatClampNeg).toInt64) hx hb dX7_swing_29 rfl ?_
          refine lv_goto (tgt := 34) hx hb dX7_swing_30 (by decide) ?_
          exact J_6 (gSineI (gRemI p0 (10 : Int32)).toNatClampNeg).toInt64 (trivial) hF _ _ _ hP hD hS (lv_sub hl [2] rfl)
    · obtain ⟨k0_6, rfl⟩ : ∃ z, z = v := ⟨_, rfl⟩
      intro H locs ls hP hD hS hl
      obtain ⟨hP, hD⟩ := g_re (ws' := [(h_src, .inr (7, [.int s_dc, .int s_hum, .int s_wave, .int s_noise, .long s_seed]))]) rfl hP hD
      have hl : lv_has ls 5 [(1, .int p0)] := hl
      show W p l e _ s m _ below meth c H locs _ _ _ (F0 m 34 ls [.long k0_6])
      refine lv_lstore_n (lv' := [(3, .long k0_6), (1, .int p0)]) hx hb dX7_swing_34 rfl hl (by decide) rfl (fun ls hl => ?_)
      refine lv_iload_n hx hb dX7_swing_35 rfl (lv_at hl 1 rfl) ?_
      refine lv_bipush (v := 10) hx hb dX7_swing_36 (by decide) ?_
      refine lv_icmp_ge (tgt := 45) hx hb dX7_swing_38 (by decide) (fun c_38_9 => ?_) (fun c_38_9 => ?_)
      · have hF := hF.trans (if_pos c_38_9)
        have i_38_9 : 10 ≤ p0.toInt := gi_le c_38_9 (by decide) rfl
        refine lv_lload_n hx hb dX7_swing_45 rfl (lv_at hl 0 rfl) ?_
        refine lv_lneg hx hb dX7_swing_46 ?_
        exact g_lret () hx hb hr hlk hP hK hD hS hF trivial rfl dX7_swing_47
      · have hF := hF.trans (if_neg c_38_9)
        have i_38_9 : p0.toInt < 10 := gi_nle c_38_9 (by decide) rfl
        refine lv_lload_n hx hb dX7_swing_41 rfl (lv_at hl 0 rfl) ?_
        refine lv_goto (tgt := 47) hx hb dX7_swing_42 (by decide) ?_
        exact g_lret () hx hb hr hlk hP hK hD hS hF trivial rfl dX7_swing_47

noncomputable def f_X7_calmAt (s_dc : Int32) (s_hum : Int32) (s_wave : Int32) (p0 : Int64) : (Int64 × Unit) := (match (f_X7_swing s_wave (gRemL p0 (20 : Int64)).toInt32) with | (r_19_1, _) => ((s_dc.toInt64 + ((s_hum.toInt64 * r_19_1) / (1000 : Int64))), ()))
set_option maxHeartbeats 4000000 in
set_option maxRecDepth 100000 in
theorem c_X7_calmAt (l : Launch) (D : va_G) (cI cJ : ClassId) (h_src : Nat) (sz : Nat) (s_dc : Int32) (s_hum : Int32) (s_wave : Int32) (s_noise : Int32) (s_seed : Int64) (p0 : Int64) : Met l yX7_calmAt wsX7_calmAt ({ frames := 1, cells := 0, slots := 0, locals := 24 }) (gPc D cI cJ [.ref h_src, .long p0] [(h_src, .inr (7, [.int s_dc, .int s_hum, .int s_wave, .int s_noise, .long s_seed]))] sz) (gQl D cI cJ (f_X7_calmAt s_dc s_hum s_wave p0) (fun _ _ => True) (fun _ : Unit => [(h_src, .inr (7, [.int s_dc, .int s_hum, .int s_wave, .int s_noise, .long s_seed]))]) (va_A [(h_src, .inr (7, [.int s_dc, .int s_hum, .int s_wave, .int s_noise, .long s_seed]))] sz)) 0 0 (va_A [(h_src, .inr (7, [.int s_dc, .int s_hum, .int s_wave, .int s_noise, .long s_seed]))] sz) := by
  refine g_met (cc := cX7_calmAt) (maxL := 4) (ret := (some .long)) (Qc := gQl D cI cJ (f_X7_calmAt s_dc s_hum s_wave p0) _ _) (by decide) rfl (Nat.le_of_ble_eq_true rfl) ?_
  intro A p e s m below meth c hx hb hr hml hts hown hlk hnm hP hK hD hE hA hS ls hl
  have hown : s.vm.findClass RX7 = some m.cls := hown
  have hl : lv_has ls 4 [(0, .ref h_src), (1, .long p0)] := hl
  have hi7 : ∀ w ∈ u_ws RX7 TX7 5, w ∈ wsX7_calmAt := fun w h9 => List.mem_cons_of_mem _ (List.mem_append_right _ h9)
  have hm1 := hts (.constantLong RX7 28 (20)) (List.mem_of_getElem? (i := 1) rfl)
  have hm2 := hts (.fieldLink RX7 9 "VoltSlopes$Source" "dc" "I") (List.mem_of_getElem? (i := 2) rfl)
  have hm3 := hts (.fieldLink RX7 15 "VoltSlopes$Source" "hum" "I") (List.mem_of_getElem? (i := 3) rfl)
  have hm4 := hts (.constantLong RX7 34 (1000)) (List.mem_of_getElem? (i := 4) rfl)
  have hF := f_X7_calmAt.eq_1 s_dc s_hum s_wave p0
  refine lv_lload_n hx hb dX7_calmAt_0 rfl (lv_at hl 1 rfl) ?_
  refine lv_ldc2 hx hb hown hm1 dX7_calmAt_1 ?_
  refine g_lrem hx hb dX7_calmAt_4 (by decide) ?_
  refine lv_l2i (v := (gRemL p0 (20 : Int64)).toInt32) hx hb dX7_calmAt_5 rfl ?_
  refine lv_istore_n (lv' := [(3, .int (gRemL p0 (20 : Int64)).toInt32), (0, .ref h_src), (1, .long p0)]) hx hb dX7_calmAt_6 rfl hl (by decide) rfl (fun ls hl => ?_)
  refine lv_aload_n hx hb dX7_calmAt_7 rfl (lv_at hl 1 rfl) ?_
  refine va_get (D := D) (ci := 7) (v := .int s_dc) (C := RX7) (T := TX7) (N := 5) hx hb hts hi7 hown hK hP 0 rfl rfl 0 (by decide) hm2 (fun _ h9 => h9) rfl dX7_calmAt_8 ?_
  refine lv_i2l (v := s_dc.toInt64) hx hb dX7_calmAt_11 rfl ?_
  refine lv_aload_n hx hb dX7_calmAt_12 rfl (lv_at hl 1 rfl) ?_
  refine va_get (D := D) (ci := 7) (v := .int s_hum) (C := RX7) (T := TX7) (N := 5) hx hb hts hi7 hown hK hP 0 rfl rfl 1 (by decide) hm3 (fun _ h9 => h9) rfl dX7_calmAt_13 ?_
  refine lv_i2l (v := s_hum.toInt64) hx hb dX7_calmAt_16 rfl ?_
  refine lv_aload_n hx hb dX7_calmAt_17 rfl (lv_at hl 1 rfl) ?_
  refine lv_iload_n hx hb dX7_calmAt_18 rfl (lv_at hl 0 rfl) ?_
  refine g_cvl (rest := [.long s_hum.toInt64, .long s_dc.toInt64]) ⟨hx, hb, hml, hown, hts⟩ hP hD hK hS hA hE (c_X7_swing l D cI cJ h_src s.heap.size s_dc s_hum s_wave s_noise s_seed (gRemL p0 (20 : Int64)).toInt32) (cwV 1 hts gX7_calmAt_X7_swing rfl rfl rfl (by decide +kernel) ⟨Nat.le_of_ble_eq_true rfl, Nat.le_of_ble_eq_true rfl⟩) [0] [] rfl rfl rfl rfl rfl 7 0 rfl rfl rfl hl rfl (Nat.le_of_ble_eq_true rfl) ⟨Nat.zero_le _, Nat.zero_le _⟩ dX7_calmAt_19 (fun r_19_1 u_1 H locs hw_1 hx_1 hP hD hS => ?_)
  obtain ⟨hP, hD⟩ := g_re (ws' := [(h_src, .inr (7, [.int s_dc, .int s_hum, .int s_wave, .int s_noise, .long s_seed]))]) rfl hP hD
  have hF := hF
  rw [hw_1] at hF
  try dsimp only at hF
  refine lv_lmul hx hb dX7_calmAt_22 ?_
  refine lv_ldc2 hx hb hown hm4 dX7_calmAt_23 ?_
  refine lv_ldiv hx hb dX7_calmAt_26 (by decide) ?_
  refine lv_ladd hx hb dX7_calmAt_27 ?_
  exact g_lret () hx hb hr hlk hP hK hD hS hF trivial rfl dX7_calmAt_28

noncomputable def f_X7_draw (s_seed : Int64) (p0 : Int64) : (Int64 × Int64) := (if p0 ≤ (0 : Int64) then ((0 : Int64), (gRemL (((1103515245 : Int64) * s_seed) + (12345 : Int64)) (2147483648 : Int64))) else ((gRemL ((gRemL (((1103515245 : Int64) * s_seed) + (12345 : Int64)) (2147483648 : Int64)) / (65536 : Int64)) p0), (gRemL (((1103515245 : Int64) * s_seed) + (12345 : Int64)) (2147483648 : Int64))))
set_option maxHeartbeats 4000000 in
set_option maxRecDepth 100000 in
theorem c_X7_draw (l : Launch) (D : va_G) (cI cJ : ClassId) (h_src : Nat) (sz : Nat) (s_dc : Int32) (s_hum : Int32) (s_wave : Int32) (s_noise : Int32) (s_seed : Int64) (p0 : Int64) : Met l yX7_draw wsX7_draw ({ frames := 0, cells := 0, slots := 0, locals := 0 }) (gPc D cI cJ [.ref h_src, .long p0] [(h_src, .inr (7, [.int s_dc, .int s_hum, .int s_wave, .int s_noise, .long s_seed]))] sz) (gQl D cI cJ (f_X7_draw s_seed p0) (fun _ _ => True) (fun u : Int64 => [(h_src, .inr (7, [.int s_dc, .int s_hum, .int s_wave, .int s_noise, .long u]))]) (va_A [(h_src, .inr (7, [.int s_dc, .int s_hum, .int s_wave, .int s_noise, .long s_seed]))] sz)) 0 0 (va_A [(h_src, .inr (7, [.int s_dc, .int s_hum, .int s_wave, .int s_noise, .long s_seed]))] sz) := by
  refine g_met (cc := cX7_draw) (maxL := 3) (ret := (some .long)) (Qc := gQl D cI cJ (f_X7_draw s_seed p0) _ _) (by decide) rfl (Nat.le_of_ble_eq_true rfl) ?_
  intro A p e s m below meth c hx hb hr hml hts hown hlk hnm hP hK hD hE hA hS ls hl
  have hown : s.vm.findClass RX7 = some m.cls := hown
  have hl : lv_has ls 3 [(0, .ref h_src), (1, .long p0)] := hl
  have hi7 : ∀ w ∈ u_ws RX7 TX7 5, w ∈ wsX7_draw := fun w h9 => List.mem_cons_of_mem _ (List.mem_append_right _ h9)
  have hm1 := hts (.constantLong RX7 52 (1103515245)) (List.mem_of_getElem? (i := 1) rfl)
  have hm2 := hts (.fieldLink RX7 24 "VoltSlopes$Source" "seed" "J") (List.mem_of_getElem? (i := 2) rfl)
  have hm3 := hts (.constantLong RX7 54 (12345)) (List.mem_of_getElem? (i := 3) rfl)
  have hm4 := hts (.constantLong RX7 56 (2147483648)) (List.mem_of_getElem? (i := 4) rfl)
  have hm5 := hts (.constantLong RX7 58 (65536)) (List.mem_of_getElem? (i := 5) rfl)
  have hF := f_X7_draw.eq_1 s_seed p0
  refine lv_aload_n hx hb dX7_draw_0 rfl (lv_at hl 0 rfl) ?_
  refine lv_ldc2 hx hb hown hm1 dX7_draw_1 ?_
  refine lv_aload_n hx hb dX7_draw_4 rfl (lv_at hl 0 rfl) ?_
  refine va_get (D := D) (ci := 7) (v := .long s_seed) (C := RX7) (T := TX7) (N := 5) hx hb hts hi7 hown hK hP 0 rfl rfl 4 (by decide) hm2 (fun _ h9 => h9) rfl dX7_draw_5 ?_
  refine lv_lmul hx hb dX7_draw_8 ?_
  refine lv_ldc2 hx hb hown hm3 dX7_draw_9 ?_
  refine lv_ladd hx hb dX7_draw_12 ?_
  refine lv_ldc2 hx hb hown hm4 dX7_draw_13 ?_
  refine g_lrem hx hb dX7_draw_16 (by decide) ?_
  refine va_put (D := D) (ci := 7) (v := .long (gRemL (((1103515245 : Int64) * s_seed) + (12345 : Int64)) (2147483648 : Int64))) (ty := .long) (C := RX7) (T := TX7) (N := 5) hx hb hts hi7 tyX7 tyX7_ok nmX7 hown hK hP hD hS 0 rfl rfl 4 (by decide) hm2 (fun _ h9 => h9) rfl (by decide +kernel) rfl rfl (Nat.le_of_ble_eq_true rfl) dX7_draw_17 (fun H locs hP hD hS => ?_)
  obtain ⟨hP, hD⟩ := g_re (ws' := [(h_src, .inr (7, [.int s_dc, .int s_hum, .int s_wave, .int s_noise, .long (gRemL (((1103515245 : Int64) * s_seed) + (12345 : Int64)) (2147483648 : Int64))]))]) rfl hP hD
  refine lv_lload_n hx hb dX7_draw_20 rfl (lv_at hl 1 rfl) ?_
  refine lv_lconst (v := 0) hx hb dX7_draw_21 (by decide) ?_
  refine g_l_le (tgt := 39) hx hb dX7_draw_22 dX7_draw_23 (by decide) (fun c_22_2 => ?_) (fun c_22_2 => ?_)
  · have hF := hF.trans (if_pos c_22_2)
    refine lv_lconst (v := 0) hx hb dX7_draw_39 (by decide) ?_
    exact g_lret (gRemL (((1103515245 : Int64) * s_seed) + (12345 : Int64)) (2147483648 : Int64)) hx hb hr hlk hP hK hD hS hF trivial rfl dX7_draw_40
  · have hF := hF.trans (if_neg c_22_2)
    refine lv_aload_n hx hb dX7_draw_26 rfl (lv_at hl 0 rfl) ?_
    refine va_get (D := D) (ci := 7) (v := .long (gRemL (((1103515245 : Int64) * s_seed) + (12345 : Int64)) (2147483648 : Int64))) (C := RX7) (T := TX7) (N := 5) hx hb hts hi7 hown hK hP 0 rfl rfl 4 (by decide) hm2 (fun _ h9 => h9) rfl dX7_draw_27 ?_
    refine lv_ldc2 hx hb hown hm5 dX7_draw_30 ?_
    refine lv_ldiv hx hb dX7_draw_33 (by decide) ?_
    refine lv_lload_n hx hb dX7_draw_34 rfl (lv_at hl 1 rfl) ?_
    refine g_lrem hx hb dX7_draw_35 (ne_nle (by with_reducible assumption)) ?_
    refine lv_goto (tgt := 40) hx hb dX7_draw_36 (by decide) ?_
    exact g_lret (gRemL (((1103515245 : Int64) * s_seed) + (12345 : Int64)) (2147483648 : Int64)) hx hb hr hlk hP hK hD hS hF trivial rfl dX7_draw_40

noncomputable def f_X7_stir (s_noise : Int32) (s_seed : Int64) : (Int64 × Int64) := (if s_noise ≤ (0 : Int32) then ((0 : Int64), s_seed) else (match (f_X7_draw s_seed (((2 : Int64) * s_noise.toInt64) + (1 : Int64))) with | (r_19_2, src_seed_2) => ((r_19_2 - s_noise.toInt64), src_seed_2)))
set_option maxHeartbeats 4000000 in
set_option maxRecDepth 100000 in
theorem c_X7_stir (l : Launch) (D : va_G) (cI cJ : ClassId) (h_src : Nat) (sz : Nat) (s_dc : Int32) (s_hum : Int32) (s_wave : Int32) (s_noise : Int32) (s_seed : Int64) : Met l yX7_stir wsX7_stir ({ frames := 1, cells := 0, slots := 0, locals := 22 }) (gPc D cI cJ [.ref h_src] [(h_src, .inr (7, [.int s_dc, .int s_hum, .int s_wave, .int s_noise, .long s_seed]))] sz) (gQl D cI cJ (f_X7_stir s_noise s_seed) (fun _ _ => True) (fun u : Int64 => [(h_src, .inr (7, [.int s_dc, .int s_hum, .int s_wave, .int s_noise, .long u]))]) (va_A [(h_src, .inr (7, [.int s_dc, .int s_hum, .int s_wave, .int s_noise, .long s_seed]))] sz)) 0 0 (va_A [(h_src, .inr (7, [.int s_dc, .int s_hum, .int s_wave, .int s_noise, .long s_seed]))] sz) := by
  refine g_met (cc := cX7_stir) (maxL := 1) (ret := (some .long)) (Qc := gQl D cI cJ (f_X7_stir s_noise s_seed) _ _) (by decide) rfl (Nat.le_of_ble_eq_true rfl) ?_
  intro A p e s m below meth c hx hb hr hml hts hown hlk hnm hP hK hD hE hA hS ls hl
  have hown : s.vm.findClass RX7 = some m.cls := hown
  have hl : lv_has ls 1 [(0, .ref h_src)] := hl
  have hi7 : ∀ w ∈ u_ws RX7 TX7 5, w ∈ wsX7_stir := fun w h9 => List.mem_cons_of_mem _ (List.mem_append_right _ h9)
  have hm1 := hts (.fieldLink RX7 21 "VoltSlopes$Source" "noise" "I") (List.mem_of_getElem? (i := 1) rfl)
  have hm2 := hts (.constantLong RX7 46 (2)) (List.mem_of_getElem? (i := 2) rfl)
  have hF := f_X7_stir.eq_1 s_noise s_seed
  refine lv_aload_n hx hb dX7_stir_0 rfl (lv_at hl 0 rfl) ?_
  refine va_get (D := D) (ci := 7) (v := .int s_noise) (C := RX7) (T := TX7) (N := 5) hx hb hts hi7 hown hK hP 0 rfl rfl 3 (by decide) hm1 (fun _ h9 => h9) rfl dX7_stir_1 ?_
  refine lv_if_le (tgt := 31) hx hb dX7_stir_4 (by decide) (fun c_4_1 => ?_) (fun c_4_1 => ?_)
  · have hF := hF.trans (if_pos c_4_1)
    refine lv_lconst (v := 0) hx hb dX7_stir_31 (by decide) ?_
    exact g_lret s_seed hx hb hr hlk hP hK hD hS hF trivial rfl dX7_stir_32
  · have hF := hF.trans (if_neg c_4_1)
    refine lv_aload_n hx hb dX7_stir_7 rfl (lv_at hl 0 rfl) ?_
    refine lv_ldc2 hx hb hown hm2 dX7_stir_8 ?_
    refine lv_aload_n hx hb dX7_stir_11 rfl (lv_at hl 0 rfl) ?_
    refine va_get (D := D) (ci := 7) (v := .int s_noise) (C := RX7) (T := TX7) (N := 5) hx hb hts hi7 hown hK hP 0 rfl rfl 3 (by decide) hm1 (fun _ h9 => h9) rfl dX7_stir_12 ?_
    refine lv_i2l (v := s_noise.toInt64) hx hb dX7_stir_15 rfl ?_
    refine lv_lmul hx hb dX7_stir_16 ?_
    refine lv_lconst (v := 1) hx hb dX7_stir_17 (by decide) ?_
    refine lv_ladd hx hb dX7_stir_18 ?_
    refine g_cvl (rest := []) ⟨hx, hb, hml, hown, hts⟩ hP hD hK hS hA hE (c_X7_draw l D cI cJ h_src s.heap.size s_dc s_hum s_wave s_noise s_seed (((2 : Int64) * s_noise.toInt64) + (1 : Int64))) (cwV 1 hts gX7_stir_X7_draw rfl rfl rfl (by decide +kernel) ⟨Nat.le_of_ble_eq_true rfl, Nat.le_of_ble_eq_true rfl⟩) [0] [] rfl rfl rfl rfl rfl 7 0 rfl rfl rfl hl rfl (Nat.le_of_ble_eq_true rfl) ⟨Nat.zero_le _, Nat.zero_le _⟩ dX7_stir_19 (fun r_19_2 u_2 H locs hw_2 hx_2 hP hD hS => ?_)
    obtain ⟨src_seed_2, rfl⟩ : ∃ z, z = u_2 := ⟨_, rfl⟩
    obtain ⟨hP, hD⟩ := g_re (ws' := [(h_src, .inr (7, [.int s_dc, .int s_hum, .int s_wave, .int s_noise, .long src_seed_2]))]) rfl hP hD
    have hF := hF
    rw [hw_2] at hF
    try dsimp only at hF
    refine lv_aload_n hx hb dX7_stir_22 rfl (lv_at hl 0 rfl) ?_
    refine va_get (D := D) (ci := 7) (v := .int s_noise) (C := RX7) (T := TX7) (N := 5) hx hb hts hi7 hown hK hP 0 rfl rfl 3 (by decide) hm1 (fun _ h9 => h9) rfl dX7_stir_23 ?_
    refine lv_i2l (v := s_noise.toInt64) hx hb dX7_stir_26 rfl ?_
    refine lv_lsub hx hb dX7_stir_27 ?_
    refine lv_goto (tgt := 32) hx hb dX7_stir_28 (by decide) ?_
    exact g_lret src_seed_2 hx hb hr hlk hP hK hD hS hF trivial rfl dX7_stir_32
