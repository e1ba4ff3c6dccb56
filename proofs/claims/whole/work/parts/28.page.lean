noncomputable def f_X5_write (p_length : Int32) (f_pcd : Nat → Int32) (p0 : Int32) : (Bool × (Int32 × (Nat → Int32))) := (if p_length < (0 : Int32) then (false, (p_length, f_pcd)) else (if p_length < (40 : Int32) then (true, ((p_length + (1 : Int32)), (upd f_pcd p_length.toNatClampNeg p0))) else (false, (p_length, f_pcd))))
set_option maxHeartbeats 4000000 in
set_option maxRecDepth 100000 in
theorem c_X5_write (l : Launch) (D : va_G) (cI cJ : ClassId) (h_pg h_pcd : Nat) (sz : Nat) (p_length : Int32) (f_pcd : Nat → Int32) (p0 : Int32) : Met l yX5_write wsX5_write ({ frames := 0, cells := 0, slots := 0, locals := 0 }) (gPc D cI cJ [.ref h_pg, .int p0] [(h_pg, .inr (5, [.ref h_pcd, .int p_length])), (h_pcd, .inl (cI, 40, .inl f_pcd))] sz) (gQz D cI cJ (f_X5_write p_length f_pcd p0) (fun _ _ => True) (fun u : (Int32 × (Nat → Int32)) => [(h_pg, .inr (5, [.ref h_pcd, .int u.1])), (h_pcd, .inl (cI, 40, .inl u.2))]) (va_A [(h_pg, .inr (5, [.ref h_pcd, .int p_length])), (h_pcd, .inl (cI, 40, .inl f_pcd))] sz)) 0 0 (va_A [(h_pg, .inr (5, [.ref h_pcd, .int p_length])), (h_pcd, .inl (cI, 40, .inl f_pcd))] sz) := by
  refine g_met (cc := cX5_write) (maxL := 2) (ret := (some .boolean)) (Qc := gQz D cI cJ (f_X5_write p_length f_pcd p0) _ _) (by decide) rfl (Nat.le_of_ble_eq_true rfl) ?_
  intro A p e s m below meth c hx hb hr hml hts hown hlk hnm hP hK hD hE hA hS ls hl
  have hown : s.vm.findClass RX5 = some m.cls := hown
  have hl : lv_has ls 2 [(0, .ref h_pg), (1, .int p0)] := hl
  have hi5 : ∀ w ∈ u_ws RX5 TX5 2, w ∈ wsX5_write := fun w h9 => List.mem_cons_of_mem _ (List.mem_append_right _ h9)
  have hm1 := hts (.fieldLink RX5 13 "VoltSlopes$Page" "length" "I") (List.mem_of_getElem? (i := 1) rfl)
  have hm2 := hts (.fieldLink RX5 7 "VoltSlopes$Page" "codes" "[I") (List.mem_of_getElem? (i := 2) rfl)
  have hF := f_X5_write.eq_1 p_length f_pcd p0
  refine lv_aload_n hx hb dX5_write_0 rfl (lv_at hl 0 rfl) ?_
  refine va_get (D := D) (ci := 5) (v := .int p_length) (C := RX5) (T := TX5) (N := 2) hx hb hts hi5 hown hK hP 0 rfl rfl 1 (by decide) hm1 (fun _ h9 => h9) rfl dX5_write_1 ?_
  refine lv_if_lt (tgt := 19) hx hb dX5_write_4 (by decide) (fun c_4_1 => ?_) (fun c_4_1 => ?_)
  · have hF := hF.trans (if_pos c_4_1)
    have i_4_1 : p_length.toInt < 0 := gi_lt c_4_1 rfl (by decide)
    refine lv_iconst (v := 0) hx hb dX5_write_19 (by decide) ?_
    exact g_zret false (p_length, f_pcd) hx hb hr hlk hP hK hD hS hF trivial rfl dX5_write_20
  · have hF := hF.trans (if_neg c_4_1)
    have i_4_1 : 0 ≤ p_length.toInt := gi_nlt c_4_1 rfl (by decide)
    refine lv_aload_n hx hb dX5_write_7 rfl (lv_at hl 0 rfl) ?_
    refine va_get (D := D) (ci := 5) (v := .int p_length) (C := RX5) (T := TX5) (N := 2) hx hb hts hi5 hown hK hP 0 rfl rfl 1 (by decide) hm1 (fun _ h9 => h9) rfl dX5_write_8 ?_
    refine lv_aload_n hx hb dX5_write_11 rfl (lv_at hl 0 rfl) ?_
    refine va_get (D := D) (ci := 5) (v := .ref h_pcd) (C := RX5) (T := TX5) (N := 2) hx hb hts hi5 hown hK hP 0 rfl rfl 0 (by decide) hm2 (fun _ h9 => h9) rfl dX5_write_12 ?_
    refine va_alen (v := 40) hx hb hK hP 1 0 rfl rfl rfl dX5_write_15 ?_
    refine lv_icmp_lt (tgt := 21) hx hb dX5_write_16 (by decide) (fun c_16_2 => ?_) (fun c_16_2 => ?_)
    · have hF := hF.trans (if_pos c_16_2)
      have i_16_2 : p_length.toInt < 40 := gi_lt c_16_2 rfl (by decide)
      refine lv_aload_n hx hb dX5_write_21 rfl (lv_at hl 0 rfl) ?_
      refine va_get (D := D) (ci := 5) (v := .ref h_pcd) (C := RX5) (T := TX5) (N := 2) hx hb hts hi5 hown hK hP 0 rfl rfl 0 (by decide) hm2 (fun _ h9 => h9) rfl dX5_write_22 ?_
      refine lv_aload_n hx hb dX5_write_25 rfl (lv_at hl 0 rfl) ?_
      refine va_get (D := D) (ci := 5) (v := .int p_length) (C := RX5) (T := TX5) (N := 2) hx hb hts hi5 hown hK hP 0 rfl rfl 1 (by decide) hm1 (fun _ h9 => h9) rfl dX5_write_26 ?_
      refine lv_iload_n hx hb dX5_write_29 rfl (lv_at hl 1 rfl) ?_
      refine va_iast hx hb hK hP hD hS 1 0 rfl rfl (gi_in ⟨by omega, by omega⟩) dX5_write_30 (fun H locs hP hD hS => ?_)
      obtain ⟨hP, hD⟩ := g_re (ws' := [(h_pg, .inr (5, [.ref h_pcd, .int p_length])), (h_pcd, .inl (cI, 40, .inl (upd f_pcd p_length.toNatClampNeg p0)))]) rfl hP hD
      refine lv_aload_n hx hb dX5_write_31 rfl (lv_at hl 0 rfl) ?_
      refine lv_dup hx hb dX5_write_32 rfl ?_
      refine va_get (D := D) (ci := 5) (v := .int p_length) (C := RX5) (T := TX5) (N := 2) hx hb hts hi5 hown hK hP 0 rfl rfl 1 (by decide) hm1 (fun _ h9 => h9) rfl dX5_write_33 ?_
      refine lv_iconst (v := 1) hx hb dX5_write_36 (by decide) ?_
      refine lv_iadd hx hb dX5_write_37 ?_
      refine va_put (D := D) (ci := 5) (v := .int (p_length + (1 : Int32))) (ty := .int) (C := RX5) (T := TX5) (N := 2) hx hb hts hi5 tyX5 tyX5_ok nmX5 hown hK hP hD hS 0 rfl rfl 1 (by decide) hm1 (fun _ h9 => h9) rfl (by decide +kernel) rfl rfl (Nat.le_of_ble_eq_true rfl) dX5_write_38 (fun H locs hP hD hS => ?_)
      obtain ⟨hP, hD⟩ := g_re (ws' := [(h_pg, .inr (5, [.ref h_pcd, .int (p_length + (1 : Int32))])), (h_pcd, .inl (cI, 40, .inl (upd f_pcd p_length.toNatClampNeg p0)))]) rfl hP hD
      refine lv_iconst (v := 1) hx hb dX5_write_41 (by decide) ?_
      exact g_zret true ((p_length + (1 : Int32)), (upd f_pcd p_length.toNatClampNeg p0)) hx hb hr hlk hP hK hD hS hF trivial rfl dX5_write_42
    · have hF := hF.trans (if_neg c_16_2)
      have i_16_2 : 40 ≤ p_length.toInt := gi_nlt c_16_2 rfl (by decide)
      refine lv_iconst (v := 0) hx hb dX5_write_19 (by decide) ?_
      exact g_zret false (p_length, f_pcd) hx hb hr hlk hP hK hD hS hF trivial rfl dX5_write_20

noncomputable def f_X5_codeAt (p_length : Int32) (f_pcd : Nat → Int32) (p0 : Int32) : (Int32 × Unit) := (if p0 < (0 : Int32) then ((0 : Int32), ()) else (if p_length ≤ p0 then ((0 : Int32), ()) else (if (40 : Int32) ≤ p0 then ((0 : Int32), ()) else ((f_pcd p0.toNatClampNeg), ()))))
set_option maxHeartbeats 4000000 in
set_option maxRecDepth 100000 in
theorem c_X5_codeAt (l : Launch) (D : va_G) (cI cJ : ClassId) (h_pg h_pcd : Nat) (sz : Nat) (p_length : Int32) (f_pcd : Nat → Int32) (p0 : Int32) : Met l yX5_codeAt wsX5_codeAt ({ frames := 0, cells := 0, slots := 0, locals := 0 }) (gPc D cI cJ [.ref h_pg, .int p0] [(h_pg, .inr (5, [.ref h_pcd, .int p_length])), (h_pcd, .inl (cI, 40, .inl f_pcd))] sz) (gQi D cI cJ (f_X5_codeAt p_length f_pcd p0) (fun _ _ => True) (fun _ : Unit => [(h_pg, .inr (5, [.ref h_pcd, .int p_length])), (h_pcd, .inl (cI, 40, .inl f_pcd))]) (va_A [(h_pg, .inr (5, [.ref h_pcd, .int p_length])), (h_pcd, .inl (cI, 40, .inl f_pcd))] sz)) 0 0 (va_A [(h_pg, .inr (5, [.ref h_pcd, .int p_length])), (h_pcd, .inl (cI, 40, .inl f_pcd))] sz) := by
  refine g_met (cc := cX5_codeAt) (maxL := 2) (ret := (some .int)) (Qc := gQi D cI cJ (f_X5_codeAt p_length f_pcd p0) _ _) (by decide) rfl (Nat.le_of_ble_eq_true rfl) ?_
  intro A p e s m below meth c hx hb hr hml hts hown hlk hnm hP hK hD hE hA hS ls hl
  have hown : s.vm.findClass RX5 = some m.cls := hown
  have hl : lv_has ls 2 [(0, .ref h_pg), (1, .int p0)] := hl
  have hi5 : ∀ w ∈ u_ws RX5 TX5 2, w ∈ wsX5_codeAt := fun w h9 => List.mem_cons_of_mem _ (List.mem_append_right _ h9)
  have hm1 := hts (.fieldLink RX5 13 "VoltSlopes$Page" "length" "I") (List.mem_of_getElem? (i := 1) rfl)
  have hm2 := hts (.fieldLink RX5 7 "VoltSlopes$Page" "codes" "[I") (List.mem_of_getElem? (i := 2) rfl)
  have hF := f_X5_codeAt.eq_1 p_length f_pcd p0
  refine lv_iload_n hx hb dX5_codeAt_0 rfl (lv_at hl 1 rfl) ?_
  refine lv_if_lt (tgt := 30) hx hb dX5_codeAt_1 (by decide) (fun c_1_1 => ?_) (fun c_1_1 => ?_)
  · have hF := hF.trans (if_pos c_1_1)
    have i_1_1 : p0.toInt < 0 := gi_lt c_1_1 rfl (by decide)
    refine lv_iconst (v := 0) hx hb dX5_codeAt_30 (by decide) ?_
    exact g_iret () hx hb hr hlk hP hK hD hS hF trivial rfl dX5_codeAt_31
  · have hF := hF.trans (if_neg c_1_1)
    have i_1_1 : 0 ≤ p0.toInt := gi_nlt c_1_1 rfl (by decide)
    refine lv_iload_n hx hb dX5_codeAt_4 rfl (lv_at hl 1 rfl) ?_
    refine lv_aload_n hx hb dX5_codeAt_5 rfl (lv_at hl 0 rfl) ?_
    refine va_get (D := D) (ci := 5) (v := .int p_length) (C := RX5) (T := TX5) (N := 2) hx hb hts hi5 hown hK hP 0 rfl rfl 1 (by decide) hm1 (fun _ h9 => h9) rfl dX5_codeAt_6 ?_
    refine lv_icmp_ge (tgt := 30) hx hb dX5_codeAt_9 (by decide) (fun c_9_2 => ?_) (fun c_9_2 => ?_)
    · have hF := hF.trans (if_pos c_9_2)
      have i_9_2 : p_length.toInt ≤ p0.toInt := gi_le c_9_2 rfl rfl
      refine lv_iconst (v := 0) hx hb dX5_codeAt_30 (by decide) ?_
      exact g_iret () hx hb hr hlk hP hK hD hS hF trivial rfl dX5_codeAt_31
    · have hF := hF.trans (if_neg c_9_2)
      have i_9_2 : p0.toInt < p_length.toInt := gi_nle c_9_2 rfl rfl
      refine lv_iload_n hx hb dX5_codeAt_12 rfl (lv_at hl 1 rfl) ?_
      refine lv_aload_n hx hb dX5_codeAt_13 rfl (lv_at hl 0 rfl) ?_
      refine va_get (D := D) (ci := 5) (v := .ref h_pcd) (C := RX5) (T := TX5) (N := 2) hx hb hts hi5 hown hK hP 0 rfl rfl 0 (by decide) hm2 (fun _ h9 => h9) rfl dX5_codeAt_14 ?_
      refine va_alen (v := 40) hx hb hK hP 1 0 rfl rfl rfl dX5_codeAt_17 ?_
      refine lv_icmp_ge (tgt := 30) hx hb dX5_codeAt_18 (by decide) (fun c_18_3 => ?_) (fun c_18_3 => ?_)
      · have hF := hF.trans (if_pos c_18_3)
        have i_18_3 : 40 ≤ p0.toInt := gi_le c_18_3 (by decide) rfl
        refine lv_iconst (v := 0) hx hb dX5_codeAt_30 (by decide) ?_
        exact g_iret () hx hb hr hlk hP hK hD hS hF trivial rfl dX5_codeAt_31
      · have hF := hF.trans (if_neg c_18_3)
        have i_18_3 : p0.toInt < 40 := gi_nle c_18_3 (by decide) rfl
        refine lv_aload_n hx hb dX5_codeAt_21 rfl (lv_at hl 0 rfl) ?_
        refine va_get (D := D) (ci := 5) (v := .ref h_pcd) (C := RX5) (T := TX5) (N := 2) hx hb hts hi5 hown hK hP 0 rfl rfl 0 (by decide) hm2 (fun _ h9 => h9) rfl dX5_codeAt_22 ?_
        refine lv_iload_n hx hb dX5_codeAt_25 rfl (lv_at hl 1 rfl) ?_
        refine va_iald hx hb hK hP 1 0 rfl rfl (gi_in ⟨by omega, by omega⟩) dX5_codeAt_26 ?_
        refine lv_goto (tgt := 31) hx hb dX5_codeAt_27 (by decide) ?_
        exact g_iret () hx hb hr hlk hP hK hD hS hF trivial rfl dX5_codeAt_31
