noncomputable def f_X3_put (f_lcl : Nat → Int32) (p0 : Int32) (p1 : Int32) (p2 : Int32) : (Nat → Int32) := (if ((p0 * (8 : Int32)) + p1) < (0 : Int32) then f_lcl else (if (96 : Int32) ≤ ((p0 * (8 : Int32)) + p1) then f_lcl else (upd f_lcl ((p0 * (8 : Int32)) + p1).toNatClampNeg p2)))
set_option maxHeartbeats 4000000 in
set_option maxRecDepth 100000 in
theorem c_X3_put (l : Launch) (D : va_G) (cI cJ : ClassId) (h_lg h_lcl : Nat) (sz : Nat) (g_taken : Int32) (g_over : Int32) (f_lcl : Nat → Int32) (p0 : Int32) (p1 : Int32) (p2 : Int32) : Met l yX3_put wsX3_put ({ frames := 0, cells := 0, slots := 0, locals := 0 }) (gPc D cI cJ [.ref h_lg, .int p0, .int p1, .int p2] [(h_lg, .inr (3, [.ref h_lcl, .int g_taken, .int g_over])), (h_lcl, .inl (cI, 96, .inl f_lcl))] sz) (gQv D cI cJ (f_X3_put f_lcl p0 p1 p2) (fun _ => True) (fun u : (Nat → Int32) => [(h_lg, .inr (3, [.ref h_lcl, .int g_taken, .int g_over])), (h_lcl, .inl (cI, 96, .inl u))]) (va_A [(h_lg, .inr (3, [.ref h_lcl, .int g_taken, .int g_over])), (h_lcl, .inl (cI, 96, .inl f_lcl))] sz)) 0 0 (va_A [(h_lg, .inr (3, [.ref h_lcl, .int g_taken, .int g_over])), (h_lcl, .inl (cI, 96, .inl f_lcl))] sz) := by
  refine g_met (cc := cX3_put) (maxL := 5) (ret := none) (Qc := gQv D cI cJ (f_X3_put f_lcl p0 p1 p2) _ _) (by decide) rfl (Nat.le_of_ble_eq_true rfl) ?_
  intro A p e s m below meth c hx hb hr hml hts hown hlk hnm hP hK hD hE hA hS ls hl
  have hown : s.vm.findClass RX3 = some m.cls := hown
  have hl : lv_has ls 5 [(0, .ref h_lg), (1, .int p0), (2, .int p1), (3, .int p2)] := hl
  have hi3 : ∀ w ∈ u_ws RX3 TX3 3, w ∈ wsX3_put := fun w h9 => List.mem_cons_of_mem _ (List.mem_append_right _ h9)
  have hm1 := hts (.fieldLink RX3 11 "VoltSlopes$Log" "cells" "[I") (List.mem_of_getElem? (i := 1) rfl)
  have hF := f_X3_put.eq_1 f_lcl p0 p1 p2
  refine lv_iload_n hx hb dX3_put_0 rfl (lv_at hl 1 rfl) ?_
  refine lv_bipush (v := 8) hx hb dX3_put_1 (by decide) ?_
  refine lv_imul hx hb dX3_put_3 ?_
  refine lv_iload_n hx hb dX3_put_4 rfl (lv_at hl 2 rfl) ?_
  refine lv_iadd hx hb dX3_put_5 ?_
  refine lv_istore (lv' := [(4, .int ((p0 * (8 : Int32)) + p1)), (0, .ref h_lg), (1, .int p0), (2, .int p1), (3, .int p2)]) hx hb dX3_put_6 hl (by decide) rfl (fun ls hl => ?_)
  refine lv_iload hx hb dX3_put_8 (lv_at hl 0 rfl) ?_
  refine lv_if_lt (tgt := 31) hx hb dX3_put_10 (by decide) (fun c_10_1 => ?_) (fun c_10_1 => ?_)
  · have hF := hF.trans (if_pos c_10_1)
    have i_10_1 : ((p0 * (8 : Int32)) + p1).toInt < 0 := gi_lt c_10_1 rfl (by decide)
    exact g_vret f_lcl hx hb hr hlk hP hK hD hS hF trivial rfl dX3_put_31
  · have hF := hF.trans (if_neg c_10_1)
    have i_10_1 : 0 ≤ ((p0 * (8 : Int32)) + p1).toInt := gi_nlt c_10_1 rfl (by decide)
    refine lv_iload hx hb dX3_put_13 (lv_at hl 0 rfl) ?_
    refine lv_aload_n hx hb dX3_put_15 rfl (lv_at hl 1 rfl) ?_
    refine va_get (D := D) (ci := 3) (v := .ref h_lcl) (C := RX3) (T := TX3) (N := 3) hx hb hts hi3 hown hK hP 0 rfl rfl 0 (by decide) hm1 (fun _ h9 => h9) rfl dX3_put_16 ?_
    refine va_alen (v := 96) hx hb hK hP 1 0 rfl rfl rfl dX3_put_19 ?_
    refine lv_icmp_ge (tgt := 31) hx hb dX3_put_20 (by decide) (fun c_20_2 => ?_) (fun c_20_2 => ?_)
    · have hF := hF.trans (if_pos c_20_2)
      have i_20_2 : 96 ≤ ((p0 * (8 : Int32)) + p1).toInt := gi_le c_20_2 (by decide) rfl
      exact g_vret f_lcl hx hb hr hlk hP hK hD hS hF trivial rfl dX3_put_31
    · have hF := hF.trans (if_neg c_20_2)
      have i_20_2 : ((p0 * (8 : Int32)) + p1).toInt < 96 := gi_nle c_20_2 (by decide) rfl
      refine lv_aload_n hx hb dX3_put_23 rfl (lv_at hl 1 rfl) ?_
      refine va_get (D := D) (ci := 3) (v := .ref h_lcl) (C := RX3) (T := TX3) (N := 3) hx hb hts hi3 hown hK hP 0 rfl rfl 0 (by decide) hm1 (fun _ h9 => h9) rfl dX3_put_24 ?_
      refine lv_iload hx hb dX3_put_27 (lv_at hl 0 rfl) ?_
      refine lv_iload_n hx hb dX3_put_29 rfl (lv_at hl 4 rfl) ?_
      refine va_iast hx hb hK hP hD hS 1 0 rfl rfl (gi_in ⟨by omega, by omega⟩) dX3_put_30 (fun H locs hP hD hS => ?_)
      obtain ⟨hP, hD⟩ := g_re (ws' := [(h_lg, .inr (3, [.ref h_lcl, .int g_taken, .int g_over])), (h_lcl, .inl (cI, 96, .inl (upd f_lcl ((p0 * (8 : Int32)) + p1).toNatClampNeg p2)))]) rfl hP hD
      exact g_vret (upd f_lcl ((p0 * (8 : Int32)) + p1).toNatClampNeg p2) hx hb hr hlk hP hK hD hS hF trivial rfl dX3_put_31

noncomputable def f_X3_note (g_taken : Int32) (g_over : Int32) (f_lcl : Nat → Int32) (p0 : Int64) (p1 : Int32) (p2 : Bool) (p3 : Int32) (p4 : Bool) (p5 : Int32) : (Int32 × Int32 × (Nat → Int32)) := (gBind (fun (k_2 : Int32 → (Int32 × Int32 × (Nat → Int32))) => (if p2 = true then (k_2 (g_over + (1 : Int32))) else (k_2 g_over))) (fun lg_over_2 => (match (f_X3_put f_lcl (gRemI g_taken (12 : Int32)) (0 : Int32) (g_taken + (1 : Int32))) with | f_lcl_4 => (match (f_X3_put f_lcl_4 (gRemI g_taken (12 : Int32)) (1 : Int32) (p0 / (1000 : Int64)).toInt32) with | f_lcl_5 => (match (f_X3_put f_lcl_5 (gRemI g_taken (12 : Int32)) (2 : Int32) (gRemL p0 (1000 : Int64)).toInt32) with | f_lcl_6 => (match (f_X3_put f_lcl_6 (gRemI g_taken (12 : Int32)) (3 : Int32) p1) with | f_lcl_7 => (match (f_X9_flag p2) with | (r_85_8, _) => (match (f_X3_put f_lcl_7 (gRemI g_taken (12 : Int32)) (4 : Int32) r_85_8) with | f_lcl_9 => (match (f_X3_put f_lcl_9 (gRemI g_taken (12 : Int32)) (5 : Int32) p3) with | f_lcl_10 => (match (f_X9_flag p4) with | (r_107_11, _) => (match (f_X3_put f_lcl_10 (gRemI g_taken (12 : Int32)) (6 : Int32) r_107_11) with | f_lcl_12 => (match (f_X3_put f_lcl_12 (gRemI g_taken (12 : Int32)) (7 : Int32) p5) with | f_lcl_13 => ((g_taken + (1 : Int32)), lg_over_2, f_lcl_13)))))))))))))
set_option maxHeartbeats 4000000 in
set_option maxRecDepth 100000 in
theorem c_X3_note (l : Launch) (D : va_G) (cI cJ : ClassId) (h_lg h_lcl : Nat) (sz : Nat) (g_taken : Int32) (g_over : Int32) (f_lcl : Nat → Int32) (p0 : Int64) (p1 : Int32) (p2 : Bool) (p3 : Int32) (p4 : Bool) (p5 : Int32) : Met l yX3_note wsX3_note ({ frames := 1, cells := 0, slots := 0, locals := 24 }) (gPc D cI cJ [.ref h_lg, .long p0, .int p1, .int (bI p2), .int p3, .int (bI p4), .int p5] [(h_lg, .inr (3, [.ref h_lcl, .int g_taken, .int g_over])), (h_lcl, .inl (cI, 96, .inl f_lcl))] sz) (gQv D cI cJ (f_X3_note g_taken g_over f_lcl p0 p1 p2 p3 p4 p5) (fun _ => True) (fun u : (Int32 × Int32 × (Nat → Int32)) => [(h_lg, .inr (3, [.ref h_lcl, .int u.1, .int u.2.1])), (h_lcl, .inl (cI, 96, .inl u.2.2))]) (va_A [(h_lg, .inr (3, [.ref h_lcl, .int g_taken, .int g_over])), (h_lcl, .inl (cI, 96, .inl f_lcl))] sz)) 0 0 (va_A [(h_lg, .inr (3, [.ref h_lcl, .int g_taken, .int g_over])), (h_lcl, .inl (cI, 96, .inl f_lcl))] sz) := by
  refine g_met (cc := cX3_note) (maxL := 9) (ret := none) (Qc := gQv D cI cJ (f_X3_note g_taken g_over f_lcl p0 p1 p2 p3 p4 p5) _ _) (by decide) rfl (Nat.le_of_ble_eq_true rfl) ?_
  intro A p e s m below meth c hx hb hr hml hts hown hlk hnm hP hK hD hE hA hS ls hl
  have hown : s.vm.findClass RX3 = some m.cls := hown
  have hl : lv_has ls 9 [(0, .ref h_lg), (1, .long p0), (3, .int p1), (4, .int (bI p2)), (5, .int p3), (6, .int (bI p4)), (7, .int p5)] := hl
  have hi3 : ∀ w ∈ u_ws RX3 TX3 3, w ∈ wsX3_note := fun w h9 => List.mem_cons_of_mem _ (List.mem_append_right _ h9)
  have hm1 := hts (.fieldLink RX3 15 "VoltSlopes$Log" "taken" "I") (List.mem_of_getElem? (i := 1) rfl)
  have hm2 := hts (.fieldLink RX3 19 "VoltSlopes$Log" "over" "I") (List.mem_of_getElem? (i := 2) rfl)
  have hm3 := hts (.constantLong RX3 26 (1000)) (List.mem_of_getElem? (i := 3) rfl)
  have hm10 := hts (.static yX9_flag) (List.mem_of_getElem? (i := 10) rfl)
  have hm11 := hts (.initialized RX9) (List.mem_of_getElem? (i := 11) rfl)
  have hF := f_X3_note.eq_1 g_taken g_over f_lcl p0 p1 p2 p3 p4 p5
  refine lv_aload_n hx hb dX3_note_0 rfl (lv_at hl 0 rfl) ?_
  refine va_get (D := D) (ci := 3) (v := .int g_taken) (C := RX3) (T := TX3) (N := 3) hx hb hts hi3 hown hK hP 0 rfl rfl 1 (by decide) hm1 (fun _ h9 => h9) rfl dX3_note_1 ?_
  refine lv_bipush (v := 12) hx hb dX3_note_4 (by decide) ?_
  refine g_irem hx hb dX3_note_6 (by decide) ?_
  refine lv_istore (lv' := [(8, .int (gRemI g_taken (12 : Int32))), (0, .ref h_lg), (1, .long p0), (3, .int p1), (4, .int (bI p2)), (5, .int p3), (6, .int (bI p4)), (7, .int p5)]) hx hb dX3_note_7 hl (by decide) rfl (fun ls hl => ?_)
  refine lv_aload_n hx hb dX3_note_9 rfl (lv_at hl 1 rfl) ?_
  refine lv_dup hx hb dX3_note_10 rfl ?_
  refine va_get (D := D) (ci := 3) (v := .int g_taken) (C := RX3) (T := TX3) (N := 3) hx hb hts hi3 hown hK hP 0 rfl rfl 1 (by decide) hm1 (fun _ h9 => h9) rfl dX3_note_11 ?_
  refine lv_iconst (v := 1) hx hb dX3_note_14 (by decide) ?_
  refine lv_iadd hx hb dX3_note_15 ?_
  refine va_put (D := D) (ci := 3) (v := .int (g_taken + (1 : Int32))) (ty := .int) (C := RX3) (T := TX3) (N := 3) hx hb hts hi3 tyX3 tyX3_ok nmX3 hown hK hP hD hS 0 rfl rfl 1 (by decide) hm1 (fun _ h9 => h9) rfl (by decide +kernel) rfl rfl (Nat.le_of_ble_eq_true rfl) dX3_note_16 (fun H locs hP hD hS => ?_)
  obtain ⟨hP, hD⟩ := g_re (ws' := [(h_lg, .inr (3, [.ref h_lcl, .int (g_taken + (1 : Int32)), .int g_over])), (h_lcl, .inl (cI, 96, .inl f_lcl))]) rfl hP hD
  refine lv_iload hx hb dX3_note_19 (lv_at hl 4 rfl) ?_
  refine gJoinW (α := Int32) (fun v => [(h_lg, .inr (3, [.ref h_lcl, .int (g_taken + (1 : Int32)), .int v])), (h_lcl, .inl (cI, 96, .inl f_lcl))]) (fun v => [(0, .ref h_lg), (1, .long p0), (3, .int p1), (4, .int (bI p2)), (5, .int p3), (6, .int (bI p4)), (7, .int p5), (8, .int (gRemI g_taken (12 : Int32)))]) 34 (fun v => []) (fun v => True) hF hl hD hP (fun K_2 J_2 hF => ?_) (fun v hj_2 hF => ?_)
  · refine lv_if_eq (tgt := 34) hx hb dX3_note_21 (by decide) (fun c_21_3w => ?_) (fun c_21_3w => ?_)
    · have c_21_3 := bI_f2 c_21_3w
      have hF := hF.trans (if_neg c_21_3)
      exact J_2 g_over (trivial) hF _ _ _ hP hD hS (lv_sub hl [1, 2, 3, 4, 5, 6, 7, 0] rfl)
    · have c_21_3 := bI_t c_21_3w
      have hF := hF.trans (if_pos c_21_3)
      refine lv_aload_n hx hb dX3_note_24 rfl (lv_at hl 1 rfl) ?_
      refine lv_dup hx hb dX3_note_25 rfl ?_
      refine va_get (D := D) (ci := 3) (v := .int g_over) (C := RX3) (T := TX3) (N := 3) hx hb hts hi3 hown hK hP 0 rfl rfl 2 (by decide) hm2 (fun _ h9 => h9) rfl dX3_note_26 ?_
      refine lv_iconst (v := 1) hx hb dX3_note_29 (by decide) ?_
      refine lv_iadd hx hb dX3_note_30 ?_
      refine va_put (D := D) (ci := 3) (v := .int (g_over + (1 : Int32))) (ty := .int) (C := RX3) (T := TX3) (N := 3) hx hb hts hi3 tyX3 tyX3_ok nmX3 hown hK hP hD hS 0 rfl rfl 2 (by decide) hm2 (fun _ h9 => h9) rfl (by decide +kernel) rfl rfl (Nat.le_of_ble_eq_true rfl) dX3_note_31 (fun H locs hP hD hS => ?_)
      obtain ⟨hP, hD⟩ := g_re (ws' := [(h_lg, .inr (3, [.ref h_lcl, .int (g_taken + (1 : Int32)), .int (g_over + (1 : Int32))])), (h_lcl, .inl (cI, 96, .inl f_lcl))]) rfl hP hD
      exact J_2 (g_over + (1 : Int32)) (trivial) hF _ _ _ hP hD hS (lv_sub hl [1, 2, 3, 4, 5, 6, 7, 0] rfl)
  · obtain ⟨lg_over_2, rfl⟩ : ∃ z, z = v := ⟨_, rfl⟩
    intro H locs ls hP hD hS hl
    obtain ⟨hP, hD⟩ := g_re (ws' := [(h_lg, .inr (3, [.ref h_lcl, .int (g_taken + (1 : Int32)), .int lg_over_2])), (h_lcl, .inl (cI, 96, .inl f_lcl))]) rfl hP hD
    have hl : lv_has ls 9 [(0, .ref h_lg), (1, .long p0), (3, .int p1), (4, .int (bI p2)), (5, .int p3), (6, .int (bI p4)), (7, .int p5), (8, .int (gRemI g_taken (12 : Int32)))] := hl
    show W p l e _ s m _ below meth c H locs _ _ _ (F0 m 34 ls [])
    refine lv_aload_n hx hb dX3_note_34 rfl (lv_at hl 0 rfl) ?_
    refine lv_iload hx hb dX3_note_35 (lv_at hl 7 rfl) ?_
    refine lv_iconst (v := 0) hx hb dX3_note_37 (by decide) ?_
    refine lv_aload_n hx hb dX3_note_38 rfl (lv_at hl 0 rfl) ?_
    refine va_get (D := D) (ci := 3) (v := .int (g_taken + (1 : Int32))) (C := RX3) (T := TX3) (N := 3) hx hb hts hi3 hown hK hP 0 rfl rfl 1 (by decide) hm1 (fun _ h9 => h9) rfl dX3_note_39 ?_
    refine g_cvv (rest := []) ⟨hx, hb, hml, hown, hts⟩ hP hD hK hS hA hE (c_X3_put l D cI cJ h_lg h_lcl H.size (g_taken + (1 : Int32)) lg_over_2 f_lcl (gRemI g_taken (12 : Int32)) (0 : Int32) (g_taken + (1 : Int32))) (cwV 3 hts gX3_note_X3_put rfl rfl rfl (by decide +kernel) ⟨Nat.le_of_ble_eq_true rfl, Nat.le_of_ble_eq_true rfl⟩) [0, 1] [] rfl rfl rfl rfl rfl 3 0 rfl rfl rfl hl rfl (Nat.le_of_ble_eq_true rfl) ⟨Nat.zero_le _, Nat.zero_le _⟩ dX3_note_42 (fun u_4 H locs hw_4 hx_4 hP hD hS => ?_)
    obtain ⟨f_lcl_4, rfl⟩ : ∃ z, z = u_4 := ⟨_, rfl⟩
    obtain ⟨hP, hD⟩ := g_re (ws' := [(h_lg, .inr (3, [.ref h_lcl, .int (g_taken + (1 : Int32)), .int lg_over_2])), (h_lcl, .inl (cI, 96, .inl f_lcl_4))]) rfl hP hD
    have hF := hF
    rw [hw_4] at hF
    try dsimp only at hF
    refine lv_aload_n hx hb dX3_note_45 rfl (lv_at hl 0 rfl) ?_
    refine lv_iload hx hb dX3_note_46 (lv_at hl 7 rfl) ?_
    refine lv_iconst (v := 1) hx hb dX3_note_48 (by decide) ?_
    refine lv_lload_n hx hb dX3_note_49 rfl (lv_at hl 1 rfl) ?_
    refine lv_ldc2 hx hb hown hm3 dX3_note_50 ?_
    refine lv_ldiv hx hb dX3_note_53 (by decide) ?_
    refine lv_l2i (v := (p0 / (1000 : Int64)).toInt32) hx hb dX3_note_54 rfl ?_
    refine g_cvv (rest := []) ⟨hx, hb, hml, hown, hts⟩ hP hD hK hS hA hE (c_X3_put l D cI cJ h_lg h_lcl H.size (g_taken + (1 : Int32)) lg_over_2 f_lcl_4 (gRemI g_taken (12 : Int32)) (1 : Int32) (p0 / (1000 : Int64)).toInt32) (cwV 3 hts gX3_note_X3_put rfl rfl rfl (by decide +kernel) ⟨Nat.le_of_ble_eq_true rfl, Nat.le_of_ble_eq_true rfl⟩) [0, 1] [] rfl rfl rfl rfl rfl 3 0 rfl rfl rfl hl rfl (Nat.le_of_ble_eq_true rfl) ⟨Nat.zero_le _, Nat.zero_le _⟩ dX3_note_55 (fun u_5 H locs hw_5 hx_5 hP hD hS => ?_)
    obtain ⟨f_lcl_5, rfl⟩ : ∃ z, z = u_5 := ⟨_, rfl⟩
    obtain ⟨hP, hD⟩ := g_re (ws' := [(h_lg, .inr (3, [.ref h_lcl, .int (g_taken + (1 : Int32)), .int lg_over_2])), (h_lcl, .inl (cI, 96, .inl f_lcl_5))]) rfl hP hD
    have hF := hF
    rw [hw_5] at hF
    try dsimp only at hF
    refine lv_aload_n hx hb dX3_note_58 rfl (lv_at hl 0 rfl) ?_
    refine lv_iload hx hb dX3_note_59 (lv_at hl 7 rfl) ?_
    refine lv_iconst (v := 2) hx hb dX3_note_61 (by decide) ?_
    refine lv_lload_n hx hb dX3_note_62 rfl (lv_at hl 1 rfl) ?_
    refine lv_ldc2 hx hb hown hm3 dX3_note_63 ?_
    refine g_lrem hx hb dX3_note_66 (by decide) ?_
    refine lv_l2i (v := (gRemL p0 (1000 : Int64)).toInt32) hx hb dX3_note_67 rfl ?_
    refine g_cvv (rest := []) ⟨hx, hb, hml, hown, hts⟩ hP hD hK hS hA hE (c_X3_put l D cI cJ h_lg h_lcl H.size (g_taken + (1 : Int32)) lg_over_2 f_lcl_5 (gRemI g_taken (12 : Int32)) (2 : Int32) (gRemL p0 (1000 : Int64)).toInt32) (cwV 3 hts gX3_note_X3_put rfl rfl rfl (by decide +kernel) ⟨Nat.le_of_ble_eq_true rfl, Nat.le_of_ble_eq_true rfl⟩) [0, 1] [] rfl rfl rfl rfl rfl 3 0 rfl rfl rfl hl rfl (Nat.le_of_ble_eq_true rfl) ⟨Nat.zero_le _, Nat.zero_le _⟩ dX3_note_68 (fun u_6 H locs hw_6 hx_6 hP hD hS => ?_)
    obtain ⟨f_lcl_6, rfl⟩ : ∃ z, z = u_6 := ⟨_, rfl⟩
    obtain ⟨hP, hD⟩ := g_re (ws' := [(h_lg, .inr (3, [.ref h_lcl, .int (g_taken + (1 : Int32)), .int lg_over_2])), (h_lcl, .inl (cI, 96, .inl f_lcl_6))]) rfl hP hD
    have hF := hF
    rw [hw_6] at hF
    try dsimp only at hF
    refine lv_aload_n hx hb dX3_note_71 rfl (lv_at hl 0 rfl) ?_
    refine lv_iload hx hb dX3_note_72 (lv_at hl 7 rfl) ?_
    refine lv_iconst (v := 3) hx hb dX3_note_74 (by decide) ?_
    refine lv_iload_n hx hb dX3_note_75 rfl (lv_at hl 2 rfl) ?_
    refine g_cvv (rest := []) ⟨hx, hb, hml, hown, hts⟩ hP hD hK hS hA hE (c_X3_put l D cI cJ h_lg h_lcl H.size (g_taken + (1 : Int32)) lg_over_2 f_lcl_6 (gRemI g_taken (12 : Int32)) (3 : Int32) p1) (cwV 3 hts gX3_note_X3_put rfl rfl rfl (by decide +kernel) ⟨Nat.le_of_ble_eq_true rfl, Nat.le_of_ble_eq_true rfl⟩) [0, 1] [] rfl rfl rfl rfl rfl 3 0 rfl rfl rfl hl rfl (Nat.le_of_ble_eq_true rfl) ⟨Nat.zero_le _, Nat.zero_le _⟩ dX3_note_76 (fun u_7 H locs hw_7 hx_7 hP hD hS => ?_)
    obtain ⟨f_lcl_7, rfl⟩ : ∃ z, z = u_7 := ⟨_, rfl⟩
    obtain ⟨hP, hD⟩ := g_re (ws' := [(h_lg, .inr (3, [.ref h_lcl, .int (g_taken + (1 : Int32)), .int lg_over_2])), (h_lcl, .inl (cI, 96, .inl f_lcl_7))]) rfl hP hD
    have hF := hF
    rw [hw_7] at hF
    try dsimp only at hF
    refine lv_aload_n hx hb dX3_note_79 rfl (lv_at hl 0 rfl) ?_
    refine lv_iload hx hb dX3_note_80 (lv_at hl 7 rfl) ?_
    refine lv_iconst (v := 4) hx hb dX3_note_82 (by decide) ?_
    refine lv_iload hx hb dX3_note_83 (lv_at hl 3 rfl) ?_
    refine g_cni (rest := [.int (4 : Int32), .int (gRemI g_taken (12 : Int32)), .ref h_lg]) ⟨hx, hb, hml, hown, hts⟩ hP hD hK hS hA hE (c_X9_flag l D cI cJ H.size p2) ⟨va_cnB (host := RX9) 1 hts gX3_note_X9_flag_n28 rfl rfl rfl (hE.1 (.methodLinkNest RX3 28 yX9_flag RX9) (List.mem_of_getElem? (i := 9) rfl)) hm11 (by decide +kernel) ⟨Nat.le_of_ble_eq_true rfl, Nat.le_of_ble_eq_true rfl⟩, hm10, trivial⟩ rfl hl rfl (Nat.le_of_ble_eq_true rfl) ⟨Nat.zero_le _, Nat.zero_le _⟩ dX3_note_85 (fun r_85_8 H locs hw_8 hx_8 hP hS => ?_)
    have hF := hF
    rw [hw_8] at hF
    try dsimp only at hF
    refine g_cvv (rest := []) ⟨hx, hb, hml, hown, hts⟩ hP hD hK hS hA hE (c_X3_put l D cI cJ h_lg h_lcl H.size (g_taken + (1 : Int32)) lg_over_2 f_lcl_7 (gRemI g_taken (12 : Int32)) (4 : Int32) r_85_8) (cwV 3 hts gX3_note_X3_put rfl rfl rfl (by decide +kernel) ⟨Nat.le_of_ble_eq_true rfl, Nat.le_of_ble_eq_true rfl⟩) [0, 1] [] rfl rfl rfl rfl rfl 3 0 rfl rfl rfl hl rfl (Nat.le_of_ble_eq_true rfl) ⟨Nat.zero_le _, Nat.zero_le _⟩ dX3_note_88 (fun u_9 H locs hw_9 hx_9 hP hD hS => ?_)
    obtain ⟨f_lcl_9, rfl⟩ : ∃ z, z = u_9 := ⟨_, rfl⟩
    obtain ⟨hP, hD⟩ := g_re (ws' := [(h_lg, .inr (3, [.ref h_lcl, .int (g_taken + (1 : Int32)), .int lg_over_2])), (h_lcl, .inl (cI, 96, .inl f_lcl_9))]) rfl hP hD
    have hF := hF
    rw [hw_9] at hF
    try dsimp only at hF
    refine lv_aload_n hx hb dX3_note_91 rfl (lv_at hl 0 rfl) ?_
    refine lv_iload hx hb dX3_note_92 (lv_at hl 7 rfl) ?_
    refine lv_iconst (v := 5) hx hb dX3_note_94 (by decide) ?_
    refine lv_iload hx hb dX3_note_95 (lv_at hl 4 rfl) ?_
    refine g_cvv (rest := []) ⟨hx, hb, hml, hown, hts⟩ hP hD hK hS hA hE (c_X3_put l D cI cJ h_lg h_lcl H.size (g_taken + (1 : Int32)) lg_over_2 f_lcl_9 (gRemI g_taken (12 : Int32)) (5 : Int32) p3) (cwV 3 hts gX3_note_X3_put rfl rfl rfl (by decide +kernel) ⟨Nat.le_of_ble_eq_true rfl, Nat.le_of_ble_eq_true rfl⟩) [0, 1] [] rfl rfl rfl rfl rfl 3 0 rfl rfl rfl hl rfl (Nat.le_of_ble_eq_true rfl) ⟨Nat.zero_le _, Nat.zero_le _⟩ dX3_note_97 (fun u_10 H locs hw_10 hx_10 hP hD hS => ?_)
    obtain ⟨f_lcl_10, rfl⟩ : ∃ z, z = u_10 := ⟨_, rfl⟩
    obtain ⟨hP, hD⟩ := g_re (ws' := [(h_lg, .inr (3, [.ref h_lcl, .int (g_taken + (1 : Int32)), .int lg_over_2])), (h_lcl, .inl (cI, 96, .inl f_lcl_10))]) rfl hP hD
    have hF := hF
    rw [hw_10] at hF
    try dsimp only at hF
    refine lv_aload_n hx hb dX3_note_100 rfl (lv_at hl 0 rfl) ?_
    refine lv_iload hx hb dX3_note_101 (lv_at hl 7 rfl) ?_
    refine lv_bipush (v := 6) hx hb dX3_note_103 (by decide) ?_
    refine lv_iload hx hb dX3_note_105 (lv_at hl 5 rfl) ?_
    refine g_cni (rest := [.int (6 : Int32), .int (gRemI g_taken (12 : Int32)), .ref h_lg]) ⟨hx, hb, hml, hown, hts⟩ hP hD hK hS hA hE (c_X9_flag l D cI cJ H.size p4) ⟨va_cnB (host := RX9) 1 hts gX3_note_X9_flag_n28 rfl rfl rfl (hE.1 (.methodLinkNest RX3 28 yX9_flag RX9) (List.mem_of_getElem? (i := 9) rfl)) hm11 (by decide +kernel) ⟨Nat.le_of_ble_eq_true rfl, Nat.le_of_ble_eq_true rfl⟩, hm10, trivial⟩ rfl hl rfl (Nat.le_of_ble_eq_true rfl) ⟨Nat.zero_le _, Nat.zero_le _⟩ dX3_note_107 (fun r_107_11 H locs hw_11 hx_11 hP hS => ?_)
    have hF := hF
    rw [hw_11] at hF
    try dsimp only at hF
    refine g_cvv (rest := []) ⟨hx, hb, hml, hown, hts⟩ hP hD hK hS hA hE (c_X3_put l D cI cJ h_lg h_lcl H.size (g_taken + (1 : Int32)) lg_over_2 f_lcl_10 (gRemI g_taken (12 : Int32)) (6 : Int32) r_107_11) (cwV 3 hts gX3_note_X3_put rfl rfl rfl (by decide +kernel) ⟨Nat.le_of_ble_eq_true rfl, Nat.le_of_ble_eq_true rfl⟩) [0, 1] [] rfl rfl rfl rfl rfl 3 0 rfl rfl rfl hl rfl (Nat.le_of_ble_eq_true rfl) ⟨Nat.zero_le _, Nat.zero_le _⟩ dX3_note_110 (fun u_12 H locs hw_12 hx_12 hP hD hS => ?_)
    obtain ⟨f_lcl_12, rfl⟩ : ∃ z, z = u_12 := ⟨_, rfl⟩
    obtain ⟨hP, hD⟩ := g_re (ws' := [(h_lg, .inr (3, [.ref h_lcl, .int (g_taken + (1 : Int32)), .int lg_over_2])), (h_lcl, .inl (cI, 96, .inl f_lcl_12))]) rfl hP hD
    have hF := hF
    rw [hw_12] at hF
    try dsimp only at hF
    refine lv_aload_n hx hb dX3_note_113 rfl (lv_at hl 0 rfl) ?_
    refine lv_iload hx hb dX3_note_114 (lv_at hl 7 rfl) ?_
    refine lv_bipush (v := 7) hx hb dX3_note_116 (by decide) ?_
    refine lv_iload hx hb dX3_note_118 (lv_at hl 6 rfl) ?_
    refine g_cvv (rest := []) ⟨hx, hb, hml, hown, hts⟩ hP hD hK hS hA hE (c_X3_put l D cI cJ h_lg h_lcl H.size (g_taken + (1 : Int32)) lg_over_2 f_lcl_12 (gRemI g_taken (12 : Int32)) (7 : Int32) p5) (cwV 3 hts gX3_note_X3_put rfl rfl rfl (by decide +kernel) ⟨Nat.le_of_ble_eq_true rfl, Nat.le_of_ble_eq_true rfl⟩) [0, 1] [] rfl rfl rfl rfl rfl 3 0 rfl rfl rfl hl rfl (Nat.le_of_ble_eq_true rfl) ⟨Nat.zero_le _, Nat.zero_le _⟩ dX3_note_120 (fun u_13 H locs hw_13 hx_13 hP hD hS => ?_)
    obtain ⟨f_lcl_13, rfl⟩ : ∃ z, z = u_13 := ⟨_, rfl⟩
    obtain ⟨hP, hD⟩ := g_re (ws' := [(h_lg, .inr (3, [.ref h_lcl, .int (g_taken + (1 : Int32)), .int lg_over_2])), (h_lcl, .inl (cI, 96, .inl f_lcl_13))]) rfl hP hD
    have hF := hF
    rw [hw_13] at hF
    try dsimp only at hF
    exact g_vret ((g_taken + (1 : Int32)), lg_over_2, f_lcl_13) hx hb hr hlk hP hK hD hS hF trivial rfl dX3_note_123

noncomputable def f_X3_kept (g_taken : Int32) : (Int32 × Unit) := ((gMinI g_taken (12 : Int32)), ())
set_option maxHeartbeats 4000000 in
set_option maxRecDepth 100000 in
theorem c_X3_kept (l : Launch) (D : va_G) (cI cJ : ClassId) (h_lg h_lcl : Nat) (sz : Nat) (g_taken : Int32) (g_over : Int32) (f_lcl : Nat → Int32) : Met l yX3_kept wsX3_kept ({ frames := 1, cells := 0, slots := 0, locals := 13 }) (gPc D cI cJ [.ref h_lg] [(h_lg, .inr (3, [.ref h_lcl, .int g_taken, .int g_over])), (h_lcl, .inl (cI, 96, .inl f_lcl))] sz) (gQi D cI cJ (f_X3_kept g_taken) (fun _ _ => True) (fun _ : Unit => [(h_lg, .inr (3, [.ref h_lcl, .int g_taken, .int g_over])), (h_lcl, .inl (cI, 96, .inl f_lcl))]) (va_A [(h_lg, .inr (3, [.ref h_lcl, .int g_taken, .int g_over])), (h_lcl, .inl (cI, 96, .inl f_lcl))] sz)) 0 0 (va_A [(h_lg, .inr (3, [.ref h_lcl, .int g_taken, .int g_over])), (h_lcl, .inl (cI, 96, .inl f_lcl))] sz) := by
  refine g_met (cc := cX3_kept) (maxL := 1) (ret := (some .int)) (Qc := gQi D cI cJ (f_X3_kept g_taken) _ _) (by decide) rfl (Nat.le_of_ble_eq_true rfl) ?_
  intro A p e s m below meth c hx hb hr hml hts hown hlk hnm hP hK hD hE hA hS ls hl
  have hown : s.vm.findClass RX3 = some m.cls := hown
  have hl : lv_has ls 1 [(0, .ref h_lg)] := hl
  have hi3 : ∀ w ∈ u_ws RX3 TX3 3, w ∈ wsX3_kept := fun w h9 => List.mem_cons_of_mem _ (List.mem_append_right _ h9)
  have hm1 := hts (.fieldLink RX3 15 "VoltSlopes$Log" "taken" "I") (List.mem_of_getElem? (i := 1) rfl)
  have hm2 := hts (.methodLink RX3 32 Lib.Math.min.name) (List.mem_of_getElem? (i := 2) rfl)
  have hm3 := hts (.static Lib.Math.min.name) (List.mem_of_getElem? (i := 3) rfl)
  have hm4 := hts (.initialized "java/lang/Math") (List.mem_of_getElem? (i := 4) rfl)
  have hm5 := hts (.code Lib.Math.min.name Lib.Math.min.code 2 (some .int)) (List.mem_of_getElem? (i := 5) rfl)
  have hF := f_X3_kept.eq_1 g_taken
  refine lv_aload_n hx hb dX3_kept_0 rfl (lv_at hl 0 rfl) ?_
  refine va_get (D := D) (ci := 3) (v := .int g_taken) (C := RX3) (T := TX3) (N := 3) hx hb hts hi3 hown hK hP 0 rfl rfl 1 (by decide) hm1 (fun _ h9 => h9) rfl dX3_kept_1 ?_
  refine lv_bipush (v := 12) hx hb dX3_kept_4 (by decide) ?_
  refine va_mmin hx hb (by rw [hml]; exact hl.1.symm) hown hm2 hm3 hm4 hm5 (Nat.le_of_ble_eq_true rfl) (Nat.le_of_ble_eq_true rfl) (Nat.zero_le _) (Nat.zero_le _) dX3_kept_6 ?_
  refine W.eq (g2 := F0 m 9 ls [.int (gMinI g_taken (12 : Int32))]) rfl ?_
  exact g_iret () hx hb hr hlk hP hK hD hS hF trivial rfl dX3_kept_9

noncomputable def f_X3_part (g_taken : Int32) (f_lcl : Nat → Int32) (p0 : Int32) (p1 : Int32) : (Int32 × Unit) := (if (((gRemI ((g_taken - (1 : Int32)) - p0) (12 : Int32)) * (8 : Int32)) + p1) < (0 : Int32) then ((-1000000001 : Int32), ()) else (if (96 : Int32) ≤ (((gRemI ((g_taken - (1 : Int32)) - p0) (12 : Int32)) * (8 : Int32)) + p1) then ((-1000000001 : Int32), ()) else ((f_lcl (((gRemI ((g_taken - (1 : Int32)) - p0) (12 : Int32)) * (8 : Int32)) + p1).toNatClampNeg), ())))
set_option maxHeartbeats 4000000 in
set_option maxRecDepth 100000 in
theorem c_X3_part (l : Launch) (D : va_G) (cI cJ : ClassId) (h_lg h_lcl : Nat) (sz : Nat) (g_taken : Int32) (g_over : Int32) (f_lcl : Nat → Int32) (p0 : Int32) (p1 : Int32) : Met l yX3_part wsX3_part ({ frames := 0, cells := 0, slots := 0, locals := 0 }) (gPc D cI cJ [.ref h_lg, .int p0, .int p1] [(h_lg, .inr (3, [.ref h_lcl, .int g_taken, .int g_over])), (h_lcl, .inl (cI, 96, .inl f_lcl))] sz) (gQi D cI cJ (f_X3_part g_taken f_lcl p0 p1) (fun _ _ => True) (fun _ : Unit => [(h_lg, .inr (3, [.ref h_lcl, .int g_taken, .int g_over])), (h_lcl, .inl (cI, 96, .inl f_lcl))]) (va_A [(h_lg, .inr (3, [.ref h_lcl, .int g_taken, .int g_over])), (h_lcl, .inl (cI, 96, .inl f_lcl))] sz)) 0 0 (va_A [(h_lg, .inr (3, [.ref h_lcl, .int g_taken, .int g_over])), (h_lcl, .inl (cI, 96, .inl f_lcl))] sz) := by
  refine g_met (cc := cX3_part) (maxL := 4) (ret := (some .int)) (Qc := gQi D cI cJ (f_X3_part g_taken f_lcl p0 p1) _ _) (by decide) rfl (Nat.le_of_ble_eq_true rfl) ?_
  intro A p e s m below meth c hx hb hr hml hts hown hlk hnm hP hK hD hE hA hS ls hl
  have hown : s.vm.findClass RX3 = some m.cls := hown
  have hl : lv_has ls 4 [(0, .ref h_lg), (1, .int p0), (2, .int p1)] := hl
  have hi3 : ∀ w ∈ u_ws RX3 TX3 3, w ∈ wsX3_part := fun w h9 => List.mem_cons_of_mem _ (List.mem_append_right _ h9)
  have hm1 := hts (.fieldLink RX3 15 "VoltSlopes$Log" "taken" "I") (List.mem_of_getElem? (i := 1) rfl)
  have hm2 := hts (.fieldLink RX3 11 "VoltSlopes$Log" "cells" "[I") (List.mem_of_getElem? (i := 2) rfl)
  have hm3 := hts (.constant RX3 38 (-1000000001)) (List.mem_of_getElem? (i := 3) rfl)
  have hF := f_X3_part.eq_1 g_taken f_lcl p0 p1
  refine lv_aload_n hx hb dX3_part_0 rfl (lv_at hl 0 rfl) ?_
  refine va_get (D := D) (ci := 3) (v := .int g_taken) (C := RX3) (T := TX3) (N := 3) hx hb hts hi3 hown hK hP 0 rfl rfl 1 (by decide) hm1 (fun _ h9 => h9) rfl dX3_part_1 ?_
  refine lv_iconst (v := 1) hx hb dX3_part_4 (by decide) ?_
  refine lv_isub hx hb dX3_part_5 ?_
  refine lv_iload_n hx hb dX3_part_6 rfl (lv_at hl 1 rfl) ?_
  refine lv_isub hx hb dX3_part_7 ?_
  refine lv_bipush (v := 12) hx hb dX3_part_8 (by decide) ?_
  refine g_irem hx hb dX3_part_10 (by decide) ?_
  refine lv_bipush (v := 8) hx hb dX3_part_11 (by decide) ?_
  refine lv_imul hx hb dX3_part_13 ?_
  refine lv_iload_n hx hb dX3_part_14 rfl (lv_at hl 2 rfl) ?_
  refine lv_iadd hx hb dX3_part_15 ?_
  refine lv_istore_n (lv' := [(3, .int (((gRemI ((g_taken - (1 : Int32)) - p0) (12 : Int32)) * (8 : Int32)) + p1)), (0, .ref h_lg), (1, .int p0), (2, .int p1)]) hx hb dX3_part_16 rfl hl (by decide) rfl (fun ls hl => ?_)
  refine lv_iload_n hx hb dX3_part_17 rfl (lv_at hl 0 rfl) ?_
  refine lv_if_lt (tgt := 39) hx hb dX3_part_18 (by decide) (fun c_18_1 => ?_) (fun c_18_1 => ?_)
  · have hF := hF.trans (if_pos c_18_1)
    have i_18_1 : (((gRemI ((g_taken - (1 : Int32)) - p0) (12 : Int32)) * (8 : Int32)) + p1).toInt < 0 := gi_lt c_18_1 rfl (by decide)
    refine lv_ldc hx hb hown hm3 dX3_part_39 ?_
    exact g_iret () hx hb hr hlk hP hK hD hS hF trivial rfl dX3_part_41
  · have hF := hF.trans (if_neg c_18_1)
    have i_18_1 : 0 ≤ (((gRemI ((g_taken - (1 : Int32)) - p0) (12 : Int32)) * (8 : Int32)) + p1).toInt := gi_nlt c_18_1 rfl (by decide)
    refine lv_iload_n hx hb dX3_part_21 rfl (lv_at hl 0 rfl) ?_
    refine lv_aload_n hx hb dX3_part_22 rfl (lv_at hl 1 rfl) ?_
    refine va_get (D := D) (ci := 3) (v := .ref h_lcl) (C := RX3) (T := TX3) (N := 3) hx hb hts hi3 hown hK hP 0 rfl rfl 0 (by decide) hm2 (fun _ h9 => h9) rfl dX3_part_23 ?_
    refine va_alen (v := 96) hx hb hK hP 1 0 rfl rfl rfl dX3_part_26 ?_
    refine lv_icmp_ge (tgt := 39) hx hb dX3_part_27 (by decide) (fun c_27_2 => ?_) (fun c_27_2 => ?_)
    · have hF := hF.trans (if_pos c_27_2)
      have i_27_2 : 96 ≤ (((gRemI ((g_taken - (1 : Int32)) - p0) (12 : Int32)) * (8 : Int32)) + p1).toInt := gi_le c_27_2 (by decide) rfl
      refine lv_ldc hx hb hown hm3 dX3_part_39 ?_
      exact g_iret () hx hb hr hlk hP hK hD hS hF trivial rfl dX3_part_41
    · have hF := hF.trans (if_neg c_27_2)
      have i_27_2 : (((gRemI ((g_taken - (1 : Int32)) - p0) (12 : Int32)) * (8 : Int32)) + p1).toInt < 96 := gi_nle c_27_2 (by decide) rfl
      refine lv_aload_n hx hb dX3_part_30 rfl (lv_at hl 1 rfl) ?_
      refine va_get (D := D) (ci := 3) (v := .ref h_lcl) (C := RX3) (T := TX3) (N := 3) hx hb hts hi3 hown hK hP 0 rfl rfl 0 (by decide) hm2 (fun _ h9 => h9) rfl dX3_part_31 ?_
      refine lv_iload_n hx hb dX3_part_34 rfl (lv_at hl 0 rfl) ?_
      refine va_iald hx hb hK hP 1 0 rfl rfl (gi_in ⟨by omega, by omega⟩) dX3_part_35 ?_
      refine lv_goto (tgt := 41) hx hb dX3_part_36 (by decide) ?_
      exact g_iret () hx hb hr hlk hP hK hD hS hF trivial rfl dX3_part_41
