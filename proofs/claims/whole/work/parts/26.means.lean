noncomputable def f_X4_valueAt (m_size : Int32) (f_vals : Nat → Int64) (p0 : Int32) : (Int64 × Unit) := (if p0 < (0 : Int32) then ((0 : Int64), ()) else (if m_size ≤ p0 then ((0 : Int64), ()) else (if (16 : Int32) ≤ p0 then ((0 : Int64), ()) else ((f_vals p0.toNatClampNeg), ()))))
set_option maxHeartbeats 4000000 in
set_option maxRecDepth 100000 in
theorem c_X4_valueAt (l : Launch) (D : va_G) (cI cJ : ClassId) (h_mn h_vals : Nat) (sz : Nat) (m_size : Int32) (m_most : Int32) (m_window : Int32) (m_jumps : Int32) (f_vals : Nat → Int64) (p0 : Int32) : Met l yX4_valueAt wsX4_valueAt ({ frames := 0, cells := 0, slots := 0, locals := 0 }) (gPc D cI cJ [.ref h_mn, .int p0] [(h_mn, .inr (4, [.ref h_vals, .int m_size, .int m_most, .int m_window, .int m_jumps])), (h_vals, .inl (cJ, 16, .inr (.inl f_vals)))] sz) (gQl D cI cJ (f_X4_valueAt m_size f_vals p0) (fun _ _ => True) (fun _ : Unit => [(h_mn, .inr (4, [.ref h_vals, .int m_size, .int m_most, .int m_window, .int m_jumps])), (h_vals, .inl (cJ, 16, .inr (.inl f_vals)))]) (va_A [(h_mn, .inr (4, [.ref h_vals, .int m_size, .int m_most, .int m_window, .int m_jumps])), (h_vals, .inl (cJ, 16, .inr (.inl f_vals)))] sz)) 0 0 (va_A [(h_mn, .inr (4, [.ref h_vals, .int m_size, .int m_most, .int m_window, .int m_jumps])), (h_vals, .inl (cJ, 16, .inr (.inl f_vals)))] sz) := by
  refine g_met (cc := cX4_valueAt) (maxL := 2) (ret := (some .long)) (Qc := gQl D cI cJ (f_X4_valueAt m_size f_vals p0) _ _) (by decide) rfl (Nat.le_of_ble_eq_true rfl) ?_
  intro A p e s m below meth c hx hb hr hml hts hown hlk hnm hP hK hD hE hA hS ls hl
  have hown : s.vm.findClass RX4 = some m.cls := hown
  have hl : lv_has ls 2 [(0, .ref h_mn), (1, .int p0)] := hl
  have hi4 : ∀ w ∈ u_ws RX4 TX4 5, w ∈ wsX4_valueAt := fun w h9 => List.mem_cons_of_mem _ (List.mem_append_right _ h9)
  have hm1 := hts (.fieldLink RX4 15 "VoltSlopes$Means" "size" "I") (List.mem_of_getElem? (i := 1) rfl)
  have hm2 := hts (.fieldLink RX4 9 "VoltSlopes$Means" "values" "[J") (List.mem_of_getElem? (i := 2) rfl)
  have hF := f_X4_valueAt.eq_1 m_size f_vals p0
  refine lv_iload_n hx hb dX4_valueAt_0 rfl (lv_at hl 1 rfl) ?_
  refine lv_if_lt (tgt := 30) hx hb dX4_valueAt_1 (by decide) (fun c_1_1 => ?_) (fun c_1_1 => ?_)
  · have hF := hF.trans (if_pos c_1_1)
    have i_1_1 : p0.toInt < 0 := gi_lt c_1_1 rfl (by decide)
    refine lv_lconst (v := 0) hx hb dX4_valueAt_30 (by decide) ?_
    exact g_lret () hx hb hr hlk hP hK hD hS hF trivial rfl dX4_valueAt_31
  · have hF := hF.trans (if_neg c_1_1)
    have i_1_1 : 0 ≤ p0.toInt := gi_nlt c_1_1 rfl (by decide)
    refine lv_iload_n hx hb dX4_valueAt_4 rfl (lv_at hl 1 rfl) ?_
    refine lv_aload_n hx hb dX4_valueAt_5 rfl (lv_at hl 0 rfl) ?_
    refine va_get (D := D) (ci := 4) (v := .int m_size) (C := RX4) (T := TX4) (N := 5) hx hb hts hi4 hown hK hP 0 rfl rfl 1 (by decide) hm1 (fun _ h9 => h9) rfl dX4_valueAt_6 ?_
    refine lv_icmp_ge (tgt := 30) hx hb dX4_valueAt_9 (by decide) (fun c_9_2 => ?_) (fun c_9_2 => ?_)
    · have hF := hF.trans (if_pos c_9_2)
      have i_9_2 : m_size.toInt ≤ p0.toInt := gi_le c_9_2 rfl rfl
      refine lv_lconst (v := 0) hx hb dX4_valueAt_30 (by decide) ?_
      exact g_lret () hx hb hr hlk hP hK hD hS hF trivial rfl dX4_valueAt_31
    · have hF := hF.trans (if_neg c_9_2)
      have i_9_2 : p0.toInt < m_size.toInt := gi_nle c_9_2 rfl rfl
      refine lv_iload_n hx hb dX4_valueAt_12 rfl (lv_at hl 1 rfl) ?_
      refine lv_aload_n hx hb dX4_valueAt_13 rfl (lv_at hl 0 rfl) ?_
      refine va_get (D := D) (ci := 4) (v := .ref h_vals) (C := RX4) (T := TX4) (N := 5) hx hb hts hi4 hown hK hP 0 rfl rfl 0 (by decide) hm2 (fun _ h9 => h9) rfl dX4_valueAt_14 ?_
      refine va_alen (v := 16) hx hb hK hP 1 1 rfl rfl rfl dX4_valueAt_17 ?_
      refine lv_icmp_ge (tgt := 30) hx hb dX4_valueAt_18 (by decide) (fun c_18_3 => ?_) (fun c_18_3 => ?_)
      · have hF := hF.trans (if_pos c_18_3)
        have i_18_3 : 16 ≤ p0.toInt := gi_le c_18_3 (by decide) rfl
        refine lv_lconst (v := 0) hx hb dX4_valueAt_30 (by decide) ?_
        exact g_lret () hx hb hr hlk hP hK hD hS hF trivial rfl dX4_valueAt_31
      · have hF := hF.trans (if_neg c_18_3)
        have i_18_3 : p0.toInt < 16 := gi_nle c_18_3 (by decide) rfl
        refine lv_aload_n hx hb dX4_valueAt_21 rfl (lv_at hl 0 rfl) ?_
        refine va_get (D := D) (ci := 4) (v := .ref h_vals) (C := RX4) (T := TX4) (N := 5) hx hb hts hi4 hown hK hP 0 rfl rfl 0 (by decide) hm2 (fun _ h9 => h9) rfl dX4_valueAt_22 ?_
        refine lv_iload_n hx hb dX4_valueAt_25 rfl (lv_at hl 1 rfl) ?_
        refine va_lald hx hb hK hP 1 1 rfl rfl (gi_in ⟨by omega, by omega⟩) dX4_valueAt_26 ?_
        refine lv_goto (tgt := 31) hx hb dX4_valueAt_27 (by decide) ?_
        exact g_lret () hx hb hr hlk hP hK hD hS hF trivial rfl dX4_valueAt_31

noncomputable def f_X4_shown_L13 (m_size : Int32) (f_vals : Nat → Int64) (K : Int64 → (Int64 × Unit)) : Nat → (Int64 × Int32) → (Int64 × Unit)
  | 0, _ => K default
  | n + 1, (l1_6, l3_6) => (if m_size ≤ l3_6 then (K l1_6) else (match (f_X4_valueAt m_size f_vals l3_6) with | (r_24_9, _) => (f_X4_shown_L13 m_size f_vals K n ((l1_6 + r_24_9), (l3_6 + 1)))))
noncomputable def f_X4_shown (m_size : Int32) (f_vals : Nat → Int64) : (Int64 × Unit) := (if (0 : Int32) < m_size then (f_X4_shown_L13 m_size f_vals (fun l1_7 => ((l1_7 / m_size.toInt64), ())) (((m_size).toInt.toNat + 1)) ((0 : Int64), (0 : Int32))) else ((0 : Int64), ()))
set_option maxHeartbeats 4000000 in
set_option maxRecDepth 100000 in
theorem c_X4_shown (l : Launch) (D : va_G) (cI cJ : ClassId) (h_mn h_vals : Nat) (sz : Nat) (m_size : Int32) (m_most : Int32) (m_window : Int32) (m_jumps : Int32) (f_vals : Nat → Int64) : Met l yX4_shown wsX4_shown ({ frames := 1, cells := 0, slots := 0, locals := 21 }) (gPc D cI cJ [.ref h_mn] [(h_mn, .inr (4, [.ref h_vals, .int m_size, .int m_most, .int m_window, .int m_jumps])), (h_vals, .inl (cJ, 16, .inr (.inl f_vals)))] sz) (gQl D cI cJ (f_X4_shown m_size f_vals) (fun _ _ => True) (fun _ : Unit => [(h_mn, .inr (4, [.ref h_vals, .int m_size, .int m_most, .int m_window, .int m_jumps])), (h_vals, .inl (cJ, 16, .inr (.inl f_vals)))]) (va_A [(h_mn, .inr (4, [.ref h_vals, .int m_size, .int m_most, .int m_window, .int m_jumps])), (h_vals, .inl (cJ, 16, .inr (.inl f_vals)))] sz)) 0 0 (va_A [(h_mn, .inr (4, [.ref h_vals, .int m_size, .int m_most, .int m_window, .int m_jumps])), (h_vals, .inl (cJ, 16, .inr (.inl f_vals)))] sz) := by
  refine g_met (cc := cX4_shown) (maxL := 4) (ret := (some .long)) (Qc := gQl D cI cJ (f_X4_shown m_size f_vals) _ _) (by decide) rfl (Nat.le_of_ble_eq_true rfl) ?_
  intro A p e s m below meth c hx hb hr hml hts hown hlk hnm hP hK hD hE hA hS ls hl
  have hown : s.vm.findClass RX4 = some m.cls := hown
  have hl : lv_has ls 4 [(0, .ref h_mn)] := hl
  have hi4 : ∀ w ∈ u_ws RX4 TX4 5, w ∈ wsX4_shown := fun w h9 => List.mem_cons_of_mem _ (List.mem_append_right _ h9)
  have hm1 := hts (.fieldLink RX4 15 "VoltSlopes$Means" "size" "I") (List.mem_of_getElem? (i := 1) rfl)
  have hF := f_X4_shown.eq_1 m_size f_vals
  refine lv_aload_n hx hb dX4_shown_0 rfl (lv_at hl 0 rfl) ?_
  refine va_get (D := D) (ci := 4) (v := .int m_size) (C := RX4) (T := TX4) (N := 5) hx hb hts hi4 hown hK hP 0 rfl rfl 1 (by decide) hm1 (fun _ h9 => h9) rfl dX4_shown_1 ?_
  refine lv_if_gt (tgt := 9) hx hb dX4_shown_4 (by decide) (fun c_4_1 => ?_) (fun c_4_1 => ?_)
  · have hF := hF.trans (if_pos c_4_1)
    have i_4_1 : 0 < m_size.toInt := gi_lt c_4_1 (by decide) rfl
    refine lv_lconst (v := 0) hx hb dX4_shown_9 (by decide) ?_
    refine lv_lstore_n (lv' := [(1, .long (0 : Int64)), (0, .ref h_mn)]) hx hb dX4_shown_10 rfl hl (by decide) rfl (fun ls hl => ?_)
    refine lv_iconst (v := 0) hx hb dX4_shown_11 (by decide) ?_
    refine lv_istore_n (lv' := [(3, .int (0 : Int32)), (1, .long (0 : Int64)), (0, .ref h_mn)]) hx hb dX4_shown_12 rfl hl (by decide) rfl (fun ls hl => ?_)
    refine gLoopW (f := (f_X4_shown_L13 m_size f_vals)) (α := (Int64 × Int32)) (β := Int64) (fun v => [(h_mn, .inr (4, [.ref h_vals, .int m_size, .int m_most, .int m_window, .int m_jumps])), (h_vals, .inl (cJ, 16, .inr (.inl f_vals)))]) (fun v => [(0, .ref h_mn), (1, .long v.1), (3, .int v.2)]) 13 (fun v => [(h_mn, .inr (4, [.ref h_vals, .int m_size, .int m_most, .int m_window, .int m_jumps])), (h_vals, .inl (cJ, 16, .inr (.inl f_vals)))]) (fun v => [(0, .ref h_mn), (1, .long v)]) 35 (fun v => True) (fun v => 0 ≤ (v.2).toInt) (fun v => ((m_size).toInt - (v.2).toInt).toNat) (a0 := ((0 : Int64), (0 : Int32))) hF (by show 0 ≤ (((0 : Int32))).toInt; have h7 : (0 : Int32).toInt = 0 := (by decide); omega) (by show ((m_size).toInt - (((0 : Int32))).toInt).toNat < ((m_size).toInt.toNat + 1); have h7 : (0 : Int32).toInt = 0 := (by decide); omega) hP hD hS (lv_sub hl [2, 1, 0] rfl) (fun v hxi_6 hF => ?_) (fun K_6 n JX_6 IH_6 v hi_6 hmu_6 hF => ?_)
    · obtain ⟨l1_7, rfl⟩ : ∃ z, z = v := ⟨_, rfl⟩
      intro H locs ls hP hD hS hl
      obtain ⟨hP, hD⟩ := g_re (ws' := [(h_mn, .inr (4, [.ref h_vals, .int m_size, .int m_most, .int m_window, .int m_jumps])), (h_vals, .inl (cJ, 16, .inr (.inl f_vals)))]) rfl hP hD
      have hl : lv_has ls 4 [(0, .ref h_mn), (1, .long l1_7)] := hl
      show W p l e _ s m _ below meth c H locs _ _ _ (F0 m 35 ls [])
      refine lv_lload_n hx hb dX4_shown_35 rfl (lv_at hl 1 rfl) ?_
      refine lv_aload_n hx hb dX4_shown_36 rfl (lv_at hl 0 rfl) ?_
      refine va_get (D := D) (ci := 4) (v := .int m_size) (C := RX4) (T := TX4) (N := 5) hx hb hts hi4 hown hK hP 0 rfl rfl 1 (by decide) hm1 (fun _ h9 => h9) rfl dX4_shown_37 ?_
      refine lv_i2l (v := m_size.toInt64) hx hb dX4_shown_40 rfl ?_
      refine lv_ldiv hx hb dX4_shown_41 (ne_i2l0 (by intro q; have h9 : m_size.toInt = 0 := gi_eq q rfl (by decide); omega)) ?_
      exact g_lret () hx hb hr hlk hP hK hD hS hF trivial rfl dX4_shown_42
    · obtain ⟨l1_6, l3_6⟩ := v
      intro H locs ls hP hD hS hl
      have hF := hF
      rw [f_X4_shown_L13] at hF
      obtain ⟨hP, hD⟩ := g_re (ws' := [(h_mn, .inr (4, [.ref h_vals, .int m_size, .int m_most, .int m_window, .int m_jumps])), (h_vals, .inl (cJ, 16, .inr (.inl f_vals)))]) rfl hP hD
      have hl : lv_has ls 4 [(0, .ref h_mn), (1, .long l1_6), (3, .int l3_6)] := hl
      show W p l e _ s m _ below meth c H locs _ _ _ (F0 m 13 ls [])
      have hi_6 : 0 ≤ (l3_6).toInt := hi_6
      have hmu_6 : ((m_size).toInt - (l3_6).toInt).toNat < n + 1 := hmu_6
      refine lv_iload_n hx hb dX4_shown_13 rfl (lv_at hl 2 rfl) ?_
      refine lv_aload_n hx hb dX4_shown_14 rfl (lv_at hl 0 rfl) ?_
      refine va_get (D := D) (ci := 4) (v := .int m_size) (C := RX4) (T := TX4) (N := 5) hx hb hts hi4 hown hK hP 0 rfl rfl 1 (by decide) hm1 (fun _ h9 => h9) rfl dX4_shown_15 ?_
      refine lv_icmp_ge (tgt := 35) hx hb dX4_shown_18 (by decide) (fun c_18_8 => ?_) (fun c_18_8 => ?_)
      · have hF := hF.trans (if_pos c_18_8)
        have i_18_8 : m_size.toInt ≤ l3_6.toInt := gi_le c_18_8 rfl rfl
        exact JX_6 l1_6 (trivial) hF _ _ _ hP hD hS (lv_sub hl [0, 1] rfl)
      · have hF := hF.trans (if_neg c_18_8)
        have i_18_8 : l3_6.toInt < m_size.toInt := gi_nle c_18_8 rfl rfl
        refine lv_lload_n hx hb dX4_shown_21 rfl (lv_at hl 1 rfl) ?_
        refine lv_aload_n hx hb dX4_shown_22 rfl (lv_at hl 0 rfl) ?_
        refine lv_iload_n hx hb dX4_shown_23 rfl (lv_at hl 2 rfl) ?_
        refine g_cvl (rest := [.long l1_6]) ⟨hx, hb, hml, hown, hts⟩ hP hD hK hS hA hE (c_X4_valueAt l D cI cJ h_mn h_vals H.size m_size m_most m_window m_jumps f_vals l3_6) (cwV 1 hts gX4_shown_X4_valueAt rfl rfl rfl (by decide +kernel) ⟨Nat.le_of_ble_eq_true rfl, Nat.le_of_ble_eq_true rfl⟩) [0, 1] [] rfl rfl rfl rfl rfl 4 0 rfl rfl rfl hl rfl (Nat.le_of_ble_eq_true rfl) ⟨Nat.zero_le _, Nat.zero_le _⟩ dX4_shown_24 (fun r_24_9 u_9 H locs hw_9 hx_9 hP hD hS => ?_)
        obtain ⟨hP, hD⟩ := g_re (ws' := [(h_mn, .inr (4, [.ref h_vals, .int m_size, .int m_most, .int m_window, .int m_jumps])), (h_vals, .inl (cJ, 16, .inr (.inl f_vals)))]) rfl hP hD
        have hF := hF
        rw [hw_9] at hF
        try dsimp only at hF
        refine lv_ladd hx hb dX4_shown_27 ?_
        refine lv_lstore_n (lv' := [(1, .long (l1_6 + r_24_9)), (0, .ref h_mn), (3, .int l3_6)]) hx hb dX4_shown_28 rfl hl (by decide) rfl (fun ls hl => ?_)
        refine lv_iinc (v := (l3_6 + 1)) (lv' := [(3, .int (l3_6 + 1)), (1, .long (l1_6 + r_24_9)), (0, .ref h_mn)]) hx hb dX4_shown_29 hl (k := 2) rfl rfl (by decide) rfl (fun ls hl => ?_)
        refine lv_goto (tgt := 13) hx hb dX4_shown_32 (by decide) ?_
        exact IH_6 ((l1_6 + r_24_9), (l3_6 + 1)) (by show 0 ≤ ((l3_6 + 1)).toInt; have h8 := gi_max (m_size); have h9 := gi_inc (x := l3_6) (by omega); omega) (by show ((m_size).toInt - ((l3_6 + 1)).toInt).toNat < n; have h8 := gi_max (m_size); have h9 := gi_inc (x := l3_6) (by omega); omega) hF _ _ _ hP hD hS (lv_sub hl [2, 1, 0] rfl)
  · have hF := hF.trans (if_neg c_4_1)
    have i_4_1 : m_size.toInt ≤ 0 := gi_nlt c_4_1 (by decide) rfl
    refine lv_lconst (v := 0) hx hb dX4_shown_7 (by decide) ?_
    exact g_lret () hx hb hr hlk hP hK hD hS hF trivial rfl dX4_shown_8

noncomputable def f_X4_least_L8 (m_size : Int32) (f_vals : Nat → Int64) (K : Int64 → (Int64 × Unit)) : Nat → (Int64 × Int32) → (Int64 × Unit)
  | 0, _ => K default
  | n + 1, (l1_6, l3_6) => (if m_size ≤ l3_6 then (K l1_6) else (match (f_X4_valueAt m_size f_vals l3_6) with | (r_19_9, _) => (f_X4_least_L8 m_size f_vals K n ((gMinL l1_6 r_19_9), (l3_6 + 1)))))
noncomputable def f_X4_least (m_size : Int32) (f_vals : Nat → Int64) : (Int64 × Unit) := (match (f_X4_valueAt m_size f_vals (0 : Int32)) with | (r_2_1, _) => (f_X4_least_L8 m_size f_vals (fun l1_7 => (l1_7, ())) (((m_size).toInt.toNat + 1)) (r_2_1, (1 : Int32))))
set_option maxHeartbeats 4000000 in
set_option maxRecDepth 100000 in
theorem c_X4_least (l : Launch) (D : va_G) (cI cJ : ClassId) (h_mn h_vals : Nat) (sz : Nat) (m_size : Int32) (m_most : Int32) (m_window : Int32) (m_jumps : Int32) (f_vals : Nat → Int64) : Met l yX4_least wsX4_least ({ frames := 1, cells := 0, slots := 0, locals := 21 }) (gPc D cI cJ [.ref h_mn] [(h_mn, .inr (4, [.ref h_vals, .int m_size, .int m_most, .int m_window, .int m_jumps])), (h_vals, .inl (cJ, 16, .inr (.inl f_vals)))] sz) (gQl D cI cJ (f_X4_least m_size f_vals) (fun _ _ => True) (fun _ : Unit => [(h_mn, .inr (4, [.ref h_vals, .int m_size, .int m_most, .int m_window, .int m_jumps])), (h_vals, .inl (cJ, 16, .inr (.inl f_vals)))]) (va_A [(h_mn, .inr (4, [.ref h_vals, .int m_size, .int m_most, .int m_window, .int m_jumps])), (h_vals, .inl (cJ, 16, .inr (.inl f_vals)))] sz)) 0 0 (va_A [(h_mn, .inr (4, [.ref h_vals, .int m_size, .int m_most, .int m_window, .int m_jumps])), (h_vals, .inl (cJ, 16, .inr (.inl f_vals)))] sz) := by
  refine g_met (cc := cX4_least) (maxL := 4) (ret := (some .long)) (Qc := gQl D cI cJ (f_X4_least m_size f_vals) _ _) (by decide) rfl (Nat.le_of_ble_eq_true rfl) ?_
  intro A p e s m below meth c hx hb hr hml hts hown hlk hnm hP hK hD hE hA hS ls hl
  have hown : s.vm.findClass RX4 = some m.cls := hown
  have hl : lv_has ls 4 [(0, .ref h_mn)] := hl
  have hi4 : ∀ w ∈ u_ws RX4 TX4 5, w ∈ wsX4_least := fun w h9 => List.mem_cons_of_mem _ (List.mem_append_right _ h9)
  have hm1 := hts (.fieldLink RX4 15 "VoltSlopes$Means" "size" "I") (List.mem_of_getElem? (i := 1) rfl)
  have hm2 := hts (.methodLink RX4 32 Lib.MathLoose.min_long.x) (List.mem_of_getElem? (i := 2) rfl)
  have hm3 := hts (.static Lib.MathLoose.min_long.x) (List.mem_of_getElem? (i := 3) rfl)
  have hm4 := hts (.initialized "java/lang/Math") (List.mem_of_getElem? (i := 4) rfl)
  have hm5 := hts (.code Lib.MathLoose.min_long.x Lib.MathLoose.min_long.code 4 (some .long)) (List.mem_of_getElem? (i := 5) rfl)
  have hF := f_X4_least.eq_1 m_size f_vals
  refine lv_aload_n hx hb dX4_least_0 rfl (lv_at hl 0 rfl) ?_
  refine lv_iconst (v := 0) hx hb dX4_least_1 (by decide) ?_
  refine g_cvl (rest := []) ⟨hx, hb, hml, hown, hts⟩ hP hD hK hS hA hE (c_X4_valueAt l D cI cJ h_mn h_vals s.heap.size m_size m_most m_window m_jumps f_vals (0 : Int32)) (cwV 1 hts gX4_least_X4_valueAt rfl rfl rfl (by decide +kernel) ⟨Nat.le_of_ble_eq_true rfl, Nat.le_of_ble_eq_true rfl⟩) [0, 1] [] rfl rfl rfl rfl rfl 4 0 rfl rfl rfl hl rfl (Nat.le_of_ble_eq_true rfl) ⟨Nat.zero_le _, Nat.zero_le _⟩ dX4_least_2 (fun r_2_1 u_1 H locs hw_1 hx_1 hP hD hS => ?_)
  obtain ⟨hP, hD⟩ := g_re (ws' := [(h_mn, .inr (4, [.ref h_vals, .int m_size, .int m_most, .int m_window, .int m_jumps])), (h_vals, .inl (cJ, 16, .inr (.inl f_vals)))]) rfl hP hD
  have hF := hF
  rw [hw_1] at hF
  try dsimp only at hF
  refine lv_lstore_n (lv' := [(1, .long r_2_1), (0, .ref h_mn)]) hx hb dX4_least_5 rfl hl (by decide) rfl (fun ls hl => ?_)
  refine lv_iconst (v := 1) hx hb dX4_least_6 (by decide) ?_
  refine lv_istore_n (lv' := [(3, .int (1 : Int32)), (1, .long r_2_1), (0, .ref h_mn)]) hx hb dX4_least_7 rfl hl (by decide) rfl (fun ls hl => ?_)
  refine gLoopW (f := (f_X4_least_L8 m_size f_vals)) (α := (Int64 × Int32)) (β := Int64) (fun v => [(h_mn, .inr (4, [.ref h_vals, .int m_size, .int m_most, .int m_window, .int m_jumps])), (h_vals, .inl (cJ, 16, .inr (.inl f_vals)))]) (fun v => [(0, .ref h_mn), (1, .long v.1), (3, .int v.2)]) 8 (fun v => [(h_mn, .inr (4, [.ref h_vals, .int m_size, .int m_most, .int m_window, .int m_jumps])), (h_vals, .inl (cJ, 16, .inr (.inl f_vals)))]) (fun v => [(1, .long v)]) 32 (fun v => True) (fun v => 0 ≤ (v.2).toInt) (fun v => ((m_size).toInt - (v.2).toInt).toNat) (a0 := (r_2_1, (1 : Int32))) hF (by show 0 ≤ (((1 : Int32))).toInt; have h7 : (1 : Int32).toInt = 1 := (by decide); omega) (by show ((m_size).toInt - (((1 : Int32))).toInt).toNat < ((m_size).toInt.toNat + 1); have h7 : (1 : Int32).toInt = 1 := (by decide); omega) hP hD hS (lv_sub hl [2, 1, 0] rfl) (fun v hxi_6 hF => ?_) (fun K_6 n JX_6 IH_6 v hi_6 hmu_6 hF => ?_)
  · obtain ⟨l1_7, rfl⟩ : ∃ z, z = v := ⟨_, rfl⟩
    intro H locs ls hP hD hS hl
    obtain ⟨hP, hD⟩ := g_re (ws' := [(h_mn, .inr (4, [.ref h_vals, .int m_size, .int m_most, .int m_window, .int m_jumps])), (h_vals, .inl (cJ, 16, .inr (.inl f_vals)))]) rfl hP hD
    have hl : lv_has ls 4 [(1, .long l1_7)] := hl
    show W p l e _ s m _ below meth c H locs _ _ _ (F0 m 32 ls [])
    refine lv_lload_n hx hb dX4_least_32 rfl (lv_at hl 0 rfl) ?_
    exact g_lret () hx hb hr hlk hP hK hD hS hF trivial rfl dX4_least_33
  · obtain ⟨l1_6, l3_6⟩ := v
    intro H locs ls hP hD hS hl
    have hF := hF
    rw [f_X4_least_L8] at hF
    obtain ⟨hP, hD⟩ := g_re (ws' := [(h_mn, .inr (4, [.ref h_vals, .int m_size, .int m_most, .int m_window, .int m_jumps])), (h_vals, .inl (cJ, 16, .inr (.inl f_vals)))]) rfl hP hD
    have hl : lv_has ls 4 [(0, .ref h_mn), (1, .long l1_6), (3, .int l3_6)] := hl
    show W p l e _ s m _ below meth c H locs _ _ _ (F0 m 8 ls [])
    have hi_6 : 0 ≤ (l3_6).toInt := hi_6
    have hmu_6 : ((m_size).toInt - (l3_6).toInt).toNat < n + 1 := hmu_6
    refine lv_iload_n hx hb dX4_least_8 rfl (lv_at hl 2 rfl) ?_
    refine lv_aload_n hx hb dX4_least_9 rfl (lv_at hl 0 rfl) ?_
    refine va_get (D := D) (ci := 4) (v := .int m_size) (C := RX4) (T := TX4) (N := 5) hx hb hts hi4 hown hK hP 0 rfl rfl 1 (by decide) hm1 (fun _ h9 => h9) rfl dX4_least_10 ?_
    refine lv_icmp_ge (tgt := 32) hx hb dX4_least_13 (by decide) (fun c_13_8 => ?_) (fun c_13_8 => ?_)
    · have hF := hF.trans (if_pos c_13_8)
      have i_13_8 : m_size.toInt ≤ l3_6.toInt := gi_le c_13_8 rfl rfl
      exact JX_6 l1_6 (trivial) hF _ _ _ hP hD hS (lv_sub hl [1] rfl)
    · have hF := hF.trans (if_neg c_13_8)
      have i_13_8 : l3_6.toInt < m_size.toInt := gi_nle c_13_8 rfl rfl
      refine lv_lload_n hx hb dX4_least_16 rfl (lv_at hl 1 rfl) ?_
      refine lv_aload_n hx hb dX4_least_17 rfl (lv_at hl 0 rfl) ?_
      refine lv_iload_n hx hb dX4_least_18 rfl (lv_at hl 2 rfl) ?_
      refine g_cvl (rest := [.long l1_6]) ⟨hx, hb, hml, hown, hts⟩ hP hD hK hS hA hE (c_X4_valueAt l D cI cJ h_mn h_vals H.size m_size m_most m_window m_jumps f_vals l3_6) (cwV 1 hts gX4_least_X4_valueAt rfl rfl rfl (by decide +kernel) ⟨Nat.le_of_ble_eq_true rfl, Nat.le_of_ble_eq_true rfl⟩) [0, 1] [] rfl rfl rfl rfl rfl 4 0 rfl rfl rfl hl rfl (Nat.le_of_ble_eq_true rfl) ⟨Nat.zero_le _, Nat.zero_le _⟩ dX4_least_19 (fun r_19_9 u_9 H locs hw_9 hx_9 hP hD hS => ?_)
      obtain ⟨hP, hD⟩ := g_re (ws' := [(h_mn, .inr (4, [.ref h_vals, .int m_size, .int m_most, .int m_window, .int m_jumps])), (h_vals, .inl (cJ, 16, .inr (.inl f_vals)))]) rfl hP hD
      have hF := hF
      rw [hw_9] at hF
      try dsimp only at hF
      refine va_mmin_long hx hb (by rw [hml]; exact hl.1.symm) hown hm2 hm3 hm4 hm5 (Nat.le_of_ble_eq_true rfl) (Nat.le_of_ble_eq_true rfl) (Nat.zero_le _) (Nat.zero_le _) dX4_least_22 ?_
      refine W.eq (g2 := F0 m 25 ls [.long (gMinL l1_6 r_19_9)]) rfl ?_
      refine lv_lstore_n (lv' := [(1, .long (gMinL l1_6 r_19_9)), (0, .ref h_mn), (3, .int l3_6)]) hx hb dX4_least_25 rfl hl (by decide) rfl (fun ls hl => ?_)
      refine lv_iinc (v := (l3_6 + 1)) (lv' := [(3, .int (l3_6 + 1)), (1, .long (gMinL l1_6 r_19_9)), (0, .ref h_mn)]) hx hb dX4_least_26 hl (k := 2) rfl rfl (by decide) rfl (fun ls hl => ?_)
      refine lv_goto (tgt := 8) hx hb dX4_least_29 (by decide) ?_
      exact IH_6 ((gMinL l1_6 r_19_9), (l3_6 + 1)) (by show 0 ≤ ((l3_6 + 1)).toInt; have h8 := gi_max (m_size); have h9 := gi_inc (x := l3_6) (by omega); omega) (by show ((m_size).toInt - ((l3_6 + 1)).toInt).toNat < n; have h8 := gi_max (m_size); have h9 := gi_inc (x := l3_6) (by omega); omega) hF _ _ _ hP hD hS (lv_sub hl [2, 1, 0] rfl)

noncomputable def f_X4_greatest_L8 (m_size : Int32) (f_vals : Nat → Int64) (K : Int64 → (Int64 × Unit)) : Nat → (Int64 × Int32) → (Int64 × Unit)
  | 0, _ => K default
  | n + 1, (l1_6, l3_6) => (if m_size ≤ l3_6 then (K l1_6) else (match (f_X4_valueAt m_size f_vals l3_6) with | (r_19_9, _) => (f_X4_greatest_L8 m_size f_vals K n ((gMaxL l1_6 r_19_9), (l3_6 + 1)))))
noncomputable def f_X4_greatest (m_size : Int32) (f_vals : Nat → Int64) : (Int64 × Unit) := (match (f_X4_valueAt m_size f_vals (0 : Int32)) with | (r_2_1, _) => (f_X4_greatest_L8 m_size f_vals (fun l1_7 => (l1_7, ())) (((m_size).toInt.toNat + 1)) (r_2_1, (1 : Int32))))
set_option maxHeartbeats 4000000 in
set_option maxRecDepth 100000 in
theorem c_X4_greatest (l : Launch) (D : va_G) (cI cJ : ClassId) (h_mn h_vals : Nat) (sz : Nat) (m_size : Int32) (m_most : Int32) (m_window : Int32) (m_jumps : Int32) (f_vals : Nat → Int64) : Met l yX4_greatest wsX4_greatest ({ frames := 1, cells := 0, slots := 0, locals := 21 }) (gPc D cI cJ [.ref h_mn] [(h_mn, .inr (4, [.ref h_vals, .int m_size, .int m_most, .int m_window, .int m_jumps])), (h_vals, .inl (cJ, 16, .inr (.inl f_vals)))] sz) (gQl D cI cJ (f_X4_greatest m_size f_vals) (fun _ _ => True) (fun _ : Unit => [(h_mn, .inr (4, [.ref h_vals, .int m_size, .int m_most, .int m_window, .int m_jumps])), (h_vals, .inl (cJ, 16, .inr (.inl f_vals)))]) (va_A [(h_mn, .inr (4, [.ref h_vals, .int m_size, .int m_most, .int m_window, .int m_jumps])), (h_vals, .inl (cJ, 16, .inr (.inl f_vals)))] sz)) 0 0 (va_A [(h_mn, .inr (4, [.ref h_vals, .int m_size, .int m_most, .int m_window, .int m_jumps])), (h_vals, .inl (cJ, 16, .inr (.inl f_vals)))] sz) := by
  refine g_met (cc := cX4_greatest) (maxL := 4) (ret := (some .long)) (Qc := gQl D cI cJ (f_X4_greatest m_size f_vals) _ _) (by decide) rfl (Nat.le_of_ble_eq_true rfl) ?_
  intro A p e s m below meth c hx hb hr hml hts hown hlk hnm hP hK hD hE hA hS ls hl
  have hown : s.vm.findClass RX4 = some m.cls := hown
  have hl : lv_has ls 4 [(0, .ref h_mn)] := hl
  have hi4 : ∀ w ∈ u_ws RX4 TX4 5, w ∈ wsX4_greatest := fun w h9 => List.mem_cons_of_mem _ (List.mem_append_right _ h9)
  have hm1 := hts (.fieldLink RX4 15 "VoltSlopes$Means" "size" "I") (List.mem_of_getElem? (i := 1) rfl)
  have hm2 := hts (.methodLink RX4 38 Lib.MathLoose.max_long.x) (List.mem_of_getElem? (i := 2) rfl)
  have hm3 := hts (.static Lib.MathLoose.max_long.x) (List.mem_of_getElem? (i := 3) rfl)
  have hm4 := hts (.initialized "java/lang/Math") (List.mem_of_getElem? (i := 4) rfl)
  have hm5 := hts (.code Lib.MathLoose.max_long.x Lib.MathLoose.max_long.code 4 (some .long)) (List.mem_of_getElem? (i := 5) rfl)
  have hF := f_X4_greatest.eq_1 m_size f_vals
  refine lv_aload_n hx hb dX4_greatest_0 rfl (lv_at hl 0 rfl) ?_
  refine lv_iconst (v := 0) hx hb dX4_greatest_1 (by decide) ?_
  refine g_cvl (rest := []) ⟨hx, hb, hml, hown, hts⟩ hP hD hK hS hA hE (c_X4_valueAt l D cI cJ h_mn h_vals s.heap.size m_size m_most m_window m_jumps f_vals (0 : Int32)) (cwV 1 hts gX4_greatest_X4_valueAt rfl rfl rfl (by decide +kernel) ⟨Nat.le_of_ble_eq_true rfl, Nat.le_of_ble_eq_true rfl⟩) [0, 1] [] rfl rfl rfl rfl rfl 4 0 rfl rfl rfl hl rfl (Nat.le_of_ble_eq_true rfl) ⟨Nat.zero_le _, Nat.zero_le _⟩ dX4_greatest_2 (fun r_2_1 u_1 H locs hw_1 hx_1 hP hD hS => ?_)
  obtain ⟨hP, hD⟩ := g_re (ws' := [(h_mn, .inr (4, [.ref h_vals, .int m_size, .int m_most, .int m_window, .int m_jumps])), (h_vals, .inl (cJ, 16, .inr (.inl f_vals)))]) rfl hP hD
  have hF := hF
  rw [hw_1] at hF
  try dsimp only at hF
  refine lv_lstore_n (lv' := [(1, .long r_2_1), (0, .ref h_mn)]) hx hb dX4_greatest_5 rfl hl (by decide) rfl (fun ls hl => ?_)
  refine lv_iconst (v := 1) hx hb dX4_greatest_6 (by decide) ?_
  refine lv_istore_n (lv' := [(3, .int (1 : Int32)), (1, .long r_2_1), (0, .ref h_mn)]) hx hb dX4_greatest_7 rfl hl (by decide) rfl (fun ls hl => ?_)
  refine gLoopW (f := (f_X4_greatest_L8 m_size f_vals)) (α := (Int64 × Int32)) (β := Int64) (fun v => [(h_mn, .inr (4, [.ref h_vals, .int m_size, .int m_most, .int m_window, .int m_jumps])), (h_vals, .inl (cJ, 16, .inr (.inl f_vals)))]) (fun v => [(0, .ref h_mn), (1, .long v.1), (3, .int v.2)]) 8 (fun v => [(h_mn, .inr (4, [.ref h_vals, .int m_size, .int m_most, .int m_window, .int m_jumps])), (h_vals, .inl (cJ, 16, .inr (.inl f_vals)))]) (fun v => [(1, .long v)]) 32 (fun v => True) (fun v => 0 ≤ (v.2).toInt) (fun v => ((m_size).toInt - (v.2).toInt).toNat) (a0 := (r_2_1, (1 : Int32))) hF (by show 0 ≤ (((1 : Int32))).toInt; have h7 : (1 : Int32).toInt = 1 := (by decide); omega) (by show ((m_size).toInt - (((1 : Int32))).toInt).toNat < ((m_size).toInt.toNat + 1); have h7 : (1 : Int32).toInt = 1 := (by decide); omega) hP hD hS (lv_sub hl [2, 1, 0] rfl) (fun v hxi_6 hF => ?_) (fun K_6 n JX_6 IH_6 v hi_6 hmu_6 hF => ?_)
  · obtain ⟨l1_7, rfl⟩ : ∃ z, z = v := ⟨_, rfl⟩
    intro H locs ls hP hD hS hl
    obtain ⟨hP, hD⟩ := g_re (ws' := [(h_mn, .inr (4, [.ref h_vals, .int m_size, .int m_most, .int m_window, .int m_jumps])), (h_vals, .inl (cJ, 16, .inr (.inl f_vals)))]) rfl hP hD
    have hl : lv_has ls 4 [(1, .long l1_7)] := hl
    show W p l e _ s m _ below meth c H locs _ _ _ (F0 m 32 ls [])
    refine lv_lload_n hx hb dX4_greatest_32 rfl (lv_at hl 0 rfl) ?_
    exact g_lret () hx hb hr hlk hP hK hD hS hF trivial rfl dX4_greatest_33
  · obtain ⟨l1_6, l3_6⟩ := v
    intro H locs ls hP hD hS hl
    have hF := hF
    rw [f_X4_greatest_L8] at hF
    obtain ⟨hP, hD⟩ := g_re (ws' := [(h_mn, .inr (4, [.ref h_vals, .int m_size, .int m_most, .int m_window, .int m_jumps])), (h_vals, .inl (cJ, 16, .inr (.inl f_vals)))]) rfl hP hD
    have hl : lv_has ls 4 [(0, .ref h_mn), (1, .long l1_6), (3, .int l3_6)] := hl
    show W p l e _ s m _ below meth c H locs _ _ _ (F0 m 8 ls [])
    have hi_6 : 0 ≤ (l3_6).toInt := hi_6
    have hmu_6 : ((m_size).toInt - (l3_6).toInt).toNat < n + 1 := hmu_6
    refine lv_iload_n hx hb dX4_greatest_8 rfl (lv_at hl 2 rfl) ?_
    refine lv_aload_n hx hb dX4_greatest_9 rfl (lv_at hl 0 rfl) ?_
    refine va_get (D := D) (ci := 4) (v := .int m_size) (C := RX4) (T := TX4) (N := 5) hx hb hts hi4 hown hK hP 0 rfl rfl 1 (by decide) hm1 (fun _ h9 => h9) rfl dX4_greatest_10 ?_
    refine lv_icmp_ge (tgt := 32) hx hb dX4_greatest_13 (by decide) (fun c_13_8 => ?_) (fun c_13_8 => ?_)
    · have hF := hF.trans (if_pos c_13_8)
      have i_13_8 : m_size.toInt ≤ l3_6.toInt := gi_le c_13_8 rfl rfl
      exact JX_6 l1_6 (trivial) hF _ _ _ hP hD hS (lv_sub hl [1] rfl)
    · have hF := hF.trans (if_neg c_13_8)
      have i_13_8 : l3_6.toInt < m_size.toInt := gi_nle c_13_8 rfl rfl
      refine lv_lload_n hx hb dX4_greatest_16 rfl (lv_at hl 1 rfl) ?_
      refine lv_aload_n hx hb dX4_greatest_17 rfl (lv_at hl 0 rfl) ?_
      refine lv_iload_n hx hb dX4_greatest_18 rfl (lv_at hl 2 rfl) ?_
      refine g_cvl (rest := [.long l1_6]) ⟨hx, hb, hml, hown, hts⟩ hP hD hK hS hA hE (c_X4_valueAt l D cI cJ h_mn h_vals H.size m_size m_most m_window m_jumps f_vals l3_6) (cwV 1 hts gX4_greatest_X4_valueAt rfl rfl rfl (by decide +kernel) ⟨Nat.le_of_ble_eq_true rfl, Nat.le_of_ble_eq_true rfl⟩) [0, 1] [] rfl rfl rfl rfl rfl 4 0 rfl rfl rfl hl rfl (Nat.le_of_ble_eq_true rfl) ⟨Nat.zero_le _, Nat.zero_le _⟩ dX4_greatest_19 (fun r_19_9 u_9 H locs hw_9 hx_9 hP hD hS => ?_)
      obtain ⟨hP, hD⟩ := g_re (ws' := [(h_mn, .inr (4, [.ref h_vals, .int m_size, .int m_most, .int m_window, .int m_jumps])), (h_vals, .inl (cJ, 16, .inr (.inl f_vals)))]) rfl hP hD
      have hF := hF
      rw [hw_9] at hF
      try dsimp only at hF
      refine va_mmax_long hx hb (by rw [hml]; exact hl.1.symm) hown hm2 hm3 hm4 hm5 (Nat.le_of_ble_eq_true rfl) (Nat.le_of_ble_eq_true rfl) (Nat.zero_le _) (Nat.zero_le _) dX4_greatest_22 ?_
      refine W.eq (g2 := F0 m 25 ls [.long (gMaxL l1_6 r_19_9)]) rfl ?_
      refine lv_lstore_n (lv' := [(1, .long (gMaxL l1_6 r_19_9)), (0, .ref h_mn), (3, .int l3_6)]) hx hb dX4_greatest_25 rfl hl (by decide) rfl (fun ls hl => ?_)
      refine lv_iinc (v := (l3_6 + 1)) (lv' := [(3, .int (l3_6 + 1)), (1, .long (gMaxL l1_6 r_19_9)), (0, .ref h_mn)]) hx hb dX4_greatest_26 hl (k := 2) rfl rfl (by decide) rfl (fun ls hl => ?_)
      refine lv_goto (tgt := 8) hx hb dX4_greatest_29 (by decide) ?_
      exact IH_6 ((gMaxL l1_6 r_19_9), (l3_6 + 1)) (by show 0 ≤ ((l3_6 + 1)).toInt; have h8 := gi_max (m_size); have h9 := gi_inc (x := l3_6) (by omega); omega) (by show ((m_size).toInt - ((l3_6 + 1)).toInt).toNat < n; have h8 := gi_max (m_size); have h9 := gi_inc (x := l3_6) (by omega); omega) hF _ _ _ hP hD hS (lv_sub hl [2, 1, 0] rfl)

noncomputable def f_X4_keepNewest_L14 (m_size : Int32) (p0 : Int32) (K : (Nat → Int64) → (Int32 × (Nat → Int64))) : Nat → (Int32 × (Nat → Int64)) → (Int32 × (Nat → Int64))
  | 0, _ => K default
  | n + 1, (l3_8, f_vals_8) => (if p0 ≤ l3_8 then (K f_vals_8) else (if (16 : Int32) ≤ l3_8 then (K f_vals_8) else (match (f_X4_valueAt m_size f_vals_8 (l3_8 + (m_size - p0))) with | (r_37_12, _) => (f_X4_keepNewest_L14 m_size p0 K n ((l3_8 + 1), (vp_updL f_vals_8 l3_8.toNatClampNeg r_37_12))))))
noncomputable def f_X4_keepNewest (m_size : Int32) (f_vals : Nat → Int64) (p0 : Int32) : (Int32 × (Nat → Int64)) := (if (0 : Int32) < (m_size - p0) then (f_X4_keepNewest_L14 m_size p0 (fun f_vals_9 => (p0, f_vals_9)) (17) ((0 : Int32), f_vals)) else (m_size, f_vals))
set_option maxHeartbeats 4000000 in
set_option maxRecDepth 100000 in
theorem c_X4_keepNewest (l : Launch) (D : va_G) (cI cJ : ClassId) (h_mn h_vals : Nat) (sz : Nat) (m_size : Int32) (m_most : Int32) (m_window : Int32) (m_jumps : Int32) (f_vals : Nat → Int64) (p0 : Int32) : Met l yX4_keepNewest wsX4_keepNewest ({ frames := 1, cells := 0, slots := 0, locals := 21 }) (gPc D cI cJ [.ref h_mn, .int p0] [(h_mn, .inr (4, [.ref h_vals, .int m_size, .int m_most, .int m_window, .int m_jumps])), (h_vals, .inl (cJ, 16, .inr (.inl f_vals)))] sz) (gQv D cI cJ (f_X4_keepNewest m_size f_vals p0) (fun _ => True) (fun u : (Int32 × (Nat → Int64)) => [(h_mn, .inr (4, [.ref h_vals, .int u.1, .int m_most, .int m_window, .int m_jumps])), (h_vals, .inl (cJ, 16, .inr (.inl u.2)))]) (va_A [(h_mn, .inr (4, [.ref h_vals, .int m_size, .int m_most, .int m_window, .int m_jumps])), (h_vals, .inl (cJ, 16, .inr (.inl f_vals)))] sz)) 0 0 (va_A [(h_mn, .inr (4, [.ref h_vals, .int m_size, .int m_most, .int m_window, .int m_jumps])), (h_vals, .inl (cJ, 16, .inr (.inl f_vals)))] sz) := by
  refine g_met (cc := cX4_keepNewest) (maxL := 4) (ret := none) (Qc := gQv D cI cJ (f_X4_keepNewest m_size f_vals p0) _ _) (by decide) rfl (Nat.le_of_ble_eq_true rfl) ?_
  intro A p e s m below meth c hx hb hr hml hts hown hlk hnm hP hK hD hE hA hS ls hl
  have hown : s.vm.findClass RX4 = some m.cls := hown
  have hl : lv_has ls 4 [(0, .ref h_mn), (1, .int p0)] := hl
  have hi4 : ∀ w ∈ u_ws RX4 TX4 5, w ∈ wsX4_keepNewest := fun w h9 => List.mem_cons_of_mem _ (List.mem_append_right _ h9)
  have hm1 := hts (.fieldLink RX4 15 "VoltSlopes$Means" "size" "I") (List.mem_of_getElem? (i := 1) rfl)
  have hm2 := hts (.fieldLink RX4 9 "VoltSlopes$Means" "values" "[J") (List.mem_of_getElem? (i := 2) rfl)
  have hF := f_X4_keepNewest.eq_1 m_size f_vals p0
  refine lv_aload_n hx hb dX4_keepNewest_0 rfl (lv_at hl 0 rfl) ?_
  refine va_get (D := D) (ci := 4) (v := .int m_size) (C := RX4) (T := TX4) (N := 5) hx hb hts hi4 hown hK hP 0 rfl rfl 1 (by decide) hm1 (fun _ h9 => h9) rfl dX4_keepNewest_1 ?_
  refine lv_iload_n hx hb dX4_keepNewest_4 rfl (lv_at hl 1 rfl) ?_
  refine lv_isub hx hb dX4_keepNewest_5 ?_
  refine lv_istore_n (lv' := [(2, .int (m_size - p0)), (0, .ref h_mn), (1, .int p0)]) hx hb dX4_keepNewest_6 rfl hl (by decide) rfl (fun ls hl => ?_)
  refine lv_iload_n hx hb dX4_keepNewest_7 rfl (lv_at hl 0 rfl) ?_
  refine lv_if_gt (tgt := 12) hx hb dX4_keepNewest_8 (by decide) (fun c_8_1 => ?_) (fun c_8_1 => ?_)
  · have hF := hF.trans (if_pos c_8_1)
    have i_8_1 : 0 < (m_size - p0).toInt := gi_lt c_8_1 (by decide) rfl
    refine lv_iconst (v := 0) hx hb dX4_keepNewest_12 (by decide) ?_
    refine lv_istore_n (lv' := [(3, .int (0 : Int32)), (2, .int (m_size - p0)), (0, .ref h_mn), (1, .int p0)]) hx hb dX4_keepNewest_13 rfl hl (by decide) rfl (fun ls hl => ?_)
    refine gLoopW (f := (f_X4_keepNewest_L14 m_size p0)) (α := (Int32 × (Nat → Int64))) (β := (Nat → Int64)) (fun v => [(h_mn, .inr (4, [.ref h_vals, .int m_size, .int m_most, .int m_window, .int m_jumps])), (h_vals, .inl (cJ, 16, .inr (.inl v.2)))]) (fun v => [(0, .ref h_mn), (1, .int p0), (2, .int (m_size - p0)), (3, .int v.1)]) 14 (fun v => [(h_mn, .inr (4, [.ref h_vals, .int m_size, .int m_most, .int m_window, .int m_jumps])), (h_vals, .inl (cJ, 16, .inr (.inl v)))]) (fun v => [(0, .ref h_mn), (1, .int p0)]) 47 (fun v => True) (fun v => 0 ≤ (v.1).toInt) (fun v => (16 - (v.1).toInt).toNat) (a0 := ((0 : Int32), f_vals)) hF (by show 0 ≤ (((0 : Int32))).toInt; have h7 : (0 : Int32).toInt = 0 := (by decide); omega) (by show (16 - (((0 : Int32))).toInt).toNat < 17; have h7 : (0 : Int32).toInt = 0 := (by decide); omega) hP hD hS (lv_sub hl [2, 3, 1, 0] rfl) (fun v hxi_8 hF => ?_) (fun K_8 n JX_8 IH_8 v hi_8 hmu_8 hF => ?_)
    · obtain ⟨f_vals_9, rfl⟩ : ∃ z, z = v := ⟨_, rfl⟩
      intro H locs ls hP hD hS hl
      obtain ⟨hP, hD⟩ := g_re (ws' := [(h_mn, .inr (4, [.ref h_vals, .int m_size, .int m_most, .int m_window, .int m_jumps])), (h_vals, .inl (cJ, 16, .inr (.inl f_vals_9)))]) rfl hP hD
      have hl : lv_has ls 4 [(0, .ref h_mn), (1, .int p0)] := hl
      show W p l e _ s m _ below meth c H locs _ _ _ (F0 m 47 ls [])
      refine lv_aload_n hx hb dX4_keepNewest_47 rfl (lv_at hl 0 rfl) ?_
      refine lv_iload_n hx hb dX4_keepNewest_48 rfl (lv_at hl 1 rfl) ?_
      refine va_put (D := D) (ci := 4) (v := .int p0) (ty := .int) (C := RX4) (T := TX4) (N := 5) hx hb hts hi4 tyX4 tyX4_ok nmX4 hown hK hP hD hS 0 rfl rfl 1 (by decide) hm1 (fun _ h9 => h9) rfl (by decide +kernel) rfl rfl (Nat.le_of_ble_eq_true rfl) dX4_keepNewest_49 (fun H locs hP hD hS => ?_)
      obtain ⟨hP, hD⟩ := g_re (ws' := [(h_mn, .inr (4, [.ref h_vals, .int p0, .int m_most, .int m_window, .int m_jumps])), (h_vals, .inl (cJ, 16, .inr (.inl f_vals_9)))]) rfl hP hD
      exact g_vret (p0, f_vals_9) hx hb hr hlk hP hK hD hS hF trivial rfl dX4_keepNewest_52
    · obtain ⟨l3_8, f_vals_8⟩ := v
      intro H locs ls hP hD hS hl
      have hF := hF
      rw [f_X4_keepNewest_L14] at hF
      obtain ⟨hP, hD⟩ := g_re (ws' := [(h_mn, .inr (4, [.ref h_vals, .int m_size, .int m_most, .int m_window, .int m_jumps])), (h_vals, .inl (cJ, 16, .inr (.inl f_vals_8)))]) rfl hP hD
      have hl : lv_has ls 4 [(0, .ref h_mn), (1, .int p0), (2, .int (m_size - p0)), (3, .int l3_8)] := hl
      show W p l e _ s m _ below meth c H locs _ _ _ (F0 m 14 ls [])
      have hi_8 : 0 ≤ (l3_8).toInt := hi_8
      have hmu_8 : (16 - (l3_8).toInt).toNat < n + 1 := hmu_8
      refine lv_iload_n hx hb dX4_keepNewest_14 rfl (lv_at hl 3 rfl) ?_
      refine lv_iload_n hx hb dX4_keepNewest_15 rfl (lv_at hl 1 rfl) ?_
      refine lv_icmp_ge (tgt := 47) hx hb dX4_keepNewest_16 (by decide) (fun c_16_10 => ?_) (fun c_16_10 => ?_)
      · have hF := hF.trans (if_pos c_16_10)
        have i_16_10 : p0.toInt ≤ l3_8.toInt := gi_le c_16_10 rfl rfl
        exact JX_8 f_vals_8 (trivial) hF _ _ _ hP hD hS (lv_sub hl [0, 1] rfl)
      · have hF := hF.trans (if_neg c_16_10)
        have i_16_10 : l3_8.toInt < p0.toInt := gi_nle c_16_10 rfl rfl
        refine lv_iload_n hx hb dX4_keepNewest_19 rfl (lv_at hl 3 rfl) ?_
        refine lv_aload_n hx hb dX4_keepNewest_20 rfl (lv_at hl 0 rfl) ?_
        refine va_get (D := D) (ci := 4) (v := .ref h_vals) (C := RX4) (T := TX4) (N := 5) hx hb hts hi4 hown hK hP 0 rfl rfl 0 (by decide) hm2 (fun _ h9 => h9) rfl dX4_keepNewest_21 ?_
        refine va_alen (v := 16) hx hb hK hP 1 1 rfl rfl rfl dX4_keepNewest_24 ?_
        refine lv_icmp_ge (tgt := 47) hx hb dX4_keepNewest_25 (by decide) (fun c_25_11 => ?_) (fun c_25_11 => ?_)
        · have hF := hF.trans (if_pos c_25_11)
          have i_25_11 : 16 ≤ l3_8.toInt := gi_le c_25_11 (by decide) rfl
          exact JX_8 f_vals_8 (trivial) hF _ _ _ hP hD hS (lv_sub hl [0, 1] rfl)
        · have hF := hF.trans (if_neg c_25_11)
          have i_25_11 : l3_8.toInt < 16 := gi_nle c_25_11 (by decide) rfl
          refine lv_aload_n hx hb dX4_keepNewest_28 rfl (lv_at hl 0 rfl) ?_
          refine va_get (D := D) (ci := 4) (v := .ref h_vals) (C := RX4) (T := TX4) (N := 5) hx hb hts hi4 hown hK hP 0 rfl rfl 0 (by decide) hm2 (fun _ h9 => h9) rfl dX4_keepNewest_29 ?_
          refine lv_iload_n hx hb dX4_keepNewest_32 rfl (lv_at hl 3 rfl) ?_
          refine lv_aload_n hx hb dX4_keepNewest_33 rfl (lv_at hl 0 rfl) ?_
          refine lv_iload_n hx hb dX4_keepNewest_34 rfl (lv_at hl 3 rfl) ?_
          refine lv_iload_n hx hb dX4_keepNewest_35 rfl (lv_at hl 2 rfl) ?_
          refine lv_iadd hx hb dX4_keepNewest_36 ?_
          refine g_cvl (rest := [.int l3_8, .ref h_vals]) ⟨hx, hb, hml, hown, hts⟩ hP hD hK hS hA hE (c_X4_valueAt l D cI cJ h_mn h_vals H.size m_size m_most m_window m_jumps f_vals_8 (l3_8 + (m_size - p0))) (cwV 1 hts gX4_keepNewest_X4_valueAt rfl rfl rfl (by decide +kernel) ⟨Nat.le_of_ble_eq_true rfl, Nat.le_of_ble_eq_true rfl⟩) [0, 1] [] rfl rfl rfl rfl rfl 4 0 rfl rfl rfl hl rfl (Nat.le_of_ble_eq_true rfl) ⟨Nat.zero_le _, Nat.zero_le _⟩ dX4_keepNewest_37 (fun r_37_12 u_12 H locs hw_12 hx_12 hP hD hS => ?_)
          obtain ⟨hP, hD⟩ := g_re (ws' := [(h_mn, .inr (4, [.ref h_vals, .int m_size, .int m_most, .int m_window, .int m_jumps])), (h_vals, .inl (cJ, 16, .inr (.inl f_vals_8)))]) rfl hP hD
          have hF := hF
          rw [hw_12] at hF
          try dsimp only at hF
          refine va_last hx hb hK hP hD hS 1 1 rfl rfl (gi_in ⟨by omega, by omega⟩) dX4_keepNewest_40 (fun H locs hP hD hS => ?_)
          obtain ⟨hP, hD⟩ := g_re (ws' := [(h_mn, .inr (4, [.ref h_vals, .int m_size, .int m_most, .int m_window, .int m_jumps])), (h_vals, .inl (cJ, 16, .inr (.inl (vp_updL f_vals_8 l3_8.toNatClampNeg r_37_12))))]) rfl hP hD
          refine lv_iinc (v := (l3_8 + 1)) (lv' := [(3, .int (l3_8 + 1)), (0, .ref h_mn), (1, .int p0), (2, .int (m_size - p0))]) hx hb dX4_keepNewest_41 hl (k := 3) rfl rfl (by decide) rfl (fun ls hl => ?_)
          refine lv_goto (tgt := 14) hx hb dX4_keepNewest_44 (by decide) ?_
          exact IH_8 ((l3_8 + 1), (vp_updL f_vals_8 l3_8.toNatClampNeg r_37_12)) (by show 0 ≤ ((l3_8 + 1)).toInt; have h9 := gi_inc (x := l3_8) (by omega); omega) (by show (16 - ((l3_8 + 1)).toInt).toNat < n; have h9 := gi_inc (x := l3_8) (by omega); omega) hF _ _ _ hP hD hS (lv_sub hl [1, 2, 3, 0] rfl)
  · have hF := hF.trans (if_neg c_8_1)
    have i_8_1 : (m_size - p0).toInt ≤ 0 := gi_nlt c_8_1 (by decide) rfl
    exact g_vret (m_size, f_vals) hx hb hr hlk hP hK hD hS hF trivial rfl dX4_keepNewest_11

noncomputable def f_X4_resize (m_size : Int32) (f_vals : Nat → Int64) (p0 : Int32) : (Int32 × Int32 × (Nat → Int64)) := (match (f_X4_keepNewest m_size f_vals p0) with | (mn_size_1, f_vals_1) => (mn_size_1, p0, f_vals_1))
set_option maxHeartbeats 4000000 in
set_option maxRecDepth 100000 in
theorem c_X4_resize (l : Launch) (D : va_G) (cI cJ : ClassId) (h_mn h_vals : Nat) (sz : Nat) (m_size : Int32) (m_most : Int32) (m_window : Int32) (m_jumps : Int32) (f_vals : Nat → Int64) (p0 : Int32) : Met l yX4_resize wsX4_resize ({ frames := 2, cells := 0, slots := 0, locals := 44 }) (gPc D cI cJ [.ref h_mn, .int p0] [(h_mn, .inr (4, [.ref h_vals, .int m_size, .int m_most, .int m_window, .int m_jumps])), (h_vals, .inl (cJ, 16, .inr (.inl f_vals)))] sz) (gQv D cI cJ (f_X4_resize m_size f_vals p0) (fun _ => True) (fun u : (Int32 × Int32 × (Nat → Int64)) => [(h_mn, .inr (4, [.ref h_vals, .int u.1, .int u.2.1, .int m_window, .int m_jumps])), (h_vals, .inl (cJ, 16, .inr (.inl u.2.2)))]) (va_A [(h_mn, .inr (4, [.ref h_vals, .int m_size, .int m_most, .int m_window, .int m_jumps])), (h_vals, .inl (cJ, 16, .inr (.inl f_vals)))] sz)) 0 0 (va_A [(h_mn, .inr (4, [.ref h_vals, .int m_size, .int m_most, .int m_window, .int m_jumps])), (h_vals, .inl (cJ, 16, .inr (.inl f_vals)))] sz) := by
  refine g_met (cc := cX4_resize) (maxL := 2) (ret := none) (Qc := gQv D cI cJ (f_X4_resize m_size f_vals p0) _ _) (by decide) rfl (Nat.le_of_ble_eq_true rfl) ?_
  intro A p e s m below meth c hx hb hr hml hts hown hlk hnm hP hK hD hE hA hS ls hl
  have hown : s.vm.findClass RX4 = some m.cls := hown
  have hl : lv_has ls 2 [(0, .ref h_mn), (1, .int p0)] := hl
  have hi4 : ∀ w ∈ u_ws RX4 TX4 5, w ∈ wsX4_resize := fun w h9 => List.mem_cons_of_mem _ (List.mem_append_right _ h9)
  have hm1 := hts (.fieldLink RX4 19 "VoltSlopes$Means" "most" "I") (List.mem_of_getElem? (i := 1) rfl)
  have hF := f_X4_resize.eq_1 m_size f_vals p0
  refine lv_aload_n hx hb dX4_resize_0 rfl (lv_at hl 0 rfl) ?_
  refine lv_iload_n hx hb dX4_resize_1 rfl (lv_at hl 1 rfl) ?_
  refine va_put (D := D) (ci := 4) (v := .int p0) (ty := .int) (C := RX4) (T := TX4) (N := 5) hx hb hts hi4 tyX4 tyX4_ok nmX4 hown hK hP hD hS 0 rfl rfl 2 (by decide) hm1 (fun _ h9 => h9) rfl (by decide +kernel) rfl rfl (Nat.le_of_ble_eq_true rfl) dX4_resize_2 (fun H locs hP hD hS => ?_)
  obtain ⟨hP, hD⟩ := g_re (ws' := [(h_mn, .inr (4, [.ref h_vals, .int m_size, .int p0, .int m_window, .int m_jumps])), (h_vals, .inl (cJ, 16, .inr (.inl f_vals)))]) rfl hP hD
  refine lv_aload_n hx hb dX4_resize_5 rfl (lv_at hl 0 rfl) ?_
  refine lv_iload_n hx hb dX4_resize_6 rfl (lv_at hl 1 rfl) ?_
  refine g_cvv (rest := []) ⟨hx, hb, hml, hown, hts⟩ hP hD hK hS hA hE (c_X4_keepNewest l D cI cJ h_mn h_vals H.size m_size p0 m_window m_jumps f_vals p0) (cwV 1 hts gX4_resize_X4_keepNewest rfl rfl rfl (by decide +kernel) ⟨Nat.le_of_ble_eq_true rfl, Nat.le_of_ble_eq_true rfl⟩) [0, 1] [] rfl rfl rfl rfl rfl 4 0 rfl rfl rfl hl rfl (Nat.le_of_ble_eq_true rfl) ⟨Nat.zero_le _, Nat.zero_le _⟩ dX4_resize_7 (fun u_1 H locs hw_1 hx_1 hP hD hS => ?_)
  obtain ⟨mn_size_1, f_vals_1⟩ := u_1
  obtain ⟨hP, hD⟩ := g_re (ws' := [(h_mn, .inr (4, [.ref h_vals, .int mn_size_1, .int p0, .int m_window, .int m_jumps])), (h_vals, .inl (cJ, 16, .inr (.inl f_vals_1)))]) rfl hP hD
  have hF := hF
  rw [hw_1] at hF
  try dsimp only at hF
  exact g_vret (mn_size_1, p0, f_vals_1) hx hb hr hlk hP hK hD hS hF trivial rfl dX4_resize_10

noncomputable def f_X4_takeIn (m_size : Int32) (m_most : Int32) (m_window : Int32) (m_jumps : Int32) (f_vals : Nat → Int64) (p0 : Int64) : (Bool × (Int32 × Int32 × (Nat → Int64))) := (gBind (fun (k_6 : Bool → (Bool × (Int32 × Int32 × (Nat → Int64)))) => (if m_size ≤ (0 : Int32) then (k_6 false) else (if m_window ≤ (0 : Int32) then (k_6 false) else (match (f_X4_shown m_size f_vals) with | (r_16_9, _) => (if (gAbsL (p0 - r_16_9)) ≤ (m_window.toInt64 * (1000 : Int64)) then (k_6 false) else (k_6 true)))))) (fun k0_6 => (gBind (fun (k_13 : (Int32 × Int32) → (Bool × (Int32 × Int32 × (Nat → Int64)))) => (if k0_6 = true then (k_13 ((0 : Int32), (m_jumps + (1 : Int32)))) else (k_13 (m_size, m_jumps)))) (fun q_13 => match q_13 with | (mn_size_13, mn_jumps_13) => (match (f_X4_keepNewest mn_size_13 f_vals (m_most - (1 : Int32))) with | (mn_size_15, f_vals_15) => (if mn_size_15 < (0 : Int32) then (k0_6, (mn_size_15, mn_jumps_13, f_vals_15)) else (if (16 : Int32) ≤ mn_size_15 then (k0_6, (mn_size_15, mn_jumps_13, f_vals_15)) else (k0_6, ((mn_size_15 + (1 : Int32)), mn_jumps_13, (vp_updL f_vals_15 mn_size_15.toNatClampNeg p0))))))))))
set_option maxHeartbeats 4000000 in
set_option maxRecDepth 100000 in
theorem c_X4_takeIn (l : Launch) (D : va_G) (cI cJ : ClassId) (h_mn h_vals : Nat) (sz : Nat) (m_size : Int32) (m_most : Int32) (m_window : Int32) (m_jumps : Int32) (f_vals : Nat → Int64) (p0 : Int64) : Met l yX4_takeIn wsX4_takeIn ({ frames := 2, cells := 0, slots := 0, locals := 44 }) (gPc D cI cJ [.ref h_mn, .long p0] [(h_mn, .inr (4, [.ref h_vals, .int m_size, .int m_most, .int m_window, .int m_jumps])), (h_vals, .inl (cJ, 16, .inr (.inl f_vals)))] sz) (gQz D cI cJ (f_X4_takeIn m_size m_most m_window m_jumps f_vals p0) (fun _ _ => True) (fun u : (Int32 × Int32 × (Nat → Int64)) => [(h_mn, .inr (4, [.ref h_vals, .int u.1, .int m_most, .int m_window, .int u.2.1])), (h_vals, .inl (cJ, 16, .inr (.inl u.2.2)))]) (va_A [(h_mn, .inr (4, [.ref h_vals, .int m_size, .int m_most, .int m_window, .int m_jumps])), (h_vals, .inl (cJ, 16, .inr (.inl f_vals)))] sz)) 0 0 (va_A [(h_mn, .inr (4, [.ref h_vals, .int m_size, .int m_most, .int m_window, .int m_jumps])), (h_vals, .inl (cJ, 16, .inr (.inl f_vals)))] sz) := by
  refine g_met (cc := cX4_takeIn) (maxL := 4) (ret := (some .boolean)) (Qc := gQz D cI cJ (f_X4_takeIn m_size m_most m_window m_jumps f_vals p0) _ _) (by decide) rfl (Nat.le_of_ble_eq_true rfl) ?_
  intro A p e s m below meth c hx hb hr hml hts hown hlk hnm hP hK hD hE hA hS ls hl
  have hown : s.vm.findClass RX4 = some m.cls := hown
  have hl : lv_has ls 4 [(0, .ref h_mn), (1, .long p0)] := hl
  have hi4 : ∀ w ∈ u_ws RX4 TX4 5, w ∈ wsX4_takeIn := fun w h9 => List.mem_cons_of_mem _ (List.mem_append_right _ h9)
  have hm1 := hts (.fieldLink RX4 15 "VoltSlopes$Means" "size" "I") (List.mem_of_getElem? (i := 1) rfl)
  have hm2 := hts (.fieldLink RX4 22 "VoltSlopes$Means" "window" "I") (List.mem_of_getElem? (i := 2) rfl)
  have hm3 := hts (.methodLink RX4 45 Lib.MathLoose.abs_long.x) (List.mem_of_getElem? (i := 3) rfl)
  have hm4 := hts (.static Lib.MathLoose.abs_long.x) (List.mem_of_getElem? (i := 4) rfl)
  have hm5 := hts (.initialized "java/lang/Math") (List.mem_of_getElem? (i := 5) rfl)
  have hm6 := hts (.code Lib.MathLoose.abs_long.x Lib.MathLoose.abs_long.code 2 (some .long)) (List.mem_of_getElem? (i := 6) rfl)
  have hm7 := hts (.constantLong RX4 49 (1000)) (List.mem_of_getElem? (i := 7) rfl)
  have hm8 := hts (.fieldLink RX4 25 "VoltSlopes$Means" "jumps" "I") (List.mem_of_getElem? (i := 8) rfl)
  have hm9 := hts (.fieldLink RX4 19 "VoltSlopes$Means" "most" "I") (List.mem_of_getElem? (i := 9) rfl)
  have hm10 := hts (.fieldLink RX4 9 "VoltSlopes$Means" "values" "[J") (List.mem_of_getElem? (i := 10) rfl)
  have hF := f_X4_takeIn.eq_1 m_size m_most m_window m_jumps f_vals p0
  refine lv_aload_n hx hb dX4_takeIn_0 rfl (lv_at hl 0 rfl) ?_
  refine va_get (D := D) (ci := 4) (v := .int m_size) (C := RX4) (T := TX4) (N := 5) hx hb hts hi4 hown hK hP 0 rfl rfl 1 (by decide) hm1 (fun _ h9 => h9) rfl dX4_takeIn_1 ?_
  refine gJoinW (α := Bool) (fun v => [(h_mn, .inr (4, [.ref h_vals, .int m_size, .int m_most, .int m_window, .int m_jumps])), (h_vals, .inl (cJ, 16, .inr (.inl f_vals)))]) (fun v => [(0, .ref h_mn), (1, .long p0)]) 41 (fun v => [.int (bI v)]) (fun v => True) hF hl hD hP (fun K_6 J_6 hF => ?_) (fun v hj_6 hF => ?_)
  · refine lv_if_le (tgt := 40) hx hb dX4_takeIn_4 (by decide) (fun c_4_7 => ?_) (fun c_4_7 => ?_)
    · have hF := hF.trans (if_pos c_4_7)
      have i_4_7 : m_size.toInt ≤ 0 := gi_le c_4_7 rfl (by decide)
      refine lv_iconst (v := 0) hx hb dX4_takeIn_40 (by decide) ?_
      exact J_6 false (trivial) hF _ _ _ hP hD hS (lv_sub hl [0, 1] rfl)
    · have hF := hF.trans (if_neg c_4_7)
      have i_4_7 : 0 < m_size.toInt := gi_nle c_4_7 rfl (by decide)
      refine lv_aload_n hx hb dX4_takeIn_7 rfl (lv_at hl 0 rfl) ?_
      refine va_get (D := D) (ci := 4) (v := .int m_window) (C := RX4) (T := TX4) (N := 5) hx hb hts hi4 hown hK hP 0 rfl rfl 3 (by decide) hm2 (fun _ h9 => h9) rfl dX4_takeIn_8 ?_
      refine lv_if_le (tgt := 40) hx hb dX4_takeIn_11 (by decide) (fun c_11_8 => ?_) (fun c_11_8 => ?_)
      · have hF := hF.trans (if_pos c_11_8)
        have i_11_8 : m_window.toInt ≤ 0 := gi_le c_11_8 rfl (by decide)
        refine lv_iconst (v := 0) hx hb dX4_takeIn_40 (by decide) ?_
        exact J_6 false (trivial) hF _ _ _ hP hD hS (lv_sub hl [0, 1] rfl)
      · have hF := hF.trans (if_neg c_11_8)
        have i_11_8 : 0 < m_window.toInt := gi_nle c_11_8 rfl (by decide)
        refine lv_lload_n hx hb dX4_takeIn_14 rfl (lv_at hl 1 rfl) ?_
        refine lv_aload_n hx hb dX4_takeIn_15 rfl (lv_at hl 0 rfl) ?_
        refine g_cvl (rest := [.long p0]) ⟨hx, hb, hml, hown, hts⟩ hP hD hK hS hA hE (c_X4_shown l D cI cJ h_mn h_vals s.heap.size m_size m_most m_window m_jumps f_vals ) (cwV 0 hts gX4_takeIn_X4_shown rfl rfl rfl (by decide +kernel) ⟨Nat.le_of_ble_eq_true rfl, Nat.le_of_ble_eq_true rfl⟩) [0, 1] [] rfl rfl rfl rfl rfl 4 0 rfl rfl rfl hl rfl (Nat.le_of_ble_eq_true rfl) ⟨Nat.zero_le _, Nat.zero_le _⟩ dX4_takeIn_16 (fun r_16_9 u_9 H locs hw_9 hx_9 hP hD hS => ?_)
        obtain ⟨hP, hD⟩ := g_re (ws' := [(h_mn, .inr (4, [.ref h_vals, .int m_size, .int m_most, .int m_window, .int m_jumps])), (h_vals, .inl (cJ, 16, .inr (.inl f_vals)))]) rfl hP hD
        have hF := hF
        rw [hw_9] at hF
        try dsimp only at hF
        refine lv_lsub hx hb dX4_takeIn_19 ?_
        refine va_mabs_long hx hb (by rw [hml]; exact hl.1.symm) hown hm3 hm4 hm5 hm6 (Nat.le_of_ble_eq_true rfl) (Nat.le_of_ble_eq_true rfl) (Nat.zero_le _) (Nat.zero_le _) dX4_takeIn_20 ?_
        refine W.eq (g2 := F0 m 23 ls [.long (gAbsL (p0 - r_16_9))]) rfl ?_
        refine lv_aload_n hx hb dX4_takeIn_23 rfl (lv_at hl 0 rfl) ?_
        refine va_get (D := D) (ci := 4) (v := .int m_window) (C := RX4) (T := TX4) (N := 5) hx hb hts hi4 hown hK hP 0 rfl rfl 3 (by decide) hm2 (fun _ h9 => h9) rfl dX4_takeIn_24 ?_
        refine lv_i2l (v := m_window.toInt64) hx hb dX4_takeIn_27 rfl ?_
        refine lv_ldc2 hx hb hown hm7 dX4_takeIn_28 ?_
        refine lv_lmul hx hb dX4_takeIn_31 ?_
        refine g_l_le (tgt := 40) hx hb dX4_takeIn_32 dX4_takeIn_33 (by decide) (fun c_32_11 => ?_) (fun c_32_11 => ?_)
        · have hF := hF.trans (if_pos c_32_11)
          refine lv_iconst (v := 0) hx hb dX4_takeIn_40 (by decide) ?_
          exact J_6 false (trivial) hF _ _ _ hP hD hS (lv_sub hl [0, 1] rfl)
        · have hF := hF.trans (if_neg c_32_11)
          refine lv_iconst (v := 1) hx hb dX4_takeIn_36 (by decide) ?_
          refine lv_goto (tgt := 41) hx hb dX4_takeIn_37 (by decide) ?_
          exact J_6 true (trivial) hF _ _ _ hP hD hS (lv_sub hl [0, 1] rfl)
  · obtain ⟨k0_6, rfl⟩ : ∃ z, z = v := ⟨_, rfl⟩
    intro H locs ls hP hD hS hl
    obtain ⟨hP, hD⟩ := g_re (ws' := [(h_mn, .inr (4, [.ref h_vals, .int m_size, .int m_most, .int m_window, .int m_jumps])), (h_vals, .inl (cJ, 16, .inr (.inl f_vals)))]) rfl hP hD
    have hl : lv_has ls 4 [(0, .ref h_mn), (1, .long p0)] := hl
    show W p l e _ s m _ below meth c H locs _ _ _ (F0 m 41 ls [.int (bI k0_6)])
    refine lv_istore_n (lv' := [(3, .int (bI k0_6)), (0, .ref h_mn), (1, .long p0)]) hx hb dX4_takeIn_41 rfl hl (by decide) rfl (fun ls hl => ?_)
    refine lv_iload_n hx hb dX4_takeIn_42 rfl (lv_at hl 0 rfl) ?_
    refine gJoinW (α := (Int32 × Int32)) (fun v => [(h_mn, .inr (4, [.ref h_vals, .int v.1, .int m_most, .int m_window, .int v.2])), (h_vals, .inl (cJ, 16, .inr (.inl f_vals)))]) (fun v => [(0, .ref h_mn), (1, .long p0), (3, .int (bI k0_6))]) 61 (fun v => []) (fun v => True) hF hl hD hP (fun K_13 J_13 hF => ?_) (fun v hj_13 hF => ?_)
    · refine lv_if_eq (tgt := 61) hx hb dX4_takeIn_43 (by decide) (fun c_43_14w => ?_) (fun c_43_14w => ?_)
      · have c_43_14 := bI_f2 c_43_14w
        have hF := hF.trans (if_neg c_43_14)
        exact J_13 (m_size, m_jumps) (trivial) hF _ _ _ hP hD hS (lv_sub hl [1, 2, 0] rfl)
      · have c_43_14 := bI_t c_43_14w
        have hF := hF.trans (if_pos c_43_14)
        refine lv_aload_n hx hb dX4_takeIn_46 rfl (lv_at hl 1 rfl) ?_
        refine lv_iconst (v := 0) hx hb dX4_takeIn_47 (by decide) ?_
        refine va_put (D := D) (ci := 4) (v := .int (0 : Int32)) (ty := .int) (C := RX4) (T := TX4) (N := 5) hx hb hts hi4 tyX4 tyX4_ok nmX4 hown hK hP hD hS 0 rfl rfl 1 (by decide) hm1 (fun _ h9 => h9) rfl (by decide +kernel) rfl rfl (Nat.le_of_ble_eq_true rfl) dX4_takeIn_48 (fun H locs hP hD hS => ?_)
        obtain ⟨hP, hD⟩ := g_re (ws' := [(h_mn, .inr (4, [.ref h_vals, .int (0 : Int32), .int m_most, .int m_window, .int m_jumps])), (h_vals, .inl (cJ, 16, .inr (.inl f_vals)))]) rfl hP hD
        refine lv_aload_n hx hb dX4_takeIn_51 rfl (lv_at hl 1 rfl) ?_
        refine lv_dup hx hb dX4_takeIn_52 rfl ?_
        refine va_get (D := D) (ci := 4) (v := .int m_jumps) (C := RX4) (T := TX4) (N := 5) hx hb hts hi4 hown hK hP 0 rfl rfl 4 (by decide) hm8 (fun _ h9 => h9) rfl dX4_takeIn_53 ?_
        refine lv_iconst (v := 1) hx hb dX4_takeIn_56 (by decide) ?_
        refine lv_iadd hx hb dX4_takeIn_57 ?_
        refine va_put (D := D) (ci := 4) (v := .int (m_jumps + (1 : Int32))) (ty := .int) (C := RX4) (T := TX4) (N := 5) hx hb hts hi4 tyX4 tyX4_ok nmX4 hown hK hP hD hS 0 rfl rfl 4 (by decide) hm8 (fun _ h9 => h9) rfl (by decide +kernel) rfl rfl (Nat.le_of_ble_eq_true rfl) dX4_takeIn_58 (fun H locs hP hD hS => ?_)
        obtain ⟨hP, hD⟩ := g_re (ws' := [(h_mn, .inr (4, [.ref h_vals, .int (0 : Int32), .int m_most, .int m_window, .int (m_jumps + (1 : Int32))])), (h_vals, .inl (cJ, 16, .inr (.inl f_vals)))]) rfl hP hD
        exact J_13 ((0 : Int32), (m_jumps + (1 : Int32))) (trivial) hF _ _ _ hP hD hS (lv_sub hl [1, 2, 0] rfl)
    · obtain ⟨mn_size_13, mn_jumps_13⟩ := v
      intro H locs ls hP hD hS hl
      have hF := hF
      try dsimp only at hF
      obtain ⟨hP, hD⟩ := g_re (ws' := [(h_mn, .inr (4, [.ref h_vals, .int mn_size_13, .int m_most, .int m_window, .int mn_jumps_13])), (h_vals, .inl (cJ, 16, .inr (.inl f_vals)))]) rfl hP hD
      have hl : lv_has ls 4 [(0, .ref h_mn), (1, .long p0), (3, .int (bI k0_6))] := hl
      show W p l e _ s m _ below meth c H locs _ _ _ (F0 m 61 ls [])
      refine lv_aload_n hx hb dX4_takeIn_61 rfl (lv_at hl 0 rfl) ?_
      refine lv_aload_n hx hb dX4_takeIn_62 rfl (lv_at hl 0 rfl) ?_
      refine va_get (D := D) (ci := 4) (v := .int m_most) (C := RX4) (T := TX4) (N := 5) hx hb hts hi4 hown hK hP 0 rfl rfl 2 (by decide) hm9 (fun _ h9 => h9) rfl dX4_takeIn_63 ?_
      refine lv_iconst (v := 1) hx hb dX4_takeIn_66 (by decide) ?_
      refine lv_isub hx hb dX4_takeIn_67 ?_
      refine g_cvv (rest := []) ⟨hx, hb, hml, hown, hts⟩ hP hD hK hS hA hE (c_X4_keepNewest l D cI cJ h_mn h_vals H.size mn_size_13 m_most m_window mn_jumps_13 f_vals (m_most - (1 : Int32))) (cwV 1 hts gX4_takeIn_X4_keepNewest rfl rfl rfl (by decide +kernel) ⟨Nat.le_of_ble_eq_true rfl, Nat.le_of_ble_eq_true rfl⟩) [0, 1] [] rfl rfl rfl rfl rfl 4 0 rfl rfl rfl hl rfl (Nat.le_of_ble_eq_true rfl) ⟨Nat.zero_le _, Nat.zero_le _⟩ dX4_takeIn_68 (fun u_15 H locs hw_15 hx_15 hP hD hS => ?_)
      obtain ⟨mn_size_15, f_vals_15⟩ := u_15
      obtain ⟨hP, hD⟩ := g_re (ws' := [(h_mn, .inr (4, [.ref h_vals, .int mn_size_15, .int m_most, .int m_window, .int mn_jumps_13])), (h_vals, .inl (cJ, 16, .inr (.inl f_vals_15)))]) rfl hP hD
      have hF := hF
      rw [hw_15] at hF
      try dsimp only at hF
      refine lv_aload_n hx hb dX4_takeIn_71 rfl (lv_at hl 0 rfl) ?_
      refine va_get (D := D) (ci := 4) (v := .int mn_size_15) (C := RX4) (T := TX4) (N := 5) hx hb hts hi4 hown hK hP 0 rfl rfl 1 (by decide) hm1 (fun _ h9 => h9) rfl dX4_takeIn_72 ?_
      refine lv_if_lt (tgt := 110) hx hb dX4_takeIn_75 (by decide) (fun c_75_16 => ?_) (fun c_75_16 => ?_)
      · have hF := hF.trans (if_pos c_75_16)
        have i_75_16 : mn_size_15.toInt < 0 := gi_lt c_75_16 rfl (by decide)
        refine lv_iload_n hx hb dX4_takeIn_110 rfl (lv_at hl 2 rfl) ?_
        exact g_zret k0_6 (mn_size_15, mn_jumps_13, f_vals_15) hx hb hr hlk hP hK hD hS hF trivial rfl dX4_takeIn_111
      · have hF := hF.trans (if_neg c_75_16)
        have i_75_16 : 0 ≤ mn_size_15.toInt := gi_nlt c_75_16 rfl (by decide)
        refine lv_aload_n hx hb dX4_takeIn_78 rfl (lv_at hl 0 rfl) ?_
        refine va_get (D := D) (ci := 4) (v := .int mn_size_15) (C := RX4) (T := TX4) (N := 5) hx hb hts hi4 hown hK hP 0 rfl rfl 1 (by decide) hm1 (fun _ h9 => h9) rfl dX4_takeIn_79 ?_
        refine lv_aload_n hx hb dX4_takeIn_82 rfl (lv_at hl 0 rfl) ?_
        refine va_get (D := D) (ci := 4) (v := .ref h_vals) (C := RX4) (T := TX4) (N := 5) hx hb hts hi4 hown hK hP 0 rfl rfl 0 (by decide) hm10 (fun _ h9 => h9) rfl dX4_takeIn_83 ?_
        refine va_alen (v := 16) hx hb hK hP 1 1 rfl rfl rfl dX4_takeIn_86 ?_
        refine lv_icmp_ge (tgt := 110) hx hb dX4_takeIn_87 (by decide) (fun c_87_17 => ?_) (fun c_87_17 => ?_)
        · have hF := hF.trans (if_pos c_87_17)
          have i_87_17 : 16 ≤ mn_size_15.toInt := gi_le c_87_17 (by decide) rfl
          refine lv_iload_n hx hb dX4_takeIn_110 rfl (lv_at hl 2 rfl) ?_
          exact g_zret k0_6 (mn_size_15, mn_jumps_13, f_vals_15) hx hb hr hlk hP hK hD hS hF trivial rfl dX4_takeIn_111
        · have hF := hF.trans (if_neg c_87_17)
          have i_87_17 : mn_size_15.toInt < 16 := gi_nle c_87_17 (by decide) rfl
          refine lv_aload_n hx hb dX4_takeIn_90 rfl (lv_at hl 0 rfl) ?_
          refine va_get (D := D) (ci := 4) (v := .ref h_vals) (C := RX4) (T := TX4) (N := 5) hx hb hts hi4 hown hK hP 0 rfl rfl 0 (by decide) hm10 (fun _ h9 => h9) rfl dX4_takeIn_91 ?_
          refine lv_aload_n hx hb dX4_takeIn_94 rfl (lv_at hl 0 rfl) ?_
          refine va_get (D := D) (ci := 4) (v := .int mn_size_15) (C := RX4) (T := TX4) (N := 5) hx hb hts hi4 hown hK hP 0 rfl rfl 1 (by decide) hm1 (fun _ h9 => h9) rfl dX4_takeIn_95 ?_
          refine lv_lload_n hx hb dX4_takeIn_98 rfl (lv_at hl 1 rfl) ?_
          refine va_last hx hb hK hP hD hS 1 1 rfl rfl (gi_in ⟨by omega, by omega⟩) dX4_takeIn_99 (fun H locs hP hD hS => ?_)
          obtain ⟨hP, hD⟩ := g_re (ws' := [(h_mn, .inr (4, [.ref h_vals, .int mn_size_15, .int m_most, .int m_window, .int mn_jumps_13])), (h_vals, .inl (cJ, 16, .inr (.inl (vp_updL f_vals_15 mn_size_15.toNatClampNeg p0))))]) rfl hP hD
          refine lv_aload_n hx hb dX4_takeIn_100 rfl (lv_at hl 0 rfl) ?_
          refine lv_dup hx hb dX4_takeIn_101 rfl ?_
          refine va_get (D := D) (ci := 4) (v := .int mn_size_15) (C := RX4) (T := TX4) (N := 5) hx hb hts hi4 hown hK hP 0 rfl rfl 1 (by decide) hm1 (fun _ h9 => h9) rfl dX4_takeIn_102 ?_
          refine lv_iconst (v := 1) hx hb dX4_takeIn_105 (by decide) ?_
          refine lv_iadd hx hb dX4_takeIn_106 ?_
          refine va_put (D := D) (ci := 4) (v := .int (mn_size_15 + (1 : Int32))) (ty := .int) (C := RX4) (T := TX4) (N := 5) hx hb hts hi4 tyX4 tyX4_ok nmX4 hown hK hP hD hS 0 rfl rfl 1 (by decide) hm1 (fun _ h9 => h9) rfl (by decide +kernel) rfl rfl (Nat.le_of_ble_eq_true rfl) dX4_takeIn_107 (fun H locs hP hD hS => ?_)
          obtain ⟨hP, hD⟩ := g_re (ws' := [(h_mn, .inr (4, [.ref h_vals, .int (mn_size_15 + (1 : Int32)), .int m_most, .int m_window, .int mn_jumps_13])), (h_vals, .inl (cJ, 16, .inr (.inl (vp_updL f_vals_15 mn_size_15.toNatClampNeg p0))))]) rfl hP hD
          refine lv_iload_n hx hb dX4_takeIn_110 rfl (lv_at hl 2 rfl) ?_
          exact g_zret k0_6 ((mn_size_15 + (1 : Int32)), mn_jumps_13, (vp_updL f_vals_15 mn_size_15.toNatClampNeg p0)) hx hb hr hlk hP hK hD hS hF trivial rfl dX4_takeIn_111
