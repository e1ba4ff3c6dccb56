noncomputable def f_X6_begin  : (Int32 × Bool × Int64 × Int32) := ((0 : Int32), false, (0 : Int64), (0 : Int32))
set_option maxHeartbeats 4000000 in
set_option maxRecDepth 100000 in
theorem c_X6_begin (l : Launch) (D : va_G) (cI cJ : ClassId) (h_ps : Nat) (sz : Nat) (r_stage : Int32) (r_below : Bool) (r_amount : Int64) (r_command : Int32) : Met l yX6_begin wsX6_begin ({ frames := 0, cells := 0, slots := 0, locals := 0 }) (gPc D cI cJ [.ref h_ps] [(h_ps, .inr (6, [.int r_stage, .int (bI r_below), .long r_amount, .int r_command]))] sz) (gQv D cI cJ f_X6_begin (fun _ => True) (fun u : (Int32 × Bool × Int64 × Int32) => [(h_ps, .inr (6, [.int u.1, .int (bI u.2.1), .long u.2.2.1, .int u.2.2.2]))]) (va_A [(h_ps, .inr (6, [.int r_stage, .int (bI r_below), .long r_amount, .int r_command]))] sz)) 0 0 (va_A [(h_ps, .inr (6, [.int r_stage, .int (bI r_below), .long r_amount, .int r_command]))] sz) := by
  refine g_met (cc := cX6_begin) (maxL := 1) (ret := none) (Qc := gQv D cI cJ f_X6_begin _ _) (by decide) rfl (Nat.le_of_ble_eq_true rfl) ?_
  intro A p e s m below meth c hx hb hr hml hts hown hlk hnm hP hK hD hE hA hS ls hl
  have hown : s.vm.findClass RX6 = some m.cls := hown
  have hl : lv_has ls 1 [(0, .ref h_ps)] := hl
  have hi6 : ∀ w ∈ u_ws RX6 TX6 4, w ∈ wsX6_begin := fun w h9 => List.mem_cons_of_mem _ (List.mem_append_right _ h9)
  have hm1 := hts (.fieldLink RX6 11 "VoltSlopes$Parser" "stage" "I") (List.mem_of_getElem? (i := 1) rfl)
  have hm2 := hts (.fieldLink RX6 23 "VoltSlopes$Parser" "command" "I") (List.mem_of_getElem? (i := 2) rfl)
  have hm3 := hts (.fieldLink RX6 15 "VoltSlopes$Parser" "below" "Z") (List.mem_of_getElem? (i := 3) rfl)
  have hm4 := hts (.fieldLink RX6 19 "VoltSlopes$Parser" "amount" "J") (List.mem_of_getElem? (i := 4) rfl)
  have hF := f_X6_begin.eq_1
  refine lv_aload_n hx hb dX6_begin_0 rfl (lv_at hl 0 rfl) ?_
  refine lv_iconst (v := 0) hx hb dX6_begin_1 (by decide) ?_
  refine va_put (D := D) (ci := 6) (v := .int (0 : Int32)) (ty := .int) (C := RX6) (T := TX6) (N := 4) hx hb hts hi6 tyX6 tyX6_ok nmX6 hown hK hP hD hS 0 rfl rfl 0 (by decide) hm1 (fun _ h9 => h9) rfl (by decide +kernel) rfl rfl (Nat.le_of_ble_eq_true rfl) dX6_begin_2 (fun H locs hP hD hS => ?_)
  obtain ⟨hP, hD⟩ := g_re (ws' := [(h_ps, .inr (6, [.int (0 : Int32), .int (bI r_below), .long r_amount, .int r_command]))]) rfl hP hD
  refine lv_aload_n hx hb dX6_begin_5 rfl (lv_at hl 0 rfl) ?_
  refine lv_iconst (v := 0) hx hb dX6_begin_6 (by decide) ?_
  refine va_put (D := D) (ci := 6) (v := .int (0 : Int32)) (ty := .int) (C := RX6) (T := TX6) (N := 4) hx hb hts hi6 tyX6 tyX6_ok nmX6 hown hK hP hD hS 0 rfl rfl 3 (by decide) hm2 (fun _ h9 => h9) rfl (by decide +kernel) rfl rfl (Nat.le_of_ble_eq_true rfl) dX6_begin_7 (fun H locs hP hD hS => ?_)
  obtain ⟨hP, hD⟩ := g_re (ws' := [(h_ps, .inr (6, [.int (0 : Int32), .int (bI r_below), .long r_amount, .int (0 : Int32)]))]) rfl hP hD
  refine lv_aload_n hx hb dX6_begin_10 rfl (lv_at hl 0 rfl) ?_
  refine lv_iconst (v := 0) hx hb dX6_begin_11 (by decide) ?_
  refine va_put (D := D) (ci := 6) (v := .int (bI false)) (ty := .boolean) (C := RX6) (T := TX6) (N := 4) hx hb hts hi6 tyX6 tyX6_ok nmX6 hown hK hP hD hS 0 rfl rfl 1 (by decide) hm3 (fun _ h9 => h9) rfl (by decide +kernel) (bI_nar false) (bI_fit false) (Nat.le_of_ble_eq_true rfl) dX6_begin_12 (fun H locs hP hD hS => ?_)
  obtain ⟨hP, hD⟩ := g_re (ws' := [(h_ps, .inr (6, [.int (0 : Int32), .int (bI false), .long r_amount, .int (0 : Int32)]))]) rfl hP hD
  refine lv_aload_n hx hb dX6_begin_15 rfl (lv_at hl 0 rfl) ?_
  refine lv_lconst (v := 0) hx hb dX6_begin_16 (by decide) ?_
  refine va_put (D := D) (ci := 6) (v := .long (0 : Int64)) (ty := .long) (C := RX6) (T := TX6) (N := 4) hx hb hts hi6 tyX6 tyX6_ok nmX6 hown hK hP hD hS 0 rfl rfl 2 (by decide) hm4 (fun _ h9 => h9) rfl (by decide +kernel) rfl rfl (Nat.le_of_ble_eq_true rfl) dX6_begin_17 (fun H locs hP hD hS => ?_)
  obtain ⟨hP, hD⟩ := g_re (ws' := [(h_ps, .inr (6, [.int (0 : Int32), .int (bI false), .long (0 : Int64), .int (0 : Int32)]))]) rfl hP hD
  exact g_vret ((0 : Int32), false, (0 : Int64), (0 : Int32)) hx hb hr hlk hP hK hD hS hF trivial rfl dX6_begin_20

noncomputable def f_X6_value (r_below : Bool) (r_amount : Int64) : (Int32 × Unit) := (if r_below = true then ((-r_amount).toInt32, ()) else (r_amount.toInt32, ()))
set_option maxHeartbeats 4000000 in
set_option maxRecDepth 100000 in
theorem c_X6_value (l : Launch) (D : va_G) (cI cJ : ClassId) (h_ps : Nat) (sz : Nat) (r_stage : Int32) (r_below : Bool) (r_amount : Int64) (r_command : Int32) : Met l yX6_value wsX6_value ({ frames := 0, cells := 0, slots := 0, locals := 0 }) (gPc D cI cJ [.ref h_ps] [(h_ps, .inr (6, [.int r_stage, .int (bI r_below), .long r_amount, .int r_command]))] sz) (gQi D cI cJ (f_X6_value r_below r_amount) (fun _ _ => True) (fun _ : Unit => [(h_ps, .inr (6, [.int r_stage, .int (bI r_below), .long r_amount, .int r_command]))]) (va_A [(h_ps, .inr (6, [.int r_stage, .int (bI r_below), .long r_amount, .int r_command]))] sz)) 0 0 (va_A [(h_ps, .inr (6, [.int r_stage, .int (bI r_below), .long r_amount, .int r_command]))] sz) := by
  refine g_met (cc := cX6_value) (maxL := 1) (ret := (some .int)) (Qc := gQi D cI cJ (f_X6_value r_below r_amount) _ _) (by decide) rfl (Nat.le_of_ble_eq_true rfl) ?_
  intro A p e s m below meth c hx hb hr hml hts hown hlk hnm hP hK hD hE hA hS ls hl
  have hown : s.vm.findClass RX6 = some m.cls := hown
  have hl : lv_has ls 1 [(0, .ref h_ps)] := hl
  have hi6 : ∀ w ∈ u_ws RX6 TX6 4, w ∈ wsX6_value := fun w h9 => List.mem_cons_of_mem _ (List.mem_append_right _ h9)
  have hm1 := hts (.fieldLink RX6 15 "VoltSlopes$Parser" "below" "Z") (List.mem_of_getElem? (i := 1) rfl)
  have hm2 := hts (.fieldLink RX6 19 "VoltSlopes$Parser" "amount" "J") (List.mem_of_getElem? (i := 2) rfl)
  have hF := f_X6_value.eq_1 r_below r_amount
  refine lv_aload_n hx hb dX6_value_0 rfl (lv_at hl 0 rfl) ?_
  refine va_get (D := D) (ci := 6) (v := .int (bI r_below)) (C := RX6) (T := TX6) (N := 4) hx hb hts hi6 hown hK hP 0 rfl rfl 1 (by decide) hm1 (fun _ h9 => h9) rfl dX6_value_1 ?_
  refine lv_if_eq (tgt := 15) hx hb dX6_value_4 (by decide) (fun c_4_1w => ?_) (fun c_4_1w => ?_)
  · have c_4_1 := bI_f2 c_4_1w
    have hF := hF.trans (if_neg c_4_1)
    refine lv_aload_n hx hb dX6_value_15 rfl (lv_at hl 0 rfl) ?_
    refine va_get (D := D) (ci := 6) (v := .long r_amount) (C := RX6) (T := TX6) (N := 4) hx hb hts hi6 hown hK hP 0 rfl rfl 2 (by decide) hm2 (fun _ h9 => h9) rfl dX6_value_16 ?_
    refine lv_l2i (v := r_amount.toInt32) hx hb dX6_value_19 rfl ?_
    exact g_iret () hx hb hr hlk hP hK hD hS hF trivial rfl dX6_value_20
  · have c_4_1 := bI_t c_4_1w
    have hF := hF.trans (if_pos c_4_1)
    refine lv_aload_n hx hb dX6_value_7 rfl (lv_at hl 0 rfl) ?_
    refine va_get (D := D) (ci := 6) (v := .long r_amount) (C := RX6) (T := TX6) (N := 4) hx hb hts hi6 hown hK hP 0 rfl rfl 2 (by decide) hm2 (fun _ h9 => h9) rfl dX6_value_8 ?_
    refine lv_lneg hx hb dX6_value_11 ?_
    refine lv_goto (tgt := 19) hx hb dX6_value_12 (by decide) ?_
    refine lv_l2i (v := (-r_amount).toInt32) hx hb dX6_value_19 rfl ?_
    exact g_iret () hx hb hr hlk hP hK hD hS hF trivial rfl dX6_value_20

noncomputable def f_X6_mayEnd (r_stage : Int32) (r_below : Bool) (r_amount : Int64) (r_command : Int32) : (Bool × Unit) := (if r_stage = (3 : Int32) then (match (f_X6_value r_below r_amount) with | (r_17_2, _) => (match (f_X6_least r_command) with | (r_24_3, _) => (if r_17_2 < r_24_3 then (false, ()) else (true, ())))) else (if r_stage = (4 : Int32) then (match (f_X6_value r_below r_amount) with | (r_17_6, _) => (match (f_X6_least r_command) with | (r_24_7, _) => (if r_17_6 < r_24_7 then (false, ()) else (true, ())))) else (false, ())))
set_option maxHeartbeats 4000000 in
set_option maxRecDepth 100000 in
theorem c_X6_mayEnd (l : Launch) (D : va_G) (cI cJ : ClassId) (h_ps : Nat) (sz : Nat) (r_stage : Int32) (r_below : Bool) (r_amount : Int64) (r_command : Int32) : Met l yX6_mayEnd wsX6_mayEnd ({ frames := 1, cells := 0, slots := 0, locals := 20 }) (gPc D cI cJ [.ref h_ps] [(h_ps, .inr (6, [.int r_stage, .int (bI r_below), .long r_amount, .int r_command]))] sz) (gQz D cI cJ (f_X6_mayEnd r_stage r_below r_amount r_command) (fun _ _ => True) (fun _ : Unit => [(h_ps, .inr (6, [.int r_stage, .int (bI r_below), .long r_amount, .int r_command]))]) (va_A [(h_ps, .inr (6, [.int r_stage, .int (bI r_below), .long r_amount, .int r_command]))] sz)) 0 0 (va_A [(h_ps, .inr (6, [.int r_stage, .int (bI r_below), .long r_amount, .int r_command]))] sz) := by
  refine g_met (cc := cX6_mayEnd) (maxL := 1) (ret := (some .boolean)) (Qc := gQz D cI cJ (f_X6_mayEnd r_stage r_below r_amount r_command) _ _) (by decide) rfl (Nat.le_of_ble_eq_true rfl) ?_
  intro A p e s m below meth c hx hb hr hml hts hown hlk hnm hP hK hD hE hA hS ls hl
  have hown : s.vm.findClass RX6 = some m.cls := hown
  have hl : lv_has ls 1 [(0, .ref h_ps)] := hl
  have hi6 : ∀ w ∈ u_ws RX6 TX6 4, w ∈ wsX6_mayEnd := fun w h9 => List.mem_cons_of_mem _ (List.mem_append_right _ h9)
  have hm1 := hts (.fieldLink RX6 11 "VoltSlopes$Parser" "stage" "I") (List.mem_of_getElem? (i := 1) rfl)
  have hm2 := hts (.fieldLink RX6 23 "VoltSlopes$Parser" "command" "I") (List.mem_of_getElem? (i := 2) rfl)
  have hF := f_X6_mayEnd.eq_1 r_stage r_below r_amount r_command
  refine lv_aload_n hx hb dX6_mayEnd_0 rfl (lv_at hl 0 rfl) ?_
  refine va_get (D := D) (ci := 6) (v := .int r_stage) (C := RX6) (T := TX6) (N := 4) hx hb hts hi6 hown hK hP 0 rfl rfl 0 (by decide) hm1 (fun _ h9 => h9) rfl dX6_mayEnd_1 ?_
  refine lv_iconst (v := 3) hx hb dX6_mayEnd_4 (by decide) ?_
  refine lv_icmp_eq (tgt := 16) hx hb dX6_mayEnd_5 (by decide) (fun c_5_1 => ?_) (fun c_5_1 => ?_)
  · have hF := hF.trans (if_pos c_5_1)
    refine lv_aload_n hx hb dX6_mayEnd_16 rfl (lv_at hl 0 rfl) ?_
    refine g_cvi (rest := []) ⟨hx, hb, hml, hown, hts⟩ hP hD hK hS hA hE (c_X6_value l D cI cJ h_ps s.heap.size r_stage r_below r_amount r_command ) (cwV 0 hts gX6_mayEnd_X6_value rfl rfl rfl (by decide +kernel) ⟨Nat.le_of_ble_eq_true rfl, Nat.le_of_ble_eq_true rfl⟩) [0] [] rfl rfl rfl rfl rfl 6 0 rfl rfl rfl hl rfl (Nat.le_of_ble_eq_true rfl) ⟨Nat.zero_le _, Nat.zero_le _⟩ dX6_mayEnd_17 (fun r_17_2 u_2 H locs hw_2 hx_2 hP hD hS => ?_)
    obtain ⟨hP, hD⟩ := g_re (ws' := [(h_ps, .inr (6, [.int r_stage, .int (bI r_below), .long r_amount, .int r_command]))]) rfl hP hD
    have hF := hF
    rw [hw_2] at hF
    try dsimp only at hF
    refine lv_aload_n hx hb dX6_mayEnd_20 rfl (lv_at hl 0 rfl) ?_
    refine va_get (D := D) (ci := 6) (v := .int r_command) (C := RX6) (T := TX6) (N := 4) hx hb hts hi6 hown hK hP 0 rfl rfl 3 (by decide) hm2 (fun _ h9 => h9) rfl dX6_mayEnd_21 ?_
    refine g_csi (rest := [.int r_17_2]) ⟨hx, hb, hml, hown, hts⟩ hP hD hK hS hA hE (c_X6_least l D cI cJ H.size r_command) (va_cwS 1 hts gX6_mayEnd_X6_least rfl rfl rfl (by decide +kernel) ⟨Nat.le_of_ble_eq_true rfl, Nat.le_of_ble_eq_true rfl⟩) rfl hl rfl (Nat.le_of_ble_eq_true rfl) ⟨Nat.zero_le _, Nat.zero_le _⟩ dX6_mayEnd_24 (fun r_24_3 H locs hw_3 hx_3 hP hS => ?_)
    have hF := hF
    rw [hw_3] at hF
    try dsimp only at hF
    refine lv_icmp_lt (tgt := 34) hx hb dX6_mayEnd_27 (by decide) (fun c_27_4 => ?_) (fun c_27_4 => ?_)
    · have hF := hF.trans (if_pos c_27_4)
      refine lv_iconst (v := 0) hx hb dX6_mayEnd_34 (by decide) ?_
      exact g_zret false () hx hb hr hlk hP hK hD hS hF trivial rfl dX6_mayEnd_35
    · have hF := hF.trans (if_neg c_27_4)
      refine lv_iconst (v := 1) hx hb dX6_mayEnd_30 (by decide) ?_
      refine lv_goto (tgt := 35) hx hb dX6_mayEnd_31 (by decide) ?_
      exact g_zret true () hx hb hr hlk hP hK hD hS hF trivial rfl dX6_mayEnd_35
  · have hF := hF.trans (if_neg c_5_1)
    refine lv_aload_n hx hb dX6_mayEnd_8 rfl (lv_at hl 0 rfl) ?_
    refine va_get (D := D) (ci := 6) (v := .int r_stage) (C := RX6) (T := TX6) (N := 4) hx hb hts hi6 hown hK hP 0 rfl rfl 0 (by decide) hm1 (fun _ h9 => h9) rfl dX6_mayEnd_9 ?_
    refine lv_iconst (v := 4) hx hb dX6_mayEnd_12 (by decide) ?_
    refine lv_icmp_ne (tgt := 34) hx hb dX6_mayEnd_13 (by decide) (fun c_13_5 => ?_) (fun c_13_5 => ?_)
    · have hF := hF.trans (if_neg c_13_5)
      refine lv_iconst (v := 0) hx hb dX6_mayEnd_34 (by decide) ?_
      exact g_zret false () hx hb hr hlk hP hK hD hS hF trivial rfl dX6_mayEnd_35
    · have hF := hF.trans (if_pos c_13_5)
      refine lv_aload_n hx hb dX6_mayEnd_16 rfl (lv_at hl 0 rfl) ?_
      refine g_cvi (rest := []) ⟨hx, hb, hml, hown, hts⟩ hP hD hK hS hA hE (c_X6_value l D cI cJ h_ps s.heap.size r_stage r_below r_amount r_command ) (cwV 0 hts gX6_mayEnd_X6_value rfl rfl rfl (by decide +kernel) ⟨Nat.le_of_ble_eq_true rfl, Nat.le_of_ble_eq_true rfl⟩) [0] [] rfl rfl rfl rfl rfl 6 0 rfl rfl rfl hl rfl (Nat.le_of_ble_eq_true rfl) ⟨Nat.zero_le _, Nat.zero_le _⟩ dX6_mayEnd_17 (fun r_17_6 u_6 H locs hw_6 hx_6 hP hD hS => ?_)
      obtain ⟨hP, hD⟩ := g_re (ws' := [(h_ps, .inr (6, [.int r_stage, .int (bI r_below), .long r_amount, .int r_command]))]) rfl hP hD
      have hF := hF
      rw [hw_6] at hF
      try dsimp only at hF
      refine lv_aload_n hx hb dX6_mayEnd_20 rfl (lv_at hl 0 rfl) ?_
      refine va_get (D := D) (ci := 6) (v := .int r_command) (C := RX6) (T := TX6) (N := 4) hx hb hts hi6 hown hK hP 0 rfl rfl 3 (by decide) hm2 (fun _ h9 => h9) rfl dX6_mayEnd_21 ?_
      refine g_csi (rest := [.int r_17_6]) ⟨hx, hb, hml, hown, hts⟩ hP hD hK hS hA hE (c_X6_least l D cI cJ H.size r_command) (va_cwS 1 hts gX6_mayEnd_X6_least rfl rfl rfl (by decide +kernel) ⟨Nat.le_of_ble_eq_true rfl, Nat.le_of_ble_eq_true rfl⟩) rfl hl rfl (Nat.le_of_ble_eq_true rfl) ⟨Nat.zero_le _, Nat.zero_le _⟩ dX6_mayEnd_24 (fun r_24_7 H locs hw_7 hx_7 hP hS => ?_)
      have hF := hF
      rw [hw_7] at hF
      try dsimp only at hF
      refine lv_icmp_lt (tgt := 34) hx hb dX6_mayEnd_27 (by decide) (fun c_27_8 => ?_) (fun c_27_8 => ?_)
      · have hF := hF.trans (if_pos c_27_8)
        refine lv_iconst (v := 0) hx hb dX6_mayEnd_34 (by decide) ?_
        exact g_zret false () hx hb hr hlk hP hK hD hS hF trivial rfl dX6_mayEnd_35
      · have hF := hF.trans (if_neg c_27_8)
        refine lv_iconst (v := 1) hx hb dX6_mayEnd_30 (by decide) ?_
        refine lv_goto (tgt := 35) hx hb dX6_mayEnd_31 (by decide) ?_
        exact g_zret true () hx hb hr hlk hP hK hD hS hF trivial rfl dX6_mayEnd_35

noncomputable def f_X6_takesCommand (r_stage : Int32) (r_below : Bool) (r_amount : Int64) (r_command : Int32) (p0 : Int32) : (Bool × (Int32 × Bool × Int64 × Int32)) := (match (f_X6_most p0) with | (r_1_1, _) => (if (0 : Int32) ≤ r_1_1 then (if p0 = (65 : Int32) then (true, ((4 : Int32), false, (0 : Int64), p0)) else (true, ((1 : Int32), false, (0 : Int64), p0))) else (false, (r_stage, r_below, r_amount, r_command))))
set_option maxHeartbeats 4000000 in
set_option maxRecDepth 100000 in
theorem c_X6_takesCommand (l : Launch) (D : va_G) (cI cJ : ClassId) (h_ps : Nat) (sz : Nat) (r_stage : Int32) (r_below : Bool) (r_amount : Int64) (r_command : Int32) (p0 : Int32) : Met l yX6_takesCommand wsX6_takesCommand ({ frames := 1, cells := 0, slots := 0, locals := 20 }) (gPc D cI cJ [.ref h_ps, .int p0] [(h_ps, .inr (6, [.int r_stage, .int (bI r_below), .long r_amount, .int r_command]))] sz) (gQz D cI cJ (f_X6_takesCommand r_stage r_below r_amount r_command p0) (fun _ _ => True) (fun u : (Int32 × Bool × Int64 × Int32) => [(h_ps, .inr (6, [.int u.1, .int (bI u.2.1), .long u.2.2.1, .int u.2.2.2]))]) (va_A [(h_ps, .inr (6, [.int r_stage, .int (bI r_below), .long r_amount, .int r_command]))] sz)) 0 0 (va_A [(h_ps, .inr (6, [.int r_stage, .int (bI r_below), .long r_amount, .int r_command]))] sz) := by
  refine g_met (cc := cX6_takesCommand) (maxL := 2) (ret := (some .boolean)) (Qc := gQz D cI cJ (f_X6_takesCommand r_stage r_below r_amount r_command p0) _ _) (by decide) rfl (Nat.le_of_ble_eq_true rfl) ?_
  intro A p e s m below meth c hx hb hr hml hts hown hlk hnm hP hK hD hE hA hS ls hl
  have hown : s.vm.findClass RX6 = some m.cls := hown
  have hl : lv_has ls 2 [(0, .ref h_ps), (1, .int p0)] := hl
  have hi6 : ∀ w ∈ u_ws RX6 TX6 4, w ∈ wsX6_takesCommand := fun w h9 => List.mem_cons_of_mem _ (List.mem_append_right _ h9)
  have hm1 := hts (.fieldLink RX6 23 "VoltSlopes$Parser" "command" "I") (List.mem_of_getElem? (i := 1) rfl)
  have hm2 := hts (.fieldLink RX6 15 "VoltSlopes$Parser" "below" "Z") (List.mem_of_getElem? (i := 2) rfl)
  have hm3 := hts (.fieldLink RX6 19 "VoltSlopes$Parser" "amount" "J") (List.mem_of_getElem? (i := 3) rfl)
  have hm4 := hts (.fieldLink RX6 11 "VoltSlopes$Parser" "stage" "I") (List.mem_of_getElem? (i := 4) rfl)
  have hF := f_X6_takesCommand.eq_1 r_stage r_below r_amount r_command p0
  refine lv_iload_n hx hb dX6_takesCommand_0 rfl (lv_at hl 1 rfl) ?_
  refine g_csi (rest := []) ⟨hx, hb, hml, hown, hts⟩ hP hD hK hS hA hE (c_X6_most l D cI cJ s.heap.size p0) (va_cwS 1 hts gX6_takesCommand_X6_most rfl rfl rfl (by decide +kernel) ⟨Nat.le_of_ble_eq_true rfl, Nat.le_of_ble_eq_true rfl⟩) rfl hl rfl (Nat.le_of_ble_eq_true rfl) ⟨Nat.zero_le _, Nat.zero_le _⟩ dX6_takesCommand_1 (fun r_1_1 H locs hw_1 hx_1 hP hS => ?_)
  have hF := hF
  rw [hw_1] at hF
  try dsimp only at hF
  refine lv_if_ge (tgt := 9) hx hb dX6_takesCommand_4 (by decide) (fun c_4_2 => ?_) (fun c_4_2 => ?_)
  · have hF := hF.trans (if_pos c_4_2)
    refine lv_aload_n hx hb dX6_takesCommand_9 rfl (lv_at hl 0 rfl) ?_
    refine lv_iload_n hx hb dX6_takesCommand_10 rfl (lv_at hl 1 rfl) ?_
    refine va_put (D := D) (ci := 6) (v := .int p0) (ty := .int) (C := RX6) (T := TX6) (N := 4) hx hb hts hi6 tyX6 tyX6_ok nmX6 hown hK hP hD hS 0 rfl rfl 3 (by decide) hm1 (fun _ h9 => h9) rfl (by decide +kernel) rfl rfl (Nat.le_of_ble_eq_true rfl) dX6_takesCommand_11 (fun H locs hP hD hS => ?_)
    obtain ⟨hP, hD⟩ := g_re (ws' := [(h_ps, .inr (6, [.int r_stage, .int (bI r_below), .long r_amount, .int p0]))]) rfl hP hD
    refine lv_aload_n hx hb dX6_takesCommand_14 rfl (lv_at hl 0 rfl) ?_
    refine lv_iconst (v := 0) hx hb dX6_takesCommand_15 (by decide) ?_
    refine va_put (D := D) (ci := 6) (v := .int (bI false)) (ty := .boolean) (C := RX6) (T := TX6) (N := 4) hx hb hts hi6 tyX6 tyX6_ok nmX6 hown hK hP hD hS 0 rfl rfl 1 (by decide) hm2 (fun _ h9 => h9) rfl (by decide +kernel) (bI_nar false) (bI_fit false) (Nat.le_of_ble_eq_true rfl) dX6_takesCommand_16 (fun H locs hP hD hS => ?_)
    obtain ⟨hP, hD⟩ := g_re (ws' := [(h_ps, .inr (6, [.int r_stage, .int (bI false), .long r_amount, .int p0]))]) rfl hP hD
    refine lv_aload_n hx hb dX6_takesCommand_19 rfl (lv_at hl 0 rfl) ?_
    refine lv_lconst (v := 0) hx hb dX6_takesCommand_20 (by decide) ?_
    refine va_put (D := D) (ci := 6) (v := .long (0 : Int64)) (ty := .long) (C := RX6) (T := TX6) (N := 4) hx hb hts hi6 tyX6 tyX6_ok nmX6 hown hK hP hD hS 0 rfl rfl 2 (by decide) hm3 (fun _ h9 => h9) rfl (by decide +kernel) rfl rfl (Nat.le_of_ble_eq_true rfl) dX6_takesCommand_21 (fun H locs hP hD hS => ?_)
    obtain ⟨hP, hD⟩ := g_re (ws' := [(h_ps, .inr (6, [.int r_stage, .int (bI false), .long (0 : Int64), .int p0]))]) rfl hP hD
    refine lv_aload_n hx hb dX6_takesCommand_24 rfl (lv_at hl 0 rfl) ?_
    refine lv_iload_n hx hb dX6_takesCommand_25 rfl (lv_at hl 1 rfl) ?_
    refine lv_bipush (v := 65) hx hb dX6_takesCommand_26 (by decide) ?_
    refine lv_icmp_ne (tgt := 35) hx hb dX6_takesCommand_28 (by decide) (fun c_28_3 => ?_) (fun c_28_3 => ?_)
    · have hF := hF.trans (if_neg c_28_3)
      refine lv_iconst (v := 1) hx hb dX6_takesCommand_35 (by decide) ?_
      refine va_put (D := D) (ci := 6) (v := .int (1 : Int32)) (ty := .int) (C := RX6) (T := TX6) (N := 4) hx hb hts hi6 tyX6 tyX6_ok nmX6 hown hK hP hD hS 0 rfl rfl 0 (by decide) hm4 (fun _ h9 => h9) rfl (by decide +kernel) rfl rfl (Nat.le_of_ble_eq_true rfl) dX6_takesCommand_36 (fun H locs hP hD hS => ?_)
      obtain ⟨hP, hD⟩ := g_re (ws' := [(h_ps, .inr (6, [.int (1 : Int32), .int (bI false), .long (0 : Int64), .int p0]))]) rfl hP hD
      refine lv_iconst (v := 1) hx hb dX6_takesCommand_39 (by decide) ?_
      exact g_zret true ((1 : Int32), false, (0 : Int64), p0) hx hb hr hlk hP hK hD hS hF trivial rfl dX6_takesCommand_40
    · have hF := hF.trans (if_pos c_28_3)
      refine lv_iconst (v := 4) hx hb dX6_takesCommand_31 (by decide) ?_
      refine lv_goto (tgt := 36) hx hb dX6_takesCommand_32 (by decide) ?_
      refine va_put (D := D) (ci := 6) (v := .int (4 : Int32)) (ty := .int) (C := RX6) (T := TX6) (N := 4) hx hb hts hi6 tyX6 tyX6_ok nmX6 hown hK hP hD hS 0 rfl rfl 0 (by decide) hm4 (fun _ h9 => h9) rfl (by decide +kernel) rfl rfl (Nat.le_of_ble_eq_true rfl) dX6_takesCommand_36 (fun H locs hP hD hS => ?_)
      obtain ⟨hP, hD⟩ := g_re (ws' := [(h_ps, .inr (6, [.int (4 : Int32), .int (bI false), .long (0 : Int64), .int p0]))]) rfl hP hD
      refine lv_iconst (v := 1) hx hb dX6_takesCommand_39 (by decide) ?_
      exact g_zret true ((4 : Int32), false, (0 : Int64), p0) hx hb hr hlk hP hK hD hS hF trivial rfl dX6_takesCommand_40
  · have hF := hF.trans (if_neg c_4_2)
    refine lv_iconst (v := 0) hx hb dX6_takesCommand_7 (by decide) ?_
    exact g_zret false (r_stage, r_below, r_amount, r_command) hx hb hr hlk hP hK hD hS hF trivial rfl dX6_takesCommand_8

noncomputable def f_X6_takesMinus (r_stage : Int32) (r_below : Bool) (r_command : Int32) : (Bool × (Int32 × Bool)) := (match (f_X6_least r_command) with | (r_4_1, _) => (if r_4_1 < (0 : Int32) then (true, ((2 : Int32), true)) else (false, (r_stage, r_below))))
set_option maxHeartbeats 4000000 in
set_option maxRecDepth 100000 in
theorem c_X6_takesMinus (l : Launch) (D : va_G) (cI cJ : ClassId) (h_ps : Nat) (sz : Nat) (r_stage : Int32) (r_below : Bool) (r_amount : Int64) (r_command : Int32) : Met l yX6_takesMinus wsX6_takesMinus ({ frames := 1, cells := 0, slots := 0, locals := 20 }) (gPc D cI cJ [.ref h_ps] [(h_ps, .inr (6, [.int r_stage, .int (bI r_below), .long r_amount, .int r_command]))] sz) (gQz D cI cJ (f_X6_takesMinus r_stage r_below r_command) (fun _ _ => True) (fun u : (Int32 × Bool) => [(h_ps, .inr (6, [.int u.1, .int (bI u.2), .long r_amount, .int r_command]))]) (va_A [(h_ps, .inr (6, [.int r_stage, .int (bI r_below), .long r_amount, .int r_command]))] sz)) 0 0 (va_A [(h_ps, .inr (6, [.int r_stage, .int (bI r_below), .long r_amount, .int r_command]))] sz) := by
  refine g_met (cc := cX6_takesMinus) (maxL := 1) (ret := (some .boolean)) (Qc := gQz D cI cJ (f_X6_takesMinus r_stage r_below r_command) _ _) (by decide) rfl (Nat.le_of_ble_eq_true rfl) ?_
  intro A p e s m below meth c hx hb hr hml hts hown hlk hnm hP hK hD hE hA hS ls hl
  have hown : s.vm.findClass RX6 = some m.cls := hown
  have hl : lv_has ls 1 [(0, .ref h_ps)] := hl
  have hi6 : ∀ w ∈ u_ws RX6 TX6 4, w ∈ wsX6_takesMinus := fun w h9 => List.mem_cons_of_mem _ (List.mem_append_right _ h9)
  have hm1 := hts (.fieldLink RX6 23 "VoltSlopes$Parser" "command" "I") (List.mem_of_getElem? (i := 1) rfl)
  have hm2 := hts (.fieldLink RX6 15 "VoltSlopes$Parser" "below" "Z") (List.mem_of_getElem? (i := 2) rfl)
  have hm3 := hts (.fieldLink RX6 11 "VoltSlopes$Parser" "stage" "I") (List.mem_of_getElem? (i := 3) rfl)
  have hF := f_X6_takesMinus.eq_1 r_stage r_below r_command
  refine lv_aload_n hx hb dX6_takesMinus_0 rfl (lv_at hl 0 rfl) ?_
  refine va_get (D := D) (ci := 6) (v := .int r_command) (C := RX6) (T := TX6) (N := 4) hx hb hts hi6 hown hK hP 0 rfl rfl 3 (by decide) hm1 (fun _ h9 => h9) rfl dX6_takesMinus_1 ?_
  refine g_csi (rest := []) ⟨hx, hb, hml, hown, hts⟩ hP hD hK hS hA hE (c_X6_least l D cI cJ s.heap.size r_command) (va_cwS 1 hts gX6_takesMinus_X6_least rfl rfl rfl (by decide +kernel) ⟨Nat.le_of_ble_eq_true rfl, Nat.le_of_ble_eq_true rfl⟩) rfl hl rfl (Nat.le_of_ble_eq_true rfl) ⟨Nat.zero_le _, Nat.zero_le _⟩ dX6_takesMinus_4 (fun r_4_1 H locs hw_1 hx_1 hP hS => ?_)
  have hF := hF
  rw [hw_1] at hF
  try dsimp only at hF
  refine lv_if_lt (tgt := 12) hx hb dX6_takesMinus_7 (by decide) (fun c_7_2 => ?_) (fun c_7_2 => ?_)
  · have hF := hF.trans (if_pos c_7_2)
    refine lv_aload_n hx hb dX6_takesMinus_12 rfl (lv_at hl 0 rfl) ?_
    refine lv_iconst (v := 1) hx hb dX6_takesMinus_13 (by decide) ?_
    refine va_put (D := D) (ci := 6) (v := .int (bI true)) (ty := .boolean) (C := RX6) (T := TX6) (N := 4) hx hb hts hi6 tyX6 tyX6_ok nmX6 hown hK hP hD hS 0 rfl rfl 1 (by decide) hm2 (fun _ h9 => h9) rfl (by decide +kernel) (bI_nar true) (bI_fit true) (Nat.le_of_ble_eq_true rfl) dX6_takesMinus_14 (fun H locs hP hD hS => ?_)
    obtain ⟨hP, hD⟩ := g_re (ws' := [(h_ps, .inr (6, [.int r_stage, .int (bI true), .long r_amount, .int r_command]))]) rfl hP hD
    refine lv_aload_n hx hb dX6_takesMinus_17 rfl (lv_at hl 0 rfl) ?_
    refine lv_iconst (v := 2) hx hb dX6_takesMinus_18 (by decide) ?_
    refine va_put (D := D) (ci := 6) (v := .int (2 : Int32)) (ty := .int) (C := RX6) (T := TX6) (N := 4) hx hb hts hi6 tyX6 tyX6_ok nmX6 hown hK hP hD hS 0 rfl rfl 0 (by decide) hm3 (fun _ h9 => h9) rfl (by decide +kernel) rfl rfl (Nat.le_of_ble_eq_true rfl) dX6_takesMinus_19 (fun H locs hP hD hS => ?_)
    obtain ⟨hP, hD⟩ := g_re (ws' := [(h_ps, .inr (6, [.int (2 : Int32), .int (bI true), .long r_amount, .int r_command]))]) rfl hP hD
    refine lv_iconst (v := 1) hx hb dX6_takesMinus_22 (by decide) ?_
    exact g_zret true ((2 : Int32), true) hx hb hr hlk hP hK hD hS hF trivial rfl dX6_takesMinus_23
  · have hF := hF.trans (if_neg c_7_2)
    refine lv_iconst (v := 0) hx hb dX6_takesMinus_10 (by decide) ?_
    exact g_zret false (r_stage, r_below) hx hb hr hlk hP hK hD hS hF trivial rfl dX6_takesMinus_11

noncomputable def f_X6_takesFigure (r_stage : Int32) (r_below : Bool) (r_amount : Int64) (r_command : Int32) (p0 : Int32) : (Bool × (Int32 × Int64)) := (if p0 < (48 : Int32) then (false, (r_stage, r_amount)) else (if p0 ≤ (57 : Int32) then (if r_below = true then (match (f_X6_least r_command) with | (r_42_11, _) => (if r_42_11.toInt64 ≤ (-((r_amount * (10 : Int64)) + (p0 - (48 : Int32)).toInt64)) then (if ((r_amount * (10 : Int64)) + (p0 - (48 : Int32)).toInt64) = (0 : Int64) then (true, ((4 : Int32), ((r_amount * (10 : Int64)) + (p0 - (48 : Int32)).toInt64))) else (true, ((3 : Int32), ((r_amount * (10 : Int64)) + (p0 - (48 : Int32)).toInt64)))) else (false, (r_stage, r_amount)))) else (match (f_X6_most r_command) with | (r_58_4, _) => (if ((r_amount * (10 : Int64)) + (p0 - (48 : Int32)).toInt64) ≤ r_58_4.toInt64 then (if ((r_amount * (10 : Int64)) + (p0 - (48 : Int32)).toInt64) = (0 : Int64) then (true, ((4 : Int32), ((r_amount * (10 : Int64)) + (p0 - (48 : Int32)).toInt64))) else (true, ((3 : Int32), ((r_amount * (10 : Int64)) + (p0 - (48 : Int32)).toInt64)))) else (false, (r_stage, r_amount))))) else (false, (r_stage, r_amount))))
set_option maxHeartbeats 4000000 in
set_option maxRecDepth 100000 in
theorem c_X6_takesFigure (l : Launch) (D : va_G) (cI cJ : ClassId) (h_ps : Nat) (sz : Nat) (r_stage : Int32) (r_below : Bool) (r_amount : Int64) (r_command : Int32) (p0 : Int32) : Met l yX6_takesFigure wsX6_takesFigure ({ frames := 1, cells := 0, slots := 0, locals := 20 }) (gPc D cI cJ [.ref h_ps, .int p0] [(h_ps, .inr (6, [.int r_stage, .int (bI r_below), .long r_amount, .int r_command]))] sz) (gQz D cI cJ (f_X6_takesFigure r_stage r_below r_amount r_command p0) (fun _ _ => True) (fun u : (Int32 × Int64) => [(h_ps, .inr (6, [.int u.1, .int (bI r_below), .long u.2, .int r_command]))]) (va_A [(h_ps, .inr (6, [.int r_stage, .int (bI r_below), .long r_amount, .int r_command]))] sz)) 0 0 (va_A [(h_ps, .inr (6, [.int r_stage, .int (bI r_below), .long r_amount, .int r_command]))] sz) := by
  refine g_met (cc := cX6_takesFigure) (maxL := 4) (ret := (some .boolean)) (Qc := gQz D cI cJ (f_X6_takesFigure r_stage r_below r_amount r_command p0) _ _) (by decide) rfl (Nat.le_of_ble_eq_true rfl) ?_
  intro A p e s m below meth c hx hb hr hml hts hown hlk hnm hP hK hD hE hA hS ls hl
  have hown : s.vm.findClass RX6 = some m.cls := hown
  have hl : lv_has ls 4 [(0, .ref h_ps), (1, .int p0)] := hl
  have hi6 : ∀ w ∈ u_ws RX6 TX6 4, w ∈ wsX6_takesFigure := fun w h9 => List.mem_cons_of_mem _ (List.mem_append_right _ h9)
  have hm1 := hts (.fieldLink RX6 19 "VoltSlopes$Parser" "amount" "J") (List.mem_of_getElem? (i := 1) rfl)
  have hm2 := hts (.constantLong RX6 51 (10)) (List.mem_of_getElem? (i := 2) rfl)
  have hm3 := hts (.fieldLink RX6 15 "VoltSlopes$Parser" "below" "Z") (List.mem_of_getElem? (i := 3) rfl)
  have hm4 := hts (.fieldLink RX6 23 "VoltSlopes$Parser" "command" "I") (List.mem_of_getElem? (i := 4) rfl)
  have hm5 := hts (.fieldLink RX6 11 "VoltSlopes$Parser" "stage" "I") (List.mem_of_getElem? (i := 5) rfl)
  have hF := f_X6_takesFigure.eq_1 r_stage r_below r_amount r_command p0
  refine lv_iload_n hx hb dX6_takesFigure_0 rfl (lv_at hl 1 rfl) ?_
  refine lv_bipush (v := 48) hx hb dX6_takesFigure_1 (by decide) ?_
  refine lv_icmp_lt (tgt := 12) hx hb dX6_takesFigure_3 (by decide) (fun c_3_1 => ?_) (fun c_3_1 => ?_)
  · have hF := hF.trans (if_pos c_3_1)
    refine lv_iconst (v := 0) hx hb dX6_takesFigure_12 (by decide) ?_
    exact g_zret false (r_stage, r_amount) hx hb hr hlk hP hK hD hS hF trivial rfl dX6_takesFigure_13
  · have hF := hF.trans (if_neg c_3_1)
    refine lv_iload_n hx hb dX6_takesFigure_6 rfl (lv_at hl 1 rfl) ?_
    refine lv_bipush (v := 57) hx hb dX6_takesFigure_7 (by decide) ?_
    refine lv_icmp_le (tgt := 14) hx hb dX6_takesFigure_9 (by decide) (fun c_9_2 => ?_) (fun c_9_2 => ?_)
    · have hF := hF.trans (if_pos c_9_2)
      refine lv_aload_n hx hb dX6_takesFigure_14 rfl (lv_at hl 0 rfl) ?_
      refine va_get (D := D) (ci := 6) (v := .long r_amount) (C := RX6) (T := TX6) (N := 4) hx hb hts hi6 hown hK hP 0 rfl rfl 2 (by decide) hm1 (fun _ h9 => h9) rfl dX6_takesFigure_15 ?_
      refine lv_ldc2 hx hb hown hm2 dX6_takesFigure_18 ?_
      refine lv_lmul hx hb dX6_takesFigure_21 ?_
      refine lv_iload_n hx hb dX6_takesFigure_22 rfl (lv_at hl 1 rfl) ?_
      refine lv_bipush (v := 48) hx hb dX6_takesFigure_23 (by decide) ?_
      refine lv_isub hx hb dX6_takesFigure_25 ?_
      refine lv_i2l (v := (p0 - (48 : Int32)).toInt64) hx hb dX6_takesFigure_26 rfl ?_
      refine lv_ladd hx hb dX6_takesFigure_27 ?_
      refine lv_lstore_n (lv' := [(2, .long ((r_amount * (10 : Int64)) + (p0 - (48 : Int32)).toInt64)), (0, .ref h_ps), (1, .int p0)]) hx hb dX6_takesFigure_28 rfl hl (by decide) rfl (fun ls hl => ?_)
      refine lv_aload_n hx hb dX6_takesFigure_29 rfl (lv_at hl 1 rfl) ?_
      refine va_get (D := D) (ci := 6) (v := .int (bI r_below)) (C := RX6) (T := TX6) (N := 4) hx hb hts hi6 hown hK hP 0 rfl rfl 1 (by decide) hm3 (fun _ h9 => h9) rfl dX6_takesFigure_30 ?_
      refine lv_if_eq (tgt := 53) hx hb dX6_takesFigure_33 (by decide) (fun c_33_3w => ?_) (fun c_33_3w => ?_)
      · have c_33_3 := bI_f2 c_33_3w
        have hF := hF.trans (if_neg c_33_3)
        refine lv_lload_n hx hb dX6_takesFigure_53 rfl (lv_at hl 0 rfl) ?_
        refine lv_aload_n hx hb dX6_takesFigure_54 rfl (lv_at hl 1 rfl) ?_
        refine va_get (D := D) (ci := 6) (v := .int r_command) (C := RX6) (T := TX6) (N := 4) hx hb hts hi6 hown hK hP 0 rfl rfl 3 (by decide) hm4 (fun _ h9 => h9) rfl dX6_takesFigure_55 ?_
        refine g_csi (rest := [.long ((r_amount * (10 : Int64)) + (p0 - (48 : Int32)).toInt64)]) ⟨hx, hb, hml, hown, hts⟩ hP hD hK hS hA hE (c_X6_most l D cI cJ s.heap.size r_command) (va_cwS 1 hts gX6_takesFigure_X6_most rfl rfl rfl (by decide +kernel) ⟨Nat.le_of_ble_eq_true rfl, Nat.le_of_ble_eq_true rfl⟩) rfl hl rfl (Nat.le_of_ble_eq_true rfl) ⟨Nat.zero_le _, Nat.zero_le _⟩ dX6_takesFigure_58 (fun r_58_4 H locs hw_4 hx_4 hP hS => ?_)
        have hF := hF
        rw [hw_4] at hF
        try dsimp only at hF
        refine lv_i2l (v := r_58_4.toInt64) hx hb dX6_takesFigure_61 rfl ?_
        refine g_l_le (tgt := 68) hx hb dX6_takesFigure_62 dX6_takesFigure_63 (by decide) (fun c_62_8 => ?_) (fun c_62_8 => ?_)
        · have hF := hF.trans (if_pos c_62_8)
          refine lv_aload_n hx hb dX6_takesFigure_68 rfl (lv_at hl 1 rfl) ?_
          refine lv_lload_n hx hb dX6_takesFigure_69 rfl (lv_at hl 0 rfl) ?_
          refine va_put (D := D) (ci := 6) (v := .long ((r_amount * (10 : Int64)) + (p0 - (48 : Int32)).toInt64)) (ty := .long) (C := RX6) (T := TX6) (N := 4) hx hb hts hi6 tyX6 tyX6_ok nmX6 hown hK hP hD hS 0 rfl rfl 2 (by decide) hm1 (fun _ h9 => h9) rfl (by decide +kernel) rfl rfl (Nat.le_of_ble_eq_true rfl) dX6_takesFigure_70 (fun H locs hP hD hS => ?_)
          obtain ⟨hP, hD⟩ := g_re (ws' := [(h_ps, .inr (6, [.int r_stage, .int (bI r_below), .long ((r_amount * (10 : Int64)) + (p0 - (48 : Int32)).toInt64), .int r_command]))]) rfl hP hD
          refine lv_aload_n hx hb dX6_takesFigure_73 rfl (lv_at hl 1 rfl) ?_
          refine lv_lload_n hx hb dX6_takesFigure_74 rfl (lv_at hl 0 rfl) ?_
          refine lv_lconst (v := 0) hx hb dX6_takesFigure_75 (by decide) ?_
          refine g_l_ne (tgt := 84) hx hb dX6_takesFigure_76 dX6_takesFigure_77 (by decide) (fun c_76_10 => ?_) (fun c_76_10 => ?_)
          · have hF := hF.trans (if_neg c_76_10)
            refine lv_iconst (v := 3) hx hb dX6_takesFigure_84 (by decide) ?_
            refine va_put (D := D) (ci := 6) (v := .int (3 : Int32)) (ty := .int) (C := RX6) (T := TX6) (N := 4) hx hb hts hi6 tyX6 tyX6_ok nmX6 hown hK hP hD hS 0 rfl rfl 0 (by decide) hm5 (fun _ h9 => h9) rfl (by decide +kernel) rfl rfl (Nat.le_of_ble_eq_true rfl) dX6_takesFigure_85 (fun H locs hP hD hS => ?_)
            obtain ⟨hP, hD⟩ := g_re (ws' := [(h_ps, .inr (6, [.int (3 : Int32), .int (bI r_below), .long ((r_amount * (10 : Int64)) + (p0 - (48 : Int32)).toInt64), .int r_command]))]) rfl hP hD
            refine lv_iconst (v := 1) hx hb dX6_takesFigure_88 (by decide) ?_
            exact g_zret true ((3 : Int32), ((r_amount * (10 : Int64)) + (p0 - (48 : Int32)).toInt64)) hx hb hr hlk hP hK hD hS hF trivial rfl dX6_takesFigure_89
          · have hF := hF.trans (if_pos c_76_10)
            refine lv_iconst (v := 4) hx hb dX6_takesFigure_80 (by decide) ?_
            refine lv_goto (tgt := 85) hx hb dX6_takesFigure_81 (by decide) ?_
            refine va_put (D := D) (ci := 6) (v := .int (4 : Int32)) (ty := .int) (C := RX6) (T := TX6) (N := 4) hx hb hts hi6 tyX6 tyX6_ok nmX6 hown hK hP hD hS 0 rfl rfl 0 (by decide) hm5 (fun _ h9 => h9) rfl (by decide +kernel) rfl rfl (Nat.le_of_ble_eq_true rfl) dX6_takesFigure_85 (fun H locs hP hD hS => ?_)
            obtain ⟨hP, hD⟩ := g_re (ws' := [(h_ps, .inr (6, [.int (4 : Int32), .int (bI r_below), .long ((r_amount * (10 : Int64)) + (p0 - (48 : Int32)).toInt64), .int r_command]))]) rfl hP hD
            refine lv_iconst (v := 1) hx hb dX6_takesFigure_88 (by decide) ?_
            exact g_zret true ((4 : Int32), ((r_amount * (10 : Int64)) + (p0 - (48 : Int32)).toInt64)) hx hb hr hlk hP hK hD hS hF trivial rfl dX6_takesFigure_89
        · have hF := hF.trans (if_neg c_62_8)
          refine lv_iconst (v := 0) hx hb dX6_takesFigure_66 (by decide) ?_
          exact g_zret false (r_stage, r_amount) hx hb hr hlk hP hK hD hS hF trivial rfl dX6_takesFigure_67
      · have c_33_3 := bI_t c_33_3w
        have hF := hF.trans (if_pos c_33_3)
        refine lv_lload_n hx hb dX6_takesFigure_36 rfl (lv_at hl 0 rfl) ?_
        refine lv_lneg hx hb dX6_takesFigure_37 ?_
        refine lv_aload_n hx hb dX6_takesFigure_38 rfl (lv_at hl 1 rfl) ?_
        refine va_get (D := D) (ci := 6) (v := .int r_command) (C := RX6) (T := TX6) (N := 4) hx hb hts hi6 hown hK hP 0 rfl rfl 3 (by decide) hm4 (fun _ h9 => h9) rfl dX6_takesFigure_39 ?_
        refine g_csi (rest := [.long (-((r_amount * (10 : Int64)) + (p0 - (48 : Int32)).toInt64))]) ⟨hx, hb, hml, hown, hts⟩ hP hD hK hS hA hE (c_X6_least l D cI cJ s.heap.size r_command) (va_cwS 1 hts gX6_takesFigure_X6_least rfl rfl rfl (by decide +kernel) ⟨Nat.le_of_ble_eq_true rfl, Nat.le_of_ble_eq_true rfl⟩) rfl hl rfl (Nat.le_of_ble_eq_true rfl) ⟨Nat.zero_le _, Nat.zero_le _⟩ dX6_takesFigure_42 (fun r_42_11 H locs hw_11 hx_11 hP hS => ?_)
        have hF := hF
        rw [hw_11] at hF
        try dsimp only at hF
        refine lv_i2l (v := r_42_11.toInt64) hx hb dX6_takesFigure_45 rfl ?_
        refine g_l_ge (tgt := 68) hx hb dX6_takesFigure_46 dX6_takesFigure_47 (by decide) (fun c_46_15 => ?_) (fun c_46_15 => ?_)
        · have hF := hF.trans (if_pos c_46_15)
          refine lv_aload_n hx hb dX6_takesFigure_68 rfl (lv_at hl 1 rfl) ?_
          refine lv_lload_n hx hb dX6_takesFigure_69 rfl (lv_at hl 0 rfl) ?_
          refine va_put (D := D) (ci := 6) (v := .long ((r_amount * (10 : Int64)) + (p0 - (48 : Int32)).toInt64)) (ty := .long) (C := RX6) (T := TX6) (N := 4) hx hb hts hi6 tyX6 tyX6_ok nmX6 hown hK hP hD hS 0 rfl rfl 2 (by decide) hm1 (fun _ h9 => h9) rfl (by decide +kernel) rfl rfl (Nat.le_of_ble_eq_true rfl) dX6_takesFigure_70 (fun H locs hP hD hS => ?_)
          obtain ⟨hP, hD⟩ := g_re (ws' := [(h_ps, .inr (6, [.int r_stage, .int (bI r_below), .long ((r_amount * (10 : Int64)) + (p0 - (48 : Int32)).toInt64), .int r_command]))]) rfl hP hD
          refine lv_aload_n hx hb dX6_takesFigure_73 rfl (lv_at hl 1 rfl) ?_
          refine lv_lload_n hx hb dX6_takesFigure_74 rfl (lv_at hl 0 rfl) ?_
          refine lv_lconst (v := 0) hx hb dX6_takesFigure_75 (by decide) ?_
          refine g_l_ne (tgt := 84) hx hb dX6_takesFigure_76 dX6_takesFigure_77 (by decide) (fun c_76_17 => ?_) (fun c_76_17 => ?_)
          · have hF := hF.trans (if_neg c_76_17)
            refine lv_iconst (v := 3) hx hb dX6_takesFigure_84 (by decide) ?_
            refine va_put (D := D) (ci := 6) (v := .int (3 : Int32)) (ty := .int) (C := RX6) (T := TX6) (N := 4) hx hb hts hi6 tyX6 tyX6_ok nmX6 hown hK hP hD hS 0 rfl rfl 0 (by decide) hm5 (fun _ h9 => h9) rfl (by decide +kernel) rfl rfl (Nat.le_of_ble_eq_true rfl) dX6_takesFigure_85 (fun H locs hP hD hS => ?_)
            obtain ⟨hP, hD⟩ := g_re (ws' := [(h_ps, .inr (6, [.int (3 : Int32), .int (bI r_below), .long ((r_amount * (10 : Int64)) + (p0 - (48 : Int32)).toInt64), .int r_command]))]) rfl hP hD
            refine lv_iconst (v := 1) hx hb dX6_takesFigure_88 (by decide) ?_
            exact g_zret true ((3 : Int32), ((r_amount * (10 : Int64)) + (p0 - (48 : Int32)).toInt64)) hx hb hr hlk hP hK hD hS hF trivial rfl dX6_takesFigure_89
          · have hF := hF.trans (if_pos c_76_17)
            refine lv_iconst (v := 4) hx hb dX6_takesFigure_80 (by decide) ?_
            refine lv_goto (tgt := 85) hx hb dX6_takesFigure_81 (by decide) ?_
            refine va_put (D := D) (ci := 6) (v := .int (4 : Int32)) (ty := .int) (C := RX6) (T := TX6) (N := 4) hx hb hts hi6 tyX6 tyX6_ok nmX6 hown hK hP hD hS 0 rfl rfl 0 (by decide) hm5 (fun _ h9 => h9) rfl (by decide +kernel) rfl rfl (Nat.le_of_ble_eq_true rfl) dX6_takesFigure_85 (fun H locs hP hD hS => ?_)
            obtain ⟨hP, hD⟩ := g_re (ws' := [(h_ps, .inr (6, [.int (4 : Int32), .int (bI r_below), .long ((r_amount * (10 : Int64)) + (p0 - (48 : Int32)).toInt64), .int r_command]))]) rfl hP hD
            refine lv_iconst (v := 1) hx hb dX6_takesFigure_88 (by decide) ?_
            exact g_zret true ((4 : Int32), ((r_amount * (10 : Int64)) + (p0 - (48 : Int32)).toInt64)) hx hb hr hlk hP hK hD hS hF trivial rfl dX6_takesFigure_89
        · have hF := hF.trans (if_neg c_46_15)
          refine lv_goto (tgt := 66) hx hb dX6_takesFigure_50 (by decide) ?_
          refine lv_iconst (v := 0) hx hb dX6_takesFigure_66 (by decide) ?_
          exact g_zret false (r_stage, r_amount) hx hb hr hlk hP hK hD hS hF trivial rfl dX6_takesFigure_67
    · have hF := hF.trans (if_neg c_9_2)
      refine lv_iconst (v := 0) hx hb dX6_takesFigure_12 (by decide) ?_
      exact g_zret false (r_stage, r_amount) hx hb hr hlk hP hK hD hS hF trivial rfl dX6_takesFigure_13

noncomputable def f_X6_takesEnd (r_stage : Int32) (r_below : Bool) (r_amount : Int64) (r_command : Int32) : (Bool × Int32) := (match (f_X6_mayEnd r_stage r_below r_amount r_command) with | (r_1_1, _) => (if r_1_1 = true then (true, (0 : Int32)) else (false, r_stage)))
set_option maxHeartbeats 4000000 in
set_option maxRecDepth 100000 in
theorem c_X6_takesEnd (l : Launch) (D : va_G) (cI cJ : ClassId) (h_ps : Nat) (sz : Nat) (r_stage : Int32) (r_below : Bool) (r_amount : Int64) (r_command : Int32) : Met l yX6_takesEnd wsX6_takesEnd ({ frames := 2, cells := 0, slots := 0, locals := 40 }) (gPc D cI cJ [.ref h_ps] [(h_ps, .inr (6, [.int r_stage, .int (bI r_below), .long r_amount, .int r_command]))] sz) (gQz D cI cJ (f_X6_takesEnd r_stage r_below r_amount r_command) (fun _ _ => True) (fun u : Int32 => [(h_ps, .inr (6, [.int u, .int (bI r_below), .long r_amount, .int r_command]))]) (va_A [(h_ps, .inr (6, [.int r_stage, .int (bI r_below), .long r_amount, .int r_command]))] sz)) 0 0 (va_A [(h_ps, .inr (6, [.int r_stage, .int (bI r_below), .long r_amount, .int r_command]))] sz) := by
  refine g_met (cc := cX6_takesEnd) (maxL := 1) (ret := (some .boolean)) (Qc := gQz D cI cJ (f_X6_takesEnd r_stage r_below r_amount r_command) _ _) (by decide) rfl (Nat.le_of_ble_eq_true rfl) ?_
  intro A p e s m below meth c hx hb hr hml hts hown hlk hnm hP hK hD hE hA hS ls hl
  have hown : s.vm.findClass RX6 = some m.cls := hown
  have hl : lv_has ls 1 [(0, .ref h_ps)] := hl
  have hi6 : ∀ w ∈ u_ws RX6 TX6 4, w ∈ wsX6_takesEnd := fun w h9 => List.mem_cons_of_mem _ (List.mem_append_right _ h9)
  have hm1 := hts (.fieldLink RX6 11 "VoltSlopes$Parser" "stage" "I") (List.mem_of_getElem? (i := 1) rfl)
  have hF := f_X6_takesEnd.eq_1 r_stage r_below r_amount r_command
  refine lv_aload_n hx hb dX6_takesEnd_0 rfl (lv_at hl 0 rfl) ?_
  refine g_cvz (rest := []) ⟨hx, hb, hml, hown, hts⟩ hP hD hK hS hA hE (c_X6_mayEnd l D cI cJ h_ps s.heap.size r_stage r_below r_amount r_command ) (cwV 0 hts gX6_takesEnd_X6_mayEnd rfl rfl rfl (by decide +kernel) ⟨Nat.le_of_ble_eq_true rfl, Nat.le_of_ble_eq_true rfl⟩) [0] [] rfl rfl rfl rfl rfl 6 0 rfl rfl rfl hl rfl (Nat.le_of_ble_eq_true rfl) ⟨Nat.zero_le _, Nat.zero_le _⟩ dX6_takesEnd_1 (fun r_1_1 u_1 H locs hw_1 hx_1 hP hD hS => ?_)
  obtain ⟨hP, hD⟩ := g_re (ws' := [(h_ps, .inr (6, [.int r_stage, .int (bI r_below), .long r_amount, .int r_command]))]) rfl hP hD
  have hF := hF
  rw [hw_1] at hF
  try dsimp only at hF
  refine lv_if_ne (tgt := 9) hx hb dX6_takesEnd_4 (by decide) (fun c_4_2w => ?_) (fun c_4_2w => ?_)
  · have c_4_2 := bI_t c_4_2w
    have hF := hF.trans (if_pos c_4_2)
    refine lv_aload_n hx hb dX6_takesEnd_9 rfl (lv_at hl 0 rfl) ?_
    refine lv_iconst (v := 0) hx hb dX6_takesEnd_10 (by decide) ?_
    refine va_put (D := D) (ci := 6) (v := .int (0 : Int32)) (ty := .int) (C := RX6) (T := TX6) (N := 4) hx hb hts hi6 tyX6 tyX6_ok nmX6 hown hK hP hD hS 0 rfl rfl 0 (by decide) hm1 (fun _ h9 => h9) rfl (by decide +kernel) rfl rfl (Nat.le_of_ble_eq_true rfl) dX6_takesEnd_11 (fun H locs hP hD hS => ?_)
    obtain ⟨hP, hD⟩ := g_re (ws' := [(h_ps, .inr (6, [.int (0 : Int32), .int (bI r_below), .long r_amount, .int r_command]))]) rfl hP hD
    refine lv_iconst (v := 1) hx hb dX6_takesEnd_14 (by decide) ?_
    exact g_zret true (0 : Int32) hx hb hr hlk hP hK hD hS hF trivial rfl dX6_takesEnd_15
  · have c_4_2 := bI_f2 c_4_2w
    have hF := hF.trans (if_neg c_4_2)
    refine lv_iconst (v := 0) hx hb dX6_takesEnd_7 (by decide) ?_
    exact g_zret false r_stage hx hb hr hlk hP hK hD hS hF trivial rfl dX6_takesEnd_8

noncomputable def f_X6_takes (r_stage : Int32) (r_below : Bool) (r_amount : Int64) (r_command : Int32) (p0 : Int32) : (Bool × (Int32 × Bool × Int64 × Int32)) := (if r_stage = (0 : Int32) then (match (f_X6_takesCommand r_stage r_below r_amount r_command p0) with | (r_38_2, ps_stage_2, ps_below_2, ps_amount_2, ps_command_2) => (r_38_2, (ps_stage_2, ps_below_2, ps_amount_2, ps_command_2))) else (if r_stage = (1 : Int32) then (if p0 = (45 : Int32) then (match (f_X6_takesMinus r_stage r_below r_command) with | (r_49_5, ps_stage_5, ps_below_5) => (r_49_5, (ps_stage_5, ps_below_5, r_amount, r_command))) else (match (f_X6_takesFigure r_stage r_below r_amount r_command p0) with | (r_57_4, ps_stage_4, ps_amount_4) => (r_57_4, (ps_stage_4, r_below, ps_amount_4, r_command)))) else (if r_stage = (2 : Int32) then (if p0 = (48 : Int32) then (false, (r_stage, r_below, r_amount, r_command)) else (match (f_X6_takesFigure r_stage r_below r_amount r_command p0) with | (r_69_7, ps_stage_7, ps_amount_7) => (if r_69_7 = true then (true, (ps_stage_7, r_below, ps_amount_7, r_command)) else (false, (ps_stage_7, r_below, ps_amount_7, r_command))))) else (if r_stage = (3 : Int32) then (if p0 = (59 : Int32) then (match (f_X6_takesEnd r_stage r_below r_amount r_command) with | (r_88_11, ps_stage_11) => (r_88_11, (ps_stage_11, r_below, r_amount, r_command))) else (match (f_X6_takesFigure r_stage r_below r_amount r_command p0) with | (r_96_10, ps_stage_10, ps_amount_10) => (r_96_10, (ps_stage_10, r_below, ps_amount_10, r_command)))) else (if p0 = (59 : Int32) then (match (f_X6_takesEnd r_stage r_below r_amount r_command) with | (r_107_13, ps_stage_13) => (if r_107_13 = true then (true, (ps_stage_13, r_below, r_amount, r_command)) else (false, (ps_stage_13, r_below, r_amount, r_command)))) else (false, (r_stage, r_below, r_amount, r_command)))))))
set_option maxHeartbeats 4000000 in
set_option maxRecDepth 100000 in
theorem c_X6_takes (l : Launch) (D : va_G) (cI cJ : ClassId) (h_ps : Nat) (sz : Nat) (r_stage : Int32) (r_below : Bool) (r_amount : Int64) (r_command : Int32) (p0 : Int32) : Met l yX6_takes wsX6_takes ({ frames := 3, cells := 0, slots := 0, locals := 60 }) (gPc D cI cJ [.ref h_ps, .int p0] [(h_ps, .inr (6, [.int r_stage, .int (bI r_below), .long r_amount, .int r_command]))] sz) (gQz D cI cJ (f_X6_takes r_stage r_below r_amount r_command p0) (fun _ _ => True) (fun u : (Int32 × Bool × Int64 × Int32) => [(h_ps, .inr (6, [.int u.1, .int (bI u.2.1), .long u.2.2.1, .int u.2.2.2]))]) (va_A [(h_ps, .inr (6, [.int r_stage, .int (bI r_below), .long r_amount, .int r_command]))] sz)) 0 0 (va_A [(h_ps, .inr (6, [.int r_stage, .int (bI r_below), .long r_amount, .int r_command]))] sz) := by
  refine g_met (cc := cX6_takes) (maxL := 2) (ret := (some .boolean)) (Qc := gQz D cI cJ (f_X6_takes r_stage r_below r_amount r_command p0) _ _) (by decide) rfl (Nat.le_of_ble_eq_true rfl) ?_
  intro A p e s m below meth c hx hb hr hml hts hown hlk hnm hP hK hD hE hA hS ls hl
  have hown : s.vm.findClass RX6 = some m.cls := hown
  have hl : lv_has ls 2 [(0, .ref h_ps), (1, .int p0)] := hl
  have hi6 : ∀ w ∈ u_ws RX6 TX6 4, w ∈ wsX6_takes := fun w h9 => List.mem_cons_of_mem _ (List.mem_append_right _ h9)
  have hm1 := hts (.fieldLink RX6 11 "VoltSlopes$Parser" "stage" "I") (List.mem_of_getElem? (i := 1) rfl)
  have hF := f_X6_takes.eq_1 r_stage r_below r_amount r_command p0
  refine lv_aload_n hx hb dX6_takes_0 rfl (lv_at hl 0 rfl) ?_
  refine va_get (D := D) (ci := 6) (v := .int r_stage) (C := RX6) (T := TX6) (N := 4) hx hb hts hi6 hown hK hP 0 rfl rfl 0 (by decide) hm1 (fun _ h9 => h9) rfl dX6_takes_1 ?_
  by_cases c_4_1_0 : r_stage = (0 : Int32)
  · have hF := hF.trans (if_pos c_4_1_0)
    refine lv_tableIn (off := 32) (tgt := 36) hx hb dX6_takes_4 (by rw [c_4_1_0]; decide) (by rw [c_4_1_0]; decide) (by rw [c_4_1_0]; rfl) (by decide) ?_
    refine lv_aload_n hx hb dX6_takes_36 rfl (lv_at hl 0 rfl) ?_
    refine lv_iload_n hx hb dX6_takes_37 rfl (lv_at hl 1 rfl) ?_
    refine g_cvz (rest := []) ⟨hx, hb, hml, hown, hts⟩ hP hD hK hS hA hE (c_X6_takesCommand l D cI cJ h_ps s.heap.size r_stage r_below r_amount r_command p0) (cwV 1 hts gX6_takes_X6_takesCommand rfl rfl rfl (by decide +kernel) ⟨Nat.le_of_ble_eq_true rfl, Nat.le_of_ble_eq_true rfl⟩) [0] [] rfl rfl rfl rfl rfl 6 0 rfl rfl rfl hl rfl (Nat.le_of_ble_eq_true rfl) ⟨Nat.zero_le _, Nat.zero_le _⟩ dX6_takes_38 (fun r_38_2 u_2 H locs hw_2 hx_2 hP hD hS => ?_)
    obtain ⟨ps_stage_2, ps_below_2, ps_amount_2, ps_command_2⟩ := u_2
    obtain ⟨hP, hD⟩ := g_re (ws' := [(h_ps, .inr (6, [.int ps_stage_2, .int (bI ps_below_2), .long ps_amount_2, .int ps_command_2]))]) rfl hP hD
    have hF := hF
    rw [hw_2] at hF
    try dsimp only at hF
    exact g_zret r_38_2 (ps_stage_2, ps_below_2, ps_amount_2, ps_command_2) hx hb hr hlk hP hK hD hS hF trivial rfl dX6_takes_41
  have hF := hF.trans (if_neg c_4_1_0)
  by_cases c_4_1_1 : r_stage = (1 : Int32)
  · have hF := hF.trans (if_pos c_4_1_1)
    refine lv_tableIn (off := 38) (tgt := 42) hx hb dX6_takes_4 (by rw [c_4_1_1]; decide) (by rw [c_4_1_1]; decide) (by rw [c_4_1_1]; rfl) (by decide) ?_
    refine lv_iload_n hx hb dX6_takes_42 rfl (lv_at hl 1 rfl) ?_
    refine lv_bipush (v := 45) hx hb dX6_takes_43 (by decide) ?_
    refine lv_icmp_ne (tgt := 55) hx hb dX6_takes_45 (by decide) (fun c_45_3 => ?_) (fun c_45_3 => ?_)
    · have hF := hF.trans (if_neg c_45_3)
      refine lv_aload_n hx hb dX6_takes_55 rfl (lv_at hl 0 rfl) ?_
      refine lv_iload_n hx hb dX6_takes_56 rfl (lv_at hl 1 rfl) ?_
      refine g_cvz (rest := []) ⟨hx, hb, hml, hown, hts⟩ hP hD hK hS hA hE (c_X6_takesFigure l D cI cJ h_ps s.heap.size r_stage r_below r_amount r_command p0) (cwV 1 hts gX6_takes_X6_takesFigure rfl rfl rfl (by decide +kernel) ⟨Nat.le_of_ble_eq_true rfl, Nat.le_of_ble_eq_true rfl⟩) [0] [] rfl rfl rfl rfl rfl 6 0 rfl rfl rfl hl rfl (Nat.le_of_ble_eq_true rfl) ⟨Nat.zero_le _, Nat.zero_le _⟩ dX6_takes_57 (fun r_57_4 u_4 H locs hw_4 hx_4 hP hD hS => ?_)
      obtain ⟨ps_stage_4, ps_amount_4⟩ := u_4
      obtain ⟨hP, hD⟩ := g_re (ws' := [(h_ps, .inr (6, [.int ps_stage_4, .int (bI r_below), .long ps_amount_4, .int r_command]))]) rfl hP hD
      have hF := hF
      rw [hw_4] at hF
      try dsimp only at hF
      exact g_zret r_57_4 (ps_stage_4, r_below, ps_amount_4, r_command) hx hb hr hlk hP hK hD hS hF trivial rfl dX6_takes_60
    · have hF := hF.trans (if_pos c_45_3)
      refine lv_aload_n hx hb dX6_takes_48 rfl (lv_at hl 0 rfl) ?_
      refine g_cvz (rest := []) ⟨hx, hb, hml, hown, hts⟩ hP hD hK hS hA hE (c_X6_takesMinus l D cI cJ h_ps s.heap.size r_stage r_below r_amount r_command ) (cwV 0 hts gX6_takes_X6_takesMinus rfl rfl rfl (by decide +kernel) ⟨Nat.le_of_ble_eq_true rfl, Nat.le_of_ble_eq_true rfl⟩) [0] [] rfl rfl rfl rfl rfl 6 0 rfl rfl rfl hl rfl (Nat.le_of_ble_eq_true rfl) ⟨Nat.zero_le _, Nat.zero_le _⟩ dX6_takes_49 (fun r_49_5 u_5 H locs hw_5 hx_5 hP hD hS => ?_)
      obtain ⟨ps_stage_5, ps_below_5⟩ := u_5
      obtain ⟨hP, hD⟩ := g_re (ws' := [(h_ps, .inr (6, [.int ps_stage_5, .int (bI ps_below_5), .long r_amount, .int r_command]))]) rfl hP hD
      have hF := hF
      rw [hw_5] at hF
      try dsimp only at hF
      refine lv_goto (tgt := 60) hx hb dX6_takes_52 (by decide) ?_
      exact g_zret r_49_5 (ps_stage_5, ps_below_5, r_amount, r_command) hx hb hr hlk hP hK hD hS hF trivial rfl dX6_takes_60
  have hF := hF.trans (if_neg c_4_1_1)
  by_cases c_4_1_2 : r_stage = (2 : Int32)
  · have hF := hF.trans (if_pos c_4_1_2)
    refine lv_tableIn (off := 57) (tgt := 61) hx hb dX6_takes_4 (by rw [c_4_1_2]; decide) (by rw [c_4_1_2]; decide) (by rw [c_4_1_2]; rfl) (by decide) ?_
    refine lv_iload_n hx hb dX6_takes_61 rfl (lv_at hl 1 rfl) ?_
    refine lv_bipush (v := 48) hx hb dX6_takes_62 (by decide) ?_
    refine lv_icmp_eq (tgt := 79) hx hb dX6_takes_64 (by decide) (fun c_64_6 => ?_) (fun c_64_6 => ?_)
    · have hF := hF.trans (if_pos c_64_6)
      refine lv_iconst (v := 0) hx hb dX6_takes_79 (by decide) ?_
      exact g_zret false (r_stage, r_below, r_amount, r_command) hx hb hr hlk hP hK hD hS hF trivial rfl dX6_takes_80
    · have hF := hF.trans (if_neg c_64_6)
      refine lv_aload_n hx hb dX6_takes_67 rfl (lv_at hl 0 rfl) ?_
      refine lv_iload_n hx hb dX6_takes_68 rfl (lv_at hl 1 rfl) ?_
      refine g_cvz (rest := []) ⟨hx, hb, hml, hown, hts⟩ hP hD hK hS hA hE (c_X6_takesFigure l D cI cJ h_ps s.heap.size r_stage r_below r_amount r_command p0) (cwV 1 hts gX6_takes_X6_takesFigure rfl rfl rfl (by decide +kernel) ⟨Nat.le_of_ble_eq_true rfl, Nat.le_of_ble_eq_true rfl⟩) [0] [] rfl rfl rfl rfl rfl 6 0 rfl rfl rfl hl rfl (Nat.le_of_ble_eq_true rfl) ⟨Nat.zero_le _, Nat.zero_le _⟩ dX6_takes_69 (fun r_69_7 u_7 H locs hw_7 hx_7 hP hD hS => ?_)
      obtain ⟨ps_stage_7, ps_amount_7⟩ := u_7
      obtain ⟨hP, hD⟩ := g_re (ws' := [(h_ps, .inr (6, [.int ps_stage_7, .int (bI r_below), .long ps_amount_7, .int r_command]))]) rfl hP hD
      have hF := hF
      rw [hw_7] at hF
      try dsimp only at hF
      refine lv_if_eq (tgt := 79) hx hb dX6_takes_72 (by decide) (fun c_72_8w => ?_) (fun c_72_8w => ?_)
      · have c_72_8 := bI_f2 c_72_8w
        have hF := hF.trans (if_neg c_72_8)
        refine lv_iconst (v := 0) hx hb dX6_takes_79 (by decide) ?_
        exact g_zret false (ps_stage_7, r_below, ps_amount_7, r_command) hx hb hr hlk hP hK hD hS hF trivial rfl dX6_takes_80
      · have c_72_8 := bI_t c_72_8w
        have hF := hF.trans (if_pos c_72_8)
        refine lv_iconst (v := 1) hx hb dX6_takes_75 (by decide) ?_
        refine lv_goto (tgt := 80) hx hb dX6_takes_76 (by decide) ?_
        exact g_zret true (ps_stage_7, r_below, ps_amount_7, r_command) hx hb hr hlk hP hK hD hS hF trivial rfl dX6_takes_80
  have hF := hF.trans (if_neg c_4_1_2)
  by_cases c_4_1_3 : r_stage = (3 : Int32)
  · have hF := hF.trans (if_pos c_4_1_3)
    refine lv_tableIn (off := 77) (tgt := 81) hx hb dX6_takes_4 (by rw [c_4_1_3]; decide) (by rw [c_4_1_3]; decide) (by rw [c_4_1_3]; rfl) (by decide) ?_
    refine lv_iload_n hx hb dX6_takes_81 rfl (lv_at hl 1 rfl) ?_
    refine lv_bipush (v := 59) hx hb dX6_takes_82 (by decide) ?_
    refine lv_icmp_ne (tgt := 94) hx hb dX6_takes_84 (by decide) (fun c_84_9 => ?_) (fun c_84_9 => ?_)
    · have hF := hF.trans (if_neg c_84_9)
      refine lv_aload_n hx hb dX6_takes_94 rfl (lv_at hl 0 rfl) ?_
      refine lv_iload_n hx hb dX6_takes_95 rfl (lv_at hl 1 rfl) ?_
      refine g_cvz (rest := []) ⟨hx, hb, hml, hown, hts⟩ hP hD hK hS hA hE (c_X6_takesFigure l D cI cJ h_ps s.heap.size r_stage r_below r_amount r_command p0) (cwV 1 hts gX6_takes_X6_takesFigure rfl rfl rfl (by decide +kernel) ⟨Nat.le_of_ble_eq_true rfl, Nat.le_of_ble_eq_true rfl⟩) [0] [] rfl rfl rfl rfl rfl 6 0 rfl rfl rfl hl rfl (Nat.le_of_ble_eq_true rfl) ⟨Nat.zero_le _, Nat.zero_le _⟩ dX6_takes_96 (fun r_96_10 u_10 H locs hw_10 hx_10 hP hD hS => ?_)
      obtain ⟨ps_stage_10, ps_amount_10⟩ := u_10
      obtain ⟨hP, hD⟩ := g_re (ws' := [(h_ps, .inr (6, [.int ps_stage_10, .int (bI r_below), .long ps_amount_10, .int r_command]))]) rfl hP hD
      have hF := hF
      rw [hw_10] at hF
      try dsimp only at hF
      exact g_zret r_96_10 (ps_stage_10, r_below, ps_amount_10, r_command) hx hb hr hlk hP hK hD hS hF trivial rfl dX6_takes_99
    · have hF := hF.trans (if_pos c_84_9)
      refine lv_aload_n hx hb dX6_takes_87 rfl (lv_at hl 0 rfl) ?_
      refine g_cvz (rest := []) ⟨hx, hb, hml, hown, hts⟩ hP hD hK hS hA hE (c_X6_takesEnd l D cI cJ h_ps s.heap.size r_stage r_below r_amount r_command ) (cwV 0 hts gX6_takes_X6_takesEnd rfl rfl rfl (by decide +kernel) ⟨Nat.le_of_ble_eq_true rfl, Nat.le_of_ble_eq_true rfl⟩) [0] [] rfl rfl rfl rfl rfl 6 0 rfl rfl rfl hl rfl (Nat.le_of_ble_eq_true rfl) ⟨Nat.zero_le _, Nat.zero_le _⟩ dX6_takes_88 (fun r_88_11 u_11 H locs hw_11 hx_11 hP hD hS => ?_)
      obtain ⟨ps_stage_11, rfl⟩ : ∃ z, z = u_11 := ⟨_, rfl⟩
      obtain ⟨hP, hD⟩ := g_re (ws' := [(h_ps, .inr (6, [.int ps_stage_11, .int (bI r_below), .long r_amount, .int r_command]))]) rfl hP hD
      have hF := hF
      rw [hw_11] at hF
      try dsimp only at hF
      refine lv_goto (tgt := 99) hx hb dX6_takes_91 (by decide) ?_
      exact g_zret r_88_11 (ps_stage_11, r_below, r_amount, r_command) hx hb hr hlk hP hK hD hS hF trivial rfl dX6_takes_99
  have hF := hF.trans (if_neg c_4_1_3)
  refine lv_tableOut (tgt := 100) hx hb dX6_takes_4 (by have := lv_neT (a := 0) c_4_1_0 (by decide); have := lv_neT (a := 1) c_4_1_1 (by decide); have := lv_neT (a := 2) c_4_1_2 (by decide); have := lv_neT (a := 3) c_4_1_3 (by decide); omega) (by decide) ?_
  refine lv_iload_n hx hb dX6_takes_100 rfl (lv_at hl 1 rfl) ?_
  refine lv_bipush (v := 59) hx hb dX6_takes_101 (by decide) ?_
  refine lv_icmp_ne (tgt := 117) hx hb dX6_takes_103 (by decide) (fun c_103_12 => ?_) (fun c_103_12 => ?_)
  · have hF := hF.trans (if_neg c_103_12)
    refine lv_iconst (v := 0) hx hb dX6_takes_117 (by decide) ?_
    exact g_zret false (r_stage, r_below, r_amount, r_command) hx hb hr hlk hP hK hD hS hF trivial rfl dX6_takes_118
  · have hF := hF.trans (if_pos c_103_12)
    refine lv_aload_n hx hb dX6_takes_106 rfl (lv_at hl 0 rfl) ?_
    refine g_cvz (rest := []) ⟨hx, hb, hml, hown, hts⟩ hP hD hK hS hA hE (c_X6_takesEnd l D cI cJ h_ps s.heap.size r_stage r_below r_amount r_command ) (cwV 0 hts gX6_takes_X6_takesEnd rfl rfl rfl (by decide +kernel) ⟨Nat.le_of_ble_eq_true rfl, Nat.le_of_ble_eq_true rfl⟩) [0] [] rfl rfl rfl rfl rfl 6 0 rfl rfl rfl hl rfl (Nat.le_of_ble_eq_true rfl) ⟨Nat.zero_le _, Nat.zero_le _⟩ dX6_takes_107 (fun r_107_13 u_13 H locs hw_13 hx_13 hP hD hS => ?_)
    obtain ⟨ps_stage_13, rfl⟩ : ∃ z, z = u_13 := ⟨_, rfl⟩
    obtain ⟨hP, hD⟩ := g_re (ws' := [(h_ps, .inr (6, [.int ps_stage_13, .int (bI r_below), .long r_amount, .int r_command]))]) rfl hP hD
    have hF := hF
    rw [hw_13] at hF
    try dsimp only at hF
    refine lv_if_eq (tgt := 117) hx hb dX6_takes_110 (by decide) (fun c_110_14w => ?_) (fun c_110_14w => ?_)
    · have c_110_14 := bI_f2 c_110_14w
      have hF := hF.trans (if_neg c_110_14)
      refine lv_iconst (v := 0) hx hb dX6_takes_117 (by decide) ?_
      exact g_zret false (ps_stage_13, r_below, r_amount, r_command) hx hb hr hlk hP hK hD hS hF trivial rfl dX6_takes_118
    · have c_110_14 := bI_t c_110_14w
      have hF := hF.trans (if_pos c_110_14)
      refine lv_iconst (v := 1) hx hb dX6_takes_113 (by decide) ?_
      refine lv_goto (tgt := 118) hx hb dX6_takes_114 (by decide) ?_
      exact g_zret true (ps_stage_13, r_below, r_amount, r_command) hx hb hr hlk hP hK hD hS hF trivial rfl dX6_takes_118
