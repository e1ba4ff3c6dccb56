noncomputable def f_X1_signAt (p0 : Int32) (p1 : Int32) : (Int32 × Unit) := (if p0 = (0 : Int32) then ((1 : Int32), ()) else (if p0 = (9 : Int32) then ((-1 : Int32), ()) else (p1, ())))
set_option maxHeartbeats 4000000 in
set_option maxRecDepth 100000 in
theorem c_X1_signAt (l : Launch) (D : va_G) (cI cJ : ClassId) (sz : Nat) (p0 : Int32) (p1 : Int32) : Met l yX1_signAt wsX1_signAt ({ frames := 0, cells := 0, slots := 0, locals := 0 }) (gPc D cI cJ [.int p0, .int p1] [] sz) (gQi D cI cJ (f_X1_signAt p0 p1) (fun _ _ => True) (fun _ : Unit => []) (va_A [] sz)) 0 0 (va_A [] sz) := by
  refine g_met (cc := cX1_signAt) (maxL := 2) (ret := (some .int)) (Qc := gQi D cI cJ (f_X1_signAt p0 p1) _ _) (by decide) rfl (Nat.le_of_ble_eq_true rfl) ?_
  intro A p e s m below meth c hx hb hr hml hts hown hlk hnm hP hK hD hE hA hS ls hl
  have hown : s.vm.findClass RX1 = some m.cls := hown
  have hl : lv_has ls 2 [(0, .int p0), (1, .int p1)] := hl
  have hF := f_X1_signAt.eq_1 p0 p1
  refine lv_iload_n hx hb dX1_signAt_0 rfl (lv_at hl 0 rfl) ?_
  refine lv_if_ne (tgt := 6) hx hb dX1_signAt_1 (by decide) (fun c_1_1 => ?_) (fun c_1_1 => ?_)
  · have hF := hF.trans (if_neg c_1_1)
    refine lv_iload_n hx hb dX1_signAt_6 rfl (lv_at hl 0 rfl) ?_
    refine lv_bipush (v := 9) hx hb dX1_signAt_7 (by decide) ?_
    refine lv_icmp_ne (tgt := 16) hx hb dX1_signAt_9 (by decide) (fun c_9_2 => ?_) (fun c_9_2 => ?_)
    · have hF := hF.trans (if_neg c_9_2)
      refine lv_iload_n hx hb dX1_signAt_16 rfl (lv_at hl 1 rfl) ?_
      exact g_iret () hx hb hr hlk hP hK hD hS hF trivial rfl dX1_signAt_17
    · have hF := hF.trans (if_pos c_9_2)
      refine lv_iconst (v := -1) hx hb dX1_signAt_12 (by decide) ?_
      refine lv_goto (tgt := 17) hx hb dX1_signAt_13 (by decide) ?_
      exact g_iret () hx hb hr hlk hP hK hD hS hF trivial rfl dX1_signAt_17
  · have hF := hF.trans (if_pos c_1_1)
    refine lv_iconst (v := 1) hx hb dX1_signAt_4 (by decide) ?_
    exact g_iret () hx hb hr hlk hP hK hD hS hF trivial rfl dX1_signAt_5

theorem mt2 {p a b : Int32} {C : Prop} (h : p = a) (hd : ¬ a = b) : p = b → C := fun q => absurd (h.symm.trans q) hd
theorem ne_lt {x : Int64} (h : 0 < x) : ¬ x = 0 := fun q => absurd h (by rw [q]; decide)

noncomputable def f_X6_least (p0 : Int32) : (Int32 × Unit) := (if p0 = (68 : Int32) then ((-25000000 : Int32), ()) else (if p0 = (70 : Int32) then ((1 : Int32), ()) else (if p0 = (71 : Int32) then ((1 : Int32), ()) else (if p0 = (78 : Int32) then ((1 : Int32), ()) else ((0 : Int32), ())))))
set_option maxHeartbeats 4000000 in
set_option maxRecDepth 100000 in
theorem c_X6_least (l : Launch) (D : va_G) (cI cJ : ClassId) (sz : Nat) (p0 : Int32) : Met l yX6_least wsX6_least ({ frames := 0, cells := 0, slots := 0, locals := 0 }) (gPc D cI cJ [.int p0] [] sz) (gQi D cI cJ (f_X6_least p0) (fun _ _ => True) (fun _ : Unit => []) (va_A [] sz)) 0 0 (va_A [] sz) := by
  refine g_met (cc := cX6_least) (maxL := 1) (ret := (some .int)) (Qc := gQi D cI cJ (f_X6_least p0) _ _) (by decide) rfl (Nat.le_of_ble_eq_true rfl) ?_
  intro A p e s m below meth c hx hb hr hml hts hown hlk hnm hP hK hD hE hA hS ls hl
  have hown : s.vm.findClass RX6 = some m.cls := hown
  have hl : lv_has ls 1 [(0, .int p0)] := hl
  have hm1 := hts (.constant RX6 56 (-25000000)) (List.mem_of_getElem? (i := 1) rfl)
  have hF := f_X6_least.eq_1 p0
  refine lv_iload_n hx hb dX6_least_0 rfl (lv_at hl 0 rfl) ?_
  by_cases c_1_1_68 : p0 = (68 : Int32)
  · have hF := hF.trans (if_pos c_1_1_68)
    refine lv_lookup (off := 45) (tgt := 46) hx hb dX6_least_1 (by decide) (by rw [c_1_1_68]; decide) (by decide) ?_
    refine lv_ldc hx hb hown hm1 dX6_least_46 ?_
    exact g_iret () hx hb hr hlk hP hK hD hS hF trivial rfl dX6_least_48
  have hF := hF.trans (if_neg c_1_1_68)
  by_cases c_1_1_70 : p0 = (70 : Int32)
  · have hF := hF.trans (if_pos c_1_1_70)
    refine lv_lookup (off := 43) (tgt := 44) hx hb dX6_least_1 (by decide) (by rw [c_1_1_70]; decide) (by decide) ?_
    refine lv_iconst (v := 1) hx hb dX6_least_44 (by decide) ?_
    exact g_iret () hx hb hr hlk hP hK hD hS hF trivial rfl dX6_least_45
  have hF := hF.trans (if_neg c_1_1_70)
  by_cases c_1_1_71 : p0 = (71 : Int32)
  · have hF := hF.trans (if_pos c_1_1_71)
    refine lv_lookup (off := 43) (tgt := 44) hx hb dX6_least_1 (by decide) (by rw [c_1_1_71]; decide) (by decide) ?_
    refine lv_iconst (v := 1) hx hb dX6_least_44 (by decide) ?_
    exact g_iret () hx hb hr hlk hP hK hD hS hF trivial rfl dX6_least_45
  have hF := hF.trans (if_neg c_1_1_71)
  by_cases c_1_1_78 : p0 = (78 : Int32)
  · have hF := hF.trans (if_pos c_1_1_78)
    refine lv_lookup (off := 43) (tgt := 44) hx hb dX6_least_1 (by decide) (by rw [c_1_1_78]; decide) (by decide) ?_
    refine lv_iconst (v := 1) hx hb dX6_least_44 (by decide) ?_
    exact g_iret () hx hb hr hlk hP hK hD hS hF trivial rfl dX6_least_45
  have hF := hF.trans (if_neg c_1_1_78)
  refine lv_lookup (off := 48) (tgt := 49) hx hb dX6_least_1 (by decide) (by show Op.lookupswitch.offset [(68, 45), (70, 43), (71, 43), (78, 43)] 48 _ = _; rw [lv_osw c_1_1_68 (by decide), lv_osw c_1_1_70 (by decide), lv_osw c_1_1_71 (by decide), lv_osw c_1_1_78 (by decide)]; rfl) (by decide) ?_
  refine lv_iconst (v := 0) hx hb dX6_least_49 (by decide) ?_
  exact g_iret () hx hb hr hlk hP hK hD hS hF trivial rfl dX6_least_50

noncomputable def f_X6_most (p0 : Int32) : (Int32 × Unit) := (if p0 = (65 : Int32) then ((0 : Int32), ()) else (if p0 = (66 : Int32) then ((-1 : Int32), ()) else (if p0 = (67 : Int32) then ((-1 : Int32), ()) else (if p0 = (68 : Int32) then ((25000000 : Int32), ()) else (if p0 = (69 : Int32) then ((-1 : Int32), ()) else (if p0 = (70 : Int32) then ((16 : Int32), ()) else (if p0 = (71 : Int32) then ((9 : Int32), ()) else (if p0 = (72 : Int32) then ((-1 : Int32), ()) else (if p0 = (73 : Int32) then ((-1 : Int32), ()) else (if p0 = (74 : Int32) then ((-1 : Int32), ()) else (if p0 = (75 : Int32) then ((-1 : Int32), ()) else (if p0 = (76 : Int32) then ((-1 : Int32), ()) else (if p0 = (77 : Int32) then ((-1 : Int32), ()) else (if p0 = (78 : Int32) then ((50 : Int32), ()) else (if p0 = (79 : Int32) then ((-1 : Int32), ()) else (if p0 = (80 : Int32) then ((-1 : Int32), ()) else (if p0 = (81 : Int32) then ((-1 : Int32), ()) else (if p0 = (82 : Int32) then ((2 : Int32), ()) else (if p0 = (83 : Int32) then ((-1 : Int32), ()) else (if p0 = (84 : Int32) then ((-1 : Int32), ()) else (if p0 = (85 : Int32) then ((-1 : Int32), ()) else (if p0 = (86 : Int32) then ((-1 : Int32), ()) else (if p0 = (87 : Int32) then ((99999 : Int32), ()) else (if p0 = (88 : Int32) then ((-1 : Int32), ()) else (if p0 = (89 : Int32) then ((-1 : Int32), ()) else (if p0 = (90 : Int32) then ((2 : Int32), ()) else ((-1 : Int32), ())))))))))))))))))))))))))))
set_option maxHeartbeats 4000000 in
set_option maxRecDepth 100000 in
theorem c_X6_most (l : Launch) (D : va_G) (cI cJ : ClassId) (sz : Nat) (p0 : Int32) : Met l yX6_most wsX6_most ({ frames := 0, cells := 0, slots := 0, locals := 0 }) (gPc D cI cJ [.int p0] [] sz) (gQi D cI cJ (f_X6_most p0) (fun _ _ => True) (fun _ : Unit => []) (va_A [] sz)) 0 0 (va_A [] sz) := by
  refine g_met (cc := cX6_most) (maxL := 1) (ret := (some .int)) (Qc := gQi D cI cJ (f_X6_most p0) _ _) (by decide) rfl (Nat.le_of_ble_eq_true rfl) ?_
  intro A p e s m below meth c hx hb hr hml hts hown hlk hnm hP hK hD hE hA hS ls hl
  have hown : s.vm.findClass RX6 = some m.cls := hown
  have hl : lv_has ls 1 [(0, .int p0)] := hl
  have hm1 := hts (.constant RX6 57 (99999)) (List.mem_of_getElem? (i := 1) rfl)
  have hm2 := hts (.constant RX6 58 (25000000)) (List.mem_of_getElem? (i := 2) rfl)
  have hF := f_X6_most.eq_1 p0
  refine lv_iload_n hx hb dX6_most_0 rfl (lv_at hl 0 rfl) ?_
  by_cases c_1_1_65 : p0 = (65 : Int32)
  · have hF := hF.trans (if_pos c_1_1_65)
    refine lv_tableIn (off := 124) (tgt := 125) hx hb dX6_most_1 (by rw [c_1_1_65]; decide) (by rw [c_1_1_65]; decide) (by rw [c_1_1_65]; rfl) (by decide) ?_
    refine lv_iconst (v := 0) hx hb dX6_most_125 (by decide) ?_
    exact g_iret () hx hb hr hlk hP hK hD hS hF trivial rfl dX6_most_126
  have hF := hF.trans (if_neg c_1_1_65)
  by_cases c_1_1_66 : p0 = (66 : Int32)
  · have hF := hF.trans (if_pos c_1_1_66)
    refine lv_tableIn (off := 140) (tgt := 141) hx hb dX6_most_1 (by rw [c_1_1_66]; decide) (by rw [c_1_1_66]; decide) (by rw [c_1_1_66]; rfl) (by decide) ?_
    refine lv_iconst (v := -1) hx hb dX6_most_141 (by decide) ?_
    exact g_iret () hx hb hr hlk hP hK hD hS hF trivial rfl dX6_most_142
  have hF := hF.trans (if_neg c_1_1_66)
  by_cases c_1_1_67 : p0 = (67 : Int32)
  · have hF := hF.trans (if_pos c_1_1_67)
    refine lv_tableIn (off := 140) (tgt := 141) hx hb dX6_most_1 (by rw [c_1_1_67]; decide) (by rw [c_1_1_67]; decide) (by rw [c_1_1_67]; rfl) (by decide) ?_
    refine lv_iconst (v := -1) hx hb dX6_most_141 (by decide) ?_
    exact g_iret () hx hb hr hlk hP hK hD hS hF trivial rfl dX6_most_142
  have hF := hF.trans (if_neg c_1_1_67)
  by_cases c_1_1_68 : p0 = (68 : Int32)
  · have hF := hF.trans (if_pos c_1_1_68)
    refine lv_tableIn (off := 134) (tgt := 135) hx hb dX6_most_1 (by rw [c_1_1_68]; decide) (by rw [c_1_1_68]; decide) (by rw [c_1_1_68]; rfl) (by decide) ?_
    refine lv_ldc hx hb hown hm2 dX6_most_135 ?_
    exact g_iret () hx hb hr hlk hP hK hD hS hF trivial rfl dX6_most_137
  have hF := hF.trans (if_neg c_1_1_68)
  by_cases c_1_1_69 : p0 = (69 : Int32)
  · have hF := hF.trans (if_pos c_1_1_69)
    refine lv_tableIn (off := 140) (tgt := 141) hx hb dX6_most_1 (by rw [c_1_1_69]; decide) (by rw [c_1_1_69]; decide) (by rw [c_1_1_69]; rfl) (by decide) ?_
    refine lv_iconst (v := -1) hx hb dX6_most_141 (by decide) ?_
    exact g_iret () hx hb hr hlk hP hK hD hS hF trivial rfl dX6_most_142
  have hF := hF.trans (if_neg c_1_1_69)
  by_cases c_1_1_70 : p0 = (70 : Int32)
  · have hF := hF.trans (if_pos c_1_1_70)
    refine lv_tableIn (off := 128) (tgt := 129) hx hb dX6_most_1 (by rw [c_1_1_70]; decide) (by rw [c_1_1_70]; decide) (by rw [c_1_1_70]; rfl) (by decide) ?_
    refine lv_bipush (v := 16) hx hb dX6_most_129 (by decide) ?_
    exact g_iret () hx hb hr hlk hP hK hD hS hF trivial rfl dX6_most_131
  have hF := hF.trans (if_neg c_1_1_70)
  by_cases c_1_1_71 : p0 = (71 : Int32)
  · have hF := hF.trans (if_pos c_1_1_71)
    refine lv_tableIn (off := 137) (tgt := 138) hx hb dX6_most_1 (by rw [c_1_1_71]; decide) (by rw [c_1_1_71]; decide) (by rw [c_1_1_71]; rfl) (by decide) ?_
    refine lv_bipush (v := 9) hx hb dX6_most_138 (by decide) ?_
    exact g_iret () hx hb hr hlk hP hK hD hS hF trivial rfl dX6_most_140
  have hF := hF.trans (if_neg c_1_1_71)
  by_cases c_1_1_72 : p0 = (72 : Int32)
  · have hF := hF.trans (if_pos c_1_1_72)
    refine lv_tableIn (off := 140) (tgt := 141) hx hb dX6_most_1 (by rw [c_1_1_72]; decide) (by rw [c_1_1_72]; decide) (by rw [c_1_1_72]; rfl) (by decide) ?_
    refine lv_iconst (v := -1) hx hb dX6_most_141 (by decide) ?_
    exact g_iret () hx hb hr hlk hP hK hD hS hF trivial rfl dX6_most_142
  have hF := hF.trans (if_neg c_1_1_72)
  by_cases c_1_1_73 : p0 = (73 : Int32)
  · have hF := hF.trans (if_pos c_1_1_73)
    refine lv_tableIn (off := 140) (tgt := 141) hx hb dX6_most_1 (by rw [c_1_1_73]; decide) (by rw [c_1_1_73]; decide) (by rw [c_1_1_73]; rfl) (by decide) ?_
    refine lv_iconst (v := -1) hx hb dX6_most_141 (by decide) ?_
    exact g_iret () hx hb hr hlk hP hK hD hS hF trivial rfl dX6_most_142
  have hF := hF.trans (if_neg c_1_1_73)
  by_cases c_1_1_74 : p0 = (74 : Int32)
  · have hF := hF.trans (if_pos c_1_1_74)
    refine lv_tableIn (off := 140) (tgt := 141) hx hb dX6_most_1 (by rw [c_1_1_74]; decide) (by rw [c_1_1_74]; decide) (by rw [c_1_1_74]; rfl) (by decide) ?_
    refine lv_iconst (v := -1) hx hb dX6_most_141 (by decide) ?_
    exact g_iret () hx hb hr hlk hP hK hD hS hF trivial rfl dX6_most_142
  have hF := hF.trans (if_neg c_1_1_74)
  by_cases c_1_1_75 : p0 = (75 : Int32)
  · have hF := hF.trans (if_pos c_1_1_75)
    refine lv_tableIn (off := 140) (tgt := 141) hx hb dX6_most_1 (by rw [c_1_1_75]; decide) (by rw [c_1_1_75]; decide) (by rw [c_1_1_75]; rfl) (by decide) ?_
    refine lv_iconst (v := -1) hx hb dX6_most_141 (by decide) ?_
    exact g_iret () hx hb hr hlk hP hK hD hS hF trivial rfl dX6_most_142
  have hF := hF.trans (if_neg c_1_1_75)
  by_cases c_1_1_76 : p0 = (76 : Int32)
  · have hF := hF.trans (if_pos c_1_1_76)
    refine lv_tableIn (off := 140) (tgt := 141) hx hb dX6_most_1 (by rw [c_1_1_76]; decide) (by rw [c_1_1_76]; decide) (by rw [c_1_1_76]; rfl) (by decide) ?_
    refine lv_iconst (v := -1) hx hb dX6_most_141 (by decide) ?_
    exact g_iret () hx hb hr hlk hP hK hD hS hF trivial rfl dX6_most_142
  have hF := hF.trans (if_neg c_1_1_76)
  by_cases c_1_1_77 : p0 = (77 : Int32)
  · have hF := hF.trans (if_pos c_1_1_77)
    refine lv_tableIn (off := 140) (tgt := 141) hx hb dX6_most_1 (by rw [c_1_1_77]; decide) (by rw [c_1_1_77]; decide) (by rw [c_1_1_77]; rfl) (by decide) ?_
    refine lv_iconst (v := -1) hx hb dX6_most_141 (by decide) ?_
    exact g_iret () hx hb hr hlk hP hK hD hS hF trivial rfl dX6_most_142
  have hF := hF.trans (if_neg c_1_1_77)
  by_cases c_1_1_78 : p0 = (78 : Int32)
  · have hF := hF.trans (if_pos c_1_1_78)
    refine lv_tableIn (off := 119) (tgt := 120) hx hb dX6_most_1 (by rw [c_1_1_78]; decide) (by rw [c_1_1_78]; decide) (by rw [c_1_1_78]; rfl) (by decide) ?_
    refine lv_bipush (v := 50) hx hb dX6_most_120 (by decide) ?_
    exact g_iret () hx hb hr hlk hP hK hD hS hF trivial rfl dX6_most_122
  have hF := hF.trans (if_neg c_1_1_78)
  by_cases c_1_1_79 : p0 = (79 : Int32)
  · have hF := hF.trans (if_pos c_1_1_79)
    refine lv_tableIn (off := 140) (tgt := 141) hx hb dX6_most_1 (by rw [c_1_1_79]; decide) (by rw [c_1_1_79]; decide) (by rw [c_1_1_79]; rfl) (by decide) ?_
    refine lv_iconst (v := -1) hx hb dX6_most_141 (by decide) ?_
    exact g_iret () hx hb hr hlk hP hK hD hS hF trivial rfl dX6_most_142
  have hF := hF.trans (if_neg c_1_1_79)
  by_cases c_1_1_80 : p0 = (80 : Int32)
  · have hF := hF.trans (if_pos c_1_1_80)
    refine lv_tableIn (off := 140) (tgt := 141) hx hb dX6_most_1 (by rw [c_1_1_80]; decide) (by rw [c_1_1_80]; decide) (by rw [c_1_1_80]; rfl) (by decide) ?_
    refine lv_iconst (v := -1) hx hb dX6_most_141 (by decide) ?_
    exact g_iret () hx hb hr hlk hP hK hD hS hF trivial rfl dX6_most_142
  have hF := hF.trans (if_neg c_1_1_80)
  by_cases c_1_1_81 : p0 = (81 : Int32)
  · have hF := hF.trans (if_pos c_1_1_81)
    refine lv_tableIn (off := 140) (tgt := 141) hx hb dX6_most_1 (by rw [c_1_1_81]; decide) (by rw [c_1_1_81]; decide) (by rw [c_1_1_81]; rfl) (by decide) ?_
    refine lv_iconst (v := -1) hx hb dX6_most_141 (by decide) ?_
    exact g_iret () hx hb hr hlk hP hK hD hS hF trivial rfl dX6_most_142
  have hF := hF.trans (if_neg c_1_1_81)
  by_cases c_1_1_82 : p0 = (82 : Int32)
  · have hF := hF.trans (if_pos c_1_1_82)
    refine lv_tableIn (off := 122) (tgt := 123) hx hb dX6_most_1 (by rw [c_1_1_82]; decide) (by rw [c_1_1_82]; decide) (by rw [c_1_1_82]; rfl) (by decide) ?_
    refine lv_iconst (v := 2) hx hb dX6_most_123 (by decide) ?_
    exact g_iret () hx hb hr hlk hP hK hD hS hF trivial rfl dX6_most_124
  have hF := hF.trans (if_neg c_1_1_82)
  by_cases c_1_1_83 : p0 = (83 : Int32)
  · have hF := hF.trans (if_pos c_1_1_83)
    refine lv_tableIn (off := 140) (tgt := 141) hx hb dX6_most_1 (by rw [c_1_1_83]; decide) (by rw [c_1_1_83]; decide) (by rw [c_1_1_83]; rfl) (by decide) ?_
    refine lv_iconst (v := -1) hx hb dX6_most_141 (by decide) ?_
    exact g_iret () hx hb hr hlk hP hK hD hS hF trivial rfl dX6_most_142
  have hF := hF.trans (if_neg c_1_1_83)
  by_cases c_1_1_84 : p0 = (84 : Int32)
  · have hF := hF.trans (if_pos c_1_1_84)
    refine lv_tableIn (off := 140) (tgt := 141) hx hb dX6_most_1 (by rw [c_1_1_84]; decide) (by rw [c_1_1_84]; decide) (by rw [c_1_1_84]; rfl) (by decide) ?_
    refine lv_iconst (v := -1) hx hb dX6_most_141 (by decide) ?_
    exact g_iret () hx hb hr hlk hP hK hD hS hF trivial rfl dX6_most_142
  have hF := hF.trans (if_neg c_1_1_84)
  by_cases c_1_1_85 : p0 = (85 : Int32)
  · have hF := hF.trans (if_pos c_1_1_85)
    refine lv_tableIn (off := 140) (tgt := 141) hx hb dX6_most_1 (by rw [c_1_1_85]; decide) (by rw [c_1_1_85]; decide) (by rw [c_1_1_85]; rfl) (by decide) ?_
    refine lv_iconst (v := -1) hx hb dX6_most_141 (by decide) ?_
    exact g_iret () hx hb hr hlk hP hK hD hS hF trivial rfl dX6_most_142
  have hF := hF.trans (if_neg c_1_1_85)
  by_cases c_1_1_86 : p0 = (86 : Int32)
  · have hF := hF.trans (if_pos c_1_1_86)
    refine lv_tableIn (off := 140) (tgt := 141) hx hb dX6_most_1 (by rw [c_1_1_86]; decide) (by rw [c_1_1_86]; decide) (by rw [c_1_1_86]; rfl) (by decide) ?_
    refine lv_iconst (v := -1) hx hb dX6_most_141 (by decide) ?_
    exact g_iret () hx hb hr hlk hP hK hD hS hF trivial rfl dX6_most_142
  have hF := hF.trans (if_neg c_1_1_86)
  by_cases c_1_1_87 : p0 = (87 : Int32)
  · have hF := hF.trans (if_pos c_1_1_87)
    refine lv_tableIn (off := 131) (tgt := 132) hx hb dX6_most_1 (by rw [c_1_1_87]; decide) (by rw [c_1_1_87]; decide) (by rw [c_1_1_87]; rfl) (by decide) ?_
    refine lv_ldc hx hb hown hm1 dX6_most_132 ?_
    exact g_iret () hx hb hr hlk hP hK hD hS hF trivial rfl dX6_most_134
  have hF := hF.trans (if_neg c_1_1_87)
  by_cases c_1_1_88 : p0 = (88 : Int32)
  · have hF := hF.trans (if_pos c_1_1_88)
    refine lv_tableIn (off := 140) (tgt := 141) hx hb dX6_most_1 (by rw [c_1_1_88]; decide) (by rw [c_1_1_88]; decide) (by rw [c_1_1_88]; rfl) (by decide) ?_
    refine lv_iconst (v := -1) hx hb dX6_most_141 (by decide) ?_
    exact g_iret () hx hb hr hlk hP hK hD hS hF trivial rfl dX6_most_142
  have hF := hF.trans (if_neg c_1_1_88)
  by_cases c_1_1_89 : p0 = (89 : Int32)
  · have hF := hF.trans (if_pos c_1_1_89)
    refine lv_tableIn (off := 140) (tgt := 141) hx hb dX6_most_1 (by rw [c_1_1_89]; decide) (by rw [c_1_1_89]; decide) (by rw [c_1_1_89]; rfl) (by decide) ?_
    refine lv_iconst (v := -1) hx hb dX6_most_141 (by decide) ?_
    exact g_iret () hx hb hr hlk hP hK hD hS hF trivial rfl dX6_most_142
  have hF := hF.trans (if_neg c_1_1_89)
  by_cases c_1_1_90 : p0 = (90 : Int32)
  · have hF := hF.trans (if_pos c_1_1_90)
    refine lv_tableIn (off := 126) (tgt := 127) hx hb dX6_most_1 (by rw [c_1_1_90]; decide) (by rw [c_1_1_90]; decide) (by rw [c_1_1_90]; rfl) (by decide) ?_
    refine lv_iconst (v := 2) hx hb dX6_most_127 (by decide) ?_
    exact g_iret () hx hb hr hlk hP hK hD hS hF trivial rfl dX6_most_128
  have hF := hF.trans (if_neg c_1_1_90)
  refine lv_tableOut (tgt := 141) hx hb dX6_most_1 (by have := lv_neT (a := 65) c_1_1_65 (by decide); have := lv_neT (a := 66) c_1_1_66 (by decide); have := lv_neT (a := 67) c_1_1_67 (by decide); have := lv_neT (a := 68) c_1_1_68 (by decide); have := lv_neT (a := 69) c_1_1_69 (by decide); have := lv_neT (a := 70) c_1_1_70 (by decide); have := lv_neT (a := 71) c_1_1_71 (by decide); have := lv_neT (a := 72) c_1_1_72 (by decide); have := lv_neT (a := 73) c_1_1_73 (by decide); have := lv_neT (a := 74) c_1_1_74 (by decide); have := lv_neT (a := 75) c_1_1_75 (by decide); have := lv_neT (a := 76) c_1_1_76 (by decide); have := lv_neT (a := 77) c_1_1_77 (by decide); have := lv_neT (a := 78) c_1_1_78 (by decide); have := lv_neT (a := 79) c_1_1_79 (by decide); have := lv_neT (a := 80) c_1_1_80 (by decide); have := lv_neT (a := 81) c_1_1_81 (by decide); have := lv_neT (a := 82) c_1_1_82 (by decide); have := lv_neT (a := 83) c_1_1_83 (by decide); have := lv_neT (a := 84) c_1_1_84 (by decide); have := lv_neT (a := 85) c_1_1_85 (by decide); have := lv_neT (a := 86) c_1_1_86 (by decide); have := lv_neT (a := 87) c_1_1_87 (by decide); have := lv_neT (a := 88) c_1_1_88 (by decide); have := lv_neT (a := 89) c_1_1_89 (by decide); have := lv_neT (a := 90) c_1_1_90 (by decide); omega) (by decide) ?_
  refine lv_iconst (v := -1) hx hb dX6_most_141 (by decide) ?_
  exact g_iret () hx hb hr hlk hP hK hD hS hF trivial rfl dX6_most_142

noncomputable def f_X8_isRange (p0 : Int32) : (Bool × Unit) := (if p0 < (0 : Int32) then (false, ()) else (if (3 : Int32) ≤ p0 then (false, ()) else (true, ())))
set_option maxHeartbeats 4000000 in
set_option maxRecDepth 100000 in
theorem c_X8_isRange (l : Launch) (D : va_G) (cI cJ : ClassId) (sz : Nat) (p0 : Int32) : Met l yX8_isRange wsX8_isRange ({ frames := 0, cells := 0, slots := 0, locals := 0 }) (gPc D cI cJ [.int p0] [] sz) (gQz D cI cJ (f_X8_isRange p0) (fun _ _ => True) (fun _ : Unit => []) (va_A [] sz)) 0 0 (va_A [] sz) := by
  refine g_met (cc := cX8_isRange) (maxL := 1) (ret := (some .boolean)) (Qc := gQz D cI cJ (f_X8_isRange p0) _ _) (by decide) rfl (Nat.le_of_ble_eq_true rfl) ?_
  intro A p e s m below meth c hx hb hr hml hts hown hlk hnm hP hK hD hE hA hS ls hl
  have hown : s.vm.findClass RX8 = some m.cls := hown
  have hl : lv_has ls 1 [(0, .int p0)] := hl
  have hF := f_X8_isRange.eq_1 p0
  refine lv_iload_n hx hb dX8_isRange_0 rfl (lv_at hl 0 rfl) ?_
  refine lv_if_lt (tgt := 13) hx hb dX8_isRange_1 (by decide) (fun c_1_1 => ?_) (fun c_1_1 => ?_)
  · have hF := hF.trans (if_pos c_1_1)
    refine lv_iconst (v := 0) hx hb dX8_isRange_13 (by decide) ?_
    exact g_zret false () hx hb hr hlk hP hK hD hS hF trivial rfl dX8_isRange_14
  · have hF := hF.trans (if_neg c_1_1)
    refine lv_iload_n hx hb dX8_isRange_4 rfl (lv_at hl 0 rfl) ?_
    refine lv_iconst (v := 3) hx hb dX8_isRange_5 (by decide) ?_
    refine lv_icmp_ge (tgt := 13) hx hb dX8_isRange_6 (by decide) (fun c_6_2 => ?_) (fun c_6_2 => ?_)
    · have hF := hF.trans (if_pos c_6_2)
      refine lv_iconst (v := 0) hx hb dX8_isRange_13 (by decide) ?_
      exact g_zret false () hx hb hr hlk hP hK hD hS hF trivial rfl dX8_isRange_14
    · have hF := hF.trans (if_neg c_6_2)
      refine lv_iconst (v := 1) hx hb dX8_isRange_9 (by decide) ?_
      refine lv_goto (tgt := 14) hx hb dX8_isRange_10 (by decide) ?_
      exact g_zret true () hx hb hr hlk hP hK hD hS hF trivial rfl dX8_isRange_14

theorem isRange_in {p : Int32} {r : Bool} (h : f_X8_isRange p = (r, ())) : r = true → vp_in p 3 := by
  intro hr
  subst hr
  rw [f_X8_isRange] at h
  by_cases h1 : p < 0
  · rw [if_pos h1] at h; cases h
  · rw [if_neg h1] at h
    by_cases h2 : (3 : Int32) ≤ p
    · rw [if_pos h2] at h; cases h
    · exact gi_in ⟨gi_nlt h1 rfl (by decide), gi_nle h2 (by decide) rfl⟩

noncomputable def f_X9_folded (p0 : Int64) (p1 : Int64) : (Int64 × Unit) := ((((31 : Int64) * p0) + p1), ())
set_option maxHeartbeats 4000000 in
set_option maxRecDepth 100000 in
theorem c_X9_folded (l : Launch) (D : va_G) (cI cJ : ClassId) (sz : Nat) (p0 : Int64) (p1 : Int64) : Met l yX9_folded wsX9_folded ({ frames := 0, cells := 0, slots := 0, locals := 0 }) (gPc D cI cJ [.long p0, .long p1] [] sz) (gQl D cI cJ (f_X9_folded p0 p1) (fun _ _ => True) (fun _ : Unit => []) (va_A [] sz)) 0 0 (va_A [] sz) := by
  refine g_met (cc := cX9_folded) (maxL := 4) (ret := (some .long)) (Qc := gQl D cI cJ (f_X9_folded p0 p1) _ _) (by decide) rfl (Nat.le_of_ble_eq_true rfl) ?_
  intro A p e s m below meth c hx hb hr hml hts hown hlk hnm hP hK hD hE hA hS ls hl
  have hown : s.vm.findClass RX9 = some m.cls := hown
  have hl : lv_has ls 4 [(0, .long p0), (2, .long p1)] := hl
  have hm1 := hts (.constantLong RX9 357 (31)) (List.mem_of_getElem? (i := 1) rfl)
  have hF := f_X9_folded.eq_1 p0 p1
  refine lv_ldc2 hx hb hown hm1 dX9_folded_0 ?_
  refine lv_lload_n hx hb dX9_folded_3 rfl (lv_at hl 0 rfl) ?_
  refine lv_lmul hx hb dX9_folded_4 ?_
  refine lv_lload_n hx hb dX9_folded_5 rfl (lv_at hl 1 rfl) ?_
  refine lv_ladd hx hb dX9_folded_6 ?_
  exact g_lret () hx hb hr hlk hP hK hD hS hF trivial rfl dX9_folded_7

noncomputable def f_X9_flag (p0 : Bool) : (Int32 × Unit) := (if p0 = true then ((1 : Int32), ()) else ((0 : Int32), ()))
set_option maxHeartbeats 4000000 in
set_option maxRecDepth 100000 in
theorem c_X9_flag (l : Launch) (D : va_G) (cI cJ : ClassId) (sz : Nat) (p0 : Bool) : Met l yX9_flag wsX9_flag ({ frames := 0, cells := 0, slots := 0, locals := 0 }) (gPc D cI cJ [.int (bI p0)] [] sz) (gQi D cI cJ (f_X9_flag p0) (fun _ _ => True) (fun _ : Unit => []) (va_A [] sz)) 0 0 (va_A [] sz) := by
  refine g_met (cc := cX9_flag) (maxL := 1) (ret := (some .int)) (Qc := gQi D cI cJ (f_X9_flag p0) _ _) (by decide) rfl (Nat.le_of_ble_eq_true rfl) ?_
  intro A p e s m below meth c hx hb hr hml hts hown hlk hnm hP hK hD hE hA hS ls hl
  have hown : s.vm.findClass RX9 = some m.cls := hown
  have hl : lv_has ls 1 [(0, .int (bI p0))] := hl
  have hF := f_X9_flag.eq_1 p0
  refine lv_iload_n hx hb dX9_flag_0 rfl (lv_at hl 0 rfl) ?_
  refine lv_if_eq (tgt := 8) hx hb dX9_flag_1 (by decide) (fun c_1_1w => ?_) (fun c_1_1w => ?_)
  · have c_1_1 := bI_f2 c_1_1w
    have hF := hF.trans (if_neg c_1_1)
    refine lv_iconst (v := 0) hx hb dX9_flag_8 (by decide) ?_
    exact g_iret () hx hb hr hlk hP hK hD hS hF trivial rfl dX9_flag_9
  · have c_1_1 := bI_t c_1_1w
    have hF := hF.trans (if_pos c_1_1)
    refine lv_iconst (v := 1) hx hb dX9_flag_4 (by decide) ?_
    refine lv_goto (tgt := 9) hx hb dX9_flag_5 (by decide) ?_
    exact g_iret () hx hb hr hlk hP hK hD hS hF trivial rfl dX9_flag_9

noncomputable def f_X9_within (p0 : Int64) (p1 : Int64) : (Bool × Unit) := (if p0 < (-p1) then (false, ()) else (if p1 < p0 then (false, ()) else (true, ())))
set_option maxHeartbeats 4000000 in
set_option maxRecDepth 100000 in
theorem c_X9_within (l : Launch) (D : va_G) (cI cJ : ClassId) (sz : Nat) (p0 : Int64) (p1 : Int64) : Met l yX9_within wsX9_within ({ frames := 0, cells := 0, slots := 0, locals := 0 }) (gPc D cI cJ [.long p0, .long p1] [] sz) (gQz D cI cJ (f_X9_within p0 p1) (fun _ _ => True) (fun _ : Unit => []) (va_A [] sz)) 0 0 (va_A [] sz) := by
  refine g_met (cc := cX9_within) (maxL := 4) (ret := (some .boolean)) (Qc := gQz D cI cJ (f_X9_within p0 p1) _ _) (by decide) rfl (Nat.le_of_ble_eq_true rfl) ?_
  intro A p e s m below meth c hx hb hr hml hts hown hlk hnm hP hK hD hE hA hS ls hl
  have hown : s.vm.findClass RX9 = some m.cls := hown
  have hl : lv_has ls 4 [(0, .long p0), (2, .long p1)] := hl
  have hF := f_X9_within.eq_1 p0 p1
  refine lv_lload_n hx hb dX9_within_0 rfl (lv_at hl 0 rfl) ?_
  refine lv_lload_n hx hb dX9_within_1 rfl (lv_at hl 1 rfl) ?_
  refine lv_lneg hx hb dX9_within_2 ?_
  refine g_l_lt (tgt := 17) hx hb dX9_within_3 dX9_within_4 (by decide) (fun c_3_4 => ?_) (fun c_3_4 => ?_)
  · have hF := hF.trans (if_pos c_3_4)
    refine lv_iconst (v := 0) hx hb dX9_within_17 (by decide) ?_
    exact g_zret false () hx hb hr hlk hP hK hD hS hF trivial rfl dX9_within_18
  · have hF := hF.trans (if_neg c_3_4)
    refine lv_lload_n hx hb dX9_within_7 rfl (lv_at hl 0 rfl) ?_
    refine lv_lload_n hx hb dX9_within_8 rfl (lv_at hl 1 rfl) ?_
    refine g_l_gt (tgt := 17) hx hb dX9_within_9 dX9_within_10 (by decide) (fun c_9_6 => ?_) (fun c_9_6 => ?_)
    · have hF := hF.trans (if_pos c_9_6)
      refine lv_iconst (v := 0) hx hb dX9_within_17 (by decide) ?_
      exact g_zret false () hx hb hr hlk hP hK hD hS hF trivial rfl dX9_within_18
    · have hF := hF.trans (if_neg c_9_6)
      refine lv_iconst (v := 1) hx hb dX9_within_13 (by decide) ?_
      refine lv_goto (tgt := 18) hx hb dX9_within_14 (by decide) ?_
      exact g_zret true () hx hb hr hlk hP hK hD hS hF trivial rfl dX9_within_18

noncomputable def f_X10_within (p0 : Int32) (p1 : Int32) (p2 : Int32) : (Bool × Unit) := (if p0 < p1 then (false, ()) else (if p2 < p0 then (false, ()) else (true, ())))
set_option maxHeartbeats 4000000 in
set_option maxRecDepth 100000 in
theorem c_X10_within (l : Launch) (D : va_G) (cI cJ : ClassId) (sz : Nat) (p0 : Int32) (p1 : Int32) (p2 : Int32) : Met l yX10_within wsX10_within ({ frames := 0, cells := 0, slots := 0, locals := 0 }) (gPc D cI cJ [.int p0, .int p1, .int p2] [] sz) (gQz D cI cJ (f_X10_within p0 p1 p2) (fun _ _ => True) (fun _ : Unit => []) (va_A [] sz)) 0 0 (va_A [] sz) := by
  refine g_met (cc := cX10_within) (maxL := 3) (ret := (some .boolean)) (Qc := gQz D cI cJ (f_X10_within p0 p1 p2) _ _) (by decide) rfl (Nat.le_of_ble_eq_true rfl) ?_
  intro A p e s m below meth c hx hb hr hml hts hown hlk hnm hP hK hD hE hA hS ls hl
  have hown : s.vm.findClass RX10 = some m.cls := hown
  have hl : lv_has ls 3 [(0, .int p0), (1, .int p1), (2, .int p2)] := hl
  have hF := f_X10_within.eq_1 p0 p1 p2
  refine lv_iload_n hx hb dX10_within_0 rfl (lv_at hl 0 rfl) ?_
  refine lv_iload_n hx hb dX10_within_1 rfl (lv_at hl 1 rfl) ?_
  refine lv_icmp_lt (tgt := 14) hx hb dX10_within_2 (by decide) (fun c_2_1 => ?_) (fun c_2_1 => ?_)
  · have hF := hF.trans (if_pos c_2_1)
    refine lv_iconst (v := 0) hx hb dX10_within_14 (by decide) ?_
    exact g_zret false () hx hb hr hlk hP hK hD hS hF trivial rfl dX10_within_15
  · have hF := hF.trans (if_neg c_2_1)
    refine lv_iload_n hx hb dX10_within_5 rfl (lv_at hl 0 rfl) ?_
    refine lv_iload_n hx hb dX10_within_6 rfl (lv_at hl 2 rfl) ?_
    refine lv_icmp_gt (tgt := 14) hx hb dX10_within_7 (by decide) (fun c_7_2 => ?_) (fun c_7_2 => ?_)
    · have hF := hF.trans (if_pos c_7_2)
      refine lv_iconst (v := 0) hx hb dX10_within_14 (by decide) ?_
      exact g_zret false () hx hb hr hlk hP hK hD hS hF trivial rfl dX10_within_15
    · have hF := hF.trans (if_neg c_7_2)
      refine lv_iconst (v := 1) hx hb dX10_within_10 (by decide) ?_
      refine lv_goto (tgt := 15) hx hb dX10_within_11 (by decide) ?_
      exact g_zret true () hx hb hr hlk hP hK hD hS hF trivial rfl dX10_within_15

theorem within_in {v lo hi : Int32} {r : Bool} (h : f_X10_within v lo hi = (r, ())) : r = true → lo.toInt ≤ v.toInt ∧ v.toInt ≤ hi.toInt := by
  intro hr
  subst hr
  rw [f_X10_within] at h
  by_cases h1 : v < lo
  · rw [if_pos h1] at h; cases h
  · rw [if_neg h1] at h
    by_cases h2 : hi < v
    · rw [if_pos h2] at h; cases h
    · exact ⟨gi_nlt h1 rfl rfl, gi_nlt h2 rfl rfl⟩
theorem gi_pred {x : Int32} (h : -2147483648 < x.toInt) : (x - 1).toInt = x.toInt - 1 := by
  have h1 := gi_max x
  have h2 : (1 : Int32).toInt = 1 := by decide
  rw [gi_sub (by omega) (by omega), h2]
theorem pred16 {x : Int32} (h1 : x.toInt ≤ 17) (h2 : -2147483648 < x.toInt) : (x - 1).toInt ≤ 16 := by
  rw [gi_pred h2]; omega
theorem gi_sub8 {x : Int32} (h : 8 ≤ x.toInt) : (x - 8).toInt = x.toInt - 8 := by
  have h1 := gi_max x
  have h2 : (8 : Int32).toInt = 8 := by decide
  rw [gi_sub (by omega) (by omega), h2]
theorem held_inc {x : Int32} (h : 0 ≤ x.toInt ∧ x.toInt ≤ 16) : (x + 1).toInt ≤ 17 := by
  rw [gi_inc (by omega)]; omega
theorem sub3_in {x : Int32} (h : 3 ≤ x.toInt ∧ x.toInt ≤ 6) : vp_in (x - 3) 4 := by
  have h2 : (3 : Int32).toInt = 3 := by decide
  have h3 : (x - 3).toInt = x.toInt - 3 := by rw [gi_sub (by omega) (by omega), h2]
  exact gi_in (by omega)
theorem mul8_int {x : Int32} (h : 0 ≤ x.toInt ∧ x.toInt ≤ 12) : ((8 : Int32) * x).toInt = 8 * x.toInt := by
  have h2 : (8 : Int32).toInt = 8 := by decide
  rw [gi_mul (by rw [h2]; omega) (by rw [h2]; omega), h2]
theorem mul2_int {x : Int32} (h : 0 ≤ x.toInt ∧ x.toInt ≤ 16) : ((2 : Int32) * x).toInt = 2 * x.toInt := by
  have h2 : (2 : Int32).toInt = 2 := by decide
  rw [gi_mul (by rw [h2]; omega) (by rw [h2]; omega), h2]
theorem read_in {k p q : Int32} (hk : 0 ≤ k.toInt ∧ k.toInt ≤ 12) (h1 : (0 : Int32).toInt ≤ p.toInt ∧ p.toInt ≤ (k - 1).toInt) (h2 : (0 : Int32).toInt ≤ q.toInt ∧ q.toInt ≤ (7 : Int32).toInt) : vp_in (((8 : Int32) * p) + q) 96 := by
  have e0 : (0 : Int32).toInt = 0 := by decide
  have e7 : (7 : Int32).toInt = 7 := by decide
  have e8 : (8 : Int32).toInt = 8 := by decide
  have e1 := gi_pred (x := k) (by omega)
  have e2 : ((8 : Int32) * p).toInt = 8 * p.toInt := mul8_int (by omega)
  have e3 : (((8 : Int32) * p) + q).toInt = 8 * p.toInt + q.toInt := by rw [gi_add (by omega) (by omega), e2]
  exact gi_in (by omega)
theorem held_in {k p : Int32} (hk : 0 ≤ k.toInt ∧ k.toInt ≤ 17) (h1 : (0 : Int32).toInt ≤ p.toInt ∧ p.toInt ≤ (k - 1).toInt) : vp_in p 17 := by
  have e0 : (0 : Int32).toInt = 0 := by decide
  have e1 := gi_pred (x := k) (by omega)
  exact gi_in (by omega)
theorem r3_in {p : Int32} (h1 : (0 : Int32).toInt ≤ p.toInt ∧ p.toInt ≤ (2 : Int32).toInt) : vp_in p 3 := by
  have e0 : (0 : Int32).toInt = 0 := by decide
  have e2 : (2 : Int32).toInt = 2 := by decide
  exact gi_in (by omega)
theorem half_in {x : Int32} (h : 0 ≤ x.toInt ∧ x.toInt < 34) : vp_in (x / 2) 17 := by
  have e2 : (2 : Int32).toInt = 2 := by decide
  have e3 : (x / 2).toInt = x.toInt / 2 := by
    rw [Int32.toInt_div_of_ne_right x 2 (by decide), e2]
    exact Int.tdiv_eq_ediv_of_nonneg h.1
  exact gi_in (by omega)
def frMu (r : Int32) (less more : Bool) : Nat := if more = true then (if less = true then 1 + r.toInt.toNat else 4 + (2 - r.toInt).toNat) else 0
theorem fr_8 {r : Int32} (h : vp_in r 3) : frMu r false true < 8 := by
  have h1 := vp_in_iff.mp h
  unfold frMu
  rw [if_pos rfl, if_neg (by decide)]
  omega
theorem fr_dec {r d : Int32} {gd gu l2 ls' mo' : Bool} (hr : vp_in r 3) (h1 : gd = true → 0 < r.toInt) (h2 : gu = true → r.toInt < 2 ∧ ¬ l2 = true) (h3 : (gd = true ∧ d = (-1 : Int32)) ∨ (¬ gd = true ∧ gu = true ∧ d = (1 : Int32)) ∨ (¬ gd = true ∧ ¬ gu = true ∧ d = (0 : Int32))) (h4 : (gd = true → ls' = true) ∧ (l2 = true → ls' = true) ∧ (¬ gd = true → ls' = true → l2 = true)) (h5 : mo' = true → gd = true ∨ gu = true) :
    vp_in (r + d) 3 ∧ frMu (r + d) ls' mo' < frMu r l2 true := by
  have hv := vp_in_iff.mp hr
  have em : (-1 : Int32).toInt = -1 := by decide
  have e1 : (1 : Int32).toInt = 1 := by decide
  have e0 : (0 : Int32).toInt = 0 := by decide
  have hq : ∀ (z : Int) (_ : d.toInt = z) (_ : -1 ≤ z ∧ z ≤ 1), (r + d).toInt = r.toInt + z := by
    intro z hz hb
    rw [gi_add (by omega) (by omega), hz]
  unfold frMu
  rw [if_pos (rfl : true = true)]
  rcases h3 with ⟨g1, rfl⟩ | ⟨g1, g2, rfl⟩ | ⟨g1, g2, rfl⟩
  · have hp := h1 g1
    have e := hq (-1) em (by omega)
    refine ⟨gi_in (by omega), ?_⟩
    rw [h4.1 g1, if_pos (rfl : true = true), e]
    by_cases hl : l2 = true
    · rw [if_pos hl]; split <;> omega
    · rw [if_neg hl]; split <;> omega
  · obtain ⟨hp, hl⟩ := h2 g2
    have e := hq 1 e1 (by omega)
    refine ⟨gi_in (by omega), ?_⟩
    have hls : ¬ ls' = true := fun q => hl (h4.2.2 g1 q)
    rw [if_neg hl, if_neg hls, e]
    split <;> omega
  · have e := hq 0 e0 (by omega)
    refine ⟨gi_in (by omega), ?_⟩
    have hmo : ¬ mo' = true := fun q => (h5 q).elim g1 g2
    rw [if_neg hmo]
    split <;> omega
theorem held_inc2 {x : Int32} (h : 0 ≤ x.toInt ∧ x.toInt ≤ 16) : 0 ≤ (x + 1).toInt ∧ (x + 1).toInt ≤ 17 := by
  rw [gi_inc (by omega)]; omega
def mOk (range cycles held most : Int32) : Prop := vp_in range 3 ∧ (1 ≤ cycles.toInt ∧ cycles.toInt ≤ 50) ∧ (0 ≤ held.toInt ∧ held.toInt ≤ 16) ∧ (1 ≤ most.toInt ∧ most.toInt ≤ 16)
theorem mOk_next {r c h m r' h' : Int32} (hk : mOk r c h m) (hn : vp_in r' 3 ∧ 0 ≤ h'.toInt ∧ h'.toInt ≤ 16) : mOk r' c h' m := ⟨hn.1, hk.2.1, hn.2, hk.2.2.2⟩
theorem mOk_parts {r c h m : Int32} (hk : mOk r c h m) : vp_in r 3 ∧ 0 ≤ h.toInt ∧ h.toInt ≤ 16 := ⟨hk.1, hk.2.2.1⟩
theorem cyc_ne {c : Int32} {r : Int64} (hc : 1 ≤ c.toInt ∧ c.toInt ≤ 50) (hr : 0 < r.toInt ∧ r.toInt ≤ 100) : ¬ (c.toInt64 * r) = 0 := by
  intro h
  have h1 : (c.toInt64 * r).toInt = 0 := by rw [h]; decide
  rw [Int64.toInt_mul, Int32.toInt_toInt64] at h1
  have h2 : 1 * 1 ≤ c.toInt * r.toInt := Int.mul_le_mul (by omega) (by omega) (by omega) (by omega)
  have h3 : c.toInt * r.toInt ≤ 50 * 100 := Int.mul_le_mul (by omega) (by omega) (by omega) (by omega)
  rw [Int.bmod_eq_of_le (by omega) (by omega)] at h1
  omega
/-- what is read of a command so far -/
def pI (c n : Int32) (b : Bool) : Prop := c = 0 ∨ ((0 ≤ n.toInt ∧ n.toInt ≤ 25000000) ∧ (b = true → c = 68) ∧ (c = 78 → n.toInt ≤ 50) ∧ (c = 82 → n.toInt ≤ 2) ∧ (c = 70 → n.toInt ≤ 16))
def pW (c n : Int32) : Prop := (c = 78 → 1 ≤ n.toInt) ∧ (c = 70 → 1 ≤ n.toInt)
theorem pI_0 (c : Int32) : pI c 0 false := Or.inr ⟨by decide, fun q => absurd q (by decide), fun _ => by decide, fun _ => by decide, fun _ => by decide⟩
theorem pW_A {c n : Int32} (h : c = 65) : pW c n := ⟨fun q => absurd (q.symm.trans h) (by decide), fun q => absurd (q.symm.trans h) (by decide)⟩
theorem pW_B {c n : Int32} {b : Bool} (h : pI c n b) (hb : b = true) (h0 : ¬ c = 0) : pW c n := by
  rcases h with h | h
  · exact absurd h h0
  · have h1 := h.2.1 hb
    exact ⟨fun q => absurd (q.symm.trans h1) (by decide), fun q => absurd (q.symm.trans h1) (by decide)⟩
theorem pW_L {c n r : Int32} (h : (c = 78 → r = (1 : Int32)) ∧ (c = 70 → r = (1 : Int32))) (hn : ¬ n < r) : pW c n := by
  have e1 : (1 : Int32).toInt = 1 := by decide
  have h1 := gi_nlt hn rfl rfl
  exact ⟨fun q => by rw [h.1 q, e1] at h1; exact h1, fun q => by rw [h.2 q, e1] at h1; exact h1⟩
theorem mo_post {p r : Int32} (h : r.toInt ≤ 25000000) (h1 : p = 78 → r = (50 : Int32)) (h2 : p = 82 → r = (2 : Int32)) (h3 : p = 70 → r = (16 : Int32)) : (p = 78 → r = (50 : Int32)) ∧ (p = 82 → r = (2 : Int32)) ∧ (p = 70 → r = (16 : Int32)) ∧ r.toInt ≤ 25000000 := ⟨h1, h2, h3, h⟩
def figOk (c n v : Int32) : Prop := ∃ r : Int32, ((c = 78 → r = (50 : Int32)) ∧ (c = 82 → r = (2 : Int32)) ∧ (c = 70 → r = (16 : Int32)) ∧ r.toInt ≤ 25000000) ∧ ¬ r < (((10 : Int32) * n) + v)
theorem pI_fig {c n v : Int32} {b : Bool} (h : pI c n b) (hv : 0 ≤ v.toInt ∧ v.toInt ≤ 9) (hf : figOk c n v) : pI c (((10 : Int32) * n) + v) b := by
  rcases h with h | ⟨hn, hb, h1, h2, h3⟩
  · exact Or.inl h
  · obtain ⟨r, ⟨e1, e2, e3, e4⟩, hr⟩ := hf
    have q10 : (10 : Int32).toInt = 10 := by decide
    have g1 : ((10 : Int32) * n).toInt = 10 * n.toInt := by
      rw [gi_mul (by rw [q10]; omega) (by rw [q10]; omega), q10]
    have g2 : (((10 : Int32) * n) + v).toInt = 10 * n.toInt + v.toInt := by
      rw [gi_add (by omega) (by omega), g1]
    have g3 := gi_nlt hr rfl g2
    rw [← g2] at g3
    have k50 : (50 : Int32).toInt = 50 := by decide
    have k2 : (2 : Int32).toInt = 2 := by decide
    have k16 : (16 : Int32).toInt = 16 := by decide
    refine Or.inr ⟨⟨by omega, by omega⟩, hb, fun q => ?_, fun q => ?_, fun q => ?_⟩
    · rw [e1 q, k50] at g3; exact g3
    · rw [e2 q, k2] at g3; exact g3
    · rw [e3 q, k16] at g3; exact g3
theorem pI_min {c n : Int32} {b b' : Bool} (h : pI c n b) (hb : b' = true → b = true ∨ c = 68) : pI c n b' := by
  rcases h with h | ⟨hn, h0, h1, h2, h3⟩
  · exact Or.inl h
  · exact Or.inr ⟨hn, fun q => (hb q).elim h0 id, h1, h2, h3⟩
theorem pI_n {c n : Int32} {b : Bool} (h : pI c n b) (h0 : ¬ c = 0) : 0 ≤ n.toInt ∧ n.toInt ≤ 25000000 := by
  rcases h with h | h
  · exact absurd h h0
  · exact h.1
theorem pI_b {c n : Int32} {b : Bool} (h : pI c n b) (hb : b = true) (h0 : ¬ c = 0) : c = 68 := by
  rcases h with h | h
  · exact absurd h h0
  · exact h.2.1 hb
theorem dig_in {p : Int32} (h : (48 : Int32).toInt ≤ p.toInt ∧ p.toInt ≤ (57 : Int32).toInt) : 0 ≤ (p - 48).toInt ∧ (p - 48).toInt ≤ 9 := by
  have e1 : (48 : Int32).toInt = 48 := by decide
  have e2 : (57 : Int32).toInt = 57 := by decide
  rw [gi_sub (by omega) (by omega), e1]
  omega
theorem dig_ne {p : Int32} (h : (48 : Int32).toInt ≤ p.toInt ∧ p.toInt ≤ (57 : Int32).toInt) : ¬ p = 59 := by
  intro q
  rw [q] at h
  exact absurd h (by decide)
theorem dN {r c h m cm n : Int32} {b : Bool} (hk : mOk r c h m) (hp : pI cm n b) (w : pW cm n) (hc : cm = 78) : mOk r n h m := by
  rcases hp with q | ⟨_, _, h1, _, _⟩
  · exact absurd (q.symm.trans hc) (by decide)
  · exact ⟨hk.1, ⟨w.1 hc, h1 hc⟩, hk.2.2⟩
theorem dR {r c h m cm n : Int32} {b : Bool} (hk : mOk r c h m) (hp : pI cm n b) (hc : cm = 82) : mOk n c h m := by
  rcases hp with q | ⟨h0, _, _, h2, _⟩
  · exact absurd (q.symm.trans hc) (by decide)
  · have := h2 hc
    exact ⟨gi_in (by omega), hk.2⟩
theorem dF {r c h m cm n h' : Int32} {b : Bool} (hk : mOk r c h m) (hp : pI cm n b) (w : pW cm n) (hh : 0 ≤ h'.toInt ∧ h'.toInt ≤ n.toInt) (hc : cm = 70) : mOk r c h' n := by
  rcases hp with q | ⟨h0, _, _, _, h3⟩
  · exact absurd (q.symm.trans hc) (by decide)
  · have h1 := h3 hc
    have h2 := w.2 hc
    exact ⟨hk.1, hk.2.1, ⟨hh.1, by omega⟩, ⟨h2, h1⟩⟩

noncomputable def f_X10_leastOf (p0 : Int32) : (Int32 × Unit) := (if p0 = (78 : Int32) then ((1 : Int32), ()) else (if p0 = (70 : Int32) then ((1 : Int32), ()) else (if p0 = (71 : Int32) then ((1 : Int32), ()) else (if p0 = (68 : Int32) then ((-25000000 : Int32), ()) else ((0 : Int32), ())))))
set_option maxHeartbeats 4000000 in
set_option maxRecDepth 100000 in
theorem c_X10_leastOf (l : Launch) (D : va_G) (cI cJ : ClassId) (sz : Nat) (p0 : Int32) : Met l yX10_leastOf wsX10_leastOf ({ frames := 0, cells := 0, slots := 0, locals := 0 }) (gPc D cI cJ [.int p0] [] sz) (gQi D cI cJ (f_X10_leastOf p0) (fun r u => (p0 = 78 → r = (1 : Int32)) ∧ (p0 = 70 → r = (1 : Int32))) (fun _ : Unit => []) (va_A [] sz)) 0 0 (va_A [] sz) := by
  refine g_met (cc := cX10_leastOf) (maxL := 1) (ret := (some .int)) (Qc := gQi D cI cJ (f_X10_leastOf p0) _ _) (by decide) rfl (Nat.le_of_ble_eq_true rfl) ?_
  intro A p e s m below meth c hx hb hr hml hts hown hlk hnm hP hK hD hE hA hS ls hl
  have hown : s.vm.findClass RX10 = some m.cls := hown
  have hl : lv_has ls 1 [(0, .int p0)] := hl
  have hm1 := hts (.constant RX10 59 (-25000000)) (List.mem_of_getElem? (i := 1) rfl)
  have hF := f_X10_leastOf.eq_1 p0
  refine lv_iload_n hx hb dX10_leastOf_0 rfl (lv_at hl 0 rfl) ?_
  refine lv_bipush (v := 78) hx hb dX10_leastOf_1 (by decide) ?_
  refine lv_icmp_eq (tgt := 18) hx hb dX10_leastOf_3 (by decide) (fun c_3_1 => ?_) (fun c_3_1 => ?_)
  · have hF := hF.trans (if_pos c_3_1)
    refine lv_iconst (v := 1) hx hb dX10_leastOf_18 (by decide) ?_
    refine lv_goto (tgt := 34) hx hb dX10_leastOf_19 (by decide) ?_
    exact g_iret () hx hb hr hlk hP hK hD hS hF (by show (p0 = 78 → (1 : Int32) = (1 : Int32)) ∧ (p0 = 70 → (1 : Int32) = (1 : Int32)); first | exact ⟨fun _ => rfl, fun _ => rfl⟩ | exact ⟨fun q => absurd q (by with_reducible assumption), fun q => absurd q (by with_reducible assumption)⟩) rfl dX10_leastOf_34
  · have hF := hF.trans (if_neg c_3_1)
    refine lv_iload_n hx hb dX10_leastOf_6 rfl (lv_at hl 0 rfl) ?_
    refine lv_bipush (v := 70) hx hb dX10_leastOf_7 (by decide) ?_
    refine lv_icmp_eq (tgt := 18) hx hb dX10_leastOf_9 (by decide) (fun c_9_2 => ?_) (fun c_9_2 => ?_)
    · have hF := hF.trans (if_pos c_9_2)
      refine lv_iconst (v := 1) hx hb dX10_leastOf_18 (by decide) ?_
      refine lv_goto (tgt := 34) hx hb dX10_leastOf_19 (by decide) ?_
      exact g_iret () hx hb hr hlk hP hK hD hS hF (by show (p0 = 78 → (1 : Int32) = (1 : Int32)) ∧ (p0 = 70 → (1 : Int32) = (1 : Int32)); first | exact ⟨fun _ => rfl, fun _ => rfl⟩ | exact ⟨fun q => absurd q (by with_reducible assumption), fun q => absurd q (by with_reducible assumption)⟩) rfl dX10_leastOf_34
    · have hF := hF.trans (if_neg c_9_2)
      refine lv_iload_n hx hb dX10_leastOf_12 rfl (lv_at hl 0 rfl) ?_
      refine lv_bipush (v := 71) hx hb dX10_leastOf_13 (by decide) ?_
      refine lv_icmp_ne (tgt := 22) hx hb dX10_leastOf_15 (by decide) (fun c_15_3 => ?_) (fun c_15_3 => ?_)
      · have hF := hF.trans (if_neg c_15_3)
        refine lv_iload_n hx hb dX10_leastOf_22 rfl (lv_at hl 0 rfl) ?_
        refine lv_bipush (v := 68) hx hb dX10_leastOf_23 (by decide) ?_
        refine lv_icmp_ne (tgt := 33) hx hb dX10_leastOf_25 (by decide) (fun c_25_4 => ?_) (fun c_25_4 => ?_)
        · have hF := hF.trans (if_neg c_25_4)
          refine lv_iconst (v := 0) hx hb dX10_leastOf_33 (by decide) ?_
          exact g_iret () hx hb hr hlk hP hK hD hS hF (by show (p0 = 78 → (0 : Int32) = (1 : Int32)) ∧ (p0 = 70 → (0 : Int32) = (1 : Int32)); first | exact ⟨fun _ => rfl, fun _ => rfl⟩ | exact ⟨fun q => absurd q (by with_reducible assumption), fun q => absurd q (by with_reducible assumption)⟩) rfl dX10_leastOf_34
        · have hF := hF.trans (if_pos c_25_4)
          refine lv_ldc hx hb hown hm1 dX10_leastOf_28 ?_
          refine lv_goto (tgt := 34) hx hb dX10_leastOf_30 (by decide) ?_
          exact g_iret () hx hb hr hlk hP hK hD hS hF (by show (p0 = 78 → (-25000000 : Int32) = (1 : Int32)) ∧ (p0 = 70 → (-25000000 : Int32) = (1 : Int32)); first | exact ⟨fun _ => rfl, fun _ => rfl⟩ | exact ⟨fun q => absurd q (by with_reducible assumption), fun q => absurd q (by with_reducible assumption)⟩) rfl dX10_leastOf_34
      · have hF := hF.trans (if_pos c_15_3)
        refine lv_iconst (v := 1) hx hb dX10_leastOf_18 (by decide) ?_
        refine lv_goto (tgt := 34) hx hb dX10_leastOf_19 (by decide) ?_
        exact g_iret () hx hb hr hlk hP hK hD hS hF (by show (p0 = 78 → (1 : Int32) = (1 : Int32)) ∧ (p0 = 70 → (1 : Int32) = (1 : Int32)); first | exact ⟨fun _ => rfl, fun _ => rfl⟩ | exact ⟨fun q => absurd q (by with_reducible assumption), fun q => absurd q (by with_reducible assumption)⟩) rfl dX10_leastOf_34

noncomputable def f_X10_mostOf (p0 : Int32) : (Int32 × Unit) := (if p0 = (68 : Int32) then ((25000000 : Int32), ()) else (if p0 = (70 : Int32) then ((16 : Int32), ()) else (if p0 = (78 : Int32) then ((50 : Int32), ()) else (if p0 = (82 : Int32) then ((2 : Int32), ()) else (if p0 = (87 : Int32) then ((99999 : Int32), ()) else (if p0 = (90 : Int32) then ((2 : Int32), ()) else ((9 : Int32), ())))))))
set_option maxHeartbeats 4000000 in
set_option maxRecDepth 100000 in
theorem c_X10_mostOf (l : Launch) (D : va_G) (cI cJ : ClassId) (sz : Nat) (p0 : Int32) : Met l yX10_mostOf wsX10_mostOf ({ frames := 0, cells := 0, slots := 0, locals := 0 }) (gPc D cI cJ [.int p0] [] sz) (gQi D cI cJ (f_X10_mostOf p0) (fun r u => (p0 = 78 → r = (50 : Int32)) ∧ (p0 = 82 → r = (2 : Int32)) ∧ (p0 = 70 → r = (16 : Int32)) ∧ (r).toInt ≤ 25000000) (fun _ : Unit => []) (va_A [] sz)) 0 0 (va_A [] sz) := by
  refine g_met (cc := cX10_mostOf) (maxL := 1) (ret := (some .int)) (Qc := gQi D cI cJ (f_X10_mostOf p0) _ _) (by decide) rfl (Nat.le_of_ble_eq_true rfl) ?_
  intro A p e s m below meth c hx hb hr hml hts hown hlk hnm hP hK hD hE hA hS ls hl
  have hown : s.vm.findClass RX10 = some m.cls := hown
  have hl : lv_has ls 1 [(0, .int p0)] := hl
  have hm1 := hts (.constant RX10 60 (99999)) (List.mem_of_getElem? (i := 1) rfl)
  have hm2 := hts (.constant RX10 61 (25000000)) (List.mem_of_getElem? (i := 2) rfl)
  have hF := f_X10_mostOf.eq_1 p0
  refine lv_iload_n hx hb dX10_mostOf_0 rfl (lv_at hl 0 rfl) ?_
  by_cases c_1_1_68 : p0 = (68 : Int32)
  · have hF := hF.trans (if_pos c_1_1_68)
    refine lv_lookup (off := 70) (tgt := 71) hx hb dX10_mostOf_1 (by decide) (by rw [c_1_1_68]; decide) (by decide) ?_
    refine lv_ldc hx hb hown hm2 dX10_mostOf_71 ?_
    exact g_iret () hx hb hr hlk hP hK hD hS hF (by show (p0 = 78 → (25000000 : Int32) = (50 : Int32)) ∧ (p0 = 82 → (25000000 : Int32) = (2 : Int32)) ∧ (p0 = 70 → (25000000 : Int32) = (16 : Int32)) ∧ ((25000000 : Int32)).toInt ≤ 25000000; exact mo_post (by decide) (by first | exact fun _ => (by decide) | exact fun q => absurd q (by with_reducible assumption) | exact mt2 (by with_reducible assumption) (by decide)) (by first | exact fun _ => (by decide) | exact fun q => absurd q (by with_reducible assumption) | exact mt2 (by with_reducible assumption) (by decide)) (by first | exact fun _ => (by decide) | exact fun q => absurd q (by with_reducible assumption) | exact mt2 (by with_reducible assumption) (by decide))) rfl dX10_mostOf_73
  have hF := hF.trans (if_neg c_1_1_68)
  by_cases c_1_1_70 : p0 = (70 : Int32)
  · have hF := hF.trans (if_pos c_1_1_70)
    refine lv_lookup (off := 64) (tgt := 65) hx hb dX10_mostOf_1 (by decide) (by rw [c_1_1_70]; decide) (by decide) ?_
    refine lv_bipush (v := 16) hx hb dX10_mostOf_65 (by decide) ?_
    exact g_iret () hx hb hr hlk hP hK hD hS hF (by show (p0 = 78 → (16 : Int32) = (50 : Int32)) ∧ (p0 = 82 → (16 : Int32) = (2 : Int32)) ∧ (p0 = 70 → (16 : Int32) = (16 : Int32)) ∧ ((16 : Int32)).toInt ≤ 25000000; exact mo_post (by decide) (by first | exact fun _ => (by decide) | exact fun q => absurd q (by with_reducible assumption) | exact mt2 (by with_reducible assumption) (by decide)) (by first | exact fun _ => (by decide) | exact fun q => absurd q (by with_reducible assumption) | exact mt2 (by with_reducible assumption) (by decide)) (by first | exact fun _ => (by decide) | exact fun q => absurd q (by with_reducible assumption) | exact mt2 (by with_reducible assumption) (by decide))) rfl dX10_mostOf_67
  have hF := hF.trans (if_neg c_1_1_70)
  by_cases c_1_1_78 : p0 = (78 : Int32)
  · have hF := hF.trans (if_pos c_1_1_78)
    refine lv_lookup (off := 59) (tgt := 60) hx hb dX10_mostOf_1 (by decide) (by rw [c_1_1_78]; decide) (by decide) ?_
    refine lv_bipush (v := 50) hx hb dX10_mostOf_60 (by decide) ?_
    exact g_iret () hx hb hr hlk hP hK hD hS hF (by show (p0 = 78 → (50 : Int32) = (50 : Int32)) ∧ (p0 = 82 → (50 : Int32) = (2 : Int32)) ∧ (p0 = 70 → (50 : Int32) = (16 : Int32)) ∧ ((50 : Int32)).toInt ≤ 25000000; exact mo_post (by decide) (by first | exact fun _ => (by decide) | exact fun q => absurd q (by with_reducible assumption) | exact mt2 (by with_reducible assumption) (by decide)) (by first | exact fun _ => (by decide) | exact fun q => absurd q (by with_reducible assumption) | exact mt2 (by with_reducible assumption) (by decide)) (by first | exact fun _ => (by decide) | exact fun q => absurd q (by with_reducible assumption) | exact mt2 (by with_reducible assumption) (by decide))) rfl dX10_mostOf_62
  have hF := hF.trans (if_neg c_1_1_78)
  by_cases c_1_1_82 : p0 = (82 : Int32)
  · have hF := hF.trans (if_pos c_1_1_82)
    refine lv_lookup (off := 62) (tgt := 63) hx hb dX10_mostOf_1 (by decide) (by rw [c_1_1_82]; decide) (by decide) ?_
    refine lv_iconst (v := 2) hx hb dX10_mostOf_63 (by decide) ?_
    exact g_iret () hx hb hr hlk hP hK hD hS hF (by show (p0 = 78 → (2 : Int32) = (50 : Int32)) ∧ (p0 = 82 → (2 : Int32) = (2 : Int32)) ∧ (p0 = 70 → (2 : Int32) = (16 : Int32)) ∧ ((2 : Int32)).toInt ≤ 25000000; exact mo_post (by decide) (by first | exact fun _ => (by decide) | exact fun q => absurd q (by with_reducible assumption) | exact mt2 (by with_reducible assumption) (by decide)) (by first | exact fun _ => (by decide) | exact fun q => absurd q (by with_reducible assumption) | exact mt2 (by with_reducible assumption) (by decide)) (by first | exact fun _ => (by decide) | exact fun q => absurd q (by with_reducible assumption) | exact mt2 (by with_reducible assumption) (by decide))) rfl dX10_mostOf_64
  have hF := hF.trans (if_neg c_1_1_82)
  by_cases c_1_1_87 : p0 = (87 : Int32)
  · have hF := hF.trans (if_pos c_1_1_87)
    refine lv_lookup (off := 67) (tgt := 68) hx hb dX10_mostOf_1 (by decide) (by rw [c_1_1_87]; decide) (by decide) ?_
    refine lv_ldc hx hb hown hm1 dX10_mostOf_68 ?_
    exact g_iret () hx hb hr hlk hP hK hD hS hF (by show (p0 = 78 → (99999 : Int32) = (50 : Int32)) ∧ (p0 = 82 → (99999 : Int32) = (2 : Int32)) ∧ (p0 = 70 → (99999 : Int32) = (16 : Int32)) ∧ ((99999 : Int32)).toInt ≤ 25000000; exact mo_post (by decide) (by first | exact fun _ => (by decide) | exact fun q => absurd q (by with_reducible assumption) | exact mt2 (by with_reducible assumption) (by decide)) (by first | exact fun _ => (by decide) | exact fun q => absurd q (by with_reducible assumption) | exact mt2 (by with_reducible assumption) (by decide)) (by first | exact fun _ => (by decide) | exact fun q => absurd q (by with_reducible assumption) | exact mt2 (by with_reducible assumption) (by decide))) rfl dX10_mostOf_70
  have hF := hF.trans (if_neg c_1_1_87)
  by_cases c_1_1_90 : p0 = (90 : Int32)
  · have hF := hF.trans (if_pos c_1_1_90)
    refine lv_lookup (off := 62) (tgt := 63) hx hb dX10_mostOf_1 (by decide) (by rw [c_1_1_90]; decide) (by decide) ?_
    refine lv_iconst (v := 2) hx hb dX10_mostOf_63 (by decide) ?_
    exact g_iret () hx hb hr hlk hP hK hD hS hF (by show (p0 = 78 → (2 : Int32) = (50 : Int32)) ∧ (p0 = 82 → (2 : Int32) = (2 : Int32)) ∧ (p0 = 70 → (2 : Int32) = (16 : Int32)) ∧ ((2 : Int32)).toInt ≤ 25000000; exact mo_post (by decide) (by first | exact fun _ => (by decide) | exact fun q => absurd q (by with_reducible assumption) | exact mt2 (by with_reducible assumption) (by decide)) (by first | exact fun _ => (by decide) | exact fun q => absurd q (by with_reducible assumption) | exact mt2 (by with_reducible assumption) (by decide)) (by first | exact fun _ => (by decide) | exact fun q => absurd q (by with_reducible assumption) | exact mt2 (by with_reducible assumption) (by decide))) rfl dX10_mostOf_64
  have hF := hF.trans (if_neg c_1_1_90)
  refine lv_lookup (off := 73) (tgt := 74) hx hb dX10_mostOf_1 (by decide) (by show Op.lookupswitch.offset [(68, 70), (70, 64), (78, 59), (82, 62), (87, 67), (90, 62)] 73 _ = _; rw [lv_osw c_1_1_68 (by decide), lv_osw c_1_1_70 (by decide), lv_osw c_1_1_78 (by decide), lv_osw c_1_1_82 (by decide), lv_osw c_1_1_87 (by decide), lv_osw c_1_1_90 (by decide)]; rfl) (by decide) ?_
  refine lv_bipush (v := 9) hx hb dX10_mostOf_74 (by decide) ?_
  exact g_iret () hx hb hr hlk hP hK hD hS hF (by show (p0 = 78 → (9 : Int32) = (50 : Int32)) ∧ (p0 = 82 → (9 : Int32) = (2 : Int32)) ∧ (p0 = 70 → (9 : Int32) = (16 : Int32)) ∧ ((9 : Int32)).toInt ≤ 25000000; exact mo_post (by decide) (by first | exact fun _ => (by decide) | exact fun q => absurd q (by with_reducible assumption) | exact mt2 (by with_reducible assumption) (by decide)) (by first | exact fun _ => (by decide) | exact fun q => absurd q (by with_reducible assumption) | exact mt2 (by with_reducible assumption) (by decide)) (by first | exact fun _ => (by decide) | exact fun q => absurd q (by with_reducible assumption) | exact mt2 (by with_reducible assumption) (by decide))) rfl dX10_mostOf_76

noncomputable def f_X10_isCommand (p0 : Int32) : (Bool × Unit) := (if p0 = (78 : Int32) then (true, ()) else (if p0 = (82 : Int32) then (true, ()) else (if p0 = (65 : Int32) then (true, ()) else (if p0 = (90 : Int32) then (true, ()) else (if p0 = (70 : Int32) then (true, ()) else (if p0 = (87 : Int32) then (true, ()) else (if p0 = (68 : Int32) then (true, ()) else (if p0 = (71 : Int32) then (true, ()) else (false, ())))))))))
set_option maxHeartbeats 4000000 in
set_option maxRecDepth 100000 in
theorem c_X10_isCommand (l : Launch) (D : va_G) (cI cJ : ClassId) (sz : Nat) (p0 : Int32) : Met l yX10_isCommand wsX10_isCommand ({ frames := 0, cells := 0, slots := 0, locals := 0 }) (gPc D cI cJ [.int p0] [] sz) (gQz D cI cJ (f_X10_isCommand p0) (fun r u => r = true → ¬ p0 = 59) (fun _ : Unit => []) (va_A [] sz)) 0 0 (va_A [] sz) := by
  refine g_met (cc := cX10_isCommand) (maxL := 1) (ret := (some .boolean)) (Qc := gQz D cI cJ (f_X10_isCommand p0) _ _) (by decide) rfl (Nat.le_of_ble_eq_true rfl) ?_
  intro A p e s m below meth c hx hb hr hml hts hown hlk hnm hP hK hD hE hA hS ls hl
  have hown : s.vm.findClass RX10 = some m.cls := hown
  have hl : lv_has ls 1 [(0, .int p0)] := hl
  have hF := f_X10_isCommand.eq_1 p0
  refine lv_iload_n hx hb dX10_isCommand_0 rfl (lv_at hl 0 rfl) ?_
  refine lv_bipush (v := 78) hx hb dX10_isCommand_1 (by decide) ?_
  refine lv_icmp_eq (tgt := 48) hx hb dX10_isCommand_3 (by decide) (fun c_3_1 => ?_) (fun c_3_1 => ?_)
  · have hF := hF.trans (if_pos c_3_1)
    refine lv_iconst (v := 1) hx hb dX10_isCommand_48 (by decide) ?_
    refine lv_goto (tgt := 53) hx hb dX10_isCommand_49 (by decide) ?_
    exact g_zret true () hx hb hr hlk hP hK hD hS hF (by show true = true → ¬ p0 = 59; first | exact fun q => absurd q (by decide) | exact fun _ => mt2 (by with_reducible assumption) (by decide)) rfl dX10_isCommand_53
  · have hF := hF.trans (if_neg c_3_1)
    refine lv_iload_n hx hb dX10_isCommand_6 rfl (lv_at hl 0 rfl) ?_
    refine lv_bipush (v := 82) hx hb dX10_isCommand_7 (by decide) ?_
    refine lv_icmp_eq (tgt := 48) hx hb dX10_isCommand_9 (by decide) (fun c_9_2 => ?_) (fun c_9_2 => ?_)
    · have hF := hF.trans (if_pos c_9_2)
      refine lv_iconst (v := 1) hx hb dX10_isCommand_48 (by decide) ?_
      refine lv_goto (tgt := 53) hx hb dX10_isCommand_49 (by decide) ?_
      exact g_zret true () hx hb hr hlk hP hK hD hS hF (by show true = true → ¬ p0 = 59; first | exact fun q => absurd q (by decide) | exact fun _ => mt2 (by with_reducible assumption) (by decide)) rfl dX10_isCommand_53
    · have hF := hF.trans (if_neg c_9_2)
      refine lv_iload_n hx hb dX10_isCommand_12 rfl (lv_at hl 0 rfl) ?_
      refine lv_bipush (v := 65) hx hb dX10_isCommand_13 (by decide) ?_
      refine lv_icmp_eq (tgt := 48) hx hb dX10_isCommand_15 (by decide) (fun c_15_3 => ?_) (fun c_15_3 => ?_)
      · have hF := hF.trans (if_pos c_15_3)
        refine lv_iconst (v := 1) hx hb dX10_isCommand_48 (by decide) ?_
        refine lv_goto (tgt := 53) hx hb dX10_isCommand_49 (by decide) ?_
        exact g_zret true () hx hb hr hlk hP hK hD hS hF (by show true = true → ¬ p0 = 59; first | exact fun q => absurd q (by decide) | exact fun _ => mt2 (by with_reducible assumption) (by decide)) rfl dX10_isCommand_53
      · have hF := hF.trans (if_neg c_15_3)
        refine lv_iload_n hx hb dX10_isCommand_18 rfl (lv_at hl 0 rfl) ?_
        refine lv_bipush (v := 90) hx hb dX10_isCommand_19 (by decide) ?_
        refine lv_icmp_eq (tgt := 48) hx hb dX10_isCommand_21 (by decide) (fun c_21_4 => ?_) (fun c_21_4 => ?_)
        · have hF := hF.trans (if_pos c_21_4)
          refine lv_iconst (v := 1) hx hb dX10_isCommand_48 (by decide) ?_
          refine lv_goto (tgt := 53) hx hb dX10_isCommand_49 (by decide) ?_
          exact g_zret true () hx hb hr hlk hP hK hD hS hF (by show true = true → ¬ p0 = 59; first | exact fun q => absurd q (by decide) | exact fun _ => mt2 (by with_reducible assumption) (by decide)) rfl dX10_isCommand_53
        · have hF := hF.trans (if_neg c_21_4)
          refine lv_iload_n hx hb dX10_isCommand_24 rfl (lv_at hl 0 rfl) ?_
          refine lv_bipush (v := 70) hx hb dX10_isCommand_25 (by decide) ?_
          refine lv_icmp_eq (tgt := 48) hx hb dX10_isCommand_27 (by decide) (fun c_27_5 => ?_) (fun c_27_5 => ?_)
          · have hF := hF.trans (if_pos c_27_5)
            refine lv_iconst (v := 1) hx hb dX10_isCommand_48 (by decide) ?_
            refine lv_goto (tgt := 53) hx hb dX10_isCommand_49 (by decide) ?_
            exact g_zret true () hx hb hr hlk hP hK hD hS hF (by show true = true → ¬ p0 = 59; first | exact fun q => absurd q (by decide) | exact fun _ => mt2 (by with_reducible assumption) (by decide)) rfl dX10_isCommand_53
          · have hF := hF.trans (if_neg c_27_5)
            refine lv_iload_n hx hb dX10_isCommand_30 rfl (lv_at hl 0 rfl) ?_
            refine lv_bipush (v := 87) hx hb dX10_isCommand_31 (by decide) ?_
            refine lv_icmp_eq (tgt := 48) hx hb dX10_isCommand_33 (by decide) (fun c_33_6 => ?_) (fun c_33_6 => ?_)
            · have hF := hF.trans (if_pos c_33_6)
              refine lv_iconst (v := 1) hx hb dX10_isCommand_48 (by decide) ?_
              refine lv_goto (tgt := 53) hx hb dX10_isCommand_49 (by decide) ?_
              exact g_zret true () hx hb hr hlk hP hK hD hS hF (by show true = true → ¬ p0 = 59; first | exact fun q => absurd q (by decide) | exact fun _ => mt2 (by with_reducible assumption) (by decide)) rfl dX10_isCommand_53
            · have hF := hF.trans (if_neg c_33_6)
              refine lv_iload_n hx hb dX10_isCommand_36 rfl (lv_at hl 0 rfl) ?_
              refine lv_bipush (v := 68) hx hb dX10_isCommand_37 (by decide) ?_
              refine lv_icmp_eq (tgt := 48) hx hb dX10_isCommand_39 (by decide) (fun c_39_7 => ?_) (fun c_39_7 => ?_)
              · have hF := hF.trans (if_pos c_39_7)
                refine lv_iconst (v := 1) hx hb dX10_isCommand_48 (by decide) ?_
                refine lv_goto (tgt := 53) hx hb dX10_isCommand_49 (by decide) ?_
                exact g_zret true () hx hb hr hlk hP hK hD hS hF (by show true = true → ¬ p0 = 59; first | exact fun q => absurd q (by decide) | exact fun _ => mt2 (by with_reducible assumption) (by decide)) rfl dX10_isCommand_53
              · have hF := hF.trans (if_neg c_39_7)
                refine lv_iload_n hx hb dX10_isCommand_42 rfl (lv_at hl 0 rfl) ?_
                refine lv_bipush (v := 71) hx hb dX10_isCommand_43 (by decide) ?_
                refine lv_icmp_ne (tgt := 52) hx hb dX10_isCommand_45 (by decide) (fun c_45_8 => ?_) (fun c_45_8 => ?_)
                · have hF := hF.trans (if_neg c_45_8)
                  refine lv_iconst (v := 0) hx hb dX10_isCommand_52 (by decide) ?_
                  exact g_zret false () hx hb hr hlk hP hK hD hS hF (by show false = true → ¬ p0 = 59; first | exact fun q => absurd q (by decide) | exact fun _ => mt2 (by with_reducible assumption) (by decide)) rfl dX10_isCommand_53
                · have hF := hF.trans (if_pos c_45_8)
                  refine lv_iconst (v := 1) hx hb dX10_isCommand_48 (by decide) ?_
                  refine lv_goto (tgt := 53) hx hb dX10_isCommand_49 (by decide) ?_
                  exact g_zret true () hx hb hr hlk hP hK hD hS hF (by show true = true → ¬ p0 = 59; first | exact fun q => absurd q (by decide) | exact fun _ => mt2 (by with_reducible assumption) (by decide)) rfl dX10_isCommand_53

noncomputable def f_X10_sine (p0 : Int32) : (Int32 × Unit) := (if p0 = (0 : Int32) then ((0 : Int32), ()) else (if p0 = (1 : Int32) then ((309 : Int32), ()) else (if p0 = (2 : Int32) then ((588 : Int32), ()) else (if p0 = (3 : Int32) then ((809 : Int32), ()) else (if p0 = (4 : Int32) then ((951 : Int32), ()) else (if p0 = (5 : Int32) then ((1000 : Int32), ()) else (if p0 = (6 : Int32) then ((951 : Int32), ()) else (if p0 = (7 : Int32) then ((809 : Int32), ()) else (if p0 = (8 : Int32) then ((588 : Int32), ()) else (if p0 = (9 : Int32) then ((309 : Int32), ()) else ((1000 : Int32), ())))))))))))
set_option maxHeartbeats 4000000 in
set_option maxRecDepth 100000 in
theorem c_X10_sine (l : Launch) (D : va_G) (cI cJ : ClassId) (sz : Nat) (p0 : Int32) : Met l yX10_sine wsX10_sine ({ frames := 0, cells := 0, slots := 0, locals := 0 }) (gPc D cI cJ [.int p0] [] sz) (gQi D cI cJ (f_X10_sine p0) (fun _ _ => True) (fun _ : Unit => []) (va_A [] sz)) 0 0 (va_A [] sz) := by
  refine g_met (cc := cX10_sine) (maxL := 1) (ret := (some .int)) (Qc := gQi D cI cJ (f_X10_sine p0) _ _) (by decide) rfl (Nat.le_of_ble_eq_true rfl) ?_
  intro A p e s m below meth c hx hb hr hml hts hown hlk hnm hP hK hD hE hA hS ls hl
  have hown : s.vm.findClass RX10 = some m.cls := hown
  have hl : lv_has ls 1 [(0, .int p0)] := hl
  have hF := f_X10_sine.eq_1 p0
  refine lv_iload_n hx hb dX10_sine_0 rfl (lv_at hl 0 rfl) ?_
  by_cases c_1_1_0 : p0 = (0 : Int32)
  · have hF := hF.trans (if_pos c_1_1_0)
    refine lv_tableIn (off := 55) (tgt := 56) hx hb dX10_sine_1 (by rw [c_1_1_0]; decide) (by rw [c_1_1_0]; decide) (by rw [c_1_1_0]; rfl) (by decide) ?_
    refine lv_iconst (v := 0) hx hb dX10_sine_56 (by decide) ?_
    exact g_iret () hx hb hr hlk hP hK hD hS hF trivial rfl dX10_sine_57
  have hF := hF.trans (if_neg c_1_1_0)
  by_cases c_1_1_1 : p0 = (1 : Int32)
  · have hF := hF.trans (if_pos c_1_1_1)
    refine lv_tableIn (off := 57) (tgt := 58) hx hb dX10_sine_1 (by rw [c_1_1_1]; decide) (by rw [c_1_1_1]; decide) (by rw [c_1_1_1]; rfl) (by decide) ?_
    refine lv_sipush (v := 309) hx hb dX10_sine_58 (by decide) ?_
    exact g_iret () hx hb hr hlk hP hK hD hS hF trivial rfl dX10_sine_61
  have hF := hF.trans (if_neg c_1_1_1)
  by_cases c_1_1_2 : p0 = (2 : Int32)
  · have hF := hF.trans (if_pos c_1_1_2)
    refine lv_tableIn (off := 61) (tgt := 62) hx hb dX10_sine_1 (by rw [c_1_1_2]; decide) (by rw [c_1_1_2]; decide) (by rw [c_1_1_2]; rfl) (by decide) ?_
    refine lv_sipush (v := 588) hx hb dX10_sine_62 (by decide) ?_
    exact g_iret () hx hb hr hlk hP hK hD hS hF trivial rfl dX10_sine_65
  have hF := hF.trans (if_neg c_1_1_2)
  by_cases c_1_1_3 : p0 = (3 : Int32)
  · have hF := hF.trans (if_pos c_1_1_3)
    refine lv_tableIn (off := 65) (tgt := 66) hx hb dX10_sine_1 (by rw [c_1_1_3]; decide) (by rw [c_1_1_3]; decide) (by rw [c_1_1_3]; rfl) (by decide) ?_
    refine lv_sipush (v := 809) hx hb dX10_sine_66 (by decide) ?_
    exact g_iret () hx hb hr hlk hP hK hD hS hF trivial rfl dX10_sine_69
  have hF := hF.trans (if_neg c_1_1_3)
  by_cases c_1_1_4 : p0 = (4 : Int32)
  · have hF := hF.trans (if_pos c_1_1_4)
    refine lv_tableIn (off := 69) (tgt := 70) hx hb dX10_sine_1 (by rw [c_1_1_4]; decide) (by rw [c_1_1_4]; decide) (by rw [c_1_1_4]; rfl) (by decide) ?_
    refine lv_sipush (v := 951) hx hb dX10_sine_70 (by decide) ?_
    exact g_iret () hx hb hr hlk hP hK hD hS hF trivial rfl dX10_sine_73
  have hF := hF.trans (if_neg c_1_1_4)
  by_cases c_1_1_5 : p0 = (5 : Int32)
  · have hF := hF.trans (if_pos c_1_1_5)
    refine lv_tableIn (off := 73) (tgt := 74) hx hb dX10_sine_1 (by rw [c_1_1_5]; decide) (by rw [c_1_1_5]; decide) (by rw [c_1_1_5]; rfl) (by decide) ?_
    refine lv_sipush (v := 1000) hx hb dX10_sine_74 (by decide) ?_
    exact g_iret () hx hb hr hlk hP hK hD hS hF trivial rfl dX10_sine_77
  have hF := hF.trans (if_neg c_1_1_5)
  by_cases c_1_1_6 : p0 = (6 : Int32)
  · have hF := hF.trans (if_pos c_1_1_6)
    refine lv_tableIn (off := 69) (tgt := 70) hx hb dX10_sine_1 (by rw [c_1_1_6]; decide) (by rw [c_1_1_6]; decide) (by rw [c_1_1_6]; rfl) (by decide) ?_
    refine lv_sipush (v := 951) hx hb dX10_sine_70 (by decide) ?_
    exact g_iret () hx hb hr hlk hP hK hD hS hF trivial rfl dX10_sine_73
  have hF := hF.trans (if_neg c_1_1_6)
  by_cases c_1_1_7 : p0 = (7 : Int32)
  · have hF := hF.trans (if_pos c_1_1_7)
    refine lv_tableIn (off := 65) (tgt := 66) hx hb dX10_sine_1 (by rw [c_1_1_7]; decide) (by rw [c_1_1_7]; decide) (by rw [c_1_1_7]; rfl) (by decide) ?_
    refine lv_sipush (v := 809) hx hb dX10_sine_66 (by decide) ?_
    exact g_iret () hx hb hr hlk hP hK hD hS hF trivial rfl dX10_sine_69
  have hF := hF.trans (if_neg c_1_1_7)
  by_cases c_1_1_8 : p0 = (8 : Int32)
  · have hF := hF.trans (if_pos c_1_1_8)
    refine lv_tableIn (off := 61) (tgt := 62) hx hb dX10_sine_1 (by rw [c_1_1_8]; decide) (by rw [c_1_1_8]; decide) (by rw [c_1_1_8]; rfl) (by decide) ?_
    refine lv_sipush (v := 588) hx hb dX10_sine_62 (by decide) ?_
    exact g_iret () hx hb hr hlk hP hK hD hS hF trivial rfl dX10_sine_65
  have hF := hF.trans (if_neg c_1_1_8)
  by_cases c_1_1_9 : p0 = (9 : Int32)
  · have hF := hF.trans (if_pos c_1_1_9)
    refine lv_tableIn (off := 57) (tgt := 58) hx hb dX10_sine_1 (by rw [c_1_1_9]; decide) (by rw [c_1_1_9]; decide) (by rw [c_1_1_9]; rfl) (by decide) ?_
    refine lv_sipush (v := 309) hx hb dX10_sine_58 (by decide) ?_
    exact g_iret () hx hb hr hlk hP hK hD hS hF trivial rfl dX10_sine_61
  have hF := hF.trans (if_neg c_1_1_9)
  refine lv_tableOut (tgt := 74) hx hb dX10_sine_1 (by have := lv_neT (a := 0) c_1_1_0 (by decide); have := lv_neT (a := 1) c_1_1_1 (by decide); have := lv_neT (a := 2) c_1_1_2 (by decide); have := lv_neT (a := 3) c_1_1_3 (by decide); have := lv_neT (a := 4) c_1_1_4 (by decide); have := lv_neT (a := 5) c_1_1_5 (by decide); have := lv_neT (a := 6) c_1_1_6 (by decide); have := lv_neT (a := 7) c_1_1_7 (by decide); have := lv_neT (a := 8) c_1_1_8 (by decide); have := lv_neT (a := 9) c_1_1_9 (by decide); omega) (by decide) ?_
  refine lv_sipush (v := 1000) hx hb dX10_sine_74 (by decide) ?_
  exact g_iret () hx hb hr hlk hP hK hD hS hF trivial rfl dX10_sine_77

noncomputable def f_X10_slope (p0 : Int32) : (Int64 × Unit) := (if p0 = (0 : Int32) then ((25600000 : Int64), ()) else (if p0 = (1 : Int32) then ((1600000 : Int64), ()) else (if p0 = (2 : Int32) then ((100000 : Int64), ()) else ((6250 : Int64), ()))))
set_option maxHeartbeats 4000000 in
set_option maxRecDepth 100000 in
theorem c_X10_slope (l : Launch) (D : va_G) (cI cJ : ClassId) (sz : Nat) (p0 : Int32) : Met l yX10_slope wsX10_slope ({ frames := 0, cells := 0, slots := 0, locals := 0 }) (gPc D cI cJ [.int p0] [] sz) (gQl D cI cJ (f_X10_slope p0) (fun _ _ => True) (fun _ : Unit => []) (va_A [] sz)) 0 0 (va_A [] sz) := by
  refine g_met (cc := cX10_slope) (maxL := 1) (ret := (some .long)) (Qc := gQl D cI cJ (f_X10_slope p0) _ _) (by decide) rfl (Nat.le_of_ble_eq_true rfl) ?_
  intro A p e s m below meth c hx hb hr hml hts hown hlk hnm hP hK hD hE hA hS ls hl
  have hown : s.vm.findClass RX10 = some m.cls := hown
  have hl : lv_has ls 1 [(0, .int p0)] := hl
  have hm1 := hts (.constantLong RX10 204 (25600000)) (List.mem_of_getElem? (i := 1) rfl)
  have hm2 := hts (.constantLong RX10 215 (1600000)) (List.mem_of_getElem? (i := 2) rfl)
  have hm3 := hts (.constantLong RX10 217 (100000)) (List.mem_of_getElem? (i := 3) rfl)
  have hm4 := hts (.constantLong RX10 219 (6250)) (List.mem_of_getElem? (i := 4) rfl)
  have hF := f_X10_slope.eq_1 p0
  refine lv_iload_n hx hb dX10_slope_0 rfl (lv_at hl 0 rfl) ?_
  refine lv_if_ne (tgt := 10) hx hb dX10_slope_1 (by decide) (fun c_1_1 => ?_) (fun c_1_1 => ?_)
  · have hF := hF.trans (if_neg c_1_1)
    refine lv_iload_n hx hb dX10_slope_10 rfl (lv_at hl 0 rfl) ?_
    refine lv_iconst (v := 1) hx hb dX10_slope_11 (by decide) ?_
    refine lv_icmp_ne (tgt := 21) hx hb dX10_slope_12 (by decide) (fun c_12_2 => ?_) (fun c_12_2 => ?_)
    · have hF := hF.trans (if_neg c_12_2)
      refine lv_iload_n hx hb dX10_slope_21 rfl (lv_at hl 0 rfl) ?_
      refine lv_iconst (v := 2) hx hb dX10_slope_22 (by decide) ?_
      refine lv_icmp_ne (tgt := 32) hx hb dX10_slope_23 (by decide) (fun c_23_3 => ?_) (fun c_23_3 => ?_)
      · have hF := hF.trans (if_neg c_23_3)
        refine lv_ldc2 hx hb hown hm4 dX10_slope_32 ?_
        exact g_lret () hx hb hr hlk hP hK hD hS hF trivial rfl dX10_slope_35
      · have hF := hF.trans (if_pos c_23_3)
        refine lv_ldc2 hx hb hown hm3 dX10_slope_26 ?_
        refine lv_goto (tgt := 35) hx hb dX10_slope_29 (by decide) ?_
        exact g_lret () hx hb hr hlk hP hK hD hS hF trivial rfl dX10_slope_35
    · have hF := hF.trans (if_pos c_12_2)
      refine lv_ldc2 hx hb hown hm2 dX10_slope_15 ?_
      refine lv_goto (tgt := 35) hx hb dX10_slope_18 (by decide) ?_
      exact g_lret () hx hb hr hlk hP hK hD hS hF trivial rfl dX10_slope_35
  · have hF := hF.trans (if_pos c_1_1)
    refine lv_ldc2 hx hb hown hm1 dX10_slope_4 ?_
    refine lv_goto (tgt := 35) hx hb dX10_slope_7 (by decide) ?_
    exact g_lret () hx hb hr hlk hP hK hD hS hF trivial rfl dX10_slope_35

theorem slope_pos {p : Int32} {r : Int64} (h : f_X10_slope p = (r, ())) : 0 < r.toInt ∧ r.toInt ≤ 25600000 := by
  rw [f_X10_slope] at h
  split at h
  · cases h; decide
  · split at h
    · cases h; decide
    · split at h <;> cases h <;> decide
def rdMu (w : Int32) (ch : Int64) : Nat := if w < 0 then ch.toInt.toNat else (-ch.toInt).toNat
theorem gl_add {x y : Int64} (h1 : -9223372036854775808 ≤ x.toInt + y.toInt) (h2 : x.toInt + y.toInt ≤ 9223372036854775807) : (x + y).toInt = x.toInt + y.toInt := by
  rw [Int64.toInt_add]
  exact Int.bmod_eq_of_le (by omega) (by omega)
theorem gl_sub {x y : Int64} (h1 : -9223372036854775808 ≤ x.toInt - y.toInt) (h2 : x.toInt - y.toInt ≤ 9223372036854775807) : (x - y).toInt = x.toInt - y.toInt := by
  rw [Int64.toInt_sub]
  exact Int.bmod_eq_of_le (by omega) (by omega)
theorem gl_mul {x y : Int64} (h1 : -9223372036854775808 ≤ x.toInt * y.toInt) (h2 : x.toInt * y.toInt ≤ 9223372036854775807) : (x * y).toInt = x.toInt * y.toInt := by
  rw [Int64.toInt_mul]
  exact Int.bmod_eq_of_le (by omega) (by omega)
theorem gl_max (x : Int64) : x.toInt ≤ 9223372036854775807 := by
  have h := Int64.toInt_lt x
  omega
theorem gl_min (x : Int64) : -9223372036854775808 ≤ x.toInt := by
  have h := Int64.le_toInt x
  omega
theorem rd_m {ch r : Int64} (hc : ¬ ch ≤ 0) (hr : 0 < r.toInt ∧ r.toInt ≤ 25600000) : rdMu (-1 : Int32) (ch + (-1 : Int32).toInt64 * r) < rdMu (-1 : Int32) ch := by
  have h0 : (0 : Int64).toInt = 0 := by decide
  have h1 : 0 < ch.toInt := by
    have h2 := hc
    rw [Int64.le_iff_toInt_le, h0] at h2
    omega
  have hm := gl_max ch
  have e1 : ((-1 : Int32).toInt64).toInt = -1 := by decide
  have e2 : ((-1 : Int32).toInt64 * r).toInt = -r.toInt := by
    rw [gl_mul (by rw [e1]; omega) (by rw [e1]; omega), e1]; omega
  have e3 : (ch + (-1 : Int32).toInt64 * r).toInt = ch.toInt - r.toInt := by
    rw [gl_add (by rw [e2]; omega) (by rw [e2]; omega), e2]; omega
  unfold rdMu
  rw [if_pos (by decide), if_pos (by decide), e3]
  omega
theorem rd_p {ch r : Int64} (hc : ¬ (0 : Int64) ≤ ch) (hr : 0 < r.toInt ∧ r.toInt ≤ 25600000) : rdMu (1 : Int32) (ch + (1 : Int32).toInt64 * r) < rdMu (1 : Int32) ch := by
  have h0 : (0 : Int64).toInt = 0 := by decide
  have h1 : ch.toInt < 0 := by
    have h2 := hc
    rw [Int64.le_iff_toInt_le, h0] at h2
    omega
  have hm := gl_min ch
  have e1 : ((1 : Int32).toInt64).toInt = 1 := by decide
  have e2 : ((1 : Int32).toInt64 * r).toInt = r.toInt := by
    rw [gl_mul (by rw [e1]; omega) (by rw [e1]; omega), e1]; omega
  have e3 : (ch + (1 : Int32).toInt64 * r).toInt = ch.toInt + r.toInt := by
    rw [gl_add (by rw [e2]; omega) (by rw [e2]; omega), e2]
  unfold rdMu
  rw [if_neg (by decide), if_neg (by decide), e3]
  omega
theorem odd_ne (x : Int32) : ¬ (((2 : Int32) * x) + (1 : Int32)).toInt64 = 0 := by
  apply ne_i2l0
  intro h
  have h1 : (((2 : Int32) * x) + (1 : Int32)).toInt = 0 := by rw [h]; decide
  rw [Int32.toInt_add, Int32.toInt_mul] at h1
  have e2 : (2 : Int32).toInt = 2 := by decide
  have e1 : (1 : Int32).toInt = 1 := by decide
  rw [e1, e2] at h1
  simp only [Int.bmod] at h1
  omega
