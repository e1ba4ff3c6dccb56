section LW
variable {p : Program} {l : Launch} {e : Env} {s : State} {m : MethodId} {below : List Frame} {meth : Method} {c : Code} {b L : Nat} {xs : Nat → Int32} {D : va_G} {cI cJ : ClassId} {h_vs h_bn h_src h_amp h_cv h_cnt h_zs h_zsum h_zcyc h_znum h_mn h_vals h_lg h_lcl h_pg h_pcd h_ps h_md h_mcnt h_mzs h_mzc h_mzr h_mvals h_mtold h_mpage : Nat} {H : Heap} {locs : List Loc} {ls : Array Slot}
set_option maxHeartbeats 4000000 in
set_option maxRecDepth 100000 in
theorem lw_loop (C0 : lw_At p s m meth c b L xs) (hL : L ≤ 2048) (hK : va_K D vwCl [(cI, .int), (cJ, .long)] s) (hE : gE (lwA s) s s.heap) : ∀ (k i B : Nat) (H : Heap) (locs : List Loc) (ls : Array Slot), i ≤ L → L < i + 4 * k → B + 400 * k ≤ 1000000 → lwI s D cI cJ h_vs h_bn h_src h_amp h_cv h_cnt h_zs h_zsum h_zcyc h_znum h_mn h_vals h_lg h_lcl h_pg h_pcd h_ps h_md h_mcnt h_mzs h_mzc h_mzr h_mvals h_mtold h_mpage B H locs → lv_has ls 4 [(0, .ref b), (1, .ref h_vs), (2, .ref h_md), (3, .int (nI i))] → W p l e room_1 s m #[Value.ref b] below meth c H locs 25 436 (lw_Z below #[Value.ref b] s) (F0 m 18 ls []) := by
  obtain ⟨hx, hb, hr, hml, hown, hts, hX, hbl, hlocks, hgv⟩ := id C0
  have hb : c.code = cL_law := hb
  have hbA : ¬ lwA s b := Nat.not_le.mpr hbl
  intro k
  induction k with
  | zero => intro i B H locs ls h1 h2; omega
  | succ k ih =>
    intro i B H locs ls h1 h2 h3 hI hl
    have hS : va_S (lwA s) s.heap H locs := by
      obtain ⟨_, _, _, _, _, _, _, _, _, _, _, _, _, _, _, _, _, _, _, _, _, _, _, _, _, _, _, _, _, _, _, _, _, _, _, _, _, _, _, _, _, _, _, _, _, _, _, _, _, _, _, _, _, _, _, _, _, _, _, _, _, _, _, _, _, hS⟩ := hI
      exact hS
    refine lv_iload_n hx hb dL_law_18 rfl (lv_at hl 3 rfl) ?_
    refine lv_aload_n hx hb dL_law_19 rfl (lv_at hl 0 rfl) ?_
    refine va_slen hx hb hX hbl hbA hS dL_law_20 ?_
    refine lv_iconst (v := 4) hx hb dL_law_21 (by decide) ?_
    refine lv_isub hx hb dL_law_22 ?_
    have e4 : (Int32.ofNat L - 4).toInt = (L : Int) - 4 := pk_sub_toInt (a := L) (b := 4) (by omega) (by decide)
    have ei : (nI i).toInt = (i : Int) := nI_toInt (by omega)
    refine lv_icmp_gt (tgt := 706) hx hb dL_law_23 (by decide) (fun _ => ?_) (fun q => ?_)
    · refine lv_iconst (v := 1) hx hb dL_law_706 (by decide) ?_
      refine va_forget (fun q hq => hS.2.2 q hq) ?_
      exact lw_ret hx hb hr hlocks dL_law_707
    · have hi : i + 4 ≤ L := by
        have q2 : ¬ (Int32.ofNat L - 4).toInt < (nI i).toInt := fun z => q (Int32.lt_iff_toInt_lt.mpr z)
        omega
      have kk : ∀ (H : Heap) (locs : List Loc) (ls : Array Slot), lwI s D cI cJ h_vs h_bn h_src h_amp h_cv h_cnt h_zs h_zsum h_zcyc h_znum h_mn h_vals h_lg h_lcl h_pg h_pcd h_ps h_md h_mcnt h_mzs h_mzc h_mzr h_mvals h_mtold h_mpage (B + 400) H locs → lv_has ls 4 [(0, .ref b), (1, .ref h_vs), (2, .ref h_md), (3, .int (nI i))] → W p l e room_1 s m #[Value.ref b] below meth c H locs 25 436 (lw_Z below #[Value.ref b] s) (F0 m 700 ls []) := by
        intro H locs ls hI hl
        refine lv_iinc (v := nI (i + 4)) (lv' := [(3, .int (nI (i + 4))), (0, .ref b), (1, .ref h_vs), (2, .ref h_md)]) hx hb dL_law_700 hl (k := 3) rfl (nI_add i 4) (by decide) rfl (fun ls hl => ?_)
        refine lv_goto (tgt := 18) hx hb dL_law_703 (by decide) ?_
        exact ih (i + 4) (B + 400) H locs ls (by omega) (by omega) (by omega) hI (lv_sub hl [1, 2, 3, 0] rfl)
      have hB : B + 400 ≤ 1000000 := by omega
      refine lv_aload_n hx hb dL_law_26 rfl (lv_at hl 0 rfl) ?_
      refine lv_iload_n hx hb dL_law_27 rfl (lv_at hl 3 rfl) ?_
      refine va_sld hx hb hX hbl hbA hS (vp_in_nI (by omega) (by omega)) dL_law_28 ?_
      refine lv_bipush (v := 31) hx hb dL_law_29 (by decide) ?_
      refine lv_iand hx hb dL_law_31 ?_
      refine lv_topi (fun x _ => ?_)
      by_cases hin : x.toInt < 0 ∨ 22 < x.toInt
      · refine lv_tableOut (tgt := 700) hx hb dL_law_32 hin (by decide) ?_
        exact kk H locs ls (lwI_mono hI (by omega) hB) hl
      · have hz : x.toInt = 0 ∨ x.toInt = 1 ∨ x.toInt = 2 ∨ x.toInt = 3 ∨ x.toInt = 4 ∨ x.toInt = 5 ∨ x.toInt = 6 ∨ x.toInt = 7 ∨ x.toInt = 8 ∨ x.toInt = 9 ∨ x.toInt = 10 ∨ x.toInt = 11 ∨ x.toInt = 12 ∨ x.toInt = 13 ∨ x.toInt = 14 ∨ x.toInt = 15 ∨ x.toInt = 16 ∨ x.toInt = 17 ∨ x.toInt = 18 ∨ x.toInt = 19 ∨ x.toInt = 20 ∨ x.toInt = 21 ∨ x.toInt = 22 := by omega
        rcases hz with hz | hz | hz | hz | hz | hz | hz | hz | hz | hz | hz | hz | hz | hz | hz | hz | hz | hz | hz | hz | hz | hz | hz
        · exact lv_tableIn (off := 108) (tgt := 140) hx hb dL_law_32 (by omega) (by omega) (by rw [hz]; rfl) (by decide) (lk_letter C0 hL hK hE hi hB hI hl kk)
        · exact lv_tableIn (off := 131) (tgt := 163) hx hb dL_law_32 (by omega) (by omega) (by rw [hz]; rfl) (by decide) (lk_blank C0 hL hK hE hi hB hI hl kk)
        · exact lv_tableIn (off := 144) (tgt := 176) hx hb dL_law_32 (by omega) (by omega) (by rw [hz]; rfl) (by decide) (lk_fault C0 hL hK hE hi hB hI hl kk)
        · exact lv_tableIn (off := 157) (tgt := 189) hx hb dL_law_32 (by omega) (by omega) (by rw [hz]; rfl) (by decide) (lk_set C0 hL hK hE hi hB hI hl kk)
        · exact lv_tableIn (off := 170) (tgt := 202) hx hb dL_law_32 (by omega) (by omega) (by rw [hz]; rfl) (by decide) (lk_dc C0 hL hK hE hi hB hI hl kk)
        · exact lv_tableIn (off := 193) (tgt := 225) hx hb dL_law_32 (by omega) (by omega) (by rw [hz]; rfl) (by decide) (lk_hum C0 hL hK hE hi hB hI hl kk)
        · exact lv_tableIn (off := 226) (tgt := 258) hx hb dL_law_32 (by omega) (by omega) (by rw [hz]; rfl) (by decide) (lk_noise C0 hL hK hE hi hB hI hl kk)
        · exact lv_tableIn (off := 249) (tgt := 281) hx hb dL_law_32 (by omega) (by omega) (by rw [hz]; rfl) (by decide) (lk_seed C0 hL hK hE hi hB hI hl kk)
        · exact lv_tableIn (off := 272) (tgt := 304) hx hb dL_law_32 (by omega) (by omega) (by rw [hz]; rfl) (by decide) (lk_amplifier C0 hL hK hE hi hB hI hl kk)
        · exact lv_tableIn (off := 305) (tgt := 337) hx hb dL_law_32 (by omega) (by omega) (by rw [hz]; rfl) (by decide) (lk_correct C0 hL hK hE hi hB hI hl kk)
        · exact lv_tableIn (off := 338) (tgt := 370) hx hb dL_law_32 (by omega) (by omega) (by rw [hz]; rfl) (by decide) (lk_go C0 hL hK hE hi hB hI hl kk)
        · exact lv_tableIn (off := 361) (tgt := 393) hx hb dL_law_32 (by omega) (by omega) (by rw [hz]; rfl) (by decide) (lk_convert C0 hL hK hE hi hB hI hl kk)
        · exact lv_tableIn (off := 384) (tgt := 416) hx hb dL_law_32 (by omega) (by omega) (by rw [hz]; rfl) (by decide) (lk_sweep C0 hL hK hE hi hB hI hl kk)
        · exact lv_tableIn (off := 427) (tgt := 459) hx hb dL_law_32 (by omega) (by omega) (by rw [hz]; rfl) (by decide) (lk_clear C0 hL hK hE hi hB hI hl kk)
        · exact lv_tableIn (off := 440) (tgt := 472) hx hb dL_law_32 (by omega) (by omega) (by rw [hz]; rfl) (by decide) (lk_latest C0 hL hK hE hi hB hI hl kk)
        · exact lv_tableIn (off := 463) (tgt := 495) hx hb dL_law_32 (by omega) (by omega) (by rw [hz]; rfl) (by decide) (lk_reading C0 hL hK hE hi hB hI hl kk)
        · exact lv_tableIn (off := 496) (tgt := 528) hx hb dL_law_32 (by omega) (by omega) (by rw [hz]; rfl) (by decide) (lk_filter C0 hL hK hE hi hB hI hl kk)
        · exact lv_tableIn (off := 519) (tgt := 551) hx hb dL_law_32 (by omega) (by omega) (by rw [hz]; rfl) (by decide) (lk_held C0 hL hK hE hi hB hI hl kk)
        · exact lv_tableIn (off := 552) (tgt := 584) hx hb dL_law_32 (by omega) (by omega) (by rw [hz]; rfl) (by decide) (lk_about C0 hL hK hE hi hB hI hl kk)
        · exact lv_tableIn (off := 575) (tgt := 607) hx hb dL_law_32 (by omega) (by omega) (by rw [hz]; rfl) (by decide) (lk_zero C0 hL hK hE hi hB hI hl kk)
        · exact lv_tableIn (off := 608) (tgt := 640) hx hb dL_law_32 (by omega) (by omega) (by rw [hz]; rfl) (by decide) (lk_input C0 hL hK hE hi hB hI hl kk)
        · exact lv_tableIn (off := 631) (tgt := 663) hx hb dL_law_32 (by omega) (by omega) (by rw [hz]; rfl) (by decide) (lk_count C0 hL hK hE hi hB hI hl kk)
        · exact lv_tableIn (off := 654) (tgt := 686) hx hb dL_law_32 (by omega) (by omega) (by rw [hz]; rfl) (by decide) (lk_digest C0 hL hK hE hi hB hI hl kk)
end LW
