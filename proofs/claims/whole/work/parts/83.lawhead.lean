def R_law : String := "VoltSlopesLaw"
def lw_P (b : Addr) (xs : List Int32) (args : Array Value) (s : State) : Prop := args = #[.ref b] ∧ s.IntsAt b xs ∧ xs.length ≤ 2048 ∧ (Jvm.Cond.and given_1 narrow_1).before args s = true
def lw_Q (_ : Array Value) (s : State) (o : Outcome) (t : State) : Prop := o = .returned (some (.int 1)) ∧ Framed s o t [] 25 436
def lw_Z (below : List Frame) (a : Array Value) (s : State) : State → Prop := fun t => ∃ o, t.status = .running ∧ Ended t below o ∧ lw_Q a s o t
/-- the law's own end, with 1 on the stack, nothing written that was there before, its room as the claim has it -/
theorem lw_ret {p : Program} {l : Launch} {e : Env} {s : State} {m : MethodId} {below : List Frame} {meth : Method} {c : Code} {b : Nat} (hx : p.tables.exec = Jvm.exec) (hb : c.code = code) (hr : meth.sig.returnType = ret) (hlocks : meth.locks = false) {pc : Nat} {H : Heap} {ls : Array Slot} (hdg : decode code pc = .ok (.ireturn, 1)) : W p l e room_1 s m #[Value.ref b] below meth c H [] 25 436 (lw_Z below #[Value.ref b] s) (F0 m pc ls [.int 1]) := by
  intro T hT X
  obtain ⟨fs, hret, hrun, hended, hW, hframe⟩ := X.leave (v := some (.int 1)) (hlocks := hlocks) (fun h => by rw [hr] at h; cases h)
  have hmeth' : T.vm.method? m = some meth := X.method'
  refine ⟨T.setFrames fs, ?_, .returned (some (.int 1)), hrun, hended, rfl, ⟨_, rfl⟩, hW, hframe⟩
  jvm_step X.here [X.here.top, hx, hb, hdg, hmeth', hr, ret, narrow_b1]
  (try refine ⟨rfl, ?_⟩); (try refine ⟨rfl, ?_⟩)
  first | (intro acts; rw [hret _ acts rfl rfl rfl]) | rw [hret _ _ rfl rfl rfl]
  exact Steps.refl _
/-- what holds at the law's entry: the machine, the code, the tables' words (any of lw_tbl by 'hts w (by decide +kernel)'), the script of L ints xs at the cell b, what the Statement gives of the start (any of its parts by flat_of_before) -/
def lw_At (p : Program) (s : State) (m : MethodId) (meth : Method) (c : Code) (b L : Nat) (xs : Nat → Int32) : Prop :=
  p.tables.exec = Jvm.exec ∧ c.code = code ∧ meth.sig.returnType = ret ∧ c.maxLocals = 4 ∧ s.vm.findClass R_law = some m.cls ∧ (∀ w ∈ lw_tbl, w.before #[Value.ref b] s = true) ∧ va_X b L xs s s.heap ∧ b < s.heap.size ∧ meth.locks = false ∧ (Jvm.Cond.and given_1 narrow_1).before #[Value.ref b] s = true
def lwA (s : State) : Nat → Prop := fun q => s.heap.size ≤ q
theorem pr_ex {α β : Type} (q : α × β) : ∃ a b, q = (a, b) := ⟨q.1, q.2, rfl⟩
theorem pl_ok {k : Nat} (h : k ≤ 40) : 0 ≤ (nI k).toInt ∧ (nI k).toInt ≤ 40 := by
  rw [nI_toInt (by omega)]; omega
theorem kp_ok (t : Nat) : 0 ≤ (nI (min t 12)).toInt ∧ (nI (min t 12)).toInt ≤ 12 := by
  have h : min t 12 ≤ 12 := Nat.min_le_right _ _
  rw [nI_toInt (by omega)]; omega
theorem hh_of {B N K c t h : Nat} {tk : Int64} {range : Int32} {wc : Bool} {zs ms : Nat → Int64} {zc mc zn mr : Nat → Int32} {f g : Nat → Int64} {lcl told : Nat → Int32} {dc z : Int32} (j : iS B N K c t h tk range wc zs ms zc mc zn mr f g lcl told dc z) : 0 ≤ (nI h).toInt ∧ (nI h).toInt ≤ 17 ∧ (nI h).toInt ≤ 16 := by
  have q := j.1.2.2.2.2.2.2.2.1
  have q1 := q.1
  have q2 := q.2.2.1
  rw [nI_toInt (by omega)]; omega
theorem h16_of {B N K c t h : Nat} {tk : Int64} {range : Int32} {wc : Bool} {zs ms : Nat → Int64} {zc mc zn mr : Nat → Int32} {f g : Nat → Int64} {lcl told : Nat → Int32} {dc z : Int32} (j : iS B N K c t h tk range wc zs ms zc mc zn mr f g lcl told dc z) : h ≤ 16 := by
  have q := j.1.2.2.2.2.2.2.2.1
  have q1 := q.1
  have q2 := q.2.2.1
  omega
theorem mok_of {B N K c t h : Nat} {tk : Int64} {range : Int32} {wc : Bool} {zs ms : Nat → Int64} {zc mc zn mr : Nat → Int32} {f g : Nat → Int64} {lcl told : Nat → Int32} {dc z : Int32} (j : iS B N K c t h tk range wc zs ms zc mc zn mr f g lcl told dc z) : mOk range (nI N) (nI h) (nI K) := by
  have q := j.1.2.2.2.2.2.2.2.1
  have q1 := q.1
  have q2 := q.2.1
  have q3 := q.2.2.1
  have q4 := j.2.1
  refine ⟨j.1.2.2.2.2.1, ?_, ?_, ?_⟩ <;> rw [nI_toInt (by omega)] <;> omega
theorem c_of {B N K c t h : Nat} {tk : Int64} {range : Int32} {wc : Bool} {zs ms : Nat → Int64} {zc mc zn mr : Nat → Int32} {f g : Nat → Int64} {lcl told : Nat → Int32} {dc z : Int32} (j : iS B N K c t h tk range wc zs ms zc mc zn mr f g lcl told dc z) : c < 2 ^ 31 := by
  have q1 := j.1.1
  have q2 := j.1.2.1
  omega
theorem t_of {B N K c t h : Nat} {tk : Int64} {range : Int32} {wc : Bool} {zs ms : Nat → Int64} {zc mc zn mr : Nat → Int32} {f g : Nat → Int64} {lcl told : Nat → Int32} {dc z : Int32} (j : iS B N K c t h tk range wc zs ms zc mc zn mr f g lcl told dc z) : t < 2 ^ 30 := by
  have q1 := j.1.1
  have q2 := j.1.2.2.1
  omega
theorem tk_of {B N K c t h : Nat} {tk : Int64} {range : Int32} {wc : Bool} {zs ms : Nat → Int64} {zc mc zn mr : Nat → Int32} {f g : Nat → Int64} {lcl told : Nat → Int32} {dc z : Int32} (j : iS B N K c t h tk range wc zs ms zc mc zn mr f g lcl told dc z) (hB : B ≤ 1000000) : (0 ≤ tk.toInt ∧ tk.toInt ≤ 100000000000000) ∧ (0 ≤ tk.toInt ∧ tk.toInt ≤ 90000000000000) := by
  have q := j.1.2.2.2.1
  omega
theorem iS_dc {B N K c t h : Nat} {tk : Int64} {range : Int32} {wc : Bool} {zs ms : Nat → Int64} {zc mc zn mr : Nat → Int32} {f g : Nat → Int64} {lcl told : Nat → Int32} {dc z : Int32} (j : iS B N K c t h tk range wc zs ms zc mc zn mr f g lcl told dc z) {dc' : Int32} (hd : -25000000 ≤ dc'.toInt ∧ dc'.toInt ≤ 25000000) : iS B N K c t h tk range wc zs ms zc mc zn mr f g lcl told dc' z := ⟨j.1, j.2.1, hd, j.2.2.2⟩
theorem iS_conv {B N K c t h : Nat} {tk : Int64} {range : Int32} {wc : Bool} {zs ms : Nat → Int64} {zc mc zn mr : Nat → Int32} {f g : Nat → Int64} {lcl told : Nat → Int32} {dc z : Int32} (j : iS B N K c t h tk range wc zs ms zc mc zn mr f g lcl told dc z) {tk' : Int64} {k : Nat} {wc' : Bool} (g1 : tk.toInt ≤ tk'.toInt) (g2 : tk'.toInt ≤ tk.toInt + 40000) (g3 : k ≤ 8) (g4 : wc' = true ↔ (wc = true ∨ 0 < k)) (hB : B + 400 ≤ 1000000) : iS (B + 400) N K (c + k) t h tk' range wc' zs ms zc mc zn mr f g lcl told dc z := by
  obtain ⟨⟨q1, q2, q3, q4, q5, q6, q7, q8, q9⟩, q10⟩ := j
  refine ⟨⟨hB, by omega, by omega, by omega, q5, ?_, q7, q8, q9⟩, q10⟩
  rw [g4, q6]
  omega
theorem iS_clear {B N K c t h : Nat} {tk : Int64} {range : Int32} {wc : Bool} {zs ms : Nat → Int64} {zc mc zn mr : Nat → Int32} {f g : Nat → Int64} {lcl told : Nat → Int32} {dc z : Int32} (j : iS B N K c t h tk range wc zs ms zc mc zn mr f g lcl told dc z) : iS B N K c t 0 tk range wc zs ms zc (upd (upd (upd mc 0 0) 1 0) 2 0) (upd (upd (upd zn 0 0) 1 0) 2 0) mr f g lcl told dc z := by
  obtain ⟨⟨q1, q2, q3, q4, q5, q6, q7, q8, q9⟩, q10⟩ := j
  exact ⟨⟨q1, q2, q3, q4, q5, q6, pZ_clear zs ms zc mc zn mr, ⟨Nat.zero_le _, q8.2.1, q8.2.2.1, fun i hi => absurd hi (Nat.not_lt_zero i)⟩, q9⟩, q10⟩
theorem v_in {i L : Nat} (k : Nat) {x : Int32} (_ : k < 4) (hx : x = nI k) (h : i + k < L) (hL : L < 2 ^ 31) : vp_in (nI i + x) L := by
  subst hx
  rw [nI_add]
  exact vp_in_nI h hL
def lwI (s : State) (D : va_G) (cI cJ : ClassId) (h_vs h_bn h_src h_amp h_cv h_cnt h_zs h_zsum h_zcyc h_znum h_mn h_vals h_lg h_lcl h_pg h_pcd h_ps h_md h_mcnt h_mzs h_mzc h_mzr h_mvals h_mtold h_mpage : Nat) (B : Nat) (H : Heap) (locs : List Loc) : Prop := ∃ (yau : Bool) (yz : Int32) (yfactor : Int32) (yshift : Int32) (yups : Int32) (ydowns : Int32) (ystt : Int32) (yN : Nat) (ytk : Int64) (yc : Nat) (ysh : Int32) (ydc : Int32) (yhum : Int32) (yw : Int32) (yn : Int32) (yseed : Int64) (yrange : Int32) (yoff : Int32) (ycreep : Int32) (ycs : Bool) (yrt : Int32) (yov : Bool) (ypl : Int32) (ymi : Int32) (ysw : Int32) (ych : Int64) (ysu : Int64) (yfl : Int64) (ysg : Int32) (ycnt : Nat → Int32) (yzs : Nat → Int64) (yzc : Nat → Int32) (yzn : Nat → Int32) (yh : Nat) (yK : Nat) (ywin : Int32) (yjm : Int32) (yf : Nat → Int64) (yt : Nat) (ygo : Int32) (ylcl : Nat → Int32) (yl : Nat) (ypg : Nat → Int32) (yst : Int32) (ybe : Bool) (yam : Int64) (yco : Int32) (ywc : Bool) (ycm : Int32) (yfi : Int32) (ynu : Int32) (yib : Bool) (yhd : Int64) (yms : Nat → Int64) (ymc : Nat → Int32) (ymr : Nat → Int32) (yg : Nat → Int64) (ytold : Nat → Int32), iS B yN yK yc yt yh ytk yrange ywc yzs yms yzc ymc yzn ymr yf yg ylcl ytold ydc yz ∧ ((0 ≤ yhum.toInt ∧ yhum.toInt ≤ 2000000) ∧ 0 ≤ yw.toInt ∧ yw.toInt ≤ 2) ∧ (0 ≤ yn.toInt ∧ yn.toInt ≤ 10000) ∧ (yfactor.toInt.natAbs ≤ 1000 ∧ yshift.toInt.natAbs ≤ 1000000) ∧ yl ≤ 40 ∧ va_P D vwCl [(h_vs, .inr (9, [.ref h_bn, .ref h_zs, .ref h_mn, .ref h_lg, .ref h_pg, .ref h_ps, .int (bI yau), .int yz, .int yfactor, .int yshift, .int yups, .int ydowns, .int ystt])), (h_bn, .inr (1, [.ref h_src, .ref h_amp, .ref h_cv, .int (nI yN), .long ytk, .int (nI yc), .int ysh])), (h_src, .inr (7, [.int ydc, .int yhum, .int yw, .int yn, .long yseed])), (h_amp, .inr (0, [.int yrange, .int yoff, .int ycreep])), (h_cv, .inr (2, [.int (bI ycs), .int yrt, .int (bI yov), .int ypl, .int ymi, .int ysw, .long ych, .long ysu, .long yfl, .int ysg, .ref h_cnt])), (h_cnt, .inl (cI, 4, .inl ycnt)), (h_zs, .inr (8, [.ref h_zsum, .ref h_zcyc, .ref h_znum])), (h_zsum, .inl (cJ, 3, .inr (.inl yzs))), (h_zcyc, .inl (cI, 3, .inl yzc)), (h_znum, .inl (cI, 3, .inl yzn)), (h_mn, .inr (4, [.ref h_vals, .int (nI yh), .int (nI yK), .int ywin, .int yjm])), (h_vals, .inl (cJ, 16, .inr (.inl yf))), (h_lg, .inr (3, [.ref h_lcl, .int (nI yt), .int ygo])), (h_lcl, .inl (cI, 96, .inl ylcl)), (h_pg, .inr (5, [.ref h_pcd, .int (nI yl)])), (h_pcd, .inl (cI, 40, .inl ypg)), (h_ps, .inr (6, [.int yst, .int (bI ybe), .long yam, .int yco])), (h_md, .inr (10, [.int ydc, .int yhum, .int yw, .int yn, .long yseed, .long ytk, .int yrange, .int (bI yau), .int yoff, .int ycreep, .int yfactor, .int yshift, .int (nI yN), .int yz, .int (nI yK), .int ywin, .int (bI ywc), .int ypl, .int ymi, .int ysw, .ref h_mcnt, .long ych, .int (bI yov), .long ysu, .long yfl, .int (bI ycs), .int yrt, .ref h_mzs, .ref h_mzc, .ref h_mzr, .int (nI yh), .ref h_mvals, .int (nI (min yt 12)), .ref h_mtold, .int (nI yt), .int ygo, .int (nI yc), .int ysh, .int yups, .int ydowns, .int yjm, .int ystt, .int (nI yl), .ref h_mpage, .int ycm, .int yfi, .int ynu, .int (bI yib), .long yhd])), (h_mcnt, .inl (cI, 4, .inl ycnt)), (h_mzs, .inl (cJ, 3, .inr (.inl yms))), (h_mzc, .inl (cI, 3, .inl ymc)), (h_mzr, .inl (cI, 3, .inl ymr)), (h_mvals, .inl (cJ, 17, .inr (.inl yg))), (h_mtold, .inl (cI, 96, .inl ytold)), (h_mpage, .inl (cI, 40, .inl ypg))] H ∧ va_D (lwA s) [(h_vs, .inr (9, [.ref h_bn, .ref h_zs, .ref h_mn, .ref h_lg, .ref h_pg, .ref h_ps, .int (bI yau), .int yz, .int yfactor, .int yshift, .int yups, .int ydowns, .int ystt])), (h_bn, .inr (1, [.ref h_src, .ref h_amp, .ref h_cv, .int (nI yN), .long ytk, .int (nI yc), .int ysh])), (h_src, .inr (7, [.int ydc, .int yhum, .int yw, .int yn, .long yseed])), (h_amp, .inr (0, [.int yrange, .int yoff, .int ycreep])), (h_cv, .inr (2, [.int (bI ycs), .int yrt, .int (bI yov), .int ypl, .int ymi, .int ysw, .long ych, .long ysu, .long yfl, .int ysg, .ref h_cnt])), (h_cnt, .inl (cI, 4, .inl ycnt)), (h_zs, .inr (8, [.ref h_zsum, .ref h_zcyc, .ref h_znum])), (h_zsum, .inl (cJ, 3, .inr (.inl yzs))), (h_zcyc, .inl (cI, 3, .inl yzc)), (h_znum, .inl (cI, 3, .inl yzn)), (h_mn, .inr (4, [.ref h_vals, .int (nI yh), .int (nI yK), .int ywin, .int yjm])), (h_vals, .inl (cJ, 16, .inr (.inl yf))), (h_lg, .inr (3, [.ref h_lcl, .int (nI yt), .int ygo])), (h_lcl, .inl (cI, 96, .inl ylcl)), (h_pg, .inr (5, [.ref h_pcd, .int (nI yl)])), (h_pcd, .inl (cI, 40, .inl ypg)), (h_ps, .inr (6, [.int yst, .int (bI ybe), .long yam, .int yco])), (h_md, .inr (10, [.int ydc, .int yhum, .int yw, .int yn, .long yseed, .long ytk, .int yrange, .int (bI yau), .int yoff, .int ycreep, .int yfactor, .int yshift, .int (nI yN), .int yz, .int (nI yK), .int ywin, .int (bI ywc), .int ypl, .int ymi, .int ysw, .ref h_mcnt, .long ych, .int (bI yov), .long ysu, .long yfl, .int (bI ycs), .int yrt, .ref h_mzs, .ref h_mzc, .ref h_mzr, .int (nI yh), .ref h_mvals, .int (nI (min yt 12)), .ref h_mtold, .int (nI yt), .int ygo, .int (nI yc), .int ysh, .int yups, .int ydowns, .int yjm, .int ystt, .int (nI yl), .ref h_mpage, .int ycm, .int yfi, .int ynu, .int (bI yib), .long yhd])), (h_mcnt, .inl (cI, 4, .inl ycnt)), (h_mzs, .inl (cJ, 3, .inr (.inl yms))), (h_mzc, .inl (cI, 3, .inl ymc)), (h_mzr, .inl (cI, 3, .inl ymr)), (h_mvals, .inl (cJ, 17, .inr (.inl yg))), (h_mtold, .inl (cI, 96, .inl ytold)), (h_mpage, .inl (cI, 40, .inl ypg))] ∧ va_S (lwA s) s.heap H locs
theorem lwI_mono {s : State} {D : va_G} {cI cJ : ClassId} {h_vs h_bn h_src h_amp h_cv h_cnt h_zs h_zsum h_zcyc h_znum h_mn h_vals h_lg h_lcl h_pg h_pcd h_ps h_md h_mcnt h_mzs h_mzc h_mzr h_mvals h_mtold h_mpage : Nat} {B B' : Nat} {H : Heap} {locs : List Loc} (h : lwI s D cI cJ h_vs h_bn h_src h_amp h_cv h_cnt h_zs h_zsum h_zcyc h_znum h_mn h_vals h_lg h_lcl h_pg h_pcd h_ps h_md h_mcnt h_mzs h_mzc h_mzr h_mvals h_mtold h_mpage B H locs) (h1 : B ≤ B') (h2 : B' ≤ 1000000) : lwI s D cI cJ h_vs h_bn h_src h_amp h_cv h_cnt h_zs h_zsum h_zcyc h_znum h_mn h_vals h_lg h_lcl h_pg h_pcd h_ps h_md h_mcnt h_mzs h_mzc h_mzr h_mvals h_mtold h_mpage B' H locs := by
  obtain ⟨yau, yz, yfactor, yshift, yups, ydowns, ystt, yN, ytk, yc, ysh, ydc, yhum, yw, yn, yseed, yrange, yoff, ycreep, ycs, yrt, yov, ypl, ymi, ysw, ych, ysu, yfl, ysg, ycnt, yzs, yzc, yzn, yh, yK, ywin, yjm, yf, yt, ygo, ylcl, yl, ypg, yst, ybe, yam, yco, ywc, ycm, yfi, ynu, yib, yhd, yms, ymc, ymr, yg, ytold, j1, j2, j3, j4, j5, hP, hD, hS⟩ := h
  exact ⟨yau, yz, yfactor, yshift, yups, ydowns, ystt, yN, ytk, yc, ysh, ydc, yhum, yw, yn, yseed, yrange, yoff, ycreep, ycs, yrt, yov, ypl, ymi, ysw, ych, ysu, yfl, ysg, ycnt, yzs, yzc, yzn, yh, yK, ywin, yjm, yf, yt, ygo, ylcl, yl, ypg, yst, ybe, yam, yco, ywc, ycm, yfi, ynu, yib, yhd, yms, ymc, ymr, yg, ytold, iS_mono j1 h1 h2, j2, j3, j4, j5, hP, hD, hS⟩
/-! the links among nest mates and the two tables, at the start -/
set_option maxRecDepth 100000 in
theorem lw_gNw {s : State} {b : Nat} (hts : ∀ w ∈ lw_tbl, w.before #[Value.ref b] s = true) : gNw s := by
  show ∀ w ∈ gNwL, va_Nw w s
  unfold gNwL
  exact (List.forall_mem_cons.mpr ⟨va_Nw.of rfl (hts _ (List.mem_of_getElem? (i := 79) (by decide +kernel))), (List.forall_mem_cons.mpr ⟨va_Nw.of rfl (hts _ (List.mem_of_getElem? (i := 85) (by decide +kernel))), (List.forall_mem_cons.mpr ⟨va_Nw.of rfl (hts _ (List.mem_of_getElem? (i := 112) (by decide +kernel))), (List.forall_mem_cons.mpr ⟨va_Nw.of rfl (hts _ (List.mem_of_getElem? (i := 132) (by decide +kernel))), (List.forall_mem_cons.mpr ⟨va_Nw.of rfl (hts _ (List.mem_of_getElem? (i := 205) (by decide +kernel))), (List.forall_mem_cons.mpr ⟨va_Nw.of rfl (hts _ (List.mem_of_getElem? (i := 222) (by decide +kernel))), (List.forall_mem_cons.mpr ⟨va_Nw.of rfl (hts _ (List.mem_of_getElem? (i := 248) (by decide +kernel))), (List.forall_mem_cons.mpr ⟨va_Nw.of rfl (hts _ (List.mem_of_getElem? (i := 266) (by decide +kernel))), (List.forall_mem_cons.mpr ⟨va_Nw.of rfl (hts _ (List.mem_of_getElem? (i := 280) (by decide +kernel))), (List.forall_mem_cons.mpr ⟨va_Nw.of rfl (hts _ (List.mem_of_getElem? (i := 580) (by decide +kernel))), (List.forall_mem_cons.mpr ⟨va_Nw.of rfl (hts _ (List.mem_of_getElem? (i := 656) (by decide +kernel))), (List.forall_mem_cons.mpr ⟨va_Nw.of rfl (hts _ (List.mem_of_getElem? (i := 439) (by decide +kernel))), (List.forall_mem_cons.mpr ⟨va_Nw.of rfl (hts _ (List.mem_of_getElem? (i := 488) (by decide +kernel))), (fun _ h => absurd h List.not_mem_nil)⟩)⟩)⟩)⟩)⟩)⟩)⟩)⟩)⟩)⟩)⟩)⟩)⟩)
set_option maxRecDepth 100000 in
set_option maxHeartbeats 1000000 in
theorem lw_gSt {s : State} {b : Nat} (hts : ∀ w ∈ lw_tbl, w.before #[Value.ref b] s = true) (hgv : (Jvm.Cond.and given_1 narrow_1).before #[Value.ref b] s = true) : gSt (lwA s) s s.heap := by
  have hs := flat_of_before _ hgv
  have hA : ∀ a : Nat, a < s.heap.size → ¬ lwA s a := fun a h => Nat.not_le.mpr h
  have hini : (Cond.initialized RX9).before #[Value.ref b] s = true := hts _ (List.mem_of_getElem? (i := 57) (by decide +kernel))
  have helSINE : ∀ j : Nat, j < 10 → (Term.elem (Term.static RX9 "SINE" "[I") (.int (Int32.ofNat j))).eval #[Value.ref b] s none [] s = some (.int (gSineI j)) := by
    intro j hj
    rcases (show j = 0 ∨ j = 1 ∨ j = 2 ∨ j = 3 ∨ j = 4 ∨ j = 5 ∨ j = 6 ∨ j = 7 ∨ j = 8 ∨ j = 9 by omega) with rfl | rfl | rfl | rfl | rfl | rfl | rfl | rfl | rfl | rfl
    · exact va_eqt (hs (Cond.eq (Term.elem (Term.static RX9 "SINE" "[I") (.int 0)) (.int 0)) (by decide +kernel))
    · exact va_eqt (hs (Cond.eq (Term.elem (Term.static RX9 "SINE" "[I") (.int 1)) (.int 309)) (by decide +kernel))
    · exact va_eqt (hs (Cond.eq (Term.elem (Term.static RX9 "SINE" "[I") (.int 2)) (.int 588)) (by decide +kernel))
    · exact va_eqt (hs (Cond.eq (Term.elem (Term.static RX9 "SINE" "[I") (.int 3)) (.int 809)) (by decide +kernel))
    · exact va_eqt (hs (Cond.eq (Term.elem (Term.static RX9 "SINE" "[I") (.int 4)) (.int 951)) (by decide +kernel))
    · exact va_eqt (hs (Cond.eq (Term.elem (Term.static RX9 "SINE" "[I") (.int 5)) (.int 1000)) (by decide +kernel))
    · exact va_eqt (hs (Cond.eq (Term.elem (Term.static RX9 "SINE" "[I") (.int 6)) (.int 951)) (by decide +kernel))
    · exact va_eqt (hs (Cond.eq (Term.elem (Term.static RX9 "SINE" "[I") (.int 7)) (.int 809)) (by decide +kernel))
    · exact va_eqt (hs (Cond.eq (Term.elem (Term.static RX9 "SINE" "[I") (.int 8)) (.int 588)) (by decide +kernel))
    · exact va_eqt (hs (Cond.eq (Term.elem (Term.static RX9 "SINE" "[I") (.int 9)) (.int 309)) (by decide +kernel))
  obtain ⟨tSINE, htSINE, hTSINE⟩ := va_Tof (f := fun j => .int (gSineI j)) (A := lwA s) (N := 10) (by decide) (hs (Cond.arrayOf (Term.static RX9 "SINE" "[I") .int) (by decide +kernel)) (va_eqt (hs (Cond.eq (Term.length (Term.static RX9 "SINE" "[I")) (.int 10)) (by decide +kernel))) helSINE hA
  have hlSINE : (Cond.laysStatic RX9 "SINE" "[I").before #[Value.ref b] s = true := hts _ (List.mem_of_getElem? (i := 440) (by decide +kernel))
  have helSLOPES : ∀ j : Nat, j < 4 → (Term.elem (Term.static RX9 "SLOPES" "[J") (.int (Int32.ofNat j))).eval #[Value.ref b] s none [] s = some (.long (gSlopeL j)) := by
    intro j hj
    rcases (show j = 0 ∨ j = 1 ∨ j = 2 ∨ j = 3 by omega) with rfl | rfl | rfl | rfl
    · exact va_eqtl (hs (Cond.eq (Term.elem (Term.static RX9 "SLOPES" "[J") (.int 0)) (.long 25600000)) (by decide +kernel))
    · exact va_eqtl (hs (Cond.eq (Term.elem (Term.static RX9 "SLOPES" "[J") (.int 1)) (.long 1600000)) (by decide +kernel))
    · exact va_eqtl (hs (Cond.eq (Term.elem (Term.static RX9 "SLOPES" "[J") (.int 2)) (.long 100000)) (by decide +kernel))
    · exact va_eqtl (hs (Cond.eq (Term.elem (Term.static RX9 "SLOPES" "[J") (.int 3)) (.long 6250)) (by decide +kernel))
  obtain ⟨tSLOPES, htSLOPES, hTSLOPES⟩ := va_Tof (f := fun j => .long (gSlopeL j)) (A := lwA s) (N := 4) (by decide) (hs (Cond.arrayOf (Term.static RX9 "SLOPES" "[J") .long) (by decide +kernel)) (va_eqt (hs (Cond.eq (Term.length (Term.static RX9 "SLOPES" "[J")) (.int 4)) (by decide +kernel))) helSLOPES hA
  have hlSLOPES : (Cond.laysStatic RX9 "SLOPES" "[J").before #[Value.ref b] s = true := hts _ (List.mem_of_getElem? (i := 489) (by decide +kernel))
  exact ⟨tSINE, tSLOPES, va_Zref hlSINE hini htSINE hA, hTSINE, va_Zref hlSLOPES hini htSLOPES hA, hTSLOPES⟩
