/-! the words of this proof: booleans, joins, the room around, calls and ends over the worlds of this claim -/
def bI : Bool → Int32
  | true => 1
  | false => 0
theorem bI_f {b : Bool} (h : bI b = 0) : b = false := by
  cases b
  · rfl
  · exact absurd h (by decide)
theorem bI_t {b : Bool} (h : ¬ bI b = 0) : b = true := by
  cases b
  · exact absurd rfl h
  · rfl
theorem bI_f2 {b : Bool} (h : bI b = 0) : ¬ b = true := by
  rw [bI_f h]; decide
theorem bI_nar (b : Bool) : narrow .boolean (.int (bI b)) = .int (bI b) := by cases b <;> decide +kernel
theorem bI_fit (b : Bool) : fits .boolean (.int (bI b)) = true := by cases b <;> decide +kernel
def gRemI (x y : Int32) : Int32 := x - x / y * y
def gRemL (x y : Int64) : Int64 := x - x / y * y
def gMaxI (x y : Int32) : Int32 := if x < y then y else x
def gMinI (x y : Int32) : Int32 := if y < x then y else x
def gMaxL (x y : Int64) : Int64 := if y < x then x else y
def gMinL (x y : Int64) : Int64 := if y < x then y else x
def gAbsL (x : Int64) : Int64 := if 0 < x then x else -x
theorem gi_lt {x y : Int32} {a b : Int} (h : x < y) (ha : x.toInt = a) (hb : y.toInt = b) : a < b := by
  rw [← ha, ← hb]; exact Int32.lt_iff_toInt_lt.mp h
theorem gi_nlt {x y : Int32} {a b : Int} (h : ¬ x < y) (ha : x.toInt = a) (hb : y.toInt = b) : b ≤ a := by
  rw [← ha, ← hb]; exact Int.not_lt.mp (fun q => h (Int32.lt_iff_toInt_lt.mpr q))
theorem gi_le {x y : Int32} {a b : Int} (h : x ≤ y) (ha : x.toInt = a) (hb : y.toInt = b) : a ≤ b := by
  rw [← ha, ← hb]; exact Int32.le_iff_toInt_le.mp h
theorem gi_nle {x y : Int32} {a b : Int} (h : ¬ x ≤ y) (ha : x.toInt = a) (hb : y.toInt = b) : b < a := by
  rw [← ha, ← hb]; exact Int.not_le.mp (fun q => h (Int32.le_iff_toInt_le.mpr q))
theorem gi_eq {x y : Int32} {a b : Int} (h : x = y) (ha : x.toInt = a) (hb : y.toInt = b) : a = b := by
  rw [← ha, ← hb, h]
theorem gi_ne {x y : Int32} {a b : Int} (h : ¬ x = y) (ha : x.toInt = a) (hb : y.toInt = b) : a ≠ b := by
  rw [← ha, ← hb]; exact fun q => h (Int32.toInt_inj.mp q)
theorem gi_max (x : Int32) : x.toInt ≤ 2147483647 := by
  have h := Int32.toInt_lt x
  omega
theorem gi_min (x : Int32) : -2147483648 ≤ x.toInt := by
  have h := Int32.le_toInt x
  omega
theorem gi_add {x y : Int32} (h1 : -2147483648 ≤ x.toInt + y.toInt) (h2 : x.toInt + y.toInt ≤ 2147483647) : (x + y).toInt = x.toInt + y.toInt := by
  rw [Int32.toInt_add]
  exact Int.bmod_eq_of_le (by omega) (by omega)
theorem gi_sub {x y : Int32} (h1 : -2147483648 ≤ x.toInt - y.toInt) (h2 : x.toInt - y.toInt ≤ 2147483647) : (x - y).toInt = x.toInt - y.toInt := by
  rw [Int32.toInt_sub]
  exact Int.bmod_eq_of_le (by omega) (by omega)
theorem gi_mul {x y : Int32} (h1 : -2147483648 ≤ x.toInt * y.toInt) (h2 : x.toInt * y.toInt ≤ 2147483647) : (x * y).toInt = x.toInt * y.toInt := by
  rw [Int32.toInt_mul]
  exact Int.bmod_eq_of_le (by omega) (by omega)
theorem gi_inc {x : Int32} (h : x.toInt < 2147483647) : (x + 1).toInt = x.toInt + 1 := by
  have h1 := gi_min x
  have h2 : (1 : Int32).toInt = 1 := by decide
  rw [gi_add (by omega) (by omega), h2]
theorem gi_dec {x : Int32} (h : -2147483648 < x.toInt) : (x + (-1)).toInt = x.toInt - 1 := by
  have h1 := gi_max x
  have h2 : (-1 : Int32).toInt = -1 := by decide
  rw [gi_add (by omega) (by omega), h2]
  omega
theorem gi_in {x : Int32} {n : Nat} (h : 0 ≤ x.toInt ∧ x.toInt < n) : vp_in x n := vp_in_iff.mpr h
theorem ne_nle {x : Int64} (h : ¬ x ≤ 0) : ¬ x = 0 := fun q => h (by rw [q]; decide)
theorem ne_i2l0 {x : Int32} (h : ¬ x = 0) : ¬ x.toInt64 = 0 := fun q => h (by
  have h1 : x.toInt64.toInt = (0 : Int64).toInt := by rw [q]
  rw [Int32.toInt_toInt64] at h1
  exact Int32.toInt_inj.mp h1)
theorem ne_i2l {x : Int32} (h : ¬ x ≤ 0) : ¬ x.toInt64 = 0 := ne_i2l0 (fun q => h (by rw [q]; decide))
def gBind {α ρ : Type} (M : (α → ρ) → ρ) (K : α → ρ) : ρ := M K
theorem gJoin {α ρ : Type} {F : ρ} {M : (α → ρ) → ρ} {K : α → ρ} (P : α → Prop) {G : Prop} (hF : F = gBind M K) (main : ∀ K' : α → ρ, (∀ v, F = K' v → P v) → F = M K' → G) (j : ∀ v, F = K v → P v) : G := main K j hF
/-! what stands around every method: links among nest mates, and the two tables of numbers -/
def gNwL : List Cond := [.methodLinkNest RX9 9 yX1_init RX9, .methodLinkNest RX1 11 yX7_init RX9, .methodLinkNest RX1 20 yX0_init RX9, .methodLinkNest RX1 27 yX2_init RX9, .methodLinkNest RX9 18 yX8_init RX9, .methodLinkNest RX9 25 yX4_init RX9, .methodLinkNest RX9 32 yX3_init RX9, .methodLinkNest RX9 39 yX5_init RX9, .methodLinkNest RX9 46 yX6_init RX9, .methodLinkNest RX3 28 yX9_flag RX9, .methodLinkNest RX2 74 yX9_flag RX9, .fieldLinkNest RX7 36 RX9 "SINE" "[I" RX9, .fieldLinkNest RX2 63 RX9 "SLOPES" "[J" RX9]
def gNw (U : State) : Prop := ∀ w ∈ gNwL, va_Nw w U
theorem gNw.warm {s U : State} (hW : s.WarmedH U.vm) (h : gNw s) : gNw U := by
  intro w hw
  have h1 := h w hw
  simp only [gNwL, List.mem_cons, List.not_mem_nil, or_false] at hw
  rcases hw with rfl | rfl | rfl | rfl | rfl | rfl | rfl | rfl | rfl | rfl | rfl | rfl | rfl <;> first | exact va_Nw.warmM hW h1 | exact va_Nw.warmF hW h1
theorem gNw.same {u U : State} (hv : u.vm = U.vm) (h : gNw u) : gNw U := by
  intro w hw
  have h1 := h w hw
  simp only [gNwL, List.mem_cons, List.not_mem_nil, or_false] at hw
  rcases hw with rfl | rfl | rfl | rfl | rfl | rfl | rfl | rfl | rfl | rfl | rfl | rfl | rfl <;> exact va_Nw.same rfl hv h1
def gSineI (j : Nat) : Int32 := match j with
  | 0 => 0
  | 1 => 309
  | 2 => 588
  | 3 => 809
  | 4 => 951
  | 5 => 1000
  | 6 => 951
  | 7 => 809
  | 8 => 588
  | _ => 309
def gSlopeL (j : Nat) : Int64 := match j with
  | 0 => 25600000
  | 1 => 1600000
  | 2 => 100000
  | _ => 6250
def gSt (A : Nat → Prop) (U : State) (H : Heap) : Prop := ∃ tS tL : Nat, va_Z RX9 "SINE" "[I" (.ref tS) A U H ∧ va_T .int tS 10 (fun j => .int (gSineI j)) A U H ∧ va_Z RX9 "SLOPES" "[J" (.ref tL) A U H ∧ va_T .long tL 4 (fun j => .long (gSlopeL j)) A U H
def gE (A : Nat → Prop) (U : State) (H : Heap) : Prop := gNw U ∧ gSt A U H
theorem gE.call {A A' : Nat → Prop} {s U : State} {H : Heap} {locs : List Loc} (h : gE A s s.heap) (hS : va_S A s.heap H locs) (hAA : ∀ q, A' q → A q) (hU : U.heap = H) (hW : s.WarmedH U.vm) : gE A' U U.heap := by
  obtain ⟨h1, tS, tL, z1, t1, z2, t2⟩ := h
  refine ⟨h1.warm hW, tS, tL, ?_, ?_, ?_, ?_⟩ <;> rw [hU]
  · exact ((z1.kept hS.2.1).moved hW.alike).narrow hAA
  · exact ((t1.kept hS.2.1).moved hW.alike).narrow hAA
  · exact ((z2.kept hS.2.1).moved hW.alike).narrow hAA
  · exact ((t2.kept hS.2.1).moved hW.alike).narrow hAA
def gPc (D : va_G) (cI cJ : ClassId) (av : List Value) (ws : va_W) (sz : Nat) : Array Value → State → Prop := va_Pc av (fun U => U.heap.size = sz ∧ va_P D vwCl ws U.heap ∧ va_K D vwCl [(cI, .int), (cJ, .long)] U ∧ va_D (fun _ => True) ws ∧ gE (va_A ws sz) U U.heap)
theorem gPc.blind {D : va_G} {cI cJ : ClassId} {av : List Value} {ws : va_W} {sz : Nat} : FrameBlind (gPc D cI cJ av ws sz) := by
  intro a U g mk q
  obtain ⟨q0, q1, qP, qK, qD, q2, tS, tL, z1, t1, z2, t2⟩ := q
  exact ⟨q0, q1, qP, va_K.moved (u := U) (U := U.calling g mk a) (Vm.Alike.refl U.vm) qK, qD, gNw.same (u := U) (U := U.calling g mk a) rfl q2, tS, tL, va_Z.moved (u := U) (U := U.calling g mk a) (Vm.Alike.refl U.vm) z1, va_T.moved (u := U) (U := U.calling g mk a) (Vm.Alike.refl U.vm) t1, va_Z.moved (u := U) (U := U.calling g mk a) (Vm.Alike.refl U.vm) z2, va_T.moved (u := U) (U := U.calling g mk a) (Vm.Alike.refl U.vm) t2⟩
def gB (D : va_G) (cI cJ : ClassId) (A : Nat → Prop) (ws : va_W) (t : State) : Prop := va_P D vwCl ws t.heap ∧ va_K D vwCl [(cI, .int), (cJ, .long)] t ∧ va_D A ws
def gQi {S : Type} (D : va_G) (cI cJ : ClassId) (F : Int32 × S) (X : Int32 → S → Prop) (WS : S → va_W) (A : Nat → Prop) : Array Value → State → Outcome → State → Prop := va_Qi (fun r u => F = (r, u) ∧ X r u) (fun u t => gB D cI cJ A (WS u) t) A
def gQl {S : Type} (D : va_G) (cI cJ : ClassId) (F : Int64 × S) (X : Int64 → S → Prop) (WS : S → va_W) (A : Nat → Prop) : Array Value → State → Outcome → State → Prop := va_Ql (fun r u => F = (r, u) ∧ X r u) (fun u t => gB D cI cJ A (WS u) t) A
def gQz {S : Type} (D : va_G) (cI cJ : ClassId) (F : Bool × S) (X : Bool → S → Prop) (WS : S → va_W) (A : Nat → Prop) : Array Value → State → Outcome → State → Prop := va_Qi (fun r (u : Bool × S) => r = bI u.1 ∧ F = u ∧ X u.1 u.2) (fun u t => gB D cI cJ A (WS u.2) t) A
def gQv {S : Type} (D : va_G) (cI cJ : ClassId) (F : S) (X : S → Prop) (WS : S → va_W) (A : Nat → Prop) : Array Value → State → Outcome → State → Prop := va_Qv (fun u => F = u ∧ X u) (fun u t => gB D cI cJ A (WS u) t) A
def gQn {S : Type} (D : va_G) (cI cJ : ClassId) (WS : S → va_W) (A : Nat → Prop) : Array Value → State → Outcome → State → Prop := va_Qv (fun _ => True) (fun u t => gB D cI cJ A (WS u) t) A
theorem g_met {l : Launch} {y : MethodName} {ws ws' : List Cond} {rm : Room} {D : va_G} {cI cJ : ClassId} {av : List Value} {WS : va_W} {sz : Nat} {Qc : (Nat → Prop) → Array Value → State → Outcome → State → Prop} {mc ms : Nat} {cc : ByteArray} {maxL : Nat} {ret : Option FieldType}
    (hy : plainName y.cls = true) (hw : ws = Cond.code y cc maxL ret :: ws') (hn : (lg_sl av).length ≤ maxL)
    (body : ∀ (A : Nat → Prop) (p : Program) (e : Env) (s : State) (m : MethodId) (below : List Frame) (meth : Method) (c : Code), p.tables.exec = Jvm.exec → c.code = cc → meth.sig.returnType = ret → c.maxLocals = maxL → (∀ w ∈ ws, w.before av.toArray s = true) → s.vm.findClass y.cls = some m.cls → meth.locks = false → meth.name = y.name →
      va_P D vwCl WS s.heap → va_K D vwCl [(cI, .int), (cJ, .long)] s → va_D A WS → gE A s s.heap → (∀ q, s.heap.size ≤ q → A q) → va_S A s.heap s.heap [] → ∀ ls : Array Slot, lv_has ls maxL (lv_args 0 av) →
      W p l e rm s m av.toArray below meth c s.heap [] 0 0 (MQ below (Qc A) av.toArray s mc ms A) (F0 m 0 ls [])) :
    Met l y ws rm (gPc D cI cJ av WS sz) (Qc (va_A WS sz)) mc ms (va_A WS sz) := by
  refine Met.ofW (cc := cc) (maxL := maxL) (ret := ret) hy hw ?_
  intro p e s m args below meth c s₁ B hml hv
  obtain ⟨rfl, hsz, hP, hK, hD0, hE⟩ := hv
  subst hsz
  have hl := lv_entry av (n := maxL) hn
  rw [lg_entry_eq]
  exact body (va_A WS s.heap.size) p e s m below meth c B.exec B.bytes B.returns hml (atoms_spec (ws := ws) B.pre) (findClass_of_methodNamed B.named) B.notSynchronized (name_of_methodNamed B.named B.method).1 hP hK (hD0.self (sz := s.heap.size)) hE (fun q h => Or.inr h) va_S.rf _ hl
section GW
variable {p : Program} {l : Launch} {e : Env} {R : Room} {s : State} {m : MethodId} {args : Array Value} {below : List Frame} {meth : Method} {c : Code} {H : Heap} {locs : List Loc} {cells slots : Nat} {Q : State → Prop}
variable {cc : ByteArray} {pc : Nat} {ls : Array Slot} {D : va_G} {cI cJ : ClassId} {A : Nat → Prop} {ws : va_W}
def gAt (p : Program) (l : Launch) (e : Env) (R : Room) (s : State) (m : MethodId) (args : Array Value) (below : List Frame) (meth : Method) (c : Code) (cells slots : Nat) (Q : State → Prop) (D : va_G) (A : Nat → Prop) (nL : Nat) (ws : va_W) (lv : List (Nat × Value)) (pc : Nat) (st : List Value) : Prop :=
  ∀ (H : Heap) (locs : List Loc) (ls : Array Slot), va_P D vwCl ws H → va_D A ws → va_S A s.heap H locs → lv_has ls nL lv → W p l e R s m args below meth c H locs cells slots Q (F0 m pc ls st)
theorem g_iret {S : Type} {F : Int32 × S} {X : Int32 → S → Prop} {WS : S → va_W} {v : Int32} (u : S) (hx : p.tables.exec = Jvm.exec) (hb : c.code = cc) (hr : meth.sig.returnType = some .int) (hlk : meth.locks = false) (hP : va_P D vwCl ws H) (hK : va_K D vwCl [(cI, .int), (cJ, .long)] s) (hD : va_D A ws) (hS : va_S A s.heap H locs) (hF : F = (v, u)) (hX : X v u) (hw : WS u = ws) (hdg : decode cc pc = .ok (.ireturn, 1)) :
    W p l e R s m args below meth c H locs cells slots (MQ below (gQi D cI cJ F X WS A) args s cells slots A) (F0 m pc ls [.int v]) := by
  subst hw
  exact W.iret hx hb hr (fun t ht hW => ⟨⟨v, u, rfl, ⟨hF, hX⟩, by rw [ht]; exact hP, va_K.moved hW.alike hK, hD⟩, hS.F ht⟩) hS.2.2 hdg hlk
theorem g_lret {S : Type} {F : Int64 × S} {X : Int64 → S → Prop} {WS : S → va_W} {v : Int64} (u : S) (hx : p.tables.exec = Jvm.exec) (hb : c.code = cc) (hr : meth.sig.returnType = some .long) (hlk : meth.locks = false) (hP : va_P D vwCl ws H) (hK : va_K D vwCl [(cI, .int), (cJ, .long)] s) (hD : va_D A ws) (hS : va_S A s.heap H locs) (hF : F = (v, u)) (hX : X v u) (hw : WS u = ws) (hdg : decode cc pc = .ok (.lreturn, 1)) :
    W p l e R s m args below meth c H locs cells slots (MQ below (gQl D cI cJ F X WS A) args s cells slots A) (F0 m pc ls [.long v]) := by
  subst hw
  exact W.lret hx hb hr (fun t ht hW => ⟨⟨v, u, rfl, ⟨hF, hX⟩, by rw [ht]; exact hP, va_K.moved hW.alike hK, hD⟩, hS.F ht⟩) hS.2.2 hdg hlk
theorem g_zret {S : Type} {F : Bool × S} {X : Bool → S → Prop} {WS : S → va_W} (v : Bool) (u : S) (hx : p.tables.exec = Jvm.exec) (hb : c.code = cc) (hr : meth.sig.returnType = some .boolean) (hlk : meth.locks = false) (hP : va_P D vwCl ws H) (hK : va_K D vwCl [(cI, .int), (cJ, .long)] s) (hD : va_D A ws) (hS : va_S A s.heap H locs) (hF : F = (v, u)) (hX : X v u) (hw : WS u = ws) (hdg : decode cc pc = .ok (.ireturn, 1)) :
    W p l e R s m args below meth c H locs cells slots (MQ below (gQz D cI cJ F X WS A) args s cells slots A) (F0 m pc ls [.int (bI v)]) := by
  subst hw
  exact W.zret hx hb hr (bI_nar v) (fun t ht hW => ⟨⟨bI v, (v, u), rfl, ⟨rfl, hF, hX⟩, by rw [ht]; exact hP, va_K.moved hW.alike hK, hD⟩, hS.F ht⟩) hS.2.2 hdg hlk
theorem g_vret {S : Type} {F : S} {X : S → Prop} {WS : S → va_W} (u : S) (hx : p.tables.exec = Jvm.exec) (hb : c.code = cc) (hr : meth.sig.returnType = none) (hlk : meth.locks = false) (hP : va_P D vwCl ws H) (hK : va_K D vwCl [(cI, .int), (cJ, .long)] s) (hD : va_D A ws) (hS : va_S A s.heap H locs) (hF : F = u) (hX : X u) (hw : WS u = ws) (hdg : decode cc pc = .ok (.return_, 1)) :
    W p l e R s m args below meth c H locs cells slots (MQ below (gQv D cI cJ F X WS A) args s cells slots A) (F0 m pc ls []) := by
  subst hw
  exact W.vret hx hb hr (fun t ht hW => ⟨⟨u, rfl, ⟨hF, hX⟩, by rw [ht]; exact hP, va_K.moved hW.alike hK, hD⟩, hS.F ht⟩) hS.2.2 hdg hlk
theorem g_nret {S : Type} {WS : S → va_W} (u : S) (hx : p.tables.exec = Jvm.exec) (hb : c.code = cc) (hr : meth.sig.returnType = none) (hlk : meth.locks = false) (hP : va_P D vwCl ws H) (hK : va_K D vwCl [(cI, .int), (cJ, .long)] s) (hD : va_D A ws) (hS : va_S A s.heap H locs) (hw : WS u = ws) (hdg : decode cc pc = .ok (.return_, 1)) :
    W p l e R s m args below meth c H locs cells slots (MQ below (gQn D cI cJ WS A) args s cells slots A) (F0 m pc ls []) := by
  subst hw
  exact W.vret hx hb hr (fun t ht hW => ⟨⟨u, rfl, trivial, by rw [ht]; exact hP, va_K.moved hW.alike hK, hD⟩, hS.F ht⟩) hS.2.2 hdg hlk
/-! long compares with their branch -/
theorem lgc_eq (x y : Int64) : lg_cmp x y = 0 ↔ x = y := by
  unfold lg_cmp
  by_cases h1 : x > y
  · rw [if_pos h1]
    exact ⟨fun h => absurd h (by decide), fun h => by subst h; exact absurd h1 (Int64.lt_irrefl)⟩
  · rw [if_neg h1]
    by_cases h2 : x = y
    · rw [if_pos h2]; exact ⟨fun _ => h2, fun _ => rfl⟩
    · rw [if_neg h2]; exact ⟨fun h => absurd h (by decide), fun h => absurd h h2⟩
theorem lgc_gt (x y : Int64) : 0 < lg_cmp x y ↔ y < x := by
  unfold lg_cmp
  by_cases h1 : x > y
  · rw [if_pos h1]; exact ⟨fun _ => h1, fun _ => by decide⟩
  · rw [if_neg h1]
    by_cases h2 : x = y
    · rw [if_pos h2]; exact ⟨fun h => absurd h (by decide), fun h => absurd h h1⟩
    · rw [if_neg h2]; exact ⟨fun h => absurd h (by decide), fun h => absurd h h1⟩
theorem lgc_lt (x y : Int64) : lg_cmp x y < 0 ↔ x < y := by
  unfold lg_cmp
  by_cases h1 : x > y
  · rw [if_pos h1]
    refine ⟨fun h => absurd h (by decide), fun h => ?_⟩
    have h1' : y < x := h1
    rw [Int64.lt_iff_toInt_lt] at h h1'
    omega
  · rw [if_neg h1]
    by_cases h2 : x = y
    · rw [if_pos h2]
      refine ⟨fun h => absurd h (by decide), fun h => ?_⟩
      subst h2
      rw [Int64.lt_iff_toInt_lt] at h
      omega
    · rw [if_neg h2]
      refine ⟨fun _ => ?_, fun _ => by decide⟩
      have h1' : ¬ y < x := h1
      rw [Int64.lt_iff_toInt_lt] at h1' ⊢
      have h3 : ¬ x.toInt = y.toInt := fun q => h2 (Int64.toInt_inj.mp q)
      omega
theorem lgc_le (x y : Int64) : lg_cmp x y ≤ 0 ↔ x ≤ y := by
  have h := lgc_gt x y
  have h1 : lg_cmp x y ≤ 0 ↔ ¬ 0 < lg_cmp x y := by
    rw [Int32.le_iff_toInt_le, Int32.lt_iff_toInt_lt]; omega
  have h2 : x ≤ y ↔ ¬ y < x := by
    rw [Int64.le_iff_toInt_le, Int64.lt_iff_toInt_lt]; omega
  rw [h1, h2, h]
theorem lgc_ge (x y : Int64) : 0 ≤ lg_cmp x y ↔ y ≤ x := by
  have h := lgc_lt x y
  have h1 : 0 ≤ lg_cmp x y ↔ ¬ lg_cmp x y < 0 := by
    rw [Int32.le_iff_toInt_le, Int32.lt_iff_toInt_lt]; omega
  have h2 : y ≤ x ↔ ¬ x < y := by
    rw [Int64.le_iff_toInt_le, Int64.lt_iff_toInt_lt]; omega
  rw [h1, h2, h]
variable {rest : List Value} {off : Int} {tgt : Nat} {x y : Int64}
theorem g_irem (hexec : p.tables.exec = Jvm.exec) (hb : c.code = cc) {x y : Int32} (hdg : decode cc pc = .ok (.irem, 1)) (hne : ¬ y = 0) (k : W p l e R s m args below meth c H locs cells slots Q (F0 m (pc + 1) ls (.int (gRemI x y) :: rest))) : W p l e R s m args below meth c H locs cells slots Q (F0 m pc ls (.int y :: .int x :: rest)) := lv_irem hexec hb hdg hne k
theorem g_lrem (hexec : p.tables.exec = Jvm.exec) (hb : c.code = cc) (hdg : decode cc pc = .ok (.lrem, 1)) (hne : ¬ y = 0) (k : W p l e R s m args below meth c H locs cells slots Q (F0 m (pc + 1) ls (.long (gRemL x y) :: rest))) : W p l e R s m args below meth c H locs cells slots Q (F0 m pc ls (.long y :: .long x :: rest)) := lv_lrem hexec hb hdg hne k
theorem g_l_eq (hexec : p.tables.exec = Jvm.exec) (hb : c.code = cc) (hdc : decode cc pc = .ok (.lcmp, 1)) (hdg : decode cc (pc + 1) = .ok (.ifCond .eq off, 3)) (ht : ((pc + 1 : Nat) : Int) + off = (tgt : Int)) (kt : x = y → W p l e R s m args below meth c H locs cells slots Q (F0 m tgt ls rest)) (kf : ¬ x = y → W p l e R s m args below meth c H locs cells slots Q (F0 m (pc + 4) ls rest)) : W p l e R s m args below meth c H locs cells slots Q (F0 m pc ls (.long y :: .long x :: rest)) :=
  W.lcmp hexec hb hdc (lv_if_eq hexec hb hdg ht (fun h => kt ((lgc_eq x y).mp h)) (fun h => kf (fun q => h ((lgc_eq x y).mpr q))))
theorem g_l_ne (hexec : p.tables.exec = Jvm.exec) (hb : c.code = cc) (hdc : decode cc pc = .ok (.lcmp, 1)) (hdg : decode cc (pc + 1) = .ok (.ifCond .ne off, 3)) (ht : ((pc + 1 : Nat) : Int) + off = (tgt : Int)) (kt : ¬ x = y → W p l e R s m args below meth c H locs cells slots Q (F0 m tgt ls rest)) (kf : x = y → W p l e R s m args below meth c H locs cells slots Q (F0 m (pc + 4) ls rest)) : W p l e R s m args below meth c H locs cells slots Q (F0 m pc ls (.long y :: .long x :: rest)) :=
  W.lcmp hexec hb hdc (lv_if_ne hexec hb hdg ht (fun h => kt (fun q => h ((lgc_eq x y).mpr q))) (fun h => kf ((lgc_eq x y).mp h)))
theorem g_l_lt (hexec : p.tables.exec = Jvm.exec) (hb : c.code = cc) (hdc : decode cc pc = .ok (.lcmp, 1)) (hdg : decode cc (pc + 1) = .ok (.ifCond .lt off, 3)) (ht : ((pc + 1 : Nat) : Int) + off = (tgt : Int)) (kt : x < y → W p l e R s m args below meth c H locs cells slots Q (F0 m tgt ls rest)) (kf : ¬ x < y → W p l e R s m args below meth c H locs cells slots Q (F0 m (pc + 4) ls rest)) : W p l e R s m args below meth c H locs cells slots Q (F0 m pc ls (.long y :: .long x :: rest)) :=
  W.lcmp hexec hb hdc (lv_if_lt hexec hb hdg ht (fun h => kt ((lgc_lt x y).mp h)) (fun h => kf (fun q => h ((lgc_lt x y).mpr q))))
theorem g_l_ge (hexec : p.tables.exec = Jvm.exec) (hb : c.code = cc) (hdc : decode cc pc = .ok (.lcmp, 1)) (hdg : decode cc (pc + 1) = .ok (.ifCond .ge off, 3)) (ht : ((pc + 1 : Nat) : Int) + off = (tgt : Int)) (kt : y ≤ x → W p l e R s m args below meth c H locs cells slots Q (F0 m tgt ls rest)) (kf : ¬ y ≤ x → W p l e R s m args below meth c H locs cells slots Q (F0 m (pc + 4) ls rest)) : W p l e R s m args below meth c H locs cells slots Q (F0 m pc ls (.long y :: .long x :: rest)) :=
  W.lcmp hexec hb hdc (lv_if_ge hexec hb hdg ht (fun h => kt ((lgc_ge x y).mp h)) (fun h => kf (fun q => h ((lgc_ge x y).mpr q))))
theorem g_l_gt (hexec : p.tables.exec = Jvm.exec) (hb : c.code = cc) (hdc : decode cc pc = .ok (.lcmp, 1)) (hdg : decode cc (pc + 1) = .ok (.ifCond .gt off, 3)) (ht : ((pc + 1 : Nat) : Int) + off = (tgt : Int)) (kt : y < x → W p l e R s m args below meth c H locs cells slots Q (F0 m tgt ls rest)) (kf : ¬ y < x → W p l e R s m args below meth c H locs cells slots Q (F0 m (pc + 4) ls rest)) : W p l e R s m args below meth c H locs cells slots Q (F0 m pc ls (.long y :: .long x :: rest)) :=
  W.lcmp hexec hb hdc (lv_if_gt hexec hb hdg ht (fun h => kt ((lgc_gt x y).mp h)) (fun h => kf (fun q => h ((lgc_gt x y).mpr q))))
theorem g_l_le (hexec : p.tables.exec = Jvm.exec) (hb : c.code = cc) (hdc : decode cc pc = .ok (.lcmp, 1)) (hdg : decode cc (pc + 1) = .ok (.ifCond .le off, 3)) (ht : ((pc + 1 : Nat) : Int) + off = (tgt : Int)) (kt : x ≤ y → W p l e R s m args below meth c H locs cells slots Q (F0 m tgt ls rest)) (kf : ¬ x ≤ y → W p l e R s m args below meth c H locs cells slots Q (F0 m (pc + 4) ls rest)) : W p l e R s m args below meth c H locs cells slots Q (F0 m pc ls (.long y :: .long x :: rest)) :=
  W.lcmp hexec hb hdc (lv_if_le hexec hb hdg ht (fun h => kt ((lgc_le x y).mp h)) (fun h => kf (fun q => h ((lgc_le x y).mpr q))))
end GW
