/-! calls over the worlds of this claim: the callee's cells are cut out, and put back *behind* the rest -/
theorem g_fm {α β : Type} {f : α → Option β} : ∀ {l : List α} {l' : List β}, l.map f = l'.map some → l.filterMap f = l'
  | [], [], _ => rfl
  | [], _ :: _, h => by cases h
  | _ :: _, [], h => by cases h
  | a :: l, b :: l', h => by
    have h1 : f a = some b := (List.cons.inj h).1
    have h2 : l.map f = l'.map some := (List.cons.inj h).2
    rw [List.filterMap_cons_some h1, g_fm h2]
section GC
variable {p : Program} {l : Launch} {e : Env} {R : Room} {s : State} {m : MethodId} {args : Array Value} {below : List Frame} {meth : Method} {c : Code} {H : Heap} {locs : List Loc} {cells slots : Nat} {Q : State → Prop}
variable {cc : ByteArray} {pc nL : Nat} {ls : Array Slot} {D : va_G} {cI cJ : ClassId} {A : Nat → Prop} {ws wc wr : va_W} {Ts wsM : List Cond} {own C host : String} {y : MethodName} {rm : Room} {index n maxL : Nat} {bytes : ByteArray} {ret : Option FieldType} {b : Nat} {As rest st0 : List Value} {lv : List (Nat × Value)} {isC : List Nat}
theorem g_perm {ws' : va_W} (is : List Nat) (hn : va_nd is = true) (hs : is.map (fun i => ws[i]?) = ws'.map some) (hP : va_P D vwCl ws H) (hD : va_D A ws) : va_P D vwCl ws' H ∧ va_D A ws' := ⟨hP.sub is (g_fm hs), hD.sub is hn hs⟩
theorem g_re {ws' : va_W} (h : ws = ws') (hP : va_P D vwCl ws H) (hD : va_D A ws) : va_P D vwCl ws' H ∧ va_D A ws' := by
  subst h
  exact ⟨hP, hD⟩
theorem g_all {β : Type} : ∀ (l : List (Option β)), l.all Option.isSome = true → l = (l.filterMap id).map some
  | [], _ => rfl
  | none :: _, h => by cases h
  | some a :: l, h => by
    have h2 : l.all Option.isSome = true := by simpa using h
    show some a :: l = some a :: ((l.filterMap id).map some)
    rw [← g_all l h2]
theorem g_pre (hP : va_P D vwCl ws H) (hD : va_D A ws) (hK : va_K D vwCl [(cI, .int), (cJ, .long)] s) (hS : va_S A s.heap H locs) (hA : ∀ q, s.heap.size ≤ q → A q) (hE : gE A s s.heap) (hn : va_nd isC = true) (hC : isC.map (fun i => ws[i]?) = wc.map some) (av : List Value) :
    (∀ q, va_A wc H.size q → A q) ∧ ∀ U : State, U.heap = H → s.WarmedH U.vm → gPc D cI cJ av wc H.size av.toArray U := by
  have hF := va_free (wc := wc) hD hS hA isC hC
  refine ⟨hF, fun U hU hW => ⟨rfl, by rw [hU], by rw [hU]; exact hP.sub isC (g_fm hC), va_K.moved hW.alike hK, (hD.sub isC hn hC).weaken (fun _ _ _ _ => trivial), hE.call hS hF hU hW⟩⟩

theorem g_cvi {S : Type} {F : Int32 × S} {X : Int32 → S → Prop} {WS : S → va_W} (S0 : CallFix p m c cc nL s args Ts own) (hP : va_P D vwCl ws H) (hD : va_D A ws) (hK : va_K D vwCl [(cI, .int), (cJ, .long)] s) (hS : va_S A s.heap H locs) (hA : ∀ q, s.heap.size ≤ q → A q) (hE : gE A s s.heap)
    (hM : Met l y wsM rm (gPc D cI cJ (.ref b :: As) wc H.size) (gQi D cI cJ F X WS (va_A wc H.size)) 0 0 (va_A wc H.size)) (cw : CallW R s args own C index y bytes maxL ret wsM rm 0 0 n) (isC isR : List Nat) (hnc : va_nd isC = true) (hnr : va_nd isR = true) (hdis : (isR.all fun i => !isC.contains i) = true) (hC : isC.map (fun i => ws[i]?) = wc.map some) (hR : (isR.map (fun i => ws[i]?)).all Option.isSome = true) (ci q0 : Nat) {T : u_T} {N : Nat} {fs : List Value} (hc : vwCl[ci]? = some (C, T, N)) (he : ws[q0]? = some (b, .inr (ci, fs))) (hAs : As.length = n) (hl : lv_has ls nL lv) (hst : As.reverse ++ .ref b :: rest = st0) (hW : (rest.map fun v => v.category).sum ≤ 8) (hcs : cells ≤ R.cells ∧ slots ≤ R.slots) (hdg : decode cc pc = .ok (.invokevirtual index, 3))
    (kk : ∀ (r : Int32) (u : S) (H1 : Heap) (locs1 : List Loc), F = (r, u) → X r u → va_P D vwCl ((isR.map (fun i => ws[i]?)).filterMap id ++ WS u) H1 → va_D A ((isR.map (fun i => ws[i]?)).filterMap id ++ WS u) → va_S A s.heap H1 locs1 → W p l e R s m args below meth c H1 locs1 cells slots Q (F0 m (pc + 3) ls (.int r :: rest))) : W p l e R s m args below meth c H locs cells slots Q (F0 m pc ls st0) := by
  subst hst
  obtain ⟨hF, hpre⟩ := g_pre hP hD hK hS hA hE hnc hC (.ref b :: As)
  refine va_calli (va_runV (As := As) (rest := rest) S0 hM cw ⟨gPc.blind, va_recv hK hP hc he, hpre⟩ rfl hAs hl.1 rfl (lv_room hW) hdg hcs) hS (fun q _ h => hF q h) hF ?_
  intro r u t H1 locs1 ht hvm hw hB hz1 hk1 hS1
  obtain ⟨hw, hX⟩ := hw
  obtain ⟨hP1, hK1, hD1⟩ := hB
  rw [ht] at hP1
  obtain ⟨hP2, hD2⟩ := va_join hP hD isC isR hC (g_all _ hR) hnr (fun i hi hi2 => by have h3 := List.all_eq_true.mp hdis i hi; simp [List.contains_iff_mem, hi2] at h3) hk1 hF hP1 hD1
  exact kk r u H1 locs1 hw hX hP2 hD2 hS1
theorem g_cvl {S : Type} {F : Int64 × S} {X : Int64 → S → Prop} {WS : S → va_W} (S0 : CallFix p m c cc nL s args Ts own) (hP : va_P D vwCl ws H) (hD : va_D A ws) (hK : va_K D vwCl [(cI, .int), (cJ, .long)] s) (hS : va_S A s.heap H locs) (hA : ∀ q, s.heap.size ≤ q → A q) (hE : gE A s s.heap)
    (hM : Met l y wsM rm (gPc D cI cJ (.ref b :: As) wc H.size) (gQl D cI cJ F X WS (va_A wc H.size)) 0 0 (va_A wc H.size)) (cw : CallW R s args own C index y bytes maxL ret wsM rm 0 0 n) (isC isR : List Nat) (hnc : va_nd isC = true) (hnr : va_nd isR = true) (hdis : (isR.all fun i => !isC.contains i) = true) (hC : isC.map (fun i => ws[i]?) = wc.map some) (hR : (isR.map (fun i => ws[i]?)).all Option.isSome = true) (ci q0 : Nat) {T : u_T} {N : Nat} {fs : List Value} (hc : vwCl[ci]? = some (C, T, N)) (he : ws[q0]? = some (b, .inr (ci, fs))) (hAs : As.length = n) (hl : lv_has ls nL lv) (hst : As.reverse ++ .ref b :: rest = st0) (hW : (rest.map fun v => v.category).sum ≤ 8) (hcs : cells ≤ R.cells ∧ slots ≤ R.slots) (hdg : decode cc pc = .ok (.invokevirtual index, 3))
    (kk : ∀ (r : Int64) (u : S) (H1 : Heap) (locs1 : List Loc), F = (r, u) → X r u → va_P D vwCl ((isR.map (fun i => ws[i]?)).filterMap id ++ WS u) H1 → va_D A ((isR.map (fun i => ws[i]?)).filterMap id ++ WS u) → va_S A s.heap H1 locs1 → W p l e R s m args below meth c H1 locs1 cells slots Q (F0 m (pc + 3) ls (.long r :: rest))) : W p l e R s m args below meth c H locs cells slots Q (F0 m pc ls st0) := by
  subst hst
  obtain ⟨hF, hpre⟩ := g_pre hP hD hK hS hA hE hnc hC (.ref b :: As)
  refine va_calll (va_runV (As := As) (rest := rest) S0 hM cw ⟨gPc.blind, va_recv hK hP hc he, hpre⟩ rfl hAs hl.1 rfl (lv_room hW) hdg hcs) hS (fun q _ h => hF q h) hF ?_
  intro r u t H1 locs1 ht hvm hw hB hz1 hk1 hS1
  obtain ⟨hw, hX⟩ := hw
  obtain ⟨hP1, hK1, hD1⟩ := hB
  rw [ht] at hP1
  obtain ⟨hP2, hD2⟩ := va_join hP hD isC isR hC (g_all _ hR) hnr (fun i hi hi2 => by have h3 := List.all_eq_true.mp hdis i hi; simp [List.contains_iff_mem, hi2] at h3) hk1 hF hP1 hD1
  exact kk r u H1 locs1 hw hX hP2 hD2 hS1
theorem g_cvz {S : Type} {F : Bool × S} {X : Bool → S → Prop} {WS : S → va_W} (S0 : CallFix p m c cc nL s args Ts own) (hP : va_P D vwCl ws H) (hD : va_D A ws) (hK : va_K D vwCl [(cI, .int), (cJ, .long)] s) (hS : va_S A s.heap H locs) (hA : ∀ q, s.heap.size ≤ q → A q) (hE : gE A s s.heap)
    (hM : Met l y wsM rm (gPc D cI cJ (.ref b :: As) wc H.size) (gQz D cI cJ F X WS (va_A wc H.size)) 0 0 (va_A wc H.size)) (cw : CallW R s args own C index y bytes maxL ret wsM rm 0 0 n) (isC isR : List Nat) (hnc : va_nd isC = true) (hnr : va_nd isR = true) (hdis : (isR.all fun i => !isC.contains i) = true) (hC : isC.map (fun i => ws[i]?) = wc.map some) (hR : (isR.map (fun i => ws[i]?)).all Option.isSome = true) (ci q0 : Nat) {T : u_T} {N : Nat} {fs : List Value} (hc : vwCl[ci]? = some (C, T, N)) (he : ws[q0]? = some (b, .inr (ci, fs))) (hAs : As.length = n) (hl : lv_has ls nL lv) (hst : As.reverse ++ .ref b :: rest = st0) (hW : (rest.map fun v => v.category).sum ≤ 8) (hcs : cells ≤ R.cells ∧ slots ≤ R.slots) (hdg : decode cc pc = .ok (.invokevirtual index, 3))
    (kk : ∀ (r : Bool) (u : S) (H1 : Heap) (locs1 : List Loc), F = (r, u) → X r u → va_P D vwCl ((isR.map (fun i => ws[i]?)).filterMap id ++ WS u) H1 → va_D A ((isR.map (fun i => ws[i]?)).filterMap id ++ WS u) → va_S A s.heap H1 locs1 → W p l e R s m args below meth c H1 locs1 cells slots Q (F0 m (pc + 3) ls (.int (bI r) :: rest))) : W p l e R s m args below meth c H locs cells slots Q (F0 m pc ls st0) := by
  subst hst
  obtain ⟨hF, hpre⟩ := g_pre hP hD hK hS hA hE hnc hC (.ref b :: As)
  refine va_calli (va_runV (As := As) (rest := rest) S0 hM cw ⟨gPc.blind, va_recv hK hP hc he, hpre⟩ rfl hAs hl.1 rfl (lv_room hW) hdg hcs) hS (fun q _ h => hF q h) hF ?_
  intro r u t H1 locs1 ht hvm hw hB hz1 hk1 hS1
  obtain ⟨rb, u⟩ := u
  obtain ⟨hw0, hw⟩ := hw
  dsimp only at hw0
  subst hw0
  obtain ⟨hw, hX⟩ := hw
  obtain ⟨hP1, hK1, hD1⟩ := hB
  rw [ht] at hP1
  obtain ⟨hP2, hD2⟩ := va_join hP hD isC isR hC (g_all _ hR) hnr (fun i hi hi2 => by have h3 := List.all_eq_true.mp hdis i hi; simp [List.contains_iff_mem, hi2] at h3) hk1 hF hP1 hD1
  exact kk rb u H1 locs1 hw hX hP2 hD2 hS1
theorem g_cvv {S : Type} {F : S} {X : S → Prop} {WS : S → va_W} (S0 : CallFix p m c cc nL s args Ts own) (hP : va_P D vwCl ws H) (hD : va_D A ws) (hK : va_K D vwCl [(cI, .int), (cJ, .long)] s) (hS : va_S A s.heap H locs) (hA : ∀ q, s.heap.size ≤ q → A q) (hE : gE A s s.heap)
    (hM : Met l y wsM rm (gPc D cI cJ (.ref b :: As) wc H.size) (gQv D cI cJ F X WS (va_A wc H.size)) 0 0 (va_A wc H.size)) (cw : CallW R s args own C index y bytes maxL ret wsM rm 0 0 n) (isC isR : List Nat) (hnc : va_nd isC = true) (hnr : va_nd isR = true) (hdis : (isR.all fun i => !isC.contains i) = true) (hC : isC.map (fun i => ws[i]?) = wc.map some) (hR : (isR.map (fun i => ws[i]?)).all Option.isSome = true) (ci q0 : Nat) {T : u_T} {N : Nat} {fs : List Value} (hc : vwCl[ci]? = some (C, T, N)) (he : ws[q0]? = some (b, .inr (ci, fs))) (hAs : As.length = n) (hl : lv_has ls nL lv) (hst : As.reverse ++ .ref b :: rest = st0) (hW : (rest.map fun v => v.category).sum ≤ 8) (hcs : cells ≤ R.cells ∧ slots ≤ R.slots) (hdg : decode cc pc = .ok (.invokevirtual index, 3))
    (kk : ∀ (u : S) (H1 : Heap) (locs1 : List Loc), F = u → X u → va_P D vwCl ((isR.map (fun i => ws[i]?)).filterMap id ++ WS u) H1 → va_D A ((isR.map (fun i => ws[i]?)).filterMap id ++ WS u) → va_S A s.heap H1 locs1 → W p l e R s m args below meth c H1 locs1 cells slots Q (F0 m (pc + 3) ls (rest))) : W p l e R s m args below meth c H locs cells slots Q (F0 m pc ls st0) := by
  subst hst
  obtain ⟨hF, hpre⟩ := g_pre hP hD hK hS hA hE hnc hC (.ref b :: As)
  refine va_callv (va_runV (As := As) (rest := rest) S0 hM cw ⟨gPc.blind, va_recv hK hP hc he, hpre⟩ rfl hAs hl.1 rfl (lv_room hW) hdg hcs) hS (fun q _ h => hF q h) hF ?_
  intro u t H1 locs1 ht hvm hw hB hz1 hk1 hS1
  obtain ⟨hw, hX⟩ := hw
  obtain ⟨hP1, hK1, hD1⟩ := hB
  rw [ht] at hP1
  obtain ⟨hP2, hD2⟩ := va_join hP hD isC isR hC (g_all _ hR) hnr (fun i hi hi2 => by have h3 := List.all_eq_true.mp hdis i hi; simp [List.contains_iff_mem, hi2] at h3) hk1 hF hP1 hD1
  exact kk u H1 locs1 hw hX hP2 hD2 hS1
theorem g_csi {F : Int32 × Unit} {X : Int32 → Unit → Prop} (S0 : CallFix p m c cc nL s args Ts own) (hP : va_P D vwCl ws H) (hD : va_D A ws) (hK : va_K D vwCl [(cI, .int), (cJ, .long)] s) (hS : va_S A s.heap H locs) (hA : ∀ q, s.heap.size ≤ q → A q) (hE : gE A s s.heap)
    (hM : Met l y wsM rm (gPc D cI cJ As [] H.size) (gQi D cI cJ F X (fun _ => []) (va_A [] H.size)) 0 0 (va_A [] H.size)) (cw : CallB R s args own index y bytes maxL ret wsM rm 0 0 n ∧ (Cond.static y).before args s = true) (hAs : As.length = n) (hl : lv_has ls nL lv) (hst : As.reverse ++ rest = st0) (hW : (rest.map fun v => v.category).sum ≤ 8) (hcs : cells ≤ R.cells ∧ slots ≤ R.slots) (hdg : decode cc pc = .ok (.invokestatic index, 3))
    (kk : ∀ (r : Int32) (H1 : Heap) (locs1 : List Loc), F = (r, ()) → X r () → va_P D vwCl ws H1 → va_S A s.heap H1 locs1 → W p l e R s m args below meth c H1 locs1 cells slots Q (F0 m (pc + 3) ls (.int r :: rest))) : W p l e R s m args below meth c H locs cells slots Q (F0 m pc ls st0) := by
  subst hst
  obtain ⟨hF, hpre⟩ := g_pre (isC := []) (wc := []) hP hD hK hS hA hE rfl rfl As
  refine va_calli (va_runS (As := As) (rest := rest) S0 hM cw ⟨gPc.blind, hpre⟩ rfl hAs hl.1 rfl (lv_room hW) hdg hcs) hS (fun q _ h => hF q h) hF ?_
  intro r u t H1 locs1 ht hvm hw hB hz1 hk1 hS1
  obtain ⟨hw, hX⟩ := hw
  have hP2 : va_P D vwCl ws H1 := hP.kept (fun k q hq => hk1 q.1 ((hP k q hq).lt) (fun h => by
    rcases h with ⟨k2, e2, h⟩ | h
    · simp at h
    · exact absurd ((hP k q hq).lt) (Nat.not_lt.mpr h)))
  exact kk r H1 locs1 hw hX hP2 hS1
theorem g_csl {F : Int64 × Unit} {X : Int64 → Unit → Prop} (S0 : CallFix p m c cc nL s args Ts own) (hP : va_P D vwCl ws H) (hD : va_D A ws) (hK : va_K D vwCl [(cI, .int), (cJ, .long)] s) (hS : va_S A s.heap H locs) (hA : ∀ q, s.heap.size ≤ q → A q) (hE : gE A s s.heap)
    (hM : Met l y wsM rm (gPc D cI cJ As [] H.size) (gQl D cI cJ F X (fun _ => []) (va_A [] H.size)) 0 0 (va_A [] H.size)) (cw : CallB R s args own index y bytes maxL ret wsM rm 0 0 n ∧ (Cond.static y).before args s = true) (hAs : As.length = n) (hl : lv_has ls nL lv) (hst : As.reverse ++ rest = st0) (hW : (rest.map fun v => v.category).sum ≤ 8) (hcs : cells ≤ R.cells ∧ slots ≤ R.slots) (hdg : decode cc pc = .ok (.invokestatic index, 3))
    (kk : ∀ (r : Int64) (H1 : Heap) (locs1 : List Loc), F = (r, ()) → X r () → va_P D vwCl ws H1 → va_S A s.heap H1 locs1 → W p l e R s m args below meth c H1 locs1 cells slots Q (F0 m (pc + 3) ls (.long r :: rest))) : W p l e R s m args below meth c H locs cells slots Q (F0 m pc ls st0) := by
  subst hst
  obtain ⟨hF, hpre⟩ := g_pre (isC := []) (wc := []) hP hD hK hS hA hE rfl rfl As
  refine va_calll (va_runS (As := As) (rest := rest) S0 hM cw ⟨gPc.blind, hpre⟩ rfl hAs hl.1 rfl (lv_room hW) hdg hcs) hS (fun q _ h => hF q h) hF ?_
  intro r u t H1 locs1 ht hvm hw hB hz1 hk1 hS1
  obtain ⟨hw, hX⟩ := hw
  have hP2 : va_P D vwCl ws H1 := hP.kept (fun k q hq => hk1 q.1 ((hP k q hq).lt) (fun h => by
    rcases h with ⟨k2, e2, h⟩ | h
    · simp at h
    · exact absurd ((hP k q hq).lt) (Nat.not_lt.mpr h)))
  exact kk r H1 locs1 hw hX hP2 hS1
theorem g_csz {F : Bool × Unit} {X : Bool → Unit → Prop} (S0 : CallFix p m c cc nL s args Ts own) (hP : va_P D vwCl ws H) (hD : va_D A ws) (hK : va_K D vwCl [(cI, .int), (cJ, .long)] s) (hS : va_S A s.heap H locs) (hA : ∀ q, s.heap.size ≤ q → A q) (hE : gE A s s.heap)
    (hM : Met l y wsM rm (gPc D cI cJ As [] H.size) (gQz D cI cJ F X (fun _ => []) (va_A [] H.size)) 0 0 (va_A [] H.size)) (cw : CallB R s args own index y bytes maxL ret wsM rm 0 0 n ∧ (Cond.static y).before args s = true) (hAs : As.length = n) (hl : lv_has ls nL lv) (hst : As.reverse ++ rest = st0) (hW : (rest.map fun v => v.category).sum ≤ 8) (hcs : cells ≤ R.cells ∧ slots ≤ R.slots) (hdg : decode cc pc = .ok (.invokestatic index, 3))
    (kk : ∀ (r : Bool) (H1 : Heap) (locs1 : List Loc), F = (r, ()) → X r () → va_P D vwCl ws H1 → va_S A s.heap H1 locs1 → W p l e R s m args below meth c H1 locs1 cells slots Q (F0 m (pc + 3) ls (.int (bI r) :: rest))) : W p l e R s m args below meth c H locs cells slots Q (F0 m pc ls st0) := by
  subst hst
  obtain ⟨hF, hpre⟩ := g_pre (isC := []) (wc := []) hP hD hK hS hA hE rfl rfl As
  refine va_calli (va_runS (As := As) (rest := rest) S0 hM cw ⟨gPc.blind, hpre⟩ rfl hAs hl.1 rfl (lv_room hW) hdg hcs) hS (fun q _ h => hF q h) hF ?_
  intro r u t H1 locs1 ht hvm hw hB hz1 hk1 hS1
  obtain ⟨rb, u⟩ := u
  obtain ⟨hw0, hw⟩ := hw
  dsimp only at hw0
  subst hw0
  obtain ⟨hw, hX⟩ := hw
  have hP2 : va_P D vwCl ws H1 := hP.kept (fun k q hq => hk1 q.1 ((hP k q hq).lt) (fun h => by
    rcases h with ⟨k2, e2, h⟩ | h
    · simp at h
    · exact absurd ((hP k q hq).lt) (Nat.not_lt.mpr h)))
  exact kk rb H1 locs1 hw hX hP2 hS1
theorem g_cni {F : Int32 × Unit} {X : Int32 → Unit → Prop} (S0 : CallFix p m c cc nL s args Ts own) (hP : va_P D vwCl ws H) (hD : va_D A ws) (hK : va_K D vwCl [(cI, .int), (cJ, .long)] s) (hS : va_S A s.heap H locs) (hA : ∀ q, s.heap.size ≤ q → A q) (hE : gE A s s.heap)
    (hM : Met l y wsM rm (gPc D cI cJ As [] H.size) (gQi D cI cJ F X (fun _ => []) (va_A [] H.size)) 0 0 (va_A [] H.size)) (cw : va_CN R s args own index y host bytes maxL ret wsM rm 0 0 n ∧ (Cond.static y).before args s = true ∧ True) (hAs : As.length = n) (hl : lv_has ls nL lv) (hst : As.reverse ++ rest = st0) (hW : (rest.map fun v => v.category).sum ≤ 8) (hcs : cells ≤ R.cells ∧ slots ≤ R.slots) (hdg : decode cc pc = .ok (.invokestatic index, 3))
    (kk : ∀ (r : Int32) (H1 : Heap) (locs1 : List Loc), F = (r, ()) → X r () → va_P D vwCl ws H1 → va_S A s.heap H1 locs1 → W p l e R s m args below meth c H1 locs1 cells slots Q (F0 m (pc + 3) ls (.int r :: rest))) : W p l e R s m args below meth c H locs cells slots Q (F0 m pc ls st0) := by
  subst hst
  obtain ⟨hF, hpre⟩ := g_pre (isC := []) (wc := []) hP hD hK hS hA hE rfl rfl As
  refine va_calli (va_runSN (As := As) (rest := rest) S0 hM cw ⟨gPc.blind, hpre⟩ rfl hAs hl.1 rfl (lv_room hW) hdg hcs) hS (fun q _ h => hF q h) hF ?_
  intro r u t H1 locs1 ht hvm hw hB hz1 hk1 hS1
  obtain ⟨hw, hX⟩ := hw
  have hP2 : va_P D vwCl ws H1 := hP.kept (fun k q hq => hk1 q.1 ((hP k q hq).lt) (fun h => by
    rcases h with ⟨k2, e2, h⟩ | h
    · simp at h
    · exact absurd ((hP k q hq).lt) (Nat.not_lt.mpr h)))
  exact kk r H1 locs1 hw hX hP2 hS1
theorem g_cnl {F : Int64 × Unit} {X : Int64 → Unit → Prop} (S0 : CallFix p m c cc nL s args Ts own) (hP : va_P D vwCl ws H) (hD : va_D A ws) (hK : va_K D vwCl [(cI, .int), (cJ, .long)] s) (hS : va_S A s.heap H locs) (hA : ∀ q, s.heap.size ≤ q → A q) (hE : gE A s s.heap)
    (hM : Met l y wsM rm (gPc D cI cJ As [] H.size) (gQl D cI cJ F X (fun _ => []) (va_A [] H.size)) 0 0 (va_A [] H.size)) (cw : va_CN R s args own index y host bytes maxL ret wsM rm 0 0 n ∧ (Cond.static y).before args s = true ∧ True) (hAs : As.length = n) (hl : lv_has ls nL lv) (hst : As.reverse ++ rest = st0) (hW : (rest.map fun v => v.category).sum ≤ 8) (hcs : cells ≤ R.cells ∧ slots ≤ R.slots) (hdg : decode cc pc = .ok (.invokestatic index, 3))
    (kk : ∀ (r : Int64) (H1 : Heap) (locs1 : List Loc), F = (r, ()) → X r () → va_P D vwCl ws H1 → va_S A s.heap H1 locs1 → W p l e R s m args below meth c H1 locs1 cells slots Q (F0 m (pc + 3) ls (.long r :: rest))) : W p l e R s m args below meth c H locs cells slots Q (F0 m pc ls st0) := by
  subst hst
  obtain ⟨hF, hpre⟩ := g_pre (isC := []) (wc := []) hP hD hK hS hA hE rfl rfl As
  refine va_calll (va_runSN (As := As) (rest := rest) S0 hM cw ⟨gPc.blind, hpre⟩ rfl hAs hl.1 rfl (lv_room hW) hdg hcs) hS (fun q _ h => hF q h) hF ?_
  intro r u t H1 locs1 ht hvm hw hB hz1 hk1 hS1
  obtain ⟨hw, hX⟩ := hw
  have hP2 : va_P D vwCl ws H1 := hP.kept (fun k q hq => hk1 q.1 ((hP k q hq).lt) (fun h => by
    rcases h with ⟨k2, e2, h⟩ | h
    · simp at h
    · exact absurd ((hP k q hq).lt) (Nat.not_lt.mpr h)))
  exact kk r H1 locs1 hw hX hP2 hS1
theorem g_cnz {F : Bool × Unit} {X : Bool → Unit → Prop} (S0 : CallFix p m c cc nL s args Ts own) (hP : va_P D vwCl ws H) (hD : va_D A ws) (hK : va_K D vwCl [(cI, .int), (cJ, .long)] s) (hS : va_S A s.heap H locs) (hA : ∀ q, s.heap.size ≤ q → A q) (hE : gE A s s.heap)
    (hM : Met l y wsM rm (gPc D cI cJ As [] H.size) (gQz D cI cJ F X (fun _ => []) (va_A [] H.size)) 0 0 (va_A [] H.size)) (cw : va_CN R s args own index y host bytes maxL ret wsM rm 0 0 n ∧ (Cond.static y).before args s = true ∧ True) (hAs : As.length = n) (hl : lv_has ls nL lv) (hst : As.reverse ++ rest = st0) (hW : (rest.map fun v => v.category).sum ≤ 8) (hcs : cells ≤ R.cells ∧ slots ≤ R.slots) (hdg : decode cc pc = .ok (.invokestatic index, 3))
    (kk : ∀ (r : Bool) (H1 : Heap) (locs1 : List Loc), F = (r, ()) → X r () → va_P D vwCl ws H1 → va_S A s.heap H1 locs1 → W p l e R s m args below meth c H1 locs1 cells slots Q (F0 m (pc + 3) ls (.int (bI r) :: rest))) : W p l e R s m args below meth c H locs cells slots Q (F0 m pc ls st0) := by
  subst hst
  obtain ⟨hF, hpre⟩ := g_pre (isC := []) (wc := []) hP hD hK hS hA hE rfl rfl As
  refine va_calli (va_runSN (As := As) (rest := rest) S0 hM cw ⟨gPc.blind, hpre⟩ rfl hAs hl.1 rfl (lv_room hW) hdg hcs) hS (fun q _ h => hF q h) hF ?_
  intro r u t H1 locs1 ht hvm hw hB hz1 hk1 hS1
  obtain ⟨rb, u⟩ := u
  obtain ⟨hw0, hw⟩ := hw
  dsimp only at hw0
  subst hw0
  obtain ⟨hw, hX⟩ := hw
  have hP2 : va_P D vwCl ws H1 := hP.kept (fun k q hq => hk1 q.1 ((hP k q hq).lt) (fun h => by
    rcases h with ⟨k2, e2, h⟩ | h
    · simp at h
    · exact absurd ((hP k q hq).lt) (Nat.not_lt.mpr h)))
  exact kk rb H1 locs1 hw hX hP2 hS1
theorem gJoinW {α ρ : Type} {F : ρ} {M : (α → ρ) → ρ} {K : α → ρ} {g : JFrame} (wsf : α → va_W) (lvf : α → List (Nat × Value)) (j : Nat) (stf : α → List Value) (ji : α → Prop) (hF : F = gBind M K) (hl : lv_has ls nL lv) (hD : va_D A ws) (hP : va_P D vwCl ws H)
    (main : ∀ K' : α → ρ, (∀ v, ji v → F = K' v → gAt p l e R s m args below meth c cells slots Q D A nL (wsf v) (lvf v) j (stf v)) → F = M K' → W p l e R s m args below meth c H locs cells slots Q g)
    (cont : ∀ v, ji v → F = K v → gAt p l e R s m args below meth c cells slots Q D A nL (wsf v) (lvf v) j (stf v)) : W p l e R s m args below meth c H locs cells slots Q g := main K cont hF
theorem gLoopW {α β ρ : Type} {F : ρ} {f : (β → ρ) → Nat → α → ρ} {K : β → ρ} {N : Nat} {a0 : α} (wsf : α → va_W) (lvf : α → List (Nat × Value)) (hd : Nat) (wsx : β → va_W) (lvx : β → List (Nat × Value)) (ex : Nat) (xi : β → Prop) (inv : α → Prop) (μ : α → Nat) (hF : F = f K N a0) (h0 : inv a0) (hμ : μ a0 < N)
    (hP : va_P D vwCl (wsf a0) H) (hD : va_D A (wsf a0)) (hS : va_S A s.heap H locs) (hl : lv_has ls nL (lvf a0))
    (cont : ∀ v, xi v → F = K v → gAt p l e R s m args below meth c cells slots Q D A nL (wsx v) (lvx v) ex [])
    (body : ∀ (K' : β → ρ) (n : Nat), (∀ v, xi v → F = K' v → gAt p l e R s m args below meth c cells slots Q D A nL (wsx v) (lvx v) ex []) → (∀ w, inv w → μ w < n → F = f K' n w → gAt p l e R s m args below meth c cells slots Q D A nL (wsf w) (lvf w) hd []) → ∀ v, inv v → μ v < n + 1 → F = f K' (n + 1) v → gAt p l e R s m args below meth c cells slots Q D A nL (wsf v) (lvf v) hd []) :
    W p l e R s m args below meth c H locs cells slots Q (F0 m hd ls []) := by
  have key : ∀ (n : Nat) (v : α), inv v → μ v < n → F = f K n v → gAt p l e R s m args below meth c cells slots Q D A nL (wsf v) (lvf v) hd [] := by
    intro n
    induction n with
    | zero => intro v _ h; omega
    | succ n ih => intro v hi hm hf; exact body K n cont ih v hi hm hf
  exact key N a0 h0 hμ hF H locs ls hP hD hS hl
end GC
