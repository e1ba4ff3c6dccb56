/-! new objects and rows -/
section GN
variable {p : Program} {l : Launch} {e : Env} {R : Room} {s : State} {m : MethodId} {args : Array Value} {below : List Frame} {meth : Method} {c : Code} {H : Heap} {locs : List Loc} {cells slots : Nat} {Q : State → Prop}
variable {cc : ByteArray} {pc nL : Nat} {ls : Array Slot} {D : va_G} {cI cJ : ClassId} {A : Nat → Prop} {ws wc : va_W} {Ts wsM : List Cond} {own host : String} {y : MethodName} {rm : Room} {index n maxL mc ms : Nat} {bytes : ByteArray} {b : Nat} {rest st0 : List Value} {lv : List (Nat × Value)}
theorem g_sameI {cA : ClassId} (hK : va_K D vwCl ([(cI, .int), (cJ, .long)] ++ [(cA, .int)]) s) : cA = cI := by
  have h1 : s.vm.findClass ("[" ++ FieldType.int.toString) = some cI := (hK.2 0 (cI, .int) rfl).2
  have h2 : s.vm.findClass ("[" ++ FieldType.int.toString) = some cA := (hK.2 2 (cA, .int) rfl).2
  exact Option.some.inj (h2.symm.trans h1)
theorem g_sameJ {cA : ClassId} (hK : va_K D vwCl ([(cI, .int), (cJ, .long)] ++ [(cA, .long)]) s) : cA = cJ := by
  have h1 : s.vm.findClass ("[" ++ FieldType.long.toString) = some cJ := (hK.2 1 (cJ, .long) rfl).2
  have h2 : s.vm.findClass ("[" ++ FieldType.long.toString) = some cA := (hK.2 2 (cA, .long) rfl).2
  exact Option.some.inj (h2.symm.trans h1)
theorem g_newI (hexec : p.tables.exec = Jvm.exec) (hb : c.code = cc) (harr : (Cond.arrayClass .int).before args s = true) (hK : va_K D vwCl [(cI, .int), (cJ, .long)] s) (hP : va_P D vwCl ws H) (hD : va_D A ws) (hS : va_S A s.heap H locs) (hA : ∀ q, s.heap.size ≤ q → A q)
    {z : Int32} (N : Nat) (hn : ¬ z < 0) (hN : z.toNatClampNeg = N) (hbytes : N * componentBytes .int ≤ 536870912) (hcells : cells + 1 ≤ R.cells) (hslots : slots + N ≤ R.slots) (hdg : decode cc pc = .ok (.newarray .int, 2))
    (kk : ∀ (q : Nat) (H1 : Heap), va_P D vwCl (ws ++ [(q, .inl (cI, N, .inl (fun _ => 0)))]) H1 → va_D A (ws ++ [(q, .inl (cI, N, .inl (fun _ => 0)))]) → va_S A s.heap H1 locs →
      W p l e R s m args below meth c H1 locs (cells + 1) (slots + N) Q (F0 m (pc + 2) ls (.ref q :: rest))) : W p l e R s m args below meth c H locs cells slots Q (F0 m pc ls (.int z :: rest)) := by
  refine va_newa (atype := .int) (ty := .int) (a0 := (N, .inl (fun _ => 0))) hexec hb harr rfl hK hP hD hS hA (fun cA => by rw [vp_cell_i]; rfl) hn hN hbytes hcells hslots hdg (fun q cA H1 hK1 hP1 hD1 hS1 => ?_)
  obtain rfl := g_sameI hK1
  exact kk q H1 hP1 hD1 hS1
theorem g_newJ (hexec : p.tables.exec = Jvm.exec) (hb : c.code = cc) (harr : (Cond.arrayClass .long).before args s = true) (hK : va_K D vwCl [(cI, .int), (cJ, .long)] s) (hP : va_P D vwCl ws H) (hD : va_D A ws) (hS : va_S A s.heap H locs) (hA : ∀ q, s.heap.size ≤ q → A q)
    {z : Int32} (N : Nat) (hn : ¬ z < 0) (hN : z.toNatClampNeg = N) (hbytes : N * componentBytes .long ≤ 536870912) (hcells : cells + 1 ≤ R.cells) (hslots : slots + N ≤ R.slots) (hdg : decode cc pc = .ok (.newarray .long, 2))
    (kk : ∀ (q : Nat) (H1 : Heap), va_P D vwCl (ws ++ [(q, .inl (cJ, N, .inr (.inl (fun _ => 0))))]) H1 → va_D A (ws ++ [(q, .inl (cJ, N, .inr (.inl (fun _ => 0))))]) → va_S A s.heap H1 locs →
      W p l e R s m args below meth c H1 locs (cells + 1) (slots + N) Q (F0 m (pc + 2) ls (.ref q :: rest))) : W p l e R s m args below meth c H locs cells slots Q (F0 m pc ls (.int z :: rest)) := by
  refine va_newa (atype := .long) (ty := .long) (a0 := (N, .inr (.inl (fun _ => 0)))) hexec hb harr rfl hK hP hD hS hA (fun cA => by rw [vp_cell_l]; rfl) hn hN hbytes hcells hslots hdg (fun q cA H1 hK1 hP1 hD1 hS1 => ?_)
  obtain rfl := g_sameJ hK1
  exact kk q H1 hP1 hD1 hS1
theorem g_cin {S : Type} {WS : S → va_W} (S0 : CallFix p m c cc nL s args Ts own) (hP : va_P D vwCl ws H) (hD : va_D A ws) (hK : va_K D vwCl [(cI, .int), (cJ, .long)] s) (hS : va_S A s.heap H locs) (hA : ∀ q, s.heap.size ≤ q → A q) (hE : gE A s s.heap)
    (hM : Met l y wsM rm (gPc D cI cJ [.ref b] wc H.size) (gQn D cI cJ WS (va_A wc H.size)) mc ms (va_A wc H.size)) (cw : va_CN R s args own index y host bytes maxL none wsM rm mc ms 0 ∧ y.name = "<init>" ∧ (Cond.instanceMethod y).before args s = true) (isC isR : List Nat) (hnc : va_nd isC = true) (hnr : va_nd isR = true) (hdis : (isR.all fun i => !isC.contains i) = true) (hC : isC.map (fun i => ws[i]?) = wc.map some) (hR : (isR.map (fun i => ws[i]?)).all Option.isSome = true) (hl : lv_has ls nL lv) (hst : .ref b :: rest = st0) (hW : (rest.map fun v => v.category).sum ≤ 8) (hcs : cells + mc ≤ R.cells ∧ slots + ms ≤ R.slots) (hdg : decode cc pc = .ok (.invokespecial index, 3))
    (kk : ∀ (u : S) (H1 : Heap) (locs1 : List Loc), va_P D vwCl ((isR.map (fun i => ws[i]?)).filterMap id ++ WS u) H1 → va_D A ((isR.map (fun i => ws[i]?)).filterMap id ++ WS u) → va_S A s.heap H1 locs1 → W p l e R s m args below meth c H1 locs1 (cells + mc) (slots + ms) Q (F0 m (pc + 3) ls rest)) : W p l e R s m args below meth c H locs cells slots Q (F0 m pc ls st0) := by
  subst hst
  obtain ⟨hF, hpre⟩ := g_pre hP hD hK hS hA hE hnc hC [.ref b]
  refine va_callv (va_runIN (As := []) (rest := rest) S0 hM cw ⟨gPc.blind, hpre⟩ rfl rfl hl.1 rfl (lv_room hW) hdg hcs) hS (fun q _ h => hF q h) hF ?_
  intro u t H1 locs1 ht hvm hw hB hz1 hk1 hS1
  obtain ⟨hP1, hK1, hD1⟩ := hB
  rw [ht] at hP1
  obtain ⟨hP2, hD2⟩ := va_join hP hD isC isR hC (g_all _ hR) hnr (fun i hi hi2 => by have h3 := List.all_eq_true.mp hdis i hi; simp [List.contains_iff_mem, hi2] at h3) hk1 hF hP1 hD1
  exact kk u H1 locs1 hP2 hD2 hS1
theorem g_ci {S : Type} {WS : S → va_W} (S0 : CallFix p m c cc nL s args Ts own) (hP : va_P D vwCl ws H) (hD : va_D A ws) (hK : va_K D vwCl [(cI, .int), (cJ, .long)] s) (hS : va_S A s.heap H locs) (hA : ∀ q, s.heap.size ≤ q → A q) (hE : gE A s s.heap)
    (hM : Met l y wsM rm (gPc D cI cJ [.ref b] wc H.size) (gQn D cI cJ WS (va_A wc H.size)) mc ms (va_A wc H.size)) (cw : CallB R s args own index y bytes maxL none wsM rm mc ms 0 ∧ y.name = "<init>" ∧ (Cond.instanceMethod y).before args s = true) (isC isR : List Nat) (hnc : va_nd isC = true) (hnr : va_nd isR = true) (hdis : (isR.all fun i => !isC.contains i) = true) (hC : isC.map (fun i => ws[i]?) = wc.map some) (hR : (isR.map (fun i => ws[i]?)).all Option.isSome = true) (hl : lv_has ls nL lv) (hst : .ref b :: rest = st0) (hW : (rest.map fun v => v.category).sum ≤ 8) (hcs : cells + mc ≤ R.cells ∧ slots + ms ≤ R.slots) (hdg : decode cc pc = .ok (.invokespecial index, 3))
    (kk : ∀ (u : S) (H1 : Heap) (locs1 : List Loc), va_P D vwCl ((isR.map (fun i => ws[i]?)).filterMap id ++ WS u) H1 → va_D A ((isR.map (fun i => ws[i]?)).filterMap id ++ WS u) → va_S A s.heap H1 locs1 → W p l e R s m args below meth c H1 locs1 (cells + mc) (slots + ms) Q (F0 m (pc + 3) ls rest)) : W p l e R s m args below meth c H locs cells slots Q (F0 m pc ls st0) := by
  subst hst
  obtain ⟨hF, hpre⟩ := g_pre hP hD hK hS hA hE hnc hC [.ref b]
  refine va_callv (va_runI (As := []) (rest := rest) S0 hM cw ⟨gPc.blind, hpre⟩ rfl rfl hl.1 rfl (lv_room hW) hdg hcs) hS (fun q _ h => hF q h) hF ?_
  intro u t H1 locs1 ht hvm hw hB hz1 hk1 hS1
  obtain ⟨hP1, hK1, hD1⟩ := hB
  rw [ht] at hP1
  obtain ⟨hP2, hD2⟩ := va_join hP hD isC isR hC (g_all _ hR) hnr (fun i hi hi2 => by have h3 := List.all_eq_true.mp hdis i hi; simp [List.contains_iff_mem, hi2] at h3) hk1 hF hP1 hD1
  exact kk u H1 locs1 hP2 hD2 hS1
end GN
