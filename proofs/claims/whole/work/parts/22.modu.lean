/-! New arrays: of ints told by elements, of booleans, of longs. -/
theorem ar0_2 : (fun _ : Nat => (0 : Int32)) = arL [0, 0] := by
  funext j
  match j with
  | 0 => rfl
  | 1 => rfl
  | _ + 2 => rfl
theorem ar0_12 : (fun _ : Nat => (0 : Int32)) = arL [0, 0, 0, 0, 0, 0, 0, 0, 0, 0, 0, 0] := by
  funext j
  match j with
  | 0 => rfl
  | 1 => rfl
  | 2 => rfl
  | 3 => rfl
  | 4 => rfl
  | 5 => rfl
  | 6 => rfl
  | 7 => rfl
  | 8 => rfl
  | 9 => rfl
  | 10 => rfl
  | 11 => rfl
  | _ + 12 => rfl
section TN
variable {p : Program} {l : Launch} {e : Env} {R : Room} {s : State} {m : MethodId} {args : Array Value} {below : List Frame} {meth : Method} {c : Code} {H : Heap} {locs : List Loc} {cells slots : Nat} {Q : State → Prop}
variable {cc : ByteArray} {pc : Nat} {ls : Array Slot} {rest : List Value} {D : va_G} {A : Nat → Prop} {ws : va_W} {aI aL aZ : ClassId} {tl : List (ClassId × FieldType)}
theorem my_newiL {L : List Int32} (hL : (fun _ : Nat => (0 : Int32)) = arL L) (hx : p.tables.exec = Jvm.exec) (hb : c.code = cc) (harr : (Cond.arrayClass .int).before args s = true) (hK : va_K D vwCl ((aI, .int) :: tl) s) (hP : va_P D vwCl ws H) (hD : va_D A ws) (hS : va_S A s.heap H locs) (hA : ∀ q, s.heap.size ≤ q → A q)
    {n : Int32} {N M : Nat} (hn : ¬ n < 0) (hN : n.toNatClampNeg = N) (hM : N ≤ M) (hM2 : M ≤ 1000000) (hcells : cells + 1 ≤ R.cells) (hslots : slots + M ≤ R.slots) (hdg : decode cc pc = .ok (.newarray .int, 2))
    (kk : ∀ (q : Nat) (H1 : Heap), va_P D vwCl (ws ++ [(q, .inl (aI, N, .inl (arL L)))]) H1 → va_D A (ws ++ [(q, .inl (aI, N, .inl (arL L)))]) → va_S A s.heap H1 locs →
      W p l e R s m args below meth c H1 locs (cells + 1) (slots + M) Q (F0 m (pc + 2) ls (.ref q :: rest))) : W p l e R s m args below meth c H locs cells slots Q (F0 m pc ls (.int n :: rest)) := by
  refine my_newi hx hb harr hK hP hD hS hA hn hN hM hM2 hcells hslots hdg (fun q H1 h1 h2 h3 => ?_)
  rw [hL] at h1 h2
  exact kk q H1 h1 h2 h3
theorem my_newzL {L : List Int32} (hL : (fun _ : Nat => (0 : Int32)) = arL L) (hx : p.tables.exec = Jvm.exec) (hb : c.code = cc) (harr : (Cond.arrayClass .boolean).before args s = true) (hK : va_K D vwCl ((aI, .int) :: (aL, .long) :: (aZ, .boolean) :: tl) s) (hP : va_P D vwCl ws H) (hD : va_D A ws) (hS : va_S A s.heap H locs) (hA : ∀ q, s.heap.size ≤ q → A q)
    {n : Int32} {N M : Nat} (hn : ¬ n < 0) (hN : n.toNatClampNeg = N) (hM : N ≤ M) (hM2 : M ≤ 1000000) (hcells : cells + 1 ≤ R.cells) (hslots : slots + M ≤ R.slots) (hdg : decode cc pc = .ok (.newarray .boolean, 2))
    (kk : ∀ (q : Nat) (H1 : Heap), va_P D vwCl (ws ++ [(q, .inl (aZ, N, .inl (arL L)))]) H1 → va_D A (ws ++ [(q, .inl (aZ, N, .inl (arL L)))]) → va_S A s.heap H1 locs →
      W p l e R s m args below meth c H1 locs (cells + 1) (slots + M) Q (F0 m (pc + 2) ls (.ref q :: rest))) : W p l e R s m args below meth c H locs cells slots Q (F0 m pc ls (.int n :: rest)) := by
  refine va_newa (atype := .boolean) (ty := .boolean) (a0 := (N, .inl (fun _ => 0))) hx hb harr rfl hK hP hD hS hA (fun cA => rfl) hn hN (by show N * 1 ≤ _; omega) hcells (by omega) hdg (fun q cA H1 hK1 hP1 hD1 hS1 => ?_)
  have h1 := (hK1.2 2 (aZ, .boolean) rfl).2
  have h2 := (hK1.2 (((aI, FieldType.int) :: (aL, .long) :: (aZ, .boolean) :: tl).length) (cA, .boolean) (by simp)).2
  have h3 : s.vm.findClass ("[" ++ FieldType.boolean.toString) = some aZ := h1
  have h4 : s.vm.findClass ("[" ++ FieldType.boolean.toString) = some cA := h2
  cases Option.some.inj (h3.symm.trans h4)
  rw [hL] at hP1 hD1
  exact W.widen (Nat.le_refl _) (by omega) (kk q H1 hP1 hD1 hS1)
theorem my_newl (hx : p.tables.exec = Jvm.exec) (hb : c.code = cc) (harr : (Cond.arrayClass .long).before args s = true) (hK : va_K D vwCl ((aI, .int) :: (aL, .long) :: tl) s) (hP : va_P D vwCl ws H) (hD : va_D A ws) (hS : va_S A s.heap H locs) (hA : ∀ q, s.heap.size ≤ q → A q)
    {n : Int32} {N M : Nat} (hn : ¬ n < 0) (hN : n.toNatClampNeg = N) (hM : N ≤ M) (hM2 : M ≤ 1000000) (hcells : cells + 1 ≤ R.cells) (hslots : slots + M ≤ R.slots) (hdg : decode cc pc = .ok (.newarray .long, 2))
    (kk : ∀ (q : Nat) (H1 : Heap), va_P D vwCl (ws ++ [(q, .inl (aL, N, .inr (.inl (fun _ => 0))))]) H1 → va_D A (ws ++ [(q, .inl (aL, N, .inr (.inl (fun _ => 0))))]) → va_S A s.heap H1 locs →
      W p l e R s m args below meth c H1 locs (cells + 1) (slots + M) Q (F0 m (pc + 2) ls (.ref q :: rest))) : W p l e R s m args below meth c H locs cells slots Q (F0 m pc ls (.int n :: rest)) := by
  refine va_newa (atype := .long) (ty := .long) (a0 := (N, .inr (.inl (fun _ => 0)))) hx hb harr rfl hK hP hD hS hA (fun cA => rfl) hn hN (by show N * 8 ≤ _; omega) hcells (by omega) hdg (fun q cA H1 hK1 hP1 hD1 hS1 => ?_)
  have h1 := (hK1.2 1 (aL, .long) rfl).2
  have h2 := (hK1.2 (((aI, FieldType.int) :: (aL, .long) :: tl).length) (cA, .long) (by simp)).2
  have h3 : s.vm.findClass ("[" ++ FieldType.long.toString) = some aL := h1
  have h4 : s.vm.findClass ("[" ++ FieldType.long.toString) = some cA := h2
  cases Option.some.inj (h3.symm.trans h4)
  exact W.widen (Nat.le_refl _) (by omega) (kk q H1 hP1 hD1 hS1)
end TN
