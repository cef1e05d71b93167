def cellv (L : Nat) (xs : Nat → Int32) : Int32 := if 0 < L then xs 0 else 0
theorem st_R {own tx : String} {k : Nat} {args : Array Value} {s : State} (h : (Cond.stringRef own k tx).before args s = true) : ∃ a, vk_R own k tx a s := by
  have hcur : ∃ cur, s.vm.findClass own = some cur := by
    have h1 := h
    simp only [Cond.before, Cond.holds, Cond.value] at h1
    cases hc : s.vm.findClass own with
    | none => simp [hc] at h1
    | some cur => exact ⟨cur, rfl⟩
  obtain ⟨cur, hcur⟩ := hcur
  obtain ⟨k1, cf, j, a, hk, h2, h3, h4, h5, hev⟩ := Cond.stringRef_spec hcur h
  exact ⟨a, vk_R.of h hev⟩
theorem ev_start {s : State} {b : Nat} (hts : ∀ w ∈ lw_tbl, w.before #[Value.ref b] s = true) (hgv : (Jvm.Cond.and given_1 narrow_1).before #[Value.ref b] s = true) : ev (fun q => s.heap.size ≤ q) s s.heap := by
  have hs := flat_of_before _ hgv
  have hA : ∀ a : Nat, a < s.heap.size → ¬ (fun q => s.heap.size ≤ q) a := fun a h => Nat.not_le.mpr h
  refine ⟨⟨vx_Zqof (hts _ (by decide +kernel)) (hts _ (by decide +kernel)) (hs _ (by decide +kernel)) hA, vx_Zqof (hts _ (by decide +kernel)) (hts _ (by decide +kernel)) (hs _ (by decide +kernel)) hA⟩, ?_, ?_, ?_, ?_, ?_, ?_⟩
  · exact fun q hq => va_Nw.of rfl (hts _ ((by decide +kernel : ∀ q ∈ evF, Cond.fieldLinkNest q.1 q.2.1 q.2.2.1 q.2.2.2.1 q.2.2.2.2.1 q.2.2.2.2.2 ∈ lw_tbl) q hq))
  · exact fun q hq => va_Nw.of rfl (hts _ ((by decide +kernel : ∀ q ∈ evM, Cond.methodLinkNest q.1 q.2.1 q.2.2.1 q.2.2.2 ∈ lw_tbl) q hq))
  · exact fun q hq => va_Nw.of rfl (hts _ ((by decide +kernel : ∀ q ∈ evD, Cond.declares q ∈ lw_tbl) q hq))
  · exact fun q hq => va_Nw.of rfl (hts _ ((by decide +kernel : ∀ q ∈ evC, Cond.castable q.1 q.2 ∈ lw_tbl) q hq))
  · exact fun q hq => st_R (hts _ ((by decide +kernel : ∀ q ∈ evS, Cond.stringRef q.1 q.2.1 q.2.2 ∈ lw_tbl) q hq))
  · exact fun q hq => va_Nc.of (hs _ ((by decide +kernel : ∀ q ∈ evN, Cond.not (Cond.castable q.1 q.2) ∈ flatC (Jvm.Cond.and given_1 narrow_1)) q hq))
theorem arr_start {s : State} {args : Array Value} {ty : FieldType} (h : (Cond.arrayClass ty).before args s = true) : ∃ cA : ClassId, ArrOfT s cA ty ∧ s.vm.findClass ("[" ++ ty.toString) = some cA := by
  obtain ⟨cA, k, comp, h1, h2, h3⟩ := Cond.arrayClass_spec h
  exact ⟨cA, fun N z => ⟨(fun k h => by cases h), k, h2, comp, h3⟩, h1⟩
theorem K_start {s : State} {args : Array Value} (hts : ∀ w ∈ Gw, w.before args s = true) : ∃ (D : va_G) (aI aL aZ : ClassId), va_K D vwCl [(aI, .int), (aL, .long), (aZ, .boolean)] s := by
  obtain ⟨c0, i0, k0⟩ := u_known (ws := Gw) (n := 3) hts inX0G (hts _ w_284)
  obtain ⟨c1, i1, k1⟩ := u_known (ws := Gw) (n := 19) hts inX1G (hts _ w_239)
  obtain ⟨c2, i2, k2⟩ := u_known (ws := Gw) (n := 8) hts inX2G (hts _ w_245)
  obtain ⟨c3, i3, k3⟩ := u_known (ws := Gw) (n := 2) hts inX3G (hts _ w_57)
  obtain ⟨c4, i4, k4⟩ := u_known (ws := Gw) (n := 5) hts inX4G (hts _ w_49)
  obtain ⟨c5, i5, k5⟩ := u_known (ws := Gw) (n := 28) hts inX5G (hts _ w_631)
  obtain ⟨aI, gI, fI⟩ := arr_start (hts _ w_78)
  obtain ⟨aL, gL, fL⟩ := arr_start (hts _ w_879)
  obtain ⟨aZ, gZ, fZ⟩ := arr_start (hts _ w_721)
  refine ⟨(fun k => match k with | 0 => c0 | 1 => c1 | 2 => c2 | 3 => c3 | 4 => c4 | _ => c5, fun k => match k with | 0 => i0 | 1 => i1 | 2 => i2 | 3 => i3 | 4 => i4 | _ => i5), aI, aL, aZ, ?_, ?_⟩
  · intro c q hq
    match c with
    | 0 => cases hq; exact k0
    | 1 => cases hq; exact k1
    | 2 => cases hq; exact k2
    | 3 => cases hq; exact k3
    | 4 => cases hq; exact k4
    | 5 => cases hq; exact k5
    | n + 6 => exact absurd hq (by simp)
  · intro k q hq
    match k with
    | 0 => cases hq; exact ⟨gI, fI⟩
    | 1 => cases hq; exact ⟨gL, fL⟩
    | 2 => cases hq; exact ⟨gZ, fZ⟩
    | n + 3 => exact absurd hq (by simp)
theorem dL_cell_0 : decode cL_cell 0 = .ok (.iload_n 1, 1) := by decide +kernel
theorem dL_cell_1 : decode cL_cell 1 = .ok (.aload_n 0, 1) := by decide +kernel
theorem dL_cell_2 : decode cL_cell 2 = .ok (.arraylength, 1) := by decide +kernel
theorem dL_cell_3 : decode cL_cell 3 = .ok (.if_icmp .ge 9, 3) := by decide +kernel
theorem dL_cell_6 : decode cL_cell 6 = .ok (.aload_n 0, 1) := by decide +kernel
theorem dL_cell_7 : decode cL_cell 7 = .ok (.iload_n 1, 1) := by decide +kernel
theorem dL_cell_8 : decode cL_cell 8 = .ok (.iaload, 1) := by decide +kernel
theorem dL_cell_9 : decode cL_cell 9 = .ok (.goto 4, 3) := by decide +kernel
theorem dL_cell_12 : decode cL_cell 12 = .ok (.iconst 0, 1) := by decide +kernel
theorem dL_cell_13 : decode cL_cell 13 = .ok (.ireturn, 1) := by decide +kernel
set_option maxHeartbeats 4000000 in
theorem c_L_cell (l : Launch) (D : va_G) (aI aL aZ : ClassId) (sz : Nat) (b L : Nat) (xs : Nat → Int32) (hL : L ≤ 2561) : Met l yL_cell (.code yL_cell cL_cell 2 (some .int) :: Gw) ({ frames := 0, cells := 0, slots := 0, locals := 0 }) (va_Pc [.ref b, .int 0] (fun U => mpre D [(aI, .int), (aL, .long), (aZ, .boolean)] [] sz U ∧ va_X b L xs U U.heap ∧ b < sz)) ((fun A : Nat → Prop => va_Qi (fun (r : Int32) (_ : Unit) => r = cellv L xs) (mpst D A (fun (_ : Unit) => [])) A) (va_A ([]) sz)) 0 0 (va_A ([]) sz) := by
  refine Met.ofW (cc := cL_cell) (maxL := 2) (ret := (some .int)) (by decide) rfl ?_
  intro p e s m args below meth c s₁ B hml hv
  obtain ⟨rfl, ⟨hsz, hP, hK, hD0, hE⟩, hX, hbl⟩ := hv
  subst hsz
  have hx := B.exec
  have hb := B.bytes
  have hr := B.returns
  have hlk := B.notSynchronized
  have hD := hD0.self (sz := s.heap.size)
  have hbA : ¬ va_A [] s.heap.size b := by
    intro h
    rcases h with ⟨k, e, h⟩ | h
    · simp at h
    · omega
  have hS : va_S (va_A [] s.heap.size) s.heap s.heap [] := va_S.rf
  have hl := lv_entry ([.ref b, .int 0]) (n := 2) (Nat.le_of_ble_eq_true rfl)
  rw [lg_entry_eq]
  generalize (lg_sl ([.ref b, .int 0]) ++ List.replicate (2 - (lg_sl ([.ref b, .int 0])).length) Slot.unset).toArray = ls at hl ⊢
  have hl : lv_has ls 2 [(0, .ref b), (1, .int 0)] := hl
  refine lv_iload_n hx hb dL_cell_0 rfl (lv_at hl 1 rfl) ?_
  refine lv_aload_n hx hb dL_cell_1 rfl (lv_at hl 0 rfl) ?_
  refine va_slen hx hb hX hbl hbA hS dL_cell_2 ?_
  refine lv_icmp_ge (tgt := 12) hx hb dL_cell_3 (by decide) (fun c1 => ?_) (fun c1 => ?_)
  · refine lv_iconst (v := 0) hx hb dL_cell_12 (by decide) ?_
    refine rt_i rfl hx hb hr () ?_ hP hD hS (Nat.le_refl _) (Nat.le_refl _) dL_cell_13 hlk
    unfold cellv
    rw [if_neg]
    intro q
    exact absurd c1 (nI_ge (a := 0) q (by omega))
  · have h0 : 0 < L := by
      rcases Nat.eq_zero_or_pos L with z | z
      · subst z; exact absurd (Int32.le_refl _) c1
      · exact z
    refine lv_aload_n hx hb dL_cell_6 rfl (lv_at hl 0 rfl) ?_
    refine lv_iload_n hx hb dL_cell_7 rfl (lv_at hl 1 rfl) ?_
    refine va_sld hx hb hX hbl hbA hS (vp_in_nI (n := 0) h0 (by omega)) dL_cell_8 ?_
    refine lv_goto (tgt := 13) hx hb dL_cell_9 (by decide) ?_
    refine rt_i rfl hx hb hr () ?_ hP hD hS (Nat.le_refl _) (Nat.le_refl _) dL_cell_13 hlk
    unfold cellv
    rw [if_pos h0]; rfl
theorem pre_cell {s : State} {H : Heap} {locs : List Loc} {D : va_G} {aI aL aZ : ClassId} {A : Nat → Prop} {b L : Nat} {xs : Nat → Int32} (hK : va_K D vwCl [(aI, .int), (aL, .long), (aZ, .boolean)] s) (hS : va_S A s.heap H locs) (hA : ∀ q, s.heap.size ≤ q → A q) (hE : ev A s s.heap) (hX : va_X b L xs s s.heap) (hbl : b < s.heap.size) (hbA : ¬ A b) :
    PreS s H (va_Pc [.ref b, .int 0] (fun U => mpre D [(aI, .int), (aL, .long), (aZ, .boolean)] [] H.size U ∧ va_X b L xs U U.heap ∧ b < H.size)) [.ref b, .int 0] := by
  refine ⟨fun a U g mk q => ?_, fun U hU hW => ⟨rfl, ⟨by rw [hU], ?_, va_K.moved hW.alike hK, ?_, ?_⟩, ?_, ?_⟩⟩
  · obtain ⟨q0, ⟨q1, qP, qK, qD, qE⟩, qX, qb⟩ := q
    exact ⟨q0, ⟨q1, qP, va_K.moved (u := U) (U := U.calling g mk a) (Vm.Alike.refl U.vm) qK, qD, ev_c qE⟩, va_X.moved (u := U) (U := U.calling g mk a) (Vm.Alike.refl U.vm) qX, qb⟩
  · intro k q h; simp at h
  · exact ⟨fun i j p q h => by simp at h, fun k q h => by simp at h⟩
  · rw [hU]
    refine ev_n (ev_w hW (ev_k hE hS.2.1)) (fun q h => ?_)
    rcases h with ⟨k, e, h⟩ | h
    · simp at h
    · exact hA q (Nat.le_trans hS.1 h)
  · rw [hU]; exact (hX.kept (hS.2.1 b hbl hbA)).moved hW.alike
  · exact Nat.lt_of_lt_of_le hbl hS.1
theorem si_loop {n : Nat} (hn : n ≤ 20) : ∀ (d fu j : Nat) (cg : Nat → Int32), j + d = n → d < fu → (∀ i, i < j → cg i = nI (1000 * i)) → ∀ i, i < n → L_shaftInit_17 n fu j cg i = nI (1000 * i) := by
  intro d
  induction d with
  | zero =>
    intro fu j cg hj hf h i hi
    obtain ⟨f, rfl⟩ : ∃ f, fu = f + 1 := ⟨fu - 1, by omega⟩
    rw [L_shaftInit_17_u, if_pos (nI_le (by omega) (by omega))]
    exact h i (by omega)
  | succ d ih =>
    intro fu j cg hj hf h i hi
    obtain ⟨f, rfl⟩ : ∃ f, fu = f + 1 := ⟨fu - 1, by omega⟩
    rw [L_shaftInit_17_u, if_neg (nI_ge (by omega) (by omega)), nI_clamp (by omega), show (1000 : Int32) = nI 1000 from rfl, pk_mul]
    refine ih f (j + 1) _ (by omega) (by omega) (fun q hq => ?_) i hi
    simp only [upd]
    by_cases e : q = j
    · rw [if_pos e, e]
    · rw [if_neg e]; exact h q (by omega)
theorem mi_loop : ∀ (d fu j : Nat) (cg : Nat → Int32), j + d = 20 → d < fu → (∀ i, i < j → cg i = nI (1000 * i)) → ∀ i, i < 20 → L_m_init_195 fu j cg i = nI (1000 * i) := by
  intro d
  induction d with
  | zero =>
    intro fu j cg hj hf h i hi
    obtain ⟨f, rfl⟩ : ∃ f, fu = f + 1 := ⟨fu - 1, by omega⟩
    rw [L_m_init_195_u, if_pos (show (20 : Int32) ≤ nI j from nI_le (a := 20) (by omega) (by omega))]
    exact h i (by omega)
  | succ d ih =>
    intro fu j cg hj hf h i hi
    obtain ⟨f, rfl⟩ : ∃ f, fu = f + 1 := ⟨fu - 1, by omega⟩
    rw [L_m_init_195_u, if_neg (show ¬ (20 : Int32) ≤ nI j from nI_ge (b := 20) (by omega) (by omega)), nI_clamp (by omega), show (1000 : Int32) = nI 1000 from rfl, pk_mul]
    refine ih f (j + 1) _ (by omega) (by omega) (fun q hq => ?_) i hi
    simp only [upd]
    by_cases e : q = j
    · rw [if_pos e, e]
    · rw [if_neg e]; exact h q (by omega)
theorem sh_start {x : Int32} {pf mh : Nat → Int32} (h1 : F_csInit x = pf) (h2 : F_m_init x = mh) : shI (flo x) pf ∧ shR (flo x) pf mh := by
  have n1 := flo_1 x
  have n20 := flo_20 x
  have e1 : ∀ i, i < flo x → pf i = nI (1000 * i) := by
    intro i hi
    rw [← h1]
    exact si_loop n20 (flo x) (flo x + 1) 0 _ (by omega) (by omega) (fun q hq => absurd hq (by omega)) i hi
  have e2 : ∀ i, i < 20 → mh i = nI (1000 * i) := by
    intro i hi
    rw [← h2]
    unfold F_m_init
    have e := mi_loop 20 21 0 (fun _ => 0) (by omega) (by omega) (fun q hq => absurd hq (by omega)) i hi
    split
    · split
      · exact e
      · exact e
    · exact e
  refine ⟨⟨n1, n20, fun i => 1000 * i, fun i hi => ⟨e1 i hi, ?_⟩, fun i hi => ?_⟩, fun i hi => ?_⟩
  · show 1000 * i ≤ 100000; omega
  · show 1000 * i < 1000 * (i + 1); omega
  · rw [e2 i (by omega), e1 i hi]
set_option maxHeartbeats 4000000 in
set_option maxRecDepth 100000 in
/-- from the entry, for every script of at most 2561 ints, the law comes to its end with true -/
theorem whole_start {p : Program} {e : Env} {s : State} {m : MethodId} {below : List Frame} {meth : Method} {c : Code} (l : Launch) (hl9 : l.stackTraces = false) {b L : Nat} {xs : Nat → Int32} (hL : L ≤ 2561) (C0 : lw_At p s m meth c b L xs) : W p l e room_1 s m #[Value.ref b] below meth c s.heap [] 0 0 (lw_Z below #[Value.ref b] s) (entryFrame m ([Value.ref b] : List Value).toArray 7) := by
  obtain ⟨hx, hb, hr, hml, hown, hts0, hX, hbl, hlocks, hgv⟩ := C0
  have hE := ev_start hts0 hgv
  have hG : ∀ w ∈ Gw, w.before #[Value.ref b] s = true := fun w h => hts0 w (List.mem_filter.mp h).1
  have hts : ∀ w ∈ wz :: Gw, w.before #[Value.ref b] s = true := fun w h => (List.mem_cons.mp h).elim (fun e => by rw [e]; exact hG _ w_105) (hG w)
  obtain ⟨D, aI, aL, aZ, hK⟩ := K_start hG
  obtain ⟨A, hA, hA1, hbA, hE⟩ : ∃ A : Nat → Prop, (∀ q, s.heap.size ≤ q → A q) ∧ (∀ q, A q → s.heap.size ≤ q) ∧ ¬ A b ∧ ev A s s.heap := ⟨fun q => s.heap.size ≤ q, fun _ h => h, fun _ h => h, Nat.not_le.mpr hbl, hE⟩
  have hown : s.vm.findClass RL = some m.cls := hown
  have C : lwC l p s m c b L xs D aI aL aZ A := ⟨hl9, hx, hb, hml, hown, hts, hX, hbl, hbA, hK, hA, hE, hL⟩
  have hS : va_S A s.heap s.heap [] := va_S.rf
  have hP : va_P D vwCl [] s.heap := fun k q h => by simp at h
  have hD : va_D A [] := ⟨fun i j p q h => by simp at h, fun k q h => by simp at h⟩
  have hl := lv_entry ([.ref b]) (n := 7) (Nat.le_of_ble_eq_true rfl)
  rw [lg_entry_eq]
  generalize (lg_sl ([.ref b]) ++ List.replicate (7 - (lg_sl ([.ref b])).length) Slot.unset).toArray = ls at hl ⊢
  have hl : lv_has ls 7 [(0, .ref b)] := hl
  refine va_new (ci := 4) (fs := [.null, .null, .null, .int 0, .int 0]) (C := RX4) (T := TX4) (N := 5) hx hb hts inX4 tyX4 tyX4_ok hown (hts _ (mG w_48)) (hts _ (mG w_49)) (hts _ (mG w_35)) hK hP hD hS hA rfl (by decide +kernel) (Nat.le_of_ble_eq_true rfl) (Nat.le_of_ble_eq_true rfl) dL_law_0 (fun q_1 H hP hD hS => ?_)
  have hP : va_P D vwCl [(q_1, .inr (4, [.null, .null, .null, .int 0, .int 0]))] H := hP
  have hD : va_D A [(q_1, .inr (4, [.null, .null, .null, .int 0, .int 0]))] := hD
  refine lv_dup hx hb dL_law_3 rfl ?_
  refine lv_aload_n hx hb dL_law_4 rfl (lv_at hl 0 rfl) ?_
  refine lv_iconst (v := 0) hx hb dL_law_5 (by decide) ?_
  refine my_i (wr := [(q_1, .inr (4, [.null, .null, .null, .int 0, .int 0]))]) [] [0] (va_runS (As := [.ref b, .int 0]) (rest := [.ref q_1, .ref q_1]) ⟨hx, hb, hml, hown, hts⟩ (c_L_cell l D aI aL aZ _ b L xs hL) (va_cwS 2 hts (gS w_99 w_100 w_34 w_101) rfl rfl rfl (by decide +kernel) ⟨Nat.le_of_ble_eq_true rfl, Nat.le_of_ble_eq_true rfl⟩) (pre_cell hK hS hA hE hX hbl hbA) rfl rfl hl.1 rfl (lv_room (Nat.le_of_ble_eq_true rfl)) dL_law_6 ⟨Nat.le_of_ble_eq_true rfl, Nat.le_of_ble_eq_true rfl⟩) hP hD hS hA rfl rfl (by decide) (by decide) (fun r_3 u_ H locs hw_2 hP hD hS => ?_)
  obtain rfl : r_3 = cellv L xs := hw_2
  have hP : va_P D vwCl [(q_1, .inr (4, [.null, .null, .null, .int 0, .int 0]))] H := hP
  have hD : va_D A [(q_1, .inr (4, [.null, .null, .null, .int 0, .int 0]))] := hD
  refine my_v (wr := []) [0] [] (va_runI (As := [.int (cellv L xs)]) (rest := [.ref q_1]) ⟨hx, hb, hml, hown, hts⟩ (c_csInit l D aI aL aZ _ q_1 (cellv L xs)) (cwI 1 hts (gC w_52) rfl rfl rfl (hts _ (mG w_35)) (hts _ (mG w_50)) (hts _ (mG w_51)) rfl (by decide +kernel) ⟨Nat.le_of_ble_eq_true rfl, Nat.le_of_ble_eq_true rfl⟩) (pre_of hK hP hD hS hA hE [0] rfl (by decide) _) rfl rfl hl.1 rfl (lv_room (Nat.le_of_ble_eq_true rfl)) dL_law_9 ⟨Nat.le_of_ble_eq_true rfl, Nat.le_of_ble_eq_true rfl⟩) hP hD hS hA rfl rfl (by decide) (by decide) (fun u_ H locs hw_7 hP hD hS => ?_)
  obtain ⟨q_5, q_6, x_4⟩ := u_
  have hw_7 : F_csInit (cellv L xs) = x_4 := hw_7
  have hP : va_P D vwCl [(q_1, .inr (4, [.ref q_5, .null, .null, .int 1, .int 0])), (q_5, .inr (3, [.ref q_6, .int 500])), (q_6, .inl (aI, (flo (cellv L xs)), .inl x_4))] H := hP
  have hD : va_D A [(q_1, .inr (4, [.ref q_5, .null, .null, .int 1, .int 0])), (q_5, .inr (3, [.ref q_6, .int 500])), (q_6, .inl (aI, (flo (cellv L xs)), .inl x_4))] := hD
  refine lv_astore_n (lv' := [(1, .ref q_1), (0, .ref b)]) hx hb dL_law_12 rfl hl (by decide) rfl (fun ls hl => ?_)
  refine va_new (ci := 5) (fs := [.int 0, .int 0, .null, .int 0, .int 0, .int 0, .int 0, .null, .null, .null, .null, .null, .null, .null, .null, .null, .null, .null, .null, .null, .null, .null, .null, .null, .null, .null, .null, .null]) (C := RX5) (T := TX5) (N := 28) hx hb hts inX5 tyX5 tyX5_ok hown (hts _ (mG w_630)) (hts _ (mG w_631)) (hts _ (mG w_38)) hK hP hD hS hA rfl (by decide +kernel) (Nat.le_of_ble_eq_true rfl) (Nat.le_of_ble_eq_true rfl) dL_law_13 (fun q_8 H hP hD hS => ?_)
  have hP : va_P D vwCl [(q_1, .inr (4, [.ref q_5, .null, .null, .int 1, .int 0])), (q_5, .inr (3, [.ref q_6, .int 500])), (q_6, .inl (aI, (flo (cellv L xs)), .inl x_4)), (q_8, .inr (5, [.int 0, .int 0, .null, .int 0, .int 0, .int 0, .int 0, .null, .null, .null, .null, .null, .null, .null, .null, .null, .null, .null, .null, .null, .null, .null, .null, .null, .null, .null, .null, .null]))] H := hP
  have hD : va_D A [(q_1, .inr (4, [.ref q_5, .null, .null, .int 1, .int 0])), (q_5, .inr (3, [.ref q_6, .int 500])), (q_6, .inl (aI, (flo (cellv L xs)), .inl x_4)), (q_8, .inr (5, [.int 0, .int 0, .null, .int 0, .int 0, .int 0, .int 0, .null, .null, .null, .null, .null, .null, .null, .null, .null, .null, .null, .null, .null, .null, .null, .null, .null, .null, .null, .null, .null]))] := hD
  refine lv_dup hx hb dL_law_16 rfl ?_
  refine lv_aload_n hx hb dL_law_17 rfl (lv_at hl 1 rfl) ?_
  refine lv_iconst (v := 0) hx hb dL_law_18 (by decide) ?_
  refine my_i (wr := [(q_1, .inr (4, [.ref q_5, .null, .null, .int 1, .int 0])), (q_5, .inr (3, [.ref q_6, .int 500])), (q_6, .inl (aI, (flo (cellv L xs)), .inl x_4)), (q_8, .inr (5, [.int 0, .int 0, .null, .int 0, .int 0, .int 0, .int 0, .null, .null, .null, .null, .null, .null, .null, .null, .null, .null, .null, .null, .null, .null, .null, .null, .null, .null, .null, .null, .null]))]) [] [0, 1, 2, 3] (va_runS (As := [.ref b, .int 0]) (rest := [.ref q_8, .ref q_8]) ⟨hx, hb, hml, hown, hts⟩ (c_L_cell l D aI aL aZ _ b L xs hL) (va_cwS 2 hts (gS w_99 w_100 w_34 w_101) rfl rfl rfl (by decide +kernel) ⟨Nat.le_of_ble_eq_true rfl, Nat.le_of_ble_eq_true rfl⟩) (pre_cell hK hS hA hE hX hbl hbA) rfl rfl hl.1 rfl (lv_room (Nat.le_of_ble_eq_true rfl)) dL_law_19 ⟨Nat.le_of_ble_eq_true rfl, Nat.le_of_ble_eq_true rfl⟩) hP hD hS hA rfl rfl (by decide) (by decide) (fun r_10 u_ H locs hw_9 hP hD hS => ?_)
  obtain rfl : r_10 = cellv L xs := hw_9
  have hP : va_P D vwCl [(q_1, .inr (4, [.ref q_5, .null, .null, .int 1, .int 0])), (q_5, .inr (3, [.ref q_6, .int 500])), (q_6, .inl (aI, (flo (cellv L xs)), .inl x_4)), (q_8, .inr (5, [.int 0, .int 0, .null, .int 0, .int 0, .int 0, .int 0, .null, .null, .null, .null, .null, .null, .null, .null, .null, .null, .null, .null, .null, .null, .null, .null, .null, .null, .null, .null, .null]))] H := hP
  have hD : va_D A [(q_1, .inr (4, [.ref q_5, .null, .null, .int 1, .int 0])), (q_5, .inr (3, [.ref q_6, .int 500])), (q_6, .inl (aI, (flo (cellv L xs)), .inl x_4)), (q_8, .inr (5, [.int 0, .int 0, .null, .int 0, .int 0, .int 0, .int 0, .null, .null, .null, .null, .null, .null, .null, .null, .null, .null, .null, .null, .null, .null, .null, .null, .null, .null, .null, .null, .null]))] := hD
  refine my_v (wr := [(q_1, .inr (4, [.ref q_5, .null, .null, .int 1, .int 0])), (q_5, .inr (3, [.ref q_6, .int 500])), (q_6, .inl (aI, (flo (cellv L xs)), .inl x_4))]) [3] [0, 1, 2] (va_runI (As := [.int (cellv L xs)]) (rest := [.ref q_8]) ⟨hx, hb, hml, hown, hts⟩ (c_m_init l D aI aL aZ _ q_8 (cellv L xs)) (cwI 1 hts (gC w_634) rfl rfl rfl (hts _ (mG w_38)) (hts _ (mG w_632)) (hts _ (mG w_633)) rfl (by decide +kernel) ⟨Nat.le_of_ble_eq_true rfl, Nat.le_of_ble_eq_true rfl⟩) (pre_of hK hP hD hS hA hE [3] rfl (by decide) _) rfl rfl hl.1 rfl (lv_room (Nat.le_of_ble_eq_true rfl)) dL_law_22 ⟨Nat.le_of_ble_eq_true rfl, Nat.le_of_ble_eq_true rfl⟩) hP hD hS hA rfl rfl (by decide) (by decide) (fun u_ H locs hw_34 hP hD hS => ?_)
  obtain ⟨q_12, q_13, q_14, q_15, q_16, q_17, q_18, q_19, q_20, q_21, q_22, q_23, q_24, q_25, q_26, q_27, q_28, q_29, q_30, q_31, q_32, q_33, x_11⟩ := u_
  have hw_34 : F_m_init (cellv L xs) = x_11 := hw_34
  have hP : va_P D vwCl [(q_1, .inr (4, [.ref q_5, .null, .null, .int 1, .int 0])), (q_5, .inr (3, [.ref q_6, .int 500])), (q_6, .inl (aI, (flo (cellv L xs)), .inl x_4)), (q_8, .inr (5, [.int 0, .int (nI (flo (cellv L xs))), .ref q_12, .int 500, .int 0, .int 0, .int 0, .ref q_13, .ref q_14, .ref q_15, .ref q_16, .ref q_17, .ref q_18, .ref q_19, .ref q_20, .ref q_21, .ref q_22, .ref q_23, .ref q_24, .ref q_25, .ref q_26, .ref q_27, .ref q_28, .ref q_29, .ref q_30, .ref q_31, .ref q_32, .ref q_33])), (q_12, .inl (aI, 20, .inl x_11)), (q_13, .inl (aI, 2, .inl (arL [0, 0]))), (q_14, .inl (aI, 2, .inl (arL [0, 0]))), (q_15, .inl (aI, 2, .inl (arL [0, 0]))), (q_16, .inl (aI, 2, .inl (arL [0, 0]))), (q_17, .inl (aI, 2, .inl (arL [0, 0]))), (q_18, .inl (aI, 2, .inl (arL [0, 0]))), (q_19, .inl (aI, 2, .inl (arL [0, 0]))), (q_20, .inl (aI, 2, .inl (arL [0, 0]))), (q_21, .inl (aI, 2, .inl (arL [0, 0]))), (q_22, .inl (aI, 2, .inl (arL [0, 0]))), (q_23, .inl (aI, 2, .inl (arL [0, 0]))), (q_24, .inl (aI, 2, .inl (arL [0, 0]))), (q_25, .inl (aI, 2, .inl (arL [0, 0]))), (q_26, .inl (aI, 2, .inl (arL [0, 0]))), (q_27, .inl (aZ, 2, .inl (arL [0, 0]))), (q_28, .inl (aI, 2, .inl (arL [0, 0]))), (q_29, .inl (aI, 2, .inl (arL [0, 0]))), (q_30, .inl (aI, 2, .inl (arL [0, 0]))), (q_31, .inl (aI, 16, .inl (fun _ => 0))), (q_32, .inl (aI, 2, .inl (arL [0, 0]))), (q_33, .inl (aI, 12, .inl (arL [0, 0, 0, 0, 0, 0, 0, 0, 0, 0, 0, 0])))] H := hP
  have hD : va_D A [(q_1, .inr (4, [.ref q_5, .null, .null, .int 1, .int 0])), (q_5, .inr (3, [.ref q_6, .int 500])), (q_6, .inl (aI, (flo (cellv L xs)), .inl x_4)), (q_8, .inr (5, [.int 0, .int (nI (flo (cellv L xs))), .ref q_12, .int 500, .int 0, .int 0, .int 0, .ref q_13, .ref q_14, .ref q_15, .ref q_16, .ref q_17, .ref q_18, .ref q_19, .ref q_20, .ref q_21, .ref q_22, .ref q_23, .ref q_24, .ref q_25, .ref q_26, .ref q_27, .ref q_28, .ref q_29, .ref q_30, .ref q_31, .ref q_32, .ref q_33])), (q_12, .inl (aI, 20, .inl x_11)), (q_13, .inl (aI, 2, .inl (arL [0, 0]))), (q_14, .inl (aI, 2, .inl (arL [0, 0]))), (q_15, .inl (aI, 2, .inl (arL [0, 0]))), (q_16, .inl (aI, 2, .inl (arL [0, 0]))), (q_17, .inl (aI, 2, .inl (arL [0, 0]))), (q_18, .inl (aI, 2, .inl (arL [0, 0]))), (q_19, .inl (aI, 2, .inl (arL [0, 0]))), (q_20, .inl (aI, 2, .inl (arL [0, 0]))), (q_21, .inl (aI, 2, .inl (arL [0, 0]))), (q_22, .inl (aI, 2, .inl (arL [0, 0]))), (q_23, .inl (aI, 2, .inl (arL [0, 0]))), (q_24, .inl (aI, 2, .inl (arL [0, 0]))), (q_25, .inl (aI, 2, .inl (arL [0, 0]))), (q_26, .inl (aI, 2, .inl (arL [0, 0]))), (q_27, .inl (aZ, 2, .inl (arL [0, 0]))), (q_28, .inl (aI, 2, .inl (arL [0, 0]))), (q_29, .inl (aI, 2, .inl (arL [0, 0]))), (q_30, .inl (aI, 2, .inl (arL [0, 0]))), (q_31, .inl (aI, 16, .inl (fun _ => 0))), (q_32, .inl (aI, 2, .inl (arL [0, 0]))), (q_33, .inl (aI, 12, .inl (arL [0, 0, 0, 0, 0, 0, 0, 0, 0, 0, 0, 0])))] := hD
  refine lv_astore_n (lv' := [(2, .ref q_8), (1, .ref q_1), (0, .ref b)]) hx hb dL_law_25 rfl hl (by decide) rfl (fun ls hl => ?_)
  refine lv_iconst (v := 1) hx hb dL_law_26 (by decide) ?_
  refine my_newl (N := 1) (M := 1) hx hb (hts _ (mG w_879)) hK hP hD hS hA (by decide) (by decide) (Nat.le_refl _) (by decide) (Nat.le_of_ble_eq_true rfl) (Nat.le_of_ble_eq_true rfl) dL_law_27 (fun q_35 H hP hD hS => ?_)
  have hP : va_P D vwCl [(q_1, .inr (4, [.ref q_5, .null, .null, .int 1, .int 0])), (q_5, .inr (3, [.ref q_6, .int 500])), (q_6, .inl (aI, (flo (cellv L xs)), .inl x_4)), (q_8, .inr (5, [.int 0, .int (nI (flo (cellv L xs))), .ref q_12, .int 500, .int 0, .int 0, .int 0, .ref q_13, .ref q_14, .ref q_15, .ref q_16, .ref q_17, .ref q_18, .ref q_19, .ref q_20, .ref q_21, .ref q_22, .ref q_23, .ref q_24, .ref q_25, .ref q_26, .ref q_27, .ref q_28, .ref q_29, .ref q_30, .ref q_31, .ref q_32, .ref q_33])), (q_12, .inl (aI, 20, .inl x_11)), (q_13, .inl (aI, 2, .inl (arL [0, 0]))), (q_14, .inl (aI, 2, .inl (arL [0, 0]))), (q_15, .inl (aI, 2, .inl (arL [0, 0]))), (q_16, .inl (aI, 2, .inl (arL [0, 0]))), (q_17, .inl (aI, 2, .inl (arL [0, 0]))), (q_18, .inl (aI, 2, .inl (arL [0, 0]))), (q_19, .inl (aI, 2, .inl (arL [0, 0]))), (q_20, .inl (aI, 2, .inl (arL [0, 0]))), (q_21, .inl (aI, 2, .inl (arL [0, 0]))), (q_22, .inl (aI, 2, .inl (arL [0, 0]))), (q_23, .inl (aI, 2, .inl (arL [0, 0]))), (q_24, .inl (aI, 2, .inl (arL [0, 0]))), (q_25, .inl (aI, 2, .inl (arL [0, 0]))), (q_26, .inl (aI, 2, .inl (arL [0, 0]))), (q_27, .inl (aZ, 2, .inl (arL [0, 0]))), (q_28, .inl (aI, 2, .inl (arL [0, 0]))), (q_29, .inl (aI, 2, .inl (arL [0, 0]))), (q_30, .inl (aI, 2, .inl (arL [0, 0]))), (q_31, .inl (aI, 16, .inl (fun _ => 0))), (q_32, .inl (aI, 2, .inl (arL [0, 0]))), (q_33, .inl (aI, 12, .inl (arL [0, 0, 0, 0, 0, 0, 0, 0, 0, 0, 0, 0]))), (q_35, .inl (aL, 1, .inr (.inl (fun _ => 0))))] H := hP
  have hD : va_D A [(q_1, .inr (4, [.ref q_5, .null, .null, .int 1, .int 0])), (q_5, .inr (3, [.ref q_6, .int 500])), (q_6, .inl (aI, (flo (cellv L xs)), .inl x_4)), (q_8, .inr (5, [.int 0, .int (nI (flo (cellv L xs))), .ref q_12, .int 500, .int 0, .int 0, .int 0, .ref q_13, .ref q_14, .ref q_15, .ref q_16, .ref q_17, .ref q_18, .ref q_19, .ref q_20, .ref q_21, .ref q_22, .ref q_23, .ref q_24, .ref q_25, .ref q_26, .ref q_27, .ref q_28, .ref q_29, .ref q_30, .ref q_31, .ref q_32, .ref q_33])), (q_12, .inl (aI, 20, .inl x_11)), (q_13, .inl (aI, 2, .inl (arL [0, 0]))), (q_14, .inl (aI, 2, .inl (arL [0, 0]))), (q_15, .inl (aI, 2, .inl (arL [0, 0]))), (q_16, .inl (aI, 2, .inl (arL [0, 0]))), (q_17, .inl (aI, 2, .inl (arL [0, 0]))), (q_18, .inl (aI, 2, .inl (arL [0, 0]))), (q_19, .inl (aI, 2, .inl (arL [0, 0]))), (q_20, .inl (aI, 2, .inl (arL [0, 0]))), (q_21, .inl (aI, 2, .inl (arL [0, 0]))), (q_22, .inl (aI, 2, .inl (arL [0, 0]))), (q_23, .inl (aI, 2, .inl (arL [0, 0]))), (q_24, .inl (aI, 2, .inl (arL [0, 0]))), (q_25, .inl (aI, 2, .inl (arL [0, 0]))), (q_26, .inl (aI, 2, .inl (arL [0, 0]))), (q_27, .inl (aZ, 2, .inl (arL [0, 0]))), (q_28, .inl (aI, 2, .inl (arL [0, 0]))), (q_29, .inl (aI, 2, .inl (arL [0, 0]))), (q_30, .inl (aI, 2, .inl (arL [0, 0]))), (q_31, .inl (aI, 16, .inl (fun _ => 0))), (q_32, .inl (aI, 2, .inl (arL [0, 0]))), (q_33, .inl (aI, 12, .inl (arL [0, 0, 0, 0, 0, 0, 0, 0, 0, 0, 0, 0]))), (q_35, .inl (aL, 1, .inr (.inl (fun _ => 0))))] := hD
  refine lv_astore_n (lv' := [(3, .ref q_35), (2, .ref q_8), (1, .ref q_1), (0, .ref b)]) hx hb dL_law_29 rfl hl (by decide) rfl (fun ls hl => ?_)
  refine lv_iconst (v := 1) hx hb dL_law_30 (by decide) ?_
  refine lv_istore (lv' := [(4, .int 1), (3, .ref q_35), (2, .ref q_8), (1, .ref q_1), (0, .ref b)]) hx hb dL_law_31 hl (by decide) rfl (fun ls hl => ?_)
  obtain ⟨hsh, hsr⟩ := sh_start hw_7 hw_34
  refine W.widen (k := 100) (n := 1000) (by decide) (by decide) ?_
  exact lawp0 (n := flo (cellv L xs)) q_1 q_5 q_6 q_8 q_12 q_13 q_14 q_15 q_16 q_17 q_18 q_19 q_20 q_21 q_22 q_23 q_24 q_25 q_26 q_27 q_28 q_29 q_30 q_31 q_32 q_33 q_35 C hr hlocks hA1 (fun h0 h1 h2 h3 => lawp1 q_1 q_5 q_6 q_8 q_12 q_13 q_14 q_15 q_16 q_17 q_18 q_19 q_20 q_21 q_22 q_23 q_24 q_25 q_26 q_27 q_28 q_29 q_30 q_31 q_32 q_33 q_35 h0 h1 h2 h3 C hr hlocks hA1 (fun g0 g1 g2 g3 => lawp2 q_1 q_5 q_6 q_8 q_12 q_13 q_14 q_15 q_16 q_17 q_18 q_19 q_20 q_21 q_22 q_23 q_24 q_25 q_26 q_27 q_28 q_29 q_30 q_31 q_32 q_33 q_35 h0 h1 h2 h3 g0 g1 g2 g3 C hr hlocks hA1)) 512 1 100 1000 (by omega) (by decide) (by decide) (by decide) 1 0 500 0 x_4 x_11 (fun _ => 0) ⟨hsh, hsr, ⟨500, by decide, rfl⟩, Or.inr rfl⟩ _ _ (hP.sub [0, 1, 2, 3, 4, 5, 6, 7, 8, 9, 10, 11, 12, 13, 14, 15, 16, 17, 18, 19, 20, 21, 22, 23, 24, 25, 26] rfl) (hD.sub [0, 1, 2, 3, 4, 5, 6, 7, 8, 9, 10, 11, 12, 13, 14, 15, 16, 17, 18, 19, 20, 21, 22, 23, 24, 25, 26] (by decide) rfl) hS _ (lv_sub hl [4, 3, 2, 1, 0] rfl)
