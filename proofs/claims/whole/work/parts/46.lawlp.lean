/-! THE CLAIM OUT OF ONE WALK OF THE LAW'S BODY. Your part is whole_start (and what it stands on); all else here is the same for every law, but numbers. -/
def R_law : String := "CarStepsLaw"
def lw_P (b : Addr) (xs : List Int32) (args : Array Value) (s : State) : Prop := args = #[.ref b] ∧ s.IntsAt b xs ∧ xs.length ≤ 2561 ∧ (Jvm.Cond.and given_1 narrow_1).before args s = true
def lw_Q (_ : Array Value) (s : State) (o : Outcome) (t : State) : Prop := o = .returned (some (.int 1)) ∧ Framed s o t [] 601024 7293000
def lw_Z (below : List Frame) (a : Array Value) (s : State) : State → Prop := fun t => ∃ o, t.status = .running ∧ Ended t below o ∧ lw_Q a s o t
/-- the law's own end, with 1 on the stack, nothing written that was there before, its room as the claim has it -/
theorem lw_ret {p : Program} {l : Launch} {e : Env} {s : State} {m : MethodId} {below : List Frame} {meth : Method} {c : Code} {b : Nat} (hx : p.tables.exec = Jvm.exec) (hb : c.code = code) (hr : meth.sig.returnType = ret) (hlocks : meth.locks = false) {pc : Nat} {H : Heap} {ls : Array Slot} (hdg : decode code pc = .ok (.ireturn, 1)) : W p l e room_1 s m #[Value.ref b] below meth c H [] 601024 7293000 (lw_Z below #[Value.ref b] s) (F0 m pc ls [.int 1]) := by
  intro T hT X
  obtain ⟨fs, hret, hrun, hended, hW, hframe⟩ := X.leave (v := some (.int 1)) (hlocks := hlocks) (fun h => by rw [hr] at h; cases h)
  have hmeth' : T.vm.method? m = some meth := X.method'
  refine ⟨T.setFrames fs, ?_, .returned (some (.int 1)), hrun, hended, rfl, ⟨_, rfl⟩, hW, hframe⟩
  jvm_step X.here [X.here.top, hx, hb, hdg, hmeth', hr, ret, narrow_b1]
  (try refine ⟨rfl, ?_⟩); (try refine ⟨rfl, ?_⟩)
  first | (intro acts; rw [hret _ acts rfl rfl rfl]) | rw [hret _ _ rfl rfl rfl]
  exact Steps.refl _
/-- what holds at the law's entry: the machine, the code, the tables' words (any of lw_tbl by 'hts w (by decide +kernel)'), the script of L ints xs at the cell b, what the Statement gives of the start (any of its parts by flat_of_before) -/
def lw_At (p : Program) (s : State) (m : MethodId) (meth : Method) (c : Code) (b L : Nat) (xs : Nat → Int32) : Prop :=
  p.tables.exec = Jvm.exec ∧ c.code = code ∧ meth.sig.returnType = ret ∧ c.maxLocals = 7 ∧ s.vm.findClass R_law = some m.cls ∧ (∀ w ∈ lw_tbl, w.before #[Value.ref b] s = true) ∧ va_X b L xs s s.heap ∧ b < s.heap.size ∧ meth.locks = false ∧ (Jvm.Cond.and given_1 narrow_1).before #[Value.ref b] s = true
theorem gtL {i L : Nat} (hL : L ≤ 2561) (hi : i ≤ 2600) : (Int32.ofNat L - 5 < nI i) ↔ ¬ i + 5 ≤ L := by
  have e1 : (nI L).toInt = L := nI_toInt (by omega)
  have e2 : (5 : Int32).toInt = 5 := by decide
  have e3 : (nI L - 5).toInt = L - 5 := by rw [i_sub (by omega) (by omega), e1, e2]
  show nI L - 5 < nI i ↔ _
  rw [Int32.lt_iff_toInt_lt, e3, nI_toInt (by omega)]
  omega
theorem i5 (i : Nat) : nI i + 5 = nI (i + 5) := nI_add i 5
theorem inc0 {p : Program} {l : Launch} {e : Env} {s : State} {m : MethodId} {below : List Frame} {meth : Method} {c : Code} {D : va_G} {aI aL aZ : ClassId} {b L : Nat} {xs : Nat → Int32} {A : Nat → Prop} {n : Nat} {i : Nat} {k0 h4 h5 m0 ah a_places a_speeds a_most a_gains a_brakes a_slows a_rides a_doors a_doorPlaces a_opened a_wide a_holds a_loads a_mostLoads a_beams a_contacts a_fires a_ways a_calls a_callCounts a_wears o0 cells slots : Nat} (C : lwC l p s m c b L xs D aI aL aZ A) (h : K0 p l e s m below meth c D aI aL aZ b A (lw_Z below #[Value.ref b] s) (i + 5) n k0 h4 h5 m0 ah a_places a_speeds a_most a_gains a_brakes a_slows a_rides a_doors a_doorPlaces a_opened a_wide a_holds a_loads a_mostLoads a_beams a_contacts a_fires a_ways a_calls a_callCounts a_wears o0 33 cells slots) : K0 p l e s m below meth c D aI aL aZ b A (lw_Z below #[Value.ref b] s) i n k0 h4 h5 m0 ah a_places a_speeds a_most a_gains a_brakes a_slows a_rides a_doors a_doorPlaces a_opened a_wide a_holds a_loads a_mostLoads a_beams a_contacts a_fires a_ways a_calls a_callCounts a_wears o0 1405 cells slots := by
  intro powered stepsDone gap th pf mh of hR H locs hP hD hS ls hl
  obtain ⟨hl9, hx, hb, hml, hown, hts, hX, hbl, hbA, hK, hA, hE, hL⟩ := C
  refine lv_iinc (v := (nI (i + 5))) (lv' := [(4, .int (nI (i + 5))), (0, .ref b), (1, .ref k0), (2, .ref m0), (3, .ref o0)]) hx hb dL_law_1405 hl (k := 4) rfl (i5 i) (by decide) rfl (fun ls hl => ?_)
  refine lv_goto (tgt := 33) hx hb dL_law_1408 (by decide) ?_
  exact h powered stepsDone gap th pf mh of hR H locs hP hD hS ls (lv_sub hl [1, 2, 3, 4, 0] rfl)
theorem inc1 {p : Program} {l : Launch} {e : Env} {s : State} {m : MethodId} {below : List Frame} {meth : Method} {c : Code} {D : va_G} {aI aL aZ : ClassId} {b L : Nat} {xs : Nat → Int32} {A : Nat → Prop} {n : Nat} {i : Nat} {k0 h4 h5 m0 ah a_places a_speeds a_most a_gains a_brakes a_slows a_rides a_doors a_doorPlaces a_opened a_wide a_holds a_loads a_mostLoads a_beams a_contacts a_fires a_ways a_calls a_callCounts a_wears o0 h0 h1 h2 h3 cells slots : Nat} (C : lwC l p s m c b L xs D aI aL aZ A) (h : K1 p l e s m below meth c D aI aL aZ b A (lw_Z below #[Value.ref b] s) (i + 5) n k0 h4 h5 m0 ah a_places a_speeds a_most a_gains a_brakes a_slows a_rides a_doors a_doorPlaces a_opened a_wide a_holds a_loads a_mostLoads a_beams a_contacts a_fires a_ways a_calls a_callCounts a_wears o0 h0 h1 h2 h3 33 cells slots) : K1 p l e s m below meth c D aI aL aZ b A (lw_Z below #[Value.ref b] s) i n k0 h4 h5 m0 ah a_places a_speeds a_most a_gains a_brakes a_slows a_rides a_doors a_doorPlaces a_opened a_wide a_holds a_loads a_mostLoads a_beams a_contacts a_fires a_ways a_calls a_callCounts a_wears o0 h0 h1 h2 h3 1405 cells slots := by
  intro powered stepsDone gap th pf mh of place speed way topSpeed gain brake darkSpeed rideSpeed kilos mostKilos openContacts fireFloor ride starts distance hardFalls dstate dplace dplaces dhold dsteps dbeam dob doc ccount cover cf mc hR H locs hP hD hS ls hl
  obtain ⟨hl9, hx, hb, hml, hown, hts, hX, hbl, hbA, hK, hA, hE, hL⟩ := C
  refine lv_iinc (v := (nI (i + 5))) (lv' := [(4, .int (nI (i + 5))), (0, .ref b), (1, .ref k0), (2, .ref m0), (3, .ref o0)]) hx hb dL_law_1405 hl (k := 4) rfl (i5 i) (by decide) rfl (fun ls hl => ?_)
  refine lv_goto (tgt := 33) hx hb dL_law_1408 (by decide) ?_
  exact h powered stepsDone gap th pf mh of place speed way topSpeed gain brake darkSpeed rideSpeed kilos mostKilos openContacts fireFloor ride starts distance hardFalls dstate dplace dplaces dhold dsteps dbeam dob doc ccount cover cf mc hR H locs hP hD hS ls (lv_sub hl [1, 2, 3, 4, 0] rfl)
theorem inc2 {p : Program} {l : Launch} {e : Env} {s : State} {m : MethodId} {below : List Frame} {meth : Method} {c : Code} {D : va_G} {aI aL aZ : ClassId} {b L : Nat} {xs : Nat → Int32} {A : Nat → Prop} {n : Nat} {i : Nat} {k0 h4 h5 m0 ah a_places a_speeds a_most a_gains a_brakes a_slows a_rides a_doors a_doorPlaces a_opened a_wide a_holds a_loads a_mostLoads a_beams a_contacts a_fires a_ways a_calls a_callCounts a_wears o0 h0 h1 h2 h3 g0 g1 g2 g3 cells slots : Nat} (C : lwC l p s m c b L xs D aI aL aZ A) (h : K2 p l e s m below meth c D aI aL aZ b A (lw_Z below #[Value.ref b] s) (i + 5) n k0 h4 h5 m0 ah a_places a_speeds a_most a_gains a_brakes a_slows a_rides a_doors a_doorPlaces a_opened a_wide a_holds a_loads a_mostLoads a_beams a_contacts a_fires a_ways a_calls a_callCounts a_wears o0 h0 h1 h2 h3 g0 g1 g2 g3 33 cells slots) : K2 p l e s m below meth c D aI aL aZ b A (lw_Z below #[Value.ref b] s) i n k0 h4 h5 m0 ah a_places a_speeds a_most a_gains a_brakes a_slows a_rides a_doors a_doorPlaces a_opened a_wide a_holds a_loads a_mostLoads a_beams a_contacts a_fires a_ways a_calls a_callCounts a_wears o0 h0 h1 h2 h3 g0 g1 g2 g3 1405 cells slots := by
  intro powered stepsDone gap th pf mh of place speed way topSpeed gain brake darkSpeed rideSpeed kilos mostKilos openContacts fireFloor ride starts distance hardFalls dstate dplace dplaces dhold dsteps dbeam dob doc ccount cover cf mc placeB speedB wayB topSpeedB gainB brakeB darkSpeedB rideSpeedB kilosB mostKilosB openContactsB fireFloorB rideB startsB distanceB hardFallsB dstateB dplaceB dplacesB dholdB dstepsB dbeamB dobB docB ccountB coverB cfB hR H locs hP hD hS ls hl
  obtain ⟨hl9, hx, hb, hml, hown, hts, hX, hbl, hbA, hK, hA, hE, hL⟩ := C
  refine lv_iinc (v := (nI (i + 5))) (lv' := [(4, .int (nI (i + 5))), (0, .ref b), (1, .ref k0), (2, .ref m0), (3, .ref o0)]) hx hb dL_law_1405 hl (k := 4) rfl (i5 i) (by decide) rfl (fun ls hl => ?_)
  refine lv_goto (tgt := 33) hx hb dL_law_1408 (by decide) ?_
  exact h powered stepsDone gap th pf mh of place speed way topSpeed gain brake darkSpeed rideSpeed kilos mostKilos openContacts fireFloor ride starts distance hardFalls dstate dplace dplaces dhold dsteps dbeam dob doc ccount cover cf mc placeB speedB wayB topSpeedB gainB brakeB darkSpeedB rideSpeedB kilosB mostKilosB openContactsB fireFloorB rideB startsB distanceB hardFallsB dstateB dplaceB dplacesB dholdB dstepsB dbeamB dobB docB ccountB coverB cfB hR H locs hP hD hS ls (lv_sub hl [1, 2, 3, 4, 0] rfl)
theorem lw_head {p : Program} {l : Launch} {e : Env} {s : State} {m : MethodId} {below : List Frame} {meth : Method} {c : Code} {D : va_G} {aI aL aZ : ClassId} {b L : Nat} {xs : Nat → Int32} {A : Nat → Prop} {n : Nat} {i : Nat} {H : Heap} {locs : List Loc} {cells slots : Nat} {ls : Array Slot} {k0 m0 o0 : Nat} (C : lwC l p s m c b L xs D aI aL aZ A) (hr : meth.sig.returnType = ret) (hlocks : meth.locks = false) (hA1 : ∀ q, A q → s.heap.size ≤ q) (hi : i ≤ 2600) (hc : cells ≤ 601024) (hsl : slots ≤ 7293000)
    (hS : va_S A s.heap H locs) (hl : lv_has ls 7 [(0, .ref b), (1, .ref k0), (2, .ref m0), (3, .ref o0), (4, .int (nI i))]) (kgo : i + 5 ≤ L → W p l e room_1 s m #[Value.ref b] below meth c H locs cells slots (lw_Z below #[Value.ref b] s) (F0 m 49 ls [.int (xs i &&& 31)])) : W p l e room_1 s m #[Value.ref b] below meth c H locs cells slots (lw_Z below #[Value.ref b] s) (F0 m 33 ls []) := by
  obtain ⟨hl9, hx, hb, hml, hown, hts, hX, hbl, hbA, hK, hA, hE, hL⟩ := C
  refine lv_iload hx hb dL_law_33 (lv_at hl 4 rfl) ?_
  refine lv_aload_n hx hb dL_law_35 rfl (lv_at hl 0 rfl) ?_
  refine va_slen hx hb hX hbl hbA hS dL_law_36 ?_
  refine lv_iconst (v := 5) hx hb dL_law_37 (by decide) ?_
  refine lv_isub hx hb dL_law_38 ?_
  refine lv_icmp_gt (tgt := 1411) hx hb dL_law_39 (by decide) (fun c1 => ?_) (fun c1 => ?_)
  · refine lv_iconst (v := 1) hx hb dL_law_1411 (by decide) ?_
    refine va_forget (fun q hq => hA1 _ (hS.2.2 q hq)) ?_
    refine W.widen (k := 601024) (n := 7293000) hc hsl ?_
    exact lw_ret hx hb hr hlocks dL_law_1412
  · have hi5 : i + 5 ≤ L := Decidable.not_not.mp (fun q => c1 ((gtL hL hi).mpr q))
    refine lv_aload_n hx hb dL_law_42 rfl (lv_at hl 0 rfl) ?_
    refine lv_iload hx hb dL_law_43 (lv_at hl 4 rfl) ?_
    refine va_sld hx hb hX hbl hbA hS (vp_in_nI (by omega) (by omega)) dL_law_45 ?_
    refine lv_topi (fun y hy => ?_)
    obtain rfl : y = xs i := hy.trans (congrArg xs (nI_clamp (by omega)))
    refine lv_bipush (v := 31) hx hb dL_law_46 (by decide) ?_
    refine lv_iand hx hb dL_law_48 ?_
    exact kgo hi5
set_option maxHeartbeats 4000000 in
set_option maxRecDepth 100000 in
theorem lawp2 {p : Program} {l : Launch} {e : Env} {s : State} {m : MethodId} {below : List Frame} {meth : Method} {c : Code} {D : va_G} {aI aL aZ : ClassId} {b L : Nat} {xs : Nat → Int32} {A : Nat → Prop} {n : Nat} (k0 h4 h5 m0 ah a_places a_speeds a_most a_gains a_brakes a_slows a_rides a_doors a_doorPlaces a_opened a_wide a_holds a_loads a_mostLoads a_beams a_contacts a_fires a_ways a_calls a_callCounts a_wears o0 h0 h1 h2 h3 g0 g1 g2 g3 : Nat) (C : lwC l p s m c b L xs D aI aL aZ A) (hr : meth.sig.returnType = ret) (hlocks : meth.locks = false) (hA1 : ∀ q, A q → s.heap.size ≤ q) : ∀ (k i cells slots : Nat), L < i + 5 + 5 * k → i ≤ 2600 → cells + 8 * k ≤ 601024 → slots + 200 * k ≤ 7293000 → K2 p l e s m below meth c D aI aL aZ b A (lw_Z below #[Value.ref b] s) i n k0 h4 h5 m0 ah a_places a_speeds a_most a_gains a_brakes a_slows a_rides a_doors a_doorPlaces a_opened a_wide a_holds a_loads a_mostLoads a_beams a_contacts a_fires a_ways a_calls a_callCounts a_wears o0 h0 h1 h2 h3 g0 g1 g2 g3 33 cells slots := by
  intro k
  induction k with
  | zero =>
    intro i cells slots q1 q2 q3 q4 powered stepsDone gap th pf mh of place speed way topSpeed gain brake darkSpeed rideSpeed kilos mostKilos openContacts fireFloor ride starts distance hardFalls dstate dplace dplaces dhold dsteps dbeam dob doc ccount cover cf mc placeB speedB wayB topSpeedB gainB brakeB darkSpeedB rideSpeedB kilosB mostKilosB openContactsB fireFloorB rideB startsB distanceB hardFallsB dstateB dplaceB dplacesB dholdB dstepsB dbeamB dobB docB ccountB coverB cfB hR H locs hP hD hS ls hl
    exact lw_head (n := n) C hr hlocks hA1 q2 (by omega) (by omega) hS hl (fun hi => absurd hi (by omega))
  | succ k ih =>
    intro i cells slots q1 q2 q3 q4 powered stepsDone gap th pf mh of place speed way topSpeed gain brake darkSpeed rideSpeed kilos mostKilos openContacts fireFloor ride starts distance hardFalls dstate dplace dplaces dhold dsteps dbeam dob doc ccount cover cf mc placeB speedB wayB topSpeedB gainB brakeB darkSpeedB rideSpeedB kilosB mostKilosB openContactsB fireFloorB rideB startsB distanceB hardFallsB dstateB dplaceB dplacesB dholdB dstepsB dbeamB dobB docB ccountB coverB cfB hR H locs hP hD hS ls hl
    refine lw_head (n := n) C hr hlocks hA1 q2 (by omega) (by omega) hS hl (fun hi => ?_)
    have hL : L ≤ 2561 := C.2.2.2.2.2.2.2.2.2.2.2.2
    have hx : p.tables.exec = Jvm.exec := C.2.1
    have hb : c.code = code := C.2.2.1
    have hce : cells + 8 ≤ 601024 := by omega
    have hsl : slots + 200 ≤ 7293000 := by omega
    have kk : K2 p l e s m below meth c D aI aL aZ b A (lw_Z below #[Value.ref b] s) i n k0 h4 h5 m0 ah a_places a_speeds a_most a_gains a_brakes a_slows a_rides a_doors a_doorPlaces a_opened a_wide a_holds a_loads a_mostLoads a_beams a_contacts a_fires a_ways a_calls a_callCounts a_wears o0 h0 h1 h2 h3 g0 g1 g2 g3 1405 (cells + 8) (slots + 200) := inc2 C (ih (i + 5) (cells + 8) (slots + 200) (by omega) (by omega) (by omega) (by omega))
    by_cases c0 : xs i &&& 31 = 0
    · refine lv_tableIn (off := 91) (tgt := 140) hx hb dL_law_49 (by rw [c0]; decide) (by rw [c0]; decide) (by rw [c0]; rfl) (by decide) ?_
      exact s_height_2 C hi hce hsl kk powered stepsDone gap th pf mh of place speed way topSpeed gain brake darkSpeed rideSpeed kilos mostKilos openContacts fireFloor ride starts distance hardFalls dstate dplace dplaces dhold dsteps dbeam dob doc ccount cover cf mc placeB speedB wayB topSpeedB gainB brakeB darkSpeedB rideSpeedB kilosB mostKilosB openContactsB fireFloorB rideB startsB distanceB hardFallsB dstateB dplaceB dplacesB dholdB dstepsB dbeamB dobB docB ccountB coverB cfB hR H locs hP hD hS ls hl
    · skip
      by_cases c1 : xs i &&& 31 = 1
      · refine lv_tableIn (off := 159) (tgt := 208) hx hb dL_law_49 (by rw [c1]; decide) (by rw [c1]; decide) (by rw [c1]; rfl) (by decide) ?_
        exact s_gap_2 C hi hce hsl kk powered stepsDone gap th pf mh of place speed way topSpeed gain brake darkSpeed rideSpeed kilos mostKilos openContacts fireFloor ride starts distance hardFalls dstate dplace dplaces dhold dsteps dbeam dob doc ccount cover cf mc placeB speedB wayB topSpeedB gainB brakeB darkSpeedB rideSpeedB kilosB mostKilosB openContactsB fireFloorB rideB startsB distanceB hardFallsB dstateB dplaceB dplacesB dholdB dstepsB dbeamB dobB docB ccountB coverB cfB hR H locs hP hD hS ls hl
      · skip
        by_cases c2 : xs i &&& 31 = 2
        · refine lv_tableIn (off := 215) (tgt := 264) hx hb dL_law_49 (by rw [c2]; decide) (by rw [c2]; decide) (by rw [c2]; rfl) (by decide) ?_
          exact s_car_2 C hi hce hsl kk powered stepsDone gap th pf mh of place speed way topSpeed gain brake darkSpeed rideSpeed kilos mostKilos openContacts fireFloor ride starts distance hardFalls dstate dplace dplaces dhold dsteps dbeam dob doc ccount cover cf mc placeB speedB wayB topSpeedB gainB brakeB darkSpeedB rideSpeedB kilosB mostKilosB openContactsB fireFloorB rideB startsB distanceB hardFallsB dstateB dplaceB dplacesB dholdB dstepsB dbeamB dobB docB ccountB coverB cfB hR H locs hP hD hS ls hl
        · skip
          by_cases c3 : xs i &&& 31 = 3
          · refine lv_tableIn (off := 271) (tgt := 320) hx hb dL_law_49 (by rw [c3]; decide) (by rw [c3]; decide) (by rw [c3]; rfl) (by decide) ?_
            by_cases z1 : xs (i + 1) = 0
            · exact s_rates_20 C hi z1 hce hsl kk powered stepsDone gap th pf mh of place speed way topSpeed gain brake darkSpeed rideSpeed kilos mostKilos openContacts fireFloor ride starts distance hardFalls dstate dplace dplaces dhold dsteps dbeam dob doc ccount cover cf mc placeB speedB wayB topSpeedB gainB brakeB darkSpeedB rideSpeedB kilosB mostKilosB openContactsB fireFloorB rideB startsB distanceB hardFallsB dstateB dplaceB dplacesB dholdB dstepsB dbeamB dobB docB ccountB coverB cfB hR H locs hP hD hS ls hl
            · by_cases z2 : xs (i + 1) = 1
              · exact s_rates_21 C hi z2 hce hsl kk powered stepsDone gap th pf mh of place speed way topSpeed gain brake darkSpeed rideSpeed kilos mostKilos openContacts fireFloor ride starts distance hardFalls dstate dplace dplaces dhold dsteps dbeam dob doc ccount cover cf mc placeB speedB wayB topSpeedB gainB brakeB darkSpeedB rideSpeedB kilosB mostKilosB openContactsB fireFloorB rideB startsB distanceB hardFallsB dstateB dplaceB dplacesB dholdB dstepsB dbeamB dobB docB ccountB coverB cfB hR H locs hP hD hS ls hl
              · exact s_rates_2x C hi z1 z2 hce hsl kk powered stepsDone gap th pf mh of place speed way topSpeed gain brake darkSpeed rideSpeed kilos mostKilos openContacts fireFloor ride starts distance hardFalls dstate dplace dplaces dhold dsteps dbeam dob doc ccount cover cf mc placeB speedB wayB topSpeedB gainB brakeB darkSpeedB rideSpeedB kilosB mostKilosB openContactsB fireFloorB rideB startsB distanceB hardFallsB dstateB dplaceB dplacesB dholdB dstepsB dbeamB dobB docB ccountB coverB cfB hR H locs hP hD hS ls hl
          · skip
            by_cases c4 : xs i &&& 31 = 4
            · refine lv_tableIn (off := 343) (tgt := 392) hx hb dL_law_49 (by rw [c4]; decide) (by rw [c4]; decide) (by rw [c4]; rfl) (by decide) ?_
              by_cases z1 : xs (i + 1) = 0
              · exact s_slow_20 C hi z1 hce hsl kk powered stepsDone gap th pf mh of place speed way topSpeed gain brake darkSpeed rideSpeed kilos mostKilos openContacts fireFloor ride starts distance hardFalls dstate dplace dplaces dhold dsteps dbeam dob doc ccount cover cf mc placeB speedB wayB topSpeedB gainB brakeB darkSpeedB rideSpeedB kilosB mostKilosB openContactsB fireFloorB rideB startsB distanceB hardFallsB dstateB dplaceB dplacesB dholdB dstepsB dbeamB dobB docB ccountB coverB cfB hR H locs hP hD hS ls hl
              · by_cases z2 : xs (i + 1) = 1
                · exact s_slow_21 C hi z2 hce hsl kk powered stepsDone gap th pf mh of place speed way topSpeed gain brake darkSpeed rideSpeed kilos mostKilos openContacts fireFloor ride starts distance hardFalls dstate dplace dplaces dhold dsteps dbeam dob doc ccount cover cf mc placeB speedB wayB topSpeedB gainB brakeB darkSpeedB rideSpeedB kilosB mostKilosB openContactsB fireFloorB rideB startsB distanceB hardFallsB dstateB dplaceB dplacesB dholdB dstepsB dbeamB dobB docB ccountB coverB cfB hR H locs hP hD hS ls hl
                · exact s_slow_2x C hi z1 z2 hce hsl kk powered stepsDone gap th pf mh of place speed way topSpeed gain brake darkSpeed rideSpeed kilos mostKilos openContacts fireFloor ride starts distance hardFalls dstate dplace dplaces dhold dsteps dbeam dob doc ccount cover cf mc placeB speedB wayB topSpeedB gainB brakeB darkSpeedB rideSpeedB kilosB mostKilosB openContactsB fireFloorB rideB startsB distanceB hardFallsB dstateB dplaceB dplacesB dholdB dstepsB dbeamB dobB docB ccountB coverB cfB hR H locs hP hD hS ls hl
            · skip
              by_cases c5 : xs i &&& 31 = 5
              · refine lv_tableIn (off := 403) (tgt := 452) hx hb dL_law_49 (by rw [c5]; decide) (by rw [c5]; decide) (by rw [c5]; rfl) (by decide) ?_
                by_cases z1 : xs (i + 1) = 0
                · exact s_door_20 C hi z1 hce hsl kk powered stepsDone gap th pf mh of place speed way topSpeed gain brake darkSpeed rideSpeed kilos mostKilos openContacts fireFloor ride starts distance hardFalls dstate dplace dplaces dhold dsteps dbeam dob doc ccount cover cf mc placeB speedB wayB topSpeedB gainB brakeB darkSpeedB rideSpeedB kilosB mostKilosB openContactsB fireFloorB rideB startsB distanceB hardFallsB dstateB dplaceB dplacesB dholdB dstepsB dbeamB dobB docB ccountB coverB cfB hR H locs hP hD hS ls hl
                · by_cases z2 : xs (i + 1) = 1
                  · exact s_door_21 C hi z2 hce hsl kk powered stepsDone gap th pf mh of place speed way topSpeed gain brake darkSpeed rideSpeed kilos mostKilos openContacts fireFloor ride starts distance hardFalls dstate dplace dplaces dhold dsteps dbeam dob doc ccount cover cf mc placeB speedB wayB topSpeedB gainB brakeB darkSpeedB rideSpeedB kilosB mostKilosB openContactsB fireFloorB rideB startsB distanceB hardFallsB dstateB dplaceB dplacesB dholdB dstepsB dbeamB dobB docB ccountB coverB cfB hR H locs hP hD hS ls hl
                  · exact s_door_2x C hi z1 z2 hce hsl kk powered stepsDone gap th pf mh of place speed way topSpeed gain brake darkSpeed rideSpeed kilos mostKilos openContacts fireFloor ride starts distance hardFalls dstate dplace dplaces dhold dsteps dbeam dob doc ccount cover cf mc placeB speedB wayB topSpeedB gainB brakeB darkSpeedB rideSpeedB kilosB mostKilosB openContactsB fireFloorB rideB startsB distanceB hardFallsB dstateB dplaceB dplacesB dholdB dstepsB dbeamB dobB docB ccountB coverB cfB hR H locs hP hD hS ls hl
              · skip
                by_cases c6 : xs i &&& 31 = 6
                · refine lv_tableIn (off := 463) (tgt := 512) hx hb dL_law_49 (by rw [c6]; decide) (by rw [c6]; decide) (by rw [c6]; rfl) (by decide) ?_
                  by_cases z1 : xs (i + 1) = 0
                  · exact s_go_20 C hi z1 hce hsl kk powered stepsDone gap th pf mh of place speed way topSpeed gain brake darkSpeed rideSpeed kilos mostKilos openContacts fireFloor ride starts distance hardFalls dstate dplace dplaces dhold dsteps dbeam dob doc ccount cover cf mc placeB speedB wayB topSpeedB gainB brakeB darkSpeedB rideSpeedB kilosB mostKilosB openContactsB fireFloorB rideB startsB distanceB hardFallsB dstateB dplaceB dplacesB dholdB dstepsB dbeamB dobB docB ccountB coverB cfB hR H locs hP hD hS ls hl
                  · by_cases z2 : xs (i + 1) = 1
                    · exact s_go_21 C hi z2 hce hsl kk powered stepsDone gap th pf mh of place speed way topSpeed gain brake darkSpeed rideSpeed kilos mostKilos openContacts fireFloor ride starts distance hardFalls dstate dplace dplaces dhold dsteps dbeam dob doc ccount cover cf mc placeB speedB wayB topSpeedB gainB brakeB darkSpeedB rideSpeedB kilosB mostKilosB openContactsB fireFloorB rideB startsB distanceB hardFallsB dstateB dplaceB dplacesB dholdB dstepsB dbeamB dobB docB ccountB coverB cfB hR H locs hP hD hS ls hl
                    · exact s_go_2x C hi z1 z2 hce hsl kk powered stepsDone gap th pf mh of place speed way topSpeed gain brake darkSpeed rideSpeed kilos mostKilos openContacts fireFloor ride starts distance hardFalls dstate dplace dplaces dhold dsteps dbeam dob doc ccount cover cf mc placeB speedB wayB topSpeedB gainB brakeB darkSpeedB rideSpeedB kilosB mostKilosB openContactsB fireFloorB rideB startsB distanceB hardFallsB dstateB dplaceB dplacesB dholdB dstepsB dbeamB dobB docB ccountB coverB cfB hR H locs hP hD hS ls hl
                · skip
                  by_cases c7 : xs i &&& 31 = 7
                  · refine lv_tableIn (off := 531) (tgt := 580) hx hb dL_law_49 (by rw [c7]; decide) (by rw [c7]; decide) (by rw [c7]; rfl) (by decide) ?_
                    by_cases z1 : xs (i + 1) = 0
                    · exact s_open_20 C hi z1 hce hsl kk powered stepsDone gap th pf mh of place speed way topSpeed gain brake darkSpeed rideSpeed kilos mostKilos openContacts fireFloor ride starts distance hardFalls dstate dplace dplaces dhold dsteps dbeam dob doc ccount cover cf mc placeB speedB wayB topSpeedB gainB brakeB darkSpeedB rideSpeedB kilosB mostKilosB openContactsB fireFloorB rideB startsB distanceB hardFallsB dstateB dplaceB dplacesB dholdB dstepsB dbeamB dobB docB ccountB coverB cfB hR H locs hP hD hS ls hl
                    · by_cases z2 : xs (i + 1) = 1
                      · exact s_open_21 C hi z2 hce hsl kk powered stepsDone gap th pf mh of place speed way topSpeed gain brake darkSpeed rideSpeed kilos mostKilos openContacts fireFloor ride starts distance hardFalls dstate dplace dplaces dhold dsteps dbeam dob doc ccount cover cf mc placeB speedB wayB topSpeedB gainB brakeB darkSpeedB rideSpeedB kilosB mostKilosB openContactsB fireFloorB rideB startsB distanceB hardFallsB dstateB dplaceB dplacesB dholdB dstepsB dbeamB dobB docB ccountB coverB cfB hR H locs hP hD hS ls hl
                      · exact s_open_2x C hi z1 z2 hce hsl kk powered stepsDone gap th pf mh of place speed way topSpeed gain brake darkSpeed rideSpeed kilos mostKilos openContacts fireFloor ride starts distance hardFalls dstate dplace dplaces dhold dsteps dbeam dob doc ccount cover cf mc placeB speedB wayB topSpeedB gainB brakeB darkSpeedB rideSpeedB kilosB mostKilosB openContactsB fireFloorB rideB startsB distanceB hardFallsB dstateB dplaceB dplacesB dholdB dstepsB dbeamB dobB docB ccountB coverB cfB hR H locs hP hD hS ls hl
                  · skip
                    by_cases c8 : xs i &&& 31 = 8
                    · refine lv_tableIn (off := 594) (tgt := 643) hx hb dL_law_49 (by rw [c8]; decide) (by rw [c8]; decide) (by rw [c8]; rfl) (by decide) ?_
                      by_cases z1 : xs (i + 1) = 0
                      · exact s_close_20 C hi z1 hce hsl kk powered stepsDone gap th pf mh of place speed way topSpeed gain brake darkSpeed rideSpeed kilos mostKilos openContacts fireFloor ride starts distance hardFalls dstate dplace dplaces dhold dsteps dbeam dob doc ccount cover cf mc placeB speedB wayB topSpeedB gainB brakeB darkSpeedB rideSpeedB kilosB mostKilosB openContactsB fireFloorB rideB startsB distanceB hardFallsB dstateB dplaceB dplacesB dholdB dstepsB dbeamB dobB docB ccountB coverB cfB hR H locs hP hD hS ls hl
                      · by_cases z2 : xs (i + 1) = 1
                        · exact s_close_21 C hi z2 hce hsl kk powered stepsDone gap th pf mh of place speed way topSpeed gain brake darkSpeed rideSpeed kilos mostKilos openContacts fireFloor ride starts distance hardFalls dstate dplace dplaces dhold dsteps dbeam dob doc ccount cover cf mc placeB speedB wayB topSpeedB gainB brakeB darkSpeedB rideSpeedB kilosB mostKilosB openContactsB fireFloorB rideB startsB distanceB hardFallsB dstateB dplaceB dplacesB dholdB dstepsB dbeamB dobB docB ccountB coverB cfB hR H locs hP hD hS ls hl
                        · exact s_close_2x C hi z1 z2 hce hsl kk powered stepsDone gap th pf mh of place speed way topSpeed gain brake darkSpeed rideSpeed kilos mostKilos openContacts fireFloor ride starts distance hardFalls dstate dplace dplaces dhold dsteps dbeam dob doc ccount cover cf mc placeB speedB wayB topSpeedB gainB brakeB darkSpeedB rideSpeedB kilosB mostKilosB openContactsB fireFloorB rideB startsB distanceB hardFallsB dstateB dplaceB dplacesB dholdB dstepsB dbeamB dobB docB ccountB coverB cfB hR H locs hP hD hS ls hl
                    · skip
                      by_cases c9 : xs i &&& 31 = 9
                      · refine lv_tableIn (off := 657) (tgt := 706) hx hb dL_law_49 (by rw [c9]; decide) (by rw [c9]; decide) (by rw [c9]; rfl) (by decide) ?_
                        by_cases z1 : xs (i + 1) = 0
                        · exact s_beam_20 C hi z1 hce hsl kk powered stepsDone gap th pf mh of place speed way topSpeed gain brake darkSpeed rideSpeed kilos mostKilos openContacts fireFloor ride starts distance hardFalls dstate dplace dplaces dhold dsteps dbeam dob doc ccount cover cf mc placeB speedB wayB topSpeedB gainB brakeB darkSpeedB rideSpeedB kilosB mostKilosB openContactsB fireFloorB rideB startsB distanceB hardFallsB dstateB dplaceB dplacesB dholdB dstepsB dbeamB dobB docB ccountB coverB cfB hR H locs hP hD hS ls hl
                        · by_cases z2 : xs (i + 1) = 1
                          · exact s_beam_21 C hi z2 hce hsl kk powered stepsDone gap th pf mh of place speed way topSpeed gain brake darkSpeed rideSpeed kilos mostKilos openContacts fireFloor ride starts distance hardFalls dstate dplace dplaces dhold dsteps dbeam dob doc ccount cover cf mc placeB speedB wayB topSpeedB gainB brakeB darkSpeedB rideSpeedB kilosB mostKilosB openContactsB fireFloorB rideB startsB distanceB hardFallsB dstateB dplaceB dplacesB dholdB dstepsB dbeamB dobB docB ccountB coverB cfB hR H locs hP hD hS ls hl
                          · exact s_beam_2x C hi z1 z2 hce hsl kk powered stepsDone gap th pf mh of place speed way topSpeed gain brake darkSpeed rideSpeed kilos mostKilos openContacts fireFloor ride starts distance hardFalls dstate dplace dplaces dhold dsteps dbeam dob doc ccount cover cf mc placeB speedB wayB topSpeedB gainB brakeB darkSpeedB rideSpeedB kilosB mostKilosB openContactsB fireFloorB rideB startsB distanceB hardFallsB dstateB dplaceB dplacesB dholdB dstepsB dbeamB dobB docB ccountB coverB cfB hR H locs hP hD hS ls hl
                      · skip
                        by_cases c10 : xs i &&& 31 = 10
                        · refine lv_tableIn (off := 748) (tgt := 797) hx hb dL_law_49 (by rw [c10]; decide) (by rw [c10]; decide) (by rw [c10]; rfl) (by decide) ?_
                          by_cases z1 : xs (i + 1) = 0
                          · exact s_contact_20 C hi z1 hce hsl kk powered stepsDone gap th pf mh of place speed way topSpeed gain brake darkSpeed rideSpeed kilos mostKilos openContacts fireFloor ride starts distance hardFalls dstate dplace dplaces dhold dsteps dbeam dob doc ccount cover cf mc placeB speedB wayB topSpeedB gainB brakeB darkSpeedB rideSpeedB kilosB mostKilosB openContactsB fireFloorB rideB startsB distanceB hardFallsB dstateB dplaceB dplacesB dholdB dstepsB dbeamB dobB docB ccountB coverB cfB hR H locs hP hD hS ls hl
                          · by_cases z2 : xs (i + 1) = 1
                            · exact s_contact_21 C hi z2 hce hsl kk powered stepsDone gap th pf mh of place speed way topSpeed gain brake darkSpeed rideSpeed kilos mostKilos openContacts fireFloor ride starts distance hardFalls dstate dplace dplaces dhold dsteps dbeam dob doc ccount cover cf mc placeB speedB wayB topSpeedB gainB brakeB darkSpeedB rideSpeedB kilosB mostKilosB openContactsB fireFloorB rideB startsB distanceB hardFallsB dstateB dplaceB dplacesB dholdB dstepsB dbeamB dobB docB ccountB coverB cfB hR H locs hP hD hS ls hl
                            · exact s_contact_2x C hi z1 z2 hce hsl kk powered stepsDone gap th pf mh of place speed way topSpeed gain brake darkSpeed rideSpeed kilos mostKilos openContacts fireFloor ride starts distance hardFalls dstate dplace dplaces dhold dsteps dbeam dob doc ccount cover cf mc placeB speedB wayB topSpeedB gainB brakeB darkSpeedB rideSpeedB kilosB mostKilosB openContactsB fireFloorB rideB startsB distanceB hardFallsB dstateB dplaceB dplacesB dholdB dstepsB dbeamB dobB docB ccountB coverB cfB hR H locs hP hD hS ls hl
                        · skip
                          by_cases c11 : xs i &&& 31 = 11
                          · refine lv_tableIn (off := 851) (tgt := 900) hx hb dL_law_49 (by rw [c11]; decide) (by rw [c11]; decide) (by rw [c11]; rfl) (by decide) ?_
                            by_cases z1 : xs (i + 1) = 0
                            · exact s_load_20 C hi z1 hce hsl kk powered stepsDone gap th pf mh of place speed way topSpeed gain brake darkSpeed rideSpeed kilos mostKilos openContacts fireFloor ride starts distance hardFalls dstate dplace dplaces dhold dsteps dbeam dob doc ccount cover cf mc placeB speedB wayB topSpeedB gainB brakeB darkSpeedB rideSpeedB kilosB mostKilosB openContactsB fireFloorB rideB startsB distanceB hardFallsB dstateB dplaceB dplacesB dholdB dstepsB dbeamB dobB docB ccountB coverB cfB hR H locs hP hD hS ls hl
                            · by_cases z2 : xs (i + 1) = 1
                              · exact s_load_21 C hi z2 hce hsl kk powered stepsDone gap th pf mh of place speed way topSpeed gain brake darkSpeed rideSpeed kilos mostKilos openContacts fireFloor ride starts distance hardFalls dstate dplace dplaces dhold dsteps dbeam dob doc ccount cover cf mc placeB speedB wayB topSpeedB gainB brakeB darkSpeedB rideSpeedB kilosB mostKilosB openContactsB fireFloorB rideB startsB distanceB hardFallsB dstateB dplaceB dplacesB dholdB dstepsB dbeamB dobB docB ccountB coverB cfB hR H locs hP hD hS ls hl
                              · exact s_load_2x C hi z1 z2 hce hsl kk powered stepsDone gap th pf mh of place speed way topSpeed gain brake darkSpeed rideSpeed kilos mostKilos openContacts fireFloor ride starts distance hardFalls dstate dplace dplaces dhold dsteps dbeam dob doc ccount cover cf mc placeB speedB wayB topSpeedB gainB brakeB darkSpeedB rideSpeedB kilosB mostKilosB openContactsB fireFloorB rideB startsB distanceB hardFallsB dstateB dplaceB dplacesB dholdB dstepsB dbeamB dobB docB ccountB coverB cfB hR H locs hP hD hS ls hl
                          · skip
                            by_cases c12 : xs i &&& 31 = 12
                            · refine lv_tableIn (off := 919) (tgt := 968) hx hb dL_law_49 (by rw [c12]; decide) (by rw [c12]; decide) (by rw [c12]; rfl) (by decide) ?_
                              by_cases z1 : xs (i + 1) = 0
                              · exact s_most_20 C hi z1 hce hsl kk powered stepsDone gap th pf mh of place speed way topSpeed gain brake darkSpeed rideSpeed kilos mostKilos openContacts fireFloor ride starts distance hardFalls dstate dplace dplaces dhold dsteps dbeam dob doc ccount cover cf mc placeB speedB wayB topSpeedB gainB brakeB darkSpeedB rideSpeedB kilosB mostKilosB openContactsB fireFloorB rideB startsB distanceB hardFallsB dstateB dplaceB dplacesB dholdB dstepsB dbeamB dobB docB ccountB coverB cfB hR H locs hP hD hS ls hl
                              · by_cases z2 : xs (i + 1) = 1
                                · exact s_most_21 C hi z2 hce hsl kk powered stepsDone gap th pf mh of place speed way topSpeed gain brake darkSpeed rideSpeed kilos mostKilos openContacts fireFloor ride starts distance hardFalls dstate dplace dplaces dhold dsteps dbeam dob doc ccount cover cf mc placeB speedB wayB topSpeedB gainB brakeB darkSpeedB rideSpeedB kilosB mostKilosB openContactsB fireFloorB rideB startsB distanceB hardFallsB dstateB dplaceB dplacesB dholdB dstepsB dbeamB dobB docB ccountB coverB cfB hR H locs hP hD hS ls hl
                                · exact s_most_2x C hi z1 z2 hce hsl kk powered stepsDone gap th pf mh of place speed way topSpeed gain brake darkSpeed rideSpeed kilos mostKilos openContacts fireFloor ride starts distance hardFalls dstate dplace dplaces dhold dsteps dbeam dob doc ccount cover cf mc placeB speedB wayB topSpeedB gainB brakeB darkSpeedB rideSpeedB kilosB mostKilosB openContactsB fireFloorB rideB startsB distanceB hardFallsB dstateB dplaceB dplacesB dholdB dstepsB dbeamB dobB docB ccountB coverB cfB hR H locs hP hD hS ls hl
                            · skip
                              by_cases c13 : xs i &&& 31 = 13
                              · refine lv_tableIn (off := 987) (tgt := 1036) hx hb dL_law_49 (by rw [c13]; decide) (by rw [c13]; decide) (by rw [c13]; rfl) (by decide) ?_
                                by_cases z1 : xs (i + 1) = 0
                                · exact s_fire_20 C hi z1 hce hsl kk powered stepsDone gap th pf mh of place speed way topSpeed gain brake darkSpeed rideSpeed kilos mostKilos openContacts fireFloor ride starts distance hardFalls dstate dplace dplaces dhold dsteps dbeam dob doc ccount cover cf mc placeB speedB wayB topSpeedB gainB brakeB darkSpeedB rideSpeedB kilosB mostKilosB openContactsB fireFloorB rideB startsB distanceB hardFallsB dstateB dplaceB dplacesB dholdB dstepsB dbeamB dobB docB ccountB coverB cfB hR H locs hP hD hS ls hl
                                · by_cases z2 : xs (i + 1) = 1
                                  · exact s_fire_21 C hi z2 hce hsl kk powered stepsDone gap th pf mh of place speed way topSpeed gain brake darkSpeed rideSpeed kilos mostKilos openContacts fireFloor ride starts distance hardFalls dstate dplace dplaces dhold dsteps dbeam dob doc ccount cover cf mc placeB speedB wayB topSpeedB gainB brakeB darkSpeedB rideSpeedB kilosB mostKilosB openContactsB fireFloorB rideB startsB distanceB hardFallsB dstateB dplaceB dplacesB dholdB dstepsB dbeamB dobB docB ccountB coverB cfB hR H locs hP hD hS ls hl
                                  · exact s_fire_2x C hi z1 z2 hce hsl kk powered stepsDone gap th pf mh of place speed way topSpeed gain brake darkSpeed rideSpeed kilos mostKilos openContacts fireFloor ride starts distance hardFalls dstate dplace dplaces dhold dsteps dbeam dob doc ccount cover cf mc placeB speedB wayB topSpeedB gainB brakeB darkSpeedB rideSpeedB kilosB mostKilosB openContactsB fireFloorB rideB startsB distanceB hardFallsB dstateB dplaceB dplacesB dholdB dstepsB dbeamB dobB docB ccountB coverB cfB hR H locs hP hD hS ls hl
                              · skip
                                by_cases c14 : xs i &&& 31 = 14
                                · refine lv_tableIn (off := 1055) (tgt := 1104) hx hb dL_law_49 (by rw [c14]; decide) (by rw [c14]; decide) (by rw [c14]; rfl) (by decide) ?_
                                  by_cases z1 : xs (i + 1) = 0
                                  · exact s_inspect_20 C hi z1 hce hsl kk powered stepsDone gap th pf mh of place speed way topSpeed gain brake darkSpeed rideSpeed kilos mostKilos openContacts fireFloor ride starts distance hardFalls dstate dplace dplaces dhold dsteps dbeam dob doc ccount cover cf mc placeB speedB wayB topSpeedB gainB brakeB darkSpeedB rideSpeedB kilosB mostKilosB openContactsB fireFloorB rideB startsB distanceB hardFallsB dstateB dplaceB dplacesB dholdB dstepsB dbeamB dobB docB ccountB coverB cfB hR H locs hP hD hS ls hl
                                  · by_cases z2 : xs (i + 1) = 1
                                    · exact s_inspect_21 C hi z2 hce hsl kk powered stepsDone gap th pf mh of place speed way topSpeed gain brake darkSpeed rideSpeed kilos mostKilos openContacts fireFloor ride starts distance hardFalls dstate dplace dplaces dhold dsteps dbeam dob doc ccount cover cf mc placeB speedB wayB topSpeedB gainB brakeB darkSpeedB rideSpeedB kilosB mostKilosB openContactsB fireFloorB rideB startsB distanceB hardFallsB dstateB dplaceB dplacesB dholdB dstepsB dbeamB dobB docB ccountB coverB cfB hR H locs hP hD hS ls hl
                                    · exact s_inspect_2x C hi z1 z2 hce hsl kk powered stepsDone gap th pf mh of place speed way topSpeed gain brake darkSpeed rideSpeed kilos mostKilos openContacts fireFloor ride starts distance hardFalls dstate dplace dplaces dhold dsteps dbeam dob doc ccount cover cf mc placeB speedB wayB topSpeedB gainB brakeB darkSpeedB rideSpeedB kilosB mostKilosB openContactsB fireFloorB rideB startsB distanceB hardFallsB dstateB dplaceB dplacesB dholdB dstepsB dbeamB dobB docB ccountB coverB cfB hR H locs hP hD hS ls hl
                                · skip
                                  by_cases c15 : xs i &&& 31 = 15
                                  · refine lv_tableIn (off := 1123) (tgt := 1172) hx hb dL_law_49 (by rw [c15]; decide) (by rw [c15]; decide) (by rw [c15]; rfl) (by decide) ?_
                                    exact s_power_2 C hi hce hsl kk powered stepsDone gap th pf mh of place speed way topSpeed gain brake darkSpeed rideSpeed kilos mostKilos openContacts fireFloor ride starts distance hardFalls dstate dplace dplaces dhold dsteps dbeam dob doc ccount cover cf mc placeB speedB wayB topSpeedB gainB brakeB darkSpeedB rideSpeedB kilosB mostKilosB openContactsB fireFloorB rideB startsB distanceB hardFallsB dstateB dplaceB dplacesB dholdB dstepsB dbeamB dobB docB ccountB coverB cfB hR H locs hP hD hS ls hl
                                  · skip
                                    by_cases c16 : xs i &&& 31 = 16
                                    · refine lv_tableIn (off := 1164) (tgt := 1213) hx hb dL_law_49 (by rw [c16]; decide) (by rw [c16]; decide) (by rw [c16]; rfl) (by decide) ?_
                                      exact s_steps_2 C hi hce hsl kk powered stepsDone gap th pf mh of place speed way topSpeed gain brake darkSpeed rideSpeed kilos mostKilos openContacts fireFloor ride starts distance hardFalls dstate dplace dplaces dhold dsteps dbeam dob doc ccount cover cf mc placeB speedB wayB topSpeedB gainB brakeB darkSpeedB rideSpeedB kilosB mostKilosB openContactsB fireFloorB rideB startsB distanceB hardFallsB dstateB dplaceB dplacesB dholdB dstepsB dbeamB dobB docB ccountB coverB cfB hR H locs hP hD hS ls hl
                                    · skip
                                      by_cases c17 : xs i &&& 31 = 17
                                      · refine lv_tableIn (off := 1220) (tgt := 1269) hx hb dL_law_49 (by rw [c17]; decide) (by rw [c17]; decide) (by rw [c17]; rfl) (by decide) ?_
                                        by_cases z1 : xs (i + 1) = 0
                                        · exact s_told_20 C hi z1 hce hsl kk powered stepsDone gap th pf mh of place speed way topSpeed gain brake darkSpeed rideSpeed kilos mostKilos openContacts fireFloor ride starts distance hardFalls dstate dplace dplaces dhold dsteps dbeam dob doc ccount cover cf mc placeB speedB wayB topSpeedB gainB brakeB darkSpeedB rideSpeedB kilosB mostKilosB openContactsB fireFloorB rideB startsB distanceB hardFallsB dstateB dplaceB dplacesB dholdB dstepsB dbeamB dobB docB ccountB coverB cfB hR H locs hP hD hS ls hl
                                        · by_cases z2 : xs (i + 1) = 1
                                          · exact s_told_21 C hi z2 hce hsl kk powered stepsDone gap th pf mh of place speed way topSpeed gain brake darkSpeed rideSpeed kilos mostKilos openContacts fireFloor ride starts distance hardFalls dstate dplace dplaces dhold dsteps dbeam dob doc ccount cover cf mc placeB speedB wayB topSpeedB gainB brakeB darkSpeedB rideSpeedB kilosB mostKilosB openContactsB fireFloorB rideB startsB distanceB hardFallsB dstateB dplaceB dplacesB dholdB dstepsB dbeamB dobB docB ccountB coverB cfB hR H locs hP hD hS ls hl
                                          · exact s_told_2x C hi z1 z2 hce hsl kk powered stepsDone gap th pf mh of place speed way topSpeed gain brake darkSpeed rideSpeed kilos mostKilos openContacts fireFloor ride starts distance hardFalls dstate dplace dplaces dhold dsteps dbeam dob doc ccount cover cf mc placeB speedB wayB topSpeedB gainB brakeB darkSpeedB rideSpeedB kilosB mostKilosB openContactsB fireFloorB rideB startsB distanceB hardFallsB dstateB dplaceB dplacesB dholdB dstepsB dbeamB dobB docB ccountB coverB cfB hR H locs hP hD hS ls hl
                                      · skip
                                        by_cases c18 : xs i &&& 31 = 18
                                        · refine lv_tableIn (off := 1288) (tgt := 1337) hx hb dL_law_49 (by rw [c18]; decide) (by rw [c18]; decide) (by rw [c18]; rfl) (by decide) ?_
                                          by_cases z1 : xs (i + 1) = 0
                                          · exact s_wear_20 C hi z1 hce hsl kk powered stepsDone gap th pf mh of place speed way topSpeed gain brake darkSpeed rideSpeed kilos mostKilos openContacts fireFloor ride starts distance hardFalls dstate dplace dplaces dhold dsteps dbeam dob doc ccount cover cf mc placeB speedB wayB topSpeedB gainB brakeB darkSpeedB rideSpeedB kilosB mostKilosB openContactsB fireFloorB rideB startsB distanceB hardFallsB dstateB dplaceB dplacesB dholdB dstepsB dbeamB dobB docB ccountB coverB cfB hR H locs hP hD hS ls hl
                                          · by_cases z2 : xs (i + 1) = 1
                                            · exact s_wear_21 C hi z2 hce hsl kk powered stepsDone gap th pf mh of place speed way topSpeed gain brake darkSpeed rideSpeed kilos mostKilos openContacts fireFloor ride starts distance hardFalls dstate dplace dplaces dhold dsteps dbeam dob doc ccount cover cf mc placeB speedB wayB topSpeedB gainB brakeB darkSpeedB rideSpeedB kilosB mostKilosB openContactsB fireFloorB rideB startsB distanceB hardFallsB dstateB dplaceB dplacesB dholdB dstepsB dbeamB dobB docB ccountB coverB cfB hR H locs hP hD hS ls hl
                                            · exact s_wear_2x C hi z1 z2 hce hsl kk powered stepsDone gap th pf mh of place speed way topSpeed gain brake darkSpeed rideSpeed kilos mostKilos openContacts fireFloor ride starts distance hardFalls dstate dplace dplaces dhold dsteps dbeam dob doc ccount cover cf mc placeB speedB wayB topSpeedB gainB brakeB darkSpeedB rideSpeedB kilosB mostKilosB openContactsB fireFloorB rideB startsB distanceB hardFallsB dstateB dplaceB dplacesB dholdB dstepsB dbeamB dobB docB ccountB coverB cfB hR H locs hP hD hS ls hl
                                        · skip
                                          refine lv_tableOut (tgt := 1405) hx hb dL_law_49 (by have q0 := lv_neT c0 (a := 0) (by decide); have q1 := lv_neT c1 (a := 1) (by decide); have q2 := lv_neT c2 (a := 2) (by decide); have q3 := lv_neT c3 (a := 3) (by decide); have q4 := lv_neT c4 (a := 4) (by decide); have q5 := lv_neT c5 (a := 5) (by decide); have q6 := lv_neT c6 (a := 6) (by decide); have q7 := lv_neT c7 (a := 7) (by decide); have q8 := lv_neT c8 (a := 8) (by decide); have q9 := lv_neT c9 (a := 9) (by decide); have q10 := lv_neT c10 (a := 10) (by decide); have q11 := lv_neT c11 (a := 11) (by decide); have q12 := lv_neT c12 (a := 12) (by decide); have q13 := lv_neT c13 (a := 13) (by decide); have q14 := lv_neT c14 (a := 14) (by decide); have q15 := lv_neT c15 (a := 15) (by decide); have q16 := lv_neT c16 (a := 16) (by decide); have q17 := lv_neT c17 (a := 17) (by decide); have q18 := lv_neT c18 (a := 18) (by decide); omega) (by decide) ?_
                                          exact W.widen (k := cells + 8) (n := slots + 200) (by omega) (by omega) (kk powered stepsDone gap th pf mh of place speed way topSpeed gain brake darkSpeed rideSpeed kilos mostKilos openContacts fireFloor ride starts distance hardFalls dstate dplace dplaces dhold dsteps dbeam dob doc ccount cover cf mc placeB speedB wayB topSpeedB gainB brakeB darkSpeedB rideSpeedB kilosB mostKilosB openContactsB fireFloorB rideB startsB distanceB hardFallsB dstateB dplaceB dplacesB dholdB dstepsB dbeamB dobB docB ccountB coverB cfB hR H locs hP hD hS ls hl)
set_option maxHeartbeats 4000000 in
set_option maxRecDepth 100000 in
theorem lawp1 {p : Program} {l : Launch} {e : Env} {s : State} {m : MethodId} {below : List Frame} {meth : Method} {c : Code} {D : va_G} {aI aL aZ : ClassId} {b L : Nat} {xs : Nat → Int32} {A : Nat → Prop} {n : Nat} (k0 h4 h5 m0 ah a_places a_speeds a_most a_gains a_brakes a_slows a_rides a_doors a_doorPlaces a_opened a_wide a_holds a_loads a_mostLoads a_beams a_contacts a_fires a_ways a_calls a_callCounts a_wears o0 h0 h1 h2 h3 : Nat) (C : lwC l p s m c b L xs D aI aL aZ A) (hr : meth.sig.returnType = ret) (hlocks : meth.locks = false) (hA1 : ∀ q, A q → s.heap.size ≤ q) (lpn : ∀ (g0 g1 g2 g3 : Nat) (k i cells slots : Nat), L < i + 5 + 5 * k → i ≤ 2600 → cells + 8 * k ≤ 601024 → slots + 200 * k ≤ 7293000 → K2 p l e s m below meth c D aI aL aZ b A (lw_Z below #[Value.ref b] s) i n k0 h4 h5 m0 ah a_places a_speeds a_most a_gains a_brakes a_slows a_rides a_doors a_doorPlaces a_opened a_wide a_holds a_loads a_mostLoads a_beams a_contacts a_fires a_ways a_calls a_callCounts a_wears o0 h0 h1 h2 h3 g0 g1 g2 g3 33 cells slots) : ∀ (k i cells slots : Nat), L < i + 5 + 5 * k → i ≤ 2600 → cells + 8 * k ≤ 601024 → slots + 200 * k ≤ 7293000 → K1 p l e s m below meth c D aI aL aZ b A (lw_Z below #[Value.ref b] s) i n k0 h4 h5 m0 ah a_places a_speeds a_most a_gains a_brakes a_slows a_rides a_doors a_doorPlaces a_opened a_wide a_holds a_loads a_mostLoads a_beams a_contacts a_fires a_ways a_calls a_callCounts a_wears o0 h0 h1 h2 h3 33 cells slots := by
  intro k
  induction k with
  | zero =>
    intro i cells slots q1 q2 q3 q4 powered stepsDone gap th pf mh of place speed way topSpeed gain brake darkSpeed rideSpeed kilos mostKilos openContacts fireFloor ride starts distance hardFalls dstate dplace dplaces dhold dsteps dbeam dob doc ccount cover cf mc hR H locs hP hD hS ls hl
    exact lw_head (n := n) C hr hlocks hA1 q2 (by omega) (by omega) hS hl (fun hi => absurd hi (by omega))
  | succ k ih =>
    intro i cells slots q1 q2 q3 q4 powered stepsDone gap th pf mh of place speed way topSpeed gain brake darkSpeed rideSpeed kilos mostKilos openContacts fireFloor ride starts distance hardFalls dstate dplace dplaces dhold dsteps dbeam dob doc ccount cover cf mc hR H locs hP hD hS ls hl
    refine lw_head (n := n) C hr hlocks hA1 q2 (by omega) (by omega) hS hl (fun hi => ?_)
    have hL : L ≤ 2561 := C.2.2.2.2.2.2.2.2.2.2.2.2
    have hx : p.tables.exec = Jvm.exec := C.2.1
    have hb : c.code = code := C.2.2.1
    have hce : cells + 8 ≤ 601024 := by omega
    have hsl : slots + 200 ≤ 7293000 := by omega
    have kk : K1 p l e s m below meth c D aI aL aZ b A (lw_Z below #[Value.ref b] s) i n k0 h4 h5 m0 ah a_places a_speeds a_most a_gains a_brakes a_slows a_rides a_doors a_doorPlaces a_opened a_wide a_holds a_loads a_mostLoads a_beams a_contacts a_fires a_ways a_calls a_callCounts a_wears o0 h0 h1 h2 h3 1405 (cells + 8) (slots + 200) := inc1 C (ih (i + 5) (cells + 8) (slots + 200) (by omega) (by omega) (by omega) (by omega))
    have kk1 : ∀ g0 g1 g2 g3 : Nat, K2 p l e s m below meth c D aI aL aZ b A (lw_Z below #[Value.ref b] s) i n k0 h4 h5 m0 ah a_places a_speeds a_most a_gains a_brakes a_slows a_rides a_doors a_doorPlaces a_opened a_wide a_holds a_loads a_mostLoads a_beams a_contacts a_fires a_ways a_calls a_callCounts a_wears o0 h0 h1 h2 h3 g0 g1 g2 g3 1405 (cells + 8) (slots + 200) := fun g0 g1 g2 g3 => inc2 C (lpn g0 g1 g2 g3 k (i + 5) (cells + 8) (slots + 200) (by omega) (by omega) (by omega) (by omega))
    by_cases c0 : xs i &&& 31 = 0
    · refine lv_tableIn (off := 91) (tgt := 140) hx hb dL_law_49 (by rw [c0]; decide) (by rw [c0]; decide) (by rw [c0]; rfl) (by decide) ?_
      exact s_height_1 C hi hce hsl kk powered stepsDone gap th pf mh of place speed way topSpeed gain brake darkSpeed rideSpeed kilos mostKilos openContacts fireFloor ride starts distance hardFalls dstate dplace dplaces dhold dsteps dbeam dob doc ccount cover cf mc hR H locs hP hD hS ls hl
    · skip
      by_cases c1 : xs i &&& 31 = 1
      · refine lv_tableIn (off := 159) (tgt := 208) hx hb dL_law_49 (by rw [c1]; decide) (by rw [c1]; decide) (by rw [c1]; rfl) (by decide) ?_
        exact s_gap_1 C hi hce hsl kk powered stepsDone gap th pf mh of place speed way topSpeed gain brake darkSpeed rideSpeed kilos mostKilos openContacts fireFloor ride starts distance hardFalls dstate dplace dplaces dhold dsteps dbeam dob doc ccount cover cf mc hR H locs hP hD hS ls hl
      · skip
        by_cases c2 : xs i &&& 31 = 2
        · refine lv_tableIn (off := 215) (tgt := 264) hx hb dL_law_49 (by rw [c2]; decide) (by rw [c2]; decide) (by rw [c2]; rfl) (by decide) ?_
          exact s_car_1 C hi hce hsl kk kk1 powered stepsDone gap th pf mh of place speed way topSpeed gain brake darkSpeed rideSpeed kilos mostKilos openContacts fireFloor ride starts distance hardFalls dstate dplace dplaces dhold dsteps dbeam dob doc ccount cover cf mc hR H locs hP hD hS ls hl
        · skip
          by_cases c3 : xs i &&& 31 = 3
          · refine lv_tableIn (off := 271) (tgt := 320) hx hb dL_law_49 (by rw [c3]; decide) (by rw [c3]; decide) (by rw [c3]; rfl) (by decide) ?_
            by_cases z1 : xs (i + 1) = 0
            · exact s_rates_10 C hi z1 hce hsl kk powered stepsDone gap th pf mh of place speed way topSpeed gain brake darkSpeed rideSpeed kilos mostKilos openContacts fireFloor ride starts distance hardFalls dstate dplace dplaces dhold dsteps dbeam dob doc ccount cover cf mc hR H locs hP hD hS ls hl
            · by_cases z2 : xs (i + 1) = 1
              · exact s_rates_11 C hi z2 hce hsl kk powered stepsDone gap th pf mh of place speed way topSpeed gain brake darkSpeed rideSpeed kilos mostKilos openContacts fireFloor ride starts distance hardFalls dstate dplace dplaces dhold dsteps dbeam dob doc ccount cover cf mc hR H locs hP hD hS ls hl
              · exact s_rates_1x C hi z1 z2 hce hsl kk powered stepsDone gap th pf mh of place speed way topSpeed gain brake darkSpeed rideSpeed kilos mostKilos openContacts fireFloor ride starts distance hardFalls dstate dplace dplaces dhold dsteps dbeam dob doc ccount cover cf mc hR H locs hP hD hS ls hl
          · skip
            by_cases c4 : xs i &&& 31 = 4
            · refine lv_tableIn (off := 343) (tgt := 392) hx hb dL_law_49 (by rw [c4]; decide) (by rw [c4]; decide) (by rw [c4]; rfl) (by decide) ?_
              by_cases z1 : xs (i + 1) = 0
              · exact s_slow_10 C hi z1 hce hsl kk powered stepsDone gap th pf mh of place speed way topSpeed gain brake darkSpeed rideSpeed kilos mostKilos openContacts fireFloor ride starts distance hardFalls dstate dplace dplaces dhold dsteps dbeam dob doc ccount cover cf mc hR H locs hP hD hS ls hl
              · by_cases z2 : xs (i + 1) = 1
                · exact s_slow_11 C hi z2 hce hsl kk powered stepsDone gap th pf mh of place speed way topSpeed gain brake darkSpeed rideSpeed kilos mostKilos openContacts fireFloor ride starts distance hardFalls dstate dplace dplaces dhold dsteps dbeam dob doc ccount cover cf mc hR H locs hP hD hS ls hl
                · exact s_slow_1x C hi z1 z2 hce hsl kk powered stepsDone gap th pf mh of place speed way topSpeed gain brake darkSpeed rideSpeed kilos mostKilos openContacts fireFloor ride starts distance hardFalls dstate dplace dplaces dhold dsteps dbeam dob doc ccount cover cf mc hR H locs hP hD hS ls hl
            · skip
              by_cases c5 : xs i &&& 31 = 5
              · refine lv_tableIn (off := 403) (tgt := 452) hx hb dL_law_49 (by rw [c5]; decide) (by rw [c5]; decide) (by rw [c5]; rfl) (by decide) ?_
                by_cases z1 : xs (i + 1) = 0
                · exact s_door_10 C hi z1 hce hsl kk powered stepsDone gap th pf mh of place speed way topSpeed gain brake darkSpeed rideSpeed kilos mostKilos openContacts fireFloor ride starts distance hardFalls dstate dplace dplaces dhold dsteps dbeam dob doc ccount cover cf mc hR H locs hP hD hS ls hl
                · by_cases z2 : xs (i + 1) = 1
                  · exact s_door_11 C hi z2 hce hsl kk powered stepsDone gap th pf mh of place speed way topSpeed gain brake darkSpeed rideSpeed kilos mostKilos openContacts fireFloor ride starts distance hardFalls dstate dplace dplaces dhold dsteps dbeam dob doc ccount cover cf mc hR H locs hP hD hS ls hl
                  · exact s_door_1x C hi z1 z2 hce hsl kk powered stepsDone gap th pf mh of place speed way topSpeed gain brake darkSpeed rideSpeed kilos mostKilos openContacts fireFloor ride starts distance hardFalls dstate dplace dplaces dhold dsteps dbeam dob doc ccount cover cf mc hR H locs hP hD hS ls hl
              · skip
                by_cases c6 : xs i &&& 31 = 6
                · refine lv_tableIn (off := 463) (tgt := 512) hx hb dL_law_49 (by rw [c6]; decide) (by rw [c6]; decide) (by rw [c6]; rfl) (by decide) ?_
                  by_cases z1 : xs (i + 1) = 0
                  · exact s_go_10 C hi z1 hce hsl kk powered stepsDone gap th pf mh of place speed way topSpeed gain brake darkSpeed rideSpeed kilos mostKilos openContacts fireFloor ride starts distance hardFalls dstate dplace dplaces dhold dsteps dbeam dob doc ccount cover cf mc hR H locs hP hD hS ls hl
                  · by_cases z2 : xs (i + 1) = 1
                    · exact s_go_11 C hi z2 hce hsl kk powered stepsDone gap th pf mh of place speed way topSpeed gain brake darkSpeed rideSpeed kilos mostKilos openContacts fireFloor ride starts distance hardFalls dstate dplace dplaces dhold dsteps dbeam dob doc ccount cover cf mc hR H locs hP hD hS ls hl
                    · exact s_go_1x C hi z1 z2 hce hsl kk powered stepsDone gap th pf mh of place speed way topSpeed gain brake darkSpeed rideSpeed kilos mostKilos openContacts fireFloor ride starts distance hardFalls dstate dplace dplaces dhold dsteps dbeam dob doc ccount cover cf mc hR H locs hP hD hS ls hl
                · skip
                  by_cases c7 : xs i &&& 31 = 7
                  · refine lv_tableIn (off := 531) (tgt := 580) hx hb dL_law_49 (by rw [c7]; decide) (by rw [c7]; decide) (by rw [c7]; rfl) (by decide) ?_
                    by_cases z1 : xs (i + 1) = 0
                    · exact s_open_10 C hi z1 hce hsl kk powered stepsDone gap th pf mh of place speed way topSpeed gain brake darkSpeed rideSpeed kilos mostKilos openContacts fireFloor ride starts distance hardFalls dstate dplace dplaces dhold dsteps dbeam dob doc ccount cover cf mc hR H locs hP hD hS ls hl
                    · by_cases z2 : xs (i + 1) = 1
                      · exact s_open_11 C hi z2 hce hsl kk powered stepsDone gap th pf mh of place speed way topSpeed gain brake darkSpeed rideSpeed kilos mostKilos openContacts fireFloor ride starts distance hardFalls dstate dplace dplaces dhold dsteps dbeam dob doc ccount cover cf mc hR H locs hP hD hS ls hl
                      · exact s_open_1x C hi z1 z2 hce hsl kk powered stepsDone gap th pf mh of place speed way topSpeed gain brake darkSpeed rideSpeed kilos mostKilos openContacts fireFloor ride starts distance hardFalls dstate dplace dplaces dhold dsteps dbeam dob doc ccount cover cf mc hR H locs hP hD hS ls hl
                  · skip
                    by_cases c8 : xs i &&& 31 = 8
                    · refine lv_tableIn (off := 594) (tgt := 643) hx hb dL_law_49 (by rw [c8]; decide) (by rw [c8]; decide) (by rw [c8]; rfl) (by decide) ?_
                      by_cases z1 : xs (i + 1) = 0
                      · exact s_close_10 C hi z1 hce hsl kk powered stepsDone gap th pf mh of place speed way topSpeed gain brake darkSpeed rideSpeed kilos mostKilos openContacts fireFloor ride starts distance hardFalls dstate dplace dplaces dhold dsteps dbeam dob doc ccount cover cf mc hR H locs hP hD hS ls hl
                      · by_cases z2 : xs (i + 1) = 1
                        · exact s_close_11 C hi z2 hce hsl kk powered stepsDone gap th pf mh of place speed way topSpeed gain brake darkSpeed rideSpeed kilos mostKilos openContacts fireFloor ride starts distance hardFalls dstate dplace dplaces dhold dsteps dbeam dob doc ccount cover cf mc hR H locs hP hD hS ls hl
                        · exact s_close_1x C hi z1 z2 hce hsl kk powered stepsDone gap th pf mh of place speed way topSpeed gain brake darkSpeed rideSpeed kilos mostKilos openContacts fireFloor ride starts distance hardFalls dstate dplace dplaces dhold dsteps dbeam dob doc ccount cover cf mc hR H locs hP hD hS ls hl
                    · skip
                      by_cases c9 : xs i &&& 31 = 9
                      · refine lv_tableIn (off := 657) (tgt := 706) hx hb dL_law_49 (by rw [c9]; decide) (by rw [c9]; decide) (by rw [c9]; rfl) (by decide) ?_
                        by_cases z1 : xs (i + 1) = 0
                        · exact s_beam_10 C hi z1 hce hsl kk powered stepsDone gap th pf mh of place speed way topSpeed gain brake darkSpeed rideSpeed kilos mostKilos openContacts fireFloor ride starts distance hardFalls dstate dplace dplaces dhold dsteps dbeam dob doc ccount cover cf mc hR H locs hP hD hS ls hl
                        · by_cases z2 : xs (i + 1) = 1
                          · exact s_beam_11 C hi z2 hce hsl kk powered stepsDone gap th pf mh of place speed way topSpeed gain brake darkSpeed rideSpeed kilos mostKilos openContacts fireFloor ride starts distance hardFalls dstate dplace dplaces dhold dsteps dbeam dob doc ccount cover cf mc hR H locs hP hD hS ls hl
                          · exact s_beam_1x C hi z1 z2 hce hsl kk powered stepsDone gap th pf mh of place speed way topSpeed gain brake darkSpeed rideSpeed kilos mostKilos openContacts fireFloor ride starts distance hardFalls dstate dplace dplaces dhold dsteps dbeam dob doc ccount cover cf mc hR H locs hP hD hS ls hl
                      · skip
                        by_cases c10 : xs i &&& 31 = 10
                        · refine lv_tableIn (off := 748) (tgt := 797) hx hb dL_law_49 (by rw [c10]; decide) (by rw [c10]; decide) (by rw [c10]; rfl) (by decide) ?_
                          by_cases z1 : xs (i + 1) = 0
                          · exact s_contact_10 C hi z1 hce hsl kk powered stepsDone gap th pf mh of place speed way topSpeed gain brake darkSpeed rideSpeed kilos mostKilos openContacts fireFloor ride starts distance hardFalls dstate dplace dplaces dhold dsteps dbeam dob doc ccount cover cf mc hR H locs hP hD hS ls hl
                          · by_cases z2 : xs (i + 1) = 1
                            · exact s_contact_11 C hi z2 hce hsl kk powered stepsDone gap th pf mh of place speed way topSpeed gain brake darkSpeed rideSpeed kilos mostKilos openContacts fireFloor ride starts distance hardFalls dstate dplace dplaces dhold dsteps dbeam dob doc ccount cover cf mc hR H locs hP hD hS ls hl
                            · exact s_contact_1x C hi z1 z2 hce hsl kk powered stepsDone gap th pf mh of place speed way topSpeed gain brake darkSpeed rideSpeed kilos mostKilos openContacts fireFloor ride starts distance hardFalls dstate dplace dplaces dhold dsteps dbeam dob doc ccount cover cf mc hR H locs hP hD hS ls hl
                        · skip
                          by_cases c11 : xs i &&& 31 = 11
                          · refine lv_tableIn (off := 851) (tgt := 900) hx hb dL_law_49 (by rw [c11]; decide) (by rw [c11]; decide) (by rw [c11]; rfl) (by decide) ?_
                            by_cases z1 : xs (i + 1) = 0
                            · exact s_load_10 C hi z1 hce hsl kk powered stepsDone gap th pf mh of place speed way topSpeed gain brake darkSpeed rideSpeed kilos mostKilos openContacts fireFloor ride starts distance hardFalls dstate dplace dplaces dhold dsteps dbeam dob doc ccount cover cf mc hR H locs hP hD hS ls hl
                            · by_cases z2 : xs (i + 1) = 1
                              · exact s_load_11 C hi z2 hce hsl kk powered stepsDone gap th pf mh of place speed way topSpeed gain brake darkSpeed rideSpeed kilos mostKilos openContacts fireFloor ride starts distance hardFalls dstate dplace dplaces dhold dsteps dbeam dob doc ccount cover cf mc hR H locs hP hD hS ls hl
                              · exact s_load_1x C hi z1 z2 hce hsl kk powered stepsDone gap th pf mh of place speed way topSpeed gain brake darkSpeed rideSpeed kilos mostKilos openContacts fireFloor ride starts distance hardFalls dstate dplace dplaces dhold dsteps dbeam dob doc ccount cover cf mc hR H locs hP hD hS ls hl
                          · skip
                            by_cases c12 : xs i &&& 31 = 12
                            · refine lv_tableIn (off := 919) (tgt := 968) hx hb dL_law_49 (by rw [c12]; decide) (by rw [c12]; decide) (by rw [c12]; rfl) (by decide) ?_
                              by_cases z1 : xs (i + 1) = 0
                              · exact s_most_10 C hi z1 hce hsl kk powered stepsDone gap th pf mh of place speed way topSpeed gain brake darkSpeed rideSpeed kilos mostKilos openContacts fireFloor ride starts distance hardFalls dstate dplace dplaces dhold dsteps dbeam dob doc ccount cover cf mc hR H locs hP hD hS ls hl
                              · by_cases z2 : xs (i + 1) = 1
                                · exact s_most_11 C hi z2 hce hsl kk powered stepsDone gap th pf mh of place speed way topSpeed gain brake darkSpeed rideSpeed kilos mostKilos openContacts fireFloor ride starts distance hardFalls dstate dplace dplaces dhold dsteps dbeam dob doc ccount cover cf mc hR H locs hP hD hS ls hl
                                · exact s_most_1x C hi z1 z2 hce hsl kk powered stepsDone gap th pf mh of place speed way topSpeed gain brake darkSpeed rideSpeed kilos mostKilos openContacts fireFloor ride starts distance hardFalls dstate dplace dplaces dhold dsteps dbeam dob doc ccount cover cf mc hR H locs hP hD hS ls hl
                            · skip
                              by_cases c13 : xs i &&& 31 = 13
                              · refine lv_tableIn (off := 987) (tgt := 1036) hx hb dL_law_49 (by rw [c13]; decide) (by rw [c13]; decide) (by rw [c13]; rfl) (by decide) ?_
                                by_cases z1 : xs (i + 1) = 0
                                · exact s_fire_10 C hi z1 hce hsl kk powered stepsDone gap th pf mh of place speed way topSpeed gain brake darkSpeed rideSpeed kilos mostKilos openContacts fireFloor ride starts distance hardFalls dstate dplace dplaces dhold dsteps dbeam dob doc ccount cover cf mc hR H locs hP hD hS ls hl
                                · by_cases z2 : xs (i + 1) = 1
                                  · exact s_fire_11 C hi z2 hce hsl kk powered stepsDone gap th pf mh of place speed way topSpeed gain brake darkSpeed rideSpeed kilos mostKilos openContacts fireFloor ride starts distance hardFalls dstate dplace dplaces dhold dsteps dbeam dob doc ccount cover cf mc hR H locs hP hD hS ls hl
                                  · exact s_fire_1x C hi z1 z2 hce hsl kk powered stepsDone gap th pf mh of place speed way topSpeed gain brake darkSpeed rideSpeed kilos mostKilos openContacts fireFloor ride starts distance hardFalls dstate dplace dplaces dhold dsteps dbeam dob doc ccount cover cf mc hR H locs hP hD hS ls hl
                              · skip
                                by_cases c14 : xs i &&& 31 = 14
                                · refine lv_tableIn (off := 1055) (tgt := 1104) hx hb dL_law_49 (by rw [c14]; decide) (by rw [c14]; decide) (by rw [c14]; rfl) (by decide) ?_
                                  by_cases z1 : xs (i + 1) = 0
                                  · exact s_inspect_10 C hi z1 hce hsl kk powered stepsDone gap th pf mh of place speed way topSpeed gain brake darkSpeed rideSpeed kilos mostKilos openContacts fireFloor ride starts distance hardFalls dstate dplace dplaces dhold dsteps dbeam dob doc ccount cover cf mc hR H locs hP hD hS ls hl
                                  · by_cases z2 : xs (i + 1) = 1
                                    · exact s_inspect_11 C hi z2 hce hsl kk powered stepsDone gap th pf mh of place speed way topSpeed gain brake darkSpeed rideSpeed kilos mostKilos openContacts fireFloor ride starts distance hardFalls dstate dplace dplaces dhold dsteps dbeam dob doc ccount cover cf mc hR H locs hP hD hS ls hl
                                    · exact s_inspect_1x C hi z1 z2 hce hsl kk powered stepsDone gap th pf mh of place speed way topSpeed gain brake darkSpeed rideSpeed kilos mostKilos openContacts fireFloor ride starts distance hardFalls dstate dplace dplaces dhold dsteps dbeam dob doc ccount cover cf mc hR H locs hP hD hS ls hl
                                · skip
                                  by_cases c15 : xs i &&& 31 = 15
                                  · refine lv_tableIn (off := 1123) (tgt := 1172) hx hb dL_law_49 (by rw [c15]; decide) (by rw [c15]; decide) (by rw [c15]; rfl) (by decide) ?_
                                    exact s_power_1 C hi hce hsl kk powered stepsDone gap th pf mh of place speed way topSpeed gain brake darkSpeed rideSpeed kilos mostKilos openContacts fireFloor ride starts distance hardFalls dstate dplace dplaces dhold dsteps dbeam dob doc ccount cover cf mc hR H locs hP hD hS ls hl
                                  · skip
                                    by_cases c16 : xs i &&& 31 = 16
                                    · refine lv_tableIn (off := 1164) (tgt := 1213) hx hb dL_law_49 (by rw [c16]; decide) (by rw [c16]; decide) (by rw [c16]; rfl) (by decide) ?_
                                      exact s_steps_1 C hi hce hsl kk powered stepsDone gap th pf mh of place speed way topSpeed gain brake darkSpeed rideSpeed kilos mostKilos openContacts fireFloor ride starts distance hardFalls dstate dplace dplaces dhold dsteps dbeam dob doc ccount cover cf mc hR H locs hP hD hS ls hl
                                    · skip
                                      by_cases c17 : xs i &&& 31 = 17
                                      · refine lv_tableIn (off := 1220) (tgt := 1269) hx hb dL_law_49 (by rw [c17]; decide) (by rw [c17]; decide) (by rw [c17]; rfl) (by decide) ?_
                                        by_cases z1 : xs (i + 1) = 0
                                        · exact s_told_10 C hi z1 hce hsl kk powered stepsDone gap th pf mh of place speed way topSpeed gain brake darkSpeed rideSpeed kilos mostKilos openContacts fireFloor ride starts distance hardFalls dstate dplace dplaces dhold dsteps dbeam dob doc ccount cover cf mc hR H locs hP hD hS ls hl
                                        · by_cases z2 : xs (i + 1) = 1
                                          · exact s_told_11 C hi z2 hce hsl kk powered stepsDone gap th pf mh of place speed way topSpeed gain brake darkSpeed rideSpeed kilos mostKilos openContacts fireFloor ride starts distance hardFalls dstate dplace dplaces dhold dsteps dbeam dob doc ccount cover cf mc hR H locs hP hD hS ls hl
                                          · exact s_told_1x C hi z1 z2 hce hsl kk powered stepsDone gap th pf mh of place speed way topSpeed gain brake darkSpeed rideSpeed kilos mostKilos openContacts fireFloor ride starts distance hardFalls dstate dplace dplaces dhold dsteps dbeam dob doc ccount cover cf mc hR H locs hP hD hS ls hl
                                      · skip
                                        by_cases c18 : xs i &&& 31 = 18
                                        · refine lv_tableIn (off := 1288) (tgt := 1337) hx hb dL_law_49 (by rw [c18]; decide) (by rw [c18]; decide) (by rw [c18]; rfl) (by decide) ?_
                                          by_cases z1 : xs (i + 1) = 0
                                          · exact s_wear_10 C hi z1 hce hsl kk powered stepsDone gap th pf mh of place speed way topSpeed gain brake darkSpeed rideSpeed kilos mostKilos openContacts fireFloor ride starts distance hardFalls dstate dplace dplaces dhold dsteps dbeam dob doc ccount cover cf mc hR H locs hP hD hS ls hl
                                          · by_cases z2 : xs (i + 1) = 1
                                            · exact s_wear_11 C hi z2 hce hsl kk powered stepsDone gap th pf mh of place speed way topSpeed gain brake darkSpeed rideSpeed kilos mostKilos openContacts fireFloor ride starts distance hardFalls dstate dplace dplaces dhold dsteps dbeam dob doc ccount cover cf mc hR H locs hP hD hS ls hl
                                            · exact s_wear_1x C hi z1 z2 hce hsl kk powered stepsDone gap th pf mh of place speed way topSpeed gain brake darkSpeed rideSpeed kilos mostKilos openContacts fireFloor ride starts distance hardFalls dstate dplace dplaces dhold dsteps dbeam dob doc ccount cover cf mc hR H locs hP hD hS ls hl
                                        · skip
                                          refine lv_tableOut (tgt := 1405) hx hb dL_law_49 (by have q0 := lv_neT c0 (a := 0) (by decide); have q1 := lv_neT c1 (a := 1) (by decide); have q2 := lv_neT c2 (a := 2) (by decide); have q3 := lv_neT c3 (a := 3) (by decide); have q4 := lv_neT c4 (a := 4) (by decide); have q5 := lv_neT c5 (a := 5) (by decide); have q6 := lv_neT c6 (a := 6) (by decide); have q7 := lv_neT c7 (a := 7) (by decide); have q8 := lv_neT c8 (a := 8) (by decide); have q9 := lv_neT c9 (a := 9) (by decide); have q10 := lv_neT c10 (a := 10) (by decide); have q11 := lv_neT c11 (a := 11) (by decide); have q12 := lv_neT c12 (a := 12) (by decide); have q13 := lv_neT c13 (a := 13) (by decide); have q14 := lv_neT c14 (a := 14) (by decide); have q15 := lv_neT c15 (a := 15) (by decide); have q16 := lv_neT c16 (a := 16) (by decide); have q17 := lv_neT c17 (a := 17) (by decide); have q18 := lv_neT c18 (a := 18) (by decide); omega) (by decide) ?_
                                          exact W.widen (k := cells + 8) (n := slots + 200) (by omega) (by omega) (kk powered stepsDone gap th pf mh of place speed way topSpeed gain brake darkSpeed rideSpeed kilos mostKilos openContacts fireFloor ride starts distance hardFalls dstate dplace dplaces dhold dsteps dbeam dob doc ccount cover cf mc hR H locs hP hD hS ls hl)
set_option maxHeartbeats 4000000 in
set_option maxRecDepth 100000 in
theorem lawp0 {p : Program} {l : Launch} {e : Env} {s : State} {m : MethodId} {below : List Frame} {meth : Method} {c : Code} {D : va_G} {aI aL aZ : ClassId} {b L : Nat} {xs : Nat → Int32} {A : Nat → Prop} {n : Nat} (k0 h4 h5 m0 ah a_places a_speeds a_most a_gains a_brakes a_slows a_rides a_doors a_doorPlaces a_opened a_wide a_holds a_loads a_mostLoads a_beams a_contacts a_fires a_ways a_calls a_callCounts a_wears o0 : Nat) (C : lwC l p s m c b L xs D aI aL aZ A) (hr : meth.sig.returnType = ret) (hlocks : meth.locks = false) (hA1 : ∀ q, A q → s.heap.size ≤ q) (lpn : ∀ (h0 h1 h2 h3 : Nat) (k i cells slots : Nat), L < i + 5 + 5 * k → i ≤ 2600 → cells + 8 * k ≤ 601024 → slots + 200 * k ≤ 7293000 → K1 p l e s m below meth c D aI aL aZ b A (lw_Z below #[Value.ref b] s) i n k0 h4 h5 m0 ah a_places a_speeds a_most a_gains a_brakes a_slows a_rides a_doors a_doorPlaces a_opened a_wide a_holds a_loads a_mostLoads a_beams a_contacts a_fires a_ways a_calls a_callCounts a_wears o0 h0 h1 h2 h3 33 cells slots) : ∀ (k i cells slots : Nat), L < i + 5 + 5 * k → i ≤ 2600 → cells + 8 * k ≤ 601024 → slots + 200 * k ≤ 7293000 → K0 p l e s m below meth c D aI aL aZ b A (lw_Z below #[Value.ref b] s) i n k0 h4 h5 m0 ah a_places a_speeds a_most a_gains a_brakes a_slows a_rides a_doors a_doorPlaces a_opened a_wide a_holds a_loads a_mostLoads a_beams a_contacts a_fires a_ways a_calls a_callCounts a_wears o0 33 cells slots := by
  intro k
  induction k with
  | zero =>
    intro i cells slots q1 q2 q3 q4 powered stepsDone gap th pf mh of hR H locs hP hD hS ls hl
    exact lw_head (n := n) C hr hlocks hA1 q2 (by omega) (by omega) hS hl (fun hi => absurd hi (by omega))
  | succ k ih =>
    intro i cells slots q1 q2 q3 q4 powered stepsDone gap th pf mh of hR H locs hP hD hS ls hl
    refine lw_head (n := n) C hr hlocks hA1 q2 (by omega) (by omega) hS hl (fun hi => ?_)
    have hL : L ≤ 2561 := C.2.2.2.2.2.2.2.2.2.2.2.2
    have hx : p.tables.exec = Jvm.exec := C.2.1
    have hb : c.code = code := C.2.2.1
    have hce : cells + 8 ≤ 601024 := by omega
    have hsl : slots + 200 ≤ 7293000 := by omega
    have kk : K0 p l e s m below meth c D aI aL aZ b A (lw_Z below #[Value.ref b] s) i n k0 h4 h5 m0 ah a_places a_speeds a_most a_gains a_brakes a_slows a_rides a_doors a_doorPlaces a_opened a_wide a_holds a_loads a_mostLoads a_beams a_contacts a_fires a_ways a_calls a_callCounts a_wears o0 1405 (cells + 8) (slots + 200) := inc0 C (ih (i + 5) (cells + 8) (slots + 200) (by omega) (by omega) (by omega) (by omega))
    have kk1 : ∀ h0 h1 h2 h3 : Nat, K1 p l e s m below meth c D aI aL aZ b A (lw_Z below #[Value.ref b] s) i n k0 h4 h5 m0 ah a_places a_speeds a_most a_gains a_brakes a_slows a_rides a_doors a_doorPlaces a_opened a_wide a_holds a_loads a_mostLoads a_beams a_contacts a_fires a_ways a_calls a_callCounts a_wears o0 h0 h1 h2 h3 1405 (cells + 8) (slots + 200) := fun h0 h1 h2 h3 => inc1 C (lpn h0 h1 h2 h3 k (i + 5) (cells + 8) (slots + 200) (by omega) (by omega) (by omega) (by omega))
    by_cases c0 : xs i &&& 31 = 0
    · refine lv_tableIn (off := 91) (tgt := 140) hx hb dL_law_49 (by rw [c0]; decide) (by rw [c0]; decide) (by rw [c0]; rfl) (by decide) ?_
      exact s_height_0 C hi hce hsl kk powered stepsDone gap th pf mh of hR H locs hP hD hS ls hl
    · skip
      by_cases c1 : xs i &&& 31 = 1
      · refine lv_tableIn (off := 159) (tgt := 208) hx hb dL_law_49 (by rw [c1]; decide) (by rw [c1]; decide) (by rw [c1]; rfl) (by decide) ?_
        exact s_gap_0 C hi hce hsl kk powered stepsDone gap th pf mh of hR H locs hP hD hS ls hl
      · skip
        by_cases c2 : xs i &&& 31 = 2
        · refine lv_tableIn (off := 215) (tgt := 264) hx hb dL_law_49 (by rw [c2]; decide) (by rw [c2]; decide) (by rw [c2]; rfl) (by decide) ?_
          exact s_car_0 C hi hce hsl kk kk1 powered stepsDone gap th pf mh of hR H locs hP hD hS ls hl
        · skip
          by_cases c3 : xs i &&& 31 = 3
          · refine lv_tableIn (off := 271) (tgt := 320) hx hb dL_law_49 (by rw [c3]; decide) (by rw [c3]; decide) (by rw [c3]; rfl) (by decide) ?_
            by_cases z1 : xs (i + 1) = 0
            · exact s_rates_00 C hi z1 hce hsl kk powered stepsDone gap th pf mh of hR H locs hP hD hS ls hl
            · by_cases z2 : xs (i + 1) = 1
              · exact s_rates_01 C hi z2 hce hsl kk powered stepsDone gap th pf mh of hR H locs hP hD hS ls hl
              · exact s_rates_0x C hi z1 z2 hce hsl kk powered stepsDone gap th pf mh of hR H locs hP hD hS ls hl
          · skip
            by_cases c4 : xs i &&& 31 = 4
            · refine lv_tableIn (off := 343) (tgt := 392) hx hb dL_law_49 (by rw [c4]; decide) (by rw [c4]; decide) (by rw [c4]; rfl) (by decide) ?_
              by_cases z1 : xs (i + 1) = 0
              · exact s_slow_00 C hi z1 hce hsl kk powered stepsDone gap th pf mh of hR H locs hP hD hS ls hl
              · by_cases z2 : xs (i + 1) = 1
                · exact s_slow_01 C hi z2 hce hsl kk powered stepsDone gap th pf mh of hR H locs hP hD hS ls hl
                · exact s_slow_0x C hi z1 z2 hce hsl kk powered stepsDone gap th pf mh of hR H locs hP hD hS ls hl
            · skip
              by_cases c5 : xs i &&& 31 = 5
              · refine lv_tableIn (off := 403) (tgt := 452) hx hb dL_law_49 (by rw [c5]; decide) (by rw [c5]; decide) (by rw [c5]; rfl) (by decide) ?_
                by_cases z1 : xs (i + 1) = 0
                · exact s_door_00 C hi z1 hce hsl kk powered stepsDone gap th pf mh of hR H locs hP hD hS ls hl
                · by_cases z2 : xs (i + 1) = 1
                  · exact s_door_01 C hi z2 hce hsl kk powered stepsDone gap th pf mh of hR H locs hP hD hS ls hl
                  · exact s_door_0x C hi z1 z2 hce hsl kk powered stepsDone gap th pf mh of hR H locs hP hD hS ls hl
              · skip
                by_cases c6 : xs i &&& 31 = 6
                · refine lv_tableIn (off := 463) (tgt := 512) hx hb dL_law_49 (by rw [c6]; decide) (by rw [c6]; decide) (by rw [c6]; rfl) (by decide) ?_
                  by_cases z1 : xs (i + 1) = 0
                  · exact s_go_00 C hi z1 hce hsl kk powered stepsDone gap th pf mh of hR H locs hP hD hS ls hl
                  · by_cases z2 : xs (i + 1) = 1
                    · exact s_go_01 C hi z2 hce hsl kk powered stepsDone gap th pf mh of hR H locs hP hD hS ls hl
                    · exact s_go_0x C hi z1 z2 hce hsl kk powered stepsDone gap th pf mh of hR H locs hP hD hS ls hl
                · skip
                  by_cases c7 : xs i &&& 31 = 7
                  · refine lv_tableIn (off := 531) (tgt := 580) hx hb dL_law_49 (by rw [c7]; decide) (by rw [c7]; decide) (by rw [c7]; rfl) (by decide) ?_
                    by_cases z1 : xs (i + 1) = 0
                    · exact s_open_00 C hi z1 hce hsl kk powered stepsDone gap th pf mh of hR H locs hP hD hS ls hl
                    · by_cases z2 : xs (i + 1) = 1
                      · exact s_open_01 C hi z2 hce hsl kk powered stepsDone gap th pf mh of hR H locs hP hD hS ls hl
                      · exact s_open_0x C hi z1 z2 hce hsl kk powered stepsDone gap th pf mh of hR H locs hP hD hS ls hl
                  · skip
                    by_cases c8 : xs i &&& 31 = 8
                    · refine lv_tableIn (off := 594) (tgt := 643) hx hb dL_law_49 (by rw [c8]; decide) (by rw [c8]; decide) (by rw [c8]; rfl) (by decide) ?_
                      by_cases z1 : xs (i + 1) = 0
                      · exact s_close_00 C hi z1 hce hsl kk powered stepsDone gap th pf mh of hR H locs hP hD hS ls hl
                      · by_cases z2 : xs (i + 1) = 1
                        · exact s_close_01 C hi z2 hce hsl kk powered stepsDone gap th pf mh of hR H locs hP hD hS ls hl
                        · exact s_close_0x C hi z1 z2 hce hsl kk powered stepsDone gap th pf mh of hR H locs hP hD hS ls hl
                    · skip
                      by_cases c9 : xs i &&& 31 = 9
                      · refine lv_tableIn (off := 657) (tgt := 706) hx hb dL_law_49 (by rw [c9]; decide) (by rw [c9]; decide) (by rw [c9]; rfl) (by decide) ?_
                        by_cases z1 : xs (i + 1) = 0
                        · exact s_beam_00 C hi z1 hce hsl kk powered stepsDone gap th pf mh of hR H locs hP hD hS ls hl
                        · by_cases z2 : xs (i + 1) = 1
                          · exact s_beam_01 C hi z2 hce hsl kk powered stepsDone gap th pf mh of hR H locs hP hD hS ls hl
                          · exact s_beam_0x C hi z1 z2 hce hsl kk powered stepsDone gap th pf mh of hR H locs hP hD hS ls hl
                      · skip
                        by_cases c10 : xs i &&& 31 = 10
                        · refine lv_tableIn (off := 748) (tgt := 797) hx hb dL_law_49 (by rw [c10]; decide) (by rw [c10]; decide) (by rw [c10]; rfl) (by decide) ?_
                          by_cases z1 : xs (i + 1) = 0
                          · exact s_contact_00 C hi z1 hce hsl kk powered stepsDone gap th pf mh of hR H locs hP hD hS ls hl
                          · by_cases z2 : xs (i + 1) = 1
                            · exact s_contact_01 C hi z2 hce hsl kk powered stepsDone gap th pf mh of hR H locs hP hD hS ls hl
                            · exact s_contact_0x C hi z1 z2 hce hsl kk powered stepsDone gap th pf mh of hR H locs hP hD hS ls hl
                        · skip
                          by_cases c11 : xs i &&& 31 = 11
                          · refine lv_tableIn (off := 851) (tgt := 900) hx hb dL_law_49 (by rw [c11]; decide) (by rw [c11]; decide) (by rw [c11]; rfl) (by decide) ?_
                            by_cases z1 : xs (i + 1) = 0
                            · exact s_load_00 C hi z1 hce hsl kk powered stepsDone gap th pf mh of hR H locs hP hD hS ls hl
                            · by_cases z2 : xs (i + 1) = 1
                              · exact s_load_01 C hi z2 hce hsl kk powered stepsDone gap th pf mh of hR H locs hP hD hS ls hl
                              · exact s_load_0x C hi z1 z2 hce hsl kk powered stepsDone gap th pf mh of hR H locs hP hD hS ls hl
                          · skip
                            by_cases c12 : xs i &&& 31 = 12
                            · refine lv_tableIn (off := 919) (tgt := 968) hx hb dL_law_49 (by rw [c12]; decide) (by rw [c12]; decide) (by rw [c12]; rfl) (by decide) ?_
                              by_cases z1 : xs (i + 1) = 0
                              · exact s_most_00 C hi z1 hce hsl kk powered stepsDone gap th pf mh of hR H locs hP hD hS ls hl
                              · by_cases z2 : xs (i + 1) = 1
                                · exact s_most_01 C hi z2 hce hsl kk powered stepsDone gap th pf mh of hR H locs hP hD hS ls hl
                                · exact s_most_0x C hi z1 z2 hce hsl kk powered stepsDone gap th pf mh of hR H locs hP hD hS ls hl
                            · skip
                              by_cases c13 : xs i &&& 31 = 13
                              · refine lv_tableIn (off := 987) (tgt := 1036) hx hb dL_law_49 (by rw [c13]; decide) (by rw [c13]; decide) (by rw [c13]; rfl) (by decide) ?_
                                by_cases z1 : xs (i + 1) = 0
                                · exact s_fire_00 C hi z1 hce hsl kk powered stepsDone gap th pf mh of hR H locs hP hD hS ls hl
                                · by_cases z2 : xs (i + 1) = 1
                                  · exact s_fire_01 C hi z2 hce hsl kk powered stepsDone gap th pf mh of hR H locs hP hD hS ls hl
                                  · exact s_fire_0x C hi z1 z2 hce hsl kk powered stepsDone gap th pf mh of hR H locs hP hD hS ls hl
                              · skip
                                by_cases c14 : xs i &&& 31 = 14
                                · refine lv_tableIn (off := 1055) (tgt := 1104) hx hb dL_law_49 (by rw [c14]; decide) (by rw [c14]; decide) (by rw [c14]; rfl) (by decide) ?_
                                  by_cases z1 : xs (i + 1) = 0
                                  · exact s_inspect_00 C hi z1 hce hsl kk powered stepsDone gap th pf mh of hR H locs hP hD hS ls hl
                                  · by_cases z2 : xs (i + 1) = 1
                                    · exact s_inspect_01 C hi z2 hce hsl kk powered stepsDone gap th pf mh of hR H locs hP hD hS ls hl
                                    · exact s_inspect_0x C hi z1 z2 hce hsl kk powered stepsDone gap th pf mh of hR H locs hP hD hS ls hl
                                · skip
                                  by_cases c15 : xs i &&& 31 = 15
                                  · refine lv_tableIn (off := 1123) (tgt := 1172) hx hb dL_law_49 (by rw [c15]; decide) (by rw [c15]; decide) (by rw [c15]; rfl) (by decide) ?_
                                    exact s_power_0 C hi hce hsl kk powered stepsDone gap th pf mh of hR H locs hP hD hS ls hl
                                  · skip
                                    by_cases c16 : xs i &&& 31 = 16
                                    · refine lv_tableIn (off := 1164) (tgt := 1213) hx hb dL_law_49 (by rw [c16]; decide) (by rw [c16]; decide) (by rw [c16]; rfl) (by decide) ?_
                                      exact s_steps_0 C hi hce hsl kk powered stepsDone gap th pf mh of hR H locs hP hD hS ls hl
                                    · skip
                                      by_cases c17 : xs i &&& 31 = 17
                                      · refine lv_tableIn (off := 1220) (tgt := 1269) hx hb dL_law_49 (by rw [c17]; decide) (by rw [c17]; decide) (by rw [c17]; rfl) (by decide) ?_
                                        by_cases z1 : xs (i + 1) = 0
                                        · exact s_told_00 C hi z1 hce hsl kk powered stepsDone gap th pf mh of hR H locs hP hD hS ls hl
                                        · by_cases z2 : xs (i + 1) = 1
                                          · exact s_told_01 C hi z2 hce hsl kk powered stepsDone gap th pf mh of hR H locs hP hD hS ls hl
                                          · exact s_told_0x C hi z1 z2 hce hsl kk powered stepsDone gap th pf mh of hR H locs hP hD hS ls hl
                                      · skip
                                        by_cases c18 : xs i &&& 31 = 18
                                        · refine lv_tableIn (off := 1288) (tgt := 1337) hx hb dL_law_49 (by rw [c18]; decide) (by rw [c18]; decide) (by rw [c18]; rfl) (by decide) ?_
                                          by_cases z1 : xs (i + 1) = 0
                                          · exact s_wear_00 C hi z1 hce hsl kk powered stepsDone gap th pf mh of hR H locs hP hD hS ls hl
                                          · by_cases z2 : xs (i + 1) = 1
                                            · exact s_wear_01 C hi z2 hce hsl kk powered stepsDone gap th pf mh of hR H locs hP hD hS ls hl
                                            · exact s_wear_0x C hi z1 z2 hce hsl kk powered stepsDone gap th pf mh of hR H locs hP hD hS ls hl
                                        · skip
                                          refine lv_tableOut (tgt := 1405) hx hb dL_law_49 (by have q0 := lv_neT c0 (a := 0) (by decide); have q1 := lv_neT c1 (a := 1) (by decide); have q2 := lv_neT c2 (a := 2) (by decide); have q3 := lv_neT c3 (a := 3) (by decide); have q4 := lv_neT c4 (a := 4) (by decide); have q5 := lv_neT c5 (a := 5) (by decide); have q6 := lv_neT c6 (a := 6) (by decide); have q7 := lv_neT c7 (a := 7) (by decide); have q8 := lv_neT c8 (a := 8) (by decide); have q9 := lv_neT c9 (a := 9) (by decide); have q10 := lv_neT c10 (a := 10) (by decide); have q11 := lv_neT c11 (a := 11) (by decide); have q12 := lv_neT c12 (a := 12) (by decide); have q13 := lv_neT c13 (a := 13) (by decide); have q14 := lv_neT c14 (a := 14) (by decide); have q15 := lv_neT c15 (a := 15) (by decide); have q16 := lv_neT c16 (a := 16) (by decide); have q17 := lv_neT c17 (a := 17) (by decide); have q18 := lv_neT c18 (a := 18) (by decide); omega) (by decide) ?_
                                          exact W.widen (k := cells + 8) (n := slots + 200) (by omega) (by omega) (kk powered stepsDone gap th pf mh of hR H locs hP hD hS ls hl)
