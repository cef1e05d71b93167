theorem dX3_topFloor_0 : decode cX3_topFloor 0 = .ok (.aload_n 0, 1) := by decide +kernel
theorem dX3_topFloor_1 : decode cX3_topFloor 1 = .ok (.getfield 15, 3) := by decide +kernel
theorem dX3_topFloor_4 : decode cX3_topFloor 4 = .ok (.arraylength, 1) := by decide +kernel
theorem dX3_topFloor_5 : decode cX3_topFloor 5 = .ok (.iconst 1, 1) := by decide +kernel
theorem dX3_topFloor_6 : decode cX3_topFloor 6 = .ok (.isub, 1) := by decide +kernel
theorem dX3_topFloor_7 : decode cX3_topFloor 7 = .ok (.ireturn, 1) := by decide +kernel
def F_topFloor (n : Nat) : Int32 :=
  ((nI n) - 1)
theorem F_topFloor_u (n : Nat) : F_topFloor n =
  (((nI n) - 1)) := rfl
set_option maxHeartbeats 4000000 in
set_option maxRecDepth 100000 in
theorem c_topFloor (l : Launch) (D : va_G) (aI aL aZ : ClassId) (sz : Nat) (h0 : Nat) (h1 : Nat) (gap : Int32) (n : Nat) (pf : Nat → Int32) : Met l yX3_topFloor (.code yX3_topFloor cX3_topFloor 1 (some .int) :: Gw) ({ frames := 0, cells := 0, slots := 0, locals := 0 }) (va_Pc [.ref h0] (mpre D [(aI, .int), (aL, .long), (aZ, .boolean)] [(h0, .inr (3, [.ref h1, .int gap])), (h1, .inl (aI, n, .inl pf))] sz)) ((fun A : Nat → Prop => va_Qi (fun (r : Int32) (u : Unit) => F_topFloor n = r) (mpst D A (fun (u : Unit) => [(h0, .inr (3, [.ref h1, .int gap])), (h1, .inl (aI, n, .inl pf))])) A) (va_A ([(h0, .inr (3, [.ref h1, .int gap])), (h1, .inl (aI, n, .inl pf))]) sz)) 0 0 (va_A ([(h0, .inr (3, [.ref h1, .int gap])), (h1, .inl (aI, n, .inl pf))]) sz) := by
  refine en (cc := cX3_topFloor) (maxL := 1) (ret := (some .int)) (Qc := (fun A : Nat → Prop => va_Qi (fun (r : Int32) (u : Unit) => F_topFloor n = r) (mpst D A (fun (u : Unit) => [(h0, .inr (3, [.ref h1, .int gap])), (h1, .inl (aI, n, .inl pf))])) A)) (by decide) rfl (Nat.le_of_ble_eq_true rfl) ?_
  intro p e s m args below meth c A ls Q hQ hx hb hr hts hown hlk hnm hml hA hS hP hK hD hE hl
  have hown : s.vm.findClass RX3 = some m.cls := hown
  have hl : lv_has ls 1 [(0, .ref h0)] := hl
  have hG := F_topFloor_u n
  refine lv_aload_n hx hb dX3_topFloor_0 rfl (lv_at hl 0 rfl) ?_
  refine va_get (D := D) (ci := 3) (v := .ref h1) (C := RX3) (T := TX3) (N := 2) hx hb hts inX3 hown hK hP 0 rfl rfl 0 (by decide) (hts _ (mG w_69)) (fun _ h9 => h9) rfl dX3_topFloor_1 ?_
  refine va_alen (v := nI n) hx hb hK hP 1 0 rfl rfl rfl dX3_topFloor_4 ?_
  refine lv_iconst (v := 1) hx hb dX3_topFloor_5 (by decide) ?_
  refine lv_isub hx hb dX3_topFloor_6 ?_
  have hP := hP.sub (ws' := [(h0, .inr (3, [.ref h1, .int gap])), (h1, .inl (aI, n, .inl pf))]) [0, 1] rfl
  have hD := hD.sub (ws' := [(h0, .inr (3, [.ref h1, .int gap])), (h1, .inl (aI, n, .inl pf))]) [0, 1] (by decide) rfl
  exact rt_i hQ hx hb hr () hG hP hD hS (Nat.le_of_ble_eq_true rfl) (Nat.le_of_ble_eq_true rfl) dX3_topFloor_7 hlk
theorem dX3_isFloor_0 : decode cX3_isFloor 0 = .ok (.iload_n 1, 1) := by decide +kernel
theorem dX3_isFloor_1 : decode cX3_isFloor 1 = .ok (.ifCond .lt 16, 3) := by decide +kernel
theorem dX3_isFloor_4 : decode cX3_isFloor 4 = .ok (.iload_n 1, 1) := by decide +kernel
theorem dX3_isFloor_5 : decode cX3_isFloor 5 = .ok (.aload_n 0, 1) := by decide +kernel
theorem dX3_isFloor_6 : decode cX3_isFloor 6 = .ok (.getfield 15, 3) := by decide +kernel
theorem dX3_isFloor_9 : decode cX3_isFloor 9 = .ok (.arraylength, 1) := by decide +kernel
theorem dX3_isFloor_10 : decode cX3_isFloor 10 = .ok (.if_icmp .ge 7, 3) := by decide +kernel
theorem dX3_isFloor_13 : decode cX3_isFloor 13 = .ok (.iconst 1, 1) := by decide +kernel
theorem dX3_isFloor_14 : decode cX3_isFloor 14 = .ok (.goto 4, 3) := by decide +kernel
theorem dX3_isFloor_17 : decode cX3_isFloor 17 = .ok (.iconst 0, 1) := by decide +kernel
theorem dX3_isFloor_18 : decode cX3_isFloor 18 = .ok (.ireturn, 1) := by decide +kernel
def F_isFloor (n : Nat) (p0 : Int32) : Int32 :=
  if p0 < 0 then
    0
  else
    if (nI n) ≤ p0 then
      0
    else
      1
theorem F_isFloor_u (n : Nat) (p0 : Int32) : F_isFloor n p0 =
  (if p0 < 0 then
    0
  else
    if (nI n) ≤ p0 then
      0
    else
      1) := rfl
set_option maxHeartbeats 4000000 in
set_option maxRecDepth 100000 in
theorem c_isFloor (l : Launch) (D : va_G) (aI aL aZ : ClassId) (sz : Nat) (h0 : Nat) (h1 : Nat) (gap : Int32) (n : Nat) (pf : Nat → Int32) (p0 : Int32) : Met l yX3_isFloor (.code yX3_isFloor cX3_isFloor 2 (some .boolean) :: Gw) ({ frames := 0, cells := 0, slots := 0, locals := 0 }) (va_Pc [.ref h0, .int p0] (mpre D [(aI, .int), (aL, .long), (aZ, .boolean)] [(h0, .inr (3, [.ref h1, .int gap])), (h1, .inl (aI, n, .inl pf))] sz)) ((fun A : Nat → Prop => va_Qi (fun (r : Int32) (u : Unit) => F_isFloor n p0 = r ∧ nb r) (mpst D A (fun (u : Unit) => [(h0, .inr (3, [.ref h1, .int gap])), (h1, .inl (aI, n, .inl pf))])) A) (va_A ([(h0, .inr (3, [.ref h1, .int gap])), (h1, .inl (aI, n, .inl pf))]) sz)) 0 0 (va_A ([(h0, .inr (3, [.ref h1, .int gap])), (h1, .inl (aI, n, .inl pf))]) sz) := by
  refine en (cc := cX3_isFloor) (maxL := 2) (ret := (some .boolean)) (Qc := (fun A : Nat → Prop => va_Qi (fun (r : Int32) (u : Unit) => F_isFloor n p0 = r ∧ nb r) (mpst D A (fun (u : Unit) => [(h0, .inr (3, [.ref h1, .int gap])), (h1, .inl (aI, n, .inl pf))])) A)) (by decide) rfl (Nat.le_of_ble_eq_true rfl) ?_
  intro p e s m args below meth c A ls Q hQ hx hb hr hts hown hlk hnm hml hA hS hP hK hD hE hl
  have hown : s.vm.findClass RX3 = some m.cls := hown
  have hl : lv_has ls 2 [(0, .ref h0), (1, .int p0)] := hl
  have hG := F_isFloor_u n p0
  refine lv_iload_n hx hb dX3_isFloor_0 rfl (lv_at hl 1 rfl) ?_
  refine lv_if_lt (tgt := 17) hx hb dX3_isFloor_1 (by decide) (fun c_1 => ?_) (fun c_1 => ?_)
  · have hG := hG.trans (if_pos c_1)
    refine lv_iconst (v := 0) hx hb dX3_isFloor_17 (by decide) ?_
    have hP := hP.sub (ws' := [(h0, .inr (3, [.ref h1, .int gap])), (h1, .inl (aI, n, .inl pf))]) [0, 1] rfl
    have hD := hD.sub (ws' := [(h0, .inr (3, [.ref h1, .int gap])), (h1, .inl (aI, n, .inl pf))]) [0, 1] (by decide) rfl
    exact rt_z hQ hx hb hr (nb_n (Or.inl rfl)) () ⟨hG, (Or.inl rfl)⟩ hP hD hS (Nat.le_of_ble_eq_true rfl) (Nat.le_of_ble_eq_true rfl) dX3_isFloor_18 hlk
  · have hG := hG.trans (if_neg c_1)
    refine lv_iload_n hx hb dX3_isFloor_4 rfl (lv_at hl 1 rfl) ?_
    refine lv_aload_n hx hb dX3_isFloor_5 rfl (lv_at hl 0 rfl) ?_
    refine va_get (D := D) (ci := 3) (v := .ref h1) (C := RX3) (T := TX3) (N := 2) hx hb hts inX3 hown hK hP 0 rfl rfl 0 (by decide) (hts _ (mG w_69)) (fun _ h9 => h9) rfl dX3_isFloor_6 ?_
    refine va_alen (v := nI n) hx hb hK hP 1 0 rfl rfl rfl dX3_isFloor_9 ?_
    refine lv_icmp_ge (tgt := 17) hx hb dX3_isFloor_10 (by decide) (fun c_2 => ?_) (fun c_2 => ?_)
    · have hG := hG.trans (if_pos c_2)
      refine lv_iconst (v := 0) hx hb dX3_isFloor_17 (by decide) ?_
      have hP := hP.sub (ws' := [(h0, .inr (3, [.ref h1, .int gap])), (h1, .inl (aI, n, .inl pf))]) [0, 1] rfl
      have hD := hD.sub (ws' := [(h0, .inr (3, [.ref h1, .int gap])), (h1, .inl (aI, n, .inl pf))]) [0, 1] (by decide) rfl
      exact rt_z hQ hx hb hr (nb_n (Or.inl rfl)) () ⟨hG, (Or.inl rfl)⟩ hP hD hS (Nat.le_of_ble_eq_true rfl) (Nat.le_of_ble_eq_true rfl) dX3_isFloor_18 hlk
    · have hG := hG.trans (if_neg c_2)
      refine lv_iconst (v := 1) hx hb dX3_isFloor_13 (by decide) ?_
      refine lv_goto (tgt := 18) hx hb dX3_isFloor_14 (by decide) ?_
      have hP := hP.sub (ws' := [(h0, .inr (3, [.ref h1, .int gap])), (h1, .inl (aI, n, .inl pf))]) [0, 1] rfl
      have hD := hD.sub (ws' := [(h0, .inr (3, [.ref h1, .int gap])), (h1, .inl (aI, n, .inl pf))]) [0, 1] (by decide) rfl
      exact rt_z hQ hx hb hr (nb_n (Or.inr rfl)) () ⟨hG, (Or.inr rfl)⟩ hP hD hS (Nat.le_of_ble_eq_true rfl) (Nat.le_of_ble_eq_true rfl) dX3_isFloor_18 hlk
theorem dX3_placeOf_0 : decode cX3_placeOf 0 = .ok (.aload_n 0, 1) := by decide +kernel
theorem dX3_placeOf_1 : decode cX3_placeOf 1 = .ok (.iload_n 1, 1) := by decide +kernel
theorem dX3_placeOf_2 : decode cX3_placeOf 2 = .ok (.invokevirtual 25, 3) := by decide +kernel
theorem dX3_placeOf_5 : decode cX3_placeOf 5 = .ok (.ifCond .eq 12, 3) := by decide +kernel
theorem dX3_placeOf_8 : decode cX3_placeOf 8 = .ok (.aload_n 0, 1) := by decide +kernel
theorem dX3_placeOf_9 : decode cX3_placeOf 9 = .ok (.getfield 15, 3) := by decide +kernel
theorem dX3_placeOf_12 : decode cX3_placeOf 12 = .ok (.iload_n 1, 1) := by decide +kernel
theorem dX3_placeOf_13 : decode cX3_placeOf 13 = .ok (.iaload, 1) := by decide +kernel
theorem dX3_placeOf_14 : decode cX3_placeOf 14 = .ok (.goto 4, 3) := by decide +kernel
theorem dX3_placeOf_17 : decode cX3_placeOf 17 = .ok (.iconst (-1), 1) := by decide +kernel
theorem dX3_placeOf_18 : decode cX3_placeOf 18 = .ok (.ireturn, 1) := by decide +kernel
theorem isFloor_in {n : Nat} {p0 r : Int32} (hn : n < 2 ^ 31) (h : F_isFloor n p0 = r) (hr : ¬ r = 0) : vp_in p0 n := by
  unfold F_isFloor at h
  by_cases h1 : p0 < 0
  · rw [if_pos h1] at h; exact absurd h.symm hr
  · rw [if_neg h1] at h
    by_cases h2 : nI n ≤ p0
    · rw [if_pos h2] at h; exact absurd h.symm hr
    · obtain ⟨j, hj, rfl⟩ := nI_of h1
      exact vp_in_nI (Nat.not_le.mp fun q => h2 (nI_le q hj)) hn
def F_placeOf (n : Nat) (pf : Nat → Int32) (p0 : Int32) : Int32 :=
  cb (F_isFloor n p0) fun r_1 =>
    if r_1 = 0 then
      (-1)
    else
      (pf p0.toNatClampNeg)
theorem F_placeOf_u (n : Nat) (pf : Nat → Int32) (p0 : Int32) : F_placeOf n pf p0 =
  (cb (F_isFloor n p0) fun r_1 =>
    if r_1 = 0 then
      (-1)
    else
      (pf p0.toNatClampNeg)) := rfl
set_option maxHeartbeats 4000000 in
set_option maxRecDepth 100000 in
theorem c_placeOf (l : Launch) (D : va_G) (aI aL aZ : ClassId) (sz : Nat) (h0 : Nat) (h1 : Nat) (gap : Int32) (n : Nat) (pf : Nat → Int32) (p0 : Int32) (hn : n < 2 ^ 31) : Met l yX3_placeOf (.code yX3_placeOf cX3_placeOf 2 (some .int) :: Gw) ({ frames := 1, cells := 0, slots := 0, locals := 21 }) (va_Pc [.ref h0, .int p0] (mpre D [(aI, .int), (aL, .long), (aZ, .boolean)] [(h0, .inr (3, [.ref h1, .int gap])), (h1, .inl (aI, n, .inl pf))] sz)) ((fun A : Nat → Prop => va_Qi (fun (r : Int32) (u : Unit) => F_placeOf n pf p0 = r) (mpst D A (fun (u : Unit) => [(h0, .inr (3, [.ref h1, .int gap])), (h1, .inl (aI, n, .inl pf))])) A) (va_A ([(h0, .inr (3, [.ref h1, .int gap])), (h1, .inl (aI, n, .inl pf))]) sz)) 0 0 (va_A ([(h0, .inr (3, [.ref h1, .int gap])), (h1, .inl (aI, n, .inl pf))]) sz) := by
  refine en (cc := cX3_placeOf) (maxL := 2) (ret := (some .int)) (Qc := (fun A : Nat → Prop => va_Qi (fun (r : Int32) (u : Unit) => F_placeOf n pf p0 = r) (mpst D A (fun (u : Unit) => [(h0, .inr (3, [.ref h1, .int gap])), (h1, .inl (aI, n, .inl pf))])) A)) (by decide) rfl (Nat.le_of_ble_eq_true rfl) ?_
  intro p e s m args below meth c A ls Q hQ hx hb hr hts hown hlk hnm hml hA hS hP hK hD hE hl
  have hown : s.vm.findClass RX3 = some m.cls := hown
  have hl : lv_has ls 2 [(0, .ref h0), (1, .int p0)] := hl
  have hG := F_placeOf_u n pf p0
  refine lv_aload_n hx hb dX3_placeOf_0 rfl (lv_at hl 0 rfl) ?_
  refine lv_iload_n hx hb dX3_placeOf_1 rfl (lv_at hl 1 rfl) ?_
  refine my_i (wr := []) [0, 1] [] (va_runV (As := [.int p0]) (rest := []) ⟨hx, hb, hml, hown, hts⟩ (c_isFloor l D aI aL aZ _ h0 h1 gap n pf p0) (cwV 1 hts (gV w_210 w_211 w_212 w_36 w_213) rfl rfl rfl (by decide +kernel) ⟨Nat.le_of_ble_eq_true rfl, Nat.le_of_ble_eq_true rfl⟩) (prev_of hK hP hD hS hA hE [0, 1] rfl (by decide) (ci := 3) rfl 0 rfl _) rfl rfl hl.1 rfl (lv_room (Nat.le_of_ble_eq_true rfl)) dX3_placeOf_2 ⟨Nat.le_of_ble_eq_true rfl, Nat.le_of_ble_eq_true rfl⟩) hP hD hS hA rfl rfl (by decide) (by decide) (fun r_1 u_ H locs hw_2 hP hD hS => ?_)
  have hw_2 : F_isFloor n p0 = r_1 ∧ nb r_1 := hw_2
  have hG := hG.trans (cb_e hw_2.1)
  have hP : va_P D vwCl [(h0, .inr (3, [.ref h1, .int gap])), (h1, .inl (aI, n, .inl pf))] H := hP
  have hD : va_D A [(h0, .inr (3, [.ref h1, .int gap])), (h1, .inl (aI, n, .inl pf))] := hD
  refine lv_if_eq (tgt := 17) hx hb dX3_placeOf_5 (by decide) (fun c_3 => ?_) (fun c_3 => ?_)
  · have hG := hG.trans (if_pos c_3)
    refine lv_iconst (v := (-1)) hx hb dX3_placeOf_17 (by decide) ?_
    have hP := hP.sub (ws' := [(h0, .inr (3, [.ref h1, .int gap])), (h1, .inl (aI, n, .inl pf))]) [0, 1] rfl
    have hD := hD.sub (ws' := [(h0, .inr (3, [.ref h1, .int gap])), (h1, .inl (aI, n, .inl pf))]) [0, 1] (by decide) rfl
    exact rt_i hQ hx hb hr () hG hP hD hS (Nat.le_of_ble_eq_true rfl) (Nat.le_of_ble_eq_true rfl) dX3_placeOf_18 hlk
  · have hG := hG.trans (if_neg c_3)
    refine lv_aload_n hx hb dX3_placeOf_8 rfl (lv_at hl 0 rfl) ?_
    refine va_get (D := D) (ci := 3) (v := .ref h1) (C := RX3) (T := TX3) (N := 2) hx hb hts inX3 hown hK hP 0 rfl rfl 0 (by decide) (hts _ (mG w_69)) (fun _ h9 => h9) rfl dX3_placeOf_9 ?_
    refine lv_iload_n hx hb dX3_placeOf_12 rfl (lv_at hl 1 rfl) ?_
    refine va_iald hx hb hK hP 1 0 rfl rfl (isFloor_in hn hw_2.1 c_3) dX3_placeOf_13 ?_
    refine lv_goto (tgt := 18) hx hb dX3_placeOf_14 (by decide) ?_
    have hP := hP.sub (ws' := [(h0, .inr (3, [.ref h1, .int gap])), (h1, .inl (aI, n, .inl pf))]) [0, 1] rfl
    have hD := hD.sub (ws' := [(h0, .inr (3, [.ref h1, .int gap])), (h1, .inl (aI, n, .inl pf))]) [0, 1] (by decide) rfl
    exact rt_i hQ hx hb hr () hG hP hD hS (Nat.le_of_ble_eq_true rfl) (Nat.le_of_ble_eq_true rfl) dX3_placeOf_18 hlk
theorem dX3_setPlace_0 : decode cX3_setPlace 0 = .ok (.aload_n 0, 1) := by decide +kernel
theorem dX3_setPlace_1 : decode cX3_setPlace 1 = .ok (.iload_n 1, 1) := by decide +kernel
theorem dX3_setPlace_2 : decode cX3_setPlace 2 = .ok (.invokevirtual 25, 3) := by decide +kernel
theorem dX3_setPlace_5 : decode cX3_setPlace 5 = .ok (.ifCond .eq 10, 3) := by decide +kernel
theorem dX3_setPlace_8 : decode cX3_setPlace 8 = .ok (.aload_n 0, 1) := by decide +kernel
theorem dX3_setPlace_9 : decode cX3_setPlace 9 = .ok (.getfield 15, 3) := by decide +kernel
theorem dX3_setPlace_12 : decode cX3_setPlace 12 = .ok (.iload_n 1, 1) := by decide +kernel
theorem dX3_setPlace_13 : decode cX3_setPlace 13 = .ok (.iload_n 2, 1) := by decide +kernel
theorem dX3_setPlace_14 : decode cX3_setPlace 14 = .ok (.iastore, 1) := by decide +kernel
theorem dX3_setPlace_15 : decode cX3_setPlace 15 = .ok (.return_, 1) := by decide +kernel
def F_setPlace (n : Nat) (pf : Nat → Int32) (p0 : Int32) (p1 : Int32) : (Nat → Int32) :=
  cb (F_isFloor n p0) fun r_1 =>
    if r_1 = 0 then
      pf
    else
      (upd pf p0.toNatClampNeg p1)
theorem F_setPlace_u (n : Nat) (pf : Nat → Int32) (p0 : Int32) (p1 : Int32) : F_setPlace n pf p0 p1 =
  (cb (F_isFloor n p0) fun r_1 =>
    if r_1 = 0 then
      pf
    else
      (upd pf p0.toNatClampNeg p1)) := rfl
set_option maxHeartbeats 4000000 in
set_option maxRecDepth 100000 in
theorem c_setPlace (l : Launch) (D : va_G) (aI aL aZ : ClassId) (sz : Nat) (h0 : Nat) (h1 : Nat) (gap : Int32) (n : Nat) (pf : Nat → Int32) (p0 : Int32) (p1 : Int32) (hn : n < 2 ^ 31) : Met l yX3_setPlace (.code yX3_setPlace cX3_setPlace 3 none :: Gw) ({ frames := 1, cells := 0, slots := 0, locals := 21 }) (va_Pc [.ref h0, .int p0, .int p1] (mpre D [(aI, .int), (aL, .long), (aZ, .boolean)] [(h0, .inr (3, [.ref h1, .int gap])), (h1, .inl (aI, n, .inl pf))] sz)) ((fun A : Nat → Prop => va_Qv (fun (u : (Nat → Int32)) => F_setPlace n pf p0 p1 = u) (mpst D A (fun (u : (Nat → Int32)) => [(h0, .inr (3, [.ref h1, .int gap])), (h1, .inl (aI, n, .inl u))])) A) (va_A ([(h0, .inr (3, [.ref h1, .int gap])), (h1, .inl (aI, n, .inl pf))]) sz)) 0 0 (va_A ([(h0, .inr (3, [.ref h1, .int gap])), (h1, .inl (aI, n, .inl pf))]) sz) := by
  refine en (cc := cX3_setPlace) (maxL := 3) (ret := none) (Qc := (fun A : Nat → Prop => va_Qv (fun (u : (Nat → Int32)) => F_setPlace n pf p0 p1 = u) (mpst D A (fun (u : (Nat → Int32)) => [(h0, .inr (3, [.ref h1, .int gap])), (h1, .inl (aI, n, .inl u))])) A)) (by decide) rfl (Nat.le_of_ble_eq_true rfl) ?_
  intro p e s m args below meth c A ls Q hQ hx hb hr hts hown hlk hnm hml hA hS hP hK hD hE hl
  have hown : s.vm.findClass RX3 = some m.cls := hown
  have hl : lv_has ls 3 [(0, .ref h0), (1, .int p0), (2, .int p1)] := hl
  have hG := F_setPlace_u n pf p0 p1
  refine lv_aload_n hx hb dX3_setPlace_0 rfl (lv_at hl 0 rfl) ?_
  refine lv_iload_n hx hb dX3_setPlace_1 rfl (lv_at hl 1 rfl) ?_
  refine my_i (wr := []) [0, 1] [] (va_runV (As := [.int p0]) (rest := []) ⟨hx, hb, hml, hown, hts⟩ (c_isFloor l D aI aL aZ _ h0 h1 gap n pf p0) (cwV 1 hts (gV w_210 w_211 w_212 w_36 w_213) rfl rfl rfl (by decide +kernel) ⟨Nat.le_of_ble_eq_true rfl, Nat.le_of_ble_eq_true rfl⟩) (prev_of hK hP hD hS hA hE [0, 1] rfl (by decide) (ci := 3) rfl 0 rfl _) rfl rfl hl.1 rfl (lv_room (Nat.le_of_ble_eq_true rfl)) dX3_setPlace_2 ⟨Nat.le_of_ble_eq_true rfl, Nat.le_of_ble_eq_true rfl⟩) hP hD hS hA rfl rfl (by decide) (by decide) (fun r_1 u_ H locs hw_2 hP hD hS => ?_)
  have hw_2 : F_isFloor n p0 = r_1 ∧ nb r_1 := hw_2
  have hG := hG.trans (cb_e hw_2.1)
  have hP : va_P D vwCl [(h0, .inr (3, [.ref h1, .int gap])), (h1, .inl (aI, n, .inl pf))] H := hP
  have hD : va_D A [(h0, .inr (3, [.ref h1, .int gap])), (h1, .inl (aI, n, .inl pf))] := hD
  refine lv_if_eq (tgt := 15) hx hb dX3_setPlace_5 (by decide) (fun c_3 => ?_) (fun c_3 => ?_)
  · have hG := hG.trans (if_pos c_3)
    have hP := hP.sub (ws' := [(h0, .inr (3, [.ref h1, .int gap])), (h1, .inl (aI, n, .inl pf))]) [0, 1] rfl
    have hD := hD.sub (ws' := [(h0, .inr (3, [.ref h1, .int gap])), (h1, .inl (aI, n, .inl pf))]) [0, 1] (by decide) rfl
    exact rt_v hQ hx hb hr pf hG hP hD hS (Nat.le_of_ble_eq_true rfl) (Nat.le_of_ble_eq_true rfl) dX3_setPlace_15 hlk
  · have hG := hG.trans (if_neg c_3)
    refine lv_aload_n hx hb dX3_setPlace_8 rfl (lv_at hl 0 rfl) ?_
    refine va_get (D := D) (ci := 3) (v := .ref h1) (C := RX3) (T := TX3) (N := 2) hx hb hts inX3 hown hK hP 0 rfl rfl 0 (by decide) (hts _ (mG w_69)) (fun _ h9 => h9) rfl dX3_setPlace_9 ?_
    refine lv_iload_n hx hb dX3_setPlace_12 rfl (lv_at hl 1 rfl) ?_
    refine lv_iload_n hx hb dX3_setPlace_13 rfl (lv_at hl 2 rfl) ?_
    refine va_iast hx hb hK hP hD hS 1 0 rfl rfl (isFloor_in hn hw_2.1 c_3) dX3_setPlace_14 (fun H locs hP hD hS => ?_)
    have hP : va_P D vwCl [(h0, .inr (3, [.ref h1, .int gap])), (h1, .inl (aI, n, .inl (upd pf p0.toNatClampNeg p1)))] H := hP
    have hD : va_D A [(h0, .inr (3, [.ref h1, .int gap])), (h1, .inl (aI, n, .inl (upd pf p0.toNatClampNeg p1)))] := hD
    have hP := hP.sub (ws' := [(h0, .inr (3, [.ref h1, .int gap])), (h1, .inl (aI, n, .inl (upd pf p0.toNatClampNeg p1)))]) [0, 1] rfl
    have hD := hD.sub (ws' := [(h0, .inr (3, [.ref h1, .int gap])), (h1, .inl (aI, n, .inl (upd pf p0.toNatClampNeg p1)))]) [0, 1] (by decide) rfl
    exact rt_v hQ hx hb hr (upd pf p0.toNatClampNeg p1) hG hP hD hS (Nat.le_of_ble_eq_true rfl) (Nat.le_of_ble_eq_true rfl) dX3_setPlace_15 hlk
theorem dX3_liesBetweenNeighbours_0 : decode cX3_liesBetweenNeighbours 0 = .ok (.aload_n 0, 1) := by decide +kernel
theorem dX3_liesBetweenNeighbours_1 : decode cX3_liesBetweenNeighbours 1 = .ok (.iload_n 1, 1) := by decide +kernel
theorem dX3_liesBetweenNeighbours_2 : decode cX3_liesBetweenNeighbours 2 = .ok (.iconst 1, 1) := by decide +kernel
theorem dX3_liesBetweenNeighbours_3 : decode cX3_liesBetweenNeighbours 3 = .ok (.isub, 1) := by decide +kernel
theorem dX3_liesBetweenNeighbours_4 : decode cX3_liesBetweenNeighbours 4 = .ok (.invokevirtual 25, 3) := by decide +kernel
theorem dX3_liesBetweenNeighbours_7 : decode cX3_liesBetweenNeighbours 7 = .ok (.ifCond .eq 14, 3) := by decide +kernel
theorem dX3_liesBetweenNeighbours_10 : decode cX3_liesBetweenNeighbours 10 = .ok (.iload_n 2, 1) := by decide +kernel
theorem dX3_liesBetweenNeighbours_11 : decode cX3_liesBetweenNeighbours 11 = .ok (.aload_n 0, 1) := by decide +kernel
theorem dX3_liesBetweenNeighbours_12 : decode cX3_liesBetweenNeighbours 12 = .ok (.iload_n 1, 1) := by decide +kernel
theorem dX3_liesBetweenNeighbours_13 : decode cX3_liesBetweenNeighbours 13 = .ok (.iconst 1, 1) := by decide +kernel
theorem dX3_liesBetweenNeighbours_14 : decode cX3_liesBetweenNeighbours 14 = .ok (.isub, 1) := by decide +kernel
theorem dX3_liesBetweenNeighbours_15 : decode cX3_liesBetweenNeighbours 15 = .ok (.invokevirtual 29, 3) := by decide +kernel
theorem dX3_liesBetweenNeighbours_18 : decode cX3_liesBetweenNeighbours 18 = .ok (.if_icmp .le 7, 3) := by decide +kernel
theorem dX3_liesBetweenNeighbours_21 : decode cX3_liesBetweenNeighbours 21 = .ok (.iconst 1, 1) := by decide +kernel
theorem dX3_liesBetweenNeighbours_22 : decode cX3_liesBetweenNeighbours 22 = .ok (.goto 4, 3) := by decide +kernel
theorem dX3_liesBetweenNeighbours_25 : decode cX3_liesBetweenNeighbours 25 = .ok (.iconst 0, 1) := by decide +kernel
theorem dX3_liesBetweenNeighbours_26 : decode cX3_liesBetweenNeighbours 26 = .ok (.istore_n 3, 1) := by decide +kernel
theorem dX3_liesBetweenNeighbours_27 : decode cX3_liesBetweenNeighbours 27 = .ok (.aload_n 0, 1) := by decide +kernel
theorem dX3_liesBetweenNeighbours_28 : decode cX3_liesBetweenNeighbours 28 = .ok (.iload_n 1, 1) := by decide +kernel
theorem dX3_liesBetweenNeighbours_29 : decode cX3_liesBetweenNeighbours 29 = .ok (.iconst 1, 1) := by decide +kernel
theorem dX3_liesBetweenNeighbours_30 : decode cX3_liesBetweenNeighbours 30 = .ok (.iadd, 1) := by decide +kernel
theorem dX3_liesBetweenNeighbours_31 : decode cX3_liesBetweenNeighbours 31 = .ok (.invokevirtual 25, 3) := by decide +kernel
theorem dX3_liesBetweenNeighbours_34 : decode cX3_liesBetweenNeighbours 34 = .ok (.ifCond .eq 14, 3) := by decide +kernel
theorem dX3_liesBetweenNeighbours_37 : decode cX3_liesBetweenNeighbours 37 = .ok (.iload_n 2, 1) := by decide +kernel
theorem dX3_liesBetweenNeighbours_38 : decode cX3_liesBetweenNeighbours 38 = .ok (.aload_n 0, 1) := by decide +kernel
theorem dX3_liesBetweenNeighbours_39 : decode cX3_liesBetweenNeighbours 39 = .ok (.iload_n 1, 1) := by decide +kernel
theorem dX3_liesBetweenNeighbours_40 : decode cX3_liesBetweenNeighbours 40 = .ok (.iconst 1, 1) := by decide +kernel
theorem dX3_liesBetweenNeighbours_41 : decode cX3_liesBetweenNeighbours 41 = .ok (.iadd, 1) := by decide +kernel
theorem dX3_liesBetweenNeighbours_42 : decode cX3_liesBetweenNeighbours 42 = .ok (.invokevirtual 29, 3) := by decide +kernel
theorem dX3_liesBetweenNeighbours_45 : decode cX3_liesBetweenNeighbours 45 = .ok (.if_icmp .ge 7, 3) := by decide +kernel
theorem dX3_liesBetweenNeighbours_48 : decode cX3_liesBetweenNeighbours 48 = .ok (.iconst 1, 1) := by decide +kernel
theorem dX3_liesBetweenNeighbours_49 : decode cX3_liesBetweenNeighbours 49 = .ok (.goto 4, 3) := by decide +kernel
theorem dX3_liesBetweenNeighbours_52 : decode cX3_liesBetweenNeighbours 52 = .ok (.iconst 0, 1) := by decide +kernel
theorem dX3_liesBetweenNeighbours_53 : decode cX3_liesBetweenNeighbours 53 = .ok (.istore 4, 2) := by decide +kernel
theorem dX3_liesBetweenNeighbours_55 : decode cX3_liesBetweenNeighbours 55 = .ok (.iload_n 3, 1) := by decide +kernel
theorem dX3_liesBetweenNeighbours_56 : decode cX3_liesBetweenNeighbours 56 = .ok (.ifCond .eq 12, 3) := by decide +kernel
theorem dX3_liesBetweenNeighbours_59 : decode cX3_liesBetweenNeighbours 59 = .ok (.iload 4, 2) := by decide +kernel
theorem dX3_liesBetweenNeighbours_61 : decode cX3_liesBetweenNeighbours 61 = .ok (.ifCond .eq 7, 3) := by decide +kernel
theorem dX3_liesBetweenNeighbours_64 : decode cX3_liesBetweenNeighbours 64 = .ok (.iconst 1, 1) := by decide +kernel
theorem dX3_liesBetweenNeighbours_65 : decode cX3_liesBetweenNeighbours 65 = .ok (.goto 4, 3) := by decide +kernel
theorem dX3_liesBetweenNeighbours_68 : decode cX3_liesBetweenNeighbours 68 = .ok (.iconst 0, 1) := by decide +kernel
theorem dX3_liesBetweenNeighbours_69 : decode cX3_liesBetweenNeighbours 69 = .ok (.ireturn, 1) := by decide +kernel
def F_lies (n : Nat) (pf : Nat → Int32) (p0 : Int32) (p1 : Int32) : Int32 :=
  cb (F_isFloor n (p0 - 1)) fun r_1 =>
    if r_1 = 0 then
      cb (F_isFloor n (p0 + 1)) fun r_4 =>
        if r_4 = 0 then
          1
        else
          cb (F_placeOf n pf (p0 + 1)) fun r_9 =>
            if r_9 ≤ p1 then
              0
            else
              1
    else
      cb (F_placeOf n pf (p0 - 1)) fun r_16 =>
        if p1 ≤ r_16 then
          cb (F_isFloor n (p0 + 1)) fun r_19 =>
            if r_19 = 0 then
              0
            else
              cb (F_placeOf n pf (p0 + 1)) fun r_23 =>
                if r_23 ≤ p1 then
                  0
                else
                  0
        else
          cb (F_isFloor n (p0 + 1)) fun r_28 =>
            if r_28 = 0 then
              1
            else
              cb (F_placeOf n pf (p0 + 1)) fun r_33 =>
                if r_33 ≤ p1 then
                  0
                else
                  1
theorem F_lies_u (n : Nat) (pf : Nat → Int32) (p0 : Int32) (p1 : Int32) : F_lies n pf p0 p1 =
  (cb (F_isFloor n (p0 - 1)) fun r_1 =>
    if r_1 = 0 then
      cb (F_isFloor n (p0 + 1)) fun r_4 =>
        if r_4 = 0 then
          1
        else
          cb (F_placeOf n pf (p0 + 1)) fun r_9 =>
            if r_9 ≤ p1 then
              0
            else
              1
    else
      cb (F_placeOf n pf (p0 - 1)) fun r_16 =>
        if p1 ≤ r_16 then
          cb (F_isFloor n (p0 + 1)) fun r_19 =>
            if r_19 = 0 then
              0
            else
              cb (F_placeOf n pf (p0 + 1)) fun r_23 =>
                if r_23 ≤ p1 then
                  0
                else
                  0
        else
          cb (F_isFloor n (p0 + 1)) fun r_28 =>
            if r_28 = 0 then
              1
            else
              cb (F_placeOf n pf (p0 + 1)) fun r_33 =>
                if r_33 ≤ p1 then
                  0
                else
                  1) := rfl
set_option maxHeartbeats 4000000 in
set_option maxRecDepth 100000 in
theorem c_lies (l : Launch) (D : va_G) (aI aL aZ : ClassId) (sz : Nat) (h0 : Nat) (h1 : Nat) (gap : Int32) (n : Nat) (pf : Nat → Int32) (p0 : Int32) (p1 : Int32) (hn : n < 2 ^ 31) : Met l yX3_liesBetweenNeighbours (.code yX3_liesBetweenNeighbours cX3_liesBetweenNeighbours 5 (some .boolean) :: Gw) ({ frames := 2, cells := 0, slots := 0, locals := 42 }) (va_Pc [.ref h0, .int p0, .int p1] (mpre D [(aI, .int), (aL, .long), (aZ, .boolean)] [(h0, .inr (3, [.ref h1, .int gap])), (h1, .inl (aI, n, .inl pf))] sz)) ((fun A : Nat → Prop => va_Qi (fun (r : Int32) (u : Unit) => F_lies n pf p0 p1 = r ∧ nb r) (mpst D A (fun (u : Unit) => [(h0, .inr (3, [.ref h1, .int gap])), (h1, .inl (aI, n, .inl pf))])) A) (va_A ([(h0, .inr (3, [.ref h1, .int gap])), (h1, .inl (aI, n, .inl pf))]) sz)) 0 0 (va_A ([(h0, .inr (3, [.ref h1, .int gap])), (h1, .inl (aI, n, .inl pf))]) sz) := by
  refine en (cc := cX3_liesBetweenNeighbours) (maxL := 5) (ret := (some .boolean)) (Qc := (fun A : Nat → Prop => va_Qi (fun (r : Int32) (u : Unit) => F_lies n pf p0 p1 = r ∧ nb r) (mpst D A (fun (u : Unit) => [(h0, .inr (3, [.ref h1, .int gap])), (h1, .inl (aI, n, .inl pf))])) A)) (by decide) rfl (Nat.le_of_ble_eq_true rfl) ?_
  intro p e s m args below meth c A ls Q hQ hx hb hr hts hown hlk hnm hml hA hS hP hK hD hE hl
  have hown : s.vm.findClass RX3 = some m.cls := hown
  have hl : lv_has ls 5 [(0, .ref h0), (1, .int p0), (2, .int p1)] := hl
  have hG := F_lies_u n pf p0 p1
  refine lv_aload_n hx hb dX3_liesBetweenNeighbours_0 rfl (lv_at hl 0 rfl) ?_
  refine lv_iload_n hx hb dX3_liesBetweenNeighbours_1 rfl (lv_at hl 1 rfl) ?_
  refine lv_iconst (v := 1) hx hb dX3_liesBetweenNeighbours_2 (by decide) ?_
  refine lv_isub hx hb dX3_liesBetweenNeighbours_3 ?_
  refine my_i (wr := []) [0, 1] [] (va_runV (As := [.int (p0 - 1)]) (rest := []) ⟨hx, hb, hml, hown, hts⟩ (c_isFloor l D aI aL aZ _ h0 h1 gap n pf (p0 - 1)) (cwV 1 hts (gV w_210 w_211 w_212 w_36 w_213) rfl rfl rfl (by decide +kernel) ⟨Nat.le_of_ble_eq_true rfl, Nat.le_of_ble_eq_true rfl⟩) (prev_of hK hP hD hS hA hE [0, 1] rfl (by decide) (ci := 3) rfl 0 rfl _) rfl rfl hl.1 rfl (lv_room (Nat.le_of_ble_eq_true rfl)) dX3_liesBetweenNeighbours_4 ⟨Nat.le_of_ble_eq_true rfl, Nat.le_of_ble_eq_true rfl⟩) hP hD hS hA rfl rfl (by decide) (by decide) (fun r_1 u_ H locs hw_2 hP hD hS => ?_)
  have hw_2 : F_isFloor n (p0 - 1) = r_1 ∧ nb r_1 := hw_2
  have hG := hG.trans (cb_e hw_2.1)
  have hP : va_P D vwCl [(h0, .inr (3, [.ref h1, .int gap])), (h1, .inl (aI, n, .inl pf))] H := hP
  have hD : va_D A [(h0, .inr (3, [.ref h1, .int gap])), (h1, .inl (aI, n, .inl pf))] := hD
  refine lv_if_eq (tgt := 21) hx hb dX3_liesBetweenNeighbours_7 (by decide) (fun c_3 => ?_) (fun c_3 => ?_)
  · have hG := hG.trans (if_pos c_3)
    refine lv_iconst (v := 1) hx hb dX3_liesBetweenNeighbours_21 (by decide) ?_
    refine lv_goto (tgt := 26) hx hb dX3_liesBetweenNeighbours_22 (by decide) ?_
    refine lv_istore_n (lv' := [(3, .int 1), (0, .ref h0), (1, .int p0), (2, .int p1)]) hx hb dX3_liesBetweenNeighbours_26 rfl hl (by decide) rfl (fun ls hl => ?_)
    refine lv_aload_n hx hb dX3_liesBetweenNeighbours_27 rfl (lv_at hl 1 rfl) ?_
    refine lv_iload_n hx hb dX3_liesBetweenNeighbours_28 rfl (lv_at hl 2 rfl) ?_
    refine lv_iconst (v := 1) hx hb dX3_liesBetweenNeighbours_29 (by decide) ?_
    refine lv_iadd hx hb dX3_liesBetweenNeighbours_30 ?_
    refine my_i (wr := []) [0, 1] [] (va_runV (As := [.int (p0 + 1)]) (rest := []) ⟨hx, hb, hml, hown, hts⟩ (c_isFloor l D aI aL aZ _ h0 h1 gap n pf (p0 + 1)) (cwV 1 hts (gV w_210 w_211 w_212 w_36 w_213) rfl rfl rfl (by decide +kernel) ⟨Nat.le_of_ble_eq_true rfl, Nat.le_of_ble_eq_true rfl⟩) (prev_of hK hP hD hS hA hE [0, 1] rfl (by decide) (ci := 3) rfl 0 rfl _) rfl rfl hl.1 rfl (lv_room (Nat.le_of_ble_eq_true rfl)) dX3_liesBetweenNeighbours_31 ⟨Nat.le_of_ble_eq_true rfl, Nat.le_of_ble_eq_true rfl⟩) hP hD hS hA rfl rfl (by decide) (by decide) (fun r_4 u_ H locs hw_5 hP hD hS => ?_)
    have hw_5 : F_isFloor n (p0 + 1) = r_4 ∧ nb r_4 := hw_5
    have hG := hG.trans (cb_e hw_5.1)
    have hP : va_P D vwCl [(h0, .inr (3, [.ref h1, .int gap])), (h1, .inl (aI, n, .inl pf))] H := hP
    have hD : va_D A [(h0, .inr (3, [.ref h1, .int gap])), (h1, .inl (aI, n, .inl pf))] := hD
    refine lv_if_eq (tgt := 48) hx hb dX3_liesBetweenNeighbours_34 (by decide) (fun c_6 => ?_) (fun c_6 => ?_)
    · have hG := hG.trans (if_pos c_6)
      refine lv_iconst (v := 1) hx hb dX3_liesBetweenNeighbours_48 (by decide) ?_
      refine lv_goto (tgt := 53) hx hb dX3_liesBetweenNeighbours_49 (by decide) ?_
      refine lv_istore (lv' := [(4, .int 1), (3, .int 1), (0, .ref h0), (1, .int p0), (2, .int p1)]) hx hb dX3_liesBetweenNeighbours_53 hl (by decide) rfl (fun ls hl => ?_)
      refine lv_iload_n hx hb dX3_liesBetweenNeighbours_55 rfl (lv_at hl 1 rfl) ?_
      refine lv_if_eq (tgt := 68) hx hb dX3_liesBetweenNeighbours_56 (by decide) (fun c9 => absurd c9 (by decide)) (fun _ => ?_)
      refine lv_iload hx hb dX3_liesBetweenNeighbours_59 (lv_at hl 0 rfl) ?_
      refine lv_if_eq (tgt := 68) hx hb dX3_liesBetweenNeighbours_61 (by decide) (fun c9 => absurd c9 (by decide)) (fun _ => ?_)
      refine lv_iconst (v := 1) hx hb dX3_liesBetweenNeighbours_64 (by decide) ?_
      refine lv_goto (tgt := 69) hx hb dX3_liesBetweenNeighbours_65 (by decide) ?_
      have hP := hP.sub (ws' := [(h0, .inr (3, [.ref h1, .int gap])), (h1, .inl (aI, n, .inl pf))]) [0, 1] rfl
      have hD := hD.sub (ws' := [(h0, .inr (3, [.ref h1, .int gap])), (h1, .inl (aI, n, .inl pf))]) [0, 1] (by decide) rfl
      exact rt_z hQ hx hb hr (nb_n (Or.inr rfl)) () ⟨hG, (Or.inr rfl)⟩ hP hD hS (Nat.le_of_ble_eq_true rfl) (Nat.le_of_ble_eq_true rfl) dX3_liesBetweenNeighbours_69 hlk
    · have hG := hG.trans (if_neg c_6)
      refine lv_iload_n hx hb dX3_liesBetweenNeighbours_37 rfl (lv_at hl 3 rfl) ?_
      refine lv_aload_n hx hb dX3_liesBetweenNeighbours_38 rfl (lv_at hl 1 rfl) ?_
      refine lv_iload_n hx hb dX3_liesBetweenNeighbours_39 rfl (lv_at hl 2 rfl) ?_
      refine lv_iconst (v := 1) hx hb dX3_liesBetweenNeighbours_40 (by decide) ?_
      refine lv_iadd hx hb dX3_liesBetweenNeighbours_41 ?_
      refine my_i (wr := []) [0, 1] [] (va_runV (As := [.int (p0 + 1)]) (rest := [.int p1]) ⟨hx, hb, hml, hown, hts⟩ (c_placeOf l D aI aL aZ _ h0 h1 gap n pf (p0 + 1) hn) (cwV 1 hts (gV w_214 w_215 w_216 w_36 w_217) rfl rfl rfl (by decide +kernel) ⟨Nat.le_of_ble_eq_true rfl, Nat.le_of_ble_eq_true rfl⟩) (prev_of hK hP hD hS hA hE [0, 1] rfl (by decide) (ci := 3) rfl 0 rfl _) rfl rfl hl.1 rfl (lv_room (Nat.le_of_ble_eq_true rfl)) dX3_liesBetweenNeighbours_42 ⟨Nat.le_of_ble_eq_true rfl, Nat.le_of_ble_eq_true rfl⟩) hP hD hS hA rfl rfl (by decide) (by decide) (fun r_9 u_ H locs hw_10 hP hD hS => ?_)
      have hw_10 : F_placeOf n pf (p0 + 1) = r_9 := hw_10
      have hG := hG.trans (cb_e hw_10)
      have hP : va_P D vwCl [(h0, .inr (3, [.ref h1, .int gap])), (h1, .inl (aI, n, .inl pf))] H := hP
      have hD : va_D A [(h0, .inr (3, [.ref h1, .int gap])), (h1, .inl (aI, n, .inl pf))] := hD
      refine lv_icmp_ge (tgt := 52) hx hb dX3_liesBetweenNeighbours_45 (by decide) (fun c_11 => ?_) (fun c_11 => ?_)
      · have hG := hG.trans (if_pos c_11)
        refine lv_iconst (v := 0) hx hb dX3_liesBetweenNeighbours_52 (by decide) ?_
        refine lv_istore (lv' := [(4, .int 0), (3, .int 1), (0, .ref h0), (1, .int p0), (2, .int p1)]) hx hb dX3_liesBetweenNeighbours_53 hl (by decide) rfl (fun ls hl => ?_)
        refine lv_iload_n hx hb dX3_liesBetweenNeighbours_55 rfl (lv_at hl 1 rfl) ?_
        refine lv_if_eq (tgt := 68) hx hb dX3_liesBetweenNeighbours_56 (by decide) (fun c9 => absurd c9 (by decide)) (fun _ => ?_)
        refine lv_iload hx hb dX3_liesBetweenNeighbours_59 (lv_at hl 0 rfl) ?_
        refine lv_if_eq (tgt := 68) hx hb dX3_liesBetweenNeighbours_61 (by decide) (fun _ => ?_) (fun c9 => absurd c9 (by decide))
        refine lv_iconst (v := 0) hx hb dX3_liesBetweenNeighbours_68 (by decide) ?_
        have hP := hP.sub (ws' := [(h0, .inr (3, [.ref h1, .int gap])), (h1, .inl (aI, n, .inl pf))]) [0, 1] rfl
        have hD := hD.sub (ws' := [(h0, .inr (3, [.ref h1, .int gap])), (h1, .inl (aI, n, .inl pf))]) [0, 1] (by decide) rfl
        exact rt_z hQ hx hb hr (nb_n (Or.inl rfl)) () ⟨hG, (Or.inl rfl)⟩ hP hD hS (Nat.le_of_ble_eq_true rfl) (Nat.le_of_ble_eq_true rfl) dX3_liesBetweenNeighbours_69 hlk
      · have hG := hG.trans (if_neg c_11)
        refine lv_iconst (v := 1) hx hb dX3_liesBetweenNeighbours_48 (by decide) ?_
        refine lv_goto (tgt := 53) hx hb dX3_liesBetweenNeighbours_49 (by decide) ?_
        refine lv_istore (lv' := [(4, .int 1), (3, .int 1), (0, .ref h0), (1, .int p0), (2, .int p1)]) hx hb dX3_liesBetweenNeighbours_53 hl (by decide) rfl (fun ls hl => ?_)
        refine lv_iload_n hx hb dX3_liesBetweenNeighbours_55 rfl (lv_at hl 1 rfl) ?_
        refine lv_if_eq (tgt := 68) hx hb dX3_liesBetweenNeighbours_56 (by decide) (fun c9 => absurd c9 (by decide)) (fun _ => ?_)
        refine lv_iload hx hb dX3_liesBetweenNeighbours_59 (lv_at hl 0 rfl) ?_
        refine lv_if_eq (tgt := 68) hx hb dX3_liesBetweenNeighbours_61 (by decide) (fun c9 => absurd c9 (by decide)) (fun _ => ?_)
        refine lv_iconst (v := 1) hx hb dX3_liesBetweenNeighbours_64 (by decide) ?_
        refine lv_goto (tgt := 69) hx hb dX3_liesBetweenNeighbours_65 (by decide) ?_
        have hP := hP.sub (ws' := [(h0, .inr (3, [.ref h1, .int gap])), (h1, .inl (aI, n, .inl pf))]) [0, 1] rfl
        have hD := hD.sub (ws' := [(h0, .inr (3, [.ref h1, .int gap])), (h1, .inl (aI, n, .inl pf))]) [0, 1] (by decide) rfl
        exact rt_z hQ hx hb hr (nb_n (Or.inr rfl)) () ⟨hG, (Or.inr rfl)⟩ hP hD hS (Nat.le_of_ble_eq_true rfl) (Nat.le_of_ble_eq_true rfl) dX3_liesBetweenNeighbours_69 hlk
  · have hG := hG.trans (if_neg c_3)
    refine lv_iload_n hx hb dX3_liesBetweenNeighbours_10 rfl (lv_at hl 2 rfl) ?_
    refine lv_aload_n hx hb dX3_liesBetweenNeighbours_11 rfl (lv_at hl 0 rfl) ?_
    refine lv_iload_n hx hb dX3_liesBetweenNeighbours_12 rfl (lv_at hl 1 rfl) ?_
    refine lv_iconst (v := 1) hx hb dX3_liesBetweenNeighbours_13 (by decide) ?_
    refine lv_isub hx hb dX3_liesBetweenNeighbours_14 ?_
    refine my_i (wr := []) [0, 1] [] (va_runV (As := [.int (p0 - 1)]) (rest := [.int p1]) ⟨hx, hb, hml, hown, hts⟩ (c_placeOf l D aI aL aZ _ h0 h1 gap n pf (p0 - 1) hn) (cwV 1 hts (gV w_214 w_215 w_216 w_36 w_217) rfl rfl rfl (by decide +kernel) ⟨Nat.le_of_ble_eq_true rfl, Nat.le_of_ble_eq_true rfl⟩) (prev_of hK hP hD hS hA hE [0, 1] rfl (by decide) (ci := 3) rfl 0 rfl _) rfl rfl hl.1 rfl (lv_room (Nat.le_of_ble_eq_true rfl)) dX3_liesBetweenNeighbours_15 ⟨Nat.le_of_ble_eq_true rfl, Nat.le_of_ble_eq_true rfl⟩) hP hD hS hA rfl rfl (by decide) (by decide) (fun r_16 u_ H locs hw_17 hP hD hS => ?_)
    have hw_17 : F_placeOf n pf (p0 - 1) = r_16 := hw_17
    have hG := hG.trans (cb_e hw_17)
    have hP : va_P D vwCl [(h0, .inr (3, [.ref h1, .int gap])), (h1, .inl (aI, n, .inl pf))] H := hP
    have hD : va_D A [(h0, .inr (3, [.ref h1, .int gap])), (h1, .inl (aI, n, .inl pf))] := hD
    refine lv_icmp_le (tgt := 25) hx hb dX3_liesBetweenNeighbours_18 (by decide) (fun c_18 => ?_) (fun c_18 => ?_)
    · have hG := hG.trans (if_pos c_18)
      refine lv_iconst (v := 0) hx hb dX3_liesBetweenNeighbours_25 (by decide) ?_
      refine lv_istore_n (lv' := [(3, .int 0), (0, .ref h0), (1, .int p0), (2, .int p1)]) hx hb dX3_liesBetweenNeighbours_26 rfl hl (by decide) rfl (fun ls hl => ?_)
      refine lv_aload_n hx hb dX3_liesBetweenNeighbours_27 rfl (lv_at hl 1 rfl) ?_
      refine lv_iload_n hx hb dX3_liesBetweenNeighbours_28 rfl (lv_at hl 2 rfl) ?_
      refine lv_iconst (v := 1) hx hb dX3_liesBetweenNeighbours_29 (by decide) ?_
      refine lv_iadd hx hb dX3_liesBetweenNeighbours_30 ?_
      refine my_i (wr := []) [0, 1] [] (va_runV (As := [.int (p0 + 1)]) (rest := []) ⟨hx, hb, hml, hown, hts⟩ (c_isFloor l D aI aL aZ _ h0 h1 gap n pf (p0 + 1)) (cwV 1 hts (gV w_210 w_211 w_212 w_36 w_213) rfl rfl rfl (by decide +kernel) ⟨Nat.le_of_ble_eq_true rfl, Nat.le_of_ble_eq_true rfl⟩) (prev_of hK hP hD hS hA hE [0, 1] rfl (by decide) (ci := 3) rfl 0 rfl _) rfl rfl hl.1 rfl (lv_room (Nat.le_of_ble_eq_true rfl)) dX3_liesBetweenNeighbours_31 ⟨Nat.le_of_ble_eq_true rfl, Nat.le_of_ble_eq_true rfl⟩) hP hD hS hA rfl rfl (by decide) (by decide) (fun r_19 u_ H locs hw_20 hP hD hS => ?_)
      have hw_20 : F_isFloor n (p0 + 1) = r_19 ∧ nb r_19 := hw_20
      have hG := hG.trans (cb_e hw_20.1)
      have hP : va_P D vwCl [(h0, .inr (3, [.ref h1, .int gap])), (h1, .inl (aI, n, .inl pf))] H := hP
      have hD : va_D A [(h0, .inr (3, [.ref h1, .int gap])), (h1, .inl (aI, n, .inl pf))] := hD
      refine lv_if_eq (tgt := 48) hx hb dX3_liesBetweenNeighbours_34 (by decide) (fun c_21 => ?_) (fun c_21 => ?_)
      · have hG := hG.trans (if_pos c_21)
        refine lv_iconst (v := 1) hx hb dX3_liesBetweenNeighbours_48 (by decide) ?_
        refine lv_goto (tgt := 53) hx hb dX3_liesBetweenNeighbours_49 (by decide) ?_
        refine lv_istore (lv' := [(4, .int 1), (3, .int 0), (0, .ref h0), (1, .int p0), (2, .int p1)]) hx hb dX3_liesBetweenNeighbours_53 hl (by decide) rfl (fun ls hl => ?_)
        refine lv_iload_n hx hb dX3_liesBetweenNeighbours_55 rfl (lv_at hl 1 rfl) ?_
        refine lv_if_eq (tgt := 68) hx hb dX3_liesBetweenNeighbours_56 (by decide) (fun _ => ?_) (fun c9 => absurd c9 (by decide))
        refine lv_iconst (v := 0) hx hb dX3_liesBetweenNeighbours_68 (by decide) ?_
        have hP := hP.sub (ws' := [(h0, .inr (3, [.ref h1, .int gap])), (h1, .inl (aI, n, .inl pf))]) [0, 1] rfl
        have hD := hD.sub (ws' := [(h0, .inr (3, [.ref h1, .int gap])), (h1, .inl (aI, n, .inl pf))]) [0, 1] (by decide) rfl
        exact rt_z hQ hx hb hr (nb_n (Or.inl rfl)) () ⟨hG, (Or.inl rfl)⟩ hP hD hS (Nat.le_of_ble_eq_true rfl) (Nat.le_of_ble_eq_true rfl) dX3_liesBetweenNeighbours_69 hlk
      · have hG := hG.trans (if_neg c_21)
        refine lv_iload_n hx hb dX3_liesBetweenNeighbours_37 rfl (lv_at hl 3 rfl) ?_
        refine lv_aload_n hx hb dX3_liesBetweenNeighbours_38 rfl (lv_at hl 1 rfl) ?_
        refine lv_iload_n hx hb dX3_liesBetweenNeighbours_39 rfl (lv_at hl 2 rfl) ?_
        refine lv_iconst (v := 1) hx hb dX3_liesBetweenNeighbours_40 (by decide) ?_
        refine lv_iadd hx hb dX3_liesBetweenNeighbours_41 ?_
        refine my_i (wr := []) [0, 1] [] (va_runV (As := [.int (p0 + 1)]) (rest := [.int p1]) ⟨hx, hb, hml, hown, hts⟩ (c_placeOf l D aI aL aZ _ h0 h1 gap n pf (p0 + 1) hn) (cwV 1 hts (gV w_214 w_215 w_216 w_36 w_217) rfl rfl rfl (by decide +kernel) ⟨Nat.le_of_ble_eq_true rfl, Nat.le_of_ble_eq_true rfl⟩) (prev_of hK hP hD hS hA hE [0, 1] rfl (by decide) (ci := 3) rfl 0 rfl _) rfl rfl hl.1 rfl (lv_room (Nat.le_of_ble_eq_true rfl)) dX3_liesBetweenNeighbours_42 ⟨Nat.le_of_ble_eq_true rfl, Nat.le_of_ble_eq_true rfl⟩) hP hD hS hA rfl rfl (by decide) (by decide) (fun r_23 u_ H locs hw_24 hP hD hS => ?_)
        have hw_24 : F_placeOf n pf (p0 + 1) = r_23 := hw_24
        have hG := hG.trans (cb_e hw_24)
        have hP : va_P D vwCl [(h0, .inr (3, [.ref h1, .int gap])), (h1, .inl (aI, n, .inl pf))] H := hP
        have hD : va_D A [(h0, .inr (3, [.ref h1, .int gap])), (h1, .inl (aI, n, .inl pf))] := hD
        refine lv_icmp_ge (tgt := 52) hx hb dX3_liesBetweenNeighbours_45 (by decide) (fun c_25 => ?_) (fun c_25 => ?_)
        · have hG := hG.trans (if_pos c_25)
          refine lv_iconst (v := 0) hx hb dX3_liesBetweenNeighbours_52 (by decide) ?_
          refine lv_istore (lv' := [(4, .int 0), (3, .int 0), (0, .ref h0), (1, .int p0), (2, .int p1)]) hx hb dX3_liesBetweenNeighbours_53 hl (by decide) rfl (fun ls hl => ?_)
          refine lv_iload_n hx hb dX3_liesBetweenNeighbours_55 rfl (lv_at hl 1 rfl) ?_
          refine lv_if_eq (tgt := 68) hx hb dX3_liesBetweenNeighbours_56 (by decide) (fun _ => ?_) (fun c9 => absurd c9 (by decide))
          refine lv_iconst (v := 0) hx hb dX3_liesBetweenNeighbours_68 (by decide) ?_
          have hP := hP.sub (ws' := [(h0, .inr (3, [.ref h1, .int gap])), (h1, .inl (aI, n, .inl pf))]) [0, 1] rfl
          have hD := hD.sub (ws' := [(h0, .inr (3, [.ref h1, .int gap])), (h1, .inl (aI, n, .inl pf))]) [0, 1] (by decide) rfl
          exact rt_z hQ hx hb hr (nb_n (Or.inl rfl)) () ⟨hG, (Or.inl rfl)⟩ hP hD hS (Nat.le_of_ble_eq_true rfl) (Nat.le_of_ble_eq_true rfl) dX3_liesBetweenNeighbours_69 hlk
        · have hG := hG.trans (if_neg c_25)
          refine lv_iconst (v := 1) hx hb dX3_liesBetweenNeighbours_48 (by decide) ?_
          refine lv_goto (tgt := 53) hx hb dX3_liesBetweenNeighbours_49 (by decide) ?_
          refine lv_istore (lv' := [(4, .int 1), (3, .int 0), (0, .ref h0), (1, .int p0), (2, .int p1)]) hx hb dX3_liesBetweenNeighbours_53 hl (by decide) rfl (fun ls hl => ?_)
          refine lv_iload_n hx hb dX3_liesBetweenNeighbours_55 rfl (lv_at hl 1 rfl) ?_
          refine lv_if_eq (tgt := 68) hx hb dX3_liesBetweenNeighbours_56 (by decide) (fun _ => ?_) (fun c9 => absurd c9 (by decide))
          refine lv_iconst (v := 0) hx hb dX3_liesBetweenNeighbours_68 (by decide) ?_
          have hP := hP.sub (ws' := [(h0, .inr (3, [.ref h1, .int gap])), (h1, .inl (aI, n, .inl pf))]) [0, 1] rfl
          have hD := hD.sub (ws' := [(h0, .inr (3, [.ref h1, .int gap])), (h1, .inl (aI, n, .inl pf))]) [0, 1] (by decide) rfl
          exact rt_z hQ hx hb hr (nb_n (Or.inl rfl)) () ⟨hG, (Or.inl rfl)⟩ hP hD hS (Nat.le_of_ble_eq_true rfl) (Nat.le_of_ble_eq_true rfl) dX3_liesBetweenNeighbours_69 hlk
    · have hG := hG.trans (if_neg c_18)
      refine lv_iconst (v := 1) hx hb dX3_liesBetweenNeighbours_21 (by decide) ?_
      refine lv_goto (tgt := 26) hx hb dX3_liesBetweenNeighbours_22 (by decide) ?_
      refine lv_istore_n (lv' := [(3, .int 1), (0, .ref h0), (1, .int p0), (2, .int p1)]) hx hb dX3_liesBetweenNeighbours_26 rfl hl (by decide) rfl (fun ls hl => ?_)
      refine lv_aload_n hx hb dX3_liesBetweenNeighbours_27 rfl (lv_at hl 1 rfl) ?_
      refine lv_iload_n hx hb dX3_liesBetweenNeighbours_28 rfl (lv_at hl 2 rfl) ?_
      refine lv_iconst (v := 1) hx hb dX3_liesBetweenNeighbours_29 (by decide) ?_
      refine lv_iadd hx hb dX3_liesBetweenNeighbours_30 ?_
      refine my_i (wr := []) [0, 1] [] (va_runV (As := [.int (p0 + 1)]) (rest := []) ⟨hx, hb, hml, hown, hts⟩ (c_isFloor l D aI aL aZ _ h0 h1 gap n pf (p0 + 1)) (cwV 1 hts (gV w_210 w_211 w_212 w_36 w_213) rfl rfl rfl (by decide +kernel) ⟨Nat.le_of_ble_eq_true rfl, Nat.le_of_ble_eq_true rfl⟩) (prev_of hK hP hD hS hA hE [0, 1] rfl (by decide) (ci := 3) rfl 0 rfl _) rfl rfl hl.1 rfl (lv_room (Nat.le_of_ble_eq_true rfl)) dX3_liesBetweenNeighbours_31 ⟨Nat.le_of_ble_eq_true rfl, Nat.le_of_ble_eq_true rfl⟩) hP hD hS hA rfl rfl (by decide) (by decide) (fun r_28 u_ H locs hw_29 hP hD hS => ?_)
      have hw_29 : F_isFloor n (p0 + 1) = r_28 ∧ nb r_28 := hw_29
      have hG := hG.trans (cb_e hw_29.1)
      have hP : va_P D vwCl [(h0, .inr (3, [.ref h1, .int gap])), (h1, .inl (aI, n, .inl pf))] H := hP
      have hD : va_D A [(h0, .inr (3, [.ref h1, .int gap])), (h1, .inl (aI, n, .inl pf))] := hD
      refine lv_if_eq (tgt := 48) hx hb dX3_liesBetweenNeighbours_34 (by decide) (fun c_30 => ?_) (fun c_30 => ?_)
      · have hG := hG.trans (if_pos c_30)
        refine lv_iconst (v := 1) hx hb dX3_liesBetweenNeighbours_48 (by decide) ?_
        refine lv_goto (tgt := 53) hx hb dX3_liesBetweenNeighbours_49 (by decide) ?_
        refine lv_istore (lv' := [(4, .int 1), (3, .int 1), (0, .ref h0), (1, .int p0), (2, .int p1)]) hx hb dX3_liesBetweenNeighbours_53 hl (by decide) rfl (fun ls hl => ?_)
        refine lv_iload_n hx hb dX3_liesBetweenNeighbours_55 rfl (lv_at hl 1 rfl) ?_
        refine lv_if_eq (tgt := 68) hx hb dX3_liesBetweenNeighbours_56 (by decide) (fun c9 => absurd c9 (by decide)) (fun _ => ?_)
        refine lv_iload hx hb dX3_liesBetweenNeighbours_59 (lv_at hl 0 rfl) ?_
        refine lv_if_eq (tgt := 68) hx hb dX3_liesBetweenNeighbours_61 (by decide) (fun c9 => absurd c9 (by decide)) (fun _ => ?_)
        refine lv_iconst (v := 1) hx hb dX3_liesBetweenNeighbours_64 (by decide) ?_
        refine lv_goto (tgt := 69) hx hb dX3_liesBetweenNeighbours_65 (by decide) ?_
        have hP := hP.sub (ws' := [(h0, .inr (3, [.ref h1, .int gap])), (h1, .inl (aI, n, .inl pf))]) [0, 1] rfl
        have hD := hD.sub (ws' := [(h0, .inr (3, [.ref h1, .int gap])), (h1, .inl (aI, n, .inl pf))]) [0, 1] (by decide) rfl
        exact rt_z hQ hx hb hr (nb_n (Or.inr rfl)) () ⟨hG, (Or.inr rfl)⟩ hP hD hS (Nat.le_of_ble_eq_true rfl) (Nat.le_of_ble_eq_true rfl) dX3_liesBetweenNeighbours_69 hlk
      · have hG := hG.trans (if_neg c_30)
        refine lv_iload_n hx hb dX3_liesBetweenNeighbours_37 rfl (lv_at hl 3 rfl) ?_
        refine lv_aload_n hx hb dX3_liesBetweenNeighbours_38 rfl (lv_at hl 1 rfl) ?_
        refine lv_iload_n hx hb dX3_liesBetweenNeighbours_39 rfl (lv_at hl 2 rfl) ?_
        refine lv_iconst (v := 1) hx hb dX3_liesBetweenNeighbours_40 (by decide) ?_
        refine lv_iadd hx hb dX3_liesBetweenNeighbours_41 ?_
        refine my_i (wr := []) [0, 1] [] (va_runV (As := [.int (p0 + 1)]) (rest := [.int p1]) ⟨hx, hb, hml, hown, hts⟩ (c_placeOf l D aI aL aZ _ h0 h1 gap n pf (p0 + 1) hn) (cwV 1 hts (gV w_214 w_215 w_216 w_36 w_217) rfl rfl rfl (by decide +kernel) ⟨Nat.le_of_ble_eq_true rfl, Nat.le_of_ble_eq_true rfl⟩) (prev_of hK hP hD hS hA hE [0, 1] rfl (by decide) (ci := 3) rfl 0 rfl _) rfl rfl hl.1 rfl (lv_room (Nat.le_of_ble_eq_true rfl)) dX3_liesBetweenNeighbours_42 ⟨Nat.le_of_ble_eq_true rfl, Nat.le_of_ble_eq_true rfl⟩) hP hD hS hA rfl rfl (by decide) (by decide) (fun r_33 u_ H locs hw_34 hP hD hS => ?_)
        have hw_34 : F_placeOf n pf (p0 + 1) = r_33 := hw_34
        have hG := hG.trans (cb_e hw_34)
        have hP : va_P D vwCl [(h0, .inr (3, [.ref h1, .int gap])), (h1, .inl (aI, n, .inl pf))] H := hP
        have hD : va_D A [(h0, .inr (3, [.ref h1, .int gap])), (h1, .inl (aI, n, .inl pf))] := hD
        refine lv_icmp_ge (tgt := 52) hx hb dX3_liesBetweenNeighbours_45 (by decide) (fun c_35 => ?_) (fun c_35 => ?_)
        · have hG := hG.trans (if_pos c_35)
          refine lv_iconst (v := 0) hx hb dX3_liesBetweenNeighbours_52 (by decide) ?_
          refine lv_istore (lv' := [(4, .int 0), (3, .int 1), (0, .ref h0), (1, .int p0), (2, .int p1)]) hx hb dX3_liesBetweenNeighbours_53 hl (by decide) rfl (fun ls hl => ?_)
          refine lv_iload_n hx hb dX3_liesBetweenNeighbours_55 rfl (lv_at hl 1 rfl) ?_
          refine lv_if_eq (tgt := 68) hx hb dX3_liesBetweenNeighbours_56 (by decide) (fun c9 => absurd c9 (by decide)) (fun _ => ?_)
          refine lv_iload hx hb dX3_liesBetweenNeighbours_59 (lv_at hl 0 rfl) ?_
          refine lv_if_eq (tgt := 68) hx hb dX3_liesBetweenNeighbours_61 (by decide) (fun _ => ?_) (fun c9 => absurd c9 (by decide))
          refine lv_iconst (v := 0) hx hb dX3_liesBetweenNeighbours_68 (by decide) ?_
          have hP := hP.sub (ws' := [(h0, .inr (3, [.ref h1, .int gap])), (h1, .inl (aI, n, .inl pf))]) [0, 1] rfl
          have hD := hD.sub (ws' := [(h0, .inr (3, [.ref h1, .int gap])), (h1, .inl (aI, n, .inl pf))]) [0, 1] (by decide) rfl
          exact rt_z hQ hx hb hr (nb_n (Or.inl rfl)) () ⟨hG, (Or.inl rfl)⟩ hP hD hS (Nat.le_of_ble_eq_true rfl) (Nat.le_of_ble_eq_true rfl) dX3_liesBetweenNeighbours_69 hlk
        · have hG := hG.trans (if_neg c_35)
          refine lv_iconst (v := 1) hx hb dX3_liesBetweenNeighbours_48 (by decide) ?_
          refine lv_goto (tgt := 53) hx hb dX3_liesBetweenNeighbours_49 (by decide) ?_
          refine lv_istore (lv' := [(4, .int 1), (3, .int 1), (0, .ref h0), (1, .int p0), (2, .int p1)]) hx hb dX3_liesBetweenNeighbours_53 hl (by decide) rfl (fun ls hl => ?_)
          refine lv_iload_n hx hb dX3_liesBetweenNeighbours_55 rfl (lv_at hl 1 rfl) ?_
          refine lv_if_eq (tgt := 68) hx hb dX3_liesBetweenNeighbours_56 (by decide) (fun c9 => absurd c9 (by decide)) (fun _ => ?_)
          refine lv_iload hx hb dX3_liesBetweenNeighbours_59 (lv_at hl 0 rfl) ?_
          refine lv_if_eq (tgt := 68) hx hb dX3_liesBetweenNeighbours_61 (by decide) (fun c9 => absurd c9 (by decide)) (fun _ => ?_)
          refine lv_iconst (v := 1) hx hb dX3_liesBetweenNeighbours_64 (by decide) ?_
          refine lv_goto (tgt := 69) hx hb dX3_liesBetweenNeighbours_65 (by decide) ?_
          have hP := hP.sub (ws' := [(h0, .inr (3, [.ref h1, .int gap])), (h1, .inl (aI, n, .inl pf))]) [0, 1] rfl
          have hD := hD.sub (ws' := [(h0, .inr (3, [.ref h1, .int gap])), (h1, .inl (aI, n, .inl pf))]) [0, 1] (by decide) rfl
          exact rt_z hQ hx hb hr (nb_n (Or.inr rfl)) () ⟨hG, (Or.inr rfl)⟩ hP hD hS (Nat.le_of_ble_eq_true rfl) (Nat.le_of_ble_eq_true rfl) dX3_liesBetweenNeighbours_69 hlk
theorem dX3_floorAt_0 : decode cX3_floorAt 0 = .ok (.iconst 0, 1) := by decide +kernel
theorem dX3_floorAt_1 : decode cX3_floorAt 1 = .ok (.istore_n 2, 1) := by decide +kernel
theorem dX3_floorAt_2 : decode cX3_floorAt 2 = .ok (.iload_n 2, 1) := by decide +kernel
theorem dX3_floorAt_3 : decode cX3_floorAt 3 = .ok (.aload_n 0, 1) := by decide +kernel
theorem dX3_floorAt_4 : decode cX3_floorAt 4 = .ok (.getfield 15, 3) := by decide +kernel
theorem dX3_floorAt_7 : decode cX3_floorAt 7 = .ok (.arraylength, 1) := by decide +kernel
theorem dX3_floorAt_8 : decode cX3_floorAt 8 = .ok (.if_icmp .ge 21, 3) := by decide +kernel
theorem dX3_floorAt_11 : decode cX3_floorAt 11 = .ok (.aload_n 0, 1) := by decide +kernel
theorem dX3_floorAt_12 : decode cX3_floorAt 12 = .ok (.getfield 15, 3) := by decide +kernel
theorem dX3_floorAt_15 : decode cX3_floorAt 15 = .ok (.iload_n 2, 1) := by decide +kernel
theorem dX3_floorAt_16 : decode cX3_floorAt 16 = .ok (.iaload, 1) := by decide +kernel
theorem dX3_floorAt_17 : decode cX3_floorAt 17 = .ok (.iload_n 1, 1) := by decide +kernel
theorem dX3_floorAt_18 : decode cX3_floorAt 18 = .ok (.if_icmp .ne 5, 3) := by decide +kernel
theorem dX3_floorAt_21 : decode cX3_floorAt 21 = .ok (.iload_n 2, 1) := by decide +kernel
theorem dX3_floorAt_22 : decode cX3_floorAt 22 = .ok (.ireturn, 1) := by decide +kernel
theorem dX3_floorAt_23 : decode cX3_floorAt 23 = .ok (.iinc 2 1, 3) := by decide +kernel
theorem dX3_floorAt_26 : decode cX3_floorAt 26 = .ok (.goto (-24), 3) := by decide +kernel
theorem dX3_floorAt_29 : decode cX3_floorAt 29 = .ok (.iconst (-1), 1) := by decide +kernel
theorem dX3_floorAt_30 : decode cX3_floorAt 30 = .ok (.ireturn, 1) := by decide +kernel
def L_floorAt_2 (n : Nat) (pf : Nat → Int32) (p0 : Int32) : Nat → Nat → Int32
  | 0, _ => 0
  | fu + 1, j =>
    if (nI n) ≤ (nI j) then
      (-1)
    else
      if (pf (nI j).toNatClampNeg) = p0 then
        (nI j)
      else
        L_floorAt_2 n pf p0 fu (j + 1)
theorem L_floorAt_2_u (n : Nat) (pf : Nat → Int32) (p0 : Int32) (fu : Nat) (j : Nat) : L_floorAt_2 n pf p0 (fu + 1) j =
    (if (nI n) ≤ (nI j) then
      (-1)
    else
      if (pf (nI j).toNatClampNeg) = p0 then
        (nI j)
      else
        L_floorAt_2 n pf p0 fu (j + 1)) := rfl
def F_floorAt (n : Nat) (pf : Nat → Int32) (p0 : Int32) : Int32 :=
  L_floorAt_2 n pf p0 (n + 1) 0
theorem F_floorAt_u (n : Nat) (pf : Nat → Int32) (p0 : Int32) : F_floorAt n pf p0 =
  (L_floorAt_2 n pf p0 (n + 1) 0) := rfl
set_option maxHeartbeats 4000000 in
set_option maxRecDepth 100000 in
theorem c_floorAt (l : Launch) (D : va_G) (aI aL aZ : ClassId) (sz : Nat) (h0 : Nat) (h1 : Nat) (gap : Int32) (n : Nat) (pf : Nat → Int32) (p0 : Int32) (hn : n < 2 ^ 31) : Met l yX3_floorAt (.code yX3_floorAt cX3_floorAt 3 (some .int) :: Gw) ({ frames := 0, cells := 0, slots := 0, locals := 0 }) (va_Pc [.ref h0, .int p0] (mpre D [(aI, .int), (aL, .long), (aZ, .boolean)] [(h0, .inr (3, [.ref h1, .int gap])), (h1, .inl (aI, n, .inl pf))] sz)) ((fun A : Nat → Prop => va_Qi (fun (r : Int32) (u : Unit) => F_floorAt n pf p0 = r) (mpst D A (fun (u : Unit) => [(h0, .inr (3, [.ref h1, .int gap])), (h1, .inl (aI, n, .inl pf))])) A) (va_A ([(h0, .inr (3, [.ref h1, .int gap])), (h1, .inl (aI, n, .inl pf))]) sz)) 0 0 (va_A ([(h0, .inr (3, [.ref h1, .int gap])), (h1, .inl (aI, n, .inl pf))]) sz) := by
  refine en (cc := cX3_floorAt) (maxL := 3) (ret := (some .int)) (Qc := (fun A : Nat → Prop => va_Qi (fun (r : Int32) (u : Unit) => F_floorAt n pf p0 = r) (mpst D A (fun (u : Unit) => [(h0, .inr (3, [.ref h1, .int gap])), (h1, .inl (aI, n, .inl pf))])) A)) (by decide) rfl (Nat.le_of_ble_eq_true rfl) ?_
  intro p e s m args below meth c A ls Q hQ hx hb hr hts hown hlk hnm hml hA hS hP hK hD hE hl
  have hown : s.vm.findClass RX3 = some m.cls := hown
  have hl : lv_has ls 3 [(0, .ref h0), (1, .int p0)] := hl
  have hG := F_floorAt_u n pf p0
  refine lv_iconst (v := 0) hx hb dX3_floorAt_0 (by decide) ?_
  refine lv_istore_n (lv' := [(2, .int 0), (0, .ref h0), (1, .int p0)]) hx hb dX3_floorAt_1 rfl hl (by decide) rfl (fun ls hl => ?_)
  have loop2 : ∀ (fu : Nat) (j : Nat), j ≤ n → n + 1 ≤ j + fu → F_floorAt n pf p0 = L_floorAt_2 n pf p0 fu j → ∀ (H : Heap) (locs : List Loc), va_P D vwCl [(h0, .inr (3, [.ref h1, .int gap])), (h1, .inl (aI, n, .inl pf))] H → va_D A [(h0, .inr (3, [.ref h1, .int gap])), (h1, .inl (aI, n, .inl pf))] → va_S A s.heap H locs → ∀ (ls : Array Slot), lv_has ls 3 [(2, .int (nI j)), (0, .ref h0), (1, .int p0)] → W p l e ({ frames := 0, cells := 0, slots := 0, locals := 0 }) s m args below meth c H locs 0 0 Q (F0 m 2 ls []) := by
    intro fu
    induction fu with
    | zero => intro j hj hm; exact absurd hm (by omega)
    | succ fu ih =>
      intro j hj hm hG H locs hP hD hS ls hl
      have hG := hG.trans (L_floorAt_2_u n pf p0 fu j)
      refine lv_iload_n hx hb dX3_floorAt_2 rfl (lv_at hl 0 rfl) ?_
      refine lv_aload_n hx hb dX3_floorAt_3 rfl (lv_at hl 1 rfl) ?_
      refine va_get (D := D) (ci := 3) (v := .ref h1) (C := RX3) (T := TX3) (N := 2) hx hb hts inX3 hown hK hP 0 rfl rfl 0 (by decide) (hts _ (mG w_69)) (fun _ h9 => h9) rfl dX3_floorAt_4 ?_
      refine va_alen (v := nI n) hx hb hK hP 1 0 rfl rfl rfl dX3_floorAt_7 ?_
      refine lv_icmp_ge (tgt := 29) hx hb dX3_floorAt_8 (by decide) (fun c_1 => ?_) (fun c_1 => ?_)
      · have hG := hG.trans (if_pos c_1)
        refine lv_iconst (v := (-1)) hx hb dX3_floorAt_29 (by decide) ?_
        have hP := hP.sub (ws' := [(h0, .inr (3, [.ref h1, .int gap])), (h1, .inl (aI, n, .inl pf))]) [0, 1] rfl
        have hD := hD.sub (ws' := [(h0, .inr (3, [.ref h1, .int gap])), (h1, .inl (aI, n, .inl pf))]) [0, 1] (by decide) rfl
        exact rt_i hQ hx hb hr () hG hP hD hS (Nat.le_of_ble_eq_true rfl) (Nat.le_of_ble_eq_true rfl) dX3_floorAt_30 hlk
      · have hG := hG.trans (if_neg c_1)
        refine lv_aload_n hx hb dX3_floorAt_11 rfl (lv_at hl 1 rfl) ?_
        refine va_get (D := D) (ci := 3) (v := .ref h1) (C := RX3) (T := TX3) (N := 2) hx hb hts inX3 hown hK hP 0 rfl rfl 0 (by decide) (hts _ (mG w_69)) (fun _ h9 => h9) rfl dX3_floorAt_12 ?_
        refine lv_iload_n hx hb dX3_floorAt_15 rfl (lv_at hl 0 rfl) ?_
        refine va_iald hx hb hK hP 1 0 rfl rfl (ix_in hn hj c_1) dX3_floorAt_16 ?_
        refine lv_iload_n hx hb dX3_floorAt_17 rfl (lv_at hl 2 rfl) ?_
        refine lv_icmp_ne (tgt := 23) hx hb dX3_floorAt_18 (by decide) (fun c_2 => ?_) (fun c_2 => ?_)
        · have hG := hG.trans (if_neg c_2)
          refine lv_iinc (v := (nI (j + 1))) (lv' := [(2, .int (nI (j + 1))), (0, .ref h0), (1, .int p0)]) hx hb dX3_floorAt_23 hl (k := 0) rfl (nI_1 _) (by decide) rfl (fun ls hl => ?_)
          refine lv_goto (tgt := 2) hx hb dX3_floorAt_26 (by decide) ?_
          exact ih (j + 1) (ix_lt hn hj c_1) (by omega) hG _ _ (hP.sub [0, 1] rfl) (hD.sub [0, 1] (by decide) rfl) hS ls (lv_sub hl [0, 1, 2] rfl)
        · have hG := hG.trans (if_pos c_2)
          refine lv_iload_n hx hb dX3_floorAt_21 rfl (lv_at hl 0 rfl) ?_
          have hP := hP.sub (ws' := [(h0, .inr (3, [.ref h1, .int gap])), (h1, .inl (aI, n, .inl pf))]) [0, 1] rfl
          have hD := hD.sub (ws' := [(h0, .inr (3, [.ref h1, .int gap])), (h1, .inl (aI, n, .inl pf))]) [0, 1] (by decide) rfl
          exact rt_i hQ hx hb hr () hG hP hD hS (Nat.le_of_ble_eq_true rfl) (Nat.le_of_ble_eq_true rfl) dX3_floorAt_22 hlk
  exact loop2 (n + 1) 0 (Nat.zero_le _) (by omega) hG _ _ hP hD hS ls (lv_sub hl [0, 1, 2] rfl)
theorem dX3_nearestPlace_0 : decode cX3_nearestPlace 0 = .ok (.aload_n 0, 1) := by decide +kernel
theorem dX3_nearestPlace_1 : decode cX3_nearestPlace 1 = .ok (.iconst 0, 1) := by decide +kernel
theorem dX3_nearestPlace_2 : decode cX3_nearestPlace 2 = .ok (.invokevirtual 29, 3) := by decide +kernel
theorem dX3_nearestPlace_5 : decode cX3_nearestPlace 5 = .ok (.istore_n 2, 1) := by decide +kernel
theorem dX3_nearestPlace_6 : decode cX3_nearestPlace 6 = .ok (.iconst 1, 1) := by decide +kernel
theorem dX3_nearestPlace_7 : decode cX3_nearestPlace 7 = .ok (.istore_n 3, 1) := by decide +kernel
theorem dX3_nearestPlace_8 : decode cX3_nearestPlace 8 = .ok (.iload_n 3, 1) := by decide +kernel
theorem dX3_nearestPlace_9 : decode cX3_nearestPlace 9 = .ok (.aload_n 0, 1) := by decide +kernel
theorem dX3_nearestPlace_10 : decode cX3_nearestPlace 10 = .ok (.getfield 15, 3) := by decide +kernel
theorem dX3_nearestPlace_13 : decode cX3_nearestPlace 13 = .ok (.arraylength, 1) := by decide +kernel
theorem dX3_nearestPlace_14 : decode cX3_nearestPlace 14 = .ok (.if_icmp .ge 36, 3) := by decide +kernel
theorem dX3_nearestPlace_17 : decode cX3_nearestPlace 17 = .ok (.aload_n 0, 1) := by decide +kernel
theorem dX3_nearestPlace_18 : decode cX3_nearestPlace 18 = .ok (.getfield 15, 3) := by decide +kernel
theorem dX3_nearestPlace_21 : decode cX3_nearestPlace 21 = .ok (.iload_n 3, 1) := by decide +kernel
theorem dX3_nearestPlace_22 : decode cX3_nearestPlace 22 = .ok (.iaload, 1) := by decide +kernel
theorem dX3_nearestPlace_23 : decode cX3_nearestPlace 23 = .ok (.iload_n 1, 1) := by decide +kernel
theorem dX3_nearestPlace_24 : decode cX3_nearestPlace 24 = .ok (.isub, 1) := by decide +kernel
theorem dX3_nearestPlace_25 : decode cX3_nearestPlace 25 = .ok (.invokestatic 33, 3) := by decide +kernel
theorem dX3_nearestPlace_28 : decode cX3_nearestPlace 28 = .ok (.iload_n 2, 1) := by decide +kernel
theorem dX3_nearestPlace_29 : decode cX3_nearestPlace 29 = .ok (.iload_n 1, 1) := by decide +kernel
theorem dX3_nearestPlace_30 : decode cX3_nearestPlace 30 = .ok (.isub, 1) := by decide +kernel
theorem dX3_nearestPlace_31 : decode cX3_nearestPlace 31 = .ok (.invokestatic 33, 3) := by decide +kernel
theorem dX3_nearestPlace_34 : decode cX3_nearestPlace 34 = .ok (.if_icmp .ge 10, 3) := by decide +kernel
theorem dX3_nearestPlace_37 : decode cX3_nearestPlace 37 = .ok (.aload_n 0, 1) := by decide +kernel
theorem dX3_nearestPlace_38 : decode cX3_nearestPlace 38 = .ok (.getfield 15, 3) := by decide +kernel
theorem dX3_nearestPlace_41 : decode cX3_nearestPlace 41 = .ok (.iload_n 3, 1) := by decide +kernel
theorem dX3_nearestPlace_42 : decode cX3_nearestPlace 42 = .ok (.iaload, 1) := by decide +kernel
theorem dX3_nearestPlace_43 : decode cX3_nearestPlace 43 = .ok (.istore_n 2, 1) := by decide +kernel
theorem dX3_nearestPlace_44 : decode cX3_nearestPlace 44 = .ok (.iinc 3 1, 3) := by decide +kernel
theorem dX3_nearestPlace_47 : decode cX3_nearestPlace 47 = .ok (.goto (-39), 3) := by decide +kernel
theorem dX3_nearestPlace_50 : decode cX3_nearestPlace 50 = .ok (.iload_n 2, 1) := by decide +kernel
theorem dX3_nearestPlace_51 : decode cX3_nearestPlace 51 = .ok (.ireturn, 1) := by decide +kernel
def L_nearestPlace_8 (n : Nat) (pf : Nat → Int32) (p0 : Int32) : Nat → Int32 → Nat → Int32
  | 0, _, _ => 0
  | fu + 1, x, j =>
    if (nI n) ≤ (nI j) then
      x
    else
      if (if 0 ≤ (x - p0) then (x - p0) else 0 - (x - p0)) ≤ (if 0 ≤ ((pf (nI j).toNatClampNeg) - p0) then ((pf (nI j).toNatClampNeg) - p0) else 0 - ((pf (nI j).toNatClampNeg) - p0)) then
        L_nearestPlace_8 n pf p0 fu x (j + 1)
      else
        L_nearestPlace_8 n pf p0 fu (pf (nI j).toNatClampNeg) (j + 1)
theorem L_nearestPlace_8_u (n : Nat) (pf : Nat → Int32) (p0 : Int32) (fu : Nat) (x : Int32) (j : Nat) : L_nearestPlace_8 n pf p0 (fu + 1) x j =
    (if (nI n) ≤ (nI j) then
      x
    else
      if (if 0 ≤ (x - p0) then (x - p0) else 0 - (x - p0)) ≤ (if 0 ≤ ((pf (nI j).toNatClampNeg) - p0) then ((pf (nI j).toNatClampNeg) - p0) else 0 - ((pf (nI j).toNatClampNeg) - p0)) then
        L_nearestPlace_8 n pf p0 fu x (j + 1)
      else
        L_nearestPlace_8 n pf p0 fu (pf (nI j).toNatClampNeg) (j + 1)) := rfl
def F_nearestPlace (n : Nat) (pf : Nat → Int32) (p0 : Int32) : Int32 :=
  cb (F_placeOf n pf 0) fun r_1 =>
    L_nearestPlace_8 n pf p0 (n + 1) r_1 1
theorem F_nearestPlace_u (n : Nat) (pf : Nat → Int32) (p0 : Int32) : F_nearestPlace n pf p0 =
  (cb (F_placeOf n pf 0) fun r_1 =>
    L_nearestPlace_8 n pf p0 (n + 1) r_1 1) := rfl
set_option maxHeartbeats 4000000 in
set_option maxRecDepth 100000 in
theorem c_nearestPlace (l : Launch) (D : va_G) (aI aL aZ : ClassId) (sz : Nat) (h0 : Nat) (h1 : Nat) (gap : Int32) (n : Nat) (pf : Nat → Int32) (p0 : Int32) (hn : n < 2 ^ 31) (hn1 : 1 ≤ n) : Met l yX3_nearestPlace (.code yX3_nearestPlace cX3_nearestPlace 4 (some .int) :: Gw) ({ frames := 2, cells := 0, slots := 0, locals := 42 }) (va_Pc [.ref h0, .int p0] (mpre D [(aI, .int), (aL, .long), (aZ, .boolean)] [(h0, .inr (3, [.ref h1, .int gap])), (h1, .inl (aI, n, .inl pf))] sz)) ((fun A : Nat → Prop => va_Qi (fun (r : Int32) (u : Unit) => F_nearestPlace n pf p0 = r) (mpst D A (fun (u : Unit) => [(h0, .inr (3, [.ref h1, .int gap])), (h1, .inl (aI, n, .inl pf))])) A) (va_A ([(h0, .inr (3, [.ref h1, .int gap])), (h1, .inl (aI, n, .inl pf))]) sz)) 0 0 (va_A ([(h0, .inr (3, [.ref h1, .int gap])), (h1, .inl (aI, n, .inl pf))]) sz) := by
  refine en (cc := cX3_nearestPlace) (maxL := 4) (ret := (some .int)) (Qc := (fun A : Nat → Prop => va_Qi (fun (r : Int32) (u : Unit) => F_nearestPlace n pf p0 = r) (mpst D A (fun (u : Unit) => [(h0, .inr (3, [.ref h1, .int gap])), (h1, .inl (aI, n, .inl pf))])) A)) (by decide) rfl (Nat.le_of_ble_eq_true rfl) ?_
  intro p e s m args below meth c A ls Q hQ hx hb hr hts hown hlk hnm hml hA hS hP hK hD hE hl
  have hown : s.vm.findClass RX3 = some m.cls := hown
  have hl : lv_has ls 4 [(0, .ref h0), (1, .int p0)] := hl
  have hG := F_nearestPlace_u n pf p0
  refine lv_aload_n hx hb dX3_nearestPlace_0 rfl (lv_at hl 0 rfl) ?_
  refine lv_iconst (v := 0) hx hb dX3_nearestPlace_1 (by decide) ?_
  refine my_i (wr := []) [0, 1] [] (va_runV (As := [.int 0]) (rest := []) ⟨hx, hb, hml, hown, hts⟩ (c_placeOf l D aI aL aZ _ h0 h1 gap n pf 0 hn) (cwV 1 hts (gV w_214 w_215 w_216 w_36 w_217) rfl rfl rfl (by decide +kernel) ⟨Nat.le_of_ble_eq_true rfl, Nat.le_of_ble_eq_true rfl⟩) (prev_of hK hP hD hS hA hE [0, 1] rfl (by decide) (ci := 3) rfl 0 rfl _) rfl rfl hl.1 rfl (lv_room (Nat.le_of_ble_eq_true rfl)) dX3_nearestPlace_2 ⟨Nat.le_of_ble_eq_true rfl, Nat.le_of_ble_eq_true rfl⟩) hP hD hS hA rfl rfl (by decide) (by decide) (fun r_1 u_ H locs hw_2 hP hD hS => ?_)
  have hw_2 : F_placeOf n pf 0 = r_1 := hw_2
  have hG := hG.trans (cb_e hw_2)
  have hP : va_P D vwCl [(h0, .inr (3, [.ref h1, .int gap])), (h1, .inl (aI, n, .inl pf))] H := hP
  have hD : va_D A [(h0, .inr (3, [.ref h1, .int gap])), (h1, .inl (aI, n, .inl pf))] := hD
  refine lv_istore_n (lv' := [(2, .int r_1), (0, .ref h0), (1, .int p0)]) hx hb dX3_nearestPlace_5 rfl hl (by decide) rfl (fun ls hl => ?_)
  refine lv_iconst (v := 1) hx hb dX3_nearestPlace_6 (by decide) ?_
  refine lv_istore_n (lv' := [(3, .int 1), (2, .int r_1), (0, .ref h0), (1, .int p0)]) hx hb dX3_nearestPlace_7 rfl hl (by decide) rfl (fun ls hl => ?_)
  have loop8 : ∀ (fu : Nat) (x : Int32) (j : Nat), j ≤ n ∨ j = 1 → n + 1 ≤ j + fu → F_nearestPlace n pf p0 = L_nearestPlace_8 n pf p0 fu x j → ∀ (H : Heap) (locs : List Loc), va_P D vwCl [(h0, .inr (3, [.ref h1, .int gap])), (h1, .inl (aI, n, .inl pf))] H → va_D A [(h0, .inr (3, [.ref h1, .int gap])), (h1, .inl (aI, n, .inl pf))] → va_S A s.heap H locs → ∀ (ls : Array Slot), lv_has ls 4 [(3, .int (nI j)), (2, .int x), (0, .ref h0), (1, .int p0)] → W p l e ({ frames := 2, cells := 0, slots := 0, locals := 42 }) s m args below meth c H locs 0 0 Q (F0 m 8 ls []) := by
    intro fu
    induction fu with
    | zero => intro x j hj hm; exact absurd hm (by omega)
    | succ fu ih =>
      intro x j hj hm hG H locs hP hD hS ls hl
      have hG := hG.trans (L_nearestPlace_8_u n pf p0 fu x j)
      refine lv_iload_n hx hb dX3_nearestPlace_8 rfl (lv_at hl 0 rfl) ?_
      refine lv_aload_n hx hb dX3_nearestPlace_9 rfl (lv_at hl 2 rfl) ?_
      refine va_get (D := D) (ci := 3) (v := .ref h1) (C := RX3) (T := TX3) (N := 2) hx hb hts inX3 hown hK hP 0 rfl rfl 0 (by decide) (hts _ (mG w_69)) (fun _ h9 => h9) rfl dX3_nearestPlace_10 ?_
      refine va_alen (v := nI n) hx hb hK hP 1 0 rfl rfl rfl dX3_nearestPlace_13 ?_
      refine lv_icmp_ge (tgt := 50) hx hb dX3_nearestPlace_14 (by decide) (fun c_3 => ?_) (fun c_3 => ?_)
      · have hG := hG.trans (if_pos c_3)
        refine lv_iload_n hx hb dX3_nearestPlace_50 rfl (lv_at hl 1 rfl) ?_
        have hP := hP.sub (ws' := [(h0, .inr (3, [.ref h1, .int gap])), (h1, .inl (aI, n, .inl pf))]) [0, 1] rfl
        have hD := hD.sub (ws' := [(h0, .inr (3, [.ref h1, .int gap])), (h1, .inl (aI, n, .inl pf))]) [0, 1] (by decide) rfl
        exact rt_i hQ hx hb hr () hG hP hD hS (Nat.le_of_ble_eq_true rfl) (Nat.le_of_ble_eq_true rfl) dX3_nearestPlace_51 hlk
      · have hG := hG.trans (if_neg c_3)
        refine lv_aload_n hx hb dX3_nearestPlace_17 rfl (lv_at hl 2 rfl) ?_
        refine va_get (D := D) (ci := 3) (v := .ref h1) (C := RX3) (T := TX3) (N := 2) hx hb hts inX3 hown hK hP 0 rfl rfl 0 (by decide) (hts _ (mG w_69)) (fun _ h9 => h9) rfl dX3_nearestPlace_18 ?_
        refine lv_iload_n hx hb dX3_nearestPlace_21 rfl (lv_at hl 0 rfl) ?_
        refine va_iald hx hb hK hP 1 0 rfl rfl (ix_in1 hn hj c_3) dX3_nearestPlace_22 ?_
        refine lv_iload_n hx hb dX3_nearestPlace_23 rfl (lv_at hl 3 rfl) ?_
        refine lv_isub hx hb dX3_nearestPlace_24 ?_
        refine va_mabs hx hb (by rw [hml]; exact hl.1.symm) hown (hts _ (mG w_524)) (hts _ (mG w_525)) (hts _ (mG w_37)) (hts _ (mG w_526)) (Nat.le_of_ble_eq_true rfl) (Nat.le_of_ble_eq_true rfl) (Nat.le_of_ble_eq_true rfl) (Nat.le_of_ble_eq_true rfl) dX3_nearestPlace_25 ?_
        refine lv_iload_n hx hb dX3_nearestPlace_28 rfl (lv_at hl 1 rfl) ?_
        refine lv_iload_n hx hb dX3_nearestPlace_29 rfl (lv_at hl 3 rfl) ?_
        refine lv_isub hx hb dX3_nearestPlace_30 ?_
        refine va_mabs hx hb (by rw [hml]; exact hl.1.symm) hown (hts _ (mG w_524)) (hts _ (mG w_525)) (hts _ (mG w_37)) (hts _ (mG w_526)) (Nat.le_of_ble_eq_true rfl) (Nat.le_of_ble_eq_true rfl) (Nat.le_of_ble_eq_true rfl) (Nat.le_of_ble_eq_true rfl) dX3_nearestPlace_31 ?_
        refine lv_icmp_ge (tgt := 44) hx hb dX3_nearestPlace_34 (by decide) (fun c_4 => ?_) (fun c_4 => ?_)
        · have hG := hG.trans (if_pos c_4)
          refine lv_iinc (v := (nI (j + 1))) (lv' := [(3, .int (nI (j + 1))), (2, .int x), (0, .ref h0), (1, .int p0)]) hx hb dX3_nearestPlace_44 hl (k := 0) rfl (nI_1 _) (by decide) rfl (fun ls hl => ?_)
          refine lv_goto (tgt := 8) hx hb dX3_nearestPlace_47 (by decide) ?_
          exact ih x (j + 1) (Or.inl (ix_lt1 hn hj c_3)) (by omega) hG _ _ (hP.sub [0, 1] rfl) (hD.sub [0, 1] (by decide) rfl) hS ls (lv_sub hl [0, 1, 2, 3] rfl)
        · have hG := hG.trans (if_neg c_4)
          refine lv_aload_n hx hb dX3_nearestPlace_37 rfl (lv_at hl 2 rfl) ?_
          refine va_get (D := D) (ci := 3) (v := .ref h1) (C := RX3) (T := TX3) (N := 2) hx hb hts inX3 hown hK hP 0 rfl rfl 0 (by decide) (hts _ (mG w_69)) (fun _ h9 => h9) rfl dX3_nearestPlace_38 ?_
          refine lv_iload_n hx hb dX3_nearestPlace_41 rfl (lv_at hl 0 rfl) ?_
          refine va_iald hx hb hK hP 1 0 rfl rfl (ix_in1 hn hj c_3) dX3_nearestPlace_42 ?_
          refine lv_istore_n (lv' := [(2, .int (pf (nI j).toNatClampNeg)), (3, .int (nI j)), (0, .ref h0), (1, .int p0)]) hx hb dX3_nearestPlace_43 rfl hl (by decide) rfl (fun ls hl => ?_)
          refine lv_iinc (v := (nI (j + 1))) (lv' := [(3, .int (nI (j + 1))), (2, .int (pf (nI j).toNatClampNeg)), (0, .ref h0), (1, .int p0)]) hx hb dX3_nearestPlace_44 hl (k := 1) rfl (nI_1 _) (by decide) rfl (fun ls hl => ?_)
          refine lv_goto (tgt := 8) hx hb dX3_nearestPlace_47 (by decide) ?_
          exact ih (pf (nI j).toNatClampNeg) (j + 1) (Or.inl (ix_lt1 hn hj c_3)) (by omega) hG _ _ (hP.sub [0, 1] rfl) (hD.sub [0, 1] (by decide) rfl) hS ls (lv_sub hl [0, 1, 2, 3] rfl)
  exact loop8 (n + 1) r_1 1 (Or.inr rfl) (by omega) hG _ _ hP hD hS ls (lv_sub hl [0, 1, 2, 3] rfl)
