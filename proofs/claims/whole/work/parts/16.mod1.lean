theorem dX5_thrown_0 : decode cX5_thrown 0 = .ok (.aload_n 0, 1) := by decide +kernel
theorem dX5_thrown_1 : decode cX5_thrown 1 = .ok (.getfield 84, 3) := by decide +kernel
theorem dX5_thrown_4 : decode cX5_thrown 4 = .ok (.ireturn, 1) := by decide +kernel
def F_m_thrown (mthrown : Int32) : Int32 :=
  mthrown
theorem F_m_thrown_u (mthrown : Int32) : F_m_thrown mthrown =
  (mthrown) := rfl
set_option maxHeartbeats 4000000 in
set_option maxRecDepth 100000 in
theorem c_m_thrown (l : Launch) (D : va_G) (aI aL aZ : ClassId) (sz : Nat) (m0 : Nat) (ah : Nat) (a_places : Nat) (a_speeds : Nat) (a_most : Nat) (a_gains : Nat) (a_brakes : Nat) (a_slows : Nat) (a_rides : Nat) (a_doors : Nat) (a_doorPlaces : Nat) (a_opened : Nat) (a_wide : Nat) (a_holds : Nat) (a_loads : Nat) (a_mostLoads : Nat) (a_beams : Nat) (a_contacts : Nat) (a_fires : Nat) (a_ways : Nat) (a_calls : Nat) (a_callCounts : Nat) (a_wears : Nat) (mthrown : Int32) (nf : Nat) (mgap : Int32) (mcars : Int32) (mdark : Int32) (msteps : Int32) : Met l yX5_thrown (.code yX5_thrown cX5_thrown 1 (some .int) :: Gw) ({ frames := 0, cells := 0, slots := 0, locals := 0 }) (va_Pc [.ref m0] (mpre D [(aI, .int), (aL, .long), (aZ, .boolean)] [(m0, .inr (5, [.int mthrown, .int (nI nf), .ref ah, .int mgap, .int mcars, .int mdark, .int msteps, .ref a_places, .ref a_speeds, .ref a_most, .ref a_gains, .ref a_brakes, .ref a_slows, .ref a_rides, .ref a_doors, .ref a_doorPlaces, .ref a_opened, .ref a_wide, .ref a_holds, .ref a_loads, .ref a_mostLoads, .ref a_beams, .ref a_contacts, .ref a_fires, .ref a_ways, .ref a_calls, .ref a_callCounts, .ref a_wears]))] sz)) ((fun A : Nat → Prop => va_Qi (fun (r : Int32) (u : Unit) => F_m_thrown mthrown = r) (mpst D A (fun (u : Unit) => [(m0, .inr (5, [.int mthrown, .int (nI nf), .ref ah, .int mgap, .int mcars, .int mdark, .int msteps, .ref a_places, .ref a_speeds, .ref a_most, .ref a_gains, .ref a_brakes, .ref a_slows, .ref a_rides, .ref a_doors, .ref a_doorPlaces, .ref a_opened, .ref a_wide, .ref a_holds, .ref a_loads, .ref a_mostLoads, .ref a_beams, .ref a_contacts, .ref a_fires, .ref a_ways, .ref a_calls, .ref a_callCounts, .ref a_wears]))])) A) (va_A ([(m0, .inr (5, [.int mthrown, .int (nI nf), .ref ah, .int mgap, .int mcars, .int mdark, .int msteps, .ref a_places, .ref a_speeds, .ref a_most, .ref a_gains, .ref a_brakes, .ref a_slows, .ref a_rides, .ref a_doors, .ref a_doorPlaces, .ref a_opened, .ref a_wide, .ref a_holds, .ref a_loads, .ref a_mostLoads, .ref a_beams, .ref a_contacts, .ref a_fires, .ref a_ways, .ref a_calls, .ref a_callCounts, .ref a_wears]))]) sz)) 0 0 (va_A ([(m0, .inr (5, [.int mthrown, .int (nI nf), .ref ah, .int mgap, .int mcars, .int mdark, .int msteps, .ref a_places, .ref a_speeds, .ref a_most, .ref a_gains, .ref a_brakes, .ref a_slows, .ref a_rides, .ref a_doors, .ref a_doorPlaces, .ref a_opened, .ref a_wide, .ref a_holds, .ref a_loads, .ref a_mostLoads, .ref a_beams, .ref a_contacts, .ref a_fires, .ref a_ways, .ref a_calls, .ref a_callCounts, .ref a_wears]))]) sz) := by
  refine en (cc := cX5_thrown) (maxL := 1) (ret := (some .int)) (Qc := (fun A : Nat → Prop => va_Qi (fun (r : Int32) (u : Unit) => F_m_thrown mthrown = r) (mpst D A (fun (u : Unit) => [(m0, .inr (5, [.int mthrown, .int (nI nf), .ref ah, .int mgap, .int mcars, .int mdark, .int msteps, .ref a_places, .ref a_speeds, .ref a_most, .ref a_gains, .ref a_brakes, .ref a_slows, .ref a_rides, .ref a_doors, .ref a_doorPlaces, .ref a_opened, .ref a_wide, .ref a_holds, .ref a_loads, .ref a_mostLoads, .ref a_beams, .ref a_contacts, .ref a_fires, .ref a_ways, .ref a_calls, .ref a_callCounts, .ref a_wears]))])) A)) (by decide) rfl (Nat.le_of_ble_eq_true rfl) ?_
  intro p e s m args below meth c A ls Q hQ hx hb hr hts hown hlk hnm hml hA hS hP hK hD hE hl
  have hown : s.vm.findClass RX5 = some m.cls := hown
  have hl : lv_has ls 1 [(0, .ref m0)] := hl
  have hG := F_m_thrown_u mthrown
  refine lv_aload_n hx hb dX5_thrown_0 rfl (lv_at hl 0 rfl) ?_
  refine va_get (D := D) (ci := 5) (v := .int mthrown) (C := RX5) (T := TX5) (N := 28) hx hb hts inX5 hown hK hP 0 rfl rfl 0 (by decide) (hts _ (mG w_636)) (fun _ h9 => h9) rfl dX5_thrown_1 ?_
  have hP := hP.sub (ws' := [(m0, .inr (5, [.int mthrown, .int (nI nf), .ref ah, .int mgap, .int mcars, .int mdark, .int msteps, .ref a_places, .ref a_speeds, .ref a_most, .ref a_gains, .ref a_brakes, .ref a_slows, .ref a_rides, .ref a_doors, .ref a_doorPlaces, .ref a_opened, .ref a_wide, .ref a_holds, .ref a_loads, .ref a_mostLoads, .ref a_beams, .ref a_contacts, .ref a_fires, .ref a_ways, .ref a_calls, .ref a_callCounts, .ref a_wears]))]) [0] rfl
  have hD := hD.sub (ws' := [(m0, .inr (5, [.int mthrown, .int (nI nf), .ref ah, .int mgap, .int mcars, .int mdark, .int msteps, .ref a_places, .ref a_speeds, .ref a_most, .ref a_gains, .ref a_brakes, .ref a_slows, .ref a_rides, .ref a_doors, .ref a_doorPlaces, .ref a_opened, .ref a_wide, .ref a_holds, .ref a_loads, .ref a_mostLoads, .ref a_beams, .ref a_contacts, .ref a_fires, .ref a_ways, .ref a_calls, .ref a_callCounts, .ref a_wears]))]) [0] (by decide) rfl
  exact rt_i hQ hx hb hr () hG hP hD hS (Nat.le_of_ble_eq_true rfl) (Nat.le_of_ble_eq_true rfl) dX5_thrown_4 hlk
theorem dX5_length_0 : decode cX5_length 0 = .ok (.iload_n 0, 1) := by decide +kernel
theorem dX5_length_1 : decode cX5_length 1 = .ok (.ifCond .le 11, 3) := by decide +kernel
theorem dX5_length_4 : decode cX5_length 4 = .ok (.iload_n 0, 1) := by decide +kernel
theorem dX5_length_5 : decode cX5_length 5 = .ok (.iconst 1, 1) := by decide +kernel
theorem dX5_length_6 : decode cX5_length 6 = .ok (.isub, 1) := by decide +kernel
theorem dX5_length_7 : decode cX5_length 7 = .ok (.iload_n 1, 1) := by decide +kernel
theorem dX5_length_8 : decode cX5_length 8 = .ok (.idiv, 1) := by decide +kernel
theorem dX5_length_9 : decode cX5_length 9 = .ok (.goto 4, 3) := by decide +kernel
theorem dX5_length_12 : decode cX5_length 12 = .ok (.iconst 0, 1) := by decide +kernel
theorem dX5_length_13 : decode cX5_length 13 = .ok (.istore_n 2, 1) := by decide +kernel
theorem dX5_length_14 : decode cX5_length 14 = .ok (.iload_n 2, 1) := by decide +kernel
theorem dX5_length_15 : decode cX5_length 15 = .ok (.iload_n 0, 1) := by decide +kernel
theorem dX5_length_16 : decode cX5_length 16 = .ok (.imul, 1) := by decide +kernel
theorem dX5_length_17 : decode cX5_length 17 = .ok (.iload_n 1, 1) := by decide +kernel
theorem dX5_length_18 : decode cX5_length 18 = .ok (.iload_n 2, 1) := by decide +kernel
theorem dX5_length_19 : decode cX5_length 19 = .ok (.iload_n 2, 1) := by decide +kernel
theorem dX5_length_20 : decode cX5_length 20 = .ok (.iconst 1, 1) := by decide +kernel
theorem dX5_length_21 : decode cX5_length 21 = .ok (.iadd, 1) := by decide +kernel
theorem dX5_length_22 : decode cX5_length 22 = .ok (.imul, 1) := by decide +kernel
theorem dX5_length_23 : decode cX5_length 23 = .ok (.iconst 2, 1) := by decide +kernel
theorem dX5_length_24 : decode cX5_length 24 = .ok (.idiv, 1) := by decide +kernel
theorem dX5_length_25 : decode cX5_length 25 = .ok (.imul, 1) := by decide +kernel
theorem dX5_length_26 : decode cX5_length 26 = .ok (.isub, 1) := by decide +kernel
theorem dX5_length_27 : decode cX5_length 27 = .ok (.ireturn, 1) := by decide +kernel
def F_m_length (p0 : Int32) (p1 : Int32) : Int32 :=
  if p0 ≤ 0 then
    ((0 * p0) - (p1 * (0 / 2)))
  else
    ((((p0 - 1) / p1) * p0) - (p1 * ((((p0 - 1) / p1) * (((p0 - 1) / p1) + 1)) / 2)))
theorem F_m_length_u (p0 : Int32) (p1 : Int32) : F_m_length p0 p1 =
  (if p0 ≤ 0 then
    ((0 * p0) - (p1 * (0 / 2)))
  else
    ((((p0 - 1) / p1) * p0) - (p1 * ((((p0 - 1) / p1) * (((p0 - 1) / p1) + 1)) / 2)))) := rfl
set_option maxHeartbeats 4000000 in
set_option maxRecDepth 100000 in
theorem c_m_length (l : Launch) (D : va_G) (aI aL aZ : ClassId) (sz : Nat) (p0 : Int32) (p1 : Int32) (hg : ¬ p1 = 0) : Met l yX5_length (.code yX5_length cX5_length 3 (some .int) :: Gw) ({ frames := 0, cells := 0, slots := 0, locals := 0 }) (va_Pc [.int p0, .int p1] (mpre D [(aI, .int), (aL, .long), (aZ, .boolean)] [] sz)) ((fun A : Nat → Prop => va_Qi (fun (r : Int32) (u : Unit) => F_m_length p0 p1 = r) (mpst D A (fun (u : Unit) => [])) A) (va_A ([]) sz)) 0 0 (va_A ([]) sz) := by
  refine en (cc := cX5_length) (maxL := 3) (ret := (some .int)) (Qc := (fun A : Nat → Prop => va_Qi (fun (r : Int32) (u : Unit) => F_m_length p0 p1 = r) (mpst D A (fun (u : Unit) => [])) A)) (by decide) rfl (Nat.le_of_ble_eq_true rfl) ?_
  intro p e s m args below meth c A ls Q hQ hx hb hr hts hown hlk hnm hml hA hS hP hK hD hE hl
  have hown : s.vm.findClass RX5 = some m.cls := hown
  have hl : lv_has ls 3 [(0, .int p0), (1, .int p1)] := hl
  have hG := F_m_length_u p0 p1
  refine lv_iload_n hx hb dX5_length_0 rfl (lv_at hl 0 rfl) ?_
  refine lv_if_le (tgt := 12) hx hb dX5_length_1 (by decide) (fun c_1 => ?_) (fun c_1 => ?_)
  · have hG := hG.trans (if_pos c_1)
    refine lv_iconst (v := 0) hx hb dX5_length_12 (by decide) ?_
    refine lv_istore_n (lv' := [(2, .int 0), (0, .int p0), (1, .int p1)]) hx hb dX5_length_13 rfl hl (by decide) rfl (fun ls hl => ?_)
    refine lv_iload_n hx hb dX5_length_14 rfl (lv_at hl 0 rfl) ?_
    refine lv_iload_n hx hb dX5_length_15 rfl (lv_at hl 1 rfl) ?_
    refine lv_imul hx hb dX5_length_16 ?_
    refine lv_iload_n hx hb dX5_length_17 rfl (lv_at hl 2 rfl) ?_
    refine lv_iload_n hx hb dX5_length_18 rfl (lv_at hl 0 rfl) ?_
    refine lv_iload_n hx hb dX5_length_19 rfl (lv_at hl 0 rfl) ?_
    refine lv_iconst (v := 1) hx hb dX5_length_20 (by decide) ?_
    refine lv_iadd hx hb dX5_length_21 ?_
    refine lv_topi (fun y_2 hy_2 => ?_)
    obtain rfl : y_2 = 1 := hy_2.trans (by decide)
    refine lv_imul hx hb dX5_length_22 ?_
    refine lv_topi (fun y_3 hy_3 => ?_)
    obtain rfl : y_3 = 0 := hy_3.trans (by decide)
    refine lv_iconst (v := 2) hx hb dX5_length_23 (by decide) ?_
    refine lv_idiv hx hb dX5_length_24 (by decide) ?_
    refine lv_imul hx hb dX5_length_25 ?_
    refine lv_isub hx hb dX5_length_26 ?_
    have hP := hP.sub (ws' := []) [] rfl
    have hD := hD.sub (ws' := []) [] (by decide) rfl
    exact rt_i hQ hx hb hr () hG hP hD hS (Nat.le_of_ble_eq_true rfl) (Nat.le_of_ble_eq_true rfl) dX5_length_27 hlk
  · have hG := hG.trans (if_neg c_1)
    refine lv_iload_n hx hb dX5_length_4 rfl (lv_at hl 0 rfl) ?_
    refine lv_iconst (v := 1) hx hb dX5_length_5 (by decide) ?_
    refine lv_isub hx hb dX5_length_6 ?_
    refine lv_iload_n hx hb dX5_length_7 rfl (lv_at hl 1 rfl) ?_
    refine lv_idiv hx hb dX5_length_8 hg ?_
    refine lv_goto (tgt := 13) hx hb dX5_length_9 (by decide) ?_
    refine lv_istore_n (lv' := [(2, .int ((p0 - 1) / p1)), (0, .int p0), (1, .int p1)]) hx hb dX5_length_13 rfl hl (by decide) rfl (fun ls hl => ?_)
    refine lv_iload_n hx hb dX5_length_14 rfl (lv_at hl 0 rfl) ?_
    refine lv_iload_n hx hb dX5_length_15 rfl (lv_at hl 1 rfl) ?_
    refine lv_imul hx hb dX5_length_16 ?_
    refine lv_iload_n hx hb dX5_length_17 rfl (lv_at hl 2 rfl) ?_
    refine lv_iload_n hx hb dX5_length_18 rfl (lv_at hl 0 rfl) ?_
    refine lv_iload_n hx hb dX5_length_19 rfl (lv_at hl 0 rfl) ?_
    refine lv_iconst (v := 1) hx hb dX5_length_20 (by decide) ?_
    refine lv_iadd hx hb dX5_length_21 ?_
    refine lv_imul hx hb dX5_length_22 ?_
    refine lv_iconst (v := 2) hx hb dX5_length_23 (by decide) ?_
    refine lv_idiv hx hb dX5_length_24 (by decide) ?_
    refine lv_imul hx hb dX5_length_25 ?_
    refine lv_isub hx hb dX5_length_26 ?_
    have hP := hP.sub (ws' := []) [] rfl
    have hD := hD.sub (ws' := []) [] (by decide) rfl
    exact rt_i hQ hx hb hr () hG hP hD hS (Nat.le_of_ble_eq_true rfl) (Nat.le_of_ble_eq_true rfl) dX5_length_27 hlk
theorem dX5_size_0 : decode cX5_size 0 = .ok (.iload_n 0, 1) := by decide +kernel
theorem dX5_size_1 : decode cX5_size 1 = .ok (.ifCond .ge 8, 3) := by decide +kernel
theorem dX5_size_4 : decode cX5_size 4 = .ok (.iload_n 0, 1) := by decide +kernel
theorem dX5_size_5 : decode cX5_size 5 = .ok (.ineg, 1) := by decide +kernel
theorem dX5_size_6 : decode cX5_size 6 = .ok (.goto 4, 3) := by decide +kernel
theorem dX5_size_9 : decode cX5_size 9 = .ok (.iload_n 0, 1) := by decide +kernel
theorem dX5_size_10 : decode cX5_size 10 = .ok (.ireturn, 1) := by decide +kernel
def F_m_size (p0 : Int32) : Int32 :=
  if 0 ≤ p0 then
    p0
  else
    (-p0)
theorem F_m_size_u (p0 : Int32) : F_m_size p0 =
  (if 0 ≤ p0 then
    p0
  else
    (-p0)) := rfl
set_option maxHeartbeats 4000000 in
set_option maxRecDepth 100000 in
theorem c_m_size (l : Launch) (D : va_G) (aI aL aZ : ClassId) (sz : Nat) (p0 : Int32) : Met l yX5_size (.code yX5_size cX5_size 1 (some .int) :: Gw) ({ frames := 0, cells := 0, slots := 0, locals := 0 }) (va_Pc [.int p0] (mpre D [(aI, .int), (aL, .long), (aZ, .boolean)] [] sz)) ((fun A : Nat → Prop => va_Qi (fun (r : Int32) (u : Unit) => F_m_size p0 = r) (mpst D A (fun (u : Unit) => [])) A) (va_A ([]) sz)) 0 0 (va_A ([]) sz) := by
  refine en (cc := cX5_size) (maxL := 1) (ret := (some .int)) (Qc := (fun A : Nat → Prop => va_Qi (fun (r : Int32) (u : Unit) => F_m_size p0 = r) (mpst D A (fun (u : Unit) => [])) A)) (by decide) rfl (Nat.le_of_ble_eq_true rfl) ?_
  intro p e s m args below meth c A ls Q hQ hx hb hr hts hown hlk hnm hml hA hS hP hK hD hE hl
  have hown : s.vm.findClass RX5 = some m.cls := hown
  have hl : lv_has ls 1 [(0, .int p0)] := hl
  have hG := F_m_size_u p0
  refine lv_iload_n hx hb dX5_size_0 rfl (lv_at hl 0 rfl) ?_
  refine lv_if_ge (tgt := 9) hx hb dX5_size_1 (by decide) (fun c_1 => ?_) (fun c_1 => ?_)
  · have hG := hG.trans (if_pos c_1)
    refine lv_iload_n hx hb dX5_size_9 rfl (lv_at hl 0 rfl) ?_
    have hP := hP.sub (ws' := []) [] rfl
    have hD := hD.sub (ws' := []) [] (by decide) rfl
    exact rt_i hQ hx hb hr () hG hP hD hS (Nat.le_of_ble_eq_true rfl) (Nat.le_of_ble_eq_true rfl) dX5_size_10 hlk
  · have hG := hG.trans (if_neg c_1)
    refine lv_iload_n hx hb dX5_size_4 rfl (lv_at hl 0 rfl) ?_
    refine lv_ineg hx hb dX5_size_5 ?_
    refine lv_goto (tgt := 10) hx hb dX5_size_6 (by decide) ?_
    have hP := hP.sub (ws' := []) [] rfl
    have hD := hD.sub (ws' := []) [] (by decide) rfl
    exact rt_i hQ hx hb hr () hG hP hD hS (Nat.le_of_ble_eq_true rfl) (Nat.le_of_ble_eq_true rfl) dX5_size_10 hlk
theorem dX5_sign_0 : decode cX5_sign 0 = .ok (.iload_n 0, 1) := by decide +kernel
theorem dX5_sign_1 : decode cX5_sign 1 = .ok (.ifCond .le 7, 3) := by decide +kernel
theorem dX5_sign_4 : decode cX5_sign 4 = .ok (.iconst 1, 1) := by decide +kernel
theorem dX5_sign_5 : decode cX5_sign 5 = .ok (.goto 12, 3) := by decide +kernel
theorem dX5_sign_8 : decode cX5_sign 8 = .ok (.iload_n 0, 1) := by decide +kernel
theorem dX5_sign_9 : decode cX5_sign 9 = .ok (.ifCond .ge 7, 3) := by decide +kernel
theorem dX5_sign_12 : decode cX5_sign 12 = .ok (.iconst (-1), 1) := by decide +kernel
theorem dX5_sign_13 : decode cX5_sign 13 = .ok (.goto 4, 3) := by decide +kernel
theorem dX5_sign_16 : decode cX5_sign 16 = .ok (.iconst 0, 1) := by decide +kernel
theorem dX5_sign_17 : decode cX5_sign 17 = .ok (.ireturn, 1) := by decide +kernel
def F_m_sign (p0 : Int32) : Int32 :=
  if p0 ≤ 0 then
    if 0 ≤ p0 then
      0
    else
      (-1)
  else
    1
theorem F_m_sign_u (p0 : Int32) : F_m_sign p0 =
  (if p0 ≤ 0 then
    if 0 ≤ p0 then
      0
    else
      (-1)
  else
    1) := rfl
set_option maxHeartbeats 4000000 in
set_option maxRecDepth 100000 in
theorem c_m_sign (l : Launch) (D : va_G) (aI aL aZ : ClassId) (sz : Nat) (p0 : Int32) : Met l yX5_sign (.code yX5_sign cX5_sign 1 (some .int) :: Gw) ({ frames := 0, cells := 0, slots := 0, locals := 0 }) (va_Pc [.int p0] (mpre D [(aI, .int), (aL, .long), (aZ, .boolean)] [] sz)) ((fun A : Nat → Prop => va_Qi (fun (r : Int32) (u : Unit) => F_m_sign p0 = r) (mpst D A (fun (u : Unit) => [])) A) (va_A ([]) sz)) 0 0 (va_A ([]) sz) := by
  refine en (cc := cX5_sign) (maxL := 1) (ret := (some .int)) (Qc := (fun A : Nat → Prop => va_Qi (fun (r : Int32) (u : Unit) => F_m_sign p0 = r) (mpst D A (fun (u : Unit) => [])) A)) (by decide) rfl (Nat.le_of_ble_eq_true rfl) ?_
  intro p e s m args below meth c A ls Q hQ hx hb hr hts hown hlk hnm hml hA hS hP hK hD hE hl
  have hown : s.vm.findClass RX5 = some m.cls := hown
  have hl : lv_has ls 1 [(0, .int p0)] := hl
  have hG := F_m_sign_u p0
  refine lv_iload_n hx hb dX5_sign_0 rfl (lv_at hl 0 rfl) ?_
  refine lv_if_le (tgt := 8) hx hb dX5_sign_1 (by decide) (fun c_1 => ?_) (fun c_1 => ?_)
  · have hG := hG.trans (if_pos c_1)
    refine lv_iload_n hx hb dX5_sign_8 rfl (lv_at hl 0 rfl) ?_
    refine lv_if_ge (tgt := 16) hx hb dX5_sign_9 (by decide) (fun c_2 => ?_) (fun c_2 => ?_)
    · have hG := hG.trans (if_pos c_2)
      refine lv_iconst (v := 0) hx hb dX5_sign_16 (by decide) ?_
      have hP := hP.sub (ws' := []) [] rfl
      have hD := hD.sub (ws' := []) [] (by decide) rfl
      exact rt_i hQ hx hb hr () hG hP hD hS (Nat.le_of_ble_eq_true rfl) (Nat.le_of_ble_eq_true rfl) dX5_sign_17 hlk
    · have hG := hG.trans (if_neg c_2)
      refine lv_iconst (v := (-1)) hx hb dX5_sign_12 (by decide) ?_
      refine lv_goto (tgt := 17) hx hb dX5_sign_13 (by decide) ?_
      have hP := hP.sub (ws' := []) [] rfl
      have hD := hD.sub (ws' := []) [] (by decide) rfl
      exact rt_i hQ hx hb hr () hG hP hD hS (Nat.le_of_ble_eq_true rfl) (Nat.le_of_ble_eq_true rfl) dX5_sign_17 hlk
  · have hG := hG.trans (if_neg c_1)
    refine lv_iconst (v := 1) hx hb dX5_sign_4 (by decide) ?_
    refine lv_goto (tgt := 17) hx hb dX5_sign_5 (by decide) ?_
    have hP := hP.sub (ws' := []) [] rfl
    have hD := hD.sub (ws' := []) [] (by decide) rfl
    exact rt_i hQ hx hb hr () hG hP hD hS (Nat.le_of_ble_eq_true rfl) (Nat.le_of_ble_eq_true rfl) dX5_sign_17 hlk
theorem dX5_stands_0 : decode cX5_stands 0 = .ok (.aload_n 0, 1) := by decide +kernel
theorem dX5_stands_1 : decode cX5_stands 1 = .ok (.getfield 20, 3) := by decide +kernel
theorem dX5_stands_4 : decode cX5_stands 4 = .ok (.iload_n 1, 1) := by decide +kernel
theorem dX5_stands_5 : decode cX5_stands 5 = .ok (.iaload, 1) := by decide +kernel
theorem dX5_stands_6 : decode cX5_stands 6 = .ok (.invokestatic 87, 3) := by decide +kernel
theorem dX5_stands_9 : decode cX5_stands 9 = .ok (.iload_n 2, 1) := by decide +kernel
theorem dX5_stands_10 : decode cX5_stands 10 = .ok (.if_icmp .ne 33, 3) := by decide +kernel
theorem dX5_stands_13 : decode cX5_stands 13 = .ok (.aload_n 0, 1) := by decide +kernel
theorem dX5_stands_14 : decode cX5_stands 14 = .ok (.getfield 17, 3) := by decide +kernel
theorem dX5_stands_17 : decode cX5_stands 17 = .ok (.iload_n 1, 1) := by decide +kernel
theorem dX5_stands_18 : decode cX5_stands 18 = .ok (.iaload, 1) := by decide +kernel
theorem dX5_stands_19 : decode cX5_stands 19 = .ok (.iload_n 2, 1) := by decide +kernel
theorem dX5_stands_20 : decode cX5_stands 20 = .ok (.aload_n 0, 1) := by decide +kernel
theorem dX5_stands_21 : decode cX5_stands 21 = .ok (.getfield 20, 3) := by decide +kernel
theorem dX5_stands_24 : decode cX5_stands 24 = .ok (.iload_n 1, 1) := by decide +kernel
theorem dX5_stands_25 : decode cX5_stands 25 = .ok (.iaload, 1) := by decide +kernel
theorem dX5_stands_26 : decode cX5_stands 26 = .ok (.invokestatic 91, 3) := by decide +kernel
theorem dX5_stands_29 : decode cX5_stands 29 = .ok (.aload_n 0, 1) := by decide +kernel
theorem dX5_stands_30 : decode cX5_stands 30 = .ok (.getfield 29, 3) := by decide +kernel
theorem dX5_stands_33 : decode cX5_stands 33 = .ok (.iload_n 1, 1) := by decide +kernel
theorem dX5_stands_34 : decode cX5_stands 34 = .ok (.iaload, 1) := by decide +kernel
theorem dX5_stands_35 : decode cX5_stands 35 = .ok (.invokestatic 94, 3) := by decide +kernel
theorem dX5_stands_38 : decode cX5_stands 38 = .ok (.imul, 1) := by decide +kernel
theorem dX5_stands_39 : decode cX5_stands 39 = .ok (.iadd, 1) := by decide +kernel
theorem dX5_stands_40 : decode cX5_stands 40 = .ok (.goto 9, 3) := by decide +kernel
theorem dX5_stands_43 : decode cX5_stands 43 = .ok (.aload_n 0, 1) := by decide +kernel
theorem dX5_stands_44 : decode cX5_stands 44 = .ok (.getfield 17, 3) := by decide +kernel
theorem dX5_stands_47 : decode cX5_stands 47 = .ok (.iload_n 1, 1) := by decide +kernel
theorem dX5_stands_48 : decode cX5_stands 48 = .ok (.iaload, 1) := by decide +kernel
theorem dX5_stands_49 : decode cX5_stands 49 = .ok (.ireturn, 1) := by decide +kernel
def F_m_stands_0 (mplaces0 : Int32) (mspeeds0 : Int32) (mbrakes0 : Int32) (p1 : Int32) : Int32 :=
  cb (F_m_sign mspeeds0) fun r_1 =>
    if r_1 = p1 then
      cb (F_m_size mspeeds0) fun r_4 =>
        cb (F_m_length r_4 mbrakes0) fun r_6 =>
          (mplaces0 + (p1 * r_6))
    else
      mplaces0
theorem F_m_stands_0_u (mplaces0 : Int32) (mspeeds0 : Int32) (mbrakes0 : Int32) (p1 : Int32) : F_m_stands_0 mplaces0 mspeeds0 mbrakes0 p1 =
  (cb (F_m_sign mspeeds0) fun r_1 =>
    if r_1 = p1 then
      cb (F_m_size mspeeds0) fun r_4 =>
        cb (F_m_length r_4 mbrakes0) fun r_6 =>
          (mplaces0 + (p1 * r_6))
    else
      mplaces0) := rfl
set_option maxHeartbeats 4000000 in
set_option maxRecDepth 100000 in
theorem c_m_stands_0 (l : Launch) (D : va_G) (aI aL aZ : ClassId) (sz : Nat) (m0 : Nat) (ah : Nat) (a_places : Nat) (a_speeds : Nat) (a_most : Nat) (a_gains : Nat) (a_brakes : Nat) (a_slows : Nat) (a_rides : Nat) (a_doors : Nat) (a_doorPlaces : Nat) (a_opened : Nat) (a_wide : Nat) (a_holds : Nat) (a_loads : Nat) (a_mostLoads : Nat) (a_beams : Nat) (a_contacts : Nat) (a_fires : Nat) (a_ways : Nat) (a_calls : Nat) (a_callCounts : Nat) (a_wears : Nat) (mthrown : Int32) (nf : Nat) (mgap : Int32) (mcars : Int32) (mdark : Int32) (msteps : Int32) (mplaces0 : Int32) (mplaces1 : Int32) (mspeeds0 : Int32) (mspeeds1 : Int32) (mbrakes0 : Int32) (mbrakes1 : Int32) (p1 : Int32) (hbk : ¬ mbrakes0 = 0) : Met l yX5_stands (.code yX5_stands cX5_stands 3 (some .int) :: Gw) ({ frames := 1, cells := 0, slots := 0, locals := 22 }) (va_Pc [.ref m0, .int 0, .int p1] (mpre D [(aI, .int), (aL, .long), (aZ, .boolean)] [(m0, .inr (5, [.int mthrown, .int (nI nf), .ref ah, .int mgap, .int mcars, .int mdark, .int msteps, .ref a_places, .ref a_speeds, .ref a_most, .ref a_gains, .ref a_brakes, .ref a_slows, .ref a_rides, .ref a_doors, .ref a_doorPlaces, .ref a_opened, .ref a_wide, .ref a_holds, .ref a_loads, .ref a_mostLoads, .ref a_beams, .ref a_contacts, .ref a_fires, .ref a_ways, .ref a_calls, .ref a_callCounts, .ref a_wears])), (a_places, .inl (aI, 2, .inl (arL [mplaces0, mplaces1]))), (a_speeds, .inl (aI, 2, .inl (arL [mspeeds0, mspeeds1]))), (a_brakes, .inl (aI, 2, .inl (arL [mbrakes0, mbrakes1])))] sz)) ((fun A : Nat → Prop => va_Qi (fun (r : Int32) (u : Unit) => F_m_stands_0 mplaces0 mspeeds0 mbrakes0 p1 = r) (mpst D A (fun (u : Unit) => [(m0, .inr (5, [.int mthrown, .int (nI nf), .ref ah, .int mgap, .int mcars, .int mdark, .int msteps, .ref a_places, .ref a_speeds, .ref a_most, .ref a_gains, .ref a_brakes, .ref a_slows, .ref a_rides, .ref a_doors, .ref a_doorPlaces, .ref a_opened, .ref a_wide, .ref a_holds, .ref a_loads, .ref a_mostLoads, .ref a_beams, .ref a_contacts, .ref a_fires, .ref a_ways, .ref a_calls, .ref a_callCounts, .ref a_wears])), (a_places, .inl (aI, 2, .inl (arL [mplaces0, mplaces1]))), (a_speeds, .inl (aI, 2, .inl (arL [mspeeds0, mspeeds1]))), (a_brakes, .inl (aI, 2, .inl (arL [mbrakes0, mbrakes1])))])) A) (va_A ([(m0, .inr (5, [.int mthrown, .int (nI nf), .ref ah, .int mgap, .int mcars, .int mdark, .int msteps, .ref a_places, .ref a_speeds, .ref a_most, .ref a_gains, .ref a_brakes, .ref a_slows, .ref a_rides, .ref a_doors, .ref a_doorPlaces, .ref a_opened, .ref a_wide, .ref a_holds, .ref a_loads, .ref a_mostLoads, .ref a_beams, .ref a_contacts, .ref a_fires, .ref a_ways, .ref a_calls, .ref a_callCounts, .ref a_wears])), (a_places, .inl (aI, 2, .inl (arL [mplaces0, mplaces1]))), (a_speeds, .inl (aI, 2, .inl (arL [mspeeds0, mspeeds1]))), (a_brakes, .inl (aI, 2, .inl (arL [mbrakes0, mbrakes1])))]) sz)) 0 0 (va_A ([(m0, .inr (5, [.int mthrown, .int (nI nf), .ref ah, .int mgap, .int mcars, .int mdark, .int msteps, .ref a_places, .ref a_speeds, .ref a_most, .ref a_gains, .ref a_brakes, .ref a_slows, .ref a_rides, .ref a_doors, .ref a_doorPlaces, .ref a_opened, .ref a_wide, .ref a_holds, .ref a_loads, .ref a_mostLoads, .ref a_beams, .ref a_contacts, .ref a_fires, .ref a_ways, .ref a_calls, .ref a_callCounts, .ref a_wears])), (a_places, .inl (aI, 2, .inl (arL [mplaces0, mplaces1]))), (a_speeds, .inl (aI, 2, .inl (arL [mspeeds0, mspeeds1]))), (a_brakes, .inl (aI, 2, .inl (arL [mbrakes0, mbrakes1])))]) sz) := by
  refine en (cc := cX5_stands) (maxL := 3) (ret := (some .int)) (Qc := (fun A : Nat → Prop => va_Qi (fun (r : Int32) (u : Unit) => F_m_stands_0 mplaces0 mspeeds0 mbrakes0 p1 = r) (mpst D A (fun (u : Unit) => [(m0, .inr (5, [.int mthrown, .int (nI nf), .ref ah, .int mgap, .int mcars, .int mdark, .int msteps, .ref a_places, .ref a_speeds, .ref a_most, .ref a_gains, .ref a_brakes, .ref a_slows, .ref a_rides, .ref a_doors, .ref a_doorPlaces, .ref a_opened, .ref a_wide, .ref a_holds, .ref a_loads, .ref a_mostLoads, .ref a_beams, .ref a_contacts, .ref a_fires, .ref a_ways, .ref a_calls, .ref a_callCounts, .ref a_wears])), (a_places, .inl (aI, 2, .inl (arL [mplaces0, mplaces1]))), (a_speeds, .inl (aI, 2, .inl (arL [mspeeds0, mspeeds1]))), (a_brakes, .inl (aI, 2, .inl (arL [mbrakes0, mbrakes1])))])) A)) (by decide) rfl (Nat.le_of_ble_eq_true rfl) ?_
  intro p e s m args below meth c A ls Q hQ hx hb hr hts hown hlk hnm hml hA hS hP hK hD hE hl
  have hown : s.vm.findClass RX5 = some m.cls := hown
  have hl : lv_has ls 3 [(0, .ref m0), (1, .int 0), (2, .int p1)] := hl
  have hG := F_m_stands_0_u mplaces0 mspeeds0 mbrakes0 p1
  refine lv_aload_n hx hb dX5_stands_0 rfl (lv_at hl 0 rfl) ?_
  refine va_get (D := D) (ci := 5) (v := .ref a_speeds) (C := RX5) (T := TX5) (N := 28) hx hb hts inX5 hown hK hP 0 rfl rfl 8 (by decide) (hts _ (mG w_644)) (fun _ h9 => h9) rfl dX5_stands_1 ?_
  refine lv_iload_n hx hb dX5_stands_4 rfl (lv_at hl 1 rfl) ?_
  refine my_iald (v := mspeeds0) (k := 0) hx hb hK hP 2 0 rfl rfl (by decide) (by decide) rfl dX5_stands_5 ?_
  refine my_i (wr := [(m0, .inr (5, [.int mthrown, .int (nI nf), .ref ah, .int mgap, .int mcars, .int mdark, .int msteps, .ref a_places, .ref a_speeds, .ref a_most, .ref a_gains, .ref a_brakes, .ref a_slows, .ref a_rides, .ref a_doors, .ref a_doorPlaces, .ref a_opened, .ref a_wide, .ref a_holds, .ref a_loads, .ref a_mostLoads, .ref a_beams, .ref a_contacts, .ref a_fires, .ref a_ways, .ref a_calls, .ref a_callCounts, .ref a_wears])), (a_places, .inl (aI, 2, .inl (arL [mplaces0, mplaces1]))), (a_speeds, .inl (aI, 2, .inl (arL [mspeeds0, mspeeds1]))), (a_brakes, .inl (aI, 2, .inl (arL [mbrakes0, mbrakes1])))]) [] [0, 1, 2, 3] (va_runS (As := [.int mspeeds0]) (rest := []) ⟨hx, hb, hml, hown, hts⟩ (c_m_sign l D aI aL aZ _ mspeeds0) (va_cwS 1 hts (gS w_754 w_755 w_38 w_756) rfl rfl rfl (by decide +kernel) ⟨Nat.le_of_ble_eq_true rfl, Nat.le_of_ble_eq_true rfl⟩) (pre_of hK hP hD hS hA hE [] rfl (by decide) _) rfl rfl hl.1 rfl (lv_room (Nat.le_of_ble_eq_true rfl)) dX5_stands_6 ⟨Nat.le_of_ble_eq_true rfl, Nat.le_of_ble_eq_true rfl⟩) hP hD hS hA rfl rfl (by decide) (by decide) (fun r_1 u_ H locs hw_2 hP hD hS => ?_)
  have hw_2 : F_m_sign mspeeds0 = r_1 := hw_2
  have hG := hG.trans (cb_e hw_2)
  have hP : va_P D vwCl [(m0, .inr (5, [.int mthrown, .int (nI nf), .ref ah, .int mgap, .int mcars, .int mdark, .int msteps, .ref a_places, .ref a_speeds, .ref a_most, .ref a_gains, .ref a_brakes, .ref a_slows, .ref a_rides, .ref a_doors, .ref a_doorPlaces, .ref a_opened, .ref a_wide, .ref a_holds, .ref a_loads, .ref a_mostLoads, .ref a_beams, .ref a_contacts, .ref a_fires, .ref a_ways, .ref a_calls, .ref a_callCounts, .ref a_wears])), (a_places, .inl (aI, 2, .inl (arL [mplaces0, mplaces1]))), (a_speeds, .inl (aI, 2, .inl (arL [mspeeds0, mspeeds1]))), (a_brakes, .inl (aI, 2, .inl (arL [mbrakes0, mbrakes1])))] H := hP
  have hD : va_D A [(m0, .inr (5, [.int mthrown, .int (nI nf), .ref ah, .int mgap, .int mcars, .int mdark, .int msteps, .ref a_places, .ref a_speeds, .ref a_most, .ref a_gains, .ref a_brakes, .ref a_slows, .ref a_rides, .ref a_doors, .ref a_doorPlaces, .ref a_opened, .ref a_wide, .ref a_holds, .ref a_loads, .ref a_mostLoads, .ref a_beams, .ref a_contacts, .ref a_fires, .ref a_ways, .ref a_calls, .ref a_callCounts, .ref a_wears])), (a_places, .inl (aI, 2, .inl (arL [mplaces0, mplaces1]))), (a_speeds, .inl (aI, 2, .inl (arL [mspeeds0, mspeeds1]))), (a_brakes, .inl (aI, 2, .inl (arL [mbrakes0, mbrakes1])))] := hD
  refine lv_iload_n hx hb dX5_stands_9 rfl (lv_at hl 2 rfl) ?_
  refine lv_icmp_ne (tgt := 43) hx hb dX5_stands_10 (by decide) (fun c_3 => ?_) (fun c_3 => ?_)
  · have hG := hG.trans (if_neg c_3)
    refine lv_aload_n hx hb dX5_stands_43 rfl (lv_at hl 0 rfl) ?_
    refine va_get (D := D) (ci := 5) (v := .ref a_places) (C := RX5) (T := TX5) (N := 28) hx hb hts inX5 hown hK hP 0 rfl rfl 7 (by decide) (hts _ (mG w_643)) (fun _ h9 => h9) rfl dX5_stands_44 ?_
    refine lv_iload_n hx hb dX5_stands_47 rfl (lv_at hl 1 rfl) ?_
    refine my_iald (v := mplaces0) (k := 0) hx hb hK hP 1 0 rfl rfl (by decide) (by decide) rfl dX5_stands_48 ?_
    have hP := hP.sub (ws' := [(m0, .inr (5, [.int mthrown, .int (nI nf), .ref ah, .int mgap, .int mcars, .int mdark, .int msteps, .ref a_places, .ref a_speeds, .ref a_most, .ref a_gains, .ref a_brakes, .ref a_slows, .ref a_rides, .ref a_doors, .ref a_doorPlaces, .ref a_opened, .ref a_wide, .ref a_holds, .ref a_loads, .ref a_mostLoads, .ref a_beams, .ref a_contacts, .ref a_fires, .ref a_ways, .ref a_calls, .ref a_callCounts, .ref a_wears])), (a_places, .inl (aI, 2, .inl (arL [mplaces0, mplaces1]))), (a_speeds, .inl (aI, 2, .inl (arL [mspeeds0, mspeeds1]))), (a_brakes, .inl (aI, 2, .inl (arL [mbrakes0, mbrakes1])))]) [0, 1, 2, 3] rfl
    have hD := hD.sub (ws' := [(m0, .inr (5, [.int mthrown, .int (nI nf), .ref ah, .int mgap, .int mcars, .int mdark, .int msteps, .ref a_places, .ref a_speeds, .ref a_most, .ref a_gains, .ref a_brakes, .ref a_slows, .ref a_rides, .ref a_doors, .ref a_doorPlaces, .ref a_opened, .ref a_wide, .ref a_holds, .ref a_loads, .ref a_mostLoads, .ref a_beams, .ref a_contacts, .ref a_fires, .ref a_ways, .ref a_calls, .ref a_callCounts, .ref a_wears])), (a_places, .inl (aI, 2, .inl (arL [mplaces0, mplaces1]))), (a_speeds, .inl (aI, 2, .inl (arL [mspeeds0, mspeeds1]))), (a_brakes, .inl (aI, 2, .inl (arL [mbrakes0, mbrakes1])))]) [0, 1, 2, 3] (by decide) rfl
    exact rt_i hQ hx hb hr () hG hP hD hS (Nat.le_of_ble_eq_true rfl) (Nat.le_of_ble_eq_true rfl) dX5_stands_49 hlk
  · have hG := hG.trans (if_pos c_3)
    refine lv_aload_n hx hb dX5_stands_13 rfl (lv_at hl 0 rfl) ?_
    refine va_get (D := D) (ci := 5) (v := .ref a_places) (C := RX5) (T := TX5) (N := 28) hx hb hts inX5 hown hK hP 0 rfl rfl 7 (by decide) (hts _ (mG w_643)) (fun _ h9 => h9) rfl dX5_stands_14 ?_
    refine lv_iload_n hx hb dX5_stands_17 rfl (lv_at hl 1 rfl) ?_
    refine my_iald (v := mplaces0) (k := 0) hx hb hK hP 1 0 rfl rfl (by decide) (by decide) rfl dX5_stands_18 ?_
    refine lv_iload_n hx hb dX5_stands_19 rfl (lv_at hl 2 rfl) ?_
    refine lv_aload_n hx hb dX5_stands_20 rfl (lv_at hl 0 rfl) ?_
    refine va_get (D := D) (ci := 5) (v := .ref a_speeds) (C := RX5) (T := TX5) (N := 28) hx hb hts inX5 hown hK hP 0 rfl rfl 8 (by decide) (hts _ (mG w_644)) (fun _ h9 => h9) rfl dX5_stands_21 ?_
    refine lv_iload_n hx hb dX5_stands_24 rfl (lv_at hl 1 rfl) ?_
    refine my_iald (v := mspeeds0) (k := 0) hx hb hK hP 2 0 rfl rfl (by decide) (by decide) rfl dX5_stands_25 ?_
    refine my_i (wr := [(m0, .inr (5, [.int mthrown, .int (nI nf), .ref ah, .int mgap, .int mcars, .int mdark, .int msteps, .ref a_places, .ref a_speeds, .ref a_most, .ref a_gains, .ref a_brakes, .ref a_slows, .ref a_rides, .ref a_doors, .ref a_doorPlaces, .ref a_opened, .ref a_wide, .ref a_holds, .ref a_loads, .ref a_mostLoads, .ref a_beams, .ref a_contacts, .ref a_fires, .ref a_ways, .ref a_calls, .ref a_callCounts, .ref a_wears])), (a_places, .inl (aI, 2, .inl (arL [mplaces0, mplaces1]))), (a_speeds, .inl (aI, 2, .inl (arL [mspeeds0, mspeeds1]))), (a_brakes, .inl (aI, 2, .inl (arL [mbrakes0, mbrakes1])))]) [] [0, 1, 2, 3] (va_runS (As := [.int mspeeds0]) (rest := [.int p1, .int mplaces0]) ⟨hx, hb, hml, hown, hts⟩ (c_m_size l D aI aL aZ _ mspeeds0) (va_cwS 1 hts (gS w_757 w_758 w_38 w_759) rfl rfl rfl (by decide +kernel) ⟨Nat.le_of_ble_eq_true rfl, Nat.le_of_ble_eq_true rfl⟩) (pre_of hK hP hD hS hA hE [] rfl (by decide) _) rfl rfl hl.1 rfl (lv_room (Nat.le_of_ble_eq_true rfl)) dX5_stands_26 ⟨Nat.le_of_ble_eq_true rfl, Nat.le_of_ble_eq_true rfl⟩) hP hD hS hA rfl rfl (by decide) (by decide) (fun r_4 u_ H locs hw_5 hP hD hS => ?_)
    have hw_5 : F_m_size mspeeds0 = r_4 := hw_5
    have hG := hG.trans (cb_e hw_5)
    have hP : va_P D vwCl [(m0, .inr (5, [.int mthrown, .int (nI nf), .ref ah, .int mgap, .int mcars, .int mdark, .int msteps, .ref a_places, .ref a_speeds, .ref a_most, .ref a_gains, .ref a_brakes, .ref a_slows, .ref a_rides, .ref a_doors, .ref a_doorPlaces, .ref a_opened, .ref a_wide, .ref a_holds, .ref a_loads, .ref a_mostLoads, .ref a_beams, .ref a_contacts, .ref a_fires, .ref a_ways, .ref a_calls, .ref a_callCounts, .ref a_wears])), (a_places, .inl (aI, 2, .inl (arL [mplaces0, mplaces1]))), (a_speeds, .inl (aI, 2, .inl (arL [mspeeds0, mspeeds1]))), (a_brakes, .inl (aI, 2, .inl (arL [mbrakes0, mbrakes1])))] H := hP
    have hD : va_D A [(m0, .inr (5, [.int mthrown, .int (nI nf), .ref ah, .int mgap, .int mcars, .int mdark, .int msteps, .ref a_places, .ref a_speeds, .ref a_most, .ref a_gains, .ref a_brakes, .ref a_slows, .ref a_rides, .ref a_doors, .ref a_doorPlaces, .ref a_opened, .ref a_wide, .ref a_holds, .ref a_loads, .ref a_mostLoads, .ref a_beams, .ref a_contacts, .ref a_fires, .ref a_ways, .ref a_calls, .ref a_callCounts, .ref a_wears])), (a_places, .inl (aI, 2, .inl (arL [mplaces0, mplaces1]))), (a_speeds, .inl (aI, 2, .inl (arL [mspeeds0, mspeeds1]))), (a_brakes, .inl (aI, 2, .inl (arL [mbrakes0, mbrakes1])))] := hD
    refine lv_aload_n hx hb dX5_stands_29 rfl (lv_at hl 0 rfl) ?_
    refine va_get (D := D) (ci := 5) (v := .ref a_brakes) (C := RX5) (T := TX5) (N := 28) hx hb hts inX5 hown hK hP 0 rfl rfl 11 (by decide) (hts _ (mG w_647)) (fun _ h9 => h9) rfl dX5_stands_30 ?_
    refine lv_iload_n hx hb dX5_stands_33 rfl (lv_at hl 1 rfl) ?_
    refine my_iald (v := mbrakes0) (k := 0) hx hb hK hP 3 0 rfl rfl (by decide) (by decide) rfl dX5_stands_34 ?_
    refine my_i (wr := [(m0, .inr (5, [.int mthrown, .int (nI nf), .ref ah, .int mgap, .int mcars, .int mdark, .int msteps, .ref a_places, .ref a_speeds, .ref a_most, .ref a_gains, .ref a_brakes, .ref a_slows, .ref a_rides, .ref a_doors, .ref a_doorPlaces, .ref a_opened, .ref a_wide, .ref a_holds, .ref a_loads, .ref a_mostLoads, .ref a_beams, .ref a_contacts, .ref a_fires, .ref a_ways, .ref a_calls, .ref a_callCounts, .ref a_wears])), (a_places, .inl (aI, 2, .inl (arL [mplaces0, mplaces1]))), (a_speeds, .inl (aI, 2, .inl (arL [mspeeds0, mspeeds1]))), (a_brakes, .inl (aI, 2, .inl (arL [mbrakes0, mbrakes1])))]) [] [0, 1, 2, 3] (va_runS (As := [.int r_4, .int mbrakes0]) (rest := [.int p1, .int mplaces0]) ⟨hx, hb, hml, hown, hts⟩ (c_m_length l D aI aL aZ _ r_4 mbrakes0 hbk) (va_cwS 2 hts (gS w_760 w_761 w_38 w_762) rfl rfl rfl (by decide +kernel) ⟨Nat.le_of_ble_eq_true rfl, Nat.le_of_ble_eq_true rfl⟩) (pre_of hK hP hD hS hA hE [] rfl (by decide) _) rfl rfl hl.1 rfl (lv_room (Nat.le_of_ble_eq_true rfl)) dX5_stands_35 ⟨Nat.le_of_ble_eq_true rfl, Nat.le_of_ble_eq_true rfl⟩) hP hD hS hA rfl rfl (by decide) (by decide) (fun r_6 u_ H locs hw_7 hP hD hS => ?_)
    have hw_7 : F_m_length r_4 mbrakes0 = r_6 := hw_7
    have hG := hG.trans (cb_e hw_7)
    have hP : va_P D vwCl [(m0, .inr (5, [.int mthrown, .int (nI nf), .ref ah, .int mgap, .int mcars, .int mdark, .int msteps, .ref a_places, .ref a_speeds, .ref a_most, .ref a_gains, .ref a_brakes, .ref a_slows, .ref a_rides, .ref a_doors, .ref a_doorPlaces, .ref a_opened, .ref a_wide, .ref a_holds, .ref a_loads, .ref a_mostLoads, .ref a_beams, .ref a_contacts, .ref a_fires, .ref a_ways, .ref a_calls, .ref a_callCounts, .ref a_wears])), (a_places, .inl (aI, 2, .inl (arL [mplaces0, mplaces1]))), (a_speeds, .inl (aI, 2, .inl (arL [mspeeds0, mspeeds1]))), (a_brakes, .inl (aI, 2, .inl (arL [mbrakes0, mbrakes1])))] H := hP
    have hD : va_D A [(m0, .inr (5, [.int mthrown, .int (nI nf), .ref ah, .int mgap, .int mcars, .int mdark, .int msteps, .ref a_places, .ref a_speeds, .ref a_most, .ref a_gains, .ref a_brakes, .ref a_slows, .ref a_rides, .ref a_doors, .ref a_doorPlaces, .ref a_opened, .ref a_wide, .ref a_holds, .ref a_loads, .ref a_mostLoads, .ref a_beams, .ref a_contacts, .ref a_fires, .ref a_ways, .ref a_calls, .ref a_callCounts, .ref a_wears])), (a_places, .inl (aI, 2, .inl (arL [mplaces0, mplaces1]))), (a_speeds, .inl (aI, 2, .inl (arL [mspeeds0, mspeeds1]))), (a_brakes, .inl (aI, 2, .inl (arL [mbrakes0, mbrakes1])))] := hD
    refine lv_imul hx hb dX5_stands_38 ?_
    refine lv_iadd hx hb dX5_stands_39 ?_
    refine lv_goto (tgt := 49) hx hb dX5_stands_40 (by decide) ?_
    have hP := hP.sub (ws' := [(m0, .inr (5, [.int mthrown, .int (nI nf), .ref ah, .int mgap, .int mcars, .int mdark, .int msteps, .ref a_places, .ref a_speeds, .ref a_most, .ref a_gains, .ref a_brakes, .ref a_slows, .ref a_rides, .ref a_doors, .ref a_doorPlaces, .ref a_opened, .ref a_wide, .ref a_holds, .ref a_loads, .ref a_mostLoads, .ref a_beams, .ref a_contacts, .ref a_fires, .ref a_ways, .ref a_calls, .ref a_callCounts, .ref a_wears])), (a_places, .inl (aI, 2, .inl (arL [mplaces0, mplaces1]))), (a_speeds, .inl (aI, 2, .inl (arL [mspeeds0, mspeeds1]))), (a_brakes, .inl (aI, 2, .inl (arL [mbrakes0, mbrakes1])))]) [0, 1, 2, 3] rfl
    have hD := hD.sub (ws' := [(m0, .inr (5, [.int mthrown, .int (nI nf), .ref ah, .int mgap, .int mcars, .int mdark, .int msteps, .ref a_places, .ref a_speeds, .ref a_most, .ref a_gains, .ref a_brakes, .ref a_slows, .ref a_rides, .ref a_doors, .ref a_doorPlaces, .ref a_opened, .ref a_wide, .ref a_holds, .ref a_loads, .ref a_mostLoads, .ref a_beams, .ref a_contacts, .ref a_fires, .ref a_ways, .ref a_calls, .ref a_callCounts, .ref a_wears])), (a_places, .inl (aI, 2, .inl (arL [mplaces0, mplaces1]))), (a_speeds, .inl (aI, 2, .inl (arL [mspeeds0, mspeeds1]))), (a_brakes, .inl (aI, 2, .inl (arL [mbrakes0, mbrakes1])))]) [0, 1, 2, 3] (by decide) rfl
    exact rt_i hQ hx hb hr () hG hP hD hS (Nat.le_of_ble_eq_true rfl) (Nat.le_of_ble_eq_true rfl) dX5_stands_49 hlk
def F_m_stands_1 (mplaces1 : Int32) (mspeeds1 : Int32) (mbrakes1 : Int32) (p1 : Int32) : Int32 :=
  cb (F_m_sign mspeeds1) fun r_1 =>
    if r_1 = p1 then
      cb (F_m_size mspeeds1) fun r_4 =>
        cb (F_m_length r_4 mbrakes1) fun r_6 =>
          (mplaces1 + (p1 * r_6))
    else
      mplaces1
theorem F_m_stands_1_u (mplaces1 : Int32) (mspeeds1 : Int32) (mbrakes1 : Int32) (p1 : Int32) : F_m_stands_1 mplaces1 mspeeds1 mbrakes1 p1 =
  (cb (F_m_sign mspeeds1) fun r_1 =>
    if r_1 = p1 then
      cb (F_m_size mspeeds1) fun r_4 =>
        cb (F_m_length r_4 mbrakes1) fun r_6 =>
          (mplaces1 + (p1 * r_6))
    else
      mplaces1) := rfl
set_option maxHeartbeats 4000000 in
set_option maxRecDepth 100000 in
theorem c_m_stands_1 (l : Launch) (D : va_G) (aI aL aZ : ClassId) (sz : Nat) (m0 : Nat) (ah : Nat) (a_places : Nat) (a_speeds : Nat) (a_most : Nat) (a_gains : Nat) (a_brakes : Nat) (a_slows : Nat) (a_rides : Nat) (a_doors : Nat) (a_doorPlaces : Nat) (a_opened : Nat) (a_wide : Nat) (a_holds : Nat) (a_loads : Nat) (a_mostLoads : Nat) (a_beams : Nat) (a_contacts : Nat) (a_fires : Nat) (a_ways : Nat) (a_calls : Nat) (a_callCounts : Nat) (a_wears : Nat) (mthrown : Int32) (nf : Nat) (mgap : Int32) (mcars : Int32) (mdark : Int32) (msteps : Int32) (mplaces0 : Int32) (mplaces1 : Int32) (mspeeds0 : Int32) (mspeeds1 : Int32) (mbrakes0 : Int32) (mbrakes1 : Int32) (p1 : Int32) (hbk : ¬ mbrakes1 = 0) : Met l yX5_stands (.code yX5_stands cX5_stands 3 (some .int) :: Gw) ({ frames := 1, cells := 0, slots := 0, locals := 22 }) (va_Pc [.ref m0, .int 1, .int p1] (mpre D [(aI, .int), (aL, .long), (aZ, .boolean)] [(m0, .inr (5, [.int mthrown, .int (nI nf), .ref ah, .int mgap, .int mcars, .int mdark, .int msteps, .ref a_places, .ref a_speeds, .ref a_most, .ref a_gains, .ref a_brakes, .ref a_slows, .ref a_rides, .ref a_doors, .ref a_doorPlaces, .ref a_opened, .ref a_wide, .ref a_holds, .ref a_loads, .ref a_mostLoads, .ref a_beams, .ref a_contacts, .ref a_fires, .ref a_ways, .ref a_calls, .ref a_callCounts, .ref a_wears])), (a_places, .inl (aI, 2, .inl (arL [mplaces0, mplaces1]))), (a_speeds, .inl (aI, 2, .inl (arL [mspeeds0, mspeeds1]))), (a_brakes, .inl (aI, 2, .inl (arL [mbrakes0, mbrakes1])))] sz)) ((fun A : Nat → Prop => va_Qi (fun (r : Int32) (u : Unit) => F_m_stands_1 mplaces1 mspeeds1 mbrakes1 p1 = r) (mpst D A (fun (u : Unit) => [(m0, .inr (5, [.int mthrown, .int (nI nf), .ref ah, .int mgap, .int mcars, .int mdark, .int msteps, .ref a_places, .ref a_speeds, .ref a_most, .ref a_gains, .ref a_brakes, .ref a_slows, .ref a_rides, .ref a_doors, .ref a_doorPlaces, .ref a_opened, .ref a_wide, .ref a_holds, .ref a_loads, .ref a_mostLoads, .ref a_beams, .ref a_contacts, .ref a_fires, .ref a_ways, .ref a_calls, .ref a_callCounts, .ref a_wears])), (a_places, .inl (aI, 2, .inl (arL [mplaces0, mplaces1]))), (a_speeds, .inl (aI, 2, .inl (arL [mspeeds0, mspeeds1]))), (a_brakes, .inl (aI, 2, .inl (arL [mbrakes0, mbrakes1])))])) A) (va_A ([(m0, .inr (5, [.int mthrown, .int (nI nf), .ref ah, .int mgap, .int mcars, .int mdark, .int msteps, .ref a_places, .ref a_speeds, .ref a_most, .ref a_gains, .ref a_brakes, .ref a_slows, .ref a_rides, .ref a_doors, .ref a_doorPlaces, .ref a_opened, .ref a_wide, .ref a_holds, .ref a_loads, .ref a_mostLoads, .ref a_beams, .ref a_contacts, .ref a_fires, .ref a_ways, .ref a_calls, .ref a_callCounts, .ref a_wears])), (a_places, .inl (aI, 2, .inl (arL [mplaces0, mplaces1]))), (a_speeds, .inl (aI, 2, .inl (arL [mspeeds0, mspeeds1]))), (a_brakes, .inl (aI, 2, .inl (arL [mbrakes0, mbrakes1])))]) sz)) 0 0 (va_A ([(m0, .inr (5, [.int mthrown, .int (nI nf), .ref ah, .int mgap, .int mcars, .int mdark, .int msteps, .ref a_places, .ref a_speeds, .ref a_most, .ref a_gains, .ref a_brakes, .ref a_slows, .ref a_rides, .ref a_doors, .ref a_doorPlaces, .ref a_opened, .ref a_wide, .ref a_holds, .ref a_loads, .ref a_mostLoads, .ref a_beams, .ref a_contacts, .ref a_fires, .ref a_ways, .ref a_calls, .ref a_callCounts, .ref a_wears])), (a_places, .inl (aI, 2, .inl (arL [mplaces0, mplaces1]))), (a_speeds, .inl (aI, 2, .inl (arL [mspeeds0, mspeeds1]))), (a_brakes, .inl (aI, 2, .inl (arL [mbrakes0, mbrakes1])))]) sz) := by
  refine en (cc := cX5_stands) (maxL := 3) (ret := (some .int)) (Qc := (fun A : Nat → Prop => va_Qi (fun (r : Int32) (u : Unit) => F_m_stands_1 mplaces1 mspeeds1 mbrakes1 p1 = r) (mpst D A (fun (u : Unit) => [(m0, .inr (5, [.int mthrown, .int (nI nf), .ref ah, .int mgap, .int mcars, .int mdark, .int msteps, .ref a_places, .ref a_speeds, .ref a_most, .ref a_gains, .ref a_brakes, .ref a_slows, .ref a_rides, .ref a_doors, .ref a_doorPlaces, .ref a_opened, .ref a_wide, .ref a_holds, .ref a_loads, .ref a_mostLoads, .ref a_beams, .ref a_contacts, .ref a_fires, .ref a_ways, .ref a_calls, .ref a_callCounts, .ref a_wears])), (a_places, .inl (aI, 2, .inl (arL [mplaces0, mplaces1]))), (a_speeds, .inl (aI, 2, .inl (arL [mspeeds0, mspeeds1]))), (a_brakes, .inl (aI, 2, .inl (arL [mbrakes0, mbrakes1])))])) A)) (by decide) rfl (Nat.le_of_ble_eq_true rfl) ?_
  intro p e s m args below meth c A ls Q hQ hx hb hr hts hown hlk hnm hml hA hS hP hK hD hE hl
  have hown : s.vm.findClass RX5 = some m.cls := hown
  have hl : lv_has ls 3 [(0, .ref m0), (1, .int 1), (2, .int p1)] := hl
  have hG := F_m_stands_1_u mplaces1 mspeeds1 mbrakes1 p1
  refine lv_aload_n hx hb dX5_stands_0 rfl (lv_at hl 0 rfl) ?_
  refine va_get (D := D) (ci := 5) (v := .ref a_speeds) (C := RX5) (T := TX5) (N := 28) hx hb hts inX5 hown hK hP 0 rfl rfl 8 (by decide) (hts _ (mG w_644)) (fun _ h9 => h9) rfl dX5_stands_1 ?_
  refine lv_iload_n hx hb dX5_stands_4 rfl (lv_at hl 1 rfl) ?_
  refine my_iald (v := mspeeds1) (k := 1) hx hb hK hP 2 0 rfl rfl (by decide) (by decide) rfl dX5_stands_5 ?_
  refine my_i (wr := [(m0, .inr (5, [.int mthrown, .int (nI nf), .ref ah, .int mgap, .int mcars, .int mdark, .int msteps, .ref a_places, .ref a_speeds, .ref a_most, .ref a_gains, .ref a_brakes, .ref a_slows, .ref a_rides, .ref a_doors, .ref a_doorPlaces, .ref a_opened, .ref a_wide, .ref a_holds, .ref a_loads, .ref a_mostLoads, .ref a_beams, .ref a_contacts, .ref a_fires, .ref a_ways, .ref a_calls, .ref a_callCounts, .ref a_wears])), (a_places, .inl (aI, 2, .inl (arL [mplaces0, mplaces1]))), (a_speeds, .inl (aI, 2, .inl (arL [mspeeds0, mspeeds1]))), (a_brakes, .inl (aI, 2, .inl (arL [mbrakes0, mbrakes1])))]) [] [0, 1, 2, 3] (va_runS (As := [.int mspeeds1]) (rest := []) ⟨hx, hb, hml, hown, hts⟩ (c_m_sign l D aI aL aZ _ mspeeds1) (va_cwS 1 hts (gS w_754 w_755 w_38 w_756) rfl rfl rfl (by decide +kernel) ⟨Nat.le_of_ble_eq_true rfl, Nat.le_of_ble_eq_true rfl⟩) (pre_of hK hP hD hS hA hE [] rfl (by decide) _) rfl rfl hl.1 rfl (lv_room (Nat.le_of_ble_eq_true rfl)) dX5_stands_6 ⟨Nat.le_of_ble_eq_true rfl, Nat.le_of_ble_eq_true rfl⟩) hP hD hS hA rfl rfl (by decide) (by decide) (fun r_1 u_ H locs hw_2 hP hD hS => ?_)
  have hw_2 : F_m_sign mspeeds1 = r_1 := hw_2
  have hG := hG.trans (cb_e hw_2)
  have hP : va_P D vwCl [(m0, .inr (5, [.int mthrown, .int (nI nf), .ref ah, .int mgap, .int mcars, .int mdark, .int msteps, .ref a_places, .ref a_speeds, .ref a_most, .ref a_gains, .ref a_brakes, .ref a_slows, .ref a_rides, .ref a_doors, .ref a_doorPlaces, .ref a_opened, .ref a_wide, .ref a_holds, .ref a_loads, .ref a_mostLoads, .ref a_beams, .ref a_contacts, .ref a_fires, .ref a_ways, .ref a_calls, .ref a_callCounts, .ref a_wears])), (a_places, .inl (aI, 2, .inl (arL [mplaces0, mplaces1]))), (a_speeds, .inl (aI, 2, .inl (arL [mspeeds0, mspeeds1]))), (a_brakes, .inl (aI, 2, .inl (arL [mbrakes0, mbrakes1])))] H := hP
  have hD : va_D A [(m0, .inr (5, [.int mthrown, .int (nI nf), .ref ah, .int mgap, .int mcars, .int mdark, .int msteps, .ref a_places, .ref a_speeds, .ref a_most, .ref a_gains, .ref a_brakes, .ref a_slows, .ref a_rides, .ref a_doors, .ref a_doorPlaces, .ref a_opened, .ref a_wide, .ref a_holds, .ref a_loads, .ref a_mostLoads, .ref a_beams, .ref a_contacts, .ref a_fires, .ref a_ways, .ref a_calls, .ref a_callCounts, .ref a_wears])), (a_places, .inl (aI, 2, .inl (arL [mplaces0, mplaces1]))), (a_speeds, .inl (aI, 2, .inl (arL [mspeeds0, mspeeds1]))), (a_brakes, .inl (aI, 2, .inl (arL [mbrakes0, mbrakes1])))] := hD
  refine lv_iload_n hx hb dX5_stands_9 rfl (lv_at hl 2 rfl) ?_
  refine lv_icmp_ne (tgt := 43) hx hb dX5_stands_10 (by decide) (fun c_3 => ?_) (fun c_3 => ?_)
  · have hG := hG.trans (if_neg c_3)
    refine lv_aload_n hx hb dX5_stands_43 rfl (lv_at hl 0 rfl) ?_
    refine va_get (D := D) (ci := 5) (v := .ref a_places) (C := RX5) (T := TX5) (N := 28) hx hb hts inX5 hown hK hP 0 rfl rfl 7 (by decide) (hts _ (mG w_643)) (fun _ h9 => h9) rfl dX5_stands_44 ?_
    refine lv_iload_n hx hb dX5_stands_47 rfl (lv_at hl 1 rfl) ?_
    refine my_iald (v := mplaces1) (k := 1) hx hb hK hP 1 0 rfl rfl (by decide) (by decide) rfl dX5_stands_48 ?_
    have hP := hP.sub (ws' := [(m0, .inr (5, [.int mthrown, .int (nI nf), .ref ah, .int mgap, .int mcars, .int mdark, .int msteps, .ref a_places, .ref a_speeds, .ref a_most, .ref a_gains, .ref a_brakes, .ref a_slows, .ref a_rides, .ref a_doors, .ref a_doorPlaces, .ref a_opened, .ref a_wide, .ref a_holds, .ref a_loads, .ref a_mostLoads, .ref a_beams, .ref a_contacts, .ref a_fires, .ref a_ways, .ref a_calls, .ref a_callCounts, .ref a_wears])), (a_places, .inl (aI, 2, .inl (arL [mplaces0, mplaces1]))), (a_speeds, .inl (aI, 2, .inl (arL [mspeeds0, mspeeds1]))), (a_brakes, .inl (aI, 2, .inl (arL [mbrakes0, mbrakes1])))]) [0, 1, 2, 3] rfl
    have hD := hD.sub (ws' := [(m0, .inr (5, [.int mthrown, .int (nI nf), .ref ah, .int mgap, .int mcars, .int mdark, .int msteps, .ref a_places, .ref a_speeds, .ref a_most, .ref a_gains, .ref a_brakes, .ref a_slows, .ref a_rides, .ref a_doors, .ref a_doorPlaces, .ref a_opened, .ref a_wide, .ref a_holds, .ref a_loads, .ref a_mostLoads, .ref a_beams, .ref a_contacts, .ref a_fires, .ref a_ways, .ref a_calls, .ref a_callCounts, .ref a_wears])), (a_places, .inl (aI, 2, .inl (arL [mplaces0, mplaces1]))), (a_speeds, .inl (aI, 2, .inl (arL [mspeeds0, mspeeds1]))), (a_brakes, .inl (aI, 2, .inl (arL [mbrakes0, mbrakes1])))]) [0, 1, 2, 3] (by decide) rfl
    exact rt_i hQ hx hb hr () hG hP hD hS (Nat.le_of_ble_eq_true rfl) (Nat.le_of_ble_eq_true rfl) dX5_stands_49 hlk
  · have hG := hG.trans (if_pos c_3)
    refine lv_aload_n hx hb dX5_stands_13 rfl (lv_at hl 0 rfl) ?_
    refine va_get (D := D) (ci := 5) (v := .ref a_places) (C := RX5) (T := TX5) (N := 28) hx hb hts inX5 hown hK hP 0 rfl rfl 7 (by decide) (hts _ (mG w_643)) (fun _ h9 => h9) rfl dX5_stands_14 ?_
    refine lv_iload_n hx hb dX5_stands_17 rfl (lv_at hl 1 rfl) ?_
    refine my_iald (v := mplaces1) (k := 1) hx hb hK hP 1 0 rfl rfl (by decide) (by decide) rfl dX5_stands_18 ?_
    refine lv_iload_n hx hb dX5_stands_19 rfl (lv_at hl 2 rfl) ?_
    refine lv_aload_n hx hb dX5_stands_20 rfl (lv_at hl 0 rfl) ?_
    refine va_get (D := D) (ci := 5) (v := .ref a_speeds) (C := RX5) (T := TX5) (N := 28) hx hb hts inX5 hown hK hP 0 rfl rfl 8 (by decide) (hts _ (mG w_644)) (fun _ h9 => h9) rfl dX5_stands_21 ?_
    refine lv_iload_n hx hb dX5_stands_24 rfl (lv_at hl 1 rfl) ?_
    refine my_iald (v := mspeeds1) (k := 1) hx hb hK hP 2 0 rfl rfl (by decide) (by decide) rfl dX5_stands_25 ?_
    refine my_i (wr := [(m0, .inr (5, [.int mthrown, .int (nI nf), .ref ah, .int mgap, .int mcars, .int mdark, .int msteps, .ref a_places, .ref a_speeds, .ref a_most, .ref a_gains, .ref a_brakes, .ref a_slows, .ref a_rides, .ref a_doors, .ref a_doorPlaces, .ref a_opened, .ref a_wide, .ref a_holds, .ref a_loads, .ref a_mostLoads, .ref a_beams, .ref a_contacts, .ref a_fires, .ref a_ways, .ref a_calls, .ref a_callCounts, .ref a_wears])), (a_places, .inl (aI, 2, .inl (arL [mplaces0, mplaces1]))), (a_speeds, .inl (aI, 2, .inl (arL [mspeeds0, mspeeds1]))), (a_brakes, .inl (aI, 2, .inl (arL [mbrakes0, mbrakes1])))]) [] [0, 1, 2, 3] (va_runS (As := [.int mspeeds1]) (rest := [.int p1, .int mplaces1]) ⟨hx, hb, hml, hown, hts⟩ (c_m_size l D aI aL aZ _ mspeeds1) (va_cwS 1 hts (gS w_757 w_758 w_38 w_759) rfl rfl rfl (by decide +kernel) ⟨Nat.le_of_ble_eq_true rfl, Nat.le_of_ble_eq_true rfl⟩) (pre_of hK hP hD hS hA hE [] rfl (by decide) _) rfl rfl hl.1 rfl (lv_room (Nat.le_of_ble_eq_true rfl)) dX5_stands_26 ⟨Nat.le_of_ble_eq_true rfl, Nat.le_of_ble_eq_true rfl⟩) hP hD hS hA rfl rfl (by decide) (by decide) (fun r_4 u_ H locs hw_5 hP hD hS => ?_)
    have hw_5 : F_m_size mspeeds1 = r_4 := hw_5
    have hG := hG.trans (cb_e hw_5)
    have hP : va_P D vwCl [(m0, .inr (5, [.int mthrown, .int (nI nf), .ref ah, .int mgap, .int mcars, .int mdark, .int msteps, .ref a_places, .ref a_speeds, .ref a_most, .ref a_gains, .ref a_brakes, .ref a_slows, .ref a_rides, .ref a_doors, .ref a_doorPlaces, .ref a_opened, .ref a_wide, .ref a_holds, .ref a_loads, .ref a_mostLoads, .ref a_beams, .ref a_contacts, .ref a_fires, .ref a_ways, .ref a_calls, .ref a_callCounts, .ref a_wears])), (a_places, .inl (aI, 2, .inl (arL [mplaces0, mplaces1]))), (a_speeds, .inl (aI, 2, .inl (arL [mspeeds0, mspeeds1]))), (a_brakes, .inl (aI, 2, .inl (arL [mbrakes0, mbrakes1])))] H := hP
    have hD : va_D A [(m0, .inr (5, [.int mthrown, .int (nI nf), .ref ah, .int mgap, .int mcars, .int mdark, .int msteps, .ref a_places, .ref a_speeds, .ref a_most, .ref a_gains, .ref a_brakes, .ref a_slows, .ref a_rides, .ref a_doors, .ref a_doorPlaces, .ref a_opened, .ref a_wide, .ref a_holds, .ref a_loads, .ref a_mostLoads, .ref a_beams, .ref a_contacts, .ref a_fires, .ref a_ways, .ref a_calls, .ref a_callCounts, .ref a_wears])), (a_places, .inl (aI, 2, .inl (arL [mplaces0, mplaces1]))), (a_speeds, .inl (aI, 2, .inl (arL [mspeeds0, mspeeds1]))), (a_brakes, .inl (aI, 2, .inl (arL [mbrakes0, mbrakes1])))] := hD
    refine lv_aload_n hx hb dX5_stands_29 rfl (lv_at hl 0 rfl) ?_
    refine va_get (D := D) (ci := 5) (v := .ref a_brakes) (C := RX5) (T := TX5) (N := 28) hx hb hts inX5 hown hK hP 0 rfl rfl 11 (by decide) (hts _ (mG w_647)) (fun _ h9 => h9) rfl dX5_stands_30 ?_
    refine lv_iload_n hx hb dX5_stands_33 rfl (lv_at hl 1 rfl) ?_
    refine my_iald (v := mbrakes1) (k := 1) hx hb hK hP 3 0 rfl rfl (by decide) (by decide) rfl dX5_stands_34 ?_
    refine my_i (wr := [(m0, .inr (5, [.int mthrown, .int (nI nf), .ref ah, .int mgap, .int mcars, .int mdark, .int msteps, .ref a_places, .ref a_speeds, .ref a_most, .ref a_gains, .ref a_brakes, .ref a_slows, .ref a_rides, .ref a_doors, .ref a_doorPlaces, .ref a_opened, .ref a_wide, .ref a_holds, .ref a_loads, .ref a_mostLoads, .ref a_beams, .ref a_contacts, .ref a_fires, .ref a_ways, .ref a_calls, .ref a_callCounts, .ref a_wears])), (a_places, .inl (aI, 2, .inl (arL [mplaces0, mplaces1]))), (a_speeds, .inl (aI, 2, .inl (arL [mspeeds0, mspeeds1]))), (a_brakes, .inl (aI, 2, .inl (arL [mbrakes0, mbrakes1])))]) [] [0, 1, 2, 3] (va_runS (As := [.int r_4, .int mbrakes1]) (rest := [.int p1, .int mplaces1]) ⟨hx, hb, hml, hown, hts⟩ (c_m_length l D aI aL aZ _ r_4 mbrakes1 hbk) (va_cwS 2 hts (gS w_760 w_761 w_38 w_762) rfl rfl rfl (by decide +kernel) ⟨Nat.le_of_ble_eq_true rfl, Nat.le_of_ble_eq_true rfl⟩) (pre_of hK hP hD hS hA hE [] rfl (by decide) _) rfl rfl hl.1 rfl (lv_room (Nat.le_of_ble_eq_true rfl)) dX5_stands_35 ⟨Nat.le_of_ble_eq_true rfl, Nat.le_of_ble_eq_true rfl⟩) hP hD hS hA rfl rfl (by decide) (by decide) (fun r_6 u_ H locs hw_7 hP hD hS => ?_)
    have hw_7 : F_m_length r_4 mbrakes1 = r_6 := hw_7
    have hG := hG.trans (cb_e hw_7)
    have hP : va_P D vwCl [(m0, .inr (5, [.int mthrown, .int (nI nf), .ref ah, .int mgap, .int mcars, .int mdark, .int msteps, .ref a_places, .ref a_speeds, .ref a_most, .ref a_gains, .ref a_brakes, .ref a_slows, .ref a_rides, .ref a_doors, .ref a_doorPlaces, .ref a_opened, .ref a_wide, .ref a_holds, .ref a_loads, .ref a_mostLoads, .ref a_beams, .ref a_contacts, .ref a_fires, .ref a_ways, .ref a_calls, .ref a_callCounts, .ref a_wears])), (a_places, .inl (aI, 2, .inl (arL [mplaces0, mplaces1]))), (a_speeds, .inl (aI, 2, .inl (arL [mspeeds0, mspeeds1]))), (a_brakes, .inl (aI, 2, .inl (arL [mbrakes0, mbrakes1])))] H := hP
    have hD : va_D A [(m0, .inr (5, [.int mthrown, .int (nI nf), .ref ah, .int mgap, .int mcars, .int mdark, .int msteps, .ref a_places, .ref a_speeds, .ref a_most, .ref a_gains, .ref a_brakes, .ref a_slows, .ref a_rides, .ref a_doors, .ref a_doorPlaces, .ref a_opened, .ref a_wide, .ref a_holds, .ref a_loads, .ref a_mostLoads, .ref a_beams, .ref a_contacts, .ref a_fires, .ref a_ways, .ref a_calls, .ref a_callCounts, .ref a_wears])), (a_places, .inl (aI, 2, .inl (arL [mplaces0, mplaces1]))), (a_speeds, .inl (aI, 2, .inl (arL [mspeeds0, mspeeds1]))), (a_brakes, .inl (aI, 2, .inl (arL [mbrakes0, mbrakes1])))] := hD
    refine lv_imul hx hb dX5_stands_38 ?_
    refine lv_iadd hx hb dX5_stands_39 ?_
    refine lv_goto (tgt := 49) hx hb dX5_stands_40 (by decide) ?_
    have hP := hP.sub (ws' := [(m0, .inr (5, [.int mthrown, .int (nI nf), .ref ah, .int mgap, .int mcars, .int mdark, .int msteps, .ref a_places, .ref a_speeds, .ref a_most, .ref a_gains, .ref a_brakes, .ref a_slows, .ref a_rides, .ref a_doors, .ref a_doorPlaces, .ref a_opened, .ref a_wide, .ref a_holds, .ref a_loads, .ref a_mostLoads, .ref a_beams, .ref a_contacts, .ref a_fires, .ref a_ways, .ref a_calls, .ref a_callCounts, .ref a_wears])), (a_places, .inl (aI, 2, .inl (arL [mplaces0, mplaces1]))), (a_speeds, .inl (aI, 2, .inl (arL [mspeeds0, mspeeds1]))), (a_brakes, .inl (aI, 2, .inl (arL [mbrakes0, mbrakes1])))]) [0, 1, 2, 3] rfl
    have hD := hD.sub (ws' := [(m0, .inr (5, [.int mthrown, .int (nI nf), .ref ah, .int mgap, .int mcars, .int mdark, .int msteps, .ref a_places, .ref a_speeds, .ref a_most, .ref a_gains, .ref a_brakes, .ref a_slows, .ref a_rides, .ref a_doors, .ref a_doorPlaces, .ref a_opened, .ref a_wide, .ref a_holds, .ref a_loads, .ref a_mostLoads, .ref a_beams, .ref a_contacts, .ref a_fires, .ref a_ways, .ref a_calls, .ref a_callCounts, .ref a_wears])), (a_places, .inl (aI, 2, .inl (arL [mplaces0, mplaces1]))), (a_speeds, .inl (aI, 2, .inl (arL [mspeeds0, mspeeds1]))), (a_brakes, .inl (aI, 2, .inl (arL [mbrakes0, mbrakes1])))]) [0, 1, 2, 3] (by decide) rfl
    exact rt_i hQ hx hb hr () hG hP hD hS (Nat.le_of_ble_eq_true rfl) (Nat.le_of_ble_eq_true rfl) dX5_stands_49 hlk
theorem dX5_isFree_0 : decode cX5_isFree 0 = .ok (.aload_n 0, 1) := by decide +kernel
theorem dX5_isFree_1 : decode cX5_isFree 1 = .ok (.getfield 98, 3) := by decide +kernel
theorem dX5_isFree_4 : decode cX5_isFree 4 = .ok (.iconst 2, 1) := by decide +kernel
theorem dX5_isFree_5 : decode cX5_isFree 5 = .ok (.if_icmp .lt 16, 3) := by decide +kernel
theorem dX5_isFree_8 : decode cX5_isFree 8 = .ok (.iload_n 2, 1) := by decide +kernel
theorem dX5_isFree_9 : decode cX5_isFree 9 = .ok (.iload_n 1, 1) := by decide +kernel
theorem dX5_isFree_10 : decode cX5_isFree 10 = .ok (.ifCond .ne 7, 3) := by decide +kernel
theorem dX5_isFree_13 : decode cX5_isFree 13 = .ok (.iconst 1, 1) := by decide +kernel
theorem dX5_isFree_14 : decode cX5_isFree 14 = .ok (.goto 4, 3) := by decide +kernel
theorem dX5_isFree_17 : decode cX5_isFree 17 = .ok (.iconst (-1), 1) := by decide +kernel
theorem dX5_isFree_18 : decode cX5_isFree 18 = .ok (.if_icmp .eq 5, 3) := by decide +kernel
theorem dX5_isFree_21 : decode cX5_isFree 21 = .ok (.iconst 1, 1) := by decide +kernel
theorem dX5_isFree_22 : decode cX5_isFree 22 = .ok (.ireturn, 1) := by decide +kernel
theorem dX5_isFree_23 : decode cX5_isFree 23 = .ok (.aload_n 0, 1) := by decide +kernel
theorem dX5_isFree_24 : decode cX5_isFree 24 = .ok (.getfield 17, 3) := by decide +kernel
theorem dX5_isFree_27 : decode cX5_isFree 27 = .ok (.iload_n 1, 1) := by decide +kernel
theorem dX5_isFree_28 : decode cX5_isFree 28 = .ok (.iaload, 1) := by decide +kernel
theorem dX5_isFree_29 : decode cX5_isFree 29 = .ok (.iload_n 2, 1) := by decide +kernel
theorem dX5_isFree_30 : decode cX5_isFree 30 = .ok (.iload_n 3, 1) := by decide +kernel
theorem dX5_isFree_31 : decode cX5_isFree 31 = .ok (.iload_n 3, 1) := by decide +kernel
theorem dX5_isFree_32 : decode cX5_isFree 32 = .ok (.aload_n 0, 1) := by decide +kernel
theorem dX5_isFree_33 : decode cX5_isFree 33 = .ok (.getfield 29, 3) := by decide +kernel
theorem dX5_isFree_36 : decode cX5_isFree 36 = .ok (.iload_n 1, 1) := by decide +kernel
theorem dX5_isFree_37 : decode cX5_isFree 37 = .ok (.iaload, 1) := by decide +kernel
theorem dX5_isFree_38 : decode cX5_isFree 38 = .ok (.invokestatic 94, 3) := by decide +kernel
theorem dX5_isFree_41 : decode cX5_isFree 41 = .ok (.iadd, 1) := by decide +kernel
theorem dX5_isFree_42 : decode cX5_isFree 42 = .ok (.imul, 1) := by decide +kernel
theorem dX5_isFree_43 : decode cX5_isFree 43 = .ok (.iadd, 1) := by decide +kernel
theorem dX5_isFree_44 : decode cX5_isFree 44 = .ok (.istore 4, 2) := by decide +kernel
theorem dX5_isFree_46 : decode cX5_isFree 46 = .ok (.iload_n 1, 1) := by decide +kernel
theorem dX5_isFree_47 : decode cX5_isFree 47 = .ok (.ifCond .ne 27, 3) := by decide +kernel
theorem dX5_isFree_50 : decode cX5_isFree 50 = .ok (.iload 4, 2) := by decide +kernel
theorem dX5_isFree_52 : decode cX5_isFree 52 = .ok (.aload_n 0, 1) := by decide +kernel
theorem dX5_isFree_53 : decode cX5_isFree 53 = .ok (.getfield 13, 3) := by decide +kernel
theorem dX5_isFree_56 : decode cX5_isFree 56 = .ok (.iadd, 1) := by decide +kernel
theorem dX5_isFree_57 : decode cX5_isFree 57 = .ok (.aload_n 0, 1) := by decide +kernel
theorem dX5_isFree_58 : decode cX5_isFree 58 = .ok (.iconst 1, 1) := by decide +kernel
theorem dX5_isFree_59 : decode cX5_isFree 59 = .ok (.iconst (-1), 1) := by decide +kernel
theorem dX5_isFree_60 : decode cX5_isFree 60 = .ok (.invokevirtual 101, 3) := by decide +kernel
theorem dX5_isFree_63 : decode cX5_isFree 63 = .ok (.if_icmp .gt 7, 3) := by decide +kernel
theorem dX5_isFree_66 : decode cX5_isFree 66 = .ok (.iconst 1, 1) := by decide +kernel
theorem dX5_isFree_67 : decode cX5_isFree 67 = .ok (.goto 28, 3) := by decide +kernel
theorem dX5_isFree_70 : decode cX5_isFree 70 = .ok (.iconst 0, 1) := by decide +kernel
theorem dX5_isFree_71 : decode cX5_isFree 71 = .ok (.goto 24, 3) := by decide +kernel
theorem dX5_isFree_74 : decode cX5_isFree 74 = .ok (.iload 4, 2) := by decide +kernel
theorem dX5_isFree_76 : decode cX5_isFree 76 = .ok (.aload_n 0, 1) := by decide +kernel
theorem dX5_isFree_77 : decode cX5_isFree 77 = .ok (.getfield 13, 3) := by decide +kernel
theorem dX5_isFree_80 : decode cX5_isFree 80 = .ok (.isub, 1) := by decide +kernel
theorem dX5_isFree_81 : decode cX5_isFree 81 = .ok (.aload_n 0, 1) := by decide +kernel
theorem dX5_isFree_82 : decode cX5_isFree 82 = .ok (.iconst 0, 1) := by decide +kernel
theorem dX5_isFree_83 : decode cX5_isFree 83 = .ok (.iconst 1, 1) := by decide +kernel
theorem dX5_isFree_84 : decode cX5_isFree 84 = .ok (.invokevirtual 101, 3) := by decide +kernel
theorem dX5_isFree_87 : decode cX5_isFree 87 = .ok (.if_icmp .lt 7, 3) := by decide +kernel
theorem dX5_isFree_90 : decode cX5_isFree 90 = .ok (.iconst 1, 1) := by decide +kernel
theorem dX5_isFree_91 : decode cX5_isFree 91 = .ok (.goto 4, 3) := by decide +kernel
theorem dX5_isFree_94 : decode cX5_isFree 94 = .ok (.iconst 0, 1) := by decide +kernel
theorem dX5_isFree_95 : decode cX5_isFree 95 = .ok (.ireturn, 1) := by decide +kernel
def F_m_isFree_10 : Int32 :=
  1
theorem F_m_isFree_10_u : F_m_isFree_10 =
  (1) := rfl
set_option maxHeartbeats 4000000 in
set_option maxRecDepth 100000 in
theorem c_m_isFree_10 (l : Launch) (D : va_G) (aI aL aZ : ClassId) (sz : Nat) (m0 : Nat) (ah : Nat) (a_places : Nat) (a_speeds : Nat) (a_most : Nat) (a_gains : Nat) (a_brakes : Nat) (a_slows : Nat) (a_rides : Nat) (a_doors : Nat) (a_doorPlaces : Nat) (a_opened : Nat) (a_wide : Nat) (a_holds : Nat) (a_loads : Nat) (a_mostLoads : Nat) (a_beams : Nat) (a_contacts : Nat) (a_fires : Nat) (a_ways : Nat) (a_calls : Nat) (a_callCounts : Nat) (a_wears : Nat) (mthrown : Int32) (nf : Nat) (mgap : Int32) (mdark : Int32) (msteps : Int32) (mplaces0 : Int32) (mplaces1 : Int32) (mspeeds0 : Int32) (mspeeds1 : Int32) (mbrakes0 : Int32) (mbrakes1 : Int32) (p1 : Int32) (p2 : Int32) : Met l yX5_isFree (.code yX5_isFree cX5_isFree 5 (some .boolean) :: Gw) ({ frames := 0, cells := 0, slots := 0, locals := 0 }) (va_Pc [.ref m0, .int 0, .int p1, .int p2] (mpre D [(aI, .int), (aL, .long), (aZ, .boolean)] [(m0, .inr (5, [.int mthrown, .int (nI nf), .ref ah, .int mgap, .int 1, .int mdark, .int msteps, .ref a_places, .ref a_speeds, .ref a_most, .ref a_gains, .ref a_brakes, .ref a_slows, .ref a_rides, .ref a_doors, .ref a_doorPlaces, .ref a_opened, .ref a_wide, .ref a_holds, .ref a_loads, .ref a_mostLoads, .ref a_beams, .ref a_contacts, .ref a_fires, .ref a_ways, .ref a_calls, .ref a_callCounts, .ref a_wears])), (a_places, .inl (aI, 2, .inl (arL [mplaces0, mplaces1]))), (a_speeds, .inl (aI, 2, .inl (arL [mspeeds0, mspeeds1]))), (a_brakes, .inl (aI, 2, .inl (arL [mbrakes0, mbrakes1])))] sz)) ((fun A : Nat → Prop => va_Qi (fun (r : Int32) (u : Unit) => r = 1 ∧ (F_m_isFree_10 = r ∧ nb r)) (mpst D A (fun (u : Unit) => [(m0, .inr (5, [.int mthrown, .int (nI nf), .ref ah, .int mgap, .int 1, .int mdark, .int msteps, .ref a_places, .ref a_speeds, .ref a_most, .ref a_gains, .ref a_brakes, .ref a_slows, .ref a_rides, .ref a_doors, .ref a_doorPlaces, .ref a_opened, .ref a_wide, .ref a_holds, .ref a_loads, .ref a_mostLoads, .ref a_beams, .ref a_contacts, .ref a_fires, .ref a_ways, .ref a_calls, .ref a_callCounts, .ref a_wears])), (a_places, .inl (aI, 2, .inl (arL [mplaces0, mplaces1]))), (a_speeds, .inl (aI, 2, .inl (arL [mspeeds0, mspeeds1]))), (a_brakes, .inl (aI, 2, .inl (arL [mbrakes0, mbrakes1])))])) A) (va_A ([(m0, .inr (5, [.int mthrown, .int (nI nf), .ref ah, .int mgap, .int 1, .int mdark, .int msteps, .ref a_places, .ref a_speeds, .ref a_most, .ref a_gains, .ref a_brakes, .ref a_slows, .ref a_rides, .ref a_doors, .ref a_doorPlaces, .ref a_opened, .ref a_wide, .ref a_holds, .ref a_loads, .ref a_mostLoads, .ref a_beams, .ref a_contacts, .ref a_fires, .ref a_ways, .ref a_calls, .ref a_callCounts, .ref a_wears])), (a_places, .inl (aI, 2, .inl (arL [mplaces0, mplaces1]))), (a_speeds, .inl (aI, 2, .inl (arL [mspeeds0, mspeeds1]))), (a_brakes, .inl (aI, 2, .inl (arL [mbrakes0, mbrakes1])))]) sz)) 0 0 (va_A ([(m0, .inr (5, [.int mthrown, .int (nI nf), .ref ah, .int mgap, .int 1, .int mdark, .int msteps, .ref a_places, .ref a_speeds, .ref a_most, .ref a_gains, .ref a_brakes, .ref a_slows, .ref a_rides, .ref a_doors, .ref a_doorPlaces, .ref a_opened, .ref a_wide, .ref a_holds, .ref a_loads, .ref a_mostLoads, .ref a_beams, .ref a_contacts, .ref a_fires, .ref a_ways, .ref a_calls, .ref a_callCounts, .ref a_wears])), (a_places, .inl (aI, 2, .inl (arL [mplaces0, mplaces1]))), (a_speeds, .inl (aI, 2, .inl (arL [mspeeds0, mspeeds1]))), (a_brakes, .inl (aI, 2, .inl (arL [mbrakes0, mbrakes1])))]) sz) := by
  refine en (cc := cX5_isFree) (maxL := 5) (ret := (some .boolean)) (Qc := (fun A : Nat → Prop => va_Qi (fun (r : Int32) (u : Unit) => r = 1 ∧ (F_m_isFree_10 = r ∧ nb r)) (mpst D A (fun (u : Unit) => [(m0, .inr (5, [.int mthrown, .int (nI nf), .ref ah, .int mgap, .int 1, .int mdark, .int msteps, .ref a_places, .ref a_speeds, .ref a_most, .ref a_gains, .ref a_brakes, .ref a_slows, .ref a_rides, .ref a_doors, .ref a_doorPlaces, .ref a_opened, .ref a_wide, .ref a_holds, .ref a_loads, .ref a_mostLoads, .ref a_beams, .ref a_contacts, .ref a_fires, .ref a_ways, .ref a_calls, .ref a_callCounts, .ref a_wears])), (a_places, .inl (aI, 2, .inl (arL [mplaces0, mplaces1]))), (a_speeds, .inl (aI, 2, .inl (arL [mspeeds0, mspeeds1]))), (a_brakes, .inl (aI, 2, .inl (arL [mbrakes0, mbrakes1])))])) A)) (by decide) rfl (Nat.le_of_ble_eq_true rfl) ?_
  intro p e s m args below meth c A ls Q hQ hx hb hr hts hown hlk hnm hml hA hS hP hK hD hE hl
  have hown : s.vm.findClass RX5 = some m.cls := hown
  have hl : lv_has ls 5 [(0, .ref m0), (1, .int 0), (2, .int p1), (3, .int p2)] := hl
  have hG := F_m_isFree_10_u
  refine lv_aload_n hx hb dX5_isFree_0 rfl (lv_at hl 0 rfl) ?_
  refine va_get (D := D) (ci := 5) (v := .int 1) (C := RX5) (T := TX5) (N := 28) hx hb hts inX5 hown hK hP 0 rfl rfl 4 (by decide) (hts _ (mG w_640)) (fun _ h9 => h9) rfl dX5_isFree_1 ?_
  refine lv_iconst (v := 2) hx hb dX5_isFree_4 (by decide) ?_
  refine lv_icmp_lt (tgt := 21) hx hb dX5_isFree_5 (by decide) (fun _ => ?_) (fun c9 => absurd c9 (by decide))
  refine lv_iconst (v := 1) hx hb dX5_isFree_21 (by decide) ?_
  have hP := hP.sub (ws' := [(m0, .inr (5, [.int mthrown, .int (nI nf), .ref ah, .int mgap, .int 1, .int mdark, .int msteps, .ref a_places, .ref a_speeds, .ref a_most, .ref a_gains, .ref a_brakes, .ref a_slows, .ref a_rides, .ref a_doors, .ref a_doorPlaces, .ref a_opened, .ref a_wide, .ref a_holds, .ref a_loads, .ref a_mostLoads, .ref a_beams, .ref a_contacts, .ref a_fires, .ref a_ways, .ref a_calls, .ref a_callCounts, .ref a_wears])), (a_places, .inl (aI, 2, .inl (arL [mplaces0, mplaces1]))), (a_speeds, .inl (aI, 2, .inl (arL [mspeeds0, mspeeds1]))), (a_brakes, .inl (aI, 2, .inl (arL [mbrakes0, mbrakes1])))]) [0, 1, 2, 3] rfl
  have hD := hD.sub (ws' := [(m0, .inr (5, [.int mthrown, .int (nI nf), .ref ah, .int mgap, .int 1, .int mdark, .int msteps, .ref a_places, .ref a_speeds, .ref a_most, .ref a_gains, .ref a_brakes, .ref a_slows, .ref a_rides, .ref a_doors, .ref a_doorPlaces, .ref a_opened, .ref a_wide, .ref a_holds, .ref a_loads, .ref a_mostLoads, .ref a_beams, .ref a_contacts, .ref a_fires, .ref a_ways, .ref a_calls, .ref a_callCounts, .ref a_wears])), (a_places, .inl (aI, 2, .inl (arL [mplaces0, mplaces1]))), (a_speeds, .inl (aI, 2, .inl (arL [mspeeds0, mspeeds1]))), (a_brakes, .inl (aI, 2, .inl (arL [mbrakes0, mbrakes1])))]) [0, 1, 2, 3] (by decide) rfl
  exact rt_z hQ hx hb hr (nb_n (Or.inr rfl)) () ⟨rfl, ⟨hG, (Or.inr rfl)⟩⟩ hP hD hS (Nat.le_of_ble_eq_true rfl) (Nat.le_of_ble_eq_true rfl) dX5_isFree_22 hlk
def F_m_isFree_20 (mgap : Int32) (mplaces0 : Int32) (mplaces1 : Int32) (mspeeds1 : Int32) (mbrakes0 : Int32) (mbrakes1 : Int32) (p1 : Int32) (p2 : Int32) : Int32 :=
  if p1 = 1 then
    cb (F_m_length p2 mbrakes0) fun r_4 =>
      cb (F_m_stands_1 mplaces1 mspeeds1 mbrakes1 (-1)) fun r_7 =>
        if r_7 < ((mplaces0 + (p1 * (p2 + r_4))) + mgap) then
          0
        else
          1
  else
    1
theorem F_m_isFree_20_u (mgap : Int32) (mplaces0 : Int32) (mplaces1 : Int32) (mspeeds1 : Int32) (mbrakes0 : Int32) (mbrakes1 : Int32) (p1 : Int32) (p2 : Int32) : F_m_isFree_20 mgap mplaces0 mplaces1 mspeeds1 mbrakes0 mbrakes1 p1 p2 =
  (if p1 = 1 then
    cb (F_m_length p2 mbrakes0) fun r_4 =>
      cb (F_m_stands_1 mplaces1 mspeeds1 mbrakes1 (-1)) fun r_7 =>
        if r_7 < ((mplaces0 + (p1 * (p2 + r_4))) + mgap) then
          0
        else
          1
  else
    1) := rfl
set_option maxHeartbeats 4000000 in
set_option maxRecDepth 100000 in
theorem c_m_isFree_20 (l : Launch) (D : va_G) (aI aL aZ : ClassId) (sz : Nat) (m0 : Nat) (ah : Nat) (a_places : Nat) (a_speeds : Nat) (a_most : Nat) (a_gains : Nat) (a_brakes : Nat) (a_slows : Nat) (a_rides : Nat) (a_doors : Nat) (a_doorPlaces : Nat) (a_opened : Nat) (a_wide : Nat) (a_holds : Nat) (a_loads : Nat) (a_mostLoads : Nat) (a_beams : Nat) (a_contacts : Nat) (a_fires : Nat) (a_ways : Nat) (a_calls : Nat) (a_callCounts : Nat) (a_wears : Nat) (mthrown : Int32) (nf : Nat) (mgap : Int32) (mdark : Int32) (msteps : Int32) (mplaces0 : Int32) (mplaces1 : Int32) (mspeeds0 : Int32) (mspeeds1 : Int32) (mbrakes0 : Int32) (mbrakes1 : Int32) (p1 : Int32) (p2 : Int32) (hb0 : ¬ mbrakes0 = 0) (hb1 : ¬ mbrakes1 = 0) : Met l yX5_isFree (.code yX5_isFree cX5_isFree 5 (some .boolean) :: Gw) ({ frames := 2, cells := 0, slots := 0, locals := 44 }) (va_Pc [.ref m0, .int 0, .int p1, .int p2] (mpre D [(aI, .int), (aL, .long), (aZ, .boolean)] [(m0, .inr (5, [.int mthrown, .int (nI nf), .ref ah, .int mgap, .int 2, .int mdark, .int msteps, .ref a_places, .ref a_speeds, .ref a_most, .ref a_gains, .ref a_brakes, .ref a_slows, .ref a_rides, .ref a_doors, .ref a_doorPlaces, .ref a_opened, .ref a_wide, .ref a_holds, .ref a_loads, .ref a_mostLoads, .ref a_beams, .ref a_contacts, .ref a_fires, .ref a_ways, .ref a_calls, .ref a_callCounts, .ref a_wears])), (a_places, .inl (aI, 2, .inl (arL [mplaces0, mplaces1]))), (a_speeds, .inl (aI, 2, .inl (arL [mspeeds0, mspeeds1]))), (a_brakes, .inl (aI, 2, .inl (arL [mbrakes0, mbrakes1])))] sz)) ((fun A : Nat → Prop => va_Qi (fun (r : Int32) (u : Unit) => F_m_isFree_20 mgap mplaces0 mplaces1 mspeeds1 mbrakes0 mbrakes1 p1 p2 = r ∧ nb r) (mpst D A (fun (u : Unit) => [(m0, .inr (5, [.int mthrown, .int (nI nf), .ref ah, .int mgap, .int 2, .int mdark, .int msteps, .ref a_places, .ref a_speeds, .ref a_most, .ref a_gains, .ref a_brakes, .ref a_slows, .ref a_rides, .ref a_doors, .ref a_doorPlaces, .ref a_opened, .ref a_wide, .ref a_holds, .ref a_loads, .ref a_mostLoads, .ref a_beams, .ref a_contacts, .ref a_fires, .ref a_ways, .ref a_calls, .ref a_callCounts, .ref a_wears])), (a_places, .inl (aI, 2, .inl (arL [mplaces0, mplaces1]))), (a_speeds, .inl (aI, 2, .inl (arL [mspeeds0, mspeeds1]))), (a_brakes, .inl (aI, 2, .inl (arL [mbrakes0, mbrakes1])))])) A) (va_A ([(m0, .inr (5, [.int mthrown, .int (nI nf), .ref ah, .int mgap, .int 2, .int mdark, .int msteps, .ref a_places, .ref a_speeds, .ref a_most, .ref a_gains, .ref a_brakes, .ref a_slows, .ref a_rides, .ref a_doors, .ref a_doorPlaces, .ref a_opened, .ref a_wide, .ref a_holds, .ref a_loads, .ref a_mostLoads, .ref a_beams, .ref a_contacts, .ref a_fires, .ref a_ways, .ref a_calls, .ref a_callCounts, .ref a_wears])), (a_places, .inl (aI, 2, .inl (arL [mplaces0, mplaces1]))), (a_speeds, .inl (aI, 2, .inl (arL [mspeeds0, mspeeds1]))), (a_brakes, .inl (aI, 2, .inl (arL [mbrakes0, mbrakes1])))]) sz)) 0 0 (va_A ([(m0, .inr (5, [.int mthrown, .int (nI nf), .ref ah, .int mgap, .int 2, .int mdark, .int msteps, .ref a_places, .ref a_speeds, .ref a_most, .ref a_gains, .ref a_brakes, .ref a_slows, .ref a_rides, .ref a_doors, .ref a_doorPlaces, .ref a_opened, .ref a_wide, .ref a_holds, .ref a_loads, .ref a_mostLoads, .ref a_beams, .ref a_contacts, .ref a_fires, .ref a_ways, .ref a_calls, .ref a_callCounts, .ref a_wears])), (a_places, .inl (aI, 2, .inl (arL [mplaces0, mplaces1]))), (a_speeds, .inl (aI, 2, .inl (arL [mspeeds0, mspeeds1]))), (a_brakes, .inl (aI, 2, .inl (arL [mbrakes0, mbrakes1])))]) sz) := by
  refine en (cc := cX5_isFree) (maxL := 5) (ret := (some .boolean)) (Qc := (fun A : Nat → Prop => va_Qi (fun (r : Int32) (u : Unit) => F_m_isFree_20 mgap mplaces0 mplaces1 mspeeds1 mbrakes0 mbrakes1 p1 p2 = r ∧ nb r) (mpst D A (fun (u : Unit) => [(m0, .inr (5, [.int mthrown, .int (nI nf), .ref ah, .int mgap, .int 2, .int mdark, .int msteps, .ref a_places, .ref a_speeds, .ref a_most, .ref a_gains, .ref a_brakes, .ref a_slows, .ref a_rides, .ref a_doors, .ref a_doorPlaces, .ref a_opened, .ref a_wide, .ref a_holds, .ref a_loads, .ref a_mostLoads, .ref a_beams, .ref a_contacts, .ref a_fires, .ref a_ways, .ref a_calls, .ref a_callCounts, .ref a_wears])), (a_places, .inl (aI, 2, .inl (arL [mplaces0, mplaces1]))), (a_speeds, .inl (aI, 2, .inl (arL [mspeeds0, mspeeds1]))), (a_brakes, .inl (aI, 2, .inl (arL [mbrakes0, mbrakes1])))])) A)) (by decide) rfl (Nat.le_of_ble_eq_true rfl) ?_
  intro p e s m args below meth c A ls Q hQ hx hb hr hts hown hlk hnm hml hA hS hP hK hD hE hl
  have hown : s.vm.findClass RX5 = some m.cls := hown
  have hl : lv_has ls 5 [(0, .ref m0), (1, .int 0), (2, .int p1), (3, .int p2)] := hl
  have hG := F_m_isFree_20_u mgap mplaces0 mplaces1 mspeeds1 mbrakes0 mbrakes1 p1 p2
  refine lv_aload_n hx hb dX5_isFree_0 rfl (lv_at hl 0 rfl) ?_
  refine va_get (D := D) (ci := 5) (v := .int 2) (C := RX5) (T := TX5) (N := 28) hx hb hts inX5 hown hK hP 0 rfl rfl 4 (by decide) (hts _ (mG w_640)) (fun _ h9 => h9) rfl dX5_isFree_1 ?_
  refine lv_iconst (v := 2) hx hb dX5_isFree_4 (by decide) ?_
  refine lv_icmp_lt (tgt := 21) hx hb dX5_isFree_5 (by decide) (fun c9 => absurd c9 (by decide)) (fun _ => ?_)
  refine lv_iload_n hx hb dX5_isFree_8 rfl (lv_at hl 2 rfl) ?_
  refine lv_iload_n hx hb dX5_isFree_9 rfl (lv_at hl 1 rfl) ?_
  refine lv_if_ne (tgt := 17) hx hb dX5_isFree_10 (by decide) (fun c9 => absurd c9 (by decide)) (fun _ => ?_)
  refine lv_iconst (v := 1) hx hb dX5_isFree_13 (by decide) ?_
  refine lv_goto (tgt := 18) hx hb dX5_isFree_14 (by decide) ?_
  refine lv_icmp_eq (tgt := 23) hx hb dX5_isFree_18 (by decide) (fun c_3 => ?_) (fun c_3 => ?_)
  · have hG := hG.trans (if_pos c_3)
    refine lv_aload_n hx hb dX5_isFree_23 rfl (lv_at hl 0 rfl) ?_
    refine va_get (D := D) (ci := 5) (v := .ref a_places) (C := RX5) (T := TX5) (N := 28) hx hb hts inX5 hown hK hP 0 rfl rfl 7 (by decide) (hts _ (mG w_643)) (fun _ h9 => h9) rfl dX5_isFree_24 ?_
    refine lv_iload_n hx hb dX5_isFree_27 rfl (lv_at hl 1 rfl) ?_
    refine my_iald (v := mplaces0) (k := 0) hx hb hK hP 1 0 rfl rfl (by decide) (by decide) rfl dX5_isFree_28 ?_
    refine lv_iload_n hx hb dX5_isFree_29 rfl (lv_at hl 2 rfl) ?_
    refine lv_iload_n hx hb dX5_isFree_30 rfl (lv_at hl 3 rfl) ?_
    refine lv_iload_n hx hb dX5_isFree_31 rfl (lv_at hl 3 rfl) ?_
    refine lv_aload_n hx hb dX5_isFree_32 rfl (lv_at hl 0 rfl) ?_
    refine va_get (D := D) (ci := 5) (v := .ref a_brakes) (C := RX5) (T := TX5) (N := 28) hx hb hts inX5 hown hK hP 0 rfl rfl 11 (by decide) (hts _ (mG w_647)) (fun _ h9 => h9) rfl dX5_isFree_33 ?_
    refine lv_iload_n hx hb dX5_isFree_36 rfl (lv_at hl 1 rfl) ?_
    refine my_iald (v := mbrakes0) (k := 0) hx hb hK hP 3 0 rfl rfl (by decide) (by decide) rfl dX5_isFree_37 ?_
    refine my_i (wr := [(m0, .inr (5, [.int mthrown, .int (nI nf), .ref ah, .int mgap, .int 2, .int mdark, .int msteps, .ref a_places, .ref a_speeds, .ref a_most, .ref a_gains, .ref a_brakes, .ref a_slows, .ref a_rides, .ref a_doors, .ref a_doorPlaces, .ref a_opened, .ref a_wide, .ref a_holds, .ref a_loads, .ref a_mostLoads, .ref a_beams, .ref a_contacts, .ref a_fires, .ref a_ways, .ref a_calls, .ref a_callCounts, .ref a_wears])), (a_places, .inl (aI, 2, .inl (arL [mplaces0, mplaces1]))), (a_speeds, .inl (aI, 2, .inl (arL [mspeeds0, mspeeds1]))), (a_brakes, .inl (aI, 2, .inl (arL [mbrakes0, mbrakes1])))]) [] [0, 1, 2, 3] (va_runS (As := [.int p2, .int mbrakes0]) (rest := [.int p2, .int p1, .int mplaces0]) ⟨hx, hb, hml, hown, hts⟩ (c_m_length l D aI aL aZ _ p2 mbrakes0 hb0) (va_cwS 2 hts (gS w_760 w_761 w_38 w_762) rfl rfl rfl (by decide +kernel) ⟨Nat.le_of_ble_eq_true rfl, Nat.le_of_ble_eq_true rfl⟩) (pre_of hK hP hD hS hA hE [] rfl (by decide) _) rfl rfl hl.1 rfl (lv_room (Nat.le_of_ble_eq_true rfl)) dX5_isFree_38 ⟨Nat.le_of_ble_eq_true rfl, Nat.le_of_ble_eq_true rfl⟩) hP hD hS hA rfl rfl (by decide) (by decide) (fun r_4 u_ H locs hw_5 hP hD hS => ?_)
    have hw_5 : F_m_length p2 mbrakes0 = r_4 := hw_5
    have hG := hG.trans (cb_e hw_5)
    have hP : va_P D vwCl [(m0, .inr (5, [.int mthrown, .int (nI nf), .ref ah, .int mgap, .int 2, .int mdark, .int msteps, .ref a_places, .ref a_speeds, .ref a_most, .ref a_gains, .ref a_brakes, .ref a_slows, .ref a_rides, .ref a_doors, .ref a_doorPlaces, .ref a_opened, .ref a_wide, .ref a_holds, .ref a_loads, .ref a_mostLoads, .ref a_beams, .ref a_contacts, .ref a_fires, .ref a_ways, .ref a_calls, .ref a_callCounts, .ref a_wears])), (a_places, .inl (aI, 2, .inl (arL [mplaces0, mplaces1]))), (a_speeds, .inl (aI, 2, .inl (arL [mspeeds0, mspeeds1]))), (a_brakes, .inl (aI, 2, .inl (arL [mbrakes0, mbrakes1])))] H := hP
    have hD : va_D A [(m0, .inr (5, [.int mthrown, .int (nI nf), .ref ah, .int mgap, .int 2, .int mdark, .int msteps, .ref a_places, .ref a_speeds, .ref a_most, .ref a_gains, .ref a_brakes, .ref a_slows, .ref a_rides, .ref a_doors, .ref a_doorPlaces, .ref a_opened, .ref a_wide, .ref a_holds, .ref a_loads, .ref a_mostLoads, .ref a_beams, .ref a_contacts, .ref a_fires, .ref a_ways, .ref a_calls, .ref a_callCounts, .ref a_wears])), (a_places, .inl (aI, 2, .inl (arL [mplaces0, mplaces1]))), (a_speeds, .inl (aI, 2, .inl (arL [mspeeds0, mspeeds1]))), (a_brakes, .inl (aI, 2, .inl (arL [mbrakes0, mbrakes1])))] := hD
    refine lv_iadd hx hb dX5_isFree_41 ?_
    refine lv_imul hx hb dX5_isFree_42 ?_
    refine lv_iadd hx hb dX5_isFree_43 ?_
    refine lv_istore (lv' := [(4, .int (mplaces0 + (p1 * (p2 + r_4)))), (0, .ref m0), (1, .int 0), (2, .int p1), (3, .int p2)]) hx hb dX5_isFree_44 hl (by decide) rfl (fun ls hl => ?_)
    refine lv_iload_n hx hb dX5_isFree_46 rfl (lv_at hl 2 rfl) ?_
    refine lv_if_ne (tgt := 74) hx hb dX5_isFree_47 (by decide) (fun c9 => absurd c9 (by decide)) (fun _ => ?_)
    refine lv_iload hx hb dX5_isFree_50 (lv_at hl 0 rfl) ?_
    refine lv_aload_n hx hb dX5_isFree_52 rfl (lv_at hl 1 rfl) ?_
    refine va_get (D := D) (ci := 5) (v := .int mgap) (C := RX5) (T := TX5) (N := 28) hx hb hts inX5 hown hK hP 0 rfl rfl 3 (by decide) (hts _ (mG w_639)) (fun _ h9 => h9) rfl dX5_isFree_53 ?_
    refine lv_iadd hx hb dX5_isFree_56 ?_
    refine lv_aload_n hx hb dX5_isFree_57 rfl (lv_at hl 1 rfl) ?_
    refine lv_iconst (v := 1) hx hb dX5_isFree_58 (by decide) ?_
    refine lv_iconst (v := (-1)) hx hb dX5_isFree_59 (by decide) ?_
    refine my_i (wr := []) [0, 1, 2, 3] [] (va_runV (As := [.int 1, .int (-1)]) (rest := [.int ((mplaces0 + (p1 * (p2 + r_4))) + mgap)]) ⟨hx, hb, hml, hown, hts⟩ (c_m_stands_1 l D aI aL aZ _ m0 ah a_places a_speeds a_most a_gains a_brakes a_slows a_rides a_doors a_doorPlaces a_opened a_wide a_holds a_loads a_mostLoads a_beams a_contacts a_fires a_ways a_calls a_callCounts a_wears mthrown nf mgap 2 mdark msteps mplaces0 mplaces1 mspeeds0 mspeeds1 mbrakes0 mbrakes1 (-1) hb1) (cwV 2 hts (gV w_750 w_752 w_20 w_38 w_753) rfl rfl rfl (by decide +kernel) ⟨Nat.le_of_ble_eq_true rfl, Nat.le_of_ble_eq_true rfl⟩) (prev_of hK hP hD hS hA hE [0, 1, 2, 3] rfl (by decide) (ci := 5) rfl 0 rfl _) rfl rfl hl.1 rfl (lv_room (Nat.le_of_ble_eq_true rfl)) dX5_isFree_60 ⟨Nat.le_of_ble_eq_true rfl, Nat.le_of_ble_eq_true rfl⟩) hP hD hS hA rfl rfl (by decide) (by decide) (fun r_7 u_ H locs hw_8 hP hD hS => ?_)
    have hw_8 : F_m_stands_1 mplaces1 mspeeds1 mbrakes1 (-1) = r_7 := hw_8
    have hG := hG.trans (cb_e hw_8)
    have hP : va_P D vwCl [(m0, .inr (5, [.int mthrown, .int (nI nf), .ref ah, .int mgap, .int 2, .int mdark, .int msteps, .ref a_places, .ref a_speeds, .ref a_most, .ref a_gains, .ref a_brakes, .ref a_slows, .ref a_rides, .ref a_doors, .ref a_doorPlaces, .ref a_opened, .ref a_wide, .ref a_holds, .ref a_loads, .ref a_mostLoads, .ref a_beams, .ref a_contacts, .ref a_fires, .ref a_ways, .ref a_calls, .ref a_callCounts, .ref a_wears])), (a_places, .inl (aI, 2, .inl (arL [mplaces0, mplaces1]))), (a_speeds, .inl (aI, 2, .inl (arL [mspeeds0, mspeeds1]))), (a_brakes, .inl (aI, 2, .inl (arL [mbrakes0, mbrakes1])))] H := hP
    have hD : va_D A [(m0, .inr (5, [.int mthrown, .int (nI nf), .ref ah, .int mgap, .int 2, .int mdark, .int msteps, .ref a_places, .ref a_speeds, .ref a_most, .ref a_gains, .ref a_brakes, .ref a_slows, .ref a_rides, .ref a_doors, .ref a_doorPlaces, .ref a_opened, .ref a_wide, .ref a_holds, .ref a_loads, .ref a_mostLoads, .ref a_beams, .ref a_contacts, .ref a_fires, .ref a_ways, .ref a_calls, .ref a_callCounts, .ref a_wears])), (a_places, .inl (aI, 2, .inl (arL [mplaces0, mplaces1]))), (a_speeds, .inl (aI, 2, .inl (arL [mspeeds0, mspeeds1]))), (a_brakes, .inl (aI, 2, .inl (arL [mbrakes0, mbrakes1])))] := hD
    refine lv_icmp_gt (tgt := 70) hx hb dX5_isFree_63 (by decide) (fun c_9 => ?_) (fun c_9 => ?_)
    · have hG := hG.trans (if_pos c_9)
      refine lv_iconst (v := 0) hx hb dX5_isFree_70 (by decide) ?_
      refine lv_goto (tgt := 95) hx hb dX5_isFree_71 (by decide) ?_
      have hP := hP.sub (ws' := [(m0, .inr (5, [.int mthrown, .int (nI nf), .ref ah, .int mgap, .int 2, .int mdark, .int msteps, .ref a_places, .ref a_speeds, .ref a_most, .ref a_gains, .ref a_brakes, .ref a_slows, .ref a_rides, .ref a_doors, .ref a_doorPlaces, .ref a_opened, .ref a_wide, .ref a_holds, .ref a_loads, .ref a_mostLoads, .ref a_beams, .ref a_contacts, .ref a_fires, .ref a_ways, .ref a_calls, .ref a_callCounts, .ref a_wears])), (a_places, .inl (aI, 2, .inl (arL [mplaces0, mplaces1]))), (a_speeds, .inl (aI, 2, .inl (arL [mspeeds0, mspeeds1]))), (a_brakes, .inl (aI, 2, .inl (arL [mbrakes0, mbrakes1])))]) [0, 1, 2, 3] rfl
      have hD := hD.sub (ws' := [(m0, .inr (5, [.int mthrown, .int (nI nf), .ref ah, .int mgap, .int 2, .int mdark, .int msteps, .ref a_places, .ref a_speeds, .ref a_most, .ref a_gains, .ref a_brakes, .ref a_slows, .ref a_rides, .ref a_doors, .ref a_doorPlaces, .ref a_opened, .ref a_wide, .ref a_holds, .ref a_loads, .ref a_mostLoads, .ref a_beams, .ref a_contacts, .ref a_fires, .ref a_ways, .ref a_calls, .ref a_callCounts, .ref a_wears])), (a_places, .inl (aI, 2, .inl (arL [mplaces0, mplaces1]))), (a_speeds, .inl (aI, 2, .inl (arL [mspeeds0, mspeeds1]))), (a_brakes, .inl (aI, 2, .inl (arL [mbrakes0, mbrakes1])))]) [0, 1, 2, 3] (by decide) rfl
      exact rt_z hQ hx hb hr (nb_n (Or.inl rfl)) () ⟨hG, (Or.inl rfl)⟩ hP hD hS (Nat.le_of_ble_eq_true rfl) (Nat.le_of_ble_eq_true rfl) dX5_isFree_95 hlk
    · have hG := hG.trans (if_neg c_9)
      refine lv_iconst (v := 1) hx hb dX5_isFree_66 (by decide) ?_
      refine lv_goto (tgt := 95) hx hb dX5_isFree_67 (by decide) ?_
      have hP := hP.sub (ws' := [(m0, .inr (5, [.int mthrown, .int (nI nf), .ref ah, .int mgap, .int 2, .int mdark, .int msteps, .ref a_places, .ref a_speeds, .ref a_most, .ref a_gains, .ref a_brakes, .ref a_slows, .ref a_rides, .ref a_doors, .ref a_doorPlaces, .ref a_opened, .ref a_wide, .ref a_holds, .ref a_loads, .ref a_mostLoads, .ref a_beams, .ref a_contacts, .ref a_fires, .ref a_ways, .ref a_calls, .ref a_callCounts, .ref a_wears])), (a_places, .inl (aI, 2, .inl (arL [mplaces0, mplaces1]))), (a_speeds, .inl (aI, 2, .inl (arL [mspeeds0, mspeeds1]))), (a_brakes, .inl (aI, 2, .inl (arL [mbrakes0, mbrakes1])))]) [0, 1, 2, 3] rfl
      have hD := hD.sub (ws' := [(m0, .inr (5, [.int mthrown, .int (nI nf), .ref ah, .int mgap, .int 2, .int mdark, .int msteps, .ref a_places, .ref a_speeds, .ref a_most, .ref a_gains, .ref a_brakes, .ref a_slows, .ref a_rides, .ref a_doors, .ref a_doorPlaces, .ref a_opened, .ref a_wide, .ref a_holds, .ref a_loads, .ref a_mostLoads, .ref a_beams, .ref a_contacts, .ref a_fires, .ref a_ways, .ref a_calls, .ref a_callCounts, .ref a_wears])), (a_places, .inl (aI, 2, .inl (arL [mplaces0, mplaces1]))), (a_speeds, .inl (aI, 2, .inl (arL [mspeeds0, mspeeds1]))), (a_brakes, .inl (aI, 2, .inl (arL [mbrakes0, mbrakes1])))]) [0, 1, 2, 3] (by decide) rfl
      exact rt_z hQ hx hb hr (nb_n (Or.inr rfl)) () ⟨hG, (Or.inr rfl)⟩ hP hD hS (Nat.le_of_ble_eq_true rfl) (Nat.le_of_ble_eq_true rfl) dX5_isFree_95 hlk
  · have hG := hG.trans (if_neg c_3)
    refine lv_iconst (v := 1) hx hb dX5_isFree_21 (by decide) ?_
    have hP := hP.sub (ws' := [(m0, .inr (5, [.int mthrown, .int (nI nf), .ref ah, .int mgap, .int 2, .int mdark, .int msteps, .ref a_places, .ref a_speeds, .ref a_most, .ref a_gains, .ref a_brakes, .ref a_slows, .ref a_rides, .ref a_doors, .ref a_doorPlaces, .ref a_opened, .ref a_wide, .ref a_holds, .ref a_loads, .ref a_mostLoads, .ref a_beams, .ref a_contacts, .ref a_fires, .ref a_ways, .ref a_calls, .ref a_callCounts, .ref a_wears])), (a_places, .inl (aI, 2, .inl (arL [mplaces0, mplaces1]))), (a_speeds, .inl (aI, 2, .inl (arL [mspeeds0, mspeeds1]))), (a_brakes, .inl (aI, 2, .inl (arL [mbrakes0, mbrakes1])))]) [0, 1, 2, 3] rfl
    have hD := hD.sub (ws' := [(m0, .inr (5, [.int mthrown, .int (nI nf), .ref ah, .int mgap, .int 2, .int mdark, .int msteps, .ref a_places, .ref a_speeds, .ref a_most, .ref a_gains, .ref a_brakes, .ref a_slows, .ref a_rides, .ref a_doors, .ref a_doorPlaces, .ref a_opened, .ref a_wide, .ref a_holds, .ref a_loads, .ref a_mostLoads, .ref a_beams, .ref a_contacts, .ref a_fires, .ref a_ways, .ref a_calls, .ref a_callCounts, .ref a_wears])), (a_places, .inl (aI, 2, .inl (arL [mplaces0, mplaces1]))), (a_speeds, .inl (aI, 2, .inl (arL [mspeeds0, mspeeds1]))), (a_brakes, .inl (aI, 2, .inl (arL [mbrakes0, mbrakes1])))]) [0, 1, 2, 3] (by decide) rfl
    exact rt_z hQ hx hb hr (nb_n (Or.inr rfl)) () ⟨hG, (Or.inr rfl)⟩ hP hD hS (Nat.le_of_ble_eq_true rfl) (Nat.le_of_ble_eq_true rfl) dX5_isFree_22 hlk
def F_m_isFree_21 (mgap : Int32) (mplaces0 : Int32) (mplaces1 : Int32) (mspeeds0 : Int32) (mbrakes0 : Int32) (mbrakes1 : Int32) (p1 : Int32) (p2 : Int32) : Int32 :=
  if p1 = (-1) then
    cb (F_m_length p2 mbrakes1) fun r_4 =>
      cb (F_m_stands_0 mplaces0 mspeeds0 mbrakes0 1) fun r_7 =>
        if ((mplaces1 + (p1 * (p2 + r_4))) - mgap) < r_7 then
          0
        else
          1
  else
    1
theorem F_m_isFree_21_u (mgap : Int32) (mplaces0 : Int32) (mplaces1 : Int32) (mspeeds0 : Int32) (mbrakes0 : Int32) (mbrakes1 : Int32) (p1 : Int32) (p2 : Int32) : F_m_isFree_21 mgap mplaces0 mplaces1 mspeeds0 mbrakes0 mbrakes1 p1 p2 =
  (if p1 = (-1) then
    cb (F_m_length p2 mbrakes1) fun r_4 =>
      cb (F_m_stands_0 mplaces0 mspeeds0 mbrakes0 1) fun r_7 =>
        if ((mplaces1 + (p1 * (p2 + r_4))) - mgap) < r_7 then
          0
        else
          1
  else
    1) := rfl
set_option maxHeartbeats 4000000 in
set_option maxRecDepth 100000 in
theorem c_m_isFree_21 (l : Launch) (D : va_G) (aI aL aZ : ClassId) (sz : Nat) (m0 : Nat) (ah : Nat) (a_places : Nat) (a_speeds : Nat) (a_most : Nat) (a_gains : Nat) (a_brakes : Nat) (a_slows : Nat) (a_rides : Nat) (a_doors : Nat) (a_doorPlaces : Nat) (a_opened : Nat) (a_wide : Nat) (a_holds : Nat) (a_loads : Nat) (a_mostLoads : Nat) (a_beams : Nat) (a_contacts : Nat) (a_fires : Nat) (a_ways : Nat) (a_calls : Nat) (a_callCounts : Nat) (a_wears : Nat) (mthrown : Int32) (nf : Nat) (mgap : Int32) (mdark : Int32) (msteps : Int32) (mplaces0 : Int32) (mplaces1 : Int32) (mspeeds0 : Int32) (mspeeds1 : Int32) (mbrakes0 : Int32) (mbrakes1 : Int32) (p1 : Int32) (p2 : Int32) (hb0 : ¬ mbrakes0 = 0) (hb1 : ¬ mbrakes1 = 0) : Met l yX5_isFree (.code yX5_isFree cX5_isFree 5 (some .boolean) :: Gw) ({ frames := 2, cells := 0, slots := 0, locals := 44 }) (va_Pc [.ref m0, .int 1, .int p1, .int p2] (mpre D [(aI, .int), (aL, .long), (aZ, .boolean)] [(m0, .inr (5, [.int mthrown, .int (nI nf), .ref ah, .int mgap, .int 2, .int mdark, .int msteps, .ref a_places, .ref a_speeds, .ref a_most, .ref a_gains, .ref a_brakes, .ref a_slows, .ref a_rides, .ref a_doors, .ref a_doorPlaces, .ref a_opened, .ref a_wide, .ref a_holds, .ref a_loads, .ref a_mostLoads, .ref a_beams, .ref a_contacts, .ref a_fires, .ref a_ways, .ref a_calls, .ref a_callCounts, .ref a_wears])), (a_places, .inl (aI, 2, .inl (arL [mplaces0, mplaces1]))), (a_speeds, .inl (aI, 2, .inl (arL [mspeeds0, mspeeds1]))), (a_brakes, .inl (aI, 2, .inl (arL [mbrakes0, mbrakes1])))] sz)) ((fun A : Nat → Prop => va_Qi (fun (r : Int32) (u : Unit) => F_m_isFree_21 mgap mplaces0 mplaces1 mspeeds0 mbrakes0 mbrakes1 p1 p2 = r ∧ nb r) (mpst D A (fun (u : Unit) => [(m0, .inr (5, [.int mthrown, .int (nI nf), .ref ah, .int mgap, .int 2, .int mdark, .int msteps, .ref a_places, .ref a_speeds, .ref a_most, .ref a_gains, .ref a_brakes, .ref a_slows, .ref a_rides, .ref a_doors, .ref a_doorPlaces, .ref a_opened, .ref a_wide, .ref a_holds, .ref a_loads, .ref a_mostLoads, .ref a_beams, .ref a_contacts, .ref a_fires, .ref a_ways, .ref a_calls, .ref a_callCounts, .ref a_wears])), (a_places, .inl (aI, 2, .inl (arL [mplaces0, mplaces1]))), (a_speeds, .inl (aI, 2, .inl (arL [mspeeds0, mspeeds1]))), (a_brakes, .inl (aI, 2, .inl (arL [mbrakes0, mbrakes1])))])) A) (va_A ([(m0, .inr (5, [.int mthrown, .int (nI nf), .ref ah, .int mgap, .int 2, .int mdark, .int msteps, .ref a_places, .ref a_speeds, .ref a_most, .ref a_gains, .ref a_brakes, .ref a_slows, .ref a_rides, .ref a_doors, .ref a_doorPlaces, .ref a_opened, .ref a_wide, .ref a_holds, .ref a_loads, .ref a_mostLoads, .ref a_beams, .ref a_contacts, .ref a_fires, .ref a_ways, .ref a_calls, .ref a_callCounts, .ref a_wears])), (a_places, .inl (aI, 2, .inl (arL [mplaces0, mplaces1]))), (a_speeds, .inl (aI, 2, .inl (arL [mspeeds0, mspeeds1]))), (a_brakes, .inl (aI, 2, .inl (arL [mbrakes0, mbrakes1])))]) sz)) 0 0 (va_A ([(m0, .inr (5, [.int mthrown, .int (nI nf), .ref ah, .int mgap, .int 2, .int mdark, .int msteps, .ref a_places, .ref a_speeds, .ref a_most, .ref a_gains, .ref a_brakes, .ref a_slows, .ref a_rides, .ref a_doors, .ref a_doorPlaces, .ref a_opened, .ref a_wide, .ref a_holds, .ref a_loads, .ref a_mostLoads, .ref a_beams, .ref a_contacts, .ref a_fires, .ref a_ways, .ref a_calls, .ref a_callCounts, .ref a_wears])), (a_places, .inl (aI, 2, .inl (arL [mplaces0, mplaces1]))), (a_speeds, .inl (aI, 2, .inl (arL [mspeeds0, mspeeds1]))), (a_brakes, .inl (aI, 2, .inl (arL [mbrakes0, mbrakes1])))]) sz) := by
  refine en (cc := cX5_isFree) (maxL := 5) (ret := (some .boolean)) (Qc := (fun A : Nat → Prop => va_Qi (fun (r : Int32) (u : Unit) => F_m_isFree_21 mgap mplaces0 mplaces1 mspeeds0 mbrakes0 mbrakes1 p1 p2 = r ∧ nb r) (mpst D A (fun (u : Unit) => [(m0, .inr (5, [.int mthrown, .int (nI nf), .ref ah, .int mgap, .int 2, .int mdark, .int msteps, .ref a_places, .ref a_speeds, .ref a_most, .ref a_gains, .ref a_brakes, .ref a_slows, .ref a_rides, .ref a_doors, .ref a_doorPlaces, .ref a_opened, .ref a_wide, .ref a_holds, .ref a_loads, .ref a_mostLoads, .ref a_beams, .ref a_contacts, .ref a_fires, .ref a_ways, .ref a_calls, .ref a_callCounts, .ref a_wears])), (a_places, .inl (aI, 2, .inl (arL [mplaces0, mplaces1]))), (a_speeds, .inl (aI, 2, .inl (arL [mspeeds0, mspeeds1]))), (a_brakes, .inl (aI, 2, .inl (arL [mbrakes0, mbrakes1])))])) A)) (by decide) rfl (Nat.le_of_ble_eq_true rfl) ?_
  intro p e s m args below meth c A ls Q hQ hx hb hr hts hown hlk hnm hml hA hS hP hK hD hE hl
  have hown : s.vm.findClass RX5 = some m.cls := hown
  have hl : lv_has ls 5 [(0, .ref m0), (1, .int 1), (2, .int p1), (3, .int p2)] := hl
  have hG := F_m_isFree_21_u mgap mplaces0 mplaces1 mspeeds0 mbrakes0 mbrakes1 p1 p2
  refine lv_aload_n hx hb dX5_isFree_0 rfl (lv_at hl 0 rfl) ?_
  refine va_get (D := D) (ci := 5) (v := .int 2) (C := RX5) (T := TX5) (N := 28) hx hb hts inX5 hown hK hP 0 rfl rfl 4 (by decide) (hts _ (mG w_640)) (fun _ h9 => h9) rfl dX5_isFree_1 ?_
  refine lv_iconst (v := 2) hx hb dX5_isFree_4 (by decide) ?_
  refine lv_icmp_lt (tgt := 21) hx hb dX5_isFree_5 (by decide) (fun c9 => absurd c9 (by decide)) (fun _ => ?_)
  refine lv_iload_n hx hb dX5_isFree_8 rfl (lv_at hl 2 rfl) ?_
  refine lv_iload_n hx hb dX5_isFree_9 rfl (lv_at hl 1 rfl) ?_
  refine lv_if_ne (tgt := 17) hx hb dX5_isFree_10 (by decide) (fun _ => ?_) (fun c9 => absurd c9 (by decide))
  refine lv_iconst (v := (-1)) hx hb dX5_isFree_17 (by decide) ?_
  refine lv_icmp_eq (tgt := 23) hx hb dX5_isFree_18 (by decide) (fun c_3 => ?_) (fun c_3 => ?_)
  · have hG := hG.trans (if_pos c_3)
    refine lv_aload_n hx hb dX5_isFree_23 rfl (lv_at hl 0 rfl) ?_
    refine va_get (D := D) (ci := 5) (v := .ref a_places) (C := RX5) (T := TX5) (N := 28) hx hb hts inX5 hown hK hP 0 rfl rfl 7 (by decide) (hts _ (mG w_643)) (fun _ h9 => h9) rfl dX5_isFree_24 ?_
    refine lv_iload_n hx hb dX5_isFree_27 rfl (lv_at hl 1 rfl) ?_
    refine my_iald (v := mplaces1) (k := 1) hx hb hK hP 1 0 rfl rfl (by decide) (by decide) rfl dX5_isFree_28 ?_
    refine lv_iload_n hx hb dX5_isFree_29 rfl (lv_at hl 2 rfl) ?_
    refine lv_iload_n hx hb dX5_isFree_30 rfl (lv_at hl 3 rfl) ?_
    refine lv_iload_n hx hb dX5_isFree_31 rfl (lv_at hl 3 rfl) ?_
    refine lv_aload_n hx hb dX5_isFree_32 rfl (lv_at hl 0 rfl) ?_
    refine va_get (D := D) (ci := 5) (v := .ref a_brakes) (C := RX5) (T := TX5) (N := 28) hx hb hts inX5 hown hK hP 0 rfl rfl 11 (by decide) (hts _ (mG w_647)) (fun _ h9 => h9) rfl dX5_isFree_33 ?_
    refine lv_iload_n hx hb dX5_isFree_36 rfl (lv_at hl 1 rfl) ?_
    refine my_iald (v := mbrakes1) (k := 1) hx hb hK hP 3 0 rfl rfl (by decide) (by decide) rfl dX5_isFree_37 ?_
    refine my_i (wr := [(m0, .inr (5, [.int mthrown, .int (nI nf), .ref ah, .int mgap, .int 2, .int mdark, .int msteps, .ref a_places, .ref a_speeds, .ref a_most, .ref a_gains, .ref a_brakes, .ref a_slows, .ref a_rides, .ref a_doors, .ref a_doorPlaces, .ref a_opened, .ref a_wide, .ref a_holds, .ref a_loads, .ref a_mostLoads, .ref a_beams, .ref a_contacts, .ref a_fires, .ref a_ways, .ref a_calls, .ref a_callCounts, .ref a_wears])), (a_places, .inl (aI, 2, .inl (arL [mplaces0, mplaces1]))), (a_speeds, .inl (aI, 2, .inl (arL [mspeeds0, mspeeds1]))), (a_brakes, .inl (aI, 2, .inl (arL [mbrakes0, mbrakes1])))]) [] [0, 1, 2, 3] (va_runS (As := [.int p2, .int mbrakes1]) (rest := [.int p2, .int p1, .int mplaces1]) ⟨hx, hb, hml, hown, hts⟩ (c_m_length l D aI aL aZ _ p2 mbrakes1 hb1) (va_cwS 2 hts (gS w_760 w_761 w_38 w_762) rfl rfl rfl (by decide +kernel) ⟨Nat.le_of_ble_eq_true rfl, Nat.le_of_ble_eq_true rfl⟩) (pre_of hK hP hD hS hA hE [] rfl (by decide) _) rfl rfl hl.1 rfl (lv_room (Nat.le_of_ble_eq_true rfl)) dX5_isFree_38 ⟨Nat.le_of_ble_eq_true rfl, Nat.le_of_ble_eq_true rfl⟩) hP hD hS hA rfl rfl (by decide) (by decide) (fun r_4 u_ H locs hw_5 hP hD hS => ?_)
    have hw_5 : F_m_length p2 mbrakes1 = r_4 := hw_5
    have hG := hG.trans (cb_e hw_5)
    have hP : va_P D vwCl [(m0, .inr (5, [.int mthrown, .int (nI nf), .ref ah, .int mgap, .int 2, .int mdark, .int msteps, .ref a_places, .ref a_speeds, .ref a_most, .ref a_gains, .ref a_brakes, .ref a_slows, .ref a_rides, .ref a_doors, .ref a_doorPlaces, .ref a_opened, .ref a_wide, .ref a_holds, .ref a_loads, .ref a_mostLoads, .ref a_beams, .ref a_contacts, .ref a_fires, .ref a_ways, .ref a_calls, .ref a_callCounts, .ref a_wears])), (a_places, .inl (aI, 2, .inl (arL [mplaces0, mplaces1]))), (a_speeds, .inl (aI, 2, .inl (arL [mspeeds0, mspeeds1]))), (a_brakes, .inl (aI, 2, .inl (arL [mbrakes0, mbrakes1])))] H := hP
    have hD : va_D A [(m0, .inr (5, [.int mthrown, .int (nI nf), .ref ah, .int mgap, .int 2, .int mdark, .int msteps, .ref a_places, .ref a_speeds, .ref a_most, .ref a_gains, .ref a_brakes, .ref a_slows, .ref a_rides, .ref a_doors, .ref a_doorPlaces, .ref a_opened, .ref a_wide, .ref a_holds, .ref a_loads, .ref a_mostLoads, .ref a_beams, .ref a_contacts, .ref a_fires, .ref a_ways, .ref a_calls, .ref a_callCounts, .ref a_wears])), (a_places, .inl (aI, 2, .inl (arL [mplaces0, mplaces1]))), (a_speeds, .inl (aI, 2, .inl (arL [mspeeds0, mspeeds1]))), (a_brakes, .inl (aI, 2, .inl (arL [mbrakes0, mbrakes1])))] := hD
    refine lv_iadd hx hb dX5_isFree_41 ?_
    refine lv_imul hx hb dX5_isFree_42 ?_
    refine lv_iadd hx hb dX5_isFree_43 ?_
    refine lv_istore (lv' := [(4, .int (mplaces1 + (p1 * (p2 + r_4)))), (0, .ref m0), (1, .int 1), (2, .int p1), (3, .int p2)]) hx hb dX5_isFree_44 hl (by decide) rfl (fun ls hl => ?_)
    refine lv_iload_n hx hb dX5_isFree_46 rfl (lv_at hl 2 rfl) ?_
    refine lv_if_ne (tgt := 74) hx hb dX5_isFree_47 (by decide) (fun _ => ?_) (fun c9 => absurd c9 (by decide))
    refine lv_iload hx hb dX5_isFree_74 (lv_at hl 0 rfl) ?_
    refine lv_aload_n hx hb dX5_isFree_76 rfl (lv_at hl 1 rfl) ?_
    refine va_get (D := D) (ci := 5) (v := .int mgap) (C := RX5) (T := TX5) (N := 28) hx hb hts inX5 hown hK hP 0 rfl rfl 3 (by decide) (hts _ (mG w_639)) (fun _ h9 => h9) rfl dX5_isFree_77 ?_
    refine lv_isub hx hb dX5_isFree_80 ?_
    refine lv_aload_n hx hb dX5_isFree_81 rfl (lv_at hl 1 rfl) ?_
    refine lv_iconst (v := 0) hx hb dX5_isFree_82 (by decide) ?_
    refine lv_iconst (v := 1) hx hb dX5_isFree_83 (by decide) ?_
    refine my_i (wr := []) [0, 1, 2, 3] [] (va_runV (As := [.int 0, .int 1]) (rest := [.int ((mplaces1 + (p1 * (p2 + r_4))) - mgap)]) ⟨hx, hb, hml, hown, hts⟩ (c_m_stands_0 l D aI aL aZ _ m0 ah a_places a_speeds a_most a_gains a_brakes a_slows a_rides a_doors a_doorPlaces a_opened a_wide a_holds a_loads a_mostLoads a_beams a_contacts a_fires a_ways a_calls a_callCounts a_wears mthrown nf mgap 2 mdark msteps mplaces0 mplaces1 mspeeds0 mspeeds1 mbrakes0 mbrakes1 1 hb0) (cwV 2 hts (gV w_750 w_752 w_20 w_38 w_753) rfl rfl rfl (by decide +kernel) ⟨Nat.le_of_ble_eq_true rfl, Nat.le_of_ble_eq_true rfl⟩) (prev_of hK hP hD hS hA hE [0, 1, 2, 3] rfl (by decide) (ci := 5) rfl 0 rfl _) rfl rfl hl.1 rfl (lv_room (Nat.le_of_ble_eq_true rfl)) dX5_isFree_84 ⟨Nat.le_of_ble_eq_true rfl, Nat.le_of_ble_eq_true rfl⟩) hP hD hS hA rfl rfl (by decide) (by decide) (fun r_7 u_ H locs hw_8 hP hD hS => ?_)
    have hw_8 : F_m_stands_0 mplaces0 mspeeds0 mbrakes0 1 = r_7 := hw_8
    have hG := hG.trans (cb_e hw_8)
    have hP : va_P D vwCl [(m0, .inr (5, [.int mthrown, .int (nI nf), .ref ah, .int mgap, .int 2, .int mdark, .int msteps, .ref a_places, .ref a_speeds, .ref a_most, .ref a_gains, .ref a_brakes, .ref a_slows, .ref a_rides, .ref a_doors, .ref a_doorPlaces, .ref a_opened, .ref a_wide, .ref a_holds, .ref a_loads, .ref a_mostLoads, .ref a_beams, .ref a_contacts, .ref a_fires, .ref a_ways, .ref a_calls, .ref a_callCounts, .ref a_wears])), (a_places, .inl (aI, 2, .inl (arL [mplaces0, mplaces1]))), (a_speeds, .inl (aI, 2, .inl (arL [mspeeds0, mspeeds1]))), (a_brakes, .inl (aI, 2, .inl (arL [mbrakes0, mbrakes1])))] H := hP
    have hD : va_D A [(m0, .inr (5, [.int mthrown, .int (nI nf), .ref ah, .int mgap, .int 2, .int mdark, .int msteps, .ref a_places, .ref a_speeds, .ref a_most, .ref a_gains, .ref a_brakes, .ref a_slows, .ref a_rides, .ref a_doors, .ref a_doorPlaces, .ref a_opened, .ref a_wide, .ref a_holds, .ref a_loads, .ref a_mostLoads, .ref a_beams, .ref a_contacts, .ref a_fires, .ref a_ways, .ref a_calls, .ref a_callCounts, .ref a_wears])), (a_places, .inl (aI, 2, .inl (arL [mplaces0, mplaces1]))), (a_speeds, .inl (aI, 2, .inl (arL [mspeeds0, mspeeds1]))), (a_brakes, .inl (aI, 2, .inl (arL [mbrakes0, mbrakes1])))] := hD
    refine lv_icmp_lt (tgt := 94) hx hb dX5_isFree_87 (by decide) (fun c_9 => ?_) (fun c_9 => ?_)
    · have hG := hG.trans (if_pos c_9)
      refine lv_iconst (v := 0) hx hb dX5_isFree_94 (by decide) ?_
      have hP := hP.sub (ws' := [(m0, .inr (5, [.int mthrown, .int (nI nf), .ref ah, .int mgap, .int 2, .int mdark, .int msteps, .ref a_places, .ref a_speeds, .ref a_most, .ref a_gains, .ref a_brakes, .ref a_slows, .ref a_rides, .ref a_doors, .ref a_doorPlaces, .ref a_opened, .ref a_wide, .ref a_holds, .ref a_loads, .ref a_mostLoads, .ref a_beams, .ref a_contacts, .ref a_fires, .ref a_ways, .ref a_calls, .ref a_callCounts, .ref a_wears])), (a_places, .inl (aI, 2, .inl (arL [mplaces0, mplaces1]))), (a_speeds, .inl (aI, 2, .inl (arL [mspeeds0, mspeeds1]))), (a_brakes, .inl (aI, 2, .inl (arL [mbrakes0, mbrakes1])))]) [0, 1, 2, 3] rfl
      have hD := hD.sub (ws' := [(m0, .inr (5, [.int mthrown, .int (nI nf), .ref ah, .int mgap, .int 2, .int mdark, .int msteps, .ref a_places, .ref a_speeds, .ref a_most, .ref a_gains, .ref a_brakes, .ref a_slows, .ref a_rides, .ref a_doors, .ref a_doorPlaces, .ref a_opened, .ref a_wide, .ref a_holds, .ref a_loads, .ref a_mostLoads, .ref a_beams, .ref a_contacts, .ref a_fires, .ref a_ways, .ref a_calls, .ref a_callCounts, .ref a_wears])), (a_places, .inl (aI, 2, .inl (arL [mplaces0, mplaces1]))), (a_speeds, .inl (aI, 2, .inl (arL [mspeeds0, mspeeds1]))), (a_brakes, .inl (aI, 2, .inl (arL [mbrakes0, mbrakes1])))]) [0, 1, 2, 3] (by decide) rfl
      exact rt_z hQ hx hb hr (nb_n (Or.inl rfl)) () ⟨hG, (Or.inl rfl)⟩ hP hD hS (Nat.le_of_ble_eq_true rfl) (Nat.le_of_ble_eq_true rfl) dX5_isFree_95 hlk
    · have hG := hG.trans (if_neg c_9)
      refine lv_iconst (v := 1) hx hb dX5_isFree_90 (by decide) ?_
      refine lv_goto (tgt := 95) hx hb dX5_isFree_91 (by decide) ?_
      have hP := hP.sub (ws' := [(m0, .inr (5, [.int mthrown, .int (nI nf), .ref ah, .int mgap, .int 2, .int mdark, .int msteps, .ref a_places, .ref a_speeds, .ref a_most, .ref a_gains, .ref a_brakes, .ref a_slows, .ref a_rides, .ref a_doors, .ref a_doorPlaces, .ref a_opened, .ref a_wide, .ref a_holds, .ref a_loads, .ref a_mostLoads, .ref a_beams, .ref a_contacts, .ref a_fires, .ref a_ways, .ref a_calls, .ref a_callCounts, .ref a_wears])), (a_places, .inl (aI, 2, .inl (arL [mplaces0, mplaces1]))), (a_speeds, .inl (aI, 2, .inl (arL [mspeeds0, mspeeds1]))), (a_brakes, .inl (aI, 2, .inl (arL [mbrakes0, mbrakes1])))]) [0, 1, 2, 3] rfl
      have hD := hD.sub (ws' := [(m0, .inr (5, [.int mthrown, .int (nI nf), .ref ah, .int mgap, .int 2, .int mdark, .int msteps, .ref a_places, .ref a_speeds, .ref a_most, .ref a_gains, .ref a_brakes, .ref a_slows, .ref a_rides, .ref a_doors, .ref a_doorPlaces, .ref a_opened, .ref a_wide, .ref a_holds, .ref a_loads, .ref a_mostLoads, .ref a_beams, .ref a_contacts, .ref a_fires, .ref a_ways, .ref a_calls, .ref a_callCounts, .ref a_wears])), (a_places, .inl (aI, 2, .inl (arL [mplaces0, mplaces1]))), (a_speeds, .inl (aI, 2, .inl (arL [mspeeds0, mspeeds1]))), (a_brakes, .inl (aI, 2, .inl (arL [mbrakes0, mbrakes1])))]) [0, 1, 2, 3] (by decide) rfl
      exact rt_z hQ hx hb hr (nb_n (Or.inr rfl)) () ⟨hG, (Or.inr rfl)⟩ hP hD hS (Nat.le_of_ble_eq_true rfl) (Nat.le_of_ble_eq_true rfl) dX5_isFree_95 hlk
  · have hG := hG.trans (if_neg c_3)
    refine lv_iconst (v := 1) hx hb dX5_isFree_21 (by decide) ?_
    have hP := hP.sub (ws' := [(m0, .inr (5, [.int mthrown, .int (nI nf), .ref ah, .int mgap, .int 2, .int mdark, .int msteps, .ref a_places, .ref a_speeds, .ref a_most, .ref a_gains, .ref a_brakes, .ref a_slows, .ref a_rides, .ref a_doors, .ref a_doorPlaces, .ref a_opened, .ref a_wide, .ref a_holds, .ref a_loads, .ref a_mostLoads, .ref a_beams, .ref a_contacts, .ref a_fires, .ref a_ways, .ref a_calls, .ref a_callCounts, .ref a_wears])), (a_places, .inl (aI, 2, .inl (arL [mplaces0, mplaces1]))), (a_speeds, .inl (aI, 2, .inl (arL [mspeeds0, mspeeds1]))), (a_brakes, .inl (aI, 2, .inl (arL [mbrakes0, mbrakes1])))]) [0, 1, 2, 3] rfl
    have hD := hD.sub (ws' := [(m0, .inr (5, [.int mthrown, .int (nI nf), .ref ah, .int mgap, .int 2, .int mdark, .int msteps, .ref a_places, .ref a_speeds, .ref a_most, .ref a_gains, .ref a_brakes, .ref a_slows, .ref a_rides, .ref a_doors, .ref a_doorPlaces, .ref a_opened, .ref a_wide, .ref a_holds, .ref a_loads, .ref a_mostLoads, .ref a_beams, .ref a_contacts, .ref a_fires, .ref a_ways, .ref a_calls, .ref a_callCounts, .ref a_wears])), (a_places, .inl (aI, 2, .inl (arL [mplaces0, mplaces1]))), (a_speeds, .inl (aI, 2, .inl (arL [mspeeds0, mspeeds1]))), (a_brakes, .inl (aI, 2, .inl (arL [mbrakes0, mbrakes1])))]) [0, 1, 2, 3] (by decide) rfl
    exact rt_z hQ hx hb hr (nb_n (Or.inr rfl)) () ⟨hG, (Or.inr rfl)⟩ hP hD hS (Nat.le_of_ble_eq_true rfl) (Nat.le_of_ble_eq_true rfl) dX5_isFree_22 hlk
theorem dX5_mode_0 : decode cX5_mode 0 = .ok (.aload_n 0, 1) := by decide +kernel
theorem dX5_mode_1 : decode cX5_mode 1 = .ok (.getfield 63, 3) := by decide +kernel
theorem dX5_mode_4 : decode cX5_mode 4 = .ok (.iload_n 1, 1) := by decide +kernel
theorem dX5_mode_5 : decode cX5_mode 5 = .ok (.iaload, 1) := by decide +kernel
theorem dX5_mode_6 : decode cX5_mode 6 = .ok (.ifCond .eq 7, 3) := by decide +kernel
theorem dX5_mode_9 : decode cX5_mode 9 = .ok (.iconst 1, 1) := by decide +kernel
theorem dX5_mode_10 : decode cX5_mode 10 = .ok (.goto 43, 3) := by decide +kernel
theorem dX5_mode_13 : decode cX5_mode 13 = .ok (.aload_n 0, 1) := by decide +kernel
theorem dX5_mode_14 : decode cX5_mode 14 = .ok (.getfield 104, 3) := by decide +kernel
theorem dX5_mode_17 : decode cX5_mode 17 = .ok (.ifCond .eq 7, 3) := by decide +kernel
theorem dX5_mode_20 : decode cX5_mode 20 = .ok (.iconst 2, 1) := by decide +kernel
theorem dX5_mode_21 : decode cX5_mode 21 = .ok (.goto 32, 3) := by decide +kernel
theorem dX5_mode_24 : decode cX5_mode 24 = .ok (.aload_n 0, 1) := by decide +kernel
theorem dX5_mode_25 : decode cX5_mode 25 = .ok (.getfield 66, 3) := by decide +kernel
theorem dX5_mode_28 : decode cX5_mode 28 = .ok (.iload_n 1, 1) := by decide +kernel
theorem dX5_mode_29 : decode cX5_mode 29 = .ok (.iaload, 1) := by decide +kernel
theorem dX5_mode_30 : decode cX5_mode 30 = .ok (.iconst (-1), 1) := by decide +kernel
theorem dX5_mode_31 : decode cX5_mode 31 = .ok (.if_icmp .eq 7, 3) := by decide +kernel
theorem dX5_mode_34 : decode cX5_mode 34 = .ok (.iconst 3, 1) := by decide +kernel
theorem dX5_mode_35 : decode cX5_mode 35 = .ok (.goto 18, 3) := by decide +kernel
theorem dX5_mode_38 : decode cX5_mode 38 = .ok (.aload_n 0, 1) := by decide +kernel
theorem dX5_mode_39 : decode cX5_mode 39 = .ok (.getfield 69, 3) := by decide +kernel
theorem dX5_mode_42 : decode cX5_mode 42 = .ok (.iload_n 1, 1) := by decide +kernel
theorem dX5_mode_43 : decode cX5_mode 43 = .ok (.iaload, 1) := by decide +kernel
theorem dX5_mode_44 : decode cX5_mode 44 = .ok (.iconst 2, 1) := by decide +kernel
theorem dX5_mode_45 : decode cX5_mode 45 = .ok (.if_icmp .eq 7, 3) := by decide +kernel
theorem dX5_mode_48 : decode cX5_mode 48 = .ok (.iconst 4, 1) := by decide +kernel
theorem dX5_mode_49 : decode cX5_mode 49 = .ok (.goto 4, 3) := by decide +kernel
theorem dX5_mode_52 : decode cX5_mode 52 = .ok (.iconst 0, 1) := by decide +kernel
theorem dX5_mode_53 : decode cX5_mode 53 = .ok (.ireturn, 1) := by decide +kernel
def F_m_mode_0 (mdark : Int32) (mcontacts0 : Int32) (mfires0 : Int32) (mways0 : Int32) : Int32 :=
  if mcontacts0 = 0 then
    if mdark = 0 then
      if mfires0 = (-1) then
        if mways0 = 2 then
          0
        else
          4
      else
        3
    else
      2
  else
    1
theorem F_m_mode_0_u (mdark : Int32) (mcontacts0 : Int32) (mfires0 : Int32) (mways0 : Int32) : F_m_mode_0 mdark mcontacts0 mfires0 mways0 =
  (if mcontacts0 = 0 then
    if mdark = 0 then
      if mfires0 = (-1) then
        if mways0 = 2 then
          0
        else
          4
      else
        3
    else
      2
  else
    1) := rfl
set_option maxHeartbeats 4000000 in
set_option maxRecDepth 100000 in
theorem c_m_mode_0 (l : Launch) (D : va_G) (aI aL aZ : ClassId) (sz : Nat) (m0 : Nat) (ah : Nat) (a_places : Nat) (a_speeds : Nat) (a_most : Nat) (a_gains : Nat) (a_brakes : Nat) (a_slows : Nat) (a_rides : Nat) (a_doors : Nat) (a_doorPlaces : Nat) (a_opened : Nat) (a_wide : Nat) (a_holds : Nat) (a_loads : Nat) (a_mostLoads : Nat) (a_beams : Nat) (a_contacts : Nat) (a_fires : Nat) (a_ways : Nat) (a_calls : Nat) (a_callCounts : Nat) (a_wears : Nat) (mthrown : Int32) (nf : Nat) (mgap : Int32) (mcars : Int32) (mdark : Int32) (msteps : Int32) (mcontacts0 : Int32) (mcontacts1 : Int32) (mfires0 : Int32) (mfires1 : Int32) (mways0 : Int32) (mways1 : Int32) : Met l yX5_mode (.code yX5_mode cX5_mode 2 (some .int) :: Gw) ({ frames := 0, cells := 0, slots := 0, locals := 0 }) (va_Pc [.ref m0, .int 0] (mpre D [(aI, .int), (aL, .long), (aZ, .boolean)] [(m0, .inr (5, [.int mthrown, .int (nI nf), .ref ah, .int mgap, .int mcars, .int mdark, .int msteps, .ref a_places, .ref a_speeds, .ref a_most, .ref a_gains, .ref a_brakes, .ref a_slows, .ref a_rides, .ref a_doors, .ref a_doorPlaces, .ref a_opened, .ref a_wide, .ref a_holds, .ref a_loads, .ref a_mostLoads, .ref a_beams, .ref a_contacts, .ref a_fires, .ref a_ways, .ref a_calls, .ref a_callCounts, .ref a_wears])), (a_contacts, .inl (aI, 2, .inl (arL [mcontacts0, mcontacts1]))), (a_fires, .inl (aI, 2, .inl (arL [mfires0, mfires1]))), (a_ways, .inl (aI, 2, .inl (arL [mways0, mways1])))] sz)) ((fun A : Nat → Prop => va_Qi (fun (r : Int32) (u : Unit) => F_m_mode_0 mdark mcontacts0 mfires0 mways0 = r) (mpst D A (fun (u : Unit) => [(m0, .inr (5, [.int mthrown, .int (nI nf), .ref ah, .int mgap, .int mcars, .int mdark, .int msteps, .ref a_places, .ref a_speeds, .ref a_most, .ref a_gains, .ref a_brakes, .ref a_slows, .ref a_rides, .ref a_doors, .ref a_doorPlaces, .ref a_opened, .ref a_wide, .ref a_holds, .ref a_loads, .ref a_mostLoads, .ref a_beams, .ref a_contacts, .ref a_fires, .ref a_ways, .ref a_calls, .ref a_callCounts, .ref a_wears])), (a_contacts, .inl (aI, 2, .inl (arL [mcontacts0, mcontacts1]))), (a_fires, .inl (aI, 2, .inl (arL [mfires0, mfires1]))), (a_ways, .inl (aI, 2, .inl (arL [mways0, mways1])))])) A) (va_A ([(m0, .inr (5, [.int mthrown, .int (nI nf), .ref ah, .int mgap, .int mcars, .int mdark, .int msteps, .ref a_places, .ref a_speeds, .ref a_most, .ref a_gains, .ref a_brakes, .ref a_slows, .ref a_rides, .ref a_doors, .ref a_doorPlaces, .ref a_opened, .ref a_wide, .ref a_holds, .ref a_loads, .ref a_mostLoads, .ref a_beams, .ref a_contacts, .ref a_fires, .ref a_ways, .ref a_calls, .ref a_callCounts, .ref a_wears])), (a_contacts, .inl (aI, 2, .inl (arL [mcontacts0, mcontacts1]))), (a_fires, .inl (aI, 2, .inl (arL [mfires0, mfires1]))), (a_ways, .inl (aI, 2, .inl (arL [mways0, mways1])))]) sz)) 0 0 (va_A ([(m0, .inr (5, [.int mthrown, .int (nI nf), .ref ah, .int mgap, .int mcars, .int mdark, .int msteps, .ref a_places, .ref a_speeds, .ref a_most, .ref a_gains, .ref a_brakes, .ref a_slows, .ref a_rides, .ref a_doors, .ref a_doorPlaces, .ref a_opened, .ref a_wide, .ref a_holds, .ref a_loads, .ref a_mostLoads, .ref a_beams, .ref a_contacts, .ref a_fires, .ref a_ways, .ref a_calls, .ref a_callCounts, .ref a_wears])), (a_contacts, .inl (aI, 2, .inl (arL [mcontacts0, mcontacts1]))), (a_fires, .inl (aI, 2, .inl (arL [mfires0, mfires1]))), (a_ways, .inl (aI, 2, .inl (arL [mways0, mways1])))]) sz) := by
  refine en (cc := cX5_mode) (maxL := 2) (ret := (some .int)) (Qc := (fun A : Nat → Prop => va_Qi (fun (r : Int32) (u : Unit) => F_m_mode_0 mdark mcontacts0 mfires0 mways0 = r) (mpst D A (fun (u : Unit) => [(m0, .inr (5, [.int mthrown, .int (nI nf), .ref ah, .int mgap, .int mcars, .int mdark, .int msteps, .ref a_places, .ref a_speeds, .ref a_most, .ref a_gains, .ref a_brakes, .ref a_slows, .ref a_rides, .ref a_doors, .ref a_doorPlaces, .ref a_opened, .ref a_wide, .ref a_holds, .ref a_loads, .ref a_mostLoads, .ref a_beams, .ref a_contacts, .ref a_fires, .ref a_ways, .ref a_calls, .ref a_callCounts, .ref a_wears])), (a_contacts, .inl (aI, 2, .inl (arL [mcontacts0, mcontacts1]))), (a_fires, .inl (aI, 2, .inl (arL [mfires0, mfires1]))), (a_ways, .inl (aI, 2, .inl (arL [mways0, mways1])))])) A)) (by decide) rfl (Nat.le_of_ble_eq_true rfl) ?_
  intro p e s m args below meth c A ls Q hQ hx hb hr hts hown hlk hnm hml hA hS hP hK hD hE hl
  have hown : s.vm.findClass RX5 = some m.cls := hown
  have hl : lv_has ls 2 [(0, .ref m0), (1, .int 0)] := hl
  have hG := F_m_mode_0_u mdark mcontacts0 mfires0 mways0
  refine lv_aload_n hx hb dX5_mode_0 rfl (lv_at hl 0 rfl) ?_
  refine va_get (D := D) (ci := 5) (v := .ref a_contacts) (C := RX5) (T := TX5) (N := 28) hx hb hts inX5 hown hK hP 0 rfl rfl 22 (by decide) (hts _ (mG w_658)) (fun _ h9 => h9) rfl dX5_mode_1 ?_
  refine lv_iload_n hx hb dX5_mode_4 rfl (lv_at hl 1 rfl) ?_
  refine my_iald (v := mcontacts0) (k := 0) hx hb hK hP 1 0 rfl rfl (by decide) (by decide) rfl dX5_mode_5 ?_
  refine lv_if_eq (tgt := 13) hx hb dX5_mode_6 (by decide) (fun c_1 => ?_) (fun c_1 => ?_)
  · have hG := hG.trans (if_pos c_1)
    refine lv_aload_n hx hb dX5_mode_13 rfl (lv_at hl 0 rfl) ?_
    refine va_get (D := D) (ci := 5) (v := .int mdark) (C := RX5) (T := TX5) (N := 28) hx hb hts inX5 hown hK hP 0 rfl rfl 5 (by decide) (hts _ (mG w_641)) (fun _ h9 => h9) rfl dX5_mode_14 ?_
    refine lv_if_eq (tgt := 24) hx hb dX5_mode_17 (by decide) (fun c_2 => ?_) (fun c_2 => ?_)
    · have hG := hG.trans (if_pos c_2)
      refine lv_aload_n hx hb dX5_mode_24 rfl (lv_at hl 0 rfl) ?_
      refine va_get (D := D) (ci := 5) (v := .ref a_fires) (C := RX5) (T := TX5) (N := 28) hx hb hts inX5 hown hK hP 0 rfl rfl 23 (by decide) (hts _ (mG w_659)) (fun _ h9 => h9) rfl dX5_mode_25 ?_
      refine lv_iload_n hx hb dX5_mode_28 rfl (lv_at hl 1 rfl) ?_
      refine my_iald (v := mfires0) (k := 0) hx hb hK hP 2 0 rfl rfl (by decide) (by decide) rfl dX5_mode_29 ?_
      refine lv_iconst (v := (-1)) hx hb dX5_mode_30 (by decide) ?_
      refine lv_icmp_eq (tgt := 38) hx hb dX5_mode_31 (by decide) (fun c_3 => ?_) (fun c_3 => ?_)
      · have hG := hG.trans (if_pos c_3)
        refine lv_aload_n hx hb dX5_mode_38 rfl (lv_at hl 0 rfl) ?_
        refine va_get (D := D) (ci := 5) (v := .ref a_ways) (C := RX5) (T := TX5) (N := 28) hx hb hts inX5 hown hK hP 0 rfl rfl 24 (by decide) (hts _ (mG w_660)) (fun _ h9 => h9) rfl dX5_mode_39 ?_
        refine lv_iload_n hx hb dX5_mode_42 rfl (lv_at hl 1 rfl) ?_
        refine my_iald (v := mways0) (k := 0) hx hb hK hP 3 0 rfl rfl (by decide) (by decide) rfl dX5_mode_43 ?_
        refine lv_iconst (v := 2) hx hb dX5_mode_44 (by decide) ?_
        refine lv_icmp_eq (tgt := 52) hx hb dX5_mode_45 (by decide) (fun c_4 => ?_) (fun c_4 => ?_)
        · have hG := hG.trans (if_pos c_4)
          refine lv_iconst (v := 0) hx hb dX5_mode_52 (by decide) ?_
          have hP := hP.sub (ws' := [(m0, .inr (5, [.int mthrown, .int (nI nf), .ref ah, .int mgap, .int mcars, .int mdark, .int msteps, .ref a_places, .ref a_speeds, .ref a_most, .ref a_gains, .ref a_brakes, .ref a_slows, .ref a_rides, .ref a_doors, .ref a_doorPlaces, .ref a_opened, .ref a_wide, .ref a_holds, .ref a_loads, .ref a_mostLoads, .ref a_beams, .ref a_contacts, .ref a_fires, .ref a_ways, .ref a_calls, .ref a_callCounts, .ref a_wears])), (a_contacts, .inl (aI, 2, .inl (arL [mcontacts0, mcontacts1]))), (a_fires, .inl (aI, 2, .inl (arL [mfires0, mfires1]))), (a_ways, .inl (aI, 2, .inl (arL [mways0, mways1])))]) [0, 1, 2, 3] rfl
          have hD := hD.sub (ws' := [(m0, .inr (5, [.int mthrown, .int (nI nf), .ref ah, .int mgap, .int mcars, .int mdark, .int msteps, .ref a_places, .ref a_speeds, .ref a_most, .ref a_gains, .ref a_brakes, .ref a_slows, .ref a_rides, .ref a_doors, .ref a_doorPlaces, .ref a_opened, .ref a_wide, .ref a_holds, .ref a_loads, .ref a_mostLoads, .ref a_beams, .ref a_contacts, .ref a_fires, .ref a_ways, .ref a_calls, .ref a_callCounts, .ref a_wears])), (a_contacts, .inl (aI, 2, .inl (arL [mcontacts0, mcontacts1]))), (a_fires, .inl (aI, 2, .inl (arL [mfires0, mfires1]))), (a_ways, .inl (aI, 2, .inl (arL [mways0, mways1])))]) [0, 1, 2, 3] (by decide) rfl
          exact rt_i hQ hx hb hr () hG hP hD hS (Nat.le_of_ble_eq_true rfl) (Nat.le_of_ble_eq_true rfl) dX5_mode_53 hlk
        · have hG := hG.trans (if_neg c_4)
          refine lv_iconst (v := 4) hx hb dX5_mode_48 (by decide) ?_
          refine lv_goto (tgt := 53) hx hb dX5_mode_49 (by decide) ?_
          have hP := hP.sub (ws' := [(m0, .inr (5, [.int mthrown, .int (nI nf), .ref ah, .int mgap, .int mcars, .int mdark, .int msteps, .ref a_places, .ref a_speeds, .ref a_most, .ref a_gains, .ref a_brakes, .ref a_slows, .ref a_rides, .ref a_doors, .ref a_doorPlaces, .ref a_opened, .ref a_wide, .ref a_holds, .ref a_loads, .ref a_mostLoads, .ref a_beams, .ref a_contacts, .ref a_fires, .ref a_ways, .ref a_calls, .ref a_callCounts, .ref a_wears])), (a_contacts, .inl (aI, 2, .inl (arL [mcontacts0, mcontacts1]))), (a_fires, .inl (aI, 2, .inl (arL [mfires0, mfires1]))), (a_ways, .inl (aI, 2, .inl (arL [mways0, mways1])))]) [0, 1, 2, 3] rfl
          have hD := hD.sub (ws' := [(m0, .inr (5, [.int mthrown, .int (nI nf), .ref ah, .int mgap, .int mcars, .int mdark, .int msteps, .ref a_places, .ref a_speeds, .ref a_most, .ref a_gains, .ref a_brakes, .ref a_slows, .ref a_rides, .ref a_doors, .ref a_doorPlaces, .ref a_opened, .ref a_wide, .ref a_holds, .ref a_loads, .ref a_mostLoads, .ref a_beams, .ref a_contacts, .ref a_fires, .ref a_ways, .ref a_calls, .ref a_callCounts, .ref a_wears])), (a_contacts, .inl (aI, 2, .inl (arL [mcontacts0, mcontacts1]))), (a_fires, .inl (aI, 2, .inl (arL [mfires0, mfires1]))), (a_ways, .inl (aI, 2, .inl (arL [mways0, mways1])))]) [0, 1, 2, 3] (by decide) rfl
          exact rt_i hQ hx hb hr () hG hP hD hS (Nat.le_of_ble_eq_true rfl) (Nat.le_of_ble_eq_true rfl) dX5_mode_53 hlk
      · have hG := hG.trans (if_neg c_3)
        refine lv_iconst (v := 3) hx hb dX5_mode_34 (by decide) ?_
        refine lv_goto (tgt := 53) hx hb dX5_mode_35 (by decide) ?_
        have hP := hP.sub (ws' := [(m0, .inr (5, [.int mthrown, .int (nI nf), .ref ah, .int mgap, .int mcars, .int mdark, .int msteps, .ref a_places, .ref a_speeds, .ref a_most, .ref a_gains, .ref a_brakes, .ref a_slows, .ref a_rides, .ref a_doors, .ref a_doorPlaces, .ref a_opened, .ref a_wide, .ref a_holds, .ref a_loads, .ref a_mostLoads, .ref a_beams, .ref a_contacts, .ref a_fires, .ref a_ways, .ref a_calls, .ref a_callCounts, .ref a_wears])), (a_contacts, .inl (aI, 2, .inl (arL [mcontacts0, mcontacts1]))), (a_fires, .inl (aI, 2, .inl (arL [mfires0, mfires1]))), (a_ways, .inl (aI, 2, .inl (arL [mways0, mways1])))]) [0, 1, 2, 3] rfl
        have hD := hD.sub (ws' := [(m0, .inr (5, [.int mthrown, .int (nI nf), .ref ah, .int mgap, .int mcars, .int mdark, .int msteps, .ref a_places, .ref a_speeds, .ref a_most, .ref a_gains, .ref a_brakes, .ref a_slows, .ref a_rides, .ref a_doors, .ref a_doorPlaces, .ref a_opened, .ref a_wide, .ref a_holds, .ref a_loads, .ref a_mostLoads, .ref a_beams, .ref a_contacts, .ref a_fires, .ref a_ways, .ref a_calls, .ref a_callCounts, .ref a_wears])), (a_contacts, .inl (aI, 2, .inl (arL [mcontacts0, mcontacts1]))), (a_fires, .inl (aI, 2, .inl (arL [mfires0, mfires1]))), (a_ways, .inl (aI, 2, .inl (arL [mways0, mways1])))]) [0, 1, 2, 3] (by decide) rfl
        exact rt_i hQ hx hb hr () hG hP hD hS (Nat.le_of_ble_eq_true rfl) (Nat.le_of_ble_eq_true rfl) dX5_mode_53 hlk
    · have hG := hG.trans (if_neg c_2)
      refine lv_iconst (v := 2) hx hb dX5_mode_20 (by decide) ?_
      refine lv_goto (tgt := 53) hx hb dX5_mode_21 (by decide) ?_
      have hP := hP.sub (ws' := [(m0, .inr (5, [.int mthrown, .int (nI nf), .ref ah, .int mgap, .int mcars, .int mdark, .int msteps, .ref a_places, .ref a_speeds, .ref a_most, .ref a_gains, .ref a_brakes, .ref a_slows, .ref a_rides, .ref a_doors, .ref a_doorPlaces, .ref a_opened, .ref a_wide, .ref a_holds, .ref a_loads, .ref a_mostLoads, .ref a_beams, .ref a_contacts, .ref a_fires, .ref a_ways, .ref a_calls, .ref a_callCounts, .ref a_wears])), (a_contacts, .inl (aI, 2, .inl (arL [mcontacts0, mcontacts1]))), (a_fires, .inl (aI, 2, .inl (arL [mfires0, mfires1]))), (a_ways, .inl (aI, 2, .inl (arL [mways0, mways1])))]) [0, 1, 2, 3] rfl
      have hD := hD.sub (ws' := [(m0, .inr (5, [.int mthrown, .int (nI nf), .ref ah, .int mgap, .int mcars, .int mdark, .int msteps, .ref a_places, .ref a_speeds, .ref a_most, .ref a_gains, .ref a_brakes, .ref a_slows, .ref a_rides, .ref a_doors, .ref a_doorPlaces, .ref a_opened, .ref a_wide, .ref a_holds, .ref a_loads, .ref a_mostLoads, .ref a_beams, .ref a_contacts, .ref a_fires, .ref a_ways, .ref a_calls, .ref a_callCounts, .ref a_wears])), (a_contacts, .inl (aI, 2, .inl (arL [mcontacts0, mcontacts1]))), (a_fires, .inl (aI, 2, .inl (arL [mfires0, mfires1]))), (a_ways, .inl (aI, 2, .inl (arL [mways0, mways1])))]) [0, 1, 2, 3] (by decide) rfl
      exact rt_i hQ hx hb hr () hG hP hD hS (Nat.le_of_ble_eq_true rfl) (Nat.le_of_ble_eq_true rfl) dX5_mode_53 hlk
  · have hG := hG.trans (if_neg c_1)
    refine lv_iconst (v := 1) hx hb dX5_mode_9 (by decide) ?_
    refine lv_goto (tgt := 53) hx hb dX5_mode_10 (by decide) ?_
    have hP := hP.sub (ws' := [(m0, .inr (5, [.int mthrown, .int (nI nf), .ref ah, .int mgap, .int mcars, .int mdark, .int msteps, .ref a_places, .ref a_speeds, .ref a_most, .ref a_gains, .ref a_brakes, .ref a_slows, .ref a_rides, .ref a_doors, .ref a_doorPlaces, .ref a_opened, .ref a_wide, .ref a_holds, .ref a_loads, .ref a_mostLoads, .ref a_beams, .ref a_contacts, .ref a_fires, .ref a_ways, .ref a_calls, .ref a_callCounts, .ref a_wears])), (a_contacts, .inl (aI, 2, .inl (arL [mcontacts0, mcontacts1]))), (a_fires, .inl (aI, 2, .inl (arL [mfires0, mfires1]))), (a_ways, .inl (aI, 2, .inl (arL [mways0, mways1])))]) [0, 1, 2, 3] rfl
    have hD := hD.sub (ws' := [(m0, .inr (5, [.int mthrown, .int (nI nf), .ref ah, .int mgap, .int mcars, .int mdark, .int msteps, .ref a_places, .ref a_speeds, .ref a_most, .ref a_gains, .ref a_brakes, .ref a_slows, .ref a_rides, .ref a_doors, .ref a_doorPlaces, .ref a_opened, .ref a_wide, .ref a_holds, .ref a_loads, .ref a_mostLoads, .ref a_beams, .ref a_contacts, .ref a_fires, .ref a_ways, .ref a_calls, .ref a_callCounts, .ref a_wears])), (a_contacts, .inl (aI, 2, .inl (arL [mcontacts0, mcontacts1]))), (a_fires, .inl (aI, 2, .inl (arL [mfires0, mfires1]))), (a_ways, .inl (aI, 2, .inl (arL [mways0, mways1])))]) [0, 1, 2, 3] (by decide) rfl
    exact rt_i hQ hx hb hr () hG hP hD hS (Nat.le_of_ble_eq_true rfl) (Nat.le_of_ble_eq_true rfl) dX5_mode_53 hlk
def F_m_mode_1 (mdark : Int32) (mcontacts1 : Int32) (mfires1 : Int32) (mways1 : Int32) : Int32 :=
  if mcontacts1 = 0 then
    if mdark = 0 then
      if mfires1 = (-1) then
        if mways1 = 2 then
          0
        else
          4
      else
        3
    else
      2
  else
    1
theorem F_m_mode_1_u (mdark : Int32) (mcontacts1 : Int32) (mfires1 : Int32) (mways1 : Int32) : F_m_mode_1 mdark mcontacts1 mfires1 mways1 =
  (if mcontacts1 = 0 then
    if mdark = 0 then
      if mfires1 = (-1) then
        if mways1 = 2 then
          0
        else
          4
      else
        3
    else
      2
  else
    1) := rfl
set_option maxHeartbeats 4000000 in
set_option maxRecDepth 100000 in
theorem c_m_mode_1 (l : Launch) (D : va_G) (aI aL aZ : ClassId) (sz : Nat) (m0 : Nat) (ah : Nat) (a_places : Nat) (a_speeds : Nat) (a_most : Nat) (a_gains : Nat) (a_brakes : Nat) (a_slows : Nat) (a_rides : Nat) (a_doors : Nat) (a_doorPlaces : Nat) (a_opened : Nat) (a_wide : Nat) (a_holds : Nat) (a_loads : Nat) (a_mostLoads : Nat) (a_beams : Nat) (a_contacts : Nat) (a_fires : Nat) (a_ways : Nat) (a_calls : Nat) (a_callCounts : Nat) (a_wears : Nat) (mthrown : Int32) (nf : Nat) (mgap : Int32) (mcars : Int32) (mdark : Int32) (msteps : Int32) (mcontacts0 : Int32) (mcontacts1 : Int32) (mfires0 : Int32) (mfires1 : Int32) (mways0 : Int32) (mways1 : Int32) : Met l yX5_mode (.code yX5_mode cX5_mode 2 (some .int) :: Gw) ({ frames := 0, cells := 0, slots := 0, locals := 0 }) (va_Pc [.ref m0, .int 1] (mpre D [(aI, .int), (aL, .long), (aZ, .boolean)] [(m0, .inr (5, [.int mthrown, .int (nI nf), .ref ah, .int mgap, .int mcars, .int mdark, .int msteps, .ref a_places, .ref a_speeds, .ref a_most, .ref a_gains, .ref a_brakes, .ref a_slows, .ref a_rides, .ref a_doors, .ref a_doorPlaces, .ref a_opened, .ref a_wide, .ref a_holds, .ref a_loads, .ref a_mostLoads, .ref a_beams, .ref a_contacts, .ref a_fires, .ref a_ways, .ref a_calls, .ref a_callCounts, .ref a_wears])), (a_contacts, .inl (aI, 2, .inl (arL [mcontacts0, mcontacts1]))), (a_fires, .inl (aI, 2, .inl (arL [mfires0, mfires1]))), (a_ways, .inl (aI, 2, .inl (arL [mways0, mways1])))] sz)) ((fun A : Nat → Prop => va_Qi (fun (r : Int32) (u : Unit) => F_m_mode_1 mdark mcontacts1 mfires1 mways1 = r) (mpst D A (fun (u : Unit) => [(m0, .inr (5, [.int mthrown, .int (nI nf), .ref ah, .int mgap, .int mcars, .int mdark, .int msteps, .ref a_places, .ref a_speeds, .ref a_most, .ref a_gains, .ref a_brakes, .ref a_slows, .ref a_rides, .ref a_doors, .ref a_doorPlaces, .ref a_opened, .ref a_wide, .ref a_holds, .ref a_loads, .ref a_mostLoads, .ref a_beams, .ref a_contacts, .ref a_fires, .ref a_ways, .ref a_calls, .ref a_callCounts, .ref a_wears])), (a_contacts, .inl (aI, 2, .inl (arL [mcontacts0, mcontacts1]))), (a_fires, .inl (aI, 2, .inl (arL [mfires0, mfires1]))), (a_ways, .inl (aI, 2, .inl (arL [mways0, mways1])))])) A) (va_A ([(m0, .inr (5, [.int mthrown, .int (nI nf), .ref ah, .int mgap, .int mcars, .int mdark, .int msteps, .ref a_places, .ref a_speeds, .ref a_most, .ref a_gains, .ref a_brakes, .ref a_slows, .ref a_rides, .ref a_doors, .ref a_doorPlaces, .ref a_opened, .ref a_wide, .ref a_holds, .ref a_loads, .ref a_mostLoads, .ref a_beams, .ref a_contacts, .ref a_fires, .ref a_ways, .ref a_calls, .ref a_callCounts, .ref a_wears])), (a_contacts, .inl (aI, 2, .inl (arL [mcontacts0, mcontacts1]))), (a_fires, .inl (aI, 2, .inl (arL [mfires0, mfires1]))), (a_ways, .inl (aI, 2, .inl (arL [mways0, mways1])))]) sz)) 0 0 (va_A ([(m0, .inr (5, [.int mthrown, .int (nI nf), .ref ah, .int mgap, .int mcars, .int mdark, .int msteps, .ref a_places, .ref a_speeds, .ref a_most, .ref a_gains, .ref a_brakes, .ref a_slows, .ref a_rides, .ref a_doors, .ref a_doorPlaces, .ref a_opened, .ref a_wide, .ref a_holds, .ref a_loads, .ref a_mostLoads, .ref a_beams, .ref a_contacts, .ref a_fires, .ref a_ways, .ref a_calls, .ref a_callCounts, .ref a_wears])), (a_contacts, .inl (aI, 2, .inl (arL [mcontacts0, mcontacts1]))), (a_fires, .inl (aI, 2, .inl (arL [mfires0, mfires1]))), (a_ways, .inl (aI, 2, .inl (arL [mways0, mways1])))]) sz) := by
  refine en (cc := cX5_mode) (maxL := 2) (ret := (some .int)) (Qc := (fun A : Nat → Prop => va_Qi (fun (r : Int32) (u : Unit) => F_m_mode_1 mdark mcontacts1 mfires1 mways1 = r) (mpst D A (fun (u : Unit) => [(m0, .inr (5, [.int mthrown, .int (nI nf), .ref ah, .int mgap, .int mcars, .int mdark, .int msteps, .ref a_places, .ref a_speeds, .ref a_most, .ref a_gains, .ref a_brakes, .ref a_slows, .ref a_rides, .ref a_doors, .ref a_doorPlaces, .ref a_opened, .ref a_wide, .ref a_holds, .ref a_loads, .ref a_mostLoads, .ref a_beams, .ref a_contacts, .ref a_fires, .ref a_ways, .ref a_calls, .ref a_callCounts, .ref a_wears])), (a_contacts, .inl (aI, 2, .inl (arL [mcontacts0, mcontacts1]))), (a_fires, .inl (aI, 2, .inl (arL [mfires0, mfires1]))), (a_ways, .inl (aI, 2, .inl (arL [mways0, mways1])))])) A)) (by decide) rfl (Nat.le_of_ble_eq_true rfl) ?_
  intro p e s m args below meth c A ls Q hQ hx hb hr hts hown hlk hnm hml hA hS hP hK hD hE hl
  have hown : s.vm.findClass RX5 = some m.cls := hown
  have hl : lv_has ls 2 [(0, .ref m0), (1, .int 1)] := hl
  have hG := F_m_mode_1_u mdark mcontacts1 mfires1 mways1
  refine lv_aload_n hx hb dX5_mode_0 rfl (lv_at hl 0 rfl) ?_
  refine va_get (D := D) (ci := 5) (v := .ref a_contacts) (C := RX5) (T := TX5) (N := 28) hx hb hts inX5 hown hK hP 0 rfl rfl 22 (by decide) (hts _ (mG w_658)) (fun _ h9 => h9) rfl dX5_mode_1 ?_
  refine lv_iload_n hx hb dX5_mode_4 rfl (lv_at hl 1 rfl) ?_
  refine my_iald (v := mcontacts1) (k := 1) hx hb hK hP 1 0 rfl rfl (by decide) (by decide) rfl dX5_mode_5 ?_
  refine lv_if_eq (tgt := 13) hx hb dX5_mode_6 (by decide) (fun c_1 => ?_) (fun c_1 => ?_)
  · have hG := hG.trans (if_pos c_1)
    refine lv_aload_n hx hb dX5_mode_13 rfl (lv_at hl 0 rfl) ?_
    refine va_get (D := D) (ci := 5) (v := .int mdark) (C := RX5) (T := TX5) (N := 28) hx hb hts inX5 hown hK hP 0 rfl rfl 5 (by decide) (hts _ (mG w_641)) (fun _ h9 => h9) rfl dX5_mode_14 ?_
    refine lv_if_eq (tgt := 24) hx hb dX5_mode_17 (by decide) (fun c_2 => ?_) (fun c_2 => ?_)
    · have hG := hG.trans (if_pos c_2)
      refine lv_aload_n hx hb dX5_mode_24 rfl (lv_at hl 0 rfl) ?_
      refine va_get (D := D) (ci := 5) (v := .ref a_fires) (C := RX5) (T := TX5) (N := 28) hx hb hts inX5 hown hK hP 0 rfl rfl 23 (by decide) (hts _ (mG w_659)) (fun _ h9 => h9) rfl dX5_mode_25 ?_
      refine lv_iload_n hx hb dX5_mode_28 rfl (lv_at hl 1 rfl) ?_
      refine my_iald (v := mfires1) (k := 1) hx hb hK hP 2 0 rfl rfl (by decide) (by decide) rfl dX5_mode_29 ?_
      refine lv_iconst (v := (-1)) hx hb dX5_mode_30 (by decide) ?_
      refine lv_icmp_eq (tgt := 38) hx hb dX5_mode_31 (by decide) (fun c_3 => ?_) (fun c_3 => ?_)
      · have hG := hG.trans (if_pos c_3)
        refine lv_aload_n hx hb dX5_mode_38 rfl (lv_at hl 0 rfl) ?_
        refine va_get (D := D) (ci := 5) (v := .ref a_ways) (C := RX5) (T := TX5) (N := 28) hx hb hts inX5 hown hK hP 0 rfl rfl 24 (by decide) (hts _ (mG w_660)) (fun _ h9 => h9) rfl dX5_mode_39 ?_
        refine lv_iload_n hx hb dX5_mode_42 rfl (lv_at hl 1 rfl) ?_
        refine my_iald (v := mways1) (k := 1) hx hb hK hP 3 0 rfl rfl (by decide) (by decide) rfl dX5_mode_43 ?_
        refine lv_iconst (v := 2) hx hb dX5_mode_44 (by decide) ?_
        refine lv_icmp_eq (tgt := 52) hx hb dX5_mode_45 (by decide) (fun c_4 => ?_) (fun c_4 => ?_)
        · have hG := hG.trans (if_pos c_4)
          refine lv_iconst (v := 0) hx hb dX5_mode_52 (by decide) ?_
          have hP := hP.sub (ws' := [(m0, .inr (5, [.int mthrown, .int (nI nf), .ref ah, .int mgap, .int mcars, .int mdark, .int msteps, .ref a_places, .ref a_speeds, .ref a_most, .ref a_gains, .ref a_brakes, .ref a_slows, .ref a_rides, .ref a_doors, .ref a_doorPlaces, .ref a_opened, .ref a_wide, .ref a_holds, .ref a_loads, .ref a_mostLoads, .ref a_beams, .ref a_contacts, .ref a_fires, .ref a_ways, .ref a_calls, .ref a_callCounts, .ref a_wears])), (a_contacts, .inl (aI, 2, .inl (arL [mcontacts0, mcontacts1]))), (a_fires, .inl (aI, 2, .inl (arL [mfires0, mfires1]))), (a_ways, .inl (aI, 2, .inl (arL [mways0, mways1])))]) [0, 1, 2, 3] rfl
          have hD := hD.sub (ws' := [(m0, .inr (5, [.int mthrown, .int (nI nf), .ref ah, .int mgap, .int mcars, .int mdark, .int msteps, .ref a_places, .ref a_speeds, .ref a_most, .ref a_gains, .ref a_brakes, .ref a_slows, .ref a_rides, .ref a_doors, .ref a_doorPlaces, .ref a_opened, .ref a_wide, .ref a_holds, .ref a_loads, .ref a_mostLoads, .ref a_beams, .ref a_contacts, .ref a_fires, .ref a_ways, .ref a_calls, .ref a_callCounts, .ref a_wears])), (a_contacts, .inl (aI, 2, .inl (arL [mcontacts0, mcontacts1]))), (a_fires, .inl (aI, 2, .inl (arL [mfires0, mfires1]))), (a_ways, .inl (aI, 2, .inl (arL [mways0, mways1])))]) [0, 1, 2, 3] (by decide) rfl
          exact rt_i hQ hx hb hr () hG hP hD hS (Nat.le_of_ble_eq_true rfl) (Nat.le_of_ble_eq_true rfl) dX5_mode_53 hlk
        · have hG := hG.trans (if_neg c_4)
          refine lv_iconst (v := 4) hx hb dX5_mode_48 (by decide) ?_
          refine lv_goto (tgt := 53) hx hb dX5_mode_49 (by decide) ?_
          have hP := hP.sub (ws' := [(m0, .inr (5, [.int mthrown, .int (nI nf), .ref ah, .int mgap, .int mcars, .int mdark, .int msteps, .ref a_places, .ref a_speeds, .ref a_most, .ref a_gains, .ref a_brakes, .ref a_slows, .ref a_rides, .ref a_doors, .ref a_doorPlaces, .ref a_opened, .ref a_wide, .ref a_holds, .ref a_loads, .ref a_mostLoads, .ref a_beams, .ref a_contacts, .ref a_fires, .ref a_ways, .ref a_calls, .ref a_callCounts, .ref a_wears])), (a_contacts, .inl (aI, 2, .inl (arL [mcontacts0, mcontacts1]))), (a_fires, .inl (aI, 2, .inl (arL [mfires0, mfires1]))), (a_ways, .inl (aI, 2, .inl (arL [mways0, mways1])))]) [0, 1, 2, 3] rfl
          have hD := hD.sub (ws' := [(m0, .inr (5, [.int mthrown, .int (nI nf), .ref ah, .int mgap, .int mcars, .int mdark, .int msteps, .ref a_places, .ref a_speeds, .ref a_most, .ref a_gains, .ref a_brakes, .ref a_slows, .ref a_rides, .ref a_doors, .ref a_doorPlaces, .ref a_opened, .ref a_wide, .ref a_holds, .ref a_loads, .ref a_mostLoads, .ref a_beams, .ref a_contacts, .ref a_fires, .ref a_ways, .ref a_calls, .ref a_callCounts, .ref a_wears])), (a_contacts, .inl (aI, 2, .inl (arL [mcontacts0, mcontacts1]))), (a_fires, .inl (aI, 2, .inl (arL [mfires0, mfires1]))), (a_ways, .inl (aI, 2, .inl (arL [mways0, mways1])))]) [0, 1, 2, 3] (by decide) rfl
          exact rt_i hQ hx hb hr () hG hP hD hS (Nat.le_of_ble_eq_true rfl) (Nat.le_of_ble_eq_true rfl) dX5_mode_53 hlk
      · have hG := hG.trans (if_neg c_3)
        refine lv_iconst (v := 3) hx hb dX5_mode_34 (by decide) ?_
        refine lv_goto (tgt := 53) hx hb dX5_mode_35 (by decide) ?_
        have hP := hP.sub (ws' := [(m0, .inr (5, [.int mthrown, .int (nI nf), .ref ah, .int mgap, .int mcars, .int mdark, .int msteps, .ref a_places, .ref a_speeds, .ref a_most, .ref a_gains, .ref a_brakes, .ref a_slows, .ref a_rides, .ref a_doors, .ref a_doorPlaces, .ref a_opened, .ref a_wide, .ref a_holds, .ref a_loads, .ref a_mostLoads, .ref a_beams, .ref a_contacts, .ref a_fires, .ref a_ways, .ref a_calls, .ref a_callCounts, .ref a_wears])), (a_contacts, .inl (aI, 2, .inl (arL [mcontacts0, mcontacts1]))), (a_fires, .inl (aI, 2, .inl (arL [mfires0, mfires1]))), (a_ways, .inl (aI, 2, .inl (arL [mways0, mways1])))]) [0, 1, 2, 3] rfl
        have hD := hD.sub (ws' := [(m0, .inr (5, [.int mthrown, .int (nI nf), .ref ah, .int mgap, .int mcars, .int mdark, .int msteps, .ref a_places, .ref a_speeds, .ref a_most, .ref a_gains, .ref a_brakes, .ref a_slows, .ref a_rides, .ref a_doors, .ref a_doorPlaces, .ref a_opened, .ref a_wide, .ref a_holds, .ref a_loads, .ref a_mostLoads, .ref a_beams, .ref a_contacts, .ref a_fires, .ref a_ways, .ref a_calls, .ref a_callCounts, .ref a_wears])), (a_contacts, .inl (aI, 2, .inl (arL [mcontacts0, mcontacts1]))), (a_fires, .inl (aI, 2, .inl (arL [mfires0, mfires1]))), (a_ways, .inl (aI, 2, .inl (arL [mways0, mways1])))]) [0, 1, 2, 3] (by decide) rfl
        exact rt_i hQ hx hb hr () hG hP hD hS (Nat.le_of_ble_eq_true rfl) (Nat.le_of_ble_eq_true rfl) dX5_mode_53 hlk
    · have hG := hG.trans (if_neg c_2)
      refine lv_iconst (v := 2) hx hb dX5_mode_20 (by decide) ?_
      refine lv_goto (tgt := 53) hx hb dX5_mode_21 (by decide) ?_
      have hP := hP.sub (ws' := [(m0, .inr (5, [.int mthrown, .int (nI nf), .ref ah, .int mgap, .int mcars, .int mdark, .int msteps, .ref a_places, .ref a_speeds, .ref a_most, .ref a_gains, .ref a_brakes, .ref a_slows, .ref a_rides, .ref a_doors, .ref a_doorPlaces, .ref a_opened, .ref a_wide, .ref a_holds, .ref a_loads, .ref a_mostLoads, .ref a_beams, .ref a_contacts, .ref a_fires, .ref a_ways, .ref a_calls, .ref a_callCounts, .ref a_wears])), (a_contacts, .inl (aI, 2, .inl (arL [mcontacts0, mcontacts1]))), (a_fires, .inl (aI, 2, .inl (arL [mfires0, mfires1]))), (a_ways, .inl (aI, 2, .inl (arL [mways0, mways1])))]) [0, 1, 2, 3] rfl
      have hD := hD.sub (ws' := [(m0, .inr (5, [.int mthrown, .int (nI nf), .ref ah, .int mgap, .int mcars, .int mdark, .int msteps, .ref a_places, .ref a_speeds, .ref a_most, .ref a_gains, .ref a_brakes, .ref a_slows, .ref a_rides, .ref a_doors, .ref a_doorPlaces, .ref a_opened, .ref a_wide, .ref a_holds, .ref a_loads, .ref a_mostLoads, .ref a_beams, .ref a_contacts, .ref a_fires, .ref a_ways, .ref a_calls, .ref a_callCounts, .ref a_wears])), (a_contacts, .inl (aI, 2, .inl (arL [mcontacts0, mcontacts1]))), (a_fires, .inl (aI, 2, .inl (arL [mfires0, mfires1]))), (a_ways, .inl (aI, 2, .inl (arL [mways0, mways1])))]) [0, 1, 2, 3] (by decide) rfl
      exact rt_i hQ hx hb hr () hG hP hD hS (Nat.le_of_ble_eq_true rfl) (Nat.le_of_ble_eq_true rfl) dX5_mode_53 hlk
  · have hG := hG.trans (if_neg c_1)
    refine lv_iconst (v := 1) hx hb dX5_mode_9 (by decide) ?_
    refine lv_goto (tgt := 53) hx hb dX5_mode_10 (by decide) ?_
    have hP := hP.sub (ws' := [(m0, .inr (5, [.int mthrown, .int (nI nf), .ref ah, .int mgap, .int mcars, .int mdark, .int msteps, .ref a_places, .ref a_speeds, .ref a_most, .ref a_gains, .ref a_brakes, .ref a_slows, .ref a_rides, .ref a_doors, .ref a_doorPlaces, .ref a_opened, .ref a_wide, .ref a_holds, .ref a_loads, .ref a_mostLoads, .ref a_beams, .ref a_contacts, .ref a_fires, .ref a_ways, .ref a_calls, .ref a_callCounts, .ref a_wears])), (a_contacts, .inl (aI, 2, .inl (arL [mcontacts0, mcontacts1]))), (a_fires, .inl (aI, 2, .inl (arL [mfires0, mfires1]))), (a_ways, .inl (aI, 2, .inl (arL [mways0, mways1])))]) [0, 1, 2, 3] rfl
    have hD := hD.sub (ws' := [(m0, .inr (5, [.int mthrown, .int (nI nf), .ref ah, .int mgap, .int mcars, .int mdark, .int msteps, .ref a_places, .ref a_speeds, .ref a_most, .ref a_gains, .ref a_brakes, .ref a_slows, .ref a_rides, .ref a_doors, .ref a_doorPlaces, .ref a_opened, .ref a_wide, .ref a_holds, .ref a_loads, .ref a_mostLoads, .ref a_beams, .ref a_contacts, .ref a_fires, .ref a_ways, .ref a_calls, .ref a_callCounts, .ref a_wears])), (a_contacts, .inl (aI, 2, .inl (arL [mcontacts0, mcontacts1]))), (a_fires, .inl (aI, 2, .inl (arL [mfires0, mfires1]))), (a_ways, .inl (aI, 2, .inl (arL [mways0, mways1])))]) [0, 1, 2, 3] (by decide) rfl
    exact rt_i hQ hx hb hr () hG hP hD hS (Nat.le_of_ble_eq_true rfl) (Nat.le_of_ble_eq_true rfl) dX5_mode_53 hlk
theorem dX5_nearest_0 : decode cX5_nearest 0 = .ok (.iconst 0, 1) := by decide +kernel
theorem dX5_nearest_1 : decode cX5_nearest 1 = .ok (.istore_n 2, 1) := by decide +kernel
theorem dX5_nearest_2 : decode cX5_nearest 2 = .ok (.iconst 1, 1) := by decide +kernel
theorem dX5_nearest_3 : decode cX5_nearest 3 = .ok (.istore_n 3, 1) := by decide +kernel
theorem dX5_nearest_4 : decode cX5_nearest 4 = .ok (.iload_n 3, 1) := by decide +kernel
theorem dX5_nearest_5 : decode cX5_nearest 5 = .ok (.aload_n 0, 1) := by decide +kernel
theorem dX5_nearest_6 : decode cX5_nearest 6 = .ok (.getfield 81, 3) := by decide +kernel
theorem dX5_nearest_9 : decode cX5_nearest 9 = .ok (.if_icmp .ge 40, 3) := by decide +kernel
theorem dX5_nearest_12 : decode cX5_nearest 12 = .ok (.aload_n 0, 1) := by decide +kernel
theorem dX5_nearest_13 : decode cX5_nearest 13 = .ok (.getfield 7, 3) := by decide +kernel
theorem dX5_nearest_16 : decode cX5_nearest 16 = .ok (.iload_n 3, 1) := by decide +kernel
theorem dX5_nearest_17 : decode cX5_nearest 17 = .ok (.iaload, 1) := by decide +kernel
theorem dX5_nearest_18 : decode cX5_nearest 18 = .ok (.iload_n 1, 1) := by decide +kernel
theorem dX5_nearest_19 : decode cX5_nearest 19 = .ok (.isub, 1) := by decide +kernel
theorem dX5_nearest_20 : decode cX5_nearest 20 = .ok (.invokestatic 91, 3) := by decide +kernel
theorem dX5_nearest_23 : decode cX5_nearest 23 = .ok (.aload_n 0, 1) := by decide +kernel
theorem dX5_nearest_24 : decode cX5_nearest 24 = .ok (.getfield 7, 3) := by decide +kernel
theorem dX5_nearest_27 : decode cX5_nearest 27 = .ok (.iload_n 2, 1) := by decide +kernel
theorem dX5_nearest_28 : decode cX5_nearest 28 = .ok (.iaload, 1) := by decide +kernel
theorem dX5_nearest_29 : decode cX5_nearest 29 = .ok (.iload_n 1, 1) := by decide +kernel
theorem dX5_nearest_30 : decode cX5_nearest 30 = .ok (.isub, 1) := by decide +kernel
theorem dX5_nearest_31 : decode cX5_nearest 31 = .ok (.invokestatic 91, 3) := by decide +kernel
theorem dX5_nearest_34 : decode cX5_nearest 34 = .ok (.if_icmp .ge 7, 3) := by decide +kernel
theorem dX5_nearest_37 : decode cX5_nearest 37 = .ok (.iload_n 3, 1) := by decide +kernel
theorem dX5_nearest_38 : decode cX5_nearest 38 = .ok (.goto 4, 3) := by decide +kernel
theorem dX5_nearest_41 : decode cX5_nearest 41 = .ok (.iload_n 2, 1) := by decide +kernel
theorem dX5_nearest_42 : decode cX5_nearest 42 = .ok (.istore_n 2, 1) := by decide +kernel
theorem dX5_nearest_43 : decode cX5_nearest 43 = .ok (.iinc 3 1, 3) := by decide +kernel
theorem dX5_nearest_46 : decode cX5_nearest 46 = .ok (.goto (-42), 3) := by decide +kernel
theorem dX5_nearest_49 : decode cX5_nearest 49 = .ok (.aload_n 0, 1) := by decide +kernel
theorem dX5_nearest_50 : decode cX5_nearest 50 = .ok (.getfield 7, 3) := by decide +kernel
theorem dX5_nearest_53 : decode cX5_nearest 53 = .ok (.iload_n 2, 1) := by decide +kernel
theorem dX5_nearest_54 : decode cX5_nearest 54 = .ok (.iaload, 1) := by decide +kernel
theorem dX5_nearest_55 : decode cX5_nearest 55 = .ok (.ireturn, 1) := by decide +kernel
def L_m_nearest_4 (nf : Nat) (mh : Nat → Int32) (p0 : Int32) : Nat → Nat → Nat → Int32
  | 0, _, _ => 0
  | fu + 1, bj, j =>
    if (nI nf) ≤ (nI j) then
      (mh (nI bj).toNatClampNeg)
    else
      cb (F_m_size ((mh (nI j).toNatClampNeg) - p0)) fun r_2 =>
        cb (F_m_size ((mh (nI bj).toNatClampNeg) - p0)) fun r_4 =>
          if r_4 ≤ r_2 then
            L_m_nearest_4 nf mh p0 fu bj (j + 1)
          else
            L_m_nearest_4 nf mh p0 fu j (j + 1)
theorem L_m_nearest_4_u (nf : Nat) (mh : Nat → Int32) (p0 : Int32) (fu : Nat) (bj : Nat) (j : Nat) : L_m_nearest_4 nf mh p0 (fu + 1) bj j =
    (if (nI nf) ≤ (nI j) then
      (mh (nI bj).toNatClampNeg)
    else
      cb (F_m_size ((mh (nI j).toNatClampNeg) - p0)) fun r_2 =>
        cb (F_m_size ((mh (nI bj).toNatClampNeg) - p0)) fun r_4 =>
          if r_4 ≤ r_2 then
            L_m_nearest_4 nf mh p0 fu bj (j + 1)
          else
            L_m_nearest_4 nf mh p0 fu j (j + 1)) := rfl
def F_m_nearest (nf : Nat) (mh : Nat → Int32) (p0 : Int32) : Int32 :=
  L_m_nearest_4 nf mh p0 (nf + 1) 0 1
theorem F_m_nearest_u (nf : Nat) (mh : Nat → Int32) (p0 : Int32) : F_m_nearest nf mh p0 =
  (L_m_nearest_4 nf mh p0 (nf + 1) 0 1) := rfl
set_option maxHeartbeats 4000000 in
set_option maxRecDepth 100000 in
theorem c_m_nearest (l : Launch) (D : va_G) (aI aL aZ : ClassId) (sz : Nat) (m0 : Nat) (ah : Nat) (a_places : Nat) (a_speeds : Nat) (a_most : Nat) (a_gains : Nat) (a_brakes : Nat) (a_slows : Nat) (a_rides : Nat) (a_doors : Nat) (a_doorPlaces : Nat) (a_opened : Nat) (a_wide : Nat) (a_holds : Nat) (a_loads : Nat) (a_mostLoads : Nat) (a_beams : Nat) (a_contacts : Nat) (a_fires : Nat) (a_ways : Nat) (a_calls : Nat) (a_callCounts : Nat) (a_wears : Nat) (mthrown : Int32) (nf : Nat) (mgap : Int32) (mcars : Int32) (mdark : Int32) (msteps : Int32) (mh : Nat → Int32) (p0 : Int32) (hnf : 1 ≤ nf) (hnf2 : nf ≤ 20) : Met l yX5_nearest (.code yX5_nearest cX5_nearest 4 (some .int) :: Gw) ({ frames := 1, cells := 0, slots := 0, locals := 20 }) (va_Pc [.ref m0, .int p0] (mpre D [(aI, .int), (aL, .long), (aZ, .boolean)] [(m0, .inr (5, [.int mthrown, .int (nI nf), .ref ah, .int mgap, .int mcars, .int mdark, .int msteps, .ref a_places, .ref a_speeds, .ref a_most, .ref a_gains, .ref a_brakes, .ref a_slows, .ref a_rides, .ref a_doors, .ref a_doorPlaces, .ref a_opened, .ref a_wide, .ref a_holds, .ref a_loads, .ref a_mostLoads, .ref a_beams, .ref a_contacts, .ref a_fires, .ref a_ways, .ref a_calls, .ref a_callCounts, .ref a_wears])), (ah, .inl (aI, 20, .inl mh))] sz)) ((fun A : Nat → Prop => va_Qi (fun (r : Int32) (u : Unit) => F_m_nearest nf mh p0 = r) (mpst D A (fun (u : Unit) => [(m0, .inr (5, [.int mthrown, .int (nI nf), .ref ah, .int mgap, .int mcars, .int mdark, .int msteps, .ref a_places, .ref a_speeds, .ref a_most, .ref a_gains, .ref a_brakes, .ref a_slows, .ref a_rides, .ref a_doors, .ref a_doorPlaces, .ref a_opened, .ref a_wide, .ref a_holds, .ref a_loads, .ref a_mostLoads, .ref a_beams, .ref a_contacts, .ref a_fires, .ref a_ways, .ref a_calls, .ref a_callCounts, .ref a_wears])), (ah, .inl (aI, 20, .inl mh))])) A) (va_A ([(m0, .inr (5, [.int mthrown, .int (nI nf), .ref ah, .int mgap, .int mcars, .int mdark, .int msteps, .ref a_places, .ref a_speeds, .ref a_most, .ref a_gains, .ref a_brakes, .ref a_slows, .ref a_rides, .ref a_doors, .ref a_doorPlaces, .ref a_opened, .ref a_wide, .ref a_holds, .ref a_loads, .ref a_mostLoads, .ref a_beams, .ref a_contacts, .ref a_fires, .ref a_ways, .ref a_calls, .ref a_callCounts, .ref a_wears])), (ah, .inl (aI, 20, .inl mh))]) sz)) 0 0 (va_A ([(m0, .inr (5, [.int mthrown, .int (nI nf), .ref ah, .int mgap, .int mcars, .int mdark, .int msteps, .ref a_places, .ref a_speeds, .ref a_most, .ref a_gains, .ref a_brakes, .ref a_slows, .ref a_rides, .ref a_doors, .ref a_doorPlaces, .ref a_opened, .ref a_wide, .ref a_holds, .ref a_loads, .ref a_mostLoads, .ref a_beams, .ref a_contacts, .ref a_fires, .ref a_ways, .ref a_calls, .ref a_callCounts, .ref a_wears])), (ah, .inl (aI, 20, .inl mh))]) sz) := by
  refine en (cc := cX5_nearest) (maxL := 4) (ret := (some .int)) (Qc := (fun A : Nat → Prop => va_Qi (fun (r : Int32) (u : Unit) => F_m_nearest nf mh p0 = r) (mpst D A (fun (u : Unit) => [(m0, .inr (5, [.int mthrown, .int (nI nf), .ref ah, .int mgap, .int mcars, .int mdark, .int msteps, .ref a_places, .ref a_speeds, .ref a_most, .ref a_gains, .ref a_brakes, .ref a_slows, .ref a_rides, .ref a_doors, .ref a_doorPlaces, .ref a_opened, .ref a_wide, .ref a_holds, .ref a_loads, .ref a_mostLoads, .ref a_beams, .ref a_contacts, .ref a_fires, .ref a_ways, .ref a_calls, .ref a_callCounts, .ref a_wears])), (ah, .inl (aI, 20, .inl mh))])) A)) (by decide) rfl (Nat.le_of_ble_eq_true rfl) ?_
  intro p e s m args below meth c A ls Q hQ hx hb hr hts hown hlk hnm hml hA hS hP hK hD hE hl
  have hown : s.vm.findClass RX5 = some m.cls := hown
  have hl : lv_has ls 4 [(0, .ref m0), (1, .int p0)] := hl
  have hG := F_m_nearest_u nf mh p0
  refine lv_iconst (v := 0) hx hb dX5_nearest_0 (by decide) ?_
  refine lv_istore_n (lv' := [(2, .int 0), (0, .ref m0), (1, .int p0)]) hx hb dX5_nearest_1 rfl hl (by decide) rfl (fun ls hl => ?_)
  refine lv_iconst (v := 1) hx hb dX5_nearest_2 (by decide) ?_
  refine lv_istore_n (lv' := [(3, .int 1), (2, .int 0), (0, .ref m0), (1, .int p0)]) hx hb dX5_nearest_3 rfl hl (by decide) rfl (fun ls hl => ?_)
  have loop4 : ∀ (fu : Nat) (bj : Nat) (j : Nat), bj < 20 → j ≤ nf → nf + 1 ≤ j + fu → F_m_nearest nf mh p0 = L_m_nearest_4 nf mh p0 fu bj j → ∀ (H : Heap) (locs : List Loc), va_P D vwCl [(m0, .inr (5, [.int mthrown, .int (nI nf), .ref ah, .int mgap, .int mcars, .int mdark, .int msteps, .ref a_places, .ref a_speeds, .ref a_most, .ref a_gains, .ref a_brakes, .ref a_slows, .ref a_rides, .ref a_doors, .ref a_doorPlaces, .ref a_opened, .ref a_wide, .ref a_holds, .ref a_loads, .ref a_mostLoads, .ref a_beams, .ref a_contacts, .ref a_fires, .ref a_ways, .ref a_calls, .ref a_callCounts, .ref a_wears])), (ah, .inl (aI, 20, .inl mh))] H → va_D A [(m0, .inr (5, [.int mthrown, .int (nI nf), .ref ah, .int mgap, .int mcars, .int mdark, .int msteps, .ref a_places, .ref a_speeds, .ref a_most, .ref a_gains, .ref a_brakes, .ref a_slows, .ref a_rides, .ref a_doors, .ref a_doorPlaces, .ref a_opened, .ref a_wide, .ref a_holds, .ref a_loads, .ref a_mostLoads, .ref a_beams, .ref a_contacts, .ref a_fires, .ref a_ways, .ref a_calls, .ref a_callCounts, .ref a_wears])), (ah, .inl (aI, 20, .inl mh))] → va_S A s.heap H locs → ∀ (ls : Array Slot), lv_has ls 4 [(3, .int (nI j)), (2, .int (nI bj)), (0, .ref m0), (1, .int p0)] → W p l e ({ frames := 1, cells := 0, slots := 0, locals := 20 }) s m args below meth c H locs 0 0 Q (F0 m 4 ls []) := by
    intro fu
    induction fu with
    | zero => intro bj j hbj hj hm; exact absurd hm (by omega)
    | succ fu ih =>
      intro bj j hbj hj hm hG H locs hP hD hS ls hl
      have hG := hG.trans (L_m_nearest_4_u nf mh p0 fu bj j)
      refine lv_iload_n hx hb dX5_nearest_4 rfl (lv_at hl 0 rfl) ?_
      refine lv_aload_n hx hb dX5_nearest_5 rfl (lv_at hl 2 rfl) ?_
      refine va_get (D := D) (ci := 5) (v := .int (nI nf)) (C := RX5) (T := TX5) (N := 28) hx hb hts inX5 hown hK hP 0 rfl rfl 1 (by decide) (hts _ (mG w_637)) (fun _ h9 => h9) rfl dX5_nearest_6 ?_
      refine lv_icmp_ge (tgt := 49) hx hb dX5_nearest_9 (by decide) (fun c_1 => ?_) (fun c_1 => ?_)
      · have hG := hG.trans (if_pos c_1)
        refine lv_aload_n hx hb dX5_nearest_49 rfl (lv_at hl 2 rfl) ?_
        refine va_get (D := D) (ci := 5) (v := .ref ah) (C := RX5) (T := TX5) (N := 28) hx hb hts inX5 hown hK hP 0 rfl rfl 2 (by decide) (hts _ (mG w_638)) (fun _ h9 => h9) rfl dX5_nearest_50 ?_
        refine lv_iload_n hx hb dX5_nearest_53 rfl (lv_at hl 1 rfl) ?_
        refine va_iald hx hb hK hP 1 0 rfl rfl (vp_in_nI hbj (by decide)) dX5_nearest_54 ?_
        have hP := hP.sub (ws' := [(m0, .inr (5, [.int mthrown, .int (nI nf), .ref ah, .int mgap, .int mcars, .int mdark, .int msteps, .ref a_places, .ref a_speeds, .ref a_most, .ref a_gains, .ref a_brakes, .ref a_slows, .ref a_rides, .ref a_doors, .ref a_doorPlaces, .ref a_opened, .ref a_wide, .ref a_holds, .ref a_loads, .ref a_mostLoads, .ref a_beams, .ref a_contacts, .ref a_fires, .ref a_ways, .ref a_calls, .ref a_callCounts, .ref a_wears])), (ah, .inl (aI, 20, .inl mh))]) [0, 1] rfl
        have hD := hD.sub (ws' := [(m0, .inr (5, [.int mthrown, .int (nI nf), .ref ah, .int mgap, .int mcars, .int mdark, .int msteps, .ref a_places, .ref a_speeds, .ref a_most, .ref a_gains, .ref a_brakes, .ref a_slows, .ref a_rides, .ref a_doors, .ref a_doorPlaces, .ref a_opened, .ref a_wide, .ref a_holds, .ref a_loads, .ref a_mostLoads, .ref a_beams, .ref a_contacts, .ref a_fires, .ref a_ways, .ref a_calls, .ref a_callCounts, .ref a_wears])), (ah, .inl (aI, 20, .inl mh))]) [0, 1] (by decide) rfl
        exact rt_i hQ hx hb hr () hG hP hD hS (Nat.le_of_ble_eq_true rfl) (Nat.le_of_ble_eq_true rfl) dX5_nearest_55 hlk
      · have hG := hG.trans (if_neg c_1)
        refine lv_aload_n hx hb dX5_nearest_12 rfl (lv_at hl 2 rfl) ?_
        refine va_get (D := D) (ci := 5) (v := .ref ah) (C := RX5) (T := TX5) (N := 28) hx hb hts inX5 hown hK hP 0 rfl rfl 2 (by decide) (hts _ (mG w_638)) (fun _ h9 => h9) rfl dX5_nearest_13 ?_
        refine lv_iload_n hx hb dX5_nearest_16 rfl (lv_at hl 0 rfl) ?_
        refine va_iald hx hb hK hP 1 0 rfl rfl (ixm hnf2 hj c_1) dX5_nearest_17 ?_
        refine lv_iload_n hx hb dX5_nearest_18 rfl (lv_at hl 3 rfl) ?_
        refine lv_isub hx hb dX5_nearest_19 ?_
        refine my_i (wr := [(m0, .inr (5, [.int mthrown, .int (nI nf), .ref ah, .int mgap, .int mcars, .int mdark, .int msteps, .ref a_places, .ref a_speeds, .ref a_most, .ref a_gains, .ref a_brakes, .ref a_slows, .ref a_rides, .ref a_doors, .ref a_doorPlaces, .ref a_opened, .ref a_wide, .ref a_holds, .ref a_loads, .ref a_mostLoads, .ref a_beams, .ref a_contacts, .ref a_fires, .ref a_ways, .ref a_calls, .ref a_callCounts, .ref a_wears])), (ah, .inl (aI, 20, .inl mh))]) [] [0, 1] (va_runS (As := [.int ((mh (nI j).toNatClampNeg) - p0)]) (rest := []) ⟨hx, hb, hml, hown, hts⟩ (c_m_size l D aI aL aZ _ ((mh (nI j).toNatClampNeg) - p0)) (va_cwS 1 hts (gS w_757 w_758 w_38 w_759) rfl rfl rfl (by decide +kernel) ⟨Nat.le_of_ble_eq_true rfl, Nat.le_of_ble_eq_true rfl⟩) (pre_of hK hP hD hS hA hE [] rfl (by decide) _) rfl rfl hl.1 rfl (lv_room (Nat.le_of_ble_eq_true rfl)) dX5_nearest_20 ⟨Nat.le_of_ble_eq_true rfl, Nat.le_of_ble_eq_true rfl⟩) hP hD hS hA rfl rfl (by decide) (by decide) (fun r_2 u_ H locs hw_3 hP hD hS => ?_)
        have hw_3 : F_m_size ((mh (nI j).toNatClampNeg) - p0) = r_2 := hw_3
        have hG := hG.trans (cb_e hw_3)
        have hP : va_P D vwCl [(m0, .inr (5, [.int mthrown, .int (nI nf), .ref ah, .int mgap, .int mcars, .int mdark, .int msteps, .ref a_places, .ref a_speeds, .ref a_most, .ref a_gains, .ref a_brakes, .ref a_slows, .ref a_rides, .ref a_doors, .ref a_doorPlaces, .ref a_opened, .ref a_wide, .ref a_holds, .ref a_loads, .ref a_mostLoads, .ref a_beams, .ref a_contacts, .ref a_fires, .ref a_ways, .ref a_calls, .ref a_callCounts, .ref a_wears])), (ah, .inl (aI, 20, .inl mh))] H := hP
        have hD : va_D A [(m0, .inr (5, [.int mthrown, .int (nI nf), .ref ah, .int mgap, .int mcars, .int mdark, .int msteps, .ref a_places, .ref a_speeds, .ref a_most, .ref a_gains, .ref a_brakes, .ref a_slows, .ref a_rides, .ref a_doors, .ref a_doorPlaces, .ref a_opened, .ref a_wide, .ref a_holds, .ref a_loads, .ref a_mostLoads, .ref a_beams, .ref a_contacts, .ref a_fires, .ref a_ways, .ref a_calls, .ref a_callCounts, .ref a_wears])), (ah, .inl (aI, 20, .inl mh))] := hD
        refine lv_aload_n hx hb dX5_nearest_23 rfl (lv_at hl 2 rfl) ?_
        refine va_get (D := D) (ci := 5) (v := .ref ah) (C := RX5) (T := TX5) (N := 28) hx hb hts inX5 hown hK hP 0 rfl rfl 2 (by decide) (hts _ (mG w_638)) (fun _ h9 => h9) rfl dX5_nearest_24 ?_
        refine lv_iload_n hx hb dX5_nearest_27 rfl (lv_at hl 1 rfl) ?_
        refine va_iald hx hb hK hP 1 0 rfl rfl (vp_in_nI hbj (by decide)) dX5_nearest_28 ?_
        refine lv_iload_n hx hb dX5_nearest_29 rfl (lv_at hl 3 rfl) ?_
        refine lv_isub hx hb dX5_nearest_30 ?_
        refine my_i (wr := [(m0, .inr (5, [.int mthrown, .int (nI nf), .ref ah, .int mgap, .int mcars, .int mdark, .int msteps, .ref a_places, .ref a_speeds, .ref a_most, .ref a_gains, .ref a_brakes, .ref a_slows, .ref a_rides, .ref a_doors, .ref a_doorPlaces, .ref a_opened, .ref a_wide, .ref a_holds, .ref a_loads, .ref a_mostLoads, .ref a_beams, .ref a_contacts, .ref a_fires, .ref a_ways, .ref a_calls, .ref a_callCounts, .ref a_wears])), (ah, .inl (aI, 20, .inl mh))]) [] [0, 1] (va_runS (As := [.int ((mh (nI bj).toNatClampNeg) - p0)]) (rest := [.int r_2]) ⟨hx, hb, hml, hown, hts⟩ (c_m_size l D aI aL aZ _ ((mh (nI bj).toNatClampNeg) - p0)) (va_cwS 1 hts (gS w_757 w_758 w_38 w_759) rfl rfl rfl (by decide +kernel) ⟨Nat.le_of_ble_eq_true rfl, Nat.le_of_ble_eq_true rfl⟩) (pre_of hK hP hD hS hA hE [] rfl (by decide) _) rfl rfl hl.1 rfl (lv_room (Nat.le_of_ble_eq_true rfl)) dX5_nearest_31 ⟨Nat.le_of_ble_eq_true rfl, Nat.le_of_ble_eq_true rfl⟩) hP hD hS hA rfl rfl (by decide) (by decide) (fun r_4 u_ H locs hw_5 hP hD hS => ?_)
        have hw_5 : F_m_size ((mh (nI bj).toNatClampNeg) - p0) = r_4 := hw_5
        have hG := hG.trans (cb_e hw_5)
        have hP : va_P D vwCl [(m0, .inr (5, [.int mthrown, .int (nI nf), .ref ah, .int mgap, .int mcars, .int mdark, .int msteps, .ref a_places, .ref a_speeds, .ref a_most, .ref a_gains, .ref a_brakes, .ref a_slows, .ref a_rides, .ref a_doors, .ref a_doorPlaces, .ref a_opened, .ref a_wide, .ref a_holds, .ref a_loads, .ref a_mostLoads, .ref a_beams, .ref a_contacts, .ref a_fires, .ref a_ways, .ref a_calls, .ref a_callCounts, .ref a_wears])), (ah, .inl (aI, 20, .inl mh))] H := hP
        have hD : va_D A [(m0, .inr (5, [.int mthrown, .int (nI nf), .ref ah, .int mgap, .int mcars, .int mdark, .int msteps, .ref a_places, .ref a_speeds, .ref a_most, .ref a_gains, .ref a_brakes, .ref a_slows, .ref a_rides, .ref a_doors, .ref a_doorPlaces, .ref a_opened, .ref a_wide, .ref a_holds, .ref a_loads, .ref a_mostLoads, .ref a_beams, .ref a_contacts, .ref a_fires, .ref a_ways, .ref a_calls, .ref a_callCounts, .ref a_wears])), (ah, .inl (aI, 20, .inl mh))] := hD
        refine lv_icmp_ge (tgt := 41) hx hb dX5_nearest_34 (by decide) (fun c_6 => ?_) (fun c_6 => ?_)
        · have hG := hG.trans (if_pos c_6)
          refine lv_iload_n hx hb dX5_nearest_41 rfl (lv_at hl 1 rfl) ?_
          refine lv_istore_n (lv' := [(2, .int (nI bj)), (3, .int (nI j)), (0, .ref m0), (1, .int p0)]) hx hb dX5_nearest_42 rfl hl (by decide) rfl (fun ls hl => ?_)
          refine lv_iinc (v := (nI (j + 1))) (lv' := [(3, .int (nI (j + 1))), (2, .int (nI bj)), (0, .ref m0), (1, .int p0)]) hx hb dX5_nearest_43 hl (k := 1) rfl (nI_1 _) (by decide) rfl (fun ls hl => ?_)
          refine lv_goto (tgt := 4) hx hb dX5_nearest_46 (by decide) ?_
          exact ih bj (j + 1) hbj (ixm_s hnf2 hj c_1) (by omega) hG _ _ (hP.sub [0, 1] rfl) (hD.sub [0, 1] (by decide) rfl) hS ls (lv_sub hl [0, 1, 2, 3] rfl)
        · have hG := hG.trans (if_neg c_6)
          refine lv_iload_n hx hb dX5_nearest_37 rfl (lv_at hl 0 rfl) ?_
          refine lv_goto (tgt := 42) hx hb dX5_nearest_38 (by decide) ?_
          refine lv_istore_n (lv' := [(2, .int (nI j)), (3, .int (nI j)), (0, .ref m0), (1, .int p0)]) hx hb dX5_nearest_42 rfl hl (by decide) rfl (fun ls hl => ?_)
          refine lv_iinc (v := (nI (j + 1))) (lv' := [(3, .int (nI (j + 1))), (2, .int (nI j)), (0, .ref m0), (1, .int p0)]) hx hb dX5_nearest_43 hl (k := 1) rfl (nI_1 _) (by decide) rfl (fun ls hl => ?_)
          refine lv_goto (tgt := 4) hx hb dX5_nearest_46 (by decide) ?_
          exact ih j (j + 1) (ixm_lt hnf2 hj c_1) (ixm_s hnf2 hj c_1) (by omega) hG _ _ (hP.sub [0, 1] rfl) (hD.sub [0, 1] (by decide) rfl) hS ls (lv_sub hl [0, 1, 2, 3] rfl)
  exact loop4 (nf + 1) 0 1 (by decide) hnf (by omega) hG _ _ hP hD hS ls (lv_sub hl [0, 1, 2, 3] rfl)
theorem dX5_floorAt_0 : decode cX5_floorAt 0 = .ok (.iconst (-1), 1) := by decide +kernel
theorem dX5_floorAt_1 : decode cX5_floorAt 1 = .ok (.istore_n 2, 1) := by decide +kernel
theorem dX5_floorAt_2 : decode cX5_floorAt 2 = .ok (.iconst 0, 1) := by decide +kernel
theorem dX5_floorAt_3 : decode cX5_floorAt 3 = .ok (.istore_n 3, 1) := by decide +kernel
theorem dX5_floorAt_4 : decode cX5_floorAt 4 = .ok (.iload_n 3, 1) := by decide +kernel
theorem dX5_floorAt_5 : decode cX5_floorAt 5 = .ok (.aload_n 0, 1) := by decide +kernel
theorem dX5_floorAt_6 : decode cX5_floorAt 6 = .ok (.getfield 81, 3) := by decide +kernel
theorem dX5_floorAt_9 : decode cX5_floorAt 9 = .ok (.if_icmp .ge 25, 3) := by decide +kernel
theorem dX5_floorAt_12 : decode cX5_floorAt 12 = .ok (.aload_n 0, 1) := by decide +kernel
theorem dX5_floorAt_13 : decode cX5_floorAt 13 = .ok (.getfield 7, 3) := by decide +kernel
theorem dX5_floorAt_16 : decode cX5_floorAt 16 = .ok (.iload_n 3, 1) := by decide +kernel
theorem dX5_floorAt_17 : decode cX5_floorAt 17 = .ok (.iaload, 1) := by decide +kernel
theorem dX5_floorAt_18 : decode cX5_floorAt 18 = .ok (.iload_n 1, 1) := by decide +kernel
theorem dX5_floorAt_19 : decode cX5_floorAt 19 = .ok (.if_icmp .ne 7, 3) := by decide +kernel
theorem dX5_floorAt_22 : decode cX5_floorAt 22 = .ok (.iload_n 3, 1) := by decide +kernel
theorem dX5_floorAt_23 : decode cX5_floorAt 23 = .ok (.goto 4, 3) := by decide +kernel
theorem dX5_floorAt_26 : decode cX5_floorAt 26 = .ok (.iload_n 2, 1) := by decide +kernel
theorem dX5_floorAt_27 : decode cX5_floorAt 27 = .ok (.istore_n 2, 1) := by decide +kernel
theorem dX5_floorAt_28 : decode cX5_floorAt 28 = .ok (.iinc 3 1, 3) := by decide +kernel
theorem dX5_floorAt_31 : decode cX5_floorAt 31 = .ok (.goto (-27), 3) := by decide +kernel
theorem dX5_floorAt_34 : decode cX5_floorAt 34 = .ok (.iload_n 2, 1) := by decide +kernel
theorem dX5_floorAt_35 : decode cX5_floorAt 35 = .ok (.ireturn, 1) := by decide +kernel
def L_m_floorAt_4 (nf : Nat) (mh : Nat → Int32) (p0 : Int32) : Nat → Int32 → Nat → Int32
  | 0, _, _ => 0
  | fu + 1, ff, j =>
    if (nI nf) ≤ (nI j) then
      ff
    else
      if (mh (nI j).toNatClampNeg) = p0 then
        L_m_floorAt_4 nf mh p0 fu (nI j) (j + 1)
      else
        L_m_floorAt_4 nf mh p0 fu ff (j + 1)
theorem L_m_floorAt_4_u (nf : Nat) (mh : Nat → Int32) (p0 : Int32) (fu : Nat) (ff : Int32) (j : Nat) : L_m_floorAt_4 nf mh p0 (fu + 1) ff j =
    (if (nI nf) ≤ (nI j) then
      ff
    else
      if (mh (nI j).toNatClampNeg) = p0 then
        L_m_floorAt_4 nf mh p0 fu (nI j) (j + 1)
      else
        L_m_floorAt_4 nf mh p0 fu ff (j + 1)) := rfl
def F_m_floorAt (nf : Nat) (mh : Nat → Int32) (p0 : Int32) : Int32 :=
  L_m_floorAt_4 nf mh p0 (nf + 1) (-1) 0
theorem F_m_floorAt_u (nf : Nat) (mh : Nat → Int32) (p0 : Int32) : F_m_floorAt nf mh p0 =
  (L_m_floorAt_4 nf mh p0 (nf + 1) (-1) 0) := rfl
set_option maxHeartbeats 4000000 in
set_option maxRecDepth 100000 in
theorem c_m_floorAt (l : Launch) (D : va_G) (aI aL aZ : ClassId) (sz : Nat) (m0 : Nat) (ah : Nat) (a_places : Nat) (a_speeds : Nat) (a_most : Nat) (a_gains : Nat) (a_brakes : Nat) (a_slows : Nat) (a_rides : Nat) (a_doors : Nat) (a_doorPlaces : Nat) (a_opened : Nat) (a_wide : Nat) (a_holds : Nat) (a_loads : Nat) (a_mostLoads : Nat) (a_beams : Nat) (a_contacts : Nat) (a_fires : Nat) (a_ways : Nat) (a_calls : Nat) (a_callCounts : Nat) (a_wears : Nat) (mthrown : Int32) (nf : Nat) (mgap : Int32) (mcars : Int32) (mdark : Int32) (msteps : Int32) (mh : Nat → Int32) (p0 : Int32) (hnf : 1 ≤ nf) (hnf2 : nf ≤ 20) : Met l yX5_floorAt (.code yX5_floorAt cX5_floorAt 4 (some .int) :: Gw) ({ frames := 0, cells := 0, slots := 0, locals := 0 }) (va_Pc [.ref m0, .int p0] (mpre D [(aI, .int), (aL, .long), (aZ, .boolean)] [(m0, .inr (5, [.int mthrown, .int (nI nf), .ref ah, .int mgap, .int mcars, .int mdark, .int msteps, .ref a_places, .ref a_speeds, .ref a_most, .ref a_gains, .ref a_brakes, .ref a_slows, .ref a_rides, .ref a_doors, .ref a_doorPlaces, .ref a_opened, .ref a_wide, .ref a_holds, .ref a_loads, .ref a_mostLoads, .ref a_beams, .ref a_contacts, .ref a_fires, .ref a_ways, .ref a_calls, .ref a_callCounts, .ref a_wears])), (ah, .inl (aI, 20, .inl mh))] sz)) ((fun A : Nat → Prop => va_Qi (fun (r : Int32) (u : Unit) => F_m_floorAt nf mh p0 = r) (mpst D A (fun (u : Unit) => [(m0, .inr (5, [.int mthrown, .int (nI nf), .ref ah, .int mgap, .int mcars, .int mdark, .int msteps, .ref a_places, .ref a_speeds, .ref a_most, .ref a_gains, .ref a_brakes, .ref a_slows, .ref a_rides, .ref a_doors, .ref a_doorPlaces, .ref a_opened, .ref a_wide, .ref a_holds, .ref a_loads, .ref a_mostLoads, .ref a_beams, .ref a_contacts, .ref a_fires, .ref a_ways, .ref a_calls, .ref a_callCounts, .ref a_wears])), (ah, .inl (aI, 20, .inl mh))])) A) (va_A ([(m0, .inr (5, [.int mthrown, .int (nI nf), .ref ah, .int mgap, .int mcars, .int mdark, .int msteps, .ref a_places, .ref a_speeds, .ref a_most, .ref a_gains, .ref a_brakes, .ref a_slows, .ref a_rides, .ref a_doors, .ref a_doorPlaces, .ref a_opened, .ref a_wide, .ref a_holds, .ref a_loads, .ref a_mostLoads, .ref a_beams, .ref a_contacts, .ref a_fires, .ref a_ways, .ref a_calls, .ref a_callCounts, .ref a_wears])), (ah, .inl (aI, 20, .inl mh))]) sz)) 0 0 (va_A ([(m0, .inr (5, [.int mthrown, .int (nI nf), .ref ah, .int mgap, .int mcars, .int mdark, .int msteps, .ref a_places, .ref a_speeds, .ref a_most, .ref a_gains, .ref a_brakes, .ref a_slows, .ref a_rides, .ref a_doors, .ref a_doorPlaces, .ref a_opened, .ref a_wide, .ref a_holds, .ref a_loads, .ref a_mostLoads, .ref a_beams, .ref a_contacts, .ref a_fires, .ref a_ways, .ref a_calls, .ref a_callCounts, .ref a_wears])), (ah, .inl (aI, 20, .inl mh))]) sz) := by
  refine en (cc := cX5_floorAt) (maxL := 4) (ret := (some .int)) (Qc := (fun A : Nat → Prop => va_Qi (fun (r : Int32) (u : Unit) => F_m_floorAt nf mh p0 = r) (mpst D A (fun (u : Unit) => [(m0, .inr (5, [.int mthrown, .int (nI nf), .ref ah, .int mgap, .int mcars, .int mdark, .int msteps, .ref a_places, .ref a_speeds, .ref a_most, .ref a_gains, .ref a_brakes, .ref a_slows, .ref a_rides, .ref a_doors, .ref a_doorPlaces, .ref a_opened, .ref a_wide, .ref a_holds, .ref a_loads, .ref a_mostLoads, .ref a_beams, .ref a_contacts, .ref a_fires, .ref a_ways, .ref a_calls, .ref a_callCounts, .ref a_wears])), (ah, .inl (aI, 20, .inl mh))])) A)) (by decide) rfl (Nat.le_of_ble_eq_true rfl) ?_
  intro p e s m args below meth c A ls Q hQ hx hb hr hts hown hlk hnm hml hA hS hP hK hD hE hl
  have hown : s.vm.findClass RX5 = some m.cls := hown
  have hl : lv_has ls 4 [(0, .ref m0), (1, .int p0)] := hl
  have hG := F_m_floorAt_u nf mh p0
  refine lv_iconst (v := (-1)) hx hb dX5_floorAt_0 (by decide) ?_
  refine lv_istore_n (lv' := [(2, .int (-1)), (0, .ref m0), (1, .int p0)]) hx hb dX5_floorAt_1 rfl hl (by decide) rfl (fun ls hl => ?_)
  refine lv_iconst (v := 0) hx hb dX5_floorAt_2 (by decide) ?_
  refine lv_istore_n (lv' := [(3, .int 0), (2, .int (-1)), (0, .ref m0), (1, .int p0)]) hx hb dX5_floorAt_3 rfl hl (by decide) rfl (fun ls hl => ?_)
  have loop4 : ∀ (fu : Nat) (ff : Int32) (j : Nat), j ≤ nf → nf + 1 ≤ j + fu → F_m_floorAt nf mh p0 = L_m_floorAt_4 nf mh p0 fu ff j → ∀ (H : Heap) (locs : List Loc), va_P D vwCl [(m0, .inr (5, [.int mthrown, .int (nI nf), .ref ah, .int mgap, .int mcars, .int mdark, .int msteps, .ref a_places, .ref a_speeds, .ref a_most, .ref a_gains, .ref a_brakes, .ref a_slows, .ref a_rides, .ref a_doors, .ref a_doorPlaces, .ref a_opened, .ref a_wide, .ref a_holds, .ref a_loads, .ref a_mostLoads, .ref a_beams, .ref a_contacts, .ref a_fires, .ref a_ways, .ref a_calls, .ref a_callCounts, .ref a_wears])), (ah, .inl (aI, 20, .inl mh))] H → va_D A [(m0, .inr (5, [.int mthrown, .int (nI nf), .ref ah, .int mgap, .int mcars, .int mdark, .int msteps, .ref a_places, .ref a_speeds, .ref a_most, .ref a_gains, .ref a_brakes, .ref a_slows, .ref a_rides, .ref a_doors, .ref a_doorPlaces, .ref a_opened, .ref a_wide, .ref a_holds, .ref a_loads, .ref a_mostLoads, .ref a_beams, .ref a_contacts, .ref a_fires, .ref a_ways, .ref a_calls, .ref a_callCounts, .ref a_wears])), (ah, .inl (aI, 20, .inl mh))] → va_S A s.heap H locs → ∀ (ls : Array Slot), lv_has ls 4 [(3, .int (nI j)), (2, .int ff), (0, .ref m0), (1, .int p0)] → W p l e ({ frames := 0, cells := 0, slots := 0, locals := 0 }) s m args below meth c H locs 0 0 Q (F0 m 4 ls []) := by
    intro fu
    induction fu with
    | zero => intro ff j hj hm; exact absurd hm (by omega)
    | succ fu ih =>
      intro ff j hj hm hG H locs hP hD hS ls hl
      have hG := hG.trans (L_m_floorAt_4_u nf mh p0 fu ff j)
      refine lv_iload_n hx hb dX5_floorAt_4 rfl (lv_at hl 0 rfl) ?_
      refine lv_aload_n hx hb dX5_floorAt_5 rfl (lv_at hl 2 rfl) ?_
      refine va_get (D := D) (ci := 5) (v := .int (nI nf)) (C := RX5) (T := TX5) (N := 28) hx hb hts inX5 hown hK hP 0 rfl rfl 1 (by decide) (hts _ (mG w_637)) (fun _ h9 => h9) rfl dX5_floorAt_6 ?_
      refine lv_icmp_ge (tgt := 34) hx hb dX5_floorAt_9 (by decide) (fun c_1 => ?_) (fun c_1 => ?_)
      · have hG := hG.trans (if_pos c_1)
        refine lv_iload_n hx hb dX5_floorAt_34 rfl (lv_at hl 1 rfl) ?_
        have hP := hP.sub (ws' := [(m0, .inr (5, [.int mthrown, .int (nI nf), .ref ah, .int mgap, .int mcars, .int mdark, .int msteps, .ref a_places, .ref a_speeds, .ref a_most, .ref a_gains, .ref a_brakes, .ref a_slows, .ref a_rides, .ref a_doors, .ref a_doorPlaces, .ref a_opened, .ref a_wide, .ref a_holds, .ref a_loads, .ref a_mostLoads, .ref a_beams, .ref a_contacts, .ref a_fires, .ref a_ways, .ref a_calls, .ref a_callCounts, .ref a_wears])), (ah, .inl (aI, 20, .inl mh))]) [0, 1] rfl
        have hD := hD.sub (ws' := [(m0, .inr (5, [.int mthrown, .int (nI nf), .ref ah, .int mgap, .int mcars, .int mdark, .int msteps, .ref a_places, .ref a_speeds, .ref a_most, .ref a_gains, .ref a_brakes, .ref a_slows, .ref a_rides, .ref a_doors, .ref a_doorPlaces, .ref a_opened, .ref a_wide, .ref a_holds, .ref a_loads, .ref a_mostLoads, .ref a_beams, .ref a_contacts, .ref a_fires, .ref a_ways, .ref a_calls, .ref a_callCounts, .ref a_wears])), (ah, .inl (aI, 20, .inl mh))]) [0, 1] (by decide) rfl
        exact rt_i hQ hx hb hr () hG hP hD hS (Nat.le_of_ble_eq_true rfl) (Nat.le_of_ble_eq_true rfl) dX5_floorAt_35 hlk
      · have hG := hG.trans (if_neg c_1)
        refine lv_aload_n hx hb dX5_floorAt_12 rfl (lv_at hl 2 rfl) ?_
        refine va_get (D := D) (ci := 5) (v := .ref ah) (C := RX5) (T := TX5) (N := 28) hx hb hts inX5 hown hK hP 0 rfl rfl 2 (by decide) (hts _ (mG w_638)) (fun _ h9 => h9) rfl dX5_floorAt_13 ?_
        refine lv_iload_n hx hb dX5_floorAt_16 rfl (lv_at hl 0 rfl) ?_
        refine va_iald hx hb hK hP 1 0 rfl rfl (ixm hnf2 hj c_1) dX5_floorAt_17 ?_
        refine lv_iload_n hx hb dX5_floorAt_18 rfl (lv_at hl 3 rfl) ?_
        refine lv_icmp_ne (tgt := 26) hx hb dX5_floorAt_19 (by decide) (fun c_2 => ?_) (fun c_2 => ?_)
        · have hG := hG.trans (if_neg c_2)
          refine lv_iload_n hx hb dX5_floorAt_26 rfl (lv_at hl 1 rfl) ?_
          refine lv_istore_n (lv' := [(2, .int ff), (3, .int (nI j)), (0, .ref m0), (1, .int p0)]) hx hb dX5_floorAt_27 rfl hl (by decide) rfl (fun ls hl => ?_)
          refine lv_iinc (v := (nI (j + 1))) (lv' := [(3, .int (nI (j + 1))), (2, .int ff), (0, .ref m0), (1, .int p0)]) hx hb dX5_floorAt_28 hl (k := 1) rfl (nI_1 _) (by decide) rfl (fun ls hl => ?_)
          refine lv_goto (tgt := 4) hx hb dX5_floorAt_31 (by decide) ?_
          exact ih ff (j + 1) (ixm_s hnf2 hj c_1) (by omega) hG _ _ (hP.sub [0, 1] rfl) (hD.sub [0, 1] (by decide) rfl) hS ls (lv_sub hl [0, 1, 2, 3] rfl)
        · have hG := hG.trans (if_pos c_2)
          refine lv_iload_n hx hb dX5_floorAt_22 rfl (lv_at hl 0 rfl) ?_
          refine lv_goto (tgt := 27) hx hb dX5_floorAt_23 (by decide) ?_
          refine lv_istore_n (lv' := [(2, .int (nI j)), (3, .int (nI j)), (0, .ref m0), (1, .int p0)]) hx hb dX5_floorAt_27 rfl hl (by decide) rfl (fun ls hl => ?_)
          refine lv_iinc (v := (nI (j + 1))) (lv' := [(3, .int (nI (j + 1))), (2, .int (nI j)), (0, .ref m0), (1, .int p0)]) hx hb dX5_floorAt_28 hl (k := 1) rfl (nI_1 _) (by decide) rfl (fun ls hl => ?_)
          refine lv_goto (tgt := 4) hx hb dX5_floorAt_31 (by decide) ?_
          exact ih (nI j) (j + 1) (ixm_s hnf2 hj c_1) (by omega) hG _ _ (hP.sub [0, 1] rfl) (hD.sub [0, 1] (by decide) rfl) hS ls (lv_sub hl [0, 1, 2, 3] rfl)
  exact loop4 (nf + 1) (-1) 0 (Nat.zero_le _) (by omega) hG _ _ hP hD hS ls (lv_sub hl [0, 1, 2, 3] rfl)
theorem dX5_wanted_0 : decode cX5_wanted 0 = .ok (.aload_n 0, 1) := by decide +kernel
theorem dX5_wanted_1 : decode cX5_wanted 1 = .ok (.iload_n 1, 1) := by decide +kernel
theorem dX5_wanted_2 : decode cX5_wanted 2 = .ok (.invokevirtual 108, 3) := by decide +kernel
theorem dX5_wanted_5 : decode cX5_wanted 5 = .ok (.tableswitch 131 0 4 #[35, 131, 75, 63, 86], 35) := by decide +kernel
theorem dX5_wanted_40 : decode cX5_wanted 40 = .ok (.aload_n 0, 1) := by decide +kernel
theorem dX5_wanted_41 : decode cX5_wanted 41 = .ok (.getfield 75, 3) := by decide +kernel
theorem dX5_wanted_44 : decode cX5_wanted 44 = .ok (.iload_n 1, 1) := by decide +kernel
theorem dX5_wanted_45 : decode cX5_wanted 45 = .ok (.iaload, 1) := by decide +kernel
theorem dX5_wanted_46 : decode cX5_wanted 46 = .ok (.ifCond .le 20, 3) := by decide +kernel
theorem dX5_wanted_49 : decode cX5_wanted 49 = .ok (.aload_n 0, 1) := by decide +kernel
theorem dX5_wanted_50 : decode cX5_wanted 50 = .ok (.getfield 7, 3) := by decide +kernel
theorem dX5_wanted_53 : decode cX5_wanted 53 = .ok (.aload_n 0, 1) := by decide +kernel
theorem dX5_wanted_54 : decode cX5_wanted 54 = .ok (.getfield 72, 3) := by decide +kernel
theorem dX5_wanted_57 : decode cX5_wanted 57 = .ok (.bipush 8, 2) := by decide +kernel
theorem dX5_wanted_59 : decode cX5_wanted 59 = .ok (.iload_n 1, 1) := by decide +kernel
theorem dX5_wanted_60 : decode cX5_wanted 60 = .ok (.imul, 1) := by decide +kernel
theorem dX5_wanted_61 : decode cX5_wanted 61 = .ok (.iaload, 1) := by decide +kernel
theorem dX5_wanted_62 : decode cX5_wanted 62 = .ok (.iaload, 1) := by decide +kernel
theorem dX5_wanted_63 : decode cX5_wanted 63 = .ok (.goto 4, 3) := by decide +kernel
theorem dX5_wanted_66 : decode cX5_wanted 66 = .ok (.iconst (-1), 1) := by decide +kernel
theorem dX5_wanted_67 : decode cX5_wanted 67 = .ok (.ireturn, 1) := by decide +kernel
theorem dX5_wanted_68 : decode cX5_wanted 68 = .ok (.aload_n 0, 1) := by decide +kernel
theorem dX5_wanted_69 : decode cX5_wanted 69 = .ok (.getfield 7, 3) := by decide +kernel
theorem dX5_wanted_72 : decode cX5_wanted 72 = .ok (.aload_n 0, 1) := by decide +kernel
theorem dX5_wanted_73 : decode cX5_wanted 73 = .ok (.getfield 66, 3) := by decide +kernel
theorem dX5_wanted_76 : decode cX5_wanted 76 = .ok (.iload_n 1, 1) := by decide +kernel
theorem dX5_wanted_77 : decode cX5_wanted 77 = .ok (.iaload, 1) := by decide +kernel
theorem dX5_wanted_78 : decode cX5_wanted 78 = .ok (.iaload, 1) := by decide +kernel
theorem dX5_wanted_79 : decode cX5_wanted 79 = .ok (.ireturn, 1) := by decide +kernel
theorem dX5_wanted_80 : decode cX5_wanted 80 = .ok (.aload_n 0, 1) := by decide +kernel
theorem dX5_wanted_81 : decode cX5_wanted 81 = .ok (.aload_n 0, 1) := by decide +kernel
theorem dX5_wanted_82 : decode cX5_wanted 82 = .ok (.getfield 17, 3) := by decide +kernel
theorem dX5_wanted_85 : decode cX5_wanted 85 = .ok (.iload_n 1, 1) := by decide +kernel
theorem dX5_wanted_86 : decode cX5_wanted 86 = .ok (.iaload, 1) := by decide +kernel
theorem dX5_wanted_87 : decode cX5_wanted 87 = .ok (.invokevirtual 111, 3) := by decide +kernel
theorem dX5_wanted_90 : decode cX5_wanted 90 = .ok (.ireturn, 1) := by decide +kernel
theorem dX5_wanted_91 : decode cX5_wanted 91 = .ok (.aload_n 0, 1) := by decide +kernel
theorem dX5_wanted_92 : decode cX5_wanted 92 = .ok (.getfield 69, 3) := by decide +kernel
theorem dX5_wanted_95 : decode cX5_wanted 95 = .ok (.iload_n 1, 1) := by decide +kernel
theorem dX5_wanted_96 : decode cX5_wanted 96 = .ok (.iaload, 1) := by decide +kernel
theorem dX5_wanted_97 : decode cX5_wanted 97 = .ok (.iconst 1, 1) := by decide +kernel
theorem dX5_wanted_98 : decode cX5_wanted 98 = .ok (.if_icmp .ne 17, 3) := by decide +kernel
theorem dX5_wanted_101 : decode cX5_wanted 101 = .ok (.aload_n 0, 1) := by decide +kernel
theorem dX5_wanted_102 : decode cX5_wanted 102 = .ok (.getfield 7, 3) := by decide +kernel
theorem dX5_wanted_105 : decode cX5_wanted 105 = .ok (.aload_n 0, 1) := by decide +kernel
theorem dX5_wanted_106 : decode cX5_wanted 106 = .ok (.getfield 81, 3) := by decide +kernel
theorem dX5_wanted_109 : decode cX5_wanted 109 = .ok (.iconst 1, 1) := by decide +kernel
theorem dX5_wanted_110 : decode cX5_wanted 110 = .ok (.isub, 1) := by decide +kernel
theorem dX5_wanted_111 : decode cX5_wanted 111 = .ok (.iaload, 1) := by decide +kernel
theorem dX5_wanted_112 : decode cX5_wanted 112 = .ok (.goto 23, 3) := by decide +kernel
theorem dX5_wanted_115 : decode cX5_wanted 115 = .ok (.aload_n 0, 1) := by decide +kernel
theorem dX5_wanted_116 : decode cX5_wanted 116 = .ok (.getfield 69, 3) := by decide +kernel
theorem dX5_wanted_119 : decode cX5_wanted 119 = .ok (.iload_n 1, 1) := by decide +kernel
theorem dX5_wanted_120 : decode cX5_wanted 120 = .ok (.iaload, 1) := by decide +kernel
theorem dX5_wanted_121 : decode cX5_wanted 121 = .ok (.iconst (-1), 1) := by decide +kernel
theorem dX5_wanted_122 : decode cX5_wanted 122 = .ok (.if_icmp .ne 12, 3) := by decide +kernel
theorem dX5_wanted_125 : decode cX5_wanted 125 = .ok (.aload_n 0, 1) := by decide +kernel
theorem dX5_wanted_126 : decode cX5_wanted 126 = .ok (.getfield 7, 3) := by decide +kernel
theorem dX5_wanted_129 : decode cX5_wanted 129 = .ok (.iconst 0, 1) := by decide +kernel
theorem dX5_wanted_130 : decode cX5_wanted 130 = .ok (.iaload, 1) := by decide +kernel
theorem dX5_wanted_131 : decode cX5_wanted 131 = .ok (.goto 4, 3) := by decide +kernel
theorem dX5_wanted_134 : decode cX5_wanted 134 = .ok (.iconst (-1), 1) := by decide +kernel
theorem dX5_wanted_135 : decode cX5_wanted 135 = .ok (.ireturn, 1) := by decide +kernel
theorem dX5_wanted_136 : decode cX5_wanted 136 = .ok (.iconst (-1), 1) := by decide +kernel
theorem dX5_wanted_137 : decode cX5_wanted 137 = .ok (.ireturn, 1) := by decide +kernel
theorem mode3_0 {mdark mcontacts0 mfires0 mways0 : Int32} (h : F_m_mode_0 mdark mcontacts0 mfires0 mways0 = 3) : ¬ mfires0 = (-1) := by
  intro e
  unfold F_m_mode_0 at h
  by_cases c1 : mcontacts0 = 0
  · rw [if_pos c1] at h
    by_cases c2 : mdark = 0
    · rw [if_pos c2, if_pos e] at h
      by_cases c3 : mways0 = 2
      · rw [if_pos c3] at h; exact absurd h (by decide)
      · rw [if_neg c3] at h; exact absurd h (by decide)
    · rw [if_neg c2] at h; exact absurd h (by decide)
  · rw [if_neg c1] at h; exact absurd h (by decide)
def F_m_wanted_0 (nf : Nat) (mdark : Int32) (mh : Nat → Int32) (mplaces0 : Int32) (mcontacts0 : Int32) (mfires0 : Int32) (mways0 : Int32) (mcalls : Nat → Int32) (mcallCounts0 : Int32) : Int32 :=
  cb (F_m_mode_0 mdark mcontacts0 mfires0 mways0) fun r_1 =>
    if r_1 = 0 then
      if mcallCounts0 ≤ 0 then
        (-1)
      else
        (mh (mcalls 0).toNatClampNeg)
    else
      if r_1 = 1 then
        (-1)
      else
        if r_1 = 2 then
          cb (F_m_nearest nf mh mplaces0) fun r_9 =>
            r_9
        else
          if r_1 = 3 then
            (mh mfires0.toNatClampNeg)
          else
            if r_1 = 4 then
              if mways0 = 1 then
                (mh ((nI nf) - 1).toNatClampNeg)
              else
                if mways0 = (-1) then
                  (mh 0)
                else
                  (-1)
            else
              (-1)
theorem F_m_wanted_0_u (nf : Nat) (mdark : Int32) (mh : Nat → Int32) (mplaces0 : Int32) (mcontacts0 : Int32) (mfires0 : Int32) (mways0 : Int32) (mcalls : Nat → Int32) (mcallCounts0 : Int32) : F_m_wanted_0 nf mdark mh mplaces0 mcontacts0 mfires0 mways0 mcalls mcallCounts0 =
  (cb (F_m_mode_0 mdark mcontacts0 mfires0 mways0) fun r_1 =>
    if r_1 = 0 then
      if mcallCounts0 ≤ 0 then
        (-1)
      else
        (mh (mcalls 0).toNatClampNeg)
    else
      if r_1 = 1 then
        (-1)
      else
        if r_1 = 2 then
          cb (F_m_nearest nf mh mplaces0) fun r_9 =>
            r_9
        else
          if r_1 = 3 then
            (mh mfires0.toNatClampNeg)
          else
            if r_1 = 4 then
              if mways0 = 1 then
                (mh ((nI nf) - 1).toNatClampNeg)
              else
                if mways0 = (-1) then
                  (mh 0)
                else
                  (-1)
            else
              (-1)) := rfl
set_option maxHeartbeats 4000000 in
set_option maxRecDepth 100000 in
theorem c_m_wanted_0 (l : Launch) (D : va_G) (aI aL aZ : ClassId) (sz : Nat) (m0 : Nat) (ah : Nat) (a_places : Nat) (a_speeds : Nat) (a_most : Nat) (a_gains : Nat) (a_brakes : Nat) (a_slows : Nat) (a_rides : Nat) (a_doors : Nat) (a_doorPlaces : Nat) (a_opened : Nat) (a_wide : Nat) (a_holds : Nat) (a_loads : Nat) (a_mostLoads : Nat) (a_beams : Nat) (a_contacts : Nat) (a_fires : Nat) (a_ways : Nat) (a_calls : Nat) (a_callCounts : Nat) (a_wears : Nat) (mthrown : Int32) (nf : Nat) (mgap : Int32) (mcars : Int32) (mdark : Int32) (msteps : Int32) (mh : Nat → Int32) (mplaces0 : Int32) (mplaces1 : Int32) (mcontacts0 : Int32) (mcontacts1 : Int32) (mfires0 : Int32) (mfires1 : Int32) (mways0 : Int32) (mways1 : Int32) (mcalls : Nat → Int32) (mcallCounts0 : Int32) (mcallCounts1 : Int32) (hnf : 1 ≤ nf) (hnf2 : nf ≤ 20) (hcl : ¬ mcallCounts0 ≤ 0 → vp_in (mcalls 0) 20) (hfi : ¬ mfires0 = (-1) → vp_in mfires0 20) : Met l yX5_wanted (.code yX5_wanted cX5_wanted 2 (some .int) :: Gw) ({ frames := 2, cells := 0, slots := 0, locals := 43 }) (va_Pc [.ref m0, .int 0] (mpre D [(aI, .int), (aL, .long), (aZ, .boolean)] [(m0, .inr (5, [.int mthrown, .int (nI nf), .ref ah, .int mgap, .int mcars, .int mdark, .int msteps, .ref a_places, .ref a_speeds, .ref a_most, .ref a_gains, .ref a_brakes, .ref a_slows, .ref a_rides, .ref a_doors, .ref a_doorPlaces, .ref a_opened, .ref a_wide, .ref a_holds, .ref a_loads, .ref a_mostLoads, .ref a_beams, .ref a_contacts, .ref a_fires, .ref a_ways, .ref a_calls, .ref a_callCounts, .ref a_wears])), (ah, .inl (aI, 20, .inl mh)), (a_places, .inl (aI, 2, .inl (arL [mplaces0, mplaces1]))), (a_contacts, .inl (aI, 2, .inl (arL [mcontacts0, mcontacts1]))), (a_fires, .inl (aI, 2, .inl (arL [mfires0, mfires1]))), (a_ways, .inl (aI, 2, .inl (arL [mways0, mways1]))), (a_calls, .inl (aI, 16, .inl mcalls)), (a_callCounts, .inl (aI, 2, .inl (arL [mcallCounts0, mcallCounts1])))] sz)) ((fun A : Nat → Prop => va_Qi (fun (r : Int32) (u : Unit) => F_m_wanted_0 nf mdark mh mplaces0 mcontacts0 mfires0 mways0 mcalls mcallCounts0 = r) (mpst D A (fun (u : Unit) => [(m0, .inr (5, [.int mthrown, .int (nI nf), .ref ah, .int mgap, .int mcars, .int mdark, .int msteps, .ref a_places, .ref a_speeds, .ref a_most, .ref a_gains, .ref a_brakes, .ref a_slows, .ref a_rides, .ref a_doors, .ref a_doorPlaces, .ref a_opened, .ref a_wide, .ref a_holds, .ref a_loads, .ref a_mostLoads, .ref a_beams, .ref a_contacts, .ref a_fires, .ref a_ways, .ref a_calls, .ref a_callCounts, .ref a_wears])), (ah, .inl (aI, 20, .inl mh)), (a_places, .inl (aI, 2, .inl (arL [mplaces0, mplaces1]))), (a_contacts, .inl (aI, 2, .inl (arL [mcontacts0, mcontacts1]))), (a_fires, .inl (aI, 2, .inl (arL [mfires0, mfires1]))), (a_ways, .inl (aI, 2, .inl (arL [mways0, mways1]))), (a_calls, .inl (aI, 16, .inl mcalls)), (a_callCounts, .inl (aI, 2, .inl (arL [mcallCounts0, mcallCounts1])))])) A) (va_A ([(m0, .inr (5, [.int mthrown, .int (nI nf), .ref ah, .int mgap, .int mcars, .int mdark, .int msteps, .ref a_places, .ref a_speeds, .ref a_most, .ref a_gains, .ref a_brakes, .ref a_slows, .ref a_rides, .ref a_doors, .ref a_doorPlaces, .ref a_opened, .ref a_wide, .ref a_holds, .ref a_loads, .ref a_mostLoads, .ref a_beams, .ref a_contacts, .ref a_fires, .ref a_ways, .ref a_calls, .ref a_callCounts, .ref a_wears])), (ah, .inl (aI, 20, .inl mh)), (a_places, .inl (aI, 2, .inl (arL [mplaces0, mplaces1]))), (a_contacts, .inl (aI, 2, .inl (arL [mcontacts0, mcontacts1]))), (a_fires, .inl (aI, 2, .inl (arL [mfires0, mfires1]))), (a_ways, .inl (aI, 2, .inl (arL [mways0, mways1]))), (a_calls, .inl (aI, 16, .inl mcalls)), (a_callCounts, .inl (aI, 2, .inl (arL [mcallCounts0, mcallCounts1])))]) sz)) 0 0 (va_A ([(m0, .inr (5, [.int mthrown, .int (nI nf), .ref ah, .int mgap, .int mcars, .int mdark, .int msteps, .ref a_places, .ref a_speeds, .ref a_most, .ref a_gains, .ref a_brakes, .ref a_slows, .ref a_rides, .ref a_doors, .ref a_doorPlaces, .ref a_opened, .ref a_wide, .ref a_holds, .ref a_loads, .ref a_mostLoads, .ref a_beams, .ref a_contacts, .ref a_fires, .ref a_ways, .ref a_calls, .ref a_callCounts, .ref a_wears])), (ah, .inl (aI, 20, .inl mh)), (a_places, .inl (aI, 2, .inl (arL [mplaces0, mplaces1]))), (a_contacts, .inl (aI, 2, .inl (arL [mcontacts0, mcontacts1]))), (a_fires, .inl (aI, 2, .inl (arL [mfires0, mfires1]))), (a_ways, .inl (aI, 2, .inl (arL [mways0, mways1]))), (a_calls, .inl (aI, 16, .inl mcalls)), (a_callCounts, .inl (aI, 2, .inl (arL [mcallCounts0, mcallCounts1])))]) sz) := by
  refine en (cc := cX5_wanted) (maxL := 2) (ret := (some .int)) (Qc := (fun A : Nat → Prop => va_Qi (fun (r : Int32) (u : Unit) => F_m_wanted_0 nf mdark mh mplaces0 mcontacts0 mfires0 mways0 mcalls mcallCounts0 = r) (mpst D A (fun (u : Unit) => [(m0, .inr (5, [.int mthrown, .int (nI nf), .ref ah, .int mgap, .int mcars, .int mdark, .int msteps, .ref a_places, .ref a_speeds, .ref a_most, .ref a_gains, .ref a_brakes, .ref a_slows, .ref a_rides, .ref a_doors, .ref a_doorPlaces, .ref a_opened, .ref a_wide, .ref a_holds, .ref a_loads, .ref a_mostLoads, .ref a_beams, .ref a_contacts, .ref a_fires, .ref a_ways, .ref a_calls, .ref a_callCounts, .ref a_wears])), (ah, .inl (aI, 20, .inl mh)), (a_places, .inl (aI, 2, .inl (arL [mplaces0, mplaces1]))), (a_contacts, .inl (aI, 2, .inl (arL [mcontacts0, mcontacts1]))), (a_fires, .inl (aI, 2, .inl (arL [mfires0, mfires1]))), (a_ways, .inl (aI, 2, .inl (arL [mways0, mways1]))), (a_calls, .inl (aI, 16, .inl mcalls)), (a_callCounts, .inl (aI, 2, .inl (arL [mcallCounts0, mcallCounts1])))])) A)) (by decide) rfl (Nat.le_of_ble_eq_true rfl) ?_
  intro p e s m args below meth c A ls Q hQ hx hb hr hts hown hlk hnm hml hA hS hP hK hD hE hl
  have hown : s.vm.findClass RX5 = some m.cls := hown
  have hl : lv_has ls 2 [(0, .ref m0), (1, .int 0)] := hl
  have hG := F_m_wanted_0_u nf mdark mh mplaces0 mcontacts0 mfires0 mways0 mcalls mcallCounts0
  refine lv_aload_n hx hb dX5_wanted_0 rfl (lv_at hl 0 rfl) ?_
  refine lv_iload_n hx hb dX5_wanted_1 rfl (lv_at hl 1 rfl) ?_
  refine my_i (wr := [(ah, .inl (aI, 20, .inl mh)), (a_places, .inl (aI, 2, .inl (arL [mplaces0, mplaces1]))), (a_calls, .inl (aI, 16, .inl mcalls)), (a_callCounts, .inl (aI, 2, .inl (arL [mcallCounts0, mcallCounts1])))]) [0, 3, 4, 5] [1, 2, 6, 7] (va_runV (As := [.int 0]) (rest := []) ⟨hx, hb, hml, hown, hts⟩ (c_m_mode_0 l D aI aL aZ _ m0 ah a_places a_speeds a_most a_gains a_brakes a_slows a_rides a_doors a_doorPlaces a_opened a_wide a_holds a_loads a_mostLoads a_beams a_contacts a_fires a_ways a_calls a_callCounts a_wears mthrown nf mgap mcars mdark msteps mcontacts0 mcontacts1 mfires0 mfires1 mways0 mways1) (cwV 1 hts (gV w_835 w_837 w_25 w_38 w_838) rfl rfl rfl (by decide +kernel) ⟨Nat.le_of_ble_eq_true rfl, Nat.le_of_ble_eq_true rfl⟩) (prev_of hK hP hD hS hA hE [0, 3, 4, 5] rfl (by decide) (ci := 5) rfl 0 rfl _) rfl rfl hl.1 rfl (lv_room (Nat.le_of_ble_eq_true rfl)) dX5_wanted_2 ⟨Nat.le_of_ble_eq_true rfl, Nat.le_of_ble_eq_true rfl⟩) hP hD hS hA rfl rfl (by decide) (by decide) (fun r_1 u_ H locs hw_2 hP hD hS => ?_)
  have hw_2 : F_m_mode_0 mdark mcontacts0 mfires0 mways0 = r_1 := hw_2
  have hG := hG.trans (cb_e hw_2)
  have hP : va_P D vwCl [(ah, .inl (aI, 20, .inl mh)), (a_places, .inl (aI, 2, .inl (arL [mplaces0, mplaces1]))), (a_calls, .inl (aI, 16, .inl mcalls)), (a_callCounts, .inl (aI, 2, .inl (arL [mcallCounts0, mcallCounts1]))), (m0, .inr (5, [.int mthrown, .int (nI nf), .ref ah, .int mgap, .int mcars, .int mdark, .int msteps, .ref a_places, .ref a_speeds, .ref a_most, .ref a_gains, .ref a_brakes, .ref a_slows, .ref a_rides, .ref a_doors, .ref a_doorPlaces, .ref a_opened, .ref a_wide, .ref a_holds, .ref a_loads, .ref a_mostLoads, .ref a_beams, .ref a_contacts, .ref a_fires, .ref a_ways, .ref a_calls, .ref a_callCounts, .ref a_wears])), (a_contacts, .inl (aI, 2, .inl (arL [mcontacts0, mcontacts1]))), (a_fires, .inl (aI, 2, .inl (arL [mfires0, mfires1]))), (a_ways, .inl (aI, 2, .inl (arL [mways0, mways1])))] H := hP
  have hD : va_D A [(ah, .inl (aI, 20, .inl mh)), (a_places, .inl (aI, 2, .inl (arL [mplaces0, mplaces1]))), (a_calls, .inl (aI, 16, .inl mcalls)), (a_callCounts, .inl (aI, 2, .inl (arL [mcallCounts0, mcallCounts1]))), (m0, .inr (5, [.int mthrown, .int (nI nf), .ref ah, .int mgap, .int mcars, .int mdark, .int msteps, .ref a_places, .ref a_speeds, .ref a_most, .ref a_gains, .ref a_brakes, .ref a_slows, .ref a_rides, .ref a_doors, .ref a_doorPlaces, .ref a_opened, .ref a_wide, .ref a_holds, .ref a_loads, .ref a_mostLoads, .ref a_beams, .ref a_contacts, .ref a_fires, .ref a_ways, .ref a_calls, .ref a_callCounts, .ref a_wears])), (a_contacts, .inl (aI, 2, .inl (arL [mcontacts0, mcontacts1]))), (a_fires, .inl (aI, 2, .inl (arL [mfires0, mfires1]))), (a_ways, .inl (aI, 2, .inl (arL [mways0, mways1])))] := hD
  by_cases c_3 : r_1 = 0
  · have hG := hG.trans (if_pos c_3)
    refine lv_tableIn (off := 35) (tgt := 40) hx hb dX5_wanted_5 (by rw [c_3]; decide) (by rw [c_3]; decide) (by rw [c_3]; rfl) (by decide) ?_
    refine lv_aload_n hx hb dX5_wanted_40 rfl (lv_at hl 0 rfl) ?_
    refine va_get (D := D) (ci := 5) (v := .ref a_callCounts) (C := RX5) (T := TX5) (N := 28) hx hb hts inX5 hown hK hP 4 rfl rfl 26 (by decide) (hts _ (mG w_662)) (fun _ h9 => h9) rfl dX5_wanted_41 ?_
    refine lv_iload_n hx hb dX5_wanted_44 rfl (lv_at hl 1 rfl) ?_
    refine my_iald (v := mcallCounts0) (k := 0) hx hb hK hP 3 0 rfl rfl (by decide) (by decide) rfl dX5_wanted_45 ?_
    refine lv_if_le (tgt := 66) hx hb dX5_wanted_46 (by decide) (fun c_4 => ?_) (fun c_4 => ?_)
    · have hG := hG.trans (if_pos c_4)
      refine lv_iconst (v := (-1)) hx hb dX5_wanted_66 (by decide) ?_
      have hP := hP.sub (ws' := [(m0, .inr (5, [.int mthrown, .int (nI nf), .ref ah, .int mgap, .int mcars, .int mdark, .int msteps, .ref a_places, .ref a_speeds, .ref a_most, .ref a_gains, .ref a_brakes, .ref a_slows, .ref a_rides, .ref a_doors, .ref a_doorPlaces, .ref a_opened, .ref a_wide, .ref a_holds, .ref a_loads, .ref a_mostLoads, .ref a_beams, .ref a_contacts, .ref a_fires, .ref a_ways, .ref a_calls, .ref a_callCounts, .ref a_wears])), (ah, .inl (aI, 20, .inl mh)), (a_places, .inl (aI, 2, .inl (arL [mplaces0, mplaces1]))), (a_contacts, .inl (aI, 2, .inl (arL [mcontacts0, mcontacts1]))), (a_fires, .inl (aI, 2, .inl (arL [mfires0, mfires1]))), (a_ways, .inl (aI, 2, .inl (arL [mways0, mways1]))), (a_calls, .inl (aI, 16, .inl mcalls)), (a_callCounts, .inl (aI, 2, .inl (arL [mcallCounts0, mcallCounts1])))]) [4, 0, 1, 5, 6, 7, 2, 3] rfl
      have hD := hD.sub (ws' := [(m0, .inr (5, [.int mthrown, .int (nI nf), .ref ah, .int mgap, .int mcars, .int mdark, .int msteps, .ref a_places, .ref a_speeds, .ref a_most, .ref a_gains, .ref a_brakes, .ref a_slows, .ref a_rides, .ref a_doors, .ref a_doorPlaces, .ref a_opened, .ref a_wide, .ref a_holds, .ref a_loads, .ref a_mostLoads, .ref a_beams, .ref a_contacts, .ref a_fires, .ref a_ways, .ref a_calls, .ref a_callCounts, .ref a_wears])), (ah, .inl (aI, 20, .inl mh)), (a_places, .inl (aI, 2, .inl (arL [mplaces0, mplaces1]))), (a_contacts, .inl (aI, 2, .inl (arL [mcontacts0, mcontacts1]))), (a_fires, .inl (aI, 2, .inl (arL [mfires0, mfires1]))), (a_ways, .inl (aI, 2, .inl (arL [mways0, mways1]))), (a_calls, .inl (aI, 16, .inl mcalls)), (a_callCounts, .inl (aI, 2, .inl (arL [mcallCounts0, mcallCounts1])))]) [4, 0, 1, 5, 6, 7, 2, 3] (by decide) rfl
      exact rt_i hQ hx hb hr () hG hP hD hS (Nat.le_of_ble_eq_true rfl) (Nat.le_of_ble_eq_true rfl) dX5_wanted_67 hlk
    · have hG := hG.trans (if_neg c_4)
      refine lv_aload_n hx hb dX5_wanted_49 rfl (lv_at hl 0 rfl) ?_
      refine va_get (D := D) (ci := 5) (v := .ref ah) (C := RX5) (T := TX5) (N := 28) hx hb hts inX5 hown hK hP 4 rfl rfl 2 (by decide) (hts _ (mG w_638)) (fun _ h9 => h9) rfl dX5_wanted_50 ?_
      refine lv_aload_n hx hb dX5_wanted_53 rfl (lv_at hl 0 rfl) ?_
      refine va_get (D := D) (ci := 5) (v := .ref a_calls) (C := RX5) (T := TX5) (N := 28) hx hb hts inX5 hown hK hP 4 rfl rfl 25 (by decide) (hts _ (mG w_661)) (fun _ h9 => h9) rfl dX5_wanted_54 ?_
      refine lv_bipush (v := 8) hx hb dX5_wanted_57 (by decide) ?_
      refine lv_iload_n hx hb dX5_wanted_59 rfl (lv_at hl 1 rfl) ?_
      refine lv_imul hx hb dX5_wanted_60 ?_
      refine lv_topi (fun y_5 hy_5 => ?_)
      obtain rfl : y_5 = 0 := hy_5.trans (by decide)
      refine va_iald hx hb hK hP 2 0 rfl rfl (by unfold vp_in; decide) dX5_wanted_61 ?_
      refine lv_topi (fun y_6 hy_6 => ?_)
      obtain rfl : y_6 = (mcalls 0) := hy_6.trans (congrArg mcalls (by decide))
      refine va_iald hx hb hK hP 0 0 rfl rfl (hcl c_4) dX5_wanted_62 ?_
      refine lv_goto (tgt := 67) hx hb dX5_wanted_63 (by decide) ?_
      have hP := hP.sub (ws' := [(m0, .inr (5, [.int mthrown, .int (nI nf), .ref ah, .int mgap, .int mcars, .int mdark, .int msteps, .ref a_places, .ref a_speeds, .ref a_most, .ref a_gains, .ref a_brakes, .ref a_slows, .ref a_rides, .ref a_doors, .ref a_doorPlaces, .ref a_opened, .ref a_wide, .ref a_holds, .ref a_loads, .ref a_mostLoads, .ref a_beams, .ref a_contacts, .ref a_fires, .ref a_ways, .ref a_calls, .ref a_callCounts, .ref a_wears])), (ah, .inl (aI, 20, .inl mh)), (a_places, .inl (aI, 2, .inl (arL [mplaces0, mplaces1]))), (a_contacts, .inl (aI, 2, .inl (arL [mcontacts0, mcontacts1]))), (a_fires, .inl (aI, 2, .inl (arL [mfires0, mfires1]))), (a_ways, .inl (aI, 2, .inl (arL [mways0, mways1]))), (a_calls, .inl (aI, 16, .inl mcalls)), (a_callCounts, .inl (aI, 2, .inl (arL [mcallCounts0, mcallCounts1])))]) [4, 0, 1, 5, 6, 7, 2, 3] rfl
      have hD := hD.sub (ws' := [(m0, .inr (5, [.int mthrown, .int (nI nf), .ref ah, .int mgap, .int mcars, .int mdark, .int msteps, .ref a_places, .ref a_speeds, .ref a_most, .ref a_gains, .ref a_brakes, .ref a_slows, .ref a_rides, .ref a_doors, .ref a_doorPlaces, .ref a_opened, .ref a_wide, .ref a_holds, .ref a_loads, .ref a_mostLoads, .ref a_beams, .ref a_contacts, .ref a_fires, .ref a_ways, .ref a_calls, .ref a_callCounts, .ref a_wears])), (ah, .inl (aI, 20, .inl mh)), (a_places, .inl (aI, 2, .inl (arL [mplaces0, mplaces1]))), (a_contacts, .inl (aI, 2, .inl (arL [mcontacts0, mcontacts1]))), (a_fires, .inl (aI, 2, .inl (arL [mfires0, mfires1]))), (a_ways, .inl (aI, 2, .inl (arL [mways0, mways1]))), (a_calls, .inl (aI, 16, .inl mcalls)), (a_callCounts, .inl (aI, 2, .inl (arL [mcallCounts0, mcallCounts1])))]) [4, 0, 1, 5, 6, 7, 2, 3] (by decide) rfl
      exact rt_i hQ hx hb hr () hG hP hD hS (Nat.le_of_ble_eq_true rfl) (Nat.le_of_ble_eq_true rfl) dX5_wanted_67 hlk
  · have hG := hG.trans (if_neg c_3)
    by_cases c_7 : r_1 = 1
    · have hG := hG.trans (if_pos c_7)
      refine lv_tableIn (off := 131) (tgt := 136) hx hb dX5_wanted_5 (by rw [c_7]; decide) (by rw [c_7]; decide) (by rw [c_7]; rfl) (by decide) ?_
      refine lv_iconst (v := (-1)) hx hb dX5_wanted_136 (by decide) ?_
      have hP := hP.sub (ws' := [(m0, .inr (5, [.int mthrown, .int (nI nf), .ref ah, .int mgap, .int mcars, .int mdark, .int msteps, .ref a_places, .ref a_speeds, .ref a_most, .ref a_gains, .ref a_brakes, .ref a_slows, .ref a_rides, .ref a_doors, .ref a_doorPlaces, .ref a_opened, .ref a_wide, .ref a_holds, .ref a_loads, .ref a_mostLoads, .ref a_beams, .ref a_contacts, .ref a_fires, .ref a_ways, .ref a_calls, .ref a_callCounts, .ref a_wears])), (ah, .inl (aI, 20, .inl mh)), (a_places, .inl (aI, 2, .inl (arL [mplaces0, mplaces1]))), (a_contacts, .inl (aI, 2, .inl (arL [mcontacts0, mcontacts1]))), (a_fires, .inl (aI, 2, .inl (arL [mfires0, mfires1]))), (a_ways, .inl (aI, 2, .inl (arL [mways0, mways1]))), (a_calls, .inl (aI, 16, .inl mcalls)), (a_callCounts, .inl (aI, 2, .inl (arL [mcallCounts0, mcallCounts1])))]) [4, 0, 1, 5, 6, 7, 2, 3] rfl
      have hD := hD.sub (ws' := [(m0, .inr (5, [.int mthrown, .int (nI nf), .ref ah, .int mgap, .int mcars, .int mdark, .int msteps, .ref a_places, .ref a_speeds, .ref a_most, .ref a_gains, .ref a_brakes, .ref a_slows, .ref a_rides, .ref a_doors, .ref a_doorPlaces, .ref a_opened, .ref a_wide, .ref a_holds, .ref a_loads, .ref a_mostLoads, .ref a_beams, .ref a_contacts, .ref a_fires, .ref a_ways, .ref a_calls, .ref a_callCounts, .ref a_wears])), (ah, .inl (aI, 20, .inl mh)), (a_places, .inl (aI, 2, .inl (arL [mplaces0, mplaces1]))), (a_contacts, .inl (aI, 2, .inl (arL [mcontacts0, mcontacts1]))), (a_fires, .inl (aI, 2, .inl (arL [mfires0, mfires1]))), (a_ways, .inl (aI, 2, .inl (arL [mways0, mways1]))), (a_calls, .inl (aI, 16, .inl mcalls)), (a_callCounts, .inl (aI, 2, .inl (arL [mcallCounts0, mcallCounts1])))]) [4, 0, 1, 5, 6, 7, 2, 3] (by decide) rfl
      exact rt_i hQ hx hb hr () hG hP hD hS (Nat.le_of_ble_eq_true rfl) (Nat.le_of_ble_eq_true rfl) dX5_wanted_137 hlk
    · have hG := hG.trans (if_neg c_7)
      by_cases c_8 : r_1 = 2
      · have hG := hG.trans (if_pos c_8)
        refine lv_tableIn (off := 75) (tgt := 80) hx hb dX5_wanted_5 (by rw [c_8]; decide) (by rw [c_8]; decide) (by rw [c_8]; rfl) (by decide) ?_
        refine lv_aload_n hx hb dX5_wanted_80 rfl (lv_at hl 0 rfl) ?_
        refine lv_aload_n hx hb dX5_wanted_81 rfl (lv_at hl 0 rfl) ?_
        refine va_get (D := D) (ci := 5) (v := .ref a_places) (C := RX5) (T := TX5) (N := 28) hx hb hts inX5 hown hK hP 4 rfl rfl 7 (by decide) (hts _ (mG w_643)) (fun _ h9 => h9) rfl dX5_wanted_82 ?_
        refine lv_iload_n hx hb dX5_wanted_85 rfl (lv_at hl 1 rfl) ?_
        refine my_iald (v := mplaces0) (k := 0) hx hb hK hP 1 0 rfl rfl (by decide) (by decide) rfl dX5_wanted_86 ?_
        refine my_i (wr := [(a_places, .inl (aI, 2, .inl (arL [mplaces0, mplaces1]))), (a_calls, .inl (aI, 16, .inl mcalls)), (a_callCounts, .inl (aI, 2, .inl (arL [mcallCounts0, mcallCounts1]))), (a_contacts, .inl (aI, 2, .inl (arL [mcontacts0, mcontacts1]))), (a_fires, .inl (aI, 2, .inl (arL [mfires0, mfires1]))), (a_ways, .inl (aI, 2, .inl (arL [mways0, mways1])))]) [4, 0] [1, 2, 3, 5, 6, 7] (va_runV (As := [.int mplaces0]) (rest := []) ⟨hx, hb, hml, hown, hts⟩ (c_m_nearest l D aI aL aZ _ m0 ah a_places a_speeds a_most a_gains a_brakes a_slows a_rides a_doors a_doorPlaces a_opened a_wide a_holds a_loads a_mostLoads a_beams a_contacts a_fires a_ways a_calls a_callCounts a_wears mthrown nf mgap mcars mdark msteps mh mplaces0 hnf hnf2) (cwV 1 hts (gV w_843 w_845 w_27 w_38 w_846) rfl rfl rfl (by decide +kernel) ⟨Nat.le_of_ble_eq_true rfl, Nat.le_of_ble_eq_true rfl⟩) (prev_of hK hP hD hS hA hE [4, 0] rfl (by decide) (ci := 5) rfl 4 rfl _) rfl rfl hl.1 rfl (lv_room (Nat.le_of_ble_eq_true rfl)) dX5_wanted_87 ⟨Nat.le_of_ble_eq_true rfl, Nat.le_of_ble_eq_true rfl⟩) hP hD hS hA rfl rfl (by decide) (by decide) (fun r_9 u_ H locs hw_10 hP hD hS => ?_)
        have hw_10 : F_m_nearest nf mh mplaces0 = r_9 := hw_10
        have hG := hG.trans (cb_e hw_10)
        have hP : va_P D vwCl [(a_places, .inl (aI, 2, .inl (arL [mplaces0, mplaces1]))), (a_calls, .inl (aI, 16, .inl mcalls)), (a_callCounts, .inl (aI, 2, .inl (arL [mcallCounts0, mcallCounts1]))), (a_contacts, .inl (aI, 2, .inl (arL [mcontacts0, mcontacts1]))), (a_fires, .inl (aI, 2, .inl (arL [mfires0, mfires1]))), (a_ways, .inl (aI, 2, .inl (arL [mways0, mways1]))), (m0, .inr (5, [.int mthrown, .int (nI nf), .ref ah, .int mgap, .int mcars, .int mdark, .int msteps, .ref a_places, .ref a_speeds, .ref a_most, .ref a_gains, .ref a_brakes, .ref a_slows, .ref a_rides, .ref a_doors, .ref a_doorPlaces, .ref a_opened, .ref a_wide, .ref a_holds, .ref a_loads, .ref a_mostLoads, .ref a_beams, .ref a_contacts, .ref a_fires, .ref a_ways, .ref a_calls, .ref a_callCounts, .ref a_wears])), (ah, .inl (aI, 20, .inl mh))] H := hP
        have hD : va_D A [(a_places, .inl (aI, 2, .inl (arL [mplaces0, mplaces1]))), (a_calls, .inl (aI, 16, .inl mcalls)), (a_callCounts, .inl (aI, 2, .inl (arL [mcallCounts0, mcallCounts1]))), (a_contacts, .inl (aI, 2, .inl (arL [mcontacts0, mcontacts1]))), (a_fires, .inl (aI, 2, .inl (arL [mfires0, mfires1]))), (a_ways, .inl (aI, 2, .inl (arL [mways0, mways1]))), (m0, .inr (5, [.int mthrown, .int (nI nf), .ref ah, .int mgap, .int mcars, .int mdark, .int msteps, .ref a_places, .ref a_speeds, .ref a_most, .ref a_gains, .ref a_brakes, .ref a_slows, .ref a_rides, .ref a_doors, .ref a_doorPlaces, .ref a_opened, .ref a_wide, .ref a_holds, .ref a_loads, .ref a_mostLoads, .ref a_beams, .ref a_contacts, .ref a_fires, .ref a_ways, .ref a_calls, .ref a_callCounts, .ref a_wears])), (ah, .inl (aI, 20, .inl mh))] := hD
        have hP := hP.sub (ws' := [(m0, .inr (5, [.int mthrown, .int (nI nf), .ref ah, .int mgap, .int mcars, .int mdark, .int msteps, .ref a_places, .ref a_speeds, .ref a_most, .ref a_gains, .ref a_brakes, .ref a_slows, .ref a_rides, .ref a_doors, .ref a_doorPlaces, .ref a_opened, .ref a_wide, .ref a_holds, .ref a_loads, .ref a_mostLoads, .ref a_beams, .ref a_contacts, .ref a_fires, .ref a_ways, .ref a_calls, .ref a_callCounts, .ref a_wears])), (ah, .inl (aI, 20, .inl mh)), (a_places, .inl (aI, 2, .inl (arL [mplaces0, mplaces1]))), (a_contacts, .inl (aI, 2, .inl (arL [mcontacts0, mcontacts1]))), (a_fires, .inl (aI, 2, .inl (arL [mfires0, mfires1]))), (a_ways, .inl (aI, 2, .inl (arL [mways0, mways1]))), (a_calls, .inl (aI, 16, .inl mcalls)), (a_callCounts, .inl (aI, 2, .inl (arL [mcallCounts0, mcallCounts1])))]) [6, 7, 0, 3, 4, 5, 1, 2] rfl
        have hD := hD.sub (ws' := [(m0, .inr (5, [.int mthrown, .int (nI nf), .ref ah, .int mgap, .int mcars, .int mdark, .int msteps, .ref a_places, .ref a_speeds, .ref a_most, .ref a_gains, .ref a_brakes, .ref a_slows, .ref a_rides, .ref a_doors, .ref a_doorPlaces, .ref a_opened, .ref a_wide, .ref a_holds, .ref a_loads, .ref a_mostLoads, .ref a_beams, .ref a_contacts, .ref a_fires, .ref a_ways, .ref a_calls, .ref a_callCounts, .ref a_wears])), (ah, .inl (aI, 20, .inl mh)), (a_places, .inl (aI, 2, .inl (arL [mplaces0, mplaces1]))), (a_contacts, .inl (aI, 2, .inl (arL [mcontacts0, mcontacts1]))), (a_fires, .inl (aI, 2, .inl (arL [mfires0, mfires1]))), (a_ways, .inl (aI, 2, .inl (arL [mways0, mways1]))), (a_calls, .inl (aI, 16, .inl mcalls)), (a_callCounts, .inl (aI, 2, .inl (arL [mcallCounts0, mcallCounts1])))]) [6, 7, 0, 3, 4, 5, 1, 2] (by decide) rfl
        exact rt_i hQ hx hb hr () hG hP hD hS (Nat.le_of_ble_eq_true rfl) (Nat.le_of_ble_eq_true rfl) dX5_wanted_90 hlk
      · have hG := hG.trans (if_neg c_8)
        by_cases c_11 : r_1 = 3
        · have hG := hG.trans (if_pos c_11)
          refine lv_tableIn (off := 63) (tgt := 68) hx hb dX5_wanted_5 (by rw [c_11]; decide) (by rw [c_11]; decide) (by rw [c_11]; rfl) (by decide) ?_
          refine lv_aload_n hx hb dX5_wanted_68 rfl (lv_at hl 0 rfl) ?_
          refine va_get (D := D) (ci := 5) (v := .ref ah) (C := RX5) (T := TX5) (N := 28) hx hb hts inX5 hown hK hP 4 rfl rfl 2 (by decide) (hts _ (mG w_638)) (fun _ h9 => h9) rfl dX5_wanted_69 ?_
          refine lv_aload_n hx hb dX5_wanted_72 rfl (lv_at hl 0 rfl) ?_
          refine va_get (D := D) (ci := 5) (v := .ref a_fires) (C := RX5) (T := TX5) (N := 28) hx hb hts inX5 hown hK hP 4 rfl rfl 23 (by decide) (hts _ (mG w_659)) (fun _ h9 => h9) rfl dX5_wanted_73 ?_
          refine lv_iload_n hx hb dX5_wanted_76 rfl (lv_at hl 1 rfl) ?_
          refine my_iald (v := mfires0) (k := 0) hx hb hK hP 6 0 rfl rfl (by decide) (by decide) rfl dX5_wanted_77 ?_
          refine va_iald hx hb hK hP 0 0 rfl rfl (hfi (mode3_0 (hw_2.trans c_11))) dX5_wanted_78 ?_
          have hP := hP.sub (ws' := [(m0, .inr (5, [.int mthrown, .int (nI nf), .ref ah, .int mgap, .int mcars, .int mdark, .int msteps, .ref a_places, .ref a_speeds, .ref a_most, .ref a_gains, .ref a_brakes, .ref a_slows, .ref a_rides, .ref a_doors, .ref a_doorPlaces, .ref a_opened, .ref a_wide, .ref a_holds, .ref a_loads, .ref a_mostLoads, .ref a_beams, .ref a_contacts, .ref a_fires, .ref a_ways, .ref a_calls, .ref a_callCounts, .ref a_wears])), (ah, .inl (aI, 20, .inl mh)), (a_places, .inl (aI, 2, .inl (arL [mplaces0, mplaces1]))), (a_contacts, .inl (aI, 2, .inl (arL [mcontacts0, mcontacts1]))), (a_fires, .inl (aI, 2, .inl (arL [mfires0, mfires1]))), (a_ways, .inl (aI, 2, .inl (arL [mways0, mways1]))), (a_calls, .inl (aI, 16, .inl mcalls)), (a_callCounts, .inl (aI, 2, .inl (arL [mcallCounts0, mcallCounts1])))]) [4, 0, 1, 5, 6, 7, 2, 3] rfl
          have hD := hD.sub (ws' := [(m0, .inr (5, [.int mthrown, .int (nI nf), .ref ah, .int mgap, .int mcars, .int mdark, .int msteps, .ref a_places, .ref a_speeds, .ref a_most, .ref a_gains, .ref a_brakes, .ref a_slows, .ref a_rides, .ref a_doors, .ref a_doorPlaces, .ref a_opened, .ref a_wide, .ref a_holds, .ref a_loads, .ref a_mostLoads, .ref a_beams, .ref a_contacts, .ref a_fires, .ref a_ways, .ref a_calls, .ref a_callCounts, .ref a_wears])), (ah, .inl (aI, 20, .inl mh)), (a_places, .inl (aI, 2, .inl (arL [mplaces0, mplaces1]))), (a_contacts, .inl (aI, 2, .inl (arL [mcontacts0, mcontacts1]))), (a_fires, .inl (aI, 2, .inl (arL [mfires0, mfires1]))), (a_ways, .inl (aI, 2, .inl (arL [mways0, mways1]))), (a_calls, .inl (aI, 16, .inl mcalls)), (a_callCounts, .inl (aI, 2, .inl (arL [mcallCounts0, mcallCounts1])))]) [4, 0, 1, 5, 6, 7, 2, 3] (by decide) rfl
          exact rt_i hQ hx hb hr () hG hP hD hS (Nat.le_of_ble_eq_true rfl) (Nat.le_of_ble_eq_true rfl) dX5_wanted_79 hlk
        · have hG := hG.trans (if_neg c_11)
          by_cases c_12 : r_1 = 4
          · have hG := hG.trans (if_pos c_12)
            refine lv_tableIn (off := 86) (tgt := 91) hx hb dX5_wanted_5 (by rw [c_12]; decide) (by rw [c_12]; decide) (by rw [c_12]; rfl) (by decide) ?_
            refine lv_aload_n hx hb dX5_wanted_91 rfl (lv_at hl 0 rfl) ?_
            refine va_get (D := D) (ci := 5) (v := .ref a_ways) (C := RX5) (T := TX5) (N := 28) hx hb hts inX5 hown hK hP 4 rfl rfl 24 (by decide) (hts _ (mG w_660)) (fun _ h9 => h9) rfl dX5_wanted_92 ?_
            refine lv_iload_n hx hb dX5_wanted_95 rfl (lv_at hl 1 rfl) ?_
            refine my_iald (v := mways0) (k := 0) hx hb hK hP 7 0 rfl rfl (by decide) (by decide) rfl dX5_wanted_96 ?_
            refine lv_iconst (v := 1) hx hb dX5_wanted_97 (by decide) ?_
            refine lv_icmp_ne (tgt := 115) hx hb dX5_wanted_98 (by decide) (fun c_13 => ?_) (fun c_13 => ?_)
            · have hG := hG.trans (if_neg c_13)
              refine lv_aload_n hx hb dX5_wanted_115 rfl (lv_at hl 0 rfl) ?_
              refine va_get (D := D) (ci := 5) (v := .ref a_ways) (C := RX5) (T := TX5) (N := 28) hx hb hts inX5 hown hK hP 4 rfl rfl 24 (by decide) (hts _ (mG w_660)) (fun _ h9 => h9) rfl dX5_wanted_116 ?_
              refine lv_iload_n hx hb dX5_wanted_119 rfl (lv_at hl 1 rfl) ?_
              refine my_iald (v := mways0) (k := 0) hx hb hK hP 7 0 rfl rfl (by decide) (by decide) rfl dX5_wanted_120 ?_
              refine lv_iconst (v := (-1)) hx hb dX5_wanted_121 (by decide) ?_
              refine lv_icmp_ne (tgt := 134) hx hb dX5_wanted_122 (by decide) (fun c_14 => ?_) (fun c_14 => ?_)
              · have hG := hG.trans (if_neg c_14)
                refine lv_iconst (v := (-1)) hx hb dX5_wanted_134 (by decide) ?_
                have hP := hP.sub (ws' := [(m0, .inr (5, [.int mthrown, .int (nI nf), .ref ah, .int mgap, .int mcars, .int mdark, .int msteps, .ref a_places, .ref a_speeds, .ref a_most, .ref a_gains, .ref a_brakes, .ref a_slows, .ref a_rides, .ref a_doors, .ref a_doorPlaces, .ref a_opened, .ref a_wide, .ref a_holds, .ref a_loads, .ref a_mostLoads, .ref a_beams, .ref a_contacts, .ref a_fires, .ref a_ways, .ref a_calls, .ref a_callCounts, .ref a_wears])), (ah, .inl (aI, 20, .inl mh)), (a_places, .inl (aI, 2, .inl (arL [mplaces0, mplaces1]))), (a_contacts, .inl (aI, 2, .inl (arL [mcontacts0, mcontacts1]))), (a_fires, .inl (aI, 2, .inl (arL [mfires0, mfires1]))), (a_ways, .inl (aI, 2, .inl (arL [mways0, mways1]))), (a_calls, .inl (aI, 16, .inl mcalls)), (a_callCounts, .inl (aI, 2, .inl (arL [mcallCounts0, mcallCounts1])))]) [4, 0, 1, 5, 6, 7, 2, 3] rfl
                have hD := hD.sub (ws' := [(m0, .inr (5, [.int mthrown, .int (nI nf), .ref ah, .int mgap, .int mcars, .int mdark, .int msteps, .ref a_places, .ref a_speeds, .ref a_most, .ref a_gains, .ref a_brakes, .ref a_slows, .ref a_rides, .ref a_doors, .ref a_doorPlaces, .ref a_opened, .ref a_wide, .ref a_holds, .ref a_loads, .ref a_mostLoads, .ref a_beams, .ref a_contacts, .ref a_fires, .ref a_ways, .ref a_calls, .ref a_callCounts, .ref a_wears])), (ah, .inl (aI, 20, .inl mh)), (a_places, .inl (aI, 2, .inl (arL [mplaces0, mplaces1]))), (a_contacts, .inl (aI, 2, .inl (arL [mcontacts0, mcontacts1]))), (a_fires, .inl (aI, 2, .inl (arL [mfires0, mfires1]))), (a_ways, .inl (aI, 2, .inl (arL [mways0, mways1]))), (a_calls, .inl (aI, 16, .inl mcalls)), (a_callCounts, .inl (aI, 2, .inl (arL [mcallCounts0, mcallCounts1])))]) [4, 0, 1, 5, 6, 7, 2, 3] (by decide) rfl
                exact rt_i hQ hx hb hr () hG hP hD hS (Nat.le_of_ble_eq_true rfl) (Nat.le_of_ble_eq_true rfl) dX5_wanted_135 hlk
              · have hG := hG.trans (if_pos c_14)
                refine lv_aload_n hx hb dX5_wanted_125 rfl (lv_at hl 0 rfl) ?_
                refine va_get (D := D) (ci := 5) (v := .ref ah) (C := RX5) (T := TX5) (N := 28) hx hb hts inX5 hown hK hP 4 rfl rfl 2 (by decide) (hts _ (mG w_638)) (fun _ h9 => h9) rfl dX5_wanted_126 ?_
                refine lv_iconst (v := 0) hx hb dX5_wanted_129 (by decide) ?_
                refine va_iald hx hb hK hP 0 0 rfl rfl (by unfold vp_in; decide) dX5_wanted_130 ?_
                refine lv_topi (fun y_15 hy_15 => ?_)
                obtain rfl : y_15 = (mh 0) := hy_15.trans (congrArg mh (by decide))
                refine lv_goto (tgt := 135) hx hb dX5_wanted_131 (by decide) ?_
                have hP := hP.sub (ws' := [(m0, .inr (5, [.int mthrown, .int (nI nf), .ref ah, .int mgap, .int mcars, .int mdark, .int msteps, .ref a_places, .ref a_speeds, .ref a_most, .ref a_gains, .ref a_brakes, .ref a_slows, .ref a_rides, .ref a_doors, .ref a_doorPlaces, .ref a_opened, .ref a_wide, .ref a_holds, .ref a_loads, .ref a_mostLoads, .ref a_beams, .ref a_contacts, .ref a_fires, .ref a_ways, .ref a_calls, .ref a_callCounts, .ref a_wears])), (ah, .inl (aI, 20, .inl mh)), (a_places, .inl (aI, 2, .inl (arL [mplaces0, mplaces1]))), (a_contacts, .inl (aI, 2, .inl (arL [mcontacts0, mcontacts1]))), (a_fires, .inl (aI, 2, .inl (arL [mfires0, mfires1]))), (a_ways, .inl (aI, 2, .inl (arL [mways0, mways1]))), (a_calls, .inl (aI, 16, .inl mcalls)), (a_callCounts, .inl (aI, 2, .inl (arL [mcallCounts0, mcallCounts1])))]) [4, 0, 1, 5, 6, 7, 2, 3] rfl
                have hD := hD.sub (ws' := [(m0, .inr (5, [.int mthrown, .int (nI nf), .ref ah, .int mgap, .int mcars, .int mdark, .int msteps, .ref a_places, .ref a_speeds, .ref a_most, .ref a_gains, .ref a_brakes, .ref a_slows, .ref a_rides, .ref a_doors, .ref a_doorPlaces, .ref a_opened, .ref a_wide, .ref a_holds, .ref a_loads, .ref a_mostLoads, .ref a_beams, .ref a_contacts, .ref a_fires, .ref a_ways, .ref a_calls, .ref a_callCounts, .ref a_wears])), (ah, .inl (aI, 20, .inl mh)), (a_places, .inl (aI, 2, .inl (arL [mplaces0, mplaces1]))), (a_contacts, .inl (aI, 2, .inl (arL [mcontacts0, mcontacts1]))), (a_fires, .inl (aI, 2, .inl (arL [mfires0, mfires1]))), (a_ways, .inl (aI, 2, .inl (arL [mways0, mways1]))), (a_calls, .inl (aI, 16, .inl mcalls)), (a_callCounts, .inl (aI, 2, .inl (arL [mcallCounts0, mcallCounts1])))]) [4, 0, 1, 5, 6, 7, 2, 3] (by decide) rfl
                exact rt_i hQ hx hb hr () hG hP hD hS (Nat.le_of_ble_eq_true rfl) (Nat.le_of_ble_eq_true rfl) dX5_wanted_135 hlk
            · have hG := hG.trans (if_pos c_13)
              refine lv_aload_n hx hb dX5_wanted_101 rfl (lv_at hl 0 rfl) ?_
              refine va_get (D := D) (ci := 5) (v := .ref ah) (C := RX5) (T := TX5) (N := 28) hx hb hts inX5 hown hK hP 4 rfl rfl 2 (by decide) (hts _ (mG w_638)) (fun _ h9 => h9) rfl dX5_wanted_102 ?_
              refine lv_aload_n hx hb dX5_wanted_105 rfl (lv_at hl 0 rfl) ?_
              refine va_get (D := D) (ci := 5) (v := .int (nI nf)) (C := RX5) (T := TX5) (N := 28) hx hb hts inX5 hown hK hP 4 rfl rfl 1 (by decide) (hts _ (mG w_637)) (fun _ h9 => h9) rfl dX5_wanted_106 ?_
              refine lv_iconst (v := 1) hx hb dX5_wanted_109 (by decide) ?_
              refine lv_isub hx hb dX5_wanted_110 ?_
              refine va_iald hx hb hK hP 0 0 rfl rfl (ix_m1 hnf hnf2 (by decide)) dX5_wanted_111 ?_
              refine lv_goto (tgt := 135) hx hb dX5_wanted_112 (by decide) ?_
              have hP := hP.sub (ws' := [(m0, .inr (5, [.int mthrown, .int (nI nf), .ref ah, .int mgap, .int mcars, .int mdark, .int msteps, .ref a_places, .ref a_speeds, .ref a_most, .ref a_gains, .ref a_brakes, .ref a_slows, .ref a_rides, .ref a_doors, .ref a_doorPlaces, .ref a_opened, .ref a_wide, .ref a_holds, .ref a_loads, .ref a_mostLoads, .ref a_beams, .ref a_contacts, .ref a_fires, .ref a_ways, .ref a_calls, .ref a_callCounts, .ref a_wears])), (ah, .inl (aI, 20, .inl mh)), (a_places, .inl (aI, 2, .inl (arL [mplaces0, mplaces1]))), (a_contacts, .inl (aI, 2, .inl (arL [mcontacts0, mcontacts1]))), (a_fires, .inl (aI, 2, .inl (arL [mfires0, mfires1]))), (a_ways, .inl (aI, 2, .inl (arL [mways0, mways1]))), (a_calls, .inl (aI, 16, .inl mcalls)), (a_callCounts, .inl (aI, 2, .inl (arL [mcallCounts0, mcallCounts1])))]) [4, 0, 1, 5, 6, 7, 2, 3] rfl
              have hD := hD.sub (ws' := [(m0, .inr (5, [.int mthrown, .int (nI nf), .ref ah, .int mgap, .int mcars, .int mdark, .int msteps, .ref a_places, .ref a_speeds, .ref a_most, .ref a_gains, .ref a_brakes, .ref a_slows, .ref a_rides, .ref a_doors, .ref a_doorPlaces, .ref a_opened, .ref a_wide, .ref a_holds, .ref a_loads, .ref a_mostLoads, .ref a_beams, .ref a_contacts, .ref a_fires, .ref a_ways, .ref a_calls, .ref a_callCounts, .ref a_wears])), (ah, .inl (aI, 20, .inl mh)), (a_places, .inl (aI, 2, .inl (arL [mplaces0, mplaces1]))), (a_contacts, .inl (aI, 2, .inl (arL [mcontacts0, mcontacts1]))), (a_fires, .inl (aI, 2, .inl (arL [mfires0, mfires1]))), (a_ways, .inl (aI, 2, .inl (arL [mways0, mways1]))), (a_calls, .inl (aI, 16, .inl mcalls)), (a_callCounts, .inl (aI, 2, .inl (arL [mcallCounts0, mcallCounts1])))]) [4, 0, 1, 5, 6, 7, 2, 3] (by decide) rfl
              exact rt_i hQ hx hb hr () hG hP hD hS (Nat.le_of_ble_eq_true rfl) (Nat.le_of_ble_eq_true rfl) dX5_wanted_135 hlk
          · have hG := hG.trans (if_neg c_12)
            refine lv_tableOut (tgt := 136) hx hb dX5_wanted_5 (by have q0 := lv_neT c_3 (a := 0) (by decide); have q1 := lv_neT c_7 (a := 1) (by decide); have q2 := lv_neT c_8 (a := 2) (by decide); have q3 := lv_neT c_11 (a := 3) (by decide); have q4 := lv_neT c_12 (a := 4) (by decide); omega) (by decide) ?_
            refine lv_iconst (v := (-1)) hx hb dX5_wanted_136 (by decide) ?_
            have hP := hP.sub (ws' := [(m0, .inr (5, [.int mthrown, .int (nI nf), .ref ah, .int mgap, .int mcars, .int mdark, .int msteps, .ref a_places, .ref a_speeds, .ref a_most, .ref a_gains, .ref a_brakes, .ref a_slows, .ref a_rides, .ref a_doors, .ref a_doorPlaces, .ref a_opened, .ref a_wide, .ref a_holds, .ref a_loads, .ref a_mostLoads, .ref a_beams, .ref a_contacts, .ref a_fires, .ref a_ways, .ref a_calls, .ref a_callCounts, .ref a_wears])), (ah, .inl (aI, 20, .inl mh)), (a_places, .inl (aI, 2, .inl (arL [mplaces0, mplaces1]))), (a_contacts, .inl (aI, 2, .inl (arL [mcontacts0, mcontacts1]))), (a_fires, .inl (aI, 2, .inl (arL [mfires0, mfires1]))), (a_ways, .inl (aI, 2, .inl (arL [mways0, mways1]))), (a_calls, .inl (aI, 16, .inl mcalls)), (a_callCounts, .inl (aI, 2, .inl (arL [mcallCounts0, mcallCounts1])))]) [4, 0, 1, 5, 6, 7, 2, 3] rfl
            have hD := hD.sub (ws' := [(m0, .inr (5, [.int mthrown, .int (nI nf), .ref ah, .int mgap, .int mcars, .int mdark, .int msteps, .ref a_places, .ref a_speeds, .ref a_most, .ref a_gains, .ref a_brakes, .ref a_slows, .ref a_rides, .ref a_doors, .ref a_doorPlaces, .ref a_opened, .ref a_wide, .ref a_holds, .ref a_loads, .ref a_mostLoads, .ref a_beams, .ref a_contacts, .ref a_fires, .ref a_ways, .ref a_calls, .ref a_callCounts, .ref a_wears])), (ah, .inl (aI, 20, .inl mh)), (a_places, .inl (aI, 2, .inl (arL [mplaces0, mplaces1]))), (a_contacts, .inl (aI, 2, .inl (arL [mcontacts0, mcontacts1]))), (a_fires, .inl (aI, 2, .inl (arL [mfires0, mfires1]))), (a_ways, .inl (aI, 2, .inl (arL [mways0, mways1]))), (a_calls, .inl (aI, 16, .inl mcalls)), (a_callCounts, .inl (aI, 2, .inl (arL [mcallCounts0, mcallCounts1])))]) [4, 0, 1, 5, 6, 7, 2, 3] (by decide) rfl
            exact rt_i hQ hx hb hr () hG hP hD hS (Nat.le_of_ble_eq_true rfl) (Nat.le_of_ble_eq_true rfl) dX5_wanted_137 hlk
theorem dX5_limit_0 : decode cX5_limit 0 = .ok (.iload_n 2, 1) := by decide +kernel
theorem dX5_limit_1 : decode cX5_limit 1 = .ok (.iconst 2, 1) := by decide +kernel
theorem dX5_limit_2 : decode cX5_limit 2 = .ok (.if_icmp .ne 12, 3) := by decide +kernel
theorem dX5_limit_5 : decode cX5_limit 5 = .ok (.aload_n 0, 1) := by decide +kernel
theorem dX5_limit_6 : decode cX5_limit 6 = .ok (.getfield 32, 3) := by decide +kernel
theorem dX5_limit_9 : decode cX5_limit 9 = .ok (.iload_n 1, 1) := by decide +kernel
theorem dX5_limit_10 : decode cX5_limit 10 = .ok (.iaload, 1) := by decide +kernel
theorem dX5_limit_11 : decode cX5_limit 11 = .ok (.goto 23, 3) := by decide +kernel
theorem dX5_limit_14 : decode cX5_limit 14 = .ok (.iload_n 2, 1) := by decide +kernel
theorem dX5_limit_15 : decode cX5_limit 15 = .ok (.iconst 4, 1) := by decide +kernel
theorem dX5_limit_16 : decode cX5_limit 16 = .ok (.if_icmp .ne 12, 3) := by decide +kernel
theorem dX5_limit_19 : decode cX5_limit 19 = .ok (.aload_n 0, 1) := by decide +kernel
theorem dX5_limit_20 : decode cX5_limit 20 = .ok (.getfield 35, 3) := by decide +kernel
theorem dX5_limit_23 : decode cX5_limit 23 = .ok (.iload_n 1, 1) := by decide +kernel
theorem dX5_limit_24 : decode cX5_limit 24 = .ok (.iaload, 1) := by decide +kernel
theorem dX5_limit_25 : decode cX5_limit 25 = .ok (.goto 9, 3) := by decide +kernel
theorem dX5_limit_28 : decode cX5_limit 28 = .ok (.aload_n 0, 1) := by decide +kernel
theorem dX5_limit_29 : decode cX5_limit 29 = .ok (.getfield 23, 3) := by decide +kernel
theorem dX5_limit_32 : decode cX5_limit 32 = .ok (.iload_n 1, 1) := by decide +kernel
theorem dX5_limit_33 : decode cX5_limit 33 = .ok (.iaload, 1) := by decide +kernel
theorem dX5_limit_34 : decode cX5_limit 34 = .ok (.ireturn, 1) := by decide +kernel
def F_m_limit_0 (mmost0 : Int32) (mslows0 : Int32) (mrides0 : Int32) (p1 : Int32) : Int32 :=
  if p1 = 2 then
    mslows0
  else
    if p1 = 4 then
      mrides0
    else
      mmost0
theorem F_m_limit_0_u (mmost0 : Int32) (mslows0 : Int32) (mrides0 : Int32) (p1 : Int32) : F_m_limit_0 mmost0 mslows0 mrides0 p1 =
  (if p1 = 2 then
    mslows0
  else
    if p1 = 4 then
      mrides0
    else
      mmost0) := rfl
set_option maxHeartbeats 4000000 in
set_option maxRecDepth 100000 in
theorem c_m_limit_0 (l : Launch) (D : va_G) (aI aL aZ : ClassId) (sz : Nat) (m0 : Nat) (ah : Nat) (a_places : Nat) (a_speeds : Nat) (a_most : Nat) (a_gains : Nat) (a_brakes : Nat) (a_slows : Nat) (a_rides : Nat) (a_doors : Nat) (a_doorPlaces : Nat) (a_opened : Nat) (a_wide : Nat) (a_holds : Nat) (a_loads : Nat) (a_mostLoads : Nat) (a_beams : Nat) (a_contacts : Nat) (a_fires : Nat) (a_ways : Nat) (a_calls : Nat) (a_callCounts : Nat) (a_wears : Nat) (mthrown : Int32) (nf : Nat) (mgap : Int32) (mcars : Int32) (mdark : Int32) (msteps : Int32) (mmost0 : Int32) (mmost1 : Int32) (mslows0 : Int32) (mslows1 : Int32) (mrides0 : Int32) (mrides1 : Int32) (p1 : Int32) : Met l yX5_limit (.code yX5_limit cX5_limit 3 (some .int) :: Gw) ({ frames := 0, cells := 0, slots := 0, locals := 0 }) (va_Pc [.ref m0, .int 0, .int p1] (mpre D [(aI, .int), (aL, .long), (aZ, .boolean)] [(m0, .inr (5, [.int mthrown, .int (nI nf), .ref ah, .int mgap, .int mcars, .int mdark, .int msteps, .ref a_places, .ref a_speeds, .ref a_most, .ref a_gains, .ref a_brakes, .ref a_slows, .ref a_rides, .ref a_doors, .ref a_doorPlaces, .ref a_opened, .ref a_wide, .ref a_holds, .ref a_loads, .ref a_mostLoads, .ref a_beams, .ref a_contacts, .ref a_fires, .ref a_ways, .ref a_calls, .ref a_callCounts, .ref a_wears])), (a_most, .inl (aI, 2, .inl (arL [mmost0, mmost1]))), (a_slows, .inl (aI, 2, .inl (arL [mslows0, mslows1]))), (a_rides, .inl (aI, 2, .inl (arL [mrides0, mrides1])))] sz)) ((fun A : Nat → Prop => va_Qi (fun (r : Int32) (u : Unit) => F_m_limit_0 mmost0 mslows0 mrides0 p1 = r) (mpst D A (fun (u : Unit) => [(m0, .inr (5, [.int mthrown, .int (nI nf), .ref ah, .int mgap, .int mcars, .int mdark, .int msteps, .ref a_places, .ref a_speeds, .ref a_most, .ref a_gains, .ref a_brakes, .ref a_slows, .ref a_rides, .ref a_doors, .ref a_doorPlaces, .ref a_opened, .ref a_wide, .ref a_holds, .ref a_loads, .ref a_mostLoads, .ref a_beams, .ref a_contacts, .ref a_fires, .ref a_ways, .ref a_calls, .ref a_callCounts, .ref a_wears])), (a_most, .inl (aI, 2, .inl (arL [mmost0, mmost1]))), (a_slows, .inl (aI, 2, .inl (arL [mslows0, mslows1]))), (a_rides, .inl (aI, 2, .inl (arL [mrides0, mrides1])))])) A) (va_A ([(m0, .inr (5, [.int mthrown, .int (nI nf), .ref ah, .int mgap, .int mcars, .int mdark, .int msteps, .ref a_places, .ref a_speeds, .ref a_most, .ref a_gains, .ref a_brakes, .ref a_slows, .ref a_rides, .ref a_doors, .ref a_doorPlaces, .ref a_opened, .ref a_wide, .ref a_holds, .ref a_loads, .ref a_mostLoads, .ref a_beams, .ref a_contacts, .ref a_fires, .ref a_ways, .ref a_calls, .ref a_callCounts, .ref a_wears])), (a_most, .inl (aI, 2, .inl (arL [mmost0, mmost1]))), (a_slows, .inl (aI, 2, .inl (arL [mslows0, mslows1]))), (a_rides, .inl (aI, 2, .inl (arL [mrides0, mrides1])))]) sz)) 0 0 (va_A ([(m0, .inr (5, [.int mthrown, .int (nI nf), .ref ah, .int mgap, .int mcars, .int mdark, .int msteps, .ref a_places, .ref a_speeds, .ref a_most, .ref a_gains, .ref a_brakes, .ref a_slows, .ref a_rides, .ref a_doors, .ref a_doorPlaces, .ref a_opened, .ref a_wide, .ref a_holds, .ref a_loads, .ref a_mostLoads, .ref a_beams, .ref a_contacts, .ref a_fires, .ref a_ways, .ref a_calls, .ref a_callCounts, .ref a_wears])), (a_most, .inl (aI, 2, .inl (arL [mmost0, mmost1]))), (a_slows, .inl (aI, 2, .inl (arL [mslows0, mslows1]))), (a_rides, .inl (aI, 2, .inl (arL [mrides0, mrides1])))]) sz) := by
  refine en (cc := cX5_limit) (maxL := 3) (ret := (some .int)) (Qc := (fun A : Nat → Prop => va_Qi (fun (r : Int32) (u : Unit) => F_m_limit_0 mmost0 mslows0 mrides0 p1 = r) (mpst D A (fun (u : Unit) => [(m0, .inr (5, [.int mthrown, .int (nI nf), .ref ah, .int mgap, .int mcars, .int mdark, .int msteps, .ref a_places, .ref a_speeds, .ref a_most, .ref a_gains, .ref a_brakes, .ref a_slows, .ref a_rides, .ref a_doors, .ref a_doorPlaces, .ref a_opened, .ref a_wide, .ref a_holds, .ref a_loads, .ref a_mostLoads, .ref a_beams, .ref a_contacts, .ref a_fires, .ref a_ways, .ref a_calls, .ref a_callCounts, .ref a_wears])), (a_most, .inl (aI, 2, .inl (arL [mmost0, mmost1]))), (a_slows, .inl (aI, 2, .inl (arL [mslows0, mslows1]))), (a_rides, .inl (aI, 2, .inl (arL [mrides0, mrides1])))])) A)) (by decide) rfl (Nat.le_of_ble_eq_true rfl) ?_
  intro p e s m args below meth c A ls Q hQ hx hb hr hts hown hlk hnm hml hA hS hP hK hD hE hl
  have hown : s.vm.findClass RX5 = some m.cls := hown
  have hl : lv_has ls 3 [(0, .ref m0), (1, .int 0), (2, .int p1)] := hl
  have hG := F_m_limit_0_u mmost0 mslows0 mrides0 p1
  refine lv_iload_n hx hb dX5_limit_0 rfl (lv_at hl 2 rfl) ?_
  refine lv_iconst (v := 2) hx hb dX5_limit_1 (by decide) ?_
  refine lv_icmp_ne (tgt := 14) hx hb dX5_limit_2 (by decide) (fun c_1 => ?_) (fun c_1 => ?_)
  · have hG := hG.trans (if_neg c_1)
    refine lv_iload_n hx hb dX5_limit_14 rfl (lv_at hl 2 rfl) ?_
    refine lv_iconst (v := 4) hx hb dX5_limit_15 (by decide) ?_
    refine lv_icmp_ne (tgt := 28) hx hb dX5_limit_16 (by decide) (fun c_2 => ?_) (fun c_2 => ?_)
    · have hG := hG.trans (if_neg c_2)
      refine lv_aload_n hx hb dX5_limit_28 rfl (lv_at hl 0 rfl) ?_
      refine va_get (D := D) (ci := 5) (v := .ref a_most) (C := RX5) (T := TX5) (N := 28) hx hb hts inX5 hown hK hP 0 rfl rfl 9 (by decide) (hts _ (mG w_645)) (fun _ h9 => h9) rfl dX5_limit_29 ?_
      refine lv_iload_n hx hb dX5_limit_32 rfl (lv_at hl 1 rfl) ?_
      refine my_iald (v := mmost0) (k := 0) hx hb hK hP 1 0 rfl rfl (by decide) (by decide) rfl dX5_limit_33 ?_
      have hP := hP.sub (ws' := [(m0, .inr (5, [.int mthrown, .int (nI nf), .ref ah, .int mgap, .int mcars, .int mdark, .int msteps, .ref a_places, .ref a_speeds, .ref a_most, .ref a_gains, .ref a_brakes, .ref a_slows, .ref a_rides, .ref a_doors, .ref a_doorPlaces, .ref a_opened, .ref a_wide, .ref a_holds, .ref a_loads, .ref a_mostLoads, .ref a_beams, .ref a_contacts, .ref a_fires, .ref a_ways, .ref a_calls, .ref a_callCounts, .ref a_wears])), (a_most, .inl (aI, 2, .inl (arL [mmost0, mmost1]))), (a_slows, .inl (aI, 2, .inl (arL [mslows0, mslows1]))), (a_rides, .inl (aI, 2, .inl (arL [mrides0, mrides1])))]) [0, 1, 2, 3] rfl
      have hD := hD.sub (ws' := [(m0, .inr (5, [.int mthrown, .int (nI nf), .ref ah, .int mgap, .int mcars, .int mdark, .int msteps, .ref a_places, .ref a_speeds, .ref a_most, .ref a_gains, .ref a_brakes, .ref a_slows, .ref a_rides, .ref a_doors, .ref a_doorPlaces, .ref a_opened, .ref a_wide, .ref a_holds, .ref a_loads, .ref a_mostLoads, .ref a_beams, .ref a_contacts, .ref a_fires, .ref a_ways, .ref a_calls, .ref a_callCounts, .ref a_wears])), (a_most, .inl (aI, 2, .inl (arL [mmost0, mmost1]))), (a_slows, .inl (aI, 2, .inl (arL [mslows0, mslows1]))), (a_rides, .inl (aI, 2, .inl (arL [mrides0, mrides1])))]) [0, 1, 2, 3] (by decide) rfl
      exact rt_i hQ hx hb hr () hG hP hD hS (Nat.le_of_ble_eq_true rfl) (Nat.le_of_ble_eq_true rfl) dX5_limit_34 hlk
    · have hG := hG.trans (if_pos c_2)
      refine lv_aload_n hx hb dX5_limit_19 rfl (lv_at hl 0 rfl) ?_
      refine va_get (D := D) (ci := 5) (v := .ref a_rides) (C := RX5) (T := TX5) (N := 28) hx hb hts inX5 hown hK hP 0 rfl rfl 13 (by decide) (hts _ (mG w_649)) (fun _ h9 => h9) rfl dX5_limit_20 ?_
      refine lv_iload_n hx hb dX5_limit_23 rfl (lv_at hl 1 rfl) ?_
      refine my_iald (v := mrides0) (k := 0) hx hb hK hP 3 0 rfl rfl (by decide) (by decide) rfl dX5_limit_24 ?_
      refine lv_goto (tgt := 34) hx hb dX5_limit_25 (by decide) ?_
      have hP := hP.sub (ws' := [(m0, .inr (5, [.int mthrown, .int (nI nf), .ref ah, .int mgap, .int mcars, .int mdark, .int msteps, .ref a_places, .ref a_speeds, .ref a_most, .ref a_gains, .ref a_brakes, .ref a_slows, .ref a_rides, .ref a_doors, .ref a_doorPlaces, .ref a_opened, .ref a_wide, .ref a_holds, .ref a_loads, .ref a_mostLoads, .ref a_beams, .ref a_contacts, .ref a_fires, .ref a_ways, .ref a_calls, .ref a_callCounts, .ref a_wears])), (a_most, .inl (aI, 2, .inl (arL [mmost0, mmost1]))), (a_slows, .inl (aI, 2, .inl (arL [mslows0, mslows1]))), (a_rides, .inl (aI, 2, .inl (arL [mrides0, mrides1])))]) [0, 1, 2, 3] rfl
      have hD := hD.sub (ws' := [(m0, .inr (5, [.int mthrown, .int (nI nf), .ref ah, .int mgap, .int mcars, .int mdark, .int msteps, .ref a_places, .ref a_speeds, .ref a_most, .ref a_gains, .ref a_brakes, .ref a_slows, .ref a_rides, .ref a_doors, .ref a_doorPlaces, .ref a_opened, .ref a_wide, .ref a_holds, .ref a_loads, .ref a_mostLoads, .ref a_beams, .ref a_contacts, .ref a_fires, .ref a_ways, .ref a_calls, .ref a_callCounts, .ref a_wears])), (a_most, .inl (aI, 2, .inl (arL [mmost0, mmost1]))), (a_slows, .inl (aI, 2, .inl (arL [mslows0, mslows1]))), (a_rides, .inl (aI, 2, .inl (arL [mrides0, mrides1])))]) [0, 1, 2, 3] (by decide) rfl
      exact rt_i hQ hx hb hr () hG hP hD hS (Nat.le_of_ble_eq_true rfl) (Nat.le_of_ble_eq_true rfl) dX5_limit_34 hlk
  · have hG := hG.trans (if_pos c_1)
    refine lv_aload_n hx hb dX5_limit_5 rfl (lv_at hl 0 rfl) ?_
    refine va_get (D := D) (ci := 5) (v := .ref a_slows) (C := RX5) (T := TX5) (N := 28) hx hb hts inX5 hown hK hP 0 rfl rfl 12 (by decide) (hts _ (mG w_648)) (fun _ h9 => h9) rfl dX5_limit_6 ?_
    refine lv_iload_n hx hb dX5_limit_9 rfl (lv_at hl 1 rfl) ?_
    refine my_iald (v := mslows0) (k := 0) hx hb hK hP 2 0 rfl rfl (by decide) (by decide) rfl dX5_limit_10 ?_
    refine lv_goto (tgt := 34) hx hb dX5_limit_11 (by decide) ?_
    have hP := hP.sub (ws' := [(m0, .inr (5, [.int mthrown, .int (nI nf), .ref ah, .int mgap, .int mcars, .int mdark, .int msteps, .ref a_places, .ref a_speeds, .ref a_most, .ref a_gains, .ref a_brakes, .ref a_slows, .ref a_rides, .ref a_doors, .ref a_doorPlaces, .ref a_opened, .ref a_wide, .ref a_holds, .ref a_loads, .ref a_mostLoads, .ref a_beams, .ref a_contacts, .ref a_fires, .ref a_ways, .ref a_calls, .ref a_callCounts, .ref a_wears])), (a_most, .inl (aI, 2, .inl (arL [mmost0, mmost1]))), (a_slows, .inl (aI, 2, .inl (arL [mslows0, mslows1]))), (a_rides, .inl (aI, 2, .inl (arL [mrides0, mrides1])))]) [0, 1, 2, 3] rfl
    have hD := hD.sub (ws' := [(m0, .inr (5, [.int mthrown, .int (nI nf), .ref ah, .int mgap, .int mcars, .int mdark, .int msteps, .ref a_places, .ref a_speeds, .ref a_most, .ref a_gains, .ref a_brakes, .ref a_slows, .ref a_rides, .ref a_doors, .ref a_doorPlaces, .ref a_opened, .ref a_wide, .ref a_holds, .ref a_loads, .ref a_mostLoads, .ref a_beams, .ref a_contacts, .ref a_fires, .ref a_ways, .ref a_calls, .ref a_callCounts, .ref a_wears])), (a_most, .inl (aI, 2, .inl (arL [mmost0, mmost1]))), (a_slows, .inl (aI, 2, .inl (arL [mslows0, mslows1]))), (a_rides, .inl (aI, 2, .inl (arL [mrides0, mrides1])))]) [0, 1, 2, 3] (by decide) rfl
    exact rt_i hQ hx hb hr () hG hP hD hS (Nat.le_of_ble_eq_true rfl) (Nat.le_of_ble_eq_true rfl) dX5_limit_34 hlk
theorem mode3_1 {mdark mcontacts1 mfires1 mways1 : Int32} (h : F_m_mode_1 mdark mcontacts1 mfires1 mways1 = 3) : ¬ mfires1 = (-1) := by
  intro e
  unfold F_m_mode_1 at h
  by_cases c1 : mcontacts1 = 0
  · rw [if_pos c1] at h
    by_cases c2 : mdark = 0
    · rw [if_pos c2, if_pos e] at h
      by_cases c3 : mways1 = 2
      · rw [if_pos c3] at h; exact absurd h (by decide)
      · rw [if_neg c3] at h; exact absurd h (by decide)
    · rw [if_neg c2] at h; exact absurd h (by decide)
  · rw [if_neg c1] at h; exact absurd h (by decide)
def F_m_wanted_1 (nf : Nat) (mdark : Int32) (mh : Nat → Int32) (mplaces1 : Int32) (mcontacts1 : Int32) (mfires1 : Int32) (mways1 : Int32) (mcalls : Nat → Int32) (mcallCounts1 : Int32) : Int32 :=
  cb (F_m_mode_1 mdark mcontacts1 mfires1 mways1) fun r_1 =>
    if r_1 = 0 then
      if mcallCounts1 ≤ 0 then
        (-1)
      else
        (mh (mcalls 8).toNatClampNeg)
    else
      if r_1 = 1 then
        (-1)
      else
        if r_1 = 2 then
          cb (F_m_nearest nf mh mplaces1) fun r_9 =>
            r_9
        else
          if r_1 = 3 then
            (mh mfires1.toNatClampNeg)
          else
            if r_1 = 4 then
              if mways1 = 1 then
                (mh ((nI nf) - 1).toNatClampNeg)
              else
                if mways1 = (-1) then
                  (mh 0)
                else
                  (-1)
            else
              (-1)
theorem F_m_wanted_1_u (nf : Nat) (mdark : Int32) (mh : Nat → Int32) (mplaces1 : Int32) (mcontacts1 : Int32) (mfires1 : Int32) (mways1 : Int32) (mcalls : Nat → Int32) (mcallCounts1 : Int32) : F_m_wanted_1 nf mdark mh mplaces1 mcontacts1 mfires1 mways1 mcalls mcallCounts1 =
  (cb (F_m_mode_1 mdark mcontacts1 mfires1 mways1) fun r_1 =>
    if r_1 = 0 then
      if mcallCounts1 ≤ 0 then
        (-1)
      else
        (mh (mcalls 8).toNatClampNeg)
    else
      if r_1 = 1 then
        (-1)
      else
        if r_1 = 2 then
          cb (F_m_nearest nf mh mplaces1) fun r_9 =>
            r_9
        else
          if r_1 = 3 then
            (mh mfires1.toNatClampNeg)
          else
            if r_1 = 4 then
              if mways1 = 1 then
                (mh ((nI nf) - 1).toNatClampNeg)
              else
                if mways1 = (-1) then
                  (mh 0)
                else
                  (-1)
            else
              (-1)) := rfl
set_option maxHeartbeats 4000000 in
set_option maxRecDepth 100000 in
theorem c_m_wanted_1 (l : Launch) (D : va_G) (aI aL aZ : ClassId) (sz : Nat) (m0 : Nat) (ah : Nat) (a_places : Nat) (a_speeds : Nat) (a_most : Nat) (a_gains : Nat) (a_brakes : Nat) (a_slows : Nat) (a_rides : Nat) (a_doors : Nat) (a_doorPlaces : Nat) (a_opened : Nat) (a_wide : Nat) (a_holds : Nat) (a_loads : Nat) (a_mostLoads : Nat) (a_beams : Nat) (a_contacts : Nat) (a_fires : Nat) (a_ways : Nat) (a_calls : Nat) (a_callCounts : Nat) (a_wears : Nat) (mthrown : Int32) (nf : Nat) (mgap : Int32) (mcars : Int32) (mdark : Int32) (msteps : Int32) (mh : Nat → Int32) (mplaces0 : Int32) (mplaces1 : Int32) (mcontacts0 : Int32) (mcontacts1 : Int32) (mfires0 : Int32) (mfires1 : Int32) (mways0 : Int32) (mways1 : Int32) (mcalls : Nat → Int32) (mcallCounts0 : Int32) (mcallCounts1 : Int32) (hnf : 1 ≤ nf) (hnf2 : nf ≤ 20) (hcl : ¬ mcallCounts1 ≤ 0 → vp_in (mcalls 8) 20) (hfi : ¬ mfires1 = (-1) → vp_in mfires1 20) : Met l yX5_wanted (.code yX5_wanted cX5_wanted 2 (some .int) :: Gw) ({ frames := 2, cells := 0, slots := 0, locals := 43 }) (va_Pc [.ref m0, .int 1] (mpre D [(aI, .int), (aL, .long), (aZ, .boolean)] [(m0, .inr (5, [.int mthrown, .int (nI nf), .ref ah, .int mgap, .int mcars, .int mdark, .int msteps, .ref a_places, .ref a_speeds, .ref a_most, .ref a_gains, .ref a_brakes, .ref a_slows, .ref a_rides, .ref a_doors, .ref a_doorPlaces, .ref a_opened, .ref a_wide, .ref a_holds, .ref a_loads, .ref a_mostLoads, .ref a_beams, .ref a_contacts, .ref a_fires, .ref a_ways, .ref a_calls, .ref a_callCounts, .ref a_wears])), (ah, .inl (aI, 20, .inl mh)), (a_places, .inl (aI, 2, .inl (arL [mplaces0, mplaces1]))), (a_contacts, .inl (aI, 2, .inl (arL [mcontacts0, mcontacts1]))), (a_fires, .inl (aI, 2, .inl (arL [mfires0, mfires1]))), (a_ways, .inl (aI, 2, .inl (arL [mways0, mways1]))), (a_calls, .inl (aI, 16, .inl mcalls)), (a_callCounts, .inl (aI, 2, .inl (arL [mcallCounts0, mcallCounts1])))] sz)) ((fun A : Nat → Prop => va_Qi (fun (r : Int32) (u : Unit) => F_m_wanted_1 nf mdark mh mplaces1 mcontacts1 mfires1 mways1 mcalls mcallCounts1 = r) (mpst D A (fun (u : Unit) => [(m0, .inr (5, [.int mthrown, .int (nI nf), .ref ah, .int mgap, .int mcars, .int mdark, .int msteps, .ref a_places, .ref a_speeds, .ref a_most, .ref a_gains, .ref a_brakes, .ref a_slows, .ref a_rides, .ref a_doors, .ref a_doorPlaces, .ref a_opened, .ref a_wide, .ref a_holds, .ref a_loads, .ref a_mostLoads, .ref a_beams, .ref a_contacts, .ref a_fires, .ref a_ways, .ref a_calls, .ref a_callCounts, .ref a_wears])), (ah, .inl (aI, 20, .inl mh)), (a_places, .inl (aI, 2, .inl (arL [mplaces0, mplaces1]))), (a_contacts, .inl (aI, 2, .inl (arL [mcontacts0, mcontacts1]))), (a_fires, .inl (aI, 2, .inl (arL [mfires0, mfires1]))), (a_ways, .inl (aI, 2, .inl (arL [mways0, mways1]))), (a_calls, .inl (aI, 16, .inl mcalls)), (a_callCounts, .inl (aI, 2, .inl (arL [mcallCounts0, mcallCounts1])))])) A) (va_A ([(m0, .inr (5, [.int mthrown, .int (nI nf), .ref ah, .int mgap, .int mcars, .int mdark, .int msteps, .ref a_places, .ref a_speeds, .ref a_most, .ref a_gains, .ref a_brakes, .ref a_slows, .ref a_rides, .ref a_doors, .ref a_doorPlaces, .ref a_opened, .ref a_wide, .ref a_holds, .ref a_loads, .ref a_mostLoads, .ref a_beams, .ref a_contacts, .ref a_fires, .ref a_ways, .ref a_calls, .ref a_callCounts, .ref a_wears])), (ah, .inl (aI, 20, .inl mh)), (a_places, .inl (aI, 2, .inl (arL [mplaces0, mplaces1]))), (a_contacts, .inl (aI, 2, .inl (arL [mcontacts0, mcontacts1]))), (a_fires, .inl (aI, 2, .inl (arL [mfires0, mfires1]))), (a_ways, .inl (aI, 2, .inl (arL [mways0, mways1]))), (a_calls, .inl (aI, 16, .inl mcalls)), (a_callCounts, .inl (aI, 2, .inl (arL [mcallCounts0, mcallCounts1])))]) sz)) 0 0 (va_A ([(m0, .inr (5, [.int mthrown, .int (nI nf), .ref ah, .int mgap, .int mcars, .int mdark, .int msteps, .ref a_places, .ref a_speeds, .ref a_most, .ref a_gains, .ref a_brakes, .ref a_slows, .ref a_rides, .ref a_doors, .ref a_doorPlaces, .ref a_opened, .ref a_wide, .ref a_holds, .ref a_loads, .ref a_mostLoads, .ref a_beams, .ref a_contacts, .ref a_fires, .ref a_ways, .ref a_calls, .ref a_callCounts, .ref a_wears])), (ah, .inl (aI, 20, .inl mh)), (a_places, .inl (aI, 2, .inl (arL [mplaces0, mplaces1]))), (a_contacts, .inl (aI, 2, .inl (arL [mcontacts0, mcontacts1]))), (a_fires, .inl (aI, 2, .inl (arL [mfires0, mfires1]))), (a_ways, .inl (aI, 2, .inl (arL [mways0, mways1]))), (a_calls, .inl (aI, 16, .inl mcalls)), (a_callCounts, .inl (aI, 2, .inl (arL [mcallCounts0, mcallCounts1])))]) sz) := by
  refine en (cc := cX5_wanted) (maxL := 2) (ret := (some .int)) (Qc := (fun A : Nat → Prop => va_Qi (fun (r : Int32) (u : Unit) => F_m_wanted_1 nf mdark mh mplaces1 mcontacts1 mfires1 mways1 mcalls mcallCounts1 = r) (mpst D A (fun (u : Unit) => [(m0, .inr (5, [.int mthrown, .int (nI nf), .ref ah, .int mgap, .int mcars, .int mdark, .int msteps, .ref a_places, .ref a_speeds, .ref a_most, .ref a_gains, .ref a_brakes, .ref a_slows, .ref a_rides, .ref a_doors, .ref a_doorPlaces, .ref a_opened, .ref a_wide, .ref a_holds, .ref a_loads, .ref a_mostLoads, .ref a_beams, .ref a_contacts, .ref a_fires, .ref a_ways, .ref a_calls, .ref a_callCounts, .ref a_wears])), (ah, .inl (aI, 20, .inl mh)), (a_places, .inl (aI, 2, .inl (arL [mplaces0, mplaces1]))), (a_contacts, .inl (aI, 2, .inl (arL [mcontacts0, mcontacts1]))), (a_fires, .inl (aI, 2, .inl (arL [mfires0, mfires1]))), (a_ways, .inl (aI, 2, .inl (arL [mways0, mways1]))), (a_calls, .inl (aI, 16, .inl mcalls)), (a_callCounts, .inl (aI, 2, .inl (arL [mcallCounts0, mcallCounts1])))])) A)) (by decide) rfl (Nat.le_of_ble_eq_true rfl) ?_
  intro p e s m args below meth c A ls Q hQ hx hb hr hts hown hlk hnm hml hA hS hP hK hD hE hl
  have hown : s.vm.findClass RX5 = some m.cls := hown
  have hl : lv_has ls 2 [(0, .ref m0), (1, .int 1)] := hl
  have hG := F_m_wanted_1_u nf mdark mh mplaces1 mcontacts1 mfires1 mways1 mcalls mcallCounts1
  refine lv_aload_n hx hb dX5_wanted_0 rfl (lv_at hl 0 rfl) ?_
  refine lv_iload_n hx hb dX5_wanted_1 rfl (lv_at hl 1 rfl) ?_
  refine my_i (wr := [(ah, .inl (aI, 20, .inl mh)), (a_places, .inl (aI, 2, .inl (arL [mplaces0, mplaces1]))), (a_calls, .inl (aI, 16, .inl mcalls)), (a_callCounts, .inl (aI, 2, .inl (arL [mcallCounts0, mcallCounts1])))]) [0, 3, 4, 5] [1, 2, 6, 7] (va_runV (As := [.int 1]) (rest := []) ⟨hx, hb, hml, hown, hts⟩ (c_m_mode_1 l D aI aL aZ _ m0 ah a_places a_speeds a_most a_gains a_brakes a_slows a_rides a_doors a_doorPlaces a_opened a_wide a_holds a_loads a_mostLoads a_beams a_contacts a_fires a_ways a_calls a_callCounts a_wears mthrown nf mgap mcars mdark msteps mcontacts0 mcontacts1 mfires0 mfires1 mways0 mways1) (cwV 1 hts (gV w_835 w_837 w_25 w_38 w_838) rfl rfl rfl (by decide +kernel) ⟨Nat.le_of_ble_eq_true rfl, Nat.le_of_ble_eq_true rfl⟩) (prev_of hK hP hD hS hA hE [0, 3, 4, 5] rfl (by decide) (ci := 5) rfl 0 rfl _) rfl rfl hl.1 rfl (lv_room (Nat.le_of_ble_eq_true rfl)) dX5_wanted_2 ⟨Nat.le_of_ble_eq_true rfl, Nat.le_of_ble_eq_true rfl⟩) hP hD hS hA rfl rfl (by decide) (by decide) (fun r_1 u_ H locs hw_2 hP hD hS => ?_)
  have hw_2 : F_m_mode_1 mdark mcontacts1 mfires1 mways1 = r_1 := hw_2
  have hG := hG.trans (cb_e hw_2)
  have hP : va_P D vwCl [(ah, .inl (aI, 20, .inl mh)), (a_places, .inl (aI, 2, .inl (arL [mplaces0, mplaces1]))), (a_calls, .inl (aI, 16, .inl mcalls)), (a_callCounts, .inl (aI, 2, .inl (arL [mcallCounts0, mcallCounts1]))), (m0, .inr (5, [.int mthrown, .int (nI nf), .ref ah, .int mgap, .int mcars, .int mdark, .int msteps, .ref a_places, .ref a_speeds, .ref a_most, .ref a_gains, .ref a_brakes, .ref a_slows, .ref a_rides, .ref a_doors, .ref a_doorPlaces, .ref a_opened, .ref a_wide, .ref a_holds, .ref a_loads, .ref a_mostLoads, .ref a_beams, .ref a_contacts, .ref a_fires, .ref a_ways, .ref a_calls, .ref a_callCounts, .ref a_wears])), (a_contacts, .inl (aI, 2, .inl (arL [mcontacts0, mcontacts1]))), (a_fires, .inl (aI, 2, .inl (arL [mfires0, mfires1]))), (a_ways, .inl (aI, 2, .inl (arL [mways0, mways1])))] H := hP
  have hD : va_D A [(ah, .inl (aI, 20, .inl mh)), (a_places, .inl (aI, 2, .inl (arL [mplaces0, mplaces1]))), (a_calls, .inl (aI, 16, .inl mcalls)), (a_callCounts, .inl (aI, 2, .inl (arL [mcallCounts0, mcallCounts1]))), (m0, .inr (5, [.int mthrown, .int (nI nf), .ref ah, .int mgap, .int mcars, .int mdark, .int msteps, .ref a_places, .ref a_speeds, .ref a_most, .ref a_gains, .ref a_brakes, .ref a_slows, .ref a_rides, .ref a_doors, .ref a_doorPlaces, .ref a_opened, .ref a_wide, .ref a_holds, .ref a_loads, .ref a_mostLoads, .ref a_beams, .ref a_contacts, .ref a_fires, .ref a_ways, .ref a_calls, .ref a_callCounts, .ref a_wears])), (a_contacts, .inl (aI, 2, .inl (arL [mcontacts0, mcontacts1]))), (a_fires, .inl (aI, 2, .inl (arL [mfires0, mfires1]))), (a_ways, .inl (aI, 2, .inl (arL [mways0, mways1])))] := hD
  by_cases c_3 : r_1 = 0
  · have hG := hG.trans (if_pos c_3)
    refine lv_tableIn (off := 35) (tgt := 40) hx hb dX5_wanted_5 (by rw [c_3]; decide) (by rw [c_3]; decide) (by rw [c_3]; rfl) (by decide) ?_
    refine lv_aload_n hx hb dX5_wanted_40 rfl (lv_at hl 0 rfl) ?_
    refine va_get (D := D) (ci := 5) (v := .ref a_callCounts) (C := RX5) (T := TX5) (N := 28) hx hb hts inX5 hown hK hP 4 rfl rfl 26 (by decide) (hts _ (mG w_662)) (fun _ h9 => h9) rfl dX5_wanted_41 ?_
    refine lv_iload_n hx hb dX5_wanted_44 rfl (lv_at hl 1 rfl) ?_
    refine my_iald (v := mcallCounts1) (k := 1) hx hb hK hP 3 0 rfl rfl (by decide) (by decide) rfl dX5_wanted_45 ?_
    refine lv_if_le (tgt := 66) hx hb dX5_wanted_46 (by decide) (fun c_4 => ?_) (fun c_4 => ?_)
    · have hG := hG.trans (if_pos c_4)
      refine lv_iconst (v := (-1)) hx hb dX5_wanted_66 (by decide) ?_
      have hP := hP.sub (ws' := [(m0, .inr (5, [.int mthrown, .int (nI nf), .ref ah, .int mgap, .int mcars, .int mdark, .int msteps, .ref a_places, .ref a_speeds, .ref a_most, .ref a_gains, .ref a_brakes, .ref a_slows, .ref a_rides, .ref a_doors, .ref a_doorPlaces, .ref a_opened, .ref a_wide, .ref a_holds, .ref a_loads, .ref a_mostLoads, .ref a_beams, .ref a_contacts, .ref a_fires, .ref a_ways, .ref a_calls, .ref a_callCounts, .ref a_wears])), (ah, .inl (aI, 20, .inl mh)), (a_places, .inl (aI, 2, .inl (arL [mplaces0, mplaces1]))), (a_contacts, .inl (aI, 2, .inl (arL [mcontacts0, mcontacts1]))), (a_fires, .inl (aI, 2, .inl (arL [mfires0, mfires1]))), (a_ways, .inl (aI, 2, .inl (arL [mways0, mways1]))), (a_calls, .inl (aI, 16, .inl mcalls)), (a_callCounts, .inl (aI, 2, .inl (arL [mcallCounts0, mcallCounts1])))]) [4, 0, 1, 5, 6, 7, 2, 3] rfl
      have hD := hD.sub (ws' := [(m0, .inr (5, [.int mthrown, .int (nI nf), .ref ah, .int mgap, .int mcars, .int mdark, .int msteps, .ref a_places, .ref a_speeds, .ref a_most, .ref a_gains, .ref a_brakes, .ref a_slows, .ref a_rides, .ref a_doors, .ref a_doorPlaces, .ref a_opened, .ref a_wide, .ref a_holds, .ref a_loads, .ref a_mostLoads, .ref a_beams, .ref a_contacts, .ref a_fires, .ref a_ways, .ref a_calls, .ref a_callCounts, .ref a_wears])), (ah, .inl (aI, 20, .inl mh)), (a_places, .inl (aI, 2, .inl (arL [mplaces0, mplaces1]))), (a_contacts, .inl (aI, 2, .inl (arL [mcontacts0, mcontacts1]))), (a_fires, .inl (aI, 2, .inl (arL [mfires0, mfires1]))), (a_ways, .inl (aI, 2, .inl (arL [mways0, mways1]))), (a_calls, .inl (aI, 16, .inl mcalls)), (a_callCounts, .inl (aI, 2, .inl (arL [mcallCounts0, mcallCounts1])))]) [4, 0, 1, 5, 6, 7, 2, 3] (by decide) rfl
      exact rt_i hQ hx hb hr () hG hP hD hS (Nat.le_of_ble_eq_true rfl) (Nat.le_of_ble_eq_true rfl) dX5_wanted_67 hlk
    · have hG := hG.trans (if_neg c_4)
      refine lv_aload_n hx hb dX5_wanted_49 rfl (lv_at hl 0 rfl) ?_
      refine va_get (D := D) (ci := 5) (v := .ref ah) (C := RX5) (T := TX5) (N := 28) hx hb hts inX5 hown hK hP 4 rfl rfl 2 (by decide) (hts _ (mG w_638)) (fun _ h9 => h9) rfl dX5_wanted_50 ?_
      refine lv_aload_n hx hb dX5_wanted_53 rfl (lv_at hl 0 rfl) ?_
      refine va_get (D := D) (ci := 5) (v := .ref a_calls) (C := RX5) (T := TX5) (N := 28) hx hb hts inX5 hown hK hP 4 rfl rfl 25 (by decide) (hts _ (mG w_661)) (fun _ h9 => h9) rfl dX5_wanted_54 ?_
      refine lv_bipush (v := 8) hx hb dX5_wanted_57 (by decide) ?_
      refine lv_iload_n hx hb dX5_wanted_59 rfl (lv_at hl 1 rfl) ?_
      refine lv_imul hx hb dX5_wanted_60 ?_
      refine lv_topi (fun y_5 hy_5 => ?_)
      obtain rfl : y_5 = 8 := hy_5.trans (by decide)
      refine va_iald hx hb hK hP 2 0 rfl rfl (by unfold vp_in; decide) dX5_wanted_61 ?_
      refine lv_topi (fun y_6 hy_6 => ?_)
      obtain rfl : y_6 = (mcalls 8) := hy_6.trans (congrArg mcalls (by decide))
      refine va_iald hx hb hK hP 0 0 rfl rfl (hcl c_4) dX5_wanted_62 ?_
      refine lv_goto (tgt := 67) hx hb dX5_wanted_63 (by decide) ?_
      have hP := hP.sub (ws' := [(m0, .inr (5, [.int mthrown, .int (nI nf), .ref ah, .int mgap, .int mcars, .int mdark, .int msteps, .ref a_places, .ref a_speeds, .ref a_most, .ref a_gains, .ref a_brakes, .ref a_slows, .ref a_rides, .ref a_doors, .ref a_doorPlaces, .ref a_opened, .ref a_wide, .ref a_holds, .ref a_loads, .ref a_mostLoads, .ref a_beams, .ref a_contacts, .ref a_fires, .ref a_ways, .ref a_calls, .ref a_callCounts, .ref a_wears])), (ah, .inl (aI, 20, .inl mh)), (a_places, .inl (aI, 2, .inl (arL [mplaces0, mplaces1]))), (a_contacts, .inl (aI, 2, .inl (arL [mcontacts0, mcontacts1]))), (a_fires, .inl (aI, 2, .inl (arL [mfires0, mfires1]))), (a_ways, .inl (aI, 2, .inl (arL [mways0, mways1]))), (a_calls, .inl (aI, 16, .inl mcalls)), (a_callCounts, .inl (aI, 2, .inl (arL [mcallCounts0, mcallCounts1])))]) [4, 0, 1, 5, 6, 7, 2, 3] rfl
      have hD := hD.sub (ws' := [(m0, .inr (5, [.int mthrown, .int (nI nf), .ref ah, .int mgap, .int mcars, .int mdark, .int msteps, .ref a_places, .ref a_speeds, .ref a_most, .ref a_gains, .ref a_brakes, .ref a_slows, .ref a_rides, .ref a_doors, .ref a_doorPlaces, .ref a_opened, .ref a_wide, .ref a_holds, .ref a_loads, .ref a_mostLoads, .ref a_beams, .ref a_contacts, .ref a_fires, .ref a_ways, .ref a_calls, .ref a_callCounts, .ref a_wears])), (ah, .inl (aI, 20, .inl mh)), (a_places, .inl (aI, 2, .inl (arL [mplaces0, mplaces1]))), (a_contacts, .inl (aI, 2, .inl (arL [mcontacts0, mcontacts1]))), (a_fires, .inl (aI, 2, .inl (arL [mfires0, mfires1]))), (a_ways, .inl (aI, 2, .inl (arL [mways0, mways1]))), (a_calls, .inl (aI, 16, .inl mcalls)), (a_callCounts, .inl (aI, 2, .inl (arL [mcallCounts0, mcallCounts1])))]) [4, 0, 1, 5, 6, 7, 2, 3] (by decide) rfl
      exact rt_i hQ hx hb hr () hG hP hD hS (Nat.le_of_ble_eq_true rfl) (Nat.le_of_ble_eq_true rfl) dX5_wanted_67 hlk
  · have hG := hG.trans (if_neg c_3)
    by_cases c_7 : r_1 = 1
    · have hG := hG.trans (if_pos c_7)
      refine lv_tableIn (off := 131) (tgt := 136) hx hb dX5_wanted_5 (by rw [c_7]; decide) (by rw [c_7]; decide) (by rw [c_7]; rfl) (by decide) ?_
      refine lv_iconst (v := (-1)) hx hb dX5_wanted_136 (by decide) ?_
      have hP := hP.sub (ws' := [(m0, .inr (5, [.int mthrown, .int (nI nf), .ref ah, .int mgap, .int mcars, .int mdark, .int msteps, .ref a_places, .ref a_speeds, .ref a_most, .ref a_gains, .ref a_brakes, .ref a_slows, .ref a_rides, .ref a_doors, .ref a_doorPlaces, .ref a_opened, .ref a_wide, .ref a_holds, .ref a_loads, .ref a_mostLoads, .ref a_beams, .ref a_contacts, .ref a_fires, .ref a_ways, .ref a_calls, .ref a_callCounts, .ref a_wears])), (ah, .inl (aI, 20, .inl mh)), (a_places, .inl (aI, 2, .inl (arL [mplaces0, mplaces1]))), (a_contacts, .inl (aI, 2, .inl (arL [mcontacts0, mcontacts1]))), (a_fires, .inl (aI, 2, .inl (arL [mfires0, mfires1]))), (a_ways, .inl (aI, 2, .inl (arL [mways0, mways1]))), (a_calls, .inl (aI, 16, .inl mcalls)), (a_callCounts, .inl (aI, 2, .inl (arL [mcallCounts0, mcallCounts1])))]) [4, 0, 1, 5, 6, 7, 2, 3] rfl
      have hD := hD.sub (ws' := [(m0, .inr (5, [.int mthrown, .int (nI nf), .ref ah, .int mgap, .int mcars, .int mdark, .int msteps, .ref a_places, .ref a_speeds, .ref a_most, .ref a_gains, .ref a_brakes, .ref a_slows, .ref a_rides, .ref a_doors, .ref a_doorPlaces, .ref a_opened, .ref a_wide, .ref a_holds, .ref a_loads, .ref a_mostLoads, .ref a_beams, .ref a_contacts, .ref a_fires, .ref a_ways, .ref a_calls, .ref a_callCounts, .ref a_wears])), (ah, .inl (aI, 20, .inl mh)), (a_places, .inl (aI, 2, .inl (arL [mplaces0, mplaces1]))), (a_contacts, .inl (aI, 2, .inl (arL [mcontacts0, mcontacts1]))), (a_fires, .inl (aI, 2, .inl (arL [mfires0, mfires1]))), (a_ways, .inl (aI, 2, .inl (arL [mways0, mways1]))), (a_calls, .inl (aI, 16, .inl mcalls)), (a_callCounts, .inl (aI, 2, .inl (arL [mcallCounts0, mcallCounts1])))]) [4, 0, 1, 5, 6, 7, 2, 3] (by decide) rfl
      exact rt_i hQ hx hb hr () hG hP hD hS (Nat.le_of_ble_eq_true rfl) (Nat.le_of_ble_eq_true rfl) dX5_wanted_137 hlk
    · have hG := hG.trans (if_neg c_7)
      by_cases c_8 : r_1 = 2
      · have hG := hG.trans (if_pos c_8)
        refine lv_tableIn (off := 75) (tgt := 80) hx hb dX5_wanted_5 (by rw [c_8]; decide) (by rw [c_8]; decide) (by rw [c_8]; rfl) (by decide) ?_
        refine lv_aload_n hx hb dX5_wanted_80 rfl (lv_at hl 0 rfl) ?_
        refine lv_aload_n hx hb dX5_wanted_81 rfl (lv_at hl 0 rfl) ?_
        refine va_get (D := D) (ci := 5) (v := .ref a_places) (C := RX5) (T := TX5) (N := 28) hx hb hts inX5 hown hK hP 4 rfl rfl 7 (by decide) (hts _ (mG w_643)) (fun _ h9 => h9) rfl dX5_wanted_82 ?_
        refine lv_iload_n hx hb dX5_wanted_85 rfl (lv_at hl 1 rfl) ?_
        refine my_iald (v := mplaces1) (k := 1) hx hb hK hP 1 0 rfl rfl (by decide) (by decide) rfl dX5_wanted_86 ?_
        refine my_i (wr := [(a_places, .inl (aI, 2, .inl (arL [mplaces0, mplaces1]))), (a_calls, .inl (aI, 16, .inl mcalls)), (a_callCounts, .inl (aI, 2, .inl (arL [mcallCounts0, mcallCounts1]))), (a_contacts, .inl (aI, 2, .inl (arL [mcontacts0, mcontacts1]))), (a_fires, .inl (aI, 2, .inl (arL [mfires0, mfires1]))), (a_ways, .inl (aI, 2, .inl (arL [mways0, mways1])))]) [4, 0] [1, 2, 3, 5, 6, 7] (va_runV (As := [.int mplaces1]) (rest := []) ⟨hx, hb, hml, hown, hts⟩ (c_m_nearest l D aI aL aZ _ m0 ah a_places a_speeds a_most a_gains a_brakes a_slows a_rides a_doors a_doorPlaces a_opened a_wide a_holds a_loads a_mostLoads a_beams a_contacts a_fires a_ways a_calls a_callCounts a_wears mthrown nf mgap mcars mdark msteps mh mplaces1 hnf hnf2) (cwV 1 hts (gV w_843 w_845 w_27 w_38 w_846) rfl rfl rfl (by decide +kernel) ⟨Nat.le_of_ble_eq_true rfl, Nat.le_of_ble_eq_true rfl⟩) (prev_of hK hP hD hS hA hE [4, 0] rfl (by decide) (ci := 5) rfl 4 rfl _) rfl rfl hl.1 rfl (lv_room (Nat.le_of_ble_eq_true rfl)) dX5_wanted_87 ⟨Nat.le_of_ble_eq_true rfl, Nat.le_of_ble_eq_true rfl⟩) hP hD hS hA rfl rfl (by decide) (by decide) (fun r_9 u_ H locs hw_10 hP hD hS => ?_)
        have hw_10 : F_m_nearest nf mh mplaces1 = r_9 := hw_10
        have hG := hG.trans (cb_e hw_10)
        have hP : va_P D vwCl [(a_places, .inl (aI, 2, .inl (arL [mplaces0, mplaces1]))), (a_calls, .inl (aI, 16, .inl mcalls)), (a_callCounts, .inl (aI, 2, .inl (arL [mcallCounts0, mcallCounts1]))), (a_contacts, .inl (aI, 2, .inl (arL [mcontacts0, mcontacts1]))), (a_fires, .inl (aI, 2, .inl (arL [mfires0, mfires1]))), (a_ways, .inl (aI, 2, .inl (arL [mways0, mways1]))), (m0, .inr (5, [.int mthrown, .int (nI nf), .ref ah, .int mgap, .int mcars, .int mdark, .int msteps, .ref a_places, .ref a_speeds, .ref a_most, .ref a_gains, .ref a_brakes, .ref a_slows, .ref a_rides, .ref a_doors, .ref a_doorPlaces, .ref a_opened, .ref a_wide, .ref a_holds, .ref a_loads, .ref a_mostLoads, .ref a_beams, .ref a_contacts, .ref a_fires, .ref a_ways, .ref a_calls, .ref a_callCounts, .ref a_wears])), (ah, .inl (aI, 20, .inl mh))] H := hP
        have hD : va_D A [(a_places, .inl (aI, 2, .inl (arL [mplaces0, mplaces1]))), (a_calls, .inl (aI, 16, .inl mcalls)), (a_callCounts, .inl (aI, 2, .inl (arL [mcallCounts0, mcallCounts1]))), (a_contacts, .inl (aI, 2, .inl (arL [mcontacts0, mcontacts1]))), (a_fires, .inl (aI, 2, .inl (arL [mfires0, mfires1]))), (a_ways, .inl (aI, 2, .inl (arL [mways0, mways1]))), (m0, .inr (5, [.int mthrown, .int (nI nf), .ref ah, .int mgap, .int mcars, .int mdark, .int msteps, .ref a_places, .ref a_speeds, .ref a_most, .ref a_gains, .ref a_brakes, .ref a_slows, .ref a_rides, .ref a_doors, .ref a_doorPlaces, .ref a_opened, .ref a_wide, .ref a_holds, .ref a_loads, .ref a_mostLoads, .ref a_beams, .ref a_contacts, .ref a_fires, .ref a_ways, .ref a_calls, .ref a_callCounts, .ref a_wears])), (ah, .inl (aI, 20, .inl mh))] := hD
        have hP := hP.sub (ws' := [(m0, .inr (5, [.int mthrown, .int (nI nf), .ref ah, .int mgap, .int mcars, .int mdark, .int msteps, .ref a_places, .ref a_speeds, .ref a_most, .ref a_gains, .ref a_brakes, .ref a_slows, .ref a_rides, .ref a_doors, .ref a_doorPlaces, .ref a_opened, .ref a_wide, .ref a_holds, .ref a_loads, .ref a_mostLoads, .ref a_beams, .ref a_contacts, .ref a_fires, .ref a_ways, .ref a_calls, .ref a_callCounts, .ref a_wears])), (ah, .inl (aI, 20, .inl mh)), (a_places, .inl (aI, 2, .inl (arL [mplaces0, mplaces1]))), (a_contacts, .inl (aI, 2, .inl (arL [mcontacts0, mcontacts1]))), (a_fires, .inl (aI, 2, .inl (arL [mfires0, mfires1]))), (a_ways, .inl (aI, 2, .inl (arL [mways0, mways1]))), (a_calls, .inl (aI, 16, .inl mcalls)), (a_callCounts, .inl (aI, 2, .inl (arL [mcallCounts0, mcallCounts1])))]) [6, 7, 0, 3, 4, 5, 1, 2] rfl
        have hD := hD.sub (ws' := [(m0, .inr (5, [.int mthrown, .int (nI nf), .ref ah, .int mgap, .int mcars, .int mdark, .int msteps, .ref a_places, .ref a_speeds, .ref a_most, .ref a_gains, .ref a_brakes, .ref a_slows, .ref a_rides, .ref a_doors, .ref a_doorPlaces, .ref a_opened, .ref a_wide, .ref a_holds, .ref a_loads, .ref a_mostLoads, .ref a_beams, .ref a_contacts, .ref a_fires, .ref a_ways, .ref a_calls, .ref a_callCounts, .ref a_wears])), (ah, .inl (aI, 20, .inl mh)), (a_places, .inl (aI, 2, .inl (arL [mplaces0, mplaces1]))), (a_contacts, .inl (aI, 2, .inl (arL [mcontacts0, mcontacts1]))), (a_fires, .inl (aI, 2, .inl (arL [mfires0, mfires1]))), (a_ways, .inl (aI, 2, .inl (arL [mways0, mways1]))), (a_calls, .inl (aI, 16, .inl mcalls)), (a_callCounts, .inl (aI, 2, .inl (arL [mcallCounts0, mcallCounts1])))]) [6, 7, 0, 3, 4, 5, 1, 2] (by decide) rfl
        exact rt_i hQ hx hb hr () hG hP hD hS (Nat.le_of_ble_eq_true rfl) (Nat.le_of_ble_eq_true rfl) dX5_wanted_90 hlk
      · have hG := hG.trans (if_neg c_8)
        by_cases c_11 : r_1 = 3
        · have hG := hG.trans (if_pos c_11)
          refine lv_tableIn (off := 63) (tgt := 68) hx hb dX5_wanted_5 (by rw [c_11]; decide) (by rw [c_11]; decide) (by rw [c_11]; rfl) (by decide) ?_
          refine lv_aload_n hx hb dX5_wanted_68 rfl (lv_at hl 0 rfl) ?_
          refine va_get (D := D) (ci := 5) (v := .ref ah) (C := RX5) (T := TX5) (N := 28) hx hb hts inX5 hown hK hP 4 rfl rfl 2 (by decide) (hts _ (mG w_638)) (fun _ h9 => h9) rfl dX5_wanted_69 ?_
          refine lv_aload_n hx hb dX5_wanted_72 rfl (lv_at hl 0 rfl) ?_
          refine va_get (D := D) (ci := 5) (v := .ref a_fires) (C := RX5) (T := TX5) (N := 28) hx hb hts inX5 hown hK hP 4 rfl rfl 23 (by decide) (hts _ (mG w_659)) (fun _ h9 => h9) rfl dX5_wanted_73 ?_
          refine lv_iload_n hx hb dX5_wanted_76 rfl (lv_at hl 1 rfl) ?_
          refine my_iald (v := mfires1) (k := 1) hx hb hK hP 6 0 rfl rfl (by decide) (by decide) rfl dX5_wanted_77 ?_
          refine va_iald hx hb hK hP 0 0 rfl rfl (hfi (mode3_1 (hw_2.trans c_11))) dX5_wanted_78 ?_
          have hP := hP.sub (ws' := [(m0, .inr (5, [.int mthrown, .int (nI nf), .ref ah, .int mgap, .int mcars, .int mdark, .int msteps, .ref a_places, .ref a_speeds, .ref a_most, .ref a_gains, .ref a_brakes, .ref a_slows, .ref a_rides, .ref a_doors, .ref a_doorPlaces, .ref a_opened, .ref a_wide, .ref a_holds, .ref a_loads, .ref a_mostLoads, .ref a_beams, .ref a_contacts, .ref a_fires, .ref a_ways, .ref a_calls, .ref a_callCounts, .ref a_wears])), (ah, .inl (aI, 20, .inl mh)), (a_places, .inl (aI, 2, .inl (arL [mplaces0, mplaces1]))), (a_contacts, .inl (aI, 2, .inl (arL [mcontacts0, mcontacts1]))), (a_fires, .inl (aI, 2, .inl (arL [mfires0, mfires1]))), (a_ways, .inl (aI, 2, .inl (arL [mways0, mways1]))), (a_calls, .inl (aI, 16, .inl mcalls)), (a_callCounts, .inl (aI, 2, .inl (arL [mcallCounts0, mcallCounts1])))]) [4, 0, 1, 5, 6, 7, 2, 3] rfl
          have hD := hD.sub (ws' := [(m0, .inr (5, [.int mthrown, .int (nI nf), .ref ah, .int mgap, .int mcars, .int mdark, .int msteps, .ref a_places, .ref a_speeds, .ref a_most, .ref a_gains, .ref a_brakes, .ref a_slows, .ref a_rides, .ref a_doors, .ref a_doorPlaces, .ref a_opened, .ref a_wide, .ref a_holds, .ref a_loads, .ref a_mostLoads, .ref a_beams, .ref a_contacts, .ref a_fires, .ref a_ways, .ref a_calls, .ref a_callCounts, .ref a_wears])), (ah, .inl (aI, 20, .inl mh)), (a_places, .inl (aI, 2, .inl (arL [mplaces0, mplaces1]))), (a_contacts, .inl (aI, 2, .inl (arL [mcontacts0, mcontacts1]))), (a_fires, .inl (aI, 2, .inl (arL [mfires0, mfires1]))), (a_ways, .inl (aI, 2, .inl (arL [mways0, mways1]))), (a_calls, .inl (aI, 16, .inl mcalls)), (a_callCounts, .inl (aI, 2, .inl (arL [mcallCounts0, mcallCounts1])))]) [4, 0, 1, 5, 6, 7, 2, 3] (by decide) rfl
          exact rt_i hQ hx hb hr () hG hP hD hS (Nat.le_of_ble_eq_true rfl) (Nat.le_of_ble_eq_true rfl) dX5_wanted_79 hlk
        · have hG := hG.trans (if_neg c_11)
          by_cases c_12 : r_1 = 4
          · have hG := hG.trans (if_pos c_12)
            refine lv_tableIn (off := 86) (tgt := 91) hx hb dX5_wanted_5 (by rw [c_12]; decide) (by rw [c_12]; decide) (by rw [c_12]; rfl) (by decide) ?_
            refine lv_aload_n hx hb dX5_wanted_91 rfl (lv_at hl 0 rfl) ?_
            refine va_get (D := D) (ci := 5) (v := .ref a_ways) (C := RX5) (T := TX5) (N := 28) hx hb hts inX5 hown hK hP 4 rfl rfl 24 (by decide) (hts _ (mG w_660)) (fun _ h9 => h9) rfl dX5_wanted_92 ?_
            refine lv_iload_n hx hb dX5_wanted_95 rfl (lv_at hl 1 rfl) ?_
            refine my_iald (v := mways1) (k := 1) hx hb hK hP 7 0 rfl rfl (by decide) (by decide) rfl dX5_wanted_96 ?_
            refine lv_iconst (v := 1) hx hb dX5_wanted_97 (by decide) ?_
            refine lv_icmp_ne (tgt := 115) hx hb dX5_wanted_98 (by decide) (fun c_13 => ?_) (fun c_13 => ?_)
            · have hG := hG.trans (if_neg c_13)
              refine lv_aload_n hx hb dX5_wanted_115 rfl (lv_at hl 0 rfl) ?_
              refine va_get (D := D) (ci := 5) (v := .ref a_ways) (C := RX5) (T := TX5) (N := 28) hx hb hts inX5 hown hK hP 4 rfl rfl 24 (by decide) (hts _ (mG w_660)) (fun _ h9 => h9) rfl dX5_wanted_116 ?_
              refine lv_iload_n hx hb dX5_wanted_119 rfl (lv_at hl 1 rfl) ?_
              refine my_iald (v := mways1) (k := 1) hx hb hK hP 7 0 rfl rfl (by decide) (by decide) rfl dX5_wanted_120 ?_
              refine lv_iconst (v := (-1)) hx hb dX5_wanted_121 (by decide) ?_
              refine lv_icmp_ne (tgt := 134) hx hb dX5_wanted_122 (by decide) (fun c_14 => ?_) (fun c_14 => ?_)
              · have hG := hG.trans (if_neg c_14)
                refine lv_iconst (v := (-1)) hx hb dX5_wanted_134 (by decide) ?_
                have hP := hP.sub (ws' := [(m0, .inr (5, [.int mthrown, .int (nI nf), .ref ah, .int mgap, .int mcars, .int mdark, .int msteps, .ref a_places, .ref a_speeds, .ref a_most, .ref a_gains, .ref a_brakes, .ref a_slows, .ref a_rides, .ref a_doors, .ref a_doorPlaces, .ref a_opened, .ref a_wide, .ref a_holds, .ref a_loads, .ref a_mostLoads, .ref a_beams, .ref a_contacts, .ref a_fires, .ref a_ways, .ref a_calls, .ref a_callCounts, .ref a_wears])), (ah, .inl (aI, 20, .inl mh)), (a_places, .inl (aI, 2, .inl (arL [mplaces0, mplaces1]))), (a_contacts, .inl (aI, 2, .inl (arL [mcontacts0, mcontacts1]))), (a_fires, .inl (aI, 2, .inl (arL [mfires0, mfires1]))), (a_ways, .inl (aI, 2, .inl (arL [mways0, mways1]))), (a_calls, .inl (aI, 16, .inl mcalls)), (a_callCounts, .inl (aI, 2, .inl (arL [mcallCounts0, mcallCounts1])))]) [4, 0, 1, 5, 6, 7, 2, 3] rfl
                have hD := hD.sub (ws' := [(m0, .inr (5, [.int mthrown, .int (nI nf), .ref ah, .int mgap, .int mcars, .int mdark, .int msteps, .ref a_places, .ref a_speeds, .ref a_most, .ref a_gains, .ref a_brakes, .ref a_slows, .ref a_rides, .ref a_doors, .ref a_doorPlaces, .ref a_opened, .ref a_wide, .ref a_holds, .ref a_loads, .ref a_mostLoads, .ref a_beams, .ref a_contacts, .ref a_fires, .ref a_ways, .ref a_calls, .ref a_callCounts, .ref a_wears])), (ah, .inl (aI, 20, .inl mh)), (a_places, .inl (aI, 2, .inl (arL [mplaces0, mplaces1]))), (a_contacts, .inl (aI, 2, .inl (arL [mcontacts0, mcontacts1]))), (a_fires, .inl (aI, 2, .inl (arL [mfires0, mfires1]))), (a_ways, .inl (aI, 2, .inl (arL [mways0, mways1]))), (a_calls, .inl (aI, 16, .inl mcalls)), (a_callCounts, .inl (aI, 2, .inl (arL [mcallCounts0, mcallCounts1])))]) [4, 0, 1, 5, 6, 7, 2, 3] (by decide) rfl
                exact rt_i hQ hx hb hr () hG hP hD hS (Nat.le_of_ble_eq_true rfl) (Nat.le_of_ble_eq_true rfl) dX5_wanted_135 hlk
              · have hG := hG.trans (if_pos c_14)
                refine lv_aload_n hx hb dX5_wanted_125 rfl (lv_at hl 0 rfl) ?_
                refine va_get (D := D) (ci := 5) (v := .ref ah) (C := RX5) (T := TX5) (N := 28) hx hb hts inX5 hown hK hP 4 rfl rfl 2 (by decide) (hts _ (mG w_638)) (fun _ h9 => h9) rfl dX5_wanted_126 ?_
                refine lv_iconst (v := 0) hx hb dX5_wanted_129 (by decide) ?_
                refine va_iald hx hb hK hP 0 0 rfl rfl (by unfold vp_in; decide) dX5_wanted_130 ?_
                refine lv_topi (fun y_15 hy_15 => ?_)
                obtain rfl : y_15 = (mh 0) := hy_15.trans (congrArg mh (by decide))
                refine lv_goto (tgt := 135) hx hb dX5_wanted_131 (by decide) ?_
                have hP := hP.sub (ws' := [(m0, .inr (5, [.int mthrown, .int (nI nf), .ref ah, .int mgap, .int mcars, .int mdark, .int msteps, .ref a_places, .ref a_speeds, .ref a_most, .ref a_gains, .ref a_brakes, .ref a_slows, .ref a_rides, .ref a_doors, .ref a_doorPlaces, .ref a_opened, .ref a_wide, .ref a_holds, .ref a_loads, .ref a_mostLoads, .ref a_beams, .ref a_contacts, .ref a_fires, .ref a_ways, .ref a_calls, .ref a_callCounts, .ref a_wears])), (ah, .inl (aI, 20, .inl mh)), (a_places, .inl (aI, 2, .inl (arL [mplaces0, mplaces1]))), (a_contacts, .inl (aI, 2, .inl (arL [mcontacts0, mcontacts1]))), (a_fires, .inl (aI, 2, .inl (arL [mfires0, mfires1]))), (a_ways, .inl (aI, 2, .inl (arL [mways0, mways1]))), (a_calls, .inl (aI, 16, .inl mcalls)), (a_callCounts, .inl (aI, 2, .inl (arL [mcallCounts0, mcallCounts1])))]) [4, 0, 1, 5, 6, 7, 2, 3] rfl
                have hD := hD.sub (ws' := [(m0, .inr (5, [.int mthrown, .int (nI nf), .ref ah, .int mgap, .int mcars, .int mdark, .int msteps, .ref a_places, .ref a_speeds, .ref a_most, .ref a_gains, .ref a_brakes, .ref a_slows, .ref a_rides, .ref a_doors, .ref a_doorPlaces, .ref a_opened, .ref a_wide, .ref a_holds, .ref a_loads, .ref a_mostLoads, .ref a_beams, .ref a_contacts, .ref a_fires, .ref a_ways, .ref a_calls, .ref a_callCounts, .ref a_wears])), (ah, .inl (aI, 20, .inl mh)), (a_places, .inl (aI, 2, .inl (arL [mplaces0, mplaces1]))), (a_contacts, .inl (aI, 2, .inl (arL [mcontacts0, mcontacts1]))), (a_fires, .inl (aI, 2, .inl (arL [mfires0, mfires1]))), (a_ways, .inl (aI, 2, .inl (arL [mways0, mways1]))), (a_calls, .inl (aI, 16, .inl mcalls)), (a_callCounts, .inl (aI, 2, .inl (arL [mcallCounts0, mcallCounts1])))]) [4, 0, 1, 5, 6, 7, 2, 3] (by decide) rfl
                exact rt_i hQ hx hb hr () hG hP hD hS (Nat.le_of_ble_eq_true rfl) (Nat.le_of_ble_eq_true rfl) dX5_wanted_135 hlk
            · have hG := hG.trans (if_pos c_13)
              refine lv_aload_n hx hb dX5_wanted_101 rfl (lv_at hl 0 rfl) ?_
              refine va_get (D := D) (ci := 5) (v := .ref ah) (C := RX5) (T := TX5) (N := 28) hx hb hts inX5 hown hK hP 4 rfl rfl 2 (by decide) (hts _ (mG w_638)) (fun _ h9 => h9) rfl dX5_wanted_102 ?_
              refine lv_aload_n hx hb dX5_wanted_105 rfl (lv_at hl 0 rfl) ?_
              refine va_get (D := D) (ci := 5) (v := .int (nI nf)) (C := RX5) (T := TX5) (N := 28) hx hb hts inX5 hown hK hP 4 rfl rfl 1 (by decide) (hts _ (mG w_637)) (fun _ h9 => h9) rfl dX5_wanted_106 ?_
              refine lv_iconst (v := 1) hx hb dX5_wanted_109 (by decide) ?_
              refine lv_isub hx hb dX5_wanted_110 ?_
              refine va_iald hx hb hK hP 0 0 rfl rfl (ix_m1 hnf hnf2 (by decide)) dX5_wanted_111 ?_
              refine lv_goto (tgt := 135) hx hb dX5_wanted_112 (by decide) ?_
              have hP := hP.sub (ws' := [(m0, .inr (5, [.int mthrown, .int (nI nf), .ref ah, .int mgap, .int mcars, .int mdark, .int msteps, .ref a_places, .ref a_speeds, .ref a_most, .ref a_gains, .ref a_brakes, .ref a_slows, .ref a_rides, .ref a_doors, .ref a_doorPlaces, .ref a_opened, .ref a_wide, .ref a_holds, .ref a_loads, .ref a_mostLoads, .ref a_beams, .ref a_contacts, .ref a_fires, .ref a_ways, .ref a_calls, .ref a_callCounts, .ref a_wears])), (ah, .inl (aI, 20, .inl mh)), (a_places, .inl (aI, 2, .inl (arL [mplaces0, mplaces1]))), (a_contacts, .inl (aI, 2, .inl (arL [mcontacts0, mcontacts1]))), (a_fires, .inl (aI, 2, .inl (arL [mfires0, mfires1]))), (a_ways, .inl (aI, 2, .inl (arL [mways0, mways1]))), (a_calls, .inl (aI, 16, .inl mcalls)), (a_callCounts, .inl (aI, 2, .inl (arL [mcallCounts0, mcallCounts1])))]) [4, 0, 1, 5, 6, 7, 2, 3] rfl
              have hD := hD.sub (ws' := [(m0, .inr (5, [.int mthrown, .int (nI nf), .ref ah, .int mgap, .int mcars, .int mdark, .int msteps, .ref a_places, .ref a_speeds, .ref a_most, .ref a_gains, .ref a_brakes, .ref a_slows, .ref a_rides, .ref a_doors, .ref a_doorPlaces, .ref a_opened, .ref a_wide, .ref a_holds, .ref a_loads, .ref a_mostLoads, .ref a_beams, .ref a_contacts, .ref a_fires, .ref a_ways, .ref a_calls, .ref a_callCounts, .ref a_wears])), (ah, .inl (aI, 20, .inl mh)), (a_places, .inl (aI, 2, .inl (arL [mplaces0, mplaces1]))), (a_contacts, .inl (aI, 2, .inl (arL [mcontacts0, mcontacts1]))), (a_fires, .inl (aI, 2, .inl (arL [mfires0, mfires1]))), (a_ways, .inl (aI, 2, .inl (arL [mways0, mways1]))), (a_calls, .inl (aI, 16, .inl mcalls)), (a_callCounts, .inl (aI, 2, .inl (arL [mcallCounts0, mcallCounts1])))]) [4, 0, 1, 5, 6, 7, 2, 3] (by decide) rfl
              exact rt_i hQ hx hb hr () hG hP hD hS (Nat.le_of_ble_eq_true rfl) (Nat.le_of_ble_eq_true rfl) dX5_wanted_135 hlk
          · have hG := hG.trans (if_neg c_12)
            refine lv_tableOut (tgt := 136) hx hb dX5_wanted_5 (by have q0 := lv_neT c_3 (a := 0) (by decide); have q1 := lv_neT c_7 (a := 1) (by decide); have q2 := lv_neT c_8 (a := 2) (by decide); have q3 := lv_neT c_11 (a := 3) (by decide); have q4 := lv_neT c_12 (a := 4) (by decide); omega) (by decide) ?_
            refine lv_iconst (v := (-1)) hx hb dX5_wanted_136 (by decide) ?_
            have hP := hP.sub (ws' := [(m0, .inr (5, [.int mthrown, .int (nI nf), .ref ah, .int mgap, .int mcars, .int mdark, .int msteps, .ref a_places, .ref a_speeds, .ref a_most, .ref a_gains, .ref a_brakes, .ref a_slows, .ref a_rides, .ref a_doors, .ref a_doorPlaces, .ref a_opened, .ref a_wide, .ref a_holds, .ref a_loads, .ref a_mostLoads, .ref a_beams, .ref a_contacts, .ref a_fires, .ref a_ways, .ref a_calls, .ref a_callCounts, .ref a_wears])), (ah, .inl (aI, 20, .inl mh)), (a_places, .inl (aI, 2, .inl (arL [mplaces0, mplaces1]))), (a_contacts, .inl (aI, 2, .inl (arL [mcontacts0, mcontacts1]))), (a_fires, .inl (aI, 2, .inl (arL [mfires0, mfires1]))), (a_ways, .inl (aI, 2, .inl (arL [mways0, mways1]))), (a_calls, .inl (aI, 16, .inl mcalls)), (a_callCounts, .inl (aI, 2, .inl (arL [mcallCounts0, mcallCounts1])))]) [4, 0, 1, 5, 6, 7, 2, 3] rfl
            have hD := hD.sub (ws' := [(m0, .inr (5, [.int mthrown, .int (nI nf), .ref ah, .int mgap, .int mcars, .int mdark, .int msteps, .ref a_places, .ref a_speeds, .ref a_most, .ref a_gains, .ref a_brakes, .ref a_slows, .ref a_rides, .ref a_doors, .ref a_doorPlaces, .ref a_opened, .ref a_wide, .ref a_holds, .ref a_loads, .ref a_mostLoads, .ref a_beams, .ref a_contacts, .ref a_fires, .ref a_ways, .ref a_calls, .ref a_callCounts, .ref a_wears])), (ah, .inl (aI, 20, .inl mh)), (a_places, .inl (aI, 2, .inl (arL [mplaces0, mplaces1]))), (a_contacts, .inl (aI, 2, .inl (arL [mcontacts0, mcontacts1]))), (a_fires, .inl (aI, 2, .inl (arL [mfires0, mfires1]))), (a_ways, .inl (aI, 2, .inl (arL [mways0, mways1]))), (a_calls, .inl (aI, 16, .inl mcalls)), (a_callCounts, .inl (aI, 2, .inl (arL [mcallCounts0, mcallCounts1])))]) [4, 0, 1, 5, 6, 7, 2, 3] (by decide) rfl
            exact rt_i hQ hx hb hr () hG hP hD hS (Nat.le_of_ble_eq_true rfl) (Nat.le_of_ble_eq_true rfl) dX5_wanted_137 hlk
def F_m_limit_1 (mmost1 : Int32) (mslows1 : Int32) (mrides1 : Int32) (p1 : Int32) : Int32 :=
  if p1 = 2 then
    mslows1
  else
    if p1 = 4 then
      mrides1
    else
      mmost1
theorem F_m_limit_1_u (mmost1 : Int32) (mslows1 : Int32) (mrides1 : Int32) (p1 : Int32) : F_m_limit_1 mmost1 mslows1 mrides1 p1 =
  (if p1 = 2 then
    mslows1
  else
    if p1 = 4 then
      mrides1
    else
      mmost1) := rfl
set_option maxHeartbeats 4000000 in
set_option maxRecDepth 100000 in
theorem c_m_limit_1 (l : Launch) (D : va_G) (aI aL aZ : ClassId) (sz : Nat) (m0 : Nat) (ah : Nat) (a_places : Nat) (a_speeds : Nat) (a_most : Nat) (a_gains : Nat) (a_brakes : Nat) (a_slows : Nat) (a_rides : Nat) (a_doors : Nat) (a_doorPlaces : Nat) (a_opened : Nat) (a_wide : Nat) (a_holds : Nat) (a_loads : Nat) (a_mostLoads : Nat) (a_beams : Nat) (a_contacts : Nat) (a_fires : Nat) (a_ways : Nat) (a_calls : Nat) (a_callCounts : Nat) (a_wears : Nat) (mthrown : Int32) (nf : Nat) (mgap : Int32) (mcars : Int32) (mdark : Int32) (msteps : Int32) (mmost0 : Int32) (mmost1 : Int32) (mslows0 : Int32) (mslows1 : Int32) (mrides0 : Int32) (mrides1 : Int32) (p1 : Int32) : Met l yX5_limit (.code yX5_limit cX5_limit 3 (some .int) :: Gw) ({ frames := 0, cells := 0, slots := 0, locals := 0 }) (va_Pc [.ref m0, .int 1, .int p1] (mpre D [(aI, .int), (aL, .long), (aZ, .boolean)] [(m0, .inr (5, [.int mthrown, .int (nI nf), .ref ah, .int mgap, .int mcars, .int mdark, .int msteps, .ref a_places, .ref a_speeds, .ref a_most, .ref a_gains, .ref a_brakes, .ref a_slows, .ref a_rides, .ref a_doors, .ref a_doorPlaces, .ref a_opened, .ref a_wide, .ref a_holds, .ref a_loads, .ref a_mostLoads, .ref a_beams, .ref a_contacts, .ref a_fires, .ref a_ways, .ref a_calls, .ref a_callCounts, .ref a_wears])), (a_most, .inl (aI, 2, .inl (arL [mmost0, mmost1]))), (a_slows, .inl (aI, 2, .inl (arL [mslows0, mslows1]))), (a_rides, .inl (aI, 2, .inl (arL [mrides0, mrides1])))] sz)) ((fun A : Nat → Prop => va_Qi (fun (r : Int32) (u : Unit) => F_m_limit_1 mmost1 mslows1 mrides1 p1 = r) (mpst D A (fun (u : Unit) => [(m0, .inr (5, [.int mthrown, .int (nI nf), .ref ah, .int mgap, .int mcars, .int mdark, .int msteps, .ref a_places, .ref a_speeds, .ref a_most, .ref a_gains, .ref a_brakes, .ref a_slows, .ref a_rides, .ref a_doors, .ref a_doorPlaces, .ref a_opened, .ref a_wide, .ref a_holds, .ref a_loads, .ref a_mostLoads, .ref a_beams, .ref a_contacts, .ref a_fires, .ref a_ways, .ref a_calls, .ref a_callCounts, .ref a_wears])), (a_most, .inl (aI, 2, .inl (arL [mmost0, mmost1]))), (a_slows, .inl (aI, 2, .inl (arL [mslows0, mslows1]))), (a_rides, .inl (aI, 2, .inl (arL [mrides0, mrides1])))])) A) (va_A ([(m0, .inr (5, [.int mthrown, .int (nI nf), .ref ah, .int mgap, .int mcars, .int mdark, .int msteps, .ref a_places, .ref a_speeds, .ref a_most, .ref a_gains, .ref a_brakes, .ref a_slows, .ref a_rides, .ref a_doors, .ref a_doorPlaces, .ref a_opened, .ref a_wide, .ref a_holds, .ref a_loads, .ref a_mostLoads, .ref a_beams, .ref a_contacts, .ref a_fires, .ref a_ways, .ref a_calls, .ref a_callCounts, .ref a_wears])), (a_most, .inl (aI, 2, .inl (arL [mmost0, mmost1]))), (a_slows, .inl (aI, 2, .inl (arL [mslows0, mslows1]))), (a_rides, .inl (aI, 2, .inl (arL [mrides0, mrides1])))]) sz)) 0 0 (va_A ([(m0, .inr (5, [.int mthrown, .int (nI nf), .ref ah, .int mgap, .int mcars, .int mdark, .int msteps, .ref a_places, .ref a_speeds, .ref a_most, .ref a_gains, .ref a_brakes, .ref a_slows, .ref a_rides, .ref a_doors, .ref a_doorPlaces, .ref a_opened, .ref a_wide, .ref a_holds, .ref a_loads, .ref a_mostLoads, .ref a_beams, .ref a_contacts, .ref a_fires, .ref a_ways, .ref a_calls, .ref a_callCounts, .ref a_wears])), (a_most, .inl (aI, 2, .inl (arL [mmost0, mmost1]))), (a_slows, .inl (aI, 2, .inl (arL [mslows0, mslows1]))), (a_rides, .inl (aI, 2, .inl (arL [mrides0, mrides1])))]) sz) := by
  refine en (cc := cX5_limit) (maxL := 3) (ret := (some .int)) (Qc := (fun A : Nat → Prop => va_Qi (fun (r : Int32) (u : Unit) => F_m_limit_1 mmost1 mslows1 mrides1 p1 = r) (mpst D A (fun (u : Unit) => [(m0, .inr (5, [.int mthrown, .int (nI nf), .ref ah, .int mgap, .int mcars, .int mdark, .int msteps, .ref a_places, .ref a_speeds, .ref a_most, .ref a_gains, .ref a_brakes, .ref a_slows, .ref a_rides, .ref a_doors, .ref a_doorPlaces, .ref a_opened, .ref a_wide, .ref a_holds, .ref a_loads, .ref a_mostLoads, .ref a_beams, .ref a_contacts, .ref a_fires, .ref a_ways, .ref a_calls, .ref a_callCounts, .ref a_wears])), (a_most, .inl (aI, 2, .inl (arL [mmost0, mmost1]))), (a_slows, .inl (aI, 2, .inl (arL [mslows0, mslows1]))), (a_rides, .inl (aI, 2, .inl (arL [mrides0, mrides1])))])) A)) (by decide) rfl (Nat.le_of_ble_eq_true rfl) ?_
  intro p e s m args below meth c A ls Q hQ hx hb hr hts hown hlk hnm hml hA hS hP hK hD hE hl
  have hown : s.vm.findClass RX5 = some m.cls := hown
  have hl : lv_has ls 3 [(0, .ref m0), (1, .int 1), (2, .int p1)] := hl
  have hG := F_m_limit_1_u mmost1 mslows1 mrides1 p1
  refine lv_iload_n hx hb dX5_limit_0 rfl (lv_at hl 2 rfl) ?_
  refine lv_iconst (v := 2) hx hb dX5_limit_1 (by decide) ?_
  refine lv_icmp_ne (tgt := 14) hx hb dX5_limit_2 (by decide) (fun c_1 => ?_) (fun c_1 => ?_)
  · have hG := hG.trans (if_neg c_1)
    refine lv_iload_n hx hb dX5_limit_14 rfl (lv_at hl 2 rfl) ?_
    refine lv_iconst (v := 4) hx hb dX5_limit_15 (by decide) ?_
    refine lv_icmp_ne (tgt := 28) hx hb dX5_limit_16 (by decide) (fun c_2 => ?_) (fun c_2 => ?_)
    · have hG := hG.trans (if_neg c_2)
      refine lv_aload_n hx hb dX5_limit_28 rfl (lv_at hl 0 rfl) ?_
      refine va_get (D := D) (ci := 5) (v := .ref a_most) (C := RX5) (T := TX5) (N := 28) hx hb hts inX5 hown hK hP 0 rfl rfl 9 (by decide) (hts _ (mG w_645)) (fun _ h9 => h9) rfl dX5_limit_29 ?_
      refine lv_iload_n hx hb dX5_limit_32 rfl (lv_at hl 1 rfl) ?_
      refine my_iald (v := mmost1) (k := 1) hx hb hK hP 1 0 rfl rfl (by decide) (by decide) rfl dX5_limit_33 ?_
      have hP := hP.sub (ws' := [(m0, .inr (5, [.int mthrown, .int (nI nf), .ref ah, .int mgap, .int mcars, .int mdark, .int msteps, .ref a_places, .ref a_speeds, .ref a_most, .ref a_gains, .ref a_brakes, .ref a_slows, .ref a_rides, .ref a_doors, .ref a_doorPlaces, .ref a_opened, .ref a_wide, .ref a_holds, .ref a_loads, .ref a_mostLoads, .ref a_beams, .ref a_contacts, .ref a_fires, .ref a_ways, .ref a_calls, .ref a_callCounts, .ref a_wears])), (a_most, .inl (aI, 2, .inl (arL [mmost0, mmost1]))), (a_slows, .inl (aI, 2, .inl (arL [mslows0, mslows1]))), (a_rides, .inl (aI, 2, .inl (arL [mrides0, mrides1])))]) [0, 1, 2, 3] rfl
      have hD := hD.sub (ws' := [(m0, .inr (5, [.int mthrown, .int (nI nf), .ref ah, .int mgap, .int mcars, .int mdark, .int msteps, .ref a_places, .ref a_speeds, .ref a_most, .ref a_gains, .ref a_brakes, .ref a_slows, .ref a_rides, .ref a_doors, .ref a_doorPlaces, .ref a_opened, .ref a_wide, .ref a_holds, .ref a_loads, .ref a_mostLoads, .ref a_beams, .ref a_contacts, .ref a_fires, .ref a_ways, .ref a_calls, .ref a_callCounts, .ref a_wears])), (a_most, .inl (aI, 2, .inl (arL [mmost0, mmost1]))), (a_slows, .inl (aI, 2, .inl (arL [mslows0, mslows1]))), (a_rides, .inl (aI, 2, .inl (arL [mrides0, mrides1])))]) [0, 1, 2, 3] (by decide) rfl
      exact rt_i hQ hx hb hr () hG hP hD hS (Nat.le_of_ble_eq_true rfl) (Nat.le_of_ble_eq_true rfl) dX5_limit_34 hlk
    · have hG := hG.trans (if_pos c_2)
      refine lv_aload_n hx hb dX5_limit_19 rfl (lv_at hl 0 rfl) ?_
      refine va_get (D := D) (ci := 5) (v := .ref a_rides) (C := RX5) (T := TX5) (N := 28) hx hb hts inX5 hown hK hP 0 rfl rfl 13 (by decide) (hts _ (mG w_649)) (fun _ h9 => h9) rfl dX5_limit_20 ?_
      refine lv_iload_n hx hb dX5_limit_23 rfl (lv_at hl 1 rfl) ?_
      refine my_iald (v := mrides1) (k := 1) hx hb hK hP 3 0 rfl rfl (by decide) (by decide) rfl dX5_limit_24 ?_
      refine lv_goto (tgt := 34) hx hb dX5_limit_25 (by decide) ?_
      have hP := hP.sub (ws' := [(m0, .inr (5, [.int mthrown, .int (nI nf), .ref ah, .int mgap, .int mcars, .int mdark, .int msteps, .ref a_places, .ref a_speeds, .ref a_most, .ref a_gains, .ref a_brakes, .ref a_slows, .ref a_rides, .ref a_doors, .ref a_doorPlaces, .ref a_opened, .ref a_wide, .ref a_holds, .ref a_loads, .ref a_mostLoads, .ref a_beams, .ref a_contacts, .ref a_fires, .ref a_ways, .ref a_calls, .ref a_callCounts, .ref a_wears])), (a_most, .inl (aI, 2, .inl (arL [mmost0, mmost1]))), (a_slows, .inl (aI, 2, .inl (arL [mslows0, mslows1]))), (a_rides, .inl (aI, 2, .inl (arL [mrides0, mrides1])))]) [0, 1, 2, 3] rfl
      have hD := hD.sub (ws' := [(m0, .inr (5, [.int mthrown, .int (nI nf), .ref ah, .int mgap, .int mcars, .int mdark, .int msteps, .ref a_places, .ref a_speeds, .ref a_most, .ref a_gains, .ref a_brakes, .ref a_slows, .ref a_rides, .ref a_doors, .ref a_doorPlaces, .ref a_opened, .ref a_wide, .ref a_holds, .ref a_loads, .ref a_mostLoads, .ref a_beams, .ref a_contacts, .ref a_fires, .ref a_ways, .ref a_calls, .ref a_callCounts, .ref a_wears])), (a_most, .inl (aI, 2, .inl (arL [mmost0, mmost1]))), (a_slows, .inl (aI, 2, .inl (arL [mslows0, mslows1]))), (a_rides, .inl (aI, 2, .inl (arL [mrides0, mrides1])))]) [0, 1, 2, 3] (by decide) rfl
      exact rt_i hQ hx hb hr () hG hP hD hS (Nat.le_of_ble_eq_true rfl) (Nat.le_of_ble_eq_true rfl) dX5_limit_34 hlk
  · have hG := hG.trans (if_pos c_1)
    refine lv_aload_n hx hb dX5_limit_5 rfl (lv_at hl 0 rfl) ?_
    refine va_get (D := D) (ci := 5) (v := .ref a_slows) (C := RX5) (T := TX5) (N := 28) hx hb hts inX5 hown hK hP 0 rfl rfl 12 (by decide) (hts _ (mG w_648)) (fun _ h9 => h9) rfl dX5_limit_6 ?_
    refine lv_iload_n hx hb dX5_limit_9 rfl (lv_at hl 1 rfl) ?_
    refine my_iald (v := mslows1) (k := 1) hx hb hK hP 2 0 rfl rfl (by decide) (by decide) rfl dX5_limit_10 ?_
    refine lv_goto (tgt := 34) hx hb dX5_limit_11 (by decide) ?_
    have hP := hP.sub (ws' := [(m0, .inr (5, [.int mthrown, .int (nI nf), .ref ah, .int mgap, .int mcars, .int mdark, .int msteps, .ref a_places, .ref a_speeds, .ref a_most, .ref a_gains, .ref a_brakes, .ref a_slows, .ref a_rides, .ref a_doors, .ref a_doorPlaces, .ref a_opened, .ref a_wide, .ref a_holds, .ref a_loads, .ref a_mostLoads, .ref a_beams, .ref a_contacts, .ref a_fires, .ref a_ways, .ref a_calls, .ref a_callCounts, .ref a_wears])), (a_most, .inl (aI, 2, .inl (arL [mmost0, mmost1]))), (a_slows, .inl (aI, 2, .inl (arL [mslows0, mslows1]))), (a_rides, .inl (aI, 2, .inl (arL [mrides0, mrides1])))]) [0, 1, 2, 3] rfl
    have hD := hD.sub (ws' := [(m0, .inr (5, [.int mthrown, .int (nI nf), .ref ah, .int mgap, .int mcars, .int mdark, .int msteps, .ref a_places, .ref a_speeds, .ref a_most, .ref a_gains, .ref a_brakes, .ref a_slows, .ref a_rides, .ref a_doors, .ref a_doorPlaces, .ref a_opened, .ref a_wide, .ref a_holds, .ref a_loads, .ref a_mostLoads, .ref a_beams, .ref a_contacts, .ref a_fires, .ref a_ways, .ref a_calls, .ref a_callCounts, .ref a_wears])), (a_most, .inl (aI, 2, .inl (arL [mmost0, mmost1]))), (a_slows, .inl (aI, 2, .inl (arL [mslows0, mslows1]))), (a_rides, .inl (aI, 2, .inl (arL [mrides0, mrides1])))]) [0, 1, 2, 3] (by decide) rfl
    exact rt_i hQ hx hb hr () hG hP hD hS (Nat.le_of_ble_eq_true rfl) (Nat.le_of_ble_eq_true rfl) dX5_limit_34 hlk
theorem dX5_greatest_0 : decode cX5_greatest 0 = .ok (.iconst (-1), 1) := by decide +kernel
theorem dX5_greatest_1 : decode cX5_greatest 1 = .ok (.istore 6, 2) := by decide +kernel
theorem dX5_greatest_3 : decode cX5_greatest 3 = .ok (.iload_n 3, 1) := by decide +kernel
theorem dX5_greatest_4 : decode cX5_greatest 4 = .ok (.istore 7, 2) := by decide +kernel
theorem dX5_greatest_6 : decode cX5_greatest 6 = .ok (.iload 7, 2) := by decide +kernel
theorem dX5_greatest_8 : decode cX5_greatest 8 = .ok (.iload 4, 2) := by decide +kernel
theorem dX5_greatest_10 : decode cX5_greatest 10 = .ok (.if_icmp .gt 66, 3) := by decide +kernel
theorem dX5_greatest_13 : decode cX5_greatest 13 = .ok (.iload 5, 2) := by decide +kernel
theorem dX5_greatest_15 : decode cX5_greatest 15 = .ok (.iconst (-1), 1) := by decide +kernel
theorem dX5_greatest_16 : decode cX5_greatest 16 = .ok (.if_icmp .eq 22, 3) := by decide +kernel
theorem dX5_greatest_19 : decode cX5_greatest 19 = .ok (.iload 7, 2) := by decide +kernel
theorem dX5_greatest_21 : decode cX5_greatest 21 = .ok (.iload 7, 2) := by decide +kernel
theorem dX5_greatest_23 : decode cX5_greatest 23 = .ok (.aload_n 0, 1) := by decide +kernel
theorem dX5_greatest_24 : decode cX5_greatest 24 = .ok (.getfield 26, 3) := by decide +kernel
theorem dX5_greatest_27 : decode cX5_greatest 27 = .ok (.iload_n 1, 1) := by decide +kernel
theorem dX5_greatest_28 : decode cX5_greatest 28 = .ok (.iaload, 1) := by decide +kernel
theorem dX5_greatest_29 : decode cX5_greatest 29 = .ok (.invokestatic 94, 3) := by decide +kernel
theorem dX5_greatest_32 : decode cX5_greatest 32 = .ok (.iadd, 1) := by decide +kernel
theorem dX5_greatest_33 : decode cX5_greatest 33 = .ok (.iload 5, 2) := by decide +kernel
theorem dX5_greatest_35 : decode cX5_greatest 35 = .ok (.if_icmp .gt 7, 3) := by decide +kernel
theorem dX5_greatest_38 : decode cX5_greatest 38 = .ok (.iconst 1, 1) := by decide +kernel
theorem dX5_greatest_39 : decode cX5_greatest 39 = .ok (.goto 4, 3) := by decide +kernel
theorem dX5_greatest_42 : decode cX5_greatest 42 = .ok (.iconst 0, 1) := by decide +kernel
theorem dX5_greatest_43 : decode cX5_greatest 43 = .ok (.istore 8, 2) := by decide +kernel
theorem dX5_greatest_45 : decode cX5_greatest 45 = .ok (.iload 8, 2) := by decide +kernel
theorem dX5_greatest_47 : decode cX5_greatest 47 = .ok (.ifCond .eq 19, 3) := by decide +kernel
theorem dX5_greatest_50 : decode cX5_greatest 50 = .ok (.aload_n 0, 1) := by decide +kernel
theorem dX5_greatest_51 : decode cX5_greatest 51 = .ok (.iload_n 1, 1) := by decide +kernel
theorem dX5_greatest_52 : decode cX5_greatest 52 = .ok (.iload_n 2, 1) := by decide +kernel
theorem dX5_greatest_53 : decode cX5_greatest 53 = .ok (.iload 7, 2) := by decide +kernel
theorem dX5_greatest_55 : decode cX5_greatest 55 = .ok (.invokevirtual 114, 3) := by decide +kernel
theorem dX5_greatest_58 : decode cX5_greatest 58 = .ok (.ifCond .eq 8, 3) := by decide +kernel
theorem dX5_greatest_61 : decode cX5_greatest 61 = .ok (.iload 7, 2) := by decide +kernel
theorem dX5_greatest_63 : decode cX5_greatest 63 = .ok (.goto 5, 3) := by decide +kernel
theorem dX5_greatest_66 : decode cX5_greatest 66 = .ok (.iload 6, 2) := by decide +kernel
theorem dX5_greatest_68 : decode cX5_greatest 68 = .ok (.istore 6, 2) := by decide +kernel
theorem dX5_greatest_70 : decode cX5_greatest 70 = .ok (.iinc 7 1, 3) := by decide +kernel
theorem dX5_greatest_73 : decode cX5_greatest 73 = .ok (.goto (-67), 3) := by decide +kernel
theorem dX5_greatest_76 : decode cX5_greatest 76 = .ok (.iload 6, 2) := by decide +kernel
theorem dX5_greatest_78 : decode cX5_greatest 78 = .ok (.ireturn, 1) := by decide +kernel
def L_m_greatest_10_6 (mgains0 : Int32) (p3 : Int32) (p4 : Int32) : Nat → Int32 → Int32 → Int32
  | 0, _, _ => 0
  | fu + 1, ub, uu =>
    if p3 < uu then
      ub
    else
      if p4 = (-1) then
        cb F_m_isFree_10 fun _ =>
          L_m_greatest_10_6 mgains0 p3 p4 fu uu (uu + 1)
      else
        cb (F_m_length uu mgains0) fun r_7 =>
          if p4 < (uu + r_7) then
            L_m_greatest_10_6 mgains0 p3 p4 fu ub (uu + 1)
          else
            cb F_m_isFree_10 fun _ =>
              L_m_greatest_10_6 mgains0 p3 p4 fu uu (uu + 1)
theorem L_m_greatest_10_6_u (mgains0 : Int32) (p3 : Int32) (p4 : Int32) (fu : Nat) (ub : Int32) (uu : Int32) : L_m_greatest_10_6 mgains0 p3 p4 (fu + 1) ub uu =
    (if p3 < uu then
      ub
    else
      if p4 = (-1) then
        cb F_m_isFree_10 fun _ =>
          L_m_greatest_10_6 mgains0 p3 p4 fu uu (uu + 1)
      else
        cb (F_m_length uu mgains0) fun r_7 =>
          if p4 < (uu + r_7) then
            L_m_greatest_10_6 mgains0 p3 p4 fu ub (uu + 1)
          else
            cb F_m_isFree_10 fun _ =>
              L_m_greatest_10_6 mgains0 p3 p4 fu uu (uu + 1)) := rfl
def F_m_greatest_10 (mgains0 : Int32) (p2 : Int32) (p3 : Int32) (p4 : Int32) : Int32 :=
  L_m_greatest_10_6 mgains0 p3 p4 ((p3.toInt + 2 - p2.toInt).toNat + 1) (-1) p2
theorem F_m_greatest_10_u (mgains0 : Int32) (p2 : Int32) (p3 : Int32) (p4 : Int32) : F_m_greatest_10 mgains0 p2 p3 p4 =
  (L_m_greatest_10_6 mgains0 p3 p4 ((p3.toInt + 2 - p2.toInt).toNat + 1) (-1) p2) := rfl
set_option maxHeartbeats 4000000 in
set_option maxRecDepth 100000 in
theorem c_m_greatest_10 (l : Launch) (D : va_G) (aI aL aZ : ClassId) (sz : Nat) (m0 : Nat) (ah : Nat) (a_places : Nat) (a_speeds : Nat) (a_most : Nat) (a_gains : Nat) (a_brakes : Nat) (a_slows : Nat) (a_rides : Nat) (a_doors : Nat) (a_doorPlaces : Nat) (a_opened : Nat) (a_wide : Nat) (a_holds : Nat) (a_loads : Nat) (a_mostLoads : Nat) (a_beams : Nat) (a_contacts : Nat) (a_fires : Nat) (a_ways : Nat) (a_calls : Nat) (a_callCounts : Nat) (a_wears : Nat) (mthrown : Int32) (nf : Nat) (mgap : Int32) (mdark : Int32) (msteps : Int32) (mplaces0 : Int32) (mplaces1 : Int32) (mspeeds0 : Int32) (mspeeds1 : Int32) (mgains0 : Int32) (mgains1 : Int32) (mbrakes0 : Int32) (mbrakes1 : Int32) (p1 : Int32) (p2 : Int32) (p3 : Int32) (p4 : Int32) (hg : ¬ mgains0 = 0) (hmx : ¬ p3 = 2147483647) : Met l yX5_greatest (.code yX5_greatest cX5_greatest 9 (some .int) :: Gw) ({ frames := 1, cells := 0, slots := 0, locals := 24 }) (va_Pc [.ref m0, .int 0, .int p1, .int p2, .int p3, .int p4] (mpre D [(aI, .int), (aL, .long), (aZ, .boolean)] [(m0, .inr (5, [.int mthrown, .int (nI nf), .ref ah, .int mgap, .int 1, .int mdark, .int msteps, .ref a_places, .ref a_speeds, .ref a_most, .ref a_gains, .ref a_brakes, .ref a_slows, .ref a_rides, .ref a_doors, .ref a_doorPlaces, .ref a_opened, .ref a_wide, .ref a_holds, .ref a_loads, .ref a_mostLoads, .ref a_beams, .ref a_contacts, .ref a_fires, .ref a_ways, .ref a_calls, .ref a_callCounts, .ref a_wears])), (a_places, .inl (aI, 2, .inl (arL [mplaces0, mplaces1]))), (a_speeds, .inl (aI, 2, .inl (arL [mspeeds0, mspeeds1]))), (a_gains, .inl (aI, 2, .inl (arL [mgains0, mgains1]))), (a_brakes, .inl (aI, 2, .inl (arL [mbrakes0, mbrakes1])))] sz)) ((fun A : Nat → Prop => va_Qi (fun (r : Int32) (u : Unit) => F_m_greatest_10 mgains0 p2 p3 p4 = r) (mpst D A (fun (u : Unit) => [(m0, .inr (5, [.int mthrown, .int (nI nf), .ref ah, .int mgap, .int 1, .int mdark, .int msteps, .ref a_places, .ref a_speeds, .ref a_most, .ref a_gains, .ref a_brakes, .ref a_slows, .ref a_rides, .ref a_doors, .ref a_doorPlaces, .ref a_opened, .ref a_wide, .ref a_holds, .ref a_loads, .ref a_mostLoads, .ref a_beams, .ref a_contacts, .ref a_fires, .ref a_ways, .ref a_calls, .ref a_callCounts, .ref a_wears])), (a_places, .inl (aI, 2, .inl (arL [mplaces0, mplaces1]))), (a_speeds, .inl (aI, 2, .inl (arL [mspeeds0, mspeeds1]))), (a_gains, .inl (aI, 2, .inl (arL [mgains0, mgains1]))), (a_brakes, .inl (aI, 2, .inl (arL [mbrakes0, mbrakes1])))])) A) (va_A ([(m0, .inr (5, [.int mthrown, .int (nI nf), .ref ah, .int mgap, .int 1, .int mdark, .int msteps, .ref a_places, .ref a_speeds, .ref a_most, .ref a_gains, .ref a_brakes, .ref a_slows, .ref a_rides, .ref a_doors, .ref a_doorPlaces, .ref a_opened, .ref a_wide, .ref a_holds, .ref a_loads, .ref a_mostLoads, .ref a_beams, .ref a_contacts, .ref a_fires, .ref a_ways, .ref a_calls, .ref a_callCounts, .ref a_wears])), (a_places, .inl (aI, 2, .inl (arL [mplaces0, mplaces1]))), (a_speeds, .inl (aI, 2, .inl (arL [mspeeds0, mspeeds1]))), (a_gains, .inl (aI, 2, .inl (arL [mgains0, mgains1]))), (a_brakes, .inl (aI, 2, .inl (arL [mbrakes0, mbrakes1])))]) sz)) 0 0 (va_A ([(m0, .inr (5, [.int mthrown, .int (nI nf), .ref ah, .int mgap, .int 1, .int mdark, .int msteps, .ref a_places, .ref a_speeds, .ref a_most, .ref a_gains, .ref a_brakes, .ref a_slows, .ref a_rides, .ref a_doors, .ref a_doorPlaces, .ref a_opened, .ref a_wide, .ref a_holds, .ref a_loads, .ref a_mostLoads, .ref a_beams, .ref a_contacts, .ref a_fires, .ref a_ways, .ref a_calls, .ref a_callCounts, .ref a_wears])), (a_places, .inl (aI, 2, .inl (arL [mplaces0, mplaces1]))), (a_speeds, .inl (aI, 2, .inl (arL [mspeeds0, mspeeds1]))), (a_gains, .inl (aI, 2, .inl (arL [mgains0, mgains1]))), (a_brakes, .inl (aI, 2, .inl (arL [mbrakes0, mbrakes1])))]) sz) := by
  refine en (cc := cX5_greatest) (maxL := 9) (ret := (some .int)) (Qc := (fun A : Nat → Prop => va_Qi (fun (r : Int32) (u : Unit) => F_m_greatest_10 mgains0 p2 p3 p4 = r) (mpst D A (fun (u : Unit) => [(m0, .inr (5, [.int mthrown, .int (nI nf), .ref ah, .int mgap, .int 1, .int mdark, .int msteps, .ref a_places, .ref a_speeds, .ref a_most, .ref a_gains, .ref a_brakes, .ref a_slows, .ref a_rides, .ref a_doors, .ref a_doorPlaces, .ref a_opened, .ref a_wide, .ref a_holds, .ref a_loads, .ref a_mostLoads, .ref a_beams, .ref a_contacts, .ref a_fires, .ref a_ways, .ref a_calls, .ref a_callCounts, .ref a_wears])), (a_places, .inl (aI, 2, .inl (arL [mplaces0, mplaces1]))), (a_speeds, .inl (aI, 2, .inl (arL [mspeeds0, mspeeds1]))), (a_gains, .inl (aI, 2, .inl (arL [mgains0, mgains1]))), (a_brakes, .inl (aI, 2, .inl (arL [mbrakes0, mbrakes1])))])) A)) (by decide) rfl (Nat.le_of_ble_eq_true rfl) ?_
  intro p e s m args below meth c A ls Q hQ hx hb hr hts hown hlk hnm hml hA hS hP hK hD hE hl
  have hown : s.vm.findClass RX5 = some m.cls := hown
  have hl : lv_has ls 9 [(0, .ref m0), (1, .int 0), (2, .int p1), (3, .int p2), (4, .int p3), (5, .int p4)] := hl
  have hG := F_m_greatest_10_u mgains0 p2 p3 p4
  refine lv_iconst (v := (-1)) hx hb dX5_greatest_0 (by decide) ?_
  refine lv_istore (lv' := [(6, .int (-1)), (0, .ref m0), (1, .int 0), (2, .int p1), (3, .int p2), (4, .int p3), (5, .int p4)]) hx hb dX5_greatest_1 hl (by decide) rfl (fun ls hl => ?_)
  refine lv_iload_n hx hb dX5_greatest_3 rfl (lv_at hl 4 rfl) ?_
  refine lv_istore (lv' := [(7, .int p2), (6, .int (-1)), (0, .ref m0), (1, .int 0), (2, .int p1), (3, .int p2), (4, .int p3), (5, .int p4)]) hx hb dX5_greatest_4 hl (by decide) rfl (fun ls hl => ?_)
  have loop6 : ∀ (fu : Nat) (ub : Int32) (uu : Int32), p3.toInt + 1 - uu.toInt < (fu : Int) → 1 ≤ fu → F_m_greatest_10 mgains0 p2 p3 p4 = L_m_greatest_10_6 mgains0 p3 p4 fu ub uu → ∀ (H : Heap) (locs : List Loc), va_P D vwCl [(m0, .inr (5, [.int mthrown, .int (nI nf), .ref ah, .int mgap, .int 1, .int mdark, .int msteps, .ref a_places, .ref a_speeds, .ref a_most, .ref a_gains, .ref a_brakes, .ref a_slows, .ref a_rides, .ref a_doors, .ref a_doorPlaces, .ref a_opened, .ref a_wide, .ref a_holds, .ref a_loads, .ref a_mostLoads, .ref a_beams, .ref a_contacts, .ref a_fires, .ref a_ways, .ref a_calls, .ref a_callCounts, .ref a_wears])), (a_places, .inl (aI, 2, .inl (arL [mplaces0, mplaces1]))), (a_speeds, .inl (aI, 2, .inl (arL [mspeeds0, mspeeds1]))), (a_gains, .inl (aI, 2, .inl (arL [mgains0, mgains1]))), (a_brakes, .inl (aI, 2, .inl (arL [mbrakes0, mbrakes1])))] H → va_D A [(m0, .inr (5, [.int mthrown, .int (nI nf), .ref ah, .int mgap, .int 1, .int mdark, .int msteps, .ref a_places, .ref a_speeds, .ref a_most, .ref a_gains, .ref a_brakes, .ref a_slows, .ref a_rides, .ref a_doors, .ref a_doorPlaces, .ref a_opened, .ref a_wide, .ref a_holds, .ref a_loads, .ref a_mostLoads, .ref a_beams, .ref a_contacts, .ref a_fires, .ref a_ways, .ref a_calls, .ref a_callCounts, .ref a_wears])), (a_places, .inl (aI, 2, .inl (arL [mplaces0, mplaces1]))), (a_speeds, .inl (aI, 2, .inl (arL [mspeeds0, mspeeds1]))), (a_gains, .inl (aI, 2, .inl (arL [mgains0, mgains1]))), (a_brakes, .inl (aI, 2, .inl (arL [mbrakes0, mbrakes1])))] → va_S A s.heap H locs → ∀ (ls : Array Slot), lv_has ls 9 [(7, .int uu), (6, .int ub), (0, .ref m0), (1, .int 0), (2, .int p1), (3, .int p2), (4, .int p3), (5, .int p4)] → W p l e ({ frames := 1, cells := 0, slots := 0, locals := 24 }) s m args below meth c H locs 0 0 Q (F0 m 6 ls []) := by
    intro fu
    induction fu with
    | zero => intro ub uu hm hm1; exact absurd hm1 (by decide)
    | succ fu ih =>
      intro ub uu hm hm1 hG H locs hP hD hS ls hl
      have hG := hG.trans (L_m_greatest_10_6_u mgains0 p3 p4 fu ub uu)
      refine lv_iload hx hb dX5_greatest_6 (lv_at hl 0 rfl) ?_
      refine lv_iload hx hb dX5_greatest_8 (lv_at hl 6 rfl) ?_
      refine lv_icmp_gt (tgt := 76) hx hb dX5_greatest_10 (by decide) (fun c_1 => ?_) (fun c_1 => ?_)
      · have hG := hG.trans (if_pos c_1)
        refine lv_iload hx hb dX5_greatest_76 (lv_at hl 1 rfl) ?_
        have hP := hP.sub (ws' := [(m0, .inr (5, [.int mthrown, .int (nI nf), .ref ah, .int mgap, .int 1, .int mdark, .int msteps, .ref a_places, .ref a_speeds, .ref a_most, .ref a_gains, .ref a_brakes, .ref a_slows, .ref a_rides, .ref a_doors, .ref a_doorPlaces, .ref a_opened, .ref a_wide, .ref a_holds, .ref a_loads, .ref a_mostLoads, .ref a_beams, .ref a_contacts, .ref a_fires, .ref a_ways, .ref a_calls, .ref a_callCounts, .ref a_wears])), (a_places, .inl (aI, 2, .inl (arL [mplaces0, mplaces1]))), (a_speeds, .inl (aI, 2, .inl (arL [mspeeds0, mspeeds1]))), (a_gains, .inl (aI, 2, .inl (arL [mgains0, mgains1]))), (a_brakes, .inl (aI, 2, .inl (arL [mbrakes0, mbrakes1])))]) [0, 1, 2, 3, 4] rfl
        have hD := hD.sub (ws' := [(m0, .inr (5, [.int mthrown, .int (nI nf), .ref ah, .int mgap, .int 1, .int mdark, .int msteps, .ref a_places, .ref a_speeds, .ref a_most, .ref a_gains, .ref a_brakes, .ref a_slows, .ref a_rides, .ref a_doors, .ref a_doorPlaces, .ref a_opened, .ref a_wide, .ref a_holds, .ref a_loads, .ref a_mostLoads, .ref a_beams, .ref a_contacts, .ref a_fires, .ref a_ways, .ref a_calls, .ref a_callCounts, .ref a_wears])), (a_places, .inl (aI, 2, .inl (arL [mplaces0, mplaces1]))), (a_speeds, .inl (aI, 2, .inl (arL [mspeeds0, mspeeds1]))), (a_gains, .inl (aI, 2, .inl (arL [mgains0, mgains1]))), (a_brakes, .inl (aI, 2, .inl (arL [mbrakes0, mbrakes1])))]) [0, 1, 2, 3, 4] (by decide) rfl
        exact rt_i hQ hx hb hr () hG hP hD hS (Nat.le_of_ble_eq_true rfl) (Nat.le_of_ble_eq_true rfl) dX5_greatest_78 hlk
      · have hG := hG.trans (if_neg c_1)
        refine lv_iload hx hb dX5_greatest_13 (lv_at hl 7 rfl) ?_
        refine lv_iconst (v := (-1)) hx hb dX5_greatest_15 (by decide) ?_
        refine lv_icmp_eq (tgt := 38) hx hb dX5_greatest_16 (by decide) (fun c_2 => ?_) (fun c_2 => ?_)
        · have hG := hG.trans (if_pos c_2)
          refine lv_iconst (v := 1) hx hb dX5_greatest_38 (by decide) ?_
          refine lv_goto (tgt := 43) hx hb dX5_greatest_39 (by decide) ?_
          refine lv_istore (lv' := [(8, .int 1), (7, .int uu), (6, .int ub), (0, .ref m0), (1, .int 0), (2, .int p1), (3, .int p2), (4, .int p3), (5, .int p4)]) hx hb dX5_greatest_43 hl (by decide) rfl (fun ls hl => ?_)
          refine lv_iload hx hb dX5_greatest_45 (lv_at hl 0 rfl) ?_
          refine lv_if_eq (tgt := 66) hx hb dX5_greatest_47 (by decide) (fun c9 => absurd c9 (by decide)) (fun _ => ?_)
          refine lv_aload_n hx hb dX5_greatest_50 rfl (lv_at hl 3 rfl) ?_
          refine lv_iload_n hx hb dX5_greatest_51 rfl (lv_at hl 4 rfl) ?_
          refine lv_iload_n hx hb dX5_greatest_52 rfl (lv_at hl 5 rfl) ?_
          refine lv_iload hx hb dX5_greatest_53 (lv_at hl 1 rfl) ?_
          refine my_i (wr := [(a_gains, .inl (aI, 2, .inl (arL [mgains0, mgains1])))]) [0, 1, 2, 4] [3] (va_runV (As := [.int 0, .int p1, .int uu]) (rest := []) ⟨hx, hb, hml, hown, hts⟩ (c_m_isFree_10 l D aI aL aZ _ m0 ah a_places a_speeds a_most a_gains a_brakes a_slows a_rides a_doors a_doorPlaces a_opened a_wide a_holds a_loads a_mostLoads a_beams a_contacts a_fires a_ways a_calls a_callCounts a_wears mthrown nf mgap mdark msteps mplaces0 mplaces1 mspeeds0 mspeeds1 mbrakes0 mbrakes1 p1 uu) (cwV 3 hts (gV w_859 w_861 w_31 w_38 w_862) rfl rfl rfl (by decide +kernel) ⟨Nat.le_of_ble_eq_true rfl, Nat.le_of_ble_eq_true rfl⟩) (prev_of hK hP hD hS hA hE [0, 1, 2, 4] rfl (by decide) (ci := 5) rfl 0 rfl _) rfl rfl hl.1 rfl (lv_room (Nat.le_of_ble_eq_true rfl)) dX5_greatest_55 ⟨Nat.le_of_ble_eq_true rfl, Nat.le_of_ble_eq_true rfl⟩) hP hD hS hA rfl rfl (by decide) (by decide) (fun r_4 u_ H locs hw_5 hP hD hS => ?_)
          obtain ⟨e_r_4, hw_5⟩ := hw_5
          subst e_r_4
          have hw_5 : F_m_isFree_10 = 1 ∧ nb 1 := hw_5
          have hG := hG.trans (cb_e hw_5.1)
          have hP : va_P D vwCl [(a_gains, .inl (aI, 2, .inl (arL [mgains0, mgains1]))), (m0, .inr (5, [.int mthrown, .int (nI nf), .ref ah, .int mgap, .int 1, .int mdark, .int msteps, .ref a_places, .ref a_speeds, .ref a_most, .ref a_gains, .ref a_brakes, .ref a_slows, .ref a_rides, .ref a_doors, .ref a_doorPlaces, .ref a_opened, .ref a_wide, .ref a_holds, .ref a_loads, .ref a_mostLoads, .ref a_beams, .ref a_contacts, .ref a_fires, .ref a_ways, .ref a_calls, .ref a_callCounts, .ref a_wears])), (a_places, .inl (aI, 2, .inl (arL [mplaces0, mplaces1]))), (a_speeds, .inl (aI, 2, .inl (arL [mspeeds0, mspeeds1]))), (a_brakes, .inl (aI, 2, .inl (arL [mbrakes0, mbrakes1])))] H := hP
          have hD : va_D A [(a_gains, .inl (aI, 2, .inl (arL [mgains0, mgains1]))), (m0, .inr (5, [.int mthrown, .int (nI nf), .ref ah, .int mgap, .int 1, .int mdark, .int msteps, .ref a_places, .ref a_speeds, .ref a_most, .ref a_gains, .ref a_brakes, .ref a_slows, .ref a_rides, .ref a_doors, .ref a_doorPlaces, .ref a_opened, .ref a_wide, .ref a_holds, .ref a_loads, .ref a_mostLoads, .ref a_beams, .ref a_contacts, .ref a_fires, .ref a_ways, .ref a_calls, .ref a_callCounts, .ref a_wears])), (a_places, .inl (aI, 2, .inl (arL [mplaces0, mplaces1]))), (a_speeds, .inl (aI, 2, .inl (arL [mspeeds0, mspeeds1]))), (a_brakes, .inl (aI, 2, .inl (arL [mbrakes0, mbrakes1])))] := hD
          refine lv_if_eq (tgt := 66) hx hb dX5_greatest_58 (by decide) (fun c9 => absurd c9 (by decide)) (fun _ => ?_)
          refine lv_iload hx hb dX5_greatest_61 (lv_at hl 1 rfl) ?_
          refine lv_goto (tgt := 68) hx hb dX5_greatest_63 (by decide) ?_
          refine lv_istore (lv' := [(6, .int uu), (8, .int 1), (7, .int uu), (0, .ref m0), (1, .int 0), (2, .int p1), (3, .int p2), (4, .int p3), (5, .int p4)]) hx hb dX5_greatest_68 hl (by decide) rfl (fun ls hl => ?_)
          refine lv_iinc (v := (uu + 1)) (lv' := [(7, .int (uu + 1)), (6, .int uu), (8, .int 1), (0, .ref m0), (1, .int 0), (2, .int p1), (3, .int p2), (4, .int p3), (5, .int p4)]) hx hb dX5_greatest_70 hl (k := 2) rfl rfl (by decide) rfl (fun ls hl => ?_)
          refine lv_goto (tgt := 6) hx hb dX5_greatest_73 (by decide) ?_
          exact ih uu (uu + 1) (gr_b hmx c_1 hm).1 (gr_b hmx c_1 hm).2 hG _ _ (hP.sub [1, 2, 3, 0, 4] rfl) (hD.sub [1, 2, 3, 0, 4] (by decide) rfl) hS ls (lv_sub hl [0, 1, 3, 4, 5, 6, 7, 8] rfl)
        · have hG := hG.trans (if_neg c_2)
          refine lv_iload hx hb dX5_greatest_19 (lv_at hl 0 rfl) ?_
          refine lv_iload hx hb dX5_greatest_21 (lv_at hl 0 rfl) ?_
          refine lv_aload_n hx hb dX5_greatest_23 rfl (lv_at hl 2 rfl) ?_
          refine va_get (D := D) (ci := 5) (v := .ref a_gains) (C := RX5) (T := TX5) (N := 28) hx hb hts inX5 hown hK hP 0 rfl rfl 10 (by decide) (hts _ (mG w_646)) (fun _ h9 => h9) rfl dX5_greatest_24 ?_
          refine lv_iload_n hx hb dX5_greatest_27 rfl (lv_at hl 3 rfl) ?_
          refine my_iald (v := mgains0) (k := 0) hx hb hK hP 3 0 rfl rfl (by decide) (by decide) rfl dX5_greatest_28 ?_
          refine my_i (wr := [(m0, .inr (5, [.int mthrown, .int (nI nf), .ref ah, .int mgap, .int 1, .int mdark, .int msteps, .ref a_places, .ref a_speeds, .ref a_most, .ref a_gains, .ref a_brakes, .ref a_slows, .ref a_rides, .ref a_doors, .ref a_doorPlaces, .ref a_opened, .ref a_wide, .ref a_holds, .ref a_loads, .ref a_mostLoads, .ref a_beams, .ref a_contacts, .ref a_fires, .ref a_ways, .ref a_calls, .ref a_callCounts, .ref a_wears])), (a_places, .inl (aI, 2, .inl (arL [mplaces0, mplaces1]))), (a_speeds, .inl (aI, 2, .inl (arL [mspeeds0, mspeeds1]))), (a_gains, .inl (aI, 2, .inl (arL [mgains0, mgains1]))), (a_brakes, .inl (aI, 2, .inl (arL [mbrakes0, mbrakes1])))]) [] [0, 1, 2, 3, 4] (va_runS (As := [.int uu, .int mgains0]) (rest := [.int uu]) ⟨hx, hb, hml, hown, hts⟩ (c_m_length l D aI aL aZ _ uu mgains0 hg) (va_cwS 2 hts (gS w_760 w_761 w_38 w_762) rfl rfl rfl (by decide +kernel) ⟨Nat.le_of_ble_eq_true rfl, Nat.le_of_ble_eq_true rfl⟩) (pre_of hK hP hD hS hA hE [] rfl (by decide) _) rfl rfl hl.1 rfl (lv_room (Nat.le_of_ble_eq_true rfl)) dX5_greatest_29 ⟨Nat.le_of_ble_eq_true rfl, Nat.le_of_ble_eq_true rfl⟩) hP hD hS hA rfl rfl (by decide) (by decide) (fun r_7 u_ H locs hw_8 hP hD hS => ?_)
          have hw_8 : F_m_length uu mgains0 = r_7 := hw_8
          have hG := hG.trans (cb_e hw_8)
          have hP : va_P D vwCl [(m0, .inr (5, [.int mthrown, .int (nI nf), .ref ah, .int mgap, .int 1, .int mdark, .int msteps, .ref a_places, .ref a_speeds, .ref a_most, .ref a_gains, .ref a_brakes, .ref a_slows, .ref a_rides, .ref a_doors, .ref a_doorPlaces, .ref a_opened, .ref a_wide, .ref a_holds, .ref a_loads, .ref a_mostLoads, .ref a_beams, .ref a_contacts, .ref a_fires, .ref a_ways, .ref a_calls, .ref a_callCounts, .ref a_wears])), (a_places, .inl (aI, 2, .inl (arL [mplaces0, mplaces1]))), (a_speeds, .inl (aI, 2, .inl (arL [mspeeds0, mspeeds1]))), (a_gains, .inl (aI, 2, .inl (arL [mgains0, mgains1]))), (a_brakes, .inl (aI, 2, .inl (arL [mbrakes0, mbrakes1])))] H := hP
          have hD : va_D A [(m0, .inr (5, [.int mthrown, .int (nI nf), .ref ah, .int mgap, .int 1, .int mdark, .int msteps, .ref a_places, .ref a_speeds, .ref a_most, .ref a_gains, .ref a_brakes, .ref a_slows, .ref a_rides, .ref a_doors, .ref a_doorPlaces, .ref a_opened, .ref a_wide, .ref a_holds, .ref a_loads, .ref a_mostLoads, .ref a_beams, .ref a_contacts, .ref a_fires, .ref a_ways, .ref a_calls, .ref a_callCounts, .ref a_wears])), (a_places, .inl (aI, 2, .inl (arL [mplaces0, mplaces1]))), (a_speeds, .inl (aI, 2, .inl (arL [mspeeds0, mspeeds1]))), (a_gains, .inl (aI, 2, .inl (arL [mgains0, mgains1]))), (a_brakes, .inl (aI, 2, .inl (arL [mbrakes0, mbrakes1])))] := hD
          refine lv_iadd hx hb dX5_greatest_32 ?_
          refine lv_iload hx hb dX5_greatest_33 (lv_at hl 7 rfl) ?_
          refine lv_icmp_gt (tgt := 42) hx hb dX5_greatest_35 (by decide) (fun c_9 => ?_) (fun c_9 => ?_)
          · have hG := hG.trans (if_pos c_9)
            refine lv_iconst (v := 0) hx hb dX5_greatest_42 (by decide) ?_
            refine lv_istore (lv' := [(8, .int 0), (7, .int uu), (6, .int ub), (0, .ref m0), (1, .int 0), (2, .int p1), (3, .int p2), (4, .int p3), (5, .int p4)]) hx hb dX5_greatest_43 hl (by decide) rfl (fun ls hl => ?_)
            refine lv_iload hx hb dX5_greatest_45 (lv_at hl 0 rfl) ?_
            refine lv_if_eq (tgt := 66) hx hb dX5_greatest_47 (by decide) (fun _ => ?_) (fun c9 => absurd c9 (by decide))
            refine lv_iload hx hb dX5_greatest_66 (lv_at hl 2 rfl) ?_
            refine lv_istore (lv' := [(6, .int ub), (8, .int 0), (7, .int uu), (0, .ref m0), (1, .int 0), (2, .int p1), (3, .int p2), (4, .int p3), (5, .int p4)]) hx hb dX5_greatest_68 hl (by decide) rfl (fun ls hl => ?_)
            refine lv_iinc (v := (uu + 1)) (lv' := [(7, .int (uu + 1)), (6, .int ub), (8, .int 0), (0, .ref m0), (1, .int 0), (2, .int p1), (3, .int p2), (4, .int p3), (5, .int p4)]) hx hb dX5_greatest_70 hl (k := 2) rfl rfl (by decide) rfl (fun ls hl => ?_)
            refine lv_goto (tgt := 6) hx hb dX5_greatest_73 (by decide) ?_
            exact ih ub (uu + 1) (gr_b hmx c_1 hm).1 (gr_b hmx c_1 hm).2 hG _ _ (hP.sub [0, 1, 2, 3, 4] rfl) (hD.sub [0, 1, 2, 3, 4] (by decide) rfl) hS ls (lv_sub hl [0, 1, 3, 4, 5, 6, 7, 8] rfl)
          · have hG := hG.trans (if_neg c_9)
            refine lv_iconst (v := 1) hx hb dX5_greatest_38 (by decide) ?_
            refine lv_goto (tgt := 43) hx hb dX5_greatest_39 (by decide) ?_
            refine lv_istore (lv' := [(8, .int 1), (7, .int uu), (6, .int ub), (0, .ref m0), (1, .int 0), (2, .int p1), (3, .int p2), (4, .int p3), (5, .int p4)]) hx hb dX5_greatest_43 hl (by decide) rfl (fun ls hl => ?_)
            refine lv_iload hx hb dX5_greatest_45 (lv_at hl 0 rfl) ?_
            refine lv_if_eq (tgt := 66) hx hb dX5_greatest_47 (by decide) (fun c9 => absurd c9 (by decide)) (fun _ => ?_)
            refine lv_aload_n hx hb dX5_greatest_50 rfl (lv_at hl 3 rfl) ?_
            refine lv_iload_n hx hb dX5_greatest_51 rfl (lv_at hl 4 rfl) ?_
            refine lv_iload_n hx hb dX5_greatest_52 rfl (lv_at hl 5 rfl) ?_
            refine lv_iload hx hb dX5_greatest_53 (lv_at hl 1 rfl) ?_
            refine my_i (wr := [(a_gains, .inl (aI, 2, .inl (arL [mgains0, mgains1])))]) [0, 1, 2, 4] [3] (va_runV (As := [.int 0, .int p1, .int uu]) (rest := []) ⟨hx, hb, hml, hown, hts⟩ (c_m_isFree_10 l D aI aL aZ _ m0 ah a_places a_speeds a_most a_gains a_brakes a_slows a_rides a_doors a_doorPlaces a_opened a_wide a_holds a_loads a_mostLoads a_beams a_contacts a_fires a_ways a_calls a_callCounts a_wears mthrown nf mgap mdark msteps mplaces0 mplaces1 mspeeds0 mspeeds1 mbrakes0 mbrakes1 p1 uu) (cwV 3 hts (gV w_859 w_861 w_31 w_38 w_862) rfl rfl rfl (by decide +kernel) ⟨Nat.le_of_ble_eq_true rfl, Nat.le_of_ble_eq_true rfl⟩) (prev_of hK hP hD hS hA hE [0, 1, 2, 4] rfl (by decide) (ci := 5) rfl 0 rfl _) rfl rfl hl.1 rfl (lv_room (Nat.le_of_ble_eq_true rfl)) dX5_greatest_55 ⟨Nat.le_of_ble_eq_true rfl, Nat.le_of_ble_eq_true rfl⟩) hP hD hS hA rfl rfl (by decide) (by decide) (fun r_12 u_ H locs hw_13 hP hD hS => ?_)
            obtain ⟨e_r_12, hw_13⟩ := hw_13
            subst e_r_12
            have hw_13 : F_m_isFree_10 = 1 ∧ nb 1 := hw_13
            have hG := hG.trans (cb_e hw_13.1)
            have hP : va_P D vwCl [(a_gains, .inl (aI, 2, .inl (arL [mgains0, mgains1]))), (m0, .inr (5, [.int mthrown, .int (nI nf), .ref ah, .int mgap, .int 1, .int mdark, .int msteps, .ref a_places, .ref a_speeds, .ref a_most, .ref a_gains, .ref a_brakes, .ref a_slows, .ref a_rides, .ref a_doors, .ref a_doorPlaces, .ref a_opened, .ref a_wide, .ref a_holds, .ref a_loads, .ref a_mostLoads, .ref a_beams, .ref a_contacts, .ref a_fires, .ref a_ways, .ref a_calls, .ref a_callCounts, .ref a_wears])), (a_places, .inl (aI, 2, .inl (arL [mplaces0, mplaces1]))), (a_speeds, .inl (aI, 2, .inl (arL [mspeeds0, mspeeds1]))), (a_brakes, .inl (aI, 2, .inl (arL [mbrakes0, mbrakes1])))] H := hP
            have hD : va_D A [(a_gains, .inl (aI, 2, .inl (arL [mgains0, mgains1]))), (m0, .inr (5, [.int mthrown, .int (nI nf), .ref ah, .int mgap, .int 1, .int mdark, .int msteps, .ref a_places, .ref a_speeds, .ref a_most, .ref a_gains, .ref a_brakes, .ref a_slows, .ref a_rides, .ref a_doors, .ref a_doorPlaces, .ref a_opened, .ref a_wide, .ref a_holds, .ref a_loads, .ref a_mostLoads, .ref a_beams, .ref a_contacts, .ref a_fires, .ref a_ways, .ref a_calls, .ref a_callCounts, .ref a_wears])), (a_places, .inl (aI, 2, .inl (arL [mplaces0, mplaces1]))), (a_speeds, .inl (aI, 2, .inl (arL [mspeeds0, mspeeds1]))), (a_brakes, .inl (aI, 2, .inl (arL [mbrakes0, mbrakes1])))] := hD
            refine lv_if_eq (tgt := 66) hx hb dX5_greatest_58 (by decide) (fun c9 => absurd c9 (by decide)) (fun _ => ?_)
            refine lv_iload hx hb dX5_greatest_61 (lv_at hl 1 rfl) ?_
            refine lv_goto (tgt := 68) hx hb dX5_greatest_63 (by decide) ?_
            refine lv_istore (lv' := [(6, .int uu), (8, .int 1), (7, .int uu), (0, .ref m0), (1, .int 0), (2, .int p1), (3, .int p2), (4, .int p3), (5, .int p4)]) hx hb dX5_greatest_68 hl (by decide) rfl (fun ls hl => ?_)
            refine lv_iinc (v := (uu + 1)) (lv' := [(7, .int (uu + 1)), (6, .int uu), (8, .int 1), (0, .ref m0), (1, .int 0), (2, .int p1), (3, .int p2), (4, .int p3), (5, .int p4)]) hx hb dX5_greatest_70 hl (k := 2) rfl rfl (by decide) rfl (fun ls hl => ?_)
            refine lv_goto (tgt := 6) hx hb dX5_greatest_73 (by decide) ?_
            exact ih uu (uu + 1) (gr_b hmx c_1 hm).1 (gr_b hmx c_1 hm).2 hG _ _ (hP.sub [1, 2, 3, 0, 4] rfl) (hD.sub [1, 2, 3, 0, 4] (by decide) rfl) hS ls (lv_sub hl [0, 1, 3, 4, 5, 6, 7, 8] rfl)
  exact loop6 ((p3.toInt + 2 - p2.toInt).toNat + 1) (-1) p2 (by omega) (by omega) hG _ _ hP hD hS ls (lv_sub hl [0, 1, 2, 3, 4, 5, 6, 7] rfl)
def L_m_greatest_20_6 (mgap : Int32) (mplaces0 : Int32) (mplaces1 : Int32) (mspeeds1 : Int32) (mgains0 : Int32) (mbrakes0 : Int32) (mbrakes1 : Int32) (p1 : Int32) (p3 : Int32) (p4 : Int32) : Nat → Int32 → Int32 → Int32
  | 0, _, _ => 0
  | fu + 1, ub, uu =>
    if p3 < uu then
      ub
    else
      if p4 = (-1) then
        cb (F_m_isFree_20 mgap mplaces0 mplaces1 mspeeds1 mbrakes0 mbrakes1 p1 uu) fun r_4 =>
          if r_4 = 0 then
            L_m_greatest_20_6 mgap mplaces0 mplaces1 mspeeds1 mgains0 mbrakes0 mbrakes1 p1 p3 p4 fu ub (uu + 1)
          else
            L_m_greatest_20_6 mgap mplaces0 mplaces1 mspeeds1 mgains0 mbrakes0 mbrakes1 p1 p3 p4 fu uu (uu + 1)
      else
        cb (F_m_length uu mgains0) fun r_7 =>
          if p4 < (uu + r_7) then
            L_m_greatest_20_6 mgap mplaces0 mplaces1 mspeeds1 mgains0 mbrakes0 mbrakes1 p1 p3 p4 fu ub (uu + 1)
          else
            cb (F_m_isFree_20 mgap mplaces0 mplaces1 mspeeds1 mbrakes0 mbrakes1 p1 uu) fun r_12 =>
              if r_12 = 0 then
                L_m_greatest_20_6 mgap mplaces0 mplaces1 mspeeds1 mgains0 mbrakes0 mbrakes1 p1 p3 p4 fu ub (uu + 1)
              else
                L_m_greatest_20_6 mgap mplaces0 mplaces1 mspeeds1 mgains0 mbrakes0 mbrakes1 p1 p3 p4 fu uu (uu + 1)
theorem L_m_greatest_20_6_u (mgap : Int32) (mplaces0 : Int32) (mplaces1 : Int32) (mspeeds1 : Int32) (mgains0 : Int32) (mbrakes0 : Int32) (mbrakes1 : Int32) (p1 : Int32) (p3 : Int32) (p4 : Int32) (fu : Nat) (ub : Int32) (uu : Int32) : L_m_greatest_20_6 mgap mplaces0 mplaces1 mspeeds1 mgains0 mbrakes0 mbrakes1 p1 p3 p4 (fu + 1) ub uu =
    (if p3 < uu then
      ub
    else
      if p4 = (-1) then
        cb (F_m_isFree_20 mgap mplaces0 mplaces1 mspeeds1 mbrakes0 mbrakes1 p1 uu) fun r_4 =>
          if r_4 = 0 then
            L_m_greatest_20_6 mgap mplaces0 mplaces1 mspeeds1 mgains0 mbrakes0 mbrakes1 p1 p3 p4 fu ub (uu + 1)
          else
            L_m_greatest_20_6 mgap mplaces0 mplaces1 mspeeds1 mgains0 mbrakes0 mbrakes1 p1 p3 p4 fu uu (uu + 1)
      else
        cb (F_m_length uu mgains0) fun r_7 =>
          if p4 < (uu + r_7) then
            L_m_greatest_20_6 mgap mplaces0 mplaces1 mspeeds1 mgains0 mbrakes0 mbrakes1 p1 p3 p4 fu ub (uu + 1)
          else
            cb (F_m_isFree_20 mgap mplaces0 mplaces1 mspeeds1 mbrakes0 mbrakes1 p1 uu) fun r_12 =>
              if r_12 = 0 then
                L_m_greatest_20_6 mgap mplaces0 mplaces1 mspeeds1 mgains0 mbrakes0 mbrakes1 p1 p3 p4 fu ub (uu + 1)
              else
                L_m_greatest_20_6 mgap mplaces0 mplaces1 mspeeds1 mgains0 mbrakes0 mbrakes1 p1 p3 p4 fu uu (uu + 1)) := rfl
def F_m_greatest_20 (mgap : Int32) (mplaces0 : Int32) (mplaces1 : Int32) (mspeeds1 : Int32) (mgains0 : Int32) (mbrakes0 : Int32) (mbrakes1 : Int32) (p1 : Int32) (p2 : Int32) (p3 : Int32) (p4 : Int32) : Int32 :=
  L_m_greatest_20_6 mgap mplaces0 mplaces1 mspeeds1 mgains0 mbrakes0 mbrakes1 p1 p3 p4 ((p3.toInt + 2 - p2.toInt).toNat + 1) (-1) p2
theorem F_m_greatest_20_u (mgap : Int32) (mplaces0 : Int32) (mplaces1 : Int32) (mspeeds1 : Int32) (mgains0 : Int32) (mbrakes0 : Int32) (mbrakes1 : Int32) (p1 : Int32) (p2 : Int32) (p3 : Int32) (p4 : Int32) : F_m_greatest_20 mgap mplaces0 mplaces1 mspeeds1 mgains0 mbrakes0 mbrakes1 p1 p2 p3 p4 =
  (L_m_greatest_20_6 mgap mplaces0 mplaces1 mspeeds1 mgains0 mbrakes0 mbrakes1 p1 p3 p4 ((p3.toInt + 2 - p2.toInt).toNat + 1) (-1) p2) := rfl
set_option maxHeartbeats 4000000 in
set_option maxRecDepth 100000 in
theorem c_m_greatest_20 (l : Launch) (D : va_G) (aI aL aZ : ClassId) (sz : Nat) (m0 : Nat) (ah : Nat) (a_places : Nat) (a_speeds : Nat) (a_most : Nat) (a_gains : Nat) (a_brakes : Nat) (a_slows : Nat) (a_rides : Nat) (a_doors : Nat) (a_doorPlaces : Nat) (a_opened : Nat) (a_wide : Nat) (a_holds : Nat) (a_loads : Nat) (a_mostLoads : Nat) (a_beams : Nat) (a_contacts : Nat) (a_fires : Nat) (a_ways : Nat) (a_calls : Nat) (a_callCounts : Nat) (a_wears : Nat) (mthrown : Int32) (nf : Nat) (mgap : Int32) (mdark : Int32) (msteps : Int32) (mplaces0 : Int32) (mplaces1 : Int32) (mspeeds0 : Int32) (mspeeds1 : Int32) (mgains0 : Int32) (mgains1 : Int32) (mbrakes0 : Int32) (mbrakes1 : Int32) (p1 : Int32) (p2 : Int32) (p3 : Int32) (p4 : Int32) (hb0 : ¬ mbrakes0 = 0) (hb1 : ¬ mbrakes1 = 0) (hg : ¬ mgains0 = 0) (hmx : ¬ p3 = 2147483647) : Met l yX5_greatest (.code yX5_greatest cX5_greatest 9 (some .int) :: Gw) ({ frames := 3, cells := 0, slots := 0, locals := 68 }) (va_Pc [.ref m0, .int 0, .int p1, .int p2, .int p3, .int p4] (mpre D [(aI, .int), (aL, .long), (aZ, .boolean)] [(m0, .inr (5, [.int mthrown, .int (nI nf), .ref ah, .int mgap, .int 2, .int mdark, .int msteps, .ref a_places, .ref a_speeds, .ref a_most, .ref a_gains, .ref a_brakes, .ref a_slows, .ref a_rides, .ref a_doors, .ref a_doorPlaces, .ref a_opened, .ref a_wide, .ref a_holds, .ref a_loads, .ref a_mostLoads, .ref a_beams, .ref a_contacts, .ref a_fires, .ref a_ways, .ref a_calls, .ref a_callCounts, .ref a_wears])), (a_places, .inl (aI, 2, .inl (arL [mplaces0, mplaces1]))), (a_speeds, .inl (aI, 2, .inl (arL [mspeeds0, mspeeds1]))), (a_gains, .inl (aI, 2, .inl (arL [mgains0, mgains1]))), (a_brakes, .inl (aI, 2, .inl (arL [mbrakes0, mbrakes1])))] sz)) ((fun A : Nat → Prop => va_Qi (fun (r : Int32) (u : Unit) => F_m_greatest_20 mgap mplaces0 mplaces1 mspeeds1 mgains0 mbrakes0 mbrakes1 p1 p2 p3 p4 = r) (mpst D A (fun (u : Unit) => [(m0, .inr (5, [.int mthrown, .int (nI nf), .ref ah, .int mgap, .int 2, .int mdark, .int msteps, .ref a_places, .ref a_speeds, .ref a_most, .ref a_gains, .ref a_brakes, .ref a_slows, .ref a_rides, .ref a_doors, .ref a_doorPlaces, .ref a_opened, .ref a_wide, .ref a_holds, .ref a_loads, .ref a_mostLoads, .ref a_beams, .ref a_contacts, .ref a_fires, .ref a_ways, .ref a_calls, .ref a_callCounts, .ref a_wears])), (a_places, .inl (aI, 2, .inl (arL [mplaces0, mplaces1]))), (a_speeds, .inl (aI, 2, .inl (arL [mspeeds0, mspeeds1]))), (a_gains, .inl (aI, 2, .inl (arL [mgains0, mgains1]))), (a_brakes, .inl (aI, 2, .inl (arL [mbrakes0, mbrakes1])))])) A) (va_A ([(m0, .inr (5, [.int mthrown, .int (nI nf), .ref ah, .int mgap, .int 2, .int mdark, .int msteps, .ref a_places, .ref a_speeds, .ref a_most, .ref a_gains, .ref a_brakes, .ref a_slows, .ref a_rides, .ref a_doors, .ref a_doorPlaces, .ref a_opened, .ref a_wide, .ref a_holds, .ref a_loads, .ref a_mostLoads, .ref a_beams, .ref a_contacts, .ref a_fires, .ref a_ways, .ref a_calls, .ref a_callCounts, .ref a_wears])), (a_places, .inl (aI, 2, .inl (arL [mplaces0, mplaces1]))), (a_speeds, .inl (aI, 2, .inl (arL [mspeeds0, mspeeds1]))), (a_gains, .inl (aI, 2, .inl (arL [mgains0, mgains1]))), (a_brakes, .inl (aI, 2, .inl (arL [mbrakes0, mbrakes1])))]) sz)) 0 0 (va_A ([(m0, .inr (5, [.int mthrown, .int (nI nf), .ref ah, .int mgap, .int 2, .int mdark, .int msteps, .ref a_places, .ref a_speeds, .ref a_most, .ref a_gains, .ref a_brakes, .ref a_slows, .ref a_rides, .ref a_doors, .ref a_doorPlaces, .ref a_opened, .ref a_wide, .ref a_holds, .ref a_loads, .ref a_mostLoads, .ref a_beams, .ref a_contacts, .ref a_fires, .ref a_ways, .ref a_calls, .ref a_callCounts, .ref a_wears])), (a_places, .inl (aI, 2, .inl (arL [mplaces0, mplaces1]))), (a_speeds, .inl (aI, 2, .inl (arL [mspeeds0, mspeeds1]))), (a_gains, .inl (aI, 2, .inl (arL [mgains0, mgains1]))), (a_brakes, .inl (aI, 2, .inl (arL [mbrakes0, mbrakes1])))]) sz) := by
  refine en (cc := cX5_greatest) (maxL := 9) (ret := (some .int)) (Qc := (fun A : Nat → Prop => va_Qi (fun (r : Int32) (u : Unit) => F_m_greatest_20 mgap mplaces0 mplaces1 mspeeds1 mgains0 mbrakes0 mbrakes1 p1 p2 p3 p4 = r) (mpst D A (fun (u : Unit) => [(m0, .inr (5, [.int mthrown, .int (nI nf), .ref ah, .int mgap, .int 2, .int mdark, .int msteps, .ref a_places, .ref a_speeds, .ref a_most, .ref a_gains, .ref a_brakes, .ref a_slows, .ref a_rides, .ref a_doors, .ref a_doorPlaces, .ref a_opened, .ref a_wide, .ref a_holds, .ref a_loads, .ref a_mostLoads, .ref a_beams, .ref a_contacts, .ref a_fires, .ref a_ways, .ref a_calls, .ref a_callCounts, .ref a_wears])), (a_places, .inl (aI, 2, .inl (arL [mplaces0, mplaces1]))), (a_speeds, .inl (aI, 2, .inl (arL [mspeeds0, mspeeds1]))), (a_gains, .inl (aI, 2, .inl (arL [mgains0, mgains1]))), (a_brakes, .inl (aI, 2, .inl (arL [mbrakes0, mbrakes1])))])) A)) (by decide) rfl (Nat.le_of_ble_eq_true rfl) ?_
  intro p e s m args below meth c A ls Q hQ hx hb hr hts hown hlk hnm hml hA hS hP hK hD hE hl
  have hown : s.vm.findClass RX5 = some m.cls := hown
  have hl : lv_has ls 9 [(0, .ref m0), (1, .int 0), (2, .int p1), (3, .int p2), (4, .int p3), (5, .int p4)] := hl
  have hG := F_m_greatest_20_u mgap mplaces0 mplaces1 mspeeds1 mgains0 mbrakes0 mbrakes1 p1 p2 p3 p4
  refine lv_iconst (v := (-1)) hx hb dX5_greatest_0 (by decide) ?_
  refine lv_istore (lv' := [(6, .int (-1)), (0, .ref m0), (1, .int 0), (2, .int p1), (3, .int p2), (4, .int p3), (5, .int p4)]) hx hb dX5_greatest_1 hl (by decide) rfl (fun ls hl => ?_)
  refine lv_iload_n hx hb dX5_greatest_3 rfl (lv_at hl 4 rfl) ?_
  refine lv_istore (lv' := [(7, .int p2), (6, .int (-1)), (0, .ref m0), (1, .int 0), (2, .int p1), (3, .int p2), (4, .int p3), (5, .int p4)]) hx hb dX5_greatest_4 hl (by decide) rfl (fun ls hl => ?_)
  have loop6 : ∀ (fu : Nat) (ub : Int32) (uu : Int32), p3.toInt + 1 - uu.toInt < (fu : Int) → 1 ≤ fu → F_m_greatest_20 mgap mplaces0 mplaces1 mspeeds1 mgains0 mbrakes0 mbrakes1 p1 p2 p3 p4 = L_m_greatest_20_6 mgap mplaces0 mplaces1 mspeeds1 mgains0 mbrakes0 mbrakes1 p1 p3 p4 fu ub uu → ∀ (H : Heap) (locs : List Loc), va_P D vwCl [(m0, .inr (5, [.int mthrown, .int (nI nf), .ref ah, .int mgap, .int 2, .int mdark, .int msteps, .ref a_places, .ref a_speeds, .ref a_most, .ref a_gains, .ref a_brakes, .ref a_slows, .ref a_rides, .ref a_doors, .ref a_doorPlaces, .ref a_opened, .ref a_wide, .ref a_holds, .ref a_loads, .ref a_mostLoads, .ref a_beams, .ref a_contacts, .ref a_fires, .ref a_ways, .ref a_calls, .ref a_callCounts, .ref a_wears])), (a_places, .inl (aI, 2, .inl (arL [mplaces0, mplaces1]))), (a_speeds, .inl (aI, 2, .inl (arL [mspeeds0, mspeeds1]))), (a_gains, .inl (aI, 2, .inl (arL [mgains0, mgains1]))), (a_brakes, .inl (aI, 2, .inl (arL [mbrakes0, mbrakes1])))] H → va_D A [(m0, .inr (5, [.int mthrown, .int (nI nf), .ref ah, .int mgap, .int 2, .int mdark, .int msteps, .ref a_places, .ref a_speeds, .ref a_most, .ref a_gains, .ref a_brakes, .ref a_slows, .ref a_rides, .ref a_doors, .ref a_doorPlaces, .ref a_opened, .ref a_wide, .ref a_holds, .ref a_loads, .ref a_mostLoads, .ref a_beams, .ref a_contacts, .ref a_fires, .ref a_ways, .ref a_calls, .ref a_callCounts, .ref a_wears])), (a_places, .inl (aI, 2, .inl (arL [mplaces0, mplaces1]))), (a_speeds, .inl (aI, 2, .inl (arL [mspeeds0, mspeeds1]))), (a_gains, .inl (aI, 2, .inl (arL [mgains0, mgains1]))), (a_brakes, .inl (aI, 2, .inl (arL [mbrakes0, mbrakes1])))] → va_S A s.heap H locs → ∀ (ls : Array Slot), lv_has ls 9 [(7, .int uu), (6, .int ub), (0, .ref m0), (1, .int 0), (2, .int p1), (3, .int p2), (4, .int p3), (5, .int p4)] → W p l e ({ frames := 3, cells := 0, slots := 0, locals := 68 }) s m args below meth c H locs 0 0 Q (F0 m 6 ls []) := by
    intro fu
    induction fu with
    | zero => intro ub uu hm hm1; exact absurd hm1 (by decide)
    | succ fu ih =>
      intro ub uu hm hm1 hG H locs hP hD hS ls hl
      have hG := hG.trans (L_m_greatest_20_6_u mgap mplaces0 mplaces1 mspeeds1 mgains0 mbrakes0 mbrakes1 p1 p3 p4 fu ub uu)
      refine lv_iload hx hb dX5_greatest_6 (lv_at hl 0 rfl) ?_
      refine lv_iload hx hb dX5_greatest_8 (lv_at hl 6 rfl) ?_
      refine lv_icmp_gt (tgt := 76) hx hb dX5_greatest_10 (by decide) (fun c_1 => ?_) (fun c_1 => ?_)
      · have hG := hG.trans (if_pos c_1)
        refine lv_iload hx hb dX5_greatest_76 (lv_at hl 1 rfl) ?_
        have hP := hP.sub (ws' := [(m0, .inr (5, [.int mthrown, .int (nI nf), .ref ah, .int mgap, .int 2, .int mdark, .int msteps, .ref a_places, .ref a_speeds, .ref a_most, .ref a_gains, .ref a_brakes, .ref a_slows, .ref a_rides, .ref a_doors, .ref a_doorPlaces, .ref a_opened, .ref a_wide, .ref a_holds, .ref a_loads, .ref a_mostLoads, .ref a_beams, .ref a_contacts, .ref a_fires, .ref a_ways, .ref a_calls, .ref a_callCounts, .ref a_wears])), (a_places, .inl (aI, 2, .inl (arL [mplaces0, mplaces1]))), (a_speeds, .inl (aI, 2, .inl (arL [mspeeds0, mspeeds1]))), (a_gains, .inl (aI, 2, .inl (arL [mgains0, mgains1]))), (a_brakes, .inl (aI, 2, .inl (arL [mbrakes0, mbrakes1])))]) [0, 1, 2, 3, 4] rfl
        have hD := hD.sub (ws' := [(m0, .inr (5, [.int mthrown, .int (nI nf), .ref ah, .int mgap, .int 2, .int mdark, .int msteps, .ref a_places, .ref a_speeds, .ref a_most, .ref a_gains, .ref a_brakes, .ref a_slows, .ref a_rides, .ref a_doors, .ref a_doorPlaces, .ref a_opened, .ref a_wide, .ref a_holds, .ref a_loads, .ref a_mostLoads, .ref a_beams, .ref a_contacts, .ref a_fires, .ref a_ways, .ref a_calls, .ref a_callCounts, .ref a_wears])), (a_places, .inl (aI, 2, .inl (arL [mplaces0, mplaces1]))), (a_speeds, .inl (aI, 2, .inl (arL [mspeeds0, mspeeds1]))), (a_gains, .inl (aI, 2, .inl (arL [mgains0, mgains1]))), (a_brakes, .inl (aI, 2, .inl (arL [mbrakes0, mbrakes1])))]) [0, 1, 2, 3, 4] (by decide) rfl
        exact rt_i hQ hx hb hr () hG hP hD hS (Nat.le_of_ble_eq_true rfl) (Nat.le_of_ble_eq_true rfl) dX5_greatest_78 hlk
      · have hG := hG.trans (if_neg c_1)
        refine lv_iload hx hb dX5_greatest_13 (lv_at hl 7 rfl) ?_
        refine lv_iconst (v := (-1)) hx hb dX5_greatest_15 (by decide) ?_
        refine lv_icmp_eq (tgt := 38) hx hb dX5_greatest_16 (by decide) (fun c_2 => ?_) (fun c_2 => ?_)
        · have hG := hG.trans (if_pos c_2)
          refine lv_iconst (v := 1) hx hb dX5_greatest_38 (by decide) ?_
          refine lv_goto (tgt := 43) hx hb dX5_greatest_39 (by decide) ?_
          refine lv_istore (lv' := [(8, .int 1), (7, .int uu), (6, .int ub), (0, .ref m0), (1, .int 0), (2, .int p1), (3, .int p2), (4, .int p3), (5, .int p4)]) hx hb dX5_greatest_43 hl (by decide) rfl (fun ls hl => ?_)
          refine lv_iload hx hb dX5_greatest_45 (lv_at hl 0 rfl) ?_
          refine lv_if_eq (tgt := 66) hx hb dX5_greatest_47 (by decide) (fun c9 => absurd c9 (by decide)) (fun _ => ?_)
          refine lv_aload_n hx hb dX5_greatest_50 rfl (lv_at hl 3 rfl) ?_
          refine lv_iload_n hx hb dX5_greatest_51 rfl (lv_at hl 4 rfl) ?_
          refine lv_iload_n hx hb dX5_greatest_52 rfl (lv_at hl 5 rfl) ?_
          refine lv_iload hx hb dX5_greatest_53 (lv_at hl 1 rfl) ?_
          refine my_i (wr := [(a_gains, .inl (aI, 2, .inl (arL [mgains0, mgains1])))]) [0, 1, 2, 4] [3] (va_runV (As := [.int 0, .int p1, .int uu]) (rest := []) ⟨hx, hb, hml, hown, hts⟩ (c_m_isFree_20 l D aI aL aZ _ m0 ah a_places a_speeds a_most a_gains a_brakes a_slows a_rides a_doors a_doorPlaces a_opened a_wide a_holds a_loads a_mostLoads a_beams a_contacts a_fires a_ways a_calls a_callCounts a_wears mthrown nf mgap mdark msteps mplaces0 mplaces1 mspeeds0 mspeeds1 mbrakes0 mbrakes1 p1 uu hb0 hb1) (cwV 3 hts (gV w_859 w_861 w_31 w_38 w_862) rfl rfl rfl (by decide +kernel) ⟨Nat.le_of_ble_eq_true rfl, Nat.le_of_ble_eq_true rfl⟩) (prev_of hK hP hD hS hA hE [0, 1, 2, 4] rfl (by decide) (ci := 5) rfl 0 rfl _) rfl rfl hl.1 rfl (lv_room (Nat.le_of_ble_eq_true rfl)) dX5_greatest_55 ⟨Nat.le_of_ble_eq_true rfl, Nat.le_of_ble_eq_true rfl⟩) hP hD hS hA rfl rfl (by decide) (by decide) (fun r_4 u_ H locs hw_5 hP hD hS => ?_)
          have hw_5 : F_m_isFree_20 mgap mplaces0 mplaces1 mspeeds1 mbrakes0 mbrakes1 p1 uu = r_4 ∧ nb r_4 := hw_5
          have hG := hG.trans (cb_e hw_5.1)
          have hP : va_P D vwCl [(a_gains, .inl (aI, 2, .inl (arL [mgains0, mgains1]))), (m0, .inr (5, [.int mthrown, .int (nI nf), .ref ah, .int mgap, .int 2, .int mdark, .int msteps, .ref a_places, .ref a_speeds, .ref a_most, .ref a_gains, .ref a_brakes, .ref a_slows, .ref a_rides, .ref a_doors, .ref a_doorPlaces, .ref a_opened, .ref a_wide, .ref a_holds, .ref a_loads, .ref a_mostLoads, .ref a_beams, .ref a_contacts, .ref a_fires, .ref a_ways, .ref a_calls, .ref a_callCounts, .ref a_wears])), (a_places, .inl (aI, 2, .inl (arL [mplaces0, mplaces1]))), (a_speeds, .inl (aI, 2, .inl (arL [mspeeds0, mspeeds1]))), (a_brakes, .inl (aI, 2, .inl (arL [mbrakes0, mbrakes1])))] H := hP
          have hD : va_D A [(a_gains, .inl (aI, 2, .inl (arL [mgains0, mgains1]))), (m0, .inr (5, [.int mthrown, .int (nI nf), .ref ah, .int mgap, .int 2, .int mdark, .int msteps, .ref a_places, .ref a_speeds, .ref a_most, .ref a_gains, .ref a_brakes, .ref a_slows, .ref a_rides, .ref a_doors, .ref a_doorPlaces, .ref a_opened, .ref a_wide, .ref a_holds, .ref a_loads, .ref a_mostLoads, .ref a_beams, .ref a_contacts, .ref a_fires, .ref a_ways, .ref a_calls, .ref a_callCounts, .ref a_wears])), (a_places, .inl (aI, 2, .inl (arL [mplaces0, mplaces1]))), (a_speeds, .inl (aI, 2, .inl (arL [mspeeds0, mspeeds1]))), (a_brakes, .inl (aI, 2, .inl (arL [mbrakes0, mbrakes1])))] := hD
          refine lv_if_eq (tgt := 66) hx hb dX5_greatest_58 (by decide) (fun c_6 => ?_) (fun c_6 => ?_)
          · have hG := hG.trans (if_pos c_6)
            refine lv_iload hx hb dX5_greatest_66 (lv_at hl 2 rfl) ?_
            refine lv_istore (lv' := [(6, .int ub), (8, .int 1), (7, .int uu), (0, .ref m0), (1, .int 0), (2, .int p1), (3, .int p2), (4, .int p3), (5, .int p4)]) hx hb dX5_greatest_68 hl (by decide) rfl (fun ls hl => ?_)
            refine lv_iinc (v := (uu + 1)) (lv' := [(7, .int (uu + 1)), (6, .int ub), (8, .int 1), (0, .ref m0), (1, .int 0), (2, .int p1), (3, .int p2), (4, .int p3), (5, .int p4)]) hx hb dX5_greatest_70 hl (k := 2) rfl rfl (by decide) rfl (fun ls hl => ?_)
            refine lv_goto (tgt := 6) hx hb dX5_greatest_73 (by decide) ?_
            exact ih ub (uu + 1) (gr_b hmx c_1 hm).1 (gr_b hmx c_1 hm).2 hG _ _ (hP.sub [1, 2, 3, 0, 4] rfl) (hD.sub [1, 2, 3, 0, 4] (by decide) rfl) hS ls (lv_sub hl [0, 1, 3, 4, 5, 6, 7, 8] rfl)
          · have hG := hG.trans (if_neg c_6)
            refine lv_iload hx hb dX5_greatest_61 (lv_at hl 1 rfl) ?_
            refine lv_goto (tgt := 68) hx hb dX5_greatest_63 (by decide) ?_
            refine lv_istore (lv' := [(6, .int uu), (8, .int 1), (7, .int uu), (0, .ref m0), (1, .int 0), (2, .int p1), (3, .int p2), (4, .int p3), (5, .int p4)]) hx hb dX5_greatest_68 hl (by decide) rfl (fun ls hl => ?_)
            refine lv_iinc (v := (uu + 1)) (lv' := [(7, .int (uu + 1)), (6, .int uu), (8, .int 1), (0, .ref m0), (1, .int 0), (2, .int p1), (3, .int p2), (4, .int p3), (5, .int p4)]) hx hb dX5_greatest_70 hl (k := 2) rfl rfl (by decide) rfl (fun ls hl => ?_)
            refine lv_goto (tgt := 6) hx hb dX5_greatest_73 (by decide) ?_
            exact ih uu (uu + 1) (gr_b hmx c_1 hm).1 (gr_b hmx c_1 hm).2 hG _ _ (hP.sub [1, 2, 3, 0, 4] rfl) (hD.sub [1, 2, 3, 0, 4] (by decide) rfl) hS ls (lv_sub hl [0, 1, 3, 4, 5, 6, 7, 8] rfl)
        · have hG := hG.trans (if_neg c_2)
          refine lv_iload hx hb dX5_greatest_19 (lv_at hl 0 rfl) ?_
          refine lv_iload hx hb dX5_greatest_21 (lv_at hl 0 rfl) ?_
          refine lv_aload_n hx hb dX5_greatest_23 rfl (lv_at hl 2 rfl) ?_
          refine va_get (D := D) (ci := 5) (v := .ref a_gains) (C := RX5) (T := TX5) (N := 28) hx hb hts inX5 hown hK hP 0 rfl rfl 10 (by decide) (hts _ (mG w_646)) (fun _ h9 => h9) rfl dX5_greatest_24 ?_
          refine lv_iload_n hx hb dX5_greatest_27 rfl (lv_at hl 3 rfl) ?_
          refine my_iald (v := mgains0) (k := 0) hx hb hK hP 3 0 rfl rfl (by decide) (by decide) rfl dX5_greatest_28 ?_
          refine my_i (wr := [(m0, .inr (5, [.int mthrown, .int (nI nf), .ref ah, .int mgap, .int 2, .int mdark, .int msteps, .ref a_places, .ref a_speeds, .ref a_most, .ref a_gains, .ref a_brakes, .ref a_slows, .ref a_rides, .ref a_doors, .ref a_doorPlaces, .ref a_opened, .ref a_wide, .ref a_holds, .ref a_loads, .ref a_mostLoads, .ref a_beams, .ref a_contacts, .ref a_fires, .ref a_ways, .ref a_calls, .ref a_callCounts, .ref a_wears])), (a_places, .inl (aI, 2, .inl (arL [mplaces0, mplaces1]))), (a_speeds, .inl (aI, 2, .inl (arL [mspeeds0, mspeeds1]))), (a_gains, .inl (aI, 2, .inl (arL [mgains0, mgains1]))), (a_brakes, .inl (aI, 2, .inl (arL [mbrakes0, mbrakes1])))]) [] [0, 1, 2, 3, 4] (va_runS (As := [.int uu, .int mgains0]) (rest := [.int uu]) ⟨hx, hb, hml, hown, hts⟩ (c_m_length l D aI aL aZ _ uu mgains0 hg) (va_cwS 2 hts (gS w_760 w_761 w_38 w_762) rfl rfl rfl (by decide +kernel) ⟨Nat.le_of_ble_eq_true rfl, Nat.le_of_ble_eq_true rfl⟩) (pre_of hK hP hD hS hA hE [] rfl (by decide) _) rfl rfl hl.1 rfl (lv_room (Nat.le_of_ble_eq_true rfl)) dX5_greatest_29 ⟨Nat.le_of_ble_eq_true rfl, Nat.le_of_ble_eq_true rfl⟩) hP hD hS hA rfl rfl (by decide) (by decide) (fun r_7 u_ H locs hw_8 hP hD hS => ?_)
          have hw_8 : F_m_length uu mgains0 = r_7 := hw_8
          have hG := hG.trans (cb_e hw_8)
          have hP : va_P D vwCl [(m0, .inr (5, [.int mthrown, .int (nI nf), .ref ah, .int mgap, .int 2, .int mdark, .int msteps, .ref a_places, .ref a_speeds, .ref a_most, .ref a_gains, .ref a_brakes, .ref a_slows, .ref a_rides, .ref a_doors, .ref a_doorPlaces, .ref a_opened, .ref a_wide, .ref a_holds, .ref a_loads, .ref a_mostLoads, .ref a_beams, .ref a_contacts, .ref a_fires, .ref a_ways, .ref a_calls, .ref a_callCounts, .ref a_wears])), (a_places, .inl (aI, 2, .inl (arL [mplaces0, mplaces1]))), (a_speeds, .inl (aI, 2, .inl (arL [mspeeds0, mspeeds1]))), (a_gains, .inl (aI, 2, .inl (arL [mgains0, mgains1]))), (a_brakes, .inl (aI, 2, .inl (arL [mbrakes0, mbrakes1])))] H := hP
          have hD : va_D A [(m0, .inr (5, [.int mthrown, .int (nI nf), .ref ah, .int mgap, .int 2, .int mdark, .int msteps, .ref a_places, .ref a_speeds, .ref a_most, .ref a_gains, .ref a_brakes, .ref a_slows, .ref a_rides, .ref a_doors, .ref a_doorPlaces, .ref a_opened, .ref a_wide, .ref a_holds, .ref a_loads, .ref a_mostLoads, .ref a_beams, .ref a_contacts, .ref a_fires, .ref a_ways, .ref a_calls, .ref a_callCounts, .ref a_wears])), (a_places, .inl (aI, 2, .inl (arL [mplaces0, mplaces1]))), (a_speeds, .inl (aI, 2, .inl (arL [mspeeds0, mspeeds1]))), (a_gains, .inl (aI, 2, .inl (arL [mgains0, mgains1]))), (a_brakes, .inl (aI, 2, .inl (arL [mbrakes0, mbrakes1])))] := hD
          refine lv_iadd hx hb dX5_greatest_32 ?_
          refine lv_iload hx hb dX5_greatest_33 (lv_at hl 7 rfl) ?_
          refine lv_icmp_gt (tgt := 42) hx hb dX5_greatest_35 (by decide) (fun c_9 => ?_) (fun c_9 => ?_)
          · have hG := hG.trans (if_pos c_9)
            refine lv_iconst (v := 0) hx hb dX5_greatest_42 (by decide) ?_
            refine lv_istore (lv' := [(8, .int 0), (7, .int uu), (6, .int ub), (0, .ref m0), (1, .int 0), (2, .int p1), (3, .int p2), (4, .int p3), (5, .int p4)]) hx hb dX5_greatest_43 hl (by decide) rfl (fun ls hl => ?_)
            refine lv_iload hx hb dX5_greatest_45 (lv_at hl 0 rfl) ?_
            refine lv_if_eq (tgt := 66) hx hb dX5_greatest_47 (by decide) (fun _ => ?_) (fun c9 => absurd c9 (by decide))
            refine lv_iload hx hb dX5_greatest_66 (lv_at hl 2 rfl) ?_
            refine lv_istore (lv' := [(6, .int ub), (8, .int 0), (7, .int uu), (0, .ref m0), (1, .int 0), (2, .int p1), (3, .int p2), (4, .int p3), (5, .int p4)]) hx hb dX5_greatest_68 hl (by decide) rfl (fun ls hl => ?_)
            refine lv_iinc (v := (uu + 1)) (lv' := [(7, .int (uu + 1)), (6, .int ub), (8, .int 0), (0, .ref m0), (1, .int 0), (2, .int p1), (3, .int p2), (4, .int p3), (5, .int p4)]) hx hb dX5_greatest_70 hl (k := 2) rfl rfl (by decide) rfl (fun ls hl => ?_)
            refine lv_goto (tgt := 6) hx hb dX5_greatest_73 (by decide) ?_
            exact ih ub (uu + 1) (gr_b hmx c_1 hm).1 (gr_b hmx c_1 hm).2 hG _ _ (hP.sub [0, 1, 2, 3, 4] rfl) (hD.sub [0, 1, 2, 3, 4] (by decide) rfl) hS ls (lv_sub hl [0, 1, 3, 4, 5, 6, 7, 8] rfl)
          · have hG := hG.trans (if_neg c_9)
            refine lv_iconst (v := 1) hx hb dX5_greatest_38 (by decide) ?_
            refine lv_goto (tgt := 43) hx hb dX5_greatest_39 (by decide) ?_
            refine lv_istore (lv' := [(8, .int 1), (7, .int uu), (6, .int ub), (0, .ref m0), (1, .int 0), (2, .int p1), (3, .int p2), (4, .int p3), (5, .int p4)]) hx hb dX5_greatest_43 hl (by decide) rfl (fun ls hl => ?_)
            refine lv_iload hx hb dX5_greatest_45 (lv_at hl 0 rfl) ?_
            refine lv_if_eq (tgt := 66) hx hb dX5_greatest_47 (by decide) (fun c9 => absurd c9 (by decide)) (fun _ => ?_)
            refine lv_aload_n hx hb dX5_greatest_50 rfl (lv_at hl 3 rfl) ?_
            refine lv_iload_n hx hb dX5_greatest_51 rfl (lv_at hl 4 rfl) ?_
            refine lv_iload_n hx hb dX5_greatest_52 rfl (lv_at hl 5 rfl) ?_
            refine lv_iload hx hb dX5_greatest_53 (lv_at hl 1 rfl) ?_
            refine my_i (wr := [(a_gains, .inl (aI, 2, .inl (arL [mgains0, mgains1])))]) [0, 1, 2, 4] [3] (va_runV (As := [.int 0, .int p1, .int uu]) (rest := []) ⟨hx, hb, hml, hown, hts⟩ (c_m_isFree_20 l D aI aL aZ _ m0 ah a_places a_speeds a_most a_gains a_brakes a_slows a_rides a_doors a_doorPlaces a_opened a_wide a_holds a_loads a_mostLoads a_beams a_contacts a_fires a_ways a_calls a_callCounts a_wears mthrown nf mgap mdark msteps mplaces0 mplaces1 mspeeds0 mspeeds1 mbrakes0 mbrakes1 p1 uu hb0 hb1) (cwV 3 hts (gV w_859 w_861 w_31 w_38 w_862) rfl rfl rfl (by decide +kernel) ⟨Nat.le_of_ble_eq_true rfl, Nat.le_of_ble_eq_true rfl⟩) (prev_of hK hP hD hS hA hE [0, 1, 2, 4] rfl (by decide) (ci := 5) rfl 0 rfl _) rfl rfl hl.1 rfl (lv_room (Nat.le_of_ble_eq_true rfl)) dX5_greatest_55 ⟨Nat.le_of_ble_eq_true rfl, Nat.le_of_ble_eq_true rfl⟩) hP hD hS hA rfl rfl (by decide) (by decide) (fun r_12 u_ H locs hw_13 hP hD hS => ?_)
            have hw_13 : F_m_isFree_20 mgap mplaces0 mplaces1 mspeeds1 mbrakes0 mbrakes1 p1 uu = r_12 ∧ nb r_12 := hw_13
            have hG := hG.trans (cb_e hw_13.1)
            have hP : va_P D vwCl [(a_gains, .inl (aI, 2, .inl (arL [mgains0, mgains1]))), (m0, .inr (5, [.int mthrown, .int (nI nf), .ref ah, .int mgap, .int 2, .int mdark, .int msteps, .ref a_places, .ref a_speeds, .ref a_most, .ref a_gains, .ref a_brakes, .ref a_slows, .ref a_rides, .ref a_doors, .ref a_doorPlaces, .ref a_opened, .ref a_wide, .ref a_holds, .ref a_loads, .ref a_mostLoads, .ref a_beams, .ref a_contacts, .ref a_fires, .ref a_ways, .ref a_calls, .ref a_callCounts, .ref a_wears])), (a_places, .inl (aI, 2, .inl (arL [mplaces0, mplaces1]))), (a_speeds, .inl (aI, 2, .inl (arL [mspeeds0, mspeeds1]))), (a_brakes, .inl (aI, 2, .inl (arL [mbrakes0, mbrakes1])))] H := hP
            have hD : va_D A [(a_gains, .inl (aI, 2, .inl (arL [mgains0, mgains1]))), (m0, .inr (5, [.int mthrown, .int (nI nf), .ref ah, .int mgap, .int 2, .int mdark, .int msteps, .ref a_places, .ref a_speeds, .ref a_most, .ref a_gains, .ref a_brakes, .ref a_slows, .ref a_rides, .ref a_doors, .ref a_doorPlaces, .ref a_opened, .ref a_wide, .ref a_holds, .ref a_loads, .ref a_mostLoads, .ref a_beams, .ref a_contacts, .ref a_fires, .ref a_ways, .ref a_calls, .ref a_callCounts, .ref a_wears])), (a_places, .inl (aI, 2, .inl (arL [mplaces0, mplaces1]))), (a_speeds, .inl (aI, 2, .inl (arL [mspeeds0, mspeeds1]))), (a_brakes, .inl (aI, 2, .inl (arL [mbrakes0, mbrakes1])))] := hD
            refine lv_if_eq (tgt := 66) hx hb dX5_greatest_58 (by decide) (fun c_14 => ?_) (fun c_14 => ?_)
            · have hG := hG.trans (if_pos c_14)
              refine lv_iload hx hb dX5_greatest_66 (lv_at hl 2 rfl) ?_
              refine lv_istore (lv' := [(6, .int ub), (8, .int 1), (7, .int uu), (0, .ref m0), (1, .int 0), (2, .int p1), (3, .int p2), (4, .int p3), (5, .int p4)]) hx hb dX5_greatest_68 hl (by decide) rfl (fun ls hl => ?_)
              refine lv_iinc (v := (uu + 1)) (lv' := [(7, .int (uu + 1)), (6, .int ub), (8, .int 1), (0, .ref m0), (1, .int 0), (2, .int p1), (3, .int p2), (4, .int p3), (5, .int p4)]) hx hb dX5_greatest_70 hl (k := 2) rfl rfl (by decide) rfl (fun ls hl => ?_)
              refine lv_goto (tgt := 6) hx hb dX5_greatest_73 (by decide) ?_
              exact ih ub (uu + 1) (gr_b hmx c_1 hm).1 (gr_b hmx c_1 hm).2 hG _ _ (hP.sub [1, 2, 3, 0, 4] rfl) (hD.sub [1, 2, 3, 0, 4] (by decide) rfl) hS ls (lv_sub hl [0, 1, 3, 4, 5, 6, 7, 8] rfl)
            · have hG := hG.trans (if_neg c_14)
              refine lv_iload hx hb dX5_greatest_61 (lv_at hl 1 rfl) ?_
              refine lv_goto (tgt := 68) hx hb dX5_greatest_63 (by decide) ?_
              refine lv_istore (lv' := [(6, .int uu), (8, .int 1), (7, .int uu), (0, .ref m0), (1, .int 0), (2, .int p1), (3, .int p2), (4, .int p3), (5, .int p4)]) hx hb dX5_greatest_68 hl (by decide) rfl (fun ls hl => ?_)
              refine lv_iinc (v := (uu + 1)) (lv' := [(7, .int (uu + 1)), (6, .int uu), (8, .int 1), (0, .ref m0), (1, .int 0), (2, .int p1), (3, .int p2), (4, .int p3), (5, .int p4)]) hx hb dX5_greatest_70 hl (k := 2) rfl rfl (by decide) rfl (fun ls hl => ?_)
              refine lv_goto (tgt := 6) hx hb dX5_greatest_73 (by decide) ?_
              exact ih uu (uu + 1) (gr_b hmx c_1 hm).1 (gr_b hmx c_1 hm).2 hG _ _ (hP.sub [1, 2, 3, 0, 4] rfl) (hD.sub [1, 2, 3, 0, 4] (by decide) rfl) hS ls (lv_sub hl [0, 1, 3, 4, 5, 6, 7, 8] rfl)
  exact loop6 ((p3.toInt + 2 - p2.toInt).toNat + 1) (-1) p2 (by omega) (by omega) hG _ _ hP hD hS ls (lv_sub hl [0, 1, 2, 3, 4, 5, 6, 7] rfl)
def L_m_greatest_21_6 (mgap : Int32) (mplaces0 : Int32) (mplaces1 : Int32) (mspeeds0 : Int32) (mgains1 : Int32) (mbrakes0 : Int32) (mbrakes1 : Int32) (p1 : Int32) (p3 : Int32) (p4 : Int32) : Nat → Int32 → Int32 → Int32
  | 0, _, _ => 0
  | fu + 1, ub, uu =>
    if p3 < uu then
      ub
    else
      if p4 = (-1) then
        cb (F_m_isFree_21 mgap mplaces0 mplaces1 mspeeds0 mbrakes0 mbrakes1 p1 uu) fun r_4 =>
          if r_4 = 0 then
            L_m_greatest_21_6 mgap mplaces0 mplaces1 mspeeds0 mgains1 mbrakes0 mbrakes1 p1 p3 p4 fu ub (uu + 1)
          else
            L_m_greatest_21_6 mgap mplaces0 mplaces1 mspeeds0 mgains1 mbrakes0 mbrakes1 p1 p3 p4 fu uu (uu + 1)
      else
        cb (F_m_length uu mgains1) fun r_7 =>
          if p4 < (uu + r_7) then
            L_m_greatest_21_6 mgap mplaces0 mplaces1 mspeeds0 mgains1 mbrakes0 mbrakes1 p1 p3 p4 fu ub (uu + 1)
          else
            cb (F_m_isFree_21 mgap mplaces0 mplaces1 mspeeds0 mbrakes0 mbrakes1 p1 uu) fun r_12 =>
              if r_12 = 0 then
                L_m_greatest_21_6 mgap mplaces0 mplaces1 mspeeds0 mgains1 mbrakes0 mbrakes1 p1 p3 p4 fu ub (uu + 1)
              else
                L_m_greatest_21_6 mgap mplaces0 mplaces1 mspeeds0 mgains1 mbrakes0 mbrakes1 p1 p3 p4 fu uu (uu + 1)
theorem L_m_greatest_21_6_u (mgap : Int32) (mplaces0 : Int32) (mplaces1 : Int32) (mspeeds0 : Int32) (mgains1 : Int32) (mbrakes0 : Int32) (mbrakes1 : Int32) (p1 : Int32) (p3 : Int32) (p4 : Int32) (fu : Nat) (ub : Int32) (uu : Int32) : L_m_greatest_21_6 mgap mplaces0 mplaces1 mspeeds0 mgains1 mbrakes0 mbrakes1 p1 p3 p4 (fu + 1) ub uu =
    (if p3 < uu then
      ub
    else
      if p4 = (-1) then
        cb (F_m_isFree_21 mgap mplaces0 mplaces1 mspeeds0 mbrakes0 mbrakes1 p1 uu) fun r_4 =>
          if r_4 = 0 then
            L_m_greatest_21_6 mgap mplaces0 mplaces1 mspeeds0 mgains1 mbrakes0 mbrakes1 p1 p3 p4 fu ub (uu + 1)
          else
            L_m_greatest_21_6 mgap mplaces0 mplaces1 mspeeds0 mgains1 mbrakes0 mbrakes1 p1 p3 p4 fu uu (uu + 1)
      else
        cb (F_m_length uu mgains1) fun r_7 =>
          if p4 < (uu + r_7) then
            L_m_greatest_21_6 mgap mplaces0 mplaces1 mspeeds0 mgains1 mbrakes0 mbrakes1 p1 p3 p4 fu ub (uu + 1)
          else
            cb (F_m_isFree_21 mgap mplaces0 mplaces1 mspeeds0 mbrakes0 mbrakes1 p1 uu) fun r_12 =>
              if r_12 = 0 then
                L_m_greatest_21_6 mgap mplaces0 mplaces1 mspeeds0 mgains1 mbrakes0 mbrakes1 p1 p3 p4 fu ub (uu + 1)
              else
                L_m_greatest_21_6 mgap mplaces0 mplaces1 mspeeds0 mgains1 mbrakes0 mbrakes1 p1 p3 p4 fu uu (uu + 1)) := rfl
def F_m_greatest_21 (mgap : Int32) (mplaces0 : Int32) (mplaces1 : Int32) (mspeeds0 : Int32) (mgains1 : Int32) (mbrakes0 : Int32) (mbrakes1 : Int32) (p1 : Int32) (p2 : Int32) (p3 : Int32) (p4 : Int32) : Int32 :=
  L_m_greatest_21_6 mgap mplaces0 mplaces1 mspeeds0 mgains1 mbrakes0 mbrakes1 p1 p3 p4 ((p3.toInt + 2 - p2.toInt).toNat + 1) (-1) p2
theorem F_m_greatest_21_u (mgap : Int32) (mplaces0 : Int32) (mplaces1 : Int32) (mspeeds0 : Int32) (mgains1 : Int32) (mbrakes0 : Int32) (mbrakes1 : Int32) (p1 : Int32) (p2 : Int32) (p3 : Int32) (p4 : Int32) : F_m_greatest_21 mgap mplaces0 mplaces1 mspeeds0 mgains1 mbrakes0 mbrakes1 p1 p2 p3 p4 =
  (L_m_greatest_21_6 mgap mplaces0 mplaces1 mspeeds0 mgains1 mbrakes0 mbrakes1 p1 p3 p4 ((p3.toInt + 2 - p2.toInt).toNat + 1) (-1) p2) := rfl
set_option maxHeartbeats 4000000 in
set_option maxRecDepth 100000 in
theorem c_m_greatest_21 (l : Launch) (D : va_G) (aI aL aZ : ClassId) (sz : Nat) (m0 : Nat) (ah : Nat) (a_places : Nat) (a_speeds : Nat) (a_most : Nat) (a_gains : Nat) (a_brakes : Nat) (a_slows : Nat) (a_rides : Nat) (a_doors : Nat) (a_doorPlaces : Nat) (a_opened : Nat) (a_wide : Nat) (a_holds : Nat) (a_loads : Nat) (a_mostLoads : Nat) (a_beams : Nat) (a_contacts : Nat) (a_fires : Nat) (a_ways : Nat) (a_calls : Nat) (a_callCounts : Nat) (a_wears : Nat) (mthrown : Int32) (nf : Nat) (mgap : Int32) (mdark : Int32) (msteps : Int32) (mplaces0 : Int32) (mplaces1 : Int32) (mspeeds0 : Int32) (mspeeds1 : Int32) (mgains0 : Int32) (mgains1 : Int32) (mbrakes0 : Int32) (mbrakes1 : Int32) (p1 : Int32) (p2 : Int32) (p3 : Int32) (p4 : Int32) (hb0 : ¬ mbrakes0 = 0) (hb1 : ¬ mbrakes1 = 0) (hg : ¬ mgains1 = 0) (hmx : ¬ p3 = 2147483647) : Met l yX5_greatest (.code yX5_greatest cX5_greatest 9 (some .int) :: Gw) ({ frames := 3, cells := 0, slots := 0, locals := 68 }) (va_Pc [.ref m0, .int 1, .int p1, .int p2, .int p3, .int p4] (mpre D [(aI, .int), (aL, .long), (aZ, .boolean)] [(m0, .inr (5, [.int mthrown, .int (nI nf), .ref ah, .int mgap, .int 2, .int mdark, .int msteps, .ref a_places, .ref a_speeds, .ref a_most, .ref a_gains, .ref a_brakes, .ref a_slows, .ref a_rides, .ref a_doors, .ref a_doorPlaces, .ref a_opened, .ref a_wide, .ref a_holds, .ref a_loads, .ref a_mostLoads, .ref a_beams, .ref a_contacts, .ref a_fires, .ref a_ways, .ref a_calls, .ref a_callCounts, .ref a_wears])), (a_places, .inl (aI, 2, .inl (arL [mplaces0, mplaces1]))), (a_speeds, .inl (aI, 2, .inl (arL [mspeeds0, mspeeds1]))), (a_gains, .inl (aI, 2, .inl (arL [mgains0, mgains1]))), (a_brakes, .inl (aI, 2, .inl (arL [mbrakes0, mbrakes1])))] sz)) ((fun A : Nat → Prop => va_Qi (fun (r : Int32) (u : Unit) => F_m_greatest_21 mgap mplaces0 mplaces1 mspeeds0 mgains1 mbrakes0 mbrakes1 p1 p2 p3 p4 = r) (mpst D A (fun (u : Unit) => [(m0, .inr (5, [.int mthrown, .int (nI nf), .ref ah, .int mgap, .int 2, .int mdark, .int msteps, .ref a_places, .ref a_speeds, .ref a_most, .ref a_gains, .ref a_brakes, .ref a_slows, .ref a_rides, .ref a_doors, .ref a_doorPlaces, .ref a_opened, .ref a_wide, .ref a_holds, .ref a_loads, .ref a_mostLoads, .ref a_beams, .ref a_contacts, .ref a_fires, .ref a_ways, .ref a_calls, .ref a_callCounts, .ref a_wears])), (a_places, .inl (aI, 2, .inl (arL [mplaces0, mplaces1]))), (a_speeds, .inl (aI, 2, .inl (arL [mspeeds0, mspeeds1]))), (a_gains, .inl (aI, 2, .inl (arL [mgains0, mgains1]))), (a_brakes, .inl (aI, 2, .inl (arL [mbrakes0, mbrakes1])))])) A) (va_A ([(m0, .inr (5, [.int mthrown, .int (nI nf), .ref ah, .int mgap, .int 2, .int mdark, .int msteps, .ref a_places, .ref a_speeds, .ref a_most, .ref a_gains, .ref a_brakes, .ref a_slows, .ref a_rides, .ref a_doors, .ref a_doorPlaces, .ref a_opened, .ref a_wide, .ref a_holds, .ref a_loads, .ref a_mostLoads, .ref a_beams, .ref a_contacts, .ref a_fires, .ref a_ways, .ref a_calls, .ref a_callCounts, .ref a_wears])), (a_places, .inl (aI, 2, .inl (arL [mplaces0, mplaces1]))), (a_speeds, .inl (aI, 2, .inl (arL [mspeeds0, mspeeds1]))), (a_gains, .inl (aI, 2, .inl (arL [mgains0, mgains1]))), (a_brakes, .inl (aI, 2, .inl (arL [mbrakes0, mbrakes1])))]) sz)) 0 0 (va_A ([(m0, .inr (5, [.int mthrown, .int (nI nf), .ref ah, .int mgap, .int 2, .int mdark, .int msteps, .ref a_places, .ref a_speeds, .ref a_most, .ref a_gains, .ref a_brakes, .ref a_slows, .ref a_rides, .ref a_doors, .ref a_doorPlaces, .ref a_opened, .ref a_wide, .ref a_holds, .ref a_loads, .ref a_mostLoads, .ref a_beams, .ref a_contacts, .ref a_fires, .ref a_ways, .ref a_calls, .ref a_callCounts, .ref a_wears])), (a_places, .inl (aI, 2, .inl (arL [mplaces0, mplaces1]))), (a_speeds, .inl (aI, 2, .inl (arL [mspeeds0, mspeeds1]))), (a_gains, .inl (aI, 2, .inl (arL [mgains0, mgains1]))), (a_brakes, .inl (aI, 2, .inl (arL [mbrakes0, mbrakes1])))]) sz) := by
  refine en (cc := cX5_greatest) (maxL := 9) (ret := (some .int)) (Qc := (fun A : Nat → Prop => va_Qi (fun (r : Int32) (u : Unit) => F_m_greatest_21 mgap mplaces0 mplaces1 mspeeds0 mgains1 mbrakes0 mbrakes1 p1 p2 p3 p4 = r) (mpst D A (fun (u : Unit) => [(m0, .inr (5, [.int mthrown, .int (nI nf), .ref ah, .int mgap, .int 2, .int mdark, .int msteps, .ref a_places, .ref a_speeds, .ref a_most, .ref a_gains, .ref a_brakes, .ref a_slows, .ref a_rides, .ref a_doors, .ref a_doorPlaces, .ref a_opened, .ref a_wide, .ref a_holds, .ref a_loads, .ref a_mostLoads, .ref a_beams, .ref a_contacts, .ref a_fires, .ref a_ways, .ref a_calls, .ref a_callCounts, .ref a_wears])), (a_places, .inl (aI, 2, .inl (arL [mplaces0, mplaces1]))), (a_speeds, .inl (aI, 2, .inl (arL [mspeeds0, mspeeds1]))), (a_gains, .inl (aI, 2, .inl (arL [mgains0, mgains1]))), (a_brakes, .inl (aI, 2, .inl (arL [mbrakes0, mbrakes1])))])) A)) (by decide) rfl (Nat.le_of_ble_eq_true rfl) ?_
  intro p e s m args below meth c A ls Q hQ hx hb hr hts hown hlk hnm hml hA hS hP hK hD hE hl
  have hown : s.vm.findClass RX5 = some m.cls := hown
  have hl : lv_has ls 9 [(0, .ref m0), (1, .int 1), (2, .int p1), (3, .int p2), (4, .int p3), (5, .int p4)] := hl
  have hG := F_m_greatest_21_u mgap mplaces0 mplaces1 mspeeds0 mgains1 mbrakes0 mbrakes1 p1 p2 p3 p4
  refine lv_iconst (v := (-1)) hx hb dX5_greatest_0 (by decide) ?_
  refine lv_istore (lv' := [(6, .int (-1)), (0, .ref m0), (1, .int 1), (2, .int p1), (3, .int p2), (4, .int p3), (5, .int p4)]) hx hb dX5_greatest_1 hl (by decide) rfl (fun ls hl => ?_)
  refine lv_iload_n hx hb dX5_greatest_3 rfl (lv_at hl 4 rfl) ?_
  refine lv_istore (lv' := [(7, .int p2), (6, .int (-1)), (0, .ref m0), (1, .int 1), (2, .int p1), (3, .int p2), (4, .int p3), (5, .int p4)]) hx hb dX5_greatest_4 hl (by decide) rfl (fun ls hl => ?_)
  have loop6 : ∀ (fu : Nat) (ub : Int32) (uu : Int32), p3.toInt + 1 - uu.toInt < (fu : Int) → 1 ≤ fu → F_m_greatest_21 mgap mplaces0 mplaces1 mspeeds0 mgains1 mbrakes0 mbrakes1 p1 p2 p3 p4 = L_m_greatest_21_6 mgap mplaces0 mplaces1 mspeeds0 mgains1 mbrakes0 mbrakes1 p1 p3 p4 fu ub uu → ∀ (H : Heap) (locs : List Loc), va_P D vwCl [(m0, .inr (5, [.int mthrown, .int (nI nf), .ref ah, .int mgap, .int 2, .int mdark, .int msteps, .ref a_places, .ref a_speeds, .ref a_most, .ref a_gains, .ref a_brakes, .ref a_slows, .ref a_rides, .ref a_doors, .ref a_doorPlaces, .ref a_opened, .ref a_wide, .ref a_holds, .ref a_loads, .ref a_mostLoads, .ref a_beams, .ref a_contacts, .ref a_fires, .ref a_ways, .ref a_calls, .ref a_callCounts, .ref a_wears])), (a_places, .inl (aI, 2, .inl (arL [mplaces0, mplaces1]))), (a_speeds, .inl (aI, 2, .inl (arL [mspeeds0, mspeeds1]))), (a_gains, .inl (aI, 2, .inl (arL [mgains0, mgains1]))), (a_brakes, .inl (aI, 2, .inl (arL [mbrakes0, mbrakes1])))] H → va_D A [(m0, .inr (5, [.int mthrown, .int (nI nf), .ref ah, .int mgap, .int 2, .int mdark, .int msteps, .ref a_places, .ref a_speeds, .ref a_most, .ref a_gains, .ref a_brakes, .ref a_slows, .ref a_rides, .ref a_doors, .ref a_doorPlaces, .ref a_opened, .ref a_wide, .ref a_holds, .ref a_loads, .ref a_mostLoads, .ref a_beams, .ref a_contacts, .ref a_fires, .ref a_ways, .ref a_calls, .ref a_callCounts, .ref a_wears])), (a_places, .inl (aI, 2, .inl (arL [mplaces0, mplaces1]))), (a_speeds, .inl (aI, 2, .inl (arL [mspeeds0, mspeeds1]))), (a_gains, .inl (aI, 2, .inl (arL [mgains0, mgains1]))), (a_brakes, .inl (aI, 2, .inl (arL [mbrakes0, mbrakes1])))] → va_S A s.heap H locs → ∀ (ls : Array Slot), lv_has ls 9 [(7, .int uu), (6, .int ub), (0, .ref m0), (1, .int 1), (2, .int p1), (3, .int p2), (4, .int p3), (5, .int p4)] → W p l e ({ frames := 3, cells := 0, slots := 0, locals := 68 }) s m args below meth c H locs 0 0 Q (F0 m 6 ls []) := by
    intro fu
    induction fu with
    | zero => intro ub uu hm hm1; exact absurd hm1 (by decide)
    | succ fu ih =>
      intro ub uu hm hm1 hG H locs hP hD hS ls hl
      have hG := hG.trans (L_m_greatest_21_6_u mgap mplaces0 mplaces1 mspeeds0 mgains1 mbrakes0 mbrakes1 p1 p3 p4 fu ub uu)
      refine lv_iload hx hb dX5_greatest_6 (lv_at hl 0 rfl) ?_
      refine lv_iload hx hb dX5_greatest_8 (lv_at hl 6 rfl) ?_
      refine lv_icmp_gt (tgt := 76) hx hb dX5_greatest_10 (by decide) (fun c_1 => ?_) (fun c_1 => ?_)
      · have hG := hG.trans (if_pos c_1)
        refine lv_iload hx hb dX5_greatest_76 (lv_at hl 1 rfl) ?_
        have hP := hP.sub (ws' := [(m0, .inr (5, [.int mthrown, .int (nI nf), .ref ah, .int mgap, .int 2, .int mdark, .int msteps, .ref a_places, .ref a_speeds, .ref a_most, .ref a_gains, .ref a_brakes, .ref a_slows, .ref a_rides, .ref a_doors, .ref a_doorPlaces, .ref a_opened, .ref a_wide, .ref a_holds, .ref a_loads, .ref a_mostLoads, .ref a_beams, .ref a_contacts, .ref a_fires, .ref a_ways, .ref a_calls, .ref a_callCounts, .ref a_wears])), (a_places, .inl (aI, 2, .inl (arL [mplaces0, mplaces1]))), (a_speeds, .inl (aI, 2, .inl (arL [mspeeds0, mspeeds1]))), (a_gains, .inl (aI, 2, .inl (arL [mgains0, mgains1]))), (a_brakes, .inl (aI, 2, .inl (arL [mbrakes0, mbrakes1])))]) [0, 1, 2, 3, 4] rfl
        have hD := hD.sub (ws' := [(m0, .inr (5, [.int mthrown, .int (nI nf), .ref ah, .int mgap, .int 2, .int mdark, .int msteps, .ref a_places, .ref a_speeds, .ref a_most, .ref a_gains, .ref a_brakes, .ref a_slows, .ref a_rides, .ref a_doors, .ref a_doorPlaces, .ref a_opened, .ref a_wide, .ref a_holds, .ref a_loads, .ref a_mostLoads, .ref a_beams, .ref a_contacts, .ref a_fires, .ref a_ways, .ref a_calls, .ref a_callCounts, .ref a_wears])), (a_places, .inl (aI, 2, .inl (arL [mplaces0, mplaces1]))), (a_speeds, .inl (aI, 2, .inl (arL [mspeeds0, mspeeds1]))), (a_gains, .inl (aI, 2, .inl (arL [mgains0, mgains1]))), (a_brakes, .inl (aI, 2, .inl (arL [mbrakes0, mbrakes1])))]) [0, 1, 2, 3, 4] (by decide) rfl
        exact rt_i hQ hx hb hr () hG hP hD hS (Nat.le_of_ble_eq_true rfl) (Nat.le_of_ble_eq_true rfl) dX5_greatest_78 hlk
      · have hG := hG.trans (if_neg c_1)
        refine lv_iload hx hb dX5_greatest_13 (lv_at hl 7 rfl) ?_
        refine lv_iconst (v := (-1)) hx hb dX5_greatest_15 (by decide) ?_
        refine lv_icmp_eq (tgt := 38) hx hb dX5_greatest_16 (by decide) (fun c_2 => ?_) (fun c_2 => ?_)
        · have hG := hG.trans (if_pos c_2)
          refine lv_iconst (v := 1) hx hb dX5_greatest_38 (by decide) ?_
          refine lv_goto (tgt := 43) hx hb dX5_greatest_39 (by decide) ?_
          refine lv_istore (lv' := [(8, .int 1), (7, .int uu), (6, .int ub), (0, .ref m0), (1, .int 1), (2, .int p1), (3, .int p2), (4, .int p3), (5, .int p4)]) hx hb dX5_greatest_43 hl (by decide) rfl (fun ls hl => ?_)
          refine lv_iload hx hb dX5_greatest_45 (lv_at hl 0 rfl) ?_
          refine lv_if_eq (tgt := 66) hx hb dX5_greatest_47 (by decide) (fun c9 => absurd c9 (by decide)) (fun _ => ?_)
          refine lv_aload_n hx hb dX5_greatest_50 rfl (lv_at hl 3 rfl) ?_
          refine lv_iload_n hx hb dX5_greatest_51 rfl (lv_at hl 4 rfl) ?_
          refine lv_iload_n hx hb dX5_greatest_52 rfl (lv_at hl 5 rfl) ?_
          refine lv_iload hx hb dX5_greatest_53 (lv_at hl 1 rfl) ?_
          refine my_i (wr := [(a_gains, .inl (aI, 2, .inl (arL [mgains0, mgains1])))]) [0, 1, 2, 4] [3] (va_runV (As := [.int 1, .int p1, .int uu]) (rest := []) ⟨hx, hb, hml, hown, hts⟩ (c_m_isFree_21 l D aI aL aZ _ m0 ah a_places a_speeds a_most a_gains a_brakes a_slows a_rides a_doors a_doorPlaces a_opened a_wide a_holds a_loads a_mostLoads a_beams a_contacts a_fires a_ways a_calls a_callCounts a_wears mthrown nf mgap mdark msteps mplaces0 mplaces1 mspeeds0 mspeeds1 mbrakes0 mbrakes1 p1 uu hb0 hb1) (cwV 3 hts (gV w_859 w_861 w_31 w_38 w_862) rfl rfl rfl (by decide +kernel) ⟨Nat.le_of_ble_eq_true rfl, Nat.le_of_ble_eq_true rfl⟩) (prev_of hK hP hD hS hA hE [0, 1, 2, 4] rfl (by decide) (ci := 5) rfl 0 rfl _) rfl rfl hl.1 rfl (lv_room (Nat.le_of_ble_eq_true rfl)) dX5_greatest_55 ⟨Nat.le_of_ble_eq_true rfl, Nat.le_of_ble_eq_true rfl⟩) hP hD hS hA rfl rfl (by decide) (by decide) (fun r_4 u_ H locs hw_5 hP hD hS => ?_)
          have hw_5 : F_m_isFree_21 mgap mplaces0 mplaces1 mspeeds0 mbrakes0 mbrakes1 p1 uu = r_4 ∧ nb r_4 := hw_5
          have hG := hG.trans (cb_e hw_5.1)
          have hP : va_P D vwCl [(a_gains, .inl (aI, 2, .inl (arL [mgains0, mgains1]))), (m0, .inr (5, [.int mthrown, .int (nI nf), .ref ah, .int mgap, .int 2, .int mdark, .int msteps, .ref a_places, .ref a_speeds, .ref a_most, .ref a_gains, .ref a_brakes, .ref a_slows, .ref a_rides, .ref a_doors, .ref a_doorPlaces, .ref a_opened, .ref a_wide, .ref a_holds, .ref a_loads, .ref a_mostLoads, .ref a_beams, .ref a_contacts, .ref a_fires, .ref a_ways, .ref a_calls, .ref a_callCounts, .ref a_wears])), (a_places, .inl (aI, 2, .inl (arL [mplaces0, mplaces1]))), (a_speeds, .inl (aI, 2, .inl (arL [mspeeds0, mspeeds1]))), (a_brakes, .inl (aI, 2, .inl (arL [mbrakes0, mbrakes1])))] H := hP
          have hD : va_D A [(a_gains, .inl (aI, 2, .inl (arL [mgains0, mgains1]))), (m0, .inr (5, [.int mthrown, .int (nI nf), .ref ah, .int mgap, .int 2, .int mdark, .int msteps, .ref a_places, .ref a_speeds, .ref a_most, .ref a_gains, .ref a_brakes, .ref a_slows, .ref a_rides, .ref a_doors, .ref a_doorPlaces, .ref a_opened, .ref a_wide, .ref a_holds, .ref a_loads, .ref a_mostLoads, .ref a_beams, .ref a_contacts, .ref a_fires, .ref a_ways, .ref a_calls, .ref a_callCounts, .ref a_wears])), (a_places, .inl (aI, 2, .inl (arL [mplaces0, mplaces1]))), (a_speeds, .inl (aI, 2, .inl (arL [mspeeds0, mspeeds1]))), (a_brakes, .inl (aI, 2, .inl (arL [mbrakes0, mbrakes1])))] := hD
          refine lv_if_eq (tgt := 66) hx hb dX5_greatest_58 (by decide) (fun c_6 => ?_) (fun c_6 => ?_)
          · have hG := hG.trans (if_pos c_6)
            refine lv_iload hx hb dX5_greatest_66 (lv_at hl 2 rfl) ?_
            refine lv_istore (lv' := [(6, .int ub), (8, .int 1), (7, .int uu), (0, .ref m0), (1, .int 1), (2, .int p1), (3, .int p2), (4, .int p3), (5, .int p4)]) hx hb dX5_greatest_68 hl (by decide) rfl (fun ls hl => ?_)
            refine lv_iinc (v := (uu + 1)) (lv' := [(7, .int (uu + 1)), (6, .int ub), (8, .int 1), (0, .ref m0), (1, .int 1), (2, .int p1), (3, .int p2), (4, .int p3), (5, .int p4)]) hx hb dX5_greatest_70 hl (k := 2) rfl rfl (by decide) rfl (fun ls hl => ?_)
            refine lv_goto (tgt := 6) hx hb dX5_greatest_73 (by decide) ?_
            exact ih ub (uu + 1) (gr_b hmx c_1 hm).1 (gr_b hmx c_1 hm).2 hG _ _ (hP.sub [1, 2, 3, 0, 4] rfl) (hD.sub [1, 2, 3, 0, 4] (by decide) rfl) hS ls (lv_sub hl [0, 1, 3, 4, 5, 6, 7, 8] rfl)
          · have hG := hG.trans (if_neg c_6)
            refine lv_iload hx hb dX5_greatest_61 (lv_at hl 1 rfl) ?_
            refine lv_goto (tgt := 68) hx hb dX5_greatest_63 (by decide) ?_
            refine lv_istore (lv' := [(6, .int uu), (8, .int 1), (7, .int uu), (0, .ref m0), (1, .int 1), (2, .int p1), (3, .int p2), (4, .int p3), (5, .int p4)]) hx hb dX5_greatest_68 hl (by decide) rfl (fun ls hl => ?_)
            refine lv_iinc (v := (uu + 1)) (lv' := [(7, .int (uu + 1)), (6, .int uu), (8, .int 1), (0, .ref m0), (1, .int 1), (2, .int p1), (3, .int p2), (4, .int p3), (5, .int p4)]) hx hb dX5_greatest_70 hl (k := 2) rfl rfl (by decide) rfl (fun ls hl => ?_)
            refine lv_goto (tgt := 6) hx hb dX5_greatest_73 (by decide) ?_
            exact ih uu (uu + 1) (gr_b hmx c_1 hm).1 (gr_b hmx c_1 hm).2 hG _ _ (hP.sub [1, 2, 3, 0, 4] rfl) (hD.sub [1, 2, 3, 0, 4] (by decide) rfl) hS ls (lv_sub hl [0, 1, 3, 4, 5, 6, 7, 8] rfl)
        · have hG := hG.trans (if_neg c_2)
          refine lv_iload hx hb dX5_greatest_19 (lv_at hl 0 rfl) ?_
          refine lv_iload hx hb dX5_greatest_21 (lv_at hl 0 rfl) ?_
          refine lv_aload_n hx hb dX5_greatest_23 rfl (lv_at hl 2 rfl) ?_
          refine va_get (D := D) (ci := 5) (v := .ref a_gains) (C := RX5) (T := TX5) (N := 28) hx hb hts inX5 hown hK hP 0 rfl rfl 10 (by decide) (hts _ (mG w_646)) (fun _ h9 => h9) rfl dX5_greatest_24 ?_
          refine lv_iload_n hx hb dX5_greatest_27 rfl (lv_at hl 3 rfl) ?_
          refine my_iald (v := mgains1) (k := 1) hx hb hK hP 3 0 rfl rfl (by decide) (by decide) rfl dX5_greatest_28 ?_
          refine my_i (wr := [(m0, .inr (5, [.int mthrown, .int (nI nf), .ref ah, .int mgap, .int 2, .int mdark, .int msteps, .ref a_places, .ref a_speeds, .ref a_most, .ref a_gains, .ref a_brakes, .ref a_slows, .ref a_rides, .ref a_doors, .ref a_doorPlaces, .ref a_opened, .ref a_wide, .ref a_holds, .ref a_loads, .ref a_mostLoads, .ref a_beams, .ref a_contacts, .ref a_fires, .ref a_ways, .ref a_calls, .ref a_callCounts, .ref a_wears])), (a_places, .inl (aI, 2, .inl (arL [mplaces0, mplaces1]))), (a_speeds, .inl (aI, 2, .inl (arL [mspeeds0, mspeeds1]))), (a_gains, .inl (aI, 2, .inl (arL [mgains0, mgains1]))), (a_brakes, .inl (aI, 2, .inl (arL [mbrakes0, mbrakes1])))]) [] [0, 1, 2, 3, 4] (va_runS (As := [.int uu, .int mgains1]) (rest := [.int uu]) ⟨hx, hb, hml, hown, hts⟩ (c_m_length l D aI aL aZ _ uu mgains1 hg) (va_cwS 2 hts (gS w_760 w_761 w_38 w_762) rfl rfl rfl (by decide +kernel) ⟨Nat.le_of_ble_eq_true rfl, Nat.le_of_ble_eq_true rfl⟩) (pre_of hK hP hD hS hA hE [] rfl (by decide) _) rfl rfl hl.1 rfl (lv_room (Nat.le_of_ble_eq_true rfl)) dX5_greatest_29 ⟨Nat.le_of_ble_eq_true rfl, Nat.le_of_ble_eq_true rfl⟩) hP hD hS hA rfl rfl (by decide) (by decide) (fun r_7 u_ H locs hw_8 hP hD hS => ?_)
          have hw_8 : F_m_length uu mgains1 = r_7 := hw_8
          have hG := hG.trans (cb_e hw_8)
          have hP : va_P D vwCl [(m0, .inr (5, [.int mthrown, .int (nI nf), .ref ah, .int mgap, .int 2, .int mdark, .int msteps, .ref a_places, .ref a_speeds, .ref a_most, .ref a_gains, .ref a_brakes, .ref a_slows, .ref a_rides, .ref a_doors, .ref a_doorPlaces, .ref a_opened, .ref a_wide, .ref a_holds, .ref a_loads, .ref a_mostLoads, .ref a_beams, .ref a_contacts, .ref a_fires, .ref a_ways, .ref a_calls, .ref a_callCounts, .ref a_wears])), (a_places, .inl (aI, 2, .inl (arL [mplaces0, mplaces1]))), (a_speeds, .inl (aI, 2, .inl (arL [mspeeds0, mspeeds1]))), (a_gains, .inl (aI, 2, .inl (arL [mgains0, mgains1]))), (a_brakes, .inl (aI, 2, .inl (arL [mbrakes0, mbrakes1])))] H := hP
          have hD : va_D A [(m0, .inr (5, [.int mthrown, .int (nI nf), .ref ah, .int mgap, .int 2, .int mdark, .int msteps, .ref a_places, .ref a_speeds, .ref a_most, .ref a_gains, .ref a_brakes, .ref a_slows, .ref a_rides, .ref a_doors, .ref a_doorPlaces, .ref a_opened, .ref a_wide, .ref a_holds, .ref a_loads, .ref a_mostLoads, .ref a_beams, .ref a_contacts, .ref a_fires, .ref a_ways, .ref a_calls, .ref a_callCounts, .ref a_wears])), (a_places, .inl (aI, 2, .inl (arL [mplaces0, mplaces1]))), (a_speeds, .inl (aI, 2, .inl (arL [mspeeds0, mspeeds1]))), (a_gains, .inl (aI, 2, .inl (arL [mgains0, mgains1]))), (a_brakes, .inl (aI, 2, .inl (arL [mbrakes0, mbrakes1])))] := hD
          refine lv_iadd hx hb dX5_greatest_32 ?_
          refine lv_iload hx hb dX5_greatest_33 (lv_at hl 7 rfl) ?_
          refine lv_icmp_gt (tgt := 42) hx hb dX5_greatest_35 (by decide) (fun c_9 => ?_) (fun c_9 => ?_)
          · have hG := hG.trans (if_pos c_9)
            refine lv_iconst (v := 0) hx hb dX5_greatest_42 (by decide) ?_
            refine lv_istore (lv' := [(8, .int 0), (7, .int uu), (6, .int ub), (0, .ref m0), (1, .int 1), (2, .int p1), (3, .int p2), (4, .int p3), (5, .int p4)]) hx hb dX5_greatest_43 hl (by decide) rfl (fun ls hl => ?_)
            refine lv_iload hx hb dX5_greatest_45 (lv_at hl 0 rfl) ?_
            refine lv_if_eq (tgt := 66) hx hb dX5_greatest_47 (by decide) (fun _ => ?_) (fun c9 => absurd c9 (by decide))
            refine lv_iload hx hb dX5_greatest_66 (lv_at hl 2 rfl) ?_
            refine lv_istore (lv' := [(6, .int ub), (8, .int 0), (7, .int uu), (0, .ref m0), (1, .int 1), (2, .int p1), (3, .int p2), (4, .int p3), (5, .int p4)]) hx hb dX5_greatest_68 hl (by decide) rfl (fun ls hl => ?_)
            refine lv_iinc (v := (uu + 1)) (lv' := [(7, .int (uu + 1)), (6, .int ub), (8, .int 0), (0, .ref m0), (1, .int 1), (2, .int p1), (3, .int p2), (4, .int p3), (5, .int p4)]) hx hb dX5_greatest_70 hl (k := 2) rfl rfl (by decide) rfl (fun ls hl => ?_)
            refine lv_goto (tgt := 6) hx hb dX5_greatest_73 (by decide) ?_
            exact ih ub (uu + 1) (gr_b hmx c_1 hm).1 (gr_b hmx c_1 hm).2 hG _ _ (hP.sub [0, 1, 2, 3, 4] rfl) (hD.sub [0, 1, 2, 3, 4] (by decide) rfl) hS ls (lv_sub hl [0, 1, 3, 4, 5, 6, 7, 8] rfl)
          · have hG := hG.trans (if_neg c_9)
            refine lv_iconst (v := 1) hx hb dX5_greatest_38 (by decide) ?_
            refine lv_goto (tgt := 43) hx hb dX5_greatest_39 (by decide) ?_
            refine lv_istore (lv' := [(8, .int 1), (7, .int uu), (6, .int ub), (0, .ref m0), (1, .int 1), (2, .int p1), (3, .int p2), (4, .int p3), (5, .int p4)]) hx hb dX5_greatest_43 hl (by decide) rfl (fun ls hl => ?_)
            refine lv_iload hx hb dX5_greatest_45 (lv_at hl 0 rfl) ?_
            refine lv_if_eq (tgt := 66) hx hb dX5_greatest_47 (by decide) (fun c9 => absurd c9 (by decide)) (fun _ => ?_)
            refine lv_aload_n hx hb dX5_greatest_50 rfl (lv_at hl 3 rfl) ?_
            refine lv_iload_n hx hb dX5_greatest_51 rfl (lv_at hl 4 rfl) ?_
            refine lv_iload_n hx hb dX5_greatest_52 rfl (lv_at hl 5 rfl) ?_
            refine lv_iload hx hb dX5_greatest_53 (lv_at hl 1 rfl) ?_
            refine my_i (wr := [(a_gains, .inl (aI, 2, .inl (arL [mgains0, mgains1])))]) [0, 1, 2, 4] [3] (va_runV (As := [.int 1, .int p1, .int uu]) (rest := []) ⟨hx, hb, hml, hown, hts⟩ (c_m_isFree_21 l D aI aL aZ _ m0 ah a_places a_speeds a_most a_gains a_brakes a_slows a_rides a_doors a_doorPlaces a_opened a_wide a_holds a_loads a_mostLoads a_beams a_contacts a_fires a_ways a_calls a_callCounts a_wears mthrown nf mgap mdark msteps mplaces0 mplaces1 mspeeds0 mspeeds1 mbrakes0 mbrakes1 p1 uu hb0 hb1) (cwV 3 hts (gV w_859 w_861 w_31 w_38 w_862) rfl rfl rfl (by decide +kernel) ⟨Nat.le_of_ble_eq_true rfl, Nat.le_of_ble_eq_true rfl⟩) (prev_of hK hP hD hS hA hE [0, 1, 2, 4] rfl (by decide) (ci := 5) rfl 0 rfl _) rfl rfl hl.1 rfl (lv_room (Nat.le_of_ble_eq_true rfl)) dX5_greatest_55 ⟨Nat.le_of_ble_eq_true rfl, Nat.le_of_ble_eq_true rfl⟩) hP hD hS hA rfl rfl (by decide) (by decide) (fun r_12 u_ H locs hw_13 hP hD hS => ?_)
            have hw_13 : F_m_isFree_21 mgap mplaces0 mplaces1 mspeeds0 mbrakes0 mbrakes1 p1 uu = r_12 ∧ nb r_12 := hw_13
            have hG := hG.trans (cb_e hw_13.1)
            have hP : va_P D vwCl [(a_gains, .inl (aI, 2, .inl (arL [mgains0, mgains1]))), (m0, .inr (5, [.int mthrown, .int (nI nf), .ref ah, .int mgap, .int 2, .int mdark, .int msteps, .ref a_places, .ref a_speeds, .ref a_most, .ref a_gains, .ref a_brakes, .ref a_slows, .ref a_rides, .ref a_doors, .ref a_doorPlaces, .ref a_opened, .ref a_wide, .ref a_holds, .ref a_loads, .ref a_mostLoads, .ref a_beams, .ref a_contacts, .ref a_fires, .ref a_ways, .ref a_calls, .ref a_callCounts, .ref a_wears])), (a_places, .inl (aI, 2, .inl (arL [mplaces0, mplaces1]))), (a_speeds, .inl (aI, 2, .inl (arL [mspeeds0, mspeeds1]))), (a_brakes, .inl (aI, 2, .inl (arL [mbrakes0, mbrakes1])))] H := hP
            have hD : va_D A [(a_gains, .inl (aI, 2, .inl (arL [mgains0, mgains1]))), (m0, .inr (5, [.int mthrown, .int (nI nf), .ref ah, .int mgap, .int 2, .int mdark, .int msteps, .ref a_places, .ref a_speeds, .ref a_most, .ref a_gains, .ref a_brakes, .ref a_slows, .ref a_rides, .ref a_doors, .ref a_doorPlaces, .ref a_opened, .ref a_wide, .ref a_holds, .ref a_loads, .ref a_mostLoads, .ref a_beams, .ref a_contacts, .ref a_fires, .ref a_ways, .ref a_calls, .ref a_callCounts, .ref a_wears])), (a_places, .inl (aI, 2, .inl (arL [mplaces0, mplaces1]))), (a_speeds, .inl (aI, 2, .inl (arL [mspeeds0, mspeeds1]))), (a_brakes, .inl (aI, 2, .inl (arL [mbrakes0, mbrakes1])))] := hD
            refine lv_if_eq (tgt := 66) hx hb dX5_greatest_58 (by decide) (fun c_14 => ?_) (fun c_14 => ?_)
            · have hG := hG.trans (if_pos c_14)
              refine lv_iload hx hb dX5_greatest_66 (lv_at hl 2 rfl) ?_
              refine lv_istore (lv' := [(6, .int ub), (8, .int 1), (7, .int uu), (0, .ref m0), (1, .int 1), (2, .int p1), (3, .int p2), (4, .int p3), (5, .int p4)]) hx hb dX5_greatest_68 hl (by decide) rfl (fun ls hl => ?_)
              refine lv_iinc (v := (uu + 1)) (lv' := [(7, .int (uu + 1)), (6, .int ub), (8, .int 1), (0, .ref m0), (1, .int 1), (2, .int p1), (3, .int p2), (4, .int p3), (5, .int p4)]) hx hb dX5_greatest_70 hl (k := 2) rfl rfl (by decide) rfl (fun ls hl => ?_)
              refine lv_goto (tgt := 6) hx hb dX5_greatest_73 (by decide) ?_
              exact ih ub (uu + 1) (gr_b hmx c_1 hm).1 (gr_b hmx c_1 hm).2 hG _ _ (hP.sub [1, 2, 3, 0, 4] rfl) (hD.sub [1, 2, 3, 0, 4] (by decide) rfl) hS ls (lv_sub hl [0, 1, 3, 4, 5, 6, 7, 8] rfl)
            · have hG := hG.trans (if_neg c_14)
              refine lv_iload hx hb dX5_greatest_61 (lv_at hl 1 rfl) ?_
              refine lv_goto (tgt := 68) hx hb dX5_greatest_63 (by decide) ?_
              refine lv_istore (lv' := [(6, .int uu), (8, .int 1), (7, .int uu), (0, .ref m0), (1, .int 1), (2, .int p1), (3, .int p2), (4, .int p3), (5, .int p4)]) hx hb dX5_greatest_68 hl (by decide) rfl (fun ls hl => ?_)
              refine lv_iinc (v := (uu + 1)) (lv' := [(7, .int (uu + 1)), (6, .int uu), (8, .int 1), (0, .ref m0), (1, .int 1), (2, .int p1), (3, .int p2), (4, .int p3), (5, .int p4)]) hx hb dX5_greatest_70 hl (k := 2) rfl rfl (by decide) rfl (fun ls hl => ?_)
              refine lv_goto (tgt := 6) hx hb dX5_greatest_73 (by decide) ?_
              exact ih uu (uu + 1) (gr_b hmx c_1 hm).1 (gr_b hmx c_1 hm).2 hG _ _ (hP.sub [1, 2, 3, 0, 4] rfl) (hD.sub [1, 2, 3, 0, 4] (by decide) rfl) hS ls (lv_sub hl [0, 1, 3, 4, 5, 6, 7, 8] rfl)
  exact loop6 ((p3.toInt + 2 - p2.toInt).toNat + 1) (-1) p2 (by omega) (by omega) hG _ _ hP hD hS ls (lv_sub hl [0, 1, 2, 3, 4, 5, 6, 7] rfl)
theorem dX5_reopen_0 : decode cX5_reopen 0 = .ok (.aload_n 0, 1) := by decide +kernel
theorem dX5_reopen_1 : decode cX5_reopen 1 = .ok (.getfield 38, 3) := by decide +kernel
theorem dX5_reopen_4 : decode cX5_reopen 4 = .ok (.iload_n 1, 1) := by decide +kernel
theorem dX5_reopen_5 : decode cX5_reopen 5 = .ok (.iconst 1, 1) := by decide +kernel
theorem dX5_reopen_6 : decode cX5_reopen 6 = .ok (.iastore, 1) := by decide +kernel
theorem dX5_reopen_7 : decode cX5_reopen 7 = .ok (.aload_n 0, 1) := by decide +kernel
theorem dX5_reopen_8 : decode cX5_reopen 8 = .ok (.getfield 78, 3) := by decide +kernel
theorem dX5_reopen_11 : decode cX5_reopen 11 = .ok (.bipush 6, 2) := by decide +kernel
theorem dX5_reopen_13 : decode cX5_reopen 13 = .ok (.iload_n 1, 1) := by decide +kernel
theorem dX5_reopen_14 : decode cX5_reopen 14 = .ok (.imul, 1) := by decide +kernel
theorem dX5_reopen_15 : decode cX5_reopen 15 = .ok (.iload_n 2, 1) := by decide +kernel
theorem dX5_reopen_16 : decode cX5_reopen 16 = .ok (.iadd, 1) := by decide +kernel
theorem dX5_reopen_17 : decode cX5_reopen 17 = .ok (.dup2, 1) := by decide +kernel
theorem dX5_reopen_18 : decode cX5_reopen 18 = .ok (.iaload, 1) := by decide +kernel
theorem dX5_reopen_19 : decode cX5_reopen 19 = .ok (.iconst 1, 1) := by decide +kernel
theorem dX5_reopen_20 : decode cX5_reopen 20 = .ok (.iadd, 1) := by decide +kernel
theorem dX5_reopen_21 : decode cX5_reopen 21 = .ok (.iastore, 1) := by decide +kernel
theorem dX5_reopen_22 : decode cX5_reopen 22 = .ok (.return_, 1) := by decide +kernel
def F_m_reopen_03 : Unit :=
  ()
theorem F_m_reopen_03_u : F_m_reopen_03 =
  (()) := rfl
set_option maxHeartbeats 4000000 in
set_option maxRecDepth 100000 in
theorem c_m_reopen_03 (l : Launch) (D : va_G) (aI aL aZ : ClassId) (sz : Nat) (m0 : Nat) (ah : Nat) (a_places : Nat) (a_speeds : Nat) (a_most : Nat) (a_gains : Nat) (a_brakes : Nat) (a_slows : Nat) (a_rides : Nat) (a_doors : Nat) (a_doorPlaces : Nat) (a_opened : Nat) (a_wide : Nat) (a_holds : Nat) (a_loads : Nat) (a_mostLoads : Nat) (a_beams : Nat) (a_contacts : Nat) (a_fires : Nat) (a_ways : Nat) (a_calls : Nat) (a_callCounts : Nat) (a_wears : Nat) (mthrown : Int32) (nf : Nat) (mgap : Int32) (mcars : Int32) (mdark : Int32) (msteps : Int32) (mdoors0 : Int32) (mdoors1 : Int32) (mw0 : Int32) (mw1 : Int32) (mw2 : Int32) (mw3 : Int32) (mw4 : Int32) (mw5 : Int32) (mw6 : Int32) (mw7 : Int32) (mw8 : Int32) (mw9 : Int32) (mw10 : Int32) (mw11 : Int32) : Met l yX5_reopen (.code yX5_reopen cX5_reopen 3 none :: Gw) ({ frames := 0, cells := 0, slots := 0, locals := 0 }) (va_Pc [.ref m0, .int 0, .int 3] (mpre D [(aI, .int), (aL, .long), (aZ, .boolean)] [(m0, .inr (5, [.int mthrown, .int (nI nf), .ref ah, .int mgap, .int mcars, .int mdark, .int msteps, .ref a_places, .ref a_speeds, .ref a_most, .ref a_gains, .ref a_brakes, .ref a_slows, .ref a_rides, .ref a_doors, .ref a_doorPlaces, .ref a_opened, .ref a_wide, .ref a_holds, .ref a_loads, .ref a_mostLoads, .ref a_beams, .ref a_contacts, .ref a_fires, .ref a_ways, .ref a_calls, .ref a_callCounts, .ref a_wears])), (a_doors, .inl (aI, 2, .inl (arL [mdoors0, mdoors1]))), (a_wears, .inl (aI, 12, .inl (arL [mw0, mw1, mw2, mw3, mw4, mw5, mw6, mw7, mw8, mw9, mw10, mw11])))] sz)) ((fun A : Nat → Prop => va_Qv (fun (u : Unit) => F_m_reopen_03 = ()) (mpst D A (fun (u : Unit) => [(m0, .inr (5, [.int mthrown, .int (nI nf), .ref ah, .int mgap, .int mcars, .int mdark, .int msteps, .ref a_places, .ref a_speeds, .ref a_most, .ref a_gains, .ref a_brakes, .ref a_slows, .ref a_rides, .ref a_doors, .ref a_doorPlaces, .ref a_opened, .ref a_wide, .ref a_holds, .ref a_loads, .ref a_mostLoads, .ref a_beams, .ref a_contacts, .ref a_fires, .ref a_ways, .ref a_calls, .ref a_callCounts, .ref a_wears])), (a_doors, .inl (aI, 2, .inl (arL [1, mdoors1]))), (a_wears, .inl (aI, 12, .inl (arL [mw0, mw1, mw2, (mw3 + 1), mw4, mw5, mw6, mw7, mw8, mw9, mw10, mw11])))])) A) (va_A ([(m0, .inr (5, [.int mthrown, .int (nI nf), .ref ah, .int mgap, .int mcars, .int mdark, .int msteps, .ref a_places, .ref a_speeds, .ref a_most, .ref a_gains, .ref a_brakes, .ref a_slows, .ref a_rides, .ref a_doors, .ref a_doorPlaces, .ref a_opened, .ref a_wide, .ref a_holds, .ref a_loads, .ref a_mostLoads, .ref a_beams, .ref a_contacts, .ref a_fires, .ref a_ways, .ref a_calls, .ref a_callCounts, .ref a_wears])), (a_doors, .inl (aI, 2, .inl (arL [mdoors0, mdoors1]))), (a_wears, .inl (aI, 12, .inl (arL [mw0, mw1, mw2, mw3, mw4, mw5, mw6, mw7, mw8, mw9, mw10, mw11])))]) sz)) 0 0 (va_A ([(m0, .inr (5, [.int mthrown, .int (nI nf), .ref ah, .int mgap, .int mcars, .int mdark, .int msteps, .ref a_places, .ref a_speeds, .ref a_most, .ref a_gains, .ref a_brakes, .ref a_slows, .ref a_rides, .ref a_doors, .ref a_doorPlaces, .ref a_opened, .ref a_wide, .ref a_holds, .ref a_loads, .ref a_mostLoads, .ref a_beams, .ref a_contacts, .ref a_fires, .ref a_ways, .ref a_calls, .ref a_callCounts, .ref a_wears])), (a_doors, .inl (aI, 2, .inl (arL [mdoors0, mdoors1]))), (a_wears, .inl (aI, 12, .inl (arL [mw0, mw1, mw2, mw3, mw4, mw5, mw6, mw7, mw8, mw9, mw10, mw11])))]) sz) := by
  refine en (cc := cX5_reopen) (maxL := 3) (ret := none) (Qc := (fun A : Nat → Prop => va_Qv (fun (u : Unit) => F_m_reopen_03 = ()) (mpst D A (fun (u : Unit) => [(m0, .inr (5, [.int mthrown, .int (nI nf), .ref ah, .int mgap, .int mcars, .int mdark, .int msteps, .ref a_places, .ref a_speeds, .ref a_most, .ref a_gains, .ref a_brakes, .ref a_slows, .ref a_rides, .ref a_doors, .ref a_doorPlaces, .ref a_opened, .ref a_wide, .ref a_holds, .ref a_loads, .ref a_mostLoads, .ref a_beams, .ref a_contacts, .ref a_fires, .ref a_ways, .ref a_calls, .ref a_callCounts, .ref a_wears])), (a_doors, .inl (aI, 2, .inl (arL [1, mdoors1]))), (a_wears, .inl (aI, 12, .inl (arL [mw0, mw1, mw2, (mw3 + 1), mw4, mw5, mw6, mw7, mw8, mw9, mw10, mw11])))])) A)) (by decide) rfl (Nat.le_of_ble_eq_true rfl) ?_
  intro p e s m args below meth c A ls Q hQ hx hb hr hts hown hlk hnm hml hA hS hP hK hD hE hl
  have hown : s.vm.findClass RX5 = some m.cls := hown
  have hl : lv_has ls 3 [(0, .ref m0), (1, .int 0), (2, .int 3)] := hl
  have hG := F_m_reopen_03_u
  refine lv_aload_n hx hb dX5_reopen_0 rfl (lv_at hl 0 rfl) ?_
  refine va_get (D := D) (ci := 5) (v := .ref a_doors) (C := RX5) (T := TX5) (N := 28) hx hb hts inX5 hown hK hP 0 rfl rfl 14 (by decide) (hts _ (mG w_650)) (fun _ h9 => h9) rfl dX5_reopen_1 ?_
  refine lv_iload_n hx hb dX5_reopen_4 rfl (lv_at hl 1 rfl) ?_
  refine lv_iconst (v := 1) hx hb dX5_reopen_5 (by decide) ?_
  refine my_iast (k := 0) hx hb hK hP hD hS 1 0 rfl rfl (by decide) (Nat.le_of_ble_eq_true rfl) dX5_reopen_6 (fun H locs hP hD hS => ?_)
  have hP : va_P D vwCl [(m0, .inr (5, [.int mthrown, .int (nI nf), .ref ah, .int mgap, .int mcars, .int mdark, .int msteps, .ref a_places, .ref a_speeds, .ref a_most, .ref a_gains, .ref a_brakes, .ref a_slows, .ref a_rides, .ref a_doors, .ref a_doorPlaces, .ref a_opened, .ref a_wide, .ref a_holds, .ref a_loads, .ref a_mostLoads, .ref a_beams, .ref a_contacts, .ref a_fires, .ref a_ways, .ref a_calls, .ref a_callCounts, .ref a_wears])), (a_doors, .inl (aI, 2, .inl (arL [1, mdoors1]))), (a_wears, .inl (aI, 12, .inl (arL [mw0, mw1, mw2, mw3, mw4, mw5, mw6, mw7, mw8, mw9, mw10, mw11])))] H := hP
  have hD : va_D A [(m0, .inr (5, [.int mthrown, .int (nI nf), .ref ah, .int mgap, .int mcars, .int mdark, .int msteps, .ref a_places, .ref a_speeds, .ref a_most, .ref a_gains, .ref a_brakes, .ref a_slows, .ref a_rides, .ref a_doors, .ref a_doorPlaces, .ref a_opened, .ref a_wide, .ref a_holds, .ref a_loads, .ref a_mostLoads, .ref a_beams, .ref a_contacts, .ref a_fires, .ref a_ways, .ref a_calls, .ref a_callCounts, .ref a_wears])), (a_doors, .inl (aI, 2, .inl (arL [1, mdoors1]))), (a_wears, .inl (aI, 12, .inl (arL [mw0, mw1, mw2, mw3, mw4, mw5, mw6, mw7, mw8, mw9, mw10, mw11])))] := hD
  refine lv_aload_n hx hb dX5_reopen_7 rfl (lv_at hl 0 rfl) ?_
  refine va_get (D := D) (ci := 5) (v := .ref a_wears) (C := RX5) (T := TX5) (N := 28) hx hb hts inX5 hown hK hP 0 rfl rfl 27 (by decide) (hts _ (mG w_663)) (fun _ h9 => h9) rfl dX5_reopen_8 ?_
  refine lv_bipush (v := 6) hx hb dX5_reopen_11 (by decide) ?_
  refine lv_iload_n hx hb dX5_reopen_13 rfl (lv_at hl 1 rfl) ?_
  refine lv_imul hx hb dX5_reopen_14 ?_
  refine lv_topi (fun y_1 hy_1 => ?_)
  obtain rfl : y_1 = 0 := hy_1.trans (by decide)
  refine lv_iload_n hx hb dX5_reopen_15 rfl (lv_at hl 2 rfl) ?_
  refine lv_iadd hx hb dX5_reopen_16 ?_
  refine lv_topi (fun y_2 hy_2 => ?_)
  obtain rfl : y_2 = 3 := hy_2.trans (by decide)
  refine lv_dup2_11 hx hb dX5_reopen_17 rfl rfl ?_
  refine my_iald (v := mw3) (k := 3) hx hb hK hP 2 0 rfl rfl (by decide) (by decide) rfl dX5_reopen_18 ?_
  refine lv_iconst (v := 1) hx hb dX5_reopen_19 (by decide) ?_
  refine lv_iadd hx hb dX5_reopen_20 ?_
  refine my_iast (k := 3) hx hb hK hP hD hS 2 0 rfl rfl (by decide) (Nat.le_of_ble_eq_true rfl) dX5_reopen_21 (fun H locs hP hD hS => ?_)
  have hP : va_P D vwCl [(m0, .inr (5, [.int mthrown, .int (nI nf), .ref ah, .int mgap, .int mcars, .int mdark, .int msteps, .ref a_places, .ref a_speeds, .ref a_most, .ref a_gains, .ref a_brakes, .ref a_slows, .ref a_rides, .ref a_doors, .ref a_doorPlaces, .ref a_opened, .ref a_wide, .ref a_holds, .ref a_loads, .ref a_mostLoads, .ref a_beams, .ref a_contacts, .ref a_fires, .ref a_ways, .ref a_calls, .ref a_callCounts, .ref a_wears])), (a_doors, .inl (aI, 2, .inl (arL [1, mdoors1]))), (a_wears, .inl (aI, 12, .inl (arL [mw0, mw1, mw2, (mw3 + 1), mw4, mw5, mw6, mw7, mw8, mw9, mw10, mw11])))] H := hP
  have hD : va_D A [(m0, .inr (5, [.int mthrown, .int (nI nf), .ref ah, .int mgap, .int mcars, .int mdark, .int msteps, .ref a_places, .ref a_speeds, .ref a_most, .ref a_gains, .ref a_brakes, .ref a_slows, .ref a_rides, .ref a_doors, .ref a_doorPlaces, .ref a_opened, .ref a_wide, .ref a_holds, .ref a_loads, .ref a_mostLoads, .ref a_beams, .ref a_contacts, .ref a_fires, .ref a_ways, .ref a_calls, .ref a_callCounts, .ref a_wears])), (a_doors, .inl (aI, 2, .inl (arL [1, mdoors1]))), (a_wears, .inl (aI, 12, .inl (arL [mw0, mw1, mw2, (mw3 + 1), mw4, mw5, mw6, mw7, mw8, mw9, mw10, mw11])))] := hD
  have hP := hP.sub (ws' := [(m0, .inr (5, [.int mthrown, .int (nI nf), .ref ah, .int mgap, .int mcars, .int mdark, .int msteps, .ref a_places, .ref a_speeds, .ref a_most, .ref a_gains, .ref a_brakes, .ref a_slows, .ref a_rides, .ref a_doors, .ref a_doorPlaces, .ref a_opened, .ref a_wide, .ref a_holds, .ref a_loads, .ref a_mostLoads, .ref a_beams, .ref a_contacts, .ref a_fires, .ref a_ways, .ref a_calls, .ref a_callCounts, .ref a_wears])), (a_doors, .inl (aI, 2, .inl (arL [1, mdoors1]))), (a_wears, .inl (aI, 12, .inl (arL [mw0, mw1, mw2, (mw3 + 1), mw4, mw5, mw6, mw7, mw8, mw9, mw10, mw11])))]) [0, 1, 2] rfl
  have hD := hD.sub (ws' := [(m0, .inr (5, [.int mthrown, .int (nI nf), .ref ah, .int mgap, .int mcars, .int mdark, .int msteps, .ref a_places, .ref a_speeds, .ref a_most, .ref a_gains, .ref a_brakes, .ref a_slows, .ref a_rides, .ref a_doors, .ref a_doorPlaces, .ref a_opened, .ref a_wide, .ref a_holds, .ref a_loads, .ref a_mostLoads, .ref a_beams, .ref a_contacts, .ref a_fires, .ref a_ways, .ref a_calls, .ref a_callCounts, .ref a_wears])), (a_doors, .inl (aI, 2, .inl (arL [1, mdoors1]))), (a_wears, .inl (aI, 12, .inl (arL [mw0, mw1, mw2, (mw3 + 1), mw4, mw5, mw6, mw7, mw8, mw9, mw10, mw11])))]) [0, 1, 2] (by decide) rfl
  exact rt_v hQ hx hb hr () hG hP hD hS (Nat.le_of_ble_eq_true rfl) (Nat.le_of_ble_eq_true rfl) dX5_reopen_22 hlk
def F_m_reopen_04 : Unit :=
  ()
theorem F_m_reopen_04_u : F_m_reopen_04 =
  (()) := rfl
set_option maxHeartbeats 4000000 in
set_option maxRecDepth 100000 in
theorem c_m_reopen_04 (l : Launch) (D : va_G) (aI aL aZ : ClassId) (sz : Nat) (m0 : Nat) (ah : Nat) (a_places : Nat) (a_speeds : Nat) (a_most : Nat) (a_gains : Nat) (a_brakes : Nat) (a_slows : Nat) (a_rides : Nat) (a_doors : Nat) (a_doorPlaces : Nat) (a_opened : Nat) (a_wide : Nat) (a_holds : Nat) (a_loads : Nat) (a_mostLoads : Nat) (a_beams : Nat) (a_contacts : Nat) (a_fires : Nat) (a_ways : Nat) (a_calls : Nat) (a_callCounts : Nat) (a_wears : Nat) (mthrown : Int32) (nf : Nat) (mgap : Int32) (mcars : Int32) (mdark : Int32) (msteps : Int32) (mdoors0 : Int32) (mdoors1 : Int32) (mw0 : Int32) (mw1 : Int32) (mw2 : Int32) (mw3 : Int32) (mw4 : Int32) (mw5 : Int32) (mw6 : Int32) (mw7 : Int32) (mw8 : Int32) (mw9 : Int32) (mw10 : Int32) (mw11 : Int32) : Met l yX5_reopen (.code yX5_reopen cX5_reopen 3 none :: Gw) ({ frames := 0, cells := 0, slots := 0, locals := 0 }) (va_Pc [.ref m0, .int 0, .int 4] (mpre D [(aI, .int), (aL, .long), (aZ, .boolean)] [(m0, .inr (5, [.int mthrown, .int (nI nf), .ref ah, .int mgap, .int mcars, .int mdark, .int msteps, .ref a_places, .ref a_speeds, .ref a_most, .ref a_gains, .ref a_brakes, .ref a_slows, .ref a_rides, .ref a_doors, .ref a_doorPlaces, .ref a_opened, .ref a_wide, .ref a_holds, .ref a_loads, .ref a_mostLoads, .ref a_beams, .ref a_contacts, .ref a_fires, .ref a_ways, .ref a_calls, .ref a_callCounts, .ref a_wears])), (a_doors, .inl (aI, 2, .inl (arL [mdoors0, mdoors1]))), (a_wears, .inl (aI, 12, .inl (arL [mw0, mw1, mw2, mw3, mw4, mw5, mw6, mw7, mw8, mw9, mw10, mw11])))] sz)) ((fun A : Nat → Prop => va_Qv (fun (u : Unit) => F_m_reopen_04 = ()) (mpst D A (fun (u : Unit) => [(m0, .inr (5, [.int mthrown, .int (nI nf), .ref ah, .int mgap, .int mcars, .int mdark, .int msteps, .ref a_places, .ref a_speeds, .ref a_most, .ref a_gains, .ref a_brakes, .ref a_slows, .ref a_rides, .ref a_doors, .ref a_doorPlaces, .ref a_opened, .ref a_wide, .ref a_holds, .ref a_loads, .ref a_mostLoads, .ref a_beams, .ref a_contacts, .ref a_fires, .ref a_ways, .ref a_calls, .ref a_callCounts, .ref a_wears])), (a_doors, .inl (aI, 2, .inl (arL [1, mdoors1]))), (a_wears, .inl (aI, 12, .inl (arL [mw0, mw1, mw2, mw3, (mw4 + 1), mw5, mw6, mw7, mw8, mw9, mw10, mw11])))])) A) (va_A ([(m0, .inr (5, [.int mthrown, .int (nI nf), .ref ah, .int mgap, .int mcars, .int mdark, .int msteps, .ref a_places, .ref a_speeds, .ref a_most, .ref a_gains, .ref a_brakes, .ref a_slows, .ref a_rides, .ref a_doors, .ref a_doorPlaces, .ref a_opened, .ref a_wide, .ref a_holds, .ref a_loads, .ref a_mostLoads, .ref a_beams, .ref a_contacts, .ref a_fires, .ref a_ways, .ref a_calls, .ref a_callCounts, .ref a_wears])), (a_doors, .inl (aI, 2, .inl (arL [mdoors0, mdoors1]))), (a_wears, .inl (aI, 12, .inl (arL [mw0, mw1, mw2, mw3, mw4, mw5, mw6, mw7, mw8, mw9, mw10, mw11])))]) sz)) 0 0 (va_A ([(m0, .inr (5, [.int mthrown, .int (nI nf), .ref ah, .int mgap, .int mcars, .int mdark, .int msteps, .ref a_places, .ref a_speeds, .ref a_most, .ref a_gains, .ref a_brakes, .ref a_slows, .ref a_rides, .ref a_doors, .ref a_doorPlaces, .ref a_opened, .ref a_wide, .ref a_holds, .ref a_loads, .ref a_mostLoads, .ref a_beams, .ref a_contacts, .ref a_fires, .ref a_ways, .ref a_calls, .ref a_callCounts, .ref a_wears])), (a_doors, .inl (aI, 2, .inl (arL [mdoors0, mdoors1]))), (a_wears, .inl (aI, 12, .inl (arL [mw0, mw1, mw2, mw3, mw4, mw5, mw6, mw7, mw8, mw9, mw10, mw11])))]) sz) := by
  refine en (cc := cX5_reopen) (maxL := 3) (ret := none) (Qc := (fun A : Nat → Prop => va_Qv (fun (u : Unit) => F_m_reopen_04 = ()) (mpst D A (fun (u : Unit) => [(m0, .inr (5, [.int mthrown, .int (nI nf), .ref ah, .int mgap, .int mcars, .int mdark, .int msteps, .ref a_places, .ref a_speeds, .ref a_most, .ref a_gains, .ref a_brakes, .ref a_slows, .ref a_rides, .ref a_doors, .ref a_doorPlaces, .ref a_opened, .ref a_wide, .ref a_holds, .ref a_loads, .ref a_mostLoads, .ref a_beams, .ref a_contacts, .ref a_fires, .ref a_ways, .ref a_calls, .ref a_callCounts, .ref a_wears])), (a_doors, .inl (aI, 2, .inl (arL [1, mdoors1]))), (a_wears, .inl (aI, 12, .inl (arL [mw0, mw1, mw2, mw3, (mw4 + 1), mw5, mw6, mw7, mw8, mw9, mw10, mw11])))])) A)) (by decide) rfl (Nat.le_of_ble_eq_true rfl) ?_
  intro p e s m args below meth c A ls Q hQ hx hb hr hts hown hlk hnm hml hA hS hP hK hD hE hl
  have hown : s.vm.findClass RX5 = some m.cls := hown
  have hl : lv_has ls 3 [(0, .ref m0), (1, .int 0), (2, .int 4)] := hl
  have hG := F_m_reopen_04_u
  refine lv_aload_n hx hb dX5_reopen_0 rfl (lv_at hl 0 rfl) ?_
  refine va_get (D := D) (ci := 5) (v := .ref a_doors) (C := RX5) (T := TX5) (N := 28) hx hb hts inX5 hown hK hP 0 rfl rfl 14 (by decide) (hts _ (mG w_650)) (fun _ h9 => h9) rfl dX5_reopen_1 ?_
  refine lv_iload_n hx hb dX5_reopen_4 rfl (lv_at hl 1 rfl) ?_
  refine lv_iconst (v := 1) hx hb dX5_reopen_5 (by decide) ?_
  refine my_iast (k := 0) hx hb hK hP hD hS 1 0 rfl rfl (by decide) (Nat.le_of_ble_eq_true rfl) dX5_reopen_6 (fun H locs hP hD hS => ?_)
  have hP : va_P D vwCl [(m0, .inr (5, [.int mthrown, .int (nI nf), .ref ah, .int mgap, .int mcars, .int mdark, .int msteps, .ref a_places, .ref a_speeds, .ref a_most, .ref a_gains, .ref a_brakes, .ref a_slows, .ref a_rides, .ref a_doors, .ref a_doorPlaces, .ref a_opened, .ref a_wide, .ref a_holds, .ref a_loads, .ref a_mostLoads, .ref a_beams, .ref a_contacts, .ref a_fires, .ref a_ways, .ref a_calls, .ref a_callCounts, .ref a_wears])), (a_doors, .inl (aI, 2, .inl (arL [1, mdoors1]))), (a_wears, .inl (aI, 12, .inl (arL [mw0, mw1, mw2, mw3, mw4, mw5, mw6, mw7, mw8, mw9, mw10, mw11])))] H := hP
  have hD : va_D A [(m0, .inr (5, [.int mthrown, .int (nI nf), .ref ah, .int mgap, .int mcars, .int mdark, .int msteps, .ref a_places, .ref a_speeds, .ref a_most, .ref a_gains, .ref a_brakes, .ref a_slows, .ref a_rides, .ref a_doors, .ref a_doorPlaces, .ref a_opened, .ref a_wide, .ref a_holds, .ref a_loads, .ref a_mostLoads, .ref a_beams, .ref a_contacts, .ref a_fires, .ref a_ways, .ref a_calls, .ref a_callCounts, .ref a_wears])), (a_doors, .inl (aI, 2, .inl (arL [1, mdoors1]))), (a_wears, .inl (aI, 12, .inl (arL [mw0, mw1, mw2, mw3, mw4, mw5, mw6, mw7, mw8, mw9, mw10, mw11])))] := hD
  refine lv_aload_n hx hb dX5_reopen_7 rfl (lv_at hl 0 rfl) ?_
  refine va_get (D := D) (ci := 5) (v := .ref a_wears) (C := RX5) (T := TX5) (N := 28) hx hb hts inX5 hown hK hP 0 rfl rfl 27 (by decide) (hts _ (mG w_663)) (fun _ h9 => h9) rfl dX5_reopen_8 ?_
  refine lv_bipush (v := 6) hx hb dX5_reopen_11 (by decide) ?_
  refine lv_iload_n hx hb dX5_reopen_13 rfl (lv_at hl 1 rfl) ?_
  refine lv_imul hx hb dX5_reopen_14 ?_
  refine lv_topi (fun y_1 hy_1 => ?_)
  obtain rfl : y_1 = 0 := hy_1.trans (by decide)
  refine lv_iload_n hx hb dX5_reopen_15 rfl (lv_at hl 2 rfl) ?_
  refine lv_iadd hx hb dX5_reopen_16 ?_
  refine lv_topi (fun y_2 hy_2 => ?_)
  obtain rfl : y_2 = 4 := hy_2.trans (by decide)
  refine lv_dup2_11 hx hb dX5_reopen_17 rfl rfl ?_
  refine my_iald (v := mw4) (k := 4) hx hb hK hP 2 0 rfl rfl (by decide) (by decide) rfl dX5_reopen_18 ?_
  refine lv_iconst (v := 1) hx hb dX5_reopen_19 (by decide) ?_
  refine lv_iadd hx hb dX5_reopen_20 ?_
  refine my_iast (k := 4) hx hb hK hP hD hS 2 0 rfl rfl (by decide) (Nat.le_of_ble_eq_true rfl) dX5_reopen_21 (fun H locs hP hD hS => ?_)
  have hP : va_P D vwCl [(m0, .inr (5, [.int mthrown, .int (nI nf), .ref ah, .int mgap, .int mcars, .int mdark, .int msteps, .ref a_places, .ref a_speeds, .ref a_most, .ref a_gains, .ref a_brakes, .ref a_slows, .ref a_rides, .ref a_doors, .ref a_doorPlaces, .ref a_opened, .ref a_wide, .ref a_holds, .ref a_loads, .ref a_mostLoads, .ref a_beams, .ref a_contacts, .ref a_fires, .ref a_ways, .ref a_calls, .ref a_callCounts, .ref a_wears])), (a_doors, .inl (aI, 2, .inl (arL [1, mdoors1]))), (a_wears, .inl (aI, 12, .inl (arL [mw0, mw1, mw2, mw3, (mw4 + 1), mw5, mw6, mw7, mw8, mw9, mw10, mw11])))] H := hP
  have hD : va_D A [(m0, .inr (5, [.int mthrown, .int (nI nf), .ref ah, .int mgap, .int mcars, .int mdark, .int msteps, .ref a_places, .ref a_speeds, .ref a_most, .ref a_gains, .ref a_brakes, .ref a_slows, .ref a_rides, .ref a_doors, .ref a_doorPlaces, .ref a_opened, .ref a_wide, .ref a_holds, .ref a_loads, .ref a_mostLoads, .ref a_beams, .ref a_contacts, .ref a_fires, .ref a_ways, .ref a_calls, .ref a_callCounts, .ref a_wears])), (a_doors, .inl (aI, 2, .inl (arL [1, mdoors1]))), (a_wears, .inl (aI, 12, .inl (arL [mw0, mw1, mw2, mw3, (mw4 + 1), mw5, mw6, mw7, mw8, mw9, mw10, mw11])))] := hD
  have hP := hP.sub (ws' := [(m0, .inr (5, [.int mthrown, .int (nI nf), .ref ah, .int mgap, .int mcars, .int mdark, .int msteps, .ref a_places, .ref a_speeds, .ref a_most, .ref a_gains, .ref a_brakes, .ref a_slows, .ref a_rides, .ref a_doors, .ref a_doorPlaces, .ref a_opened, .ref a_wide, .ref a_holds, .ref a_loads, .ref a_mostLoads, .ref a_beams, .ref a_contacts, .ref a_fires, .ref a_ways, .ref a_calls, .ref a_callCounts, .ref a_wears])), (a_doors, .inl (aI, 2, .inl (arL [1, mdoors1]))), (a_wears, .inl (aI, 12, .inl (arL [mw0, mw1, mw2, mw3, (mw4 + 1), mw5, mw6, mw7, mw8, mw9, mw10, mw11])))]) [0, 1, 2] rfl
  have hD := hD.sub (ws' := [(m0, .inr (5, [.int mthrown, .int (nI nf), .ref ah, .int mgap, .int mcars, .int mdark, .int msteps, .ref a_places, .ref a_speeds, .ref a_most, .ref a_gains, .ref a_brakes, .ref a_slows, .ref a_rides, .ref a_doors, .ref a_doorPlaces, .ref a_opened, .ref a_wide, .ref a_holds, .ref a_loads, .ref a_mostLoads, .ref a_beams, .ref a_contacts, .ref a_fires, .ref a_ways, .ref a_calls, .ref a_callCounts, .ref a_wears])), (a_doors, .inl (aI, 2, .inl (arL [1, mdoors1]))), (a_wears, .inl (aI, 12, .inl (arL [mw0, mw1, mw2, mw3, (mw4 + 1), mw5, mw6, mw7, mw8, mw9, mw10, mw11])))]) [0, 1, 2] (by decide) rfl
  exact rt_v hQ hx hb hr () hG hP hD hS (Nat.le_of_ble_eq_true rfl) (Nat.le_of_ble_eq_true rfl) dX5_reopen_22 hlk
def F_m_reopen_13 : Unit :=
  ()
theorem F_m_reopen_13_u : F_m_reopen_13 =
  (()) := rfl
set_option maxHeartbeats 4000000 in
set_option maxRecDepth 100000 in
theorem c_m_reopen_13 (l : Launch) (D : va_G) (aI aL aZ : ClassId) (sz : Nat) (m0 : Nat) (ah : Nat) (a_places : Nat) (a_speeds : Nat) (a_most : Nat) (a_gains : Nat) (a_brakes : Nat) (a_slows : Nat) (a_rides : Nat) (a_doors : Nat) (a_doorPlaces : Nat) (a_opened : Nat) (a_wide : Nat) (a_holds : Nat) (a_loads : Nat) (a_mostLoads : Nat) (a_beams : Nat) (a_contacts : Nat) (a_fires : Nat) (a_ways : Nat) (a_calls : Nat) (a_callCounts : Nat) (a_wears : Nat) (mthrown : Int32) (nf : Nat) (mgap : Int32) (mcars : Int32) (mdark : Int32) (msteps : Int32) (mdoors0 : Int32) (mdoors1 : Int32) (mw0 : Int32) (mw1 : Int32) (mw2 : Int32) (mw3 : Int32) (mw4 : Int32) (mw5 : Int32) (mw6 : Int32) (mw7 : Int32) (mw8 : Int32) (mw9 : Int32) (mw10 : Int32) (mw11 : Int32) : Met l yX5_reopen (.code yX5_reopen cX5_reopen 3 none :: Gw) ({ frames := 0, cells := 0, slots := 0, locals := 0 }) (va_Pc [.ref m0, .int 1, .int 3] (mpre D [(aI, .int), (aL, .long), (aZ, .boolean)] [(m0, .inr (5, [.int mthrown, .int (nI nf), .ref ah, .int mgap, .int mcars, .int mdark, .int msteps, .ref a_places, .ref a_speeds, .ref a_most, .ref a_gains, .ref a_brakes, .ref a_slows, .ref a_rides, .ref a_doors, .ref a_doorPlaces, .ref a_opened, .ref a_wide, .ref a_holds, .ref a_loads, .ref a_mostLoads, .ref a_beams, .ref a_contacts, .ref a_fires, .ref a_ways, .ref a_calls, .ref a_callCounts, .ref a_wears])), (a_doors, .inl (aI, 2, .inl (arL [mdoors0, mdoors1]))), (a_wears, .inl (aI, 12, .inl (arL [mw0, mw1, mw2, mw3, mw4, mw5, mw6, mw7, mw8, mw9, mw10, mw11])))] sz)) ((fun A : Nat → Prop => va_Qv (fun (u : Unit) => F_m_reopen_13 = ()) (mpst D A (fun (u : Unit) => [(m0, .inr (5, [.int mthrown, .int (nI nf), .ref ah, .int mgap, .int mcars, .int mdark, .int msteps, .ref a_places, .ref a_speeds, .ref a_most, .ref a_gains, .ref a_brakes, .ref a_slows, .ref a_rides, .ref a_doors, .ref a_doorPlaces, .ref a_opened, .ref a_wide, .ref a_holds, .ref a_loads, .ref a_mostLoads, .ref a_beams, .ref a_contacts, .ref a_fires, .ref a_ways, .ref a_calls, .ref a_callCounts, .ref a_wears])), (a_doors, .inl (aI, 2, .inl (arL [mdoors0, 1]))), (a_wears, .inl (aI, 12, .inl (arL [mw0, mw1, mw2, mw3, mw4, mw5, mw6, mw7, mw8, (mw9 + 1), mw10, mw11])))])) A) (va_A ([(m0, .inr (5, [.int mthrown, .int (nI nf), .ref ah, .int mgap, .int mcars, .int mdark, .int msteps, .ref a_places, .ref a_speeds, .ref a_most, .ref a_gains, .ref a_brakes, .ref a_slows, .ref a_rides, .ref a_doors, .ref a_doorPlaces, .ref a_opened, .ref a_wide, .ref a_holds, .ref a_loads, .ref a_mostLoads, .ref a_beams, .ref a_contacts, .ref a_fires, .ref a_ways, .ref a_calls, .ref a_callCounts, .ref a_wears])), (a_doors, .inl (aI, 2, .inl (arL [mdoors0, mdoors1]))), (a_wears, .inl (aI, 12, .inl (arL [mw0, mw1, mw2, mw3, mw4, mw5, mw6, mw7, mw8, mw9, mw10, mw11])))]) sz)) 0 0 (va_A ([(m0, .inr (5, [.int mthrown, .int (nI nf), .ref ah, .int mgap, .int mcars, .int mdark, .int msteps, .ref a_places, .ref a_speeds, .ref a_most, .ref a_gains, .ref a_brakes, .ref a_slows, .ref a_rides, .ref a_doors, .ref a_doorPlaces, .ref a_opened, .ref a_wide, .ref a_holds, .ref a_loads, .ref a_mostLoads, .ref a_beams, .ref a_contacts, .ref a_fires, .ref a_ways, .ref a_calls, .ref a_callCounts, .ref a_wears])), (a_doors, .inl (aI, 2, .inl (arL [mdoors0, mdoors1]))), (a_wears, .inl (aI, 12, .inl (arL [mw0, mw1, mw2, mw3, mw4, mw5, mw6, mw7, mw8, mw9, mw10, mw11])))]) sz) := by
  refine en (cc := cX5_reopen) (maxL := 3) (ret := none) (Qc := (fun A : Nat → Prop => va_Qv (fun (u : Unit) => F_m_reopen_13 = ()) (mpst D A (fun (u : Unit) => [(m0, .inr (5, [.int mthrown, .int (nI nf), .ref ah, .int mgap, .int mcars, .int mdark, .int msteps, .ref a_places, .ref a_speeds, .ref a_most, .ref a_gains, .ref a_brakes, .ref a_slows, .ref a_rides, .ref a_doors, .ref a_doorPlaces, .ref a_opened, .ref a_wide, .ref a_holds, .ref a_loads, .ref a_mostLoads, .ref a_beams, .ref a_contacts, .ref a_fires, .ref a_ways, .ref a_calls, .ref a_callCounts, .ref a_wears])), (a_doors, .inl (aI, 2, .inl (arL [mdoors0, 1]))), (a_wears, .inl (aI, 12, .inl (arL [mw0, mw1, mw2, mw3, mw4, mw5, mw6, mw7, mw8, (mw9 + 1), mw10, mw11])))])) A)) (by decide) rfl (Nat.le_of_ble_eq_true rfl) ?_
  intro p e s m args below meth c A ls Q hQ hx hb hr hts hown hlk hnm hml hA hS hP hK hD hE hl
  have hown : s.vm.findClass RX5 = some m.cls := hown
  have hl : lv_has ls 3 [(0, .ref m0), (1, .int 1), (2, .int 3)] := hl
  have hG := F_m_reopen_13_u
  refine lv_aload_n hx hb dX5_reopen_0 rfl (lv_at hl 0 rfl) ?_
  refine va_get (D := D) (ci := 5) (v := .ref a_doors) (C := RX5) (T := TX5) (N := 28) hx hb hts inX5 hown hK hP 0 rfl rfl 14 (by decide) (hts _ (mG w_650)) (fun _ h9 => h9) rfl dX5_reopen_1 ?_
  refine lv_iload_n hx hb dX5_reopen_4 rfl (lv_at hl 1 rfl) ?_
  refine lv_iconst (v := 1) hx hb dX5_reopen_5 (by decide) ?_
  refine my_iast (k := 1) hx hb hK hP hD hS 1 0 rfl rfl (by decide) (Nat.le_of_ble_eq_true rfl) dX5_reopen_6 (fun H locs hP hD hS => ?_)
  have hP : va_P D vwCl [(m0, .inr (5, [.int mthrown, .int (nI nf), .ref ah, .int mgap, .int mcars, .int mdark, .int msteps, .ref a_places, .ref a_speeds, .ref a_most, .ref a_gains, .ref a_brakes, .ref a_slows, .ref a_rides, .ref a_doors, .ref a_doorPlaces, .ref a_opened, .ref a_wide, .ref a_holds, .ref a_loads, .ref a_mostLoads, .ref a_beams, .ref a_contacts, .ref a_fires, .ref a_ways, .ref a_calls, .ref a_callCounts, .ref a_wears])), (a_doors, .inl (aI, 2, .inl (arL [mdoors0, 1]))), (a_wears, .inl (aI, 12, .inl (arL [mw0, mw1, mw2, mw3, mw4, mw5, mw6, mw7, mw8, mw9, mw10, mw11])))] H := hP
  have hD : va_D A [(m0, .inr (5, [.int mthrown, .int (nI nf), .ref ah, .int mgap, .int mcars, .int mdark, .int msteps, .ref a_places, .ref a_speeds, .ref a_most, .ref a_gains, .ref a_brakes, .ref a_slows, .ref a_rides, .ref a_doors, .ref a_doorPlaces, .ref a_opened, .ref a_wide, .ref a_holds, .ref a_loads, .ref a_mostLoads, .ref a_beams, .ref a_contacts, .ref a_fires, .ref a_ways, .ref a_calls, .ref a_callCounts, .ref a_wears])), (a_doors, .inl (aI, 2, .inl (arL [mdoors0, 1]))), (a_wears, .inl (aI, 12, .inl (arL [mw0, mw1, mw2, mw3, mw4, mw5, mw6, mw7, mw8, mw9, mw10, mw11])))] := hD
  refine lv_aload_n hx hb dX5_reopen_7 rfl (lv_at hl 0 rfl) ?_
  refine va_get (D := D) (ci := 5) (v := .ref a_wears) (C := RX5) (T := TX5) (N := 28) hx hb hts inX5 hown hK hP 0 rfl rfl 27 (by decide) (hts _ (mG w_663)) (fun _ h9 => h9) rfl dX5_reopen_8 ?_
  refine lv_bipush (v := 6) hx hb dX5_reopen_11 (by decide) ?_
  refine lv_iload_n hx hb dX5_reopen_13 rfl (lv_at hl 1 rfl) ?_
  refine lv_imul hx hb dX5_reopen_14 ?_
  refine lv_topi (fun y_1 hy_1 => ?_)
  obtain rfl : y_1 = 6 := hy_1.trans (by decide)
  refine lv_iload_n hx hb dX5_reopen_15 rfl (lv_at hl 2 rfl) ?_
  refine lv_iadd hx hb dX5_reopen_16 ?_
  refine lv_topi (fun y_2 hy_2 => ?_)
  obtain rfl : y_2 = 9 := hy_2.trans (by decide)
  refine lv_dup2_11 hx hb dX5_reopen_17 rfl rfl ?_
  refine my_iald (v := mw9) (k := 9) hx hb hK hP 2 0 rfl rfl (by decide) (by decide) rfl dX5_reopen_18 ?_
  refine lv_iconst (v := 1) hx hb dX5_reopen_19 (by decide) ?_
  refine lv_iadd hx hb dX5_reopen_20 ?_
  refine my_iast (k := 9) hx hb hK hP hD hS 2 0 rfl rfl (by decide) (Nat.le_of_ble_eq_true rfl) dX5_reopen_21 (fun H locs hP hD hS => ?_)
  have hP : va_P D vwCl [(m0, .inr (5, [.int mthrown, .int (nI nf), .ref ah, .int mgap, .int mcars, .int mdark, .int msteps, .ref a_places, .ref a_speeds, .ref a_most, .ref a_gains, .ref a_brakes, .ref a_slows, .ref a_rides, .ref a_doors, .ref a_doorPlaces, .ref a_opened, .ref a_wide, .ref a_holds, .ref a_loads, .ref a_mostLoads, .ref a_beams, .ref a_contacts, .ref a_fires, .ref a_ways, .ref a_calls, .ref a_callCounts, .ref a_wears])), (a_doors, .inl (aI, 2, .inl (arL [mdoors0, 1]))), (a_wears, .inl (aI, 12, .inl (arL [mw0, mw1, mw2, mw3, mw4, mw5, mw6, mw7, mw8, (mw9 + 1), mw10, mw11])))] H := hP
  have hD : va_D A [(m0, .inr (5, [.int mthrown, .int (nI nf), .ref ah, .int mgap, .int mcars, .int mdark, .int msteps, .ref a_places, .ref a_speeds, .ref a_most, .ref a_gains, .ref a_brakes, .ref a_slows, .ref a_rides, .ref a_doors, .ref a_doorPlaces, .ref a_opened, .ref a_wide, .ref a_holds, .ref a_loads, .ref a_mostLoads, .ref a_beams, .ref a_contacts, .ref a_fires, .ref a_ways, .ref a_calls, .ref a_callCounts, .ref a_wears])), (a_doors, .inl (aI, 2, .inl (arL [mdoors0, 1]))), (a_wears, .inl (aI, 12, .inl (arL [mw0, mw1, mw2, mw3, mw4, mw5, mw6, mw7, mw8, (mw9 + 1), mw10, mw11])))] := hD
  have hP := hP.sub (ws' := [(m0, .inr (5, [.int mthrown, .int (nI nf), .ref ah, .int mgap, .int mcars, .int mdark, .int msteps, .ref a_places, .ref a_speeds, .ref a_most, .ref a_gains, .ref a_brakes, .ref a_slows, .ref a_rides, .ref a_doors, .ref a_doorPlaces, .ref a_opened, .ref a_wide, .ref a_holds, .ref a_loads, .ref a_mostLoads, .ref a_beams, .ref a_contacts, .ref a_fires, .ref a_ways, .ref a_calls, .ref a_callCounts, .ref a_wears])), (a_doors, .inl (aI, 2, .inl (arL [mdoors0, 1]))), (a_wears, .inl (aI, 12, .inl (arL [mw0, mw1, mw2, mw3, mw4, mw5, mw6, mw7, mw8, (mw9 + 1), mw10, mw11])))]) [0, 1, 2] rfl
  have hD := hD.sub (ws' := [(m0, .inr (5, [.int mthrown, .int (nI nf), .ref ah, .int mgap, .int mcars, .int mdark, .int msteps, .ref a_places, .ref a_speeds, .ref a_most, .ref a_gains, .ref a_brakes, .ref a_slows, .ref a_rides, .ref a_doors, .ref a_doorPlaces, .ref a_opened, .ref a_wide, .ref a_holds, .ref a_loads, .ref a_mostLoads, .ref a_beams, .ref a_contacts, .ref a_fires, .ref a_ways, .ref a_calls, .ref a_callCounts, .ref a_wears])), (a_doors, .inl (aI, 2, .inl (arL [mdoors0, 1]))), (a_wears, .inl (aI, 12, .inl (arL [mw0, mw1, mw2, mw3, mw4, mw5, mw6, mw7, mw8, (mw9 + 1), mw10, mw11])))]) [0, 1, 2] (by decide) rfl
  exact rt_v hQ hx hb hr () hG hP hD hS (Nat.le_of_ble_eq_true rfl) (Nat.le_of_ble_eq_true rfl) dX5_reopen_22 hlk
def F_m_reopen_14 : Unit :=
  ()
theorem F_m_reopen_14_u : F_m_reopen_14 =
  (()) := rfl
set_option maxHeartbeats 4000000 in
set_option maxRecDepth 100000 in
theorem c_m_reopen_14 (l : Launch) (D : va_G) (aI aL aZ : ClassId) (sz : Nat) (m0 : Nat) (ah : Nat) (a_places : Nat) (a_speeds : Nat) (a_most : Nat) (a_gains : Nat) (a_brakes : Nat) (a_slows : Nat) (a_rides : Nat) (a_doors : Nat) (a_doorPlaces : Nat) (a_opened : Nat) (a_wide : Nat) (a_holds : Nat) (a_loads : Nat) (a_mostLoads : Nat) (a_beams : Nat) (a_contacts : Nat) (a_fires : Nat) (a_ways : Nat) (a_calls : Nat) (a_callCounts : Nat) (a_wears : Nat) (mthrown : Int32) (nf : Nat) (mgap : Int32) (mcars : Int32) (mdark : Int32) (msteps : Int32) (mdoors0 : Int32) (mdoors1 : Int32) (mw0 : Int32) (mw1 : Int32) (mw2 : Int32) (mw3 : Int32) (mw4 : Int32) (mw5 : Int32) (mw6 : Int32) (mw7 : Int32) (mw8 : Int32) (mw9 : Int32) (mw10 : Int32) (mw11 : Int32) : Met l yX5_reopen (.code yX5_reopen cX5_reopen 3 none :: Gw) ({ frames := 0, cells := 0, slots := 0, locals := 0 }) (va_Pc [.ref m0, .int 1, .int 4] (mpre D [(aI, .int), (aL, .long), (aZ, .boolean)] [(m0, .inr (5, [.int mthrown, .int (nI nf), .ref ah, .int mgap, .int mcars, .int mdark, .int msteps, .ref a_places, .ref a_speeds, .ref a_most, .ref a_gains, .ref a_brakes, .ref a_slows, .ref a_rides, .ref a_doors, .ref a_doorPlaces, .ref a_opened, .ref a_wide, .ref a_holds, .ref a_loads, .ref a_mostLoads, .ref a_beams, .ref a_contacts, .ref a_fires, .ref a_ways, .ref a_calls, .ref a_callCounts, .ref a_wears])), (a_doors, .inl (aI, 2, .inl (arL [mdoors0, mdoors1]))), (a_wears, .inl (aI, 12, .inl (arL [mw0, mw1, mw2, mw3, mw4, mw5, mw6, mw7, mw8, mw9, mw10, mw11])))] sz)) ((fun A : Nat → Prop => va_Qv (fun (u : Unit) => F_m_reopen_14 = ()) (mpst D A (fun (u : Unit) => [(m0, .inr (5, [.int mthrown, .int (nI nf), .ref ah, .int mgap, .int mcars, .int mdark, .int msteps, .ref a_places, .ref a_speeds, .ref a_most, .ref a_gains, .ref a_brakes, .ref a_slows, .ref a_rides, .ref a_doors, .ref a_doorPlaces, .ref a_opened, .ref a_wide, .ref a_holds, .ref a_loads, .ref a_mostLoads, .ref a_beams, .ref a_contacts, .ref a_fires, .ref a_ways, .ref a_calls, .ref a_callCounts, .ref a_wears])), (a_doors, .inl (aI, 2, .inl (arL [mdoors0, 1]))), (a_wears, .inl (aI, 12, .inl (arL [mw0, mw1, mw2, mw3, mw4, mw5, mw6, mw7, mw8, mw9, (mw10 + 1), mw11])))])) A) (va_A ([(m0, .inr (5, [.int mthrown, .int (nI nf), .ref ah, .int mgap, .int mcars, .int mdark, .int msteps, .ref a_places, .ref a_speeds, .ref a_most, .ref a_gains, .ref a_brakes, .ref a_slows, .ref a_rides, .ref a_doors, .ref a_doorPlaces, .ref a_opened, .ref a_wide, .ref a_holds, .ref a_loads, .ref a_mostLoads, .ref a_beams, .ref a_contacts, .ref a_fires, .ref a_ways, .ref a_calls, .ref a_callCounts, .ref a_wears])), (a_doors, .inl (aI, 2, .inl (arL [mdoors0, mdoors1]))), (a_wears, .inl (aI, 12, .inl (arL [mw0, mw1, mw2, mw3, mw4, mw5, mw6, mw7, mw8, mw9, mw10, mw11])))]) sz)) 0 0 (va_A ([(m0, .inr (5, [.int mthrown, .int (nI nf), .ref ah, .int mgap, .int mcars, .int mdark, .int msteps, .ref a_places, .ref a_speeds, .ref a_most, .ref a_gains, .ref a_brakes, .ref a_slows, .ref a_rides, .ref a_doors, .ref a_doorPlaces, .ref a_opened, .ref a_wide, .ref a_holds, .ref a_loads, .ref a_mostLoads, .ref a_beams, .ref a_contacts, .ref a_fires, .ref a_ways, .ref a_calls, .ref a_callCounts, .ref a_wears])), (a_doors, .inl (aI, 2, .inl (arL [mdoors0, mdoors1]))), (a_wears, .inl (aI, 12, .inl (arL [mw0, mw1, mw2, mw3, mw4, mw5, mw6, mw7, mw8, mw9, mw10, mw11])))]) sz) := by
  refine en (cc := cX5_reopen) (maxL := 3) (ret := none) (Qc := (fun A : Nat → Prop => va_Qv (fun (u : Unit) => F_m_reopen_14 = ()) (mpst D A (fun (u : Unit) => [(m0, .inr (5, [.int mthrown, .int (nI nf), .ref ah, .int mgap, .int mcars, .int mdark, .int msteps, .ref a_places, .ref a_speeds, .ref a_most, .ref a_gains, .ref a_brakes, .ref a_slows, .ref a_rides, .ref a_doors, .ref a_doorPlaces, .ref a_opened, .ref a_wide, .ref a_holds, .ref a_loads, .ref a_mostLoads, .ref a_beams, .ref a_contacts, .ref a_fires, .ref a_ways, .ref a_calls, .ref a_callCounts, .ref a_wears])), (a_doors, .inl (aI, 2, .inl (arL [mdoors0, 1]))), (a_wears, .inl (aI, 12, .inl (arL [mw0, mw1, mw2, mw3, mw4, mw5, mw6, mw7, mw8, mw9, (mw10 + 1), mw11])))])) A)) (by decide) rfl (Nat.le_of_ble_eq_true rfl) ?_
  intro p e s m args below meth c A ls Q hQ hx hb hr hts hown hlk hnm hml hA hS hP hK hD hE hl
  have hown : s.vm.findClass RX5 = some m.cls := hown
  have hl : lv_has ls 3 [(0, .ref m0), (1, .int 1), (2, .int 4)] := hl
  have hG := F_m_reopen_14_u
  refine lv_aload_n hx hb dX5_reopen_0 rfl (lv_at hl 0 rfl) ?_
  refine va_get (D := D) (ci := 5) (v := .ref a_doors) (C := RX5) (T := TX5) (N := 28) hx hb hts inX5 hown hK hP 0 rfl rfl 14 (by decide) (hts _ (mG w_650)) (fun _ h9 => h9) rfl dX5_reopen_1 ?_
  refine lv_iload_n hx hb dX5_reopen_4 rfl (lv_at hl 1 rfl) ?_
  refine lv_iconst (v := 1) hx hb dX5_reopen_5 (by decide) ?_
  refine my_iast (k := 1) hx hb hK hP hD hS 1 0 rfl rfl (by decide) (Nat.le_of_ble_eq_true rfl) dX5_reopen_6 (fun H locs hP hD hS => ?_)
  have hP : va_P D vwCl [(m0, .inr (5, [.int mthrown, .int (nI nf), .ref ah, .int mgap, .int mcars, .int mdark, .int msteps, .ref a_places, .ref a_speeds, .ref a_most, .ref a_gains, .ref a_brakes, .ref a_slows, .ref a_rides, .ref a_doors, .ref a_doorPlaces, .ref a_opened, .ref a_wide, .ref a_holds, .ref a_loads, .ref a_mostLoads, .ref a_beams, .ref a_contacts, .ref a_fires, .ref a_ways, .ref a_calls, .ref a_callCounts, .ref a_wears])), (a_doors, .inl (aI, 2, .inl (arL [mdoors0, 1]))), (a_wears, .inl (aI, 12, .inl (arL [mw0, mw1, mw2, mw3, mw4, mw5, mw6, mw7, mw8, mw9, mw10, mw11])))] H := hP
  have hD : va_D A [(m0, .inr (5, [.int mthrown, .int (nI nf), .ref ah, .int mgap, .int mcars, .int mdark, .int msteps, .ref a_places, .ref a_speeds, .ref a_most, .ref a_gains, .ref a_brakes, .ref a_slows, .ref a_rides, .ref a_doors, .ref a_doorPlaces, .ref a_opened, .ref a_wide, .ref a_holds, .ref a_loads, .ref a_mostLoads, .ref a_beams, .ref a_contacts, .ref a_fires, .ref a_ways, .ref a_calls, .ref a_callCounts, .ref a_wears])), (a_doors, .inl (aI, 2, .inl (arL [mdoors0, 1]))), (a_wears, .inl (aI, 12, .inl (arL [mw0, mw1, mw2, mw3, mw4, mw5, mw6, mw7, mw8, mw9, mw10, mw11])))] := hD
  refine lv_aload_n hx hb dX5_reopen_7 rfl (lv_at hl 0 rfl) ?_
  refine va_get (D := D) (ci := 5) (v := .ref a_wears) (C := RX5) (T := TX5) (N := 28) hx hb hts inX5 hown hK hP 0 rfl rfl 27 (by decide) (hts _ (mG w_663)) (fun _ h9 => h9) rfl dX5_reopen_8 ?_
  refine lv_bipush (v := 6) hx hb dX5_reopen_11 (by decide) ?_
  refine lv_iload_n hx hb dX5_reopen_13 rfl (lv_at hl 1 rfl) ?_
  refine lv_imul hx hb dX5_reopen_14 ?_
  refine lv_topi (fun y_1 hy_1 => ?_)
  obtain rfl : y_1 = 6 := hy_1.trans (by decide)
  refine lv_iload_n hx hb dX5_reopen_15 rfl (lv_at hl 2 rfl) ?_
  refine lv_iadd hx hb dX5_reopen_16 ?_
  refine lv_topi (fun y_2 hy_2 => ?_)
  obtain rfl : y_2 = 10 := hy_2.trans (by decide)
  refine lv_dup2_11 hx hb dX5_reopen_17 rfl rfl ?_
  refine my_iald (v := mw10) (k := 10) hx hb hK hP 2 0 rfl rfl (by decide) (by decide) rfl dX5_reopen_18 ?_
  refine lv_iconst (v := 1) hx hb dX5_reopen_19 (by decide) ?_
  refine lv_iadd hx hb dX5_reopen_20 ?_
  refine my_iast (k := 10) hx hb hK hP hD hS 2 0 rfl rfl (by decide) (Nat.le_of_ble_eq_true rfl) dX5_reopen_21 (fun H locs hP hD hS => ?_)
  have hP : va_P D vwCl [(m0, .inr (5, [.int mthrown, .int (nI nf), .ref ah, .int mgap, .int mcars, .int mdark, .int msteps, .ref a_places, .ref a_speeds, .ref a_most, .ref a_gains, .ref a_brakes, .ref a_slows, .ref a_rides, .ref a_doors, .ref a_doorPlaces, .ref a_opened, .ref a_wide, .ref a_holds, .ref a_loads, .ref a_mostLoads, .ref a_beams, .ref a_contacts, .ref a_fires, .ref a_ways, .ref a_calls, .ref a_callCounts, .ref a_wears])), (a_doors, .inl (aI, 2, .inl (arL [mdoors0, 1]))), (a_wears, .inl (aI, 12, .inl (arL [mw0, mw1, mw2, mw3, mw4, mw5, mw6, mw7, mw8, mw9, (mw10 + 1), mw11])))] H := hP
  have hD : va_D A [(m0, .inr (5, [.int mthrown, .int (nI nf), .ref ah, .int mgap, .int mcars, .int mdark, .int msteps, .ref a_places, .ref a_speeds, .ref a_most, .ref a_gains, .ref a_brakes, .ref a_slows, .ref a_rides, .ref a_doors, .ref a_doorPlaces, .ref a_opened, .ref a_wide, .ref a_holds, .ref a_loads, .ref a_mostLoads, .ref a_beams, .ref a_contacts, .ref a_fires, .ref a_ways, .ref a_calls, .ref a_callCounts, .ref a_wears])), (a_doors, .inl (aI, 2, .inl (arL [mdoors0, 1]))), (a_wears, .inl (aI, 12, .inl (arL [mw0, mw1, mw2, mw3, mw4, mw5, mw6, mw7, mw8, mw9, (mw10 + 1), mw11])))] := hD
  have hP := hP.sub (ws' := [(m0, .inr (5, [.int mthrown, .int (nI nf), .ref ah, .int mgap, .int mcars, .int mdark, .int msteps, .ref a_places, .ref a_speeds, .ref a_most, .ref a_gains, .ref a_brakes, .ref a_slows, .ref a_rides, .ref a_doors, .ref a_doorPlaces, .ref a_opened, .ref a_wide, .ref a_holds, .ref a_loads, .ref a_mostLoads, .ref a_beams, .ref a_contacts, .ref a_fires, .ref a_ways, .ref a_calls, .ref a_callCounts, .ref a_wears])), (a_doors, .inl (aI, 2, .inl (arL [mdoors0, 1]))), (a_wears, .inl (aI, 12, .inl (arL [mw0, mw1, mw2, mw3, mw4, mw5, mw6, mw7, mw8, mw9, (mw10 + 1), mw11])))]) [0, 1, 2] rfl
  have hD := hD.sub (ws' := [(m0, .inr (5, [.int mthrown, .int (nI nf), .ref ah, .int mgap, .int mcars, .int mdark, .int msteps, .ref a_places, .ref a_speeds, .ref a_most, .ref a_gains, .ref a_brakes, .ref a_slows, .ref a_rides, .ref a_doors, .ref a_doorPlaces, .ref a_opened, .ref a_wide, .ref a_holds, .ref a_loads, .ref a_mostLoads, .ref a_beams, .ref a_contacts, .ref a_fires, .ref a_ways, .ref a_calls, .ref a_callCounts, .ref a_wears])), (a_doors, .inl (aI, 2, .inl (arL [mdoors0, 1]))), (a_wears, .inl (aI, 12, .inl (arL [mw0, mw1, mw2, mw3, mw4, mw5, mw6, mw7, mw8, mw9, (mw10 + 1), mw11])))]) [0, 1, 2] (by decide) rfl
  exact rt_v hQ hx hb hr () hG hP hD hS (Nat.le_of_ble_eq_true rfl) (Nat.le_of_ble_eq_true rfl) dX5_reopen_22 hlk
theorem dX5_in_0 : decode cX5_in 0 = .ok (.iload_n 0, 1) := by decide +kernel
theorem dX5_in_1 : decode cX5_in 1 = .ok (.iload_n 1, 1) := by decide +kernel
theorem dX5_in_2 : decode cX5_in 2 = .ok (.if_icmp .lt 12, 3) := by decide +kernel
theorem dX5_in_5 : decode cX5_in 5 = .ok (.iload_n 0, 1) := by decide +kernel
theorem dX5_in_6 : decode cX5_in 6 = .ok (.iload_n 2, 1) := by decide +kernel
theorem dX5_in_7 : decode cX5_in 7 = .ok (.if_icmp .gt 7, 3) := by decide +kernel
theorem dX5_in_10 : decode cX5_in 10 = .ok (.iconst 1, 1) := by decide +kernel
theorem dX5_in_11 : decode cX5_in 11 = .ok (.goto 4, 3) := by decide +kernel
theorem dX5_in_14 : decode cX5_in 14 = .ok (.iconst 0, 1) := by decide +kernel
theorem dX5_in_15 : decode cX5_in 15 = .ok (.ireturn, 1) := by decide +kernel
def F_m_in (p0 : Int32) (p1 : Int32) (p2 : Int32) : Int32 :=
  if p0 < p1 then
    0
  else
    if p2 < p0 then
      0
    else
      1
theorem F_m_in_u (p0 : Int32) (p1 : Int32) (p2 : Int32) : F_m_in p0 p1 p2 =
  (if p0 < p1 then
    0
  else
    if p2 < p0 then
      0
    else
      1) := rfl
set_option maxHeartbeats 4000000 in
set_option maxRecDepth 100000 in
theorem c_m_in (l : Launch) (D : va_G) (aI aL aZ : ClassId) (sz : Nat) (p0 : Int32) (p1 : Int32) (p2 : Int32) : Met l yX5_in (.code yX5_in cX5_in 3 (some .boolean) :: Gw) ({ frames := 0, cells := 0, slots := 0, locals := 0 }) (va_Pc [.int p0, .int p1, .int p2] (mpre D [(aI, .int), (aL, .long), (aZ, .boolean)] [] sz)) ((fun A : Nat → Prop => va_Qi (fun (r : Int32) (u : Unit) => F_m_in p0 p1 p2 = r ∧ nb r) (mpst D A (fun (u : Unit) => [])) A) (va_A ([]) sz)) 0 0 (va_A ([]) sz) := by
  refine en (cc := cX5_in) (maxL := 3) (ret := (some .boolean)) (Qc := (fun A : Nat → Prop => va_Qi (fun (r : Int32) (u : Unit) => F_m_in p0 p1 p2 = r ∧ nb r) (mpst D A (fun (u : Unit) => [])) A)) (by decide) rfl (Nat.le_of_ble_eq_true rfl) ?_
  intro p e s m args below meth c A ls Q hQ hx hb hr hts hown hlk hnm hml hA hS hP hK hD hE hl
  have hown : s.vm.findClass RX5 = some m.cls := hown
  have hl : lv_has ls 3 [(0, .int p0), (1, .int p1), (2, .int p2)] := hl
  have hG := F_m_in_u p0 p1 p2
  refine lv_iload_n hx hb dX5_in_0 rfl (lv_at hl 0 rfl) ?_
  refine lv_iload_n hx hb dX5_in_1 rfl (lv_at hl 1 rfl) ?_
  refine lv_icmp_lt (tgt := 14) hx hb dX5_in_2 (by decide) (fun c_1 => ?_) (fun c_1 => ?_)
  · have hG := hG.trans (if_pos c_1)
    refine lv_iconst (v := 0) hx hb dX5_in_14 (by decide) ?_
    have hP := hP.sub (ws' := []) [] rfl
    have hD := hD.sub (ws' := []) [] (by decide) rfl
    exact rt_z hQ hx hb hr (nb_n (Or.inl rfl)) () ⟨hG, (Or.inl rfl)⟩ hP hD hS (Nat.le_of_ble_eq_true rfl) (Nat.le_of_ble_eq_true rfl) dX5_in_15 hlk
  · have hG := hG.trans (if_neg c_1)
    refine lv_iload_n hx hb dX5_in_5 rfl (lv_at hl 0 rfl) ?_
    refine lv_iload_n hx hb dX5_in_6 rfl (lv_at hl 2 rfl) ?_
    refine lv_icmp_gt (tgt := 14) hx hb dX5_in_7 (by decide) (fun c_2 => ?_) (fun c_2 => ?_)
    · have hG := hG.trans (if_pos c_2)
      refine lv_iconst (v := 0) hx hb dX5_in_14 (by decide) ?_
      have hP := hP.sub (ws' := []) [] rfl
      have hD := hD.sub (ws' := []) [] (by decide) rfl
      exact rt_z hQ hx hb hr (nb_n (Or.inl rfl)) () ⟨hG, (Or.inl rfl)⟩ hP hD hS (Nat.le_of_ble_eq_true rfl) (Nat.le_of_ble_eq_true rfl) dX5_in_15 hlk
    · have hG := hG.trans (if_neg c_2)
      refine lv_iconst (v := 1) hx hb dX5_in_10 (by decide) ?_
      refine lv_goto (tgt := 15) hx hb dX5_in_11 (by decide) ?_
      have hP := hP.sub (ws' := []) [] rfl
      have hD := hD.sub (ws' := []) [] (by decide) rfl
      exact rt_z hQ hx hb hr (nb_n (Or.inr rfl)) () ⟨hG, (Or.inr rfl)⟩ hP hD hS (Nat.le_of_ble_eq_true rfl) (Nat.le_of_ble_eq_true rfl) dX5_in_15 hlk
theorem dX5_isFloor_0 : decode cX5_isFloor 0 = .ok (.iload_n 1, 1) := by decide +kernel
theorem dX5_isFloor_1 : decode cX5_isFloor 1 = .ok (.ifCond .lt 15, 3) := by decide +kernel
theorem dX5_isFloor_4 : decode cX5_isFloor 4 = .ok (.iload_n 1, 1) := by decide +kernel
theorem dX5_isFloor_5 : decode cX5_isFloor 5 = .ok (.aload_n 0, 1) := by decide +kernel
theorem dX5_isFloor_6 : decode cX5_isFloor 6 = .ok (.getfield 81, 3) := by decide +kernel
theorem dX5_isFloor_9 : decode cX5_isFloor 9 = .ok (.if_icmp .ge 7, 3) := by decide +kernel
theorem dX5_isFloor_12 : decode cX5_isFloor 12 = .ok (.iconst 1, 1) := by decide +kernel
theorem dX5_isFloor_13 : decode cX5_isFloor 13 = .ok (.goto 4, 3) := by decide +kernel
theorem dX5_isFloor_16 : decode cX5_isFloor 16 = .ok (.iconst 0, 1) := by decide +kernel
theorem dX5_isFloor_17 : decode cX5_isFloor 17 = .ok (.ireturn, 1) := by decide +kernel
def F_m_isFloor (nf : Nat) (p0 : Int32) : Int32 :=
  if p0 < 0 then
    0
  else
    if (nI nf) ≤ p0 then
      0
    else
      1
theorem F_m_isFloor_u (nf : Nat) (p0 : Int32) : F_m_isFloor nf p0 =
  (if p0 < 0 then
    0
  else
    if (nI nf) ≤ p0 then
      0
    else
      1) := rfl
set_option maxHeartbeats 4000000 in
set_option maxRecDepth 100000 in
theorem c_m_isFloor (l : Launch) (D : va_G) (aI aL aZ : ClassId) (sz : Nat) (m0 : Nat) (ah : Nat) (a_places : Nat) (a_speeds : Nat) (a_most : Nat) (a_gains : Nat) (a_brakes : Nat) (a_slows : Nat) (a_rides : Nat) (a_doors : Nat) (a_doorPlaces : Nat) (a_opened : Nat) (a_wide : Nat) (a_holds : Nat) (a_loads : Nat) (a_mostLoads : Nat) (a_beams : Nat) (a_contacts : Nat) (a_fires : Nat) (a_ways : Nat) (a_calls : Nat) (a_callCounts : Nat) (a_wears : Nat) (mthrown : Int32) (nf : Nat) (mgap : Int32) (mcars : Int32) (mdark : Int32) (msteps : Int32) (p0 : Int32) : Met l yX5_isFloor (.code yX5_isFloor cX5_isFloor 2 (some .boolean) :: Gw) ({ frames := 0, cells := 0, slots := 0, locals := 0 }) (va_Pc [.ref m0, .int p0] (mpre D [(aI, .int), (aL, .long), (aZ, .boolean)] [(m0, .inr (5, [.int mthrown, .int (nI nf), .ref ah, .int mgap, .int mcars, .int mdark, .int msteps, .ref a_places, .ref a_speeds, .ref a_most, .ref a_gains, .ref a_brakes, .ref a_slows, .ref a_rides, .ref a_doors, .ref a_doorPlaces, .ref a_opened, .ref a_wide, .ref a_holds, .ref a_loads, .ref a_mostLoads, .ref a_beams, .ref a_contacts, .ref a_fires, .ref a_ways, .ref a_calls, .ref a_callCounts, .ref a_wears]))] sz)) ((fun A : Nat → Prop => va_Qi (fun (r : Int32) (u : Unit) => F_m_isFloor nf p0 = r ∧ nb r) (mpst D A (fun (u : Unit) => [(m0, .inr (5, [.int mthrown, .int (nI nf), .ref ah, .int mgap, .int mcars, .int mdark, .int msteps, .ref a_places, .ref a_speeds, .ref a_most, .ref a_gains, .ref a_brakes, .ref a_slows, .ref a_rides, .ref a_doors, .ref a_doorPlaces, .ref a_opened, .ref a_wide, .ref a_holds, .ref a_loads, .ref a_mostLoads, .ref a_beams, .ref a_contacts, .ref a_fires, .ref a_ways, .ref a_calls, .ref a_callCounts, .ref a_wears]))])) A) (va_A ([(m0, .inr (5, [.int mthrown, .int (nI nf), .ref ah, .int mgap, .int mcars, .int mdark, .int msteps, .ref a_places, .ref a_speeds, .ref a_most, .ref a_gains, .ref a_brakes, .ref a_slows, .ref a_rides, .ref a_doors, .ref a_doorPlaces, .ref a_opened, .ref a_wide, .ref a_holds, .ref a_loads, .ref a_mostLoads, .ref a_beams, .ref a_contacts, .ref a_fires, .ref a_ways, .ref a_calls, .ref a_callCounts, .ref a_wears]))]) sz)) 0 0 (va_A ([(m0, .inr (5, [.int mthrown, .int (nI nf), .ref ah, .int mgap, .int mcars, .int mdark, .int msteps, .ref a_places, .ref a_speeds, .ref a_most, .ref a_gains, .ref a_brakes, .ref a_slows, .ref a_rides, .ref a_doors, .ref a_doorPlaces, .ref a_opened, .ref a_wide, .ref a_holds, .ref a_loads, .ref a_mostLoads, .ref a_beams, .ref a_contacts, .ref a_fires, .ref a_ways, .ref a_calls, .ref a_callCounts, .ref a_wears]))]) sz) := by
  refine en (cc := cX5_isFloor) (maxL := 2) (ret := (some .boolean)) (Qc := (fun A : Nat → Prop => va_Qi (fun (r : Int32) (u : Unit) => F_m_isFloor nf p0 = r ∧ nb r) (mpst D A (fun (u : Unit) => [(m0, .inr (5, [.int mthrown, .int (nI nf), .ref ah, .int mgap, .int mcars, .int mdark, .int msteps, .ref a_places, .ref a_speeds, .ref a_most, .ref a_gains, .ref a_brakes, .ref a_slows, .ref a_rides, .ref a_doors, .ref a_doorPlaces, .ref a_opened, .ref a_wide, .ref a_holds, .ref a_loads, .ref a_mostLoads, .ref a_beams, .ref a_contacts, .ref a_fires, .ref a_ways, .ref a_calls, .ref a_callCounts, .ref a_wears]))])) A)) (by decide) rfl (Nat.le_of_ble_eq_true rfl) ?_
  intro p e s m args below meth c A ls Q hQ hx hb hr hts hown hlk hnm hml hA hS hP hK hD hE hl
  have hown : s.vm.findClass RX5 = some m.cls := hown
  have hl : lv_has ls 2 [(0, .ref m0), (1, .int p0)] := hl
  have hG := F_m_isFloor_u nf p0
  refine lv_iload_n hx hb dX5_isFloor_0 rfl (lv_at hl 1 rfl) ?_
  refine lv_if_lt (tgt := 16) hx hb dX5_isFloor_1 (by decide) (fun c_1 => ?_) (fun c_1 => ?_)
  · have hG := hG.trans (if_pos c_1)
    refine lv_iconst (v := 0) hx hb dX5_isFloor_16 (by decide) ?_
    have hP := hP.sub (ws' := [(m0, .inr (5, [.int mthrown, .int (nI nf), .ref ah, .int mgap, .int mcars, .int mdark, .int msteps, .ref a_places, .ref a_speeds, .ref a_most, .ref a_gains, .ref a_brakes, .ref a_slows, .ref a_rides, .ref a_doors, .ref a_doorPlaces, .ref a_opened, .ref a_wide, .ref a_holds, .ref a_loads, .ref a_mostLoads, .ref a_beams, .ref a_contacts, .ref a_fires, .ref a_ways, .ref a_calls, .ref a_callCounts, .ref a_wears]))]) [0] rfl
    have hD := hD.sub (ws' := [(m0, .inr (5, [.int mthrown, .int (nI nf), .ref ah, .int mgap, .int mcars, .int mdark, .int msteps, .ref a_places, .ref a_speeds, .ref a_most, .ref a_gains, .ref a_brakes, .ref a_slows, .ref a_rides, .ref a_doors, .ref a_doorPlaces, .ref a_opened, .ref a_wide, .ref a_holds, .ref a_loads, .ref a_mostLoads, .ref a_beams, .ref a_contacts, .ref a_fires, .ref a_ways, .ref a_calls, .ref a_callCounts, .ref a_wears]))]) [0] (by decide) rfl
    exact rt_z hQ hx hb hr (nb_n (Or.inl rfl)) () ⟨hG, (Or.inl rfl)⟩ hP hD hS (Nat.le_of_ble_eq_true rfl) (Nat.le_of_ble_eq_true rfl) dX5_isFloor_17 hlk
  · have hG := hG.trans (if_neg c_1)
    refine lv_iload_n hx hb dX5_isFloor_4 rfl (lv_at hl 1 rfl) ?_
    refine lv_aload_n hx hb dX5_isFloor_5 rfl (lv_at hl 0 rfl) ?_
    refine va_get (D := D) (ci := 5) (v := .int (nI nf)) (C := RX5) (T := TX5) (N := 28) hx hb hts inX5 hown hK hP 0 rfl rfl 1 (by decide) (hts _ (mG w_637)) (fun _ h9 => h9) rfl dX5_isFloor_6 ?_
    refine lv_icmp_ge (tgt := 16) hx hb dX5_isFloor_9 (by decide) (fun c_2 => ?_) (fun c_2 => ?_)
    · have hG := hG.trans (if_pos c_2)
      refine lv_iconst (v := 0) hx hb dX5_isFloor_16 (by decide) ?_
      have hP := hP.sub (ws' := [(m0, .inr (5, [.int mthrown, .int (nI nf), .ref ah, .int mgap, .int mcars, .int mdark, .int msteps, .ref a_places, .ref a_speeds, .ref a_most, .ref a_gains, .ref a_brakes, .ref a_slows, .ref a_rides, .ref a_doors, .ref a_doorPlaces, .ref a_opened, .ref a_wide, .ref a_holds, .ref a_loads, .ref a_mostLoads, .ref a_beams, .ref a_contacts, .ref a_fires, .ref a_ways, .ref a_calls, .ref a_callCounts, .ref a_wears]))]) [0] rfl
      have hD := hD.sub (ws' := [(m0, .inr (5, [.int mthrown, .int (nI nf), .ref ah, .int mgap, .int mcars, .int mdark, .int msteps, .ref a_places, .ref a_speeds, .ref a_most, .ref a_gains, .ref a_brakes, .ref a_slows, .ref a_rides, .ref a_doors, .ref a_doorPlaces, .ref a_opened, .ref a_wide, .ref a_holds, .ref a_loads, .ref a_mostLoads, .ref a_beams, .ref a_contacts, .ref a_fires, .ref a_ways, .ref a_calls, .ref a_callCounts, .ref a_wears]))]) [0] (by decide) rfl
      exact rt_z hQ hx hb hr (nb_n (Or.inl rfl)) () ⟨hG, (Or.inl rfl)⟩ hP hD hS (Nat.le_of_ble_eq_true rfl) (Nat.le_of_ble_eq_true rfl) dX5_isFloor_17 hlk
    · have hG := hG.trans (if_neg c_2)
      refine lv_iconst (v := 1) hx hb dX5_isFloor_12 (by decide) ?_
      refine lv_goto (tgt := 17) hx hb dX5_isFloor_13 (by decide) ?_
      have hP := hP.sub (ws' := [(m0, .inr (5, [.int mthrown, .int (nI nf), .ref ah, .int mgap, .int mcars, .int mdark, .int msteps, .ref a_places, .ref a_speeds, .ref a_most, .ref a_gains, .ref a_brakes, .ref a_slows, .ref a_rides, .ref a_doors, .ref a_doorPlaces, .ref a_opened, .ref a_wide, .ref a_holds, .ref a_loads, .ref a_mostLoads, .ref a_beams, .ref a_contacts, .ref a_fires, .ref a_ways, .ref a_calls, .ref a_callCounts, .ref a_wears]))]) [0] rfl
      have hD := hD.sub (ws' := [(m0, .inr (5, [.int mthrown, .int (nI nf), .ref ah, .int mgap, .int mcars, .int mdark, .int msteps, .ref a_places, .ref a_speeds, .ref a_most, .ref a_gains, .ref a_brakes, .ref a_slows, .ref a_rides, .ref a_doors, .ref a_doorPlaces, .ref a_opened, .ref a_wide, .ref a_holds, .ref a_loads, .ref a_mostLoads, .ref a_beams, .ref a_contacts, .ref a_fires, .ref a_ways, .ref a_calls, .ref a_callCounts, .ref a_wears]))]) [0] (by decide) rfl
      exact rt_z hQ hx hb hr (nb_n (Or.inr rfl)) () ⟨hG, (Or.inr rfl)⟩ hP hD hS (Nat.le_of_ble_eq_true rfl) (Nat.le_of_ble_eq_true rfl) dX5_isFloor_17 hlk
theorem dX5_goes_0 : decode cX5_goes 0 = .ok (.aload_n 0, 1) := by decide +kernel
theorem dX5_goes_1 : decode cX5_goes 1 = .ok (.iload_n 1, 1) := by decide +kernel
theorem dX5_goes_2 : decode cX5_goes 2 = .ok (.ifCond .eq 15, 3) := by decide +kernel
theorem dX5_goes_5 : decode cX5_goes 5 = .ok (.iload_n 2, 1) := by decide +kernel
theorem dX5_goes_6 : decode cX5_goes 6 = .ok (.ifCond .eq 7, 3) := by decide +kernel
theorem dX5_goes_9 : decode cX5_goes 9 = .ok (.iconst 0, 1) := by decide +kernel
theorem dX5_goes_10 : decode cX5_goes 10 = .ok (.goto 8, 3) := by decide +kernel
theorem dX5_goes_13 : decode cX5_goes 13 = .ok (.iconst 2, 1) := by decide +kernel
theorem dX5_goes_14 : decode cX5_goes 14 = .ok (.goto 4, 3) := by decide +kernel
theorem dX5_goes_17 : decode cX5_goes 17 = .ok (.iconst 1, 1) := by decide +kernel
theorem dX5_goes_18 : decode cX5_goes 18 = .ok (.putfield 84, 3) := by decide +kernel
theorem dX5_goes_21 : decode cX5_goes 21 = .ok (.aload_n 0, 1) := by decide +kernel
theorem dX5_goes_22 : decode cX5_goes 22 = .ok (.getfield 84, 3) := by decide +kernel
theorem dX5_goes_25 : decode cX5_goes 25 = .ok (.ifCond .ne 7, 3) := by decide +kernel
theorem dX5_goes_28 : decode cX5_goes 28 = .ok (.iconst 1, 1) := by decide +kernel
theorem dX5_goes_29 : decode cX5_goes 29 = .ok (.goto 4, 3) := by decide +kernel
theorem dX5_goes_32 : decode cX5_goes 32 = .ok (.iconst 0, 1) := by decide +kernel
theorem dX5_goes_33 : decode cX5_goes 33 = .ok (.ireturn, 1) := by decide +kernel
def F_m_goes_11 : Int32 :=
  1
theorem F_m_goes_11_u : F_m_goes_11 =
  (1) := rfl
set_option maxHeartbeats 4000000 in
set_option maxRecDepth 100000 in
theorem c_m_goes_11 (l : Launch) (D : va_G) (aI aL aZ : ClassId) (sz : Nat) (m0 : Nat) (ah : Nat) (a_places : Nat) (a_speeds : Nat) (a_most : Nat) (a_gains : Nat) (a_brakes : Nat) (a_slows : Nat) (a_rides : Nat) (a_doors : Nat) (a_doorPlaces : Nat) (a_opened : Nat) (a_wide : Nat) (a_holds : Nat) (a_loads : Nat) (a_mostLoads : Nat) (a_beams : Nat) (a_contacts : Nat) (a_fires : Nat) (a_ways : Nat) (a_calls : Nat) (a_callCounts : Nat) (a_wears : Nat) (mthrown : Int32) (nf : Nat) (mgap : Int32) (mcars : Int32) (mdark : Int32) (msteps : Int32) : Met l yX5_goes (.code yX5_goes cX5_goes 3 (some .boolean) :: Gw) ({ frames := 0, cells := 0, slots := 0, locals := 0 }) (va_Pc [.ref m0, .int 1, .int 1] (mpre D [(aI, .int), (aL, .long), (aZ, .boolean)] [(m0, .inr (5, [.int mthrown, .int (nI nf), .ref ah, .int mgap, .int mcars, .int mdark, .int msteps, .ref a_places, .ref a_speeds, .ref a_most, .ref a_gains, .ref a_brakes, .ref a_slows, .ref a_rides, .ref a_doors, .ref a_doorPlaces, .ref a_opened, .ref a_wide, .ref a_holds, .ref a_loads, .ref a_mostLoads, .ref a_beams, .ref a_contacts, .ref a_fires, .ref a_ways, .ref a_calls, .ref a_callCounts, .ref a_wears]))] sz)) ((fun A : Nat → Prop => va_Qi (fun (r : Int32) (u : Unit) => r = 1 ∧ (F_m_goes_11 = r ∧ nb r)) (mpst D A (fun (u : Unit) => [(m0, .inr (5, [.int 0, .int (nI nf), .ref ah, .int mgap, .int mcars, .int mdark, .int msteps, .ref a_places, .ref a_speeds, .ref a_most, .ref a_gains, .ref a_brakes, .ref a_slows, .ref a_rides, .ref a_doors, .ref a_doorPlaces, .ref a_opened, .ref a_wide, .ref a_holds, .ref a_loads, .ref a_mostLoads, .ref a_beams, .ref a_contacts, .ref a_fires, .ref a_ways, .ref a_calls, .ref a_callCounts, .ref a_wears]))])) A) (va_A ([(m0, .inr (5, [.int mthrown, .int (nI nf), .ref ah, .int mgap, .int mcars, .int mdark, .int msteps, .ref a_places, .ref a_speeds, .ref a_most, .ref a_gains, .ref a_brakes, .ref a_slows, .ref a_rides, .ref a_doors, .ref a_doorPlaces, .ref a_opened, .ref a_wide, .ref a_holds, .ref a_loads, .ref a_mostLoads, .ref a_beams, .ref a_contacts, .ref a_fires, .ref a_ways, .ref a_calls, .ref a_callCounts, .ref a_wears]))]) sz)) 0 0 (va_A ([(m0, .inr (5, [.int mthrown, .int (nI nf), .ref ah, .int mgap, .int mcars, .int mdark, .int msteps, .ref a_places, .ref a_speeds, .ref a_most, .ref a_gains, .ref a_brakes, .ref a_slows, .ref a_rides, .ref a_doors, .ref a_doorPlaces, .ref a_opened, .ref a_wide, .ref a_holds, .ref a_loads, .ref a_mostLoads, .ref a_beams, .ref a_contacts, .ref a_fires, .ref a_ways, .ref a_calls, .ref a_callCounts, .ref a_wears]))]) sz) := by
  refine en (cc := cX5_goes) (maxL := 3) (ret := (some .boolean)) (Qc := (fun A : Nat → Prop => va_Qi (fun (r : Int32) (u : Unit) => r = 1 ∧ (F_m_goes_11 = r ∧ nb r)) (mpst D A (fun (u : Unit) => [(m0, .inr (5, [.int 0, .int (nI nf), .ref ah, .int mgap, .int mcars, .int mdark, .int msteps, .ref a_places, .ref a_speeds, .ref a_most, .ref a_gains, .ref a_brakes, .ref a_slows, .ref a_rides, .ref a_doors, .ref a_doorPlaces, .ref a_opened, .ref a_wide, .ref a_holds, .ref a_loads, .ref a_mostLoads, .ref a_beams, .ref a_contacts, .ref a_fires, .ref a_ways, .ref a_calls, .ref a_callCounts, .ref a_wears]))])) A)) (by decide) rfl (Nat.le_of_ble_eq_true rfl) ?_
  intro p e s m args below meth c A ls Q hQ hx hb hr hts hown hlk hnm hml hA hS hP hK hD hE hl
  have hown : s.vm.findClass RX5 = some m.cls := hown
  have hl : lv_has ls 3 [(0, .ref m0), (1, .int 1), (2, .int 1)] := hl
  have hG := F_m_goes_11_u
  refine lv_aload_n hx hb dX5_goes_0 rfl (lv_at hl 0 rfl) ?_
  refine lv_iload_n hx hb dX5_goes_1 rfl (lv_at hl 1 rfl) ?_
  refine lv_if_eq (tgt := 17) hx hb dX5_goes_2 (by decide) (fun c9 => absurd c9 (by decide)) (fun _ => ?_)
  refine lv_iload_n hx hb dX5_goes_5 rfl (lv_at hl 2 rfl) ?_
  refine lv_if_eq (tgt := 13) hx hb dX5_goes_6 (by decide) (fun c9 => absurd c9 (by decide)) (fun _ => ?_)
  refine lv_iconst (v := 0) hx hb dX5_goes_9 (by decide) ?_
  refine lv_goto (tgt := 18) hx hb dX5_goes_10 (by decide) ?_
  refine va_put (D := D) (ci := 5) (v := .int 0) (ty := .int) (C := RX5) (T := TX5) (N := 28) hx hb hts inX5 tyX5 tyX5_ok nmX5 hown hK hP hD hS 0 rfl rfl 0 (by decide) (hts _ (mG w_636)) (fun _ h9 => h9) rfl (by decide +kernel) rfl rfl (Nat.le_of_ble_eq_true rfl) dX5_goes_18 (fun H locs hP hD hS => ?_)
  have hP : va_P D vwCl [(m0, .inr (5, [.int 0, .int (nI nf), .ref ah, .int mgap, .int mcars, .int mdark, .int msteps, .ref a_places, .ref a_speeds, .ref a_most, .ref a_gains, .ref a_brakes, .ref a_slows, .ref a_rides, .ref a_doors, .ref a_doorPlaces, .ref a_opened, .ref a_wide, .ref a_holds, .ref a_loads, .ref a_mostLoads, .ref a_beams, .ref a_contacts, .ref a_fires, .ref a_ways, .ref a_calls, .ref a_callCounts, .ref a_wears]))] H := hP
  have hD : va_D A [(m0, .inr (5, [.int 0, .int (nI nf), .ref ah, .int mgap, .int mcars, .int mdark, .int msteps, .ref a_places, .ref a_speeds, .ref a_most, .ref a_gains, .ref a_brakes, .ref a_slows, .ref a_rides, .ref a_doors, .ref a_doorPlaces, .ref a_opened, .ref a_wide, .ref a_holds, .ref a_loads, .ref a_mostLoads, .ref a_beams, .ref a_contacts, .ref a_fires, .ref a_ways, .ref a_calls, .ref a_callCounts, .ref a_wears]))] := hD
  refine lv_aload_n hx hb dX5_goes_21 rfl (lv_at hl 0 rfl) ?_
  refine va_get (D := D) (ci := 5) (v := .int 0) (C := RX5) (T := TX5) (N := 28) hx hb hts inX5 hown hK hP 0 rfl rfl 0 (by decide) (hts _ (mG w_636)) (fun _ h9 => h9) rfl dX5_goes_22 ?_
  refine lv_if_ne (tgt := 32) hx hb dX5_goes_25 (by decide) (fun c9 => absurd c9 (by decide)) (fun _ => ?_)
  refine lv_iconst (v := 1) hx hb dX5_goes_28 (by decide) ?_
  refine lv_goto (tgt := 33) hx hb dX5_goes_29 (by decide) ?_
  have hP := hP.sub (ws' := [(m0, .inr (5, [.int 0, .int (nI nf), .ref ah, .int mgap, .int mcars, .int mdark, .int msteps, .ref a_places, .ref a_speeds, .ref a_most, .ref a_gains, .ref a_brakes, .ref a_slows, .ref a_rides, .ref a_doors, .ref a_doorPlaces, .ref a_opened, .ref a_wide, .ref a_holds, .ref a_loads, .ref a_mostLoads, .ref a_beams, .ref a_contacts, .ref a_fires, .ref a_ways, .ref a_calls, .ref a_callCounts, .ref a_wears]))]) [0] rfl
  have hD := hD.sub (ws' := [(m0, .inr (5, [.int 0, .int (nI nf), .ref ah, .int mgap, .int mcars, .int mdark, .int msteps, .ref a_places, .ref a_speeds, .ref a_most, .ref a_gains, .ref a_brakes, .ref a_slows, .ref a_rides, .ref a_doors, .ref a_doorPlaces, .ref a_opened, .ref a_wide, .ref a_holds, .ref a_loads, .ref a_mostLoads, .ref a_beams, .ref a_contacts, .ref a_fires, .ref a_ways, .ref a_calls, .ref a_callCounts, .ref a_wears]))]) [0] (by decide) rfl
  exact rt_z hQ hx hb hr (nb_n (Or.inr rfl)) () ⟨rfl, ⟨hG, (Or.inr rfl)⟩⟩ hP hD hS (Nat.le_of_ble_eq_true rfl) (Nat.le_of_ble_eq_true rfl) dX5_goes_33 hlk
def F_m_goes_10 : Int32 :=
  0
theorem F_m_goes_10_u : F_m_goes_10 =
  (0) := rfl
set_option maxHeartbeats 4000000 in
set_option maxRecDepth 100000 in
theorem c_m_goes_10 (l : Launch) (D : va_G) (aI aL aZ : ClassId) (sz : Nat) (m0 : Nat) (ah : Nat) (a_places : Nat) (a_speeds : Nat) (a_most : Nat) (a_gains : Nat) (a_brakes : Nat) (a_slows : Nat) (a_rides : Nat) (a_doors : Nat) (a_doorPlaces : Nat) (a_opened : Nat) (a_wide : Nat) (a_holds : Nat) (a_loads : Nat) (a_mostLoads : Nat) (a_beams : Nat) (a_contacts : Nat) (a_fires : Nat) (a_ways : Nat) (a_calls : Nat) (a_callCounts : Nat) (a_wears : Nat) (mthrown : Int32) (nf : Nat) (mgap : Int32) (mcars : Int32) (mdark : Int32) (msteps : Int32) : Met l yX5_goes (.code yX5_goes cX5_goes 3 (some .boolean) :: Gw) ({ frames := 0, cells := 0, slots := 0, locals := 0 }) (va_Pc [.ref m0, .int 1, .int 0] (mpre D [(aI, .int), (aL, .long), (aZ, .boolean)] [(m0, .inr (5, [.int mthrown, .int (nI nf), .ref ah, .int mgap, .int mcars, .int mdark, .int msteps, .ref a_places, .ref a_speeds, .ref a_most, .ref a_gains, .ref a_brakes, .ref a_slows, .ref a_rides, .ref a_doors, .ref a_doorPlaces, .ref a_opened, .ref a_wide, .ref a_holds, .ref a_loads, .ref a_mostLoads, .ref a_beams, .ref a_contacts, .ref a_fires, .ref a_ways, .ref a_calls, .ref a_callCounts, .ref a_wears]))] sz)) ((fun A : Nat → Prop => va_Qi (fun (r : Int32) (u : Unit) => r = 0 ∧ (F_m_goes_10 = r ∧ nb r)) (mpst D A (fun (u : Unit) => [(m0, .inr (5, [.int 2, .int (nI nf), .ref ah, .int mgap, .int mcars, .int mdark, .int msteps, .ref a_places, .ref a_speeds, .ref a_most, .ref a_gains, .ref a_brakes, .ref a_slows, .ref a_rides, .ref a_doors, .ref a_doorPlaces, .ref a_opened, .ref a_wide, .ref a_holds, .ref a_loads, .ref a_mostLoads, .ref a_beams, .ref a_contacts, .ref a_fires, .ref a_ways, .ref a_calls, .ref a_callCounts, .ref a_wears]))])) A) (va_A ([(m0, .inr (5, [.int mthrown, .int (nI nf), .ref ah, .int mgap, .int mcars, .int mdark, .int msteps, .ref a_places, .ref a_speeds, .ref a_most, .ref a_gains, .ref a_brakes, .ref a_slows, .ref a_rides, .ref a_doors, .ref a_doorPlaces, .ref a_opened, .ref a_wide, .ref a_holds, .ref a_loads, .ref a_mostLoads, .ref a_beams, .ref a_contacts, .ref a_fires, .ref a_ways, .ref a_calls, .ref a_callCounts, .ref a_wears]))]) sz)) 0 0 (va_A ([(m0, .inr (5, [.int mthrown, .int (nI nf), .ref ah, .int mgap, .int mcars, .int mdark, .int msteps, .ref a_places, .ref a_speeds, .ref a_most, .ref a_gains, .ref a_brakes, .ref a_slows, .ref a_rides, .ref a_doors, .ref a_doorPlaces, .ref a_opened, .ref a_wide, .ref a_holds, .ref a_loads, .ref a_mostLoads, .ref a_beams, .ref a_contacts, .ref a_fires, .ref a_ways, .ref a_calls, .ref a_callCounts, .ref a_wears]))]) sz) := by
  refine en (cc := cX5_goes) (maxL := 3) (ret := (some .boolean)) (Qc := (fun A : Nat → Prop => va_Qi (fun (r : Int32) (u : Unit) => r = 0 ∧ (F_m_goes_10 = r ∧ nb r)) (mpst D A (fun (u : Unit) => [(m0, .inr (5, [.int 2, .int (nI nf), .ref ah, .int mgap, .int mcars, .int mdark, .int msteps, .ref a_places, .ref a_speeds, .ref a_most, .ref a_gains, .ref a_brakes, .ref a_slows, .ref a_rides, .ref a_doors, .ref a_doorPlaces, .ref a_opened, .ref a_wide, .ref a_holds, .ref a_loads, .ref a_mostLoads, .ref a_beams, .ref a_contacts, .ref a_fires, .ref a_ways, .ref a_calls, .ref a_callCounts, .ref a_wears]))])) A)) (by decide) rfl (Nat.le_of_ble_eq_true rfl) ?_
  intro p e s m args below meth c A ls Q hQ hx hb hr hts hown hlk hnm hml hA hS hP hK hD hE hl
  have hown : s.vm.findClass RX5 = some m.cls := hown
  have hl : lv_has ls 3 [(0, .ref m0), (1, .int 1), (2, .int 0)] := hl
  have hG := F_m_goes_10_u
  refine lv_aload_n hx hb dX5_goes_0 rfl (lv_at hl 0 rfl) ?_
  refine lv_iload_n hx hb dX5_goes_1 rfl (lv_at hl 1 rfl) ?_
  refine lv_if_eq (tgt := 17) hx hb dX5_goes_2 (by decide) (fun c9 => absurd c9 (by decide)) (fun _ => ?_)
  refine lv_iload_n hx hb dX5_goes_5 rfl (lv_at hl 2 rfl) ?_
  refine lv_if_eq (tgt := 13) hx hb dX5_goes_6 (by decide) (fun _ => ?_) (fun c9 => absurd c9 (by decide))
  refine lv_iconst (v := 2) hx hb dX5_goes_13 (by decide) ?_
  refine lv_goto (tgt := 18) hx hb dX5_goes_14 (by decide) ?_
  refine va_put (D := D) (ci := 5) (v := .int 2) (ty := .int) (C := RX5) (T := TX5) (N := 28) hx hb hts inX5 tyX5 tyX5_ok nmX5 hown hK hP hD hS 0 rfl rfl 0 (by decide) (hts _ (mG w_636)) (fun _ h9 => h9) rfl (by decide +kernel) rfl rfl (Nat.le_of_ble_eq_true rfl) dX5_goes_18 (fun H locs hP hD hS => ?_)
  have hP : va_P D vwCl [(m0, .inr (5, [.int 2, .int (nI nf), .ref ah, .int mgap, .int mcars, .int mdark, .int msteps, .ref a_places, .ref a_speeds, .ref a_most, .ref a_gains, .ref a_brakes, .ref a_slows, .ref a_rides, .ref a_doors, .ref a_doorPlaces, .ref a_opened, .ref a_wide, .ref a_holds, .ref a_loads, .ref a_mostLoads, .ref a_beams, .ref a_contacts, .ref a_fires, .ref a_ways, .ref a_calls, .ref a_callCounts, .ref a_wears]))] H := hP
  have hD : va_D A [(m0, .inr (5, [.int 2, .int (nI nf), .ref ah, .int mgap, .int mcars, .int mdark, .int msteps, .ref a_places, .ref a_speeds, .ref a_most, .ref a_gains, .ref a_brakes, .ref a_slows, .ref a_rides, .ref a_doors, .ref a_doorPlaces, .ref a_opened, .ref a_wide, .ref a_holds, .ref a_loads, .ref a_mostLoads, .ref a_beams, .ref a_contacts, .ref a_fires, .ref a_ways, .ref a_calls, .ref a_callCounts, .ref a_wears]))] := hD
  refine lv_aload_n hx hb dX5_goes_21 rfl (lv_at hl 0 rfl) ?_
  refine va_get (D := D) (ci := 5) (v := .int 2) (C := RX5) (T := TX5) (N := 28) hx hb hts inX5 hown hK hP 0 rfl rfl 0 (by decide) (hts _ (mG w_636)) (fun _ h9 => h9) rfl dX5_goes_22 ?_
  refine lv_if_ne (tgt := 32) hx hb dX5_goes_25 (by decide) (fun _ => ?_) (fun c9 => absurd c9 (by decide))
  refine lv_iconst (v := 0) hx hb dX5_goes_32 (by decide) ?_
  have hP := hP.sub (ws' := [(m0, .inr (5, [.int 2, .int (nI nf), .ref ah, .int mgap, .int mcars, .int mdark, .int msteps, .ref a_places, .ref a_speeds, .ref a_most, .ref a_gains, .ref a_brakes, .ref a_slows, .ref a_rides, .ref a_doors, .ref a_doorPlaces, .ref a_opened, .ref a_wide, .ref a_holds, .ref a_loads, .ref a_mostLoads, .ref a_beams, .ref a_contacts, .ref a_fires, .ref a_ways, .ref a_calls, .ref a_callCounts, .ref a_wears]))]) [0] rfl
  have hD := hD.sub (ws' := [(m0, .inr (5, [.int 2, .int (nI nf), .ref ah, .int mgap, .int mcars, .int mdark, .int msteps, .ref a_places, .ref a_speeds, .ref a_most, .ref a_gains, .ref a_brakes, .ref a_slows, .ref a_rides, .ref a_doors, .ref a_doorPlaces, .ref a_opened, .ref a_wide, .ref a_holds, .ref a_loads, .ref a_mostLoads, .ref a_beams, .ref a_contacts, .ref a_fires, .ref a_ways, .ref a_calls, .ref a_callCounts, .ref a_wears]))]) [0] (by decide) rfl
  exact rt_z hQ hx hb hr (nb_n (Or.inl rfl)) () ⟨rfl, ⟨hG, (Or.inl rfl)⟩⟩ hP hD hS (Nat.le_of_ble_eq_true rfl) (Nat.le_of_ble_eq_true rfl) dX5_goes_33 hlk
def F_m_goes_00 : Int32 :=
  0
theorem F_m_goes_00_u : F_m_goes_00 =
  (0) := rfl
set_option maxHeartbeats 4000000 in
set_option maxRecDepth 100000 in
theorem c_m_goes_00 (l : Launch) (D : va_G) (aI aL aZ : ClassId) (sz : Nat) (m0 : Nat) (ah : Nat) (a_places : Nat) (a_speeds : Nat) (a_most : Nat) (a_gains : Nat) (a_brakes : Nat) (a_slows : Nat) (a_rides : Nat) (a_doors : Nat) (a_doorPlaces : Nat) (a_opened : Nat) (a_wide : Nat) (a_holds : Nat) (a_loads : Nat) (a_mostLoads : Nat) (a_beams : Nat) (a_contacts : Nat) (a_fires : Nat) (a_ways : Nat) (a_calls : Nat) (a_callCounts : Nat) (a_wears : Nat) (mthrown : Int32) (nf : Nat) (mgap : Int32) (mcars : Int32) (mdark : Int32) (msteps : Int32) : Met l yX5_goes (.code yX5_goes cX5_goes 3 (some .boolean) :: Gw) ({ frames := 0, cells := 0, slots := 0, locals := 0 }) (va_Pc [.ref m0, .int 0, .int 0] (mpre D [(aI, .int), (aL, .long), (aZ, .boolean)] [(m0, .inr (5, [.int mthrown, .int (nI nf), .ref ah, .int mgap, .int mcars, .int mdark, .int msteps, .ref a_places, .ref a_speeds, .ref a_most, .ref a_gains, .ref a_brakes, .ref a_slows, .ref a_rides, .ref a_doors, .ref a_doorPlaces, .ref a_opened, .ref a_wide, .ref a_holds, .ref a_loads, .ref a_mostLoads, .ref a_beams, .ref a_contacts, .ref a_fires, .ref a_ways, .ref a_calls, .ref a_callCounts, .ref a_wears]))] sz)) ((fun A : Nat → Prop => va_Qi (fun (r : Int32) (u : Unit) => r = 0 ∧ (F_m_goes_00 = r ∧ nb r)) (mpst D A (fun (u : Unit) => [(m0, .inr (5, [.int 1, .int (nI nf), .ref ah, .int mgap, .int mcars, .int mdark, .int msteps, .ref a_places, .ref a_speeds, .ref a_most, .ref a_gains, .ref a_brakes, .ref a_slows, .ref a_rides, .ref a_doors, .ref a_doorPlaces, .ref a_opened, .ref a_wide, .ref a_holds, .ref a_loads, .ref a_mostLoads, .ref a_beams, .ref a_contacts, .ref a_fires, .ref a_ways, .ref a_calls, .ref a_callCounts, .ref a_wears]))])) A) (va_A ([(m0, .inr (5, [.int mthrown, .int (nI nf), .ref ah, .int mgap, .int mcars, .int mdark, .int msteps, .ref a_places, .ref a_speeds, .ref a_most, .ref a_gains, .ref a_brakes, .ref a_slows, .ref a_rides, .ref a_doors, .ref a_doorPlaces, .ref a_opened, .ref a_wide, .ref a_holds, .ref a_loads, .ref a_mostLoads, .ref a_beams, .ref a_contacts, .ref a_fires, .ref a_ways, .ref a_calls, .ref a_callCounts, .ref a_wears]))]) sz)) 0 0 (va_A ([(m0, .inr (5, [.int mthrown, .int (nI nf), .ref ah, .int mgap, .int mcars, .int mdark, .int msteps, .ref a_places, .ref a_speeds, .ref a_most, .ref a_gains, .ref a_brakes, .ref a_slows, .ref a_rides, .ref a_doors, .ref a_doorPlaces, .ref a_opened, .ref a_wide, .ref a_holds, .ref a_loads, .ref a_mostLoads, .ref a_beams, .ref a_contacts, .ref a_fires, .ref a_ways, .ref a_calls, .ref a_callCounts, .ref a_wears]))]) sz) := by
  refine en (cc := cX5_goes) (maxL := 3) (ret := (some .boolean)) (Qc := (fun A : Nat → Prop => va_Qi (fun (r : Int32) (u : Unit) => r = 0 ∧ (F_m_goes_00 = r ∧ nb r)) (mpst D A (fun (u : Unit) => [(m0, .inr (5, [.int 1, .int (nI nf), .ref ah, .int mgap, .int mcars, .int mdark, .int msteps, .ref a_places, .ref a_speeds, .ref a_most, .ref a_gains, .ref a_brakes, .ref a_slows, .ref a_rides, .ref a_doors, .ref a_doorPlaces, .ref a_opened, .ref a_wide, .ref a_holds, .ref a_loads, .ref a_mostLoads, .ref a_beams, .ref a_contacts, .ref a_fires, .ref a_ways, .ref a_calls, .ref a_callCounts, .ref a_wears]))])) A)) (by decide) rfl (Nat.le_of_ble_eq_true rfl) ?_
  intro p e s m args below meth c A ls Q hQ hx hb hr hts hown hlk hnm hml hA hS hP hK hD hE hl
  have hown : s.vm.findClass RX5 = some m.cls := hown
  have hl : lv_has ls 3 [(0, .ref m0), (1, .int 0), (2, .int 0)] := hl
  have hG := F_m_goes_00_u
  refine lv_aload_n hx hb dX5_goes_0 rfl (lv_at hl 0 rfl) ?_
  refine lv_iload_n hx hb dX5_goes_1 rfl (lv_at hl 1 rfl) ?_
  refine lv_if_eq (tgt := 17) hx hb dX5_goes_2 (by decide) (fun _ => ?_) (fun c9 => absurd c9 (by decide))
  refine lv_iconst (v := 1) hx hb dX5_goes_17 (by decide) ?_
  refine va_put (D := D) (ci := 5) (v := .int 1) (ty := .int) (C := RX5) (T := TX5) (N := 28) hx hb hts inX5 tyX5 tyX5_ok nmX5 hown hK hP hD hS 0 rfl rfl 0 (by decide) (hts _ (mG w_636)) (fun _ h9 => h9) rfl (by decide +kernel) rfl rfl (Nat.le_of_ble_eq_true rfl) dX5_goes_18 (fun H locs hP hD hS => ?_)
  have hP : va_P D vwCl [(m0, .inr (5, [.int 1, .int (nI nf), .ref ah, .int mgap, .int mcars, .int mdark, .int msteps, .ref a_places, .ref a_speeds, .ref a_most, .ref a_gains, .ref a_brakes, .ref a_slows, .ref a_rides, .ref a_doors, .ref a_doorPlaces, .ref a_opened, .ref a_wide, .ref a_holds, .ref a_loads, .ref a_mostLoads, .ref a_beams, .ref a_contacts, .ref a_fires, .ref a_ways, .ref a_calls, .ref a_callCounts, .ref a_wears]))] H := hP
  have hD : va_D A [(m0, .inr (5, [.int 1, .int (nI nf), .ref ah, .int mgap, .int mcars, .int mdark, .int msteps, .ref a_places, .ref a_speeds, .ref a_most, .ref a_gains, .ref a_brakes, .ref a_slows, .ref a_rides, .ref a_doors, .ref a_doorPlaces, .ref a_opened, .ref a_wide, .ref a_holds, .ref a_loads, .ref a_mostLoads, .ref a_beams, .ref a_contacts, .ref a_fires, .ref a_ways, .ref a_calls, .ref a_callCounts, .ref a_wears]))] := hD
  refine lv_aload_n hx hb dX5_goes_21 rfl (lv_at hl 0 rfl) ?_
  refine va_get (D := D) (ci := 5) (v := .int 1) (C := RX5) (T := TX5) (N := 28) hx hb hts inX5 hown hK hP 0 rfl rfl 0 (by decide) (hts _ (mG w_636)) (fun _ h9 => h9) rfl dX5_goes_22 ?_
  refine lv_if_ne (tgt := 32) hx hb dX5_goes_25 (by decide) (fun _ => ?_) (fun c9 => absurd c9 (by decide))
  refine lv_iconst (v := 0) hx hb dX5_goes_32 (by decide) ?_
  have hP := hP.sub (ws' := [(m0, .inr (5, [.int 1, .int (nI nf), .ref ah, .int mgap, .int mcars, .int mdark, .int msteps, .ref a_places, .ref a_speeds, .ref a_most, .ref a_gains, .ref a_brakes, .ref a_slows, .ref a_rides, .ref a_doors, .ref a_doorPlaces, .ref a_opened, .ref a_wide, .ref a_holds, .ref a_loads, .ref a_mostLoads, .ref a_beams, .ref a_contacts, .ref a_fires, .ref a_ways, .ref a_calls, .ref a_callCounts, .ref a_wears]))]) [0] rfl
  have hD := hD.sub (ws' := [(m0, .inr (5, [.int 1, .int (nI nf), .ref ah, .int mgap, .int mcars, .int mdark, .int msteps, .ref a_places, .ref a_speeds, .ref a_most, .ref a_gains, .ref a_brakes, .ref a_slows, .ref a_rides, .ref a_doors, .ref a_doorPlaces, .ref a_opened, .ref a_wide, .ref a_holds, .ref a_loads, .ref a_mostLoads, .ref a_beams, .ref a_contacts, .ref a_fires, .ref a_ways, .ref a_calls, .ref a_callCounts, .ref a_wears]))]) [0] (by decide) rfl
  exact rt_z hQ hx hb hr (nb_n (Or.inl rfl)) () ⟨rfl, ⟨hG, (Or.inl rfl)⟩⟩ hP hD hS (Nat.le_of_ble_eq_true rfl) (Nat.le_of_ble_eq_true rfl) dX5_goes_33 hlk
def F_m_goes_01 : Int32 :=
  0
theorem F_m_goes_01_u : F_m_goes_01 =
  (0) := rfl
set_option maxHeartbeats 4000000 in
set_option maxRecDepth 100000 in
theorem c_m_goes_01 (l : Launch) (D : va_G) (aI aL aZ : ClassId) (sz : Nat) (m0 : Nat) (ah : Nat) (a_places : Nat) (a_speeds : Nat) (a_most : Nat) (a_gains : Nat) (a_brakes : Nat) (a_slows : Nat) (a_rides : Nat) (a_doors : Nat) (a_doorPlaces : Nat) (a_opened : Nat) (a_wide : Nat) (a_holds : Nat) (a_loads : Nat) (a_mostLoads : Nat) (a_beams : Nat) (a_contacts : Nat) (a_fires : Nat) (a_ways : Nat) (a_calls : Nat) (a_callCounts : Nat) (a_wears : Nat) (mthrown : Int32) (nf : Nat) (mgap : Int32) (mcars : Int32) (mdark : Int32) (msteps : Int32) : Met l yX5_goes (.code yX5_goes cX5_goes 3 (some .boolean) :: Gw) ({ frames := 0, cells := 0, slots := 0, locals := 0 }) (va_Pc [.ref m0, .int 0, .int 1] (mpre D [(aI, .int), (aL, .long), (aZ, .boolean)] [(m0, .inr (5, [.int mthrown, .int (nI nf), .ref ah, .int mgap, .int mcars, .int mdark, .int msteps, .ref a_places, .ref a_speeds, .ref a_most, .ref a_gains, .ref a_brakes, .ref a_slows, .ref a_rides, .ref a_doors, .ref a_doorPlaces, .ref a_opened, .ref a_wide, .ref a_holds, .ref a_loads, .ref a_mostLoads, .ref a_beams, .ref a_contacts, .ref a_fires, .ref a_ways, .ref a_calls, .ref a_callCounts, .ref a_wears]))] sz)) ((fun A : Nat → Prop => va_Qi (fun (r : Int32) (u : Unit) => r = 0 ∧ (F_m_goes_01 = r ∧ nb r)) (mpst D A (fun (u : Unit) => [(m0, .inr (5, [.int 1, .int (nI nf), .ref ah, .int mgap, .int mcars, .int mdark, .int msteps, .ref a_places, .ref a_speeds, .ref a_most, .ref a_gains, .ref a_brakes, .ref a_slows, .ref a_rides, .ref a_doors, .ref a_doorPlaces, .ref a_opened, .ref a_wide, .ref a_holds, .ref a_loads, .ref a_mostLoads, .ref a_beams, .ref a_contacts, .ref a_fires, .ref a_ways, .ref a_calls, .ref a_callCounts, .ref a_wears]))])) A) (va_A ([(m0, .inr (5, [.int mthrown, .int (nI nf), .ref ah, .int mgap, .int mcars, .int mdark, .int msteps, .ref a_places, .ref a_speeds, .ref a_most, .ref a_gains, .ref a_brakes, .ref a_slows, .ref a_rides, .ref a_doors, .ref a_doorPlaces, .ref a_opened, .ref a_wide, .ref a_holds, .ref a_loads, .ref a_mostLoads, .ref a_beams, .ref a_contacts, .ref a_fires, .ref a_ways, .ref a_calls, .ref a_callCounts, .ref a_wears]))]) sz)) 0 0 (va_A ([(m0, .inr (5, [.int mthrown, .int (nI nf), .ref ah, .int mgap, .int mcars, .int mdark, .int msteps, .ref a_places, .ref a_speeds, .ref a_most, .ref a_gains, .ref a_brakes, .ref a_slows, .ref a_rides, .ref a_doors, .ref a_doorPlaces, .ref a_opened, .ref a_wide, .ref a_holds, .ref a_loads, .ref a_mostLoads, .ref a_beams, .ref a_contacts, .ref a_fires, .ref a_ways, .ref a_calls, .ref a_callCounts, .ref a_wears]))]) sz) := by
  refine en (cc := cX5_goes) (maxL := 3) (ret := (some .boolean)) (Qc := (fun A : Nat → Prop => va_Qi (fun (r : Int32) (u : Unit) => r = 0 ∧ (F_m_goes_01 = r ∧ nb r)) (mpst D A (fun (u : Unit) => [(m0, .inr (5, [.int 1, .int (nI nf), .ref ah, .int mgap, .int mcars, .int mdark, .int msteps, .ref a_places, .ref a_speeds, .ref a_most, .ref a_gains, .ref a_brakes, .ref a_slows, .ref a_rides, .ref a_doors, .ref a_doorPlaces, .ref a_opened, .ref a_wide, .ref a_holds, .ref a_loads, .ref a_mostLoads, .ref a_beams, .ref a_contacts, .ref a_fires, .ref a_ways, .ref a_calls, .ref a_callCounts, .ref a_wears]))])) A)) (by decide) rfl (Nat.le_of_ble_eq_true rfl) ?_
  intro p e s m args below meth c A ls Q hQ hx hb hr hts hown hlk hnm hml hA hS hP hK hD hE hl
  have hown : s.vm.findClass RX5 = some m.cls := hown
  have hl : lv_has ls 3 [(0, .ref m0), (1, .int 0), (2, .int 1)] := hl
  have hG := F_m_goes_01_u
  refine lv_aload_n hx hb dX5_goes_0 rfl (lv_at hl 0 rfl) ?_
  refine lv_iload_n hx hb dX5_goes_1 rfl (lv_at hl 1 rfl) ?_
  refine lv_if_eq (tgt := 17) hx hb dX5_goes_2 (by decide) (fun _ => ?_) (fun c9 => absurd c9 (by decide))
  refine lv_iconst (v := 1) hx hb dX5_goes_17 (by decide) ?_
  refine va_put (D := D) (ci := 5) (v := .int 1) (ty := .int) (C := RX5) (T := TX5) (N := 28) hx hb hts inX5 tyX5 tyX5_ok nmX5 hown hK hP hD hS 0 rfl rfl 0 (by decide) (hts _ (mG w_636)) (fun _ h9 => h9) rfl (by decide +kernel) rfl rfl (Nat.le_of_ble_eq_true rfl) dX5_goes_18 (fun H locs hP hD hS => ?_)
  have hP : va_P D vwCl [(m0, .inr (5, [.int 1, .int (nI nf), .ref ah, .int mgap, .int mcars, .int mdark, .int msteps, .ref a_places, .ref a_speeds, .ref a_most, .ref a_gains, .ref a_brakes, .ref a_slows, .ref a_rides, .ref a_doors, .ref a_doorPlaces, .ref a_opened, .ref a_wide, .ref a_holds, .ref a_loads, .ref a_mostLoads, .ref a_beams, .ref a_contacts, .ref a_fires, .ref a_ways, .ref a_calls, .ref a_callCounts, .ref a_wears]))] H := hP
  have hD : va_D A [(m0, .inr (5, [.int 1, .int (nI nf), .ref ah, .int mgap, .int mcars, .int mdark, .int msteps, .ref a_places, .ref a_speeds, .ref a_most, .ref a_gains, .ref a_brakes, .ref a_slows, .ref a_rides, .ref a_doors, .ref a_doorPlaces, .ref a_opened, .ref a_wide, .ref a_holds, .ref a_loads, .ref a_mostLoads, .ref a_beams, .ref a_contacts, .ref a_fires, .ref a_ways, .ref a_calls, .ref a_callCounts, .ref a_wears]))] := hD
  refine lv_aload_n hx hb dX5_goes_21 rfl (lv_at hl 0 rfl) ?_
  refine va_get (D := D) (ci := 5) (v := .int 1) (C := RX5) (T := TX5) (N := 28) hx hb hts inX5 hown hK hP 0 rfl rfl 0 (by decide) (hts _ (mG w_636)) (fun _ h9 => h9) rfl dX5_goes_22 ?_
  refine lv_if_ne (tgt := 32) hx hb dX5_goes_25 (by decide) (fun _ => ?_) (fun c9 => absurd c9 (by decide))
  refine lv_iconst (v := 0) hx hb dX5_goes_32 (by decide) ?_
  have hP := hP.sub (ws' := [(m0, .inr (5, [.int 1, .int (nI nf), .ref ah, .int mgap, .int mcars, .int mdark, .int msteps, .ref a_places, .ref a_speeds, .ref a_most, .ref a_gains, .ref a_brakes, .ref a_slows, .ref a_rides, .ref a_doors, .ref a_doorPlaces, .ref a_opened, .ref a_wide, .ref a_holds, .ref a_loads, .ref a_mostLoads, .ref a_beams, .ref a_contacts, .ref a_fires, .ref a_ways, .ref a_calls, .ref a_callCounts, .ref a_wears]))]) [0] rfl
  have hD := hD.sub (ws' := [(m0, .inr (5, [.int 1, .int (nI nf), .ref ah, .int mgap, .int mcars, .int mdark, .int msteps, .ref a_places, .ref a_speeds, .ref a_most, .ref a_gains, .ref a_brakes, .ref a_slows, .ref a_rides, .ref a_doors, .ref a_doorPlaces, .ref a_opened, .ref a_wide, .ref a_holds, .ref a_loads, .ref a_mostLoads, .ref a_beams, .ref a_contacts, .ref a_fires, .ref a_ways, .ref a_calls, .ref a_callCounts, .ref a_wears]))]) [0] (by decide) rfl
  exact rt_z hQ hx hb hr (nb_n (Or.inl rfl)) () ⟨rfl, ⟨hG, (Or.inl rfl)⟩⟩ hP hD hS (Nat.le_of_ble_eq_true rfl) (Nat.le_of_ble_eq_true rfl) dX5_goes_33 hlk
theorem dX5_isCar_0 : decode cX5_isCar 0 = .ok (.iload_n 1, 1) := by decide +kernel
theorem dX5_isCar_1 : decode cX5_isCar 1 = .ok (.ifCond .lt 15, 3) := by decide +kernel
theorem dX5_isCar_4 : decode cX5_isCar 4 = .ok (.iload_n 1, 1) := by decide +kernel
theorem dX5_isCar_5 : decode cX5_isCar 5 = .ok (.aload_n 0, 1) := by decide +kernel
theorem dX5_isCar_6 : decode cX5_isCar 6 = .ok (.getfield 98, 3) := by decide +kernel
theorem dX5_isCar_9 : decode cX5_isCar 9 = .ok (.if_icmp .ge 7, 3) := by decide +kernel
theorem dX5_isCar_12 : decode cX5_isCar 12 = .ok (.iconst 1, 1) := by decide +kernel
theorem dX5_isCar_13 : decode cX5_isCar 13 = .ok (.goto 4, 3) := by decide +kernel
theorem dX5_isCar_16 : decode cX5_isCar 16 = .ok (.iconst 0, 1) := by decide +kernel
theorem dX5_isCar_17 : decode cX5_isCar 17 = .ok (.ireturn, 1) := by decide +kernel
def F_m_isCar_0 (p0 : Int32) : Int32 :=
  if p0 < 0 then
    0
  else
    if 0 ≤ p0 then
      0
    else
      default
theorem F_m_isCar_0_u (p0 : Int32) : F_m_isCar_0 p0 =
  (if p0 < 0 then
    0
  else
    if 0 ≤ p0 then
      0
    else
      default) := rfl
set_option maxHeartbeats 4000000 in
set_option maxRecDepth 100000 in
theorem c_m_isCar_0 (l : Launch) (D : va_G) (aI aL aZ : ClassId) (sz : Nat) (m0 : Nat) (ah : Nat) (a_places : Nat) (a_speeds : Nat) (a_most : Nat) (a_gains : Nat) (a_brakes : Nat) (a_slows : Nat) (a_rides : Nat) (a_doors : Nat) (a_doorPlaces : Nat) (a_opened : Nat) (a_wide : Nat) (a_holds : Nat) (a_loads : Nat) (a_mostLoads : Nat) (a_beams : Nat) (a_contacts : Nat) (a_fires : Nat) (a_ways : Nat) (a_calls : Nat) (a_callCounts : Nat) (a_wears : Nat) (mthrown : Int32) (nf : Nat) (mgap : Int32) (mdark : Int32) (msteps : Int32) (p0 : Int32) : Met l yX5_isCar (.code yX5_isCar cX5_isCar 2 (some .boolean) :: Gw) ({ frames := 0, cells := 0, slots := 0, locals := 0 }) (va_Pc [.ref m0, .int p0] (mpre D [(aI, .int), (aL, .long), (aZ, .boolean)] [(m0, .inr (5, [.int mthrown, .int (nI nf), .ref ah, .int mgap, .int 0, .int mdark, .int msteps, .ref a_places, .ref a_speeds, .ref a_most, .ref a_gains, .ref a_brakes, .ref a_slows, .ref a_rides, .ref a_doors, .ref a_doorPlaces, .ref a_opened, .ref a_wide, .ref a_holds, .ref a_loads, .ref a_mostLoads, .ref a_beams, .ref a_contacts, .ref a_fires, .ref a_ways, .ref a_calls, .ref a_callCounts, .ref a_wears]))] sz)) ((fun A : Nat → Prop => va_Qi (fun (r : Int32) (u : Unit) => r = 0 ∧ (F_m_isCar_0 p0 = r ∧ nb r)) (mpst D A (fun (u : Unit) => [(m0, .inr (5, [.int mthrown, .int (nI nf), .ref ah, .int mgap, .int 0, .int mdark, .int msteps, .ref a_places, .ref a_speeds, .ref a_most, .ref a_gains, .ref a_brakes, .ref a_slows, .ref a_rides, .ref a_doors, .ref a_doorPlaces, .ref a_opened, .ref a_wide, .ref a_holds, .ref a_loads, .ref a_mostLoads, .ref a_beams, .ref a_contacts, .ref a_fires, .ref a_ways, .ref a_calls, .ref a_callCounts, .ref a_wears]))])) A) (va_A ([(m0, .inr (5, [.int mthrown, .int (nI nf), .ref ah, .int mgap, .int 0, .int mdark, .int msteps, .ref a_places, .ref a_speeds, .ref a_most, .ref a_gains, .ref a_brakes, .ref a_slows, .ref a_rides, .ref a_doors, .ref a_doorPlaces, .ref a_opened, .ref a_wide, .ref a_holds, .ref a_loads, .ref a_mostLoads, .ref a_beams, .ref a_contacts, .ref a_fires, .ref a_ways, .ref a_calls, .ref a_callCounts, .ref a_wears]))]) sz)) 0 0 (va_A ([(m0, .inr (5, [.int mthrown, .int (nI nf), .ref ah, .int mgap, .int 0, .int mdark, .int msteps, .ref a_places, .ref a_speeds, .ref a_most, .ref a_gains, .ref a_brakes, .ref a_slows, .ref a_rides, .ref a_doors, .ref a_doorPlaces, .ref a_opened, .ref a_wide, .ref a_holds, .ref a_loads, .ref a_mostLoads, .ref a_beams, .ref a_contacts, .ref a_fires, .ref a_ways, .ref a_calls, .ref a_callCounts, .ref a_wears]))]) sz) := by
  refine en (cc := cX5_isCar) (maxL := 2) (ret := (some .boolean)) (Qc := (fun A : Nat → Prop => va_Qi (fun (r : Int32) (u : Unit) => r = 0 ∧ (F_m_isCar_0 p0 = r ∧ nb r)) (mpst D A (fun (u : Unit) => [(m0, .inr (5, [.int mthrown, .int (nI nf), .ref ah, .int mgap, .int 0, .int mdark, .int msteps, .ref a_places, .ref a_speeds, .ref a_most, .ref a_gains, .ref a_brakes, .ref a_slows, .ref a_rides, .ref a_doors, .ref a_doorPlaces, .ref a_opened, .ref a_wide, .ref a_holds, .ref a_loads, .ref a_mostLoads, .ref a_beams, .ref a_contacts, .ref a_fires, .ref a_ways, .ref a_calls, .ref a_callCounts, .ref a_wears]))])) A)) (by decide) rfl (Nat.le_of_ble_eq_true rfl) ?_
  intro p e s m args below meth c A ls Q hQ hx hb hr hts hown hlk hnm hml hA hS hP hK hD hE hl
  have hown : s.vm.findClass RX5 = some m.cls := hown
  have hl : lv_has ls 2 [(0, .ref m0), (1, .int p0)] := hl
  have hG := F_m_isCar_0_u p0
  refine lv_iload_n hx hb dX5_isCar_0 rfl (lv_at hl 1 rfl) ?_
  refine lv_if_lt (tgt := 16) hx hb dX5_isCar_1 (by decide) (fun c_1 => ?_) (fun c_1 => ?_)
  · have hG := hG.trans (if_pos c_1)
    refine lv_iconst (v := 0) hx hb dX5_isCar_16 (by decide) ?_
    have hP := hP.sub (ws' := [(m0, .inr (5, [.int mthrown, .int (nI nf), .ref ah, .int mgap, .int 0, .int mdark, .int msteps, .ref a_places, .ref a_speeds, .ref a_most, .ref a_gains, .ref a_brakes, .ref a_slows, .ref a_rides, .ref a_doors, .ref a_doorPlaces, .ref a_opened, .ref a_wide, .ref a_holds, .ref a_loads, .ref a_mostLoads, .ref a_beams, .ref a_contacts, .ref a_fires, .ref a_ways, .ref a_calls, .ref a_callCounts, .ref a_wears]))]) [0] rfl
    have hD := hD.sub (ws' := [(m0, .inr (5, [.int mthrown, .int (nI nf), .ref ah, .int mgap, .int 0, .int mdark, .int msteps, .ref a_places, .ref a_speeds, .ref a_most, .ref a_gains, .ref a_brakes, .ref a_slows, .ref a_rides, .ref a_doors, .ref a_doorPlaces, .ref a_opened, .ref a_wide, .ref a_holds, .ref a_loads, .ref a_mostLoads, .ref a_beams, .ref a_contacts, .ref a_fires, .ref a_ways, .ref a_calls, .ref a_callCounts, .ref a_wears]))]) [0] (by decide) rfl
    exact rt_z hQ hx hb hr (nb_n (Or.inl rfl)) () ⟨rfl, ⟨hG, (Or.inl rfl)⟩⟩ hP hD hS (Nat.le_of_ble_eq_true rfl) (Nat.le_of_ble_eq_true rfl) dX5_isCar_17 hlk
  · have hG := hG.trans (if_neg c_1)
    refine lv_iload_n hx hb dX5_isCar_4 rfl (lv_at hl 1 rfl) ?_
    refine lv_aload_n hx hb dX5_isCar_5 rfl (lv_at hl 0 rfl) ?_
    refine va_get (D := D) (ci := 5) (v := .int 0) (C := RX5) (T := TX5) (N := 28) hx hb hts inX5 hown hK hP 0 rfl rfl 4 (by decide) (hts _ (mG w_640)) (fun _ h9 => h9) rfl dX5_isCar_6 ?_
    refine lv_icmp_ge (tgt := 16) hx hb dX5_isCar_9 (by decide) (fun c_2 => ?_) (fun c_2 => ?_)
    · have hG := hG.trans (if_pos c_2)
      refine lv_iconst (v := 0) hx hb dX5_isCar_16 (by decide) ?_
      have hP := hP.sub (ws' := [(m0, .inr (5, [.int mthrown, .int (nI nf), .ref ah, .int mgap, .int 0, .int mdark, .int msteps, .ref a_places, .ref a_speeds, .ref a_most, .ref a_gains, .ref a_brakes, .ref a_slows, .ref a_rides, .ref a_doors, .ref a_doorPlaces, .ref a_opened, .ref a_wide, .ref a_holds, .ref a_loads, .ref a_mostLoads, .ref a_beams, .ref a_contacts, .ref a_fires, .ref a_ways, .ref a_calls, .ref a_callCounts, .ref a_wears]))]) [0] rfl
      have hD := hD.sub (ws' := [(m0, .inr (5, [.int mthrown, .int (nI nf), .ref ah, .int mgap, .int 0, .int mdark, .int msteps, .ref a_places, .ref a_speeds, .ref a_most, .ref a_gains, .ref a_brakes, .ref a_slows, .ref a_rides, .ref a_doors, .ref a_doorPlaces, .ref a_opened, .ref a_wide, .ref a_holds, .ref a_loads, .ref a_mostLoads, .ref a_beams, .ref a_contacts, .ref a_fires, .ref a_ways, .ref a_calls, .ref a_callCounts, .ref a_wears]))]) [0] (by decide) rfl
      exact rt_z hQ hx hb hr (nb_n (Or.inl rfl)) () ⟨rfl, ⟨hG, (Or.inl rfl)⟩⟩ hP hD hS (Nat.le_of_ble_eq_true rfl) (Nat.le_of_ble_eq_true rfl) dX5_isCar_17 hlk
    · have hG := hG.trans (if_neg c_2)
      exact False.elim (ab0 c_1 c_2)
def F_m_isCar_10 : Int32 :=
  1
theorem F_m_isCar_10_u : F_m_isCar_10 =
  (1) := rfl
set_option maxHeartbeats 4000000 in
set_option maxRecDepth 100000 in
theorem c_m_isCar_10 (l : Launch) (D : va_G) (aI aL aZ : ClassId) (sz : Nat) (m0 : Nat) (ah : Nat) (a_places : Nat) (a_speeds : Nat) (a_most : Nat) (a_gains : Nat) (a_brakes : Nat) (a_slows : Nat) (a_rides : Nat) (a_doors : Nat) (a_doorPlaces : Nat) (a_opened : Nat) (a_wide : Nat) (a_holds : Nat) (a_loads : Nat) (a_mostLoads : Nat) (a_beams : Nat) (a_contacts : Nat) (a_fires : Nat) (a_ways : Nat) (a_calls : Nat) (a_callCounts : Nat) (a_wears : Nat) (mthrown : Int32) (nf : Nat) (mgap : Int32) (mdark : Int32) (msteps : Int32) : Met l yX5_isCar (.code yX5_isCar cX5_isCar 2 (some .boolean) :: Gw) ({ frames := 0, cells := 0, slots := 0, locals := 0 }) (va_Pc [.ref m0, .int 0] (mpre D [(aI, .int), (aL, .long), (aZ, .boolean)] [(m0, .inr (5, [.int mthrown, .int (nI nf), .ref ah, .int mgap, .int 1, .int mdark, .int msteps, .ref a_places, .ref a_speeds, .ref a_most, .ref a_gains, .ref a_brakes, .ref a_slows, .ref a_rides, .ref a_doors, .ref a_doorPlaces, .ref a_opened, .ref a_wide, .ref a_holds, .ref a_loads, .ref a_mostLoads, .ref a_beams, .ref a_contacts, .ref a_fires, .ref a_ways, .ref a_calls, .ref a_callCounts, .ref a_wears]))] sz)) ((fun A : Nat → Prop => va_Qi (fun (r : Int32) (u : Unit) => r = 1 ∧ (F_m_isCar_10 = r ∧ nb r)) (mpst D A (fun (u : Unit) => [(m0, .inr (5, [.int mthrown, .int (nI nf), .ref ah, .int mgap, .int 1, .int mdark, .int msteps, .ref a_places, .ref a_speeds, .ref a_most, .ref a_gains, .ref a_brakes, .ref a_slows, .ref a_rides, .ref a_doors, .ref a_doorPlaces, .ref a_opened, .ref a_wide, .ref a_holds, .ref a_loads, .ref a_mostLoads, .ref a_beams, .ref a_contacts, .ref a_fires, .ref a_ways, .ref a_calls, .ref a_callCounts, .ref a_wears]))])) A) (va_A ([(m0, .inr (5, [.int mthrown, .int (nI nf), .ref ah, .int mgap, .int 1, .int mdark, .int msteps, .ref a_places, .ref a_speeds, .ref a_most, .ref a_gains, .ref a_brakes, .ref a_slows, .ref a_rides, .ref a_doors, .ref a_doorPlaces, .ref a_opened, .ref a_wide, .ref a_holds, .ref a_loads, .ref a_mostLoads, .ref a_beams, .ref a_contacts, .ref a_fires, .ref a_ways, .ref a_calls, .ref a_callCounts, .ref a_wears]))]) sz)) 0 0 (va_A ([(m0, .inr (5, [.int mthrown, .int (nI nf), .ref ah, .int mgap, .int 1, .int mdark, .int msteps, .ref a_places, .ref a_speeds, .ref a_most, .ref a_gains, .ref a_brakes, .ref a_slows, .ref a_rides, .ref a_doors, .ref a_doorPlaces, .ref a_opened, .ref a_wide, .ref a_holds, .ref a_loads, .ref a_mostLoads, .ref a_beams, .ref a_contacts, .ref a_fires, .ref a_ways, .ref a_calls, .ref a_callCounts, .ref a_wears]))]) sz) := by
  refine en (cc := cX5_isCar) (maxL := 2) (ret := (some .boolean)) (Qc := (fun A : Nat → Prop => va_Qi (fun (r : Int32) (u : Unit) => r = 1 ∧ (F_m_isCar_10 = r ∧ nb r)) (mpst D A (fun (u : Unit) => [(m0, .inr (5, [.int mthrown, .int (nI nf), .ref ah, .int mgap, .int 1, .int mdark, .int msteps, .ref a_places, .ref a_speeds, .ref a_most, .ref a_gains, .ref a_brakes, .ref a_slows, .ref a_rides, .ref a_doors, .ref a_doorPlaces, .ref a_opened, .ref a_wide, .ref a_holds, .ref a_loads, .ref a_mostLoads, .ref a_beams, .ref a_contacts, .ref a_fires, .ref a_ways, .ref a_calls, .ref a_callCounts, .ref a_wears]))])) A)) (by decide) rfl (Nat.le_of_ble_eq_true rfl) ?_
  intro p e s m args below meth c A ls Q hQ hx hb hr hts hown hlk hnm hml hA hS hP hK hD hE hl
  have hown : s.vm.findClass RX5 = some m.cls := hown
  have hl : lv_has ls 2 [(0, .ref m0), (1, .int 0)] := hl
  have hG := F_m_isCar_10_u
  refine lv_iload_n hx hb dX5_isCar_0 rfl (lv_at hl 1 rfl) ?_
  refine lv_if_lt (tgt := 16) hx hb dX5_isCar_1 (by decide) (fun c9 => absurd c9 (by decide)) (fun _ => ?_)
  refine lv_iload_n hx hb dX5_isCar_4 rfl (lv_at hl 1 rfl) ?_
  refine lv_aload_n hx hb dX5_isCar_5 rfl (lv_at hl 0 rfl) ?_
  refine va_get (D := D) (ci := 5) (v := .int 1) (C := RX5) (T := TX5) (N := 28) hx hb hts inX5 hown hK hP 0 rfl rfl 4 (by decide) (hts _ (mG w_640)) (fun _ h9 => h9) rfl dX5_isCar_6 ?_
  refine lv_icmp_ge (tgt := 16) hx hb dX5_isCar_9 (by decide) (fun c9 => absurd c9 (by decide)) (fun _ => ?_)
  refine lv_iconst (v := 1) hx hb dX5_isCar_12 (by decide) ?_
  refine lv_goto (tgt := 17) hx hb dX5_isCar_13 (by decide) ?_
  have hP := hP.sub (ws' := [(m0, .inr (5, [.int mthrown, .int (nI nf), .ref ah, .int mgap, .int 1, .int mdark, .int msteps, .ref a_places, .ref a_speeds, .ref a_most, .ref a_gains, .ref a_brakes, .ref a_slows, .ref a_rides, .ref a_doors, .ref a_doorPlaces, .ref a_opened, .ref a_wide, .ref a_holds, .ref a_loads, .ref a_mostLoads, .ref a_beams, .ref a_contacts, .ref a_fires, .ref a_ways, .ref a_calls, .ref a_callCounts, .ref a_wears]))]) [0] rfl
  have hD := hD.sub (ws' := [(m0, .inr (5, [.int mthrown, .int (nI nf), .ref ah, .int mgap, .int 1, .int mdark, .int msteps, .ref a_places, .ref a_speeds, .ref a_most, .ref a_gains, .ref a_brakes, .ref a_slows, .ref a_rides, .ref a_doors, .ref a_doorPlaces, .ref a_opened, .ref a_wide, .ref a_holds, .ref a_loads, .ref a_mostLoads, .ref a_beams, .ref a_contacts, .ref a_fires, .ref a_ways, .ref a_calls, .ref a_callCounts, .ref a_wears]))]) [0] (by decide) rfl
  exact rt_z hQ hx hb hr (nb_n (Or.inr rfl)) () ⟨rfl, ⟨hG, (Or.inr rfl)⟩⟩ hP hD hS (Nat.le_of_ble_eq_true rfl) (Nat.le_of_ble_eq_true rfl) dX5_isCar_17 hlk
def F_m_isCar_1x (p0 : Int32) : Int32 :=
  if p0 < 0 then
    0
  else
    if 1 ≤ p0 then
      0
    else
      default
theorem F_m_isCar_1x_u (p0 : Int32) : F_m_isCar_1x p0 =
  (if p0 < 0 then
    0
  else
    if 1 ≤ p0 then
      0
    else
      default) := rfl
set_option maxHeartbeats 4000000 in
set_option maxRecDepth 100000 in
theorem c_m_isCar_1x (l : Launch) (D : va_G) (aI aL aZ : ClassId) (sz : Nat) (m0 : Nat) (ah : Nat) (a_places : Nat) (a_speeds : Nat) (a_most : Nat) (a_gains : Nat) (a_brakes : Nat) (a_slows : Nat) (a_rides : Nat) (a_doors : Nat) (a_doorPlaces : Nat) (a_opened : Nat) (a_wide : Nat) (a_holds : Nat) (a_loads : Nat) (a_mostLoads : Nat) (a_beams : Nat) (a_contacts : Nat) (a_fires : Nat) (a_ways : Nat) (a_calls : Nat) (a_callCounts : Nat) (a_wears : Nat) (mthrown : Int32) (nf : Nat) (mgap : Int32) (mdark : Int32) (msteps : Int32) (p0 : Int32) (h9 : ¬ p0 = 0) : Met l yX5_isCar (.code yX5_isCar cX5_isCar 2 (some .boolean) :: Gw) ({ frames := 0, cells := 0, slots := 0, locals := 0 }) (va_Pc [.ref m0, .int p0] (mpre D [(aI, .int), (aL, .long), (aZ, .boolean)] [(m0, .inr (5, [.int mthrown, .int (nI nf), .ref ah, .int mgap, .int 1, .int mdark, .int msteps, .ref a_places, .ref a_speeds, .ref a_most, .ref a_gains, .ref a_brakes, .ref a_slows, .ref a_rides, .ref a_doors, .ref a_doorPlaces, .ref a_opened, .ref a_wide, .ref a_holds, .ref a_loads, .ref a_mostLoads, .ref a_beams, .ref a_contacts, .ref a_fires, .ref a_ways, .ref a_calls, .ref a_callCounts, .ref a_wears]))] sz)) ((fun A : Nat → Prop => va_Qi (fun (r : Int32) (u : Unit) => r = 0 ∧ (F_m_isCar_1x p0 = r ∧ nb r)) (mpst D A (fun (u : Unit) => [(m0, .inr (5, [.int mthrown, .int (nI nf), .ref ah, .int mgap, .int 1, .int mdark, .int msteps, .ref a_places, .ref a_speeds, .ref a_most, .ref a_gains, .ref a_brakes, .ref a_slows, .ref a_rides, .ref a_doors, .ref a_doorPlaces, .ref a_opened, .ref a_wide, .ref a_holds, .ref a_loads, .ref a_mostLoads, .ref a_beams, .ref a_contacts, .ref a_fires, .ref a_ways, .ref a_calls, .ref a_callCounts, .ref a_wears]))])) A) (va_A ([(m0, .inr (5, [.int mthrown, .int (nI nf), .ref ah, .int mgap, .int 1, .int mdark, .int msteps, .ref a_places, .ref a_speeds, .ref a_most, .ref a_gains, .ref a_brakes, .ref a_slows, .ref a_rides, .ref a_doors, .ref a_doorPlaces, .ref a_opened, .ref a_wide, .ref a_holds, .ref a_loads, .ref a_mostLoads, .ref a_beams, .ref a_contacts, .ref a_fires, .ref a_ways, .ref a_calls, .ref a_callCounts, .ref a_wears]))]) sz)) 0 0 (va_A ([(m0, .inr (5, [.int mthrown, .int (nI nf), .ref ah, .int mgap, .int 1, .int mdark, .int msteps, .ref a_places, .ref a_speeds, .ref a_most, .ref a_gains, .ref a_brakes, .ref a_slows, .ref a_rides, .ref a_doors, .ref a_doorPlaces, .ref a_opened, .ref a_wide, .ref a_holds, .ref a_loads, .ref a_mostLoads, .ref a_beams, .ref a_contacts, .ref a_fires, .ref a_ways, .ref a_calls, .ref a_callCounts, .ref a_wears]))]) sz) := by
  refine en (cc := cX5_isCar) (maxL := 2) (ret := (some .boolean)) (Qc := (fun A : Nat → Prop => va_Qi (fun (r : Int32) (u : Unit) => r = 0 ∧ (F_m_isCar_1x p0 = r ∧ nb r)) (mpst D A (fun (u : Unit) => [(m0, .inr (5, [.int mthrown, .int (nI nf), .ref ah, .int mgap, .int 1, .int mdark, .int msteps, .ref a_places, .ref a_speeds, .ref a_most, .ref a_gains, .ref a_brakes, .ref a_slows, .ref a_rides, .ref a_doors, .ref a_doorPlaces, .ref a_opened, .ref a_wide, .ref a_holds, .ref a_loads, .ref a_mostLoads, .ref a_beams, .ref a_contacts, .ref a_fires, .ref a_ways, .ref a_calls, .ref a_callCounts, .ref a_wears]))])) A)) (by decide) rfl (Nat.le_of_ble_eq_true rfl) ?_
  intro p e s m args below meth c A ls Q hQ hx hb hr hts hown hlk hnm hml hA hS hP hK hD hE hl
  have hown : s.vm.findClass RX5 = some m.cls := hown
  have hl : lv_has ls 2 [(0, .ref m0), (1, .int p0)] := hl
  have hG := F_m_isCar_1x_u p0
  refine lv_iload_n hx hb dX5_isCar_0 rfl (lv_at hl 1 rfl) ?_
  refine lv_if_lt (tgt := 16) hx hb dX5_isCar_1 (by decide) (fun c_1 => ?_) (fun c_1 => ?_)
  · have hG := hG.trans (if_pos c_1)
    refine lv_iconst (v := 0) hx hb dX5_isCar_16 (by decide) ?_
    have hP := hP.sub (ws' := [(m0, .inr (5, [.int mthrown, .int (nI nf), .ref ah, .int mgap, .int 1, .int mdark, .int msteps, .ref a_places, .ref a_speeds, .ref a_most, .ref a_gains, .ref a_brakes, .ref a_slows, .ref a_rides, .ref a_doors, .ref a_doorPlaces, .ref a_opened, .ref a_wide, .ref a_holds, .ref a_loads, .ref a_mostLoads, .ref a_beams, .ref a_contacts, .ref a_fires, .ref a_ways, .ref a_calls, .ref a_callCounts, .ref a_wears]))]) [0] rfl
    have hD := hD.sub (ws' := [(m0, .inr (5, [.int mthrown, .int (nI nf), .ref ah, .int mgap, .int 1, .int mdark, .int msteps, .ref a_places, .ref a_speeds, .ref a_most, .ref a_gains, .ref a_brakes, .ref a_slows, .ref a_rides, .ref a_doors, .ref a_doorPlaces, .ref a_opened, .ref a_wide, .ref a_holds, .ref a_loads, .ref a_mostLoads, .ref a_beams, .ref a_contacts, .ref a_fires, .ref a_ways, .ref a_calls, .ref a_callCounts, .ref a_wears]))]) [0] (by decide) rfl
    exact rt_z hQ hx hb hr (nb_n (Or.inl rfl)) () ⟨rfl, ⟨hG, (Or.inl rfl)⟩⟩ hP hD hS (Nat.le_of_ble_eq_true rfl) (Nat.le_of_ble_eq_true rfl) dX5_isCar_17 hlk
  · have hG := hG.trans (if_neg c_1)
    refine lv_iload_n hx hb dX5_isCar_4 rfl (lv_at hl 1 rfl) ?_
    refine lv_aload_n hx hb dX5_isCar_5 rfl (lv_at hl 0 rfl) ?_
    refine va_get (D := D) (ci := 5) (v := .int 1) (C := RX5) (T := TX5) (N := 28) hx hb hts inX5 hown hK hP 0 rfl rfl 4 (by decide) (hts _ (mG w_640)) (fun _ h9 => h9) rfl dX5_isCar_6 ?_
    refine lv_icmp_ge (tgt := 16) hx hb dX5_isCar_9 (by decide) (fun c_2 => ?_) (fun c_2 => ?_)
    · have hG := hG.trans (if_pos c_2)
      refine lv_iconst (v := 0) hx hb dX5_isCar_16 (by decide) ?_
      have hP := hP.sub (ws' := [(m0, .inr (5, [.int mthrown, .int (nI nf), .ref ah, .int mgap, .int 1, .int mdark, .int msteps, .ref a_places, .ref a_speeds, .ref a_most, .ref a_gains, .ref a_brakes, .ref a_slows, .ref a_rides, .ref a_doors, .ref a_doorPlaces, .ref a_opened, .ref a_wide, .ref a_holds, .ref a_loads, .ref a_mostLoads, .ref a_beams, .ref a_contacts, .ref a_fires, .ref a_ways, .ref a_calls, .ref a_callCounts, .ref a_wears]))]) [0] rfl
      have hD := hD.sub (ws' := [(m0, .inr (5, [.int mthrown, .int (nI nf), .ref ah, .int mgap, .int 1, .int mdark, .int msteps, .ref a_places, .ref a_speeds, .ref a_most, .ref a_gains, .ref a_brakes, .ref a_slows, .ref a_rides, .ref a_doors, .ref a_doorPlaces, .ref a_opened, .ref a_wide, .ref a_holds, .ref a_loads, .ref a_mostLoads, .ref a_beams, .ref a_contacts, .ref a_fires, .ref a_ways, .ref a_calls, .ref a_callCounts, .ref a_wears]))]) [0] (by decide) rfl
      exact rt_z hQ hx hb hr (nb_n (Or.inl rfl)) () ⟨rfl, ⟨hG, (Or.inl rfl)⟩⟩ hP hD hS (Nat.le_of_ble_eq_true rfl) (Nat.le_of_ble_eq_true rfl) dX5_isCar_17 hlk
    · have hG := hG.trans (if_neg c_2)
      exact False.elim (ab1 c_1 c_2 h9)
def F_m_isCar_20 : Int32 :=
  1
theorem F_m_isCar_20_u : F_m_isCar_20 =
  (1) := rfl
set_option maxHeartbeats 4000000 in
set_option maxRecDepth 100000 in
theorem c_m_isCar_20 (l : Launch) (D : va_G) (aI aL aZ : ClassId) (sz : Nat) (m0 : Nat) (ah : Nat) (a_places : Nat) (a_speeds : Nat) (a_most : Nat) (a_gains : Nat) (a_brakes : Nat) (a_slows : Nat) (a_rides : Nat) (a_doors : Nat) (a_doorPlaces : Nat) (a_opened : Nat) (a_wide : Nat) (a_holds : Nat) (a_loads : Nat) (a_mostLoads : Nat) (a_beams : Nat) (a_contacts : Nat) (a_fires : Nat) (a_ways : Nat) (a_calls : Nat) (a_callCounts : Nat) (a_wears : Nat) (mthrown : Int32) (nf : Nat) (mgap : Int32) (mdark : Int32) (msteps : Int32) : Met l yX5_isCar (.code yX5_isCar cX5_isCar 2 (some .boolean) :: Gw) ({ frames := 0, cells := 0, slots := 0, locals := 0 }) (va_Pc [.ref m0, .int 0] (mpre D [(aI, .int), (aL, .long), (aZ, .boolean)] [(m0, .inr (5, [.int mthrown, .int (nI nf), .ref ah, .int mgap, .int 2, .int mdark, .int msteps, .ref a_places, .ref a_speeds, .ref a_most, .ref a_gains, .ref a_brakes, .ref a_slows, .ref a_rides, .ref a_doors, .ref a_doorPlaces, .ref a_opened, .ref a_wide, .ref a_holds, .ref a_loads, .ref a_mostLoads, .ref a_beams, .ref a_contacts, .ref a_fires, .ref a_ways, .ref a_calls, .ref a_callCounts, .ref a_wears]))] sz)) ((fun A : Nat → Prop => va_Qi (fun (r : Int32) (u : Unit) => r = 1 ∧ (F_m_isCar_20 = r ∧ nb r)) (mpst D A (fun (u : Unit) => [(m0, .inr (5, [.int mthrown, .int (nI nf), .ref ah, .int mgap, .int 2, .int mdark, .int msteps, .ref a_places, .ref a_speeds, .ref a_most, .ref a_gains, .ref a_brakes, .ref a_slows, .ref a_rides, .ref a_doors, .ref a_doorPlaces, .ref a_opened, .ref a_wide, .ref a_holds, .ref a_loads, .ref a_mostLoads, .ref a_beams, .ref a_contacts, .ref a_fires, .ref a_ways, .ref a_calls, .ref a_callCounts, .ref a_wears]))])) A) (va_A ([(m0, .inr (5, [.int mthrown, .int (nI nf), .ref ah, .int mgap, .int 2, .int mdark, .int msteps, .ref a_places, .ref a_speeds, .ref a_most, .ref a_gains, .ref a_brakes, .ref a_slows, .ref a_rides, .ref a_doors, .ref a_doorPlaces, .ref a_opened, .ref a_wide, .ref a_holds, .ref a_loads, .ref a_mostLoads, .ref a_beams, .ref a_contacts, .ref a_fires, .ref a_ways, .ref a_calls, .ref a_callCounts, .ref a_wears]))]) sz)) 0 0 (va_A ([(m0, .inr (5, [.int mthrown, .int (nI nf), .ref ah, .int mgap, .int 2, .int mdark, .int msteps, .ref a_places, .ref a_speeds, .ref a_most, .ref a_gains, .ref a_brakes, .ref a_slows, .ref a_rides, .ref a_doors, .ref a_doorPlaces, .ref a_opened, .ref a_wide, .ref a_holds, .ref a_loads, .ref a_mostLoads, .ref a_beams, .ref a_contacts, .ref a_fires, .ref a_ways, .ref a_calls, .ref a_callCounts, .ref a_wears]))]) sz) := by
  refine en (cc := cX5_isCar) (maxL := 2) (ret := (some .boolean)) (Qc := (fun A : Nat → Prop => va_Qi (fun (r : Int32) (u : Unit) => r = 1 ∧ (F_m_isCar_20 = r ∧ nb r)) (mpst D A (fun (u : Unit) => [(m0, .inr (5, [.int mthrown, .int (nI nf), .ref ah, .int mgap, .int 2, .int mdark, .int msteps, .ref a_places, .ref a_speeds, .ref a_most, .ref a_gains, .ref a_brakes, .ref a_slows, .ref a_rides, .ref a_doors, .ref a_doorPlaces, .ref a_opened, .ref a_wide, .ref a_holds, .ref a_loads, .ref a_mostLoads, .ref a_beams, .ref a_contacts, .ref a_fires, .ref a_ways, .ref a_calls, .ref a_callCounts, .ref a_wears]))])) A)) (by decide) rfl (Nat.le_of_ble_eq_true rfl) ?_
  intro p e s m args below meth c A ls Q hQ hx hb hr hts hown hlk hnm hml hA hS hP hK hD hE hl
  have hown : s.vm.findClass RX5 = some m.cls := hown
  have hl : lv_has ls 2 [(0, .ref m0), (1, .int 0)] := hl
  have hG := F_m_isCar_20_u
  refine lv_iload_n hx hb dX5_isCar_0 rfl (lv_at hl 1 rfl) ?_
  refine lv_if_lt (tgt := 16) hx hb dX5_isCar_1 (by decide) (fun c9 => absurd c9 (by decide)) (fun _ => ?_)
  refine lv_iload_n hx hb dX5_isCar_4 rfl (lv_at hl 1 rfl) ?_
  refine lv_aload_n hx hb dX5_isCar_5 rfl (lv_at hl 0 rfl) ?_
  refine va_get (D := D) (ci := 5) (v := .int 2) (C := RX5) (T := TX5) (N := 28) hx hb hts inX5 hown hK hP 0 rfl rfl 4 (by decide) (hts _ (mG w_640)) (fun _ h9 => h9) rfl dX5_isCar_6 ?_
  refine lv_icmp_ge (tgt := 16) hx hb dX5_isCar_9 (by decide) (fun c9 => absurd c9 (by decide)) (fun _ => ?_)
  refine lv_iconst (v := 1) hx hb dX5_isCar_12 (by decide) ?_
  refine lv_goto (tgt := 17) hx hb dX5_isCar_13 (by decide) ?_
  have hP := hP.sub (ws' := [(m0, .inr (5, [.int mthrown, .int (nI nf), .ref ah, .int mgap, .int 2, .int mdark, .int msteps, .ref a_places, .ref a_speeds, .ref a_most, .ref a_gains, .ref a_brakes, .ref a_slows, .ref a_rides, .ref a_doors, .ref a_doorPlaces, .ref a_opened, .ref a_wide, .ref a_holds, .ref a_loads, .ref a_mostLoads, .ref a_beams, .ref a_contacts, .ref a_fires, .ref a_ways, .ref a_calls, .ref a_callCounts, .ref a_wears]))]) [0] rfl
  have hD := hD.sub (ws' := [(m0, .inr (5, [.int mthrown, .int (nI nf), .ref ah, .int mgap, .int 2, .int mdark, .int msteps, .ref a_places, .ref a_speeds, .ref a_most, .ref a_gains, .ref a_brakes, .ref a_slows, .ref a_rides, .ref a_doors, .ref a_doorPlaces, .ref a_opened, .ref a_wide, .ref a_holds, .ref a_loads, .ref a_mostLoads, .ref a_beams, .ref a_contacts, .ref a_fires, .ref a_ways, .ref a_calls, .ref a_callCounts, .ref a_wears]))]) [0] (by decide) rfl
  exact rt_z hQ hx hb hr (nb_n (Or.inr rfl)) () ⟨rfl, ⟨hG, (Or.inr rfl)⟩⟩ hP hD hS (Nat.le_of_ble_eq_true rfl) (Nat.le_of_ble_eq_true rfl) dX5_isCar_17 hlk
def F_m_isCar_21 : Int32 :=
  1
theorem F_m_isCar_21_u : F_m_isCar_21 =
  (1) := rfl
set_option maxHeartbeats 4000000 in
set_option maxRecDepth 100000 in
theorem c_m_isCar_21 (l : Launch) (D : va_G) (aI aL aZ : ClassId) (sz : Nat) (m0 : Nat) (ah : Nat) (a_places : Nat) (a_speeds : Nat) (a_most : Nat) (a_gains : Nat) (a_brakes : Nat) (a_slows : Nat) (a_rides : Nat) (a_doors : Nat) (a_doorPlaces : Nat) (a_opened : Nat) (a_wide : Nat) (a_holds : Nat) (a_loads : Nat) (a_mostLoads : Nat) (a_beams : Nat) (a_contacts : Nat) (a_fires : Nat) (a_ways : Nat) (a_calls : Nat) (a_callCounts : Nat) (a_wears : Nat) (mthrown : Int32) (nf : Nat) (mgap : Int32) (mdark : Int32) (msteps : Int32) : Met l yX5_isCar (.code yX5_isCar cX5_isCar 2 (some .boolean) :: Gw) ({ frames := 0, cells := 0, slots := 0, locals := 0 }) (va_Pc [.ref m0, .int 1] (mpre D [(aI, .int), (aL, .long), (aZ, .boolean)] [(m0, .inr (5, [.int mthrown, .int (nI nf), .ref ah, .int mgap, .int 2, .int mdark, .int msteps, .ref a_places, .ref a_speeds, .ref a_most, .ref a_gains, .ref a_brakes, .ref a_slows, .ref a_rides, .ref a_doors, .ref a_doorPlaces, .ref a_opened, .ref a_wide, .ref a_holds, .ref a_loads, .ref a_mostLoads, .ref a_beams, .ref a_contacts, .ref a_fires, .ref a_ways, .ref a_calls, .ref a_callCounts, .ref a_wears]))] sz)) ((fun A : Nat → Prop => va_Qi (fun (r : Int32) (u : Unit) => r = 1 ∧ (F_m_isCar_21 = r ∧ nb r)) (mpst D A (fun (u : Unit) => [(m0, .inr (5, [.int mthrown, .int (nI nf), .ref ah, .int mgap, .int 2, .int mdark, .int msteps, .ref a_places, .ref a_speeds, .ref a_most, .ref a_gains, .ref a_brakes, .ref a_slows, .ref a_rides, .ref a_doors, .ref a_doorPlaces, .ref a_opened, .ref a_wide, .ref a_holds, .ref a_loads, .ref a_mostLoads, .ref a_beams, .ref a_contacts, .ref a_fires, .ref a_ways, .ref a_calls, .ref a_callCounts, .ref a_wears]))])) A) (va_A ([(m0, .inr (5, [.int mthrown, .int (nI nf), .ref ah, .int mgap, .int 2, .int mdark, .int msteps, .ref a_places, .ref a_speeds, .ref a_most, .ref a_gains, .ref a_brakes, .ref a_slows, .ref a_rides, .ref a_doors, .ref a_doorPlaces, .ref a_opened, .ref a_wide, .ref a_holds, .ref a_loads, .ref a_mostLoads, .ref a_beams, .ref a_contacts, .ref a_fires, .ref a_ways, .ref a_calls, .ref a_callCounts, .ref a_wears]))]) sz)) 0 0 (va_A ([(m0, .inr (5, [.int mthrown, .int (nI nf), .ref ah, .int mgap, .int 2, .int mdark, .int msteps, .ref a_places, .ref a_speeds, .ref a_most, .ref a_gains, .ref a_brakes, .ref a_slows, .ref a_rides, .ref a_doors, .ref a_doorPlaces, .ref a_opened, .ref a_wide, .ref a_holds, .ref a_loads, .ref a_mostLoads, .ref a_beams, .ref a_contacts, .ref a_fires, .ref a_ways, .ref a_calls, .ref a_callCounts, .ref a_wears]))]) sz) := by
  refine en (cc := cX5_isCar) (maxL := 2) (ret := (some .boolean)) (Qc := (fun A : Nat → Prop => va_Qi (fun (r : Int32) (u : Unit) => r = 1 ∧ (F_m_isCar_21 = r ∧ nb r)) (mpst D A (fun (u : Unit) => [(m0, .inr (5, [.int mthrown, .int (nI nf), .ref ah, .int mgap, .int 2, .int mdark, .int msteps, .ref a_places, .ref a_speeds, .ref a_most, .ref a_gains, .ref a_brakes, .ref a_slows, .ref a_rides, .ref a_doors, .ref a_doorPlaces, .ref a_opened, .ref a_wide, .ref a_holds, .ref a_loads, .ref a_mostLoads, .ref a_beams, .ref a_contacts, .ref a_fires, .ref a_ways, .ref a_calls, .ref a_callCounts, .ref a_wears]))])) A)) (by decide) rfl (Nat.le_of_ble_eq_true rfl) ?_
  intro p e s m args below meth c A ls Q hQ hx hb hr hts hown hlk hnm hml hA hS hP hK hD hE hl
  have hown : s.vm.findClass RX5 = some m.cls := hown
  have hl : lv_has ls 2 [(0, .ref m0), (1, .int 1)] := hl
  have hG := F_m_isCar_21_u
  refine lv_iload_n hx hb dX5_isCar_0 rfl (lv_at hl 1 rfl) ?_
  refine lv_if_lt (tgt := 16) hx hb dX5_isCar_1 (by decide) (fun c9 => absurd c9 (by decide)) (fun _ => ?_)
  refine lv_iload_n hx hb dX5_isCar_4 rfl (lv_at hl 1 rfl) ?_
  refine lv_aload_n hx hb dX5_isCar_5 rfl (lv_at hl 0 rfl) ?_
  refine va_get (D := D) (ci := 5) (v := .int 2) (C := RX5) (T := TX5) (N := 28) hx hb hts inX5 hown hK hP 0 rfl rfl 4 (by decide) (hts _ (mG w_640)) (fun _ h9 => h9) rfl dX5_isCar_6 ?_
  refine lv_icmp_ge (tgt := 16) hx hb dX5_isCar_9 (by decide) (fun c9 => absurd c9 (by decide)) (fun _ => ?_)
  refine lv_iconst (v := 1) hx hb dX5_isCar_12 (by decide) ?_
  refine lv_goto (tgt := 17) hx hb dX5_isCar_13 (by decide) ?_
  have hP := hP.sub (ws' := [(m0, .inr (5, [.int mthrown, .int (nI nf), .ref ah, .int mgap, .int 2, .int mdark, .int msteps, .ref a_places, .ref a_speeds, .ref a_most, .ref a_gains, .ref a_brakes, .ref a_slows, .ref a_rides, .ref a_doors, .ref a_doorPlaces, .ref a_opened, .ref a_wide, .ref a_holds, .ref a_loads, .ref a_mostLoads, .ref a_beams, .ref a_contacts, .ref a_fires, .ref a_ways, .ref a_calls, .ref a_callCounts, .ref a_wears]))]) [0] rfl
  have hD := hD.sub (ws' := [(m0, .inr (5, [.int mthrown, .int (nI nf), .ref ah, .int mgap, .int 2, .int mdark, .int msteps, .ref a_places, .ref a_speeds, .ref a_most, .ref a_gains, .ref a_brakes, .ref a_slows, .ref a_rides, .ref a_doors, .ref a_doorPlaces, .ref a_opened, .ref a_wide, .ref a_holds, .ref a_loads, .ref a_mostLoads, .ref a_beams, .ref a_contacts, .ref a_fires, .ref a_ways, .ref a_calls, .ref a_callCounts, .ref a_wears]))]) [0] (by decide) rfl
  exact rt_z hQ hx hb hr (nb_n (Or.inr rfl)) () ⟨rfl, ⟨hG, (Or.inr rfl)⟩⟩ hP hD hS (Nat.le_of_ble_eq_true rfl) (Nat.le_of_ble_eq_true rfl) dX5_isCar_17 hlk
def F_m_isCar_2x (p0 : Int32) : Int32 :=
  if p0 < 0 then
    0
  else
    if 2 ≤ p0 then
      0
    else
      default
theorem F_m_isCar_2x_u (p0 : Int32) : F_m_isCar_2x p0 =
  (if p0 < 0 then
    0
  else
    if 2 ≤ p0 then
      0
    else
      default) := rfl
set_option maxHeartbeats 4000000 in
set_option maxRecDepth 100000 in
theorem c_m_isCar_2x (l : Launch) (D : va_G) (aI aL aZ : ClassId) (sz : Nat) (m0 : Nat) (ah : Nat) (a_places : Nat) (a_speeds : Nat) (a_most : Nat) (a_gains : Nat) (a_brakes : Nat) (a_slows : Nat) (a_rides : Nat) (a_doors : Nat) (a_doorPlaces : Nat) (a_opened : Nat) (a_wide : Nat) (a_holds : Nat) (a_loads : Nat) (a_mostLoads : Nat) (a_beams : Nat) (a_contacts : Nat) (a_fires : Nat) (a_ways : Nat) (a_calls : Nat) (a_callCounts : Nat) (a_wears : Nat) (mthrown : Int32) (nf : Nat) (mgap : Int32) (mdark : Int32) (msteps : Int32) (p0 : Int32) (h9 : ¬ p0 = 0) (h8 : ¬ p0 = 1) : Met l yX5_isCar (.code yX5_isCar cX5_isCar 2 (some .boolean) :: Gw) ({ frames := 0, cells := 0, slots := 0, locals := 0 }) (va_Pc [.ref m0, .int p0] (mpre D [(aI, .int), (aL, .long), (aZ, .boolean)] [(m0, .inr (5, [.int mthrown, .int (nI nf), .ref ah, .int mgap, .int 2, .int mdark, .int msteps, .ref a_places, .ref a_speeds, .ref a_most, .ref a_gains, .ref a_brakes, .ref a_slows, .ref a_rides, .ref a_doors, .ref a_doorPlaces, .ref a_opened, .ref a_wide, .ref a_holds, .ref a_loads, .ref a_mostLoads, .ref a_beams, .ref a_contacts, .ref a_fires, .ref a_ways, .ref a_calls, .ref a_callCounts, .ref a_wears]))] sz)) ((fun A : Nat → Prop => va_Qi (fun (r : Int32) (u : Unit) => r = 0 ∧ (F_m_isCar_2x p0 = r ∧ nb r)) (mpst D A (fun (u : Unit) => [(m0, .inr (5, [.int mthrown, .int (nI nf), .ref ah, .int mgap, .int 2, .int mdark, .int msteps, .ref a_places, .ref a_speeds, .ref a_most, .ref a_gains, .ref a_brakes, .ref a_slows, .ref a_rides, .ref a_doors, .ref a_doorPlaces, .ref a_opened, .ref a_wide, .ref a_holds, .ref a_loads, .ref a_mostLoads, .ref a_beams, .ref a_contacts, .ref a_fires, .ref a_ways, .ref a_calls, .ref a_callCounts, .ref a_wears]))])) A) (va_A ([(m0, .inr (5, [.int mthrown, .int (nI nf), .ref ah, .int mgap, .int 2, .int mdark, .int msteps, .ref a_places, .ref a_speeds, .ref a_most, .ref a_gains, .ref a_brakes, .ref a_slows, .ref a_rides, .ref a_doors, .ref a_doorPlaces, .ref a_opened, .ref a_wide, .ref a_holds, .ref a_loads, .ref a_mostLoads, .ref a_beams, .ref a_contacts, .ref a_fires, .ref a_ways, .ref a_calls, .ref a_callCounts, .ref a_wears]))]) sz)) 0 0 (va_A ([(m0, .inr (5, [.int mthrown, .int (nI nf), .ref ah, .int mgap, .int 2, .int mdark, .int msteps, .ref a_places, .ref a_speeds, .ref a_most, .ref a_gains, .ref a_brakes, .ref a_slows, .ref a_rides, .ref a_doors, .ref a_doorPlaces, .ref a_opened, .ref a_wide, .ref a_holds, .ref a_loads, .ref a_mostLoads, .ref a_beams, .ref a_contacts, .ref a_fires, .ref a_ways, .ref a_calls, .ref a_callCounts, .ref a_wears]))]) sz) := by
  refine en (cc := cX5_isCar) (maxL := 2) (ret := (some .boolean)) (Qc := (fun A : Nat → Prop => va_Qi (fun (r : Int32) (u : Unit) => r = 0 ∧ (F_m_isCar_2x p0 = r ∧ nb r)) (mpst D A (fun (u : Unit) => [(m0, .inr (5, [.int mthrown, .int (nI nf), .ref ah, .int mgap, .int 2, .int mdark, .int msteps, .ref a_places, .ref a_speeds, .ref a_most, .ref a_gains, .ref a_brakes, .ref a_slows, .ref a_rides, .ref a_doors, .ref a_doorPlaces, .ref a_opened, .ref a_wide, .ref a_holds, .ref a_loads, .ref a_mostLoads, .ref a_beams, .ref a_contacts, .ref a_fires, .ref a_ways, .ref a_calls, .ref a_callCounts, .ref a_wears]))])) A)) (by decide) rfl (Nat.le_of_ble_eq_true rfl) ?_
  intro p e s m args below meth c A ls Q hQ hx hb hr hts hown hlk hnm hml hA hS hP hK hD hE hl
  have hown : s.vm.findClass RX5 = some m.cls := hown
  have hl : lv_has ls 2 [(0, .ref m0), (1, .int p0)] := hl
  have hG := F_m_isCar_2x_u p0
  refine lv_iload_n hx hb dX5_isCar_0 rfl (lv_at hl 1 rfl) ?_
  refine lv_if_lt (tgt := 16) hx hb dX5_isCar_1 (by decide) (fun c_1 => ?_) (fun c_1 => ?_)
  · have hG := hG.trans (if_pos c_1)
    refine lv_iconst (v := 0) hx hb dX5_isCar_16 (by decide) ?_
    have hP := hP.sub (ws' := [(m0, .inr (5, [.int mthrown, .int (nI nf), .ref ah, .int mgap, .int 2, .int mdark, .int msteps, .ref a_places, .ref a_speeds, .ref a_most, .ref a_gains, .ref a_brakes, .ref a_slows, .ref a_rides, .ref a_doors, .ref a_doorPlaces, .ref a_opened, .ref a_wide, .ref a_holds, .ref a_loads, .ref a_mostLoads, .ref a_beams, .ref a_contacts, .ref a_fires, .ref a_ways, .ref a_calls, .ref a_callCounts, .ref a_wears]))]) [0] rfl
    have hD := hD.sub (ws' := [(m0, .inr (5, [.int mthrown, .int (nI nf), .ref ah, .int mgap, .int 2, .int mdark, .int msteps, .ref a_places, .ref a_speeds, .ref a_most, .ref a_gains, .ref a_brakes, .ref a_slows, .ref a_rides, .ref a_doors, .ref a_doorPlaces, .ref a_opened, .ref a_wide, .ref a_holds, .ref a_loads, .ref a_mostLoads, .ref a_beams, .ref a_contacts, .ref a_fires, .ref a_ways, .ref a_calls, .ref a_callCounts, .ref a_wears]))]) [0] (by decide) rfl
    exact rt_z hQ hx hb hr (nb_n (Or.inl rfl)) () ⟨rfl, ⟨hG, (Or.inl rfl)⟩⟩ hP hD hS (Nat.le_of_ble_eq_true rfl) (Nat.le_of_ble_eq_true rfl) dX5_isCar_17 hlk
  · have hG := hG.trans (if_neg c_1)
    refine lv_iload_n hx hb dX5_isCar_4 rfl (lv_at hl 1 rfl) ?_
    refine lv_aload_n hx hb dX5_isCar_5 rfl (lv_at hl 0 rfl) ?_
    refine va_get (D := D) (ci := 5) (v := .int 2) (C := RX5) (T := TX5) (N := 28) hx hb hts inX5 hown hK hP 0 rfl rfl 4 (by decide) (hts _ (mG w_640)) (fun _ h9 => h9) rfl dX5_isCar_6 ?_
    refine lv_icmp_ge (tgt := 16) hx hb dX5_isCar_9 (by decide) (fun c_2 => ?_) (fun c_2 => ?_)
    · have hG := hG.trans (if_pos c_2)
      refine lv_iconst (v := 0) hx hb dX5_isCar_16 (by decide) ?_
      have hP := hP.sub (ws' := [(m0, .inr (5, [.int mthrown, .int (nI nf), .ref ah, .int mgap, .int 2, .int mdark, .int msteps, .ref a_places, .ref a_speeds, .ref a_most, .ref a_gains, .ref a_brakes, .ref a_slows, .ref a_rides, .ref a_doors, .ref a_doorPlaces, .ref a_opened, .ref a_wide, .ref a_holds, .ref a_loads, .ref a_mostLoads, .ref a_beams, .ref a_contacts, .ref a_fires, .ref a_ways, .ref a_calls, .ref a_callCounts, .ref a_wears]))]) [0] rfl
      have hD := hD.sub (ws' := [(m0, .inr (5, [.int mthrown, .int (nI nf), .ref ah, .int mgap, .int 2, .int mdark, .int msteps, .ref a_places, .ref a_speeds, .ref a_most, .ref a_gains, .ref a_brakes, .ref a_slows, .ref a_rides, .ref a_doors, .ref a_doorPlaces, .ref a_opened, .ref a_wide, .ref a_holds, .ref a_loads, .ref a_mostLoads, .ref a_beams, .ref a_contacts, .ref a_fires, .ref a_ways, .ref a_calls, .ref a_callCounts, .ref a_wears]))]) [0] (by decide) rfl
      exact rt_z hQ hx hb hr (nb_n (Or.inl rfl)) () ⟨rfl, ⟨hG, (Or.inl rfl)⟩⟩ hP hD hS (Nat.le_of_ble_eq_true rfl) (Nat.le_of_ble_eq_true rfl) dX5_isCar_17 hlk
    · have hG := hG.trans (if_neg c_2)
      exact False.elim (ab2 c_1 c_2 h9 h8)
