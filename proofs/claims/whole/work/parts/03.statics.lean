theorem dX4_refuseOutside_0 : decode cX4_refuseOutside 0 = .ok (.iload_n 0, 1) := by decide +kernel
theorem dX4_refuseOutside_1 : decode cX4_refuseOutside 1 = .ok (.iload_n 1, 1) := by decide +kernel
theorem dX4_refuseOutside_2 : decode cX4_refuseOutside 2 = .ok (.if_icmp .lt 8, 3) := by decide +kernel
theorem dX4_refuseOutside_5 : decode cX4_refuseOutside 5 = .ok (.iload_n 0, 1) := by decide +kernel
theorem dX4_refuseOutside_6 : decode cX4_refuseOutside 6 = .ok (.iload_n 2, 1) := by decide +kernel
theorem dX4_refuseOutside_7 : decode cX4_refuseOutside 7 = .ok (.if_icmp .le 13, 3) := by decide +kernel
theorem dX4_refuseOutside_10 : decode cX4_refuseOutside 10 = .ok (.new 88, 3) := by decide +kernel
theorem dX4_refuseOutside_13 : decode cX4_refuseOutside 13 = .ok (.dup, 1) := by decide +kernel
theorem dX4_refuseOutside_14 : decode cX4_refuseOutside 14 = .ok (.ldc 222, 2) := by decide +kernel
theorem dX4_refuseOutside_16 : decode cX4_refuseOutside 16 = .ok (.invokespecial 92, 3) := by decide +kernel
theorem dX4_refuseOutside_19 : decode cX4_refuseOutside 19 = .ok (.athrow, 1) := by decide +kernel
theorem dX4_refuseOutside_20 : decode cX4_refuseOutside 20 = .ok (.return_, 1) := by decide +kernel
def F_refuseOutside (p0 : Int32) (p1 : Int32) (p2 : Int32) : Int32 ⊕ Unit :=
  if p0 < p1 then
    .inl 1
  else
    if p0 ≤ p2 then
      .inr ()
    else
      .inl 1
theorem F_refuseOutside_u (p0 : Int32) (p1 : Int32) (p2 : Int32) : F_refuseOutside p0 p1 p2 =
  (if p0 < p1 then
    .inl 1
  else
    if p0 ≤ p2 then
      .inr ()
    else
      .inl 1) := rfl
set_option maxHeartbeats 4000000 in
set_option maxRecDepth 100000 in
theorem c_refuseOutside (l : Launch) (hl9 : l.stackTraces = false) (D : va_G) (aI aL aZ : ClassId) (sz : Nat) (p0 : Int32) (p1 : Int32) (p2 : Int32) : vx_Met l yX4_refuseOutside (.code yX4_refuseOutside cX4_refuseOutside 3 none :: Gw) ({ frames := 6, cells := 1, slots := 6, locals := 92 }) (va_Pc [.int p0, .int p1, .int p2] (mpre D [(aI, .int), (aL, .long), (aZ, .boolean)] [] sz)) ((fun A : Nat → Prop => va_Qv (fun (u : Unit) => F_refuseOutside p0 p1 p2 = .inr ()) (mpst D A (fun (u : Unit) => [])) A) (va_A ([]) sz)) ((fun A : Nat → Prop => vx_X (fun u : Int32 => F_refuseOutside p0 p1 p2 = .inl u ∧ (u = 1)) (mpsx D A []) A) (va_A ([]) sz)) 1 6 (va_A ([]) sz) := by
  refine enx (cc := cX4_refuseOutside) (maxL := 3) (ret := none) (Qc := (fun A : Nat → Prop => va_Qv (fun (u : Unit) => F_refuseOutside p0 p1 p2 = .inr ()) (mpst D A (fun (u : Unit) => [])) A)) (XC := (fun A : Nat → Prop => vx_X (fun u : Int32 => F_refuseOutside p0 p1 p2 = .inl u ∧ (u = 1)) (mpsx D A []) A)) (by decide) rfl (Nat.le_of_ble_eq_true rfl) ?_
  intro p e s m args below meth c A ls Q hQ hx hb hr hts hown hlk hnm hml hout hA hS hP hK hD hE hl
  have hown : s.vm.findClass RX4 = some m.cls := hown
  have hl : lv_has ls 3 [(0, .int p0), (1, .int p1), (2, .int p2)] := hl
  have hG := F_refuseOutside_u p0 p1 p2
  refine lv_iload_n hx hb dX4_refuseOutside_0 rfl (lv_at hl 0 rfl) ?_
  refine lv_iload_n hx hb dX4_refuseOutside_1 rfl (lv_at hl 1 rfl) ?_
  refine lv_icmp_lt (tgt := 10) hx hb dX4_refuseOutside_2 (by decide) (fun c_1 => ?_) (fun c_1 => ?_)
  · have hG := hG.trans (if_pos c_1)
    exact my_throw (own := RX4) (cls := "java/lang/IllegalArgumentException") (text := "a number is out of its bounds") 1 [] hx hb hl9 hown (by decide +kernel) (hts _ (mG w_118)) (hts _ (mG w_42)) 0 rfl mt_92 hts tb_X4_92 tg_X4_92 hE hS (hl.1.trans hml.symm) dX4_refuseOutside_10 dX4_refuseOutside_13 dX4_refuseOutside_14 dX4_refuseOutside_16 dX4_refuseOutside_19 hout (Nat.le_of_ble_eq_true rfl) (Nat.le_of_ble_eq_true rfl) (Nat.le_of_ble_eq_true rfl) (Nat.le_of_ble_eq_true rfl) hlk hQ rfl ⟨hG, rfl⟩ hP hD rfl (by decide) (Nat.le_of_ble_eq_true rfl) (Nat.le_of_ble_eq_true rfl)
  · have hG := hG.trans (if_neg c_1)
    refine lv_iload_n hx hb dX4_refuseOutside_5 rfl (lv_at hl 0 rfl) ?_
    refine lv_iload_n hx hb dX4_refuseOutside_6 rfl (lv_at hl 2 rfl) ?_
    refine lv_icmp_le (tgt := 20) hx hb dX4_refuseOutside_7 (by decide) (fun c_2 => ?_) (fun c_2 => ?_)
    · have hG := hG.trans (if_pos c_2)
      have hP := hP.sub (ws' := []) [] rfl
      have hD := hD.sub (ws' := []) [] (by decide) rfl
      exact rtx_v hQ hx hb hr () hG hP hD hS (Nat.le_of_ble_eq_true rfl) (Nat.le_of_ble_eq_true rfl) dX4_refuseOutside_20 hlk
    · have hG := hG.trans (if_neg c_2)
      exact my_throw (own := RX4) (cls := "java/lang/IllegalArgumentException") (text := "a number is out of its bounds") 1 [] hx hb hl9 hown (by decide +kernel) (hts _ (mG w_118)) (hts _ (mG w_42)) 0 rfl mt_92 hts tb_X4_92 tg_X4_92 hE hS (hl.1.trans hml.symm) dX4_refuseOutside_10 dX4_refuseOutside_13 dX4_refuseOutside_14 dX4_refuseOutside_16 dX4_refuseOutside_19 hout (Nat.le_of_ble_eq_true rfl) (Nat.le_of_ble_eq_true rfl) (Nat.le_of_ble_eq_true rfl) (Nat.le_of_ble_eq_true rfl) hlk hQ rfl ⟨hG, rfl⟩ hP hD rfl (by decide) (Nat.le_of_ble_eq_true rfl) (Nat.le_of_ble_eq_true rfl)
theorem dX4_length_0 : decode cX4_length 0 = .ok (.iload_n 1, 1) := by decide +kernel
theorem dX4_length_1 : decode cX4_length 1 = .ok (.iconst 1, 1) := by decide +kernel
theorem dX4_length_2 : decode cX4_length 2 = .ok (.if_icmp .lt 8, 3) := by decide +kernel
theorem dX4_length_5 : decode cX4_length 5 = .ok (.iload_n 0, 1) := by decide +kernel
theorem dX4_length_6 : decode cX4_length 6 = .ok (.iload_n 1, 1) := by decide +kernel
theorem dX4_length_7 : decode cX4_length 7 = .ok (.if_icmp .gt 5, 3) := by decide +kernel
theorem dX4_length_10 : decode cX4_length 10 = .ok (.iconst 0, 1) := by decide +kernel
theorem dX4_length_11 : decode cX4_length 11 = .ok (.ireturn, 1) := by decide +kernel
theorem dX4_length_12 : decode cX4_length 12 = .ok (.iload_n 0, 1) := by decide +kernel
theorem dX4_length_13 : decode cX4_length 13 = .ok (.iconst 1, 1) := by decide +kernel
theorem dX4_length_14 : decode cX4_length 14 = .ok (.isub, 1) := by decide +kernel
theorem dX4_length_15 : decode cX4_length 15 = .ok (.iload_n 1, 1) := by decide +kernel
theorem dX4_length_16 : decode cX4_length 16 = .ok (.idiv, 1) := by decide +kernel
theorem dX4_length_17 : decode cX4_length 17 = .ok (.istore_n 2, 1) := by decide +kernel
theorem dX4_length_18 : decode cX4_length 18 = .ok (.iload_n 2, 1) := by decide +kernel
theorem dX4_length_19 : decode cX4_length 19 = .ok (.iload_n 0, 1) := by decide +kernel
theorem dX4_length_20 : decode cX4_length 20 = .ok (.imul, 1) := by decide +kernel
theorem dX4_length_21 : decode cX4_length 21 = .ok (.iload_n 1, 1) := by decide +kernel
theorem dX4_length_22 : decode cX4_length 22 = .ok (.iload_n 2, 1) := by decide +kernel
theorem dX4_length_23 : decode cX4_length 23 = .ok (.iload_n 2, 1) := by decide +kernel
theorem dX4_length_24 : decode cX4_length 24 = .ok (.iconst 1, 1) := by decide +kernel
theorem dX4_length_25 : decode cX4_length 25 = .ok (.iadd, 1) := by decide +kernel
theorem dX4_length_26 : decode cX4_length 26 = .ok (.imul, 1) := by decide +kernel
theorem dX4_length_27 : decode cX4_length 27 = .ok (.iconst 2, 1) := by decide +kernel
theorem dX4_length_28 : decode cX4_length 28 = .ok (.idiv, 1) := by decide +kernel
theorem dX4_length_29 : decode cX4_length 29 = .ok (.imul, 1) := by decide +kernel
theorem dX4_length_30 : decode cX4_length 30 = .ok (.isub, 1) := by decide +kernel
theorem dX4_length_31 : decode cX4_length 31 = .ok (.ireturn, 1) := by decide +kernel
def F_length (p0 : Int32) (p1 : Int32) : Int32 :=
  if p1 < 1 then
    0
  else
    if p1 < p0 then
      ((((p0 - 1) / p1) * p0) - (p1 * ((((p0 - 1) / p1) * (((p0 - 1) / p1) + 1)) / 2)))
    else
      0
theorem F_length_u (p0 : Int32) (p1 : Int32) : F_length p0 p1 =
  (if p1 < 1 then
    0
  else
    if p1 < p0 then
      ((((p0 - 1) / p1) * p0) - (p1 * ((((p0 - 1) / p1) * (((p0 - 1) / p1) + 1)) / 2)))
    else
      0) := rfl
set_option maxHeartbeats 4000000 in
set_option maxRecDepth 100000 in
theorem c_length (l : Launch) (D : va_G) (aI aL aZ : ClassId) (sz : Nat) (p0 : Int32) (p1 : Int32) : Met l yX4_length (.code yX4_length cX4_length 3 (some .int) :: Gw) ({ frames := 0, cells := 0, slots := 0, locals := 0 }) (va_Pc [.int p0, .int p1] (mpre D [(aI, .int), (aL, .long), (aZ, .boolean)] [] sz)) ((fun A : Nat → Prop => va_Qi (fun (r : Int32) (u : Unit) => F_length p0 p1 = r) (mpst D A (fun (u : Unit) => [])) A) (va_A ([]) sz)) 0 0 (va_A ([]) sz) := by
  refine en (cc := cX4_length) (maxL := 3) (ret := (some .int)) (Qc := (fun A : Nat → Prop => va_Qi (fun (r : Int32) (u : Unit) => F_length p0 p1 = r) (mpst D A (fun (u : Unit) => [])) A)) (by decide) rfl (Nat.le_of_ble_eq_true rfl) ?_
  intro p e s m args below meth c A ls Q hQ hx hb hr hts hown hlk hnm hml hA hS hP hK hD hE hl
  have hown : s.vm.findClass RX4 = some m.cls := hown
  have hl : lv_has ls 3 [(0, .int p0), (1, .int p1)] := hl
  have hG := F_length_u p0 p1
  refine lv_iload_n hx hb dX4_length_0 rfl (lv_at hl 1 rfl) ?_
  refine lv_iconst (v := 1) hx hb dX4_length_1 (by decide) ?_
  refine lv_icmp_lt (tgt := 10) hx hb dX4_length_2 (by decide) (fun c_1 => ?_) (fun c_1 => ?_)
  · have hG := hG.trans (if_pos c_1)
    refine lv_iconst (v := 0) hx hb dX4_length_10 (by decide) ?_
    have hP := hP.sub (ws' := []) [] rfl
    have hD := hD.sub (ws' := []) [] (by decide) rfl
    exact rt_i hQ hx hb hr () hG hP hD hS (Nat.le_of_ble_eq_true rfl) (Nat.le_of_ble_eq_true rfl) dX4_length_11 hlk
  · have hG := hG.trans (if_neg c_1)
    refine lv_iload_n hx hb dX4_length_5 rfl (lv_at hl 0 rfl) ?_
    refine lv_iload_n hx hb dX4_length_6 rfl (lv_at hl 1 rfl) ?_
    refine lv_icmp_gt (tgt := 12) hx hb dX4_length_7 (by decide) (fun c_2 => ?_) (fun c_2 => ?_)
    · have hG := hG.trans (if_pos c_2)
      refine lv_iload_n hx hb dX4_length_12 rfl (lv_at hl 0 rfl) ?_
      refine lv_iconst (v := 1) hx hb dX4_length_13 (by decide) ?_
      refine lv_isub hx hb dX4_length_14 ?_
      refine lv_iload_n hx hb dX4_length_15 rfl (lv_at hl 1 rfl) ?_
      refine lv_idiv hx hb dX4_length_16 (len_ne c_1) ?_
      refine lv_istore_n (lv' := [(2, .int ((p0 - 1) / p1)), (0, .int p0), (1, .int p1)]) hx hb dX4_length_17 rfl hl (by decide) rfl (fun ls hl => ?_)
      refine lv_iload_n hx hb dX4_length_18 rfl (lv_at hl 0 rfl) ?_
      refine lv_iload_n hx hb dX4_length_19 rfl (lv_at hl 1 rfl) ?_
      refine lv_imul hx hb dX4_length_20 ?_
      refine lv_iload_n hx hb dX4_length_21 rfl (lv_at hl 2 rfl) ?_
      refine lv_iload_n hx hb dX4_length_22 rfl (lv_at hl 0 rfl) ?_
      refine lv_iload_n hx hb dX4_length_23 rfl (lv_at hl 0 rfl) ?_
      refine lv_iconst (v := 1) hx hb dX4_length_24 (by decide) ?_
      refine lv_iadd hx hb dX4_length_25 ?_
      refine lv_imul hx hb dX4_length_26 ?_
      refine lv_iconst (v := 2) hx hb dX4_length_27 (by decide) ?_
      refine lv_idiv hx hb dX4_length_28 (by decide) ?_
      refine lv_imul hx hb dX4_length_29 ?_
      refine lv_isub hx hb dX4_length_30 ?_
      have hP := hP.sub (ws' := []) [] rfl
      have hD := hD.sub (ws' := []) [] (by decide) rfl
      exact rt_i hQ hx hb hr () hG hP hD hS (Nat.le_of_ble_eq_true rfl) (Nat.le_of_ble_eq_true rfl) dX4_length_31 hlk
    · have hG := hG.trans (if_neg c_2)
      refine lv_iconst (v := 0) hx hb dX4_length_10 (by decide) ?_
      have hP := hP.sub (ws' := []) [] rfl
      have hD := hD.sub (ws' := []) [] (by decide) rfl
      exact rt_i hQ hx hb hr () hG hP hD hS (Nat.le_of_ble_eq_true rfl) (Nat.le_of_ble_eq_true rfl) dX4_length_11 hlk
theorem dJ6_compare_0 : decode cJ6_compare 0 = .ok (.iload_n 0, 1) := by decide +kernel
theorem dJ6_compare_1 : decode cJ6_compare 1 = .ok (.iload_n 1, 1) := by decide +kernel
theorem dJ6_compare_2 : decode cJ6_compare 2 = .ok (.if_icmp .ge 7, 3) := by decide +kernel
theorem dJ6_compare_5 : decode cJ6_compare 5 = .ok (.iconst (-1), 1) := by decide +kernel
theorem dJ6_compare_6 : decode cJ6_compare 6 = .ok (.goto 13, 3) := by decide +kernel
theorem dJ6_compare_9 : decode cJ6_compare 9 = .ok (.iload_n 0, 1) := by decide +kernel
theorem dJ6_compare_10 : decode cJ6_compare 10 = .ok (.iload_n 1, 1) := by decide +kernel
theorem dJ6_compare_11 : decode cJ6_compare 11 = .ok (.if_icmp .ne 7, 3) := by decide +kernel
theorem dJ6_compare_14 : decode cJ6_compare 14 = .ok (.iconst 0, 1) := by decide +kernel
theorem dJ6_compare_15 : decode cJ6_compare 15 = .ok (.goto 4, 3) := by decide +kernel
theorem dJ6_compare_18 : decode cJ6_compare 18 = .ok (.iconst 1, 1) := by decide +kernel
theorem dJ6_compare_19 : decode cJ6_compare 19 = .ok (.ireturn, 1) := by decide +kernel
def F_intCompare (p0 : Int32) (p1 : Int32) : Int32 :=
  if p1 ≤ p0 then
    if p0 = p1 then
      0
    else
      1
  else
    (-1)
theorem F_intCompare_u (p0 : Int32) (p1 : Int32) : F_intCompare p0 p1 =
  (if p1 ≤ p0 then
    if p0 = p1 then
      0
    else
      1
  else
    (-1)) := rfl
set_option maxHeartbeats 4000000 in
set_option maxRecDepth 100000 in
theorem c_intCompare (l : Launch) (D : va_G) (aI aL aZ : ClassId) (sz : Nat) (p0 : Int32) (p1 : Int32) : Met l yJ6_compare (.code yJ6_compare cJ6_compare 2 (some .int) :: Gw) ({ frames := 0, cells := 0, slots := 0, locals := 0 }) (va_Pc [.int p0, .int p1] (mpre D [(aI, .int), (aL, .long), (aZ, .boolean)] [] sz)) ((fun A : Nat → Prop => va_Qi (fun (r : Int32) (u : Unit) => F_intCompare p0 p1 = r) (mpst D A (fun (u : Unit) => [])) A) (va_A ([]) sz)) 0 0 (va_A ([]) sz) := by
  refine en (cc := cJ6_compare) (maxL := 2) (ret := (some .int)) (Qc := (fun A : Nat → Prop => va_Qi (fun (r : Int32) (u : Unit) => F_intCompare p0 p1 = r) (mpst D A (fun (u : Unit) => [])) A)) (by decide) rfl (Nat.le_of_ble_eq_true rfl) ?_
  intro p e s m args below meth c A ls Q hQ hx hb hr hts hown hlk hnm hml hA hS hP hK hD hE hl
  have hown : s.vm.findClass RJ6 = some m.cls := hown
  have hl : lv_has ls 2 [(0, .int p0), (1, .int p1)] := hl
  have hG := F_intCompare_u p0 p1
  refine lv_iload_n hx hb dJ6_compare_0 rfl (lv_at hl 0 rfl) ?_
  refine lv_iload_n hx hb dJ6_compare_1 rfl (lv_at hl 1 rfl) ?_
  refine lv_icmp_ge (tgt := 9) hx hb dJ6_compare_2 (by decide) (fun c_1 => ?_) (fun c_1 => ?_)
  · have hG := hG.trans (if_pos c_1)
    refine lv_iload_n hx hb dJ6_compare_9 rfl (lv_at hl 0 rfl) ?_
    refine lv_iload_n hx hb dJ6_compare_10 rfl (lv_at hl 1 rfl) ?_
    refine lv_icmp_ne (tgt := 18) hx hb dJ6_compare_11 (by decide) (fun c_2 => ?_) (fun c_2 => ?_)
    · have hG := hG.trans (if_neg c_2)
      refine lv_iconst (v := 1) hx hb dJ6_compare_18 (by decide) ?_
      have hP := hP.sub (ws' := []) [] rfl
      have hD := hD.sub (ws' := []) [] (by decide) rfl
      exact rt_i hQ hx hb hr () hG hP hD hS (Nat.le_of_ble_eq_true rfl) (Nat.le_of_ble_eq_true rfl) dJ6_compare_19 hlk
    · have hG := hG.trans (if_pos c_2)
      refine lv_iconst (v := 0) hx hb dJ6_compare_14 (by decide) ?_
      refine lv_goto (tgt := 19) hx hb dJ6_compare_15 (by decide) ?_
      have hP := hP.sub (ws' := []) [] rfl
      have hD := hD.sub (ws' := []) [] (by decide) rfl
      exact rt_i hQ hx hb hr () hG hP hD hS (Nat.le_of_ble_eq_true rfl) (Nat.le_of_ble_eq_true rfl) dJ6_compare_19 hlk
  · have hG := hG.trans (if_neg c_1)
    refine lv_iconst (v := (-1)) hx hb dJ6_compare_5 (by decide) ?_
    refine lv_goto (tgt := 19) hx hb dJ6_compare_6 (by decide) ?_
    have hP := hP.sub (ws' := []) [] rfl
    have hD := hD.sub (ws' := []) [] (by decide) rfl
    exact rt_i hQ hx hb hr () hG hP hD hS (Nat.le_of_ble_eq_true rfl) (Nat.le_of_ble_eq_true rfl) dJ6_compare_19 hlk
