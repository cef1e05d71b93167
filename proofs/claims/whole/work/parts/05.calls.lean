theorem dX0_append_0 : decode cX0_append 0 = .ok (.aload_n 0, 1) := by decide +kernel
theorem dX0_append_1 : decode cX0_append 1 = .ok (.getfield 15, 3) := by decide +kernel
theorem dX0_append_4 : decode cX0_append 4 = .ok (.ifCond .lt 35, 3) := by decide +kernel
theorem dX0_append_7 : decode cX0_append 7 = .ok (.aload_n 0, 1) := by decide +kernel
theorem dX0_append_8 : decode cX0_append 8 = .ok (.getfield 15, 3) := by decide +kernel
theorem dX0_append_11 : decode cX0_append 11 = .ok (.aload_n 0, 1) := by decide +kernel
theorem dX0_append_12 : decode cX0_append 12 = .ok (.getfield 9, 3) := by decide +kernel
theorem dX0_append_15 : decode cX0_append 15 = .ok (.arraylength, 1) := by decide +kernel
theorem dX0_append_16 : decode cX0_append 16 = .ok (.if_icmp .ge 23, 3) := by decide +kernel
theorem dX0_append_19 : decode cX0_append 19 = .ok (.aload_n 0, 1) := by decide +kernel
theorem dX0_append_20 : decode cX0_append 20 = .ok (.getfield 9, 3) := by decide +kernel
theorem dX0_append_23 : decode cX0_append 23 = .ok (.aload_n 0, 1) := by decide +kernel
theorem dX0_append_24 : decode cX0_append 24 = .ok (.getfield 15, 3) := by decide +kernel
theorem dX0_append_27 : decode cX0_append 27 = .ok (.iload_n 1, 1) := by decide +kernel
theorem dX0_append_28 : decode cX0_append 28 = .ok (.iastore, 1) := by decide +kernel
theorem dX0_append_29 : decode cX0_append 29 = .ok (.aload_n 0, 1) := by decide +kernel
theorem dX0_append_30 : decode cX0_append 30 = .ok (.dup, 1) := by decide +kernel
theorem dX0_append_31 : decode cX0_append 31 = .ok (.getfield 15, 3) := by decide +kernel
theorem dX0_append_34 : decode cX0_append 34 = .ok (.iconst 1, 1) := by decide +kernel
theorem dX0_append_35 : decode cX0_append 35 = .ok (.iadd, 1) := by decide +kernel
theorem dX0_append_36 : decode cX0_append 36 = .ok (.putfield 15, 3) := by decide +kernel
theorem dX0_append_39 : decode cX0_append 39 = .ok (.return_, 1) := by decide +kernel
def F_append (ccount : Int32) (cf : Nat → Int32) (p0 : Int32) : Int32 × (Nat → Int32) :=
  if ccount < 0 then
    (ccount, cf)
  else
    if (nI 8) ≤ ccount then
      (ccount, cf)
    else
      ((ccount + 1), (upd cf ccount.toNatClampNeg p0))
theorem F_append_u (ccount : Int32) (cf : Nat → Int32) (p0 : Int32) : F_append ccount cf p0 =
  (if ccount < 0 then
    (ccount, cf)
  else
    if (nI 8) ≤ ccount then
      (ccount, cf)
    else
      ((ccount + 1), (upd cf ccount.toNatClampNeg p0))) := rfl
set_option maxHeartbeats 4000000 in
set_option maxRecDepth 100000 in
theorem c_append (l : Launch) (D : va_G) (aI aL aZ : ClassId) (sz : Nat) (h0 : Nat) (h1 : Nat) (ccount : Int32) (cover : Int32) (cf : Nat → Int32) (p0 : Int32) : Met l yX0_append (.code yX0_append cX0_append 2 none :: Gw) ({ frames := 0, cells := 0, slots := 0, locals := 0 }) (va_Pc [.ref h0, .int p0] (mpre D [(aI, .int), (aL, .long), (aZ, .boolean)] [(h0, .inr (0, [.ref h1, .int ccount, .int cover])), (h1, .inl (aI, 8, .inl cf))] sz)) ((fun A : Nat → Prop => va_Qv (fun (u : Int32 × (Nat → Int32)) => match u with | (u0, u1) => F_append ccount cf p0 = (u0, u1)) (mpst D A (fun (u : Int32 × (Nat → Int32)) => match u with | (u0, u1) => [(h0, .inr (0, [.ref h1, .int u0, .int cover])), (h1, .inl (aI, 8, .inl u1))])) A) (va_A ([(h0, .inr (0, [.ref h1, .int ccount, .int cover])), (h1, .inl (aI, 8, .inl cf))]) sz)) 0 0 (va_A ([(h0, .inr (0, [.ref h1, .int ccount, .int cover])), (h1, .inl (aI, 8, .inl cf))]) sz) := by
  refine en (cc := cX0_append) (maxL := 2) (ret := none) (Qc := (fun A : Nat → Prop => va_Qv (fun (u : Int32 × (Nat → Int32)) => match u with | (u0, u1) => F_append ccount cf p0 = (u0, u1)) (mpst D A (fun (u : Int32 × (Nat → Int32)) => match u with | (u0, u1) => [(h0, .inr (0, [.ref h1, .int u0, .int cover])), (h1, .inl (aI, 8, .inl u1))])) A)) (by decide) rfl (Nat.le_of_ble_eq_true rfl) ?_
  intro p e s m args below meth c A ls Q hQ hx hb hr hts hown hlk hnm hml hA hS hP hK hD hE hl
  have hown : s.vm.findClass RX0 = some m.cls := hown
  have hl : lv_has ls 2 [(0, .ref h0), (1, .int p0)] := hl
  have hG := F_append_u ccount cf p0
  refine lv_aload_n hx hb dX0_append_0 rfl (lv_at hl 0 rfl) ?_
  refine va_get (D := D) (ci := 0) (v := .int ccount) (C := RX0) (T := TX0) (N := 3) hx hb hts inX0 hown hK hP 0 rfl rfl 1 (by decide) (hts _ (mG w_290)) (fun _ h9 => h9) rfl dX0_append_1 ?_
  refine lv_if_lt (tgt := 39) hx hb dX0_append_4 (by decide) (fun c_1 => ?_) (fun c_1 => ?_)
  · have hG := hG.trans (if_pos c_1)
    have hP := hP.sub (ws' := [(h0, .inr (0, [.ref h1, .int ccount, .int cover])), (h1, .inl (aI, 8, .inl cf))]) [0, 1] rfl
    have hD := hD.sub (ws' := [(h0, .inr (0, [.ref h1, .int ccount, .int cover])), (h1, .inl (aI, 8, .inl cf))]) [0, 1] (by decide) rfl
    exact rt_v hQ hx hb hr (ccount, cf) hG hP hD hS (Nat.le_of_ble_eq_true rfl) (Nat.le_of_ble_eq_true rfl) dX0_append_39 hlk
  · have hG := hG.trans (if_neg c_1)
    refine lv_aload_n hx hb dX0_append_7 rfl (lv_at hl 0 rfl) ?_
    refine va_get (D := D) (ci := 0) (v := .int ccount) (C := RX0) (T := TX0) (N := 3) hx hb hts inX0 hown hK hP 0 rfl rfl 1 (by decide) (hts _ (mG w_290)) (fun _ h9 => h9) rfl dX0_append_8 ?_
    refine lv_aload_n hx hb dX0_append_11 rfl (lv_at hl 0 rfl) ?_
    refine va_get (D := D) (ci := 0) (v := .ref h1) (C := RX0) (T := TX0) (N := 3) hx hb hts inX0 hown hK hP 0 rfl rfl 0 (by decide) (hts _ (mG w_289)) (fun _ h9 => h9) rfl dX0_append_12 ?_
    refine va_alen (v := nI 8) hx hb hK hP 1 0 rfl rfl rfl dX0_append_15 ?_
    refine lv_icmp_ge (tgt := 39) hx hb dX0_append_16 (by decide) (fun c_2 => ?_) (fun c_2 => ?_)
    · have hG := hG.trans (if_pos c_2)
      have hP := hP.sub (ws' := [(h0, .inr (0, [.ref h1, .int ccount, .int cover])), (h1, .inl (aI, 8, .inl cf))]) [0, 1] rfl
      have hD := hD.sub (ws' := [(h0, .inr (0, [.ref h1, .int ccount, .int cover])), (h1, .inl (aI, 8, .inl cf))]) [0, 1] (by decide) rfl
      exact rt_v hQ hx hb hr (ccount, cf) hG hP hD hS (Nat.le_of_ble_eq_true rfl) (Nat.le_of_ble_eq_true rfl) dX0_append_39 hlk
    · have hG := hG.trans (if_neg c_2)
      refine lv_aload_n hx hb dX0_append_19 rfl (lv_at hl 0 rfl) ?_
      refine va_get (D := D) (ci := 0) (v := .ref h1) (C := RX0) (T := TX0) (N := 3) hx hb hts inX0 hown hK hP 0 rfl rfl 0 (by decide) (hts _ (mG w_289)) (fun _ h9 => h9) rfl dX0_append_20 ?_
      refine lv_aload_n hx hb dX0_append_23 rfl (lv_at hl 0 rfl) ?_
      refine va_get (D := D) (ci := 0) (v := .int ccount) (C := RX0) (T := TX0) (N := 3) hx hb hts inX0 hown hK hP 0 rfl rfl 1 (by decide) (hts _ (mG w_290)) (fun _ h9 => h9) rfl dX0_append_24 ?_
      refine lv_iload_n hx hb dX0_append_27 rfl (lv_at hl 1 rfl) ?_
      refine va_iast hx hb hK hP hD hS 1 0 rfl rfl (cnt_in c_1 c_2) dX0_append_28 (fun H locs hP hD hS => ?_)
      have hP : va_P D vwCl [(h0, .inr (0, [.ref h1, .int ccount, .int cover])), (h1, .inl (aI, 8, .inl (upd cf ccount.toNatClampNeg p0)))] H := hP
      have hD : va_D A [(h0, .inr (0, [.ref h1, .int ccount, .int cover])), (h1, .inl (aI, 8, .inl (upd cf ccount.toNatClampNeg p0)))] := hD
      refine lv_aload_n hx hb dX0_append_29 rfl (lv_at hl 0 rfl) ?_
      refine lv_dup hx hb dX0_append_30 rfl ?_
      refine va_get (D := D) (ci := 0) (v := .int ccount) (C := RX0) (T := TX0) (N := 3) hx hb hts inX0 hown hK hP 0 rfl rfl 1 (by decide) (hts _ (mG w_290)) (fun _ h9 => h9) rfl dX0_append_31 ?_
      refine lv_iconst (v := 1) hx hb dX0_append_34 (by decide) ?_
      refine lv_iadd hx hb dX0_append_35 ?_
      refine va_put (D := D) (ci := 0) (v := .int (ccount + 1)) (ty := .int) (C := RX0) (T := TX0) (N := 3) hx hb hts inX0 tyX0 tyX0_ok nmX0 hown hK hP hD hS 0 rfl rfl 1 (by decide) (hts _ (mG w_290)) (fun _ h9 => h9) rfl (by decide +kernel) rfl rfl (Nat.le_of_ble_eq_true rfl) dX0_append_36 (fun H locs hP hD hS => ?_)
      have hP : va_P D vwCl [(h0, .inr (0, [.ref h1, .int (ccount + 1), .int cover])), (h1, .inl (aI, 8, .inl (upd cf ccount.toNatClampNeg p0)))] H := hP
      have hD : va_D A [(h0, .inr (0, [.ref h1, .int (ccount + 1), .int cover])), (h1, .inl (aI, 8, .inl (upd cf ccount.toNatClampNeg p0)))] := hD
      have hP := hP.sub (ws' := [(h0, .inr (0, [.ref h1, .int (ccount + 1), .int cover])), (h1, .inl (aI, 8, .inl (upd cf ccount.toNatClampNeg p0)))]) [0, 1] rfl
      have hD := hD.sub (ws' := [(h0, .inr (0, [.ref h1, .int (ccount + 1), .int cover])), (h1, .inl (aI, 8, .inl (upd cf ccount.toNatClampNeg p0)))]) [0, 1] (by decide) rfl
      exact rt_v hQ hx hb hr ((ccount + 1), (upd cf ccount.toNatClampNeg p0)) hG hP hD hS (Nat.le_of_ble_eq_true rfl) (Nat.le_of_ble_eq_true rfl) dX0_append_39 hlk
theorem dX0_firstFloor_0 : decode cX0_firstFloor 0 = .ok (.aload_n 0, 1) := by decide +kernel
theorem dX0_firstFloor_1 : decode cX0_firstFloor 1 = .ok (.getfield 15, 3) := by decide +kernel
theorem dX0_firstFloor_4 : decode cX0_firstFloor 4 = .ok (.ifCond .le 12, 3) := by decide +kernel
theorem dX0_firstFloor_7 : decode cX0_firstFloor 7 = .ok (.aload_n 0, 1) := by decide +kernel
theorem dX0_firstFloor_8 : decode cX0_firstFloor 8 = .ok (.getfield 9, 3) := by decide +kernel
theorem dX0_firstFloor_11 : decode cX0_firstFloor 11 = .ok (.iconst 0, 1) := by decide +kernel
theorem dX0_firstFloor_12 : decode cX0_firstFloor 12 = .ok (.iaload, 1) := by decide +kernel
theorem dX0_firstFloor_13 : decode cX0_firstFloor 13 = .ok (.goto 4, 3) := by decide +kernel
theorem dX0_firstFloor_16 : decode cX0_firstFloor 16 = .ok (.iconst (-1), 1) := by decide +kernel
theorem dX0_firstFloor_17 : decode cX0_firstFloor 17 = .ok (.ireturn, 1) := by decide +kernel
def F_firstFloor (ccount : Int32) (cf : Nat → Int32) : Int32 :=
  if ccount ≤ 0 then
    (-1)
  else
    (cf 0)
theorem F_firstFloor_u (ccount : Int32) (cf : Nat → Int32) : F_firstFloor ccount cf =
  (if ccount ≤ 0 then
    (-1)
  else
    (cf 0)) := rfl
set_option maxHeartbeats 4000000 in
set_option maxRecDepth 100000 in
theorem c_firstFloor (l : Launch) (D : va_G) (aI aL aZ : ClassId) (sz : Nat) (h0 : Nat) (h1 : Nat) (ccount : Int32) (cover : Int32) (cf : Nat → Int32) : Met l yX0_firstFloor (.code yX0_firstFloor cX0_firstFloor 1 (some .int) :: Gw) ({ frames := 0, cells := 0, slots := 0, locals := 0 }) (va_Pc [.ref h0] (mpre D [(aI, .int), (aL, .long), (aZ, .boolean)] [(h0, .inr (0, [.ref h1, .int ccount, .int cover])), (h1, .inl (aI, 8, .inl cf))] sz)) ((fun A : Nat → Prop => va_Qi (fun (r : Int32) (u : Unit) => F_firstFloor ccount cf = r) (mpst D A (fun (u : Unit) => [(h0, .inr (0, [.ref h1, .int ccount, .int cover])), (h1, .inl (aI, 8, .inl cf))])) A) (va_A ([(h0, .inr (0, [.ref h1, .int ccount, .int cover])), (h1, .inl (aI, 8, .inl cf))]) sz)) 0 0 (va_A ([(h0, .inr (0, [.ref h1, .int ccount, .int cover])), (h1, .inl (aI, 8, .inl cf))]) sz) := by
  refine en (cc := cX0_firstFloor) (maxL := 1) (ret := (some .int)) (Qc := (fun A : Nat → Prop => va_Qi (fun (r : Int32) (u : Unit) => F_firstFloor ccount cf = r) (mpst D A (fun (u : Unit) => [(h0, .inr (0, [.ref h1, .int ccount, .int cover])), (h1, .inl (aI, 8, .inl cf))])) A)) (by decide) rfl (Nat.le_of_ble_eq_true rfl) ?_
  intro p e s m args below meth c A ls Q hQ hx hb hr hts hown hlk hnm hml hA hS hP hK hD hE hl
  have hown : s.vm.findClass RX0 = some m.cls := hown
  have hl : lv_has ls 1 [(0, .ref h0)] := hl
  have hG := F_firstFloor_u ccount cf
  refine lv_aload_n hx hb dX0_firstFloor_0 rfl (lv_at hl 0 rfl) ?_
  refine va_get (D := D) (ci := 0) (v := .int ccount) (C := RX0) (T := TX0) (N := 3) hx hb hts inX0 hown hK hP 0 rfl rfl 1 (by decide) (hts _ (mG w_290)) (fun _ h9 => h9) rfl dX0_firstFloor_1 ?_
  refine lv_if_le (tgt := 16) hx hb dX0_firstFloor_4 (by decide) (fun c_1 => ?_) (fun c_1 => ?_)
  · have hG := hG.trans (if_pos c_1)
    refine lv_iconst (v := (-1)) hx hb dX0_firstFloor_16 (by decide) ?_
    have hP := hP.sub (ws' := [(h0, .inr (0, [.ref h1, .int ccount, .int cover])), (h1, .inl (aI, 8, .inl cf))]) [0, 1] rfl
    have hD := hD.sub (ws' := [(h0, .inr (0, [.ref h1, .int ccount, .int cover])), (h1, .inl (aI, 8, .inl cf))]) [0, 1] (by decide) rfl
    exact rt_i hQ hx hb hr () hG hP hD hS (Nat.le_of_ble_eq_true rfl) (Nat.le_of_ble_eq_true rfl) dX0_firstFloor_17 hlk
  · have hG := hG.trans (if_neg c_1)
    refine lv_aload_n hx hb dX0_firstFloor_7 rfl (lv_at hl 0 rfl) ?_
    refine va_get (D := D) (ci := 0) (v := .ref h1) (C := RX0) (T := TX0) (N := 3) hx hb hts inX0 hown hK hP 0 rfl rfl 0 (by decide) (hts _ (mG w_289)) (fun _ h9 => h9) rfl dX0_firstFloor_8 ?_
    refine lv_iconst (v := 0) hx hb dX0_firstFloor_11 (by decide) ?_
    refine va_iald hx hb hK hP 1 0 rfl rfl (by unfold vp_in; decide) dX0_firstFloor_12 ?_
    refine lv_topi (fun y_2 hy_2 => ?_)
    obtain rfl : y_2 = (cf 0) := hy_2.trans (congrArg cf (by decide))
    refine lv_goto (tgt := 17) hx hb dX0_firstFloor_13 (by decide) ?_
    have hP := hP.sub (ws' := [(h0, .inr (0, [.ref h1, .int ccount, .int cover])), (h1, .inl (aI, 8, .inl cf))]) [0, 1] rfl
    have hD := hD.sub (ws' := [(h0, .inr (0, [.ref h1, .int ccount, .int cover])), (h1, .inl (aI, 8, .inl cf))]) [0, 1] (by decide) rfl
    exact rt_i hQ hx hb hr () hG hP hD hS (Nat.le_of_ble_eq_true rfl) (Nat.le_of_ble_eq_true rfl) dX0_firstFloor_17 hlk
theorem dX0_endFirst_0 : decode cX0_endFirst 0 = .ok (.aload_n 0, 1) := by decide +kernel
theorem dX0_endFirst_1 : decode cX0_endFirst 1 = .ok (.getfield 15, 3) := by decide +kernel
theorem dX0_endFirst_4 : decode cX0_endFirst 4 = .ok (.iconst 1, 1) := by decide +kernel
theorem dX0_endFirst_5 : decode cX0_endFirst 5 = .ok (.if_icmp .ge 4, 3) := by decide +kernel
theorem dX0_endFirst_8 : decode cX0_endFirst 8 = .ok (.return_, 1) := by decide +kernel
theorem dX0_endFirst_9 : decode cX0_endFirst 9 = .ok (.iconst 1, 1) := by decide +kernel
theorem dX0_endFirst_10 : decode cX0_endFirst 10 = .ok (.istore_n 1, 1) := by decide +kernel
theorem dX0_endFirst_11 : decode cX0_endFirst 11 = .ok (.iload_n 1, 1) := by decide +kernel
theorem dX0_endFirst_12 : decode cX0_endFirst 12 = .ok (.aload_n 0, 1) := by decide +kernel
theorem dX0_endFirst_13 : decode cX0_endFirst 13 = .ok (.getfield 15, 3) := by decide +kernel
theorem dX0_endFirst_16 : decode cX0_endFirst 16 = .ok (.if_icmp .ge 32, 3) := by decide +kernel
theorem dX0_endFirst_19 : decode cX0_endFirst 19 = .ok (.iload_n 1, 1) := by decide +kernel
theorem dX0_endFirst_20 : decode cX0_endFirst 20 = .ok (.aload_n 0, 1) := by decide +kernel
theorem dX0_endFirst_21 : decode cX0_endFirst 21 = .ok (.getfield 9, 3) := by decide +kernel
theorem dX0_endFirst_24 : decode cX0_endFirst 24 = .ok (.arraylength, 1) := by decide +kernel
theorem dX0_endFirst_25 : decode cX0_endFirst 25 = .ok (.if_icmp .ge 23, 3) := by decide +kernel
theorem dX0_endFirst_28 : decode cX0_endFirst 28 = .ok (.aload_n 0, 1) := by decide +kernel
theorem dX0_endFirst_29 : decode cX0_endFirst 29 = .ok (.getfield 9, 3) := by decide +kernel
theorem dX0_endFirst_32 : decode cX0_endFirst 32 = .ok (.iload_n 1, 1) := by decide +kernel
theorem dX0_endFirst_33 : decode cX0_endFirst 33 = .ok (.iconst 1, 1) := by decide +kernel
theorem dX0_endFirst_34 : decode cX0_endFirst 34 = .ok (.isub, 1) := by decide +kernel
theorem dX0_endFirst_35 : decode cX0_endFirst 35 = .ok (.aload_n 0, 1) := by decide +kernel
theorem dX0_endFirst_36 : decode cX0_endFirst 36 = .ok (.getfield 9, 3) := by decide +kernel
theorem dX0_endFirst_39 : decode cX0_endFirst 39 = .ok (.iload_n 1, 1) := by decide +kernel
theorem dX0_endFirst_40 : decode cX0_endFirst 40 = .ok (.iaload, 1) := by decide +kernel
theorem dX0_endFirst_41 : decode cX0_endFirst 41 = .ok (.iastore, 1) := by decide +kernel
theorem dX0_endFirst_42 : decode cX0_endFirst 42 = .ok (.iinc 1 1, 3) := by decide +kernel
theorem dX0_endFirst_45 : decode cX0_endFirst 45 = .ok (.goto (-34), 3) := by decide +kernel
theorem dX0_endFirst_48 : decode cX0_endFirst 48 = .ok (.aload_n 0, 1) := by decide +kernel
theorem dX0_endFirst_49 : decode cX0_endFirst 49 = .ok (.dup, 1) := by decide +kernel
theorem dX0_endFirst_50 : decode cX0_endFirst 50 = .ok (.getfield 15, 3) := by decide +kernel
theorem dX0_endFirst_53 : decode cX0_endFirst 53 = .ok (.iconst 1, 1) := by decide +kernel
theorem dX0_endFirst_54 : decode cX0_endFirst 54 = .ok (.isub, 1) := by decide +kernel
theorem dX0_endFirst_55 : decode cX0_endFirst 55 = .ok (.putfield 15, 3) := by decide +kernel
theorem dX0_endFirst_58 : decode cX0_endFirst 58 = .ok (.aload_n 0, 1) := by decide +kernel
theorem dX0_endFirst_59 : decode cX0_endFirst 59 = .ok (.dup, 1) := by decide +kernel
theorem dX0_endFirst_60 : decode cX0_endFirst 60 = .ok (.getfield 19, 3) := by decide +kernel
theorem dX0_endFirst_63 : decode cX0_endFirst 63 = .ok (.iconst 1, 1) := by decide +kernel
theorem dX0_endFirst_64 : decode cX0_endFirst 64 = .ok (.iadd, 1) := by decide +kernel
theorem dX0_endFirst_65 : decode cX0_endFirst 65 = .ok (.putfield 19, 3) := by decide +kernel
theorem dX0_endFirst_68 : decode cX0_endFirst 68 = .ok (.return_, 1) := by decide +kernel
def L_endFirst_11 (ccount : Int32) (cover : Int32) : Nat → Nat → (Nat → Int32) → Int32 × Int32 × (Nat → Int32)
  | 0, _, _ => (0, 0, fun _ => 0)
  | fu + 1, j, cg =>
    if ccount ≤ (nI j) then
      ((ccount - 1), (cover + 1), cg)
    else
      if (nI 8) ≤ (nI j) then
        ((ccount - 1), (cover + 1), cg)
      else
        L_endFirst_11 ccount cover fu (j + 1) (upd cg ((nI j) - 1).toNatClampNeg (cg (nI j).toNatClampNeg))
theorem L_endFirst_11_u (ccount : Int32) (cover : Int32) (fu : Nat) (j : Nat) (cg : Nat → Int32) : L_endFirst_11 ccount cover (fu + 1) j cg =
    (if ccount ≤ (nI j) then
      ((ccount - 1), (cover + 1), cg)
    else
      if (nI 8) ≤ (nI j) then
        ((ccount - 1), (cover + 1), cg)
      else
        L_endFirst_11 ccount cover fu (j + 1) (upd cg ((nI j) - 1).toNatClampNeg (cg (nI j).toNatClampNeg))) := rfl
def F_endFirst (ccount : Int32) (cover : Int32) (cf : Nat → Int32) : Int32 × Int32 × (Nat → Int32) :=
  if 1 ≤ ccount then
    L_endFirst_11 ccount cover 8 1 cf
  else
    (ccount, cover, cf)
theorem F_endFirst_u (ccount : Int32) (cover : Int32) (cf : Nat → Int32) : F_endFirst ccount cover cf =
  (if 1 ≤ ccount then
    L_endFirst_11 ccount cover 8 1 cf
  else
    (ccount, cover, cf)) := rfl
set_option maxHeartbeats 4000000 in
set_option maxRecDepth 100000 in
theorem c_endFirst (l : Launch) (D : va_G) (aI aL aZ : ClassId) (sz : Nat) (h0 : Nat) (h1 : Nat) (ccount : Int32) (cover : Int32) (cf : Nat → Int32) : Met l yX0_endFirst (.code yX0_endFirst cX0_endFirst 2 none :: Gw) ({ frames := 0, cells := 0, slots := 0, locals := 0 }) (va_Pc [.ref h0] (mpre D [(aI, .int), (aL, .long), (aZ, .boolean)] [(h0, .inr (0, [.ref h1, .int ccount, .int cover])), (h1, .inl (aI, 8, .inl cf))] sz)) ((fun A : Nat → Prop => va_Qv (fun (u : Int32 × Int32 × (Nat → Int32)) => match u with | (u0, u1, u2) => F_endFirst ccount cover cf = (u0, u1, u2)) (mpst D A (fun (u : Int32 × Int32 × (Nat → Int32)) => match u with | (u0, u1, u2) => [(h0, .inr (0, [.ref h1, .int u0, .int u1])), (h1, .inl (aI, 8, .inl u2))])) A) (va_A ([(h0, .inr (0, [.ref h1, .int ccount, .int cover])), (h1, .inl (aI, 8, .inl cf))]) sz)) 0 0 (va_A ([(h0, .inr (0, [.ref h1, .int ccount, .int cover])), (h1, .inl (aI, 8, .inl cf))]) sz) := by
  refine en (cc := cX0_endFirst) (maxL := 2) (ret := none) (Qc := (fun A : Nat → Prop => va_Qv (fun (u : Int32 × Int32 × (Nat → Int32)) => match u with | (u0, u1, u2) => F_endFirst ccount cover cf = (u0, u1, u2)) (mpst D A (fun (u : Int32 × Int32 × (Nat → Int32)) => match u with | (u0, u1, u2) => [(h0, .inr (0, [.ref h1, .int u0, .int u1])), (h1, .inl (aI, 8, .inl u2))])) A)) (by decide) rfl (Nat.le_of_ble_eq_true rfl) ?_
  intro p e s m args below meth c A ls Q hQ hx hb hr hts hown hlk hnm hml hA hS hP hK hD hE hl
  have hown : s.vm.findClass RX0 = some m.cls := hown
  have hl : lv_has ls 2 [(0, .ref h0)] := hl
  have hG := F_endFirst_u ccount cover cf
  refine lv_aload_n hx hb dX0_endFirst_0 rfl (lv_at hl 0 rfl) ?_
  refine va_get (D := D) (ci := 0) (v := .int ccount) (C := RX0) (T := TX0) (N := 3) hx hb hts inX0 hown hK hP 0 rfl rfl 1 (by decide) (hts _ (mG w_290)) (fun _ h9 => h9) rfl dX0_endFirst_1 ?_
  refine lv_iconst (v := 1) hx hb dX0_endFirst_4 (by decide) ?_
  refine lv_icmp_ge (tgt := 9) hx hb dX0_endFirst_5 (by decide) (fun c_1 => ?_) (fun c_1 => ?_)
  · have hG := hG.trans (if_pos c_1)
    refine lv_iconst (v := 1) hx hb dX0_endFirst_9 (by decide) ?_
    refine lv_istore_n (lv' := [(1, .int 1), (0, .ref h0)]) hx hb dX0_endFirst_10 rfl hl (by decide) rfl (fun ls hl => ?_)
    have loop11 : ∀ (fu : Nat) (j : Nat) (cg : Nat → Int32), 1 ≤ j → j ≤ 8 → 9 ≤ j + fu → F_endFirst ccount cover cf = L_endFirst_11 ccount cover fu j cg → ∀ (H : Heap) (locs : List Loc), va_P D vwCl [(h0, .inr (0, [.ref h1, .int ccount, .int cover])), (h1, .inl (aI, 8, .inl cg))] H → va_D A [(h0, .inr (0, [.ref h1, .int ccount, .int cover])), (h1, .inl (aI, 8, .inl cg))] → va_S A s.heap H locs → ∀ (ls : Array Slot), lv_has ls 2 [(1, .int (nI j)), (0, .ref h0)] → W p l e ({ frames := 0, cells := 0, slots := 0, locals := 0 }) s m args below meth c H locs 0 0 Q (F0 m 11 ls []) := by
      intro fu
      induction fu with
      | zero => intro j cg hj1 hj hm; exact absurd hm (by omega)
      | succ fu ih =>
        intro j cg hj1 hj hm hG H locs hP hD hS ls hl
        have hG := hG.trans (L_endFirst_11_u ccount cover fu j cg)
        refine lv_iload_n hx hb dX0_endFirst_11 rfl (lv_at hl 0 rfl) ?_
        refine lv_aload_n hx hb dX0_endFirst_12 rfl (lv_at hl 1 rfl) ?_
        refine va_get (D := D) (ci := 0) (v := .int ccount) (C := RX0) (T := TX0) (N := 3) hx hb hts inX0 hown hK hP 0 rfl rfl 1 (by decide) (hts _ (mG w_290)) (fun _ h9 => h9) rfl dX0_endFirst_13 ?_
        refine lv_icmp_ge (tgt := 48) hx hb dX0_endFirst_16 (by decide) (fun c_2 => ?_) (fun c_2 => ?_)
        · have hG := hG.trans (if_pos c_2)
          refine lv_aload_n hx hb dX0_endFirst_48 rfl (lv_at hl 1 rfl) ?_
          refine lv_dup hx hb dX0_endFirst_49 rfl ?_
          refine va_get (D := D) (ci := 0) (v := .int ccount) (C := RX0) (T := TX0) (N := 3) hx hb hts inX0 hown hK hP 0 rfl rfl 1 (by decide) (hts _ (mG w_290)) (fun _ h9 => h9) rfl dX0_endFirst_50 ?_
          refine lv_iconst (v := 1) hx hb dX0_endFirst_53 (by decide) ?_
          refine lv_isub hx hb dX0_endFirst_54 ?_
          refine va_put (D := D) (ci := 0) (v := .int (ccount - 1)) (ty := .int) (C := RX0) (T := TX0) (N := 3) hx hb hts inX0 tyX0 tyX0_ok nmX0 hown hK hP hD hS 0 rfl rfl 1 (by decide) (hts _ (mG w_290)) (fun _ h9 => h9) rfl (by decide +kernel) rfl rfl (Nat.le_of_ble_eq_true rfl) dX0_endFirst_55 (fun H locs hP hD hS => ?_)
          have hP : va_P D vwCl [(h0, .inr (0, [.ref h1, .int (ccount - 1), .int cover])), (h1, .inl (aI, 8, .inl cg))] H := hP
          have hD : va_D A [(h0, .inr (0, [.ref h1, .int (ccount - 1), .int cover])), (h1, .inl (aI, 8, .inl cg))] := hD
          refine lv_aload_n hx hb dX0_endFirst_58 rfl (lv_at hl 1 rfl) ?_
          refine lv_dup hx hb dX0_endFirst_59 rfl ?_
          refine va_get (D := D) (ci := 0) (v := .int cover) (C := RX0) (T := TX0) (N := 3) hx hb hts inX0 hown hK hP 0 rfl rfl 2 (by decide) (hts _ (mG w_292)) (fun _ h9 => h9) rfl dX0_endFirst_60 ?_
          refine lv_iconst (v := 1) hx hb dX0_endFirst_63 (by decide) ?_
          refine lv_iadd hx hb dX0_endFirst_64 ?_
          refine va_put (D := D) (ci := 0) (v := .int (cover + 1)) (ty := .int) (C := RX0) (T := TX0) (N := 3) hx hb hts inX0 tyX0 tyX0_ok nmX0 hown hK hP hD hS 0 rfl rfl 2 (by decide) (hts _ (mG w_292)) (fun _ h9 => h9) rfl (by decide +kernel) rfl rfl (Nat.le_of_ble_eq_true rfl) dX0_endFirst_65 (fun H locs hP hD hS => ?_)
          have hP : va_P D vwCl [(h0, .inr (0, [.ref h1, .int (ccount - 1), .int (cover + 1)])), (h1, .inl (aI, 8, .inl cg))] H := hP
          have hD : va_D A [(h0, .inr (0, [.ref h1, .int (ccount - 1), .int (cover + 1)])), (h1, .inl (aI, 8, .inl cg))] := hD
          have hP := hP.sub (ws' := [(h0, .inr (0, [.ref h1, .int (ccount - 1), .int (cover + 1)])), (h1, .inl (aI, 8, .inl cg))]) [0, 1] rfl
          have hD := hD.sub (ws' := [(h0, .inr (0, [.ref h1, .int (ccount - 1), .int (cover + 1)])), (h1, .inl (aI, 8, .inl cg))]) [0, 1] (by decide) rfl
          exact rt_v hQ hx hb hr ((ccount - 1), (cover + 1), cg) hG hP hD hS (Nat.le_of_ble_eq_true rfl) (Nat.le_of_ble_eq_true rfl) dX0_endFirst_68 hlk
        · have hG := hG.trans (if_neg c_2)
          refine lv_iload_n hx hb dX0_endFirst_19 rfl (lv_at hl 0 rfl) ?_
          refine lv_aload_n hx hb dX0_endFirst_20 rfl (lv_at hl 1 rfl) ?_
          refine va_get (D := D) (ci := 0) (v := .ref h1) (C := RX0) (T := TX0) (N := 3) hx hb hts inX0 hown hK hP 0 rfl rfl 0 (by decide) (hts _ (mG w_289)) (fun _ h9 => h9) rfl dX0_endFirst_21 ?_
          refine va_alen (v := nI 8) hx hb hK hP 1 0 rfl rfl rfl dX0_endFirst_24 ?_
          refine lv_icmp_ge (tgt := 48) hx hb dX0_endFirst_25 (by decide) (fun c_3 => ?_) (fun c_3 => ?_)
          · have hG := hG.trans (if_pos c_3)
            refine lv_aload_n hx hb dX0_endFirst_48 rfl (lv_at hl 1 rfl) ?_
            refine lv_dup hx hb dX0_endFirst_49 rfl ?_
            refine va_get (D := D) (ci := 0) (v := .int ccount) (C := RX0) (T := TX0) (N := 3) hx hb hts inX0 hown hK hP 0 rfl rfl 1 (by decide) (hts _ (mG w_290)) (fun _ h9 => h9) rfl dX0_endFirst_50 ?_
            refine lv_iconst (v := 1) hx hb dX0_endFirst_53 (by decide) ?_
            refine lv_isub hx hb dX0_endFirst_54 ?_
            refine va_put (D := D) (ci := 0) (v := .int (ccount - 1)) (ty := .int) (C := RX0) (T := TX0) (N := 3) hx hb hts inX0 tyX0 tyX0_ok nmX0 hown hK hP hD hS 0 rfl rfl 1 (by decide) (hts _ (mG w_290)) (fun _ h9 => h9) rfl (by decide +kernel) rfl rfl (Nat.le_of_ble_eq_true rfl) dX0_endFirst_55 (fun H locs hP hD hS => ?_)
            have hP : va_P D vwCl [(h0, .inr (0, [.ref h1, .int (ccount - 1), .int cover])), (h1, .inl (aI, 8, .inl cg))] H := hP
            have hD : va_D A [(h0, .inr (0, [.ref h1, .int (ccount - 1), .int cover])), (h1, .inl (aI, 8, .inl cg))] := hD
            refine lv_aload_n hx hb dX0_endFirst_58 rfl (lv_at hl 1 rfl) ?_
            refine lv_dup hx hb dX0_endFirst_59 rfl ?_
            refine va_get (D := D) (ci := 0) (v := .int cover) (C := RX0) (T := TX0) (N := 3) hx hb hts inX0 hown hK hP 0 rfl rfl 2 (by decide) (hts _ (mG w_292)) (fun _ h9 => h9) rfl dX0_endFirst_60 ?_
            refine lv_iconst (v := 1) hx hb dX0_endFirst_63 (by decide) ?_
            refine lv_iadd hx hb dX0_endFirst_64 ?_
            refine va_put (D := D) (ci := 0) (v := .int (cover + 1)) (ty := .int) (C := RX0) (T := TX0) (N := 3) hx hb hts inX0 tyX0 tyX0_ok nmX0 hown hK hP hD hS 0 rfl rfl 2 (by decide) (hts _ (mG w_292)) (fun _ h9 => h9) rfl (by decide +kernel) rfl rfl (Nat.le_of_ble_eq_true rfl) dX0_endFirst_65 (fun H locs hP hD hS => ?_)
            have hP : va_P D vwCl [(h0, .inr (0, [.ref h1, .int (ccount - 1), .int (cover + 1)])), (h1, .inl (aI, 8, .inl cg))] H := hP
            have hD : va_D A [(h0, .inr (0, [.ref h1, .int (ccount - 1), .int (cover + 1)])), (h1, .inl (aI, 8, .inl cg))] := hD
            have hP := hP.sub (ws' := [(h0, .inr (0, [.ref h1, .int (ccount - 1), .int (cover + 1)])), (h1, .inl (aI, 8, .inl cg))]) [0, 1] rfl
            have hD := hD.sub (ws' := [(h0, .inr (0, [.ref h1, .int (ccount - 1), .int (cover + 1)])), (h1, .inl (aI, 8, .inl cg))]) [0, 1] (by decide) rfl
            exact rt_v hQ hx hb hr ((ccount - 1), (cover + 1), cg) hG hP hD hS (Nat.le_of_ble_eq_true rfl) (Nat.le_of_ble_eq_true rfl) dX0_endFirst_68 hlk
          · have hG := hG.trans (if_neg c_3)
            refine lv_aload_n hx hb dX0_endFirst_28 rfl (lv_at hl 1 rfl) ?_
            refine va_get (D := D) (ci := 0) (v := .ref h1) (C := RX0) (T := TX0) (N := 3) hx hb hts inX0 hown hK hP 0 rfl rfl 0 (by decide) (hts _ (mG w_289)) (fun _ h9 => h9) rfl dX0_endFirst_29 ?_
            refine lv_iload_n hx hb dX0_endFirst_32 rfl (lv_at hl 0 rfl) ?_
            refine lv_iconst (v := 1) hx hb dX0_endFirst_33 (by decide) ?_
            refine lv_isub hx hb dX0_endFirst_34 ?_
            refine lv_aload_n hx hb dX0_endFirst_35 rfl (lv_at hl 1 rfl) ?_
            refine va_get (D := D) (ci := 0) (v := .ref h1) (C := RX0) (T := TX0) (N := 3) hx hb hts inX0 hown hK hP 0 rfl rfl 0 (by decide) (hts _ (mG w_289)) (fun _ h9 => h9) rfl dX0_endFirst_36 ?_
            refine lv_iload_n hx hb dX0_endFirst_39 rfl (lv_at hl 0 rfl) ?_
            refine va_iald hx hb hK hP 1 0 rfl rfl (ix_in (by decide) hj c_3) dX0_endFirst_40 ?_
            refine va_iast hx hb hK hP hD hS 1 0 rfl rfl (ix_m1 hj1 hj (by decide)) dX0_endFirst_41 (fun H locs hP hD hS => ?_)
            have hP : va_P D vwCl [(h0, .inr (0, [.ref h1, .int ccount, .int cover])), (h1, .inl (aI, 8, .inl (upd cg ((nI j) - 1).toNatClampNeg (cg (nI j).toNatClampNeg))))] H := hP
            have hD : va_D A [(h0, .inr (0, [.ref h1, .int ccount, .int cover])), (h1, .inl (aI, 8, .inl (upd cg ((nI j) - 1).toNatClampNeg (cg (nI j).toNatClampNeg))))] := hD
            refine lv_iinc (v := (nI (j + 1))) (lv' := [(1, .int (nI (j + 1))), (0, .ref h0)]) hx hb dX0_endFirst_42 hl (k := 0) rfl (nI_1 _) (by decide) rfl (fun ls hl => ?_)
            refine lv_goto (tgt := 11) hx hb dX0_endFirst_45 (by decide) ?_
            exact ih (j + 1) (upd cg ((nI j) - 1).toNatClampNeg (cg (nI j).toNatClampNeg)) (by omega) (ix_lt (by decide) hj c_3) (by omega) hG _ _ (hP.sub [0, 1] rfl) (hD.sub [0, 1] (by decide) rfl) hS ls (lv_sub hl [0, 1] rfl)
    exact loop11 8 1 cf (Nat.le_refl _) (by decide) (by decide) hG _ _ hP hD hS ls (lv_sub hl [0, 1] rfl)
  · have hG := hG.trans (if_neg c_1)
    have hP := hP.sub (ws' := [(h0, .inr (0, [.ref h1, .int ccount, .int cover])), (h1, .inl (aI, 8, .inl cf))]) [0, 1] rfl
    have hD := hD.sub (ws' := [(h0, .inr (0, [.ref h1, .int ccount, .int cover])), (h1, .inl (aI, 8, .inl cf))]) [0, 1] (by decide) rfl
    exact rt_v hQ hx hb hr (ccount, cover, cf) hG hP hD hS (Nat.le_of_ble_eq_true rfl) (Nat.le_of_ble_eq_true rfl) dX0_endFirst_8 hlk
