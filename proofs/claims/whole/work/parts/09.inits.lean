theorem dX2_init_0 : decode cX2_init 0 = .ok (.aload_n 0, 1) := by decide +kernel
theorem dX2_init_1 : decode cX2_init 1 = .ok (.invokespecial 3, 3) := by decide +kernel
theorem dX2_init_4 : decode cX2_init 4 = .ok (.aload_n 0, 1) := by decide +kernel
theorem dX2_init_5 : decode cX2_init 5 = .ok (.iconst 0, 1) := by decide +kernel
theorem dX2_init_6 : decode cX2_init 6 = .ok (.putfield 9, 3) := by decide +kernel
theorem dX2_init_9 : decode cX2_init 9 = .ok (.aload_n 0, 1) := by decide +kernel
theorem dX2_init_10 : decode cX2_init 10 = .ok (.iconst 5, 1) := by decide +kernel
theorem dX2_init_11 : decode cX2_init 11 = .ok (.putfield 15, 3) := by decide +kernel
theorem dX2_init_14 : decode cX2_init 14 = .ok (.aload_n 0, 1) := by decide +kernel
theorem dX2_init_15 : decode cX2_init 15 = .ok (.bipush 20, 2) := by decide +kernel
theorem dX2_init_17 : decode cX2_init 17 = .ok (.putfield 18, 3) := by decide +kernel
theorem dX2_init_20 : decode cX2_init 20 = .ok (.return_, 1) := by decide +kernel
def F_doorInit : Unit :=
  ()
theorem F_doorInit_u : F_doorInit =
  (()) := rfl
set_option maxHeartbeats 4000000 in
set_option maxRecDepth 100000 in
theorem c_doorInit (l : Launch) (D : va_G) (aI aL aZ : ClassId) (sz : Nat) (h0 : Nat) : Met l yX2_init (.code yX2_init cX2_init 1 none :: Gw) ({ frames := 1, cells := 0, slots := 0, locals := 20 }) (va_Pc [.ref h0] (mpre D [(aI, .int), (aL, .long), (aZ, .boolean)] [(h0, .inr (2, [.int 0, .int 0, .int 0, .int 0, .int 0, .int 0, .int 0, .int 0]))] sz)) ((fun A : Nat → Prop => va_Qv (fun (u : Unit) => F_doorInit = ()) (mpst D A (fun (u : Unit) => [(h0, .inr (2, [.int 0, .int 0, .int 5, .int 20, .int 0, .int 0, .int 0, .int 0]))])) A) (va_A ([(h0, .inr (2, [.int 0, .int 0, .int 0, .int 0, .int 0, .int 0, .int 0, .int 0]))]) sz)) 0 0 (va_A ([(h0, .inr (2, [.int 0, .int 0, .int 0, .int 0, .int 0, .int 0, .int 0, .int 0]))]) sz) := by
  refine en (cc := cX2_init) (maxL := 1) (ret := none) (Qc := (fun A : Nat → Prop => va_Qv (fun (u : Unit) => F_doorInit = ()) (mpst D A (fun (u : Unit) => [(h0, .inr (2, [.int 0, .int 0, .int 5, .int 20, .int 0, .int 0, .int 0, .int 0]))])) A)) (by decide) rfl (Nat.le_of_ble_eq_true rfl) ?_
  intro p e s m args below meth c A ls Q hQ hx hb hr hts hown hlk hnm hml hA hS hP hK hD hE hl
  have hown : s.vm.findClass RX2 = some m.cls := hown
  have hl : lv_has ls 1 [(0, .ref h0)] := hl
  have hG := F_doorInit_u
  refine lv_aload_n hx hb dX2_init_0 rfl (lv_at hl 0 rfl) ?_
  refine W.objInit hx hb hown (hts _ (mG w_249)) (hts _ (mG w_54)) (hts _ (mG w_55)) rfl (by rw [hml]; exact hl.1) rfl dX2_init_1 (Nat.le_of_ble_eq_true rfl) (Nat.le_of_ble_eq_true rfl) ?_
  refine W.eq (g2 := F0 m 4 ls []) rfl ?_
  refine lv_aload_n hx hb dX2_init_4 rfl (lv_at hl 0 rfl) ?_
  refine lv_iconst (v := 0) hx hb dX2_init_5 (by decide) ?_
  refine va_put (D := D) (ci := 2) (v := .int 0) (ty := .int) (C := RX2) (T := TX2) (N := 8) hx hb hts inX2 tyX2 tyX2_ok nmX2 hown hK hP hD hS 0 rfl rfl 0 (by decide) (hts _ (mG w_250)) (fun _ h9 => h9) rfl (by decide +kernel) rfl rfl (Nat.le_of_ble_eq_true rfl) dX2_init_6 (fun H locs hP hD hS => ?_)
  have hP : va_P D vwCl [(h0, .inr (2, [.int 0, .int 0, .int 0, .int 0, .int 0, .int 0, .int 0, .int 0]))] H := hP
  have hD : va_D A [(h0, .inr (2, [.int 0, .int 0, .int 0, .int 0, .int 0, .int 0, .int 0, .int 0]))] := hD
  refine lv_aload_n hx hb dX2_init_9 rfl (lv_at hl 0 rfl) ?_
  refine lv_iconst (v := 5) hx hb dX2_init_10 (by decide) ?_
  refine va_put (D := D) (ci := 2) (v := .int 5) (ty := .int) (C := RX2) (T := TX2) (N := 8) hx hb hts inX2 tyX2 tyX2_ok nmX2 hown hK hP hD hS 0 rfl rfl 2 (by decide) (hts _ (mG w_255)) (fun _ h9 => h9) rfl (by decide +kernel) rfl rfl (Nat.le_of_ble_eq_true rfl) dX2_init_11 (fun H locs hP hD hS => ?_)
  have hP : va_P D vwCl [(h0, .inr (2, [.int 0, .int 0, .int 5, .int 0, .int 0, .int 0, .int 0, .int 0]))] H := hP
  have hD : va_D A [(h0, .inr (2, [.int 0, .int 0, .int 5, .int 0, .int 0, .int 0, .int 0, .int 0]))] := hD
  refine lv_aload_n hx hb dX2_init_14 rfl (lv_at hl 0 rfl) ?_
  refine lv_bipush (v := 20) hx hb dX2_init_15 (by decide) ?_
  refine va_put (D := D) (ci := 2) (v := .int 20) (ty := .int) (C := RX2) (T := TX2) (N := 8) hx hb hts inX2 tyX2 tyX2_ok nmX2 hown hK hP hD hS 0 rfl rfl 3 (by decide) (hts _ (mG w_257)) (fun _ h9 => h9) rfl (by decide +kernel) rfl rfl (Nat.le_of_ble_eq_true rfl) dX2_init_17 (fun H locs hP hD hS => ?_)
  have hP : va_P D vwCl [(h0, .inr (2, [.int 0, .int 0, .int 5, .int 20, .int 0, .int 0, .int 0, .int 0]))] H := hP
  have hD : va_D A [(h0, .inr (2, [.int 0, .int 0, .int 5, .int 20, .int 0, .int 0, .int 0, .int 0]))] := hD
  have hP := hP.sub (ws' := [(h0, .inr (2, [.int 0, .int 0, .int 5, .int 20, .int 0, .int 0, .int 0, .int 0]))]) [0] rfl
  have hD := hD.sub (ws' := [(h0, .inr (2, [.int 0, .int 0, .int 5, .int 20, .int 0, .int 0, .int 0, .int 0]))]) [0] (by decide) rfl
  exact rt_v hQ hx hb hr () hG hP hD hS (Nat.le_of_ble_eq_true rfl) (Nat.le_of_ble_eq_true rfl) dX2_init_20 hlk
theorem dX0_init_0 : decode cX0_init 0 = .ok (.aload_n 0, 1) := by decide +kernel
theorem dX0_init_1 : decode cX0_init 1 = .ok (.invokespecial 3, 3) := by decide +kernel
theorem dX0_init_4 : decode cX0_init 4 = .ok (.aload_n 0, 1) := by decide +kernel
theorem dX0_init_5 : decode cX0_init 5 = .ok (.bipush 8, 2) := by decide +kernel
theorem dX0_init_7 : decode cX0_init 7 = .ok (.newarray .int, 2) := by decide +kernel
theorem dX0_init_9 : decode cX0_init 9 = .ok (.putfield 9, 3) := by decide +kernel
theorem dX0_init_12 : decode cX0_init 12 = .ok (.return_, 1) := by decide +kernel
def F_callsInit : Unit :=
  ()
theorem F_callsInit_u : F_callsInit =
  (()) := rfl
set_option maxHeartbeats 4000000 in
set_option maxRecDepth 100000 in
theorem c_callsInit (l : Launch) (D : va_G) (aI aL aZ : ClassId) (sz : Nat) (h0 : Nat) : Met l yX0_init (.code yX0_init cX0_init 1 none :: Gw) ({ frames := 1, cells := 1, slots := 8, locals := 20 }) (va_Pc [.ref h0] (mpre D [(aI, .int), (aL, .long), (aZ, .boolean)] [(h0, .inr (0, [.null, .int 0, .int 0]))] sz)) ((fun A : Nat → Prop => va_Qv (fun (u : Nat) => match u with | q_1 => F_callsInit = ()) (mpst D A (fun (u : Nat) => match u with | q_1 => [(h0, .inr (0, [.ref q_1, .int 0, .int 0])), (q_1, .inl (aI, 8, .inl (fun _ => 0)))])) A) (va_A ([(h0, .inr (0, [.null, .int 0, .int 0]))]) sz)) 1 8 (va_A ([(h0, .inr (0, [.null, .int 0, .int 0]))]) sz) := by
  refine en (cc := cX0_init) (maxL := 1) (ret := none) (Qc := (fun A : Nat → Prop => va_Qv (fun (u : Nat) => match u with | q_1 => F_callsInit = ()) (mpst D A (fun (u : Nat) => match u with | q_1 => [(h0, .inr (0, [.ref q_1, .int 0, .int 0])), (q_1, .inl (aI, 8, .inl (fun _ => 0)))])) A)) (by decide) rfl (Nat.le_of_ble_eq_true rfl) ?_
  intro p e s m args below meth c A ls Q hQ hx hb hr hts hown hlk hnm hml hA hS hP hK hD hE hl
  have hown : s.vm.findClass RX0 = some m.cls := hown
  have hl : lv_has ls 1 [(0, .ref h0)] := hl
  have hG := F_callsInit_u
  refine lv_aload_n hx hb dX0_init_0 rfl (lv_at hl 0 rfl) ?_
  refine W.objInit hx hb hown (hts _ (mG w_288)) (hts _ (mG w_54)) (hts _ (mG w_55)) rfl (by rw [hml]; exact hl.1) rfl dX0_init_1 (Nat.le_of_ble_eq_true rfl) (Nat.le_of_ble_eq_true rfl) ?_
  refine W.eq (g2 := F0 m 4 ls []) rfl ?_
  refine lv_aload_n hx hb dX0_init_4 rfl (lv_at hl 0 rfl) ?_
  refine lv_bipush (v := 8) hx hb dX0_init_5 (by decide) ?_
  refine my_newi (N := 8) (M := 8) hx hb (hts _ (mG w_78)) hK hP hD hS hA (by decide) (by decide) (Nat.le_refl _) (by decide) (Nat.le_of_ble_eq_true rfl) (Nat.le_of_ble_eq_true rfl) dX0_init_7 (fun q_1 H hP hD hS => ?_)
  have hP : va_P D vwCl [(h0, .inr (0, [.null, .int 0, .int 0])), (q_1, .inl (aI, 8, .inl (fun _ => 0)))] H := hP
  have hD : va_D A [(h0, .inr (0, [.null, .int 0, .int 0])), (q_1, .inl (aI, 8, .inl (fun _ => 0)))] := hD
  refine va_putF (D := D) (ci := 0) (v := .ref q_1) (ty := (.array .int)) (C := RX0) (T := TX0) (N := 3) hx hb hts inX0 tyX0 tyX0_ok nmX0 hown hK hP hD hS 0 rfl rfl 0 (by decide) (hts _ (mG w_289)) (fun _ h9 => h9) rfl hnm rfl (by decide +kernel) rfl rfl (Nat.le_of_ble_eq_true rfl) dX0_init_9 (fun H locs hP hD hS => ?_)
  have hP : va_P D vwCl [(h0, .inr (0, [.ref q_1, .int 0, .int 0])), (q_1, .inl (aI, 8, .inl (fun _ => 0)))] H := hP
  have hD : va_D A [(h0, .inr (0, [.ref q_1, .int 0, .int 0])), (q_1, .inl (aI, 8, .inl (fun _ => 0)))] := hD
  have hP := hP.sub (ws' := [(h0, .inr (0, [.ref q_1, .int 0, .int 0])), (q_1, .inl (aI, 8, .inl (fun _ => 0)))]) [0, 1] rfl
  have hD := hD.sub (ws' := [(h0, .inr (0, [.ref q_1, .int 0, .int 0])), (q_1, .inl (aI, 8, .inl (fun _ => 0)))]) [0, 1] (by decide) rfl
  exact rt_v hQ hx hb hr q_1 hG hP hD hS (Nat.le_of_ble_eq_true rfl) (Nat.le_of_ble_eq_true rfl) dX0_init_12 hlk
theorem dX3_init_0 : decode cX3_init 0 = .ok (.aload_n 0, 1) := by decide +kernel
theorem dX3_init_1 : decode cX3_init 1 = .ok (.invokespecial 3, 3) := by decide +kernel
theorem dX3_init_4 : decode cX3_init 4 = .ok (.aload_n 0, 1) := by decide +kernel
theorem dX3_init_5 : decode cX3_init 5 = .ok (.iload_n 1, 1) := by decide +kernel
theorem dX3_init_6 : decode cX3_init 6 = .ok (.iconst 1, 1) := by decide +kernel
theorem dX3_init_7 : decode cX3_init 7 = .ok (.invokestatic 9, 3) := by decide +kernel
theorem dX3_init_10 : decode cX3_init 10 = .ok (.newarray .int, 2) := by decide +kernel
theorem dX3_init_12 : decode cX3_init 12 = .ok (.putfield 15, 3) := by decide +kernel
theorem dX3_init_15 : decode cX3_init 15 = .ok (.iconst 0, 1) := by decide +kernel
theorem dX3_init_16 : decode cX3_init 16 = .ok (.istore_n 2, 1) := by decide +kernel
theorem dX3_init_17 : decode cX3_init 17 = .ok (.iload_n 2, 1) := by decide +kernel
theorem dX3_init_18 : decode cX3_init 18 = .ok (.aload_n 0, 1) := by decide +kernel
theorem dX3_init_19 : decode cX3_init 19 = .ok (.getfield 15, 3) := by decide +kernel
theorem dX3_init_22 : decode cX3_init 22 = .ok (.arraylength, 1) := by decide +kernel
theorem dX3_init_23 : decode cX3_init 23 = .ok (.if_icmp .ge 20, 3) := by decide +kernel
theorem dX3_init_26 : decode cX3_init 26 = .ok (.aload_n 0, 1) := by decide +kernel
theorem dX3_init_27 : decode cX3_init 27 = .ok (.getfield 15, 3) := by decide +kernel
theorem dX3_init_30 : decode cX3_init 30 = .ok (.iload_n 2, 1) := by decide +kernel
theorem dX3_init_31 : decode cX3_init 31 = .ok (.sipush 1000, 3) := by decide +kernel
theorem dX3_init_34 : decode cX3_init 34 = .ok (.iload_n 2, 1) := by decide +kernel
theorem dX3_init_35 : decode cX3_init 35 = .ok (.imul, 1) := by decide +kernel
theorem dX3_init_36 : decode cX3_init 36 = .ok (.iastore, 1) := by decide +kernel
theorem dX3_init_37 : decode cX3_init 37 = .ok (.iinc 2 1, 3) := by decide +kernel
theorem dX3_init_40 : decode cX3_init 40 = .ok (.goto (-23), 3) := by decide +kernel
theorem dX3_init_43 : decode cX3_init 43 = .ok (.aload_n 0, 1) := by decide +kernel
theorem dX3_init_44 : decode cX3_init 44 = .ok (.sipush 500, 3) := by decide +kernel
theorem dX3_init_47 : decode cX3_init 47 = .ok (.putfield 21, 3) := by decide +kernel
theorem dX3_init_50 : decode cX3_init 50 = .ok (.return_, 1) := by decide +kernel
theorem mx1 {n : Nat} (hn1 : 1 ≤ n) (hn : n ≤ 20) : (if nI n < 1 then 1 else nI n) = nI n := by
  rw [if_neg (by rw [lit_1]; exact nI_nlt hn1 (by omega))]
def L_shaftInit_17 (n : Nat) : Nat → Nat → (Nat → Int32) → (Nat → Int32)
  | 0, _, _ => (fun _ => 0)
  | fu + 1, j, cg =>
    if (nI n) ≤ (nI j) then
      cg
    else
      L_shaftInit_17 n fu (j + 1) (upd cg (nI j).toNatClampNeg (1000 * (nI j)))
theorem L_shaftInit_17_u (n : Nat) (fu : Nat) (j : Nat) (cg : Nat → Int32) : L_shaftInit_17 n (fu + 1) j cg =
    (if (nI n) ≤ (nI j) then
      cg
    else
      L_shaftInit_17 n fu (j + 1) (upd cg (nI j).toNatClampNeg (1000 * (nI j)))) := rfl
def F_shaftInit (n : Nat) : (Nat → Int32) :=
  L_shaftInit_17 n (n + 1) 0 (fun _ => 0)
theorem F_shaftInit_u (n : Nat) : F_shaftInit n =
  (L_shaftInit_17 n (n + 1) 0 (fun _ => 0)) := rfl
set_option maxHeartbeats 4000000 in
set_option maxRecDepth 100000 in
theorem c_shaftInit (l : Launch) (D : va_G) (aI aL aZ : ClassId) (sz : Nat) (h0 : Nat) (n : Nat) (hn1 : 1 ≤ n) (hn : n ≤ 20) : Met l yX3_init (.code yX3_init cX3_init 3 none :: Gw) ({ frames := 1, cells := 1, slots := 20, locals := 21 }) (va_Pc [.ref h0, .int (nI n)] (mpre D [(aI, .int), (aL, .long), (aZ, .boolean)] [(h0, .inr (3, [.null, .int 0]))] sz)) ((fun A : Nat → Prop => va_Qv (fun (u : Nat × (Nat → Int32)) => match u with | (q_2, u0) => F_shaftInit n = u0) (mpst D A (fun (u : Nat × (Nat → Int32)) => match u with | (q_2, u0) => [(h0, .inr (3, [.ref q_2, .int 500])), (q_2, .inl (aI, n, .inl u0))])) A) (va_A ([(h0, .inr (3, [.null, .int 0]))]) sz)) 1 20 (va_A ([(h0, .inr (3, [.null, .int 0]))]) sz) := by
  refine en (cc := cX3_init) (maxL := 3) (ret := none) (Qc := (fun A : Nat → Prop => va_Qv (fun (u : Nat × (Nat → Int32)) => match u with | (q_2, u0) => F_shaftInit n = u0) (mpst D A (fun (u : Nat × (Nat → Int32)) => match u with | (q_2, u0) => [(h0, .inr (3, [.ref q_2, .int 500])), (q_2, .inl (aI, n, .inl u0))])) A)) (by decide) rfl (Nat.le_of_ble_eq_true rfl) ?_
  intro p e s m args below meth c A ls Q hQ hx hb hr hts hown hlk hnm hml hA hS hP hK hD hE hl
  have hown : s.vm.findClass RX3 = some m.cls := hown
  have hl : lv_has ls 3 [(0, .ref h0), (1, .int (nI n))] := hl
  have hG := F_shaftInit_u n
  refine lv_aload_n hx hb dX3_init_0 rfl (lv_at hl 0 rfl) ?_
  refine W.objInit hx hb hown (hts _ (mG w_67)) (hts _ (mG w_54)) (hts _ (mG w_55)) rfl (by rw [hml]; exact hl.1) rfl dX3_init_1 (Nat.le_of_ble_eq_true rfl) (Nat.le_of_ble_eq_true rfl) ?_
  refine W.eq (g2 := F0 m 4 ls []) rfl ?_
  refine lv_aload_n hx hb dX3_init_4 rfl (lv_at hl 0 rfl) ?_
  refine lv_iload_n hx hb dX3_init_5 rfl (lv_at hl 1 rfl) ?_
  refine lv_iconst (v := 1) hx hb dX3_init_6 (by decide) ?_
  refine va_mmax hx hb (by rw [hml]; exact hl.1.symm) hown (hts _ (mG w_68)) (hts _ (mG w_59)) (hts _ (mG w_37)) (hts _ (mG w_60)) (Nat.le_of_ble_eq_true rfl) (Nat.le_of_ble_eq_true rfl) (Nat.le_of_ble_eq_true rfl) (Nat.le_of_ble_eq_true rfl) dX3_init_7 ?_
  refine lv_topi (fun y_1 hy_1 => ?_)
  obtain rfl : y_1 = (nI n) := hy_1.trans (mx1 hn1 hn)
  refine my_newi (N := n) (M := 20) hx hb (hts _ (mG w_78)) hK hP hD hS hA (nI_pos (by omega)) (nI_clamp (by omega)) hn (by decide) (Nat.le_of_ble_eq_true rfl) (Nat.le_of_ble_eq_true rfl) dX3_init_10 (fun q_2 H hP hD hS => ?_)
  have hP : va_P D vwCl [(h0, .inr (3, [.null, .int 0])), (q_2, .inl (aI, n, .inl (fun _ => 0)))] H := hP
  have hD : va_D A [(h0, .inr (3, [.null, .int 0])), (q_2, .inl (aI, n, .inl (fun _ => 0)))] := hD
  refine va_putF (D := D) (ci := 3) (v := .ref q_2) (ty := (.array .int)) (C := RX3) (T := TX3) (N := 2) hx hb hts inX3 tyX3 tyX3_ok nmX3 hown hK hP hD hS 0 rfl rfl 0 (by decide) (hts _ (mG w_69)) (fun _ h9 => h9) rfl hnm rfl (by decide +kernel) rfl rfl (Nat.le_of_ble_eq_true rfl) dX3_init_12 (fun H locs hP hD hS => ?_)
  have hP : va_P D vwCl [(h0, .inr (3, [.ref q_2, .int 0])), (q_2, .inl (aI, n, .inl (fun _ => 0)))] H := hP
  have hD : va_D A [(h0, .inr (3, [.ref q_2, .int 0])), (q_2, .inl (aI, n, .inl (fun _ => 0)))] := hD
  refine lv_iconst (v := 0) hx hb dX3_init_15 (by decide) ?_
  refine lv_istore_n (lv' := [(2, .int 0), (0, .ref h0), (1, .int (nI n))]) hx hb dX3_init_16 rfl hl (by decide) rfl (fun ls hl => ?_)
  have loop17 : ∀ (fu : Nat) (j : Nat) (cg : Nat → Int32), j ≤ n → n + 1 ≤ j + fu → F_shaftInit n = L_shaftInit_17 n fu j cg → ∀ (H : Heap) (locs : List Loc), va_P D vwCl [(h0, .inr (3, [.ref q_2, .int 0])), (q_2, .inl (aI, n, .inl cg))] H → va_D A [(h0, .inr (3, [.ref q_2, .int 0])), (q_2, .inl (aI, n, .inl cg))] → va_S A s.heap H locs → ∀ (ls : Array Slot), lv_has ls 3 [(2, .int (nI j)), (0, .ref h0), (1, .int (nI n))] → W p l e ({ frames := 1, cells := 1, slots := 20, locals := 21 }) s m args below meth c H locs 1 20 Q (F0 m 17 ls []) := by
    intro fu
    induction fu with
    | zero => intro j cg hj hm; exact absurd hm (by omega)
    | succ fu ih =>
      intro j cg hj hm hG H locs hP hD hS ls hl
      have hG := hG.trans (L_shaftInit_17_u n fu j cg)
      refine lv_iload_n hx hb dX3_init_17 rfl (lv_at hl 0 rfl) ?_
      refine lv_aload_n hx hb dX3_init_18 rfl (lv_at hl 1 rfl) ?_
      refine va_get (D := D) (ci := 3) (v := .ref q_2) (C := RX3) (T := TX3) (N := 2) hx hb hts inX3 hown hK hP 0 rfl rfl 0 (by decide) (hts _ (mG w_69)) (fun _ h9 => h9) rfl dX3_init_19 ?_
      refine va_alen (v := nI n) hx hb hK hP 1 0 rfl rfl rfl dX3_init_22 ?_
      refine lv_icmp_ge (tgt := 43) hx hb dX3_init_23 (by decide) (fun c_3 => ?_) (fun c_3 => ?_)
      · have hG := hG.trans (if_pos c_3)
        refine lv_aload_n hx hb dX3_init_43 rfl (lv_at hl 1 rfl) ?_
        refine lv_sipush (v := 500) hx hb dX3_init_44 (by decide) ?_
        refine va_put (D := D) (ci := 3) (v := .int 500) (ty := .int) (C := RX3) (T := TX3) (N := 2) hx hb hts inX3 tyX3 tyX3_ok nmX3 hown hK hP hD hS 0 rfl rfl 1 (by decide) (hts _ (mG w_70)) (fun _ h9 => h9) rfl (by decide +kernel) rfl rfl (Nat.le_of_ble_eq_true rfl) dX3_init_47 (fun H locs hP hD hS => ?_)
        have hP : va_P D vwCl [(h0, .inr (3, [.ref q_2, .int 500])), (q_2, .inl (aI, n, .inl cg))] H := hP
        have hD : va_D A [(h0, .inr (3, [.ref q_2, .int 500])), (q_2, .inl (aI, n, .inl cg))] := hD
        have hP := hP.sub (ws' := [(h0, .inr (3, [.ref q_2, .int 500])), (q_2, .inl (aI, n, .inl cg))]) [0, 1] rfl
        have hD := hD.sub (ws' := [(h0, .inr (3, [.ref q_2, .int 500])), (q_2, .inl (aI, n, .inl cg))]) [0, 1] (by decide) rfl
        exact rt_v hQ hx hb hr (q_2, cg) hG hP hD hS (Nat.le_of_ble_eq_true rfl) (Nat.le_of_ble_eq_true rfl) dX3_init_50 hlk
      · have hG := hG.trans (if_neg c_3)
        refine lv_aload_n hx hb dX3_init_26 rfl (lv_at hl 1 rfl) ?_
        refine va_get (D := D) (ci := 3) (v := .ref q_2) (C := RX3) (T := TX3) (N := 2) hx hb hts inX3 hown hK hP 0 rfl rfl 0 (by decide) (hts _ (mG w_69)) (fun _ h9 => h9) rfl dX3_init_27 ?_
        refine lv_iload_n hx hb dX3_init_30 rfl (lv_at hl 0 rfl) ?_
        refine lv_sipush (v := 1000) hx hb dX3_init_31 (by decide) ?_
        refine lv_iload_n hx hb dX3_init_34 rfl (lv_at hl 0 rfl) ?_
        refine lv_imul hx hb dX3_init_35 ?_
        refine va_iast hx hb hK hP hD hS 1 0 rfl rfl (ix_in (by omega) hj c_3) dX3_init_36 (fun H locs hP hD hS => ?_)
        have hP : va_P D vwCl [(h0, .inr (3, [.ref q_2, .int 0])), (q_2, .inl (aI, n, .inl (upd cg (nI j).toNatClampNeg (1000 * (nI j)))))] H := hP
        have hD : va_D A [(h0, .inr (3, [.ref q_2, .int 0])), (q_2, .inl (aI, n, .inl (upd cg (nI j).toNatClampNeg (1000 * (nI j)))))] := hD
        refine lv_iinc (v := (nI (j + 1))) (lv' := [(2, .int (nI (j + 1))), (0, .ref h0), (1, .int (nI n))]) hx hb dX3_init_37 hl (k := 0) rfl (nI_1 _) (by decide) rfl (fun ls hl => ?_)
        refine lv_goto (tgt := 17) hx hb dX3_init_40 (by decide) ?_
        exact ih (j + 1) (upd cg (nI j).toNatClampNeg (1000 * (nI j))) (ix_lt (by omega) hj c_3) (by omega) hG _ _ (hP.sub [0, 1] rfl) (hD.sub [0, 1] (by decide) rfl) hS ls (lv_sub hl [0, 1, 2] rfl)
  exact loop17 (n + 1) 0 (fun _ => 0) (Nat.zero_le _) (by omega) hG _ _ hP hD hS ls (lv_sub hl [0, 1, 2] rfl)
theorem dX1_init_0 : decode cX1_init 0 = .ok (.aload_n 0, 1) := by decide +kernel
theorem dX1_init_1 : decode cX1_init 1 = .ok (.invokespecial 3, 3) := by decide +kernel
theorem dX1_init_4 : decode cX1_init 4 = .ok (.aload_n 0, 1) := by decide +kernel
theorem dX1_init_5 : decode cX1_init 5 = .ok (.new 9, 3) := by decide +kernel
theorem dX1_init_8 : decode cX1_init 8 = .ok (.dup, 1) := by decide +kernel
theorem dX1_init_9 : decode cX1_init 9 = .ok (.invokespecial 11, 3) := by decide +kernel
theorem dX1_init_12 : decode cX1_init 12 = .ok (.putfield 12, 3) := by decide +kernel
theorem dX1_init_15 : decode cX1_init 15 = .ok (.aload_n 0, 1) := by decide +kernel
theorem dX1_init_16 : decode cX1_init 16 = .ok (.new 18, 3) := by decide +kernel
theorem dX1_init_19 : decode cX1_init 19 = .ok (.dup, 1) := by decide +kernel
theorem dX1_init_20 : decode cX1_init 20 = .ok (.invokespecial 20, 3) := by decide +kernel
theorem dX1_init_23 : decode cX1_init 23 = .ok (.putfield 21, 3) := by decide +kernel
theorem dX1_init_26 : decode cX1_init 26 = .ok (.aload_n 0, 1) := by decide +kernel
theorem dX1_init_27 : decode cX1_init 27 = .ok (.bipush 100, 2) := by decide +kernel
theorem dX1_init_29 : decode cX1_init 29 = .ok (.putfield 25, 3) := by decide +kernel
theorem dX1_init_32 : decode cX1_init 32 = .ok (.aload_n 0, 1) := by decide +kernel
theorem dX1_init_33 : decode cX1_init 33 = .ok (.bipush 20, 2) := by decide +kernel
theorem dX1_init_35 : decode cX1_init 35 = .ok (.putfield 29, 3) := by decide +kernel
theorem dX1_init_38 : decode cX1_init 38 = .ok (.aload_n 0, 1) := by decide +kernel
theorem dX1_init_39 : decode cX1_init 39 = .ok (.bipush 40, 2) := by decide +kernel
theorem dX1_init_41 : decode cX1_init 41 = .ok (.putfield 32, 3) := by decide +kernel
theorem dX1_init_44 : decode cX1_init 44 = .ok (.aload_n 0, 1) := by decide +kernel
theorem dX1_init_45 : decode cX1_init 45 = .ok (.iconst 5, 1) := by decide +kernel
theorem dX1_init_46 : decode cX1_init 46 = .ok (.putfield 35, 3) := by decide +kernel
theorem dX1_init_49 : decode cX1_init 49 = .ok (.aload_n 0, 1) := by decide +kernel
theorem dX1_init_50 : decode cX1_init 50 = .ok (.bipush 10, 2) := by decide +kernel
theorem dX1_init_52 : decode cX1_init 52 = .ok (.putfield 38, 3) := by decide +kernel
theorem dX1_init_55 : decode cX1_init 55 = .ok (.aload_n 0, 1) := by decide +kernel
theorem dX1_init_56 : decode cX1_init 56 = .ok (.sipush 1000, 3) := by decide +kernel
theorem dX1_init_59 : decode cX1_init 59 = .ok (.putfield 41, 3) := by decide +kernel
theorem dX1_init_62 : decode cX1_init 62 = .ok (.aload_n 0, 1) := by decide +kernel
theorem dX1_init_63 : decode cX1_init 63 = .ok (.iconst (-1), 1) := by decide +kernel
theorem dX1_init_64 : decode cX1_init 64 = .ok (.putfield 44, 3) := by decide +kernel
theorem dX1_init_67 : decode cX1_init 67 = .ok (.aload_n 0, 1) := by decide +kernel
theorem dX1_init_68 : decode cX1_init 68 = .ok (.iconst 2, 1) := by decide +kernel
theorem dX1_init_69 : decode cX1_init 69 = .ok (.putfield 47, 3) := by decide +kernel
theorem dX1_init_72 : decode cX1_init 72 = .ok (.aload_n 0, 1) := by decide +kernel
theorem dX1_init_73 : decode cX1_init 73 = .ok (.iload_n 1, 1) := by decide +kernel
theorem dX1_init_74 : decode cX1_init 74 = .ok (.putfield 50, 3) := by decide +kernel
theorem dX1_init_77 : decode cX1_init 77 = .ok (.aload_n 0, 1) := by decide +kernel
theorem dX1_init_78 : decode cX1_init 78 = .ok (.iload_n 2, 1) := by decide +kernel
theorem dX1_init_79 : decode cX1_init 79 = .ok (.putfield 53, 3) := by decide +kernel
theorem dX1_init_82 : decode cX1_init 82 = .ok (.return_, 1) := by decide +kernel
def F_carInit : Unit :=
  cb F_doorInit fun _ =>
    cb F_callsInit fun _ =>
      ()
theorem F_carInit_u : F_carInit =
  (cb F_doorInit fun _ =>
    cb F_callsInit fun _ =>
      ()) := rfl
set_option maxHeartbeats 4000000 in
set_option maxRecDepth 100000 in
theorem c_carInit (l : Launch) (D : va_G) (aI aL aZ : ClassId) (sz : Nat) (h0 : Nat) (p0 : Int32) (p1 : Int32) : Met l yX1_init (.code yX1_init cX1_init 3 none :: Gw) ({ frames := 2, cells := 3, slots := 19, locals := 40 }) (va_Pc [.ref h0, .int p0, .int p1] (mpre D [(aI, .int), (aL, .long), (aZ, .boolean)] [(h0, .inr (1, [.int 0, .null, .null, .int 0, .int 0, .int 0, .int 0, .int 0, .int 0, .int 0, .int 0, .int 0, .int 0, .int 0, .int 0, .int 0, .int 0, .int 0, .int 0]))] sz)) ((fun A : Nat → Prop => va_Qv (fun (u : Nat × Nat × Nat) => match u with | (q_1, q_3, q_4) => F_carInit = ()) (mpst D A (fun (u : Nat × Nat × Nat) => match u with | (q_1, q_3, q_4) => [(h0, .inr (1, [.int p1, .ref q_1, .ref q_3, .int p0, .int 0, .int 0, .int 100, .int 20, .int 40, .int 5, .int 10, .int 0, .int 1000, .int 0, .int (-1), .int 2, .int 0, .int 0, .int 0])), (q_1, .inr (2, [.int 0, .int 0, .int 5, .int 20, .int 0, .int 0, .int 0, .int 0])), (q_3, .inr (0, [.ref q_4, .int 0, .int 0])), (q_4, .inl (aI, 8, .inl (fun _ => 0)))])) A) (va_A ([(h0, .inr (1, [.int 0, .null, .null, .int 0, .int 0, .int 0, .int 0, .int 0, .int 0, .int 0, .int 0, .int 0, .int 0, .int 0, .int 0, .int 0, .int 0, .int 0, .int 0]))]) sz)) 3 19 (va_A ([(h0, .inr (1, [.int 0, .null, .null, .int 0, .int 0, .int 0, .int 0, .int 0, .int 0, .int 0, .int 0, .int 0, .int 0, .int 0, .int 0, .int 0, .int 0, .int 0, .int 0]))]) sz) := by
  refine en (cc := cX1_init) (maxL := 3) (ret := none) (Qc := (fun A : Nat → Prop => va_Qv (fun (u : Nat × Nat × Nat) => match u with | (q_1, q_3, q_4) => F_carInit = ()) (mpst D A (fun (u : Nat × Nat × Nat) => match u with | (q_1, q_3, q_4) => [(h0, .inr (1, [.int p1, .ref q_1, .ref q_3, .int p0, .int 0, .int 0, .int 100, .int 20, .int 40, .int 5, .int 10, .int 0, .int 1000, .int 0, .int (-1), .int 2, .int 0, .int 0, .int 0])), (q_1, .inr (2, [.int 0, .int 0, .int 5, .int 20, .int 0, .int 0, .int 0, .int 0])), (q_3, .inr (0, [.ref q_4, .int 0, .int 0])), (q_4, .inl (aI, 8, .inl (fun _ => 0)))])) A)) (by decide) rfl (Nat.le_of_ble_eq_true rfl) ?_
  intro p e s m args below meth c A ls Q hQ hx hb hr hts hown hlk hnm hml hA hS hP hK hD hE hl
  have hown : s.vm.findClass RX1 = some m.cls := hown
  have hl : lv_has ls 3 [(0, .ref h0), (1, .int p0), (2, .int p1)] := hl
  have hG := F_carInit_u
  refine lv_aload_n hx hb dX1_init_0 rfl (lv_at hl 0 rfl) ?_
  refine W.objInit hx hb hown (hts _ (mG w_243)) (hts _ (mG w_54)) (hts _ (mG w_55)) rfl (by rw [hml]; exact hl.1) rfl dX1_init_1 (Nat.le_of_ble_eq_true rfl) (Nat.le_of_ble_eq_true rfl) ?_
  refine W.eq (g2 := F0 m 4 ls []) rfl ?_
  refine lv_aload_n hx hb dX1_init_4 rfl (lv_at hl 0 rfl) ?_
  refine va_new (ci := 2) (fs := [.int 0, .int 0, .int 0, .int 0, .int 0, .int 0, .int 0, .int 0]) (C := RX2) (T := TX2) (N := 8) hx hb hts inX2 tyX2 tyX2_ok hown (hts _ (mG w_244)) (hts _ (mG w_245)) (hts _ (mG w_45)) hK hP hD hS hA rfl (by decide +kernel) (Nat.le_of_ble_eq_true rfl) (Nat.le_of_ble_eq_true rfl) dX1_init_5 (fun q_1 H hP hD hS => ?_)
  have hP : va_P D vwCl [(h0, .inr (1, [.int 0, .null, .null, .int 0, .int 0, .int 0, .int 0, .int 0, .int 0, .int 0, .int 0, .int 0, .int 0, .int 0, .int 0, .int 0, .int 0, .int 0, .int 0])), (q_1, .inr (2, [.int 0, .int 0, .int 0, .int 0, .int 0, .int 0, .int 0, .int 0]))] H := hP
  have hD : va_D A [(h0, .inr (1, [.int 0, .null, .null, .int 0, .int 0, .int 0, .int 0, .int 0, .int 0, .int 0, .int 0, .int 0, .int 0, .int 0, .int 0, .int 0, .int 0, .int 0, .int 0])), (q_1, .inr (2, [.int 0, .int 0, .int 0, .int 0, .int 0, .int 0, .int 0, .int 0]))] := hD
  refine lv_dup hx hb dX1_init_8 rfl ?_
  refine my_v (wr := [(h0, .inr (1, [.int 0, .null, .null, .int 0, .int 0, .int 0, .int 0, .int 0, .int 0, .int 0, .int 0, .int 0, .int 0, .int 0, .int 0, .int 0, .int 0, .int 0, .int 0]))]) [1] [0] (va_runIN (As := []) (rest := [.ref q_1, .ref h0]) ⟨hx, hb, hml, hown, hts⟩ (c_doorInit l D aI aL aZ _ q_1) ⟨(va_cnB 0 hts (gC w_248) rfl rfl rfl (nwM hE 0 rfl) (hts _ (mG w_45)) (by decide +kernel) ⟨Nat.le_of_ble_eq_true rfl, Nat.le_of_ble_eq_true rfl⟩), rfl, hts _ (mG w_247)⟩ (pre_of hK hP hD hS hA hE [1] rfl (by decide) _) rfl rfl hl.1 rfl (lv_room (Nat.le_of_ble_eq_true rfl)) dX1_init_9 ⟨Nat.le_of_ble_eq_true rfl, Nat.le_of_ble_eq_true rfl⟩) hP hD hS hA rfl rfl (by decide) (by decide) (fun u_ H locs hw_2 hP hD hS => ?_)
  have hw_2 : F_doorInit = () := hw_2
  have hG := hG.trans (cb_e hw_2)
  have hP : va_P D vwCl [(h0, .inr (1, [.int 0, .null, .null, .int 0, .int 0, .int 0, .int 0, .int 0, .int 0, .int 0, .int 0, .int 0, .int 0, .int 0, .int 0, .int 0, .int 0, .int 0, .int 0])), (q_1, .inr (2, [.int 0, .int 0, .int 5, .int 20, .int 0, .int 0, .int 0, .int 0]))] H := hP
  have hD : va_D A [(h0, .inr (1, [.int 0, .null, .null, .int 0, .int 0, .int 0, .int 0, .int 0, .int 0, .int 0, .int 0, .int 0, .int 0, .int 0, .int 0, .int 0, .int 0, .int 0, .int 0])), (q_1, .inr (2, [.int 0, .int 0, .int 5, .int 20, .int 0, .int 0, .int 0, .int 0]))] := hD
  refine va_putF (D := D) (ci := 1) (v := .ref q_1) (ty := (.object "CarSteps$Door")) (C := RX1) (T := TX1) (N := 19) hx hb hts inX1 tyX1 tyX1_ok nmX1 hown hK hP hD hS 0 rfl rfl 1 (by decide) (hts _ (mG w_302)) (fun _ h9 => h9) rfl hnm rfl (by decide +kernel) rfl rfl (Nat.le_of_ble_eq_true rfl) dX1_init_12 (fun H locs hP hD hS => ?_)
  have hP : va_P D vwCl [(h0, .inr (1, [.int 0, .ref q_1, .null, .int 0, .int 0, .int 0, .int 0, .int 0, .int 0, .int 0, .int 0, .int 0, .int 0, .int 0, .int 0, .int 0, .int 0, .int 0, .int 0])), (q_1, .inr (2, [.int 0, .int 0, .int 5, .int 20, .int 0, .int 0, .int 0, .int 0]))] H := hP
  have hD : va_D A [(h0, .inr (1, [.int 0, .ref q_1, .null, .int 0, .int 0, .int 0, .int 0, .int 0, .int 0, .int 0, .int 0, .int 0, .int 0, .int 0, .int 0, .int 0, .int 0, .int 0, .int 0])), (q_1, .inr (2, [.int 0, .int 0, .int 5, .int 20, .int 0, .int 0, .int 0, .int 0]))] := hD
  refine lv_aload_n hx hb dX1_init_15 rfl (lv_at hl 0 rfl) ?_
  refine va_new (ci := 0) (fs := [.null, .int 0, .int 0]) (C := RX0) (T := TX0) (N := 3) hx hb hts inX0 tyX0 tyX0_ok hown (hts _ (mG w_283)) (hts _ (mG w_284)) (hts _ (mG w_46)) hK hP hD hS hA rfl (by decide +kernel) (Nat.le_of_ble_eq_true rfl) (Nat.le_of_ble_eq_true rfl) dX1_init_16 (fun q_3 H hP hD hS => ?_)
  have hP : va_P D vwCl [(h0, .inr (1, [.int 0, .ref q_1, .null, .int 0, .int 0, .int 0, .int 0, .int 0, .int 0, .int 0, .int 0, .int 0, .int 0, .int 0, .int 0, .int 0, .int 0, .int 0, .int 0])), (q_1, .inr (2, [.int 0, .int 0, .int 5, .int 20, .int 0, .int 0, .int 0, .int 0])), (q_3, .inr (0, [.null, .int 0, .int 0]))] H := hP
  have hD : va_D A [(h0, .inr (1, [.int 0, .ref q_1, .null, .int 0, .int 0, .int 0, .int 0, .int 0, .int 0, .int 0, .int 0, .int 0, .int 0, .int 0, .int 0, .int 0, .int 0, .int 0, .int 0])), (q_1, .inr (2, [.int 0, .int 0, .int 5, .int 20, .int 0, .int 0, .int 0, .int 0])), (q_3, .inr (0, [.null, .int 0, .int 0]))] := hD
  refine lv_dup hx hb dX1_init_19 rfl ?_
  refine my_v (wr := [(h0, .inr (1, [.int 0, .ref q_1, .null, .int 0, .int 0, .int 0, .int 0, .int 0, .int 0, .int 0, .int 0, .int 0, .int 0, .int 0, .int 0, .int 0, .int 0, .int 0, .int 0])), (q_1, .inr (2, [.int 0, .int 0, .int 5, .int 20, .int 0, .int 0, .int 0, .int 0]))]) [2] [0, 1] (va_runIN (As := []) (rest := [.ref q_3, .ref h0]) ⟨hx, hb, hml, hown, hts⟩ (c_callsInit l D aI aL aZ _ q_3) ⟨(va_cnB 0 hts (gC w_287) rfl rfl rfl (nwM hE 1 rfl) (hts _ (mG w_46)) (by decide +kernel) ⟨Nat.le_of_ble_eq_true rfl, Nat.le_of_ble_eq_true rfl⟩), rfl, hts _ (mG w_286)⟩ (pre_of hK hP hD hS hA hE [2] rfl (by decide) _) rfl rfl hl.1 rfl (lv_room (Nat.le_of_ble_eq_true rfl)) dX1_init_20 ⟨Nat.le_of_ble_eq_true rfl, Nat.le_of_ble_eq_true rfl⟩) hP hD hS hA rfl rfl (by decide) (by decide) (fun u_ H locs hw_5 hP hD hS => ?_)
  obtain ⟨q_4, rfl⟩ : ∃ z, z = u_ := ⟨_, rfl⟩
  have hw_5 : F_callsInit = () := hw_5
  have hG := hG.trans (cb_e hw_5)
  have hP : va_P D vwCl [(h0, .inr (1, [.int 0, .ref q_1, .null, .int 0, .int 0, .int 0, .int 0, .int 0, .int 0, .int 0, .int 0, .int 0, .int 0, .int 0, .int 0, .int 0, .int 0, .int 0, .int 0])), (q_1, .inr (2, [.int 0, .int 0, .int 5, .int 20, .int 0, .int 0, .int 0, .int 0])), (q_3, .inr (0, [.ref q_4, .int 0, .int 0])), (q_4, .inl (aI, 8, .inl (fun _ => 0)))] H := hP
  have hD : va_D A [(h0, .inr (1, [.int 0, .ref q_1, .null, .int 0, .int 0, .int 0, .int 0, .int 0, .int 0, .int 0, .int 0, .int 0, .int 0, .int 0, .int 0, .int 0, .int 0, .int 0, .int 0])), (q_1, .inr (2, [.int 0, .int 0, .int 5, .int 20, .int 0, .int 0, .int 0, .int 0])), (q_3, .inr (0, [.ref q_4, .int 0, .int 0])), (q_4, .inl (aI, 8, .inl (fun _ => 0)))] := hD
  refine va_putF (D := D) (ci := 1) (v := .ref q_3) (ty := (.object "CarSteps$Calls")) (C := RX1) (T := TX1) (N := 19) hx hb hts inX1 tyX1 tyX1_ok nmX1 hown hK hP hD hS 0 rfl rfl 2 (by decide) (hts _ (mG w_304)) (fun _ h9 => h9) rfl hnm rfl (by decide +kernel) rfl rfl (Nat.le_of_ble_eq_true rfl) dX1_init_23 (fun H locs hP hD hS => ?_)
  have hP : va_P D vwCl [(h0, .inr (1, [.int 0, .ref q_1, .ref q_3, .int 0, .int 0, .int 0, .int 0, .int 0, .int 0, .int 0, .int 0, .int 0, .int 0, .int 0, .int 0, .int 0, .int 0, .int 0, .int 0])), (q_1, .inr (2, [.int 0, .int 0, .int 5, .int 20, .int 0, .int 0, .int 0, .int 0])), (q_3, .inr (0, [.ref q_4, .int 0, .int 0])), (q_4, .inl (aI, 8, .inl (fun _ => 0)))] H := hP
  have hD : va_D A [(h0, .inr (1, [.int 0, .ref q_1, .ref q_3, .int 0, .int 0, .int 0, .int 0, .int 0, .int 0, .int 0, .int 0, .int 0, .int 0, .int 0, .int 0, .int 0, .int 0, .int 0, .int 0])), (q_1, .inr (2, [.int 0, .int 0, .int 5, .int 20, .int 0, .int 0, .int 0, .int 0])), (q_3, .inr (0, [.ref q_4, .int 0, .int 0])), (q_4, .inl (aI, 8, .inl (fun _ => 0)))] := hD
  refine lv_aload_n hx hb dX1_init_26 rfl (lv_at hl 0 rfl) ?_
  refine lv_bipush (v := 100) hx hb dX1_init_27 (by decide) ?_
  refine va_put (D := D) (ci := 1) (v := .int 100) (ty := .int) (C := RX1) (T := TX1) (N := 19) hx hb hts inX1 tyX1 tyX1_ok nmX1 hown hK hP hD hS 0 rfl rfl 6 (by decide) (hts _ (mG w_312)) (fun _ h9 => h9) rfl (by decide +kernel) rfl rfl (Nat.le_of_ble_eq_true rfl) dX1_init_29 (fun H locs hP hD hS => ?_)
  have hP : va_P D vwCl [(h0, .inr (1, [.int 0, .ref q_1, .ref q_3, .int 0, .int 0, .int 0, .int 100, .int 0, .int 0, .int 0, .int 0, .int 0, .int 0, .int 0, .int 0, .int 0, .int 0, .int 0, .int 0])), (q_1, .inr (2, [.int 0, .int 0, .int 5, .int 20, .int 0, .int 0, .int 0, .int 0])), (q_3, .inr (0, [.ref q_4, .int 0, .int 0])), (q_4, .inl (aI, 8, .inl (fun _ => 0)))] H := hP
  have hD : va_D A [(h0, .inr (1, [.int 0, .ref q_1, .ref q_3, .int 0, .int 0, .int 0, .int 100, .int 0, .int 0, .int 0, .int 0, .int 0, .int 0, .int 0, .int 0, .int 0, .int 0, .int 0, .int 0])), (q_1, .inr (2, [.int 0, .int 0, .int 5, .int 20, .int 0, .int 0, .int 0, .int 0])), (q_3, .inr (0, [.ref q_4, .int 0, .int 0])), (q_4, .inl (aI, 8, .inl (fun _ => 0)))] := hD
  refine lv_aload_n hx hb dX1_init_32 rfl (lv_at hl 0 rfl) ?_
  refine lv_bipush (v := 20) hx hb dX1_init_33 (by decide) ?_
  refine va_put (D := D) (ci := 1) (v := .int 20) (ty := .int) (C := RX1) (T := TX1) (N := 19) hx hb hts inX1 tyX1 tyX1_ok nmX1 hown hK hP hD hS 0 rfl rfl 7 (by decide) (hts _ (mG w_314)) (fun _ h9 => h9) rfl (by decide +kernel) rfl rfl (Nat.le_of_ble_eq_true rfl) dX1_init_35 (fun H locs hP hD hS => ?_)
  have hP : va_P D vwCl [(h0, .inr (1, [.int 0, .ref q_1, .ref q_3, .int 0, .int 0, .int 0, .int 100, .int 20, .int 0, .int 0, .int 0, .int 0, .int 0, .int 0, .int 0, .int 0, .int 0, .int 0, .int 0])), (q_1, .inr (2, [.int 0, .int 0, .int 5, .int 20, .int 0, .int 0, .int 0, .int 0])), (q_3, .inr (0, [.ref q_4, .int 0, .int 0])), (q_4, .inl (aI, 8, .inl (fun _ => 0)))] H := hP
  have hD : va_D A [(h0, .inr (1, [.int 0, .ref q_1, .ref q_3, .int 0, .int 0, .int 0, .int 100, .int 20, .int 0, .int 0, .int 0, .int 0, .int 0, .int 0, .int 0, .int 0, .int 0, .int 0, .int 0])), (q_1, .inr (2, [.int 0, .int 0, .int 5, .int 20, .int 0, .int 0, .int 0, .int 0])), (q_3, .inr (0, [.ref q_4, .int 0, .int 0])), (q_4, .inl (aI, 8, .inl (fun _ => 0)))] := hD
  refine lv_aload_n hx hb dX1_init_38 rfl (lv_at hl 0 rfl) ?_
  refine lv_bipush (v := 40) hx hb dX1_init_39 (by decide) ?_
  refine va_put (D := D) (ci := 1) (v := .int 40) (ty := .int) (C := RX1) (T := TX1) (N := 19) hx hb hts inX1 tyX1 tyX1_ok nmX1 hown hK hP hD hS 0 rfl rfl 8 (by decide) (hts _ (mG w_316)) (fun _ h9 => h9) rfl (by decide +kernel) rfl rfl (Nat.le_of_ble_eq_true rfl) dX1_init_41 (fun H locs hP hD hS => ?_)
  have hP : va_P D vwCl [(h0, .inr (1, [.int 0, .ref q_1, .ref q_3, .int 0, .int 0, .int 0, .int 100, .int 20, .int 40, .int 0, .int 0, .int 0, .int 0, .int 0, .int 0, .int 0, .int 0, .int 0, .int 0])), (q_1, .inr (2, [.int 0, .int 0, .int 5, .int 20, .int 0, .int 0, .int 0, .int 0])), (q_3, .inr (0, [.ref q_4, .int 0, .int 0])), (q_4, .inl (aI, 8, .inl (fun _ => 0)))] H := hP
  have hD : va_D A [(h0, .inr (1, [.int 0, .ref q_1, .ref q_3, .int 0, .int 0, .int 0, .int 100, .int 20, .int 40, .int 0, .int 0, .int 0, .int 0, .int 0, .int 0, .int 0, .int 0, .int 0, .int 0])), (q_1, .inr (2, [.int 0, .int 0, .int 5, .int 20, .int 0, .int 0, .int 0, .int 0])), (q_3, .inr (0, [.ref q_4, .int 0, .int 0])), (q_4, .inl (aI, 8, .inl (fun _ => 0)))] := hD
  refine lv_aload_n hx hb dX1_init_44 rfl (lv_at hl 0 rfl) ?_
  refine lv_iconst (v := 5) hx hb dX1_init_45 (by decide) ?_
  refine va_put (D := D) (ci := 1) (v := .int 5) (ty := .int) (C := RX1) (T := TX1) (N := 19) hx hb hts inX1 tyX1 tyX1_ok nmX1 hown hK hP hD hS 0 rfl rfl 9 (by decide) (hts _ (mG w_318)) (fun _ h9 => h9) rfl (by decide +kernel) rfl rfl (Nat.le_of_ble_eq_true rfl) dX1_init_46 (fun H locs hP hD hS => ?_)
  have hP : va_P D vwCl [(h0, .inr (1, [.int 0, .ref q_1, .ref q_3, .int 0, .int 0, .int 0, .int 100, .int 20, .int 40, .int 5, .int 0, .int 0, .int 0, .int 0, .int 0, .int 0, .int 0, .int 0, .int 0])), (q_1, .inr (2, [.int 0, .int 0, .int 5, .int 20, .int 0, .int 0, .int 0, .int 0])), (q_3, .inr (0, [.ref q_4, .int 0, .int 0])), (q_4, .inl (aI, 8, .inl (fun _ => 0)))] H := hP
  have hD : va_D A [(h0, .inr (1, [.int 0, .ref q_1, .ref q_3, .int 0, .int 0, .int 0, .int 100, .int 20, .int 40, .int 5, .int 0, .int 0, .int 0, .int 0, .int 0, .int 0, .int 0, .int 0, .int 0])), (q_1, .inr (2, [.int 0, .int 0, .int 5, .int 20, .int 0, .int 0, .int 0, .int 0])), (q_3, .inr (0, [.ref q_4, .int 0, .int 0])), (q_4, .inl (aI, 8, .inl (fun _ => 0)))] := hD
  refine lv_aload_n hx hb dX1_init_49 rfl (lv_at hl 0 rfl) ?_
  refine lv_bipush (v := 10) hx hb dX1_init_50 (by decide) ?_
  refine va_put (D := D) (ci := 1) (v := .int 10) (ty := .int) (C := RX1) (T := TX1) (N := 19) hx hb hts inX1 tyX1 tyX1_ok nmX1 hown hK hP hD hS 0 rfl rfl 10 (by decide) (hts _ (mG w_320)) (fun _ h9 => h9) rfl (by decide +kernel) rfl rfl (Nat.le_of_ble_eq_true rfl) dX1_init_52 (fun H locs hP hD hS => ?_)
  have hP : va_P D vwCl [(h0, .inr (1, [.int 0, .ref q_1, .ref q_3, .int 0, .int 0, .int 0, .int 100, .int 20, .int 40, .int 5, .int 10, .int 0, .int 0, .int 0, .int 0, .int 0, .int 0, .int 0, .int 0])), (q_1, .inr (2, [.int 0, .int 0, .int 5, .int 20, .int 0, .int 0, .int 0, .int 0])), (q_3, .inr (0, [.ref q_4, .int 0, .int 0])), (q_4, .inl (aI, 8, .inl (fun _ => 0)))] H := hP
  have hD : va_D A [(h0, .inr (1, [.int 0, .ref q_1, .ref q_3, .int 0, .int 0, .int 0, .int 100, .int 20, .int 40, .int 5, .int 10, .int 0, .int 0, .int 0, .int 0, .int 0, .int 0, .int 0, .int 0])), (q_1, .inr (2, [.int 0, .int 0, .int 5, .int 20, .int 0, .int 0, .int 0, .int 0])), (q_3, .inr (0, [.ref q_4, .int 0, .int 0])), (q_4, .inl (aI, 8, .inl (fun _ => 0)))] := hD
  refine lv_aload_n hx hb dX1_init_55 rfl (lv_at hl 0 rfl) ?_
  refine lv_sipush (v := 1000) hx hb dX1_init_56 (by decide) ?_
  refine va_put (D := D) (ci := 1) (v := .int 1000) (ty := .int) (C := RX1) (T := TX1) (N := 19) hx hb hts inX1 tyX1 tyX1_ok nmX1 hown hK hP hD hS 0 rfl rfl 12 (by decide) (hts _ (mG w_324)) (fun _ h9 => h9) rfl (by decide +kernel) rfl rfl (Nat.le_of_ble_eq_true rfl) dX1_init_59 (fun H locs hP hD hS => ?_)
  have hP : va_P D vwCl [(h0, .inr (1, [.int 0, .ref q_1, .ref q_3, .int 0, .int 0, .int 0, .int 100, .int 20, .int 40, .int 5, .int 10, .int 0, .int 1000, .int 0, .int 0, .int 0, .int 0, .int 0, .int 0])), (q_1, .inr (2, [.int 0, .int 0, .int 5, .int 20, .int 0, .int 0, .int 0, .int 0])), (q_3, .inr (0, [.ref q_4, .int 0, .int 0])), (q_4, .inl (aI, 8, .inl (fun _ => 0)))] H := hP
  have hD : va_D A [(h0, .inr (1, [.int 0, .ref q_1, .ref q_3, .int 0, .int 0, .int 0, .int 100, .int 20, .int 40, .int 5, .int 10, .int 0, .int 1000, .int 0, .int 0, .int 0, .int 0, .int 0, .int 0])), (q_1, .inr (2, [.int 0, .int 0, .int 5, .int 20, .int 0, .int 0, .int 0, .int 0])), (q_3, .inr (0, [.ref q_4, .int 0, .int 0])), (q_4, .inl (aI, 8, .inl (fun _ => 0)))] := hD
  refine lv_aload_n hx hb dX1_init_62 rfl (lv_at hl 0 rfl) ?_
  refine lv_iconst (v := (-1)) hx hb dX1_init_63 (by decide) ?_
  refine va_put (D := D) (ci := 1) (v := .int (-1)) (ty := .int) (C := RX1) (T := TX1) (N := 19) hx hb hts inX1 tyX1 tyX1_ok nmX1 hown hK hP hD hS 0 rfl rfl 14 (by decide) (hts _ (mG w_328)) (fun _ h9 => h9) rfl (by decide +kernel) rfl rfl (Nat.le_of_ble_eq_true rfl) dX1_init_64 (fun H locs hP hD hS => ?_)
  have hP : va_P D vwCl [(h0, .inr (1, [.int 0, .ref q_1, .ref q_3, .int 0, .int 0, .int 0, .int 100, .int 20, .int 40, .int 5, .int 10, .int 0, .int 1000, .int 0, .int (-1), .int 0, .int 0, .int 0, .int 0])), (q_1, .inr (2, [.int 0, .int 0, .int 5, .int 20, .int 0, .int 0, .int 0, .int 0])), (q_3, .inr (0, [.ref q_4, .int 0, .int 0])), (q_4, .inl (aI, 8, .inl (fun _ => 0)))] H := hP
  have hD : va_D A [(h0, .inr (1, [.int 0, .ref q_1, .ref q_3, .int 0, .int 0, .int 0, .int 100, .int 20, .int 40, .int 5, .int 10, .int 0, .int 1000, .int 0, .int (-1), .int 0, .int 0, .int 0, .int 0])), (q_1, .inr (2, [.int 0, .int 0, .int 5, .int 20, .int 0, .int 0, .int 0, .int 0])), (q_3, .inr (0, [.ref q_4, .int 0, .int 0])), (q_4, .inl (aI, 8, .inl (fun _ => 0)))] := hD
  refine lv_aload_n hx hb dX1_init_67 rfl (lv_at hl 0 rfl) ?_
  refine lv_iconst (v := 2) hx hb dX1_init_68 (by decide) ?_
  refine va_put (D := D) (ci := 1) (v := .int 2) (ty := .int) (C := RX1) (T := TX1) (N := 19) hx hb hts inX1 tyX1 tyX1_ok nmX1 hown hK hP hD hS 0 rfl rfl 15 (by decide) (hts _ (mG w_330)) (fun _ h9 => h9) rfl (by decide +kernel) rfl rfl (Nat.le_of_ble_eq_true rfl) dX1_init_69 (fun H locs hP hD hS => ?_)
  have hP : va_P D vwCl [(h0, .inr (1, [.int 0, .ref q_1, .ref q_3, .int 0, .int 0, .int 0, .int 100, .int 20, .int 40, .int 5, .int 10, .int 0, .int 1000, .int 0, .int (-1), .int 2, .int 0, .int 0, .int 0])), (q_1, .inr (2, [.int 0, .int 0, .int 5, .int 20, .int 0, .int 0, .int 0, .int 0])), (q_3, .inr (0, [.ref q_4, .int 0, .int 0])), (q_4, .inl (aI, 8, .inl (fun _ => 0)))] H := hP
  have hD : va_D A [(h0, .inr (1, [.int 0, .ref q_1, .ref q_3, .int 0, .int 0, .int 0, .int 100, .int 20, .int 40, .int 5, .int 10, .int 0, .int 1000, .int 0, .int (-1), .int 2, .int 0, .int 0, .int 0])), (q_1, .inr (2, [.int 0, .int 0, .int 5, .int 20, .int 0, .int 0, .int 0, .int 0])), (q_3, .inr (0, [.ref q_4, .int 0, .int 0])), (q_4, .inl (aI, 8, .inl (fun _ => 0)))] := hD
  refine lv_aload_n hx hb dX1_init_72 rfl (lv_at hl 0 rfl) ?_
  refine lv_iload_n hx hb dX1_init_73 rfl (lv_at hl 1 rfl) ?_
  refine va_put (D := D) (ci := 1) (v := .int p0) (ty := .int) (C := RX1) (T := TX1) (N := 19) hx hb hts inX1 tyX1 tyX1_ok nmX1 hown hK hP hD hS 0 rfl rfl 3 (by decide) (hts _ (mG w_306)) (fun _ h9 => h9) rfl (by decide +kernel) rfl rfl (Nat.le_of_ble_eq_true rfl) dX1_init_74 (fun H locs hP hD hS => ?_)
  have hP : va_P D vwCl [(h0, .inr (1, [.int 0, .ref q_1, .ref q_3, .int p0, .int 0, .int 0, .int 100, .int 20, .int 40, .int 5, .int 10, .int 0, .int 1000, .int 0, .int (-1), .int 2, .int 0, .int 0, .int 0])), (q_1, .inr (2, [.int 0, .int 0, .int 5, .int 20, .int 0, .int 0, .int 0, .int 0])), (q_3, .inr (0, [.ref q_4, .int 0, .int 0])), (q_4, .inl (aI, 8, .inl (fun _ => 0)))] H := hP
  have hD : va_D A [(h0, .inr (1, [.int 0, .ref q_1, .ref q_3, .int p0, .int 0, .int 0, .int 100, .int 20, .int 40, .int 5, .int 10, .int 0, .int 1000, .int 0, .int (-1), .int 2, .int 0, .int 0, .int 0])), (q_1, .inr (2, [.int 0, .int 0, .int 5, .int 20, .int 0, .int 0, .int 0, .int 0])), (q_3, .inr (0, [.ref q_4, .int 0, .int 0])), (q_4, .inl (aI, 8, .inl (fun _ => 0)))] := hD
  refine lv_aload_n hx hb dX1_init_77 rfl (lv_at hl 0 rfl) ?_
  refine lv_iload_n hx hb dX1_init_78 rfl (lv_at hl 2 rfl) ?_
  refine va_putF (D := D) (ci := 1) (v := .int p1) (ty := .int) (C := RX1) (T := TX1) (N := 19) hx hb hts inX1 tyX1 tyX1_ok nmX1 hown hK hP hD hS 0 rfl rfl 0 (by decide) (hts _ (mG w_301)) (fun _ h9 => h9) rfl hnm rfl (by decide +kernel) rfl rfl (Nat.le_of_ble_eq_true rfl) dX1_init_79 (fun H locs hP hD hS => ?_)
  have hP : va_P D vwCl [(h0, .inr (1, [.int p1, .ref q_1, .ref q_3, .int p0, .int 0, .int 0, .int 100, .int 20, .int 40, .int 5, .int 10, .int 0, .int 1000, .int 0, .int (-1), .int 2, .int 0, .int 0, .int 0])), (q_1, .inr (2, [.int 0, .int 0, .int 5, .int 20, .int 0, .int 0, .int 0, .int 0])), (q_3, .inr (0, [.ref q_4, .int 0, .int 0])), (q_4, .inl (aI, 8, .inl (fun _ => 0)))] H := hP
  have hD : va_D A [(h0, .inr (1, [.int p1, .ref q_1, .ref q_3, .int p0, .int 0, .int 0, .int 100, .int 20, .int 40, .int 5, .int 10, .int 0, .int 1000, .int 0, .int (-1), .int 2, .int 0, .int 0, .int 0])), (q_1, .inr (2, [.int 0, .int 0, .int 5, .int 20, .int 0, .int 0, .int 0, .int 0])), (q_3, .inr (0, [.ref q_4, .int 0, .int 0])), (q_4, .inl (aI, 8, .inl (fun _ => 0)))] := hD
  have hP := hP.sub (ws' := [(h0, .inr (1, [.int p1, .ref q_1, .ref q_3, .int p0, .int 0, .int 0, .int 100, .int 20, .int 40, .int 5, .int 10, .int 0, .int 1000, .int 0, .int (-1), .int 2, .int 0, .int 0, .int 0])), (q_1, .inr (2, [.int 0, .int 0, .int 5, .int 20, .int 0, .int 0, .int 0, .int 0])), (q_3, .inr (0, [.ref q_4, .int 0, .int 0])), (q_4, .inl (aI, 8, .inl (fun _ => 0)))]) [0, 1, 2, 3] rfl
  have hD := hD.sub (ws' := [(h0, .inr (1, [.int p1, .ref q_1, .ref q_3, .int p0, .int 0, .int 0, .int 100, .int 20, .int 40, .int 5, .int 10, .int 0, .int 1000, .int 0, .int (-1), .int 2, .int 0, .int 0, .int 0])), (q_1, .inr (2, [.int 0, .int 0, .int 5, .int 20, .int 0, .int 0, .int 0, .int 0])), (q_3, .inr (0, [.ref q_4, .int 0, .int 0])), (q_4, .inl (aI, 8, .inl (fun _ => 0)))]) [0, 1, 2, 3] (by decide) rfl
  exact rt_v hQ hx hb hr (q_1, q_3, q_4) hG hP hD hS (Nat.le_of_ble_eq_true rfl) (Nat.le_of_ble_eq_true rfl) dX1_init_82 hlk
theorem dX4_init_0 : decode cX4_init 0 = .ok (.aload_n 0, 1) := by decide +kernel
theorem dX4_init_1 : decode cX4_init 1 = .ok (.invokespecial 1, 3) := by decide +kernel
theorem dX4_init_4 : decode cX4_init 4 = .ok (.aload_n 0, 1) := by decide +kernel
theorem dX4_init_5 : decode cX4_init 5 = .ok (.new 7, 3) := by decide +kernel
theorem dX4_init_8 : decode cX4_init 8 = .ok (.dup, 1) := by decide +kernel
theorem dX4_init_9 : decode cX4_init 9 = .ok (.iload_n 1, 1) := by decide +kernel
theorem dX4_init_10 : decode cX4_init 10 = .ok (.iconst 1, 1) := by decide +kernel
theorem dX4_init_11 : decode cX4_init 11 = .ok (.invokestatic 9, 3) := by decide +kernel
theorem dX4_init_14 : decode cX4_init 14 = .ok (.bipush 20, 2) := by decide +kernel
theorem dX4_init_16 : decode cX4_init 16 = .ok (.invokestatic 17, 3) := by decide +kernel
theorem dX4_init_19 : decode cX4_init 19 = .ok (.invokespecial 20, 3) := by decide +kernel
theorem dX4_init_22 : decode cX4_init 22 = .ok (.putfield 23, 3) := by decide +kernel
theorem dX4_init_25 : decode cX4_init 25 = .ok (.aload_n 0, 1) := by decide +kernel
theorem dX4_init_26 : decode cX4_init 26 = .ok (.iconst 1, 1) := by decide +kernel
theorem dX4_init_27 : decode cX4_init 27 = .ok (.putfield 27, 3) := by decide +kernel
theorem dX4_init_30 : decode cX4_init 30 = .ok (.return_, 1) := by decide +kernel
def flo (x : Int32) : Nat := if x < 1 then 1 else if 20 < x then 20 else x.toNatClampNeg
theorem lt1_lt0 {x : Int32} (h : ¬ x < 1) : ¬ x < 0 := by
  rw [Int32.lt_iff_toInt_lt] at h ⊢
  have e1 : (1 : Int32).toInt = 1 := by decide
  have e0 : (0 : Int32).toInt = 0 := by decide
  rw [e1] at h; rw [e0]; omega
theorem flo_e (x : Int32) : (if 20 < (if x < 1 then 1 else x) then 20 else (if x < 1 then 1 else x)) = nI (flo x) := by
  unfold flo
  by_cases h : x < 1
  · rw [if_pos h, if_pos h, if_neg (by decide)]; rfl
  · rw [if_neg h, if_neg h]
    by_cases h2 : 20 < x
    · rw [if_pos h2, if_pos h2]; rfl
    · rw [if_neg h2, if_neg h2]
      obtain ⟨j, hj, rfl⟩ := nI_of (lt1_lt0 h)
      rw [nI_clamp hj]
theorem flo_1 (x : Int32) : 1 ≤ flo x := by
  unfold flo
  by_cases h : x < 1
  · rw [if_pos h]; exact Nat.le_refl _
  · rw [if_neg h]
    by_cases h2 : 20 < x
    · rw [if_pos h2]; decide
    · rw [if_neg h2]
      obtain ⟨j, hj, rfl⟩ := nI_of (lt1_lt0 h)
      rw [nI_clamp hj]
      rcases Nat.lt_or_ge j 1 with q | q
      · exact absurd (nI_lt q (by decide)) h
      · exact q
theorem flo_20 (x : Int32) : flo x ≤ 20 := by
  unfold flo
  by_cases h : x < 1
  · rw [if_pos h]; decide
  · rw [if_neg h]
    by_cases h2 : 20 < x
    · rw [if_pos h2]; exact Nat.le_refl _
    · rw [if_neg h2]
      obtain ⟨j, hj, rfl⟩ := nI_of (lt1_lt0 h)
      rw [nI_clamp hj]
      rcases Nat.lt_or_ge 20 j with q | q
      · exact absurd (nI_lt q hj) h2
      · exact q
def F_csInit (p0 : Int32) : (Nat → Int32) :=
  cb (F_shaftInit (flo p0)) fun x_3 =>
    x_3
theorem F_csInit_u (p0 : Int32) : F_csInit p0 =
  (cb (F_shaftInit (flo p0)) fun x_3 =>
    x_3) := rfl
set_option maxHeartbeats 4000000 in
set_option maxRecDepth 100000 in
theorem c_csInit (l : Launch) (D : va_G) (aI aL aZ : ClassId) (sz : Nat) (h0 : Nat) (p0 : Int32) : Met l yX4_init (.code yX4_init cX4_init 2 none :: Gw) ({ frames := 2, cells := 2, slots := 22, locals := 43 }) (va_Pc [.ref h0, .int p0] (mpre D [(aI, .int), (aL, .long), (aZ, .boolean)] [(h0, .inr (4, [.null, .null, .null, .int 0, .int 0]))] sz)) ((fun A : Nat → Prop => va_Qv (fun (u : Nat × Nat × (Nat → Int32)) => match u with | (q_1, q_4, u0) => F_csInit p0 = u0) (mpst D A (fun (u : Nat × Nat × (Nat → Int32)) => match u with | (q_1, q_4, u0) => [(h0, .inr (4, [.ref q_1, .null, .null, .int 1, .int 0])), (q_1, .inr (3, [.ref q_4, .int 500])), (q_4, .inl (aI, (flo p0), .inl u0))])) A) (va_A ([(h0, .inr (4, [.null, .null, .null, .int 0, .int 0]))]) sz)) 2 22 (va_A ([(h0, .inr (4, [.null, .null, .null, .int 0, .int 0]))]) sz) := by
  refine en (cc := cX4_init) (maxL := 2) (ret := none) (Qc := (fun A : Nat → Prop => va_Qv (fun (u : Nat × Nat × (Nat → Int32)) => match u with | (q_1, q_4, u0) => F_csInit p0 = u0) (mpst D A (fun (u : Nat × Nat × (Nat → Int32)) => match u with | (q_1, q_4, u0) => [(h0, .inr (4, [.ref q_1, .null, .null, .int 1, .int 0])), (q_1, .inr (3, [.ref q_4, .int 500])), (q_4, .inl (aI, (flo p0), .inl u0))])) A)) (by decide) rfl (Nat.le_of_ble_eq_true rfl) ?_
  intro p e s m args below meth c A ls Q hQ hx hb hr hts hown hlk hnm hml hA hS hP hK hD hE hl
  have hown : s.vm.findClass RX4 = some m.cls := hown
  have hl : lv_has ls 2 [(0, .ref h0), (1, .int p0)] := hl
  have hG := F_csInit_u p0
  refine lv_aload_n hx hb dX4_init_0 rfl (lv_at hl 0 rfl) ?_
  refine W.objInit hx hb hown (hts _ (mG w_53)) (hts _ (mG w_54)) (hts _ (mG w_55)) rfl (by rw [hml]; exact hl.1) rfl dX4_init_1 (Nat.le_of_ble_eq_true rfl) (Nat.le_of_ble_eq_true rfl) ?_
  refine W.eq (g2 := F0 m 4 ls []) rfl ?_
  refine lv_aload_n hx hb dX4_init_4 rfl (lv_at hl 0 rfl) ?_
  refine va_new (ci := 3) (fs := [.null, .int 0]) (C := RX3) (T := TX3) (N := 2) hx hb hts inX3 tyX3 tyX3_ok hown (hts _ (mG w_56)) (hts _ (mG w_57)) (hts _ (mG w_36)) hK hP hD hS hA rfl (by decide +kernel) (Nat.le_of_ble_eq_true rfl) (Nat.le_of_ble_eq_true rfl) dX4_init_5 (fun q_1 H hP hD hS => ?_)
  have hP : va_P D vwCl [(h0, .inr (4, [.null, .null, .null, .int 0, .int 0])), (q_1, .inr (3, [.null, .int 0]))] H := hP
  have hD : va_D A [(h0, .inr (4, [.null, .null, .null, .int 0, .int 0])), (q_1, .inr (3, [.null, .int 0]))] := hD
  refine lv_dup hx hb dX4_init_8 rfl ?_
  refine lv_iload_n hx hb dX4_init_9 rfl (lv_at hl 1 rfl) ?_
  refine lv_iconst (v := 1) hx hb dX4_init_10 (by decide) ?_
  refine va_mmax hx hb (by rw [hml]; exact hl.1.symm) hown (hts _ (mG w_58)) (hts _ (mG w_59)) (hts _ (mG w_37)) (hts _ (mG w_60)) (Nat.le_of_ble_eq_true rfl) (Nat.le_of_ble_eq_true rfl) (Nat.le_of_ble_eq_true rfl) (Nat.le_of_ble_eq_true rfl) dX4_init_11 ?_
  refine lv_bipush (v := 20) hx hb dX4_init_14 (by decide) ?_
  refine va_mmin hx hb (by rw [hml]; exact hl.1.symm) hown (hts _ (mG w_61)) (hts _ (mG w_62)) (hts _ (mG w_37)) (hts _ (mG w_63)) (Nat.le_of_ble_eq_true rfl) (Nat.le_of_ble_eq_true rfl) (Nat.le_of_ble_eq_true rfl) (Nat.le_of_ble_eq_true rfl) dX4_init_16 ?_
  refine lv_topi (fun y_2 hy_2 => ?_)
  obtain rfl : y_2 = (nI (flo p0)) := hy_2.trans (flo_e p0)
  refine my_v (wr := [(h0, .inr (4, [.null, .null, .null, .int 0, .int 0]))]) [1] [0] (va_runI (As := [.int (nI (flo p0))]) (rest := [.ref q_1, .ref h0]) ⟨hx, hb, hml, hown, hts⟩ (c_shaftInit l D aI aL aZ _ q_1 (flo p0) (flo_1 p0) (flo_20 p0)) (cwI 1 hts (gC w_66) rfl rfl rfl (hts _ (mG w_36)) (hts _ (mG w_64)) (hts _ (mG w_65)) rfl (by decide +kernel) ⟨Nat.le_of_ble_eq_true rfl, Nat.le_of_ble_eq_true rfl⟩) (pre_of hK hP hD hS hA hE [1] rfl (by decide) _) rfl rfl hl.1 rfl (lv_room (Nat.le_of_ble_eq_true rfl)) dX4_init_19 ⟨Nat.le_of_ble_eq_true rfl, Nat.le_of_ble_eq_true rfl⟩) hP hD hS hA rfl rfl (by decide) (by decide) (fun u_ H locs hw_5 hP hD hS => ?_)
  obtain ⟨q_4, x_3⟩ := u_
  have hw_5 : F_shaftInit (flo p0) = x_3 := hw_5
  have hG := hG.trans (cb_e hw_5)
  have hP : va_P D vwCl [(h0, .inr (4, [.null, .null, .null, .int 0, .int 0])), (q_1, .inr (3, [.ref q_4, .int 500])), (q_4, .inl (aI, (flo p0), .inl x_3))] H := hP
  have hD : va_D A [(h0, .inr (4, [.null, .null, .null, .int 0, .int 0])), (q_1, .inr (3, [.ref q_4, .int 500])), (q_4, .inl (aI, (flo p0), .inl x_3))] := hD
  refine va_putF (D := D) (ci := 4) (v := .ref q_1) (ty := (.object "CarSteps$Shaft")) (C := RX4) (T := TX4) (N := 5) hx hb hts inX4 tyX4 tyX4_ok nmX4 hown hK hP hD hS 0 rfl rfl 0 (by decide) (hts _ (mG w_79)) (fun _ h9 => h9) rfl hnm rfl (by decide +kernel) rfl rfl (Nat.le_of_ble_eq_true rfl) dX4_init_22 (fun H locs hP hD hS => ?_)
  have hP : va_P D vwCl [(h0, .inr (4, [.ref q_1, .null, .null, .int 0, .int 0])), (q_1, .inr (3, [.ref q_4, .int 500])), (q_4, .inl (aI, (flo p0), .inl x_3))] H := hP
  have hD : va_D A [(h0, .inr (4, [.ref q_1, .null, .null, .int 0, .int 0])), (q_1, .inr (3, [.ref q_4, .int 500])), (q_4, .inl (aI, (flo p0), .inl x_3))] := hD
  refine lv_aload_n hx hb dX4_init_25 rfl (lv_at hl 0 rfl) ?_
  refine lv_iconst (v := 1) hx hb dX4_init_26 (by decide) ?_
  refine va_put (D := D) (ci := 4) (v := .int 1) (ty := .boolean) (C := RX4) (T := TX4) (N := 5) hx hb hts inX4 tyX4 tyX4_ok nmX4 hown hK hP hD hS 0 rfl rfl 3 (by decide) (hts _ (mG w_82)) (fun _ h9 => h9) rfl (by decide +kernel) rfl rfl (Nat.le_of_ble_eq_true rfl) dX4_init_27 (fun H locs hP hD hS => ?_)
  have hP : va_P D vwCl [(h0, .inr (4, [.ref q_1, .null, .null, .int 1, .int 0])), (q_1, .inr (3, [.ref q_4, .int 500])), (q_4, .inl (aI, (flo p0), .inl x_3))] H := hP
  have hD : va_D A [(h0, .inr (4, [.ref q_1, .null, .null, .int 1, .int 0])), (q_1, .inr (3, [.ref q_4, .int 500])), (q_4, .inl (aI, (flo p0), .inl x_3))] := hD
  have hP := hP.sub (ws' := [(h0, .inr (4, [.ref q_1, .null, .null, .int 1, .int 0])), (q_1, .inr (3, [.ref q_4, .int 500])), (q_4, .inl (aI, (flo p0), .inl x_3))]) [0, 1, 2] rfl
  have hD := hD.sub (ws' := [(h0, .inr (4, [.ref q_1, .null, .null, .int 1, .int 0])), (q_1, .inr (3, [.ref q_4, .int 500])), (q_4, .inl (aI, (flo p0), .inl x_3))]) [0, 1, 2] (by decide) rfl
  exact rt_v hQ hx hb hr (q_1, q_4, x_3) hG hP hD hS (Nat.le_of_ble_eq_true rfl) (Nat.le_of_ble_eq_true rfl) dX4_init_30 hlk
