theorem dX4_carOf_0 : decode cX4_carOf 0 = .ok (.iload_n 1, 1) := by decide +kernel
theorem dX4_carOf_1 : decode cX4_carOf 1 = .ok (.ifCond .ne 10, 3) := by decide +kernel
theorem dX4_carOf_4 : decode cX4_carOf 4 = .ok (.aload_n 0, 1) := by decide +kernel
theorem dX4_carOf_5 : decode cX4_carOf 5 = .ok (.getfield 66, 3) := by decide +kernel
theorem dX4_carOf_8 : decode cX4_carOf 8 = .ok (.goto 16, 3) := by decide +kernel
theorem dX4_carOf_11 : decode cX4_carOf 11 = .ok (.iload_n 1, 1) := by decide +kernel
theorem dX4_carOf_12 : decode cX4_carOf 12 = .ok (.iconst 1, 1) := by decide +kernel
theorem dX4_carOf_13 : decode cX4_carOf 13 = .ok (.if_icmp .ne 10, 3) := by decide +kernel
theorem dX4_carOf_16 : decode cX4_carOf 16 = .ok (.aload_n 0, 1) := by decide +kernel
theorem dX4_carOf_17 : decode cX4_carOf 17 = .ok (.getfield 74, 3) := by decide +kernel
theorem dX4_carOf_20 : decode cX4_carOf 20 = .ok (.goto 4, 3) := by decide +kernel
theorem dX4_carOf_23 : decode cX4_carOf 23 = .ok (.aconst_null, 1) := by decide +kernel
theorem dX4_carOf_24 : decode cX4_carOf 24 = .ok (.astore_n 2, 1) := by decide +kernel
theorem dX4_carOf_25 : decode cX4_carOf 25 = .ok (.aload_n 2, 1) := by decide +kernel
theorem dX4_carOf_26 : decode cX4_carOf 26 = .ok (.ifnonnull 13, 3) := by decide +kernel
theorem dX4_carOf_29 : decode cX4_carOf 29 = .ok (.new 88, 3) := by decide +kernel
theorem dX4_carOf_32 : decode cX4_carOf 32 = .ok (.dup, 1) := by decide +kernel
theorem dX4_carOf_33 : decode cX4_carOf 33 = .ok (.ldc 218, 2) := by decide +kernel
theorem dX4_carOf_35 : decode cX4_carOf 35 = .ok (.invokespecial 92, 3) := by decide +kernel
theorem dX4_carOf_38 : decode cX4_carOf 38 = .ok (.athrow, 1) := by decide +kernel
theorem dX4_carOf_39 : decode cX4_carOf 39 = .ok (.aload_n 2, 1) := by decide +kernel
theorem dX4_carOf_40 : decode cX4_carOf 40 = .ok (.areturn, 1) := by decide +kernel
def F_carOf_0 : Int32 ⊕ Unit :=
  .inr ()
theorem F_carOf_0_u : F_carOf_0 =
  (.inr ()) := rfl
set_option maxHeartbeats 4000000 in
set_option maxRecDepth 100000 in
theorem c_carOf_0 (l : Launch) (hl9 : l.stackTraces = false) (D : va_G) (aI aL aZ : ClassId) (sz : Nat) (k0 : Nat) (h4 : Nat) (powered : Int32) (stepsDone : Int32) (h0 : Nat) (up : Value) : vx_Met l yX4_carOf (.code yX4_carOf cX4_carOf 3 (some (.object "CarSteps$Car")) :: Gw) ({ frames := 0, cells := 0, slots := 0, locals := 0 }) (va_Pc [.ref k0, .int 0] (mpre D [(aI, .int), (aL, .long), (aZ, .boolean)] [(k0, .inr (4, [.ref h4, .ref h0, up, .int powered, .int stepsDone]))] sz)) ((fun A : Nat → Prop => va_Qr (fun (u : Unit) => F_carOf_0 = .inr ()) (mpsr D A (fun (u : Unit) => [(k0, .inr (4, [.ref h4, .ref h0, up, .int powered, .int stepsDone]))]) (h0)) A) (va_A ([(k0, .inr (4, [.ref h4, .ref h0, up, .int powered, .int stepsDone]))]) sz)) ((fun A : Nat → Prop => vx_X (fun u : Int32 => F_carOf_0 = .inl u ∧ (False)) (mpsx D A [(k0, .inr (4, [.ref h4, .ref h0, up, .int powered, .int stepsDone]))]) A) (va_A ([(k0, .inr (4, [.ref h4, .ref h0, up, .int powered, .int stepsDone]))]) sz)) 0 0 (va_A ([(k0, .inr (4, [.ref h4, .ref h0, up, .int powered, .int stepsDone]))]) sz) := by
  refine enx (cc := cX4_carOf) (maxL := 3) (ret := (some (.object "CarSteps$Car"))) (Qc := (fun A : Nat → Prop => va_Qr (fun (u : Unit) => F_carOf_0 = .inr ()) (mpsr D A (fun (u : Unit) => [(k0, .inr (4, [.ref h4, .ref h0, up, .int powered, .int stepsDone]))]) (h0)) A)) (XC := (fun A : Nat → Prop => vx_X (fun u : Int32 => F_carOf_0 = .inl u ∧ (False)) (mpsx D A [(k0, .inr (4, [.ref h4, .ref h0, up, .int powered, .int stepsDone]))]) A)) (by decide) rfl (Nat.le_of_ble_eq_true rfl) ?_
  intro p e s m args below meth c A ls Q hQ hx hb hr hts hown hlk hnm hml hout hA hS hP hK hD hE hl
  have hown : s.vm.findClass RX4 = some m.cls := hown
  have hl : lv_has ls 3 [(0, .ref k0), (1, .int 0)] := hl
  have hG := F_carOf_0_u
  refine lv_iload_n hx hb dX4_carOf_0 rfl (lv_at hl 1 rfl) ?_
  refine lv_if_ne (tgt := 11) hx hb dX4_carOf_1 (by decide) (fun c9 => absurd c9 (by decide)) (fun _ => ?_)
  refine lv_aload_n hx hb dX4_carOf_4 rfl (lv_at hl 0 rfl) ?_
  refine va_get (D := D) (ci := 4) (v := .ref h0) (C := RX4) (T := TX4) (N := 5) hx hb hts inX4 hown hK hP 0 rfl rfl 1 (by decide) (hts _ (mG w_80)) (fun _ h9 => h9) rfl dX4_carOf_5 ?_
  refine lv_goto (tgt := 24) hx hb dX4_carOf_8 (by decide) ?_
  refine lv_astore_n (lv' := [(2, .ref h0), (0, .ref k0), (1, .int 0)]) hx hb dX4_carOf_24 rfl hl (by decide) rfl (fun ls hl => ?_)
  refine lv_aload_n hx hb dX4_carOf_25 rfl (lv_at hl 0 rfl) ?_
  refine lv_ifnonnull (tgt := 39) hx hb dX4_carOf_26 (by decide) ?_
  refine lv_aload_n hx hb dX4_carOf_39 rfl (lv_at hl 0 rfl) ?_
  have hP := hP.sub (ws' := [(k0, .inr (4, [.ref h4, .ref h0, up, .int powered, .int stepsDone]))]) [0] rfl
  have hD := hD.sub (ws' := [(k0, .inr (4, [.ref h4, .ref h0, up, .int powered, .int stepsDone]))]) [0] (by decide) rfl
  exact rtx_r hQ hx hb hr () hG hP hD hS (Nat.le_of_ble_eq_true rfl) (Nat.le_of_ble_eq_true rfl) dX4_carOf_40 hlk
def F_carOf_0n : Int32 ⊕ Unit :=
  .inl 1
theorem F_carOf_0n_u : F_carOf_0n =
  (.inl 1) := rfl
set_option maxHeartbeats 4000000 in
set_option maxRecDepth 100000 in
theorem c_carOf_0n (l : Launch) (hl9 : l.stackTraces = false) (D : va_G) (aI aL aZ : ClassId) (sz : Nat) (k0 : Nat) (h4 : Nat) (powered : Int32) (stepsDone : Int32) (up : Value) : vx_Met l yX4_carOf (.code yX4_carOf cX4_carOf 3 (some (.object "CarSteps$Car")) :: Gw) ({ frames := 6, cells := 1, slots := 6, locals := 92 }) (va_Pc [.ref k0, .int 0] (mpre D [(aI, .int), (aL, .long), (aZ, .boolean)] [(k0, .inr (4, [.ref h4, .null, up, .int powered, .int stepsDone]))] sz)) ((fun A : Nat → Prop => va_Qr (fun (u : Unit) => False) (mpsr D A (fun (u : Unit) => [(k0, .inr (4, [.ref h4, .null, up, .int powered, .int stepsDone]))]) (0)) A) (va_A ([(k0, .inr (4, [.ref h4, .null, up, .int powered, .int stepsDone]))]) sz)) ((fun A : Nat → Prop => vx_X (fun u : Int32 => F_carOf_0n = .inl u ∧ (u = 1)) (mpsx D A [(k0, .inr (4, [.ref h4, .null, up, .int powered, .int stepsDone]))]) A) (va_A ([(k0, .inr (4, [.ref h4, .null, up, .int powered, .int stepsDone]))]) sz)) 1 6 (va_A ([(k0, .inr (4, [.ref h4, .null, up, .int powered, .int stepsDone]))]) sz) := by
  refine enx (cc := cX4_carOf) (maxL := 3) (ret := (some (.object "CarSteps$Car"))) (Qc := (fun A : Nat → Prop => va_Qr (fun (u : Unit) => False) (mpsr D A (fun (u : Unit) => [(k0, .inr (4, [.ref h4, .null, up, .int powered, .int stepsDone]))]) (0)) A)) (XC := (fun A : Nat → Prop => vx_X (fun u : Int32 => F_carOf_0n = .inl u ∧ (u = 1)) (mpsx D A [(k0, .inr (4, [.ref h4, .null, up, .int powered, .int stepsDone]))]) A)) (by decide) rfl (Nat.le_of_ble_eq_true rfl) ?_
  intro p e s m args below meth c A ls Q hQ hx hb hr hts hown hlk hnm hml hout hA hS hP hK hD hE hl
  have hown : s.vm.findClass RX4 = some m.cls := hown
  have hl : lv_has ls 3 [(0, .ref k0), (1, .int 0)] := hl
  have hG := F_carOf_0n_u
  refine lv_iload_n hx hb dX4_carOf_0 rfl (lv_at hl 1 rfl) ?_
  refine lv_if_ne (tgt := 11) hx hb dX4_carOf_1 (by decide) (fun c9 => absurd c9 (by decide)) (fun _ => ?_)
  refine lv_aload_n hx hb dX4_carOf_4 rfl (lv_at hl 0 rfl) ?_
  refine va_get (D := D) (ci := 4) (v := .null) (C := RX4) (T := TX4) (N := 5) hx hb hts inX4 hown hK hP 0 rfl rfl 1 (by decide) (hts _ (mG w_80)) (fun _ h9 => h9) rfl dX4_carOf_5 ?_
  refine lv_goto (tgt := 24) hx hb dX4_carOf_8 (by decide) ?_
  refine lv_astore_nN (lv' := [(2, .null), (0, .ref k0), (1, .int 0)]) hx hb dX4_carOf_24 rfl hl (by decide) rfl (fun ls hl => ?_)
  refine lv_aload_nN hx hb dX4_carOf_25 rfl (lv_at hl 0 rfl) ?_
  refine lv_ifnonnullN hx hb dX4_carOf_26 ?_
  exact my_throw (own := RX4) (cls := "java/lang/IllegalArgumentException") (text := "there is no such car") 1 [0] hx hb hl9 hown (by decide +kernel) (hts _ (mG w_118)) (hts _ (mG w_42)) 5 rfl mt_92 hts tb_X4_92 tg_X4_92 hE hS (hl.1.trans hml.symm) dX4_carOf_29 dX4_carOf_32 dX4_carOf_33 dX4_carOf_35 dX4_carOf_38 hout (Nat.le_of_ble_eq_true rfl) (Nat.le_of_ble_eq_true rfl) (Nat.le_of_ble_eq_true rfl) (Nat.le_of_ble_eq_true rfl) hlk hQ rfl ⟨hG, rfl⟩ hP hD rfl (by decide) (Nat.le_of_ble_eq_true rfl) (Nat.le_of_ble_eq_true rfl)
def F_carOf_1 : Int32 ⊕ Unit :=
  .inr ()
theorem F_carOf_1_u : F_carOf_1 =
  (.inr ()) := rfl
set_option maxHeartbeats 4000000 in
set_option maxRecDepth 100000 in
theorem c_carOf_1 (l : Launch) (hl9 : l.stackTraces = false) (D : va_G) (aI aL aZ : ClassId) (sz : Nat) (k0 : Nat) (h4 : Nat) (powered : Int32) (stepsDone : Int32) (h0 : Nat) (lo : Value) : vx_Met l yX4_carOf (.code yX4_carOf cX4_carOf 3 (some (.object "CarSteps$Car")) :: Gw) ({ frames := 0, cells := 0, slots := 0, locals := 0 }) (va_Pc [.ref k0, .int 1] (mpre D [(aI, .int), (aL, .long), (aZ, .boolean)] [(k0, .inr (4, [.ref h4, lo, .ref h0, .int powered, .int stepsDone]))] sz)) ((fun A : Nat → Prop => va_Qr (fun (u : Unit) => F_carOf_1 = .inr ()) (mpsr D A (fun (u : Unit) => [(k0, .inr (4, [.ref h4, lo, .ref h0, .int powered, .int stepsDone]))]) (h0)) A) (va_A ([(k0, .inr (4, [.ref h4, lo, .ref h0, .int powered, .int stepsDone]))]) sz)) ((fun A : Nat → Prop => vx_X (fun u : Int32 => F_carOf_1 = .inl u ∧ (False)) (mpsx D A [(k0, .inr (4, [.ref h4, lo, .ref h0, .int powered, .int stepsDone]))]) A) (va_A ([(k0, .inr (4, [.ref h4, lo, .ref h0, .int powered, .int stepsDone]))]) sz)) 0 0 (va_A ([(k0, .inr (4, [.ref h4, lo, .ref h0, .int powered, .int stepsDone]))]) sz) := by
  refine enx (cc := cX4_carOf) (maxL := 3) (ret := (some (.object "CarSteps$Car"))) (Qc := (fun A : Nat → Prop => va_Qr (fun (u : Unit) => F_carOf_1 = .inr ()) (mpsr D A (fun (u : Unit) => [(k0, .inr (4, [.ref h4, lo, .ref h0, .int powered, .int stepsDone]))]) (h0)) A)) (XC := (fun A : Nat → Prop => vx_X (fun u : Int32 => F_carOf_1 = .inl u ∧ (False)) (mpsx D A [(k0, .inr (4, [.ref h4, lo, .ref h0, .int powered, .int stepsDone]))]) A)) (by decide) rfl (Nat.le_of_ble_eq_true rfl) ?_
  intro p e s m args below meth c A ls Q hQ hx hb hr hts hown hlk hnm hml hout hA hS hP hK hD hE hl
  have hown : s.vm.findClass RX4 = some m.cls := hown
  have hl : lv_has ls 3 [(0, .ref k0), (1, .int 1)] := hl
  have hG := F_carOf_1_u
  refine lv_iload_n hx hb dX4_carOf_0 rfl (lv_at hl 1 rfl) ?_
  refine lv_if_ne (tgt := 11) hx hb dX4_carOf_1 (by decide) (fun _ => ?_) (fun c9 => absurd c9 (by decide))
  refine lv_iload_n hx hb dX4_carOf_11 rfl (lv_at hl 1 rfl) ?_
  refine lv_iconst (v := 1) hx hb dX4_carOf_12 (by decide) ?_
  refine lv_icmp_ne (tgt := 23) hx hb dX4_carOf_13 (by decide) (fun c9 => absurd c9 (by decide)) (fun _ => ?_)
  refine lv_aload_n hx hb dX4_carOf_16 rfl (lv_at hl 0 rfl) ?_
  refine va_get (D := D) (ci := 4) (v := .ref h0) (C := RX4) (T := TX4) (N := 5) hx hb hts inX4 hown hK hP 0 rfl rfl 2 (by decide) (hts _ (mG w_81)) (fun _ h9 => h9) rfl dX4_carOf_17 ?_
  refine lv_goto (tgt := 24) hx hb dX4_carOf_20 (by decide) ?_
  refine lv_astore_n (lv' := [(2, .ref h0), (0, .ref k0), (1, .int 1)]) hx hb dX4_carOf_24 rfl hl (by decide) rfl (fun ls hl => ?_)
  refine lv_aload_n hx hb dX4_carOf_25 rfl (lv_at hl 0 rfl) ?_
  refine lv_ifnonnull (tgt := 39) hx hb dX4_carOf_26 (by decide) ?_
  refine lv_aload_n hx hb dX4_carOf_39 rfl (lv_at hl 0 rfl) ?_
  have hP := hP.sub (ws' := [(k0, .inr (4, [.ref h4, lo, .ref h0, .int powered, .int stepsDone]))]) [0] rfl
  have hD := hD.sub (ws' := [(k0, .inr (4, [.ref h4, lo, .ref h0, .int powered, .int stepsDone]))]) [0] (by decide) rfl
  exact rtx_r hQ hx hb hr () hG hP hD hS (Nat.le_of_ble_eq_true rfl) (Nat.le_of_ble_eq_true rfl) dX4_carOf_40 hlk
def F_carOf_1n : Int32 ⊕ Unit :=
  .inl 1
theorem F_carOf_1n_u : F_carOf_1n =
  (.inl 1) := rfl
set_option maxHeartbeats 4000000 in
set_option maxRecDepth 100000 in
theorem c_carOf_1n (l : Launch) (hl9 : l.stackTraces = false) (D : va_G) (aI aL aZ : ClassId) (sz : Nat) (k0 : Nat) (h4 : Nat) (powered : Int32) (stepsDone : Int32) (lo : Value) : vx_Met l yX4_carOf (.code yX4_carOf cX4_carOf 3 (some (.object "CarSteps$Car")) :: Gw) ({ frames := 6, cells := 1, slots := 6, locals := 92 }) (va_Pc [.ref k0, .int 1] (mpre D [(aI, .int), (aL, .long), (aZ, .boolean)] [(k0, .inr (4, [.ref h4, lo, .null, .int powered, .int stepsDone]))] sz)) ((fun A : Nat → Prop => va_Qr (fun (u : Unit) => False) (mpsr D A (fun (u : Unit) => [(k0, .inr (4, [.ref h4, lo, .null, .int powered, .int stepsDone]))]) (0)) A) (va_A ([(k0, .inr (4, [.ref h4, lo, .null, .int powered, .int stepsDone]))]) sz)) ((fun A : Nat → Prop => vx_X (fun u : Int32 => F_carOf_1n = .inl u ∧ (u = 1)) (mpsx D A [(k0, .inr (4, [.ref h4, lo, .null, .int powered, .int stepsDone]))]) A) (va_A ([(k0, .inr (4, [.ref h4, lo, .null, .int powered, .int stepsDone]))]) sz)) 1 6 (va_A ([(k0, .inr (4, [.ref h4, lo, .null, .int powered, .int stepsDone]))]) sz) := by
  refine enx (cc := cX4_carOf) (maxL := 3) (ret := (some (.object "CarSteps$Car"))) (Qc := (fun A : Nat → Prop => va_Qr (fun (u : Unit) => False) (mpsr D A (fun (u : Unit) => [(k0, .inr (4, [.ref h4, lo, .null, .int powered, .int stepsDone]))]) (0)) A)) (XC := (fun A : Nat → Prop => vx_X (fun u : Int32 => F_carOf_1n = .inl u ∧ (u = 1)) (mpsx D A [(k0, .inr (4, [.ref h4, lo, .null, .int powered, .int stepsDone]))]) A)) (by decide) rfl (Nat.le_of_ble_eq_true rfl) ?_
  intro p e s m args below meth c A ls Q hQ hx hb hr hts hown hlk hnm hml hout hA hS hP hK hD hE hl
  have hown : s.vm.findClass RX4 = some m.cls := hown
  have hl : lv_has ls 3 [(0, .ref k0), (1, .int 1)] := hl
  have hG := F_carOf_1n_u
  refine lv_iload_n hx hb dX4_carOf_0 rfl (lv_at hl 1 rfl) ?_
  refine lv_if_ne (tgt := 11) hx hb dX4_carOf_1 (by decide) (fun _ => ?_) (fun c9 => absurd c9 (by decide))
  refine lv_iload_n hx hb dX4_carOf_11 rfl (lv_at hl 1 rfl) ?_
  refine lv_iconst (v := 1) hx hb dX4_carOf_12 (by decide) ?_
  refine lv_icmp_ne (tgt := 23) hx hb dX4_carOf_13 (by decide) (fun c9 => absurd c9 (by decide)) (fun _ => ?_)
  refine lv_aload_n hx hb dX4_carOf_16 rfl (lv_at hl 0 rfl) ?_
  refine va_get (D := D) (ci := 4) (v := .null) (C := RX4) (T := TX4) (N := 5) hx hb hts inX4 hown hK hP 0 rfl rfl 2 (by decide) (hts _ (mG w_81)) (fun _ h9 => h9) rfl dX4_carOf_17 ?_
  refine lv_goto (tgt := 24) hx hb dX4_carOf_20 (by decide) ?_
  refine lv_astore_nN (lv' := [(2, .null), (0, .ref k0), (1, .int 1)]) hx hb dX4_carOf_24 rfl hl (by decide) rfl (fun ls hl => ?_)
  refine lv_aload_nN hx hb dX4_carOf_25 rfl (lv_at hl 0 rfl) ?_
  refine lv_ifnonnullN hx hb dX4_carOf_26 ?_
  exact my_throw (own := RX4) (cls := "java/lang/IllegalArgumentException") (text := "there is no such car") 1 [0] hx hb hl9 hown (by decide +kernel) (hts _ (mG w_118)) (hts _ (mG w_42)) 5 rfl mt_92 hts tb_X4_92 tg_X4_92 hE hS (hl.1.trans hml.symm) dX4_carOf_29 dX4_carOf_32 dX4_carOf_33 dX4_carOf_35 dX4_carOf_38 hout (Nat.le_of_ble_eq_true rfl) (Nat.le_of_ble_eq_true rfl) (Nat.le_of_ble_eq_true rfl) (Nat.le_of_ble_eq_true rfl) hlk hQ rfl ⟨hG, rfl⟩ hP hD rfl (by decide) (Nat.le_of_ble_eq_true rfl) (Nat.le_of_ble_eq_true rfl)
def F_carOf_x : Int32 ⊕ Unit :=
  .inl 1
theorem F_carOf_x_u : F_carOf_x =
  (.inl 1) := rfl
set_option maxHeartbeats 4000000 in
set_option maxRecDepth 100000 in
theorem c_carOf_x (l : Launch) (hl9 : l.stackTraces = false) (D : va_G) (aI aL aZ : ClassId) (sz : Nat) (k0 : Nat) (h4 : Nat) (powered : Int32) (stepsDone : Int32) (lo : Value) (up : Value) (p0 : Int32) (h9 : ¬ p0 = 0) (h8 : ¬ p0 = 1) : vx_Met l yX4_carOf (.code yX4_carOf cX4_carOf 3 (some (.object "CarSteps$Car")) :: Gw) ({ frames := 6, cells := 1, slots := 6, locals := 92 }) (va_Pc [.ref k0, .int p0] (mpre D [(aI, .int), (aL, .long), (aZ, .boolean)] [(k0, .inr (4, [.ref h4, lo, up, .int powered, .int stepsDone]))] sz)) ((fun A : Nat → Prop => va_Qr (fun (u : Unit) => False) (mpsr D A (fun (u : Unit) => [(k0, .inr (4, [.ref h4, lo, up, .int powered, .int stepsDone]))]) (0)) A) (va_A ([(k0, .inr (4, [.ref h4, lo, up, .int powered, .int stepsDone]))]) sz)) ((fun A : Nat → Prop => vx_X (fun u : Int32 => F_carOf_x = .inl u ∧ (u = 1)) (mpsx D A [(k0, .inr (4, [.ref h4, lo, up, .int powered, .int stepsDone]))]) A) (va_A ([(k0, .inr (4, [.ref h4, lo, up, .int powered, .int stepsDone]))]) sz)) 1 6 (va_A ([(k0, .inr (4, [.ref h4, lo, up, .int powered, .int stepsDone]))]) sz) := by
  refine enx (cc := cX4_carOf) (maxL := 3) (ret := (some (.object "CarSteps$Car"))) (Qc := (fun A : Nat → Prop => va_Qr (fun (u : Unit) => False) (mpsr D A (fun (u : Unit) => [(k0, .inr (4, [.ref h4, lo, up, .int powered, .int stepsDone]))]) (0)) A)) (XC := (fun A : Nat → Prop => vx_X (fun u : Int32 => F_carOf_x = .inl u ∧ (u = 1)) (mpsx D A [(k0, .inr (4, [.ref h4, lo, up, .int powered, .int stepsDone]))]) A)) (by decide) rfl (Nat.le_of_ble_eq_true rfl) ?_
  intro p e s m args below meth c A ls Q hQ hx hb hr hts hown hlk hnm hml hout hA hS hP hK hD hE hl
  have hown : s.vm.findClass RX4 = some m.cls := hown
  have hl : lv_has ls 3 [(0, .ref k0), (1, .int p0)] := hl
  have hG := F_carOf_x_u
  refine lv_iload_n hx hb dX4_carOf_0 rfl (lv_at hl 1 rfl) ?_
  refine lv_if_ne (tgt := 11) hx hb dX4_carOf_1 (by decide) (fun _ => ?_) (fun c9 => absurd c9 h9)
  refine lv_iload_n hx hb dX4_carOf_11 rfl (lv_at hl 1 rfl) ?_
  refine lv_iconst (v := 1) hx hb dX4_carOf_12 (by decide) ?_
  refine lv_icmp_ne (tgt := 23) hx hb dX4_carOf_13 (by decide) (fun _ => ?_) (fun c9 => absurd c9 h8)
  refine lv_null hx hb dX4_carOf_23 ?_
  refine lv_astore_nN (lv' := [(2, .null), (0, .ref k0), (1, .int p0)]) hx hb dX4_carOf_24 rfl hl (by decide) rfl (fun ls hl => ?_)
  refine lv_aload_nN hx hb dX4_carOf_25 rfl (lv_at hl 0 rfl) ?_
  refine lv_ifnonnullN hx hb dX4_carOf_26 ?_
  exact my_throw (own := RX4) (cls := "java/lang/IllegalArgumentException") (text := "there is no such car") 1 [0] hx hb hl9 hown (by decide +kernel) (hts _ (mG w_118)) (hts _ (mG w_42)) 5 rfl mt_92 hts tb_X4_92 tg_X4_92 hE hS (hl.1.trans hml.symm) dX4_carOf_29 dX4_carOf_32 dX4_carOf_33 dX4_carOf_35 dX4_carOf_38 hout (Nat.le_of_ble_eq_true rfl) (Nat.le_of_ble_eq_true rfl) (Nat.le_of_ble_eq_true rfl) (Nat.le_of_ble_eq_true rfl) hlk hQ rfl ⟨hG, rfl⟩ hP hD rfl (by decide) (Nat.le_of_ble_eq_true rfl) (Nat.le_of_ble_eq_true rfl)
theorem dX4_refuseWithCars_0 : decode cX4_refuseWithCars 0 = .ok (.aload_n 0, 1) := by decide +kernel
theorem dX4_refuseWithCars_1 : decode cX4_refuseWithCars 1 = .ok (.getfield 66, 3) := by decide +kernel
theorem dX4_refuseWithCars_4 : decode cX4_refuseWithCars 4 = .ok (.ifnull 13, 3) := by decide +kernel
theorem dX4_refuseWithCars_7 : decode cX4_refuseWithCars 7 = .ok (.new 47, 3) := by decide +kernel
theorem dX4_refuseWithCars_10 : decode cX4_refuseWithCars 10 = .ok (.dup, 1) := by decide +kernel
theorem dX4_refuseWithCars_11 : decode cX4_refuseWithCars 11 = .ok (.ldc 220, 2) := by decide +kernel
theorem dX4_refuseWithCars_13 : decode cX4_refuseWithCars 13 = .ok (.invokespecial 51, 3) := by decide +kernel
theorem dX4_refuseWithCars_16 : decode cX4_refuseWithCars 16 = .ok (.athrow, 1) := by decide +kernel
theorem dX4_refuseWithCars_17 : decode cX4_refuseWithCars 17 = .ok (.return_, 1) := by decide +kernel
def F_refuseWithCars_n : Int32 ⊕ Unit :=
  .inr ()
theorem F_refuseWithCars_n_u : F_refuseWithCars_n =
  (.inr ()) := rfl
set_option maxHeartbeats 4000000 in
set_option maxRecDepth 100000 in
theorem c_refuseWithCars_n (l : Launch) (hl9 : l.stackTraces = false) (D : va_G) (aI aL aZ : ClassId) (sz : Nat) (k0 : Nat) (h4 : Nat) (powered : Int32) (stepsDone : Int32) (up : Value) : vx_Met l yX4_refuseWithCars (.code yX4_refuseWithCars cX4_refuseWithCars 1 none :: Gw) ({ frames := 0, cells := 0, slots := 0, locals := 0 }) (va_Pc [.ref k0] (mpre D [(aI, .int), (aL, .long), (aZ, .boolean)] [(k0, .inr (4, [.ref h4, .null, up, .int powered, .int stepsDone]))] sz)) ((fun A : Nat → Prop => va_Qv (fun (u : Unit) => F_refuseWithCars_n = .inr ()) (mpst D A (fun (u : Unit) => [(k0, .inr (4, [.ref h4, .null, up, .int powered, .int stepsDone]))])) A) (va_A ([(k0, .inr (4, [.ref h4, .null, up, .int powered, .int stepsDone]))]) sz)) ((fun A : Nat → Prop => vx_X (fun u : Int32 => F_refuseWithCars_n = .inl u ∧ (False)) (mpsx D A [(k0, .inr (4, [.ref h4, .null, up, .int powered, .int stepsDone]))]) A) (va_A ([(k0, .inr (4, [.ref h4, .null, up, .int powered, .int stepsDone]))]) sz)) 0 0 (va_A ([(k0, .inr (4, [.ref h4, .null, up, .int powered, .int stepsDone]))]) sz) := by
  refine enx (cc := cX4_refuseWithCars) (maxL := 1) (ret := none) (Qc := (fun A : Nat → Prop => va_Qv (fun (u : Unit) => F_refuseWithCars_n = .inr ()) (mpst D A (fun (u : Unit) => [(k0, .inr (4, [.ref h4, .null, up, .int powered, .int stepsDone]))])) A)) (XC := (fun A : Nat → Prop => vx_X (fun u : Int32 => F_refuseWithCars_n = .inl u ∧ (False)) (mpsx D A [(k0, .inr (4, [.ref h4, .null, up, .int powered, .int stepsDone]))]) A)) (by decide) rfl (Nat.le_of_ble_eq_true rfl) ?_
  intro p e s m args below meth c A ls Q hQ hx hb hr hts hown hlk hnm hml hout hA hS hP hK hD hE hl
  have hown : s.vm.findClass RX4 = some m.cls := hown
  have hl : lv_has ls 1 [(0, .ref k0)] := hl
  have hG := F_refuseWithCars_n_u
  refine lv_aload_n hx hb dX4_refuseWithCars_0 rfl (lv_at hl 0 rfl) ?_
  refine va_get (D := D) (ci := 4) (v := .null) (C := RX4) (T := TX4) (N := 5) hx hb hts inX4 hown hK hP 0 rfl rfl 1 (by decide) (hts _ (mG w_80)) (fun _ h9 => h9) rfl dX4_refuseWithCars_1 ?_
  refine lv_ifnullN (tgt := 17) hx hb dX4_refuseWithCars_4 (by decide) ?_
  have hP := hP.sub (ws' := [(k0, .inr (4, [.ref h4, .null, up, .int powered, .int stepsDone]))]) [0] rfl
  have hD := hD.sub (ws' := [(k0, .inr (4, [.ref h4, .null, up, .int powered, .int stepsDone]))]) [0] (by decide) rfl
  exact rtx_v hQ hx hb hr () hG hP hD hS (Nat.le_of_ble_eq_true rfl) (Nat.le_of_ble_eq_true rfl) dX4_refuseWithCars_17 hlk
def F_refuseWithCars_c : Int32 ⊕ Unit :=
  .inl 2
theorem F_refuseWithCars_c_u : F_refuseWithCars_c =
  (.inl 2) := rfl
set_option maxHeartbeats 4000000 in
set_option maxRecDepth 100000 in
theorem c_refuseWithCars_c (l : Launch) (hl9 : l.stackTraces = false) (D : va_G) (aI aL aZ : ClassId) (sz : Nat) (k0 : Nat) (h4 : Nat) (powered : Int32) (stepsDone : Int32) (h0 : Nat) (up : Value) : vx_Met l yX4_refuseWithCars (.code yX4_refuseWithCars cX4_refuseWithCars 1 none :: Gw) ({ frames := 6, cells := 1, slots := 6, locals := 92 }) (va_Pc [.ref k0] (mpre D [(aI, .int), (aL, .long), (aZ, .boolean)] [(k0, .inr (4, [.ref h4, .ref h0, up, .int powered, .int stepsDone]))] sz)) ((fun A : Nat → Prop => va_Qv (fun (u : Unit) => False) (mpst D A (fun (u : Unit) => [(k0, .inr (4, [.ref h4, .ref h0, up, .int powered, .int stepsDone]))])) A) (va_A ([(k0, .inr (4, [.ref h4, .ref h0, up, .int powered, .int stepsDone]))]) sz)) ((fun A : Nat → Prop => vx_X (fun u : Int32 => F_refuseWithCars_c = .inl u ∧ (u = 2)) (mpsx D A [(k0, .inr (4, [.ref h4, .ref h0, up, .int powered, .int stepsDone]))]) A) (va_A ([(k0, .inr (4, [.ref h4, .ref h0, up, .int powered, .int stepsDone]))]) sz)) 1 6 (va_A ([(k0, .inr (4, [.ref h4, .ref h0, up, .int powered, .int stepsDone]))]) sz) := by
  refine enx (cc := cX4_refuseWithCars) (maxL := 1) (ret := none) (Qc := (fun A : Nat → Prop => va_Qv (fun (u : Unit) => False) (mpst D A (fun (u : Unit) => [(k0, .inr (4, [.ref h4, .ref h0, up, .int powered, .int stepsDone]))])) A)) (XC := (fun A : Nat → Prop => vx_X (fun u : Int32 => F_refuseWithCars_c = .inl u ∧ (u = 2)) (mpsx D A [(k0, .inr (4, [.ref h4, .ref h0, up, .int powered, .int stepsDone]))]) A)) (by decide) rfl (Nat.le_of_ble_eq_true rfl) ?_
  intro p e s m args below meth c A ls Q hQ hx hb hr hts hown hlk hnm hml hout hA hS hP hK hD hE hl
  have hown : s.vm.findClass RX4 = some m.cls := hown
  have hl : lv_has ls 1 [(0, .ref k0)] := hl
  have hG := F_refuseWithCars_c_u
  refine lv_aload_n hx hb dX4_refuseWithCars_0 rfl (lv_at hl 0 rfl) ?_
  refine va_get (D := D) (ci := 4) (v := .ref h0) (C := RX4) (T := TX4) (N := 5) hx hb hts inX4 hown hK hP 0 rfl rfl 1 (by decide) (hts _ (mG w_80)) (fun _ h9 => h9) rfl dX4_refuseWithCars_1 ?_
  refine lv_ifnull hx hb dX4_refuseWithCars_4 ?_
  exact my_throw (own := RX4) (cls := "java/lang/IllegalStateException") (text := "there is a car") 2 [0] hx hb hl9 hown (by decide +kernel) (hts _ (mG w_190)) (hts _ (mG w_43)) 1 rfl mt_51 hts tb_X4_51 tg_X4_51 hE hS (hl.1.trans hml.symm) dX4_refuseWithCars_7 dX4_refuseWithCars_10 dX4_refuseWithCars_11 dX4_refuseWithCars_13 dX4_refuseWithCars_16 hout (Nat.le_of_ble_eq_true rfl) (Nat.le_of_ble_eq_true rfl) (Nat.le_of_ble_eq_true rfl) (Nat.le_of_ble_eq_true rfl) hlk hQ rfl ⟨hG, rfl⟩ hP hD rfl (by decide) (Nat.le_of_ble_eq_true rfl) (Nat.le_of_ble_eq_true rfl)
