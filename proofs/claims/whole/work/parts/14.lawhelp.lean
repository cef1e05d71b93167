theorem dL_height_0 : decode cL_height 0 = .ok (.aload_n 3, 1) := by decide +kernel
theorem dL_height_1 : decode cL_height 1 = .ok (.iconst 0, 1) := by decide +kernel
theorem dL_height_2 : decode cL_height 2 = .ok (.aload_n 0, 1) := by decide +kernel
theorem dL_height_3 : decode cL_height 3 = .ok (.iload_n 1, 1) := by decide +kernel
theorem dL_height_4 : decode cL_height 4 = .ok (.iload_n 2, 1) := by decide +kernel
theorem dL_height_5 : decode cL_height 5 = .ok (.invokevirtual 7, 3) := by decide +kernel
theorem dL_height_8 : decode cL_height 8 = .ok (.i2l, 1) := by decide +kernel
theorem dL_height_9 : decode cL_height 9 = .ok (.lastore, 1) := by decide +kernel
theorem dL_height_10 : decode cL_height 10 = .ok (.goto 11, 3) := by decide +kernel
theorem dL_height_13 : decode cL_height 13 = .ok (.astore 4, 2) := by decide +kernel
theorem dL_height_15 : decode cL_height 15 = .ok (.iconst 1, 1) := by decide +kernel
theorem dL_height_16 : decode cL_height 16 = .ok (.ireturn, 1) := by decide +kernel
theorem dL_height_17 : decode cL_height 17 = .ok (.astore 4, 2) := by decide +kernel
theorem dL_height_19 : decode cL_height 19 = .ok (.iconst 2, 1) := by decide +kernel
theorem dL_height_20 : decode cL_height 20 = .ok (.ireturn, 1) := by decide +kernel
theorem dL_height_21 : decode cL_height 21 = .ok (.iconst 0, 1) := by decide +kernel
theorem dL_height_22 : decode cL_height 22 = .ok (.ireturn, 1) := by decide +kernel
def F_h_height_n (n : Nat) (pf : Nat → Int32) (p0 : Int32) (p1 : Int32) (of : Nat → Int64) : Int32 × (Nat → Int32) × (Nat → Int64) :=
  ch (F_height_n n pf p0 p1)
    ((1, pf, of))
    ((2, pf, of)) fun (r_1, x_2) =>
    (0, x_2, (vp_updL of (0 : Int32).toNatClampNeg ((r_1).toInt64)))
theorem F_h_height_n_u (n : Nat) (pf : Nat → Int32) (p0 : Int32) (p1 : Int32) (of : Nat → Int64) : F_h_height_n n pf p0 p1 of =
  ((ch (F_height_n n pf p0 p1)
    ((1, pf, of))
    ((2, pf, of)) fun (r_1, x_2) =>
    (0, x_2, (vp_updL of (0 : Int32).toNatClampNeg ((r_1).toInt64)))) : Int32 × (Nat → Int32) × (Nat → Int64)) := rfl
set_option maxHeartbeats 4000000 in
set_option maxRecDepth 100000 in
theorem c_h_height_n (l : Launch) (hl9 : l.stackTraces = false) (D : va_G) (aI aL aZ : ClassId) (sz : Nat) (k0 : Nat) (h4 : Nat) (powered : Int32) (stepsDone : Int32) (up : Value) (h5 : Nat) (gap : Int32) (n : Nat) (pf : Nat → Int32) (p0 : Int32) (p1 : Int32) (o0 : Nat) (of : Nat → Int64) (hn : n < 2 ^ 31) : Met l yL_height (.codeWith yL_height cL_height 5 (some .int) [(0, 10, 13, 13), (0, 10, 17, 15)] :: Gw) ({ frames := 8, cells := 3, slots := 18, locals := 137 }) (va_Pc [.ref k0, .int p0, .int p1, .ref o0] (mpre D [(aI, .int), (aL, .long), (aZ, .boolean)] [(k0, .inr (4, [.ref h4, .null, up, .int powered, .int stepsDone])), (h4, .inr (3, [.ref h5, .int gap])), (h5, .inl (aI, n, .inl pf)), (o0, .inl (aL, 1, .inr (.inl of)))] sz)) ((fun A : Nat → Prop => va_Qi (fun (r : Int32) (u : (Nat → Int32) × (Nat → Int64)) => match u with | (u0, u1) => F_h_height_n n pf p0 p1 of = (r, u0, u1)) (mpst D A (fun (u : (Nat → Int32) × (Nat → Int64)) => match u with | (u0, u1) => [(k0, .inr (4, [.ref h4, .null, up, .int powered, .int stepsDone])), (h4, .inr (3, [.ref h5, .int gap])), (h5, .inl (aI, n, .inl u0)), (o0, .inl (aL, 1, .inr (.inl u1)))])) A) (va_A ([(k0, .inr (4, [.ref h4, .null, up, .int powered, .int stepsDone])), (h4, .inr (3, [.ref h5, .int gap])), (h5, .inl (aI, n, .inl pf)), (o0, .inl (aL, 1, .inr (.inl of)))]) sz)) 3 18 (va_A ([(k0, .inr (4, [.ref h4, .null, up, .int powered, .int stepsDone])), (h4, .inr (3, [.ref h5, .int gap])), (h5, .inl (aI, n, .inl pf)), (o0, .inl (aL, 1, .inr (.inl of)))]) sz) := by
  refine enh (cc := cL_height) (maxL := 5) (ret := (some .int)) (Qc := (fun A : Nat → Prop => va_Qi (fun (r : Int32) (u : (Nat → Int32) × (Nat → Int64)) => match u with | (u0, u1) => F_h_height_n n pf p0 p1 of = (r, u0, u1)) (mpst D A (fun (u : (Nat → Int32) × (Nat → Int64)) => match u with | (u0, u1) => [(k0, .inr (4, [.ref h4, .null, up, .int powered, .int stepsDone])), (h4, .inr (3, [.ref h5, .int gap])), (h5, .inl (aI, n, .inl u0)), (o0, .inl (aL, 1, .inr (.inl u1)))])) A)) (by decide) rfl (Nat.le_of_ble_eq_true rfl) ?_
  intro p e s m args below meth c A ls Q hQ hx hb hr hts hown hlk hnm hml htab hA hS hP hK hD hE hl
  have hown : s.vm.findClass RL = some m.cls := hown
  have hl : lv_has ls 5 [(0, .ref k0), (1, .int p0), (2, .int p1), (3, .ref o0)] := hl
  have hG := F_h_height_n_u n pf p0 p1 of
  refine lv_aload_n hx hb dL_height_0 rfl (lv_at hl 3 rfl) ?_
  refine lv_iconst (v := 0) hx hb dL_height_1 (by decide) ?_
  refine lv_aload_n hx hb dL_height_2 rfl (lv_at hl 0 rfl) ?_
  refine lv_iload_n hx hb dL_height_3 rfl (lv_at hl 1 rfl) ?_
  refine lv_iload_n hx hb dL_height_4 rfl (lv_at hl 2 rfl) ?_
  refine my_ci (wr := [(o0, .inl (aL, 1, .inr (.inl of)))]) [0, 1, 2] [3] (vx_runV (As := [.int p0, .int p1]) (rest := [.int 0, .ref o0]) ⟨hx, hb, hml, hown, hts⟩ (c_height_n l hl9 D aI aL aZ _ k0 h4 powered stepsDone up h5 gap n pf p0 p1 hn) (cwV 2 hts (gV w_107 w_108 w_109 w_35 w_110) rfl rfl rfl (by decide +kernel) ⟨Nat.le_of_ble_eq_true rfl, Nat.le_of_ble_eq_true rfl⟩) (prev_of hK hP hD hS hA hE [0, 1, 2] rfl (by decide) (ci := 4) rfl 0 rfl _) rfl rfl hl.1 rfl (lv_room (Nat.le_of_ble_eq_true rfl)) dL_height_5 ⟨Nat.le_of_ble_eq_true rfl, Nat.le_of_ble_eq_true rfl⟩) hP hD hS hA rfl rfl (by decide) (by decide) (fun E ce q9 u H locs hw hEx hP hD hS hce hcv hcl => ?_) (fun r_1 u_ H locs hw_3 hP hD hS => ?_)
  · obtain ⟨hw, hu⟩ := hw
    have htab : c.exceptionTable.toList = [⟨0, 10, 13, 13⟩, ⟨0, 10, 17, 15⟩] := htab
    rcases hu with rfl | rfl
    · have hG := hG.trans (ch_1 hw)
      refine my_h1 (u := 1) hown htab (by decide) (by decide) (hts _ (mG w_105)) hE hEx hce hcv hcl ?_
      have hP : va_P D vwCl [(o0, .inl (aL, 1, .inr (.inl of))), (k0, .inr (4, [.ref h4, .null, up, .int powered, .int stepsDone])), (h4, .inr (3, [.ref h5, .int gap])), (h5, .inl (aI, n, .inl pf))] H := hP
      have hD : va_D A [(o0, .inl (aL, 1, .inr (.inl of))), (k0, .inr (4, [.ref h4, .null, up, .int powered, .int stepsDone])), (h4, .inr (3, [.ref h5, .int gap])), (h5, .inl (aI, n, .inl pf))] := hD
      refine lv_astore (lv' := [(4, .ref q9), (0, .ref k0), (1, .int p0), (2, .int p1), (3, .ref o0)]) hx hb dL_height_13 hl (by decide) rfl (fun ls hl => ?_)
      refine lv_iconst (v := 1) hx hb dL_height_15 (by decide) ?_
      have hP := hP.sub (ws' := [(k0, .inr (4, [.ref h4, .null, up, .int powered, .int stepsDone])), (h4, .inr (3, [.ref h5, .int gap])), (h5, .inl (aI, n, .inl pf)), (o0, .inl (aL, 1, .inr (.inl of)))]) [1, 2, 3, 0] rfl
      have hD := hD.sub (ws' := [(k0, .inr (4, [.ref h4, .null, up, .int powered, .int stepsDone])), (h4, .inr (3, [.ref h5, .int gap])), (h5, .inl (aI, n, .inl pf)), (o0, .inl (aL, 1, .inr (.inl of)))]) [1, 2, 3, 0] (by decide) rfl
      exact rt_i hQ hx hb hr (pf, of) hG hP hD hS (Nat.le_of_ble_eq_true rfl) (Nat.le_of_ble_eq_true rfl) dL_height_16 hlk
    · have hG := hG.trans (ch_2 hw)
      refine my_h2 (u := 2) hown htab (by decide) (by decide) (by decide) (hts _ (mG w_105)) (hts _ (mG w_106)) hE hEx hce hcv hcl ?_
      have hP : va_P D vwCl [(o0, .inl (aL, 1, .inr (.inl of))), (k0, .inr (4, [.ref h4, .null, up, .int powered, .int stepsDone])), (h4, .inr (3, [.ref h5, .int gap])), (h5, .inl (aI, n, .inl pf))] H := hP
      have hD : va_D A [(o0, .inl (aL, 1, .inr (.inl of))), (k0, .inr (4, [.ref h4, .null, up, .int powered, .int stepsDone])), (h4, .inr (3, [.ref h5, .int gap])), (h5, .inl (aI, n, .inl pf))] := hD
      refine lv_astore (lv' := [(4, .ref q9), (0, .ref k0), (1, .int p0), (2, .int p1), (3, .ref o0)]) hx hb dL_height_17 hl (by decide) rfl (fun ls hl => ?_)
      refine lv_iconst (v := 2) hx hb dL_height_19 (by decide) ?_
      have hP := hP.sub (ws' := [(k0, .inr (4, [.ref h4, .null, up, .int powered, .int stepsDone])), (h4, .inr (3, [.ref h5, .int gap])), (h5, .inl (aI, n, .inl pf)), (o0, .inl (aL, 1, .inr (.inl of)))]) [1, 2, 3, 0] rfl
      have hD := hD.sub (ws' := [(k0, .inr (4, [.ref h4, .null, up, .int powered, .int stepsDone])), (h4, .inr (3, [.ref h5, .int gap])), (h5, .inl (aI, n, .inl pf)), (o0, .inl (aL, 1, .inr (.inl of)))]) [1, 2, 3, 0] (by decide) rfl
      exact rt_i hQ hx hb hr (pf, of) hG hP hD hS (Nat.le_of_ble_eq_true rfl) (Nat.le_of_ble_eq_true rfl) dL_height_20 hlk
  · skip
    obtain ⟨x_2, rfl⟩ : ∃ z, z = u_ := ⟨_, rfl⟩
    have hw_3 : F_height_n n pf p0 p1 = .inr (r_1, x_2) := hw_3
    have hG := hG.trans (ch_r hw_3)
    have hP : va_P D vwCl [(o0, .inl (aL, 1, .inr (.inl of))), (k0, .inr (4, [.ref h4, .null, up, .int powered, .int stepsDone])), (h4, .inr (3, [.ref h5, .int gap])), (h5, .inl (aI, n, .inl x_2))] H := hP
    have hD : va_D A [(o0, .inl (aL, 1, .inr (.inl of))), (k0, .inr (4, [.ref h4, .null, up, .int powered, .int stepsDone])), (h4, .inr (3, [.ref h5, .int gap])), (h5, .inl (aI, n, .inl x_2))] := hD
    refine lv_i2l (v := (r_1).toInt64) hx hb dL_height_8 rfl ?_
    refine va_last hx hb hK hP hD hS 0 1 rfl rfl (by unfold vp_in; decide) dL_height_9 (fun H locs hP hD hS => ?_)
    have hP : va_P D vwCl [(o0, .inl (aL, 1, .inr (.inl (vp_updL of (0 : Int32).toNatClampNeg ((r_1).toInt64))))), (k0, .inr (4, [.ref h4, .null, up, .int powered, .int stepsDone])), (h4, .inr (3, [.ref h5, .int gap])), (h5, .inl (aI, n, .inl x_2))] H := hP
    have hD : va_D A [(o0, .inl (aL, 1, .inr (.inl (vp_updL of (0 : Int32).toNatClampNeg ((r_1).toInt64))))), (k0, .inr (4, [.ref h4, .null, up, .int powered, .int stepsDone])), (h4, .inr (3, [.ref h5, .int gap])), (h5, .inl (aI, n, .inl x_2))] := hD
    refine lv_goto (tgt := 21) hx hb dL_height_10 (by decide) ?_
    refine lv_iconst (v := 0) hx hb dL_height_21 (by decide) ?_
    have hP := hP.sub (ws' := [(k0, .inr (4, [.ref h4, .null, up, .int powered, .int stepsDone])), (h4, .inr (3, [.ref h5, .int gap])), (h5, .inl (aI, n, .inl x_2)), (o0, .inl (aL, 1, .inr (.inl (vp_updL of (0 : Int32).toNatClampNeg ((r_1).toInt64)))))]) [1, 2, 3, 0] rfl
    have hD := hD.sub (ws' := [(k0, .inr (4, [.ref h4, .null, up, .int powered, .int stepsDone])), (h4, .inr (3, [.ref h5, .int gap])), (h5, .inl (aI, n, .inl x_2)), (o0, .inl (aL, 1, .inr (.inl (vp_updL of (0 : Int32).toNatClampNeg ((r_1).toInt64)))))]) [1, 2, 3, 0] (by decide) rfl
    exact rt_i hQ hx hb hr (x_2, (vp_updL of (0 : Int32).toNatClampNeg ((r_1).toInt64))) hG hP hD hS (Nat.le_of_ble_eq_true rfl) (Nat.le_of_ble_eq_true rfl) dL_height_22 hlk
def F_h_height_c (n : Nat) (p0 : Int32) (p1 : Int32) : Int32 :=
  ch (F_height_c n p0 p1)
    (1)
    (2) fun _ =>
    1
theorem F_h_height_c_u (n : Nat) (p0 : Int32) (p1 : Int32) : F_h_height_c n p0 p1 =
  ((ch (F_height_c n p0 p1)
    (1)
    (2) fun _ =>
    1) : Int32) := rfl
set_option maxHeartbeats 4000000 in
set_option maxRecDepth 100000 in
theorem c_h_height_c (l : Launch) (hl9 : l.stackTraces = false) (D : va_G) (aI aL aZ : ClassId) (sz : Nat) (k0 : Nat) (h4 : Nat) (powered : Int32) (stepsDone : Int32) (h0 : Nat) (up : Value) (h5 : Nat) (gap : Int32) (n : Nat) (pf : Nat → Int32) (p0 : Int32) (p1 : Int32) (o0 : Nat) (of : Nat → Int64) (hn : n < 2 ^ 31) : Met l yL_height (.codeWith yL_height cL_height 5 (some .int) [(0, 10, 13, 13), (0, 10, 17, 15)] :: Gw) ({ frames := 8, cells := 3, slots := 18, locals := 137 }) (va_Pc [.ref k0, .int p0, .int p1, .ref o0] (mpre D [(aI, .int), (aL, .long), (aZ, .boolean)] [(k0, .inr (4, [.ref h4, .ref h0, up, .int powered, .int stepsDone])), (h4, .inr (3, [.ref h5, .int gap])), (h5, .inl (aI, n, .inl pf)), (o0, .inl (aL, 1, .inr (.inl of)))] sz)) ((fun A : Nat → Prop => va_Qi (fun (r : Int32) (u : Unit) => F_h_height_c n p0 p1 = r) (mpst D A (fun (u : Unit) => [(k0, .inr (4, [.ref h4, .ref h0, up, .int powered, .int stepsDone])), (h4, .inr (3, [.ref h5, .int gap])), (h5, .inl (aI, n, .inl pf)), (o0, .inl (aL, 1, .inr (.inl of)))])) A) (va_A ([(k0, .inr (4, [.ref h4, .ref h0, up, .int powered, .int stepsDone])), (h4, .inr (3, [.ref h5, .int gap])), (h5, .inl (aI, n, .inl pf)), (o0, .inl (aL, 1, .inr (.inl of)))]) sz)) 3 18 (va_A ([(k0, .inr (4, [.ref h4, .ref h0, up, .int powered, .int stepsDone])), (h4, .inr (3, [.ref h5, .int gap])), (h5, .inl (aI, n, .inl pf)), (o0, .inl (aL, 1, .inr (.inl of)))]) sz) := by
  refine enh (cc := cL_height) (maxL := 5) (ret := (some .int)) (Qc := (fun A : Nat → Prop => va_Qi (fun (r : Int32) (u : Unit) => F_h_height_c n p0 p1 = r) (mpst D A (fun (u : Unit) => [(k0, .inr (4, [.ref h4, .ref h0, up, .int powered, .int stepsDone])), (h4, .inr (3, [.ref h5, .int gap])), (h5, .inl (aI, n, .inl pf)), (o0, .inl (aL, 1, .inr (.inl of)))])) A)) (by decide) rfl (Nat.le_of_ble_eq_true rfl) ?_
  intro p e s m args below meth c A ls Q hQ hx hb hr hts hown hlk hnm hml htab hA hS hP hK hD hE hl
  have hown : s.vm.findClass RL = some m.cls := hown
  have hl : lv_has ls 5 [(0, .ref k0), (1, .int p0), (2, .int p1), (3, .ref o0)] := hl
  have hG := F_h_height_c_u n p0 p1
  refine lv_aload_n hx hb dL_height_0 rfl (lv_at hl 3 rfl) ?_
  refine lv_iconst (v := 0) hx hb dL_height_1 (by decide) ?_
  refine lv_aload_n hx hb dL_height_2 rfl (lv_at hl 0 rfl) ?_
  refine lv_iload_n hx hb dL_height_3 rfl (lv_at hl 1 rfl) ?_
  refine lv_iload_n hx hb dL_height_4 rfl (lv_at hl 2 rfl) ?_
  refine my_ci (wr := [(o0, .inl (aL, 1, .inr (.inl of)))]) [0, 1, 2] [3] (vx_runV (As := [.int p0, .int p1]) (rest := [.int 0, .ref o0]) ⟨hx, hb, hml, hown, hts⟩ (c_height_c l hl9 D aI aL aZ _ k0 h4 powered stepsDone h0 up h5 gap n pf p0 p1 hn) (cwV 2 hts (gV w_107 w_108 w_109 w_35 w_110) rfl rfl rfl (by decide +kernel) ⟨Nat.le_of_ble_eq_true rfl, Nat.le_of_ble_eq_true rfl⟩) (prev_of hK hP hD hS hA hE [0, 1, 2] rfl (by decide) (ci := 4) rfl 0 rfl _) rfl rfl hl.1 rfl (lv_room (Nat.le_of_ble_eq_true rfl)) dL_height_5 ⟨Nat.le_of_ble_eq_true rfl, Nat.le_of_ble_eq_true rfl⟩) hP hD hS hA rfl rfl (by decide) (by decide) (fun E ce q9 u H locs hw hEx hP hD hS hce hcv hcl => ?_) (fun r_1 u_ H locs hw_2 hP hD hS => ?_)
  · obtain ⟨hw, hu⟩ := hw
    have htab : c.exceptionTable.toList = [⟨0, 10, 13, 13⟩, ⟨0, 10, 17, 15⟩] := htab
    rcases hu with rfl | rfl
    · have hG := hG.trans (ch_1 hw)
      refine my_h1 (u := 1) hown htab (by decide) (by decide) (hts _ (mG w_105)) hE hEx hce hcv hcl ?_
      have hP : va_P D vwCl [(o0, .inl (aL, 1, .inr (.inl of))), (k0, .inr (4, [.ref h4, .ref h0, up, .int powered, .int stepsDone])), (h4, .inr (3, [.ref h5, .int gap])), (h5, .inl (aI, n, .inl pf))] H := hP
      have hD : va_D A [(o0, .inl (aL, 1, .inr (.inl of))), (k0, .inr (4, [.ref h4, .ref h0, up, .int powered, .int stepsDone])), (h4, .inr (3, [.ref h5, .int gap])), (h5, .inl (aI, n, .inl pf))] := hD
      refine lv_astore (lv' := [(4, .ref q9), (0, .ref k0), (1, .int p0), (2, .int p1), (3, .ref o0)]) hx hb dL_height_13 hl (by decide) rfl (fun ls hl => ?_)
      refine lv_iconst (v := 1) hx hb dL_height_15 (by decide) ?_
      have hP := hP.sub (ws' := [(k0, .inr (4, [.ref h4, .ref h0, up, .int powered, .int stepsDone])), (h4, .inr (3, [.ref h5, .int gap])), (h5, .inl (aI, n, .inl pf)), (o0, .inl (aL, 1, .inr (.inl of)))]) [1, 2, 3, 0] rfl
      have hD := hD.sub (ws' := [(k0, .inr (4, [.ref h4, .ref h0, up, .int powered, .int stepsDone])), (h4, .inr (3, [.ref h5, .int gap])), (h5, .inl (aI, n, .inl pf)), (o0, .inl (aL, 1, .inr (.inl of)))]) [1, 2, 3, 0] (by decide) rfl
      exact rt_i hQ hx hb hr () hG hP hD hS (Nat.le_of_ble_eq_true rfl) (Nat.le_of_ble_eq_true rfl) dL_height_16 hlk
    · have hG := hG.trans (ch_2 hw)
      refine my_h2 (u := 2) hown htab (by decide) (by decide) (by decide) (hts _ (mG w_105)) (hts _ (mG w_106)) hE hEx hce hcv hcl ?_
      have hP : va_P D vwCl [(o0, .inl (aL, 1, .inr (.inl of))), (k0, .inr (4, [.ref h4, .ref h0, up, .int powered, .int stepsDone])), (h4, .inr (3, [.ref h5, .int gap])), (h5, .inl (aI, n, .inl pf))] H := hP
      have hD : va_D A [(o0, .inl (aL, 1, .inr (.inl of))), (k0, .inr (4, [.ref h4, .ref h0, up, .int powered, .int stepsDone])), (h4, .inr (3, [.ref h5, .int gap])), (h5, .inl (aI, n, .inl pf))] := hD
      refine lv_astore (lv' := [(4, .ref q9), (0, .ref k0), (1, .int p0), (2, .int p1), (3, .ref o0)]) hx hb dL_height_17 hl (by decide) rfl (fun ls hl => ?_)
      refine lv_iconst (v := 2) hx hb dL_height_19 (by decide) ?_
      have hP := hP.sub (ws' := [(k0, .inr (4, [.ref h4, .ref h0, up, .int powered, .int stepsDone])), (h4, .inr (3, [.ref h5, .int gap])), (h5, .inl (aI, n, .inl pf)), (o0, .inl (aL, 1, .inr (.inl of)))]) [1, 2, 3, 0] rfl
      have hD := hD.sub (ws' := [(k0, .inr (4, [.ref h4, .ref h0, up, .int powered, .int stepsDone])), (h4, .inr (3, [.ref h5, .int gap])), (h5, .inl (aI, n, .inl pf)), (o0, .inl (aL, 1, .inr (.inl of)))]) [1, 2, 3, 0] (by decide) rfl
      exact rt_i hQ hx hb hr () hG hP hD hS (Nat.le_of_ble_eq_true rfl) (Nat.le_of_ble_eq_true rfl) dL_height_20 hlk
  · skip
    exact False.elim hw_2
theorem dL_gap_0 : decode cL_gap 0 = .ok (.aload_n 2, 1) := by decide +kernel
theorem dL_gap_1 : decode cL_gap 1 = .ok (.iconst 0, 1) := by decide +kernel
theorem dL_gap_2 : decode cL_gap 2 = .ok (.aload_n 0, 1) := by decide +kernel
theorem dL_gap_3 : decode cL_gap 3 = .ok (.iload_n 1, 1) := by decide +kernel
theorem dL_gap_4 : decode cL_gap 4 = .ok (.invokevirtual 17, 3) := by decide +kernel
theorem dL_gap_7 : decode cL_gap 7 = .ok (.i2l, 1) := by decide +kernel
theorem dL_gap_8 : decode cL_gap 8 = .ok (.lastore, 1) := by decide +kernel
theorem dL_gap_9 : decode cL_gap 9 = .ok (.goto 9, 3) := by decide +kernel
theorem dL_gap_12 : decode cL_gap 12 = .ok (.astore_n 3, 1) := by decide +kernel
theorem dL_gap_13 : decode cL_gap 13 = .ok (.iconst 1, 1) := by decide +kernel
theorem dL_gap_14 : decode cL_gap 14 = .ok (.ireturn, 1) := by decide +kernel
theorem dL_gap_15 : decode cL_gap 15 = .ok (.astore_n 3, 1) := by decide +kernel
theorem dL_gap_16 : decode cL_gap 16 = .ok (.iconst 2, 1) := by decide +kernel
theorem dL_gap_17 : decode cL_gap 17 = .ok (.ireturn, 1) := by decide +kernel
theorem dL_gap_18 : decode cL_gap 18 = .ok (.iconst 0, 1) := by decide +kernel
theorem dL_gap_19 : decode cL_gap 19 = .ok (.ireturn, 1) := by decide +kernel
def F_h_gap_n (gap : Int32) (p0 : Int32) (of : Nat → Int64) : Int32 × Int32 × (Nat → Int64) :=
  ch (F_gap_n gap p0)
    ((1, gap, of))
    ((1, gap, of)) fun r_1 =>
    (0, p0, (vp_updL of (0 : Int32).toNatClampNeg ((r_1).toInt64)))
theorem F_h_gap_n_u (gap : Int32) (p0 : Int32) (of : Nat → Int64) : F_h_gap_n gap p0 of =
  ((ch (F_gap_n gap p0)
    ((1, gap, of))
    ((1, gap, of)) fun r_1 =>
    (0, p0, (vp_updL of (0 : Int32).toNatClampNeg ((r_1).toInt64)))) : Int32 × Int32 × (Nat → Int64)) := rfl
set_option maxHeartbeats 4000000 in
set_option maxRecDepth 100000 in
theorem c_h_gap_n (l : Launch) (hl9 : l.stackTraces = false) (D : va_G) (aI aL aZ : ClassId) (sz : Nat) (k0 : Nat) (h4 : Nat) (powered : Int32) (stepsDone : Int32) (up : Value) (h5 : Nat) (gap : Int32) (n : Nat) (pf : Nat → Int32) (p0 : Int32) (o0 : Nat) (of : Nat → Int64) : Met l yL_gap (.codeWith yL_gap cL_gap 4 (some .int) [(0, 9, 12, 13), (0, 9, 15, 15)] :: Gw) ({ frames := 8, cells := 1, slots := 6, locals := 136 }) (va_Pc [.ref k0, .int p0, .ref o0] (mpre D [(aI, .int), (aL, .long), (aZ, .boolean)] [(k0, .inr (4, [.ref h4, .null, up, .int powered, .int stepsDone])), (h4, .inr (3, [.ref h5, .int gap])), (h5, .inl (aI, n, .inl pf)), (o0, .inl (aL, 1, .inr (.inl of)))] sz)) ((fun A : Nat → Prop => va_Qi (fun (r : Int32) (u : Int32 × (Nat → Int64)) => match u with | (u0, u1) => F_h_gap_n gap p0 of = (r, u0, u1)) (mpst D A (fun (u : Int32 × (Nat → Int64)) => match u with | (u0, u1) => [(k0, .inr (4, [.ref h4, .null, up, .int powered, .int stepsDone])), (h4, .inr (3, [.ref h5, .int u0])), (h5, .inl (aI, n, .inl pf)), (o0, .inl (aL, 1, .inr (.inl u1)))])) A) (va_A ([(k0, .inr (4, [.ref h4, .null, up, .int powered, .int stepsDone])), (h4, .inr (3, [.ref h5, .int gap])), (h5, .inl (aI, n, .inl pf)), (o0, .inl (aL, 1, .inr (.inl of)))]) sz)) 1 6 (va_A ([(k0, .inr (4, [.ref h4, .null, up, .int powered, .int stepsDone])), (h4, .inr (3, [.ref h5, .int gap])), (h5, .inl (aI, n, .inl pf)), (o0, .inl (aL, 1, .inr (.inl of)))]) sz) := by
  refine enh (cc := cL_gap) (maxL := 4) (ret := (some .int)) (Qc := (fun A : Nat → Prop => va_Qi (fun (r : Int32) (u : Int32 × (Nat → Int64)) => match u with | (u0, u1) => F_h_gap_n gap p0 of = (r, u0, u1)) (mpst D A (fun (u : Int32 × (Nat → Int64)) => match u with | (u0, u1) => [(k0, .inr (4, [.ref h4, .null, up, .int powered, .int stepsDone])), (h4, .inr (3, [.ref h5, .int u0])), (h5, .inl (aI, n, .inl pf)), (o0, .inl (aL, 1, .inr (.inl u1)))])) A)) (by decide) rfl (Nat.le_of_ble_eq_true rfl) ?_
  intro p e s m args below meth c A ls Q hQ hx hb hr hts hown hlk hnm hml htab hA hS hP hK hD hE hl
  have hown : s.vm.findClass RL = some m.cls := hown
  have hl : lv_has ls 4 [(0, .ref k0), (1, .int p0), (2, .ref o0)] := hl
  have hG := F_h_gap_n_u gap p0 of
  refine lv_aload_n hx hb dL_gap_0 rfl (lv_at hl 2 rfl) ?_
  refine lv_iconst (v := 0) hx hb dL_gap_1 (by decide) ?_
  refine lv_aload_n hx hb dL_gap_2 rfl (lv_at hl 0 rfl) ?_
  refine lv_iload_n hx hb dL_gap_3 rfl (lv_at hl 1 rfl) ?_
  refine my_ci (wr := [(o0, .inl (aL, 1, .inr (.inl of)))]) [0, 1, 2] [3] (vx_runV (As := [.int p0]) (rest := [.int 0, .ref o0]) ⟨hx, hb, hml, hown, hts⟩ (c_gap_n l hl9 D aI aL aZ _ k0 h4 powered stepsDone up h5 gap n pf p0) (cwV 1 hts (gV w_227 w_228 w_229 w_35 w_230) rfl rfl rfl (by decide +kernel) ⟨Nat.le_of_ble_eq_true rfl, Nat.le_of_ble_eq_true rfl⟩) (prev_of hK hP hD hS hA hE [0, 1, 2] rfl (by decide) (ci := 4) rfl 0 rfl _) rfl rfl hl.1 rfl (lv_room (Nat.le_of_ble_eq_true rfl)) dL_gap_4 ⟨Nat.le_of_ble_eq_true rfl, Nat.le_of_ble_eq_true rfl⟩) hP hD hS hA rfl rfl (by decide) (by decide) (fun E ce q9 u H locs hw hEx hP hD hS hce hcv hcl => ?_) (fun r_1 u_ H locs hw_2 hP hD hS => ?_)
  · obtain ⟨hw, hu⟩ := hw
    have htab : c.exceptionTable.toList = [⟨0, 9, 12, 13⟩, ⟨0, 9, 15, 15⟩] := htab
    subst hu
    have hG := hG.trans (ch_1 hw)
    refine my_h1 (u := 1) hown htab (by decide) (by decide) (hts _ (mG w_105)) hE hEx hce hcv hcl ?_
    have hP : va_P D vwCl [(o0, .inl (aL, 1, .inr (.inl of))), (k0, .inr (4, [.ref h4, .null, up, .int powered, .int stepsDone])), (h4, .inr (3, [.ref h5, .int gap])), (h5, .inl (aI, n, .inl pf))] H := hP
    have hD : va_D A [(o0, .inl (aL, 1, .inr (.inl of))), (k0, .inr (4, [.ref h4, .null, up, .int powered, .int stepsDone])), (h4, .inr (3, [.ref h5, .int gap])), (h5, .inl (aI, n, .inl pf))] := hD
    refine lv_astore_n (lv' := [(3, .ref q9), (0, .ref k0), (1, .int p0), (2, .ref o0)]) hx hb dL_gap_12 rfl hl (by decide) rfl (fun ls hl => ?_)
    refine lv_iconst (v := 1) hx hb dL_gap_13 (by decide) ?_
    have hP := hP.sub (ws' := [(k0, .inr (4, [.ref h4, .null, up, .int powered, .int stepsDone])), (h4, .inr (3, [.ref h5, .int gap])), (h5, .inl (aI, n, .inl pf)), (o0, .inl (aL, 1, .inr (.inl of)))]) [1, 2, 3, 0] rfl
    have hD := hD.sub (ws' := [(k0, .inr (4, [.ref h4, .null, up, .int powered, .int stepsDone])), (h4, .inr (3, [.ref h5, .int gap])), (h5, .inl (aI, n, .inl pf)), (o0, .inl (aL, 1, .inr (.inl of)))]) [1, 2, 3, 0] (by decide) rfl
    exact rt_i hQ hx hb hr (gap, of) hG hP hD hS (Nat.le_of_ble_eq_true rfl) (Nat.le_of_ble_eq_true rfl) dL_gap_14 hlk
  · skip
    have hw_2 : F_gap_n gap p0 = .inr r_1 := hw_2
    have hG := hG.trans (ch_r hw_2)
    have hP : va_P D vwCl [(o0, .inl (aL, 1, .inr (.inl of))), (k0, .inr (4, [.ref h4, .null, up, .int powered, .int stepsDone])), (h4, .inr (3, [.ref h5, .int p0])), (h5, .inl (aI, n, .inl pf))] H := hP
    have hD : va_D A [(o0, .inl (aL, 1, .inr (.inl of))), (k0, .inr (4, [.ref h4, .null, up, .int powered, .int stepsDone])), (h4, .inr (3, [.ref h5, .int p0])), (h5, .inl (aI, n, .inl pf))] := hD
    refine lv_i2l (v := (r_1).toInt64) hx hb dL_gap_7 rfl ?_
    refine va_last hx hb hK hP hD hS 0 1 rfl rfl (by unfold vp_in; decide) dL_gap_8 (fun H locs hP hD hS => ?_)
    have hP : va_P D vwCl [(o0, .inl (aL, 1, .inr (.inl (vp_updL of (0 : Int32).toNatClampNeg ((r_1).toInt64))))), (k0, .inr (4, [.ref h4, .null, up, .int powered, .int stepsDone])), (h4, .inr (3, [.ref h5, .int p0])), (h5, .inl (aI, n, .inl pf))] H := hP
    have hD : va_D A [(o0, .inl (aL, 1, .inr (.inl (vp_updL of (0 : Int32).toNatClampNeg ((r_1).toInt64))))), (k0, .inr (4, [.ref h4, .null, up, .int powered, .int stepsDone])), (h4, .inr (3, [.ref h5, .int p0])), (h5, .inl (aI, n, .inl pf))] := hD
    refine lv_goto (tgt := 18) hx hb dL_gap_9 (by decide) ?_
    refine lv_iconst (v := 0) hx hb dL_gap_18 (by decide) ?_
    have hP := hP.sub (ws' := [(k0, .inr (4, [.ref h4, .null, up, .int powered, .int stepsDone])), (h4, .inr (3, [.ref h5, .int p0])), (h5, .inl (aI, n, .inl pf)), (o0, .inl (aL, 1, .inr (.inl (vp_updL of (0 : Int32).toNatClampNeg ((r_1).toInt64)))))]) [1, 2, 3, 0] rfl
    have hD := hD.sub (ws' := [(k0, .inr (4, [.ref h4, .null, up, .int powered, .int stepsDone])), (h4, .inr (3, [.ref h5, .int p0])), (h5, .inl (aI, n, .inl pf)), (o0, .inl (aL, 1, .inr (.inl (vp_updL of (0 : Int32).toNatClampNeg ((r_1).toInt64)))))]) [1, 2, 3, 0] (by decide) rfl
    exact rt_i hQ hx hb hr (p0, (vp_updL of (0 : Int32).toNatClampNeg ((r_1).toInt64))) hG hP hD hS (Nat.le_of_ble_eq_true rfl) (Nat.le_of_ble_eq_true rfl) dL_gap_19 hlk
def F_h_gap_c (p0 : Int32) : Int32 :=
  ch (F_gap_c p0)
    (1)
    (2) fun _ =>
    1
theorem F_h_gap_c_u (p0 : Int32) : F_h_gap_c p0 =
  ((ch (F_gap_c p0)
    (1)
    (2) fun _ =>
    1) : Int32) := rfl
set_option maxHeartbeats 4000000 in
set_option maxRecDepth 100000 in
theorem c_h_gap_c (l : Launch) (hl9 : l.stackTraces = false) (D : va_G) (aI aL aZ : ClassId) (sz : Nat) (k0 : Nat) (h4 : Nat) (powered : Int32) (stepsDone : Int32) (h0 : Nat) (up : Value) (h5 : Nat) (gap : Int32) (n : Nat) (pf : Nat → Int32) (p0 : Int32) (o0 : Nat) (of : Nat → Int64) : Met l yL_gap (.codeWith yL_gap cL_gap 4 (some .int) [(0, 9, 12, 13), (0, 9, 15, 15)] :: Gw) ({ frames := 8, cells := 2, slots := 12, locals := 136 }) (va_Pc [.ref k0, .int p0, .ref o0] (mpre D [(aI, .int), (aL, .long), (aZ, .boolean)] [(k0, .inr (4, [.ref h4, .ref h0, up, .int powered, .int stepsDone])), (h4, .inr (3, [.ref h5, .int gap])), (h5, .inl (aI, n, .inl pf)), (o0, .inl (aL, 1, .inr (.inl of)))] sz)) ((fun A : Nat → Prop => va_Qi (fun (r : Int32) (u : Unit) => F_h_gap_c p0 = r) (mpst D A (fun (u : Unit) => [(k0, .inr (4, [.ref h4, .ref h0, up, .int powered, .int stepsDone])), (h4, .inr (3, [.ref h5, .int gap])), (h5, .inl (aI, n, .inl pf)), (o0, .inl (aL, 1, .inr (.inl of)))])) A) (va_A ([(k0, .inr (4, [.ref h4, .ref h0, up, .int powered, .int stepsDone])), (h4, .inr (3, [.ref h5, .int gap])), (h5, .inl (aI, n, .inl pf)), (o0, .inl (aL, 1, .inr (.inl of)))]) sz)) 2 12 (va_A ([(k0, .inr (4, [.ref h4, .ref h0, up, .int powered, .int stepsDone])), (h4, .inr (3, [.ref h5, .int gap])), (h5, .inl (aI, n, .inl pf)), (o0, .inl (aL, 1, .inr (.inl of)))]) sz) := by
  refine enh (cc := cL_gap) (maxL := 4) (ret := (some .int)) (Qc := (fun A : Nat → Prop => va_Qi (fun (r : Int32) (u : Unit) => F_h_gap_c p0 = r) (mpst D A (fun (u : Unit) => [(k0, .inr (4, [.ref h4, .ref h0, up, .int powered, .int stepsDone])), (h4, .inr (3, [.ref h5, .int gap])), (h5, .inl (aI, n, .inl pf)), (o0, .inl (aL, 1, .inr (.inl of)))])) A)) (by decide) rfl (Nat.le_of_ble_eq_true rfl) ?_
  intro p e s m args below meth c A ls Q hQ hx hb hr hts hown hlk hnm hml htab hA hS hP hK hD hE hl
  have hown : s.vm.findClass RL = some m.cls := hown
  have hl : lv_has ls 4 [(0, .ref k0), (1, .int p0), (2, .ref o0)] := hl
  have hG := F_h_gap_c_u p0
  refine lv_aload_n hx hb dL_gap_0 rfl (lv_at hl 2 rfl) ?_
  refine lv_iconst (v := 0) hx hb dL_gap_1 (by decide) ?_
  refine lv_aload_n hx hb dL_gap_2 rfl (lv_at hl 0 rfl) ?_
  refine lv_iload_n hx hb dL_gap_3 rfl (lv_at hl 1 rfl) ?_
  refine my_ci (wr := [(o0, .inl (aL, 1, .inr (.inl of)))]) [0, 1, 2] [3] (vx_runV (As := [.int p0]) (rest := [.int 0, .ref o0]) ⟨hx, hb, hml, hown, hts⟩ (c_gap_c l hl9 D aI aL aZ _ k0 h4 powered stepsDone h0 up h5 gap n pf p0) (cwV 1 hts (gV w_227 w_228 w_229 w_35 w_230) rfl rfl rfl (by decide +kernel) ⟨Nat.le_of_ble_eq_true rfl, Nat.le_of_ble_eq_true rfl⟩) (prev_of hK hP hD hS hA hE [0, 1, 2] rfl (by decide) (ci := 4) rfl 0 rfl _) rfl rfl hl.1 rfl (lv_room (Nat.le_of_ble_eq_true rfl)) dL_gap_4 ⟨Nat.le_of_ble_eq_true rfl, Nat.le_of_ble_eq_true rfl⟩) hP hD hS hA rfl rfl (by decide) (by decide) (fun E ce q9 u H locs hw hEx hP hD hS hce hcv hcl => ?_) (fun r_1 u_ H locs hw_2 hP hD hS => ?_)
  · obtain ⟨hw, hu⟩ := hw
    have htab : c.exceptionTable.toList = [⟨0, 9, 12, 13⟩, ⟨0, 9, 15, 15⟩] := htab
    rcases hu with rfl | rfl
    · have hG := hG.trans (ch_1 hw)
      refine my_h1 (u := 1) hown htab (by decide) (by decide) (hts _ (mG w_105)) hE hEx hce hcv hcl ?_
      have hP : va_P D vwCl [(o0, .inl (aL, 1, .inr (.inl of))), (k0, .inr (4, [.ref h4, .ref h0, up, .int powered, .int stepsDone])), (h4, .inr (3, [.ref h5, .int gap])), (h5, .inl (aI, n, .inl pf))] H := hP
      have hD : va_D A [(o0, .inl (aL, 1, .inr (.inl of))), (k0, .inr (4, [.ref h4, .ref h0, up, .int powered, .int stepsDone])), (h4, .inr (3, [.ref h5, .int gap])), (h5, .inl (aI, n, .inl pf))] := hD
      refine lv_astore_n (lv' := [(3, .ref q9), (0, .ref k0), (1, .int p0), (2, .ref o0)]) hx hb dL_gap_12 rfl hl (by decide) rfl (fun ls hl => ?_)
      refine lv_iconst (v := 1) hx hb dL_gap_13 (by decide) ?_
      have hP := hP.sub (ws' := [(k0, .inr (4, [.ref h4, .ref h0, up, .int powered, .int stepsDone])), (h4, .inr (3, [.ref h5, .int gap])), (h5, .inl (aI, n, .inl pf)), (o0, .inl (aL, 1, .inr (.inl of)))]) [1, 2, 3, 0] rfl
      have hD := hD.sub (ws' := [(k0, .inr (4, [.ref h4, .ref h0, up, .int powered, .int stepsDone])), (h4, .inr (3, [.ref h5, .int gap])), (h5, .inl (aI, n, .inl pf)), (o0, .inl (aL, 1, .inr (.inl of)))]) [1, 2, 3, 0] (by decide) rfl
      exact rt_i hQ hx hb hr () hG hP hD hS (Nat.le_of_ble_eq_true rfl) (Nat.le_of_ble_eq_true rfl) dL_gap_14 hlk
    · have hG := hG.trans (ch_2 hw)
      refine my_h2 (u := 2) hown htab (by decide) (by decide) (by decide) (hts _ (mG w_105)) (hts _ (mG w_106)) hE hEx hce hcv hcl ?_
      have hP : va_P D vwCl [(o0, .inl (aL, 1, .inr (.inl of))), (k0, .inr (4, [.ref h4, .ref h0, up, .int powered, .int stepsDone])), (h4, .inr (3, [.ref h5, .int gap])), (h5, .inl (aI, n, .inl pf))] H := hP
      have hD : va_D A [(o0, .inl (aL, 1, .inr (.inl of))), (k0, .inr (4, [.ref h4, .ref h0, up, .int powered, .int stepsDone])), (h4, .inr (3, [.ref h5, .int gap])), (h5, .inl (aI, n, .inl pf))] := hD
      refine lv_astore_n (lv' := [(3, .ref q9), (0, .ref k0), (1, .int p0), (2, .ref o0)]) hx hb dL_gap_15 rfl hl (by decide) rfl (fun ls hl => ?_)
      refine lv_iconst (v := 2) hx hb dL_gap_16 (by decide) ?_
      have hP := hP.sub (ws' := [(k0, .inr (4, [.ref h4, .ref h0, up, .int powered, .int stepsDone])), (h4, .inr (3, [.ref h5, .int gap])), (h5, .inl (aI, n, .inl pf)), (o0, .inl (aL, 1, .inr (.inl of)))]) [1, 2, 3, 0] rfl
      have hD := hD.sub (ws' := [(k0, .inr (4, [.ref h4, .ref h0, up, .int powered, .int stepsDone])), (h4, .inr (3, [.ref h5, .int gap])), (h5, .inl (aI, n, .inl pf)), (o0, .inl (aL, 1, .inr (.inl of)))]) [1, 2, 3, 0] (by decide) rfl
      exact rt_i hQ hx hb hr () hG hP hD hS (Nat.le_of_ble_eq_true rfl) (Nat.le_of_ble_eq_true rfl) dL_gap_17 hlk
  · skip
    exact False.elim hw_2
theorem dL_car_0 : decode cL_car 0 = .ok (.aload_n 2, 1) := by decide +kernel
theorem dL_car_1 : decode cL_car 1 = .ok (.iconst 0, 1) := by decide +kernel
theorem dL_car_2 : decode cL_car 2 = .ok (.aload_n 0, 1) := by decide +kernel
theorem dL_car_3 : decode cL_car 3 = .ok (.iload_n 1, 1) := by decide +kernel
theorem dL_car_4 : decode cL_car 4 = .ok (.invokevirtual 21, 3) := by decide +kernel
theorem dL_car_7 : decode cL_car 7 = .ok (.i2l, 1) := by decide +kernel
theorem dL_car_8 : decode cL_car 8 = .ok (.lastore, 1) := by decide +kernel
theorem dL_car_9 : decode cL_car 9 = .ok (.goto 9, 3) := by decide +kernel
theorem dL_car_12 : decode cL_car 12 = .ok (.astore_n 3, 1) := by decide +kernel
theorem dL_car_13 : decode cL_car 13 = .ok (.iconst 1, 1) := by decide +kernel
theorem dL_car_14 : decode cL_car 14 = .ok (.ireturn, 1) := by decide +kernel
theorem dL_car_15 : decode cL_car 15 = .ok (.astore_n 3, 1) := by decide +kernel
theorem dL_car_16 : decode cL_car 16 = .ok (.iconst 2, 1) := by decide +kernel
theorem dL_car_17 : decode cL_car 17 = .ok (.ireturn, 1) := by decide +kernel
theorem dL_car_18 : decode cL_car 18 = .ok (.iconst 0, 1) := by decide +kernel
theorem dL_car_19 : decode cL_car 19 = .ok (.ireturn, 1) := by decide +kernel
def F_h_car_0_thr (n : Nat) (pf : Nat → Int32) (p0 : Int32) : Int32 :=
  ch (F_car_0 n pf p0)
    (1)
    (1) fun _ =>
    1
theorem F_h_car_0_thr_u (n : Nat) (pf : Nat → Int32) (p0 : Int32) : F_h_car_0_thr n pf p0 =
  ((ch (F_car_0 n pf p0)
    (1)
    (1) fun _ =>
    1) : Int32) := rfl
set_option maxHeartbeats 4000000 in
set_option maxRecDepth 100000 in
theorem c_h_car_0_thr (l : Launch) (hl9 : l.stackTraces = false) (D : va_G) (aI aL aZ : ClassId) (sz : Nat) (k0 : Nat) (h4 : Nat) (powered : Int32) (stepsDone : Int32) (up : Value) (h5 : Nat) (gap : Int32) (n : Nat) (pf : Nat → Int32) (p0 : Int32) (o0 : Nat) (of : Nat → Int64) (xe : Int32) (hn : n < 2 ^ 31) (hX : F_car_0 n pf p0 = .inl xe) : Met l yL_car (.codeWith yL_car cL_car 4 (some .int) [(0, 9, 12, 13), (0, 9, 15, 15)] :: Gw) ({ frames := 8, cells := 5, slots := 44, locals := 136 }) (va_Pc [.ref k0, .int p0, .ref o0] (mpre D [(aI, .int), (aL, .long), (aZ, .boolean)] [(k0, .inr (4, [.ref h4, .null, up, .int powered, .int stepsDone])), (h4, .inr (3, [.ref h5, .int gap])), (h5, .inl (aI, n, .inl pf)), (o0, .inl (aL, 1, .inr (.inl of)))] sz)) ((fun A : Nat → Prop => va_Qi (fun (r : Int32) (u : Unit) => F_h_car_0_thr n pf p0 = r) (mpst D A (fun (u : Unit) => [(k0, .inr (4, [.ref h4, .null, up, .int powered, .int stepsDone])), (h4, .inr (3, [.ref h5, .int gap])), (h5, .inl (aI, n, .inl pf)), (o0, .inl (aL, 1, .inr (.inl of)))])) A) (va_A ([(k0, .inr (4, [.ref h4, .null, up, .int powered, .int stepsDone])), (h4, .inr (3, [.ref h5, .int gap])), (h5, .inl (aI, n, .inl pf)), (o0, .inl (aL, 1, .inr (.inl of)))]) sz)) 5 44 (va_A ([(k0, .inr (4, [.ref h4, .null, up, .int powered, .int stepsDone])), (h4, .inr (3, [.ref h5, .int gap])), (h5, .inl (aI, n, .inl pf)), (o0, .inl (aL, 1, .inr (.inl of)))]) sz) := by
  refine enh (cc := cL_car) (maxL := 4) (ret := (some .int)) (Qc := (fun A : Nat → Prop => va_Qi (fun (r : Int32) (u : Unit) => F_h_car_0_thr n pf p0 = r) (mpst D A (fun (u : Unit) => [(k0, .inr (4, [.ref h4, .null, up, .int powered, .int stepsDone])), (h4, .inr (3, [.ref h5, .int gap])), (h5, .inl (aI, n, .inl pf)), (o0, .inl (aL, 1, .inr (.inl of)))])) A)) (by decide) rfl (Nat.le_of_ble_eq_true rfl) ?_
  intro p e s m args below meth c A ls Q hQ hx hb hr hts hown hlk hnm hml htab hA hS hP hK hD hE hl
  have hown : s.vm.findClass RL = some m.cls := hown
  have hl : lv_has ls 4 [(0, .ref k0), (1, .int p0), (2, .ref o0)] := hl
  have hG := F_h_car_0_thr_u n pf p0
  refine lv_aload_n hx hb dL_car_0 rfl (lv_at hl 2 rfl) ?_
  refine lv_iconst (v := 0) hx hb dL_car_1 (by decide) ?_
  refine lv_aload_n hx hb dL_car_2 rfl (lv_at hl 0 rfl) ?_
  refine lv_iload_n hx hb dL_car_3 rfl (lv_at hl 1 rfl) ?_
  refine my_ci (wr := [(o0, .inl (aL, 1, .inr (.inl of)))]) [0, 1, 2] [3] (vx_runV (As := [.int p0]) (rest := [.int 0, .ref o0]) ⟨hx, hb, hml, hown, hts⟩ (c_car_0 l hl9 D aI aL aZ _ k0 h4 powered stepsDone up h5 gap n pf p0 hn) (cwV 1 hts (gV w_234 w_235 w_236 w_35 w_237) rfl rfl rfl (by decide +kernel) ⟨Nat.le_of_ble_eq_true rfl, Nat.le_of_ble_eq_true rfl⟩) (prev_of hK hP hD hS hA hE [0, 1, 2] rfl (by decide) (ci := 4) rfl 0 rfl _) rfl rfl hl.1 rfl (lv_room (Nat.le_of_ble_eq_true rfl)) dL_car_4 ⟨Nat.le_of_ble_eq_true rfl, Nat.le_of_ble_eq_true rfl⟩) hP hD hS hA rfl rfl (by decide) (by decide) (fun E ce q9 u H locs hw hEx hP hD hS hce hcv hcl => ?_) (fun r_1 u_ H locs hw_7 hP hD hS => ?_)
  · obtain ⟨hw, hu⟩ := hw
    have htab : c.exceptionTable.toList = [⟨0, 9, 12, 13⟩, ⟨0, 9, 15, 15⟩] := htab
    subst hu
    have hG := hG.trans (ch_1 hw)
    refine my_h1 (u := 1) hown htab (by decide) (by decide) (hts _ (mG w_105)) hE hEx hce hcv hcl ?_
    have hP : va_P D vwCl [(o0, .inl (aL, 1, .inr (.inl of))), (k0, .inr (4, [.ref h4, .null, up, .int powered, .int stepsDone])), (h4, .inr (3, [.ref h5, .int gap])), (h5, .inl (aI, n, .inl pf))] H := hP
    have hD : va_D A [(o0, .inl (aL, 1, .inr (.inl of))), (k0, .inr (4, [.ref h4, .null, up, .int powered, .int stepsDone])), (h4, .inr (3, [.ref h5, .int gap])), (h5, .inl (aI, n, .inl pf))] := hD
    refine lv_astore_n (lv' := [(3, .ref q9), (0, .ref k0), (1, .int p0), (2, .ref o0)]) hx hb dL_car_12 rfl hl (by decide) rfl (fun ls hl => ?_)
    refine lv_iconst (v := 1) hx hb dL_car_13 (by decide) ?_
    have hP := hP.sub (ws' := [(k0, .inr (4, [.ref h4, .null, up, .int powered, .int stepsDone])), (h4, .inr (3, [.ref h5, .int gap])), (h5, .inl (aI, n, .inl pf)), (o0, .inl (aL, 1, .inr (.inl of)))]) [1, 2, 3, 0] rfl
    have hD := hD.sub (ws' := [(k0, .inr (4, [.ref h4, .null, up, .int powered, .int stepsDone])), (h4, .inr (3, [.ref h5, .int gap])), (h5, .inl (aI, n, .inl pf)), (o0, .inl (aL, 1, .inr (.inl of)))]) [1, 2, 3, 0] (by decide) rfl
    exact rt_i hQ hx hb hr () hG hP hD hS (Nat.le_of_ble_eq_true rfl) (Nat.le_of_ble_eq_true rfl) dL_car_14 hlk
  · skip
    exact absurd (hX.symm.trans hw_7) Sum.inl_ne_inr
def F_h_car_0_ret (n : Nat) (pf : Nat → Int32) (p0 : Int32) (of : Nat → Int64) : Int32 × (Nat → Int64) × Int32 :=
  ch (F_car_0 n pf p0)
    (default)
    (default) fun (r_1, x_2) =>
    (0, (vp_updL of (0 : Int32).toNatClampNeg ((r_1).toInt64)), x_2)
theorem F_h_car_0_ret_u (n : Nat) (pf : Nat → Int32) (p0 : Int32) (of : Nat → Int64) : F_h_car_0_ret n pf p0 of =
  ((ch (F_car_0 n pf p0)
    (default)
    (default) fun (r_1, x_2) =>
    (0, (vp_updL of (0 : Int32).toNatClampNeg ((r_1).toInt64)), x_2)) : Int32 × (Nat → Int64) × Int32) := rfl
set_option maxHeartbeats 4000000 in
set_option maxRecDepth 100000 in
theorem c_h_car_0_ret (l : Launch) (hl9 : l.stackTraces = false) (D : va_G) (aI aL aZ : ClassId) (sz : Nat) (k0 : Nat) (h4 : Nat) (powered : Int32) (stepsDone : Int32) (up : Value) (h5 : Nat) (gap : Int32) (n : Nat) (pf : Nat → Int32) (p0 : Int32) (o0 : Nat) (of : Nat → Int64) (xr : Int32 × Int32) (hn : n < 2 ^ 31) (hX : F_car_0 n pf p0 = .inr xr) : Met l yL_car (.codeWith yL_car cL_car 4 (some .int) [(0, 9, 12, 13), (0, 9, 15, 15)] :: Gw) ({ frames := 8, cells := 5, slots := 44, locals := 136 }) (va_Pc [.ref k0, .int p0, .ref o0] (mpre D [(aI, .int), (aL, .long), (aZ, .boolean)] [(k0, .inr (4, [.ref h4, .null, up, .int powered, .int stepsDone])), (h4, .inr (3, [.ref h5, .int gap])), (h5, .inl (aI, n, .inl pf)), (o0, .inl (aL, 1, .inr (.inl of)))] sz)) ((fun A : Nat → Prop => va_Qi (fun (r : Int32) (u : Nat × Nat × Nat × Nat × (Nat → Int64) × Int32) => match u with | (q_3, q_4, q_5, q_6, u0, u1) => F_h_car_0_ret n pf p0 of = (r, u0, u1)) (mpst D A (fun (u : Nat × Nat × Nat × Nat × (Nat → Int64) × Int32) => match u with | (q_3, q_4, q_5, q_6, u0, u1) => [(k0, .inr (4, [.ref h4, .ref q_3, up, .int powered, .int stepsDone])), (h4, .inr (3, [.ref h5, .int gap])), (h5, .inl (aI, n, .inl pf)), (o0, .inl (aL, 1, .inr (.inl u0))), (q_3, .inr (1, [.int 1, .ref q_4, .ref q_5, .int u1, .int 0, .int 0, .int 100, .int 20, .int 40, .int 5, .int 10, .int 0, .int 1000, .int 0, .int (-1), .int 2, .int 0, .int 0, .int 0])), (q_4, .inr (2, [.int 0, .int 0, .int 5, .int 20, .int 0, .int 0, .int 0, .int 0])), (q_5, .inr (0, [.ref q_6, .int 0, .int 0])), (q_6, .inl (aI, 8, .inl (fun _ => 0)))])) A) (va_A ([(k0, .inr (4, [.ref h4, .null, up, .int powered, .int stepsDone])), (h4, .inr (3, [.ref h5, .int gap])), (h5, .inl (aI, n, .inl pf)), (o0, .inl (aL, 1, .inr (.inl of)))]) sz)) 5 44 (va_A ([(k0, .inr (4, [.ref h4, .null, up, .int powered, .int stepsDone])), (h4, .inr (3, [.ref h5, .int gap])), (h5, .inl (aI, n, .inl pf)), (o0, .inl (aL, 1, .inr (.inl of)))]) sz) := by
  refine enh (cc := cL_car) (maxL := 4) (ret := (some .int)) (Qc := (fun A : Nat → Prop => va_Qi (fun (r : Int32) (u : Nat × Nat × Nat × Nat × (Nat → Int64) × Int32) => match u with | (q_3, q_4, q_5, q_6, u0, u1) => F_h_car_0_ret n pf p0 of = (r, u0, u1)) (mpst D A (fun (u : Nat × Nat × Nat × Nat × (Nat → Int64) × Int32) => match u with | (q_3, q_4, q_5, q_6, u0, u1) => [(k0, .inr (4, [.ref h4, .ref q_3, up, .int powered, .int stepsDone])), (h4, .inr (3, [.ref h5, .int gap])), (h5, .inl (aI, n, .inl pf)), (o0, .inl (aL, 1, .inr (.inl u0))), (q_3, .inr (1, [.int 1, .ref q_4, .ref q_5, .int u1, .int 0, .int 0, .int 100, .int 20, .int 40, .int 5, .int 10, .int 0, .int 1000, .int 0, .int (-1), .int 2, .int 0, .int 0, .int 0])), (q_4, .inr (2, [.int 0, .int 0, .int 5, .int 20, .int 0, .int 0, .int 0, .int 0])), (q_5, .inr (0, [.ref q_6, .int 0, .int 0])), (q_6, .inl (aI, 8, .inl (fun _ => 0)))])) A)) (by decide) rfl (Nat.le_of_ble_eq_true rfl) ?_
  intro p e s m args below meth c A ls Q hQ hx hb hr hts hown hlk hnm hml htab hA hS hP hK hD hE hl
  have hown : s.vm.findClass RL = some m.cls := hown
  have hl : lv_has ls 4 [(0, .ref k0), (1, .int p0), (2, .ref o0)] := hl
  have hG := F_h_car_0_ret_u n pf p0 of
  refine lv_aload_n hx hb dL_car_0 rfl (lv_at hl 2 rfl) ?_
  refine lv_iconst (v := 0) hx hb dL_car_1 (by decide) ?_
  refine lv_aload_n hx hb dL_car_2 rfl (lv_at hl 0 rfl) ?_
  refine lv_iload_n hx hb dL_car_3 rfl (lv_at hl 1 rfl) ?_
  refine my_ci (wr := [(o0, .inl (aL, 1, .inr (.inl of)))]) [0, 1, 2] [3] (vx_runV (As := [.int p0]) (rest := [.int 0, .ref o0]) ⟨hx, hb, hml, hown, hts⟩ (c_car_0 l hl9 D aI aL aZ _ k0 h4 powered stepsDone up h5 gap n pf p0 hn) (cwV 1 hts (gV w_234 w_235 w_236 w_35 w_237) rfl rfl rfl (by decide +kernel) ⟨Nat.le_of_ble_eq_true rfl, Nat.le_of_ble_eq_true rfl⟩) (prev_of hK hP hD hS hA hE [0, 1, 2] rfl (by decide) (ci := 4) rfl 0 rfl _) rfl rfl hl.1 rfl (lv_room (Nat.le_of_ble_eq_true rfl)) dL_car_4 ⟨Nat.le_of_ble_eq_true rfl, Nat.le_of_ble_eq_true rfl⟩) hP hD hS hA rfl rfl (by decide) (by decide) (fun E ce q9 u H locs hw hEx hP hD hS hce hcv hcl => ?_) (fun r_1 u_ H locs hw_7 hP hD hS => ?_)
  · obtain ⟨hw, hu⟩ := hw
    have htab : c.exceptionTable.toList = [⟨0, 9, 12, 13⟩, ⟨0, 9, 15, 15⟩] := htab
    exact absurd (hw.symm.trans hX) Sum.inl_ne_inr
  · skip
    obtain ⟨q_3, q_4, q_5, q_6, x_2⟩ := u_
    have hw_7 : F_car_0 n pf p0 = .inr (r_1, x_2) := hw_7
    have hG := hG.trans (ch_r hw_7)
    have hP : va_P D vwCl [(o0, .inl (aL, 1, .inr (.inl of))), (k0, .inr (4, [.ref h4, .ref q_3, up, .int powered, .int stepsDone])), (h4, .inr (3, [.ref h5, .int gap])), (h5, .inl (aI, n, .inl pf)), (q_3, .inr (1, [.int 1, .ref q_4, .ref q_5, .int x_2, .int 0, .int 0, .int 100, .int 20, .int 40, .int 5, .int 10, .int 0, .int 1000, .int 0, .int (-1), .int 2, .int 0, .int 0, .int 0])), (q_4, .inr (2, [.int 0, .int 0, .int 5, .int 20, .int 0, .int 0, .int 0, .int 0])), (q_5, .inr (0, [.ref q_6, .int 0, .int 0])), (q_6, .inl (aI, 8, .inl (fun _ => 0)))] H := hP
    have hD : va_D A [(o0, .inl (aL, 1, .inr (.inl of))), (k0, .inr (4, [.ref h4, .ref q_3, up, .int powered, .int stepsDone])), (h4, .inr (3, [.ref h5, .int gap])), (h5, .inl (aI, n, .inl pf)), (q_3, .inr (1, [.int 1, .ref q_4, .ref q_5, .int x_2, .int 0, .int 0, .int 100, .int 20, .int 40, .int 5, .int 10, .int 0, .int 1000, .int 0, .int (-1), .int 2, .int 0, .int 0, .int 0])), (q_4, .inr (2, [.int 0, .int 0, .int 5, .int 20, .int 0, .int 0, .int 0, .int 0])), (q_5, .inr (0, [.ref q_6, .int 0, .int 0])), (q_6, .inl (aI, 8, .inl (fun _ => 0)))] := hD
    refine lv_i2l (v := (r_1).toInt64) hx hb dL_car_7 rfl ?_
    refine va_last hx hb hK hP hD hS 0 1 rfl rfl (by unfold vp_in; decide) dL_car_8 (fun H locs hP hD hS => ?_)
    have hP : va_P D vwCl [(o0, .inl (aL, 1, .inr (.inl (vp_updL of (0 : Int32).toNatClampNeg ((r_1).toInt64))))), (k0, .inr (4, [.ref h4, .ref q_3, up, .int powered, .int stepsDone])), (h4, .inr (3, [.ref h5, .int gap])), (h5, .inl (aI, n, .inl pf)), (q_3, .inr (1, [.int 1, .ref q_4, .ref q_5, .int x_2, .int 0, .int 0, .int 100, .int 20, .int 40, .int 5, .int 10, .int 0, .int 1000, .int 0, .int (-1), .int 2, .int 0, .int 0, .int 0])), (q_4, .inr (2, [.int 0, .int 0, .int 5, .int 20, .int 0, .int 0, .int 0, .int 0])), (q_5, .inr (0, [.ref q_6, .int 0, .int 0])), (q_6, .inl (aI, 8, .inl (fun _ => 0)))] H := hP
    have hD : va_D A [(o0, .inl (aL, 1, .inr (.inl (vp_updL of (0 : Int32).toNatClampNeg ((r_1).toInt64))))), (k0, .inr (4, [.ref h4, .ref q_3, up, .int powered, .int stepsDone])), (h4, .inr (3, [.ref h5, .int gap])), (h5, .inl (aI, n, .inl pf)), (q_3, .inr (1, [.int 1, .ref q_4, .ref q_5, .int x_2, .int 0, .int 0, .int 100, .int 20, .int 40, .int 5, .int 10, .int 0, .int 1000, .int 0, .int (-1), .int 2, .int 0, .int 0, .int 0])), (q_4, .inr (2, [.int 0, .int 0, .int 5, .int 20, .int 0, .int 0, .int 0, .int 0])), (q_5, .inr (0, [.ref q_6, .int 0, .int 0])), (q_6, .inl (aI, 8, .inl (fun _ => 0)))] := hD
    refine lv_goto (tgt := 18) hx hb dL_car_9 (by decide) ?_
    refine lv_iconst (v := 0) hx hb dL_car_18 (by decide) ?_
    have hP := hP.sub (ws' := [(k0, .inr (4, [.ref h4, .ref q_3, up, .int powered, .int stepsDone])), (h4, .inr (3, [.ref h5, .int gap])), (h5, .inl (aI, n, .inl pf)), (o0, .inl (aL, 1, .inr (.inl (vp_updL of (0 : Int32).toNatClampNeg ((r_1).toInt64))))), (q_3, .inr (1, [.int 1, .ref q_4, .ref q_5, .int x_2, .int 0, .int 0, .int 100, .int 20, .int 40, .int 5, .int 10, .int 0, .int 1000, .int 0, .int (-1), .int 2, .int 0, .int 0, .int 0])), (q_4, .inr (2, [.int 0, .int 0, .int 5, .int 20, .int 0, .int 0, .int 0, .int 0])), (q_5, .inr (0, [.ref q_6, .int 0, .int 0])), (q_6, .inl (aI, 8, .inl (fun _ => 0)))]) [1, 2, 3, 0, 4, 5, 6, 7] rfl
    have hD := hD.sub (ws' := [(k0, .inr (4, [.ref h4, .ref q_3, up, .int powered, .int stepsDone])), (h4, .inr (3, [.ref h5, .int gap])), (h5, .inl (aI, n, .inl pf)), (o0, .inl (aL, 1, .inr (.inl (vp_updL of (0 : Int32).toNatClampNeg ((r_1).toInt64))))), (q_3, .inr (1, [.int 1, .ref q_4, .ref q_5, .int x_2, .int 0, .int 0, .int 100, .int 20, .int 40, .int 5, .int 10, .int 0, .int 1000, .int 0, .int (-1), .int 2, .int 0, .int 0, .int 0])), (q_4, .inr (2, [.int 0, .int 0, .int 5, .int 20, .int 0, .int 0, .int 0, .int 0])), (q_5, .inr (0, [.ref q_6, .int 0, .int 0])), (q_6, .inl (aI, 8, .inl (fun _ => 0)))]) [1, 2, 3, 0, 4, 5, 6, 7] (by decide) rfl
    exact rt_i hQ hx hb hr (q_3, q_4, q_5, q_6, (vp_updL of (0 : Int32).toNatClampNeg ((r_1).toInt64)), x_2) hG hP hD hS (Nat.le_of_ble_eq_true rfl) (Nat.le_of_ble_eq_true rfl) dL_car_19 hlk
def F_h_car_1_thr (gap : Int32) (n : Nat) (pf : Nat → Int32) (wayToOther : Int32) (place : Int32) (speed : Int32) (way : Int32) (brake : Int32) (p0 : Int32) : Int32 :=
  ch (F_car_1 gap n pf wayToOther place speed way brake p0)
    (1)
    (2) fun _ =>
    1
theorem F_h_car_1_thr_u (gap : Int32) (n : Nat) (pf : Nat → Int32) (wayToOther : Int32) (place : Int32) (speed : Int32) (way : Int32) (brake : Int32) (p0 : Int32) : F_h_car_1_thr gap n pf wayToOther place speed way brake p0 =
  ((ch (F_car_1 gap n pf wayToOther place speed way brake p0)
    (1)
    (2) fun _ =>
    1) : Int32) := rfl
set_option maxHeartbeats 4000000 in
set_option maxRecDepth 100000 in
theorem c_h_car_1_thr (l : Launch) (hl9 : l.stackTraces = false) (D : va_G) (aI aL aZ : ClassId) (sz : Nat) (k0 : Nat) (h4 : Nat) (powered : Int32) (stepsDone : Int32) (h5 : Nat) (gap : Int32) (n : Nat) (pf : Nat → Int32) (h0 : Nat) (h1 : Nat) (h2 : Nat) (wayToOther : Int32) (place : Int32) (speed : Int32) (way : Int32) (topSpeed : Int32) (gain : Int32) (brake : Int32) (darkSpeed : Int32) (rideSpeed : Int32) (kilos : Int32) (mostKilos : Int32) (openContacts : Int32) (fireFloor : Int32) (ride : Int32) (starts : Int32) (distance : Int32) (hardFalls : Int32) (p0 : Int32) (o0 : Nat) (of : Nat → Int64) (xe : Int32) (hn : n < 2 ^ 31) (hX : F_car_1 gap n pf wayToOther place speed way brake p0 = .inl xe) : Met l yL_car (.codeWith yL_car cL_car 4 (some .int) [(0, 9, 12, 13), (0, 9, 15, 15)] :: Gw) ({ frames := 8, cells := 5, slots := 44, locals := 136 }) (va_Pc [.ref k0, .int p0, .ref o0] (mpre D [(aI, .int), (aL, .long), (aZ, .boolean)] [(k0, .inr (4, [.ref h4, .ref h0, .null, .int powered, .int stepsDone])), (h4, .inr (3, [.ref h5, .int gap])), (h5, .inl (aI, n, .inl pf)), (h0, .inr (1, [.int wayToOther, .ref h1, .ref h2, .int place, .int speed, .int way, .int topSpeed, .int gain, .int brake, .int darkSpeed, .int rideSpeed, .int kilos, .int mostKilos, .int openContacts, .int fireFloor, .int ride, .int starts, .int distance, .int hardFalls])), (o0, .inl (aL, 1, .inr (.inl of)))] sz)) ((fun A : Nat → Prop => va_Qi (fun (r : Int32) (u : Unit) => F_h_car_1_thr gap n pf wayToOther place speed way brake p0 = r) (mpst D A (fun (u : Unit) => [(k0, .inr (4, [.ref h4, .ref h0, .null, .int powered, .int stepsDone])), (h4, .inr (3, [.ref h5, .int gap])), (h5, .inl (aI, n, .inl pf)), (h0, .inr (1, [.int wayToOther, .ref h1, .ref h2, .int place, .int speed, .int way, .int topSpeed, .int gain, .int brake, .int darkSpeed, .int rideSpeed, .int kilos, .int mostKilos, .int openContacts, .int fireFloor, .int ride, .int starts, .int distance, .int hardFalls])), (o0, .inl (aL, 1, .inr (.inl of)))])) A) (va_A ([(k0, .inr (4, [.ref h4, .ref h0, .null, .int powered, .int stepsDone])), (h4, .inr (3, [.ref h5, .int gap])), (h5, .inl (aI, n, .inl pf)), (h0, .inr (1, [.int wayToOther, .ref h1, .ref h2, .int place, .int speed, .int way, .int topSpeed, .int gain, .int brake, .int darkSpeed, .int rideSpeed, .int kilos, .int mostKilos, .int openContacts, .int fireFloor, .int ride, .int starts, .int distance, .int hardFalls])), (o0, .inl (aL, 1, .inr (.inl of)))]) sz)) 5 44 (va_A ([(k0, .inr (4, [.ref h4, .ref h0, .null, .int powered, .int stepsDone])), (h4, .inr (3, [.ref h5, .int gap])), (h5, .inl (aI, n, .inl pf)), (h0, .inr (1, [.int wayToOther, .ref h1, .ref h2, .int place, .int speed, .int way, .int topSpeed, .int gain, .int brake, .int darkSpeed, .int rideSpeed, .int kilos, .int mostKilos, .int openContacts, .int fireFloor, .int ride, .int starts, .int distance, .int hardFalls])), (o0, .inl (aL, 1, .inr (.inl of)))]) sz) := by
  refine enh (cc := cL_car) (maxL := 4) (ret := (some .int)) (Qc := (fun A : Nat → Prop => va_Qi (fun (r : Int32) (u : Unit) => F_h_car_1_thr gap n pf wayToOther place speed way brake p0 = r) (mpst D A (fun (u : Unit) => [(k0, .inr (4, [.ref h4, .ref h0, .null, .int powered, .int stepsDone])), (h4, .inr (3, [.ref h5, .int gap])), (h5, .inl (aI, n, .inl pf)), (h0, .inr (1, [.int wayToOther, .ref h1, .ref h2, .int place, .int speed, .int way, .int topSpeed, .int gain, .int brake, .int darkSpeed, .int rideSpeed, .int kilos, .int mostKilos, .int openContacts, .int fireFloor, .int ride, .int starts, .int distance, .int hardFalls])), (o0, .inl (aL, 1, .inr (.inl of)))])) A)) (by decide) rfl (Nat.le_of_ble_eq_true rfl) ?_
  intro p e s m args below meth c A ls Q hQ hx hb hr hts hown hlk hnm hml htab hA hS hP hK hD hE hl
  have hown : s.vm.findClass RL = some m.cls := hown
  have hl : lv_has ls 4 [(0, .ref k0), (1, .int p0), (2, .ref o0)] := hl
  have hG := F_h_car_1_thr_u gap n pf wayToOther place speed way brake p0
  refine lv_aload_n hx hb dL_car_0 rfl (lv_at hl 2 rfl) ?_
  refine lv_iconst (v := 0) hx hb dL_car_1 (by decide) ?_
  refine lv_aload_n hx hb dL_car_2 rfl (lv_at hl 0 rfl) ?_
  refine lv_iload_n hx hb dL_car_3 rfl (lv_at hl 1 rfl) ?_
  refine my_ci (wr := [(o0, .inl (aL, 1, .inr (.inl of)))]) [0, 1, 2, 3] [4] (vx_runV (As := [.int p0]) (rest := [.int 0, .ref o0]) ⟨hx, hb, hml, hown, hts⟩ (c_car_1 l hl9 D aI aL aZ _ k0 h4 powered stepsDone h5 gap n pf h0 h1 h2 wayToOther place speed way topSpeed gain brake darkSpeed rideSpeed kilos mostKilos openContacts fireFloor ride starts distance hardFalls p0 hn) (cwV 1 hts (gV w_234 w_235 w_236 w_35 w_237) rfl rfl rfl (by decide +kernel) ⟨Nat.le_of_ble_eq_true rfl, Nat.le_of_ble_eq_true rfl⟩) (prev_of hK hP hD hS hA hE [0, 1, 2, 3] rfl (by decide) (ci := 4) rfl 0 rfl _) rfl rfl hl.1 rfl (lv_room (Nat.le_of_ble_eq_true rfl)) dL_car_4 ⟨Nat.le_of_ble_eq_true rfl, Nat.le_of_ble_eq_true rfl⟩) hP hD hS hA rfl rfl (by decide) (by decide) (fun E ce q9 u H locs hw hEx hP hD hS hce hcv hcl => ?_) (fun r_1 u_ H locs hw_7 hP hD hS => ?_)
  · obtain ⟨hw, hu⟩ := hw
    have htab : c.exceptionTable.toList = [⟨0, 9, 12, 13⟩, ⟨0, 9, 15, 15⟩] := htab
    rcases hu with rfl | rfl
    · have hG := hG.trans (ch_1 hw)
      refine my_h1 (u := 1) hown htab (by decide) (by decide) (hts _ (mG w_105)) hE hEx hce hcv hcl ?_
      have hP : va_P D vwCl [(o0, .inl (aL, 1, .inr (.inl of))), (k0, .inr (4, [.ref h4, .ref h0, .null, .int powered, .int stepsDone])), (h4, .inr (3, [.ref h5, .int gap])), (h5, .inl (aI, n, .inl pf)), (h0, .inr (1, [.int wayToOther, .ref h1, .ref h2, .int place, .int speed, .int way, .int topSpeed, .int gain, .int brake, .int darkSpeed, .int rideSpeed, .int kilos, .int mostKilos, .int openContacts, .int fireFloor, .int ride, .int starts, .int distance, .int hardFalls]))] H := hP
      have hD : va_D A [(o0, .inl (aL, 1, .inr (.inl of))), (k0, .inr (4, [.ref h4, .ref h0, .null, .int powered, .int stepsDone])), (h4, .inr (3, [.ref h5, .int gap])), (h5, .inl (aI, n, .inl pf)), (h0, .inr (1, [.int wayToOther, .ref h1, .ref h2, .int place, .int speed, .int way, .int topSpeed, .int gain, .int brake, .int darkSpeed, .int rideSpeed, .int kilos, .int mostKilos, .int openContacts, .int fireFloor, .int ride, .int starts, .int distance, .int hardFalls]))] := hD
      refine lv_astore_n (lv' := [(3, .ref q9), (0, .ref k0), (1, .int p0), (2, .ref o0)]) hx hb dL_car_12 rfl hl (by decide) rfl (fun ls hl => ?_)
      refine lv_iconst (v := 1) hx hb dL_car_13 (by decide) ?_
      have hP := hP.sub (ws' := [(k0, .inr (4, [.ref h4, .ref h0, .null, .int powered, .int stepsDone])), (h4, .inr (3, [.ref h5, .int gap])), (h5, .inl (aI, n, .inl pf)), (h0, .inr (1, [.int wayToOther, .ref h1, .ref h2, .int place, .int speed, .int way, .int topSpeed, .int gain, .int brake, .int darkSpeed, .int rideSpeed, .int kilos, .int mostKilos, .int openContacts, .int fireFloor, .int ride, .int starts, .int distance, .int hardFalls])), (o0, .inl (aL, 1, .inr (.inl of)))]) [1, 2, 3, 4, 0] rfl
      have hD := hD.sub (ws' := [(k0, .inr (4, [.ref h4, .ref h0, .null, .int powered, .int stepsDone])), (h4, .inr (3, [.ref h5, .int gap])), (h5, .inl (aI, n, .inl pf)), (h0, .inr (1, [.int wayToOther, .ref h1, .ref h2, .int place, .int speed, .int way, .int topSpeed, .int gain, .int brake, .int darkSpeed, .int rideSpeed, .int kilos, .int mostKilos, .int openContacts, .int fireFloor, .int ride, .int starts, .int distance, .int hardFalls])), (o0, .inl (aL, 1, .inr (.inl of)))]) [1, 2, 3, 4, 0] (by decide) rfl
      exact rt_i hQ hx hb hr () hG hP hD hS (Nat.le_of_ble_eq_true rfl) (Nat.le_of_ble_eq_true rfl) dL_car_14 hlk
    · have hG := hG.trans (ch_2 hw)
      refine my_h2 (u := 2) hown htab (by decide) (by decide) (by decide) (hts _ (mG w_105)) (hts _ (mG w_106)) hE hEx hce hcv hcl ?_
      have hP : va_P D vwCl [(o0, .inl (aL, 1, .inr (.inl of))), (k0, .inr (4, [.ref h4, .ref h0, .null, .int powered, .int stepsDone])), (h4, .inr (3, [.ref h5, .int gap])), (h5, .inl (aI, n, .inl pf)), (h0, .inr (1, [.int wayToOther, .ref h1, .ref h2, .int place, .int speed, .int way, .int topSpeed, .int gain, .int brake, .int darkSpeed, .int rideSpeed, .int kilos, .int mostKilos, .int openContacts, .int fireFloor, .int ride, .int starts, .int distance, .int hardFalls]))] H := hP
      have hD : va_D A [(o0, .inl (aL, 1, .inr (.inl of))), (k0, .inr (4, [.ref h4, .ref h0, .null, .int powered, .int stepsDone])), (h4, .inr (3, [.ref h5, .int gap])), (h5, .inl (aI, n, .inl pf)), (h0, .inr (1, [.int wayToOther, .ref h1, .ref h2, .int place, .int speed, .int way, .int topSpeed, .int gain, .int brake, .int darkSpeed, .int rideSpeed, .int kilos, .int mostKilos, .int openContacts, .int fireFloor, .int ride, .int starts, .int distance, .int hardFalls]))] := hD
      refine lv_astore_n (lv' := [(3, .ref q9), (0, .ref k0), (1, .int p0), (2, .ref o0)]) hx hb dL_car_15 rfl hl (by decide) rfl (fun ls hl => ?_)
      refine lv_iconst (v := 2) hx hb dL_car_16 (by decide) ?_
      have hP := hP.sub (ws' := [(k0, .inr (4, [.ref h4, .ref h0, .null, .int powered, .int stepsDone])), (h4, .inr (3, [.ref h5, .int gap])), (h5, .inl (aI, n, .inl pf)), (h0, .inr (1, [.int wayToOther, .ref h1, .ref h2, .int place, .int speed, .int way, .int topSpeed, .int gain, .int brake, .int darkSpeed, .int rideSpeed, .int kilos, .int mostKilos, .int openContacts, .int fireFloor, .int ride, .int starts, .int distance, .int hardFalls])), (o0, .inl (aL, 1, .inr (.inl of)))]) [1, 2, 3, 4, 0] rfl
      have hD := hD.sub (ws' := [(k0, .inr (4, [.ref h4, .ref h0, .null, .int powered, .int stepsDone])), (h4, .inr (3, [.ref h5, .int gap])), (h5, .inl (aI, n, .inl pf)), (h0, .inr (1, [.int wayToOther, .ref h1, .ref h2, .int place, .int speed, .int way, .int topSpeed, .int gain, .int brake, .int darkSpeed, .int rideSpeed, .int kilos, .int mostKilos, .int openContacts, .int fireFloor, .int ride, .int starts, .int distance, .int hardFalls])), (o0, .inl (aL, 1, .inr (.inl of)))]) [1, 2, 3, 4, 0] (by decide) rfl
      exact rt_i hQ hx hb hr () hG hP hD hS (Nat.le_of_ble_eq_true rfl) (Nat.le_of_ble_eq_true rfl) dL_car_17 hlk
  · skip
    exact absurd (hX.symm.trans hw_7) Sum.inl_ne_inr
def F_h_car_1_ret (gap : Int32) (n : Nat) (pf : Nat → Int32) (wayToOther : Int32) (place : Int32) (speed : Int32) (way : Int32) (brake : Int32) (p0 : Int32) (of : Nat → Int64) : Int32 × (Nat → Int64) × Int32 :=
  ch (F_car_1 gap n pf wayToOther place speed way brake p0)
    (default)
    (default) fun (r_1, x_2) =>
    (0, (vp_updL of (0 : Int32).toNatClampNeg ((r_1).toInt64)), x_2)
theorem F_h_car_1_ret_u (gap : Int32) (n : Nat) (pf : Nat → Int32) (wayToOther : Int32) (place : Int32) (speed : Int32) (way : Int32) (brake : Int32) (p0 : Int32) (of : Nat → Int64) : F_h_car_1_ret gap n pf wayToOther place speed way brake p0 of =
  ((ch (F_car_1 gap n pf wayToOther place speed way brake p0)
    (default)
    (default) fun (r_1, x_2) =>
    (0, (vp_updL of (0 : Int32).toNatClampNeg ((r_1).toInt64)), x_2)) : Int32 × (Nat → Int64) × Int32) := rfl
set_option maxHeartbeats 4000000 in
set_option maxRecDepth 100000 in
theorem c_h_car_1_ret (l : Launch) (hl9 : l.stackTraces = false) (D : va_G) (aI aL aZ : ClassId) (sz : Nat) (k0 : Nat) (h4 : Nat) (powered : Int32) (stepsDone : Int32) (h5 : Nat) (gap : Int32) (n : Nat) (pf : Nat → Int32) (h0 : Nat) (h1 : Nat) (h2 : Nat) (wayToOther : Int32) (place : Int32) (speed : Int32) (way : Int32) (topSpeed : Int32) (gain : Int32) (brake : Int32) (darkSpeed : Int32) (rideSpeed : Int32) (kilos : Int32) (mostKilos : Int32) (openContacts : Int32) (fireFloor : Int32) (ride : Int32) (starts : Int32) (distance : Int32) (hardFalls : Int32) (p0 : Int32) (o0 : Nat) (of : Nat → Int64) (xr : Int32 × Int32) (hn : n < 2 ^ 31) (hX : F_car_1 gap n pf wayToOther place speed way brake p0 = .inr xr) : Met l yL_car (.codeWith yL_car cL_car 4 (some .int) [(0, 9, 12, 13), (0, 9, 15, 15)] :: Gw) ({ frames := 8, cells := 5, slots := 44, locals := 136 }) (va_Pc [.ref k0, .int p0, .ref o0] (mpre D [(aI, .int), (aL, .long), (aZ, .boolean)] [(k0, .inr (4, [.ref h4, .ref h0, .null, .int powered, .int stepsDone])), (h4, .inr (3, [.ref h5, .int gap])), (h5, .inl (aI, n, .inl pf)), (h0, .inr (1, [.int wayToOther, .ref h1, .ref h2, .int place, .int speed, .int way, .int topSpeed, .int gain, .int brake, .int darkSpeed, .int rideSpeed, .int kilos, .int mostKilos, .int openContacts, .int fireFloor, .int ride, .int starts, .int distance, .int hardFalls])), (o0, .inl (aL, 1, .inr (.inl of)))] sz)) ((fun A : Nat → Prop => va_Qi (fun (r : Int32) (u : Nat × Nat × Nat × Nat × (Nat → Int64) × Int32) => match u with | (q_3, q_4, q_5, q_6, u0, u1) => F_h_car_1_ret gap n pf wayToOther place speed way brake p0 of = (r, u0, u1)) (mpst D A (fun (u : Nat × Nat × Nat × Nat × (Nat → Int64) × Int32) => match u with | (q_3, q_4, q_5, q_6, u0, u1) => [(k0, .inr (4, [.ref h4, .ref h0, .ref q_3, .int powered, .int stepsDone])), (h4, .inr (3, [.ref h5, .int gap])), (h5, .inl (aI, n, .inl pf)), (h0, .inr (1, [.int wayToOther, .ref h1, .ref h2, .int place, .int speed, .int way, .int topSpeed, .int gain, .int brake, .int darkSpeed, .int rideSpeed, .int kilos, .int mostKilos, .int openContacts, .int fireFloor, .int ride, .int starts, .int distance, .int hardFalls])), (o0, .inl (aL, 1, .inr (.inl u0))), (q_3, .inr (1, [.int (-1), .ref q_4, .ref q_5, .int u1, .int 0, .int 0, .int 100, .int 20, .int 40, .int 5, .int 10, .int 0, .int 1000, .int 0, .int (-1), .int 2, .int 0, .int 0, .int 0])), (q_4, .inr (2, [.int 0, .int 0, .int 5, .int 20, .int 0, .int 0, .int 0, .int 0])), (q_5, .inr (0, [.ref q_6, .int 0, .int 0])), (q_6, .inl (aI, 8, .inl (fun _ => 0)))])) A) (va_A ([(k0, .inr (4, [.ref h4, .ref h0, .null, .int powered, .int stepsDone])), (h4, .inr (3, [.ref h5, .int gap])), (h5, .inl (aI, n, .inl pf)), (h0, .inr (1, [.int wayToOther, .ref h1, .ref h2, .int place, .int speed, .int way, .int topSpeed, .int gain, .int brake, .int darkSpeed, .int rideSpeed, .int kilos, .int mostKilos, .int openContacts, .int fireFloor, .int ride, .int starts, .int distance, .int hardFalls])), (o0, .inl (aL, 1, .inr (.inl of)))]) sz)) 5 44 (va_A ([(k0, .inr (4, [.ref h4, .ref h0, .null, .int powered, .int stepsDone])), (h4, .inr (3, [.ref h5, .int gap])), (h5, .inl (aI, n, .inl pf)), (h0, .inr (1, [.int wayToOther, .ref h1, .ref h2, .int place, .int speed, .int way, .int topSpeed, .int gain, .int brake, .int darkSpeed, .int rideSpeed, .int kilos, .int mostKilos, .int openContacts, .int fireFloor, .int ride, .int starts, .int distance, .int hardFalls])), (o0, .inl (aL, 1, .inr (.inl of)))]) sz) := by
  refine enh (cc := cL_car) (maxL := 4) (ret := (some .int)) (Qc := (fun A : Nat → Prop => va_Qi (fun (r : Int32) (u : Nat × Nat × Nat × Nat × (Nat → Int64) × Int32) => match u with | (q_3, q_4, q_5, q_6, u0, u1) => F_h_car_1_ret gap n pf wayToOther place speed way brake p0 of = (r, u0, u1)) (mpst D A (fun (u : Nat × Nat × Nat × Nat × (Nat → Int64) × Int32) => match u with | (q_3, q_4, q_5, q_6, u0, u1) => [(k0, .inr (4, [.ref h4, .ref h0, .ref q_3, .int powered, .int stepsDone])), (h4, .inr (3, [.ref h5, .int gap])), (h5, .inl (aI, n, .inl pf)), (h0, .inr (1, [.int wayToOther, .ref h1, .ref h2, .int place, .int speed, .int way, .int topSpeed, .int gain, .int brake, .int darkSpeed, .int rideSpeed, .int kilos, .int mostKilos, .int openContacts, .int fireFloor, .int ride, .int starts, .int distance, .int hardFalls])), (o0, .inl (aL, 1, .inr (.inl u0))), (q_3, .inr (1, [.int (-1), .ref q_4, .ref q_5, .int u1, .int 0, .int 0, .int 100, .int 20, .int 40, .int 5, .int 10, .int 0, .int 1000, .int 0, .int (-1), .int 2, .int 0, .int 0, .int 0])), (q_4, .inr (2, [.int 0, .int 0, .int 5, .int 20, .int 0, .int 0, .int 0, .int 0])), (q_5, .inr (0, [.ref q_6, .int 0, .int 0])), (q_6, .inl (aI, 8, .inl (fun _ => 0)))])) A)) (by decide) rfl (Nat.le_of_ble_eq_true rfl) ?_
  intro p e s m args below meth c A ls Q hQ hx hb hr hts hown hlk hnm hml htab hA hS hP hK hD hE hl
  have hown : s.vm.findClass RL = some m.cls := hown
  have hl : lv_has ls 4 [(0, .ref k0), (1, .int p0), (2, .ref o0)] := hl
  have hG := F_h_car_1_ret_u gap n pf wayToOther place speed way brake p0 of
  refine lv_aload_n hx hb dL_car_0 rfl (lv_at hl 2 rfl) ?_
  refine lv_iconst (v := 0) hx hb dL_car_1 (by decide) ?_
  refine lv_aload_n hx hb dL_car_2 rfl (lv_at hl 0 rfl) ?_
  refine lv_iload_n hx hb dL_car_3 rfl (lv_at hl 1 rfl) ?_
  refine my_ci (wr := [(o0, .inl (aL, 1, .inr (.inl of)))]) [0, 1, 2, 3] [4] (vx_runV (As := [.int p0]) (rest := [.int 0, .ref o0]) ⟨hx, hb, hml, hown, hts⟩ (c_car_1 l hl9 D aI aL aZ _ k0 h4 powered stepsDone h5 gap n pf h0 h1 h2 wayToOther place speed way topSpeed gain brake darkSpeed rideSpeed kilos mostKilos openContacts fireFloor ride starts distance hardFalls p0 hn) (cwV 1 hts (gV w_234 w_235 w_236 w_35 w_237) rfl rfl rfl (by decide +kernel) ⟨Nat.le_of_ble_eq_true rfl, Nat.le_of_ble_eq_true rfl⟩) (prev_of hK hP hD hS hA hE [0, 1, 2, 3] rfl (by decide) (ci := 4) rfl 0 rfl _) rfl rfl hl.1 rfl (lv_room (Nat.le_of_ble_eq_true rfl)) dL_car_4 ⟨Nat.le_of_ble_eq_true rfl, Nat.le_of_ble_eq_true rfl⟩) hP hD hS hA rfl rfl (by decide) (by decide) (fun E ce q9 u H locs hw hEx hP hD hS hce hcv hcl => ?_) (fun r_1 u_ H locs hw_7 hP hD hS => ?_)
  · obtain ⟨hw, hu⟩ := hw
    have htab : c.exceptionTable.toList = [⟨0, 9, 12, 13⟩, ⟨0, 9, 15, 15⟩] := htab
    exact absurd (hw.symm.trans hX) Sum.inl_ne_inr
  · skip
    obtain ⟨q_3, q_4, q_5, q_6, x_2⟩ := u_
    have hw_7 : F_car_1 gap n pf wayToOther place speed way brake p0 = .inr (r_1, x_2) := hw_7
    have hG := hG.trans (ch_r hw_7)
    have hP : va_P D vwCl [(o0, .inl (aL, 1, .inr (.inl of))), (k0, .inr (4, [.ref h4, .ref h0, .ref q_3, .int powered, .int stepsDone])), (h4, .inr (3, [.ref h5, .int gap])), (h5, .inl (aI, n, .inl pf)), (h0, .inr (1, [.int wayToOther, .ref h1, .ref h2, .int place, .int speed, .int way, .int topSpeed, .int gain, .int brake, .int darkSpeed, .int rideSpeed, .int kilos, .int mostKilos, .int openContacts, .int fireFloor, .int ride, .int starts, .int distance, .int hardFalls])), (q_3, .inr (1, [.int (-1), .ref q_4, .ref q_5, .int x_2, .int 0, .int 0, .int 100, .int 20, .int 40, .int 5, .int 10, .int 0, .int 1000, .int 0, .int (-1), .int 2, .int 0, .int 0, .int 0])), (q_4, .inr (2, [.int 0, .int 0, .int 5, .int 20, .int 0, .int 0, .int 0, .int 0])), (q_5, .inr (0, [.ref q_6, .int 0, .int 0])), (q_6, .inl (aI, 8, .inl (fun _ => 0)))] H := hP
    have hD : va_D A [(o0, .inl (aL, 1, .inr (.inl of))), (k0, .inr (4, [.ref h4, .ref h0, .ref q_3, .int powered, .int stepsDone])), (h4, .inr (3, [.ref h5, .int gap])), (h5, .inl (aI, n, .inl pf)), (h0, .inr (1, [.int wayToOther, .ref h1, .ref h2, .int place, .int speed, .int way, .int topSpeed, .int gain, .int brake, .int darkSpeed, .int rideSpeed, .int kilos, .int mostKilos, .int openContacts, .int fireFloor, .int ride, .int starts, .int distance, .int hardFalls])), (q_3, .inr (1, [.int (-1), .ref q_4, .ref q_5, .int x_2, .int 0, .int 0, .int 100, .int 20, .int 40, .int 5, .int 10, .int 0, .int 1000, .int 0, .int (-1), .int 2, .int 0, .int 0, .int 0])), (q_4, .inr (2, [.int 0, .int 0, .int 5, .int 20, .int 0, .int 0, .int 0, .int 0])), (q_5, .inr (0, [.ref q_6, .int 0, .int 0])), (q_6, .inl (aI, 8, .inl (fun _ => 0)))] := hD
    refine lv_i2l (v := (r_1).toInt64) hx hb dL_car_7 rfl ?_
    refine va_last hx hb hK hP hD hS 0 1 rfl rfl (by unfold vp_in; decide) dL_car_8 (fun H locs hP hD hS => ?_)
    have hP : va_P D vwCl [(o0, .inl (aL, 1, .inr (.inl (vp_updL of (0 : Int32).toNatClampNeg ((r_1).toInt64))))), (k0, .inr (4, [.ref h4, .ref h0, .ref q_3, .int powered, .int stepsDone])), (h4, .inr (3, [.ref h5, .int gap])), (h5, .inl (aI, n, .inl pf)), (h0, .inr (1, [.int wayToOther, .ref h1, .ref h2, .int place, .int speed, .int way, .int topSpeed, .int gain, .int brake, .int darkSpeed, .int rideSpeed, .int kilos, .int mostKilos, .int openContacts, .int fireFloor, .int ride, .int starts, .int distance, .int hardFalls])), (q_3, .inr (1, [.int (-1), .ref q_4, .ref q_5, .int x_2, .int 0, .int 0, .int 100, .int 20, .int 40, .int 5, .int 10, .int 0, .int 1000, .int 0, .int (-1), .int 2, .int 0, .int 0, .int 0])), (q_4, .inr (2, [.int 0, .int 0, .int 5, .int 20, .int 0, .int 0, .int 0, .int 0])), (q_5, .inr (0, [.ref q_6, .int 0, .int 0])), (q_6, .inl (aI, 8, .inl (fun _ => 0)))] H := hP
    have hD : va_D A [(o0, .inl (aL, 1, .inr (.inl (vp_updL of (0 : Int32).toNatClampNeg ((r_1).toInt64))))), (k0, .inr (4, [.ref h4, .ref h0, .ref q_3, .int powered, .int stepsDone])), (h4, .inr (3, [.ref h5, .int gap])), (h5, .inl (aI, n, .inl pf)), (h0, .inr (1, [.int wayToOther, .ref h1, .ref h2, .int place, .int speed, .int way, .int topSpeed, .int gain, .int brake, .int darkSpeed, .int rideSpeed, .int kilos, .int mostKilos, .int openContacts, .int fireFloor, .int ride, .int starts, .int distance, .int hardFalls])), (q_3, .inr (1, [.int (-1), .ref q_4, .ref q_5, .int x_2, .int 0, .int 0, .int 100, .int 20, .int 40, .int 5, .int 10, .int 0, .int 1000, .int 0, .int (-1), .int 2, .int 0, .int 0, .int 0])), (q_4, .inr (2, [.int 0, .int 0, .int 5, .int 20, .int 0, .int 0, .int 0, .int 0])), (q_5, .inr (0, [.ref q_6, .int 0, .int 0])), (q_6, .inl (aI, 8, .inl (fun _ => 0)))] := hD
    refine lv_goto (tgt := 18) hx hb dL_car_9 (by decide) ?_
    refine lv_iconst (v := 0) hx hb dL_car_18 (by decide) ?_
    have hP := hP.sub (ws' := [(k0, .inr (4, [.ref h4, .ref h0, .ref q_3, .int powered, .int stepsDone])), (h4, .inr (3, [.ref h5, .int gap])), (h5, .inl (aI, n, .inl pf)), (h0, .inr (1, [.int wayToOther, .ref h1, .ref h2, .int place, .int speed, .int way, .int topSpeed, .int gain, .int brake, .int darkSpeed, .int rideSpeed, .int kilos, .int mostKilos, .int openContacts, .int fireFloor, .int ride, .int starts, .int distance, .int hardFalls])), (o0, .inl (aL, 1, .inr (.inl (vp_updL of (0 : Int32).toNatClampNeg ((r_1).toInt64))))), (q_3, .inr (1, [.int (-1), .ref q_4, .ref q_5, .int x_2, .int 0, .int 0, .int 100, .int 20, .int 40, .int 5, .int 10, .int 0, .int 1000, .int 0, .int (-1), .int 2, .int 0, .int 0, .int 0])), (q_4, .inr (2, [.int 0, .int 0, .int 5, .int 20, .int 0, .int 0, .int 0, .int 0])), (q_5, .inr (0, [.ref q_6, .int 0, .int 0])), (q_6, .inl (aI, 8, .inl (fun _ => 0)))]) [1, 2, 3, 4, 0, 5, 6, 7, 8] rfl
    have hD := hD.sub (ws' := [(k0, .inr (4, [.ref h4, .ref h0, .ref q_3, .int powered, .int stepsDone])), (h4, .inr (3, [.ref h5, .int gap])), (h5, .inl (aI, n, .inl pf)), (h0, .inr (1, [.int wayToOther, .ref h1, .ref h2, .int place, .int speed, .int way, .int topSpeed, .int gain, .int brake, .int darkSpeed, .int rideSpeed, .int kilos, .int mostKilos, .int openContacts, .int fireFloor, .int ride, .int starts, .int distance, .int hardFalls])), (o0, .inl (aL, 1, .inr (.inl (vp_updL of (0 : Int32).toNatClampNeg ((r_1).toInt64))))), (q_3, .inr (1, [.int (-1), .ref q_4, .ref q_5, .int x_2, .int 0, .int 0, .int 100, .int 20, .int 40, .int 5, .int 10, .int 0, .int 1000, .int 0, .int (-1), .int 2, .int 0, .int 0, .int 0])), (q_4, .inr (2, [.int 0, .int 0, .int 5, .int 20, .int 0, .int 0, .int 0, .int 0])), (q_5, .inr (0, [.ref q_6, .int 0, .int 0])), (q_6, .inl (aI, 8, .inl (fun _ => 0)))]) [1, 2, 3, 4, 0, 5, 6, 7, 8] (by decide) rfl
    exact rt_i hQ hx hb hr (q_3, q_4, q_5, q_6, (vp_updL of (0 : Int32).toNatClampNeg ((r_1).toInt64)), x_2) hG hP hD hS (Nat.le_of_ble_eq_true rfl) (Nat.le_of_ble_eq_true rfl) dL_car_19 hlk
def F_h_car_2 (n : Nat) (pf : Nat → Int32) (p0 : Int32) : Int32 :=
  ch (F_car_2 n pf p0)
    (1)
    (2) fun _ =>
    1
theorem F_h_car_2_u (n : Nat) (pf : Nat → Int32) (p0 : Int32) : F_h_car_2 n pf p0 =
  ((ch (F_car_2 n pf p0)
    (1)
    (2) fun _ =>
    1) : Int32) := rfl
set_option maxHeartbeats 4000000 in
set_option maxRecDepth 100000 in
theorem c_h_car_2 (l : Launch) (hl9 : l.stackTraces = false) (D : va_G) (aI aL aZ : ClassId) (sz : Nat) (k0 : Nat) (h4 : Nat) (powered : Int32) (stepsDone : Int32) (h5 : Nat) (gap : Int32) (n : Nat) (pf : Nat → Int32) (h0 : Nat) (g0 : Nat) (p0 : Int32) (o0 : Nat) (of : Nat → Int64) (hn : n < 2 ^ 31) : Met l yL_car (.codeWith yL_car cL_car 4 (some .int) [(0, 9, 12, 13), (0, 9, 15, 15)] :: Gw) ({ frames := 8, cells := 2, slots := 12, locals := 136 }) (va_Pc [.ref k0, .int p0, .ref o0] (mpre D [(aI, .int), (aL, .long), (aZ, .boolean)] [(k0, .inr (4, [.ref h4, .ref h0, .ref g0, .int powered, .int stepsDone])), (h4, .inr (3, [.ref h5, .int gap])), (h5, .inl (aI, n, .inl pf)), (o0, .inl (aL, 1, .inr (.inl of)))] sz)) ((fun A : Nat → Prop => va_Qi (fun (r : Int32) (u : Unit) => F_h_car_2 n pf p0 = r) (mpst D A (fun (u : Unit) => [(k0, .inr (4, [.ref h4, .ref h0, .ref g0, .int powered, .int stepsDone])), (h4, .inr (3, [.ref h5, .int gap])), (h5, .inl (aI, n, .inl pf)), (o0, .inl (aL, 1, .inr (.inl of)))])) A) (va_A ([(k0, .inr (4, [.ref h4, .ref h0, .ref g0, .int powered, .int stepsDone])), (h4, .inr (3, [.ref h5, .int gap])), (h5, .inl (aI, n, .inl pf)), (o0, .inl (aL, 1, .inr (.inl of)))]) sz)) 2 12 (va_A ([(k0, .inr (4, [.ref h4, .ref h0, .ref g0, .int powered, .int stepsDone])), (h4, .inr (3, [.ref h5, .int gap])), (h5, .inl (aI, n, .inl pf)), (o0, .inl (aL, 1, .inr (.inl of)))]) sz) := by
  refine enh (cc := cL_car) (maxL := 4) (ret := (some .int)) (Qc := (fun A : Nat → Prop => va_Qi (fun (r : Int32) (u : Unit) => F_h_car_2 n pf p0 = r) (mpst D A (fun (u : Unit) => [(k0, .inr (4, [.ref h4, .ref h0, .ref g0, .int powered, .int stepsDone])), (h4, .inr (3, [.ref h5, .int gap])), (h5, .inl (aI, n, .inl pf)), (o0, .inl (aL, 1, .inr (.inl of)))])) A)) (by decide) rfl (Nat.le_of_ble_eq_true rfl) ?_
  intro p e s m args below meth c A ls Q hQ hx hb hr hts hown hlk hnm hml htab hA hS hP hK hD hE hl
  have hown : s.vm.findClass RL = some m.cls := hown
  have hl : lv_has ls 4 [(0, .ref k0), (1, .int p0), (2, .ref o0)] := hl
  have hG := F_h_car_2_u n pf p0
  refine lv_aload_n hx hb dL_car_0 rfl (lv_at hl 2 rfl) ?_
  refine lv_iconst (v := 0) hx hb dL_car_1 (by decide) ?_
  refine lv_aload_n hx hb dL_car_2 rfl (lv_at hl 0 rfl) ?_
  refine lv_iload_n hx hb dL_car_3 rfl (lv_at hl 1 rfl) ?_
  refine my_ci (wr := [(o0, .inl (aL, 1, .inr (.inl of)))]) [0, 1, 2] [3] (vx_runV (As := [.int p0]) (rest := [.int 0, .ref o0]) ⟨hx, hb, hml, hown, hts⟩ (c_car_2 l hl9 D aI aL aZ _ k0 h4 powered stepsDone h5 gap n pf h0 g0 p0 hn) (cwV 1 hts (gV w_234 w_235 w_236 w_35 w_237) rfl rfl rfl (by decide +kernel) ⟨Nat.le_of_ble_eq_true rfl, Nat.le_of_ble_eq_true rfl⟩) (prev_of hK hP hD hS hA hE [0, 1, 2] rfl (by decide) (ci := 4) rfl 0 rfl _) rfl rfl hl.1 rfl (lv_room (Nat.le_of_ble_eq_true rfl)) dL_car_4 ⟨Nat.le_of_ble_eq_true rfl, Nat.le_of_ble_eq_true rfl⟩) hP hD hS hA rfl rfl (by decide) (by decide) (fun E ce q9 u H locs hw hEx hP hD hS hce hcv hcl => ?_) (fun r_1 u_ H locs hw_2 hP hD hS => ?_)
  · obtain ⟨hw, hu⟩ := hw
    have htab : c.exceptionTable.toList = [⟨0, 9, 12, 13⟩, ⟨0, 9, 15, 15⟩] := htab
    rcases hu with rfl | rfl
    · have hG := hG.trans (ch_1 hw)
      refine my_h1 (u := 1) hown htab (by decide) (by decide) (hts _ (mG w_105)) hE hEx hce hcv hcl ?_
      have hP : va_P D vwCl [(o0, .inl (aL, 1, .inr (.inl of))), (k0, .inr (4, [.ref h4, .ref h0, .ref g0, .int powered, .int stepsDone])), (h4, .inr (3, [.ref h5, .int gap])), (h5, .inl (aI, n, .inl pf))] H := hP
      have hD : va_D A [(o0, .inl (aL, 1, .inr (.inl of))), (k0, .inr (4, [.ref h4, .ref h0, .ref g0, .int powered, .int stepsDone])), (h4, .inr (3, [.ref h5, .int gap])), (h5, .inl (aI, n, .inl pf))] := hD
      refine lv_astore_n (lv' := [(3, .ref q9), (0, .ref k0), (1, .int p0), (2, .ref o0)]) hx hb dL_car_12 rfl hl (by decide) rfl (fun ls hl => ?_)
      refine lv_iconst (v := 1) hx hb dL_car_13 (by decide) ?_
      have hP := hP.sub (ws' := [(k0, .inr (4, [.ref h4, .ref h0, .ref g0, .int powered, .int stepsDone])), (h4, .inr (3, [.ref h5, .int gap])), (h5, .inl (aI, n, .inl pf)), (o0, .inl (aL, 1, .inr (.inl of)))]) [1, 2, 3, 0] rfl
      have hD := hD.sub (ws' := [(k0, .inr (4, [.ref h4, .ref h0, .ref g0, .int powered, .int stepsDone])), (h4, .inr (3, [.ref h5, .int gap])), (h5, .inl (aI, n, .inl pf)), (o0, .inl (aL, 1, .inr (.inl of)))]) [1, 2, 3, 0] (by decide) rfl
      exact rt_i hQ hx hb hr () hG hP hD hS (Nat.le_of_ble_eq_true rfl) (Nat.le_of_ble_eq_true rfl) dL_car_14 hlk
    · have hG := hG.trans (ch_2 hw)
      refine my_h2 (u := 2) hown htab (by decide) (by decide) (by decide) (hts _ (mG w_105)) (hts _ (mG w_106)) hE hEx hce hcv hcl ?_
      have hP : va_P D vwCl [(o0, .inl (aL, 1, .inr (.inl of))), (k0, .inr (4, [.ref h4, .ref h0, .ref g0, .int powered, .int stepsDone])), (h4, .inr (3, [.ref h5, .int gap])), (h5, .inl (aI, n, .inl pf))] H := hP
      have hD : va_D A [(o0, .inl (aL, 1, .inr (.inl of))), (k0, .inr (4, [.ref h4, .ref h0, .ref g0, .int powered, .int stepsDone])), (h4, .inr (3, [.ref h5, .int gap])), (h5, .inl (aI, n, .inl pf))] := hD
      refine lv_astore_n (lv' := [(3, .ref q9), (0, .ref k0), (1, .int p0), (2, .ref o0)]) hx hb dL_car_15 rfl hl (by decide) rfl (fun ls hl => ?_)
      refine lv_iconst (v := 2) hx hb dL_car_16 (by decide) ?_
      have hP := hP.sub (ws' := [(k0, .inr (4, [.ref h4, .ref h0, .ref g0, .int powered, .int stepsDone])), (h4, .inr (3, [.ref h5, .int gap])), (h5, .inl (aI, n, .inl pf)), (o0, .inl (aL, 1, .inr (.inl of)))]) [1, 2, 3, 0] rfl
      have hD := hD.sub (ws' := [(k0, .inr (4, [.ref h4, .ref h0, .ref g0, .int powered, .int stepsDone])), (h4, .inr (3, [.ref h5, .int gap])), (h5, .inl (aI, n, .inl pf)), (o0, .inl (aL, 1, .inr (.inl of)))]) [1, 2, 3, 0] (by decide) rfl
      exact rt_i hQ hx hb hr () hG hP hD hS (Nat.le_of_ble_eq_true rfl) (Nat.le_of_ble_eq_true rfl) dL_car_17 hlk
  · skip
    exact False.elim hw_2
theorem dL_rates_0 : decode cL_rates 0 = .ok (.aload_n 0, 1) := by decide +kernel
theorem dL_rates_1 : decode cL_rates 1 = .ok (.iload_n 1, 1) := by decide +kernel
theorem dL_rates_2 : decode cL_rates 2 = .ok (.iload_n 2, 1) := by decide +kernel
theorem dL_rates_3 : decode cL_rates 3 = .ok (.iload_n 3, 1) := by decide +kernel
theorem dL_rates_4 : decode cL_rates 4 = .ok (.iload 4, 2) := by decide +kernel
theorem dL_rates_6 : decode cL_rates 6 = .ok (.invokevirtual 24, 3) := by decide +kernel
theorem dL_rates_9 : decode cL_rates 9 = .ok (.goto 11, 3) := by decide +kernel
theorem dL_rates_12 : decode cL_rates 12 = .ok (.astore 5, 2) := by decide +kernel
theorem dL_rates_14 : decode cL_rates 14 = .ok (.iconst 1, 1) := by decide +kernel
theorem dL_rates_15 : decode cL_rates 15 = .ok (.ireturn, 1) := by decide +kernel
theorem dL_rates_16 : decode cL_rates 16 = .ok (.astore 5, 2) := by decide +kernel
theorem dL_rates_18 : decode cL_rates 18 = .ok (.iconst 2, 1) := by decide +kernel
theorem dL_rates_19 : decode cL_rates 19 = .ok (.ireturn, 1) := by decide +kernel
theorem dL_rates_20 : decode cL_rates 20 = .ok (.iconst 0, 1) := by decide +kernel
theorem dL_rates_21 : decode cL_rates 21 = .ok (.ireturn, 1) := by decide +kernel
def F_h_rates_0 (speed : Int32) (topSpeed : Int32) (gain : Int32) (brake : Int32) (p1 : Int32) (p2 : Int32) (p3 : Int32) : Int32 × Int32 × Int32 × Int32 :=
  ch (F_rates_0 speed p1 p2 p3)
    ((1, topSpeed, gain, brake))
    ((2, topSpeed, gain, brake)) fun _ =>
    (0, p1, p2, p3)
theorem F_h_rates_0_u (speed : Int32) (topSpeed : Int32) (gain : Int32) (brake : Int32) (p1 : Int32) (p2 : Int32) (p3 : Int32) : F_h_rates_0 speed topSpeed gain brake p1 p2 p3 =
  ((ch (F_rates_0 speed p1 p2 p3)
    ((1, topSpeed, gain, brake))
    ((2, topSpeed, gain, brake)) fun _ =>
    (0, p1, p2, p3)) : Int32 × Int32 × Int32 × Int32) := rfl
set_option maxHeartbeats 4000000 in
set_option maxRecDepth 100000 in
theorem c_h_rates_0 (l : Launch) (hl9 : l.stackTraces = false) (D : va_G) (aI aL aZ : ClassId) (sz : Nat) (k0 : Nat) (h4 : Nat) (powered : Int32) (stepsDone : Int32) (up : Value) (h0 : Nat) (h1 : Nat) (h2 : Nat) (wayToOther : Int32) (place : Int32) (speed : Int32) (way : Int32) (topSpeed : Int32) (gain : Int32) (brake : Int32) (darkSpeed : Int32) (rideSpeed : Int32) (kilos : Int32) (mostKilos : Int32) (openContacts : Int32) (fireFloor : Int32) (ride : Int32) (starts : Int32) (distance : Int32) (hardFalls : Int32) (p1 : Int32) (p2 : Int32) (p3 : Int32) : Met l yL_rates (.codeWith yL_rates cL_rates 6 (some .int) [(0, 9, 12, 13), (0, 9, 16, 15)] :: Gw) ({ frames := 8, cells := 4, slots := 24, locals := 139 }) (va_Pc [.ref k0, .int 0, .int p1, .int p2, .int p3] (mpre D [(aI, .int), (aL, .long), (aZ, .boolean)] [(k0, .inr (4, [.ref h4, .ref h0, up, .int powered, .int stepsDone])), (h0, .inr (1, [.int wayToOther, .ref h1, .ref h2, .int place, .int speed, .int way, .int topSpeed, .int gain, .int brake, .int darkSpeed, .int rideSpeed, .int kilos, .int mostKilos, .int openContacts, .int fireFloor, .int ride, .int starts, .int distance, .int hardFalls]))] sz)) ((fun A : Nat → Prop => va_Qi (fun (r : Int32) (u : Int32 × Int32 × Int32) => match u with | (u0, u1, u2) => F_h_rates_0 speed topSpeed gain brake p1 p2 p3 = (r, u0, u1, u2)) (mpst D A (fun (u : Int32 × Int32 × Int32) => match u with | (u0, u1, u2) => [(k0, .inr (4, [.ref h4, .ref h0, up, .int powered, .int stepsDone])), (h0, .inr (1, [.int wayToOther, .ref h1, .ref h2, .int place, .int speed, .int way, .int u0, .int u1, .int u2, .int darkSpeed, .int rideSpeed, .int kilos, .int mostKilos, .int openContacts, .int fireFloor, .int ride, .int starts, .int distance, .int hardFalls]))])) A) (va_A ([(k0, .inr (4, [.ref h4, .ref h0, up, .int powered, .int stepsDone])), (h0, .inr (1, [.int wayToOther, .ref h1, .ref h2, .int place, .int speed, .int way, .int topSpeed, .int gain, .int brake, .int darkSpeed, .int rideSpeed, .int kilos, .int mostKilos, .int openContacts, .int fireFloor, .int ride, .int starts, .int distance, .int hardFalls]))]) sz)) 4 24 (va_A ([(k0, .inr (4, [.ref h4, .ref h0, up, .int powered, .int stepsDone])), (h0, .inr (1, [.int wayToOther, .ref h1, .ref h2, .int place, .int speed, .int way, .int topSpeed, .int gain, .int brake, .int darkSpeed, .int rideSpeed, .int kilos, .int mostKilos, .int openContacts, .int fireFloor, .int ride, .int starts, .int distance, .int hardFalls]))]) sz) := by
  refine enh (cc := cL_rates) (maxL := 6) (ret := (some .int)) (Qc := (fun A : Nat → Prop => va_Qi (fun (r : Int32) (u : Int32 × Int32 × Int32) => match u with | (u0, u1, u2) => F_h_rates_0 speed topSpeed gain brake p1 p2 p3 = (r, u0, u1, u2)) (mpst D A (fun (u : Int32 × Int32 × Int32) => match u with | (u0, u1, u2) => [(k0, .inr (4, [.ref h4, .ref h0, up, .int powered, .int stepsDone])), (h0, .inr (1, [.int wayToOther, .ref h1, .ref h2, .int place, .int speed, .int way, .int u0, .int u1, .int u2, .int darkSpeed, .int rideSpeed, .int kilos, .int mostKilos, .int openContacts, .int fireFloor, .int ride, .int starts, .int distance, .int hardFalls]))])) A)) (by decide) rfl (Nat.le_of_ble_eq_true rfl) ?_
  intro p e s m args below meth c A ls Q hQ hx hb hr hts hown hlk hnm hml htab hA hS hP hK hD hE hl
  have hown : s.vm.findClass RL = some m.cls := hown
  have hl : lv_has ls 6 [(0, .ref k0), (1, .int 0), (2, .int p1), (3, .int p2), (4, .int p3)] := hl
  have hG := F_h_rates_0_u speed topSpeed gain brake p1 p2 p3
  refine lv_aload_n hx hb dL_rates_0 rfl (lv_at hl 0 rfl) ?_
  refine lv_iload_n hx hb dL_rates_1 rfl (lv_at hl 1 rfl) ?_
  refine lv_iload_n hx hb dL_rates_2 rfl (lv_at hl 2 rfl) ?_
  refine lv_iload_n hx hb dL_rates_3 rfl (lv_at hl 3 rfl) ?_
  refine lv_iload hx hb dL_rates_4 (lv_at hl 4 rfl) ?_
  refine my_cv (wr := []) [0, 1] [] (vx_runV (As := [.int 0, .int p1, .int p2, .int p3]) (rest := []) ⟨hx, hb, hml, hown, hts⟩ (c_rates_0 l hl9 D aI aL aZ _ k0 h4 powered stepsDone up h0 h1 h2 wayToOther place speed way topSpeed gain brake darkSpeed rideSpeed kilos mostKilos openContacts fireFloor ride starts distance hardFalls p1 p2 p3) (cwV 4 hts (gV w_389 w_390 w_391 w_35 w_392) rfl rfl rfl (by decide +kernel) ⟨Nat.le_of_ble_eq_true rfl, Nat.le_of_ble_eq_true rfl⟩) (prev_of hK hP hD hS hA hE [0, 1] rfl (by decide) (ci := 4) rfl 0 rfl _) rfl rfl hl.1 rfl (lv_room (Nat.le_of_ble_eq_true rfl)) dL_rates_6 ⟨Nat.le_of_ble_eq_true rfl, Nat.le_of_ble_eq_true rfl⟩) hP hD hS hA rfl rfl (by decide) (by decide) (fun E ce q9 u H locs hw hEx hP hD hS hce hcv hcl => ?_) (fun u_ H locs hw_1 hP hD hS => ?_)
  · obtain ⟨hw, hu⟩ := hw
    have htab : c.exceptionTable.toList = [⟨0, 9, 12, 13⟩, ⟨0, 9, 16, 15⟩] := htab
    rcases hu with rfl | rfl
    · have hG := hG.trans (ch_1 hw)
      refine my_h1 (u := 1) hown htab (by decide) (by decide) (hts _ (mG w_105)) hE hEx hce hcv hcl ?_
      have hP : va_P D vwCl [(k0, .inr (4, [.ref h4, .ref h0, up, .int powered, .int stepsDone])), (h0, .inr (1, [.int wayToOther, .ref h1, .ref h2, .int place, .int speed, .int way, .int topSpeed, .int gain, .int brake, .int darkSpeed, .int rideSpeed, .int kilos, .int mostKilos, .int openContacts, .int fireFloor, .int ride, .int starts, .int distance, .int hardFalls]))] H := hP
      have hD : va_D A [(k0, .inr (4, [.ref h4, .ref h0, up, .int powered, .int stepsDone])), (h0, .inr (1, [.int wayToOther, .ref h1, .ref h2, .int place, .int speed, .int way, .int topSpeed, .int gain, .int brake, .int darkSpeed, .int rideSpeed, .int kilos, .int mostKilos, .int openContacts, .int fireFloor, .int ride, .int starts, .int distance, .int hardFalls]))] := hD
      refine lv_astore (lv' := [(5, .ref q9), (0, .ref k0), (1, .int 0), (2, .int p1), (3, .int p2), (4, .int p3)]) hx hb dL_rates_12 hl (by decide) rfl (fun ls hl => ?_)
      refine lv_iconst (v := 1) hx hb dL_rates_14 (by decide) ?_
      have hP := hP.sub (ws' := [(k0, .inr (4, [.ref h4, .ref h0, up, .int powered, .int stepsDone])), (h0, .inr (1, [.int wayToOther, .ref h1, .ref h2, .int place, .int speed, .int way, .int topSpeed, .int gain, .int brake, .int darkSpeed, .int rideSpeed, .int kilos, .int mostKilos, .int openContacts, .int fireFloor, .int ride, .int starts, .int distance, .int hardFalls]))]) [0, 1] rfl
      have hD := hD.sub (ws' := [(k0, .inr (4, [.ref h4, .ref h0, up, .int powered, .int stepsDone])), (h0, .inr (1, [.int wayToOther, .ref h1, .ref h2, .int place, .int speed, .int way, .int topSpeed, .int gain, .int brake, .int darkSpeed, .int rideSpeed, .int kilos, .int mostKilos, .int openContacts, .int fireFloor, .int ride, .int starts, .int distance, .int hardFalls]))]) [0, 1] (by decide) rfl
      exact rt_i hQ hx hb hr (topSpeed, gain, brake) hG hP hD hS (Nat.le_of_ble_eq_true rfl) (Nat.le_of_ble_eq_true rfl) dL_rates_15 hlk
    · have hG := hG.trans (ch_2 hw)
      refine my_h2 (u := 2) hown htab (by decide) (by decide) (by decide) (hts _ (mG w_105)) (hts _ (mG w_106)) hE hEx hce hcv hcl ?_
      have hP : va_P D vwCl [(k0, .inr (4, [.ref h4, .ref h0, up, .int powered, .int stepsDone])), (h0, .inr (1, [.int wayToOther, .ref h1, .ref h2, .int place, .int speed, .int way, .int topSpeed, .int gain, .int brake, .int darkSpeed, .int rideSpeed, .int kilos, .int mostKilos, .int openContacts, .int fireFloor, .int ride, .int starts, .int distance, .int hardFalls]))] H := hP
      have hD : va_D A [(k0, .inr (4, [.ref h4, .ref h0, up, .int powered, .int stepsDone])), (h0, .inr (1, [.int wayToOther, .ref h1, .ref h2, .int place, .int speed, .int way, .int topSpeed, .int gain, .int brake, .int darkSpeed, .int rideSpeed, .int kilos, .int mostKilos, .int openContacts, .int fireFloor, .int ride, .int starts, .int distance, .int hardFalls]))] := hD
      refine lv_astore (lv' := [(5, .ref q9), (0, .ref k0), (1, .int 0), (2, .int p1), (3, .int p2), (4, .int p3)]) hx hb dL_rates_16 hl (by decide) rfl (fun ls hl => ?_)
      refine lv_iconst (v := 2) hx hb dL_rates_18 (by decide) ?_
      have hP := hP.sub (ws' := [(k0, .inr (4, [.ref h4, .ref h0, up, .int powered, .int stepsDone])), (h0, .inr (1, [.int wayToOther, .ref h1, .ref h2, .int place, .int speed, .int way, .int topSpeed, .int gain, .int brake, .int darkSpeed, .int rideSpeed, .int kilos, .int mostKilos, .int openContacts, .int fireFloor, .int ride, .int starts, .int distance, .int hardFalls]))]) [0, 1] rfl
      have hD := hD.sub (ws' := [(k0, .inr (4, [.ref h4, .ref h0, up, .int powered, .int stepsDone])), (h0, .inr (1, [.int wayToOther, .ref h1, .ref h2, .int place, .int speed, .int way, .int topSpeed, .int gain, .int brake, .int darkSpeed, .int rideSpeed, .int kilos, .int mostKilos, .int openContacts, .int fireFloor, .int ride, .int starts, .int distance, .int hardFalls]))]) [0, 1] (by decide) rfl
      exact rt_i hQ hx hb hr (topSpeed, gain, brake) hG hP hD hS (Nat.le_of_ble_eq_true rfl) (Nat.le_of_ble_eq_true rfl) dL_rates_19 hlk
  · skip
    have hw_1 : F_rates_0 speed p1 p2 p3 = .inr () := hw_1
    have hG := hG.trans (ch_r hw_1)
    have hP : va_P D vwCl [(k0, .inr (4, [.ref h4, .ref h0, up, .int powered, .int stepsDone])), (h0, .inr (1, [.int wayToOther, .ref h1, .ref h2, .int place, .int speed, .int way, .int p1, .int p2, .int p3, .int darkSpeed, .int rideSpeed, .int kilos, .int mostKilos, .int openContacts, .int fireFloor, .int ride, .int starts, .int distance, .int hardFalls]))] H := hP
    have hD : va_D A [(k0, .inr (4, [.ref h4, .ref h0, up, .int powered, .int stepsDone])), (h0, .inr (1, [.int wayToOther, .ref h1, .ref h2, .int place, .int speed, .int way, .int p1, .int p2, .int p3, .int darkSpeed, .int rideSpeed, .int kilos, .int mostKilos, .int openContacts, .int fireFloor, .int ride, .int starts, .int distance, .int hardFalls]))] := hD
    refine lv_goto (tgt := 20) hx hb dL_rates_9 (by decide) ?_
    refine lv_iconst (v := 0) hx hb dL_rates_20 (by decide) ?_
    have hP := hP.sub (ws' := [(k0, .inr (4, [.ref h4, .ref h0, up, .int powered, .int stepsDone])), (h0, .inr (1, [.int wayToOther, .ref h1, .ref h2, .int place, .int speed, .int way, .int p1, .int p2, .int p3, .int darkSpeed, .int rideSpeed, .int kilos, .int mostKilos, .int openContacts, .int fireFloor, .int ride, .int starts, .int distance, .int hardFalls]))]) [0, 1] rfl
    have hD := hD.sub (ws' := [(k0, .inr (4, [.ref h4, .ref h0, up, .int powered, .int stepsDone])), (h0, .inr (1, [.int wayToOther, .ref h1, .ref h2, .int place, .int speed, .int way, .int p1, .int p2, .int p3, .int darkSpeed, .int rideSpeed, .int kilos, .int mostKilos, .int openContacts, .int fireFloor, .int ride, .int starts, .int distance, .int hardFalls]))]) [0, 1] (by decide) rfl
    exact rt_i hQ hx hb hr (p1, p2, p3) hG hP hD hS (Nat.le_of_ble_eq_true rfl) (Nat.le_of_ble_eq_true rfl) dL_rates_21 hlk
def F_h_rates_1 (speed : Int32) (topSpeed : Int32) (gain : Int32) (brake : Int32) (p1 : Int32) (p2 : Int32) (p3 : Int32) : Int32 × Int32 × Int32 × Int32 :=
  ch (F_rates_1 speed p1 p2 p3)
    ((1, topSpeed, gain, brake))
    ((2, topSpeed, gain, brake)) fun _ =>
    (0, p1, p2, p3)
theorem F_h_rates_1_u (speed : Int32) (topSpeed : Int32) (gain : Int32) (brake : Int32) (p1 : Int32) (p2 : Int32) (p3 : Int32) : F_h_rates_1 speed topSpeed gain brake p1 p2 p3 =
  ((ch (F_rates_1 speed p1 p2 p3)
    ((1, topSpeed, gain, brake))
    ((2, topSpeed, gain, brake)) fun _ =>
    (0, p1, p2, p3)) : Int32 × Int32 × Int32 × Int32) := rfl
set_option maxHeartbeats 4000000 in
set_option maxRecDepth 100000 in
theorem c_h_rates_1 (l : Launch) (hl9 : l.stackTraces = false) (D : va_G) (aI aL aZ : ClassId) (sz : Nat) (k0 : Nat) (h4 : Nat) (powered : Int32) (stepsDone : Int32) (lo : Value) (h0 : Nat) (h1 : Nat) (h2 : Nat) (wayToOther : Int32) (place : Int32) (speed : Int32) (way : Int32) (topSpeed : Int32) (gain : Int32) (brake : Int32) (darkSpeed : Int32) (rideSpeed : Int32) (kilos : Int32) (mostKilos : Int32) (openContacts : Int32) (fireFloor : Int32) (ride : Int32) (starts : Int32) (distance : Int32) (hardFalls : Int32) (p1 : Int32) (p2 : Int32) (p3 : Int32) : Met l yL_rates (.codeWith yL_rates cL_rates 6 (some .int) [(0, 9, 12, 13), (0, 9, 16, 15)] :: Gw) ({ frames := 8, cells := 4, slots := 24, locals := 139 }) (va_Pc [.ref k0, .int 1, .int p1, .int p2, .int p3] (mpre D [(aI, .int), (aL, .long), (aZ, .boolean)] [(k0, .inr (4, [.ref h4, lo, .ref h0, .int powered, .int stepsDone])), (h0, .inr (1, [.int wayToOther, .ref h1, .ref h2, .int place, .int speed, .int way, .int topSpeed, .int gain, .int brake, .int darkSpeed, .int rideSpeed, .int kilos, .int mostKilos, .int openContacts, .int fireFloor, .int ride, .int starts, .int distance, .int hardFalls]))] sz)) ((fun A : Nat → Prop => va_Qi (fun (r : Int32) (u : Int32 × Int32 × Int32) => match u with | (u0, u1, u2) => F_h_rates_1 speed topSpeed gain brake p1 p2 p3 = (r, u0, u1, u2)) (mpst D A (fun (u : Int32 × Int32 × Int32) => match u with | (u0, u1, u2) => [(k0, .inr (4, [.ref h4, lo, .ref h0, .int powered, .int stepsDone])), (h0, .inr (1, [.int wayToOther, .ref h1, .ref h2, .int place, .int speed, .int way, .int u0, .int u1, .int u2, .int darkSpeed, .int rideSpeed, .int kilos, .int mostKilos, .int openContacts, .int fireFloor, .int ride, .int starts, .int distance, .int hardFalls]))])) A) (va_A ([(k0, .inr (4, [.ref h4, lo, .ref h0, .int powered, .int stepsDone])), (h0, .inr (1, [.int wayToOther, .ref h1, .ref h2, .int place, .int speed, .int way, .int topSpeed, .int gain, .int brake, .int darkSpeed, .int rideSpeed, .int kilos, .int mostKilos, .int openContacts, .int fireFloor, .int ride, .int starts, .int distance, .int hardFalls]))]) sz)) 4 24 (va_A ([(k0, .inr (4, [.ref h4, lo, .ref h0, .int powered, .int stepsDone])), (h0, .inr (1, [.int wayToOther, .ref h1, .ref h2, .int place, .int speed, .int way, .int topSpeed, .int gain, .int brake, .int darkSpeed, .int rideSpeed, .int kilos, .int mostKilos, .int openContacts, .int fireFloor, .int ride, .int starts, .int distance, .int hardFalls]))]) sz) := by
  refine enh (cc := cL_rates) (maxL := 6) (ret := (some .int)) (Qc := (fun A : Nat → Prop => va_Qi (fun (r : Int32) (u : Int32 × Int32 × Int32) => match u with | (u0, u1, u2) => F_h_rates_1 speed topSpeed gain brake p1 p2 p3 = (r, u0, u1, u2)) (mpst D A (fun (u : Int32 × Int32 × Int32) => match u with | (u0, u1, u2) => [(k0, .inr (4, [.ref h4, lo, .ref h0, .int powered, .int stepsDone])), (h0, .inr (1, [.int wayToOther, .ref h1, .ref h2, .int place, .int speed, .int way, .int u0, .int u1, .int u2, .int darkSpeed, .int rideSpeed, .int kilos, .int mostKilos, .int openContacts, .int fireFloor, .int ride, .int starts, .int distance, .int hardFalls]))])) A)) (by decide) rfl (Nat.le_of_ble_eq_true rfl) ?_
  intro p e s m args below meth c A ls Q hQ hx hb hr hts hown hlk hnm hml htab hA hS hP hK hD hE hl
  have hown : s.vm.findClass RL = some m.cls := hown
  have hl : lv_has ls 6 [(0, .ref k0), (1, .int 1), (2, .int p1), (3, .int p2), (4, .int p3)] := hl
  have hG := F_h_rates_1_u speed topSpeed gain brake p1 p2 p3
  refine lv_aload_n hx hb dL_rates_0 rfl (lv_at hl 0 rfl) ?_
  refine lv_iload_n hx hb dL_rates_1 rfl (lv_at hl 1 rfl) ?_
  refine lv_iload_n hx hb dL_rates_2 rfl (lv_at hl 2 rfl) ?_
  refine lv_iload_n hx hb dL_rates_3 rfl (lv_at hl 3 rfl) ?_
  refine lv_iload hx hb dL_rates_4 (lv_at hl 4 rfl) ?_
  refine my_cv (wr := []) [0, 1] [] (vx_runV (As := [.int 1, .int p1, .int p2, .int p3]) (rest := []) ⟨hx, hb, hml, hown, hts⟩ (c_rates_1 l hl9 D aI aL aZ _ k0 h4 powered stepsDone lo h0 h1 h2 wayToOther place speed way topSpeed gain brake darkSpeed rideSpeed kilos mostKilos openContacts fireFloor ride starts distance hardFalls p1 p2 p3) (cwV 4 hts (gV w_389 w_390 w_391 w_35 w_392) rfl rfl rfl (by decide +kernel) ⟨Nat.le_of_ble_eq_true rfl, Nat.le_of_ble_eq_true rfl⟩) (prev_of hK hP hD hS hA hE [0, 1] rfl (by decide) (ci := 4) rfl 0 rfl _) rfl rfl hl.1 rfl (lv_room (Nat.le_of_ble_eq_true rfl)) dL_rates_6 ⟨Nat.le_of_ble_eq_true rfl, Nat.le_of_ble_eq_true rfl⟩) hP hD hS hA rfl rfl (by decide) (by decide) (fun E ce q9 u H locs hw hEx hP hD hS hce hcv hcl => ?_) (fun u_ H locs hw_1 hP hD hS => ?_)
  · obtain ⟨hw, hu⟩ := hw
    have htab : c.exceptionTable.toList = [⟨0, 9, 12, 13⟩, ⟨0, 9, 16, 15⟩] := htab
    rcases hu with rfl | rfl
    · have hG := hG.trans (ch_1 hw)
      refine my_h1 (u := 1) hown htab (by decide) (by decide) (hts _ (mG w_105)) hE hEx hce hcv hcl ?_
      have hP : va_P D vwCl [(k0, .inr (4, [.ref h4, lo, .ref h0, .int powered, .int stepsDone])), (h0, .inr (1, [.int wayToOther, .ref h1, .ref h2, .int place, .int speed, .int way, .int topSpeed, .int gain, .int brake, .int darkSpeed, .int rideSpeed, .int kilos, .int mostKilos, .int openContacts, .int fireFloor, .int ride, .int starts, .int distance, .int hardFalls]))] H := hP
      have hD : va_D A [(k0, .inr (4, [.ref h4, lo, .ref h0, .int powered, .int stepsDone])), (h0, .inr (1, [.int wayToOther, .ref h1, .ref h2, .int place, .int speed, .int way, .int topSpeed, .int gain, .int brake, .int darkSpeed, .int rideSpeed, .int kilos, .int mostKilos, .int openContacts, .int fireFloor, .int ride, .int starts, .int distance, .int hardFalls]))] := hD
      refine lv_astore (lv' := [(5, .ref q9), (0, .ref k0), (1, .int 1), (2, .int p1), (3, .int p2), (4, .int p3)]) hx hb dL_rates_12 hl (by decide) rfl (fun ls hl => ?_)
      refine lv_iconst (v := 1) hx hb dL_rates_14 (by decide) ?_
      have hP := hP.sub (ws' := [(k0, .inr (4, [.ref h4, lo, .ref h0, .int powered, .int stepsDone])), (h0, .inr (1, [.int wayToOther, .ref h1, .ref h2, .int place, .int speed, .int way, .int topSpeed, .int gain, .int brake, .int darkSpeed, .int rideSpeed, .int kilos, .int mostKilos, .int openContacts, .int fireFloor, .int ride, .int starts, .int distance, .int hardFalls]))]) [0, 1] rfl
      have hD := hD.sub (ws' := [(k0, .inr (4, [.ref h4, lo, .ref h0, .int powered, .int stepsDone])), (h0, .inr (1, [.int wayToOther, .ref h1, .ref h2, .int place, .int speed, .int way, .int topSpeed, .int gain, .int brake, .int darkSpeed, .int rideSpeed, .int kilos, .int mostKilos, .int openContacts, .int fireFloor, .int ride, .int starts, .int distance, .int hardFalls]))]) [0, 1] (by decide) rfl
      exact rt_i hQ hx hb hr (topSpeed, gain, brake) hG hP hD hS (Nat.le_of_ble_eq_true rfl) (Nat.le_of_ble_eq_true rfl) dL_rates_15 hlk
    · have hG := hG.trans (ch_2 hw)
      refine my_h2 (u := 2) hown htab (by decide) (by decide) (by decide) (hts _ (mG w_105)) (hts _ (mG w_106)) hE hEx hce hcv hcl ?_
      have hP : va_P D vwCl [(k0, .inr (4, [.ref h4, lo, .ref h0, .int powered, .int stepsDone])), (h0, .inr (1, [.int wayToOther, .ref h1, .ref h2, .int place, .int speed, .int way, .int topSpeed, .int gain, .int brake, .int darkSpeed, .int rideSpeed, .int kilos, .int mostKilos, .int openContacts, .int fireFloor, .int ride, .int starts, .int distance, .int hardFalls]))] H := hP
      have hD : va_D A [(k0, .inr (4, [.ref h4, lo, .ref h0, .int powered, .int stepsDone])), (h0, .inr (1, [.int wayToOther, .ref h1, .ref h2, .int place, .int speed, .int way, .int topSpeed, .int gain, .int brake, .int darkSpeed, .int rideSpeed, .int kilos, .int mostKilos, .int openContacts, .int fireFloor, .int ride, .int starts, .int distance, .int hardFalls]))] := hD
      refine lv_astore (lv' := [(5, .ref q9), (0, .ref k0), (1, .int 1), (2, .int p1), (3, .int p2), (4, .int p3)]) hx hb dL_rates_16 hl (by decide) rfl (fun ls hl => ?_)
      refine lv_iconst (v := 2) hx hb dL_rates_18 (by decide) ?_
      have hP := hP.sub (ws' := [(k0, .inr (4, [.ref h4, lo, .ref h0, .int powered, .int stepsDone])), (h0, .inr (1, [.int wayToOther, .ref h1, .ref h2, .int place, .int speed, .int way, .int topSpeed, .int gain, .int brake, .int darkSpeed, .int rideSpeed, .int kilos, .int mostKilos, .int openContacts, .int fireFloor, .int ride, .int starts, .int distance, .int hardFalls]))]) [0, 1] rfl
      have hD := hD.sub (ws' := [(k0, .inr (4, [.ref h4, lo, .ref h0, .int powered, .int stepsDone])), (h0, .inr (1, [.int wayToOther, .ref h1, .ref h2, .int place, .int speed, .int way, .int topSpeed, .int gain, .int brake, .int darkSpeed, .int rideSpeed, .int kilos, .int mostKilos, .int openContacts, .int fireFloor, .int ride, .int starts, .int distance, .int hardFalls]))]) [0, 1] (by decide) rfl
      exact rt_i hQ hx hb hr (topSpeed, gain, brake) hG hP hD hS (Nat.le_of_ble_eq_true rfl) (Nat.le_of_ble_eq_true rfl) dL_rates_19 hlk
  · skip
    have hw_1 : F_rates_1 speed p1 p2 p3 = .inr () := hw_1
    have hG := hG.trans (ch_r hw_1)
    have hP : va_P D vwCl [(k0, .inr (4, [.ref h4, lo, .ref h0, .int powered, .int stepsDone])), (h0, .inr (1, [.int wayToOther, .ref h1, .ref h2, .int place, .int speed, .int way, .int p1, .int p2, .int p3, .int darkSpeed, .int rideSpeed, .int kilos, .int mostKilos, .int openContacts, .int fireFloor, .int ride, .int starts, .int distance, .int hardFalls]))] H := hP
    have hD : va_D A [(k0, .inr (4, [.ref h4, lo, .ref h0, .int powered, .int stepsDone])), (h0, .inr (1, [.int wayToOther, .ref h1, .ref h2, .int place, .int speed, .int way, .int p1, .int p2, .int p3, .int darkSpeed, .int rideSpeed, .int kilos, .int mostKilos, .int openContacts, .int fireFloor, .int ride, .int starts, .int distance, .int hardFalls]))] := hD
    refine lv_goto (tgt := 20) hx hb dL_rates_9 (by decide) ?_
    refine lv_iconst (v := 0) hx hb dL_rates_20 (by decide) ?_
    have hP := hP.sub (ws' := [(k0, .inr (4, [.ref h4, lo, .ref h0, .int powered, .int stepsDone])), (h0, .inr (1, [.int wayToOther, .ref h1, .ref h2, .int place, .int speed, .int way, .int p1, .int p2, .int p3, .int darkSpeed, .int rideSpeed, .int kilos, .int mostKilos, .int openContacts, .int fireFloor, .int ride, .int starts, .int distance, .int hardFalls]))]) [0, 1] rfl
    have hD := hD.sub (ws' := [(k0, .inr (4, [.ref h4, lo, .ref h0, .int powered, .int stepsDone])), (h0, .inr (1, [.int wayToOther, .ref h1, .ref h2, .int place, .int speed, .int way, .int p1, .int p2, .int p3, .int darkSpeed, .int rideSpeed, .int kilos, .int mostKilos, .int openContacts, .int fireFloor, .int ride, .int starts, .int distance, .int hardFalls]))]) [0, 1] (by decide) rfl
    exact rt_i hQ hx hb hr (p1, p2, p3) hG hP hD hS (Nat.le_of_ble_eq_true rfl) (Nat.le_of_ble_eq_true rfl) dL_rates_21 hlk
def F_h_rates_0n : Int32 :=
  ch F_rates_0n
    (1)
    (1) fun _ =>
    1
theorem F_h_rates_0n_u : F_h_rates_0n =
  ((ch F_rates_0n
    (1)
    (1) fun _ =>
    1) : Int32) := rfl
set_option maxHeartbeats 4000000 in
set_option maxRecDepth 100000 in
theorem c_h_rates_0n (l : Launch) (hl9 : l.stackTraces = false) (D : va_G) (aI aL aZ : ClassId) (sz : Nat) (k0 : Nat) (h4 : Nat) (powered : Int32) (stepsDone : Int32) (up : Value) (p1 : Int32) (p2 : Int32) (p3 : Int32) : Met l yL_rates (.codeWith yL_rates cL_rates 6 (some .int) [(0, 9, 12, 13), (0, 9, 16, 15)] :: Gw) ({ frames := 8, cells := 1, slots := 6, locals := 139 }) (va_Pc [.ref k0, .int 0, .int p1, .int p2, .int p3] (mpre D [(aI, .int), (aL, .long), (aZ, .boolean)] [(k0, .inr (4, [.ref h4, .null, up, .int powered, .int stepsDone]))] sz)) ((fun A : Nat → Prop => va_Qi (fun (r : Int32) (u : Unit) => F_h_rates_0n = r) (mpst D A (fun (u : Unit) => [(k0, .inr (4, [.ref h4, .null, up, .int powered, .int stepsDone]))])) A) (va_A ([(k0, .inr (4, [.ref h4, .null, up, .int powered, .int stepsDone]))]) sz)) 1 6 (va_A ([(k0, .inr (4, [.ref h4, .null, up, .int powered, .int stepsDone]))]) sz) := by
  refine enh (cc := cL_rates) (maxL := 6) (ret := (some .int)) (Qc := (fun A : Nat → Prop => va_Qi (fun (r : Int32) (u : Unit) => F_h_rates_0n = r) (mpst D A (fun (u : Unit) => [(k0, .inr (4, [.ref h4, .null, up, .int powered, .int stepsDone]))])) A)) (by decide) rfl (Nat.le_of_ble_eq_true rfl) ?_
  intro p e s m args below meth c A ls Q hQ hx hb hr hts hown hlk hnm hml htab hA hS hP hK hD hE hl
  have hown : s.vm.findClass RL = some m.cls := hown
  have hl : lv_has ls 6 [(0, .ref k0), (1, .int 0), (2, .int p1), (3, .int p2), (4, .int p3)] := hl
  have hG := F_h_rates_0n_u
  refine lv_aload_n hx hb dL_rates_0 rfl (lv_at hl 0 rfl) ?_
  refine lv_iload_n hx hb dL_rates_1 rfl (lv_at hl 1 rfl) ?_
  refine lv_iload_n hx hb dL_rates_2 rfl (lv_at hl 2 rfl) ?_
  refine lv_iload_n hx hb dL_rates_3 rfl (lv_at hl 3 rfl) ?_
  refine lv_iload hx hb dL_rates_4 (lv_at hl 4 rfl) ?_
  refine my_cv (wr := []) [0] [] (vx_runV (As := [.int 0, .int p1, .int p2, .int p3]) (rest := []) ⟨hx, hb, hml, hown, hts⟩ (c_rates_0n l hl9 D aI aL aZ _ k0 h4 powered stepsDone up p1 p2 p3) (cwV 4 hts (gV w_389 w_390 w_391 w_35 w_392) rfl rfl rfl (by decide +kernel) ⟨Nat.le_of_ble_eq_true rfl, Nat.le_of_ble_eq_true rfl⟩) (prev_of hK hP hD hS hA hE [0] rfl (by decide) (ci := 4) rfl 0 rfl _) rfl rfl hl.1 rfl (lv_room (Nat.le_of_ble_eq_true rfl)) dL_rates_6 ⟨Nat.le_of_ble_eq_true rfl, Nat.le_of_ble_eq_true rfl⟩) hP hD hS hA rfl rfl (by decide) (by decide) (fun E ce q9 u H locs hw hEx hP hD hS hce hcv hcl => ?_) (fun u_ H locs hw_1 hP hD hS => ?_)
  · obtain ⟨hw, hu⟩ := hw
    have htab : c.exceptionTable.toList = [⟨0, 9, 12, 13⟩, ⟨0, 9, 16, 15⟩] := htab
    subst hu
    have hG := hG.trans (ch_1 hw)
    refine my_h1 (u := 1) hown htab (by decide) (by decide) (hts _ (mG w_105)) hE hEx hce hcv hcl ?_
    have hP : va_P D vwCl [(k0, .inr (4, [.ref h4, .null, up, .int powered, .int stepsDone]))] H := hP
    have hD : va_D A [(k0, .inr (4, [.ref h4, .null, up, .int powered, .int stepsDone]))] := hD
    refine lv_astore (lv' := [(5, .ref q9), (0, .ref k0), (1, .int 0), (2, .int p1), (3, .int p2), (4, .int p3)]) hx hb dL_rates_12 hl (by decide) rfl (fun ls hl => ?_)
    refine lv_iconst (v := 1) hx hb dL_rates_14 (by decide) ?_
    have hP := hP.sub (ws' := [(k0, .inr (4, [.ref h4, .null, up, .int powered, .int stepsDone]))]) [0] rfl
    have hD := hD.sub (ws' := [(k0, .inr (4, [.ref h4, .null, up, .int powered, .int stepsDone]))]) [0] (by decide) rfl
    exact rt_i hQ hx hb hr () hG hP hD hS (Nat.le_of_ble_eq_true rfl) (Nat.le_of_ble_eq_true rfl) dL_rates_15 hlk
  · skip
    exact False.elim hw_1
def F_h_rates_1n : Int32 :=
  ch F_rates_1n
    (1)
    (1) fun _ =>
    1
theorem F_h_rates_1n_u : F_h_rates_1n =
  ((ch F_rates_1n
    (1)
    (1) fun _ =>
    1) : Int32) := rfl
set_option maxHeartbeats 4000000 in
set_option maxRecDepth 100000 in
theorem c_h_rates_1n (l : Launch) (hl9 : l.stackTraces = false) (D : va_G) (aI aL aZ : ClassId) (sz : Nat) (k0 : Nat) (h4 : Nat) (powered : Int32) (stepsDone : Int32) (lo : Value) (p1 : Int32) (p2 : Int32) (p3 : Int32) : Met l yL_rates (.codeWith yL_rates cL_rates 6 (some .int) [(0, 9, 12, 13), (0, 9, 16, 15)] :: Gw) ({ frames := 8, cells := 1, slots := 6, locals := 139 }) (va_Pc [.ref k0, .int 1, .int p1, .int p2, .int p3] (mpre D [(aI, .int), (aL, .long), (aZ, .boolean)] [(k0, .inr (4, [.ref h4, lo, .null, .int powered, .int stepsDone]))] sz)) ((fun A : Nat → Prop => va_Qi (fun (r : Int32) (u : Unit) => F_h_rates_1n = r) (mpst D A (fun (u : Unit) => [(k0, .inr (4, [.ref h4, lo, .null, .int powered, .int stepsDone]))])) A) (va_A ([(k0, .inr (4, [.ref h4, lo, .null, .int powered, .int stepsDone]))]) sz)) 1 6 (va_A ([(k0, .inr (4, [.ref h4, lo, .null, .int powered, .int stepsDone]))]) sz) := by
  refine enh (cc := cL_rates) (maxL := 6) (ret := (some .int)) (Qc := (fun A : Nat → Prop => va_Qi (fun (r : Int32) (u : Unit) => F_h_rates_1n = r) (mpst D A (fun (u : Unit) => [(k0, .inr (4, [.ref h4, lo, .null, .int powered, .int stepsDone]))])) A)) (by decide) rfl (Nat.le_of_ble_eq_true rfl) ?_
  intro p e s m args below meth c A ls Q hQ hx hb hr hts hown hlk hnm hml htab hA hS hP hK hD hE hl
  have hown : s.vm.findClass RL = some m.cls := hown
  have hl : lv_has ls 6 [(0, .ref k0), (1, .int 1), (2, .int p1), (3, .int p2), (4, .int p3)] := hl
  have hG := F_h_rates_1n_u
  refine lv_aload_n hx hb dL_rates_0 rfl (lv_at hl 0 rfl) ?_
  refine lv_iload_n hx hb dL_rates_1 rfl (lv_at hl 1 rfl) ?_
  refine lv_iload_n hx hb dL_rates_2 rfl (lv_at hl 2 rfl) ?_
  refine lv_iload_n hx hb dL_rates_3 rfl (lv_at hl 3 rfl) ?_
  refine lv_iload hx hb dL_rates_4 (lv_at hl 4 rfl) ?_
  refine my_cv (wr := []) [0] [] (vx_runV (As := [.int 1, .int p1, .int p2, .int p3]) (rest := []) ⟨hx, hb, hml, hown, hts⟩ (c_rates_1n l hl9 D aI aL aZ _ k0 h4 powered stepsDone lo p1 p2 p3) (cwV 4 hts (gV w_389 w_390 w_391 w_35 w_392) rfl rfl rfl (by decide +kernel) ⟨Nat.le_of_ble_eq_true rfl, Nat.le_of_ble_eq_true rfl⟩) (prev_of hK hP hD hS hA hE [0] rfl (by decide) (ci := 4) rfl 0 rfl _) rfl rfl hl.1 rfl (lv_room (Nat.le_of_ble_eq_true rfl)) dL_rates_6 ⟨Nat.le_of_ble_eq_true rfl, Nat.le_of_ble_eq_true rfl⟩) hP hD hS hA rfl rfl (by decide) (by decide) (fun E ce q9 u H locs hw hEx hP hD hS hce hcv hcl => ?_) (fun u_ H locs hw_1 hP hD hS => ?_)
  · obtain ⟨hw, hu⟩ := hw
    have htab : c.exceptionTable.toList = [⟨0, 9, 12, 13⟩, ⟨0, 9, 16, 15⟩] := htab
    subst hu
    have hG := hG.trans (ch_1 hw)
    refine my_h1 (u := 1) hown htab (by decide) (by decide) (hts _ (mG w_105)) hE hEx hce hcv hcl ?_
    have hP : va_P D vwCl [(k0, .inr (4, [.ref h4, lo, .null, .int powered, .int stepsDone]))] H := hP
    have hD : va_D A [(k0, .inr (4, [.ref h4, lo, .null, .int powered, .int stepsDone]))] := hD
    refine lv_astore (lv' := [(5, .ref q9), (0, .ref k0), (1, .int 1), (2, .int p1), (3, .int p2), (4, .int p3)]) hx hb dL_rates_12 hl (by decide) rfl (fun ls hl => ?_)
    refine lv_iconst (v := 1) hx hb dL_rates_14 (by decide) ?_
    have hP := hP.sub (ws' := [(k0, .inr (4, [.ref h4, lo, .null, .int powered, .int stepsDone]))]) [0] rfl
    have hD := hD.sub (ws' := [(k0, .inr (4, [.ref h4, lo, .null, .int powered, .int stepsDone]))]) [0] (by decide) rfl
    exact rt_i hQ hx hb hr () hG hP hD hS (Nat.le_of_ble_eq_true rfl) (Nat.le_of_ble_eq_true rfl) dL_rates_15 hlk
  · skip
    exact False.elim hw_1
def F_h_rates_x : Int32 :=
  ch F_rates_x
    (1)
    (1) fun _ =>
    1
theorem F_h_rates_x_u : F_h_rates_x =
  ((ch F_rates_x
    (1)
    (1) fun _ =>
    1) : Int32) := rfl
set_option maxHeartbeats 4000000 in
set_option maxRecDepth 100000 in
theorem c_h_rates_x (l : Launch) (hl9 : l.stackTraces = false) (D : va_G) (aI aL aZ : ClassId) (sz : Nat) (k0 : Nat) (h4 : Nat) (powered : Int32) (stepsDone : Int32) (lo : Value) (up : Value) (p0 : Int32) (p1 : Int32) (p2 : Int32) (p3 : Int32) (h9 : ¬ p0 = 0) (h8 : ¬ p0 = 1) : Met l yL_rates (.codeWith yL_rates cL_rates 6 (some .int) [(0, 9, 12, 13), (0, 9, 16, 15)] :: Gw) ({ frames := 8, cells := 1, slots := 6, locals := 139 }) (va_Pc [.ref k0, .int p0, .int p1, .int p2, .int p3] (mpre D [(aI, .int), (aL, .long), (aZ, .boolean)] [(k0, .inr (4, [.ref h4, lo, up, .int powered, .int stepsDone]))] sz)) ((fun A : Nat → Prop => va_Qi (fun (r : Int32) (u : Unit) => F_h_rates_x = r) (mpst D A (fun (u : Unit) => [(k0, .inr (4, [.ref h4, lo, up, .int powered, .int stepsDone]))])) A) (va_A ([(k0, .inr (4, [.ref h4, lo, up, .int powered, .int stepsDone]))]) sz)) 1 6 (va_A ([(k0, .inr (4, [.ref h4, lo, up, .int powered, .int stepsDone]))]) sz) := by
  refine enh (cc := cL_rates) (maxL := 6) (ret := (some .int)) (Qc := (fun A : Nat → Prop => va_Qi (fun (r : Int32) (u : Unit) => F_h_rates_x = r) (mpst D A (fun (u : Unit) => [(k0, .inr (4, [.ref h4, lo, up, .int powered, .int stepsDone]))])) A)) (by decide) rfl (Nat.le_of_ble_eq_true rfl) ?_
  intro p e s m args below meth c A ls Q hQ hx hb hr hts hown hlk hnm hml htab hA hS hP hK hD hE hl
  have hown : s.vm.findClass RL = some m.cls := hown
  have hl : lv_has ls 6 [(0, .ref k0), (1, .int p0), (2, .int p1), (3, .int p2), (4, .int p3)] := hl
  have hG := F_h_rates_x_u
  refine lv_aload_n hx hb dL_rates_0 rfl (lv_at hl 0 rfl) ?_
  refine lv_iload_n hx hb dL_rates_1 rfl (lv_at hl 1 rfl) ?_
  refine lv_iload_n hx hb dL_rates_2 rfl (lv_at hl 2 rfl) ?_
  refine lv_iload_n hx hb dL_rates_3 rfl (lv_at hl 3 rfl) ?_
  refine lv_iload hx hb dL_rates_4 (lv_at hl 4 rfl) ?_
  refine my_cv (wr := []) [0] [] (vx_runV (As := [.int p0, .int p1, .int p2, .int p3]) (rest := []) ⟨hx, hb, hml, hown, hts⟩ (c_rates_x l hl9 D aI aL aZ _ k0 h4 powered stepsDone lo up p0 p1 p2 p3 h9 h8) (cwV 4 hts (gV w_389 w_390 w_391 w_35 w_392) rfl rfl rfl (by decide +kernel) ⟨Nat.le_of_ble_eq_true rfl, Nat.le_of_ble_eq_true rfl⟩) (prev_of hK hP hD hS hA hE [0] rfl (by decide) (ci := 4) rfl 0 rfl _) rfl rfl hl.1 rfl (lv_room (Nat.le_of_ble_eq_true rfl)) dL_rates_6 ⟨Nat.le_of_ble_eq_true rfl, Nat.le_of_ble_eq_true rfl⟩) hP hD hS hA rfl rfl (by decide) (by decide) (fun E ce q9 u H locs hw hEx hP hD hS hce hcv hcl => ?_) (fun u_ H locs hw_1 hP hD hS => ?_)
  · obtain ⟨hw, hu⟩ := hw
    have htab : c.exceptionTable.toList = [⟨0, 9, 12, 13⟩, ⟨0, 9, 16, 15⟩] := htab
    subst hu
    have hG := hG.trans (ch_1 hw)
    refine my_h1 (u := 1) hown htab (by decide) (by decide) (hts _ (mG w_105)) hE hEx hce hcv hcl ?_
    have hP : va_P D vwCl [(k0, .inr (4, [.ref h4, lo, up, .int powered, .int stepsDone]))] H := hP
    have hD : va_D A [(k0, .inr (4, [.ref h4, lo, up, .int powered, .int stepsDone]))] := hD
    refine lv_astore (lv' := [(5, .ref q9), (0, .ref k0), (1, .int p0), (2, .int p1), (3, .int p2), (4, .int p3)]) hx hb dL_rates_12 hl (by decide) rfl (fun ls hl => ?_)
    refine lv_iconst (v := 1) hx hb dL_rates_14 (by decide) ?_
    have hP := hP.sub (ws' := [(k0, .inr (4, [.ref h4, lo, up, .int powered, .int stepsDone]))]) [0] rfl
    have hD := hD.sub (ws' := [(k0, .inr (4, [.ref h4, lo, up, .int powered, .int stepsDone]))]) [0] (by decide) rfl
    exact rt_i hQ hx hb hr () hG hP hD hS (Nat.le_of_ble_eq_true rfl) (Nat.le_of_ble_eq_true rfl) dL_rates_15 hlk
  · skip
    exact False.elim hw_1
theorem dL_slow_0 : decode cL_slow 0 = .ok (.aload_n 0, 1) := by decide +kernel
theorem dL_slow_1 : decode cL_slow 1 = .ok (.iload_n 1, 1) := by decide +kernel
theorem dL_slow_2 : decode cL_slow 2 = .ok (.iload_n 2, 1) := by decide +kernel
theorem dL_slow_3 : decode cL_slow 3 = .ok (.iload_n 3, 1) := by decide +kernel
theorem dL_slow_4 : decode cL_slow 4 = .ok (.invokevirtual 28, 3) := by decide +kernel
theorem dL_slow_7 : decode cL_slow 7 = .ok (.goto 7, 3) := by decide +kernel
theorem dL_slow_10 : decode cL_slow 10 = .ok (.astore 4, 2) := by decide +kernel
theorem dL_slow_12 : decode cL_slow 12 = .ok (.iconst 1, 1) := by decide +kernel
theorem dL_slow_13 : decode cL_slow 13 = .ok (.ireturn, 1) := by decide +kernel
theorem dL_slow_14 : decode cL_slow 14 = .ok (.iconst 0, 1) := by decide +kernel
theorem dL_slow_15 : decode cL_slow 15 = .ok (.ireturn, 1) := by decide +kernel
def F_h_slow_0 (darkSpeed : Int32) (rideSpeed : Int32) (p1 : Int32) (p2 : Int32) : Int32 × Int32 × Int32 :=
  ch (F_slow_0 p1 p2)
    ((1, darkSpeed, rideSpeed))
    ((1, darkSpeed, rideSpeed)) fun _ =>
    (0, p1, p2)
theorem F_h_slow_0_u (darkSpeed : Int32) (rideSpeed : Int32) (p1 : Int32) (p2 : Int32) : F_h_slow_0 darkSpeed rideSpeed p1 p2 =
  ((ch (F_slow_0 p1 p2)
    ((1, darkSpeed, rideSpeed))
    ((1, darkSpeed, rideSpeed)) fun _ =>
    (0, p1, p2)) : Int32 × Int32 × Int32) := rfl
set_option maxHeartbeats 4000000 in
set_option maxRecDepth 100000 in
theorem c_h_slow_0 (l : Launch) (hl9 : l.stackTraces = false) (D : va_G) (aI aL aZ : ClassId) (sz : Nat) (k0 : Nat) (h4 : Nat) (powered : Int32) (stepsDone : Int32) (up : Value) (h0 : Nat) (h1 : Nat) (h2 : Nat) (wayToOther : Int32) (place : Int32) (speed : Int32) (way : Int32) (topSpeed : Int32) (gain : Int32) (brake : Int32) (darkSpeed : Int32) (rideSpeed : Int32) (kilos : Int32) (mostKilos : Int32) (openContacts : Int32) (fireFloor : Int32) (ride : Int32) (starts : Int32) (distance : Int32) (hardFalls : Int32) (p1 : Int32) (p2 : Int32) : Met l yL_slow (.codeWith yL_slow cL_slow 5 (some .int) [(0, 7, 10, 13)] :: Gw) ({ frames := 8, cells := 2, slots := 12, locals := 138 }) (va_Pc [.ref k0, .int 0, .int p1, .int p2] (mpre D [(aI, .int), (aL, .long), (aZ, .boolean)] [(k0, .inr (4, [.ref h4, .ref h0, up, .int powered, .int stepsDone])), (h0, .inr (1, [.int wayToOther, .ref h1, .ref h2, .int place, .int speed, .int way, .int topSpeed, .int gain, .int brake, .int darkSpeed, .int rideSpeed, .int kilos, .int mostKilos, .int openContacts, .int fireFloor, .int ride, .int starts, .int distance, .int hardFalls]))] sz)) ((fun A : Nat → Prop => va_Qi (fun (r : Int32) (u : Int32 × Int32) => match u with | (u0, u1) => F_h_slow_0 darkSpeed rideSpeed p1 p2 = (r, u0, u1)) (mpst D A (fun (u : Int32 × Int32) => match u with | (u0, u1) => [(k0, .inr (4, [.ref h4, .ref h0, up, .int powered, .int stepsDone])), (h0, .inr (1, [.int wayToOther, .ref h1, .ref h2, .int place, .int speed, .int way, .int topSpeed, .int gain, .int brake, .int u0, .int u1, .int kilos, .int mostKilos, .int openContacts, .int fireFloor, .int ride, .int starts, .int distance, .int hardFalls]))])) A) (va_A ([(k0, .inr (4, [.ref h4, .ref h0, up, .int powered, .int stepsDone])), (h0, .inr (1, [.int wayToOther, .ref h1, .ref h2, .int place, .int speed, .int way, .int topSpeed, .int gain, .int brake, .int darkSpeed, .int rideSpeed, .int kilos, .int mostKilos, .int openContacts, .int fireFloor, .int ride, .int starts, .int distance, .int hardFalls]))]) sz)) 2 12 (va_A ([(k0, .inr (4, [.ref h4, .ref h0, up, .int powered, .int stepsDone])), (h0, .inr (1, [.int wayToOther, .ref h1, .ref h2, .int place, .int speed, .int way, .int topSpeed, .int gain, .int brake, .int darkSpeed, .int rideSpeed, .int kilos, .int mostKilos, .int openContacts, .int fireFloor, .int ride, .int starts, .int distance, .int hardFalls]))]) sz) := by
  refine enh (cc := cL_slow) (maxL := 5) (ret := (some .int)) (Qc := (fun A : Nat → Prop => va_Qi (fun (r : Int32) (u : Int32 × Int32) => match u with | (u0, u1) => F_h_slow_0 darkSpeed rideSpeed p1 p2 = (r, u0, u1)) (mpst D A (fun (u : Int32 × Int32) => match u with | (u0, u1) => [(k0, .inr (4, [.ref h4, .ref h0, up, .int powered, .int stepsDone])), (h0, .inr (1, [.int wayToOther, .ref h1, .ref h2, .int place, .int speed, .int way, .int topSpeed, .int gain, .int brake, .int u0, .int u1, .int kilos, .int mostKilos, .int openContacts, .int fireFloor, .int ride, .int starts, .int distance, .int hardFalls]))])) A)) (by decide) rfl (Nat.le_of_ble_eq_true rfl) ?_
  intro p e s m args below meth c A ls Q hQ hx hb hr hts hown hlk hnm hml htab hA hS hP hK hD hE hl
  have hown : s.vm.findClass RL = some m.cls := hown
  have hl : lv_has ls 5 [(0, .ref k0), (1, .int 0), (2, .int p1), (3, .int p2)] := hl
  have hG := F_h_slow_0_u darkSpeed rideSpeed p1 p2
  refine lv_aload_n hx hb dL_slow_0 rfl (lv_at hl 0 rfl) ?_
  refine lv_iload_n hx hb dL_slow_1 rfl (lv_at hl 1 rfl) ?_
  refine lv_iload_n hx hb dL_slow_2 rfl (lv_at hl 2 rfl) ?_
  refine lv_iload_n hx hb dL_slow_3 rfl (lv_at hl 3 rfl) ?_
  refine my_cv (wr := []) [0, 1] [] (vx_runV (As := [.int 0, .int p1, .int p2]) (rest := []) ⟨hx, hb, hml, hown, hts⟩ (c_slow_0 l hl9 D aI aL aZ _ k0 h4 powered stepsDone up h0 h1 h2 wayToOther place speed way topSpeed gain brake darkSpeed rideSpeed kilos mostKilos openContacts fireFloor ride starts distance hardFalls p1 p2) (cwV 3 hts (gV w_403 w_404 w_405 w_35 w_406) rfl rfl rfl (by decide +kernel) ⟨Nat.le_of_ble_eq_true rfl, Nat.le_of_ble_eq_true rfl⟩) (prev_of hK hP hD hS hA hE [0, 1] rfl (by decide) (ci := 4) rfl 0 rfl _) rfl rfl hl.1 rfl (lv_room (Nat.le_of_ble_eq_true rfl)) dL_slow_4 ⟨Nat.le_of_ble_eq_true rfl, Nat.le_of_ble_eq_true rfl⟩) hP hD hS hA rfl rfl (by decide) (by decide) (fun E ce q9 u H locs hw hEx hP hD hS hce hcv hcl => ?_) (fun u_ H locs hw_1 hP hD hS => ?_)
  · obtain ⟨hw, hu⟩ := hw
    have htab : c.exceptionTable.toList = [⟨0, 7, 10, 13⟩] := htab
    subst hu
    have hG := hG.trans (ch_1 hw)
    refine my_h1 (u := 1) hown htab (by decide) (by decide) (hts _ (mG w_105)) hE hEx hce hcv hcl ?_
    have hP : va_P D vwCl [(k0, .inr (4, [.ref h4, .ref h0, up, .int powered, .int stepsDone])), (h0, .inr (1, [.int wayToOther, .ref h1, .ref h2, .int place, .int speed, .int way, .int topSpeed, .int gain, .int brake, .int darkSpeed, .int rideSpeed, .int kilos, .int mostKilos, .int openContacts, .int fireFloor, .int ride, .int starts, .int distance, .int hardFalls]))] H := hP
    have hD : va_D A [(k0, .inr (4, [.ref h4, .ref h0, up, .int powered, .int stepsDone])), (h0, .inr (1, [.int wayToOther, .ref h1, .ref h2, .int place, .int speed, .int way, .int topSpeed, .int gain, .int brake, .int darkSpeed, .int rideSpeed, .int kilos, .int mostKilos, .int openContacts, .int fireFloor, .int ride, .int starts, .int distance, .int hardFalls]))] := hD
    refine lv_astore (lv' := [(4, .ref q9), (0, .ref k0), (1, .int 0), (2, .int p1), (3, .int p2)]) hx hb dL_slow_10 hl (by decide) rfl (fun ls hl => ?_)
    refine lv_iconst (v := 1) hx hb dL_slow_12 (by decide) ?_
    have hP := hP.sub (ws' := [(k0, .inr (4, [.ref h4, .ref h0, up, .int powered, .int stepsDone])), (h0, .inr (1, [.int wayToOther, .ref h1, .ref h2, .int place, .int speed, .int way, .int topSpeed, .int gain, .int brake, .int darkSpeed, .int rideSpeed, .int kilos, .int mostKilos, .int openContacts, .int fireFloor, .int ride, .int starts, .int distance, .int hardFalls]))]) [0, 1] rfl
    have hD := hD.sub (ws' := [(k0, .inr (4, [.ref h4, .ref h0, up, .int powered, .int stepsDone])), (h0, .inr (1, [.int wayToOther, .ref h1, .ref h2, .int place, .int speed, .int way, .int topSpeed, .int gain, .int brake, .int darkSpeed, .int rideSpeed, .int kilos, .int mostKilos, .int openContacts, .int fireFloor, .int ride, .int starts, .int distance, .int hardFalls]))]) [0, 1] (by decide) rfl
    exact rt_i hQ hx hb hr (darkSpeed, rideSpeed) hG hP hD hS (Nat.le_of_ble_eq_true rfl) (Nat.le_of_ble_eq_true rfl) dL_slow_13 hlk
  · skip
    have hw_1 : F_slow_0 p1 p2 = .inr () := hw_1
    have hG := hG.trans (ch_r hw_1)
    have hP : va_P D vwCl [(k0, .inr (4, [.ref h4, .ref h0, up, .int powered, .int stepsDone])), (h0, .inr (1, [.int wayToOther, .ref h1, .ref h2, .int place, .int speed, .int way, .int topSpeed, .int gain, .int brake, .int p1, .int p2, .int kilos, .int mostKilos, .int openContacts, .int fireFloor, .int ride, .int starts, .int distance, .int hardFalls]))] H := hP
    have hD : va_D A [(k0, .inr (4, [.ref h4, .ref h0, up, .int powered, .int stepsDone])), (h0, .inr (1, [.int wayToOther, .ref h1, .ref h2, .int place, .int speed, .int way, .int topSpeed, .int gain, .int brake, .int p1, .int p2, .int kilos, .int mostKilos, .int openContacts, .int fireFloor, .int ride, .int starts, .int distance, .int hardFalls]))] := hD
    refine lv_goto (tgt := 14) hx hb dL_slow_7 (by decide) ?_
    refine lv_iconst (v := 0) hx hb dL_slow_14 (by decide) ?_
    have hP := hP.sub (ws' := [(k0, .inr (4, [.ref h4, .ref h0, up, .int powered, .int stepsDone])), (h0, .inr (1, [.int wayToOther, .ref h1, .ref h2, .int place, .int speed, .int way, .int topSpeed, .int gain, .int brake, .int p1, .int p2, .int kilos, .int mostKilos, .int openContacts, .int fireFloor, .int ride, .int starts, .int distance, .int hardFalls]))]) [0, 1] rfl
    have hD := hD.sub (ws' := [(k0, .inr (4, [.ref h4, .ref h0, up, .int powered, .int stepsDone])), (h0, .inr (1, [.int wayToOther, .ref h1, .ref h2, .int place, .int speed, .int way, .int topSpeed, .int gain, .int brake, .int p1, .int p2, .int kilos, .int mostKilos, .int openContacts, .int fireFloor, .int ride, .int starts, .int distance, .int hardFalls]))]) [0, 1] (by decide) rfl
    exact rt_i hQ hx hb hr (p1, p2) hG hP hD hS (Nat.le_of_ble_eq_true rfl) (Nat.le_of_ble_eq_true rfl) dL_slow_15 hlk
def F_h_slow_1 (darkSpeed : Int32) (rideSpeed : Int32) (p1 : Int32) (p2 : Int32) : Int32 × Int32 × Int32 :=
  ch (F_slow_1 p1 p2)
    ((1, darkSpeed, rideSpeed))
    ((1, darkSpeed, rideSpeed)) fun _ =>
    (0, p1, p2)
theorem F_h_slow_1_u (darkSpeed : Int32) (rideSpeed : Int32) (p1 : Int32) (p2 : Int32) : F_h_slow_1 darkSpeed rideSpeed p1 p2 =
  ((ch (F_slow_1 p1 p2)
    ((1, darkSpeed, rideSpeed))
    ((1, darkSpeed, rideSpeed)) fun _ =>
    (0, p1, p2)) : Int32 × Int32 × Int32) := rfl
set_option maxHeartbeats 4000000 in
set_option maxRecDepth 100000 in
theorem c_h_slow_1 (l : Launch) (hl9 : l.stackTraces = false) (D : va_G) (aI aL aZ : ClassId) (sz : Nat) (k0 : Nat) (h4 : Nat) (powered : Int32) (stepsDone : Int32) (lo : Value) (h0 : Nat) (h1 : Nat) (h2 : Nat) (wayToOther : Int32) (place : Int32) (speed : Int32) (way : Int32) (topSpeed : Int32) (gain : Int32) (brake : Int32) (darkSpeed : Int32) (rideSpeed : Int32) (kilos : Int32) (mostKilos : Int32) (openContacts : Int32) (fireFloor : Int32) (ride : Int32) (starts : Int32) (distance : Int32) (hardFalls : Int32) (p1 : Int32) (p2 : Int32) : Met l yL_slow (.codeWith yL_slow cL_slow 5 (some .int) [(0, 7, 10, 13)] :: Gw) ({ frames := 8, cells := 2, slots := 12, locals := 138 }) (va_Pc [.ref k0, .int 1, .int p1, .int p2] (mpre D [(aI, .int), (aL, .long), (aZ, .boolean)] [(k0, .inr (4, [.ref h4, lo, .ref h0, .int powered, .int stepsDone])), (h0, .inr (1, [.int wayToOther, .ref h1, .ref h2, .int place, .int speed, .int way, .int topSpeed, .int gain, .int brake, .int darkSpeed, .int rideSpeed, .int kilos, .int mostKilos, .int openContacts, .int fireFloor, .int ride, .int starts, .int distance, .int hardFalls]))] sz)) ((fun A : Nat → Prop => va_Qi (fun (r : Int32) (u : Int32 × Int32) => match u with | (u0, u1) => F_h_slow_1 darkSpeed rideSpeed p1 p2 = (r, u0, u1)) (mpst D A (fun (u : Int32 × Int32) => match u with | (u0, u1) => [(k0, .inr (4, [.ref h4, lo, .ref h0, .int powered, .int stepsDone])), (h0, .inr (1, [.int wayToOther, .ref h1, .ref h2, .int place, .int speed, .int way, .int topSpeed, .int gain, .int brake, .int u0, .int u1, .int kilos, .int mostKilos, .int openContacts, .int fireFloor, .int ride, .int starts, .int distance, .int hardFalls]))])) A) (va_A ([(k0, .inr (4, [.ref h4, lo, .ref h0, .int powered, .int stepsDone])), (h0, .inr (1, [.int wayToOther, .ref h1, .ref h2, .int place, .int speed, .int way, .int topSpeed, .int gain, .int brake, .int darkSpeed, .int rideSpeed, .int kilos, .int mostKilos, .int openContacts, .int fireFloor, .int ride, .int starts, .int distance, .int hardFalls]))]) sz)) 2 12 (va_A ([(k0, .inr (4, [.ref h4, lo, .ref h0, .int powered, .int stepsDone])), (h0, .inr (1, [.int wayToOther, .ref h1, .ref h2, .int place, .int speed, .int way, .int topSpeed, .int gain, .int brake, .int darkSpeed, .int rideSpeed, .int kilos, .int mostKilos, .int openContacts, .int fireFloor, .int ride, .int starts, .int distance, .int hardFalls]))]) sz) := by
  refine enh (cc := cL_slow) (maxL := 5) (ret := (some .int)) (Qc := (fun A : Nat → Prop => va_Qi (fun (r : Int32) (u : Int32 × Int32) => match u with | (u0, u1) => F_h_slow_1 darkSpeed rideSpeed p1 p2 = (r, u0, u1)) (mpst D A (fun (u : Int32 × Int32) => match u with | (u0, u1) => [(k0, .inr (4, [.ref h4, lo, .ref h0, .int powered, .int stepsDone])), (h0, .inr (1, [.int wayToOther, .ref h1, .ref h2, .int place, .int speed, .int way, .int topSpeed, .int gain, .int brake, .int u0, .int u1, .int kilos, .int mostKilos, .int openContacts, .int fireFloor, .int ride, .int starts, .int distance, .int hardFalls]))])) A)) (by decide) rfl (Nat.le_of_ble_eq_true rfl) ?_
  intro p e s m args below meth c A ls Q hQ hx hb hr hts hown hlk hnm hml htab hA hS hP hK hD hE hl
  have hown : s.vm.findClass RL = some m.cls := hown
  have hl : lv_has ls 5 [(0, .ref k0), (1, .int 1), (2, .int p1), (3, .int p2)] := hl
  have hG := F_h_slow_1_u darkSpeed rideSpeed p1 p2
  refine lv_aload_n hx hb dL_slow_0 rfl (lv_at hl 0 rfl) ?_
  refine lv_iload_n hx hb dL_slow_1 rfl (lv_at hl 1 rfl) ?_
  refine lv_iload_n hx hb dL_slow_2 rfl (lv_at hl 2 rfl) ?_
  refine lv_iload_n hx hb dL_slow_3 rfl (lv_at hl 3 rfl) ?_
  refine my_cv (wr := []) [0, 1] [] (vx_runV (As := [.int 1, .int p1, .int p2]) (rest := []) ⟨hx, hb, hml, hown, hts⟩ (c_slow_1 l hl9 D aI aL aZ _ k0 h4 powered stepsDone lo h0 h1 h2 wayToOther place speed way topSpeed gain brake darkSpeed rideSpeed kilos mostKilos openContacts fireFloor ride starts distance hardFalls p1 p2) (cwV 3 hts (gV w_403 w_404 w_405 w_35 w_406) rfl rfl rfl (by decide +kernel) ⟨Nat.le_of_ble_eq_true rfl, Nat.le_of_ble_eq_true rfl⟩) (prev_of hK hP hD hS hA hE [0, 1] rfl (by decide) (ci := 4) rfl 0 rfl _) rfl rfl hl.1 rfl (lv_room (Nat.le_of_ble_eq_true rfl)) dL_slow_4 ⟨Nat.le_of_ble_eq_true rfl, Nat.le_of_ble_eq_true rfl⟩) hP hD hS hA rfl rfl (by decide) (by decide) (fun E ce q9 u H locs hw hEx hP hD hS hce hcv hcl => ?_) (fun u_ H locs hw_1 hP hD hS => ?_)
  · obtain ⟨hw, hu⟩ := hw
    have htab : c.exceptionTable.toList = [⟨0, 7, 10, 13⟩] := htab
    subst hu
    have hG := hG.trans (ch_1 hw)
    refine my_h1 (u := 1) hown htab (by decide) (by decide) (hts _ (mG w_105)) hE hEx hce hcv hcl ?_
    have hP : va_P D vwCl [(k0, .inr (4, [.ref h4, lo, .ref h0, .int powered, .int stepsDone])), (h0, .inr (1, [.int wayToOther, .ref h1, .ref h2, .int place, .int speed, .int way, .int topSpeed, .int gain, .int brake, .int darkSpeed, .int rideSpeed, .int kilos, .int mostKilos, .int openContacts, .int fireFloor, .int ride, .int starts, .int distance, .int hardFalls]))] H := hP
    have hD : va_D A [(k0, .inr (4, [.ref h4, lo, .ref h0, .int powered, .int stepsDone])), (h0, .inr (1, [.int wayToOther, .ref h1, .ref h2, .int place, .int speed, .int way, .int topSpeed, .int gain, .int brake, .int darkSpeed, .int rideSpeed, .int kilos, .int mostKilos, .int openContacts, .int fireFloor, .int ride, .int starts, .int distance, .int hardFalls]))] := hD
    refine lv_astore (lv' := [(4, .ref q9), (0, .ref k0), (1, .int 1), (2, .int p1), (3, .int p2)]) hx hb dL_slow_10 hl (by decide) rfl (fun ls hl => ?_)
    refine lv_iconst (v := 1) hx hb dL_slow_12 (by decide) ?_
    have hP := hP.sub (ws' := [(k0, .inr (4, [.ref h4, lo, .ref h0, .int powered, .int stepsDone])), (h0, .inr (1, [.int wayToOther, .ref h1, .ref h2, .int place, .int speed, .int way, .int topSpeed, .int gain, .int brake, .int darkSpeed, .int rideSpeed, .int kilos, .int mostKilos, .int openContacts, .int fireFloor, .int ride, .int starts, .int distance, .int hardFalls]))]) [0, 1] rfl
    have hD := hD.sub (ws' := [(k0, .inr (4, [.ref h4, lo, .ref h0, .int powered, .int stepsDone])), (h0, .inr (1, [.int wayToOther, .ref h1, .ref h2, .int place, .int speed, .int way, .int topSpeed, .int gain, .int brake, .int darkSpeed, .int rideSpeed, .int kilos, .int mostKilos, .int openContacts, .int fireFloor, .int ride, .int starts, .int distance, .int hardFalls]))]) [0, 1] (by decide) rfl
    exact rt_i hQ hx hb hr (darkSpeed, rideSpeed) hG hP hD hS (Nat.le_of_ble_eq_true rfl) (Nat.le_of_ble_eq_true rfl) dL_slow_13 hlk
  · skip
    have hw_1 : F_slow_1 p1 p2 = .inr () := hw_1
    have hG := hG.trans (ch_r hw_1)
    have hP : va_P D vwCl [(k0, .inr (4, [.ref h4, lo, .ref h0, .int powered, .int stepsDone])), (h0, .inr (1, [.int wayToOther, .ref h1, .ref h2, .int place, .int speed, .int way, .int topSpeed, .int gain, .int brake, .int p1, .int p2, .int kilos, .int mostKilos, .int openContacts, .int fireFloor, .int ride, .int starts, .int distance, .int hardFalls]))] H := hP
    have hD : va_D A [(k0, .inr (4, [.ref h4, lo, .ref h0, .int powered, .int stepsDone])), (h0, .inr (1, [.int wayToOther, .ref h1, .ref h2, .int place, .int speed, .int way, .int topSpeed, .int gain, .int brake, .int p1, .int p2, .int kilos, .int mostKilos, .int openContacts, .int fireFloor, .int ride, .int starts, .int distance, .int hardFalls]))] := hD
    refine lv_goto (tgt := 14) hx hb dL_slow_7 (by decide) ?_
    refine lv_iconst (v := 0) hx hb dL_slow_14 (by decide) ?_
    have hP := hP.sub (ws' := [(k0, .inr (4, [.ref h4, lo, .ref h0, .int powered, .int stepsDone])), (h0, .inr (1, [.int wayToOther, .ref h1, .ref h2, .int place, .int speed, .int way, .int topSpeed, .int gain, .int brake, .int p1, .int p2, .int kilos, .int mostKilos, .int openContacts, .int fireFloor, .int ride, .int starts, .int distance, .int hardFalls]))]) [0, 1] rfl
    have hD := hD.sub (ws' := [(k0, .inr (4, [.ref h4, lo, .ref h0, .int powered, .int stepsDone])), (h0, .inr (1, [.int wayToOther, .ref h1, .ref h2, .int place, .int speed, .int way, .int topSpeed, .int gain, .int brake, .int p1, .int p2, .int kilos, .int mostKilos, .int openContacts, .int fireFloor, .int ride, .int starts, .int distance, .int hardFalls]))]) [0, 1] (by decide) rfl
    exact rt_i hQ hx hb hr (p1, p2) hG hP hD hS (Nat.le_of_ble_eq_true rfl) (Nat.le_of_ble_eq_true rfl) dL_slow_15 hlk
def F_h_slow_0n : Int32 :=
  ch F_slow_0n
    (1)
    (1) fun _ =>
    1
theorem F_h_slow_0n_u : F_h_slow_0n =
  ((ch F_slow_0n
    (1)
    (1) fun _ =>
    1) : Int32) := rfl
set_option maxHeartbeats 4000000 in
set_option maxRecDepth 100000 in
theorem c_h_slow_0n (l : Launch) (hl9 : l.stackTraces = false) (D : va_G) (aI aL aZ : ClassId) (sz : Nat) (k0 : Nat) (h4 : Nat) (powered : Int32) (stepsDone : Int32) (up : Value) (p1 : Int32) (p2 : Int32) : Met l yL_slow (.codeWith yL_slow cL_slow 5 (some .int) [(0, 7, 10, 13)] :: Gw) ({ frames := 8, cells := 1, slots := 6, locals := 138 }) (va_Pc [.ref k0, .int 0, .int p1, .int p2] (mpre D [(aI, .int), (aL, .long), (aZ, .boolean)] [(k0, .inr (4, [.ref h4, .null, up, .int powered, .int stepsDone]))] sz)) ((fun A : Nat → Prop => va_Qi (fun (r : Int32) (u : Unit) => F_h_slow_0n = r) (mpst D A (fun (u : Unit) => [(k0, .inr (4, [.ref h4, .null, up, .int powered, .int stepsDone]))])) A) (va_A ([(k0, .inr (4, [.ref h4, .null, up, .int powered, .int stepsDone]))]) sz)) 1 6 (va_A ([(k0, .inr (4, [.ref h4, .null, up, .int powered, .int stepsDone]))]) sz) := by
  refine enh (cc := cL_slow) (maxL := 5) (ret := (some .int)) (Qc := (fun A : Nat → Prop => va_Qi (fun (r : Int32) (u : Unit) => F_h_slow_0n = r) (mpst D A (fun (u : Unit) => [(k0, .inr (4, [.ref h4, .null, up, .int powered, .int stepsDone]))])) A)) (by decide) rfl (Nat.le_of_ble_eq_true rfl) ?_
  intro p e s m args below meth c A ls Q hQ hx hb hr hts hown hlk hnm hml htab hA hS hP hK hD hE hl
  have hown : s.vm.findClass RL = some m.cls := hown
  have hl : lv_has ls 5 [(0, .ref k0), (1, .int 0), (2, .int p1), (3, .int p2)] := hl
  have hG := F_h_slow_0n_u
  refine lv_aload_n hx hb dL_slow_0 rfl (lv_at hl 0 rfl) ?_
  refine lv_iload_n hx hb dL_slow_1 rfl (lv_at hl 1 rfl) ?_
  refine lv_iload_n hx hb dL_slow_2 rfl (lv_at hl 2 rfl) ?_
  refine lv_iload_n hx hb dL_slow_3 rfl (lv_at hl 3 rfl) ?_
  refine my_cv (wr := []) [0] [] (vx_runV (As := [.int 0, .int p1, .int p2]) (rest := []) ⟨hx, hb, hml, hown, hts⟩ (c_slow_0n l hl9 D aI aL aZ _ k0 h4 powered stepsDone up p1 p2) (cwV 3 hts (gV w_403 w_404 w_405 w_35 w_406) rfl rfl rfl (by decide +kernel) ⟨Nat.le_of_ble_eq_true rfl, Nat.le_of_ble_eq_true rfl⟩) (prev_of hK hP hD hS hA hE [0] rfl (by decide) (ci := 4) rfl 0 rfl _) rfl rfl hl.1 rfl (lv_room (Nat.le_of_ble_eq_true rfl)) dL_slow_4 ⟨Nat.le_of_ble_eq_true rfl, Nat.le_of_ble_eq_true rfl⟩) hP hD hS hA rfl rfl (by decide) (by decide) (fun E ce q9 u H locs hw hEx hP hD hS hce hcv hcl => ?_) (fun u_ H locs hw_1 hP hD hS => ?_)
  · obtain ⟨hw, hu⟩ := hw
    have htab : c.exceptionTable.toList = [⟨0, 7, 10, 13⟩] := htab
    subst hu
    have hG := hG.trans (ch_1 hw)
    refine my_h1 (u := 1) hown htab (by decide) (by decide) (hts _ (mG w_105)) hE hEx hce hcv hcl ?_
    have hP : va_P D vwCl [(k0, .inr (4, [.ref h4, .null, up, .int powered, .int stepsDone]))] H := hP
    have hD : va_D A [(k0, .inr (4, [.ref h4, .null, up, .int powered, .int stepsDone]))] := hD
    refine lv_astore (lv' := [(4, .ref q9), (0, .ref k0), (1, .int 0), (2, .int p1), (3, .int p2)]) hx hb dL_slow_10 hl (by decide) rfl (fun ls hl => ?_)
    refine lv_iconst (v := 1) hx hb dL_slow_12 (by decide) ?_
    have hP := hP.sub (ws' := [(k0, .inr (4, [.ref h4, .null, up, .int powered, .int stepsDone]))]) [0] rfl
    have hD := hD.sub (ws' := [(k0, .inr (4, [.ref h4, .null, up, .int powered, .int stepsDone]))]) [0] (by decide) rfl
    exact rt_i hQ hx hb hr () hG hP hD hS (Nat.le_of_ble_eq_true rfl) (Nat.le_of_ble_eq_true rfl) dL_slow_13 hlk
  · skip
    exact False.elim hw_1
def F_h_slow_1n : Int32 :=
  ch F_slow_1n
    (1)
    (1) fun _ =>
    1
theorem F_h_slow_1n_u : F_h_slow_1n =
  ((ch F_slow_1n
    (1)
    (1) fun _ =>
    1) : Int32) := rfl
set_option maxHeartbeats 4000000 in
set_option maxRecDepth 100000 in
theorem c_h_slow_1n (l : Launch) (hl9 : l.stackTraces = false) (D : va_G) (aI aL aZ : ClassId) (sz : Nat) (k0 : Nat) (h4 : Nat) (powered : Int32) (stepsDone : Int32) (lo : Value) (p1 : Int32) (p2 : Int32) : Met l yL_slow (.codeWith yL_slow cL_slow 5 (some .int) [(0, 7, 10, 13)] :: Gw) ({ frames := 8, cells := 1, slots := 6, locals := 138 }) (va_Pc [.ref k0, .int 1, .int p1, .int p2] (mpre D [(aI, .int), (aL, .long), (aZ, .boolean)] [(k0, .inr (4, [.ref h4, lo, .null, .int powered, .int stepsDone]))] sz)) ((fun A : Nat → Prop => va_Qi (fun (r : Int32) (u : Unit) => F_h_slow_1n = r) (mpst D A (fun (u : Unit) => [(k0, .inr (4, [.ref h4, lo, .null, .int powered, .int stepsDone]))])) A) (va_A ([(k0, .inr (4, [.ref h4, lo, .null, .int powered, .int stepsDone]))]) sz)) 1 6 (va_A ([(k0, .inr (4, [.ref h4, lo, .null, .int powered, .int stepsDone]))]) sz) := by
  refine enh (cc := cL_slow) (maxL := 5) (ret := (some .int)) (Qc := (fun A : Nat → Prop => va_Qi (fun (r : Int32) (u : Unit) => F_h_slow_1n = r) (mpst D A (fun (u : Unit) => [(k0, .inr (4, [.ref h4, lo, .null, .int powered, .int stepsDone]))])) A)) (by decide) rfl (Nat.le_of_ble_eq_true rfl) ?_
  intro p e s m args below meth c A ls Q hQ hx hb hr hts hown hlk hnm hml htab hA hS hP hK hD hE hl
  have hown : s.vm.findClass RL = some m.cls := hown
  have hl : lv_has ls 5 [(0, .ref k0), (1, .int 1), (2, .int p1), (3, .int p2)] := hl
  have hG := F_h_slow_1n_u
  refine lv_aload_n hx hb dL_slow_0 rfl (lv_at hl 0 rfl) ?_
  refine lv_iload_n hx hb dL_slow_1 rfl (lv_at hl 1 rfl) ?_
  refine lv_iload_n hx hb dL_slow_2 rfl (lv_at hl 2 rfl) ?_
  refine lv_iload_n hx hb dL_slow_3 rfl (lv_at hl 3 rfl) ?_
  refine my_cv (wr := []) [0] [] (vx_runV (As := [.int 1, .int p1, .int p2]) (rest := []) ⟨hx, hb, hml, hown, hts⟩ (c_slow_1n l hl9 D aI aL aZ _ k0 h4 powered stepsDone lo p1 p2) (cwV 3 hts (gV w_403 w_404 w_405 w_35 w_406) rfl rfl rfl (by decide +kernel) ⟨Nat.le_of_ble_eq_true rfl, Nat.le_of_ble_eq_true rfl⟩) (prev_of hK hP hD hS hA hE [0] rfl (by decide) (ci := 4) rfl 0 rfl _) rfl rfl hl.1 rfl (lv_room (Nat.le_of_ble_eq_true rfl)) dL_slow_4 ⟨Nat.le_of_ble_eq_true rfl, Nat.le_of_ble_eq_true rfl⟩) hP hD hS hA rfl rfl (by decide) (by decide) (fun E ce q9 u H locs hw hEx hP hD hS hce hcv hcl => ?_) (fun u_ H locs hw_1 hP hD hS => ?_)
  · obtain ⟨hw, hu⟩ := hw
    have htab : c.exceptionTable.toList = [⟨0, 7, 10, 13⟩] := htab
    subst hu
    have hG := hG.trans (ch_1 hw)
    refine my_h1 (u := 1) hown htab (by decide) (by decide) (hts _ (mG w_105)) hE hEx hce hcv hcl ?_
    have hP : va_P D vwCl [(k0, .inr (4, [.ref h4, lo, .null, .int powered, .int stepsDone]))] H := hP
    have hD : va_D A [(k0, .inr (4, [.ref h4, lo, .null, .int powered, .int stepsDone]))] := hD
    refine lv_astore (lv' := [(4, .ref q9), (0, .ref k0), (1, .int 1), (2, .int p1), (3, .int p2)]) hx hb dL_slow_10 hl (by decide) rfl (fun ls hl => ?_)
    refine lv_iconst (v := 1) hx hb dL_slow_12 (by decide) ?_
    have hP := hP.sub (ws' := [(k0, .inr (4, [.ref h4, lo, .null, .int powered, .int stepsDone]))]) [0] rfl
    have hD := hD.sub (ws' := [(k0, .inr (4, [.ref h4, lo, .null, .int powered, .int stepsDone]))]) [0] (by decide) rfl
    exact rt_i hQ hx hb hr () hG hP hD hS (Nat.le_of_ble_eq_true rfl) (Nat.le_of_ble_eq_true rfl) dL_slow_13 hlk
  · skip
    exact False.elim hw_1
def F_h_slow_x : Int32 :=
  ch F_slow_x
    (1)
    (1) fun _ =>
    1
theorem F_h_slow_x_u : F_h_slow_x =
  ((ch F_slow_x
    (1)
    (1) fun _ =>
    1) : Int32) := rfl
set_option maxHeartbeats 4000000 in
set_option maxRecDepth 100000 in
theorem c_h_slow_x (l : Launch) (hl9 : l.stackTraces = false) (D : va_G) (aI aL aZ : ClassId) (sz : Nat) (k0 : Nat) (h4 : Nat) (powered : Int32) (stepsDone : Int32) (lo : Value) (up : Value) (p0 : Int32) (p1 : Int32) (p2 : Int32) (h9 : ¬ p0 = 0) (h8 : ¬ p0 = 1) : Met l yL_slow (.codeWith yL_slow cL_slow 5 (some .int) [(0, 7, 10, 13)] :: Gw) ({ frames := 8, cells := 1, slots := 6, locals := 138 }) (va_Pc [.ref k0, .int p0, .int p1, .int p2] (mpre D [(aI, .int), (aL, .long), (aZ, .boolean)] [(k0, .inr (4, [.ref h4, lo, up, .int powered, .int stepsDone]))] sz)) ((fun A : Nat → Prop => va_Qi (fun (r : Int32) (u : Unit) => F_h_slow_x = r) (mpst D A (fun (u : Unit) => [(k0, .inr (4, [.ref h4, lo, up, .int powered, .int stepsDone]))])) A) (va_A ([(k0, .inr (4, [.ref h4, lo, up, .int powered, .int stepsDone]))]) sz)) 1 6 (va_A ([(k0, .inr (4, [.ref h4, lo, up, .int powered, .int stepsDone]))]) sz) := by
  refine enh (cc := cL_slow) (maxL := 5) (ret := (some .int)) (Qc := (fun A : Nat → Prop => va_Qi (fun (r : Int32) (u : Unit) => F_h_slow_x = r) (mpst D A (fun (u : Unit) => [(k0, .inr (4, [.ref h4, lo, up, .int powered, .int stepsDone]))])) A)) (by decide) rfl (Nat.le_of_ble_eq_true rfl) ?_
  intro p e s m args below meth c A ls Q hQ hx hb hr hts hown hlk hnm hml htab hA hS hP hK hD hE hl
  have hown : s.vm.findClass RL = some m.cls := hown
  have hl : lv_has ls 5 [(0, .ref k0), (1, .int p0), (2, .int p1), (3, .int p2)] := hl
  have hG := F_h_slow_x_u
  refine lv_aload_n hx hb dL_slow_0 rfl (lv_at hl 0 rfl) ?_
  refine lv_iload_n hx hb dL_slow_1 rfl (lv_at hl 1 rfl) ?_
  refine lv_iload_n hx hb dL_slow_2 rfl (lv_at hl 2 rfl) ?_
  refine lv_iload_n hx hb dL_slow_3 rfl (lv_at hl 3 rfl) ?_
  refine my_cv (wr := []) [0] [] (vx_runV (As := [.int p0, .int p1, .int p2]) (rest := []) ⟨hx, hb, hml, hown, hts⟩ (c_slow_x l hl9 D aI aL aZ _ k0 h4 powered stepsDone lo up p0 p1 p2 h9 h8) (cwV 3 hts (gV w_403 w_404 w_405 w_35 w_406) rfl rfl rfl (by decide +kernel) ⟨Nat.le_of_ble_eq_true rfl, Nat.le_of_ble_eq_true rfl⟩) (prev_of hK hP hD hS hA hE [0] rfl (by decide) (ci := 4) rfl 0 rfl _) rfl rfl hl.1 rfl (lv_room (Nat.le_of_ble_eq_true rfl)) dL_slow_4 ⟨Nat.le_of_ble_eq_true rfl, Nat.le_of_ble_eq_true rfl⟩) hP hD hS hA rfl rfl (by decide) (by decide) (fun E ce q9 u H locs hw hEx hP hD hS hce hcv hcl => ?_) (fun u_ H locs hw_1 hP hD hS => ?_)
  · obtain ⟨hw, hu⟩ := hw
    have htab : c.exceptionTable.toList = [⟨0, 7, 10, 13⟩] := htab
    subst hu
    have hG := hG.trans (ch_1 hw)
    refine my_h1 (u := 1) hown htab (by decide) (by decide) (hts _ (mG w_105)) hE hEx hce hcv hcl ?_
    have hP : va_P D vwCl [(k0, .inr (4, [.ref h4, lo, up, .int powered, .int stepsDone]))] H := hP
    have hD : va_D A [(k0, .inr (4, [.ref h4, lo, up, .int powered, .int stepsDone]))] := hD
    refine lv_astore (lv' := [(4, .ref q9), (0, .ref k0), (1, .int p0), (2, .int p1), (3, .int p2)]) hx hb dL_slow_10 hl (by decide) rfl (fun ls hl => ?_)
    refine lv_iconst (v := 1) hx hb dL_slow_12 (by decide) ?_
    have hP := hP.sub (ws' := [(k0, .inr (4, [.ref h4, lo, up, .int powered, .int stepsDone]))]) [0] rfl
    have hD := hD.sub (ws' := [(k0, .inr (4, [.ref h4, lo, up, .int powered, .int stepsDone]))]) [0] (by decide) rfl
    exact rt_i hQ hx hb hr () hG hP hD hS (Nat.le_of_ble_eq_true rfl) (Nat.le_of_ble_eq_true rfl) dL_slow_13 hlk
  · skip
    exact False.elim hw_1
theorem dL_door_0 : decode cL_door 0 = .ok (.aload_n 0, 1) := by decide +kernel
theorem dL_door_1 : decode cL_door 1 = .ok (.iload_n 1, 1) := by decide +kernel
theorem dL_door_2 : decode cL_door 2 = .ok (.iload_n 2, 1) := by decide +kernel
theorem dL_door_3 : decode cL_door 3 = .ok (.iload_n 3, 1) := by decide +kernel
theorem dL_door_4 : decode cL_door 4 = .ok (.invokevirtual 32, 3) := by decide +kernel
theorem dL_door_7 : decode cL_door 7 = .ok (.goto 11, 3) := by decide +kernel
theorem dL_door_10 : decode cL_door 10 = .ok (.astore 4, 2) := by decide +kernel
theorem dL_door_12 : decode cL_door 12 = .ok (.iconst 1, 1) := by decide +kernel
theorem dL_door_13 : decode cL_door 13 = .ok (.ireturn, 1) := by decide +kernel
theorem dL_door_14 : decode cL_door 14 = .ok (.astore 4, 2) := by decide +kernel
theorem dL_door_16 : decode cL_door 16 = .ok (.iconst 2, 1) := by decide +kernel
theorem dL_door_17 : decode cL_door 17 = .ok (.ireturn, 1) := by decide +kernel
theorem dL_door_18 : decode cL_door 18 = .ok (.iconst 0, 1) := by decide +kernel
theorem dL_door_19 : decode cL_door 19 = .ok (.ireturn, 1) := by decide +kernel
def F_h_door_0 (dstate : Int32) (dplaces : Int32) (dhold : Int32) (p1 : Int32) (p2 : Int32) : Int32 × Int32 × Int32 :=
  ch (F_door_0 dstate p1 p2)
    ((1, dplaces, dhold))
    ((2, dplaces, dhold)) fun _ =>
    (0, p1, p2)
theorem F_h_door_0_u (dstate : Int32) (dplaces : Int32) (dhold : Int32) (p1 : Int32) (p2 : Int32) : F_h_door_0 dstate dplaces dhold p1 p2 =
  ((ch (F_door_0 dstate p1 p2)
    ((1, dplaces, dhold))
    ((2, dplaces, dhold)) fun _ =>
    (0, p1, p2)) : Int32 × Int32 × Int32) := rfl
set_option maxHeartbeats 4000000 in
set_option maxRecDepth 100000 in
theorem c_h_door_0 (l : Launch) (hl9 : l.stackTraces = false) (D : va_G) (aI aL aZ : ClassId) (sz : Nat) (k0 : Nat) (h4 : Nat) (powered : Int32) (stepsDone : Int32) (up : Value) (h0 : Nat) (h1 : Nat) (h2 : Nat) (wayToOther : Int32) (place : Int32) (speed : Int32) (way : Int32) (topSpeed : Int32) (gain : Int32) (brake : Int32) (darkSpeed : Int32) (rideSpeed : Int32) (kilos : Int32) (mostKilos : Int32) (openContacts : Int32) (fireFloor : Int32) (ride : Int32) (starts : Int32) (distance : Int32) (hardFalls : Int32) (dstate : Int32) (dplace : Int32) (dplaces : Int32) (dhold : Int32) (dsteps : Int32) (dbeam : Int32) (dob : Int32) (doc : Int32) (p1 : Int32) (p2 : Int32) : Met l yL_door (.codeWith yL_door cL_door 5 (some .int) [(0, 7, 10, 13), (0, 7, 14, 15)] :: Gw) ({ frames := 8, cells := 3, slots := 18, locals := 138 }) (va_Pc [.ref k0, .int 0, .int p1, .int p2] (mpre D [(aI, .int), (aL, .long), (aZ, .boolean)] [(k0, .inr (4, [.ref h4, .ref h0, up, .int powered, .int stepsDone])), (h0, .inr (1, [.int wayToOther, .ref h1, .ref h2, .int place, .int speed, .int way, .int topSpeed, .int gain, .int brake, .int darkSpeed, .int rideSpeed, .int kilos, .int mostKilos, .int openContacts, .int fireFloor, .int ride, .int starts, .int distance, .int hardFalls])), (h1, .inr (2, [.int dstate, .int dplace, .int dplaces, .int dhold, .int dsteps, .int dbeam, .int dob, .int doc]))] sz)) ((fun A : Nat → Prop => va_Qi (fun (r : Int32) (u : Int32 × Int32) => match u with | (u0, u1) => F_h_door_0 dstate dplaces dhold p1 p2 = (r, u0, u1)) (mpst D A (fun (u : Int32 × Int32) => match u with | (u0, u1) => [(k0, .inr (4, [.ref h4, .ref h0, up, .int powered, .int stepsDone])), (h0, .inr (1, [.int wayToOther, .ref h1, .ref h2, .int place, .int speed, .int way, .int topSpeed, .int gain, .int brake, .int darkSpeed, .int rideSpeed, .int kilos, .int mostKilos, .int openContacts, .int fireFloor, .int ride, .int starts, .int distance, .int hardFalls])), (h1, .inr (2, [.int dstate, .int dplace, .int u0, .int u1, .int dsteps, .int dbeam, .int dob, .int doc]))])) A) (va_A ([(k0, .inr (4, [.ref h4, .ref h0, up, .int powered, .int stepsDone])), (h0, .inr (1, [.int wayToOther, .ref h1, .ref h2, .int place, .int speed, .int way, .int topSpeed, .int gain, .int brake, .int darkSpeed, .int rideSpeed, .int kilos, .int mostKilos, .int openContacts, .int fireFloor, .int ride, .int starts, .int distance, .int hardFalls])), (h1, .inr (2, [.int dstate, .int dplace, .int dplaces, .int dhold, .int dsteps, .int dbeam, .int dob, .int doc]))]) sz)) 3 18 (va_A ([(k0, .inr (4, [.ref h4, .ref h0, up, .int powered, .int stepsDone])), (h0, .inr (1, [.int wayToOther, .ref h1, .ref h2, .int place, .int speed, .int way, .int topSpeed, .int gain, .int brake, .int darkSpeed, .int rideSpeed, .int kilos, .int mostKilos, .int openContacts, .int fireFloor, .int ride, .int starts, .int distance, .int hardFalls])), (h1, .inr (2, [.int dstate, .int dplace, .int dplaces, .int dhold, .int dsteps, .int dbeam, .int dob, .int doc]))]) sz) := by
  refine enh (cc := cL_door) (maxL := 5) (ret := (some .int)) (Qc := (fun A : Nat → Prop => va_Qi (fun (r : Int32) (u : Int32 × Int32) => match u with | (u0, u1) => F_h_door_0 dstate dplaces dhold p1 p2 = (r, u0, u1)) (mpst D A (fun (u : Int32 × Int32) => match u with | (u0, u1) => [(k0, .inr (4, [.ref h4, .ref h0, up, .int powered, .int stepsDone])), (h0, .inr (1, [.int wayToOther, .ref h1, .ref h2, .int place, .int speed, .int way, .int topSpeed, .int gain, .int brake, .int darkSpeed, .int rideSpeed, .int kilos, .int mostKilos, .int openContacts, .int fireFloor, .int ride, .int starts, .int distance, .int hardFalls])), (h1, .inr (2, [.int dstate, .int dplace, .int u0, .int u1, .int dsteps, .int dbeam, .int dob, .int doc]))])) A)) (by decide) rfl (Nat.le_of_ble_eq_true rfl) ?_
  intro p e s m args below meth c A ls Q hQ hx hb hr hts hown hlk hnm hml htab hA hS hP hK hD hE hl
  have hown : s.vm.findClass RL = some m.cls := hown
  have hl : lv_has ls 5 [(0, .ref k0), (1, .int 0), (2, .int p1), (3, .int p2)] := hl
  have hG := F_h_door_0_u dstate dplaces dhold p1 p2
  refine lv_aload_n hx hb dL_door_0 rfl (lv_at hl 0 rfl) ?_
  refine lv_iload_n hx hb dL_door_1 rfl (lv_at hl 1 rfl) ?_
  refine lv_iload_n hx hb dL_door_2 rfl (lv_at hl 2 rfl) ?_
  refine lv_iload_n hx hb dL_door_3 rfl (lv_at hl 3 rfl) ?_
  refine my_cv (wr := []) [0, 1, 2] [] (vx_runV (As := [.int 0, .int p1, .int p2]) (rest := []) ⟨hx, hb, hml, hown, hts⟩ (c_door_0 l hl9 D aI aL aZ _ k0 h4 powered stepsDone up h0 h1 h2 wayToOther place speed way topSpeed gain brake darkSpeed rideSpeed kilos mostKilos openContacts fireFloor ride starts distance hardFalls dstate dplace dplaces dhold dsteps dbeam dob doc p1 p2) (cwV 3 hts (gV w_410 w_411 w_412 w_35 w_413) rfl rfl rfl (by decide +kernel) ⟨Nat.le_of_ble_eq_true rfl, Nat.le_of_ble_eq_true rfl⟩) (prev_of hK hP hD hS hA hE [0, 1, 2] rfl (by decide) (ci := 4) rfl 0 rfl _) rfl rfl hl.1 rfl (lv_room (Nat.le_of_ble_eq_true rfl)) dL_door_4 ⟨Nat.le_of_ble_eq_true rfl, Nat.le_of_ble_eq_true rfl⟩) hP hD hS hA rfl rfl (by decide) (by decide) (fun E ce q9 u H locs hw hEx hP hD hS hce hcv hcl => ?_) (fun u_ H locs hw_1 hP hD hS => ?_)
  · obtain ⟨hw, hu⟩ := hw
    have htab : c.exceptionTable.toList = [⟨0, 7, 10, 13⟩, ⟨0, 7, 14, 15⟩] := htab
    rcases hu with rfl | rfl
    · have hG := hG.trans (ch_1 hw)
      refine my_h1 (u := 1) hown htab (by decide) (by decide) (hts _ (mG w_105)) hE hEx hce hcv hcl ?_
      have hP : va_P D vwCl [(k0, .inr (4, [.ref h4, .ref h0, up, .int powered, .int stepsDone])), (h0, .inr (1, [.int wayToOther, .ref h1, .ref h2, .int place, .int speed, .int way, .int topSpeed, .int gain, .int brake, .int darkSpeed, .int rideSpeed, .int kilos, .int mostKilos, .int openContacts, .int fireFloor, .int ride, .int starts, .int distance, .int hardFalls])), (h1, .inr (2, [.int dstate, .int dplace, .int dplaces, .int dhold, .int dsteps, .int dbeam, .int dob, .int doc]))] H := hP
      have hD : va_D A [(k0, .inr (4, [.ref h4, .ref h0, up, .int powered, .int stepsDone])), (h0, .inr (1, [.int wayToOther, .ref h1, .ref h2, .int place, .int speed, .int way, .int topSpeed, .int gain, .int brake, .int darkSpeed, .int rideSpeed, .int kilos, .int mostKilos, .int openContacts, .int fireFloor, .int ride, .int starts, .int distance, .int hardFalls])), (h1, .inr (2, [.int dstate, .int dplace, .int dplaces, .int dhold, .int dsteps, .int dbeam, .int dob, .int doc]))] := hD
      refine lv_astore (lv' := [(4, .ref q9), (0, .ref k0), (1, .int 0), (2, .int p1), (3, .int p2)]) hx hb dL_door_10 hl (by decide) rfl (fun ls hl => ?_)
      refine lv_iconst (v := 1) hx hb dL_door_12 (by decide) ?_
      have hP := hP.sub (ws' := [(k0, .inr (4, [.ref h4, .ref h0, up, .int powered, .int stepsDone])), (h0, .inr (1, [.int wayToOther, .ref h1, .ref h2, .int place, .int speed, .int way, .int topSpeed, .int gain, .int brake, .int darkSpeed, .int rideSpeed, .int kilos, .int mostKilos, .int openContacts, .int fireFloor, .int ride, .int starts, .int distance, .int hardFalls])), (h1, .inr (2, [.int dstate, .int dplace, .int dplaces, .int dhold, .int dsteps, .int dbeam, .int dob, .int doc]))]) [0, 1, 2] rfl
      have hD := hD.sub (ws' := [(k0, .inr (4, [.ref h4, .ref h0, up, .int powered, .int stepsDone])), (h0, .inr (1, [.int wayToOther, .ref h1, .ref h2, .int place, .int speed, .int way, .int topSpeed, .int gain, .int brake, .int darkSpeed, .int rideSpeed, .int kilos, .int mostKilos, .int openContacts, .int fireFloor, .int ride, .int starts, .int distance, .int hardFalls])), (h1, .inr (2, [.int dstate, .int dplace, .int dplaces, .int dhold, .int dsteps, .int dbeam, .int dob, .int doc]))]) [0, 1, 2] (by decide) rfl
      exact rt_i hQ hx hb hr (dplaces, dhold) hG hP hD hS (Nat.le_of_ble_eq_true rfl) (Nat.le_of_ble_eq_true rfl) dL_door_13 hlk
    · have hG := hG.trans (ch_2 hw)
      refine my_h2 (u := 2) hown htab (by decide) (by decide) (by decide) (hts _ (mG w_105)) (hts _ (mG w_106)) hE hEx hce hcv hcl ?_
      have hP : va_P D vwCl [(k0, .inr (4, [.ref h4, .ref h0, up, .int powered, .int stepsDone])), (h0, .inr (1, [.int wayToOther, .ref h1, .ref h2, .int place, .int speed, .int way, .int topSpeed, .int gain, .int brake, .int darkSpeed, .int rideSpeed, .int kilos, .int mostKilos, .int openContacts, .int fireFloor, .int ride, .int starts, .int distance, .int hardFalls])), (h1, .inr (2, [.int dstate, .int dplace, .int dplaces, .int dhold, .int dsteps, .int dbeam, .int dob, .int doc]))] H := hP
      have hD : va_D A [(k0, .inr (4, [.ref h4, .ref h0, up, .int powered, .int stepsDone])), (h0, .inr (1, [.int wayToOther, .ref h1, .ref h2, .int place, .int speed, .int way, .int topSpeed, .int gain, .int brake, .int darkSpeed, .int rideSpeed, .int kilos, .int mostKilos, .int openContacts, .int fireFloor, .int ride, .int starts, .int distance, .int hardFalls])), (h1, .inr (2, [.int dstate, .int dplace, .int dplaces, .int dhold, .int dsteps, .int dbeam, .int dob, .int doc]))] := hD
      refine lv_astore (lv' := [(4, .ref q9), (0, .ref k0), (1, .int 0), (2, .int p1), (3, .int p2)]) hx hb dL_door_14 hl (by decide) rfl (fun ls hl => ?_)
      refine lv_iconst (v := 2) hx hb dL_door_16 (by decide) ?_
      have hP := hP.sub (ws' := [(k0, .inr (4, [.ref h4, .ref h0, up, .int powered, .int stepsDone])), (h0, .inr (1, [.int wayToOther, .ref h1, .ref h2, .int place, .int speed, .int way, .int topSpeed, .int gain, .int brake, .int darkSpeed, .int rideSpeed, .int kilos, .int mostKilos, .int openContacts, .int fireFloor, .int ride, .int starts, .int distance, .int hardFalls])), (h1, .inr (2, [.int dstate, .int dplace, .int dplaces, .int dhold, .int dsteps, .int dbeam, .int dob, .int doc]))]) [0, 1, 2] rfl
      have hD := hD.sub (ws' := [(k0, .inr (4, [.ref h4, .ref h0, up, .int powered, .int stepsDone])), (h0, .inr (1, [.int wayToOther, .ref h1, .ref h2, .int place, .int speed, .int way, .int topSpeed, .int gain, .int brake, .int darkSpeed, .int rideSpeed, .int kilos, .int mostKilos, .int openContacts, .int fireFloor, .int ride, .int starts, .int distance, .int hardFalls])), (h1, .inr (2, [.int dstate, .int dplace, .int dplaces, .int dhold, .int dsteps, .int dbeam, .int dob, .int doc]))]) [0, 1, 2] (by decide) rfl
      exact rt_i hQ hx hb hr (dplaces, dhold) hG hP hD hS (Nat.le_of_ble_eq_true rfl) (Nat.le_of_ble_eq_true rfl) dL_door_17 hlk
  · skip
    have hw_1 : F_door_0 dstate p1 p2 = .inr () := hw_1
    have hG := hG.trans (ch_r hw_1)
    have hP : va_P D vwCl [(k0, .inr (4, [.ref h4, .ref h0, up, .int powered, .int stepsDone])), (h0, .inr (1, [.int wayToOther, .ref h1, .ref h2, .int place, .int speed, .int way, .int topSpeed, .int gain, .int brake, .int darkSpeed, .int rideSpeed, .int kilos, .int mostKilos, .int openContacts, .int fireFloor, .int ride, .int starts, .int distance, .int hardFalls])), (h1, .inr (2, [.int dstate, .int dplace, .int p1, .int p2, .int dsteps, .int dbeam, .int dob, .int doc]))] H := hP
    have hD : va_D A [(k0, .inr (4, [.ref h4, .ref h0, up, .int powered, .int stepsDone])), (h0, .inr (1, [.int wayToOther, .ref h1, .ref h2, .int place, .int speed, .int way, .int topSpeed, .int gain, .int brake, .int darkSpeed, .int rideSpeed, .int kilos, .int mostKilos, .int openContacts, .int fireFloor, .int ride, .int starts, .int distance, .int hardFalls])), (h1, .inr (2, [.int dstate, .int dplace, .int p1, .int p2, .int dsteps, .int dbeam, .int dob, .int doc]))] := hD
    refine lv_goto (tgt := 18) hx hb dL_door_7 (by decide) ?_
    refine lv_iconst (v := 0) hx hb dL_door_18 (by decide) ?_
    have hP := hP.sub (ws' := [(k0, .inr (4, [.ref h4, .ref h0, up, .int powered, .int stepsDone])), (h0, .inr (1, [.int wayToOther, .ref h1, .ref h2, .int place, .int speed, .int way, .int topSpeed, .int gain, .int brake, .int darkSpeed, .int rideSpeed, .int kilos, .int mostKilos, .int openContacts, .int fireFloor, .int ride, .int starts, .int distance, .int hardFalls])), (h1, .inr (2, [.int dstate, .int dplace, .int p1, .int p2, .int dsteps, .int dbeam, .int dob, .int doc]))]) [0, 1, 2] rfl
    have hD := hD.sub (ws' := [(k0, .inr (4, [.ref h4, .ref h0, up, .int powered, .int stepsDone])), (h0, .inr (1, [.int wayToOther, .ref h1, .ref h2, .int place, .int speed, .int way, .int topSpeed, .int gain, .int brake, .int darkSpeed, .int rideSpeed, .int kilos, .int mostKilos, .int openContacts, .int fireFloor, .int ride, .int starts, .int distance, .int hardFalls])), (h1, .inr (2, [.int dstate, .int dplace, .int p1, .int p2, .int dsteps, .int dbeam, .int dob, .int doc]))]) [0, 1, 2] (by decide) rfl
    exact rt_i hQ hx hb hr (p1, p2) hG hP hD hS (Nat.le_of_ble_eq_true rfl) (Nat.le_of_ble_eq_true rfl) dL_door_19 hlk
def F_h_door_1 (dstate : Int32) (dplaces : Int32) (dhold : Int32) (p1 : Int32) (p2 : Int32) : Int32 × Int32 × Int32 :=
  ch (F_door_1 dstate p1 p2)
    ((1, dplaces, dhold))
    ((2, dplaces, dhold)) fun _ =>
    (0, p1, p2)
theorem F_h_door_1_u (dstate : Int32) (dplaces : Int32) (dhold : Int32) (p1 : Int32) (p2 : Int32) : F_h_door_1 dstate dplaces dhold p1 p2 =
  ((ch (F_door_1 dstate p1 p2)
    ((1, dplaces, dhold))
    ((2, dplaces, dhold)) fun _ =>
    (0, p1, p2)) : Int32 × Int32 × Int32) := rfl
set_option maxHeartbeats 4000000 in
set_option maxRecDepth 100000 in
theorem c_h_door_1 (l : Launch) (hl9 : l.stackTraces = false) (D : va_G) (aI aL aZ : ClassId) (sz : Nat) (k0 : Nat) (h4 : Nat) (powered : Int32) (stepsDone : Int32) (lo : Value) (h0 : Nat) (h1 : Nat) (h2 : Nat) (wayToOther : Int32) (place : Int32) (speed : Int32) (way : Int32) (topSpeed : Int32) (gain : Int32) (brake : Int32) (darkSpeed : Int32) (rideSpeed : Int32) (kilos : Int32) (mostKilos : Int32) (openContacts : Int32) (fireFloor : Int32) (ride : Int32) (starts : Int32) (distance : Int32) (hardFalls : Int32) (dstate : Int32) (dplace : Int32) (dplaces : Int32) (dhold : Int32) (dsteps : Int32) (dbeam : Int32) (dob : Int32) (doc : Int32) (p1 : Int32) (p2 : Int32) : Met l yL_door (.codeWith yL_door cL_door 5 (some .int) [(0, 7, 10, 13), (0, 7, 14, 15)] :: Gw) ({ frames := 8, cells := 3, slots := 18, locals := 138 }) (va_Pc [.ref k0, .int 1, .int p1, .int p2] (mpre D [(aI, .int), (aL, .long), (aZ, .boolean)] [(k0, .inr (4, [.ref h4, lo, .ref h0, .int powered, .int stepsDone])), (h0, .inr (1, [.int wayToOther, .ref h1, .ref h2, .int place, .int speed, .int way, .int topSpeed, .int gain, .int brake, .int darkSpeed, .int rideSpeed, .int kilos, .int mostKilos, .int openContacts, .int fireFloor, .int ride, .int starts, .int distance, .int hardFalls])), (h1, .inr (2, [.int dstate, .int dplace, .int dplaces, .int dhold, .int dsteps, .int dbeam, .int dob, .int doc]))] sz)) ((fun A : Nat → Prop => va_Qi (fun (r : Int32) (u : Int32 × Int32) => match u with | (u0, u1) => F_h_door_1 dstate dplaces dhold p1 p2 = (r, u0, u1)) (mpst D A (fun (u : Int32 × Int32) => match u with | (u0, u1) => [(k0, .inr (4, [.ref h4, lo, .ref h0, .int powered, .int stepsDone])), (h0, .inr (1, [.int wayToOther, .ref h1, .ref h2, .int place, .int speed, .int way, .int topSpeed, .int gain, .int brake, .int darkSpeed, .int rideSpeed, .int kilos, .int mostKilos, .int openContacts, .int fireFloor, .int ride, .int starts, .int distance, .int hardFalls])), (h1, .inr (2, [.int dstate, .int dplace, .int u0, .int u1, .int dsteps, .int dbeam, .int dob, .int doc]))])) A) (va_A ([(k0, .inr (4, [.ref h4, lo, .ref h0, .int powered, .int stepsDone])), (h0, .inr (1, [.int wayToOther, .ref h1, .ref h2, .int place, .int speed, .int way, .int topSpeed, .int gain, .int brake, .int darkSpeed, .int rideSpeed, .int kilos, .int mostKilos, .int openContacts, .int fireFloor, .int ride, .int starts, .int distance, .int hardFalls])), (h1, .inr (2, [.int dstate, .int dplace, .int dplaces, .int dhold, .int dsteps, .int dbeam, .int dob, .int doc]))]) sz)) 3 18 (va_A ([(k0, .inr (4, [.ref h4, lo, .ref h0, .int powered, .int stepsDone])), (h0, .inr (1, [.int wayToOther, .ref h1, .ref h2, .int place, .int speed, .int way, .int topSpeed, .int gain, .int brake, .int darkSpeed, .int rideSpeed, .int kilos, .int mostKilos, .int openContacts, .int fireFloor, .int ride, .int starts, .int distance, .int hardFalls])), (h1, .inr (2, [.int dstate, .int dplace, .int dplaces, .int dhold, .int dsteps, .int dbeam, .int dob, .int doc]))]) sz) := by
  refine enh (cc := cL_door) (maxL := 5) (ret := (some .int)) (Qc := (fun A : Nat → Prop => va_Qi (fun (r : Int32) (u : Int32 × Int32) => match u with | (u0, u1) => F_h_door_1 dstate dplaces dhold p1 p2 = (r, u0, u1)) (mpst D A (fun (u : Int32 × Int32) => match u with | (u0, u1) => [(k0, .inr (4, [.ref h4, lo, .ref h0, .int powered, .int stepsDone])), (h0, .inr (1, [.int wayToOther, .ref h1, .ref h2, .int place, .int speed, .int way, .int topSpeed, .int gain, .int brake, .int darkSpeed, .int rideSpeed, .int kilos, .int mostKilos, .int openContacts, .int fireFloor, .int ride, .int starts, .int distance, .int hardFalls])), (h1, .inr (2, [.int dstate, .int dplace, .int u0, .int u1, .int dsteps, .int dbeam, .int dob, .int doc]))])) A)) (by decide) rfl (Nat.le_of_ble_eq_true rfl) ?_
  intro p e s m args below meth c A ls Q hQ hx hb hr hts hown hlk hnm hml htab hA hS hP hK hD hE hl
  have hown : s.vm.findClass RL = some m.cls := hown
  have hl : lv_has ls 5 [(0, .ref k0), (1, .int 1), (2, .int p1), (3, .int p2)] := hl
  have hG := F_h_door_1_u dstate dplaces dhold p1 p2
  refine lv_aload_n hx hb dL_door_0 rfl (lv_at hl 0 rfl) ?_
  refine lv_iload_n hx hb dL_door_1 rfl (lv_at hl 1 rfl) ?_
  refine lv_iload_n hx hb dL_door_2 rfl (lv_at hl 2 rfl) ?_
  refine lv_iload_n hx hb dL_door_3 rfl (lv_at hl 3 rfl) ?_
  refine my_cv (wr := []) [0, 1, 2] [] (vx_runV (As := [.int 1, .int p1, .int p2]) (rest := []) ⟨hx, hb, hml, hown, hts⟩ (c_door_1 l hl9 D aI aL aZ _ k0 h4 powered stepsDone lo h0 h1 h2 wayToOther place speed way topSpeed gain brake darkSpeed rideSpeed kilos mostKilos openContacts fireFloor ride starts distance hardFalls dstate dplace dplaces dhold dsteps dbeam dob doc p1 p2) (cwV 3 hts (gV w_410 w_411 w_412 w_35 w_413) rfl rfl rfl (by decide +kernel) ⟨Nat.le_of_ble_eq_true rfl, Nat.le_of_ble_eq_true rfl⟩) (prev_of hK hP hD hS hA hE [0, 1, 2] rfl (by decide) (ci := 4) rfl 0 rfl _) rfl rfl hl.1 rfl (lv_room (Nat.le_of_ble_eq_true rfl)) dL_door_4 ⟨Nat.le_of_ble_eq_true rfl, Nat.le_of_ble_eq_true rfl⟩) hP hD hS hA rfl rfl (by decide) (by decide) (fun E ce q9 u H locs hw hEx hP hD hS hce hcv hcl => ?_) (fun u_ H locs hw_1 hP hD hS => ?_)
  · obtain ⟨hw, hu⟩ := hw
    have htab : c.exceptionTable.toList = [⟨0, 7, 10, 13⟩, ⟨0, 7, 14, 15⟩] := htab
    rcases hu with rfl | rfl
    · have hG := hG.trans (ch_1 hw)
      refine my_h1 (u := 1) hown htab (by decide) (by decide) (hts _ (mG w_105)) hE hEx hce hcv hcl ?_
      have hP : va_P D vwCl [(k0, .inr (4, [.ref h4, lo, .ref h0, .int powered, .int stepsDone])), (h0, .inr (1, [.int wayToOther, .ref h1, .ref h2, .int place, .int speed, .int way, .int topSpeed, .int gain, .int brake, .int darkSpeed, .int rideSpeed, .int kilos, .int mostKilos, .int openContacts, .int fireFloor, .int ride, .int starts, .int distance, .int hardFalls])), (h1, .inr (2, [.int dstate, .int dplace, .int dplaces, .int dhold, .int dsteps, .int dbeam, .int dob, .int doc]))] H := hP
      have hD : va_D A [(k0, .inr (4, [.ref h4, lo, .ref h0, .int powered, .int stepsDone])), (h0, .inr (1, [.int wayToOther, .ref h1, .ref h2, .int place, .int speed, .int way, .int topSpeed, .int gain, .int brake, .int darkSpeed, .int rideSpeed, .int kilos, .int mostKilos, .int openContacts, .int fireFloor, .int ride, .int starts, .int distance, .int hardFalls])), (h1, .inr (2, [.int dstate, .int dplace, .int dplaces, .int dhold, .int dsteps, .int dbeam, .int dob, .int doc]))] := hD
      refine lv_astore (lv' := [(4, .ref q9), (0, .ref k0), (1, .int 1), (2, .int p1), (3, .int p2)]) hx hb dL_door_10 hl (by decide) rfl (fun ls hl => ?_)
      refine lv_iconst (v := 1) hx hb dL_door_12 (by decide) ?_
      have hP := hP.sub (ws' := [(k0, .inr (4, [.ref h4, lo, .ref h0, .int powered, .int stepsDone])), (h0, .inr (1, [.int wayToOther, .ref h1, .ref h2, .int place, .int speed, .int way, .int topSpeed, .int gain, .int brake, .int darkSpeed, .int rideSpeed, .int kilos, .int mostKilos, .int openContacts, .int fireFloor, .int ride, .int starts, .int distance, .int hardFalls])), (h1, .inr (2, [.int dstate, .int dplace, .int dplaces, .int dhold, .int dsteps, .int dbeam, .int dob, .int doc]))]) [0, 1, 2] rfl
      have hD := hD.sub (ws' := [(k0, .inr (4, [.ref h4, lo, .ref h0, .int powered, .int stepsDone])), (h0, .inr (1, [.int wayToOther, .ref h1, .ref h2, .int place, .int speed, .int way, .int topSpeed, .int gain, .int brake, .int darkSpeed, .int rideSpeed, .int kilos, .int mostKilos, .int openContacts, .int fireFloor, .int ride, .int starts, .int distance, .int hardFalls])), (h1, .inr (2, [.int dstate, .int dplace, .int dplaces, .int dhold, .int dsteps, .int dbeam, .int dob, .int doc]))]) [0, 1, 2] (by decide) rfl
      exact rt_i hQ hx hb hr (dplaces, dhold) hG hP hD hS (Nat.le_of_ble_eq_true rfl) (Nat.le_of_ble_eq_true rfl) dL_door_13 hlk
    · have hG := hG.trans (ch_2 hw)
      refine my_h2 (u := 2) hown htab (by decide) (by decide) (by decide) (hts _ (mG w_105)) (hts _ (mG w_106)) hE hEx hce hcv hcl ?_
      have hP : va_P D vwCl [(k0, .inr (4, [.ref h4, lo, .ref h0, .int powered, .int stepsDone])), (h0, .inr (1, [.int wayToOther, .ref h1, .ref h2, .int place, .int speed, .int way, .int topSpeed, .int gain, .int brake, .int darkSpeed, .int rideSpeed, .int kilos, .int mostKilos, .int openContacts, .int fireFloor, .int ride, .int starts, .int distance, .int hardFalls])), (h1, .inr (2, [.int dstate, .int dplace, .int dplaces, .int dhold, .int dsteps, .int dbeam, .int dob, .int doc]))] H := hP
      have hD : va_D A [(k0, .inr (4, [.ref h4, lo, .ref h0, .int powered, .int stepsDone])), (h0, .inr (1, [.int wayToOther, .ref h1, .ref h2, .int place, .int speed, .int way, .int topSpeed, .int gain, .int brake, .int darkSpeed, .int rideSpeed, .int kilos, .int mostKilos, .int openContacts, .int fireFloor, .int ride, .int starts, .int distance, .int hardFalls])), (h1, .inr (2, [.int dstate, .int dplace, .int dplaces, .int dhold, .int dsteps, .int dbeam, .int dob, .int doc]))] := hD
      refine lv_astore (lv' := [(4, .ref q9), (0, .ref k0), (1, .int 1), (2, .int p1), (3, .int p2)]) hx hb dL_door_14 hl (by decide) rfl (fun ls hl => ?_)
      refine lv_iconst (v := 2) hx hb dL_door_16 (by decide) ?_
      have hP := hP.sub (ws' := [(k0, .inr (4, [.ref h4, lo, .ref h0, .int powered, .int stepsDone])), (h0, .inr (1, [.int wayToOther, .ref h1, .ref h2, .int place, .int speed, .int way, .int topSpeed, .int gain, .int brake, .int darkSpeed, .int rideSpeed, .int kilos, .int mostKilos, .int openContacts, .int fireFloor, .int ride, .int starts, .int distance, .int hardFalls])), (h1, .inr (2, [.int dstate, .int dplace, .int dplaces, .int dhold, .int dsteps, .int dbeam, .int dob, .int doc]))]) [0, 1, 2] rfl
      have hD := hD.sub (ws' := [(k0, .inr (4, [.ref h4, lo, .ref h0, .int powered, .int stepsDone])), (h0, .inr (1, [.int wayToOther, .ref h1, .ref h2, .int place, .int speed, .int way, .int topSpeed, .int gain, .int brake, .int darkSpeed, .int rideSpeed, .int kilos, .int mostKilos, .int openContacts, .int fireFloor, .int ride, .int starts, .int distance, .int hardFalls])), (h1, .inr (2, [.int dstate, .int dplace, .int dplaces, .int dhold, .int dsteps, .int dbeam, .int dob, .int doc]))]) [0, 1, 2] (by decide) rfl
      exact rt_i hQ hx hb hr (dplaces, dhold) hG hP hD hS (Nat.le_of_ble_eq_true rfl) (Nat.le_of_ble_eq_true rfl) dL_door_17 hlk
  · skip
    have hw_1 : F_door_1 dstate p1 p2 = .inr () := hw_1
    have hG := hG.trans (ch_r hw_1)
    have hP : va_P D vwCl [(k0, .inr (4, [.ref h4, lo, .ref h0, .int powered, .int stepsDone])), (h0, .inr (1, [.int wayToOther, .ref h1, .ref h2, .int place, .int speed, .int way, .int topSpeed, .int gain, .int brake, .int darkSpeed, .int rideSpeed, .int kilos, .int mostKilos, .int openContacts, .int fireFloor, .int ride, .int starts, .int distance, .int hardFalls])), (h1, .inr (2, [.int dstate, .int dplace, .int p1, .int p2, .int dsteps, .int dbeam, .int dob, .int doc]))] H := hP
    have hD : va_D A [(k0, .inr (4, [.ref h4, lo, .ref h0, .int powered, .int stepsDone])), (h0, .inr (1, [.int wayToOther, .ref h1, .ref h2, .int place, .int speed, .int way, .int topSpeed, .int gain, .int brake, .int darkSpeed, .int rideSpeed, .int kilos, .int mostKilos, .int openContacts, .int fireFloor, .int ride, .int starts, .int distance, .int hardFalls])), (h1, .inr (2, [.int dstate, .int dplace, .int p1, .int p2, .int dsteps, .int dbeam, .int dob, .int doc]))] := hD
    refine lv_goto (tgt := 18) hx hb dL_door_7 (by decide) ?_
    refine lv_iconst (v := 0) hx hb dL_door_18 (by decide) ?_
    have hP := hP.sub (ws' := [(k0, .inr (4, [.ref h4, lo, .ref h0, .int powered, .int stepsDone])), (h0, .inr (1, [.int wayToOther, .ref h1, .ref h2, .int place, .int speed, .int way, .int topSpeed, .int gain, .int brake, .int darkSpeed, .int rideSpeed, .int kilos, .int mostKilos, .int openContacts, .int fireFloor, .int ride, .int starts, .int distance, .int hardFalls])), (h1, .inr (2, [.int dstate, .int dplace, .int p1, .int p2, .int dsteps, .int dbeam, .int dob, .int doc]))]) [0, 1, 2] rfl
    have hD := hD.sub (ws' := [(k0, .inr (4, [.ref h4, lo, .ref h0, .int powered, .int stepsDone])), (h0, .inr (1, [.int wayToOther, .ref h1, .ref h2, .int place, .int speed, .int way, .int topSpeed, .int gain, .int brake, .int darkSpeed, .int rideSpeed, .int kilos, .int mostKilos, .int openContacts, .int fireFloor, .int ride, .int starts, .int distance, .int hardFalls])), (h1, .inr (2, [.int dstate, .int dplace, .int p1, .int p2, .int dsteps, .int dbeam, .int dob, .int doc]))]) [0, 1, 2] (by decide) rfl
    exact rt_i hQ hx hb hr (p1, p2) hG hP hD hS (Nat.le_of_ble_eq_true rfl) (Nat.le_of_ble_eq_true rfl) dL_door_19 hlk
def F_h_door_0n : Int32 :=
  ch F_door_0n
    (1)
    (1) fun _ =>
    1
theorem F_h_door_0n_u : F_h_door_0n =
  ((ch F_door_0n
    (1)
    (1) fun _ =>
    1) : Int32) := rfl
set_option maxHeartbeats 4000000 in
set_option maxRecDepth 100000 in
theorem c_h_door_0n (l : Launch) (hl9 : l.stackTraces = false) (D : va_G) (aI aL aZ : ClassId) (sz : Nat) (k0 : Nat) (h4 : Nat) (powered : Int32) (stepsDone : Int32) (up : Value) (p1 : Int32) (p2 : Int32) : Met l yL_door (.codeWith yL_door cL_door 5 (some .int) [(0, 7, 10, 13), (0, 7, 14, 15)] :: Gw) ({ frames := 8, cells := 1, slots := 6, locals := 138 }) (va_Pc [.ref k0, .int 0, .int p1, .int p2] (mpre D [(aI, .int), (aL, .long), (aZ, .boolean)] [(k0, .inr (4, [.ref h4, .null, up, .int powered, .int stepsDone]))] sz)) ((fun A : Nat → Prop => va_Qi (fun (r : Int32) (u : Unit) => F_h_door_0n = r) (mpst D A (fun (u : Unit) => [(k0, .inr (4, [.ref h4, .null, up, .int powered, .int stepsDone]))])) A) (va_A ([(k0, .inr (4, [.ref h4, .null, up, .int powered, .int stepsDone]))]) sz)) 1 6 (va_A ([(k0, .inr (4, [.ref h4, .null, up, .int powered, .int stepsDone]))]) sz) := by
  refine enh (cc := cL_door) (maxL := 5) (ret := (some .int)) (Qc := (fun A : Nat → Prop => va_Qi (fun (r : Int32) (u : Unit) => F_h_door_0n = r) (mpst D A (fun (u : Unit) => [(k0, .inr (4, [.ref h4, .null, up, .int powered, .int stepsDone]))])) A)) (by decide) rfl (Nat.le_of_ble_eq_true rfl) ?_
  intro p e s m args below meth c A ls Q hQ hx hb hr hts hown hlk hnm hml htab hA hS hP hK hD hE hl
  have hown : s.vm.findClass RL = some m.cls := hown
  have hl : lv_has ls 5 [(0, .ref k0), (1, .int 0), (2, .int p1), (3, .int p2)] := hl
  have hG := F_h_door_0n_u
  refine lv_aload_n hx hb dL_door_0 rfl (lv_at hl 0 rfl) ?_
  refine lv_iload_n hx hb dL_door_1 rfl (lv_at hl 1 rfl) ?_
  refine lv_iload_n hx hb dL_door_2 rfl (lv_at hl 2 rfl) ?_
  refine lv_iload_n hx hb dL_door_3 rfl (lv_at hl 3 rfl) ?_
  refine my_cv (wr := []) [0] [] (vx_runV (As := [.int 0, .int p1, .int p2]) (rest := []) ⟨hx, hb, hml, hown, hts⟩ (c_door_0n l hl9 D aI aL aZ _ k0 h4 powered stepsDone up p1 p2) (cwV 3 hts (gV w_410 w_411 w_412 w_35 w_413) rfl rfl rfl (by decide +kernel) ⟨Nat.le_of_ble_eq_true rfl, Nat.le_of_ble_eq_true rfl⟩) (prev_of hK hP hD hS hA hE [0] rfl (by decide) (ci := 4) rfl 0 rfl _) rfl rfl hl.1 rfl (lv_room (Nat.le_of_ble_eq_true rfl)) dL_door_4 ⟨Nat.le_of_ble_eq_true rfl, Nat.le_of_ble_eq_true rfl⟩) hP hD hS hA rfl rfl (by decide) (by decide) (fun E ce q9 u H locs hw hEx hP hD hS hce hcv hcl => ?_) (fun u_ H locs hw_1 hP hD hS => ?_)
  · obtain ⟨hw, hu⟩ := hw
    have htab : c.exceptionTable.toList = [⟨0, 7, 10, 13⟩, ⟨0, 7, 14, 15⟩] := htab
    subst hu
    have hG := hG.trans (ch_1 hw)
    refine my_h1 (u := 1) hown htab (by decide) (by decide) (hts _ (mG w_105)) hE hEx hce hcv hcl ?_
    have hP : va_P D vwCl [(k0, .inr (4, [.ref h4, .null, up, .int powered, .int stepsDone]))] H := hP
    have hD : va_D A [(k0, .inr (4, [.ref h4, .null, up, .int powered, .int stepsDone]))] := hD
    refine lv_astore (lv' := [(4, .ref q9), (0, .ref k0), (1, .int 0), (2, .int p1), (3, .int p2)]) hx hb dL_door_10 hl (by decide) rfl (fun ls hl => ?_)
    refine lv_iconst (v := 1) hx hb dL_door_12 (by decide) ?_
    have hP := hP.sub (ws' := [(k0, .inr (4, [.ref h4, .null, up, .int powered, .int stepsDone]))]) [0] rfl
    have hD := hD.sub (ws' := [(k0, .inr (4, [.ref h4, .null, up, .int powered, .int stepsDone]))]) [0] (by decide) rfl
    exact rt_i hQ hx hb hr () hG hP hD hS (Nat.le_of_ble_eq_true rfl) (Nat.le_of_ble_eq_true rfl) dL_door_13 hlk
  · skip
    exact False.elim hw_1
def F_h_door_1n : Int32 :=
  ch F_door_1n
    (1)
    (1) fun _ =>
    1
theorem F_h_door_1n_u : F_h_door_1n =
  ((ch F_door_1n
    (1)
    (1) fun _ =>
    1) : Int32) := rfl
set_option maxHeartbeats 4000000 in
set_option maxRecDepth 100000 in
theorem c_h_door_1n (l : Launch) (hl9 : l.stackTraces = false) (D : va_G) (aI aL aZ : ClassId) (sz : Nat) (k0 : Nat) (h4 : Nat) (powered : Int32) (stepsDone : Int32) (lo : Value) (p1 : Int32) (p2 : Int32) : Met l yL_door (.codeWith yL_door cL_door 5 (some .int) [(0, 7, 10, 13), (0, 7, 14, 15)] :: Gw) ({ frames := 8, cells := 1, slots := 6, locals := 138 }) (va_Pc [.ref k0, .int 1, .int p1, .int p2] (mpre D [(aI, .int), (aL, .long), (aZ, .boolean)] [(k0, .inr (4, [.ref h4, lo, .null, .int powered, .int stepsDone]))] sz)) ((fun A : Nat → Prop => va_Qi (fun (r : Int32) (u : Unit) => F_h_door_1n = r) (mpst D A (fun (u : Unit) => [(k0, .inr (4, [.ref h4, lo, .null, .int powered, .int stepsDone]))])) A) (va_A ([(k0, .inr (4, [.ref h4, lo, .null, .int powered, .int stepsDone]))]) sz)) 1 6 (va_A ([(k0, .inr (4, [.ref h4, lo, .null, .int powered, .int stepsDone]))]) sz) := by
  refine enh (cc := cL_door) (maxL := 5) (ret := (some .int)) (Qc := (fun A : Nat → Prop => va_Qi (fun (r : Int32) (u : Unit) => F_h_door_1n = r) (mpst D A (fun (u : Unit) => [(k0, .inr (4, [.ref h4, lo, .null, .int powered, .int stepsDone]))])) A)) (by decide) rfl (Nat.le_of_ble_eq_true rfl) ?_
  intro p e s m args below meth c A ls Q hQ hx hb hr hts hown hlk hnm hml htab hA hS hP hK hD hE hl
  have hown : s.vm.findClass RL = some m.cls := hown
  have hl : lv_has ls 5 [(0, .ref k0), (1, .int 1), (2, .int p1), (3, .int p2)] := hl
  have hG := F_h_door_1n_u
  refine lv_aload_n hx hb dL_door_0 rfl (lv_at hl 0 rfl) ?_
  refine lv_iload_n hx hb dL_door_1 rfl (lv_at hl 1 rfl) ?_
  refine lv_iload_n hx hb dL_door_2 rfl (lv_at hl 2 rfl) ?_
  refine lv_iload_n hx hb dL_door_3 rfl (lv_at hl 3 rfl) ?_
  refine my_cv (wr := []) [0] [] (vx_runV (As := [.int 1, .int p1, .int p2]) (rest := []) ⟨hx, hb, hml, hown, hts⟩ (c_door_1n l hl9 D aI aL aZ _ k0 h4 powered stepsDone lo p1 p2) (cwV 3 hts (gV w_410 w_411 w_412 w_35 w_413) rfl rfl rfl (by decide +kernel) ⟨Nat.le_of_ble_eq_true rfl, Nat.le_of_ble_eq_true rfl⟩) (prev_of hK hP hD hS hA hE [0] rfl (by decide) (ci := 4) rfl 0 rfl _) rfl rfl hl.1 rfl (lv_room (Nat.le_of_ble_eq_true rfl)) dL_door_4 ⟨Nat.le_of_ble_eq_true rfl, Nat.le_of_ble_eq_true rfl⟩) hP hD hS hA rfl rfl (by decide) (by decide) (fun E ce q9 u H locs hw hEx hP hD hS hce hcv hcl => ?_) (fun u_ H locs hw_1 hP hD hS => ?_)
  · obtain ⟨hw, hu⟩ := hw
    have htab : c.exceptionTable.toList = [⟨0, 7, 10, 13⟩, ⟨0, 7, 14, 15⟩] := htab
    subst hu
    have hG := hG.trans (ch_1 hw)
    refine my_h1 (u := 1) hown htab (by decide) (by decide) (hts _ (mG w_105)) hE hEx hce hcv hcl ?_
    have hP : va_P D vwCl [(k0, .inr (4, [.ref h4, lo, .null, .int powered, .int stepsDone]))] H := hP
    have hD : va_D A [(k0, .inr (4, [.ref h4, lo, .null, .int powered, .int stepsDone]))] := hD
    refine lv_astore (lv' := [(4, .ref q9), (0, .ref k0), (1, .int 1), (2, .int p1), (3, .int p2)]) hx hb dL_door_10 hl (by decide) rfl (fun ls hl => ?_)
    refine lv_iconst (v := 1) hx hb dL_door_12 (by decide) ?_
    have hP := hP.sub (ws' := [(k0, .inr (4, [.ref h4, lo, .null, .int powered, .int stepsDone]))]) [0] rfl
    have hD := hD.sub (ws' := [(k0, .inr (4, [.ref h4, lo, .null, .int powered, .int stepsDone]))]) [0] (by decide) rfl
    exact rt_i hQ hx hb hr () hG hP hD hS (Nat.le_of_ble_eq_true rfl) (Nat.le_of_ble_eq_true rfl) dL_door_13 hlk
  · skip
    exact False.elim hw_1
def F_h_door_x : Int32 :=
  ch F_door_x
    (1)
    (1) fun _ =>
    1
theorem F_h_door_x_u : F_h_door_x =
  ((ch F_door_x
    (1)
    (1) fun _ =>
    1) : Int32) := rfl
set_option maxHeartbeats 4000000 in
set_option maxRecDepth 100000 in
theorem c_h_door_x (l : Launch) (hl9 : l.stackTraces = false) (D : va_G) (aI aL aZ : ClassId) (sz : Nat) (k0 : Nat) (h4 : Nat) (powered : Int32) (stepsDone : Int32) (lo : Value) (up : Value) (p0 : Int32) (p1 : Int32) (p2 : Int32) (h9 : ¬ p0 = 0) (h8 : ¬ p0 = 1) : Met l yL_door (.codeWith yL_door cL_door 5 (some .int) [(0, 7, 10, 13), (0, 7, 14, 15)] :: Gw) ({ frames := 8, cells := 1, slots := 6, locals := 138 }) (va_Pc [.ref k0, .int p0, .int p1, .int p2] (mpre D [(aI, .int), (aL, .long), (aZ, .boolean)] [(k0, .inr (4, [.ref h4, lo, up, .int powered, .int stepsDone]))] sz)) ((fun A : Nat → Prop => va_Qi (fun (r : Int32) (u : Unit) => F_h_door_x = r) (mpst D A (fun (u : Unit) => [(k0, .inr (4, [.ref h4, lo, up, .int powered, .int stepsDone]))])) A) (va_A ([(k0, .inr (4, [.ref h4, lo, up, .int powered, .int stepsDone]))]) sz)) 1 6 (va_A ([(k0, .inr (4, [.ref h4, lo, up, .int powered, .int stepsDone]))]) sz) := by
  refine enh (cc := cL_door) (maxL := 5) (ret := (some .int)) (Qc := (fun A : Nat → Prop => va_Qi (fun (r : Int32) (u : Unit) => F_h_door_x = r) (mpst D A (fun (u : Unit) => [(k0, .inr (4, [.ref h4, lo, up, .int powered, .int stepsDone]))])) A)) (by decide) rfl (Nat.le_of_ble_eq_true rfl) ?_
  intro p e s m args below meth c A ls Q hQ hx hb hr hts hown hlk hnm hml htab hA hS hP hK hD hE hl
  have hown : s.vm.findClass RL = some m.cls := hown
  have hl : lv_has ls 5 [(0, .ref k0), (1, .int p0), (2, .int p1), (3, .int p2)] := hl
  have hG := F_h_door_x_u
  refine lv_aload_n hx hb dL_door_0 rfl (lv_at hl 0 rfl) ?_
  refine lv_iload_n hx hb dL_door_1 rfl (lv_at hl 1 rfl) ?_
  refine lv_iload_n hx hb dL_door_2 rfl (lv_at hl 2 rfl) ?_
  refine lv_iload_n hx hb dL_door_3 rfl (lv_at hl 3 rfl) ?_
  refine my_cv (wr := []) [0] [] (vx_runV (As := [.int p0, .int p1, .int p2]) (rest := []) ⟨hx, hb, hml, hown, hts⟩ (c_door_x l hl9 D aI aL aZ _ k0 h4 powered stepsDone lo up p0 p1 p2 h9 h8) (cwV 3 hts (gV w_410 w_411 w_412 w_35 w_413) rfl rfl rfl (by decide +kernel) ⟨Nat.le_of_ble_eq_true rfl, Nat.le_of_ble_eq_true rfl⟩) (prev_of hK hP hD hS hA hE [0] rfl (by decide) (ci := 4) rfl 0 rfl _) rfl rfl hl.1 rfl (lv_room (Nat.le_of_ble_eq_true rfl)) dL_door_4 ⟨Nat.le_of_ble_eq_true rfl, Nat.le_of_ble_eq_true rfl⟩) hP hD hS hA rfl rfl (by decide) (by decide) (fun E ce q9 u H locs hw hEx hP hD hS hce hcv hcl => ?_) (fun u_ H locs hw_1 hP hD hS => ?_)
  · obtain ⟨hw, hu⟩ := hw
    have htab : c.exceptionTable.toList = [⟨0, 7, 10, 13⟩, ⟨0, 7, 14, 15⟩] := htab
    subst hu
    have hG := hG.trans (ch_1 hw)
    refine my_h1 (u := 1) hown htab (by decide) (by decide) (hts _ (mG w_105)) hE hEx hce hcv hcl ?_
    have hP : va_P D vwCl [(k0, .inr (4, [.ref h4, lo, up, .int powered, .int stepsDone]))] H := hP
    have hD : va_D A [(k0, .inr (4, [.ref h4, lo, up, .int powered, .int stepsDone]))] := hD
    refine lv_astore (lv' := [(4, .ref q9), (0, .ref k0), (1, .int p0), (2, .int p1), (3, .int p2)]) hx hb dL_door_10 hl (by decide) rfl (fun ls hl => ?_)
    refine lv_iconst (v := 1) hx hb dL_door_12 (by decide) ?_
    have hP := hP.sub (ws' := [(k0, .inr (4, [.ref h4, lo, up, .int powered, .int stepsDone]))]) [0] rfl
    have hD := hD.sub (ws' := [(k0, .inr (4, [.ref h4, lo, up, .int powered, .int stepsDone]))]) [0] (by decide) rfl
    exact rt_i hQ hx hb hr () hG hP hD hS (Nat.le_of_ble_eq_true rfl) (Nat.le_of_ble_eq_true rfl) dL_door_13 hlk
  · skip
    exact False.elim hw_1
theorem dL_go_0 : decode cL_go 0 = .ok (.aload_n 3, 1) := by decide +kernel
theorem dL_go_1 : decode cL_go 1 = .ok (.iconst 0, 1) := by decide +kernel
theorem dL_go_2 : decode cL_go 2 = .ok (.aload_n 0, 1) := by decide +kernel
theorem dL_go_3 : decode cL_go 3 = .ok (.iload_n 1, 1) := by decide +kernel
theorem dL_go_4 : decode cL_go 4 = .ok (.iload_n 2, 1) := by decide +kernel
theorem dL_go_5 : decode cL_go 5 = .ok (.invokevirtual 35, 3) := by decide +kernel
theorem dL_go_8 : decode cL_go 8 = .ok (.i2l, 1) := by decide +kernel
theorem dL_go_9 : decode cL_go 9 = .ok (.lastore, 1) := by decide +kernel
theorem dL_go_10 : decode cL_go 10 = .ok (.goto 11, 3) := by decide +kernel
theorem dL_go_13 : decode cL_go 13 = .ok (.astore 4, 2) := by decide +kernel
theorem dL_go_15 : decode cL_go 15 = .ok (.iconst 1, 1) := by decide +kernel
theorem dL_go_16 : decode cL_go 16 = .ok (.ireturn, 1) := by decide +kernel
theorem dL_go_17 : decode cL_go 17 = .ok (.astore 4, 2) := by decide +kernel
theorem dL_go_19 : decode cL_go 19 = .ok (.iconst 2, 1) := by decide +kernel
theorem dL_go_20 : decode cL_go 20 = .ok (.ireturn, 1) := by decide +kernel
theorem dL_go_21 : decode cL_go 21 = .ok (.iconst 0, 1) := by decide +kernel
theorem dL_go_22 : decode cL_go 22 = .ok (.ireturn, 1) := by decide +kernel
def F_h_go_0 (ccount : Int32) (cf : Nat → Int32) (n : Nat) (p1 : Int32) (of : Nat → Int64) : Int32 × Int32 × (Nat → Int32) × (Nat → Int64) :=
  ch (F_go_0 ccount cf n p1)
    ((1, ccount, cf, of))
    ((2, ccount, cf, of)) fun (r_1, x_2, x_3) =>
    (0, x_2, x_3, (vp_updL of (0 : Int32).toNatClampNeg ((r_1).toInt64)))
theorem F_h_go_0_u (ccount : Int32) (cf : Nat → Int32) (n : Nat) (p1 : Int32) (of : Nat → Int64) : F_h_go_0 ccount cf n p1 of =
  ((ch (F_go_0 ccount cf n p1)
    ((1, ccount, cf, of))
    ((2, ccount, cf, of)) fun (r_1, x_2, x_3) =>
    (0, x_2, x_3, (vp_updL of (0 : Int32).toNatClampNeg ((r_1).toInt64)))) : Int32 × Int32 × (Nat → Int32) × (Nat → Int64)) := rfl
set_option maxHeartbeats 4000000 in
set_option maxRecDepth 100000 in
theorem c_h_go_0 (l : Launch) (hl9 : l.stackTraces = false) (D : va_G) (aI aL aZ : ClassId) (sz : Nat) (k0 : Nat) (h4 : Nat) (powered : Int32) (stepsDone : Int32) (up : Value) (h0 : Nat) (h1 : Nat) (h2 : Nat) (wayToOther : Int32) (place : Int32) (speed : Int32) (way : Int32) (topSpeed : Int32) (gain : Int32) (brake : Int32) (darkSpeed : Int32) (rideSpeed : Int32) (kilos : Int32) (mostKilos : Int32) (openContacts : Int32) (fireFloor : Int32) (ride : Int32) (starts : Int32) (distance : Int32) (hardFalls : Int32) (h3 : Nat) (ccount : Int32) (cover : Int32) (cf : Nat → Int32) (h5 : Nat) (gap : Int32) (n : Nat) (pf : Nat → Int32) (p1 : Int32) (o0 : Nat) (of : Nat → Int64) (hn : n < 2 ^ 31) : Met l yL_go (.codeWith yL_go cL_go 5 (some .int) [(0, 10, 13, 13), (0, 10, 17, 15)] :: Gw) ({ frames := 8, cells := 2, slots := 12, locals := 137 }) (va_Pc [.ref k0, .int 0, .int p1, .ref o0] (mpre D [(aI, .int), (aL, .long), (aZ, .boolean)] [(k0, .inr (4, [.ref h4, .ref h0, up, .int powered, .int stepsDone])), (h0, .inr (1, [.int wayToOther, .ref h1, .ref h2, .int place, .int speed, .int way, .int topSpeed, .int gain, .int brake, .int darkSpeed, .int rideSpeed, .int kilos, .int mostKilos, .int openContacts, .int fireFloor, .int ride, .int starts, .int distance, .int hardFalls])), (h2, .inr (0, [.ref h3, .int ccount, .int cover])), (h3, .inl (aI, 8, .inl cf)), (h4, .inr (3, [.ref h5, .int gap])), (h5, .inl (aI, n, .inl pf)), (o0, .inl (aL, 1, .inr (.inl of)))] sz)) ((fun A : Nat → Prop => va_Qi (fun (r : Int32) (u : Int32 × (Nat → Int32) × (Nat → Int64)) => match u with | (u0, u1, u2) => F_h_go_0 ccount cf n p1 of = (r, u0, u1, u2)) (mpst D A (fun (u : Int32 × (Nat → Int32) × (Nat → Int64)) => match u with | (u0, u1, u2) => [(k0, .inr (4, [.ref h4, .ref h0, up, .int powered, .int stepsDone])), (h0, .inr (1, [.int wayToOther, .ref h1, .ref h2, .int place, .int speed, .int way, .int topSpeed, .int gain, .int brake, .int darkSpeed, .int rideSpeed, .int kilos, .int mostKilos, .int openContacts, .int fireFloor, .int ride, .int starts, .int distance, .int hardFalls])), (h2, .inr (0, [.ref h3, .int u0, .int cover])), (h3, .inl (aI, 8, .inl u1)), (h4, .inr (3, [.ref h5, .int gap])), (h5, .inl (aI, n, .inl pf)), (o0, .inl (aL, 1, .inr (.inl u2)))])) A) (va_A ([(k0, .inr (4, [.ref h4, .ref h0, up, .int powered, .int stepsDone])), (h0, .inr (1, [.int wayToOther, .ref h1, .ref h2, .int place, .int speed, .int way, .int topSpeed, .int gain, .int brake, .int darkSpeed, .int rideSpeed, .int kilos, .int mostKilos, .int openContacts, .int fireFloor, .int ride, .int starts, .int distance, .int hardFalls])), (h2, .inr (0, [.ref h3, .int ccount, .int cover])), (h3, .inl (aI, 8, .inl cf)), (h4, .inr (3, [.ref h5, .int gap])), (h5, .inl (aI, n, .inl pf)), (o0, .inl (aL, 1, .inr (.inl of)))]) sz)) 2 12 (va_A ([(k0, .inr (4, [.ref h4, .ref h0, up, .int powered, .int stepsDone])), (h0, .inr (1, [.int wayToOther, .ref h1, .ref h2, .int place, .int speed, .int way, .int topSpeed, .int gain, .int brake, .int darkSpeed, .int rideSpeed, .int kilos, .int mostKilos, .int openContacts, .int fireFloor, .int ride, .int starts, .int distance, .int hardFalls])), (h2, .inr (0, [.ref h3, .int ccount, .int cover])), (h3, .inl (aI, 8, .inl cf)), (h4, .inr (3, [.ref h5, .int gap])), (h5, .inl (aI, n, .inl pf)), (o0, .inl (aL, 1, .inr (.inl of)))]) sz) := by
  refine enh (cc := cL_go) (maxL := 5) (ret := (some .int)) (Qc := (fun A : Nat → Prop => va_Qi (fun (r : Int32) (u : Int32 × (Nat → Int32) × (Nat → Int64)) => match u with | (u0, u1, u2) => F_h_go_0 ccount cf n p1 of = (r, u0, u1, u2)) (mpst D A (fun (u : Int32 × (Nat → Int32) × (Nat → Int64)) => match u with | (u0, u1, u2) => [(k0, .inr (4, [.ref h4, .ref h0, up, .int powered, .int stepsDone])), (h0, .inr (1, [.int wayToOther, .ref h1, .ref h2, .int place, .int speed, .int way, .int topSpeed, .int gain, .int brake, .int darkSpeed, .int rideSpeed, .int kilos, .int mostKilos, .int openContacts, .int fireFloor, .int ride, .int starts, .int distance, .int hardFalls])), (h2, .inr (0, [.ref h3, .int u0, .int cover])), (h3, .inl (aI, 8, .inl u1)), (h4, .inr (3, [.ref h5, .int gap])), (h5, .inl (aI, n, .inl pf)), (o0, .inl (aL, 1, .inr (.inl u2)))])) A)) (by decide) rfl (Nat.le_of_ble_eq_true rfl) ?_
  intro p e s m args below meth c A ls Q hQ hx hb hr hts hown hlk hnm hml htab hA hS hP hK hD hE hl
  have hown : s.vm.findClass RL = some m.cls := hown
  have hl : lv_has ls 5 [(0, .ref k0), (1, .int 0), (2, .int p1), (3, .ref o0)] := hl
  have hG := F_h_go_0_u ccount cf n p1 of
  refine lv_aload_n hx hb dL_go_0 rfl (lv_at hl 3 rfl) ?_
  refine lv_iconst (v := 0) hx hb dL_go_1 (by decide) ?_
  refine lv_aload_n hx hb dL_go_2 rfl (lv_at hl 0 rfl) ?_
  refine lv_iload_n hx hb dL_go_3 rfl (lv_at hl 1 rfl) ?_
  refine lv_iload_n hx hb dL_go_4 rfl (lv_at hl 2 rfl) ?_
  refine my_ci (wr := [(o0, .inl (aL, 1, .inr (.inl of)))]) [0, 1, 2, 3, 4, 5] [6] (vx_runV (As := [.int 0, .int p1]) (rest := [.int 0, .ref o0]) ⟨hx, hb, hml, hown, hts⟩ (c_go_0 l hl9 D aI aL aZ _ k0 h4 powered stepsDone up h0 h1 h2 wayToOther place speed way topSpeed gain brake darkSpeed rideSpeed kilos mostKilos openContacts fireFloor ride starts distance hardFalls h3 ccount cover cf h5 gap n pf p1 hn) (cwV 2 hts (gV w_418 w_419 w_420 w_35 w_421) rfl rfl rfl (by decide +kernel) ⟨Nat.le_of_ble_eq_true rfl, Nat.le_of_ble_eq_true rfl⟩) (prev_of hK hP hD hS hA hE [0, 1, 2, 3, 4, 5] rfl (by decide) (ci := 4) rfl 0 rfl _) rfl rfl hl.1 rfl (lv_room (Nat.le_of_ble_eq_true rfl)) dL_go_5 ⟨Nat.le_of_ble_eq_true rfl, Nat.le_of_ble_eq_true rfl⟩) hP hD hS hA rfl rfl (by decide) (by decide) (fun E ce q9 u H locs hw hEx hP hD hS hce hcv hcl => ?_) (fun r_1 u_ H locs hw_4 hP hD hS => ?_)
  · obtain ⟨hw, hu⟩ := hw
    have htab : c.exceptionTable.toList = [⟨0, 10, 13, 13⟩, ⟨0, 10, 17, 15⟩] := htab
    rcases hu with rfl | rfl
    · have hG := hG.trans (ch_1 hw)
      refine my_h1 (u := 1) hown htab (by decide) (by decide) (hts _ (mG w_105)) hE hEx hce hcv hcl ?_
      have hP : va_P D vwCl [(o0, .inl (aL, 1, .inr (.inl of))), (k0, .inr (4, [.ref h4, .ref h0, up, .int powered, .int stepsDone])), (h0, .inr (1, [.int wayToOther, .ref h1, .ref h2, .int place, .int speed, .int way, .int topSpeed, .int gain, .int brake, .int darkSpeed, .int rideSpeed, .int kilos, .int mostKilos, .int openContacts, .int fireFloor, .int ride, .int starts, .int distance, .int hardFalls])), (h2, .inr (0, [.ref h3, .int ccount, .int cover])), (h3, .inl (aI, 8, .inl cf)), (h4, .inr (3, [.ref h5, .int gap])), (h5, .inl (aI, n, .inl pf))] H := hP
      have hD : va_D A [(o0, .inl (aL, 1, .inr (.inl of))), (k0, .inr (4, [.ref h4, .ref h0, up, .int powered, .int stepsDone])), (h0, .inr (1, [.int wayToOther, .ref h1, .ref h2, .int place, .int speed, .int way, .int topSpeed, .int gain, .int brake, .int darkSpeed, .int rideSpeed, .int kilos, .int mostKilos, .int openContacts, .int fireFloor, .int ride, .int starts, .int distance, .int hardFalls])), (h2, .inr (0, [.ref h3, .int ccount, .int cover])), (h3, .inl (aI, 8, .inl cf)), (h4, .inr (3, [.ref h5, .int gap])), (h5, .inl (aI, n, .inl pf))] := hD
      refine lv_astore (lv' := [(4, .ref q9), (0, .ref k0), (1, .int 0), (2, .int p1), (3, .ref o0)]) hx hb dL_go_13 hl (by decide) rfl (fun ls hl => ?_)
      refine lv_iconst (v := 1) hx hb dL_go_15 (by decide) ?_
      have hP := hP.sub (ws' := [(k0, .inr (4, [.ref h4, .ref h0, up, .int powered, .int stepsDone])), (h0, .inr (1, [.int wayToOther, .ref h1, .ref h2, .int place, .int speed, .int way, .int topSpeed, .int gain, .int brake, .int darkSpeed, .int rideSpeed, .int kilos, .int mostKilos, .int openContacts, .int fireFloor, .int ride, .int starts, .int distance, .int hardFalls])), (h2, .inr (0, [.ref h3, .int ccount, .int cover])), (h3, .inl (aI, 8, .inl cf)), (h4, .inr (3, [.ref h5, .int gap])), (h5, .inl (aI, n, .inl pf)), (o0, .inl (aL, 1, .inr (.inl of)))]) [1, 2, 3, 4, 5, 6, 0] rfl
      have hD := hD.sub (ws' := [(k0, .inr (4, [.ref h4, .ref h0, up, .int powered, .int stepsDone])), (h0, .inr (1, [.int wayToOther, .ref h1, .ref h2, .int place, .int speed, .int way, .int topSpeed, .int gain, .int brake, .int darkSpeed, .int rideSpeed, .int kilos, .int mostKilos, .int openContacts, .int fireFloor, .int ride, .int starts, .int distance, .int hardFalls])), (h2, .inr (0, [.ref h3, .int ccount, .int cover])), (h3, .inl (aI, 8, .inl cf)), (h4, .inr (3, [.ref h5, .int gap])), (h5, .inl (aI, n, .inl pf)), (o0, .inl (aL, 1, .inr (.inl of)))]) [1, 2, 3, 4, 5, 6, 0] (by decide) rfl
      exact rt_i hQ hx hb hr (ccount, cf, of) hG hP hD hS (Nat.le_of_ble_eq_true rfl) (Nat.le_of_ble_eq_true rfl) dL_go_16 hlk
    · have hG := hG.trans (ch_2 hw)
      refine my_h2 (u := 2) hown htab (by decide) (by decide) (by decide) (hts _ (mG w_105)) (hts _ (mG w_106)) hE hEx hce hcv hcl ?_
      have hP : va_P D vwCl [(o0, .inl (aL, 1, .inr (.inl of))), (k0, .inr (4, [.ref h4, .ref h0, up, .int powered, .int stepsDone])), (h0, .inr (1, [.int wayToOther, .ref h1, .ref h2, .int place, .int speed, .int way, .int topSpeed, .int gain, .int brake, .int darkSpeed, .int rideSpeed, .int kilos, .int mostKilos, .int openContacts, .int fireFloor, .int ride, .int starts, .int distance, .int hardFalls])), (h2, .inr (0, [.ref h3, .int ccount, .int cover])), (h3, .inl (aI, 8, .inl cf)), (h4, .inr (3, [.ref h5, .int gap])), (h5, .inl (aI, n, .inl pf))] H := hP
      have hD : va_D A [(o0, .inl (aL, 1, .inr (.inl of))), (k0, .inr (4, [.ref h4, .ref h0, up, .int powered, .int stepsDone])), (h0, .inr (1, [.int wayToOther, .ref h1, .ref h2, .int place, .int speed, .int way, .int topSpeed, .int gain, .int brake, .int darkSpeed, .int rideSpeed, .int kilos, .int mostKilos, .int openContacts, .int fireFloor, .int ride, .int starts, .int distance, .int hardFalls])), (h2, .inr (0, [.ref h3, .int ccount, .int cover])), (h3, .inl (aI, 8, .inl cf)), (h4, .inr (3, [.ref h5, .int gap])), (h5, .inl (aI, n, .inl pf))] := hD
      refine lv_astore (lv' := [(4, .ref q9), (0, .ref k0), (1, .int 0), (2, .int p1), (3, .ref o0)]) hx hb dL_go_17 hl (by decide) rfl (fun ls hl => ?_)
      refine lv_iconst (v := 2) hx hb dL_go_19 (by decide) ?_
      have hP := hP.sub (ws' := [(k0, .inr (4, [.ref h4, .ref h0, up, .int powered, .int stepsDone])), (h0, .inr (1, [.int wayToOther, .ref h1, .ref h2, .int place, .int speed, .int way, .int topSpeed, .int gain, .int brake, .int darkSpeed, .int rideSpeed, .int kilos, .int mostKilos, .int openContacts, .int fireFloor, .int ride, .int starts, .int distance, .int hardFalls])), (h2, .inr (0, [.ref h3, .int ccount, .int cover])), (h3, .inl (aI, 8, .inl cf)), (h4, .inr (3, [.ref h5, .int gap])), (h5, .inl (aI, n, .inl pf)), (o0, .inl (aL, 1, .inr (.inl of)))]) [1, 2, 3, 4, 5, 6, 0] rfl
      have hD := hD.sub (ws' := [(k0, .inr (4, [.ref h4, .ref h0, up, .int powered, .int stepsDone])), (h0, .inr (1, [.int wayToOther, .ref h1, .ref h2, .int place, .int speed, .int way, .int topSpeed, .int gain, .int brake, .int darkSpeed, .int rideSpeed, .int kilos, .int mostKilos, .int openContacts, .int fireFloor, .int ride, .int starts, .int distance, .int hardFalls])), (h2, .inr (0, [.ref h3, .int ccount, .int cover])), (h3, .inl (aI, 8, .inl cf)), (h4, .inr (3, [.ref h5, .int gap])), (h5, .inl (aI, n, .inl pf)), (o0, .inl (aL, 1, .inr (.inl of)))]) [1, 2, 3, 4, 5, 6, 0] (by decide) rfl
      exact rt_i hQ hx hb hr (ccount, cf, of) hG hP hD hS (Nat.le_of_ble_eq_true rfl) (Nat.le_of_ble_eq_true rfl) dL_go_20 hlk
  · skip
    obtain ⟨x_2, x_3⟩ := u_
    have hw_4 : F_go_0 ccount cf n p1 = .inr (r_1, x_2, x_3) := hw_4
    have hG := hG.trans (ch_r hw_4)
    have hP : va_P D vwCl [(o0, .inl (aL, 1, .inr (.inl of))), (k0, .inr (4, [.ref h4, .ref h0, up, .int powered, .int stepsDone])), (h0, .inr (1, [.int wayToOther, .ref h1, .ref h2, .int place, .int speed, .int way, .int topSpeed, .int gain, .int brake, .int darkSpeed, .int rideSpeed, .int kilos, .int mostKilos, .int openContacts, .int fireFloor, .int ride, .int starts, .int distance, .int hardFalls])), (h2, .inr (0, [.ref h3, .int x_2, .int cover])), (h3, .inl (aI, 8, .inl x_3)), (h4, .inr (3, [.ref h5, .int gap])), (h5, .inl (aI, n, .inl pf))] H := hP
    have hD : va_D A [(o0, .inl (aL, 1, .inr (.inl of))), (k0, .inr (4, [.ref h4, .ref h0, up, .int powered, .int stepsDone])), (h0, .inr (1, [.int wayToOther, .ref h1, .ref h2, .int place, .int speed, .int way, .int topSpeed, .int gain, .int brake, .int darkSpeed, .int rideSpeed, .int kilos, .int mostKilos, .int openContacts, .int fireFloor, .int ride, .int starts, .int distance, .int hardFalls])), (h2, .inr (0, [.ref h3, .int x_2, .int cover])), (h3, .inl (aI, 8, .inl x_3)), (h4, .inr (3, [.ref h5, .int gap])), (h5, .inl (aI, n, .inl pf))] := hD
    refine lv_i2l (v := (r_1).toInt64) hx hb dL_go_8 rfl ?_
    refine va_last hx hb hK hP hD hS 0 1 rfl rfl (by unfold vp_in; decide) dL_go_9 (fun H locs hP hD hS => ?_)
    have hP : va_P D vwCl [(o0, .inl (aL, 1, .inr (.inl (vp_updL of (0 : Int32).toNatClampNeg ((r_1).toInt64))))), (k0, .inr (4, [.ref h4, .ref h0, up, .int powered, .int stepsDone])), (h0, .inr (1, [.int wayToOther, .ref h1, .ref h2, .int place, .int speed, .int way, .int topSpeed, .int gain, .int brake, .int darkSpeed, .int rideSpeed, .int kilos, .int mostKilos, .int openContacts, .int fireFloor, .int ride, .int starts, .int distance, .int hardFalls])), (h2, .inr (0, [.ref h3, .int x_2, .int cover])), (h3, .inl (aI, 8, .inl x_3)), (h4, .inr (3, [.ref h5, .int gap])), (h5, .inl (aI, n, .inl pf))] H := hP
    have hD : va_D A [(o0, .inl (aL, 1, .inr (.inl (vp_updL of (0 : Int32).toNatClampNeg ((r_1).toInt64))))), (k0, .inr (4, [.ref h4, .ref h0, up, .int powered, .int stepsDone])), (h0, .inr (1, [.int wayToOther, .ref h1, .ref h2, .int place, .int speed, .int way, .int topSpeed, .int gain, .int brake, .int darkSpeed, .int rideSpeed, .int kilos, .int mostKilos, .int openContacts, .int fireFloor, .int ride, .int starts, .int distance, .int hardFalls])), (h2, .inr (0, [.ref h3, .int x_2, .int cover])), (h3, .inl (aI, 8, .inl x_3)), (h4, .inr (3, [.ref h5, .int gap])), (h5, .inl (aI, n, .inl pf))] := hD
    refine lv_goto (tgt := 21) hx hb dL_go_10 (by decide) ?_
    refine lv_iconst (v := 0) hx hb dL_go_21 (by decide) ?_
    have hP := hP.sub (ws' := [(k0, .inr (4, [.ref h4, .ref h0, up, .int powered, .int stepsDone])), (h0, .inr (1, [.int wayToOther, .ref h1, .ref h2, .int place, .int speed, .int way, .int topSpeed, .int gain, .int brake, .int darkSpeed, .int rideSpeed, .int kilos, .int mostKilos, .int openContacts, .int fireFloor, .int ride, .int starts, .int distance, .int hardFalls])), (h2, .inr (0, [.ref h3, .int x_2, .int cover])), (h3, .inl (aI, 8, .inl x_3)), (h4, .inr (3, [.ref h5, .int gap])), (h5, .inl (aI, n, .inl pf)), (o0, .inl (aL, 1, .inr (.inl (vp_updL of (0 : Int32).toNatClampNeg ((r_1).toInt64)))))]) [1, 2, 3, 4, 5, 6, 0] rfl
    have hD := hD.sub (ws' := [(k0, .inr (4, [.ref h4, .ref h0, up, .int powered, .int stepsDone])), (h0, .inr (1, [.int wayToOther, .ref h1, .ref h2, .int place, .int speed, .int way, .int topSpeed, .int gain, .int brake, .int darkSpeed, .int rideSpeed, .int kilos, .int mostKilos, .int openContacts, .int fireFloor, .int ride, .int starts, .int distance, .int hardFalls])), (h2, .inr (0, [.ref h3, .int x_2, .int cover])), (h3, .inl (aI, 8, .inl x_3)), (h4, .inr (3, [.ref h5, .int gap])), (h5, .inl (aI, n, .inl pf)), (o0, .inl (aL, 1, .inr (.inl (vp_updL of (0 : Int32).toNatClampNeg ((r_1).toInt64)))))]) [1, 2, 3, 4, 5, 6, 0] (by decide) rfl
    exact rt_i hQ hx hb hr (x_2, x_3, (vp_updL of (0 : Int32).toNatClampNeg ((r_1).toInt64))) hG hP hD hS (Nat.le_of_ble_eq_true rfl) (Nat.le_of_ble_eq_true rfl) dL_go_22 hlk
def F_h_go_1 (ccount : Int32) (cf : Nat → Int32) (n : Nat) (p1 : Int32) (of : Nat → Int64) : Int32 × Int32 × (Nat → Int32) × (Nat → Int64) :=
  ch (F_go_1 ccount cf n p1)
    ((1, ccount, cf, of))
    ((2, ccount, cf, of)) fun (r_1, x_2, x_3) =>
    (0, x_2, x_3, (vp_updL of (0 : Int32).toNatClampNeg ((r_1).toInt64)))
theorem F_h_go_1_u (ccount : Int32) (cf : Nat → Int32) (n : Nat) (p1 : Int32) (of : Nat → Int64) : F_h_go_1 ccount cf n p1 of =
  ((ch (F_go_1 ccount cf n p1)
    ((1, ccount, cf, of))
    ((2, ccount, cf, of)) fun (r_1, x_2, x_3) =>
    (0, x_2, x_3, (vp_updL of (0 : Int32).toNatClampNeg ((r_1).toInt64)))) : Int32 × Int32 × (Nat → Int32) × (Nat → Int64)) := rfl
set_option maxHeartbeats 4000000 in
set_option maxRecDepth 100000 in
theorem c_h_go_1 (l : Launch) (hl9 : l.stackTraces = false) (D : va_G) (aI aL aZ : ClassId) (sz : Nat) (k0 : Nat) (h4 : Nat) (powered : Int32) (stepsDone : Int32) (lo : Value) (h0 : Nat) (h1 : Nat) (h2 : Nat) (wayToOther : Int32) (place : Int32) (speed : Int32) (way : Int32) (topSpeed : Int32) (gain : Int32) (brake : Int32) (darkSpeed : Int32) (rideSpeed : Int32) (kilos : Int32) (mostKilos : Int32) (openContacts : Int32) (fireFloor : Int32) (ride : Int32) (starts : Int32) (distance : Int32) (hardFalls : Int32) (h3 : Nat) (ccount : Int32) (cover : Int32) (cf : Nat → Int32) (h5 : Nat) (gap : Int32) (n : Nat) (pf : Nat → Int32) (p1 : Int32) (o0 : Nat) (of : Nat → Int64) (hn : n < 2 ^ 31) : Met l yL_go (.codeWith yL_go cL_go 5 (some .int) [(0, 10, 13, 13), (0, 10, 17, 15)] :: Gw) ({ frames := 8, cells := 2, slots := 12, locals := 137 }) (va_Pc [.ref k0, .int 1, .int p1, .ref o0] (mpre D [(aI, .int), (aL, .long), (aZ, .boolean)] [(k0, .inr (4, [.ref h4, lo, .ref h0, .int powered, .int stepsDone])), (h0, .inr (1, [.int wayToOther, .ref h1, .ref h2, .int place, .int speed, .int way, .int topSpeed, .int gain, .int brake, .int darkSpeed, .int rideSpeed, .int kilos, .int mostKilos, .int openContacts, .int fireFloor, .int ride, .int starts, .int distance, .int hardFalls])), (h2, .inr (0, [.ref h3, .int ccount, .int cover])), (h3, .inl (aI, 8, .inl cf)), (h4, .inr (3, [.ref h5, .int gap])), (h5, .inl (aI, n, .inl pf)), (o0, .inl (aL, 1, .inr (.inl of)))] sz)) ((fun A : Nat → Prop => va_Qi (fun (r : Int32) (u : Int32 × (Nat → Int32) × (Nat → Int64)) => match u with | (u0, u1, u2) => F_h_go_1 ccount cf n p1 of = (r, u0, u1, u2)) (mpst D A (fun (u : Int32 × (Nat → Int32) × (Nat → Int64)) => match u with | (u0, u1, u2) => [(k0, .inr (4, [.ref h4, lo, .ref h0, .int powered, .int stepsDone])), (h0, .inr (1, [.int wayToOther, .ref h1, .ref h2, .int place, .int speed, .int way, .int topSpeed, .int gain, .int brake, .int darkSpeed, .int rideSpeed, .int kilos, .int mostKilos, .int openContacts, .int fireFloor, .int ride, .int starts, .int distance, .int hardFalls])), (h2, .inr (0, [.ref h3, .int u0, .int cover])), (h3, .inl (aI, 8, .inl u1)), (h4, .inr (3, [.ref h5, .int gap])), (h5, .inl (aI, n, .inl pf)), (o0, .inl (aL, 1, .inr (.inl u2)))])) A) (va_A ([(k0, .inr (4, [.ref h4, lo, .ref h0, .int powered, .int stepsDone])), (h0, .inr (1, [.int wayToOther, .ref h1, .ref h2, .int place, .int speed, .int way, .int topSpeed, .int gain, .int brake, .int darkSpeed, .int rideSpeed, .int kilos, .int mostKilos, .int openContacts, .int fireFloor, .int ride, .int starts, .int distance, .int hardFalls])), (h2, .inr (0, [.ref h3, .int ccount, .int cover])), (h3, .inl (aI, 8, .inl cf)), (h4, .inr (3, [.ref h5, .int gap])), (h5, .inl (aI, n, .inl pf)), (o0, .inl (aL, 1, .inr (.inl of)))]) sz)) 2 12 (va_A ([(k0, .inr (4, [.ref h4, lo, .ref h0, .int powered, .int stepsDone])), (h0, .inr (1, [.int wayToOther, .ref h1, .ref h2, .int place, .int speed, .int way, .int topSpeed, .int gain, .int brake, .int darkSpeed, .int rideSpeed, .int kilos, .int mostKilos, .int openContacts, .int fireFloor, .int ride, .int starts, .int distance, .int hardFalls])), (h2, .inr (0, [.ref h3, .int ccount, .int cover])), (h3, .inl (aI, 8, .inl cf)), (h4, .inr (3, [.ref h5, .int gap])), (h5, .inl (aI, n, .inl pf)), (o0, .inl (aL, 1, .inr (.inl of)))]) sz) := by
  refine enh (cc := cL_go) (maxL := 5) (ret := (some .int)) (Qc := (fun A : Nat → Prop => va_Qi (fun (r : Int32) (u : Int32 × (Nat → Int32) × (Nat → Int64)) => match u with | (u0, u1, u2) => F_h_go_1 ccount cf n p1 of = (r, u0, u1, u2)) (mpst D A (fun (u : Int32 × (Nat → Int32) × (Nat → Int64)) => match u with | (u0, u1, u2) => [(k0, .inr (4, [.ref h4, lo, .ref h0, .int powered, .int stepsDone])), (h0, .inr (1, [.int wayToOther, .ref h1, .ref h2, .int place, .int speed, .int way, .int topSpeed, .int gain, .int brake, .int darkSpeed, .int rideSpeed, .int kilos, .int mostKilos, .int openContacts, .int fireFloor, .int ride, .int starts, .int distance, .int hardFalls])), (h2, .inr (0, [.ref h3, .int u0, .int cover])), (h3, .inl (aI, 8, .inl u1)), (h4, .inr (3, [.ref h5, .int gap])), (h5, .inl (aI, n, .inl pf)), (o0, .inl (aL, 1, .inr (.inl u2)))])) A)) (by decide) rfl (Nat.le_of_ble_eq_true rfl) ?_
  intro p e s m args below meth c A ls Q hQ hx hb hr hts hown hlk hnm hml htab hA hS hP hK hD hE hl
  have hown : s.vm.findClass RL = some m.cls := hown
  have hl : lv_has ls 5 [(0, .ref k0), (1, .int 1), (2, .int p1), (3, .ref o0)] := hl
  have hG := F_h_go_1_u ccount cf n p1 of
  refine lv_aload_n hx hb dL_go_0 rfl (lv_at hl 3 rfl) ?_
  refine lv_iconst (v := 0) hx hb dL_go_1 (by decide) ?_
  refine lv_aload_n hx hb dL_go_2 rfl (lv_at hl 0 rfl) ?_
  refine lv_iload_n hx hb dL_go_3 rfl (lv_at hl 1 rfl) ?_
  refine lv_iload_n hx hb dL_go_4 rfl (lv_at hl 2 rfl) ?_
  refine my_ci (wr := [(o0, .inl (aL, 1, .inr (.inl of)))]) [0, 1, 2, 3, 4, 5] [6] (vx_runV (As := [.int 1, .int p1]) (rest := [.int 0, .ref o0]) ⟨hx, hb, hml, hown, hts⟩ (c_go_1 l hl9 D aI aL aZ _ k0 h4 powered stepsDone lo h0 h1 h2 wayToOther place speed way topSpeed gain brake darkSpeed rideSpeed kilos mostKilos openContacts fireFloor ride starts distance hardFalls h3 ccount cover cf h5 gap n pf p1 hn) (cwV 2 hts (gV w_418 w_419 w_420 w_35 w_421) rfl rfl rfl (by decide +kernel) ⟨Nat.le_of_ble_eq_true rfl, Nat.le_of_ble_eq_true rfl⟩) (prev_of hK hP hD hS hA hE [0, 1, 2, 3, 4, 5] rfl (by decide) (ci := 4) rfl 0 rfl _) rfl rfl hl.1 rfl (lv_room (Nat.le_of_ble_eq_true rfl)) dL_go_5 ⟨Nat.le_of_ble_eq_true rfl, Nat.le_of_ble_eq_true rfl⟩) hP hD hS hA rfl rfl (by decide) (by decide) (fun E ce q9 u H locs hw hEx hP hD hS hce hcv hcl => ?_) (fun r_1 u_ H locs hw_4 hP hD hS => ?_)
  · obtain ⟨hw, hu⟩ := hw
    have htab : c.exceptionTable.toList = [⟨0, 10, 13, 13⟩, ⟨0, 10, 17, 15⟩] := htab
    rcases hu with rfl | rfl
    · have hG := hG.trans (ch_1 hw)
      refine my_h1 (u := 1) hown htab (by decide) (by decide) (hts _ (mG w_105)) hE hEx hce hcv hcl ?_
      have hP : va_P D vwCl [(o0, .inl (aL, 1, .inr (.inl of))), (k0, .inr (4, [.ref h4, lo, .ref h0, .int powered, .int stepsDone])), (h0, .inr (1, [.int wayToOther, .ref h1, .ref h2, .int place, .int speed, .int way, .int topSpeed, .int gain, .int brake, .int darkSpeed, .int rideSpeed, .int kilos, .int mostKilos, .int openContacts, .int fireFloor, .int ride, .int starts, .int distance, .int hardFalls])), (h2, .inr (0, [.ref h3, .int ccount, .int cover])), (h3, .inl (aI, 8, .inl cf)), (h4, .inr (3, [.ref h5, .int gap])), (h5, .inl (aI, n, .inl pf))] H := hP
      have hD : va_D A [(o0, .inl (aL, 1, .inr (.inl of))), (k0, .inr (4, [.ref h4, lo, .ref h0, .int powered, .int stepsDone])), (h0, .inr (1, [.int wayToOther, .ref h1, .ref h2, .int place, .int speed, .int way, .int topSpeed, .int gain, .int brake, .int darkSpeed, .int rideSpeed, .int kilos, .int mostKilos, .int openContacts, .int fireFloor, .int ride, .int starts, .int distance, .int hardFalls])), (h2, .inr (0, [.ref h3, .int ccount, .int cover])), (h3, .inl (aI, 8, .inl cf)), (h4, .inr (3, [.ref h5, .int gap])), (h5, .inl (aI, n, .inl pf))] := hD
      refine lv_astore (lv' := [(4, .ref q9), (0, .ref k0), (1, .int 1), (2, .int p1), (3, .ref o0)]) hx hb dL_go_13 hl (by decide) rfl (fun ls hl => ?_)
      refine lv_iconst (v := 1) hx hb dL_go_15 (by decide) ?_
      have hP := hP.sub (ws' := [(k0, .inr (4, [.ref h4, lo, .ref h0, .int powered, .int stepsDone])), (h0, .inr (1, [.int wayToOther, .ref h1, .ref h2, .int place, .int speed, .int way, .int topSpeed, .int gain, .int brake, .int darkSpeed, .int rideSpeed, .int kilos, .int mostKilos, .int openContacts, .int fireFloor, .int ride, .int starts, .int distance, .int hardFalls])), (h2, .inr (0, [.ref h3, .int ccount, .int cover])), (h3, .inl (aI, 8, .inl cf)), (h4, .inr (3, [.ref h5, .int gap])), (h5, .inl (aI, n, .inl pf)), (o0, .inl (aL, 1, .inr (.inl of)))]) [1, 2, 3, 4, 5, 6, 0] rfl
      have hD := hD.sub (ws' := [(k0, .inr (4, [.ref h4, lo, .ref h0, .int powered, .int stepsDone])), (h0, .inr (1, [.int wayToOther, .ref h1, .ref h2, .int place, .int speed, .int way, .int topSpeed, .int gain, .int brake, .int darkSpeed, .int rideSpeed, .int kilos, .int mostKilos, .int openContacts, .int fireFloor, .int ride, .int starts, .int distance, .int hardFalls])), (h2, .inr (0, [.ref h3, .int ccount, .int cover])), (h3, .inl (aI, 8, .inl cf)), (h4, .inr (3, [.ref h5, .int gap])), (h5, .inl (aI, n, .inl pf)), (o0, .inl (aL, 1, .inr (.inl of)))]) [1, 2, 3, 4, 5, 6, 0] (by decide) rfl
      exact rt_i hQ hx hb hr (ccount, cf, of) hG hP hD hS (Nat.le_of_ble_eq_true rfl) (Nat.le_of_ble_eq_true rfl) dL_go_16 hlk
    · have hG := hG.trans (ch_2 hw)
      refine my_h2 (u := 2) hown htab (by decide) (by decide) (by decide) (hts _ (mG w_105)) (hts _ (mG w_106)) hE hEx hce hcv hcl ?_
      have hP : va_P D vwCl [(o0, .inl (aL, 1, .inr (.inl of))), (k0, .inr (4, [.ref h4, lo, .ref h0, .int powered, .int stepsDone])), (h0, .inr (1, [.int wayToOther, .ref h1, .ref h2, .int place, .int speed, .int way, .int topSpeed, .int gain, .int brake, .int darkSpeed, .int rideSpeed, .int kilos, .int mostKilos, .int openContacts, .int fireFloor, .int ride, .int starts, .int distance, .int hardFalls])), (h2, .inr (0, [.ref h3, .int ccount, .int cover])), (h3, .inl (aI, 8, .inl cf)), (h4, .inr (3, [.ref h5, .int gap])), (h5, .inl (aI, n, .inl pf))] H := hP
      have hD : va_D A [(o0, .inl (aL, 1, .inr (.inl of))), (k0, .inr (4, [.ref h4, lo, .ref h0, .int powered, .int stepsDone])), (h0, .inr (1, [.int wayToOther, .ref h1, .ref h2, .int place, .int speed, .int way, .int topSpeed, .int gain, .int brake, .int darkSpeed, .int rideSpeed, .int kilos, .int mostKilos, .int openContacts, .int fireFloor, .int ride, .int starts, .int distance, .int hardFalls])), (h2, .inr (0, [.ref h3, .int ccount, .int cover])), (h3, .inl (aI, 8, .inl cf)), (h4, .inr (3, [.ref h5, .int gap])), (h5, .inl (aI, n, .inl pf))] := hD
      refine lv_astore (lv' := [(4, .ref q9), (0, .ref k0), (1, .int 1), (2, .int p1), (3, .ref o0)]) hx hb dL_go_17 hl (by decide) rfl (fun ls hl => ?_)
      refine lv_iconst (v := 2) hx hb dL_go_19 (by decide) ?_
      have hP := hP.sub (ws' := [(k0, .inr (4, [.ref h4, lo, .ref h0, .int powered, .int stepsDone])), (h0, .inr (1, [.int wayToOther, .ref h1, .ref h2, .int place, .int speed, .int way, .int topSpeed, .int gain, .int brake, .int darkSpeed, .int rideSpeed, .int kilos, .int mostKilos, .int openContacts, .int fireFloor, .int ride, .int starts, .int distance, .int hardFalls])), (h2, .inr (0, [.ref h3, .int ccount, .int cover])), (h3, .inl (aI, 8, .inl cf)), (h4, .inr (3, [.ref h5, .int gap])), (h5, .inl (aI, n, .inl pf)), (o0, .inl (aL, 1, .inr (.inl of)))]) [1, 2, 3, 4, 5, 6, 0] rfl
      have hD := hD.sub (ws' := [(k0, .inr (4, [.ref h4, lo, .ref h0, .int powered, .int stepsDone])), (h0, .inr (1, [.int wayToOther, .ref h1, .ref h2, .int place, .int speed, .int way, .int topSpeed, .int gain, .int brake, .int darkSpeed, .int rideSpeed, .int kilos, .int mostKilos, .int openContacts, .int fireFloor, .int ride, .int starts, .int distance, .int hardFalls])), (h2, .inr (0, [.ref h3, .int ccount, .int cover])), (h3, .inl (aI, 8, .inl cf)), (h4, .inr (3, [.ref h5, .int gap])), (h5, .inl (aI, n, .inl pf)), (o0, .inl (aL, 1, .inr (.inl of)))]) [1, 2, 3, 4, 5, 6, 0] (by decide) rfl
      exact rt_i hQ hx hb hr (ccount, cf, of) hG hP hD hS (Nat.le_of_ble_eq_true rfl) (Nat.le_of_ble_eq_true rfl) dL_go_20 hlk
  · skip
    obtain ⟨x_2, x_3⟩ := u_
    have hw_4 : F_go_1 ccount cf n p1 = .inr (r_1, x_2, x_3) := hw_4
    have hG := hG.trans (ch_r hw_4)
    have hP : va_P D vwCl [(o0, .inl (aL, 1, .inr (.inl of))), (k0, .inr (4, [.ref h4, lo, .ref h0, .int powered, .int stepsDone])), (h0, .inr (1, [.int wayToOther, .ref h1, .ref h2, .int place, .int speed, .int way, .int topSpeed, .int gain, .int brake, .int darkSpeed, .int rideSpeed, .int kilos, .int mostKilos, .int openContacts, .int fireFloor, .int ride, .int starts, .int distance, .int hardFalls])), (h2, .inr (0, [.ref h3, .int x_2, .int cover])), (h3, .inl (aI, 8, .inl x_3)), (h4, .inr (3, [.ref h5, .int gap])), (h5, .inl (aI, n, .inl pf))] H := hP
    have hD : va_D A [(o0, .inl (aL, 1, .inr (.inl of))), (k0, .inr (4, [.ref h4, lo, .ref h0, .int powered, .int stepsDone])), (h0, .inr (1, [.int wayToOther, .ref h1, .ref h2, .int place, .int speed, .int way, .int topSpeed, .int gain, .int brake, .int darkSpeed, .int rideSpeed, .int kilos, .int mostKilos, .int openContacts, .int fireFloor, .int ride, .int starts, .int distance, .int hardFalls])), (h2, .inr (0, [.ref h3, .int x_2, .int cover])), (h3, .inl (aI, 8, .inl x_3)), (h4, .inr (3, [.ref h5, .int gap])), (h5, .inl (aI, n, .inl pf))] := hD
    refine lv_i2l (v := (r_1).toInt64) hx hb dL_go_8 rfl ?_
    refine va_last hx hb hK hP hD hS 0 1 rfl rfl (by unfold vp_in; decide) dL_go_9 (fun H locs hP hD hS => ?_)
    have hP : va_P D vwCl [(o0, .inl (aL, 1, .inr (.inl (vp_updL of (0 : Int32).toNatClampNeg ((r_1).toInt64))))), (k0, .inr (4, [.ref h4, lo, .ref h0, .int powered, .int stepsDone])), (h0, .inr (1, [.int wayToOther, .ref h1, .ref h2, .int place, .int speed, .int way, .int topSpeed, .int gain, .int brake, .int darkSpeed, .int rideSpeed, .int kilos, .int mostKilos, .int openContacts, .int fireFloor, .int ride, .int starts, .int distance, .int hardFalls])), (h2, .inr (0, [.ref h3, .int x_2, .int cover])), (h3, .inl (aI, 8, .inl x_3)), (h4, .inr (3, [.ref h5, .int gap])), (h5, .inl (aI, n, .inl pf))] H := hP
    have hD : va_D A [(o0, .inl (aL, 1, .inr (.inl (vp_updL of (0 : Int32).toNatClampNeg ((r_1).toInt64))))), (k0, .inr (4, [.ref h4, lo, .ref h0, .int powered, .int stepsDone])), (h0, .inr (1, [.int wayToOther, .ref h1, .ref h2, .int place, .int speed, .int way, .int topSpeed, .int gain, .int brake, .int darkSpeed, .int rideSpeed, .int kilos, .int mostKilos, .int openContacts, .int fireFloor, .int ride, .int starts, .int distance, .int hardFalls])), (h2, .inr (0, [.ref h3, .int x_2, .int cover])), (h3, .inl (aI, 8, .inl x_3)), (h4, .inr (3, [.ref h5, .int gap])), (h5, .inl (aI, n, .inl pf))] := hD
    refine lv_goto (tgt := 21) hx hb dL_go_10 (by decide) ?_
    refine lv_iconst (v := 0) hx hb dL_go_21 (by decide) ?_
    have hP := hP.sub (ws' := [(k0, .inr (4, [.ref h4, lo, .ref h0, .int powered, .int stepsDone])), (h0, .inr (1, [.int wayToOther, .ref h1, .ref h2, .int place, .int speed, .int way, .int topSpeed, .int gain, .int brake, .int darkSpeed, .int rideSpeed, .int kilos, .int mostKilos, .int openContacts, .int fireFloor, .int ride, .int starts, .int distance, .int hardFalls])), (h2, .inr (0, [.ref h3, .int x_2, .int cover])), (h3, .inl (aI, 8, .inl x_3)), (h4, .inr (3, [.ref h5, .int gap])), (h5, .inl (aI, n, .inl pf)), (o0, .inl (aL, 1, .inr (.inl (vp_updL of (0 : Int32).toNatClampNeg ((r_1).toInt64)))))]) [1, 2, 3, 4, 5, 6, 0] rfl
    have hD := hD.sub (ws' := [(k0, .inr (4, [.ref h4, lo, .ref h0, .int powered, .int stepsDone])), (h0, .inr (1, [.int wayToOther, .ref h1, .ref h2, .int place, .int speed, .int way, .int topSpeed, .int gain, .int brake, .int darkSpeed, .int rideSpeed, .int kilos, .int mostKilos, .int openContacts, .int fireFloor, .int ride, .int starts, .int distance, .int hardFalls])), (h2, .inr (0, [.ref h3, .int x_2, .int cover])), (h3, .inl (aI, 8, .inl x_3)), (h4, .inr (3, [.ref h5, .int gap])), (h5, .inl (aI, n, .inl pf)), (o0, .inl (aL, 1, .inr (.inl (vp_updL of (0 : Int32).toNatClampNeg ((r_1).toInt64)))))]) [1, 2, 3, 4, 5, 6, 0] (by decide) rfl
    exact rt_i hQ hx hb hr (x_2, x_3, (vp_updL of (0 : Int32).toNatClampNeg ((r_1).toInt64))) hG hP hD hS (Nat.le_of_ble_eq_true rfl) (Nat.le_of_ble_eq_true rfl) dL_go_22 hlk
def F_h_go_0n : Int32 :=
  ch F_go_0n
    (1)
    (1) fun _ =>
    1
theorem F_h_go_0n_u : F_h_go_0n =
  ((ch F_go_0n
    (1)
    (1) fun _ =>
    1) : Int32) := rfl
set_option maxHeartbeats 4000000 in
set_option maxRecDepth 100000 in
theorem c_h_go_0n (l : Launch) (hl9 : l.stackTraces = false) (D : va_G) (aI aL aZ : ClassId) (sz : Nat) (k0 : Nat) (h4 : Nat) (powered : Int32) (stepsDone : Int32) (up : Value) (p1 : Int32) (o0 : Nat) (of : Nat → Int64) : Met l yL_go (.codeWith yL_go cL_go 5 (some .int) [(0, 10, 13, 13), (0, 10, 17, 15)] :: Gw) ({ frames := 8, cells := 1, slots := 6, locals := 137 }) (va_Pc [.ref k0, .int 0, .int p1, .ref o0] (mpre D [(aI, .int), (aL, .long), (aZ, .boolean)] [(k0, .inr (4, [.ref h4, .null, up, .int powered, .int stepsDone])), (o0, .inl (aL, 1, .inr (.inl of)))] sz)) ((fun A : Nat → Prop => va_Qi (fun (r : Int32) (u : Unit) => F_h_go_0n = r) (mpst D A (fun (u : Unit) => [(k0, .inr (4, [.ref h4, .null, up, .int powered, .int stepsDone])), (o0, .inl (aL, 1, .inr (.inl of)))])) A) (va_A ([(k0, .inr (4, [.ref h4, .null, up, .int powered, .int stepsDone])), (o0, .inl (aL, 1, .inr (.inl of)))]) sz)) 1 6 (va_A ([(k0, .inr (4, [.ref h4, .null, up, .int powered, .int stepsDone])), (o0, .inl (aL, 1, .inr (.inl of)))]) sz) := by
  refine enh (cc := cL_go) (maxL := 5) (ret := (some .int)) (Qc := (fun A : Nat → Prop => va_Qi (fun (r : Int32) (u : Unit) => F_h_go_0n = r) (mpst D A (fun (u : Unit) => [(k0, .inr (4, [.ref h4, .null, up, .int powered, .int stepsDone])), (o0, .inl (aL, 1, .inr (.inl of)))])) A)) (by decide) rfl (Nat.le_of_ble_eq_true rfl) ?_
  intro p e s m args below meth c A ls Q hQ hx hb hr hts hown hlk hnm hml htab hA hS hP hK hD hE hl
  have hown : s.vm.findClass RL = some m.cls := hown
  have hl : lv_has ls 5 [(0, .ref k0), (1, .int 0), (2, .int p1), (3, .ref o0)] := hl
  have hG := F_h_go_0n_u
  refine lv_aload_n hx hb dL_go_0 rfl (lv_at hl 3 rfl) ?_
  refine lv_iconst (v := 0) hx hb dL_go_1 (by decide) ?_
  refine lv_aload_n hx hb dL_go_2 rfl (lv_at hl 0 rfl) ?_
  refine lv_iload_n hx hb dL_go_3 rfl (lv_at hl 1 rfl) ?_
  refine lv_iload_n hx hb dL_go_4 rfl (lv_at hl 2 rfl) ?_
  refine my_ci (wr := [(o0, .inl (aL, 1, .inr (.inl of)))]) [0] [1] (vx_runV (As := [.int 0, .int p1]) (rest := [.int 0, .ref o0]) ⟨hx, hb, hml, hown, hts⟩ (c_go_0n l hl9 D aI aL aZ _ k0 h4 powered stepsDone up p1) (cwV 2 hts (gV w_418 w_419 w_420 w_35 w_421) rfl rfl rfl (by decide +kernel) ⟨Nat.le_of_ble_eq_true rfl, Nat.le_of_ble_eq_true rfl⟩) (prev_of hK hP hD hS hA hE [0] rfl (by decide) (ci := 4) rfl 0 rfl _) rfl rfl hl.1 rfl (lv_room (Nat.le_of_ble_eq_true rfl)) dL_go_5 ⟨Nat.le_of_ble_eq_true rfl, Nat.le_of_ble_eq_true rfl⟩) hP hD hS hA rfl rfl (by decide) (by decide) (fun E ce q9 u H locs hw hEx hP hD hS hce hcv hcl => ?_) (fun r_1 u_ H locs hw_2 hP hD hS => ?_)
  · obtain ⟨hw, hu⟩ := hw
    have htab : c.exceptionTable.toList = [⟨0, 10, 13, 13⟩, ⟨0, 10, 17, 15⟩] := htab
    subst hu
    have hG := hG.trans (ch_1 hw)
    refine my_h1 (u := 1) hown htab (by decide) (by decide) (hts _ (mG w_105)) hE hEx hce hcv hcl ?_
    have hP : va_P D vwCl [(o0, .inl (aL, 1, .inr (.inl of))), (k0, .inr (4, [.ref h4, .null, up, .int powered, .int stepsDone]))] H := hP
    have hD : va_D A [(o0, .inl (aL, 1, .inr (.inl of))), (k0, .inr (4, [.ref h4, .null, up, .int powered, .int stepsDone]))] := hD
    refine lv_astore (lv' := [(4, .ref q9), (0, .ref k0), (1, .int 0), (2, .int p1), (3, .ref o0)]) hx hb dL_go_13 hl (by decide) rfl (fun ls hl => ?_)
    refine lv_iconst (v := 1) hx hb dL_go_15 (by decide) ?_
    have hP := hP.sub (ws' := [(k0, .inr (4, [.ref h4, .null, up, .int powered, .int stepsDone])), (o0, .inl (aL, 1, .inr (.inl of)))]) [1, 0] rfl
    have hD := hD.sub (ws' := [(k0, .inr (4, [.ref h4, .null, up, .int powered, .int stepsDone])), (o0, .inl (aL, 1, .inr (.inl of)))]) [1, 0] (by decide) rfl
    exact rt_i hQ hx hb hr () hG hP hD hS (Nat.le_of_ble_eq_true rfl) (Nat.le_of_ble_eq_true rfl) dL_go_16 hlk
  · skip
    exact False.elim hw_2
def F_h_go_1n : Int32 :=
  ch F_go_1n
    (1)
    (1) fun _ =>
    1
theorem F_h_go_1n_u : F_h_go_1n =
  ((ch F_go_1n
    (1)
    (1) fun _ =>
    1) : Int32) := rfl
set_option maxHeartbeats 4000000 in
set_option maxRecDepth 100000 in
theorem c_h_go_1n (l : Launch) (hl9 : l.stackTraces = false) (D : va_G) (aI aL aZ : ClassId) (sz : Nat) (k0 : Nat) (h4 : Nat) (powered : Int32) (stepsDone : Int32) (lo : Value) (p1 : Int32) (o0 : Nat) (of : Nat → Int64) : Met l yL_go (.codeWith yL_go cL_go 5 (some .int) [(0, 10, 13, 13), (0, 10, 17, 15)] :: Gw) ({ frames := 8, cells := 1, slots := 6, locals := 137 }) (va_Pc [.ref k0, .int 1, .int p1, .ref o0] (mpre D [(aI, .int), (aL, .long), (aZ, .boolean)] [(k0, .inr (4, [.ref h4, lo, .null, .int powered, .int stepsDone])), (o0, .inl (aL, 1, .inr (.inl of)))] sz)) ((fun A : Nat → Prop => va_Qi (fun (r : Int32) (u : Unit) => F_h_go_1n = r) (mpst D A (fun (u : Unit) => [(k0, .inr (4, [.ref h4, lo, .null, .int powered, .int stepsDone])), (o0, .inl (aL, 1, .inr (.inl of)))])) A) (va_A ([(k0, .inr (4, [.ref h4, lo, .null, .int powered, .int stepsDone])), (o0, .inl (aL, 1, .inr (.inl of)))]) sz)) 1 6 (va_A ([(k0, .inr (4, [.ref h4, lo, .null, .int powered, .int stepsDone])), (o0, .inl (aL, 1, .inr (.inl of)))]) sz) := by
  refine enh (cc := cL_go) (maxL := 5) (ret := (some .int)) (Qc := (fun A : Nat → Prop => va_Qi (fun (r : Int32) (u : Unit) => F_h_go_1n = r) (mpst D A (fun (u : Unit) => [(k0, .inr (4, [.ref h4, lo, .null, .int powered, .int stepsDone])), (o0, .inl (aL, 1, .inr (.inl of)))])) A)) (by decide) rfl (Nat.le_of_ble_eq_true rfl) ?_
  intro p e s m args below meth c A ls Q hQ hx hb hr hts hown hlk hnm hml htab hA hS hP hK hD hE hl
  have hown : s.vm.findClass RL = some m.cls := hown
  have hl : lv_has ls 5 [(0, .ref k0), (1, .int 1), (2, .int p1), (3, .ref o0)] := hl
  have hG := F_h_go_1n_u
  refine lv_aload_n hx hb dL_go_0 rfl (lv_at hl 3 rfl) ?_
  refine lv_iconst (v := 0) hx hb dL_go_1 (by decide) ?_
  refine lv_aload_n hx hb dL_go_2 rfl (lv_at hl 0 rfl) ?_
  refine lv_iload_n hx hb dL_go_3 rfl (lv_at hl 1 rfl) ?_
  refine lv_iload_n hx hb dL_go_4 rfl (lv_at hl 2 rfl) ?_
  refine my_ci (wr := [(o0, .inl (aL, 1, .inr (.inl of)))]) [0] [1] (vx_runV (As := [.int 1, .int p1]) (rest := [.int 0, .ref o0]) ⟨hx, hb, hml, hown, hts⟩ (c_go_1n l hl9 D aI aL aZ _ k0 h4 powered stepsDone lo p1) (cwV 2 hts (gV w_418 w_419 w_420 w_35 w_421) rfl rfl rfl (by decide +kernel) ⟨Nat.le_of_ble_eq_true rfl, Nat.le_of_ble_eq_true rfl⟩) (prev_of hK hP hD hS hA hE [0] rfl (by decide) (ci := 4) rfl 0 rfl _) rfl rfl hl.1 rfl (lv_room (Nat.le_of_ble_eq_true rfl)) dL_go_5 ⟨Nat.le_of_ble_eq_true rfl, Nat.le_of_ble_eq_true rfl⟩) hP hD hS hA rfl rfl (by decide) (by decide) (fun E ce q9 u H locs hw hEx hP hD hS hce hcv hcl => ?_) (fun r_1 u_ H locs hw_2 hP hD hS => ?_)
  · obtain ⟨hw, hu⟩ := hw
    have htab : c.exceptionTable.toList = [⟨0, 10, 13, 13⟩, ⟨0, 10, 17, 15⟩] := htab
    subst hu
    have hG := hG.trans (ch_1 hw)
    refine my_h1 (u := 1) hown htab (by decide) (by decide) (hts _ (mG w_105)) hE hEx hce hcv hcl ?_
    have hP : va_P D vwCl [(o0, .inl (aL, 1, .inr (.inl of))), (k0, .inr (4, [.ref h4, lo, .null, .int powered, .int stepsDone]))] H := hP
    have hD : va_D A [(o0, .inl (aL, 1, .inr (.inl of))), (k0, .inr (4, [.ref h4, lo, .null, .int powered, .int stepsDone]))] := hD
    refine lv_astore (lv' := [(4, .ref q9), (0, .ref k0), (1, .int 1), (2, .int p1), (3, .ref o0)]) hx hb dL_go_13 hl (by decide) rfl (fun ls hl => ?_)
    refine lv_iconst (v := 1) hx hb dL_go_15 (by decide) ?_
    have hP := hP.sub (ws' := [(k0, .inr (4, [.ref h4, lo, .null, .int powered, .int stepsDone])), (o0, .inl (aL, 1, .inr (.inl of)))]) [1, 0] rfl
    have hD := hD.sub (ws' := [(k0, .inr (4, [.ref h4, lo, .null, .int powered, .int stepsDone])), (o0, .inl (aL, 1, .inr (.inl of)))]) [1, 0] (by decide) rfl
    exact rt_i hQ hx hb hr () hG hP hD hS (Nat.le_of_ble_eq_true rfl) (Nat.le_of_ble_eq_true rfl) dL_go_16 hlk
  · skip
    exact False.elim hw_2
def F_h_go_x : Int32 :=
  ch F_go_x
    (1)
    (1) fun _ =>
    1
theorem F_h_go_x_u : F_h_go_x =
  ((ch F_go_x
    (1)
    (1) fun _ =>
    1) : Int32) := rfl
set_option maxHeartbeats 4000000 in
set_option maxRecDepth 100000 in
theorem c_h_go_x (l : Launch) (hl9 : l.stackTraces = false) (D : va_G) (aI aL aZ : ClassId) (sz : Nat) (k0 : Nat) (h4 : Nat) (powered : Int32) (stepsDone : Int32) (lo : Value) (up : Value) (p0 : Int32) (p1 : Int32) (o0 : Nat) (of : Nat → Int64) (h9 : ¬ p0 = 0) (h8 : ¬ p0 = 1) : Met l yL_go (.codeWith yL_go cL_go 5 (some .int) [(0, 10, 13, 13), (0, 10, 17, 15)] :: Gw) ({ frames := 8, cells := 1, slots := 6, locals := 137 }) (va_Pc [.ref k0, .int p0, .int p1, .ref o0] (mpre D [(aI, .int), (aL, .long), (aZ, .boolean)] [(k0, .inr (4, [.ref h4, lo, up, .int powered, .int stepsDone])), (o0, .inl (aL, 1, .inr (.inl of)))] sz)) ((fun A : Nat → Prop => va_Qi (fun (r : Int32) (u : Unit) => F_h_go_x = r) (mpst D A (fun (u : Unit) => [(k0, .inr (4, [.ref h4, lo, up, .int powered, .int stepsDone])), (o0, .inl (aL, 1, .inr (.inl of)))])) A) (va_A ([(k0, .inr (4, [.ref h4, lo, up, .int powered, .int stepsDone])), (o0, .inl (aL, 1, .inr (.inl of)))]) sz)) 1 6 (va_A ([(k0, .inr (4, [.ref h4, lo, up, .int powered, .int stepsDone])), (o0, .inl (aL, 1, .inr (.inl of)))]) sz) := by
  refine enh (cc := cL_go) (maxL := 5) (ret := (some .int)) (Qc := (fun A : Nat → Prop => va_Qi (fun (r : Int32) (u : Unit) => F_h_go_x = r) (mpst D A (fun (u : Unit) => [(k0, .inr (4, [.ref h4, lo, up, .int powered, .int stepsDone])), (o0, .inl (aL, 1, .inr (.inl of)))])) A)) (by decide) rfl (Nat.le_of_ble_eq_true rfl) ?_
  intro p e s m args below meth c A ls Q hQ hx hb hr hts hown hlk hnm hml htab hA hS hP hK hD hE hl
  have hown : s.vm.findClass RL = some m.cls := hown
  have hl : lv_has ls 5 [(0, .ref k0), (1, .int p0), (2, .int p1), (3, .ref o0)] := hl
  have hG := F_h_go_x_u
  refine lv_aload_n hx hb dL_go_0 rfl (lv_at hl 3 rfl) ?_
  refine lv_iconst (v := 0) hx hb dL_go_1 (by decide) ?_
  refine lv_aload_n hx hb dL_go_2 rfl (lv_at hl 0 rfl) ?_
  refine lv_iload_n hx hb dL_go_3 rfl (lv_at hl 1 rfl) ?_
  refine lv_iload_n hx hb dL_go_4 rfl (lv_at hl 2 rfl) ?_
  refine my_ci (wr := [(o0, .inl (aL, 1, .inr (.inl of)))]) [0] [1] (vx_runV (As := [.int p0, .int p1]) (rest := [.int 0, .ref o0]) ⟨hx, hb, hml, hown, hts⟩ (c_go_x l hl9 D aI aL aZ _ k0 h4 powered stepsDone lo up p0 p1 h9 h8) (cwV 2 hts (gV w_418 w_419 w_420 w_35 w_421) rfl rfl rfl (by decide +kernel) ⟨Nat.le_of_ble_eq_true rfl, Nat.le_of_ble_eq_true rfl⟩) (prev_of hK hP hD hS hA hE [0] rfl (by decide) (ci := 4) rfl 0 rfl _) rfl rfl hl.1 rfl (lv_room (Nat.le_of_ble_eq_true rfl)) dL_go_5 ⟨Nat.le_of_ble_eq_true rfl, Nat.le_of_ble_eq_true rfl⟩) hP hD hS hA rfl rfl (by decide) (by decide) (fun E ce q9 u H locs hw hEx hP hD hS hce hcv hcl => ?_) (fun r_1 u_ H locs hw_2 hP hD hS => ?_)
  · obtain ⟨hw, hu⟩ := hw
    have htab : c.exceptionTable.toList = [⟨0, 10, 13, 13⟩, ⟨0, 10, 17, 15⟩] := htab
    subst hu
    have hG := hG.trans (ch_1 hw)
    refine my_h1 (u := 1) hown htab (by decide) (by decide) (hts _ (mG w_105)) hE hEx hce hcv hcl ?_
    have hP : va_P D vwCl [(o0, .inl (aL, 1, .inr (.inl of))), (k0, .inr (4, [.ref h4, lo, up, .int powered, .int stepsDone]))] H := hP
    have hD : va_D A [(o0, .inl (aL, 1, .inr (.inl of))), (k0, .inr (4, [.ref h4, lo, up, .int powered, .int stepsDone]))] := hD
    refine lv_astore (lv' := [(4, .ref q9), (0, .ref k0), (1, .int p0), (2, .int p1), (3, .ref o0)]) hx hb dL_go_13 hl (by decide) rfl (fun ls hl => ?_)
    refine lv_iconst (v := 1) hx hb dL_go_15 (by decide) ?_
    have hP := hP.sub (ws' := [(k0, .inr (4, [.ref h4, lo, up, .int powered, .int stepsDone])), (o0, .inl (aL, 1, .inr (.inl of)))]) [1, 0] rfl
    have hD := hD.sub (ws' := [(k0, .inr (4, [.ref h4, lo, up, .int powered, .int stepsDone])), (o0, .inl (aL, 1, .inr (.inl of)))]) [1, 0] (by decide) rfl
    exact rt_i hQ hx hb hr () hG hP hD hS (Nat.le_of_ble_eq_true rfl) (Nat.le_of_ble_eq_true rfl) dL_go_16 hlk
  · skip
    exact False.elim hw_2
theorem dL_open_0 : decode cL_open 0 = .ok (.aload_n 2, 1) := by decide +kernel
theorem dL_open_1 : decode cL_open 1 = .ok (.iconst 0, 1) := by decide +kernel
theorem dL_open_2 : decode cL_open 2 = .ok (.aload_n 0, 1) := by decide +kernel
theorem dL_open_3 : decode cL_open 3 = .ok (.iload_n 1, 1) := by decide +kernel
theorem dL_open_4 : decode cL_open 4 = .ok (.invokevirtual 38, 3) := by decide +kernel
theorem dL_open_7 : decode cL_open 7 = .ok (.ifCond .eq 7, 3) := by decide +kernel
theorem dL_open_10 : decode cL_open 10 = .ok (.lconst 1, 1) := by decide +kernel
theorem dL_open_11 : decode cL_open 11 = .ok (.goto 4, 3) := by decide +kernel
theorem dL_open_14 : decode cL_open 14 = .ok (.lconst 0, 1) := by decide +kernel
theorem dL_open_15 : decode cL_open 15 = .ok (.lastore, 1) := by decide +kernel
theorem dL_open_16 : decode cL_open 16 = .ok (.goto 9, 3) := by decide +kernel
theorem dL_open_19 : decode cL_open 19 = .ok (.astore_n 3, 1) := by decide +kernel
theorem dL_open_20 : decode cL_open 20 = .ok (.iconst 1, 1) := by decide +kernel
theorem dL_open_21 : decode cL_open 21 = .ok (.ireturn, 1) := by decide +kernel
theorem dL_open_22 : decode cL_open 22 = .ok (.astore_n 3, 1) := by decide +kernel
theorem dL_open_23 : decode cL_open 23 = .ok (.iconst 2, 1) := by decide +kernel
theorem dL_open_24 : decode cL_open 24 = .ok (.ireturn, 1) := by decide +kernel
theorem dL_open_25 : decode cL_open 25 = .ok (.iconst 0, 1) := by decide +kernel
theorem dL_open_26 : decode cL_open 26 = .ok (.ireturn, 1) := by decide +kernel
def F_h_open_0 (place : Int32) (speed : Int32) (dstate : Int32) (dob : Int32) (doc : Int32) (n : Nat) (pf : Nat → Int32) (of : Nat → Int64) : Int32 × Int32 × Int32 × Int32 × (Nat → Int64) :=
  ch (F_open_0 place speed dstate dob doc n pf)
    ((2, dstate, dob, doc, of))
    ((2, dstate, dob, doc, of)) fun (r_1, x_2, x_3, x_4) =>
    if r_1 = 0 then
      (0, x_2, x_3, x_4, (vp_updL of (0 : Int32).toNatClampNeg 0))
    else
      (0, x_2, x_3, x_4, (vp_updL of (0 : Int32).toNatClampNeg 1))
theorem F_h_open_0_u (place : Int32) (speed : Int32) (dstate : Int32) (dob : Int32) (doc : Int32) (n : Nat) (pf : Nat → Int32) (of : Nat → Int64) : F_h_open_0 place speed dstate dob doc n pf of =
  ((ch (F_open_0 place speed dstate dob doc n pf)
    ((2, dstate, dob, doc, of))
    ((2, dstate, dob, doc, of)) fun (r_1, x_2, x_3, x_4) =>
    if r_1 = 0 then
      (0, x_2, x_3, x_4, (vp_updL of (0 : Int32).toNatClampNeg 0))
    else
      (0, x_2, x_3, x_4, (vp_updL of (0 : Int32).toNatClampNeg 1))) : Int32 × Int32 × Int32 × Int32 × (Nat → Int64)) := rfl
set_option maxHeartbeats 4000000 in
set_option maxRecDepth 100000 in
theorem c_h_open_0 (l : Launch) (hl9 : l.stackTraces = false) (D : va_G) (aI aL aZ : ClassId) (sz : Nat) (k0 : Nat) (h4 : Nat) (powered : Int32) (stepsDone : Int32) (up : Value) (h0 : Nat) (h1 : Nat) (h2 : Nat) (wayToOther : Int32) (place : Int32) (speed : Int32) (way : Int32) (topSpeed : Int32) (gain : Int32) (brake : Int32) (darkSpeed : Int32) (rideSpeed : Int32) (kilos : Int32) (mostKilos : Int32) (openContacts : Int32) (fireFloor : Int32) (ride : Int32) (starts : Int32) (distance : Int32) (hardFalls : Int32) (dstate : Int32) (dplace : Int32) (dplaces : Int32) (dhold : Int32) (dsteps : Int32) (dbeam : Int32) (dob : Int32) (doc : Int32) (h5 : Nat) (gap : Int32) (n : Nat) (pf : Nat → Int32) (o0 : Nat) (of : Nat → Int64) (hn : n < 2 ^ 31) : Met l yL_open (.codeWith yL_open cL_open 4 (some .int) [(0, 16, 19, 13), (0, 16, 22, 15)] :: Gw) ({ frames := 7, cells := 1, slots := 6, locals := 114 }) (va_Pc [.ref k0, .int 0, .ref o0] (mpre D [(aI, .int), (aL, .long), (aZ, .boolean)] [(k0, .inr (4, [.ref h4, .ref h0, up, .int powered, .int stepsDone])), (h0, .inr (1, [.int wayToOther, .ref h1, .ref h2, .int place, .int speed, .int way, .int topSpeed, .int gain, .int brake, .int darkSpeed, .int rideSpeed, .int kilos, .int mostKilos, .int openContacts, .int fireFloor, .int ride, .int starts, .int distance, .int hardFalls])), (h1, .inr (2, [.int dstate, .int dplace, .int dplaces, .int dhold, .int dsteps, .int dbeam, .int dob, .int doc])), (h4, .inr (3, [.ref h5, .int gap])), (h5, .inl (aI, n, .inl pf)), (o0, .inl (aL, 1, .inr (.inl of)))] sz)) ((fun A : Nat → Prop => va_Qi (fun (r : Int32) (u : Int32 × Int32 × Int32 × (Nat → Int64)) => match u with | (u0, u1, u2, u3) => F_h_open_0 place speed dstate dob doc n pf of = (r, u0, u1, u2, u3)) (mpst D A (fun (u : Int32 × Int32 × Int32 × (Nat → Int64)) => match u with | (u0, u1, u2, u3) => [(k0, .inr (4, [.ref h4, .ref h0, up, .int powered, .int stepsDone])), (h0, .inr (1, [.int wayToOther, .ref h1, .ref h2, .int place, .int speed, .int way, .int topSpeed, .int gain, .int brake, .int darkSpeed, .int rideSpeed, .int kilos, .int mostKilos, .int openContacts, .int fireFloor, .int ride, .int starts, .int distance, .int hardFalls])), (h1, .inr (2, [.int u0, .int dplace, .int dplaces, .int dhold, .int dsteps, .int dbeam, .int u1, .int u2])), (h4, .inr (3, [.ref h5, .int gap])), (h5, .inl (aI, n, .inl pf)), (o0, .inl (aL, 1, .inr (.inl u3)))])) A) (va_A ([(k0, .inr (4, [.ref h4, .ref h0, up, .int powered, .int stepsDone])), (h0, .inr (1, [.int wayToOther, .ref h1, .ref h2, .int place, .int speed, .int way, .int topSpeed, .int gain, .int brake, .int darkSpeed, .int rideSpeed, .int kilos, .int mostKilos, .int openContacts, .int fireFloor, .int ride, .int starts, .int distance, .int hardFalls])), (h1, .inr (2, [.int dstate, .int dplace, .int dplaces, .int dhold, .int dsteps, .int dbeam, .int dob, .int doc])), (h4, .inr (3, [.ref h5, .int gap])), (h5, .inl (aI, n, .inl pf)), (o0, .inl (aL, 1, .inr (.inl of)))]) sz)) 1 6 (va_A ([(k0, .inr (4, [.ref h4, .ref h0, up, .int powered, .int stepsDone])), (h0, .inr (1, [.int wayToOther, .ref h1, .ref h2, .int place, .int speed, .int way, .int topSpeed, .int gain, .int brake, .int darkSpeed, .int rideSpeed, .int kilos, .int mostKilos, .int openContacts, .int fireFloor, .int ride, .int starts, .int distance, .int hardFalls])), (h1, .inr (2, [.int dstate, .int dplace, .int dplaces, .int dhold, .int dsteps, .int dbeam, .int dob, .int doc])), (h4, .inr (3, [.ref h5, .int gap])), (h5, .inl (aI, n, .inl pf)), (o0, .inl (aL, 1, .inr (.inl of)))]) sz) := by
  refine enh (cc := cL_open) (maxL := 4) (ret := (some .int)) (Qc := (fun A : Nat → Prop => va_Qi (fun (r : Int32) (u : Int32 × Int32 × Int32 × (Nat → Int64)) => match u with | (u0, u1, u2, u3) => F_h_open_0 place speed dstate dob doc n pf of = (r, u0, u1, u2, u3)) (mpst D A (fun (u : Int32 × Int32 × Int32 × (Nat → Int64)) => match u with | (u0, u1, u2, u3) => [(k0, .inr (4, [.ref h4, .ref h0, up, .int powered, .int stepsDone])), (h0, .inr (1, [.int wayToOther, .ref h1, .ref h2, .int place, .int speed, .int way, .int topSpeed, .int gain, .int brake, .int darkSpeed, .int rideSpeed, .int kilos, .int mostKilos, .int openContacts, .int fireFloor, .int ride, .int starts, .int distance, .int hardFalls])), (h1, .inr (2, [.int u0, .int dplace, .int dplaces, .int dhold, .int dsteps, .int dbeam, .int u1, .int u2])), (h4, .inr (3, [.ref h5, .int gap])), (h5, .inl (aI, n, .inl pf)), (o0, .inl (aL, 1, .inr (.inl u3)))])) A)) (by decide) rfl (Nat.le_of_ble_eq_true rfl) ?_
  intro p e s m args below meth c A ls Q hQ hx hb hr hts hown hlk hnm hml htab hA hS hP hK hD hE hl
  have hown : s.vm.findClass RL = some m.cls := hown
  have hl : lv_has ls 4 [(0, .ref k0), (1, .int 0), (2, .ref o0)] := hl
  have hG := F_h_open_0_u place speed dstate dob doc n pf of
  refine lv_aload_n hx hb dL_open_0 rfl (lv_at hl 2 rfl) ?_
  refine lv_iconst (v := 0) hx hb dL_open_1 (by decide) ?_
  refine lv_aload_n hx hb dL_open_2 rfl (lv_at hl 0 rfl) ?_
  refine lv_iload_n hx hb dL_open_3 rfl (lv_at hl 1 rfl) ?_
  refine my_ci (wr := [(o0, .inl (aL, 1, .inr (.inl of)))]) [0, 1, 2, 3, 4] [5] (vx_runV (As := [.int 0]) (rest := [.int 0, .ref o0]) ⟨hx, hb, hml, hown, hts⟩ (c_open_0 l hl9 D aI aL aZ _ k0 h4 powered stepsDone up h0 h1 h2 wayToOther place speed way topSpeed gain brake darkSpeed rideSpeed kilos mostKilos openContacts fireFloor ride starts distance hardFalls dstate dplace dplaces dhold dsteps dbeam dob doc h5 gap n pf hn) (cwV 1 hts (gV w_430 w_431 w_432 w_35 w_433) rfl rfl rfl (by decide +kernel) ⟨Nat.le_of_ble_eq_true rfl, Nat.le_of_ble_eq_true rfl⟩) (prev_of hK hP hD hS hA hE [0, 1, 2, 3, 4] rfl (by decide) (ci := 4) rfl 0 rfl _) rfl rfl hl.1 rfl (lv_room (Nat.le_of_ble_eq_true rfl)) dL_open_4 ⟨Nat.le_of_ble_eq_true rfl, Nat.le_of_ble_eq_true rfl⟩) hP hD hS hA rfl rfl (by decide) (by decide) (fun E ce q9 u H locs hw hEx hP hD hS hce hcv hcl => ?_) (fun r_1 u_ H locs hw_5 hP hD hS => ?_)
  · obtain ⟨hw, hu⟩ := hw
    have htab : c.exceptionTable.toList = [⟨0, 16, 19, 13⟩, ⟨0, 16, 22, 15⟩] := htab
    subst hu
    have hG := hG.trans (ch_2 hw)
    refine my_h2 (u := 2) hown htab (by decide) (by decide) (by decide) (hts _ (mG w_105)) (hts _ (mG w_106)) hE hEx hce hcv hcl ?_
    have hP : va_P D vwCl [(o0, .inl (aL, 1, .inr (.inl of))), (k0, .inr (4, [.ref h4, .ref h0, up, .int powered, .int stepsDone])), (h0, .inr (1, [.int wayToOther, .ref h1, .ref h2, .int place, .int speed, .int way, .int topSpeed, .int gain, .int brake, .int darkSpeed, .int rideSpeed, .int kilos, .int mostKilos, .int openContacts, .int fireFloor, .int ride, .int starts, .int distance, .int hardFalls])), (h1, .inr (2, [.int dstate, .int dplace, .int dplaces, .int dhold, .int dsteps, .int dbeam, .int dob, .int doc])), (h4, .inr (3, [.ref h5, .int gap])), (h5, .inl (aI, n, .inl pf))] H := hP
    have hD : va_D A [(o0, .inl (aL, 1, .inr (.inl of))), (k0, .inr (4, [.ref h4, .ref h0, up, .int powered, .int stepsDone])), (h0, .inr (1, [.int wayToOther, .ref h1, .ref h2, .int place, .int speed, .int way, .int topSpeed, .int gain, .int brake, .int darkSpeed, .int rideSpeed, .int kilos, .int mostKilos, .int openContacts, .int fireFloor, .int ride, .int starts, .int distance, .int hardFalls])), (h1, .inr (2, [.int dstate, .int dplace, .int dplaces, .int dhold, .int dsteps, .int dbeam, .int dob, .int doc])), (h4, .inr (3, [.ref h5, .int gap])), (h5, .inl (aI, n, .inl pf))] := hD
    refine lv_astore_n (lv' := [(3, .ref q9), (0, .ref k0), (1, .int 0), (2, .ref o0)]) hx hb dL_open_22 rfl hl (by decide) rfl (fun ls hl => ?_)
    refine lv_iconst (v := 2) hx hb dL_open_23 (by decide) ?_
    have hP := hP.sub (ws' := [(k0, .inr (4, [.ref h4, .ref h0, up, .int powered, .int stepsDone])), (h0, .inr (1, [.int wayToOther, .ref h1, .ref h2, .int place, .int speed, .int way, .int topSpeed, .int gain, .int brake, .int darkSpeed, .int rideSpeed, .int kilos, .int mostKilos, .int openContacts, .int fireFloor, .int ride, .int starts, .int distance, .int hardFalls])), (h1, .inr (2, [.int dstate, .int dplace, .int dplaces, .int dhold, .int dsteps, .int dbeam, .int dob, .int doc])), (h4, .inr (3, [.ref h5, .int gap])), (h5, .inl (aI, n, .inl pf)), (o0, .inl (aL, 1, .inr (.inl of)))]) [1, 2, 3, 4, 5, 0] rfl
    have hD := hD.sub (ws' := [(k0, .inr (4, [.ref h4, .ref h0, up, .int powered, .int stepsDone])), (h0, .inr (1, [.int wayToOther, .ref h1, .ref h2, .int place, .int speed, .int way, .int topSpeed, .int gain, .int brake, .int darkSpeed, .int rideSpeed, .int kilos, .int mostKilos, .int openContacts, .int fireFloor, .int ride, .int starts, .int distance, .int hardFalls])), (h1, .inr (2, [.int dstate, .int dplace, .int dplaces, .int dhold, .int dsteps, .int dbeam, .int dob, .int doc])), (h4, .inr (3, [.ref h5, .int gap])), (h5, .inl (aI, n, .inl pf)), (o0, .inl (aL, 1, .inr (.inl of)))]) [1, 2, 3, 4, 5, 0] (by decide) rfl
    exact rt_i hQ hx hb hr (dstate, dob, doc, of) hG hP hD hS (Nat.le_of_ble_eq_true rfl) (Nat.le_of_ble_eq_true rfl) dL_open_24 hlk
  · skip
    obtain ⟨x_2, x_3, x_4⟩ := u_
    have hw_5 : F_open_0 place speed dstate dob doc n pf = .inr (r_1, x_2, x_3, x_4) ∧ nb r_1 := hw_5
    have hG := hG.trans (ch_r hw_5.1)
    have hP : va_P D vwCl [(o0, .inl (aL, 1, .inr (.inl of))), (k0, .inr (4, [.ref h4, .ref h0, up, .int powered, .int stepsDone])), (h0, .inr (1, [.int wayToOther, .ref h1, .ref h2, .int place, .int speed, .int way, .int topSpeed, .int gain, .int brake, .int darkSpeed, .int rideSpeed, .int kilos, .int mostKilos, .int openContacts, .int fireFloor, .int ride, .int starts, .int distance, .int hardFalls])), (h1, .inr (2, [.int x_2, .int dplace, .int dplaces, .int dhold, .int dsteps, .int dbeam, .int x_3, .int x_4])), (h4, .inr (3, [.ref h5, .int gap])), (h5, .inl (aI, n, .inl pf))] H := hP
    have hD : va_D A [(o0, .inl (aL, 1, .inr (.inl of))), (k0, .inr (4, [.ref h4, .ref h0, up, .int powered, .int stepsDone])), (h0, .inr (1, [.int wayToOther, .ref h1, .ref h2, .int place, .int speed, .int way, .int topSpeed, .int gain, .int brake, .int darkSpeed, .int rideSpeed, .int kilos, .int mostKilos, .int openContacts, .int fireFloor, .int ride, .int starts, .int distance, .int hardFalls])), (h1, .inr (2, [.int x_2, .int dplace, .int dplaces, .int dhold, .int dsteps, .int dbeam, .int x_3, .int x_4])), (h4, .inr (3, [.ref h5, .int gap])), (h5, .inl (aI, n, .inl pf))] := hD
    refine lv_if_eq (tgt := 14) hx hb dL_open_7 (by decide) (fun c_6 => ?_) (fun c_6 => ?_)
    · have hG := hG.trans (if_pos c_6)
      refine lv_lconst (v := 0) hx hb dL_open_14 (by decide) ?_
      refine va_last hx hb hK hP hD hS 0 1 rfl rfl (by unfold vp_in; decide) dL_open_15 (fun H locs hP hD hS => ?_)
      have hP : va_P D vwCl [(o0, .inl (aL, 1, .inr (.inl (vp_updL of (0 : Int32).toNatClampNeg 0)))), (k0, .inr (4, [.ref h4, .ref h0, up, .int powered, .int stepsDone])), (h0, .inr (1, [.int wayToOther, .ref h1, .ref h2, .int place, .int speed, .int way, .int topSpeed, .int gain, .int brake, .int darkSpeed, .int rideSpeed, .int kilos, .int mostKilos, .int openContacts, .int fireFloor, .int ride, .int starts, .int distance, .int hardFalls])), (h1, .inr (2, [.int x_2, .int dplace, .int dplaces, .int dhold, .int dsteps, .int dbeam, .int x_3, .int x_4])), (h4, .inr (3, [.ref h5, .int gap])), (h5, .inl (aI, n, .inl pf))] H := hP
      have hD : va_D A [(o0, .inl (aL, 1, .inr (.inl (vp_updL of (0 : Int32).toNatClampNeg 0)))), (k0, .inr (4, [.ref h4, .ref h0, up, .int powered, .int stepsDone])), (h0, .inr (1, [.int wayToOther, .ref h1, .ref h2, .int place, .int speed, .int way, .int topSpeed, .int gain, .int brake, .int darkSpeed, .int rideSpeed, .int kilos, .int mostKilos, .int openContacts, .int fireFloor, .int ride, .int starts, .int distance, .int hardFalls])), (h1, .inr (2, [.int x_2, .int dplace, .int dplaces, .int dhold, .int dsteps, .int dbeam, .int x_3, .int x_4])), (h4, .inr (3, [.ref h5, .int gap])), (h5, .inl (aI, n, .inl pf))] := hD
      refine lv_goto (tgt := 25) hx hb dL_open_16 (by decide) ?_
      refine lv_iconst (v := 0) hx hb dL_open_25 (by decide) ?_
      have hP := hP.sub (ws' := [(k0, .inr (4, [.ref h4, .ref h0, up, .int powered, .int stepsDone])), (h0, .inr (1, [.int wayToOther, .ref h1, .ref h2, .int place, .int speed, .int way, .int topSpeed, .int gain, .int brake, .int darkSpeed, .int rideSpeed, .int kilos, .int mostKilos, .int openContacts, .int fireFloor, .int ride, .int starts, .int distance, .int hardFalls])), (h1, .inr (2, [.int x_2, .int dplace, .int dplaces, .int dhold, .int dsteps, .int dbeam, .int x_3, .int x_4])), (h4, .inr (3, [.ref h5, .int gap])), (h5, .inl (aI, n, .inl pf)), (o0, .inl (aL, 1, .inr (.inl (vp_updL of (0 : Int32).toNatClampNeg 0))))]) [1, 2, 3, 4, 5, 0] rfl
      have hD := hD.sub (ws' := [(k0, .inr (4, [.ref h4, .ref h0, up, .int powered, .int stepsDone])), (h0, .inr (1, [.int wayToOther, .ref h1, .ref h2, .int place, .int speed, .int way, .int topSpeed, .int gain, .int brake, .int darkSpeed, .int rideSpeed, .int kilos, .int mostKilos, .int openContacts, .int fireFloor, .int ride, .int starts, .int distance, .int hardFalls])), (h1, .inr (2, [.int x_2, .int dplace, .int dplaces, .int dhold, .int dsteps, .int dbeam, .int x_3, .int x_4])), (h4, .inr (3, [.ref h5, .int gap])), (h5, .inl (aI, n, .inl pf)), (o0, .inl (aL, 1, .inr (.inl (vp_updL of (0 : Int32).toNatClampNeg 0))))]) [1, 2, 3, 4, 5, 0] (by decide) rfl
      exact rt_i hQ hx hb hr (x_2, x_3, x_4, (vp_updL of (0 : Int32).toNatClampNeg 0)) hG hP hD hS (Nat.le_of_ble_eq_true rfl) (Nat.le_of_ble_eq_true rfl) dL_open_26 hlk
    · have hG := hG.trans (if_neg c_6)
      refine lv_lconst (v := 1) hx hb dL_open_10 (by decide) ?_
      refine lv_goto (tgt := 15) hx hb dL_open_11 (by decide) ?_
      refine va_last hx hb hK hP hD hS 0 1 rfl rfl (by unfold vp_in; decide) dL_open_15 (fun H locs hP hD hS => ?_)
      have hP : va_P D vwCl [(o0, .inl (aL, 1, .inr (.inl (vp_updL of (0 : Int32).toNatClampNeg 1)))), (k0, .inr (4, [.ref h4, .ref h0, up, .int powered, .int stepsDone])), (h0, .inr (1, [.int wayToOther, .ref h1, .ref h2, .int place, .int speed, .int way, .int topSpeed, .int gain, .int brake, .int darkSpeed, .int rideSpeed, .int kilos, .int mostKilos, .int openContacts, .int fireFloor, .int ride, .int starts, .int distance, .int hardFalls])), (h1, .inr (2, [.int x_2, .int dplace, .int dplaces, .int dhold, .int dsteps, .int dbeam, .int x_3, .int x_4])), (h4, .inr (3, [.ref h5, .int gap])), (h5, .inl (aI, n, .inl pf))] H := hP
      have hD : va_D A [(o0, .inl (aL, 1, .inr (.inl (vp_updL of (0 : Int32).toNatClampNeg 1)))), (k0, .inr (4, [.ref h4, .ref h0, up, .int powered, .int stepsDone])), (h0, .inr (1, [.int wayToOther, .ref h1, .ref h2, .int place, .int speed, .int way, .int topSpeed, .int gain, .int brake, .int darkSpeed, .int rideSpeed, .int kilos, .int mostKilos, .int openContacts, .int fireFloor, .int ride, .int starts, .int distance, .int hardFalls])), (h1, .inr (2, [.int x_2, .int dplace, .int dplaces, .int dhold, .int dsteps, .int dbeam, .int x_3, .int x_4])), (h4, .inr (3, [.ref h5, .int gap])), (h5, .inl (aI, n, .inl pf))] := hD
      refine lv_goto (tgt := 25) hx hb dL_open_16 (by decide) ?_
      refine lv_iconst (v := 0) hx hb dL_open_25 (by decide) ?_
      have hP := hP.sub (ws' := [(k0, .inr (4, [.ref h4, .ref h0, up, .int powered, .int stepsDone])), (h0, .inr (1, [.int wayToOther, .ref h1, .ref h2, .int place, .int speed, .int way, .int topSpeed, .int gain, .int brake, .int darkSpeed, .int rideSpeed, .int kilos, .int mostKilos, .int openContacts, .int fireFloor, .int ride, .int starts, .int distance, .int hardFalls])), (h1, .inr (2, [.int x_2, .int dplace, .int dplaces, .int dhold, .int dsteps, .int dbeam, .int x_3, .int x_4])), (h4, .inr (3, [.ref h5, .int gap])), (h5, .inl (aI, n, .inl pf)), (o0, .inl (aL, 1, .inr (.inl (vp_updL of (0 : Int32).toNatClampNeg 1))))]) [1, 2, 3, 4, 5, 0] rfl
      have hD := hD.sub (ws' := [(k0, .inr (4, [.ref h4, .ref h0, up, .int powered, .int stepsDone])), (h0, .inr (1, [.int wayToOther, .ref h1, .ref h2, .int place, .int speed, .int way, .int topSpeed, .int gain, .int brake, .int darkSpeed, .int rideSpeed, .int kilos, .int mostKilos, .int openContacts, .int fireFloor, .int ride, .int starts, .int distance, .int hardFalls])), (h1, .inr (2, [.int x_2, .int dplace, .int dplaces, .int dhold, .int dsteps, .int dbeam, .int x_3, .int x_4])), (h4, .inr (3, [.ref h5, .int gap])), (h5, .inl (aI, n, .inl pf)), (o0, .inl (aL, 1, .inr (.inl (vp_updL of (0 : Int32).toNatClampNeg 1))))]) [1, 2, 3, 4, 5, 0] (by decide) rfl
      exact rt_i hQ hx hb hr (x_2, x_3, x_4, (vp_updL of (0 : Int32).toNatClampNeg 1)) hG hP hD hS (Nat.le_of_ble_eq_true rfl) (Nat.le_of_ble_eq_true rfl) dL_open_26 hlk
def F_h_open_1 (place : Int32) (speed : Int32) (dstate : Int32) (dob : Int32) (doc : Int32) (n : Nat) (pf : Nat → Int32) (of : Nat → Int64) : Int32 × Int32 × Int32 × Int32 × (Nat → Int64) :=
  ch (F_open_1 place speed dstate dob doc n pf)
    ((2, dstate, dob, doc, of))
    ((2, dstate, dob, doc, of)) fun (r_1, x_2, x_3, x_4) =>
    if r_1 = 0 then
      (0, x_2, x_3, x_4, (vp_updL of (0 : Int32).toNatClampNeg 0))
    else
      (0, x_2, x_3, x_4, (vp_updL of (0 : Int32).toNatClampNeg 1))
theorem F_h_open_1_u (place : Int32) (speed : Int32) (dstate : Int32) (dob : Int32) (doc : Int32) (n : Nat) (pf : Nat → Int32) (of : Nat → Int64) : F_h_open_1 place speed dstate dob doc n pf of =
  ((ch (F_open_1 place speed dstate dob doc n pf)
    ((2, dstate, dob, doc, of))
    ((2, dstate, dob, doc, of)) fun (r_1, x_2, x_3, x_4) =>
    if r_1 = 0 then
      (0, x_2, x_3, x_4, (vp_updL of (0 : Int32).toNatClampNeg 0))
    else
      (0, x_2, x_3, x_4, (vp_updL of (0 : Int32).toNatClampNeg 1))) : Int32 × Int32 × Int32 × Int32 × (Nat → Int64)) := rfl
set_option maxHeartbeats 4000000 in
set_option maxRecDepth 100000 in
theorem c_h_open_1 (l : Launch) (hl9 : l.stackTraces = false) (D : va_G) (aI aL aZ : ClassId) (sz : Nat) (k0 : Nat) (h4 : Nat) (powered : Int32) (stepsDone : Int32) (lo : Value) (h0 : Nat) (h1 : Nat) (h2 : Nat) (wayToOther : Int32) (place : Int32) (speed : Int32) (way : Int32) (topSpeed : Int32) (gain : Int32) (brake : Int32) (darkSpeed : Int32) (rideSpeed : Int32) (kilos : Int32) (mostKilos : Int32) (openContacts : Int32) (fireFloor : Int32) (ride : Int32) (starts : Int32) (distance : Int32) (hardFalls : Int32) (dstate : Int32) (dplace : Int32) (dplaces : Int32) (dhold : Int32) (dsteps : Int32) (dbeam : Int32) (dob : Int32) (doc : Int32) (h5 : Nat) (gap : Int32) (n : Nat) (pf : Nat → Int32) (o0 : Nat) (of : Nat → Int64) (hn : n < 2 ^ 31) : Met l yL_open (.codeWith yL_open cL_open 4 (some .int) [(0, 16, 19, 13), (0, 16, 22, 15)] :: Gw) ({ frames := 7, cells := 1, slots := 6, locals := 114 }) (va_Pc [.ref k0, .int 1, .ref o0] (mpre D [(aI, .int), (aL, .long), (aZ, .boolean)] [(k0, .inr (4, [.ref h4, lo, .ref h0, .int powered, .int stepsDone])), (h0, .inr (1, [.int wayToOther, .ref h1, .ref h2, .int place, .int speed, .int way, .int topSpeed, .int gain, .int brake, .int darkSpeed, .int rideSpeed, .int kilos, .int mostKilos, .int openContacts, .int fireFloor, .int ride, .int starts, .int distance, .int hardFalls])), (h1, .inr (2, [.int dstate, .int dplace, .int dplaces, .int dhold, .int dsteps, .int dbeam, .int dob, .int doc])), (h4, .inr (3, [.ref h5, .int gap])), (h5, .inl (aI, n, .inl pf)), (o0, .inl (aL, 1, .inr (.inl of)))] sz)) ((fun A : Nat → Prop => va_Qi (fun (r : Int32) (u : Int32 × Int32 × Int32 × (Nat → Int64)) => match u with | (u0, u1, u2, u3) => F_h_open_1 place speed dstate dob doc n pf of = (r, u0, u1, u2, u3)) (mpst D A (fun (u : Int32 × Int32 × Int32 × (Nat → Int64)) => match u with | (u0, u1, u2, u3) => [(k0, .inr (4, [.ref h4, lo, .ref h0, .int powered, .int stepsDone])), (h0, .inr (1, [.int wayToOther, .ref h1, .ref h2, .int place, .int speed, .int way, .int topSpeed, .int gain, .int brake, .int darkSpeed, .int rideSpeed, .int kilos, .int mostKilos, .int openContacts, .int fireFloor, .int ride, .int starts, .int distance, .int hardFalls])), (h1, .inr (2, [.int u0, .int dplace, .int dplaces, .int dhold, .int dsteps, .int dbeam, .int u1, .int u2])), (h4, .inr (3, [.ref h5, .int gap])), (h5, .inl (aI, n, .inl pf)), (o0, .inl (aL, 1, .inr (.inl u3)))])) A) (va_A ([(k0, .inr (4, [.ref h4, lo, .ref h0, .int powered, .int stepsDone])), (h0, .inr (1, [.int wayToOther, .ref h1, .ref h2, .int place, .int speed, .int way, .int topSpeed, .int gain, .int brake, .int darkSpeed, .int rideSpeed, .int kilos, .int mostKilos, .int openContacts, .int fireFloor, .int ride, .int starts, .int distance, .int hardFalls])), (h1, .inr (2, [.int dstate, .int dplace, .int dplaces, .int dhold, .int dsteps, .int dbeam, .int dob, .int doc])), (h4, .inr (3, [.ref h5, .int gap])), (h5, .inl (aI, n, .inl pf)), (o0, .inl (aL, 1, .inr (.inl of)))]) sz)) 1 6 (va_A ([(k0, .inr (4, [.ref h4, lo, .ref h0, .int powered, .int stepsDone])), (h0, .inr (1, [.int wayToOther, .ref h1, .ref h2, .int place, .int speed, .int way, .int topSpeed, .int gain, .int brake, .int darkSpeed, .int rideSpeed, .int kilos, .int mostKilos, .int openContacts, .int fireFloor, .int ride, .int starts, .int distance, .int hardFalls])), (h1, .inr (2, [.int dstate, .int dplace, .int dplaces, .int dhold, .int dsteps, .int dbeam, .int dob, .int doc])), (h4, .inr (3, [.ref h5, .int gap])), (h5, .inl (aI, n, .inl pf)), (o0, .inl (aL, 1, .inr (.inl of)))]) sz) := by
  refine enh (cc := cL_open) (maxL := 4) (ret := (some .int)) (Qc := (fun A : Nat → Prop => va_Qi (fun (r : Int32) (u : Int32 × Int32 × Int32 × (Nat → Int64)) => match u with | (u0, u1, u2, u3) => F_h_open_1 place speed dstate dob doc n pf of = (r, u0, u1, u2, u3)) (mpst D A (fun (u : Int32 × Int32 × Int32 × (Nat → Int64)) => match u with | (u0, u1, u2, u3) => [(k0, .inr (4, [.ref h4, lo, .ref h0, .int powered, .int stepsDone])), (h0, .inr (1, [.int wayToOther, .ref h1, .ref h2, .int place, .int speed, .int way, .int topSpeed, .int gain, .int brake, .int darkSpeed, .int rideSpeed, .int kilos, .int mostKilos, .int openContacts, .int fireFloor, .int ride, .int starts, .int distance, .int hardFalls])), (h1, .inr (2, [.int u0, .int dplace, .int dplaces, .int dhold, .int dsteps, .int dbeam, .int u1, .int u2])), (h4, .inr (3, [.ref h5, .int gap])), (h5, .inl (aI, n, .inl pf)), (o0, .inl (aL, 1, .inr (.inl u3)))])) A)) (by decide) rfl (Nat.le_of_ble_eq_true rfl) ?_
  intro p e s m args below meth c A ls Q hQ hx hb hr hts hown hlk hnm hml htab hA hS hP hK hD hE hl
  have hown : s.vm.findClass RL = some m.cls := hown
  have hl : lv_has ls 4 [(0, .ref k0), (1, .int 1), (2, .ref o0)] := hl
  have hG := F_h_open_1_u place speed dstate dob doc n pf of
  refine lv_aload_n hx hb dL_open_0 rfl (lv_at hl 2 rfl) ?_
  refine lv_iconst (v := 0) hx hb dL_open_1 (by decide) ?_
  refine lv_aload_n hx hb dL_open_2 rfl (lv_at hl 0 rfl) ?_
  refine lv_iload_n hx hb dL_open_3 rfl (lv_at hl 1 rfl) ?_
  refine my_ci (wr := [(o0, .inl (aL, 1, .inr (.inl of)))]) [0, 1, 2, 3, 4] [5] (vx_runV (As := [.int 1]) (rest := [.int 0, .ref o0]) ⟨hx, hb, hml, hown, hts⟩ (c_open_1 l hl9 D aI aL aZ _ k0 h4 powered stepsDone lo h0 h1 h2 wayToOther place speed way topSpeed gain brake darkSpeed rideSpeed kilos mostKilos openContacts fireFloor ride starts distance hardFalls dstate dplace dplaces dhold dsteps dbeam dob doc h5 gap n pf hn) (cwV 1 hts (gV w_430 w_431 w_432 w_35 w_433) rfl rfl rfl (by decide +kernel) ⟨Nat.le_of_ble_eq_true rfl, Nat.le_of_ble_eq_true rfl⟩) (prev_of hK hP hD hS hA hE [0, 1, 2, 3, 4] rfl (by decide) (ci := 4) rfl 0 rfl _) rfl rfl hl.1 rfl (lv_room (Nat.le_of_ble_eq_true rfl)) dL_open_4 ⟨Nat.le_of_ble_eq_true rfl, Nat.le_of_ble_eq_true rfl⟩) hP hD hS hA rfl rfl (by decide) (by decide) (fun E ce q9 u H locs hw hEx hP hD hS hce hcv hcl => ?_) (fun r_1 u_ H locs hw_5 hP hD hS => ?_)
  · obtain ⟨hw, hu⟩ := hw
    have htab : c.exceptionTable.toList = [⟨0, 16, 19, 13⟩, ⟨0, 16, 22, 15⟩] := htab
    subst hu
    have hG := hG.trans (ch_2 hw)
    refine my_h2 (u := 2) hown htab (by decide) (by decide) (by decide) (hts _ (mG w_105)) (hts _ (mG w_106)) hE hEx hce hcv hcl ?_
    have hP : va_P D vwCl [(o0, .inl (aL, 1, .inr (.inl of))), (k0, .inr (4, [.ref h4, lo, .ref h0, .int powered, .int stepsDone])), (h0, .inr (1, [.int wayToOther, .ref h1, .ref h2, .int place, .int speed, .int way, .int topSpeed, .int gain, .int brake, .int darkSpeed, .int rideSpeed, .int kilos, .int mostKilos, .int openContacts, .int fireFloor, .int ride, .int starts, .int distance, .int hardFalls])), (h1, .inr (2, [.int dstate, .int dplace, .int dplaces, .int dhold, .int dsteps, .int dbeam, .int dob, .int doc])), (h4, .inr (3, [.ref h5, .int gap])), (h5, .inl (aI, n, .inl pf))] H := hP
    have hD : va_D A [(o0, .inl (aL, 1, .inr (.inl of))), (k0, .inr (4, [.ref h4, lo, .ref h0, .int powered, .int stepsDone])), (h0, .inr (1, [.int wayToOther, .ref h1, .ref h2, .int place, .int speed, .int way, .int topSpeed, .int gain, .int brake, .int darkSpeed, .int rideSpeed, .int kilos, .int mostKilos, .int openContacts, .int fireFloor, .int ride, .int starts, .int distance, .int hardFalls])), (h1, .inr (2, [.int dstate, .int dplace, .int dplaces, .int dhold, .int dsteps, .int dbeam, .int dob, .int doc])), (h4, .inr (3, [.ref h5, .int gap])), (h5, .inl (aI, n, .inl pf))] := hD
    refine lv_astore_n (lv' := [(3, .ref q9), (0, .ref k0), (1, .int 1), (2, .ref o0)]) hx hb dL_open_22 rfl hl (by decide) rfl (fun ls hl => ?_)
    refine lv_iconst (v := 2) hx hb dL_open_23 (by decide) ?_
    have hP := hP.sub (ws' := [(k0, .inr (4, [.ref h4, lo, .ref h0, .int powered, .int stepsDone])), (h0, .inr (1, [.int wayToOther, .ref h1, .ref h2, .int place, .int speed, .int way, .int topSpeed, .int gain, .int brake, .int darkSpeed, .int rideSpeed, .int kilos, .int mostKilos, .int openContacts, .int fireFloor, .int ride, .int starts, .int distance, .int hardFalls])), (h1, .inr (2, [.int dstate, .int dplace, .int dplaces, .int dhold, .int dsteps, .int dbeam, .int dob, .int doc])), (h4, .inr (3, [.ref h5, .int gap])), (h5, .inl (aI, n, .inl pf)), (o0, .inl (aL, 1, .inr (.inl of)))]) [1, 2, 3, 4, 5, 0] rfl
    have hD := hD.sub (ws' := [(k0, .inr (4, [.ref h4, lo, .ref h0, .int powered, .int stepsDone])), (h0, .inr (1, [.int wayToOther, .ref h1, .ref h2, .int place, .int speed, .int way, .int topSpeed, .int gain, .int brake, .int darkSpeed, .int rideSpeed, .int kilos, .int mostKilos, .int openContacts, .int fireFloor, .int ride, .int starts, .int distance, .int hardFalls])), (h1, .inr (2, [.int dstate, .int dplace, .int dplaces, .int dhold, .int dsteps, .int dbeam, .int dob, .int doc])), (h4, .inr (3, [.ref h5, .int gap])), (h5, .inl (aI, n, .inl pf)), (o0, .inl (aL, 1, .inr (.inl of)))]) [1, 2, 3, 4, 5, 0] (by decide) rfl
    exact rt_i hQ hx hb hr (dstate, dob, doc, of) hG hP hD hS (Nat.le_of_ble_eq_true rfl) (Nat.le_of_ble_eq_true rfl) dL_open_24 hlk
  · skip
    obtain ⟨x_2, x_3, x_4⟩ := u_
    have hw_5 : F_open_1 place speed dstate dob doc n pf = .inr (r_1, x_2, x_3, x_4) ∧ nb r_1 := hw_5
    have hG := hG.trans (ch_r hw_5.1)
    have hP : va_P D vwCl [(o0, .inl (aL, 1, .inr (.inl of))), (k0, .inr (4, [.ref h4, lo, .ref h0, .int powered, .int stepsDone])), (h0, .inr (1, [.int wayToOther, .ref h1, .ref h2, .int place, .int speed, .int way, .int topSpeed, .int gain, .int brake, .int darkSpeed, .int rideSpeed, .int kilos, .int mostKilos, .int openContacts, .int fireFloor, .int ride, .int starts, .int distance, .int hardFalls])), (h1, .inr (2, [.int x_2, .int dplace, .int dplaces, .int dhold, .int dsteps, .int dbeam, .int x_3, .int x_4])), (h4, .inr (3, [.ref h5, .int gap])), (h5, .inl (aI, n, .inl pf))] H := hP
    have hD : va_D A [(o0, .inl (aL, 1, .inr (.inl of))), (k0, .inr (4, [.ref h4, lo, .ref h0, .int powered, .int stepsDone])), (h0, .inr (1, [.int wayToOther, .ref h1, .ref h2, .int place, .int speed, .int way, .int topSpeed, .int gain, .int brake, .int darkSpeed, .int rideSpeed, .int kilos, .int mostKilos, .int openContacts, .int fireFloor, .int ride, .int starts, .int distance, .int hardFalls])), (h1, .inr (2, [.int x_2, .int dplace, .int dplaces, .int dhold, .int dsteps, .int dbeam, .int x_3, .int x_4])), (h4, .inr (3, [.ref h5, .int gap])), (h5, .inl (aI, n, .inl pf))] := hD
    refine lv_if_eq (tgt := 14) hx hb dL_open_7 (by decide) (fun c_6 => ?_) (fun c_6 => ?_)
    · have hG := hG.trans (if_pos c_6)
      refine lv_lconst (v := 0) hx hb dL_open_14 (by decide) ?_
      refine va_last hx hb hK hP hD hS 0 1 rfl rfl (by unfold vp_in; decide) dL_open_15 (fun H locs hP hD hS => ?_)
      have hP : va_P D vwCl [(o0, .inl (aL, 1, .inr (.inl (vp_updL of (0 : Int32).toNatClampNeg 0)))), (k0, .inr (4, [.ref h4, lo, .ref h0, .int powered, .int stepsDone])), (h0, .inr (1, [.int wayToOther, .ref h1, .ref h2, .int place, .int speed, .int way, .int topSpeed, .int gain, .int brake, .int darkSpeed, .int rideSpeed, .int kilos, .int mostKilos, .int openContacts, .int fireFloor, .int ride, .int starts, .int distance, .int hardFalls])), (h1, .inr (2, [.int x_2, .int dplace, .int dplaces, .int dhold, .int dsteps, .int dbeam, .int x_3, .int x_4])), (h4, .inr (3, [.ref h5, .int gap])), (h5, .inl (aI, n, .inl pf))] H := hP
      have hD : va_D A [(o0, .inl (aL, 1, .inr (.inl (vp_updL of (0 : Int32).toNatClampNeg 0)))), (k0, .inr (4, [.ref h4, lo, .ref h0, .int powered, .int stepsDone])), (h0, .inr (1, [.int wayToOther, .ref h1, .ref h2, .int place, .int speed, .int way, .int topSpeed, .int gain, .int brake, .int darkSpeed, .int rideSpeed, .int kilos, .int mostKilos, .int openContacts, .int fireFloor, .int ride, .int starts, .int distance, .int hardFalls])), (h1, .inr (2, [.int x_2, .int dplace, .int dplaces, .int dhold, .int dsteps, .int dbeam, .int x_3, .int x_4])), (h4, .inr (3, [.ref h5, .int gap])), (h5, .inl (aI, n, .inl pf))] := hD
      refine lv_goto (tgt := 25) hx hb dL_open_16 (by decide) ?_
      refine lv_iconst (v := 0) hx hb dL_open_25 (by decide) ?_
      have hP := hP.sub (ws' := [(k0, .inr (4, [.ref h4, lo, .ref h0, .int powered, .int stepsDone])), (h0, .inr (1, [.int wayToOther, .ref h1, .ref h2, .int place, .int speed, .int way, .int topSpeed, .int gain, .int brake, .int darkSpeed, .int rideSpeed, .int kilos, .int mostKilos, .int openContacts, .int fireFloor, .int ride, .int starts, .int distance, .int hardFalls])), (h1, .inr (2, [.int x_2, .int dplace, .int dplaces, .int dhold, .int dsteps, .int dbeam, .int x_3, .int x_4])), (h4, .inr (3, [.ref h5, .int gap])), (h5, .inl (aI, n, .inl pf)), (o0, .inl (aL, 1, .inr (.inl (vp_updL of (0 : Int32).toNatClampNeg 0))))]) [1, 2, 3, 4, 5, 0] rfl
      have hD := hD.sub (ws' := [(k0, .inr (4, [.ref h4, lo, .ref h0, .int powered, .int stepsDone])), (h0, .inr (1, [.int wayToOther, .ref h1, .ref h2, .int place, .int speed, .int way, .int topSpeed, .int gain, .int brake, .int darkSpeed, .int rideSpeed, .int kilos, .int mostKilos, .int openContacts, .int fireFloor, .int ride, .int starts, .int distance, .int hardFalls])), (h1, .inr (2, [.int x_2, .int dplace, .int dplaces, .int dhold, .int dsteps, .int dbeam, .int x_3, .int x_4])), (h4, .inr (3, [.ref h5, .int gap])), (h5, .inl (aI, n, .inl pf)), (o0, .inl (aL, 1, .inr (.inl (vp_updL of (0 : Int32).toNatClampNeg 0))))]) [1, 2, 3, 4, 5, 0] (by decide) rfl
      exact rt_i hQ hx hb hr (x_2, x_3, x_4, (vp_updL of (0 : Int32).toNatClampNeg 0)) hG hP hD hS (Nat.le_of_ble_eq_true rfl) (Nat.le_of_ble_eq_true rfl) dL_open_26 hlk
    · have hG := hG.trans (if_neg c_6)
      refine lv_lconst (v := 1) hx hb dL_open_10 (by decide) ?_
      refine lv_goto (tgt := 15) hx hb dL_open_11 (by decide) ?_
      refine va_last hx hb hK hP hD hS 0 1 rfl rfl (by unfold vp_in; decide) dL_open_15 (fun H locs hP hD hS => ?_)
      have hP : va_P D vwCl [(o0, .inl (aL, 1, .inr (.inl (vp_updL of (0 : Int32).toNatClampNeg 1)))), (k0, .inr (4, [.ref h4, lo, .ref h0, .int powered, .int stepsDone])), (h0, .inr (1, [.int wayToOther, .ref h1, .ref h2, .int place, .int speed, .int way, .int topSpeed, .int gain, .int brake, .int darkSpeed, .int rideSpeed, .int kilos, .int mostKilos, .int openContacts, .int fireFloor, .int ride, .int starts, .int distance, .int hardFalls])), (h1, .inr (2, [.int x_2, .int dplace, .int dplaces, .int dhold, .int dsteps, .int dbeam, .int x_3, .int x_4])), (h4, .inr (3, [.ref h5, .int gap])), (h5, .inl (aI, n, .inl pf))] H := hP
      have hD : va_D A [(o0, .inl (aL, 1, .inr (.inl (vp_updL of (0 : Int32).toNatClampNeg 1)))), (k0, .inr (4, [.ref h4, lo, .ref h0, .int powered, .int stepsDone])), (h0, .inr (1, [.int wayToOther, .ref h1, .ref h2, .int place, .int speed, .int way, .int topSpeed, .int gain, .int brake, .int darkSpeed, .int rideSpeed, .int kilos, .int mostKilos, .int openContacts, .int fireFloor, .int ride, .int starts, .int distance, .int hardFalls])), (h1, .inr (2, [.int x_2, .int dplace, .int dplaces, .int dhold, .int dsteps, .int dbeam, .int x_3, .int x_4])), (h4, .inr (3, [.ref h5, .int gap])), (h5, .inl (aI, n, .inl pf))] := hD
      refine lv_goto (tgt := 25) hx hb dL_open_16 (by decide) ?_
      refine lv_iconst (v := 0) hx hb dL_open_25 (by decide) ?_
      have hP := hP.sub (ws' := [(k0, .inr (4, [.ref h4, lo, .ref h0, .int powered, .int stepsDone])), (h0, .inr (1, [.int wayToOther, .ref h1, .ref h2, .int place, .int speed, .int way, .int topSpeed, .int gain, .int brake, .int darkSpeed, .int rideSpeed, .int kilos, .int mostKilos, .int openContacts, .int fireFloor, .int ride, .int starts, .int distance, .int hardFalls])), (h1, .inr (2, [.int x_2, .int dplace, .int dplaces, .int dhold, .int dsteps, .int dbeam, .int x_3, .int x_4])), (h4, .inr (3, [.ref h5, .int gap])), (h5, .inl (aI, n, .inl pf)), (o0, .inl (aL, 1, .inr (.inl (vp_updL of (0 : Int32).toNatClampNeg 1))))]) [1, 2, 3, 4, 5, 0] rfl
      have hD := hD.sub (ws' := [(k0, .inr (4, [.ref h4, lo, .ref h0, .int powered, .int stepsDone])), (h0, .inr (1, [.int wayToOther, .ref h1, .ref h2, .int place, .int speed, .int way, .int topSpeed, .int gain, .int brake, .int darkSpeed, .int rideSpeed, .int kilos, .int mostKilos, .int openContacts, .int fireFloor, .int ride, .int starts, .int distance, .int hardFalls])), (h1, .inr (2, [.int x_2, .int dplace, .int dplaces, .int dhold, .int dsteps, .int dbeam, .int x_3, .int x_4])), (h4, .inr (3, [.ref h5, .int gap])), (h5, .inl (aI, n, .inl pf)), (o0, .inl (aL, 1, .inr (.inl (vp_updL of (0 : Int32).toNatClampNeg 1))))]) [1, 2, 3, 4, 5, 0] (by decide) rfl
      exact rt_i hQ hx hb hr (x_2, x_3, x_4, (vp_updL of (0 : Int32).toNatClampNeg 1)) hG hP hD hS (Nat.le_of_ble_eq_true rfl) (Nat.le_of_ble_eq_true rfl) dL_open_26 hlk
def F_h_open_0n : Int32 :=
  ch F_open_0n
    (1)
    (1) fun _ =>
    1
theorem F_h_open_0n_u : F_h_open_0n =
  ((ch F_open_0n
    (1)
    (1) fun _ =>
    1) : Int32) := rfl
set_option maxHeartbeats 4000000 in
set_option maxRecDepth 100000 in
theorem c_h_open_0n (l : Launch) (hl9 : l.stackTraces = false) (D : va_G) (aI aL aZ : ClassId) (sz : Nat) (k0 : Nat) (h4 : Nat) (powered : Int32) (stepsDone : Int32) (up : Value) (o0 : Nat) (of : Nat → Int64) : Met l yL_open (.codeWith yL_open cL_open 4 (some .int) [(0, 16, 19, 13), (0, 16, 22, 15)] :: Gw) ({ frames := 8, cells := 1, slots := 6, locals := 136 }) (va_Pc [.ref k0, .int 0, .ref o0] (mpre D [(aI, .int), (aL, .long), (aZ, .boolean)] [(k0, .inr (4, [.ref h4, .null, up, .int powered, .int stepsDone])), (o0, .inl (aL, 1, .inr (.inl of)))] sz)) ((fun A : Nat → Prop => va_Qi (fun (r : Int32) (u : Unit) => F_h_open_0n = r) (mpst D A (fun (u : Unit) => [(k0, .inr (4, [.ref h4, .null, up, .int powered, .int stepsDone])), (o0, .inl (aL, 1, .inr (.inl of)))])) A) (va_A ([(k0, .inr (4, [.ref h4, .null, up, .int powered, .int stepsDone])), (o0, .inl (aL, 1, .inr (.inl of)))]) sz)) 1 6 (va_A ([(k0, .inr (4, [.ref h4, .null, up, .int powered, .int stepsDone])), (o0, .inl (aL, 1, .inr (.inl of)))]) sz) := by
  refine enh (cc := cL_open) (maxL := 4) (ret := (some .int)) (Qc := (fun A : Nat → Prop => va_Qi (fun (r : Int32) (u : Unit) => F_h_open_0n = r) (mpst D A (fun (u : Unit) => [(k0, .inr (4, [.ref h4, .null, up, .int powered, .int stepsDone])), (o0, .inl (aL, 1, .inr (.inl of)))])) A)) (by decide) rfl (Nat.le_of_ble_eq_true rfl) ?_
  intro p e s m args below meth c A ls Q hQ hx hb hr hts hown hlk hnm hml htab hA hS hP hK hD hE hl
  have hown : s.vm.findClass RL = some m.cls := hown
  have hl : lv_has ls 4 [(0, .ref k0), (1, .int 0), (2, .ref o0)] := hl
  have hG := F_h_open_0n_u
  refine lv_aload_n hx hb dL_open_0 rfl (lv_at hl 2 rfl) ?_
  refine lv_iconst (v := 0) hx hb dL_open_1 (by decide) ?_
  refine lv_aload_n hx hb dL_open_2 rfl (lv_at hl 0 rfl) ?_
  refine lv_iload_n hx hb dL_open_3 rfl (lv_at hl 1 rfl) ?_
  refine my_ci (wr := [(o0, .inl (aL, 1, .inr (.inl of)))]) [0] [1] (vx_runV (As := [.int 0]) (rest := [.int 0, .ref o0]) ⟨hx, hb, hml, hown, hts⟩ (c_open_0n l hl9 D aI aL aZ _ k0 h4 powered stepsDone up) (cwV 1 hts (gV w_430 w_431 w_432 w_35 w_433) rfl rfl rfl (by decide +kernel) ⟨Nat.le_of_ble_eq_true rfl, Nat.le_of_ble_eq_true rfl⟩) (prev_of hK hP hD hS hA hE [0] rfl (by decide) (ci := 4) rfl 0 rfl _) rfl rfl hl.1 rfl (lv_room (Nat.le_of_ble_eq_true rfl)) dL_open_4 ⟨Nat.le_of_ble_eq_true rfl, Nat.le_of_ble_eq_true rfl⟩) hP hD hS hA rfl rfl (by decide) (by decide) (fun E ce q9 u H locs hw hEx hP hD hS hce hcv hcl => ?_) (fun r_1 u_ H locs hw_2 hP hD hS => ?_)
  · obtain ⟨hw, hu⟩ := hw
    have htab : c.exceptionTable.toList = [⟨0, 16, 19, 13⟩, ⟨0, 16, 22, 15⟩] := htab
    subst hu
    have hG := hG.trans (ch_1 hw)
    refine my_h1 (u := 1) hown htab (by decide) (by decide) (hts _ (mG w_105)) hE hEx hce hcv hcl ?_
    have hP : va_P D vwCl [(o0, .inl (aL, 1, .inr (.inl of))), (k0, .inr (4, [.ref h4, .null, up, .int powered, .int stepsDone]))] H := hP
    have hD : va_D A [(o0, .inl (aL, 1, .inr (.inl of))), (k0, .inr (4, [.ref h4, .null, up, .int powered, .int stepsDone]))] := hD
    refine lv_astore_n (lv' := [(3, .ref q9), (0, .ref k0), (1, .int 0), (2, .ref o0)]) hx hb dL_open_19 rfl hl (by decide) rfl (fun ls hl => ?_)
    refine lv_iconst (v := 1) hx hb dL_open_20 (by decide) ?_
    have hP := hP.sub (ws' := [(k0, .inr (4, [.ref h4, .null, up, .int powered, .int stepsDone])), (o0, .inl (aL, 1, .inr (.inl of)))]) [1, 0] rfl
    have hD := hD.sub (ws' := [(k0, .inr (4, [.ref h4, .null, up, .int powered, .int stepsDone])), (o0, .inl (aL, 1, .inr (.inl of)))]) [1, 0] (by decide) rfl
    exact rt_i hQ hx hb hr () hG hP hD hS (Nat.le_of_ble_eq_true rfl) (Nat.le_of_ble_eq_true rfl) dL_open_21 hlk
  · skip
    exact False.elim hw_2
def F_h_open_1n : Int32 :=
  ch F_open_1n
    (1)
    (1) fun _ =>
    1
theorem F_h_open_1n_u : F_h_open_1n =
  ((ch F_open_1n
    (1)
    (1) fun _ =>
    1) : Int32) := rfl
set_option maxHeartbeats 4000000 in
set_option maxRecDepth 100000 in
theorem c_h_open_1n (l : Launch) (hl9 : l.stackTraces = false) (D : va_G) (aI aL aZ : ClassId) (sz : Nat) (k0 : Nat) (h4 : Nat) (powered : Int32) (stepsDone : Int32) (lo : Value) (o0 : Nat) (of : Nat → Int64) : Met l yL_open (.codeWith yL_open cL_open 4 (some .int) [(0, 16, 19, 13), (0, 16, 22, 15)] :: Gw) ({ frames := 8, cells := 1, slots := 6, locals := 136 }) (va_Pc [.ref k0, .int 1, .ref o0] (mpre D [(aI, .int), (aL, .long), (aZ, .boolean)] [(k0, .inr (4, [.ref h4, lo, .null, .int powered, .int stepsDone])), (o0, .inl (aL, 1, .inr (.inl of)))] sz)) ((fun A : Nat → Prop => va_Qi (fun (r : Int32) (u : Unit) => F_h_open_1n = r) (mpst D A (fun (u : Unit) => [(k0, .inr (4, [.ref h4, lo, .null, .int powered, .int stepsDone])), (o0, .inl (aL, 1, .inr (.inl of)))])) A) (va_A ([(k0, .inr (4, [.ref h4, lo, .null, .int powered, .int stepsDone])), (o0, .inl (aL, 1, .inr (.inl of)))]) sz)) 1 6 (va_A ([(k0, .inr (4, [.ref h4, lo, .null, .int powered, .int stepsDone])), (o0, .inl (aL, 1, .inr (.inl of)))]) sz) := by
  refine enh (cc := cL_open) (maxL := 4) (ret := (some .int)) (Qc := (fun A : Nat → Prop => va_Qi (fun (r : Int32) (u : Unit) => F_h_open_1n = r) (mpst D A (fun (u : Unit) => [(k0, .inr (4, [.ref h4, lo, .null, .int powered, .int stepsDone])), (o0, .inl (aL, 1, .inr (.inl of)))])) A)) (by decide) rfl (Nat.le_of_ble_eq_true rfl) ?_
  intro p e s m args below meth c A ls Q hQ hx hb hr hts hown hlk hnm hml htab hA hS hP hK hD hE hl
  have hown : s.vm.findClass RL = some m.cls := hown
  have hl : lv_has ls 4 [(0, .ref k0), (1, .int 1), (2, .ref o0)] := hl
  have hG := F_h_open_1n_u
  refine lv_aload_n hx hb dL_open_0 rfl (lv_at hl 2 rfl) ?_
  refine lv_iconst (v := 0) hx hb dL_open_1 (by decide) ?_
  refine lv_aload_n hx hb dL_open_2 rfl (lv_at hl 0 rfl) ?_
  refine lv_iload_n hx hb dL_open_3 rfl (lv_at hl 1 rfl) ?_
  refine my_ci (wr := [(o0, .inl (aL, 1, .inr (.inl of)))]) [0] [1] (vx_runV (As := [.int 1]) (rest := [.int 0, .ref o0]) ⟨hx, hb, hml, hown, hts⟩ (c_open_1n l hl9 D aI aL aZ _ k0 h4 powered stepsDone lo) (cwV 1 hts (gV w_430 w_431 w_432 w_35 w_433) rfl rfl rfl (by decide +kernel) ⟨Nat.le_of_ble_eq_true rfl, Nat.le_of_ble_eq_true rfl⟩) (prev_of hK hP hD hS hA hE [0] rfl (by decide) (ci := 4) rfl 0 rfl _) rfl rfl hl.1 rfl (lv_room (Nat.le_of_ble_eq_true rfl)) dL_open_4 ⟨Nat.le_of_ble_eq_true rfl, Nat.le_of_ble_eq_true rfl⟩) hP hD hS hA rfl rfl (by decide) (by decide) (fun E ce q9 u H locs hw hEx hP hD hS hce hcv hcl => ?_) (fun r_1 u_ H locs hw_2 hP hD hS => ?_)
  · obtain ⟨hw, hu⟩ := hw
    have htab : c.exceptionTable.toList = [⟨0, 16, 19, 13⟩, ⟨0, 16, 22, 15⟩] := htab
    subst hu
    have hG := hG.trans (ch_1 hw)
    refine my_h1 (u := 1) hown htab (by decide) (by decide) (hts _ (mG w_105)) hE hEx hce hcv hcl ?_
    have hP : va_P D vwCl [(o0, .inl (aL, 1, .inr (.inl of))), (k0, .inr (4, [.ref h4, lo, .null, .int powered, .int stepsDone]))] H := hP
    have hD : va_D A [(o0, .inl (aL, 1, .inr (.inl of))), (k0, .inr (4, [.ref h4, lo, .null, .int powered, .int stepsDone]))] := hD
    refine lv_astore_n (lv' := [(3, .ref q9), (0, .ref k0), (1, .int 1), (2, .ref o0)]) hx hb dL_open_19 rfl hl (by decide) rfl (fun ls hl => ?_)
    refine lv_iconst (v := 1) hx hb dL_open_20 (by decide) ?_
    have hP := hP.sub (ws' := [(k0, .inr (4, [.ref h4, lo, .null, .int powered, .int stepsDone])), (o0, .inl (aL, 1, .inr (.inl of)))]) [1, 0] rfl
    have hD := hD.sub (ws' := [(k0, .inr (4, [.ref h4, lo, .null, .int powered, .int stepsDone])), (o0, .inl (aL, 1, .inr (.inl of)))]) [1, 0] (by decide) rfl
    exact rt_i hQ hx hb hr () hG hP hD hS (Nat.le_of_ble_eq_true rfl) (Nat.le_of_ble_eq_true rfl) dL_open_21 hlk
  · skip
    exact False.elim hw_2
def F_h_open_x : Int32 :=
  ch F_open_x
    (1)
    (1) fun _ =>
    1
theorem F_h_open_x_u : F_h_open_x =
  ((ch F_open_x
    (1)
    (1) fun _ =>
    1) : Int32) := rfl
set_option maxHeartbeats 4000000 in
set_option maxRecDepth 100000 in
theorem c_h_open_x (l : Launch) (hl9 : l.stackTraces = false) (D : va_G) (aI aL aZ : ClassId) (sz : Nat) (k0 : Nat) (h4 : Nat) (powered : Int32) (stepsDone : Int32) (lo : Value) (up : Value) (p0 : Int32) (o0 : Nat) (of : Nat → Int64) (h9 : ¬ p0 = 0) (h8 : ¬ p0 = 1) : Met l yL_open (.codeWith yL_open cL_open 4 (some .int) [(0, 16, 19, 13), (0, 16, 22, 15)] :: Gw) ({ frames := 8, cells := 1, slots := 6, locals := 136 }) (va_Pc [.ref k0, .int p0, .ref o0] (mpre D [(aI, .int), (aL, .long), (aZ, .boolean)] [(k0, .inr (4, [.ref h4, lo, up, .int powered, .int stepsDone])), (o0, .inl (aL, 1, .inr (.inl of)))] sz)) ((fun A : Nat → Prop => va_Qi (fun (r : Int32) (u : Unit) => F_h_open_x = r) (mpst D A (fun (u : Unit) => [(k0, .inr (4, [.ref h4, lo, up, .int powered, .int stepsDone])), (o0, .inl (aL, 1, .inr (.inl of)))])) A) (va_A ([(k0, .inr (4, [.ref h4, lo, up, .int powered, .int stepsDone])), (o0, .inl (aL, 1, .inr (.inl of)))]) sz)) 1 6 (va_A ([(k0, .inr (4, [.ref h4, lo, up, .int powered, .int stepsDone])), (o0, .inl (aL, 1, .inr (.inl of)))]) sz) := by
  refine enh (cc := cL_open) (maxL := 4) (ret := (some .int)) (Qc := (fun A : Nat → Prop => va_Qi (fun (r : Int32) (u : Unit) => F_h_open_x = r) (mpst D A (fun (u : Unit) => [(k0, .inr (4, [.ref h4, lo, up, .int powered, .int stepsDone])), (o0, .inl (aL, 1, .inr (.inl of)))])) A)) (by decide) rfl (Nat.le_of_ble_eq_true rfl) ?_
  intro p e s m args below meth c A ls Q hQ hx hb hr hts hown hlk hnm hml htab hA hS hP hK hD hE hl
  have hown : s.vm.findClass RL = some m.cls := hown
  have hl : lv_has ls 4 [(0, .ref k0), (1, .int p0), (2, .ref o0)] := hl
  have hG := F_h_open_x_u
  refine lv_aload_n hx hb dL_open_0 rfl (lv_at hl 2 rfl) ?_
  refine lv_iconst (v := 0) hx hb dL_open_1 (by decide) ?_
  refine lv_aload_n hx hb dL_open_2 rfl (lv_at hl 0 rfl) ?_
  refine lv_iload_n hx hb dL_open_3 rfl (lv_at hl 1 rfl) ?_
  refine my_ci (wr := [(o0, .inl (aL, 1, .inr (.inl of)))]) [0] [1] (vx_runV (As := [.int p0]) (rest := [.int 0, .ref o0]) ⟨hx, hb, hml, hown, hts⟩ (c_open_x l hl9 D aI aL aZ _ k0 h4 powered stepsDone lo up p0 h9 h8) (cwV 1 hts (gV w_430 w_431 w_432 w_35 w_433) rfl rfl rfl (by decide +kernel) ⟨Nat.le_of_ble_eq_true rfl, Nat.le_of_ble_eq_true rfl⟩) (prev_of hK hP hD hS hA hE [0] rfl (by decide) (ci := 4) rfl 0 rfl _) rfl rfl hl.1 rfl (lv_room (Nat.le_of_ble_eq_true rfl)) dL_open_4 ⟨Nat.le_of_ble_eq_true rfl, Nat.le_of_ble_eq_true rfl⟩) hP hD hS hA rfl rfl (by decide) (by decide) (fun E ce q9 u H locs hw hEx hP hD hS hce hcv hcl => ?_) (fun r_1 u_ H locs hw_2 hP hD hS => ?_)
  · obtain ⟨hw, hu⟩ := hw
    have htab : c.exceptionTable.toList = [⟨0, 16, 19, 13⟩, ⟨0, 16, 22, 15⟩] := htab
    subst hu
    have hG := hG.trans (ch_1 hw)
    refine my_h1 (u := 1) hown htab (by decide) (by decide) (hts _ (mG w_105)) hE hEx hce hcv hcl ?_
    have hP : va_P D vwCl [(o0, .inl (aL, 1, .inr (.inl of))), (k0, .inr (4, [.ref h4, lo, up, .int powered, .int stepsDone]))] H := hP
    have hD : va_D A [(o0, .inl (aL, 1, .inr (.inl of))), (k0, .inr (4, [.ref h4, lo, up, .int powered, .int stepsDone]))] := hD
    refine lv_astore_n (lv' := [(3, .ref q9), (0, .ref k0), (1, .int p0), (2, .ref o0)]) hx hb dL_open_19 rfl hl (by decide) rfl (fun ls hl => ?_)
    refine lv_iconst (v := 1) hx hb dL_open_20 (by decide) ?_
    have hP := hP.sub (ws' := [(k0, .inr (4, [.ref h4, lo, up, .int powered, .int stepsDone])), (o0, .inl (aL, 1, .inr (.inl of)))]) [1, 0] rfl
    have hD := hD.sub (ws' := [(k0, .inr (4, [.ref h4, lo, up, .int powered, .int stepsDone])), (o0, .inl (aL, 1, .inr (.inl of)))]) [1, 0] (by decide) rfl
    exact rt_i hQ hx hb hr () hG hP hD hS (Nat.le_of_ble_eq_true rfl) (Nat.le_of_ble_eq_true rfl) dL_open_21 hlk
  · skip
    exact False.elim hw_2
theorem dL_close_0 : decode cL_close 0 = .ok (.aload_n 2, 1) := by decide +kernel
theorem dL_close_1 : decode cL_close 1 = .ok (.iconst 0, 1) := by decide +kernel
theorem dL_close_2 : decode cL_close 2 = .ok (.aload_n 0, 1) := by decide +kernel
theorem dL_close_3 : decode cL_close 3 = .ok (.iload_n 1, 1) := by decide +kernel
theorem dL_close_4 : decode cL_close 4 = .ok (.invokevirtual 42, 3) := by decide +kernel
theorem dL_close_7 : decode cL_close 7 = .ok (.ifCond .eq 7, 3) := by decide +kernel
theorem dL_close_10 : decode cL_close 10 = .ok (.lconst 1, 1) := by decide +kernel
theorem dL_close_11 : decode cL_close 11 = .ok (.goto 4, 3) := by decide +kernel
theorem dL_close_14 : decode cL_close 14 = .ok (.lconst 0, 1) := by decide +kernel
theorem dL_close_15 : decode cL_close 15 = .ok (.lastore, 1) := by decide +kernel
theorem dL_close_16 : decode cL_close 16 = .ok (.goto 6, 3) := by decide +kernel
theorem dL_close_19 : decode cL_close 19 = .ok (.astore_n 3, 1) := by decide +kernel
theorem dL_close_20 : decode cL_close 20 = .ok (.iconst 1, 1) := by decide +kernel
theorem dL_close_21 : decode cL_close 21 = .ok (.ireturn, 1) := by decide +kernel
theorem dL_close_22 : decode cL_close 22 = .ok (.iconst 0, 1) := by decide +kernel
theorem dL_close_23 : decode cL_close 23 = .ok (.ireturn, 1) := by decide +kernel
def F_h_close_0 (kilos : Int32) (mostKilos : Int32) (dstate : Int32) (dbeam : Int32) (of : Nat → Int64) : Int32 × Int32 × (Nat → Int64) :=
  ch (F_close_0 kilos mostKilos dstate dbeam)
    (default)
    (default) fun (r_1, x_2) =>
    if r_1 = 0 then
      (0, x_2, (vp_updL of (0 : Int32).toNatClampNeg 0))
    else
      (0, x_2, (vp_updL of (0 : Int32).toNatClampNeg 1))
theorem F_h_close_0_u (kilos : Int32) (mostKilos : Int32) (dstate : Int32) (dbeam : Int32) (of : Nat → Int64) : F_h_close_0 kilos mostKilos dstate dbeam of =
  ((ch (F_close_0 kilos mostKilos dstate dbeam)
    (default)
    (default) fun (r_1, x_2) =>
    if r_1 = 0 then
      (0, x_2, (vp_updL of (0 : Int32).toNatClampNeg 0))
    else
      (0, x_2, (vp_updL of (0 : Int32).toNatClampNeg 1))) : Int32 × Int32 × (Nat → Int64)) := rfl
set_option maxHeartbeats 4000000 in
set_option maxRecDepth 100000 in
theorem c_h_close_0 (l : Launch) (hl9 : l.stackTraces = false) (D : va_G) (aI aL aZ : ClassId) (sz : Nat) (k0 : Nat) (h4 : Nat) (powered : Int32) (stepsDone : Int32) (up : Value) (h0 : Nat) (h1 : Nat) (h2 : Nat) (wayToOther : Int32) (place : Int32) (speed : Int32) (way : Int32) (topSpeed : Int32) (gain : Int32) (brake : Int32) (darkSpeed : Int32) (rideSpeed : Int32) (kilos : Int32) (mostKilos : Int32) (openContacts : Int32) (fireFloor : Int32) (ride : Int32) (starts : Int32) (distance : Int32) (hardFalls : Int32) (dstate : Int32) (dplace : Int32) (dplaces : Int32) (dhold : Int32) (dsteps : Int32) (dbeam : Int32) (dob : Int32) (doc : Int32) (o0 : Nat) (of : Nat → Int64) : Met l yL_close (.codeWith yL_close cL_close 4 (some .int) [(0, 16, 19, 13)] :: Gw) ({ frames := 2, cells := 0, slots := 0, locals := 44 }) (va_Pc [.ref k0, .int 0, .ref o0] (mpre D [(aI, .int), (aL, .long), (aZ, .boolean)] [(k0, .inr (4, [.ref h4, .ref h0, up, .int powered, .int stepsDone])), (h0, .inr (1, [.int wayToOther, .ref h1, .ref h2, .int place, .int speed, .int way, .int topSpeed, .int gain, .int brake, .int darkSpeed, .int rideSpeed, .int kilos, .int mostKilos, .int openContacts, .int fireFloor, .int ride, .int starts, .int distance, .int hardFalls])), (h1, .inr (2, [.int dstate, .int dplace, .int dplaces, .int dhold, .int dsteps, .int dbeam, .int dob, .int doc])), (o0, .inl (aL, 1, .inr (.inl of)))] sz)) ((fun A : Nat → Prop => va_Qi (fun (r : Int32) (u : Int32 × (Nat → Int64)) => match u with | (u0, u1) => F_h_close_0 kilos mostKilos dstate dbeam of = (r, u0, u1)) (mpst D A (fun (u : Int32 × (Nat → Int64)) => match u with | (u0, u1) => [(k0, .inr (4, [.ref h4, .ref h0, up, .int powered, .int stepsDone])), (h0, .inr (1, [.int wayToOther, .ref h1, .ref h2, .int place, .int speed, .int way, .int topSpeed, .int gain, .int brake, .int darkSpeed, .int rideSpeed, .int kilos, .int mostKilos, .int openContacts, .int fireFloor, .int ride, .int starts, .int distance, .int hardFalls])), (h1, .inr (2, [.int u0, .int dplace, .int dplaces, .int dhold, .int dsteps, .int dbeam, .int dob, .int doc])), (o0, .inl (aL, 1, .inr (.inl u1)))])) A) (va_A ([(k0, .inr (4, [.ref h4, .ref h0, up, .int powered, .int stepsDone])), (h0, .inr (1, [.int wayToOther, .ref h1, .ref h2, .int place, .int speed, .int way, .int topSpeed, .int gain, .int brake, .int darkSpeed, .int rideSpeed, .int kilos, .int mostKilos, .int openContacts, .int fireFloor, .int ride, .int starts, .int distance, .int hardFalls])), (h1, .inr (2, [.int dstate, .int dplace, .int dplaces, .int dhold, .int dsteps, .int dbeam, .int dob, .int doc])), (o0, .inl (aL, 1, .inr (.inl of)))]) sz)) 0 0 (va_A ([(k0, .inr (4, [.ref h4, .ref h0, up, .int powered, .int stepsDone])), (h0, .inr (1, [.int wayToOther, .ref h1, .ref h2, .int place, .int speed, .int way, .int topSpeed, .int gain, .int brake, .int darkSpeed, .int rideSpeed, .int kilos, .int mostKilos, .int openContacts, .int fireFloor, .int ride, .int starts, .int distance, .int hardFalls])), (h1, .inr (2, [.int dstate, .int dplace, .int dplaces, .int dhold, .int dsteps, .int dbeam, .int dob, .int doc])), (o0, .inl (aL, 1, .inr (.inl of)))]) sz) := by
  refine enh (cc := cL_close) (maxL := 4) (ret := (some .int)) (Qc := (fun A : Nat → Prop => va_Qi (fun (r : Int32) (u : Int32 × (Nat → Int64)) => match u with | (u0, u1) => F_h_close_0 kilos mostKilos dstate dbeam of = (r, u0, u1)) (mpst D A (fun (u : Int32 × (Nat → Int64)) => match u with | (u0, u1) => [(k0, .inr (4, [.ref h4, .ref h0, up, .int powered, .int stepsDone])), (h0, .inr (1, [.int wayToOther, .ref h1, .ref h2, .int place, .int speed, .int way, .int topSpeed, .int gain, .int brake, .int darkSpeed, .int rideSpeed, .int kilos, .int mostKilos, .int openContacts, .int fireFloor, .int ride, .int starts, .int distance, .int hardFalls])), (h1, .inr (2, [.int u0, .int dplace, .int dplaces, .int dhold, .int dsteps, .int dbeam, .int dob, .int doc])), (o0, .inl (aL, 1, .inr (.inl u1)))])) A)) (by decide) rfl (Nat.le_of_ble_eq_true rfl) ?_
  intro p e s m args below meth c A ls Q hQ hx hb hr hts hown hlk hnm hml htab hA hS hP hK hD hE hl
  have hown : s.vm.findClass RL = some m.cls := hown
  have hl : lv_has ls 4 [(0, .ref k0), (1, .int 0), (2, .ref o0)] := hl
  have hG := F_h_close_0_u kilos mostKilos dstate dbeam of
  refine lv_aload_n hx hb dL_close_0 rfl (lv_at hl 2 rfl) ?_
  refine lv_iconst (v := 0) hx hb dL_close_1 (by decide) ?_
  refine lv_aload_n hx hb dL_close_2 rfl (lv_at hl 0 rfl) ?_
  refine lv_iload_n hx hb dL_close_3 rfl (lv_at hl 1 rfl) ?_
  refine my_ci (wr := [(o0, .inl (aL, 1, .inr (.inl of)))]) [0, 1, 2] [3] (vx_runV (As := [.int 0]) (rest := [.int 0, .ref o0]) ⟨hx, hb, hml, hown, hts⟩ (c_close_0 l hl9 D aI aL aZ _ k0 h4 powered stepsDone up h0 h1 h2 wayToOther place speed way topSpeed gain brake darkSpeed rideSpeed kilos mostKilos openContacts fireFloor ride starts distance hardFalls dstate dplace dplaces dhold dsteps dbeam dob doc) (cwV 1 hts (gV w_446 w_447 w_448 w_35 w_449) rfl rfl rfl (by decide +kernel) ⟨Nat.le_of_ble_eq_true rfl, Nat.le_of_ble_eq_true rfl⟩) (prev_of hK hP hD hS hA hE [0, 1, 2] rfl (by decide) (ci := 4) rfl 0 rfl _) rfl rfl hl.1 rfl (lv_room (Nat.le_of_ble_eq_true rfl)) dL_close_4 ⟨Nat.le_of_ble_eq_true rfl, Nat.le_of_ble_eq_true rfl⟩) hP hD hS hA rfl rfl (by decide) (by decide) (fun E ce q9 u H locs hw hEx hP hD hS hce hcv hcl => ?_) (fun r_1 u_ H locs hw_3 hP hD hS => ?_)
  · obtain ⟨hw, hu⟩ := hw
    have htab : c.exceptionTable.toList = [⟨0, 16, 19, 13⟩] := htab
    exact False.elim hu
  · skip
    obtain ⟨x_2, rfl⟩ : ∃ z, z = u_ := ⟨_, rfl⟩
    have hw_3 : F_close_0 kilos mostKilos dstate dbeam = .inr (r_1, x_2) ∧ nb r_1 := hw_3
    have hG := hG.trans (ch_r hw_3.1)
    have hP : va_P D vwCl [(o0, .inl (aL, 1, .inr (.inl of))), (k0, .inr (4, [.ref h4, .ref h0, up, .int powered, .int stepsDone])), (h0, .inr (1, [.int wayToOther, .ref h1, .ref h2, .int place, .int speed, .int way, .int topSpeed, .int gain, .int brake, .int darkSpeed, .int rideSpeed, .int kilos, .int mostKilos, .int openContacts, .int fireFloor, .int ride, .int starts, .int distance, .int hardFalls])), (h1, .inr (2, [.int x_2, .int dplace, .int dplaces, .int dhold, .int dsteps, .int dbeam, .int dob, .int doc]))] H := hP
    have hD : va_D A [(o0, .inl (aL, 1, .inr (.inl of))), (k0, .inr (4, [.ref h4, .ref h0, up, .int powered, .int stepsDone])), (h0, .inr (1, [.int wayToOther, .ref h1, .ref h2, .int place, .int speed, .int way, .int topSpeed, .int gain, .int brake, .int darkSpeed, .int rideSpeed, .int kilos, .int mostKilos, .int openContacts, .int fireFloor, .int ride, .int starts, .int distance, .int hardFalls])), (h1, .inr (2, [.int x_2, .int dplace, .int dplaces, .int dhold, .int dsteps, .int dbeam, .int dob, .int doc]))] := hD
    refine lv_if_eq (tgt := 14) hx hb dL_close_7 (by decide) (fun c_4 => ?_) (fun c_4 => ?_)
    · have hG := hG.trans (if_pos c_4)
      refine lv_lconst (v := 0) hx hb dL_close_14 (by decide) ?_
      refine va_last hx hb hK hP hD hS 0 1 rfl rfl (by unfold vp_in; decide) dL_close_15 (fun H locs hP hD hS => ?_)
      have hP : va_P D vwCl [(o0, .inl (aL, 1, .inr (.inl (vp_updL of (0 : Int32).toNatClampNeg 0)))), (k0, .inr (4, [.ref h4, .ref h0, up, .int powered, .int stepsDone])), (h0, .inr (1, [.int wayToOther, .ref h1, .ref h2, .int place, .int speed, .int way, .int topSpeed, .int gain, .int brake, .int darkSpeed, .int rideSpeed, .int kilos, .int mostKilos, .int openContacts, .int fireFloor, .int ride, .int starts, .int distance, .int hardFalls])), (h1, .inr (2, [.int x_2, .int dplace, .int dplaces, .int dhold, .int dsteps, .int dbeam, .int dob, .int doc]))] H := hP
      have hD : va_D A [(o0, .inl (aL, 1, .inr (.inl (vp_updL of (0 : Int32).toNatClampNeg 0)))), (k0, .inr (4, [.ref h4, .ref h0, up, .int powered, .int stepsDone])), (h0, .inr (1, [.int wayToOther, .ref h1, .ref h2, .int place, .int speed, .int way, .int topSpeed, .int gain, .int brake, .int darkSpeed, .int rideSpeed, .int kilos, .int mostKilos, .int openContacts, .int fireFloor, .int ride, .int starts, .int distance, .int hardFalls])), (h1, .inr (2, [.int x_2, .int dplace, .int dplaces, .int dhold, .int dsteps, .int dbeam, .int dob, .int doc]))] := hD
      refine lv_goto (tgt := 22) hx hb dL_close_16 (by decide) ?_
      refine lv_iconst (v := 0) hx hb dL_close_22 (by decide) ?_
      have hP := hP.sub (ws' := [(k0, .inr (4, [.ref h4, .ref h0, up, .int powered, .int stepsDone])), (h0, .inr (1, [.int wayToOther, .ref h1, .ref h2, .int place, .int speed, .int way, .int topSpeed, .int gain, .int brake, .int darkSpeed, .int rideSpeed, .int kilos, .int mostKilos, .int openContacts, .int fireFloor, .int ride, .int starts, .int distance, .int hardFalls])), (h1, .inr (2, [.int x_2, .int dplace, .int dplaces, .int dhold, .int dsteps, .int dbeam, .int dob, .int doc])), (o0, .inl (aL, 1, .inr (.inl (vp_updL of (0 : Int32).toNatClampNeg 0))))]) [1, 2, 3, 0] rfl
      have hD := hD.sub (ws' := [(k0, .inr (4, [.ref h4, .ref h0, up, .int powered, .int stepsDone])), (h0, .inr (1, [.int wayToOther, .ref h1, .ref h2, .int place, .int speed, .int way, .int topSpeed, .int gain, .int brake, .int darkSpeed, .int rideSpeed, .int kilos, .int mostKilos, .int openContacts, .int fireFloor, .int ride, .int starts, .int distance, .int hardFalls])), (h1, .inr (2, [.int x_2, .int dplace, .int dplaces, .int dhold, .int dsteps, .int dbeam, .int dob, .int doc])), (o0, .inl (aL, 1, .inr (.inl (vp_updL of (0 : Int32).toNatClampNeg 0))))]) [1, 2, 3, 0] (by decide) rfl
      exact rt_i hQ hx hb hr (x_2, (vp_updL of (0 : Int32).toNatClampNeg 0)) hG hP hD hS (Nat.le_of_ble_eq_true rfl) (Nat.le_of_ble_eq_true rfl) dL_close_23 hlk
    · have hG := hG.trans (if_neg c_4)
      refine lv_lconst (v := 1) hx hb dL_close_10 (by decide) ?_
      refine lv_goto (tgt := 15) hx hb dL_close_11 (by decide) ?_
      refine va_last hx hb hK hP hD hS 0 1 rfl rfl (by unfold vp_in; decide) dL_close_15 (fun H locs hP hD hS => ?_)
      have hP : va_P D vwCl [(o0, .inl (aL, 1, .inr (.inl (vp_updL of (0 : Int32).toNatClampNeg 1)))), (k0, .inr (4, [.ref h4, .ref h0, up, .int powered, .int stepsDone])), (h0, .inr (1, [.int wayToOther, .ref h1, .ref h2, .int place, .int speed, .int way, .int topSpeed, .int gain, .int brake, .int darkSpeed, .int rideSpeed, .int kilos, .int mostKilos, .int openContacts, .int fireFloor, .int ride, .int starts, .int distance, .int hardFalls])), (h1, .inr (2, [.int x_2, .int dplace, .int dplaces, .int dhold, .int dsteps, .int dbeam, .int dob, .int doc]))] H := hP
      have hD : va_D A [(o0, .inl (aL, 1, .inr (.inl (vp_updL of (0 : Int32).toNatClampNeg 1)))), (k0, .inr (4, [.ref h4, .ref h0, up, .int powered, .int stepsDone])), (h0, .inr (1, [.int wayToOther, .ref h1, .ref h2, .int place, .int speed, .int way, .int topSpeed, .int gain, .int brake, .int darkSpeed, .int rideSpeed, .int kilos, .int mostKilos, .int openContacts, .int fireFloor, .int ride, .int starts, .int distance, .int hardFalls])), (h1, .inr (2, [.int x_2, .int dplace, .int dplaces, .int dhold, .int dsteps, .int dbeam, .int dob, .int doc]))] := hD
      refine lv_goto (tgt := 22) hx hb dL_close_16 (by decide) ?_
      refine lv_iconst (v := 0) hx hb dL_close_22 (by decide) ?_
      have hP := hP.sub (ws' := [(k0, .inr (4, [.ref h4, .ref h0, up, .int powered, .int stepsDone])), (h0, .inr (1, [.int wayToOther, .ref h1, .ref h2, .int place, .int speed, .int way, .int topSpeed, .int gain, .int brake, .int darkSpeed, .int rideSpeed, .int kilos, .int mostKilos, .int openContacts, .int fireFloor, .int ride, .int starts, .int distance, .int hardFalls])), (h1, .inr (2, [.int x_2, .int dplace, .int dplaces, .int dhold, .int dsteps, .int dbeam, .int dob, .int doc])), (o0, .inl (aL, 1, .inr (.inl (vp_updL of (0 : Int32).toNatClampNeg 1))))]) [1, 2, 3, 0] rfl
      have hD := hD.sub (ws' := [(k0, .inr (4, [.ref h4, .ref h0, up, .int powered, .int stepsDone])), (h0, .inr (1, [.int wayToOther, .ref h1, .ref h2, .int place, .int speed, .int way, .int topSpeed, .int gain, .int brake, .int darkSpeed, .int rideSpeed, .int kilos, .int mostKilos, .int openContacts, .int fireFloor, .int ride, .int starts, .int distance, .int hardFalls])), (h1, .inr (2, [.int x_2, .int dplace, .int dplaces, .int dhold, .int dsteps, .int dbeam, .int dob, .int doc])), (o0, .inl (aL, 1, .inr (.inl (vp_updL of (0 : Int32).toNatClampNeg 1))))]) [1, 2, 3, 0] (by decide) rfl
      exact rt_i hQ hx hb hr (x_2, (vp_updL of (0 : Int32).toNatClampNeg 1)) hG hP hD hS (Nat.le_of_ble_eq_true rfl) (Nat.le_of_ble_eq_true rfl) dL_close_23 hlk
def F_h_close_1 (kilos : Int32) (mostKilos : Int32) (dstate : Int32) (dbeam : Int32) (of : Nat → Int64) : Int32 × Int32 × (Nat → Int64) :=
  ch (F_close_1 kilos mostKilos dstate dbeam)
    (default)
    (default) fun (r_1, x_2) =>
    if r_1 = 0 then
      (0, x_2, (vp_updL of (0 : Int32).toNatClampNeg 0))
    else
      (0, x_2, (vp_updL of (0 : Int32).toNatClampNeg 1))
theorem F_h_close_1_u (kilos : Int32) (mostKilos : Int32) (dstate : Int32) (dbeam : Int32) (of : Nat → Int64) : F_h_close_1 kilos mostKilos dstate dbeam of =
  ((ch (F_close_1 kilos mostKilos dstate dbeam)
    (default)
    (default) fun (r_1, x_2) =>
    if r_1 = 0 then
      (0, x_2, (vp_updL of (0 : Int32).toNatClampNeg 0))
    else
      (0, x_2, (vp_updL of (0 : Int32).toNatClampNeg 1))) : Int32 × Int32 × (Nat → Int64)) := rfl
set_option maxHeartbeats 4000000 in
set_option maxRecDepth 100000 in
theorem c_h_close_1 (l : Launch) (hl9 : l.stackTraces = false) (D : va_G) (aI aL aZ : ClassId) (sz : Nat) (k0 : Nat) (h4 : Nat) (powered : Int32) (stepsDone : Int32) (lo : Value) (h0 : Nat) (h1 : Nat) (h2 : Nat) (wayToOther : Int32) (place : Int32) (speed : Int32) (way : Int32) (topSpeed : Int32) (gain : Int32) (brake : Int32) (darkSpeed : Int32) (rideSpeed : Int32) (kilos : Int32) (mostKilos : Int32) (openContacts : Int32) (fireFloor : Int32) (ride : Int32) (starts : Int32) (distance : Int32) (hardFalls : Int32) (dstate : Int32) (dplace : Int32) (dplaces : Int32) (dhold : Int32) (dsteps : Int32) (dbeam : Int32) (dob : Int32) (doc : Int32) (o0 : Nat) (of : Nat → Int64) : Met l yL_close (.codeWith yL_close cL_close 4 (some .int) [(0, 16, 19, 13)] :: Gw) ({ frames := 2, cells := 0, slots := 0, locals := 44 }) (va_Pc [.ref k0, .int 1, .ref o0] (mpre D [(aI, .int), (aL, .long), (aZ, .boolean)] [(k0, .inr (4, [.ref h4, lo, .ref h0, .int powered, .int stepsDone])), (h0, .inr (1, [.int wayToOther, .ref h1, .ref h2, .int place, .int speed, .int way, .int topSpeed, .int gain, .int brake, .int darkSpeed, .int rideSpeed, .int kilos, .int mostKilos, .int openContacts, .int fireFloor, .int ride, .int starts, .int distance, .int hardFalls])), (h1, .inr (2, [.int dstate, .int dplace, .int dplaces, .int dhold, .int dsteps, .int dbeam, .int dob, .int doc])), (o0, .inl (aL, 1, .inr (.inl of)))] sz)) ((fun A : Nat → Prop => va_Qi (fun (r : Int32) (u : Int32 × (Nat → Int64)) => match u with | (u0, u1) => F_h_close_1 kilos mostKilos dstate dbeam of = (r, u0, u1)) (mpst D A (fun (u : Int32 × (Nat → Int64)) => match u with | (u0, u1) => [(k0, .inr (4, [.ref h4, lo, .ref h0, .int powered, .int stepsDone])), (h0, .inr (1, [.int wayToOther, .ref h1, .ref h2, .int place, .int speed, .int way, .int topSpeed, .int gain, .int brake, .int darkSpeed, .int rideSpeed, .int kilos, .int mostKilos, .int openContacts, .int fireFloor, .int ride, .int starts, .int distance, .int hardFalls])), (h1, .inr (2, [.int u0, .int dplace, .int dplaces, .int dhold, .int dsteps, .int dbeam, .int dob, .int doc])), (o0, .inl (aL, 1, .inr (.inl u1)))])) A) (va_A ([(k0, .inr (4, [.ref h4, lo, .ref h0, .int powered, .int stepsDone])), (h0, .inr (1, [.int wayToOther, .ref h1, .ref h2, .int place, .int speed, .int way, .int topSpeed, .int gain, .int brake, .int darkSpeed, .int rideSpeed, .int kilos, .int mostKilos, .int openContacts, .int fireFloor, .int ride, .int starts, .int distance, .int hardFalls])), (h1, .inr (2, [.int dstate, .int dplace, .int dplaces, .int dhold, .int dsteps, .int dbeam, .int dob, .int doc])), (o0, .inl (aL, 1, .inr (.inl of)))]) sz)) 0 0 (va_A ([(k0, .inr (4, [.ref h4, lo, .ref h0, .int powered, .int stepsDone])), (h0, .inr (1, [.int wayToOther, .ref h1, .ref h2, .int place, .int speed, .int way, .int topSpeed, .int gain, .int brake, .int darkSpeed, .int rideSpeed, .int kilos, .int mostKilos, .int openContacts, .int fireFloor, .int ride, .int starts, .int distance, .int hardFalls])), (h1, .inr (2, [.int dstate, .int dplace, .int dplaces, .int dhold, .int dsteps, .int dbeam, .int dob, .int doc])), (o0, .inl (aL, 1, .inr (.inl of)))]) sz) := by
  refine enh (cc := cL_close) (maxL := 4) (ret := (some .int)) (Qc := (fun A : Nat → Prop => va_Qi (fun (r : Int32) (u : Int32 × (Nat → Int64)) => match u with | (u0, u1) => F_h_close_1 kilos mostKilos dstate dbeam of = (r, u0, u1)) (mpst D A (fun (u : Int32 × (Nat → Int64)) => match u with | (u0, u1) => [(k0, .inr (4, [.ref h4, lo, .ref h0, .int powered, .int stepsDone])), (h0, .inr (1, [.int wayToOther, .ref h1, .ref h2, .int place, .int speed, .int way, .int topSpeed, .int gain, .int brake, .int darkSpeed, .int rideSpeed, .int kilos, .int mostKilos, .int openContacts, .int fireFloor, .int ride, .int starts, .int distance, .int hardFalls])), (h1, .inr (2, [.int u0, .int dplace, .int dplaces, .int dhold, .int dsteps, .int dbeam, .int dob, .int doc])), (o0, .inl (aL, 1, .inr (.inl u1)))])) A)) (by decide) rfl (Nat.le_of_ble_eq_true rfl) ?_
  intro p e s m args below meth c A ls Q hQ hx hb hr hts hown hlk hnm hml htab hA hS hP hK hD hE hl
  have hown : s.vm.findClass RL = some m.cls := hown
  have hl : lv_has ls 4 [(0, .ref k0), (1, .int 1), (2, .ref o0)] := hl
  have hG := F_h_close_1_u kilos mostKilos dstate dbeam of
  refine lv_aload_n hx hb dL_close_0 rfl (lv_at hl 2 rfl) ?_
  refine lv_iconst (v := 0) hx hb dL_close_1 (by decide) ?_
  refine lv_aload_n hx hb dL_close_2 rfl (lv_at hl 0 rfl) ?_
  refine lv_iload_n hx hb dL_close_3 rfl (lv_at hl 1 rfl) ?_
  refine my_ci (wr := [(o0, .inl (aL, 1, .inr (.inl of)))]) [0, 1, 2] [3] (vx_runV (As := [.int 1]) (rest := [.int 0, .ref o0]) ⟨hx, hb, hml, hown, hts⟩ (c_close_1 l hl9 D aI aL aZ _ k0 h4 powered stepsDone lo h0 h1 h2 wayToOther place speed way topSpeed gain brake darkSpeed rideSpeed kilos mostKilos openContacts fireFloor ride starts distance hardFalls dstate dplace dplaces dhold dsteps dbeam dob doc) (cwV 1 hts (gV w_446 w_447 w_448 w_35 w_449) rfl rfl rfl (by decide +kernel) ⟨Nat.le_of_ble_eq_true rfl, Nat.le_of_ble_eq_true rfl⟩) (prev_of hK hP hD hS hA hE [0, 1, 2] rfl (by decide) (ci := 4) rfl 0 rfl _) rfl rfl hl.1 rfl (lv_room (Nat.le_of_ble_eq_true rfl)) dL_close_4 ⟨Nat.le_of_ble_eq_true rfl, Nat.le_of_ble_eq_true rfl⟩) hP hD hS hA rfl rfl (by decide) (by decide) (fun E ce q9 u H locs hw hEx hP hD hS hce hcv hcl => ?_) (fun r_1 u_ H locs hw_3 hP hD hS => ?_)
  · obtain ⟨hw, hu⟩ := hw
    have htab : c.exceptionTable.toList = [⟨0, 16, 19, 13⟩] := htab
    exact False.elim hu
  · skip
    obtain ⟨x_2, rfl⟩ : ∃ z, z = u_ := ⟨_, rfl⟩
    have hw_3 : F_close_1 kilos mostKilos dstate dbeam = .inr (r_1, x_2) ∧ nb r_1 := hw_3
    have hG := hG.trans (ch_r hw_3.1)
    have hP : va_P D vwCl [(o0, .inl (aL, 1, .inr (.inl of))), (k0, .inr (4, [.ref h4, lo, .ref h0, .int powered, .int stepsDone])), (h0, .inr (1, [.int wayToOther, .ref h1, .ref h2, .int place, .int speed, .int way, .int topSpeed, .int gain, .int brake, .int darkSpeed, .int rideSpeed, .int kilos, .int mostKilos, .int openContacts, .int fireFloor, .int ride, .int starts, .int distance, .int hardFalls])), (h1, .inr (2, [.int x_2, .int dplace, .int dplaces, .int dhold, .int dsteps, .int dbeam, .int dob, .int doc]))] H := hP
    have hD : va_D A [(o0, .inl (aL, 1, .inr (.inl of))), (k0, .inr (4, [.ref h4, lo, .ref h0, .int powered, .int stepsDone])), (h0, .inr (1, [.int wayToOther, .ref h1, .ref h2, .int place, .int speed, .int way, .int topSpeed, .int gain, .int brake, .int darkSpeed, .int rideSpeed, .int kilos, .int mostKilos, .int openContacts, .int fireFloor, .int ride, .int starts, .int distance, .int hardFalls])), (h1, .inr (2, [.int x_2, .int dplace, .int dplaces, .int dhold, .int dsteps, .int dbeam, .int dob, .int doc]))] := hD
    refine lv_if_eq (tgt := 14) hx hb dL_close_7 (by decide) (fun c_4 => ?_) (fun c_4 => ?_)
    · have hG := hG.trans (if_pos c_4)
      refine lv_lconst (v := 0) hx hb dL_close_14 (by decide) ?_
      refine va_last hx hb hK hP hD hS 0 1 rfl rfl (by unfold vp_in; decide) dL_close_15 (fun H locs hP hD hS => ?_)
      have hP : va_P D vwCl [(o0, .inl (aL, 1, .inr (.inl (vp_updL of (0 : Int32).toNatClampNeg 0)))), (k0, .inr (4, [.ref h4, lo, .ref h0, .int powered, .int stepsDone])), (h0, .inr (1, [.int wayToOther, .ref h1, .ref h2, .int place, .int speed, .int way, .int topSpeed, .int gain, .int brake, .int darkSpeed, .int rideSpeed, .int kilos, .int mostKilos, .int openContacts, .int fireFloor, .int ride, .int starts, .int distance, .int hardFalls])), (h1, .inr (2, [.int x_2, .int dplace, .int dplaces, .int dhold, .int dsteps, .int dbeam, .int dob, .int doc]))] H := hP
      have hD : va_D A [(o0, .inl (aL, 1, .inr (.inl (vp_updL of (0 : Int32).toNatClampNeg 0)))), (k0, .inr (4, [.ref h4, lo, .ref h0, .int powered, .int stepsDone])), (h0, .inr (1, [.int wayToOther, .ref h1, .ref h2, .int place, .int speed, .int way, .int topSpeed, .int gain, .int brake, .int darkSpeed, .int rideSpeed, .int kilos, .int mostKilos, .int openContacts, .int fireFloor, .int ride, .int starts, .int distance, .int hardFalls])), (h1, .inr (2, [.int x_2, .int dplace, .int dplaces, .int dhold, .int dsteps, .int dbeam, .int dob, .int doc]))] := hD
      refine lv_goto (tgt := 22) hx hb dL_close_16 (by decide) ?_
      refine lv_iconst (v := 0) hx hb dL_close_22 (by decide) ?_
      have hP := hP.sub (ws' := [(k0, .inr (4, [.ref h4, lo, .ref h0, .int powered, .int stepsDone])), (h0, .inr (1, [.int wayToOther, .ref h1, .ref h2, .int place, .int speed, .int way, .int topSpeed, .int gain, .int brake, .int darkSpeed, .int rideSpeed, .int kilos, .int mostKilos, .int openContacts, .int fireFloor, .int ride, .int starts, .int distance, .int hardFalls])), (h1, .inr (2, [.int x_2, .int dplace, .int dplaces, .int dhold, .int dsteps, .int dbeam, .int dob, .int doc])), (o0, .inl (aL, 1, .inr (.inl (vp_updL of (0 : Int32).toNatClampNeg 0))))]) [1, 2, 3, 0] rfl
      have hD := hD.sub (ws' := [(k0, .inr (4, [.ref h4, lo, .ref h0, .int powered, .int stepsDone])), (h0, .inr (1, [.int wayToOther, .ref h1, .ref h2, .int place, .int speed, .int way, .int topSpeed, .int gain, .int brake, .int darkSpeed, .int rideSpeed, .int kilos, .int mostKilos, .int openContacts, .int fireFloor, .int ride, .int starts, .int distance, .int hardFalls])), (h1, .inr (2, [.int x_2, .int dplace, .int dplaces, .int dhold, .int dsteps, .int dbeam, .int dob, .int doc])), (o0, .inl (aL, 1, .inr (.inl (vp_updL of (0 : Int32).toNatClampNeg 0))))]) [1, 2, 3, 0] (by decide) rfl
      exact rt_i hQ hx hb hr (x_2, (vp_updL of (0 : Int32).toNatClampNeg 0)) hG hP hD hS (Nat.le_of_ble_eq_true rfl) (Nat.le_of_ble_eq_true rfl) dL_close_23 hlk
    · have hG := hG.trans (if_neg c_4)
      refine lv_lconst (v := 1) hx hb dL_close_10 (by decide) ?_
      refine lv_goto (tgt := 15) hx hb dL_close_11 (by decide) ?_
      refine va_last hx hb hK hP hD hS 0 1 rfl rfl (by unfold vp_in; decide) dL_close_15 (fun H locs hP hD hS => ?_)
      have hP : va_P D vwCl [(o0, .inl (aL, 1, .inr (.inl (vp_updL of (0 : Int32).toNatClampNeg 1)))), (k0, .inr (4, [.ref h4, lo, .ref h0, .int powered, .int stepsDone])), (h0, .inr (1, [.int wayToOther, .ref h1, .ref h2, .int place, .int speed, .int way, .int topSpeed, .int gain, .int brake, .int darkSpeed, .int rideSpeed, .int kilos, .int mostKilos, .int openContacts, .int fireFloor, .int ride, .int starts, .int distance, .int hardFalls])), (h1, .inr (2, [.int x_2, .int dplace, .int dplaces, .int dhold, .int dsteps, .int dbeam, .int dob, .int doc]))] H := hP
      have hD : va_D A [(o0, .inl (aL, 1, .inr (.inl (vp_updL of (0 : Int32).toNatClampNeg 1)))), (k0, .inr (4, [.ref h4, lo, .ref h0, .int powered, .int stepsDone])), (h0, .inr (1, [.int wayToOther, .ref h1, .ref h2, .int place, .int speed, .int way, .int topSpeed, .int gain, .int brake, .int darkSpeed, .int rideSpeed, .int kilos, .int mostKilos, .int openContacts, .int fireFloor, .int ride, .int starts, .int distance, .int hardFalls])), (h1, .inr (2, [.int x_2, .int dplace, .int dplaces, .int dhold, .int dsteps, .int dbeam, .int dob, .int doc]))] := hD
      refine lv_goto (tgt := 22) hx hb dL_close_16 (by decide) ?_
      refine lv_iconst (v := 0) hx hb dL_close_22 (by decide) ?_
      have hP := hP.sub (ws' := [(k0, .inr (4, [.ref h4, lo, .ref h0, .int powered, .int stepsDone])), (h0, .inr (1, [.int wayToOther, .ref h1, .ref h2, .int place, .int speed, .int way, .int topSpeed, .int gain, .int brake, .int darkSpeed, .int rideSpeed, .int kilos, .int mostKilos, .int openContacts, .int fireFloor, .int ride, .int starts, .int distance, .int hardFalls])), (h1, .inr (2, [.int x_2, .int dplace, .int dplaces, .int dhold, .int dsteps, .int dbeam, .int dob, .int doc])), (o0, .inl (aL, 1, .inr (.inl (vp_updL of (0 : Int32).toNatClampNeg 1))))]) [1, 2, 3, 0] rfl
      have hD := hD.sub (ws' := [(k0, .inr (4, [.ref h4, lo, .ref h0, .int powered, .int stepsDone])), (h0, .inr (1, [.int wayToOther, .ref h1, .ref h2, .int place, .int speed, .int way, .int topSpeed, .int gain, .int brake, .int darkSpeed, .int rideSpeed, .int kilos, .int mostKilos, .int openContacts, .int fireFloor, .int ride, .int starts, .int distance, .int hardFalls])), (h1, .inr (2, [.int x_2, .int dplace, .int dplaces, .int dhold, .int dsteps, .int dbeam, .int dob, .int doc])), (o0, .inl (aL, 1, .inr (.inl (vp_updL of (0 : Int32).toNatClampNeg 1))))]) [1, 2, 3, 0] (by decide) rfl
      exact rt_i hQ hx hb hr (x_2, (vp_updL of (0 : Int32).toNatClampNeg 1)) hG hP hD hS (Nat.le_of_ble_eq_true rfl) (Nat.le_of_ble_eq_true rfl) dL_close_23 hlk
def F_h_close_0n : Int32 :=
  ch F_close_0n
    (1)
    (1) fun _ =>
    1
theorem F_h_close_0n_u : F_h_close_0n =
  ((ch F_close_0n
    (1)
    (1) fun _ =>
    1) : Int32) := rfl
set_option maxHeartbeats 4000000 in
set_option maxRecDepth 100000 in
theorem c_h_close_0n (l : Launch) (hl9 : l.stackTraces = false) (D : va_G) (aI aL aZ : ClassId) (sz : Nat) (k0 : Nat) (h4 : Nat) (powered : Int32) (stepsDone : Int32) (up : Value) (o0 : Nat) (of : Nat → Int64) : Met l yL_close (.codeWith yL_close cL_close 4 (some .int) [(0, 16, 19, 13)] :: Gw) ({ frames := 8, cells := 1, slots := 6, locals := 136 }) (va_Pc [.ref k0, .int 0, .ref o0] (mpre D [(aI, .int), (aL, .long), (aZ, .boolean)] [(k0, .inr (4, [.ref h4, .null, up, .int powered, .int stepsDone])), (o0, .inl (aL, 1, .inr (.inl of)))] sz)) ((fun A : Nat → Prop => va_Qi (fun (r : Int32) (u : Unit) => F_h_close_0n = r) (mpst D A (fun (u : Unit) => [(k0, .inr (4, [.ref h4, .null, up, .int powered, .int stepsDone])), (o0, .inl (aL, 1, .inr (.inl of)))])) A) (va_A ([(k0, .inr (4, [.ref h4, .null, up, .int powered, .int stepsDone])), (o0, .inl (aL, 1, .inr (.inl of)))]) sz)) 1 6 (va_A ([(k0, .inr (4, [.ref h4, .null, up, .int powered, .int stepsDone])), (o0, .inl (aL, 1, .inr (.inl of)))]) sz) := by
  refine enh (cc := cL_close) (maxL := 4) (ret := (some .int)) (Qc := (fun A : Nat → Prop => va_Qi (fun (r : Int32) (u : Unit) => F_h_close_0n = r) (mpst D A (fun (u : Unit) => [(k0, .inr (4, [.ref h4, .null, up, .int powered, .int stepsDone])), (o0, .inl (aL, 1, .inr (.inl of)))])) A)) (by decide) rfl (Nat.le_of_ble_eq_true rfl) ?_
  intro p e s m args below meth c A ls Q hQ hx hb hr hts hown hlk hnm hml htab hA hS hP hK hD hE hl
  have hown : s.vm.findClass RL = some m.cls := hown
  have hl : lv_has ls 4 [(0, .ref k0), (1, .int 0), (2, .ref o0)] := hl
  have hG := F_h_close_0n_u
  refine lv_aload_n hx hb dL_close_0 rfl (lv_at hl 2 rfl) ?_
  refine lv_iconst (v := 0) hx hb dL_close_1 (by decide) ?_
  refine lv_aload_n hx hb dL_close_2 rfl (lv_at hl 0 rfl) ?_
  refine lv_iload_n hx hb dL_close_3 rfl (lv_at hl 1 rfl) ?_
  refine my_ci (wr := [(o0, .inl (aL, 1, .inr (.inl of)))]) [0] [1] (vx_runV (As := [.int 0]) (rest := [.int 0, .ref o0]) ⟨hx, hb, hml, hown, hts⟩ (c_close_0n l hl9 D aI aL aZ _ k0 h4 powered stepsDone up) (cwV 1 hts (gV w_446 w_447 w_448 w_35 w_449) rfl rfl rfl (by decide +kernel) ⟨Nat.le_of_ble_eq_true rfl, Nat.le_of_ble_eq_true rfl⟩) (prev_of hK hP hD hS hA hE [0] rfl (by decide) (ci := 4) rfl 0 rfl _) rfl rfl hl.1 rfl (lv_room (Nat.le_of_ble_eq_true rfl)) dL_close_4 ⟨Nat.le_of_ble_eq_true rfl, Nat.le_of_ble_eq_true rfl⟩) hP hD hS hA rfl rfl (by decide) (by decide) (fun E ce q9 u H locs hw hEx hP hD hS hce hcv hcl => ?_) (fun r_1 u_ H locs hw_2 hP hD hS => ?_)
  · obtain ⟨hw, hu⟩ := hw
    have htab : c.exceptionTable.toList = [⟨0, 16, 19, 13⟩] := htab
    subst hu
    have hG := hG.trans (ch_1 hw)
    refine my_h1 (u := 1) hown htab (by decide) (by decide) (hts _ (mG w_105)) hE hEx hce hcv hcl ?_
    have hP : va_P D vwCl [(o0, .inl (aL, 1, .inr (.inl of))), (k0, .inr (4, [.ref h4, .null, up, .int powered, .int stepsDone]))] H := hP
    have hD : va_D A [(o0, .inl (aL, 1, .inr (.inl of))), (k0, .inr (4, [.ref h4, .null, up, .int powered, .int stepsDone]))] := hD
    refine lv_astore_n (lv' := [(3, .ref q9), (0, .ref k0), (1, .int 0), (2, .ref o0)]) hx hb dL_close_19 rfl hl (by decide) rfl (fun ls hl => ?_)
    refine lv_iconst (v := 1) hx hb dL_close_20 (by decide) ?_
    have hP := hP.sub (ws' := [(k0, .inr (4, [.ref h4, .null, up, .int powered, .int stepsDone])), (o0, .inl (aL, 1, .inr (.inl of)))]) [1, 0] rfl
    have hD := hD.sub (ws' := [(k0, .inr (4, [.ref h4, .null, up, .int powered, .int stepsDone])), (o0, .inl (aL, 1, .inr (.inl of)))]) [1, 0] (by decide) rfl
    exact rt_i hQ hx hb hr () hG hP hD hS (Nat.le_of_ble_eq_true rfl) (Nat.le_of_ble_eq_true rfl) dL_close_21 hlk
  · skip
    exact False.elim hw_2
def F_h_close_1n : Int32 :=
  ch F_close_1n
    (1)
    (1) fun _ =>
    1
theorem F_h_close_1n_u : F_h_close_1n =
  ((ch F_close_1n
    (1)
    (1) fun _ =>
    1) : Int32) := rfl
set_option maxHeartbeats 4000000 in
set_option maxRecDepth 100000 in
theorem c_h_close_1n (l : Launch) (hl9 : l.stackTraces = false) (D : va_G) (aI aL aZ : ClassId) (sz : Nat) (k0 : Nat) (h4 : Nat) (powered : Int32) (stepsDone : Int32) (lo : Value) (o0 : Nat) (of : Nat → Int64) : Met l yL_close (.codeWith yL_close cL_close 4 (some .int) [(0, 16, 19, 13)] :: Gw) ({ frames := 8, cells := 1, slots := 6, locals := 136 }) (va_Pc [.ref k0, .int 1, .ref o0] (mpre D [(aI, .int), (aL, .long), (aZ, .boolean)] [(k0, .inr (4, [.ref h4, lo, .null, .int powered, .int stepsDone])), (o0, .inl (aL, 1, .inr (.inl of)))] sz)) ((fun A : Nat → Prop => va_Qi (fun (r : Int32) (u : Unit) => F_h_close_1n = r) (mpst D A (fun (u : Unit) => [(k0, .inr (4, [.ref h4, lo, .null, .int powered, .int stepsDone])), (o0, .inl (aL, 1, .inr (.inl of)))])) A) (va_A ([(k0, .inr (4, [.ref h4, lo, .null, .int powered, .int stepsDone])), (o0, .inl (aL, 1, .inr (.inl of)))]) sz)) 1 6 (va_A ([(k0, .inr (4, [.ref h4, lo, .null, .int powered, .int stepsDone])), (o0, .inl (aL, 1, .inr (.inl of)))]) sz) := by
  refine enh (cc := cL_close) (maxL := 4) (ret := (some .int)) (Qc := (fun A : Nat → Prop => va_Qi (fun (r : Int32) (u : Unit) => F_h_close_1n = r) (mpst D A (fun (u : Unit) => [(k0, .inr (4, [.ref h4, lo, .null, .int powered, .int stepsDone])), (o0, .inl (aL, 1, .inr (.inl of)))])) A)) (by decide) rfl (Nat.le_of_ble_eq_true rfl) ?_
  intro p e s m args below meth c A ls Q hQ hx hb hr hts hown hlk hnm hml htab hA hS hP hK hD hE hl
  have hown : s.vm.findClass RL = some m.cls := hown
  have hl : lv_has ls 4 [(0, .ref k0), (1, .int 1), (2, .ref o0)] := hl
  have hG := F_h_close_1n_u
  refine lv_aload_n hx hb dL_close_0 rfl (lv_at hl 2 rfl) ?_
  refine lv_iconst (v := 0) hx hb dL_close_1 (by decide) ?_
  refine lv_aload_n hx hb dL_close_2 rfl (lv_at hl 0 rfl) ?_
  refine lv_iload_n hx hb dL_close_3 rfl (lv_at hl 1 rfl) ?_
  refine my_ci (wr := [(o0, .inl (aL, 1, .inr (.inl of)))]) [0] [1] (vx_runV (As := [.int 1]) (rest := [.int 0, .ref o0]) ⟨hx, hb, hml, hown, hts⟩ (c_close_1n l hl9 D aI aL aZ _ k0 h4 powered stepsDone lo) (cwV 1 hts (gV w_446 w_447 w_448 w_35 w_449) rfl rfl rfl (by decide +kernel) ⟨Nat.le_of_ble_eq_true rfl, Nat.le_of_ble_eq_true rfl⟩) (prev_of hK hP hD hS hA hE [0] rfl (by decide) (ci := 4) rfl 0 rfl _) rfl rfl hl.1 rfl (lv_room (Nat.le_of_ble_eq_true rfl)) dL_close_4 ⟨Nat.le_of_ble_eq_true rfl, Nat.le_of_ble_eq_true rfl⟩) hP hD hS hA rfl rfl (by decide) (by decide) (fun E ce q9 u H locs hw hEx hP hD hS hce hcv hcl => ?_) (fun r_1 u_ H locs hw_2 hP hD hS => ?_)
  · obtain ⟨hw, hu⟩ := hw
    have htab : c.exceptionTable.toList = [⟨0, 16, 19, 13⟩] := htab
    subst hu
    have hG := hG.trans (ch_1 hw)
    refine my_h1 (u := 1) hown htab (by decide) (by decide) (hts _ (mG w_105)) hE hEx hce hcv hcl ?_
    have hP : va_P D vwCl [(o0, .inl (aL, 1, .inr (.inl of))), (k0, .inr (4, [.ref h4, lo, .null, .int powered, .int stepsDone]))] H := hP
    have hD : va_D A [(o0, .inl (aL, 1, .inr (.inl of))), (k0, .inr (4, [.ref h4, lo, .null, .int powered, .int stepsDone]))] := hD
    refine lv_astore_n (lv' := [(3, .ref q9), (0, .ref k0), (1, .int 1), (2, .ref o0)]) hx hb dL_close_19 rfl hl (by decide) rfl (fun ls hl => ?_)
    refine lv_iconst (v := 1) hx hb dL_close_20 (by decide) ?_
    have hP := hP.sub (ws' := [(k0, .inr (4, [.ref h4, lo, .null, .int powered, .int stepsDone])), (o0, .inl (aL, 1, .inr (.inl of)))]) [1, 0] rfl
    have hD := hD.sub (ws' := [(k0, .inr (4, [.ref h4, lo, .null, .int powered, .int stepsDone])), (o0, .inl (aL, 1, .inr (.inl of)))]) [1, 0] (by decide) rfl
    exact rt_i hQ hx hb hr () hG hP hD hS (Nat.le_of_ble_eq_true rfl) (Nat.le_of_ble_eq_true rfl) dL_close_21 hlk
  · skip
    exact False.elim hw_2
def F_h_close_x : Int32 :=
  ch F_close_x
    (1)
    (1) fun _ =>
    1
theorem F_h_close_x_u : F_h_close_x =
  ((ch F_close_x
    (1)
    (1) fun _ =>
    1) : Int32) := rfl
set_option maxHeartbeats 4000000 in
set_option maxRecDepth 100000 in
theorem c_h_close_x (l : Launch) (hl9 : l.stackTraces = false) (D : va_G) (aI aL aZ : ClassId) (sz : Nat) (k0 : Nat) (h4 : Nat) (powered : Int32) (stepsDone : Int32) (lo : Value) (up : Value) (p0 : Int32) (o0 : Nat) (of : Nat → Int64) (h9 : ¬ p0 = 0) (h8 : ¬ p0 = 1) : Met l yL_close (.codeWith yL_close cL_close 4 (some .int) [(0, 16, 19, 13)] :: Gw) ({ frames := 8, cells := 1, slots := 6, locals := 136 }) (va_Pc [.ref k0, .int p0, .ref o0] (mpre D [(aI, .int), (aL, .long), (aZ, .boolean)] [(k0, .inr (4, [.ref h4, lo, up, .int powered, .int stepsDone])), (o0, .inl (aL, 1, .inr (.inl of)))] sz)) ((fun A : Nat → Prop => va_Qi (fun (r : Int32) (u : Unit) => F_h_close_x = r) (mpst D A (fun (u : Unit) => [(k0, .inr (4, [.ref h4, lo, up, .int powered, .int stepsDone])), (o0, .inl (aL, 1, .inr (.inl of)))])) A) (va_A ([(k0, .inr (4, [.ref h4, lo, up, .int powered, .int stepsDone])), (o0, .inl (aL, 1, .inr (.inl of)))]) sz)) 1 6 (va_A ([(k0, .inr (4, [.ref h4, lo, up, .int powered, .int stepsDone])), (o0, .inl (aL, 1, .inr (.inl of)))]) sz) := by
  refine enh (cc := cL_close) (maxL := 4) (ret := (some .int)) (Qc := (fun A : Nat → Prop => va_Qi (fun (r : Int32) (u : Unit) => F_h_close_x = r) (mpst D A (fun (u : Unit) => [(k0, .inr (4, [.ref h4, lo, up, .int powered, .int stepsDone])), (o0, .inl (aL, 1, .inr (.inl of)))])) A)) (by decide) rfl (Nat.le_of_ble_eq_true rfl) ?_
  intro p e s m args below meth c A ls Q hQ hx hb hr hts hown hlk hnm hml htab hA hS hP hK hD hE hl
  have hown : s.vm.findClass RL = some m.cls := hown
  have hl : lv_has ls 4 [(0, .ref k0), (1, .int p0), (2, .ref o0)] := hl
  have hG := F_h_close_x_u
  refine lv_aload_n hx hb dL_close_0 rfl (lv_at hl 2 rfl) ?_
  refine lv_iconst (v := 0) hx hb dL_close_1 (by decide) ?_
  refine lv_aload_n hx hb dL_close_2 rfl (lv_at hl 0 rfl) ?_
  refine lv_iload_n hx hb dL_close_3 rfl (lv_at hl 1 rfl) ?_
  refine my_ci (wr := [(o0, .inl (aL, 1, .inr (.inl of)))]) [0] [1] (vx_runV (As := [.int p0]) (rest := [.int 0, .ref o0]) ⟨hx, hb, hml, hown, hts⟩ (c_close_x l hl9 D aI aL aZ _ k0 h4 powered stepsDone lo up p0 h9 h8) (cwV 1 hts (gV w_446 w_447 w_448 w_35 w_449) rfl rfl rfl (by decide +kernel) ⟨Nat.le_of_ble_eq_true rfl, Nat.le_of_ble_eq_true rfl⟩) (prev_of hK hP hD hS hA hE [0] rfl (by decide) (ci := 4) rfl 0 rfl _) rfl rfl hl.1 rfl (lv_room (Nat.le_of_ble_eq_true rfl)) dL_close_4 ⟨Nat.le_of_ble_eq_true rfl, Nat.le_of_ble_eq_true rfl⟩) hP hD hS hA rfl rfl (by decide) (by decide) (fun E ce q9 u H locs hw hEx hP hD hS hce hcv hcl => ?_) (fun r_1 u_ H locs hw_2 hP hD hS => ?_)
  · obtain ⟨hw, hu⟩ := hw
    have htab : c.exceptionTable.toList = [⟨0, 16, 19, 13⟩] := htab
    subst hu
    have hG := hG.trans (ch_1 hw)
    refine my_h1 (u := 1) hown htab (by decide) (by decide) (hts _ (mG w_105)) hE hEx hce hcv hcl ?_
    have hP : va_P D vwCl [(o0, .inl (aL, 1, .inr (.inl of))), (k0, .inr (4, [.ref h4, lo, up, .int powered, .int stepsDone]))] H := hP
    have hD : va_D A [(o0, .inl (aL, 1, .inr (.inl of))), (k0, .inr (4, [.ref h4, lo, up, .int powered, .int stepsDone]))] := hD
    refine lv_astore_n (lv' := [(3, .ref q9), (0, .ref k0), (1, .int p0), (2, .ref o0)]) hx hb dL_close_19 rfl hl (by decide) rfl (fun ls hl => ?_)
    refine lv_iconst (v := 1) hx hb dL_close_20 (by decide) ?_
    have hP := hP.sub (ws' := [(k0, .inr (4, [.ref h4, lo, up, .int powered, .int stepsDone])), (o0, .inl (aL, 1, .inr (.inl of)))]) [1, 0] rfl
    have hD := hD.sub (ws' := [(k0, .inr (4, [.ref h4, lo, up, .int powered, .int stepsDone])), (o0, .inl (aL, 1, .inr (.inl of)))]) [1, 0] (by decide) rfl
    exact rt_i hQ hx hb hr () hG hP hD hS (Nat.le_of_ble_eq_true rfl) (Nat.le_of_ble_eq_true rfl) dL_close_21 hlk
  · skip
    exact False.elim hw_2
theorem dL_beam_0 : decode cL_beam 0 = .ok (.aload_n 3, 1) := by decide +kernel
theorem dL_beam_1 : decode cL_beam 1 = .ok (.iconst 0, 1) := by decide +kernel
theorem dL_beam_2 : decode cL_beam 2 = .ok (.aload_n 0, 1) := by decide +kernel
theorem dL_beam_3 : decode cL_beam 3 = .ok (.iload_n 1, 1) := by decide +kernel
theorem dL_beam_4 : decode cL_beam 4 = .ok (.iload_n 2, 1) := by decide +kernel
theorem dL_beam_5 : decode cL_beam 5 = .ok (.invokevirtual 45, 3) := by decide +kernel
theorem dL_beam_8 : decode cL_beam 8 = .ok (.ifCond .eq 7, 3) := by decide +kernel
theorem dL_beam_11 : decode cL_beam 11 = .ok (.lconst 1, 1) := by decide +kernel
theorem dL_beam_12 : decode cL_beam 12 = .ok (.goto 4, 3) := by decide +kernel
theorem dL_beam_15 : decode cL_beam 15 = .ok (.lconst 0, 1) := by decide +kernel
theorem dL_beam_16 : decode cL_beam 16 = .ok (.lastore, 1) := by decide +kernel
theorem dL_beam_17 : decode cL_beam 17 = .ok (.goto 7, 3) := by decide +kernel
theorem dL_beam_20 : decode cL_beam 20 = .ok (.astore 4, 2) := by decide +kernel
theorem dL_beam_22 : decode cL_beam 22 = .ok (.iconst 1, 1) := by decide +kernel
theorem dL_beam_23 : decode cL_beam 23 = .ok (.ireturn, 1) := by decide +kernel
theorem dL_beam_24 : decode cL_beam 24 = .ok (.iconst 0, 1) := by decide +kernel
theorem dL_beam_25 : decode cL_beam 25 = .ok (.ireturn, 1) := by decide +kernel
def F_h_beam_0 (dbeam : Int32) (of : Nat → Int64) : Int32 × (Nat → Int64) :=
  ch (F_beam_0 dbeam)
    (default)
    (default) fun r_1 =>
    if r_1 = 0 then
      (0, (vp_updL of (0 : Int32).toNatClampNeg 0))
    else
      (0, (vp_updL of (0 : Int32).toNatClampNeg 1))
theorem F_h_beam_0_u (dbeam : Int32) (of : Nat → Int64) : F_h_beam_0 dbeam of =
  ((ch (F_beam_0 dbeam)
    (default)
    (default) fun r_1 =>
    if r_1 = 0 then
      (0, (vp_updL of (0 : Int32).toNatClampNeg 0))
    else
      (0, (vp_updL of (0 : Int32).toNatClampNeg 1))) : Int32 × (Nat → Int64)) := rfl
set_option maxHeartbeats 4000000 in
set_option maxRecDepth 100000 in
theorem c_h_beam_0 (l : Launch) (hl9 : l.stackTraces = false) (D : va_G) (aI aL aZ : ClassId) (sz : Nat) (k0 : Nat) (h4 : Nat) (powered : Int32) (stepsDone : Int32) (up : Value) (h0 : Nat) (h1 : Nat) (h2 : Nat) (wayToOther : Int32) (place : Int32) (speed : Int32) (way : Int32) (topSpeed : Int32) (gain : Int32) (brake : Int32) (darkSpeed : Int32) (rideSpeed : Int32) (kilos : Int32) (mostKilos : Int32) (openContacts : Int32) (fireFloor : Int32) (ride : Int32) (starts : Int32) (distance : Int32) (hardFalls : Int32) (dstate : Int32) (dplace : Int32) (dplaces : Int32) (dhold : Int32) (dsteps : Int32) (dbeam : Int32) (dob : Int32) (doc : Int32) (p1 : Int32) (o0 : Nat) (of : Nat → Int64) (hp1 : nb p1) (hbm : nb dbeam) : Met l yL_beam (.codeWith yL_beam cL_beam 5 (some .int) [(0, 17, 20, 13)] :: Gw) ({ frames := 2, cells := 0, slots := 0, locals := 46 }) (va_Pc [.ref k0, .int 0, .int p1, .ref o0] (mpre D [(aI, .int), (aL, .long), (aZ, .boolean)] [(k0, .inr (4, [.ref h4, .ref h0, up, .int powered, .int stepsDone])), (h0, .inr (1, [.int wayToOther, .ref h1, .ref h2, .int place, .int speed, .int way, .int topSpeed, .int gain, .int brake, .int darkSpeed, .int rideSpeed, .int kilos, .int mostKilos, .int openContacts, .int fireFloor, .int ride, .int starts, .int distance, .int hardFalls])), (h1, .inr (2, [.int dstate, .int dplace, .int dplaces, .int dhold, .int dsteps, .int dbeam, .int dob, .int doc])), (o0, .inl (aL, 1, .inr (.inl of)))] sz)) ((fun A : Nat → Prop => va_Qi (fun (r : Int32) (u : (Nat → Int64)) => F_h_beam_0 dbeam of = (r, u)) (mpst D A (fun (u : (Nat → Int64)) => [(k0, .inr (4, [.ref h4, .ref h0, up, .int powered, .int stepsDone])), (h0, .inr (1, [.int wayToOther, .ref h1, .ref h2, .int place, .int speed, .int way, .int topSpeed, .int gain, .int brake, .int darkSpeed, .int rideSpeed, .int kilos, .int mostKilos, .int openContacts, .int fireFloor, .int ride, .int starts, .int distance, .int hardFalls])), (h1, .inr (2, [.int dstate, .int dplace, .int dplaces, .int dhold, .int dsteps, .int p1, .int dob, .int doc])), (o0, .inl (aL, 1, .inr (.inl u)))])) A) (va_A ([(k0, .inr (4, [.ref h4, .ref h0, up, .int powered, .int stepsDone])), (h0, .inr (1, [.int wayToOther, .ref h1, .ref h2, .int place, .int speed, .int way, .int topSpeed, .int gain, .int brake, .int darkSpeed, .int rideSpeed, .int kilos, .int mostKilos, .int openContacts, .int fireFloor, .int ride, .int starts, .int distance, .int hardFalls])), (h1, .inr (2, [.int dstate, .int dplace, .int dplaces, .int dhold, .int dsteps, .int dbeam, .int dob, .int doc])), (o0, .inl (aL, 1, .inr (.inl of)))]) sz)) 0 0 (va_A ([(k0, .inr (4, [.ref h4, .ref h0, up, .int powered, .int stepsDone])), (h0, .inr (1, [.int wayToOther, .ref h1, .ref h2, .int place, .int speed, .int way, .int topSpeed, .int gain, .int brake, .int darkSpeed, .int rideSpeed, .int kilos, .int mostKilos, .int openContacts, .int fireFloor, .int ride, .int starts, .int distance, .int hardFalls])), (h1, .inr (2, [.int dstate, .int dplace, .int dplaces, .int dhold, .int dsteps, .int dbeam, .int dob, .int doc])), (o0, .inl (aL, 1, .inr (.inl of)))]) sz) := by
  refine enh (cc := cL_beam) (maxL := 5) (ret := (some .int)) (Qc := (fun A : Nat → Prop => va_Qi (fun (r : Int32) (u : (Nat → Int64)) => F_h_beam_0 dbeam of = (r, u)) (mpst D A (fun (u : (Nat → Int64)) => [(k0, .inr (4, [.ref h4, .ref h0, up, .int powered, .int stepsDone])), (h0, .inr (1, [.int wayToOther, .ref h1, .ref h2, .int place, .int speed, .int way, .int topSpeed, .int gain, .int brake, .int darkSpeed, .int rideSpeed, .int kilos, .int mostKilos, .int openContacts, .int fireFloor, .int ride, .int starts, .int distance, .int hardFalls])), (h1, .inr (2, [.int dstate, .int dplace, .int dplaces, .int dhold, .int dsteps, .int p1, .int dob, .int doc])), (o0, .inl (aL, 1, .inr (.inl u)))])) A)) (by decide) rfl (Nat.le_of_ble_eq_true rfl) ?_
  intro p e s m args below meth c A ls Q hQ hx hb hr hts hown hlk hnm hml htab hA hS hP hK hD hE hl
  have hown : s.vm.findClass RL = some m.cls := hown
  have hl : lv_has ls 5 [(0, .ref k0), (1, .int 0), (2, .int p1), (3, .ref o0)] := hl
  have hG := F_h_beam_0_u dbeam of
  refine lv_aload_n hx hb dL_beam_0 rfl (lv_at hl 3 rfl) ?_
  refine lv_iconst (v := 0) hx hb dL_beam_1 (by decide) ?_
  refine lv_aload_n hx hb dL_beam_2 rfl (lv_at hl 0 rfl) ?_
  refine lv_iload_n hx hb dL_beam_3 rfl (lv_at hl 1 rfl) ?_
  refine lv_iload_n hx hb dL_beam_4 rfl (lv_at hl 2 rfl) ?_
  refine my_ci (wr := [(o0, .inl (aL, 1, .inr (.inl of)))]) [0, 1, 2] [3] (vx_runV (As := [.int 0, .int p1]) (rest := [.int 0, .ref o0]) ⟨hx, hb, hml, hown, hts⟩ (c_beam_0 l hl9 D aI aL aZ _ k0 h4 powered stepsDone up h0 h1 h2 wayToOther place speed way topSpeed gain brake darkSpeed rideSpeed kilos mostKilos openContacts fireFloor ride starts distance hardFalls dstate dplace dplaces dhold dsteps dbeam dob doc p1 hp1 hbm) (cwV 2 hts (gV w_457 w_458 w_459 w_35 w_460) rfl rfl rfl (by decide +kernel) ⟨Nat.le_of_ble_eq_true rfl, Nat.le_of_ble_eq_true rfl⟩) (prev_of hK hP hD hS hA hE [0, 1, 2] rfl (by decide) (ci := 4) rfl 0 rfl _) rfl rfl hl.1 rfl (lv_room (Nat.le_of_ble_eq_true rfl)) dL_beam_5 ⟨Nat.le_of_ble_eq_true rfl, Nat.le_of_ble_eq_true rfl⟩) hP hD hS hA rfl rfl (by decide) (by decide) (fun E ce q9 u H locs hw hEx hP hD hS hce hcv hcl => ?_) (fun r_1 u_ H locs hw_2 hP hD hS => ?_)
  · obtain ⟨hw, hu⟩ := hw
    have htab : c.exceptionTable.toList = [⟨0, 17, 20, 13⟩] := htab
    exact False.elim hu
  · skip
    have hw_2 : F_beam_0 dbeam = .inr r_1 ∧ nb r_1 := hw_2
    have hG := hG.trans (ch_r hw_2.1)
    have hP : va_P D vwCl [(o0, .inl (aL, 1, .inr (.inl of))), (k0, .inr (4, [.ref h4, .ref h0, up, .int powered, .int stepsDone])), (h0, .inr (1, [.int wayToOther, .ref h1, .ref h2, .int place, .int speed, .int way, .int topSpeed, .int gain, .int brake, .int darkSpeed, .int rideSpeed, .int kilos, .int mostKilos, .int openContacts, .int fireFloor, .int ride, .int starts, .int distance, .int hardFalls])), (h1, .inr (2, [.int dstate, .int dplace, .int dplaces, .int dhold, .int dsteps, .int p1, .int dob, .int doc]))] H := hP
    have hD : va_D A [(o0, .inl (aL, 1, .inr (.inl of))), (k0, .inr (4, [.ref h4, .ref h0, up, .int powered, .int stepsDone])), (h0, .inr (1, [.int wayToOther, .ref h1, .ref h2, .int place, .int speed, .int way, .int topSpeed, .int gain, .int brake, .int darkSpeed, .int rideSpeed, .int kilos, .int mostKilos, .int openContacts, .int fireFloor, .int ride, .int starts, .int distance, .int hardFalls])), (h1, .inr (2, [.int dstate, .int dplace, .int dplaces, .int dhold, .int dsteps, .int p1, .int dob, .int doc]))] := hD
    refine lv_if_eq (tgt := 15) hx hb dL_beam_8 (by decide) (fun c_3 => ?_) (fun c_3 => ?_)
    · have hG := hG.trans (if_pos c_3)
      refine lv_lconst (v := 0) hx hb dL_beam_15 (by decide) ?_
      refine va_last hx hb hK hP hD hS 0 1 rfl rfl (by unfold vp_in; decide) dL_beam_16 (fun H locs hP hD hS => ?_)
      have hP : va_P D vwCl [(o0, .inl (aL, 1, .inr (.inl (vp_updL of (0 : Int32).toNatClampNeg 0)))), (k0, .inr (4, [.ref h4, .ref h0, up, .int powered, .int stepsDone])), (h0, .inr (1, [.int wayToOther, .ref h1, .ref h2, .int place, .int speed, .int way, .int topSpeed, .int gain, .int brake, .int darkSpeed, .int rideSpeed, .int kilos, .int mostKilos, .int openContacts, .int fireFloor, .int ride, .int starts, .int distance, .int hardFalls])), (h1, .inr (2, [.int dstate, .int dplace, .int dplaces, .int dhold, .int dsteps, .int p1, .int dob, .int doc]))] H := hP
      have hD : va_D A [(o0, .inl (aL, 1, .inr (.inl (vp_updL of (0 : Int32).toNatClampNeg 0)))), (k0, .inr (4, [.ref h4, .ref h0, up, .int powered, .int stepsDone])), (h0, .inr (1, [.int wayToOther, .ref h1, .ref h2, .int place, .int speed, .int way, .int topSpeed, .int gain, .int brake, .int darkSpeed, .int rideSpeed, .int kilos, .int mostKilos, .int openContacts, .int fireFloor, .int ride, .int starts, .int distance, .int hardFalls])), (h1, .inr (2, [.int dstate, .int dplace, .int dplaces, .int dhold, .int dsteps, .int p1, .int dob, .int doc]))] := hD
      refine lv_goto (tgt := 24) hx hb dL_beam_17 (by decide) ?_
      refine lv_iconst (v := 0) hx hb dL_beam_24 (by decide) ?_
      have hP := hP.sub (ws' := [(k0, .inr (4, [.ref h4, .ref h0, up, .int powered, .int stepsDone])), (h0, .inr (1, [.int wayToOther, .ref h1, .ref h2, .int place, .int speed, .int way, .int topSpeed, .int gain, .int brake, .int darkSpeed, .int rideSpeed, .int kilos, .int mostKilos, .int openContacts, .int fireFloor, .int ride, .int starts, .int distance, .int hardFalls])), (h1, .inr (2, [.int dstate, .int dplace, .int dplaces, .int dhold, .int dsteps, .int p1, .int dob, .int doc])), (o0, .inl (aL, 1, .inr (.inl (vp_updL of (0 : Int32).toNatClampNeg 0))))]) [1, 2, 3, 0] rfl
      have hD := hD.sub (ws' := [(k0, .inr (4, [.ref h4, .ref h0, up, .int powered, .int stepsDone])), (h0, .inr (1, [.int wayToOther, .ref h1, .ref h2, .int place, .int speed, .int way, .int topSpeed, .int gain, .int brake, .int darkSpeed, .int rideSpeed, .int kilos, .int mostKilos, .int openContacts, .int fireFloor, .int ride, .int starts, .int distance, .int hardFalls])), (h1, .inr (2, [.int dstate, .int dplace, .int dplaces, .int dhold, .int dsteps, .int p1, .int dob, .int doc])), (o0, .inl (aL, 1, .inr (.inl (vp_updL of (0 : Int32).toNatClampNeg 0))))]) [1, 2, 3, 0] (by decide) rfl
      exact rt_i hQ hx hb hr (vp_updL of (0 : Int32).toNatClampNeg 0) hG hP hD hS (Nat.le_of_ble_eq_true rfl) (Nat.le_of_ble_eq_true rfl) dL_beam_25 hlk
    · have hG := hG.trans (if_neg c_3)
      refine lv_lconst (v := 1) hx hb dL_beam_11 (by decide) ?_
      refine lv_goto (tgt := 16) hx hb dL_beam_12 (by decide) ?_
      refine va_last hx hb hK hP hD hS 0 1 rfl rfl (by unfold vp_in; decide) dL_beam_16 (fun H locs hP hD hS => ?_)
      have hP : va_P D vwCl [(o0, .inl (aL, 1, .inr (.inl (vp_updL of (0 : Int32).toNatClampNeg 1)))), (k0, .inr (4, [.ref h4, .ref h0, up, .int powered, .int stepsDone])), (h0, .inr (1, [.int wayToOther, .ref h1, .ref h2, .int place, .int speed, .int way, .int topSpeed, .int gain, .int brake, .int darkSpeed, .int rideSpeed, .int kilos, .int mostKilos, .int openContacts, .int fireFloor, .int ride, .int starts, .int distance, .int hardFalls])), (h1, .inr (2, [.int dstate, .int dplace, .int dplaces, .int dhold, .int dsteps, .int p1, .int dob, .int doc]))] H := hP
      have hD : va_D A [(o0, .inl (aL, 1, .inr (.inl (vp_updL of (0 : Int32).toNatClampNeg 1)))), (k0, .inr (4, [.ref h4, .ref h0, up, .int powered, .int stepsDone])), (h0, .inr (1, [.int wayToOther, .ref h1, .ref h2, .int place, .int speed, .int way, .int topSpeed, .int gain, .int brake, .int darkSpeed, .int rideSpeed, .int kilos, .int mostKilos, .int openContacts, .int fireFloor, .int ride, .int starts, .int distance, .int hardFalls])), (h1, .inr (2, [.int dstate, .int dplace, .int dplaces, .int dhold, .int dsteps, .int p1, .int dob, .int doc]))] := hD
      refine lv_goto (tgt := 24) hx hb dL_beam_17 (by decide) ?_
      refine lv_iconst (v := 0) hx hb dL_beam_24 (by decide) ?_
      have hP := hP.sub (ws' := [(k0, .inr (4, [.ref h4, .ref h0, up, .int powered, .int stepsDone])), (h0, .inr (1, [.int wayToOther, .ref h1, .ref h2, .int place, .int speed, .int way, .int topSpeed, .int gain, .int brake, .int darkSpeed, .int rideSpeed, .int kilos, .int mostKilos, .int openContacts, .int fireFloor, .int ride, .int starts, .int distance, .int hardFalls])), (h1, .inr (2, [.int dstate, .int dplace, .int dplaces, .int dhold, .int dsteps, .int p1, .int dob, .int doc])), (o0, .inl (aL, 1, .inr (.inl (vp_updL of (0 : Int32).toNatClampNeg 1))))]) [1, 2, 3, 0] rfl
      have hD := hD.sub (ws' := [(k0, .inr (4, [.ref h4, .ref h0, up, .int powered, .int stepsDone])), (h0, .inr (1, [.int wayToOther, .ref h1, .ref h2, .int place, .int speed, .int way, .int topSpeed, .int gain, .int brake, .int darkSpeed, .int rideSpeed, .int kilos, .int mostKilos, .int openContacts, .int fireFloor, .int ride, .int starts, .int distance, .int hardFalls])), (h1, .inr (2, [.int dstate, .int dplace, .int dplaces, .int dhold, .int dsteps, .int p1, .int dob, .int doc])), (o0, .inl (aL, 1, .inr (.inl (vp_updL of (0 : Int32).toNatClampNeg 1))))]) [1, 2, 3, 0] (by decide) rfl
      exact rt_i hQ hx hb hr (vp_updL of (0 : Int32).toNatClampNeg 1) hG hP hD hS (Nat.le_of_ble_eq_true rfl) (Nat.le_of_ble_eq_true rfl) dL_beam_25 hlk
def F_h_beam_1 (dbeam : Int32) (of : Nat → Int64) : Int32 × (Nat → Int64) :=
  ch (F_beam_1 dbeam)
    (default)
    (default) fun r_1 =>
    if r_1 = 0 then
      (0, (vp_updL of (0 : Int32).toNatClampNeg 0))
    else
      (0, (vp_updL of (0 : Int32).toNatClampNeg 1))
theorem F_h_beam_1_u (dbeam : Int32) (of : Nat → Int64) : F_h_beam_1 dbeam of =
  ((ch (F_beam_1 dbeam)
    (default)
    (default) fun r_1 =>
    if r_1 = 0 then
      (0, (vp_updL of (0 : Int32).toNatClampNeg 0))
    else
      (0, (vp_updL of (0 : Int32).toNatClampNeg 1))) : Int32 × (Nat → Int64)) := rfl
set_option maxHeartbeats 4000000 in
set_option maxRecDepth 100000 in
theorem c_h_beam_1 (l : Launch) (hl9 : l.stackTraces = false) (D : va_G) (aI aL aZ : ClassId) (sz : Nat) (k0 : Nat) (h4 : Nat) (powered : Int32) (stepsDone : Int32) (lo : Value) (h0 : Nat) (h1 : Nat) (h2 : Nat) (wayToOther : Int32) (place : Int32) (speed : Int32) (way : Int32) (topSpeed : Int32) (gain : Int32) (brake : Int32) (darkSpeed : Int32) (rideSpeed : Int32) (kilos : Int32) (mostKilos : Int32) (openContacts : Int32) (fireFloor : Int32) (ride : Int32) (starts : Int32) (distance : Int32) (hardFalls : Int32) (dstate : Int32) (dplace : Int32) (dplaces : Int32) (dhold : Int32) (dsteps : Int32) (dbeam : Int32) (dob : Int32) (doc : Int32) (p1 : Int32) (o0 : Nat) (of : Nat → Int64) (hp1 : nb p1) (hbm : nb dbeam) : Met l yL_beam (.codeWith yL_beam cL_beam 5 (some .int) [(0, 17, 20, 13)] :: Gw) ({ frames := 2, cells := 0, slots := 0, locals := 46 }) (va_Pc [.ref k0, .int 1, .int p1, .ref o0] (mpre D [(aI, .int), (aL, .long), (aZ, .boolean)] [(k0, .inr (4, [.ref h4, lo, .ref h0, .int powered, .int stepsDone])), (h0, .inr (1, [.int wayToOther, .ref h1, .ref h2, .int place, .int speed, .int way, .int topSpeed, .int gain, .int brake, .int darkSpeed, .int rideSpeed, .int kilos, .int mostKilos, .int openContacts, .int fireFloor, .int ride, .int starts, .int distance, .int hardFalls])), (h1, .inr (2, [.int dstate, .int dplace, .int dplaces, .int dhold, .int dsteps, .int dbeam, .int dob, .int doc])), (o0, .inl (aL, 1, .inr (.inl of)))] sz)) ((fun A : Nat → Prop => va_Qi (fun (r : Int32) (u : (Nat → Int64)) => F_h_beam_1 dbeam of = (r, u)) (mpst D A (fun (u : (Nat → Int64)) => [(k0, .inr (4, [.ref h4, lo, .ref h0, .int powered, .int stepsDone])), (h0, .inr (1, [.int wayToOther, .ref h1, .ref h2, .int place, .int speed, .int way, .int topSpeed, .int gain, .int brake, .int darkSpeed, .int rideSpeed, .int kilos, .int mostKilos, .int openContacts, .int fireFloor, .int ride, .int starts, .int distance, .int hardFalls])), (h1, .inr (2, [.int dstate, .int dplace, .int dplaces, .int dhold, .int dsteps, .int p1, .int dob, .int doc])), (o0, .inl (aL, 1, .inr (.inl u)))])) A) (va_A ([(k0, .inr (4, [.ref h4, lo, .ref h0, .int powered, .int stepsDone])), (h0, .inr (1, [.int wayToOther, .ref h1, .ref h2, .int place, .int speed, .int way, .int topSpeed, .int gain, .int brake, .int darkSpeed, .int rideSpeed, .int kilos, .int mostKilos, .int openContacts, .int fireFloor, .int ride, .int starts, .int distance, .int hardFalls])), (h1, .inr (2, [.int dstate, .int dplace, .int dplaces, .int dhold, .int dsteps, .int dbeam, .int dob, .int doc])), (o0, .inl (aL, 1, .inr (.inl of)))]) sz)) 0 0 (va_A ([(k0, .inr (4, [.ref h4, lo, .ref h0, .int powered, .int stepsDone])), (h0, .inr (1, [.int wayToOther, .ref h1, .ref h2, .int place, .int speed, .int way, .int topSpeed, .int gain, .int brake, .int darkSpeed, .int rideSpeed, .int kilos, .int mostKilos, .int openContacts, .int fireFloor, .int ride, .int starts, .int distance, .int hardFalls])), (h1, .inr (2, [.int dstate, .int dplace, .int dplaces, .int dhold, .int dsteps, .int dbeam, .int dob, .int doc])), (o0, .inl (aL, 1, .inr (.inl of)))]) sz) := by
  refine enh (cc := cL_beam) (maxL := 5) (ret := (some .int)) (Qc := (fun A : Nat → Prop => va_Qi (fun (r : Int32) (u : (Nat → Int64)) => F_h_beam_1 dbeam of = (r, u)) (mpst D A (fun (u : (Nat → Int64)) => [(k0, .inr (4, [.ref h4, lo, .ref h0, .int powered, .int stepsDone])), (h0, .inr (1, [.int wayToOther, .ref h1, .ref h2, .int place, .int speed, .int way, .int topSpeed, .int gain, .int brake, .int darkSpeed, .int rideSpeed, .int kilos, .int mostKilos, .int openContacts, .int fireFloor, .int ride, .int starts, .int distance, .int hardFalls])), (h1, .inr (2, [.int dstate, .int dplace, .int dplaces, .int dhold, .int dsteps, .int p1, .int dob, .int doc])), (o0, .inl (aL, 1, .inr (.inl u)))])) A)) (by decide) rfl (Nat.le_of_ble_eq_true rfl) ?_
  intro p e s m args below meth c A ls Q hQ hx hb hr hts hown hlk hnm hml htab hA hS hP hK hD hE hl
  have hown : s.vm.findClass RL = some m.cls := hown
  have hl : lv_has ls 5 [(0, .ref k0), (1, .int 1), (2, .int p1), (3, .ref o0)] := hl
  have hG := F_h_beam_1_u dbeam of
  refine lv_aload_n hx hb dL_beam_0 rfl (lv_at hl 3 rfl) ?_
  refine lv_iconst (v := 0) hx hb dL_beam_1 (by decide) ?_
  refine lv_aload_n hx hb dL_beam_2 rfl (lv_at hl 0 rfl) ?_
  refine lv_iload_n hx hb dL_beam_3 rfl (lv_at hl 1 rfl) ?_
  refine lv_iload_n hx hb dL_beam_4 rfl (lv_at hl 2 rfl) ?_
  refine my_ci (wr := [(o0, .inl (aL, 1, .inr (.inl of)))]) [0, 1, 2] [3] (vx_runV (As := [.int 1, .int p1]) (rest := [.int 0, .ref o0]) ⟨hx, hb, hml, hown, hts⟩ (c_beam_1 l hl9 D aI aL aZ _ k0 h4 powered stepsDone lo h0 h1 h2 wayToOther place speed way topSpeed gain brake darkSpeed rideSpeed kilos mostKilos openContacts fireFloor ride starts distance hardFalls dstate dplace dplaces dhold dsteps dbeam dob doc p1 hp1 hbm) (cwV 2 hts (gV w_457 w_458 w_459 w_35 w_460) rfl rfl rfl (by decide +kernel) ⟨Nat.le_of_ble_eq_true rfl, Nat.le_of_ble_eq_true rfl⟩) (prev_of hK hP hD hS hA hE [0, 1, 2] rfl (by decide) (ci := 4) rfl 0 rfl _) rfl rfl hl.1 rfl (lv_room (Nat.le_of_ble_eq_true rfl)) dL_beam_5 ⟨Nat.le_of_ble_eq_true rfl, Nat.le_of_ble_eq_true rfl⟩) hP hD hS hA rfl rfl (by decide) (by decide) (fun E ce q9 u H locs hw hEx hP hD hS hce hcv hcl => ?_) (fun r_1 u_ H locs hw_2 hP hD hS => ?_)
  · obtain ⟨hw, hu⟩ := hw
    have htab : c.exceptionTable.toList = [⟨0, 17, 20, 13⟩] := htab
    exact False.elim hu
  · skip
    have hw_2 : F_beam_1 dbeam = .inr r_1 ∧ nb r_1 := hw_2
    have hG := hG.trans (ch_r hw_2.1)
    have hP : va_P D vwCl [(o0, .inl (aL, 1, .inr (.inl of))), (k0, .inr (4, [.ref h4, lo, .ref h0, .int powered, .int stepsDone])), (h0, .inr (1, [.int wayToOther, .ref h1, .ref h2, .int place, .int speed, .int way, .int topSpeed, .int gain, .int brake, .int darkSpeed, .int rideSpeed, .int kilos, .int mostKilos, .int openContacts, .int fireFloor, .int ride, .int starts, .int distance, .int hardFalls])), (h1, .inr (2, [.int dstate, .int dplace, .int dplaces, .int dhold, .int dsteps, .int p1, .int dob, .int doc]))] H := hP
    have hD : va_D A [(o0, .inl (aL, 1, .inr (.inl of))), (k0, .inr (4, [.ref h4, lo, .ref h0, .int powered, .int stepsDone])), (h0, .inr (1, [.int wayToOther, .ref h1, .ref h2, .int place, .int speed, .int way, .int topSpeed, .int gain, .int brake, .int darkSpeed, .int rideSpeed, .int kilos, .int mostKilos, .int openContacts, .int fireFloor, .int ride, .int starts, .int distance, .int hardFalls])), (h1, .inr (2, [.int dstate, .int dplace, .int dplaces, .int dhold, .int dsteps, .int p1, .int dob, .int doc]))] := hD
    refine lv_if_eq (tgt := 15) hx hb dL_beam_8 (by decide) (fun c_3 => ?_) (fun c_3 => ?_)
    · have hG := hG.trans (if_pos c_3)
      refine lv_lconst (v := 0) hx hb dL_beam_15 (by decide) ?_
      refine va_last hx hb hK hP hD hS 0 1 rfl rfl (by unfold vp_in; decide) dL_beam_16 (fun H locs hP hD hS => ?_)
      have hP : va_P D vwCl [(o0, .inl (aL, 1, .inr (.inl (vp_updL of (0 : Int32).toNatClampNeg 0)))), (k0, .inr (4, [.ref h4, lo, .ref h0, .int powered, .int stepsDone])), (h0, .inr (1, [.int wayToOther, .ref h1, .ref h2, .int place, .int speed, .int way, .int topSpeed, .int gain, .int brake, .int darkSpeed, .int rideSpeed, .int kilos, .int mostKilos, .int openContacts, .int fireFloor, .int ride, .int starts, .int distance, .int hardFalls])), (h1, .inr (2, [.int dstate, .int dplace, .int dplaces, .int dhold, .int dsteps, .int p1, .int dob, .int doc]))] H := hP
      have hD : va_D A [(o0, .inl (aL, 1, .inr (.inl (vp_updL of (0 : Int32).toNatClampNeg 0)))), (k0, .inr (4, [.ref h4, lo, .ref h0, .int powered, .int stepsDone])), (h0, .inr (1, [.int wayToOther, .ref h1, .ref h2, .int place, .int speed, .int way, .int topSpeed, .int gain, .int brake, .int darkSpeed, .int rideSpeed, .int kilos, .int mostKilos, .int openContacts, .int fireFloor, .int ride, .int starts, .int distance, .int hardFalls])), (h1, .inr (2, [.int dstate, .int dplace, .int dplaces, .int dhold, .int dsteps, .int p1, .int dob, .int doc]))] := hD
      refine lv_goto (tgt := 24) hx hb dL_beam_17 (by decide) ?_
      refine lv_iconst (v := 0) hx hb dL_beam_24 (by decide) ?_
      have hP := hP.sub (ws' := [(k0, .inr (4, [.ref h4, lo, .ref h0, .int powered, .int stepsDone])), (h0, .inr (1, [.int wayToOther, .ref h1, .ref h2, .int place, .int speed, .int way, .int topSpeed, .int gain, .int brake, .int darkSpeed, .int rideSpeed, .int kilos, .int mostKilos, .int openContacts, .int fireFloor, .int ride, .int starts, .int distance, .int hardFalls])), (h1, .inr (2, [.int dstate, .int dplace, .int dplaces, .int dhold, .int dsteps, .int p1, .int dob, .int doc])), (o0, .inl (aL, 1, .inr (.inl (vp_updL of (0 : Int32).toNatClampNeg 0))))]) [1, 2, 3, 0] rfl
      have hD := hD.sub (ws' := [(k0, .inr (4, [.ref h4, lo, .ref h0, .int powered, .int stepsDone])), (h0, .inr (1, [.int wayToOther, .ref h1, .ref h2, .int place, .int speed, .int way, .int topSpeed, .int gain, .int brake, .int darkSpeed, .int rideSpeed, .int kilos, .int mostKilos, .int openContacts, .int fireFloor, .int ride, .int starts, .int distance, .int hardFalls])), (h1, .inr (2, [.int dstate, .int dplace, .int dplaces, .int dhold, .int dsteps, .int p1, .int dob, .int doc])), (o0, .inl (aL, 1, .inr (.inl (vp_updL of (0 : Int32).toNatClampNeg 0))))]) [1, 2, 3, 0] (by decide) rfl
      exact rt_i hQ hx hb hr (vp_updL of (0 : Int32).toNatClampNeg 0) hG hP hD hS (Nat.le_of_ble_eq_true rfl) (Nat.le_of_ble_eq_true rfl) dL_beam_25 hlk
    · have hG := hG.trans (if_neg c_3)
      refine lv_lconst (v := 1) hx hb dL_beam_11 (by decide) ?_
      refine lv_goto (tgt := 16) hx hb dL_beam_12 (by decide) ?_
      refine va_last hx hb hK hP hD hS 0 1 rfl rfl (by unfold vp_in; decide) dL_beam_16 (fun H locs hP hD hS => ?_)
      have hP : va_P D vwCl [(o0, .inl (aL, 1, .inr (.inl (vp_updL of (0 : Int32).toNatClampNeg 1)))), (k0, .inr (4, [.ref h4, lo, .ref h0, .int powered, .int stepsDone])), (h0, .inr (1, [.int wayToOther, .ref h1, .ref h2, .int place, .int speed, .int way, .int topSpeed, .int gain, .int brake, .int darkSpeed, .int rideSpeed, .int kilos, .int mostKilos, .int openContacts, .int fireFloor, .int ride, .int starts, .int distance, .int hardFalls])), (h1, .inr (2, [.int dstate, .int dplace, .int dplaces, .int dhold, .int dsteps, .int p1, .int dob, .int doc]))] H := hP
      have hD : va_D A [(o0, .inl (aL, 1, .inr (.inl (vp_updL of (0 : Int32).toNatClampNeg 1)))), (k0, .inr (4, [.ref h4, lo, .ref h0, .int powered, .int stepsDone])), (h0, .inr (1, [.int wayToOther, .ref h1, .ref h2, .int place, .int speed, .int way, .int topSpeed, .int gain, .int brake, .int darkSpeed, .int rideSpeed, .int kilos, .int mostKilos, .int openContacts, .int fireFloor, .int ride, .int starts, .int distance, .int hardFalls])), (h1, .inr (2, [.int dstate, .int dplace, .int dplaces, .int dhold, .int dsteps, .int p1, .int dob, .int doc]))] := hD
      refine lv_goto (tgt := 24) hx hb dL_beam_17 (by decide) ?_
      refine lv_iconst (v := 0) hx hb dL_beam_24 (by decide) ?_
      have hP := hP.sub (ws' := [(k0, .inr (4, [.ref h4, lo, .ref h0, .int powered, .int stepsDone])), (h0, .inr (1, [.int wayToOther, .ref h1, .ref h2, .int place, .int speed, .int way, .int topSpeed, .int gain, .int brake, .int darkSpeed, .int rideSpeed, .int kilos, .int mostKilos, .int openContacts, .int fireFloor, .int ride, .int starts, .int distance, .int hardFalls])), (h1, .inr (2, [.int dstate, .int dplace, .int dplaces, .int dhold, .int dsteps, .int p1, .int dob, .int doc])), (o0, .inl (aL, 1, .inr (.inl (vp_updL of (0 : Int32).toNatClampNeg 1))))]) [1, 2, 3, 0] rfl
      have hD := hD.sub (ws' := [(k0, .inr (4, [.ref h4, lo, .ref h0, .int powered, .int stepsDone])), (h0, .inr (1, [.int wayToOther, .ref h1, .ref h2, .int place, .int speed, .int way, .int topSpeed, .int gain, .int brake, .int darkSpeed, .int rideSpeed, .int kilos, .int mostKilos, .int openContacts, .int fireFloor, .int ride, .int starts, .int distance, .int hardFalls])), (h1, .inr (2, [.int dstate, .int dplace, .int dplaces, .int dhold, .int dsteps, .int p1, .int dob, .int doc])), (o0, .inl (aL, 1, .inr (.inl (vp_updL of (0 : Int32).toNatClampNeg 1))))]) [1, 2, 3, 0] (by decide) rfl
      exact rt_i hQ hx hb hr (vp_updL of (0 : Int32).toNatClampNeg 1) hG hP hD hS (Nat.le_of_ble_eq_true rfl) (Nat.le_of_ble_eq_true rfl) dL_beam_25 hlk
def F_h_beam_0n : Int32 :=
  ch F_beam_0n
    (1)
    (1) fun _ =>
    1
theorem F_h_beam_0n_u : F_h_beam_0n =
  ((ch F_beam_0n
    (1)
    (1) fun _ =>
    1) : Int32) := rfl
set_option maxHeartbeats 4000000 in
set_option maxRecDepth 100000 in
theorem c_h_beam_0n (l : Launch) (hl9 : l.stackTraces = false) (D : va_G) (aI aL aZ : ClassId) (sz : Nat) (k0 : Nat) (h4 : Nat) (powered : Int32) (stepsDone : Int32) (up : Value) (p1 : Int32) (o0 : Nat) (of : Nat → Int64) : Met l yL_beam (.codeWith yL_beam cL_beam 5 (some .int) [(0, 17, 20, 13)] :: Gw) ({ frames := 8, cells := 1, slots := 6, locals := 138 }) (va_Pc [.ref k0, .int 0, .int p1, .ref o0] (mpre D [(aI, .int), (aL, .long), (aZ, .boolean)] [(k0, .inr (4, [.ref h4, .null, up, .int powered, .int stepsDone])), (o0, .inl (aL, 1, .inr (.inl of)))] sz)) ((fun A : Nat → Prop => va_Qi (fun (r : Int32) (u : Unit) => F_h_beam_0n = r) (mpst D A (fun (u : Unit) => [(k0, .inr (4, [.ref h4, .null, up, .int powered, .int stepsDone])), (o0, .inl (aL, 1, .inr (.inl of)))])) A) (va_A ([(k0, .inr (4, [.ref h4, .null, up, .int powered, .int stepsDone])), (o0, .inl (aL, 1, .inr (.inl of)))]) sz)) 1 6 (va_A ([(k0, .inr (4, [.ref h4, .null, up, .int powered, .int stepsDone])), (o0, .inl (aL, 1, .inr (.inl of)))]) sz) := by
  refine enh (cc := cL_beam) (maxL := 5) (ret := (some .int)) (Qc := (fun A : Nat → Prop => va_Qi (fun (r : Int32) (u : Unit) => F_h_beam_0n = r) (mpst D A (fun (u : Unit) => [(k0, .inr (4, [.ref h4, .null, up, .int powered, .int stepsDone])), (o0, .inl (aL, 1, .inr (.inl of)))])) A)) (by decide) rfl (Nat.le_of_ble_eq_true rfl) ?_
  intro p e s m args below meth c A ls Q hQ hx hb hr hts hown hlk hnm hml htab hA hS hP hK hD hE hl
  have hown : s.vm.findClass RL = some m.cls := hown
  have hl : lv_has ls 5 [(0, .ref k0), (1, .int 0), (2, .int p1), (3, .ref o0)] := hl
  have hG := F_h_beam_0n_u
  refine lv_aload_n hx hb dL_beam_0 rfl (lv_at hl 3 rfl) ?_
  refine lv_iconst (v := 0) hx hb dL_beam_1 (by decide) ?_
  refine lv_aload_n hx hb dL_beam_2 rfl (lv_at hl 0 rfl) ?_
  refine lv_iload_n hx hb dL_beam_3 rfl (lv_at hl 1 rfl) ?_
  refine lv_iload_n hx hb dL_beam_4 rfl (lv_at hl 2 rfl) ?_
  refine my_ci (wr := [(o0, .inl (aL, 1, .inr (.inl of)))]) [0] [1] (vx_runV (As := [.int 0, .int p1]) (rest := [.int 0, .ref o0]) ⟨hx, hb, hml, hown, hts⟩ (c_beam_0n l hl9 D aI aL aZ _ k0 h4 powered stepsDone up p1) (cwV 2 hts (gV w_457 w_458 w_459 w_35 w_460) rfl rfl rfl (by decide +kernel) ⟨Nat.le_of_ble_eq_true rfl, Nat.le_of_ble_eq_true rfl⟩) (prev_of hK hP hD hS hA hE [0] rfl (by decide) (ci := 4) rfl 0 rfl _) rfl rfl hl.1 rfl (lv_room (Nat.le_of_ble_eq_true rfl)) dL_beam_5 ⟨Nat.le_of_ble_eq_true rfl, Nat.le_of_ble_eq_true rfl⟩) hP hD hS hA rfl rfl (by decide) (by decide) (fun E ce q9 u H locs hw hEx hP hD hS hce hcv hcl => ?_) (fun r_1 u_ H locs hw_2 hP hD hS => ?_)
  · obtain ⟨hw, hu⟩ := hw
    have htab : c.exceptionTable.toList = [⟨0, 17, 20, 13⟩] := htab
    subst hu
    have hG := hG.trans (ch_1 hw)
    refine my_h1 (u := 1) hown htab (by decide) (by decide) (hts _ (mG w_105)) hE hEx hce hcv hcl ?_
    have hP : va_P D vwCl [(o0, .inl (aL, 1, .inr (.inl of))), (k0, .inr (4, [.ref h4, .null, up, .int powered, .int stepsDone]))] H := hP
    have hD : va_D A [(o0, .inl (aL, 1, .inr (.inl of))), (k0, .inr (4, [.ref h4, .null, up, .int powered, .int stepsDone]))] := hD
    refine lv_astore (lv' := [(4, .ref q9), (0, .ref k0), (1, .int 0), (2, .int p1), (3, .ref o0)]) hx hb dL_beam_20 hl (by decide) rfl (fun ls hl => ?_)
    refine lv_iconst (v := 1) hx hb dL_beam_22 (by decide) ?_
    have hP := hP.sub (ws' := [(k0, .inr (4, [.ref h4, .null, up, .int powered, .int stepsDone])), (o0, .inl (aL, 1, .inr (.inl of)))]) [1, 0] rfl
    have hD := hD.sub (ws' := [(k0, .inr (4, [.ref h4, .null, up, .int powered, .int stepsDone])), (o0, .inl (aL, 1, .inr (.inl of)))]) [1, 0] (by decide) rfl
    exact rt_i hQ hx hb hr () hG hP hD hS (Nat.le_of_ble_eq_true rfl) (Nat.le_of_ble_eq_true rfl) dL_beam_23 hlk
  · skip
    exact False.elim hw_2
def F_h_beam_1n : Int32 :=
  ch F_beam_1n
    (1)
    (1) fun _ =>
    1
theorem F_h_beam_1n_u : F_h_beam_1n =
  ((ch F_beam_1n
    (1)
    (1) fun _ =>
    1) : Int32) := rfl
set_option maxHeartbeats 4000000 in
set_option maxRecDepth 100000 in
theorem c_h_beam_1n (l : Launch) (hl9 : l.stackTraces = false) (D : va_G) (aI aL aZ : ClassId) (sz : Nat) (k0 : Nat) (h4 : Nat) (powered : Int32) (stepsDone : Int32) (lo : Value) (p1 : Int32) (o0 : Nat) (of : Nat → Int64) : Met l yL_beam (.codeWith yL_beam cL_beam 5 (some .int) [(0, 17, 20, 13)] :: Gw) ({ frames := 8, cells := 1, slots := 6, locals := 138 }) (va_Pc [.ref k0, .int 1, .int p1, .ref o0] (mpre D [(aI, .int), (aL, .long), (aZ, .boolean)] [(k0, .inr (4, [.ref h4, lo, .null, .int powered, .int stepsDone])), (o0, .inl (aL, 1, .inr (.inl of)))] sz)) ((fun A : Nat → Prop => va_Qi (fun (r : Int32) (u : Unit) => F_h_beam_1n = r) (mpst D A (fun (u : Unit) => [(k0, .inr (4, [.ref h4, lo, .null, .int powered, .int stepsDone])), (o0, .inl (aL, 1, .inr (.inl of)))])) A) (va_A ([(k0, .inr (4, [.ref h4, lo, .null, .int powered, .int stepsDone])), (o0, .inl (aL, 1, .inr (.inl of)))]) sz)) 1 6 (va_A ([(k0, .inr (4, [.ref h4, lo, .null, .int powered, .int stepsDone])), (o0, .inl (aL, 1, .inr (.inl of)))]) sz) := by
  refine enh (cc := cL_beam) (maxL := 5) (ret := (some .int)) (Qc := (fun A : Nat → Prop => va_Qi (fun (r : Int32) (u : Unit) => F_h_beam_1n = r) (mpst D A (fun (u : Unit) => [(k0, .inr (4, [.ref h4, lo, .null, .int powered, .int stepsDone])), (o0, .inl (aL, 1, .inr (.inl of)))])) A)) (by decide) rfl (Nat.le_of_ble_eq_true rfl) ?_
  intro p e s m args below meth c A ls Q hQ hx hb hr hts hown hlk hnm hml htab hA hS hP hK hD hE hl
  have hown : s.vm.findClass RL = some m.cls := hown
  have hl : lv_has ls 5 [(0, .ref k0), (1, .int 1), (2, .int p1), (3, .ref o0)] := hl
  have hG := F_h_beam_1n_u
  refine lv_aload_n hx hb dL_beam_0 rfl (lv_at hl 3 rfl) ?_
  refine lv_iconst (v := 0) hx hb dL_beam_1 (by decide) ?_
  refine lv_aload_n hx hb dL_beam_2 rfl (lv_at hl 0 rfl) ?_
  refine lv_iload_n hx hb dL_beam_3 rfl (lv_at hl 1 rfl) ?_
  refine lv_iload_n hx hb dL_beam_4 rfl (lv_at hl 2 rfl) ?_
  refine my_ci (wr := [(o0, .inl (aL, 1, .inr (.inl of)))]) [0] [1] (vx_runV (As := [.int 1, .int p1]) (rest := [.int 0, .ref o0]) ⟨hx, hb, hml, hown, hts⟩ (c_beam_1n l hl9 D aI aL aZ _ k0 h4 powered stepsDone lo p1) (cwV 2 hts (gV w_457 w_458 w_459 w_35 w_460) rfl rfl rfl (by decide +kernel) ⟨Nat.le_of_ble_eq_true rfl, Nat.le_of_ble_eq_true rfl⟩) (prev_of hK hP hD hS hA hE [0] rfl (by decide) (ci := 4) rfl 0 rfl _) rfl rfl hl.1 rfl (lv_room (Nat.le_of_ble_eq_true rfl)) dL_beam_5 ⟨Nat.le_of_ble_eq_true rfl, Nat.le_of_ble_eq_true rfl⟩) hP hD hS hA rfl rfl (by decide) (by decide) (fun E ce q9 u H locs hw hEx hP hD hS hce hcv hcl => ?_) (fun r_1 u_ H locs hw_2 hP hD hS => ?_)
  · obtain ⟨hw, hu⟩ := hw
    have htab : c.exceptionTable.toList = [⟨0, 17, 20, 13⟩] := htab
    subst hu
    have hG := hG.trans (ch_1 hw)
    refine my_h1 (u := 1) hown htab (by decide) (by decide) (hts _ (mG w_105)) hE hEx hce hcv hcl ?_
    have hP : va_P D vwCl [(o0, .inl (aL, 1, .inr (.inl of))), (k0, .inr (4, [.ref h4, lo, .null, .int powered, .int stepsDone]))] H := hP
    have hD : va_D A [(o0, .inl (aL, 1, .inr (.inl of))), (k0, .inr (4, [.ref h4, lo, .null, .int powered, .int stepsDone]))] := hD
    refine lv_astore (lv' := [(4, .ref q9), (0, .ref k0), (1, .int 1), (2, .int p1), (3, .ref o0)]) hx hb dL_beam_20 hl (by decide) rfl (fun ls hl => ?_)
    refine lv_iconst (v := 1) hx hb dL_beam_22 (by decide) ?_
    have hP := hP.sub (ws' := [(k0, .inr (4, [.ref h4, lo, .null, .int powered, .int stepsDone])), (o0, .inl (aL, 1, .inr (.inl of)))]) [1, 0] rfl
    have hD := hD.sub (ws' := [(k0, .inr (4, [.ref h4, lo, .null, .int powered, .int stepsDone])), (o0, .inl (aL, 1, .inr (.inl of)))]) [1, 0] (by decide) rfl
    exact rt_i hQ hx hb hr () hG hP hD hS (Nat.le_of_ble_eq_true rfl) (Nat.le_of_ble_eq_true rfl) dL_beam_23 hlk
  · skip
    exact False.elim hw_2
def F_h_beam_x : Int32 :=
  ch F_beam_x
    (1)
    (1) fun _ =>
    1
theorem F_h_beam_x_u : F_h_beam_x =
  ((ch F_beam_x
    (1)
    (1) fun _ =>
    1) : Int32) := rfl
set_option maxHeartbeats 4000000 in
set_option maxRecDepth 100000 in
theorem c_h_beam_x (l : Launch) (hl9 : l.stackTraces = false) (D : va_G) (aI aL aZ : ClassId) (sz : Nat) (k0 : Nat) (h4 : Nat) (powered : Int32) (stepsDone : Int32) (lo : Value) (up : Value) (p0 : Int32) (p1 : Int32) (o0 : Nat) (of : Nat → Int64) (h9 : ¬ p0 = 0) (h8 : ¬ p0 = 1) : Met l yL_beam (.codeWith yL_beam cL_beam 5 (some .int) [(0, 17, 20, 13)] :: Gw) ({ frames := 8, cells := 1, slots := 6, locals := 138 }) (va_Pc [.ref k0, .int p0, .int p1, .ref o0] (mpre D [(aI, .int), (aL, .long), (aZ, .boolean)] [(k0, .inr (4, [.ref h4, lo, up, .int powered, .int stepsDone])), (o0, .inl (aL, 1, .inr (.inl of)))] sz)) ((fun A : Nat → Prop => va_Qi (fun (r : Int32) (u : Unit) => F_h_beam_x = r) (mpst D A (fun (u : Unit) => [(k0, .inr (4, [.ref h4, lo, up, .int powered, .int stepsDone])), (o0, .inl (aL, 1, .inr (.inl of)))])) A) (va_A ([(k0, .inr (4, [.ref h4, lo, up, .int powered, .int stepsDone])), (o0, .inl (aL, 1, .inr (.inl of)))]) sz)) 1 6 (va_A ([(k0, .inr (4, [.ref h4, lo, up, .int powered, .int stepsDone])), (o0, .inl (aL, 1, .inr (.inl of)))]) sz) := by
  refine enh (cc := cL_beam) (maxL := 5) (ret := (some .int)) (Qc := (fun A : Nat → Prop => va_Qi (fun (r : Int32) (u : Unit) => F_h_beam_x = r) (mpst D A (fun (u : Unit) => [(k0, .inr (4, [.ref h4, lo, up, .int powered, .int stepsDone])), (o0, .inl (aL, 1, .inr (.inl of)))])) A)) (by decide) rfl (Nat.le_of_ble_eq_true rfl) ?_
  intro p e s m args below meth c A ls Q hQ hx hb hr hts hown hlk hnm hml htab hA hS hP hK hD hE hl
  have hown : s.vm.findClass RL = some m.cls := hown
  have hl : lv_has ls 5 [(0, .ref k0), (1, .int p0), (2, .int p1), (3, .ref o0)] := hl
  have hG := F_h_beam_x_u
  refine lv_aload_n hx hb dL_beam_0 rfl (lv_at hl 3 rfl) ?_
  refine lv_iconst (v := 0) hx hb dL_beam_1 (by decide) ?_
  refine lv_aload_n hx hb dL_beam_2 rfl (lv_at hl 0 rfl) ?_
  refine lv_iload_n hx hb dL_beam_3 rfl (lv_at hl 1 rfl) ?_
  refine lv_iload_n hx hb dL_beam_4 rfl (lv_at hl 2 rfl) ?_
  refine my_ci (wr := [(o0, .inl (aL, 1, .inr (.inl of)))]) [0] [1] (vx_runV (As := [.int p0, .int p1]) (rest := [.int 0, .ref o0]) ⟨hx, hb, hml, hown, hts⟩ (c_beam_x l hl9 D aI aL aZ _ k0 h4 powered stepsDone lo up p0 p1 h9 h8) (cwV 2 hts (gV w_457 w_458 w_459 w_35 w_460) rfl rfl rfl (by decide +kernel) ⟨Nat.le_of_ble_eq_true rfl, Nat.le_of_ble_eq_true rfl⟩) (prev_of hK hP hD hS hA hE [0] rfl (by decide) (ci := 4) rfl 0 rfl _) rfl rfl hl.1 rfl (lv_room (Nat.le_of_ble_eq_true rfl)) dL_beam_5 ⟨Nat.le_of_ble_eq_true rfl, Nat.le_of_ble_eq_true rfl⟩) hP hD hS hA rfl rfl (by decide) (by decide) (fun E ce q9 u H locs hw hEx hP hD hS hce hcv hcl => ?_) (fun r_1 u_ H locs hw_2 hP hD hS => ?_)
  · obtain ⟨hw, hu⟩ := hw
    have htab : c.exceptionTable.toList = [⟨0, 17, 20, 13⟩] := htab
    subst hu
    have hG := hG.trans (ch_1 hw)
    refine my_h1 (u := 1) hown htab (by decide) (by decide) (hts _ (mG w_105)) hE hEx hce hcv hcl ?_
    have hP : va_P D vwCl [(o0, .inl (aL, 1, .inr (.inl of))), (k0, .inr (4, [.ref h4, lo, up, .int powered, .int stepsDone]))] H := hP
    have hD : va_D A [(o0, .inl (aL, 1, .inr (.inl of))), (k0, .inr (4, [.ref h4, lo, up, .int powered, .int stepsDone]))] := hD
    refine lv_astore (lv' := [(4, .ref q9), (0, .ref k0), (1, .int p0), (2, .int p1), (3, .ref o0)]) hx hb dL_beam_20 hl (by decide) rfl (fun ls hl => ?_)
    refine lv_iconst (v := 1) hx hb dL_beam_22 (by decide) ?_
    have hP := hP.sub (ws' := [(k0, .inr (4, [.ref h4, lo, up, .int powered, .int stepsDone])), (o0, .inl (aL, 1, .inr (.inl of)))]) [1, 0] rfl
    have hD := hD.sub (ws' := [(k0, .inr (4, [.ref h4, lo, up, .int powered, .int stepsDone])), (o0, .inl (aL, 1, .inr (.inl of)))]) [1, 0] (by decide) rfl
    exact rt_i hQ hx hb hr () hG hP hD hS (Nat.le_of_ble_eq_true rfl) (Nat.le_of_ble_eq_true rfl) dL_beam_23 hlk
  · skip
    exact False.elim hw_2
theorem dL_contact_0 : decode cL_contact 0 = .ok (.aload 4, 2) := by decide +kernel
theorem dL_contact_2 : decode cL_contact 2 = .ok (.iconst 0, 1) := by decide +kernel
theorem dL_contact_3 : decode cL_contact 3 = .ok (.aload_n 0, 1) := by decide +kernel
theorem dL_contact_4 : decode cL_contact 4 = .ok (.iload_n 1, 1) := by decide +kernel
theorem dL_contact_5 : decode cL_contact 5 = .ok (.iload_n 2, 1) := by decide +kernel
theorem dL_contact_6 : decode cL_contact 6 = .ok (.iload_n 3, 1) := by decide +kernel
theorem dL_contact_7 : decode cL_contact 7 = .ok (.invokevirtual 49, 3) := by decide +kernel
theorem dL_contact_10 : decode cL_contact 10 = .ok (.ifCond .eq 7, 3) := by decide +kernel
theorem dL_contact_13 : decode cL_contact 13 = .ok (.lconst 1, 1) := by decide +kernel
theorem dL_contact_14 : decode cL_contact 14 = .ok (.goto 4, 3) := by decide +kernel
theorem dL_contact_17 : decode cL_contact 17 = .ok (.lconst 0, 1) := by decide +kernel
theorem dL_contact_18 : decode cL_contact 18 = .ok (.lastore, 1) := by decide +kernel
theorem dL_contact_19 : decode cL_contact 19 = .ok (.goto 7, 3) := by decide +kernel
theorem dL_contact_22 : decode cL_contact 22 = .ok (.astore 5, 2) := by decide +kernel
theorem dL_contact_24 : decode cL_contact 24 = .ok (.iconst 1, 1) := by decide +kernel
theorem dL_contact_25 : decode cL_contact 25 = .ok (.ireturn, 1) := by decide +kernel
theorem dL_contact_26 : decode cL_contact 26 = .ok (.iconst 0, 1) := by decide +kernel
theorem dL_contact_27 : decode cL_contact 27 = .ok (.ireturn, 1) := by decide +kernel
def F_h_contact_0 (openContacts : Int32) (p1 : Int32) (p2 : Int32) (of : Nat → Int64) : Int32 × Int32 × (Nat → Int64) :=
  ch (F_contact_0 openContacts p1 p2)
    ((1, openContacts, of))
    ((1, openContacts, of)) fun (r_1, x_2) =>
    if r_1 = 0 then
      (0, x_2, (vp_updL of (0 : Int32).toNatClampNeg 0))
    else
      (0, x_2, (vp_updL of (0 : Int32).toNatClampNeg 1))
theorem F_h_contact_0_u (openContacts : Int32) (p1 : Int32) (p2 : Int32) (of : Nat → Int64) : F_h_contact_0 openContacts p1 p2 of =
  ((ch (F_contact_0 openContacts p1 p2)
    ((1, openContacts, of))
    ((1, openContacts, of)) fun (r_1, x_2) =>
    if r_1 = 0 then
      (0, x_2, (vp_updL of (0 : Int32).toNatClampNeg 0))
    else
      (0, x_2, (vp_updL of (0 : Int32).toNatClampNeg 1))) : Int32 × Int32 × (Nat → Int64)) := rfl
set_option maxHeartbeats 4000000 in
set_option maxRecDepth 100000 in
theorem c_h_contact_0 (l : Launch) (hl9 : l.stackTraces = false) (D : va_G) (aI aL aZ : ClassId) (sz : Nat) (k0 : Nat) (h4 : Nat) (powered : Int32) (stepsDone : Int32) (up : Value) (h0 : Nat) (h1 : Nat) (h2 : Nat) (wayToOther : Int32) (place : Int32) (speed : Int32) (way : Int32) (topSpeed : Int32) (gain : Int32) (brake : Int32) (darkSpeed : Int32) (rideSpeed : Int32) (kilos : Int32) (mostKilos : Int32) (openContacts : Int32) (fireFloor : Int32) (ride : Int32) (starts : Int32) (distance : Int32) (hardFalls : Int32) (p1 : Int32) (p2 : Int32) (o0 : Nat) (of : Nat → Int64) : Met l yL_contact (.codeWith yL_contact cL_contact 6 (some .int) [(0, 19, 22, 13)] :: Gw) ({ frames := 8, cells := 1, slots := 6, locals := 140 }) (va_Pc [.ref k0, .int 0, .int p1, .int p2, .ref o0] (mpre D [(aI, .int), (aL, .long), (aZ, .boolean)] [(k0, .inr (4, [.ref h4, .ref h0, up, .int powered, .int stepsDone])), (h0, .inr (1, [.int wayToOther, .ref h1, .ref h2, .int place, .int speed, .int way, .int topSpeed, .int gain, .int brake, .int darkSpeed, .int rideSpeed, .int kilos, .int mostKilos, .int openContacts, .int fireFloor, .int ride, .int starts, .int distance, .int hardFalls])), (o0, .inl (aL, 1, .inr (.inl of)))] sz)) ((fun A : Nat → Prop => va_Qi (fun (r : Int32) (u : Int32 × (Nat → Int64)) => match u with | (u0, u1) => F_h_contact_0 openContacts p1 p2 of = (r, u0, u1)) (mpst D A (fun (u : Int32 × (Nat → Int64)) => match u with | (u0, u1) => [(k0, .inr (4, [.ref h4, .ref h0, up, .int powered, .int stepsDone])), (h0, .inr (1, [.int wayToOther, .ref h1, .ref h2, .int place, .int speed, .int way, .int topSpeed, .int gain, .int brake, .int darkSpeed, .int rideSpeed, .int kilos, .int mostKilos, .int u0, .int fireFloor, .int ride, .int starts, .int distance, .int hardFalls])), (o0, .inl (aL, 1, .inr (.inl u1)))])) A) (va_A ([(k0, .inr (4, [.ref h4, .ref h0, up, .int powered, .int stepsDone])), (h0, .inr (1, [.int wayToOther, .ref h1, .ref h2, .int place, .int speed, .int way, .int topSpeed, .int gain, .int brake, .int darkSpeed, .int rideSpeed, .int kilos, .int mostKilos, .int openContacts, .int fireFloor, .int ride, .int starts, .int distance, .int hardFalls])), (o0, .inl (aL, 1, .inr (.inl of)))]) sz)) 1 6 (va_A ([(k0, .inr (4, [.ref h4, .ref h0, up, .int powered, .int stepsDone])), (h0, .inr (1, [.int wayToOther, .ref h1, .ref h2, .int place, .int speed, .int way, .int topSpeed, .int gain, .int brake, .int darkSpeed, .int rideSpeed, .int kilos, .int mostKilos, .int openContacts, .int fireFloor, .int ride, .int starts, .int distance, .int hardFalls])), (o0, .inl (aL, 1, .inr (.inl of)))]) sz) := by
  refine enh (cc := cL_contact) (maxL := 6) (ret := (some .int)) (Qc := (fun A : Nat → Prop => va_Qi (fun (r : Int32) (u : Int32 × (Nat → Int64)) => match u with | (u0, u1) => F_h_contact_0 openContacts p1 p2 of = (r, u0, u1)) (mpst D A (fun (u : Int32 × (Nat → Int64)) => match u with | (u0, u1) => [(k0, .inr (4, [.ref h4, .ref h0, up, .int powered, .int stepsDone])), (h0, .inr (1, [.int wayToOther, .ref h1, .ref h2, .int place, .int speed, .int way, .int topSpeed, .int gain, .int brake, .int darkSpeed, .int rideSpeed, .int kilos, .int mostKilos, .int u0, .int fireFloor, .int ride, .int starts, .int distance, .int hardFalls])), (o0, .inl (aL, 1, .inr (.inl u1)))])) A)) (by decide) rfl (Nat.le_of_ble_eq_true rfl) ?_
  intro p e s m args below meth c A ls Q hQ hx hb hr hts hown hlk hnm hml htab hA hS hP hK hD hE hl
  have hown : s.vm.findClass RL = some m.cls := hown
  have hl : lv_has ls 6 [(0, .ref k0), (1, .int 0), (2, .int p1), (3, .int p2), (4, .ref o0)] := hl
  have hG := F_h_contact_0_u openContacts p1 p2 of
  refine lv_aload hx hb dL_contact_0 (lv_at hl 4 rfl) ?_
  refine lv_iconst (v := 0) hx hb dL_contact_2 (by decide) ?_
  refine lv_aload_n hx hb dL_contact_3 rfl (lv_at hl 0 rfl) ?_
  refine lv_iload_n hx hb dL_contact_4 rfl (lv_at hl 1 rfl) ?_
  refine lv_iload_n hx hb dL_contact_5 rfl (lv_at hl 2 rfl) ?_
  refine lv_iload_n hx hb dL_contact_6 rfl (lv_at hl 3 rfl) ?_
  refine my_ci (wr := [(o0, .inl (aL, 1, .inr (.inl of)))]) [0, 1] [2] (vx_runV (As := [.int 0, .int p1, .int p2]) (rest := [.int 0, .ref o0]) ⟨hx, hb, hml, hown, hts⟩ (c_contact_0 l hl9 D aI aL aZ _ k0 h4 powered stepsDone up h0 h1 h2 wayToOther place speed way topSpeed gain brake darkSpeed rideSpeed kilos mostKilos openContacts fireFloor ride starts distance hardFalls p1 p2) (cwV 3 hts (gV w_464 w_465 w_466 w_35 w_467) rfl rfl rfl (by decide +kernel) ⟨Nat.le_of_ble_eq_true rfl, Nat.le_of_ble_eq_true rfl⟩) (prev_of hK hP hD hS hA hE [0, 1] rfl (by decide) (ci := 4) rfl 0 rfl _) rfl rfl hl.1 rfl (lv_room (Nat.le_of_ble_eq_true rfl)) dL_contact_7 ⟨Nat.le_of_ble_eq_true rfl, Nat.le_of_ble_eq_true rfl⟩) hP hD hS hA rfl rfl (by decide) (by decide) (fun E ce q9 u H locs hw hEx hP hD hS hce hcv hcl => ?_) (fun r_1 u_ H locs hw_3 hP hD hS => ?_)
  · obtain ⟨hw, hu⟩ := hw
    have htab : c.exceptionTable.toList = [⟨0, 19, 22, 13⟩] := htab
    subst hu
    have hG := hG.trans (ch_1 hw)
    refine my_h1 (u := 1) hown htab (by decide) (by decide) (hts _ (mG w_105)) hE hEx hce hcv hcl ?_
    have hP : va_P D vwCl [(o0, .inl (aL, 1, .inr (.inl of))), (k0, .inr (4, [.ref h4, .ref h0, up, .int powered, .int stepsDone])), (h0, .inr (1, [.int wayToOther, .ref h1, .ref h2, .int place, .int speed, .int way, .int topSpeed, .int gain, .int brake, .int darkSpeed, .int rideSpeed, .int kilos, .int mostKilos, .int openContacts, .int fireFloor, .int ride, .int starts, .int distance, .int hardFalls]))] H := hP
    have hD : va_D A [(o0, .inl (aL, 1, .inr (.inl of))), (k0, .inr (4, [.ref h4, .ref h0, up, .int powered, .int stepsDone])), (h0, .inr (1, [.int wayToOther, .ref h1, .ref h2, .int place, .int speed, .int way, .int topSpeed, .int gain, .int brake, .int darkSpeed, .int rideSpeed, .int kilos, .int mostKilos, .int openContacts, .int fireFloor, .int ride, .int starts, .int distance, .int hardFalls]))] := hD
    refine lv_astore (lv' := [(5, .ref q9), (0, .ref k0), (1, .int 0), (2, .int p1), (3, .int p2), (4, .ref o0)]) hx hb dL_contact_22 hl (by decide) rfl (fun ls hl => ?_)
    refine lv_iconst (v := 1) hx hb dL_contact_24 (by decide) ?_
    have hP := hP.sub (ws' := [(k0, .inr (4, [.ref h4, .ref h0, up, .int powered, .int stepsDone])), (h0, .inr (1, [.int wayToOther, .ref h1, .ref h2, .int place, .int speed, .int way, .int topSpeed, .int gain, .int brake, .int darkSpeed, .int rideSpeed, .int kilos, .int mostKilos, .int openContacts, .int fireFloor, .int ride, .int starts, .int distance, .int hardFalls])), (o0, .inl (aL, 1, .inr (.inl of)))]) [1, 2, 0] rfl
    have hD := hD.sub (ws' := [(k0, .inr (4, [.ref h4, .ref h0, up, .int powered, .int stepsDone])), (h0, .inr (1, [.int wayToOther, .ref h1, .ref h2, .int place, .int speed, .int way, .int topSpeed, .int gain, .int brake, .int darkSpeed, .int rideSpeed, .int kilos, .int mostKilos, .int openContacts, .int fireFloor, .int ride, .int starts, .int distance, .int hardFalls])), (o0, .inl (aL, 1, .inr (.inl of)))]) [1, 2, 0] (by decide) rfl
    exact rt_i hQ hx hb hr (openContacts, of) hG hP hD hS (Nat.le_of_ble_eq_true rfl) (Nat.le_of_ble_eq_true rfl) dL_contact_25 hlk
  · skip
    obtain ⟨x_2, rfl⟩ : ∃ z, z = u_ := ⟨_, rfl⟩
    have hw_3 : F_contact_0 openContacts p1 p2 = .inr (r_1, x_2) ∧ nb r_1 := hw_3
    have hG := hG.trans (ch_r hw_3.1)
    have hP : va_P D vwCl [(o0, .inl (aL, 1, .inr (.inl of))), (k0, .inr (4, [.ref h4, .ref h0, up, .int powered, .int stepsDone])), (h0, .inr (1, [.int wayToOther, .ref h1, .ref h2, .int place, .int speed, .int way, .int topSpeed, .int gain, .int brake, .int darkSpeed, .int rideSpeed, .int kilos, .int mostKilos, .int x_2, .int fireFloor, .int ride, .int starts, .int distance, .int hardFalls]))] H := hP
    have hD : va_D A [(o0, .inl (aL, 1, .inr (.inl of))), (k0, .inr (4, [.ref h4, .ref h0, up, .int powered, .int stepsDone])), (h0, .inr (1, [.int wayToOther, .ref h1, .ref h2, .int place, .int speed, .int way, .int topSpeed, .int gain, .int brake, .int darkSpeed, .int rideSpeed, .int kilos, .int mostKilos, .int x_2, .int fireFloor, .int ride, .int starts, .int distance, .int hardFalls]))] := hD
    refine lv_if_eq (tgt := 17) hx hb dL_contact_10 (by decide) (fun c_4 => ?_) (fun c_4 => ?_)
    · have hG := hG.trans (if_pos c_4)
      refine lv_lconst (v := 0) hx hb dL_contact_17 (by decide) ?_
      refine va_last hx hb hK hP hD hS 0 1 rfl rfl (by unfold vp_in; decide) dL_contact_18 (fun H locs hP hD hS => ?_)
      have hP : va_P D vwCl [(o0, .inl (aL, 1, .inr (.inl (vp_updL of (0 : Int32).toNatClampNeg 0)))), (k0, .inr (4, [.ref h4, .ref h0, up, .int powered, .int stepsDone])), (h0, .inr (1, [.int wayToOther, .ref h1, .ref h2, .int place, .int speed, .int way, .int topSpeed, .int gain, .int brake, .int darkSpeed, .int rideSpeed, .int kilos, .int mostKilos, .int x_2, .int fireFloor, .int ride, .int starts, .int distance, .int hardFalls]))] H := hP
      have hD : va_D A [(o0, .inl (aL, 1, .inr (.inl (vp_updL of (0 : Int32).toNatClampNeg 0)))), (k0, .inr (4, [.ref h4, .ref h0, up, .int powered, .int stepsDone])), (h0, .inr (1, [.int wayToOther, .ref h1, .ref h2, .int place, .int speed, .int way, .int topSpeed, .int gain, .int brake, .int darkSpeed, .int rideSpeed, .int kilos, .int mostKilos, .int x_2, .int fireFloor, .int ride, .int starts, .int distance, .int hardFalls]))] := hD
      refine lv_goto (tgt := 26) hx hb dL_contact_19 (by decide) ?_
      refine lv_iconst (v := 0) hx hb dL_contact_26 (by decide) ?_
      have hP := hP.sub (ws' := [(k0, .inr (4, [.ref h4, .ref h0, up, .int powered, .int stepsDone])), (h0, .inr (1, [.int wayToOther, .ref h1, .ref h2, .int place, .int speed, .int way, .int topSpeed, .int gain, .int brake, .int darkSpeed, .int rideSpeed, .int kilos, .int mostKilos, .int x_2, .int fireFloor, .int ride, .int starts, .int distance, .int hardFalls])), (o0, .inl (aL, 1, .inr (.inl (vp_updL of (0 : Int32).toNatClampNeg 0))))]) [1, 2, 0] rfl
      have hD := hD.sub (ws' := [(k0, .inr (4, [.ref h4, .ref h0, up, .int powered, .int stepsDone])), (h0, .inr (1, [.int wayToOther, .ref h1, .ref h2, .int place, .int speed, .int way, .int topSpeed, .int gain, .int brake, .int darkSpeed, .int rideSpeed, .int kilos, .int mostKilos, .int x_2, .int fireFloor, .int ride, .int starts, .int distance, .int hardFalls])), (o0, .inl (aL, 1, .inr (.inl (vp_updL of (0 : Int32).toNatClampNeg 0))))]) [1, 2, 0] (by decide) rfl
      exact rt_i hQ hx hb hr (x_2, (vp_updL of (0 : Int32).toNatClampNeg 0)) hG hP hD hS (Nat.le_of_ble_eq_true rfl) (Nat.le_of_ble_eq_true rfl) dL_contact_27 hlk
    · have hG := hG.trans (if_neg c_4)
      refine lv_lconst (v := 1) hx hb dL_contact_13 (by decide) ?_
      refine lv_goto (tgt := 18) hx hb dL_contact_14 (by decide) ?_
      refine va_last hx hb hK hP hD hS 0 1 rfl rfl (by unfold vp_in; decide) dL_contact_18 (fun H locs hP hD hS => ?_)
      have hP : va_P D vwCl [(o0, .inl (aL, 1, .inr (.inl (vp_updL of (0 : Int32).toNatClampNeg 1)))), (k0, .inr (4, [.ref h4, .ref h0, up, .int powered, .int stepsDone])), (h0, .inr (1, [.int wayToOther, .ref h1, .ref h2, .int place, .int speed, .int way, .int topSpeed, .int gain, .int brake, .int darkSpeed, .int rideSpeed, .int kilos, .int mostKilos, .int x_2, .int fireFloor, .int ride, .int starts, .int distance, .int hardFalls]))] H := hP
      have hD : va_D A [(o0, .inl (aL, 1, .inr (.inl (vp_updL of (0 : Int32).toNatClampNeg 1)))), (k0, .inr (4, [.ref h4, .ref h0, up, .int powered, .int stepsDone])), (h0, .inr (1, [.int wayToOther, .ref h1, .ref h2, .int place, .int speed, .int way, .int topSpeed, .int gain, .int brake, .int darkSpeed, .int rideSpeed, .int kilos, .int mostKilos, .int x_2, .int fireFloor, .int ride, .int starts, .int distance, .int hardFalls]))] := hD
      refine lv_goto (tgt := 26) hx hb dL_contact_19 (by decide) ?_
      refine lv_iconst (v := 0) hx hb dL_contact_26 (by decide) ?_
      have hP := hP.sub (ws' := [(k0, .inr (4, [.ref h4, .ref h0, up, .int powered, .int stepsDone])), (h0, .inr (1, [.int wayToOther, .ref h1, .ref h2, .int place, .int speed, .int way, .int topSpeed, .int gain, .int brake, .int darkSpeed, .int rideSpeed, .int kilos, .int mostKilos, .int x_2, .int fireFloor, .int ride, .int starts, .int distance, .int hardFalls])), (o0, .inl (aL, 1, .inr (.inl (vp_updL of (0 : Int32).toNatClampNeg 1))))]) [1, 2, 0] rfl
      have hD := hD.sub (ws' := [(k0, .inr (4, [.ref h4, .ref h0, up, .int powered, .int stepsDone])), (h0, .inr (1, [.int wayToOther, .ref h1, .ref h2, .int place, .int speed, .int way, .int topSpeed, .int gain, .int brake, .int darkSpeed, .int rideSpeed, .int kilos, .int mostKilos, .int x_2, .int fireFloor, .int ride, .int starts, .int distance, .int hardFalls])), (o0, .inl (aL, 1, .inr (.inl (vp_updL of (0 : Int32).toNatClampNeg 1))))]) [1, 2, 0] (by decide) rfl
      exact rt_i hQ hx hb hr (x_2, (vp_updL of (0 : Int32).toNatClampNeg 1)) hG hP hD hS (Nat.le_of_ble_eq_true rfl) (Nat.le_of_ble_eq_true rfl) dL_contact_27 hlk
def F_h_contact_1 (openContacts : Int32) (p1 : Int32) (p2 : Int32) (of : Nat → Int64) : Int32 × Int32 × (Nat → Int64) :=
  ch (F_contact_1 openContacts p1 p2)
    ((1, openContacts, of))
    ((1, openContacts, of)) fun (r_1, x_2) =>
    if r_1 = 0 then
      (0, x_2, (vp_updL of (0 : Int32).toNatClampNeg 0))
    else
      (0, x_2, (vp_updL of (0 : Int32).toNatClampNeg 1))
theorem F_h_contact_1_u (openContacts : Int32) (p1 : Int32) (p2 : Int32) (of : Nat → Int64) : F_h_contact_1 openContacts p1 p2 of =
  ((ch (F_contact_1 openContacts p1 p2)
    ((1, openContacts, of))
    ((1, openContacts, of)) fun (r_1, x_2) =>
    if r_1 = 0 then
      (0, x_2, (vp_updL of (0 : Int32).toNatClampNeg 0))
    else
      (0, x_2, (vp_updL of (0 : Int32).toNatClampNeg 1))) : Int32 × Int32 × (Nat → Int64)) := rfl
set_option maxHeartbeats 4000000 in
set_option maxRecDepth 100000 in
theorem c_h_contact_1 (l : Launch) (hl9 : l.stackTraces = false) (D : va_G) (aI aL aZ : ClassId) (sz : Nat) (k0 : Nat) (h4 : Nat) (powered : Int32) (stepsDone : Int32) (lo : Value) (h0 : Nat) (h1 : Nat) (h2 : Nat) (wayToOther : Int32) (place : Int32) (speed : Int32) (way : Int32) (topSpeed : Int32) (gain : Int32) (brake : Int32) (darkSpeed : Int32) (rideSpeed : Int32) (kilos : Int32) (mostKilos : Int32) (openContacts : Int32) (fireFloor : Int32) (ride : Int32) (starts : Int32) (distance : Int32) (hardFalls : Int32) (p1 : Int32) (p2 : Int32) (o0 : Nat) (of : Nat → Int64) : Met l yL_contact (.codeWith yL_contact cL_contact 6 (some .int) [(0, 19, 22, 13)] :: Gw) ({ frames := 8, cells := 1, slots := 6, locals := 140 }) (va_Pc [.ref k0, .int 1, .int p1, .int p2, .ref o0] (mpre D [(aI, .int), (aL, .long), (aZ, .boolean)] [(k0, .inr (4, [.ref h4, lo, .ref h0, .int powered, .int stepsDone])), (h0, .inr (1, [.int wayToOther, .ref h1, .ref h2, .int place, .int speed, .int way, .int topSpeed, .int gain, .int brake, .int darkSpeed, .int rideSpeed, .int kilos, .int mostKilos, .int openContacts, .int fireFloor, .int ride, .int starts, .int distance, .int hardFalls])), (o0, .inl (aL, 1, .inr (.inl of)))] sz)) ((fun A : Nat → Prop => va_Qi (fun (r : Int32) (u : Int32 × (Nat → Int64)) => match u with | (u0, u1) => F_h_contact_1 openContacts p1 p2 of = (r, u0, u1)) (mpst D A (fun (u : Int32 × (Nat → Int64)) => match u with | (u0, u1) => [(k0, .inr (4, [.ref h4, lo, .ref h0, .int powered, .int stepsDone])), (h0, .inr (1, [.int wayToOther, .ref h1, .ref h2, .int place, .int speed, .int way, .int topSpeed, .int gain, .int brake, .int darkSpeed, .int rideSpeed, .int kilos, .int mostKilos, .int u0, .int fireFloor, .int ride, .int starts, .int distance, .int hardFalls])), (o0, .inl (aL, 1, .inr (.inl u1)))])) A) (va_A ([(k0, .inr (4, [.ref h4, lo, .ref h0, .int powered, .int stepsDone])), (h0, .inr (1, [.int wayToOther, .ref h1, .ref h2, .int place, .int speed, .int way, .int topSpeed, .int gain, .int brake, .int darkSpeed, .int rideSpeed, .int kilos, .int mostKilos, .int openContacts, .int fireFloor, .int ride, .int starts, .int distance, .int hardFalls])), (o0, .inl (aL, 1, .inr (.inl of)))]) sz)) 1 6 (va_A ([(k0, .inr (4, [.ref h4, lo, .ref h0, .int powered, .int stepsDone])), (h0, .inr (1, [.int wayToOther, .ref h1, .ref h2, .int place, .int speed, .int way, .int topSpeed, .int gain, .int brake, .int darkSpeed, .int rideSpeed, .int kilos, .int mostKilos, .int openContacts, .int fireFloor, .int ride, .int starts, .int distance, .int hardFalls])), (o0, .inl (aL, 1, .inr (.inl of)))]) sz) := by
  refine enh (cc := cL_contact) (maxL := 6) (ret := (some .int)) (Qc := (fun A : Nat → Prop => va_Qi (fun (r : Int32) (u : Int32 × (Nat → Int64)) => match u with | (u0, u1) => F_h_contact_1 openContacts p1 p2 of = (r, u0, u1)) (mpst D A (fun (u : Int32 × (Nat → Int64)) => match u with | (u0, u1) => [(k0, .inr (4, [.ref h4, lo, .ref h0, .int powered, .int stepsDone])), (h0, .inr (1, [.int wayToOther, .ref h1, .ref h2, .int place, .int speed, .int way, .int topSpeed, .int gain, .int brake, .int darkSpeed, .int rideSpeed, .int kilos, .int mostKilos, .int u0, .int fireFloor, .int ride, .int starts, .int distance, .int hardFalls])), (o0, .inl (aL, 1, .inr (.inl u1)))])) A)) (by decide) rfl (Nat.le_of_ble_eq_true rfl) ?_
  intro p e s m args below meth c A ls Q hQ hx hb hr hts hown hlk hnm hml htab hA hS hP hK hD hE hl
  have hown : s.vm.findClass RL = some m.cls := hown
  have hl : lv_has ls 6 [(0, .ref k0), (1, .int 1), (2, .int p1), (3, .int p2), (4, .ref o0)] := hl
  have hG := F_h_contact_1_u openContacts p1 p2 of
  refine lv_aload hx hb dL_contact_0 (lv_at hl 4 rfl) ?_
  refine lv_iconst (v := 0) hx hb dL_contact_2 (by decide) ?_
  refine lv_aload_n hx hb dL_contact_3 rfl (lv_at hl 0 rfl) ?_
  refine lv_iload_n hx hb dL_contact_4 rfl (lv_at hl 1 rfl) ?_
  refine lv_iload_n hx hb dL_contact_5 rfl (lv_at hl 2 rfl) ?_
  refine lv_iload_n hx hb dL_contact_6 rfl (lv_at hl 3 rfl) ?_
  refine my_ci (wr := [(o0, .inl (aL, 1, .inr (.inl of)))]) [0, 1] [2] (vx_runV (As := [.int 1, .int p1, .int p2]) (rest := [.int 0, .ref o0]) ⟨hx, hb, hml, hown, hts⟩ (c_contact_1 l hl9 D aI aL aZ _ k0 h4 powered stepsDone lo h0 h1 h2 wayToOther place speed way topSpeed gain brake darkSpeed rideSpeed kilos mostKilos openContacts fireFloor ride starts distance hardFalls p1 p2) (cwV 3 hts (gV w_464 w_465 w_466 w_35 w_467) rfl rfl rfl (by decide +kernel) ⟨Nat.le_of_ble_eq_true rfl, Nat.le_of_ble_eq_true rfl⟩) (prev_of hK hP hD hS hA hE [0, 1] rfl (by decide) (ci := 4) rfl 0 rfl _) rfl rfl hl.1 rfl (lv_room (Nat.le_of_ble_eq_true rfl)) dL_contact_7 ⟨Nat.le_of_ble_eq_true rfl, Nat.le_of_ble_eq_true rfl⟩) hP hD hS hA rfl rfl (by decide) (by decide) (fun E ce q9 u H locs hw hEx hP hD hS hce hcv hcl => ?_) (fun r_1 u_ H locs hw_3 hP hD hS => ?_)
  · obtain ⟨hw, hu⟩ := hw
    have htab : c.exceptionTable.toList = [⟨0, 19, 22, 13⟩] := htab
    subst hu
    have hG := hG.trans (ch_1 hw)
    refine my_h1 (u := 1) hown htab (by decide) (by decide) (hts _ (mG w_105)) hE hEx hce hcv hcl ?_
    have hP : va_P D vwCl [(o0, .inl (aL, 1, .inr (.inl of))), (k0, .inr (4, [.ref h4, lo, .ref h0, .int powered, .int stepsDone])), (h0, .inr (1, [.int wayToOther, .ref h1, .ref h2, .int place, .int speed, .int way, .int topSpeed, .int gain, .int brake, .int darkSpeed, .int rideSpeed, .int kilos, .int mostKilos, .int openContacts, .int fireFloor, .int ride, .int starts, .int distance, .int hardFalls]))] H := hP
    have hD : va_D A [(o0, .inl (aL, 1, .inr (.inl of))), (k0, .inr (4, [.ref h4, lo, .ref h0, .int powered, .int stepsDone])), (h0, .inr (1, [.int wayToOther, .ref h1, .ref h2, .int place, .int speed, .int way, .int topSpeed, .int gain, .int brake, .int darkSpeed, .int rideSpeed, .int kilos, .int mostKilos, .int openContacts, .int fireFloor, .int ride, .int starts, .int distance, .int hardFalls]))] := hD
    refine lv_astore (lv' := [(5, .ref q9), (0, .ref k0), (1, .int 1), (2, .int p1), (3, .int p2), (4, .ref o0)]) hx hb dL_contact_22 hl (by decide) rfl (fun ls hl => ?_)
    refine lv_iconst (v := 1) hx hb dL_contact_24 (by decide) ?_
    have hP := hP.sub (ws' := [(k0, .inr (4, [.ref h4, lo, .ref h0, .int powered, .int stepsDone])), (h0, .inr (1, [.int wayToOther, .ref h1, .ref h2, .int place, .int speed, .int way, .int topSpeed, .int gain, .int brake, .int darkSpeed, .int rideSpeed, .int kilos, .int mostKilos, .int openContacts, .int fireFloor, .int ride, .int starts, .int distance, .int hardFalls])), (o0, .inl (aL, 1, .inr (.inl of)))]) [1, 2, 0] rfl
    have hD := hD.sub (ws' := [(k0, .inr (4, [.ref h4, lo, .ref h0, .int powered, .int stepsDone])), (h0, .inr (1, [.int wayToOther, .ref h1, .ref h2, .int place, .int speed, .int way, .int topSpeed, .int gain, .int brake, .int darkSpeed, .int rideSpeed, .int kilos, .int mostKilos, .int openContacts, .int fireFloor, .int ride, .int starts, .int distance, .int hardFalls])), (o0, .inl (aL, 1, .inr (.inl of)))]) [1, 2, 0] (by decide) rfl
    exact rt_i hQ hx hb hr (openContacts, of) hG hP hD hS (Nat.le_of_ble_eq_true rfl) (Nat.le_of_ble_eq_true rfl) dL_contact_25 hlk
  · skip
    obtain ⟨x_2, rfl⟩ : ∃ z, z = u_ := ⟨_, rfl⟩
    have hw_3 : F_contact_1 openContacts p1 p2 = .inr (r_1, x_2) ∧ nb r_1 := hw_3
    have hG := hG.trans (ch_r hw_3.1)
    have hP : va_P D vwCl [(o0, .inl (aL, 1, .inr (.inl of))), (k0, .inr (4, [.ref h4, lo, .ref h0, .int powered, .int stepsDone])), (h0, .inr (1, [.int wayToOther, .ref h1, .ref h2, .int place, .int speed, .int way, .int topSpeed, .int gain, .int brake, .int darkSpeed, .int rideSpeed, .int kilos, .int mostKilos, .int x_2, .int fireFloor, .int ride, .int starts, .int distance, .int hardFalls]))] H := hP
    have hD : va_D A [(o0, .inl (aL, 1, .inr (.inl of))), (k0, .inr (4, [.ref h4, lo, .ref h0, .int powered, .int stepsDone])), (h0, .inr (1, [.int wayToOther, .ref h1, .ref h2, .int place, .int speed, .int way, .int topSpeed, .int gain, .int brake, .int darkSpeed, .int rideSpeed, .int kilos, .int mostKilos, .int x_2, .int fireFloor, .int ride, .int starts, .int distance, .int hardFalls]))] := hD
    refine lv_if_eq (tgt := 17) hx hb dL_contact_10 (by decide) (fun c_4 => ?_) (fun c_4 => ?_)
    · have hG := hG.trans (if_pos c_4)
      refine lv_lconst (v := 0) hx hb dL_contact_17 (by decide) ?_
      refine va_last hx hb hK hP hD hS 0 1 rfl rfl (by unfold vp_in; decide) dL_contact_18 (fun H locs hP hD hS => ?_)
      have hP : va_P D vwCl [(o0, .inl (aL, 1, .inr (.inl (vp_updL of (0 : Int32).toNatClampNeg 0)))), (k0, .inr (4, [.ref h4, lo, .ref h0, .int powered, .int stepsDone])), (h0, .inr (1, [.int wayToOther, .ref h1, .ref h2, .int place, .int speed, .int way, .int topSpeed, .int gain, .int brake, .int darkSpeed, .int rideSpeed, .int kilos, .int mostKilos, .int x_2, .int fireFloor, .int ride, .int starts, .int distance, .int hardFalls]))] H := hP
      have hD : va_D A [(o0, .inl (aL, 1, .inr (.inl (vp_updL of (0 : Int32).toNatClampNeg 0)))), (k0, .inr (4, [.ref h4, lo, .ref h0, .int powered, .int stepsDone])), (h0, .inr (1, [.int wayToOther, .ref h1, .ref h2, .int place, .int speed, .int way, .int topSpeed, .int gain, .int brake, .int darkSpeed, .int rideSpeed, .int kilos, .int mostKilos, .int x_2, .int fireFloor, .int ride, .int starts, .int distance, .int hardFalls]))] := hD
      refine lv_goto (tgt := 26) hx hb dL_contact_19 (by decide) ?_
      refine lv_iconst (v := 0) hx hb dL_contact_26 (by decide) ?_
      have hP := hP.sub (ws' := [(k0, .inr (4, [.ref h4, lo, .ref h0, .int powered, .int stepsDone])), (h0, .inr (1, [.int wayToOther, .ref h1, .ref h2, .int place, .int speed, .int way, .int topSpeed, .int gain, .int brake, .int darkSpeed, .int rideSpeed, .int kilos, .int mostKilos, .int x_2, .int fireFloor, .int ride, .int starts, .int distance, .int hardFalls])), (o0, .inl (aL, 1, .inr (.inl (vp_updL of (0 : Int32).toNatClampNeg 0))))]) [1, 2, 0] rfl
      have hD := hD.sub (ws' := [(k0, .inr (4, [.ref h4, lo, .ref h0, .int powered, .int stepsDone])), (h0, .inr (1, [.int wayToOther, .ref h1, .ref h2, .int place, .int speed, .int way, .int topSpeed, .int gain, .int brake, .int darkSpeed, .int rideSpeed, .int kilos, .int mostKilos, .int x_2, .int fireFloor, .int ride, .int starts, .int distance, .int hardFalls])), (o0, .inl (aL, 1, .inr (.inl (vp_updL of (0 : Int32).toNatClampNeg 0))))]) [1, 2, 0] (by decide) rfl
      exact rt_i hQ hx hb hr (x_2, (vp_updL of (0 : Int32).toNatClampNeg 0)) hG hP hD hS (Nat.le_of_ble_eq_true rfl) (Nat.le_of_ble_eq_true rfl) dL_contact_27 hlk
    · have hG := hG.trans (if_neg c_4)
      refine lv_lconst (v := 1) hx hb dL_contact_13 (by decide) ?_
      refine lv_goto (tgt := 18) hx hb dL_contact_14 (by decide) ?_
      refine va_last hx hb hK hP hD hS 0 1 rfl rfl (by unfold vp_in; decide) dL_contact_18 (fun H locs hP hD hS => ?_)
      have hP : va_P D vwCl [(o0, .inl (aL, 1, .inr (.inl (vp_updL of (0 : Int32).toNatClampNeg 1)))), (k0, .inr (4, [.ref h4, lo, .ref h0, .int powered, .int stepsDone])), (h0, .inr (1, [.int wayToOther, .ref h1, .ref h2, .int place, .int speed, .int way, .int topSpeed, .int gain, .int brake, .int darkSpeed, .int rideSpeed, .int kilos, .int mostKilos, .int x_2, .int fireFloor, .int ride, .int starts, .int distance, .int hardFalls]))] H := hP
      have hD : va_D A [(o0, .inl (aL, 1, .inr (.inl (vp_updL of (0 : Int32).toNatClampNeg 1)))), (k0, .inr (4, [.ref h4, lo, .ref h0, .int powered, .int stepsDone])), (h0, .inr (1, [.int wayToOther, .ref h1, .ref h2, .int place, .int speed, .int way, .int topSpeed, .int gain, .int brake, .int darkSpeed, .int rideSpeed, .int kilos, .int mostKilos, .int x_2, .int fireFloor, .int ride, .int starts, .int distance, .int hardFalls]))] := hD
      refine lv_goto (tgt := 26) hx hb dL_contact_19 (by decide) ?_
      refine lv_iconst (v := 0) hx hb dL_contact_26 (by decide) ?_
      have hP := hP.sub (ws' := [(k0, .inr (4, [.ref h4, lo, .ref h0, .int powered, .int stepsDone])), (h0, .inr (1, [.int wayToOther, .ref h1, .ref h2, .int place, .int speed, .int way, .int topSpeed, .int gain, .int brake, .int darkSpeed, .int rideSpeed, .int kilos, .int mostKilos, .int x_2, .int fireFloor, .int ride, .int starts, .int distance, .int hardFalls])), (o0, .inl (aL, 1, .inr (.inl (vp_updL of (0 : Int32).toNatClampNeg 1))))]) [1, 2, 0] rfl
      have hD := hD.sub (ws' := [(k0, .inr (4, [.ref h4, lo, .ref h0, .int powered, .int stepsDone])), (h0, .inr (1, [.int wayToOther, .ref h1, .ref h2, .int place, .int speed, .int way, .int topSpeed, .int gain, .int brake, .int darkSpeed, .int rideSpeed, .int kilos, .int mostKilos, .int x_2, .int fireFloor, .int ride, .int starts, .int distance, .int hardFalls])), (o0, .inl (aL, 1, .inr (.inl (vp_updL of (0 : Int32).toNatClampNeg 1))))]) [1, 2, 0] (by decide) rfl
      exact rt_i hQ hx hb hr (x_2, (vp_updL of (0 : Int32).toNatClampNeg 1)) hG hP hD hS (Nat.le_of_ble_eq_true rfl) (Nat.le_of_ble_eq_true rfl) dL_contact_27 hlk
def F_h_contact_0n : Int32 :=
  ch F_contact_0n
    (1)
    (1) fun _ =>
    1
theorem F_h_contact_0n_u : F_h_contact_0n =
  ((ch F_contact_0n
    (1)
    (1) fun _ =>
    1) : Int32) := rfl
set_option maxHeartbeats 4000000 in
set_option maxRecDepth 100000 in
theorem c_h_contact_0n (l : Launch) (hl9 : l.stackTraces = false) (D : va_G) (aI aL aZ : ClassId) (sz : Nat) (k0 : Nat) (h4 : Nat) (powered : Int32) (stepsDone : Int32) (up : Value) (p1 : Int32) (p2 : Int32) (o0 : Nat) (of : Nat → Int64) : Met l yL_contact (.codeWith yL_contact cL_contact 6 (some .int) [(0, 19, 22, 13)] :: Gw) ({ frames := 8, cells := 1, slots := 6, locals := 140 }) (va_Pc [.ref k0, .int 0, .int p1, .int p2, .ref o0] (mpre D [(aI, .int), (aL, .long), (aZ, .boolean)] [(k0, .inr (4, [.ref h4, .null, up, .int powered, .int stepsDone])), (o0, .inl (aL, 1, .inr (.inl of)))] sz)) ((fun A : Nat → Prop => va_Qi (fun (r : Int32) (u : Unit) => F_h_contact_0n = r) (mpst D A (fun (u : Unit) => [(k0, .inr (4, [.ref h4, .null, up, .int powered, .int stepsDone])), (o0, .inl (aL, 1, .inr (.inl of)))])) A) (va_A ([(k0, .inr (4, [.ref h4, .null, up, .int powered, .int stepsDone])), (o0, .inl (aL, 1, .inr (.inl of)))]) sz)) 1 6 (va_A ([(k0, .inr (4, [.ref h4, .null, up, .int powered, .int stepsDone])), (o0, .inl (aL, 1, .inr (.inl of)))]) sz) := by
  refine enh (cc := cL_contact) (maxL := 6) (ret := (some .int)) (Qc := (fun A : Nat → Prop => va_Qi (fun (r : Int32) (u : Unit) => F_h_contact_0n = r) (mpst D A (fun (u : Unit) => [(k0, .inr (4, [.ref h4, .null, up, .int powered, .int stepsDone])), (o0, .inl (aL, 1, .inr (.inl of)))])) A)) (by decide) rfl (Nat.le_of_ble_eq_true rfl) ?_
  intro p e s m args below meth c A ls Q hQ hx hb hr hts hown hlk hnm hml htab hA hS hP hK hD hE hl
  have hown : s.vm.findClass RL = some m.cls := hown
  have hl : lv_has ls 6 [(0, .ref k0), (1, .int 0), (2, .int p1), (3, .int p2), (4, .ref o0)] := hl
  have hG := F_h_contact_0n_u
  refine lv_aload hx hb dL_contact_0 (lv_at hl 4 rfl) ?_
  refine lv_iconst (v := 0) hx hb dL_contact_2 (by decide) ?_
  refine lv_aload_n hx hb dL_contact_3 rfl (lv_at hl 0 rfl) ?_
  refine lv_iload_n hx hb dL_contact_4 rfl (lv_at hl 1 rfl) ?_
  refine lv_iload_n hx hb dL_contact_5 rfl (lv_at hl 2 rfl) ?_
  refine lv_iload_n hx hb dL_contact_6 rfl (lv_at hl 3 rfl) ?_
  refine my_ci (wr := [(o0, .inl (aL, 1, .inr (.inl of)))]) [0] [1] (vx_runV (As := [.int 0, .int p1, .int p2]) (rest := [.int 0, .ref o0]) ⟨hx, hb, hml, hown, hts⟩ (c_contact_0n l hl9 D aI aL aZ _ k0 h4 powered stepsDone up p1 p2) (cwV 3 hts (gV w_464 w_465 w_466 w_35 w_467) rfl rfl rfl (by decide +kernel) ⟨Nat.le_of_ble_eq_true rfl, Nat.le_of_ble_eq_true rfl⟩) (prev_of hK hP hD hS hA hE [0] rfl (by decide) (ci := 4) rfl 0 rfl _) rfl rfl hl.1 rfl (lv_room (Nat.le_of_ble_eq_true rfl)) dL_contact_7 ⟨Nat.le_of_ble_eq_true rfl, Nat.le_of_ble_eq_true rfl⟩) hP hD hS hA rfl rfl (by decide) (by decide) (fun E ce q9 u H locs hw hEx hP hD hS hce hcv hcl => ?_) (fun r_1 u_ H locs hw_2 hP hD hS => ?_)
  · obtain ⟨hw, hu⟩ := hw
    have htab : c.exceptionTable.toList = [⟨0, 19, 22, 13⟩] := htab
    subst hu
    have hG := hG.trans (ch_1 hw)
    refine my_h1 (u := 1) hown htab (by decide) (by decide) (hts _ (mG w_105)) hE hEx hce hcv hcl ?_
    have hP : va_P D vwCl [(o0, .inl (aL, 1, .inr (.inl of))), (k0, .inr (4, [.ref h4, .null, up, .int powered, .int stepsDone]))] H := hP
    have hD : va_D A [(o0, .inl (aL, 1, .inr (.inl of))), (k0, .inr (4, [.ref h4, .null, up, .int powered, .int stepsDone]))] := hD
    refine lv_astore (lv' := [(5, .ref q9), (0, .ref k0), (1, .int 0), (2, .int p1), (3, .int p2), (4, .ref o0)]) hx hb dL_contact_22 hl (by decide) rfl (fun ls hl => ?_)
    refine lv_iconst (v := 1) hx hb dL_contact_24 (by decide) ?_
    have hP := hP.sub (ws' := [(k0, .inr (4, [.ref h4, .null, up, .int powered, .int stepsDone])), (o0, .inl (aL, 1, .inr (.inl of)))]) [1, 0] rfl
    have hD := hD.sub (ws' := [(k0, .inr (4, [.ref h4, .null, up, .int powered, .int stepsDone])), (o0, .inl (aL, 1, .inr (.inl of)))]) [1, 0] (by decide) rfl
    exact rt_i hQ hx hb hr () hG hP hD hS (Nat.le_of_ble_eq_true rfl) (Nat.le_of_ble_eq_true rfl) dL_contact_25 hlk
  · skip
    exact False.elim hw_2
def F_h_contact_1n : Int32 :=
  ch F_contact_1n
    (1)
    (1) fun _ =>
    1
theorem F_h_contact_1n_u : F_h_contact_1n =
  ((ch F_contact_1n
    (1)
    (1) fun _ =>
    1) : Int32) := rfl
set_option maxHeartbeats 4000000 in
set_option maxRecDepth 100000 in
theorem c_h_contact_1n (l : Launch) (hl9 : l.stackTraces = false) (D : va_G) (aI aL aZ : ClassId) (sz : Nat) (k0 : Nat) (h4 : Nat) (powered : Int32) (stepsDone : Int32) (lo : Value) (p1 : Int32) (p2 : Int32) (o0 : Nat) (of : Nat → Int64) : Met l yL_contact (.codeWith yL_contact cL_contact 6 (some .int) [(0, 19, 22, 13)] :: Gw) ({ frames := 8, cells := 1, slots := 6, locals := 140 }) (va_Pc [.ref k0, .int 1, .int p1, .int p2, .ref o0] (mpre D [(aI, .int), (aL, .long), (aZ, .boolean)] [(k0, .inr (4, [.ref h4, lo, .null, .int powered, .int stepsDone])), (o0, .inl (aL, 1, .inr (.inl of)))] sz)) ((fun A : Nat → Prop => va_Qi (fun (r : Int32) (u : Unit) => F_h_contact_1n = r) (mpst D A (fun (u : Unit) => [(k0, .inr (4, [.ref h4, lo, .null, .int powered, .int stepsDone])), (o0, .inl (aL, 1, .inr (.inl of)))])) A) (va_A ([(k0, .inr (4, [.ref h4, lo, .null, .int powered, .int stepsDone])), (o0, .inl (aL, 1, .inr (.inl of)))]) sz)) 1 6 (va_A ([(k0, .inr (4, [.ref h4, lo, .null, .int powered, .int stepsDone])), (o0, .inl (aL, 1, .inr (.inl of)))]) sz) := by
  refine enh (cc := cL_contact) (maxL := 6) (ret := (some .int)) (Qc := (fun A : Nat → Prop => va_Qi (fun (r : Int32) (u : Unit) => F_h_contact_1n = r) (mpst D A (fun (u : Unit) => [(k0, .inr (4, [.ref h4, lo, .null, .int powered, .int stepsDone])), (o0, .inl (aL, 1, .inr (.inl of)))])) A)) (by decide) rfl (Nat.le_of_ble_eq_true rfl) ?_
  intro p e s m args below meth c A ls Q hQ hx hb hr hts hown hlk hnm hml htab hA hS hP hK hD hE hl
  have hown : s.vm.findClass RL = some m.cls := hown
  have hl : lv_has ls 6 [(0, .ref k0), (1, .int 1), (2, .int p1), (3, .int p2), (4, .ref o0)] := hl
  have hG := F_h_contact_1n_u
  refine lv_aload hx hb dL_contact_0 (lv_at hl 4 rfl) ?_
  refine lv_iconst (v := 0) hx hb dL_contact_2 (by decide) ?_
  refine lv_aload_n hx hb dL_contact_3 rfl (lv_at hl 0 rfl) ?_
  refine lv_iload_n hx hb dL_contact_4 rfl (lv_at hl 1 rfl) ?_
  refine lv_iload_n hx hb dL_contact_5 rfl (lv_at hl 2 rfl) ?_
  refine lv_iload_n hx hb dL_contact_6 rfl (lv_at hl 3 rfl) ?_
  refine my_ci (wr := [(o0, .inl (aL, 1, .inr (.inl of)))]) [0] [1] (vx_runV (As := [.int 1, .int p1, .int p2]) (rest := [.int 0, .ref o0]) ⟨hx, hb, hml, hown, hts⟩ (c_contact_1n l hl9 D aI aL aZ _ k0 h4 powered stepsDone lo p1 p2) (cwV 3 hts (gV w_464 w_465 w_466 w_35 w_467) rfl rfl rfl (by decide +kernel) ⟨Nat.le_of_ble_eq_true rfl, Nat.le_of_ble_eq_true rfl⟩) (prev_of hK hP hD hS hA hE [0] rfl (by decide) (ci := 4) rfl 0 rfl _) rfl rfl hl.1 rfl (lv_room (Nat.le_of_ble_eq_true rfl)) dL_contact_7 ⟨Nat.le_of_ble_eq_true rfl, Nat.le_of_ble_eq_true rfl⟩) hP hD hS hA rfl rfl (by decide) (by decide) (fun E ce q9 u H locs hw hEx hP hD hS hce hcv hcl => ?_) (fun r_1 u_ H locs hw_2 hP hD hS => ?_)
  · obtain ⟨hw, hu⟩ := hw
    have htab : c.exceptionTable.toList = [⟨0, 19, 22, 13⟩] := htab
    subst hu
    have hG := hG.trans (ch_1 hw)
    refine my_h1 (u := 1) hown htab (by decide) (by decide) (hts _ (mG w_105)) hE hEx hce hcv hcl ?_
    have hP : va_P D vwCl [(o0, .inl (aL, 1, .inr (.inl of))), (k0, .inr (4, [.ref h4, lo, .null, .int powered, .int stepsDone]))] H := hP
    have hD : va_D A [(o0, .inl (aL, 1, .inr (.inl of))), (k0, .inr (4, [.ref h4, lo, .null, .int powered, .int stepsDone]))] := hD
    refine lv_astore (lv' := [(5, .ref q9), (0, .ref k0), (1, .int 1), (2, .int p1), (3, .int p2), (4, .ref o0)]) hx hb dL_contact_22 hl (by decide) rfl (fun ls hl => ?_)
    refine lv_iconst (v := 1) hx hb dL_contact_24 (by decide) ?_
    have hP := hP.sub (ws' := [(k0, .inr (4, [.ref h4, lo, .null, .int powered, .int stepsDone])), (o0, .inl (aL, 1, .inr (.inl of)))]) [1, 0] rfl
    have hD := hD.sub (ws' := [(k0, .inr (4, [.ref h4, lo, .null, .int powered, .int stepsDone])), (o0, .inl (aL, 1, .inr (.inl of)))]) [1, 0] (by decide) rfl
    exact rt_i hQ hx hb hr () hG hP hD hS (Nat.le_of_ble_eq_true rfl) (Nat.le_of_ble_eq_true rfl) dL_contact_25 hlk
  · skip
    exact False.elim hw_2
def F_h_contact_x : Int32 :=
  ch F_contact_x
    (1)
    (1) fun _ =>
    1
theorem F_h_contact_x_u : F_h_contact_x =
  ((ch F_contact_x
    (1)
    (1) fun _ =>
    1) : Int32) := rfl
set_option maxHeartbeats 4000000 in
set_option maxRecDepth 100000 in
theorem c_h_contact_x (l : Launch) (hl9 : l.stackTraces = false) (D : va_G) (aI aL aZ : ClassId) (sz : Nat) (k0 : Nat) (h4 : Nat) (powered : Int32) (stepsDone : Int32) (lo : Value) (up : Value) (p0 : Int32) (p1 : Int32) (p2 : Int32) (o0 : Nat) (of : Nat → Int64) (h9 : ¬ p0 = 0) (h8 : ¬ p0 = 1) : Met l yL_contact (.codeWith yL_contact cL_contact 6 (some .int) [(0, 19, 22, 13)] :: Gw) ({ frames := 8, cells := 1, slots := 6, locals := 140 }) (va_Pc [.ref k0, .int p0, .int p1, .int p2, .ref o0] (mpre D [(aI, .int), (aL, .long), (aZ, .boolean)] [(k0, .inr (4, [.ref h4, lo, up, .int powered, .int stepsDone])), (o0, .inl (aL, 1, .inr (.inl of)))] sz)) ((fun A : Nat → Prop => va_Qi (fun (r : Int32) (u : Unit) => F_h_contact_x = r) (mpst D A (fun (u : Unit) => [(k0, .inr (4, [.ref h4, lo, up, .int powered, .int stepsDone])), (o0, .inl (aL, 1, .inr (.inl of)))])) A) (va_A ([(k0, .inr (4, [.ref h4, lo, up, .int powered, .int stepsDone])), (o0, .inl (aL, 1, .inr (.inl of)))]) sz)) 1 6 (va_A ([(k0, .inr (4, [.ref h4, lo, up, .int powered, .int stepsDone])), (o0, .inl (aL, 1, .inr (.inl of)))]) sz) := by
  refine enh (cc := cL_contact) (maxL := 6) (ret := (some .int)) (Qc := (fun A : Nat → Prop => va_Qi (fun (r : Int32) (u : Unit) => F_h_contact_x = r) (mpst D A (fun (u : Unit) => [(k0, .inr (4, [.ref h4, lo, up, .int powered, .int stepsDone])), (o0, .inl (aL, 1, .inr (.inl of)))])) A)) (by decide) rfl (Nat.le_of_ble_eq_true rfl) ?_
  intro p e s m args below meth c A ls Q hQ hx hb hr hts hown hlk hnm hml htab hA hS hP hK hD hE hl
  have hown : s.vm.findClass RL = some m.cls := hown
  have hl : lv_has ls 6 [(0, .ref k0), (1, .int p0), (2, .int p1), (3, .int p2), (4, .ref o0)] := hl
  have hG := F_h_contact_x_u
  refine lv_aload hx hb dL_contact_0 (lv_at hl 4 rfl) ?_
  refine lv_iconst (v := 0) hx hb dL_contact_2 (by decide) ?_
  refine lv_aload_n hx hb dL_contact_3 rfl (lv_at hl 0 rfl) ?_
  refine lv_iload_n hx hb dL_contact_4 rfl (lv_at hl 1 rfl) ?_
  refine lv_iload_n hx hb dL_contact_5 rfl (lv_at hl 2 rfl) ?_
  refine lv_iload_n hx hb dL_contact_6 rfl (lv_at hl 3 rfl) ?_
  refine my_ci (wr := [(o0, .inl (aL, 1, .inr (.inl of)))]) [0] [1] (vx_runV (As := [.int p0, .int p1, .int p2]) (rest := [.int 0, .ref o0]) ⟨hx, hb, hml, hown, hts⟩ (c_contact_x l hl9 D aI aL aZ _ k0 h4 powered stepsDone lo up p0 p1 p2 h9 h8) (cwV 3 hts (gV w_464 w_465 w_466 w_35 w_467) rfl rfl rfl (by decide +kernel) ⟨Nat.le_of_ble_eq_true rfl, Nat.le_of_ble_eq_true rfl⟩) (prev_of hK hP hD hS hA hE [0] rfl (by decide) (ci := 4) rfl 0 rfl _) rfl rfl hl.1 rfl (lv_room (Nat.le_of_ble_eq_true rfl)) dL_contact_7 ⟨Nat.le_of_ble_eq_true rfl, Nat.le_of_ble_eq_true rfl⟩) hP hD hS hA rfl rfl (by decide) (by decide) (fun E ce q9 u H locs hw hEx hP hD hS hce hcv hcl => ?_) (fun r_1 u_ H locs hw_2 hP hD hS => ?_)
  · obtain ⟨hw, hu⟩ := hw
    have htab : c.exceptionTable.toList = [⟨0, 19, 22, 13⟩] := htab
    subst hu
    have hG := hG.trans (ch_1 hw)
    refine my_h1 (u := 1) hown htab (by decide) (by decide) (hts _ (mG w_105)) hE hEx hce hcv hcl ?_
    have hP : va_P D vwCl [(o0, .inl (aL, 1, .inr (.inl of))), (k0, .inr (4, [.ref h4, lo, up, .int powered, .int stepsDone]))] H := hP
    have hD : va_D A [(o0, .inl (aL, 1, .inr (.inl of))), (k0, .inr (4, [.ref h4, lo, up, .int powered, .int stepsDone]))] := hD
    refine lv_astore (lv' := [(5, .ref q9), (0, .ref k0), (1, .int p0), (2, .int p1), (3, .int p2), (4, .ref o0)]) hx hb dL_contact_22 hl (by decide) rfl (fun ls hl => ?_)
    refine lv_iconst (v := 1) hx hb dL_contact_24 (by decide) ?_
    have hP := hP.sub (ws' := [(k0, .inr (4, [.ref h4, lo, up, .int powered, .int stepsDone])), (o0, .inl (aL, 1, .inr (.inl of)))]) [1, 0] rfl
    have hD := hD.sub (ws' := [(k0, .inr (4, [.ref h4, lo, up, .int powered, .int stepsDone])), (o0, .inl (aL, 1, .inr (.inl of)))]) [1, 0] (by decide) rfl
    exact rt_i hQ hx hb hr () hG hP hD hS (Nat.le_of_ble_eq_true rfl) (Nat.le_of_ble_eq_true rfl) dL_contact_25 hlk
  · skip
    exact False.elim hw_2
theorem dL_load_0 : decode cL_load 0 = .ok (.aload_n 3, 1) := by decide +kernel
theorem dL_load_1 : decode cL_load 1 = .ok (.iconst 0, 1) := by decide +kernel
theorem dL_load_2 : decode cL_load 2 = .ok (.aload_n 0, 1) := by decide +kernel
theorem dL_load_3 : decode cL_load 3 = .ok (.iload_n 1, 1) := by decide +kernel
theorem dL_load_4 : decode cL_load 4 = .ok (.iload_n 2, 1) := by decide +kernel
theorem dL_load_5 : decode cL_load 5 = .ok (.invokevirtual 53, 3) := by decide +kernel
theorem dL_load_8 : decode cL_load 8 = .ok (.i2l, 1) := by decide +kernel
theorem dL_load_9 : decode cL_load 9 = .ok (.lastore, 1) := by decide +kernel
theorem dL_load_10 : decode cL_load 10 = .ok (.goto 7, 3) := by decide +kernel
theorem dL_load_13 : decode cL_load 13 = .ok (.astore 4, 2) := by decide +kernel
theorem dL_load_15 : decode cL_load 15 = .ok (.iconst 1, 1) := by decide +kernel
theorem dL_load_16 : decode cL_load 16 = .ok (.ireturn, 1) := by decide +kernel
theorem dL_load_17 : decode cL_load 17 = .ok (.iconst 0, 1) := by decide +kernel
theorem dL_load_18 : decode cL_load 18 = .ok (.ireturn, 1) := by decide +kernel
def F_h_load_0 (kilos : Int32) (p1 : Int32) (of : Nat → Int64) : Int32 × Int32 × (Nat → Int64) :=
  ch (F_load_0 kilos p1)
    ((1, kilos, of))
    ((1, kilos, of)) fun r_1 =>
    (0, p1, (vp_updL of (0 : Int32).toNatClampNeg ((r_1).toInt64)))
theorem F_h_load_0_u (kilos : Int32) (p1 : Int32) (of : Nat → Int64) : F_h_load_0 kilos p1 of =
  ((ch (F_load_0 kilos p1)
    ((1, kilos, of))
    ((1, kilos, of)) fun r_1 =>
    (0, p1, (vp_updL of (0 : Int32).toNatClampNeg ((r_1).toInt64)))) : Int32 × Int32 × (Nat → Int64)) := rfl
set_option maxHeartbeats 4000000 in
set_option maxRecDepth 100000 in
theorem c_h_load_0 (l : Launch) (hl9 : l.stackTraces = false) (D : va_G) (aI aL aZ : ClassId) (sz : Nat) (k0 : Nat) (h4 : Nat) (powered : Int32) (stepsDone : Int32) (up : Value) (h0 : Nat) (h1 : Nat) (h2 : Nat) (wayToOther : Int32) (place : Int32) (speed : Int32) (way : Int32) (topSpeed : Int32) (gain : Int32) (brake : Int32) (darkSpeed : Int32) (rideSpeed : Int32) (kilos : Int32) (mostKilos : Int32) (openContacts : Int32) (fireFloor : Int32) (ride : Int32) (starts : Int32) (distance : Int32) (hardFalls : Int32) (p1 : Int32) (o0 : Nat) (of : Nat → Int64) : Met l yL_load (.codeWith yL_load cL_load 5 (some .int) [(0, 10, 13, 13)] :: Gw) ({ frames := 8, cells := 1, slots := 6, locals := 138 }) (va_Pc [.ref k0, .int 0, .int p1, .ref o0] (mpre D [(aI, .int), (aL, .long), (aZ, .boolean)] [(k0, .inr (4, [.ref h4, .ref h0, up, .int powered, .int stepsDone])), (h0, .inr (1, [.int wayToOther, .ref h1, .ref h2, .int place, .int speed, .int way, .int topSpeed, .int gain, .int brake, .int darkSpeed, .int rideSpeed, .int kilos, .int mostKilos, .int openContacts, .int fireFloor, .int ride, .int starts, .int distance, .int hardFalls])), (o0, .inl (aL, 1, .inr (.inl of)))] sz)) ((fun A : Nat → Prop => va_Qi (fun (r : Int32) (u : Int32 × (Nat → Int64)) => match u with | (u0, u1) => F_h_load_0 kilos p1 of = (r, u0, u1)) (mpst D A (fun (u : Int32 × (Nat → Int64)) => match u with | (u0, u1) => [(k0, .inr (4, [.ref h4, .ref h0, up, .int powered, .int stepsDone])), (h0, .inr (1, [.int wayToOther, .ref h1, .ref h2, .int place, .int speed, .int way, .int topSpeed, .int gain, .int brake, .int darkSpeed, .int rideSpeed, .int u0, .int mostKilos, .int openContacts, .int fireFloor, .int ride, .int starts, .int distance, .int hardFalls])), (o0, .inl (aL, 1, .inr (.inl u1)))])) A) (va_A ([(k0, .inr (4, [.ref h4, .ref h0, up, .int powered, .int stepsDone])), (h0, .inr (1, [.int wayToOther, .ref h1, .ref h2, .int place, .int speed, .int way, .int topSpeed, .int gain, .int brake, .int darkSpeed, .int rideSpeed, .int kilos, .int mostKilos, .int openContacts, .int fireFloor, .int ride, .int starts, .int distance, .int hardFalls])), (o0, .inl (aL, 1, .inr (.inl of)))]) sz)) 1 6 (va_A ([(k0, .inr (4, [.ref h4, .ref h0, up, .int powered, .int stepsDone])), (h0, .inr (1, [.int wayToOther, .ref h1, .ref h2, .int place, .int speed, .int way, .int topSpeed, .int gain, .int brake, .int darkSpeed, .int rideSpeed, .int kilos, .int mostKilos, .int openContacts, .int fireFloor, .int ride, .int starts, .int distance, .int hardFalls])), (o0, .inl (aL, 1, .inr (.inl of)))]) sz) := by
  refine enh (cc := cL_load) (maxL := 5) (ret := (some .int)) (Qc := (fun A : Nat → Prop => va_Qi (fun (r : Int32) (u : Int32 × (Nat → Int64)) => match u with | (u0, u1) => F_h_load_0 kilos p1 of = (r, u0, u1)) (mpst D A (fun (u : Int32 × (Nat → Int64)) => match u with | (u0, u1) => [(k0, .inr (4, [.ref h4, .ref h0, up, .int powered, .int stepsDone])), (h0, .inr (1, [.int wayToOther, .ref h1, .ref h2, .int place, .int speed, .int way, .int topSpeed, .int gain, .int brake, .int darkSpeed, .int rideSpeed, .int u0, .int mostKilos, .int openContacts, .int fireFloor, .int ride, .int starts, .int distance, .int hardFalls])), (o0, .inl (aL, 1, .inr (.inl u1)))])) A)) (by decide) rfl (Nat.le_of_ble_eq_true rfl) ?_
  intro p e s m args below meth c A ls Q hQ hx hb hr hts hown hlk hnm hml htab hA hS hP hK hD hE hl
  have hown : s.vm.findClass RL = some m.cls := hown
  have hl : lv_has ls 5 [(0, .ref k0), (1, .int 0), (2, .int p1), (3, .ref o0)] := hl
  have hG := F_h_load_0_u kilos p1 of
  refine lv_aload_n hx hb dL_load_0 rfl (lv_at hl 3 rfl) ?_
  refine lv_iconst (v := 0) hx hb dL_load_1 (by decide) ?_
  refine lv_aload_n hx hb dL_load_2 rfl (lv_at hl 0 rfl) ?_
  refine lv_iload_n hx hb dL_load_3 rfl (lv_at hl 1 rfl) ?_
  refine lv_iload_n hx hb dL_load_4 rfl (lv_at hl 2 rfl) ?_
  refine my_ci (wr := [(o0, .inl (aL, 1, .inr (.inl of)))]) [0, 1] [2] (vx_runV (As := [.int 0, .int p1]) (rest := [.int 0, .ref o0]) ⟨hx, hb, hml, hown, hts⟩ (c_load_0 l hl9 D aI aL aZ _ k0 h4 powered stepsDone up h0 h1 h2 wayToOther place speed way topSpeed gain brake darkSpeed rideSpeed kilos mostKilos openContacts fireFloor ride starts distance hardFalls p1) (cwV 2 hts (gV w_471 w_472 w_473 w_35 w_474) rfl rfl rfl (by decide +kernel) ⟨Nat.le_of_ble_eq_true rfl, Nat.le_of_ble_eq_true rfl⟩) (prev_of hK hP hD hS hA hE [0, 1] rfl (by decide) (ci := 4) rfl 0 rfl _) rfl rfl hl.1 rfl (lv_room (Nat.le_of_ble_eq_true rfl)) dL_load_5 ⟨Nat.le_of_ble_eq_true rfl, Nat.le_of_ble_eq_true rfl⟩) hP hD hS hA rfl rfl (by decide) (by decide) (fun E ce q9 u H locs hw hEx hP hD hS hce hcv hcl => ?_) (fun r_1 u_ H locs hw_2 hP hD hS => ?_)
  · obtain ⟨hw, hu⟩ := hw
    have htab : c.exceptionTable.toList = [⟨0, 10, 13, 13⟩] := htab
    subst hu
    have hG := hG.trans (ch_1 hw)
    refine my_h1 (u := 1) hown htab (by decide) (by decide) (hts _ (mG w_105)) hE hEx hce hcv hcl ?_
    have hP : va_P D vwCl [(o0, .inl (aL, 1, .inr (.inl of))), (k0, .inr (4, [.ref h4, .ref h0, up, .int powered, .int stepsDone])), (h0, .inr (1, [.int wayToOther, .ref h1, .ref h2, .int place, .int speed, .int way, .int topSpeed, .int gain, .int brake, .int darkSpeed, .int rideSpeed, .int kilos, .int mostKilos, .int openContacts, .int fireFloor, .int ride, .int starts, .int distance, .int hardFalls]))] H := hP
    have hD : va_D A [(o0, .inl (aL, 1, .inr (.inl of))), (k0, .inr (4, [.ref h4, .ref h0, up, .int powered, .int stepsDone])), (h0, .inr (1, [.int wayToOther, .ref h1, .ref h2, .int place, .int speed, .int way, .int topSpeed, .int gain, .int brake, .int darkSpeed, .int rideSpeed, .int kilos, .int mostKilos, .int openContacts, .int fireFloor, .int ride, .int starts, .int distance, .int hardFalls]))] := hD
    refine lv_astore (lv' := [(4, .ref q9), (0, .ref k0), (1, .int 0), (2, .int p1), (3, .ref o0)]) hx hb dL_load_13 hl (by decide) rfl (fun ls hl => ?_)
    refine lv_iconst (v := 1) hx hb dL_load_15 (by decide) ?_
    have hP := hP.sub (ws' := [(k0, .inr (4, [.ref h4, .ref h0, up, .int powered, .int stepsDone])), (h0, .inr (1, [.int wayToOther, .ref h1, .ref h2, .int place, .int speed, .int way, .int topSpeed, .int gain, .int brake, .int darkSpeed, .int rideSpeed, .int kilos, .int mostKilos, .int openContacts, .int fireFloor, .int ride, .int starts, .int distance, .int hardFalls])), (o0, .inl (aL, 1, .inr (.inl of)))]) [1, 2, 0] rfl
    have hD := hD.sub (ws' := [(k0, .inr (4, [.ref h4, .ref h0, up, .int powered, .int stepsDone])), (h0, .inr (1, [.int wayToOther, .ref h1, .ref h2, .int place, .int speed, .int way, .int topSpeed, .int gain, .int brake, .int darkSpeed, .int rideSpeed, .int kilos, .int mostKilos, .int openContacts, .int fireFloor, .int ride, .int starts, .int distance, .int hardFalls])), (o0, .inl (aL, 1, .inr (.inl of)))]) [1, 2, 0] (by decide) rfl
    exact rt_i hQ hx hb hr (kilos, of) hG hP hD hS (Nat.le_of_ble_eq_true rfl) (Nat.le_of_ble_eq_true rfl) dL_load_16 hlk
  · skip
    have hw_2 : F_load_0 kilos p1 = .inr r_1 := hw_2
    have hG := hG.trans (ch_r hw_2)
    have hP : va_P D vwCl [(o0, .inl (aL, 1, .inr (.inl of))), (k0, .inr (4, [.ref h4, .ref h0, up, .int powered, .int stepsDone])), (h0, .inr (1, [.int wayToOther, .ref h1, .ref h2, .int place, .int speed, .int way, .int topSpeed, .int gain, .int brake, .int darkSpeed, .int rideSpeed, .int p1, .int mostKilos, .int openContacts, .int fireFloor, .int ride, .int starts, .int distance, .int hardFalls]))] H := hP
    have hD : va_D A [(o0, .inl (aL, 1, .inr (.inl of))), (k0, .inr (4, [.ref h4, .ref h0, up, .int powered, .int stepsDone])), (h0, .inr (1, [.int wayToOther, .ref h1, .ref h2, .int place, .int speed, .int way, .int topSpeed, .int gain, .int brake, .int darkSpeed, .int rideSpeed, .int p1, .int mostKilos, .int openContacts, .int fireFloor, .int ride, .int starts, .int distance, .int hardFalls]))] := hD
    refine lv_i2l (v := (r_1).toInt64) hx hb dL_load_8 rfl ?_
    refine va_last hx hb hK hP hD hS 0 1 rfl rfl (by unfold vp_in; decide) dL_load_9 (fun H locs hP hD hS => ?_)
    have hP : va_P D vwCl [(o0, .inl (aL, 1, .inr (.inl (vp_updL of (0 : Int32).toNatClampNeg ((r_1).toInt64))))), (k0, .inr (4, [.ref h4, .ref h0, up, .int powered, .int stepsDone])), (h0, .inr (1, [.int wayToOther, .ref h1, .ref h2, .int place, .int speed, .int way, .int topSpeed, .int gain, .int brake, .int darkSpeed, .int rideSpeed, .int p1, .int mostKilos, .int openContacts, .int fireFloor, .int ride, .int starts, .int distance, .int hardFalls]))] H := hP
    have hD : va_D A [(o0, .inl (aL, 1, .inr (.inl (vp_updL of (0 : Int32).toNatClampNeg ((r_1).toInt64))))), (k0, .inr (4, [.ref h4, .ref h0, up, .int powered, .int stepsDone])), (h0, .inr (1, [.int wayToOther, .ref h1, .ref h2, .int place, .int speed, .int way, .int topSpeed, .int gain, .int brake, .int darkSpeed, .int rideSpeed, .int p1, .int mostKilos, .int openContacts, .int fireFloor, .int ride, .int starts, .int distance, .int hardFalls]))] := hD
    refine lv_goto (tgt := 17) hx hb dL_load_10 (by decide) ?_
    refine lv_iconst (v := 0) hx hb dL_load_17 (by decide) ?_
    have hP := hP.sub (ws' := [(k0, .inr (4, [.ref h4, .ref h0, up, .int powered, .int stepsDone])), (h0, .inr (1, [.int wayToOther, .ref h1, .ref h2, .int place, .int speed, .int way, .int topSpeed, .int gain, .int brake, .int darkSpeed, .int rideSpeed, .int p1, .int mostKilos, .int openContacts, .int fireFloor, .int ride, .int starts, .int distance, .int hardFalls])), (o0, .inl (aL, 1, .inr (.inl (vp_updL of (0 : Int32).toNatClampNeg ((r_1).toInt64)))))]) [1, 2, 0] rfl
    have hD := hD.sub (ws' := [(k0, .inr (4, [.ref h4, .ref h0, up, .int powered, .int stepsDone])), (h0, .inr (1, [.int wayToOther, .ref h1, .ref h2, .int place, .int speed, .int way, .int topSpeed, .int gain, .int brake, .int darkSpeed, .int rideSpeed, .int p1, .int mostKilos, .int openContacts, .int fireFloor, .int ride, .int starts, .int distance, .int hardFalls])), (o0, .inl (aL, 1, .inr (.inl (vp_updL of (0 : Int32).toNatClampNeg ((r_1).toInt64)))))]) [1, 2, 0] (by decide) rfl
    exact rt_i hQ hx hb hr (p1, (vp_updL of (0 : Int32).toNatClampNeg ((r_1).toInt64))) hG hP hD hS (Nat.le_of_ble_eq_true rfl) (Nat.le_of_ble_eq_true rfl) dL_load_18 hlk
def F_h_load_1 (kilos : Int32) (p1 : Int32) (of : Nat → Int64) : Int32 × Int32 × (Nat → Int64) :=
  ch (F_load_1 kilos p1)
    ((1, kilos, of))
    ((1, kilos, of)) fun r_1 =>
    (0, p1, (vp_updL of (0 : Int32).toNatClampNeg ((r_1).toInt64)))
theorem F_h_load_1_u (kilos : Int32) (p1 : Int32) (of : Nat → Int64) : F_h_load_1 kilos p1 of =
  ((ch (F_load_1 kilos p1)
    ((1, kilos, of))
    ((1, kilos, of)) fun r_1 =>
    (0, p1, (vp_updL of (0 : Int32).toNatClampNeg ((r_1).toInt64)))) : Int32 × Int32 × (Nat → Int64)) := rfl
set_option maxHeartbeats 4000000 in
set_option maxRecDepth 100000 in
theorem c_h_load_1 (l : Launch) (hl9 : l.stackTraces = false) (D : va_G) (aI aL aZ : ClassId) (sz : Nat) (k0 : Nat) (h4 : Nat) (powered : Int32) (stepsDone : Int32) (lo : Value) (h0 : Nat) (h1 : Nat) (h2 : Nat) (wayToOther : Int32) (place : Int32) (speed : Int32) (way : Int32) (topSpeed : Int32) (gain : Int32) (brake : Int32) (darkSpeed : Int32) (rideSpeed : Int32) (kilos : Int32) (mostKilos : Int32) (openContacts : Int32) (fireFloor : Int32) (ride : Int32) (starts : Int32) (distance : Int32) (hardFalls : Int32) (p1 : Int32) (o0 : Nat) (of : Nat → Int64) : Met l yL_load (.codeWith yL_load cL_load 5 (some .int) [(0, 10, 13, 13)] :: Gw) ({ frames := 8, cells := 1, slots := 6, locals := 138 }) (va_Pc [.ref k0, .int 1, .int p1, .ref o0] (mpre D [(aI, .int), (aL, .long), (aZ, .boolean)] [(k0, .inr (4, [.ref h4, lo, .ref h0, .int powered, .int stepsDone])), (h0, .inr (1, [.int wayToOther, .ref h1, .ref h2, .int place, .int speed, .int way, .int topSpeed, .int gain, .int brake, .int darkSpeed, .int rideSpeed, .int kilos, .int mostKilos, .int openContacts, .int fireFloor, .int ride, .int starts, .int distance, .int hardFalls])), (o0, .inl (aL, 1, .inr (.inl of)))] sz)) ((fun A : Nat → Prop => va_Qi (fun (r : Int32) (u : Int32 × (Nat → Int64)) => match u with | (u0, u1) => F_h_load_1 kilos p1 of = (r, u0, u1)) (mpst D A (fun (u : Int32 × (Nat → Int64)) => match u with | (u0, u1) => [(k0, .inr (4, [.ref h4, lo, .ref h0, .int powered, .int stepsDone])), (h0, .inr (1, [.int wayToOther, .ref h1, .ref h2, .int place, .int speed, .int way, .int topSpeed, .int gain, .int brake, .int darkSpeed, .int rideSpeed, .int u0, .int mostKilos, .int openContacts, .int fireFloor, .int ride, .int starts, .int distance, .int hardFalls])), (o0, .inl (aL, 1, .inr (.inl u1)))])) A) (va_A ([(k0, .inr (4, [.ref h4, lo, .ref h0, .int powered, .int stepsDone])), (h0, .inr (1, [.int wayToOther, .ref h1, .ref h2, .int place, .int speed, .int way, .int topSpeed, .int gain, .int brake, .int darkSpeed, .int rideSpeed, .int kilos, .int mostKilos, .int openContacts, .int fireFloor, .int ride, .int starts, .int distance, .int hardFalls])), (o0, .inl (aL, 1, .inr (.inl of)))]) sz)) 1 6 (va_A ([(k0, .inr (4, [.ref h4, lo, .ref h0, .int powered, .int stepsDone])), (h0, .inr (1, [.int wayToOther, .ref h1, .ref h2, .int place, .int speed, .int way, .int topSpeed, .int gain, .int brake, .int darkSpeed, .int rideSpeed, .int kilos, .int mostKilos, .int openContacts, .int fireFloor, .int ride, .int starts, .int distance, .int hardFalls])), (o0, .inl (aL, 1, .inr (.inl of)))]) sz) := by
  refine enh (cc := cL_load) (maxL := 5) (ret := (some .int)) (Qc := (fun A : Nat → Prop => va_Qi (fun (r : Int32) (u : Int32 × (Nat → Int64)) => match u with | (u0, u1) => F_h_load_1 kilos p1 of = (r, u0, u1)) (mpst D A (fun (u : Int32 × (Nat → Int64)) => match u with | (u0, u1) => [(k0, .inr (4, [.ref h4, lo, .ref h0, .int powered, .int stepsDone])), (h0, .inr (1, [.int wayToOther, .ref h1, .ref h2, .int place, .int speed, .int way, .int topSpeed, .int gain, .int brake, .int darkSpeed, .int rideSpeed, .int u0, .int mostKilos, .int openContacts, .int fireFloor, .int ride, .int starts, .int distance, .int hardFalls])), (o0, .inl (aL, 1, .inr (.inl u1)))])) A)) (by decide) rfl (Nat.le_of_ble_eq_true rfl) ?_
  intro p e s m args below meth c A ls Q hQ hx hb hr hts hown hlk hnm hml htab hA hS hP hK hD hE hl
  have hown : s.vm.findClass RL = some m.cls := hown
  have hl : lv_has ls 5 [(0, .ref k0), (1, .int 1), (2, .int p1), (3, .ref o0)] := hl
  have hG := F_h_load_1_u kilos p1 of
  refine lv_aload_n hx hb dL_load_0 rfl (lv_at hl 3 rfl) ?_
  refine lv_iconst (v := 0) hx hb dL_load_1 (by decide) ?_
  refine lv_aload_n hx hb dL_load_2 rfl (lv_at hl 0 rfl) ?_
  refine lv_iload_n hx hb dL_load_3 rfl (lv_at hl 1 rfl) ?_
  refine lv_iload_n hx hb dL_load_4 rfl (lv_at hl 2 rfl) ?_
  refine my_ci (wr := [(o0, .inl (aL, 1, .inr (.inl of)))]) [0, 1] [2] (vx_runV (As := [.int 1, .int p1]) (rest := [.int 0, .ref o0]) ⟨hx, hb, hml, hown, hts⟩ (c_load_1 l hl9 D aI aL aZ _ k0 h4 powered stepsDone lo h0 h1 h2 wayToOther place speed way topSpeed gain brake darkSpeed rideSpeed kilos mostKilos openContacts fireFloor ride starts distance hardFalls p1) (cwV 2 hts (gV w_471 w_472 w_473 w_35 w_474) rfl rfl rfl (by decide +kernel) ⟨Nat.le_of_ble_eq_true rfl, Nat.le_of_ble_eq_true rfl⟩) (prev_of hK hP hD hS hA hE [0, 1] rfl (by decide) (ci := 4) rfl 0 rfl _) rfl rfl hl.1 rfl (lv_room (Nat.le_of_ble_eq_true rfl)) dL_load_5 ⟨Nat.le_of_ble_eq_true rfl, Nat.le_of_ble_eq_true rfl⟩) hP hD hS hA rfl rfl (by decide) (by decide) (fun E ce q9 u H locs hw hEx hP hD hS hce hcv hcl => ?_) (fun r_1 u_ H locs hw_2 hP hD hS => ?_)
  · obtain ⟨hw, hu⟩ := hw
    have htab : c.exceptionTable.toList = [⟨0, 10, 13, 13⟩] := htab
    subst hu
    have hG := hG.trans (ch_1 hw)
    refine my_h1 (u := 1) hown htab (by decide) (by decide) (hts _ (mG w_105)) hE hEx hce hcv hcl ?_
    have hP : va_P D vwCl [(o0, .inl (aL, 1, .inr (.inl of))), (k0, .inr (4, [.ref h4, lo, .ref h0, .int powered, .int stepsDone])), (h0, .inr (1, [.int wayToOther, .ref h1, .ref h2, .int place, .int speed, .int way, .int topSpeed, .int gain, .int brake, .int darkSpeed, .int rideSpeed, .int kilos, .int mostKilos, .int openContacts, .int fireFloor, .int ride, .int starts, .int distance, .int hardFalls]))] H := hP
    have hD : va_D A [(o0, .inl (aL, 1, .inr (.inl of))), (k0, .inr (4, [.ref h4, lo, .ref h0, .int powered, .int stepsDone])), (h0, .inr (1, [.int wayToOther, .ref h1, .ref h2, .int place, .int speed, .int way, .int topSpeed, .int gain, .int brake, .int darkSpeed, .int rideSpeed, .int kilos, .int mostKilos, .int openContacts, .int fireFloor, .int ride, .int starts, .int distance, .int hardFalls]))] := hD
    refine lv_astore (lv' := [(4, .ref q9), (0, .ref k0), (1, .int 1), (2, .int p1), (3, .ref o0)]) hx hb dL_load_13 hl (by decide) rfl (fun ls hl => ?_)
    refine lv_iconst (v := 1) hx hb dL_load_15 (by decide) ?_
    have hP := hP.sub (ws' := [(k0, .inr (4, [.ref h4, lo, .ref h0, .int powered, .int stepsDone])), (h0, .inr (1, [.int wayToOther, .ref h1, .ref h2, .int place, .int speed, .int way, .int topSpeed, .int gain, .int brake, .int darkSpeed, .int rideSpeed, .int kilos, .int mostKilos, .int openContacts, .int fireFloor, .int ride, .int starts, .int distance, .int hardFalls])), (o0, .inl (aL, 1, .inr (.inl of)))]) [1, 2, 0] rfl
    have hD := hD.sub (ws' := [(k0, .inr (4, [.ref h4, lo, .ref h0, .int powered, .int stepsDone])), (h0, .inr (1, [.int wayToOther, .ref h1, .ref h2, .int place, .int speed, .int way, .int topSpeed, .int gain, .int brake, .int darkSpeed, .int rideSpeed, .int kilos, .int mostKilos, .int openContacts, .int fireFloor, .int ride, .int starts, .int distance, .int hardFalls])), (o0, .inl (aL, 1, .inr (.inl of)))]) [1, 2, 0] (by decide) rfl
    exact rt_i hQ hx hb hr (kilos, of) hG hP hD hS (Nat.le_of_ble_eq_true rfl) (Nat.le_of_ble_eq_true rfl) dL_load_16 hlk
  · skip
    have hw_2 : F_load_1 kilos p1 = .inr r_1 := hw_2
    have hG := hG.trans (ch_r hw_2)
    have hP : va_P D vwCl [(o0, .inl (aL, 1, .inr (.inl of))), (k0, .inr (4, [.ref h4, lo, .ref h0, .int powered, .int stepsDone])), (h0, .inr (1, [.int wayToOther, .ref h1, .ref h2, .int place, .int speed, .int way, .int topSpeed, .int gain, .int brake, .int darkSpeed, .int rideSpeed, .int p1, .int mostKilos, .int openContacts, .int fireFloor, .int ride, .int starts, .int distance, .int hardFalls]))] H := hP
    have hD : va_D A [(o0, .inl (aL, 1, .inr (.inl of))), (k0, .inr (4, [.ref h4, lo, .ref h0, .int powered, .int stepsDone])), (h0, .inr (1, [.int wayToOther, .ref h1, .ref h2, .int place, .int speed, .int way, .int topSpeed, .int gain, .int brake, .int darkSpeed, .int rideSpeed, .int p1, .int mostKilos, .int openContacts, .int fireFloor, .int ride, .int starts, .int distance, .int hardFalls]))] := hD
    refine lv_i2l (v := (r_1).toInt64) hx hb dL_load_8 rfl ?_
    refine va_last hx hb hK hP hD hS 0 1 rfl rfl (by unfold vp_in; decide) dL_load_9 (fun H locs hP hD hS => ?_)
    have hP : va_P D vwCl [(o0, .inl (aL, 1, .inr (.inl (vp_updL of (0 : Int32).toNatClampNeg ((r_1).toInt64))))), (k0, .inr (4, [.ref h4, lo, .ref h0, .int powered, .int stepsDone])), (h0, .inr (1, [.int wayToOther, .ref h1, .ref h2, .int place, .int speed, .int way, .int topSpeed, .int gain, .int brake, .int darkSpeed, .int rideSpeed, .int p1, .int mostKilos, .int openContacts, .int fireFloor, .int ride, .int starts, .int distance, .int hardFalls]))] H := hP
    have hD : va_D A [(o0, .inl (aL, 1, .inr (.inl (vp_updL of (0 : Int32).toNatClampNeg ((r_1).toInt64))))), (k0, .inr (4, [.ref h4, lo, .ref h0, .int powered, .int stepsDone])), (h0, .inr (1, [.int wayToOther, .ref h1, .ref h2, .int place, .int speed, .int way, .int topSpeed, .int gain, .int brake, .int darkSpeed, .int rideSpeed, .int p1, .int mostKilos, .int openContacts, .int fireFloor, .int ride, .int starts, .int distance, .int hardFalls]))] := hD
    refine lv_goto (tgt := 17) hx hb dL_load_10 (by decide) ?_
    refine lv_iconst (v := 0) hx hb dL_load_17 (by decide) ?_
    have hP := hP.sub (ws' := [(k0, .inr (4, [.ref h4, lo, .ref h0, .int powered, .int stepsDone])), (h0, .inr (1, [.int wayToOther, .ref h1, .ref h2, .int place, .int speed, .int way, .int topSpeed, .int gain, .int brake, .int darkSpeed, .int rideSpeed, .int p1, .int mostKilos, .int openContacts, .int fireFloor, .int ride, .int starts, .int distance, .int hardFalls])), (o0, .inl (aL, 1, .inr (.inl (vp_updL of (0 : Int32).toNatClampNeg ((r_1).toInt64)))))]) [1, 2, 0] rfl
    have hD := hD.sub (ws' := [(k0, .inr (4, [.ref h4, lo, .ref h0, .int powered, .int stepsDone])), (h0, .inr (1, [.int wayToOther, .ref h1, .ref h2, .int place, .int speed, .int way, .int topSpeed, .int gain, .int brake, .int darkSpeed, .int rideSpeed, .int p1, .int mostKilos, .int openContacts, .int fireFloor, .int ride, .int starts, .int distance, .int hardFalls])), (o0, .inl (aL, 1, .inr (.inl (vp_updL of (0 : Int32).toNatClampNeg ((r_1).toInt64)))))]) [1, 2, 0] (by decide) rfl
    exact rt_i hQ hx hb hr (p1, (vp_updL of (0 : Int32).toNatClampNeg ((r_1).toInt64))) hG hP hD hS (Nat.le_of_ble_eq_true rfl) (Nat.le_of_ble_eq_true rfl) dL_load_18 hlk
def F_h_load_0n : Int32 :=
  ch F_load_0n
    (1)
    (1) fun _ =>
    1
theorem F_h_load_0n_u : F_h_load_0n =
  ((ch F_load_0n
    (1)
    (1) fun _ =>
    1) : Int32) := rfl
set_option maxHeartbeats 4000000 in
set_option maxRecDepth 100000 in
theorem c_h_load_0n (l : Launch) (hl9 : l.stackTraces = false) (D : va_G) (aI aL aZ : ClassId) (sz : Nat) (k0 : Nat) (h4 : Nat) (powered : Int32) (stepsDone : Int32) (up : Value) (p1 : Int32) (o0 : Nat) (of : Nat → Int64) : Met l yL_load (.codeWith yL_load cL_load 5 (some .int) [(0, 10, 13, 13)] :: Gw) ({ frames := 8, cells := 1, slots := 6, locals := 138 }) (va_Pc [.ref k0, .int 0, .int p1, .ref o0] (mpre D [(aI, .int), (aL, .long), (aZ, .boolean)] [(k0, .inr (4, [.ref h4, .null, up, .int powered, .int stepsDone])), (o0, .inl (aL, 1, .inr (.inl of)))] sz)) ((fun A : Nat → Prop => va_Qi (fun (r : Int32) (u : Unit) => F_h_load_0n = r) (mpst D A (fun (u : Unit) => [(k0, .inr (4, [.ref h4, .null, up, .int powered, .int stepsDone])), (o0, .inl (aL, 1, .inr (.inl of)))])) A) (va_A ([(k0, .inr (4, [.ref h4, .null, up, .int powered, .int stepsDone])), (o0, .inl (aL, 1, .inr (.inl of)))]) sz)) 1 6 (va_A ([(k0, .inr (4, [.ref h4, .null, up, .int powered, .int stepsDone])), (o0, .inl (aL, 1, .inr (.inl of)))]) sz) := by
  refine enh (cc := cL_load) (maxL := 5) (ret := (some .int)) (Qc := (fun A : Nat → Prop => va_Qi (fun (r : Int32) (u : Unit) => F_h_load_0n = r) (mpst D A (fun (u : Unit) => [(k0, .inr (4, [.ref h4, .null, up, .int powered, .int stepsDone])), (o0, .inl (aL, 1, .inr (.inl of)))])) A)) (by decide) rfl (Nat.le_of_ble_eq_true rfl) ?_
  intro p e s m args below meth c A ls Q hQ hx hb hr hts hown hlk hnm hml htab hA hS hP hK hD hE hl
  have hown : s.vm.findClass RL = some m.cls := hown
  have hl : lv_has ls 5 [(0, .ref k0), (1, .int 0), (2, .int p1), (3, .ref o0)] := hl
  have hG := F_h_load_0n_u
  refine lv_aload_n hx hb dL_load_0 rfl (lv_at hl 3 rfl) ?_
  refine lv_iconst (v := 0) hx hb dL_load_1 (by decide) ?_
  refine lv_aload_n hx hb dL_load_2 rfl (lv_at hl 0 rfl) ?_
  refine lv_iload_n hx hb dL_load_3 rfl (lv_at hl 1 rfl) ?_
  refine lv_iload_n hx hb dL_load_4 rfl (lv_at hl 2 rfl) ?_
  refine my_ci (wr := [(o0, .inl (aL, 1, .inr (.inl of)))]) [0] [1] (vx_runV (As := [.int 0, .int p1]) (rest := [.int 0, .ref o0]) ⟨hx, hb, hml, hown, hts⟩ (c_load_0n l hl9 D aI aL aZ _ k0 h4 powered stepsDone up p1) (cwV 2 hts (gV w_471 w_472 w_473 w_35 w_474) rfl rfl rfl (by decide +kernel) ⟨Nat.le_of_ble_eq_true rfl, Nat.le_of_ble_eq_true rfl⟩) (prev_of hK hP hD hS hA hE [0] rfl (by decide) (ci := 4) rfl 0 rfl _) rfl rfl hl.1 rfl (lv_room (Nat.le_of_ble_eq_true rfl)) dL_load_5 ⟨Nat.le_of_ble_eq_true rfl, Nat.le_of_ble_eq_true rfl⟩) hP hD hS hA rfl rfl (by decide) (by decide) (fun E ce q9 u H locs hw hEx hP hD hS hce hcv hcl => ?_) (fun r_1 u_ H locs hw_2 hP hD hS => ?_)
  · obtain ⟨hw, hu⟩ := hw
    have htab : c.exceptionTable.toList = [⟨0, 10, 13, 13⟩] := htab
    subst hu
    have hG := hG.trans (ch_1 hw)
    refine my_h1 (u := 1) hown htab (by decide) (by decide) (hts _ (mG w_105)) hE hEx hce hcv hcl ?_
    have hP : va_P D vwCl [(o0, .inl (aL, 1, .inr (.inl of))), (k0, .inr (4, [.ref h4, .null, up, .int powered, .int stepsDone]))] H := hP
    have hD : va_D A [(o0, .inl (aL, 1, .inr (.inl of))), (k0, .inr (4, [.ref h4, .null, up, .int powered, .int stepsDone]))] := hD
    refine lv_astore (lv' := [(4, .ref q9), (0, .ref k0), (1, .int 0), (2, .int p1), (3, .ref o0)]) hx hb dL_load_13 hl (by decide) rfl (fun ls hl => ?_)
    refine lv_iconst (v := 1) hx hb dL_load_15 (by decide) ?_
    have hP := hP.sub (ws' := [(k0, .inr (4, [.ref h4, .null, up, .int powered, .int stepsDone])), (o0, .inl (aL, 1, .inr (.inl of)))]) [1, 0] rfl
    have hD := hD.sub (ws' := [(k0, .inr (4, [.ref h4, .null, up, .int powered, .int stepsDone])), (o0, .inl (aL, 1, .inr (.inl of)))]) [1, 0] (by decide) rfl
    exact rt_i hQ hx hb hr () hG hP hD hS (Nat.le_of_ble_eq_true rfl) (Nat.le_of_ble_eq_true rfl) dL_load_16 hlk
  · skip
    exact False.elim hw_2
def F_h_load_1n : Int32 :=
  ch F_load_1n
    (1)
    (1) fun _ =>
    1
theorem F_h_load_1n_u : F_h_load_1n =
  ((ch F_load_1n
    (1)
    (1) fun _ =>
    1) : Int32) := rfl
set_option maxHeartbeats 4000000 in
set_option maxRecDepth 100000 in
theorem c_h_load_1n (l : Launch) (hl9 : l.stackTraces = false) (D : va_G) (aI aL aZ : ClassId) (sz : Nat) (k0 : Nat) (h4 : Nat) (powered : Int32) (stepsDone : Int32) (lo : Value) (p1 : Int32) (o0 : Nat) (of : Nat → Int64) : Met l yL_load (.codeWith yL_load cL_load 5 (some .int) [(0, 10, 13, 13)] :: Gw) ({ frames := 8, cells := 1, slots := 6, locals := 138 }) (va_Pc [.ref k0, .int 1, .int p1, .ref o0] (mpre D [(aI, .int), (aL, .long), (aZ, .boolean)] [(k0, .inr (4, [.ref h4, lo, .null, .int powered, .int stepsDone])), (o0, .inl (aL, 1, .inr (.inl of)))] sz)) ((fun A : Nat → Prop => va_Qi (fun (r : Int32) (u : Unit) => F_h_load_1n = r) (mpst D A (fun (u : Unit) => [(k0, .inr (4, [.ref h4, lo, .null, .int powered, .int stepsDone])), (o0, .inl (aL, 1, .inr (.inl of)))])) A) (va_A ([(k0, .inr (4, [.ref h4, lo, .null, .int powered, .int stepsDone])), (o0, .inl (aL, 1, .inr (.inl of)))]) sz)) 1 6 (va_A ([(k0, .inr (4, [.ref h4, lo, .null, .int powered, .int stepsDone])), (o0, .inl (aL, 1, .inr (.inl of)))]) sz) := by
  refine enh (cc := cL_load) (maxL := 5) (ret := (some .int)) (Qc := (fun A : Nat → Prop => va_Qi (fun (r : Int32) (u : Unit) => F_h_load_1n = r) (mpst D A (fun (u : Unit) => [(k0, .inr (4, [.ref h4, lo, .null, .int powered, .int stepsDone])), (o0, .inl (aL, 1, .inr (.inl of)))])) A)) (by decide) rfl (Nat.le_of_ble_eq_true rfl) ?_
  intro p e s m args below meth c A ls Q hQ hx hb hr hts hown hlk hnm hml htab hA hS hP hK hD hE hl
  have hown : s.vm.findClass RL = some m.cls := hown
  have hl : lv_has ls 5 [(0, .ref k0), (1, .int 1), (2, .int p1), (3, .ref o0)] := hl
  have hG := F_h_load_1n_u
  refine lv_aload_n hx hb dL_load_0 rfl (lv_at hl 3 rfl) ?_
  refine lv_iconst (v := 0) hx hb dL_load_1 (by decide) ?_
  refine lv_aload_n hx hb dL_load_2 rfl (lv_at hl 0 rfl) ?_
  refine lv_iload_n hx hb dL_load_3 rfl (lv_at hl 1 rfl) ?_
  refine lv_iload_n hx hb dL_load_4 rfl (lv_at hl 2 rfl) ?_
  refine my_ci (wr := [(o0, .inl (aL, 1, .inr (.inl of)))]) [0] [1] (vx_runV (As := [.int 1, .int p1]) (rest := [.int 0, .ref o0]) ⟨hx, hb, hml, hown, hts⟩ (c_load_1n l hl9 D aI aL aZ _ k0 h4 powered stepsDone lo p1) (cwV 2 hts (gV w_471 w_472 w_473 w_35 w_474) rfl rfl rfl (by decide +kernel) ⟨Nat.le_of_ble_eq_true rfl, Nat.le_of_ble_eq_true rfl⟩) (prev_of hK hP hD hS hA hE [0] rfl (by decide) (ci := 4) rfl 0 rfl _) rfl rfl hl.1 rfl (lv_room (Nat.le_of_ble_eq_true rfl)) dL_load_5 ⟨Nat.le_of_ble_eq_true rfl, Nat.le_of_ble_eq_true rfl⟩) hP hD hS hA rfl rfl (by decide) (by decide) (fun E ce q9 u H locs hw hEx hP hD hS hce hcv hcl => ?_) (fun r_1 u_ H locs hw_2 hP hD hS => ?_)
  · obtain ⟨hw, hu⟩ := hw
    have htab : c.exceptionTable.toList = [⟨0, 10, 13, 13⟩] := htab
    subst hu
    have hG := hG.trans (ch_1 hw)
    refine my_h1 (u := 1) hown htab (by decide) (by decide) (hts _ (mG w_105)) hE hEx hce hcv hcl ?_
    have hP : va_P D vwCl [(o0, .inl (aL, 1, .inr (.inl of))), (k0, .inr (4, [.ref h4, lo, .null, .int powered, .int stepsDone]))] H := hP
    have hD : va_D A [(o0, .inl (aL, 1, .inr (.inl of))), (k0, .inr (4, [.ref h4, lo, .null, .int powered, .int stepsDone]))] := hD
    refine lv_astore (lv' := [(4, .ref q9), (0, .ref k0), (1, .int 1), (2, .int p1), (3, .ref o0)]) hx hb dL_load_13 hl (by decide) rfl (fun ls hl => ?_)
    refine lv_iconst (v := 1) hx hb dL_load_15 (by decide) ?_
    have hP := hP.sub (ws' := [(k0, .inr (4, [.ref h4, lo, .null, .int powered, .int stepsDone])), (o0, .inl (aL, 1, .inr (.inl of)))]) [1, 0] rfl
    have hD := hD.sub (ws' := [(k0, .inr (4, [.ref h4, lo, .null, .int powered, .int stepsDone])), (o0, .inl (aL, 1, .inr (.inl of)))]) [1, 0] (by decide) rfl
    exact rt_i hQ hx hb hr () hG hP hD hS (Nat.le_of_ble_eq_true rfl) (Nat.le_of_ble_eq_true rfl) dL_load_16 hlk
  · skip
    exact False.elim hw_2
def F_h_load_x : Int32 :=
  ch F_load_x
    (1)
    (1) fun _ =>
    1
theorem F_h_load_x_u : F_h_load_x =
  ((ch F_load_x
    (1)
    (1) fun _ =>
    1) : Int32) := rfl
set_option maxHeartbeats 4000000 in
set_option maxRecDepth 100000 in
theorem c_h_load_x (l : Launch) (hl9 : l.stackTraces = false) (D : va_G) (aI aL aZ : ClassId) (sz : Nat) (k0 : Nat) (h4 : Nat) (powered : Int32) (stepsDone : Int32) (lo : Value) (up : Value) (p0 : Int32) (p1 : Int32) (o0 : Nat) (of : Nat → Int64) (h9 : ¬ p0 = 0) (h8 : ¬ p0 = 1) : Met l yL_load (.codeWith yL_load cL_load 5 (some .int) [(0, 10, 13, 13)] :: Gw) ({ frames := 8, cells := 1, slots := 6, locals := 138 }) (va_Pc [.ref k0, .int p0, .int p1, .ref o0] (mpre D [(aI, .int), (aL, .long), (aZ, .boolean)] [(k0, .inr (4, [.ref h4, lo, up, .int powered, .int stepsDone])), (o0, .inl (aL, 1, .inr (.inl of)))] sz)) ((fun A : Nat → Prop => va_Qi (fun (r : Int32) (u : Unit) => F_h_load_x = r) (mpst D A (fun (u : Unit) => [(k0, .inr (4, [.ref h4, lo, up, .int powered, .int stepsDone])), (o0, .inl (aL, 1, .inr (.inl of)))])) A) (va_A ([(k0, .inr (4, [.ref h4, lo, up, .int powered, .int stepsDone])), (o0, .inl (aL, 1, .inr (.inl of)))]) sz)) 1 6 (va_A ([(k0, .inr (4, [.ref h4, lo, up, .int powered, .int stepsDone])), (o0, .inl (aL, 1, .inr (.inl of)))]) sz) := by
  refine enh (cc := cL_load) (maxL := 5) (ret := (some .int)) (Qc := (fun A : Nat → Prop => va_Qi (fun (r : Int32) (u : Unit) => F_h_load_x = r) (mpst D A (fun (u : Unit) => [(k0, .inr (4, [.ref h4, lo, up, .int powered, .int stepsDone])), (o0, .inl (aL, 1, .inr (.inl of)))])) A)) (by decide) rfl (Nat.le_of_ble_eq_true rfl) ?_
  intro p e s m args below meth c A ls Q hQ hx hb hr hts hown hlk hnm hml htab hA hS hP hK hD hE hl
  have hown : s.vm.findClass RL = some m.cls := hown
  have hl : lv_has ls 5 [(0, .ref k0), (1, .int p0), (2, .int p1), (3, .ref o0)] := hl
  have hG := F_h_load_x_u
  refine lv_aload_n hx hb dL_load_0 rfl (lv_at hl 3 rfl) ?_
  refine lv_iconst (v := 0) hx hb dL_load_1 (by decide) ?_
  refine lv_aload_n hx hb dL_load_2 rfl (lv_at hl 0 rfl) ?_
  refine lv_iload_n hx hb dL_load_3 rfl (lv_at hl 1 rfl) ?_
  refine lv_iload_n hx hb dL_load_4 rfl (lv_at hl 2 rfl) ?_
  refine my_ci (wr := [(o0, .inl (aL, 1, .inr (.inl of)))]) [0] [1] (vx_runV (As := [.int p0, .int p1]) (rest := [.int 0, .ref o0]) ⟨hx, hb, hml, hown, hts⟩ (c_load_x l hl9 D aI aL aZ _ k0 h4 powered stepsDone lo up p0 p1 h9 h8) (cwV 2 hts (gV w_471 w_472 w_473 w_35 w_474) rfl rfl rfl (by decide +kernel) ⟨Nat.le_of_ble_eq_true rfl, Nat.le_of_ble_eq_true rfl⟩) (prev_of hK hP hD hS hA hE [0] rfl (by decide) (ci := 4) rfl 0 rfl _) rfl rfl hl.1 rfl (lv_room (Nat.le_of_ble_eq_true rfl)) dL_load_5 ⟨Nat.le_of_ble_eq_true rfl, Nat.le_of_ble_eq_true rfl⟩) hP hD hS hA rfl rfl (by decide) (by decide) (fun E ce q9 u H locs hw hEx hP hD hS hce hcv hcl => ?_) (fun r_1 u_ H locs hw_2 hP hD hS => ?_)
  · obtain ⟨hw, hu⟩ := hw
    have htab : c.exceptionTable.toList = [⟨0, 10, 13, 13⟩] := htab
    subst hu
    have hG := hG.trans (ch_1 hw)
    refine my_h1 (u := 1) hown htab (by decide) (by decide) (hts _ (mG w_105)) hE hEx hce hcv hcl ?_
    have hP : va_P D vwCl [(o0, .inl (aL, 1, .inr (.inl of))), (k0, .inr (4, [.ref h4, lo, up, .int powered, .int stepsDone]))] H := hP
    have hD : va_D A [(o0, .inl (aL, 1, .inr (.inl of))), (k0, .inr (4, [.ref h4, lo, up, .int powered, .int stepsDone]))] := hD
    refine lv_astore (lv' := [(4, .ref q9), (0, .ref k0), (1, .int p0), (2, .int p1), (3, .ref o0)]) hx hb dL_load_13 hl (by decide) rfl (fun ls hl => ?_)
    refine lv_iconst (v := 1) hx hb dL_load_15 (by decide) ?_
    have hP := hP.sub (ws' := [(k0, .inr (4, [.ref h4, lo, up, .int powered, .int stepsDone])), (o0, .inl (aL, 1, .inr (.inl of)))]) [1, 0] rfl
    have hD := hD.sub (ws' := [(k0, .inr (4, [.ref h4, lo, up, .int powered, .int stepsDone])), (o0, .inl (aL, 1, .inr (.inl of)))]) [1, 0] (by decide) rfl
    exact rt_i hQ hx hb hr () hG hP hD hS (Nat.le_of_ble_eq_true rfl) (Nat.le_of_ble_eq_true rfl) dL_load_16 hlk
  · skip
    exact False.elim hw_2
theorem dL_most_0 : decode cL_most 0 = .ok (.aload_n 3, 1) := by decide +kernel
theorem dL_most_1 : decode cL_most 1 = .ok (.iconst 0, 1) := by decide +kernel
theorem dL_most_2 : decode cL_most 2 = .ok (.aload_n 0, 1) := by decide +kernel
theorem dL_most_3 : decode cL_most 3 = .ok (.iload_n 1, 1) := by decide +kernel
theorem dL_most_4 : decode cL_most 4 = .ok (.iload_n 2, 1) := by decide +kernel
theorem dL_most_5 : decode cL_most 5 = .ok (.invokevirtual 56, 3) := by decide +kernel
theorem dL_most_8 : decode cL_most 8 = .ok (.i2l, 1) := by decide +kernel
theorem dL_most_9 : decode cL_most 9 = .ok (.lastore, 1) := by decide +kernel
theorem dL_most_10 : decode cL_most 10 = .ok (.goto 7, 3) := by decide +kernel
theorem dL_most_13 : decode cL_most 13 = .ok (.astore 4, 2) := by decide +kernel
theorem dL_most_15 : decode cL_most 15 = .ok (.iconst 1, 1) := by decide +kernel
theorem dL_most_16 : decode cL_most 16 = .ok (.ireturn, 1) := by decide +kernel
theorem dL_most_17 : decode cL_most 17 = .ok (.iconst 0, 1) := by decide +kernel
theorem dL_most_18 : decode cL_most 18 = .ok (.ireturn, 1) := by decide +kernel
def F_h_most_0 (mostKilos : Int32) (p1 : Int32) (of : Nat → Int64) : Int32 × Int32 × (Nat → Int64) :=
  ch (F_most_0 mostKilos p1)
    ((1, mostKilos, of))
    ((1, mostKilos, of)) fun r_1 =>
    (0, p1, (vp_updL of (0 : Int32).toNatClampNeg ((r_1).toInt64)))
theorem F_h_most_0_u (mostKilos : Int32) (p1 : Int32) (of : Nat → Int64) : F_h_most_0 mostKilos p1 of =
  ((ch (F_most_0 mostKilos p1)
    ((1, mostKilos, of))
    ((1, mostKilos, of)) fun r_1 =>
    (0, p1, (vp_updL of (0 : Int32).toNatClampNeg ((r_1).toInt64)))) : Int32 × Int32 × (Nat → Int64)) := rfl
set_option maxHeartbeats 4000000 in
set_option maxRecDepth 100000 in
theorem c_h_most_0 (l : Launch) (hl9 : l.stackTraces = false) (D : va_G) (aI aL aZ : ClassId) (sz : Nat) (k0 : Nat) (h4 : Nat) (powered : Int32) (stepsDone : Int32) (up : Value) (h0 : Nat) (h1 : Nat) (h2 : Nat) (wayToOther : Int32) (place : Int32) (speed : Int32) (way : Int32) (topSpeed : Int32) (gain : Int32) (brake : Int32) (darkSpeed : Int32) (rideSpeed : Int32) (kilos : Int32) (mostKilos : Int32) (openContacts : Int32) (fireFloor : Int32) (ride : Int32) (starts : Int32) (distance : Int32) (hardFalls : Int32) (p1 : Int32) (o0 : Nat) (of : Nat → Int64) : Met l yL_most (.codeWith yL_most cL_most 5 (some .int) [(0, 10, 13, 13)] :: Gw) ({ frames := 8, cells := 1, slots := 6, locals := 138 }) (va_Pc [.ref k0, .int 0, .int p1, .ref o0] (mpre D [(aI, .int), (aL, .long), (aZ, .boolean)] [(k0, .inr (4, [.ref h4, .ref h0, up, .int powered, .int stepsDone])), (h0, .inr (1, [.int wayToOther, .ref h1, .ref h2, .int place, .int speed, .int way, .int topSpeed, .int gain, .int brake, .int darkSpeed, .int rideSpeed, .int kilos, .int mostKilos, .int openContacts, .int fireFloor, .int ride, .int starts, .int distance, .int hardFalls])), (o0, .inl (aL, 1, .inr (.inl of)))] sz)) ((fun A : Nat → Prop => va_Qi (fun (r : Int32) (u : Int32 × (Nat → Int64)) => match u with | (u0, u1) => F_h_most_0 mostKilos p1 of = (r, u0, u1)) (mpst D A (fun (u : Int32 × (Nat → Int64)) => match u with | (u0, u1) => [(k0, .inr (4, [.ref h4, .ref h0, up, .int powered, .int stepsDone])), (h0, .inr (1, [.int wayToOther, .ref h1, .ref h2, .int place, .int speed, .int way, .int topSpeed, .int gain, .int brake, .int darkSpeed, .int rideSpeed, .int kilos, .int u0, .int openContacts, .int fireFloor, .int ride, .int starts, .int distance, .int hardFalls])), (o0, .inl (aL, 1, .inr (.inl u1)))])) A) (va_A ([(k0, .inr (4, [.ref h4, .ref h0, up, .int powered, .int stepsDone])), (h0, .inr (1, [.int wayToOther, .ref h1, .ref h2, .int place, .int speed, .int way, .int topSpeed, .int gain, .int brake, .int darkSpeed, .int rideSpeed, .int kilos, .int mostKilos, .int openContacts, .int fireFloor, .int ride, .int starts, .int distance, .int hardFalls])), (o0, .inl (aL, 1, .inr (.inl of)))]) sz)) 1 6 (va_A ([(k0, .inr (4, [.ref h4, .ref h0, up, .int powered, .int stepsDone])), (h0, .inr (1, [.int wayToOther, .ref h1, .ref h2, .int place, .int speed, .int way, .int topSpeed, .int gain, .int brake, .int darkSpeed, .int rideSpeed, .int kilos, .int mostKilos, .int openContacts, .int fireFloor, .int ride, .int starts, .int distance, .int hardFalls])), (o0, .inl (aL, 1, .inr (.inl of)))]) sz) := by
  refine enh (cc := cL_most) (maxL := 5) (ret := (some .int)) (Qc := (fun A : Nat → Prop => va_Qi (fun (r : Int32) (u : Int32 × (Nat → Int64)) => match u with | (u0, u1) => F_h_most_0 mostKilos p1 of = (r, u0, u1)) (mpst D A (fun (u : Int32 × (Nat → Int64)) => match u with | (u0, u1) => [(k0, .inr (4, [.ref h4, .ref h0, up, .int powered, .int stepsDone])), (h0, .inr (1, [.int wayToOther, .ref h1, .ref h2, .int place, .int speed, .int way, .int topSpeed, .int gain, .int brake, .int darkSpeed, .int rideSpeed, .int kilos, .int u0, .int openContacts, .int fireFloor, .int ride, .int starts, .int distance, .int hardFalls])), (o0, .inl (aL, 1, .inr (.inl u1)))])) A)) (by decide) rfl (Nat.le_of_ble_eq_true rfl) ?_
  intro p e s m args below meth c A ls Q hQ hx hb hr hts hown hlk hnm hml htab hA hS hP hK hD hE hl
  have hown : s.vm.findClass RL = some m.cls := hown
  have hl : lv_has ls 5 [(0, .ref k0), (1, .int 0), (2, .int p1), (3, .ref o0)] := hl
  have hG := F_h_most_0_u mostKilos p1 of
  refine lv_aload_n hx hb dL_most_0 rfl (lv_at hl 3 rfl) ?_
  refine lv_iconst (v := 0) hx hb dL_most_1 (by decide) ?_
  refine lv_aload_n hx hb dL_most_2 rfl (lv_at hl 0 rfl) ?_
  refine lv_iload_n hx hb dL_most_3 rfl (lv_at hl 1 rfl) ?_
  refine lv_iload_n hx hb dL_most_4 rfl (lv_at hl 2 rfl) ?_
  refine my_ci (wr := [(o0, .inl (aL, 1, .inr (.inl of)))]) [0, 1] [2] (vx_runV (As := [.int 0, .int p1]) (rest := [.int 0, .ref o0]) ⟨hx, hb, hml, hown, hts⟩ (c_most_0 l hl9 D aI aL aZ _ k0 h4 powered stepsDone up h0 h1 h2 wayToOther place speed way topSpeed gain brake darkSpeed rideSpeed kilos mostKilos openContacts fireFloor ride starts distance hardFalls p1) (cwV 2 hts (gV w_478 w_479 w_480 w_35 w_481) rfl rfl rfl (by decide +kernel) ⟨Nat.le_of_ble_eq_true rfl, Nat.le_of_ble_eq_true rfl⟩) (prev_of hK hP hD hS hA hE [0, 1] rfl (by decide) (ci := 4) rfl 0 rfl _) rfl rfl hl.1 rfl (lv_room (Nat.le_of_ble_eq_true rfl)) dL_most_5 ⟨Nat.le_of_ble_eq_true rfl, Nat.le_of_ble_eq_true rfl⟩) hP hD hS hA rfl rfl (by decide) (by decide) (fun E ce q9 u H locs hw hEx hP hD hS hce hcv hcl => ?_) (fun r_1 u_ H locs hw_2 hP hD hS => ?_)
  · obtain ⟨hw, hu⟩ := hw
    have htab : c.exceptionTable.toList = [⟨0, 10, 13, 13⟩] := htab
    subst hu
    have hG := hG.trans (ch_1 hw)
    refine my_h1 (u := 1) hown htab (by decide) (by decide) (hts _ (mG w_105)) hE hEx hce hcv hcl ?_
    have hP : va_P D vwCl [(o0, .inl (aL, 1, .inr (.inl of))), (k0, .inr (4, [.ref h4, .ref h0, up, .int powered, .int stepsDone])), (h0, .inr (1, [.int wayToOther, .ref h1, .ref h2, .int place, .int speed, .int way, .int topSpeed, .int gain, .int brake, .int darkSpeed, .int rideSpeed, .int kilos, .int mostKilos, .int openContacts, .int fireFloor, .int ride, .int starts, .int distance, .int hardFalls]))] H := hP
    have hD : va_D A [(o0, .inl (aL, 1, .inr (.inl of))), (k0, .inr (4, [.ref h4, .ref h0, up, .int powered, .int stepsDone])), (h0, .inr (1, [.int wayToOther, .ref h1, .ref h2, .int place, .int speed, .int way, .int topSpeed, .int gain, .int brake, .int darkSpeed, .int rideSpeed, .int kilos, .int mostKilos, .int openContacts, .int fireFloor, .int ride, .int starts, .int distance, .int hardFalls]))] := hD
    refine lv_astore (lv' := [(4, .ref q9), (0, .ref k0), (1, .int 0), (2, .int p1), (3, .ref o0)]) hx hb dL_most_13 hl (by decide) rfl (fun ls hl => ?_)
    refine lv_iconst (v := 1) hx hb dL_most_15 (by decide) ?_
    have hP := hP.sub (ws' := [(k0, .inr (4, [.ref h4, .ref h0, up, .int powered, .int stepsDone])), (h0, .inr (1, [.int wayToOther, .ref h1, .ref h2, .int place, .int speed, .int way, .int topSpeed, .int gain, .int brake, .int darkSpeed, .int rideSpeed, .int kilos, .int mostKilos, .int openContacts, .int fireFloor, .int ride, .int starts, .int distance, .int hardFalls])), (o0, .inl (aL, 1, .inr (.inl of)))]) [1, 2, 0] rfl
    have hD := hD.sub (ws' := [(k0, .inr (4, [.ref h4, .ref h0, up, .int powered, .int stepsDone])), (h0, .inr (1, [.int wayToOther, .ref h1, .ref h2, .int place, .int speed, .int way, .int topSpeed, .int gain, .int brake, .int darkSpeed, .int rideSpeed, .int kilos, .int mostKilos, .int openContacts, .int fireFloor, .int ride, .int starts, .int distance, .int hardFalls])), (o0, .inl (aL, 1, .inr (.inl of)))]) [1, 2, 0] (by decide) rfl
    exact rt_i hQ hx hb hr (mostKilos, of) hG hP hD hS (Nat.le_of_ble_eq_true rfl) (Nat.le_of_ble_eq_true rfl) dL_most_16 hlk
  · skip
    have hw_2 : F_most_0 mostKilos p1 = .inr r_1 := hw_2
    have hG := hG.trans (ch_r hw_2)
    have hP : va_P D vwCl [(o0, .inl (aL, 1, .inr (.inl of))), (k0, .inr (4, [.ref h4, .ref h0, up, .int powered, .int stepsDone])), (h0, .inr (1, [.int wayToOther, .ref h1, .ref h2, .int place, .int speed, .int way, .int topSpeed, .int gain, .int brake, .int darkSpeed, .int rideSpeed, .int kilos, .int p1, .int openContacts, .int fireFloor, .int ride, .int starts, .int distance, .int hardFalls]))] H := hP
    have hD : va_D A [(o0, .inl (aL, 1, .inr (.inl of))), (k0, .inr (4, [.ref h4, .ref h0, up, .int powered, .int stepsDone])), (h0, .inr (1, [.int wayToOther, .ref h1, .ref h2, .int place, .int speed, .int way, .int topSpeed, .int gain, .int brake, .int darkSpeed, .int rideSpeed, .int kilos, .int p1, .int openContacts, .int fireFloor, .int ride, .int starts, .int distance, .int hardFalls]))] := hD
    refine lv_i2l (v := (r_1).toInt64) hx hb dL_most_8 rfl ?_
    refine va_last hx hb hK hP hD hS 0 1 rfl rfl (by unfold vp_in; decide) dL_most_9 (fun H locs hP hD hS => ?_)
    have hP : va_P D vwCl [(o0, .inl (aL, 1, .inr (.inl (vp_updL of (0 : Int32).toNatClampNeg ((r_1).toInt64))))), (k0, .inr (4, [.ref h4, .ref h0, up, .int powered, .int stepsDone])), (h0, .inr (1, [.int wayToOther, .ref h1, .ref h2, .int place, .int speed, .int way, .int topSpeed, .int gain, .int brake, .int darkSpeed, .int rideSpeed, .int kilos, .int p1, .int openContacts, .int fireFloor, .int ride, .int starts, .int distance, .int hardFalls]))] H := hP
    have hD : va_D A [(o0, .inl (aL, 1, .inr (.inl (vp_updL of (0 : Int32).toNatClampNeg ((r_1).toInt64))))), (k0, .inr (4, [.ref h4, .ref h0, up, .int powered, .int stepsDone])), (h0, .inr (1, [.int wayToOther, .ref h1, .ref h2, .int place, .int speed, .int way, .int topSpeed, .int gain, .int brake, .int darkSpeed, .int rideSpeed, .int kilos, .int p1, .int openContacts, .int fireFloor, .int ride, .int starts, .int distance, .int hardFalls]))] := hD
    refine lv_goto (tgt := 17) hx hb dL_most_10 (by decide) ?_
    refine lv_iconst (v := 0) hx hb dL_most_17 (by decide) ?_
    have hP := hP.sub (ws' := [(k0, .inr (4, [.ref h4, .ref h0, up, .int powered, .int stepsDone])), (h0, .inr (1, [.int wayToOther, .ref h1, .ref h2, .int place, .int speed, .int way, .int topSpeed, .int gain, .int brake, .int darkSpeed, .int rideSpeed, .int kilos, .int p1, .int openContacts, .int fireFloor, .int ride, .int starts, .int distance, .int hardFalls])), (o0, .inl (aL, 1, .inr (.inl (vp_updL of (0 : Int32).toNatClampNeg ((r_1).toInt64)))))]) [1, 2, 0] rfl
    have hD := hD.sub (ws' := [(k0, .inr (4, [.ref h4, .ref h0, up, .int powered, .int stepsDone])), (h0, .inr (1, [.int wayToOther, .ref h1, .ref h2, .int place, .int speed, .int way, .int topSpeed, .int gain, .int brake, .int darkSpeed, .int rideSpeed, .int kilos, .int p1, .int openContacts, .int fireFloor, .int ride, .int starts, .int distance, .int hardFalls])), (o0, .inl (aL, 1, .inr (.inl (vp_updL of (0 : Int32).toNatClampNeg ((r_1).toInt64)))))]) [1, 2, 0] (by decide) rfl
    exact rt_i hQ hx hb hr (p1, (vp_updL of (0 : Int32).toNatClampNeg ((r_1).toInt64))) hG hP hD hS (Nat.le_of_ble_eq_true rfl) (Nat.le_of_ble_eq_true rfl) dL_most_18 hlk
def F_h_most_1 (mostKilos : Int32) (p1 : Int32) (of : Nat → Int64) : Int32 × Int32 × (Nat → Int64) :=
  ch (F_most_1 mostKilos p1)
    ((1, mostKilos, of))
    ((1, mostKilos, of)) fun r_1 =>
    (0, p1, (vp_updL of (0 : Int32).toNatClampNeg ((r_1).toInt64)))
theorem F_h_most_1_u (mostKilos : Int32) (p1 : Int32) (of : Nat → Int64) : F_h_most_1 mostKilos p1 of =
  ((ch (F_most_1 mostKilos p1)
    ((1, mostKilos, of))
    ((1, mostKilos, of)) fun r_1 =>
    (0, p1, (vp_updL of (0 : Int32).toNatClampNeg ((r_1).toInt64)))) : Int32 × Int32 × (Nat → Int64)) := rfl
set_option maxHeartbeats 4000000 in
set_option maxRecDepth 100000 in
theorem c_h_most_1 (l : Launch) (hl9 : l.stackTraces = false) (D : va_G) (aI aL aZ : ClassId) (sz : Nat) (k0 : Nat) (h4 : Nat) (powered : Int32) (stepsDone : Int32) (lo : Value) (h0 : Nat) (h1 : Nat) (h2 : Nat) (wayToOther : Int32) (place : Int32) (speed : Int32) (way : Int32) (topSpeed : Int32) (gain : Int32) (brake : Int32) (darkSpeed : Int32) (rideSpeed : Int32) (kilos : Int32) (mostKilos : Int32) (openContacts : Int32) (fireFloor : Int32) (ride : Int32) (starts : Int32) (distance : Int32) (hardFalls : Int32) (p1 : Int32) (o0 : Nat) (of : Nat → Int64) : Met l yL_most (.codeWith yL_most cL_most 5 (some .int) [(0, 10, 13, 13)] :: Gw) ({ frames := 8, cells := 1, slots := 6, locals := 138 }) (va_Pc [.ref k0, .int 1, .int p1, .ref o0] (mpre D [(aI, .int), (aL, .long), (aZ, .boolean)] [(k0, .inr (4, [.ref h4, lo, .ref h0, .int powered, .int stepsDone])), (h0, .inr (1, [.int wayToOther, .ref h1, .ref h2, .int place, .int speed, .int way, .int topSpeed, .int gain, .int brake, .int darkSpeed, .int rideSpeed, .int kilos, .int mostKilos, .int openContacts, .int fireFloor, .int ride, .int starts, .int distance, .int hardFalls])), (o0, .inl (aL, 1, .inr (.inl of)))] sz)) ((fun A : Nat → Prop => va_Qi (fun (r : Int32) (u : Int32 × (Nat → Int64)) => match u with | (u0, u1) => F_h_most_1 mostKilos p1 of = (r, u0, u1)) (mpst D A (fun (u : Int32 × (Nat → Int64)) => match u with | (u0, u1) => [(k0, .inr (4, [.ref h4, lo, .ref h0, .int powered, .int stepsDone])), (h0, .inr (1, [.int wayToOther, .ref h1, .ref h2, .int place, .int speed, .int way, .int topSpeed, .int gain, .int brake, .int darkSpeed, .int rideSpeed, .int kilos, .int u0, .int openContacts, .int fireFloor, .int ride, .int starts, .int distance, .int hardFalls])), (o0, .inl (aL, 1, .inr (.inl u1)))])) A) (va_A ([(k0, .inr (4, [.ref h4, lo, .ref h0, .int powered, .int stepsDone])), (h0, .inr (1, [.int wayToOther, .ref h1, .ref h2, .int place, .int speed, .int way, .int topSpeed, .int gain, .int brake, .int darkSpeed, .int rideSpeed, .int kilos, .int mostKilos, .int openContacts, .int fireFloor, .int ride, .int starts, .int distance, .int hardFalls])), (o0, .inl (aL, 1, .inr (.inl of)))]) sz)) 1 6 (va_A ([(k0, .inr (4, [.ref h4, lo, .ref h0, .int powered, .int stepsDone])), (h0, .inr (1, [.int wayToOther, .ref h1, .ref h2, .int place, .int speed, .int way, .int topSpeed, .int gain, .int brake, .int darkSpeed, .int rideSpeed, .int kilos, .int mostKilos, .int openContacts, .int fireFloor, .int ride, .int starts, .int distance, .int hardFalls])), (o0, .inl (aL, 1, .inr (.inl of)))]) sz) := by
  refine enh (cc := cL_most) (maxL := 5) (ret := (some .int)) (Qc := (fun A : Nat → Prop => va_Qi (fun (r : Int32) (u : Int32 × (Nat → Int64)) => match u with | (u0, u1) => F_h_most_1 mostKilos p1 of = (r, u0, u1)) (mpst D A (fun (u : Int32 × (Nat → Int64)) => match u with | (u0, u1) => [(k0, .inr (4, [.ref h4, lo, .ref h0, .int powered, .int stepsDone])), (h0, .inr (1, [.int wayToOther, .ref h1, .ref h2, .int place, .int speed, .int way, .int topSpeed, .int gain, .int brake, .int darkSpeed, .int rideSpeed, .int kilos, .int u0, .int openContacts, .int fireFloor, .int ride, .int starts, .int distance, .int hardFalls])), (o0, .inl (aL, 1, .inr (.inl u1)))])) A)) (by decide) rfl (Nat.le_of_ble_eq_true rfl) ?_
  intro p e s m args below meth c A ls Q hQ hx hb hr hts hown hlk hnm hml htab hA hS hP hK hD hE hl
  have hown : s.vm.findClass RL = some m.cls := hown
  have hl : lv_has ls 5 [(0, .ref k0), (1, .int 1), (2, .int p1), (3, .ref o0)] := hl
  have hG := F_h_most_1_u mostKilos p1 of
  refine lv_aload_n hx hb dL_most_0 rfl (lv_at hl 3 rfl) ?_
  refine lv_iconst (v := 0) hx hb dL_most_1 (by decide) ?_
  refine lv_aload_n hx hb dL_most_2 rfl (lv_at hl 0 rfl) ?_
  refine lv_iload_n hx hb dL_most_3 rfl (lv_at hl 1 rfl) ?_
  refine lv_iload_n hx hb dL_most_4 rfl (lv_at hl 2 rfl) ?_
  refine my_ci (wr := [(o0, .inl (aL, 1, .inr (.inl of)))]) [0, 1] [2] (vx_runV (As := [.int 1, .int p1]) (rest := [.int 0, .ref o0]) ⟨hx, hb, hml, hown, hts⟩ (c_most_1 l hl9 D aI aL aZ _ k0 h4 powered stepsDone lo h0 h1 h2 wayToOther place speed way topSpeed gain brake darkSpeed rideSpeed kilos mostKilos openContacts fireFloor ride starts distance hardFalls p1) (cwV 2 hts (gV w_478 w_479 w_480 w_35 w_481) rfl rfl rfl (by decide +kernel) ⟨Nat.le_of_ble_eq_true rfl, Nat.le_of_ble_eq_true rfl⟩) (prev_of hK hP hD hS hA hE [0, 1] rfl (by decide) (ci := 4) rfl 0 rfl _) rfl rfl hl.1 rfl (lv_room (Nat.le_of_ble_eq_true rfl)) dL_most_5 ⟨Nat.le_of_ble_eq_true rfl, Nat.le_of_ble_eq_true rfl⟩) hP hD hS hA rfl rfl (by decide) (by decide) (fun E ce q9 u H locs hw hEx hP hD hS hce hcv hcl => ?_) (fun r_1 u_ H locs hw_2 hP hD hS => ?_)
  · obtain ⟨hw, hu⟩ := hw
    have htab : c.exceptionTable.toList = [⟨0, 10, 13, 13⟩] := htab
    subst hu
    have hG := hG.trans (ch_1 hw)
    refine my_h1 (u := 1) hown htab (by decide) (by decide) (hts _ (mG w_105)) hE hEx hce hcv hcl ?_
    have hP : va_P D vwCl [(o0, .inl (aL, 1, .inr (.inl of))), (k0, .inr (4, [.ref h4, lo, .ref h0, .int powered, .int stepsDone])), (h0, .inr (1, [.int wayToOther, .ref h1, .ref h2, .int place, .int speed, .int way, .int topSpeed, .int gain, .int brake, .int darkSpeed, .int rideSpeed, .int kilos, .int mostKilos, .int openContacts, .int fireFloor, .int ride, .int starts, .int distance, .int hardFalls]))] H := hP
    have hD : va_D A [(o0, .inl (aL, 1, .inr (.inl of))), (k0, .inr (4, [.ref h4, lo, .ref h0, .int powered, .int stepsDone])), (h0, .inr (1, [.int wayToOther, .ref h1, .ref h2, .int place, .int speed, .int way, .int topSpeed, .int gain, .int brake, .int darkSpeed, .int rideSpeed, .int kilos, .int mostKilos, .int openContacts, .int fireFloor, .int ride, .int starts, .int distance, .int hardFalls]))] := hD
    refine lv_astore (lv' := [(4, .ref q9), (0, .ref k0), (1, .int 1), (2, .int p1), (3, .ref o0)]) hx hb dL_most_13 hl (by decide) rfl (fun ls hl => ?_)
    refine lv_iconst (v := 1) hx hb dL_most_15 (by decide) ?_
    have hP := hP.sub (ws' := [(k0, .inr (4, [.ref h4, lo, .ref h0, .int powered, .int stepsDone])), (h0, .inr (1, [.int wayToOther, .ref h1, .ref h2, .int place, .int speed, .int way, .int topSpeed, .int gain, .int brake, .int darkSpeed, .int rideSpeed, .int kilos, .int mostKilos, .int openContacts, .int fireFloor, .int ride, .int starts, .int distance, .int hardFalls])), (o0, .inl (aL, 1, .inr (.inl of)))]) [1, 2, 0] rfl
    have hD := hD.sub (ws' := [(k0, .inr (4, [.ref h4, lo, .ref h0, .int powered, .int stepsDone])), (h0, .inr (1, [.int wayToOther, .ref h1, .ref h2, .int place, .int speed, .int way, .int topSpeed, .int gain, .int brake, .int darkSpeed, .int rideSpeed, .int kilos, .int mostKilos, .int openContacts, .int fireFloor, .int ride, .int starts, .int distance, .int hardFalls])), (o0, .inl (aL, 1, .inr (.inl of)))]) [1, 2, 0] (by decide) rfl
    exact rt_i hQ hx hb hr (mostKilos, of) hG hP hD hS (Nat.le_of_ble_eq_true rfl) (Nat.le_of_ble_eq_true rfl) dL_most_16 hlk
  · skip
    have hw_2 : F_most_1 mostKilos p1 = .inr r_1 := hw_2
    have hG := hG.trans (ch_r hw_2)
    have hP : va_P D vwCl [(o0, .inl (aL, 1, .inr (.inl of))), (k0, .inr (4, [.ref h4, lo, .ref h0, .int powered, .int stepsDone])), (h0, .inr (1, [.int wayToOther, .ref h1, .ref h2, .int place, .int speed, .int way, .int topSpeed, .int gain, .int brake, .int darkSpeed, .int rideSpeed, .int kilos, .int p1, .int openContacts, .int fireFloor, .int ride, .int starts, .int distance, .int hardFalls]))] H := hP
    have hD : va_D A [(o0, .inl (aL, 1, .inr (.inl of))), (k0, .inr (4, [.ref h4, lo, .ref h0, .int powered, .int stepsDone])), (h0, .inr (1, [.int wayToOther, .ref h1, .ref h2, .int place, .int speed, .int way, .int topSpeed, .int gain, .int brake, .int darkSpeed, .int rideSpeed, .int kilos, .int p1, .int openContacts, .int fireFloor, .int ride, .int starts, .int distance, .int hardFalls]))] := hD
    refine lv_i2l (v := (r_1).toInt64) hx hb dL_most_8 rfl ?_
    refine va_last hx hb hK hP hD hS 0 1 rfl rfl (by unfold vp_in; decide) dL_most_9 (fun H locs hP hD hS => ?_)
    have hP : va_P D vwCl [(o0, .inl (aL, 1, .inr (.inl (vp_updL of (0 : Int32).toNatClampNeg ((r_1).toInt64))))), (k0, .inr (4, [.ref h4, lo, .ref h0, .int powered, .int stepsDone])), (h0, .inr (1, [.int wayToOther, .ref h1, .ref h2, .int place, .int speed, .int way, .int topSpeed, .int gain, .int brake, .int darkSpeed, .int rideSpeed, .int kilos, .int p1, .int openContacts, .int fireFloor, .int ride, .int starts, .int distance, .int hardFalls]))] H := hP
    have hD : va_D A [(o0, .inl (aL, 1, .inr (.inl (vp_updL of (0 : Int32).toNatClampNeg ((r_1).toInt64))))), (k0, .inr (4, [.ref h4, lo, .ref h0, .int powered, .int stepsDone])), (h0, .inr (1, [.int wayToOther, .ref h1, .ref h2, .int place, .int speed, .int way, .int topSpeed, .int gain, .int brake, .int darkSpeed, .int rideSpeed, .int kilos, .int p1, .int openContacts, .int fireFloor, .int ride, .int starts, .int distance, .int hardFalls]))] := hD
    refine lv_goto (tgt := 17) hx hb dL_most_10 (by decide) ?_
    refine lv_iconst (v := 0) hx hb dL_most_17 (by decide) ?_
    have hP := hP.sub (ws' := [(k0, .inr (4, [.ref h4, lo, .ref h0, .int powered, .int stepsDone])), (h0, .inr (1, [.int wayToOther, .ref h1, .ref h2, .int place, .int speed, .int way, .int topSpeed, .int gain, .int brake, .int darkSpeed, .int rideSpeed, .int kilos, .int p1, .int openContacts, .int fireFloor, .int ride, .int starts, .int distance, .int hardFalls])), (o0, .inl (aL, 1, .inr (.inl (vp_updL of (0 : Int32).toNatClampNeg ((r_1).toInt64)))))]) [1, 2, 0] rfl
    have hD := hD.sub (ws' := [(k0, .inr (4, [.ref h4, lo, .ref h0, .int powered, .int stepsDone])), (h0, .inr (1, [.int wayToOther, .ref h1, .ref h2, .int place, .int speed, .int way, .int topSpeed, .int gain, .int brake, .int darkSpeed, .int rideSpeed, .int kilos, .int p1, .int openContacts, .int fireFloor, .int ride, .int starts, .int distance, .int hardFalls])), (o0, .inl (aL, 1, .inr (.inl (vp_updL of (0 : Int32).toNatClampNeg ((r_1).toInt64)))))]) [1, 2, 0] (by decide) rfl
    exact rt_i hQ hx hb hr (p1, (vp_updL of (0 : Int32).toNatClampNeg ((r_1).toInt64))) hG hP hD hS (Nat.le_of_ble_eq_true rfl) (Nat.le_of_ble_eq_true rfl) dL_most_18 hlk
def F_h_most_0n : Int32 :=
  ch F_most_0n
    (1)
    (1) fun _ =>
    1
theorem F_h_most_0n_u : F_h_most_0n =
  ((ch F_most_0n
    (1)
    (1) fun _ =>
    1) : Int32) := rfl
set_option maxHeartbeats 4000000 in
set_option maxRecDepth 100000 in
theorem c_h_most_0n (l : Launch) (hl9 : l.stackTraces = false) (D : va_G) (aI aL aZ : ClassId) (sz : Nat) (k0 : Nat) (h4 : Nat) (powered : Int32) (stepsDone : Int32) (up : Value) (p1 : Int32) (o0 : Nat) (of : Nat → Int64) : Met l yL_most (.codeWith yL_most cL_most 5 (some .int) [(0, 10, 13, 13)] :: Gw) ({ frames := 8, cells := 1, slots := 6, locals := 138 }) (va_Pc [.ref k0, .int 0, .int p1, .ref o0] (mpre D [(aI, .int), (aL, .long), (aZ, .boolean)] [(k0, .inr (4, [.ref h4, .null, up, .int powered, .int stepsDone])), (o0, .inl (aL, 1, .inr (.inl of)))] sz)) ((fun A : Nat → Prop => va_Qi (fun (r : Int32) (u : Unit) => F_h_most_0n = r) (mpst D A (fun (u : Unit) => [(k0, .inr (4, [.ref h4, .null, up, .int powered, .int stepsDone])), (o0, .inl (aL, 1, .inr (.inl of)))])) A) (va_A ([(k0, .inr (4, [.ref h4, .null, up, .int powered, .int stepsDone])), (o0, .inl (aL, 1, .inr (.inl of)))]) sz)) 1 6 (va_A ([(k0, .inr (4, [.ref h4, .null, up, .int powered, .int stepsDone])), (o0, .inl (aL, 1, .inr (.inl of)))]) sz) := by
  refine enh (cc := cL_most) (maxL := 5) (ret := (some .int)) (Qc := (fun A : Nat → Prop => va_Qi (fun (r : Int32) (u : Unit) => F_h_most_0n = r) (mpst D A (fun (u : Unit) => [(k0, .inr (4, [.ref h4, .null, up, .int powered, .int stepsDone])), (o0, .inl (aL, 1, .inr (.inl of)))])) A)) (by decide) rfl (Nat.le_of_ble_eq_true rfl) ?_
  intro p e s m args below meth c A ls Q hQ hx hb hr hts hown hlk hnm hml htab hA hS hP hK hD hE hl
  have hown : s.vm.findClass RL = some m.cls := hown
  have hl : lv_has ls 5 [(0, .ref k0), (1, .int 0), (2, .int p1), (3, .ref o0)] := hl
  have hG := F_h_most_0n_u
  refine lv_aload_n hx hb dL_most_0 rfl (lv_at hl 3 rfl) ?_
  refine lv_iconst (v := 0) hx hb dL_most_1 (by decide) ?_
  refine lv_aload_n hx hb dL_most_2 rfl (lv_at hl 0 rfl) ?_
  refine lv_iload_n hx hb dL_most_3 rfl (lv_at hl 1 rfl) ?_
  refine lv_iload_n hx hb dL_most_4 rfl (lv_at hl 2 rfl) ?_
  refine my_ci (wr := [(o0, .inl (aL, 1, .inr (.inl of)))]) [0] [1] (vx_runV (As := [.int 0, .int p1]) (rest := [.int 0, .ref o0]) ⟨hx, hb, hml, hown, hts⟩ (c_most_0n l hl9 D aI aL aZ _ k0 h4 powered stepsDone up p1) (cwV 2 hts (gV w_478 w_479 w_480 w_35 w_481) rfl rfl rfl (by decide +kernel) ⟨Nat.le_of_ble_eq_true rfl, Nat.le_of_ble_eq_true rfl⟩) (prev_of hK hP hD hS hA hE [0] rfl (by decide) (ci := 4) rfl 0 rfl _) rfl rfl hl.1 rfl (lv_room (Nat.le_of_ble_eq_true rfl)) dL_most_5 ⟨Nat.le_of_ble_eq_true rfl, Nat.le_of_ble_eq_true rfl⟩) hP hD hS hA rfl rfl (by decide) (by decide) (fun E ce q9 u H locs hw hEx hP hD hS hce hcv hcl => ?_) (fun r_1 u_ H locs hw_2 hP hD hS => ?_)
  · obtain ⟨hw, hu⟩ := hw
    have htab : c.exceptionTable.toList = [⟨0, 10, 13, 13⟩] := htab
    subst hu
    have hG := hG.trans (ch_1 hw)
    refine my_h1 (u := 1) hown htab (by decide) (by decide) (hts _ (mG w_105)) hE hEx hce hcv hcl ?_
    have hP : va_P D vwCl [(o0, .inl (aL, 1, .inr (.inl of))), (k0, .inr (4, [.ref h4, .null, up, .int powered, .int stepsDone]))] H := hP
    have hD : va_D A [(o0, .inl (aL, 1, .inr (.inl of))), (k0, .inr (4, [.ref h4, .null, up, .int powered, .int stepsDone]))] := hD
    refine lv_astore (lv' := [(4, .ref q9), (0, .ref k0), (1, .int 0), (2, .int p1), (3, .ref o0)]) hx hb dL_most_13 hl (by decide) rfl (fun ls hl => ?_)
    refine lv_iconst (v := 1) hx hb dL_most_15 (by decide) ?_
    have hP := hP.sub (ws' := [(k0, .inr (4, [.ref h4, .null, up, .int powered, .int stepsDone])), (o0, .inl (aL, 1, .inr (.inl of)))]) [1, 0] rfl
    have hD := hD.sub (ws' := [(k0, .inr (4, [.ref h4, .null, up, .int powered, .int stepsDone])), (o0, .inl (aL, 1, .inr (.inl of)))]) [1, 0] (by decide) rfl
    exact rt_i hQ hx hb hr () hG hP hD hS (Nat.le_of_ble_eq_true rfl) (Nat.le_of_ble_eq_true rfl) dL_most_16 hlk
  · skip
    exact False.elim hw_2
def F_h_most_1n : Int32 :=
  ch F_most_1n
    (1)
    (1) fun _ =>
    1
theorem F_h_most_1n_u : F_h_most_1n =
  ((ch F_most_1n
    (1)
    (1) fun _ =>
    1) : Int32) := rfl
set_option maxHeartbeats 4000000 in
set_option maxRecDepth 100000 in
theorem c_h_most_1n (l : Launch) (hl9 : l.stackTraces = false) (D : va_G) (aI aL aZ : ClassId) (sz : Nat) (k0 : Nat) (h4 : Nat) (powered : Int32) (stepsDone : Int32) (lo : Value) (p1 : Int32) (o0 : Nat) (of : Nat → Int64) : Met l yL_most (.codeWith yL_most cL_most 5 (some .int) [(0, 10, 13, 13)] :: Gw) ({ frames := 8, cells := 1, slots := 6, locals := 138 }) (va_Pc [.ref k0, .int 1, .int p1, .ref o0] (mpre D [(aI, .int), (aL, .long), (aZ, .boolean)] [(k0, .inr (4, [.ref h4, lo, .null, .int powered, .int stepsDone])), (o0, .inl (aL, 1, .inr (.inl of)))] sz)) ((fun A : Nat → Prop => va_Qi (fun (r : Int32) (u : Unit) => F_h_most_1n = r) (mpst D A (fun (u : Unit) => [(k0, .inr (4, [.ref h4, lo, .null, .int powered, .int stepsDone])), (o0, .inl (aL, 1, .inr (.inl of)))])) A) (va_A ([(k0, .inr (4, [.ref h4, lo, .null, .int powered, .int stepsDone])), (o0, .inl (aL, 1, .inr (.inl of)))]) sz)) 1 6 (va_A ([(k0, .inr (4, [.ref h4, lo, .null, .int powered, .int stepsDone])), (o0, .inl (aL, 1, .inr (.inl of)))]) sz) := by
  refine enh (cc := cL_most) (maxL := 5) (ret := (some .int)) (Qc := (fun A : Nat → Prop => va_Qi (fun (r : Int32) (u : Unit) => F_h_most_1n = r) (mpst D A (fun (u : Unit) => [(k0, .inr (4, [.ref h4, lo, .null, .int powered, .int stepsDone])), (o0, .inl (aL, 1, .inr (.inl of)))])) A)) (by decide) rfl (Nat.le_of_ble_eq_true rfl) ?_
  intro p e s m args below meth c A ls Q hQ hx hb hr hts hown hlk hnm hml htab hA hS hP hK hD hE hl
  have hown : s.vm.findClass RL = some m.cls := hown
  have hl : lv_has ls 5 [(0, .ref k0), (1, .int 1), (2, .int p1), (3, .ref o0)] := hl
  have hG := F_h_most_1n_u
  refine lv_aload_n hx hb dL_most_0 rfl (lv_at hl 3 rfl) ?_
  refine lv_iconst (v := 0) hx hb dL_most_1 (by decide) ?_
  refine lv_aload_n hx hb dL_most_2 rfl (lv_at hl 0 rfl) ?_
  refine lv_iload_n hx hb dL_most_3 rfl (lv_at hl 1 rfl) ?_
  refine lv_iload_n hx hb dL_most_4 rfl (lv_at hl 2 rfl) ?_
  refine my_ci (wr := [(o0, .inl (aL, 1, .inr (.inl of)))]) [0] [1] (vx_runV (As := [.int 1, .int p1]) (rest := [.int 0, .ref o0]) ⟨hx, hb, hml, hown, hts⟩ (c_most_1n l hl9 D aI aL aZ _ k0 h4 powered stepsDone lo p1) (cwV 2 hts (gV w_478 w_479 w_480 w_35 w_481) rfl rfl rfl (by decide +kernel) ⟨Nat.le_of_ble_eq_true rfl, Nat.le_of_ble_eq_true rfl⟩) (prev_of hK hP hD hS hA hE [0] rfl (by decide) (ci := 4) rfl 0 rfl _) rfl rfl hl.1 rfl (lv_room (Nat.le_of_ble_eq_true rfl)) dL_most_5 ⟨Nat.le_of_ble_eq_true rfl, Nat.le_of_ble_eq_true rfl⟩) hP hD hS hA rfl rfl (by decide) (by decide) (fun E ce q9 u H locs hw hEx hP hD hS hce hcv hcl => ?_) (fun r_1 u_ H locs hw_2 hP hD hS => ?_)
  · obtain ⟨hw, hu⟩ := hw
    have htab : c.exceptionTable.toList = [⟨0, 10, 13, 13⟩] := htab
    subst hu
    have hG := hG.trans (ch_1 hw)
    refine my_h1 (u := 1) hown htab (by decide) (by decide) (hts _ (mG w_105)) hE hEx hce hcv hcl ?_
    have hP : va_P D vwCl [(o0, .inl (aL, 1, .inr (.inl of))), (k0, .inr (4, [.ref h4, lo, .null, .int powered, .int stepsDone]))] H := hP
    have hD : va_D A [(o0, .inl (aL, 1, .inr (.inl of))), (k0, .inr (4, [.ref h4, lo, .null, .int powered, .int stepsDone]))] := hD
    refine lv_astore (lv' := [(4, .ref q9), (0, .ref k0), (1, .int 1), (2, .int p1), (3, .ref o0)]) hx hb dL_most_13 hl (by decide) rfl (fun ls hl => ?_)
    refine lv_iconst (v := 1) hx hb dL_most_15 (by decide) ?_
    have hP := hP.sub (ws' := [(k0, .inr (4, [.ref h4, lo, .null, .int powered, .int stepsDone])), (o0, .inl (aL, 1, .inr (.inl of)))]) [1, 0] rfl
    have hD := hD.sub (ws' := [(k0, .inr (4, [.ref h4, lo, .null, .int powered, .int stepsDone])), (o0, .inl (aL, 1, .inr (.inl of)))]) [1, 0] (by decide) rfl
    exact rt_i hQ hx hb hr () hG hP hD hS (Nat.le_of_ble_eq_true rfl) (Nat.le_of_ble_eq_true rfl) dL_most_16 hlk
  · skip
    exact False.elim hw_2
def F_h_most_x : Int32 :=
  ch F_most_x
    (1)
    (1) fun _ =>
    1
theorem F_h_most_x_u : F_h_most_x =
  ((ch F_most_x
    (1)
    (1) fun _ =>
    1) : Int32) := rfl
set_option maxHeartbeats 4000000 in
set_option maxRecDepth 100000 in
theorem c_h_most_x (l : Launch) (hl9 : l.stackTraces = false) (D : va_G) (aI aL aZ : ClassId) (sz : Nat) (k0 : Nat) (h4 : Nat) (powered : Int32) (stepsDone : Int32) (lo : Value) (up : Value) (p0 : Int32) (p1 : Int32) (o0 : Nat) (of : Nat → Int64) (h9 : ¬ p0 = 0) (h8 : ¬ p0 = 1) : Met l yL_most (.codeWith yL_most cL_most 5 (some .int) [(0, 10, 13, 13)] :: Gw) ({ frames := 8, cells := 1, slots := 6, locals := 138 }) (va_Pc [.ref k0, .int p0, .int p1, .ref o0] (mpre D [(aI, .int), (aL, .long), (aZ, .boolean)] [(k0, .inr (4, [.ref h4, lo, up, .int powered, .int stepsDone])), (o0, .inl (aL, 1, .inr (.inl of)))] sz)) ((fun A : Nat → Prop => va_Qi (fun (r : Int32) (u : Unit) => F_h_most_x = r) (mpst D A (fun (u : Unit) => [(k0, .inr (4, [.ref h4, lo, up, .int powered, .int stepsDone])), (o0, .inl (aL, 1, .inr (.inl of)))])) A) (va_A ([(k0, .inr (4, [.ref h4, lo, up, .int powered, .int stepsDone])), (o0, .inl (aL, 1, .inr (.inl of)))]) sz)) 1 6 (va_A ([(k0, .inr (4, [.ref h4, lo, up, .int powered, .int stepsDone])), (o0, .inl (aL, 1, .inr (.inl of)))]) sz) := by
  refine enh (cc := cL_most) (maxL := 5) (ret := (some .int)) (Qc := (fun A : Nat → Prop => va_Qi (fun (r : Int32) (u : Unit) => F_h_most_x = r) (mpst D A (fun (u : Unit) => [(k0, .inr (4, [.ref h4, lo, up, .int powered, .int stepsDone])), (o0, .inl (aL, 1, .inr (.inl of)))])) A)) (by decide) rfl (Nat.le_of_ble_eq_true rfl) ?_
  intro p e s m args below meth c A ls Q hQ hx hb hr hts hown hlk hnm hml htab hA hS hP hK hD hE hl
  have hown : s.vm.findClass RL = some m.cls := hown
  have hl : lv_has ls 5 [(0, .ref k0), (1, .int p0), (2, .int p1), (3, .ref o0)] := hl
  have hG := F_h_most_x_u
  refine lv_aload_n hx hb dL_most_0 rfl (lv_at hl 3 rfl) ?_
  refine lv_iconst (v := 0) hx hb dL_most_1 (by decide) ?_
  refine lv_aload_n hx hb dL_most_2 rfl (lv_at hl 0 rfl) ?_
  refine lv_iload_n hx hb dL_most_3 rfl (lv_at hl 1 rfl) ?_
  refine lv_iload_n hx hb dL_most_4 rfl (lv_at hl 2 rfl) ?_
  refine my_ci (wr := [(o0, .inl (aL, 1, .inr (.inl of)))]) [0] [1] (vx_runV (As := [.int p0, .int p1]) (rest := [.int 0, .ref o0]) ⟨hx, hb, hml, hown, hts⟩ (c_most_x l hl9 D aI aL aZ _ k0 h4 powered stepsDone lo up p0 p1 h9 h8) (cwV 2 hts (gV w_478 w_479 w_480 w_35 w_481) rfl rfl rfl (by decide +kernel) ⟨Nat.le_of_ble_eq_true rfl, Nat.le_of_ble_eq_true rfl⟩) (prev_of hK hP hD hS hA hE [0] rfl (by decide) (ci := 4) rfl 0 rfl _) rfl rfl hl.1 rfl (lv_room (Nat.le_of_ble_eq_true rfl)) dL_most_5 ⟨Nat.le_of_ble_eq_true rfl, Nat.le_of_ble_eq_true rfl⟩) hP hD hS hA rfl rfl (by decide) (by decide) (fun E ce q9 u H locs hw hEx hP hD hS hce hcv hcl => ?_) (fun r_1 u_ H locs hw_2 hP hD hS => ?_)
  · obtain ⟨hw, hu⟩ := hw
    have htab : c.exceptionTable.toList = [⟨0, 10, 13, 13⟩] := htab
    subst hu
    have hG := hG.trans (ch_1 hw)
    refine my_h1 (u := 1) hown htab (by decide) (by decide) (hts _ (mG w_105)) hE hEx hce hcv hcl ?_
    have hP : va_P D vwCl [(o0, .inl (aL, 1, .inr (.inl of))), (k0, .inr (4, [.ref h4, lo, up, .int powered, .int stepsDone]))] H := hP
    have hD : va_D A [(o0, .inl (aL, 1, .inr (.inl of))), (k0, .inr (4, [.ref h4, lo, up, .int powered, .int stepsDone]))] := hD
    refine lv_astore (lv' := [(4, .ref q9), (0, .ref k0), (1, .int p0), (2, .int p1), (3, .ref o0)]) hx hb dL_most_13 hl (by decide) rfl (fun ls hl => ?_)
    refine lv_iconst (v := 1) hx hb dL_most_15 (by decide) ?_
    have hP := hP.sub (ws' := [(k0, .inr (4, [.ref h4, lo, up, .int powered, .int stepsDone])), (o0, .inl (aL, 1, .inr (.inl of)))]) [1, 0] rfl
    have hD := hD.sub (ws' := [(k0, .inr (4, [.ref h4, lo, up, .int powered, .int stepsDone])), (o0, .inl (aL, 1, .inr (.inl of)))]) [1, 0] (by decide) rfl
    exact rt_i hQ hx hb hr () hG hP hD hS (Nat.le_of_ble_eq_true rfl) (Nat.le_of_ble_eq_true rfl) dL_most_16 hlk
  · skip
    exact False.elim hw_2
theorem dL_fire_0 : decode cL_fire 0 = .ok (.aload_n 3, 1) := by decide +kernel
theorem dL_fire_1 : decode cL_fire 1 = .ok (.iconst 0, 1) := by decide +kernel
theorem dL_fire_2 : decode cL_fire 2 = .ok (.aload_n 0, 1) := by decide +kernel
theorem dL_fire_3 : decode cL_fire 3 = .ok (.iload_n 1, 1) := by decide +kernel
theorem dL_fire_4 : decode cL_fire 4 = .ok (.iload_n 2, 1) := by decide +kernel
theorem dL_fire_5 : decode cL_fire 5 = .ok (.invokevirtual 59, 3) := by decide +kernel
theorem dL_fire_8 : decode cL_fire 8 = .ok (.i2l, 1) := by decide +kernel
theorem dL_fire_9 : decode cL_fire 9 = .ok (.lastore, 1) := by decide +kernel
theorem dL_fire_10 : decode cL_fire 10 = .ok (.goto 7, 3) := by decide +kernel
theorem dL_fire_13 : decode cL_fire 13 = .ok (.astore 4, 2) := by decide +kernel
theorem dL_fire_15 : decode cL_fire 15 = .ok (.iconst 1, 1) := by decide +kernel
theorem dL_fire_16 : decode cL_fire 16 = .ok (.ireturn, 1) := by decide +kernel
theorem dL_fire_17 : decode cL_fire 17 = .ok (.iconst 0, 1) := by decide +kernel
theorem dL_fire_18 : decode cL_fire 18 = .ok (.ireturn, 1) := by decide +kernel
def F_h_fire_0 (fireFloor : Int32) (n : Nat) (p1 : Int32) (of : Nat → Int64) : Int32 × Int32 × (Nat → Int64) :=
  ch (F_fire_0 fireFloor n p1)
    ((1, fireFloor, of))
    ((1, fireFloor, of)) fun r_1 =>
    (0, p1, (vp_updL of (0 : Int32).toNatClampNeg ((r_1).toInt64)))
theorem F_h_fire_0_u (fireFloor : Int32) (n : Nat) (p1 : Int32) (of : Nat → Int64) : F_h_fire_0 fireFloor n p1 of =
  ((ch (F_fire_0 fireFloor n p1)
    ((1, fireFloor, of))
    ((1, fireFloor, of)) fun r_1 =>
    (0, p1, (vp_updL of (0 : Int32).toNatClampNeg ((r_1).toInt64)))) : Int32 × Int32 × (Nat → Int64)) := rfl
set_option maxHeartbeats 4000000 in
set_option maxRecDepth 100000 in
theorem c_h_fire_0 (l : Launch) (hl9 : l.stackTraces = false) (D : va_G) (aI aL aZ : ClassId) (sz : Nat) (k0 : Nat) (h4 : Nat) (powered : Int32) (stepsDone : Int32) (up : Value) (h0 : Nat) (h1 : Nat) (h2 : Nat) (wayToOther : Int32) (place : Int32) (speed : Int32) (way : Int32) (topSpeed : Int32) (gain : Int32) (brake : Int32) (darkSpeed : Int32) (rideSpeed : Int32) (kilos : Int32) (mostKilos : Int32) (openContacts : Int32) (fireFloor : Int32) (ride : Int32) (starts : Int32) (distance : Int32) (hardFalls : Int32) (h5 : Nat) (gap : Int32) (n : Nat) (pf : Nat → Int32) (p1 : Int32) (o0 : Nat) (of : Nat → Int64) : Met l yL_fire (.codeWith yL_fire cL_fire 5 (some .int) [(0, 10, 13, 13)] :: Gw) ({ frames := 8, cells := 1, slots := 6, locals := 138 }) (va_Pc [.ref k0, .int 0, .int p1, .ref o0] (mpre D [(aI, .int), (aL, .long), (aZ, .boolean)] [(k0, .inr (4, [.ref h4, .ref h0, up, .int powered, .int stepsDone])), (h0, .inr (1, [.int wayToOther, .ref h1, .ref h2, .int place, .int speed, .int way, .int topSpeed, .int gain, .int brake, .int darkSpeed, .int rideSpeed, .int kilos, .int mostKilos, .int openContacts, .int fireFloor, .int ride, .int starts, .int distance, .int hardFalls])), (h4, .inr (3, [.ref h5, .int gap])), (h5, .inl (aI, n, .inl pf)), (o0, .inl (aL, 1, .inr (.inl of)))] sz)) ((fun A : Nat → Prop => va_Qi (fun (r : Int32) (u : Int32 × (Nat → Int64)) => match u with | (u0, u1) => F_h_fire_0 fireFloor n p1 of = (r, u0, u1)) (mpst D A (fun (u : Int32 × (Nat → Int64)) => match u with | (u0, u1) => [(k0, .inr (4, [.ref h4, .ref h0, up, .int powered, .int stepsDone])), (h0, .inr (1, [.int wayToOther, .ref h1, .ref h2, .int place, .int speed, .int way, .int topSpeed, .int gain, .int brake, .int darkSpeed, .int rideSpeed, .int kilos, .int mostKilos, .int openContacts, .int u0, .int ride, .int starts, .int distance, .int hardFalls])), (h4, .inr (3, [.ref h5, .int gap])), (h5, .inl (aI, n, .inl pf)), (o0, .inl (aL, 1, .inr (.inl u1)))])) A) (va_A ([(k0, .inr (4, [.ref h4, .ref h0, up, .int powered, .int stepsDone])), (h0, .inr (1, [.int wayToOther, .ref h1, .ref h2, .int place, .int speed, .int way, .int topSpeed, .int gain, .int brake, .int darkSpeed, .int rideSpeed, .int kilos, .int mostKilos, .int openContacts, .int fireFloor, .int ride, .int starts, .int distance, .int hardFalls])), (h4, .inr (3, [.ref h5, .int gap])), (h5, .inl (aI, n, .inl pf)), (o0, .inl (aL, 1, .inr (.inl of)))]) sz)) 1 6 (va_A ([(k0, .inr (4, [.ref h4, .ref h0, up, .int powered, .int stepsDone])), (h0, .inr (1, [.int wayToOther, .ref h1, .ref h2, .int place, .int speed, .int way, .int topSpeed, .int gain, .int brake, .int darkSpeed, .int rideSpeed, .int kilos, .int mostKilos, .int openContacts, .int fireFloor, .int ride, .int starts, .int distance, .int hardFalls])), (h4, .inr (3, [.ref h5, .int gap])), (h5, .inl (aI, n, .inl pf)), (o0, .inl (aL, 1, .inr (.inl of)))]) sz) := by
  refine enh (cc := cL_fire) (maxL := 5) (ret := (some .int)) (Qc := (fun A : Nat → Prop => va_Qi (fun (r : Int32) (u : Int32 × (Nat → Int64)) => match u with | (u0, u1) => F_h_fire_0 fireFloor n p1 of = (r, u0, u1)) (mpst D A (fun (u : Int32 × (Nat → Int64)) => match u with | (u0, u1) => [(k0, .inr (4, [.ref h4, .ref h0, up, .int powered, .int stepsDone])), (h0, .inr (1, [.int wayToOther, .ref h1, .ref h2, .int place, .int speed, .int way, .int topSpeed, .int gain, .int brake, .int darkSpeed, .int rideSpeed, .int kilos, .int mostKilos, .int openContacts, .int u0, .int ride, .int starts, .int distance, .int hardFalls])), (h4, .inr (3, [.ref h5, .int gap])), (h5, .inl (aI, n, .inl pf)), (o0, .inl (aL, 1, .inr (.inl u1)))])) A)) (by decide) rfl (Nat.le_of_ble_eq_true rfl) ?_
  intro p e s m args below meth c A ls Q hQ hx hb hr hts hown hlk hnm hml htab hA hS hP hK hD hE hl
  have hown : s.vm.findClass RL = some m.cls := hown
  have hl : lv_has ls 5 [(0, .ref k0), (1, .int 0), (2, .int p1), (3, .ref o0)] := hl
  have hG := F_h_fire_0_u fireFloor n p1 of
  refine lv_aload_n hx hb dL_fire_0 rfl (lv_at hl 3 rfl) ?_
  refine lv_iconst (v := 0) hx hb dL_fire_1 (by decide) ?_
  refine lv_aload_n hx hb dL_fire_2 rfl (lv_at hl 0 rfl) ?_
  refine lv_iload_n hx hb dL_fire_3 rfl (lv_at hl 1 rfl) ?_
  refine lv_iload_n hx hb dL_fire_4 rfl (lv_at hl 2 rfl) ?_
  refine my_ci (wr := [(o0, .inl (aL, 1, .inr (.inl of)))]) [0, 1, 2, 3] [4] (vx_runV (As := [.int 0, .int p1]) (rest := [.int 0, .ref o0]) ⟨hx, hb, hml, hown, hts⟩ (c_fire_0 l hl9 D aI aL aZ _ k0 h4 powered stepsDone up h0 h1 h2 wayToOther place speed way topSpeed gain brake darkSpeed rideSpeed kilos mostKilos openContacts fireFloor ride starts distance hardFalls h5 gap n pf p1) (cwV 2 hts (gV w_485 w_486 w_487 w_35 w_488) rfl rfl rfl (by decide +kernel) ⟨Nat.le_of_ble_eq_true rfl, Nat.le_of_ble_eq_true rfl⟩) (prev_of hK hP hD hS hA hE [0, 1, 2, 3] rfl (by decide) (ci := 4) rfl 0 rfl _) rfl rfl hl.1 rfl (lv_room (Nat.le_of_ble_eq_true rfl)) dL_fire_5 ⟨Nat.le_of_ble_eq_true rfl, Nat.le_of_ble_eq_true rfl⟩) hP hD hS hA rfl rfl (by decide) (by decide) (fun E ce q9 u H locs hw hEx hP hD hS hce hcv hcl => ?_) (fun r_1 u_ H locs hw_2 hP hD hS => ?_)
  · obtain ⟨hw, hu⟩ := hw
    have htab : c.exceptionTable.toList = [⟨0, 10, 13, 13⟩] := htab
    subst hu
    have hG := hG.trans (ch_1 hw)
    refine my_h1 (u := 1) hown htab (by decide) (by decide) (hts _ (mG w_105)) hE hEx hce hcv hcl ?_
    have hP : va_P D vwCl [(o0, .inl (aL, 1, .inr (.inl of))), (k0, .inr (4, [.ref h4, .ref h0, up, .int powered, .int stepsDone])), (h0, .inr (1, [.int wayToOther, .ref h1, .ref h2, .int place, .int speed, .int way, .int topSpeed, .int gain, .int brake, .int darkSpeed, .int rideSpeed, .int kilos, .int mostKilos, .int openContacts, .int fireFloor, .int ride, .int starts, .int distance, .int hardFalls])), (h4, .inr (3, [.ref h5, .int gap])), (h5, .inl (aI, n, .inl pf))] H := hP
    have hD : va_D A [(o0, .inl (aL, 1, .inr (.inl of))), (k0, .inr (4, [.ref h4, .ref h0, up, .int powered, .int stepsDone])), (h0, .inr (1, [.int wayToOther, .ref h1, .ref h2, .int place, .int speed, .int way, .int topSpeed, .int gain, .int brake, .int darkSpeed, .int rideSpeed, .int kilos, .int mostKilos, .int openContacts, .int fireFloor, .int ride, .int starts, .int distance, .int hardFalls])), (h4, .inr (3, [.ref h5, .int gap])), (h5, .inl (aI, n, .inl pf))] := hD
    refine lv_astore (lv' := [(4, .ref q9), (0, .ref k0), (1, .int 0), (2, .int p1), (3, .ref o0)]) hx hb dL_fire_13 hl (by decide) rfl (fun ls hl => ?_)
    refine lv_iconst (v := 1) hx hb dL_fire_15 (by decide) ?_
    have hP := hP.sub (ws' := [(k0, .inr (4, [.ref h4, .ref h0, up, .int powered, .int stepsDone])), (h0, .inr (1, [.int wayToOther, .ref h1, .ref h2, .int place, .int speed, .int way, .int topSpeed, .int gain, .int brake, .int darkSpeed, .int rideSpeed, .int kilos, .int mostKilos, .int openContacts, .int fireFloor, .int ride, .int starts, .int distance, .int hardFalls])), (h4, .inr (3, [.ref h5, .int gap])), (h5, .inl (aI, n, .inl pf)), (o0, .inl (aL, 1, .inr (.inl of)))]) [1, 2, 3, 4, 0] rfl
    have hD := hD.sub (ws' := [(k0, .inr (4, [.ref h4, .ref h0, up, .int powered, .int stepsDone])), (h0, .inr (1, [.int wayToOther, .ref h1, .ref h2, .int place, .int speed, .int way, .int topSpeed, .int gain, .int brake, .int darkSpeed, .int rideSpeed, .int kilos, .int mostKilos, .int openContacts, .int fireFloor, .int ride, .int starts, .int distance, .int hardFalls])), (h4, .inr (3, [.ref h5, .int gap])), (h5, .inl (aI, n, .inl pf)), (o0, .inl (aL, 1, .inr (.inl of)))]) [1, 2, 3, 4, 0] (by decide) rfl
    exact rt_i hQ hx hb hr (fireFloor, of) hG hP hD hS (Nat.le_of_ble_eq_true rfl) (Nat.le_of_ble_eq_true rfl) dL_fire_16 hlk
  · skip
    have hw_2 : F_fire_0 fireFloor n p1 = .inr r_1 := hw_2
    have hG := hG.trans (ch_r hw_2)
    have hP : va_P D vwCl [(o0, .inl (aL, 1, .inr (.inl of))), (k0, .inr (4, [.ref h4, .ref h0, up, .int powered, .int stepsDone])), (h0, .inr (1, [.int wayToOther, .ref h1, .ref h2, .int place, .int speed, .int way, .int topSpeed, .int gain, .int brake, .int darkSpeed, .int rideSpeed, .int kilos, .int mostKilos, .int openContacts, .int p1, .int ride, .int starts, .int distance, .int hardFalls])), (h4, .inr (3, [.ref h5, .int gap])), (h5, .inl (aI, n, .inl pf))] H := hP
    have hD : va_D A [(o0, .inl (aL, 1, .inr (.inl of))), (k0, .inr (4, [.ref h4, .ref h0, up, .int powered, .int stepsDone])), (h0, .inr (1, [.int wayToOther, .ref h1, .ref h2, .int place, .int speed, .int way, .int topSpeed, .int gain, .int brake, .int darkSpeed, .int rideSpeed, .int kilos, .int mostKilos, .int openContacts, .int p1, .int ride, .int starts, .int distance, .int hardFalls])), (h4, .inr (3, [.ref h5, .int gap])), (h5, .inl (aI, n, .inl pf))] := hD
    refine lv_i2l (v := (r_1).toInt64) hx hb dL_fire_8 rfl ?_
    refine va_last hx hb hK hP hD hS 0 1 rfl rfl (by unfold vp_in; decide) dL_fire_9 (fun H locs hP hD hS => ?_)
    have hP : va_P D vwCl [(o0, .inl (aL, 1, .inr (.inl (vp_updL of (0 : Int32).toNatClampNeg ((r_1).toInt64))))), (k0, .inr (4, [.ref h4, .ref h0, up, .int powered, .int stepsDone])), (h0, .inr (1, [.int wayToOther, .ref h1, .ref h2, .int place, .int speed, .int way, .int topSpeed, .int gain, .int brake, .int darkSpeed, .int rideSpeed, .int kilos, .int mostKilos, .int openContacts, .int p1, .int ride, .int starts, .int distance, .int hardFalls])), (h4, .inr (3, [.ref h5, .int gap])), (h5, .inl (aI, n, .inl pf))] H := hP
    have hD : va_D A [(o0, .inl (aL, 1, .inr (.inl (vp_updL of (0 : Int32).toNatClampNeg ((r_1).toInt64))))), (k0, .inr (4, [.ref h4, .ref h0, up, .int powered, .int stepsDone])), (h0, .inr (1, [.int wayToOther, .ref h1, .ref h2, .int place, .int speed, .int way, .int topSpeed, .int gain, .int brake, .int darkSpeed, .int rideSpeed, .int kilos, .int mostKilos, .int openContacts, .int p1, .int ride, .int starts, .int distance, .int hardFalls])), (h4, .inr (3, [.ref h5, .int gap])), (h5, .inl (aI, n, .inl pf))] := hD
    refine lv_goto (tgt := 17) hx hb dL_fire_10 (by decide) ?_
    refine lv_iconst (v := 0) hx hb dL_fire_17 (by decide) ?_
    have hP := hP.sub (ws' := [(k0, .inr (4, [.ref h4, .ref h0, up, .int powered, .int stepsDone])), (h0, .inr (1, [.int wayToOther, .ref h1, .ref h2, .int place, .int speed, .int way, .int topSpeed, .int gain, .int brake, .int darkSpeed, .int rideSpeed, .int kilos, .int mostKilos, .int openContacts, .int p1, .int ride, .int starts, .int distance, .int hardFalls])), (h4, .inr (3, [.ref h5, .int gap])), (h5, .inl (aI, n, .inl pf)), (o0, .inl (aL, 1, .inr (.inl (vp_updL of (0 : Int32).toNatClampNeg ((r_1).toInt64)))))]) [1, 2, 3, 4, 0] rfl
    have hD := hD.sub (ws' := [(k0, .inr (4, [.ref h4, .ref h0, up, .int powered, .int stepsDone])), (h0, .inr (1, [.int wayToOther, .ref h1, .ref h2, .int place, .int speed, .int way, .int topSpeed, .int gain, .int brake, .int darkSpeed, .int rideSpeed, .int kilos, .int mostKilos, .int openContacts, .int p1, .int ride, .int starts, .int distance, .int hardFalls])), (h4, .inr (3, [.ref h5, .int gap])), (h5, .inl (aI, n, .inl pf)), (o0, .inl (aL, 1, .inr (.inl (vp_updL of (0 : Int32).toNatClampNeg ((r_1).toInt64)))))]) [1, 2, 3, 4, 0] (by decide) rfl
    exact rt_i hQ hx hb hr (p1, (vp_updL of (0 : Int32).toNatClampNeg ((r_1).toInt64))) hG hP hD hS (Nat.le_of_ble_eq_true rfl) (Nat.le_of_ble_eq_true rfl) dL_fire_18 hlk
def F_h_fire_1 (fireFloor : Int32) (n : Nat) (p1 : Int32) (of : Nat → Int64) : Int32 × Int32 × (Nat → Int64) :=
  ch (F_fire_1 fireFloor n p1)
    ((1, fireFloor, of))
    ((1, fireFloor, of)) fun r_1 =>
    (0, p1, (vp_updL of (0 : Int32).toNatClampNeg ((r_1).toInt64)))
theorem F_h_fire_1_u (fireFloor : Int32) (n : Nat) (p1 : Int32) (of : Nat → Int64) : F_h_fire_1 fireFloor n p1 of =
  ((ch (F_fire_1 fireFloor n p1)
    ((1, fireFloor, of))
    ((1, fireFloor, of)) fun r_1 =>
    (0, p1, (vp_updL of (0 : Int32).toNatClampNeg ((r_1).toInt64)))) : Int32 × Int32 × (Nat → Int64)) := rfl
set_option maxHeartbeats 4000000 in
set_option maxRecDepth 100000 in
theorem c_h_fire_1 (l : Launch) (hl9 : l.stackTraces = false) (D : va_G) (aI aL aZ : ClassId) (sz : Nat) (k0 : Nat) (h4 : Nat) (powered : Int32) (stepsDone : Int32) (lo : Value) (h0 : Nat) (h1 : Nat) (h2 : Nat) (wayToOther : Int32) (place : Int32) (speed : Int32) (way : Int32) (topSpeed : Int32) (gain : Int32) (brake : Int32) (darkSpeed : Int32) (rideSpeed : Int32) (kilos : Int32) (mostKilos : Int32) (openContacts : Int32) (fireFloor : Int32) (ride : Int32) (starts : Int32) (distance : Int32) (hardFalls : Int32) (h5 : Nat) (gap : Int32) (n : Nat) (pf : Nat → Int32) (p1 : Int32) (o0 : Nat) (of : Nat → Int64) : Met l yL_fire (.codeWith yL_fire cL_fire 5 (some .int) [(0, 10, 13, 13)] :: Gw) ({ frames := 8, cells := 1, slots := 6, locals := 138 }) (va_Pc [.ref k0, .int 1, .int p1, .ref o0] (mpre D [(aI, .int), (aL, .long), (aZ, .boolean)] [(k0, .inr (4, [.ref h4, lo, .ref h0, .int powered, .int stepsDone])), (h0, .inr (1, [.int wayToOther, .ref h1, .ref h2, .int place, .int speed, .int way, .int topSpeed, .int gain, .int brake, .int darkSpeed, .int rideSpeed, .int kilos, .int mostKilos, .int openContacts, .int fireFloor, .int ride, .int starts, .int distance, .int hardFalls])), (h4, .inr (3, [.ref h5, .int gap])), (h5, .inl (aI, n, .inl pf)), (o0, .inl (aL, 1, .inr (.inl of)))] sz)) ((fun A : Nat → Prop => va_Qi (fun (r : Int32) (u : Int32 × (Nat → Int64)) => match u with | (u0, u1) => F_h_fire_1 fireFloor n p1 of = (r, u0, u1)) (mpst D A (fun (u : Int32 × (Nat → Int64)) => match u with | (u0, u1) => [(k0, .inr (4, [.ref h4, lo, .ref h0, .int powered, .int stepsDone])), (h0, .inr (1, [.int wayToOther, .ref h1, .ref h2, .int place, .int speed, .int way, .int topSpeed, .int gain, .int brake, .int darkSpeed, .int rideSpeed, .int kilos, .int mostKilos, .int openContacts, .int u0, .int ride, .int starts, .int distance, .int hardFalls])), (h4, .inr (3, [.ref h5, .int gap])), (h5, .inl (aI, n, .inl pf)), (o0, .inl (aL, 1, .inr (.inl u1)))])) A) (va_A ([(k0, .inr (4, [.ref h4, lo, .ref h0, .int powered, .int stepsDone])), (h0, .inr (1, [.int wayToOther, .ref h1, .ref h2, .int place, .int speed, .int way, .int topSpeed, .int gain, .int brake, .int darkSpeed, .int rideSpeed, .int kilos, .int mostKilos, .int openContacts, .int fireFloor, .int ride, .int starts, .int distance, .int hardFalls])), (h4, .inr (3, [.ref h5, .int gap])), (h5, .inl (aI, n, .inl pf)), (o0, .inl (aL, 1, .inr (.inl of)))]) sz)) 1 6 (va_A ([(k0, .inr (4, [.ref h4, lo, .ref h0, .int powered, .int stepsDone])), (h0, .inr (1, [.int wayToOther, .ref h1, .ref h2, .int place, .int speed, .int way, .int topSpeed, .int gain, .int brake, .int darkSpeed, .int rideSpeed, .int kilos, .int mostKilos, .int openContacts, .int fireFloor, .int ride, .int starts, .int distance, .int hardFalls])), (h4, .inr (3, [.ref h5, .int gap])), (h5, .inl (aI, n, .inl pf)), (o0, .inl (aL, 1, .inr (.inl of)))]) sz) := by
  refine enh (cc := cL_fire) (maxL := 5) (ret := (some .int)) (Qc := (fun A : Nat → Prop => va_Qi (fun (r : Int32) (u : Int32 × (Nat → Int64)) => match u with | (u0, u1) => F_h_fire_1 fireFloor n p1 of = (r, u0, u1)) (mpst D A (fun (u : Int32 × (Nat → Int64)) => match u with | (u0, u1) => [(k0, .inr (4, [.ref h4, lo, .ref h0, .int powered, .int stepsDone])), (h0, .inr (1, [.int wayToOther, .ref h1, .ref h2, .int place, .int speed, .int way, .int topSpeed, .int gain, .int brake, .int darkSpeed, .int rideSpeed, .int kilos, .int mostKilos, .int openContacts, .int u0, .int ride, .int starts, .int distance, .int hardFalls])), (h4, .inr (3, [.ref h5, .int gap])), (h5, .inl (aI, n, .inl pf)), (o0, .inl (aL, 1, .inr (.inl u1)))])) A)) (by decide) rfl (Nat.le_of_ble_eq_true rfl) ?_
  intro p e s m args below meth c A ls Q hQ hx hb hr hts hown hlk hnm hml htab hA hS hP hK hD hE hl
  have hown : s.vm.findClass RL = some m.cls := hown
  have hl : lv_has ls 5 [(0, .ref k0), (1, .int 1), (2, .int p1), (3, .ref o0)] := hl
  have hG := F_h_fire_1_u fireFloor n p1 of
  refine lv_aload_n hx hb dL_fire_0 rfl (lv_at hl 3 rfl) ?_
  refine lv_iconst (v := 0) hx hb dL_fire_1 (by decide) ?_
  refine lv_aload_n hx hb dL_fire_2 rfl (lv_at hl 0 rfl) ?_
  refine lv_iload_n hx hb dL_fire_3 rfl (lv_at hl 1 rfl) ?_
  refine lv_iload_n hx hb dL_fire_4 rfl (lv_at hl 2 rfl) ?_
  refine my_ci (wr := [(o0, .inl (aL, 1, .inr (.inl of)))]) [0, 1, 2, 3] [4] (vx_runV (As := [.int 1, .int p1]) (rest := [.int 0, .ref o0]) ⟨hx, hb, hml, hown, hts⟩ (c_fire_1 l hl9 D aI aL aZ _ k0 h4 powered stepsDone lo h0 h1 h2 wayToOther place speed way topSpeed gain brake darkSpeed rideSpeed kilos mostKilos openContacts fireFloor ride starts distance hardFalls h5 gap n pf p1) (cwV 2 hts (gV w_485 w_486 w_487 w_35 w_488) rfl rfl rfl (by decide +kernel) ⟨Nat.le_of_ble_eq_true rfl, Nat.le_of_ble_eq_true rfl⟩) (prev_of hK hP hD hS hA hE [0, 1, 2, 3] rfl (by decide) (ci := 4) rfl 0 rfl _) rfl rfl hl.1 rfl (lv_room (Nat.le_of_ble_eq_true rfl)) dL_fire_5 ⟨Nat.le_of_ble_eq_true rfl, Nat.le_of_ble_eq_true rfl⟩) hP hD hS hA rfl rfl (by decide) (by decide) (fun E ce q9 u H locs hw hEx hP hD hS hce hcv hcl => ?_) (fun r_1 u_ H locs hw_2 hP hD hS => ?_)
  · obtain ⟨hw, hu⟩ := hw
    have htab : c.exceptionTable.toList = [⟨0, 10, 13, 13⟩] := htab
    subst hu
    have hG := hG.trans (ch_1 hw)
    refine my_h1 (u := 1) hown htab (by decide) (by decide) (hts _ (mG w_105)) hE hEx hce hcv hcl ?_
    have hP : va_P D vwCl [(o0, .inl (aL, 1, .inr (.inl of))), (k0, .inr (4, [.ref h4, lo, .ref h0, .int powered, .int stepsDone])), (h0, .inr (1, [.int wayToOther, .ref h1, .ref h2, .int place, .int speed, .int way, .int topSpeed, .int gain, .int brake, .int darkSpeed, .int rideSpeed, .int kilos, .int mostKilos, .int openContacts, .int fireFloor, .int ride, .int starts, .int distance, .int hardFalls])), (h4, .inr (3, [.ref h5, .int gap])), (h5, .inl (aI, n, .inl pf))] H := hP
    have hD : va_D A [(o0, .inl (aL, 1, .inr (.inl of))), (k0, .inr (4, [.ref h4, lo, .ref h0, .int powered, .int stepsDone])), (h0, .inr (1, [.int wayToOther, .ref h1, .ref h2, .int place, .int speed, .int way, .int topSpeed, .int gain, .int brake, .int darkSpeed, .int rideSpeed, .int kilos, .int mostKilos, .int openContacts, .int fireFloor, .int ride, .int starts, .int distance, .int hardFalls])), (h4, .inr (3, [.ref h5, .int gap])), (h5, .inl (aI, n, .inl pf))] := hD
    refine lv_astore (lv' := [(4, .ref q9), (0, .ref k0), (1, .int 1), (2, .int p1), (3, .ref o0)]) hx hb dL_fire_13 hl (by decide) rfl (fun ls hl => ?_)
    refine lv_iconst (v := 1) hx hb dL_fire_15 (by decide) ?_
    have hP := hP.sub (ws' := [(k0, .inr (4, [.ref h4, lo, .ref h0, .int powered, .int stepsDone])), (h0, .inr (1, [.int wayToOther, .ref h1, .ref h2, .int place, .int speed, .int way, .int topSpeed, .int gain, .int brake, .int darkSpeed, .int rideSpeed, .int kilos, .int mostKilos, .int openContacts, .int fireFloor, .int ride, .int starts, .int distance, .int hardFalls])), (h4, .inr (3, [.ref h5, .int gap])), (h5, .inl (aI, n, .inl pf)), (o0, .inl (aL, 1, .inr (.inl of)))]) [1, 2, 3, 4, 0] rfl
    have hD := hD.sub (ws' := [(k0, .inr (4, [.ref h4, lo, .ref h0, .int powered, .int stepsDone])), (h0, .inr (1, [.int wayToOther, .ref h1, .ref h2, .int place, .int speed, .int way, .int topSpeed, .int gain, .int brake, .int darkSpeed, .int rideSpeed, .int kilos, .int mostKilos, .int openContacts, .int fireFloor, .int ride, .int starts, .int distance, .int hardFalls])), (h4, .inr (3, [.ref h5, .int gap])), (h5, .inl (aI, n, .inl pf)), (o0, .inl (aL, 1, .inr (.inl of)))]) [1, 2, 3, 4, 0] (by decide) rfl
    exact rt_i hQ hx hb hr (fireFloor, of) hG hP hD hS (Nat.le_of_ble_eq_true rfl) (Nat.le_of_ble_eq_true rfl) dL_fire_16 hlk
  · skip
    have hw_2 : F_fire_1 fireFloor n p1 = .inr r_1 := hw_2
    have hG := hG.trans (ch_r hw_2)
    have hP : va_P D vwCl [(o0, .inl (aL, 1, .inr (.inl of))), (k0, .inr (4, [.ref h4, lo, .ref h0, .int powered, .int stepsDone])), (h0, .inr (1, [.int wayToOther, .ref h1, .ref h2, .int place, .int speed, .int way, .int topSpeed, .int gain, .int brake, .int darkSpeed, .int rideSpeed, .int kilos, .int mostKilos, .int openContacts, .int p1, .int ride, .int starts, .int distance, .int hardFalls])), (h4, .inr (3, [.ref h5, .int gap])), (h5, .inl (aI, n, .inl pf))] H := hP
    have hD : va_D A [(o0, .inl (aL, 1, .inr (.inl of))), (k0, .inr (4, [.ref h4, lo, .ref h0, .int powered, .int stepsDone])), (h0, .inr (1, [.int wayToOther, .ref h1, .ref h2, .int place, .int speed, .int way, .int topSpeed, .int gain, .int brake, .int darkSpeed, .int rideSpeed, .int kilos, .int mostKilos, .int openContacts, .int p1, .int ride, .int starts, .int distance, .int hardFalls])), (h4, .inr (3, [.ref h5, .int gap])), (h5, .inl (aI, n, .inl pf))] := hD
    refine lv_i2l (v := (r_1).toInt64) hx hb dL_fire_8 rfl ?_
    refine va_last hx hb hK hP hD hS 0 1 rfl rfl (by unfold vp_in; decide) dL_fire_9 (fun H locs hP hD hS => ?_)
    have hP : va_P D vwCl [(o0, .inl (aL, 1, .inr (.inl (vp_updL of (0 : Int32).toNatClampNeg ((r_1).toInt64))))), (k0, .inr (4, [.ref h4, lo, .ref h0, .int powered, .int stepsDone])), (h0, .inr (1, [.int wayToOther, .ref h1, .ref h2, .int place, .int speed, .int way, .int topSpeed, .int gain, .int brake, .int darkSpeed, .int rideSpeed, .int kilos, .int mostKilos, .int openContacts, .int p1, .int ride, .int starts, .int distance, .int hardFalls])), (h4, .inr (3, [.ref h5, .int gap])), (h5, .inl (aI, n, .inl pf))] H := hP
    have hD : va_D A [(o0, .inl (aL, 1, .inr (.inl (vp_updL of (0 : Int32).toNatClampNeg ((r_1).toInt64))))), (k0, .inr (4, [.ref h4, lo, .ref h0, .int powered, .int stepsDone])), (h0, .inr (1, [.int wayToOther, .ref h1, .ref h2, .int place, .int speed, .int way, .int topSpeed, .int gain, .int brake, .int darkSpeed, .int rideSpeed, .int kilos, .int mostKilos, .int openContacts, .int p1, .int ride, .int starts, .int distance, .int hardFalls])), (h4, .inr (3, [.ref h5, .int gap])), (h5, .inl (aI, n, .inl pf))] := hD
    refine lv_goto (tgt := 17) hx hb dL_fire_10 (by decide) ?_
    refine lv_iconst (v := 0) hx hb dL_fire_17 (by decide) ?_
    have hP := hP.sub (ws' := [(k0, .inr (4, [.ref h4, lo, .ref h0, .int powered, .int stepsDone])), (h0, .inr (1, [.int wayToOther, .ref h1, .ref h2, .int place, .int speed, .int way, .int topSpeed, .int gain, .int brake, .int darkSpeed, .int rideSpeed, .int kilos, .int mostKilos, .int openContacts, .int p1, .int ride, .int starts, .int distance, .int hardFalls])), (h4, .inr (3, [.ref h5, .int gap])), (h5, .inl (aI, n, .inl pf)), (o0, .inl (aL, 1, .inr (.inl (vp_updL of (0 : Int32).toNatClampNeg ((r_1).toInt64)))))]) [1, 2, 3, 4, 0] rfl
    have hD := hD.sub (ws' := [(k0, .inr (4, [.ref h4, lo, .ref h0, .int powered, .int stepsDone])), (h0, .inr (1, [.int wayToOther, .ref h1, .ref h2, .int place, .int speed, .int way, .int topSpeed, .int gain, .int brake, .int darkSpeed, .int rideSpeed, .int kilos, .int mostKilos, .int openContacts, .int p1, .int ride, .int starts, .int distance, .int hardFalls])), (h4, .inr (3, [.ref h5, .int gap])), (h5, .inl (aI, n, .inl pf)), (o0, .inl (aL, 1, .inr (.inl (vp_updL of (0 : Int32).toNatClampNeg ((r_1).toInt64)))))]) [1, 2, 3, 4, 0] (by decide) rfl
    exact rt_i hQ hx hb hr (p1, (vp_updL of (0 : Int32).toNatClampNeg ((r_1).toInt64))) hG hP hD hS (Nat.le_of_ble_eq_true rfl) (Nat.le_of_ble_eq_true rfl) dL_fire_18 hlk
def F_h_fire_0n : Int32 :=
  ch F_fire_0n
    (1)
    (1) fun _ =>
    1
theorem F_h_fire_0n_u : F_h_fire_0n =
  ((ch F_fire_0n
    (1)
    (1) fun _ =>
    1) : Int32) := rfl
set_option maxHeartbeats 4000000 in
set_option maxRecDepth 100000 in
theorem c_h_fire_0n (l : Launch) (hl9 : l.stackTraces = false) (D : va_G) (aI aL aZ : ClassId) (sz : Nat) (k0 : Nat) (h4 : Nat) (powered : Int32) (stepsDone : Int32) (up : Value) (p1 : Int32) (o0 : Nat) (of : Nat → Int64) : Met l yL_fire (.codeWith yL_fire cL_fire 5 (some .int) [(0, 10, 13, 13)] :: Gw) ({ frames := 8, cells := 1, slots := 6, locals := 138 }) (va_Pc [.ref k0, .int 0, .int p1, .ref o0] (mpre D [(aI, .int), (aL, .long), (aZ, .boolean)] [(k0, .inr (4, [.ref h4, .null, up, .int powered, .int stepsDone])), (o0, .inl (aL, 1, .inr (.inl of)))] sz)) ((fun A : Nat → Prop => va_Qi (fun (r : Int32) (u : Unit) => F_h_fire_0n = r) (mpst D A (fun (u : Unit) => [(k0, .inr (4, [.ref h4, .null, up, .int powered, .int stepsDone])), (o0, .inl (aL, 1, .inr (.inl of)))])) A) (va_A ([(k0, .inr (4, [.ref h4, .null, up, .int powered, .int stepsDone])), (o0, .inl (aL, 1, .inr (.inl of)))]) sz)) 1 6 (va_A ([(k0, .inr (4, [.ref h4, .null, up, .int powered, .int stepsDone])), (o0, .inl (aL, 1, .inr (.inl of)))]) sz) := by
  refine enh (cc := cL_fire) (maxL := 5) (ret := (some .int)) (Qc := (fun A : Nat → Prop => va_Qi (fun (r : Int32) (u : Unit) => F_h_fire_0n = r) (mpst D A (fun (u : Unit) => [(k0, .inr (4, [.ref h4, .null, up, .int powered, .int stepsDone])), (o0, .inl (aL, 1, .inr (.inl of)))])) A)) (by decide) rfl (Nat.le_of_ble_eq_true rfl) ?_
  intro p e s m args below meth c A ls Q hQ hx hb hr hts hown hlk hnm hml htab hA hS hP hK hD hE hl
  have hown : s.vm.findClass RL = some m.cls := hown
  have hl : lv_has ls 5 [(0, .ref k0), (1, .int 0), (2, .int p1), (3, .ref o0)] := hl
  have hG := F_h_fire_0n_u
  refine lv_aload_n hx hb dL_fire_0 rfl (lv_at hl 3 rfl) ?_
  refine lv_iconst (v := 0) hx hb dL_fire_1 (by decide) ?_
  refine lv_aload_n hx hb dL_fire_2 rfl (lv_at hl 0 rfl) ?_
  refine lv_iload_n hx hb dL_fire_3 rfl (lv_at hl 1 rfl) ?_
  refine lv_iload_n hx hb dL_fire_4 rfl (lv_at hl 2 rfl) ?_
  refine my_ci (wr := [(o0, .inl (aL, 1, .inr (.inl of)))]) [0] [1] (vx_runV (As := [.int 0, .int p1]) (rest := [.int 0, .ref o0]) ⟨hx, hb, hml, hown, hts⟩ (c_fire_0n l hl9 D aI aL aZ _ k0 h4 powered stepsDone up p1) (cwV 2 hts (gV w_485 w_486 w_487 w_35 w_488) rfl rfl rfl (by decide +kernel) ⟨Nat.le_of_ble_eq_true rfl, Nat.le_of_ble_eq_true rfl⟩) (prev_of hK hP hD hS hA hE [0] rfl (by decide) (ci := 4) rfl 0 rfl _) rfl rfl hl.1 rfl (lv_room (Nat.le_of_ble_eq_true rfl)) dL_fire_5 ⟨Nat.le_of_ble_eq_true rfl, Nat.le_of_ble_eq_true rfl⟩) hP hD hS hA rfl rfl (by decide) (by decide) (fun E ce q9 u H locs hw hEx hP hD hS hce hcv hcl => ?_) (fun r_1 u_ H locs hw_2 hP hD hS => ?_)
  · obtain ⟨hw, hu⟩ := hw
    have htab : c.exceptionTable.toList = [⟨0, 10, 13, 13⟩] := htab
    subst hu
    have hG := hG.trans (ch_1 hw)
    refine my_h1 (u := 1) hown htab (by decide) (by decide) (hts _ (mG w_105)) hE hEx hce hcv hcl ?_
    have hP : va_P D vwCl [(o0, .inl (aL, 1, .inr (.inl of))), (k0, .inr (4, [.ref h4, .null, up, .int powered, .int stepsDone]))] H := hP
    have hD : va_D A [(o0, .inl (aL, 1, .inr (.inl of))), (k0, .inr (4, [.ref h4, .null, up, .int powered, .int stepsDone]))] := hD
    refine lv_astore (lv' := [(4, .ref q9), (0, .ref k0), (1, .int 0), (2, .int p1), (3, .ref o0)]) hx hb dL_fire_13 hl (by decide) rfl (fun ls hl => ?_)
    refine lv_iconst (v := 1) hx hb dL_fire_15 (by decide) ?_
    have hP := hP.sub (ws' := [(k0, .inr (4, [.ref h4, .null, up, .int powered, .int stepsDone])), (o0, .inl (aL, 1, .inr (.inl of)))]) [1, 0] rfl
    have hD := hD.sub (ws' := [(k0, .inr (4, [.ref h4, .null, up, .int powered, .int stepsDone])), (o0, .inl (aL, 1, .inr (.inl of)))]) [1, 0] (by decide) rfl
    exact rt_i hQ hx hb hr () hG hP hD hS (Nat.le_of_ble_eq_true rfl) (Nat.le_of_ble_eq_true rfl) dL_fire_16 hlk
  · skip
    exact False.elim hw_2
def F_h_fire_1n : Int32 :=
  ch F_fire_1n
    (1)
    (1) fun _ =>
    1
theorem F_h_fire_1n_u : F_h_fire_1n =
  ((ch F_fire_1n
    (1)
    (1) fun _ =>
    1) : Int32) := rfl
set_option maxHeartbeats 4000000 in
set_option maxRecDepth 100000 in
theorem c_h_fire_1n (l : Launch) (hl9 : l.stackTraces = false) (D : va_G) (aI aL aZ : ClassId) (sz : Nat) (k0 : Nat) (h4 : Nat) (powered : Int32) (stepsDone : Int32) (lo : Value) (p1 : Int32) (o0 : Nat) (of : Nat → Int64) : Met l yL_fire (.codeWith yL_fire cL_fire 5 (some .int) [(0, 10, 13, 13)] :: Gw) ({ frames := 8, cells := 1, slots := 6, locals := 138 }) (va_Pc [.ref k0, .int 1, .int p1, .ref o0] (mpre D [(aI, .int), (aL, .long), (aZ, .boolean)] [(k0, .inr (4, [.ref h4, lo, .null, .int powered, .int stepsDone])), (o0, .inl (aL, 1, .inr (.inl of)))] sz)) ((fun A : Nat → Prop => va_Qi (fun (r : Int32) (u : Unit) => F_h_fire_1n = r) (mpst D A (fun (u : Unit) => [(k0, .inr (4, [.ref h4, lo, .null, .int powered, .int stepsDone])), (o0, .inl (aL, 1, .inr (.inl of)))])) A) (va_A ([(k0, .inr (4, [.ref h4, lo, .null, .int powered, .int stepsDone])), (o0, .inl (aL, 1, .inr (.inl of)))]) sz)) 1 6 (va_A ([(k0, .inr (4, [.ref h4, lo, .null, .int powered, .int stepsDone])), (o0, .inl (aL, 1, .inr (.inl of)))]) sz) := by
  refine enh (cc := cL_fire) (maxL := 5) (ret := (some .int)) (Qc := (fun A : Nat → Prop => va_Qi (fun (r : Int32) (u : Unit) => F_h_fire_1n = r) (mpst D A (fun (u : Unit) => [(k0, .inr (4, [.ref h4, lo, .null, .int powered, .int stepsDone])), (o0, .inl (aL, 1, .inr (.inl of)))])) A)) (by decide) rfl (Nat.le_of_ble_eq_true rfl) ?_
  intro p e s m args below meth c A ls Q hQ hx hb hr hts hown hlk hnm hml htab hA hS hP hK hD hE hl
  have hown : s.vm.findClass RL = some m.cls := hown
  have hl : lv_has ls 5 [(0, .ref k0), (1, .int 1), (2, .int p1), (3, .ref o0)] := hl
  have hG := F_h_fire_1n_u
  refine lv_aload_n hx hb dL_fire_0 rfl (lv_at hl 3 rfl) ?_
  refine lv_iconst (v := 0) hx hb dL_fire_1 (by decide) ?_
  refine lv_aload_n hx hb dL_fire_2 rfl (lv_at hl 0 rfl) ?_
  refine lv_iload_n hx hb dL_fire_3 rfl (lv_at hl 1 rfl) ?_
  refine lv_iload_n hx hb dL_fire_4 rfl (lv_at hl 2 rfl) ?_
  refine my_ci (wr := [(o0, .inl (aL, 1, .inr (.inl of)))]) [0] [1] (vx_runV (As := [.int 1, .int p1]) (rest := [.int 0, .ref o0]) ⟨hx, hb, hml, hown, hts⟩ (c_fire_1n l hl9 D aI aL aZ _ k0 h4 powered stepsDone lo p1) (cwV 2 hts (gV w_485 w_486 w_487 w_35 w_488) rfl rfl rfl (by decide +kernel) ⟨Nat.le_of_ble_eq_true rfl, Nat.le_of_ble_eq_true rfl⟩) (prev_of hK hP hD hS hA hE [0] rfl (by decide) (ci := 4) rfl 0 rfl _) rfl rfl hl.1 rfl (lv_room (Nat.le_of_ble_eq_true rfl)) dL_fire_5 ⟨Nat.le_of_ble_eq_true rfl, Nat.le_of_ble_eq_true rfl⟩) hP hD hS hA rfl rfl (by decide) (by decide) (fun E ce q9 u H locs hw hEx hP hD hS hce hcv hcl => ?_) (fun r_1 u_ H locs hw_2 hP hD hS => ?_)
  · obtain ⟨hw, hu⟩ := hw
    have htab : c.exceptionTable.toList = [⟨0, 10, 13, 13⟩] := htab
    subst hu
    have hG := hG.trans (ch_1 hw)
    refine my_h1 (u := 1) hown htab (by decide) (by decide) (hts _ (mG w_105)) hE hEx hce hcv hcl ?_
    have hP : va_P D vwCl [(o0, .inl (aL, 1, .inr (.inl of))), (k0, .inr (4, [.ref h4, lo, .null, .int powered, .int stepsDone]))] H := hP
    have hD : va_D A [(o0, .inl (aL, 1, .inr (.inl of))), (k0, .inr (4, [.ref h4, lo, .null, .int powered, .int stepsDone]))] := hD
    refine lv_astore (lv' := [(4, .ref q9), (0, .ref k0), (1, .int 1), (2, .int p1), (3, .ref o0)]) hx hb dL_fire_13 hl (by decide) rfl (fun ls hl => ?_)
    refine lv_iconst (v := 1) hx hb dL_fire_15 (by decide) ?_
    have hP := hP.sub (ws' := [(k0, .inr (4, [.ref h4, lo, .null, .int powered, .int stepsDone])), (o0, .inl (aL, 1, .inr (.inl of)))]) [1, 0] rfl
    have hD := hD.sub (ws' := [(k0, .inr (4, [.ref h4, lo, .null, .int powered, .int stepsDone])), (o0, .inl (aL, 1, .inr (.inl of)))]) [1, 0] (by decide) rfl
    exact rt_i hQ hx hb hr () hG hP hD hS (Nat.le_of_ble_eq_true rfl) (Nat.le_of_ble_eq_true rfl) dL_fire_16 hlk
  · skip
    exact False.elim hw_2
def F_h_fire_x : Int32 :=
  ch F_fire_x
    (1)
    (1) fun _ =>
    1
theorem F_h_fire_x_u : F_h_fire_x =
  ((ch F_fire_x
    (1)
    (1) fun _ =>
    1) : Int32) := rfl
set_option maxHeartbeats 4000000 in
set_option maxRecDepth 100000 in
theorem c_h_fire_x (l : Launch) (hl9 : l.stackTraces = false) (D : va_G) (aI aL aZ : ClassId) (sz : Nat) (k0 : Nat) (h4 : Nat) (powered : Int32) (stepsDone : Int32) (lo : Value) (up : Value) (p0 : Int32) (p1 : Int32) (o0 : Nat) (of : Nat → Int64) (h9 : ¬ p0 = 0) (h8 : ¬ p0 = 1) : Met l yL_fire (.codeWith yL_fire cL_fire 5 (some .int) [(0, 10, 13, 13)] :: Gw) ({ frames := 8, cells := 1, slots := 6, locals := 138 }) (va_Pc [.ref k0, .int p0, .int p1, .ref o0] (mpre D [(aI, .int), (aL, .long), (aZ, .boolean)] [(k0, .inr (4, [.ref h4, lo, up, .int powered, .int stepsDone])), (o0, .inl (aL, 1, .inr (.inl of)))] sz)) ((fun A : Nat → Prop => va_Qi (fun (r : Int32) (u : Unit) => F_h_fire_x = r) (mpst D A (fun (u : Unit) => [(k0, .inr (4, [.ref h4, lo, up, .int powered, .int stepsDone])), (o0, .inl (aL, 1, .inr (.inl of)))])) A) (va_A ([(k0, .inr (4, [.ref h4, lo, up, .int powered, .int stepsDone])), (o0, .inl (aL, 1, .inr (.inl of)))]) sz)) 1 6 (va_A ([(k0, .inr (4, [.ref h4, lo, up, .int powered, .int stepsDone])), (o0, .inl (aL, 1, .inr (.inl of)))]) sz) := by
  refine enh (cc := cL_fire) (maxL := 5) (ret := (some .int)) (Qc := (fun A : Nat → Prop => va_Qi (fun (r : Int32) (u : Unit) => F_h_fire_x = r) (mpst D A (fun (u : Unit) => [(k0, .inr (4, [.ref h4, lo, up, .int powered, .int stepsDone])), (o0, .inl (aL, 1, .inr (.inl of)))])) A)) (by decide) rfl (Nat.le_of_ble_eq_true rfl) ?_
  intro p e s m args below meth c A ls Q hQ hx hb hr hts hown hlk hnm hml htab hA hS hP hK hD hE hl
  have hown : s.vm.findClass RL = some m.cls := hown
  have hl : lv_has ls 5 [(0, .ref k0), (1, .int p0), (2, .int p1), (3, .ref o0)] := hl
  have hG := F_h_fire_x_u
  refine lv_aload_n hx hb dL_fire_0 rfl (lv_at hl 3 rfl) ?_
  refine lv_iconst (v := 0) hx hb dL_fire_1 (by decide) ?_
  refine lv_aload_n hx hb dL_fire_2 rfl (lv_at hl 0 rfl) ?_
  refine lv_iload_n hx hb dL_fire_3 rfl (lv_at hl 1 rfl) ?_
  refine lv_iload_n hx hb dL_fire_4 rfl (lv_at hl 2 rfl) ?_
  refine my_ci (wr := [(o0, .inl (aL, 1, .inr (.inl of)))]) [0] [1] (vx_runV (As := [.int p0, .int p1]) (rest := [.int 0, .ref o0]) ⟨hx, hb, hml, hown, hts⟩ (c_fire_x l hl9 D aI aL aZ _ k0 h4 powered stepsDone lo up p0 p1 h9 h8) (cwV 2 hts (gV w_485 w_486 w_487 w_35 w_488) rfl rfl rfl (by decide +kernel) ⟨Nat.le_of_ble_eq_true rfl, Nat.le_of_ble_eq_true rfl⟩) (prev_of hK hP hD hS hA hE [0] rfl (by decide) (ci := 4) rfl 0 rfl _) rfl rfl hl.1 rfl (lv_room (Nat.le_of_ble_eq_true rfl)) dL_fire_5 ⟨Nat.le_of_ble_eq_true rfl, Nat.le_of_ble_eq_true rfl⟩) hP hD hS hA rfl rfl (by decide) (by decide) (fun E ce q9 u H locs hw hEx hP hD hS hce hcv hcl => ?_) (fun r_1 u_ H locs hw_2 hP hD hS => ?_)
  · obtain ⟨hw, hu⟩ := hw
    have htab : c.exceptionTable.toList = [⟨0, 10, 13, 13⟩] := htab
    subst hu
    have hG := hG.trans (ch_1 hw)
    refine my_h1 (u := 1) hown htab (by decide) (by decide) (hts _ (mG w_105)) hE hEx hce hcv hcl ?_
    have hP : va_P D vwCl [(o0, .inl (aL, 1, .inr (.inl of))), (k0, .inr (4, [.ref h4, lo, up, .int powered, .int stepsDone]))] H := hP
    have hD : va_D A [(o0, .inl (aL, 1, .inr (.inl of))), (k0, .inr (4, [.ref h4, lo, up, .int powered, .int stepsDone]))] := hD
    refine lv_astore (lv' := [(4, .ref q9), (0, .ref k0), (1, .int p0), (2, .int p1), (3, .ref o0)]) hx hb dL_fire_13 hl (by decide) rfl (fun ls hl => ?_)
    refine lv_iconst (v := 1) hx hb dL_fire_15 (by decide) ?_
    have hP := hP.sub (ws' := [(k0, .inr (4, [.ref h4, lo, up, .int powered, .int stepsDone])), (o0, .inl (aL, 1, .inr (.inl of)))]) [1, 0] rfl
    have hD := hD.sub (ws' := [(k0, .inr (4, [.ref h4, lo, up, .int powered, .int stepsDone])), (o0, .inl (aL, 1, .inr (.inl of)))]) [1, 0] (by decide) rfl
    exact rt_i hQ hx hb hr () hG hP hD hS (Nat.le_of_ble_eq_true rfl) (Nat.le_of_ble_eq_true rfl) dL_fire_16 hlk
  · skip
    exact False.elim hw_2
theorem dL_inspect_0 : decode cL_inspect 0 = .ok (.aload_n 3, 1) := by decide +kernel
theorem dL_inspect_1 : decode cL_inspect 1 = .ok (.iconst 0, 1) := by decide +kernel
theorem dL_inspect_2 : decode cL_inspect 2 = .ok (.aload_n 0, 1) := by decide +kernel
theorem dL_inspect_3 : decode cL_inspect 3 = .ok (.iload_n 1, 1) := by decide +kernel
theorem dL_inspect_4 : decode cL_inspect 4 = .ok (.iload_n 2, 1) := by decide +kernel
theorem dL_inspect_5 : decode cL_inspect 5 = .ok (.invokevirtual 62, 3) := by decide +kernel
theorem dL_inspect_8 : decode cL_inspect 8 = .ok (.i2l, 1) := by decide +kernel
theorem dL_inspect_9 : decode cL_inspect 9 = .ok (.lastore, 1) := by decide +kernel
theorem dL_inspect_10 : decode cL_inspect 10 = .ok (.goto 7, 3) := by decide +kernel
theorem dL_inspect_13 : decode cL_inspect 13 = .ok (.astore 4, 2) := by decide +kernel
theorem dL_inspect_15 : decode cL_inspect 15 = .ok (.iconst 1, 1) := by decide +kernel
theorem dL_inspect_16 : decode cL_inspect 16 = .ok (.ireturn, 1) := by decide +kernel
theorem dL_inspect_17 : decode cL_inspect 17 = .ok (.iconst 0, 1) := by decide +kernel
theorem dL_inspect_18 : decode cL_inspect 18 = .ok (.ireturn, 1) := by decide +kernel
def F_h_inspect_0 (ride : Int32) (p1 : Int32) (of : Nat → Int64) : Int32 × Int32 × (Nat → Int64) :=
  ch (F_inspect_0 ride p1)
    ((1, ride, of))
    ((1, ride, of)) fun r_1 =>
    (0, p1, (vp_updL of (0 : Int32).toNatClampNeg ((r_1).toInt64)))
theorem F_h_inspect_0_u (ride : Int32) (p1 : Int32) (of : Nat → Int64) : F_h_inspect_0 ride p1 of =
  ((ch (F_inspect_0 ride p1)
    ((1, ride, of))
    ((1, ride, of)) fun r_1 =>
    (0, p1, (vp_updL of (0 : Int32).toNatClampNeg ((r_1).toInt64)))) : Int32 × Int32 × (Nat → Int64)) := rfl
set_option maxHeartbeats 4000000 in
set_option maxRecDepth 100000 in
theorem c_h_inspect_0 (l : Launch) (hl9 : l.stackTraces = false) (D : va_G) (aI aL aZ : ClassId) (sz : Nat) (k0 : Nat) (h4 : Nat) (powered : Int32) (stepsDone : Int32) (up : Value) (h0 : Nat) (h1 : Nat) (h2 : Nat) (wayToOther : Int32) (place : Int32) (speed : Int32) (way : Int32) (topSpeed : Int32) (gain : Int32) (brake : Int32) (darkSpeed : Int32) (rideSpeed : Int32) (kilos : Int32) (mostKilos : Int32) (openContacts : Int32) (fireFloor : Int32) (ride : Int32) (starts : Int32) (distance : Int32) (hardFalls : Int32) (p1 : Int32) (o0 : Nat) (of : Nat → Int64) : Met l yL_inspect (.codeWith yL_inspect cL_inspect 5 (some .int) [(0, 10, 13, 13)] :: Gw) ({ frames := 8, cells := 1, slots := 6, locals := 138 }) (va_Pc [.ref k0, .int 0, .int p1, .ref o0] (mpre D [(aI, .int), (aL, .long), (aZ, .boolean)] [(k0, .inr (4, [.ref h4, .ref h0, up, .int powered, .int stepsDone])), (h0, .inr (1, [.int wayToOther, .ref h1, .ref h2, .int place, .int speed, .int way, .int topSpeed, .int gain, .int brake, .int darkSpeed, .int rideSpeed, .int kilos, .int mostKilos, .int openContacts, .int fireFloor, .int ride, .int starts, .int distance, .int hardFalls])), (o0, .inl (aL, 1, .inr (.inl of)))] sz)) ((fun A : Nat → Prop => va_Qi (fun (r : Int32) (u : Int32 × (Nat → Int64)) => match u with | (u0, u1) => F_h_inspect_0 ride p1 of = (r, u0, u1)) (mpst D A (fun (u : Int32 × (Nat → Int64)) => match u with | (u0, u1) => [(k0, .inr (4, [.ref h4, .ref h0, up, .int powered, .int stepsDone])), (h0, .inr (1, [.int wayToOther, .ref h1, .ref h2, .int place, .int speed, .int way, .int topSpeed, .int gain, .int brake, .int darkSpeed, .int rideSpeed, .int kilos, .int mostKilos, .int openContacts, .int fireFloor, .int u0, .int starts, .int distance, .int hardFalls])), (o0, .inl (aL, 1, .inr (.inl u1)))])) A) (va_A ([(k0, .inr (4, [.ref h4, .ref h0, up, .int powered, .int stepsDone])), (h0, .inr (1, [.int wayToOther, .ref h1, .ref h2, .int place, .int speed, .int way, .int topSpeed, .int gain, .int brake, .int darkSpeed, .int rideSpeed, .int kilos, .int mostKilos, .int openContacts, .int fireFloor, .int ride, .int starts, .int distance, .int hardFalls])), (o0, .inl (aL, 1, .inr (.inl of)))]) sz)) 1 6 (va_A ([(k0, .inr (4, [.ref h4, .ref h0, up, .int powered, .int stepsDone])), (h0, .inr (1, [.int wayToOther, .ref h1, .ref h2, .int place, .int speed, .int way, .int topSpeed, .int gain, .int brake, .int darkSpeed, .int rideSpeed, .int kilos, .int mostKilos, .int openContacts, .int fireFloor, .int ride, .int starts, .int distance, .int hardFalls])), (o0, .inl (aL, 1, .inr (.inl of)))]) sz) := by
  refine enh (cc := cL_inspect) (maxL := 5) (ret := (some .int)) (Qc := (fun A : Nat → Prop => va_Qi (fun (r : Int32) (u : Int32 × (Nat → Int64)) => match u with | (u0, u1) => F_h_inspect_0 ride p1 of = (r, u0, u1)) (mpst D A (fun (u : Int32 × (Nat → Int64)) => match u with | (u0, u1) => [(k0, .inr (4, [.ref h4, .ref h0, up, .int powered, .int stepsDone])), (h0, .inr (1, [.int wayToOther, .ref h1, .ref h2, .int place, .int speed, .int way, .int topSpeed, .int gain, .int brake, .int darkSpeed, .int rideSpeed, .int kilos, .int mostKilos, .int openContacts, .int fireFloor, .int u0, .int starts, .int distance, .int hardFalls])), (o0, .inl (aL, 1, .inr (.inl u1)))])) A)) (by decide) rfl (Nat.le_of_ble_eq_true rfl) ?_
  intro p e s m args below meth c A ls Q hQ hx hb hr hts hown hlk hnm hml htab hA hS hP hK hD hE hl
  have hown : s.vm.findClass RL = some m.cls := hown
  have hl : lv_has ls 5 [(0, .ref k0), (1, .int 0), (2, .int p1), (3, .ref o0)] := hl
  have hG := F_h_inspect_0_u ride p1 of
  refine lv_aload_n hx hb dL_inspect_0 rfl (lv_at hl 3 rfl) ?_
  refine lv_iconst (v := 0) hx hb dL_inspect_1 (by decide) ?_
  refine lv_aload_n hx hb dL_inspect_2 rfl (lv_at hl 0 rfl) ?_
  refine lv_iload_n hx hb dL_inspect_3 rfl (lv_at hl 1 rfl) ?_
  refine lv_iload_n hx hb dL_inspect_4 rfl (lv_at hl 2 rfl) ?_
  refine my_ci (wr := [(o0, .inl (aL, 1, .inr (.inl of)))]) [0, 1] [2] (vx_runV (As := [.int 0, .int p1]) (rest := [.int 0, .ref o0]) ⟨hx, hb, hml, hown, hts⟩ (c_inspect_0 l hl9 D aI aL aZ _ k0 h4 powered stepsDone up h0 h1 h2 wayToOther place speed way topSpeed gain brake darkSpeed rideSpeed kilos mostKilos openContacts fireFloor ride starts distance hardFalls p1) (cwV 2 hts (gV w_492 w_493 w_494 w_35 w_495) rfl rfl rfl (by decide +kernel) ⟨Nat.le_of_ble_eq_true rfl, Nat.le_of_ble_eq_true rfl⟩) (prev_of hK hP hD hS hA hE [0, 1] rfl (by decide) (ci := 4) rfl 0 rfl _) rfl rfl hl.1 rfl (lv_room (Nat.le_of_ble_eq_true rfl)) dL_inspect_5 ⟨Nat.le_of_ble_eq_true rfl, Nat.le_of_ble_eq_true rfl⟩) hP hD hS hA rfl rfl (by decide) (by decide) (fun E ce q9 u H locs hw hEx hP hD hS hce hcv hcl => ?_) (fun r_1 u_ H locs hw_2 hP hD hS => ?_)
  · obtain ⟨hw, hu⟩ := hw
    have htab : c.exceptionTable.toList = [⟨0, 10, 13, 13⟩] := htab
    subst hu
    have hG := hG.trans (ch_1 hw)
    refine my_h1 (u := 1) hown htab (by decide) (by decide) (hts _ (mG w_105)) hE hEx hce hcv hcl ?_
    have hP : va_P D vwCl [(o0, .inl (aL, 1, .inr (.inl of))), (k0, .inr (4, [.ref h4, .ref h0, up, .int powered, .int stepsDone])), (h0, .inr (1, [.int wayToOther, .ref h1, .ref h2, .int place, .int speed, .int way, .int topSpeed, .int gain, .int brake, .int darkSpeed, .int rideSpeed, .int kilos, .int mostKilos, .int openContacts, .int fireFloor, .int ride, .int starts, .int distance, .int hardFalls]))] H := hP
    have hD : va_D A [(o0, .inl (aL, 1, .inr (.inl of))), (k0, .inr (4, [.ref h4, .ref h0, up, .int powered, .int stepsDone])), (h0, .inr (1, [.int wayToOther, .ref h1, .ref h2, .int place, .int speed, .int way, .int topSpeed, .int gain, .int brake, .int darkSpeed, .int rideSpeed, .int kilos, .int mostKilos, .int openContacts, .int fireFloor, .int ride, .int starts, .int distance, .int hardFalls]))] := hD
    refine lv_astore (lv' := [(4, .ref q9), (0, .ref k0), (1, .int 0), (2, .int p1), (3, .ref o0)]) hx hb dL_inspect_13 hl (by decide) rfl (fun ls hl => ?_)
    refine lv_iconst (v := 1) hx hb dL_inspect_15 (by decide) ?_
    have hP := hP.sub (ws' := [(k0, .inr (4, [.ref h4, .ref h0, up, .int powered, .int stepsDone])), (h0, .inr (1, [.int wayToOther, .ref h1, .ref h2, .int place, .int speed, .int way, .int topSpeed, .int gain, .int brake, .int darkSpeed, .int rideSpeed, .int kilos, .int mostKilos, .int openContacts, .int fireFloor, .int ride, .int starts, .int distance, .int hardFalls])), (o0, .inl (aL, 1, .inr (.inl of)))]) [1, 2, 0] rfl
    have hD := hD.sub (ws' := [(k0, .inr (4, [.ref h4, .ref h0, up, .int powered, .int stepsDone])), (h0, .inr (1, [.int wayToOther, .ref h1, .ref h2, .int place, .int speed, .int way, .int topSpeed, .int gain, .int brake, .int darkSpeed, .int rideSpeed, .int kilos, .int mostKilos, .int openContacts, .int fireFloor, .int ride, .int starts, .int distance, .int hardFalls])), (o0, .inl (aL, 1, .inr (.inl of)))]) [1, 2, 0] (by decide) rfl
    exact rt_i hQ hx hb hr (ride, of) hG hP hD hS (Nat.le_of_ble_eq_true rfl) (Nat.le_of_ble_eq_true rfl) dL_inspect_16 hlk
  · skip
    have hw_2 : F_inspect_0 ride p1 = .inr r_1 := hw_2
    have hG := hG.trans (ch_r hw_2)
    have hP : va_P D vwCl [(o0, .inl (aL, 1, .inr (.inl of))), (k0, .inr (4, [.ref h4, .ref h0, up, .int powered, .int stepsDone])), (h0, .inr (1, [.int wayToOther, .ref h1, .ref h2, .int place, .int speed, .int way, .int topSpeed, .int gain, .int brake, .int darkSpeed, .int rideSpeed, .int kilos, .int mostKilos, .int openContacts, .int fireFloor, .int p1, .int starts, .int distance, .int hardFalls]))] H := hP
    have hD : va_D A [(o0, .inl (aL, 1, .inr (.inl of))), (k0, .inr (4, [.ref h4, .ref h0, up, .int powered, .int stepsDone])), (h0, .inr (1, [.int wayToOther, .ref h1, .ref h2, .int place, .int speed, .int way, .int topSpeed, .int gain, .int brake, .int darkSpeed, .int rideSpeed, .int kilos, .int mostKilos, .int openContacts, .int fireFloor, .int p1, .int starts, .int distance, .int hardFalls]))] := hD
    refine lv_i2l (v := (r_1).toInt64) hx hb dL_inspect_8 rfl ?_
    refine va_last hx hb hK hP hD hS 0 1 rfl rfl (by unfold vp_in; decide) dL_inspect_9 (fun H locs hP hD hS => ?_)
    have hP : va_P D vwCl [(o0, .inl (aL, 1, .inr (.inl (vp_updL of (0 : Int32).toNatClampNeg ((r_1).toInt64))))), (k0, .inr (4, [.ref h4, .ref h0, up, .int powered, .int stepsDone])), (h0, .inr (1, [.int wayToOther, .ref h1, .ref h2, .int place, .int speed, .int way, .int topSpeed, .int gain, .int brake, .int darkSpeed, .int rideSpeed, .int kilos, .int mostKilos, .int openContacts, .int fireFloor, .int p1, .int starts, .int distance, .int hardFalls]))] H := hP
    have hD : va_D A [(o0, .inl (aL, 1, .inr (.inl (vp_updL of (0 : Int32).toNatClampNeg ((r_1).toInt64))))), (k0, .inr (4, [.ref h4, .ref h0, up, .int powered, .int stepsDone])), (h0, .inr (1, [.int wayToOther, .ref h1, .ref h2, .int place, .int speed, .int way, .int topSpeed, .int gain, .int brake, .int darkSpeed, .int rideSpeed, .int kilos, .int mostKilos, .int openContacts, .int fireFloor, .int p1, .int starts, .int distance, .int hardFalls]))] := hD
    refine lv_goto (tgt := 17) hx hb dL_inspect_10 (by decide) ?_
    refine lv_iconst (v := 0) hx hb dL_inspect_17 (by decide) ?_
    have hP := hP.sub (ws' := [(k0, .inr (4, [.ref h4, .ref h0, up, .int powered, .int stepsDone])), (h0, .inr (1, [.int wayToOther, .ref h1, .ref h2, .int place, .int speed, .int way, .int topSpeed, .int gain, .int brake, .int darkSpeed, .int rideSpeed, .int kilos, .int mostKilos, .int openContacts, .int fireFloor, .int p1, .int starts, .int distance, .int hardFalls])), (o0, .inl (aL, 1, .inr (.inl (vp_updL of (0 : Int32).toNatClampNeg ((r_1).toInt64)))))]) [1, 2, 0] rfl
    have hD := hD.sub (ws' := [(k0, .inr (4, [.ref h4, .ref h0, up, .int powered, .int stepsDone])), (h0, .inr (1, [.int wayToOther, .ref h1, .ref h2, .int place, .int speed, .int way, .int topSpeed, .int gain, .int brake, .int darkSpeed, .int rideSpeed, .int kilos, .int mostKilos, .int openContacts, .int fireFloor, .int p1, .int starts, .int distance, .int hardFalls])), (o0, .inl (aL, 1, .inr (.inl (vp_updL of (0 : Int32).toNatClampNeg ((r_1).toInt64)))))]) [1, 2, 0] (by decide) rfl
    exact rt_i hQ hx hb hr (p1, (vp_updL of (0 : Int32).toNatClampNeg ((r_1).toInt64))) hG hP hD hS (Nat.le_of_ble_eq_true rfl) (Nat.le_of_ble_eq_true rfl) dL_inspect_18 hlk
def F_h_inspect_1 (ride : Int32) (p1 : Int32) (of : Nat → Int64) : Int32 × Int32 × (Nat → Int64) :=
  ch (F_inspect_1 ride p1)
    ((1, ride, of))
    ((1, ride, of)) fun r_1 =>
    (0, p1, (vp_updL of (0 : Int32).toNatClampNeg ((r_1).toInt64)))
theorem F_h_inspect_1_u (ride : Int32) (p1 : Int32) (of : Nat → Int64) : F_h_inspect_1 ride p1 of =
  ((ch (F_inspect_1 ride p1)
    ((1, ride, of))
    ((1, ride, of)) fun r_1 =>
    (0, p1, (vp_updL of (0 : Int32).toNatClampNeg ((r_1).toInt64)))) : Int32 × Int32 × (Nat → Int64)) := rfl
set_option maxHeartbeats 4000000 in
set_option maxRecDepth 100000 in
theorem c_h_inspect_1 (l : Launch) (hl9 : l.stackTraces = false) (D : va_G) (aI aL aZ : ClassId) (sz : Nat) (k0 : Nat) (h4 : Nat) (powered : Int32) (stepsDone : Int32) (lo : Value) (h0 : Nat) (h1 : Nat) (h2 : Nat) (wayToOther : Int32) (place : Int32) (speed : Int32) (way : Int32) (topSpeed : Int32) (gain : Int32) (brake : Int32) (darkSpeed : Int32) (rideSpeed : Int32) (kilos : Int32) (mostKilos : Int32) (openContacts : Int32) (fireFloor : Int32) (ride : Int32) (starts : Int32) (distance : Int32) (hardFalls : Int32) (p1 : Int32) (o0 : Nat) (of : Nat → Int64) : Met l yL_inspect (.codeWith yL_inspect cL_inspect 5 (some .int) [(0, 10, 13, 13)] :: Gw) ({ frames := 8, cells := 1, slots := 6, locals := 138 }) (va_Pc [.ref k0, .int 1, .int p1, .ref o0] (mpre D [(aI, .int), (aL, .long), (aZ, .boolean)] [(k0, .inr (4, [.ref h4, lo, .ref h0, .int powered, .int stepsDone])), (h0, .inr (1, [.int wayToOther, .ref h1, .ref h2, .int place, .int speed, .int way, .int topSpeed, .int gain, .int brake, .int darkSpeed, .int rideSpeed, .int kilos, .int mostKilos, .int openContacts, .int fireFloor, .int ride, .int starts, .int distance, .int hardFalls])), (o0, .inl (aL, 1, .inr (.inl of)))] sz)) ((fun A : Nat → Prop => va_Qi (fun (r : Int32) (u : Int32 × (Nat → Int64)) => match u with | (u0, u1) => F_h_inspect_1 ride p1 of = (r, u0, u1)) (mpst D A (fun (u : Int32 × (Nat → Int64)) => match u with | (u0, u1) => [(k0, .inr (4, [.ref h4, lo, .ref h0, .int powered, .int stepsDone])), (h0, .inr (1, [.int wayToOther, .ref h1, .ref h2, .int place, .int speed, .int way, .int topSpeed, .int gain, .int brake, .int darkSpeed, .int rideSpeed, .int kilos, .int mostKilos, .int openContacts, .int fireFloor, .int u0, .int starts, .int distance, .int hardFalls])), (o0, .inl (aL, 1, .inr (.inl u1)))])) A) (va_A ([(k0, .inr (4, [.ref h4, lo, .ref h0, .int powered, .int stepsDone])), (h0, .inr (1, [.int wayToOther, .ref h1, .ref h2, .int place, .int speed, .int way, .int topSpeed, .int gain, .int brake, .int darkSpeed, .int rideSpeed, .int kilos, .int mostKilos, .int openContacts, .int fireFloor, .int ride, .int starts, .int distance, .int hardFalls])), (o0, .inl (aL, 1, .inr (.inl of)))]) sz)) 1 6 (va_A ([(k0, .inr (4, [.ref h4, lo, .ref h0, .int powered, .int stepsDone])), (h0, .inr (1, [.int wayToOther, .ref h1, .ref h2, .int place, .int speed, .int way, .int topSpeed, .int gain, .int brake, .int darkSpeed, .int rideSpeed, .int kilos, .int mostKilos, .int openContacts, .int fireFloor, .int ride, .int starts, .int distance, .int hardFalls])), (o0, .inl (aL, 1, .inr (.inl of)))]) sz) := by
  refine enh (cc := cL_inspect) (maxL := 5) (ret := (some .int)) (Qc := (fun A : Nat → Prop => va_Qi (fun (r : Int32) (u : Int32 × (Nat → Int64)) => match u with | (u0, u1) => F_h_inspect_1 ride p1 of = (r, u0, u1)) (mpst D A (fun (u : Int32 × (Nat → Int64)) => match u with | (u0, u1) => [(k0, .inr (4, [.ref h4, lo, .ref h0, .int powered, .int stepsDone])), (h0, .inr (1, [.int wayToOther, .ref h1, .ref h2, .int place, .int speed, .int way, .int topSpeed, .int gain, .int brake, .int darkSpeed, .int rideSpeed, .int kilos, .int mostKilos, .int openContacts, .int fireFloor, .int u0, .int starts, .int distance, .int hardFalls])), (o0, .inl (aL, 1, .inr (.inl u1)))])) A)) (by decide) rfl (Nat.le_of_ble_eq_true rfl) ?_
  intro p e s m args below meth c A ls Q hQ hx hb hr hts hown hlk hnm hml htab hA hS hP hK hD hE hl
  have hown : s.vm.findClass RL = some m.cls := hown
  have hl : lv_has ls 5 [(0, .ref k0), (1, .int 1), (2, .int p1), (3, .ref o0)] := hl
  have hG := F_h_inspect_1_u ride p1 of
  refine lv_aload_n hx hb dL_inspect_0 rfl (lv_at hl 3 rfl) ?_
  refine lv_iconst (v := 0) hx hb dL_inspect_1 (by decide) ?_
  refine lv_aload_n hx hb dL_inspect_2 rfl (lv_at hl 0 rfl) ?_
  refine lv_iload_n hx hb dL_inspect_3 rfl (lv_at hl 1 rfl) ?_
  refine lv_iload_n hx hb dL_inspect_4 rfl (lv_at hl 2 rfl) ?_
  refine my_ci (wr := [(o0, .inl (aL, 1, .inr (.inl of)))]) [0, 1] [2] (vx_runV (As := [.int 1, .int p1]) (rest := [.int 0, .ref o0]) ⟨hx, hb, hml, hown, hts⟩ (c_inspect_1 l hl9 D aI aL aZ _ k0 h4 powered stepsDone lo h0 h1 h2 wayToOther place speed way topSpeed gain brake darkSpeed rideSpeed kilos mostKilos openContacts fireFloor ride starts distance hardFalls p1) (cwV 2 hts (gV w_492 w_493 w_494 w_35 w_495) rfl rfl rfl (by decide +kernel) ⟨Nat.le_of_ble_eq_true rfl, Nat.le_of_ble_eq_true rfl⟩) (prev_of hK hP hD hS hA hE [0, 1] rfl (by decide) (ci := 4) rfl 0 rfl _) rfl rfl hl.1 rfl (lv_room (Nat.le_of_ble_eq_true rfl)) dL_inspect_5 ⟨Nat.le_of_ble_eq_true rfl, Nat.le_of_ble_eq_true rfl⟩) hP hD hS hA rfl rfl (by decide) (by decide) (fun E ce q9 u H locs hw hEx hP hD hS hce hcv hcl => ?_) (fun r_1 u_ H locs hw_2 hP hD hS => ?_)
  · obtain ⟨hw, hu⟩ := hw
    have htab : c.exceptionTable.toList = [⟨0, 10, 13, 13⟩] := htab
    subst hu
    have hG := hG.trans (ch_1 hw)
    refine my_h1 (u := 1) hown htab (by decide) (by decide) (hts _ (mG w_105)) hE hEx hce hcv hcl ?_
    have hP : va_P D vwCl [(o0, .inl (aL, 1, .inr (.inl of))), (k0, .inr (4, [.ref h4, lo, .ref h0, .int powered, .int stepsDone])), (h0, .inr (1, [.int wayToOther, .ref h1, .ref h2, .int place, .int speed, .int way, .int topSpeed, .int gain, .int brake, .int darkSpeed, .int rideSpeed, .int kilos, .int mostKilos, .int openContacts, .int fireFloor, .int ride, .int starts, .int distance, .int hardFalls]))] H := hP
    have hD : va_D A [(o0, .inl (aL, 1, .inr (.inl of))), (k0, .inr (4, [.ref h4, lo, .ref h0, .int powered, .int stepsDone])), (h0, .inr (1, [.int wayToOther, .ref h1, .ref h2, .int place, .int speed, .int way, .int topSpeed, .int gain, .int brake, .int darkSpeed, .int rideSpeed, .int kilos, .int mostKilos, .int openContacts, .int fireFloor, .int ride, .int starts, .int distance, .int hardFalls]))] := hD
    refine lv_astore (lv' := [(4, .ref q9), (0, .ref k0), (1, .int 1), (2, .int p1), (3, .ref o0)]) hx hb dL_inspect_13 hl (by decide) rfl (fun ls hl => ?_)
    refine lv_iconst (v := 1) hx hb dL_inspect_15 (by decide) ?_
    have hP := hP.sub (ws' := [(k0, .inr (4, [.ref h4, lo, .ref h0, .int powered, .int stepsDone])), (h0, .inr (1, [.int wayToOther, .ref h1, .ref h2, .int place, .int speed, .int way, .int topSpeed, .int gain, .int brake, .int darkSpeed, .int rideSpeed, .int kilos, .int mostKilos, .int openContacts, .int fireFloor, .int ride, .int starts, .int distance, .int hardFalls])), (o0, .inl (aL, 1, .inr (.inl of)))]) [1, 2, 0] rfl
    have hD := hD.sub (ws' := [(k0, .inr (4, [.ref h4, lo, .ref h0, .int powered, .int stepsDone])), (h0, .inr (1, [.int wayToOther, .ref h1, .ref h2, .int place, .int speed, .int way, .int topSpeed, .int gain, .int brake, .int darkSpeed, .int rideSpeed, .int kilos, .int mostKilos, .int openContacts, .int fireFloor, .int ride, .int starts, .int distance, .int hardFalls])), (o0, .inl (aL, 1, .inr (.inl of)))]) [1, 2, 0] (by decide) rfl
    exact rt_i hQ hx hb hr (ride, of) hG hP hD hS (Nat.le_of_ble_eq_true rfl) (Nat.le_of_ble_eq_true rfl) dL_inspect_16 hlk
  · skip
    have hw_2 : F_inspect_1 ride p1 = .inr r_1 := hw_2
    have hG := hG.trans (ch_r hw_2)
    have hP : va_P D vwCl [(o0, .inl (aL, 1, .inr (.inl of))), (k0, .inr (4, [.ref h4, lo, .ref h0, .int powered, .int stepsDone])), (h0, .inr (1, [.int wayToOther, .ref h1, .ref h2, .int place, .int speed, .int way, .int topSpeed, .int gain, .int brake, .int darkSpeed, .int rideSpeed, .int kilos, .int mostKilos, .int openContacts, .int fireFloor, .int p1, .int starts, .int distance, .int hardFalls]))] H := hP
    have hD : va_D A [(o0, .inl (aL, 1, .inr (.inl of))), (k0, .inr (4, [.ref h4, lo, .ref h0, .int powered, .int stepsDone])), (h0, .inr (1, [.int wayToOther, .ref h1, .ref h2, .int place, .int speed, .int way, .int topSpeed, .int gain, .int brake, .int darkSpeed, .int rideSpeed, .int kilos, .int mostKilos, .int openContacts, .int fireFloor, .int p1, .int starts, .int distance, .int hardFalls]))] := hD
    refine lv_i2l (v := (r_1).toInt64) hx hb dL_inspect_8 rfl ?_
    refine va_last hx hb hK hP hD hS 0 1 rfl rfl (by unfold vp_in; decide) dL_inspect_9 (fun H locs hP hD hS => ?_)
    have hP : va_P D vwCl [(o0, .inl (aL, 1, .inr (.inl (vp_updL of (0 : Int32).toNatClampNeg ((r_1).toInt64))))), (k0, .inr (4, [.ref h4, lo, .ref h0, .int powered, .int stepsDone])), (h0, .inr (1, [.int wayToOther, .ref h1, .ref h2, .int place, .int speed, .int way, .int topSpeed, .int gain, .int brake, .int darkSpeed, .int rideSpeed, .int kilos, .int mostKilos, .int openContacts, .int fireFloor, .int p1, .int starts, .int distance, .int hardFalls]))] H := hP
    have hD : va_D A [(o0, .inl (aL, 1, .inr (.inl (vp_updL of (0 : Int32).toNatClampNeg ((r_1).toInt64))))), (k0, .inr (4, [.ref h4, lo, .ref h0, .int powered, .int stepsDone])), (h0, .inr (1, [.int wayToOther, .ref h1, .ref h2, .int place, .int speed, .int way, .int topSpeed, .int gain, .int brake, .int darkSpeed, .int rideSpeed, .int kilos, .int mostKilos, .int openContacts, .int fireFloor, .int p1, .int starts, .int distance, .int hardFalls]))] := hD
    refine lv_goto (tgt := 17) hx hb dL_inspect_10 (by decide) ?_
    refine lv_iconst (v := 0) hx hb dL_inspect_17 (by decide) ?_
    have hP := hP.sub (ws' := [(k0, .inr (4, [.ref h4, lo, .ref h0, .int powered, .int stepsDone])), (h0, .inr (1, [.int wayToOther, .ref h1, .ref h2, .int place, .int speed, .int way, .int topSpeed, .int gain, .int brake, .int darkSpeed, .int rideSpeed, .int kilos, .int mostKilos, .int openContacts, .int fireFloor, .int p1, .int starts, .int distance, .int hardFalls])), (o0, .inl (aL, 1, .inr (.inl (vp_updL of (0 : Int32).toNatClampNeg ((r_1).toInt64)))))]) [1, 2, 0] rfl
    have hD := hD.sub (ws' := [(k0, .inr (4, [.ref h4, lo, .ref h0, .int powered, .int stepsDone])), (h0, .inr (1, [.int wayToOther, .ref h1, .ref h2, .int place, .int speed, .int way, .int topSpeed, .int gain, .int brake, .int darkSpeed, .int rideSpeed, .int kilos, .int mostKilos, .int openContacts, .int fireFloor, .int p1, .int starts, .int distance, .int hardFalls])), (o0, .inl (aL, 1, .inr (.inl (vp_updL of (0 : Int32).toNatClampNeg ((r_1).toInt64)))))]) [1, 2, 0] (by decide) rfl
    exact rt_i hQ hx hb hr (p1, (vp_updL of (0 : Int32).toNatClampNeg ((r_1).toInt64))) hG hP hD hS (Nat.le_of_ble_eq_true rfl) (Nat.le_of_ble_eq_true rfl) dL_inspect_18 hlk
def F_h_inspect_0n : Int32 :=
  ch F_inspect_0n
    (1)
    (1) fun _ =>
    1
theorem F_h_inspect_0n_u : F_h_inspect_0n =
  ((ch F_inspect_0n
    (1)
    (1) fun _ =>
    1) : Int32) := rfl
set_option maxHeartbeats 4000000 in
set_option maxRecDepth 100000 in
theorem c_h_inspect_0n (l : Launch) (hl9 : l.stackTraces = false) (D : va_G) (aI aL aZ : ClassId) (sz : Nat) (k0 : Nat) (h4 : Nat) (powered : Int32) (stepsDone : Int32) (up : Value) (p1 : Int32) (o0 : Nat) (of : Nat → Int64) : Met l yL_inspect (.codeWith yL_inspect cL_inspect 5 (some .int) [(0, 10, 13, 13)] :: Gw) ({ frames := 8, cells := 1, slots := 6, locals := 138 }) (va_Pc [.ref k0, .int 0, .int p1, .ref o0] (mpre D [(aI, .int), (aL, .long), (aZ, .boolean)] [(k0, .inr (4, [.ref h4, .null, up, .int powered, .int stepsDone])), (o0, .inl (aL, 1, .inr (.inl of)))] sz)) ((fun A : Nat → Prop => va_Qi (fun (r : Int32) (u : Unit) => F_h_inspect_0n = r) (mpst D A (fun (u : Unit) => [(k0, .inr (4, [.ref h4, .null, up, .int powered, .int stepsDone])), (o0, .inl (aL, 1, .inr (.inl of)))])) A) (va_A ([(k0, .inr (4, [.ref h4, .null, up, .int powered, .int stepsDone])), (o0, .inl (aL, 1, .inr (.inl of)))]) sz)) 1 6 (va_A ([(k0, .inr (4, [.ref h4, .null, up, .int powered, .int stepsDone])), (o0, .inl (aL, 1, .inr (.inl of)))]) sz) := by
  refine enh (cc := cL_inspect) (maxL := 5) (ret := (some .int)) (Qc := (fun A : Nat → Prop => va_Qi (fun (r : Int32) (u : Unit) => F_h_inspect_0n = r) (mpst D A (fun (u : Unit) => [(k0, .inr (4, [.ref h4, .null, up, .int powered, .int stepsDone])), (o0, .inl (aL, 1, .inr (.inl of)))])) A)) (by decide) rfl (Nat.le_of_ble_eq_true rfl) ?_
  intro p e s m args below meth c A ls Q hQ hx hb hr hts hown hlk hnm hml htab hA hS hP hK hD hE hl
  have hown : s.vm.findClass RL = some m.cls := hown
  have hl : lv_has ls 5 [(0, .ref k0), (1, .int 0), (2, .int p1), (3, .ref o0)] := hl
  have hG := F_h_inspect_0n_u
  refine lv_aload_n hx hb dL_inspect_0 rfl (lv_at hl 3 rfl) ?_
  refine lv_iconst (v := 0) hx hb dL_inspect_1 (by decide) ?_
  refine lv_aload_n hx hb dL_inspect_2 rfl (lv_at hl 0 rfl) ?_
  refine lv_iload_n hx hb dL_inspect_3 rfl (lv_at hl 1 rfl) ?_
  refine lv_iload_n hx hb dL_inspect_4 rfl (lv_at hl 2 rfl) ?_
  refine my_ci (wr := [(o0, .inl (aL, 1, .inr (.inl of)))]) [0] [1] (vx_runV (As := [.int 0, .int p1]) (rest := [.int 0, .ref o0]) ⟨hx, hb, hml, hown, hts⟩ (c_inspect_0n l hl9 D aI aL aZ _ k0 h4 powered stepsDone up p1) (cwV 2 hts (gV w_492 w_493 w_494 w_35 w_495) rfl rfl rfl (by decide +kernel) ⟨Nat.le_of_ble_eq_true rfl, Nat.le_of_ble_eq_true rfl⟩) (prev_of hK hP hD hS hA hE [0] rfl (by decide) (ci := 4) rfl 0 rfl _) rfl rfl hl.1 rfl (lv_room (Nat.le_of_ble_eq_true rfl)) dL_inspect_5 ⟨Nat.le_of_ble_eq_true rfl, Nat.le_of_ble_eq_true rfl⟩) hP hD hS hA rfl rfl (by decide) (by decide) (fun E ce q9 u H locs hw hEx hP hD hS hce hcv hcl => ?_) (fun r_1 u_ H locs hw_2 hP hD hS => ?_)
  · obtain ⟨hw, hu⟩ := hw
    have htab : c.exceptionTable.toList = [⟨0, 10, 13, 13⟩] := htab
    subst hu
    have hG := hG.trans (ch_1 hw)
    refine my_h1 (u := 1) hown htab (by decide) (by decide) (hts _ (mG w_105)) hE hEx hce hcv hcl ?_
    have hP : va_P D vwCl [(o0, .inl (aL, 1, .inr (.inl of))), (k0, .inr (4, [.ref h4, .null, up, .int powered, .int stepsDone]))] H := hP
    have hD : va_D A [(o0, .inl (aL, 1, .inr (.inl of))), (k0, .inr (4, [.ref h4, .null, up, .int powered, .int stepsDone]))] := hD
    refine lv_astore (lv' := [(4, .ref q9), (0, .ref k0), (1, .int 0), (2, .int p1), (3, .ref o0)]) hx hb dL_inspect_13 hl (by decide) rfl (fun ls hl => ?_)
    refine lv_iconst (v := 1) hx hb dL_inspect_15 (by decide) ?_
    have hP := hP.sub (ws' := [(k0, .inr (4, [.ref h4, .null, up, .int powered, .int stepsDone])), (o0, .inl (aL, 1, .inr (.inl of)))]) [1, 0] rfl
    have hD := hD.sub (ws' := [(k0, .inr (4, [.ref h4, .null, up, .int powered, .int stepsDone])), (o0, .inl (aL, 1, .inr (.inl of)))]) [1, 0] (by decide) rfl
    exact rt_i hQ hx hb hr () hG hP hD hS (Nat.le_of_ble_eq_true rfl) (Nat.le_of_ble_eq_true rfl) dL_inspect_16 hlk
  · skip
    exact False.elim hw_2
def F_h_inspect_1n : Int32 :=
  ch F_inspect_1n
    (1)
    (1) fun _ =>
    1
theorem F_h_inspect_1n_u : F_h_inspect_1n =
  ((ch F_inspect_1n
    (1)
    (1) fun _ =>
    1) : Int32) := rfl
set_option maxHeartbeats 4000000 in
set_option maxRecDepth 100000 in
theorem c_h_inspect_1n (l : Launch) (hl9 : l.stackTraces = false) (D : va_G) (aI aL aZ : ClassId) (sz : Nat) (k0 : Nat) (h4 : Nat) (powered : Int32) (stepsDone : Int32) (lo : Value) (p1 : Int32) (o0 : Nat) (of : Nat → Int64) : Met l yL_inspect (.codeWith yL_inspect cL_inspect 5 (some .int) [(0, 10, 13, 13)] :: Gw) ({ frames := 8, cells := 1, slots := 6, locals := 138 }) (va_Pc [.ref k0, .int 1, .int p1, .ref o0] (mpre D [(aI, .int), (aL, .long), (aZ, .boolean)] [(k0, .inr (4, [.ref h4, lo, .null, .int powered, .int stepsDone])), (o0, .inl (aL, 1, .inr (.inl of)))] sz)) ((fun A : Nat → Prop => va_Qi (fun (r : Int32) (u : Unit) => F_h_inspect_1n = r) (mpst D A (fun (u : Unit) => [(k0, .inr (4, [.ref h4, lo, .null, .int powered, .int stepsDone])), (o0, .inl (aL, 1, .inr (.inl of)))])) A) (va_A ([(k0, .inr (4, [.ref h4, lo, .null, .int powered, .int stepsDone])), (o0, .inl (aL, 1, .inr (.inl of)))]) sz)) 1 6 (va_A ([(k0, .inr (4, [.ref h4, lo, .null, .int powered, .int stepsDone])), (o0, .inl (aL, 1, .inr (.inl of)))]) sz) := by
  refine enh (cc := cL_inspect) (maxL := 5) (ret := (some .int)) (Qc := (fun A : Nat → Prop => va_Qi (fun (r : Int32) (u : Unit) => F_h_inspect_1n = r) (mpst D A (fun (u : Unit) => [(k0, .inr (4, [.ref h4, lo, .null, .int powered, .int stepsDone])), (o0, .inl (aL, 1, .inr (.inl of)))])) A)) (by decide) rfl (Nat.le_of_ble_eq_true rfl) ?_
  intro p e s m args below meth c A ls Q hQ hx hb hr hts hown hlk hnm hml htab hA hS hP hK hD hE hl
  have hown : s.vm.findClass RL = some m.cls := hown
  have hl : lv_has ls 5 [(0, .ref k0), (1, .int 1), (2, .int p1), (3, .ref o0)] := hl
  have hG := F_h_inspect_1n_u
  refine lv_aload_n hx hb dL_inspect_0 rfl (lv_at hl 3 rfl) ?_
  refine lv_iconst (v := 0) hx hb dL_inspect_1 (by decide) ?_
  refine lv_aload_n hx hb dL_inspect_2 rfl (lv_at hl 0 rfl) ?_
  refine lv_iload_n hx hb dL_inspect_3 rfl (lv_at hl 1 rfl) ?_
  refine lv_iload_n hx hb dL_inspect_4 rfl (lv_at hl 2 rfl) ?_
  refine my_ci (wr := [(o0, .inl (aL, 1, .inr (.inl of)))]) [0] [1] (vx_runV (As := [.int 1, .int p1]) (rest := [.int 0, .ref o0]) ⟨hx, hb, hml, hown, hts⟩ (c_inspect_1n l hl9 D aI aL aZ _ k0 h4 powered stepsDone lo p1) (cwV 2 hts (gV w_492 w_493 w_494 w_35 w_495) rfl rfl rfl (by decide +kernel) ⟨Nat.le_of_ble_eq_true rfl, Nat.le_of_ble_eq_true rfl⟩) (prev_of hK hP hD hS hA hE [0] rfl (by decide) (ci := 4) rfl 0 rfl _) rfl rfl hl.1 rfl (lv_room (Nat.le_of_ble_eq_true rfl)) dL_inspect_5 ⟨Nat.le_of_ble_eq_true rfl, Nat.le_of_ble_eq_true rfl⟩) hP hD hS hA rfl rfl (by decide) (by decide) (fun E ce q9 u H locs hw hEx hP hD hS hce hcv hcl => ?_) (fun r_1 u_ H locs hw_2 hP hD hS => ?_)
  · obtain ⟨hw, hu⟩ := hw
    have htab : c.exceptionTable.toList = [⟨0, 10, 13, 13⟩] := htab
    subst hu
    have hG := hG.trans (ch_1 hw)
    refine my_h1 (u := 1) hown htab (by decide) (by decide) (hts _ (mG w_105)) hE hEx hce hcv hcl ?_
    have hP : va_P D vwCl [(o0, .inl (aL, 1, .inr (.inl of))), (k0, .inr (4, [.ref h4, lo, .null, .int powered, .int stepsDone]))] H := hP
    have hD : va_D A [(o0, .inl (aL, 1, .inr (.inl of))), (k0, .inr (4, [.ref h4, lo, .null, .int powered, .int stepsDone]))] := hD
    refine lv_astore (lv' := [(4, .ref q9), (0, .ref k0), (1, .int 1), (2, .int p1), (3, .ref o0)]) hx hb dL_inspect_13 hl (by decide) rfl (fun ls hl => ?_)
    refine lv_iconst (v := 1) hx hb dL_inspect_15 (by decide) ?_
    have hP := hP.sub (ws' := [(k0, .inr (4, [.ref h4, lo, .null, .int powered, .int stepsDone])), (o0, .inl (aL, 1, .inr (.inl of)))]) [1, 0] rfl
    have hD := hD.sub (ws' := [(k0, .inr (4, [.ref h4, lo, .null, .int powered, .int stepsDone])), (o0, .inl (aL, 1, .inr (.inl of)))]) [1, 0] (by decide) rfl
    exact rt_i hQ hx hb hr () hG hP hD hS (Nat.le_of_ble_eq_true rfl) (Nat.le_of_ble_eq_true rfl) dL_inspect_16 hlk
  · skip
    exact False.elim hw_2
def F_h_inspect_x : Int32 :=
  ch F_inspect_x
    (1)
    (1) fun _ =>
    1
theorem F_h_inspect_x_u : F_h_inspect_x =
  ((ch F_inspect_x
    (1)
    (1) fun _ =>
    1) : Int32) := rfl
set_option maxHeartbeats 4000000 in
set_option maxRecDepth 100000 in
theorem c_h_inspect_x (l : Launch) (hl9 : l.stackTraces = false) (D : va_G) (aI aL aZ : ClassId) (sz : Nat) (k0 : Nat) (h4 : Nat) (powered : Int32) (stepsDone : Int32) (lo : Value) (up : Value) (p0 : Int32) (p1 : Int32) (o0 : Nat) (of : Nat → Int64) (h9 : ¬ p0 = 0) (h8 : ¬ p0 = 1) : Met l yL_inspect (.codeWith yL_inspect cL_inspect 5 (some .int) [(0, 10, 13, 13)] :: Gw) ({ frames := 8, cells := 1, slots := 6, locals := 138 }) (va_Pc [.ref k0, .int p0, .int p1, .ref o0] (mpre D [(aI, .int), (aL, .long), (aZ, .boolean)] [(k0, .inr (4, [.ref h4, lo, up, .int powered, .int stepsDone])), (o0, .inl (aL, 1, .inr (.inl of)))] sz)) ((fun A : Nat → Prop => va_Qi (fun (r : Int32) (u : Unit) => F_h_inspect_x = r) (mpst D A (fun (u : Unit) => [(k0, .inr (4, [.ref h4, lo, up, .int powered, .int stepsDone])), (o0, .inl (aL, 1, .inr (.inl of)))])) A) (va_A ([(k0, .inr (4, [.ref h4, lo, up, .int powered, .int stepsDone])), (o0, .inl (aL, 1, .inr (.inl of)))]) sz)) 1 6 (va_A ([(k0, .inr (4, [.ref h4, lo, up, .int powered, .int stepsDone])), (o0, .inl (aL, 1, .inr (.inl of)))]) sz) := by
  refine enh (cc := cL_inspect) (maxL := 5) (ret := (some .int)) (Qc := (fun A : Nat → Prop => va_Qi (fun (r : Int32) (u : Unit) => F_h_inspect_x = r) (mpst D A (fun (u : Unit) => [(k0, .inr (4, [.ref h4, lo, up, .int powered, .int stepsDone])), (o0, .inl (aL, 1, .inr (.inl of)))])) A)) (by decide) rfl (Nat.le_of_ble_eq_true rfl) ?_
  intro p e s m args below meth c A ls Q hQ hx hb hr hts hown hlk hnm hml htab hA hS hP hK hD hE hl
  have hown : s.vm.findClass RL = some m.cls := hown
  have hl : lv_has ls 5 [(0, .ref k0), (1, .int p0), (2, .int p1), (3, .ref o0)] := hl
  have hG := F_h_inspect_x_u
  refine lv_aload_n hx hb dL_inspect_0 rfl (lv_at hl 3 rfl) ?_
  refine lv_iconst (v := 0) hx hb dL_inspect_1 (by decide) ?_
  refine lv_aload_n hx hb dL_inspect_2 rfl (lv_at hl 0 rfl) ?_
  refine lv_iload_n hx hb dL_inspect_3 rfl (lv_at hl 1 rfl) ?_
  refine lv_iload_n hx hb dL_inspect_4 rfl (lv_at hl 2 rfl) ?_
  refine my_ci (wr := [(o0, .inl (aL, 1, .inr (.inl of)))]) [0] [1] (vx_runV (As := [.int p0, .int p1]) (rest := [.int 0, .ref o0]) ⟨hx, hb, hml, hown, hts⟩ (c_inspect_x l hl9 D aI aL aZ _ k0 h4 powered stepsDone lo up p0 p1 h9 h8) (cwV 2 hts (gV w_492 w_493 w_494 w_35 w_495) rfl rfl rfl (by decide +kernel) ⟨Nat.le_of_ble_eq_true rfl, Nat.le_of_ble_eq_true rfl⟩) (prev_of hK hP hD hS hA hE [0] rfl (by decide) (ci := 4) rfl 0 rfl _) rfl rfl hl.1 rfl (lv_room (Nat.le_of_ble_eq_true rfl)) dL_inspect_5 ⟨Nat.le_of_ble_eq_true rfl, Nat.le_of_ble_eq_true rfl⟩) hP hD hS hA rfl rfl (by decide) (by decide) (fun E ce q9 u H locs hw hEx hP hD hS hce hcv hcl => ?_) (fun r_1 u_ H locs hw_2 hP hD hS => ?_)
  · obtain ⟨hw, hu⟩ := hw
    have htab : c.exceptionTable.toList = [⟨0, 10, 13, 13⟩] := htab
    subst hu
    have hG := hG.trans (ch_1 hw)
    refine my_h1 (u := 1) hown htab (by decide) (by decide) (hts _ (mG w_105)) hE hEx hce hcv hcl ?_
    have hP : va_P D vwCl [(o0, .inl (aL, 1, .inr (.inl of))), (k0, .inr (4, [.ref h4, lo, up, .int powered, .int stepsDone]))] H := hP
    have hD : va_D A [(o0, .inl (aL, 1, .inr (.inl of))), (k0, .inr (4, [.ref h4, lo, up, .int powered, .int stepsDone]))] := hD
    refine lv_astore (lv' := [(4, .ref q9), (0, .ref k0), (1, .int p0), (2, .int p1), (3, .ref o0)]) hx hb dL_inspect_13 hl (by decide) rfl (fun ls hl => ?_)
    refine lv_iconst (v := 1) hx hb dL_inspect_15 (by decide) ?_
    have hP := hP.sub (ws' := [(k0, .inr (4, [.ref h4, lo, up, .int powered, .int stepsDone])), (o0, .inl (aL, 1, .inr (.inl of)))]) [1, 0] rfl
    have hD := hD.sub (ws' := [(k0, .inr (4, [.ref h4, lo, up, .int powered, .int stepsDone])), (o0, .inl (aL, 1, .inr (.inl of)))]) [1, 0] (by decide) rfl
    exact rt_i hQ hx hb hr () hG hP hD hS (Nat.le_of_ble_eq_true rfl) (Nat.le_of_ble_eq_true rfl) dL_inspect_16 hlk
  · skip
    exact False.elim hw_2
theorem dL_steps_0 : decode cL_steps 0 = .ok (.aload_n 2, 1) := by decide +kernel
theorem dL_steps_1 : decode cL_steps 1 = .ok (.iconst 0, 1) := by decide +kernel
theorem dL_steps_2 : decode cL_steps 2 = .ok (.aload_n 0, 1) := by decide +kernel
theorem dL_steps_3 : decode cL_steps 3 = .ok (.iload_n 1, 1) := by decide +kernel
theorem dL_steps_4 : decode cL_steps 4 = .ok (.invokevirtual 65, 3) := by decide +kernel
theorem dL_steps_7 : decode cL_steps 7 = .ok (.i2l, 1) := by decide +kernel
theorem dL_steps_8 : decode cL_steps 8 = .ok (.lastore, 1) := by decide +kernel
theorem dL_steps_9 : decode cL_steps 9 = .ok (.goto 6, 3) := by decide +kernel
theorem dL_steps_12 : decode cL_steps 12 = .ok (.astore_n 3, 1) := by decide +kernel
theorem dL_steps_13 : decode cL_steps 13 = .ok (.iconst 1, 1) := by decide +kernel
theorem dL_steps_14 : decode cL_steps 14 = .ok (.ireturn, 1) := by decide +kernel
theorem dL_steps_15 : decode cL_steps 15 = .ok (.iconst 0, 1) := by decide +kernel
theorem dL_steps_16 : decode cL_steps 16 = .ok (.ireturn, 1) := by decide +kernel
def F_h_steps_0 (stepsDone : Int32) (p0 : Int32) (of : Nat → Int64) : Int32 × Int32 × (Nat → Int64) :=
  ch (F_steps_0 stepsDone p0)
    ((1, stepsDone, of))
    ((1, stepsDone, of)) fun r_1 =>
    (0, (stepsDone + p0), (vp_updL of (0 : Int32).toNatClampNeg ((r_1).toInt64)))
theorem F_h_steps_0_u (stepsDone : Int32) (p0 : Int32) (of : Nat → Int64) : F_h_steps_0 stepsDone p0 of =
  ((ch (F_steps_0 stepsDone p0)
    ((1, stepsDone, of))
    ((1, stepsDone, of)) fun r_1 =>
    (0, (stepsDone + p0), (vp_updL of (0 : Int32).toNatClampNeg ((r_1).toInt64)))) : Int32 × Int32 × (Nat → Int64)) := rfl
set_option maxHeartbeats 4000000 in
set_option maxRecDepth 100000 in
theorem c_h_steps_0 (l : Launch) (hl9 : l.stackTraces = false) (D : va_G) (aI aL aZ : ClassId) (sz : Nat) (k0 : Nat) (h4 : Nat) (powered : Int32) (stepsDone : Int32) (p0 : Int32) (o0 : Nat) (of : Nat → Int64) : Met l yL_steps (.codeWith yL_steps cL_steps 4 (some .int) [(0, 9, 12, 13)] :: Gw) ({ frames := 8, cells := 1, slots := 6, locals := 136 }) (va_Pc [.ref k0, .int p0, .ref o0] (mpre D [(aI, .int), (aL, .long), (aZ, .boolean)] [(k0, .inr (4, [.ref h4, .null, .null, .int powered, .int stepsDone])), (o0, .inl (aL, 1, .inr (.inl of)))] sz)) ((fun A : Nat → Prop => va_Qi (fun (r : Int32) (u : Int32 × (Nat → Int64)) => match u with | (u0, u1) => F_h_steps_0 stepsDone p0 of = (r, u0, u1)) (mpst D A (fun (u : Int32 × (Nat → Int64)) => match u with | (u0, u1) => [(k0, .inr (4, [.ref h4, .null, .null, .int powered, .int u0])), (o0, .inl (aL, 1, .inr (.inl u1)))])) A) (va_A ([(k0, .inr (4, [.ref h4, .null, .null, .int powered, .int stepsDone])), (o0, .inl (aL, 1, .inr (.inl of)))]) sz)) 1 6 (va_A ([(k0, .inr (4, [.ref h4, .null, .null, .int powered, .int stepsDone])), (o0, .inl (aL, 1, .inr (.inl of)))]) sz) := by
  refine enh (cc := cL_steps) (maxL := 4) (ret := (some .int)) (Qc := (fun A : Nat → Prop => va_Qi (fun (r : Int32) (u : Int32 × (Nat → Int64)) => match u with | (u0, u1) => F_h_steps_0 stepsDone p0 of = (r, u0, u1)) (mpst D A (fun (u : Int32 × (Nat → Int64)) => match u with | (u0, u1) => [(k0, .inr (4, [.ref h4, .null, .null, .int powered, .int u0])), (o0, .inl (aL, 1, .inr (.inl u1)))])) A)) (by decide) rfl (Nat.le_of_ble_eq_true rfl) ?_
  intro p e s m args below meth c A ls Q hQ hx hb hr hts hown hlk hnm hml htab hA hS hP hK hD hE hl
  have hown : s.vm.findClass RL = some m.cls := hown
  have hl : lv_has ls 4 [(0, .ref k0), (1, .int p0), (2, .ref o0)] := hl
  have hG := F_h_steps_0_u stepsDone p0 of
  refine lv_aload_n hx hb dL_steps_0 rfl (lv_at hl 2 rfl) ?_
  refine lv_iconst (v := 0) hx hb dL_steps_1 (by decide) ?_
  refine lv_aload_n hx hb dL_steps_2 rfl (lv_at hl 0 rfl) ?_
  refine lv_iload_n hx hb dL_steps_3 rfl (lv_at hl 1 rfl) ?_
  refine my_ci (wr := [(o0, .inl (aL, 1, .inr (.inl of)))]) [0] [1] (vx_runV (As := [.int p0]) (rest := [.int 0, .ref o0]) ⟨hx, hb, hml, hown, hts⟩ (c_steps_0 l hl9 D aI aL aZ _ k0 h4 powered stepsDone p0) (cwV 1 hts (gV w_499 w_500 w_501 w_35 w_502) rfl rfl rfl (by decide +kernel) ⟨Nat.le_of_ble_eq_true rfl, Nat.le_of_ble_eq_true rfl⟩) (prev_of hK hP hD hS hA hE [0] rfl (by decide) (ci := 4) rfl 0 rfl _) rfl rfl hl.1 rfl (lv_room (Nat.le_of_ble_eq_true rfl)) dL_steps_4 ⟨Nat.le_of_ble_eq_true rfl, Nat.le_of_ble_eq_true rfl⟩) hP hD hS hA rfl rfl (by decide) (by decide) (fun E ce q9 u H locs hw hEx hP hD hS hce hcv hcl => ?_) (fun r_1 u_ H locs hw_2 hP hD hS => ?_)
  · obtain ⟨hw, hu⟩ := hw
    have htab : c.exceptionTable.toList = [⟨0, 9, 12, 13⟩] := htab
    subst hu
    have hG := hG.trans (ch_1 hw)
    refine my_h1 (u := 1) hown htab (by decide) (by decide) (hts _ (mG w_105)) hE hEx hce hcv hcl ?_
    have hP : va_P D vwCl [(o0, .inl (aL, 1, .inr (.inl of))), (k0, .inr (4, [.ref h4, .null, .null, .int powered, .int stepsDone]))] H := hP
    have hD : va_D A [(o0, .inl (aL, 1, .inr (.inl of))), (k0, .inr (4, [.ref h4, .null, .null, .int powered, .int stepsDone]))] := hD
    refine lv_astore_n (lv' := [(3, .ref q9), (0, .ref k0), (1, .int p0), (2, .ref o0)]) hx hb dL_steps_12 rfl hl (by decide) rfl (fun ls hl => ?_)
    refine lv_iconst (v := 1) hx hb dL_steps_13 (by decide) ?_
    have hP := hP.sub (ws' := [(k0, .inr (4, [.ref h4, .null, .null, .int powered, .int stepsDone])), (o0, .inl (aL, 1, .inr (.inl of)))]) [1, 0] rfl
    have hD := hD.sub (ws' := [(k0, .inr (4, [.ref h4, .null, .null, .int powered, .int stepsDone])), (o0, .inl (aL, 1, .inr (.inl of)))]) [1, 0] (by decide) rfl
    exact rt_i hQ hx hb hr (stepsDone, of) hG hP hD hS (Nat.le_of_ble_eq_true rfl) (Nat.le_of_ble_eq_true rfl) dL_steps_14 hlk
  · skip
    have hw_2 : F_steps_0 stepsDone p0 = .inr r_1 := hw_2
    have hG := hG.trans (ch_r hw_2)
    have hP : va_P D vwCl [(o0, .inl (aL, 1, .inr (.inl of))), (k0, .inr (4, [.ref h4, .null, .null, .int powered, .int (stepsDone + p0)]))] H := hP
    have hD : va_D A [(o0, .inl (aL, 1, .inr (.inl of))), (k0, .inr (4, [.ref h4, .null, .null, .int powered, .int (stepsDone + p0)]))] := hD
    refine lv_i2l (v := (r_1).toInt64) hx hb dL_steps_7 rfl ?_
    refine va_last hx hb hK hP hD hS 0 1 rfl rfl (by unfold vp_in; decide) dL_steps_8 (fun H locs hP hD hS => ?_)
    have hP : va_P D vwCl [(o0, .inl (aL, 1, .inr (.inl (vp_updL of (0 : Int32).toNatClampNeg ((r_1).toInt64))))), (k0, .inr (4, [.ref h4, .null, .null, .int powered, .int (stepsDone + p0)]))] H := hP
    have hD : va_D A [(o0, .inl (aL, 1, .inr (.inl (vp_updL of (0 : Int32).toNatClampNeg ((r_1).toInt64))))), (k0, .inr (4, [.ref h4, .null, .null, .int powered, .int (stepsDone + p0)]))] := hD
    refine lv_goto (tgt := 15) hx hb dL_steps_9 (by decide) ?_
    refine lv_iconst (v := 0) hx hb dL_steps_15 (by decide) ?_
    have hP := hP.sub (ws' := [(k0, .inr (4, [.ref h4, .null, .null, .int powered, .int (stepsDone + p0)])), (o0, .inl (aL, 1, .inr (.inl (vp_updL of (0 : Int32).toNatClampNeg ((r_1).toInt64)))))]) [1, 0] rfl
    have hD := hD.sub (ws' := [(k0, .inr (4, [.ref h4, .null, .null, .int powered, .int (stepsDone + p0)])), (o0, .inl (aL, 1, .inr (.inl (vp_updL of (0 : Int32).toNatClampNeg ((r_1).toInt64)))))]) [1, 0] (by decide) rfl
    exact rt_i hQ hx hb hr ((stepsDone + p0), (vp_updL of (0 : Int32).toNatClampNeg ((r_1).toInt64))) hG hP hD hS (Nat.le_of_ble_eq_true rfl) (Nat.le_of_ble_eq_true rfl) dL_steps_16 hlk
def F_h_steps_1 (powered : Int32) (stepsDone : Int32) (n : Nat) (pf : Nat → Int32) (place : Int32) (speed : Int32) (way : Int32) (topSpeed : Int32) (gain : Int32) (brake : Int32) (darkSpeed : Int32) (rideSpeed : Int32) (kilos : Int32) (mostKilos : Int32) (openContacts : Int32) (fireFloor : Int32) (ride : Int32) (starts : Int32) (distance : Int32) (hardFalls : Int32) (dstate : Int32) (dplace : Int32) (dplaces : Int32) (dhold : Int32) (dsteps : Int32) (dbeam : Int32) (dob : Int32) (doc : Int32) (ccount : Int32) (cover : Int32) (cf : Nat → Int32) (p0 : Int32) (of : Nat → Int64) : Int32 × Int32 × Int32 × Int32 × Int32 × Int32 × Int32 × Int32 × Int32 × Int32 × Int32 × Int32 × Int32 × Int32 × Int32 × (Nat → Int32) × (Nat → Int64) :=
  ch (F_steps_1 powered stepsDone n pf place speed way topSpeed gain brake darkSpeed rideSpeed kilos mostKilos openContacts fireFloor ride starts distance hardFalls dstate dplace dplaces dhold dsteps dbeam dob doc ccount cover cf p0)
    ((1, stepsDone, place, speed, way, starts, distance, hardFalls, dstate, dplace, dsteps, dob, doc, ccount, cover, cf, of))
    ((1, stepsDone, place, speed, way, starts, distance, hardFalls, dstate, dplace, dsteps, dob, doc, ccount, cover, cf, of)) fun (r_1, x_2, x_3, x_4, x_5, x_6, x_7, x_8, x_9, x_10, x_11, x_12, x_13, x_14, x_15) =>
    (0, (stepsDone + p0), x_2, x_3, x_4, x_5, x_6, x_7, x_8, x_9, x_10, x_11, x_12, x_13, x_14, x_15, (vp_updL of (0 : Int32).toNatClampNeg ((r_1).toInt64)))
theorem F_h_steps_1_u (powered : Int32) (stepsDone : Int32) (n : Nat) (pf : Nat → Int32) (place : Int32) (speed : Int32) (way : Int32) (topSpeed : Int32) (gain : Int32) (brake : Int32) (darkSpeed : Int32) (rideSpeed : Int32) (kilos : Int32) (mostKilos : Int32) (openContacts : Int32) (fireFloor : Int32) (ride : Int32) (starts : Int32) (distance : Int32) (hardFalls : Int32) (dstate : Int32) (dplace : Int32) (dplaces : Int32) (dhold : Int32) (dsteps : Int32) (dbeam : Int32) (dob : Int32) (doc : Int32) (ccount : Int32) (cover : Int32) (cf : Nat → Int32) (p0 : Int32) (of : Nat → Int64) : F_h_steps_1 powered stepsDone n pf place speed way topSpeed gain brake darkSpeed rideSpeed kilos mostKilos openContacts fireFloor ride starts distance hardFalls dstate dplace dplaces dhold dsteps dbeam dob doc ccount cover cf p0 of =
  ((ch (F_steps_1 powered stepsDone n pf place speed way topSpeed gain brake darkSpeed rideSpeed kilos mostKilos openContacts fireFloor ride starts distance hardFalls dstate dplace dplaces dhold dsteps dbeam dob doc ccount cover cf p0)
    ((1, stepsDone, place, speed, way, starts, distance, hardFalls, dstate, dplace, dsteps, dob, doc, ccount, cover, cf, of))
    ((1, stepsDone, place, speed, way, starts, distance, hardFalls, dstate, dplace, dsteps, dob, doc, ccount, cover, cf, of)) fun (r_1, x_2, x_3, x_4, x_5, x_6, x_7, x_8, x_9, x_10, x_11, x_12, x_13, x_14, x_15) =>
    (0, (stepsDone + p0), x_2, x_3, x_4, x_5, x_6, x_7, x_8, x_9, x_10, x_11, x_12, x_13, x_14, x_15, (vp_updL of (0 : Int32).toNatClampNeg ((r_1).toInt64)))) : Int32 × Int32 × Int32 × Int32 × Int32 × Int32 × Int32 × Int32 × Int32 × Int32 × Int32 × Int32 × Int32 × Int32 × Int32 × (Nat → Int32) × (Nat → Int64)) := rfl
set_option maxHeartbeats 4000000 in
set_option maxRecDepth 100000 in
theorem c_h_steps_1 (l : Launch) (hl9 : l.stackTraces = false) (D : va_G) (aI aL aZ : ClassId) (sz : Nat) (k0 : Nat) (h4 : Nat) (powered : Int32) (stepsDone : Int32) (h5 : Nat) (gap : Int32) (n : Nat) (pf : Nat → Int32) (h0 : Nat) (h1 : Nat) (h2 : Nat) (h3 : Nat) (wayToOther : Int32) (place : Int32) (speed : Int32) (way : Int32) (topSpeed : Int32) (gain : Int32) (brake : Int32) (darkSpeed : Int32) (rideSpeed : Int32) (kilos : Int32) (mostKilos : Int32) (openContacts : Int32) (fireFloor : Int32) (ride : Int32) (starts : Int32) (distance : Int32) (hardFalls : Int32) (dstate : Int32) (dplace : Int32) (dplaces : Int32) (dhold : Int32) (dsteps : Int32) (dbeam : Int32) (dob : Int32) (doc : Int32) (ccount : Int32) (cover : Int32) (cf : Nat → Int32) (p0 : Int32) (o0 : Nat) (of : Nat → Int64) (hn : n < 2 ^ 31) (hn1 : 1 ≤ n) : Met l yL_steps (.codeWith yL_steps cL_steps 4 (some .int) [(0, 9, 12, 13)] :: Gw) ({ frames := 8, cells := 1, slots := 6, locals := 170 }) (va_Pc [.ref k0, .int p0, .ref o0] (mpre D [(aI, .int), (aL, .long), (aZ, .boolean)] [(k0, .inr (4, [.ref h4, .ref h0, .null, .int powered, .int stepsDone])), (h4, .inr (3, [.ref h5, .int gap])), (h5, .inl (aI, n, .inl pf)), (h0, .inr (1, [.int wayToOther, .ref h1, .ref h2, .int place, .int speed, .int way, .int topSpeed, .int gain, .int brake, .int darkSpeed, .int rideSpeed, .int kilos, .int mostKilos, .int openContacts, .int fireFloor, .int ride, .int starts, .int distance, .int hardFalls])), (h1, .inr (2, [.int dstate, .int dplace, .int dplaces, .int dhold, .int dsteps, .int dbeam, .int dob, .int doc])), (h2, .inr (0, [.ref h3, .int ccount, .int cover])), (h3, .inl (aI, 8, .inl cf)), (o0, .inl (aL, 1, .inr (.inl of)))] sz)) ((fun A : Nat → Prop => va_Qi (fun (r : Int32) (u : Int32 × Int32 × Int32 × Int32 × Int32 × Int32 × Int32 × Int32 × Int32 × Int32 × Int32 × Int32 × Int32 × Int32 × (Nat → Int32) × (Nat → Int64)) => match u with | (u0, u1, u2, u3, u4, u5, u6, u7, u8, u9, u10, u11, u12, u13, u14, u15) => F_h_steps_1 powered stepsDone n pf place speed way topSpeed gain brake darkSpeed rideSpeed kilos mostKilos openContacts fireFloor ride starts distance hardFalls dstate dplace dplaces dhold dsteps dbeam dob doc ccount cover cf p0 of = (r, u0, u1, u2, u3, u4, u5, u6, u7, u8, u9, u10, u11, u12, u13, u14, u15)) (mpst D A (fun (u : Int32 × Int32 × Int32 × Int32 × Int32 × Int32 × Int32 × Int32 × Int32 × Int32 × Int32 × Int32 × Int32 × Int32 × (Nat → Int32) × (Nat → Int64)) => match u with | (u0, u1, u2, u3, u4, u5, u6, u7, u8, u9, u10, u11, u12, u13, u14, u15) => [(k0, .inr (4, [.ref h4, .ref h0, .null, .int powered, .int u0])), (h4, .inr (3, [.ref h5, .int gap])), (h5, .inl (aI, n, .inl pf)), (h0, .inr (1, [.int wayToOther, .ref h1, .ref h2, .int u1, .int u2, .int u3, .int topSpeed, .int gain, .int brake, .int darkSpeed, .int rideSpeed, .int kilos, .int mostKilos, .int openContacts, .int fireFloor, .int ride, .int u4, .int u5, .int u6])), (h1, .inr (2, [.int u7, .int u8, .int dplaces, .int dhold, .int u9, .int dbeam, .int u10, .int u11])), (h2, .inr (0, [.ref h3, .int u12, .int u13])), (h3, .inl (aI, 8, .inl u14)), (o0, .inl (aL, 1, .inr (.inl u15)))])) A) (va_A ([(k0, .inr (4, [.ref h4, .ref h0, .null, .int powered, .int stepsDone])), (h4, .inr (3, [.ref h5, .int gap])), (h5, .inl (aI, n, .inl pf)), (h0, .inr (1, [.int wayToOther, .ref h1, .ref h2, .int place, .int speed, .int way, .int topSpeed, .int gain, .int brake, .int darkSpeed, .int rideSpeed, .int kilos, .int mostKilos, .int openContacts, .int fireFloor, .int ride, .int starts, .int distance, .int hardFalls])), (h1, .inr (2, [.int dstate, .int dplace, .int dplaces, .int dhold, .int dsteps, .int dbeam, .int dob, .int doc])), (h2, .inr (0, [.ref h3, .int ccount, .int cover])), (h3, .inl (aI, 8, .inl cf)), (o0, .inl (aL, 1, .inr (.inl of)))]) sz)) 1 6 (va_A ([(k0, .inr (4, [.ref h4, .ref h0, .null, .int powered, .int stepsDone])), (h4, .inr (3, [.ref h5, .int gap])), (h5, .inl (aI, n, .inl pf)), (h0, .inr (1, [.int wayToOther, .ref h1, .ref h2, .int place, .int speed, .int way, .int topSpeed, .int gain, .int brake, .int darkSpeed, .int rideSpeed, .int kilos, .int mostKilos, .int openContacts, .int fireFloor, .int ride, .int starts, .int distance, .int hardFalls])), (h1, .inr (2, [.int dstate, .int dplace, .int dplaces, .int dhold, .int dsteps, .int dbeam, .int dob, .int doc])), (h2, .inr (0, [.ref h3, .int ccount, .int cover])), (h3, .inl (aI, 8, .inl cf)), (o0, .inl (aL, 1, .inr (.inl of)))]) sz) := by
  refine enh (cc := cL_steps) (maxL := 4) (ret := (some .int)) (Qc := (fun A : Nat → Prop => va_Qi (fun (r : Int32) (u : Int32 × Int32 × Int32 × Int32 × Int32 × Int32 × Int32 × Int32 × Int32 × Int32 × Int32 × Int32 × Int32 × Int32 × (Nat → Int32) × (Nat → Int64)) => match u with | (u0, u1, u2, u3, u4, u5, u6, u7, u8, u9, u10, u11, u12, u13, u14, u15) => F_h_steps_1 powered stepsDone n pf place speed way topSpeed gain brake darkSpeed rideSpeed kilos mostKilos openContacts fireFloor ride starts distance hardFalls dstate dplace dplaces dhold dsteps dbeam dob doc ccount cover cf p0 of = (r, u0, u1, u2, u3, u4, u5, u6, u7, u8, u9, u10, u11, u12, u13, u14, u15)) (mpst D A (fun (u : Int32 × Int32 × Int32 × Int32 × Int32 × Int32 × Int32 × Int32 × Int32 × Int32 × Int32 × Int32 × Int32 × Int32 × (Nat → Int32) × (Nat → Int64)) => match u with | (u0, u1, u2, u3, u4, u5, u6, u7, u8, u9, u10, u11, u12, u13, u14, u15) => [(k0, .inr (4, [.ref h4, .ref h0, .null, .int powered, .int u0])), (h4, .inr (3, [.ref h5, .int gap])), (h5, .inl (aI, n, .inl pf)), (h0, .inr (1, [.int wayToOther, .ref h1, .ref h2, .int u1, .int u2, .int u3, .int topSpeed, .int gain, .int brake, .int darkSpeed, .int rideSpeed, .int kilos, .int mostKilos, .int openContacts, .int fireFloor, .int ride, .int u4, .int u5, .int u6])), (h1, .inr (2, [.int u7, .int u8, .int dplaces, .int dhold, .int u9, .int dbeam, .int u10, .int u11])), (h2, .inr (0, [.ref h3, .int u12, .int u13])), (h3, .inl (aI, 8, .inl u14)), (o0, .inl (aL, 1, .inr (.inl u15)))])) A)) (by decide) rfl (Nat.le_of_ble_eq_true rfl) ?_
  intro p e s m args below meth c A ls Q hQ hx hb hr hts hown hlk hnm hml htab hA hS hP hK hD hE hl
  have hown : s.vm.findClass RL = some m.cls := hown
  have hl : lv_has ls 4 [(0, .ref k0), (1, .int p0), (2, .ref o0)] := hl
  have hG := F_h_steps_1_u powered stepsDone n pf place speed way topSpeed gain brake darkSpeed rideSpeed kilos mostKilos openContacts fireFloor ride starts distance hardFalls dstate dplace dplaces dhold dsteps dbeam dob doc ccount cover cf p0 of
  refine lv_aload_n hx hb dL_steps_0 rfl (lv_at hl 2 rfl) ?_
  refine lv_iconst (v := 0) hx hb dL_steps_1 (by decide) ?_
  refine lv_aload_n hx hb dL_steps_2 rfl (lv_at hl 0 rfl) ?_
  refine lv_iload_n hx hb dL_steps_3 rfl (lv_at hl 1 rfl) ?_
  refine my_ci (wr := [(o0, .inl (aL, 1, .inr (.inl of)))]) [0, 1, 2, 3, 4, 5, 6] [7] (vx_runV (As := [.int p0]) (rest := [.int 0, .ref o0]) ⟨hx, hb, hml, hown, hts⟩ (c_steps_1 l hl9 D aI aL aZ _ k0 h4 powered stepsDone h5 gap n pf h0 h1 h2 h3 wayToOther place speed way topSpeed gain brake darkSpeed rideSpeed kilos mostKilos openContacts fireFloor ride starts distance hardFalls dstate dplace dplaces dhold dsteps dbeam dob doc ccount cover cf p0 hn hn1) (cwV 1 hts (gV w_499 w_500 w_501 w_35 w_502) rfl rfl rfl (by decide +kernel) ⟨Nat.le_of_ble_eq_true rfl, Nat.le_of_ble_eq_true rfl⟩) (prev_of hK hP hD hS hA hE [0, 1, 2, 3, 4, 5, 6] rfl (by decide) (ci := 4) rfl 0 rfl _) rfl rfl hl.1 rfl (lv_room (Nat.le_of_ble_eq_true rfl)) dL_steps_4 ⟨Nat.le_of_ble_eq_true rfl, Nat.le_of_ble_eq_true rfl⟩) hP hD hS hA rfl rfl (by decide) (by decide) (fun E ce q9 u H locs hw hEx hP hD hS hce hcv hcl => ?_) (fun r_1 u_ H locs hw_16 hP hD hS => ?_)
  · obtain ⟨hw, hu⟩ := hw
    have htab : c.exceptionTable.toList = [⟨0, 9, 12, 13⟩] := htab
    subst hu
    have hG := hG.trans (ch_1 hw)
    refine my_h1 (u := 1) hown htab (by decide) (by decide) (hts _ (mG w_105)) hE hEx hce hcv hcl ?_
    have hP : va_P D vwCl [(o0, .inl (aL, 1, .inr (.inl of))), (k0, .inr (4, [.ref h4, .ref h0, .null, .int powered, .int stepsDone])), (h4, .inr (3, [.ref h5, .int gap])), (h5, .inl (aI, n, .inl pf)), (h0, .inr (1, [.int wayToOther, .ref h1, .ref h2, .int place, .int speed, .int way, .int topSpeed, .int gain, .int brake, .int darkSpeed, .int rideSpeed, .int kilos, .int mostKilos, .int openContacts, .int fireFloor, .int ride, .int starts, .int distance, .int hardFalls])), (h1, .inr (2, [.int dstate, .int dplace, .int dplaces, .int dhold, .int dsteps, .int dbeam, .int dob, .int doc])), (h2, .inr (0, [.ref h3, .int ccount, .int cover])), (h3, .inl (aI, 8, .inl cf))] H := hP
    have hD : va_D A [(o0, .inl (aL, 1, .inr (.inl of))), (k0, .inr (4, [.ref h4, .ref h0, .null, .int powered, .int stepsDone])), (h4, .inr (3, [.ref h5, .int gap])), (h5, .inl (aI, n, .inl pf)), (h0, .inr (1, [.int wayToOther, .ref h1, .ref h2, .int place, .int speed, .int way, .int topSpeed, .int gain, .int brake, .int darkSpeed, .int rideSpeed, .int kilos, .int mostKilos, .int openContacts, .int fireFloor, .int ride, .int starts, .int distance, .int hardFalls])), (h1, .inr (2, [.int dstate, .int dplace, .int dplaces, .int dhold, .int dsteps, .int dbeam, .int dob, .int doc])), (h2, .inr (0, [.ref h3, .int ccount, .int cover])), (h3, .inl (aI, 8, .inl cf))] := hD
    refine lv_astore_n (lv' := [(3, .ref q9), (0, .ref k0), (1, .int p0), (2, .ref o0)]) hx hb dL_steps_12 rfl hl (by decide) rfl (fun ls hl => ?_)
    refine lv_iconst (v := 1) hx hb dL_steps_13 (by decide) ?_
    have hP := hP.sub (ws' := [(k0, .inr (4, [.ref h4, .ref h0, .null, .int powered, .int stepsDone])), (h4, .inr (3, [.ref h5, .int gap])), (h5, .inl (aI, n, .inl pf)), (h0, .inr (1, [.int wayToOther, .ref h1, .ref h2, .int place, .int speed, .int way, .int topSpeed, .int gain, .int brake, .int darkSpeed, .int rideSpeed, .int kilos, .int mostKilos, .int openContacts, .int fireFloor, .int ride, .int starts, .int distance, .int hardFalls])), (h1, .inr (2, [.int dstate, .int dplace, .int dplaces, .int dhold, .int dsteps, .int dbeam, .int dob, .int doc])), (h2, .inr (0, [.ref h3, .int ccount, .int cover])), (h3, .inl (aI, 8, .inl cf)), (o0, .inl (aL, 1, .inr (.inl of)))]) [1, 2, 3, 4, 5, 6, 7, 0] rfl
    have hD := hD.sub (ws' := [(k0, .inr (4, [.ref h4, .ref h0, .null, .int powered, .int stepsDone])), (h4, .inr (3, [.ref h5, .int gap])), (h5, .inl (aI, n, .inl pf)), (h0, .inr (1, [.int wayToOther, .ref h1, .ref h2, .int place, .int speed, .int way, .int topSpeed, .int gain, .int brake, .int darkSpeed, .int rideSpeed, .int kilos, .int mostKilos, .int openContacts, .int fireFloor, .int ride, .int starts, .int distance, .int hardFalls])), (h1, .inr (2, [.int dstate, .int dplace, .int dplaces, .int dhold, .int dsteps, .int dbeam, .int dob, .int doc])), (h2, .inr (0, [.ref h3, .int ccount, .int cover])), (h3, .inl (aI, 8, .inl cf)), (o0, .inl (aL, 1, .inr (.inl of)))]) [1, 2, 3, 4, 5, 6, 7, 0] (by decide) rfl
    exact rt_i hQ hx hb hr (stepsDone, place, speed, way, starts, distance, hardFalls, dstate, dplace, dsteps, dob, doc, ccount, cover, cf, of) hG hP hD hS (Nat.le_of_ble_eq_true rfl) (Nat.le_of_ble_eq_true rfl) dL_steps_14 hlk
  · skip
    obtain ⟨x_2, x_3, x_4, x_5, x_6, x_7, x_8, x_9, x_10, x_11, x_12, x_13, x_14, x_15⟩ := u_
    have hw_16 : F_steps_1 powered stepsDone n pf place speed way topSpeed gain brake darkSpeed rideSpeed kilos mostKilos openContacts fireFloor ride starts distance hardFalls dstate dplace dplaces dhold dsteps dbeam dob doc ccount cover cf p0 = .inr (r_1, x_2, x_3, x_4, x_5, x_6, x_7, x_8, x_9, x_10, x_11, x_12, x_13, x_14, x_15) := hw_16
    have hG := hG.trans (ch_r hw_16)
    have hP : va_P D vwCl [(o0, .inl (aL, 1, .inr (.inl of))), (k0, .inr (4, [.ref h4, .ref h0, .null, .int powered, .int (stepsDone + p0)])), (h4, .inr (3, [.ref h5, .int gap])), (h5, .inl (aI, n, .inl pf)), (h0, .inr (1, [.int wayToOther, .ref h1, .ref h2, .int x_2, .int x_3, .int x_4, .int topSpeed, .int gain, .int brake, .int darkSpeed, .int rideSpeed, .int kilos, .int mostKilos, .int openContacts, .int fireFloor, .int ride, .int x_5, .int x_6, .int x_7])), (h1, .inr (2, [.int x_8, .int x_9, .int dplaces, .int dhold, .int x_10, .int dbeam, .int x_11, .int x_12])), (h2, .inr (0, [.ref h3, .int x_13, .int x_14])), (h3, .inl (aI, 8, .inl x_15))] H := hP
    have hD : va_D A [(o0, .inl (aL, 1, .inr (.inl of))), (k0, .inr (4, [.ref h4, .ref h0, .null, .int powered, .int (stepsDone + p0)])), (h4, .inr (3, [.ref h5, .int gap])), (h5, .inl (aI, n, .inl pf)), (h0, .inr (1, [.int wayToOther, .ref h1, .ref h2, .int x_2, .int x_3, .int x_4, .int topSpeed, .int gain, .int brake, .int darkSpeed, .int rideSpeed, .int kilos, .int mostKilos, .int openContacts, .int fireFloor, .int ride, .int x_5, .int x_6, .int x_7])), (h1, .inr (2, [.int x_8, .int x_9, .int dplaces, .int dhold, .int x_10, .int dbeam, .int x_11, .int x_12])), (h2, .inr (0, [.ref h3, .int x_13, .int x_14])), (h3, .inl (aI, 8, .inl x_15))] := hD
    refine lv_i2l (v := (r_1).toInt64) hx hb dL_steps_7 rfl ?_
    refine va_last hx hb hK hP hD hS 0 1 rfl rfl (by unfold vp_in; decide) dL_steps_8 (fun H locs hP hD hS => ?_)
    have hP : va_P D vwCl [(o0, .inl (aL, 1, .inr (.inl (vp_updL of (0 : Int32).toNatClampNeg ((r_1).toInt64))))), (k0, .inr (4, [.ref h4, .ref h0, .null, .int powered, .int (stepsDone + p0)])), (h4, .inr (3, [.ref h5, .int gap])), (h5, .inl (aI, n, .inl pf)), (h0, .inr (1, [.int wayToOther, .ref h1, .ref h2, .int x_2, .int x_3, .int x_4, .int topSpeed, .int gain, .int brake, .int darkSpeed, .int rideSpeed, .int kilos, .int mostKilos, .int openContacts, .int fireFloor, .int ride, .int x_5, .int x_6, .int x_7])), (h1, .inr (2, [.int x_8, .int x_9, .int dplaces, .int dhold, .int x_10, .int dbeam, .int x_11, .int x_12])), (h2, .inr (0, [.ref h3, .int x_13, .int x_14])), (h3, .inl (aI, 8, .inl x_15))] H := hP
    have hD : va_D A [(o0, .inl (aL, 1, .inr (.inl (vp_updL of (0 : Int32).toNatClampNeg ((r_1).toInt64))))), (k0, .inr (4, [.ref h4, .ref h0, .null, .int powered, .int (stepsDone + p0)])), (h4, .inr (3, [.ref h5, .int gap])), (h5, .inl (aI, n, .inl pf)), (h0, .inr (1, [.int wayToOther, .ref h1, .ref h2, .int x_2, .int x_3, .int x_4, .int topSpeed, .int gain, .int brake, .int darkSpeed, .int rideSpeed, .int kilos, .int mostKilos, .int openContacts, .int fireFloor, .int ride, .int x_5, .int x_6, .int x_7])), (h1, .inr (2, [.int x_8, .int x_9, .int dplaces, .int dhold, .int x_10, .int dbeam, .int x_11, .int x_12])), (h2, .inr (0, [.ref h3, .int x_13, .int x_14])), (h3, .inl (aI, 8, .inl x_15))] := hD
    refine lv_goto (tgt := 15) hx hb dL_steps_9 (by decide) ?_
    refine lv_iconst (v := 0) hx hb dL_steps_15 (by decide) ?_
    have hP := hP.sub (ws' := [(k0, .inr (4, [.ref h4, .ref h0, .null, .int powered, .int (stepsDone + p0)])), (h4, .inr (3, [.ref h5, .int gap])), (h5, .inl (aI, n, .inl pf)), (h0, .inr (1, [.int wayToOther, .ref h1, .ref h2, .int x_2, .int x_3, .int x_4, .int topSpeed, .int gain, .int brake, .int darkSpeed, .int rideSpeed, .int kilos, .int mostKilos, .int openContacts, .int fireFloor, .int ride, .int x_5, .int x_6, .int x_7])), (h1, .inr (2, [.int x_8, .int x_9, .int dplaces, .int dhold, .int x_10, .int dbeam, .int x_11, .int x_12])), (h2, .inr (0, [.ref h3, .int x_13, .int x_14])), (h3, .inl (aI, 8, .inl x_15)), (o0, .inl (aL, 1, .inr (.inl (vp_updL of (0 : Int32).toNatClampNeg ((r_1).toInt64)))))]) [1, 2, 3, 4, 5, 6, 7, 0] rfl
    have hD := hD.sub (ws' := [(k0, .inr (4, [.ref h4, .ref h0, .null, .int powered, .int (stepsDone + p0)])), (h4, .inr (3, [.ref h5, .int gap])), (h5, .inl (aI, n, .inl pf)), (h0, .inr (1, [.int wayToOther, .ref h1, .ref h2, .int x_2, .int x_3, .int x_4, .int topSpeed, .int gain, .int brake, .int darkSpeed, .int rideSpeed, .int kilos, .int mostKilos, .int openContacts, .int fireFloor, .int ride, .int x_5, .int x_6, .int x_7])), (h1, .inr (2, [.int x_8, .int x_9, .int dplaces, .int dhold, .int x_10, .int dbeam, .int x_11, .int x_12])), (h2, .inr (0, [.ref h3, .int x_13, .int x_14])), (h3, .inl (aI, 8, .inl x_15)), (o0, .inl (aL, 1, .inr (.inl (vp_updL of (0 : Int32).toNatClampNeg ((r_1).toInt64)))))]) [1, 2, 3, 4, 5, 6, 7, 0] (by decide) rfl
    exact rt_i hQ hx hb hr ((stepsDone + p0), x_2, x_3, x_4, x_5, x_6, x_7, x_8, x_9, x_10, x_11, x_12, x_13, x_14, x_15, (vp_updL of (0 : Int32).toNatClampNeg ((r_1).toInt64))) hG hP hD hS (Nat.le_of_ble_eq_true rfl) (Nat.le_of_ble_eq_true rfl) dL_steps_16 hlk
def F_h_steps_2 (powered : Int32) (stepsDone : Int32) (gap : Int32) (n : Nat) (pf : Nat → Int32) (wayToOther : Int32) (place : Int32) (speed : Int32) (way : Int32) (topSpeed : Int32) (gain : Int32) (brake : Int32) (darkSpeed : Int32) (rideSpeed : Int32) (kilos : Int32) (mostKilos : Int32) (openContacts : Int32) (fireFloor : Int32) (ride : Int32) (starts : Int32) (distance : Int32) (hardFalls : Int32) (dstate : Int32) (dplace : Int32) (dplaces : Int32) (dhold : Int32) (dsteps : Int32) (dbeam : Int32) (dob : Int32) (doc : Int32) (ccount : Int32) (cover : Int32) (cf : Nat → Int32) (wayToOtherB : Int32) (placeB : Int32) (speedB : Int32) (wayB : Int32) (topSpeedB : Int32) (gainB : Int32) (brakeB : Int32) (darkSpeedB : Int32) (rideSpeedB : Int32) (kilosB : Int32) (mostKilosB : Int32) (openContactsB : Int32) (fireFloorB : Int32) (rideB : Int32) (startsB : Int32) (distanceB : Int32) (hardFallsB : Int32) (dstateB : Int32) (dplaceB : Int32) (dplacesB : Int32) (dholdB : Int32) (dstepsB : Int32) (dbeamB : Int32) (dobB : Int32) (docB : Int32) (ccountB : Int32) (coverB : Int32) (cfB : Nat → Int32) (p0 : Int32) (of : Nat → Int64) : Int32 × Int32 × Int32 × Int32 × Int32 × Int32 × Int32 × Int32 × Int32 × Int32 × Int32 × Int32 × Int32 × Int32 × Int32 × (Nat → Int32) × Int32 × Int32 × Int32 × Int32 × Int32 × Int32 × Int32 × Int32 × Int32 × Int32 × Int32 × Int32 × Int32 × (Nat → Int32) × (Nat → Int64) :=
  ch (F_steps_2 powered stepsDone gap n pf wayToOther place speed way topSpeed gain brake darkSpeed rideSpeed kilos mostKilos openContacts fireFloor ride starts distance hardFalls dstate dplace dplaces dhold dsteps dbeam dob doc ccount cover cf wayToOtherB placeB speedB wayB topSpeedB gainB brakeB darkSpeedB rideSpeedB kilosB mostKilosB openContactsB fireFloorB rideB startsB distanceB hardFallsB dstateB dplaceB dplacesB dholdB dstepsB dbeamB dobB docB ccountB coverB cfB p0)
    ((1, stepsDone, place, speed, way, starts, distance, hardFalls, dstate, dplace, dsteps, dob, doc, ccount, cover, cf, placeB, speedB, wayB, startsB, distanceB, hardFallsB, dstateB, dplaceB, dstepsB, dobB, docB, ccountB, coverB, cfB, of))
    ((1, stepsDone, place, speed, way, starts, distance, hardFalls, dstate, dplace, dsteps, dob, doc, ccount, cover, cf, placeB, speedB, wayB, startsB, distanceB, hardFallsB, dstateB, dplaceB, dstepsB, dobB, docB, ccountB, coverB, cfB, of)) fun (r_1, x_2, x_3, x_4, x_5, x_6, x_7, x_8, x_9, x_10, x_11, x_12, x_13, x_14, x_15, x_16, x_17, x_18, x_19, x_20, x_21, x_22, x_23, x_24, x_25, x_26, x_27, x_28, x_29) =>
    (0, (stepsDone + p0), x_2, x_3, x_4, x_5, x_6, x_7, x_8, x_9, x_10, x_11, x_12, x_13, x_14, x_15, x_16, x_17, x_18, x_19, x_20, x_21, x_22, x_23, x_24, x_25, x_26, x_27, x_28, x_29, (vp_updL of (0 : Int32).toNatClampNeg ((r_1).toInt64)))
theorem F_h_steps_2_u (powered : Int32) (stepsDone : Int32) (gap : Int32) (n : Nat) (pf : Nat → Int32) (wayToOther : Int32) (place : Int32) (speed : Int32) (way : Int32) (topSpeed : Int32) (gain : Int32) (brake : Int32) (darkSpeed : Int32) (rideSpeed : Int32) (kilos : Int32) (mostKilos : Int32) (openContacts : Int32) (fireFloor : Int32) (ride : Int32) (starts : Int32) (distance : Int32) (hardFalls : Int32) (dstate : Int32) (dplace : Int32) (dplaces : Int32) (dhold : Int32) (dsteps : Int32) (dbeam : Int32) (dob : Int32) (doc : Int32) (ccount : Int32) (cover : Int32) (cf : Nat → Int32) (wayToOtherB : Int32) (placeB : Int32) (speedB : Int32) (wayB : Int32) (topSpeedB : Int32) (gainB : Int32) (brakeB : Int32) (darkSpeedB : Int32) (rideSpeedB : Int32) (kilosB : Int32) (mostKilosB : Int32) (openContactsB : Int32) (fireFloorB : Int32) (rideB : Int32) (startsB : Int32) (distanceB : Int32) (hardFallsB : Int32) (dstateB : Int32) (dplaceB : Int32) (dplacesB : Int32) (dholdB : Int32) (dstepsB : Int32) (dbeamB : Int32) (dobB : Int32) (docB : Int32) (ccountB : Int32) (coverB : Int32) (cfB : Nat → Int32) (p0 : Int32) (of : Nat → Int64) : F_h_steps_2 powered stepsDone gap n pf wayToOther place speed way topSpeed gain brake darkSpeed rideSpeed kilos mostKilos openContacts fireFloor ride starts distance hardFalls dstate dplace dplaces dhold dsteps dbeam dob doc ccount cover cf wayToOtherB placeB speedB wayB topSpeedB gainB brakeB darkSpeedB rideSpeedB kilosB mostKilosB openContactsB fireFloorB rideB startsB distanceB hardFallsB dstateB dplaceB dplacesB dholdB dstepsB dbeamB dobB docB ccountB coverB cfB p0 of =
  ((ch (F_steps_2 powered stepsDone gap n pf wayToOther place speed way topSpeed gain brake darkSpeed rideSpeed kilos mostKilos openContacts fireFloor ride starts distance hardFalls dstate dplace dplaces dhold dsteps dbeam dob doc ccount cover cf wayToOtherB placeB speedB wayB topSpeedB gainB brakeB darkSpeedB rideSpeedB kilosB mostKilosB openContactsB fireFloorB rideB startsB distanceB hardFallsB dstateB dplaceB dplacesB dholdB dstepsB dbeamB dobB docB ccountB coverB cfB p0)
    ((1, stepsDone, place, speed, way, starts, distance, hardFalls, dstate, dplace, dsteps, dob, doc, ccount, cover, cf, placeB, speedB, wayB, startsB, distanceB, hardFallsB, dstateB, dplaceB, dstepsB, dobB, docB, ccountB, coverB, cfB, of))
    ((1, stepsDone, place, speed, way, starts, distance, hardFalls, dstate, dplace, dsteps, dob, doc, ccount, cover, cf, placeB, speedB, wayB, startsB, distanceB, hardFallsB, dstateB, dplaceB, dstepsB, dobB, docB, ccountB, coverB, cfB, of)) fun (r_1, x_2, x_3, x_4, x_5, x_6, x_7, x_8, x_9, x_10, x_11, x_12, x_13, x_14, x_15, x_16, x_17, x_18, x_19, x_20, x_21, x_22, x_23, x_24, x_25, x_26, x_27, x_28, x_29) =>
    (0, (stepsDone + p0), x_2, x_3, x_4, x_5, x_6, x_7, x_8, x_9, x_10, x_11, x_12, x_13, x_14, x_15, x_16, x_17, x_18, x_19, x_20, x_21, x_22, x_23, x_24, x_25, x_26, x_27, x_28, x_29, (vp_updL of (0 : Int32).toNatClampNeg ((r_1).toInt64)))) : Int32 × Int32 × Int32 × Int32 × Int32 × Int32 × Int32 × Int32 × Int32 × Int32 × Int32 × Int32 × Int32 × Int32 × Int32 × (Nat → Int32) × Int32 × Int32 × Int32 × Int32 × Int32 × Int32 × Int32 × Int32 × Int32 × Int32 × Int32 × Int32 × Int32 × (Nat → Int32) × (Nat → Int64)) := rfl
set_option maxHeartbeats 4000000 in
set_option maxRecDepth 100000 in
theorem c_h_steps_2 (l : Launch) (hl9 : l.stackTraces = false) (D : va_G) (aI aL aZ : ClassId) (sz : Nat) (k0 : Nat) (h4 : Nat) (powered : Int32) (stepsDone : Int32) (h5 : Nat) (gap : Int32) (n : Nat) (pf : Nat → Int32) (h0 : Nat) (h1 : Nat) (h2 : Nat) (h3 : Nat) (wayToOther : Int32) (place : Int32) (speed : Int32) (way : Int32) (topSpeed : Int32) (gain : Int32) (brake : Int32) (darkSpeed : Int32) (rideSpeed : Int32) (kilos : Int32) (mostKilos : Int32) (openContacts : Int32) (fireFloor : Int32) (ride : Int32) (starts : Int32) (distance : Int32) (hardFalls : Int32) (dstate : Int32) (dplace : Int32) (dplaces : Int32) (dhold : Int32) (dsteps : Int32) (dbeam : Int32) (dob : Int32) (doc : Int32) (ccount : Int32) (cover : Int32) (cf : Nat → Int32) (g0 : Nat) (g1 : Nat) (g2 : Nat) (g3 : Nat) (wayToOtherB : Int32) (placeB : Int32) (speedB : Int32) (wayB : Int32) (topSpeedB : Int32) (gainB : Int32) (brakeB : Int32) (darkSpeedB : Int32) (rideSpeedB : Int32) (kilosB : Int32) (mostKilosB : Int32) (openContactsB : Int32) (fireFloorB : Int32) (rideB : Int32) (startsB : Int32) (distanceB : Int32) (hardFallsB : Int32) (dstateB : Int32) (dplaceB : Int32) (dplacesB : Int32) (dholdB : Int32) (dstepsB : Int32) (dbeamB : Int32) (dobB : Int32) (docB : Int32) (ccountB : Int32) (coverB : Int32) (cfB : Nat → Int32) (p0 : Int32) (o0 : Nat) (of : Nat → Int64) (hn : n < 2 ^ 31) (hn1 : 1 ≤ n) : Met l yL_steps (.codeWith yL_steps cL_steps 4 (some .int) [(0, 9, 12, 13)] :: Gw) ({ frames := 8, cells := 1, slots := 6, locals := 170 }) (va_Pc [.ref k0, .int p0, .ref o0] (mpre D [(aI, .int), (aL, .long), (aZ, .boolean)] [(k0, .inr (4, [.ref h4, .ref h0, .ref g0, .int powered, .int stepsDone])), (h4, .inr (3, [.ref h5, .int gap])), (h5, .inl (aI, n, .inl pf)), (h0, .inr (1, [.int wayToOther, .ref h1, .ref h2, .int place, .int speed, .int way, .int topSpeed, .int gain, .int brake, .int darkSpeed, .int rideSpeed, .int kilos, .int mostKilos, .int openContacts, .int fireFloor, .int ride, .int starts, .int distance, .int hardFalls])), (h1, .inr (2, [.int dstate, .int dplace, .int dplaces, .int dhold, .int dsteps, .int dbeam, .int dob, .int doc])), (h2, .inr (0, [.ref h3, .int ccount, .int cover])), (h3, .inl (aI, 8, .inl cf)), (g0, .inr (1, [.int wayToOtherB, .ref g1, .ref g2, .int placeB, .int speedB, .int wayB, .int topSpeedB, .int gainB, .int brakeB, .int darkSpeedB, .int rideSpeedB, .int kilosB, .int mostKilosB, .int openContactsB, .int fireFloorB, .int rideB, .int startsB, .int distanceB, .int hardFallsB])), (g1, .inr (2, [.int dstateB, .int dplaceB, .int dplacesB, .int dholdB, .int dstepsB, .int dbeamB, .int dobB, .int docB])), (g2, .inr (0, [.ref g3, .int ccountB, .int coverB])), (g3, .inl (aI, 8, .inl cfB)), (o0, .inl (aL, 1, .inr (.inl of)))] sz)) ((fun A : Nat → Prop => va_Qi (fun (r : Int32) (u : Int32 × Int32 × Int32 × Int32 × Int32 × Int32 × Int32 × Int32 × Int32 × Int32 × Int32 × Int32 × Int32 × Int32 × (Nat → Int32) × Int32 × Int32 × Int32 × Int32 × Int32 × Int32 × Int32 × Int32 × Int32 × Int32 × Int32 × Int32 × Int32 × (Nat → Int32) × (Nat → Int64)) => match u with | (u0, u1, u2, u3, u4, u5, u6, u7, u8, u9, u10, u11, u12, u13, u14, u15, u16, u17, u18, u19, u20, u21, u22, u23, u24, u25, u26, u27, u28, u29) => F_h_steps_2 powered stepsDone gap n pf wayToOther place speed way topSpeed gain brake darkSpeed rideSpeed kilos mostKilos openContacts fireFloor ride starts distance hardFalls dstate dplace dplaces dhold dsteps dbeam dob doc ccount cover cf wayToOtherB placeB speedB wayB topSpeedB gainB brakeB darkSpeedB rideSpeedB kilosB mostKilosB openContactsB fireFloorB rideB startsB distanceB hardFallsB dstateB dplaceB dplacesB dholdB dstepsB dbeamB dobB docB ccountB coverB cfB p0 of = (r, u0, u1, u2, u3, u4, u5, u6, u7, u8, u9, u10, u11, u12, u13, u14, u15, u16, u17, u18, u19, u20, u21, u22, u23, u24, u25, u26, u27, u28, u29)) (mpst D A (fun (u : Int32 × Int32 × Int32 × Int32 × Int32 × Int32 × Int32 × Int32 × Int32 × Int32 × Int32 × Int32 × Int32 × Int32 × (Nat → Int32) × Int32 × Int32 × Int32 × Int32 × Int32 × Int32 × Int32 × Int32 × Int32 × Int32 × Int32 × Int32 × Int32 × (Nat → Int32) × (Nat → Int64)) => match u with | (u0, u1, u2, u3, u4, u5, u6, u7, u8, u9, u10, u11, u12, u13, u14, u15, u16, u17, u18, u19, u20, u21, u22, u23, u24, u25, u26, u27, u28, u29) => [(k0, .inr (4, [.ref h4, .ref h0, .ref g0, .int powered, .int u0])), (h4, .inr (3, [.ref h5, .int gap])), (h5, .inl (aI, n, .inl pf)), (h0, .inr (1, [.int wayToOther, .ref h1, .ref h2, .int u1, .int u2, .int u3, .int topSpeed, .int gain, .int brake, .int darkSpeed, .int rideSpeed, .int kilos, .int mostKilos, .int openContacts, .int fireFloor, .int ride, .int u4, .int u5, .int u6])), (h1, .inr (2, [.int u7, .int u8, .int dplaces, .int dhold, .int u9, .int dbeam, .int u10, .int u11])), (h2, .inr (0, [.ref h3, .int u12, .int u13])), (h3, .inl (aI, 8, .inl u14)), (g0, .inr (1, [.int wayToOtherB, .ref g1, .ref g2, .int u15, .int u16, .int u17, .int topSpeedB, .int gainB, .int brakeB, .int darkSpeedB, .int rideSpeedB, .int kilosB, .int mostKilosB, .int openContactsB, .int fireFloorB, .int rideB, .int u18, .int u19, .int u20])), (g1, .inr (2, [.int u21, .int u22, .int dplacesB, .int dholdB, .int u23, .int dbeamB, .int u24, .int u25])), (g2, .inr (0, [.ref g3, .int u26, .int u27])), (g3, .inl (aI, 8, .inl u28)), (o0, .inl (aL, 1, .inr (.inl u29)))])) A) (va_A ([(k0, .inr (4, [.ref h4, .ref h0, .ref g0, .int powered, .int stepsDone])), (h4, .inr (3, [.ref h5, .int gap])), (h5, .inl (aI, n, .inl pf)), (h0, .inr (1, [.int wayToOther, .ref h1, .ref h2, .int place, .int speed, .int way, .int topSpeed, .int gain, .int brake, .int darkSpeed, .int rideSpeed, .int kilos, .int mostKilos, .int openContacts, .int fireFloor, .int ride, .int starts, .int distance, .int hardFalls])), (h1, .inr (2, [.int dstate, .int dplace, .int dplaces, .int dhold, .int dsteps, .int dbeam, .int dob, .int doc])), (h2, .inr (0, [.ref h3, .int ccount, .int cover])), (h3, .inl (aI, 8, .inl cf)), (g0, .inr (1, [.int wayToOtherB, .ref g1, .ref g2, .int placeB, .int speedB, .int wayB, .int topSpeedB, .int gainB, .int brakeB, .int darkSpeedB, .int rideSpeedB, .int kilosB, .int mostKilosB, .int openContactsB, .int fireFloorB, .int rideB, .int startsB, .int distanceB, .int hardFallsB])), (g1, .inr (2, [.int dstateB, .int dplaceB, .int dplacesB, .int dholdB, .int dstepsB, .int dbeamB, .int dobB, .int docB])), (g2, .inr (0, [.ref g3, .int ccountB, .int coverB])), (g3, .inl (aI, 8, .inl cfB)), (o0, .inl (aL, 1, .inr (.inl of)))]) sz)) 1 6 (va_A ([(k0, .inr (4, [.ref h4, .ref h0, .ref g0, .int powered, .int stepsDone])), (h4, .inr (3, [.ref h5, .int gap])), (h5, .inl (aI, n, .inl pf)), (h0, .inr (1, [.int wayToOther, .ref h1, .ref h2, .int place, .int speed, .int way, .int topSpeed, .int gain, .int brake, .int darkSpeed, .int rideSpeed, .int kilos, .int mostKilos, .int openContacts, .int fireFloor, .int ride, .int starts, .int distance, .int hardFalls])), (h1, .inr (2, [.int dstate, .int dplace, .int dplaces, .int dhold, .int dsteps, .int dbeam, .int dob, .int doc])), (h2, .inr (0, [.ref h3, .int ccount, .int cover])), (h3, .inl (aI, 8, .inl cf)), (g0, .inr (1, [.int wayToOtherB, .ref g1, .ref g2, .int placeB, .int speedB, .int wayB, .int topSpeedB, .int gainB, .int brakeB, .int darkSpeedB, .int rideSpeedB, .int kilosB, .int mostKilosB, .int openContactsB, .int fireFloorB, .int rideB, .int startsB, .int distanceB, .int hardFallsB])), (g1, .inr (2, [.int dstateB, .int dplaceB, .int dplacesB, .int dholdB, .int dstepsB, .int dbeamB, .int dobB, .int docB])), (g2, .inr (0, [.ref g3, .int ccountB, .int coverB])), (g3, .inl (aI, 8, .inl cfB)), (o0, .inl (aL, 1, .inr (.inl of)))]) sz) := by
  refine enh (cc := cL_steps) (maxL := 4) (ret := (some .int)) (Qc := (fun A : Nat → Prop => va_Qi (fun (r : Int32) (u : Int32 × Int32 × Int32 × Int32 × Int32 × Int32 × Int32 × Int32 × Int32 × Int32 × Int32 × Int32 × Int32 × Int32 × (Nat → Int32) × Int32 × Int32 × Int32 × Int32 × Int32 × Int32 × Int32 × Int32 × Int32 × Int32 × Int32 × Int32 × Int32 × (Nat → Int32) × (Nat → Int64)) => match u with | (u0, u1, u2, u3, u4, u5, u6, u7, u8, u9, u10, u11, u12, u13, u14, u15, u16, u17, u18, u19, u20, u21, u22, u23, u24, u25, u26, u27, u28, u29) => F_h_steps_2 powered stepsDone gap n pf wayToOther place speed way topSpeed gain brake darkSpeed rideSpeed kilos mostKilos openContacts fireFloor ride starts distance hardFalls dstate dplace dplaces dhold dsteps dbeam dob doc ccount cover cf wayToOtherB placeB speedB wayB topSpeedB gainB brakeB darkSpeedB rideSpeedB kilosB mostKilosB openContactsB fireFloorB rideB startsB distanceB hardFallsB dstateB dplaceB dplacesB dholdB dstepsB dbeamB dobB docB ccountB coverB cfB p0 of = (r, u0, u1, u2, u3, u4, u5, u6, u7, u8, u9, u10, u11, u12, u13, u14, u15, u16, u17, u18, u19, u20, u21, u22, u23, u24, u25, u26, u27, u28, u29)) (mpst D A (fun (u : Int32 × Int32 × Int32 × Int32 × Int32 × Int32 × Int32 × Int32 × Int32 × Int32 × Int32 × Int32 × Int32 × Int32 × (Nat → Int32) × Int32 × Int32 × Int32 × Int32 × Int32 × Int32 × Int32 × Int32 × Int32 × Int32 × Int32 × Int32 × Int32 × (Nat → Int32) × (Nat → Int64)) => match u with | (u0, u1, u2, u3, u4, u5, u6, u7, u8, u9, u10, u11, u12, u13, u14, u15, u16, u17, u18, u19, u20, u21, u22, u23, u24, u25, u26, u27, u28, u29) => [(k0, .inr (4, [.ref h4, .ref h0, .ref g0, .int powered, .int u0])), (h4, .inr (3, [.ref h5, .int gap])), (h5, .inl (aI, n, .inl pf)), (h0, .inr (1, [.int wayToOther, .ref h1, .ref h2, .int u1, .int u2, .int u3, .int topSpeed, .int gain, .int brake, .int darkSpeed, .int rideSpeed, .int kilos, .int mostKilos, .int openContacts, .int fireFloor, .int ride, .int u4, .int u5, .int u6])), (h1, .inr (2, [.int u7, .int u8, .int dplaces, .int dhold, .int u9, .int dbeam, .int u10, .int u11])), (h2, .inr (0, [.ref h3, .int u12, .int u13])), (h3, .inl (aI, 8, .inl u14)), (g0, .inr (1, [.int wayToOtherB, .ref g1, .ref g2, .int u15, .int u16, .int u17, .int topSpeedB, .int gainB, .int brakeB, .int darkSpeedB, .int rideSpeedB, .int kilosB, .int mostKilosB, .int openContactsB, .int fireFloorB, .int rideB, .int u18, .int u19, .int u20])), (g1, .inr (2, [.int u21, .int u22, .int dplacesB, .int dholdB, .int u23, .int dbeamB, .int u24, .int u25])), (g2, .inr (0, [.ref g3, .int u26, .int u27])), (g3, .inl (aI, 8, .inl u28)), (o0, .inl (aL, 1, .inr (.inl u29)))])) A)) (by decide) rfl (Nat.le_of_ble_eq_true rfl) ?_
  intro p e s m args below meth c A ls Q hQ hx hb hr hts hown hlk hnm hml htab hA hS hP hK hD hE hl
  have hown : s.vm.findClass RL = some m.cls := hown
  have hl : lv_has ls 4 [(0, .ref k0), (1, .int p0), (2, .ref o0)] := hl
  have hG := F_h_steps_2_u powered stepsDone gap n pf wayToOther place speed way topSpeed gain brake darkSpeed rideSpeed kilos mostKilos openContacts fireFloor ride starts distance hardFalls dstate dplace dplaces dhold dsteps dbeam dob doc ccount cover cf wayToOtherB placeB speedB wayB topSpeedB gainB brakeB darkSpeedB rideSpeedB kilosB mostKilosB openContactsB fireFloorB rideB startsB distanceB hardFallsB dstateB dplaceB dplacesB dholdB dstepsB dbeamB dobB docB ccountB coverB cfB p0 of
  refine lv_aload_n hx hb dL_steps_0 rfl (lv_at hl 2 rfl) ?_
  refine lv_iconst (v := 0) hx hb dL_steps_1 (by decide) ?_
  refine lv_aload_n hx hb dL_steps_2 rfl (lv_at hl 0 rfl) ?_
  refine lv_iload_n hx hb dL_steps_3 rfl (lv_at hl 1 rfl) ?_
  refine my_ci (wr := [(o0, .inl (aL, 1, .inr (.inl of)))]) [0, 1, 2, 3, 4, 5, 6, 7, 8, 9, 10] [11] (vx_runV (As := [.int p0]) (rest := [.int 0, .ref o0]) ⟨hx, hb, hml, hown, hts⟩ (c_steps_2 l hl9 D aI aL aZ _ k0 h4 powered stepsDone h5 gap n pf h0 h1 h2 h3 wayToOther place speed way topSpeed gain brake darkSpeed rideSpeed kilos mostKilos openContacts fireFloor ride starts distance hardFalls dstate dplace dplaces dhold dsteps dbeam dob doc ccount cover cf g0 g1 g2 g3 wayToOtherB placeB speedB wayB topSpeedB gainB brakeB darkSpeedB rideSpeedB kilosB mostKilosB openContactsB fireFloorB rideB startsB distanceB hardFallsB dstateB dplaceB dplacesB dholdB dstepsB dbeamB dobB docB ccountB coverB cfB p0 hn hn1) (cwV 1 hts (gV w_499 w_500 w_501 w_35 w_502) rfl rfl rfl (by decide +kernel) ⟨Nat.le_of_ble_eq_true rfl, Nat.le_of_ble_eq_true rfl⟩) (prev_of hK hP hD hS hA hE [0, 1, 2, 3, 4, 5, 6, 7, 8, 9, 10] rfl (by decide) (ci := 4) rfl 0 rfl _) rfl rfl hl.1 rfl (lv_room (Nat.le_of_ble_eq_true rfl)) dL_steps_4 ⟨Nat.le_of_ble_eq_true rfl, Nat.le_of_ble_eq_true rfl⟩) hP hD hS hA rfl rfl (by decide) (by decide) (fun E ce q9 u H locs hw hEx hP hD hS hce hcv hcl => ?_) (fun r_1 u_ H locs hw_30 hP hD hS => ?_)
  · obtain ⟨hw, hu⟩ := hw
    have htab : c.exceptionTable.toList = [⟨0, 9, 12, 13⟩] := htab
    subst hu
    have hG := hG.trans (ch_1 hw)
    refine my_h1 (u := 1) hown htab (by decide) (by decide) (hts _ (mG w_105)) hE hEx hce hcv hcl ?_
    have hP : va_P D vwCl [(o0, .inl (aL, 1, .inr (.inl of))), (k0, .inr (4, [.ref h4, .ref h0, .ref g0, .int powered, .int stepsDone])), (h4, .inr (3, [.ref h5, .int gap])), (h5, .inl (aI, n, .inl pf)), (h0, .inr (1, [.int wayToOther, .ref h1, .ref h2, .int place, .int speed, .int way, .int topSpeed, .int gain, .int brake, .int darkSpeed, .int rideSpeed, .int kilos, .int mostKilos, .int openContacts, .int fireFloor, .int ride, .int starts, .int distance, .int hardFalls])), (h1, .inr (2, [.int dstate, .int dplace, .int dplaces, .int dhold, .int dsteps, .int dbeam, .int dob, .int doc])), (h2, .inr (0, [.ref h3, .int ccount, .int cover])), (h3, .inl (aI, 8, .inl cf)), (g0, .inr (1, [.int wayToOtherB, .ref g1, .ref g2, .int placeB, .int speedB, .int wayB, .int topSpeedB, .int gainB, .int brakeB, .int darkSpeedB, .int rideSpeedB, .int kilosB, .int mostKilosB, .int openContactsB, .int fireFloorB, .int rideB, .int startsB, .int distanceB, .int hardFallsB])), (g1, .inr (2, [.int dstateB, .int dplaceB, .int dplacesB, .int dholdB, .int dstepsB, .int dbeamB, .int dobB, .int docB])), (g2, .inr (0, [.ref g3, .int ccountB, .int coverB])), (g3, .inl (aI, 8, .inl cfB))] H := hP
    have hD : va_D A [(o0, .inl (aL, 1, .inr (.inl of))), (k0, .inr (4, [.ref h4, .ref h0, .ref g0, .int powered, .int stepsDone])), (h4, .inr (3, [.ref h5, .int gap])), (h5, .inl (aI, n, .inl pf)), (h0, .inr (1, [.int wayToOther, .ref h1, .ref h2, .int place, .int speed, .int way, .int topSpeed, .int gain, .int brake, .int darkSpeed, .int rideSpeed, .int kilos, .int mostKilos, .int openContacts, .int fireFloor, .int ride, .int starts, .int distance, .int hardFalls])), (h1, .inr (2, [.int dstate, .int dplace, .int dplaces, .int dhold, .int dsteps, .int dbeam, .int dob, .int doc])), (h2, .inr (0, [.ref h3, .int ccount, .int cover])), (h3, .inl (aI, 8, .inl cf)), (g0, .inr (1, [.int wayToOtherB, .ref g1, .ref g2, .int placeB, .int speedB, .int wayB, .int topSpeedB, .int gainB, .int brakeB, .int darkSpeedB, .int rideSpeedB, .int kilosB, .int mostKilosB, .int openContactsB, .int fireFloorB, .int rideB, .int startsB, .int distanceB, .int hardFallsB])), (g1, .inr (2, [.int dstateB, .int dplaceB, .int dplacesB, .int dholdB, .int dstepsB, .int dbeamB, .int dobB, .int docB])), (g2, .inr (0, [.ref g3, .int ccountB, .int coverB])), (g3, .inl (aI, 8, .inl cfB))] := hD
    refine lv_astore_n (lv' := [(3, .ref q9), (0, .ref k0), (1, .int p0), (2, .ref o0)]) hx hb dL_steps_12 rfl hl (by decide) rfl (fun ls hl => ?_)
    refine lv_iconst (v := 1) hx hb dL_steps_13 (by decide) ?_
    have hP := hP.sub (ws' := [(k0, .inr (4, [.ref h4, .ref h0, .ref g0, .int powered, .int stepsDone])), (h4, .inr (3, [.ref h5, .int gap])), (h5, .inl (aI, n, .inl pf)), (h0, .inr (1, [.int wayToOther, .ref h1, .ref h2, .int place, .int speed, .int way, .int topSpeed, .int gain, .int brake, .int darkSpeed, .int rideSpeed, .int kilos, .int mostKilos, .int openContacts, .int fireFloor, .int ride, .int starts, .int distance, .int hardFalls])), (h1, .inr (2, [.int dstate, .int dplace, .int dplaces, .int dhold, .int dsteps, .int dbeam, .int dob, .int doc])), (h2, .inr (0, [.ref h3, .int ccount, .int cover])), (h3, .inl (aI, 8, .inl cf)), (g0, .inr (1, [.int wayToOtherB, .ref g1, .ref g2, .int placeB, .int speedB, .int wayB, .int topSpeedB, .int gainB, .int brakeB, .int darkSpeedB, .int rideSpeedB, .int kilosB, .int mostKilosB, .int openContactsB, .int fireFloorB, .int rideB, .int startsB, .int distanceB, .int hardFallsB])), (g1, .inr (2, [.int dstateB, .int dplaceB, .int dplacesB, .int dholdB, .int dstepsB, .int dbeamB, .int dobB, .int docB])), (g2, .inr (0, [.ref g3, .int ccountB, .int coverB])), (g3, .inl (aI, 8, .inl cfB)), (o0, .inl (aL, 1, .inr (.inl of)))]) [1, 2, 3, 4, 5, 6, 7, 8, 9, 10, 11, 0] rfl
    have hD := hD.sub (ws' := [(k0, .inr (4, [.ref h4, .ref h0, .ref g0, .int powered, .int stepsDone])), (h4, .inr (3, [.ref h5, .int gap])), (h5, .inl (aI, n, .inl pf)), (h0, .inr (1, [.int wayToOther, .ref h1, .ref h2, .int place, .int speed, .int way, .int topSpeed, .int gain, .int brake, .int darkSpeed, .int rideSpeed, .int kilos, .int mostKilos, .int openContacts, .int fireFloor, .int ride, .int starts, .int distance, .int hardFalls])), (h1, .inr (2, [.int dstate, .int dplace, .int dplaces, .int dhold, .int dsteps, .int dbeam, .int dob, .int doc])), (h2, .inr (0, [.ref h3, .int ccount, .int cover])), (h3, .inl (aI, 8, .inl cf)), (g0, .inr (1, [.int wayToOtherB, .ref g1, .ref g2, .int placeB, .int speedB, .int wayB, .int topSpeedB, .int gainB, .int brakeB, .int darkSpeedB, .int rideSpeedB, .int kilosB, .int mostKilosB, .int openContactsB, .int fireFloorB, .int rideB, .int startsB, .int distanceB, .int hardFallsB])), (g1, .inr (2, [.int dstateB, .int dplaceB, .int dplacesB, .int dholdB, .int dstepsB, .int dbeamB, .int dobB, .int docB])), (g2, .inr (0, [.ref g3, .int ccountB, .int coverB])), (g3, .inl (aI, 8, .inl cfB)), (o0, .inl (aL, 1, .inr (.inl of)))]) [1, 2, 3, 4, 5, 6, 7, 8, 9, 10, 11, 0] (by decide) rfl
    exact rt_i hQ hx hb hr (stepsDone, place, speed, way, starts, distance, hardFalls, dstate, dplace, dsteps, dob, doc, ccount, cover, cf, placeB, speedB, wayB, startsB, distanceB, hardFallsB, dstateB, dplaceB, dstepsB, dobB, docB, ccountB, coverB, cfB, of) hG hP hD hS (Nat.le_of_ble_eq_true rfl) (Nat.le_of_ble_eq_true rfl) dL_steps_14 hlk
  · skip
    obtain ⟨x_2, x_3, x_4, x_5, x_6, x_7, x_8, x_9, x_10, x_11, x_12, x_13, x_14, x_15, x_16, x_17, x_18, x_19, x_20, x_21, x_22, x_23, x_24, x_25, x_26, x_27, x_28, x_29⟩ := u_
    have hw_30 : F_steps_2 powered stepsDone gap n pf wayToOther place speed way topSpeed gain brake darkSpeed rideSpeed kilos mostKilos openContacts fireFloor ride starts distance hardFalls dstate dplace dplaces dhold dsteps dbeam dob doc ccount cover cf wayToOtherB placeB speedB wayB topSpeedB gainB brakeB darkSpeedB rideSpeedB kilosB mostKilosB openContactsB fireFloorB rideB startsB distanceB hardFallsB dstateB dplaceB dplacesB dholdB dstepsB dbeamB dobB docB ccountB coverB cfB p0 = .inr (r_1, x_2, x_3, x_4, x_5, x_6, x_7, x_8, x_9, x_10, x_11, x_12, x_13, x_14, x_15, x_16, x_17, x_18, x_19, x_20, x_21, x_22, x_23, x_24, x_25, x_26, x_27, x_28, x_29) := hw_30
    have hG := hG.trans (ch_r hw_30)
    have hP : va_P D vwCl [(o0, .inl (aL, 1, .inr (.inl of))), (k0, .inr (4, [.ref h4, .ref h0, .ref g0, .int powered, .int (stepsDone + p0)])), (h4, .inr (3, [.ref h5, .int gap])), (h5, .inl (aI, n, .inl pf)), (h0, .inr (1, [.int wayToOther, .ref h1, .ref h2, .int x_2, .int x_3, .int x_4, .int topSpeed, .int gain, .int brake, .int darkSpeed, .int rideSpeed, .int kilos, .int mostKilos, .int openContacts, .int fireFloor, .int ride, .int x_5, .int x_6, .int x_7])), (h1, .inr (2, [.int x_8, .int x_9, .int dplaces, .int dhold, .int x_10, .int dbeam, .int x_11, .int x_12])), (h2, .inr (0, [.ref h3, .int x_13, .int x_14])), (h3, .inl (aI, 8, .inl x_15)), (g0, .inr (1, [.int wayToOtherB, .ref g1, .ref g2, .int x_16, .int x_17, .int x_18, .int topSpeedB, .int gainB, .int brakeB, .int darkSpeedB, .int rideSpeedB, .int kilosB, .int mostKilosB, .int openContactsB, .int fireFloorB, .int rideB, .int x_19, .int x_20, .int x_21])), (g1, .inr (2, [.int x_22, .int x_23, .int dplacesB, .int dholdB, .int x_24, .int dbeamB, .int x_25, .int x_26])), (g2, .inr (0, [.ref g3, .int x_27, .int x_28])), (g3, .inl (aI, 8, .inl x_29))] H := hP
    have hD : va_D A [(o0, .inl (aL, 1, .inr (.inl of))), (k0, .inr (4, [.ref h4, .ref h0, .ref g0, .int powered, .int (stepsDone + p0)])), (h4, .inr (3, [.ref h5, .int gap])), (h5, .inl (aI, n, .inl pf)), (h0, .inr (1, [.int wayToOther, .ref h1, .ref h2, .int x_2, .int x_3, .int x_4, .int topSpeed, .int gain, .int brake, .int darkSpeed, .int rideSpeed, .int kilos, .int mostKilos, .int openContacts, .int fireFloor, .int ride, .int x_5, .int x_6, .int x_7])), (h1, .inr (2, [.int x_8, .int x_9, .int dplaces, .int dhold, .int x_10, .int dbeam, .int x_11, .int x_12])), (h2, .inr (0, [.ref h3, .int x_13, .int x_14])), (h3, .inl (aI, 8, .inl x_15)), (g0, .inr (1, [.int wayToOtherB, .ref g1, .ref g2, .int x_16, .int x_17, .int x_18, .int topSpeedB, .int gainB, .int brakeB, .int darkSpeedB, .int rideSpeedB, .int kilosB, .int mostKilosB, .int openContactsB, .int fireFloorB, .int rideB, .int x_19, .int x_20, .int x_21])), (g1, .inr (2, [.int x_22, .int x_23, .int dplacesB, .int dholdB, .int x_24, .int dbeamB, .int x_25, .int x_26])), (g2, .inr (0, [.ref g3, .int x_27, .int x_28])), (g3, .inl (aI, 8, .inl x_29))] := hD
    refine lv_i2l (v := (r_1).toInt64) hx hb dL_steps_7 rfl ?_
    refine va_last hx hb hK hP hD hS 0 1 rfl rfl (by unfold vp_in; decide) dL_steps_8 (fun H locs hP hD hS => ?_)
    have hP : va_P D vwCl [(o0, .inl (aL, 1, .inr (.inl (vp_updL of (0 : Int32).toNatClampNeg ((r_1).toInt64))))), (k0, .inr (4, [.ref h4, .ref h0, .ref g0, .int powered, .int (stepsDone + p0)])), (h4, .inr (3, [.ref h5, .int gap])), (h5, .inl (aI, n, .inl pf)), (h0, .inr (1, [.int wayToOther, .ref h1, .ref h2, .int x_2, .int x_3, .int x_4, .int topSpeed, .int gain, .int brake, .int darkSpeed, .int rideSpeed, .int kilos, .int mostKilos, .int openContacts, .int fireFloor, .int ride, .int x_5, .int x_6, .int x_7])), (h1, .inr (2, [.int x_8, .int x_9, .int dplaces, .int dhold, .int x_10, .int dbeam, .int x_11, .int x_12])), (h2, .inr (0, [.ref h3, .int x_13, .int x_14])), (h3, .inl (aI, 8, .inl x_15)), (g0, .inr (1, [.int wayToOtherB, .ref g1, .ref g2, .int x_16, .int x_17, .int x_18, .int topSpeedB, .int gainB, .int brakeB, .int darkSpeedB, .int rideSpeedB, .int kilosB, .int mostKilosB, .int openContactsB, .int fireFloorB, .int rideB, .int x_19, .int x_20, .int x_21])), (g1, .inr (2, [.int x_22, .int x_23, .int dplacesB, .int dholdB, .int x_24, .int dbeamB, .int x_25, .int x_26])), (g2, .inr (0, [.ref g3, .int x_27, .int x_28])), (g3, .inl (aI, 8, .inl x_29))] H := hP
    have hD : va_D A [(o0, .inl (aL, 1, .inr (.inl (vp_updL of (0 : Int32).toNatClampNeg ((r_1).toInt64))))), (k0, .inr (4, [.ref h4, .ref h0, .ref g0, .int powered, .int (stepsDone + p0)])), (h4, .inr (3, [.ref h5, .int gap])), (h5, .inl (aI, n, .inl pf)), (h0, .inr (1, [.int wayToOther, .ref h1, .ref h2, .int x_2, .int x_3, .int x_4, .int topSpeed, .int gain, .int brake, .int darkSpeed, .int rideSpeed, .int kilos, .int mostKilos, .int openContacts, .int fireFloor, .int ride, .int x_5, .int x_6, .int x_7])), (h1, .inr (2, [.int x_8, .int x_9, .int dplaces, .int dhold, .int x_10, .int dbeam, .int x_11, .int x_12])), (h2, .inr (0, [.ref h3, .int x_13, .int x_14])), (h3, .inl (aI, 8, .inl x_15)), (g0, .inr (1, [.int wayToOtherB, .ref g1, .ref g2, .int x_16, .int x_17, .int x_18, .int topSpeedB, .int gainB, .int brakeB, .int darkSpeedB, .int rideSpeedB, .int kilosB, .int mostKilosB, .int openContactsB, .int fireFloorB, .int rideB, .int x_19, .int x_20, .int x_21])), (g1, .inr (2, [.int x_22, .int x_23, .int dplacesB, .int dholdB, .int x_24, .int dbeamB, .int x_25, .int x_26])), (g2, .inr (0, [.ref g3, .int x_27, .int x_28])), (g3, .inl (aI, 8, .inl x_29))] := hD
    refine lv_goto (tgt := 15) hx hb dL_steps_9 (by decide) ?_
    refine lv_iconst (v := 0) hx hb dL_steps_15 (by decide) ?_
    have hP := hP.sub (ws' := [(k0, .inr (4, [.ref h4, .ref h0, .ref g0, .int powered, .int (stepsDone + p0)])), (h4, .inr (3, [.ref h5, .int gap])), (h5, .inl (aI, n, .inl pf)), (h0, .inr (1, [.int wayToOther, .ref h1, .ref h2, .int x_2, .int x_3, .int x_4, .int topSpeed, .int gain, .int brake, .int darkSpeed, .int rideSpeed, .int kilos, .int mostKilos, .int openContacts, .int fireFloor, .int ride, .int x_5, .int x_6, .int x_7])), (h1, .inr (2, [.int x_8, .int x_9, .int dplaces, .int dhold, .int x_10, .int dbeam, .int x_11, .int x_12])), (h2, .inr (0, [.ref h3, .int x_13, .int x_14])), (h3, .inl (aI, 8, .inl x_15)), (g0, .inr (1, [.int wayToOtherB, .ref g1, .ref g2, .int x_16, .int x_17, .int x_18, .int topSpeedB, .int gainB, .int brakeB, .int darkSpeedB, .int rideSpeedB, .int kilosB, .int mostKilosB, .int openContactsB, .int fireFloorB, .int rideB, .int x_19, .int x_20, .int x_21])), (g1, .inr (2, [.int x_22, .int x_23, .int dplacesB, .int dholdB, .int x_24, .int dbeamB, .int x_25, .int x_26])), (g2, .inr (0, [.ref g3, .int x_27, .int x_28])), (g3, .inl (aI, 8, .inl x_29)), (o0, .inl (aL, 1, .inr (.inl (vp_updL of (0 : Int32).toNatClampNeg ((r_1).toInt64)))))]) [1, 2, 3, 4, 5, 6, 7, 8, 9, 10, 11, 0] rfl
    have hD := hD.sub (ws' := [(k0, .inr (4, [.ref h4, .ref h0, .ref g0, .int powered, .int (stepsDone + p0)])), (h4, .inr (3, [.ref h5, .int gap])), (h5, .inl (aI, n, .inl pf)), (h0, .inr (1, [.int wayToOther, .ref h1, .ref h2, .int x_2, .int x_3, .int x_4, .int topSpeed, .int gain, .int brake, .int darkSpeed, .int rideSpeed, .int kilos, .int mostKilos, .int openContacts, .int fireFloor, .int ride, .int x_5, .int x_6, .int x_7])), (h1, .inr (2, [.int x_8, .int x_9, .int dplaces, .int dhold, .int x_10, .int dbeam, .int x_11, .int x_12])), (h2, .inr (0, [.ref h3, .int x_13, .int x_14])), (h3, .inl (aI, 8, .inl x_15)), (g0, .inr (1, [.int wayToOtherB, .ref g1, .ref g2, .int x_16, .int x_17, .int x_18, .int topSpeedB, .int gainB, .int brakeB, .int darkSpeedB, .int rideSpeedB, .int kilosB, .int mostKilosB, .int openContactsB, .int fireFloorB, .int rideB, .int x_19, .int x_20, .int x_21])), (g1, .inr (2, [.int x_22, .int x_23, .int dplacesB, .int dholdB, .int x_24, .int dbeamB, .int x_25, .int x_26])), (g2, .inr (0, [.ref g3, .int x_27, .int x_28])), (g3, .inl (aI, 8, .inl x_29)), (o0, .inl (aL, 1, .inr (.inl (vp_updL of (0 : Int32).toNatClampNeg ((r_1).toInt64)))))]) [1, 2, 3, 4, 5, 6, 7, 8, 9, 10, 11, 0] (by decide) rfl
    exact rt_i hQ hx hb hr ((stepsDone + p0), x_2, x_3, x_4, x_5, x_6, x_7, x_8, x_9, x_10, x_11, x_12, x_13, x_14, x_15, x_16, x_17, x_18, x_19, x_20, x_21, x_22, x_23, x_24, x_25, x_26, x_27, x_28, x_29, (vp_updL of (0 : Int32).toNatClampNeg ((r_1).toInt64))) hG hP hD hS (Nat.le_of_ble_eq_true rfl) (Nat.le_of_ble_eq_true rfl) dL_steps_16 hlk
theorem dL_told_0 : decode cL_told 0 = .ok (.aload_n 3, 1) := by decide +kernel
theorem dL_told_1 : decode cL_told 1 = .ok (.iconst 0, 1) := by decide +kernel
theorem dL_told_2 : decode cL_told 2 = .ok (.aload_n 0, 1) := by decide +kernel
theorem dL_told_3 : decode cL_told 3 = .ok (.iload_n 1, 1) := by decide +kernel
theorem dL_told_4 : decode cL_told 4 = .ok (.iload_n 2, 1) := by decide +kernel
theorem dL_told_5 : decode cL_told 5 = .ok (.invokevirtual 68, 3) := by decide +kernel
theorem dL_told_8 : decode cL_told 8 = .ok (.i2l, 1) := by decide +kernel
theorem dL_told_9 : decode cL_told 9 = .ok (.lastore, 1) := by decide +kernel
theorem dL_told_10 : decode cL_told 10 = .ok (.goto 7, 3) := by decide +kernel
theorem dL_told_13 : decode cL_told 13 = .ok (.astore 4, 2) := by decide +kernel
theorem dL_told_15 : decode cL_told 15 = .ok (.iconst 1, 1) := by decide +kernel
theorem dL_told_16 : decode cL_told 16 = .ok (.ireturn, 1) := by decide +kernel
theorem dL_told_17 : decode cL_told 17 = .ok (.iconst 0, 1) := by decide +kernel
theorem dL_told_18 : decode cL_told 18 = .ok (.ireturn, 1) := by decide +kernel
def F_h_told_0 (powered : Int32) (place : Int32) (speed : Int32) (way : Int32) (openContacts : Int32) (fireFloor : Int32) (ride : Int32) (dstate : Int32) (dplace : Int32) (ccount : Int32) (cf : Nat → Int32) (n : Nat) (pf : Nat → Int32) (p1 : Int32) (of : Nat → Int64) : Int32 × (Nat → Int64) :=
  ch (F_told_0 powered place speed way openContacts fireFloor ride dstate dplace ccount cf n pf p1)
    ((1, of))
    ((1, of)) fun r_1 =>
    (0, (vp_updL of (0 : Int32).toNatClampNeg ((r_1).toInt64)))
theorem F_h_told_0_u (powered : Int32) (place : Int32) (speed : Int32) (way : Int32) (openContacts : Int32) (fireFloor : Int32) (ride : Int32) (dstate : Int32) (dplace : Int32) (ccount : Int32) (cf : Nat → Int32) (n : Nat) (pf : Nat → Int32) (p1 : Int32) (of : Nat → Int64) : F_h_told_0 powered place speed way openContacts fireFloor ride dstate dplace ccount cf n pf p1 of =
  ((ch (F_told_0 powered place speed way openContacts fireFloor ride dstate dplace ccount cf n pf p1)
    ((1, of))
    ((1, of)) fun r_1 =>
    (0, (vp_updL of (0 : Int32).toNatClampNeg ((r_1).toInt64)))) : Int32 × (Nat → Int64)) := rfl
set_option maxHeartbeats 4000000 in
set_option maxRecDepth 100000 in
theorem c_h_told_0 (l : Launch) (hl9 : l.stackTraces = false) (D : va_G) (aI aL aZ : ClassId) (sz : Nat) (k0 : Nat) (h4 : Nat) (powered : Int32) (stepsDone : Int32) (up : Value) (h0 : Nat) (h1 : Nat) (h2 : Nat) (wayToOther : Int32) (place : Int32) (speed : Int32) (way : Int32) (topSpeed : Int32) (gain : Int32) (brake : Int32) (darkSpeed : Int32) (rideSpeed : Int32) (kilos : Int32) (mostKilos : Int32) (openContacts : Int32) (fireFloor : Int32) (ride : Int32) (starts : Int32) (distance : Int32) (hardFalls : Int32) (dstate : Int32) (dplace : Int32) (dplaces : Int32) (dhold : Int32) (dsteps : Int32) (dbeam : Int32) (dob : Int32) (doc : Int32) (h3 : Nat) (ccount : Int32) (cover : Int32) (cf : Nat → Int32) (h5 : Nat) (gap : Int32) (n : Nat) (pf : Nat → Int32) (p1 : Int32) (o0 : Nat) (of : Nat → Int64) (hn : n < 2 ^ 31) (hn1 : 1 ≤ n) : Met l yL_told (.codeWith yL_told cL_told 5 (some .int) [(0, 10, 13, 13)] :: Gw) ({ frames := 7, cells := 1, slots := 6, locals := 115 }) (va_Pc [.ref k0, .int 0, .int p1, .ref o0] (mpre D [(aI, .int), (aL, .long), (aZ, .boolean)] [(k0, .inr (4, [.ref h4, .ref h0, up, .int powered, .int stepsDone])), (h0, .inr (1, [.int wayToOther, .ref h1, .ref h2, .int place, .int speed, .int way, .int topSpeed, .int gain, .int brake, .int darkSpeed, .int rideSpeed, .int kilos, .int mostKilos, .int openContacts, .int fireFloor, .int ride, .int starts, .int distance, .int hardFalls])), (h1, .inr (2, [.int dstate, .int dplace, .int dplaces, .int dhold, .int dsteps, .int dbeam, .int dob, .int doc])), (h2, .inr (0, [.ref h3, .int ccount, .int cover])), (h3, .inl (aI, 8, .inl cf)), (h4, .inr (3, [.ref h5, .int gap])), (h5, .inl (aI, n, .inl pf)), (o0, .inl (aL, 1, .inr (.inl of)))] sz)) ((fun A : Nat → Prop => va_Qi (fun (r : Int32) (u : (Nat → Int64)) => F_h_told_0 powered place speed way openContacts fireFloor ride dstate dplace ccount cf n pf p1 of = (r, u)) (mpst D A (fun (u : (Nat → Int64)) => [(k0, .inr (4, [.ref h4, .ref h0, up, .int powered, .int stepsDone])), (h0, .inr (1, [.int wayToOther, .ref h1, .ref h2, .int place, .int speed, .int way, .int topSpeed, .int gain, .int brake, .int darkSpeed, .int rideSpeed, .int kilos, .int mostKilos, .int openContacts, .int fireFloor, .int ride, .int starts, .int distance, .int hardFalls])), (h1, .inr (2, [.int dstate, .int dplace, .int dplaces, .int dhold, .int dsteps, .int dbeam, .int dob, .int doc])), (h2, .inr (0, [.ref h3, .int ccount, .int cover])), (h3, .inl (aI, 8, .inl cf)), (h4, .inr (3, [.ref h5, .int gap])), (h5, .inl (aI, n, .inl pf)), (o0, .inl (aL, 1, .inr (.inl u)))])) A) (va_A ([(k0, .inr (4, [.ref h4, .ref h0, up, .int powered, .int stepsDone])), (h0, .inr (1, [.int wayToOther, .ref h1, .ref h2, .int place, .int speed, .int way, .int topSpeed, .int gain, .int brake, .int darkSpeed, .int rideSpeed, .int kilos, .int mostKilos, .int openContacts, .int fireFloor, .int ride, .int starts, .int distance, .int hardFalls])), (h1, .inr (2, [.int dstate, .int dplace, .int dplaces, .int dhold, .int dsteps, .int dbeam, .int dob, .int doc])), (h2, .inr (0, [.ref h3, .int ccount, .int cover])), (h3, .inl (aI, 8, .inl cf)), (h4, .inr (3, [.ref h5, .int gap])), (h5, .inl (aI, n, .inl pf)), (o0, .inl (aL, 1, .inr (.inl of)))]) sz)) 1 6 (va_A ([(k0, .inr (4, [.ref h4, .ref h0, up, .int powered, .int stepsDone])), (h0, .inr (1, [.int wayToOther, .ref h1, .ref h2, .int place, .int speed, .int way, .int topSpeed, .int gain, .int brake, .int darkSpeed, .int rideSpeed, .int kilos, .int mostKilos, .int openContacts, .int fireFloor, .int ride, .int starts, .int distance, .int hardFalls])), (h1, .inr (2, [.int dstate, .int dplace, .int dplaces, .int dhold, .int dsteps, .int dbeam, .int dob, .int doc])), (h2, .inr (0, [.ref h3, .int ccount, .int cover])), (h3, .inl (aI, 8, .inl cf)), (h4, .inr (3, [.ref h5, .int gap])), (h5, .inl (aI, n, .inl pf)), (o0, .inl (aL, 1, .inr (.inl of)))]) sz) := by
  refine enh (cc := cL_told) (maxL := 5) (ret := (some .int)) (Qc := (fun A : Nat → Prop => va_Qi (fun (r : Int32) (u : (Nat → Int64)) => F_h_told_0 powered place speed way openContacts fireFloor ride dstate dplace ccount cf n pf p1 of = (r, u)) (mpst D A (fun (u : (Nat → Int64)) => [(k0, .inr (4, [.ref h4, .ref h0, up, .int powered, .int stepsDone])), (h0, .inr (1, [.int wayToOther, .ref h1, .ref h2, .int place, .int speed, .int way, .int topSpeed, .int gain, .int brake, .int darkSpeed, .int rideSpeed, .int kilos, .int mostKilos, .int openContacts, .int fireFloor, .int ride, .int starts, .int distance, .int hardFalls])), (h1, .inr (2, [.int dstate, .int dplace, .int dplaces, .int dhold, .int dsteps, .int dbeam, .int dob, .int doc])), (h2, .inr (0, [.ref h3, .int ccount, .int cover])), (h3, .inl (aI, 8, .inl cf)), (h4, .inr (3, [.ref h5, .int gap])), (h5, .inl (aI, n, .inl pf)), (o0, .inl (aL, 1, .inr (.inl u)))])) A)) (by decide) rfl (Nat.le_of_ble_eq_true rfl) ?_
  intro p e s m args below meth c A ls Q hQ hx hb hr hts hown hlk hnm hml htab hA hS hP hK hD hE hl
  have hown : s.vm.findClass RL = some m.cls := hown
  have hl : lv_has ls 5 [(0, .ref k0), (1, .int 0), (2, .int p1), (3, .ref o0)] := hl
  have hG := F_h_told_0_u powered place speed way openContacts fireFloor ride dstate dplace ccount cf n pf p1 of
  refine lv_aload_n hx hb dL_told_0 rfl (lv_at hl 3 rfl) ?_
  refine lv_iconst (v := 0) hx hb dL_told_1 (by decide) ?_
  refine lv_aload_n hx hb dL_told_2 rfl (lv_at hl 0 rfl) ?_
  refine lv_iload_n hx hb dL_told_3 rfl (lv_at hl 1 rfl) ?_
  refine lv_iload_n hx hb dL_told_4 rfl (lv_at hl 2 rfl) ?_
  refine my_ci (wr := [(o0, .inl (aL, 1, .inr (.inl of)))]) [0, 1, 2, 3, 4, 5, 6] [7] (vx_runV (As := [.int 0, .int p1]) (rest := [.int 0, .ref o0]) ⟨hx, hb, hml, hown, hts⟩ (c_told_0 l hl9 D aI aL aZ _ k0 h4 powered stepsDone up h0 h1 h2 wayToOther place speed way topSpeed gain brake darkSpeed rideSpeed kilos mostKilos openContacts fireFloor ride starts distance hardFalls dstate dplace dplaces dhold dsteps dbeam dob doc h3 ccount cover cf h5 gap n pf p1 hn hn1) (cwV 2 hts (gV w_615 w_616 w_617 w_35 w_618) rfl rfl rfl (by decide +kernel) ⟨Nat.le_of_ble_eq_true rfl, Nat.le_of_ble_eq_true rfl⟩) (prev_of hK hP hD hS hA hE [0, 1, 2, 3, 4, 5, 6] rfl (by decide) (ci := 4) rfl 0 rfl _) rfl rfl hl.1 rfl (lv_room (Nat.le_of_ble_eq_true rfl)) dL_told_5 ⟨Nat.le_of_ble_eq_true rfl, Nat.le_of_ble_eq_true rfl⟩) hP hD hS hA rfl rfl (by decide) (by decide) (fun E ce q9 u H locs hw hEx hP hD hS hce hcv hcl => ?_) (fun r_1 u_ H locs hw_2 hP hD hS => ?_)
  · obtain ⟨hw, hu⟩ := hw
    have htab : c.exceptionTable.toList = [⟨0, 10, 13, 13⟩] := htab
    subst hu
    have hG := hG.trans (ch_1 hw)
    refine my_h1 (u := 1) hown htab (by decide) (by decide) (hts _ (mG w_105)) hE hEx hce hcv hcl ?_
    have hP : va_P D vwCl [(o0, .inl (aL, 1, .inr (.inl of))), (k0, .inr (4, [.ref h4, .ref h0, up, .int powered, .int stepsDone])), (h0, .inr (1, [.int wayToOther, .ref h1, .ref h2, .int place, .int speed, .int way, .int topSpeed, .int gain, .int brake, .int darkSpeed, .int rideSpeed, .int kilos, .int mostKilos, .int openContacts, .int fireFloor, .int ride, .int starts, .int distance, .int hardFalls])), (h1, .inr (2, [.int dstate, .int dplace, .int dplaces, .int dhold, .int dsteps, .int dbeam, .int dob, .int doc])), (h2, .inr (0, [.ref h3, .int ccount, .int cover])), (h3, .inl (aI, 8, .inl cf)), (h4, .inr (3, [.ref h5, .int gap])), (h5, .inl (aI, n, .inl pf))] H := hP
    have hD : va_D A [(o0, .inl (aL, 1, .inr (.inl of))), (k0, .inr (4, [.ref h4, .ref h0, up, .int powered, .int stepsDone])), (h0, .inr (1, [.int wayToOther, .ref h1, .ref h2, .int place, .int speed, .int way, .int topSpeed, .int gain, .int brake, .int darkSpeed, .int rideSpeed, .int kilos, .int mostKilos, .int openContacts, .int fireFloor, .int ride, .int starts, .int distance, .int hardFalls])), (h1, .inr (2, [.int dstate, .int dplace, .int dplaces, .int dhold, .int dsteps, .int dbeam, .int dob, .int doc])), (h2, .inr (0, [.ref h3, .int ccount, .int cover])), (h3, .inl (aI, 8, .inl cf)), (h4, .inr (3, [.ref h5, .int gap])), (h5, .inl (aI, n, .inl pf))] := hD
    refine lv_astore (lv' := [(4, .ref q9), (0, .ref k0), (1, .int 0), (2, .int p1), (3, .ref o0)]) hx hb dL_told_13 hl (by decide) rfl (fun ls hl => ?_)
    refine lv_iconst (v := 1) hx hb dL_told_15 (by decide) ?_
    have hP := hP.sub (ws' := [(k0, .inr (4, [.ref h4, .ref h0, up, .int powered, .int stepsDone])), (h0, .inr (1, [.int wayToOther, .ref h1, .ref h2, .int place, .int speed, .int way, .int topSpeed, .int gain, .int brake, .int darkSpeed, .int rideSpeed, .int kilos, .int mostKilos, .int openContacts, .int fireFloor, .int ride, .int starts, .int distance, .int hardFalls])), (h1, .inr (2, [.int dstate, .int dplace, .int dplaces, .int dhold, .int dsteps, .int dbeam, .int dob, .int doc])), (h2, .inr (0, [.ref h3, .int ccount, .int cover])), (h3, .inl (aI, 8, .inl cf)), (h4, .inr (3, [.ref h5, .int gap])), (h5, .inl (aI, n, .inl pf)), (o0, .inl (aL, 1, .inr (.inl of)))]) [1, 2, 3, 4, 5, 6, 7, 0] rfl
    have hD := hD.sub (ws' := [(k0, .inr (4, [.ref h4, .ref h0, up, .int powered, .int stepsDone])), (h0, .inr (1, [.int wayToOther, .ref h1, .ref h2, .int place, .int speed, .int way, .int topSpeed, .int gain, .int brake, .int darkSpeed, .int rideSpeed, .int kilos, .int mostKilos, .int openContacts, .int fireFloor, .int ride, .int starts, .int distance, .int hardFalls])), (h1, .inr (2, [.int dstate, .int dplace, .int dplaces, .int dhold, .int dsteps, .int dbeam, .int dob, .int doc])), (h2, .inr (0, [.ref h3, .int ccount, .int cover])), (h3, .inl (aI, 8, .inl cf)), (h4, .inr (3, [.ref h5, .int gap])), (h5, .inl (aI, n, .inl pf)), (o0, .inl (aL, 1, .inr (.inl of)))]) [1, 2, 3, 4, 5, 6, 7, 0] (by decide) rfl
    exact rt_i hQ hx hb hr of hG hP hD hS (Nat.le_of_ble_eq_true rfl) (Nat.le_of_ble_eq_true rfl) dL_told_16 hlk
  · skip
    have hw_2 : F_told_0 powered place speed way openContacts fireFloor ride dstate dplace ccount cf n pf p1 = .inr r_1 := hw_2
    have hG := hG.trans (ch_r hw_2)
    have hP : va_P D vwCl [(o0, .inl (aL, 1, .inr (.inl of))), (k0, .inr (4, [.ref h4, .ref h0, up, .int powered, .int stepsDone])), (h0, .inr (1, [.int wayToOther, .ref h1, .ref h2, .int place, .int speed, .int way, .int topSpeed, .int gain, .int brake, .int darkSpeed, .int rideSpeed, .int kilos, .int mostKilos, .int openContacts, .int fireFloor, .int ride, .int starts, .int distance, .int hardFalls])), (h1, .inr (2, [.int dstate, .int dplace, .int dplaces, .int dhold, .int dsteps, .int dbeam, .int dob, .int doc])), (h2, .inr (0, [.ref h3, .int ccount, .int cover])), (h3, .inl (aI, 8, .inl cf)), (h4, .inr (3, [.ref h5, .int gap])), (h5, .inl (aI, n, .inl pf))] H := hP
    have hD : va_D A [(o0, .inl (aL, 1, .inr (.inl of))), (k0, .inr (4, [.ref h4, .ref h0, up, .int powered, .int stepsDone])), (h0, .inr (1, [.int wayToOther, .ref h1, .ref h2, .int place, .int speed, .int way, .int topSpeed, .int gain, .int brake, .int darkSpeed, .int rideSpeed, .int kilos, .int mostKilos, .int openContacts, .int fireFloor, .int ride, .int starts, .int distance, .int hardFalls])), (h1, .inr (2, [.int dstate, .int dplace, .int dplaces, .int dhold, .int dsteps, .int dbeam, .int dob, .int doc])), (h2, .inr (0, [.ref h3, .int ccount, .int cover])), (h3, .inl (aI, 8, .inl cf)), (h4, .inr (3, [.ref h5, .int gap])), (h5, .inl (aI, n, .inl pf))] := hD
    refine lv_i2l (v := (r_1).toInt64) hx hb dL_told_8 rfl ?_
    refine va_last hx hb hK hP hD hS 0 1 rfl rfl (by unfold vp_in; decide) dL_told_9 (fun H locs hP hD hS => ?_)
    have hP : va_P D vwCl [(o0, .inl (aL, 1, .inr (.inl (vp_updL of (0 : Int32).toNatClampNeg ((r_1).toInt64))))), (k0, .inr (4, [.ref h4, .ref h0, up, .int powered, .int stepsDone])), (h0, .inr (1, [.int wayToOther, .ref h1, .ref h2, .int place, .int speed, .int way, .int topSpeed, .int gain, .int brake, .int darkSpeed, .int rideSpeed, .int kilos, .int mostKilos, .int openContacts, .int fireFloor, .int ride, .int starts, .int distance, .int hardFalls])), (h1, .inr (2, [.int dstate, .int dplace, .int dplaces, .int dhold, .int dsteps, .int dbeam, .int dob, .int doc])), (h2, .inr (0, [.ref h3, .int ccount, .int cover])), (h3, .inl (aI, 8, .inl cf)), (h4, .inr (3, [.ref h5, .int gap])), (h5, .inl (aI, n, .inl pf))] H := hP
    have hD : va_D A [(o0, .inl (aL, 1, .inr (.inl (vp_updL of (0 : Int32).toNatClampNeg ((r_1).toInt64))))), (k0, .inr (4, [.ref h4, .ref h0, up, .int powered, .int stepsDone])), (h0, .inr (1, [.int wayToOther, .ref h1, .ref h2, .int place, .int speed, .int way, .int topSpeed, .int gain, .int brake, .int darkSpeed, .int rideSpeed, .int kilos, .int mostKilos, .int openContacts, .int fireFloor, .int ride, .int starts, .int distance, .int hardFalls])), (h1, .inr (2, [.int dstate, .int dplace, .int dplaces, .int dhold, .int dsteps, .int dbeam, .int dob, .int doc])), (h2, .inr (0, [.ref h3, .int ccount, .int cover])), (h3, .inl (aI, 8, .inl cf)), (h4, .inr (3, [.ref h5, .int gap])), (h5, .inl (aI, n, .inl pf))] := hD
    refine lv_goto (tgt := 17) hx hb dL_told_10 (by decide) ?_
    refine lv_iconst (v := 0) hx hb dL_told_17 (by decide) ?_
    have hP := hP.sub (ws' := [(k0, .inr (4, [.ref h4, .ref h0, up, .int powered, .int stepsDone])), (h0, .inr (1, [.int wayToOther, .ref h1, .ref h2, .int place, .int speed, .int way, .int topSpeed, .int gain, .int brake, .int darkSpeed, .int rideSpeed, .int kilos, .int mostKilos, .int openContacts, .int fireFloor, .int ride, .int starts, .int distance, .int hardFalls])), (h1, .inr (2, [.int dstate, .int dplace, .int dplaces, .int dhold, .int dsteps, .int dbeam, .int dob, .int doc])), (h2, .inr (0, [.ref h3, .int ccount, .int cover])), (h3, .inl (aI, 8, .inl cf)), (h4, .inr (3, [.ref h5, .int gap])), (h5, .inl (aI, n, .inl pf)), (o0, .inl (aL, 1, .inr (.inl (vp_updL of (0 : Int32).toNatClampNeg ((r_1).toInt64)))))]) [1, 2, 3, 4, 5, 6, 7, 0] rfl
    have hD := hD.sub (ws' := [(k0, .inr (4, [.ref h4, .ref h0, up, .int powered, .int stepsDone])), (h0, .inr (1, [.int wayToOther, .ref h1, .ref h2, .int place, .int speed, .int way, .int topSpeed, .int gain, .int brake, .int darkSpeed, .int rideSpeed, .int kilos, .int mostKilos, .int openContacts, .int fireFloor, .int ride, .int starts, .int distance, .int hardFalls])), (h1, .inr (2, [.int dstate, .int dplace, .int dplaces, .int dhold, .int dsteps, .int dbeam, .int dob, .int doc])), (h2, .inr (0, [.ref h3, .int ccount, .int cover])), (h3, .inl (aI, 8, .inl cf)), (h4, .inr (3, [.ref h5, .int gap])), (h5, .inl (aI, n, .inl pf)), (o0, .inl (aL, 1, .inr (.inl (vp_updL of (0 : Int32).toNatClampNeg ((r_1).toInt64)))))]) [1, 2, 3, 4, 5, 6, 7, 0] (by decide) rfl
    exact rt_i hQ hx hb hr (vp_updL of (0 : Int32).toNatClampNeg ((r_1).toInt64)) hG hP hD hS (Nat.le_of_ble_eq_true rfl) (Nat.le_of_ble_eq_true rfl) dL_told_18 hlk
def F_h_told_1 (powered : Int32) (place : Int32) (speed : Int32) (way : Int32) (openContacts : Int32) (fireFloor : Int32) (ride : Int32) (dstate : Int32) (dplace : Int32) (ccount : Int32) (cf : Nat → Int32) (n : Nat) (pf : Nat → Int32) (p1 : Int32) (of : Nat → Int64) : Int32 × (Nat → Int64) :=
  ch (F_told_1 powered place speed way openContacts fireFloor ride dstate dplace ccount cf n pf p1)
    ((1, of))
    ((1, of)) fun r_1 =>
    (0, (vp_updL of (0 : Int32).toNatClampNeg ((r_1).toInt64)))
theorem F_h_told_1_u (powered : Int32) (place : Int32) (speed : Int32) (way : Int32) (openContacts : Int32) (fireFloor : Int32) (ride : Int32) (dstate : Int32) (dplace : Int32) (ccount : Int32) (cf : Nat → Int32) (n : Nat) (pf : Nat → Int32) (p1 : Int32) (of : Nat → Int64) : F_h_told_1 powered place speed way openContacts fireFloor ride dstate dplace ccount cf n pf p1 of =
  ((ch (F_told_1 powered place speed way openContacts fireFloor ride dstate dplace ccount cf n pf p1)
    ((1, of))
    ((1, of)) fun r_1 =>
    (0, (vp_updL of (0 : Int32).toNatClampNeg ((r_1).toInt64)))) : Int32 × (Nat → Int64)) := rfl
set_option maxHeartbeats 4000000 in
set_option maxRecDepth 100000 in
theorem c_h_told_1 (l : Launch) (hl9 : l.stackTraces = false) (D : va_G) (aI aL aZ : ClassId) (sz : Nat) (k0 : Nat) (h4 : Nat) (powered : Int32) (stepsDone : Int32) (lo : Value) (h0 : Nat) (h1 : Nat) (h2 : Nat) (wayToOther : Int32) (place : Int32) (speed : Int32) (way : Int32) (topSpeed : Int32) (gain : Int32) (brake : Int32) (darkSpeed : Int32) (rideSpeed : Int32) (kilos : Int32) (mostKilos : Int32) (openContacts : Int32) (fireFloor : Int32) (ride : Int32) (starts : Int32) (distance : Int32) (hardFalls : Int32) (dstate : Int32) (dplace : Int32) (dplaces : Int32) (dhold : Int32) (dsteps : Int32) (dbeam : Int32) (dob : Int32) (doc : Int32) (h3 : Nat) (ccount : Int32) (cover : Int32) (cf : Nat → Int32) (h5 : Nat) (gap : Int32) (n : Nat) (pf : Nat → Int32) (p1 : Int32) (o0 : Nat) (of : Nat → Int64) (hn : n < 2 ^ 31) (hn1 : 1 ≤ n) : Met l yL_told (.codeWith yL_told cL_told 5 (some .int) [(0, 10, 13, 13)] :: Gw) ({ frames := 7, cells := 1, slots := 6, locals := 115 }) (va_Pc [.ref k0, .int 1, .int p1, .ref o0] (mpre D [(aI, .int), (aL, .long), (aZ, .boolean)] [(k0, .inr (4, [.ref h4, lo, .ref h0, .int powered, .int stepsDone])), (h0, .inr (1, [.int wayToOther, .ref h1, .ref h2, .int place, .int speed, .int way, .int topSpeed, .int gain, .int brake, .int darkSpeed, .int rideSpeed, .int kilos, .int mostKilos, .int openContacts, .int fireFloor, .int ride, .int starts, .int distance, .int hardFalls])), (h1, .inr (2, [.int dstate, .int dplace, .int dplaces, .int dhold, .int dsteps, .int dbeam, .int dob, .int doc])), (h2, .inr (0, [.ref h3, .int ccount, .int cover])), (h3, .inl (aI, 8, .inl cf)), (h4, .inr (3, [.ref h5, .int gap])), (h5, .inl (aI, n, .inl pf)), (o0, .inl (aL, 1, .inr (.inl of)))] sz)) ((fun A : Nat → Prop => va_Qi (fun (r : Int32) (u : (Nat → Int64)) => F_h_told_1 powered place speed way openContacts fireFloor ride dstate dplace ccount cf n pf p1 of = (r, u)) (mpst D A (fun (u : (Nat → Int64)) => [(k0, .inr (4, [.ref h4, lo, .ref h0, .int powered, .int stepsDone])), (h0, .inr (1, [.int wayToOther, .ref h1, .ref h2, .int place, .int speed, .int way, .int topSpeed, .int gain, .int brake, .int darkSpeed, .int rideSpeed, .int kilos, .int mostKilos, .int openContacts, .int fireFloor, .int ride, .int starts, .int distance, .int hardFalls])), (h1, .inr (2, [.int dstate, .int dplace, .int dplaces, .int dhold, .int dsteps, .int dbeam, .int dob, .int doc])), (h2, .inr (0, [.ref h3, .int ccount, .int cover])), (h3, .inl (aI, 8, .inl cf)), (h4, .inr (3, [.ref h5, .int gap])), (h5, .inl (aI, n, .inl pf)), (o0, .inl (aL, 1, .inr (.inl u)))])) A) (va_A ([(k0, .inr (4, [.ref h4, lo, .ref h0, .int powered, .int stepsDone])), (h0, .inr (1, [.int wayToOther, .ref h1, .ref h2, .int place, .int speed, .int way, .int topSpeed, .int gain, .int brake, .int darkSpeed, .int rideSpeed, .int kilos, .int mostKilos, .int openContacts, .int fireFloor, .int ride, .int starts, .int distance, .int hardFalls])), (h1, .inr (2, [.int dstate, .int dplace, .int dplaces, .int dhold, .int dsteps, .int dbeam, .int dob, .int doc])), (h2, .inr (0, [.ref h3, .int ccount, .int cover])), (h3, .inl (aI, 8, .inl cf)), (h4, .inr (3, [.ref h5, .int gap])), (h5, .inl (aI, n, .inl pf)), (o0, .inl (aL, 1, .inr (.inl of)))]) sz)) 1 6 (va_A ([(k0, .inr (4, [.ref h4, lo, .ref h0, .int powered, .int stepsDone])), (h0, .inr (1, [.int wayToOther, .ref h1, .ref h2, .int place, .int speed, .int way, .int topSpeed, .int gain, .int brake, .int darkSpeed, .int rideSpeed, .int kilos, .int mostKilos, .int openContacts, .int fireFloor, .int ride, .int starts, .int distance, .int hardFalls])), (h1, .inr (2, [.int dstate, .int dplace, .int dplaces, .int dhold, .int dsteps, .int dbeam, .int dob, .int doc])), (h2, .inr (0, [.ref h3, .int ccount, .int cover])), (h3, .inl (aI, 8, .inl cf)), (h4, .inr (3, [.ref h5, .int gap])), (h5, .inl (aI, n, .inl pf)), (o0, .inl (aL, 1, .inr (.inl of)))]) sz) := by
  refine enh (cc := cL_told) (maxL := 5) (ret := (some .int)) (Qc := (fun A : Nat → Prop => va_Qi (fun (r : Int32) (u : (Nat → Int64)) => F_h_told_1 powered place speed way openContacts fireFloor ride dstate dplace ccount cf n pf p1 of = (r, u)) (mpst D A (fun (u : (Nat → Int64)) => [(k0, .inr (4, [.ref h4, lo, .ref h0, .int powered, .int stepsDone])), (h0, .inr (1, [.int wayToOther, .ref h1, .ref h2, .int place, .int speed, .int way, .int topSpeed, .int gain, .int brake, .int darkSpeed, .int rideSpeed, .int kilos, .int mostKilos, .int openContacts, .int fireFloor, .int ride, .int starts, .int distance, .int hardFalls])), (h1, .inr (2, [.int dstate, .int dplace, .int dplaces, .int dhold, .int dsteps, .int dbeam, .int dob, .int doc])), (h2, .inr (0, [.ref h3, .int ccount, .int cover])), (h3, .inl (aI, 8, .inl cf)), (h4, .inr (3, [.ref h5, .int gap])), (h5, .inl (aI, n, .inl pf)), (o0, .inl (aL, 1, .inr (.inl u)))])) A)) (by decide) rfl (Nat.le_of_ble_eq_true rfl) ?_
  intro p e s m args below meth c A ls Q hQ hx hb hr hts hown hlk hnm hml htab hA hS hP hK hD hE hl
  have hown : s.vm.findClass RL = some m.cls := hown
  have hl : lv_has ls 5 [(0, .ref k0), (1, .int 1), (2, .int p1), (3, .ref o0)] := hl
  have hG := F_h_told_1_u powered place speed way openContacts fireFloor ride dstate dplace ccount cf n pf p1 of
  refine lv_aload_n hx hb dL_told_0 rfl (lv_at hl 3 rfl) ?_
  refine lv_iconst (v := 0) hx hb dL_told_1 (by decide) ?_
  refine lv_aload_n hx hb dL_told_2 rfl (lv_at hl 0 rfl) ?_
  refine lv_iload_n hx hb dL_told_3 rfl (lv_at hl 1 rfl) ?_
  refine lv_iload_n hx hb dL_told_4 rfl (lv_at hl 2 rfl) ?_
  refine my_ci (wr := [(o0, .inl (aL, 1, .inr (.inl of)))]) [0, 1, 2, 3, 4, 5, 6] [7] (vx_runV (As := [.int 1, .int p1]) (rest := [.int 0, .ref o0]) ⟨hx, hb, hml, hown, hts⟩ (c_told_1 l hl9 D aI aL aZ _ k0 h4 powered stepsDone lo h0 h1 h2 wayToOther place speed way topSpeed gain brake darkSpeed rideSpeed kilos mostKilos openContacts fireFloor ride starts distance hardFalls dstate dplace dplaces dhold dsteps dbeam dob doc h3 ccount cover cf h5 gap n pf p1 hn hn1) (cwV 2 hts (gV w_615 w_616 w_617 w_35 w_618) rfl rfl rfl (by decide +kernel) ⟨Nat.le_of_ble_eq_true rfl, Nat.le_of_ble_eq_true rfl⟩) (prev_of hK hP hD hS hA hE [0, 1, 2, 3, 4, 5, 6] rfl (by decide) (ci := 4) rfl 0 rfl _) rfl rfl hl.1 rfl (lv_room (Nat.le_of_ble_eq_true rfl)) dL_told_5 ⟨Nat.le_of_ble_eq_true rfl, Nat.le_of_ble_eq_true rfl⟩) hP hD hS hA rfl rfl (by decide) (by decide) (fun E ce q9 u H locs hw hEx hP hD hS hce hcv hcl => ?_) (fun r_1 u_ H locs hw_2 hP hD hS => ?_)
  · obtain ⟨hw, hu⟩ := hw
    have htab : c.exceptionTable.toList = [⟨0, 10, 13, 13⟩] := htab
    subst hu
    have hG := hG.trans (ch_1 hw)
    refine my_h1 (u := 1) hown htab (by decide) (by decide) (hts _ (mG w_105)) hE hEx hce hcv hcl ?_
    have hP : va_P D vwCl [(o0, .inl (aL, 1, .inr (.inl of))), (k0, .inr (4, [.ref h4, lo, .ref h0, .int powered, .int stepsDone])), (h0, .inr (1, [.int wayToOther, .ref h1, .ref h2, .int place, .int speed, .int way, .int topSpeed, .int gain, .int brake, .int darkSpeed, .int rideSpeed, .int kilos, .int mostKilos, .int openContacts, .int fireFloor, .int ride, .int starts, .int distance, .int hardFalls])), (h1, .inr (2, [.int dstate, .int dplace, .int dplaces, .int dhold, .int dsteps, .int dbeam, .int dob, .int doc])), (h2, .inr (0, [.ref h3, .int ccount, .int cover])), (h3, .inl (aI, 8, .inl cf)), (h4, .inr (3, [.ref h5, .int gap])), (h5, .inl (aI, n, .inl pf))] H := hP
    have hD : va_D A [(o0, .inl (aL, 1, .inr (.inl of))), (k0, .inr (4, [.ref h4, lo, .ref h0, .int powered, .int stepsDone])), (h0, .inr (1, [.int wayToOther, .ref h1, .ref h2, .int place, .int speed, .int way, .int topSpeed, .int gain, .int brake, .int darkSpeed, .int rideSpeed, .int kilos, .int mostKilos, .int openContacts, .int fireFloor, .int ride, .int starts, .int distance, .int hardFalls])), (h1, .inr (2, [.int dstate, .int dplace, .int dplaces, .int dhold, .int dsteps, .int dbeam, .int dob, .int doc])), (h2, .inr (0, [.ref h3, .int ccount, .int cover])), (h3, .inl (aI, 8, .inl cf)), (h4, .inr (3, [.ref h5, .int gap])), (h5, .inl (aI, n, .inl pf))] := hD
    refine lv_astore (lv' := [(4, .ref q9), (0, .ref k0), (1, .int 1), (2, .int p1), (3, .ref o0)]) hx hb dL_told_13 hl (by decide) rfl (fun ls hl => ?_)
    refine lv_iconst (v := 1) hx hb dL_told_15 (by decide) ?_
    have hP := hP.sub (ws' := [(k0, .inr (4, [.ref h4, lo, .ref h0, .int powered, .int stepsDone])), (h0, .inr (1, [.int wayToOther, .ref h1, .ref h2, .int place, .int speed, .int way, .int topSpeed, .int gain, .int brake, .int darkSpeed, .int rideSpeed, .int kilos, .int mostKilos, .int openContacts, .int fireFloor, .int ride, .int starts, .int distance, .int hardFalls])), (h1, .inr (2, [.int dstate, .int dplace, .int dplaces, .int dhold, .int dsteps, .int dbeam, .int dob, .int doc])), (h2, .inr (0, [.ref h3, .int ccount, .int cover])), (h3, .inl (aI, 8, .inl cf)), (h4, .inr (3, [.ref h5, .int gap])), (h5, .inl (aI, n, .inl pf)), (o0, .inl (aL, 1, .inr (.inl of)))]) [1, 2, 3, 4, 5, 6, 7, 0] rfl
    have hD := hD.sub (ws' := [(k0, .inr (4, [.ref h4, lo, .ref h0, .int powered, .int stepsDone])), (h0, .inr (1, [.int wayToOther, .ref h1, .ref h2, .int place, .int speed, .int way, .int topSpeed, .int gain, .int brake, .int darkSpeed, .int rideSpeed, .int kilos, .int mostKilos, .int openContacts, .int fireFloor, .int ride, .int starts, .int distance, .int hardFalls])), (h1, .inr (2, [.int dstate, .int dplace, .int dplaces, .int dhold, .int dsteps, .int dbeam, .int dob, .int doc])), (h2, .inr (0, [.ref h3, .int ccount, .int cover])), (h3, .inl (aI, 8, .inl cf)), (h4, .inr (3, [.ref h5, .int gap])), (h5, .inl (aI, n, .inl pf)), (o0, .inl (aL, 1, .inr (.inl of)))]) [1, 2, 3, 4, 5, 6, 7, 0] (by decide) rfl
    exact rt_i hQ hx hb hr of hG hP hD hS (Nat.le_of_ble_eq_true rfl) (Nat.le_of_ble_eq_true rfl) dL_told_16 hlk
  · skip
    have hw_2 : F_told_1 powered place speed way openContacts fireFloor ride dstate dplace ccount cf n pf p1 = .inr r_1 := hw_2
    have hG := hG.trans (ch_r hw_2)
    have hP : va_P D vwCl [(o0, .inl (aL, 1, .inr (.inl of))), (k0, .inr (4, [.ref h4, lo, .ref h0, .int powered, .int stepsDone])), (h0, .inr (1, [.int wayToOther, .ref h1, .ref h2, .int place, .int speed, .int way, .int topSpeed, .int gain, .int brake, .int darkSpeed, .int rideSpeed, .int kilos, .int mostKilos, .int openContacts, .int fireFloor, .int ride, .int starts, .int distance, .int hardFalls])), (h1, .inr (2, [.int dstate, .int dplace, .int dplaces, .int dhold, .int dsteps, .int dbeam, .int dob, .int doc])), (h2, .inr (0, [.ref h3, .int ccount, .int cover])), (h3, .inl (aI, 8, .inl cf)), (h4, .inr (3, [.ref h5, .int gap])), (h5, .inl (aI, n, .inl pf))] H := hP
    have hD : va_D A [(o0, .inl (aL, 1, .inr (.inl of))), (k0, .inr (4, [.ref h4, lo, .ref h0, .int powered, .int stepsDone])), (h0, .inr (1, [.int wayToOther, .ref h1, .ref h2, .int place, .int speed, .int way, .int topSpeed, .int gain, .int brake, .int darkSpeed, .int rideSpeed, .int kilos, .int mostKilos, .int openContacts, .int fireFloor, .int ride, .int starts, .int distance, .int hardFalls])), (h1, .inr (2, [.int dstate, .int dplace, .int dplaces, .int dhold, .int dsteps, .int dbeam, .int dob, .int doc])), (h2, .inr (0, [.ref h3, .int ccount, .int cover])), (h3, .inl (aI, 8, .inl cf)), (h4, .inr (3, [.ref h5, .int gap])), (h5, .inl (aI, n, .inl pf))] := hD
    refine lv_i2l (v := (r_1).toInt64) hx hb dL_told_8 rfl ?_
    refine va_last hx hb hK hP hD hS 0 1 rfl rfl (by unfold vp_in; decide) dL_told_9 (fun H locs hP hD hS => ?_)
    have hP : va_P D vwCl [(o0, .inl (aL, 1, .inr (.inl (vp_updL of (0 : Int32).toNatClampNeg ((r_1).toInt64))))), (k0, .inr (4, [.ref h4, lo, .ref h0, .int powered, .int stepsDone])), (h0, .inr (1, [.int wayToOther, .ref h1, .ref h2, .int place, .int speed, .int way, .int topSpeed, .int gain, .int brake, .int darkSpeed, .int rideSpeed, .int kilos, .int mostKilos, .int openContacts, .int fireFloor, .int ride, .int starts, .int distance, .int hardFalls])), (h1, .inr (2, [.int dstate, .int dplace, .int dplaces, .int dhold, .int dsteps, .int dbeam, .int dob, .int doc])), (h2, .inr (0, [.ref h3, .int ccount, .int cover])), (h3, .inl (aI, 8, .inl cf)), (h4, .inr (3, [.ref h5, .int gap])), (h5, .inl (aI, n, .inl pf))] H := hP
    have hD : va_D A [(o0, .inl (aL, 1, .inr (.inl (vp_updL of (0 : Int32).toNatClampNeg ((r_1).toInt64))))), (k0, .inr (4, [.ref h4, lo, .ref h0, .int powered, .int stepsDone])), (h0, .inr (1, [.int wayToOther, .ref h1, .ref h2, .int place, .int speed, .int way, .int topSpeed, .int gain, .int brake, .int darkSpeed, .int rideSpeed, .int kilos, .int mostKilos, .int openContacts, .int fireFloor, .int ride, .int starts, .int distance, .int hardFalls])), (h1, .inr (2, [.int dstate, .int dplace, .int dplaces, .int dhold, .int dsteps, .int dbeam, .int dob, .int doc])), (h2, .inr (0, [.ref h3, .int ccount, .int cover])), (h3, .inl (aI, 8, .inl cf)), (h4, .inr (3, [.ref h5, .int gap])), (h5, .inl (aI, n, .inl pf))] := hD
    refine lv_goto (tgt := 17) hx hb dL_told_10 (by decide) ?_
    refine lv_iconst (v := 0) hx hb dL_told_17 (by decide) ?_
    have hP := hP.sub (ws' := [(k0, .inr (4, [.ref h4, lo, .ref h0, .int powered, .int stepsDone])), (h0, .inr (1, [.int wayToOther, .ref h1, .ref h2, .int place, .int speed, .int way, .int topSpeed, .int gain, .int brake, .int darkSpeed, .int rideSpeed, .int kilos, .int mostKilos, .int openContacts, .int fireFloor, .int ride, .int starts, .int distance, .int hardFalls])), (h1, .inr (2, [.int dstate, .int dplace, .int dplaces, .int dhold, .int dsteps, .int dbeam, .int dob, .int doc])), (h2, .inr (0, [.ref h3, .int ccount, .int cover])), (h3, .inl (aI, 8, .inl cf)), (h4, .inr (3, [.ref h5, .int gap])), (h5, .inl (aI, n, .inl pf)), (o0, .inl (aL, 1, .inr (.inl (vp_updL of (0 : Int32).toNatClampNeg ((r_1).toInt64)))))]) [1, 2, 3, 4, 5, 6, 7, 0] rfl
    have hD := hD.sub (ws' := [(k0, .inr (4, [.ref h4, lo, .ref h0, .int powered, .int stepsDone])), (h0, .inr (1, [.int wayToOther, .ref h1, .ref h2, .int place, .int speed, .int way, .int topSpeed, .int gain, .int brake, .int darkSpeed, .int rideSpeed, .int kilos, .int mostKilos, .int openContacts, .int fireFloor, .int ride, .int starts, .int distance, .int hardFalls])), (h1, .inr (2, [.int dstate, .int dplace, .int dplaces, .int dhold, .int dsteps, .int dbeam, .int dob, .int doc])), (h2, .inr (0, [.ref h3, .int ccount, .int cover])), (h3, .inl (aI, 8, .inl cf)), (h4, .inr (3, [.ref h5, .int gap])), (h5, .inl (aI, n, .inl pf)), (o0, .inl (aL, 1, .inr (.inl (vp_updL of (0 : Int32).toNatClampNeg ((r_1).toInt64)))))]) [1, 2, 3, 4, 5, 6, 7, 0] (by decide) rfl
    exact rt_i hQ hx hb hr (vp_updL of (0 : Int32).toNatClampNeg ((r_1).toInt64)) hG hP hD hS (Nat.le_of_ble_eq_true rfl) (Nat.le_of_ble_eq_true rfl) dL_told_18 hlk
def F_h_told_0n : Int32 :=
  ch F_told_0n
    (1)
    (1) fun _ =>
    1
theorem F_h_told_0n_u : F_h_told_0n =
  ((ch F_told_0n
    (1)
    (1) fun _ =>
    1) : Int32) := rfl
set_option maxHeartbeats 4000000 in
set_option maxRecDepth 100000 in
theorem c_h_told_0n (l : Launch) (hl9 : l.stackTraces = false) (D : va_G) (aI aL aZ : ClassId) (sz : Nat) (k0 : Nat) (h4 : Nat) (powered : Int32) (stepsDone : Int32) (up : Value) (p1 : Int32) (o0 : Nat) (of : Nat → Int64) : Met l yL_told (.codeWith yL_told cL_told 5 (some .int) [(0, 10, 13, 13)] :: Gw) ({ frames := 8, cells := 1, slots := 6, locals := 137 }) (va_Pc [.ref k0, .int 0, .int p1, .ref o0] (mpre D [(aI, .int), (aL, .long), (aZ, .boolean)] [(k0, .inr (4, [.ref h4, .null, up, .int powered, .int stepsDone])), (o0, .inl (aL, 1, .inr (.inl of)))] sz)) ((fun A : Nat → Prop => va_Qi (fun (r : Int32) (u : Unit) => F_h_told_0n = r) (mpst D A (fun (u : Unit) => [(k0, .inr (4, [.ref h4, .null, up, .int powered, .int stepsDone])), (o0, .inl (aL, 1, .inr (.inl of)))])) A) (va_A ([(k0, .inr (4, [.ref h4, .null, up, .int powered, .int stepsDone])), (o0, .inl (aL, 1, .inr (.inl of)))]) sz)) 1 6 (va_A ([(k0, .inr (4, [.ref h4, .null, up, .int powered, .int stepsDone])), (o0, .inl (aL, 1, .inr (.inl of)))]) sz) := by
  refine enh (cc := cL_told) (maxL := 5) (ret := (some .int)) (Qc := (fun A : Nat → Prop => va_Qi (fun (r : Int32) (u : Unit) => F_h_told_0n = r) (mpst D A (fun (u : Unit) => [(k0, .inr (4, [.ref h4, .null, up, .int powered, .int stepsDone])), (o0, .inl (aL, 1, .inr (.inl of)))])) A)) (by decide) rfl (Nat.le_of_ble_eq_true rfl) ?_
  intro p e s m args below meth c A ls Q hQ hx hb hr hts hown hlk hnm hml htab hA hS hP hK hD hE hl
  have hown : s.vm.findClass RL = some m.cls := hown
  have hl : lv_has ls 5 [(0, .ref k0), (1, .int 0), (2, .int p1), (3, .ref o0)] := hl
  have hG := F_h_told_0n_u
  refine lv_aload_n hx hb dL_told_0 rfl (lv_at hl 3 rfl) ?_
  refine lv_iconst (v := 0) hx hb dL_told_1 (by decide) ?_
  refine lv_aload_n hx hb dL_told_2 rfl (lv_at hl 0 rfl) ?_
  refine lv_iload_n hx hb dL_told_3 rfl (lv_at hl 1 rfl) ?_
  refine lv_iload_n hx hb dL_told_4 rfl (lv_at hl 2 rfl) ?_
  refine my_ci (wr := [(o0, .inl (aL, 1, .inr (.inl of)))]) [0] [1] (vx_runV (As := [.int 0, .int p1]) (rest := [.int 0, .ref o0]) ⟨hx, hb, hml, hown, hts⟩ (c_told_0n l hl9 D aI aL aZ _ k0 h4 powered stepsDone up p1) (cwV 2 hts (gV w_615 w_616 w_617 w_35 w_618) rfl rfl rfl (by decide +kernel) ⟨Nat.le_of_ble_eq_true rfl, Nat.le_of_ble_eq_true rfl⟩) (prev_of hK hP hD hS hA hE [0] rfl (by decide) (ci := 4) rfl 0 rfl _) rfl rfl hl.1 rfl (lv_room (Nat.le_of_ble_eq_true rfl)) dL_told_5 ⟨Nat.le_of_ble_eq_true rfl, Nat.le_of_ble_eq_true rfl⟩) hP hD hS hA rfl rfl (by decide) (by decide) (fun E ce q9 u H locs hw hEx hP hD hS hce hcv hcl => ?_) (fun r_1 u_ H locs hw_2 hP hD hS => ?_)
  · obtain ⟨hw, hu⟩ := hw
    have htab : c.exceptionTable.toList = [⟨0, 10, 13, 13⟩] := htab
    subst hu
    have hG := hG.trans (ch_1 hw)
    refine my_h1 (u := 1) hown htab (by decide) (by decide) (hts _ (mG w_105)) hE hEx hce hcv hcl ?_
    have hP : va_P D vwCl [(o0, .inl (aL, 1, .inr (.inl of))), (k0, .inr (4, [.ref h4, .null, up, .int powered, .int stepsDone]))] H := hP
    have hD : va_D A [(o0, .inl (aL, 1, .inr (.inl of))), (k0, .inr (4, [.ref h4, .null, up, .int powered, .int stepsDone]))] := hD
    refine lv_astore (lv' := [(4, .ref q9), (0, .ref k0), (1, .int 0), (2, .int p1), (3, .ref o0)]) hx hb dL_told_13 hl (by decide) rfl (fun ls hl => ?_)
    refine lv_iconst (v := 1) hx hb dL_told_15 (by decide) ?_
    have hP := hP.sub (ws' := [(k0, .inr (4, [.ref h4, .null, up, .int powered, .int stepsDone])), (o0, .inl (aL, 1, .inr (.inl of)))]) [1, 0] rfl
    have hD := hD.sub (ws' := [(k0, .inr (4, [.ref h4, .null, up, .int powered, .int stepsDone])), (o0, .inl (aL, 1, .inr (.inl of)))]) [1, 0] (by decide) rfl
    exact rt_i hQ hx hb hr () hG hP hD hS (Nat.le_of_ble_eq_true rfl) (Nat.le_of_ble_eq_true rfl) dL_told_16 hlk
  · skip
    exact False.elim hw_2
def F_h_told_1n : Int32 :=
  ch F_told_1n
    (1)
    (1) fun _ =>
    1
theorem F_h_told_1n_u : F_h_told_1n =
  ((ch F_told_1n
    (1)
    (1) fun _ =>
    1) : Int32) := rfl
set_option maxHeartbeats 4000000 in
set_option maxRecDepth 100000 in
theorem c_h_told_1n (l : Launch) (hl9 : l.stackTraces = false) (D : va_G) (aI aL aZ : ClassId) (sz : Nat) (k0 : Nat) (h4 : Nat) (powered : Int32) (stepsDone : Int32) (lo : Value) (p1 : Int32) (o0 : Nat) (of : Nat → Int64) : Met l yL_told (.codeWith yL_told cL_told 5 (some .int) [(0, 10, 13, 13)] :: Gw) ({ frames := 8, cells := 1, slots := 6, locals := 137 }) (va_Pc [.ref k0, .int 1, .int p1, .ref o0] (mpre D [(aI, .int), (aL, .long), (aZ, .boolean)] [(k0, .inr (4, [.ref h4, lo, .null, .int powered, .int stepsDone])), (o0, .inl (aL, 1, .inr (.inl of)))] sz)) ((fun A : Nat → Prop => va_Qi (fun (r : Int32) (u : Unit) => F_h_told_1n = r) (mpst D A (fun (u : Unit) => [(k0, .inr (4, [.ref h4, lo, .null, .int powered, .int stepsDone])), (o0, .inl (aL, 1, .inr (.inl of)))])) A) (va_A ([(k0, .inr (4, [.ref h4, lo, .null, .int powered, .int stepsDone])), (o0, .inl (aL, 1, .inr (.inl of)))]) sz)) 1 6 (va_A ([(k0, .inr (4, [.ref h4, lo, .null, .int powered, .int stepsDone])), (o0, .inl (aL, 1, .inr (.inl of)))]) sz) := by
  refine enh (cc := cL_told) (maxL := 5) (ret := (some .int)) (Qc := (fun A : Nat → Prop => va_Qi (fun (r : Int32) (u : Unit) => F_h_told_1n = r) (mpst D A (fun (u : Unit) => [(k0, .inr (4, [.ref h4, lo, .null, .int powered, .int stepsDone])), (o0, .inl (aL, 1, .inr (.inl of)))])) A)) (by decide) rfl (Nat.le_of_ble_eq_true rfl) ?_
  intro p e s m args below meth c A ls Q hQ hx hb hr hts hown hlk hnm hml htab hA hS hP hK hD hE hl
  have hown : s.vm.findClass RL = some m.cls := hown
  have hl : lv_has ls 5 [(0, .ref k0), (1, .int 1), (2, .int p1), (3, .ref o0)] := hl
  have hG := F_h_told_1n_u
  refine lv_aload_n hx hb dL_told_0 rfl (lv_at hl 3 rfl) ?_
  refine lv_iconst (v := 0) hx hb dL_told_1 (by decide) ?_
  refine lv_aload_n hx hb dL_told_2 rfl (lv_at hl 0 rfl) ?_
  refine lv_iload_n hx hb dL_told_3 rfl (lv_at hl 1 rfl) ?_
  refine lv_iload_n hx hb dL_told_4 rfl (lv_at hl 2 rfl) ?_
  refine my_ci (wr := [(o0, .inl (aL, 1, .inr (.inl of)))]) [0] [1] (vx_runV (As := [.int 1, .int p1]) (rest := [.int 0, .ref o0]) ⟨hx, hb, hml, hown, hts⟩ (c_told_1n l hl9 D aI aL aZ _ k0 h4 powered stepsDone lo p1) (cwV 2 hts (gV w_615 w_616 w_617 w_35 w_618) rfl rfl rfl (by decide +kernel) ⟨Nat.le_of_ble_eq_true rfl, Nat.le_of_ble_eq_true rfl⟩) (prev_of hK hP hD hS hA hE [0] rfl (by decide) (ci := 4) rfl 0 rfl _) rfl rfl hl.1 rfl (lv_room (Nat.le_of_ble_eq_true rfl)) dL_told_5 ⟨Nat.le_of_ble_eq_true rfl, Nat.le_of_ble_eq_true rfl⟩) hP hD hS hA rfl rfl (by decide) (by decide) (fun E ce q9 u H locs hw hEx hP hD hS hce hcv hcl => ?_) (fun r_1 u_ H locs hw_2 hP hD hS => ?_)
  · obtain ⟨hw, hu⟩ := hw
    have htab : c.exceptionTable.toList = [⟨0, 10, 13, 13⟩] := htab
    subst hu
    have hG := hG.trans (ch_1 hw)
    refine my_h1 (u := 1) hown htab (by decide) (by decide) (hts _ (mG w_105)) hE hEx hce hcv hcl ?_
    have hP : va_P D vwCl [(o0, .inl (aL, 1, .inr (.inl of))), (k0, .inr (4, [.ref h4, lo, .null, .int powered, .int stepsDone]))] H := hP
    have hD : va_D A [(o0, .inl (aL, 1, .inr (.inl of))), (k0, .inr (4, [.ref h4, lo, .null, .int powered, .int stepsDone]))] := hD
    refine lv_astore (lv' := [(4, .ref q9), (0, .ref k0), (1, .int 1), (2, .int p1), (3, .ref o0)]) hx hb dL_told_13 hl (by decide) rfl (fun ls hl => ?_)
    refine lv_iconst (v := 1) hx hb dL_told_15 (by decide) ?_
    have hP := hP.sub (ws' := [(k0, .inr (4, [.ref h4, lo, .null, .int powered, .int stepsDone])), (o0, .inl (aL, 1, .inr (.inl of)))]) [1, 0] rfl
    have hD := hD.sub (ws' := [(k0, .inr (4, [.ref h4, lo, .null, .int powered, .int stepsDone])), (o0, .inl (aL, 1, .inr (.inl of)))]) [1, 0] (by decide) rfl
    exact rt_i hQ hx hb hr () hG hP hD hS (Nat.le_of_ble_eq_true rfl) (Nat.le_of_ble_eq_true rfl) dL_told_16 hlk
  · skip
    exact False.elim hw_2
def F_h_told_x : Int32 :=
  ch F_told_x
    (1)
    (1) fun _ =>
    1
theorem F_h_told_x_u : F_h_told_x =
  ((ch F_told_x
    (1)
    (1) fun _ =>
    1) : Int32) := rfl
set_option maxHeartbeats 4000000 in
set_option maxRecDepth 100000 in
theorem c_h_told_x (l : Launch) (hl9 : l.stackTraces = false) (D : va_G) (aI aL aZ : ClassId) (sz : Nat) (k0 : Nat) (h4 : Nat) (powered : Int32) (stepsDone : Int32) (lo : Value) (up : Value) (p0 : Int32) (p1 : Int32) (o0 : Nat) (of : Nat → Int64) (h9 : ¬ p0 = 0) (h8 : ¬ p0 = 1) : Met l yL_told (.codeWith yL_told cL_told 5 (some .int) [(0, 10, 13, 13)] :: Gw) ({ frames := 8, cells := 1, slots := 6, locals := 137 }) (va_Pc [.ref k0, .int p0, .int p1, .ref o0] (mpre D [(aI, .int), (aL, .long), (aZ, .boolean)] [(k0, .inr (4, [.ref h4, lo, up, .int powered, .int stepsDone])), (o0, .inl (aL, 1, .inr (.inl of)))] sz)) ((fun A : Nat → Prop => va_Qi (fun (r : Int32) (u : Unit) => F_h_told_x = r) (mpst D A (fun (u : Unit) => [(k0, .inr (4, [.ref h4, lo, up, .int powered, .int stepsDone])), (o0, .inl (aL, 1, .inr (.inl of)))])) A) (va_A ([(k0, .inr (4, [.ref h4, lo, up, .int powered, .int stepsDone])), (o0, .inl (aL, 1, .inr (.inl of)))]) sz)) 1 6 (va_A ([(k0, .inr (4, [.ref h4, lo, up, .int powered, .int stepsDone])), (o0, .inl (aL, 1, .inr (.inl of)))]) sz) := by
  refine enh (cc := cL_told) (maxL := 5) (ret := (some .int)) (Qc := (fun A : Nat → Prop => va_Qi (fun (r : Int32) (u : Unit) => F_h_told_x = r) (mpst D A (fun (u : Unit) => [(k0, .inr (4, [.ref h4, lo, up, .int powered, .int stepsDone])), (o0, .inl (aL, 1, .inr (.inl of)))])) A)) (by decide) rfl (Nat.le_of_ble_eq_true rfl) ?_
  intro p e s m args below meth c A ls Q hQ hx hb hr hts hown hlk hnm hml htab hA hS hP hK hD hE hl
  have hown : s.vm.findClass RL = some m.cls := hown
  have hl : lv_has ls 5 [(0, .ref k0), (1, .int p0), (2, .int p1), (3, .ref o0)] := hl
  have hG := F_h_told_x_u
  refine lv_aload_n hx hb dL_told_0 rfl (lv_at hl 3 rfl) ?_
  refine lv_iconst (v := 0) hx hb dL_told_1 (by decide) ?_
  refine lv_aload_n hx hb dL_told_2 rfl (lv_at hl 0 rfl) ?_
  refine lv_iload_n hx hb dL_told_3 rfl (lv_at hl 1 rfl) ?_
  refine lv_iload_n hx hb dL_told_4 rfl (lv_at hl 2 rfl) ?_
  refine my_ci (wr := [(o0, .inl (aL, 1, .inr (.inl of)))]) [0] [1] (vx_runV (As := [.int p0, .int p1]) (rest := [.int 0, .ref o0]) ⟨hx, hb, hml, hown, hts⟩ (c_told_x l hl9 D aI aL aZ _ k0 h4 powered stepsDone lo up p0 p1 h9 h8) (cwV 2 hts (gV w_615 w_616 w_617 w_35 w_618) rfl rfl rfl (by decide +kernel) ⟨Nat.le_of_ble_eq_true rfl, Nat.le_of_ble_eq_true rfl⟩) (prev_of hK hP hD hS hA hE [0] rfl (by decide) (ci := 4) rfl 0 rfl _) rfl rfl hl.1 rfl (lv_room (Nat.le_of_ble_eq_true rfl)) dL_told_5 ⟨Nat.le_of_ble_eq_true rfl, Nat.le_of_ble_eq_true rfl⟩) hP hD hS hA rfl rfl (by decide) (by decide) (fun E ce q9 u H locs hw hEx hP hD hS hce hcv hcl => ?_) (fun r_1 u_ H locs hw_2 hP hD hS => ?_)
  · obtain ⟨hw, hu⟩ := hw
    have htab : c.exceptionTable.toList = [⟨0, 10, 13, 13⟩] := htab
    subst hu
    have hG := hG.trans (ch_1 hw)
    refine my_h1 (u := 1) hown htab (by decide) (by decide) (hts _ (mG w_105)) hE hEx hce hcv hcl ?_
    have hP : va_P D vwCl [(o0, .inl (aL, 1, .inr (.inl of))), (k0, .inr (4, [.ref h4, lo, up, .int powered, .int stepsDone]))] H := hP
    have hD : va_D A [(o0, .inl (aL, 1, .inr (.inl of))), (k0, .inr (4, [.ref h4, lo, up, .int powered, .int stepsDone]))] := hD
    refine lv_astore (lv' := [(4, .ref q9), (0, .ref k0), (1, .int p0), (2, .int p1), (3, .ref o0)]) hx hb dL_told_13 hl (by decide) rfl (fun ls hl => ?_)
    refine lv_iconst (v := 1) hx hb dL_told_15 (by decide) ?_
    have hP := hP.sub (ws' := [(k0, .inr (4, [.ref h4, lo, up, .int powered, .int stepsDone])), (o0, .inl (aL, 1, .inr (.inl of)))]) [1, 0] rfl
    have hD := hD.sub (ws' := [(k0, .inr (4, [.ref h4, lo, up, .int powered, .int stepsDone])), (o0, .inl (aL, 1, .inr (.inl of)))]) [1, 0] (by decide) rfl
    exact rt_i hQ hx hb hr () hG hP hD hS (Nat.le_of_ble_eq_true rfl) (Nat.le_of_ble_eq_true rfl) dL_told_16 hlk
  · skip
    exact False.elim hw_2
theorem dL_wear_0 : decode cL_wear 0 = .ok (.aload_n 3, 1) := by decide +kernel
theorem dL_wear_1 : decode cL_wear 1 = .ok (.iconst 0, 1) := by decide +kernel
theorem dL_wear_2 : decode cL_wear 2 = .ok (.aload_n 0, 1) := by decide +kernel
theorem dL_wear_3 : decode cL_wear 3 = .ok (.iload_n 1, 1) := by decide +kernel
theorem dL_wear_4 : decode cL_wear 4 = .ok (.iload_n 2, 1) := by decide +kernel
theorem dL_wear_5 : decode cL_wear 5 = .ok (.invokevirtual 71, 3) := by decide +kernel
theorem dL_wear_8 : decode cL_wear 8 = .ok (.i2l, 1) := by decide +kernel
theorem dL_wear_9 : decode cL_wear 9 = .ok (.lastore, 1) := by decide +kernel
theorem dL_wear_10 : decode cL_wear 10 = .ok (.goto 7, 3) := by decide +kernel
theorem dL_wear_13 : decode cL_wear 13 = .ok (.astore 4, 2) := by decide +kernel
theorem dL_wear_15 : decode cL_wear 15 = .ok (.iconst 1, 1) := by decide +kernel
theorem dL_wear_16 : decode cL_wear 16 = .ok (.ireturn, 1) := by decide +kernel
theorem dL_wear_17 : decode cL_wear 17 = .ok (.iconst 0, 1) := by decide +kernel
theorem dL_wear_18 : decode cL_wear 18 = .ok (.ireturn, 1) := by decide +kernel
def F_h_wear_0 (starts : Int32) (distance : Int32) (hardFalls : Int32) (dob : Int32) (doc : Int32) (cover : Int32) (p1 : Int32) (of : Nat → Int64) : Int32 × (Nat → Int64) :=
  ch (F_wear_0 starts distance hardFalls dob doc cover p1)
    ((1, of))
    ((1, of)) fun r_1 =>
    (0, (vp_updL of (0 : Int32).toNatClampNeg ((r_1).toInt64)))
theorem F_h_wear_0_u (starts : Int32) (distance : Int32) (hardFalls : Int32) (dob : Int32) (doc : Int32) (cover : Int32) (p1 : Int32) (of : Nat → Int64) : F_h_wear_0 starts distance hardFalls dob doc cover p1 of =
  ((ch (F_wear_0 starts distance hardFalls dob doc cover p1)
    ((1, of))
    ((1, of)) fun r_1 =>
    (0, (vp_updL of (0 : Int32).toNatClampNeg ((r_1).toInt64)))) : Int32 × (Nat → Int64)) := rfl
set_option maxHeartbeats 4000000 in
set_option maxRecDepth 100000 in
theorem c_h_wear_0 (l : Launch) (hl9 : l.stackTraces = false) (D : va_G) (aI aL aZ : ClassId) (sz : Nat) (k0 : Nat) (h4 : Nat) (powered : Int32) (stepsDone : Int32) (up : Value) (h0 : Nat) (h1 : Nat) (h2 : Nat) (wayToOther : Int32) (place : Int32) (speed : Int32) (way : Int32) (topSpeed : Int32) (gain : Int32) (brake : Int32) (darkSpeed : Int32) (rideSpeed : Int32) (kilos : Int32) (mostKilos : Int32) (openContacts : Int32) (fireFloor : Int32) (ride : Int32) (starts : Int32) (distance : Int32) (hardFalls : Int32) (dstate : Int32) (dplace : Int32) (dplaces : Int32) (dhold : Int32) (dsteps : Int32) (dbeam : Int32) (dob : Int32) (doc : Int32) (h3 : Nat) (ccount : Int32) (cover : Int32) (p1 : Int32) (o0 : Nat) (of : Nat → Int64) : Met l yL_wear (.codeWith yL_wear cL_wear 5 (some .int) [(0, 10, 13, 13)] :: Gw) ({ frames := 7, cells := 1, slots := 6, locals := 115 }) (va_Pc [.ref k0, .int 0, .int p1, .ref o0] (mpre D [(aI, .int), (aL, .long), (aZ, .boolean)] [(k0, .inr (4, [.ref h4, .ref h0, up, .int powered, .int stepsDone])), (h0, .inr (1, [.int wayToOther, .ref h1, .ref h2, .int place, .int speed, .int way, .int topSpeed, .int gain, .int brake, .int darkSpeed, .int rideSpeed, .int kilos, .int mostKilos, .int openContacts, .int fireFloor, .int ride, .int starts, .int distance, .int hardFalls])), (h1, .inr (2, [.int dstate, .int dplace, .int dplaces, .int dhold, .int dsteps, .int dbeam, .int dob, .int doc])), (h2, .inr (0, [.ref h3, .int ccount, .int cover])), (o0, .inl (aL, 1, .inr (.inl of)))] sz)) ((fun A : Nat → Prop => va_Qi (fun (r : Int32) (u : (Nat → Int64)) => F_h_wear_0 starts distance hardFalls dob doc cover p1 of = (r, u)) (mpst D A (fun (u : (Nat → Int64)) => [(k0, .inr (4, [.ref h4, .ref h0, up, .int powered, .int stepsDone])), (h0, .inr (1, [.int wayToOther, .ref h1, .ref h2, .int place, .int speed, .int way, .int topSpeed, .int gain, .int brake, .int darkSpeed, .int rideSpeed, .int kilos, .int mostKilos, .int openContacts, .int fireFloor, .int ride, .int starts, .int distance, .int hardFalls])), (h1, .inr (2, [.int dstate, .int dplace, .int dplaces, .int dhold, .int dsteps, .int dbeam, .int dob, .int doc])), (h2, .inr (0, [.ref h3, .int ccount, .int cover])), (o0, .inl (aL, 1, .inr (.inl u)))])) A) (va_A ([(k0, .inr (4, [.ref h4, .ref h0, up, .int powered, .int stepsDone])), (h0, .inr (1, [.int wayToOther, .ref h1, .ref h2, .int place, .int speed, .int way, .int topSpeed, .int gain, .int brake, .int darkSpeed, .int rideSpeed, .int kilos, .int mostKilos, .int openContacts, .int fireFloor, .int ride, .int starts, .int distance, .int hardFalls])), (h1, .inr (2, [.int dstate, .int dplace, .int dplaces, .int dhold, .int dsteps, .int dbeam, .int dob, .int doc])), (h2, .inr (0, [.ref h3, .int ccount, .int cover])), (o0, .inl (aL, 1, .inr (.inl of)))]) sz)) 1 6 (va_A ([(k0, .inr (4, [.ref h4, .ref h0, up, .int powered, .int stepsDone])), (h0, .inr (1, [.int wayToOther, .ref h1, .ref h2, .int place, .int speed, .int way, .int topSpeed, .int gain, .int brake, .int darkSpeed, .int rideSpeed, .int kilos, .int mostKilos, .int openContacts, .int fireFloor, .int ride, .int starts, .int distance, .int hardFalls])), (h1, .inr (2, [.int dstate, .int dplace, .int dplaces, .int dhold, .int dsteps, .int dbeam, .int dob, .int doc])), (h2, .inr (0, [.ref h3, .int ccount, .int cover])), (o0, .inl (aL, 1, .inr (.inl of)))]) sz) := by
  refine enh (cc := cL_wear) (maxL := 5) (ret := (some .int)) (Qc := (fun A : Nat → Prop => va_Qi (fun (r : Int32) (u : (Nat → Int64)) => F_h_wear_0 starts distance hardFalls dob doc cover p1 of = (r, u)) (mpst D A (fun (u : (Nat → Int64)) => [(k0, .inr (4, [.ref h4, .ref h0, up, .int powered, .int stepsDone])), (h0, .inr (1, [.int wayToOther, .ref h1, .ref h2, .int place, .int speed, .int way, .int topSpeed, .int gain, .int brake, .int darkSpeed, .int rideSpeed, .int kilos, .int mostKilos, .int openContacts, .int fireFloor, .int ride, .int starts, .int distance, .int hardFalls])), (h1, .inr (2, [.int dstate, .int dplace, .int dplaces, .int dhold, .int dsteps, .int dbeam, .int dob, .int doc])), (h2, .inr (0, [.ref h3, .int ccount, .int cover])), (o0, .inl (aL, 1, .inr (.inl u)))])) A)) (by decide) rfl (Nat.le_of_ble_eq_true rfl) ?_
  intro p e s m args below meth c A ls Q hQ hx hb hr hts hown hlk hnm hml htab hA hS hP hK hD hE hl
  have hown : s.vm.findClass RL = some m.cls := hown
  have hl : lv_has ls 5 [(0, .ref k0), (1, .int 0), (2, .int p1), (3, .ref o0)] := hl
  have hG := F_h_wear_0_u starts distance hardFalls dob doc cover p1 of
  refine lv_aload_n hx hb dL_wear_0 rfl (lv_at hl 3 rfl) ?_
  refine lv_iconst (v := 0) hx hb dL_wear_1 (by decide) ?_
  refine lv_aload_n hx hb dL_wear_2 rfl (lv_at hl 0 rfl) ?_
  refine lv_iload_n hx hb dL_wear_3 rfl (lv_at hl 1 rfl) ?_
  refine lv_iload_n hx hb dL_wear_4 rfl (lv_at hl 2 rfl) ?_
  refine my_ci (wr := [(o0, .inl (aL, 1, .inr (.inl of)))]) [0, 1, 2, 3] [4] (vx_runV (As := [.int 0, .int p1]) (rest := [.int 0, .ref o0]) ⟨hx, hb, hml, hown, hts⟩ (c_wear_0 l hl9 D aI aL aZ _ k0 h4 powered stepsDone up h0 h1 h2 wayToOther place speed way topSpeed gain brake darkSpeed rideSpeed kilos mostKilos openContacts fireFloor ride starts distance hardFalls dstate dplace dplaces dhold dsteps dbeam dob doc h3 ccount cover p1) (cwV 2 hts (gV w_625 w_626 w_627 w_35 w_628) rfl rfl rfl (by decide +kernel) ⟨Nat.le_of_ble_eq_true rfl, Nat.le_of_ble_eq_true rfl⟩) (prev_of hK hP hD hS hA hE [0, 1, 2, 3] rfl (by decide) (ci := 4) rfl 0 rfl _) rfl rfl hl.1 rfl (lv_room (Nat.le_of_ble_eq_true rfl)) dL_wear_5 ⟨Nat.le_of_ble_eq_true rfl, Nat.le_of_ble_eq_true rfl⟩) hP hD hS hA rfl rfl (by decide) (by decide) (fun E ce q9 u H locs hw hEx hP hD hS hce hcv hcl => ?_) (fun r_1 u_ H locs hw_2 hP hD hS => ?_)
  · obtain ⟨hw, hu⟩ := hw
    have htab : c.exceptionTable.toList = [⟨0, 10, 13, 13⟩] := htab
    subst hu
    have hG := hG.trans (ch_1 hw)
    refine my_h1 (u := 1) hown htab (by decide) (by decide) (hts _ (mG w_105)) hE hEx hce hcv hcl ?_
    have hP : va_P D vwCl [(o0, .inl (aL, 1, .inr (.inl of))), (k0, .inr (4, [.ref h4, .ref h0, up, .int powered, .int stepsDone])), (h0, .inr (1, [.int wayToOther, .ref h1, .ref h2, .int place, .int speed, .int way, .int topSpeed, .int gain, .int brake, .int darkSpeed, .int rideSpeed, .int kilos, .int mostKilos, .int openContacts, .int fireFloor, .int ride, .int starts, .int distance, .int hardFalls])), (h1, .inr (2, [.int dstate, .int dplace, .int dplaces, .int dhold, .int dsteps, .int dbeam, .int dob, .int doc])), (h2, .inr (0, [.ref h3, .int ccount, .int cover]))] H := hP
    have hD : va_D A [(o0, .inl (aL, 1, .inr (.inl of))), (k0, .inr (4, [.ref h4, .ref h0, up, .int powered, .int stepsDone])), (h0, .inr (1, [.int wayToOther, .ref h1, .ref h2, .int place, .int speed, .int way, .int topSpeed, .int gain, .int brake, .int darkSpeed, .int rideSpeed, .int kilos, .int mostKilos, .int openContacts, .int fireFloor, .int ride, .int starts, .int distance, .int hardFalls])), (h1, .inr (2, [.int dstate, .int dplace, .int dplaces, .int dhold, .int dsteps, .int dbeam, .int dob, .int doc])), (h2, .inr (0, [.ref h3, .int ccount, .int cover]))] := hD
    refine lv_astore (lv' := [(4, .ref q9), (0, .ref k0), (1, .int 0), (2, .int p1), (3, .ref o0)]) hx hb dL_wear_13 hl (by decide) rfl (fun ls hl => ?_)
    refine lv_iconst (v := 1) hx hb dL_wear_15 (by decide) ?_
    have hP := hP.sub (ws' := [(k0, .inr (4, [.ref h4, .ref h0, up, .int powered, .int stepsDone])), (h0, .inr (1, [.int wayToOther, .ref h1, .ref h2, .int place, .int speed, .int way, .int topSpeed, .int gain, .int brake, .int darkSpeed, .int rideSpeed, .int kilos, .int mostKilos, .int openContacts, .int fireFloor, .int ride, .int starts, .int distance, .int hardFalls])), (h1, .inr (2, [.int dstate, .int dplace, .int dplaces, .int dhold, .int dsteps, .int dbeam, .int dob, .int doc])), (h2, .inr (0, [.ref h3, .int ccount, .int cover])), (o0, .inl (aL, 1, .inr (.inl of)))]) [1, 2, 3, 4, 0] rfl
    have hD := hD.sub (ws' := [(k0, .inr (4, [.ref h4, .ref h0, up, .int powered, .int stepsDone])), (h0, .inr (1, [.int wayToOther, .ref h1, .ref h2, .int place, .int speed, .int way, .int topSpeed, .int gain, .int brake, .int darkSpeed, .int rideSpeed, .int kilos, .int mostKilos, .int openContacts, .int fireFloor, .int ride, .int starts, .int distance, .int hardFalls])), (h1, .inr (2, [.int dstate, .int dplace, .int dplaces, .int dhold, .int dsteps, .int dbeam, .int dob, .int doc])), (h2, .inr (0, [.ref h3, .int ccount, .int cover])), (o0, .inl (aL, 1, .inr (.inl of)))]) [1, 2, 3, 4, 0] (by decide) rfl
    exact rt_i hQ hx hb hr of hG hP hD hS (Nat.le_of_ble_eq_true rfl) (Nat.le_of_ble_eq_true rfl) dL_wear_16 hlk
  · skip
    have hw_2 : F_wear_0 starts distance hardFalls dob doc cover p1 = .inr r_1 := hw_2
    have hG := hG.trans (ch_r hw_2)
    have hP : va_P D vwCl [(o0, .inl (aL, 1, .inr (.inl of))), (k0, .inr (4, [.ref h4, .ref h0, up, .int powered, .int stepsDone])), (h0, .inr (1, [.int wayToOther, .ref h1, .ref h2, .int place, .int speed, .int way, .int topSpeed, .int gain, .int brake, .int darkSpeed, .int rideSpeed, .int kilos, .int mostKilos, .int openContacts, .int fireFloor, .int ride, .int starts, .int distance, .int hardFalls])), (h1, .inr (2, [.int dstate, .int dplace, .int dplaces, .int dhold, .int dsteps, .int dbeam, .int dob, .int doc])), (h2, .inr (0, [.ref h3, .int ccount, .int cover]))] H := hP
    have hD : va_D A [(o0, .inl (aL, 1, .inr (.inl of))), (k0, .inr (4, [.ref h4, .ref h0, up, .int powered, .int stepsDone])), (h0, .inr (1, [.int wayToOther, .ref h1, .ref h2, .int place, .int speed, .int way, .int topSpeed, .int gain, .int brake, .int darkSpeed, .int rideSpeed, .int kilos, .int mostKilos, .int openContacts, .int fireFloor, .int ride, .int starts, .int distance, .int hardFalls])), (h1, .inr (2, [.int dstate, .int dplace, .int dplaces, .int dhold, .int dsteps, .int dbeam, .int dob, .int doc])), (h2, .inr (0, [.ref h3, .int ccount, .int cover]))] := hD
    refine lv_i2l (v := (r_1).toInt64) hx hb dL_wear_8 rfl ?_
    refine va_last hx hb hK hP hD hS 0 1 rfl rfl (by unfold vp_in; decide) dL_wear_9 (fun H locs hP hD hS => ?_)
    have hP : va_P D vwCl [(o0, .inl (aL, 1, .inr (.inl (vp_updL of (0 : Int32).toNatClampNeg ((r_1).toInt64))))), (k0, .inr (4, [.ref h4, .ref h0, up, .int powered, .int stepsDone])), (h0, .inr (1, [.int wayToOther, .ref h1, .ref h2, .int place, .int speed, .int way, .int topSpeed, .int gain, .int brake, .int darkSpeed, .int rideSpeed, .int kilos, .int mostKilos, .int openContacts, .int fireFloor, .int ride, .int starts, .int distance, .int hardFalls])), (h1, .inr (2, [.int dstate, .int dplace, .int dplaces, .int dhold, .int dsteps, .int dbeam, .int dob, .int doc])), (h2, .inr (0, [.ref h3, .int ccount, .int cover]))] H := hP
    have hD : va_D A [(o0, .inl (aL, 1, .inr (.inl (vp_updL of (0 : Int32).toNatClampNeg ((r_1).toInt64))))), (k0, .inr (4, [.ref h4, .ref h0, up, .int powered, .int stepsDone])), (h0, .inr (1, [.int wayToOther, .ref h1, .ref h2, .int place, .int speed, .int way, .int topSpeed, .int gain, .int brake, .int darkSpeed, .int rideSpeed, .int kilos, .int mostKilos, .int openContacts, .int fireFloor, .int ride, .int starts, .int distance, .int hardFalls])), (h1, .inr (2, [.int dstate, .int dplace, .int dplaces, .int dhold, .int dsteps, .int dbeam, .int dob, .int doc])), (h2, .inr (0, [.ref h3, .int ccount, .int cover]))] := hD
    refine lv_goto (tgt := 17) hx hb dL_wear_10 (by decide) ?_
    refine lv_iconst (v := 0) hx hb dL_wear_17 (by decide) ?_
    have hP := hP.sub (ws' := [(k0, .inr (4, [.ref h4, .ref h0, up, .int powered, .int stepsDone])), (h0, .inr (1, [.int wayToOther, .ref h1, .ref h2, .int place, .int speed, .int way, .int topSpeed, .int gain, .int brake, .int darkSpeed, .int rideSpeed, .int kilos, .int mostKilos, .int openContacts, .int fireFloor, .int ride, .int starts, .int distance, .int hardFalls])), (h1, .inr (2, [.int dstate, .int dplace, .int dplaces, .int dhold, .int dsteps, .int dbeam, .int dob, .int doc])), (h2, .inr (0, [.ref h3, .int ccount, .int cover])), (o0, .inl (aL, 1, .inr (.inl (vp_updL of (0 : Int32).toNatClampNeg ((r_1).toInt64)))))]) [1, 2, 3, 4, 0] rfl
    have hD := hD.sub (ws' := [(k0, .inr (4, [.ref h4, .ref h0, up, .int powered, .int stepsDone])), (h0, .inr (1, [.int wayToOther, .ref h1, .ref h2, .int place, .int speed, .int way, .int topSpeed, .int gain, .int brake, .int darkSpeed, .int rideSpeed, .int kilos, .int mostKilos, .int openContacts, .int fireFloor, .int ride, .int starts, .int distance, .int hardFalls])), (h1, .inr (2, [.int dstate, .int dplace, .int dplaces, .int dhold, .int dsteps, .int dbeam, .int dob, .int doc])), (h2, .inr (0, [.ref h3, .int ccount, .int cover])), (o0, .inl (aL, 1, .inr (.inl (vp_updL of (0 : Int32).toNatClampNeg ((r_1).toInt64)))))]) [1, 2, 3, 4, 0] (by decide) rfl
    exact rt_i hQ hx hb hr (vp_updL of (0 : Int32).toNatClampNeg ((r_1).toInt64)) hG hP hD hS (Nat.le_of_ble_eq_true rfl) (Nat.le_of_ble_eq_true rfl) dL_wear_18 hlk
def F_h_wear_1 (starts : Int32) (distance : Int32) (hardFalls : Int32) (dob : Int32) (doc : Int32) (cover : Int32) (p1 : Int32) (of : Nat → Int64) : Int32 × (Nat → Int64) :=
  ch (F_wear_1 starts distance hardFalls dob doc cover p1)
    ((1, of))
    ((1, of)) fun r_1 =>
    (0, (vp_updL of (0 : Int32).toNatClampNeg ((r_1).toInt64)))
theorem F_h_wear_1_u (starts : Int32) (distance : Int32) (hardFalls : Int32) (dob : Int32) (doc : Int32) (cover : Int32) (p1 : Int32) (of : Nat → Int64) : F_h_wear_1 starts distance hardFalls dob doc cover p1 of =
  ((ch (F_wear_1 starts distance hardFalls dob doc cover p1)
    ((1, of))
    ((1, of)) fun r_1 =>
    (0, (vp_updL of (0 : Int32).toNatClampNeg ((r_1).toInt64)))) : Int32 × (Nat → Int64)) := rfl
set_option maxHeartbeats 4000000 in
set_option maxRecDepth 100000 in
theorem c_h_wear_1 (l : Launch) (hl9 : l.stackTraces = false) (D : va_G) (aI aL aZ : ClassId) (sz : Nat) (k0 : Nat) (h4 : Nat) (powered : Int32) (stepsDone : Int32) (lo : Value) (h0 : Nat) (h1 : Nat) (h2 : Nat) (wayToOther : Int32) (place : Int32) (speed : Int32) (way : Int32) (topSpeed : Int32) (gain : Int32) (brake : Int32) (darkSpeed : Int32) (rideSpeed : Int32) (kilos : Int32) (mostKilos : Int32) (openContacts : Int32) (fireFloor : Int32) (ride : Int32) (starts : Int32) (distance : Int32) (hardFalls : Int32) (dstate : Int32) (dplace : Int32) (dplaces : Int32) (dhold : Int32) (dsteps : Int32) (dbeam : Int32) (dob : Int32) (doc : Int32) (h3 : Nat) (ccount : Int32) (cover : Int32) (p1 : Int32) (o0 : Nat) (of : Nat → Int64) : Met l yL_wear (.codeWith yL_wear cL_wear 5 (some .int) [(0, 10, 13, 13)] :: Gw) ({ frames := 7, cells := 1, slots := 6, locals := 115 }) (va_Pc [.ref k0, .int 1, .int p1, .ref o0] (mpre D [(aI, .int), (aL, .long), (aZ, .boolean)] [(k0, .inr (4, [.ref h4, lo, .ref h0, .int powered, .int stepsDone])), (h0, .inr (1, [.int wayToOther, .ref h1, .ref h2, .int place, .int speed, .int way, .int topSpeed, .int gain, .int brake, .int darkSpeed, .int rideSpeed, .int kilos, .int mostKilos, .int openContacts, .int fireFloor, .int ride, .int starts, .int distance, .int hardFalls])), (h1, .inr (2, [.int dstate, .int dplace, .int dplaces, .int dhold, .int dsteps, .int dbeam, .int dob, .int doc])), (h2, .inr (0, [.ref h3, .int ccount, .int cover])), (o0, .inl (aL, 1, .inr (.inl of)))] sz)) ((fun A : Nat → Prop => va_Qi (fun (r : Int32) (u : (Nat → Int64)) => F_h_wear_1 starts distance hardFalls dob doc cover p1 of = (r, u)) (mpst D A (fun (u : (Nat → Int64)) => [(k0, .inr (4, [.ref h4, lo, .ref h0, .int powered, .int stepsDone])), (h0, .inr (1, [.int wayToOther, .ref h1, .ref h2, .int place, .int speed, .int way, .int topSpeed, .int gain, .int brake, .int darkSpeed, .int rideSpeed, .int kilos, .int mostKilos, .int openContacts, .int fireFloor, .int ride, .int starts, .int distance, .int hardFalls])), (h1, .inr (2, [.int dstate, .int dplace, .int dplaces, .int dhold, .int dsteps, .int dbeam, .int dob, .int doc])), (h2, .inr (0, [.ref h3, .int ccount, .int cover])), (o0, .inl (aL, 1, .inr (.inl u)))])) A) (va_A ([(k0, .inr (4, [.ref h4, lo, .ref h0, .int powered, .int stepsDone])), (h0, .inr (1, [.int wayToOther, .ref h1, .ref h2, .int place, .int speed, .int way, .int topSpeed, .int gain, .int brake, .int darkSpeed, .int rideSpeed, .int kilos, .int mostKilos, .int openContacts, .int fireFloor, .int ride, .int starts, .int distance, .int hardFalls])), (h1, .inr (2, [.int dstate, .int dplace, .int dplaces, .int dhold, .int dsteps, .int dbeam, .int dob, .int doc])), (h2, .inr (0, [.ref h3, .int ccount, .int cover])), (o0, .inl (aL, 1, .inr (.inl of)))]) sz)) 1 6 (va_A ([(k0, .inr (4, [.ref h4, lo, .ref h0, .int powered, .int stepsDone])), (h0, .inr (1, [.int wayToOther, .ref h1, .ref h2, .int place, .int speed, .int way, .int topSpeed, .int gain, .int brake, .int darkSpeed, .int rideSpeed, .int kilos, .int mostKilos, .int openContacts, .int fireFloor, .int ride, .int starts, .int distance, .int hardFalls])), (h1, .inr (2, [.int dstate, .int dplace, .int dplaces, .int dhold, .int dsteps, .int dbeam, .int dob, .int doc])), (h2, .inr (0, [.ref h3, .int ccount, .int cover])), (o0, .inl (aL, 1, .inr (.inl of)))]) sz) := by
  refine enh (cc := cL_wear) (maxL := 5) (ret := (some .int)) (Qc := (fun A : Nat → Prop => va_Qi (fun (r : Int32) (u : (Nat → Int64)) => F_h_wear_1 starts distance hardFalls dob doc cover p1 of = (r, u)) (mpst D A (fun (u : (Nat → Int64)) => [(k0, .inr (4, [.ref h4, lo, .ref h0, .int powered, .int stepsDone])), (h0, .inr (1, [.int wayToOther, .ref h1, .ref h2, .int place, .int speed, .int way, .int topSpeed, .int gain, .int brake, .int darkSpeed, .int rideSpeed, .int kilos, .int mostKilos, .int openContacts, .int fireFloor, .int ride, .int starts, .int distance, .int hardFalls])), (h1, .inr (2, [.int dstate, .int dplace, .int dplaces, .int dhold, .int dsteps, .int dbeam, .int dob, .int doc])), (h2, .inr (0, [.ref h3, .int ccount, .int cover])), (o0, .inl (aL, 1, .inr (.inl u)))])) A)) (by decide) rfl (Nat.le_of_ble_eq_true rfl) ?_
  intro p e s m args below meth c A ls Q hQ hx hb hr hts hown hlk hnm hml htab hA hS hP hK hD hE hl
  have hown : s.vm.findClass RL = some m.cls := hown
  have hl : lv_has ls 5 [(0, .ref k0), (1, .int 1), (2, .int p1), (3, .ref o0)] := hl
  have hG := F_h_wear_1_u starts distance hardFalls dob doc cover p1 of
  refine lv_aload_n hx hb dL_wear_0 rfl (lv_at hl 3 rfl) ?_
  refine lv_iconst (v := 0) hx hb dL_wear_1 (by decide) ?_
  refine lv_aload_n hx hb dL_wear_2 rfl (lv_at hl 0 rfl) ?_
  refine lv_iload_n hx hb dL_wear_3 rfl (lv_at hl 1 rfl) ?_
  refine lv_iload_n hx hb dL_wear_4 rfl (lv_at hl 2 rfl) ?_
  refine my_ci (wr := [(o0, .inl (aL, 1, .inr (.inl of)))]) [0, 1, 2, 3] [4] (vx_runV (As := [.int 1, .int p1]) (rest := [.int 0, .ref o0]) ⟨hx, hb, hml, hown, hts⟩ (c_wear_1 l hl9 D aI aL aZ _ k0 h4 powered stepsDone lo h0 h1 h2 wayToOther place speed way topSpeed gain brake darkSpeed rideSpeed kilos mostKilos openContacts fireFloor ride starts distance hardFalls dstate dplace dplaces dhold dsteps dbeam dob doc h3 ccount cover p1) (cwV 2 hts (gV w_625 w_626 w_627 w_35 w_628) rfl rfl rfl (by decide +kernel) ⟨Nat.le_of_ble_eq_true rfl, Nat.le_of_ble_eq_true rfl⟩) (prev_of hK hP hD hS hA hE [0, 1, 2, 3] rfl (by decide) (ci := 4) rfl 0 rfl _) rfl rfl hl.1 rfl (lv_room (Nat.le_of_ble_eq_true rfl)) dL_wear_5 ⟨Nat.le_of_ble_eq_true rfl, Nat.le_of_ble_eq_true rfl⟩) hP hD hS hA rfl rfl (by decide) (by decide) (fun E ce q9 u H locs hw hEx hP hD hS hce hcv hcl => ?_) (fun r_1 u_ H locs hw_2 hP hD hS => ?_)
  · obtain ⟨hw, hu⟩ := hw
    have htab : c.exceptionTable.toList = [⟨0, 10, 13, 13⟩] := htab
    subst hu
    have hG := hG.trans (ch_1 hw)
    refine my_h1 (u := 1) hown htab (by decide) (by decide) (hts _ (mG w_105)) hE hEx hce hcv hcl ?_
    have hP : va_P D vwCl [(o0, .inl (aL, 1, .inr (.inl of))), (k0, .inr (4, [.ref h4, lo, .ref h0, .int powered, .int stepsDone])), (h0, .inr (1, [.int wayToOther, .ref h1, .ref h2, .int place, .int speed, .int way, .int topSpeed, .int gain, .int brake, .int darkSpeed, .int rideSpeed, .int kilos, .int mostKilos, .int openContacts, .int fireFloor, .int ride, .int starts, .int distance, .int hardFalls])), (h1, .inr (2, [.int dstate, .int dplace, .int dplaces, .int dhold, .int dsteps, .int dbeam, .int dob, .int doc])), (h2, .inr (0, [.ref h3, .int ccount, .int cover]))] H := hP
    have hD : va_D A [(o0, .inl (aL, 1, .inr (.inl of))), (k0, .inr (4, [.ref h4, lo, .ref h0, .int powered, .int stepsDone])), (h0, .inr (1, [.int wayToOther, .ref h1, .ref h2, .int place, .int speed, .int way, .int topSpeed, .int gain, .int brake, .int darkSpeed, .int rideSpeed, .int kilos, .int mostKilos, .int openContacts, .int fireFloor, .int ride, .int starts, .int distance, .int hardFalls])), (h1, .inr (2, [.int dstate, .int dplace, .int dplaces, .int dhold, .int dsteps, .int dbeam, .int dob, .int doc])), (h2, .inr (0, [.ref h3, .int ccount, .int cover]))] := hD
    refine lv_astore (lv' := [(4, .ref q9), (0, .ref k0), (1, .int 1), (2, .int p1), (3, .ref o0)]) hx hb dL_wear_13 hl (by decide) rfl (fun ls hl => ?_)
    refine lv_iconst (v := 1) hx hb dL_wear_15 (by decide) ?_
    have hP := hP.sub (ws' := [(k0, .inr (4, [.ref h4, lo, .ref h0, .int powered, .int stepsDone])), (h0, .inr (1, [.int wayToOther, .ref h1, .ref h2, .int place, .int speed, .int way, .int topSpeed, .int gain, .int brake, .int darkSpeed, .int rideSpeed, .int kilos, .int mostKilos, .int openContacts, .int fireFloor, .int ride, .int starts, .int distance, .int hardFalls])), (h1, .inr (2, [.int dstate, .int dplace, .int dplaces, .int dhold, .int dsteps, .int dbeam, .int dob, .int doc])), (h2, .inr (0, [.ref h3, .int ccount, .int cover])), (o0, .inl (aL, 1, .inr (.inl of)))]) [1, 2, 3, 4, 0] rfl
    have hD := hD.sub (ws' := [(k0, .inr (4, [.ref h4, lo, .ref h0, .int powered, .int stepsDone])), (h0, .inr (1, [.int wayToOther, .ref h1, .ref h2, .int place, .int speed, .int way, .int topSpeed, .int gain, .int brake, .int darkSpeed, .int rideSpeed, .int kilos, .int mostKilos, .int openContacts, .int fireFloor, .int ride, .int starts, .int distance, .int hardFalls])), (h1, .inr (2, [.int dstate, .int dplace, .int dplaces, .int dhold, .int dsteps, .int dbeam, .int dob, .int doc])), (h2, .inr (0, [.ref h3, .int ccount, .int cover])), (o0, .inl (aL, 1, .inr (.inl of)))]) [1, 2, 3, 4, 0] (by decide) rfl
    exact rt_i hQ hx hb hr of hG hP hD hS (Nat.le_of_ble_eq_true rfl) (Nat.le_of_ble_eq_true rfl) dL_wear_16 hlk
  · skip
    have hw_2 : F_wear_1 starts distance hardFalls dob doc cover p1 = .inr r_1 := hw_2
    have hG := hG.trans (ch_r hw_2)
    have hP : va_P D vwCl [(o0, .inl (aL, 1, .inr (.inl of))), (k0, .inr (4, [.ref h4, lo, .ref h0, .int powered, .int stepsDone])), (h0, .inr (1, [.int wayToOther, .ref h1, .ref h2, .int place, .int speed, .int way, .int topSpeed, .int gain, .int brake, .int darkSpeed, .int rideSpeed, .int kilos, .int mostKilos, .int openContacts, .int fireFloor, .int ride, .int starts, .int distance, .int hardFalls])), (h1, .inr (2, [.int dstate, .int dplace, .int dplaces, .int dhold, .int dsteps, .int dbeam, .int dob, .int doc])), (h2, .inr (0, [.ref h3, .int ccount, .int cover]))] H := hP
    have hD : va_D A [(o0, .inl (aL, 1, .inr (.inl of))), (k0, .inr (4, [.ref h4, lo, .ref h0, .int powered, .int stepsDone])), (h0, .inr (1, [.int wayToOther, .ref h1, .ref h2, .int place, .int speed, .int way, .int topSpeed, .int gain, .int brake, .int darkSpeed, .int rideSpeed, .int kilos, .int mostKilos, .int openContacts, .int fireFloor, .int ride, .int starts, .int distance, .int hardFalls])), (h1, .inr (2, [.int dstate, .int dplace, .int dplaces, .int dhold, .int dsteps, .int dbeam, .int dob, .int doc])), (h2, .inr (0, [.ref h3, .int ccount, .int cover]))] := hD
    refine lv_i2l (v := (r_1).toInt64) hx hb dL_wear_8 rfl ?_
    refine va_last hx hb hK hP hD hS 0 1 rfl rfl (by unfold vp_in; decide) dL_wear_9 (fun H locs hP hD hS => ?_)
    have hP : va_P D vwCl [(o0, .inl (aL, 1, .inr (.inl (vp_updL of (0 : Int32).toNatClampNeg ((r_1).toInt64))))), (k0, .inr (4, [.ref h4, lo, .ref h0, .int powered, .int stepsDone])), (h0, .inr (1, [.int wayToOther, .ref h1, .ref h2, .int place, .int speed, .int way, .int topSpeed, .int gain, .int brake, .int darkSpeed, .int rideSpeed, .int kilos, .int mostKilos, .int openContacts, .int fireFloor, .int ride, .int starts, .int distance, .int hardFalls])), (h1, .inr (2, [.int dstate, .int dplace, .int dplaces, .int dhold, .int dsteps, .int dbeam, .int dob, .int doc])), (h2, .inr (0, [.ref h3, .int ccount, .int cover]))] H := hP
    have hD : va_D A [(o0, .inl (aL, 1, .inr (.inl (vp_updL of (0 : Int32).toNatClampNeg ((r_1).toInt64))))), (k0, .inr (4, [.ref h4, lo, .ref h0, .int powered, .int stepsDone])), (h0, .inr (1, [.int wayToOther, .ref h1, .ref h2, .int place, .int speed, .int way, .int topSpeed, .int gain, .int brake, .int darkSpeed, .int rideSpeed, .int kilos, .int mostKilos, .int openContacts, .int fireFloor, .int ride, .int starts, .int distance, .int hardFalls])), (h1, .inr (2, [.int dstate, .int dplace, .int dplaces, .int dhold, .int dsteps, .int dbeam, .int dob, .int doc])), (h2, .inr (0, [.ref h3, .int ccount, .int cover]))] := hD
    refine lv_goto (tgt := 17) hx hb dL_wear_10 (by decide) ?_
    refine lv_iconst (v := 0) hx hb dL_wear_17 (by decide) ?_
    have hP := hP.sub (ws' := [(k0, .inr (4, [.ref h4, lo, .ref h0, .int powered, .int stepsDone])), (h0, .inr (1, [.int wayToOther, .ref h1, .ref h2, .int place, .int speed, .int way, .int topSpeed, .int gain, .int brake, .int darkSpeed, .int rideSpeed, .int kilos, .int mostKilos, .int openContacts, .int fireFloor, .int ride, .int starts, .int distance, .int hardFalls])), (h1, .inr (2, [.int dstate, .int dplace, .int dplaces, .int dhold, .int dsteps, .int dbeam, .int dob, .int doc])), (h2, .inr (0, [.ref h3, .int ccount, .int cover])), (o0, .inl (aL, 1, .inr (.inl (vp_updL of (0 : Int32).toNatClampNeg ((r_1).toInt64)))))]) [1, 2, 3, 4, 0] rfl
    have hD := hD.sub (ws' := [(k0, .inr (4, [.ref h4, lo, .ref h0, .int powered, .int stepsDone])), (h0, .inr (1, [.int wayToOther, .ref h1, .ref h2, .int place, .int speed, .int way, .int topSpeed, .int gain, .int brake, .int darkSpeed, .int rideSpeed, .int kilos, .int mostKilos, .int openContacts, .int fireFloor, .int ride, .int starts, .int distance, .int hardFalls])), (h1, .inr (2, [.int dstate, .int dplace, .int dplaces, .int dhold, .int dsteps, .int dbeam, .int dob, .int doc])), (h2, .inr (0, [.ref h3, .int ccount, .int cover])), (o0, .inl (aL, 1, .inr (.inl (vp_updL of (0 : Int32).toNatClampNeg ((r_1).toInt64)))))]) [1, 2, 3, 4, 0] (by decide) rfl
    exact rt_i hQ hx hb hr (vp_updL of (0 : Int32).toNatClampNeg ((r_1).toInt64)) hG hP hD hS (Nat.le_of_ble_eq_true rfl) (Nat.le_of_ble_eq_true rfl) dL_wear_18 hlk
def F_h_wear_0n : Int32 :=
  ch F_wear_0n
    (1)
    (1) fun _ =>
    1
theorem F_h_wear_0n_u : F_h_wear_0n =
  ((ch F_wear_0n
    (1)
    (1) fun _ =>
    1) : Int32) := rfl
set_option maxHeartbeats 4000000 in
set_option maxRecDepth 100000 in
theorem c_h_wear_0n (l : Launch) (hl9 : l.stackTraces = false) (D : va_G) (aI aL aZ : ClassId) (sz : Nat) (k0 : Nat) (h4 : Nat) (powered : Int32) (stepsDone : Int32) (up : Value) (p1 : Int32) (o0 : Nat) (of : Nat → Int64) : Met l yL_wear (.codeWith yL_wear cL_wear 5 (some .int) [(0, 10, 13, 13)] :: Gw) ({ frames := 8, cells := 1, slots := 6, locals := 137 }) (va_Pc [.ref k0, .int 0, .int p1, .ref o0] (mpre D [(aI, .int), (aL, .long), (aZ, .boolean)] [(k0, .inr (4, [.ref h4, .null, up, .int powered, .int stepsDone])), (o0, .inl (aL, 1, .inr (.inl of)))] sz)) ((fun A : Nat → Prop => va_Qi (fun (r : Int32) (u : Unit) => F_h_wear_0n = r) (mpst D A (fun (u : Unit) => [(k0, .inr (4, [.ref h4, .null, up, .int powered, .int stepsDone])), (o0, .inl (aL, 1, .inr (.inl of)))])) A) (va_A ([(k0, .inr (4, [.ref h4, .null, up, .int powered, .int stepsDone])), (o0, .inl (aL, 1, .inr (.inl of)))]) sz)) 1 6 (va_A ([(k0, .inr (4, [.ref h4, .null, up, .int powered, .int stepsDone])), (o0, .inl (aL, 1, .inr (.inl of)))]) sz) := by
  refine enh (cc := cL_wear) (maxL := 5) (ret := (some .int)) (Qc := (fun A : Nat → Prop => va_Qi (fun (r : Int32) (u : Unit) => F_h_wear_0n = r) (mpst D A (fun (u : Unit) => [(k0, .inr (4, [.ref h4, .null, up, .int powered, .int stepsDone])), (o0, .inl (aL, 1, .inr (.inl of)))])) A)) (by decide) rfl (Nat.le_of_ble_eq_true rfl) ?_
  intro p e s m args below meth c A ls Q hQ hx hb hr hts hown hlk hnm hml htab hA hS hP hK hD hE hl
  have hown : s.vm.findClass RL = some m.cls := hown
  have hl : lv_has ls 5 [(0, .ref k0), (1, .int 0), (2, .int p1), (3, .ref o0)] := hl
  have hG := F_h_wear_0n_u
  refine lv_aload_n hx hb dL_wear_0 rfl (lv_at hl 3 rfl) ?_
  refine lv_iconst (v := 0) hx hb dL_wear_1 (by decide) ?_
  refine lv_aload_n hx hb dL_wear_2 rfl (lv_at hl 0 rfl) ?_
  refine lv_iload_n hx hb dL_wear_3 rfl (lv_at hl 1 rfl) ?_
  refine lv_iload_n hx hb dL_wear_4 rfl (lv_at hl 2 rfl) ?_
  refine my_ci (wr := [(o0, .inl (aL, 1, .inr (.inl of)))]) [0] [1] (vx_runV (As := [.int 0, .int p1]) (rest := [.int 0, .ref o0]) ⟨hx, hb, hml, hown, hts⟩ (c_wear_0n l hl9 D aI aL aZ _ k0 h4 powered stepsDone up p1) (cwV 2 hts (gV w_625 w_626 w_627 w_35 w_628) rfl rfl rfl (by decide +kernel) ⟨Nat.le_of_ble_eq_true rfl, Nat.le_of_ble_eq_true rfl⟩) (prev_of hK hP hD hS hA hE [0] rfl (by decide) (ci := 4) rfl 0 rfl _) rfl rfl hl.1 rfl (lv_room (Nat.le_of_ble_eq_true rfl)) dL_wear_5 ⟨Nat.le_of_ble_eq_true rfl, Nat.le_of_ble_eq_true rfl⟩) hP hD hS hA rfl rfl (by decide) (by decide) (fun E ce q9 u H locs hw hEx hP hD hS hce hcv hcl => ?_) (fun r_1 u_ H locs hw_2 hP hD hS => ?_)
  · obtain ⟨hw, hu⟩ := hw
    have htab : c.exceptionTable.toList = [⟨0, 10, 13, 13⟩] := htab
    subst hu
    have hG := hG.trans (ch_1 hw)
    refine my_h1 (u := 1) hown htab (by decide) (by decide) (hts _ (mG w_105)) hE hEx hce hcv hcl ?_
    have hP : va_P D vwCl [(o0, .inl (aL, 1, .inr (.inl of))), (k0, .inr (4, [.ref h4, .null, up, .int powered, .int stepsDone]))] H := hP
    have hD : va_D A [(o0, .inl (aL, 1, .inr (.inl of))), (k0, .inr (4, [.ref h4, .null, up, .int powered, .int stepsDone]))] := hD
    refine lv_astore (lv' := [(4, .ref q9), (0, .ref k0), (1, .int 0), (2, .int p1), (3, .ref o0)]) hx hb dL_wear_13 hl (by decide) rfl (fun ls hl => ?_)
    refine lv_iconst (v := 1) hx hb dL_wear_15 (by decide) ?_
    have hP := hP.sub (ws' := [(k0, .inr (4, [.ref h4, .null, up, .int powered, .int stepsDone])), (o0, .inl (aL, 1, .inr (.inl of)))]) [1, 0] rfl
    have hD := hD.sub (ws' := [(k0, .inr (4, [.ref h4, .null, up, .int powered, .int stepsDone])), (o0, .inl (aL, 1, .inr (.inl of)))]) [1, 0] (by decide) rfl
    exact rt_i hQ hx hb hr () hG hP hD hS (Nat.le_of_ble_eq_true rfl) (Nat.le_of_ble_eq_true rfl) dL_wear_16 hlk
  · skip
    exact False.elim hw_2
def F_h_wear_1n : Int32 :=
  ch F_wear_1n
    (1)
    (1) fun _ =>
    1
theorem F_h_wear_1n_u : F_h_wear_1n =
  ((ch F_wear_1n
    (1)
    (1) fun _ =>
    1) : Int32) := rfl
set_option maxHeartbeats 4000000 in
set_option maxRecDepth 100000 in
theorem c_h_wear_1n (l : Launch) (hl9 : l.stackTraces = false) (D : va_G) (aI aL aZ : ClassId) (sz : Nat) (k0 : Nat) (h4 : Nat) (powered : Int32) (stepsDone : Int32) (lo : Value) (p1 : Int32) (o0 : Nat) (of : Nat → Int64) : Met l yL_wear (.codeWith yL_wear cL_wear 5 (some .int) [(0, 10, 13, 13)] :: Gw) ({ frames := 8, cells := 1, slots := 6, locals := 137 }) (va_Pc [.ref k0, .int 1, .int p1, .ref o0] (mpre D [(aI, .int), (aL, .long), (aZ, .boolean)] [(k0, .inr (4, [.ref h4, lo, .null, .int powered, .int stepsDone])), (o0, .inl (aL, 1, .inr (.inl of)))] sz)) ((fun A : Nat → Prop => va_Qi (fun (r : Int32) (u : Unit) => F_h_wear_1n = r) (mpst D A (fun (u : Unit) => [(k0, .inr (4, [.ref h4, lo, .null, .int powered, .int stepsDone])), (o0, .inl (aL, 1, .inr (.inl of)))])) A) (va_A ([(k0, .inr (4, [.ref h4, lo, .null, .int powered, .int stepsDone])), (o0, .inl (aL, 1, .inr (.inl of)))]) sz)) 1 6 (va_A ([(k0, .inr (4, [.ref h4, lo, .null, .int powered, .int stepsDone])), (o0, .inl (aL, 1, .inr (.inl of)))]) sz) := by
  refine enh (cc := cL_wear) (maxL := 5) (ret := (some .int)) (Qc := (fun A : Nat → Prop => va_Qi (fun (r : Int32) (u : Unit) => F_h_wear_1n = r) (mpst D A (fun (u : Unit) => [(k0, .inr (4, [.ref h4, lo, .null, .int powered, .int stepsDone])), (o0, .inl (aL, 1, .inr (.inl of)))])) A)) (by decide) rfl (Nat.le_of_ble_eq_true rfl) ?_
  intro p e s m args below meth c A ls Q hQ hx hb hr hts hown hlk hnm hml htab hA hS hP hK hD hE hl
  have hown : s.vm.findClass RL = some m.cls := hown
  have hl : lv_has ls 5 [(0, .ref k0), (1, .int 1), (2, .int p1), (3, .ref o0)] := hl
  have hG := F_h_wear_1n_u
  refine lv_aload_n hx hb dL_wear_0 rfl (lv_at hl 3 rfl) ?_
  refine lv_iconst (v := 0) hx hb dL_wear_1 (by decide) ?_
  refine lv_aload_n hx hb dL_wear_2 rfl (lv_at hl 0 rfl) ?_
  refine lv_iload_n hx hb dL_wear_3 rfl (lv_at hl 1 rfl) ?_
  refine lv_iload_n hx hb dL_wear_4 rfl (lv_at hl 2 rfl) ?_
  refine my_ci (wr := [(o0, .inl (aL, 1, .inr (.inl of)))]) [0] [1] (vx_runV (As := [.int 1, .int p1]) (rest := [.int 0, .ref o0]) ⟨hx, hb, hml, hown, hts⟩ (c_wear_1n l hl9 D aI aL aZ _ k0 h4 powered stepsDone lo p1) (cwV 2 hts (gV w_625 w_626 w_627 w_35 w_628) rfl rfl rfl (by decide +kernel) ⟨Nat.le_of_ble_eq_true rfl, Nat.le_of_ble_eq_true rfl⟩) (prev_of hK hP hD hS hA hE [0] rfl (by decide) (ci := 4) rfl 0 rfl _) rfl rfl hl.1 rfl (lv_room (Nat.le_of_ble_eq_true rfl)) dL_wear_5 ⟨Nat.le_of_ble_eq_true rfl, Nat.le_of_ble_eq_true rfl⟩) hP hD hS hA rfl rfl (by decide) (by decide) (fun E ce q9 u H locs hw hEx hP hD hS hce hcv hcl => ?_) (fun r_1 u_ H locs hw_2 hP hD hS => ?_)
  · obtain ⟨hw, hu⟩ := hw
    have htab : c.exceptionTable.toList = [⟨0, 10, 13, 13⟩] := htab
    subst hu
    have hG := hG.trans (ch_1 hw)
    refine my_h1 (u := 1) hown htab (by decide) (by decide) (hts _ (mG w_105)) hE hEx hce hcv hcl ?_
    have hP : va_P D vwCl [(o0, .inl (aL, 1, .inr (.inl of))), (k0, .inr (4, [.ref h4, lo, .null, .int powered, .int stepsDone]))] H := hP
    have hD : va_D A [(o0, .inl (aL, 1, .inr (.inl of))), (k0, .inr (4, [.ref h4, lo, .null, .int powered, .int stepsDone]))] := hD
    refine lv_astore (lv' := [(4, .ref q9), (0, .ref k0), (1, .int 1), (2, .int p1), (3, .ref o0)]) hx hb dL_wear_13 hl (by decide) rfl (fun ls hl => ?_)
    refine lv_iconst (v := 1) hx hb dL_wear_15 (by decide) ?_
    have hP := hP.sub (ws' := [(k0, .inr (4, [.ref h4, lo, .null, .int powered, .int stepsDone])), (o0, .inl (aL, 1, .inr (.inl of)))]) [1, 0] rfl
    have hD := hD.sub (ws' := [(k0, .inr (4, [.ref h4, lo, .null, .int powered, .int stepsDone])), (o0, .inl (aL, 1, .inr (.inl of)))]) [1, 0] (by decide) rfl
    exact rt_i hQ hx hb hr () hG hP hD hS (Nat.le_of_ble_eq_true rfl) (Nat.le_of_ble_eq_true rfl) dL_wear_16 hlk
  · skip
    exact False.elim hw_2
def F_h_wear_x : Int32 :=
  ch F_wear_x
    (1)
    (1) fun _ =>
    1
theorem F_h_wear_x_u : F_h_wear_x =
  ((ch F_wear_x
    (1)
    (1) fun _ =>
    1) : Int32) := rfl
set_option maxHeartbeats 4000000 in
set_option maxRecDepth 100000 in
theorem c_h_wear_x (l : Launch) (hl9 : l.stackTraces = false) (D : va_G) (aI aL aZ : ClassId) (sz : Nat) (k0 : Nat) (h4 : Nat) (powered : Int32) (stepsDone : Int32) (lo : Value) (up : Value) (p0 : Int32) (p1 : Int32) (o0 : Nat) (of : Nat → Int64) (h9 : ¬ p0 = 0) (h8 : ¬ p0 = 1) : Met l yL_wear (.codeWith yL_wear cL_wear 5 (some .int) [(0, 10, 13, 13)] :: Gw) ({ frames := 8, cells := 1, slots := 6, locals := 137 }) (va_Pc [.ref k0, .int p0, .int p1, .ref o0] (mpre D [(aI, .int), (aL, .long), (aZ, .boolean)] [(k0, .inr (4, [.ref h4, lo, up, .int powered, .int stepsDone])), (o0, .inl (aL, 1, .inr (.inl of)))] sz)) ((fun A : Nat → Prop => va_Qi (fun (r : Int32) (u : Unit) => F_h_wear_x = r) (mpst D A (fun (u : Unit) => [(k0, .inr (4, [.ref h4, lo, up, .int powered, .int stepsDone])), (o0, .inl (aL, 1, .inr (.inl of)))])) A) (va_A ([(k0, .inr (4, [.ref h4, lo, up, .int powered, .int stepsDone])), (o0, .inl (aL, 1, .inr (.inl of)))]) sz)) 1 6 (va_A ([(k0, .inr (4, [.ref h4, lo, up, .int powered, .int stepsDone])), (o0, .inl (aL, 1, .inr (.inl of)))]) sz) := by
  refine enh (cc := cL_wear) (maxL := 5) (ret := (some .int)) (Qc := (fun A : Nat → Prop => va_Qi (fun (r : Int32) (u : Unit) => F_h_wear_x = r) (mpst D A (fun (u : Unit) => [(k0, .inr (4, [.ref h4, lo, up, .int powered, .int stepsDone])), (o0, .inl (aL, 1, .inr (.inl of)))])) A)) (by decide) rfl (Nat.le_of_ble_eq_true rfl) ?_
  intro p e s m args below meth c A ls Q hQ hx hb hr hts hown hlk hnm hml htab hA hS hP hK hD hE hl
  have hown : s.vm.findClass RL = some m.cls := hown
  have hl : lv_has ls 5 [(0, .ref k0), (1, .int p0), (2, .int p1), (3, .ref o0)] := hl
  have hG := F_h_wear_x_u
  refine lv_aload_n hx hb dL_wear_0 rfl (lv_at hl 3 rfl) ?_
  refine lv_iconst (v := 0) hx hb dL_wear_1 (by decide) ?_
  refine lv_aload_n hx hb dL_wear_2 rfl (lv_at hl 0 rfl) ?_
  refine lv_iload_n hx hb dL_wear_3 rfl (lv_at hl 1 rfl) ?_
  refine lv_iload_n hx hb dL_wear_4 rfl (lv_at hl 2 rfl) ?_
  refine my_ci (wr := [(o0, .inl (aL, 1, .inr (.inl of)))]) [0] [1] (vx_runV (As := [.int p0, .int p1]) (rest := [.int 0, .ref o0]) ⟨hx, hb, hml, hown, hts⟩ (c_wear_x l hl9 D aI aL aZ _ k0 h4 powered stepsDone lo up p0 p1 h9 h8) (cwV 2 hts (gV w_625 w_626 w_627 w_35 w_628) rfl rfl rfl (by decide +kernel) ⟨Nat.le_of_ble_eq_true rfl, Nat.le_of_ble_eq_true rfl⟩) (prev_of hK hP hD hS hA hE [0] rfl (by decide) (ci := 4) rfl 0 rfl _) rfl rfl hl.1 rfl (lv_room (Nat.le_of_ble_eq_true rfl)) dL_wear_5 ⟨Nat.le_of_ble_eq_true rfl, Nat.le_of_ble_eq_true rfl⟩) hP hD hS hA rfl rfl (by decide) (by decide) (fun E ce q9 u H locs hw hEx hP hD hS hce hcv hcl => ?_) (fun r_1 u_ H locs hw_2 hP hD hS => ?_)
  · obtain ⟨hw, hu⟩ := hw
    have htab : c.exceptionTable.toList = [⟨0, 10, 13, 13⟩] := htab
    subst hu
    have hG := hG.trans (ch_1 hw)
    refine my_h1 (u := 1) hown htab (by decide) (by decide) (hts _ (mG w_105)) hE hEx hce hcv hcl ?_
    have hP : va_P D vwCl [(o0, .inl (aL, 1, .inr (.inl of))), (k0, .inr (4, [.ref h4, lo, up, .int powered, .int stepsDone]))] H := hP
    have hD : va_D A [(o0, .inl (aL, 1, .inr (.inl of))), (k0, .inr (4, [.ref h4, lo, up, .int powered, .int stepsDone]))] := hD
    refine lv_astore (lv' := [(4, .ref q9), (0, .ref k0), (1, .int p0), (2, .int p1), (3, .ref o0)]) hx hb dL_wear_13 hl (by decide) rfl (fun ls hl => ?_)
    refine lv_iconst (v := 1) hx hb dL_wear_15 (by decide) ?_
    have hP := hP.sub (ws' := [(k0, .inr (4, [.ref h4, lo, up, .int powered, .int stepsDone])), (o0, .inl (aL, 1, .inr (.inl of)))]) [1, 0] rfl
    have hD := hD.sub (ws' := [(k0, .inr (4, [.ref h4, lo, up, .int powered, .int stepsDone])), (o0, .inl (aL, 1, .inr (.inl of)))]) [1, 0] (by decide) rfl
    exact rt_i hQ hx hb hr () hG hP hD hS (Nat.le_of_ble_eq_true rfl) (Nat.le_of_ble_eq_true rfl) dL_wear_16 hlk
  · skip
    exact False.elim hw_2
