theorem dX4_height_0 : decode cX4_height 0 = .ok (.iload_n 1, 1) := by decide +kernel
theorem dX4_height_1 : decode cX4_height 1 = .ok (.iconst 0, 1) := by decide +kernel
theorem dX4_height_2 : decode cX4_height 2 = .ok (.aload_n 0, 1) := by decide +kernel
theorem dX4_height_3 : decode cX4_height 3 = .ok (.getfield 23, 3) := by decide +kernel
theorem dX4_height_6 : decode cX4_height 6 = .ok (.invokevirtual 31, 3) := by decide +kernel
theorem dX4_height_9 : decode cX4_height 9 = .ok (.invokestatic 35, 3) := by decide +kernel
theorem dX4_height_12 : decode cX4_height 12 = .ok (.iload_n 2, 1) := by decide +kernel
theorem dX4_height_13 : decode cX4_height 13 = .ok (.iconst 0, 1) := by decide +kernel
theorem dX4_height_14 : decode cX4_height 14 = .ok (.ldc 39, 2) := by decide +kernel
theorem dX4_height_16 : decode cX4_height 16 = .ok (.invokestatic 35, 3) := by decide +kernel
theorem dX4_height_19 : decode cX4_height 19 = .ok (.aload_n 0, 1) := by decide +kernel
theorem dX4_height_20 : decode cX4_height 20 = .ok (.invokevirtual 40, 3) := by decide +kernel
theorem dX4_height_23 : decode cX4_height 23 = .ok (.aload_n 0, 1) := by decide +kernel
theorem dX4_height_24 : decode cX4_height 24 = .ok (.getfield 23, 3) := by decide +kernel
theorem dX4_height_27 : decode cX4_height 27 = .ok (.iload_n 1, 1) := by decide +kernel
theorem dX4_height_28 : decode cX4_height 28 = .ok (.iload_n 2, 1) := by decide +kernel
theorem dX4_height_29 : decode cX4_height 29 = .ok (.invokevirtual 43, 3) := by decide +kernel
theorem dX4_height_32 : decode cX4_height 32 = .ok (.ifCond .ne 13, 3) := by decide +kernel
theorem dX4_height_35 : decode cX4_height 35 = .ok (.new 47, 3) := by decide +kernel
theorem dX4_height_38 : decode cX4_height 38 = .ok (.dup, 1) := by decide +kernel
theorem dX4_height_39 : decode cX4_height 39 = .ok (.ldc 49, 2) := by decide +kernel
theorem dX4_height_41 : decode cX4_height 41 = .ok (.invokespecial 51, 3) := by decide +kernel
theorem dX4_height_44 : decode cX4_height 44 = .ok (.athrow, 1) := by decide +kernel
theorem dX4_height_45 : decode cX4_height 45 = .ok (.aload_n 0, 1) := by decide +kernel
theorem dX4_height_46 : decode cX4_height 46 = .ok (.getfield 23, 3) := by decide +kernel
theorem dX4_height_49 : decode cX4_height 49 = .ok (.iload_n 1, 1) := by decide +kernel
theorem dX4_height_50 : decode cX4_height 50 = .ok (.invokevirtual 54, 3) := by decide +kernel
theorem dX4_height_53 : decode cX4_height 53 = .ok (.istore_n 3, 1) := by decide +kernel
theorem dX4_height_54 : decode cX4_height 54 = .ok (.aload_n 0, 1) := by decide +kernel
theorem dX4_height_55 : decode cX4_height 55 = .ok (.getfield 23, 3) := by decide +kernel
theorem dX4_height_58 : decode cX4_height 58 = .ok (.iload_n 1, 1) := by decide +kernel
theorem dX4_height_59 : decode cX4_height 59 = .ok (.iload_n 2, 1) := by decide +kernel
theorem dX4_height_60 : decode cX4_height 60 = .ok (.invokevirtual 58, 3) := by decide +kernel
theorem dX4_height_63 : decode cX4_height 63 = .ok (.iload_n 3, 1) := by decide +kernel
theorem dX4_height_64 : decode cX4_height 64 = .ok (.ireturn, 1) := by decide +kernel
def F_height_n (n : Nat) (pf : Nat → Int32) (p0 : Int32) (p1 : Int32) : Int32 ⊕ (Int32 × (Nat → Int32)) :=
  cb (F_topFloor n) fun r_1 =>
    cx (F_refuseOutside p0 0 r_1) fun _ =>
      cx (F_refuseOutside p1 0 100000) fun _ =>
        cx F_refuseWithCars_n fun _ =>
          cb (F_lies n pf p0 p1) fun r_6 =>
            if r_6 = 0 then
              .inl 2
            else
              cb (F_placeOf n pf p0) fun r_9 =>
                cb (F_setPlace n pf p0 p1) fun x_11 =>
                  .inr (r_9, x_11)
theorem F_height_n_u (n : Nat) (pf : Nat → Int32) (p0 : Int32) (p1 : Int32) : F_height_n n pf p0 p1 =
  (cb (F_topFloor n) fun r_1 =>
    cx (F_refuseOutside p0 0 r_1) fun _ =>
      cx (F_refuseOutside p1 0 100000) fun _ =>
        cx F_refuseWithCars_n fun _ =>
          cb (F_lies n pf p0 p1) fun r_6 =>
            if r_6 = 0 then
              .inl 2
            else
              cb (F_placeOf n pf p0) fun r_9 =>
                cb (F_setPlace n pf p0 p1) fun x_11 =>
                  .inr (r_9, x_11)) := rfl
set_option maxHeartbeats 4000000 in
set_option maxRecDepth 100000 in
theorem c_height_n (l : Launch) (hl9 : l.stackTraces = false) (D : va_G) (aI aL aZ : ClassId) (sz : Nat) (k0 : Nat) (h4 : Nat) (powered : Int32) (stepsDone : Int32) (up : Value) (h5 : Nat) (gap : Int32) (n : Nat) (pf : Nat → Int32) (p0 : Int32) (p1 : Int32) (hn : n < 2 ^ 31) : vx_Met l yX4_height (.code yX4_height cX4_height 4 (some .int) :: Gw) ({ frames := 7, cells := 3, slots := 18, locals := 114 }) (va_Pc [.ref k0, .int p0, .int p1] (mpre D [(aI, .int), (aL, .long), (aZ, .boolean)] [(k0, .inr (4, [.ref h4, .null, up, .int powered, .int stepsDone])), (h4, .inr (3, [.ref h5, .int gap])), (h5, .inl (aI, n, .inl pf))] sz)) ((fun A : Nat → Prop => va_Qi (fun (r : Int32) (u : (Nat → Int32)) => F_height_n n pf p0 p1 = .inr (r, u)) (mpst D A (fun (u : (Nat → Int32)) => [(k0, .inr (4, [.ref h4, .null, up, .int powered, .int stepsDone])), (h4, .inr (3, [.ref h5, .int gap])), (h5, .inl (aI, n, .inl u))])) A) (va_A ([(k0, .inr (4, [.ref h4, .null, up, .int powered, .int stepsDone])), (h4, .inr (3, [.ref h5, .int gap])), (h5, .inl (aI, n, .inl pf))]) sz)) ((fun A : Nat → Prop => vx_X (fun u : Int32 => F_height_n n pf p0 p1 = .inl u ∧ (u = 1 ∨ u = 2)) (mpsx D A [(k0, .inr (4, [.ref h4, .null, up, .int powered, .int stepsDone])), (h4, .inr (3, [.ref h5, .int gap])), (h5, .inl (aI, n, .inl pf))]) A) (va_A ([(k0, .inr (4, [.ref h4, .null, up, .int powered, .int stepsDone])), (h4, .inr (3, [.ref h5, .int gap])), (h5, .inl (aI, n, .inl pf))]) sz)) 3 18 (va_A ([(k0, .inr (4, [.ref h4, .null, up, .int powered, .int stepsDone])), (h4, .inr (3, [.ref h5, .int gap])), (h5, .inl (aI, n, .inl pf))]) sz) := by
  refine enx (cc := cX4_height) (maxL := 4) (ret := (some .int)) (Qc := (fun A : Nat → Prop => va_Qi (fun (r : Int32) (u : (Nat → Int32)) => F_height_n n pf p0 p1 = .inr (r, u)) (mpst D A (fun (u : (Nat → Int32)) => [(k0, .inr (4, [.ref h4, .null, up, .int powered, .int stepsDone])), (h4, .inr (3, [.ref h5, .int gap])), (h5, .inl (aI, n, .inl u))])) A)) (XC := (fun A : Nat → Prop => vx_X (fun u : Int32 => F_height_n n pf p0 p1 = .inl u ∧ (u = 1 ∨ u = 2)) (mpsx D A [(k0, .inr (4, [.ref h4, .null, up, .int powered, .int stepsDone])), (h4, .inr (3, [.ref h5, .int gap])), (h5, .inl (aI, n, .inl pf))]) A)) (by decide) rfl (Nat.le_of_ble_eq_true rfl) ?_
  intro p e s m args below meth c A ls Q hQ hx hb hr hts hown hlk hnm hml hout hA hS hP hK hD hE hl
  have hown : s.vm.findClass RX4 = some m.cls := hown
  have hl : lv_has ls 4 [(0, .ref k0), (1, .int p0), (2, .int p1)] := hl
  have hG := F_height_n_u n pf p0 p1
  refine lv_iload_n hx hb dX4_height_0 rfl (lv_at hl 1 rfl) ?_
  refine lv_iconst (v := 0) hx hb dX4_height_1 (by decide) ?_
  refine lv_aload_n hx hb dX4_height_2 rfl (lv_at hl 0 rfl) ?_
  refine va_get (D := D) (ci := 4) (v := .ref h4) (C := RX4) (T := TX4) (N := 5) hx hb hts inX4 hown hK hP 0 rfl rfl 0 (by decide) (hts _ (mG w_79)) (fun _ h9 => h9) rfl dX4_height_3 ?_
  refine my_i (wr := [(k0, .inr (4, [.ref h4, .null, up, .int powered, .int stepsDone]))]) [1, 2] [0] (va_runV (As := []) (rest := [.int 0, .int p0]) ⟨hx, hb, hml, hown, hts⟩ (c_topFloor l D aI aL aZ _ h4 h5 gap n pf) (cwV 0 hts (gV w_111 w_112 w_113 w_36 w_114) rfl rfl rfl (by decide +kernel) ⟨Nat.le_of_ble_eq_true rfl, Nat.le_of_ble_eq_true rfl⟩) (prev_of hK hP hD hS hA hE [1, 2] rfl (by decide) (ci := 3) rfl 1 rfl _) rfl rfl hl.1 rfl (lv_room (Nat.le_of_ble_eq_true rfl)) dX4_height_6 ⟨Nat.le_of_ble_eq_true rfl, Nat.le_of_ble_eq_true rfl⟩) hP hD hS hA rfl rfl (by decide) (by decide) (fun r_1 u_ H locs hw_2 hP hD hS => ?_)
  have hw_2 : F_topFloor n = r_1 := hw_2
  have hG := hG.trans (cb_e hw_2)
  have hP : va_P D vwCl [(k0, .inr (4, [.ref h4, .null, up, .int powered, .int stepsDone])), (h4, .inr (3, [.ref h5, .int gap])), (h5, .inl (aI, n, .inl pf))] H := hP
  have hD : va_D A [(k0, .inr (4, [.ref h4, .null, up, .int powered, .int stepsDone])), (h4, .inr (3, [.ref h5, .int gap])), (h5, .inl (aI, n, .inl pf))] := hD
  refine my_xv (wr := [(k0, .inr (4, [.ref h4, .null, up, .int powered, .int stepsDone])), (h4, .inr (3, [.ref h5, .int gap])), (h5, .inl (aI, n, .inl pf))]) [] [0, 1, 2] [0, 1, 2] (vx_runS (As := [.int p0, .int 0, .int r_1]) (rest := []) ⟨hx, hb, hml, hown, hts⟩ (c_refuseOutside l hl9 D aI aL aZ _ p0 0 r_1) (va_cwS 3 hts (gS w_115 w_116 w_35 w_117) rfl rfl rfl (by decide +kernel) ⟨Nat.le_of_ble_eq_true rfl, Nat.le_of_ble_eq_true rfl⟩) (pre_of hK hP hD hS hA hE [] rfl (by decide) _) rfl rfl hl.1 rfl (lv_room (Nat.le_of_ble_eq_true rfl)) dX4_height_9 ⟨Nat.le_of_ble_eq_true rfl, Nat.le_of_ble_eq_true rfl⟩) hP hD hS hA rfl rfl (by decide) (by decide) hQ (fun _ h9 => ⟨hG.trans (cx_l h9.1), (Or.inl h9.2)⟩) hout hlk rfl (by decide) (Nat.le_of_ble_eq_true rfl) (Nat.le_of_ble_eq_true rfl) (fun u_ H locs hw_3 hP hD hS => ?_)
  have hw_3 : F_refuseOutside p0 0 r_1 = .inr () := hw_3
  have hG := hG.trans (cx_r hw_3)
  have hP : va_P D vwCl [(k0, .inr (4, [.ref h4, .null, up, .int powered, .int stepsDone])), (h4, .inr (3, [.ref h5, .int gap])), (h5, .inl (aI, n, .inl pf))] H := hP
  have hD : va_D A [(k0, .inr (4, [.ref h4, .null, up, .int powered, .int stepsDone])), (h4, .inr (3, [.ref h5, .int gap])), (h5, .inl (aI, n, .inl pf))] := hD
  refine lv_iload_n hx hb dX4_height_12 rfl (lv_at hl 2 rfl) ?_
  refine lv_iconst (v := 0) hx hb dX4_height_13 (by decide) ?_
  refine lv_ldc (v := 100000) hx hb hown (hts _ (mG w_185)) dX4_height_14 ?_
  refine my_xv (wr := [(k0, .inr (4, [.ref h4, .null, up, .int powered, .int stepsDone])), (h4, .inr (3, [.ref h5, .int gap])), (h5, .inl (aI, n, .inl pf))]) [] [0, 1, 2] [0, 1, 2] (vx_runS (As := [.int p1, .int 0, .int 100000]) (rest := []) ⟨hx, hb, hml, hown, hts⟩ (c_refuseOutside l hl9 D aI aL aZ _ p1 0 100000) (va_cwS 3 hts (gS w_115 w_116 w_35 w_117) rfl rfl rfl (by decide +kernel) ⟨Nat.le_of_ble_eq_true rfl, Nat.le_of_ble_eq_true rfl⟩) (pre_of hK hP hD hS hA hE [] rfl (by decide) _) rfl rfl hl.1 rfl (lv_room (Nat.le_of_ble_eq_true rfl)) dX4_height_16 ⟨Nat.le_of_ble_eq_true rfl, Nat.le_of_ble_eq_true rfl⟩) hP hD hS hA rfl rfl (by decide) (by decide) hQ (fun _ h9 => ⟨hG.trans (cx_l h9.1), (Or.inl h9.2)⟩) hout hlk rfl (by decide) (Nat.le_of_ble_eq_true rfl) (Nat.le_of_ble_eq_true rfl) (fun u_ H locs hw_4 hP hD hS => ?_)
  have hw_4 : F_refuseOutside p1 0 100000 = .inr () := hw_4
  have hG := hG.trans (cx_r hw_4)
  have hP : va_P D vwCl [(k0, .inr (4, [.ref h4, .null, up, .int powered, .int stepsDone])), (h4, .inr (3, [.ref h5, .int gap])), (h5, .inl (aI, n, .inl pf))] H := hP
  have hD : va_D A [(k0, .inr (4, [.ref h4, .null, up, .int powered, .int stepsDone])), (h4, .inr (3, [.ref h5, .int gap])), (h5, .inl (aI, n, .inl pf))] := hD
  refine lv_aload_n hx hb dX4_height_19 rfl (lv_at hl 0 rfl) ?_
  refine my_xv (wr := [(h4, .inr (3, [.ref h5, .int gap])), (h5, .inl (aI, n, .inl pf))]) [0] [1, 2] [2, 0, 1] (vx_runV (As := []) (rest := []) ⟨hx, hb, hml, hown, hts⟩ (c_refuseWithCars_n l hl9 D aI aL aZ _ k0 h4 powered stepsDone up) (cwV 0 hts (gV w_186 w_188 w_1 w_35 w_189) rfl rfl rfl (by decide +kernel) ⟨Nat.le_of_ble_eq_true rfl, Nat.le_of_ble_eq_true rfl⟩) (prev_of hK hP hD hS hA hE [0] rfl (by decide) (ci := 4) rfl 0 rfl _) rfl rfl hl.1 rfl (lv_room (Nat.le_of_ble_eq_true rfl)) dX4_height_20 ⟨Nat.le_of_ble_eq_true rfl, Nat.le_of_ble_eq_true rfl⟩) hP hD hS hA rfl rfl (by decide) (by decide) hQ (fun _ h9 => ⟨hG.trans (cx_l h9.1), (False.elim h9.2)⟩) hout hlk rfl (by decide) (Nat.le_of_ble_eq_true rfl) (Nat.le_of_ble_eq_true rfl) (fun u_ H locs hw_5 hP hD hS => ?_)
  have hw_5 : F_refuseWithCars_n = .inr () := hw_5
  have hG := hG.trans (cx_r hw_5)
  have hP : va_P D vwCl [(h4, .inr (3, [.ref h5, .int gap])), (h5, .inl (aI, n, .inl pf)), (k0, .inr (4, [.ref h4, .null, up, .int powered, .int stepsDone]))] H := hP
  have hD : va_D A [(h4, .inr (3, [.ref h5, .int gap])), (h5, .inl (aI, n, .inl pf)), (k0, .inr (4, [.ref h4, .null, up, .int powered, .int stepsDone]))] := hD
  refine lv_aload_n hx hb dX4_height_23 rfl (lv_at hl 0 rfl) ?_
  refine va_get (D := D) (ci := 4) (v := .ref h4) (C := RX4) (T := TX4) (N := 5) hx hb hts inX4 hown hK hP 2 rfl rfl 0 (by decide) (hts _ (mG w_79)) (fun _ h9 => h9) rfl dX4_height_24 ?_
  refine lv_iload_n hx hb dX4_height_27 rfl (lv_at hl 1 rfl) ?_
  refine lv_iload_n hx hb dX4_height_28 rfl (lv_at hl 2 rfl) ?_
  refine my_i (wr := [(k0, .inr (4, [.ref h4, .null, up, .int powered, .int stepsDone]))]) [0, 1] [2] (va_runV (As := [.int p0, .int p1]) (rest := []) ⟨hx, hb, hml, hown, hts⟩ (c_lies l D aI aL aZ _ h4 h5 gap n pf p0 p1 hn) (cwV 2 hts (gV w_206 w_207 w_208 w_36 w_209) rfl rfl rfl (by decide +kernel) ⟨Nat.le_of_ble_eq_true rfl, Nat.le_of_ble_eq_true rfl⟩) (prev_of hK hP hD hS hA hE [0, 1] rfl (by decide) (ci := 3) rfl 0 rfl _) rfl rfl hl.1 rfl (lv_room (Nat.le_of_ble_eq_true rfl)) dX4_height_29 ⟨Nat.le_of_ble_eq_true rfl, Nat.le_of_ble_eq_true rfl⟩) hP hD hS hA rfl rfl (by decide) (by decide) (fun r_6 u_ H locs hw_7 hP hD hS => ?_)
  have hw_7 : F_lies n pf p0 p1 = r_6 ∧ nb r_6 := hw_7
  have hG := hG.trans (cb_e hw_7.1)
  have hP : va_P D vwCl [(k0, .inr (4, [.ref h4, .null, up, .int powered, .int stepsDone])), (h4, .inr (3, [.ref h5, .int gap])), (h5, .inl (aI, n, .inl pf))] H := hP
  have hD : va_D A [(k0, .inr (4, [.ref h4, .null, up, .int powered, .int stepsDone])), (h4, .inr (3, [.ref h5, .int gap])), (h5, .inl (aI, n, .inl pf))] := hD
  refine lv_if_ne (tgt := 45) hx hb dX4_height_32 (by decide) (fun c_8 => ?_) (fun c_8 => ?_)
  · have hG := hG.trans (if_neg c_8)
    refine lv_aload_n hx hb dX4_height_45 rfl (lv_at hl 0 rfl) ?_
    refine va_get (D := D) (ci := 4) (v := .ref h4) (C := RX4) (T := TX4) (N := 5) hx hb hts inX4 hown hK hP 0 rfl rfl 0 (by decide) (hts _ (mG w_79)) (fun _ h9 => h9) rfl dX4_height_46 ?_
    refine lv_iload_n hx hb dX4_height_49 rfl (lv_at hl 1 rfl) ?_
    refine my_i (wr := [(k0, .inr (4, [.ref h4, .null, up, .int powered, .int stepsDone]))]) [1, 2] [0] (va_runV (As := [.int p0]) (rest := []) ⟨hx, hb, hml, hown, hts⟩ (c_placeOf l D aI aL aZ _ h4 h5 gap n pf p0 hn) (cwV 1 hts (gV w_219 w_215 w_216 w_36 w_217) rfl rfl rfl (by decide +kernel) ⟨Nat.le_of_ble_eq_true rfl, Nat.le_of_ble_eq_true rfl⟩) (prev_of hK hP hD hS hA hE [1, 2] rfl (by decide) (ci := 3) rfl 1 rfl _) rfl rfl hl.1 rfl (lv_room (Nat.le_of_ble_eq_true rfl)) dX4_height_50 ⟨Nat.le_of_ble_eq_true rfl, Nat.le_of_ble_eq_true rfl⟩) hP hD hS hA rfl rfl (by decide) (by decide) (fun r_9 u_ H locs hw_10 hP hD hS => ?_)
    have hw_10 : F_placeOf n pf p0 = r_9 := hw_10
    have hG := hG.trans (cb_e hw_10)
    have hP : va_P D vwCl [(k0, .inr (4, [.ref h4, .null, up, .int powered, .int stepsDone])), (h4, .inr (3, [.ref h5, .int gap])), (h5, .inl (aI, n, .inl pf))] H := hP
    have hD : va_D A [(k0, .inr (4, [.ref h4, .null, up, .int powered, .int stepsDone])), (h4, .inr (3, [.ref h5, .int gap])), (h5, .inl (aI, n, .inl pf))] := hD
    refine lv_istore_n (lv' := [(3, .int r_9), (0, .ref k0), (1, .int p0), (2, .int p1)]) hx hb dX4_height_53 rfl hl (by decide) rfl (fun ls hl => ?_)
    refine lv_aload_n hx hb dX4_height_54 rfl (lv_at hl 1 rfl) ?_
    refine va_get (D := D) (ci := 4) (v := .ref h4) (C := RX4) (T := TX4) (N := 5) hx hb hts inX4 hown hK hP 0 rfl rfl 0 (by decide) (hts _ (mG w_79)) (fun _ h9 => h9) rfl dX4_height_55 ?_
    refine lv_iload_n hx hb dX4_height_58 rfl (lv_at hl 2 rfl) ?_
    refine lv_iload_n hx hb dX4_height_59 rfl (lv_at hl 3 rfl) ?_
    refine my_v (wr := [(k0, .inr (4, [.ref h4, .null, up, .int powered, .int stepsDone]))]) [1, 2] [0] (va_runV (As := [.int p0, .int p1]) (rest := []) ⟨hx, hb, hml, hown, hts⟩ (c_setPlace l D aI aL aZ _ h4 h5 gap n pf p0 p1 hn) (cwV 2 hts (gV w_220 w_221 w_222 w_36 w_223) rfl rfl rfl (by decide +kernel) ⟨Nat.le_of_ble_eq_true rfl, Nat.le_of_ble_eq_true rfl⟩) (prev_of hK hP hD hS hA hE [1, 2] rfl (by decide) (ci := 3) rfl 1 rfl _) rfl rfl hl.1 rfl (lv_room (Nat.le_of_ble_eq_true rfl)) dX4_height_60 ⟨Nat.le_of_ble_eq_true rfl, Nat.le_of_ble_eq_true rfl⟩) hP hD hS hA rfl rfl (by decide) (by decide) (fun u_ H locs hw_12 hP hD hS => ?_)
    obtain ⟨x_11, rfl⟩ : ∃ z, z = u_ := ⟨_, rfl⟩
    have hw_12 : F_setPlace n pf p0 p1 = x_11 := hw_12
    have hG := hG.trans (cb_e hw_12)
    have hP : va_P D vwCl [(k0, .inr (4, [.ref h4, .null, up, .int powered, .int stepsDone])), (h4, .inr (3, [.ref h5, .int gap])), (h5, .inl (aI, n, .inl x_11))] H := hP
    have hD : va_D A [(k0, .inr (4, [.ref h4, .null, up, .int powered, .int stepsDone])), (h4, .inr (3, [.ref h5, .int gap])), (h5, .inl (aI, n, .inl x_11))] := hD
    refine lv_iload_n hx hb dX4_height_63 rfl (lv_at hl 0 rfl) ?_
    have hP := hP.sub (ws' := [(k0, .inr (4, [.ref h4, .null, up, .int powered, .int stepsDone])), (h4, .inr (3, [.ref h5, .int gap])), (h5, .inl (aI, n, .inl x_11))]) [0, 1, 2] rfl
    have hD := hD.sub (ws' := [(k0, .inr (4, [.ref h4, .null, up, .int powered, .int stepsDone])), (h4, .inr (3, [.ref h5, .int gap])), (h5, .inl (aI, n, .inl x_11))]) [0, 1, 2] (by decide) rfl
    exact rtx_i hQ hx hb hr x_11 hG hP hD hS (Nat.le_of_ble_eq_true rfl) (Nat.le_of_ble_eq_true rfl) dX4_height_64 hlk
  · have hG := hG.trans (if_pos c_8)
    exact my_throw (own := RX4) (cls := "java/lang/IllegalStateException") (text := "the place does not lie between those of the neighbours") 2 [0, 1, 2] hx hb hl9 hown (by decide +kernel) (hts _ (mG w_190)) (hts _ (mG w_43)) 2 rfl mt_51 hts tb_X4_51 tg_X4_51 hE hS (hl.1.trans hml.symm) dX4_height_35 dX4_height_38 dX4_height_39 dX4_height_41 dX4_height_44 hout (Nat.le_of_ble_eq_true rfl) (Nat.le_of_ble_eq_true rfl) (Nat.le_of_ble_eq_true rfl) (Nat.le_of_ble_eq_true rfl) hlk hQ rfl ⟨hG, (Or.inr rfl)⟩ hP hD rfl (by decide) (Nat.le_of_ble_eq_true rfl) (Nat.le_of_ble_eq_true rfl)
theorem dX4_gap_0 : decode cX4_gap 0 = .ok (.iload_n 1, 1) := by decide +kernel
theorem dX4_gap_1 : decode cX4_gap 1 = .ok (.iconst 0, 1) := by decide +kernel
theorem dX4_gap_2 : decode cX4_gap 2 = .ok (.sipush 10000, 3) := by decide +kernel
theorem dX4_gap_5 : decode cX4_gap 5 = .ok (.invokestatic 35, 3) := by decide +kernel
theorem dX4_gap_8 : decode cX4_gap 8 = .ok (.aload_n 0, 1) := by decide +kernel
theorem dX4_gap_9 : decode cX4_gap 9 = .ok (.invokevirtual 40, 3) := by decide +kernel
theorem dX4_gap_12 : decode cX4_gap 12 = .ok (.aload_n 0, 1) := by decide +kernel
theorem dX4_gap_13 : decode cX4_gap 13 = .ok (.getfield 23, 3) := by decide +kernel
theorem dX4_gap_16 : decode cX4_gap 16 = .ok (.getfield 62, 3) := by decide +kernel
theorem dX4_gap_19 : decode cX4_gap 19 = .ok (.istore_n 2, 1) := by decide +kernel
theorem dX4_gap_20 : decode cX4_gap 20 = .ok (.aload_n 0, 1) := by decide +kernel
theorem dX4_gap_21 : decode cX4_gap 21 = .ok (.getfield 23, 3) := by decide +kernel
theorem dX4_gap_24 : decode cX4_gap 24 = .ok (.iload_n 1, 1) := by decide +kernel
theorem dX4_gap_25 : decode cX4_gap 25 = .ok (.putfield 62, 3) := by decide +kernel
theorem dX4_gap_28 : decode cX4_gap 28 = .ok (.iload_n 2, 1) := by decide +kernel
theorem dX4_gap_29 : decode cX4_gap 29 = .ok (.ireturn, 1) := by decide +kernel
def F_gap_n (gap : Int32) (p0 : Int32) : Int32 ⊕ Int32 :=
  cx (F_refuseOutside p0 0 10000) fun _ =>
    cx F_refuseWithCars_n fun _ =>
      .inr gap
theorem F_gap_n_u (gap : Int32) (p0 : Int32) : F_gap_n gap p0 =
  (cx (F_refuseOutside p0 0 10000) fun _ =>
    cx F_refuseWithCars_n fun _ =>
      .inr gap) := rfl
set_option maxHeartbeats 4000000 in
set_option maxRecDepth 100000 in
theorem c_gap_n (l : Launch) (hl9 : l.stackTraces = false) (D : va_G) (aI aL aZ : ClassId) (sz : Nat) (k0 : Nat) (h4 : Nat) (powered : Int32) (stepsDone : Int32) (up : Value) (h5 : Nat) (gap : Int32) (n : Nat) (pf : Nat → Int32) (p0 : Int32) : vx_Met l yX4_gap (.code yX4_gap cX4_gap 3 (some .int) :: Gw) ({ frames := 7, cells := 1, slots := 6, locals := 114 }) (va_Pc [.ref k0, .int p0] (mpre D [(aI, .int), (aL, .long), (aZ, .boolean)] [(k0, .inr (4, [.ref h4, .null, up, .int powered, .int stepsDone])), (h4, .inr (3, [.ref h5, .int gap])), (h5, .inl (aI, n, .inl pf))] sz)) ((fun A : Nat → Prop => va_Qi (fun (r : Int32) (u : Unit) => F_gap_n gap p0 = .inr r) (mpst D A (fun (u : Unit) => [(k0, .inr (4, [.ref h4, .null, up, .int powered, .int stepsDone])), (h4, .inr (3, [.ref h5, .int p0])), (h5, .inl (aI, n, .inl pf))])) A) (va_A ([(k0, .inr (4, [.ref h4, .null, up, .int powered, .int stepsDone])), (h4, .inr (3, [.ref h5, .int gap])), (h5, .inl (aI, n, .inl pf))]) sz)) ((fun A : Nat → Prop => vx_X (fun u : Int32 => F_gap_n gap p0 = .inl u ∧ (u = 1)) (mpsx D A [(k0, .inr (4, [.ref h4, .null, up, .int powered, .int stepsDone])), (h4, .inr (3, [.ref h5, .int gap])), (h5, .inl (aI, n, .inl pf))]) A) (va_A ([(k0, .inr (4, [.ref h4, .null, up, .int powered, .int stepsDone])), (h4, .inr (3, [.ref h5, .int gap])), (h5, .inl (aI, n, .inl pf))]) sz)) 1 6 (va_A ([(k0, .inr (4, [.ref h4, .null, up, .int powered, .int stepsDone])), (h4, .inr (3, [.ref h5, .int gap])), (h5, .inl (aI, n, .inl pf))]) sz) := by
  refine enx (cc := cX4_gap) (maxL := 3) (ret := (some .int)) (Qc := (fun A : Nat → Prop => va_Qi (fun (r : Int32) (u : Unit) => F_gap_n gap p0 = .inr r) (mpst D A (fun (u : Unit) => [(k0, .inr (4, [.ref h4, .null, up, .int powered, .int stepsDone])), (h4, .inr (3, [.ref h5, .int p0])), (h5, .inl (aI, n, .inl pf))])) A)) (XC := (fun A : Nat → Prop => vx_X (fun u : Int32 => F_gap_n gap p0 = .inl u ∧ (u = 1)) (mpsx D A [(k0, .inr (4, [.ref h4, .null, up, .int powered, .int stepsDone])), (h4, .inr (3, [.ref h5, .int gap])), (h5, .inl (aI, n, .inl pf))]) A)) (by decide) rfl (Nat.le_of_ble_eq_true rfl) ?_
  intro p e s m args below meth c A ls Q hQ hx hb hr hts hown hlk hnm hml hout hA hS hP hK hD hE hl
  have hown : s.vm.findClass RX4 = some m.cls := hown
  have hl : lv_has ls 3 [(0, .ref k0), (1, .int p0)] := hl
  have hG := F_gap_n_u gap p0
  refine lv_iload_n hx hb dX4_gap_0 rfl (lv_at hl 1 rfl) ?_
  refine lv_iconst (v := 0) hx hb dX4_gap_1 (by decide) ?_
  refine lv_sipush (v := 10000) hx hb dX4_gap_2 (by decide) ?_
  refine my_xv (wr := [(k0, .inr (4, [.ref h4, .null, up, .int powered, .int stepsDone])), (h4, .inr (3, [.ref h5, .int gap])), (h5, .inl (aI, n, .inl pf))]) [] [0, 1, 2] [0, 1, 2] (vx_runS (As := [.int p0, .int 0, .int 10000]) (rest := []) ⟨hx, hb, hml, hown, hts⟩ (c_refuseOutside l hl9 D aI aL aZ _ p0 0 10000) (va_cwS 3 hts (gS w_115 w_116 w_35 w_117) rfl rfl rfl (by decide +kernel) ⟨Nat.le_of_ble_eq_true rfl, Nat.le_of_ble_eq_true rfl⟩) (pre_of hK hP hD hS hA hE [] rfl (by decide) _) rfl rfl hl.1 rfl (lv_room (Nat.le_of_ble_eq_true rfl)) dX4_gap_5 ⟨Nat.le_of_ble_eq_true rfl, Nat.le_of_ble_eq_true rfl⟩) hP hD hS hA rfl rfl (by decide) (by decide) hQ (fun _ h9 => ⟨hG.trans (cx_l h9.1), h9.2⟩) hout hlk rfl (by decide) (Nat.le_of_ble_eq_true rfl) (Nat.le_of_ble_eq_true rfl) (fun u_ H locs hw_1 hP hD hS => ?_)
  have hw_1 : F_refuseOutside p0 0 10000 = .inr () := hw_1
  have hG := hG.trans (cx_r hw_1)
  have hP : va_P D vwCl [(k0, .inr (4, [.ref h4, .null, up, .int powered, .int stepsDone])), (h4, .inr (3, [.ref h5, .int gap])), (h5, .inl (aI, n, .inl pf))] H := hP
  have hD : va_D A [(k0, .inr (4, [.ref h4, .null, up, .int powered, .int stepsDone])), (h4, .inr (3, [.ref h5, .int gap])), (h5, .inl (aI, n, .inl pf))] := hD
  refine lv_aload_n hx hb dX4_gap_8 rfl (lv_at hl 0 rfl) ?_
  refine my_xv (wr := [(h4, .inr (3, [.ref h5, .int gap])), (h5, .inl (aI, n, .inl pf))]) [0] [1, 2] [2, 0, 1] (vx_runV (As := []) (rest := []) ⟨hx, hb, hml, hown, hts⟩ (c_refuseWithCars_n l hl9 D aI aL aZ _ k0 h4 powered stepsDone up) (cwV 0 hts (gV w_186 w_188 w_1 w_35 w_189) rfl rfl rfl (by decide +kernel) ⟨Nat.le_of_ble_eq_true rfl, Nat.le_of_ble_eq_true rfl⟩) (prev_of hK hP hD hS hA hE [0] rfl (by decide) (ci := 4) rfl 0 rfl _) rfl rfl hl.1 rfl (lv_room (Nat.le_of_ble_eq_true rfl)) dX4_gap_9 ⟨Nat.le_of_ble_eq_true rfl, Nat.le_of_ble_eq_true rfl⟩) hP hD hS hA rfl rfl (by decide) (by decide) hQ (fun _ h9 => ⟨hG.trans (cx_l h9.1), (False.elim h9.2)⟩) hout hlk rfl (by decide) (Nat.le_of_ble_eq_true rfl) (Nat.le_of_ble_eq_true rfl) (fun u_ H locs hw_2 hP hD hS => ?_)
  have hw_2 : F_refuseWithCars_n = .inr () := hw_2
  have hG := hG.trans (cx_r hw_2)
  have hP : va_P D vwCl [(h4, .inr (3, [.ref h5, .int gap])), (h5, .inl (aI, n, .inl pf)), (k0, .inr (4, [.ref h4, .null, up, .int powered, .int stepsDone]))] H := hP
  have hD : va_D A [(h4, .inr (3, [.ref h5, .int gap])), (h5, .inl (aI, n, .inl pf)), (k0, .inr (4, [.ref h4, .null, up, .int powered, .int stepsDone]))] := hD
  refine lv_aload_n hx hb dX4_gap_12 rfl (lv_at hl 0 rfl) ?_
  refine va_get (D := D) (ci := 4) (v := .ref h4) (C := RX4) (T := TX4) (N := 5) hx hb hts inX4 hown hK hP 2 rfl rfl 0 (by decide) (hts _ (mG w_79)) (fun _ h9 => h9) rfl dX4_gap_13 ?_
  refine va_getN (D := D) (ci := 3) (v := .int gap) (C := RX3) (T := TX3) (N := 2) hx hb hts inX3 hown hK hP 0 rfl rfl 1 (by decide) (nwF hE 0 rfl) (fun _ h9 => h9) rfl dX4_gap_16 ?_
  refine lv_istore_n (lv' := [(2, .int gap), (0, .ref k0), (1, .int p0)]) hx hb dX4_gap_19 rfl hl (by decide) rfl (fun ls hl => ?_)
  refine lv_aload_n hx hb dX4_gap_20 rfl (lv_at hl 1 rfl) ?_
  refine va_get (D := D) (ci := 4) (v := .ref h4) (C := RX4) (T := TX4) (N := 5) hx hb hts inX4 hown hK hP 2 rfl rfl 0 (by decide) (hts _ (mG w_79)) (fun _ h9 => h9) rfl dX4_gap_21 ?_
  refine lv_iload_n hx hb dX4_gap_24 rfl (lv_at hl 2 rfl) ?_
  refine va_putN (D := D) (ci := 3) (v := .int p0) (ty := .int) (C := RX3) (T := TX3) (N := 2) hx hb hts inX3 tyX3 tyX3_ok nmX3 hown hK hP hD hS 0 rfl rfl 1 (by decide) (nwF hE 0 rfl) (fun _ h9 => h9) rfl (by decide +kernel) rfl rfl (Nat.le_of_ble_eq_true rfl) dX4_gap_25 (fun H locs hP hD hS => ?_)
  have hP : va_P D vwCl [(h4, .inr (3, [.ref h5, .int p0])), (h5, .inl (aI, n, .inl pf)), (k0, .inr (4, [.ref h4, .null, up, .int powered, .int stepsDone]))] H := hP
  have hD : va_D A [(h4, .inr (3, [.ref h5, .int p0])), (h5, .inl (aI, n, .inl pf)), (k0, .inr (4, [.ref h4, .null, up, .int powered, .int stepsDone]))] := hD
  refine lv_iload_n hx hb dX4_gap_28 rfl (lv_at hl 0 rfl) ?_
  have hP := hP.sub (ws' := [(k0, .inr (4, [.ref h4, .null, up, .int powered, .int stepsDone])), (h4, .inr (3, [.ref h5, .int p0])), (h5, .inl (aI, n, .inl pf))]) [2, 0, 1] rfl
  have hD := hD.sub (ws' := [(k0, .inr (4, [.ref h4, .null, up, .int powered, .int stepsDone])), (h4, .inr (3, [.ref h5, .int p0])), (h5, .inl (aI, n, .inl pf))]) [2, 0, 1] (by decide) rfl
  exact rtx_i hQ hx hb hr () hG hP hD hS (Nat.le_of_ble_eq_true rfl) (Nat.le_of_ble_eq_true rfl) dX4_gap_29 hlk
def F_height_c (n : Nat) (p0 : Int32) (p1 : Int32) : Int32 ⊕ Int32 :=
  cb (F_topFloor n) fun r_1 =>
    cx (F_refuseOutside p0 0 r_1) fun _ =>
      cx (F_refuseOutside p1 0 100000) fun _ =>
        cx F_refuseWithCars_c fun _ =>
          .inl 0
theorem F_height_c_u (n : Nat) (p0 : Int32) (p1 : Int32) : F_height_c n p0 p1 =
  (cb (F_topFloor n) fun r_1 =>
    cx (F_refuseOutside p0 0 r_1) fun _ =>
      cx (F_refuseOutside p1 0 100000) fun _ =>
        cx F_refuseWithCars_c fun _ =>
          .inl 0) := rfl
set_option maxHeartbeats 4000000 in
set_option maxRecDepth 100000 in
theorem c_height_c (l : Launch) (hl9 : l.stackTraces = false) (D : va_G) (aI aL aZ : ClassId) (sz : Nat) (k0 : Nat) (h4 : Nat) (powered : Int32) (stepsDone : Int32) (h0 : Nat) (up : Value) (h5 : Nat) (gap : Int32) (n : Nat) (pf : Nat → Int32) (p0 : Int32) (p1 : Int32) (hn : n < 2 ^ 31) : vx_Met l yX4_height (.code yX4_height cX4_height 4 (some .int) :: Gw) ({ frames := 7, cells := 3, slots := 18, locals := 114 }) (va_Pc [.ref k0, .int p0, .int p1] (mpre D [(aI, .int), (aL, .long), (aZ, .boolean)] [(k0, .inr (4, [.ref h4, .ref h0, up, .int powered, .int stepsDone])), (h4, .inr (3, [.ref h5, .int gap])), (h5, .inl (aI, n, .inl pf))] sz)) ((fun A : Nat → Prop => va_Qi (fun (r : Int32) (u : Unit) => False) (mpst D A (fun (u : Unit) => [(k0, .inr (4, [.ref h4, .ref h0, up, .int powered, .int stepsDone])), (h4, .inr (3, [.ref h5, .int gap])), (h5, .inl (aI, n, .inl pf))])) A) (va_A ([(k0, .inr (4, [.ref h4, .ref h0, up, .int powered, .int stepsDone])), (h4, .inr (3, [.ref h5, .int gap])), (h5, .inl (aI, n, .inl pf))]) sz)) ((fun A : Nat → Prop => vx_X (fun u : Int32 => F_height_c n p0 p1 = .inl u ∧ (u = 1 ∨ u = 2)) (mpsx D A [(k0, .inr (4, [.ref h4, .ref h0, up, .int powered, .int stepsDone])), (h4, .inr (3, [.ref h5, .int gap])), (h5, .inl (aI, n, .inl pf))]) A) (va_A ([(k0, .inr (4, [.ref h4, .ref h0, up, .int powered, .int stepsDone])), (h4, .inr (3, [.ref h5, .int gap])), (h5, .inl (aI, n, .inl pf))]) sz)) 3 18 (va_A ([(k0, .inr (4, [.ref h4, .ref h0, up, .int powered, .int stepsDone])), (h4, .inr (3, [.ref h5, .int gap])), (h5, .inl (aI, n, .inl pf))]) sz) := by
  refine enx (cc := cX4_height) (maxL := 4) (ret := (some .int)) (Qc := (fun A : Nat → Prop => va_Qi (fun (r : Int32) (u : Unit) => False) (mpst D A (fun (u : Unit) => [(k0, .inr (4, [.ref h4, .ref h0, up, .int powered, .int stepsDone])), (h4, .inr (3, [.ref h5, .int gap])), (h5, .inl (aI, n, .inl pf))])) A)) (XC := (fun A : Nat → Prop => vx_X (fun u : Int32 => F_height_c n p0 p1 = .inl u ∧ (u = 1 ∨ u = 2)) (mpsx D A [(k0, .inr (4, [.ref h4, .ref h0, up, .int powered, .int stepsDone])), (h4, .inr (3, [.ref h5, .int gap])), (h5, .inl (aI, n, .inl pf))]) A)) (by decide) rfl (Nat.le_of_ble_eq_true rfl) ?_
  intro p e s m args below meth c A ls Q hQ hx hb hr hts hown hlk hnm hml hout hA hS hP hK hD hE hl
  have hown : s.vm.findClass RX4 = some m.cls := hown
  have hl : lv_has ls 4 [(0, .ref k0), (1, .int p0), (2, .int p1)] := hl
  have hG := F_height_c_u n p0 p1
  refine lv_iload_n hx hb dX4_height_0 rfl (lv_at hl 1 rfl) ?_
  refine lv_iconst (v := 0) hx hb dX4_height_1 (by decide) ?_
  refine lv_aload_n hx hb dX4_height_2 rfl (lv_at hl 0 rfl) ?_
  refine va_get (D := D) (ci := 4) (v := .ref h4) (C := RX4) (T := TX4) (N := 5) hx hb hts inX4 hown hK hP 0 rfl rfl 0 (by decide) (hts _ (mG w_79)) (fun _ h9 => h9) rfl dX4_height_3 ?_
  refine my_i (wr := [(k0, .inr (4, [.ref h4, .ref h0, up, .int powered, .int stepsDone]))]) [1, 2] [0] (va_runV (As := []) (rest := [.int 0, .int p0]) ⟨hx, hb, hml, hown, hts⟩ (c_topFloor l D aI aL aZ _ h4 h5 gap n pf) (cwV 0 hts (gV w_111 w_112 w_113 w_36 w_114) rfl rfl rfl (by decide +kernel) ⟨Nat.le_of_ble_eq_true rfl, Nat.le_of_ble_eq_true rfl⟩) (prev_of hK hP hD hS hA hE [1, 2] rfl (by decide) (ci := 3) rfl 1 rfl _) rfl rfl hl.1 rfl (lv_room (Nat.le_of_ble_eq_true rfl)) dX4_height_6 ⟨Nat.le_of_ble_eq_true rfl, Nat.le_of_ble_eq_true rfl⟩) hP hD hS hA rfl rfl (by decide) (by decide) (fun r_1 u_ H locs hw_2 hP hD hS => ?_)
  have hw_2 : F_topFloor n = r_1 := hw_2
  have hG := hG.trans (cb_e hw_2)
  have hP : va_P D vwCl [(k0, .inr (4, [.ref h4, .ref h0, up, .int powered, .int stepsDone])), (h4, .inr (3, [.ref h5, .int gap])), (h5, .inl (aI, n, .inl pf))] H := hP
  have hD : va_D A [(k0, .inr (4, [.ref h4, .ref h0, up, .int powered, .int stepsDone])), (h4, .inr (3, [.ref h5, .int gap])), (h5, .inl (aI, n, .inl pf))] := hD
  refine my_xv (wr := [(k0, .inr (4, [.ref h4, .ref h0, up, .int powered, .int stepsDone])), (h4, .inr (3, [.ref h5, .int gap])), (h5, .inl (aI, n, .inl pf))]) [] [0, 1, 2] [0, 1, 2] (vx_runS (As := [.int p0, .int 0, .int r_1]) (rest := []) ⟨hx, hb, hml, hown, hts⟩ (c_refuseOutside l hl9 D aI aL aZ _ p0 0 r_1) (va_cwS 3 hts (gS w_115 w_116 w_35 w_117) rfl rfl rfl (by decide +kernel) ⟨Nat.le_of_ble_eq_true rfl, Nat.le_of_ble_eq_true rfl⟩) (pre_of hK hP hD hS hA hE [] rfl (by decide) _) rfl rfl hl.1 rfl (lv_room (Nat.le_of_ble_eq_true rfl)) dX4_height_9 ⟨Nat.le_of_ble_eq_true rfl, Nat.le_of_ble_eq_true rfl⟩) hP hD hS hA rfl rfl (by decide) (by decide) hQ (fun _ h9 => ⟨hG.trans (cx_l h9.1), (Or.inl h9.2)⟩) hout hlk rfl (by decide) (Nat.le_of_ble_eq_true rfl) (Nat.le_of_ble_eq_true rfl) (fun u_ H locs hw_3 hP hD hS => ?_)
  have hw_3 : F_refuseOutside p0 0 r_1 = .inr () := hw_3
  have hG := hG.trans (cx_r hw_3)
  have hP : va_P D vwCl [(k0, .inr (4, [.ref h4, .ref h0, up, .int powered, .int stepsDone])), (h4, .inr (3, [.ref h5, .int gap])), (h5, .inl (aI, n, .inl pf))] H := hP
  have hD : va_D A [(k0, .inr (4, [.ref h4, .ref h0, up, .int powered, .int stepsDone])), (h4, .inr (3, [.ref h5, .int gap])), (h5, .inl (aI, n, .inl pf))] := hD
  refine lv_iload_n hx hb dX4_height_12 rfl (lv_at hl 2 rfl) ?_
  refine lv_iconst (v := 0) hx hb dX4_height_13 (by decide) ?_
  refine lv_ldc (v := 100000) hx hb hown (hts _ (mG w_185)) dX4_height_14 ?_
  refine my_xv (wr := [(k0, .inr (4, [.ref h4, .ref h0, up, .int powered, .int stepsDone])), (h4, .inr (3, [.ref h5, .int gap])), (h5, .inl (aI, n, .inl pf))]) [] [0, 1, 2] [0, 1, 2] (vx_runS (As := [.int p1, .int 0, .int 100000]) (rest := []) ⟨hx, hb, hml, hown, hts⟩ (c_refuseOutside l hl9 D aI aL aZ _ p1 0 100000) (va_cwS 3 hts (gS w_115 w_116 w_35 w_117) rfl rfl rfl (by decide +kernel) ⟨Nat.le_of_ble_eq_true rfl, Nat.le_of_ble_eq_true rfl⟩) (pre_of hK hP hD hS hA hE [] rfl (by decide) _) rfl rfl hl.1 rfl (lv_room (Nat.le_of_ble_eq_true rfl)) dX4_height_16 ⟨Nat.le_of_ble_eq_true rfl, Nat.le_of_ble_eq_true rfl⟩) hP hD hS hA rfl rfl (by decide) (by decide) hQ (fun _ h9 => ⟨hG.trans (cx_l h9.1), (Or.inl h9.2)⟩) hout hlk rfl (by decide) (Nat.le_of_ble_eq_true rfl) (Nat.le_of_ble_eq_true rfl) (fun u_ H locs hw_4 hP hD hS => ?_)
  have hw_4 : F_refuseOutside p1 0 100000 = .inr () := hw_4
  have hG := hG.trans (cx_r hw_4)
  have hP : va_P D vwCl [(k0, .inr (4, [.ref h4, .ref h0, up, .int powered, .int stepsDone])), (h4, .inr (3, [.ref h5, .int gap])), (h5, .inl (aI, n, .inl pf))] H := hP
  have hD : va_D A [(k0, .inr (4, [.ref h4, .ref h0, up, .int powered, .int stepsDone])), (h4, .inr (3, [.ref h5, .int gap])), (h5, .inl (aI, n, .inl pf))] := hD
  refine lv_aload_n hx hb dX4_height_19 rfl (lv_at hl 0 rfl) ?_
  refine my_xv (wr := [(h4, .inr (3, [.ref h5, .int gap])), (h5, .inl (aI, n, .inl pf))]) [0] [1, 2] [2, 0, 1] (vx_runV (As := []) (rest := []) ⟨hx, hb, hml, hown, hts⟩ (c_refuseWithCars_c l hl9 D aI aL aZ _ k0 h4 powered stepsDone h0 up) (cwV 0 hts (gV w_186 w_188 w_1 w_35 w_189) rfl rfl rfl (by decide +kernel) ⟨Nat.le_of_ble_eq_true rfl, Nat.le_of_ble_eq_true rfl⟩) (prev_of hK hP hD hS hA hE [0] rfl (by decide) (ci := 4) rfl 0 rfl _) rfl rfl hl.1 rfl (lv_room (Nat.le_of_ble_eq_true rfl)) dX4_height_20 ⟨Nat.le_of_ble_eq_true rfl, Nat.le_of_ble_eq_true rfl⟩) hP hD hS hA rfl rfl (by decide) (by decide) hQ (fun _ h9 => ⟨hG.trans (cx_l h9.1), (Or.inr h9.2)⟩) hout hlk rfl (by decide) (Nat.le_of_ble_eq_true rfl) (Nat.le_of_ble_eq_true rfl) (fun u_ H locs hw_5 hP hD hS => ?_)
  exact False.elim hw_5
def F_gap_c (p0 : Int32) : Int32 ⊕ Int32 :=
  cx (F_refuseOutside p0 0 10000) fun _ =>
    cx F_refuseWithCars_c fun _ =>
      .inl 0
theorem F_gap_c_u (p0 : Int32) : F_gap_c p0 =
  (cx (F_refuseOutside p0 0 10000) fun _ =>
    cx F_refuseWithCars_c fun _ =>
      .inl 0) := rfl
set_option maxHeartbeats 4000000 in
set_option maxRecDepth 100000 in
theorem c_gap_c (l : Launch) (hl9 : l.stackTraces = false) (D : va_G) (aI aL aZ : ClassId) (sz : Nat) (k0 : Nat) (h4 : Nat) (powered : Int32) (stepsDone : Int32) (h0 : Nat) (up : Value) (h5 : Nat) (gap : Int32) (n : Nat) (pf : Nat → Int32) (p0 : Int32) : vx_Met l yX4_gap (.code yX4_gap cX4_gap 3 (some .int) :: Gw) ({ frames := 7, cells := 2, slots := 12, locals := 114 }) (va_Pc [.ref k0, .int p0] (mpre D [(aI, .int), (aL, .long), (aZ, .boolean)] [(k0, .inr (4, [.ref h4, .ref h0, up, .int powered, .int stepsDone])), (h4, .inr (3, [.ref h5, .int gap])), (h5, .inl (aI, n, .inl pf))] sz)) ((fun A : Nat → Prop => va_Qi (fun (r : Int32) (u : Unit) => False) (mpst D A (fun (u : Unit) => [(k0, .inr (4, [.ref h4, .ref h0, up, .int powered, .int stepsDone])), (h4, .inr (3, [.ref h5, .int gap])), (h5, .inl (aI, n, .inl pf))])) A) (va_A ([(k0, .inr (4, [.ref h4, .ref h0, up, .int powered, .int stepsDone])), (h4, .inr (3, [.ref h5, .int gap])), (h5, .inl (aI, n, .inl pf))]) sz)) ((fun A : Nat → Prop => vx_X (fun u : Int32 => F_gap_c p0 = .inl u ∧ (u = 1 ∨ u = 2)) (mpsx D A [(k0, .inr (4, [.ref h4, .ref h0, up, .int powered, .int stepsDone])), (h4, .inr (3, [.ref h5, .int gap])), (h5, .inl (aI, n, .inl pf))]) A) (va_A ([(k0, .inr (4, [.ref h4, .ref h0, up, .int powered, .int stepsDone])), (h4, .inr (3, [.ref h5, .int gap])), (h5, .inl (aI, n, .inl pf))]) sz)) 2 12 (va_A ([(k0, .inr (4, [.ref h4, .ref h0, up, .int powered, .int stepsDone])), (h4, .inr (3, [.ref h5, .int gap])), (h5, .inl (aI, n, .inl pf))]) sz) := by
  refine enx (cc := cX4_gap) (maxL := 3) (ret := (some .int)) (Qc := (fun A : Nat → Prop => va_Qi (fun (r : Int32) (u : Unit) => False) (mpst D A (fun (u : Unit) => [(k0, .inr (4, [.ref h4, .ref h0, up, .int powered, .int stepsDone])), (h4, .inr (3, [.ref h5, .int gap])), (h5, .inl (aI, n, .inl pf))])) A)) (XC := (fun A : Nat → Prop => vx_X (fun u : Int32 => F_gap_c p0 = .inl u ∧ (u = 1 ∨ u = 2)) (mpsx D A [(k0, .inr (4, [.ref h4, .ref h0, up, .int powered, .int stepsDone])), (h4, .inr (3, [.ref h5, .int gap])), (h5, .inl (aI, n, .inl pf))]) A)) (by decide) rfl (Nat.le_of_ble_eq_true rfl) ?_
  intro p e s m args below meth c A ls Q hQ hx hb hr hts hown hlk hnm hml hout hA hS hP hK hD hE hl
  have hown : s.vm.findClass RX4 = some m.cls := hown
  have hl : lv_has ls 3 [(0, .ref k0), (1, .int p0)] := hl
  have hG := F_gap_c_u p0
  refine lv_iload_n hx hb dX4_gap_0 rfl (lv_at hl 1 rfl) ?_
  refine lv_iconst (v := 0) hx hb dX4_gap_1 (by decide) ?_
  refine lv_sipush (v := 10000) hx hb dX4_gap_2 (by decide) ?_
  refine my_xv (wr := [(k0, .inr (4, [.ref h4, .ref h0, up, .int powered, .int stepsDone])), (h4, .inr (3, [.ref h5, .int gap])), (h5, .inl (aI, n, .inl pf))]) [] [0, 1, 2] [0, 1, 2] (vx_runS (As := [.int p0, .int 0, .int 10000]) (rest := []) ⟨hx, hb, hml, hown, hts⟩ (c_refuseOutside l hl9 D aI aL aZ _ p0 0 10000) (va_cwS 3 hts (gS w_115 w_116 w_35 w_117) rfl rfl rfl (by decide +kernel) ⟨Nat.le_of_ble_eq_true rfl, Nat.le_of_ble_eq_true rfl⟩) (pre_of hK hP hD hS hA hE [] rfl (by decide) _) rfl rfl hl.1 rfl (lv_room (Nat.le_of_ble_eq_true rfl)) dX4_gap_5 ⟨Nat.le_of_ble_eq_true rfl, Nat.le_of_ble_eq_true rfl⟩) hP hD hS hA rfl rfl (by decide) (by decide) hQ (fun _ h9 => ⟨hG.trans (cx_l h9.1), (Or.inl h9.2)⟩) hout hlk rfl (by decide) (Nat.le_of_ble_eq_true rfl) (Nat.le_of_ble_eq_true rfl) (fun u_ H locs hw_1 hP hD hS => ?_)
  have hw_1 : F_refuseOutside p0 0 10000 = .inr () := hw_1
  have hG := hG.trans (cx_r hw_1)
  have hP : va_P D vwCl [(k0, .inr (4, [.ref h4, .ref h0, up, .int powered, .int stepsDone])), (h4, .inr (3, [.ref h5, .int gap])), (h5, .inl (aI, n, .inl pf))] H := hP
  have hD : va_D A [(k0, .inr (4, [.ref h4, .ref h0, up, .int powered, .int stepsDone])), (h4, .inr (3, [.ref h5, .int gap])), (h5, .inl (aI, n, .inl pf))] := hD
  refine lv_aload_n hx hb dX4_gap_8 rfl (lv_at hl 0 rfl) ?_
  refine my_xv (wr := [(h4, .inr (3, [.ref h5, .int gap])), (h5, .inl (aI, n, .inl pf))]) [0] [1, 2] [2, 0, 1] (vx_runV (As := []) (rest := []) ⟨hx, hb, hml, hown, hts⟩ (c_refuseWithCars_c l hl9 D aI aL aZ _ k0 h4 powered stepsDone h0 up) (cwV 0 hts (gV w_186 w_188 w_1 w_35 w_189) rfl rfl rfl (by decide +kernel) ⟨Nat.le_of_ble_eq_true rfl, Nat.le_of_ble_eq_true rfl⟩) (prev_of hK hP hD hS hA hE [0] rfl (by decide) (ci := 4) rfl 0 rfl _) rfl rfl hl.1 rfl (lv_room (Nat.le_of_ble_eq_true rfl)) dX4_gap_9 ⟨Nat.le_of_ble_eq_true rfl, Nat.le_of_ble_eq_true rfl⟩) hP hD hS hA rfl rfl (by decide) (by decide) hQ (fun _ h9 => ⟨hG.trans (cx_l h9.1), (Or.inr h9.2)⟩) hout hlk rfl (by decide) (Nat.le_of_ble_eq_true rfl) (Nat.le_of_ble_eq_true rfl) (fun u_ H locs hw_2 hP hD hS => ?_)
  exact False.elim hw_2
theorem dX4_car_0 : decode cX4_car 0 = .ok (.iload_n 1, 1) := by decide +kernel
theorem dX4_car_1 : decode cX4_car 1 = .ok (.iconst 0, 1) := by decide +kernel
theorem dX4_car_2 : decode cX4_car 2 = .ok (.aload_n 0, 1) := by decide +kernel
theorem dX4_car_3 : decode cX4_car 3 = .ok (.getfield 23, 3) := by decide +kernel
theorem dX4_car_6 : decode cX4_car 6 = .ok (.invokevirtual 31, 3) := by decide +kernel
theorem dX4_car_9 : decode cX4_car 9 = .ok (.invokestatic 35, 3) := by decide +kernel
theorem dX4_car_12 : decode cX4_car 12 = .ok (.aload_n 0, 1) := by decide +kernel
theorem dX4_car_13 : decode cX4_car 13 = .ok (.getfield 23, 3) := by decide +kernel
theorem dX4_car_16 : decode cX4_car 16 = .ok (.iload_n 1, 1) := by decide +kernel
theorem dX4_car_17 : decode cX4_car 17 = .ok (.invokevirtual 54, 3) := by decide +kernel
theorem dX4_car_20 : decode cX4_car 20 = .ok (.istore_n 2, 1) := by decide +kernel
theorem dX4_car_21 : decode cX4_car 21 = .ok (.aload_n 0, 1) := by decide +kernel
theorem dX4_car_22 : decode cX4_car 22 = .ok (.getfield 66, 3) := by decide +kernel
theorem dX4_car_25 : decode cX4_car 25 = .ok (.ifnonnull 18, 3) := by decide +kernel
theorem dX4_car_28 : decode cX4_car 28 = .ok (.aload_n 0, 1) := by decide +kernel
theorem dX4_car_29 : decode cX4_car 29 = .ok (.new 70, 3) := by decide +kernel
theorem dX4_car_32 : decode cX4_car 32 = .ok (.dup, 1) := by decide +kernel
theorem dX4_car_33 : decode cX4_car 33 = .ok (.iload_n 2, 1) := by decide +kernel
theorem dX4_car_34 : decode cX4_car 34 = .ok (.iconst 1, 1) := by decide +kernel
theorem dX4_car_35 : decode cX4_car 35 = .ok (.invokespecial 72, 3) := by decide +kernel
theorem dX4_car_38 : decode cX4_car 38 = .ok (.putfield 66, 3) := by decide +kernel
theorem dX4_car_41 : decode cX4_car 41 = .ok (.iconst 0, 1) := by decide +kernel
theorem dX4_car_42 : decode cX4_car 42 = .ok (.ireturn, 1) := by decide +kernel
theorem dX4_car_43 : decode cX4_car 43 = .ok (.aload_n 0, 1) := by decide +kernel
theorem dX4_car_44 : decode cX4_car 44 = .ok (.getfield 74, 3) := by decide +kernel
theorem dX4_car_47 : decode cX4_car 47 = .ok (.ifnull 13, 3) := by decide +kernel
theorem dX4_car_50 : decode cX4_car 50 = .ok (.new 47, 3) := by decide +kernel
theorem dX4_car_53 : decode cX4_car 53 = .ok (.dup, 1) := by decide +kernel
theorem dX4_car_54 : decode cX4_car 54 = .ok (.ldc 77, 2) := by decide +kernel
theorem dX4_car_56 : decode cX4_car 56 = .ok (.invokespecial 51, 3) := by decide +kernel
theorem dX4_car_59 : decode cX4_car 59 = .ok (.athrow, 1) := by decide +kernel
theorem dX4_car_60 : decode cX4_car 60 = .ok (.iload_n 2, 1) := by decide +kernel
theorem dX4_car_61 : decode cX4_car 61 = .ok (.aload_n 0, 1) := by decide +kernel
theorem dX4_car_62 : decode cX4_car 62 = .ok (.getfield 66, 3) := by decide +kernel
theorem dX4_car_65 : decode cX4_car 65 = .ok (.invokevirtual 79, 3) := by decide +kernel
theorem dX4_car_68 : decode cX4_car 68 = .ok (.isub, 1) := by decide +kernel
theorem dX4_car_69 : decode cX4_car 69 = .ok (.aload_n 0, 1) := by decide +kernel
theorem dX4_car_70 : decode cX4_car 70 = .ok (.getfield 23, 3) := by decide +kernel
theorem dX4_car_73 : decode cX4_car 73 = .ok (.getfield 62, 3) := by decide +kernel
theorem dX4_car_76 : decode cX4_car 76 = .ok (.if_icmp .ge 13, 3) := by decide +kernel
theorem dX4_car_79 : decode cX4_car 79 = .ok (.new 47, 3) := by decide +kernel
theorem dX4_car_82 : decode cX4_car 82 = .ok (.dup, 1) := by decide +kernel
theorem dX4_car_83 : decode cX4_car 83 = .ok (.ldc 82, 2) := by decide +kernel
theorem dX4_car_85 : decode cX4_car 85 = .ok (.invokespecial 51, 3) := by decide +kernel
theorem dX4_car_88 : decode cX4_car 88 = .ok (.athrow, 1) := by decide +kernel
theorem dX4_car_89 : decode cX4_car 89 = .ok (.aload_n 0, 1) := by decide +kernel
theorem dX4_car_90 : decode cX4_car 90 = .ok (.new 70, 3) := by decide +kernel
theorem dX4_car_93 : decode cX4_car 93 = .ok (.dup, 1) := by decide +kernel
theorem dX4_car_94 : decode cX4_car 94 = .ok (.iload_n 2, 1) := by decide +kernel
theorem dX4_car_95 : decode cX4_car 95 = .ok (.iconst (-1), 1) := by decide +kernel
theorem dX4_car_96 : decode cX4_car 96 = .ok (.invokespecial 72, 3) := by decide +kernel
theorem dX4_car_99 : decode cX4_car 99 = .ok (.putfield 74, 3) := by decide +kernel
theorem dX4_car_102 : decode cX4_car 102 = .ok (.iconst 1, 1) := by decide +kernel
theorem dX4_car_103 : decode cX4_car 103 = .ok (.ireturn, 1) := by decide +kernel
def F_car_0 (n : Nat) (pf : Nat → Int32) (p0 : Int32) : Int32 ⊕ (Int32 × Int32) :=
  cb (F_topFloor n) fun r_1 =>
    cx (F_refuseOutside p0 0 r_1) fun _ =>
      cb (F_placeOf n pf p0) fun r_4 =>
        cb F_carInit fun _ =>
          .inr (0, r_4)
theorem F_car_0_u (n : Nat) (pf : Nat → Int32) (p0 : Int32) : F_car_0 n pf p0 =
  (cb (F_topFloor n) fun r_1 =>
    cx (F_refuseOutside p0 0 r_1) fun _ =>
      cb (F_placeOf n pf p0) fun r_4 =>
        cb F_carInit fun _ =>
          .inr (0, r_4)) := rfl
set_option maxHeartbeats 4000000 in
set_option maxRecDepth 100000 in
theorem c_car_0 (l : Launch) (hl9 : l.stackTraces = false) (D : va_G) (aI aL aZ : ClassId) (sz : Nat) (k0 : Nat) (h4 : Nat) (powered : Int32) (stepsDone : Int32) (up : Value) (h5 : Nat) (gap : Int32) (n : Nat) (pf : Nat → Int32) (p0 : Int32) (hn : n < 2 ^ 31) : vx_Met l yX4_car (.code yX4_car cX4_car 3 (some .int) :: Gw) ({ frames := 7, cells := 5, slots := 44, locals := 114 }) (va_Pc [.ref k0, .int p0] (mpre D [(aI, .int), (aL, .long), (aZ, .boolean)] [(k0, .inr (4, [.ref h4, .null, up, .int powered, .int stepsDone])), (h4, .inr (3, [.ref h5, .int gap])), (h5, .inl (aI, n, .inl pf))] sz)) ((fun A : Nat → Prop => va_Qi (fun (r : Int32) (u : Nat × Nat × Nat × Nat × Int32) => match u with | (q_6, q_7, q_8, q_9, u0) => F_car_0 n pf p0 = .inr (r, u0)) (mpst D A (fun (u : Nat × Nat × Nat × Nat × Int32) => match u with | (q_6, q_7, q_8, q_9, u0) => [(k0, .inr (4, [.ref h4, .ref q_6, up, .int powered, .int stepsDone])), (h4, .inr (3, [.ref h5, .int gap])), (h5, .inl (aI, n, .inl pf)), (q_6, .inr (1, [.int 1, .ref q_7, .ref q_8, .int u0, .int 0, .int 0, .int 100, .int 20, .int 40, .int 5, .int 10, .int 0, .int 1000, .int 0, .int (-1), .int 2, .int 0, .int 0, .int 0])), (q_7, .inr (2, [.int 0, .int 0, .int 5, .int 20, .int 0, .int 0, .int 0, .int 0])), (q_8, .inr (0, [.ref q_9, .int 0, .int 0])), (q_9, .inl (aI, 8, .inl (fun _ => 0)))])) A) (va_A ([(k0, .inr (4, [.ref h4, .null, up, .int powered, .int stepsDone])), (h4, .inr (3, [.ref h5, .int gap])), (h5, .inl (aI, n, .inl pf))]) sz)) ((fun A : Nat → Prop => vx_X (fun u : Int32 => F_car_0 n pf p0 = .inl u ∧ (u = 1)) (mpsx D A [(k0, .inr (4, [.ref h4, .null, up, .int powered, .int stepsDone])), (h4, .inr (3, [.ref h5, .int gap])), (h5, .inl (aI, n, .inl pf))]) A) (va_A ([(k0, .inr (4, [.ref h4, .null, up, .int powered, .int stepsDone])), (h4, .inr (3, [.ref h5, .int gap])), (h5, .inl (aI, n, .inl pf))]) sz)) 5 44 (va_A ([(k0, .inr (4, [.ref h4, .null, up, .int powered, .int stepsDone])), (h4, .inr (3, [.ref h5, .int gap])), (h5, .inl (aI, n, .inl pf))]) sz) := by
  refine enx (cc := cX4_car) (maxL := 3) (ret := (some .int)) (Qc := (fun A : Nat → Prop => va_Qi (fun (r : Int32) (u : Nat × Nat × Nat × Nat × Int32) => match u with | (q_6, q_7, q_8, q_9, u0) => F_car_0 n pf p0 = .inr (r, u0)) (mpst D A (fun (u : Nat × Nat × Nat × Nat × Int32) => match u with | (q_6, q_7, q_8, q_9, u0) => [(k0, .inr (4, [.ref h4, .ref q_6, up, .int powered, .int stepsDone])), (h4, .inr (3, [.ref h5, .int gap])), (h5, .inl (aI, n, .inl pf)), (q_6, .inr (1, [.int 1, .ref q_7, .ref q_8, .int u0, .int 0, .int 0, .int 100, .int 20, .int 40, .int 5, .int 10, .int 0, .int 1000, .int 0, .int (-1), .int 2, .int 0, .int 0, .int 0])), (q_7, .inr (2, [.int 0, .int 0, .int 5, .int 20, .int 0, .int 0, .int 0, .int 0])), (q_8, .inr (0, [.ref q_9, .int 0, .int 0])), (q_9, .inl (aI, 8, .inl (fun _ => 0)))])) A)) (XC := (fun A : Nat → Prop => vx_X (fun u : Int32 => F_car_0 n pf p0 = .inl u ∧ (u = 1)) (mpsx D A [(k0, .inr (4, [.ref h4, .null, up, .int powered, .int stepsDone])), (h4, .inr (3, [.ref h5, .int gap])), (h5, .inl (aI, n, .inl pf))]) A)) (by decide) rfl (Nat.le_of_ble_eq_true rfl) ?_
  intro p e s m args below meth c A ls Q hQ hx hb hr hts hown hlk hnm hml hout hA hS hP hK hD hE hl
  have hown : s.vm.findClass RX4 = some m.cls := hown
  have hl : lv_has ls 3 [(0, .ref k0), (1, .int p0)] := hl
  have hG := F_car_0_u n pf p0
  refine lv_iload_n hx hb dX4_car_0 rfl (lv_at hl 1 rfl) ?_
  refine lv_iconst (v := 0) hx hb dX4_car_1 (by decide) ?_
  refine lv_aload_n hx hb dX4_car_2 rfl (lv_at hl 0 rfl) ?_
  refine va_get (D := D) (ci := 4) (v := .ref h4) (C := RX4) (T := TX4) (N := 5) hx hb hts inX4 hown hK hP 0 rfl rfl 0 (by decide) (hts _ (mG w_79)) (fun _ h9 => h9) rfl dX4_car_3 ?_
  refine my_i (wr := [(k0, .inr (4, [.ref h4, .null, up, .int powered, .int stepsDone]))]) [1, 2] [0] (va_runV (As := []) (rest := [.int 0, .int p0]) ⟨hx, hb, hml, hown, hts⟩ (c_topFloor l D aI aL aZ _ h4 h5 gap n pf) (cwV 0 hts (gV w_111 w_112 w_113 w_36 w_114) rfl rfl rfl (by decide +kernel) ⟨Nat.le_of_ble_eq_true rfl, Nat.le_of_ble_eq_true rfl⟩) (prev_of hK hP hD hS hA hE [1, 2] rfl (by decide) (ci := 3) rfl 1 rfl _) rfl rfl hl.1 rfl (lv_room (Nat.le_of_ble_eq_true rfl)) dX4_car_6 ⟨Nat.le_of_ble_eq_true rfl, Nat.le_of_ble_eq_true rfl⟩) hP hD hS hA rfl rfl (by decide) (by decide) (fun r_1 u_ H locs hw_2 hP hD hS => ?_)
  have hw_2 : F_topFloor n = r_1 := hw_2
  have hG := hG.trans (cb_e hw_2)
  have hP : va_P D vwCl [(k0, .inr (4, [.ref h4, .null, up, .int powered, .int stepsDone])), (h4, .inr (3, [.ref h5, .int gap])), (h5, .inl (aI, n, .inl pf))] H := hP
  have hD : va_D A [(k0, .inr (4, [.ref h4, .null, up, .int powered, .int stepsDone])), (h4, .inr (3, [.ref h5, .int gap])), (h5, .inl (aI, n, .inl pf))] := hD
  refine my_xv (wr := [(k0, .inr (4, [.ref h4, .null, up, .int powered, .int stepsDone])), (h4, .inr (3, [.ref h5, .int gap])), (h5, .inl (aI, n, .inl pf))]) [] [0, 1, 2] [0, 1, 2] (vx_runS (As := [.int p0, .int 0, .int r_1]) (rest := []) ⟨hx, hb, hml, hown, hts⟩ (c_refuseOutside l hl9 D aI aL aZ _ p0 0 r_1) (va_cwS 3 hts (gS w_115 w_116 w_35 w_117) rfl rfl rfl (by decide +kernel) ⟨Nat.le_of_ble_eq_true rfl, Nat.le_of_ble_eq_true rfl⟩) (pre_of hK hP hD hS hA hE [] rfl (by decide) _) rfl rfl hl.1 rfl (lv_room (Nat.le_of_ble_eq_true rfl)) dX4_car_9 ⟨Nat.le_of_ble_eq_true rfl, Nat.le_of_ble_eq_true rfl⟩) hP hD hS hA rfl rfl (by decide) (by decide) hQ (fun _ h9 => ⟨hG.trans (cx_l h9.1), h9.2⟩) hout hlk rfl (by decide) (Nat.le_of_ble_eq_true rfl) (Nat.le_of_ble_eq_true rfl) (fun u_ H locs hw_3 hP hD hS => ?_)
  have hw_3 : F_refuseOutside p0 0 r_1 = .inr () := hw_3
  have hG := hG.trans (cx_r hw_3)
  have hP : va_P D vwCl [(k0, .inr (4, [.ref h4, .null, up, .int powered, .int stepsDone])), (h4, .inr (3, [.ref h5, .int gap])), (h5, .inl (aI, n, .inl pf))] H := hP
  have hD : va_D A [(k0, .inr (4, [.ref h4, .null, up, .int powered, .int stepsDone])), (h4, .inr (3, [.ref h5, .int gap])), (h5, .inl (aI, n, .inl pf))] := hD
  refine lv_aload_n hx hb dX4_car_12 rfl (lv_at hl 0 rfl) ?_
  refine va_get (D := D) (ci := 4) (v := .ref h4) (C := RX4) (T := TX4) (N := 5) hx hb hts inX4 hown hK hP 0 rfl rfl 0 (by decide) (hts _ (mG w_79)) (fun _ h9 => h9) rfl dX4_car_13 ?_
  refine lv_iload_n hx hb dX4_car_16 rfl (lv_at hl 1 rfl) ?_
  refine my_i (wr := [(k0, .inr (4, [.ref h4, .null, up, .int powered, .int stepsDone]))]) [1, 2] [0] (va_runV (As := [.int p0]) (rest := []) ⟨hx, hb, hml, hown, hts⟩ (c_placeOf l D aI aL aZ _ h4 h5 gap n pf p0 hn) (cwV 1 hts (gV w_219 w_215 w_216 w_36 w_217) rfl rfl rfl (by decide +kernel) ⟨Nat.le_of_ble_eq_true rfl, Nat.le_of_ble_eq_true rfl⟩) (prev_of hK hP hD hS hA hE [1, 2] rfl (by decide) (ci := 3) rfl 1 rfl _) rfl rfl hl.1 rfl (lv_room (Nat.le_of_ble_eq_true rfl)) dX4_car_17 ⟨Nat.le_of_ble_eq_true rfl, Nat.le_of_ble_eq_true rfl⟩) hP hD hS hA rfl rfl (by decide) (by decide) (fun r_4 u_ H locs hw_5 hP hD hS => ?_)
  have hw_5 : F_placeOf n pf p0 = r_4 := hw_5
  have hG := hG.trans (cb_e hw_5)
  have hP : va_P D vwCl [(k0, .inr (4, [.ref h4, .null, up, .int powered, .int stepsDone])), (h4, .inr (3, [.ref h5, .int gap])), (h5, .inl (aI, n, .inl pf))] H := hP
  have hD : va_D A [(k0, .inr (4, [.ref h4, .null, up, .int powered, .int stepsDone])), (h4, .inr (3, [.ref h5, .int gap])), (h5, .inl (aI, n, .inl pf))] := hD
  refine lv_istore_n (lv' := [(2, .int r_4), (0, .ref k0), (1, .int p0)]) hx hb dX4_car_20 rfl hl (by decide) rfl (fun ls hl => ?_)
  refine lv_aload_n hx hb dX4_car_21 rfl (lv_at hl 1 rfl) ?_
  refine va_get (D := D) (ci := 4) (v := .null) (C := RX4) (T := TX4) (N := 5) hx hb hts inX4 hown hK hP 0 rfl rfl 1 (by decide) (hts _ (mG w_80)) (fun _ h9 => h9) rfl dX4_car_22 ?_
  refine lv_ifnonnullN hx hb dX4_car_25 ?_
  refine lv_aload_n hx hb dX4_car_28 rfl (lv_at hl 1 rfl) ?_
  refine va_new (ci := 1) (fs := [.int 0, .null, .null, .int 0, .int 0, .int 0, .int 0, .int 0, .int 0, .int 0, .int 0, .int 0, .int 0, .int 0, .int 0, .int 0, .int 0, .int 0, .int 0]) (C := RX1) (T := TX1) (N := 19) hx hb hts inX1 tyX1 tyX1_ok hown (hts _ (mG w_238)) (hts _ (mG w_239)) (hts _ (mG w_44)) hK hP hD hS hA rfl (by decide +kernel) (Nat.le_of_ble_eq_true rfl) (Nat.le_of_ble_eq_true rfl) dX4_car_29 (fun q_6 H hP hD hS => ?_)
  have hP : va_P D vwCl [(k0, .inr (4, [.ref h4, .null, up, .int powered, .int stepsDone])), (h4, .inr (3, [.ref h5, .int gap])), (h5, .inl (aI, n, .inl pf)), (q_6, .inr (1, [.int 0, .null, .null, .int 0, .int 0, .int 0, .int 0, .int 0, .int 0, .int 0, .int 0, .int 0, .int 0, .int 0, .int 0, .int 0, .int 0, .int 0, .int 0]))] H := hP
  have hD : va_D A [(k0, .inr (4, [.ref h4, .null, up, .int powered, .int stepsDone])), (h4, .inr (3, [.ref h5, .int gap])), (h5, .inl (aI, n, .inl pf)), (q_6, .inr (1, [.int 0, .null, .null, .int 0, .int 0, .int 0, .int 0, .int 0, .int 0, .int 0, .int 0, .int 0, .int 0, .int 0, .int 0, .int 0, .int 0, .int 0, .int 0]))] := hD
  refine lv_dup hx hb dX4_car_32 rfl ?_
  refine lv_iload_n hx hb dX4_car_33 rfl (lv_at hl 0 rfl) ?_
  refine lv_iconst (v := 1) hx hb dX4_car_34 (by decide) ?_
  refine my_v (wr := [(k0, .inr (4, [.ref h4, .null, up, .int powered, .int stepsDone])), (h4, .inr (3, [.ref h5, .int gap])), (h5, .inl (aI, n, .inl pf))]) [3] [0, 1, 2] (va_runI (As := [.int r_4, .int 1]) (rest := [.ref q_6, .ref k0]) ⟨hx, hb, hml, hown, hts⟩ (c_carInit l D aI aL aZ _ q_6 r_4 1) (cwI 2 hts (gC w_242) rfl rfl rfl (hts _ (mG w_44)) (hts _ (mG w_240)) (hts _ (mG w_241)) rfl (by decide +kernel) ⟨Nat.le_of_ble_eq_true rfl, Nat.le_of_ble_eq_true rfl⟩) (pre_of hK hP hD hS hA hE [3] rfl (by decide) _) rfl rfl hl.1 rfl (lv_room (Nat.le_of_ble_eq_true rfl)) dX4_car_35 ⟨Nat.le_of_ble_eq_true rfl, Nat.le_of_ble_eq_true rfl⟩) hP hD hS hA rfl rfl (by decide) (by decide) (fun u_ H locs hw_10 hP hD hS => ?_)
  obtain ⟨q_7, q_8, q_9⟩ := u_
  have hw_10 : F_carInit = () := hw_10
  have hG := hG.trans (cb_e hw_10)
  have hP : va_P D vwCl [(k0, .inr (4, [.ref h4, .null, up, .int powered, .int stepsDone])), (h4, .inr (3, [.ref h5, .int gap])), (h5, .inl (aI, n, .inl pf)), (q_6, .inr (1, [.int 1, .ref q_7, .ref q_8, .int r_4, .int 0, .int 0, .int 100, .int 20, .int 40, .int 5, .int 10, .int 0, .int 1000, .int 0, .int (-1), .int 2, .int 0, .int 0, .int 0])), (q_7, .inr (2, [.int 0, .int 0, .int 5, .int 20, .int 0, .int 0, .int 0, .int 0])), (q_8, .inr (0, [.ref q_9, .int 0, .int 0])), (q_9, .inl (aI, 8, .inl (fun _ => 0)))] H := hP
  have hD : va_D A [(k0, .inr (4, [.ref h4, .null, up, .int powered, .int stepsDone])), (h4, .inr (3, [.ref h5, .int gap])), (h5, .inl (aI, n, .inl pf)), (q_6, .inr (1, [.int 1, .ref q_7, .ref q_8, .int r_4, .int 0, .int 0, .int 100, .int 20, .int 40, .int 5, .int 10, .int 0, .int 1000, .int 0, .int (-1), .int 2, .int 0, .int 0, .int 0])), (q_7, .inr (2, [.int 0, .int 0, .int 5, .int 20, .int 0, .int 0, .int 0, .int 0])), (q_8, .inr (0, [.ref q_9, .int 0, .int 0])), (q_9, .inl (aI, 8, .inl (fun _ => 0)))] := hD
  refine va_put (D := D) (ci := 4) (v := .ref q_6) (ty := (.object "CarSteps$Car")) (C := RX4) (T := TX4) (N := 5) hx hb hts inX4 tyX4 tyX4_ok nmX4 hown hK hP hD hS 0 rfl rfl 1 (by decide) (hts _ (mG w_80)) (fun _ h9 => h9) rfl (by decide +kernel) rfl rfl (Nat.le_of_ble_eq_true rfl) dX4_car_38 (fun H locs hP hD hS => ?_)
  have hP : va_P D vwCl [(k0, .inr (4, [.ref h4, .ref q_6, up, .int powered, .int stepsDone])), (h4, .inr (3, [.ref h5, .int gap])), (h5, .inl (aI, n, .inl pf)), (q_6, .inr (1, [.int 1, .ref q_7, .ref q_8, .int r_4, .int 0, .int 0, .int 100, .int 20, .int 40, .int 5, .int 10, .int 0, .int 1000, .int 0, .int (-1), .int 2, .int 0, .int 0, .int 0])), (q_7, .inr (2, [.int 0, .int 0, .int 5, .int 20, .int 0, .int 0, .int 0, .int 0])), (q_8, .inr (0, [.ref q_9, .int 0, .int 0])), (q_9, .inl (aI, 8, .inl (fun _ => 0)))] H := hP
  have hD : va_D A [(k0, .inr (4, [.ref h4, .ref q_6, up, .int powered, .int stepsDone])), (h4, .inr (3, [.ref h5, .int gap])), (h5, .inl (aI, n, .inl pf)), (q_6, .inr (1, [.int 1, .ref q_7, .ref q_8, .int r_4, .int 0, .int 0, .int 100, .int 20, .int 40, .int 5, .int 10, .int 0, .int 1000, .int 0, .int (-1), .int 2, .int 0, .int 0, .int 0])), (q_7, .inr (2, [.int 0, .int 0, .int 5, .int 20, .int 0, .int 0, .int 0, .int 0])), (q_8, .inr (0, [.ref q_9, .int 0, .int 0])), (q_9, .inl (aI, 8, .inl (fun _ => 0)))] := hD
  refine lv_iconst (v := 0) hx hb dX4_car_41 (by decide) ?_
  have hP := hP.sub (ws' := [(k0, .inr (4, [.ref h4, .ref q_6, up, .int powered, .int stepsDone])), (h4, .inr (3, [.ref h5, .int gap])), (h5, .inl (aI, n, .inl pf)), (q_6, .inr (1, [.int 1, .ref q_7, .ref q_8, .int r_4, .int 0, .int 0, .int 100, .int 20, .int 40, .int 5, .int 10, .int 0, .int 1000, .int 0, .int (-1), .int 2, .int 0, .int 0, .int 0])), (q_7, .inr (2, [.int 0, .int 0, .int 5, .int 20, .int 0, .int 0, .int 0, .int 0])), (q_8, .inr (0, [.ref q_9, .int 0, .int 0])), (q_9, .inl (aI, 8, .inl (fun _ => 0)))]) [0, 1, 2, 3, 4, 5, 6] rfl
  have hD := hD.sub (ws' := [(k0, .inr (4, [.ref h4, .ref q_6, up, .int powered, .int stepsDone])), (h4, .inr (3, [.ref h5, .int gap])), (h5, .inl (aI, n, .inl pf)), (q_6, .inr (1, [.int 1, .ref q_7, .ref q_8, .int r_4, .int 0, .int 0, .int 100, .int 20, .int 40, .int 5, .int 10, .int 0, .int 1000, .int 0, .int (-1), .int 2, .int 0, .int 0, .int 0])), (q_7, .inr (2, [.int 0, .int 0, .int 5, .int 20, .int 0, .int 0, .int 0, .int 0])), (q_8, .inr (0, [.ref q_9, .int 0, .int 0])), (q_9, .inl (aI, 8, .inl (fun _ => 0)))]) [0, 1, 2, 3, 4, 5, 6] (by decide) rfl
  exact rtx_i hQ hx hb hr (q_6, q_7, q_8, q_9, r_4) hG hP hD hS (Nat.le_of_ble_eq_true rfl) (Nat.le_of_ble_eq_true rfl) dX4_car_42 hlk
def F_car_1 (gap : Int32) (n : Nat) (pf : Nat → Int32) (wayToOther : Int32) (place : Int32) (speed : Int32) (way : Int32) (brake : Int32) (p0 : Int32) : Int32 ⊕ (Int32 × Int32) :=
  cb (F_topFloor n) fun r_1 =>
    cx (F_refuseOutside p0 0 r_1) fun _ =>
      cb (F_placeOf n pf p0) fun r_4 =>
        cb (F_standPlace wayToOther place speed way brake) fun r_6 =>
          if gap ≤ (r_4 - r_6) then
            cb F_carInit fun _ =>
              .inr (1, r_4)
          else
            .inl 2
theorem F_car_1_u (gap : Int32) (n : Nat) (pf : Nat → Int32) (wayToOther : Int32) (place : Int32) (speed : Int32) (way : Int32) (brake : Int32) (p0 : Int32) : F_car_1 gap n pf wayToOther place speed way brake p0 =
  (cb (F_topFloor n) fun r_1 =>
    cx (F_refuseOutside p0 0 r_1) fun _ =>
      cb (F_placeOf n pf p0) fun r_4 =>
        cb (F_standPlace wayToOther place speed way brake) fun r_6 =>
          if gap ≤ (r_4 - r_6) then
            cb F_carInit fun _ =>
              .inr (1, r_4)
          else
            .inl 2) := rfl
set_option maxHeartbeats 4000000 in
set_option maxRecDepth 100000 in
theorem c_car_1 (l : Launch) (hl9 : l.stackTraces = false) (D : va_G) (aI aL aZ : ClassId) (sz : Nat) (k0 : Nat) (h4 : Nat) (powered : Int32) (stepsDone : Int32) (h5 : Nat) (gap : Int32) (n : Nat) (pf : Nat → Int32) (h0 : Nat) (h1 : Nat) (h2 : Nat) (wayToOther : Int32) (place : Int32) (speed : Int32) (way : Int32) (topSpeed : Int32) (gain : Int32) (brake : Int32) (darkSpeed : Int32) (rideSpeed : Int32) (kilos : Int32) (mostKilos : Int32) (openContacts : Int32) (fireFloor : Int32) (ride : Int32) (starts : Int32) (distance : Int32) (hardFalls : Int32) (p0 : Int32) (hn : n < 2 ^ 31) : vx_Met l yX4_car (.code yX4_car cX4_car 3 (some .int) :: Gw) ({ frames := 7, cells := 5, slots := 44, locals := 114 }) (va_Pc [.ref k0, .int p0] (mpre D [(aI, .int), (aL, .long), (aZ, .boolean)] [(k0, .inr (4, [.ref h4, .ref h0, .null, .int powered, .int stepsDone])), (h4, .inr (3, [.ref h5, .int gap])), (h5, .inl (aI, n, .inl pf)), (h0, .inr (1, [.int wayToOther, .ref h1, .ref h2, .int place, .int speed, .int way, .int topSpeed, .int gain, .int brake, .int darkSpeed, .int rideSpeed, .int kilos, .int mostKilos, .int openContacts, .int fireFloor, .int ride, .int starts, .int distance, .int hardFalls]))] sz)) ((fun A : Nat → Prop => va_Qi (fun (r : Int32) (u : Nat × Nat × Nat × Nat × Int32) => match u with | (q_9, q_10, q_11, q_12, u0) => F_car_1 gap n pf wayToOther place speed way brake p0 = .inr (r, u0)) (mpst D A (fun (u : Nat × Nat × Nat × Nat × Int32) => match u with | (q_9, q_10, q_11, q_12, u0) => [(k0, .inr (4, [.ref h4, .ref h0, .ref q_9, .int powered, .int stepsDone])), (h4, .inr (3, [.ref h5, .int gap])), (h5, .inl (aI, n, .inl pf)), (h0, .inr (1, [.int wayToOther, .ref h1, .ref h2, .int place, .int speed, .int way, .int topSpeed, .int gain, .int brake, .int darkSpeed, .int rideSpeed, .int kilos, .int mostKilos, .int openContacts, .int fireFloor, .int ride, .int starts, .int distance, .int hardFalls])), (q_9, .inr (1, [.int (-1), .ref q_10, .ref q_11, .int u0, .int 0, .int 0, .int 100, .int 20, .int 40, .int 5, .int 10, .int 0, .int 1000, .int 0, .int (-1), .int 2, .int 0, .int 0, .int 0])), (q_10, .inr (2, [.int 0, .int 0, .int 5, .int 20, .int 0, .int 0, .int 0, .int 0])), (q_11, .inr (0, [.ref q_12, .int 0, .int 0])), (q_12, .inl (aI, 8, .inl (fun _ => 0)))])) A) (va_A ([(k0, .inr (4, [.ref h4, .ref h0, .null, .int powered, .int stepsDone])), (h4, .inr (3, [.ref h5, .int gap])), (h5, .inl (aI, n, .inl pf)), (h0, .inr (1, [.int wayToOther, .ref h1, .ref h2, .int place, .int speed, .int way, .int topSpeed, .int gain, .int brake, .int darkSpeed, .int rideSpeed, .int kilos, .int mostKilos, .int openContacts, .int fireFloor, .int ride, .int starts, .int distance, .int hardFalls]))]) sz)) ((fun A : Nat → Prop => vx_X (fun u : Int32 => F_car_1 gap n pf wayToOther place speed way brake p0 = .inl u ∧ (u = 1 ∨ u = 2)) (mpsx D A [(k0, .inr (4, [.ref h4, .ref h0, .null, .int powered, .int stepsDone])), (h4, .inr (3, [.ref h5, .int gap])), (h5, .inl (aI, n, .inl pf)), (h0, .inr (1, [.int wayToOther, .ref h1, .ref h2, .int place, .int speed, .int way, .int topSpeed, .int gain, .int brake, .int darkSpeed, .int rideSpeed, .int kilos, .int mostKilos, .int openContacts, .int fireFloor, .int ride, .int starts, .int distance, .int hardFalls]))]) A) (va_A ([(k0, .inr (4, [.ref h4, .ref h0, .null, .int powered, .int stepsDone])), (h4, .inr (3, [.ref h5, .int gap])), (h5, .inl (aI, n, .inl pf)), (h0, .inr (1, [.int wayToOther, .ref h1, .ref h2, .int place, .int speed, .int way, .int topSpeed, .int gain, .int brake, .int darkSpeed, .int rideSpeed, .int kilos, .int mostKilos, .int openContacts, .int fireFloor, .int ride, .int starts, .int distance, .int hardFalls]))]) sz)) 5 44 (va_A ([(k0, .inr (4, [.ref h4, .ref h0, .null, .int powered, .int stepsDone])), (h4, .inr (3, [.ref h5, .int gap])), (h5, .inl (aI, n, .inl pf)), (h0, .inr (1, [.int wayToOther, .ref h1, .ref h2, .int place, .int speed, .int way, .int topSpeed, .int gain, .int brake, .int darkSpeed, .int rideSpeed, .int kilos, .int mostKilos, .int openContacts, .int fireFloor, .int ride, .int starts, .int distance, .int hardFalls]))]) sz) := by
  refine enx (cc := cX4_car) (maxL := 3) (ret := (some .int)) (Qc := (fun A : Nat → Prop => va_Qi (fun (r : Int32) (u : Nat × Nat × Nat × Nat × Int32) => match u with | (q_9, q_10, q_11, q_12, u0) => F_car_1 gap n pf wayToOther place speed way brake p0 = .inr (r, u0)) (mpst D A (fun (u : Nat × Nat × Nat × Nat × Int32) => match u with | (q_9, q_10, q_11, q_12, u0) => [(k0, .inr (4, [.ref h4, .ref h0, .ref q_9, .int powered, .int stepsDone])), (h4, .inr (3, [.ref h5, .int gap])), (h5, .inl (aI, n, .inl pf)), (h0, .inr (1, [.int wayToOther, .ref h1, .ref h2, .int place, .int speed, .int way, .int topSpeed, .int gain, .int brake, .int darkSpeed, .int rideSpeed, .int kilos, .int mostKilos, .int openContacts, .int fireFloor, .int ride, .int starts, .int distance, .int hardFalls])), (q_9, .inr (1, [.int (-1), .ref q_10, .ref q_11, .int u0, .int 0, .int 0, .int 100, .int 20, .int 40, .int 5, .int 10, .int 0, .int 1000, .int 0, .int (-1), .int 2, .int 0, .int 0, .int 0])), (q_10, .inr (2, [.int 0, .int 0, .int 5, .int 20, .int 0, .int 0, .int 0, .int 0])), (q_11, .inr (0, [.ref q_12, .int 0, .int 0])), (q_12, .inl (aI, 8, .inl (fun _ => 0)))])) A)) (XC := (fun A : Nat → Prop => vx_X (fun u : Int32 => F_car_1 gap n pf wayToOther place speed way brake p0 = .inl u ∧ (u = 1 ∨ u = 2)) (mpsx D A [(k0, .inr (4, [.ref h4, .ref h0, .null, .int powered, .int stepsDone])), (h4, .inr (3, [.ref h5, .int gap])), (h5, .inl (aI, n, .inl pf)), (h0, .inr (1, [.int wayToOther, .ref h1, .ref h2, .int place, .int speed, .int way, .int topSpeed, .int gain, .int brake, .int darkSpeed, .int rideSpeed, .int kilos, .int mostKilos, .int openContacts, .int fireFloor, .int ride, .int starts, .int distance, .int hardFalls]))]) A)) (by decide) rfl (Nat.le_of_ble_eq_true rfl) ?_
  intro p e s m args below meth c A ls Q hQ hx hb hr hts hown hlk hnm hml hout hA hS hP hK hD hE hl
  have hown : s.vm.findClass RX4 = some m.cls := hown
  have hl : lv_has ls 3 [(0, .ref k0), (1, .int p0)] := hl
  have hG := F_car_1_u gap n pf wayToOther place speed way brake p0
  refine lv_iload_n hx hb dX4_car_0 rfl (lv_at hl 1 rfl) ?_
  refine lv_iconst (v := 0) hx hb dX4_car_1 (by decide) ?_
  refine lv_aload_n hx hb dX4_car_2 rfl (lv_at hl 0 rfl) ?_
  refine va_get (D := D) (ci := 4) (v := .ref h4) (C := RX4) (T := TX4) (N := 5) hx hb hts inX4 hown hK hP 0 rfl rfl 0 (by decide) (hts _ (mG w_79)) (fun _ h9 => h9) rfl dX4_car_3 ?_
  refine my_i (wr := [(k0, .inr (4, [.ref h4, .ref h0, .null, .int powered, .int stepsDone])), (h0, .inr (1, [.int wayToOther, .ref h1, .ref h2, .int place, .int speed, .int way, .int topSpeed, .int gain, .int brake, .int darkSpeed, .int rideSpeed, .int kilos, .int mostKilos, .int openContacts, .int fireFloor, .int ride, .int starts, .int distance, .int hardFalls]))]) [1, 2] [0, 3] (va_runV (As := []) (rest := [.int 0, .int p0]) ⟨hx, hb, hml, hown, hts⟩ (c_topFloor l D aI aL aZ _ h4 h5 gap n pf) (cwV 0 hts (gV w_111 w_112 w_113 w_36 w_114) rfl rfl rfl (by decide +kernel) ⟨Nat.le_of_ble_eq_true rfl, Nat.le_of_ble_eq_true rfl⟩) (prev_of hK hP hD hS hA hE [1, 2] rfl (by decide) (ci := 3) rfl 1 rfl _) rfl rfl hl.1 rfl (lv_room (Nat.le_of_ble_eq_true rfl)) dX4_car_6 ⟨Nat.le_of_ble_eq_true rfl, Nat.le_of_ble_eq_true rfl⟩) hP hD hS hA rfl rfl (by decide) (by decide) (fun r_1 u_ H locs hw_2 hP hD hS => ?_)
  have hw_2 : F_topFloor n = r_1 := hw_2
  have hG := hG.trans (cb_e hw_2)
  have hP : va_P D vwCl [(k0, .inr (4, [.ref h4, .ref h0, .null, .int powered, .int stepsDone])), (h0, .inr (1, [.int wayToOther, .ref h1, .ref h2, .int place, .int speed, .int way, .int topSpeed, .int gain, .int brake, .int darkSpeed, .int rideSpeed, .int kilos, .int mostKilos, .int openContacts, .int fireFloor, .int ride, .int starts, .int distance, .int hardFalls])), (h4, .inr (3, [.ref h5, .int gap])), (h5, .inl (aI, n, .inl pf))] H := hP
  have hD : va_D A [(k0, .inr (4, [.ref h4, .ref h0, .null, .int powered, .int stepsDone])), (h0, .inr (1, [.int wayToOther, .ref h1, .ref h2, .int place, .int speed, .int way, .int topSpeed, .int gain, .int brake, .int darkSpeed, .int rideSpeed, .int kilos, .int mostKilos, .int openContacts, .int fireFloor, .int ride, .int starts, .int distance, .int hardFalls])), (h4, .inr (3, [.ref h5, .int gap])), (h5, .inl (aI, n, .inl pf))] := hD
  refine my_xv (wr := [(k0, .inr (4, [.ref h4, .ref h0, .null, .int powered, .int stepsDone])), (h0, .inr (1, [.int wayToOther, .ref h1, .ref h2, .int place, .int speed, .int way, .int topSpeed, .int gain, .int brake, .int darkSpeed, .int rideSpeed, .int kilos, .int mostKilos, .int openContacts, .int fireFloor, .int ride, .int starts, .int distance, .int hardFalls])), (h4, .inr (3, [.ref h5, .int gap])), (h5, .inl (aI, n, .inl pf))]) [] [0, 1, 2, 3] [0, 2, 3, 1] (vx_runS (As := [.int p0, .int 0, .int r_1]) (rest := []) ⟨hx, hb, hml, hown, hts⟩ (c_refuseOutside l hl9 D aI aL aZ _ p0 0 r_1) (va_cwS 3 hts (gS w_115 w_116 w_35 w_117) rfl rfl rfl (by decide +kernel) ⟨Nat.le_of_ble_eq_true rfl, Nat.le_of_ble_eq_true rfl⟩) (pre_of hK hP hD hS hA hE [] rfl (by decide) _) rfl rfl hl.1 rfl (lv_room (Nat.le_of_ble_eq_true rfl)) dX4_car_9 ⟨Nat.le_of_ble_eq_true rfl, Nat.le_of_ble_eq_true rfl⟩) hP hD hS hA rfl rfl (by decide) (by decide) hQ (fun _ h9 => ⟨hG.trans (cx_l h9.1), (Or.inl h9.2)⟩) hout hlk rfl (by decide) (Nat.le_of_ble_eq_true rfl) (Nat.le_of_ble_eq_true rfl) (fun u_ H locs hw_3 hP hD hS => ?_)
  have hw_3 : F_refuseOutside p0 0 r_1 = .inr () := hw_3
  have hG := hG.trans (cx_r hw_3)
  have hP : va_P D vwCl [(k0, .inr (4, [.ref h4, .ref h0, .null, .int powered, .int stepsDone])), (h0, .inr (1, [.int wayToOther, .ref h1, .ref h2, .int place, .int speed, .int way, .int topSpeed, .int gain, .int brake, .int darkSpeed, .int rideSpeed, .int kilos, .int mostKilos, .int openContacts, .int fireFloor, .int ride, .int starts, .int distance, .int hardFalls])), (h4, .inr (3, [.ref h5, .int gap])), (h5, .inl (aI, n, .inl pf))] H := hP
  have hD : va_D A [(k0, .inr (4, [.ref h4, .ref h0, .null, .int powered, .int stepsDone])), (h0, .inr (1, [.int wayToOther, .ref h1, .ref h2, .int place, .int speed, .int way, .int topSpeed, .int gain, .int brake, .int darkSpeed, .int rideSpeed, .int kilos, .int mostKilos, .int openContacts, .int fireFloor, .int ride, .int starts, .int distance, .int hardFalls])), (h4, .inr (3, [.ref h5, .int gap])), (h5, .inl (aI, n, .inl pf))] := hD
  refine lv_aload_n hx hb dX4_car_12 rfl (lv_at hl 0 rfl) ?_
  refine va_get (D := D) (ci := 4) (v := .ref h4) (C := RX4) (T := TX4) (N := 5) hx hb hts inX4 hown hK hP 0 rfl rfl 0 (by decide) (hts _ (mG w_79)) (fun _ h9 => h9) rfl dX4_car_13 ?_
  refine lv_iload_n hx hb dX4_car_16 rfl (lv_at hl 1 rfl) ?_
  refine my_i (wr := [(k0, .inr (4, [.ref h4, .ref h0, .null, .int powered, .int stepsDone])), (h0, .inr (1, [.int wayToOther, .ref h1, .ref h2, .int place, .int speed, .int way, .int topSpeed, .int gain, .int brake, .int darkSpeed, .int rideSpeed, .int kilos, .int mostKilos, .int openContacts, .int fireFloor, .int ride, .int starts, .int distance, .int hardFalls]))]) [2, 3] [0, 1] (va_runV (As := [.int p0]) (rest := []) ⟨hx, hb, hml, hown, hts⟩ (c_placeOf l D aI aL aZ _ h4 h5 gap n pf p0 hn) (cwV 1 hts (gV w_219 w_215 w_216 w_36 w_217) rfl rfl rfl (by decide +kernel) ⟨Nat.le_of_ble_eq_true rfl, Nat.le_of_ble_eq_true rfl⟩) (prev_of hK hP hD hS hA hE [2, 3] rfl (by decide) (ci := 3) rfl 2 rfl _) rfl rfl hl.1 rfl (lv_room (Nat.le_of_ble_eq_true rfl)) dX4_car_17 ⟨Nat.le_of_ble_eq_true rfl, Nat.le_of_ble_eq_true rfl⟩) hP hD hS hA rfl rfl (by decide) (by decide) (fun r_4 u_ H locs hw_5 hP hD hS => ?_)
  have hw_5 : F_placeOf n pf p0 = r_4 := hw_5
  have hG := hG.trans (cb_e hw_5)
  have hP : va_P D vwCl [(k0, .inr (4, [.ref h4, .ref h0, .null, .int powered, .int stepsDone])), (h0, .inr (1, [.int wayToOther, .ref h1, .ref h2, .int place, .int speed, .int way, .int topSpeed, .int gain, .int brake, .int darkSpeed, .int rideSpeed, .int kilos, .int mostKilos, .int openContacts, .int fireFloor, .int ride, .int starts, .int distance, .int hardFalls])), (h4, .inr (3, [.ref h5, .int gap])), (h5, .inl (aI, n, .inl pf))] H := hP
  have hD : va_D A [(k0, .inr (4, [.ref h4, .ref h0, .null, .int powered, .int stepsDone])), (h0, .inr (1, [.int wayToOther, .ref h1, .ref h2, .int place, .int speed, .int way, .int topSpeed, .int gain, .int brake, .int darkSpeed, .int rideSpeed, .int kilos, .int mostKilos, .int openContacts, .int fireFloor, .int ride, .int starts, .int distance, .int hardFalls])), (h4, .inr (3, [.ref h5, .int gap])), (h5, .inl (aI, n, .inl pf))] := hD
  refine lv_istore_n (lv' := [(2, .int r_4), (0, .ref k0), (1, .int p0)]) hx hb dX4_car_20 rfl hl (by decide) rfl (fun ls hl => ?_)
  refine lv_aload_n hx hb dX4_car_21 rfl (lv_at hl 1 rfl) ?_
  refine va_get (D := D) (ci := 4) (v := .ref h0) (C := RX4) (T := TX4) (N := 5) hx hb hts inX4 hown hK hP 0 rfl rfl 1 (by decide) (hts _ (mG w_80)) (fun _ h9 => h9) rfl dX4_car_22 ?_
  refine lv_ifnonnull (tgt := 43) hx hb dX4_car_25 (by decide) ?_
  refine lv_aload_n hx hb dX4_car_43 rfl (lv_at hl 1 rfl) ?_
  refine va_get (D := D) (ci := 4) (v := .null) (C := RX4) (T := TX4) (N := 5) hx hb hts inX4 hown hK hP 0 rfl rfl 2 (by decide) (hts _ (mG w_81)) (fun _ h9 => h9) rfl dX4_car_44 ?_
  refine lv_ifnullN (tgt := 60) hx hb dX4_car_47 (by decide) ?_
  refine lv_iload_n hx hb dX4_car_60 rfl (lv_at hl 0 rfl) ?_
  refine lv_aload_n hx hb dX4_car_61 rfl (lv_at hl 1 rfl) ?_
  refine va_get (D := D) (ci := 4) (v := .ref h0) (C := RX4) (T := TX4) (N := 5) hx hb hts inX4 hown hK hP 0 rfl rfl 1 (by decide) (hts _ (mG w_80)) (fun _ h9 => h9) rfl dX4_car_62 ?_
  refine my_i (wr := [(k0, .inr (4, [.ref h4, .ref h0, .null, .int powered, .int stepsDone])), (h4, .inr (3, [.ref h5, .int gap])), (h5, .inl (aI, n, .inl pf))]) [1] [0, 2, 3] (va_runV (As := []) (rest := [.int r_4]) ⟨hx, hb, hml, hown, hts⟩ (c_standPlace l D aI aL aZ _ h0 h1 h2 wayToOther place speed way topSpeed gain brake darkSpeed rideSpeed kilos mostKilos openContacts fireFloor ride starts distance hardFalls) (cwV 0 hts (gV w_378 w_379 w_380 w_44 w_381) rfl rfl rfl (by decide +kernel) ⟨Nat.le_of_ble_eq_true rfl, Nat.le_of_ble_eq_true rfl⟩) (prev_of hK hP hD hS hA hE [1] rfl (by decide) (ci := 1) rfl 1 rfl _) rfl rfl hl.1 rfl (lv_room (Nat.le_of_ble_eq_true rfl)) dX4_car_65 ⟨Nat.le_of_ble_eq_true rfl, Nat.le_of_ble_eq_true rfl⟩) hP hD hS hA rfl rfl (by decide) (by decide) (fun r_6 u_ H locs hw_7 hP hD hS => ?_)
  have hw_7 : F_standPlace wayToOther place speed way brake = r_6 := hw_7
  have hG := hG.trans (cb_e hw_7)
  have hP : va_P D vwCl [(k0, .inr (4, [.ref h4, .ref h0, .null, .int powered, .int stepsDone])), (h4, .inr (3, [.ref h5, .int gap])), (h5, .inl (aI, n, .inl pf)), (h0, .inr (1, [.int wayToOther, .ref h1, .ref h2, .int place, .int speed, .int way, .int topSpeed, .int gain, .int brake, .int darkSpeed, .int rideSpeed, .int kilos, .int mostKilos, .int openContacts, .int fireFloor, .int ride, .int starts, .int distance, .int hardFalls]))] H := hP
  have hD : va_D A [(k0, .inr (4, [.ref h4, .ref h0, .null, .int powered, .int stepsDone])), (h4, .inr (3, [.ref h5, .int gap])), (h5, .inl (aI, n, .inl pf)), (h0, .inr (1, [.int wayToOther, .ref h1, .ref h2, .int place, .int speed, .int way, .int topSpeed, .int gain, .int brake, .int darkSpeed, .int rideSpeed, .int kilos, .int mostKilos, .int openContacts, .int fireFloor, .int ride, .int starts, .int distance, .int hardFalls]))] := hD
  refine lv_isub hx hb dX4_car_68 ?_
  refine lv_aload_n hx hb dX4_car_69 rfl (lv_at hl 1 rfl) ?_
  refine va_get (D := D) (ci := 4) (v := .ref h4) (C := RX4) (T := TX4) (N := 5) hx hb hts inX4 hown hK hP 0 rfl rfl 0 (by decide) (hts _ (mG w_79)) (fun _ h9 => h9) rfl dX4_car_70 ?_
  refine va_getN (D := D) (ci := 3) (v := .int gap) (C := RX3) (T := TX3) (N := 2) hx hb hts inX3 hown hK hP 1 rfl rfl 1 (by decide) (nwF hE 0 rfl) (fun _ h9 => h9) rfl dX4_car_73 ?_
  refine lv_icmp_ge (tgt := 89) hx hb dX4_car_76 (by decide) (fun c_8 => ?_) (fun c_8 => ?_)
  · have hG := hG.trans (if_pos c_8)
    refine lv_aload_n hx hb dX4_car_89 rfl (lv_at hl 1 rfl) ?_
    refine va_new (ci := 1) (fs := [.int 0, .null, .null, .int 0, .int 0, .int 0, .int 0, .int 0, .int 0, .int 0, .int 0, .int 0, .int 0, .int 0, .int 0, .int 0, .int 0, .int 0, .int 0]) (C := RX1) (T := TX1) (N := 19) hx hb hts inX1 tyX1 tyX1_ok hown (hts _ (mG w_238)) (hts _ (mG w_239)) (hts _ (mG w_44)) hK hP hD hS hA rfl (by decide +kernel) (Nat.le_of_ble_eq_true rfl) (Nat.le_of_ble_eq_true rfl) dX4_car_90 (fun q_9 H hP hD hS => ?_)
    have hP : va_P D vwCl [(k0, .inr (4, [.ref h4, .ref h0, .null, .int powered, .int stepsDone])), (h4, .inr (3, [.ref h5, .int gap])), (h5, .inl (aI, n, .inl pf)), (h0, .inr (1, [.int wayToOther, .ref h1, .ref h2, .int place, .int speed, .int way, .int topSpeed, .int gain, .int brake, .int darkSpeed, .int rideSpeed, .int kilos, .int mostKilos, .int openContacts, .int fireFloor, .int ride, .int starts, .int distance, .int hardFalls])), (q_9, .inr (1, [.int 0, .null, .null, .int 0, .int 0, .int 0, .int 0, .int 0, .int 0, .int 0, .int 0, .int 0, .int 0, .int 0, .int 0, .int 0, .int 0, .int 0, .int 0]))] H := hP
    have hD : va_D A [(k0, .inr (4, [.ref h4, .ref h0, .null, .int powered, .int stepsDone])), (h4, .inr (3, [.ref h5, .int gap])), (h5, .inl (aI, n, .inl pf)), (h0, .inr (1, [.int wayToOther, .ref h1, .ref h2, .int place, .int speed, .int way, .int topSpeed, .int gain, .int brake, .int darkSpeed, .int rideSpeed, .int kilos, .int mostKilos, .int openContacts, .int fireFloor, .int ride, .int starts, .int distance, .int hardFalls])), (q_9, .inr (1, [.int 0, .null, .null, .int 0, .int 0, .int 0, .int 0, .int 0, .int 0, .int 0, .int 0, .int 0, .int 0, .int 0, .int 0, .int 0, .int 0, .int 0, .int 0]))] := hD
    refine lv_dup hx hb dX4_car_93 rfl ?_
    refine lv_iload_n hx hb dX4_car_94 rfl (lv_at hl 0 rfl) ?_
    refine lv_iconst (v := (-1)) hx hb dX4_car_95 (by decide) ?_
    refine my_v (wr := [(k0, .inr (4, [.ref h4, .ref h0, .null, .int powered, .int stepsDone])), (h4, .inr (3, [.ref h5, .int gap])), (h5, .inl (aI, n, .inl pf)), (h0, .inr (1, [.int wayToOther, .ref h1, .ref h2, .int place, .int speed, .int way, .int topSpeed, .int gain, .int brake, .int darkSpeed, .int rideSpeed, .int kilos, .int mostKilos, .int openContacts, .int fireFloor, .int ride, .int starts, .int distance, .int hardFalls]))]) [4] [0, 1, 2, 3] (va_runI (As := [.int r_4, .int (-1)]) (rest := [.ref q_9, .ref k0]) ⟨hx, hb, hml, hown, hts⟩ (c_carInit l D aI aL aZ _ q_9 r_4 (-1)) (cwI 2 hts (gC w_242) rfl rfl rfl (hts _ (mG w_44)) (hts _ (mG w_240)) (hts _ (mG w_241)) rfl (by decide +kernel) ⟨Nat.le_of_ble_eq_true rfl, Nat.le_of_ble_eq_true rfl⟩) (pre_of hK hP hD hS hA hE [4] rfl (by decide) _) rfl rfl hl.1 rfl (lv_room (Nat.le_of_ble_eq_true rfl)) dX4_car_96 ⟨Nat.le_of_ble_eq_true rfl, Nat.le_of_ble_eq_true rfl⟩) hP hD hS hA rfl rfl (by decide) (by decide) (fun u_ H locs hw_13 hP hD hS => ?_)
    obtain ⟨q_10, q_11, q_12⟩ := u_
    have hw_13 : F_carInit = () := hw_13
    have hG := hG.trans (cb_e hw_13)
    have hP : va_P D vwCl [(k0, .inr (4, [.ref h4, .ref h0, .null, .int powered, .int stepsDone])), (h4, .inr (3, [.ref h5, .int gap])), (h5, .inl (aI, n, .inl pf)), (h0, .inr (1, [.int wayToOther, .ref h1, .ref h2, .int place, .int speed, .int way, .int topSpeed, .int gain, .int brake, .int darkSpeed, .int rideSpeed, .int kilos, .int mostKilos, .int openContacts, .int fireFloor, .int ride, .int starts, .int distance, .int hardFalls])), (q_9, .inr (1, [.int (-1), .ref q_10, .ref q_11, .int r_4, .int 0, .int 0, .int 100, .int 20, .int 40, .int 5, .int 10, .int 0, .int 1000, .int 0, .int (-1), .int 2, .int 0, .int 0, .int 0])), (q_10, .inr (2, [.int 0, .int 0, .int 5, .int 20, .int 0, .int 0, .int 0, .int 0])), (q_11, .inr (0, [.ref q_12, .int 0, .int 0])), (q_12, .inl (aI, 8, .inl (fun _ => 0)))] H := hP
    have hD : va_D A [(k0, .inr (4, [.ref h4, .ref h0, .null, .int powered, .int stepsDone])), (h4, .inr (3, [.ref h5, .int gap])), (h5, .inl (aI, n, .inl pf)), (h0, .inr (1, [.int wayToOther, .ref h1, .ref h2, .int place, .int speed, .int way, .int topSpeed, .int gain, .int brake, .int darkSpeed, .int rideSpeed, .int kilos, .int mostKilos, .int openContacts, .int fireFloor, .int ride, .int starts, .int distance, .int hardFalls])), (q_9, .inr (1, [.int (-1), .ref q_10, .ref q_11, .int r_4, .int 0, .int 0, .int 100, .int 20, .int 40, .int 5, .int 10, .int 0, .int 1000, .int 0, .int (-1), .int 2, .int 0, .int 0, .int 0])), (q_10, .inr (2, [.int 0, .int 0, .int 5, .int 20, .int 0, .int 0, .int 0, .int 0])), (q_11, .inr (0, [.ref q_12, .int 0, .int 0])), (q_12, .inl (aI, 8, .inl (fun _ => 0)))] := hD
    refine va_put (D := D) (ci := 4) (v := .ref q_9) (ty := (.object "CarSteps$Car")) (C := RX4) (T := TX4) (N := 5) hx hb hts inX4 tyX4 tyX4_ok nmX4 hown hK hP hD hS 0 rfl rfl 2 (by decide) (hts _ (mG w_81)) (fun _ h9 => h9) rfl (by decide +kernel) rfl rfl (Nat.le_of_ble_eq_true rfl) dX4_car_99 (fun H locs hP hD hS => ?_)
    have hP : va_P D vwCl [(k0, .inr (4, [.ref h4, .ref h0, .ref q_9, .int powered, .int stepsDone])), (h4, .inr (3, [.ref h5, .int gap])), (h5, .inl (aI, n, .inl pf)), (h0, .inr (1, [.int wayToOther, .ref h1, .ref h2, .int place, .int speed, .int way, .int topSpeed, .int gain, .int brake, .int darkSpeed, .int rideSpeed, .int kilos, .int mostKilos, .int openContacts, .int fireFloor, .int ride, .int starts, .int distance, .int hardFalls])), (q_9, .inr (1, [.int (-1), .ref q_10, .ref q_11, .int r_4, .int 0, .int 0, .int 100, .int 20, .int 40, .int 5, .int 10, .int 0, .int 1000, .int 0, .int (-1), .int 2, .int 0, .int 0, .int 0])), (q_10, .inr (2, [.int 0, .int 0, .int 5, .int 20, .int 0, .int 0, .int 0, .int 0])), (q_11, .inr (0, [.ref q_12, .int 0, .int 0])), (q_12, .inl (aI, 8, .inl (fun _ => 0)))] H := hP
    have hD : va_D A [(k0, .inr (4, [.ref h4, .ref h0, .ref q_9, .int powered, .int stepsDone])), (h4, .inr (3, [.ref h5, .int gap])), (h5, .inl (aI, n, .inl pf)), (h0, .inr (1, [.int wayToOther, .ref h1, .ref h2, .int place, .int speed, .int way, .int topSpeed, .int gain, .int brake, .int darkSpeed, .int rideSpeed, .int kilos, .int mostKilos, .int openContacts, .int fireFloor, .int ride, .int starts, .int distance, .int hardFalls])), (q_9, .inr (1, [.int (-1), .ref q_10, .ref q_11, .int r_4, .int 0, .int 0, .int 100, .int 20, .int 40, .int 5, .int 10, .int 0, .int 1000, .int 0, .int (-1), .int 2, .int 0, .int 0, .int 0])), (q_10, .inr (2, [.int 0, .int 0, .int 5, .int 20, .int 0, .int 0, .int 0, .int 0])), (q_11, .inr (0, [.ref q_12, .int 0, .int 0])), (q_12, .inl (aI, 8, .inl (fun _ => 0)))] := hD
    refine lv_iconst (v := 1) hx hb dX4_car_102 (by decide) ?_
    have hP := hP.sub (ws' := [(k0, .inr (4, [.ref h4, .ref h0, .ref q_9, .int powered, .int stepsDone])), (h4, .inr (3, [.ref h5, .int gap])), (h5, .inl (aI, n, .inl pf)), (h0, .inr (1, [.int wayToOther, .ref h1, .ref h2, .int place, .int speed, .int way, .int topSpeed, .int gain, .int brake, .int darkSpeed, .int rideSpeed, .int kilos, .int mostKilos, .int openContacts, .int fireFloor, .int ride, .int starts, .int distance, .int hardFalls])), (q_9, .inr (1, [.int (-1), .ref q_10, .ref q_11, .int r_4, .int 0, .int 0, .int 100, .int 20, .int 40, .int 5, .int 10, .int 0, .int 1000, .int 0, .int (-1), .int 2, .int 0, .int 0, .int 0])), (q_10, .inr (2, [.int 0, .int 0, .int 5, .int 20, .int 0, .int 0, .int 0, .int 0])), (q_11, .inr (0, [.ref q_12, .int 0, .int 0])), (q_12, .inl (aI, 8, .inl (fun _ => 0)))]) [0, 1, 2, 3, 4, 5, 6, 7] rfl
    have hD := hD.sub (ws' := [(k0, .inr (4, [.ref h4, .ref h0, .ref q_9, .int powered, .int stepsDone])), (h4, .inr (3, [.ref h5, .int gap])), (h5, .inl (aI, n, .inl pf)), (h0, .inr (1, [.int wayToOther, .ref h1, .ref h2, .int place, .int speed, .int way, .int topSpeed, .int gain, .int brake, .int darkSpeed, .int rideSpeed, .int kilos, .int mostKilos, .int openContacts, .int fireFloor, .int ride, .int starts, .int distance, .int hardFalls])), (q_9, .inr (1, [.int (-1), .ref q_10, .ref q_11, .int r_4, .int 0, .int 0, .int 100, .int 20, .int 40, .int 5, .int 10, .int 0, .int 1000, .int 0, .int (-1), .int 2, .int 0, .int 0, .int 0])), (q_10, .inr (2, [.int 0, .int 0, .int 5, .int 20, .int 0, .int 0, .int 0, .int 0])), (q_11, .inr (0, [.ref q_12, .int 0, .int 0])), (q_12, .inl (aI, 8, .inl (fun _ => 0)))]) [0, 1, 2, 3, 4, 5, 6, 7] (by decide) rfl
    exact rtx_i hQ hx hb hr (q_9, q_10, q_11, q_12, r_4) hG hP hD hS (Nat.le_of_ble_eq_true rfl) (Nat.le_of_ble_eq_true rfl) dX4_car_103 hlk
  · have hG := hG.trans (if_neg c_8)
    exact my_throw (own := RX4) (cls := "java/lang/IllegalStateException") (text := "the floor is too near to car 0") 2 [0, 1, 2, 3] hx hb hl9 hown (by decide +kernel) (hts _ (mG w_190)) (hts _ (mG w_43)) 4 rfl mt_51 hts tb_X4_51 tg_X4_51 hE hS (hl.1.trans hml.symm) dX4_car_79 dX4_car_82 dX4_car_83 dX4_car_85 dX4_car_88 hout (Nat.le_of_ble_eq_true rfl) (Nat.le_of_ble_eq_true rfl) (Nat.le_of_ble_eq_true rfl) (Nat.le_of_ble_eq_true rfl) hlk hQ rfl ⟨hG, (Or.inr rfl)⟩ hP hD rfl (by decide) (Nat.le_of_ble_eq_true rfl) (Nat.le_of_ble_eq_true rfl)
def F_car_2 (n : Nat) (pf : Nat → Int32) (p0 : Int32) : Int32 ⊕ Int32 :=
  cb (F_topFloor n) fun r_1 =>
    cx (F_refuseOutside p0 0 r_1) fun _ =>
      cb (F_placeOf n pf p0) fun r_4 =>
        .inl 2
theorem F_car_2_u (n : Nat) (pf : Nat → Int32) (p0 : Int32) : F_car_2 n pf p0 =
  (cb (F_topFloor n) fun r_1 =>
    cx (F_refuseOutside p0 0 r_1) fun _ =>
      cb (F_placeOf n pf p0) fun r_4 =>
        .inl 2) := rfl
set_option maxHeartbeats 4000000 in
set_option maxRecDepth 100000 in
theorem c_car_2 (l : Launch) (hl9 : l.stackTraces = false) (D : va_G) (aI aL aZ : ClassId) (sz : Nat) (k0 : Nat) (h4 : Nat) (powered : Int32) (stepsDone : Int32) (h5 : Nat) (gap : Int32) (n : Nat) (pf : Nat → Int32) (h0 : Nat) (g0 : Nat) (p0 : Int32) (hn : n < 2 ^ 31) : vx_Met l yX4_car (.code yX4_car cX4_car 3 (some .int) :: Gw) ({ frames := 7, cells := 2, slots := 12, locals := 114 }) (va_Pc [.ref k0, .int p0] (mpre D [(aI, .int), (aL, .long), (aZ, .boolean)] [(k0, .inr (4, [.ref h4, .ref h0, .ref g0, .int powered, .int stepsDone])), (h4, .inr (3, [.ref h5, .int gap])), (h5, .inl (aI, n, .inl pf))] sz)) ((fun A : Nat → Prop => va_Qi (fun (r : Int32) (u : Unit) => False) (mpst D A (fun (u : Unit) => [(k0, .inr (4, [.ref h4, .ref h0, .ref g0, .int powered, .int stepsDone])), (h4, .inr (3, [.ref h5, .int gap])), (h5, .inl (aI, n, .inl pf))])) A) (va_A ([(k0, .inr (4, [.ref h4, .ref h0, .ref g0, .int powered, .int stepsDone])), (h4, .inr (3, [.ref h5, .int gap])), (h5, .inl (aI, n, .inl pf))]) sz)) ((fun A : Nat → Prop => vx_X (fun u : Int32 => F_car_2 n pf p0 = .inl u ∧ (u = 1 ∨ u = 2)) (mpsx D A [(k0, .inr (4, [.ref h4, .ref h0, .ref g0, .int powered, .int stepsDone])), (h4, .inr (3, [.ref h5, .int gap])), (h5, .inl (aI, n, .inl pf))]) A) (va_A ([(k0, .inr (4, [.ref h4, .ref h0, .ref g0, .int powered, .int stepsDone])), (h4, .inr (3, [.ref h5, .int gap])), (h5, .inl (aI, n, .inl pf))]) sz)) 2 12 (va_A ([(k0, .inr (4, [.ref h4, .ref h0, .ref g0, .int powered, .int stepsDone])), (h4, .inr (3, [.ref h5, .int gap])), (h5, .inl (aI, n, .inl pf))]) sz) := by
  refine enx (cc := cX4_car) (maxL := 3) (ret := (some .int)) (Qc := (fun A : Nat → Prop => va_Qi (fun (r : Int32) (u : Unit) => False) (mpst D A (fun (u : Unit) => [(k0, .inr (4, [.ref h4, .ref h0, .ref g0, .int powered, .int stepsDone])), (h4, .inr (3, [.ref h5, .int gap])), (h5, .inl (aI, n, .inl pf))])) A)) (XC := (fun A : Nat → Prop => vx_X (fun u : Int32 => F_car_2 n pf p0 = .inl u ∧ (u = 1 ∨ u = 2)) (mpsx D A [(k0, .inr (4, [.ref h4, .ref h0, .ref g0, .int powered, .int stepsDone])), (h4, .inr (3, [.ref h5, .int gap])), (h5, .inl (aI, n, .inl pf))]) A)) (by decide) rfl (Nat.le_of_ble_eq_true rfl) ?_
  intro p e s m args below meth c A ls Q hQ hx hb hr hts hown hlk hnm hml hout hA hS hP hK hD hE hl
  have hown : s.vm.findClass RX4 = some m.cls := hown
  have hl : lv_has ls 3 [(0, .ref k0), (1, .int p0)] := hl
  have hG := F_car_2_u n pf p0
  refine lv_iload_n hx hb dX4_car_0 rfl (lv_at hl 1 rfl) ?_
  refine lv_iconst (v := 0) hx hb dX4_car_1 (by decide) ?_
  refine lv_aload_n hx hb dX4_car_2 rfl (lv_at hl 0 rfl) ?_
  refine va_get (D := D) (ci := 4) (v := .ref h4) (C := RX4) (T := TX4) (N := 5) hx hb hts inX4 hown hK hP 0 rfl rfl 0 (by decide) (hts _ (mG w_79)) (fun _ h9 => h9) rfl dX4_car_3 ?_
  refine my_i (wr := [(k0, .inr (4, [.ref h4, .ref h0, .ref g0, .int powered, .int stepsDone]))]) [1, 2] [0] (va_runV (As := []) (rest := [.int 0, .int p0]) ⟨hx, hb, hml, hown, hts⟩ (c_topFloor l D aI aL aZ _ h4 h5 gap n pf) (cwV 0 hts (gV w_111 w_112 w_113 w_36 w_114) rfl rfl rfl (by decide +kernel) ⟨Nat.le_of_ble_eq_true rfl, Nat.le_of_ble_eq_true rfl⟩) (prev_of hK hP hD hS hA hE [1, 2] rfl (by decide) (ci := 3) rfl 1 rfl _) rfl rfl hl.1 rfl (lv_room (Nat.le_of_ble_eq_true rfl)) dX4_car_6 ⟨Nat.le_of_ble_eq_true rfl, Nat.le_of_ble_eq_true rfl⟩) hP hD hS hA rfl rfl (by decide) (by decide) (fun r_1 u_ H locs hw_2 hP hD hS => ?_)
  have hw_2 : F_topFloor n = r_1 := hw_2
  have hG := hG.trans (cb_e hw_2)
  have hP : va_P D vwCl [(k0, .inr (4, [.ref h4, .ref h0, .ref g0, .int powered, .int stepsDone])), (h4, .inr (3, [.ref h5, .int gap])), (h5, .inl (aI, n, .inl pf))] H := hP
  have hD : va_D A [(k0, .inr (4, [.ref h4, .ref h0, .ref g0, .int powered, .int stepsDone])), (h4, .inr (3, [.ref h5, .int gap])), (h5, .inl (aI, n, .inl pf))] := hD
  refine my_xv (wr := [(k0, .inr (4, [.ref h4, .ref h0, .ref g0, .int powered, .int stepsDone])), (h4, .inr (3, [.ref h5, .int gap])), (h5, .inl (aI, n, .inl pf))]) [] [0, 1, 2] [0, 1, 2] (vx_runS (As := [.int p0, .int 0, .int r_1]) (rest := []) ⟨hx, hb, hml, hown, hts⟩ (c_refuseOutside l hl9 D aI aL aZ _ p0 0 r_1) (va_cwS 3 hts (gS w_115 w_116 w_35 w_117) rfl rfl rfl (by decide +kernel) ⟨Nat.le_of_ble_eq_true rfl, Nat.le_of_ble_eq_true rfl⟩) (pre_of hK hP hD hS hA hE [] rfl (by decide) _) rfl rfl hl.1 rfl (lv_room (Nat.le_of_ble_eq_true rfl)) dX4_car_9 ⟨Nat.le_of_ble_eq_true rfl, Nat.le_of_ble_eq_true rfl⟩) hP hD hS hA rfl rfl (by decide) (by decide) hQ (fun _ h9 => ⟨hG.trans (cx_l h9.1), (Or.inl h9.2)⟩) hout hlk rfl (by decide) (Nat.le_of_ble_eq_true rfl) (Nat.le_of_ble_eq_true rfl) (fun u_ H locs hw_3 hP hD hS => ?_)
  have hw_3 : F_refuseOutside p0 0 r_1 = .inr () := hw_3
  have hG := hG.trans (cx_r hw_3)
  have hP : va_P D vwCl [(k0, .inr (4, [.ref h4, .ref h0, .ref g0, .int powered, .int stepsDone])), (h4, .inr (3, [.ref h5, .int gap])), (h5, .inl (aI, n, .inl pf))] H := hP
  have hD : va_D A [(k0, .inr (4, [.ref h4, .ref h0, .ref g0, .int powered, .int stepsDone])), (h4, .inr (3, [.ref h5, .int gap])), (h5, .inl (aI, n, .inl pf))] := hD
  refine lv_aload_n hx hb dX4_car_12 rfl (lv_at hl 0 rfl) ?_
  refine va_get (D := D) (ci := 4) (v := .ref h4) (C := RX4) (T := TX4) (N := 5) hx hb hts inX4 hown hK hP 0 rfl rfl 0 (by decide) (hts _ (mG w_79)) (fun _ h9 => h9) rfl dX4_car_13 ?_
  refine lv_iload_n hx hb dX4_car_16 rfl (lv_at hl 1 rfl) ?_
  refine my_i (wr := [(k0, .inr (4, [.ref h4, .ref h0, .ref g0, .int powered, .int stepsDone]))]) [1, 2] [0] (va_runV (As := [.int p0]) (rest := []) ⟨hx, hb, hml, hown, hts⟩ (c_placeOf l D aI aL aZ _ h4 h5 gap n pf p0 hn) (cwV 1 hts (gV w_219 w_215 w_216 w_36 w_217) rfl rfl rfl (by decide +kernel) ⟨Nat.le_of_ble_eq_true rfl, Nat.le_of_ble_eq_true rfl⟩) (prev_of hK hP hD hS hA hE [1, 2] rfl (by decide) (ci := 3) rfl 1 rfl _) rfl rfl hl.1 rfl (lv_room (Nat.le_of_ble_eq_true rfl)) dX4_car_17 ⟨Nat.le_of_ble_eq_true rfl, Nat.le_of_ble_eq_true rfl⟩) hP hD hS hA rfl rfl (by decide) (by decide) (fun r_4 u_ H locs hw_5 hP hD hS => ?_)
  have hw_5 : F_placeOf n pf p0 = r_4 := hw_5
  have hG := hG.trans (cb_e hw_5)
  have hP : va_P D vwCl [(k0, .inr (4, [.ref h4, .ref h0, .ref g0, .int powered, .int stepsDone])), (h4, .inr (3, [.ref h5, .int gap])), (h5, .inl (aI, n, .inl pf))] H := hP
  have hD : va_D A [(k0, .inr (4, [.ref h4, .ref h0, .ref g0, .int powered, .int stepsDone])), (h4, .inr (3, [.ref h5, .int gap])), (h5, .inl (aI, n, .inl pf))] := hD
  refine lv_istore_n (lv' := [(2, .int r_4), (0, .ref k0), (1, .int p0)]) hx hb dX4_car_20 rfl hl (by decide) rfl (fun ls hl => ?_)
  refine lv_aload_n hx hb dX4_car_21 rfl (lv_at hl 1 rfl) ?_
  refine va_get (D := D) (ci := 4) (v := .ref h0) (C := RX4) (T := TX4) (N := 5) hx hb hts inX4 hown hK hP 0 rfl rfl 1 (by decide) (hts _ (mG w_80)) (fun _ h9 => h9) rfl dX4_car_22 ?_
  refine lv_ifnonnull (tgt := 43) hx hb dX4_car_25 (by decide) ?_
  refine lv_aload_n hx hb dX4_car_43 rfl (lv_at hl 1 rfl) ?_
  refine va_get (D := D) (ci := 4) (v := .ref g0) (C := RX4) (T := TX4) (N := 5) hx hb hts inX4 hown hK hP 0 rfl rfl 2 (by decide) (hts _ (mG w_81)) (fun _ h9 => h9) rfl dX4_car_44 ?_
  refine lv_ifnull hx hb dX4_car_47 ?_
  exact my_throw (own := RX4) (cls := "java/lang/IllegalStateException") (text := "there are two cars") 2 [0, 1, 2] hx hb hl9 hown (by decide +kernel) (hts _ (mG w_190)) (hts _ (mG w_43)) 3 rfl mt_51 hts tb_X4_51 tg_X4_51 hE hS (hl.1.trans hml.symm) dX4_car_50 dX4_car_53 dX4_car_54 dX4_car_56 dX4_car_59 hout (Nat.le_of_ble_eq_true rfl) (Nat.le_of_ble_eq_true rfl) (Nat.le_of_ble_eq_true rfl) (Nat.le_of_ble_eq_true rfl) hlk hQ rfl ⟨hG, (Or.inr rfl)⟩ hP hD rfl (by decide) (Nat.le_of_ble_eq_true rfl) (Nat.le_of_ble_eq_true rfl)
theorem dX4_power_0 : decode cX4_power 0 = .ok (.aload_n 0, 1) := by decide +kernel
theorem dX4_power_1 : decode cX4_power 1 = .ok (.getfield 27, 3) := by decide +kernel
theorem dX4_power_4 : decode cX4_power 4 = .ok (.istore_n 2, 1) := by decide +kernel
theorem dX4_power_5 : decode cX4_power 5 = .ok (.aload_n 0, 1) := by decide +kernel
theorem dX4_power_6 : decode cX4_power 6 = .ok (.iload_n 1, 1) := by decide +kernel
theorem dX4_power_7 : decode cX4_power 7 = .ok (.putfield 27, 3) := by decide +kernel
theorem dX4_power_10 : decode cX4_power 10 = .ok (.iload_n 2, 1) := by decide +kernel
theorem dX4_power_11 : decode cX4_power 11 = .ok (.ireturn, 1) := by decide +kernel
def F_power (powered : Int32) : Int32 :=
  powered
theorem F_power_u (powered : Int32) : F_power powered =
  (powered) := rfl
set_option maxHeartbeats 4000000 in
set_option maxRecDepth 100000 in
theorem c_power (l : Launch) (D : va_G) (aI aL aZ : ClassId) (sz : Nat) (k0 : Nat) (h4 : Nat) (powered : Int32) (stepsDone : Int32) (lo : Value) (up : Value) (p0 : Int32) (hp0 : nb p0) (hpw : nb powered) : Met l yX4_power (.code yX4_power cX4_power 3 (some .boolean) :: Gw) ({ frames := 0, cells := 0, slots := 0, locals := 0 }) (va_Pc [.ref k0, .int p0] (mpre D [(aI, .int), (aL, .long), (aZ, .boolean)] [(k0, .inr (4, [.ref h4, lo, up, .int powered, .int stepsDone]))] sz)) ((fun A : Nat → Prop => va_Qi (fun (r : Int32) (u : Unit) => F_power powered = r ∧ nb r) (mpst D A (fun (u : Unit) => [(k0, .inr (4, [.ref h4, lo, up, .int p0, .int stepsDone]))])) A) (va_A ([(k0, .inr (4, [.ref h4, lo, up, .int powered, .int stepsDone]))]) sz)) 0 0 (va_A ([(k0, .inr (4, [.ref h4, lo, up, .int powered, .int stepsDone]))]) sz) := by
  refine en (cc := cX4_power) (maxL := 3) (ret := (some .boolean)) (Qc := (fun A : Nat → Prop => va_Qi (fun (r : Int32) (u : Unit) => F_power powered = r ∧ nb r) (mpst D A (fun (u : Unit) => [(k0, .inr (4, [.ref h4, lo, up, .int p0, .int stepsDone]))])) A)) (by decide) rfl (Nat.le_of_ble_eq_true rfl) ?_
  intro p e s m args below meth c A ls Q hQ hx hb hr hts hown hlk hnm hml hA hS hP hK hD hE hl
  have hown : s.vm.findClass RX4 = some m.cls := hown
  have hl : lv_has ls 3 [(0, .ref k0), (1, .int p0)] := hl
  have hG := F_power_u powered
  refine lv_aload_n hx hb dX4_power_0 rfl (lv_at hl 0 rfl) ?_
  refine va_get (D := D) (ci := 4) (v := .int powered) (C := RX4) (T := TX4) (N := 5) hx hb hts inX4 hown hK hP 0 rfl rfl 3 (by decide) (hts _ (mG w_82)) (fun _ h9 => h9) rfl dX4_power_1 ?_
  refine lv_istore_n (lv' := [(2, .int powered), (0, .ref k0), (1, .int p0)]) hx hb dX4_power_4 rfl hl (by decide) rfl (fun ls hl => ?_)
  refine lv_aload_n hx hb dX4_power_5 rfl (lv_at hl 1 rfl) ?_
  refine lv_iload_n hx hb dX4_power_6 rfl (lv_at hl 2 rfl) ?_
  refine va_put (D := D) (ci := 4) (v := .int p0) (ty := .boolean) (C := RX4) (T := TX4) (N := 5) hx hb hts inX4 tyX4 tyX4_ok nmX4 hown hK hP hD hS 0 rfl rfl 3 (by decide) (hts _ (mG w_82)) (fun _ h9 => h9) rfl (by decide +kernel) (nb_n hp0) (nb_f hp0) (Nat.le_of_ble_eq_true rfl) dX4_power_7 (fun H locs hP hD hS => ?_)
  have hP : va_P D vwCl [(k0, .inr (4, [.ref h4, lo, up, .int p0, .int stepsDone]))] H := hP
  have hD : va_D A [(k0, .inr (4, [.ref h4, lo, up, .int p0, .int stepsDone]))] := hD
  refine lv_iload_n hx hb dX4_power_10 rfl (lv_at hl 0 rfl) ?_
  have hP := hP.sub (ws' := [(k0, .inr (4, [.ref h4, lo, up, .int p0, .int stepsDone]))]) [0] rfl
  have hD := hD.sub (ws' := [(k0, .inr (4, [.ref h4, lo, up, .int p0, .int stepsDone]))]) [0] (by decide) rfl
  exact rt_z hQ hx hb hr (nb_n hpw) () ⟨hG, hpw⟩ hP hD hS (Nat.le_of_ble_eq_true rfl) (Nat.le_of_ble_eq_true rfl) dX4_power_11 hlk
theorem dX4_rates_0 : decode cX4_rates 0 = .ok (.aload_n 0, 1) := by decide +kernel
theorem dX4_rates_1 : decode cX4_rates 1 = .ok (.iload_n 1, 1) := by decide +kernel
theorem dX4_rates_2 : decode cX4_rates 2 = .ok (.invokevirtual 84, 3) := by decide +kernel
theorem dX4_rates_5 : decode cX4_rates 5 = .ok (.astore 5, 2) := by decide +kernel
theorem dX4_rates_7 : decode cX4_rates 7 = .ok (.iload_n 2, 1) := by decide +kernel
theorem dX4_rates_8 : decode cX4_rates 8 = .ok (.iconst 1, 1) := by decide +kernel
theorem dX4_rates_9 : decode cX4_rates 9 = .ok (.sipush 2000, 3) := by decide +kernel
theorem dX4_rates_12 : decode cX4_rates 12 = .ok (.invokestatic 35, 3) := by decide +kernel
theorem dX4_rates_15 : decode cX4_rates 15 = .ok (.iload_n 3, 1) := by decide +kernel
theorem dX4_rates_16 : decode cX4_rates 16 = .ok (.iconst 1, 1) := by decide +kernel
theorem dX4_rates_17 : decode cX4_rates 17 = .ok (.sipush 1000, 3) := by decide +kernel
theorem dX4_rates_20 : decode cX4_rates 20 = .ok (.invokestatic 35, 3) := by decide +kernel
theorem dX4_rates_23 : decode cX4_rates 23 = .ok (.iload 4, 2) := by decide +kernel
theorem dX4_rates_25 : decode cX4_rates 25 = .ok (.iconst 1, 1) := by decide +kernel
theorem dX4_rates_26 : decode cX4_rates 26 = .ok (.sipush 1000, 3) := by decide +kernel
theorem dX4_rates_29 : decode cX4_rates 29 = .ok (.invokestatic 35, 3) := by decide +kernel
theorem dX4_rates_32 : decode cX4_rates 32 = .ok (.iload_n 3, 1) := by decide +kernel
theorem dX4_rates_33 : decode cX4_rates 33 = .ok (.iload 4, 2) := by decide +kernel
theorem dX4_rates_35 : decode cX4_rates 35 = .ok (.if_icmp .le 13, 3) := by decide +kernel
theorem dX4_rates_38 : decode cX4_rates 38 = .ok (.new 88, 3) := by decide +kernel
theorem dX4_rates_41 : decode cX4_rates 41 = .ok (.dup, 1) := by decide +kernel
theorem dX4_rates_42 : decode cX4_rates 42 = .ok (.ldc 90, 2) := by decide +kernel
theorem dX4_rates_44 : decode cX4_rates 44 = .ok (.invokespecial 92, 3) := by decide +kernel
theorem dX4_rates_47 : decode cX4_rates 47 = .ok (.athrow, 1) := by decide +kernel
theorem dX4_rates_48 : decode cX4_rates 48 = .ok (.aload 5, 2) := by decide +kernel
theorem dX4_rates_50 : decode cX4_rates 50 = .ok (.getfield 93, 3) := by decide +kernel
theorem dX4_rates_53 : decode cX4_rates 53 = .ok (.ifCond .eq 13, 3) := by decide +kernel
theorem dX4_rates_56 : decode cX4_rates 56 = .ok (.new 47, 3) := by decide +kernel
theorem dX4_rates_59 : decode cX4_rates 59 = .ok (.dup, 1) := by decide +kernel
theorem dX4_rates_60 : decode cX4_rates 60 = .ok (.ldc 96, 2) := by decide +kernel
theorem dX4_rates_62 : decode cX4_rates 62 = .ok (.invokespecial 51, 3) := by decide +kernel
theorem dX4_rates_65 : decode cX4_rates 65 = .ok (.athrow, 1) := by decide +kernel
theorem dX4_rates_66 : decode cX4_rates 66 = .ok (.aload 5, 2) := by decide +kernel
theorem dX4_rates_68 : decode cX4_rates 68 = .ok (.iload_n 2, 1) := by decide +kernel
theorem dX4_rates_69 : decode cX4_rates 69 = .ok (.putfield 98, 3) := by decide +kernel
theorem dX4_rates_72 : decode cX4_rates 72 = .ok (.aload 5, 2) := by decide +kernel
theorem dX4_rates_74 : decode cX4_rates 74 = .ok (.iload_n 3, 1) := by decide +kernel
theorem dX4_rates_75 : decode cX4_rates 75 = .ok (.putfield 101, 3) := by decide +kernel
theorem dX4_rates_78 : decode cX4_rates 78 = .ok (.aload 5, 2) := by decide +kernel
theorem dX4_rates_80 : decode cX4_rates 80 = .ok (.iload 4, 2) := by decide +kernel
theorem dX4_rates_82 : decode cX4_rates 82 = .ok (.putfield 104, 3) := by decide +kernel
theorem dX4_rates_85 : decode cX4_rates 85 = .ok (.return_, 1) := by decide +kernel
def F_rates_0 (speed : Int32) (p1 : Int32) (p2 : Int32) (p3 : Int32) : Int32 ⊕ Unit :=
  cx F_carOf_0 fun _ =>
    cx (F_refuseOutside p1 1 2000) fun _ =>
      cx (F_refuseOutside p2 1 1000) fun _ =>
        cx (F_refuseOutside p3 1 1000) fun _ =>
          if p2 ≤ p3 then
            if speed = 0 then
              .inr ()
            else
              .inl 2
          else
            .inl 1
theorem F_rates_0_u (speed : Int32) (p1 : Int32) (p2 : Int32) (p3 : Int32) : F_rates_0 speed p1 p2 p3 =
  (cx F_carOf_0 fun _ =>
    cx (F_refuseOutside p1 1 2000) fun _ =>
      cx (F_refuseOutside p2 1 1000) fun _ =>
        cx (F_refuseOutside p3 1 1000) fun _ =>
          if p2 ≤ p3 then
            if speed = 0 then
              .inr ()
            else
              .inl 2
          else
            .inl 1) := rfl
set_option maxHeartbeats 4000000 in
set_option maxRecDepth 100000 in
theorem c_rates_0 (l : Launch) (hl9 : l.stackTraces = false) (D : va_G) (aI aL aZ : ClassId) (sz : Nat) (k0 : Nat) (h4 : Nat) (powered : Int32) (stepsDone : Int32) (up : Value) (h0 : Nat) (h1 : Nat) (h2 : Nat) (wayToOther : Int32) (place : Int32) (speed : Int32) (way : Int32) (topSpeed : Int32) (gain : Int32) (brake : Int32) (darkSpeed : Int32) (rideSpeed : Int32) (kilos : Int32) (mostKilos : Int32) (openContacts : Int32) (fireFloor : Int32) (ride : Int32) (starts : Int32) (distance : Int32) (hardFalls : Int32) (p1 : Int32) (p2 : Int32) (p3 : Int32) : vx_Met l yX4_rates (.code yX4_rates cX4_rates 6 none :: Gw) ({ frames := 7, cells := 4, slots := 24, locals := 114 }) (va_Pc [.ref k0, .int 0, .int p1, .int p2, .int p3] (mpre D [(aI, .int), (aL, .long), (aZ, .boolean)] [(k0, .inr (4, [.ref h4, .ref h0, up, .int powered, .int stepsDone])), (h0, .inr (1, [.int wayToOther, .ref h1, .ref h2, .int place, .int speed, .int way, .int topSpeed, .int gain, .int brake, .int darkSpeed, .int rideSpeed, .int kilos, .int mostKilos, .int openContacts, .int fireFloor, .int ride, .int starts, .int distance, .int hardFalls]))] sz)) ((fun A : Nat → Prop => va_Qv (fun (u : Unit) => F_rates_0 speed p1 p2 p3 = .inr ()) (mpst D A (fun (u : Unit) => [(k0, .inr (4, [.ref h4, .ref h0, up, .int powered, .int stepsDone])), (h0, .inr (1, [.int wayToOther, .ref h1, .ref h2, .int place, .int speed, .int way, .int p1, .int p2, .int p3, .int darkSpeed, .int rideSpeed, .int kilos, .int mostKilos, .int openContacts, .int fireFloor, .int ride, .int starts, .int distance, .int hardFalls]))])) A) (va_A ([(k0, .inr (4, [.ref h4, .ref h0, up, .int powered, .int stepsDone])), (h0, .inr (1, [.int wayToOther, .ref h1, .ref h2, .int place, .int speed, .int way, .int topSpeed, .int gain, .int brake, .int darkSpeed, .int rideSpeed, .int kilos, .int mostKilos, .int openContacts, .int fireFloor, .int ride, .int starts, .int distance, .int hardFalls]))]) sz)) ((fun A : Nat → Prop => vx_X (fun u : Int32 => F_rates_0 speed p1 p2 p3 = .inl u ∧ (u = 1 ∨ u = 2)) (mpsx D A [(k0, .inr (4, [.ref h4, .ref h0, up, .int powered, .int stepsDone])), (h0, .inr (1, [.int wayToOther, .ref h1, .ref h2, .int place, .int speed, .int way, .int topSpeed, .int gain, .int brake, .int darkSpeed, .int rideSpeed, .int kilos, .int mostKilos, .int openContacts, .int fireFloor, .int ride, .int starts, .int distance, .int hardFalls]))]) A) (va_A ([(k0, .inr (4, [.ref h4, .ref h0, up, .int powered, .int stepsDone])), (h0, .inr (1, [.int wayToOther, .ref h1, .ref h2, .int place, .int speed, .int way, .int topSpeed, .int gain, .int brake, .int darkSpeed, .int rideSpeed, .int kilos, .int mostKilos, .int openContacts, .int fireFloor, .int ride, .int starts, .int distance, .int hardFalls]))]) sz)) 4 24 (va_A ([(k0, .inr (4, [.ref h4, .ref h0, up, .int powered, .int stepsDone])), (h0, .inr (1, [.int wayToOther, .ref h1, .ref h2, .int place, .int speed, .int way, .int topSpeed, .int gain, .int brake, .int darkSpeed, .int rideSpeed, .int kilos, .int mostKilos, .int openContacts, .int fireFloor, .int ride, .int starts, .int distance, .int hardFalls]))]) sz) := by
  refine enx (cc := cX4_rates) (maxL := 6) (ret := none) (Qc := (fun A : Nat → Prop => va_Qv (fun (u : Unit) => F_rates_0 speed p1 p2 p3 = .inr ()) (mpst D A (fun (u : Unit) => [(k0, .inr (4, [.ref h4, .ref h0, up, .int powered, .int stepsDone])), (h0, .inr (1, [.int wayToOther, .ref h1, .ref h2, .int place, .int speed, .int way, .int p1, .int p2, .int p3, .int darkSpeed, .int rideSpeed, .int kilos, .int mostKilos, .int openContacts, .int fireFloor, .int ride, .int starts, .int distance, .int hardFalls]))])) A)) (XC := (fun A : Nat → Prop => vx_X (fun u : Int32 => F_rates_0 speed p1 p2 p3 = .inl u ∧ (u = 1 ∨ u = 2)) (mpsx D A [(k0, .inr (4, [.ref h4, .ref h0, up, .int powered, .int stepsDone])), (h0, .inr (1, [.int wayToOther, .ref h1, .ref h2, .int place, .int speed, .int way, .int topSpeed, .int gain, .int brake, .int darkSpeed, .int rideSpeed, .int kilos, .int mostKilos, .int openContacts, .int fireFloor, .int ride, .int starts, .int distance, .int hardFalls]))]) A)) (by decide) rfl (Nat.le_of_ble_eq_true rfl) ?_
  intro p e s m args below meth c A ls Q hQ hx hb hr hts hown hlk hnm hml hout hA hS hP hK hD hE hl
  have hown : s.vm.findClass RX4 = some m.cls := hown
  have hl : lv_has ls 6 [(0, .ref k0), (1, .int 0), (2, .int p1), (3, .int p2), (4, .int p3)] := hl
  have hG := F_rates_0_u speed p1 p2 p3
  refine lv_aload_n hx hb dX4_rates_0 rfl (lv_at hl 0 rfl) ?_
  refine lv_iload_n hx hb dX4_rates_1 rfl (lv_at hl 1 rfl) ?_
  refine my_xr (wr := [(h0, .inr (1, [.int wayToOther, .ref h1, .ref h2, .int place, .int speed, .int way, .int topSpeed, .int gain, .int brake, .int darkSpeed, .int rideSpeed, .int kilos, .int mostKilos, .int openContacts, .int fireFloor, .int ride, .int starts, .int distance, .int hardFalls]))]) [0] [1] [1, 0] (vx_runV (As := [.int 0]) (rest := []) ⟨hx, hb, hml, hown, hts⟩ (c_carOf_0 l hl9 D aI aL aZ _ k0 h4 powered stepsDone h0 up) (cwV 1 hts (gV w_393 w_395 w_2 w_35 w_396) rfl rfl rfl (by decide +kernel) ⟨Nat.le_of_ble_eq_true rfl, Nat.le_of_ble_eq_true rfl⟩) (prev_of hK hP hD hS hA hE [0] rfl (by decide) (ci := 4) rfl 0 rfl _) rfl rfl hl.1 rfl (lv_room (Nat.le_of_ble_eq_true rfl)) dX4_rates_2 ⟨Nat.le_of_ble_eq_true rfl, Nat.le_of_ble_eq_true rfl⟩) hP hD hS hA rfl rfl (by decide) (by decide) hQ (fun _ h9 => ⟨hG.trans (cx_l h9.1), (False.elim h9.2)⟩) hout hlk rfl (by decide) (Nat.le_of_ble_eq_true rfl) (Nat.le_of_ble_eq_true rfl) (fun u_ H locs hw_1 hP hD hS => ?_)
  have hw_1 : F_carOf_0 = .inr () := hw_1
  have hG := hG.trans (cx_r hw_1)
  have hP : va_P D vwCl [(h0, .inr (1, [.int wayToOther, .ref h1, .ref h2, .int place, .int speed, .int way, .int topSpeed, .int gain, .int brake, .int darkSpeed, .int rideSpeed, .int kilos, .int mostKilos, .int openContacts, .int fireFloor, .int ride, .int starts, .int distance, .int hardFalls])), (k0, .inr (4, [.ref h4, .ref h0, up, .int powered, .int stepsDone]))] H := hP
  have hD : va_D A [(h0, .inr (1, [.int wayToOther, .ref h1, .ref h2, .int place, .int speed, .int way, .int topSpeed, .int gain, .int brake, .int darkSpeed, .int rideSpeed, .int kilos, .int mostKilos, .int openContacts, .int fireFloor, .int ride, .int starts, .int distance, .int hardFalls])), (k0, .inr (4, [.ref h4, .ref h0, up, .int powered, .int stepsDone]))] := hD
  refine lv_astore (lv' := [(5, .ref h0), (0, .ref k0), (1, .int 0), (2, .int p1), (3, .int p2), (4, .int p3)]) hx hb dX4_rates_5 hl (by decide) rfl (fun ls hl => ?_)
  refine lv_iload_n hx hb dX4_rates_7 rfl (lv_at hl 3 rfl) ?_
  refine lv_iconst (v := 1) hx hb dX4_rates_8 (by decide) ?_
  refine lv_sipush (v := 2000) hx hb dX4_rates_9 (by decide) ?_
  refine my_xv (wr := [(h0, .inr (1, [.int wayToOther, .ref h1, .ref h2, .int place, .int speed, .int way, .int topSpeed, .int gain, .int brake, .int darkSpeed, .int rideSpeed, .int kilos, .int mostKilos, .int openContacts, .int fireFloor, .int ride, .int starts, .int distance, .int hardFalls])), (k0, .inr (4, [.ref h4, .ref h0, up, .int powered, .int stepsDone]))]) [] [0, 1] [1, 0] (vx_runS (As := [.int p1, .int 1, .int 2000]) (rest := []) ⟨hx, hb, hml, hown, hts⟩ (c_refuseOutside l hl9 D aI aL aZ _ p1 1 2000) (va_cwS 3 hts (gS w_115 w_116 w_35 w_117) rfl rfl rfl (by decide +kernel) ⟨Nat.le_of_ble_eq_true rfl, Nat.le_of_ble_eq_true rfl⟩) (pre_of hK hP hD hS hA hE [] rfl (by decide) _) rfl rfl hl.1 rfl (lv_room (Nat.le_of_ble_eq_true rfl)) dX4_rates_12 ⟨Nat.le_of_ble_eq_true rfl, Nat.le_of_ble_eq_true rfl⟩) hP hD hS hA rfl rfl (by decide) (by decide) hQ (fun _ h9 => ⟨hG.trans (cx_l h9.1), (Or.inl h9.2)⟩) hout hlk rfl (by decide) (Nat.le_of_ble_eq_true rfl) (Nat.le_of_ble_eq_true rfl) (fun u_ H locs hw_2 hP hD hS => ?_)
  have hw_2 : F_refuseOutside p1 1 2000 = .inr () := hw_2
  have hG := hG.trans (cx_r hw_2)
  have hP : va_P D vwCl [(h0, .inr (1, [.int wayToOther, .ref h1, .ref h2, .int place, .int speed, .int way, .int topSpeed, .int gain, .int brake, .int darkSpeed, .int rideSpeed, .int kilos, .int mostKilos, .int openContacts, .int fireFloor, .int ride, .int starts, .int distance, .int hardFalls])), (k0, .inr (4, [.ref h4, .ref h0, up, .int powered, .int stepsDone]))] H := hP
  have hD : va_D A [(h0, .inr (1, [.int wayToOther, .ref h1, .ref h2, .int place, .int speed, .int way, .int topSpeed, .int gain, .int brake, .int darkSpeed, .int rideSpeed, .int kilos, .int mostKilos, .int openContacts, .int fireFloor, .int ride, .int starts, .int distance, .int hardFalls])), (k0, .inr (4, [.ref h4, .ref h0, up, .int powered, .int stepsDone]))] := hD
  refine lv_iload_n hx hb dX4_rates_15 rfl (lv_at hl 4 rfl) ?_
  refine lv_iconst (v := 1) hx hb dX4_rates_16 (by decide) ?_
  refine lv_sipush (v := 1000) hx hb dX4_rates_17 (by decide) ?_
  refine my_xv (wr := [(h0, .inr (1, [.int wayToOther, .ref h1, .ref h2, .int place, .int speed, .int way, .int topSpeed, .int gain, .int brake, .int darkSpeed, .int rideSpeed, .int kilos, .int mostKilos, .int openContacts, .int fireFloor, .int ride, .int starts, .int distance, .int hardFalls])), (k0, .inr (4, [.ref h4, .ref h0, up, .int powered, .int stepsDone]))]) [] [0, 1] [1, 0] (vx_runS (As := [.int p2, .int 1, .int 1000]) (rest := []) ⟨hx, hb, hml, hown, hts⟩ (c_refuseOutside l hl9 D aI aL aZ _ p2 1 1000) (va_cwS 3 hts (gS w_115 w_116 w_35 w_117) rfl rfl rfl (by decide +kernel) ⟨Nat.le_of_ble_eq_true rfl, Nat.le_of_ble_eq_true rfl⟩) (pre_of hK hP hD hS hA hE [] rfl (by decide) _) rfl rfl hl.1 rfl (lv_room (Nat.le_of_ble_eq_true rfl)) dX4_rates_20 ⟨Nat.le_of_ble_eq_true rfl, Nat.le_of_ble_eq_true rfl⟩) hP hD hS hA rfl rfl (by decide) (by decide) hQ (fun _ h9 => ⟨hG.trans (cx_l h9.1), (Or.inl h9.2)⟩) hout hlk rfl (by decide) (Nat.le_of_ble_eq_true rfl) (Nat.le_of_ble_eq_true rfl) (fun u_ H locs hw_3 hP hD hS => ?_)
  have hw_3 : F_refuseOutside p2 1 1000 = .inr () := hw_3
  have hG := hG.trans (cx_r hw_3)
  have hP : va_P D vwCl [(h0, .inr (1, [.int wayToOther, .ref h1, .ref h2, .int place, .int speed, .int way, .int topSpeed, .int gain, .int brake, .int darkSpeed, .int rideSpeed, .int kilos, .int mostKilos, .int openContacts, .int fireFloor, .int ride, .int starts, .int distance, .int hardFalls])), (k0, .inr (4, [.ref h4, .ref h0, up, .int powered, .int stepsDone]))] H := hP
  have hD : va_D A [(h0, .inr (1, [.int wayToOther, .ref h1, .ref h2, .int place, .int speed, .int way, .int topSpeed, .int gain, .int brake, .int darkSpeed, .int rideSpeed, .int kilos, .int mostKilos, .int openContacts, .int fireFloor, .int ride, .int starts, .int distance, .int hardFalls])), (k0, .inr (4, [.ref h4, .ref h0, up, .int powered, .int stepsDone]))] := hD
  refine lv_iload hx hb dX4_rates_23 (lv_at hl 5 rfl) ?_
  refine lv_iconst (v := 1) hx hb dX4_rates_25 (by decide) ?_
  refine lv_sipush (v := 1000) hx hb dX4_rates_26 (by decide) ?_
  refine my_xv (wr := [(h0, .inr (1, [.int wayToOther, .ref h1, .ref h2, .int place, .int speed, .int way, .int topSpeed, .int gain, .int brake, .int darkSpeed, .int rideSpeed, .int kilos, .int mostKilos, .int openContacts, .int fireFloor, .int ride, .int starts, .int distance, .int hardFalls])), (k0, .inr (4, [.ref h4, .ref h0, up, .int powered, .int stepsDone]))]) [] [0, 1] [1, 0] (vx_runS (As := [.int p3, .int 1, .int 1000]) (rest := []) ⟨hx, hb, hml, hown, hts⟩ (c_refuseOutside l hl9 D aI aL aZ _ p3 1 1000) (va_cwS 3 hts (gS w_115 w_116 w_35 w_117) rfl rfl rfl (by decide +kernel) ⟨Nat.le_of_ble_eq_true rfl, Nat.le_of_ble_eq_true rfl⟩) (pre_of hK hP hD hS hA hE [] rfl (by decide) _) rfl rfl hl.1 rfl (lv_room (Nat.le_of_ble_eq_true rfl)) dX4_rates_29 ⟨Nat.le_of_ble_eq_true rfl, Nat.le_of_ble_eq_true rfl⟩) hP hD hS hA rfl rfl (by decide) (by decide) hQ (fun _ h9 => ⟨hG.trans (cx_l h9.1), (Or.inl h9.2)⟩) hout hlk rfl (by decide) (Nat.le_of_ble_eq_true rfl) (Nat.le_of_ble_eq_true rfl) (fun u_ H locs hw_4 hP hD hS => ?_)
  have hw_4 : F_refuseOutside p3 1 1000 = .inr () := hw_4
  have hG := hG.trans (cx_r hw_4)
  have hP : va_P D vwCl [(h0, .inr (1, [.int wayToOther, .ref h1, .ref h2, .int place, .int speed, .int way, .int topSpeed, .int gain, .int brake, .int darkSpeed, .int rideSpeed, .int kilos, .int mostKilos, .int openContacts, .int fireFloor, .int ride, .int starts, .int distance, .int hardFalls])), (k0, .inr (4, [.ref h4, .ref h0, up, .int powered, .int stepsDone]))] H := hP
  have hD : va_D A [(h0, .inr (1, [.int wayToOther, .ref h1, .ref h2, .int place, .int speed, .int way, .int topSpeed, .int gain, .int brake, .int darkSpeed, .int rideSpeed, .int kilos, .int mostKilos, .int openContacts, .int fireFloor, .int ride, .int starts, .int distance, .int hardFalls])), (k0, .inr (4, [.ref h4, .ref h0, up, .int powered, .int stepsDone]))] := hD
  refine lv_iload_n hx hb dX4_rates_32 rfl (lv_at hl 4 rfl) ?_
  refine lv_iload hx hb dX4_rates_33 (lv_at hl 5 rfl) ?_
  refine lv_icmp_le (tgt := 48) hx hb dX4_rates_35 (by decide) (fun c_5 => ?_) (fun c_5 => ?_)
  · have hG := hG.trans (if_pos c_5)
    refine lv_aload hx hb dX4_rates_48 (lv_at hl 0 rfl) ?_
    refine va_getN (D := D) (ci := 1) (v := .int speed) (C := RX1) (T := TX1) (N := 19) hx hb hts inX1 hown hK hP 0 rfl rfl 4 (by decide) (nwF hE 15 rfl) (fun _ h9 => h9) rfl dX4_rates_50 ?_
    refine lv_if_eq (tgt := 66) hx hb dX4_rates_53 (by decide) (fun c_6 => ?_) (fun c_6 => ?_)
    · have hG := hG.trans (if_pos c_6)
      refine lv_aload hx hb dX4_rates_66 (lv_at hl 0 rfl) ?_
      refine lv_iload_n hx hb dX4_rates_68 rfl (lv_at hl 3 rfl) ?_
      refine va_putN (D := D) (ci := 1) (v := .int p1) (ty := .int) (C := RX1) (T := TX1) (N := 19) hx hb hts inX1 tyX1 tyX1_ok nmX1 hown hK hP hD hS 0 rfl rfl 6 (by decide) (nwF hE 17 rfl) (fun _ h9 => h9) rfl (by decide +kernel) rfl rfl (Nat.le_of_ble_eq_true rfl) dX4_rates_69 (fun H locs hP hD hS => ?_)
      have hP : va_P D vwCl [(h0, .inr (1, [.int wayToOther, .ref h1, .ref h2, .int place, .int speed, .int way, .int p1, .int gain, .int brake, .int darkSpeed, .int rideSpeed, .int kilos, .int mostKilos, .int openContacts, .int fireFloor, .int ride, .int starts, .int distance, .int hardFalls])), (k0, .inr (4, [.ref h4, .ref h0, up, .int powered, .int stepsDone]))] H := hP
      have hD : va_D A [(h0, .inr (1, [.int wayToOther, .ref h1, .ref h2, .int place, .int speed, .int way, .int p1, .int gain, .int brake, .int darkSpeed, .int rideSpeed, .int kilos, .int mostKilos, .int openContacts, .int fireFloor, .int ride, .int starts, .int distance, .int hardFalls])), (k0, .inr (4, [.ref h4, .ref h0, up, .int powered, .int stepsDone]))] := hD
      refine lv_aload hx hb dX4_rates_72 (lv_at hl 0 rfl) ?_
      refine lv_iload_n hx hb dX4_rates_74 rfl (lv_at hl 4 rfl) ?_
      refine va_putN (D := D) (ci := 1) (v := .int p2) (ty := .int) (C := RX1) (T := TX1) (N := 19) hx hb hts inX1 tyX1 tyX1_ok nmX1 hown hK hP hD hS 0 rfl rfl 7 (by decide) (nwF hE 18 rfl) (fun _ h9 => h9) rfl (by decide +kernel) rfl rfl (Nat.le_of_ble_eq_true rfl) dX4_rates_75 (fun H locs hP hD hS => ?_)
      have hP : va_P D vwCl [(h0, .inr (1, [.int wayToOther, .ref h1, .ref h2, .int place, .int speed, .int way, .int p1, .int p2, .int brake, .int darkSpeed, .int rideSpeed, .int kilos, .int mostKilos, .int openContacts, .int fireFloor, .int ride, .int starts, .int distance, .int hardFalls])), (k0, .inr (4, [.ref h4, .ref h0, up, .int powered, .int stepsDone]))] H := hP
      have hD : va_D A [(h0, .inr (1, [.int wayToOther, .ref h1, .ref h2, .int place, .int speed, .int way, .int p1, .int p2, .int brake, .int darkSpeed, .int rideSpeed, .int kilos, .int mostKilos, .int openContacts, .int fireFloor, .int ride, .int starts, .int distance, .int hardFalls])), (k0, .inr (4, [.ref h4, .ref h0, up, .int powered, .int stepsDone]))] := hD
      refine lv_aload hx hb dX4_rates_78 (lv_at hl 0 rfl) ?_
      refine lv_iload hx hb dX4_rates_80 (lv_at hl 5 rfl) ?_
      refine va_putN (D := D) (ci := 1) (v := .int p3) (ty := .int) (C := RX1) (T := TX1) (N := 19) hx hb hts inX1 tyX1 tyX1_ok nmX1 hown hK hP hD hS 0 rfl rfl 8 (by decide) (nwF hE 19 rfl) (fun _ h9 => h9) rfl (by decide +kernel) rfl rfl (Nat.le_of_ble_eq_true rfl) dX4_rates_82 (fun H locs hP hD hS => ?_)
      have hP : va_P D vwCl [(h0, .inr (1, [.int wayToOther, .ref h1, .ref h2, .int place, .int speed, .int way, .int p1, .int p2, .int p3, .int darkSpeed, .int rideSpeed, .int kilos, .int mostKilos, .int openContacts, .int fireFloor, .int ride, .int starts, .int distance, .int hardFalls])), (k0, .inr (4, [.ref h4, .ref h0, up, .int powered, .int stepsDone]))] H := hP
      have hD : va_D A [(h0, .inr (1, [.int wayToOther, .ref h1, .ref h2, .int place, .int speed, .int way, .int p1, .int p2, .int p3, .int darkSpeed, .int rideSpeed, .int kilos, .int mostKilos, .int openContacts, .int fireFloor, .int ride, .int starts, .int distance, .int hardFalls])), (k0, .inr (4, [.ref h4, .ref h0, up, .int powered, .int stepsDone]))] := hD
      have hP := hP.sub (ws' := [(k0, .inr (4, [.ref h4, .ref h0, up, .int powered, .int stepsDone])), (h0, .inr (1, [.int wayToOther, .ref h1, .ref h2, .int place, .int speed, .int way, .int p1, .int p2, .int p3, .int darkSpeed, .int rideSpeed, .int kilos, .int mostKilos, .int openContacts, .int fireFloor, .int ride, .int starts, .int distance, .int hardFalls]))]) [1, 0] rfl
      have hD := hD.sub (ws' := [(k0, .inr (4, [.ref h4, .ref h0, up, .int powered, .int stepsDone])), (h0, .inr (1, [.int wayToOther, .ref h1, .ref h2, .int place, .int speed, .int way, .int p1, .int p2, .int p3, .int darkSpeed, .int rideSpeed, .int kilos, .int mostKilos, .int openContacts, .int fireFloor, .int ride, .int starts, .int distance, .int hardFalls]))]) [1, 0] (by decide) rfl
      exact rtx_v hQ hx hb hr () hG hP hD hS (Nat.le_of_ble_eq_true rfl) (Nat.le_of_ble_eq_true rfl) dX4_rates_85 hlk
    · have hG := hG.trans (if_neg c_6)
      exact my_throw (own := RX4) (cls := "java/lang/IllegalStateException") (text := "the car does not stand") 2 [1, 0] hx hb hl9 hown (by decide +kernel) (hts _ (mG w_190)) (hts _ (mG w_43)) 7 rfl mt_51 hts tb_X4_51 tg_X4_51 hE hS (hl.1.trans hml.symm) dX4_rates_56 dX4_rates_59 dX4_rates_60 dX4_rates_62 dX4_rates_65 hout (Nat.le_of_ble_eq_true rfl) (Nat.le_of_ble_eq_true rfl) (Nat.le_of_ble_eq_true rfl) (Nat.le_of_ble_eq_true rfl) hlk hQ rfl ⟨hG, (Or.inr rfl)⟩ hP hD rfl (by decide) (Nat.le_of_ble_eq_true rfl) (Nat.le_of_ble_eq_true rfl)
  · have hG := hG.trans (if_neg c_5)
    exact my_throw (own := RX4) (cls := "java/lang/IllegalArgumentException") (text := "the gain is above the brake") 1 [1, 0] hx hb hl9 hown (by decide +kernel) (hts _ (mG w_118)) (hts _ (mG w_42)) 6 rfl mt_92 hts tb_X4_92 tg_X4_92 hE hS (hl.1.trans hml.symm) dX4_rates_38 dX4_rates_41 dX4_rates_42 dX4_rates_44 dX4_rates_47 hout (Nat.le_of_ble_eq_true rfl) (Nat.le_of_ble_eq_true rfl) (Nat.le_of_ble_eq_true rfl) (Nat.le_of_ble_eq_true rfl) hlk hQ rfl ⟨hG, (Or.inl rfl)⟩ hP hD rfl (by decide) (Nat.le_of_ble_eq_true rfl) (Nat.le_of_ble_eq_true rfl)
def F_rates_1 (speed : Int32) (p1 : Int32) (p2 : Int32) (p3 : Int32) : Int32 ⊕ Unit :=
  cx F_carOf_1 fun _ =>
    cx (F_refuseOutside p1 1 2000) fun _ =>
      cx (F_refuseOutside p2 1 1000) fun _ =>
        cx (F_refuseOutside p3 1 1000) fun _ =>
          if p2 ≤ p3 then
            if speed = 0 then
              .inr ()
            else
              .inl 2
          else
            .inl 1
theorem F_rates_1_u (speed : Int32) (p1 : Int32) (p2 : Int32) (p3 : Int32) : F_rates_1 speed p1 p2 p3 =
  (cx F_carOf_1 fun _ =>
    cx (F_refuseOutside p1 1 2000) fun _ =>
      cx (F_refuseOutside p2 1 1000) fun _ =>
        cx (F_refuseOutside p3 1 1000) fun _ =>
          if p2 ≤ p3 then
            if speed = 0 then
              .inr ()
            else
              .inl 2
          else
            .inl 1) := rfl
set_option maxHeartbeats 4000000 in
set_option maxRecDepth 100000 in
theorem c_rates_1 (l : Launch) (hl9 : l.stackTraces = false) (D : va_G) (aI aL aZ : ClassId) (sz : Nat) (k0 : Nat) (h4 : Nat) (powered : Int32) (stepsDone : Int32) (lo : Value) (h0 : Nat) (h1 : Nat) (h2 : Nat) (wayToOther : Int32) (place : Int32) (speed : Int32) (way : Int32) (topSpeed : Int32) (gain : Int32) (brake : Int32) (darkSpeed : Int32) (rideSpeed : Int32) (kilos : Int32) (mostKilos : Int32) (openContacts : Int32) (fireFloor : Int32) (ride : Int32) (starts : Int32) (distance : Int32) (hardFalls : Int32) (p1 : Int32) (p2 : Int32) (p3 : Int32) : vx_Met l yX4_rates (.code yX4_rates cX4_rates 6 none :: Gw) ({ frames := 7, cells := 4, slots := 24, locals := 114 }) (va_Pc [.ref k0, .int 1, .int p1, .int p2, .int p3] (mpre D [(aI, .int), (aL, .long), (aZ, .boolean)] [(k0, .inr (4, [.ref h4, lo, .ref h0, .int powered, .int stepsDone])), (h0, .inr (1, [.int wayToOther, .ref h1, .ref h2, .int place, .int speed, .int way, .int topSpeed, .int gain, .int brake, .int darkSpeed, .int rideSpeed, .int kilos, .int mostKilos, .int openContacts, .int fireFloor, .int ride, .int starts, .int distance, .int hardFalls]))] sz)) ((fun A : Nat → Prop => va_Qv (fun (u : Unit) => F_rates_1 speed p1 p2 p3 = .inr ()) (mpst D A (fun (u : Unit) => [(k0, .inr (4, [.ref h4, lo, .ref h0, .int powered, .int stepsDone])), (h0, .inr (1, [.int wayToOther, .ref h1, .ref h2, .int place, .int speed, .int way, .int p1, .int p2, .int p3, .int darkSpeed, .int rideSpeed, .int kilos, .int mostKilos, .int openContacts, .int fireFloor, .int ride, .int starts, .int distance, .int hardFalls]))])) A) (va_A ([(k0, .inr (4, [.ref h4, lo, .ref h0, .int powered, .int stepsDone])), (h0, .inr (1, [.int wayToOther, .ref h1, .ref h2, .int place, .int speed, .int way, .int topSpeed, .int gain, .int brake, .int darkSpeed, .int rideSpeed, .int kilos, .int mostKilos, .int openContacts, .int fireFloor, .int ride, .int starts, .int distance, .int hardFalls]))]) sz)) ((fun A : Nat → Prop => vx_X (fun u : Int32 => F_rates_1 speed p1 p2 p3 = .inl u ∧ (u = 1 ∨ u = 2)) (mpsx D A [(k0, .inr (4, [.ref h4, lo, .ref h0, .int powered, .int stepsDone])), (h0, .inr (1, [.int wayToOther, .ref h1, .ref h2, .int place, .int speed, .int way, .int topSpeed, .int gain, .int brake, .int darkSpeed, .int rideSpeed, .int kilos, .int mostKilos, .int openContacts, .int fireFloor, .int ride, .int starts, .int distance, .int hardFalls]))]) A) (va_A ([(k0, .inr (4, [.ref h4, lo, .ref h0, .int powered, .int stepsDone])), (h0, .inr (1, [.int wayToOther, .ref h1, .ref h2, .int place, .int speed, .int way, .int topSpeed, .int gain, .int brake, .int darkSpeed, .int rideSpeed, .int kilos, .int mostKilos, .int openContacts, .int fireFloor, .int ride, .int starts, .int distance, .int hardFalls]))]) sz)) 4 24 (va_A ([(k0, .inr (4, [.ref h4, lo, .ref h0, .int powered, .int stepsDone])), (h0, .inr (1, [.int wayToOther, .ref h1, .ref h2, .int place, .int speed, .int way, .int topSpeed, .int gain, .int brake, .int darkSpeed, .int rideSpeed, .int kilos, .int mostKilos, .int openContacts, .int fireFloor, .int ride, .int starts, .int distance, .int hardFalls]))]) sz) := by
  refine enx (cc := cX4_rates) (maxL := 6) (ret := none) (Qc := (fun A : Nat → Prop => va_Qv (fun (u : Unit) => F_rates_1 speed p1 p2 p3 = .inr ()) (mpst D A (fun (u : Unit) => [(k0, .inr (4, [.ref h4, lo, .ref h0, .int powered, .int stepsDone])), (h0, .inr (1, [.int wayToOther, .ref h1, .ref h2, .int place, .int speed, .int way, .int p1, .int p2, .int p3, .int darkSpeed, .int rideSpeed, .int kilos, .int mostKilos, .int openContacts, .int fireFloor, .int ride, .int starts, .int distance, .int hardFalls]))])) A)) (XC := (fun A : Nat → Prop => vx_X (fun u : Int32 => F_rates_1 speed p1 p2 p3 = .inl u ∧ (u = 1 ∨ u = 2)) (mpsx D A [(k0, .inr (4, [.ref h4, lo, .ref h0, .int powered, .int stepsDone])), (h0, .inr (1, [.int wayToOther, .ref h1, .ref h2, .int place, .int speed, .int way, .int topSpeed, .int gain, .int brake, .int darkSpeed, .int rideSpeed, .int kilos, .int mostKilos, .int openContacts, .int fireFloor, .int ride, .int starts, .int distance, .int hardFalls]))]) A)) (by decide) rfl (Nat.le_of_ble_eq_true rfl) ?_
  intro p e s m args below meth c A ls Q hQ hx hb hr hts hown hlk hnm hml hout hA hS hP hK hD hE hl
  have hown : s.vm.findClass RX4 = some m.cls := hown
  have hl : lv_has ls 6 [(0, .ref k0), (1, .int 1), (2, .int p1), (3, .int p2), (4, .int p3)] := hl
  have hG := F_rates_1_u speed p1 p2 p3
  refine lv_aload_n hx hb dX4_rates_0 rfl (lv_at hl 0 rfl) ?_
  refine lv_iload_n hx hb dX4_rates_1 rfl (lv_at hl 1 rfl) ?_
  refine my_xr (wr := [(h0, .inr (1, [.int wayToOther, .ref h1, .ref h2, .int place, .int speed, .int way, .int topSpeed, .int gain, .int brake, .int darkSpeed, .int rideSpeed, .int kilos, .int mostKilos, .int openContacts, .int fireFloor, .int ride, .int starts, .int distance, .int hardFalls]))]) [0] [1] [1, 0] (vx_runV (As := [.int 1]) (rest := []) ⟨hx, hb, hml, hown, hts⟩ (c_carOf_1 l hl9 D aI aL aZ _ k0 h4 powered stepsDone h0 lo) (cwV 1 hts (gV w_393 w_395 w_2 w_35 w_396) rfl rfl rfl (by decide +kernel) ⟨Nat.le_of_ble_eq_true rfl, Nat.le_of_ble_eq_true rfl⟩) (prev_of hK hP hD hS hA hE [0] rfl (by decide) (ci := 4) rfl 0 rfl _) rfl rfl hl.1 rfl (lv_room (Nat.le_of_ble_eq_true rfl)) dX4_rates_2 ⟨Nat.le_of_ble_eq_true rfl, Nat.le_of_ble_eq_true rfl⟩) hP hD hS hA rfl rfl (by decide) (by decide) hQ (fun _ h9 => ⟨hG.trans (cx_l h9.1), (False.elim h9.2)⟩) hout hlk rfl (by decide) (Nat.le_of_ble_eq_true rfl) (Nat.le_of_ble_eq_true rfl) (fun u_ H locs hw_1 hP hD hS => ?_)
  have hw_1 : F_carOf_1 = .inr () := hw_1
  have hG := hG.trans (cx_r hw_1)
  have hP : va_P D vwCl [(h0, .inr (1, [.int wayToOther, .ref h1, .ref h2, .int place, .int speed, .int way, .int topSpeed, .int gain, .int brake, .int darkSpeed, .int rideSpeed, .int kilos, .int mostKilos, .int openContacts, .int fireFloor, .int ride, .int starts, .int distance, .int hardFalls])), (k0, .inr (4, [.ref h4, lo, .ref h0, .int powered, .int stepsDone]))] H := hP
  have hD : va_D A [(h0, .inr (1, [.int wayToOther, .ref h1, .ref h2, .int place, .int speed, .int way, .int topSpeed, .int gain, .int brake, .int darkSpeed, .int rideSpeed, .int kilos, .int mostKilos, .int openContacts, .int fireFloor, .int ride, .int starts, .int distance, .int hardFalls])), (k0, .inr (4, [.ref h4, lo, .ref h0, .int powered, .int stepsDone]))] := hD
  refine lv_astore (lv' := [(5, .ref h0), (0, .ref k0), (1, .int 1), (2, .int p1), (3, .int p2), (4, .int p3)]) hx hb dX4_rates_5 hl (by decide) rfl (fun ls hl => ?_)
  refine lv_iload_n hx hb dX4_rates_7 rfl (lv_at hl 3 rfl) ?_
  refine lv_iconst (v := 1) hx hb dX4_rates_8 (by decide) ?_
  refine lv_sipush (v := 2000) hx hb dX4_rates_9 (by decide) ?_
  refine my_xv (wr := [(h0, .inr (1, [.int wayToOther, .ref h1, .ref h2, .int place, .int speed, .int way, .int topSpeed, .int gain, .int brake, .int darkSpeed, .int rideSpeed, .int kilos, .int mostKilos, .int openContacts, .int fireFloor, .int ride, .int starts, .int distance, .int hardFalls])), (k0, .inr (4, [.ref h4, lo, .ref h0, .int powered, .int stepsDone]))]) [] [0, 1] [1, 0] (vx_runS (As := [.int p1, .int 1, .int 2000]) (rest := []) ⟨hx, hb, hml, hown, hts⟩ (c_refuseOutside l hl9 D aI aL aZ _ p1 1 2000) (va_cwS 3 hts (gS w_115 w_116 w_35 w_117) rfl rfl rfl (by decide +kernel) ⟨Nat.le_of_ble_eq_true rfl, Nat.le_of_ble_eq_true rfl⟩) (pre_of hK hP hD hS hA hE [] rfl (by decide) _) rfl rfl hl.1 rfl (lv_room (Nat.le_of_ble_eq_true rfl)) dX4_rates_12 ⟨Nat.le_of_ble_eq_true rfl, Nat.le_of_ble_eq_true rfl⟩) hP hD hS hA rfl rfl (by decide) (by decide) hQ (fun _ h9 => ⟨hG.trans (cx_l h9.1), (Or.inl h9.2)⟩) hout hlk rfl (by decide) (Nat.le_of_ble_eq_true rfl) (Nat.le_of_ble_eq_true rfl) (fun u_ H locs hw_2 hP hD hS => ?_)
  have hw_2 : F_refuseOutside p1 1 2000 = .inr () := hw_2
  have hG := hG.trans (cx_r hw_2)
  have hP : va_P D vwCl [(h0, .inr (1, [.int wayToOther, .ref h1, .ref h2, .int place, .int speed, .int way, .int topSpeed, .int gain, .int brake, .int darkSpeed, .int rideSpeed, .int kilos, .int mostKilos, .int openContacts, .int fireFloor, .int ride, .int starts, .int distance, .int hardFalls])), (k0, .inr (4, [.ref h4, lo, .ref h0, .int powered, .int stepsDone]))] H := hP
  have hD : va_D A [(h0, .inr (1, [.int wayToOther, .ref h1, .ref h2, .int place, .int speed, .int way, .int topSpeed, .int gain, .int brake, .int darkSpeed, .int rideSpeed, .int kilos, .int mostKilos, .int openContacts, .int fireFloor, .int ride, .int starts, .int distance, .int hardFalls])), (k0, .inr (4, [.ref h4, lo, .ref h0, .int powered, .int stepsDone]))] := hD
  refine lv_iload_n hx hb dX4_rates_15 rfl (lv_at hl 4 rfl) ?_
  refine lv_iconst (v := 1) hx hb dX4_rates_16 (by decide) ?_
  refine lv_sipush (v := 1000) hx hb dX4_rates_17 (by decide) ?_
  refine my_xv (wr := [(h0, .inr (1, [.int wayToOther, .ref h1, .ref h2, .int place, .int speed, .int way, .int topSpeed, .int gain, .int brake, .int darkSpeed, .int rideSpeed, .int kilos, .int mostKilos, .int openContacts, .int fireFloor, .int ride, .int starts, .int distance, .int hardFalls])), (k0, .inr (4, [.ref h4, lo, .ref h0, .int powered, .int stepsDone]))]) [] [0, 1] [1, 0] (vx_runS (As := [.int p2, .int 1, .int 1000]) (rest := []) ⟨hx, hb, hml, hown, hts⟩ (c_refuseOutside l hl9 D aI aL aZ _ p2 1 1000) (va_cwS 3 hts (gS w_115 w_116 w_35 w_117) rfl rfl rfl (by decide +kernel) ⟨Nat.le_of_ble_eq_true rfl, Nat.le_of_ble_eq_true rfl⟩) (pre_of hK hP hD hS hA hE [] rfl (by decide) _) rfl rfl hl.1 rfl (lv_room (Nat.le_of_ble_eq_true rfl)) dX4_rates_20 ⟨Nat.le_of_ble_eq_true rfl, Nat.le_of_ble_eq_true rfl⟩) hP hD hS hA rfl rfl (by decide) (by decide) hQ (fun _ h9 => ⟨hG.trans (cx_l h9.1), (Or.inl h9.2)⟩) hout hlk rfl (by decide) (Nat.le_of_ble_eq_true rfl) (Nat.le_of_ble_eq_true rfl) (fun u_ H locs hw_3 hP hD hS => ?_)
  have hw_3 : F_refuseOutside p2 1 1000 = .inr () := hw_3
  have hG := hG.trans (cx_r hw_3)
  have hP : va_P D vwCl [(h0, .inr (1, [.int wayToOther, .ref h1, .ref h2, .int place, .int speed, .int way, .int topSpeed, .int gain, .int brake, .int darkSpeed, .int rideSpeed, .int kilos, .int mostKilos, .int openContacts, .int fireFloor, .int ride, .int starts, .int distance, .int hardFalls])), (k0, .inr (4, [.ref h4, lo, .ref h0, .int powered, .int stepsDone]))] H := hP
  have hD : va_D A [(h0, .inr (1, [.int wayToOther, .ref h1, .ref h2, .int place, .int speed, .int way, .int topSpeed, .int gain, .int brake, .int darkSpeed, .int rideSpeed, .int kilos, .int mostKilos, .int openContacts, .int fireFloor, .int ride, .int starts, .int distance, .int hardFalls])), (k0, .inr (4, [.ref h4, lo, .ref h0, .int powered, .int stepsDone]))] := hD
  refine lv_iload hx hb dX4_rates_23 (lv_at hl 5 rfl) ?_
  refine lv_iconst (v := 1) hx hb dX4_rates_25 (by decide) ?_
  refine lv_sipush (v := 1000) hx hb dX4_rates_26 (by decide) ?_
  refine my_xv (wr := [(h0, .inr (1, [.int wayToOther, .ref h1, .ref h2, .int place, .int speed, .int way, .int topSpeed, .int gain, .int brake, .int darkSpeed, .int rideSpeed, .int kilos, .int mostKilos, .int openContacts, .int fireFloor, .int ride, .int starts, .int distance, .int hardFalls])), (k0, .inr (4, [.ref h4, lo, .ref h0, .int powered, .int stepsDone]))]) [] [0, 1] [1, 0] (vx_runS (As := [.int p3, .int 1, .int 1000]) (rest := []) ⟨hx, hb, hml, hown, hts⟩ (c_refuseOutside l hl9 D aI aL aZ _ p3 1 1000) (va_cwS 3 hts (gS w_115 w_116 w_35 w_117) rfl rfl rfl (by decide +kernel) ⟨Nat.le_of_ble_eq_true rfl, Nat.le_of_ble_eq_true rfl⟩) (pre_of hK hP hD hS hA hE [] rfl (by decide) _) rfl rfl hl.1 rfl (lv_room (Nat.le_of_ble_eq_true rfl)) dX4_rates_29 ⟨Nat.le_of_ble_eq_true rfl, Nat.le_of_ble_eq_true rfl⟩) hP hD hS hA rfl rfl (by decide) (by decide) hQ (fun _ h9 => ⟨hG.trans (cx_l h9.1), (Or.inl h9.2)⟩) hout hlk rfl (by decide) (Nat.le_of_ble_eq_true rfl) (Nat.le_of_ble_eq_true rfl) (fun u_ H locs hw_4 hP hD hS => ?_)
  have hw_4 : F_refuseOutside p3 1 1000 = .inr () := hw_4
  have hG := hG.trans (cx_r hw_4)
  have hP : va_P D vwCl [(h0, .inr (1, [.int wayToOther, .ref h1, .ref h2, .int place, .int speed, .int way, .int topSpeed, .int gain, .int brake, .int darkSpeed, .int rideSpeed, .int kilos, .int mostKilos, .int openContacts, .int fireFloor, .int ride, .int starts, .int distance, .int hardFalls])), (k0, .inr (4, [.ref h4, lo, .ref h0, .int powered, .int stepsDone]))] H := hP
  have hD : va_D A [(h0, .inr (1, [.int wayToOther, .ref h1, .ref h2, .int place, .int speed, .int way, .int topSpeed, .int gain, .int brake, .int darkSpeed, .int rideSpeed, .int kilos, .int mostKilos, .int openContacts, .int fireFloor, .int ride, .int starts, .int distance, .int hardFalls])), (k0, .inr (4, [.ref h4, lo, .ref h0, .int powered, .int stepsDone]))] := hD
  refine lv_iload_n hx hb dX4_rates_32 rfl (lv_at hl 4 rfl) ?_
  refine lv_iload hx hb dX4_rates_33 (lv_at hl 5 rfl) ?_
  refine lv_icmp_le (tgt := 48) hx hb dX4_rates_35 (by decide) (fun c_5 => ?_) (fun c_5 => ?_)
  · have hG := hG.trans (if_pos c_5)
    refine lv_aload hx hb dX4_rates_48 (lv_at hl 0 rfl) ?_
    refine va_getN (D := D) (ci := 1) (v := .int speed) (C := RX1) (T := TX1) (N := 19) hx hb hts inX1 hown hK hP 0 rfl rfl 4 (by decide) (nwF hE 15 rfl) (fun _ h9 => h9) rfl dX4_rates_50 ?_
    refine lv_if_eq (tgt := 66) hx hb dX4_rates_53 (by decide) (fun c_6 => ?_) (fun c_6 => ?_)
    · have hG := hG.trans (if_pos c_6)
      refine lv_aload hx hb dX4_rates_66 (lv_at hl 0 rfl) ?_
      refine lv_iload_n hx hb dX4_rates_68 rfl (lv_at hl 3 rfl) ?_
      refine va_putN (D := D) (ci := 1) (v := .int p1) (ty := .int) (C := RX1) (T := TX1) (N := 19) hx hb hts inX1 tyX1 tyX1_ok nmX1 hown hK hP hD hS 0 rfl rfl 6 (by decide) (nwF hE 17 rfl) (fun _ h9 => h9) rfl (by decide +kernel) rfl rfl (Nat.le_of_ble_eq_true rfl) dX4_rates_69 (fun H locs hP hD hS => ?_)
      have hP : va_P D vwCl [(h0, .inr (1, [.int wayToOther, .ref h1, .ref h2, .int place, .int speed, .int way, .int p1, .int gain, .int brake, .int darkSpeed, .int rideSpeed, .int kilos, .int mostKilos, .int openContacts, .int fireFloor, .int ride, .int starts, .int distance, .int hardFalls])), (k0, .inr (4, [.ref h4, lo, .ref h0, .int powered, .int stepsDone]))] H := hP
      have hD : va_D A [(h0, .inr (1, [.int wayToOther, .ref h1, .ref h2, .int place, .int speed, .int way, .int p1, .int gain, .int brake, .int darkSpeed, .int rideSpeed, .int kilos, .int mostKilos, .int openContacts, .int fireFloor, .int ride, .int starts, .int distance, .int hardFalls])), (k0, .inr (4, [.ref h4, lo, .ref h0, .int powered, .int stepsDone]))] := hD
      refine lv_aload hx hb dX4_rates_72 (lv_at hl 0 rfl) ?_
      refine lv_iload_n hx hb dX4_rates_74 rfl (lv_at hl 4 rfl) ?_
      refine va_putN (D := D) (ci := 1) (v := .int p2) (ty := .int) (C := RX1) (T := TX1) (N := 19) hx hb hts inX1 tyX1 tyX1_ok nmX1 hown hK hP hD hS 0 rfl rfl 7 (by decide) (nwF hE 18 rfl) (fun _ h9 => h9) rfl (by decide +kernel) rfl rfl (Nat.le_of_ble_eq_true rfl) dX4_rates_75 (fun H locs hP hD hS => ?_)
      have hP : va_P D vwCl [(h0, .inr (1, [.int wayToOther, .ref h1, .ref h2, .int place, .int speed, .int way, .int p1, .int p2, .int brake, .int darkSpeed, .int rideSpeed, .int kilos, .int mostKilos, .int openContacts, .int fireFloor, .int ride, .int starts, .int distance, .int hardFalls])), (k0, .inr (4, [.ref h4, lo, .ref h0, .int powered, .int stepsDone]))] H := hP
      have hD : va_D A [(h0, .inr (1, [.int wayToOther, .ref h1, .ref h2, .int place, .int speed, .int way, .int p1, .int p2, .int brake, .int darkSpeed, .int rideSpeed, .int kilos, .int mostKilos, .int openContacts, .int fireFloor, .int ride, .int starts, .int distance, .int hardFalls])), (k0, .inr (4, [.ref h4, lo, .ref h0, .int powered, .int stepsDone]))] := hD
      refine lv_aload hx hb dX4_rates_78 (lv_at hl 0 rfl) ?_
      refine lv_iload hx hb dX4_rates_80 (lv_at hl 5 rfl) ?_
      refine va_putN (D := D) (ci := 1) (v := .int p3) (ty := .int) (C := RX1) (T := TX1) (N := 19) hx hb hts inX1 tyX1 tyX1_ok nmX1 hown hK hP hD hS 0 rfl rfl 8 (by decide) (nwF hE 19 rfl) (fun _ h9 => h9) rfl (by decide +kernel) rfl rfl (Nat.le_of_ble_eq_true rfl) dX4_rates_82 (fun H locs hP hD hS => ?_)
      have hP : va_P D vwCl [(h0, .inr (1, [.int wayToOther, .ref h1, .ref h2, .int place, .int speed, .int way, .int p1, .int p2, .int p3, .int darkSpeed, .int rideSpeed, .int kilos, .int mostKilos, .int openContacts, .int fireFloor, .int ride, .int starts, .int distance, .int hardFalls])), (k0, .inr (4, [.ref h4, lo, .ref h0, .int powered, .int stepsDone]))] H := hP
      have hD : va_D A [(h0, .inr (1, [.int wayToOther, .ref h1, .ref h2, .int place, .int speed, .int way, .int p1, .int p2, .int p3, .int darkSpeed, .int rideSpeed, .int kilos, .int mostKilos, .int openContacts, .int fireFloor, .int ride, .int starts, .int distance, .int hardFalls])), (k0, .inr (4, [.ref h4, lo, .ref h0, .int powered, .int stepsDone]))] := hD
      have hP := hP.sub (ws' := [(k0, .inr (4, [.ref h4, lo, .ref h0, .int powered, .int stepsDone])), (h0, .inr (1, [.int wayToOther, .ref h1, .ref h2, .int place, .int speed, .int way, .int p1, .int p2, .int p3, .int darkSpeed, .int rideSpeed, .int kilos, .int mostKilos, .int openContacts, .int fireFloor, .int ride, .int starts, .int distance, .int hardFalls]))]) [1, 0] rfl
      have hD := hD.sub (ws' := [(k0, .inr (4, [.ref h4, lo, .ref h0, .int powered, .int stepsDone])), (h0, .inr (1, [.int wayToOther, .ref h1, .ref h2, .int place, .int speed, .int way, .int p1, .int p2, .int p3, .int darkSpeed, .int rideSpeed, .int kilos, .int mostKilos, .int openContacts, .int fireFloor, .int ride, .int starts, .int distance, .int hardFalls]))]) [1, 0] (by decide) rfl
      exact rtx_v hQ hx hb hr () hG hP hD hS (Nat.le_of_ble_eq_true rfl) (Nat.le_of_ble_eq_true rfl) dX4_rates_85 hlk
    · have hG := hG.trans (if_neg c_6)
      exact my_throw (own := RX4) (cls := "java/lang/IllegalStateException") (text := "the car does not stand") 2 [1, 0] hx hb hl9 hown (by decide +kernel) (hts _ (mG w_190)) (hts _ (mG w_43)) 7 rfl mt_51 hts tb_X4_51 tg_X4_51 hE hS (hl.1.trans hml.symm) dX4_rates_56 dX4_rates_59 dX4_rates_60 dX4_rates_62 dX4_rates_65 hout (Nat.le_of_ble_eq_true rfl) (Nat.le_of_ble_eq_true rfl) (Nat.le_of_ble_eq_true rfl) (Nat.le_of_ble_eq_true rfl) hlk hQ rfl ⟨hG, (Or.inr rfl)⟩ hP hD rfl (by decide) (Nat.le_of_ble_eq_true rfl) (Nat.le_of_ble_eq_true rfl)
  · have hG := hG.trans (if_neg c_5)
    exact my_throw (own := RX4) (cls := "java/lang/IllegalArgumentException") (text := "the gain is above the brake") 1 [1, 0] hx hb hl9 hown (by decide +kernel) (hts _ (mG w_118)) (hts _ (mG w_42)) 6 rfl mt_92 hts tb_X4_92 tg_X4_92 hE hS (hl.1.trans hml.symm) dX4_rates_38 dX4_rates_41 dX4_rates_42 dX4_rates_44 dX4_rates_47 hout (Nat.le_of_ble_eq_true rfl) (Nat.le_of_ble_eq_true rfl) (Nat.le_of_ble_eq_true rfl) (Nat.le_of_ble_eq_true rfl) hlk hQ rfl ⟨hG, (Or.inl rfl)⟩ hP hD rfl (by decide) (Nat.le_of_ble_eq_true rfl) (Nat.le_of_ble_eq_true rfl)
def F_rates_0n : Int32 ⊕ Unit :=
  cx F_carOf_0n fun _ =>
    .inl 0
theorem F_rates_0n_u : F_rates_0n =
  (cx F_carOf_0n fun _ =>
    .inl 0) := rfl
set_option maxHeartbeats 4000000 in
set_option maxRecDepth 100000 in
theorem c_rates_0n (l : Launch) (hl9 : l.stackTraces = false) (D : va_G) (aI aL aZ : ClassId) (sz : Nat) (k0 : Nat) (h4 : Nat) (powered : Int32) (stepsDone : Int32) (up : Value) (p1 : Int32) (p2 : Int32) (p3 : Int32) : vx_Met l yX4_rates (.code yX4_rates cX4_rates 6 none :: Gw) ({ frames := 7, cells := 1, slots := 6, locals := 114 }) (va_Pc [.ref k0, .int 0, .int p1, .int p2, .int p3] (mpre D [(aI, .int), (aL, .long), (aZ, .boolean)] [(k0, .inr (4, [.ref h4, .null, up, .int powered, .int stepsDone]))] sz)) ((fun A : Nat → Prop => va_Qv (fun (u : Unit) => False) (mpst D A (fun (u : Unit) => [(k0, .inr (4, [.ref h4, .null, up, .int powered, .int stepsDone]))])) A) (va_A ([(k0, .inr (4, [.ref h4, .null, up, .int powered, .int stepsDone]))]) sz)) ((fun A : Nat → Prop => vx_X (fun u : Int32 => F_rates_0n = .inl u ∧ (u = 1)) (mpsx D A [(k0, .inr (4, [.ref h4, .null, up, .int powered, .int stepsDone]))]) A) (va_A ([(k0, .inr (4, [.ref h4, .null, up, .int powered, .int stepsDone]))]) sz)) 1 6 (va_A ([(k0, .inr (4, [.ref h4, .null, up, .int powered, .int stepsDone]))]) sz) := by
  refine enx (cc := cX4_rates) (maxL := 6) (ret := none) (Qc := (fun A : Nat → Prop => va_Qv (fun (u : Unit) => False) (mpst D A (fun (u : Unit) => [(k0, .inr (4, [.ref h4, .null, up, .int powered, .int stepsDone]))])) A)) (XC := (fun A : Nat → Prop => vx_X (fun u : Int32 => F_rates_0n = .inl u ∧ (u = 1)) (mpsx D A [(k0, .inr (4, [.ref h4, .null, up, .int powered, .int stepsDone]))]) A)) (by decide) rfl (Nat.le_of_ble_eq_true rfl) ?_
  intro p e s m args below meth c A ls Q hQ hx hb hr hts hown hlk hnm hml hout hA hS hP hK hD hE hl
  have hown : s.vm.findClass RX4 = some m.cls := hown
  have hl : lv_has ls 6 [(0, .ref k0), (1, .int 0), (2, .int p1), (3, .int p2), (4, .int p3)] := hl
  have hG := F_rates_0n_u
  refine lv_aload_n hx hb dX4_rates_0 rfl (lv_at hl 0 rfl) ?_
  refine lv_iload_n hx hb dX4_rates_1 rfl (lv_at hl 1 rfl) ?_
  refine my_xr (wr := []) [0] [] [0] (vx_runV (As := [.int 0]) (rest := []) ⟨hx, hb, hml, hown, hts⟩ (c_carOf_0n l hl9 D aI aL aZ _ k0 h4 powered stepsDone up) (cwV 1 hts (gV w_393 w_395 w_2 w_35 w_396) rfl rfl rfl (by decide +kernel) ⟨Nat.le_of_ble_eq_true rfl, Nat.le_of_ble_eq_true rfl⟩) (prev_of hK hP hD hS hA hE [0] rfl (by decide) (ci := 4) rfl 0 rfl _) rfl rfl hl.1 rfl (lv_room (Nat.le_of_ble_eq_true rfl)) dX4_rates_2 ⟨Nat.le_of_ble_eq_true rfl, Nat.le_of_ble_eq_true rfl⟩) hP hD hS hA rfl rfl (by decide) (by decide) hQ (fun _ h9 => ⟨hG.trans (cx_l h9.1), h9.2⟩) hout hlk rfl (by decide) (Nat.le_of_ble_eq_true rfl) (Nat.le_of_ble_eq_true rfl) (fun u_ H locs hw_1 hP hD hS => ?_)
  exact False.elim hw_1
def F_rates_1n : Int32 ⊕ Unit :=
  cx F_carOf_1n fun _ =>
    .inl 0
theorem F_rates_1n_u : F_rates_1n =
  (cx F_carOf_1n fun _ =>
    .inl 0) := rfl
set_option maxHeartbeats 4000000 in
set_option maxRecDepth 100000 in
theorem c_rates_1n (l : Launch) (hl9 : l.stackTraces = false) (D : va_G) (aI aL aZ : ClassId) (sz : Nat) (k0 : Nat) (h4 : Nat) (powered : Int32) (stepsDone : Int32) (lo : Value) (p1 : Int32) (p2 : Int32) (p3 : Int32) : vx_Met l yX4_rates (.code yX4_rates cX4_rates 6 none :: Gw) ({ frames := 7, cells := 1, slots := 6, locals := 114 }) (va_Pc [.ref k0, .int 1, .int p1, .int p2, .int p3] (mpre D [(aI, .int), (aL, .long), (aZ, .boolean)] [(k0, .inr (4, [.ref h4, lo, .null, .int powered, .int stepsDone]))] sz)) ((fun A : Nat → Prop => va_Qv (fun (u : Unit) => False) (mpst D A (fun (u : Unit) => [(k0, .inr (4, [.ref h4, lo, .null, .int powered, .int stepsDone]))])) A) (va_A ([(k0, .inr (4, [.ref h4, lo, .null, .int powered, .int stepsDone]))]) sz)) ((fun A : Nat → Prop => vx_X (fun u : Int32 => F_rates_1n = .inl u ∧ (u = 1)) (mpsx D A [(k0, .inr (4, [.ref h4, lo, .null, .int powered, .int stepsDone]))]) A) (va_A ([(k0, .inr (4, [.ref h4, lo, .null, .int powered, .int stepsDone]))]) sz)) 1 6 (va_A ([(k0, .inr (4, [.ref h4, lo, .null, .int powered, .int stepsDone]))]) sz) := by
  refine enx (cc := cX4_rates) (maxL := 6) (ret := none) (Qc := (fun A : Nat → Prop => va_Qv (fun (u : Unit) => False) (mpst D A (fun (u : Unit) => [(k0, .inr (4, [.ref h4, lo, .null, .int powered, .int stepsDone]))])) A)) (XC := (fun A : Nat → Prop => vx_X (fun u : Int32 => F_rates_1n = .inl u ∧ (u = 1)) (mpsx D A [(k0, .inr (4, [.ref h4, lo, .null, .int powered, .int stepsDone]))]) A)) (by decide) rfl (Nat.le_of_ble_eq_true rfl) ?_
  intro p e s m args below meth c A ls Q hQ hx hb hr hts hown hlk hnm hml hout hA hS hP hK hD hE hl
  have hown : s.vm.findClass RX4 = some m.cls := hown
  have hl : lv_has ls 6 [(0, .ref k0), (1, .int 1), (2, .int p1), (3, .int p2), (4, .int p3)] := hl
  have hG := F_rates_1n_u
  refine lv_aload_n hx hb dX4_rates_0 rfl (lv_at hl 0 rfl) ?_
  refine lv_iload_n hx hb dX4_rates_1 rfl (lv_at hl 1 rfl) ?_
  refine my_xr (wr := []) [0] [] [0] (vx_runV (As := [.int 1]) (rest := []) ⟨hx, hb, hml, hown, hts⟩ (c_carOf_1n l hl9 D aI aL aZ _ k0 h4 powered stepsDone lo) (cwV 1 hts (gV w_393 w_395 w_2 w_35 w_396) rfl rfl rfl (by decide +kernel) ⟨Nat.le_of_ble_eq_true rfl, Nat.le_of_ble_eq_true rfl⟩) (prev_of hK hP hD hS hA hE [0] rfl (by decide) (ci := 4) rfl 0 rfl _) rfl rfl hl.1 rfl (lv_room (Nat.le_of_ble_eq_true rfl)) dX4_rates_2 ⟨Nat.le_of_ble_eq_true rfl, Nat.le_of_ble_eq_true rfl⟩) hP hD hS hA rfl rfl (by decide) (by decide) hQ (fun _ h9 => ⟨hG.trans (cx_l h9.1), h9.2⟩) hout hlk rfl (by decide) (Nat.le_of_ble_eq_true rfl) (Nat.le_of_ble_eq_true rfl) (fun u_ H locs hw_1 hP hD hS => ?_)
  exact False.elim hw_1
def F_rates_x : Int32 ⊕ Unit :=
  cx F_carOf_x fun _ =>
    .inl 0
theorem F_rates_x_u : F_rates_x =
  (cx F_carOf_x fun _ =>
    .inl 0) := rfl
set_option maxHeartbeats 4000000 in
set_option maxRecDepth 100000 in
theorem c_rates_x (l : Launch) (hl9 : l.stackTraces = false) (D : va_G) (aI aL aZ : ClassId) (sz : Nat) (k0 : Nat) (h4 : Nat) (powered : Int32) (stepsDone : Int32) (lo : Value) (up : Value) (p0 : Int32) (p1 : Int32) (p2 : Int32) (p3 : Int32) (h9 : ¬ p0 = 0) (h8 : ¬ p0 = 1) : vx_Met l yX4_rates (.code yX4_rates cX4_rates 6 none :: Gw) ({ frames := 7, cells := 1, slots := 6, locals := 114 }) (va_Pc [.ref k0, .int p0, .int p1, .int p2, .int p3] (mpre D [(aI, .int), (aL, .long), (aZ, .boolean)] [(k0, .inr (4, [.ref h4, lo, up, .int powered, .int stepsDone]))] sz)) ((fun A : Nat → Prop => va_Qv (fun (u : Unit) => False) (mpst D A (fun (u : Unit) => [(k0, .inr (4, [.ref h4, lo, up, .int powered, .int stepsDone]))])) A) (va_A ([(k0, .inr (4, [.ref h4, lo, up, .int powered, .int stepsDone]))]) sz)) ((fun A : Nat → Prop => vx_X (fun u : Int32 => F_rates_x = .inl u ∧ (u = 1)) (mpsx D A [(k0, .inr (4, [.ref h4, lo, up, .int powered, .int stepsDone]))]) A) (va_A ([(k0, .inr (4, [.ref h4, lo, up, .int powered, .int stepsDone]))]) sz)) 1 6 (va_A ([(k0, .inr (4, [.ref h4, lo, up, .int powered, .int stepsDone]))]) sz) := by
  refine enx (cc := cX4_rates) (maxL := 6) (ret := none) (Qc := (fun A : Nat → Prop => va_Qv (fun (u : Unit) => False) (mpst D A (fun (u : Unit) => [(k0, .inr (4, [.ref h4, lo, up, .int powered, .int stepsDone]))])) A)) (XC := (fun A : Nat → Prop => vx_X (fun u : Int32 => F_rates_x = .inl u ∧ (u = 1)) (mpsx D A [(k0, .inr (4, [.ref h4, lo, up, .int powered, .int stepsDone]))]) A)) (by decide) rfl (Nat.le_of_ble_eq_true rfl) ?_
  intro p e s m args below meth c A ls Q hQ hx hb hr hts hown hlk hnm hml hout hA hS hP hK hD hE hl
  have hown : s.vm.findClass RX4 = some m.cls := hown
  have hl : lv_has ls 6 [(0, .ref k0), (1, .int p0), (2, .int p1), (3, .int p2), (4, .int p3)] := hl
  have hG := F_rates_x_u
  refine lv_aload_n hx hb dX4_rates_0 rfl (lv_at hl 0 rfl) ?_
  refine lv_iload_n hx hb dX4_rates_1 rfl (lv_at hl 1 rfl) ?_
  refine my_xr (wr := []) [0] [] [0] (vx_runV (As := [.int p0]) (rest := []) ⟨hx, hb, hml, hown, hts⟩ (c_carOf_x l hl9 D aI aL aZ _ k0 h4 powered stepsDone lo up p0 h9 h8) (cwV 1 hts (gV w_393 w_395 w_2 w_35 w_396) rfl rfl rfl (by decide +kernel) ⟨Nat.le_of_ble_eq_true rfl, Nat.le_of_ble_eq_true rfl⟩) (prev_of hK hP hD hS hA hE [0] rfl (by decide) (ci := 4) rfl 0 rfl _) rfl rfl hl.1 rfl (lv_room (Nat.le_of_ble_eq_true rfl)) dX4_rates_2 ⟨Nat.le_of_ble_eq_true rfl, Nat.le_of_ble_eq_true rfl⟩) hP hD hS hA rfl rfl (by decide) (by decide) hQ (fun _ h9 => ⟨hG.trans (cx_l h9.1), h9.2⟩) hout hlk rfl (by decide) (Nat.le_of_ble_eq_true rfl) (Nat.le_of_ble_eq_true rfl) (fun u_ H locs hw_1 hP hD hS => ?_)
  exact False.elim hw_1
theorem dX4_slow_0 : decode cX4_slow 0 = .ok (.aload_n 0, 1) := by decide +kernel
theorem dX4_slow_1 : decode cX4_slow 1 = .ok (.iload_n 1, 1) := by decide +kernel
theorem dX4_slow_2 : decode cX4_slow 2 = .ok (.invokevirtual 84, 3) := by decide +kernel
theorem dX4_slow_5 : decode cX4_slow 5 = .ok (.astore 4, 2) := by decide +kernel
theorem dX4_slow_7 : decode cX4_slow 7 = .ok (.iload_n 2, 1) := by decide +kernel
theorem dX4_slow_8 : decode cX4_slow 8 = .ok (.iconst 1, 1) := by decide +kernel
theorem dX4_slow_9 : decode cX4_slow 9 = .ok (.sipush 2000, 3) := by decide +kernel
theorem dX4_slow_12 : decode cX4_slow 12 = .ok (.invokestatic 35, 3) := by decide +kernel
theorem dX4_slow_15 : decode cX4_slow 15 = .ok (.iload_n 3, 1) := by decide +kernel
theorem dX4_slow_16 : decode cX4_slow 16 = .ok (.iconst 1, 1) := by decide +kernel
theorem dX4_slow_17 : decode cX4_slow 17 = .ok (.sipush 2000, 3) := by decide +kernel
theorem dX4_slow_20 : decode cX4_slow 20 = .ok (.invokestatic 35, 3) := by decide +kernel
theorem dX4_slow_23 : decode cX4_slow 23 = .ok (.aload 4, 2) := by decide +kernel
theorem dX4_slow_25 : decode cX4_slow 25 = .ok (.iload_n 2, 1) := by decide +kernel
theorem dX4_slow_26 : decode cX4_slow 26 = .ok (.putfield 107, 3) := by decide +kernel
theorem dX4_slow_29 : decode cX4_slow 29 = .ok (.aload 4, 2) := by decide +kernel
theorem dX4_slow_31 : decode cX4_slow 31 = .ok (.iload_n 3, 1) := by decide +kernel
theorem dX4_slow_32 : decode cX4_slow 32 = .ok (.putfield 110, 3) := by decide +kernel
theorem dX4_slow_35 : decode cX4_slow 35 = .ok (.return_, 1) := by decide +kernel
def F_slow_0 (p1 : Int32) (p2 : Int32) : Int32 ⊕ Unit :=
  cx F_carOf_0 fun _ =>
    cx (F_refuseOutside p1 1 2000) fun _ =>
      cx (F_refuseOutside p2 1 2000) fun _ =>
        .inr ()
theorem F_slow_0_u (p1 : Int32) (p2 : Int32) : F_slow_0 p1 p2 =
  (cx F_carOf_0 fun _ =>
    cx (F_refuseOutside p1 1 2000) fun _ =>
      cx (F_refuseOutside p2 1 2000) fun _ =>
        .inr ()) := rfl
set_option maxHeartbeats 4000000 in
set_option maxRecDepth 100000 in
theorem c_slow_0 (l : Launch) (hl9 : l.stackTraces = false) (D : va_G) (aI aL aZ : ClassId) (sz : Nat) (k0 : Nat) (h4 : Nat) (powered : Int32) (stepsDone : Int32) (up : Value) (h0 : Nat) (h1 : Nat) (h2 : Nat) (wayToOther : Int32) (place : Int32) (speed : Int32) (way : Int32) (topSpeed : Int32) (gain : Int32) (brake : Int32) (darkSpeed : Int32) (rideSpeed : Int32) (kilos : Int32) (mostKilos : Int32) (openContacts : Int32) (fireFloor : Int32) (ride : Int32) (starts : Int32) (distance : Int32) (hardFalls : Int32) (p1 : Int32) (p2 : Int32) : vx_Met l yX4_slow (.code yX4_slow cX4_slow 5 none :: Gw) ({ frames := 7, cells := 2, slots := 12, locals := 114 }) (va_Pc [.ref k0, .int 0, .int p1, .int p2] (mpre D [(aI, .int), (aL, .long), (aZ, .boolean)] [(k0, .inr (4, [.ref h4, .ref h0, up, .int powered, .int stepsDone])), (h0, .inr (1, [.int wayToOther, .ref h1, .ref h2, .int place, .int speed, .int way, .int topSpeed, .int gain, .int brake, .int darkSpeed, .int rideSpeed, .int kilos, .int mostKilos, .int openContacts, .int fireFloor, .int ride, .int starts, .int distance, .int hardFalls]))] sz)) ((fun A : Nat → Prop => va_Qv (fun (u : Unit) => F_slow_0 p1 p2 = .inr ()) (mpst D A (fun (u : Unit) => [(k0, .inr (4, [.ref h4, .ref h0, up, .int powered, .int stepsDone])), (h0, .inr (1, [.int wayToOther, .ref h1, .ref h2, .int place, .int speed, .int way, .int topSpeed, .int gain, .int brake, .int p1, .int p2, .int kilos, .int mostKilos, .int openContacts, .int fireFloor, .int ride, .int starts, .int distance, .int hardFalls]))])) A) (va_A ([(k0, .inr (4, [.ref h4, .ref h0, up, .int powered, .int stepsDone])), (h0, .inr (1, [.int wayToOther, .ref h1, .ref h2, .int place, .int speed, .int way, .int topSpeed, .int gain, .int brake, .int darkSpeed, .int rideSpeed, .int kilos, .int mostKilos, .int openContacts, .int fireFloor, .int ride, .int starts, .int distance, .int hardFalls]))]) sz)) ((fun A : Nat → Prop => vx_X (fun u : Int32 => F_slow_0 p1 p2 = .inl u ∧ (u = 1)) (mpsx D A [(k0, .inr (4, [.ref h4, .ref h0, up, .int powered, .int stepsDone])), (h0, .inr (1, [.int wayToOther, .ref h1, .ref h2, .int place, .int speed, .int way, .int topSpeed, .int gain, .int brake, .int darkSpeed, .int rideSpeed, .int kilos, .int mostKilos, .int openContacts, .int fireFloor, .int ride, .int starts, .int distance, .int hardFalls]))]) A) (va_A ([(k0, .inr (4, [.ref h4, .ref h0, up, .int powered, .int stepsDone])), (h0, .inr (1, [.int wayToOther, .ref h1, .ref h2, .int place, .int speed, .int way, .int topSpeed, .int gain, .int brake, .int darkSpeed, .int rideSpeed, .int kilos, .int mostKilos, .int openContacts, .int fireFloor, .int ride, .int starts, .int distance, .int hardFalls]))]) sz)) 2 12 (va_A ([(k0, .inr (4, [.ref h4, .ref h0, up, .int powered, .int stepsDone])), (h0, .inr (1, [.int wayToOther, .ref h1, .ref h2, .int place, .int speed, .int way, .int topSpeed, .int gain, .int brake, .int darkSpeed, .int rideSpeed, .int kilos, .int mostKilos, .int openContacts, .int fireFloor, .int ride, .int starts, .int distance, .int hardFalls]))]) sz) := by
  refine enx (cc := cX4_slow) (maxL := 5) (ret := none) (Qc := (fun A : Nat → Prop => va_Qv (fun (u : Unit) => F_slow_0 p1 p2 = .inr ()) (mpst D A (fun (u : Unit) => [(k0, .inr (4, [.ref h4, .ref h0, up, .int powered, .int stepsDone])), (h0, .inr (1, [.int wayToOther, .ref h1, .ref h2, .int place, .int speed, .int way, .int topSpeed, .int gain, .int brake, .int p1, .int p2, .int kilos, .int mostKilos, .int openContacts, .int fireFloor, .int ride, .int starts, .int distance, .int hardFalls]))])) A)) (XC := (fun A : Nat → Prop => vx_X (fun u : Int32 => F_slow_0 p1 p2 = .inl u ∧ (u = 1)) (mpsx D A [(k0, .inr (4, [.ref h4, .ref h0, up, .int powered, .int stepsDone])), (h0, .inr (1, [.int wayToOther, .ref h1, .ref h2, .int place, .int speed, .int way, .int topSpeed, .int gain, .int brake, .int darkSpeed, .int rideSpeed, .int kilos, .int mostKilos, .int openContacts, .int fireFloor, .int ride, .int starts, .int distance, .int hardFalls]))]) A)) (by decide) rfl (Nat.le_of_ble_eq_true rfl) ?_
  intro p e s m args below meth c A ls Q hQ hx hb hr hts hown hlk hnm hml hout hA hS hP hK hD hE hl
  have hown : s.vm.findClass RX4 = some m.cls := hown
  have hl : lv_has ls 5 [(0, .ref k0), (1, .int 0), (2, .int p1), (3, .int p2)] := hl
  have hG := F_slow_0_u p1 p2
  refine lv_aload_n hx hb dX4_slow_0 rfl (lv_at hl 0 rfl) ?_
  refine lv_iload_n hx hb dX4_slow_1 rfl (lv_at hl 1 rfl) ?_
  refine my_xr (wr := [(h0, .inr (1, [.int wayToOther, .ref h1, .ref h2, .int place, .int speed, .int way, .int topSpeed, .int gain, .int brake, .int darkSpeed, .int rideSpeed, .int kilos, .int mostKilos, .int openContacts, .int fireFloor, .int ride, .int starts, .int distance, .int hardFalls]))]) [0] [1] [1, 0] (vx_runV (As := [.int 0]) (rest := []) ⟨hx, hb, hml, hown, hts⟩ (c_carOf_0 l hl9 D aI aL aZ _ k0 h4 powered stepsDone h0 up) (cwV 1 hts (gV w_393 w_395 w_2 w_35 w_396) rfl rfl rfl (by decide +kernel) ⟨Nat.le_of_ble_eq_true rfl, Nat.le_of_ble_eq_true rfl⟩) (prev_of hK hP hD hS hA hE [0] rfl (by decide) (ci := 4) rfl 0 rfl _) rfl rfl hl.1 rfl (lv_room (Nat.le_of_ble_eq_true rfl)) dX4_slow_2 ⟨Nat.le_of_ble_eq_true rfl, Nat.le_of_ble_eq_true rfl⟩) hP hD hS hA rfl rfl (by decide) (by decide) hQ (fun _ h9 => ⟨hG.trans (cx_l h9.1), (False.elim h9.2)⟩) hout hlk rfl (by decide) (Nat.le_of_ble_eq_true rfl) (Nat.le_of_ble_eq_true rfl) (fun u_ H locs hw_1 hP hD hS => ?_)
  have hw_1 : F_carOf_0 = .inr () := hw_1
  have hG := hG.trans (cx_r hw_1)
  have hP : va_P D vwCl [(h0, .inr (1, [.int wayToOther, .ref h1, .ref h2, .int place, .int speed, .int way, .int topSpeed, .int gain, .int brake, .int darkSpeed, .int rideSpeed, .int kilos, .int mostKilos, .int openContacts, .int fireFloor, .int ride, .int starts, .int distance, .int hardFalls])), (k0, .inr (4, [.ref h4, .ref h0, up, .int powered, .int stepsDone]))] H := hP
  have hD : va_D A [(h0, .inr (1, [.int wayToOther, .ref h1, .ref h2, .int place, .int speed, .int way, .int topSpeed, .int gain, .int brake, .int darkSpeed, .int rideSpeed, .int kilos, .int mostKilos, .int openContacts, .int fireFloor, .int ride, .int starts, .int distance, .int hardFalls])), (k0, .inr (4, [.ref h4, .ref h0, up, .int powered, .int stepsDone]))] := hD
  refine lv_astore (lv' := [(4, .ref h0), (0, .ref k0), (1, .int 0), (2, .int p1), (3, .int p2)]) hx hb dX4_slow_5 hl (by decide) rfl (fun ls hl => ?_)
  refine lv_iload_n hx hb dX4_slow_7 rfl (lv_at hl 3 rfl) ?_
  refine lv_iconst (v := 1) hx hb dX4_slow_8 (by decide) ?_
  refine lv_sipush (v := 2000) hx hb dX4_slow_9 (by decide) ?_
  refine my_xv (wr := [(h0, .inr (1, [.int wayToOther, .ref h1, .ref h2, .int place, .int speed, .int way, .int topSpeed, .int gain, .int brake, .int darkSpeed, .int rideSpeed, .int kilos, .int mostKilos, .int openContacts, .int fireFloor, .int ride, .int starts, .int distance, .int hardFalls])), (k0, .inr (4, [.ref h4, .ref h0, up, .int powered, .int stepsDone]))]) [] [0, 1] [1, 0] (vx_runS (As := [.int p1, .int 1, .int 2000]) (rest := []) ⟨hx, hb, hml, hown, hts⟩ (c_refuseOutside l hl9 D aI aL aZ _ p1 1 2000) (va_cwS 3 hts (gS w_115 w_116 w_35 w_117) rfl rfl rfl (by decide +kernel) ⟨Nat.le_of_ble_eq_true rfl, Nat.le_of_ble_eq_true rfl⟩) (pre_of hK hP hD hS hA hE [] rfl (by decide) _) rfl rfl hl.1 rfl (lv_room (Nat.le_of_ble_eq_true rfl)) dX4_slow_12 ⟨Nat.le_of_ble_eq_true rfl, Nat.le_of_ble_eq_true rfl⟩) hP hD hS hA rfl rfl (by decide) (by decide) hQ (fun _ h9 => ⟨hG.trans (cx_l h9.1), h9.2⟩) hout hlk rfl (by decide) (Nat.le_of_ble_eq_true rfl) (Nat.le_of_ble_eq_true rfl) (fun u_ H locs hw_2 hP hD hS => ?_)
  have hw_2 : F_refuseOutside p1 1 2000 = .inr () := hw_2
  have hG := hG.trans (cx_r hw_2)
  have hP : va_P D vwCl [(h0, .inr (1, [.int wayToOther, .ref h1, .ref h2, .int place, .int speed, .int way, .int topSpeed, .int gain, .int brake, .int darkSpeed, .int rideSpeed, .int kilos, .int mostKilos, .int openContacts, .int fireFloor, .int ride, .int starts, .int distance, .int hardFalls])), (k0, .inr (4, [.ref h4, .ref h0, up, .int powered, .int stepsDone]))] H := hP
  have hD : va_D A [(h0, .inr (1, [.int wayToOther, .ref h1, .ref h2, .int place, .int speed, .int way, .int topSpeed, .int gain, .int brake, .int darkSpeed, .int rideSpeed, .int kilos, .int mostKilos, .int openContacts, .int fireFloor, .int ride, .int starts, .int distance, .int hardFalls])), (k0, .inr (4, [.ref h4, .ref h0, up, .int powered, .int stepsDone]))] := hD
  refine lv_iload_n hx hb dX4_slow_15 rfl (lv_at hl 4 rfl) ?_
  refine lv_iconst (v := 1) hx hb dX4_slow_16 (by decide) ?_
  refine lv_sipush (v := 2000) hx hb dX4_slow_17 (by decide) ?_
  refine my_xv (wr := [(h0, .inr (1, [.int wayToOther, .ref h1, .ref h2, .int place, .int speed, .int way, .int topSpeed, .int gain, .int brake, .int darkSpeed, .int rideSpeed, .int kilos, .int mostKilos, .int openContacts, .int fireFloor, .int ride, .int starts, .int distance, .int hardFalls])), (k0, .inr (4, [.ref h4, .ref h0, up, .int powered, .int stepsDone]))]) [] [0, 1] [1, 0] (vx_runS (As := [.int p2, .int 1, .int 2000]) (rest := []) ⟨hx, hb, hml, hown, hts⟩ (c_refuseOutside l hl9 D aI aL aZ _ p2 1 2000) (va_cwS 3 hts (gS w_115 w_116 w_35 w_117) rfl rfl rfl (by decide +kernel) ⟨Nat.le_of_ble_eq_true rfl, Nat.le_of_ble_eq_true rfl⟩) (pre_of hK hP hD hS hA hE [] rfl (by decide) _) rfl rfl hl.1 rfl (lv_room (Nat.le_of_ble_eq_true rfl)) dX4_slow_20 ⟨Nat.le_of_ble_eq_true rfl, Nat.le_of_ble_eq_true rfl⟩) hP hD hS hA rfl rfl (by decide) (by decide) hQ (fun _ h9 => ⟨hG.trans (cx_l h9.1), h9.2⟩) hout hlk rfl (by decide) (Nat.le_of_ble_eq_true rfl) (Nat.le_of_ble_eq_true rfl) (fun u_ H locs hw_3 hP hD hS => ?_)
  have hw_3 : F_refuseOutside p2 1 2000 = .inr () := hw_3
  have hG := hG.trans (cx_r hw_3)
  have hP : va_P D vwCl [(h0, .inr (1, [.int wayToOther, .ref h1, .ref h2, .int place, .int speed, .int way, .int topSpeed, .int gain, .int brake, .int darkSpeed, .int rideSpeed, .int kilos, .int mostKilos, .int openContacts, .int fireFloor, .int ride, .int starts, .int distance, .int hardFalls])), (k0, .inr (4, [.ref h4, .ref h0, up, .int powered, .int stepsDone]))] H := hP
  have hD : va_D A [(h0, .inr (1, [.int wayToOther, .ref h1, .ref h2, .int place, .int speed, .int way, .int topSpeed, .int gain, .int brake, .int darkSpeed, .int rideSpeed, .int kilos, .int mostKilos, .int openContacts, .int fireFloor, .int ride, .int starts, .int distance, .int hardFalls])), (k0, .inr (4, [.ref h4, .ref h0, up, .int powered, .int stepsDone]))] := hD
  refine lv_aload hx hb dX4_slow_23 (lv_at hl 0 rfl) ?_
  refine lv_iload_n hx hb dX4_slow_25 rfl (lv_at hl 3 rfl) ?_
  refine va_putN (D := D) (ci := 1) (v := .int p1) (ty := .int) (C := RX1) (T := TX1) (N := 19) hx hb hts inX1 tyX1 tyX1_ok nmX1 hown hK hP hD hS 0 rfl rfl 9 (by decide) (nwF hE 20 rfl) (fun _ h9 => h9) rfl (by decide +kernel) rfl rfl (Nat.le_of_ble_eq_true rfl) dX4_slow_26 (fun H locs hP hD hS => ?_)
  have hP : va_P D vwCl [(h0, .inr (1, [.int wayToOther, .ref h1, .ref h2, .int place, .int speed, .int way, .int topSpeed, .int gain, .int brake, .int p1, .int rideSpeed, .int kilos, .int mostKilos, .int openContacts, .int fireFloor, .int ride, .int starts, .int distance, .int hardFalls])), (k0, .inr (4, [.ref h4, .ref h0, up, .int powered, .int stepsDone]))] H := hP
  have hD : va_D A [(h0, .inr (1, [.int wayToOther, .ref h1, .ref h2, .int place, .int speed, .int way, .int topSpeed, .int gain, .int brake, .int p1, .int rideSpeed, .int kilos, .int mostKilos, .int openContacts, .int fireFloor, .int ride, .int starts, .int distance, .int hardFalls])), (k0, .inr (4, [.ref h4, .ref h0, up, .int powered, .int stepsDone]))] := hD
  refine lv_aload hx hb dX4_slow_29 (lv_at hl 0 rfl) ?_
  refine lv_iload_n hx hb dX4_slow_31 rfl (lv_at hl 4 rfl) ?_
  refine va_putN (D := D) (ci := 1) (v := .int p2) (ty := .int) (C := RX1) (T := TX1) (N := 19) hx hb hts inX1 tyX1 tyX1_ok nmX1 hown hK hP hD hS 0 rfl rfl 10 (by decide) (nwF hE 21 rfl) (fun _ h9 => h9) rfl (by decide +kernel) rfl rfl (Nat.le_of_ble_eq_true rfl) dX4_slow_32 (fun H locs hP hD hS => ?_)
  have hP : va_P D vwCl [(h0, .inr (1, [.int wayToOther, .ref h1, .ref h2, .int place, .int speed, .int way, .int topSpeed, .int gain, .int brake, .int p1, .int p2, .int kilos, .int mostKilos, .int openContacts, .int fireFloor, .int ride, .int starts, .int distance, .int hardFalls])), (k0, .inr (4, [.ref h4, .ref h0, up, .int powered, .int stepsDone]))] H := hP
  have hD : va_D A [(h0, .inr (1, [.int wayToOther, .ref h1, .ref h2, .int place, .int speed, .int way, .int topSpeed, .int gain, .int brake, .int p1, .int p2, .int kilos, .int mostKilos, .int openContacts, .int fireFloor, .int ride, .int starts, .int distance, .int hardFalls])), (k0, .inr (4, [.ref h4, .ref h0, up, .int powered, .int stepsDone]))] := hD
  have hP := hP.sub (ws' := [(k0, .inr (4, [.ref h4, .ref h0, up, .int powered, .int stepsDone])), (h0, .inr (1, [.int wayToOther, .ref h1, .ref h2, .int place, .int speed, .int way, .int topSpeed, .int gain, .int brake, .int p1, .int p2, .int kilos, .int mostKilos, .int openContacts, .int fireFloor, .int ride, .int starts, .int distance, .int hardFalls]))]) [1, 0] rfl
  have hD := hD.sub (ws' := [(k0, .inr (4, [.ref h4, .ref h0, up, .int powered, .int stepsDone])), (h0, .inr (1, [.int wayToOther, .ref h1, .ref h2, .int place, .int speed, .int way, .int topSpeed, .int gain, .int brake, .int p1, .int p2, .int kilos, .int mostKilos, .int openContacts, .int fireFloor, .int ride, .int starts, .int distance, .int hardFalls]))]) [1, 0] (by decide) rfl
  exact rtx_v hQ hx hb hr () hG hP hD hS (Nat.le_of_ble_eq_true rfl) (Nat.le_of_ble_eq_true rfl) dX4_slow_35 hlk
def F_slow_1 (p1 : Int32) (p2 : Int32) : Int32 ⊕ Unit :=
  cx F_carOf_1 fun _ =>
    cx (F_refuseOutside p1 1 2000) fun _ =>
      cx (F_refuseOutside p2 1 2000) fun _ =>
        .inr ()
theorem F_slow_1_u (p1 : Int32) (p2 : Int32) : F_slow_1 p1 p2 =
  (cx F_carOf_1 fun _ =>
    cx (F_refuseOutside p1 1 2000) fun _ =>
      cx (F_refuseOutside p2 1 2000) fun _ =>
        .inr ()) := rfl
set_option maxHeartbeats 4000000 in
set_option maxRecDepth 100000 in
theorem c_slow_1 (l : Launch) (hl9 : l.stackTraces = false) (D : va_G) (aI aL aZ : ClassId) (sz : Nat) (k0 : Nat) (h4 : Nat) (powered : Int32) (stepsDone : Int32) (lo : Value) (h0 : Nat) (h1 : Nat) (h2 : Nat) (wayToOther : Int32) (place : Int32) (speed : Int32) (way : Int32) (topSpeed : Int32) (gain : Int32) (brake : Int32) (darkSpeed : Int32) (rideSpeed : Int32) (kilos : Int32) (mostKilos : Int32) (openContacts : Int32) (fireFloor : Int32) (ride : Int32) (starts : Int32) (distance : Int32) (hardFalls : Int32) (p1 : Int32) (p2 : Int32) : vx_Met l yX4_slow (.code yX4_slow cX4_slow 5 none :: Gw) ({ frames := 7, cells := 2, slots := 12, locals := 114 }) (va_Pc [.ref k0, .int 1, .int p1, .int p2] (mpre D [(aI, .int), (aL, .long), (aZ, .boolean)] [(k0, .inr (4, [.ref h4, lo, .ref h0, .int powered, .int stepsDone])), (h0, .inr (1, [.int wayToOther, .ref h1, .ref h2, .int place, .int speed, .int way, .int topSpeed, .int gain, .int brake, .int darkSpeed, .int rideSpeed, .int kilos, .int mostKilos, .int openContacts, .int fireFloor, .int ride, .int starts, .int distance, .int hardFalls]))] sz)) ((fun A : Nat → Prop => va_Qv (fun (u : Unit) => F_slow_1 p1 p2 = .inr ()) (mpst D A (fun (u : Unit) => [(k0, .inr (4, [.ref h4, lo, .ref h0, .int powered, .int stepsDone])), (h0, .inr (1, [.int wayToOther, .ref h1, .ref h2, .int place, .int speed, .int way, .int topSpeed, .int gain, .int brake, .int p1, .int p2, .int kilos, .int mostKilos, .int openContacts, .int fireFloor, .int ride, .int starts, .int distance, .int hardFalls]))])) A) (va_A ([(k0, .inr (4, [.ref h4, lo, .ref h0, .int powered, .int stepsDone])), (h0, .inr (1, [.int wayToOther, .ref h1, .ref h2, .int place, .int speed, .int way, .int topSpeed, .int gain, .int brake, .int darkSpeed, .int rideSpeed, .int kilos, .int mostKilos, .int openContacts, .int fireFloor, .int ride, .int starts, .int distance, .int hardFalls]))]) sz)) ((fun A : Nat → Prop => vx_X (fun u : Int32 => F_slow_1 p1 p2 = .inl u ∧ (u = 1)) (mpsx D A [(k0, .inr (4, [.ref h4, lo, .ref h0, .int powered, .int stepsDone])), (h0, .inr (1, [.int wayToOther, .ref h1, .ref h2, .int place, .int speed, .int way, .int topSpeed, .int gain, .int brake, .int darkSpeed, .int rideSpeed, .int kilos, .int mostKilos, .int openContacts, .int fireFloor, .int ride, .int starts, .int distance, .int hardFalls]))]) A) (va_A ([(k0, .inr (4, [.ref h4, lo, .ref h0, .int powered, .int stepsDone])), (h0, .inr (1, [.int wayToOther, .ref h1, .ref h2, .int place, .int speed, .int way, .int topSpeed, .int gain, .int brake, .int darkSpeed, .int rideSpeed, .int kilos, .int mostKilos, .int openContacts, .int fireFloor, .int ride, .int starts, .int distance, .int hardFalls]))]) sz)) 2 12 (va_A ([(k0, .inr (4, [.ref h4, lo, .ref h0, .int powered, .int stepsDone])), (h0, .inr (1, [.int wayToOther, .ref h1, .ref h2, .int place, .int speed, .int way, .int topSpeed, .int gain, .int brake, .int darkSpeed, .int rideSpeed, .int kilos, .int mostKilos, .int openContacts, .int fireFloor, .int ride, .int starts, .int distance, .int hardFalls]))]) sz) := by
  refine enx (cc := cX4_slow) (maxL := 5) (ret := none) (Qc := (fun A : Nat → Prop => va_Qv (fun (u : Unit) => F_slow_1 p1 p2 = .inr ()) (mpst D A (fun (u : Unit) => [(k0, .inr (4, [.ref h4, lo, .ref h0, .int powered, .int stepsDone])), (h0, .inr (1, [.int wayToOther, .ref h1, .ref h2, .int place, .int speed, .int way, .int topSpeed, .int gain, .int brake, .int p1, .int p2, .int kilos, .int mostKilos, .int openContacts, .int fireFloor, .int ride, .int starts, .int distance, .int hardFalls]))])) A)) (XC := (fun A : Nat → Prop => vx_X (fun u : Int32 => F_slow_1 p1 p2 = .inl u ∧ (u = 1)) (mpsx D A [(k0, .inr (4, [.ref h4, lo, .ref h0, .int powered, .int stepsDone])), (h0, .inr (1, [.int wayToOther, .ref h1, .ref h2, .int place, .int speed, .int way, .int topSpeed, .int gain, .int brake, .int darkSpeed, .int rideSpeed, .int kilos, .int mostKilos, .int openContacts, .int fireFloor, .int ride, .int starts, .int distance, .int hardFalls]))]) A)) (by decide) rfl (Nat.le_of_ble_eq_true rfl) ?_
  intro p e s m args below meth c A ls Q hQ hx hb hr hts hown hlk hnm hml hout hA hS hP hK hD hE hl
  have hown : s.vm.findClass RX4 = some m.cls := hown
  have hl : lv_has ls 5 [(0, .ref k0), (1, .int 1), (2, .int p1), (3, .int p2)] := hl
  have hG := F_slow_1_u p1 p2
  refine lv_aload_n hx hb dX4_slow_0 rfl (lv_at hl 0 rfl) ?_
  refine lv_iload_n hx hb dX4_slow_1 rfl (lv_at hl 1 rfl) ?_
  refine my_xr (wr := [(h0, .inr (1, [.int wayToOther, .ref h1, .ref h2, .int place, .int speed, .int way, .int topSpeed, .int gain, .int brake, .int darkSpeed, .int rideSpeed, .int kilos, .int mostKilos, .int openContacts, .int fireFloor, .int ride, .int starts, .int distance, .int hardFalls]))]) [0] [1] [1, 0] (vx_runV (As := [.int 1]) (rest := []) ⟨hx, hb, hml, hown, hts⟩ (c_carOf_1 l hl9 D aI aL aZ _ k0 h4 powered stepsDone h0 lo) (cwV 1 hts (gV w_393 w_395 w_2 w_35 w_396) rfl rfl rfl (by decide +kernel) ⟨Nat.le_of_ble_eq_true rfl, Nat.le_of_ble_eq_true rfl⟩) (prev_of hK hP hD hS hA hE [0] rfl (by decide) (ci := 4) rfl 0 rfl _) rfl rfl hl.1 rfl (lv_room (Nat.le_of_ble_eq_true rfl)) dX4_slow_2 ⟨Nat.le_of_ble_eq_true rfl, Nat.le_of_ble_eq_true rfl⟩) hP hD hS hA rfl rfl (by decide) (by decide) hQ (fun _ h9 => ⟨hG.trans (cx_l h9.1), (False.elim h9.2)⟩) hout hlk rfl (by decide) (Nat.le_of_ble_eq_true rfl) (Nat.le_of_ble_eq_true rfl) (fun u_ H locs hw_1 hP hD hS => ?_)
  have hw_1 : F_carOf_1 = .inr () := hw_1
  have hG := hG.trans (cx_r hw_1)
  have hP : va_P D vwCl [(h0, .inr (1, [.int wayToOther, .ref h1, .ref h2, .int place, .int speed, .int way, .int topSpeed, .int gain, .int brake, .int darkSpeed, .int rideSpeed, .int kilos, .int mostKilos, .int openContacts, .int fireFloor, .int ride, .int starts, .int distance, .int hardFalls])), (k0, .inr (4, [.ref h4, lo, .ref h0, .int powered, .int stepsDone]))] H := hP
  have hD : va_D A [(h0, .inr (1, [.int wayToOther, .ref h1, .ref h2, .int place, .int speed, .int way, .int topSpeed, .int gain, .int brake, .int darkSpeed, .int rideSpeed, .int kilos, .int mostKilos, .int openContacts, .int fireFloor, .int ride, .int starts, .int distance, .int hardFalls])), (k0, .inr (4, [.ref h4, lo, .ref h0, .int powered, .int stepsDone]))] := hD
  refine lv_astore (lv' := [(4, .ref h0), (0, .ref k0), (1, .int 1), (2, .int p1), (3, .int p2)]) hx hb dX4_slow_5 hl (by decide) rfl (fun ls hl => ?_)
  refine lv_iload_n hx hb dX4_slow_7 rfl (lv_at hl 3 rfl) ?_
  refine lv_iconst (v := 1) hx hb dX4_slow_8 (by decide) ?_
  refine lv_sipush (v := 2000) hx hb dX4_slow_9 (by decide) ?_
  refine my_xv (wr := [(h0, .inr (1, [.int wayToOther, .ref h1, .ref h2, .int place, .int speed, .int way, .int topSpeed, .int gain, .int brake, .int darkSpeed, .int rideSpeed, .int kilos, .int mostKilos, .int openContacts, .int fireFloor, .int ride, .int starts, .int distance, .int hardFalls])), (k0, .inr (4, [.ref h4, lo, .ref h0, .int powered, .int stepsDone]))]) [] [0, 1] [1, 0] (vx_runS (As := [.int p1, .int 1, .int 2000]) (rest := []) ⟨hx, hb, hml, hown, hts⟩ (c_refuseOutside l hl9 D aI aL aZ _ p1 1 2000) (va_cwS 3 hts (gS w_115 w_116 w_35 w_117) rfl rfl rfl (by decide +kernel) ⟨Nat.le_of_ble_eq_true rfl, Nat.le_of_ble_eq_true rfl⟩) (pre_of hK hP hD hS hA hE [] rfl (by decide) _) rfl rfl hl.1 rfl (lv_room (Nat.le_of_ble_eq_true rfl)) dX4_slow_12 ⟨Nat.le_of_ble_eq_true rfl, Nat.le_of_ble_eq_true rfl⟩) hP hD hS hA rfl rfl (by decide) (by decide) hQ (fun _ h9 => ⟨hG.trans (cx_l h9.1), h9.2⟩) hout hlk rfl (by decide) (Nat.le_of_ble_eq_true rfl) (Nat.le_of_ble_eq_true rfl) (fun u_ H locs hw_2 hP hD hS => ?_)
  have hw_2 : F_refuseOutside p1 1 2000 = .inr () := hw_2
  have hG := hG.trans (cx_r hw_2)
  have hP : va_P D vwCl [(h0, .inr (1, [.int wayToOther, .ref h1, .ref h2, .int place, .int speed, .int way, .int topSpeed, .int gain, .int brake, .int darkSpeed, .int rideSpeed, .int kilos, .int mostKilos, .int openContacts, .int fireFloor, .int ride, .int starts, .int distance, .int hardFalls])), (k0, .inr (4, [.ref h4, lo, .ref h0, .int powered, .int stepsDone]))] H := hP
  have hD : va_D A [(h0, .inr (1, [.int wayToOther, .ref h1, .ref h2, .int place, .int speed, .int way, .int topSpeed, .int gain, .int brake, .int darkSpeed, .int rideSpeed, .int kilos, .int mostKilos, .int openContacts, .int fireFloor, .int ride, .int starts, .int distance, .int hardFalls])), (k0, .inr (4, [.ref h4, lo, .ref h0, .int powered, .int stepsDone]))] := hD
  refine lv_iload_n hx hb dX4_slow_15 rfl (lv_at hl 4 rfl) ?_
  refine lv_iconst (v := 1) hx hb dX4_slow_16 (by decide) ?_
  refine lv_sipush (v := 2000) hx hb dX4_slow_17 (by decide) ?_
  refine my_xv (wr := [(h0, .inr (1, [.int wayToOther, .ref h1, .ref h2, .int place, .int speed, .int way, .int topSpeed, .int gain, .int brake, .int darkSpeed, .int rideSpeed, .int kilos, .int mostKilos, .int openContacts, .int fireFloor, .int ride, .int starts, .int distance, .int hardFalls])), (k0, .inr (4, [.ref h4, lo, .ref h0, .int powered, .int stepsDone]))]) [] [0, 1] [1, 0] (vx_runS (As := [.int p2, .int 1, .int 2000]) (rest := []) ⟨hx, hb, hml, hown, hts⟩ (c_refuseOutside l hl9 D aI aL aZ _ p2 1 2000) (va_cwS 3 hts (gS w_115 w_116 w_35 w_117) rfl rfl rfl (by decide +kernel) ⟨Nat.le_of_ble_eq_true rfl, Nat.le_of_ble_eq_true rfl⟩) (pre_of hK hP hD hS hA hE [] rfl (by decide) _) rfl rfl hl.1 rfl (lv_room (Nat.le_of_ble_eq_true rfl)) dX4_slow_20 ⟨Nat.le_of_ble_eq_true rfl, Nat.le_of_ble_eq_true rfl⟩) hP hD hS hA rfl rfl (by decide) (by decide) hQ (fun _ h9 => ⟨hG.trans (cx_l h9.1), h9.2⟩) hout hlk rfl (by decide) (Nat.le_of_ble_eq_true rfl) (Nat.le_of_ble_eq_true rfl) (fun u_ H locs hw_3 hP hD hS => ?_)
  have hw_3 : F_refuseOutside p2 1 2000 = .inr () := hw_3
  have hG := hG.trans (cx_r hw_3)
  have hP : va_P D vwCl [(h0, .inr (1, [.int wayToOther, .ref h1, .ref h2, .int place, .int speed, .int way, .int topSpeed, .int gain, .int brake, .int darkSpeed, .int rideSpeed, .int kilos, .int mostKilos, .int openContacts, .int fireFloor, .int ride, .int starts, .int distance, .int hardFalls])), (k0, .inr (4, [.ref h4, lo, .ref h0, .int powered, .int stepsDone]))] H := hP
  have hD : va_D A [(h0, .inr (1, [.int wayToOther, .ref h1, .ref h2, .int place, .int speed, .int way, .int topSpeed, .int gain, .int brake, .int darkSpeed, .int rideSpeed, .int kilos, .int mostKilos, .int openContacts, .int fireFloor, .int ride, .int starts, .int distance, .int hardFalls])), (k0, .inr (4, [.ref h4, lo, .ref h0, .int powered, .int stepsDone]))] := hD
  refine lv_aload hx hb dX4_slow_23 (lv_at hl 0 rfl) ?_
  refine lv_iload_n hx hb dX4_slow_25 rfl (lv_at hl 3 rfl) ?_
  refine va_putN (D := D) (ci := 1) (v := .int p1) (ty := .int) (C := RX1) (T := TX1) (N := 19) hx hb hts inX1 tyX1 tyX1_ok nmX1 hown hK hP hD hS 0 rfl rfl 9 (by decide) (nwF hE 20 rfl) (fun _ h9 => h9) rfl (by decide +kernel) rfl rfl (Nat.le_of_ble_eq_true rfl) dX4_slow_26 (fun H locs hP hD hS => ?_)
  have hP : va_P D vwCl [(h0, .inr (1, [.int wayToOther, .ref h1, .ref h2, .int place, .int speed, .int way, .int topSpeed, .int gain, .int brake, .int p1, .int rideSpeed, .int kilos, .int mostKilos, .int openContacts, .int fireFloor, .int ride, .int starts, .int distance, .int hardFalls])), (k0, .inr (4, [.ref h4, lo, .ref h0, .int powered, .int stepsDone]))] H := hP
  have hD : va_D A [(h0, .inr (1, [.int wayToOther, .ref h1, .ref h2, .int place, .int speed, .int way, .int topSpeed, .int gain, .int brake, .int p1, .int rideSpeed, .int kilos, .int mostKilos, .int openContacts, .int fireFloor, .int ride, .int starts, .int distance, .int hardFalls])), (k0, .inr (4, [.ref h4, lo, .ref h0, .int powered, .int stepsDone]))] := hD
  refine lv_aload hx hb dX4_slow_29 (lv_at hl 0 rfl) ?_
  refine lv_iload_n hx hb dX4_slow_31 rfl (lv_at hl 4 rfl) ?_
  refine va_putN (D := D) (ci := 1) (v := .int p2) (ty := .int) (C := RX1) (T := TX1) (N := 19) hx hb hts inX1 tyX1 tyX1_ok nmX1 hown hK hP hD hS 0 rfl rfl 10 (by decide) (nwF hE 21 rfl) (fun _ h9 => h9) rfl (by decide +kernel) rfl rfl (Nat.le_of_ble_eq_true rfl) dX4_slow_32 (fun H locs hP hD hS => ?_)
  have hP : va_P D vwCl [(h0, .inr (1, [.int wayToOther, .ref h1, .ref h2, .int place, .int speed, .int way, .int topSpeed, .int gain, .int brake, .int p1, .int p2, .int kilos, .int mostKilos, .int openContacts, .int fireFloor, .int ride, .int starts, .int distance, .int hardFalls])), (k0, .inr (4, [.ref h4, lo, .ref h0, .int powered, .int stepsDone]))] H := hP
  have hD : va_D A [(h0, .inr (1, [.int wayToOther, .ref h1, .ref h2, .int place, .int speed, .int way, .int topSpeed, .int gain, .int brake, .int p1, .int p2, .int kilos, .int mostKilos, .int openContacts, .int fireFloor, .int ride, .int starts, .int distance, .int hardFalls])), (k0, .inr (4, [.ref h4, lo, .ref h0, .int powered, .int stepsDone]))] := hD
  have hP := hP.sub (ws' := [(k0, .inr (4, [.ref h4, lo, .ref h0, .int powered, .int stepsDone])), (h0, .inr (1, [.int wayToOther, .ref h1, .ref h2, .int place, .int speed, .int way, .int topSpeed, .int gain, .int brake, .int p1, .int p2, .int kilos, .int mostKilos, .int openContacts, .int fireFloor, .int ride, .int starts, .int distance, .int hardFalls]))]) [1, 0] rfl
  have hD := hD.sub (ws' := [(k0, .inr (4, [.ref h4, lo, .ref h0, .int powered, .int stepsDone])), (h0, .inr (1, [.int wayToOther, .ref h1, .ref h2, .int place, .int speed, .int way, .int topSpeed, .int gain, .int brake, .int p1, .int p2, .int kilos, .int mostKilos, .int openContacts, .int fireFloor, .int ride, .int starts, .int distance, .int hardFalls]))]) [1, 0] (by decide) rfl
  exact rtx_v hQ hx hb hr () hG hP hD hS (Nat.le_of_ble_eq_true rfl) (Nat.le_of_ble_eq_true rfl) dX4_slow_35 hlk
def F_slow_0n : Int32 ⊕ Unit :=
  cx F_carOf_0n fun _ =>
    .inl 0
theorem F_slow_0n_u : F_slow_0n =
  (cx F_carOf_0n fun _ =>
    .inl 0) := rfl
set_option maxHeartbeats 4000000 in
set_option maxRecDepth 100000 in
theorem c_slow_0n (l : Launch) (hl9 : l.stackTraces = false) (D : va_G) (aI aL aZ : ClassId) (sz : Nat) (k0 : Nat) (h4 : Nat) (powered : Int32) (stepsDone : Int32) (up : Value) (p1 : Int32) (p2 : Int32) : vx_Met l yX4_slow (.code yX4_slow cX4_slow 5 none :: Gw) ({ frames := 7, cells := 1, slots := 6, locals := 114 }) (va_Pc [.ref k0, .int 0, .int p1, .int p2] (mpre D [(aI, .int), (aL, .long), (aZ, .boolean)] [(k0, .inr (4, [.ref h4, .null, up, .int powered, .int stepsDone]))] sz)) ((fun A : Nat → Prop => va_Qv (fun (u : Unit) => False) (mpst D A (fun (u : Unit) => [(k0, .inr (4, [.ref h4, .null, up, .int powered, .int stepsDone]))])) A) (va_A ([(k0, .inr (4, [.ref h4, .null, up, .int powered, .int stepsDone]))]) sz)) ((fun A : Nat → Prop => vx_X (fun u : Int32 => F_slow_0n = .inl u ∧ (u = 1)) (mpsx D A [(k0, .inr (4, [.ref h4, .null, up, .int powered, .int stepsDone]))]) A) (va_A ([(k0, .inr (4, [.ref h4, .null, up, .int powered, .int stepsDone]))]) sz)) 1 6 (va_A ([(k0, .inr (4, [.ref h4, .null, up, .int powered, .int stepsDone]))]) sz) := by
  refine enx (cc := cX4_slow) (maxL := 5) (ret := none) (Qc := (fun A : Nat → Prop => va_Qv (fun (u : Unit) => False) (mpst D A (fun (u : Unit) => [(k0, .inr (4, [.ref h4, .null, up, .int powered, .int stepsDone]))])) A)) (XC := (fun A : Nat → Prop => vx_X (fun u : Int32 => F_slow_0n = .inl u ∧ (u = 1)) (mpsx D A [(k0, .inr (4, [.ref h4, .null, up, .int powered, .int stepsDone]))]) A)) (by decide) rfl (Nat.le_of_ble_eq_true rfl) ?_
  intro p e s m args below meth c A ls Q hQ hx hb hr hts hown hlk hnm hml hout hA hS hP hK hD hE hl
  have hown : s.vm.findClass RX4 = some m.cls := hown
  have hl : lv_has ls 5 [(0, .ref k0), (1, .int 0), (2, .int p1), (3, .int p2)] := hl
  have hG := F_slow_0n_u
  refine lv_aload_n hx hb dX4_slow_0 rfl (lv_at hl 0 rfl) ?_
  refine lv_iload_n hx hb dX4_slow_1 rfl (lv_at hl 1 rfl) ?_
  refine my_xr (wr := []) [0] [] [0] (vx_runV (As := [.int 0]) (rest := []) ⟨hx, hb, hml, hown, hts⟩ (c_carOf_0n l hl9 D aI aL aZ _ k0 h4 powered stepsDone up) (cwV 1 hts (gV w_393 w_395 w_2 w_35 w_396) rfl rfl rfl (by decide +kernel) ⟨Nat.le_of_ble_eq_true rfl, Nat.le_of_ble_eq_true rfl⟩) (prev_of hK hP hD hS hA hE [0] rfl (by decide) (ci := 4) rfl 0 rfl _) rfl rfl hl.1 rfl (lv_room (Nat.le_of_ble_eq_true rfl)) dX4_slow_2 ⟨Nat.le_of_ble_eq_true rfl, Nat.le_of_ble_eq_true rfl⟩) hP hD hS hA rfl rfl (by decide) (by decide) hQ (fun _ h9 => ⟨hG.trans (cx_l h9.1), h9.2⟩) hout hlk rfl (by decide) (Nat.le_of_ble_eq_true rfl) (Nat.le_of_ble_eq_true rfl) (fun u_ H locs hw_1 hP hD hS => ?_)
  exact False.elim hw_1
def F_slow_1n : Int32 ⊕ Unit :=
  cx F_carOf_1n fun _ =>
    .inl 0
theorem F_slow_1n_u : F_slow_1n =
  (cx F_carOf_1n fun _ =>
    .inl 0) := rfl
set_option maxHeartbeats 4000000 in
set_option maxRecDepth 100000 in
theorem c_slow_1n (l : Launch) (hl9 : l.stackTraces = false) (D : va_G) (aI aL aZ : ClassId) (sz : Nat) (k0 : Nat) (h4 : Nat) (powered : Int32) (stepsDone : Int32) (lo : Value) (p1 : Int32) (p2 : Int32) : vx_Met l yX4_slow (.code yX4_slow cX4_slow 5 none :: Gw) ({ frames := 7, cells := 1, slots := 6, locals := 114 }) (va_Pc [.ref k0, .int 1, .int p1, .int p2] (mpre D [(aI, .int), (aL, .long), (aZ, .boolean)] [(k0, .inr (4, [.ref h4, lo, .null, .int powered, .int stepsDone]))] sz)) ((fun A : Nat → Prop => va_Qv (fun (u : Unit) => False) (mpst D A (fun (u : Unit) => [(k0, .inr (4, [.ref h4, lo, .null, .int powered, .int stepsDone]))])) A) (va_A ([(k0, .inr (4, [.ref h4, lo, .null, .int powered, .int stepsDone]))]) sz)) ((fun A : Nat → Prop => vx_X (fun u : Int32 => F_slow_1n = .inl u ∧ (u = 1)) (mpsx D A [(k0, .inr (4, [.ref h4, lo, .null, .int powered, .int stepsDone]))]) A) (va_A ([(k0, .inr (4, [.ref h4, lo, .null, .int powered, .int stepsDone]))]) sz)) 1 6 (va_A ([(k0, .inr (4, [.ref h4, lo, .null, .int powered, .int stepsDone]))]) sz) := by
  refine enx (cc := cX4_slow) (maxL := 5) (ret := none) (Qc := (fun A : Nat → Prop => va_Qv (fun (u : Unit) => False) (mpst D A (fun (u : Unit) => [(k0, .inr (4, [.ref h4, lo, .null, .int powered, .int stepsDone]))])) A)) (XC := (fun A : Nat → Prop => vx_X (fun u : Int32 => F_slow_1n = .inl u ∧ (u = 1)) (mpsx D A [(k0, .inr (4, [.ref h4, lo, .null, .int powered, .int stepsDone]))]) A)) (by decide) rfl (Nat.le_of_ble_eq_true rfl) ?_
  intro p e s m args below meth c A ls Q hQ hx hb hr hts hown hlk hnm hml hout hA hS hP hK hD hE hl
  have hown : s.vm.findClass RX4 = some m.cls := hown
  have hl : lv_has ls 5 [(0, .ref k0), (1, .int 1), (2, .int p1), (3, .int p2)] := hl
  have hG := F_slow_1n_u
  refine lv_aload_n hx hb dX4_slow_0 rfl (lv_at hl 0 rfl) ?_
  refine lv_iload_n hx hb dX4_slow_1 rfl (lv_at hl 1 rfl) ?_
  refine my_xr (wr := []) [0] [] [0] (vx_runV (As := [.int 1]) (rest := []) ⟨hx, hb, hml, hown, hts⟩ (c_carOf_1n l hl9 D aI aL aZ _ k0 h4 powered stepsDone lo) (cwV 1 hts (gV w_393 w_395 w_2 w_35 w_396) rfl rfl rfl (by decide +kernel) ⟨Nat.le_of_ble_eq_true rfl, Nat.le_of_ble_eq_true rfl⟩) (prev_of hK hP hD hS hA hE [0] rfl (by decide) (ci := 4) rfl 0 rfl _) rfl rfl hl.1 rfl (lv_room (Nat.le_of_ble_eq_true rfl)) dX4_slow_2 ⟨Nat.le_of_ble_eq_true rfl, Nat.le_of_ble_eq_true rfl⟩) hP hD hS hA rfl rfl (by decide) (by decide) hQ (fun _ h9 => ⟨hG.trans (cx_l h9.1), h9.2⟩) hout hlk rfl (by decide) (Nat.le_of_ble_eq_true rfl) (Nat.le_of_ble_eq_true rfl) (fun u_ H locs hw_1 hP hD hS => ?_)
  exact False.elim hw_1
def F_slow_x : Int32 ⊕ Unit :=
  cx F_carOf_x fun _ =>
    .inl 0
theorem F_slow_x_u : F_slow_x =
  (cx F_carOf_x fun _ =>
    .inl 0) := rfl
set_option maxHeartbeats 4000000 in
set_option maxRecDepth 100000 in
theorem c_slow_x (l : Launch) (hl9 : l.stackTraces = false) (D : va_G) (aI aL aZ : ClassId) (sz : Nat) (k0 : Nat) (h4 : Nat) (powered : Int32) (stepsDone : Int32) (lo : Value) (up : Value) (p0 : Int32) (p1 : Int32) (p2 : Int32) (h9 : ¬ p0 = 0) (h8 : ¬ p0 = 1) : vx_Met l yX4_slow (.code yX4_slow cX4_slow 5 none :: Gw) ({ frames := 7, cells := 1, slots := 6, locals := 114 }) (va_Pc [.ref k0, .int p0, .int p1, .int p2] (mpre D [(aI, .int), (aL, .long), (aZ, .boolean)] [(k0, .inr (4, [.ref h4, lo, up, .int powered, .int stepsDone]))] sz)) ((fun A : Nat → Prop => va_Qv (fun (u : Unit) => False) (mpst D A (fun (u : Unit) => [(k0, .inr (4, [.ref h4, lo, up, .int powered, .int stepsDone]))])) A) (va_A ([(k0, .inr (4, [.ref h4, lo, up, .int powered, .int stepsDone]))]) sz)) ((fun A : Nat → Prop => vx_X (fun u : Int32 => F_slow_x = .inl u ∧ (u = 1)) (mpsx D A [(k0, .inr (4, [.ref h4, lo, up, .int powered, .int stepsDone]))]) A) (va_A ([(k0, .inr (4, [.ref h4, lo, up, .int powered, .int stepsDone]))]) sz)) 1 6 (va_A ([(k0, .inr (4, [.ref h4, lo, up, .int powered, .int stepsDone]))]) sz) := by
  refine enx (cc := cX4_slow) (maxL := 5) (ret := none) (Qc := (fun A : Nat → Prop => va_Qv (fun (u : Unit) => False) (mpst D A (fun (u : Unit) => [(k0, .inr (4, [.ref h4, lo, up, .int powered, .int stepsDone]))])) A)) (XC := (fun A : Nat → Prop => vx_X (fun u : Int32 => F_slow_x = .inl u ∧ (u = 1)) (mpsx D A [(k0, .inr (4, [.ref h4, lo, up, .int powered, .int stepsDone]))]) A)) (by decide) rfl (Nat.le_of_ble_eq_true rfl) ?_
  intro p e s m args below meth c A ls Q hQ hx hb hr hts hown hlk hnm hml hout hA hS hP hK hD hE hl
  have hown : s.vm.findClass RX4 = some m.cls := hown
  have hl : lv_has ls 5 [(0, .ref k0), (1, .int p0), (2, .int p1), (3, .int p2)] := hl
  have hG := F_slow_x_u
  refine lv_aload_n hx hb dX4_slow_0 rfl (lv_at hl 0 rfl) ?_
  refine lv_iload_n hx hb dX4_slow_1 rfl (lv_at hl 1 rfl) ?_
  refine my_xr (wr := []) [0] [] [0] (vx_runV (As := [.int p0]) (rest := []) ⟨hx, hb, hml, hown, hts⟩ (c_carOf_x l hl9 D aI aL aZ _ k0 h4 powered stepsDone lo up p0 h9 h8) (cwV 1 hts (gV w_393 w_395 w_2 w_35 w_396) rfl rfl rfl (by decide +kernel) ⟨Nat.le_of_ble_eq_true rfl, Nat.le_of_ble_eq_true rfl⟩) (prev_of hK hP hD hS hA hE [0] rfl (by decide) (ci := 4) rfl 0 rfl _) rfl rfl hl.1 rfl (lv_room (Nat.le_of_ble_eq_true rfl)) dX4_slow_2 ⟨Nat.le_of_ble_eq_true rfl, Nat.le_of_ble_eq_true rfl⟩) hP hD hS hA rfl rfl (by decide) (by decide) hQ (fun _ h9 => ⟨hG.trans (cx_l h9.1), h9.2⟩) hout hlk rfl (by decide) (Nat.le_of_ble_eq_true rfl) (Nat.le_of_ble_eq_true rfl) (fun u_ H locs hw_1 hP hD hS => ?_)
  exact False.elim hw_1
theorem dX4_door_0 : decode cX4_door 0 = .ok (.aload_n 0, 1) := by decide +kernel
theorem dX4_door_1 : decode cX4_door 1 = .ok (.iload_n 1, 1) := by decide +kernel
theorem dX4_door_2 : decode cX4_door 2 = .ok (.invokevirtual 84, 3) := by decide +kernel
theorem dX4_door_5 : decode cX4_door 5 = .ok (.getfield 113, 3) := by decide +kernel
theorem dX4_door_8 : decode cX4_door 8 = .ok (.astore 4, 2) := by decide +kernel
theorem dX4_door_10 : decode cX4_door 10 = .ok (.iload_n 2, 1) := by decide +kernel
theorem dX4_door_11 : decode cX4_door 11 = .ok (.iconst 1, 1) := by decide +kernel
theorem dX4_door_12 : decode cX4_door 12 = .ok (.bipush 50, 2) := by decide +kernel
theorem dX4_door_14 : decode cX4_door 14 = .ok (.invokestatic 35, 3) := by decide +kernel
theorem dX4_door_17 : decode cX4_door 17 = .ok (.iload_n 3, 1) := by decide +kernel
theorem dX4_door_18 : decode cX4_door 18 = .ok (.iconst 0, 1) := by decide +kernel
theorem dX4_door_19 : decode cX4_door 19 = .ok (.sipush 1000, 3) := by decide +kernel
theorem dX4_door_22 : decode cX4_door 22 = .ok (.invokestatic 35, 3) := by decide +kernel
theorem dX4_door_25 : decode cX4_door 25 = .ok (.aload 4, 2) := by decide +kernel
theorem dX4_door_27 : decode cX4_door 27 = .ok (.getfield 117, 3) := by decide +kernel
theorem dX4_door_30 : decode cX4_door 30 = .ok (.ifCond .eq 13, 3) := by decide +kernel
theorem dX4_door_33 : decode cX4_door 33 = .ok (.new 47, 3) := by decide +kernel
theorem dX4_door_36 : decode cX4_door 36 = .ok (.dup, 1) := by decide +kernel
theorem dX4_door_37 : decode cX4_door 37 = .ok (.ldc 122, 2) := by decide +kernel
theorem dX4_door_39 : decode cX4_door 39 = .ok (.invokespecial 51, 3) := by decide +kernel
theorem dX4_door_42 : decode cX4_door 42 = .ok (.athrow, 1) := by decide +kernel
theorem dX4_door_43 : decode cX4_door 43 = .ok (.aload 4, 2) := by decide +kernel
theorem dX4_door_45 : decode cX4_door 45 = .ok (.iload_n 2, 1) := by decide +kernel
theorem dX4_door_46 : decode cX4_door 46 = .ok (.putfield 124, 3) := by decide +kernel
theorem dX4_door_49 : decode cX4_door 49 = .ok (.aload 4, 2) := by decide +kernel
theorem dX4_door_51 : decode cX4_door 51 = .ok (.iload_n 3, 1) := by decide +kernel
theorem dX4_door_52 : decode cX4_door 52 = .ok (.putfield 127, 3) := by decide +kernel
theorem dX4_door_55 : decode cX4_door 55 = .ok (.return_, 1) := by decide +kernel
def F_door_0 (dstate : Int32) (p1 : Int32) (p2 : Int32) : Int32 ⊕ Unit :=
  cx F_carOf_0 fun _ =>
    cx (F_refuseOutside p1 1 50) fun _ =>
      cx (F_refuseOutside p2 0 1000) fun _ =>
        if dstate = 0 then
          .inr ()
        else
          .inl 2
theorem F_door_0_u (dstate : Int32) (p1 : Int32) (p2 : Int32) : F_door_0 dstate p1 p2 =
  (cx F_carOf_0 fun _ =>
    cx (F_refuseOutside p1 1 50) fun _ =>
      cx (F_refuseOutside p2 0 1000) fun _ =>
        if dstate = 0 then
          .inr ()
        else
          .inl 2) := rfl
set_option maxHeartbeats 4000000 in
set_option maxRecDepth 100000 in
theorem c_door_0 (l : Launch) (hl9 : l.stackTraces = false) (D : va_G) (aI aL aZ : ClassId) (sz : Nat) (k0 : Nat) (h4 : Nat) (powered : Int32) (stepsDone : Int32) (up : Value) (h0 : Nat) (h1 : Nat) (h2 : Nat) (wayToOther : Int32) (place : Int32) (speed : Int32) (way : Int32) (topSpeed : Int32) (gain : Int32) (brake : Int32) (darkSpeed : Int32) (rideSpeed : Int32) (kilos : Int32) (mostKilos : Int32) (openContacts : Int32) (fireFloor : Int32) (ride : Int32) (starts : Int32) (distance : Int32) (hardFalls : Int32) (dstate : Int32) (dplace : Int32) (dplaces : Int32) (dhold : Int32) (dsteps : Int32) (dbeam : Int32) (dob : Int32) (doc : Int32) (p1 : Int32) (p2 : Int32) : vx_Met l yX4_door (.code yX4_door cX4_door 5 none :: Gw) ({ frames := 7, cells := 3, slots := 18, locals := 114 }) (va_Pc [.ref k0, .int 0, .int p1, .int p2] (mpre D [(aI, .int), (aL, .long), (aZ, .boolean)] [(k0, .inr (4, [.ref h4, .ref h0, up, .int powered, .int stepsDone])), (h0, .inr (1, [.int wayToOther, .ref h1, .ref h2, .int place, .int speed, .int way, .int topSpeed, .int gain, .int brake, .int darkSpeed, .int rideSpeed, .int kilos, .int mostKilos, .int openContacts, .int fireFloor, .int ride, .int starts, .int distance, .int hardFalls])), (h1, .inr (2, [.int dstate, .int dplace, .int dplaces, .int dhold, .int dsteps, .int dbeam, .int dob, .int doc]))] sz)) ((fun A : Nat → Prop => va_Qv (fun (u : Unit) => F_door_0 dstate p1 p2 = .inr ()) (mpst D A (fun (u : Unit) => [(k0, .inr (4, [.ref h4, .ref h0, up, .int powered, .int stepsDone])), (h0, .inr (1, [.int wayToOther, .ref h1, .ref h2, .int place, .int speed, .int way, .int topSpeed, .int gain, .int brake, .int darkSpeed, .int rideSpeed, .int kilos, .int mostKilos, .int openContacts, .int fireFloor, .int ride, .int starts, .int distance, .int hardFalls])), (h1, .inr (2, [.int dstate, .int dplace, .int p1, .int p2, .int dsteps, .int dbeam, .int dob, .int doc]))])) A) (va_A ([(k0, .inr (4, [.ref h4, .ref h0, up, .int powered, .int stepsDone])), (h0, .inr (1, [.int wayToOther, .ref h1, .ref h2, .int place, .int speed, .int way, .int topSpeed, .int gain, .int brake, .int darkSpeed, .int rideSpeed, .int kilos, .int mostKilos, .int openContacts, .int fireFloor, .int ride, .int starts, .int distance, .int hardFalls])), (h1, .inr (2, [.int dstate, .int dplace, .int dplaces, .int dhold, .int dsteps, .int dbeam, .int dob, .int doc]))]) sz)) ((fun A : Nat → Prop => vx_X (fun u : Int32 => F_door_0 dstate p1 p2 = .inl u ∧ (u = 1 ∨ u = 2)) (mpsx D A [(k0, .inr (4, [.ref h4, .ref h0, up, .int powered, .int stepsDone])), (h0, .inr (1, [.int wayToOther, .ref h1, .ref h2, .int place, .int speed, .int way, .int topSpeed, .int gain, .int brake, .int darkSpeed, .int rideSpeed, .int kilos, .int mostKilos, .int openContacts, .int fireFloor, .int ride, .int starts, .int distance, .int hardFalls])), (h1, .inr (2, [.int dstate, .int dplace, .int dplaces, .int dhold, .int dsteps, .int dbeam, .int dob, .int doc]))]) A) (va_A ([(k0, .inr (4, [.ref h4, .ref h0, up, .int powered, .int stepsDone])), (h0, .inr (1, [.int wayToOther, .ref h1, .ref h2, .int place, .int speed, .int way, .int topSpeed, .int gain, .int brake, .int darkSpeed, .int rideSpeed, .int kilos, .int mostKilos, .int openContacts, .int fireFloor, .int ride, .int starts, .int distance, .int hardFalls])), (h1, .inr (2, [.int dstate, .int dplace, .int dplaces, .int dhold, .int dsteps, .int dbeam, .int dob, .int doc]))]) sz)) 3 18 (va_A ([(k0, .inr (4, [.ref h4, .ref h0, up, .int powered, .int stepsDone])), (h0, .inr (1, [.int wayToOther, .ref h1, .ref h2, .int place, .int speed, .int way, .int topSpeed, .int gain, .int brake, .int darkSpeed, .int rideSpeed, .int kilos, .int mostKilos, .int openContacts, .int fireFloor, .int ride, .int starts, .int distance, .int hardFalls])), (h1, .inr (2, [.int dstate, .int dplace, .int dplaces, .int dhold, .int dsteps, .int dbeam, .int dob, .int doc]))]) sz) := by
  refine enx (cc := cX4_door) (maxL := 5) (ret := none) (Qc := (fun A : Nat → Prop => va_Qv (fun (u : Unit) => F_door_0 dstate p1 p2 = .inr ()) (mpst D A (fun (u : Unit) => [(k0, .inr (4, [.ref h4, .ref h0, up, .int powered, .int stepsDone])), (h0, .inr (1, [.int wayToOther, .ref h1, .ref h2, .int place, .int speed, .int way, .int topSpeed, .int gain, .int brake, .int darkSpeed, .int rideSpeed, .int kilos, .int mostKilos, .int openContacts, .int fireFloor, .int ride, .int starts, .int distance, .int hardFalls])), (h1, .inr (2, [.int dstate, .int dplace, .int p1, .int p2, .int dsteps, .int dbeam, .int dob, .int doc]))])) A)) (XC := (fun A : Nat → Prop => vx_X (fun u : Int32 => F_door_0 dstate p1 p2 = .inl u ∧ (u = 1 ∨ u = 2)) (mpsx D A [(k0, .inr (4, [.ref h4, .ref h0, up, .int powered, .int stepsDone])), (h0, .inr (1, [.int wayToOther, .ref h1, .ref h2, .int place, .int speed, .int way, .int topSpeed, .int gain, .int brake, .int darkSpeed, .int rideSpeed, .int kilos, .int mostKilos, .int openContacts, .int fireFloor, .int ride, .int starts, .int distance, .int hardFalls])), (h1, .inr (2, [.int dstate, .int dplace, .int dplaces, .int dhold, .int dsteps, .int dbeam, .int dob, .int doc]))]) A)) (by decide) rfl (Nat.le_of_ble_eq_true rfl) ?_
  intro p e s m args below meth c A ls Q hQ hx hb hr hts hown hlk hnm hml hout hA hS hP hK hD hE hl
  have hown : s.vm.findClass RX4 = some m.cls := hown
  have hl : lv_has ls 5 [(0, .ref k0), (1, .int 0), (2, .int p1), (3, .int p2)] := hl
  have hG := F_door_0_u dstate p1 p2
  refine lv_aload_n hx hb dX4_door_0 rfl (lv_at hl 0 rfl) ?_
  refine lv_iload_n hx hb dX4_door_1 rfl (lv_at hl 1 rfl) ?_
  refine my_xr (wr := [(h0, .inr (1, [.int wayToOther, .ref h1, .ref h2, .int place, .int speed, .int way, .int topSpeed, .int gain, .int brake, .int darkSpeed, .int rideSpeed, .int kilos, .int mostKilos, .int openContacts, .int fireFloor, .int ride, .int starts, .int distance, .int hardFalls])), (h1, .inr (2, [.int dstate, .int dplace, .int dplaces, .int dhold, .int dsteps, .int dbeam, .int dob, .int doc]))]) [0] [1, 2] [2, 0, 1] (vx_runV (As := [.int 0]) (rest := []) ⟨hx, hb, hml, hown, hts⟩ (c_carOf_0 l hl9 D aI aL aZ _ k0 h4 powered stepsDone h0 up) (cwV 1 hts (gV w_393 w_395 w_2 w_35 w_396) rfl rfl rfl (by decide +kernel) ⟨Nat.le_of_ble_eq_true rfl, Nat.le_of_ble_eq_true rfl⟩) (prev_of hK hP hD hS hA hE [0] rfl (by decide) (ci := 4) rfl 0 rfl _) rfl rfl hl.1 rfl (lv_room (Nat.le_of_ble_eq_true rfl)) dX4_door_2 ⟨Nat.le_of_ble_eq_true rfl, Nat.le_of_ble_eq_true rfl⟩) hP hD hS hA rfl rfl (by decide) (by decide) hQ (fun _ h9 => ⟨hG.trans (cx_l h9.1), (False.elim h9.2)⟩) hout hlk rfl (by decide) (Nat.le_of_ble_eq_true rfl) (Nat.le_of_ble_eq_true rfl) (fun u_ H locs hw_1 hP hD hS => ?_)
  have hw_1 : F_carOf_0 = .inr () := hw_1
  have hG := hG.trans (cx_r hw_1)
  have hP : va_P D vwCl [(h0, .inr (1, [.int wayToOther, .ref h1, .ref h2, .int place, .int speed, .int way, .int topSpeed, .int gain, .int brake, .int darkSpeed, .int rideSpeed, .int kilos, .int mostKilos, .int openContacts, .int fireFloor, .int ride, .int starts, .int distance, .int hardFalls])), (h1, .inr (2, [.int dstate, .int dplace, .int dplaces, .int dhold, .int dsteps, .int dbeam, .int dob, .int doc])), (k0, .inr (4, [.ref h4, .ref h0, up, .int powered, .int stepsDone]))] H := hP
  have hD : va_D A [(h0, .inr (1, [.int wayToOther, .ref h1, .ref h2, .int place, .int speed, .int way, .int topSpeed, .int gain, .int brake, .int darkSpeed, .int rideSpeed, .int kilos, .int mostKilos, .int openContacts, .int fireFloor, .int ride, .int starts, .int distance, .int hardFalls])), (h1, .inr (2, [.int dstate, .int dplace, .int dplaces, .int dhold, .int dsteps, .int dbeam, .int dob, .int doc])), (k0, .inr (4, [.ref h4, .ref h0, up, .int powered, .int stepsDone]))] := hD
  refine va_getN (D := D) (ci := 1) (v := .ref h1) (C := RX1) (T := TX1) (N := 19) hx hb hts inX1 hown hK hP 0 rfl rfl 1 (by decide) (nwF hE 12 rfl) (fun _ h9 => h9) rfl dX4_door_5 ?_
  refine lv_astore (lv' := [(4, .ref h1), (0, .ref k0), (1, .int 0), (2, .int p1), (3, .int p2)]) hx hb dX4_door_8 hl (by decide) rfl (fun ls hl => ?_)
  refine lv_iload_n hx hb dX4_door_10 rfl (lv_at hl 3 rfl) ?_
  refine lv_iconst (v := 1) hx hb dX4_door_11 (by decide) ?_
  refine lv_bipush (v := 50) hx hb dX4_door_12 (by decide) ?_
  refine my_xv (wr := [(h0, .inr (1, [.int wayToOther, .ref h1, .ref h2, .int place, .int speed, .int way, .int topSpeed, .int gain, .int brake, .int darkSpeed, .int rideSpeed, .int kilos, .int mostKilos, .int openContacts, .int fireFloor, .int ride, .int starts, .int distance, .int hardFalls])), (h1, .inr (2, [.int dstate, .int dplace, .int dplaces, .int dhold, .int dsteps, .int dbeam, .int dob, .int doc])), (k0, .inr (4, [.ref h4, .ref h0, up, .int powered, .int stepsDone]))]) [] [0, 1, 2] [2, 0, 1] (vx_runS (As := [.int p1, .int 1, .int 50]) (rest := []) ⟨hx, hb, hml, hown, hts⟩ (c_refuseOutside l hl9 D aI aL aZ _ p1 1 50) (va_cwS 3 hts (gS w_115 w_116 w_35 w_117) rfl rfl rfl (by decide +kernel) ⟨Nat.le_of_ble_eq_true rfl, Nat.le_of_ble_eq_true rfl⟩) (pre_of hK hP hD hS hA hE [] rfl (by decide) _) rfl rfl hl.1 rfl (lv_room (Nat.le_of_ble_eq_true rfl)) dX4_door_14 ⟨Nat.le_of_ble_eq_true rfl, Nat.le_of_ble_eq_true rfl⟩) hP hD hS hA rfl rfl (by decide) (by decide) hQ (fun _ h9 => ⟨hG.trans (cx_l h9.1), (Or.inl h9.2)⟩) hout hlk rfl (by decide) (Nat.le_of_ble_eq_true rfl) (Nat.le_of_ble_eq_true rfl) (fun u_ H locs hw_2 hP hD hS => ?_)
  have hw_2 : F_refuseOutside p1 1 50 = .inr () := hw_2
  have hG := hG.trans (cx_r hw_2)
  have hP : va_P D vwCl [(h0, .inr (1, [.int wayToOther, .ref h1, .ref h2, .int place, .int speed, .int way, .int topSpeed, .int gain, .int brake, .int darkSpeed, .int rideSpeed, .int kilos, .int mostKilos, .int openContacts, .int fireFloor, .int ride, .int starts, .int distance, .int hardFalls])), (h1, .inr (2, [.int dstate, .int dplace, .int dplaces, .int dhold, .int dsteps, .int dbeam, .int dob, .int doc])), (k0, .inr (4, [.ref h4, .ref h0, up, .int powered, .int stepsDone]))] H := hP
  have hD : va_D A [(h0, .inr (1, [.int wayToOther, .ref h1, .ref h2, .int place, .int speed, .int way, .int topSpeed, .int gain, .int brake, .int darkSpeed, .int rideSpeed, .int kilos, .int mostKilos, .int openContacts, .int fireFloor, .int ride, .int starts, .int distance, .int hardFalls])), (h1, .inr (2, [.int dstate, .int dplace, .int dplaces, .int dhold, .int dsteps, .int dbeam, .int dob, .int doc])), (k0, .inr (4, [.ref h4, .ref h0, up, .int powered, .int stepsDone]))] := hD
  refine lv_iload_n hx hb dX4_door_17 rfl (lv_at hl 4 rfl) ?_
  refine lv_iconst (v := 0) hx hb dX4_door_18 (by decide) ?_
  refine lv_sipush (v := 1000) hx hb dX4_door_19 (by decide) ?_
  refine my_xv (wr := [(h0, .inr (1, [.int wayToOther, .ref h1, .ref h2, .int place, .int speed, .int way, .int topSpeed, .int gain, .int brake, .int darkSpeed, .int rideSpeed, .int kilos, .int mostKilos, .int openContacts, .int fireFloor, .int ride, .int starts, .int distance, .int hardFalls])), (h1, .inr (2, [.int dstate, .int dplace, .int dplaces, .int dhold, .int dsteps, .int dbeam, .int dob, .int doc])), (k0, .inr (4, [.ref h4, .ref h0, up, .int powered, .int stepsDone]))]) [] [0, 1, 2] [2, 0, 1] (vx_runS (As := [.int p2, .int 0, .int 1000]) (rest := []) ⟨hx, hb, hml, hown, hts⟩ (c_refuseOutside l hl9 D aI aL aZ _ p2 0 1000) (va_cwS 3 hts (gS w_115 w_116 w_35 w_117) rfl rfl rfl (by decide +kernel) ⟨Nat.le_of_ble_eq_true rfl, Nat.le_of_ble_eq_true rfl⟩) (pre_of hK hP hD hS hA hE [] rfl (by decide) _) rfl rfl hl.1 rfl (lv_room (Nat.le_of_ble_eq_true rfl)) dX4_door_22 ⟨Nat.le_of_ble_eq_true rfl, Nat.le_of_ble_eq_true rfl⟩) hP hD hS hA rfl rfl (by decide) (by decide) hQ (fun _ h9 => ⟨hG.trans (cx_l h9.1), (Or.inl h9.2)⟩) hout hlk rfl (by decide) (Nat.le_of_ble_eq_true rfl) (Nat.le_of_ble_eq_true rfl) (fun u_ H locs hw_3 hP hD hS => ?_)
  have hw_3 : F_refuseOutside p2 0 1000 = .inr () := hw_3
  have hG := hG.trans (cx_r hw_3)
  have hP : va_P D vwCl [(h0, .inr (1, [.int wayToOther, .ref h1, .ref h2, .int place, .int speed, .int way, .int topSpeed, .int gain, .int brake, .int darkSpeed, .int rideSpeed, .int kilos, .int mostKilos, .int openContacts, .int fireFloor, .int ride, .int starts, .int distance, .int hardFalls])), (h1, .inr (2, [.int dstate, .int dplace, .int dplaces, .int dhold, .int dsteps, .int dbeam, .int dob, .int doc])), (k0, .inr (4, [.ref h4, .ref h0, up, .int powered, .int stepsDone]))] H := hP
  have hD : va_D A [(h0, .inr (1, [.int wayToOther, .ref h1, .ref h2, .int place, .int speed, .int way, .int topSpeed, .int gain, .int brake, .int darkSpeed, .int rideSpeed, .int kilos, .int mostKilos, .int openContacts, .int fireFloor, .int ride, .int starts, .int distance, .int hardFalls])), (h1, .inr (2, [.int dstate, .int dplace, .int dplaces, .int dhold, .int dsteps, .int dbeam, .int dob, .int doc])), (k0, .inr (4, [.ref h4, .ref h0, up, .int powered, .int stepsDone]))] := hD
  refine lv_aload hx hb dX4_door_25 (lv_at hl 0 rfl) ?_
  refine va_getN (D := D) (ci := 2) (v := .int dstate) (C := RX2) (T := TX2) (N := 8) hx hb hts inX2 hown hK hP 1 rfl rfl 0 (by decide) (nwF hE 2 rfl) (fun _ h9 => h9) rfl dX4_door_27 ?_
  refine lv_if_eq (tgt := 43) hx hb dX4_door_30 (by decide) (fun c_4 => ?_) (fun c_4 => ?_)
  · have hG := hG.trans (if_pos c_4)
    refine lv_aload hx hb dX4_door_43 (lv_at hl 0 rfl) ?_
    refine lv_iload_n hx hb dX4_door_45 rfl (lv_at hl 3 rfl) ?_
    refine va_putN (D := D) (ci := 2) (v := .int p1) (ty := .int) (C := RX2) (T := TX2) (N := 8) hx hb hts inX2 tyX2 tyX2_ok nmX2 hown hK hP hD hS 1 rfl rfl 2 (by decide) (nwF hE 5 rfl) (fun _ h9 => h9) rfl (by decide +kernel) rfl rfl (Nat.le_of_ble_eq_true rfl) dX4_door_46 (fun H locs hP hD hS => ?_)
    have hP : va_P D vwCl [(h0, .inr (1, [.int wayToOther, .ref h1, .ref h2, .int place, .int speed, .int way, .int topSpeed, .int gain, .int brake, .int darkSpeed, .int rideSpeed, .int kilos, .int mostKilos, .int openContacts, .int fireFloor, .int ride, .int starts, .int distance, .int hardFalls])), (h1, .inr (2, [.int dstate, .int dplace, .int p1, .int dhold, .int dsteps, .int dbeam, .int dob, .int doc])), (k0, .inr (4, [.ref h4, .ref h0, up, .int powered, .int stepsDone]))] H := hP
    have hD : va_D A [(h0, .inr (1, [.int wayToOther, .ref h1, .ref h2, .int place, .int speed, .int way, .int topSpeed, .int gain, .int brake, .int darkSpeed, .int rideSpeed, .int kilos, .int mostKilos, .int openContacts, .int fireFloor, .int ride, .int starts, .int distance, .int hardFalls])), (h1, .inr (2, [.int dstate, .int dplace, .int p1, .int dhold, .int dsteps, .int dbeam, .int dob, .int doc])), (k0, .inr (4, [.ref h4, .ref h0, up, .int powered, .int stepsDone]))] := hD
    refine lv_aload hx hb dX4_door_49 (lv_at hl 0 rfl) ?_
    refine lv_iload_n hx hb dX4_door_51 rfl (lv_at hl 4 rfl) ?_
    refine va_putN (D := D) (ci := 2) (v := .int p2) (ty := .int) (C := RX2) (T := TX2) (N := 8) hx hb hts inX2 tyX2 tyX2_ok nmX2 hown hK hP hD hS 1 rfl rfl 3 (by decide) (nwF hE 6 rfl) (fun _ h9 => h9) rfl (by decide +kernel) rfl rfl (Nat.le_of_ble_eq_true rfl) dX4_door_52 (fun H locs hP hD hS => ?_)
    have hP : va_P D vwCl [(h0, .inr (1, [.int wayToOther, .ref h1, .ref h2, .int place, .int speed, .int way, .int topSpeed, .int gain, .int brake, .int darkSpeed, .int rideSpeed, .int kilos, .int mostKilos, .int openContacts, .int fireFloor, .int ride, .int starts, .int distance, .int hardFalls])), (h1, .inr (2, [.int dstate, .int dplace, .int p1, .int p2, .int dsteps, .int dbeam, .int dob, .int doc])), (k0, .inr (4, [.ref h4, .ref h0, up, .int powered, .int stepsDone]))] H := hP
    have hD : va_D A [(h0, .inr (1, [.int wayToOther, .ref h1, .ref h2, .int place, .int speed, .int way, .int topSpeed, .int gain, .int brake, .int darkSpeed, .int rideSpeed, .int kilos, .int mostKilos, .int openContacts, .int fireFloor, .int ride, .int starts, .int distance, .int hardFalls])), (h1, .inr (2, [.int dstate, .int dplace, .int p1, .int p2, .int dsteps, .int dbeam, .int dob, .int doc])), (k0, .inr (4, [.ref h4, .ref h0, up, .int powered, .int stepsDone]))] := hD
    have hP := hP.sub (ws' := [(k0, .inr (4, [.ref h4, .ref h0, up, .int powered, .int stepsDone])), (h0, .inr (1, [.int wayToOther, .ref h1, .ref h2, .int place, .int speed, .int way, .int topSpeed, .int gain, .int brake, .int darkSpeed, .int rideSpeed, .int kilos, .int mostKilos, .int openContacts, .int fireFloor, .int ride, .int starts, .int distance, .int hardFalls])), (h1, .inr (2, [.int dstate, .int dplace, .int p1, .int p2, .int dsteps, .int dbeam, .int dob, .int doc]))]) [2, 0, 1] rfl
    have hD := hD.sub (ws' := [(k0, .inr (4, [.ref h4, .ref h0, up, .int powered, .int stepsDone])), (h0, .inr (1, [.int wayToOther, .ref h1, .ref h2, .int place, .int speed, .int way, .int topSpeed, .int gain, .int brake, .int darkSpeed, .int rideSpeed, .int kilos, .int mostKilos, .int openContacts, .int fireFloor, .int ride, .int starts, .int distance, .int hardFalls])), (h1, .inr (2, [.int dstate, .int dplace, .int p1, .int p2, .int dsteps, .int dbeam, .int dob, .int doc]))]) [2, 0, 1] (by decide) rfl
    exact rtx_v hQ hx hb hr () hG hP hD hS (Nat.le_of_ble_eq_true rfl) (Nat.le_of_ble_eq_true rfl) dX4_door_55 hlk
  · have hG := hG.trans (if_neg c_4)
    exact my_throw (own := RX4) (cls := "java/lang/IllegalStateException") (text := "the door is not closed") 2 [2, 0, 1] hx hb hl9 hown (by decide +kernel) (hts _ (mG w_190)) (hts _ (mG w_43)) 8 rfl mt_51 hts tb_X4_51 tg_X4_51 hE hS (hl.1.trans hml.symm) dX4_door_33 dX4_door_36 dX4_door_37 dX4_door_39 dX4_door_42 hout (Nat.le_of_ble_eq_true rfl) (Nat.le_of_ble_eq_true rfl) (Nat.le_of_ble_eq_true rfl) (Nat.le_of_ble_eq_true rfl) hlk hQ rfl ⟨hG, (Or.inr rfl)⟩ hP hD rfl (by decide) (Nat.le_of_ble_eq_true rfl) (Nat.le_of_ble_eq_true rfl)
def F_door_1 (dstate : Int32) (p1 : Int32) (p2 : Int32) : Int32 ⊕ Unit :=
  cx F_carOf_1 fun _ =>
    cx (F_refuseOutside p1 1 50) fun _ =>
      cx (F_refuseOutside p2 0 1000) fun _ =>
        if dstate = 0 then
          .inr ()
        else
          .inl 2
theorem F_door_1_u (dstate : Int32) (p1 : Int32) (p2 : Int32) : F_door_1 dstate p1 p2 =
  (cx F_carOf_1 fun _ =>
    cx (F_refuseOutside p1 1 50) fun _ =>
      cx (F_refuseOutside p2 0 1000) fun _ =>
        if dstate = 0 then
          .inr ()
        else
          .inl 2) := rfl
set_option maxHeartbeats 4000000 in
set_option maxRecDepth 100000 in
theorem c_door_1 (l : Launch) (hl9 : l.stackTraces = false) (D : va_G) (aI aL aZ : ClassId) (sz : Nat) (k0 : Nat) (h4 : Nat) (powered : Int32) (stepsDone : Int32) (lo : Value) (h0 : Nat) (h1 : Nat) (h2 : Nat) (wayToOther : Int32) (place : Int32) (speed : Int32) (way : Int32) (topSpeed : Int32) (gain : Int32) (brake : Int32) (darkSpeed : Int32) (rideSpeed : Int32) (kilos : Int32) (mostKilos : Int32) (openContacts : Int32) (fireFloor : Int32) (ride : Int32) (starts : Int32) (distance : Int32) (hardFalls : Int32) (dstate : Int32) (dplace : Int32) (dplaces : Int32) (dhold : Int32) (dsteps : Int32) (dbeam : Int32) (dob : Int32) (doc : Int32) (p1 : Int32) (p2 : Int32) : vx_Met l yX4_door (.code yX4_door cX4_door 5 none :: Gw) ({ frames := 7, cells := 3, slots := 18, locals := 114 }) (va_Pc [.ref k0, .int 1, .int p1, .int p2] (mpre D [(aI, .int), (aL, .long), (aZ, .boolean)] [(k0, .inr (4, [.ref h4, lo, .ref h0, .int powered, .int stepsDone])), (h0, .inr (1, [.int wayToOther, .ref h1, .ref h2, .int place, .int speed, .int way, .int topSpeed, .int gain, .int brake, .int darkSpeed, .int rideSpeed, .int kilos, .int mostKilos, .int openContacts, .int fireFloor, .int ride, .int starts, .int distance, .int hardFalls])), (h1, .inr (2, [.int dstate, .int dplace, .int dplaces, .int dhold, .int dsteps, .int dbeam, .int dob, .int doc]))] sz)) ((fun A : Nat → Prop => va_Qv (fun (u : Unit) => F_door_1 dstate p1 p2 = .inr ()) (mpst D A (fun (u : Unit) => [(k0, .inr (4, [.ref h4, lo, .ref h0, .int powered, .int stepsDone])), (h0, .inr (1, [.int wayToOther, .ref h1, .ref h2, .int place, .int speed, .int way, .int topSpeed, .int gain, .int brake, .int darkSpeed, .int rideSpeed, .int kilos, .int mostKilos, .int openContacts, .int fireFloor, .int ride, .int starts, .int distance, .int hardFalls])), (h1, .inr (2, [.int dstate, .int dplace, .int p1, .int p2, .int dsteps, .int dbeam, .int dob, .int doc]))])) A) (va_A ([(k0, .inr (4, [.ref h4, lo, .ref h0, .int powered, .int stepsDone])), (h0, .inr (1, [.int wayToOther, .ref h1, .ref h2, .int place, .int speed, .int way, .int topSpeed, .int gain, .int brake, .int darkSpeed, .int rideSpeed, .int kilos, .int mostKilos, .int openContacts, .int fireFloor, .int ride, .int starts, .int distance, .int hardFalls])), (h1, .inr (2, [.int dstate, .int dplace, .int dplaces, .int dhold, .int dsteps, .int dbeam, .int dob, .int doc]))]) sz)) ((fun A : Nat → Prop => vx_X (fun u : Int32 => F_door_1 dstate p1 p2 = .inl u ∧ (u = 1 ∨ u = 2)) (mpsx D A [(k0, .inr (4, [.ref h4, lo, .ref h0, .int powered, .int stepsDone])), (h0, .inr (1, [.int wayToOther, .ref h1, .ref h2, .int place, .int speed, .int way, .int topSpeed, .int gain, .int brake, .int darkSpeed, .int rideSpeed, .int kilos, .int mostKilos, .int openContacts, .int fireFloor, .int ride, .int starts, .int distance, .int hardFalls])), (h1, .inr (2, [.int dstate, .int dplace, .int dplaces, .int dhold, .int dsteps, .int dbeam, .int dob, .int doc]))]) A) (va_A ([(k0, .inr (4, [.ref h4, lo, .ref h0, .int powered, .int stepsDone])), (h0, .inr (1, [.int wayToOther, .ref h1, .ref h2, .int place, .int speed, .int way, .int topSpeed, .int gain, .int brake, .int darkSpeed, .int rideSpeed, .int kilos, .int mostKilos, .int openContacts, .int fireFloor, .int ride, .int starts, .int distance, .int hardFalls])), (h1, .inr (2, [.int dstate, .int dplace, .int dplaces, .int dhold, .int dsteps, .int dbeam, .int dob, .int doc]))]) sz)) 3 18 (va_A ([(k0, .inr (4, [.ref h4, lo, .ref h0, .int powered, .int stepsDone])), (h0, .inr (1, [.int wayToOther, .ref h1, .ref h2, .int place, .int speed, .int way, .int topSpeed, .int gain, .int brake, .int darkSpeed, .int rideSpeed, .int kilos, .int mostKilos, .int openContacts, .int fireFloor, .int ride, .int starts, .int distance, .int hardFalls])), (h1, .inr (2, [.int dstate, .int dplace, .int dplaces, .int dhold, .int dsteps, .int dbeam, .int dob, .int doc]))]) sz) := by
  refine enx (cc := cX4_door) (maxL := 5) (ret := none) (Qc := (fun A : Nat → Prop => va_Qv (fun (u : Unit) => F_door_1 dstate p1 p2 = .inr ()) (mpst D A (fun (u : Unit) => [(k0, .inr (4, [.ref h4, lo, .ref h0, .int powered, .int stepsDone])), (h0, .inr (1, [.int wayToOther, .ref h1, .ref h2, .int place, .int speed, .int way, .int topSpeed, .int gain, .int brake, .int darkSpeed, .int rideSpeed, .int kilos, .int mostKilos, .int openContacts, .int fireFloor, .int ride, .int starts, .int distance, .int hardFalls])), (h1, .inr (2, [.int dstate, .int dplace, .int p1, .int p2, .int dsteps, .int dbeam, .int dob, .int doc]))])) A)) (XC := (fun A : Nat → Prop => vx_X (fun u : Int32 => F_door_1 dstate p1 p2 = .inl u ∧ (u = 1 ∨ u = 2)) (mpsx D A [(k0, .inr (4, [.ref h4, lo, .ref h0, .int powered, .int stepsDone])), (h0, .inr (1, [.int wayToOther, .ref h1, .ref h2, .int place, .int speed, .int way, .int topSpeed, .int gain, .int brake, .int darkSpeed, .int rideSpeed, .int kilos, .int mostKilos, .int openContacts, .int fireFloor, .int ride, .int starts, .int distance, .int hardFalls])), (h1, .inr (2, [.int dstate, .int dplace, .int dplaces, .int dhold, .int dsteps, .int dbeam, .int dob, .int doc]))]) A)) (by decide) rfl (Nat.le_of_ble_eq_true rfl) ?_
  intro p e s m args below meth c A ls Q hQ hx hb hr hts hown hlk hnm hml hout hA hS hP hK hD hE hl
  have hown : s.vm.findClass RX4 = some m.cls := hown
  have hl : lv_has ls 5 [(0, .ref k0), (1, .int 1), (2, .int p1), (3, .int p2)] := hl
  have hG := F_door_1_u dstate p1 p2
  refine lv_aload_n hx hb dX4_door_0 rfl (lv_at hl 0 rfl) ?_
  refine lv_iload_n hx hb dX4_door_1 rfl (lv_at hl 1 rfl) ?_
  refine my_xr (wr := [(h0, .inr (1, [.int wayToOther, .ref h1, .ref h2, .int place, .int speed, .int way, .int topSpeed, .int gain, .int brake, .int darkSpeed, .int rideSpeed, .int kilos, .int mostKilos, .int openContacts, .int fireFloor, .int ride, .int starts, .int distance, .int hardFalls])), (h1, .inr (2, [.int dstate, .int dplace, .int dplaces, .int dhold, .int dsteps, .int dbeam, .int dob, .int doc]))]) [0] [1, 2] [2, 0, 1] (vx_runV (As := [.int 1]) (rest := []) ⟨hx, hb, hml, hown, hts⟩ (c_carOf_1 l hl9 D aI aL aZ _ k0 h4 powered stepsDone h0 lo) (cwV 1 hts (gV w_393 w_395 w_2 w_35 w_396) rfl rfl rfl (by decide +kernel) ⟨Nat.le_of_ble_eq_true rfl, Nat.le_of_ble_eq_true rfl⟩) (prev_of hK hP hD hS hA hE [0] rfl (by decide) (ci := 4) rfl 0 rfl _) rfl rfl hl.1 rfl (lv_room (Nat.le_of_ble_eq_true rfl)) dX4_door_2 ⟨Nat.le_of_ble_eq_true rfl, Nat.le_of_ble_eq_true rfl⟩) hP hD hS hA rfl rfl (by decide) (by decide) hQ (fun _ h9 => ⟨hG.trans (cx_l h9.1), (False.elim h9.2)⟩) hout hlk rfl (by decide) (Nat.le_of_ble_eq_true rfl) (Nat.le_of_ble_eq_true rfl) (fun u_ H locs hw_1 hP hD hS => ?_)
  have hw_1 : F_carOf_1 = .inr () := hw_1
  have hG := hG.trans (cx_r hw_1)
  have hP : va_P D vwCl [(h0, .inr (1, [.int wayToOther, .ref h1, .ref h2, .int place, .int speed, .int way, .int topSpeed, .int gain, .int brake, .int darkSpeed, .int rideSpeed, .int kilos, .int mostKilos, .int openContacts, .int fireFloor, .int ride, .int starts, .int distance, .int hardFalls])), (h1, .inr (2, [.int dstate, .int dplace, .int dplaces, .int dhold, .int dsteps, .int dbeam, .int dob, .int doc])), (k0, .inr (4, [.ref h4, lo, .ref h0, .int powered, .int stepsDone]))] H := hP
  have hD : va_D A [(h0, .inr (1, [.int wayToOther, .ref h1, .ref h2, .int place, .int speed, .int way, .int topSpeed, .int gain, .int brake, .int darkSpeed, .int rideSpeed, .int kilos, .int mostKilos, .int openContacts, .int fireFloor, .int ride, .int starts, .int distance, .int hardFalls])), (h1, .inr (2, [.int dstate, .int dplace, .int dplaces, .int dhold, .int dsteps, .int dbeam, .int dob, .int doc])), (k0, .inr (4, [.ref h4, lo, .ref h0, .int powered, .int stepsDone]))] := hD
  refine va_getN (D := D) (ci := 1) (v := .ref h1) (C := RX1) (T := TX1) (N := 19) hx hb hts inX1 hown hK hP 0 rfl rfl 1 (by decide) (nwF hE 12 rfl) (fun _ h9 => h9) rfl dX4_door_5 ?_
  refine lv_astore (lv' := [(4, .ref h1), (0, .ref k0), (1, .int 1), (2, .int p1), (3, .int p2)]) hx hb dX4_door_8 hl (by decide) rfl (fun ls hl => ?_)
  refine lv_iload_n hx hb dX4_door_10 rfl (lv_at hl 3 rfl) ?_
  refine lv_iconst (v := 1) hx hb dX4_door_11 (by decide) ?_
  refine lv_bipush (v := 50) hx hb dX4_door_12 (by decide) ?_
  refine my_xv (wr := [(h0, .inr (1, [.int wayToOther, .ref h1, .ref h2, .int place, .int speed, .int way, .int topSpeed, .int gain, .int brake, .int darkSpeed, .int rideSpeed, .int kilos, .int mostKilos, .int openContacts, .int fireFloor, .int ride, .int starts, .int distance, .int hardFalls])), (h1, .inr (2, [.int dstate, .int dplace, .int dplaces, .int dhold, .int dsteps, .int dbeam, .int dob, .int doc])), (k0, .inr (4, [.ref h4, lo, .ref h0, .int powered, .int stepsDone]))]) [] [0, 1, 2] [2, 0, 1] (vx_runS (As := [.int p1, .int 1, .int 50]) (rest := []) ⟨hx, hb, hml, hown, hts⟩ (c_refuseOutside l hl9 D aI aL aZ _ p1 1 50) (va_cwS 3 hts (gS w_115 w_116 w_35 w_117) rfl rfl rfl (by decide +kernel) ⟨Nat.le_of_ble_eq_true rfl, Nat.le_of_ble_eq_true rfl⟩) (pre_of hK hP hD hS hA hE [] rfl (by decide) _) rfl rfl hl.1 rfl (lv_room (Nat.le_of_ble_eq_true rfl)) dX4_door_14 ⟨Nat.le_of_ble_eq_true rfl, Nat.le_of_ble_eq_true rfl⟩) hP hD hS hA rfl rfl (by decide) (by decide) hQ (fun _ h9 => ⟨hG.trans (cx_l h9.1), (Or.inl h9.2)⟩) hout hlk rfl (by decide) (Nat.le_of_ble_eq_true rfl) (Nat.le_of_ble_eq_true rfl) (fun u_ H locs hw_2 hP hD hS => ?_)
  have hw_2 : F_refuseOutside p1 1 50 = .inr () := hw_2
  have hG := hG.trans (cx_r hw_2)
  have hP : va_P D vwCl [(h0, .inr (1, [.int wayToOther, .ref h1, .ref h2, .int place, .int speed, .int way, .int topSpeed, .int gain, .int brake, .int darkSpeed, .int rideSpeed, .int kilos, .int mostKilos, .int openContacts, .int fireFloor, .int ride, .int starts, .int distance, .int hardFalls])), (h1, .inr (2, [.int dstate, .int dplace, .int dplaces, .int dhold, .int dsteps, .int dbeam, .int dob, .int doc])), (k0, .inr (4, [.ref h4, lo, .ref h0, .int powered, .int stepsDone]))] H := hP
  have hD : va_D A [(h0, .inr (1, [.int wayToOther, .ref h1, .ref h2, .int place, .int speed, .int way, .int topSpeed, .int gain, .int brake, .int darkSpeed, .int rideSpeed, .int kilos, .int mostKilos, .int openContacts, .int fireFloor, .int ride, .int starts, .int distance, .int hardFalls])), (h1, .inr (2, [.int dstate, .int dplace, .int dplaces, .int dhold, .int dsteps, .int dbeam, .int dob, .int doc])), (k0, .inr (4, [.ref h4, lo, .ref h0, .int powered, .int stepsDone]))] := hD
  refine lv_iload_n hx hb dX4_door_17 rfl (lv_at hl 4 rfl) ?_
  refine lv_iconst (v := 0) hx hb dX4_door_18 (by decide) ?_
  refine lv_sipush (v := 1000) hx hb dX4_door_19 (by decide) ?_
  refine my_xv (wr := [(h0, .inr (1, [.int wayToOther, .ref h1, .ref h2, .int place, .int speed, .int way, .int topSpeed, .int gain, .int brake, .int darkSpeed, .int rideSpeed, .int kilos, .int mostKilos, .int openContacts, .int fireFloor, .int ride, .int starts, .int distance, .int hardFalls])), (h1, .inr (2, [.int dstate, .int dplace, .int dplaces, .int dhold, .int dsteps, .int dbeam, .int dob, .int doc])), (k0, .inr (4, [.ref h4, lo, .ref h0, .int powered, .int stepsDone]))]) [] [0, 1, 2] [2, 0, 1] (vx_runS (As := [.int p2, .int 0, .int 1000]) (rest := []) ⟨hx, hb, hml, hown, hts⟩ (c_refuseOutside l hl9 D aI aL aZ _ p2 0 1000) (va_cwS 3 hts (gS w_115 w_116 w_35 w_117) rfl rfl rfl (by decide +kernel) ⟨Nat.le_of_ble_eq_true rfl, Nat.le_of_ble_eq_true rfl⟩) (pre_of hK hP hD hS hA hE [] rfl (by decide) _) rfl rfl hl.1 rfl (lv_room (Nat.le_of_ble_eq_true rfl)) dX4_door_22 ⟨Nat.le_of_ble_eq_true rfl, Nat.le_of_ble_eq_true rfl⟩) hP hD hS hA rfl rfl (by decide) (by decide) hQ (fun _ h9 => ⟨hG.trans (cx_l h9.1), (Or.inl h9.2)⟩) hout hlk rfl (by decide) (Nat.le_of_ble_eq_true rfl) (Nat.le_of_ble_eq_true rfl) (fun u_ H locs hw_3 hP hD hS => ?_)
  have hw_3 : F_refuseOutside p2 0 1000 = .inr () := hw_3
  have hG := hG.trans (cx_r hw_3)
  have hP : va_P D vwCl [(h0, .inr (1, [.int wayToOther, .ref h1, .ref h2, .int place, .int speed, .int way, .int topSpeed, .int gain, .int brake, .int darkSpeed, .int rideSpeed, .int kilos, .int mostKilos, .int openContacts, .int fireFloor, .int ride, .int starts, .int distance, .int hardFalls])), (h1, .inr (2, [.int dstate, .int dplace, .int dplaces, .int dhold, .int dsteps, .int dbeam, .int dob, .int doc])), (k0, .inr (4, [.ref h4, lo, .ref h0, .int powered, .int stepsDone]))] H := hP
  have hD : va_D A [(h0, .inr (1, [.int wayToOther, .ref h1, .ref h2, .int place, .int speed, .int way, .int topSpeed, .int gain, .int brake, .int darkSpeed, .int rideSpeed, .int kilos, .int mostKilos, .int openContacts, .int fireFloor, .int ride, .int starts, .int distance, .int hardFalls])), (h1, .inr (2, [.int dstate, .int dplace, .int dplaces, .int dhold, .int dsteps, .int dbeam, .int dob, .int doc])), (k0, .inr (4, [.ref h4, lo, .ref h0, .int powered, .int stepsDone]))] := hD
  refine lv_aload hx hb dX4_door_25 (lv_at hl 0 rfl) ?_
  refine va_getN (D := D) (ci := 2) (v := .int dstate) (C := RX2) (T := TX2) (N := 8) hx hb hts inX2 hown hK hP 1 rfl rfl 0 (by decide) (nwF hE 2 rfl) (fun _ h9 => h9) rfl dX4_door_27 ?_
  refine lv_if_eq (tgt := 43) hx hb dX4_door_30 (by decide) (fun c_4 => ?_) (fun c_4 => ?_)
  · have hG := hG.trans (if_pos c_4)
    refine lv_aload hx hb dX4_door_43 (lv_at hl 0 rfl) ?_
    refine lv_iload_n hx hb dX4_door_45 rfl (lv_at hl 3 rfl) ?_
    refine va_putN (D := D) (ci := 2) (v := .int p1) (ty := .int) (C := RX2) (T := TX2) (N := 8) hx hb hts inX2 tyX2 tyX2_ok nmX2 hown hK hP hD hS 1 rfl rfl 2 (by decide) (nwF hE 5 rfl) (fun _ h9 => h9) rfl (by decide +kernel) rfl rfl (Nat.le_of_ble_eq_true rfl) dX4_door_46 (fun H locs hP hD hS => ?_)
    have hP : va_P D vwCl [(h0, .inr (1, [.int wayToOther, .ref h1, .ref h2, .int place, .int speed, .int way, .int topSpeed, .int gain, .int brake, .int darkSpeed, .int rideSpeed, .int kilos, .int mostKilos, .int openContacts, .int fireFloor, .int ride, .int starts, .int distance, .int hardFalls])), (h1, .inr (2, [.int dstate, .int dplace, .int p1, .int dhold, .int dsteps, .int dbeam, .int dob, .int doc])), (k0, .inr (4, [.ref h4, lo, .ref h0, .int powered, .int stepsDone]))] H := hP
    have hD : va_D A [(h0, .inr (1, [.int wayToOther, .ref h1, .ref h2, .int place, .int speed, .int way, .int topSpeed, .int gain, .int brake, .int darkSpeed, .int rideSpeed, .int kilos, .int mostKilos, .int openContacts, .int fireFloor, .int ride, .int starts, .int distance, .int hardFalls])), (h1, .inr (2, [.int dstate, .int dplace, .int p1, .int dhold, .int dsteps, .int dbeam, .int dob, .int doc])), (k0, .inr (4, [.ref h4, lo, .ref h0, .int powered, .int stepsDone]))] := hD
    refine lv_aload hx hb dX4_door_49 (lv_at hl 0 rfl) ?_
    refine lv_iload_n hx hb dX4_door_51 rfl (lv_at hl 4 rfl) ?_
    refine va_putN (D := D) (ci := 2) (v := .int p2) (ty := .int) (C := RX2) (T := TX2) (N := 8) hx hb hts inX2 tyX2 tyX2_ok nmX2 hown hK hP hD hS 1 rfl rfl 3 (by decide) (nwF hE 6 rfl) (fun _ h9 => h9) rfl (by decide +kernel) rfl rfl (Nat.le_of_ble_eq_true rfl) dX4_door_52 (fun H locs hP hD hS => ?_)
    have hP : va_P D vwCl [(h0, .inr (1, [.int wayToOther, .ref h1, .ref h2, .int place, .int speed, .int way, .int topSpeed, .int gain, .int brake, .int darkSpeed, .int rideSpeed, .int kilos, .int mostKilos, .int openContacts, .int fireFloor, .int ride, .int starts, .int distance, .int hardFalls])), (h1, .inr (2, [.int dstate, .int dplace, .int p1, .int p2, .int dsteps, .int dbeam, .int dob, .int doc])), (k0, .inr (4, [.ref h4, lo, .ref h0, .int powered, .int stepsDone]))] H := hP
    have hD : va_D A [(h0, .inr (1, [.int wayToOther, .ref h1, .ref h2, .int place, .int speed, .int way, .int topSpeed, .int gain, .int brake, .int darkSpeed, .int rideSpeed, .int kilos, .int mostKilos, .int openContacts, .int fireFloor, .int ride, .int starts, .int distance, .int hardFalls])), (h1, .inr (2, [.int dstate, .int dplace, .int p1, .int p2, .int dsteps, .int dbeam, .int dob, .int doc])), (k0, .inr (4, [.ref h4, lo, .ref h0, .int powered, .int stepsDone]))] := hD
    have hP := hP.sub (ws' := [(k0, .inr (4, [.ref h4, lo, .ref h0, .int powered, .int stepsDone])), (h0, .inr (1, [.int wayToOther, .ref h1, .ref h2, .int place, .int speed, .int way, .int topSpeed, .int gain, .int brake, .int darkSpeed, .int rideSpeed, .int kilos, .int mostKilos, .int openContacts, .int fireFloor, .int ride, .int starts, .int distance, .int hardFalls])), (h1, .inr (2, [.int dstate, .int dplace, .int p1, .int p2, .int dsteps, .int dbeam, .int dob, .int doc]))]) [2, 0, 1] rfl
    have hD := hD.sub (ws' := [(k0, .inr (4, [.ref h4, lo, .ref h0, .int powered, .int stepsDone])), (h0, .inr (1, [.int wayToOther, .ref h1, .ref h2, .int place, .int speed, .int way, .int topSpeed, .int gain, .int brake, .int darkSpeed, .int rideSpeed, .int kilos, .int mostKilos, .int openContacts, .int fireFloor, .int ride, .int starts, .int distance, .int hardFalls])), (h1, .inr (2, [.int dstate, .int dplace, .int p1, .int p2, .int dsteps, .int dbeam, .int dob, .int doc]))]) [2, 0, 1] (by decide) rfl
    exact rtx_v hQ hx hb hr () hG hP hD hS (Nat.le_of_ble_eq_true rfl) (Nat.le_of_ble_eq_true rfl) dX4_door_55 hlk
  · have hG := hG.trans (if_neg c_4)
    exact my_throw (own := RX4) (cls := "java/lang/IllegalStateException") (text := "the door is not closed") 2 [2, 0, 1] hx hb hl9 hown (by decide +kernel) (hts _ (mG w_190)) (hts _ (mG w_43)) 8 rfl mt_51 hts tb_X4_51 tg_X4_51 hE hS (hl.1.trans hml.symm) dX4_door_33 dX4_door_36 dX4_door_37 dX4_door_39 dX4_door_42 hout (Nat.le_of_ble_eq_true rfl) (Nat.le_of_ble_eq_true rfl) (Nat.le_of_ble_eq_true rfl) (Nat.le_of_ble_eq_true rfl) hlk hQ rfl ⟨hG, (Or.inr rfl)⟩ hP hD rfl (by decide) (Nat.le_of_ble_eq_true rfl) (Nat.le_of_ble_eq_true rfl)
def F_door_0n : Int32 ⊕ Unit :=
  cx F_carOf_0n fun _ =>
    .inl 0
theorem F_door_0n_u : F_door_0n =
  (cx F_carOf_0n fun _ =>
    .inl 0) := rfl
set_option maxHeartbeats 4000000 in
set_option maxRecDepth 100000 in
theorem c_door_0n (l : Launch) (hl9 : l.stackTraces = false) (D : va_G) (aI aL aZ : ClassId) (sz : Nat) (k0 : Nat) (h4 : Nat) (powered : Int32) (stepsDone : Int32) (up : Value) (p1 : Int32) (p2 : Int32) : vx_Met l yX4_door (.code yX4_door cX4_door 5 none :: Gw) ({ frames := 7, cells := 1, slots := 6, locals := 114 }) (va_Pc [.ref k0, .int 0, .int p1, .int p2] (mpre D [(aI, .int), (aL, .long), (aZ, .boolean)] [(k0, .inr (4, [.ref h4, .null, up, .int powered, .int stepsDone]))] sz)) ((fun A : Nat → Prop => va_Qv (fun (u : Unit) => False) (mpst D A (fun (u : Unit) => [(k0, .inr (4, [.ref h4, .null, up, .int powered, .int stepsDone]))])) A) (va_A ([(k0, .inr (4, [.ref h4, .null, up, .int powered, .int stepsDone]))]) sz)) ((fun A : Nat → Prop => vx_X (fun u : Int32 => F_door_0n = .inl u ∧ (u = 1)) (mpsx D A [(k0, .inr (4, [.ref h4, .null, up, .int powered, .int stepsDone]))]) A) (va_A ([(k0, .inr (4, [.ref h4, .null, up, .int powered, .int stepsDone]))]) sz)) 1 6 (va_A ([(k0, .inr (4, [.ref h4, .null, up, .int powered, .int stepsDone]))]) sz) := by
  refine enx (cc := cX4_door) (maxL := 5) (ret := none) (Qc := (fun A : Nat → Prop => va_Qv (fun (u : Unit) => False) (mpst D A (fun (u : Unit) => [(k0, .inr (4, [.ref h4, .null, up, .int powered, .int stepsDone]))])) A)) (XC := (fun A : Nat → Prop => vx_X (fun u : Int32 => F_door_0n = .inl u ∧ (u = 1)) (mpsx D A [(k0, .inr (4, [.ref h4, .null, up, .int powered, .int stepsDone]))]) A)) (by decide) rfl (Nat.le_of_ble_eq_true rfl) ?_
  intro p e s m args below meth c A ls Q hQ hx hb hr hts hown hlk hnm hml hout hA hS hP hK hD hE hl
  have hown : s.vm.findClass RX4 = some m.cls := hown
  have hl : lv_has ls 5 [(0, .ref k0), (1, .int 0), (2, .int p1), (3, .int p2)] := hl
  have hG := F_door_0n_u
  refine lv_aload_n hx hb dX4_door_0 rfl (lv_at hl 0 rfl) ?_
  refine lv_iload_n hx hb dX4_door_1 rfl (lv_at hl 1 rfl) ?_
  refine my_xr (wr := []) [0] [] [0] (vx_runV (As := [.int 0]) (rest := []) ⟨hx, hb, hml, hown, hts⟩ (c_carOf_0n l hl9 D aI aL aZ _ k0 h4 powered stepsDone up) (cwV 1 hts (gV w_393 w_395 w_2 w_35 w_396) rfl rfl rfl (by decide +kernel) ⟨Nat.le_of_ble_eq_true rfl, Nat.le_of_ble_eq_true rfl⟩) (prev_of hK hP hD hS hA hE [0] rfl (by decide) (ci := 4) rfl 0 rfl _) rfl rfl hl.1 rfl (lv_room (Nat.le_of_ble_eq_true rfl)) dX4_door_2 ⟨Nat.le_of_ble_eq_true rfl, Nat.le_of_ble_eq_true rfl⟩) hP hD hS hA rfl rfl (by decide) (by decide) hQ (fun _ h9 => ⟨hG.trans (cx_l h9.1), h9.2⟩) hout hlk rfl (by decide) (Nat.le_of_ble_eq_true rfl) (Nat.le_of_ble_eq_true rfl) (fun u_ H locs hw_1 hP hD hS => ?_)
  exact False.elim hw_1
def F_door_1n : Int32 ⊕ Unit :=
  cx F_carOf_1n fun _ =>
    .inl 0
theorem F_door_1n_u : F_door_1n =
  (cx F_carOf_1n fun _ =>
    .inl 0) := rfl
set_option maxHeartbeats 4000000 in
set_option maxRecDepth 100000 in
theorem c_door_1n (l : Launch) (hl9 : l.stackTraces = false) (D : va_G) (aI aL aZ : ClassId) (sz : Nat) (k0 : Nat) (h4 : Nat) (powered : Int32) (stepsDone : Int32) (lo : Value) (p1 : Int32) (p2 : Int32) : vx_Met l yX4_door (.code yX4_door cX4_door 5 none :: Gw) ({ frames := 7, cells := 1, slots := 6, locals := 114 }) (va_Pc [.ref k0, .int 1, .int p1, .int p2] (mpre D [(aI, .int), (aL, .long), (aZ, .boolean)] [(k0, .inr (4, [.ref h4, lo, .null, .int powered, .int stepsDone]))] sz)) ((fun A : Nat → Prop => va_Qv (fun (u : Unit) => False) (mpst D A (fun (u : Unit) => [(k0, .inr (4, [.ref h4, lo, .null, .int powered, .int stepsDone]))])) A) (va_A ([(k0, .inr (4, [.ref h4, lo, .null, .int powered, .int stepsDone]))]) sz)) ((fun A : Nat → Prop => vx_X (fun u : Int32 => F_door_1n = .inl u ∧ (u = 1)) (mpsx D A [(k0, .inr (4, [.ref h4, lo, .null, .int powered, .int stepsDone]))]) A) (va_A ([(k0, .inr (4, [.ref h4, lo, .null, .int powered, .int stepsDone]))]) sz)) 1 6 (va_A ([(k0, .inr (4, [.ref h4, lo, .null, .int powered, .int stepsDone]))]) sz) := by
  refine enx (cc := cX4_door) (maxL := 5) (ret := none) (Qc := (fun A : Nat → Prop => va_Qv (fun (u : Unit) => False) (mpst D A (fun (u : Unit) => [(k0, .inr (4, [.ref h4, lo, .null, .int powered, .int stepsDone]))])) A)) (XC := (fun A : Nat → Prop => vx_X (fun u : Int32 => F_door_1n = .inl u ∧ (u = 1)) (mpsx D A [(k0, .inr (4, [.ref h4, lo, .null, .int powered, .int stepsDone]))]) A)) (by decide) rfl (Nat.le_of_ble_eq_true rfl) ?_
  intro p e s m args below meth c A ls Q hQ hx hb hr hts hown hlk hnm hml hout hA hS hP hK hD hE hl
  have hown : s.vm.findClass RX4 = some m.cls := hown
  have hl : lv_has ls 5 [(0, .ref k0), (1, .int 1), (2, .int p1), (3, .int p2)] := hl
  have hG := F_door_1n_u
  refine lv_aload_n hx hb dX4_door_0 rfl (lv_at hl 0 rfl) ?_
  refine lv_iload_n hx hb dX4_door_1 rfl (lv_at hl 1 rfl) ?_
  refine my_xr (wr := []) [0] [] [0] (vx_runV (As := [.int 1]) (rest := []) ⟨hx, hb, hml, hown, hts⟩ (c_carOf_1n l hl9 D aI aL aZ _ k0 h4 powered stepsDone lo) (cwV 1 hts (gV w_393 w_395 w_2 w_35 w_396) rfl rfl rfl (by decide +kernel) ⟨Nat.le_of_ble_eq_true rfl, Nat.le_of_ble_eq_true rfl⟩) (prev_of hK hP hD hS hA hE [0] rfl (by decide) (ci := 4) rfl 0 rfl _) rfl rfl hl.1 rfl (lv_room (Nat.le_of_ble_eq_true rfl)) dX4_door_2 ⟨Nat.le_of_ble_eq_true rfl, Nat.le_of_ble_eq_true rfl⟩) hP hD hS hA rfl rfl (by decide) (by decide) hQ (fun _ h9 => ⟨hG.trans (cx_l h9.1), h9.2⟩) hout hlk rfl (by decide) (Nat.le_of_ble_eq_true rfl) (Nat.le_of_ble_eq_true rfl) (fun u_ H locs hw_1 hP hD hS => ?_)
  exact False.elim hw_1
def F_door_x : Int32 ⊕ Unit :=
  cx F_carOf_x fun _ =>
    .inl 0
theorem F_door_x_u : F_door_x =
  (cx F_carOf_x fun _ =>
    .inl 0) := rfl
set_option maxHeartbeats 4000000 in
set_option maxRecDepth 100000 in
theorem c_door_x (l : Launch) (hl9 : l.stackTraces = false) (D : va_G) (aI aL aZ : ClassId) (sz : Nat) (k0 : Nat) (h4 : Nat) (powered : Int32) (stepsDone : Int32) (lo : Value) (up : Value) (p0 : Int32) (p1 : Int32) (p2 : Int32) (h9 : ¬ p0 = 0) (h8 : ¬ p0 = 1) : vx_Met l yX4_door (.code yX4_door cX4_door 5 none :: Gw) ({ frames := 7, cells := 1, slots := 6, locals := 114 }) (va_Pc [.ref k0, .int p0, .int p1, .int p2] (mpre D [(aI, .int), (aL, .long), (aZ, .boolean)] [(k0, .inr (4, [.ref h4, lo, up, .int powered, .int stepsDone]))] sz)) ((fun A : Nat → Prop => va_Qv (fun (u : Unit) => False) (mpst D A (fun (u : Unit) => [(k0, .inr (4, [.ref h4, lo, up, .int powered, .int stepsDone]))])) A) (va_A ([(k0, .inr (4, [.ref h4, lo, up, .int powered, .int stepsDone]))]) sz)) ((fun A : Nat → Prop => vx_X (fun u : Int32 => F_door_x = .inl u ∧ (u = 1)) (mpsx D A [(k0, .inr (4, [.ref h4, lo, up, .int powered, .int stepsDone]))]) A) (va_A ([(k0, .inr (4, [.ref h4, lo, up, .int powered, .int stepsDone]))]) sz)) 1 6 (va_A ([(k0, .inr (4, [.ref h4, lo, up, .int powered, .int stepsDone]))]) sz) := by
  refine enx (cc := cX4_door) (maxL := 5) (ret := none) (Qc := (fun A : Nat → Prop => va_Qv (fun (u : Unit) => False) (mpst D A (fun (u : Unit) => [(k0, .inr (4, [.ref h4, lo, up, .int powered, .int stepsDone]))])) A)) (XC := (fun A : Nat → Prop => vx_X (fun u : Int32 => F_door_x = .inl u ∧ (u = 1)) (mpsx D A [(k0, .inr (4, [.ref h4, lo, up, .int powered, .int stepsDone]))]) A)) (by decide) rfl (Nat.le_of_ble_eq_true rfl) ?_
  intro p e s m args below meth c A ls Q hQ hx hb hr hts hown hlk hnm hml hout hA hS hP hK hD hE hl
  have hown : s.vm.findClass RX4 = some m.cls := hown
  have hl : lv_has ls 5 [(0, .ref k0), (1, .int p0), (2, .int p1), (3, .int p2)] := hl
  have hG := F_door_x_u
  refine lv_aload_n hx hb dX4_door_0 rfl (lv_at hl 0 rfl) ?_
  refine lv_iload_n hx hb dX4_door_1 rfl (lv_at hl 1 rfl) ?_
  refine my_xr (wr := []) [0] [] [0] (vx_runV (As := [.int p0]) (rest := []) ⟨hx, hb, hml, hown, hts⟩ (c_carOf_x l hl9 D aI aL aZ _ k0 h4 powered stepsDone lo up p0 h9 h8) (cwV 1 hts (gV w_393 w_395 w_2 w_35 w_396) rfl rfl rfl (by decide +kernel) ⟨Nat.le_of_ble_eq_true rfl, Nat.le_of_ble_eq_true rfl⟩) (prev_of hK hP hD hS hA hE [0] rfl (by decide) (ci := 4) rfl 0 rfl _) rfl rfl hl.1 rfl (lv_room (Nat.le_of_ble_eq_true rfl)) dX4_door_2 ⟨Nat.le_of_ble_eq_true rfl, Nat.le_of_ble_eq_true rfl⟩) hP hD hS hA rfl rfl (by decide) (by decide) hQ (fun _ h9 => ⟨hG.trans (cx_l h9.1), h9.2⟩) hout hlk rfl (by decide) (Nat.le_of_ble_eq_true rfl) (Nat.le_of_ble_eq_true rfl) (fun u_ H locs hw_1 hP hD hS => ?_)
  exact False.elim hw_1
theorem dX4_beam_0 : decode cX4_beam 0 = .ok (.aload_n 0, 1) := by decide +kernel
theorem dX4_beam_1 : decode cX4_beam 1 = .ok (.iload_n 1, 1) := by decide +kernel
theorem dX4_beam_2 : decode cX4_beam 2 = .ok (.invokevirtual 84, 3) := by decide +kernel
theorem dX4_beam_5 : decode cX4_beam 5 = .ok (.getfield 113, 3) := by decide +kernel
theorem dX4_beam_8 : decode cX4_beam 8 = .ok (.astore_n 3, 1) := by decide +kernel
theorem dX4_beam_9 : decode cX4_beam 9 = .ok (.aload_n 3, 1) := by decide +kernel
theorem dX4_beam_10 : decode cX4_beam 10 = .ok (.getfield 156, 3) := by decide +kernel
theorem dX4_beam_13 : decode cX4_beam 13 = .ok (.istore 4, 2) := by decide +kernel
theorem dX4_beam_15 : decode cX4_beam 15 = .ok (.aload_n 3, 1) := by decide +kernel
theorem dX4_beam_16 : decode cX4_beam 16 = .ok (.iload_n 2, 1) := by decide +kernel
theorem dX4_beam_17 : decode cX4_beam 17 = .ok (.putfield 156, 3) := by decide +kernel
theorem dX4_beam_20 : decode cX4_beam 20 = .ok (.iload 4, 2) := by decide +kernel
theorem dX4_beam_22 : decode cX4_beam 22 = .ok (.ireturn, 1) := by decide +kernel
def F_beam_0 (dbeam : Int32) : Int32 ⊕ Int32 :=
  cx F_carOf_0 fun _ =>
    .inr dbeam
theorem F_beam_0_u (dbeam : Int32) : F_beam_0 dbeam =
  (cx F_carOf_0 fun _ =>
    .inr dbeam) := rfl
set_option maxHeartbeats 4000000 in
set_option maxRecDepth 100000 in
theorem c_beam_0 (l : Launch) (hl9 : l.stackTraces = false) (D : va_G) (aI aL aZ : ClassId) (sz : Nat) (k0 : Nat) (h4 : Nat) (powered : Int32) (stepsDone : Int32) (up : Value) (h0 : Nat) (h1 : Nat) (h2 : Nat) (wayToOther : Int32) (place : Int32) (speed : Int32) (way : Int32) (topSpeed : Int32) (gain : Int32) (brake : Int32) (darkSpeed : Int32) (rideSpeed : Int32) (kilos : Int32) (mostKilos : Int32) (openContacts : Int32) (fireFloor : Int32) (ride : Int32) (starts : Int32) (distance : Int32) (hardFalls : Int32) (dstate : Int32) (dplace : Int32) (dplaces : Int32) (dhold : Int32) (dsteps : Int32) (dbeam : Int32) (dob : Int32) (doc : Int32) (p1 : Int32) (hp1 : nb p1) (hbm : nb dbeam) : vx_Met l yX4_beam (.code yX4_beam cX4_beam 5 (some .boolean) :: Gw) ({ frames := 1, cells := 0, slots := 0, locals := 22 }) (va_Pc [.ref k0, .int 0, .int p1] (mpre D [(aI, .int), (aL, .long), (aZ, .boolean)] [(k0, .inr (4, [.ref h4, .ref h0, up, .int powered, .int stepsDone])), (h0, .inr (1, [.int wayToOther, .ref h1, .ref h2, .int place, .int speed, .int way, .int topSpeed, .int gain, .int brake, .int darkSpeed, .int rideSpeed, .int kilos, .int mostKilos, .int openContacts, .int fireFloor, .int ride, .int starts, .int distance, .int hardFalls])), (h1, .inr (2, [.int dstate, .int dplace, .int dplaces, .int dhold, .int dsteps, .int dbeam, .int dob, .int doc]))] sz)) ((fun A : Nat → Prop => va_Qi (fun (r : Int32) (u : Unit) => F_beam_0 dbeam = .inr r ∧ nb r) (mpst D A (fun (u : Unit) => [(k0, .inr (4, [.ref h4, .ref h0, up, .int powered, .int stepsDone])), (h0, .inr (1, [.int wayToOther, .ref h1, .ref h2, .int place, .int speed, .int way, .int topSpeed, .int gain, .int brake, .int darkSpeed, .int rideSpeed, .int kilos, .int mostKilos, .int openContacts, .int fireFloor, .int ride, .int starts, .int distance, .int hardFalls])), (h1, .inr (2, [.int dstate, .int dplace, .int dplaces, .int dhold, .int dsteps, .int p1, .int dob, .int doc]))])) A) (va_A ([(k0, .inr (4, [.ref h4, .ref h0, up, .int powered, .int stepsDone])), (h0, .inr (1, [.int wayToOther, .ref h1, .ref h2, .int place, .int speed, .int way, .int topSpeed, .int gain, .int brake, .int darkSpeed, .int rideSpeed, .int kilos, .int mostKilos, .int openContacts, .int fireFloor, .int ride, .int starts, .int distance, .int hardFalls])), (h1, .inr (2, [.int dstate, .int dplace, .int dplaces, .int dhold, .int dsteps, .int dbeam, .int dob, .int doc]))]) sz)) ((fun A : Nat → Prop => vx_X (fun u : Int32 => F_beam_0 dbeam = .inl u ∧ (False)) (mpsx D A [(k0, .inr (4, [.ref h4, .ref h0, up, .int powered, .int stepsDone])), (h0, .inr (1, [.int wayToOther, .ref h1, .ref h2, .int place, .int speed, .int way, .int topSpeed, .int gain, .int brake, .int darkSpeed, .int rideSpeed, .int kilos, .int mostKilos, .int openContacts, .int fireFloor, .int ride, .int starts, .int distance, .int hardFalls])), (h1, .inr (2, [.int dstate, .int dplace, .int dplaces, .int dhold, .int dsteps, .int dbeam, .int dob, .int doc]))]) A) (va_A ([(k0, .inr (4, [.ref h4, .ref h0, up, .int powered, .int stepsDone])), (h0, .inr (1, [.int wayToOther, .ref h1, .ref h2, .int place, .int speed, .int way, .int topSpeed, .int gain, .int brake, .int darkSpeed, .int rideSpeed, .int kilos, .int mostKilos, .int openContacts, .int fireFloor, .int ride, .int starts, .int distance, .int hardFalls])), (h1, .inr (2, [.int dstate, .int dplace, .int dplaces, .int dhold, .int dsteps, .int dbeam, .int dob, .int doc]))]) sz)) 0 0 (va_A ([(k0, .inr (4, [.ref h4, .ref h0, up, .int powered, .int stepsDone])), (h0, .inr (1, [.int wayToOther, .ref h1, .ref h2, .int place, .int speed, .int way, .int topSpeed, .int gain, .int brake, .int darkSpeed, .int rideSpeed, .int kilos, .int mostKilos, .int openContacts, .int fireFloor, .int ride, .int starts, .int distance, .int hardFalls])), (h1, .inr (2, [.int dstate, .int dplace, .int dplaces, .int dhold, .int dsteps, .int dbeam, .int dob, .int doc]))]) sz) := by
  refine enx (cc := cX4_beam) (maxL := 5) (ret := (some .boolean)) (Qc := (fun A : Nat → Prop => va_Qi (fun (r : Int32) (u : Unit) => F_beam_0 dbeam = .inr r ∧ nb r) (mpst D A (fun (u : Unit) => [(k0, .inr (4, [.ref h4, .ref h0, up, .int powered, .int stepsDone])), (h0, .inr (1, [.int wayToOther, .ref h1, .ref h2, .int place, .int speed, .int way, .int topSpeed, .int gain, .int brake, .int darkSpeed, .int rideSpeed, .int kilos, .int mostKilos, .int openContacts, .int fireFloor, .int ride, .int starts, .int distance, .int hardFalls])), (h1, .inr (2, [.int dstate, .int dplace, .int dplaces, .int dhold, .int dsteps, .int p1, .int dob, .int doc]))])) A)) (XC := (fun A : Nat → Prop => vx_X (fun u : Int32 => F_beam_0 dbeam = .inl u ∧ (False)) (mpsx D A [(k0, .inr (4, [.ref h4, .ref h0, up, .int powered, .int stepsDone])), (h0, .inr (1, [.int wayToOther, .ref h1, .ref h2, .int place, .int speed, .int way, .int topSpeed, .int gain, .int brake, .int darkSpeed, .int rideSpeed, .int kilos, .int mostKilos, .int openContacts, .int fireFloor, .int ride, .int starts, .int distance, .int hardFalls])), (h1, .inr (2, [.int dstate, .int dplace, .int dplaces, .int dhold, .int dsteps, .int dbeam, .int dob, .int doc]))]) A)) (by decide) rfl (Nat.le_of_ble_eq_true rfl) ?_
  intro p e s m args below meth c A ls Q hQ hx hb hr hts hown hlk hnm hml hout hA hS hP hK hD hE hl
  have hown : s.vm.findClass RX4 = some m.cls := hown
  have hl : lv_has ls 5 [(0, .ref k0), (1, .int 0), (2, .int p1)] := hl
  have hG := F_beam_0_u dbeam
  refine lv_aload_n hx hb dX4_beam_0 rfl (lv_at hl 0 rfl) ?_
  refine lv_iload_n hx hb dX4_beam_1 rfl (lv_at hl 1 rfl) ?_
  refine my_xr (wr := [(h0, .inr (1, [.int wayToOther, .ref h1, .ref h2, .int place, .int speed, .int way, .int topSpeed, .int gain, .int brake, .int darkSpeed, .int rideSpeed, .int kilos, .int mostKilos, .int openContacts, .int fireFloor, .int ride, .int starts, .int distance, .int hardFalls])), (h1, .inr (2, [.int dstate, .int dplace, .int dplaces, .int dhold, .int dsteps, .int dbeam, .int dob, .int doc]))]) [0] [1, 2] [2, 0, 1] (vx_runV (As := [.int 0]) (rest := []) ⟨hx, hb, hml, hown, hts⟩ (c_carOf_0 l hl9 D aI aL aZ _ k0 h4 powered stepsDone h0 up) (cwV 1 hts (gV w_393 w_395 w_2 w_35 w_396) rfl rfl rfl (by decide +kernel) ⟨Nat.le_of_ble_eq_true rfl, Nat.le_of_ble_eq_true rfl⟩) (prev_of hK hP hD hS hA hE [0] rfl (by decide) (ci := 4) rfl 0 rfl _) rfl rfl hl.1 rfl (lv_room (Nat.le_of_ble_eq_true rfl)) dX4_beam_2 ⟨Nat.le_of_ble_eq_true rfl, Nat.le_of_ble_eq_true rfl⟩) hP hD hS hA rfl rfl (by decide) (by decide) hQ (fun _ h9 => ⟨hG.trans (cx_l h9.1), h9.2⟩) hout hlk rfl (by decide) (Nat.le_of_ble_eq_true rfl) (Nat.le_of_ble_eq_true rfl) (fun u_ H locs hw_1 hP hD hS => ?_)
  have hw_1 : F_carOf_0 = .inr () := hw_1
  have hG := hG.trans (cx_r hw_1)
  have hP : va_P D vwCl [(h0, .inr (1, [.int wayToOther, .ref h1, .ref h2, .int place, .int speed, .int way, .int topSpeed, .int gain, .int brake, .int darkSpeed, .int rideSpeed, .int kilos, .int mostKilos, .int openContacts, .int fireFloor, .int ride, .int starts, .int distance, .int hardFalls])), (h1, .inr (2, [.int dstate, .int dplace, .int dplaces, .int dhold, .int dsteps, .int dbeam, .int dob, .int doc])), (k0, .inr (4, [.ref h4, .ref h0, up, .int powered, .int stepsDone]))] H := hP
  have hD : va_D A [(h0, .inr (1, [.int wayToOther, .ref h1, .ref h2, .int place, .int speed, .int way, .int topSpeed, .int gain, .int brake, .int darkSpeed, .int rideSpeed, .int kilos, .int mostKilos, .int openContacts, .int fireFloor, .int ride, .int starts, .int distance, .int hardFalls])), (h1, .inr (2, [.int dstate, .int dplace, .int dplaces, .int dhold, .int dsteps, .int dbeam, .int dob, .int doc])), (k0, .inr (4, [.ref h4, .ref h0, up, .int powered, .int stepsDone]))] := hD
  refine va_getN (D := D) (ci := 1) (v := .ref h1) (C := RX1) (T := TX1) (N := 19) hx hb hts inX1 hown hK hP 0 rfl rfl 1 (by decide) (nwF hE 12 rfl) (fun _ h9 => h9) rfl dX4_beam_5 ?_
  refine lv_astore_n (lv' := [(3, .ref h1), (0, .ref k0), (1, .int 0), (2, .int p1)]) hx hb dX4_beam_8 rfl hl (by decide) rfl (fun ls hl => ?_)
  refine lv_aload_n hx hb dX4_beam_9 rfl (lv_at hl 0 rfl) ?_
  refine va_getN (D := D) (ci := 2) (v := .int dbeam) (C := RX2) (T := TX2) (N := 8) hx hb hts inX2 hown hK hP 1 rfl rfl 5 (by decide) (nwF hE 7 rfl) (fun _ h9 => h9) rfl dX4_beam_10 ?_
  refine lv_istore (lv' := [(4, .int dbeam), (3, .ref h1), (0, .ref k0), (1, .int 0), (2, .int p1)]) hx hb dX4_beam_13 hl (by decide) rfl (fun ls hl => ?_)
  refine lv_aload_n hx hb dX4_beam_15 rfl (lv_at hl 1 rfl) ?_
  refine lv_iload_n hx hb dX4_beam_16 rfl (lv_at hl 4 rfl) ?_
  refine va_putN (D := D) (ci := 2) (v := .int p1) (ty := .boolean) (C := RX2) (T := TX2) (N := 8) hx hb hts inX2 tyX2 tyX2_ok nmX2 hown hK hP hD hS 1 rfl rfl 5 (by decide) (nwF hE 7 rfl) (fun _ h9 => h9) rfl (by decide +kernel) (nb_n hp1) (nb_f hp1) (Nat.le_of_ble_eq_true rfl) dX4_beam_17 (fun H locs hP hD hS => ?_)
  have hP : va_P D vwCl [(h0, .inr (1, [.int wayToOther, .ref h1, .ref h2, .int place, .int speed, .int way, .int topSpeed, .int gain, .int brake, .int darkSpeed, .int rideSpeed, .int kilos, .int mostKilos, .int openContacts, .int fireFloor, .int ride, .int starts, .int distance, .int hardFalls])), (h1, .inr (2, [.int dstate, .int dplace, .int dplaces, .int dhold, .int dsteps, .int p1, .int dob, .int doc])), (k0, .inr (4, [.ref h4, .ref h0, up, .int powered, .int stepsDone]))] H := hP
  have hD : va_D A [(h0, .inr (1, [.int wayToOther, .ref h1, .ref h2, .int place, .int speed, .int way, .int topSpeed, .int gain, .int brake, .int darkSpeed, .int rideSpeed, .int kilos, .int mostKilos, .int openContacts, .int fireFloor, .int ride, .int starts, .int distance, .int hardFalls])), (h1, .inr (2, [.int dstate, .int dplace, .int dplaces, .int dhold, .int dsteps, .int p1, .int dob, .int doc])), (k0, .inr (4, [.ref h4, .ref h0, up, .int powered, .int stepsDone]))] := hD
  refine lv_iload hx hb dX4_beam_20 (lv_at hl 0 rfl) ?_
  have hP := hP.sub (ws' := [(k0, .inr (4, [.ref h4, .ref h0, up, .int powered, .int stepsDone])), (h0, .inr (1, [.int wayToOther, .ref h1, .ref h2, .int place, .int speed, .int way, .int topSpeed, .int gain, .int brake, .int darkSpeed, .int rideSpeed, .int kilos, .int mostKilos, .int openContacts, .int fireFloor, .int ride, .int starts, .int distance, .int hardFalls])), (h1, .inr (2, [.int dstate, .int dplace, .int dplaces, .int dhold, .int dsteps, .int p1, .int dob, .int doc]))]) [2, 0, 1] rfl
  have hD := hD.sub (ws' := [(k0, .inr (4, [.ref h4, .ref h0, up, .int powered, .int stepsDone])), (h0, .inr (1, [.int wayToOther, .ref h1, .ref h2, .int place, .int speed, .int way, .int topSpeed, .int gain, .int brake, .int darkSpeed, .int rideSpeed, .int kilos, .int mostKilos, .int openContacts, .int fireFloor, .int ride, .int starts, .int distance, .int hardFalls])), (h1, .inr (2, [.int dstate, .int dplace, .int dplaces, .int dhold, .int dsteps, .int p1, .int dob, .int doc]))]) [2, 0, 1] (by decide) rfl
  exact rtx_z hQ hx hb hr (nb_n hbm) () ⟨hG, hbm⟩ hP hD hS (Nat.le_of_ble_eq_true rfl) (Nat.le_of_ble_eq_true rfl) dX4_beam_22 hlk
def F_beam_1 (dbeam : Int32) : Int32 ⊕ Int32 :=
  cx F_carOf_1 fun _ =>
    .inr dbeam
theorem F_beam_1_u (dbeam : Int32) : F_beam_1 dbeam =
  (cx F_carOf_1 fun _ =>
    .inr dbeam) := rfl
set_option maxHeartbeats 4000000 in
set_option maxRecDepth 100000 in
theorem c_beam_1 (l : Launch) (hl9 : l.stackTraces = false) (D : va_G) (aI aL aZ : ClassId) (sz : Nat) (k0 : Nat) (h4 : Nat) (powered : Int32) (stepsDone : Int32) (lo : Value) (h0 : Nat) (h1 : Nat) (h2 : Nat) (wayToOther : Int32) (place : Int32) (speed : Int32) (way : Int32) (topSpeed : Int32) (gain : Int32) (brake : Int32) (darkSpeed : Int32) (rideSpeed : Int32) (kilos : Int32) (mostKilos : Int32) (openContacts : Int32) (fireFloor : Int32) (ride : Int32) (starts : Int32) (distance : Int32) (hardFalls : Int32) (dstate : Int32) (dplace : Int32) (dplaces : Int32) (dhold : Int32) (dsteps : Int32) (dbeam : Int32) (dob : Int32) (doc : Int32) (p1 : Int32) (hp1 : nb p1) (hbm : nb dbeam) : vx_Met l yX4_beam (.code yX4_beam cX4_beam 5 (some .boolean) :: Gw) ({ frames := 1, cells := 0, slots := 0, locals := 22 }) (va_Pc [.ref k0, .int 1, .int p1] (mpre D [(aI, .int), (aL, .long), (aZ, .boolean)] [(k0, .inr (4, [.ref h4, lo, .ref h0, .int powered, .int stepsDone])), (h0, .inr (1, [.int wayToOther, .ref h1, .ref h2, .int place, .int speed, .int way, .int topSpeed, .int gain, .int brake, .int darkSpeed, .int rideSpeed, .int kilos, .int mostKilos, .int openContacts, .int fireFloor, .int ride, .int starts, .int distance, .int hardFalls])), (h1, .inr (2, [.int dstate, .int dplace, .int dplaces, .int dhold, .int dsteps, .int dbeam, .int dob, .int doc]))] sz)) ((fun A : Nat → Prop => va_Qi (fun (r : Int32) (u : Unit) => F_beam_1 dbeam = .inr r ∧ nb r) (mpst D A (fun (u : Unit) => [(k0, .inr (4, [.ref h4, lo, .ref h0, .int powered, .int stepsDone])), (h0, .inr (1, [.int wayToOther, .ref h1, .ref h2, .int place, .int speed, .int way, .int topSpeed, .int gain, .int brake, .int darkSpeed, .int rideSpeed, .int kilos, .int mostKilos, .int openContacts, .int fireFloor, .int ride, .int starts, .int distance, .int hardFalls])), (h1, .inr (2, [.int dstate, .int dplace, .int dplaces, .int dhold, .int dsteps, .int p1, .int dob, .int doc]))])) A) (va_A ([(k0, .inr (4, [.ref h4, lo, .ref h0, .int powered, .int stepsDone])), (h0, .inr (1, [.int wayToOther, .ref h1, .ref h2, .int place, .int speed, .int way, .int topSpeed, .int gain, .int brake, .int darkSpeed, .int rideSpeed, .int kilos, .int mostKilos, .int openContacts, .int fireFloor, .int ride, .int starts, .int distance, .int hardFalls])), (h1, .inr (2, [.int dstate, .int dplace, .int dplaces, .int dhold, .int dsteps, .int dbeam, .int dob, .int doc]))]) sz)) ((fun A : Nat → Prop => vx_X (fun u : Int32 => F_beam_1 dbeam = .inl u ∧ (False)) (mpsx D A [(k0, .inr (4, [.ref h4, lo, .ref h0, .int powered, .int stepsDone])), (h0, .inr (1, [.int wayToOther, .ref h1, .ref h2, .int place, .int speed, .int way, .int topSpeed, .int gain, .int brake, .int darkSpeed, .int rideSpeed, .int kilos, .int mostKilos, .int openContacts, .int fireFloor, .int ride, .int starts, .int distance, .int hardFalls])), (h1, .inr (2, [.int dstate, .int dplace, .int dplaces, .int dhold, .int dsteps, .int dbeam, .int dob, .int doc]))]) A) (va_A ([(k0, .inr (4, [.ref h4, lo, .ref h0, .int powered, .int stepsDone])), (h0, .inr (1, [.int wayToOther, .ref h1, .ref h2, .int place, .int speed, .int way, .int topSpeed, .int gain, .int brake, .int darkSpeed, .int rideSpeed, .int kilos, .int mostKilos, .int openContacts, .int fireFloor, .int ride, .int starts, .int distance, .int hardFalls])), (h1, .inr (2, [.int dstate, .int dplace, .int dplaces, .int dhold, .int dsteps, .int dbeam, .int dob, .int doc]))]) sz)) 0 0 (va_A ([(k0, .inr (4, [.ref h4, lo, .ref h0, .int powered, .int stepsDone])), (h0, .inr (1, [.int wayToOther, .ref h1, .ref h2, .int place, .int speed, .int way, .int topSpeed, .int gain, .int brake, .int darkSpeed, .int rideSpeed, .int kilos, .int mostKilos, .int openContacts, .int fireFloor, .int ride, .int starts, .int distance, .int hardFalls])), (h1, .inr (2, [.int dstate, .int dplace, .int dplaces, .int dhold, .int dsteps, .int dbeam, .int dob, .int doc]))]) sz) := by
  refine enx (cc := cX4_beam) (maxL := 5) (ret := (some .boolean)) (Qc := (fun A : Nat → Prop => va_Qi (fun (r : Int32) (u : Unit) => F_beam_1 dbeam = .inr r ∧ nb r) (mpst D A (fun (u : Unit) => [(k0, .inr (4, [.ref h4, lo, .ref h0, .int powered, .int stepsDone])), (h0, .inr (1, [.int wayToOther, .ref h1, .ref h2, .int place, .int speed, .int way, .int topSpeed, .int gain, .int brake, .int darkSpeed, .int rideSpeed, .int kilos, .int mostKilos, .int openContacts, .int fireFloor, .int ride, .int starts, .int distance, .int hardFalls])), (h1, .inr (2, [.int dstate, .int dplace, .int dplaces, .int dhold, .int dsteps, .int p1, .int dob, .int doc]))])) A)) (XC := (fun A : Nat → Prop => vx_X (fun u : Int32 => F_beam_1 dbeam = .inl u ∧ (False)) (mpsx D A [(k0, .inr (4, [.ref h4, lo, .ref h0, .int powered, .int stepsDone])), (h0, .inr (1, [.int wayToOther, .ref h1, .ref h2, .int place, .int speed, .int way, .int topSpeed, .int gain, .int brake, .int darkSpeed, .int rideSpeed, .int kilos, .int mostKilos, .int openContacts, .int fireFloor, .int ride, .int starts, .int distance, .int hardFalls])), (h1, .inr (2, [.int dstate, .int dplace, .int dplaces, .int dhold, .int dsteps, .int dbeam, .int dob, .int doc]))]) A)) (by decide) rfl (Nat.le_of_ble_eq_true rfl) ?_
  intro p e s m args below meth c A ls Q hQ hx hb hr hts hown hlk hnm hml hout hA hS hP hK hD hE hl
  have hown : s.vm.findClass RX4 = some m.cls := hown
  have hl : lv_has ls 5 [(0, .ref k0), (1, .int 1), (2, .int p1)] := hl
  have hG := F_beam_1_u dbeam
  refine lv_aload_n hx hb dX4_beam_0 rfl (lv_at hl 0 rfl) ?_
  refine lv_iload_n hx hb dX4_beam_1 rfl (lv_at hl 1 rfl) ?_
  refine my_xr (wr := [(h0, .inr (1, [.int wayToOther, .ref h1, .ref h2, .int place, .int speed, .int way, .int topSpeed, .int gain, .int brake, .int darkSpeed, .int rideSpeed, .int kilos, .int mostKilos, .int openContacts, .int fireFloor, .int ride, .int starts, .int distance, .int hardFalls])), (h1, .inr (2, [.int dstate, .int dplace, .int dplaces, .int dhold, .int dsteps, .int dbeam, .int dob, .int doc]))]) [0] [1, 2] [2, 0, 1] (vx_runV (As := [.int 1]) (rest := []) ⟨hx, hb, hml, hown, hts⟩ (c_carOf_1 l hl9 D aI aL aZ _ k0 h4 powered stepsDone h0 lo) (cwV 1 hts (gV w_393 w_395 w_2 w_35 w_396) rfl rfl rfl (by decide +kernel) ⟨Nat.le_of_ble_eq_true rfl, Nat.le_of_ble_eq_true rfl⟩) (prev_of hK hP hD hS hA hE [0] rfl (by decide) (ci := 4) rfl 0 rfl _) rfl rfl hl.1 rfl (lv_room (Nat.le_of_ble_eq_true rfl)) dX4_beam_2 ⟨Nat.le_of_ble_eq_true rfl, Nat.le_of_ble_eq_true rfl⟩) hP hD hS hA rfl rfl (by decide) (by decide) hQ (fun _ h9 => ⟨hG.trans (cx_l h9.1), h9.2⟩) hout hlk rfl (by decide) (Nat.le_of_ble_eq_true rfl) (Nat.le_of_ble_eq_true rfl) (fun u_ H locs hw_1 hP hD hS => ?_)
  have hw_1 : F_carOf_1 = .inr () := hw_1
  have hG := hG.trans (cx_r hw_1)
  have hP : va_P D vwCl [(h0, .inr (1, [.int wayToOther, .ref h1, .ref h2, .int place, .int speed, .int way, .int topSpeed, .int gain, .int brake, .int darkSpeed, .int rideSpeed, .int kilos, .int mostKilos, .int openContacts, .int fireFloor, .int ride, .int starts, .int distance, .int hardFalls])), (h1, .inr (2, [.int dstate, .int dplace, .int dplaces, .int dhold, .int dsteps, .int dbeam, .int dob, .int doc])), (k0, .inr (4, [.ref h4, lo, .ref h0, .int powered, .int stepsDone]))] H := hP
  have hD : va_D A [(h0, .inr (1, [.int wayToOther, .ref h1, .ref h2, .int place, .int speed, .int way, .int topSpeed, .int gain, .int brake, .int darkSpeed, .int rideSpeed, .int kilos, .int mostKilos, .int openContacts, .int fireFloor, .int ride, .int starts, .int distance, .int hardFalls])), (h1, .inr (2, [.int dstate, .int dplace, .int dplaces, .int dhold, .int dsteps, .int dbeam, .int dob, .int doc])), (k0, .inr (4, [.ref h4, lo, .ref h0, .int powered, .int stepsDone]))] := hD
  refine va_getN (D := D) (ci := 1) (v := .ref h1) (C := RX1) (T := TX1) (N := 19) hx hb hts inX1 hown hK hP 0 rfl rfl 1 (by decide) (nwF hE 12 rfl) (fun _ h9 => h9) rfl dX4_beam_5 ?_
  refine lv_astore_n (lv' := [(3, .ref h1), (0, .ref k0), (1, .int 1), (2, .int p1)]) hx hb dX4_beam_8 rfl hl (by decide) rfl (fun ls hl => ?_)
  refine lv_aload_n hx hb dX4_beam_9 rfl (lv_at hl 0 rfl) ?_
  refine va_getN (D := D) (ci := 2) (v := .int dbeam) (C := RX2) (T := TX2) (N := 8) hx hb hts inX2 hown hK hP 1 rfl rfl 5 (by decide) (nwF hE 7 rfl) (fun _ h9 => h9) rfl dX4_beam_10 ?_
  refine lv_istore (lv' := [(4, .int dbeam), (3, .ref h1), (0, .ref k0), (1, .int 1), (2, .int p1)]) hx hb dX4_beam_13 hl (by decide) rfl (fun ls hl => ?_)
  refine lv_aload_n hx hb dX4_beam_15 rfl (lv_at hl 1 rfl) ?_
  refine lv_iload_n hx hb dX4_beam_16 rfl (lv_at hl 4 rfl) ?_
  refine va_putN (D := D) (ci := 2) (v := .int p1) (ty := .boolean) (C := RX2) (T := TX2) (N := 8) hx hb hts inX2 tyX2 tyX2_ok nmX2 hown hK hP hD hS 1 rfl rfl 5 (by decide) (nwF hE 7 rfl) (fun _ h9 => h9) rfl (by decide +kernel) (nb_n hp1) (nb_f hp1) (Nat.le_of_ble_eq_true rfl) dX4_beam_17 (fun H locs hP hD hS => ?_)
  have hP : va_P D vwCl [(h0, .inr (1, [.int wayToOther, .ref h1, .ref h2, .int place, .int speed, .int way, .int topSpeed, .int gain, .int brake, .int darkSpeed, .int rideSpeed, .int kilos, .int mostKilos, .int openContacts, .int fireFloor, .int ride, .int starts, .int distance, .int hardFalls])), (h1, .inr (2, [.int dstate, .int dplace, .int dplaces, .int dhold, .int dsteps, .int p1, .int dob, .int doc])), (k0, .inr (4, [.ref h4, lo, .ref h0, .int powered, .int stepsDone]))] H := hP
  have hD : va_D A [(h0, .inr (1, [.int wayToOther, .ref h1, .ref h2, .int place, .int speed, .int way, .int topSpeed, .int gain, .int brake, .int darkSpeed, .int rideSpeed, .int kilos, .int mostKilos, .int openContacts, .int fireFloor, .int ride, .int starts, .int distance, .int hardFalls])), (h1, .inr (2, [.int dstate, .int dplace, .int dplaces, .int dhold, .int dsteps, .int p1, .int dob, .int doc])), (k0, .inr (4, [.ref h4, lo, .ref h0, .int powered, .int stepsDone]))] := hD
  refine lv_iload hx hb dX4_beam_20 (lv_at hl 0 rfl) ?_
  have hP := hP.sub (ws' := [(k0, .inr (4, [.ref h4, lo, .ref h0, .int powered, .int stepsDone])), (h0, .inr (1, [.int wayToOther, .ref h1, .ref h2, .int place, .int speed, .int way, .int topSpeed, .int gain, .int brake, .int darkSpeed, .int rideSpeed, .int kilos, .int mostKilos, .int openContacts, .int fireFloor, .int ride, .int starts, .int distance, .int hardFalls])), (h1, .inr (2, [.int dstate, .int dplace, .int dplaces, .int dhold, .int dsteps, .int p1, .int dob, .int doc]))]) [2, 0, 1] rfl
  have hD := hD.sub (ws' := [(k0, .inr (4, [.ref h4, lo, .ref h0, .int powered, .int stepsDone])), (h0, .inr (1, [.int wayToOther, .ref h1, .ref h2, .int place, .int speed, .int way, .int topSpeed, .int gain, .int brake, .int darkSpeed, .int rideSpeed, .int kilos, .int mostKilos, .int openContacts, .int fireFloor, .int ride, .int starts, .int distance, .int hardFalls])), (h1, .inr (2, [.int dstate, .int dplace, .int dplaces, .int dhold, .int dsteps, .int p1, .int dob, .int doc]))]) [2, 0, 1] (by decide) rfl
  exact rtx_z hQ hx hb hr (nb_n hbm) () ⟨hG, hbm⟩ hP hD hS (Nat.le_of_ble_eq_true rfl) (Nat.le_of_ble_eq_true rfl) dX4_beam_22 hlk
def F_beam_0n : Int32 ⊕ Int32 :=
  cx F_carOf_0n fun _ =>
    .inl 0
theorem F_beam_0n_u : F_beam_0n =
  (cx F_carOf_0n fun _ =>
    .inl 0) := rfl
set_option maxHeartbeats 4000000 in
set_option maxRecDepth 100000 in
theorem c_beam_0n (l : Launch) (hl9 : l.stackTraces = false) (D : va_G) (aI aL aZ : ClassId) (sz : Nat) (k0 : Nat) (h4 : Nat) (powered : Int32) (stepsDone : Int32) (up : Value) (p1 : Int32) : vx_Met l yX4_beam (.code yX4_beam cX4_beam 5 (some .boolean) :: Gw) ({ frames := 7, cells := 1, slots := 6, locals := 114 }) (va_Pc [.ref k0, .int 0, .int p1] (mpre D [(aI, .int), (aL, .long), (aZ, .boolean)] [(k0, .inr (4, [.ref h4, .null, up, .int powered, .int stepsDone]))] sz)) ((fun A : Nat → Prop => va_Qi (fun (r : Int32) (u : Unit) => False) (mpst D A (fun (u : Unit) => [(k0, .inr (4, [.ref h4, .null, up, .int powered, .int stepsDone]))])) A) (va_A ([(k0, .inr (4, [.ref h4, .null, up, .int powered, .int stepsDone]))]) sz)) ((fun A : Nat → Prop => vx_X (fun u : Int32 => F_beam_0n = .inl u ∧ (u = 1)) (mpsx D A [(k0, .inr (4, [.ref h4, .null, up, .int powered, .int stepsDone]))]) A) (va_A ([(k0, .inr (4, [.ref h4, .null, up, .int powered, .int stepsDone]))]) sz)) 1 6 (va_A ([(k0, .inr (4, [.ref h4, .null, up, .int powered, .int stepsDone]))]) sz) := by
  refine enx (cc := cX4_beam) (maxL := 5) (ret := (some .boolean)) (Qc := (fun A : Nat → Prop => va_Qi (fun (r : Int32) (u : Unit) => False) (mpst D A (fun (u : Unit) => [(k0, .inr (4, [.ref h4, .null, up, .int powered, .int stepsDone]))])) A)) (XC := (fun A : Nat → Prop => vx_X (fun u : Int32 => F_beam_0n = .inl u ∧ (u = 1)) (mpsx D A [(k0, .inr (4, [.ref h4, .null, up, .int powered, .int stepsDone]))]) A)) (by decide) rfl (Nat.le_of_ble_eq_true rfl) ?_
  intro p e s m args below meth c A ls Q hQ hx hb hr hts hown hlk hnm hml hout hA hS hP hK hD hE hl
  have hown : s.vm.findClass RX4 = some m.cls := hown
  have hl : lv_has ls 5 [(0, .ref k0), (1, .int 0), (2, .int p1)] := hl
  have hG := F_beam_0n_u
  refine lv_aload_n hx hb dX4_beam_0 rfl (lv_at hl 0 rfl) ?_
  refine lv_iload_n hx hb dX4_beam_1 rfl (lv_at hl 1 rfl) ?_
  refine my_xr (wr := []) [0] [] [0] (vx_runV (As := [.int 0]) (rest := []) ⟨hx, hb, hml, hown, hts⟩ (c_carOf_0n l hl9 D aI aL aZ _ k0 h4 powered stepsDone up) (cwV 1 hts (gV w_393 w_395 w_2 w_35 w_396) rfl rfl rfl (by decide +kernel) ⟨Nat.le_of_ble_eq_true rfl, Nat.le_of_ble_eq_true rfl⟩) (prev_of hK hP hD hS hA hE [0] rfl (by decide) (ci := 4) rfl 0 rfl _) rfl rfl hl.1 rfl (lv_room (Nat.le_of_ble_eq_true rfl)) dX4_beam_2 ⟨Nat.le_of_ble_eq_true rfl, Nat.le_of_ble_eq_true rfl⟩) hP hD hS hA rfl rfl (by decide) (by decide) hQ (fun _ h9 => ⟨hG.trans (cx_l h9.1), h9.2⟩) hout hlk rfl (by decide) (Nat.le_of_ble_eq_true rfl) (Nat.le_of_ble_eq_true rfl) (fun u_ H locs hw_1 hP hD hS => ?_)
  exact False.elim hw_1
def F_beam_1n : Int32 ⊕ Int32 :=
  cx F_carOf_1n fun _ =>
    .inl 0
theorem F_beam_1n_u : F_beam_1n =
  (cx F_carOf_1n fun _ =>
    .inl 0) := rfl
set_option maxHeartbeats 4000000 in
set_option maxRecDepth 100000 in
theorem c_beam_1n (l : Launch) (hl9 : l.stackTraces = false) (D : va_G) (aI aL aZ : ClassId) (sz : Nat) (k0 : Nat) (h4 : Nat) (powered : Int32) (stepsDone : Int32) (lo : Value) (p1 : Int32) : vx_Met l yX4_beam (.code yX4_beam cX4_beam 5 (some .boolean) :: Gw) ({ frames := 7, cells := 1, slots := 6, locals := 114 }) (va_Pc [.ref k0, .int 1, .int p1] (mpre D [(aI, .int), (aL, .long), (aZ, .boolean)] [(k0, .inr (4, [.ref h4, lo, .null, .int powered, .int stepsDone]))] sz)) ((fun A : Nat → Prop => va_Qi (fun (r : Int32) (u : Unit) => False) (mpst D A (fun (u : Unit) => [(k0, .inr (4, [.ref h4, lo, .null, .int powered, .int stepsDone]))])) A) (va_A ([(k0, .inr (4, [.ref h4, lo, .null, .int powered, .int stepsDone]))]) sz)) ((fun A : Nat → Prop => vx_X (fun u : Int32 => F_beam_1n = .inl u ∧ (u = 1)) (mpsx D A [(k0, .inr (4, [.ref h4, lo, .null, .int powered, .int stepsDone]))]) A) (va_A ([(k0, .inr (4, [.ref h4, lo, .null, .int powered, .int stepsDone]))]) sz)) 1 6 (va_A ([(k0, .inr (4, [.ref h4, lo, .null, .int powered, .int stepsDone]))]) sz) := by
  refine enx (cc := cX4_beam) (maxL := 5) (ret := (some .boolean)) (Qc := (fun A : Nat → Prop => va_Qi (fun (r : Int32) (u : Unit) => False) (mpst D A (fun (u : Unit) => [(k0, .inr (4, [.ref h4, lo, .null, .int powered, .int stepsDone]))])) A)) (XC := (fun A : Nat → Prop => vx_X (fun u : Int32 => F_beam_1n = .inl u ∧ (u = 1)) (mpsx D A [(k0, .inr (4, [.ref h4, lo, .null, .int powered, .int stepsDone]))]) A)) (by decide) rfl (Nat.le_of_ble_eq_true rfl) ?_
  intro p e s m args below meth c A ls Q hQ hx hb hr hts hown hlk hnm hml hout hA hS hP hK hD hE hl
  have hown : s.vm.findClass RX4 = some m.cls := hown
  have hl : lv_has ls 5 [(0, .ref k0), (1, .int 1), (2, .int p1)] := hl
  have hG := F_beam_1n_u
  refine lv_aload_n hx hb dX4_beam_0 rfl (lv_at hl 0 rfl) ?_
  refine lv_iload_n hx hb dX4_beam_1 rfl (lv_at hl 1 rfl) ?_
  refine my_xr (wr := []) [0] [] [0] (vx_runV (As := [.int 1]) (rest := []) ⟨hx, hb, hml, hown, hts⟩ (c_carOf_1n l hl9 D aI aL aZ _ k0 h4 powered stepsDone lo) (cwV 1 hts (gV w_393 w_395 w_2 w_35 w_396) rfl rfl rfl (by decide +kernel) ⟨Nat.le_of_ble_eq_true rfl, Nat.le_of_ble_eq_true rfl⟩) (prev_of hK hP hD hS hA hE [0] rfl (by decide) (ci := 4) rfl 0 rfl _) rfl rfl hl.1 rfl (lv_room (Nat.le_of_ble_eq_true rfl)) dX4_beam_2 ⟨Nat.le_of_ble_eq_true rfl, Nat.le_of_ble_eq_true rfl⟩) hP hD hS hA rfl rfl (by decide) (by decide) hQ (fun _ h9 => ⟨hG.trans (cx_l h9.1), h9.2⟩) hout hlk rfl (by decide) (Nat.le_of_ble_eq_true rfl) (Nat.le_of_ble_eq_true rfl) (fun u_ H locs hw_1 hP hD hS => ?_)
  exact False.elim hw_1
def F_beam_x : Int32 ⊕ Int32 :=
  cx F_carOf_x fun _ =>
    .inl 0
theorem F_beam_x_u : F_beam_x =
  (cx F_carOf_x fun _ =>
    .inl 0) := rfl
set_option maxHeartbeats 4000000 in
set_option maxRecDepth 100000 in
theorem c_beam_x (l : Launch) (hl9 : l.stackTraces = false) (D : va_G) (aI aL aZ : ClassId) (sz : Nat) (k0 : Nat) (h4 : Nat) (powered : Int32) (stepsDone : Int32) (lo : Value) (up : Value) (p0 : Int32) (p1 : Int32) (h9 : ¬ p0 = 0) (h8 : ¬ p0 = 1) : vx_Met l yX4_beam (.code yX4_beam cX4_beam 5 (some .boolean) :: Gw) ({ frames := 7, cells := 1, slots := 6, locals := 114 }) (va_Pc [.ref k0, .int p0, .int p1] (mpre D [(aI, .int), (aL, .long), (aZ, .boolean)] [(k0, .inr (4, [.ref h4, lo, up, .int powered, .int stepsDone]))] sz)) ((fun A : Nat → Prop => va_Qi (fun (r : Int32) (u : Unit) => False) (mpst D A (fun (u : Unit) => [(k0, .inr (4, [.ref h4, lo, up, .int powered, .int stepsDone]))])) A) (va_A ([(k0, .inr (4, [.ref h4, lo, up, .int powered, .int stepsDone]))]) sz)) ((fun A : Nat → Prop => vx_X (fun u : Int32 => F_beam_x = .inl u ∧ (u = 1)) (mpsx D A [(k0, .inr (4, [.ref h4, lo, up, .int powered, .int stepsDone]))]) A) (va_A ([(k0, .inr (4, [.ref h4, lo, up, .int powered, .int stepsDone]))]) sz)) 1 6 (va_A ([(k0, .inr (4, [.ref h4, lo, up, .int powered, .int stepsDone]))]) sz) := by
  refine enx (cc := cX4_beam) (maxL := 5) (ret := (some .boolean)) (Qc := (fun A : Nat → Prop => va_Qi (fun (r : Int32) (u : Unit) => False) (mpst D A (fun (u : Unit) => [(k0, .inr (4, [.ref h4, lo, up, .int powered, .int stepsDone]))])) A)) (XC := (fun A : Nat → Prop => vx_X (fun u : Int32 => F_beam_x = .inl u ∧ (u = 1)) (mpsx D A [(k0, .inr (4, [.ref h4, lo, up, .int powered, .int stepsDone]))]) A)) (by decide) rfl (Nat.le_of_ble_eq_true rfl) ?_
  intro p e s m args below meth c A ls Q hQ hx hb hr hts hown hlk hnm hml hout hA hS hP hK hD hE hl
  have hown : s.vm.findClass RX4 = some m.cls := hown
  have hl : lv_has ls 5 [(0, .ref k0), (1, .int p0), (2, .int p1)] := hl
  have hG := F_beam_x_u
  refine lv_aload_n hx hb dX4_beam_0 rfl (lv_at hl 0 rfl) ?_
  refine lv_iload_n hx hb dX4_beam_1 rfl (lv_at hl 1 rfl) ?_
  refine my_xr (wr := []) [0] [] [0] (vx_runV (As := [.int p0]) (rest := []) ⟨hx, hb, hml, hown, hts⟩ (c_carOf_x l hl9 D aI aL aZ _ k0 h4 powered stepsDone lo up p0 h9 h8) (cwV 1 hts (gV w_393 w_395 w_2 w_35 w_396) rfl rfl rfl (by decide +kernel) ⟨Nat.le_of_ble_eq_true rfl, Nat.le_of_ble_eq_true rfl⟩) (prev_of hK hP hD hS hA hE [0] rfl (by decide) (ci := 4) rfl 0 rfl _) rfl rfl hl.1 rfl (lv_room (Nat.le_of_ble_eq_true rfl)) dX4_beam_2 ⟨Nat.le_of_ble_eq_true rfl, Nat.le_of_ble_eq_true rfl⟩) hP hD hS hA rfl rfl (by decide) (by decide) hQ (fun _ h9 => ⟨hG.trans (cx_l h9.1), h9.2⟩) hout hlk rfl (by decide) (Nat.le_of_ble_eq_true rfl) (Nat.le_of_ble_eq_true rfl) (fun u_ H locs hw_1 hP hD hS => ?_)
  exact False.elim hw_1
theorem dX4_load_0 : decode cX4_load 0 = .ok (.aload_n 0, 1) := by decide +kernel
theorem dX4_load_1 : decode cX4_load 1 = .ok (.iload_n 1, 1) := by decide +kernel
theorem dX4_load_2 : decode cX4_load 2 = .ok (.invokevirtual 84, 3) := by decide +kernel
theorem dX4_load_5 : decode cX4_load 5 = .ok (.astore_n 3, 1) := by decide +kernel
theorem dX4_load_6 : decode cX4_load 6 = .ok (.iload_n 2, 1) := by decide +kernel
theorem dX4_load_7 : decode cX4_load 7 = .ok (.iconst 0, 1) := by decide +kernel
theorem dX4_load_8 : decode cX4_load 8 = .ok (.sipush 10000, 3) := by decide +kernel
theorem dX4_load_11 : decode cX4_load 11 = .ok (.invokestatic 35, 3) := by decide +kernel
theorem dX4_load_14 : decode cX4_load 14 = .ok (.aload_n 3, 1) := by decide +kernel
theorem dX4_load_15 : decode cX4_load 15 = .ok (.getfield 165, 3) := by decide +kernel
theorem dX4_load_18 : decode cX4_load 18 = .ok (.istore 4, 2) := by decide +kernel
theorem dX4_load_20 : decode cX4_load 20 = .ok (.aload_n 3, 1) := by decide +kernel
theorem dX4_load_21 : decode cX4_load 21 = .ok (.iload_n 2, 1) := by decide +kernel
theorem dX4_load_22 : decode cX4_load 22 = .ok (.putfield 165, 3) := by decide +kernel
theorem dX4_load_25 : decode cX4_load 25 = .ok (.iload 4, 2) := by decide +kernel
theorem dX4_load_27 : decode cX4_load 27 = .ok (.ireturn, 1) := by decide +kernel
def F_load_0 (kilos : Int32) (p1 : Int32) : Int32 ⊕ Int32 :=
  cx F_carOf_0 fun _ =>
    cx (F_refuseOutside p1 0 10000) fun _ =>
      .inr kilos
theorem F_load_0_u (kilos : Int32) (p1 : Int32) : F_load_0 kilos p1 =
  (cx F_carOf_0 fun _ =>
    cx (F_refuseOutside p1 0 10000) fun _ =>
      .inr kilos) := rfl
set_option maxHeartbeats 4000000 in
set_option maxRecDepth 100000 in
theorem c_load_0 (l : Launch) (hl9 : l.stackTraces = false) (D : va_G) (aI aL aZ : ClassId) (sz : Nat) (k0 : Nat) (h4 : Nat) (powered : Int32) (stepsDone : Int32) (up : Value) (h0 : Nat) (h1 : Nat) (h2 : Nat) (wayToOther : Int32) (place : Int32) (speed : Int32) (way : Int32) (topSpeed : Int32) (gain : Int32) (brake : Int32) (darkSpeed : Int32) (rideSpeed : Int32) (kilos : Int32) (mostKilos : Int32) (openContacts : Int32) (fireFloor : Int32) (ride : Int32) (starts : Int32) (distance : Int32) (hardFalls : Int32) (p1 : Int32) : vx_Met l yX4_load (.code yX4_load cX4_load 5 (some .int) :: Gw) ({ frames := 7, cells := 1, slots := 6, locals := 114 }) (va_Pc [.ref k0, .int 0, .int p1] (mpre D [(aI, .int), (aL, .long), (aZ, .boolean)] [(k0, .inr (4, [.ref h4, .ref h0, up, .int powered, .int stepsDone])), (h0, .inr (1, [.int wayToOther, .ref h1, .ref h2, .int place, .int speed, .int way, .int topSpeed, .int gain, .int brake, .int darkSpeed, .int rideSpeed, .int kilos, .int mostKilos, .int openContacts, .int fireFloor, .int ride, .int starts, .int distance, .int hardFalls]))] sz)) ((fun A : Nat → Prop => va_Qi (fun (r : Int32) (u : Unit) => F_load_0 kilos p1 = .inr r) (mpst D A (fun (u : Unit) => [(k0, .inr (4, [.ref h4, .ref h0, up, .int powered, .int stepsDone])), (h0, .inr (1, [.int wayToOther, .ref h1, .ref h2, .int place, .int speed, .int way, .int topSpeed, .int gain, .int brake, .int darkSpeed, .int rideSpeed, .int p1, .int mostKilos, .int openContacts, .int fireFloor, .int ride, .int starts, .int distance, .int hardFalls]))])) A) (va_A ([(k0, .inr (4, [.ref h4, .ref h0, up, .int powered, .int stepsDone])), (h0, .inr (1, [.int wayToOther, .ref h1, .ref h2, .int place, .int speed, .int way, .int topSpeed, .int gain, .int brake, .int darkSpeed, .int rideSpeed, .int kilos, .int mostKilos, .int openContacts, .int fireFloor, .int ride, .int starts, .int distance, .int hardFalls]))]) sz)) ((fun A : Nat → Prop => vx_X (fun u : Int32 => F_load_0 kilos p1 = .inl u ∧ (u = 1)) (mpsx D A [(k0, .inr (4, [.ref h4, .ref h0, up, .int powered, .int stepsDone])), (h0, .inr (1, [.int wayToOther, .ref h1, .ref h2, .int place, .int speed, .int way, .int topSpeed, .int gain, .int brake, .int darkSpeed, .int rideSpeed, .int kilos, .int mostKilos, .int openContacts, .int fireFloor, .int ride, .int starts, .int distance, .int hardFalls]))]) A) (va_A ([(k0, .inr (4, [.ref h4, .ref h0, up, .int powered, .int stepsDone])), (h0, .inr (1, [.int wayToOther, .ref h1, .ref h2, .int place, .int speed, .int way, .int topSpeed, .int gain, .int brake, .int darkSpeed, .int rideSpeed, .int kilos, .int mostKilos, .int openContacts, .int fireFloor, .int ride, .int starts, .int distance, .int hardFalls]))]) sz)) 1 6 (va_A ([(k0, .inr (4, [.ref h4, .ref h0, up, .int powered, .int stepsDone])), (h0, .inr (1, [.int wayToOther, .ref h1, .ref h2, .int place, .int speed, .int way, .int topSpeed, .int gain, .int brake, .int darkSpeed, .int rideSpeed, .int kilos, .int mostKilos, .int openContacts, .int fireFloor, .int ride, .int starts, .int distance, .int hardFalls]))]) sz) := by
  refine enx (cc := cX4_load) (maxL := 5) (ret := (some .int)) (Qc := (fun A : Nat → Prop => va_Qi (fun (r : Int32) (u : Unit) => F_load_0 kilos p1 = .inr r) (mpst D A (fun (u : Unit) => [(k0, .inr (4, [.ref h4, .ref h0, up, .int powered, .int stepsDone])), (h0, .inr (1, [.int wayToOther, .ref h1, .ref h2, .int place, .int speed, .int way, .int topSpeed, .int gain, .int brake, .int darkSpeed, .int rideSpeed, .int p1, .int mostKilos, .int openContacts, .int fireFloor, .int ride, .int starts, .int distance, .int hardFalls]))])) A)) (XC := (fun A : Nat → Prop => vx_X (fun u : Int32 => F_load_0 kilos p1 = .inl u ∧ (u = 1)) (mpsx D A [(k0, .inr (4, [.ref h4, .ref h0, up, .int powered, .int stepsDone])), (h0, .inr (1, [.int wayToOther, .ref h1, .ref h2, .int place, .int speed, .int way, .int topSpeed, .int gain, .int brake, .int darkSpeed, .int rideSpeed, .int kilos, .int mostKilos, .int openContacts, .int fireFloor, .int ride, .int starts, .int distance, .int hardFalls]))]) A)) (by decide) rfl (Nat.le_of_ble_eq_true rfl) ?_
  intro p e s m args below meth c A ls Q hQ hx hb hr hts hown hlk hnm hml hout hA hS hP hK hD hE hl
  have hown : s.vm.findClass RX4 = some m.cls := hown
  have hl : lv_has ls 5 [(0, .ref k0), (1, .int 0), (2, .int p1)] := hl
  have hG := F_load_0_u kilos p1
  refine lv_aload_n hx hb dX4_load_0 rfl (lv_at hl 0 rfl) ?_
  refine lv_iload_n hx hb dX4_load_1 rfl (lv_at hl 1 rfl) ?_
  refine my_xr (wr := [(h0, .inr (1, [.int wayToOther, .ref h1, .ref h2, .int place, .int speed, .int way, .int topSpeed, .int gain, .int brake, .int darkSpeed, .int rideSpeed, .int kilos, .int mostKilos, .int openContacts, .int fireFloor, .int ride, .int starts, .int distance, .int hardFalls]))]) [0] [1] [1, 0] (vx_runV (As := [.int 0]) (rest := []) ⟨hx, hb, hml, hown, hts⟩ (c_carOf_0 l hl9 D aI aL aZ _ k0 h4 powered stepsDone h0 up) (cwV 1 hts (gV w_393 w_395 w_2 w_35 w_396) rfl rfl rfl (by decide +kernel) ⟨Nat.le_of_ble_eq_true rfl, Nat.le_of_ble_eq_true rfl⟩) (prev_of hK hP hD hS hA hE [0] rfl (by decide) (ci := 4) rfl 0 rfl _) rfl rfl hl.1 rfl (lv_room (Nat.le_of_ble_eq_true rfl)) dX4_load_2 ⟨Nat.le_of_ble_eq_true rfl, Nat.le_of_ble_eq_true rfl⟩) hP hD hS hA rfl rfl (by decide) (by decide) hQ (fun _ h9 => ⟨hG.trans (cx_l h9.1), (False.elim h9.2)⟩) hout hlk rfl (by decide) (Nat.le_of_ble_eq_true rfl) (Nat.le_of_ble_eq_true rfl) (fun u_ H locs hw_1 hP hD hS => ?_)
  have hw_1 : F_carOf_0 = .inr () := hw_1
  have hG := hG.trans (cx_r hw_1)
  have hP : va_P D vwCl [(h0, .inr (1, [.int wayToOther, .ref h1, .ref h2, .int place, .int speed, .int way, .int topSpeed, .int gain, .int brake, .int darkSpeed, .int rideSpeed, .int kilos, .int mostKilos, .int openContacts, .int fireFloor, .int ride, .int starts, .int distance, .int hardFalls])), (k0, .inr (4, [.ref h4, .ref h0, up, .int powered, .int stepsDone]))] H := hP
  have hD : va_D A [(h0, .inr (1, [.int wayToOther, .ref h1, .ref h2, .int place, .int speed, .int way, .int topSpeed, .int gain, .int brake, .int darkSpeed, .int rideSpeed, .int kilos, .int mostKilos, .int openContacts, .int fireFloor, .int ride, .int starts, .int distance, .int hardFalls])), (k0, .inr (4, [.ref h4, .ref h0, up, .int powered, .int stepsDone]))] := hD
  refine lv_astore_n (lv' := [(3, .ref h0), (0, .ref k0), (1, .int 0), (2, .int p1)]) hx hb dX4_load_5 rfl hl (by decide) rfl (fun ls hl => ?_)
  refine lv_iload_n hx hb dX4_load_6 rfl (lv_at hl 3 rfl) ?_
  refine lv_iconst (v := 0) hx hb dX4_load_7 (by decide) ?_
  refine lv_sipush (v := 10000) hx hb dX4_load_8 (by decide) ?_
  refine my_xv (wr := [(h0, .inr (1, [.int wayToOther, .ref h1, .ref h2, .int place, .int speed, .int way, .int topSpeed, .int gain, .int brake, .int darkSpeed, .int rideSpeed, .int kilos, .int mostKilos, .int openContacts, .int fireFloor, .int ride, .int starts, .int distance, .int hardFalls])), (k0, .inr (4, [.ref h4, .ref h0, up, .int powered, .int stepsDone]))]) [] [0, 1] [1, 0] (vx_runS (As := [.int p1, .int 0, .int 10000]) (rest := []) ⟨hx, hb, hml, hown, hts⟩ (c_refuseOutside l hl9 D aI aL aZ _ p1 0 10000) (va_cwS 3 hts (gS w_115 w_116 w_35 w_117) rfl rfl rfl (by decide +kernel) ⟨Nat.le_of_ble_eq_true rfl, Nat.le_of_ble_eq_true rfl⟩) (pre_of hK hP hD hS hA hE [] rfl (by decide) _) rfl rfl hl.1 rfl (lv_room (Nat.le_of_ble_eq_true rfl)) dX4_load_11 ⟨Nat.le_of_ble_eq_true rfl, Nat.le_of_ble_eq_true rfl⟩) hP hD hS hA rfl rfl (by decide) (by decide) hQ (fun _ h9 => ⟨hG.trans (cx_l h9.1), h9.2⟩) hout hlk rfl (by decide) (Nat.le_of_ble_eq_true rfl) (Nat.le_of_ble_eq_true rfl) (fun u_ H locs hw_2 hP hD hS => ?_)
  have hw_2 : F_refuseOutside p1 0 10000 = .inr () := hw_2
  have hG := hG.trans (cx_r hw_2)
  have hP : va_P D vwCl [(h0, .inr (1, [.int wayToOther, .ref h1, .ref h2, .int place, .int speed, .int way, .int topSpeed, .int gain, .int brake, .int darkSpeed, .int rideSpeed, .int kilos, .int mostKilos, .int openContacts, .int fireFloor, .int ride, .int starts, .int distance, .int hardFalls])), (k0, .inr (4, [.ref h4, .ref h0, up, .int powered, .int stepsDone]))] H := hP
  have hD : va_D A [(h0, .inr (1, [.int wayToOther, .ref h1, .ref h2, .int place, .int speed, .int way, .int topSpeed, .int gain, .int brake, .int darkSpeed, .int rideSpeed, .int kilos, .int mostKilos, .int openContacts, .int fireFloor, .int ride, .int starts, .int distance, .int hardFalls])), (k0, .inr (4, [.ref h4, .ref h0, up, .int powered, .int stepsDone]))] := hD
  refine lv_aload_n hx hb dX4_load_14 rfl (lv_at hl 0 rfl) ?_
  refine va_getN (D := D) (ci := 1) (v := .int kilos) (C := RX1) (T := TX1) (N := 19) hx hb hts inX1 hown hK hP 0 rfl rfl 11 (by decide) (nwF hE 22 rfl) (fun _ h9 => h9) rfl dX4_load_15 ?_
  refine lv_istore (lv' := [(4, .int kilos), (3, .ref h0), (0, .ref k0), (1, .int 0), (2, .int p1)]) hx hb dX4_load_18 hl (by decide) rfl (fun ls hl => ?_)
  refine lv_aload_n hx hb dX4_load_20 rfl (lv_at hl 1 rfl) ?_
  refine lv_iload_n hx hb dX4_load_21 rfl (lv_at hl 4 rfl) ?_
  refine va_putN (D := D) (ci := 1) (v := .int p1) (ty := .int) (C := RX1) (T := TX1) (N := 19) hx hb hts inX1 tyX1 tyX1_ok nmX1 hown hK hP hD hS 0 rfl rfl 11 (by decide) (nwF hE 22 rfl) (fun _ h9 => h9) rfl (by decide +kernel) rfl rfl (Nat.le_of_ble_eq_true rfl) dX4_load_22 (fun H locs hP hD hS => ?_)
  have hP : va_P D vwCl [(h0, .inr (1, [.int wayToOther, .ref h1, .ref h2, .int place, .int speed, .int way, .int topSpeed, .int gain, .int brake, .int darkSpeed, .int rideSpeed, .int p1, .int mostKilos, .int openContacts, .int fireFloor, .int ride, .int starts, .int distance, .int hardFalls])), (k0, .inr (4, [.ref h4, .ref h0, up, .int powered, .int stepsDone]))] H := hP
  have hD : va_D A [(h0, .inr (1, [.int wayToOther, .ref h1, .ref h2, .int place, .int speed, .int way, .int topSpeed, .int gain, .int brake, .int darkSpeed, .int rideSpeed, .int p1, .int mostKilos, .int openContacts, .int fireFloor, .int ride, .int starts, .int distance, .int hardFalls])), (k0, .inr (4, [.ref h4, .ref h0, up, .int powered, .int stepsDone]))] := hD
  refine lv_iload hx hb dX4_load_25 (lv_at hl 0 rfl) ?_
  have hP := hP.sub (ws' := [(k0, .inr (4, [.ref h4, .ref h0, up, .int powered, .int stepsDone])), (h0, .inr (1, [.int wayToOther, .ref h1, .ref h2, .int place, .int speed, .int way, .int topSpeed, .int gain, .int brake, .int darkSpeed, .int rideSpeed, .int p1, .int mostKilos, .int openContacts, .int fireFloor, .int ride, .int starts, .int distance, .int hardFalls]))]) [1, 0] rfl
  have hD := hD.sub (ws' := [(k0, .inr (4, [.ref h4, .ref h0, up, .int powered, .int stepsDone])), (h0, .inr (1, [.int wayToOther, .ref h1, .ref h2, .int place, .int speed, .int way, .int topSpeed, .int gain, .int brake, .int darkSpeed, .int rideSpeed, .int p1, .int mostKilos, .int openContacts, .int fireFloor, .int ride, .int starts, .int distance, .int hardFalls]))]) [1, 0] (by decide) rfl
  exact rtx_i hQ hx hb hr () hG hP hD hS (Nat.le_of_ble_eq_true rfl) (Nat.le_of_ble_eq_true rfl) dX4_load_27 hlk
def F_load_1 (kilos : Int32) (p1 : Int32) : Int32 ⊕ Int32 :=
  cx F_carOf_1 fun _ =>
    cx (F_refuseOutside p1 0 10000) fun _ =>
      .inr kilos
theorem F_load_1_u (kilos : Int32) (p1 : Int32) : F_load_1 kilos p1 =
  (cx F_carOf_1 fun _ =>
    cx (F_refuseOutside p1 0 10000) fun _ =>
      .inr kilos) := rfl
set_option maxHeartbeats 4000000 in
set_option maxRecDepth 100000 in
theorem c_load_1 (l : Launch) (hl9 : l.stackTraces = false) (D : va_G) (aI aL aZ : ClassId) (sz : Nat) (k0 : Nat) (h4 : Nat) (powered : Int32) (stepsDone : Int32) (lo : Value) (h0 : Nat) (h1 : Nat) (h2 : Nat) (wayToOther : Int32) (place : Int32) (speed : Int32) (way : Int32) (topSpeed : Int32) (gain : Int32) (brake : Int32) (darkSpeed : Int32) (rideSpeed : Int32) (kilos : Int32) (mostKilos : Int32) (openContacts : Int32) (fireFloor : Int32) (ride : Int32) (starts : Int32) (distance : Int32) (hardFalls : Int32) (p1 : Int32) : vx_Met l yX4_load (.code yX4_load cX4_load 5 (some .int) :: Gw) ({ frames := 7, cells := 1, slots := 6, locals := 114 }) (va_Pc [.ref k0, .int 1, .int p1] (mpre D [(aI, .int), (aL, .long), (aZ, .boolean)] [(k0, .inr (4, [.ref h4, lo, .ref h0, .int powered, .int stepsDone])), (h0, .inr (1, [.int wayToOther, .ref h1, .ref h2, .int place, .int speed, .int way, .int topSpeed, .int gain, .int brake, .int darkSpeed, .int rideSpeed, .int kilos, .int mostKilos, .int openContacts, .int fireFloor, .int ride, .int starts, .int distance, .int hardFalls]))] sz)) ((fun A : Nat → Prop => va_Qi (fun (r : Int32) (u : Unit) => F_load_1 kilos p1 = .inr r) (mpst D A (fun (u : Unit) => [(k0, .inr (4, [.ref h4, lo, .ref h0, .int powered, .int stepsDone])), (h0, .inr (1, [.int wayToOther, .ref h1, .ref h2, .int place, .int speed, .int way, .int topSpeed, .int gain, .int brake, .int darkSpeed, .int rideSpeed, .int p1, .int mostKilos, .int openContacts, .int fireFloor, .int ride, .int starts, .int distance, .int hardFalls]))])) A) (va_A ([(k0, .inr (4, [.ref h4, lo, .ref h0, .int powered, .int stepsDone])), (h0, .inr (1, [.int wayToOther, .ref h1, .ref h2, .int place, .int speed, .int way, .int topSpeed, .int gain, .int brake, .int darkSpeed, .int rideSpeed, .int kilos, .int mostKilos, .int openContacts, .int fireFloor, .int ride, .int starts, .int distance, .int hardFalls]))]) sz)) ((fun A : Nat → Prop => vx_X (fun u : Int32 => F_load_1 kilos p1 = .inl u ∧ (u = 1)) (mpsx D A [(k0, .inr (4, [.ref h4, lo, .ref h0, .int powered, .int stepsDone])), (h0, .inr (1, [.int wayToOther, .ref h1, .ref h2, .int place, .int speed, .int way, .int topSpeed, .int gain, .int brake, .int darkSpeed, .int rideSpeed, .int kilos, .int mostKilos, .int openContacts, .int fireFloor, .int ride, .int starts, .int distance, .int hardFalls]))]) A) (va_A ([(k0, .inr (4, [.ref h4, lo, .ref h0, .int powered, .int stepsDone])), (h0, .inr (1, [.int wayToOther, .ref h1, .ref h2, .int place, .int speed, .int way, .int topSpeed, .int gain, .int brake, .int darkSpeed, .int rideSpeed, .int kilos, .int mostKilos, .int openContacts, .int fireFloor, .int ride, .int starts, .int distance, .int hardFalls]))]) sz)) 1 6 (va_A ([(k0, .inr (4, [.ref h4, lo, .ref h0, .int powered, .int stepsDone])), (h0, .inr (1, [.int wayToOther, .ref h1, .ref h2, .int place, .int speed, .int way, .int topSpeed, .int gain, .int brake, .int darkSpeed, .int rideSpeed, .int kilos, .int mostKilos, .int openContacts, .int fireFloor, .int ride, .int starts, .int distance, .int hardFalls]))]) sz) := by
  refine enx (cc := cX4_load) (maxL := 5) (ret := (some .int)) (Qc := (fun A : Nat → Prop => va_Qi (fun (r : Int32) (u : Unit) => F_load_1 kilos p1 = .inr r) (mpst D A (fun (u : Unit) => [(k0, .inr (4, [.ref h4, lo, .ref h0, .int powered, .int stepsDone])), (h0, .inr (1, [.int wayToOther, .ref h1, .ref h2, .int place, .int speed, .int way, .int topSpeed, .int gain, .int brake, .int darkSpeed, .int rideSpeed, .int p1, .int mostKilos, .int openContacts, .int fireFloor, .int ride, .int starts, .int distance, .int hardFalls]))])) A)) (XC := (fun A : Nat → Prop => vx_X (fun u : Int32 => F_load_1 kilos p1 = .inl u ∧ (u = 1)) (mpsx D A [(k0, .inr (4, [.ref h4, lo, .ref h0, .int powered, .int stepsDone])), (h0, .inr (1, [.int wayToOther, .ref h1, .ref h2, .int place, .int speed, .int way, .int topSpeed, .int gain, .int brake, .int darkSpeed, .int rideSpeed, .int kilos, .int mostKilos, .int openContacts, .int fireFloor, .int ride, .int starts, .int distance, .int hardFalls]))]) A)) (by decide) rfl (Nat.le_of_ble_eq_true rfl) ?_
  intro p e s m args below meth c A ls Q hQ hx hb hr hts hown hlk hnm hml hout hA hS hP hK hD hE hl
  have hown : s.vm.findClass RX4 = some m.cls := hown
  have hl : lv_has ls 5 [(0, .ref k0), (1, .int 1), (2, .int p1)] := hl
  have hG := F_load_1_u kilos p1
  refine lv_aload_n hx hb dX4_load_0 rfl (lv_at hl 0 rfl) ?_
  refine lv_iload_n hx hb dX4_load_1 rfl (lv_at hl 1 rfl) ?_
  refine my_xr (wr := [(h0, .inr (1, [.int wayToOther, .ref h1, .ref h2, .int place, .int speed, .int way, .int topSpeed, .int gain, .int brake, .int darkSpeed, .int rideSpeed, .int kilos, .int mostKilos, .int openContacts, .int fireFloor, .int ride, .int starts, .int distance, .int hardFalls]))]) [0] [1] [1, 0] (vx_runV (As := [.int 1]) (rest := []) ⟨hx, hb, hml, hown, hts⟩ (c_carOf_1 l hl9 D aI aL aZ _ k0 h4 powered stepsDone h0 lo) (cwV 1 hts (gV w_393 w_395 w_2 w_35 w_396) rfl rfl rfl (by decide +kernel) ⟨Nat.le_of_ble_eq_true rfl, Nat.le_of_ble_eq_true rfl⟩) (prev_of hK hP hD hS hA hE [0] rfl (by decide) (ci := 4) rfl 0 rfl _) rfl rfl hl.1 rfl (lv_room (Nat.le_of_ble_eq_true rfl)) dX4_load_2 ⟨Nat.le_of_ble_eq_true rfl, Nat.le_of_ble_eq_true rfl⟩) hP hD hS hA rfl rfl (by decide) (by decide) hQ (fun _ h9 => ⟨hG.trans (cx_l h9.1), (False.elim h9.2)⟩) hout hlk rfl (by decide) (Nat.le_of_ble_eq_true rfl) (Nat.le_of_ble_eq_true rfl) (fun u_ H locs hw_1 hP hD hS => ?_)
  have hw_1 : F_carOf_1 = .inr () := hw_1
  have hG := hG.trans (cx_r hw_1)
  have hP : va_P D vwCl [(h0, .inr (1, [.int wayToOther, .ref h1, .ref h2, .int place, .int speed, .int way, .int topSpeed, .int gain, .int brake, .int darkSpeed, .int rideSpeed, .int kilos, .int mostKilos, .int openContacts, .int fireFloor, .int ride, .int starts, .int distance, .int hardFalls])), (k0, .inr (4, [.ref h4, lo, .ref h0, .int powered, .int stepsDone]))] H := hP
  have hD : va_D A [(h0, .inr (1, [.int wayToOther, .ref h1, .ref h2, .int place, .int speed, .int way, .int topSpeed, .int gain, .int brake, .int darkSpeed, .int rideSpeed, .int kilos, .int mostKilos, .int openContacts, .int fireFloor, .int ride, .int starts, .int distance, .int hardFalls])), (k0, .inr (4, [.ref h4, lo, .ref h0, .int powered, .int stepsDone]))] := hD
  refine lv_astore_n (lv' := [(3, .ref h0), (0, .ref k0), (1, .int 1), (2, .int p1)]) hx hb dX4_load_5 rfl hl (by decide) rfl (fun ls hl => ?_)
  refine lv_iload_n hx hb dX4_load_6 rfl (lv_at hl 3 rfl) ?_
  refine lv_iconst (v := 0) hx hb dX4_load_7 (by decide) ?_
  refine lv_sipush (v := 10000) hx hb dX4_load_8 (by decide) ?_
  refine my_xv (wr := [(h0, .inr (1, [.int wayToOther, .ref h1, .ref h2, .int place, .int speed, .int way, .int topSpeed, .int gain, .int brake, .int darkSpeed, .int rideSpeed, .int kilos, .int mostKilos, .int openContacts, .int fireFloor, .int ride, .int starts, .int distance, .int hardFalls])), (k0, .inr (4, [.ref h4, lo, .ref h0, .int powered, .int stepsDone]))]) [] [0, 1] [1, 0] (vx_runS (As := [.int p1, .int 0, .int 10000]) (rest := []) ⟨hx, hb, hml, hown, hts⟩ (c_refuseOutside l hl9 D aI aL aZ _ p1 0 10000) (va_cwS 3 hts (gS w_115 w_116 w_35 w_117) rfl rfl rfl (by decide +kernel) ⟨Nat.le_of_ble_eq_true rfl, Nat.le_of_ble_eq_true rfl⟩) (pre_of hK hP hD hS hA hE [] rfl (by decide) _) rfl rfl hl.1 rfl (lv_room (Nat.le_of_ble_eq_true rfl)) dX4_load_11 ⟨Nat.le_of_ble_eq_true rfl, Nat.le_of_ble_eq_true rfl⟩) hP hD hS hA rfl rfl (by decide) (by decide) hQ (fun _ h9 => ⟨hG.trans (cx_l h9.1), h9.2⟩) hout hlk rfl (by decide) (Nat.le_of_ble_eq_true rfl) (Nat.le_of_ble_eq_true rfl) (fun u_ H locs hw_2 hP hD hS => ?_)
  have hw_2 : F_refuseOutside p1 0 10000 = .inr () := hw_2
  have hG := hG.trans (cx_r hw_2)
  have hP : va_P D vwCl [(h0, .inr (1, [.int wayToOther, .ref h1, .ref h2, .int place, .int speed, .int way, .int topSpeed, .int gain, .int brake, .int darkSpeed, .int rideSpeed, .int kilos, .int mostKilos, .int openContacts, .int fireFloor, .int ride, .int starts, .int distance, .int hardFalls])), (k0, .inr (4, [.ref h4, lo, .ref h0, .int powered, .int stepsDone]))] H := hP
  have hD : va_D A [(h0, .inr (1, [.int wayToOther, .ref h1, .ref h2, .int place, .int speed, .int way, .int topSpeed, .int gain, .int brake, .int darkSpeed, .int rideSpeed, .int kilos, .int mostKilos, .int openContacts, .int fireFloor, .int ride, .int starts, .int distance, .int hardFalls])), (k0, .inr (4, [.ref h4, lo, .ref h0, .int powered, .int stepsDone]))] := hD
  refine lv_aload_n hx hb dX4_load_14 rfl (lv_at hl 0 rfl) ?_
  refine va_getN (D := D) (ci := 1) (v := .int kilos) (C := RX1) (T := TX1) (N := 19) hx hb hts inX1 hown hK hP 0 rfl rfl 11 (by decide) (nwF hE 22 rfl) (fun _ h9 => h9) rfl dX4_load_15 ?_
  refine lv_istore (lv' := [(4, .int kilos), (3, .ref h0), (0, .ref k0), (1, .int 1), (2, .int p1)]) hx hb dX4_load_18 hl (by decide) rfl (fun ls hl => ?_)
  refine lv_aload_n hx hb dX4_load_20 rfl (lv_at hl 1 rfl) ?_
  refine lv_iload_n hx hb dX4_load_21 rfl (lv_at hl 4 rfl) ?_
  refine va_putN (D := D) (ci := 1) (v := .int p1) (ty := .int) (C := RX1) (T := TX1) (N := 19) hx hb hts inX1 tyX1 tyX1_ok nmX1 hown hK hP hD hS 0 rfl rfl 11 (by decide) (nwF hE 22 rfl) (fun _ h9 => h9) rfl (by decide +kernel) rfl rfl (Nat.le_of_ble_eq_true rfl) dX4_load_22 (fun H locs hP hD hS => ?_)
  have hP : va_P D vwCl [(h0, .inr (1, [.int wayToOther, .ref h1, .ref h2, .int place, .int speed, .int way, .int topSpeed, .int gain, .int brake, .int darkSpeed, .int rideSpeed, .int p1, .int mostKilos, .int openContacts, .int fireFloor, .int ride, .int starts, .int distance, .int hardFalls])), (k0, .inr (4, [.ref h4, lo, .ref h0, .int powered, .int stepsDone]))] H := hP
  have hD : va_D A [(h0, .inr (1, [.int wayToOther, .ref h1, .ref h2, .int place, .int speed, .int way, .int topSpeed, .int gain, .int brake, .int darkSpeed, .int rideSpeed, .int p1, .int mostKilos, .int openContacts, .int fireFloor, .int ride, .int starts, .int distance, .int hardFalls])), (k0, .inr (4, [.ref h4, lo, .ref h0, .int powered, .int stepsDone]))] := hD
  refine lv_iload hx hb dX4_load_25 (lv_at hl 0 rfl) ?_
  have hP := hP.sub (ws' := [(k0, .inr (4, [.ref h4, lo, .ref h0, .int powered, .int stepsDone])), (h0, .inr (1, [.int wayToOther, .ref h1, .ref h2, .int place, .int speed, .int way, .int topSpeed, .int gain, .int brake, .int darkSpeed, .int rideSpeed, .int p1, .int mostKilos, .int openContacts, .int fireFloor, .int ride, .int starts, .int distance, .int hardFalls]))]) [1, 0] rfl
  have hD := hD.sub (ws' := [(k0, .inr (4, [.ref h4, lo, .ref h0, .int powered, .int stepsDone])), (h0, .inr (1, [.int wayToOther, .ref h1, .ref h2, .int place, .int speed, .int way, .int topSpeed, .int gain, .int brake, .int darkSpeed, .int rideSpeed, .int p1, .int mostKilos, .int openContacts, .int fireFloor, .int ride, .int starts, .int distance, .int hardFalls]))]) [1, 0] (by decide) rfl
  exact rtx_i hQ hx hb hr () hG hP hD hS (Nat.le_of_ble_eq_true rfl) (Nat.le_of_ble_eq_true rfl) dX4_load_27 hlk
def F_load_0n : Int32 ⊕ Int32 :=
  cx F_carOf_0n fun _ =>
    .inl 0
theorem F_load_0n_u : F_load_0n =
  (cx F_carOf_0n fun _ =>
    .inl 0) := rfl
set_option maxHeartbeats 4000000 in
set_option maxRecDepth 100000 in
theorem c_load_0n (l : Launch) (hl9 : l.stackTraces = false) (D : va_G) (aI aL aZ : ClassId) (sz : Nat) (k0 : Nat) (h4 : Nat) (powered : Int32) (stepsDone : Int32) (up : Value) (p1 : Int32) : vx_Met l yX4_load (.code yX4_load cX4_load 5 (some .int) :: Gw) ({ frames := 7, cells := 1, slots := 6, locals := 114 }) (va_Pc [.ref k0, .int 0, .int p1] (mpre D [(aI, .int), (aL, .long), (aZ, .boolean)] [(k0, .inr (4, [.ref h4, .null, up, .int powered, .int stepsDone]))] sz)) ((fun A : Nat → Prop => va_Qi (fun (r : Int32) (u : Unit) => False) (mpst D A (fun (u : Unit) => [(k0, .inr (4, [.ref h4, .null, up, .int powered, .int stepsDone]))])) A) (va_A ([(k0, .inr (4, [.ref h4, .null, up, .int powered, .int stepsDone]))]) sz)) ((fun A : Nat → Prop => vx_X (fun u : Int32 => F_load_0n = .inl u ∧ (u = 1)) (mpsx D A [(k0, .inr (4, [.ref h4, .null, up, .int powered, .int stepsDone]))]) A) (va_A ([(k0, .inr (4, [.ref h4, .null, up, .int powered, .int stepsDone]))]) sz)) 1 6 (va_A ([(k0, .inr (4, [.ref h4, .null, up, .int powered, .int stepsDone]))]) sz) := by
  refine enx (cc := cX4_load) (maxL := 5) (ret := (some .int)) (Qc := (fun A : Nat → Prop => va_Qi (fun (r : Int32) (u : Unit) => False) (mpst D A (fun (u : Unit) => [(k0, .inr (4, [.ref h4, .null, up, .int powered, .int stepsDone]))])) A)) (XC := (fun A : Nat → Prop => vx_X (fun u : Int32 => F_load_0n = .inl u ∧ (u = 1)) (mpsx D A [(k0, .inr (4, [.ref h4, .null, up, .int powered, .int stepsDone]))]) A)) (by decide) rfl (Nat.le_of_ble_eq_true rfl) ?_
  intro p e s m args below meth c A ls Q hQ hx hb hr hts hown hlk hnm hml hout hA hS hP hK hD hE hl
  have hown : s.vm.findClass RX4 = some m.cls := hown
  have hl : lv_has ls 5 [(0, .ref k0), (1, .int 0), (2, .int p1)] := hl
  have hG := F_load_0n_u
  refine lv_aload_n hx hb dX4_load_0 rfl (lv_at hl 0 rfl) ?_
  refine lv_iload_n hx hb dX4_load_1 rfl (lv_at hl 1 rfl) ?_
  refine my_xr (wr := []) [0] [] [0] (vx_runV (As := [.int 0]) (rest := []) ⟨hx, hb, hml, hown, hts⟩ (c_carOf_0n l hl9 D aI aL aZ _ k0 h4 powered stepsDone up) (cwV 1 hts (gV w_393 w_395 w_2 w_35 w_396) rfl rfl rfl (by decide +kernel) ⟨Nat.le_of_ble_eq_true rfl, Nat.le_of_ble_eq_true rfl⟩) (prev_of hK hP hD hS hA hE [0] rfl (by decide) (ci := 4) rfl 0 rfl _) rfl rfl hl.1 rfl (lv_room (Nat.le_of_ble_eq_true rfl)) dX4_load_2 ⟨Nat.le_of_ble_eq_true rfl, Nat.le_of_ble_eq_true rfl⟩) hP hD hS hA rfl rfl (by decide) (by decide) hQ (fun _ h9 => ⟨hG.trans (cx_l h9.1), h9.2⟩) hout hlk rfl (by decide) (Nat.le_of_ble_eq_true rfl) (Nat.le_of_ble_eq_true rfl) (fun u_ H locs hw_1 hP hD hS => ?_)
  exact False.elim hw_1
def F_load_1n : Int32 ⊕ Int32 :=
  cx F_carOf_1n fun _ =>
    .inl 0
theorem F_load_1n_u : F_load_1n =
  (cx F_carOf_1n fun _ =>
    .inl 0) := rfl
set_option maxHeartbeats 4000000 in
set_option maxRecDepth 100000 in
theorem c_load_1n (l : Launch) (hl9 : l.stackTraces = false) (D : va_G) (aI aL aZ : ClassId) (sz : Nat) (k0 : Nat) (h4 : Nat) (powered : Int32) (stepsDone : Int32) (lo : Value) (p1 : Int32) : vx_Met l yX4_load (.code yX4_load cX4_load 5 (some .int) :: Gw) ({ frames := 7, cells := 1, slots := 6, locals := 114 }) (va_Pc [.ref k0, .int 1, .int p1] (mpre D [(aI, .int), (aL, .long), (aZ, .boolean)] [(k0, .inr (4, [.ref h4, lo, .null, .int powered, .int stepsDone]))] sz)) ((fun A : Nat → Prop => va_Qi (fun (r : Int32) (u : Unit) => False) (mpst D A (fun (u : Unit) => [(k0, .inr (4, [.ref h4, lo, .null, .int powered, .int stepsDone]))])) A) (va_A ([(k0, .inr (4, [.ref h4, lo, .null, .int powered, .int stepsDone]))]) sz)) ((fun A : Nat → Prop => vx_X (fun u : Int32 => F_load_1n = .inl u ∧ (u = 1)) (mpsx D A [(k0, .inr (4, [.ref h4, lo, .null, .int powered, .int stepsDone]))]) A) (va_A ([(k0, .inr (4, [.ref h4, lo, .null, .int powered, .int stepsDone]))]) sz)) 1 6 (va_A ([(k0, .inr (4, [.ref h4, lo, .null, .int powered, .int stepsDone]))]) sz) := by
  refine enx (cc := cX4_load) (maxL := 5) (ret := (some .int)) (Qc := (fun A : Nat → Prop => va_Qi (fun (r : Int32) (u : Unit) => False) (mpst D A (fun (u : Unit) => [(k0, .inr (4, [.ref h4, lo, .null, .int powered, .int stepsDone]))])) A)) (XC := (fun A : Nat → Prop => vx_X (fun u : Int32 => F_load_1n = .inl u ∧ (u = 1)) (mpsx D A [(k0, .inr (4, [.ref h4, lo, .null, .int powered, .int stepsDone]))]) A)) (by decide) rfl (Nat.le_of_ble_eq_true rfl) ?_
  intro p e s m args below meth c A ls Q hQ hx hb hr hts hown hlk hnm hml hout hA hS hP hK hD hE hl
  have hown : s.vm.findClass RX4 = some m.cls := hown
  have hl : lv_has ls 5 [(0, .ref k0), (1, .int 1), (2, .int p1)] := hl
  have hG := F_load_1n_u
  refine lv_aload_n hx hb dX4_load_0 rfl (lv_at hl 0 rfl) ?_
  refine lv_iload_n hx hb dX4_load_1 rfl (lv_at hl 1 rfl) ?_
  refine my_xr (wr := []) [0] [] [0] (vx_runV (As := [.int 1]) (rest := []) ⟨hx, hb, hml, hown, hts⟩ (c_carOf_1n l hl9 D aI aL aZ _ k0 h4 powered stepsDone lo) (cwV 1 hts (gV w_393 w_395 w_2 w_35 w_396) rfl rfl rfl (by decide +kernel) ⟨Nat.le_of_ble_eq_true rfl, Nat.le_of_ble_eq_true rfl⟩) (prev_of hK hP hD hS hA hE [0] rfl (by decide) (ci := 4) rfl 0 rfl _) rfl rfl hl.1 rfl (lv_room (Nat.le_of_ble_eq_true rfl)) dX4_load_2 ⟨Nat.le_of_ble_eq_true rfl, Nat.le_of_ble_eq_true rfl⟩) hP hD hS hA rfl rfl (by decide) (by decide) hQ (fun _ h9 => ⟨hG.trans (cx_l h9.1), h9.2⟩) hout hlk rfl (by decide) (Nat.le_of_ble_eq_true rfl) (Nat.le_of_ble_eq_true rfl) (fun u_ H locs hw_1 hP hD hS => ?_)
  exact False.elim hw_1
def F_load_x : Int32 ⊕ Int32 :=
  cx F_carOf_x fun _ =>
    .inl 0
theorem F_load_x_u : F_load_x =
  (cx F_carOf_x fun _ =>
    .inl 0) := rfl
set_option maxHeartbeats 4000000 in
set_option maxRecDepth 100000 in
theorem c_load_x (l : Launch) (hl9 : l.stackTraces = false) (D : va_G) (aI aL aZ : ClassId) (sz : Nat) (k0 : Nat) (h4 : Nat) (powered : Int32) (stepsDone : Int32) (lo : Value) (up : Value) (p0 : Int32) (p1 : Int32) (h9 : ¬ p0 = 0) (h8 : ¬ p0 = 1) : vx_Met l yX4_load (.code yX4_load cX4_load 5 (some .int) :: Gw) ({ frames := 7, cells := 1, slots := 6, locals := 114 }) (va_Pc [.ref k0, .int p0, .int p1] (mpre D [(aI, .int), (aL, .long), (aZ, .boolean)] [(k0, .inr (4, [.ref h4, lo, up, .int powered, .int stepsDone]))] sz)) ((fun A : Nat → Prop => va_Qi (fun (r : Int32) (u : Unit) => False) (mpst D A (fun (u : Unit) => [(k0, .inr (4, [.ref h4, lo, up, .int powered, .int stepsDone]))])) A) (va_A ([(k0, .inr (4, [.ref h4, lo, up, .int powered, .int stepsDone]))]) sz)) ((fun A : Nat → Prop => vx_X (fun u : Int32 => F_load_x = .inl u ∧ (u = 1)) (mpsx D A [(k0, .inr (4, [.ref h4, lo, up, .int powered, .int stepsDone]))]) A) (va_A ([(k0, .inr (4, [.ref h4, lo, up, .int powered, .int stepsDone]))]) sz)) 1 6 (va_A ([(k0, .inr (4, [.ref h4, lo, up, .int powered, .int stepsDone]))]) sz) := by
  refine enx (cc := cX4_load) (maxL := 5) (ret := (some .int)) (Qc := (fun A : Nat → Prop => va_Qi (fun (r : Int32) (u : Unit) => False) (mpst D A (fun (u : Unit) => [(k0, .inr (4, [.ref h4, lo, up, .int powered, .int stepsDone]))])) A)) (XC := (fun A : Nat → Prop => vx_X (fun u : Int32 => F_load_x = .inl u ∧ (u = 1)) (mpsx D A [(k0, .inr (4, [.ref h4, lo, up, .int powered, .int stepsDone]))]) A)) (by decide) rfl (Nat.le_of_ble_eq_true rfl) ?_
  intro p e s m args below meth c A ls Q hQ hx hb hr hts hown hlk hnm hml hout hA hS hP hK hD hE hl
  have hown : s.vm.findClass RX4 = some m.cls := hown
  have hl : lv_has ls 5 [(0, .ref k0), (1, .int p0), (2, .int p1)] := hl
  have hG := F_load_x_u
  refine lv_aload_n hx hb dX4_load_0 rfl (lv_at hl 0 rfl) ?_
  refine lv_iload_n hx hb dX4_load_1 rfl (lv_at hl 1 rfl) ?_
  refine my_xr (wr := []) [0] [] [0] (vx_runV (As := [.int p0]) (rest := []) ⟨hx, hb, hml, hown, hts⟩ (c_carOf_x l hl9 D aI aL aZ _ k0 h4 powered stepsDone lo up p0 h9 h8) (cwV 1 hts (gV w_393 w_395 w_2 w_35 w_396) rfl rfl rfl (by decide +kernel) ⟨Nat.le_of_ble_eq_true rfl, Nat.le_of_ble_eq_true rfl⟩) (prev_of hK hP hD hS hA hE [0] rfl (by decide) (ci := 4) rfl 0 rfl _) rfl rfl hl.1 rfl (lv_room (Nat.le_of_ble_eq_true rfl)) dX4_load_2 ⟨Nat.le_of_ble_eq_true rfl, Nat.le_of_ble_eq_true rfl⟩) hP hD hS hA rfl rfl (by decide) (by decide) hQ (fun _ h9 => ⟨hG.trans (cx_l h9.1), h9.2⟩) hout hlk rfl (by decide) (Nat.le_of_ble_eq_true rfl) (Nat.le_of_ble_eq_true rfl) (fun u_ H locs hw_1 hP hD hS => ?_)
  exact False.elim hw_1
theorem dX4_most_0 : decode cX4_most 0 = .ok (.aload_n 0, 1) := by decide +kernel
theorem dX4_most_1 : decode cX4_most 1 = .ok (.iload_n 1, 1) := by decide +kernel
theorem dX4_most_2 : decode cX4_most 2 = .ok (.invokevirtual 84, 3) := by decide +kernel
theorem dX4_most_5 : decode cX4_most 5 = .ok (.astore_n 3, 1) := by decide +kernel
theorem dX4_most_6 : decode cX4_most 6 = .ok (.iload_n 2, 1) := by decide +kernel
theorem dX4_most_7 : decode cX4_most 7 = .ok (.iconst 0, 1) := by decide +kernel
theorem dX4_most_8 : decode cX4_most 8 = .ok (.sipush 10000, 3) := by decide +kernel
theorem dX4_most_11 : decode cX4_most 11 = .ok (.invokestatic 35, 3) := by decide +kernel
theorem dX4_most_14 : decode cX4_most 14 = .ok (.aload_n 3, 1) := by decide +kernel
theorem dX4_most_15 : decode cX4_most 15 = .ok (.getfield 168, 3) := by decide +kernel
theorem dX4_most_18 : decode cX4_most 18 = .ok (.istore 4, 2) := by decide +kernel
theorem dX4_most_20 : decode cX4_most 20 = .ok (.aload_n 3, 1) := by decide +kernel
theorem dX4_most_21 : decode cX4_most 21 = .ok (.iload_n 2, 1) := by decide +kernel
theorem dX4_most_22 : decode cX4_most 22 = .ok (.putfield 168, 3) := by decide +kernel
theorem dX4_most_25 : decode cX4_most 25 = .ok (.iload 4, 2) := by decide +kernel
theorem dX4_most_27 : decode cX4_most 27 = .ok (.ireturn, 1) := by decide +kernel
def F_most_0 (mostKilos : Int32) (p1 : Int32) : Int32 ⊕ Int32 :=
  cx F_carOf_0 fun _ =>
    cx (F_refuseOutside p1 0 10000) fun _ =>
      .inr mostKilos
theorem F_most_0_u (mostKilos : Int32) (p1 : Int32) : F_most_0 mostKilos p1 =
  (cx F_carOf_0 fun _ =>
    cx (F_refuseOutside p1 0 10000) fun _ =>
      .inr mostKilos) := rfl
set_option maxHeartbeats 4000000 in
set_option maxRecDepth 100000 in
theorem c_most_0 (l : Launch) (hl9 : l.stackTraces = false) (D : va_G) (aI aL aZ : ClassId) (sz : Nat) (k0 : Nat) (h4 : Nat) (powered : Int32) (stepsDone : Int32) (up : Value) (h0 : Nat) (h1 : Nat) (h2 : Nat) (wayToOther : Int32) (place : Int32) (speed : Int32) (way : Int32) (topSpeed : Int32) (gain : Int32) (brake : Int32) (darkSpeed : Int32) (rideSpeed : Int32) (kilos : Int32) (mostKilos : Int32) (openContacts : Int32) (fireFloor : Int32) (ride : Int32) (starts : Int32) (distance : Int32) (hardFalls : Int32) (p1 : Int32) : vx_Met l yX4_most (.code yX4_most cX4_most 5 (some .int) :: Gw) ({ frames := 7, cells := 1, slots := 6, locals := 114 }) (va_Pc [.ref k0, .int 0, .int p1] (mpre D [(aI, .int), (aL, .long), (aZ, .boolean)] [(k0, .inr (4, [.ref h4, .ref h0, up, .int powered, .int stepsDone])), (h0, .inr (1, [.int wayToOther, .ref h1, .ref h2, .int place, .int speed, .int way, .int topSpeed, .int gain, .int brake, .int darkSpeed, .int rideSpeed, .int kilos, .int mostKilos, .int openContacts, .int fireFloor, .int ride, .int starts, .int distance, .int hardFalls]))] sz)) ((fun A : Nat → Prop => va_Qi (fun (r : Int32) (u : Unit) => F_most_0 mostKilos p1 = .inr r) (mpst D A (fun (u : Unit) => [(k0, .inr (4, [.ref h4, .ref h0, up, .int powered, .int stepsDone])), (h0, .inr (1, [.int wayToOther, .ref h1, .ref h2, .int place, .int speed, .int way, .int topSpeed, .int gain, .int brake, .int darkSpeed, .int rideSpeed, .int kilos, .int p1, .int openContacts, .int fireFloor, .int ride, .int starts, .int distance, .int hardFalls]))])) A) (va_A ([(k0, .inr (4, [.ref h4, .ref h0, up, .int powered, .int stepsDone])), (h0, .inr (1, [.int wayToOther, .ref h1, .ref h2, .int place, .int speed, .int way, .int topSpeed, .int gain, .int brake, .int darkSpeed, .int rideSpeed, .int kilos, .int mostKilos, .int openContacts, .int fireFloor, .int ride, .int starts, .int distance, .int hardFalls]))]) sz)) ((fun A : Nat → Prop => vx_X (fun u : Int32 => F_most_0 mostKilos p1 = .inl u ∧ (u = 1)) (mpsx D A [(k0, .inr (4, [.ref h4, .ref h0, up, .int powered, .int stepsDone])), (h0, .inr (1, [.int wayToOther, .ref h1, .ref h2, .int place, .int speed, .int way, .int topSpeed, .int gain, .int brake, .int darkSpeed, .int rideSpeed, .int kilos, .int mostKilos, .int openContacts, .int fireFloor, .int ride, .int starts, .int distance, .int hardFalls]))]) A) (va_A ([(k0, .inr (4, [.ref h4, .ref h0, up, .int powered, .int stepsDone])), (h0, .inr (1, [.int wayToOther, .ref h1, .ref h2, .int place, .int speed, .int way, .int topSpeed, .int gain, .int brake, .int darkSpeed, .int rideSpeed, .int kilos, .int mostKilos, .int openContacts, .int fireFloor, .int ride, .int starts, .int distance, .int hardFalls]))]) sz)) 1 6 (va_A ([(k0, .inr (4, [.ref h4, .ref h0, up, .int powered, .int stepsDone])), (h0, .inr (1, [.int wayToOther, .ref h1, .ref h2, .int place, .int speed, .int way, .int topSpeed, .int gain, .int brake, .int darkSpeed, .int rideSpeed, .int kilos, .int mostKilos, .int openContacts, .int fireFloor, .int ride, .int starts, .int distance, .int hardFalls]))]) sz) := by
  refine enx (cc := cX4_most) (maxL := 5) (ret := (some .int)) (Qc := (fun A : Nat → Prop => va_Qi (fun (r : Int32) (u : Unit) => F_most_0 mostKilos p1 = .inr r) (mpst D A (fun (u : Unit) => [(k0, .inr (4, [.ref h4, .ref h0, up, .int powered, .int stepsDone])), (h0, .inr (1, [.int wayToOther, .ref h1, .ref h2, .int place, .int speed, .int way, .int topSpeed, .int gain, .int brake, .int darkSpeed, .int rideSpeed, .int kilos, .int p1, .int openContacts, .int fireFloor, .int ride, .int starts, .int distance, .int hardFalls]))])) A)) (XC := (fun A : Nat → Prop => vx_X (fun u : Int32 => F_most_0 mostKilos p1 = .inl u ∧ (u = 1)) (mpsx D A [(k0, .inr (4, [.ref h4, .ref h0, up, .int powered, .int stepsDone])), (h0, .inr (1, [.int wayToOther, .ref h1, .ref h2, .int place, .int speed, .int way, .int topSpeed, .int gain, .int brake, .int darkSpeed, .int rideSpeed, .int kilos, .int mostKilos, .int openContacts, .int fireFloor, .int ride, .int starts, .int distance, .int hardFalls]))]) A)) (by decide) rfl (Nat.le_of_ble_eq_true rfl) ?_
  intro p e s m args below meth c A ls Q hQ hx hb hr hts hown hlk hnm hml hout hA hS hP hK hD hE hl
  have hown : s.vm.findClass RX4 = some m.cls := hown
  have hl : lv_has ls 5 [(0, .ref k0), (1, .int 0), (2, .int p1)] := hl
  have hG := F_most_0_u mostKilos p1
  refine lv_aload_n hx hb dX4_most_0 rfl (lv_at hl 0 rfl) ?_
  refine lv_iload_n hx hb dX4_most_1 rfl (lv_at hl 1 rfl) ?_
  refine my_xr (wr := [(h0, .inr (1, [.int wayToOther, .ref h1, .ref h2, .int place, .int speed, .int way, .int topSpeed, .int gain, .int brake, .int darkSpeed, .int rideSpeed, .int kilos, .int mostKilos, .int openContacts, .int fireFloor, .int ride, .int starts, .int distance, .int hardFalls]))]) [0] [1] [1, 0] (vx_runV (As := [.int 0]) (rest := []) ⟨hx, hb, hml, hown, hts⟩ (c_carOf_0 l hl9 D aI aL aZ _ k0 h4 powered stepsDone h0 up) (cwV 1 hts (gV w_393 w_395 w_2 w_35 w_396) rfl rfl rfl (by decide +kernel) ⟨Nat.le_of_ble_eq_true rfl, Nat.le_of_ble_eq_true rfl⟩) (prev_of hK hP hD hS hA hE [0] rfl (by decide) (ci := 4) rfl 0 rfl _) rfl rfl hl.1 rfl (lv_room (Nat.le_of_ble_eq_true rfl)) dX4_most_2 ⟨Nat.le_of_ble_eq_true rfl, Nat.le_of_ble_eq_true rfl⟩) hP hD hS hA rfl rfl (by decide) (by decide) hQ (fun _ h9 => ⟨hG.trans (cx_l h9.1), (False.elim h9.2)⟩) hout hlk rfl (by decide) (Nat.le_of_ble_eq_true rfl) (Nat.le_of_ble_eq_true rfl) (fun u_ H locs hw_1 hP hD hS => ?_)
  have hw_1 : F_carOf_0 = .inr () := hw_1
  have hG := hG.trans (cx_r hw_1)
  have hP : va_P D vwCl [(h0, .inr (1, [.int wayToOther, .ref h1, .ref h2, .int place, .int speed, .int way, .int topSpeed, .int gain, .int brake, .int darkSpeed, .int rideSpeed, .int kilos, .int mostKilos, .int openContacts, .int fireFloor, .int ride, .int starts, .int distance, .int hardFalls])), (k0, .inr (4, [.ref h4, .ref h0, up, .int powered, .int stepsDone]))] H := hP
  have hD : va_D A [(h0, .inr (1, [.int wayToOther, .ref h1, .ref h2, .int place, .int speed, .int way, .int topSpeed, .int gain, .int brake, .int darkSpeed, .int rideSpeed, .int kilos, .int mostKilos, .int openContacts, .int fireFloor, .int ride, .int starts, .int distance, .int hardFalls])), (k0, .inr (4, [.ref h4, .ref h0, up, .int powered, .int stepsDone]))] := hD
  refine lv_astore_n (lv' := [(3, .ref h0), (0, .ref k0), (1, .int 0), (2, .int p1)]) hx hb dX4_most_5 rfl hl (by decide) rfl (fun ls hl => ?_)
  refine lv_iload_n hx hb dX4_most_6 rfl (lv_at hl 3 rfl) ?_
  refine lv_iconst (v := 0) hx hb dX4_most_7 (by decide) ?_
  refine lv_sipush (v := 10000) hx hb dX4_most_8 (by decide) ?_
  refine my_xv (wr := [(h0, .inr (1, [.int wayToOther, .ref h1, .ref h2, .int place, .int speed, .int way, .int topSpeed, .int gain, .int brake, .int darkSpeed, .int rideSpeed, .int kilos, .int mostKilos, .int openContacts, .int fireFloor, .int ride, .int starts, .int distance, .int hardFalls])), (k0, .inr (4, [.ref h4, .ref h0, up, .int powered, .int stepsDone]))]) [] [0, 1] [1, 0] (vx_runS (As := [.int p1, .int 0, .int 10000]) (rest := []) ⟨hx, hb, hml, hown, hts⟩ (c_refuseOutside l hl9 D aI aL aZ _ p1 0 10000) (va_cwS 3 hts (gS w_115 w_116 w_35 w_117) rfl rfl rfl (by decide +kernel) ⟨Nat.le_of_ble_eq_true rfl, Nat.le_of_ble_eq_true rfl⟩) (pre_of hK hP hD hS hA hE [] rfl (by decide) _) rfl rfl hl.1 rfl (lv_room (Nat.le_of_ble_eq_true rfl)) dX4_most_11 ⟨Nat.le_of_ble_eq_true rfl, Nat.le_of_ble_eq_true rfl⟩) hP hD hS hA rfl rfl (by decide) (by decide) hQ (fun _ h9 => ⟨hG.trans (cx_l h9.1), h9.2⟩) hout hlk rfl (by decide) (Nat.le_of_ble_eq_true rfl) (Nat.le_of_ble_eq_true rfl) (fun u_ H locs hw_2 hP hD hS => ?_)
  have hw_2 : F_refuseOutside p1 0 10000 = .inr () := hw_2
  have hG := hG.trans (cx_r hw_2)
  have hP : va_P D vwCl [(h0, .inr (1, [.int wayToOther, .ref h1, .ref h2, .int place, .int speed, .int way, .int topSpeed, .int gain, .int brake, .int darkSpeed, .int rideSpeed, .int kilos, .int mostKilos, .int openContacts, .int fireFloor, .int ride, .int starts, .int distance, .int hardFalls])), (k0, .inr (4, [.ref h4, .ref h0, up, .int powered, .int stepsDone]))] H := hP
  have hD : va_D A [(h0, .inr (1, [.int wayToOther, .ref h1, .ref h2, .int place, .int speed, .int way, .int topSpeed, .int gain, .int brake, .int darkSpeed, .int rideSpeed, .int kilos, .int mostKilos, .int openContacts, .int fireFloor, .int ride, .int starts, .int distance, .int hardFalls])), (k0, .inr (4, [.ref h4, .ref h0, up, .int powered, .int stepsDone]))] := hD
  refine lv_aload_n hx hb dX4_most_14 rfl (lv_at hl 0 rfl) ?_
  refine va_getN (D := D) (ci := 1) (v := .int mostKilos) (C := RX1) (T := TX1) (N := 19) hx hb hts inX1 hown hK hP 0 rfl rfl 12 (by decide) (nwF hE 23 rfl) (fun _ h9 => h9) rfl dX4_most_15 ?_
  refine lv_istore (lv' := [(4, .int mostKilos), (3, .ref h0), (0, .ref k0), (1, .int 0), (2, .int p1)]) hx hb dX4_most_18 hl (by decide) rfl (fun ls hl => ?_)
  refine lv_aload_n hx hb dX4_most_20 rfl (lv_at hl 1 rfl) ?_
  refine lv_iload_n hx hb dX4_most_21 rfl (lv_at hl 4 rfl) ?_
  refine va_putN (D := D) (ci := 1) (v := .int p1) (ty := .int) (C := RX1) (T := TX1) (N := 19) hx hb hts inX1 tyX1 tyX1_ok nmX1 hown hK hP hD hS 0 rfl rfl 12 (by decide) (nwF hE 23 rfl) (fun _ h9 => h9) rfl (by decide +kernel) rfl rfl (Nat.le_of_ble_eq_true rfl) dX4_most_22 (fun H locs hP hD hS => ?_)
  have hP : va_P D vwCl [(h0, .inr (1, [.int wayToOther, .ref h1, .ref h2, .int place, .int speed, .int way, .int topSpeed, .int gain, .int brake, .int darkSpeed, .int rideSpeed, .int kilos, .int p1, .int openContacts, .int fireFloor, .int ride, .int starts, .int distance, .int hardFalls])), (k0, .inr (4, [.ref h4, .ref h0, up, .int powered, .int stepsDone]))] H := hP
  have hD : va_D A [(h0, .inr (1, [.int wayToOther, .ref h1, .ref h2, .int place, .int speed, .int way, .int topSpeed, .int gain, .int brake, .int darkSpeed, .int rideSpeed, .int kilos, .int p1, .int openContacts, .int fireFloor, .int ride, .int starts, .int distance, .int hardFalls])), (k0, .inr (4, [.ref h4, .ref h0, up, .int powered, .int stepsDone]))] := hD
  refine lv_iload hx hb dX4_most_25 (lv_at hl 0 rfl) ?_
  have hP := hP.sub (ws' := [(k0, .inr (4, [.ref h4, .ref h0, up, .int powered, .int stepsDone])), (h0, .inr (1, [.int wayToOther, .ref h1, .ref h2, .int place, .int speed, .int way, .int topSpeed, .int gain, .int brake, .int darkSpeed, .int rideSpeed, .int kilos, .int p1, .int openContacts, .int fireFloor, .int ride, .int starts, .int distance, .int hardFalls]))]) [1, 0] rfl
  have hD := hD.sub (ws' := [(k0, .inr (4, [.ref h4, .ref h0, up, .int powered, .int stepsDone])), (h0, .inr (1, [.int wayToOther, .ref h1, .ref h2, .int place, .int speed, .int way, .int topSpeed, .int gain, .int brake, .int darkSpeed, .int rideSpeed, .int kilos, .int p1, .int openContacts, .int fireFloor, .int ride, .int starts, .int distance, .int hardFalls]))]) [1, 0] (by decide) rfl
  exact rtx_i hQ hx hb hr () hG hP hD hS (Nat.le_of_ble_eq_true rfl) (Nat.le_of_ble_eq_true rfl) dX4_most_27 hlk
def F_most_1 (mostKilos : Int32) (p1 : Int32) : Int32 ⊕ Int32 :=
  cx F_carOf_1 fun _ =>
    cx (F_refuseOutside p1 0 10000) fun _ =>
      .inr mostKilos
theorem F_most_1_u (mostKilos : Int32) (p1 : Int32) : F_most_1 mostKilos p1 =
  (cx F_carOf_1 fun _ =>
    cx (F_refuseOutside p1 0 10000) fun _ =>
      .inr mostKilos) := rfl
set_option maxHeartbeats 4000000 in
set_option maxRecDepth 100000 in
theorem c_most_1 (l : Launch) (hl9 : l.stackTraces = false) (D : va_G) (aI aL aZ : ClassId) (sz : Nat) (k0 : Nat) (h4 : Nat) (powered : Int32) (stepsDone : Int32) (lo : Value) (h0 : Nat) (h1 : Nat) (h2 : Nat) (wayToOther : Int32) (place : Int32) (speed : Int32) (way : Int32) (topSpeed : Int32) (gain : Int32) (brake : Int32) (darkSpeed : Int32) (rideSpeed : Int32) (kilos : Int32) (mostKilos : Int32) (openContacts : Int32) (fireFloor : Int32) (ride : Int32) (starts : Int32) (distance : Int32) (hardFalls : Int32) (p1 : Int32) : vx_Met l yX4_most (.code yX4_most cX4_most 5 (some .int) :: Gw) ({ frames := 7, cells := 1, slots := 6, locals := 114 }) (va_Pc [.ref k0, .int 1, .int p1] (mpre D [(aI, .int), (aL, .long), (aZ, .boolean)] [(k0, .inr (4, [.ref h4, lo, .ref h0, .int powered, .int stepsDone])), (h0, .inr (1, [.int wayToOther, .ref h1, .ref h2, .int place, .int speed, .int way, .int topSpeed, .int gain, .int brake, .int darkSpeed, .int rideSpeed, .int kilos, .int mostKilos, .int openContacts, .int fireFloor, .int ride, .int starts, .int distance, .int hardFalls]))] sz)) ((fun A : Nat → Prop => va_Qi (fun (r : Int32) (u : Unit) => F_most_1 mostKilos p1 = .inr r) (mpst D A (fun (u : Unit) => [(k0, .inr (4, [.ref h4, lo, .ref h0, .int powered, .int stepsDone])), (h0, .inr (1, [.int wayToOther, .ref h1, .ref h2, .int place, .int speed, .int way, .int topSpeed, .int gain, .int brake, .int darkSpeed, .int rideSpeed, .int kilos, .int p1, .int openContacts, .int fireFloor, .int ride, .int starts, .int distance, .int hardFalls]))])) A) (va_A ([(k0, .inr (4, [.ref h4, lo, .ref h0, .int powered, .int stepsDone])), (h0, .inr (1, [.int wayToOther, .ref h1, .ref h2, .int place, .int speed, .int way, .int topSpeed, .int gain, .int brake, .int darkSpeed, .int rideSpeed, .int kilos, .int mostKilos, .int openContacts, .int fireFloor, .int ride, .int starts, .int distance, .int hardFalls]))]) sz)) ((fun A : Nat → Prop => vx_X (fun u : Int32 => F_most_1 mostKilos p1 = .inl u ∧ (u = 1)) (mpsx D A [(k0, .inr (4, [.ref h4, lo, .ref h0, .int powered, .int stepsDone])), (h0, .inr (1, [.int wayToOther, .ref h1, .ref h2, .int place, .int speed, .int way, .int topSpeed, .int gain, .int brake, .int darkSpeed, .int rideSpeed, .int kilos, .int mostKilos, .int openContacts, .int fireFloor, .int ride, .int starts, .int distance, .int hardFalls]))]) A) (va_A ([(k0, .inr (4, [.ref h4, lo, .ref h0, .int powered, .int stepsDone])), (h0, .inr (1, [.int wayToOther, .ref h1, .ref h2, .int place, .int speed, .int way, .int topSpeed, .int gain, .int brake, .int darkSpeed, .int rideSpeed, .int kilos, .int mostKilos, .int openContacts, .int fireFloor, .int ride, .int starts, .int distance, .int hardFalls]))]) sz)) 1 6 (va_A ([(k0, .inr (4, [.ref h4, lo, .ref h0, .int powered, .int stepsDone])), (h0, .inr (1, [.int wayToOther, .ref h1, .ref h2, .int place, .int speed, .int way, .int topSpeed, .int gain, .int brake, .int darkSpeed, .int rideSpeed, .int kilos, .int mostKilos, .int openContacts, .int fireFloor, .int ride, .int starts, .int distance, .int hardFalls]))]) sz) := by
  refine enx (cc := cX4_most) (maxL := 5) (ret := (some .int)) (Qc := (fun A : Nat → Prop => va_Qi (fun (r : Int32) (u : Unit) => F_most_1 mostKilos p1 = .inr r) (mpst D A (fun (u : Unit) => [(k0, .inr (4, [.ref h4, lo, .ref h0, .int powered, .int stepsDone])), (h0, .inr (1, [.int wayToOther, .ref h1, .ref h2, .int place, .int speed, .int way, .int topSpeed, .int gain, .int brake, .int darkSpeed, .int rideSpeed, .int kilos, .int p1, .int openContacts, .int fireFloor, .int ride, .int starts, .int distance, .int hardFalls]))])) A)) (XC := (fun A : Nat → Prop => vx_X (fun u : Int32 => F_most_1 mostKilos p1 = .inl u ∧ (u = 1)) (mpsx D A [(k0, .inr (4, [.ref h4, lo, .ref h0, .int powered, .int stepsDone])), (h0, .inr (1, [.int wayToOther, .ref h1, .ref h2, .int place, .int speed, .int way, .int topSpeed, .int gain, .int brake, .int darkSpeed, .int rideSpeed, .int kilos, .int mostKilos, .int openContacts, .int fireFloor, .int ride, .int starts, .int distance, .int hardFalls]))]) A)) (by decide) rfl (Nat.le_of_ble_eq_true rfl) ?_
  intro p e s m args below meth c A ls Q hQ hx hb hr hts hown hlk hnm hml hout hA hS hP hK hD hE hl
  have hown : s.vm.findClass RX4 = some m.cls := hown
  have hl : lv_has ls 5 [(0, .ref k0), (1, .int 1), (2, .int p1)] := hl
  have hG := F_most_1_u mostKilos p1
  refine lv_aload_n hx hb dX4_most_0 rfl (lv_at hl 0 rfl) ?_
  refine lv_iload_n hx hb dX4_most_1 rfl (lv_at hl 1 rfl) ?_
  refine my_xr (wr := [(h0, .inr (1, [.int wayToOther, .ref h1, .ref h2, .int place, .int speed, .int way, .int topSpeed, .int gain, .int brake, .int darkSpeed, .int rideSpeed, .int kilos, .int mostKilos, .int openContacts, .int fireFloor, .int ride, .int starts, .int distance, .int hardFalls]))]) [0] [1] [1, 0] (vx_runV (As := [.int 1]) (rest := []) ⟨hx, hb, hml, hown, hts⟩ (c_carOf_1 l hl9 D aI aL aZ _ k0 h4 powered stepsDone h0 lo) (cwV 1 hts (gV w_393 w_395 w_2 w_35 w_396) rfl rfl rfl (by decide +kernel) ⟨Nat.le_of_ble_eq_true rfl, Nat.le_of_ble_eq_true rfl⟩) (prev_of hK hP hD hS hA hE [0] rfl (by decide) (ci := 4) rfl 0 rfl _) rfl rfl hl.1 rfl (lv_room (Nat.le_of_ble_eq_true rfl)) dX4_most_2 ⟨Nat.le_of_ble_eq_true rfl, Nat.le_of_ble_eq_true rfl⟩) hP hD hS hA rfl rfl (by decide) (by decide) hQ (fun _ h9 => ⟨hG.trans (cx_l h9.1), (False.elim h9.2)⟩) hout hlk rfl (by decide) (Nat.le_of_ble_eq_true rfl) (Nat.le_of_ble_eq_true rfl) (fun u_ H locs hw_1 hP hD hS => ?_)
  have hw_1 : F_carOf_1 = .inr () := hw_1
  have hG := hG.trans (cx_r hw_1)
  have hP : va_P D vwCl [(h0, .inr (1, [.int wayToOther, .ref h1, .ref h2, .int place, .int speed, .int way, .int topSpeed, .int gain, .int brake, .int darkSpeed, .int rideSpeed, .int kilos, .int mostKilos, .int openContacts, .int fireFloor, .int ride, .int starts, .int distance, .int hardFalls])), (k0, .inr (4, [.ref h4, lo, .ref h0, .int powered, .int stepsDone]))] H := hP
  have hD : va_D A [(h0, .inr (1, [.int wayToOther, .ref h1, .ref h2, .int place, .int speed, .int way, .int topSpeed, .int gain, .int brake, .int darkSpeed, .int rideSpeed, .int kilos, .int mostKilos, .int openContacts, .int fireFloor, .int ride, .int starts, .int distance, .int hardFalls])), (k0, .inr (4, [.ref h4, lo, .ref h0, .int powered, .int stepsDone]))] := hD
  refine lv_astore_n (lv' := [(3, .ref h0), (0, .ref k0), (1, .int 1), (2, .int p1)]) hx hb dX4_most_5 rfl hl (by decide) rfl (fun ls hl => ?_)
  refine lv_iload_n hx hb dX4_most_6 rfl (lv_at hl 3 rfl) ?_
  refine lv_iconst (v := 0) hx hb dX4_most_7 (by decide) ?_
  refine lv_sipush (v := 10000) hx hb dX4_most_8 (by decide) ?_
  refine my_xv (wr := [(h0, .inr (1, [.int wayToOther, .ref h1, .ref h2, .int place, .int speed, .int way, .int topSpeed, .int gain, .int brake, .int darkSpeed, .int rideSpeed, .int kilos, .int mostKilos, .int openContacts, .int fireFloor, .int ride, .int starts, .int distance, .int hardFalls])), (k0, .inr (4, [.ref h4, lo, .ref h0, .int powered, .int stepsDone]))]) [] [0, 1] [1, 0] (vx_runS (As := [.int p1, .int 0, .int 10000]) (rest := []) ⟨hx, hb, hml, hown, hts⟩ (c_refuseOutside l hl9 D aI aL aZ _ p1 0 10000) (va_cwS 3 hts (gS w_115 w_116 w_35 w_117) rfl rfl rfl (by decide +kernel) ⟨Nat.le_of_ble_eq_true rfl, Nat.le_of_ble_eq_true rfl⟩) (pre_of hK hP hD hS hA hE [] rfl (by decide) _) rfl rfl hl.1 rfl (lv_room (Nat.le_of_ble_eq_true rfl)) dX4_most_11 ⟨Nat.le_of_ble_eq_true rfl, Nat.le_of_ble_eq_true rfl⟩) hP hD hS hA rfl rfl (by decide) (by decide) hQ (fun _ h9 => ⟨hG.trans (cx_l h9.1), h9.2⟩) hout hlk rfl (by decide) (Nat.le_of_ble_eq_true rfl) (Nat.le_of_ble_eq_true rfl) (fun u_ H locs hw_2 hP hD hS => ?_)
  have hw_2 : F_refuseOutside p1 0 10000 = .inr () := hw_2
  have hG := hG.trans (cx_r hw_2)
  have hP : va_P D vwCl [(h0, .inr (1, [.int wayToOther, .ref h1, .ref h2, .int place, .int speed, .int way, .int topSpeed, .int gain, .int brake, .int darkSpeed, .int rideSpeed, .int kilos, .int mostKilos, .int openContacts, .int fireFloor, .int ride, .int starts, .int distance, .int hardFalls])), (k0, .inr (4, [.ref h4, lo, .ref h0, .int powered, .int stepsDone]))] H := hP
  have hD : va_D A [(h0, .inr (1, [.int wayToOther, .ref h1, .ref h2, .int place, .int speed, .int way, .int topSpeed, .int gain, .int brake, .int darkSpeed, .int rideSpeed, .int kilos, .int mostKilos, .int openContacts, .int fireFloor, .int ride, .int starts, .int distance, .int hardFalls])), (k0, .inr (4, [.ref h4, lo, .ref h0, .int powered, .int stepsDone]))] := hD
  refine lv_aload_n hx hb dX4_most_14 rfl (lv_at hl 0 rfl) ?_
  refine va_getN (D := D) (ci := 1) (v := .int mostKilos) (C := RX1) (T := TX1) (N := 19) hx hb hts inX1 hown hK hP 0 rfl rfl 12 (by decide) (nwF hE 23 rfl) (fun _ h9 => h9) rfl dX4_most_15 ?_
  refine lv_istore (lv' := [(4, .int mostKilos), (3, .ref h0), (0, .ref k0), (1, .int 1), (2, .int p1)]) hx hb dX4_most_18 hl (by decide) rfl (fun ls hl => ?_)
  refine lv_aload_n hx hb dX4_most_20 rfl (lv_at hl 1 rfl) ?_
  refine lv_iload_n hx hb dX4_most_21 rfl (lv_at hl 4 rfl) ?_
  refine va_putN (D := D) (ci := 1) (v := .int p1) (ty := .int) (C := RX1) (T := TX1) (N := 19) hx hb hts inX1 tyX1 tyX1_ok nmX1 hown hK hP hD hS 0 rfl rfl 12 (by decide) (nwF hE 23 rfl) (fun _ h9 => h9) rfl (by decide +kernel) rfl rfl (Nat.le_of_ble_eq_true rfl) dX4_most_22 (fun H locs hP hD hS => ?_)
  have hP : va_P D vwCl [(h0, .inr (1, [.int wayToOther, .ref h1, .ref h2, .int place, .int speed, .int way, .int topSpeed, .int gain, .int brake, .int darkSpeed, .int rideSpeed, .int kilos, .int p1, .int openContacts, .int fireFloor, .int ride, .int starts, .int distance, .int hardFalls])), (k0, .inr (4, [.ref h4, lo, .ref h0, .int powered, .int stepsDone]))] H := hP
  have hD : va_D A [(h0, .inr (1, [.int wayToOther, .ref h1, .ref h2, .int place, .int speed, .int way, .int topSpeed, .int gain, .int brake, .int darkSpeed, .int rideSpeed, .int kilos, .int p1, .int openContacts, .int fireFloor, .int ride, .int starts, .int distance, .int hardFalls])), (k0, .inr (4, [.ref h4, lo, .ref h0, .int powered, .int stepsDone]))] := hD
  refine lv_iload hx hb dX4_most_25 (lv_at hl 0 rfl) ?_
  have hP := hP.sub (ws' := [(k0, .inr (4, [.ref h4, lo, .ref h0, .int powered, .int stepsDone])), (h0, .inr (1, [.int wayToOther, .ref h1, .ref h2, .int place, .int speed, .int way, .int topSpeed, .int gain, .int brake, .int darkSpeed, .int rideSpeed, .int kilos, .int p1, .int openContacts, .int fireFloor, .int ride, .int starts, .int distance, .int hardFalls]))]) [1, 0] rfl
  have hD := hD.sub (ws' := [(k0, .inr (4, [.ref h4, lo, .ref h0, .int powered, .int stepsDone])), (h0, .inr (1, [.int wayToOther, .ref h1, .ref h2, .int place, .int speed, .int way, .int topSpeed, .int gain, .int brake, .int darkSpeed, .int rideSpeed, .int kilos, .int p1, .int openContacts, .int fireFloor, .int ride, .int starts, .int distance, .int hardFalls]))]) [1, 0] (by decide) rfl
  exact rtx_i hQ hx hb hr () hG hP hD hS (Nat.le_of_ble_eq_true rfl) (Nat.le_of_ble_eq_true rfl) dX4_most_27 hlk
def F_most_0n : Int32 ⊕ Int32 :=
  cx F_carOf_0n fun _ =>
    .inl 0
theorem F_most_0n_u : F_most_0n =
  (cx F_carOf_0n fun _ =>
    .inl 0) := rfl
set_option maxHeartbeats 4000000 in
set_option maxRecDepth 100000 in
theorem c_most_0n (l : Launch) (hl9 : l.stackTraces = false) (D : va_G) (aI aL aZ : ClassId) (sz : Nat) (k0 : Nat) (h4 : Nat) (powered : Int32) (stepsDone : Int32) (up : Value) (p1 : Int32) : vx_Met l yX4_most (.code yX4_most cX4_most 5 (some .int) :: Gw) ({ frames := 7, cells := 1, slots := 6, locals := 114 }) (va_Pc [.ref k0, .int 0, .int p1] (mpre D [(aI, .int), (aL, .long), (aZ, .boolean)] [(k0, .inr (4, [.ref h4, .null, up, .int powered, .int stepsDone]))] sz)) ((fun A : Nat → Prop => va_Qi (fun (r : Int32) (u : Unit) => False) (mpst D A (fun (u : Unit) => [(k0, .inr (4, [.ref h4, .null, up, .int powered, .int stepsDone]))])) A) (va_A ([(k0, .inr (4, [.ref h4, .null, up, .int powered, .int stepsDone]))]) sz)) ((fun A : Nat → Prop => vx_X (fun u : Int32 => F_most_0n = .inl u ∧ (u = 1)) (mpsx D A [(k0, .inr (4, [.ref h4, .null, up, .int powered, .int stepsDone]))]) A) (va_A ([(k0, .inr (4, [.ref h4, .null, up, .int powered, .int stepsDone]))]) sz)) 1 6 (va_A ([(k0, .inr (4, [.ref h4, .null, up, .int powered, .int stepsDone]))]) sz) := by
  refine enx (cc := cX4_most) (maxL := 5) (ret := (some .int)) (Qc := (fun A : Nat → Prop => va_Qi (fun (r : Int32) (u : Unit) => False) (mpst D A (fun (u : Unit) => [(k0, .inr (4, [.ref h4, .null, up, .int powered, .int stepsDone]))])) A)) (XC := (fun A : Nat → Prop => vx_X (fun u : Int32 => F_most_0n = .inl u ∧ (u = 1)) (mpsx D A [(k0, .inr (4, [.ref h4, .null, up, .int powered, .int stepsDone]))]) A)) (by decide) rfl (Nat.le_of_ble_eq_true rfl) ?_
  intro p e s m args below meth c A ls Q hQ hx hb hr hts hown hlk hnm hml hout hA hS hP hK hD hE hl
  have hown : s.vm.findClass RX4 = some m.cls := hown
  have hl : lv_has ls 5 [(0, .ref k0), (1, .int 0), (2, .int p1)] := hl
  have hG := F_most_0n_u
  refine lv_aload_n hx hb dX4_most_0 rfl (lv_at hl 0 rfl) ?_
  refine lv_iload_n hx hb dX4_most_1 rfl (lv_at hl 1 rfl) ?_
  refine my_xr (wr := []) [0] [] [0] (vx_runV (As := [.int 0]) (rest := []) ⟨hx, hb, hml, hown, hts⟩ (c_carOf_0n l hl9 D aI aL aZ _ k0 h4 powered stepsDone up) (cwV 1 hts (gV w_393 w_395 w_2 w_35 w_396) rfl rfl rfl (by decide +kernel) ⟨Nat.le_of_ble_eq_true rfl, Nat.le_of_ble_eq_true rfl⟩) (prev_of hK hP hD hS hA hE [0] rfl (by decide) (ci := 4) rfl 0 rfl _) rfl rfl hl.1 rfl (lv_room (Nat.le_of_ble_eq_true rfl)) dX4_most_2 ⟨Nat.le_of_ble_eq_true rfl, Nat.le_of_ble_eq_true rfl⟩) hP hD hS hA rfl rfl (by decide) (by decide) hQ (fun _ h9 => ⟨hG.trans (cx_l h9.1), h9.2⟩) hout hlk rfl (by decide) (Nat.le_of_ble_eq_true rfl) (Nat.le_of_ble_eq_true rfl) (fun u_ H locs hw_1 hP hD hS => ?_)
  exact False.elim hw_1
def F_most_1n : Int32 ⊕ Int32 :=
  cx F_carOf_1n fun _ =>
    .inl 0
theorem F_most_1n_u : F_most_1n =
  (cx F_carOf_1n fun _ =>
    .inl 0) := rfl
set_option maxHeartbeats 4000000 in
set_option maxRecDepth 100000 in
theorem c_most_1n (l : Launch) (hl9 : l.stackTraces = false) (D : va_G) (aI aL aZ : ClassId) (sz : Nat) (k0 : Nat) (h4 : Nat) (powered : Int32) (stepsDone : Int32) (lo : Value) (p1 : Int32) : vx_Met l yX4_most (.code yX4_most cX4_most 5 (some .int) :: Gw) ({ frames := 7, cells := 1, slots := 6, locals := 114 }) (va_Pc [.ref k0, .int 1, .int p1] (mpre D [(aI, .int), (aL, .long), (aZ, .boolean)] [(k0, .inr (4, [.ref h4, lo, .null, .int powered, .int stepsDone]))] sz)) ((fun A : Nat → Prop => va_Qi (fun (r : Int32) (u : Unit) => False) (mpst D A (fun (u : Unit) => [(k0, .inr (4, [.ref h4, lo, .null, .int powered, .int stepsDone]))])) A) (va_A ([(k0, .inr (4, [.ref h4, lo, .null, .int powered, .int stepsDone]))]) sz)) ((fun A : Nat → Prop => vx_X (fun u : Int32 => F_most_1n = .inl u ∧ (u = 1)) (mpsx D A [(k0, .inr (4, [.ref h4, lo, .null, .int powered, .int stepsDone]))]) A) (va_A ([(k0, .inr (4, [.ref h4, lo, .null, .int powered, .int stepsDone]))]) sz)) 1 6 (va_A ([(k0, .inr (4, [.ref h4, lo, .null, .int powered, .int stepsDone]))]) sz) := by
  refine enx (cc := cX4_most) (maxL := 5) (ret := (some .int)) (Qc := (fun A : Nat → Prop => va_Qi (fun (r : Int32) (u : Unit) => False) (mpst D A (fun (u : Unit) => [(k0, .inr (4, [.ref h4, lo, .null, .int powered, .int stepsDone]))])) A)) (XC := (fun A : Nat → Prop => vx_X (fun u : Int32 => F_most_1n = .inl u ∧ (u = 1)) (mpsx D A [(k0, .inr (4, [.ref h4, lo, .null, .int powered, .int stepsDone]))]) A)) (by decide) rfl (Nat.le_of_ble_eq_true rfl) ?_
  intro p e s m args below meth c A ls Q hQ hx hb hr hts hown hlk hnm hml hout hA hS hP hK hD hE hl
  have hown : s.vm.findClass RX4 = some m.cls := hown
  have hl : lv_has ls 5 [(0, .ref k0), (1, .int 1), (2, .int p1)] := hl
  have hG := F_most_1n_u
  refine lv_aload_n hx hb dX4_most_0 rfl (lv_at hl 0 rfl) ?_
  refine lv_iload_n hx hb dX4_most_1 rfl (lv_at hl 1 rfl) ?_
  refine my_xr (wr := []) [0] [] [0] (vx_runV (As := [.int 1]) (rest := []) ⟨hx, hb, hml, hown, hts⟩ (c_carOf_1n l hl9 D aI aL aZ _ k0 h4 powered stepsDone lo) (cwV 1 hts (gV w_393 w_395 w_2 w_35 w_396) rfl rfl rfl (by decide +kernel) ⟨Nat.le_of_ble_eq_true rfl, Nat.le_of_ble_eq_true rfl⟩) (prev_of hK hP hD hS hA hE [0] rfl (by decide) (ci := 4) rfl 0 rfl _) rfl rfl hl.1 rfl (lv_room (Nat.le_of_ble_eq_true rfl)) dX4_most_2 ⟨Nat.le_of_ble_eq_true rfl, Nat.le_of_ble_eq_true rfl⟩) hP hD hS hA rfl rfl (by decide) (by decide) hQ (fun _ h9 => ⟨hG.trans (cx_l h9.1), h9.2⟩) hout hlk rfl (by decide) (Nat.le_of_ble_eq_true rfl) (Nat.le_of_ble_eq_true rfl) (fun u_ H locs hw_1 hP hD hS => ?_)
  exact False.elim hw_1
def F_most_x : Int32 ⊕ Int32 :=
  cx F_carOf_x fun _ =>
    .inl 0
theorem F_most_x_u : F_most_x =
  (cx F_carOf_x fun _ =>
    .inl 0) := rfl
set_option maxHeartbeats 4000000 in
set_option maxRecDepth 100000 in
theorem c_most_x (l : Launch) (hl9 : l.stackTraces = false) (D : va_G) (aI aL aZ : ClassId) (sz : Nat) (k0 : Nat) (h4 : Nat) (powered : Int32) (stepsDone : Int32) (lo : Value) (up : Value) (p0 : Int32) (p1 : Int32) (h9 : ¬ p0 = 0) (h8 : ¬ p0 = 1) : vx_Met l yX4_most (.code yX4_most cX4_most 5 (some .int) :: Gw) ({ frames := 7, cells := 1, slots := 6, locals := 114 }) (va_Pc [.ref k0, .int p0, .int p1] (mpre D [(aI, .int), (aL, .long), (aZ, .boolean)] [(k0, .inr (4, [.ref h4, lo, up, .int powered, .int stepsDone]))] sz)) ((fun A : Nat → Prop => va_Qi (fun (r : Int32) (u : Unit) => False) (mpst D A (fun (u : Unit) => [(k0, .inr (4, [.ref h4, lo, up, .int powered, .int stepsDone]))])) A) (va_A ([(k0, .inr (4, [.ref h4, lo, up, .int powered, .int stepsDone]))]) sz)) ((fun A : Nat → Prop => vx_X (fun u : Int32 => F_most_x = .inl u ∧ (u = 1)) (mpsx D A [(k0, .inr (4, [.ref h4, lo, up, .int powered, .int stepsDone]))]) A) (va_A ([(k0, .inr (4, [.ref h4, lo, up, .int powered, .int stepsDone]))]) sz)) 1 6 (va_A ([(k0, .inr (4, [.ref h4, lo, up, .int powered, .int stepsDone]))]) sz) := by
  refine enx (cc := cX4_most) (maxL := 5) (ret := (some .int)) (Qc := (fun A : Nat → Prop => va_Qi (fun (r : Int32) (u : Unit) => False) (mpst D A (fun (u : Unit) => [(k0, .inr (4, [.ref h4, lo, up, .int powered, .int stepsDone]))])) A)) (XC := (fun A : Nat → Prop => vx_X (fun u : Int32 => F_most_x = .inl u ∧ (u = 1)) (mpsx D A [(k0, .inr (4, [.ref h4, lo, up, .int powered, .int stepsDone]))]) A)) (by decide) rfl (Nat.le_of_ble_eq_true rfl) ?_
  intro p e s m args below meth c A ls Q hQ hx hb hr hts hown hlk hnm hml hout hA hS hP hK hD hE hl
  have hown : s.vm.findClass RX4 = some m.cls := hown
  have hl : lv_has ls 5 [(0, .ref k0), (1, .int p0), (2, .int p1)] := hl
  have hG := F_most_x_u
  refine lv_aload_n hx hb dX4_most_0 rfl (lv_at hl 0 rfl) ?_
  refine lv_iload_n hx hb dX4_most_1 rfl (lv_at hl 1 rfl) ?_
  refine my_xr (wr := []) [0] [] [0] (vx_runV (As := [.int p0]) (rest := []) ⟨hx, hb, hml, hown, hts⟩ (c_carOf_x l hl9 D aI aL aZ _ k0 h4 powered stepsDone lo up p0 h9 h8) (cwV 1 hts (gV w_393 w_395 w_2 w_35 w_396) rfl rfl rfl (by decide +kernel) ⟨Nat.le_of_ble_eq_true rfl, Nat.le_of_ble_eq_true rfl⟩) (prev_of hK hP hD hS hA hE [0] rfl (by decide) (ci := 4) rfl 0 rfl _) rfl rfl hl.1 rfl (lv_room (Nat.le_of_ble_eq_true rfl)) dX4_most_2 ⟨Nat.le_of_ble_eq_true rfl, Nat.le_of_ble_eq_true rfl⟩) hP hD hS hA rfl rfl (by decide) (by decide) hQ (fun _ h9 => ⟨hG.trans (cx_l h9.1), h9.2⟩) hout hlk rfl (by decide) (Nat.le_of_ble_eq_true rfl) (Nat.le_of_ble_eq_true rfl) (fun u_ H locs hw_1 hP hD hS => ?_)
  exact False.elim hw_1
theorem dX4_fire_0 : decode cX4_fire 0 = .ok (.aload_n 0, 1) := by decide +kernel
theorem dX4_fire_1 : decode cX4_fire 1 = .ok (.iload_n 1, 1) := by decide +kernel
theorem dX4_fire_2 : decode cX4_fire 2 = .ok (.invokevirtual 84, 3) := by decide +kernel
theorem dX4_fire_5 : decode cX4_fire 5 = .ok (.astore_n 3, 1) := by decide +kernel
theorem dX4_fire_6 : decode cX4_fire 6 = .ok (.iload_n 2, 1) := by decide +kernel
theorem dX4_fire_7 : decode cX4_fire 7 = .ok (.iconst (-1), 1) := by decide +kernel
theorem dX4_fire_8 : decode cX4_fire 8 = .ok (.aload_n 0, 1) := by decide +kernel
theorem dX4_fire_9 : decode cX4_fire 9 = .ok (.getfield 23, 3) := by decide +kernel
theorem dX4_fire_12 : decode cX4_fire 12 = .ok (.invokevirtual 31, 3) := by decide +kernel
theorem dX4_fire_15 : decode cX4_fire 15 = .ok (.invokestatic 35, 3) := by decide +kernel
theorem dX4_fire_18 : decode cX4_fire 18 = .ok (.aload_n 3, 1) := by decide +kernel
theorem dX4_fire_19 : decode cX4_fire 19 = .ok (.getfield 171, 3) := by decide +kernel
theorem dX4_fire_22 : decode cX4_fire 22 = .ok (.istore 4, 2) := by decide +kernel
theorem dX4_fire_24 : decode cX4_fire 24 = .ok (.aload_n 3, 1) := by decide +kernel
theorem dX4_fire_25 : decode cX4_fire 25 = .ok (.iload_n 2, 1) := by decide +kernel
theorem dX4_fire_26 : decode cX4_fire 26 = .ok (.putfield 171, 3) := by decide +kernel
theorem dX4_fire_29 : decode cX4_fire 29 = .ok (.iload 4, 2) := by decide +kernel
theorem dX4_fire_31 : decode cX4_fire 31 = .ok (.ireturn, 1) := by decide +kernel
def F_fire_0 (fireFloor : Int32) (n : Nat) (p1 : Int32) : Int32 ⊕ Int32 :=
  cx F_carOf_0 fun _ =>
    cb (F_topFloor n) fun r_2 =>
      cx (F_refuseOutside p1 (-1) r_2) fun _ =>
        .inr fireFloor
theorem F_fire_0_u (fireFloor : Int32) (n : Nat) (p1 : Int32) : F_fire_0 fireFloor n p1 =
  (cx F_carOf_0 fun _ =>
    cb (F_topFloor n) fun r_2 =>
      cx (F_refuseOutside p1 (-1) r_2) fun _ =>
        .inr fireFloor) := rfl
set_option maxHeartbeats 4000000 in
set_option maxRecDepth 100000 in
theorem c_fire_0 (l : Launch) (hl9 : l.stackTraces = false) (D : va_G) (aI aL aZ : ClassId) (sz : Nat) (k0 : Nat) (h4 : Nat) (powered : Int32) (stepsDone : Int32) (up : Value) (h0 : Nat) (h1 : Nat) (h2 : Nat) (wayToOther : Int32) (place : Int32) (speed : Int32) (way : Int32) (topSpeed : Int32) (gain : Int32) (brake : Int32) (darkSpeed : Int32) (rideSpeed : Int32) (kilos : Int32) (mostKilos : Int32) (openContacts : Int32) (fireFloor : Int32) (ride : Int32) (starts : Int32) (distance : Int32) (hardFalls : Int32) (h5 : Nat) (gap : Int32) (n : Nat) (pf : Nat → Int32) (p1 : Int32) : vx_Met l yX4_fire (.code yX4_fire cX4_fire 5 (some .int) :: Gw) ({ frames := 7, cells := 1, slots := 6, locals := 114 }) (va_Pc [.ref k0, .int 0, .int p1] (mpre D [(aI, .int), (aL, .long), (aZ, .boolean)] [(k0, .inr (4, [.ref h4, .ref h0, up, .int powered, .int stepsDone])), (h0, .inr (1, [.int wayToOther, .ref h1, .ref h2, .int place, .int speed, .int way, .int topSpeed, .int gain, .int brake, .int darkSpeed, .int rideSpeed, .int kilos, .int mostKilos, .int openContacts, .int fireFloor, .int ride, .int starts, .int distance, .int hardFalls])), (h4, .inr (3, [.ref h5, .int gap])), (h5, .inl (aI, n, .inl pf))] sz)) ((fun A : Nat → Prop => va_Qi (fun (r : Int32) (u : Unit) => F_fire_0 fireFloor n p1 = .inr r) (mpst D A (fun (u : Unit) => [(k0, .inr (4, [.ref h4, .ref h0, up, .int powered, .int stepsDone])), (h0, .inr (1, [.int wayToOther, .ref h1, .ref h2, .int place, .int speed, .int way, .int topSpeed, .int gain, .int brake, .int darkSpeed, .int rideSpeed, .int kilos, .int mostKilos, .int openContacts, .int p1, .int ride, .int starts, .int distance, .int hardFalls])), (h4, .inr (3, [.ref h5, .int gap])), (h5, .inl (aI, n, .inl pf))])) A) (va_A ([(k0, .inr (4, [.ref h4, .ref h0, up, .int powered, .int stepsDone])), (h0, .inr (1, [.int wayToOther, .ref h1, .ref h2, .int place, .int speed, .int way, .int topSpeed, .int gain, .int brake, .int darkSpeed, .int rideSpeed, .int kilos, .int mostKilos, .int openContacts, .int fireFloor, .int ride, .int starts, .int distance, .int hardFalls])), (h4, .inr (3, [.ref h5, .int gap])), (h5, .inl (aI, n, .inl pf))]) sz)) ((fun A : Nat → Prop => vx_X (fun u : Int32 => F_fire_0 fireFloor n p1 = .inl u ∧ (u = 1)) (mpsx D A [(k0, .inr (4, [.ref h4, .ref h0, up, .int powered, .int stepsDone])), (h0, .inr (1, [.int wayToOther, .ref h1, .ref h2, .int place, .int speed, .int way, .int topSpeed, .int gain, .int brake, .int darkSpeed, .int rideSpeed, .int kilos, .int mostKilos, .int openContacts, .int fireFloor, .int ride, .int starts, .int distance, .int hardFalls])), (h4, .inr (3, [.ref h5, .int gap])), (h5, .inl (aI, n, .inl pf))]) A) (va_A ([(k0, .inr (4, [.ref h4, .ref h0, up, .int powered, .int stepsDone])), (h0, .inr (1, [.int wayToOther, .ref h1, .ref h2, .int place, .int speed, .int way, .int topSpeed, .int gain, .int brake, .int darkSpeed, .int rideSpeed, .int kilos, .int mostKilos, .int openContacts, .int fireFloor, .int ride, .int starts, .int distance, .int hardFalls])), (h4, .inr (3, [.ref h5, .int gap])), (h5, .inl (aI, n, .inl pf))]) sz)) 1 6 (va_A ([(k0, .inr (4, [.ref h4, .ref h0, up, .int powered, .int stepsDone])), (h0, .inr (1, [.int wayToOther, .ref h1, .ref h2, .int place, .int speed, .int way, .int topSpeed, .int gain, .int brake, .int darkSpeed, .int rideSpeed, .int kilos, .int mostKilos, .int openContacts, .int fireFloor, .int ride, .int starts, .int distance, .int hardFalls])), (h4, .inr (3, [.ref h5, .int gap])), (h5, .inl (aI, n, .inl pf))]) sz) := by
  refine enx (cc := cX4_fire) (maxL := 5) (ret := (some .int)) (Qc := (fun A : Nat → Prop => va_Qi (fun (r : Int32) (u : Unit) => F_fire_0 fireFloor n p1 = .inr r) (mpst D A (fun (u : Unit) => [(k0, .inr (4, [.ref h4, .ref h0, up, .int powered, .int stepsDone])), (h0, .inr (1, [.int wayToOther, .ref h1, .ref h2, .int place, .int speed, .int way, .int topSpeed, .int gain, .int brake, .int darkSpeed, .int rideSpeed, .int kilos, .int mostKilos, .int openContacts, .int p1, .int ride, .int starts, .int distance, .int hardFalls])), (h4, .inr (3, [.ref h5, .int gap])), (h5, .inl (aI, n, .inl pf))])) A)) (XC := (fun A : Nat → Prop => vx_X (fun u : Int32 => F_fire_0 fireFloor n p1 = .inl u ∧ (u = 1)) (mpsx D A [(k0, .inr (4, [.ref h4, .ref h0, up, .int powered, .int stepsDone])), (h0, .inr (1, [.int wayToOther, .ref h1, .ref h2, .int place, .int speed, .int way, .int topSpeed, .int gain, .int brake, .int darkSpeed, .int rideSpeed, .int kilos, .int mostKilos, .int openContacts, .int fireFloor, .int ride, .int starts, .int distance, .int hardFalls])), (h4, .inr (3, [.ref h5, .int gap])), (h5, .inl (aI, n, .inl pf))]) A)) (by decide) rfl (Nat.le_of_ble_eq_true rfl) ?_
  intro p e s m args below meth c A ls Q hQ hx hb hr hts hown hlk hnm hml hout hA hS hP hK hD hE hl
  have hown : s.vm.findClass RX4 = some m.cls := hown
  have hl : lv_has ls 5 [(0, .ref k0), (1, .int 0), (2, .int p1)] := hl
  have hG := F_fire_0_u fireFloor n p1
  refine lv_aload_n hx hb dX4_fire_0 rfl (lv_at hl 0 rfl) ?_
  refine lv_iload_n hx hb dX4_fire_1 rfl (lv_at hl 1 rfl) ?_
  refine my_xr (wr := [(h0, .inr (1, [.int wayToOther, .ref h1, .ref h2, .int place, .int speed, .int way, .int topSpeed, .int gain, .int brake, .int darkSpeed, .int rideSpeed, .int kilos, .int mostKilos, .int openContacts, .int fireFloor, .int ride, .int starts, .int distance, .int hardFalls])), (h4, .inr (3, [.ref h5, .int gap])), (h5, .inl (aI, n, .inl pf))]) [0] [1, 2, 3] [3, 0, 1, 2] (vx_runV (As := [.int 0]) (rest := []) ⟨hx, hb, hml, hown, hts⟩ (c_carOf_0 l hl9 D aI aL aZ _ k0 h4 powered stepsDone h0 up) (cwV 1 hts (gV w_393 w_395 w_2 w_35 w_396) rfl rfl rfl (by decide +kernel) ⟨Nat.le_of_ble_eq_true rfl, Nat.le_of_ble_eq_true rfl⟩) (prev_of hK hP hD hS hA hE [0] rfl (by decide) (ci := 4) rfl 0 rfl _) rfl rfl hl.1 rfl (lv_room (Nat.le_of_ble_eq_true rfl)) dX4_fire_2 ⟨Nat.le_of_ble_eq_true rfl, Nat.le_of_ble_eq_true rfl⟩) hP hD hS hA rfl rfl (by decide) (by decide) hQ (fun _ h9 => ⟨hG.trans (cx_l h9.1), (False.elim h9.2)⟩) hout hlk rfl (by decide) (Nat.le_of_ble_eq_true rfl) (Nat.le_of_ble_eq_true rfl) (fun u_ H locs hw_1 hP hD hS => ?_)
  have hw_1 : F_carOf_0 = .inr () := hw_1
  have hG := hG.trans (cx_r hw_1)
  have hP : va_P D vwCl [(h0, .inr (1, [.int wayToOther, .ref h1, .ref h2, .int place, .int speed, .int way, .int topSpeed, .int gain, .int brake, .int darkSpeed, .int rideSpeed, .int kilos, .int mostKilos, .int openContacts, .int fireFloor, .int ride, .int starts, .int distance, .int hardFalls])), (h4, .inr (3, [.ref h5, .int gap])), (h5, .inl (aI, n, .inl pf)), (k0, .inr (4, [.ref h4, .ref h0, up, .int powered, .int stepsDone]))] H := hP
  have hD : va_D A [(h0, .inr (1, [.int wayToOther, .ref h1, .ref h2, .int place, .int speed, .int way, .int topSpeed, .int gain, .int brake, .int darkSpeed, .int rideSpeed, .int kilos, .int mostKilos, .int openContacts, .int fireFloor, .int ride, .int starts, .int distance, .int hardFalls])), (h4, .inr (3, [.ref h5, .int gap])), (h5, .inl (aI, n, .inl pf)), (k0, .inr (4, [.ref h4, .ref h0, up, .int powered, .int stepsDone]))] := hD
  refine lv_astore_n (lv' := [(3, .ref h0), (0, .ref k0), (1, .int 0), (2, .int p1)]) hx hb dX4_fire_5 rfl hl (by decide) rfl (fun ls hl => ?_)
  refine lv_iload_n hx hb dX4_fire_6 rfl (lv_at hl 3 rfl) ?_
  refine lv_iconst (v := (-1)) hx hb dX4_fire_7 (by decide) ?_
  refine lv_aload_n hx hb dX4_fire_8 rfl (lv_at hl 1 rfl) ?_
  refine va_get (D := D) (ci := 4) (v := .ref h4) (C := RX4) (T := TX4) (N := 5) hx hb hts inX4 hown hK hP 3 rfl rfl 0 (by decide) (hts _ (mG w_79)) (fun _ h9 => h9) rfl dX4_fire_9 ?_
  refine my_i (wr := [(h0, .inr (1, [.int wayToOther, .ref h1, .ref h2, .int place, .int speed, .int way, .int topSpeed, .int gain, .int brake, .int darkSpeed, .int rideSpeed, .int kilos, .int mostKilos, .int openContacts, .int fireFloor, .int ride, .int starts, .int distance, .int hardFalls])), (k0, .inr (4, [.ref h4, .ref h0, up, .int powered, .int stepsDone]))]) [1, 2] [0, 3] (va_runV (As := []) (rest := [.int (-1), .int p1]) ⟨hx, hb, hml, hown, hts⟩ (c_topFloor l D aI aL aZ _ h4 h5 gap n pf) (cwV 0 hts (gV w_111 w_112 w_113 w_36 w_114) rfl rfl rfl (by decide +kernel) ⟨Nat.le_of_ble_eq_true rfl, Nat.le_of_ble_eq_true rfl⟩) (prev_of hK hP hD hS hA hE [1, 2] rfl (by decide) (ci := 3) rfl 1 rfl _) rfl rfl hl.1 rfl (lv_room (Nat.le_of_ble_eq_true rfl)) dX4_fire_12 ⟨Nat.le_of_ble_eq_true rfl, Nat.le_of_ble_eq_true rfl⟩) hP hD hS hA rfl rfl (by decide) (by decide) (fun r_2 u_ H locs hw_3 hP hD hS => ?_)
  have hw_3 : F_topFloor n = r_2 := hw_3
  have hG := hG.trans (cb_e hw_3)
  have hP : va_P D vwCl [(h0, .inr (1, [.int wayToOther, .ref h1, .ref h2, .int place, .int speed, .int way, .int topSpeed, .int gain, .int brake, .int darkSpeed, .int rideSpeed, .int kilos, .int mostKilos, .int openContacts, .int fireFloor, .int ride, .int starts, .int distance, .int hardFalls])), (k0, .inr (4, [.ref h4, .ref h0, up, .int powered, .int stepsDone])), (h4, .inr (3, [.ref h5, .int gap])), (h5, .inl (aI, n, .inl pf))] H := hP
  have hD : va_D A [(h0, .inr (1, [.int wayToOther, .ref h1, .ref h2, .int place, .int speed, .int way, .int topSpeed, .int gain, .int brake, .int darkSpeed, .int rideSpeed, .int kilos, .int mostKilos, .int openContacts, .int fireFloor, .int ride, .int starts, .int distance, .int hardFalls])), (k0, .inr (4, [.ref h4, .ref h0, up, .int powered, .int stepsDone])), (h4, .inr (3, [.ref h5, .int gap])), (h5, .inl (aI, n, .inl pf))] := hD
  refine my_xv (wr := [(h0, .inr (1, [.int wayToOther, .ref h1, .ref h2, .int place, .int speed, .int way, .int topSpeed, .int gain, .int brake, .int darkSpeed, .int rideSpeed, .int kilos, .int mostKilos, .int openContacts, .int fireFloor, .int ride, .int starts, .int distance, .int hardFalls])), (k0, .inr (4, [.ref h4, .ref h0, up, .int powered, .int stepsDone])), (h4, .inr (3, [.ref h5, .int gap])), (h5, .inl (aI, n, .inl pf))]) [] [0, 1, 2, 3] [1, 0, 2, 3] (vx_runS (As := [.int p1, .int (-1), .int r_2]) (rest := []) ⟨hx, hb, hml, hown, hts⟩ (c_refuseOutside l hl9 D aI aL aZ _ p1 (-1) r_2) (va_cwS 3 hts (gS w_115 w_116 w_35 w_117) rfl rfl rfl (by decide +kernel) ⟨Nat.le_of_ble_eq_true rfl, Nat.le_of_ble_eq_true rfl⟩) (pre_of hK hP hD hS hA hE [] rfl (by decide) _) rfl rfl hl.1 rfl (lv_room (Nat.le_of_ble_eq_true rfl)) dX4_fire_15 ⟨Nat.le_of_ble_eq_true rfl, Nat.le_of_ble_eq_true rfl⟩) hP hD hS hA rfl rfl (by decide) (by decide) hQ (fun _ h9 => ⟨hG.trans (cx_l h9.1), h9.2⟩) hout hlk rfl (by decide) (Nat.le_of_ble_eq_true rfl) (Nat.le_of_ble_eq_true rfl) (fun u_ H locs hw_4 hP hD hS => ?_)
  have hw_4 : F_refuseOutside p1 (-1) r_2 = .inr () := hw_4
  have hG := hG.trans (cx_r hw_4)
  have hP : va_P D vwCl [(h0, .inr (1, [.int wayToOther, .ref h1, .ref h2, .int place, .int speed, .int way, .int topSpeed, .int gain, .int brake, .int darkSpeed, .int rideSpeed, .int kilos, .int mostKilos, .int openContacts, .int fireFloor, .int ride, .int starts, .int distance, .int hardFalls])), (k0, .inr (4, [.ref h4, .ref h0, up, .int powered, .int stepsDone])), (h4, .inr (3, [.ref h5, .int gap])), (h5, .inl (aI, n, .inl pf))] H := hP
  have hD : va_D A [(h0, .inr (1, [.int wayToOther, .ref h1, .ref h2, .int place, .int speed, .int way, .int topSpeed, .int gain, .int brake, .int darkSpeed, .int rideSpeed, .int kilos, .int mostKilos, .int openContacts, .int fireFloor, .int ride, .int starts, .int distance, .int hardFalls])), (k0, .inr (4, [.ref h4, .ref h0, up, .int powered, .int stepsDone])), (h4, .inr (3, [.ref h5, .int gap])), (h5, .inl (aI, n, .inl pf))] := hD
  refine lv_aload_n hx hb dX4_fire_18 rfl (lv_at hl 0 rfl) ?_
  refine va_getN (D := D) (ci := 1) (v := .int fireFloor) (C := RX1) (T := TX1) (N := 19) hx hb hts inX1 hown hK hP 0 rfl rfl 14 (by decide) (nwF hE 25 rfl) (fun _ h9 => h9) rfl dX4_fire_19 ?_
  refine lv_istore (lv' := [(4, .int fireFloor), (3, .ref h0), (0, .ref k0), (1, .int 0), (2, .int p1)]) hx hb dX4_fire_22 hl (by decide) rfl (fun ls hl => ?_)
  refine lv_aload_n hx hb dX4_fire_24 rfl (lv_at hl 1 rfl) ?_
  refine lv_iload_n hx hb dX4_fire_25 rfl (lv_at hl 4 rfl) ?_
  refine va_putN (D := D) (ci := 1) (v := .int p1) (ty := .int) (C := RX1) (T := TX1) (N := 19) hx hb hts inX1 tyX1 tyX1_ok nmX1 hown hK hP hD hS 0 rfl rfl 14 (by decide) (nwF hE 25 rfl) (fun _ h9 => h9) rfl (by decide +kernel) rfl rfl (Nat.le_of_ble_eq_true rfl) dX4_fire_26 (fun H locs hP hD hS => ?_)
  have hP : va_P D vwCl [(h0, .inr (1, [.int wayToOther, .ref h1, .ref h2, .int place, .int speed, .int way, .int topSpeed, .int gain, .int brake, .int darkSpeed, .int rideSpeed, .int kilos, .int mostKilos, .int openContacts, .int p1, .int ride, .int starts, .int distance, .int hardFalls])), (k0, .inr (4, [.ref h4, .ref h0, up, .int powered, .int stepsDone])), (h4, .inr (3, [.ref h5, .int gap])), (h5, .inl (aI, n, .inl pf))] H := hP
  have hD : va_D A [(h0, .inr (1, [.int wayToOther, .ref h1, .ref h2, .int place, .int speed, .int way, .int topSpeed, .int gain, .int brake, .int darkSpeed, .int rideSpeed, .int kilos, .int mostKilos, .int openContacts, .int p1, .int ride, .int starts, .int distance, .int hardFalls])), (k0, .inr (4, [.ref h4, .ref h0, up, .int powered, .int stepsDone])), (h4, .inr (3, [.ref h5, .int gap])), (h5, .inl (aI, n, .inl pf))] := hD
  refine lv_iload hx hb dX4_fire_29 (lv_at hl 0 rfl) ?_
  have hP := hP.sub (ws' := [(k0, .inr (4, [.ref h4, .ref h0, up, .int powered, .int stepsDone])), (h0, .inr (1, [.int wayToOther, .ref h1, .ref h2, .int place, .int speed, .int way, .int topSpeed, .int gain, .int brake, .int darkSpeed, .int rideSpeed, .int kilos, .int mostKilos, .int openContacts, .int p1, .int ride, .int starts, .int distance, .int hardFalls])), (h4, .inr (3, [.ref h5, .int gap])), (h5, .inl (aI, n, .inl pf))]) [1, 0, 2, 3] rfl
  have hD := hD.sub (ws' := [(k0, .inr (4, [.ref h4, .ref h0, up, .int powered, .int stepsDone])), (h0, .inr (1, [.int wayToOther, .ref h1, .ref h2, .int place, .int speed, .int way, .int topSpeed, .int gain, .int brake, .int darkSpeed, .int rideSpeed, .int kilos, .int mostKilos, .int openContacts, .int p1, .int ride, .int starts, .int distance, .int hardFalls])), (h4, .inr (3, [.ref h5, .int gap])), (h5, .inl (aI, n, .inl pf))]) [1, 0, 2, 3] (by decide) rfl
  exact rtx_i hQ hx hb hr () hG hP hD hS (Nat.le_of_ble_eq_true rfl) (Nat.le_of_ble_eq_true rfl) dX4_fire_31 hlk
def F_fire_1 (fireFloor : Int32) (n : Nat) (p1 : Int32) : Int32 ⊕ Int32 :=
  cx F_carOf_1 fun _ =>
    cb (F_topFloor n) fun r_2 =>
      cx (F_refuseOutside p1 (-1) r_2) fun _ =>
        .inr fireFloor
theorem F_fire_1_u (fireFloor : Int32) (n : Nat) (p1 : Int32) : F_fire_1 fireFloor n p1 =
  (cx F_carOf_1 fun _ =>
    cb (F_topFloor n) fun r_2 =>
      cx (F_refuseOutside p1 (-1) r_2) fun _ =>
        .inr fireFloor) := rfl
set_option maxHeartbeats 4000000 in
set_option maxRecDepth 100000 in
theorem c_fire_1 (l : Launch) (hl9 : l.stackTraces = false) (D : va_G) (aI aL aZ : ClassId) (sz : Nat) (k0 : Nat) (h4 : Nat) (powered : Int32) (stepsDone : Int32) (lo : Value) (h0 : Nat) (h1 : Nat) (h2 : Nat) (wayToOther : Int32) (place : Int32) (speed : Int32) (way : Int32) (topSpeed : Int32) (gain : Int32) (brake : Int32) (darkSpeed : Int32) (rideSpeed : Int32) (kilos : Int32) (mostKilos : Int32) (openContacts : Int32) (fireFloor : Int32) (ride : Int32) (starts : Int32) (distance : Int32) (hardFalls : Int32) (h5 : Nat) (gap : Int32) (n : Nat) (pf : Nat → Int32) (p1 : Int32) : vx_Met l yX4_fire (.code yX4_fire cX4_fire 5 (some .int) :: Gw) ({ frames := 7, cells := 1, slots := 6, locals := 114 }) (va_Pc [.ref k0, .int 1, .int p1] (mpre D [(aI, .int), (aL, .long), (aZ, .boolean)] [(k0, .inr (4, [.ref h4, lo, .ref h0, .int powered, .int stepsDone])), (h0, .inr (1, [.int wayToOther, .ref h1, .ref h2, .int place, .int speed, .int way, .int topSpeed, .int gain, .int brake, .int darkSpeed, .int rideSpeed, .int kilos, .int mostKilos, .int openContacts, .int fireFloor, .int ride, .int starts, .int distance, .int hardFalls])), (h4, .inr (3, [.ref h5, .int gap])), (h5, .inl (aI, n, .inl pf))] sz)) ((fun A : Nat → Prop => va_Qi (fun (r : Int32) (u : Unit) => F_fire_1 fireFloor n p1 = .inr r) (mpst D A (fun (u : Unit) => [(k0, .inr (4, [.ref h4, lo, .ref h0, .int powered, .int stepsDone])), (h0, .inr (1, [.int wayToOther, .ref h1, .ref h2, .int place, .int speed, .int way, .int topSpeed, .int gain, .int brake, .int darkSpeed, .int rideSpeed, .int kilos, .int mostKilos, .int openContacts, .int p1, .int ride, .int starts, .int distance, .int hardFalls])), (h4, .inr (3, [.ref h5, .int gap])), (h5, .inl (aI, n, .inl pf))])) A) (va_A ([(k0, .inr (4, [.ref h4, lo, .ref h0, .int powered, .int stepsDone])), (h0, .inr (1, [.int wayToOther, .ref h1, .ref h2, .int place, .int speed, .int way, .int topSpeed, .int gain, .int brake, .int darkSpeed, .int rideSpeed, .int kilos, .int mostKilos, .int openContacts, .int fireFloor, .int ride, .int starts, .int distance, .int hardFalls])), (h4, .inr (3, [.ref h5, .int gap])), (h5, .inl (aI, n, .inl pf))]) sz)) ((fun A : Nat → Prop => vx_X (fun u : Int32 => F_fire_1 fireFloor n p1 = .inl u ∧ (u = 1)) (mpsx D A [(k0, .inr (4, [.ref h4, lo, .ref h0, .int powered, .int stepsDone])), (h0, .inr (1, [.int wayToOther, .ref h1, .ref h2, .int place, .int speed, .int way, .int topSpeed, .int gain, .int brake, .int darkSpeed, .int rideSpeed, .int kilos, .int mostKilos, .int openContacts, .int fireFloor, .int ride, .int starts, .int distance, .int hardFalls])), (h4, .inr (3, [.ref h5, .int gap])), (h5, .inl (aI, n, .inl pf))]) A) (va_A ([(k0, .inr (4, [.ref h4, lo, .ref h0, .int powered, .int stepsDone])), (h0, .inr (1, [.int wayToOther, .ref h1, .ref h2, .int place, .int speed, .int way, .int topSpeed, .int gain, .int brake, .int darkSpeed, .int rideSpeed, .int kilos, .int mostKilos, .int openContacts, .int fireFloor, .int ride, .int starts, .int distance, .int hardFalls])), (h4, .inr (3, [.ref h5, .int gap])), (h5, .inl (aI, n, .inl pf))]) sz)) 1 6 (va_A ([(k0, .inr (4, [.ref h4, lo, .ref h0, .int powered, .int stepsDone])), (h0, .inr (1, [.int wayToOther, .ref h1, .ref h2, .int place, .int speed, .int way, .int topSpeed, .int gain, .int brake, .int darkSpeed, .int rideSpeed, .int kilos, .int mostKilos, .int openContacts, .int fireFloor, .int ride, .int starts, .int distance, .int hardFalls])), (h4, .inr (3, [.ref h5, .int gap])), (h5, .inl (aI, n, .inl pf))]) sz) := by
  refine enx (cc := cX4_fire) (maxL := 5) (ret := (some .int)) (Qc := (fun A : Nat → Prop => va_Qi (fun (r : Int32) (u : Unit) => F_fire_1 fireFloor n p1 = .inr r) (mpst D A (fun (u : Unit) => [(k0, .inr (4, [.ref h4, lo, .ref h0, .int powered, .int stepsDone])), (h0, .inr (1, [.int wayToOther, .ref h1, .ref h2, .int place, .int speed, .int way, .int topSpeed, .int gain, .int brake, .int darkSpeed, .int rideSpeed, .int kilos, .int mostKilos, .int openContacts, .int p1, .int ride, .int starts, .int distance, .int hardFalls])), (h4, .inr (3, [.ref h5, .int gap])), (h5, .inl (aI, n, .inl pf))])) A)) (XC := (fun A : Nat → Prop => vx_X (fun u : Int32 => F_fire_1 fireFloor n p1 = .inl u ∧ (u = 1)) (mpsx D A [(k0, .inr (4, [.ref h4, lo, .ref h0, .int powered, .int stepsDone])), (h0, .inr (1, [.int wayToOther, .ref h1, .ref h2, .int place, .int speed, .int way, .int topSpeed, .int gain, .int brake, .int darkSpeed, .int rideSpeed, .int kilos, .int mostKilos, .int openContacts, .int fireFloor, .int ride, .int starts, .int distance, .int hardFalls])), (h4, .inr (3, [.ref h5, .int gap])), (h5, .inl (aI, n, .inl pf))]) A)) (by decide) rfl (Nat.le_of_ble_eq_true rfl) ?_
  intro p e s m args below meth c A ls Q hQ hx hb hr hts hown hlk hnm hml hout hA hS hP hK hD hE hl
  have hown : s.vm.findClass RX4 = some m.cls := hown
  have hl : lv_has ls 5 [(0, .ref k0), (1, .int 1), (2, .int p1)] := hl
  have hG := F_fire_1_u fireFloor n p1
  refine lv_aload_n hx hb dX4_fire_0 rfl (lv_at hl 0 rfl) ?_
  refine lv_iload_n hx hb dX4_fire_1 rfl (lv_at hl 1 rfl) ?_
  refine my_xr (wr := [(h0, .inr (1, [.int wayToOther, .ref h1, .ref h2, .int place, .int speed, .int way, .int topSpeed, .int gain, .int brake, .int darkSpeed, .int rideSpeed, .int kilos, .int mostKilos, .int openContacts, .int fireFloor, .int ride, .int starts, .int distance, .int hardFalls])), (h4, .inr (3, [.ref h5, .int gap])), (h5, .inl (aI, n, .inl pf))]) [0] [1, 2, 3] [3, 0, 1, 2] (vx_runV (As := [.int 1]) (rest := []) ⟨hx, hb, hml, hown, hts⟩ (c_carOf_1 l hl9 D aI aL aZ _ k0 h4 powered stepsDone h0 lo) (cwV 1 hts (gV w_393 w_395 w_2 w_35 w_396) rfl rfl rfl (by decide +kernel) ⟨Nat.le_of_ble_eq_true rfl, Nat.le_of_ble_eq_true rfl⟩) (prev_of hK hP hD hS hA hE [0] rfl (by decide) (ci := 4) rfl 0 rfl _) rfl rfl hl.1 rfl (lv_room (Nat.le_of_ble_eq_true rfl)) dX4_fire_2 ⟨Nat.le_of_ble_eq_true rfl, Nat.le_of_ble_eq_true rfl⟩) hP hD hS hA rfl rfl (by decide) (by decide) hQ (fun _ h9 => ⟨hG.trans (cx_l h9.1), (False.elim h9.2)⟩) hout hlk rfl (by decide) (Nat.le_of_ble_eq_true rfl) (Nat.le_of_ble_eq_true rfl) (fun u_ H locs hw_1 hP hD hS => ?_)
  have hw_1 : F_carOf_1 = .inr () := hw_1
  have hG := hG.trans (cx_r hw_1)
  have hP : va_P D vwCl [(h0, .inr (1, [.int wayToOther, .ref h1, .ref h2, .int place, .int speed, .int way, .int topSpeed, .int gain, .int brake, .int darkSpeed, .int rideSpeed, .int kilos, .int mostKilos, .int openContacts, .int fireFloor, .int ride, .int starts, .int distance, .int hardFalls])), (h4, .inr (3, [.ref h5, .int gap])), (h5, .inl (aI, n, .inl pf)), (k0, .inr (4, [.ref h4, lo, .ref h0, .int powered, .int stepsDone]))] H := hP
  have hD : va_D A [(h0, .inr (1, [.int wayToOther, .ref h1, .ref h2, .int place, .int speed, .int way, .int topSpeed, .int gain, .int brake, .int darkSpeed, .int rideSpeed, .int kilos, .int mostKilos, .int openContacts, .int fireFloor, .int ride, .int starts, .int distance, .int hardFalls])), (h4, .inr (3, [.ref h5, .int gap])), (h5, .inl (aI, n, .inl pf)), (k0, .inr (4, [.ref h4, lo, .ref h0, .int powered, .int stepsDone]))] := hD
  refine lv_astore_n (lv' := [(3, .ref h0), (0, .ref k0), (1, .int 1), (2, .int p1)]) hx hb dX4_fire_5 rfl hl (by decide) rfl (fun ls hl => ?_)
  refine lv_iload_n hx hb dX4_fire_6 rfl (lv_at hl 3 rfl) ?_
  refine lv_iconst (v := (-1)) hx hb dX4_fire_7 (by decide) ?_
  refine lv_aload_n hx hb dX4_fire_8 rfl (lv_at hl 1 rfl) ?_
  refine va_get (D := D) (ci := 4) (v := .ref h4) (C := RX4) (T := TX4) (N := 5) hx hb hts inX4 hown hK hP 3 rfl rfl 0 (by decide) (hts _ (mG w_79)) (fun _ h9 => h9) rfl dX4_fire_9 ?_
  refine my_i (wr := [(h0, .inr (1, [.int wayToOther, .ref h1, .ref h2, .int place, .int speed, .int way, .int topSpeed, .int gain, .int brake, .int darkSpeed, .int rideSpeed, .int kilos, .int mostKilos, .int openContacts, .int fireFloor, .int ride, .int starts, .int distance, .int hardFalls])), (k0, .inr (4, [.ref h4, lo, .ref h0, .int powered, .int stepsDone]))]) [1, 2] [0, 3] (va_runV (As := []) (rest := [.int (-1), .int p1]) ⟨hx, hb, hml, hown, hts⟩ (c_topFloor l D aI aL aZ _ h4 h5 gap n pf) (cwV 0 hts (gV w_111 w_112 w_113 w_36 w_114) rfl rfl rfl (by decide +kernel) ⟨Nat.le_of_ble_eq_true rfl, Nat.le_of_ble_eq_true rfl⟩) (prev_of hK hP hD hS hA hE [1, 2] rfl (by decide) (ci := 3) rfl 1 rfl _) rfl rfl hl.1 rfl (lv_room (Nat.le_of_ble_eq_true rfl)) dX4_fire_12 ⟨Nat.le_of_ble_eq_true rfl, Nat.le_of_ble_eq_true rfl⟩) hP hD hS hA rfl rfl (by decide) (by decide) (fun r_2 u_ H locs hw_3 hP hD hS => ?_)
  have hw_3 : F_topFloor n = r_2 := hw_3
  have hG := hG.trans (cb_e hw_3)
  have hP : va_P D vwCl [(h0, .inr (1, [.int wayToOther, .ref h1, .ref h2, .int place, .int speed, .int way, .int topSpeed, .int gain, .int brake, .int darkSpeed, .int rideSpeed, .int kilos, .int mostKilos, .int openContacts, .int fireFloor, .int ride, .int starts, .int distance, .int hardFalls])), (k0, .inr (4, [.ref h4, lo, .ref h0, .int powered, .int stepsDone])), (h4, .inr (3, [.ref h5, .int gap])), (h5, .inl (aI, n, .inl pf))] H := hP
  have hD : va_D A [(h0, .inr (1, [.int wayToOther, .ref h1, .ref h2, .int place, .int speed, .int way, .int topSpeed, .int gain, .int brake, .int darkSpeed, .int rideSpeed, .int kilos, .int mostKilos, .int openContacts, .int fireFloor, .int ride, .int starts, .int distance, .int hardFalls])), (k0, .inr (4, [.ref h4, lo, .ref h0, .int powered, .int stepsDone])), (h4, .inr (3, [.ref h5, .int gap])), (h5, .inl (aI, n, .inl pf))] := hD
  refine my_xv (wr := [(h0, .inr (1, [.int wayToOther, .ref h1, .ref h2, .int place, .int speed, .int way, .int topSpeed, .int gain, .int brake, .int darkSpeed, .int rideSpeed, .int kilos, .int mostKilos, .int openContacts, .int fireFloor, .int ride, .int starts, .int distance, .int hardFalls])), (k0, .inr (4, [.ref h4, lo, .ref h0, .int powered, .int stepsDone])), (h4, .inr (3, [.ref h5, .int gap])), (h5, .inl (aI, n, .inl pf))]) [] [0, 1, 2, 3] [1, 0, 2, 3] (vx_runS (As := [.int p1, .int (-1), .int r_2]) (rest := []) ⟨hx, hb, hml, hown, hts⟩ (c_refuseOutside l hl9 D aI aL aZ _ p1 (-1) r_2) (va_cwS 3 hts (gS w_115 w_116 w_35 w_117) rfl rfl rfl (by decide +kernel) ⟨Nat.le_of_ble_eq_true rfl, Nat.le_of_ble_eq_true rfl⟩) (pre_of hK hP hD hS hA hE [] rfl (by decide) _) rfl rfl hl.1 rfl (lv_room (Nat.le_of_ble_eq_true rfl)) dX4_fire_15 ⟨Nat.le_of_ble_eq_true rfl, Nat.le_of_ble_eq_true rfl⟩) hP hD hS hA rfl rfl (by decide) (by decide) hQ (fun _ h9 => ⟨hG.trans (cx_l h9.1), h9.2⟩) hout hlk rfl (by decide) (Nat.le_of_ble_eq_true rfl) (Nat.le_of_ble_eq_true rfl) (fun u_ H locs hw_4 hP hD hS => ?_)
  have hw_4 : F_refuseOutside p1 (-1) r_2 = .inr () := hw_4
  have hG := hG.trans (cx_r hw_4)
  have hP : va_P D vwCl [(h0, .inr (1, [.int wayToOther, .ref h1, .ref h2, .int place, .int speed, .int way, .int topSpeed, .int gain, .int brake, .int darkSpeed, .int rideSpeed, .int kilos, .int mostKilos, .int openContacts, .int fireFloor, .int ride, .int starts, .int distance, .int hardFalls])), (k0, .inr (4, [.ref h4, lo, .ref h0, .int powered, .int stepsDone])), (h4, .inr (3, [.ref h5, .int gap])), (h5, .inl (aI, n, .inl pf))] H := hP
  have hD : va_D A [(h0, .inr (1, [.int wayToOther, .ref h1, .ref h2, .int place, .int speed, .int way, .int topSpeed, .int gain, .int brake, .int darkSpeed, .int rideSpeed, .int kilos, .int mostKilos, .int openContacts, .int fireFloor, .int ride, .int starts, .int distance, .int hardFalls])), (k0, .inr (4, [.ref h4, lo, .ref h0, .int powered, .int stepsDone])), (h4, .inr (3, [.ref h5, .int gap])), (h5, .inl (aI, n, .inl pf))] := hD
  refine lv_aload_n hx hb dX4_fire_18 rfl (lv_at hl 0 rfl) ?_
  refine va_getN (D := D) (ci := 1) (v := .int fireFloor) (C := RX1) (T := TX1) (N := 19) hx hb hts inX1 hown hK hP 0 rfl rfl 14 (by decide) (nwF hE 25 rfl) (fun _ h9 => h9) rfl dX4_fire_19 ?_
  refine lv_istore (lv' := [(4, .int fireFloor), (3, .ref h0), (0, .ref k0), (1, .int 1), (2, .int p1)]) hx hb dX4_fire_22 hl (by decide) rfl (fun ls hl => ?_)
  refine lv_aload_n hx hb dX4_fire_24 rfl (lv_at hl 1 rfl) ?_
  refine lv_iload_n hx hb dX4_fire_25 rfl (lv_at hl 4 rfl) ?_
  refine va_putN (D := D) (ci := 1) (v := .int p1) (ty := .int) (C := RX1) (T := TX1) (N := 19) hx hb hts inX1 tyX1 tyX1_ok nmX1 hown hK hP hD hS 0 rfl rfl 14 (by decide) (nwF hE 25 rfl) (fun _ h9 => h9) rfl (by decide +kernel) rfl rfl (Nat.le_of_ble_eq_true rfl) dX4_fire_26 (fun H locs hP hD hS => ?_)
  have hP : va_P D vwCl [(h0, .inr (1, [.int wayToOther, .ref h1, .ref h2, .int place, .int speed, .int way, .int topSpeed, .int gain, .int brake, .int darkSpeed, .int rideSpeed, .int kilos, .int mostKilos, .int openContacts, .int p1, .int ride, .int starts, .int distance, .int hardFalls])), (k0, .inr (4, [.ref h4, lo, .ref h0, .int powered, .int stepsDone])), (h4, .inr (3, [.ref h5, .int gap])), (h5, .inl (aI, n, .inl pf))] H := hP
  have hD : va_D A [(h0, .inr (1, [.int wayToOther, .ref h1, .ref h2, .int place, .int speed, .int way, .int topSpeed, .int gain, .int brake, .int darkSpeed, .int rideSpeed, .int kilos, .int mostKilos, .int openContacts, .int p1, .int ride, .int starts, .int distance, .int hardFalls])), (k0, .inr (4, [.ref h4, lo, .ref h0, .int powered, .int stepsDone])), (h4, .inr (3, [.ref h5, .int gap])), (h5, .inl (aI, n, .inl pf))] := hD
  refine lv_iload hx hb dX4_fire_29 (lv_at hl 0 rfl) ?_
  have hP := hP.sub (ws' := [(k0, .inr (4, [.ref h4, lo, .ref h0, .int powered, .int stepsDone])), (h0, .inr (1, [.int wayToOther, .ref h1, .ref h2, .int place, .int speed, .int way, .int topSpeed, .int gain, .int brake, .int darkSpeed, .int rideSpeed, .int kilos, .int mostKilos, .int openContacts, .int p1, .int ride, .int starts, .int distance, .int hardFalls])), (h4, .inr (3, [.ref h5, .int gap])), (h5, .inl (aI, n, .inl pf))]) [1, 0, 2, 3] rfl
  have hD := hD.sub (ws' := [(k0, .inr (4, [.ref h4, lo, .ref h0, .int powered, .int stepsDone])), (h0, .inr (1, [.int wayToOther, .ref h1, .ref h2, .int place, .int speed, .int way, .int topSpeed, .int gain, .int brake, .int darkSpeed, .int rideSpeed, .int kilos, .int mostKilos, .int openContacts, .int p1, .int ride, .int starts, .int distance, .int hardFalls])), (h4, .inr (3, [.ref h5, .int gap])), (h5, .inl (aI, n, .inl pf))]) [1, 0, 2, 3] (by decide) rfl
  exact rtx_i hQ hx hb hr () hG hP hD hS (Nat.le_of_ble_eq_true rfl) (Nat.le_of_ble_eq_true rfl) dX4_fire_31 hlk
def F_fire_0n : Int32 ⊕ Int32 :=
  cx F_carOf_0n fun _ =>
    .inl 0
theorem F_fire_0n_u : F_fire_0n =
  (cx F_carOf_0n fun _ =>
    .inl 0) := rfl
set_option maxHeartbeats 4000000 in
set_option maxRecDepth 100000 in
theorem c_fire_0n (l : Launch) (hl9 : l.stackTraces = false) (D : va_G) (aI aL aZ : ClassId) (sz : Nat) (k0 : Nat) (h4 : Nat) (powered : Int32) (stepsDone : Int32) (up : Value) (p1 : Int32) : vx_Met l yX4_fire (.code yX4_fire cX4_fire 5 (some .int) :: Gw) ({ frames := 7, cells := 1, slots := 6, locals := 114 }) (va_Pc [.ref k0, .int 0, .int p1] (mpre D [(aI, .int), (aL, .long), (aZ, .boolean)] [(k0, .inr (4, [.ref h4, .null, up, .int powered, .int stepsDone]))] sz)) ((fun A : Nat → Prop => va_Qi (fun (r : Int32) (u : Unit) => False) (mpst D A (fun (u : Unit) => [(k0, .inr (4, [.ref h4, .null, up, .int powered, .int stepsDone]))])) A) (va_A ([(k0, .inr (4, [.ref h4, .null, up, .int powered, .int stepsDone]))]) sz)) ((fun A : Nat → Prop => vx_X (fun u : Int32 => F_fire_0n = .inl u ∧ (u = 1)) (mpsx D A [(k0, .inr (4, [.ref h4, .null, up, .int powered, .int stepsDone]))]) A) (va_A ([(k0, .inr (4, [.ref h4, .null, up, .int powered, .int stepsDone]))]) sz)) 1 6 (va_A ([(k0, .inr (4, [.ref h4, .null, up, .int powered, .int stepsDone]))]) sz) := by
  refine enx (cc := cX4_fire) (maxL := 5) (ret := (some .int)) (Qc := (fun A : Nat → Prop => va_Qi (fun (r : Int32) (u : Unit) => False) (mpst D A (fun (u : Unit) => [(k0, .inr (4, [.ref h4, .null, up, .int powered, .int stepsDone]))])) A)) (XC := (fun A : Nat → Prop => vx_X (fun u : Int32 => F_fire_0n = .inl u ∧ (u = 1)) (mpsx D A [(k0, .inr (4, [.ref h4, .null, up, .int powered, .int stepsDone]))]) A)) (by decide) rfl (Nat.le_of_ble_eq_true rfl) ?_
  intro p e s m args below meth c A ls Q hQ hx hb hr hts hown hlk hnm hml hout hA hS hP hK hD hE hl
  have hown : s.vm.findClass RX4 = some m.cls := hown
  have hl : lv_has ls 5 [(0, .ref k0), (1, .int 0), (2, .int p1)] := hl
  have hG := F_fire_0n_u
  refine lv_aload_n hx hb dX4_fire_0 rfl (lv_at hl 0 rfl) ?_
  refine lv_iload_n hx hb dX4_fire_1 rfl (lv_at hl 1 rfl) ?_
  refine my_xr (wr := []) [0] [] [0] (vx_runV (As := [.int 0]) (rest := []) ⟨hx, hb, hml, hown, hts⟩ (c_carOf_0n l hl9 D aI aL aZ _ k0 h4 powered stepsDone up) (cwV 1 hts (gV w_393 w_395 w_2 w_35 w_396) rfl rfl rfl (by decide +kernel) ⟨Nat.le_of_ble_eq_true rfl, Nat.le_of_ble_eq_true rfl⟩) (prev_of hK hP hD hS hA hE [0] rfl (by decide) (ci := 4) rfl 0 rfl _) rfl rfl hl.1 rfl (lv_room (Nat.le_of_ble_eq_true rfl)) dX4_fire_2 ⟨Nat.le_of_ble_eq_true rfl, Nat.le_of_ble_eq_true rfl⟩) hP hD hS hA rfl rfl (by decide) (by decide) hQ (fun _ h9 => ⟨hG.trans (cx_l h9.1), h9.2⟩) hout hlk rfl (by decide) (Nat.le_of_ble_eq_true rfl) (Nat.le_of_ble_eq_true rfl) (fun u_ H locs hw_1 hP hD hS => ?_)
  exact False.elim hw_1
def F_fire_1n : Int32 ⊕ Int32 :=
  cx F_carOf_1n fun _ =>
    .inl 0
theorem F_fire_1n_u : F_fire_1n =
  (cx F_carOf_1n fun _ =>
    .inl 0) := rfl
set_option maxHeartbeats 4000000 in
set_option maxRecDepth 100000 in
theorem c_fire_1n (l : Launch) (hl9 : l.stackTraces = false) (D : va_G) (aI aL aZ : ClassId) (sz : Nat) (k0 : Nat) (h4 : Nat) (powered : Int32) (stepsDone : Int32) (lo : Value) (p1 : Int32) : vx_Met l yX4_fire (.code yX4_fire cX4_fire 5 (some .int) :: Gw) ({ frames := 7, cells := 1, slots := 6, locals := 114 }) (va_Pc [.ref k0, .int 1, .int p1] (mpre D [(aI, .int), (aL, .long), (aZ, .boolean)] [(k0, .inr (4, [.ref h4, lo, .null, .int powered, .int stepsDone]))] sz)) ((fun A : Nat → Prop => va_Qi (fun (r : Int32) (u : Unit) => False) (mpst D A (fun (u : Unit) => [(k0, .inr (4, [.ref h4, lo, .null, .int powered, .int stepsDone]))])) A) (va_A ([(k0, .inr (4, [.ref h4, lo, .null, .int powered, .int stepsDone]))]) sz)) ((fun A : Nat → Prop => vx_X (fun u : Int32 => F_fire_1n = .inl u ∧ (u = 1)) (mpsx D A [(k0, .inr (4, [.ref h4, lo, .null, .int powered, .int stepsDone]))]) A) (va_A ([(k0, .inr (4, [.ref h4, lo, .null, .int powered, .int stepsDone]))]) sz)) 1 6 (va_A ([(k0, .inr (4, [.ref h4, lo, .null, .int powered, .int stepsDone]))]) sz) := by
  refine enx (cc := cX4_fire) (maxL := 5) (ret := (some .int)) (Qc := (fun A : Nat → Prop => va_Qi (fun (r : Int32) (u : Unit) => False) (mpst D A (fun (u : Unit) => [(k0, .inr (4, [.ref h4, lo, .null, .int powered, .int stepsDone]))])) A)) (XC := (fun A : Nat → Prop => vx_X (fun u : Int32 => F_fire_1n = .inl u ∧ (u = 1)) (mpsx D A [(k0, .inr (4, [.ref h4, lo, .null, .int powered, .int stepsDone]))]) A)) (by decide) rfl (Nat.le_of_ble_eq_true rfl) ?_
  intro p e s m args below meth c A ls Q hQ hx hb hr hts hown hlk hnm hml hout hA hS hP hK hD hE hl
  have hown : s.vm.findClass RX4 = some m.cls := hown
  have hl : lv_has ls 5 [(0, .ref k0), (1, .int 1), (2, .int p1)] := hl
  have hG := F_fire_1n_u
  refine lv_aload_n hx hb dX4_fire_0 rfl (lv_at hl 0 rfl) ?_
  refine lv_iload_n hx hb dX4_fire_1 rfl (lv_at hl 1 rfl) ?_
  refine my_xr (wr := []) [0] [] [0] (vx_runV (As := [.int 1]) (rest := []) ⟨hx, hb, hml, hown, hts⟩ (c_carOf_1n l hl9 D aI aL aZ _ k0 h4 powered stepsDone lo) (cwV 1 hts (gV w_393 w_395 w_2 w_35 w_396) rfl rfl rfl (by decide +kernel) ⟨Nat.le_of_ble_eq_true rfl, Nat.le_of_ble_eq_true rfl⟩) (prev_of hK hP hD hS hA hE [0] rfl (by decide) (ci := 4) rfl 0 rfl _) rfl rfl hl.1 rfl (lv_room (Nat.le_of_ble_eq_true rfl)) dX4_fire_2 ⟨Nat.le_of_ble_eq_true rfl, Nat.le_of_ble_eq_true rfl⟩) hP hD hS hA rfl rfl (by decide) (by decide) hQ (fun _ h9 => ⟨hG.trans (cx_l h9.1), h9.2⟩) hout hlk rfl (by decide) (Nat.le_of_ble_eq_true rfl) (Nat.le_of_ble_eq_true rfl) (fun u_ H locs hw_1 hP hD hS => ?_)
  exact False.elim hw_1
def F_fire_x : Int32 ⊕ Int32 :=
  cx F_carOf_x fun _ =>
    .inl 0
theorem F_fire_x_u : F_fire_x =
  (cx F_carOf_x fun _ =>
    .inl 0) := rfl
set_option maxHeartbeats 4000000 in
set_option maxRecDepth 100000 in
theorem c_fire_x (l : Launch) (hl9 : l.stackTraces = false) (D : va_G) (aI aL aZ : ClassId) (sz : Nat) (k0 : Nat) (h4 : Nat) (powered : Int32) (stepsDone : Int32) (lo : Value) (up : Value) (p0 : Int32) (p1 : Int32) (h9 : ¬ p0 = 0) (h8 : ¬ p0 = 1) : vx_Met l yX4_fire (.code yX4_fire cX4_fire 5 (some .int) :: Gw) ({ frames := 7, cells := 1, slots := 6, locals := 114 }) (va_Pc [.ref k0, .int p0, .int p1] (mpre D [(aI, .int), (aL, .long), (aZ, .boolean)] [(k0, .inr (4, [.ref h4, lo, up, .int powered, .int stepsDone]))] sz)) ((fun A : Nat → Prop => va_Qi (fun (r : Int32) (u : Unit) => False) (mpst D A (fun (u : Unit) => [(k0, .inr (4, [.ref h4, lo, up, .int powered, .int stepsDone]))])) A) (va_A ([(k0, .inr (4, [.ref h4, lo, up, .int powered, .int stepsDone]))]) sz)) ((fun A : Nat → Prop => vx_X (fun u : Int32 => F_fire_x = .inl u ∧ (u = 1)) (mpsx D A [(k0, .inr (4, [.ref h4, lo, up, .int powered, .int stepsDone]))]) A) (va_A ([(k0, .inr (4, [.ref h4, lo, up, .int powered, .int stepsDone]))]) sz)) 1 6 (va_A ([(k0, .inr (4, [.ref h4, lo, up, .int powered, .int stepsDone]))]) sz) := by
  refine enx (cc := cX4_fire) (maxL := 5) (ret := (some .int)) (Qc := (fun A : Nat → Prop => va_Qi (fun (r : Int32) (u : Unit) => False) (mpst D A (fun (u : Unit) => [(k0, .inr (4, [.ref h4, lo, up, .int powered, .int stepsDone]))])) A)) (XC := (fun A : Nat → Prop => vx_X (fun u : Int32 => F_fire_x = .inl u ∧ (u = 1)) (mpsx D A [(k0, .inr (4, [.ref h4, lo, up, .int powered, .int stepsDone]))]) A)) (by decide) rfl (Nat.le_of_ble_eq_true rfl) ?_
  intro p e s m args below meth c A ls Q hQ hx hb hr hts hown hlk hnm hml hout hA hS hP hK hD hE hl
  have hown : s.vm.findClass RX4 = some m.cls := hown
  have hl : lv_has ls 5 [(0, .ref k0), (1, .int p0), (2, .int p1)] := hl
  have hG := F_fire_x_u
  refine lv_aload_n hx hb dX4_fire_0 rfl (lv_at hl 0 rfl) ?_
  refine lv_iload_n hx hb dX4_fire_1 rfl (lv_at hl 1 rfl) ?_
  refine my_xr (wr := []) [0] [] [0] (vx_runV (As := [.int p0]) (rest := []) ⟨hx, hb, hml, hown, hts⟩ (c_carOf_x l hl9 D aI aL aZ _ k0 h4 powered stepsDone lo up p0 h9 h8) (cwV 1 hts (gV w_393 w_395 w_2 w_35 w_396) rfl rfl rfl (by decide +kernel) ⟨Nat.le_of_ble_eq_true rfl, Nat.le_of_ble_eq_true rfl⟩) (prev_of hK hP hD hS hA hE [0] rfl (by decide) (ci := 4) rfl 0 rfl _) rfl rfl hl.1 rfl (lv_room (Nat.le_of_ble_eq_true rfl)) dX4_fire_2 ⟨Nat.le_of_ble_eq_true rfl, Nat.le_of_ble_eq_true rfl⟩) hP hD hS hA rfl rfl (by decide) (by decide) hQ (fun _ h9 => ⟨hG.trans (cx_l h9.1), h9.2⟩) hout hlk rfl (by decide) (Nat.le_of_ble_eq_true rfl) (Nat.le_of_ble_eq_true rfl) (fun u_ H locs hw_1 hP hD hS => ?_)
  exact False.elim hw_1
theorem dX4_inspect_0 : decode cX4_inspect 0 = .ok (.aload_n 0, 1) := by decide +kernel
theorem dX4_inspect_1 : decode cX4_inspect 1 = .ok (.iload_n 1, 1) := by decide +kernel
theorem dX4_inspect_2 : decode cX4_inspect 2 = .ok (.invokevirtual 84, 3) := by decide +kernel
theorem dX4_inspect_5 : decode cX4_inspect 5 = .ok (.astore_n 3, 1) := by decide +kernel
theorem dX4_inspect_6 : decode cX4_inspect 6 = .ok (.iload_n 2, 1) := by decide +kernel
theorem dX4_inspect_7 : decode cX4_inspect 7 = .ok (.iconst (-1), 1) := by decide +kernel
theorem dX4_inspect_8 : decode cX4_inspect 8 = .ok (.iconst 2, 1) := by decide +kernel
theorem dX4_inspect_9 : decode cX4_inspect 9 = .ok (.invokestatic 35, 3) := by decide +kernel
theorem dX4_inspect_12 : decode cX4_inspect 12 = .ok (.aload_n 3, 1) := by decide +kernel
theorem dX4_inspect_13 : decode cX4_inspect 13 = .ok (.getfield 174, 3) := by decide +kernel
theorem dX4_inspect_16 : decode cX4_inspect 16 = .ok (.istore 4, 2) := by decide +kernel
theorem dX4_inspect_18 : decode cX4_inspect 18 = .ok (.aload_n 3, 1) := by decide +kernel
theorem dX4_inspect_19 : decode cX4_inspect 19 = .ok (.iload_n 2, 1) := by decide +kernel
theorem dX4_inspect_20 : decode cX4_inspect 20 = .ok (.putfield 174, 3) := by decide +kernel
theorem dX4_inspect_23 : decode cX4_inspect 23 = .ok (.iload 4, 2) := by decide +kernel
theorem dX4_inspect_25 : decode cX4_inspect 25 = .ok (.ireturn, 1) := by decide +kernel
def F_inspect_0 (ride : Int32) (p1 : Int32) : Int32 ⊕ Int32 :=
  cx F_carOf_0 fun _ =>
    cx (F_refuseOutside p1 (-1) 2) fun _ =>
      .inr ride
theorem F_inspect_0_u (ride : Int32) (p1 : Int32) : F_inspect_0 ride p1 =
  (cx F_carOf_0 fun _ =>
    cx (F_refuseOutside p1 (-1) 2) fun _ =>
      .inr ride) := rfl
set_option maxHeartbeats 4000000 in
set_option maxRecDepth 100000 in
theorem c_inspect_0 (l : Launch) (hl9 : l.stackTraces = false) (D : va_G) (aI aL aZ : ClassId) (sz : Nat) (k0 : Nat) (h4 : Nat) (powered : Int32) (stepsDone : Int32) (up : Value) (h0 : Nat) (h1 : Nat) (h2 : Nat) (wayToOther : Int32) (place : Int32) (speed : Int32) (way : Int32) (topSpeed : Int32) (gain : Int32) (brake : Int32) (darkSpeed : Int32) (rideSpeed : Int32) (kilos : Int32) (mostKilos : Int32) (openContacts : Int32) (fireFloor : Int32) (ride : Int32) (starts : Int32) (distance : Int32) (hardFalls : Int32) (p1 : Int32) : vx_Met l yX4_inspect (.code yX4_inspect cX4_inspect 5 (some .int) :: Gw) ({ frames := 7, cells := 1, slots := 6, locals := 114 }) (va_Pc [.ref k0, .int 0, .int p1] (mpre D [(aI, .int), (aL, .long), (aZ, .boolean)] [(k0, .inr (4, [.ref h4, .ref h0, up, .int powered, .int stepsDone])), (h0, .inr (1, [.int wayToOther, .ref h1, .ref h2, .int place, .int speed, .int way, .int topSpeed, .int gain, .int brake, .int darkSpeed, .int rideSpeed, .int kilos, .int mostKilos, .int openContacts, .int fireFloor, .int ride, .int starts, .int distance, .int hardFalls]))] sz)) ((fun A : Nat → Prop => va_Qi (fun (r : Int32) (u : Unit) => F_inspect_0 ride p1 = .inr r) (mpst D A (fun (u : Unit) => [(k0, .inr (4, [.ref h4, .ref h0, up, .int powered, .int stepsDone])), (h0, .inr (1, [.int wayToOther, .ref h1, .ref h2, .int place, .int speed, .int way, .int topSpeed, .int gain, .int brake, .int darkSpeed, .int rideSpeed, .int kilos, .int mostKilos, .int openContacts, .int fireFloor, .int p1, .int starts, .int distance, .int hardFalls]))])) A) (va_A ([(k0, .inr (4, [.ref h4, .ref h0, up, .int powered, .int stepsDone])), (h0, .inr (1, [.int wayToOther, .ref h1, .ref h2, .int place, .int speed, .int way, .int topSpeed, .int gain, .int brake, .int darkSpeed, .int rideSpeed, .int kilos, .int mostKilos, .int openContacts, .int fireFloor, .int ride, .int starts, .int distance, .int hardFalls]))]) sz)) ((fun A : Nat → Prop => vx_X (fun u : Int32 => F_inspect_0 ride p1 = .inl u ∧ (u = 1)) (mpsx D A [(k0, .inr (4, [.ref h4, .ref h0, up, .int powered, .int stepsDone])), (h0, .inr (1, [.int wayToOther, .ref h1, .ref h2, .int place, .int speed, .int way, .int topSpeed, .int gain, .int brake, .int darkSpeed, .int rideSpeed, .int kilos, .int mostKilos, .int openContacts, .int fireFloor, .int ride, .int starts, .int distance, .int hardFalls]))]) A) (va_A ([(k0, .inr (4, [.ref h4, .ref h0, up, .int powered, .int stepsDone])), (h0, .inr (1, [.int wayToOther, .ref h1, .ref h2, .int place, .int speed, .int way, .int topSpeed, .int gain, .int brake, .int darkSpeed, .int rideSpeed, .int kilos, .int mostKilos, .int openContacts, .int fireFloor, .int ride, .int starts, .int distance, .int hardFalls]))]) sz)) 1 6 (va_A ([(k0, .inr (4, [.ref h4, .ref h0, up, .int powered, .int stepsDone])), (h0, .inr (1, [.int wayToOther, .ref h1, .ref h2, .int place, .int speed, .int way, .int topSpeed, .int gain, .int brake, .int darkSpeed, .int rideSpeed, .int kilos, .int mostKilos, .int openContacts, .int fireFloor, .int ride, .int starts, .int distance, .int hardFalls]))]) sz) := by
  refine enx (cc := cX4_inspect) (maxL := 5) (ret := (some .int)) (Qc := (fun A : Nat → Prop => va_Qi (fun (r : Int32) (u : Unit) => F_inspect_0 ride p1 = .inr r) (mpst D A (fun (u : Unit) => [(k0, .inr (4, [.ref h4, .ref h0, up, .int powered, .int stepsDone])), (h0, .inr (1, [.int wayToOther, .ref h1, .ref h2, .int place, .int speed, .int way, .int topSpeed, .int gain, .int brake, .int darkSpeed, .int rideSpeed, .int kilos, .int mostKilos, .int openContacts, .int fireFloor, .int p1, .int starts, .int distance, .int hardFalls]))])) A)) (XC := (fun A : Nat → Prop => vx_X (fun u : Int32 => F_inspect_0 ride p1 = .inl u ∧ (u = 1)) (mpsx D A [(k0, .inr (4, [.ref h4, .ref h0, up, .int powered, .int stepsDone])), (h0, .inr (1, [.int wayToOther, .ref h1, .ref h2, .int place, .int speed, .int way, .int topSpeed, .int gain, .int brake, .int darkSpeed, .int rideSpeed, .int kilos, .int mostKilos, .int openContacts, .int fireFloor, .int ride, .int starts, .int distance, .int hardFalls]))]) A)) (by decide) rfl (Nat.le_of_ble_eq_true rfl) ?_
  intro p e s m args below meth c A ls Q hQ hx hb hr hts hown hlk hnm hml hout hA hS hP hK hD hE hl
  have hown : s.vm.findClass RX4 = some m.cls := hown
  have hl : lv_has ls 5 [(0, .ref k0), (1, .int 0), (2, .int p1)] := hl
  have hG := F_inspect_0_u ride p1
  refine lv_aload_n hx hb dX4_inspect_0 rfl (lv_at hl 0 rfl) ?_
  refine lv_iload_n hx hb dX4_inspect_1 rfl (lv_at hl 1 rfl) ?_
  refine my_xr (wr := [(h0, .inr (1, [.int wayToOther, .ref h1, .ref h2, .int place, .int speed, .int way, .int topSpeed, .int gain, .int brake, .int darkSpeed, .int rideSpeed, .int kilos, .int mostKilos, .int openContacts, .int fireFloor, .int ride, .int starts, .int distance, .int hardFalls]))]) [0] [1] [1, 0] (vx_runV (As := [.int 0]) (rest := []) ⟨hx, hb, hml, hown, hts⟩ (c_carOf_0 l hl9 D aI aL aZ _ k0 h4 powered stepsDone h0 up) (cwV 1 hts (gV w_393 w_395 w_2 w_35 w_396) rfl rfl rfl (by decide +kernel) ⟨Nat.le_of_ble_eq_true rfl, Nat.le_of_ble_eq_true rfl⟩) (prev_of hK hP hD hS hA hE [0] rfl (by decide) (ci := 4) rfl 0 rfl _) rfl rfl hl.1 rfl (lv_room (Nat.le_of_ble_eq_true rfl)) dX4_inspect_2 ⟨Nat.le_of_ble_eq_true rfl, Nat.le_of_ble_eq_true rfl⟩) hP hD hS hA rfl rfl (by decide) (by decide) hQ (fun _ h9 => ⟨hG.trans (cx_l h9.1), (False.elim h9.2)⟩) hout hlk rfl (by decide) (Nat.le_of_ble_eq_true rfl) (Nat.le_of_ble_eq_true rfl) (fun u_ H locs hw_1 hP hD hS => ?_)
  have hw_1 : F_carOf_0 = .inr () := hw_1
  have hG := hG.trans (cx_r hw_1)
  have hP : va_P D vwCl [(h0, .inr (1, [.int wayToOther, .ref h1, .ref h2, .int place, .int speed, .int way, .int topSpeed, .int gain, .int brake, .int darkSpeed, .int rideSpeed, .int kilos, .int mostKilos, .int openContacts, .int fireFloor, .int ride, .int starts, .int distance, .int hardFalls])), (k0, .inr (4, [.ref h4, .ref h0, up, .int powered, .int stepsDone]))] H := hP
  have hD : va_D A [(h0, .inr (1, [.int wayToOther, .ref h1, .ref h2, .int place, .int speed, .int way, .int topSpeed, .int gain, .int brake, .int darkSpeed, .int rideSpeed, .int kilos, .int mostKilos, .int openContacts, .int fireFloor, .int ride, .int starts, .int distance, .int hardFalls])), (k0, .inr (4, [.ref h4, .ref h0, up, .int powered, .int stepsDone]))] := hD
  refine lv_astore_n (lv' := [(3, .ref h0), (0, .ref k0), (1, .int 0), (2, .int p1)]) hx hb dX4_inspect_5 rfl hl (by decide) rfl (fun ls hl => ?_)
  refine lv_iload_n hx hb dX4_inspect_6 rfl (lv_at hl 3 rfl) ?_
  refine lv_iconst (v := (-1)) hx hb dX4_inspect_7 (by decide) ?_
  refine lv_iconst (v := 2) hx hb dX4_inspect_8 (by decide) ?_
  refine my_xv (wr := [(h0, .inr (1, [.int wayToOther, .ref h1, .ref h2, .int place, .int speed, .int way, .int topSpeed, .int gain, .int brake, .int darkSpeed, .int rideSpeed, .int kilos, .int mostKilos, .int openContacts, .int fireFloor, .int ride, .int starts, .int distance, .int hardFalls])), (k0, .inr (4, [.ref h4, .ref h0, up, .int powered, .int stepsDone]))]) [] [0, 1] [1, 0] (vx_runS (As := [.int p1, .int (-1), .int 2]) (rest := []) ⟨hx, hb, hml, hown, hts⟩ (c_refuseOutside l hl9 D aI aL aZ _ p1 (-1) 2) (va_cwS 3 hts (gS w_115 w_116 w_35 w_117) rfl rfl rfl (by decide +kernel) ⟨Nat.le_of_ble_eq_true rfl, Nat.le_of_ble_eq_true rfl⟩) (pre_of hK hP hD hS hA hE [] rfl (by decide) _) rfl rfl hl.1 rfl (lv_room (Nat.le_of_ble_eq_true rfl)) dX4_inspect_9 ⟨Nat.le_of_ble_eq_true rfl, Nat.le_of_ble_eq_true rfl⟩) hP hD hS hA rfl rfl (by decide) (by decide) hQ (fun _ h9 => ⟨hG.trans (cx_l h9.1), h9.2⟩) hout hlk rfl (by decide) (Nat.le_of_ble_eq_true rfl) (Nat.le_of_ble_eq_true rfl) (fun u_ H locs hw_2 hP hD hS => ?_)
  have hw_2 : F_refuseOutside p1 (-1) 2 = .inr () := hw_2
  have hG := hG.trans (cx_r hw_2)
  have hP : va_P D vwCl [(h0, .inr (1, [.int wayToOther, .ref h1, .ref h2, .int place, .int speed, .int way, .int topSpeed, .int gain, .int brake, .int darkSpeed, .int rideSpeed, .int kilos, .int mostKilos, .int openContacts, .int fireFloor, .int ride, .int starts, .int distance, .int hardFalls])), (k0, .inr (4, [.ref h4, .ref h0, up, .int powered, .int stepsDone]))] H := hP
  have hD : va_D A [(h0, .inr (1, [.int wayToOther, .ref h1, .ref h2, .int place, .int speed, .int way, .int topSpeed, .int gain, .int brake, .int darkSpeed, .int rideSpeed, .int kilos, .int mostKilos, .int openContacts, .int fireFloor, .int ride, .int starts, .int distance, .int hardFalls])), (k0, .inr (4, [.ref h4, .ref h0, up, .int powered, .int stepsDone]))] := hD
  refine lv_aload_n hx hb dX4_inspect_12 rfl (lv_at hl 0 rfl) ?_
  refine va_getN (D := D) (ci := 1) (v := .int ride) (C := RX1) (T := TX1) (N := 19) hx hb hts inX1 hown hK hP 0 rfl rfl 15 (by decide) (nwF hE 26 rfl) (fun _ h9 => h9) rfl dX4_inspect_13 ?_
  refine lv_istore (lv' := [(4, .int ride), (3, .ref h0), (0, .ref k0), (1, .int 0), (2, .int p1)]) hx hb dX4_inspect_16 hl (by decide) rfl (fun ls hl => ?_)
  refine lv_aload_n hx hb dX4_inspect_18 rfl (lv_at hl 1 rfl) ?_
  refine lv_iload_n hx hb dX4_inspect_19 rfl (lv_at hl 4 rfl) ?_
  refine va_putN (D := D) (ci := 1) (v := .int p1) (ty := .int) (C := RX1) (T := TX1) (N := 19) hx hb hts inX1 tyX1 tyX1_ok nmX1 hown hK hP hD hS 0 rfl rfl 15 (by decide) (nwF hE 26 rfl) (fun _ h9 => h9) rfl (by decide +kernel) rfl rfl (Nat.le_of_ble_eq_true rfl) dX4_inspect_20 (fun H locs hP hD hS => ?_)
  have hP : va_P D vwCl [(h0, .inr (1, [.int wayToOther, .ref h1, .ref h2, .int place, .int speed, .int way, .int topSpeed, .int gain, .int brake, .int darkSpeed, .int rideSpeed, .int kilos, .int mostKilos, .int openContacts, .int fireFloor, .int p1, .int starts, .int distance, .int hardFalls])), (k0, .inr (4, [.ref h4, .ref h0, up, .int powered, .int stepsDone]))] H := hP
  have hD : va_D A [(h0, .inr (1, [.int wayToOther, .ref h1, .ref h2, .int place, .int speed, .int way, .int topSpeed, .int gain, .int brake, .int darkSpeed, .int rideSpeed, .int kilos, .int mostKilos, .int openContacts, .int fireFloor, .int p1, .int starts, .int distance, .int hardFalls])), (k0, .inr (4, [.ref h4, .ref h0, up, .int powered, .int stepsDone]))] := hD
  refine lv_iload hx hb dX4_inspect_23 (lv_at hl 0 rfl) ?_
  have hP := hP.sub (ws' := [(k0, .inr (4, [.ref h4, .ref h0, up, .int powered, .int stepsDone])), (h0, .inr (1, [.int wayToOther, .ref h1, .ref h2, .int place, .int speed, .int way, .int topSpeed, .int gain, .int brake, .int darkSpeed, .int rideSpeed, .int kilos, .int mostKilos, .int openContacts, .int fireFloor, .int p1, .int starts, .int distance, .int hardFalls]))]) [1, 0] rfl
  have hD := hD.sub (ws' := [(k0, .inr (4, [.ref h4, .ref h0, up, .int powered, .int stepsDone])), (h0, .inr (1, [.int wayToOther, .ref h1, .ref h2, .int place, .int speed, .int way, .int topSpeed, .int gain, .int brake, .int darkSpeed, .int rideSpeed, .int kilos, .int mostKilos, .int openContacts, .int fireFloor, .int p1, .int starts, .int distance, .int hardFalls]))]) [1, 0] (by decide) rfl
  exact rtx_i hQ hx hb hr () hG hP hD hS (Nat.le_of_ble_eq_true rfl) (Nat.le_of_ble_eq_true rfl) dX4_inspect_25 hlk
def F_inspect_1 (ride : Int32) (p1 : Int32) : Int32 ⊕ Int32 :=
  cx F_carOf_1 fun _ =>
    cx (F_refuseOutside p1 (-1) 2) fun _ =>
      .inr ride
theorem F_inspect_1_u (ride : Int32) (p1 : Int32) : F_inspect_1 ride p1 =
  (cx F_carOf_1 fun _ =>
    cx (F_refuseOutside p1 (-1) 2) fun _ =>
      .inr ride) := rfl
set_option maxHeartbeats 4000000 in
set_option maxRecDepth 100000 in
theorem c_inspect_1 (l : Launch) (hl9 : l.stackTraces = false) (D : va_G) (aI aL aZ : ClassId) (sz : Nat) (k0 : Nat) (h4 : Nat) (powered : Int32) (stepsDone : Int32) (lo : Value) (h0 : Nat) (h1 : Nat) (h2 : Nat) (wayToOther : Int32) (place : Int32) (speed : Int32) (way : Int32) (topSpeed : Int32) (gain : Int32) (brake : Int32) (darkSpeed : Int32) (rideSpeed : Int32) (kilos : Int32) (mostKilos : Int32) (openContacts : Int32) (fireFloor : Int32) (ride : Int32) (starts : Int32) (distance : Int32) (hardFalls : Int32) (p1 : Int32) : vx_Met l yX4_inspect (.code yX4_inspect cX4_inspect 5 (some .int) :: Gw) ({ frames := 7, cells := 1, slots := 6, locals := 114 }) (va_Pc [.ref k0, .int 1, .int p1] (mpre D [(aI, .int), (aL, .long), (aZ, .boolean)] [(k0, .inr (4, [.ref h4, lo, .ref h0, .int powered, .int stepsDone])), (h0, .inr (1, [.int wayToOther, .ref h1, .ref h2, .int place, .int speed, .int way, .int topSpeed, .int gain, .int brake, .int darkSpeed, .int rideSpeed, .int kilos, .int mostKilos, .int openContacts, .int fireFloor, .int ride, .int starts, .int distance, .int hardFalls]))] sz)) ((fun A : Nat → Prop => va_Qi (fun (r : Int32) (u : Unit) => F_inspect_1 ride p1 = .inr r) (mpst D A (fun (u : Unit) => [(k0, .inr (4, [.ref h4, lo, .ref h0, .int powered, .int stepsDone])), (h0, .inr (1, [.int wayToOther, .ref h1, .ref h2, .int place, .int speed, .int way, .int topSpeed, .int gain, .int brake, .int darkSpeed, .int rideSpeed, .int kilos, .int mostKilos, .int openContacts, .int fireFloor, .int p1, .int starts, .int distance, .int hardFalls]))])) A) (va_A ([(k0, .inr (4, [.ref h4, lo, .ref h0, .int powered, .int stepsDone])), (h0, .inr (1, [.int wayToOther, .ref h1, .ref h2, .int place, .int speed, .int way, .int topSpeed, .int gain, .int brake, .int darkSpeed, .int rideSpeed, .int kilos, .int mostKilos, .int openContacts, .int fireFloor, .int ride, .int starts, .int distance, .int hardFalls]))]) sz)) ((fun A : Nat → Prop => vx_X (fun u : Int32 => F_inspect_1 ride p1 = .inl u ∧ (u = 1)) (mpsx D A [(k0, .inr (4, [.ref h4, lo, .ref h0, .int powered, .int stepsDone])), (h0, .inr (1, [.int wayToOther, .ref h1, .ref h2, .int place, .int speed, .int way, .int topSpeed, .int gain, .int brake, .int darkSpeed, .int rideSpeed, .int kilos, .int mostKilos, .int openContacts, .int fireFloor, .int ride, .int starts, .int distance, .int hardFalls]))]) A) (va_A ([(k0, .inr (4, [.ref h4, lo, .ref h0, .int powered, .int stepsDone])), (h0, .inr (1, [.int wayToOther, .ref h1, .ref h2, .int place, .int speed, .int way, .int topSpeed, .int gain, .int brake, .int darkSpeed, .int rideSpeed, .int kilos, .int mostKilos, .int openContacts, .int fireFloor, .int ride, .int starts, .int distance, .int hardFalls]))]) sz)) 1 6 (va_A ([(k0, .inr (4, [.ref h4, lo, .ref h0, .int powered, .int stepsDone])), (h0, .inr (1, [.int wayToOther, .ref h1, .ref h2, .int place, .int speed, .int way, .int topSpeed, .int gain, .int brake, .int darkSpeed, .int rideSpeed, .int kilos, .int mostKilos, .int openContacts, .int fireFloor, .int ride, .int starts, .int distance, .int hardFalls]))]) sz) := by
  refine enx (cc := cX4_inspect) (maxL := 5) (ret := (some .int)) (Qc := (fun A : Nat → Prop => va_Qi (fun (r : Int32) (u : Unit) => F_inspect_1 ride p1 = .inr r) (mpst D A (fun (u : Unit) => [(k0, .inr (4, [.ref h4, lo, .ref h0, .int powered, .int stepsDone])), (h0, .inr (1, [.int wayToOther, .ref h1, .ref h2, .int place, .int speed, .int way, .int topSpeed, .int gain, .int brake, .int darkSpeed, .int rideSpeed, .int kilos, .int mostKilos, .int openContacts, .int fireFloor, .int p1, .int starts, .int distance, .int hardFalls]))])) A)) (XC := (fun A : Nat → Prop => vx_X (fun u : Int32 => F_inspect_1 ride p1 = .inl u ∧ (u = 1)) (mpsx D A [(k0, .inr (4, [.ref h4, lo, .ref h0, .int powered, .int stepsDone])), (h0, .inr (1, [.int wayToOther, .ref h1, .ref h2, .int place, .int speed, .int way, .int topSpeed, .int gain, .int brake, .int darkSpeed, .int rideSpeed, .int kilos, .int mostKilos, .int openContacts, .int fireFloor, .int ride, .int starts, .int distance, .int hardFalls]))]) A)) (by decide) rfl (Nat.le_of_ble_eq_true rfl) ?_
  intro p e s m args below meth c A ls Q hQ hx hb hr hts hown hlk hnm hml hout hA hS hP hK hD hE hl
  have hown : s.vm.findClass RX4 = some m.cls := hown
  have hl : lv_has ls 5 [(0, .ref k0), (1, .int 1), (2, .int p1)] := hl
  have hG := F_inspect_1_u ride p1
  refine lv_aload_n hx hb dX4_inspect_0 rfl (lv_at hl 0 rfl) ?_
  refine lv_iload_n hx hb dX4_inspect_1 rfl (lv_at hl 1 rfl) ?_
  refine my_xr (wr := [(h0, .inr (1, [.int wayToOther, .ref h1, .ref h2, .int place, .int speed, .int way, .int topSpeed, .int gain, .int brake, .int darkSpeed, .int rideSpeed, .int kilos, .int mostKilos, .int openContacts, .int fireFloor, .int ride, .int starts, .int distance, .int hardFalls]))]) [0] [1] [1, 0] (vx_runV (As := [.int 1]) (rest := []) ⟨hx, hb, hml, hown, hts⟩ (c_carOf_1 l hl9 D aI aL aZ _ k0 h4 powered stepsDone h0 lo) (cwV 1 hts (gV w_393 w_395 w_2 w_35 w_396) rfl rfl rfl (by decide +kernel) ⟨Nat.le_of_ble_eq_true rfl, Nat.le_of_ble_eq_true rfl⟩) (prev_of hK hP hD hS hA hE [0] rfl (by decide) (ci := 4) rfl 0 rfl _) rfl rfl hl.1 rfl (lv_room (Nat.le_of_ble_eq_true rfl)) dX4_inspect_2 ⟨Nat.le_of_ble_eq_true rfl, Nat.le_of_ble_eq_true rfl⟩) hP hD hS hA rfl rfl (by decide) (by decide) hQ (fun _ h9 => ⟨hG.trans (cx_l h9.1), (False.elim h9.2)⟩) hout hlk rfl (by decide) (Nat.le_of_ble_eq_true rfl) (Nat.le_of_ble_eq_true rfl) (fun u_ H locs hw_1 hP hD hS => ?_)
  have hw_1 : F_carOf_1 = .inr () := hw_1
  have hG := hG.trans (cx_r hw_1)
  have hP : va_P D vwCl [(h0, .inr (1, [.int wayToOther, .ref h1, .ref h2, .int place, .int speed, .int way, .int topSpeed, .int gain, .int brake, .int darkSpeed, .int rideSpeed, .int kilos, .int mostKilos, .int openContacts, .int fireFloor, .int ride, .int starts, .int distance, .int hardFalls])), (k0, .inr (4, [.ref h4, lo, .ref h0, .int powered, .int stepsDone]))] H := hP
  have hD : va_D A [(h0, .inr (1, [.int wayToOther, .ref h1, .ref h2, .int place, .int speed, .int way, .int topSpeed, .int gain, .int brake, .int darkSpeed, .int rideSpeed, .int kilos, .int mostKilos, .int openContacts, .int fireFloor, .int ride, .int starts, .int distance, .int hardFalls])), (k0, .inr (4, [.ref h4, lo, .ref h0, .int powered, .int stepsDone]))] := hD
  refine lv_astore_n (lv' := [(3, .ref h0), (0, .ref k0), (1, .int 1), (2, .int p1)]) hx hb dX4_inspect_5 rfl hl (by decide) rfl (fun ls hl => ?_)
  refine lv_iload_n hx hb dX4_inspect_6 rfl (lv_at hl 3 rfl) ?_
  refine lv_iconst (v := (-1)) hx hb dX4_inspect_7 (by decide) ?_
  refine lv_iconst (v := 2) hx hb dX4_inspect_8 (by decide) ?_
  refine my_xv (wr := [(h0, .inr (1, [.int wayToOther, .ref h1, .ref h2, .int place, .int speed, .int way, .int topSpeed, .int gain, .int brake, .int darkSpeed, .int rideSpeed, .int kilos, .int mostKilos, .int openContacts, .int fireFloor, .int ride, .int starts, .int distance, .int hardFalls])), (k0, .inr (4, [.ref h4, lo, .ref h0, .int powered, .int stepsDone]))]) [] [0, 1] [1, 0] (vx_runS (As := [.int p1, .int (-1), .int 2]) (rest := []) ⟨hx, hb, hml, hown, hts⟩ (c_refuseOutside l hl9 D aI aL aZ _ p1 (-1) 2) (va_cwS 3 hts (gS w_115 w_116 w_35 w_117) rfl rfl rfl (by decide +kernel) ⟨Nat.le_of_ble_eq_true rfl, Nat.le_of_ble_eq_true rfl⟩) (pre_of hK hP hD hS hA hE [] rfl (by decide) _) rfl rfl hl.1 rfl (lv_room (Nat.le_of_ble_eq_true rfl)) dX4_inspect_9 ⟨Nat.le_of_ble_eq_true rfl, Nat.le_of_ble_eq_true rfl⟩) hP hD hS hA rfl rfl (by decide) (by decide) hQ (fun _ h9 => ⟨hG.trans (cx_l h9.1), h9.2⟩) hout hlk rfl (by decide) (Nat.le_of_ble_eq_true rfl) (Nat.le_of_ble_eq_true rfl) (fun u_ H locs hw_2 hP hD hS => ?_)
  have hw_2 : F_refuseOutside p1 (-1) 2 = .inr () := hw_2
  have hG := hG.trans (cx_r hw_2)
  have hP : va_P D vwCl [(h0, .inr (1, [.int wayToOther, .ref h1, .ref h2, .int place, .int speed, .int way, .int topSpeed, .int gain, .int brake, .int darkSpeed, .int rideSpeed, .int kilos, .int mostKilos, .int openContacts, .int fireFloor, .int ride, .int starts, .int distance, .int hardFalls])), (k0, .inr (4, [.ref h4, lo, .ref h0, .int powered, .int stepsDone]))] H := hP
  have hD : va_D A [(h0, .inr (1, [.int wayToOther, .ref h1, .ref h2, .int place, .int speed, .int way, .int topSpeed, .int gain, .int brake, .int darkSpeed, .int rideSpeed, .int kilos, .int mostKilos, .int openContacts, .int fireFloor, .int ride, .int starts, .int distance, .int hardFalls])), (k0, .inr (4, [.ref h4, lo, .ref h0, .int powered, .int stepsDone]))] := hD
  refine lv_aload_n hx hb dX4_inspect_12 rfl (lv_at hl 0 rfl) ?_
  refine va_getN (D := D) (ci := 1) (v := .int ride) (C := RX1) (T := TX1) (N := 19) hx hb hts inX1 hown hK hP 0 rfl rfl 15 (by decide) (nwF hE 26 rfl) (fun _ h9 => h9) rfl dX4_inspect_13 ?_
  refine lv_istore (lv' := [(4, .int ride), (3, .ref h0), (0, .ref k0), (1, .int 1), (2, .int p1)]) hx hb dX4_inspect_16 hl (by decide) rfl (fun ls hl => ?_)
  refine lv_aload_n hx hb dX4_inspect_18 rfl (lv_at hl 1 rfl) ?_
  refine lv_iload_n hx hb dX4_inspect_19 rfl (lv_at hl 4 rfl) ?_
  refine va_putN (D := D) (ci := 1) (v := .int p1) (ty := .int) (C := RX1) (T := TX1) (N := 19) hx hb hts inX1 tyX1 tyX1_ok nmX1 hown hK hP hD hS 0 rfl rfl 15 (by decide) (nwF hE 26 rfl) (fun _ h9 => h9) rfl (by decide +kernel) rfl rfl (Nat.le_of_ble_eq_true rfl) dX4_inspect_20 (fun H locs hP hD hS => ?_)
  have hP : va_P D vwCl [(h0, .inr (1, [.int wayToOther, .ref h1, .ref h2, .int place, .int speed, .int way, .int topSpeed, .int gain, .int brake, .int darkSpeed, .int rideSpeed, .int kilos, .int mostKilos, .int openContacts, .int fireFloor, .int p1, .int starts, .int distance, .int hardFalls])), (k0, .inr (4, [.ref h4, lo, .ref h0, .int powered, .int stepsDone]))] H := hP
  have hD : va_D A [(h0, .inr (1, [.int wayToOther, .ref h1, .ref h2, .int place, .int speed, .int way, .int topSpeed, .int gain, .int brake, .int darkSpeed, .int rideSpeed, .int kilos, .int mostKilos, .int openContacts, .int fireFloor, .int p1, .int starts, .int distance, .int hardFalls])), (k0, .inr (4, [.ref h4, lo, .ref h0, .int powered, .int stepsDone]))] := hD
  refine lv_iload hx hb dX4_inspect_23 (lv_at hl 0 rfl) ?_
  have hP := hP.sub (ws' := [(k0, .inr (4, [.ref h4, lo, .ref h0, .int powered, .int stepsDone])), (h0, .inr (1, [.int wayToOther, .ref h1, .ref h2, .int place, .int speed, .int way, .int topSpeed, .int gain, .int brake, .int darkSpeed, .int rideSpeed, .int kilos, .int mostKilos, .int openContacts, .int fireFloor, .int p1, .int starts, .int distance, .int hardFalls]))]) [1, 0] rfl
  have hD := hD.sub (ws' := [(k0, .inr (4, [.ref h4, lo, .ref h0, .int powered, .int stepsDone])), (h0, .inr (1, [.int wayToOther, .ref h1, .ref h2, .int place, .int speed, .int way, .int topSpeed, .int gain, .int brake, .int darkSpeed, .int rideSpeed, .int kilos, .int mostKilos, .int openContacts, .int fireFloor, .int p1, .int starts, .int distance, .int hardFalls]))]) [1, 0] (by decide) rfl
  exact rtx_i hQ hx hb hr () hG hP hD hS (Nat.le_of_ble_eq_true rfl) (Nat.le_of_ble_eq_true rfl) dX4_inspect_25 hlk
def F_inspect_0n : Int32 ⊕ Int32 :=
  cx F_carOf_0n fun _ =>
    .inl 0
theorem F_inspect_0n_u : F_inspect_0n =
  (cx F_carOf_0n fun _ =>
    .inl 0) := rfl
set_option maxHeartbeats 4000000 in
set_option maxRecDepth 100000 in
theorem c_inspect_0n (l : Launch) (hl9 : l.stackTraces = false) (D : va_G) (aI aL aZ : ClassId) (sz : Nat) (k0 : Nat) (h4 : Nat) (powered : Int32) (stepsDone : Int32) (up : Value) (p1 : Int32) : vx_Met l yX4_inspect (.code yX4_inspect cX4_inspect 5 (some .int) :: Gw) ({ frames := 7, cells := 1, slots := 6, locals := 114 }) (va_Pc [.ref k0, .int 0, .int p1] (mpre D [(aI, .int), (aL, .long), (aZ, .boolean)] [(k0, .inr (4, [.ref h4, .null, up, .int powered, .int stepsDone]))] sz)) ((fun A : Nat → Prop => va_Qi (fun (r : Int32) (u : Unit) => False) (mpst D A (fun (u : Unit) => [(k0, .inr (4, [.ref h4, .null, up, .int powered, .int stepsDone]))])) A) (va_A ([(k0, .inr (4, [.ref h4, .null, up, .int powered, .int stepsDone]))]) sz)) ((fun A : Nat → Prop => vx_X (fun u : Int32 => F_inspect_0n = .inl u ∧ (u = 1)) (mpsx D A [(k0, .inr (4, [.ref h4, .null, up, .int powered, .int stepsDone]))]) A) (va_A ([(k0, .inr (4, [.ref h4, .null, up, .int powered, .int stepsDone]))]) sz)) 1 6 (va_A ([(k0, .inr (4, [.ref h4, .null, up, .int powered, .int stepsDone]))]) sz) := by
  refine enx (cc := cX4_inspect) (maxL := 5) (ret := (some .int)) (Qc := (fun A : Nat → Prop => va_Qi (fun (r : Int32) (u : Unit) => False) (mpst D A (fun (u : Unit) => [(k0, .inr (4, [.ref h4, .null, up, .int powered, .int stepsDone]))])) A)) (XC := (fun A : Nat → Prop => vx_X (fun u : Int32 => F_inspect_0n = .inl u ∧ (u = 1)) (mpsx D A [(k0, .inr (4, [.ref h4, .null, up, .int powered, .int stepsDone]))]) A)) (by decide) rfl (Nat.le_of_ble_eq_true rfl) ?_
  intro p e s m args below meth c A ls Q hQ hx hb hr hts hown hlk hnm hml hout hA hS hP hK hD hE hl
  have hown : s.vm.findClass RX4 = some m.cls := hown
  have hl : lv_has ls 5 [(0, .ref k0), (1, .int 0), (2, .int p1)] := hl
  have hG := F_inspect_0n_u
  refine lv_aload_n hx hb dX4_inspect_0 rfl (lv_at hl 0 rfl) ?_
  refine lv_iload_n hx hb dX4_inspect_1 rfl (lv_at hl 1 rfl) ?_
  refine my_xr (wr := []) [0] [] [0] (vx_runV (As := [.int 0]) (rest := []) ⟨hx, hb, hml, hown, hts⟩ (c_carOf_0n l hl9 D aI aL aZ _ k0 h4 powered stepsDone up) (cwV 1 hts (gV w_393 w_395 w_2 w_35 w_396) rfl rfl rfl (by decide +kernel) ⟨Nat.le_of_ble_eq_true rfl, Nat.le_of_ble_eq_true rfl⟩) (prev_of hK hP hD hS hA hE [0] rfl (by decide) (ci := 4) rfl 0 rfl _) rfl rfl hl.1 rfl (lv_room (Nat.le_of_ble_eq_true rfl)) dX4_inspect_2 ⟨Nat.le_of_ble_eq_true rfl, Nat.le_of_ble_eq_true rfl⟩) hP hD hS hA rfl rfl (by decide) (by decide) hQ (fun _ h9 => ⟨hG.trans (cx_l h9.1), h9.2⟩) hout hlk rfl (by decide) (Nat.le_of_ble_eq_true rfl) (Nat.le_of_ble_eq_true rfl) (fun u_ H locs hw_1 hP hD hS => ?_)
  exact False.elim hw_1
def F_inspect_1n : Int32 ⊕ Int32 :=
  cx F_carOf_1n fun _ =>
    .inl 0
theorem F_inspect_1n_u : F_inspect_1n =
  (cx F_carOf_1n fun _ =>
    .inl 0) := rfl
set_option maxHeartbeats 4000000 in
set_option maxRecDepth 100000 in
theorem c_inspect_1n (l : Launch) (hl9 : l.stackTraces = false) (D : va_G) (aI aL aZ : ClassId) (sz : Nat) (k0 : Nat) (h4 : Nat) (powered : Int32) (stepsDone : Int32) (lo : Value) (p1 : Int32) : vx_Met l yX4_inspect (.code yX4_inspect cX4_inspect 5 (some .int) :: Gw) ({ frames := 7, cells := 1, slots := 6, locals := 114 }) (va_Pc [.ref k0, .int 1, .int p1] (mpre D [(aI, .int), (aL, .long), (aZ, .boolean)] [(k0, .inr (4, [.ref h4, lo, .null, .int powered, .int stepsDone]))] sz)) ((fun A : Nat → Prop => va_Qi (fun (r : Int32) (u : Unit) => False) (mpst D A (fun (u : Unit) => [(k0, .inr (4, [.ref h4, lo, .null, .int powered, .int stepsDone]))])) A) (va_A ([(k0, .inr (4, [.ref h4, lo, .null, .int powered, .int stepsDone]))]) sz)) ((fun A : Nat → Prop => vx_X (fun u : Int32 => F_inspect_1n = .inl u ∧ (u = 1)) (mpsx D A [(k0, .inr (4, [.ref h4, lo, .null, .int powered, .int stepsDone]))]) A) (va_A ([(k0, .inr (4, [.ref h4, lo, .null, .int powered, .int stepsDone]))]) sz)) 1 6 (va_A ([(k0, .inr (4, [.ref h4, lo, .null, .int powered, .int stepsDone]))]) sz) := by
  refine enx (cc := cX4_inspect) (maxL := 5) (ret := (some .int)) (Qc := (fun A : Nat → Prop => va_Qi (fun (r : Int32) (u : Unit) => False) (mpst D A (fun (u : Unit) => [(k0, .inr (4, [.ref h4, lo, .null, .int powered, .int stepsDone]))])) A)) (XC := (fun A : Nat → Prop => vx_X (fun u : Int32 => F_inspect_1n = .inl u ∧ (u = 1)) (mpsx D A [(k0, .inr (4, [.ref h4, lo, .null, .int powered, .int stepsDone]))]) A)) (by decide) rfl (Nat.le_of_ble_eq_true rfl) ?_
  intro p e s m args below meth c A ls Q hQ hx hb hr hts hown hlk hnm hml hout hA hS hP hK hD hE hl
  have hown : s.vm.findClass RX4 = some m.cls := hown
  have hl : lv_has ls 5 [(0, .ref k0), (1, .int 1), (2, .int p1)] := hl
  have hG := F_inspect_1n_u
  refine lv_aload_n hx hb dX4_inspect_0 rfl (lv_at hl 0 rfl) ?_
  refine lv_iload_n hx hb dX4_inspect_1 rfl (lv_at hl 1 rfl) ?_
  refine my_xr (wr := []) [0] [] [0] (vx_runV (As := [.int 1]) (rest := []) ⟨hx, hb, hml, hown, hts⟩ (c_carOf_1n l hl9 D aI aL aZ _ k0 h4 powered stepsDone lo) (cwV 1 hts (gV w_393 w_395 w_2 w_35 w_396) rfl rfl rfl (by decide +kernel) ⟨Nat.le_of_ble_eq_true rfl, Nat.le_of_ble_eq_true rfl⟩) (prev_of hK hP hD hS hA hE [0] rfl (by decide) (ci := 4) rfl 0 rfl _) rfl rfl hl.1 rfl (lv_room (Nat.le_of_ble_eq_true rfl)) dX4_inspect_2 ⟨Nat.le_of_ble_eq_true rfl, Nat.le_of_ble_eq_true rfl⟩) hP hD hS hA rfl rfl (by decide) (by decide) hQ (fun _ h9 => ⟨hG.trans (cx_l h9.1), h9.2⟩) hout hlk rfl (by decide) (Nat.le_of_ble_eq_true rfl) (Nat.le_of_ble_eq_true rfl) (fun u_ H locs hw_1 hP hD hS => ?_)
  exact False.elim hw_1
def F_inspect_x : Int32 ⊕ Int32 :=
  cx F_carOf_x fun _ =>
    .inl 0
theorem F_inspect_x_u : F_inspect_x =
  (cx F_carOf_x fun _ =>
    .inl 0) := rfl
set_option maxHeartbeats 4000000 in
set_option maxRecDepth 100000 in
theorem c_inspect_x (l : Launch) (hl9 : l.stackTraces = false) (D : va_G) (aI aL aZ : ClassId) (sz : Nat) (k0 : Nat) (h4 : Nat) (powered : Int32) (stepsDone : Int32) (lo : Value) (up : Value) (p0 : Int32) (p1 : Int32) (h9 : ¬ p0 = 0) (h8 : ¬ p0 = 1) : vx_Met l yX4_inspect (.code yX4_inspect cX4_inspect 5 (some .int) :: Gw) ({ frames := 7, cells := 1, slots := 6, locals := 114 }) (va_Pc [.ref k0, .int p0, .int p1] (mpre D [(aI, .int), (aL, .long), (aZ, .boolean)] [(k0, .inr (4, [.ref h4, lo, up, .int powered, .int stepsDone]))] sz)) ((fun A : Nat → Prop => va_Qi (fun (r : Int32) (u : Unit) => False) (mpst D A (fun (u : Unit) => [(k0, .inr (4, [.ref h4, lo, up, .int powered, .int stepsDone]))])) A) (va_A ([(k0, .inr (4, [.ref h4, lo, up, .int powered, .int stepsDone]))]) sz)) ((fun A : Nat → Prop => vx_X (fun u : Int32 => F_inspect_x = .inl u ∧ (u = 1)) (mpsx D A [(k0, .inr (4, [.ref h4, lo, up, .int powered, .int stepsDone]))]) A) (va_A ([(k0, .inr (4, [.ref h4, lo, up, .int powered, .int stepsDone]))]) sz)) 1 6 (va_A ([(k0, .inr (4, [.ref h4, lo, up, .int powered, .int stepsDone]))]) sz) := by
  refine enx (cc := cX4_inspect) (maxL := 5) (ret := (some .int)) (Qc := (fun A : Nat → Prop => va_Qi (fun (r : Int32) (u : Unit) => False) (mpst D A (fun (u : Unit) => [(k0, .inr (4, [.ref h4, lo, up, .int powered, .int stepsDone]))])) A)) (XC := (fun A : Nat → Prop => vx_X (fun u : Int32 => F_inspect_x = .inl u ∧ (u = 1)) (mpsx D A [(k0, .inr (4, [.ref h4, lo, up, .int powered, .int stepsDone]))]) A)) (by decide) rfl (Nat.le_of_ble_eq_true rfl) ?_
  intro p e s m args below meth c A ls Q hQ hx hb hr hts hown hlk hnm hml hout hA hS hP hK hD hE hl
  have hown : s.vm.findClass RX4 = some m.cls := hown
  have hl : lv_has ls 5 [(0, .ref k0), (1, .int p0), (2, .int p1)] := hl
  have hG := F_inspect_x_u
  refine lv_aload_n hx hb dX4_inspect_0 rfl (lv_at hl 0 rfl) ?_
  refine lv_iload_n hx hb dX4_inspect_1 rfl (lv_at hl 1 rfl) ?_
  refine my_xr (wr := []) [0] [] [0] (vx_runV (As := [.int p0]) (rest := []) ⟨hx, hb, hml, hown, hts⟩ (c_carOf_x l hl9 D aI aL aZ _ k0 h4 powered stepsDone lo up p0 h9 h8) (cwV 1 hts (gV w_393 w_395 w_2 w_35 w_396) rfl rfl rfl (by decide +kernel) ⟨Nat.le_of_ble_eq_true rfl, Nat.le_of_ble_eq_true rfl⟩) (prev_of hK hP hD hS hA hE [0] rfl (by decide) (ci := 4) rfl 0 rfl _) rfl rfl hl.1 rfl (lv_room (Nat.le_of_ble_eq_true rfl)) dX4_inspect_2 ⟨Nat.le_of_ble_eq_true rfl, Nat.le_of_ble_eq_true rfl⟩) hP hD hS hA rfl rfl (by decide) (by decide) hQ (fun _ h9 => ⟨hG.trans (cx_l h9.1), h9.2⟩) hout hlk rfl (by decide) (Nat.le_of_ble_eq_true rfl) (Nat.le_of_ble_eq_true rfl) (fun u_ H locs hw_1 hP hD hS => ?_)
  exact False.elim hw_1
