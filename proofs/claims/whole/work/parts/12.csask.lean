theorem dX4_go_0 : decode cX4_go 0 = .ok (.aload_n 0, 1) := by decide +kernel
theorem dX4_go_1 : decode cX4_go 1 = .ok (.iload_n 1, 1) := by decide +kernel
theorem dX4_go_2 : decode cX4_go 2 = .ok (.invokevirtual 84, 3) := by decide +kernel
theorem dX4_go_5 : decode cX4_go 5 = .ok (.getfield 130, 3) := by decide +kernel
theorem dX4_go_8 : decode cX4_go 8 = .ok (.astore_n 3, 1) := by decide +kernel
theorem dX4_go_9 : decode cX4_go 9 = .ok (.iload_n 2, 1) := by decide +kernel
theorem dX4_go_10 : decode cX4_go 10 = .ok (.iconst 0, 1) := by decide +kernel
theorem dX4_go_11 : decode cX4_go 11 = .ok (.aload_n 0, 1) := by decide +kernel
theorem dX4_go_12 : decode cX4_go 12 = .ok (.getfield 23, 3) := by decide +kernel
theorem dX4_go_15 : decode cX4_go 15 = .ok (.invokevirtual 31, 3) := by decide +kernel
theorem dX4_go_18 : decode cX4_go 18 = .ok (.invokestatic 35, 3) := by decide +kernel
theorem dX4_go_21 : decode cX4_go 21 = .ok (.aload_n 3, 1) := by decide +kernel
theorem dX4_go_22 : decode cX4_go 22 = .ok (.getfield 134, 3) := by decide +kernel
theorem dX4_go_25 : decode cX4_go 25 = .ok (.bipush 8, 2) := by decide +kernel
theorem dX4_go_27 : decode cX4_go 27 = .ok (.if_icmp .lt 13, 3) := by decide +kernel
theorem dX4_go_30 : decode cX4_go 30 = .ok (.new 47, 3) := by decide +kernel
theorem dX4_go_33 : decode cX4_go 33 = .ok (.dup, 1) := by decide +kernel
theorem dX4_go_34 : decode cX4_go 34 = .ok (.ldc 139, 2) := by decide +kernel
theorem dX4_go_36 : decode cX4_go 36 = .ok (.invokespecial 51, 3) := by decide +kernel
theorem dX4_go_39 : decode cX4_go 39 = .ok (.athrow, 1) := by decide +kernel
theorem dX4_go_40 : decode cX4_go 40 = .ok (.aload_n 3, 1) := by decide +kernel
theorem dX4_go_41 : decode cX4_go 41 = .ok (.iload_n 2, 1) := by decide +kernel
theorem dX4_go_42 : decode cX4_go 42 = .ok (.invokevirtual 141, 3) := by decide +kernel
theorem dX4_go_45 : decode cX4_go 45 = .ok (.aload_n 3, 1) := by decide +kernel
theorem dX4_go_46 : decode cX4_go 46 = .ok (.getfield 134, 3) := by decide +kernel
theorem dX4_go_49 : decode cX4_go 49 = .ok (.ireturn, 1) := by decide +kernel
def F_go_0 (ccount : Int32) (cf : Nat → Int32) (n : Nat) (p1 : Int32) : Int32 ⊕ (Int32 × Int32 × (Nat → Int32)) :=
  cx F_carOf_0 fun _ =>
    cb (F_topFloor n) fun r_2 =>
      cx (F_refuseOutside p1 0 r_2) fun _ =>
        if ccount < 8 then
          cb (F_append ccount cf p1) fun (x_6, x_7) =>
            .inr (x_6, x_6, x_7)
        else
          .inl 2
theorem F_go_0_u (ccount : Int32) (cf : Nat → Int32) (n : Nat) (p1 : Int32) : F_go_0 ccount cf n p1 =
  (cx F_carOf_0 fun _ =>
    cb (F_topFloor n) fun r_2 =>
      cx (F_refuseOutside p1 0 r_2) fun _ =>
        if ccount < 8 then
          cb (F_append ccount cf p1) fun (x_6, x_7) =>
            .inr (x_6, x_6, x_7)
        else
          .inl 2) := rfl
set_option maxHeartbeats 4000000 in
set_option maxRecDepth 100000 in
theorem c_go_0 (l : Launch) (hl9 : l.stackTraces = false) (D : va_G) (aI aL aZ : ClassId) (sz : Nat) (k0 : Nat) (h4 : Nat) (powered : Int32) (stepsDone : Int32) (up : Value) (h0 : Nat) (h1 : Nat) (h2 : Nat) (wayToOther : Int32) (place : Int32) (speed : Int32) (way : Int32) (topSpeed : Int32) (gain : Int32) (brake : Int32) (darkSpeed : Int32) (rideSpeed : Int32) (kilos : Int32) (mostKilos : Int32) (openContacts : Int32) (fireFloor : Int32) (ride : Int32) (starts : Int32) (distance : Int32) (hardFalls : Int32) (h3 : Nat) (ccount : Int32) (cover : Int32) (cf : Nat → Int32) (h5 : Nat) (gap : Int32) (n : Nat) (pf : Nat → Int32) (p1 : Int32) (hn : n < 2 ^ 31) : vx_Met l yX4_go (.code yX4_go cX4_go 4 (some .int) :: Gw) ({ frames := 7, cells := 2, slots := 12, locals := 114 }) (va_Pc [.ref k0, .int 0, .int p1] (mpre D [(aI, .int), (aL, .long), (aZ, .boolean)] [(k0, .inr (4, [.ref h4, .ref h0, up, .int powered, .int stepsDone])), (h0, .inr (1, [.int wayToOther, .ref h1, .ref h2, .int place, .int speed, .int way, .int topSpeed, .int gain, .int brake, .int darkSpeed, .int rideSpeed, .int kilos, .int mostKilos, .int openContacts, .int fireFloor, .int ride, .int starts, .int distance, .int hardFalls])), (h2, .inr (0, [.ref h3, .int ccount, .int cover])), (h3, .inl (aI, 8, .inl cf)), (h4, .inr (3, [.ref h5, .int gap])), (h5, .inl (aI, n, .inl pf))] sz)) ((fun A : Nat → Prop => va_Qi (fun (r : Int32) (u : Int32 × (Nat → Int32)) => match u with | (u0, u1) => F_go_0 ccount cf n p1 = .inr (r, u0, u1)) (mpst D A (fun (u : Int32 × (Nat → Int32)) => match u with | (u0, u1) => [(k0, .inr (4, [.ref h4, .ref h0, up, .int powered, .int stepsDone])), (h0, .inr (1, [.int wayToOther, .ref h1, .ref h2, .int place, .int speed, .int way, .int topSpeed, .int gain, .int brake, .int darkSpeed, .int rideSpeed, .int kilos, .int mostKilos, .int openContacts, .int fireFloor, .int ride, .int starts, .int distance, .int hardFalls])), (h2, .inr (0, [.ref h3, .int u0, .int cover])), (h3, .inl (aI, 8, .inl u1)), (h4, .inr (3, [.ref h5, .int gap])), (h5, .inl (aI, n, .inl pf))])) A) (va_A ([(k0, .inr (4, [.ref h4, .ref h0, up, .int powered, .int stepsDone])), (h0, .inr (1, [.int wayToOther, .ref h1, .ref h2, .int place, .int speed, .int way, .int topSpeed, .int gain, .int brake, .int darkSpeed, .int rideSpeed, .int kilos, .int mostKilos, .int openContacts, .int fireFloor, .int ride, .int starts, .int distance, .int hardFalls])), (h2, .inr (0, [.ref h3, .int ccount, .int cover])), (h3, .inl (aI, 8, .inl cf)), (h4, .inr (3, [.ref h5, .int gap])), (h5, .inl (aI, n, .inl pf))]) sz)) ((fun A : Nat → Prop => vx_X (fun u : Int32 => F_go_0 ccount cf n p1 = .inl u ∧ (u = 1 ∨ u = 2)) (mpsx D A [(k0, .inr (4, [.ref h4, .ref h0, up, .int powered, .int stepsDone])), (h0, .inr (1, [.int wayToOther, .ref h1, .ref h2, .int place, .int speed, .int way, .int topSpeed, .int gain, .int brake, .int darkSpeed, .int rideSpeed, .int kilos, .int mostKilos, .int openContacts, .int fireFloor, .int ride, .int starts, .int distance, .int hardFalls])), (h2, .inr (0, [.ref h3, .int ccount, .int cover])), (h3, .inl (aI, 8, .inl cf)), (h4, .inr (3, [.ref h5, .int gap])), (h5, .inl (aI, n, .inl pf))]) A) (va_A ([(k0, .inr (4, [.ref h4, .ref h0, up, .int powered, .int stepsDone])), (h0, .inr (1, [.int wayToOther, .ref h1, .ref h2, .int place, .int speed, .int way, .int topSpeed, .int gain, .int brake, .int darkSpeed, .int rideSpeed, .int kilos, .int mostKilos, .int openContacts, .int fireFloor, .int ride, .int starts, .int distance, .int hardFalls])), (h2, .inr (0, [.ref h3, .int ccount, .int cover])), (h3, .inl (aI, 8, .inl cf)), (h4, .inr (3, [.ref h5, .int gap])), (h5, .inl (aI, n, .inl pf))]) sz)) 2 12 (va_A ([(k0, .inr (4, [.ref h4, .ref h0, up, .int powered, .int stepsDone])), (h0, .inr (1, [.int wayToOther, .ref h1, .ref h2, .int place, .int speed, .int way, .int topSpeed, .int gain, .int brake, .int darkSpeed, .int rideSpeed, .int kilos, .int mostKilos, .int openContacts, .int fireFloor, .int ride, .int starts, .int distance, .int hardFalls])), (h2, .inr (0, [.ref h3, .int ccount, .int cover])), (h3, .inl (aI, 8, .inl cf)), (h4, .inr (3, [.ref h5, .int gap])), (h5, .inl (aI, n, .inl pf))]) sz) := by
  refine enx (cc := cX4_go) (maxL := 4) (ret := (some .int)) (Qc := (fun A : Nat → Prop => va_Qi (fun (r : Int32) (u : Int32 × (Nat → Int32)) => match u with | (u0, u1) => F_go_0 ccount cf n p1 = .inr (r, u0, u1)) (mpst D A (fun (u : Int32 × (Nat → Int32)) => match u with | (u0, u1) => [(k0, .inr (4, [.ref h4, .ref h0, up, .int powered, .int stepsDone])), (h0, .inr (1, [.int wayToOther, .ref h1, .ref h2, .int place, .int speed, .int way, .int topSpeed, .int gain, .int brake, .int darkSpeed, .int rideSpeed, .int kilos, .int mostKilos, .int openContacts, .int fireFloor, .int ride, .int starts, .int distance, .int hardFalls])), (h2, .inr (0, [.ref h3, .int u0, .int cover])), (h3, .inl (aI, 8, .inl u1)), (h4, .inr (3, [.ref h5, .int gap])), (h5, .inl (aI, n, .inl pf))])) A)) (XC := (fun A : Nat → Prop => vx_X (fun u : Int32 => F_go_0 ccount cf n p1 = .inl u ∧ (u = 1 ∨ u = 2)) (mpsx D A [(k0, .inr (4, [.ref h4, .ref h0, up, .int powered, .int stepsDone])), (h0, .inr (1, [.int wayToOther, .ref h1, .ref h2, .int place, .int speed, .int way, .int topSpeed, .int gain, .int brake, .int darkSpeed, .int rideSpeed, .int kilos, .int mostKilos, .int openContacts, .int fireFloor, .int ride, .int starts, .int distance, .int hardFalls])), (h2, .inr (0, [.ref h3, .int ccount, .int cover])), (h3, .inl (aI, 8, .inl cf)), (h4, .inr (3, [.ref h5, .int gap])), (h5, .inl (aI, n, .inl pf))]) A)) (by decide) rfl (Nat.le_of_ble_eq_true rfl) ?_
  intro p e s m args below meth c A ls Q hQ hx hb hr hts hown hlk hnm hml hout hA hS hP hK hD hE hl
  have hown : s.vm.findClass RX4 = some m.cls := hown
  have hl : lv_has ls 4 [(0, .ref k0), (1, .int 0), (2, .int p1)] := hl
  have hG := F_go_0_u ccount cf n p1
  refine lv_aload_n hx hb dX4_go_0 rfl (lv_at hl 0 rfl) ?_
  refine lv_iload_n hx hb dX4_go_1 rfl (lv_at hl 1 rfl) ?_
  refine my_xr (wr := [(h0, .inr (1, [.int wayToOther, .ref h1, .ref h2, .int place, .int speed, .int way, .int topSpeed, .int gain, .int brake, .int darkSpeed, .int rideSpeed, .int kilos, .int mostKilos, .int openContacts, .int fireFloor, .int ride, .int starts, .int distance, .int hardFalls])), (h2, .inr (0, [.ref h3, .int ccount, .int cover])), (h3, .inl (aI, 8, .inl cf)), (h4, .inr (3, [.ref h5, .int gap])), (h5, .inl (aI, n, .inl pf))]) [0] [1, 2, 3, 4, 5] [5, 0, 1, 2, 3, 4] (vx_runV (As := [.int 0]) (rest := []) ⟨hx, hb, hml, hown, hts⟩ (c_carOf_0 l hl9 D aI aL aZ _ k0 h4 powered stepsDone h0 up) (cwV 1 hts (gV w_393 w_395 w_2 w_35 w_396) rfl rfl rfl (by decide +kernel) ⟨Nat.le_of_ble_eq_true rfl, Nat.le_of_ble_eq_true rfl⟩) (prev_of hK hP hD hS hA hE [0] rfl (by decide) (ci := 4) rfl 0 rfl _) rfl rfl hl.1 rfl (lv_room (Nat.le_of_ble_eq_true rfl)) dX4_go_2 ⟨Nat.le_of_ble_eq_true rfl, Nat.le_of_ble_eq_true rfl⟩) hP hD hS hA rfl rfl (by decide) (by decide) hQ (fun _ h9 => ⟨hG.trans (cx_l h9.1), (False.elim h9.2)⟩) hout hlk rfl (by decide) (Nat.le_of_ble_eq_true rfl) (Nat.le_of_ble_eq_true rfl) (fun u_ H locs hw_1 hP hD hS => ?_)
  have hw_1 : F_carOf_0 = .inr () := hw_1
  have hG := hG.trans (cx_r hw_1)
  have hP : va_P D vwCl [(h0, .inr (1, [.int wayToOther, .ref h1, .ref h2, .int place, .int speed, .int way, .int topSpeed, .int gain, .int brake, .int darkSpeed, .int rideSpeed, .int kilos, .int mostKilos, .int openContacts, .int fireFloor, .int ride, .int starts, .int distance, .int hardFalls])), (h2, .inr (0, [.ref h3, .int ccount, .int cover])), (h3, .inl (aI, 8, .inl cf)), (h4, .inr (3, [.ref h5, .int gap])), (h5, .inl (aI, n, .inl pf)), (k0, .inr (4, [.ref h4, .ref h0, up, .int powered, .int stepsDone]))] H := hP
  have hD : va_D A [(h0, .inr (1, [.int wayToOther, .ref h1, .ref h2, .int place, .int speed, .int way, .int topSpeed, .int gain, .int brake, .int darkSpeed, .int rideSpeed, .int kilos, .int mostKilos, .int openContacts, .int fireFloor, .int ride, .int starts, .int distance, .int hardFalls])), (h2, .inr (0, [.ref h3, .int ccount, .int cover])), (h3, .inl (aI, 8, .inl cf)), (h4, .inr (3, [.ref h5, .int gap])), (h5, .inl (aI, n, .inl pf)), (k0, .inr (4, [.ref h4, .ref h0, up, .int powered, .int stepsDone]))] := hD
  refine va_getN (D := D) (ci := 1) (v := .ref h2) (C := RX1) (T := TX1) (N := 19) hx hb hts inX1 hown hK hP 0 rfl rfl 2 (by decide) (nwF hE 13 rfl) (fun _ h9 => h9) rfl dX4_go_5 ?_
  refine lv_astore_n (lv' := [(3, .ref h2), (0, .ref k0), (1, .int 0), (2, .int p1)]) hx hb dX4_go_8 rfl hl (by decide) rfl (fun ls hl => ?_)
  refine lv_iload_n hx hb dX4_go_9 rfl (lv_at hl 3 rfl) ?_
  refine lv_iconst (v := 0) hx hb dX4_go_10 (by decide) ?_
  refine lv_aload_n hx hb dX4_go_11 rfl (lv_at hl 1 rfl) ?_
  refine va_get (D := D) (ci := 4) (v := .ref h4) (C := RX4) (T := TX4) (N := 5) hx hb hts inX4 hown hK hP 5 rfl rfl 0 (by decide) (hts _ (mG w_79)) (fun _ h9 => h9) rfl dX4_go_12 ?_
  refine my_i (wr := [(h0, .inr (1, [.int wayToOther, .ref h1, .ref h2, .int place, .int speed, .int way, .int topSpeed, .int gain, .int brake, .int darkSpeed, .int rideSpeed, .int kilos, .int mostKilos, .int openContacts, .int fireFloor, .int ride, .int starts, .int distance, .int hardFalls])), (h2, .inr (0, [.ref h3, .int ccount, .int cover])), (h3, .inl (aI, 8, .inl cf)), (k0, .inr (4, [.ref h4, .ref h0, up, .int powered, .int stepsDone]))]) [3, 4] [0, 1, 2, 5] (va_runV (As := []) (rest := [.int 0, .int p1]) ⟨hx, hb, hml, hown, hts⟩ (c_topFloor l D aI aL aZ _ h4 h5 gap n pf) (cwV 0 hts (gV w_111 w_112 w_113 w_36 w_114) rfl rfl rfl (by decide +kernel) ⟨Nat.le_of_ble_eq_true rfl, Nat.le_of_ble_eq_true rfl⟩) (prev_of hK hP hD hS hA hE [3, 4] rfl (by decide) (ci := 3) rfl 3 rfl _) rfl rfl hl.1 rfl (lv_room (Nat.le_of_ble_eq_true rfl)) dX4_go_15 ⟨Nat.le_of_ble_eq_true rfl, Nat.le_of_ble_eq_true rfl⟩) hP hD hS hA rfl rfl (by decide) (by decide) (fun r_2 u_ H locs hw_3 hP hD hS => ?_)
  have hw_3 : F_topFloor n = r_2 := hw_3
  have hG := hG.trans (cb_e hw_3)
  have hP : va_P D vwCl [(h0, .inr (1, [.int wayToOther, .ref h1, .ref h2, .int place, .int speed, .int way, .int topSpeed, .int gain, .int brake, .int darkSpeed, .int rideSpeed, .int kilos, .int mostKilos, .int openContacts, .int fireFloor, .int ride, .int starts, .int distance, .int hardFalls])), (h2, .inr (0, [.ref h3, .int ccount, .int cover])), (h3, .inl (aI, 8, .inl cf)), (k0, .inr (4, [.ref h4, .ref h0, up, .int powered, .int stepsDone])), (h4, .inr (3, [.ref h5, .int gap])), (h5, .inl (aI, n, .inl pf))] H := hP
  have hD : va_D A [(h0, .inr (1, [.int wayToOther, .ref h1, .ref h2, .int place, .int speed, .int way, .int topSpeed, .int gain, .int brake, .int darkSpeed, .int rideSpeed, .int kilos, .int mostKilos, .int openContacts, .int fireFloor, .int ride, .int starts, .int distance, .int hardFalls])), (h2, .inr (0, [.ref h3, .int ccount, .int cover])), (h3, .inl (aI, 8, .inl cf)), (k0, .inr (4, [.ref h4, .ref h0, up, .int powered, .int stepsDone])), (h4, .inr (3, [.ref h5, .int gap])), (h5, .inl (aI, n, .inl pf))] := hD
  refine my_xv (wr := [(h0, .inr (1, [.int wayToOther, .ref h1, .ref h2, .int place, .int speed, .int way, .int topSpeed, .int gain, .int brake, .int darkSpeed, .int rideSpeed, .int kilos, .int mostKilos, .int openContacts, .int fireFloor, .int ride, .int starts, .int distance, .int hardFalls])), (h2, .inr (0, [.ref h3, .int ccount, .int cover])), (h3, .inl (aI, 8, .inl cf)), (k0, .inr (4, [.ref h4, .ref h0, up, .int powered, .int stepsDone])), (h4, .inr (3, [.ref h5, .int gap])), (h5, .inl (aI, n, .inl pf))]) [] [0, 1, 2, 3, 4, 5] [3, 0, 1, 2, 4, 5] (vx_runS (As := [.int p1, .int 0, .int r_2]) (rest := []) ⟨hx, hb, hml, hown, hts⟩ (c_refuseOutside l hl9 D aI aL aZ _ p1 0 r_2) (va_cwS 3 hts (gS w_115 w_116 w_35 w_117) rfl rfl rfl (by decide +kernel) ⟨Nat.le_of_ble_eq_true rfl, Nat.le_of_ble_eq_true rfl⟩) (pre_of hK hP hD hS hA hE [] rfl (by decide) _) rfl rfl hl.1 rfl (lv_room (Nat.le_of_ble_eq_true rfl)) dX4_go_18 ⟨Nat.le_of_ble_eq_true rfl, Nat.le_of_ble_eq_true rfl⟩) hP hD hS hA rfl rfl (by decide) (by decide) hQ (fun _ h9 => ⟨hG.trans (cx_l h9.1), (Or.inl h9.2)⟩) hout hlk rfl (by decide) (Nat.le_of_ble_eq_true rfl) (Nat.le_of_ble_eq_true rfl) (fun u_ H locs hw_4 hP hD hS => ?_)
  have hw_4 : F_refuseOutside p1 0 r_2 = .inr () := hw_4
  have hG := hG.trans (cx_r hw_4)
  have hP : va_P D vwCl [(h0, .inr (1, [.int wayToOther, .ref h1, .ref h2, .int place, .int speed, .int way, .int topSpeed, .int gain, .int brake, .int darkSpeed, .int rideSpeed, .int kilos, .int mostKilos, .int openContacts, .int fireFloor, .int ride, .int starts, .int distance, .int hardFalls])), (h2, .inr (0, [.ref h3, .int ccount, .int cover])), (h3, .inl (aI, 8, .inl cf)), (k0, .inr (4, [.ref h4, .ref h0, up, .int powered, .int stepsDone])), (h4, .inr (3, [.ref h5, .int gap])), (h5, .inl (aI, n, .inl pf))] H := hP
  have hD : va_D A [(h0, .inr (1, [.int wayToOther, .ref h1, .ref h2, .int place, .int speed, .int way, .int topSpeed, .int gain, .int brake, .int darkSpeed, .int rideSpeed, .int kilos, .int mostKilos, .int openContacts, .int fireFloor, .int ride, .int starts, .int distance, .int hardFalls])), (h2, .inr (0, [.ref h3, .int ccount, .int cover])), (h3, .inl (aI, 8, .inl cf)), (k0, .inr (4, [.ref h4, .ref h0, up, .int powered, .int stepsDone])), (h4, .inr (3, [.ref h5, .int gap])), (h5, .inl (aI, n, .inl pf))] := hD
  refine lv_aload_n hx hb dX4_go_21 rfl (lv_at hl 0 rfl) ?_
  refine va_getN (D := D) (ci := 0) (v := .int ccount) (C := RX0) (T := TX0) (N := 3) hx hb hts inX0 hown hK hP 1 rfl rfl 1 (by decide) (nwF hE 10 rfl) (fun _ h9 => h9) rfl dX4_go_22 ?_
  refine lv_bipush (v := 8) hx hb dX4_go_25 (by decide) ?_
  refine lv_icmp_lt (tgt := 40) hx hb dX4_go_27 (by decide) (fun c_5 => ?_) (fun c_5 => ?_)
  · have hG := hG.trans (if_pos c_5)
    refine lv_aload_n hx hb dX4_go_40 rfl (lv_at hl 0 rfl) ?_
    refine lv_iload_n hx hb dX4_go_41 rfl (lv_at hl 3 rfl) ?_
    refine my_v (wr := [(h0, .inr (1, [.int wayToOther, .ref h1, .ref h2, .int place, .int speed, .int way, .int topSpeed, .int gain, .int brake, .int darkSpeed, .int rideSpeed, .int kilos, .int mostKilos, .int openContacts, .int fireFloor, .int ride, .int starts, .int distance, .int hardFalls])), (k0, .inr (4, [.ref h4, .ref h0, up, .int powered, .int stepsDone])), (h4, .inr (3, [.ref h5, .int gap])), (h5, .inl (aI, n, .inl pf))]) [1, 2] [0, 3, 4, 5] (va_runV (As := [.int p1]) (rest := []) ⟨hx, hb, hml, hown, hts⟩ (c_append l D aI aL aZ _ h2 h3 ccount cover cf p1) (cwV 1 hts (gV w_423 w_424 w_425 w_46 w_426) rfl rfl rfl (by decide +kernel) ⟨Nat.le_of_ble_eq_true rfl, Nat.le_of_ble_eq_true rfl⟩) (prev_of hK hP hD hS hA hE [1, 2] rfl (by decide) (ci := 0) rfl 1 rfl _) rfl rfl hl.1 rfl (lv_room (Nat.le_of_ble_eq_true rfl)) dX4_go_42 ⟨Nat.le_of_ble_eq_true rfl, Nat.le_of_ble_eq_true rfl⟩) hP hD hS hA rfl rfl (by decide) (by decide) (fun u_ H locs hw_8 hP hD hS => ?_)
    obtain ⟨x_6, x_7⟩ := u_
    have hw_8 : F_append ccount cf p1 = (x_6, x_7) := hw_8
    have hG := hG.trans (cb_e hw_8)
    have hP : va_P D vwCl [(h0, .inr (1, [.int wayToOther, .ref h1, .ref h2, .int place, .int speed, .int way, .int topSpeed, .int gain, .int brake, .int darkSpeed, .int rideSpeed, .int kilos, .int mostKilos, .int openContacts, .int fireFloor, .int ride, .int starts, .int distance, .int hardFalls])), (k0, .inr (4, [.ref h4, .ref h0, up, .int powered, .int stepsDone])), (h4, .inr (3, [.ref h5, .int gap])), (h5, .inl (aI, n, .inl pf)), (h2, .inr (0, [.ref h3, .int x_6, .int cover])), (h3, .inl (aI, 8, .inl x_7))] H := hP
    have hD : va_D A [(h0, .inr (1, [.int wayToOther, .ref h1, .ref h2, .int place, .int speed, .int way, .int topSpeed, .int gain, .int brake, .int darkSpeed, .int rideSpeed, .int kilos, .int mostKilos, .int openContacts, .int fireFloor, .int ride, .int starts, .int distance, .int hardFalls])), (k0, .inr (4, [.ref h4, .ref h0, up, .int powered, .int stepsDone])), (h4, .inr (3, [.ref h5, .int gap])), (h5, .inl (aI, n, .inl pf)), (h2, .inr (0, [.ref h3, .int x_6, .int cover])), (h3, .inl (aI, 8, .inl x_7))] := hD
    refine lv_aload_n hx hb dX4_go_45 rfl (lv_at hl 0 rfl) ?_
    refine va_getN (D := D) (ci := 0) (v := .int x_6) (C := RX0) (T := TX0) (N := 3) hx hb hts inX0 hown hK hP 4 rfl rfl 1 (by decide) (nwF hE 10 rfl) (fun _ h9 => h9) rfl dX4_go_46 ?_
    have hP := hP.sub (ws' := [(k0, .inr (4, [.ref h4, .ref h0, up, .int powered, .int stepsDone])), (h0, .inr (1, [.int wayToOther, .ref h1, .ref h2, .int place, .int speed, .int way, .int topSpeed, .int gain, .int brake, .int darkSpeed, .int rideSpeed, .int kilos, .int mostKilos, .int openContacts, .int fireFloor, .int ride, .int starts, .int distance, .int hardFalls])), (h2, .inr (0, [.ref h3, .int x_6, .int cover])), (h3, .inl (aI, 8, .inl x_7)), (h4, .inr (3, [.ref h5, .int gap])), (h5, .inl (aI, n, .inl pf))]) [1, 0, 4, 5, 2, 3] rfl
    have hD := hD.sub (ws' := [(k0, .inr (4, [.ref h4, .ref h0, up, .int powered, .int stepsDone])), (h0, .inr (1, [.int wayToOther, .ref h1, .ref h2, .int place, .int speed, .int way, .int topSpeed, .int gain, .int brake, .int darkSpeed, .int rideSpeed, .int kilos, .int mostKilos, .int openContacts, .int fireFloor, .int ride, .int starts, .int distance, .int hardFalls])), (h2, .inr (0, [.ref h3, .int x_6, .int cover])), (h3, .inl (aI, 8, .inl x_7)), (h4, .inr (3, [.ref h5, .int gap])), (h5, .inl (aI, n, .inl pf))]) [1, 0, 4, 5, 2, 3] (by decide) rfl
    exact rtx_i hQ hx hb hr (x_6, x_7) hG hP hD hS (Nat.le_of_ble_eq_true rfl) (Nat.le_of_ble_eq_true rfl) dX4_go_49 hlk
  · have hG := hG.trans (if_neg c_5)
    exact my_throw (own := RX4) (cls := "java/lang/IllegalStateException") (text := "there are too many calls") 2 [3, 0, 1, 2, 4, 5] hx hb hl9 hown (by decide +kernel) (hts _ (mG w_190)) (hts _ (mG w_43)) 9 rfl mt_51 hts tb_X4_51 tg_X4_51 hE hS (hl.1.trans hml.symm) dX4_go_30 dX4_go_33 dX4_go_34 dX4_go_36 dX4_go_39 hout (Nat.le_of_ble_eq_true rfl) (Nat.le_of_ble_eq_true rfl) (Nat.le_of_ble_eq_true rfl) (Nat.le_of_ble_eq_true rfl) hlk hQ rfl ⟨hG, (Or.inr rfl)⟩ hP hD rfl (by decide) (Nat.le_of_ble_eq_true rfl) (Nat.le_of_ble_eq_true rfl)
def F_go_1 (ccount : Int32) (cf : Nat → Int32) (n : Nat) (p1 : Int32) : Int32 ⊕ (Int32 × Int32 × (Nat → Int32)) :=
  cx F_carOf_1 fun _ =>
    cb (F_topFloor n) fun r_2 =>
      cx (F_refuseOutside p1 0 r_2) fun _ =>
        if ccount < 8 then
          cb (F_append ccount cf p1) fun (x_6, x_7) =>
            .inr (x_6, x_6, x_7)
        else
          .inl 2
theorem F_go_1_u (ccount : Int32) (cf : Nat → Int32) (n : Nat) (p1 : Int32) : F_go_1 ccount cf n p1 =
  (cx F_carOf_1 fun _ =>
    cb (F_topFloor n) fun r_2 =>
      cx (F_refuseOutside p1 0 r_2) fun _ =>
        if ccount < 8 then
          cb (F_append ccount cf p1) fun (x_6, x_7) =>
            .inr (x_6, x_6, x_7)
        else
          .inl 2) := rfl
set_option maxHeartbeats 4000000 in
set_option maxRecDepth 100000 in
theorem c_go_1 (l : Launch) (hl9 : l.stackTraces = false) (D : va_G) (aI aL aZ : ClassId) (sz : Nat) (k0 : Nat) (h4 : Nat) (powered : Int32) (stepsDone : Int32) (lo : Value) (h0 : Nat) (h1 : Nat) (h2 : Nat) (wayToOther : Int32) (place : Int32) (speed : Int32) (way : Int32) (topSpeed : Int32) (gain : Int32) (brake : Int32) (darkSpeed : Int32) (rideSpeed : Int32) (kilos : Int32) (mostKilos : Int32) (openContacts : Int32) (fireFloor : Int32) (ride : Int32) (starts : Int32) (distance : Int32) (hardFalls : Int32) (h3 : Nat) (ccount : Int32) (cover : Int32) (cf : Nat → Int32) (h5 : Nat) (gap : Int32) (n : Nat) (pf : Nat → Int32) (p1 : Int32) (hn : n < 2 ^ 31) : vx_Met l yX4_go (.code yX4_go cX4_go 4 (some .int) :: Gw) ({ frames := 7, cells := 2, slots := 12, locals := 114 }) (va_Pc [.ref k0, .int 1, .int p1] (mpre D [(aI, .int), (aL, .long), (aZ, .boolean)] [(k0, .inr (4, [.ref h4, lo, .ref h0, .int powered, .int stepsDone])), (h0, .inr (1, [.int wayToOther, .ref h1, .ref h2, .int place, .int speed, .int way, .int topSpeed, .int gain, .int brake, .int darkSpeed, .int rideSpeed, .int kilos, .int mostKilos, .int openContacts, .int fireFloor, .int ride, .int starts, .int distance, .int hardFalls])), (h2, .inr (0, [.ref h3, .int ccount, .int cover])), (h3, .inl (aI, 8, .inl cf)), (h4, .inr (3, [.ref h5, .int gap])), (h5, .inl (aI, n, .inl pf))] sz)) ((fun A : Nat → Prop => va_Qi (fun (r : Int32) (u : Int32 × (Nat → Int32)) => match u with | (u0, u1) => F_go_1 ccount cf n p1 = .inr (r, u0, u1)) (mpst D A (fun (u : Int32 × (Nat → Int32)) => match u with | (u0, u1) => [(k0, .inr (4, [.ref h4, lo, .ref h0, .int powered, .int stepsDone])), (h0, .inr (1, [.int wayToOther, .ref h1, .ref h2, .int place, .int speed, .int way, .int topSpeed, .int gain, .int brake, .int darkSpeed, .int rideSpeed, .int kilos, .int mostKilos, .int openContacts, .int fireFloor, .int ride, .int starts, .int distance, .int hardFalls])), (h2, .inr (0, [.ref h3, .int u0, .int cover])), (h3, .inl (aI, 8, .inl u1)), (h4, .inr (3, [.ref h5, .int gap])), (h5, .inl (aI, n, .inl pf))])) A) (va_A ([(k0, .inr (4, [.ref h4, lo, .ref h0, .int powered, .int stepsDone])), (h0, .inr (1, [.int wayToOther, .ref h1, .ref h2, .int place, .int speed, .int way, .int topSpeed, .int gain, .int brake, .int darkSpeed, .int rideSpeed, .int kilos, .int mostKilos, .int openContacts, .int fireFloor, .int ride, .int starts, .int distance, .int hardFalls])), (h2, .inr (0, [.ref h3, .int ccount, .int cover])), (h3, .inl (aI, 8, .inl cf)), (h4, .inr (3, [.ref h5, .int gap])), (h5, .inl (aI, n, .inl pf))]) sz)) ((fun A : Nat → Prop => vx_X (fun u : Int32 => F_go_1 ccount cf n p1 = .inl u ∧ (u = 1 ∨ u = 2)) (mpsx D A [(k0, .inr (4, [.ref h4, lo, .ref h0, .int powered, .int stepsDone])), (h0, .inr (1, [.int wayToOther, .ref h1, .ref h2, .int place, .int speed, .int way, .int topSpeed, .int gain, .int brake, .int darkSpeed, .int rideSpeed, .int kilos, .int mostKilos, .int openContacts, .int fireFloor, .int ride, .int starts, .int distance, .int hardFalls])), (h2, .inr (0, [.ref h3, .int ccount, .int cover])), (h3, .inl (aI, 8, .inl cf)), (h4, .inr (3, [.ref h5, .int gap])), (h5, .inl (aI, n, .inl pf))]) A) (va_A ([(k0, .inr (4, [.ref h4, lo, .ref h0, .int powered, .int stepsDone])), (h0, .inr (1, [.int wayToOther, .ref h1, .ref h2, .int place, .int speed, .int way, .int topSpeed, .int gain, .int brake, .int darkSpeed, .int rideSpeed, .int kilos, .int mostKilos, .int openContacts, .int fireFloor, .int ride, .int starts, .int distance, .int hardFalls])), (h2, .inr (0, [.ref h3, .int ccount, .int cover])), (h3, .inl (aI, 8, .inl cf)), (h4, .inr (3, [.ref h5, .int gap])), (h5, .inl (aI, n, .inl pf))]) sz)) 2 12 (va_A ([(k0, .inr (4, [.ref h4, lo, .ref h0, .int powered, .int stepsDone])), (h0, .inr (1, [.int wayToOther, .ref h1, .ref h2, .int place, .int speed, .int way, .int topSpeed, .int gain, .int brake, .int darkSpeed, .int rideSpeed, .int kilos, .int mostKilos, .int openContacts, .int fireFloor, .int ride, .int starts, .int distance, .int hardFalls])), (h2, .inr (0, [.ref h3, .int ccount, .int cover])), (h3, .inl (aI, 8, .inl cf)), (h4, .inr (3, [.ref h5, .int gap])), (h5, .inl (aI, n, .inl pf))]) sz) := by
  refine enx (cc := cX4_go) (maxL := 4) (ret := (some .int)) (Qc := (fun A : Nat → Prop => va_Qi (fun (r : Int32) (u : Int32 × (Nat → Int32)) => match u with | (u0, u1) => F_go_1 ccount cf n p1 = .inr (r, u0, u1)) (mpst D A (fun (u : Int32 × (Nat → Int32)) => match u with | (u0, u1) => [(k0, .inr (4, [.ref h4, lo, .ref h0, .int powered, .int stepsDone])), (h0, .inr (1, [.int wayToOther, .ref h1, .ref h2, .int place, .int speed, .int way, .int topSpeed, .int gain, .int brake, .int darkSpeed, .int rideSpeed, .int kilos, .int mostKilos, .int openContacts, .int fireFloor, .int ride, .int starts, .int distance, .int hardFalls])), (h2, .inr (0, [.ref h3, .int u0, .int cover])), (h3, .inl (aI, 8, .inl u1)), (h4, .inr (3, [.ref h5, .int gap])), (h5, .inl (aI, n, .inl pf))])) A)) (XC := (fun A : Nat → Prop => vx_X (fun u : Int32 => F_go_1 ccount cf n p1 = .inl u ∧ (u = 1 ∨ u = 2)) (mpsx D A [(k0, .inr (4, [.ref h4, lo, .ref h0, .int powered, .int stepsDone])), (h0, .inr (1, [.int wayToOther, .ref h1, .ref h2, .int place, .int speed, .int way, .int topSpeed, .int gain, .int brake, .int darkSpeed, .int rideSpeed, .int kilos, .int mostKilos, .int openContacts, .int fireFloor, .int ride, .int starts, .int distance, .int hardFalls])), (h2, .inr (0, [.ref h3, .int ccount, .int cover])), (h3, .inl (aI, 8, .inl cf)), (h4, .inr (3, [.ref h5, .int gap])), (h5, .inl (aI, n, .inl pf))]) A)) (by decide) rfl (Nat.le_of_ble_eq_true rfl) ?_
  intro p e s m args below meth c A ls Q hQ hx hb hr hts hown hlk hnm hml hout hA hS hP hK hD hE hl
  have hown : s.vm.findClass RX4 = some m.cls := hown
  have hl : lv_has ls 4 [(0, .ref k0), (1, .int 1), (2, .int p1)] := hl
  have hG := F_go_1_u ccount cf n p1
  refine lv_aload_n hx hb dX4_go_0 rfl (lv_at hl 0 rfl) ?_
  refine lv_iload_n hx hb dX4_go_1 rfl (lv_at hl 1 rfl) ?_
  refine my_xr (wr := [(h0, .inr (1, [.int wayToOther, .ref h1, .ref h2, .int place, .int speed, .int way, .int topSpeed, .int gain, .int brake, .int darkSpeed, .int rideSpeed, .int kilos, .int mostKilos, .int openContacts, .int fireFloor, .int ride, .int starts, .int distance, .int hardFalls])), (h2, .inr (0, [.ref h3, .int ccount, .int cover])), (h3, .inl (aI, 8, .inl cf)), (h4, .inr (3, [.ref h5, .int gap])), (h5, .inl (aI, n, .inl pf))]) [0] [1, 2, 3, 4, 5] [5, 0, 1, 2, 3, 4] (vx_runV (As := [.int 1]) (rest := []) ⟨hx, hb, hml, hown, hts⟩ (c_carOf_1 l hl9 D aI aL aZ _ k0 h4 powered stepsDone h0 lo) (cwV 1 hts (gV w_393 w_395 w_2 w_35 w_396) rfl rfl rfl (by decide +kernel) ⟨Nat.le_of_ble_eq_true rfl, Nat.le_of_ble_eq_true rfl⟩) (prev_of hK hP hD hS hA hE [0] rfl (by decide) (ci := 4) rfl 0 rfl _) rfl rfl hl.1 rfl (lv_room (Nat.le_of_ble_eq_true rfl)) dX4_go_2 ⟨Nat.le_of_ble_eq_true rfl, Nat.le_of_ble_eq_true rfl⟩) hP hD hS hA rfl rfl (by decide) (by decide) hQ (fun _ h9 => ⟨hG.trans (cx_l h9.1), (False.elim h9.2)⟩) hout hlk rfl (by decide) (Nat.le_of_ble_eq_true rfl) (Nat.le_of_ble_eq_true rfl) (fun u_ H locs hw_1 hP hD hS => ?_)
  have hw_1 : F_carOf_1 = .inr () := hw_1
  have hG := hG.trans (cx_r hw_1)
  have hP : va_P D vwCl [(h0, .inr (1, [.int wayToOther, .ref h1, .ref h2, .int place, .int speed, .int way, .int topSpeed, .int gain, .int brake, .int darkSpeed, .int rideSpeed, .int kilos, .int mostKilos, .int openContacts, .int fireFloor, .int ride, .int starts, .int distance, .int hardFalls])), (h2, .inr (0, [.ref h3, .int ccount, .int cover])), (h3, .inl (aI, 8, .inl cf)), (h4, .inr (3, [.ref h5, .int gap])), (h5, .inl (aI, n, .inl pf)), (k0, .inr (4, [.ref h4, lo, .ref h0, .int powered, .int stepsDone]))] H := hP
  have hD : va_D A [(h0, .inr (1, [.int wayToOther, .ref h1, .ref h2, .int place, .int speed, .int way, .int topSpeed, .int gain, .int brake, .int darkSpeed, .int rideSpeed, .int kilos, .int mostKilos, .int openContacts, .int fireFloor, .int ride, .int starts, .int distance, .int hardFalls])), (h2, .inr (0, [.ref h3, .int ccount, .int cover])), (h3, .inl (aI, 8, .inl cf)), (h4, .inr (3, [.ref h5, .int gap])), (h5, .inl (aI, n, .inl pf)), (k0, .inr (4, [.ref h4, lo, .ref h0, .int powered, .int stepsDone]))] := hD
  refine va_getN (D := D) (ci := 1) (v := .ref h2) (C := RX1) (T := TX1) (N := 19) hx hb hts inX1 hown hK hP 0 rfl rfl 2 (by decide) (nwF hE 13 rfl) (fun _ h9 => h9) rfl dX4_go_5 ?_
  refine lv_astore_n (lv' := [(3, .ref h2), (0, .ref k0), (1, .int 1), (2, .int p1)]) hx hb dX4_go_8 rfl hl (by decide) rfl (fun ls hl => ?_)
  refine lv_iload_n hx hb dX4_go_9 rfl (lv_at hl 3 rfl) ?_
  refine lv_iconst (v := 0) hx hb dX4_go_10 (by decide) ?_
  refine lv_aload_n hx hb dX4_go_11 rfl (lv_at hl 1 rfl) ?_
  refine va_get (D := D) (ci := 4) (v := .ref h4) (C := RX4) (T := TX4) (N := 5) hx hb hts inX4 hown hK hP 5 rfl rfl 0 (by decide) (hts _ (mG w_79)) (fun _ h9 => h9) rfl dX4_go_12 ?_
  refine my_i (wr := [(h0, .inr (1, [.int wayToOther, .ref h1, .ref h2, .int place, .int speed, .int way, .int topSpeed, .int gain, .int brake, .int darkSpeed, .int rideSpeed, .int kilos, .int mostKilos, .int openContacts, .int fireFloor, .int ride, .int starts, .int distance, .int hardFalls])), (h2, .inr (0, [.ref h3, .int ccount, .int cover])), (h3, .inl (aI, 8, .inl cf)), (k0, .inr (4, [.ref h4, lo, .ref h0, .int powered, .int stepsDone]))]) [3, 4] [0, 1, 2, 5] (va_runV (As := []) (rest := [.int 0, .int p1]) ⟨hx, hb, hml, hown, hts⟩ (c_topFloor l D aI aL aZ _ h4 h5 gap n pf) (cwV 0 hts (gV w_111 w_112 w_113 w_36 w_114) rfl rfl rfl (by decide +kernel) ⟨Nat.le_of_ble_eq_true rfl, Nat.le_of_ble_eq_true rfl⟩) (prev_of hK hP hD hS hA hE [3, 4] rfl (by decide) (ci := 3) rfl 3 rfl _) rfl rfl hl.1 rfl (lv_room (Nat.le_of_ble_eq_true rfl)) dX4_go_15 ⟨Nat.le_of_ble_eq_true rfl, Nat.le_of_ble_eq_true rfl⟩) hP hD hS hA rfl rfl (by decide) (by decide) (fun r_2 u_ H locs hw_3 hP hD hS => ?_)
  have hw_3 : F_topFloor n = r_2 := hw_3
  have hG := hG.trans (cb_e hw_3)
  have hP : va_P D vwCl [(h0, .inr (1, [.int wayToOther, .ref h1, .ref h2, .int place, .int speed, .int way, .int topSpeed, .int gain, .int brake, .int darkSpeed, .int rideSpeed, .int kilos, .int mostKilos, .int openContacts, .int fireFloor, .int ride, .int starts, .int distance, .int hardFalls])), (h2, .inr (0, [.ref h3, .int ccount, .int cover])), (h3, .inl (aI, 8, .inl cf)), (k0, .inr (4, [.ref h4, lo, .ref h0, .int powered, .int stepsDone])), (h4, .inr (3, [.ref h5, .int gap])), (h5, .inl (aI, n, .inl pf))] H := hP
  have hD : va_D A [(h0, .inr (1, [.int wayToOther, .ref h1, .ref h2, .int place, .int speed, .int way, .int topSpeed, .int gain, .int brake, .int darkSpeed, .int rideSpeed, .int kilos, .int mostKilos, .int openContacts, .int fireFloor, .int ride, .int starts, .int distance, .int hardFalls])), (h2, .inr (0, [.ref h3, .int ccount, .int cover])), (h3, .inl (aI, 8, .inl cf)), (k0, .inr (4, [.ref h4, lo, .ref h0, .int powered, .int stepsDone])), (h4, .inr (3, [.ref h5, .int gap])), (h5, .inl (aI, n, .inl pf))] := hD
  refine my_xv (wr := [(h0, .inr (1, [.int wayToOther, .ref h1, .ref h2, .int place, .int speed, .int way, .int topSpeed, .int gain, .int brake, .int darkSpeed, .int rideSpeed, .int kilos, .int mostKilos, .int openContacts, .int fireFloor, .int ride, .int starts, .int distance, .int hardFalls])), (h2, .inr (0, [.ref h3, .int ccount, .int cover])), (h3, .inl (aI, 8, .inl cf)), (k0, .inr (4, [.ref h4, lo, .ref h0, .int powered, .int stepsDone])), (h4, .inr (3, [.ref h5, .int gap])), (h5, .inl (aI, n, .inl pf))]) [] [0, 1, 2, 3, 4, 5] [3, 0, 1, 2, 4, 5] (vx_runS (As := [.int p1, .int 0, .int r_2]) (rest := []) ⟨hx, hb, hml, hown, hts⟩ (c_refuseOutside l hl9 D aI aL aZ _ p1 0 r_2) (va_cwS 3 hts (gS w_115 w_116 w_35 w_117) rfl rfl rfl (by decide +kernel) ⟨Nat.le_of_ble_eq_true rfl, Nat.le_of_ble_eq_true rfl⟩) (pre_of hK hP hD hS hA hE [] rfl (by decide) _) rfl rfl hl.1 rfl (lv_room (Nat.le_of_ble_eq_true rfl)) dX4_go_18 ⟨Nat.le_of_ble_eq_true rfl, Nat.le_of_ble_eq_true rfl⟩) hP hD hS hA rfl rfl (by decide) (by decide) hQ (fun _ h9 => ⟨hG.trans (cx_l h9.1), (Or.inl h9.2)⟩) hout hlk rfl (by decide) (Nat.le_of_ble_eq_true rfl) (Nat.le_of_ble_eq_true rfl) (fun u_ H locs hw_4 hP hD hS => ?_)
  have hw_4 : F_refuseOutside p1 0 r_2 = .inr () := hw_4
  have hG := hG.trans (cx_r hw_4)
  have hP : va_P D vwCl [(h0, .inr (1, [.int wayToOther, .ref h1, .ref h2, .int place, .int speed, .int way, .int topSpeed, .int gain, .int brake, .int darkSpeed, .int rideSpeed, .int kilos, .int mostKilos, .int openContacts, .int fireFloor, .int ride, .int starts, .int distance, .int hardFalls])), (h2, .inr (0, [.ref h3, .int ccount, .int cover])), (h3, .inl (aI, 8, .inl cf)), (k0, .inr (4, [.ref h4, lo, .ref h0, .int powered, .int stepsDone])), (h4, .inr (3, [.ref h5, .int gap])), (h5, .inl (aI, n, .inl pf))] H := hP
  have hD : va_D A [(h0, .inr (1, [.int wayToOther, .ref h1, .ref h2, .int place, .int speed, .int way, .int topSpeed, .int gain, .int brake, .int darkSpeed, .int rideSpeed, .int kilos, .int mostKilos, .int openContacts, .int fireFloor, .int ride, .int starts, .int distance, .int hardFalls])), (h2, .inr (0, [.ref h3, .int ccount, .int cover])), (h3, .inl (aI, 8, .inl cf)), (k0, .inr (4, [.ref h4, lo, .ref h0, .int powered, .int stepsDone])), (h4, .inr (3, [.ref h5, .int gap])), (h5, .inl (aI, n, .inl pf))] := hD
  refine lv_aload_n hx hb dX4_go_21 rfl (lv_at hl 0 rfl) ?_
  refine va_getN (D := D) (ci := 0) (v := .int ccount) (C := RX0) (T := TX0) (N := 3) hx hb hts inX0 hown hK hP 1 rfl rfl 1 (by decide) (nwF hE 10 rfl) (fun _ h9 => h9) rfl dX4_go_22 ?_
  refine lv_bipush (v := 8) hx hb dX4_go_25 (by decide) ?_
  refine lv_icmp_lt (tgt := 40) hx hb dX4_go_27 (by decide) (fun c_5 => ?_) (fun c_5 => ?_)
  · have hG := hG.trans (if_pos c_5)
    refine lv_aload_n hx hb dX4_go_40 rfl (lv_at hl 0 rfl) ?_
    refine lv_iload_n hx hb dX4_go_41 rfl (lv_at hl 3 rfl) ?_
    refine my_v (wr := [(h0, .inr (1, [.int wayToOther, .ref h1, .ref h2, .int place, .int speed, .int way, .int topSpeed, .int gain, .int brake, .int darkSpeed, .int rideSpeed, .int kilos, .int mostKilos, .int openContacts, .int fireFloor, .int ride, .int starts, .int distance, .int hardFalls])), (k0, .inr (4, [.ref h4, lo, .ref h0, .int powered, .int stepsDone])), (h4, .inr (3, [.ref h5, .int gap])), (h5, .inl (aI, n, .inl pf))]) [1, 2] [0, 3, 4, 5] (va_runV (As := [.int p1]) (rest := []) ⟨hx, hb, hml, hown, hts⟩ (c_append l D aI aL aZ _ h2 h3 ccount cover cf p1) (cwV 1 hts (gV w_423 w_424 w_425 w_46 w_426) rfl rfl rfl (by decide +kernel) ⟨Nat.le_of_ble_eq_true rfl, Nat.le_of_ble_eq_true rfl⟩) (prev_of hK hP hD hS hA hE [1, 2] rfl (by decide) (ci := 0) rfl 1 rfl _) rfl rfl hl.1 rfl (lv_room (Nat.le_of_ble_eq_true rfl)) dX4_go_42 ⟨Nat.le_of_ble_eq_true rfl, Nat.le_of_ble_eq_true rfl⟩) hP hD hS hA rfl rfl (by decide) (by decide) (fun u_ H locs hw_8 hP hD hS => ?_)
    obtain ⟨x_6, x_7⟩ := u_
    have hw_8 : F_append ccount cf p1 = (x_6, x_7) := hw_8
    have hG := hG.trans (cb_e hw_8)
    have hP : va_P D vwCl [(h0, .inr (1, [.int wayToOther, .ref h1, .ref h2, .int place, .int speed, .int way, .int topSpeed, .int gain, .int brake, .int darkSpeed, .int rideSpeed, .int kilos, .int mostKilos, .int openContacts, .int fireFloor, .int ride, .int starts, .int distance, .int hardFalls])), (k0, .inr (4, [.ref h4, lo, .ref h0, .int powered, .int stepsDone])), (h4, .inr (3, [.ref h5, .int gap])), (h5, .inl (aI, n, .inl pf)), (h2, .inr (0, [.ref h3, .int x_6, .int cover])), (h3, .inl (aI, 8, .inl x_7))] H := hP
    have hD : va_D A [(h0, .inr (1, [.int wayToOther, .ref h1, .ref h2, .int place, .int speed, .int way, .int topSpeed, .int gain, .int brake, .int darkSpeed, .int rideSpeed, .int kilos, .int mostKilos, .int openContacts, .int fireFloor, .int ride, .int starts, .int distance, .int hardFalls])), (k0, .inr (4, [.ref h4, lo, .ref h0, .int powered, .int stepsDone])), (h4, .inr (3, [.ref h5, .int gap])), (h5, .inl (aI, n, .inl pf)), (h2, .inr (0, [.ref h3, .int x_6, .int cover])), (h3, .inl (aI, 8, .inl x_7))] := hD
    refine lv_aload_n hx hb dX4_go_45 rfl (lv_at hl 0 rfl) ?_
    refine va_getN (D := D) (ci := 0) (v := .int x_6) (C := RX0) (T := TX0) (N := 3) hx hb hts inX0 hown hK hP 4 rfl rfl 1 (by decide) (nwF hE 10 rfl) (fun _ h9 => h9) rfl dX4_go_46 ?_
    have hP := hP.sub (ws' := [(k0, .inr (4, [.ref h4, lo, .ref h0, .int powered, .int stepsDone])), (h0, .inr (1, [.int wayToOther, .ref h1, .ref h2, .int place, .int speed, .int way, .int topSpeed, .int gain, .int brake, .int darkSpeed, .int rideSpeed, .int kilos, .int mostKilos, .int openContacts, .int fireFloor, .int ride, .int starts, .int distance, .int hardFalls])), (h2, .inr (0, [.ref h3, .int x_6, .int cover])), (h3, .inl (aI, 8, .inl x_7)), (h4, .inr (3, [.ref h5, .int gap])), (h5, .inl (aI, n, .inl pf))]) [1, 0, 4, 5, 2, 3] rfl
    have hD := hD.sub (ws' := [(k0, .inr (4, [.ref h4, lo, .ref h0, .int powered, .int stepsDone])), (h0, .inr (1, [.int wayToOther, .ref h1, .ref h2, .int place, .int speed, .int way, .int topSpeed, .int gain, .int brake, .int darkSpeed, .int rideSpeed, .int kilos, .int mostKilos, .int openContacts, .int fireFloor, .int ride, .int starts, .int distance, .int hardFalls])), (h2, .inr (0, [.ref h3, .int x_6, .int cover])), (h3, .inl (aI, 8, .inl x_7)), (h4, .inr (3, [.ref h5, .int gap])), (h5, .inl (aI, n, .inl pf))]) [1, 0, 4, 5, 2, 3] (by decide) rfl
    exact rtx_i hQ hx hb hr (x_6, x_7) hG hP hD hS (Nat.le_of_ble_eq_true rfl) (Nat.le_of_ble_eq_true rfl) dX4_go_49 hlk
  · have hG := hG.trans (if_neg c_5)
    exact my_throw (own := RX4) (cls := "java/lang/IllegalStateException") (text := "there are too many calls") 2 [3, 0, 1, 2, 4, 5] hx hb hl9 hown (by decide +kernel) (hts _ (mG w_190)) (hts _ (mG w_43)) 9 rfl mt_51 hts tb_X4_51 tg_X4_51 hE hS (hl.1.trans hml.symm) dX4_go_30 dX4_go_33 dX4_go_34 dX4_go_36 dX4_go_39 hout (Nat.le_of_ble_eq_true rfl) (Nat.le_of_ble_eq_true rfl) (Nat.le_of_ble_eq_true rfl) (Nat.le_of_ble_eq_true rfl) hlk hQ rfl ⟨hG, (Or.inr rfl)⟩ hP hD rfl (by decide) (Nat.le_of_ble_eq_true rfl) (Nat.le_of_ble_eq_true rfl)
def F_go_0n : Int32 ⊕ Int32 :=
  cx F_carOf_0n fun _ =>
    .inl 0
theorem F_go_0n_u : F_go_0n =
  (cx F_carOf_0n fun _ =>
    .inl 0) := rfl
set_option maxHeartbeats 4000000 in
set_option maxRecDepth 100000 in
theorem c_go_0n (l : Launch) (hl9 : l.stackTraces = false) (D : va_G) (aI aL aZ : ClassId) (sz : Nat) (k0 : Nat) (h4 : Nat) (powered : Int32) (stepsDone : Int32) (up : Value) (p1 : Int32) : vx_Met l yX4_go (.code yX4_go cX4_go 4 (some .int) :: Gw) ({ frames := 7, cells := 1, slots := 6, locals := 114 }) (va_Pc [.ref k0, .int 0, .int p1] (mpre D [(aI, .int), (aL, .long), (aZ, .boolean)] [(k0, .inr (4, [.ref h4, .null, up, .int powered, .int stepsDone]))] sz)) ((fun A : Nat → Prop => va_Qi (fun (r : Int32) (u : Unit) => False) (mpst D A (fun (u : Unit) => [(k0, .inr (4, [.ref h4, .null, up, .int powered, .int stepsDone]))])) A) (va_A ([(k0, .inr (4, [.ref h4, .null, up, .int powered, .int stepsDone]))]) sz)) ((fun A : Nat → Prop => vx_X (fun u : Int32 => F_go_0n = .inl u ∧ (u = 1)) (mpsx D A [(k0, .inr (4, [.ref h4, .null, up, .int powered, .int stepsDone]))]) A) (va_A ([(k0, .inr (4, [.ref h4, .null, up, .int powered, .int stepsDone]))]) sz)) 1 6 (va_A ([(k0, .inr (4, [.ref h4, .null, up, .int powered, .int stepsDone]))]) sz) := by
  refine enx (cc := cX4_go) (maxL := 4) (ret := (some .int)) (Qc := (fun A : Nat → Prop => va_Qi (fun (r : Int32) (u : Unit) => False) (mpst D A (fun (u : Unit) => [(k0, .inr (4, [.ref h4, .null, up, .int powered, .int stepsDone]))])) A)) (XC := (fun A : Nat → Prop => vx_X (fun u : Int32 => F_go_0n = .inl u ∧ (u = 1)) (mpsx D A [(k0, .inr (4, [.ref h4, .null, up, .int powered, .int stepsDone]))]) A)) (by decide) rfl (Nat.le_of_ble_eq_true rfl) ?_
  intro p e s m args below meth c A ls Q hQ hx hb hr hts hown hlk hnm hml hout hA hS hP hK hD hE hl
  have hown : s.vm.findClass RX4 = some m.cls := hown
  have hl : lv_has ls 4 [(0, .ref k0), (1, .int 0), (2, .int p1)] := hl
  have hG := F_go_0n_u
  refine lv_aload_n hx hb dX4_go_0 rfl (lv_at hl 0 rfl) ?_
  refine lv_iload_n hx hb dX4_go_1 rfl (lv_at hl 1 rfl) ?_
  refine my_xr (wr := []) [0] [] [0] (vx_runV (As := [.int 0]) (rest := []) ⟨hx, hb, hml, hown, hts⟩ (c_carOf_0n l hl9 D aI aL aZ _ k0 h4 powered stepsDone up) (cwV 1 hts (gV w_393 w_395 w_2 w_35 w_396) rfl rfl rfl (by decide +kernel) ⟨Nat.le_of_ble_eq_true rfl, Nat.le_of_ble_eq_true rfl⟩) (prev_of hK hP hD hS hA hE [0] rfl (by decide) (ci := 4) rfl 0 rfl _) rfl rfl hl.1 rfl (lv_room (Nat.le_of_ble_eq_true rfl)) dX4_go_2 ⟨Nat.le_of_ble_eq_true rfl, Nat.le_of_ble_eq_true rfl⟩) hP hD hS hA rfl rfl (by decide) (by decide) hQ (fun _ h9 => ⟨hG.trans (cx_l h9.1), h9.2⟩) hout hlk rfl (by decide) (Nat.le_of_ble_eq_true rfl) (Nat.le_of_ble_eq_true rfl) (fun u_ H locs hw_1 hP hD hS => ?_)
  exact False.elim hw_1
def F_go_1n : Int32 ⊕ Int32 :=
  cx F_carOf_1n fun _ =>
    .inl 0
theorem F_go_1n_u : F_go_1n =
  (cx F_carOf_1n fun _ =>
    .inl 0) := rfl
set_option maxHeartbeats 4000000 in
set_option maxRecDepth 100000 in
theorem c_go_1n (l : Launch) (hl9 : l.stackTraces = false) (D : va_G) (aI aL aZ : ClassId) (sz : Nat) (k0 : Nat) (h4 : Nat) (powered : Int32) (stepsDone : Int32) (lo : Value) (p1 : Int32) : vx_Met l yX4_go (.code yX4_go cX4_go 4 (some .int) :: Gw) ({ frames := 7, cells := 1, slots := 6, locals := 114 }) (va_Pc [.ref k0, .int 1, .int p1] (mpre D [(aI, .int), (aL, .long), (aZ, .boolean)] [(k0, .inr (4, [.ref h4, lo, .null, .int powered, .int stepsDone]))] sz)) ((fun A : Nat → Prop => va_Qi (fun (r : Int32) (u : Unit) => False) (mpst D A (fun (u : Unit) => [(k0, .inr (4, [.ref h4, lo, .null, .int powered, .int stepsDone]))])) A) (va_A ([(k0, .inr (4, [.ref h4, lo, .null, .int powered, .int stepsDone]))]) sz)) ((fun A : Nat → Prop => vx_X (fun u : Int32 => F_go_1n = .inl u ∧ (u = 1)) (mpsx D A [(k0, .inr (4, [.ref h4, lo, .null, .int powered, .int stepsDone]))]) A) (va_A ([(k0, .inr (4, [.ref h4, lo, .null, .int powered, .int stepsDone]))]) sz)) 1 6 (va_A ([(k0, .inr (4, [.ref h4, lo, .null, .int powered, .int stepsDone]))]) sz) := by
  refine enx (cc := cX4_go) (maxL := 4) (ret := (some .int)) (Qc := (fun A : Nat → Prop => va_Qi (fun (r : Int32) (u : Unit) => False) (mpst D A (fun (u : Unit) => [(k0, .inr (4, [.ref h4, lo, .null, .int powered, .int stepsDone]))])) A)) (XC := (fun A : Nat → Prop => vx_X (fun u : Int32 => F_go_1n = .inl u ∧ (u = 1)) (mpsx D A [(k0, .inr (4, [.ref h4, lo, .null, .int powered, .int stepsDone]))]) A)) (by decide) rfl (Nat.le_of_ble_eq_true rfl) ?_
  intro p e s m args below meth c A ls Q hQ hx hb hr hts hown hlk hnm hml hout hA hS hP hK hD hE hl
  have hown : s.vm.findClass RX4 = some m.cls := hown
  have hl : lv_has ls 4 [(0, .ref k0), (1, .int 1), (2, .int p1)] := hl
  have hG := F_go_1n_u
  refine lv_aload_n hx hb dX4_go_0 rfl (lv_at hl 0 rfl) ?_
  refine lv_iload_n hx hb dX4_go_1 rfl (lv_at hl 1 rfl) ?_
  refine my_xr (wr := []) [0] [] [0] (vx_runV (As := [.int 1]) (rest := []) ⟨hx, hb, hml, hown, hts⟩ (c_carOf_1n l hl9 D aI aL aZ _ k0 h4 powered stepsDone lo) (cwV 1 hts (gV w_393 w_395 w_2 w_35 w_396) rfl rfl rfl (by decide +kernel) ⟨Nat.le_of_ble_eq_true rfl, Nat.le_of_ble_eq_true rfl⟩) (prev_of hK hP hD hS hA hE [0] rfl (by decide) (ci := 4) rfl 0 rfl _) rfl rfl hl.1 rfl (lv_room (Nat.le_of_ble_eq_true rfl)) dX4_go_2 ⟨Nat.le_of_ble_eq_true rfl, Nat.le_of_ble_eq_true rfl⟩) hP hD hS hA rfl rfl (by decide) (by decide) hQ (fun _ h9 => ⟨hG.trans (cx_l h9.1), h9.2⟩) hout hlk rfl (by decide) (Nat.le_of_ble_eq_true rfl) (Nat.le_of_ble_eq_true rfl) (fun u_ H locs hw_1 hP hD hS => ?_)
  exact False.elim hw_1
def F_go_x : Int32 ⊕ Int32 :=
  cx F_carOf_x fun _ =>
    .inl 0
theorem F_go_x_u : F_go_x =
  (cx F_carOf_x fun _ =>
    .inl 0) := rfl
set_option maxHeartbeats 4000000 in
set_option maxRecDepth 100000 in
theorem c_go_x (l : Launch) (hl9 : l.stackTraces = false) (D : va_G) (aI aL aZ : ClassId) (sz : Nat) (k0 : Nat) (h4 : Nat) (powered : Int32) (stepsDone : Int32) (lo : Value) (up : Value) (p0 : Int32) (p1 : Int32) (h9 : ¬ p0 = 0) (h8 : ¬ p0 = 1) : vx_Met l yX4_go (.code yX4_go cX4_go 4 (some .int) :: Gw) ({ frames := 7, cells := 1, slots := 6, locals := 114 }) (va_Pc [.ref k0, .int p0, .int p1] (mpre D [(aI, .int), (aL, .long), (aZ, .boolean)] [(k0, .inr (4, [.ref h4, lo, up, .int powered, .int stepsDone]))] sz)) ((fun A : Nat → Prop => va_Qi (fun (r : Int32) (u : Unit) => False) (mpst D A (fun (u : Unit) => [(k0, .inr (4, [.ref h4, lo, up, .int powered, .int stepsDone]))])) A) (va_A ([(k0, .inr (4, [.ref h4, lo, up, .int powered, .int stepsDone]))]) sz)) ((fun A : Nat → Prop => vx_X (fun u : Int32 => F_go_x = .inl u ∧ (u = 1)) (mpsx D A [(k0, .inr (4, [.ref h4, lo, up, .int powered, .int stepsDone]))]) A) (va_A ([(k0, .inr (4, [.ref h4, lo, up, .int powered, .int stepsDone]))]) sz)) 1 6 (va_A ([(k0, .inr (4, [.ref h4, lo, up, .int powered, .int stepsDone]))]) sz) := by
  refine enx (cc := cX4_go) (maxL := 4) (ret := (some .int)) (Qc := (fun A : Nat → Prop => va_Qi (fun (r : Int32) (u : Unit) => False) (mpst D A (fun (u : Unit) => [(k0, .inr (4, [.ref h4, lo, up, .int powered, .int stepsDone]))])) A)) (XC := (fun A : Nat → Prop => vx_X (fun u : Int32 => F_go_x = .inl u ∧ (u = 1)) (mpsx D A [(k0, .inr (4, [.ref h4, lo, up, .int powered, .int stepsDone]))]) A)) (by decide) rfl (Nat.le_of_ble_eq_true rfl) ?_
  intro p e s m args below meth c A ls Q hQ hx hb hr hts hown hlk hnm hml hout hA hS hP hK hD hE hl
  have hown : s.vm.findClass RX4 = some m.cls := hown
  have hl : lv_has ls 4 [(0, .ref k0), (1, .int p0), (2, .int p1)] := hl
  have hG := F_go_x_u
  refine lv_aload_n hx hb dX4_go_0 rfl (lv_at hl 0 rfl) ?_
  refine lv_iload_n hx hb dX4_go_1 rfl (lv_at hl 1 rfl) ?_
  refine my_xr (wr := []) [0] [] [0] (vx_runV (As := [.int p0]) (rest := []) ⟨hx, hb, hml, hown, hts⟩ (c_carOf_x l hl9 D aI aL aZ _ k0 h4 powered stepsDone lo up p0 h9 h8) (cwV 1 hts (gV w_393 w_395 w_2 w_35 w_396) rfl rfl rfl (by decide +kernel) ⟨Nat.le_of_ble_eq_true rfl, Nat.le_of_ble_eq_true rfl⟩) (prev_of hK hP hD hS hA hE [0] rfl (by decide) (ci := 4) rfl 0 rfl _) rfl rfl hl.1 rfl (lv_room (Nat.le_of_ble_eq_true rfl)) dX4_go_2 ⟨Nat.le_of_ble_eq_true rfl, Nat.le_of_ble_eq_true rfl⟩) hP hD hS hA rfl rfl (by decide) (by decide) hQ (fun _ h9 => ⟨hG.trans (cx_l h9.1), h9.2⟩) hout hlk rfl (by decide) (Nat.le_of_ble_eq_true rfl) (Nat.le_of_ble_eq_true rfl) (fun u_ H locs hw_1 hP hD hS => ?_)
  exact False.elim hw_1
theorem dX4_open_0 : decode cX4_open 0 = .ok (.aload_n 0, 1) := by decide +kernel
theorem dX4_open_1 : decode cX4_open 1 = .ok (.iload_n 1, 1) := by decide +kernel
theorem dX4_open_2 : decode cX4_open 2 = .ok (.invokevirtual 84, 3) := by decide +kernel
theorem dX4_open_5 : decode cX4_open 5 = .ok (.astore_n 2, 1) := by decide +kernel
theorem dX4_open_6 : decode cX4_open 6 = .ok (.aload_n 2, 1) := by decide +kernel
theorem dX4_open_7 : decode cX4_open 7 = .ok (.getfield 93, 3) := by decide +kernel
theorem dX4_open_10 : decode cX4_open 10 = .ok (.ifCond .eq 13, 3) := by decide +kernel
theorem dX4_open_13 : decode cX4_open 13 = .ok (.new 47, 3) := by decide +kernel
theorem dX4_open_16 : decode cX4_open 16 = .ok (.dup, 1) := by decide +kernel
theorem dX4_open_17 : decode cX4_open 17 = .ok (.ldc 96, 2) := by decide +kernel
theorem dX4_open_19 : decode cX4_open 19 = .ok (.invokespecial 51, 3) := by decide +kernel
theorem dX4_open_22 : decode cX4_open 22 = .ok (.athrow, 1) := by decide +kernel
theorem dX4_open_23 : decode cX4_open 23 = .ok (.aload_n 0, 1) := by decide +kernel
theorem dX4_open_24 : decode cX4_open 24 = .ok (.getfield 23, 3) := by decide +kernel
theorem dX4_open_27 : decode cX4_open 27 = .ok (.aload_n 2, 1) := by decide +kernel
theorem dX4_open_28 : decode cX4_open 28 = .ok (.getfield 144, 3) := by decide +kernel
theorem dX4_open_31 : decode cX4_open 31 = .ok (.invokevirtual 147, 3) := by decide +kernel
theorem dX4_open_34 : decode cX4_open 34 = .ok (.iconst (-1), 1) := by decide +kernel
theorem dX4_open_35 : decode cX4_open 35 = .ok (.if_icmp .ne 13, 3) := by decide +kernel
theorem dX4_open_38 : decode cX4_open 38 = .ok (.new 47, 3) := by decide +kernel
theorem dX4_open_41 : decode cX4_open 41 = .ok (.dup, 1) := by decide +kernel
theorem dX4_open_42 : decode cX4_open 42 = .ok (.ldc 150, 2) := by decide +kernel
theorem dX4_open_44 : decode cX4_open 44 = .ok (.invokespecial 51, 3) := by decide +kernel
theorem dX4_open_47 : decode cX4_open 47 = .ok (.athrow, 1) := by decide +kernel
theorem dX4_open_48 : decode cX4_open 48 = .ok (.aload_n 2, 1) := by decide +kernel
theorem dX4_open_49 : decode cX4_open 49 = .ok (.getfield 113, 3) := by decide +kernel
theorem dX4_open_52 : decode cX4_open 52 = .ok (.invokevirtual 152, 3) := by decide +kernel
theorem dX4_open_55 : decode cX4_open 55 = .ok (.ireturn, 1) := by decide +kernel
def F_open_0 (place : Int32) (speed : Int32) (dstate : Int32) (dob : Int32) (doc : Int32) (n : Nat) (pf : Nat → Int32) : Int32 ⊕ (Int32 × Int32 × Int32 × Int32) :=
  cx F_carOf_0 fun _ =>
    if speed = 0 then
      cb (F_floorAt n pf place) fun r_3 =>
        if r_3 = (-1) then
          .inl 2
        else
          cb (F_turnToOpening dstate dob doc) fun (r_6, x_7, x_8, x_9) =>
            .inr (r_6, x_7, x_8, x_9)
    else
      .inl 2
theorem F_open_0_u (place : Int32) (speed : Int32) (dstate : Int32) (dob : Int32) (doc : Int32) (n : Nat) (pf : Nat → Int32) : F_open_0 place speed dstate dob doc n pf =
  (cx F_carOf_0 fun _ =>
    if speed = 0 then
      cb (F_floorAt n pf place) fun r_3 =>
        if r_3 = (-1) then
          .inl 2
        else
          cb (F_turnToOpening dstate dob doc) fun (r_6, x_7, x_8, x_9) =>
            .inr (r_6, x_7, x_8, x_9)
    else
      .inl 2) := rfl
set_option maxHeartbeats 4000000 in
set_option maxRecDepth 100000 in
theorem c_open_0 (l : Launch) (hl9 : l.stackTraces = false) (D : va_G) (aI aL aZ : ClassId) (sz : Nat) (k0 : Nat) (h4 : Nat) (powered : Int32) (stepsDone : Int32) (up : Value) (h0 : Nat) (h1 : Nat) (h2 : Nat) (wayToOther : Int32) (place : Int32) (speed : Int32) (way : Int32) (topSpeed : Int32) (gain : Int32) (brake : Int32) (darkSpeed : Int32) (rideSpeed : Int32) (kilos : Int32) (mostKilos : Int32) (openContacts : Int32) (fireFloor : Int32) (ride : Int32) (starts : Int32) (distance : Int32) (hardFalls : Int32) (dstate : Int32) (dplace : Int32) (dplaces : Int32) (dhold : Int32) (dsteps : Int32) (dbeam : Int32) (dob : Int32) (doc : Int32) (h5 : Nat) (gap : Int32) (n : Nat) (pf : Nat → Int32) (hn : n < 2 ^ 31) : vx_Met l yX4_open (.code yX4_open cX4_open 3 (some .boolean) :: Gw) ({ frames := 6, cells := 1, slots := 6, locals := 92 }) (va_Pc [.ref k0, .int 0] (mpre D [(aI, .int), (aL, .long), (aZ, .boolean)] [(k0, .inr (4, [.ref h4, .ref h0, up, .int powered, .int stepsDone])), (h0, .inr (1, [.int wayToOther, .ref h1, .ref h2, .int place, .int speed, .int way, .int topSpeed, .int gain, .int brake, .int darkSpeed, .int rideSpeed, .int kilos, .int mostKilos, .int openContacts, .int fireFloor, .int ride, .int starts, .int distance, .int hardFalls])), (h1, .inr (2, [.int dstate, .int dplace, .int dplaces, .int dhold, .int dsteps, .int dbeam, .int dob, .int doc])), (h4, .inr (3, [.ref h5, .int gap])), (h5, .inl (aI, n, .inl pf))] sz)) ((fun A : Nat → Prop => va_Qi (fun (r : Int32) (u : Int32 × Int32 × Int32) => match u with | (u0, u1, u2) => F_open_0 place speed dstate dob doc n pf = .inr (r, u0, u1, u2) ∧ nb r) (mpst D A (fun (u : Int32 × Int32 × Int32) => match u with | (u0, u1, u2) => [(k0, .inr (4, [.ref h4, .ref h0, up, .int powered, .int stepsDone])), (h0, .inr (1, [.int wayToOther, .ref h1, .ref h2, .int place, .int speed, .int way, .int topSpeed, .int gain, .int brake, .int darkSpeed, .int rideSpeed, .int kilos, .int mostKilos, .int openContacts, .int fireFloor, .int ride, .int starts, .int distance, .int hardFalls])), (h1, .inr (2, [.int u0, .int dplace, .int dplaces, .int dhold, .int dsteps, .int dbeam, .int u1, .int u2])), (h4, .inr (3, [.ref h5, .int gap])), (h5, .inl (aI, n, .inl pf))])) A) (va_A ([(k0, .inr (4, [.ref h4, .ref h0, up, .int powered, .int stepsDone])), (h0, .inr (1, [.int wayToOther, .ref h1, .ref h2, .int place, .int speed, .int way, .int topSpeed, .int gain, .int brake, .int darkSpeed, .int rideSpeed, .int kilos, .int mostKilos, .int openContacts, .int fireFloor, .int ride, .int starts, .int distance, .int hardFalls])), (h1, .inr (2, [.int dstate, .int dplace, .int dplaces, .int dhold, .int dsteps, .int dbeam, .int dob, .int doc])), (h4, .inr (3, [.ref h5, .int gap])), (h5, .inl (aI, n, .inl pf))]) sz)) ((fun A : Nat → Prop => vx_X (fun u : Int32 => F_open_0 place speed dstate dob doc n pf = .inl u ∧ (u = 2)) (mpsx D A [(k0, .inr (4, [.ref h4, .ref h0, up, .int powered, .int stepsDone])), (h0, .inr (1, [.int wayToOther, .ref h1, .ref h2, .int place, .int speed, .int way, .int topSpeed, .int gain, .int brake, .int darkSpeed, .int rideSpeed, .int kilos, .int mostKilos, .int openContacts, .int fireFloor, .int ride, .int starts, .int distance, .int hardFalls])), (h1, .inr (2, [.int dstate, .int dplace, .int dplaces, .int dhold, .int dsteps, .int dbeam, .int dob, .int doc])), (h4, .inr (3, [.ref h5, .int gap])), (h5, .inl (aI, n, .inl pf))]) A) (va_A ([(k0, .inr (4, [.ref h4, .ref h0, up, .int powered, .int stepsDone])), (h0, .inr (1, [.int wayToOther, .ref h1, .ref h2, .int place, .int speed, .int way, .int topSpeed, .int gain, .int brake, .int darkSpeed, .int rideSpeed, .int kilos, .int mostKilos, .int openContacts, .int fireFloor, .int ride, .int starts, .int distance, .int hardFalls])), (h1, .inr (2, [.int dstate, .int dplace, .int dplaces, .int dhold, .int dsteps, .int dbeam, .int dob, .int doc])), (h4, .inr (3, [.ref h5, .int gap])), (h5, .inl (aI, n, .inl pf))]) sz)) 1 6 (va_A ([(k0, .inr (4, [.ref h4, .ref h0, up, .int powered, .int stepsDone])), (h0, .inr (1, [.int wayToOther, .ref h1, .ref h2, .int place, .int speed, .int way, .int topSpeed, .int gain, .int brake, .int darkSpeed, .int rideSpeed, .int kilos, .int mostKilos, .int openContacts, .int fireFloor, .int ride, .int starts, .int distance, .int hardFalls])), (h1, .inr (2, [.int dstate, .int dplace, .int dplaces, .int dhold, .int dsteps, .int dbeam, .int dob, .int doc])), (h4, .inr (3, [.ref h5, .int gap])), (h5, .inl (aI, n, .inl pf))]) sz) := by
  refine enx (cc := cX4_open) (maxL := 3) (ret := (some .boolean)) (Qc := (fun A : Nat → Prop => va_Qi (fun (r : Int32) (u : Int32 × Int32 × Int32) => match u with | (u0, u1, u2) => F_open_0 place speed dstate dob doc n pf = .inr (r, u0, u1, u2) ∧ nb r) (mpst D A (fun (u : Int32 × Int32 × Int32) => match u with | (u0, u1, u2) => [(k0, .inr (4, [.ref h4, .ref h0, up, .int powered, .int stepsDone])), (h0, .inr (1, [.int wayToOther, .ref h1, .ref h2, .int place, .int speed, .int way, .int topSpeed, .int gain, .int brake, .int darkSpeed, .int rideSpeed, .int kilos, .int mostKilos, .int openContacts, .int fireFloor, .int ride, .int starts, .int distance, .int hardFalls])), (h1, .inr (2, [.int u0, .int dplace, .int dplaces, .int dhold, .int dsteps, .int dbeam, .int u1, .int u2])), (h4, .inr (3, [.ref h5, .int gap])), (h5, .inl (aI, n, .inl pf))])) A)) (XC := (fun A : Nat → Prop => vx_X (fun u : Int32 => F_open_0 place speed dstate dob doc n pf = .inl u ∧ (u = 2)) (mpsx D A [(k0, .inr (4, [.ref h4, .ref h0, up, .int powered, .int stepsDone])), (h0, .inr (1, [.int wayToOther, .ref h1, .ref h2, .int place, .int speed, .int way, .int topSpeed, .int gain, .int brake, .int darkSpeed, .int rideSpeed, .int kilos, .int mostKilos, .int openContacts, .int fireFloor, .int ride, .int starts, .int distance, .int hardFalls])), (h1, .inr (2, [.int dstate, .int dplace, .int dplaces, .int dhold, .int dsteps, .int dbeam, .int dob, .int doc])), (h4, .inr (3, [.ref h5, .int gap])), (h5, .inl (aI, n, .inl pf))]) A)) (by decide) rfl (Nat.le_of_ble_eq_true rfl) ?_
  intro p e s m args below meth c A ls Q hQ hx hb hr hts hown hlk hnm hml hout hA hS hP hK hD hE hl
  have hown : s.vm.findClass RX4 = some m.cls := hown
  have hl : lv_has ls 3 [(0, .ref k0), (1, .int 0)] := hl
  have hG := F_open_0_u place speed dstate dob doc n pf
  refine lv_aload_n hx hb dX4_open_0 rfl (lv_at hl 0 rfl) ?_
  refine lv_iload_n hx hb dX4_open_1 rfl (lv_at hl 1 rfl) ?_
  refine my_xr (wr := [(h0, .inr (1, [.int wayToOther, .ref h1, .ref h2, .int place, .int speed, .int way, .int topSpeed, .int gain, .int brake, .int darkSpeed, .int rideSpeed, .int kilos, .int mostKilos, .int openContacts, .int fireFloor, .int ride, .int starts, .int distance, .int hardFalls])), (h1, .inr (2, [.int dstate, .int dplace, .int dplaces, .int dhold, .int dsteps, .int dbeam, .int dob, .int doc])), (h4, .inr (3, [.ref h5, .int gap])), (h5, .inl (aI, n, .inl pf))]) [0] [1, 2, 3, 4] [4, 0, 1, 2, 3] (vx_runV (As := [.int 0]) (rest := []) ⟨hx, hb, hml, hown, hts⟩ (c_carOf_0 l hl9 D aI aL aZ _ k0 h4 powered stepsDone h0 up) (cwV 1 hts (gV w_393 w_395 w_2 w_35 w_396) rfl rfl rfl (by decide +kernel) ⟨Nat.le_of_ble_eq_true rfl, Nat.le_of_ble_eq_true rfl⟩) (prev_of hK hP hD hS hA hE [0] rfl (by decide) (ci := 4) rfl 0 rfl _) rfl rfl hl.1 rfl (lv_room (Nat.le_of_ble_eq_true rfl)) dX4_open_2 ⟨Nat.le_of_ble_eq_true rfl, Nat.le_of_ble_eq_true rfl⟩) hP hD hS hA rfl rfl (by decide) (by decide) hQ (fun _ h9 => ⟨hG.trans (cx_l h9.1), (False.elim h9.2)⟩) hout hlk rfl (by decide) (Nat.le_of_ble_eq_true rfl) (Nat.le_of_ble_eq_true rfl) (fun u_ H locs hw_1 hP hD hS => ?_)
  have hw_1 : F_carOf_0 = .inr () := hw_1
  have hG := hG.trans (cx_r hw_1)
  have hP : va_P D vwCl [(h0, .inr (1, [.int wayToOther, .ref h1, .ref h2, .int place, .int speed, .int way, .int topSpeed, .int gain, .int brake, .int darkSpeed, .int rideSpeed, .int kilos, .int mostKilos, .int openContacts, .int fireFloor, .int ride, .int starts, .int distance, .int hardFalls])), (h1, .inr (2, [.int dstate, .int dplace, .int dplaces, .int dhold, .int dsteps, .int dbeam, .int dob, .int doc])), (h4, .inr (3, [.ref h5, .int gap])), (h5, .inl (aI, n, .inl pf)), (k0, .inr (4, [.ref h4, .ref h0, up, .int powered, .int stepsDone]))] H := hP
  have hD : va_D A [(h0, .inr (1, [.int wayToOther, .ref h1, .ref h2, .int place, .int speed, .int way, .int topSpeed, .int gain, .int brake, .int darkSpeed, .int rideSpeed, .int kilos, .int mostKilos, .int openContacts, .int fireFloor, .int ride, .int starts, .int distance, .int hardFalls])), (h1, .inr (2, [.int dstate, .int dplace, .int dplaces, .int dhold, .int dsteps, .int dbeam, .int dob, .int doc])), (h4, .inr (3, [.ref h5, .int gap])), (h5, .inl (aI, n, .inl pf)), (k0, .inr (4, [.ref h4, .ref h0, up, .int powered, .int stepsDone]))] := hD
  refine lv_astore_n (lv' := [(2, .ref h0), (0, .ref k0), (1, .int 0)]) hx hb dX4_open_5 rfl hl (by decide) rfl (fun ls hl => ?_)
  refine lv_aload_n hx hb dX4_open_6 rfl (lv_at hl 0 rfl) ?_
  refine va_getN (D := D) (ci := 1) (v := .int speed) (C := RX1) (T := TX1) (N := 19) hx hb hts inX1 hown hK hP 0 rfl rfl 4 (by decide) (nwF hE 15 rfl) (fun _ h9 => h9) rfl dX4_open_7 ?_
  refine lv_if_eq (tgt := 23) hx hb dX4_open_10 (by decide) (fun c_2 => ?_) (fun c_2 => ?_)
  · have hG := hG.trans (if_pos c_2)
    refine lv_aload_n hx hb dX4_open_23 rfl (lv_at hl 1 rfl) ?_
    refine va_get (D := D) (ci := 4) (v := .ref h4) (C := RX4) (T := TX4) (N := 5) hx hb hts inX4 hown hK hP 4 rfl rfl 0 (by decide) (hts _ (mG w_79)) (fun _ h9 => h9) rfl dX4_open_24 ?_
    refine lv_aload_n hx hb dX4_open_27 rfl (lv_at hl 0 rfl) ?_
    refine va_getN (D := D) (ci := 1) (v := .int place) (C := RX1) (T := TX1) (N := 19) hx hb hts inX1 hown hK hP 0 rfl rfl 3 (by decide) (nwF hE 14 rfl) (fun _ h9 => h9) rfl dX4_open_28 ?_
    refine my_i (wr := [(h0, .inr (1, [.int wayToOther, .ref h1, .ref h2, .int place, .int speed, .int way, .int topSpeed, .int gain, .int brake, .int darkSpeed, .int rideSpeed, .int kilos, .int mostKilos, .int openContacts, .int fireFloor, .int ride, .int starts, .int distance, .int hardFalls])), (h1, .inr (2, [.int dstate, .int dplace, .int dplaces, .int dhold, .int dsteps, .int dbeam, .int dob, .int doc])), (k0, .inr (4, [.ref h4, .ref h0, up, .int powered, .int stepsDone]))]) [2, 3] [0, 1, 4] (va_runV (As := [.int place]) (rest := []) ⟨hx, hb, hml, hown, hts⟩ (c_floorAt l D aI aL aZ _ h4 h5 gap n pf place hn) (cwV 1 hts (gV w_434 w_435 w_436 w_36 w_437) rfl rfl rfl (by decide +kernel) ⟨Nat.le_of_ble_eq_true rfl, Nat.le_of_ble_eq_true rfl⟩) (prev_of hK hP hD hS hA hE [2, 3] rfl (by decide) (ci := 3) rfl 2 rfl _) rfl rfl hl.1 rfl (lv_room (Nat.le_of_ble_eq_true rfl)) dX4_open_31 ⟨Nat.le_of_ble_eq_true rfl, Nat.le_of_ble_eq_true rfl⟩) hP hD hS hA rfl rfl (by decide) (by decide) (fun r_3 u_ H locs hw_4 hP hD hS => ?_)
    have hw_4 : F_floorAt n pf place = r_3 := hw_4
    have hG := hG.trans (cb_e hw_4)
    have hP : va_P D vwCl [(h0, .inr (1, [.int wayToOther, .ref h1, .ref h2, .int place, .int speed, .int way, .int topSpeed, .int gain, .int brake, .int darkSpeed, .int rideSpeed, .int kilos, .int mostKilos, .int openContacts, .int fireFloor, .int ride, .int starts, .int distance, .int hardFalls])), (h1, .inr (2, [.int dstate, .int dplace, .int dplaces, .int dhold, .int dsteps, .int dbeam, .int dob, .int doc])), (k0, .inr (4, [.ref h4, .ref h0, up, .int powered, .int stepsDone])), (h4, .inr (3, [.ref h5, .int gap])), (h5, .inl (aI, n, .inl pf))] H := hP
    have hD : va_D A [(h0, .inr (1, [.int wayToOther, .ref h1, .ref h2, .int place, .int speed, .int way, .int topSpeed, .int gain, .int brake, .int darkSpeed, .int rideSpeed, .int kilos, .int mostKilos, .int openContacts, .int fireFloor, .int ride, .int starts, .int distance, .int hardFalls])), (h1, .inr (2, [.int dstate, .int dplace, .int dplaces, .int dhold, .int dsteps, .int dbeam, .int dob, .int doc])), (k0, .inr (4, [.ref h4, .ref h0, up, .int powered, .int stepsDone])), (h4, .inr (3, [.ref h5, .int gap])), (h5, .inl (aI, n, .inl pf))] := hD
    refine lv_iconst (v := (-1)) hx hb dX4_open_34 (by decide) ?_
    refine lv_icmp_ne (tgt := 48) hx hb dX4_open_35 (by decide) (fun c_5 => ?_) (fun c_5 => ?_)
    · have hG := hG.trans (if_neg c_5)
      refine lv_aload_n hx hb dX4_open_48 rfl (lv_at hl 0 rfl) ?_
      refine va_getN (D := D) (ci := 1) (v := .ref h1) (C := RX1) (T := TX1) (N := 19) hx hb hts inX1 hown hK hP 0 rfl rfl 1 (by decide) (nwF hE 12 rfl) (fun _ h9 => h9) rfl dX4_open_49 ?_
      refine my_i (wr := [(h0, .inr (1, [.int wayToOther, .ref h1, .ref h2, .int place, .int speed, .int way, .int topSpeed, .int gain, .int brake, .int darkSpeed, .int rideSpeed, .int kilos, .int mostKilos, .int openContacts, .int fireFloor, .int ride, .int starts, .int distance, .int hardFalls])), (k0, .inr (4, [.ref h4, .ref h0, up, .int powered, .int stepsDone])), (h4, .inr (3, [.ref h5, .int gap])), (h5, .inl (aI, n, .inl pf))]) [1] [0, 2, 3, 4] (va_runV (As := []) (rest := []) ⟨hx, hb, hml, hown, hts⟩ (c_turnToOpening l D aI aL aZ _ h1 dstate dplace dplaces dhold dsteps dbeam dob doc) (cwV 0 hts (gV w_439 w_440 w_441 w_45 w_442) rfl rfl rfl (by decide +kernel) ⟨Nat.le_of_ble_eq_true rfl, Nat.le_of_ble_eq_true rfl⟩) (prev_of hK hP hD hS hA hE [1] rfl (by decide) (ci := 2) rfl 1 rfl _) rfl rfl hl.1 rfl (lv_room (Nat.le_of_ble_eq_true rfl)) dX4_open_52 ⟨Nat.le_of_ble_eq_true rfl, Nat.le_of_ble_eq_true rfl⟩) hP hD hS hA rfl rfl (by decide) (by decide) (fun r_6 u_ H locs hw_10 hP hD hS => ?_)
      obtain ⟨x_7, x_8, x_9⟩ := u_
      have hw_10 : F_turnToOpening dstate dob doc = (r_6, x_7, x_8, x_9) ∧ nb r_6 := hw_10
      have hG := hG.trans (cb_e hw_10.1)
      have hP : va_P D vwCl [(h0, .inr (1, [.int wayToOther, .ref h1, .ref h2, .int place, .int speed, .int way, .int topSpeed, .int gain, .int brake, .int darkSpeed, .int rideSpeed, .int kilos, .int mostKilos, .int openContacts, .int fireFloor, .int ride, .int starts, .int distance, .int hardFalls])), (k0, .inr (4, [.ref h4, .ref h0, up, .int powered, .int stepsDone])), (h4, .inr (3, [.ref h5, .int gap])), (h5, .inl (aI, n, .inl pf)), (h1, .inr (2, [.int x_7, .int dplace, .int dplaces, .int dhold, .int dsteps, .int dbeam, .int x_8, .int x_9]))] H := hP
      have hD : va_D A [(h0, .inr (1, [.int wayToOther, .ref h1, .ref h2, .int place, .int speed, .int way, .int topSpeed, .int gain, .int brake, .int darkSpeed, .int rideSpeed, .int kilos, .int mostKilos, .int openContacts, .int fireFloor, .int ride, .int starts, .int distance, .int hardFalls])), (k0, .inr (4, [.ref h4, .ref h0, up, .int powered, .int stepsDone])), (h4, .inr (3, [.ref h5, .int gap])), (h5, .inl (aI, n, .inl pf)), (h1, .inr (2, [.int x_7, .int dplace, .int dplaces, .int dhold, .int dsteps, .int dbeam, .int x_8, .int x_9]))] := hD
      have hP := hP.sub (ws' := [(k0, .inr (4, [.ref h4, .ref h0, up, .int powered, .int stepsDone])), (h0, .inr (1, [.int wayToOther, .ref h1, .ref h2, .int place, .int speed, .int way, .int topSpeed, .int gain, .int brake, .int darkSpeed, .int rideSpeed, .int kilos, .int mostKilos, .int openContacts, .int fireFloor, .int ride, .int starts, .int distance, .int hardFalls])), (h1, .inr (2, [.int x_7, .int dplace, .int dplaces, .int dhold, .int dsteps, .int dbeam, .int x_8, .int x_9])), (h4, .inr (3, [.ref h5, .int gap])), (h5, .inl (aI, n, .inl pf))]) [1, 0, 4, 2, 3] rfl
      have hD := hD.sub (ws' := [(k0, .inr (4, [.ref h4, .ref h0, up, .int powered, .int stepsDone])), (h0, .inr (1, [.int wayToOther, .ref h1, .ref h2, .int place, .int speed, .int way, .int topSpeed, .int gain, .int brake, .int darkSpeed, .int rideSpeed, .int kilos, .int mostKilos, .int openContacts, .int fireFloor, .int ride, .int starts, .int distance, .int hardFalls])), (h1, .inr (2, [.int x_7, .int dplace, .int dplaces, .int dhold, .int dsteps, .int dbeam, .int x_8, .int x_9])), (h4, .inr (3, [.ref h5, .int gap])), (h5, .inl (aI, n, .inl pf))]) [1, 0, 4, 2, 3] (by decide) rfl
      exact rtx_z hQ hx hb hr (nb_n hw_10.2) (x_7, x_8, x_9) ⟨hG, hw_10.2⟩ hP hD hS (Nat.le_of_ble_eq_true rfl) (Nat.le_of_ble_eq_true rfl) dX4_open_55 hlk
    · have hG := hG.trans (if_pos c_5)
      exact my_throw (own := RX4) (cls := "java/lang/IllegalStateException") (text := "the car is not at a floor") 2 [2, 0, 1, 3, 4] hx hb hl9 hown (by decide +kernel) (hts _ (mG w_190)) (hts _ (mG w_43)) 10 rfl mt_51 hts tb_X4_51 tg_X4_51 hE hS (hl.1.trans hml.symm) dX4_open_38 dX4_open_41 dX4_open_42 dX4_open_44 dX4_open_47 hout (Nat.le_of_ble_eq_true rfl) (Nat.le_of_ble_eq_true rfl) (Nat.le_of_ble_eq_true rfl) (Nat.le_of_ble_eq_true rfl) hlk hQ rfl ⟨hG, rfl⟩ hP hD rfl (by decide) (Nat.le_of_ble_eq_true rfl) (Nat.le_of_ble_eq_true rfl)
  · have hG := hG.trans (if_neg c_2)
    exact my_throw (own := RX4) (cls := "java/lang/IllegalStateException") (text := "the car does not stand") 2 [4, 0, 1, 2, 3] hx hb hl9 hown (by decide +kernel) (hts _ (mG w_190)) (hts _ (mG w_43)) 7 rfl mt_51 hts tb_X4_51 tg_X4_51 hE hS (hl.1.trans hml.symm) dX4_open_13 dX4_open_16 dX4_open_17 dX4_open_19 dX4_open_22 hout (Nat.le_of_ble_eq_true rfl) (Nat.le_of_ble_eq_true rfl) (Nat.le_of_ble_eq_true rfl) (Nat.le_of_ble_eq_true rfl) hlk hQ rfl ⟨hG, rfl⟩ hP hD rfl (by decide) (Nat.le_of_ble_eq_true rfl) (Nat.le_of_ble_eq_true rfl)
def F_open_1 (place : Int32) (speed : Int32) (dstate : Int32) (dob : Int32) (doc : Int32) (n : Nat) (pf : Nat → Int32) : Int32 ⊕ (Int32 × Int32 × Int32 × Int32) :=
  cx F_carOf_1 fun _ =>
    if speed = 0 then
      cb (F_floorAt n pf place) fun r_3 =>
        if r_3 = (-1) then
          .inl 2
        else
          cb (F_turnToOpening dstate dob doc) fun (r_6, x_7, x_8, x_9) =>
            .inr (r_6, x_7, x_8, x_9)
    else
      .inl 2
theorem F_open_1_u (place : Int32) (speed : Int32) (dstate : Int32) (dob : Int32) (doc : Int32) (n : Nat) (pf : Nat → Int32) : F_open_1 place speed dstate dob doc n pf =
  (cx F_carOf_1 fun _ =>
    if speed = 0 then
      cb (F_floorAt n pf place) fun r_3 =>
        if r_3 = (-1) then
          .inl 2
        else
          cb (F_turnToOpening dstate dob doc) fun (r_6, x_7, x_8, x_9) =>
            .inr (r_6, x_7, x_8, x_9)
    else
      .inl 2) := rfl
set_option maxHeartbeats 4000000 in
set_option maxRecDepth 100000 in
theorem c_open_1 (l : Launch) (hl9 : l.stackTraces = false) (D : va_G) (aI aL aZ : ClassId) (sz : Nat) (k0 : Nat) (h4 : Nat) (powered : Int32) (stepsDone : Int32) (lo : Value) (h0 : Nat) (h1 : Nat) (h2 : Nat) (wayToOther : Int32) (place : Int32) (speed : Int32) (way : Int32) (topSpeed : Int32) (gain : Int32) (brake : Int32) (darkSpeed : Int32) (rideSpeed : Int32) (kilos : Int32) (mostKilos : Int32) (openContacts : Int32) (fireFloor : Int32) (ride : Int32) (starts : Int32) (distance : Int32) (hardFalls : Int32) (dstate : Int32) (dplace : Int32) (dplaces : Int32) (dhold : Int32) (dsteps : Int32) (dbeam : Int32) (dob : Int32) (doc : Int32) (h5 : Nat) (gap : Int32) (n : Nat) (pf : Nat → Int32) (hn : n < 2 ^ 31) : vx_Met l yX4_open (.code yX4_open cX4_open 3 (some .boolean) :: Gw) ({ frames := 6, cells := 1, slots := 6, locals := 92 }) (va_Pc [.ref k0, .int 1] (mpre D [(aI, .int), (aL, .long), (aZ, .boolean)] [(k0, .inr (4, [.ref h4, lo, .ref h0, .int powered, .int stepsDone])), (h0, .inr (1, [.int wayToOther, .ref h1, .ref h2, .int place, .int speed, .int way, .int topSpeed, .int gain, .int brake, .int darkSpeed, .int rideSpeed, .int kilos, .int mostKilos, .int openContacts, .int fireFloor, .int ride, .int starts, .int distance, .int hardFalls])), (h1, .inr (2, [.int dstate, .int dplace, .int dplaces, .int dhold, .int dsteps, .int dbeam, .int dob, .int doc])), (h4, .inr (3, [.ref h5, .int gap])), (h5, .inl (aI, n, .inl pf))] sz)) ((fun A : Nat → Prop => va_Qi (fun (r : Int32) (u : Int32 × Int32 × Int32) => match u with | (u0, u1, u2) => F_open_1 place speed dstate dob doc n pf = .inr (r, u0, u1, u2) ∧ nb r) (mpst D A (fun (u : Int32 × Int32 × Int32) => match u with | (u0, u1, u2) => [(k0, .inr (4, [.ref h4, lo, .ref h0, .int powered, .int stepsDone])), (h0, .inr (1, [.int wayToOther, .ref h1, .ref h2, .int place, .int speed, .int way, .int topSpeed, .int gain, .int brake, .int darkSpeed, .int rideSpeed, .int kilos, .int mostKilos, .int openContacts, .int fireFloor, .int ride, .int starts, .int distance, .int hardFalls])), (h1, .inr (2, [.int u0, .int dplace, .int dplaces, .int dhold, .int dsteps, .int dbeam, .int u1, .int u2])), (h4, .inr (3, [.ref h5, .int gap])), (h5, .inl (aI, n, .inl pf))])) A) (va_A ([(k0, .inr (4, [.ref h4, lo, .ref h0, .int powered, .int stepsDone])), (h0, .inr (1, [.int wayToOther, .ref h1, .ref h2, .int place, .int speed, .int way, .int topSpeed, .int gain, .int brake, .int darkSpeed, .int rideSpeed, .int kilos, .int mostKilos, .int openContacts, .int fireFloor, .int ride, .int starts, .int distance, .int hardFalls])), (h1, .inr (2, [.int dstate, .int dplace, .int dplaces, .int dhold, .int dsteps, .int dbeam, .int dob, .int doc])), (h4, .inr (3, [.ref h5, .int gap])), (h5, .inl (aI, n, .inl pf))]) sz)) ((fun A : Nat → Prop => vx_X (fun u : Int32 => F_open_1 place speed dstate dob doc n pf = .inl u ∧ (u = 2)) (mpsx D A [(k0, .inr (4, [.ref h4, lo, .ref h0, .int powered, .int stepsDone])), (h0, .inr (1, [.int wayToOther, .ref h1, .ref h2, .int place, .int speed, .int way, .int topSpeed, .int gain, .int brake, .int darkSpeed, .int rideSpeed, .int kilos, .int mostKilos, .int openContacts, .int fireFloor, .int ride, .int starts, .int distance, .int hardFalls])), (h1, .inr (2, [.int dstate, .int dplace, .int dplaces, .int dhold, .int dsteps, .int dbeam, .int dob, .int doc])), (h4, .inr (3, [.ref h5, .int gap])), (h5, .inl (aI, n, .inl pf))]) A) (va_A ([(k0, .inr (4, [.ref h4, lo, .ref h0, .int powered, .int stepsDone])), (h0, .inr (1, [.int wayToOther, .ref h1, .ref h2, .int place, .int speed, .int way, .int topSpeed, .int gain, .int brake, .int darkSpeed, .int rideSpeed, .int kilos, .int mostKilos, .int openContacts, .int fireFloor, .int ride, .int starts, .int distance, .int hardFalls])), (h1, .inr (2, [.int dstate, .int dplace, .int dplaces, .int dhold, .int dsteps, .int dbeam, .int dob, .int doc])), (h4, .inr (3, [.ref h5, .int gap])), (h5, .inl (aI, n, .inl pf))]) sz)) 1 6 (va_A ([(k0, .inr (4, [.ref h4, lo, .ref h0, .int powered, .int stepsDone])), (h0, .inr (1, [.int wayToOther, .ref h1, .ref h2, .int place, .int speed, .int way, .int topSpeed, .int gain, .int brake, .int darkSpeed, .int rideSpeed, .int kilos, .int mostKilos, .int openContacts, .int fireFloor, .int ride, .int starts, .int distance, .int hardFalls])), (h1, .inr (2, [.int dstate, .int dplace, .int dplaces, .int dhold, .int dsteps, .int dbeam, .int dob, .int doc])), (h4, .inr (3, [.ref h5, .int gap])), (h5, .inl (aI, n, .inl pf))]) sz) := by
  refine enx (cc := cX4_open) (maxL := 3) (ret := (some .boolean)) (Qc := (fun A : Nat → Prop => va_Qi (fun (r : Int32) (u : Int32 × Int32 × Int32) => match u with | (u0, u1, u2) => F_open_1 place speed dstate dob doc n pf = .inr (r, u0, u1, u2) ∧ nb r) (mpst D A (fun (u : Int32 × Int32 × Int32) => match u with | (u0, u1, u2) => [(k0, .inr (4, [.ref h4, lo, .ref h0, .int powered, .int stepsDone])), (h0, .inr (1, [.int wayToOther, .ref h1, .ref h2, .int place, .int speed, .int way, .int topSpeed, .int gain, .int brake, .int darkSpeed, .int rideSpeed, .int kilos, .int mostKilos, .int openContacts, .int fireFloor, .int ride, .int starts, .int distance, .int hardFalls])), (h1, .inr (2, [.int u0, .int dplace, .int dplaces, .int dhold, .int dsteps, .int dbeam, .int u1, .int u2])), (h4, .inr (3, [.ref h5, .int gap])), (h5, .inl (aI, n, .inl pf))])) A)) (XC := (fun A : Nat → Prop => vx_X (fun u : Int32 => F_open_1 place speed dstate dob doc n pf = .inl u ∧ (u = 2)) (mpsx D A [(k0, .inr (4, [.ref h4, lo, .ref h0, .int powered, .int stepsDone])), (h0, .inr (1, [.int wayToOther, .ref h1, .ref h2, .int place, .int speed, .int way, .int topSpeed, .int gain, .int brake, .int darkSpeed, .int rideSpeed, .int kilos, .int mostKilos, .int openContacts, .int fireFloor, .int ride, .int starts, .int distance, .int hardFalls])), (h1, .inr (2, [.int dstate, .int dplace, .int dplaces, .int dhold, .int dsteps, .int dbeam, .int dob, .int doc])), (h4, .inr (3, [.ref h5, .int gap])), (h5, .inl (aI, n, .inl pf))]) A)) (by decide) rfl (Nat.le_of_ble_eq_true rfl) ?_
  intro p e s m args below meth c A ls Q hQ hx hb hr hts hown hlk hnm hml hout hA hS hP hK hD hE hl
  have hown : s.vm.findClass RX4 = some m.cls := hown
  have hl : lv_has ls 3 [(0, .ref k0), (1, .int 1)] := hl
  have hG := F_open_1_u place speed dstate dob doc n pf
  refine lv_aload_n hx hb dX4_open_0 rfl (lv_at hl 0 rfl) ?_
  refine lv_iload_n hx hb dX4_open_1 rfl (lv_at hl 1 rfl) ?_
  refine my_xr (wr := [(h0, .inr (1, [.int wayToOther, .ref h1, .ref h2, .int place, .int speed, .int way, .int topSpeed, .int gain, .int brake, .int darkSpeed, .int rideSpeed, .int kilos, .int mostKilos, .int openContacts, .int fireFloor, .int ride, .int starts, .int distance, .int hardFalls])), (h1, .inr (2, [.int dstate, .int dplace, .int dplaces, .int dhold, .int dsteps, .int dbeam, .int dob, .int doc])), (h4, .inr (3, [.ref h5, .int gap])), (h5, .inl (aI, n, .inl pf))]) [0] [1, 2, 3, 4] [4, 0, 1, 2, 3] (vx_runV (As := [.int 1]) (rest := []) ⟨hx, hb, hml, hown, hts⟩ (c_carOf_1 l hl9 D aI aL aZ _ k0 h4 powered stepsDone h0 lo) (cwV 1 hts (gV w_393 w_395 w_2 w_35 w_396) rfl rfl rfl (by decide +kernel) ⟨Nat.le_of_ble_eq_true rfl, Nat.le_of_ble_eq_true rfl⟩) (prev_of hK hP hD hS hA hE [0] rfl (by decide) (ci := 4) rfl 0 rfl _) rfl rfl hl.1 rfl (lv_room (Nat.le_of_ble_eq_true rfl)) dX4_open_2 ⟨Nat.le_of_ble_eq_true rfl, Nat.le_of_ble_eq_true rfl⟩) hP hD hS hA rfl rfl (by decide) (by decide) hQ (fun _ h9 => ⟨hG.trans (cx_l h9.1), (False.elim h9.2)⟩) hout hlk rfl (by decide) (Nat.le_of_ble_eq_true rfl) (Nat.le_of_ble_eq_true rfl) (fun u_ H locs hw_1 hP hD hS => ?_)
  have hw_1 : F_carOf_1 = .inr () := hw_1
  have hG := hG.trans (cx_r hw_1)
  have hP : va_P D vwCl [(h0, .inr (1, [.int wayToOther, .ref h1, .ref h2, .int place, .int speed, .int way, .int topSpeed, .int gain, .int brake, .int darkSpeed, .int rideSpeed, .int kilos, .int mostKilos, .int openContacts, .int fireFloor, .int ride, .int starts, .int distance, .int hardFalls])), (h1, .inr (2, [.int dstate, .int dplace, .int dplaces, .int dhold, .int dsteps, .int dbeam, .int dob, .int doc])), (h4, .inr (3, [.ref h5, .int gap])), (h5, .inl (aI, n, .inl pf)), (k0, .inr (4, [.ref h4, lo, .ref h0, .int powered, .int stepsDone]))] H := hP
  have hD : va_D A [(h0, .inr (1, [.int wayToOther, .ref h1, .ref h2, .int place, .int speed, .int way, .int topSpeed, .int gain, .int brake, .int darkSpeed, .int rideSpeed, .int kilos, .int mostKilos, .int openContacts, .int fireFloor, .int ride, .int starts, .int distance, .int hardFalls])), (h1, .inr (2, [.int dstate, .int dplace, .int dplaces, .int dhold, .int dsteps, .int dbeam, .int dob, .int doc])), (h4, .inr (3, [.ref h5, .int gap])), (h5, .inl (aI, n, .inl pf)), (k0, .inr (4, [.ref h4, lo, .ref h0, .int powered, .int stepsDone]))] := hD
  refine lv_astore_n (lv' := [(2, .ref h0), (0, .ref k0), (1, .int 1)]) hx hb dX4_open_5 rfl hl (by decide) rfl (fun ls hl => ?_)
  refine lv_aload_n hx hb dX4_open_6 rfl (lv_at hl 0 rfl) ?_
  refine va_getN (D := D) (ci := 1) (v := .int speed) (C := RX1) (T := TX1) (N := 19) hx hb hts inX1 hown hK hP 0 rfl rfl 4 (by decide) (nwF hE 15 rfl) (fun _ h9 => h9) rfl dX4_open_7 ?_
  refine lv_if_eq (tgt := 23) hx hb dX4_open_10 (by decide) (fun c_2 => ?_) (fun c_2 => ?_)
  · have hG := hG.trans (if_pos c_2)
    refine lv_aload_n hx hb dX4_open_23 rfl (lv_at hl 1 rfl) ?_
    refine va_get (D := D) (ci := 4) (v := .ref h4) (C := RX4) (T := TX4) (N := 5) hx hb hts inX4 hown hK hP 4 rfl rfl 0 (by decide) (hts _ (mG w_79)) (fun _ h9 => h9) rfl dX4_open_24 ?_
    refine lv_aload_n hx hb dX4_open_27 rfl (lv_at hl 0 rfl) ?_
    refine va_getN (D := D) (ci := 1) (v := .int place) (C := RX1) (T := TX1) (N := 19) hx hb hts inX1 hown hK hP 0 rfl rfl 3 (by decide) (nwF hE 14 rfl) (fun _ h9 => h9) rfl dX4_open_28 ?_
    refine my_i (wr := [(h0, .inr (1, [.int wayToOther, .ref h1, .ref h2, .int place, .int speed, .int way, .int topSpeed, .int gain, .int brake, .int darkSpeed, .int rideSpeed, .int kilos, .int mostKilos, .int openContacts, .int fireFloor, .int ride, .int starts, .int distance, .int hardFalls])), (h1, .inr (2, [.int dstate, .int dplace, .int dplaces, .int dhold, .int dsteps, .int dbeam, .int dob, .int doc])), (k0, .inr (4, [.ref h4, lo, .ref h0, .int powered, .int stepsDone]))]) [2, 3] [0, 1, 4] (va_runV (As := [.int place]) (rest := []) ⟨hx, hb, hml, hown, hts⟩ (c_floorAt l D aI aL aZ _ h4 h5 gap n pf place hn) (cwV 1 hts (gV w_434 w_435 w_436 w_36 w_437) rfl rfl rfl (by decide +kernel) ⟨Nat.le_of_ble_eq_true rfl, Nat.le_of_ble_eq_true rfl⟩) (prev_of hK hP hD hS hA hE [2, 3] rfl (by decide) (ci := 3) rfl 2 rfl _) rfl rfl hl.1 rfl (lv_room (Nat.le_of_ble_eq_true rfl)) dX4_open_31 ⟨Nat.le_of_ble_eq_true rfl, Nat.le_of_ble_eq_true rfl⟩) hP hD hS hA rfl rfl (by decide) (by decide) (fun r_3 u_ H locs hw_4 hP hD hS => ?_)
    have hw_4 : F_floorAt n pf place = r_3 := hw_4
    have hG := hG.trans (cb_e hw_4)
    have hP : va_P D vwCl [(h0, .inr (1, [.int wayToOther, .ref h1, .ref h2, .int place, .int speed, .int way, .int topSpeed, .int gain, .int brake, .int darkSpeed, .int rideSpeed, .int kilos, .int mostKilos, .int openContacts, .int fireFloor, .int ride, .int starts, .int distance, .int hardFalls])), (h1, .inr (2, [.int dstate, .int dplace, .int dplaces, .int dhold, .int dsteps, .int dbeam, .int dob, .int doc])), (k0, .inr (4, [.ref h4, lo, .ref h0, .int powered, .int stepsDone])), (h4, .inr (3, [.ref h5, .int gap])), (h5, .inl (aI, n, .inl pf))] H := hP
    have hD : va_D A [(h0, .inr (1, [.int wayToOther, .ref h1, .ref h2, .int place, .int speed, .int way, .int topSpeed, .int gain, .int brake, .int darkSpeed, .int rideSpeed, .int kilos, .int mostKilos, .int openContacts, .int fireFloor, .int ride, .int starts, .int distance, .int hardFalls])), (h1, .inr (2, [.int dstate, .int dplace, .int dplaces, .int dhold, .int dsteps, .int dbeam, .int dob, .int doc])), (k0, .inr (4, [.ref h4, lo, .ref h0, .int powered, .int stepsDone])), (h4, .inr (3, [.ref h5, .int gap])), (h5, .inl (aI, n, .inl pf))] := hD
    refine lv_iconst (v := (-1)) hx hb dX4_open_34 (by decide) ?_
    refine lv_icmp_ne (tgt := 48) hx hb dX4_open_35 (by decide) (fun c_5 => ?_) (fun c_5 => ?_)
    · have hG := hG.trans (if_neg c_5)
      refine lv_aload_n hx hb dX4_open_48 rfl (lv_at hl 0 rfl) ?_
      refine va_getN (D := D) (ci := 1) (v := .ref h1) (C := RX1) (T := TX1) (N := 19) hx hb hts inX1 hown hK hP 0 rfl rfl 1 (by decide) (nwF hE 12 rfl) (fun _ h9 => h9) rfl dX4_open_49 ?_
      refine my_i (wr := [(h0, .inr (1, [.int wayToOther, .ref h1, .ref h2, .int place, .int speed, .int way, .int topSpeed, .int gain, .int brake, .int darkSpeed, .int rideSpeed, .int kilos, .int mostKilos, .int openContacts, .int fireFloor, .int ride, .int starts, .int distance, .int hardFalls])), (k0, .inr (4, [.ref h4, lo, .ref h0, .int powered, .int stepsDone])), (h4, .inr (3, [.ref h5, .int gap])), (h5, .inl (aI, n, .inl pf))]) [1] [0, 2, 3, 4] (va_runV (As := []) (rest := []) ⟨hx, hb, hml, hown, hts⟩ (c_turnToOpening l D aI aL aZ _ h1 dstate dplace dplaces dhold dsteps dbeam dob doc) (cwV 0 hts (gV w_439 w_440 w_441 w_45 w_442) rfl rfl rfl (by decide +kernel) ⟨Nat.le_of_ble_eq_true rfl, Nat.le_of_ble_eq_true rfl⟩) (prev_of hK hP hD hS hA hE [1] rfl (by decide) (ci := 2) rfl 1 rfl _) rfl rfl hl.1 rfl (lv_room (Nat.le_of_ble_eq_true rfl)) dX4_open_52 ⟨Nat.le_of_ble_eq_true rfl, Nat.le_of_ble_eq_true rfl⟩) hP hD hS hA rfl rfl (by decide) (by decide) (fun r_6 u_ H locs hw_10 hP hD hS => ?_)
      obtain ⟨x_7, x_8, x_9⟩ := u_
      have hw_10 : F_turnToOpening dstate dob doc = (r_6, x_7, x_8, x_9) ∧ nb r_6 := hw_10
      have hG := hG.trans (cb_e hw_10.1)
      have hP : va_P D vwCl [(h0, .inr (1, [.int wayToOther, .ref h1, .ref h2, .int place, .int speed, .int way, .int topSpeed, .int gain, .int brake, .int darkSpeed, .int rideSpeed, .int kilos, .int mostKilos, .int openContacts, .int fireFloor, .int ride, .int starts, .int distance, .int hardFalls])), (k0, .inr (4, [.ref h4, lo, .ref h0, .int powered, .int stepsDone])), (h4, .inr (3, [.ref h5, .int gap])), (h5, .inl (aI, n, .inl pf)), (h1, .inr (2, [.int x_7, .int dplace, .int dplaces, .int dhold, .int dsteps, .int dbeam, .int x_8, .int x_9]))] H := hP
      have hD : va_D A [(h0, .inr (1, [.int wayToOther, .ref h1, .ref h2, .int place, .int speed, .int way, .int topSpeed, .int gain, .int brake, .int darkSpeed, .int rideSpeed, .int kilos, .int mostKilos, .int openContacts, .int fireFloor, .int ride, .int starts, .int distance, .int hardFalls])), (k0, .inr (4, [.ref h4, lo, .ref h0, .int powered, .int stepsDone])), (h4, .inr (3, [.ref h5, .int gap])), (h5, .inl (aI, n, .inl pf)), (h1, .inr (2, [.int x_7, .int dplace, .int dplaces, .int dhold, .int dsteps, .int dbeam, .int x_8, .int x_9]))] := hD
      have hP := hP.sub (ws' := [(k0, .inr (4, [.ref h4, lo, .ref h0, .int powered, .int stepsDone])), (h0, .inr (1, [.int wayToOther, .ref h1, .ref h2, .int place, .int speed, .int way, .int topSpeed, .int gain, .int brake, .int darkSpeed, .int rideSpeed, .int kilos, .int mostKilos, .int openContacts, .int fireFloor, .int ride, .int starts, .int distance, .int hardFalls])), (h1, .inr (2, [.int x_7, .int dplace, .int dplaces, .int dhold, .int dsteps, .int dbeam, .int x_8, .int x_9])), (h4, .inr (3, [.ref h5, .int gap])), (h5, .inl (aI, n, .inl pf))]) [1, 0, 4, 2, 3] rfl
      have hD := hD.sub (ws' := [(k0, .inr (4, [.ref h4, lo, .ref h0, .int powered, .int stepsDone])), (h0, .inr (1, [.int wayToOther, .ref h1, .ref h2, .int place, .int speed, .int way, .int topSpeed, .int gain, .int brake, .int darkSpeed, .int rideSpeed, .int kilos, .int mostKilos, .int openContacts, .int fireFloor, .int ride, .int starts, .int distance, .int hardFalls])), (h1, .inr (2, [.int x_7, .int dplace, .int dplaces, .int dhold, .int dsteps, .int dbeam, .int x_8, .int x_9])), (h4, .inr (3, [.ref h5, .int gap])), (h5, .inl (aI, n, .inl pf))]) [1, 0, 4, 2, 3] (by decide) rfl
      exact rtx_z hQ hx hb hr (nb_n hw_10.2) (x_7, x_8, x_9) ⟨hG, hw_10.2⟩ hP hD hS (Nat.le_of_ble_eq_true rfl) (Nat.le_of_ble_eq_true rfl) dX4_open_55 hlk
    · have hG := hG.trans (if_pos c_5)
      exact my_throw (own := RX4) (cls := "java/lang/IllegalStateException") (text := "the car is not at a floor") 2 [2, 0, 1, 3, 4] hx hb hl9 hown (by decide +kernel) (hts _ (mG w_190)) (hts _ (mG w_43)) 10 rfl mt_51 hts tb_X4_51 tg_X4_51 hE hS (hl.1.trans hml.symm) dX4_open_38 dX4_open_41 dX4_open_42 dX4_open_44 dX4_open_47 hout (Nat.le_of_ble_eq_true rfl) (Nat.le_of_ble_eq_true rfl) (Nat.le_of_ble_eq_true rfl) (Nat.le_of_ble_eq_true rfl) hlk hQ rfl ⟨hG, rfl⟩ hP hD rfl (by decide) (Nat.le_of_ble_eq_true rfl) (Nat.le_of_ble_eq_true rfl)
  · have hG := hG.trans (if_neg c_2)
    exact my_throw (own := RX4) (cls := "java/lang/IllegalStateException") (text := "the car does not stand") 2 [4, 0, 1, 2, 3] hx hb hl9 hown (by decide +kernel) (hts _ (mG w_190)) (hts _ (mG w_43)) 7 rfl mt_51 hts tb_X4_51 tg_X4_51 hE hS (hl.1.trans hml.symm) dX4_open_13 dX4_open_16 dX4_open_17 dX4_open_19 dX4_open_22 hout (Nat.le_of_ble_eq_true rfl) (Nat.le_of_ble_eq_true rfl) (Nat.le_of_ble_eq_true rfl) (Nat.le_of_ble_eq_true rfl) hlk hQ rfl ⟨hG, rfl⟩ hP hD rfl (by decide) (Nat.le_of_ble_eq_true rfl) (Nat.le_of_ble_eq_true rfl)
def F_open_0n : Int32 ⊕ Int32 :=
  cx F_carOf_0n fun _ =>
    .inl 0
theorem F_open_0n_u : F_open_0n =
  (cx F_carOf_0n fun _ =>
    .inl 0) := rfl
set_option maxHeartbeats 4000000 in
set_option maxRecDepth 100000 in
theorem c_open_0n (l : Launch) (hl9 : l.stackTraces = false) (D : va_G) (aI aL aZ : ClassId) (sz : Nat) (k0 : Nat) (h4 : Nat) (powered : Int32) (stepsDone : Int32) (up : Value) : vx_Met l yX4_open (.code yX4_open cX4_open 3 (some .boolean) :: Gw) ({ frames := 7, cells := 1, slots := 6, locals := 114 }) (va_Pc [.ref k0, .int 0] (mpre D [(aI, .int), (aL, .long), (aZ, .boolean)] [(k0, .inr (4, [.ref h4, .null, up, .int powered, .int stepsDone]))] sz)) ((fun A : Nat → Prop => va_Qi (fun (r : Int32) (u : Unit) => False) (mpst D A (fun (u : Unit) => [(k0, .inr (4, [.ref h4, .null, up, .int powered, .int stepsDone]))])) A) (va_A ([(k0, .inr (4, [.ref h4, .null, up, .int powered, .int stepsDone]))]) sz)) ((fun A : Nat → Prop => vx_X (fun u : Int32 => F_open_0n = .inl u ∧ (u = 1)) (mpsx D A [(k0, .inr (4, [.ref h4, .null, up, .int powered, .int stepsDone]))]) A) (va_A ([(k0, .inr (4, [.ref h4, .null, up, .int powered, .int stepsDone]))]) sz)) 1 6 (va_A ([(k0, .inr (4, [.ref h4, .null, up, .int powered, .int stepsDone]))]) sz) := by
  refine enx (cc := cX4_open) (maxL := 3) (ret := (some .boolean)) (Qc := (fun A : Nat → Prop => va_Qi (fun (r : Int32) (u : Unit) => False) (mpst D A (fun (u : Unit) => [(k0, .inr (4, [.ref h4, .null, up, .int powered, .int stepsDone]))])) A)) (XC := (fun A : Nat → Prop => vx_X (fun u : Int32 => F_open_0n = .inl u ∧ (u = 1)) (mpsx D A [(k0, .inr (4, [.ref h4, .null, up, .int powered, .int stepsDone]))]) A)) (by decide) rfl (Nat.le_of_ble_eq_true rfl) ?_
  intro p e s m args below meth c A ls Q hQ hx hb hr hts hown hlk hnm hml hout hA hS hP hK hD hE hl
  have hown : s.vm.findClass RX4 = some m.cls := hown
  have hl : lv_has ls 3 [(0, .ref k0), (1, .int 0)] := hl
  have hG := F_open_0n_u
  refine lv_aload_n hx hb dX4_open_0 rfl (lv_at hl 0 rfl) ?_
  refine lv_iload_n hx hb dX4_open_1 rfl (lv_at hl 1 rfl) ?_
  refine my_xr (wr := []) [0] [] [0] (vx_runV (As := [.int 0]) (rest := []) ⟨hx, hb, hml, hown, hts⟩ (c_carOf_0n l hl9 D aI aL aZ _ k0 h4 powered stepsDone up) (cwV 1 hts (gV w_393 w_395 w_2 w_35 w_396) rfl rfl rfl (by decide +kernel) ⟨Nat.le_of_ble_eq_true rfl, Nat.le_of_ble_eq_true rfl⟩) (prev_of hK hP hD hS hA hE [0] rfl (by decide) (ci := 4) rfl 0 rfl _) rfl rfl hl.1 rfl (lv_room (Nat.le_of_ble_eq_true rfl)) dX4_open_2 ⟨Nat.le_of_ble_eq_true rfl, Nat.le_of_ble_eq_true rfl⟩) hP hD hS hA rfl rfl (by decide) (by decide) hQ (fun _ h9 => ⟨hG.trans (cx_l h9.1), h9.2⟩) hout hlk rfl (by decide) (Nat.le_of_ble_eq_true rfl) (Nat.le_of_ble_eq_true rfl) (fun u_ H locs hw_1 hP hD hS => ?_)
  exact False.elim hw_1
def F_open_1n : Int32 ⊕ Int32 :=
  cx F_carOf_1n fun _ =>
    .inl 0
theorem F_open_1n_u : F_open_1n =
  (cx F_carOf_1n fun _ =>
    .inl 0) := rfl
set_option maxHeartbeats 4000000 in
set_option maxRecDepth 100000 in
theorem c_open_1n (l : Launch) (hl9 : l.stackTraces = false) (D : va_G) (aI aL aZ : ClassId) (sz : Nat) (k0 : Nat) (h4 : Nat) (powered : Int32) (stepsDone : Int32) (lo : Value) : vx_Met l yX4_open (.code yX4_open cX4_open 3 (some .boolean) :: Gw) ({ frames := 7, cells := 1, slots := 6, locals := 114 }) (va_Pc [.ref k0, .int 1] (mpre D [(aI, .int), (aL, .long), (aZ, .boolean)] [(k0, .inr (4, [.ref h4, lo, .null, .int powered, .int stepsDone]))] sz)) ((fun A : Nat → Prop => va_Qi (fun (r : Int32) (u : Unit) => False) (mpst D A (fun (u : Unit) => [(k0, .inr (4, [.ref h4, lo, .null, .int powered, .int stepsDone]))])) A) (va_A ([(k0, .inr (4, [.ref h4, lo, .null, .int powered, .int stepsDone]))]) sz)) ((fun A : Nat → Prop => vx_X (fun u : Int32 => F_open_1n = .inl u ∧ (u = 1)) (mpsx D A [(k0, .inr (4, [.ref h4, lo, .null, .int powered, .int stepsDone]))]) A) (va_A ([(k0, .inr (4, [.ref h4, lo, .null, .int powered, .int stepsDone]))]) sz)) 1 6 (va_A ([(k0, .inr (4, [.ref h4, lo, .null, .int powered, .int stepsDone]))]) sz) := by
  refine enx (cc := cX4_open) (maxL := 3) (ret := (some .boolean)) (Qc := (fun A : Nat → Prop => va_Qi (fun (r : Int32) (u : Unit) => False) (mpst D A (fun (u : Unit) => [(k0, .inr (4, [.ref h4, lo, .null, .int powered, .int stepsDone]))])) A)) (XC := (fun A : Nat → Prop => vx_X (fun u : Int32 => F_open_1n = .inl u ∧ (u = 1)) (mpsx D A [(k0, .inr (4, [.ref h4, lo, .null, .int powered, .int stepsDone]))]) A)) (by decide) rfl (Nat.le_of_ble_eq_true rfl) ?_
  intro p e s m args below meth c A ls Q hQ hx hb hr hts hown hlk hnm hml hout hA hS hP hK hD hE hl
  have hown : s.vm.findClass RX4 = some m.cls := hown
  have hl : lv_has ls 3 [(0, .ref k0), (1, .int 1)] := hl
  have hG := F_open_1n_u
  refine lv_aload_n hx hb dX4_open_0 rfl (lv_at hl 0 rfl) ?_
  refine lv_iload_n hx hb dX4_open_1 rfl (lv_at hl 1 rfl) ?_
  refine my_xr (wr := []) [0] [] [0] (vx_runV (As := [.int 1]) (rest := []) ⟨hx, hb, hml, hown, hts⟩ (c_carOf_1n l hl9 D aI aL aZ _ k0 h4 powered stepsDone lo) (cwV 1 hts (gV w_393 w_395 w_2 w_35 w_396) rfl rfl rfl (by decide +kernel) ⟨Nat.le_of_ble_eq_true rfl, Nat.le_of_ble_eq_true rfl⟩) (prev_of hK hP hD hS hA hE [0] rfl (by decide) (ci := 4) rfl 0 rfl _) rfl rfl hl.1 rfl (lv_room (Nat.le_of_ble_eq_true rfl)) dX4_open_2 ⟨Nat.le_of_ble_eq_true rfl, Nat.le_of_ble_eq_true rfl⟩) hP hD hS hA rfl rfl (by decide) (by decide) hQ (fun _ h9 => ⟨hG.trans (cx_l h9.1), h9.2⟩) hout hlk rfl (by decide) (Nat.le_of_ble_eq_true rfl) (Nat.le_of_ble_eq_true rfl) (fun u_ H locs hw_1 hP hD hS => ?_)
  exact False.elim hw_1
def F_open_x : Int32 ⊕ Int32 :=
  cx F_carOf_x fun _ =>
    .inl 0
theorem F_open_x_u : F_open_x =
  (cx F_carOf_x fun _ =>
    .inl 0) := rfl
set_option maxHeartbeats 4000000 in
set_option maxRecDepth 100000 in
theorem c_open_x (l : Launch) (hl9 : l.stackTraces = false) (D : va_G) (aI aL aZ : ClassId) (sz : Nat) (k0 : Nat) (h4 : Nat) (powered : Int32) (stepsDone : Int32) (lo : Value) (up : Value) (p0 : Int32) (h9 : ¬ p0 = 0) (h8 : ¬ p0 = 1) : vx_Met l yX4_open (.code yX4_open cX4_open 3 (some .boolean) :: Gw) ({ frames := 7, cells := 1, slots := 6, locals := 114 }) (va_Pc [.ref k0, .int p0] (mpre D [(aI, .int), (aL, .long), (aZ, .boolean)] [(k0, .inr (4, [.ref h4, lo, up, .int powered, .int stepsDone]))] sz)) ((fun A : Nat → Prop => va_Qi (fun (r : Int32) (u : Unit) => False) (mpst D A (fun (u : Unit) => [(k0, .inr (4, [.ref h4, lo, up, .int powered, .int stepsDone]))])) A) (va_A ([(k0, .inr (4, [.ref h4, lo, up, .int powered, .int stepsDone]))]) sz)) ((fun A : Nat → Prop => vx_X (fun u : Int32 => F_open_x = .inl u ∧ (u = 1)) (mpsx D A [(k0, .inr (4, [.ref h4, lo, up, .int powered, .int stepsDone]))]) A) (va_A ([(k0, .inr (4, [.ref h4, lo, up, .int powered, .int stepsDone]))]) sz)) 1 6 (va_A ([(k0, .inr (4, [.ref h4, lo, up, .int powered, .int stepsDone]))]) sz) := by
  refine enx (cc := cX4_open) (maxL := 3) (ret := (some .boolean)) (Qc := (fun A : Nat → Prop => va_Qi (fun (r : Int32) (u : Unit) => False) (mpst D A (fun (u : Unit) => [(k0, .inr (4, [.ref h4, lo, up, .int powered, .int stepsDone]))])) A)) (XC := (fun A : Nat → Prop => vx_X (fun u : Int32 => F_open_x = .inl u ∧ (u = 1)) (mpsx D A [(k0, .inr (4, [.ref h4, lo, up, .int powered, .int stepsDone]))]) A)) (by decide) rfl (Nat.le_of_ble_eq_true rfl) ?_
  intro p e s m args below meth c A ls Q hQ hx hb hr hts hown hlk hnm hml hout hA hS hP hK hD hE hl
  have hown : s.vm.findClass RX4 = some m.cls := hown
  have hl : lv_has ls 3 [(0, .ref k0), (1, .int p0)] := hl
  have hG := F_open_x_u
  refine lv_aload_n hx hb dX4_open_0 rfl (lv_at hl 0 rfl) ?_
  refine lv_iload_n hx hb dX4_open_1 rfl (lv_at hl 1 rfl) ?_
  refine my_xr (wr := []) [0] [] [0] (vx_runV (As := [.int p0]) (rest := []) ⟨hx, hb, hml, hown, hts⟩ (c_carOf_x l hl9 D aI aL aZ _ k0 h4 powered stepsDone lo up p0 h9 h8) (cwV 1 hts (gV w_393 w_395 w_2 w_35 w_396) rfl rfl rfl (by decide +kernel) ⟨Nat.le_of_ble_eq_true rfl, Nat.le_of_ble_eq_true rfl⟩) (prev_of hK hP hD hS hA hE [0] rfl (by decide) (ci := 4) rfl 0 rfl _) rfl rfl hl.1 rfl (lv_room (Nat.le_of_ble_eq_true rfl)) dX4_open_2 ⟨Nat.le_of_ble_eq_true rfl, Nat.le_of_ble_eq_true rfl⟩) hP hD hS hA rfl rfl (by decide) (by decide) hQ (fun _ h9 => ⟨hG.trans (cx_l h9.1), h9.2⟩) hout hlk rfl (by decide) (Nat.le_of_ble_eq_true rfl) (Nat.le_of_ble_eq_true rfl) (fun u_ H locs hw_1 hP hD hS => ?_)
  exact False.elim hw_1
theorem dX4_close_0 : decode cX4_close 0 = .ok (.aload_n 0, 1) := by decide +kernel
theorem dX4_close_1 : decode cX4_close 1 = .ok (.iload_n 1, 1) := by decide +kernel
theorem dX4_close_2 : decode cX4_close 2 = .ok (.invokevirtual 84, 3) := by decide +kernel
theorem dX4_close_5 : decode cX4_close 5 = .ok (.astore_n 2, 1) := by decide +kernel
theorem dX4_close_6 : decode cX4_close 6 = .ok (.aload_n 2, 1) := by decide +kernel
theorem dX4_close_7 : decode cX4_close 7 = .ok (.getfield 113, 3) := by decide +kernel
theorem dX4_close_10 : decode cX4_close 10 = .ok (.getfield 117, 3) := by decide +kernel
theorem dX4_close_13 : decode cX4_close 13 = .ok (.iconst 2, 1) := by decide +kernel
theorem dX4_close_14 : decode cX4_close 14 = .ok (.if_icmp .ne 20, 3) := by decide +kernel
theorem dX4_close_17 : decode cX4_close 17 = .ok (.aload_n 2, 1) := by decide +kernel
theorem dX4_close_18 : decode cX4_close 18 = .ok (.getfield 113, 3) := by decide +kernel
theorem dX4_close_21 : decode cX4_close 21 = .ok (.getfield 156, 3) := by decide +kernel
theorem dX4_close_24 : decode cX4_close 24 = .ok (.ifCond .ne 10, 3) := by decide +kernel
theorem dX4_close_27 : decode cX4_close 27 = .ok (.aload_n 2, 1) := by decide +kernel
theorem dX4_close_28 : decode cX4_close 28 = .ok (.invokevirtual 159, 3) := by decide +kernel
theorem dX4_close_31 : decode cX4_close 31 = .ok (.ifCond .eq 5, 3) := by decide +kernel
theorem dX4_close_34 : decode cX4_close 34 = .ok (.iconst 0, 1) := by decide +kernel
theorem dX4_close_35 : decode cX4_close 35 = .ok (.ireturn, 1) := by decide +kernel
theorem dX4_close_36 : decode cX4_close 36 = .ok (.aload_n 2, 1) := by decide +kernel
theorem dX4_close_37 : decode cX4_close 37 = .ok (.getfield 113, 3) := by decide +kernel
theorem dX4_close_40 : decode cX4_close 40 = .ok (.iconst 3, 1) := by decide +kernel
theorem dX4_close_41 : decode cX4_close 41 = .ok (.putfield 117, 3) := by decide +kernel
theorem dX4_close_44 : decode cX4_close 44 = .ok (.iconst 1, 1) := by decide +kernel
theorem dX4_close_45 : decode cX4_close 45 = .ok (.ireturn, 1) := by decide +kernel
def F_close_0 (kilos : Int32) (mostKilos : Int32) (dstate : Int32) (dbeam : Int32) : Int32 ⊕ (Int32 × Int32) :=
  cx F_carOf_0 fun _ =>
    if dstate = 2 then
      if dbeam = 0 then
        cb (F_isOverloaded kilos mostKilos) fun r_4 =>
          if r_4 = 0 then
            .inr (1, 3)
          else
            .inr (0, dstate)
      else
        .inr (0, dstate)
    else
      .inr (0, dstate)
theorem F_close_0_u (kilos : Int32) (mostKilos : Int32) (dstate : Int32) (dbeam : Int32) : F_close_0 kilos mostKilos dstate dbeam =
  (cx F_carOf_0 fun _ =>
    if dstate = 2 then
      if dbeam = 0 then
        cb (F_isOverloaded kilos mostKilos) fun r_4 =>
          if r_4 = 0 then
            .inr (1, 3)
          else
            .inr (0, dstate)
      else
        .inr (0, dstate)
    else
      .inr (0, dstate)) := rfl
set_option maxHeartbeats 4000000 in
set_option maxRecDepth 100000 in
theorem c_close_0 (l : Launch) (hl9 : l.stackTraces = false) (D : va_G) (aI aL aZ : ClassId) (sz : Nat) (k0 : Nat) (h4 : Nat) (powered : Int32) (stepsDone : Int32) (up : Value) (h0 : Nat) (h1 : Nat) (h2 : Nat) (wayToOther : Int32) (place : Int32) (speed : Int32) (way : Int32) (topSpeed : Int32) (gain : Int32) (brake : Int32) (darkSpeed : Int32) (rideSpeed : Int32) (kilos : Int32) (mostKilos : Int32) (openContacts : Int32) (fireFloor : Int32) (ride : Int32) (starts : Int32) (distance : Int32) (hardFalls : Int32) (dstate : Int32) (dplace : Int32) (dplaces : Int32) (dhold : Int32) (dsteps : Int32) (dbeam : Int32) (dob : Int32) (doc : Int32) : vx_Met l yX4_close (.code yX4_close cX4_close 3 (some .boolean) :: Gw) ({ frames := 1, cells := 0, slots := 0, locals := 22 }) (va_Pc [.ref k0, .int 0] (mpre D [(aI, .int), (aL, .long), (aZ, .boolean)] [(k0, .inr (4, [.ref h4, .ref h0, up, .int powered, .int stepsDone])), (h0, .inr (1, [.int wayToOther, .ref h1, .ref h2, .int place, .int speed, .int way, .int topSpeed, .int gain, .int brake, .int darkSpeed, .int rideSpeed, .int kilos, .int mostKilos, .int openContacts, .int fireFloor, .int ride, .int starts, .int distance, .int hardFalls])), (h1, .inr (2, [.int dstate, .int dplace, .int dplaces, .int dhold, .int dsteps, .int dbeam, .int dob, .int doc]))] sz)) ((fun A : Nat → Prop => va_Qi (fun (r : Int32) (u : Int32) => F_close_0 kilos mostKilos dstate dbeam = .inr (r, u) ∧ nb r) (mpst D A (fun (u : Int32) => [(k0, .inr (4, [.ref h4, .ref h0, up, .int powered, .int stepsDone])), (h0, .inr (1, [.int wayToOther, .ref h1, .ref h2, .int place, .int speed, .int way, .int topSpeed, .int gain, .int brake, .int darkSpeed, .int rideSpeed, .int kilos, .int mostKilos, .int openContacts, .int fireFloor, .int ride, .int starts, .int distance, .int hardFalls])), (h1, .inr (2, [.int u, .int dplace, .int dplaces, .int dhold, .int dsteps, .int dbeam, .int dob, .int doc]))])) A) (va_A ([(k0, .inr (4, [.ref h4, .ref h0, up, .int powered, .int stepsDone])), (h0, .inr (1, [.int wayToOther, .ref h1, .ref h2, .int place, .int speed, .int way, .int topSpeed, .int gain, .int brake, .int darkSpeed, .int rideSpeed, .int kilos, .int mostKilos, .int openContacts, .int fireFloor, .int ride, .int starts, .int distance, .int hardFalls])), (h1, .inr (2, [.int dstate, .int dplace, .int dplaces, .int dhold, .int dsteps, .int dbeam, .int dob, .int doc]))]) sz)) ((fun A : Nat → Prop => vx_X (fun u : Int32 => F_close_0 kilos mostKilos dstate dbeam = .inl u ∧ (False)) (mpsx D A [(k0, .inr (4, [.ref h4, .ref h0, up, .int powered, .int stepsDone])), (h0, .inr (1, [.int wayToOther, .ref h1, .ref h2, .int place, .int speed, .int way, .int topSpeed, .int gain, .int brake, .int darkSpeed, .int rideSpeed, .int kilos, .int mostKilos, .int openContacts, .int fireFloor, .int ride, .int starts, .int distance, .int hardFalls])), (h1, .inr (2, [.int dstate, .int dplace, .int dplaces, .int dhold, .int dsteps, .int dbeam, .int dob, .int doc]))]) A) (va_A ([(k0, .inr (4, [.ref h4, .ref h0, up, .int powered, .int stepsDone])), (h0, .inr (1, [.int wayToOther, .ref h1, .ref h2, .int place, .int speed, .int way, .int topSpeed, .int gain, .int brake, .int darkSpeed, .int rideSpeed, .int kilos, .int mostKilos, .int openContacts, .int fireFloor, .int ride, .int starts, .int distance, .int hardFalls])), (h1, .inr (2, [.int dstate, .int dplace, .int dplaces, .int dhold, .int dsteps, .int dbeam, .int dob, .int doc]))]) sz)) 0 0 (va_A ([(k0, .inr (4, [.ref h4, .ref h0, up, .int powered, .int stepsDone])), (h0, .inr (1, [.int wayToOther, .ref h1, .ref h2, .int place, .int speed, .int way, .int topSpeed, .int gain, .int brake, .int darkSpeed, .int rideSpeed, .int kilos, .int mostKilos, .int openContacts, .int fireFloor, .int ride, .int starts, .int distance, .int hardFalls])), (h1, .inr (2, [.int dstate, .int dplace, .int dplaces, .int dhold, .int dsteps, .int dbeam, .int dob, .int doc]))]) sz) := by
  refine enx (cc := cX4_close) (maxL := 3) (ret := (some .boolean)) (Qc := (fun A : Nat → Prop => va_Qi (fun (r : Int32) (u : Int32) => F_close_0 kilos mostKilos dstate dbeam = .inr (r, u) ∧ nb r) (mpst D A (fun (u : Int32) => [(k0, .inr (4, [.ref h4, .ref h0, up, .int powered, .int stepsDone])), (h0, .inr (1, [.int wayToOther, .ref h1, .ref h2, .int place, .int speed, .int way, .int topSpeed, .int gain, .int brake, .int darkSpeed, .int rideSpeed, .int kilos, .int mostKilos, .int openContacts, .int fireFloor, .int ride, .int starts, .int distance, .int hardFalls])), (h1, .inr (2, [.int u, .int dplace, .int dplaces, .int dhold, .int dsteps, .int dbeam, .int dob, .int doc]))])) A)) (XC := (fun A : Nat → Prop => vx_X (fun u : Int32 => F_close_0 kilos mostKilos dstate dbeam = .inl u ∧ (False)) (mpsx D A [(k0, .inr (4, [.ref h4, .ref h0, up, .int powered, .int stepsDone])), (h0, .inr (1, [.int wayToOther, .ref h1, .ref h2, .int place, .int speed, .int way, .int topSpeed, .int gain, .int brake, .int darkSpeed, .int rideSpeed, .int kilos, .int mostKilos, .int openContacts, .int fireFloor, .int ride, .int starts, .int distance, .int hardFalls])), (h1, .inr (2, [.int dstate, .int dplace, .int dplaces, .int dhold, .int dsteps, .int dbeam, .int dob, .int doc]))]) A)) (by decide) rfl (Nat.le_of_ble_eq_true rfl) ?_
  intro p e s m args below meth c A ls Q hQ hx hb hr hts hown hlk hnm hml hout hA hS hP hK hD hE hl
  have hown : s.vm.findClass RX4 = some m.cls := hown
  have hl : lv_has ls 3 [(0, .ref k0), (1, .int 0)] := hl
  have hG := F_close_0_u kilos mostKilos dstate dbeam
  refine lv_aload_n hx hb dX4_close_0 rfl (lv_at hl 0 rfl) ?_
  refine lv_iload_n hx hb dX4_close_1 rfl (lv_at hl 1 rfl) ?_
  refine my_xr (wr := [(h0, .inr (1, [.int wayToOther, .ref h1, .ref h2, .int place, .int speed, .int way, .int topSpeed, .int gain, .int brake, .int darkSpeed, .int rideSpeed, .int kilos, .int mostKilos, .int openContacts, .int fireFloor, .int ride, .int starts, .int distance, .int hardFalls])), (h1, .inr (2, [.int dstate, .int dplace, .int dplaces, .int dhold, .int dsteps, .int dbeam, .int dob, .int doc]))]) [0] [1, 2] [2, 0, 1] (vx_runV (As := [.int 0]) (rest := []) ⟨hx, hb, hml, hown, hts⟩ (c_carOf_0 l hl9 D aI aL aZ _ k0 h4 powered stepsDone h0 up) (cwV 1 hts (gV w_393 w_395 w_2 w_35 w_396) rfl rfl rfl (by decide +kernel) ⟨Nat.le_of_ble_eq_true rfl, Nat.le_of_ble_eq_true rfl⟩) (prev_of hK hP hD hS hA hE [0] rfl (by decide) (ci := 4) rfl 0 rfl _) rfl rfl hl.1 rfl (lv_room (Nat.le_of_ble_eq_true rfl)) dX4_close_2 ⟨Nat.le_of_ble_eq_true rfl, Nat.le_of_ble_eq_true rfl⟩) hP hD hS hA rfl rfl (by decide) (by decide) hQ (fun _ h9 => ⟨hG.trans (cx_l h9.1), h9.2⟩) hout hlk rfl (by decide) (Nat.le_of_ble_eq_true rfl) (Nat.le_of_ble_eq_true rfl) (fun u_ H locs hw_1 hP hD hS => ?_)
  have hw_1 : F_carOf_0 = .inr () := hw_1
  have hG := hG.trans (cx_r hw_1)
  have hP : va_P D vwCl [(h0, .inr (1, [.int wayToOther, .ref h1, .ref h2, .int place, .int speed, .int way, .int topSpeed, .int gain, .int brake, .int darkSpeed, .int rideSpeed, .int kilos, .int mostKilos, .int openContacts, .int fireFloor, .int ride, .int starts, .int distance, .int hardFalls])), (h1, .inr (2, [.int dstate, .int dplace, .int dplaces, .int dhold, .int dsteps, .int dbeam, .int dob, .int doc])), (k0, .inr (4, [.ref h4, .ref h0, up, .int powered, .int stepsDone]))] H := hP
  have hD : va_D A [(h0, .inr (1, [.int wayToOther, .ref h1, .ref h2, .int place, .int speed, .int way, .int topSpeed, .int gain, .int brake, .int darkSpeed, .int rideSpeed, .int kilos, .int mostKilos, .int openContacts, .int fireFloor, .int ride, .int starts, .int distance, .int hardFalls])), (h1, .inr (2, [.int dstate, .int dplace, .int dplaces, .int dhold, .int dsteps, .int dbeam, .int dob, .int doc])), (k0, .inr (4, [.ref h4, .ref h0, up, .int powered, .int stepsDone]))] := hD
  refine lv_astore_n (lv' := [(2, .ref h0), (0, .ref k0), (1, .int 0)]) hx hb dX4_close_5 rfl hl (by decide) rfl (fun ls hl => ?_)
  refine lv_aload_n hx hb dX4_close_6 rfl (lv_at hl 0 rfl) ?_
  refine va_getN (D := D) (ci := 1) (v := .ref h1) (C := RX1) (T := TX1) (N := 19) hx hb hts inX1 hown hK hP 0 rfl rfl 1 (by decide) (nwF hE 12 rfl) (fun _ h9 => h9) rfl dX4_close_7 ?_
  refine va_getN (D := D) (ci := 2) (v := .int dstate) (C := RX2) (T := TX2) (N := 8) hx hb hts inX2 hown hK hP 1 rfl rfl 0 (by decide) (nwF hE 2 rfl) (fun _ h9 => h9) rfl dX4_close_10 ?_
  refine lv_iconst (v := 2) hx hb dX4_close_13 (by decide) ?_
  refine lv_icmp_ne (tgt := 34) hx hb dX4_close_14 (by decide) (fun c_2 => ?_) (fun c_2 => ?_)
  · have hG := hG.trans (if_neg c_2)
    refine lv_iconst (v := 0) hx hb dX4_close_34 (by decide) ?_
    have hP := hP.sub (ws' := [(k0, .inr (4, [.ref h4, .ref h0, up, .int powered, .int stepsDone])), (h0, .inr (1, [.int wayToOther, .ref h1, .ref h2, .int place, .int speed, .int way, .int topSpeed, .int gain, .int brake, .int darkSpeed, .int rideSpeed, .int kilos, .int mostKilos, .int openContacts, .int fireFloor, .int ride, .int starts, .int distance, .int hardFalls])), (h1, .inr (2, [.int dstate, .int dplace, .int dplaces, .int dhold, .int dsteps, .int dbeam, .int dob, .int doc]))]) [2, 0, 1] rfl
    have hD := hD.sub (ws' := [(k0, .inr (4, [.ref h4, .ref h0, up, .int powered, .int stepsDone])), (h0, .inr (1, [.int wayToOther, .ref h1, .ref h2, .int place, .int speed, .int way, .int topSpeed, .int gain, .int brake, .int darkSpeed, .int rideSpeed, .int kilos, .int mostKilos, .int openContacts, .int fireFloor, .int ride, .int starts, .int distance, .int hardFalls])), (h1, .inr (2, [.int dstate, .int dplace, .int dplaces, .int dhold, .int dsteps, .int dbeam, .int dob, .int doc]))]) [2, 0, 1] (by decide) rfl
    exact rtx_z hQ hx hb hr (nb_n (Or.inl rfl)) dstate ⟨hG, (Or.inl rfl)⟩ hP hD hS (Nat.le_of_ble_eq_true rfl) (Nat.le_of_ble_eq_true rfl) dX4_close_35 hlk
  · have hG := hG.trans (if_pos c_2)
    refine lv_aload_n hx hb dX4_close_17 rfl (lv_at hl 0 rfl) ?_
    refine va_getN (D := D) (ci := 1) (v := .ref h1) (C := RX1) (T := TX1) (N := 19) hx hb hts inX1 hown hK hP 0 rfl rfl 1 (by decide) (nwF hE 12 rfl) (fun _ h9 => h9) rfl dX4_close_18 ?_
    refine va_getN (D := D) (ci := 2) (v := .int dbeam) (C := RX2) (T := TX2) (N := 8) hx hb hts inX2 hown hK hP 1 rfl rfl 5 (by decide) (nwF hE 7 rfl) (fun _ h9 => h9) rfl dX4_close_21 ?_
    refine lv_if_ne (tgt := 34) hx hb dX4_close_24 (by decide) (fun c_3 => ?_) (fun c_3 => ?_)
    · have hG := hG.trans (if_neg c_3)
      refine lv_iconst (v := 0) hx hb dX4_close_34 (by decide) ?_
      have hP := hP.sub (ws' := [(k0, .inr (4, [.ref h4, .ref h0, up, .int powered, .int stepsDone])), (h0, .inr (1, [.int wayToOther, .ref h1, .ref h2, .int place, .int speed, .int way, .int topSpeed, .int gain, .int brake, .int darkSpeed, .int rideSpeed, .int kilos, .int mostKilos, .int openContacts, .int fireFloor, .int ride, .int starts, .int distance, .int hardFalls])), (h1, .inr (2, [.int dstate, .int dplace, .int dplaces, .int dhold, .int dsteps, .int dbeam, .int dob, .int doc]))]) [2, 0, 1] rfl
      have hD := hD.sub (ws' := [(k0, .inr (4, [.ref h4, .ref h0, up, .int powered, .int stepsDone])), (h0, .inr (1, [.int wayToOther, .ref h1, .ref h2, .int place, .int speed, .int way, .int topSpeed, .int gain, .int brake, .int darkSpeed, .int rideSpeed, .int kilos, .int mostKilos, .int openContacts, .int fireFloor, .int ride, .int starts, .int distance, .int hardFalls])), (h1, .inr (2, [.int dstate, .int dplace, .int dplaces, .int dhold, .int dsteps, .int dbeam, .int dob, .int doc]))]) [2, 0, 1] (by decide) rfl
      exact rtx_z hQ hx hb hr (nb_n (Or.inl rfl)) dstate ⟨hG, (Or.inl rfl)⟩ hP hD hS (Nat.le_of_ble_eq_true rfl) (Nat.le_of_ble_eq_true rfl) dX4_close_35 hlk
    · have hG := hG.trans (if_pos c_3)
      refine lv_aload_n hx hb dX4_close_27 rfl (lv_at hl 0 rfl) ?_
      refine my_i (wr := [(h1, .inr (2, [.int dstate, .int dplace, .int dplaces, .int dhold, .int dsteps, .int dbeam, .int dob, .int doc])), (k0, .inr (4, [.ref h4, .ref h0, up, .int powered, .int stepsDone]))]) [0] [1, 2] (va_runV (As := []) (rest := []) ⟨hx, hb, hml, hown, hts⟩ (c_isOverloaded l D aI aL aZ _ h0 h1 h2 wayToOther place speed way topSpeed gain brake darkSpeed rideSpeed kilos mostKilos openContacts fireFloor ride starts distance hardFalls) (cwV 0 hts (gV w_450 w_451 w_452 w_44 w_453) rfl rfl rfl (by decide +kernel) ⟨Nat.le_of_ble_eq_true rfl, Nat.le_of_ble_eq_true rfl⟩) (prev_of hK hP hD hS hA hE [0] rfl (by decide) (ci := 1) rfl 0 rfl _) rfl rfl hl.1 rfl (lv_room (Nat.le_of_ble_eq_true rfl)) dX4_close_28 ⟨Nat.le_of_ble_eq_true rfl, Nat.le_of_ble_eq_true rfl⟩) hP hD hS hA rfl rfl (by decide) (by decide) (fun r_4 u_ H locs hw_5 hP hD hS => ?_)
      have hw_5 : F_isOverloaded kilos mostKilos = r_4 ∧ nb r_4 := hw_5
      have hG := hG.trans (cb_e hw_5.1)
      have hP : va_P D vwCl [(h1, .inr (2, [.int dstate, .int dplace, .int dplaces, .int dhold, .int dsteps, .int dbeam, .int dob, .int doc])), (k0, .inr (4, [.ref h4, .ref h0, up, .int powered, .int stepsDone])), (h0, .inr (1, [.int wayToOther, .ref h1, .ref h2, .int place, .int speed, .int way, .int topSpeed, .int gain, .int brake, .int darkSpeed, .int rideSpeed, .int kilos, .int mostKilos, .int openContacts, .int fireFloor, .int ride, .int starts, .int distance, .int hardFalls]))] H := hP
      have hD : va_D A [(h1, .inr (2, [.int dstate, .int dplace, .int dplaces, .int dhold, .int dsteps, .int dbeam, .int dob, .int doc])), (k0, .inr (4, [.ref h4, .ref h0, up, .int powered, .int stepsDone])), (h0, .inr (1, [.int wayToOther, .ref h1, .ref h2, .int place, .int speed, .int way, .int topSpeed, .int gain, .int brake, .int darkSpeed, .int rideSpeed, .int kilos, .int mostKilos, .int openContacts, .int fireFloor, .int ride, .int starts, .int distance, .int hardFalls]))] := hD
      refine lv_if_eq (tgt := 36) hx hb dX4_close_31 (by decide) (fun c_6 => ?_) (fun c_6 => ?_)
      · have hG := hG.trans (if_pos c_6)
        refine lv_aload_n hx hb dX4_close_36 rfl (lv_at hl 0 rfl) ?_
        refine va_getN (D := D) (ci := 1) (v := .ref h1) (C := RX1) (T := TX1) (N := 19) hx hb hts inX1 hown hK hP 2 rfl rfl 1 (by decide) (nwF hE 12 rfl) (fun _ h9 => h9) rfl dX4_close_37 ?_
        refine lv_iconst (v := 3) hx hb dX4_close_40 (by decide) ?_
        refine va_putN (D := D) (ci := 2) (v := .int 3) (ty := .int) (C := RX2) (T := TX2) (N := 8) hx hb hts inX2 tyX2 tyX2_ok nmX2 hown hK hP hD hS 0 rfl rfl 0 (by decide) (nwF hE 2 rfl) (fun _ h9 => h9) rfl (by decide +kernel) rfl rfl (Nat.le_of_ble_eq_true rfl) dX4_close_41 (fun H locs hP hD hS => ?_)
        have hP : va_P D vwCl [(h1, .inr (2, [.int 3, .int dplace, .int dplaces, .int dhold, .int dsteps, .int dbeam, .int dob, .int doc])), (k0, .inr (4, [.ref h4, .ref h0, up, .int powered, .int stepsDone])), (h0, .inr (1, [.int wayToOther, .ref h1, .ref h2, .int place, .int speed, .int way, .int topSpeed, .int gain, .int brake, .int darkSpeed, .int rideSpeed, .int kilos, .int mostKilos, .int openContacts, .int fireFloor, .int ride, .int starts, .int distance, .int hardFalls]))] H := hP
        have hD : va_D A [(h1, .inr (2, [.int 3, .int dplace, .int dplaces, .int dhold, .int dsteps, .int dbeam, .int dob, .int doc])), (k0, .inr (4, [.ref h4, .ref h0, up, .int powered, .int stepsDone])), (h0, .inr (1, [.int wayToOther, .ref h1, .ref h2, .int place, .int speed, .int way, .int topSpeed, .int gain, .int brake, .int darkSpeed, .int rideSpeed, .int kilos, .int mostKilos, .int openContacts, .int fireFloor, .int ride, .int starts, .int distance, .int hardFalls]))] := hD
        refine lv_iconst (v := 1) hx hb dX4_close_44 (by decide) ?_
        have hP := hP.sub (ws' := [(k0, .inr (4, [.ref h4, .ref h0, up, .int powered, .int stepsDone])), (h0, .inr (1, [.int wayToOther, .ref h1, .ref h2, .int place, .int speed, .int way, .int topSpeed, .int gain, .int brake, .int darkSpeed, .int rideSpeed, .int kilos, .int mostKilos, .int openContacts, .int fireFloor, .int ride, .int starts, .int distance, .int hardFalls])), (h1, .inr (2, [.int 3, .int dplace, .int dplaces, .int dhold, .int dsteps, .int dbeam, .int dob, .int doc]))]) [1, 2, 0] rfl
        have hD := hD.sub (ws' := [(k0, .inr (4, [.ref h4, .ref h0, up, .int powered, .int stepsDone])), (h0, .inr (1, [.int wayToOther, .ref h1, .ref h2, .int place, .int speed, .int way, .int topSpeed, .int gain, .int brake, .int darkSpeed, .int rideSpeed, .int kilos, .int mostKilos, .int openContacts, .int fireFloor, .int ride, .int starts, .int distance, .int hardFalls])), (h1, .inr (2, [.int 3, .int dplace, .int dplaces, .int dhold, .int dsteps, .int dbeam, .int dob, .int doc]))]) [1, 2, 0] (by decide) rfl
        exact rtx_z hQ hx hb hr (nb_n (Or.inr rfl)) 3 ⟨hG, (Or.inr rfl)⟩ hP hD hS (Nat.le_of_ble_eq_true rfl) (Nat.le_of_ble_eq_true rfl) dX4_close_45 hlk
      · have hG := hG.trans (if_neg c_6)
        refine lv_iconst (v := 0) hx hb dX4_close_34 (by decide) ?_
        have hP := hP.sub (ws' := [(k0, .inr (4, [.ref h4, .ref h0, up, .int powered, .int stepsDone])), (h0, .inr (1, [.int wayToOther, .ref h1, .ref h2, .int place, .int speed, .int way, .int topSpeed, .int gain, .int brake, .int darkSpeed, .int rideSpeed, .int kilos, .int mostKilos, .int openContacts, .int fireFloor, .int ride, .int starts, .int distance, .int hardFalls])), (h1, .inr (2, [.int dstate, .int dplace, .int dplaces, .int dhold, .int dsteps, .int dbeam, .int dob, .int doc]))]) [1, 2, 0] rfl
        have hD := hD.sub (ws' := [(k0, .inr (4, [.ref h4, .ref h0, up, .int powered, .int stepsDone])), (h0, .inr (1, [.int wayToOther, .ref h1, .ref h2, .int place, .int speed, .int way, .int topSpeed, .int gain, .int brake, .int darkSpeed, .int rideSpeed, .int kilos, .int mostKilos, .int openContacts, .int fireFloor, .int ride, .int starts, .int distance, .int hardFalls])), (h1, .inr (2, [.int dstate, .int dplace, .int dplaces, .int dhold, .int dsteps, .int dbeam, .int dob, .int doc]))]) [1, 2, 0] (by decide) rfl
        exact rtx_z hQ hx hb hr (nb_n (Or.inl rfl)) dstate ⟨hG, (Or.inl rfl)⟩ hP hD hS (Nat.le_of_ble_eq_true rfl) (Nat.le_of_ble_eq_true rfl) dX4_close_35 hlk
def F_close_1 (kilos : Int32) (mostKilos : Int32) (dstate : Int32) (dbeam : Int32) : Int32 ⊕ (Int32 × Int32) :=
  cx F_carOf_1 fun _ =>
    if dstate = 2 then
      if dbeam = 0 then
        cb (F_isOverloaded kilos mostKilos) fun r_4 =>
          if r_4 = 0 then
            .inr (1, 3)
          else
            .inr (0, dstate)
      else
        .inr (0, dstate)
    else
      .inr (0, dstate)
theorem F_close_1_u (kilos : Int32) (mostKilos : Int32) (dstate : Int32) (dbeam : Int32) : F_close_1 kilos mostKilos dstate dbeam =
  (cx F_carOf_1 fun _ =>
    if dstate = 2 then
      if dbeam = 0 then
        cb (F_isOverloaded kilos mostKilos) fun r_4 =>
          if r_4 = 0 then
            .inr (1, 3)
          else
            .inr (0, dstate)
      else
        .inr (0, dstate)
    else
      .inr (0, dstate)) := rfl
set_option maxHeartbeats 4000000 in
set_option maxRecDepth 100000 in
theorem c_close_1 (l : Launch) (hl9 : l.stackTraces = false) (D : va_G) (aI aL aZ : ClassId) (sz : Nat) (k0 : Nat) (h4 : Nat) (powered : Int32) (stepsDone : Int32) (lo : Value) (h0 : Nat) (h1 : Nat) (h2 : Nat) (wayToOther : Int32) (place : Int32) (speed : Int32) (way : Int32) (topSpeed : Int32) (gain : Int32) (brake : Int32) (darkSpeed : Int32) (rideSpeed : Int32) (kilos : Int32) (mostKilos : Int32) (openContacts : Int32) (fireFloor : Int32) (ride : Int32) (starts : Int32) (distance : Int32) (hardFalls : Int32) (dstate : Int32) (dplace : Int32) (dplaces : Int32) (dhold : Int32) (dsteps : Int32) (dbeam : Int32) (dob : Int32) (doc : Int32) : vx_Met l yX4_close (.code yX4_close cX4_close 3 (some .boolean) :: Gw) ({ frames := 1, cells := 0, slots := 0, locals := 22 }) (va_Pc [.ref k0, .int 1] (mpre D [(aI, .int), (aL, .long), (aZ, .boolean)] [(k0, .inr (4, [.ref h4, lo, .ref h0, .int powered, .int stepsDone])), (h0, .inr (1, [.int wayToOther, .ref h1, .ref h2, .int place, .int speed, .int way, .int topSpeed, .int gain, .int brake, .int darkSpeed, .int rideSpeed, .int kilos, .int mostKilos, .int openContacts, .int fireFloor, .int ride, .int starts, .int distance, .int hardFalls])), (h1, .inr (2, [.int dstate, .int dplace, .int dplaces, .int dhold, .int dsteps, .int dbeam, .int dob, .int doc]))] sz)) ((fun A : Nat → Prop => va_Qi (fun (r : Int32) (u : Int32) => F_close_1 kilos mostKilos dstate dbeam = .inr (r, u) ∧ nb r) (mpst D A (fun (u : Int32) => [(k0, .inr (4, [.ref h4, lo, .ref h0, .int powered, .int stepsDone])), (h0, .inr (1, [.int wayToOther, .ref h1, .ref h2, .int place, .int speed, .int way, .int topSpeed, .int gain, .int brake, .int darkSpeed, .int rideSpeed, .int kilos, .int mostKilos, .int openContacts, .int fireFloor, .int ride, .int starts, .int distance, .int hardFalls])), (h1, .inr (2, [.int u, .int dplace, .int dplaces, .int dhold, .int dsteps, .int dbeam, .int dob, .int doc]))])) A) (va_A ([(k0, .inr (4, [.ref h4, lo, .ref h0, .int powered, .int stepsDone])), (h0, .inr (1, [.int wayToOther, .ref h1, .ref h2, .int place, .int speed, .int way, .int topSpeed, .int gain, .int brake, .int darkSpeed, .int rideSpeed, .int kilos, .int mostKilos, .int openContacts, .int fireFloor, .int ride, .int starts, .int distance, .int hardFalls])), (h1, .inr (2, [.int dstate, .int dplace, .int dplaces, .int dhold, .int dsteps, .int dbeam, .int dob, .int doc]))]) sz)) ((fun A : Nat → Prop => vx_X (fun u : Int32 => F_close_1 kilos mostKilos dstate dbeam = .inl u ∧ (False)) (mpsx D A [(k0, .inr (4, [.ref h4, lo, .ref h0, .int powered, .int stepsDone])), (h0, .inr (1, [.int wayToOther, .ref h1, .ref h2, .int place, .int speed, .int way, .int topSpeed, .int gain, .int brake, .int darkSpeed, .int rideSpeed, .int kilos, .int mostKilos, .int openContacts, .int fireFloor, .int ride, .int starts, .int distance, .int hardFalls])), (h1, .inr (2, [.int dstate, .int dplace, .int dplaces, .int dhold, .int dsteps, .int dbeam, .int dob, .int doc]))]) A) (va_A ([(k0, .inr (4, [.ref h4, lo, .ref h0, .int powered, .int stepsDone])), (h0, .inr (1, [.int wayToOther, .ref h1, .ref h2, .int place, .int speed, .int way, .int topSpeed, .int gain, .int brake, .int darkSpeed, .int rideSpeed, .int kilos, .int mostKilos, .int openContacts, .int fireFloor, .int ride, .int starts, .int distance, .int hardFalls])), (h1, .inr (2, [.int dstate, .int dplace, .int dplaces, .int dhold, .int dsteps, .int dbeam, .int dob, .int doc]))]) sz)) 0 0 (va_A ([(k0, .inr (4, [.ref h4, lo, .ref h0, .int powered, .int stepsDone])), (h0, .inr (1, [.int wayToOther, .ref h1, .ref h2, .int place, .int speed, .int way, .int topSpeed, .int gain, .int brake, .int darkSpeed, .int rideSpeed, .int kilos, .int mostKilos, .int openContacts, .int fireFloor, .int ride, .int starts, .int distance, .int hardFalls])), (h1, .inr (2, [.int dstate, .int dplace, .int dplaces, .int dhold, .int dsteps, .int dbeam, .int dob, .int doc]))]) sz) := by
  refine enx (cc := cX4_close) (maxL := 3) (ret := (some .boolean)) (Qc := (fun A : Nat → Prop => va_Qi (fun (r : Int32) (u : Int32) => F_close_1 kilos mostKilos dstate dbeam = .inr (r, u) ∧ nb r) (mpst D A (fun (u : Int32) => [(k0, .inr (4, [.ref h4, lo, .ref h0, .int powered, .int stepsDone])), (h0, .inr (1, [.int wayToOther, .ref h1, .ref h2, .int place, .int speed, .int way, .int topSpeed, .int gain, .int brake, .int darkSpeed, .int rideSpeed, .int kilos, .int mostKilos, .int openContacts, .int fireFloor, .int ride, .int starts, .int distance, .int hardFalls])), (h1, .inr (2, [.int u, .int dplace, .int dplaces, .int dhold, .int dsteps, .int dbeam, .int dob, .int doc]))])) A)) (XC := (fun A : Nat → Prop => vx_X (fun u : Int32 => F_close_1 kilos mostKilos dstate dbeam = .inl u ∧ (False)) (mpsx D A [(k0, .inr (4, [.ref h4, lo, .ref h0, .int powered, .int stepsDone])), (h0, .inr (1, [.int wayToOther, .ref h1, .ref h2, .int place, .int speed, .int way, .int topSpeed, .int gain, .int brake, .int darkSpeed, .int rideSpeed, .int kilos, .int mostKilos, .int openContacts, .int fireFloor, .int ride, .int starts, .int distance, .int hardFalls])), (h1, .inr (2, [.int dstate, .int dplace, .int dplaces, .int dhold, .int dsteps, .int dbeam, .int dob, .int doc]))]) A)) (by decide) rfl (Nat.le_of_ble_eq_true rfl) ?_
  intro p e s m args below meth c A ls Q hQ hx hb hr hts hown hlk hnm hml hout hA hS hP hK hD hE hl
  have hown : s.vm.findClass RX4 = some m.cls := hown
  have hl : lv_has ls 3 [(0, .ref k0), (1, .int 1)] := hl
  have hG := F_close_1_u kilos mostKilos dstate dbeam
  refine lv_aload_n hx hb dX4_close_0 rfl (lv_at hl 0 rfl) ?_
  refine lv_iload_n hx hb dX4_close_1 rfl (lv_at hl 1 rfl) ?_
  refine my_xr (wr := [(h0, .inr (1, [.int wayToOther, .ref h1, .ref h2, .int place, .int speed, .int way, .int topSpeed, .int gain, .int brake, .int darkSpeed, .int rideSpeed, .int kilos, .int mostKilos, .int openContacts, .int fireFloor, .int ride, .int starts, .int distance, .int hardFalls])), (h1, .inr (2, [.int dstate, .int dplace, .int dplaces, .int dhold, .int dsteps, .int dbeam, .int dob, .int doc]))]) [0] [1, 2] [2, 0, 1] (vx_runV (As := [.int 1]) (rest := []) ⟨hx, hb, hml, hown, hts⟩ (c_carOf_1 l hl9 D aI aL aZ _ k0 h4 powered stepsDone h0 lo) (cwV 1 hts (gV w_393 w_395 w_2 w_35 w_396) rfl rfl rfl (by decide +kernel) ⟨Nat.le_of_ble_eq_true rfl, Nat.le_of_ble_eq_true rfl⟩) (prev_of hK hP hD hS hA hE [0] rfl (by decide) (ci := 4) rfl 0 rfl _) rfl rfl hl.1 rfl (lv_room (Nat.le_of_ble_eq_true rfl)) dX4_close_2 ⟨Nat.le_of_ble_eq_true rfl, Nat.le_of_ble_eq_true rfl⟩) hP hD hS hA rfl rfl (by decide) (by decide) hQ (fun _ h9 => ⟨hG.trans (cx_l h9.1), h9.2⟩) hout hlk rfl (by decide) (Nat.le_of_ble_eq_true rfl) (Nat.le_of_ble_eq_true rfl) (fun u_ H locs hw_1 hP hD hS => ?_)
  have hw_1 : F_carOf_1 = .inr () := hw_1
  have hG := hG.trans (cx_r hw_1)
  have hP : va_P D vwCl [(h0, .inr (1, [.int wayToOther, .ref h1, .ref h2, .int place, .int speed, .int way, .int topSpeed, .int gain, .int brake, .int darkSpeed, .int rideSpeed, .int kilos, .int mostKilos, .int openContacts, .int fireFloor, .int ride, .int starts, .int distance, .int hardFalls])), (h1, .inr (2, [.int dstate, .int dplace, .int dplaces, .int dhold, .int dsteps, .int dbeam, .int dob, .int doc])), (k0, .inr (4, [.ref h4, lo, .ref h0, .int powered, .int stepsDone]))] H := hP
  have hD : va_D A [(h0, .inr (1, [.int wayToOther, .ref h1, .ref h2, .int place, .int speed, .int way, .int topSpeed, .int gain, .int brake, .int darkSpeed, .int rideSpeed, .int kilos, .int mostKilos, .int openContacts, .int fireFloor, .int ride, .int starts, .int distance, .int hardFalls])), (h1, .inr (2, [.int dstate, .int dplace, .int dplaces, .int dhold, .int dsteps, .int dbeam, .int dob, .int doc])), (k0, .inr (4, [.ref h4, lo, .ref h0, .int powered, .int stepsDone]))] := hD
  refine lv_astore_n (lv' := [(2, .ref h0), (0, .ref k0), (1, .int 1)]) hx hb dX4_close_5 rfl hl (by decide) rfl (fun ls hl => ?_)
  refine lv_aload_n hx hb dX4_close_6 rfl (lv_at hl 0 rfl) ?_
  refine va_getN (D := D) (ci := 1) (v := .ref h1) (C := RX1) (T := TX1) (N := 19) hx hb hts inX1 hown hK hP 0 rfl rfl 1 (by decide) (nwF hE 12 rfl) (fun _ h9 => h9) rfl dX4_close_7 ?_
  refine va_getN (D := D) (ci := 2) (v := .int dstate) (C := RX2) (T := TX2) (N := 8) hx hb hts inX2 hown hK hP 1 rfl rfl 0 (by decide) (nwF hE 2 rfl) (fun _ h9 => h9) rfl dX4_close_10 ?_
  refine lv_iconst (v := 2) hx hb dX4_close_13 (by decide) ?_
  refine lv_icmp_ne (tgt := 34) hx hb dX4_close_14 (by decide) (fun c_2 => ?_) (fun c_2 => ?_)
  · have hG := hG.trans (if_neg c_2)
    refine lv_iconst (v := 0) hx hb dX4_close_34 (by decide) ?_
    have hP := hP.sub (ws' := [(k0, .inr (4, [.ref h4, lo, .ref h0, .int powered, .int stepsDone])), (h0, .inr (1, [.int wayToOther, .ref h1, .ref h2, .int place, .int speed, .int way, .int topSpeed, .int gain, .int brake, .int darkSpeed, .int rideSpeed, .int kilos, .int mostKilos, .int openContacts, .int fireFloor, .int ride, .int starts, .int distance, .int hardFalls])), (h1, .inr (2, [.int dstate, .int dplace, .int dplaces, .int dhold, .int dsteps, .int dbeam, .int dob, .int doc]))]) [2, 0, 1] rfl
    have hD := hD.sub (ws' := [(k0, .inr (4, [.ref h4, lo, .ref h0, .int powered, .int stepsDone])), (h0, .inr (1, [.int wayToOther, .ref h1, .ref h2, .int place, .int speed, .int way, .int topSpeed, .int gain, .int brake, .int darkSpeed, .int rideSpeed, .int kilos, .int mostKilos, .int openContacts, .int fireFloor, .int ride, .int starts, .int distance, .int hardFalls])), (h1, .inr (2, [.int dstate, .int dplace, .int dplaces, .int dhold, .int dsteps, .int dbeam, .int dob, .int doc]))]) [2, 0, 1] (by decide) rfl
    exact rtx_z hQ hx hb hr (nb_n (Or.inl rfl)) dstate ⟨hG, (Or.inl rfl)⟩ hP hD hS (Nat.le_of_ble_eq_true rfl) (Nat.le_of_ble_eq_true rfl) dX4_close_35 hlk
  · have hG := hG.trans (if_pos c_2)
    refine lv_aload_n hx hb dX4_close_17 rfl (lv_at hl 0 rfl) ?_
    refine va_getN (D := D) (ci := 1) (v := .ref h1) (C := RX1) (T := TX1) (N := 19) hx hb hts inX1 hown hK hP 0 rfl rfl 1 (by decide) (nwF hE 12 rfl) (fun _ h9 => h9) rfl dX4_close_18 ?_
    refine va_getN (D := D) (ci := 2) (v := .int dbeam) (C := RX2) (T := TX2) (N := 8) hx hb hts inX2 hown hK hP 1 rfl rfl 5 (by decide) (nwF hE 7 rfl) (fun _ h9 => h9) rfl dX4_close_21 ?_
    refine lv_if_ne (tgt := 34) hx hb dX4_close_24 (by decide) (fun c_3 => ?_) (fun c_3 => ?_)
    · have hG := hG.trans (if_neg c_3)
      refine lv_iconst (v := 0) hx hb dX4_close_34 (by decide) ?_
      have hP := hP.sub (ws' := [(k0, .inr (4, [.ref h4, lo, .ref h0, .int powered, .int stepsDone])), (h0, .inr (1, [.int wayToOther, .ref h1, .ref h2, .int place, .int speed, .int way, .int topSpeed, .int gain, .int brake, .int darkSpeed, .int rideSpeed, .int kilos, .int mostKilos, .int openContacts, .int fireFloor, .int ride, .int starts, .int distance, .int hardFalls])), (h1, .inr (2, [.int dstate, .int dplace, .int dplaces, .int dhold, .int dsteps, .int dbeam, .int dob, .int doc]))]) [2, 0, 1] rfl
      have hD := hD.sub (ws' := [(k0, .inr (4, [.ref h4, lo, .ref h0, .int powered, .int stepsDone])), (h0, .inr (1, [.int wayToOther, .ref h1, .ref h2, .int place, .int speed, .int way, .int topSpeed, .int gain, .int brake, .int darkSpeed, .int rideSpeed, .int kilos, .int mostKilos, .int openContacts, .int fireFloor, .int ride, .int starts, .int distance, .int hardFalls])), (h1, .inr (2, [.int dstate, .int dplace, .int dplaces, .int dhold, .int dsteps, .int dbeam, .int dob, .int doc]))]) [2, 0, 1] (by decide) rfl
      exact rtx_z hQ hx hb hr (nb_n (Or.inl rfl)) dstate ⟨hG, (Or.inl rfl)⟩ hP hD hS (Nat.le_of_ble_eq_true rfl) (Nat.le_of_ble_eq_true rfl) dX4_close_35 hlk
    · have hG := hG.trans (if_pos c_3)
      refine lv_aload_n hx hb dX4_close_27 rfl (lv_at hl 0 rfl) ?_
      refine my_i (wr := [(h1, .inr (2, [.int dstate, .int dplace, .int dplaces, .int dhold, .int dsteps, .int dbeam, .int dob, .int doc])), (k0, .inr (4, [.ref h4, lo, .ref h0, .int powered, .int stepsDone]))]) [0] [1, 2] (va_runV (As := []) (rest := []) ⟨hx, hb, hml, hown, hts⟩ (c_isOverloaded l D aI aL aZ _ h0 h1 h2 wayToOther place speed way topSpeed gain brake darkSpeed rideSpeed kilos mostKilos openContacts fireFloor ride starts distance hardFalls) (cwV 0 hts (gV w_450 w_451 w_452 w_44 w_453) rfl rfl rfl (by decide +kernel) ⟨Nat.le_of_ble_eq_true rfl, Nat.le_of_ble_eq_true rfl⟩) (prev_of hK hP hD hS hA hE [0] rfl (by decide) (ci := 1) rfl 0 rfl _) rfl rfl hl.1 rfl (lv_room (Nat.le_of_ble_eq_true rfl)) dX4_close_28 ⟨Nat.le_of_ble_eq_true rfl, Nat.le_of_ble_eq_true rfl⟩) hP hD hS hA rfl rfl (by decide) (by decide) (fun r_4 u_ H locs hw_5 hP hD hS => ?_)
      have hw_5 : F_isOverloaded kilos mostKilos = r_4 ∧ nb r_4 := hw_5
      have hG := hG.trans (cb_e hw_5.1)
      have hP : va_P D vwCl [(h1, .inr (2, [.int dstate, .int dplace, .int dplaces, .int dhold, .int dsteps, .int dbeam, .int dob, .int doc])), (k0, .inr (4, [.ref h4, lo, .ref h0, .int powered, .int stepsDone])), (h0, .inr (1, [.int wayToOther, .ref h1, .ref h2, .int place, .int speed, .int way, .int topSpeed, .int gain, .int brake, .int darkSpeed, .int rideSpeed, .int kilos, .int mostKilos, .int openContacts, .int fireFloor, .int ride, .int starts, .int distance, .int hardFalls]))] H := hP
      have hD : va_D A [(h1, .inr (2, [.int dstate, .int dplace, .int dplaces, .int dhold, .int dsteps, .int dbeam, .int dob, .int doc])), (k0, .inr (4, [.ref h4, lo, .ref h0, .int powered, .int stepsDone])), (h0, .inr (1, [.int wayToOther, .ref h1, .ref h2, .int place, .int speed, .int way, .int topSpeed, .int gain, .int brake, .int darkSpeed, .int rideSpeed, .int kilos, .int mostKilos, .int openContacts, .int fireFloor, .int ride, .int starts, .int distance, .int hardFalls]))] := hD
      refine lv_if_eq (tgt := 36) hx hb dX4_close_31 (by decide) (fun c_6 => ?_) (fun c_6 => ?_)
      · have hG := hG.trans (if_pos c_6)
        refine lv_aload_n hx hb dX4_close_36 rfl (lv_at hl 0 rfl) ?_
        refine va_getN (D := D) (ci := 1) (v := .ref h1) (C := RX1) (T := TX1) (N := 19) hx hb hts inX1 hown hK hP 2 rfl rfl 1 (by decide) (nwF hE 12 rfl) (fun _ h9 => h9) rfl dX4_close_37 ?_
        refine lv_iconst (v := 3) hx hb dX4_close_40 (by decide) ?_
        refine va_putN (D := D) (ci := 2) (v := .int 3) (ty := .int) (C := RX2) (T := TX2) (N := 8) hx hb hts inX2 tyX2 tyX2_ok nmX2 hown hK hP hD hS 0 rfl rfl 0 (by decide) (nwF hE 2 rfl) (fun _ h9 => h9) rfl (by decide +kernel) rfl rfl (Nat.le_of_ble_eq_true rfl) dX4_close_41 (fun H locs hP hD hS => ?_)
        have hP : va_P D vwCl [(h1, .inr (2, [.int 3, .int dplace, .int dplaces, .int dhold, .int dsteps, .int dbeam, .int dob, .int doc])), (k0, .inr (4, [.ref h4, lo, .ref h0, .int powered, .int stepsDone])), (h0, .inr (1, [.int wayToOther, .ref h1, .ref h2, .int place, .int speed, .int way, .int topSpeed, .int gain, .int brake, .int darkSpeed, .int rideSpeed, .int kilos, .int mostKilos, .int openContacts, .int fireFloor, .int ride, .int starts, .int distance, .int hardFalls]))] H := hP
        have hD : va_D A [(h1, .inr (2, [.int 3, .int dplace, .int dplaces, .int dhold, .int dsteps, .int dbeam, .int dob, .int doc])), (k0, .inr (4, [.ref h4, lo, .ref h0, .int powered, .int stepsDone])), (h0, .inr (1, [.int wayToOther, .ref h1, .ref h2, .int place, .int speed, .int way, .int topSpeed, .int gain, .int brake, .int darkSpeed, .int rideSpeed, .int kilos, .int mostKilos, .int openContacts, .int fireFloor, .int ride, .int starts, .int distance, .int hardFalls]))] := hD
        refine lv_iconst (v := 1) hx hb dX4_close_44 (by decide) ?_
        have hP := hP.sub (ws' := [(k0, .inr (4, [.ref h4, lo, .ref h0, .int powered, .int stepsDone])), (h0, .inr (1, [.int wayToOther, .ref h1, .ref h2, .int place, .int speed, .int way, .int topSpeed, .int gain, .int brake, .int darkSpeed, .int rideSpeed, .int kilos, .int mostKilos, .int openContacts, .int fireFloor, .int ride, .int starts, .int distance, .int hardFalls])), (h1, .inr (2, [.int 3, .int dplace, .int dplaces, .int dhold, .int dsteps, .int dbeam, .int dob, .int doc]))]) [1, 2, 0] rfl
        have hD := hD.sub (ws' := [(k0, .inr (4, [.ref h4, lo, .ref h0, .int powered, .int stepsDone])), (h0, .inr (1, [.int wayToOther, .ref h1, .ref h2, .int place, .int speed, .int way, .int topSpeed, .int gain, .int brake, .int darkSpeed, .int rideSpeed, .int kilos, .int mostKilos, .int openContacts, .int fireFloor, .int ride, .int starts, .int distance, .int hardFalls])), (h1, .inr (2, [.int 3, .int dplace, .int dplaces, .int dhold, .int dsteps, .int dbeam, .int dob, .int doc]))]) [1, 2, 0] (by decide) rfl
        exact rtx_z hQ hx hb hr (nb_n (Or.inr rfl)) 3 ⟨hG, (Or.inr rfl)⟩ hP hD hS (Nat.le_of_ble_eq_true rfl) (Nat.le_of_ble_eq_true rfl) dX4_close_45 hlk
      · have hG := hG.trans (if_neg c_6)
        refine lv_iconst (v := 0) hx hb dX4_close_34 (by decide) ?_
        have hP := hP.sub (ws' := [(k0, .inr (4, [.ref h4, lo, .ref h0, .int powered, .int stepsDone])), (h0, .inr (1, [.int wayToOther, .ref h1, .ref h2, .int place, .int speed, .int way, .int topSpeed, .int gain, .int brake, .int darkSpeed, .int rideSpeed, .int kilos, .int mostKilos, .int openContacts, .int fireFloor, .int ride, .int starts, .int distance, .int hardFalls])), (h1, .inr (2, [.int dstate, .int dplace, .int dplaces, .int dhold, .int dsteps, .int dbeam, .int dob, .int doc]))]) [1, 2, 0] rfl
        have hD := hD.sub (ws' := [(k0, .inr (4, [.ref h4, lo, .ref h0, .int powered, .int stepsDone])), (h0, .inr (1, [.int wayToOther, .ref h1, .ref h2, .int place, .int speed, .int way, .int topSpeed, .int gain, .int brake, .int darkSpeed, .int rideSpeed, .int kilos, .int mostKilos, .int openContacts, .int fireFloor, .int ride, .int starts, .int distance, .int hardFalls])), (h1, .inr (2, [.int dstate, .int dplace, .int dplaces, .int dhold, .int dsteps, .int dbeam, .int dob, .int doc]))]) [1, 2, 0] (by decide) rfl
        exact rtx_z hQ hx hb hr (nb_n (Or.inl rfl)) dstate ⟨hG, (Or.inl rfl)⟩ hP hD hS (Nat.le_of_ble_eq_true rfl) (Nat.le_of_ble_eq_true rfl) dX4_close_35 hlk
def F_close_0n : Int32 ⊕ Int32 :=
  cx F_carOf_0n fun _ =>
    .inl 0
theorem F_close_0n_u : F_close_0n =
  (cx F_carOf_0n fun _ =>
    .inl 0) := rfl
set_option maxHeartbeats 4000000 in
set_option maxRecDepth 100000 in
theorem c_close_0n (l : Launch) (hl9 : l.stackTraces = false) (D : va_G) (aI aL aZ : ClassId) (sz : Nat) (k0 : Nat) (h4 : Nat) (powered : Int32) (stepsDone : Int32) (up : Value) : vx_Met l yX4_close (.code yX4_close cX4_close 3 (some .boolean) :: Gw) ({ frames := 7, cells := 1, slots := 6, locals := 114 }) (va_Pc [.ref k0, .int 0] (mpre D [(aI, .int), (aL, .long), (aZ, .boolean)] [(k0, .inr (4, [.ref h4, .null, up, .int powered, .int stepsDone]))] sz)) ((fun A : Nat → Prop => va_Qi (fun (r : Int32) (u : Unit) => False) (mpst D A (fun (u : Unit) => [(k0, .inr (4, [.ref h4, .null, up, .int powered, .int stepsDone]))])) A) (va_A ([(k0, .inr (4, [.ref h4, .null, up, .int powered, .int stepsDone]))]) sz)) ((fun A : Nat → Prop => vx_X (fun u : Int32 => F_close_0n = .inl u ∧ (u = 1)) (mpsx D A [(k0, .inr (4, [.ref h4, .null, up, .int powered, .int stepsDone]))]) A) (va_A ([(k0, .inr (4, [.ref h4, .null, up, .int powered, .int stepsDone]))]) sz)) 1 6 (va_A ([(k0, .inr (4, [.ref h4, .null, up, .int powered, .int stepsDone]))]) sz) := by
  refine enx (cc := cX4_close) (maxL := 3) (ret := (some .boolean)) (Qc := (fun A : Nat → Prop => va_Qi (fun (r : Int32) (u : Unit) => False) (mpst D A (fun (u : Unit) => [(k0, .inr (4, [.ref h4, .null, up, .int powered, .int stepsDone]))])) A)) (XC := (fun A : Nat → Prop => vx_X (fun u : Int32 => F_close_0n = .inl u ∧ (u = 1)) (mpsx D A [(k0, .inr (4, [.ref h4, .null, up, .int powered, .int stepsDone]))]) A)) (by decide) rfl (Nat.le_of_ble_eq_true rfl) ?_
  intro p e s m args below meth c A ls Q hQ hx hb hr hts hown hlk hnm hml hout hA hS hP hK hD hE hl
  have hown : s.vm.findClass RX4 = some m.cls := hown
  have hl : lv_has ls 3 [(0, .ref k0), (1, .int 0)] := hl
  have hG := F_close_0n_u
  refine lv_aload_n hx hb dX4_close_0 rfl (lv_at hl 0 rfl) ?_
  refine lv_iload_n hx hb dX4_close_1 rfl (lv_at hl 1 rfl) ?_
  refine my_xr (wr := []) [0] [] [0] (vx_runV (As := [.int 0]) (rest := []) ⟨hx, hb, hml, hown, hts⟩ (c_carOf_0n l hl9 D aI aL aZ _ k0 h4 powered stepsDone up) (cwV 1 hts (gV w_393 w_395 w_2 w_35 w_396) rfl rfl rfl (by decide +kernel) ⟨Nat.le_of_ble_eq_true rfl, Nat.le_of_ble_eq_true rfl⟩) (prev_of hK hP hD hS hA hE [0] rfl (by decide) (ci := 4) rfl 0 rfl _) rfl rfl hl.1 rfl (lv_room (Nat.le_of_ble_eq_true rfl)) dX4_close_2 ⟨Nat.le_of_ble_eq_true rfl, Nat.le_of_ble_eq_true rfl⟩) hP hD hS hA rfl rfl (by decide) (by decide) hQ (fun _ h9 => ⟨hG.trans (cx_l h9.1), h9.2⟩) hout hlk rfl (by decide) (Nat.le_of_ble_eq_true rfl) (Nat.le_of_ble_eq_true rfl) (fun u_ H locs hw_1 hP hD hS => ?_)
  exact False.elim hw_1
def F_close_1n : Int32 ⊕ Int32 :=
  cx F_carOf_1n fun _ =>
    .inl 0
theorem F_close_1n_u : F_close_1n =
  (cx F_carOf_1n fun _ =>
    .inl 0) := rfl
set_option maxHeartbeats 4000000 in
set_option maxRecDepth 100000 in
theorem c_close_1n (l : Launch) (hl9 : l.stackTraces = false) (D : va_G) (aI aL aZ : ClassId) (sz : Nat) (k0 : Nat) (h4 : Nat) (powered : Int32) (stepsDone : Int32) (lo : Value) : vx_Met l yX4_close (.code yX4_close cX4_close 3 (some .boolean) :: Gw) ({ frames := 7, cells := 1, slots := 6, locals := 114 }) (va_Pc [.ref k0, .int 1] (mpre D [(aI, .int), (aL, .long), (aZ, .boolean)] [(k0, .inr (4, [.ref h4, lo, .null, .int powered, .int stepsDone]))] sz)) ((fun A : Nat → Prop => va_Qi (fun (r : Int32) (u : Unit) => False) (mpst D A (fun (u : Unit) => [(k0, .inr (4, [.ref h4, lo, .null, .int powered, .int stepsDone]))])) A) (va_A ([(k0, .inr (4, [.ref h4, lo, .null, .int powered, .int stepsDone]))]) sz)) ((fun A : Nat → Prop => vx_X (fun u : Int32 => F_close_1n = .inl u ∧ (u = 1)) (mpsx D A [(k0, .inr (4, [.ref h4, lo, .null, .int powered, .int stepsDone]))]) A) (va_A ([(k0, .inr (4, [.ref h4, lo, .null, .int powered, .int stepsDone]))]) sz)) 1 6 (va_A ([(k0, .inr (4, [.ref h4, lo, .null, .int powered, .int stepsDone]))]) sz) := by
  refine enx (cc := cX4_close) (maxL := 3) (ret := (some .boolean)) (Qc := (fun A : Nat → Prop => va_Qi (fun (r : Int32) (u : Unit) => False) (mpst D A (fun (u : Unit) => [(k0, .inr (4, [.ref h4, lo, .null, .int powered, .int stepsDone]))])) A)) (XC := (fun A : Nat → Prop => vx_X (fun u : Int32 => F_close_1n = .inl u ∧ (u = 1)) (mpsx D A [(k0, .inr (4, [.ref h4, lo, .null, .int powered, .int stepsDone]))]) A)) (by decide) rfl (Nat.le_of_ble_eq_true rfl) ?_
  intro p e s m args below meth c A ls Q hQ hx hb hr hts hown hlk hnm hml hout hA hS hP hK hD hE hl
  have hown : s.vm.findClass RX4 = some m.cls := hown
  have hl : lv_has ls 3 [(0, .ref k0), (1, .int 1)] := hl
  have hG := F_close_1n_u
  refine lv_aload_n hx hb dX4_close_0 rfl (lv_at hl 0 rfl) ?_
  refine lv_iload_n hx hb dX4_close_1 rfl (lv_at hl 1 rfl) ?_
  refine my_xr (wr := []) [0] [] [0] (vx_runV (As := [.int 1]) (rest := []) ⟨hx, hb, hml, hown, hts⟩ (c_carOf_1n l hl9 D aI aL aZ _ k0 h4 powered stepsDone lo) (cwV 1 hts (gV w_393 w_395 w_2 w_35 w_396) rfl rfl rfl (by decide +kernel) ⟨Nat.le_of_ble_eq_true rfl, Nat.le_of_ble_eq_true rfl⟩) (prev_of hK hP hD hS hA hE [0] rfl (by decide) (ci := 4) rfl 0 rfl _) rfl rfl hl.1 rfl (lv_room (Nat.le_of_ble_eq_true rfl)) dX4_close_2 ⟨Nat.le_of_ble_eq_true rfl, Nat.le_of_ble_eq_true rfl⟩) hP hD hS hA rfl rfl (by decide) (by decide) hQ (fun _ h9 => ⟨hG.trans (cx_l h9.1), h9.2⟩) hout hlk rfl (by decide) (Nat.le_of_ble_eq_true rfl) (Nat.le_of_ble_eq_true rfl) (fun u_ H locs hw_1 hP hD hS => ?_)
  exact False.elim hw_1
def F_close_x : Int32 ⊕ Int32 :=
  cx F_carOf_x fun _ =>
    .inl 0
theorem F_close_x_u : F_close_x =
  (cx F_carOf_x fun _ =>
    .inl 0) := rfl
set_option maxHeartbeats 4000000 in
set_option maxRecDepth 100000 in
theorem c_close_x (l : Launch) (hl9 : l.stackTraces = false) (D : va_G) (aI aL aZ : ClassId) (sz : Nat) (k0 : Nat) (h4 : Nat) (powered : Int32) (stepsDone : Int32) (lo : Value) (up : Value) (p0 : Int32) (h9 : ¬ p0 = 0) (h8 : ¬ p0 = 1) : vx_Met l yX4_close (.code yX4_close cX4_close 3 (some .boolean) :: Gw) ({ frames := 7, cells := 1, slots := 6, locals := 114 }) (va_Pc [.ref k0, .int p0] (mpre D [(aI, .int), (aL, .long), (aZ, .boolean)] [(k0, .inr (4, [.ref h4, lo, up, .int powered, .int stepsDone]))] sz)) ((fun A : Nat → Prop => va_Qi (fun (r : Int32) (u : Unit) => False) (mpst D A (fun (u : Unit) => [(k0, .inr (4, [.ref h4, lo, up, .int powered, .int stepsDone]))])) A) (va_A ([(k0, .inr (4, [.ref h4, lo, up, .int powered, .int stepsDone]))]) sz)) ((fun A : Nat → Prop => vx_X (fun u : Int32 => F_close_x = .inl u ∧ (u = 1)) (mpsx D A [(k0, .inr (4, [.ref h4, lo, up, .int powered, .int stepsDone]))]) A) (va_A ([(k0, .inr (4, [.ref h4, lo, up, .int powered, .int stepsDone]))]) sz)) 1 6 (va_A ([(k0, .inr (4, [.ref h4, lo, up, .int powered, .int stepsDone]))]) sz) := by
  refine enx (cc := cX4_close) (maxL := 3) (ret := (some .boolean)) (Qc := (fun A : Nat → Prop => va_Qi (fun (r : Int32) (u : Unit) => False) (mpst D A (fun (u : Unit) => [(k0, .inr (4, [.ref h4, lo, up, .int powered, .int stepsDone]))])) A)) (XC := (fun A : Nat → Prop => vx_X (fun u : Int32 => F_close_x = .inl u ∧ (u = 1)) (mpsx D A [(k0, .inr (4, [.ref h4, lo, up, .int powered, .int stepsDone]))]) A)) (by decide) rfl (Nat.le_of_ble_eq_true rfl) ?_
  intro p e s m args below meth c A ls Q hQ hx hb hr hts hown hlk hnm hml hout hA hS hP hK hD hE hl
  have hown : s.vm.findClass RX4 = some m.cls := hown
  have hl : lv_has ls 3 [(0, .ref k0), (1, .int p0)] := hl
  have hG := F_close_x_u
  refine lv_aload_n hx hb dX4_close_0 rfl (lv_at hl 0 rfl) ?_
  refine lv_iload_n hx hb dX4_close_1 rfl (lv_at hl 1 rfl) ?_
  refine my_xr (wr := []) [0] [] [0] (vx_runV (As := [.int p0]) (rest := []) ⟨hx, hb, hml, hown, hts⟩ (c_carOf_x l hl9 D aI aL aZ _ k0 h4 powered stepsDone lo up p0 h9 h8) (cwV 1 hts (gV w_393 w_395 w_2 w_35 w_396) rfl rfl rfl (by decide +kernel) ⟨Nat.le_of_ble_eq_true rfl, Nat.le_of_ble_eq_true rfl⟩) (prev_of hK hP hD hS hA hE [0] rfl (by decide) (ci := 4) rfl 0 rfl _) rfl rfl hl.1 rfl (lv_room (Nat.le_of_ble_eq_true rfl)) dX4_close_2 ⟨Nat.le_of_ble_eq_true rfl, Nat.le_of_ble_eq_true rfl⟩) hP hD hS hA rfl rfl (by decide) (by decide) hQ (fun _ h9 => ⟨hG.trans (cx_l h9.1), h9.2⟩) hout hlk rfl (by decide) (Nat.le_of_ble_eq_true rfl) (Nat.le_of_ble_eq_true rfl) (fun u_ H locs hw_1 hP hD hS => ?_)
  exact False.elim hw_1
theorem dX4_contact_0 : decode cX4_contact 0 = .ok (.aload_n 0, 1) := by decide +kernel
theorem dX4_contact_1 : decode cX4_contact 1 = .ok (.iload_n 1, 1) := by decide +kernel
theorem dX4_contact_2 : decode cX4_contact 2 = .ok (.invokevirtual 84, 3) := by decide +kernel
theorem dX4_contact_5 : decode cX4_contact 5 = .ok (.astore 4, 2) := by decide +kernel
theorem dX4_contact_7 : decode cX4_contact 7 = .ok (.iload_n 2, 1) := by decide +kernel
theorem dX4_contact_8 : decode cX4_contact 8 = .ok (.iconst 0, 1) := by decide +kernel
theorem dX4_contact_9 : decode cX4_contact 9 = .ok (.bipush 7, 2) := by decide +kernel
theorem dX4_contact_11 : decode cX4_contact 11 = .ok (.invokestatic 35, 3) := by decide +kernel
theorem dX4_contact_14 : decode cX4_contact 14 = .ok (.iconst 1, 1) := by decide +kernel
theorem dX4_contact_15 : decode cX4_contact 15 = .ok (.iload_n 2, 1) := by decide +kernel
theorem dX4_contact_16 : decode cX4_contact 16 = .ok (.ishl, 1) := by decide +kernel
theorem dX4_contact_17 : decode cX4_contact 17 = .ok (.istore 5, 2) := by decide +kernel
theorem dX4_contact_19 : decode cX4_contact 19 = .ok (.aload 4, 2) := by decide +kernel
theorem dX4_contact_21 : decode cX4_contact 21 = .ok (.getfield 162, 3) := by decide +kernel
theorem dX4_contact_24 : decode cX4_contact 24 = .ok (.iload 5, 2) := by decide +kernel
theorem dX4_contact_26 : decode cX4_contact 26 = .ok (.iand, 1) := by decide +kernel
theorem dX4_contact_27 : decode cX4_contact 27 = .ok (.ifCond .eq 7, 3) := by decide +kernel
theorem dX4_contact_30 : decode cX4_contact 30 = .ok (.iconst 1, 1) := by decide +kernel
theorem dX4_contact_31 : decode cX4_contact 31 = .ok (.goto 4, 3) := by decide +kernel
theorem dX4_contact_34 : decode cX4_contact 34 = .ok (.iconst 0, 1) := by decide +kernel
theorem dX4_contact_35 : decode cX4_contact 35 = .ok (.istore 6, 2) := by decide +kernel
theorem dX4_contact_37 : decode cX4_contact 37 = .ok (.aload 4, 2) := by decide +kernel
theorem dX4_contact_39 : decode cX4_contact 39 = .ok (.iload_n 3, 1) := by decide +kernel
theorem dX4_contact_40 : decode cX4_contact 40 = .ok (.ifCond .eq 14, 3) := by decide +kernel
theorem dX4_contact_43 : decode cX4_contact 43 = .ok (.aload 4, 2) := by decide +kernel
theorem dX4_contact_45 : decode cX4_contact 45 = .ok (.getfield 162, 3) := by decide +kernel
theorem dX4_contact_48 : decode cX4_contact 48 = .ok (.iload 5, 2) := by decide +kernel
theorem dX4_contact_50 : decode cX4_contact 50 = .ok (.ior, 1) := by decide +kernel
theorem dX4_contact_51 : decode cX4_contact 51 = .ok (.goto 13, 3) := by decide +kernel
theorem dX4_contact_54 : decode cX4_contact 54 = .ok (.aload 4, 2) := by decide +kernel
theorem dX4_contact_56 : decode cX4_contact 56 = .ok (.getfield 162, 3) := by decide +kernel
theorem dX4_contact_59 : decode cX4_contact 59 = .ok (.iload 5, 2) := by decide +kernel
theorem dX4_contact_61 : decode cX4_contact 61 = .ok (.iconst (-1), 1) := by decide +kernel
theorem dX4_contact_62 : decode cX4_contact 62 = .ok (.ixor, 1) := by decide +kernel
theorem dX4_contact_63 : decode cX4_contact 63 = .ok (.iand, 1) := by decide +kernel
theorem dX4_contact_64 : decode cX4_contact 64 = .ok (.putfield 162, 3) := by decide +kernel
theorem dX4_contact_67 : decode cX4_contact 67 = .ok (.iload 6, 2) := by decide +kernel
theorem dX4_contact_69 : decode cX4_contact 69 = .ok (.ireturn, 1) := by decide +kernel
def F_contact_0 (openContacts : Int32) (p1 : Int32) (p2 : Int32) : Int32 ⊕ (Int32 × Int32) :=
  cx F_carOf_0 fun _ =>
    cx (F_refuseOutside p1 0 7) fun _ =>
      if (openContacts &&& ((1 : Int32) <<< (p1 &&& 31))) = 0 then
        if p2 = 0 then
          .inr (0, (openContacts &&& (((1 : Int32) <<< (p1 &&& 31)) ^^^ (-1))))
        else
          .inr (0, (openContacts ||| ((1 : Int32) <<< (p1 &&& 31))))
      else
        if p2 = 0 then
          .inr (1, (openContacts &&& (((1 : Int32) <<< (p1 &&& 31)) ^^^ (-1))))
        else
          .inr (1, (openContacts ||| ((1 : Int32) <<< (p1 &&& 31))))
theorem F_contact_0_u (openContacts : Int32) (p1 : Int32) (p2 : Int32) : F_contact_0 openContacts p1 p2 =
  (cx F_carOf_0 fun _ =>
    cx (F_refuseOutside p1 0 7) fun _ =>
      if (openContacts &&& ((1 : Int32) <<< (p1 &&& 31))) = 0 then
        if p2 = 0 then
          .inr (0, (openContacts &&& (((1 : Int32) <<< (p1 &&& 31)) ^^^ (-1))))
        else
          .inr (0, (openContacts ||| ((1 : Int32) <<< (p1 &&& 31))))
      else
        if p2 = 0 then
          .inr (1, (openContacts &&& (((1 : Int32) <<< (p1 &&& 31)) ^^^ (-1))))
        else
          .inr (1, (openContacts ||| ((1 : Int32) <<< (p1 &&& 31))))) := rfl
set_option maxHeartbeats 4000000 in
set_option maxRecDepth 100000 in
theorem c_contact_0 (l : Launch) (hl9 : l.stackTraces = false) (D : va_G) (aI aL aZ : ClassId) (sz : Nat) (k0 : Nat) (h4 : Nat) (powered : Int32) (stepsDone : Int32) (up : Value) (h0 : Nat) (h1 : Nat) (h2 : Nat) (wayToOther : Int32) (place : Int32) (speed : Int32) (way : Int32) (topSpeed : Int32) (gain : Int32) (brake : Int32) (darkSpeed : Int32) (rideSpeed : Int32) (kilos : Int32) (mostKilos : Int32) (openContacts : Int32) (fireFloor : Int32) (ride : Int32) (starts : Int32) (distance : Int32) (hardFalls : Int32) (p1 : Int32) (p2 : Int32) : vx_Met l yX4_contact (.code yX4_contact cX4_contact 7 (some .boolean) :: Gw) ({ frames := 7, cells := 1, slots := 6, locals := 114 }) (va_Pc [.ref k0, .int 0, .int p1, .int p2] (mpre D [(aI, .int), (aL, .long), (aZ, .boolean)] [(k0, .inr (4, [.ref h4, .ref h0, up, .int powered, .int stepsDone])), (h0, .inr (1, [.int wayToOther, .ref h1, .ref h2, .int place, .int speed, .int way, .int topSpeed, .int gain, .int brake, .int darkSpeed, .int rideSpeed, .int kilos, .int mostKilos, .int openContacts, .int fireFloor, .int ride, .int starts, .int distance, .int hardFalls]))] sz)) ((fun A : Nat → Prop => va_Qi (fun (r : Int32) (u : Int32) => F_contact_0 openContacts p1 p2 = .inr (r, u) ∧ nb r) (mpst D A (fun (u : Int32) => [(k0, .inr (4, [.ref h4, .ref h0, up, .int powered, .int stepsDone])), (h0, .inr (1, [.int wayToOther, .ref h1, .ref h2, .int place, .int speed, .int way, .int topSpeed, .int gain, .int brake, .int darkSpeed, .int rideSpeed, .int kilos, .int mostKilos, .int u, .int fireFloor, .int ride, .int starts, .int distance, .int hardFalls]))])) A) (va_A ([(k0, .inr (4, [.ref h4, .ref h0, up, .int powered, .int stepsDone])), (h0, .inr (1, [.int wayToOther, .ref h1, .ref h2, .int place, .int speed, .int way, .int topSpeed, .int gain, .int brake, .int darkSpeed, .int rideSpeed, .int kilos, .int mostKilos, .int openContacts, .int fireFloor, .int ride, .int starts, .int distance, .int hardFalls]))]) sz)) ((fun A : Nat → Prop => vx_X (fun u : Int32 => F_contact_0 openContacts p1 p2 = .inl u ∧ (u = 1)) (mpsx D A [(k0, .inr (4, [.ref h4, .ref h0, up, .int powered, .int stepsDone])), (h0, .inr (1, [.int wayToOther, .ref h1, .ref h2, .int place, .int speed, .int way, .int topSpeed, .int gain, .int brake, .int darkSpeed, .int rideSpeed, .int kilos, .int mostKilos, .int openContacts, .int fireFloor, .int ride, .int starts, .int distance, .int hardFalls]))]) A) (va_A ([(k0, .inr (4, [.ref h4, .ref h0, up, .int powered, .int stepsDone])), (h0, .inr (1, [.int wayToOther, .ref h1, .ref h2, .int place, .int speed, .int way, .int topSpeed, .int gain, .int brake, .int darkSpeed, .int rideSpeed, .int kilos, .int mostKilos, .int openContacts, .int fireFloor, .int ride, .int starts, .int distance, .int hardFalls]))]) sz)) 1 6 (va_A ([(k0, .inr (4, [.ref h4, .ref h0, up, .int powered, .int stepsDone])), (h0, .inr (1, [.int wayToOther, .ref h1, .ref h2, .int place, .int speed, .int way, .int topSpeed, .int gain, .int brake, .int darkSpeed, .int rideSpeed, .int kilos, .int mostKilos, .int openContacts, .int fireFloor, .int ride, .int starts, .int distance, .int hardFalls]))]) sz) := by
  refine enx (cc := cX4_contact) (maxL := 7) (ret := (some .boolean)) (Qc := (fun A : Nat → Prop => va_Qi (fun (r : Int32) (u : Int32) => F_contact_0 openContacts p1 p2 = .inr (r, u) ∧ nb r) (mpst D A (fun (u : Int32) => [(k0, .inr (4, [.ref h4, .ref h0, up, .int powered, .int stepsDone])), (h0, .inr (1, [.int wayToOther, .ref h1, .ref h2, .int place, .int speed, .int way, .int topSpeed, .int gain, .int brake, .int darkSpeed, .int rideSpeed, .int kilos, .int mostKilos, .int u, .int fireFloor, .int ride, .int starts, .int distance, .int hardFalls]))])) A)) (XC := (fun A : Nat → Prop => vx_X (fun u : Int32 => F_contact_0 openContacts p1 p2 = .inl u ∧ (u = 1)) (mpsx D A [(k0, .inr (4, [.ref h4, .ref h0, up, .int powered, .int stepsDone])), (h0, .inr (1, [.int wayToOther, .ref h1, .ref h2, .int place, .int speed, .int way, .int topSpeed, .int gain, .int brake, .int darkSpeed, .int rideSpeed, .int kilos, .int mostKilos, .int openContacts, .int fireFloor, .int ride, .int starts, .int distance, .int hardFalls]))]) A)) (by decide) rfl (Nat.le_of_ble_eq_true rfl) ?_
  intro p e s m args below meth c A ls Q hQ hx hb hr hts hown hlk hnm hml hout hA hS hP hK hD hE hl
  have hown : s.vm.findClass RX4 = some m.cls := hown
  have hl : lv_has ls 7 [(0, .ref k0), (1, .int 0), (2, .int p1), (3, .int p2)] := hl
  have hG := F_contact_0_u openContacts p1 p2
  refine lv_aload_n hx hb dX4_contact_0 rfl (lv_at hl 0 rfl) ?_
  refine lv_iload_n hx hb dX4_contact_1 rfl (lv_at hl 1 rfl) ?_
  refine my_xr (wr := [(h0, .inr (1, [.int wayToOther, .ref h1, .ref h2, .int place, .int speed, .int way, .int topSpeed, .int gain, .int brake, .int darkSpeed, .int rideSpeed, .int kilos, .int mostKilos, .int openContacts, .int fireFloor, .int ride, .int starts, .int distance, .int hardFalls]))]) [0] [1] [1, 0] (vx_runV (As := [.int 0]) (rest := []) ⟨hx, hb, hml, hown, hts⟩ (c_carOf_0 l hl9 D aI aL aZ _ k0 h4 powered stepsDone h0 up) (cwV 1 hts (gV w_393 w_395 w_2 w_35 w_396) rfl rfl rfl (by decide +kernel) ⟨Nat.le_of_ble_eq_true rfl, Nat.le_of_ble_eq_true rfl⟩) (prev_of hK hP hD hS hA hE [0] rfl (by decide) (ci := 4) rfl 0 rfl _) rfl rfl hl.1 rfl (lv_room (Nat.le_of_ble_eq_true rfl)) dX4_contact_2 ⟨Nat.le_of_ble_eq_true rfl, Nat.le_of_ble_eq_true rfl⟩) hP hD hS hA rfl rfl (by decide) (by decide) hQ (fun _ h9 => ⟨hG.trans (cx_l h9.1), (False.elim h9.2)⟩) hout hlk rfl (by decide) (Nat.le_of_ble_eq_true rfl) (Nat.le_of_ble_eq_true rfl) (fun u_ H locs hw_1 hP hD hS => ?_)
  have hw_1 : F_carOf_0 = .inr () := hw_1
  have hG := hG.trans (cx_r hw_1)
  have hP : va_P D vwCl [(h0, .inr (1, [.int wayToOther, .ref h1, .ref h2, .int place, .int speed, .int way, .int topSpeed, .int gain, .int brake, .int darkSpeed, .int rideSpeed, .int kilos, .int mostKilos, .int openContacts, .int fireFloor, .int ride, .int starts, .int distance, .int hardFalls])), (k0, .inr (4, [.ref h4, .ref h0, up, .int powered, .int stepsDone]))] H := hP
  have hD : va_D A [(h0, .inr (1, [.int wayToOther, .ref h1, .ref h2, .int place, .int speed, .int way, .int topSpeed, .int gain, .int brake, .int darkSpeed, .int rideSpeed, .int kilos, .int mostKilos, .int openContacts, .int fireFloor, .int ride, .int starts, .int distance, .int hardFalls])), (k0, .inr (4, [.ref h4, .ref h0, up, .int powered, .int stepsDone]))] := hD
  refine lv_astore (lv' := [(4, .ref h0), (0, .ref k0), (1, .int 0), (2, .int p1), (3, .int p2)]) hx hb dX4_contact_5 hl (by decide) rfl (fun ls hl => ?_)
  refine lv_iload_n hx hb dX4_contact_7 rfl (lv_at hl 3 rfl) ?_
  refine lv_iconst (v := 0) hx hb dX4_contact_8 (by decide) ?_
  refine lv_bipush (v := 7) hx hb dX4_contact_9 (by decide) ?_
  refine my_xv (wr := [(h0, .inr (1, [.int wayToOther, .ref h1, .ref h2, .int place, .int speed, .int way, .int topSpeed, .int gain, .int brake, .int darkSpeed, .int rideSpeed, .int kilos, .int mostKilos, .int openContacts, .int fireFloor, .int ride, .int starts, .int distance, .int hardFalls])), (k0, .inr (4, [.ref h4, .ref h0, up, .int powered, .int stepsDone]))]) [] [0, 1] [1, 0] (vx_runS (As := [.int p1, .int 0, .int 7]) (rest := []) ⟨hx, hb, hml, hown, hts⟩ (c_refuseOutside l hl9 D aI aL aZ _ p1 0 7) (va_cwS 3 hts (gS w_115 w_116 w_35 w_117) rfl rfl rfl (by decide +kernel) ⟨Nat.le_of_ble_eq_true rfl, Nat.le_of_ble_eq_true rfl⟩) (pre_of hK hP hD hS hA hE [] rfl (by decide) _) rfl rfl hl.1 rfl (lv_room (Nat.le_of_ble_eq_true rfl)) dX4_contact_11 ⟨Nat.le_of_ble_eq_true rfl, Nat.le_of_ble_eq_true rfl⟩) hP hD hS hA rfl rfl (by decide) (by decide) hQ (fun _ h9 => ⟨hG.trans (cx_l h9.1), h9.2⟩) hout hlk rfl (by decide) (Nat.le_of_ble_eq_true rfl) (Nat.le_of_ble_eq_true rfl) (fun u_ H locs hw_2 hP hD hS => ?_)
  have hw_2 : F_refuseOutside p1 0 7 = .inr () := hw_2
  have hG := hG.trans (cx_r hw_2)
  have hP : va_P D vwCl [(h0, .inr (1, [.int wayToOther, .ref h1, .ref h2, .int place, .int speed, .int way, .int topSpeed, .int gain, .int brake, .int darkSpeed, .int rideSpeed, .int kilos, .int mostKilos, .int openContacts, .int fireFloor, .int ride, .int starts, .int distance, .int hardFalls])), (k0, .inr (4, [.ref h4, .ref h0, up, .int powered, .int stepsDone]))] H := hP
  have hD : va_D A [(h0, .inr (1, [.int wayToOther, .ref h1, .ref h2, .int place, .int speed, .int way, .int topSpeed, .int gain, .int brake, .int darkSpeed, .int rideSpeed, .int kilos, .int mostKilos, .int openContacts, .int fireFloor, .int ride, .int starts, .int distance, .int hardFalls])), (k0, .inr (4, [.ref h4, .ref h0, up, .int powered, .int stepsDone]))] := hD
  refine lv_iconst (v := 1) hx hb dX4_contact_14 (by decide) ?_
  refine lv_iload_n hx hb dX4_contact_15 rfl (lv_at hl 3 rfl) ?_
  refine lv_ishl hx hb dX4_contact_16 ?_
  refine lv_istore (lv' := [(5, .int ((1 : Int32) <<< (p1 &&& 31))), (4, .ref h0), (0, .ref k0), (1, .int 0), (2, .int p1), (3, .int p2)]) hx hb dX4_contact_17 hl (by decide) rfl (fun ls hl => ?_)
  refine lv_aload hx hb dX4_contact_19 (lv_at hl 1 rfl) ?_
  refine va_getN (D := D) (ci := 1) (v := .int openContacts) (C := RX1) (T := TX1) (N := 19) hx hb hts inX1 hown hK hP 0 rfl rfl 13 (by decide) (nwF hE 24 rfl) (fun _ h9 => h9) rfl dX4_contact_21 ?_
  refine lv_iload hx hb dX4_contact_24 (lv_at hl 0 rfl) ?_
  refine lv_iand hx hb dX4_contact_26 ?_
  refine lv_if_eq (tgt := 34) hx hb dX4_contact_27 (by decide) (fun c_3 => ?_) (fun c_3 => ?_)
  · have hG := hG.trans (if_pos c_3)
    refine lv_iconst (v := 0) hx hb dX4_contact_34 (by decide) ?_
    refine lv_istore (lv' := [(6, .int 0), (5, .int ((1 : Int32) <<< (p1 &&& 31))), (4, .ref h0), (0, .ref k0), (1, .int 0), (2, .int p1), (3, .int p2)]) hx hb dX4_contact_35 hl (by decide) rfl (fun ls hl => ?_)
    refine lv_aload hx hb dX4_contact_37 (lv_at hl 2 rfl) ?_
    refine lv_iload_n hx hb dX4_contact_39 rfl (lv_at hl 6 rfl) ?_
    refine lv_if_eq (tgt := 54) hx hb dX4_contact_40 (by decide) (fun c_4 => ?_) (fun c_4 => ?_)
    · have hG := hG.trans (if_pos c_4)
      refine lv_aload hx hb dX4_contact_54 (lv_at hl 2 rfl) ?_
      refine va_getN (D := D) (ci := 1) (v := .int openContacts) (C := RX1) (T := TX1) (N := 19) hx hb hts inX1 hown hK hP 0 rfl rfl 13 (by decide) (nwF hE 24 rfl) (fun _ h9 => h9) rfl dX4_contact_56 ?_
      refine lv_iload hx hb dX4_contact_59 (lv_at hl 1 rfl) ?_
      refine lv_iconst (v := (-1)) hx hb dX4_contact_61 (by decide) ?_
      refine lv_ixor hx hb dX4_contact_62 ?_
      refine lv_iand hx hb dX4_contact_63 ?_
      refine va_putN (D := D) (ci := 1) (v := .int (openContacts &&& (((1 : Int32) <<< (p1 &&& 31)) ^^^ (-1)))) (ty := .int) (C := RX1) (T := TX1) (N := 19) hx hb hts inX1 tyX1 tyX1_ok nmX1 hown hK hP hD hS 0 rfl rfl 13 (by decide) (nwF hE 24 rfl) (fun _ h9 => h9) rfl (by decide +kernel) rfl rfl (Nat.le_of_ble_eq_true rfl) dX4_contact_64 (fun H locs hP hD hS => ?_)
      have hP : va_P D vwCl [(h0, .inr (1, [.int wayToOther, .ref h1, .ref h2, .int place, .int speed, .int way, .int topSpeed, .int gain, .int brake, .int darkSpeed, .int rideSpeed, .int kilos, .int mostKilos, .int (openContacts &&& (((1 : Int32) <<< (p1 &&& 31)) ^^^ (-1))), .int fireFloor, .int ride, .int starts, .int distance, .int hardFalls])), (k0, .inr (4, [.ref h4, .ref h0, up, .int powered, .int stepsDone]))] H := hP
      have hD : va_D A [(h0, .inr (1, [.int wayToOther, .ref h1, .ref h2, .int place, .int speed, .int way, .int topSpeed, .int gain, .int brake, .int darkSpeed, .int rideSpeed, .int kilos, .int mostKilos, .int (openContacts &&& (((1 : Int32) <<< (p1 &&& 31)) ^^^ (-1))), .int fireFloor, .int ride, .int starts, .int distance, .int hardFalls])), (k0, .inr (4, [.ref h4, .ref h0, up, .int powered, .int stepsDone]))] := hD
      refine lv_iload hx hb dX4_contact_67 (lv_at hl 0 rfl) ?_
      have hP := hP.sub (ws' := [(k0, .inr (4, [.ref h4, .ref h0, up, .int powered, .int stepsDone])), (h0, .inr (1, [.int wayToOther, .ref h1, .ref h2, .int place, .int speed, .int way, .int topSpeed, .int gain, .int brake, .int darkSpeed, .int rideSpeed, .int kilos, .int mostKilos, .int (openContacts &&& (((1 : Int32) <<< (p1 &&& 31)) ^^^ (-1))), .int fireFloor, .int ride, .int starts, .int distance, .int hardFalls]))]) [1, 0] rfl
      have hD := hD.sub (ws' := [(k0, .inr (4, [.ref h4, .ref h0, up, .int powered, .int stepsDone])), (h0, .inr (1, [.int wayToOther, .ref h1, .ref h2, .int place, .int speed, .int way, .int topSpeed, .int gain, .int brake, .int darkSpeed, .int rideSpeed, .int kilos, .int mostKilos, .int (openContacts &&& (((1 : Int32) <<< (p1 &&& 31)) ^^^ (-1))), .int fireFloor, .int ride, .int starts, .int distance, .int hardFalls]))]) [1, 0] (by decide) rfl
      exact rtx_z hQ hx hb hr (nb_n (Or.inl rfl)) (openContacts &&& (((1 : Int32) <<< (p1 &&& 31)) ^^^ (-1))) ⟨hG, (Or.inl rfl)⟩ hP hD hS (Nat.le_of_ble_eq_true rfl) (Nat.le_of_ble_eq_true rfl) dX4_contact_69 hlk
    · have hG := hG.trans (if_neg c_4)
      refine lv_aload hx hb dX4_contact_43 (lv_at hl 2 rfl) ?_
      refine va_getN (D := D) (ci := 1) (v := .int openContacts) (C := RX1) (T := TX1) (N := 19) hx hb hts inX1 hown hK hP 0 rfl rfl 13 (by decide) (nwF hE 24 rfl) (fun _ h9 => h9) rfl dX4_contact_45 ?_
      refine lv_iload hx hb dX4_contact_48 (lv_at hl 1 rfl) ?_
      refine lv_ior hx hb dX4_contact_50 ?_
      refine lv_goto (tgt := 64) hx hb dX4_contact_51 (by decide) ?_
      refine va_putN (D := D) (ci := 1) (v := .int (openContacts ||| ((1 : Int32) <<< (p1 &&& 31)))) (ty := .int) (C := RX1) (T := TX1) (N := 19) hx hb hts inX1 tyX1 tyX1_ok nmX1 hown hK hP hD hS 0 rfl rfl 13 (by decide) (nwF hE 24 rfl) (fun _ h9 => h9) rfl (by decide +kernel) rfl rfl (Nat.le_of_ble_eq_true rfl) dX4_contact_64 (fun H locs hP hD hS => ?_)
      have hP : va_P D vwCl [(h0, .inr (1, [.int wayToOther, .ref h1, .ref h2, .int place, .int speed, .int way, .int topSpeed, .int gain, .int brake, .int darkSpeed, .int rideSpeed, .int kilos, .int mostKilos, .int (openContacts ||| ((1 : Int32) <<< (p1 &&& 31))), .int fireFloor, .int ride, .int starts, .int distance, .int hardFalls])), (k0, .inr (4, [.ref h4, .ref h0, up, .int powered, .int stepsDone]))] H := hP
      have hD : va_D A [(h0, .inr (1, [.int wayToOther, .ref h1, .ref h2, .int place, .int speed, .int way, .int topSpeed, .int gain, .int brake, .int darkSpeed, .int rideSpeed, .int kilos, .int mostKilos, .int (openContacts ||| ((1 : Int32) <<< (p1 &&& 31))), .int fireFloor, .int ride, .int starts, .int distance, .int hardFalls])), (k0, .inr (4, [.ref h4, .ref h0, up, .int powered, .int stepsDone]))] := hD
      refine lv_iload hx hb dX4_contact_67 (lv_at hl 0 rfl) ?_
      have hP := hP.sub (ws' := [(k0, .inr (4, [.ref h4, .ref h0, up, .int powered, .int stepsDone])), (h0, .inr (1, [.int wayToOther, .ref h1, .ref h2, .int place, .int speed, .int way, .int topSpeed, .int gain, .int brake, .int darkSpeed, .int rideSpeed, .int kilos, .int mostKilos, .int (openContacts ||| ((1 : Int32) <<< (p1 &&& 31))), .int fireFloor, .int ride, .int starts, .int distance, .int hardFalls]))]) [1, 0] rfl
      have hD := hD.sub (ws' := [(k0, .inr (4, [.ref h4, .ref h0, up, .int powered, .int stepsDone])), (h0, .inr (1, [.int wayToOther, .ref h1, .ref h2, .int place, .int speed, .int way, .int topSpeed, .int gain, .int brake, .int darkSpeed, .int rideSpeed, .int kilos, .int mostKilos, .int (openContacts ||| ((1 : Int32) <<< (p1 &&& 31))), .int fireFloor, .int ride, .int starts, .int distance, .int hardFalls]))]) [1, 0] (by decide) rfl
      exact rtx_z hQ hx hb hr (nb_n (Or.inl rfl)) (openContacts ||| ((1 : Int32) <<< (p1 &&& 31))) ⟨hG, (Or.inl rfl)⟩ hP hD hS (Nat.le_of_ble_eq_true rfl) (Nat.le_of_ble_eq_true rfl) dX4_contact_69 hlk
  · have hG := hG.trans (if_neg c_3)
    refine lv_iconst (v := 1) hx hb dX4_contact_30 (by decide) ?_
    refine lv_goto (tgt := 35) hx hb dX4_contact_31 (by decide) ?_
    refine lv_istore (lv' := [(6, .int 1), (5, .int ((1 : Int32) <<< (p1 &&& 31))), (4, .ref h0), (0, .ref k0), (1, .int 0), (2, .int p1), (3, .int p2)]) hx hb dX4_contact_35 hl (by decide) rfl (fun ls hl => ?_)
    refine lv_aload hx hb dX4_contact_37 (lv_at hl 2 rfl) ?_
    refine lv_iload_n hx hb dX4_contact_39 rfl (lv_at hl 6 rfl) ?_
    refine lv_if_eq (tgt := 54) hx hb dX4_contact_40 (by decide) (fun c_5 => ?_) (fun c_5 => ?_)
    · have hG := hG.trans (if_pos c_5)
      refine lv_aload hx hb dX4_contact_54 (lv_at hl 2 rfl) ?_
      refine va_getN (D := D) (ci := 1) (v := .int openContacts) (C := RX1) (T := TX1) (N := 19) hx hb hts inX1 hown hK hP 0 rfl rfl 13 (by decide) (nwF hE 24 rfl) (fun _ h9 => h9) rfl dX4_contact_56 ?_
      refine lv_iload hx hb dX4_contact_59 (lv_at hl 1 rfl) ?_
      refine lv_iconst (v := (-1)) hx hb dX4_contact_61 (by decide) ?_
      refine lv_ixor hx hb dX4_contact_62 ?_
      refine lv_iand hx hb dX4_contact_63 ?_
      refine va_putN (D := D) (ci := 1) (v := .int (openContacts &&& (((1 : Int32) <<< (p1 &&& 31)) ^^^ (-1)))) (ty := .int) (C := RX1) (T := TX1) (N := 19) hx hb hts inX1 tyX1 tyX1_ok nmX1 hown hK hP hD hS 0 rfl rfl 13 (by decide) (nwF hE 24 rfl) (fun _ h9 => h9) rfl (by decide +kernel) rfl rfl (Nat.le_of_ble_eq_true rfl) dX4_contact_64 (fun H locs hP hD hS => ?_)
      have hP : va_P D vwCl [(h0, .inr (1, [.int wayToOther, .ref h1, .ref h2, .int place, .int speed, .int way, .int topSpeed, .int gain, .int brake, .int darkSpeed, .int rideSpeed, .int kilos, .int mostKilos, .int (openContacts &&& (((1 : Int32) <<< (p1 &&& 31)) ^^^ (-1))), .int fireFloor, .int ride, .int starts, .int distance, .int hardFalls])), (k0, .inr (4, [.ref h4, .ref h0, up, .int powered, .int stepsDone]))] H := hP
      have hD : va_D A [(h0, .inr (1, [.int wayToOther, .ref h1, .ref h2, .int place, .int speed, .int way, .int topSpeed, .int gain, .int brake, .int darkSpeed, .int rideSpeed, .int kilos, .int mostKilos, .int (openContacts &&& (((1 : Int32) <<< (p1 &&& 31)) ^^^ (-1))), .int fireFloor, .int ride, .int starts, .int distance, .int hardFalls])), (k0, .inr (4, [.ref h4, .ref h0, up, .int powered, .int stepsDone]))] := hD
      refine lv_iload hx hb dX4_contact_67 (lv_at hl 0 rfl) ?_
      have hP := hP.sub (ws' := [(k0, .inr (4, [.ref h4, .ref h0, up, .int powered, .int stepsDone])), (h0, .inr (1, [.int wayToOther, .ref h1, .ref h2, .int place, .int speed, .int way, .int topSpeed, .int gain, .int brake, .int darkSpeed, .int rideSpeed, .int kilos, .int mostKilos, .int (openContacts &&& (((1 : Int32) <<< (p1 &&& 31)) ^^^ (-1))), .int fireFloor, .int ride, .int starts, .int distance, .int hardFalls]))]) [1, 0] rfl
      have hD := hD.sub (ws' := [(k0, .inr (4, [.ref h4, .ref h0, up, .int powered, .int stepsDone])), (h0, .inr (1, [.int wayToOther, .ref h1, .ref h2, .int place, .int speed, .int way, .int topSpeed, .int gain, .int brake, .int darkSpeed, .int rideSpeed, .int kilos, .int mostKilos, .int (openContacts &&& (((1 : Int32) <<< (p1 &&& 31)) ^^^ (-1))), .int fireFloor, .int ride, .int starts, .int distance, .int hardFalls]))]) [1, 0] (by decide) rfl
      exact rtx_z hQ hx hb hr (nb_n (Or.inr rfl)) (openContacts &&& (((1 : Int32) <<< (p1 &&& 31)) ^^^ (-1))) ⟨hG, (Or.inr rfl)⟩ hP hD hS (Nat.le_of_ble_eq_true rfl) (Nat.le_of_ble_eq_true rfl) dX4_contact_69 hlk
    · have hG := hG.trans (if_neg c_5)
      refine lv_aload hx hb dX4_contact_43 (lv_at hl 2 rfl) ?_
      refine va_getN (D := D) (ci := 1) (v := .int openContacts) (C := RX1) (T := TX1) (N := 19) hx hb hts inX1 hown hK hP 0 rfl rfl 13 (by decide) (nwF hE 24 rfl) (fun _ h9 => h9) rfl dX4_contact_45 ?_
      refine lv_iload hx hb dX4_contact_48 (lv_at hl 1 rfl) ?_
      refine lv_ior hx hb dX4_contact_50 ?_
      refine lv_goto (tgt := 64) hx hb dX4_contact_51 (by decide) ?_
      refine va_putN (D := D) (ci := 1) (v := .int (openContacts ||| ((1 : Int32) <<< (p1 &&& 31)))) (ty := .int) (C := RX1) (T := TX1) (N := 19) hx hb hts inX1 tyX1 tyX1_ok nmX1 hown hK hP hD hS 0 rfl rfl 13 (by decide) (nwF hE 24 rfl) (fun _ h9 => h9) rfl (by decide +kernel) rfl rfl (Nat.le_of_ble_eq_true rfl) dX4_contact_64 (fun H locs hP hD hS => ?_)
      have hP : va_P D vwCl [(h0, .inr (1, [.int wayToOther, .ref h1, .ref h2, .int place, .int speed, .int way, .int topSpeed, .int gain, .int brake, .int darkSpeed, .int rideSpeed, .int kilos, .int mostKilos, .int (openContacts ||| ((1 : Int32) <<< (p1 &&& 31))), .int fireFloor, .int ride, .int starts, .int distance, .int hardFalls])), (k0, .inr (4, [.ref h4, .ref h0, up, .int powered, .int stepsDone]))] H := hP
      have hD : va_D A [(h0, .inr (1, [.int wayToOther, .ref h1, .ref h2, .int place, .int speed, .int way, .int topSpeed, .int gain, .int brake, .int darkSpeed, .int rideSpeed, .int kilos, .int mostKilos, .int (openContacts ||| ((1 : Int32) <<< (p1 &&& 31))), .int fireFloor, .int ride, .int starts, .int distance, .int hardFalls])), (k0, .inr (4, [.ref h4, .ref h0, up, .int powered, .int stepsDone]))] := hD
      refine lv_iload hx hb dX4_contact_67 (lv_at hl 0 rfl) ?_
      have hP := hP.sub (ws' := [(k0, .inr (4, [.ref h4, .ref h0, up, .int powered, .int stepsDone])), (h0, .inr (1, [.int wayToOther, .ref h1, .ref h2, .int place, .int speed, .int way, .int topSpeed, .int gain, .int brake, .int darkSpeed, .int rideSpeed, .int kilos, .int mostKilos, .int (openContacts ||| ((1 : Int32) <<< (p1 &&& 31))), .int fireFloor, .int ride, .int starts, .int distance, .int hardFalls]))]) [1, 0] rfl
      have hD := hD.sub (ws' := [(k0, .inr (4, [.ref h4, .ref h0, up, .int powered, .int stepsDone])), (h0, .inr (1, [.int wayToOther, .ref h1, .ref h2, .int place, .int speed, .int way, .int topSpeed, .int gain, .int brake, .int darkSpeed, .int rideSpeed, .int kilos, .int mostKilos, .int (openContacts ||| ((1 : Int32) <<< (p1 &&& 31))), .int fireFloor, .int ride, .int starts, .int distance, .int hardFalls]))]) [1, 0] (by decide) rfl
      exact rtx_z hQ hx hb hr (nb_n (Or.inr rfl)) (openContacts ||| ((1 : Int32) <<< (p1 &&& 31))) ⟨hG, (Or.inr rfl)⟩ hP hD hS (Nat.le_of_ble_eq_true rfl) (Nat.le_of_ble_eq_true rfl) dX4_contact_69 hlk
def F_contact_1 (openContacts : Int32) (p1 : Int32) (p2 : Int32) : Int32 ⊕ (Int32 × Int32) :=
  cx F_carOf_1 fun _ =>
    cx (F_refuseOutside p1 0 7) fun _ =>
      if (openContacts &&& ((1 : Int32) <<< (p1 &&& 31))) = 0 then
        if p2 = 0 then
          .inr (0, (openContacts &&& (((1 : Int32) <<< (p1 &&& 31)) ^^^ (-1))))
        else
          .inr (0, (openContacts ||| ((1 : Int32) <<< (p1 &&& 31))))
      else
        if p2 = 0 then
          .inr (1, (openContacts &&& (((1 : Int32) <<< (p1 &&& 31)) ^^^ (-1))))
        else
          .inr (1, (openContacts ||| ((1 : Int32) <<< (p1 &&& 31))))
theorem F_contact_1_u (openContacts : Int32) (p1 : Int32) (p2 : Int32) : F_contact_1 openContacts p1 p2 =
  (cx F_carOf_1 fun _ =>
    cx (F_refuseOutside p1 0 7) fun _ =>
      if (openContacts &&& ((1 : Int32) <<< (p1 &&& 31))) = 0 then
        if p2 = 0 then
          .inr (0, (openContacts &&& (((1 : Int32) <<< (p1 &&& 31)) ^^^ (-1))))
        else
          .inr (0, (openContacts ||| ((1 : Int32) <<< (p1 &&& 31))))
      else
        if p2 = 0 then
          .inr (1, (openContacts &&& (((1 : Int32) <<< (p1 &&& 31)) ^^^ (-1))))
        else
          .inr (1, (openContacts ||| ((1 : Int32) <<< (p1 &&& 31))))) := rfl
set_option maxHeartbeats 4000000 in
set_option maxRecDepth 100000 in
theorem c_contact_1 (l : Launch) (hl9 : l.stackTraces = false) (D : va_G) (aI aL aZ : ClassId) (sz : Nat) (k0 : Nat) (h4 : Nat) (powered : Int32) (stepsDone : Int32) (lo : Value) (h0 : Nat) (h1 : Nat) (h2 : Nat) (wayToOther : Int32) (place : Int32) (speed : Int32) (way : Int32) (topSpeed : Int32) (gain : Int32) (brake : Int32) (darkSpeed : Int32) (rideSpeed : Int32) (kilos : Int32) (mostKilos : Int32) (openContacts : Int32) (fireFloor : Int32) (ride : Int32) (starts : Int32) (distance : Int32) (hardFalls : Int32) (p1 : Int32) (p2 : Int32) : vx_Met l yX4_contact (.code yX4_contact cX4_contact 7 (some .boolean) :: Gw) ({ frames := 7, cells := 1, slots := 6, locals := 114 }) (va_Pc [.ref k0, .int 1, .int p1, .int p2] (mpre D [(aI, .int), (aL, .long), (aZ, .boolean)] [(k0, .inr (4, [.ref h4, lo, .ref h0, .int powered, .int stepsDone])), (h0, .inr (1, [.int wayToOther, .ref h1, .ref h2, .int place, .int speed, .int way, .int topSpeed, .int gain, .int brake, .int darkSpeed, .int rideSpeed, .int kilos, .int mostKilos, .int openContacts, .int fireFloor, .int ride, .int starts, .int distance, .int hardFalls]))] sz)) ((fun A : Nat → Prop => va_Qi (fun (r : Int32) (u : Int32) => F_contact_1 openContacts p1 p2 = .inr (r, u) ∧ nb r) (mpst D A (fun (u : Int32) => [(k0, .inr (4, [.ref h4, lo, .ref h0, .int powered, .int stepsDone])), (h0, .inr (1, [.int wayToOther, .ref h1, .ref h2, .int place, .int speed, .int way, .int topSpeed, .int gain, .int brake, .int darkSpeed, .int rideSpeed, .int kilos, .int mostKilos, .int u, .int fireFloor, .int ride, .int starts, .int distance, .int hardFalls]))])) A) (va_A ([(k0, .inr (4, [.ref h4, lo, .ref h0, .int powered, .int stepsDone])), (h0, .inr (1, [.int wayToOther, .ref h1, .ref h2, .int place, .int speed, .int way, .int topSpeed, .int gain, .int brake, .int darkSpeed, .int rideSpeed, .int kilos, .int mostKilos, .int openContacts, .int fireFloor, .int ride, .int starts, .int distance, .int hardFalls]))]) sz)) ((fun A : Nat → Prop => vx_X (fun u : Int32 => F_contact_1 openContacts p1 p2 = .inl u ∧ (u = 1)) (mpsx D A [(k0, .inr (4, [.ref h4, lo, .ref h0, .int powered, .int stepsDone])), (h0, .inr (1, [.int wayToOther, .ref h1, .ref h2, .int place, .int speed, .int way, .int topSpeed, .int gain, .int brake, .int darkSpeed, .int rideSpeed, .int kilos, .int mostKilos, .int openContacts, .int fireFloor, .int ride, .int starts, .int distance, .int hardFalls]))]) A) (va_A ([(k0, .inr (4, [.ref h4, lo, .ref h0, .int powered, .int stepsDone])), (h0, .inr (1, [.int wayToOther, .ref h1, .ref h2, .int place, .int speed, .int way, .int topSpeed, .int gain, .int brake, .int darkSpeed, .int rideSpeed, .int kilos, .int mostKilos, .int openContacts, .int fireFloor, .int ride, .int starts, .int distance, .int hardFalls]))]) sz)) 1 6 (va_A ([(k0, .inr (4, [.ref h4, lo, .ref h0, .int powered, .int stepsDone])), (h0, .inr (1, [.int wayToOther, .ref h1, .ref h2, .int place, .int speed, .int way, .int topSpeed, .int gain, .int brake, .int darkSpeed, .int rideSpeed, .int kilos, .int mostKilos, .int openContacts, .int fireFloor, .int ride, .int starts, .int distance, .int hardFalls]))]) sz) := by
  refine enx (cc := cX4_contact) (maxL := 7) (ret := (some .boolean)) (Qc := (fun A : Nat → Prop => va_Qi (fun (r : Int32) (u : Int32) => F_contact_1 openContacts p1 p2 = .inr (r, u) ∧ nb r) (mpst D A (fun (u : Int32) => [(k0, .inr (4, [.ref h4, lo, .ref h0, .int powered, .int stepsDone])), (h0, .inr (1, [.int wayToOther, .ref h1, .ref h2, .int place, .int speed, .int way, .int topSpeed, .int gain, .int brake, .int darkSpeed, .int rideSpeed, .int kilos, .int mostKilos, .int u, .int fireFloor, .int ride, .int starts, .int distance, .int hardFalls]))])) A)) (XC := (fun A : Nat → Prop => vx_X (fun u : Int32 => F_contact_1 openContacts p1 p2 = .inl u ∧ (u = 1)) (mpsx D A [(k0, .inr (4, [.ref h4, lo, .ref h0, .int powered, .int stepsDone])), (h0, .inr (1, [.int wayToOther, .ref h1, .ref h2, .int place, .int speed, .int way, .int topSpeed, .int gain, .int brake, .int darkSpeed, .int rideSpeed, .int kilos, .int mostKilos, .int openContacts, .int fireFloor, .int ride, .int starts, .int distance, .int hardFalls]))]) A)) (by decide) rfl (Nat.le_of_ble_eq_true rfl) ?_
  intro p e s m args below meth c A ls Q hQ hx hb hr hts hown hlk hnm hml hout hA hS hP hK hD hE hl
  have hown : s.vm.findClass RX4 = some m.cls := hown
  have hl : lv_has ls 7 [(0, .ref k0), (1, .int 1), (2, .int p1), (3, .int p2)] := hl
  have hG := F_contact_1_u openContacts p1 p2
  refine lv_aload_n hx hb dX4_contact_0 rfl (lv_at hl 0 rfl) ?_
  refine lv_iload_n hx hb dX4_contact_1 rfl (lv_at hl 1 rfl) ?_
  refine my_xr (wr := [(h0, .inr (1, [.int wayToOther, .ref h1, .ref h2, .int place, .int speed, .int way, .int topSpeed, .int gain, .int brake, .int darkSpeed, .int rideSpeed, .int kilos, .int mostKilos, .int openContacts, .int fireFloor, .int ride, .int starts, .int distance, .int hardFalls]))]) [0] [1] [1, 0] (vx_runV (As := [.int 1]) (rest := []) ⟨hx, hb, hml, hown, hts⟩ (c_carOf_1 l hl9 D aI aL aZ _ k0 h4 powered stepsDone h0 lo) (cwV 1 hts (gV w_393 w_395 w_2 w_35 w_396) rfl rfl rfl (by decide +kernel) ⟨Nat.le_of_ble_eq_true rfl, Nat.le_of_ble_eq_true rfl⟩) (prev_of hK hP hD hS hA hE [0] rfl (by decide) (ci := 4) rfl 0 rfl _) rfl rfl hl.1 rfl (lv_room (Nat.le_of_ble_eq_true rfl)) dX4_contact_2 ⟨Nat.le_of_ble_eq_true rfl, Nat.le_of_ble_eq_true rfl⟩) hP hD hS hA rfl rfl (by decide) (by decide) hQ (fun _ h9 => ⟨hG.trans (cx_l h9.1), (False.elim h9.2)⟩) hout hlk rfl (by decide) (Nat.le_of_ble_eq_true rfl) (Nat.le_of_ble_eq_true rfl) (fun u_ H locs hw_1 hP hD hS => ?_)
  have hw_1 : F_carOf_1 = .inr () := hw_1
  have hG := hG.trans (cx_r hw_1)
  have hP : va_P D vwCl [(h0, .inr (1, [.int wayToOther, .ref h1, .ref h2, .int place, .int speed, .int way, .int topSpeed, .int gain, .int brake, .int darkSpeed, .int rideSpeed, .int kilos, .int mostKilos, .int openContacts, .int fireFloor, .int ride, .int starts, .int distance, .int hardFalls])), (k0, .inr (4, [.ref h4, lo, .ref h0, .int powered, .int stepsDone]))] H := hP
  have hD : va_D A [(h0, .inr (1, [.int wayToOther, .ref h1, .ref h2, .int place, .int speed, .int way, .int topSpeed, .int gain, .int brake, .int darkSpeed, .int rideSpeed, .int kilos, .int mostKilos, .int openContacts, .int fireFloor, .int ride, .int starts, .int distance, .int hardFalls])), (k0, .inr (4, [.ref h4, lo, .ref h0, .int powered, .int stepsDone]))] := hD
  refine lv_astore (lv' := [(4, .ref h0), (0, .ref k0), (1, .int 1), (2, .int p1), (3, .int p2)]) hx hb dX4_contact_5 hl (by decide) rfl (fun ls hl => ?_)
  refine lv_iload_n hx hb dX4_contact_7 rfl (lv_at hl 3 rfl) ?_
  refine lv_iconst (v := 0) hx hb dX4_contact_8 (by decide) ?_
  refine lv_bipush (v := 7) hx hb dX4_contact_9 (by decide) ?_
  refine my_xv (wr := [(h0, .inr (1, [.int wayToOther, .ref h1, .ref h2, .int place, .int speed, .int way, .int topSpeed, .int gain, .int brake, .int darkSpeed, .int rideSpeed, .int kilos, .int mostKilos, .int openContacts, .int fireFloor, .int ride, .int starts, .int distance, .int hardFalls])), (k0, .inr (4, [.ref h4, lo, .ref h0, .int powered, .int stepsDone]))]) [] [0, 1] [1, 0] (vx_runS (As := [.int p1, .int 0, .int 7]) (rest := []) ⟨hx, hb, hml, hown, hts⟩ (c_refuseOutside l hl9 D aI aL aZ _ p1 0 7) (va_cwS 3 hts (gS w_115 w_116 w_35 w_117) rfl rfl rfl (by decide +kernel) ⟨Nat.le_of_ble_eq_true rfl, Nat.le_of_ble_eq_true rfl⟩) (pre_of hK hP hD hS hA hE [] rfl (by decide) _) rfl rfl hl.1 rfl (lv_room (Nat.le_of_ble_eq_true rfl)) dX4_contact_11 ⟨Nat.le_of_ble_eq_true rfl, Nat.le_of_ble_eq_true rfl⟩) hP hD hS hA rfl rfl (by decide) (by decide) hQ (fun _ h9 => ⟨hG.trans (cx_l h9.1), h9.2⟩) hout hlk rfl (by decide) (Nat.le_of_ble_eq_true rfl) (Nat.le_of_ble_eq_true rfl) (fun u_ H locs hw_2 hP hD hS => ?_)
  have hw_2 : F_refuseOutside p1 0 7 = .inr () := hw_2
  have hG := hG.trans (cx_r hw_2)
  have hP : va_P D vwCl [(h0, .inr (1, [.int wayToOther, .ref h1, .ref h2, .int place, .int speed, .int way, .int topSpeed, .int gain, .int brake, .int darkSpeed, .int rideSpeed, .int kilos, .int mostKilos, .int openContacts, .int fireFloor, .int ride, .int starts, .int distance, .int hardFalls])), (k0, .inr (4, [.ref h4, lo, .ref h0, .int powered, .int stepsDone]))] H := hP
  have hD : va_D A [(h0, .inr (1, [.int wayToOther, .ref h1, .ref h2, .int place, .int speed, .int way, .int topSpeed, .int gain, .int brake, .int darkSpeed, .int rideSpeed, .int kilos, .int mostKilos, .int openContacts, .int fireFloor, .int ride, .int starts, .int distance, .int hardFalls])), (k0, .inr (4, [.ref h4, lo, .ref h0, .int powered, .int stepsDone]))] := hD
  refine lv_iconst (v := 1) hx hb dX4_contact_14 (by decide) ?_
  refine lv_iload_n hx hb dX4_contact_15 rfl (lv_at hl 3 rfl) ?_
  refine lv_ishl hx hb dX4_contact_16 ?_
  refine lv_istore (lv' := [(5, .int ((1 : Int32) <<< (p1 &&& 31))), (4, .ref h0), (0, .ref k0), (1, .int 1), (2, .int p1), (3, .int p2)]) hx hb dX4_contact_17 hl (by decide) rfl (fun ls hl => ?_)
  refine lv_aload hx hb dX4_contact_19 (lv_at hl 1 rfl) ?_
  refine va_getN (D := D) (ci := 1) (v := .int openContacts) (C := RX1) (T := TX1) (N := 19) hx hb hts inX1 hown hK hP 0 rfl rfl 13 (by decide) (nwF hE 24 rfl) (fun _ h9 => h9) rfl dX4_contact_21 ?_
  refine lv_iload hx hb dX4_contact_24 (lv_at hl 0 rfl) ?_
  refine lv_iand hx hb dX4_contact_26 ?_
  refine lv_if_eq (tgt := 34) hx hb dX4_contact_27 (by decide) (fun c_3 => ?_) (fun c_3 => ?_)
  · have hG := hG.trans (if_pos c_3)
    refine lv_iconst (v := 0) hx hb dX4_contact_34 (by decide) ?_
    refine lv_istore (lv' := [(6, .int 0), (5, .int ((1 : Int32) <<< (p1 &&& 31))), (4, .ref h0), (0, .ref k0), (1, .int 1), (2, .int p1), (3, .int p2)]) hx hb dX4_contact_35 hl (by decide) rfl (fun ls hl => ?_)
    refine lv_aload hx hb dX4_contact_37 (lv_at hl 2 rfl) ?_
    refine lv_iload_n hx hb dX4_contact_39 rfl (lv_at hl 6 rfl) ?_
    refine lv_if_eq (tgt := 54) hx hb dX4_contact_40 (by decide) (fun c_4 => ?_) (fun c_4 => ?_)
    · have hG := hG.trans (if_pos c_4)
      refine lv_aload hx hb dX4_contact_54 (lv_at hl 2 rfl) ?_
      refine va_getN (D := D) (ci := 1) (v := .int openContacts) (C := RX1) (T := TX1) (N := 19) hx hb hts inX1 hown hK hP 0 rfl rfl 13 (by decide) (nwF hE 24 rfl) (fun _ h9 => h9) rfl dX4_contact_56 ?_
      refine lv_iload hx hb dX4_contact_59 (lv_at hl 1 rfl) ?_
      refine lv_iconst (v := (-1)) hx hb dX4_contact_61 (by decide) ?_
      refine lv_ixor hx hb dX4_contact_62 ?_
      refine lv_iand hx hb dX4_contact_63 ?_
      refine va_putN (D := D) (ci := 1) (v := .int (openContacts &&& (((1 : Int32) <<< (p1 &&& 31)) ^^^ (-1)))) (ty := .int) (C := RX1) (T := TX1) (N := 19) hx hb hts inX1 tyX1 tyX1_ok nmX1 hown hK hP hD hS 0 rfl rfl 13 (by decide) (nwF hE 24 rfl) (fun _ h9 => h9) rfl (by decide +kernel) rfl rfl (Nat.le_of_ble_eq_true rfl) dX4_contact_64 (fun H locs hP hD hS => ?_)
      have hP : va_P D vwCl [(h0, .inr (1, [.int wayToOther, .ref h1, .ref h2, .int place, .int speed, .int way, .int topSpeed, .int gain, .int brake, .int darkSpeed, .int rideSpeed, .int kilos, .int mostKilos, .int (openContacts &&& (((1 : Int32) <<< (p1 &&& 31)) ^^^ (-1))), .int fireFloor, .int ride, .int starts, .int distance, .int hardFalls])), (k0, .inr (4, [.ref h4, lo, .ref h0, .int powered, .int stepsDone]))] H := hP
      have hD : va_D A [(h0, .inr (1, [.int wayToOther, .ref h1, .ref h2, .int place, .int speed, .int way, .int topSpeed, .int gain, .int brake, .int darkSpeed, .int rideSpeed, .int kilos, .int mostKilos, .int (openContacts &&& (((1 : Int32) <<< (p1 &&& 31)) ^^^ (-1))), .int fireFloor, .int ride, .int starts, .int distance, .int hardFalls])), (k0, .inr (4, [.ref h4, lo, .ref h0, .int powered, .int stepsDone]))] := hD
      refine lv_iload hx hb dX4_contact_67 (lv_at hl 0 rfl) ?_
      have hP := hP.sub (ws' := [(k0, .inr (4, [.ref h4, lo, .ref h0, .int powered, .int stepsDone])), (h0, .inr (1, [.int wayToOther, .ref h1, .ref h2, .int place, .int speed, .int way, .int topSpeed, .int gain, .int brake, .int darkSpeed, .int rideSpeed, .int kilos, .int mostKilos, .int (openContacts &&& (((1 : Int32) <<< (p1 &&& 31)) ^^^ (-1))), .int fireFloor, .int ride, .int starts, .int distance, .int hardFalls]))]) [1, 0] rfl
      have hD := hD.sub (ws' := [(k0, .inr (4, [.ref h4, lo, .ref h0, .int powered, .int stepsDone])), (h0, .inr (1, [.int wayToOther, .ref h1, .ref h2, .int place, .int speed, .int way, .int topSpeed, .int gain, .int brake, .int darkSpeed, .int rideSpeed, .int kilos, .int mostKilos, .int (openContacts &&& (((1 : Int32) <<< (p1 &&& 31)) ^^^ (-1))), .int fireFloor, .int ride, .int starts, .int distance, .int hardFalls]))]) [1, 0] (by decide) rfl
      exact rtx_z hQ hx hb hr (nb_n (Or.inl rfl)) (openContacts &&& (((1 : Int32) <<< (p1 &&& 31)) ^^^ (-1))) ⟨hG, (Or.inl rfl)⟩ hP hD hS (Nat.le_of_ble_eq_true rfl) (Nat.le_of_ble_eq_true rfl) dX4_contact_69 hlk
    · have hG := hG.trans (if_neg c_4)
      refine lv_aload hx hb dX4_contact_43 (lv_at hl 2 rfl) ?_
      refine va_getN (D := D) (ci := 1) (v := .int openContacts) (C := RX1) (T := TX1) (N := 19) hx hb hts inX1 hown hK hP 0 rfl rfl 13 (by decide) (nwF hE 24 rfl) (fun _ h9 => h9) rfl dX4_contact_45 ?_
      refine lv_iload hx hb dX4_contact_48 (lv_at hl 1 rfl) ?_
      refine lv_ior hx hb dX4_contact_50 ?_
      refine lv_goto (tgt := 64) hx hb dX4_contact_51 (by decide) ?_
      refine va_putN (D := D) (ci := 1) (v := .int (openContacts ||| ((1 : Int32) <<< (p1 &&& 31)))) (ty := .int) (C := RX1) (T := TX1) (N := 19) hx hb hts inX1 tyX1 tyX1_ok nmX1 hown hK hP hD hS 0 rfl rfl 13 (by decide) (nwF hE 24 rfl) (fun _ h9 => h9) rfl (by decide +kernel) rfl rfl (Nat.le_of_ble_eq_true rfl) dX4_contact_64 (fun H locs hP hD hS => ?_)
      have hP : va_P D vwCl [(h0, .inr (1, [.int wayToOther, .ref h1, .ref h2, .int place, .int speed, .int way, .int topSpeed, .int gain, .int brake, .int darkSpeed, .int rideSpeed, .int kilos, .int mostKilos, .int (openContacts ||| ((1 : Int32) <<< (p1 &&& 31))), .int fireFloor, .int ride, .int starts, .int distance, .int hardFalls])), (k0, .inr (4, [.ref h4, lo, .ref h0, .int powered, .int stepsDone]))] H := hP
      have hD : va_D A [(h0, .inr (1, [.int wayToOther, .ref h1, .ref h2, .int place, .int speed, .int way, .int topSpeed, .int gain, .int brake, .int darkSpeed, .int rideSpeed, .int kilos, .int mostKilos, .int (openContacts ||| ((1 : Int32) <<< (p1 &&& 31))), .int fireFloor, .int ride, .int starts, .int distance, .int hardFalls])), (k0, .inr (4, [.ref h4, lo, .ref h0, .int powered, .int stepsDone]))] := hD
      refine lv_iload hx hb dX4_contact_67 (lv_at hl 0 rfl) ?_
      have hP := hP.sub (ws' := [(k0, .inr (4, [.ref h4, lo, .ref h0, .int powered, .int stepsDone])), (h0, .inr (1, [.int wayToOther, .ref h1, .ref h2, .int place, .int speed, .int way, .int topSpeed, .int gain, .int brake, .int darkSpeed, .int rideSpeed, .int kilos, .int mostKilos, .int (openContacts ||| ((1 : Int32) <<< (p1 &&& 31))), .int fireFloor, .int ride, .int starts, .int distance, .int hardFalls]))]) [1, 0] rfl
      have hD := hD.sub (ws' := [(k0, .inr (4, [.ref h4, lo, .ref h0, .int powered, .int stepsDone])), (h0, .inr (1, [.int wayToOther, .ref h1, .ref h2, .int place, .int speed, .int way, .int topSpeed, .int gain, .int brake, .int darkSpeed, .int rideSpeed, .int kilos, .int mostKilos, .int (openContacts ||| ((1 : Int32) <<< (p1 &&& 31))), .int fireFloor, .int ride, .int starts, .int distance, .int hardFalls]))]) [1, 0] (by decide) rfl
      exact rtx_z hQ hx hb hr (nb_n (Or.inl rfl)) (openContacts ||| ((1 : Int32) <<< (p1 &&& 31))) ⟨hG, (Or.inl rfl)⟩ hP hD hS (Nat.le_of_ble_eq_true rfl) (Nat.le_of_ble_eq_true rfl) dX4_contact_69 hlk
  · have hG := hG.trans (if_neg c_3)
    refine lv_iconst (v := 1) hx hb dX4_contact_30 (by decide) ?_
    refine lv_goto (tgt := 35) hx hb dX4_contact_31 (by decide) ?_
    refine lv_istore (lv' := [(6, .int 1), (5, .int ((1 : Int32) <<< (p1 &&& 31))), (4, .ref h0), (0, .ref k0), (1, .int 1), (2, .int p1), (3, .int p2)]) hx hb dX4_contact_35 hl (by decide) rfl (fun ls hl => ?_)
    refine lv_aload hx hb dX4_contact_37 (lv_at hl 2 rfl) ?_
    refine lv_iload_n hx hb dX4_contact_39 rfl (lv_at hl 6 rfl) ?_
    refine lv_if_eq (tgt := 54) hx hb dX4_contact_40 (by decide) (fun c_5 => ?_) (fun c_5 => ?_)
    · have hG := hG.trans (if_pos c_5)
      refine lv_aload hx hb dX4_contact_54 (lv_at hl 2 rfl) ?_
      refine va_getN (D := D) (ci := 1) (v := .int openContacts) (C := RX1) (T := TX1) (N := 19) hx hb hts inX1 hown hK hP 0 rfl rfl 13 (by decide) (nwF hE 24 rfl) (fun _ h9 => h9) rfl dX4_contact_56 ?_
      refine lv_iload hx hb dX4_contact_59 (lv_at hl 1 rfl) ?_
      refine lv_iconst (v := (-1)) hx hb dX4_contact_61 (by decide) ?_
      refine lv_ixor hx hb dX4_contact_62 ?_
      refine lv_iand hx hb dX4_contact_63 ?_
      refine va_putN (D := D) (ci := 1) (v := .int (openContacts &&& (((1 : Int32) <<< (p1 &&& 31)) ^^^ (-1)))) (ty := .int) (C := RX1) (T := TX1) (N := 19) hx hb hts inX1 tyX1 tyX1_ok nmX1 hown hK hP hD hS 0 rfl rfl 13 (by decide) (nwF hE 24 rfl) (fun _ h9 => h9) rfl (by decide +kernel) rfl rfl (Nat.le_of_ble_eq_true rfl) dX4_contact_64 (fun H locs hP hD hS => ?_)
      have hP : va_P D vwCl [(h0, .inr (1, [.int wayToOther, .ref h1, .ref h2, .int place, .int speed, .int way, .int topSpeed, .int gain, .int brake, .int darkSpeed, .int rideSpeed, .int kilos, .int mostKilos, .int (openContacts &&& (((1 : Int32) <<< (p1 &&& 31)) ^^^ (-1))), .int fireFloor, .int ride, .int starts, .int distance, .int hardFalls])), (k0, .inr (4, [.ref h4, lo, .ref h0, .int powered, .int stepsDone]))] H := hP
      have hD : va_D A [(h0, .inr (1, [.int wayToOther, .ref h1, .ref h2, .int place, .int speed, .int way, .int topSpeed, .int gain, .int brake, .int darkSpeed, .int rideSpeed, .int kilos, .int mostKilos, .int (openContacts &&& (((1 : Int32) <<< (p1 &&& 31)) ^^^ (-1))), .int fireFloor, .int ride, .int starts, .int distance, .int hardFalls])), (k0, .inr (4, [.ref h4, lo, .ref h0, .int powered, .int stepsDone]))] := hD
      refine lv_iload hx hb dX4_contact_67 (lv_at hl 0 rfl) ?_
      have hP := hP.sub (ws' := [(k0, .inr (4, [.ref h4, lo, .ref h0, .int powered, .int stepsDone])), (h0, .inr (1, [.int wayToOther, .ref h1, .ref h2, .int place, .int speed, .int way, .int topSpeed, .int gain, .int brake, .int darkSpeed, .int rideSpeed, .int kilos, .int mostKilos, .int (openContacts &&& (((1 : Int32) <<< (p1 &&& 31)) ^^^ (-1))), .int fireFloor, .int ride, .int starts, .int distance, .int hardFalls]))]) [1, 0] rfl
      have hD := hD.sub (ws' := [(k0, .inr (4, [.ref h4, lo, .ref h0, .int powered, .int stepsDone])), (h0, .inr (1, [.int wayToOther, .ref h1, .ref h2, .int place, .int speed, .int way, .int topSpeed, .int gain, .int brake, .int darkSpeed, .int rideSpeed, .int kilos, .int mostKilos, .int (openContacts &&& (((1 : Int32) <<< (p1 &&& 31)) ^^^ (-1))), .int fireFloor, .int ride, .int starts, .int distance, .int hardFalls]))]) [1, 0] (by decide) rfl
      exact rtx_z hQ hx hb hr (nb_n (Or.inr rfl)) (openContacts &&& (((1 : Int32) <<< (p1 &&& 31)) ^^^ (-1))) ⟨hG, (Or.inr rfl)⟩ hP hD hS (Nat.le_of_ble_eq_true rfl) (Nat.le_of_ble_eq_true rfl) dX4_contact_69 hlk
    · have hG := hG.trans (if_neg c_5)
      refine lv_aload hx hb dX4_contact_43 (lv_at hl 2 rfl) ?_
      refine va_getN (D := D) (ci := 1) (v := .int openContacts) (C := RX1) (T := TX1) (N := 19) hx hb hts inX1 hown hK hP 0 rfl rfl 13 (by decide) (nwF hE 24 rfl) (fun _ h9 => h9) rfl dX4_contact_45 ?_
      refine lv_iload hx hb dX4_contact_48 (lv_at hl 1 rfl) ?_
      refine lv_ior hx hb dX4_contact_50 ?_
      refine lv_goto (tgt := 64) hx hb dX4_contact_51 (by decide) ?_
      refine va_putN (D := D) (ci := 1) (v := .int (openContacts ||| ((1 : Int32) <<< (p1 &&& 31)))) (ty := .int) (C := RX1) (T := TX1) (N := 19) hx hb hts inX1 tyX1 tyX1_ok nmX1 hown hK hP hD hS 0 rfl rfl 13 (by decide) (nwF hE 24 rfl) (fun _ h9 => h9) rfl (by decide +kernel) rfl rfl (Nat.le_of_ble_eq_true rfl) dX4_contact_64 (fun H locs hP hD hS => ?_)
      have hP : va_P D vwCl [(h0, .inr (1, [.int wayToOther, .ref h1, .ref h2, .int place, .int speed, .int way, .int topSpeed, .int gain, .int brake, .int darkSpeed, .int rideSpeed, .int kilos, .int mostKilos, .int (openContacts ||| ((1 : Int32) <<< (p1 &&& 31))), .int fireFloor, .int ride, .int starts, .int distance, .int hardFalls])), (k0, .inr (4, [.ref h4, lo, .ref h0, .int powered, .int stepsDone]))] H := hP
      have hD : va_D A [(h0, .inr (1, [.int wayToOther, .ref h1, .ref h2, .int place, .int speed, .int way, .int topSpeed, .int gain, .int brake, .int darkSpeed, .int rideSpeed, .int kilos, .int mostKilos, .int (openContacts ||| ((1 : Int32) <<< (p1 &&& 31))), .int fireFloor, .int ride, .int starts, .int distance, .int hardFalls])), (k0, .inr (4, [.ref h4, lo, .ref h0, .int powered, .int stepsDone]))] := hD
      refine lv_iload hx hb dX4_contact_67 (lv_at hl 0 rfl) ?_
      have hP := hP.sub (ws' := [(k0, .inr (4, [.ref h4, lo, .ref h0, .int powered, .int stepsDone])), (h0, .inr (1, [.int wayToOther, .ref h1, .ref h2, .int place, .int speed, .int way, .int topSpeed, .int gain, .int brake, .int darkSpeed, .int rideSpeed, .int kilos, .int mostKilos, .int (openContacts ||| ((1 : Int32) <<< (p1 &&& 31))), .int fireFloor, .int ride, .int starts, .int distance, .int hardFalls]))]) [1, 0] rfl
      have hD := hD.sub (ws' := [(k0, .inr (4, [.ref h4, lo, .ref h0, .int powered, .int stepsDone])), (h0, .inr (1, [.int wayToOther, .ref h1, .ref h2, .int place, .int speed, .int way, .int topSpeed, .int gain, .int brake, .int darkSpeed, .int rideSpeed, .int kilos, .int mostKilos, .int (openContacts ||| ((1 : Int32) <<< (p1 &&& 31))), .int fireFloor, .int ride, .int starts, .int distance, .int hardFalls]))]) [1, 0] (by decide) rfl
      exact rtx_z hQ hx hb hr (nb_n (Or.inr rfl)) (openContacts ||| ((1 : Int32) <<< (p1 &&& 31))) ⟨hG, (Or.inr rfl)⟩ hP hD hS (Nat.le_of_ble_eq_true rfl) (Nat.le_of_ble_eq_true rfl) dX4_contact_69 hlk
def F_contact_0n : Int32 ⊕ Int32 :=
  cx F_carOf_0n fun _ =>
    .inl 0
theorem F_contact_0n_u : F_contact_0n =
  (cx F_carOf_0n fun _ =>
    .inl 0) := rfl
set_option maxHeartbeats 4000000 in
set_option maxRecDepth 100000 in
theorem c_contact_0n (l : Launch) (hl9 : l.stackTraces = false) (D : va_G) (aI aL aZ : ClassId) (sz : Nat) (k0 : Nat) (h4 : Nat) (powered : Int32) (stepsDone : Int32) (up : Value) (p1 : Int32) (p2 : Int32) : vx_Met l yX4_contact (.code yX4_contact cX4_contact 7 (some .boolean) :: Gw) ({ frames := 7, cells := 1, slots := 6, locals := 114 }) (va_Pc [.ref k0, .int 0, .int p1, .int p2] (mpre D [(aI, .int), (aL, .long), (aZ, .boolean)] [(k0, .inr (4, [.ref h4, .null, up, .int powered, .int stepsDone]))] sz)) ((fun A : Nat → Prop => va_Qi (fun (r : Int32) (u : Unit) => False) (mpst D A (fun (u : Unit) => [(k0, .inr (4, [.ref h4, .null, up, .int powered, .int stepsDone]))])) A) (va_A ([(k0, .inr (4, [.ref h4, .null, up, .int powered, .int stepsDone]))]) sz)) ((fun A : Nat → Prop => vx_X (fun u : Int32 => F_contact_0n = .inl u ∧ (u = 1)) (mpsx D A [(k0, .inr (4, [.ref h4, .null, up, .int powered, .int stepsDone]))]) A) (va_A ([(k0, .inr (4, [.ref h4, .null, up, .int powered, .int stepsDone]))]) sz)) 1 6 (va_A ([(k0, .inr (4, [.ref h4, .null, up, .int powered, .int stepsDone]))]) sz) := by
  refine enx (cc := cX4_contact) (maxL := 7) (ret := (some .boolean)) (Qc := (fun A : Nat → Prop => va_Qi (fun (r : Int32) (u : Unit) => False) (mpst D A (fun (u : Unit) => [(k0, .inr (4, [.ref h4, .null, up, .int powered, .int stepsDone]))])) A)) (XC := (fun A : Nat → Prop => vx_X (fun u : Int32 => F_contact_0n = .inl u ∧ (u = 1)) (mpsx D A [(k0, .inr (4, [.ref h4, .null, up, .int powered, .int stepsDone]))]) A)) (by decide) rfl (Nat.le_of_ble_eq_true rfl) ?_
  intro p e s m args below meth c A ls Q hQ hx hb hr hts hown hlk hnm hml hout hA hS hP hK hD hE hl
  have hown : s.vm.findClass RX4 = some m.cls := hown
  have hl : lv_has ls 7 [(0, .ref k0), (1, .int 0), (2, .int p1), (3, .int p2)] := hl
  have hG := F_contact_0n_u
  refine lv_aload_n hx hb dX4_contact_0 rfl (lv_at hl 0 rfl) ?_
  refine lv_iload_n hx hb dX4_contact_1 rfl (lv_at hl 1 rfl) ?_
  refine my_xr (wr := []) [0] [] [0] (vx_runV (As := [.int 0]) (rest := []) ⟨hx, hb, hml, hown, hts⟩ (c_carOf_0n l hl9 D aI aL aZ _ k0 h4 powered stepsDone up) (cwV 1 hts (gV w_393 w_395 w_2 w_35 w_396) rfl rfl rfl (by decide +kernel) ⟨Nat.le_of_ble_eq_true rfl, Nat.le_of_ble_eq_true rfl⟩) (prev_of hK hP hD hS hA hE [0] rfl (by decide) (ci := 4) rfl 0 rfl _) rfl rfl hl.1 rfl (lv_room (Nat.le_of_ble_eq_true rfl)) dX4_contact_2 ⟨Nat.le_of_ble_eq_true rfl, Nat.le_of_ble_eq_true rfl⟩) hP hD hS hA rfl rfl (by decide) (by decide) hQ (fun _ h9 => ⟨hG.trans (cx_l h9.1), h9.2⟩) hout hlk rfl (by decide) (Nat.le_of_ble_eq_true rfl) (Nat.le_of_ble_eq_true rfl) (fun u_ H locs hw_1 hP hD hS => ?_)
  exact False.elim hw_1
def F_contact_1n : Int32 ⊕ Int32 :=
  cx F_carOf_1n fun _ =>
    .inl 0
theorem F_contact_1n_u : F_contact_1n =
  (cx F_carOf_1n fun _ =>
    .inl 0) := rfl
set_option maxHeartbeats 4000000 in
set_option maxRecDepth 100000 in
theorem c_contact_1n (l : Launch) (hl9 : l.stackTraces = false) (D : va_G) (aI aL aZ : ClassId) (sz : Nat) (k0 : Nat) (h4 : Nat) (powered : Int32) (stepsDone : Int32) (lo : Value) (p1 : Int32) (p2 : Int32) : vx_Met l yX4_contact (.code yX4_contact cX4_contact 7 (some .boolean) :: Gw) ({ frames := 7, cells := 1, slots := 6, locals := 114 }) (va_Pc [.ref k0, .int 1, .int p1, .int p2] (mpre D [(aI, .int), (aL, .long), (aZ, .boolean)] [(k0, .inr (4, [.ref h4, lo, .null, .int powered, .int stepsDone]))] sz)) ((fun A : Nat → Prop => va_Qi (fun (r : Int32) (u : Unit) => False) (mpst D A (fun (u : Unit) => [(k0, .inr (4, [.ref h4, lo, .null, .int powered, .int stepsDone]))])) A) (va_A ([(k0, .inr (4, [.ref h4, lo, .null, .int powered, .int stepsDone]))]) sz)) ((fun A : Nat → Prop => vx_X (fun u : Int32 => F_contact_1n = .inl u ∧ (u = 1)) (mpsx D A [(k0, .inr (4, [.ref h4, lo, .null, .int powered, .int stepsDone]))]) A) (va_A ([(k0, .inr (4, [.ref h4, lo, .null, .int powered, .int stepsDone]))]) sz)) 1 6 (va_A ([(k0, .inr (4, [.ref h4, lo, .null, .int powered, .int stepsDone]))]) sz) := by
  refine enx (cc := cX4_contact) (maxL := 7) (ret := (some .boolean)) (Qc := (fun A : Nat → Prop => va_Qi (fun (r : Int32) (u : Unit) => False) (mpst D A (fun (u : Unit) => [(k0, .inr (4, [.ref h4, lo, .null, .int powered, .int stepsDone]))])) A)) (XC := (fun A : Nat → Prop => vx_X (fun u : Int32 => F_contact_1n = .inl u ∧ (u = 1)) (mpsx D A [(k0, .inr (4, [.ref h4, lo, .null, .int powered, .int stepsDone]))]) A)) (by decide) rfl (Nat.le_of_ble_eq_true rfl) ?_
  intro p e s m args below meth c A ls Q hQ hx hb hr hts hown hlk hnm hml hout hA hS hP hK hD hE hl
  have hown : s.vm.findClass RX4 = some m.cls := hown
  have hl : lv_has ls 7 [(0, .ref k0), (1, .int 1), (2, .int p1), (3, .int p2)] := hl
  have hG := F_contact_1n_u
  refine lv_aload_n hx hb dX4_contact_0 rfl (lv_at hl 0 rfl) ?_
  refine lv_iload_n hx hb dX4_contact_1 rfl (lv_at hl 1 rfl) ?_
  refine my_xr (wr := []) [0] [] [0] (vx_runV (As := [.int 1]) (rest := []) ⟨hx, hb, hml, hown, hts⟩ (c_carOf_1n l hl9 D aI aL aZ _ k0 h4 powered stepsDone lo) (cwV 1 hts (gV w_393 w_395 w_2 w_35 w_396) rfl rfl rfl (by decide +kernel) ⟨Nat.le_of_ble_eq_true rfl, Nat.le_of_ble_eq_true rfl⟩) (prev_of hK hP hD hS hA hE [0] rfl (by decide) (ci := 4) rfl 0 rfl _) rfl rfl hl.1 rfl (lv_room (Nat.le_of_ble_eq_true rfl)) dX4_contact_2 ⟨Nat.le_of_ble_eq_true rfl, Nat.le_of_ble_eq_true rfl⟩) hP hD hS hA rfl rfl (by decide) (by decide) hQ (fun _ h9 => ⟨hG.trans (cx_l h9.1), h9.2⟩) hout hlk rfl (by decide) (Nat.le_of_ble_eq_true rfl) (Nat.le_of_ble_eq_true rfl) (fun u_ H locs hw_1 hP hD hS => ?_)
  exact False.elim hw_1
def F_contact_x : Int32 ⊕ Int32 :=
  cx F_carOf_x fun _ =>
    .inl 0
theorem F_contact_x_u : F_contact_x =
  (cx F_carOf_x fun _ =>
    .inl 0) := rfl
set_option maxHeartbeats 4000000 in
set_option maxRecDepth 100000 in
theorem c_contact_x (l : Launch) (hl9 : l.stackTraces = false) (D : va_G) (aI aL aZ : ClassId) (sz : Nat) (k0 : Nat) (h4 : Nat) (powered : Int32) (stepsDone : Int32) (lo : Value) (up : Value) (p0 : Int32) (p1 : Int32) (p2 : Int32) (h9 : ¬ p0 = 0) (h8 : ¬ p0 = 1) : vx_Met l yX4_contact (.code yX4_contact cX4_contact 7 (some .boolean) :: Gw) ({ frames := 7, cells := 1, slots := 6, locals := 114 }) (va_Pc [.ref k0, .int p0, .int p1, .int p2] (mpre D [(aI, .int), (aL, .long), (aZ, .boolean)] [(k0, .inr (4, [.ref h4, lo, up, .int powered, .int stepsDone]))] sz)) ((fun A : Nat → Prop => va_Qi (fun (r : Int32) (u : Unit) => False) (mpst D A (fun (u : Unit) => [(k0, .inr (4, [.ref h4, lo, up, .int powered, .int stepsDone]))])) A) (va_A ([(k0, .inr (4, [.ref h4, lo, up, .int powered, .int stepsDone]))]) sz)) ((fun A : Nat → Prop => vx_X (fun u : Int32 => F_contact_x = .inl u ∧ (u = 1)) (mpsx D A [(k0, .inr (4, [.ref h4, lo, up, .int powered, .int stepsDone]))]) A) (va_A ([(k0, .inr (4, [.ref h4, lo, up, .int powered, .int stepsDone]))]) sz)) 1 6 (va_A ([(k0, .inr (4, [.ref h4, lo, up, .int powered, .int stepsDone]))]) sz) := by
  refine enx (cc := cX4_contact) (maxL := 7) (ret := (some .boolean)) (Qc := (fun A : Nat → Prop => va_Qi (fun (r : Int32) (u : Unit) => False) (mpst D A (fun (u : Unit) => [(k0, .inr (4, [.ref h4, lo, up, .int powered, .int stepsDone]))])) A)) (XC := (fun A : Nat → Prop => vx_X (fun u : Int32 => F_contact_x = .inl u ∧ (u = 1)) (mpsx D A [(k0, .inr (4, [.ref h4, lo, up, .int powered, .int stepsDone]))]) A)) (by decide) rfl (Nat.le_of_ble_eq_true rfl) ?_
  intro p e s m args below meth c A ls Q hQ hx hb hr hts hown hlk hnm hml hout hA hS hP hK hD hE hl
  have hown : s.vm.findClass RX4 = some m.cls := hown
  have hl : lv_has ls 7 [(0, .ref k0), (1, .int p0), (2, .int p1), (3, .int p2)] := hl
  have hG := F_contact_x_u
  refine lv_aload_n hx hb dX4_contact_0 rfl (lv_at hl 0 rfl) ?_
  refine lv_iload_n hx hb dX4_contact_1 rfl (lv_at hl 1 rfl) ?_
  refine my_xr (wr := []) [0] [] [0] (vx_runV (As := [.int p0]) (rest := []) ⟨hx, hb, hml, hown, hts⟩ (c_carOf_x l hl9 D aI aL aZ _ k0 h4 powered stepsDone lo up p0 h9 h8) (cwV 1 hts (gV w_393 w_395 w_2 w_35 w_396) rfl rfl rfl (by decide +kernel) ⟨Nat.le_of_ble_eq_true rfl, Nat.le_of_ble_eq_true rfl⟩) (prev_of hK hP hD hS hA hE [0] rfl (by decide) (ci := 4) rfl 0 rfl _) rfl rfl hl.1 rfl (lv_room (Nat.le_of_ble_eq_true rfl)) dX4_contact_2 ⟨Nat.le_of_ble_eq_true rfl, Nat.le_of_ble_eq_true rfl⟩) hP hD hS hA rfl rfl (by decide) (by decide) hQ (fun _ h9 => ⟨hG.trans (cx_l h9.1), h9.2⟩) hout hlk rfl (by decide) (Nat.le_of_ble_eq_true rfl) (Nat.le_of_ble_eq_true rfl) (fun u_ H locs hw_1 hP hD hS => ?_)
  exact False.elim hw_1
theorem dX4_told_0 : decode cX4_told 0 = .ok (.aload_n 0, 1) := by decide +kernel
theorem dX4_told_1 : decode cX4_told 1 = .ok (.iload_n 1, 1) := by decide +kernel
theorem dX4_told_2 : decode cX4_told 2 = .ok (.invokevirtual 84, 3) := by decide +kernel
theorem dX4_told_5 : decode cX4_told 5 = .ok (.astore_n 3, 1) := by decide +kernel
theorem dX4_told_6 : decode cX4_told 6 = .ok (.iload_n 2, 1) := by decide +kernel
theorem dX4_told_7 : decode cX4_told 7 = .ok (.tableswitch 122 0 7 #[45, 50, 60, 69, 77, 85, 93, 105], 45) := by decide +kernel
theorem dX4_told_52 : decode cX4_told 52 = .ok (.aload_n 3, 1) := by decide +kernel
theorem dX4_told_53 : decode cX4_told 53 = .ok (.getfield 144, 3) := by decide +kernel
theorem dX4_told_56 : decode cX4_told 56 = .ok (.ireturn, 1) := by decide +kernel
theorem dX4_told_57 : decode cX4_told 57 = .ok (.aload_n 3, 1) := by decide +kernel
theorem dX4_told_58 : decode cX4_told 58 = .ok (.getfield 93, 3) := by decide +kernel
theorem dX4_told_61 : decode cX4_told 61 = .ok (.aload_n 3, 1) := by decide +kernel
theorem dX4_told_62 : decode cX4_told 62 = .ok (.getfield 184, 3) := by decide +kernel
theorem dX4_told_65 : decode cX4_told 65 = .ok (.imul, 1) := by decide +kernel
theorem dX4_told_66 : decode cX4_told 66 = .ok (.ireturn, 1) := by decide +kernel
theorem dX4_told_67 : decode cX4_told 67 = .ok (.aload_n 3, 1) := by decide +kernel
theorem dX4_told_68 : decode cX4_told 68 = .ok (.aload_n 0, 1) := by decide +kernel
theorem dX4_told_69 : decode cX4_told 69 = .ok (.getfield 27, 3) := by decide +kernel
theorem dX4_told_72 : decode cX4_told 72 = .ok (.invokevirtual 187, 3) := by decide +kernel
theorem dX4_told_75 : decode cX4_told 75 = .ok (.ireturn, 1) := by decide +kernel
theorem dX4_told_76 : decode cX4_told 76 = .ok (.aload_n 3, 1) := by decide +kernel
theorem dX4_told_77 : decode cX4_told 77 = .ok (.getfield 113, 3) := by decide +kernel
theorem dX4_told_80 : decode cX4_told 80 = .ok (.getfield 117, 3) := by decide +kernel
theorem dX4_told_83 : decode cX4_told 83 = .ok (.ireturn, 1) := by decide +kernel
theorem dX4_told_84 : decode cX4_told 84 = .ok (.aload_n 3, 1) := by decide +kernel
theorem dX4_told_85 : decode cX4_told 85 = .ok (.getfield 113, 3) := by decide +kernel
theorem dX4_told_88 : decode cX4_told 88 = .ok (.getfield 191, 3) := by decide +kernel
theorem dX4_told_91 : decode cX4_told 91 = .ok (.ireturn, 1) := by decide +kernel
theorem dX4_told_92 : decode cX4_told 92 = .ok (.aload_n 3, 1) := by decide +kernel
theorem dX4_told_93 : decode cX4_told 93 = .ok (.getfield 130, 3) := by decide +kernel
theorem dX4_told_96 : decode cX4_told 96 = .ok (.getfield 134, 3) := by decide +kernel
theorem dX4_told_99 : decode cX4_told 99 = .ok (.ireturn, 1) := by decide +kernel
theorem dX4_told_100 : decode cX4_told 100 = .ok (.aload_n 0, 1) := by decide +kernel
theorem dX4_told_101 : decode cX4_told 101 = .ok (.getfield 23, 3) := by decide +kernel
theorem dX4_told_104 : decode cX4_told 104 = .ok (.aload_n 3, 1) := by decide +kernel
theorem dX4_told_105 : decode cX4_told 105 = .ok (.getfield 144, 3) := by decide +kernel
theorem dX4_told_108 : decode cX4_told 108 = .ok (.invokevirtual 147, 3) := by decide +kernel
theorem dX4_told_111 : decode cX4_told 111 = .ok (.ireturn, 1) := by decide +kernel
theorem dX4_told_112 : decode cX4_told 112 = .ok (.aload_n 3, 1) := by decide +kernel
theorem dX4_told_113 : decode cX4_told 113 = .ok (.aload_n 3, 1) := by decide +kernel
theorem dX4_told_114 : decode cX4_told 114 = .ok (.aload_n 0, 1) := by decide +kernel
theorem dX4_told_115 : decode cX4_told 115 = .ok (.getfield 27, 3) := by decide +kernel
theorem dX4_told_118 : decode cX4_told 118 = .ok (.invokevirtual 187, 3) := by decide +kernel
theorem dX4_told_121 : decode cX4_told 121 = .ok (.aload_n 0, 1) := by decide +kernel
theorem dX4_told_122 : decode cX4_told 122 = .ok (.getfield 23, 3) := by decide +kernel
theorem dX4_told_125 : decode cX4_told 125 = .ok (.invokevirtual 192, 3) := by decide +kernel
theorem dX4_told_128 : decode cX4_told 128 = .ok (.ireturn, 1) := by decide +kernel
theorem dX4_told_129 : decode cX4_told 129 = .ok (.new 88, 3) := by decide +kernel
theorem dX4_told_132 : decode cX4_told 132 = .ok (.dup, 1) := by decide +kernel
theorem dX4_told_133 : decode cX4_told 133 = .ok (.ldc 196, 2) := by decide +kernel
theorem dX4_told_135 : decode cX4_told 135 = .ok (.invokespecial 92, 3) := by decide +kernel
theorem dX4_told_138 : decode cX4_told 138 = .ok (.athrow, 1) := by decide +kernel
def F_told_0 (powered : Int32) (place : Int32) (speed : Int32) (way : Int32) (openContacts : Int32) (fireFloor : Int32) (ride : Int32) (dstate : Int32) (dplace : Int32) (ccount : Int32) (cf : Nat → Int32) (n : Nat) (pf : Nat → Int32) (p1 : Int32) : Int32 ⊕ Int32 :=
  cx F_carOf_0 fun _ =>
    if p1 = 0 then
      .inr place
    else
      if p1 = 1 then
        .inr (speed * way)
      else
        if p1 = 2 then
          cb (F_modeNow openContacts fireFloor ride powered) fun r_5 =>
            .inr r_5
        else
          if p1 = 3 then
            .inr dstate
          else
            if p1 = 4 then
              .inr dplace
            else
              if p1 = 5 then
                .inr ccount
              else
                if p1 = 6 then
                  cb (F_floorAt n pf place) fun r_11 =>
                    .inr r_11
                else
                  if p1 = 7 then
                    cb (F_modeNow openContacts fireFloor ride powered) fun r_14 =>
                      cb (F_wantedPlace place fireFloor ride ccount cf n pf r_14) fun r_16 =>
                        .inr r_16
                  else
                    .inl 1
theorem F_told_0_u (powered : Int32) (place : Int32) (speed : Int32) (way : Int32) (openContacts : Int32) (fireFloor : Int32) (ride : Int32) (dstate : Int32) (dplace : Int32) (ccount : Int32) (cf : Nat → Int32) (n : Nat) (pf : Nat → Int32) (p1 : Int32) : F_told_0 powered place speed way openContacts fireFloor ride dstate dplace ccount cf n pf p1 =
  (cx F_carOf_0 fun _ =>
    if p1 = 0 then
      .inr place
    else
      if p1 = 1 then
        .inr (speed * way)
      else
        if p1 = 2 then
          cb (F_modeNow openContacts fireFloor ride powered) fun r_5 =>
            .inr r_5
        else
          if p1 = 3 then
            .inr dstate
          else
            if p1 = 4 then
              .inr dplace
            else
              if p1 = 5 then
                .inr ccount
              else
                if p1 = 6 then
                  cb (F_floorAt n pf place) fun r_11 =>
                    .inr r_11
                else
                  if p1 = 7 then
                    cb (F_modeNow openContacts fireFloor ride powered) fun r_14 =>
                      cb (F_wantedPlace place fireFloor ride ccount cf n pf r_14) fun r_16 =>
                        .inr r_16
                  else
                    .inl 1) := rfl
set_option maxHeartbeats 4000000 in
set_option maxRecDepth 100000 in
theorem c_told_0 (l : Launch) (hl9 : l.stackTraces = false) (D : va_G) (aI aL aZ : ClassId) (sz : Nat) (k0 : Nat) (h4 : Nat) (powered : Int32) (stepsDone : Int32) (up : Value) (h0 : Nat) (h1 : Nat) (h2 : Nat) (wayToOther : Int32) (place : Int32) (speed : Int32) (way : Int32) (topSpeed : Int32) (gain : Int32) (brake : Int32) (darkSpeed : Int32) (rideSpeed : Int32) (kilos : Int32) (mostKilos : Int32) (openContacts : Int32) (fireFloor : Int32) (ride : Int32) (starts : Int32) (distance : Int32) (hardFalls : Int32) (dstate : Int32) (dplace : Int32) (dplaces : Int32) (dhold : Int32) (dsteps : Int32) (dbeam : Int32) (dob : Int32) (doc : Int32) (h3 : Nat) (ccount : Int32) (cover : Int32) (cf : Nat → Int32) (h5 : Nat) (gap : Int32) (n : Nat) (pf : Nat → Int32) (p1 : Int32) (hn : n < 2 ^ 31) (hn1 : 1 ≤ n) : vx_Met l yX4_told (.code yX4_told cX4_told 4 (some .int) :: Gw) ({ frames := 6, cells := 1, slots := 6, locals := 92 }) (va_Pc [.ref k0, .int 0, .int p1] (mpre D [(aI, .int), (aL, .long), (aZ, .boolean)] [(k0, .inr (4, [.ref h4, .ref h0, up, .int powered, .int stepsDone])), (h0, .inr (1, [.int wayToOther, .ref h1, .ref h2, .int place, .int speed, .int way, .int topSpeed, .int gain, .int brake, .int darkSpeed, .int rideSpeed, .int kilos, .int mostKilos, .int openContacts, .int fireFloor, .int ride, .int starts, .int distance, .int hardFalls])), (h1, .inr (2, [.int dstate, .int dplace, .int dplaces, .int dhold, .int dsteps, .int dbeam, .int dob, .int doc])), (h2, .inr (0, [.ref h3, .int ccount, .int cover])), (h3, .inl (aI, 8, .inl cf)), (h4, .inr (3, [.ref h5, .int gap])), (h5, .inl (aI, n, .inl pf))] sz)) ((fun A : Nat → Prop => va_Qi (fun (r : Int32) (u : Unit) => F_told_0 powered place speed way openContacts fireFloor ride dstate dplace ccount cf n pf p1 = .inr r) (mpst D A (fun (u : Unit) => [(k0, .inr (4, [.ref h4, .ref h0, up, .int powered, .int stepsDone])), (h0, .inr (1, [.int wayToOther, .ref h1, .ref h2, .int place, .int speed, .int way, .int topSpeed, .int gain, .int brake, .int darkSpeed, .int rideSpeed, .int kilos, .int mostKilos, .int openContacts, .int fireFloor, .int ride, .int starts, .int distance, .int hardFalls])), (h1, .inr (2, [.int dstate, .int dplace, .int dplaces, .int dhold, .int dsteps, .int dbeam, .int dob, .int doc])), (h2, .inr (0, [.ref h3, .int ccount, .int cover])), (h3, .inl (aI, 8, .inl cf)), (h4, .inr (3, [.ref h5, .int gap])), (h5, .inl (aI, n, .inl pf))])) A) (va_A ([(k0, .inr (4, [.ref h4, .ref h0, up, .int powered, .int stepsDone])), (h0, .inr (1, [.int wayToOther, .ref h1, .ref h2, .int place, .int speed, .int way, .int topSpeed, .int gain, .int brake, .int darkSpeed, .int rideSpeed, .int kilos, .int mostKilos, .int openContacts, .int fireFloor, .int ride, .int starts, .int distance, .int hardFalls])), (h1, .inr (2, [.int dstate, .int dplace, .int dplaces, .int dhold, .int dsteps, .int dbeam, .int dob, .int doc])), (h2, .inr (0, [.ref h3, .int ccount, .int cover])), (h3, .inl (aI, 8, .inl cf)), (h4, .inr (3, [.ref h5, .int gap])), (h5, .inl (aI, n, .inl pf))]) sz)) ((fun A : Nat → Prop => vx_X (fun u : Int32 => F_told_0 powered place speed way openContacts fireFloor ride dstate dplace ccount cf n pf p1 = .inl u ∧ (u = 1)) (mpsx D A [(k0, .inr (4, [.ref h4, .ref h0, up, .int powered, .int stepsDone])), (h0, .inr (1, [.int wayToOther, .ref h1, .ref h2, .int place, .int speed, .int way, .int topSpeed, .int gain, .int brake, .int darkSpeed, .int rideSpeed, .int kilos, .int mostKilos, .int openContacts, .int fireFloor, .int ride, .int starts, .int distance, .int hardFalls])), (h1, .inr (2, [.int dstate, .int dplace, .int dplaces, .int dhold, .int dsteps, .int dbeam, .int dob, .int doc])), (h2, .inr (0, [.ref h3, .int ccount, .int cover])), (h3, .inl (aI, 8, .inl cf)), (h4, .inr (3, [.ref h5, .int gap])), (h5, .inl (aI, n, .inl pf))]) A) (va_A ([(k0, .inr (4, [.ref h4, .ref h0, up, .int powered, .int stepsDone])), (h0, .inr (1, [.int wayToOther, .ref h1, .ref h2, .int place, .int speed, .int way, .int topSpeed, .int gain, .int brake, .int darkSpeed, .int rideSpeed, .int kilos, .int mostKilos, .int openContacts, .int fireFloor, .int ride, .int starts, .int distance, .int hardFalls])), (h1, .inr (2, [.int dstate, .int dplace, .int dplaces, .int dhold, .int dsteps, .int dbeam, .int dob, .int doc])), (h2, .inr (0, [.ref h3, .int ccount, .int cover])), (h3, .inl (aI, 8, .inl cf)), (h4, .inr (3, [.ref h5, .int gap])), (h5, .inl (aI, n, .inl pf))]) sz)) 1 6 (va_A ([(k0, .inr (4, [.ref h4, .ref h0, up, .int powered, .int stepsDone])), (h0, .inr (1, [.int wayToOther, .ref h1, .ref h2, .int place, .int speed, .int way, .int topSpeed, .int gain, .int brake, .int darkSpeed, .int rideSpeed, .int kilos, .int mostKilos, .int openContacts, .int fireFloor, .int ride, .int starts, .int distance, .int hardFalls])), (h1, .inr (2, [.int dstate, .int dplace, .int dplaces, .int dhold, .int dsteps, .int dbeam, .int dob, .int doc])), (h2, .inr (0, [.ref h3, .int ccount, .int cover])), (h3, .inl (aI, 8, .inl cf)), (h4, .inr (3, [.ref h5, .int gap])), (h5, .inl (aI, n, .inl pf))]) sz) := by
  refine enx (cc := cX4_told) (maxL := 4) (ret := (some .int)) (Qc := (fun A : Nat → Prop => va_Qi (fun (r : Int32) (u : Unit) => F_told_0 powered place speed way openContacts fireFloor ride dstate dplace ccount cf n pf p1 = .inr r) (mpst D A (fun (u : Unit) => [(k0, .inr (4, [.ref h4, .ref h0, up, .int powered, .int stepsDone])), (h0, .inr (1, [.int wayToOther, .ref h1, .ref h2, .int place, .int speed, .int way, .int topSpeed, .int gain, .int brake, .int darkSpeed, .int rideSpeed, .int kilos, .int mostKilos, .int openContacts, .int fireFloor, .int ride, .int starts, .int distance, .int hardFalls])), (h1, .inr (2, [.int dstate, .int dplace, .int dplaces, .int dhold, .int dsteps, .int dbeam, .int dob, .int doc])), (h2, .inr (0, [.ref h3, .int ccount, .int cover])), (h3, .inl (aI, 8, .inl cf)), (h4, .inr (3, [.ref h5, .int gap])), (h5, .inl (aI, n, .inl pf))])) A)) (XC := (fun A : Nat → Prop => vx_X (fun u : Int32 => F_told_0 powered place speed way openContacts fireFloor ride dstate dplace ccount cf n pf p1 = .inl u ∧ (u = 1)) (mpsx D A [(k0, .inr (4, [.ref h4, .ref h0, up, .int powered, .int stepsDone])), (h0, .inr (1, [.int wayToOther, .ref h1, .ref h2, .int place, .int speed, .int way, .int topSpeed, .int gain, .int brake, .int darkSpeed, .int rideSpeed, .int kilos, .int mostKilos, .int openContacts, .int fireFloor, .int ride, .int starts, .int distance, .int hardFalls])), (h1, .inr (2, [.int dstate, .int dplace, .int dplaces, .int dhold, .int dsteps, .int dbeam, .int dob, .int doc])), (h2, .inr (0, [.ref h3, .int ccount, .int cover])), (h3, .inl (aI, 8, .inl cf)), (h4, .inr (3, [.ref h5, .int gap])), (h5, .inl (aI, n, .inl pf))]) A)) (by decide) rfl (Nat.le_of_ble_eq_true rfl) ?_
  intro p e s m args below meth c A ls Q hQ hx hb hr hts hown hlk hnm hml hout hA hS hP hK hD hE hl
  have hown : s.vm.findClass RX4 = some m.cls := hown
  have hl : lv_has ls 4 [(0, .ref k0), (1, .int 0), (2, .int p1)] := hl
  have hG := F_told_0_u powered place speed way openContacts fireFloor ride dstate dplace ccount cf n pf p1
  refine lv_aload_n hx hb dX4_told_0 rfl (lv_at hl 0 rfl) ?_
  refine lv_iload_n hx hb dX4_told_1 rfl (lv_at hl 1 rfl) ?_
  refine my_xr (wr := [(h0, .inr (1, [.int wayToOther, .ref h1, .ref h2, .int place, .int speed, .int way, .int topSpeed, .int gain, .int brake, .int darkSpeed, .int rideSpeed, .int kilos, .int mostKilos, .int openContacts, .int fireFloor, .int ride, .int starts, .int distance, .int hardFalls])), (h1, .inr (2, [.int dstate, .int dplace, .int dplaces, .int dhold, .int dsteps, .int dbeam, .int dob, .int doc])), (h2, .inr (0, [.ref h3, .int ccount, .int cover])), (h3, .inl (aI, 8, .inl cf)), (h4, .inr (3, [.ref h5, .int gap])), (h5, .inl (aI, n, .inl pf))]) [0] [1, 2, 3, 4, 5, 6] [6, 0, 1, 2, 3, 4, 5] (vx_runV (As := [.int 0]) (rest := []) ⟨hx, hb, hml, hown, hts⟩ (c_carOf_0 l hl9 D aI aL aZ _ k0 h4 powered stepsDone h0 up) (cwV 1 hts (gV w_393 w_395 w_2 w_35 w_396) rfl rfl rfl (by decide +kernel) ⟨Nat.le_of_ble_eq_true rfl, Nat.le_of_ble_eq_true rfl⟩) (prev_of hK hP hD hS hA hE [0] rfl (by decide) (ci := 4) rfl 0 rfl _) rfl rfl hl.1 rfl (lv_room (Nat.le_of_ble_eq_true rfl)) dX4_told_2 ⟨Nat.le_of_ble_eq_true rfl, Nat.le_of_ble_eq_true rfl⟩) hP hD hS hA rfl rfl (by decide) (by decide) hQ (fun _ h9 => ⟨hG.trans (cx_l h9.1), (False.elim h9.2)⟩) hout hlk rfl (by decide) (Nat.le_of_ble_eq_true rfl) (Nat.le_of_ble_eq_true rfl) (fun u_ H locs hw_1 hP hD hS => ?_)
  have hw_1 : F_carOf_0 = .inr () := hw_1
  have hG := hG.trans (cx_r hw_1)
  have hP : va_P D vwCl [(h0, .inr (1, [.int wayToOther, .ref h1, .ref h2, .int place, .int speed, .int way, .int topSpeed, .int gain, .int brake, .int darkSpeed, .int rideSpeed, .int kilos, .int mostKilos, .int openContacts, .int fireFloor, .int ride, .int starts, .int distance, .int hardFalls])), (h1, .inr (2, [.int dstate, .int dplace, .int dplaces, .int dhold, .int dsteps, .int dbeam, .int dob, .int doc])), (h2, .inr (0, [.ref h3, .int ccount, .int cover])), (h3, .inl (aI, 8, .inl cf)), (h4, .inr (3, [.ref h5, .int gap])), (h5, .inl (aI, n, .inl pf)), (k0, .inr (4, [.ref h4, .ref h0, up, .int powered, .int stepsDone]))] H := hP
  have hD : va_D A [(h0, .inr (1, [.int wayToOther, .ref h1, .ref h2, .int place, .int speed, .int way, .int topSpeed, .int gain, .int brake, .int darkSpeed, .int rideSpeed, .int kilos, .int mostKilos, .int openContacts, .int fireFloor, .int ride, .int starts, .int distance, .int hardFalls])), (h1, .inr (2, [.int dstate, .int dplace, .int dplaces, .int dhold, .int dsteps, .int dbeam, .int dob, .int doc])), (h2, .inr (0, [.ref h3, .int ccount, .int cover])), (h3, .inl (aI, 8, .inl cf)), (h4, .inr (3, [.ref h5, .int gap])), (h5, .inl (aI, n, .inl pf)), (k0, .inr (4, [.ref h4, .ref h0, up, .int powered, .int stepsDone]))] := hD
  refine lv_astore_n (lv' := [(3, .ref h0), (0, .ref k0), (1, .int 0), (2, .int p1)]) hx hb dX4_told_5 rfl hl (by decide) rfl (fun ls hl => ?_)
  refine lv_iload_n hx hb dX4_told_6 rfl (lv_at hl 3 rfl) ?_
  by_cases c_2 : p1 = 0
  · have hG := hG.trans (if_pos c_2)
    refine lv_tableIn (off := 45) (tgt := 52) hx hb dX4_told_7 (by rw [c_2]; decide) (by rw [c_2]; decide) (by rw [c_2]; rfl) (by decide) ?_
    refine lv_aload_n hx hb dX4_told_52 rfl (lv_at hl 0 rfl) ?_
    refine va_getN (D := D) (ci := 1) (v := .int place) (C := RX1) (T := TX1) (N := 19) hx hb hts inX1 hown hK hP 0 rfl rfl 3 (by decide) (nwF hE 14 rfl) (fun _ h9 => h9) rfl dX4_told_53 ?_
    have hP := hP.sub (ws' := [(k0, .inr (4, [.ref h4, .ref h0, up, .int powered, .int stepsDone])), (h0, .inr (1, [.int wayToOther, .ref h1, .ref h2, .int place, .int speed, .int way, .int topSpeed, .int gain, .int brake, .int darkSpeed, .int rideSpeed, .int kilos, .int mostKilos, .int openContacts, .int fireFloor, .int ride, .int starts, .int distance, .int hardFalls])), (h1, .inr (2, [.int dstate, .int dplace, .int dplaces, .int dhold, .int dsteps, .int dbeam, .int dob, .int doc])), (h2, .inr (0, [.ref h3, .int ccount, .int cover])), (h3, .inl (aI, 8, .inl cf)), (h4, .inr (3, [.ref h5, .int gap])), (h5, .inl (aI, n, .inl pf))]) [6, 0, 1, 2, 3, 4, 5] rfl
    have hD := hD.sub (ws' := [(k0, .inr (4, [.ref h4, .ref h0, up, .int powered, .int stepsDone])), (h0, .inr (1, [.int wayToOther, .ref h1, .ref h2, .int place, .int speed, .int way, .int topSpeed, .int gain, .int brake, .int darkSpeed, .int rideSpeed, .int kilos, .int mostKilos, .int openContacts, .int fireFloor, .int ride, .int starts, .int distance, .int hardFalls])), (h1, .inr (2, [.int dstate, .int dplace, .int dplaces, .int dhold, .int dsteps, .int dbeam, .int dob, .int doc])), (h2, .inr (0, [.ref h3, .int ccount, .int cover])), (h3, .inl (aI, 8, .inl cf)), (h4, .inr (3, [.ref h5, .int gap])), (h5, .inl (aI, n, .inl pf))]) [6, 0, 1, 2, 3, 4, 5] (by decide) rfl
    exact rtx_i hQ hx hb hr () hG hP hD hS (Nat.le_of_ble_eq_true rfl) (Nat.le_of_ble_eq_true rfl) dX4_told_56 hlk
  · have hG := hG.trans (if_neg c_2)
    by_cases c_3 : p1 = 1
    · have hG := hG.trans (if_pos c_3)
      refine lv_tableIn (off := 50) (tgt := 57) hx hb dX4_told_7 (by rw [c_3]; decide) (by rw [c_3]; decide) (by rw [c_3]; rfl) (by decide) ?_
      refine lv_aload_n hx hb dX4_told_57 rfl (lv_at hl 0 rfl) ?_
      refine va_getN (D := D) (ci := 1) (v := .int speed) (C := RX1) (T := TX1) (N := 19) hx hb hts inX1 hown hK hP 0 rfl rfl 4 (by decide) (nwF hE 15 rfl) (fun _ h9 => h9) rfl dX4_told_58 ?_
      refine lv_aload_n hx hb dX4_told_61 rfl (lv_at hl 0 rfl) ?_
      refine va_getN (D := D) (ci := 1) (v := .int way) (C := RX1) (T := TX1) (N := 19) hx hb hts inX1 hown hK hP 0 rfl rfl 5 (by decide) (nwF hE 16 rfl) (fun _ h9 => h9) rfl dX4_told_62 ?_
      refine lv_imul hx hb dX4_told_65 ?_
      have hP := hP.sub (ws' := [(k0, .inr (4, [.ref h4, .ref h0, up, .int powered, .int stepsDone])), (h0, .inr (1, [.int wayToOther, .ref h1, .ref h2, .int place, .int speed, .int way, .int topSpeed, .int gain, .int brake, .int darkSpeed, .int rideSpeed, .int kilos, .int mostKilos, .int openContacts, .int fireFloor, .int ride, .int starts, .int distance, .int hardFalls])), (h1, .inr (2, [.int dstate, .int dplace, .int dplaces, .int dhold, .int dsteps, .int dbeam, .int dob, .int doc])), (h2, .inr (0, [.ref h3, .int ccount, .int cover])), (h3, .inl (aI, 8, .inl cf)), (h4, .inr (3, [.ref h5, .int gap])), (h5, .inl (aI, n, .inl pf))]) [6, 0, 1, 2, 3, 4, 5] rfl
      have hD := hD.sub (ws' := [(k0, .inr (4, [.ref h4, .ref h0, up, .int powered, .int stepsDone])), (h0, .inr (1, [.int wayToOther, .ref h1, .ref h2, .int place, .int speed, .int way, .int topSpeed, .int gain, .int brake, .int darkSpeed, .int rideSpeed, .int kilos, .int mostKilos, .int openContacts, .int fireFloor, .int ride, .int starts, .int distance, .int hardFalls])), (h1, .inr (2, [.int dstate, .int dplace, .int dplaces, .int dhold, .int dsteps, .int dbeam, .int dob, .int doc])), (h2, .inr (0, [.ref h3, .int ccount, .int cover])), (h3, .inl (aI, 8, .inl cf)), (h4, .inr (3, [.ref h5, .int gap])), (h5, .inl (aI, n, .inl pf))]) [6, 0, 1, 2, 3, 4, 5] (by decide) rfl
      exact rtx_i hQ hx hb hr () hG hP hD hS (Nat.le_of_ble_eq_true rfl) (Nat.le_of_ble_eq_true rfl) dX4_told_66 hlk
    · have hG := hG.trans (if_neg c_3)
      by_cases c_4 : p1 = 2
      · have hG := hG.trans (if_pos c_4)
        refine lv_tableIn (off := 60) (tgt := 67) hx hb dX4_told_7 (by rw [c_4]; decide) (by rw [c_4]; decide) (by rw [c_4]; rfl) (by decide) ?_
        refine lv_aload_n hx hb dX4_told_67 rfl (lv_at hl 0 rfl) ?_
        refine lv_aload_n hx hb dX4_told_68 rfl (lv_at hl 1 rfl) ?_
        refine va_get (D := D) (ci := 4) (v := .int powered) (C := RX4) (T := TX4) (N := 5) hx hb hts inX4 hown hK hP 6 rfl rfl 3 (by decide) (hts _ (mG w_82)) (fun _ h9 => h9) rfl dX4_told_69 ?_
        refine my_i (wr := [(h1, .inr (2, [.int dstate, .int dplace, .int dplaces, .int dhold, .int dsteps, .int dbeam, .int dob, .int doc])), (h2, .inr (0, [.ref h3, .int ccount, .int cover])), (h3, .inl (aI, 8, .inl cf)), (h4, .inr (3, [.ref h5, .int gap])), (h5, .inl (aI, n, .inl pf)), (k0, .inr (4, [.ref h4, .ref h0, up, .int powered, .int stepsDone]))]) [0] [1, 2, 3, 4, 5, 6] (va_runV (As := [.int powered]) (rest := []) ⟨hx, hb, hml, hown, hts⟩ (c_modeNow l D aI aL aZ _ h0 h1 h2 wayToOther place speed way topSpeed gain brake darkSpeed rideSpeed kilos mostKilos openContacts fireFloor ride starts distance hardFalls powered) (cwV 1 hts (gV w_619 w_508 w_509 w_44 w_510) rfl rfl rfl (by decide +kernel) ⟨Nat.le_of_ble_eq_true rfl, Nat.le_of_ble_eq_true rfl⟩) (prev_of hK hP hD hS hA hE [0] rfl (by decide) (ci := 1) rfl 0 rfl _) rfl rfl hl.1 rfl (lv_room (Nat.le_of_ble_eq_true rfl)) dX4_told_72 ⟨Nat.le_of_ble_eq_true rfl, Nat.le_of_ble_eq_true rfl⟩) hP hD hS hA rfl rfl (by decide) (by decide) (fun r_5 u_ H locs hw_6 hP hD hS => ?_)
        have hw_6 : F_modeNow openContacts fireFloor ride powered = r_5 := hw_6
        have hG := hG.trans (cb_e hw_6)
        have hP : va_P D vwCl [(h1, .inr (2, [.int dstate, .int dplace, .int dplaces, .int dhold, .int dsteps, .int dbeam, .int dob, .int doc])), (h2, .inr (0, [.ref h3, .int ccount, .int cover])), (h3, .inl (aI, 8, .inl cf)), (h4, .inr (3, [.ref h5, .int gap])), (h5, .inl (aI, n, .inl pf)), (k0, .inr (4, [.ref h4, .ref h0, up, .int powered, .int stepsDone])), (h0, .inr (1, [.int wayToOther, .ref h1, .ref h2, .int place, .int speed, .int way, .int topSpeed, .int gain, .int brake, .int darkSpeed, .int rideSpeed, .int kilos, .int mostKilos, .int openContacts, .int fireFloor, .int ride, .int starts, .int distance, .int hardFalls]))] H := hP
        have hD : va_D A [(h1, .inr (2, [.int dstate, .int dplace, .int dplaces, .int dhold, .int dsteps, .int dbeam, .int dob, .int doc])), (h2, .inr (0, [.ref h3, .int ccount, .int cover])), (h3, .inl (aI, 8, .inl cf)), (h4, .inr (3, [.ref h5, .int gap])), (h5, .inl (aI, n, .inl pf)), (k0, .inr (4, [.ref h4, .ref h0, up, .int powered, .int stepsDone])), (h0, .inr (1, [.int wayToOther, .ref h1, .ref h2, .int place, .int speed, .int way, .int topSpeed, .int gain, .int brake, .int darkSpeed, .int rideSpeed, .int kilos, .int mostKilos, .int openContacts, .int fireFloor, .int ride, .int starts, .int distance, .int hardFalls]))] := hD
        have hP := hP.sub (ws' := [(k0, .inr (4, [.ref h4, .ref h0, up, .int powered, .int stepsDone])), (h0, .inr (1, [.int wayToOther, .ref h1, .ref h2, .int place, .int speed, .int way, .int topSpeed, .int gain, .int brake, .int darkSpeed, .int rideSpeed, .int kilos, .int mostKilos, .int openContacts, .int fireFloor, .int ride, .int starts, .int distance, .int hardFalls])), (h1, .inr (2, [.int dstate, .int dplace, .int dplaces, .int dhold, .int dsteps, .int dbeam, .int dob, .int doc])), (h2, .inr (0, [.ref h3, .int ccount, .int cover])), (h3, .inl (aI, 8, .inl cf)), (h4, .inr (3, [.ref h5, .int gap])), (h5, .inl (aI, n, .inl pf))]) [5, 6, 0, 1, 2, 3, 4] rfl
        have hD := hD.sub (ws' := [(k0, .inr (4, [.ref h4, .ref h0, up, .int powered, .int stepsDone])), (h0, .inr (1, [.int wayToOther, .ref h1, .ref h2, .int place, .int speed, .int way, .int topSpeed, .int gain, .int brake, .int darkSpeed, .int rideSpeed, .int kilos, .int mostKilos, .int openContacts, .int fireFloor, .int ride, .int starts, .int distance, .int hardFalls])), (h1, .inr (2, [.int dstate, .int dplace, .int dplaces, .int dhold, .int dsteps, .int dbeam, .int dob, .int doc])), (h2, .inr (0, [.ref h3, .int ccount, .int cover])), (h3, .inl (aI, 8, .inl cf)), (h4, .inr (3, [.ref h5, .int gap])), (h5, .inl (aI, n, .inl pf))]) [5, 6, 0, 1, 2, 3, 4] (by decide) rfl
        exact rtx_i hQ hx hb hr () hG hP hD hS (Nat.le_of_ble_eq_true rfl) (Nat.le_of_ble_eq_true rfl) dX4_told_75 hlk
      · have hG := hG.trans (if_neg c_4)
        by_cases c_7 : p1 = 3
        · have hG := hG.trans (if_pos c_7)
          refine lv_tableIn (off := 69) (tgt := 76) hx hb dX4_told_7 (by rw [c_7]; decide) (by rw [c_7]; decide) (by rw [c_7]; rfl) (by decide) ?_
          refine lv_aload_n hx hb dX4_told_76 rfl (lv_at hl 0 rfl) ?_
          refine va_getN (D := D) (ci := 1) (v := .ref h1) (C := RX1) (T := TX1) (N := 19) hx hb hts inX1 hown hK hP 0 rfl rfl 1 (by decide) (nwF hE 12 rfl) (fun _ h9 => h9) rfl dX4_told_77 ?_
          refine va_getN (D := D) (ci := 2) (v := .int dstate) (C := RX2) (T := TX2) (N := 8) hx hb hts inX2 hown hK hP 1 rfl rfl 0 (by decide) (nwF hE 2 rfl) (fun _ h9 => h9) rfl dX4_told_80 ?_
          have hP := hP.sub (ws' := [(k0, .inr (4, [.ref h4, .ref h0, up, .int powered, .int stepsDone])), (h0, .inr (1, [.int wayToOther, .ref h1, .ref h2, .int place, .int speed, .int way, .int topSpeed, .int gain, .int brake, .int darkSpeed, .int rideSpeed, .int kilos, .int mostKilos, .int openContacts, .int fireFloor, .int ride, .int starts, .int distance, .int hardFalls])), (h1, .inr (2, [.int dstate, .int dplace, .int dplaces, .int dhold, .int dsteps, .int dbeam, .int dob, .int doc])), (h2, .inr (0, [.ref h3, .int ccount, .int cover])), (h3, .inl (aI, 8, .inl cf)), (h4, .inr (3, [.ref h5, .int gap])), (h5, .inl (aI, n, .inl pf))]) [6, 0, 1, 2, 3, 4, 5] rfl
          have hD := hD.sub (ws' := [(k0, .inr (4, [.ref h4, .ref h0, up, .int powered, .int stepsDone])), (h0, .inr (1, [.int wayToOther, .ref h1, .ref h2, .int place, .int speed, .int way, .int topSpeed, .int gain, .int brake, .int darkSpeed, .int rideSpeed, .int kilos, .int mostKilos, .int openContacts, .int fireFloor, .int ride, .int starts, .int distance, .int hardFalls])), (h1, .inr (2, [.int dstate, .int dplace, .int dplaces, .int dhold, .int dsteps, .int dbeam, .int dob, .int doc])), (h2, .inr (0, [.ref h3, .int ccount, .int cover])), (h3, .inl (aI, 8, .inl cf)), (h4, .inr (3, [.ref h5, .int gap])), (h5, .inl (aI, n, .inl pf))]) [6, 0, 1, 2, 3, 4, 5] (by decide) rfl
          exact rtx_i hQ hx hb hr () hG hP hD hS (Nat.le_of_ble_eq_true rfl) (Nat.le_of_ble_eq_true rfl) dX4_told_83 hlk
        · have hG := hG.trans (if_neg c_7)
          by_cases c_8 : p1 = 4
          · have hG := hG.trans (if_pos c_8)
            refine lv_tableIn (off := 77) (tgt := 84) hx hb dX4_told_7 (by rw [c_8]; decide) (by rw [c_8]; decide) (by rw [c_8]; rfl) (by decide) ?_
            refine lv_aload_n hx hb dX4_told_84 rfl (lv_at hl 0 rfl) ?_
            refine va_getN (D := D) (ci := 1) (v := .ref h1) (C := RX1) (T := TX1) (N := 19) hx hb hts inX1 hown hK hP 0 rfl rfl 1 (by decide) (nwF hE 12 rfl) (fun _ h9 => h9) rfl dX4_told_85 ?_
            refine va_getN (D := D) (ci := 2) (v := .int dplace) (C := RX2) (T := TX2) (N := 8) hx hb hts inX2 hown hK hP 1 rfl rfl 1 (by decide) (nwF hE 4 rfl) (fun _ h9 => h9) rfl dX4_told_88 ?_
            have hP := hP.sub (ws' := [(k0, .inr (4, [.ref h4, .ref h0, up, .int powered, .int stepsDone])), (h0, .inr (1, [.int wayToOther, .ref h1, .ref h2, .int place, .int speed, .int way, .int topSpeed, .int gain, .int brake, .int darkSpeed, .int rideSpeed, .int kilos, .int mostKilos, .int openContacts, .int fireFloor, .int ride, .int starts, .int distance, .int hardFalls])), (h1, .inr (2, [.int dstate, .int dplace, .int dplaces, .int dhold, .int dsteps, .int dbeam, .int dob, .int doc])), (h2, .inr (0, [.ref h3, .int ccount, .int cover])), (h3, .inl (aI, 8, .inl cf)), (h4, .inr (3, [.ref h5, .int gap])), (h5, .inl (aI, n, .inl pf))]) [6, 0, 1, 2, 3, 4, 5] rfl
            have hD := hD.sub (ws' := [(k0, .inr (4, [.ref h4, .ref h0, up, .int powered, .int stepsDone])), (h0, .inr (1, [.int wayToOther, .ref h1, .ref h2, .int place, .int speed, .int way, .int topSpeed, .int gain, .int brake, .int darkSpeed, .int rideSpeed, .int kilos, .int mostKilos, .int openContacts, .int fireFloor, .int ride, .int starts, .int distance, .int hardFalls])), (h1, .inr (2, [.int dstate, .int dplace, .int dplaces, .int dhold, .int dsteps, .int dbeam, .int dob, .int doc])), (h2, .inr (0, [.ref h3, .int ccount, .int cover])), (h3, .inl (aI, 8, .inl cf)), (h4, .inr (3, [.ref h5, .int gap])), (h5, .inl (aI, n, .inl pf))]) [6, 0, 1, 2, 3, 4, 5] (by decide) rfl
            exact rtx_i hQ hx hb hr () hG hP hD hS (Nat.le_of_ble_eq_true rfl) (Nat.le_of_ble_eq_true rfl) dX4_told_91 hlk
          · have hG := hG.trans (if_neg c_8)
            by_cases c_9 : p1 = 5
            · have hG := hG.trans (if_pos c_9)
              refine lv_tableIn (off := 85) (tgt := 92) hx hb dX4_told_7 (by rw [c_9]; decide) (by rw [c_9]; decide) (by rw [c_9]; rfl) (by decide) ?_
              refine lv_aload_n hx hb dX4_told_92 rfl (lv_at hl 0 rfl) ?_
              refine va_getN (D := D) (ci := 1) (v := .ref h2) (C := RX1) (T := TX1) (N := 19) hx hb hts inX1 hown hK hP 0 rfl rfl 2 (by decide) (nwF hE 13 rfl) (fun _ h9 => h9) rfl dX4_told_93 ?_
              refine va_getN (D := D) (ci := 0) (v := .int ccount) (C := RX0) (T := TX0) (N := 3) hx hb hts inX0 hown hK hP 2 rfl rfl 1 (by decide) (nwF hE 10 rfl) (fun _ h9 => h9) rfl dX4_told_96 ?_
              have hP := hP.sub (ws' := [(k0, .inr (4, [.ref h4, .ref h0, up, .int powered, .int stepsDone])), (h0, .inr (1, [.int wayToOther, .ref h1, .ref h2, .int place, .int speed, .int way, .int topSpeed, .int gain, .int brake, .int darkSpeed, .int rideSpeed, .int kilos, .int mostKilos, .int openContacts, .int fireFloor, .int ride, .int starts, .int distance, .int hardFalls])), (h1, .inr (2, [.int dstate, .int dplace, .int dplaces, .int dhold, .int dsteps, .int dbeam, .int dob, .int doc])), (h2, .inr (0, [.ref h3, .int ccount, .int cover])), (h3, .inl (aI, 8, .inl cf)), (h4, .inr (3, [.ref h5, .int gap])), (h5, .inl (aI, n, .inl pf))]) [6, 0, 1, 2, 3, 4, 5] rfl
              have hD := hD.sub (ws' := [(k0, .inr (4, [.ref h4, .ref h0, up, .int powered, .int stepsDone])), (h0, .inr (1, [.int wayToOther, .ref h1, .ref h2, .int place, .int speed, .int way, .int topSpeed, .int gain, .int brake, .int darkSpeed, .int rideSpeed, .int kilos, .int mostKilos, .int openContacts, .int fireFloor, .int ride, .int starts, .int distance, .int hardFalls])), (h1, .inr (2, [.int dstate, .int dplace, .int dplaces, .int dhold, .int dsteps, .int dbeam, .int dob, .int doc])), (h2, .inr (0, [.ref h3, .int ccount, .int cover])), (h3, .inl (aI, 8, .inl cf)), (h4, .inr (3, [.ref h5, .int gap])), (h5, .inl (aI, n, .inl pf))]) [6, 0, 1, 2, 3, 4, 5] (by decide) rfl
              exact rtx_i hQ hx hb hr () hG hP hD hS (Nat.le_of_ble_eq_true rfl) (Nat.le_of_ble_eq_true rfl) dX4_told_99 hlk
            · have hG := hG.trans (if_neg c_9)
              by_cases c_10 : p1 = 6
              · have hG := hG.trans (if_pos c_10)
                refine lv_tableIn (off := 93) (tgt := 100) hx hb dX4_told_7 (by rw [c_10]; decide) (by rw [c_10]; decide) (by rw [c_10]; rfl) (by decide) ?_
                refine lv_aload_n hx hb dX4_told_100 rfl (lv_at hl 1 rfl) ?_
                refine va_get (D := D) (ci := 4) (v := .ref h4) (C := RX4) (T := TX4) (N := 5) hx hb hts inX4 hown hK hP 6 rfl rfl 0 (by decide) (hts _ (mG w_79)) (fun _ h9 => h9) rfl dX4_told_101 ?_
                refine lv_aload_n hx hb dX4_told_104 rfl (lv_at hl 0 rfl) ?_
                refine va_getN (D := D) (ci := 1) (v := .int place) (C := RX1) (T := TX1) (N := 19) hx hb hts inX1 hown hK hP 0 rfl rfl 3 (by decide) (nwF hE 14 rfl) (fun _ h9 => h9) rfl dX4_told_105 ?_
                refine my_i (wr := [(h0, .inr (1, [.int wayToOther, .ref h1, .ref h2, .int place, .int speed, .int way, .int topSpeed, .int gain, .int brake, .int darkSpeed, .int rideSpeed, .int kilos, .int mostKilos, .int openContacts, .int fireFloor, .int ride, .int starts, .int distance, .int hardFalls])), (h1, .inr (2, [.int dstate, .int dplace, .int dplaces, .int dhold, .int dsteps, .int dbeam, .int dob, .int doc])), (h2, .inr (0, [.ref h3, .int ccount, .int cover])), (h3, .inl (aI, 8, .inl cf)), (k0, .inr (4, [.ref h4, .ref h0, up, .int powered, .int stepsDone]))]) [4, 5] [0, 1, 2, 3, 6] (va_runV (As := [.int place]) (rest := []) ⟨hx, hb, hml, hown, hts⟩ (c_floorAt l D aI aL aZ _ h4 h5 gap n pf place hn) (cwV 1 hts (gV w_434 w_435 w_436 w_36 w_437) rfl rfl rfl (by decide +kernel) ⟨Nat.le_of_ble_eq_true rfl, Nat.le_of_ble_eq_true rfl⟩) (prev_of hK hP hD hS hA hE [4, 5] rfl (by decide) (ci := 3) rfl 4 rfl _) rfl rfl hl.1 rfl (lv_room (Nat.le_of_ble_eq_true rfl)) dX4_told_108 ⟨Nat.le_of_ble_eq_true rfl, Nat.le_of_ble_eq_true rfl⟩) hP hD hS hA rfl rfl (by decide) (by decide) (fun r_11 u_ H locs hw_12 hP hD hS => ?_)
                have hw_12 : F_floorAt n pf place = r_11 := hw_12
                have hG := hG.trans (cb_e hw_12)
                have hP : va_P D vwCl [(h0, .inr (1, [.int wayToOther, .ref h1, .ref h2, .int place, .int speed, .int way, .int topSpeed, .int gain, .int brake, .int darkSpeed, .int rideSpeed, .int kilos, .int mostKilos, .int openContacts, .int fireFloor, .int ride, .int starts, .int distance, .int hardFalls])), (h1, .inr (2, [.int dstate, .int dplace, .int dplaces, .int dhold, .int dsteps, .int dbeam, .int dob, .int doc])), (h2, .inr (0, [.ref h3, .int ccount, .int cover])), (h3, .inl (aI, 8, .inl cf)), (k0, .inr (4, [.ref h4, .ref h0, up, .int powered, .int stepsDone])), (h4, .inr (3, [.ref h5, .int gap])), (h5, .inl (aI, n, .inl pf))] H := hP
                have hD : va_D A [(h0, .inr (1, [.int wayToOther, .ref h1, .ref h2, .int place, .int speed, .int way, .int topSpeed, .int gain, .int brake, .int darkSpeed, .int rideSpeed, .int kilos, .int mostKilos, .int openContacts, .int fireFloor, .int ride, .int starts, .int distance, .int hardFalls])), (h1, .inr (2, [.int dstate, .int dplace, .int dplaces, .int dhold, .int dsteps, .int dbeam, .int dob, .int doc])), (h2, .inr (0, [.ref h3, .int ccount, .int cover])), (h3, .inl (aI, 8, .inl cf)), (k0, .inr (4, [.ref h4, .ref h0, up, .int powered, .int stepsDone])), (h4, .inr (3, [.ref h5, .int gap])), (h5, .inl (aI, n, .inl pf))] := hD
                have hP := hP.sub (ws' := [(k0, .inr (4, [.ref h4, .ref h0, up, .int powered, .int stepsDone])), (h0, .inr (1, [.int wayToOther, .ref h1, .ref h2, .int place, .int speed, .int way, .int topSpeed, .int gain, .int brake, .int darkSpeed, .int rideSpeed, .int kilos, .int mostKilos, .int openContacts, .int fireFloor, .int ride, .int starts, .int distance, .int hardFalls])), (h1, .inr (2, [.int dstate, .int dplace, .int dplaces, .int dhold, .int dsteps, .int dbeam, .int dob, .int doc])), (h2, .inr (0, [.ref h3, .int ccount, .int cover])), (h3, .inl (aI, 8, .inl cf)), (h4, .inr (3, [.ref h5, .int gap])), (h5, .inl (aI, n, .inl pf))]) [4, 0, 1, 2, 3, 5, 6] rfl
                have hD := hD.sub (ws' := [(k0, .inr (4, [.ref h4, .ref h0, up, .int powered, .int stepsDone])), (h0, .inr (1, [.int wayToOther, .ref h1, .ref h2, .int place, .int speed, .int way, .int topSpeed, .int gain, .int brake, .int darkSpeed, .int rideSpeed, .int kilos, .int mostKilos, .int openContacts, .int fireFloor, .int ride, .int starts, .int distance, .int hardFalls])), (h1, .inr (2, [.int dstate, .int dplace, .int dplaces, .int dhold, .int dsteps, .int dbeam, .int dob, .int doc])), (h2, .inr (0, [.ref h3, .int ccount, .int cover])), (h3, .inl (aI, 8, .inl cf)), (h4, .inr (3, [.ref h5, .int gap])), (h5, .inl (aI, n, .inl pf))]) [4, 0, 1, 2, 3, 5, 6] (by decide) rfl
                exact rtx_i hQ hx hb hr () hG hP hD hS (Nat.le_of_ble_eq_true rfl) (Nat.le_of_ble_eq_true rfl) dX4_told_111 hlk
              · have hG := hG.trans (if_neg c_10)
                by_cases c_13 : p1 = 7
                · have hG := hG.trans (if_pos c_13)
                  refine lv_tableIn (off := 105) (tgt := 112) hx hb dX4_told_7 (by rw [c_13]; decide) (by rw [c_13]; decide) (by rw [c_13]; rfl) (by decide) ?_
                  refine lv_aload_n hx hb dX4_told_112 rfl (lv_at hl 0 rfl) ?_
                  refine lv_aload_n hx hb dX4_told_113 rfl (lv_at hl 0 rfl) ?_
                  refine lv_aload_n hx hb dX4_told_114 rfl (lv_at hl 1 rfl) ?_
                  refine va_get (D := D) (ci := 4) (v := .int powered) (C := RX4) (T := TX4) (N := 5) hx hb hts inX4 hown hK hP 6 rfl rfl 3 (by decide) (hts _ (mG w_82)) (fun _ h9 => h9) rfl dX4_told_115 ?_
                  refine my_i (wr := [(h1, .inr (2, [.int dstate, .int dplace, .int dplaces, .int dhold, .int dsteps, .int dbeam, .int dob, .int doc])), (h2, .inr (0, [.ref h3, .int ccount, .int cover])), (h3, .inl (aI, 8, .inl cf)), (h4, .inr (3, [.ref h5, .int gap])), (h5, .inl (aI, n, .inl pf)), (k0, .inr (4, [.ref h4, .ref h0, up, .int powered, .int stepsDone]))]) [0] [1, 2, 3, 4, 5, 6] (va_runV (As := [.int powered]) (rest := [.ref h0]) ⟨hx, hb, hml, hown, hts⟩ (c_modeNow l D aI aL aZ _ h0 h1 h2 wayToOther place speed way topSpeed gain brake darkSpeed rideSpeed kilos mostKilos openContacts fireFloor ride starts distance hardFalls powered) (cwV 1 hts (gV w_619 w_508 w_509 w_44 w_510) rfl rfl rfl (by decide +kernel) ⟨Nat.le_of_ble_eq_true rfl, Nat.le_of_ble_eq_true rfl⟩) (prev_of hK hP hD hS hA hE [0] rfl (by decide) (ci := 1) rfl 0 rfl _) rfl rfl hl.1 rfl (lv_room (Nat.le_of_ble_eq_true rfl)) dX4_told_118 ⟨Nat.le_of_ble_eq_true rfl, Nat.le_of_ble_eq_true rfl⟩) hP hD hS hA rfl rfl (by decide) (by decide) (fun r_14 u_ H locs hw_15 hP hD hS => ?_)
                  have hw_15 : F_modeNow openContacts fireFloor ride powered = r_14 := hw_15
                  have hG := hG.trans (cb_e hw_15)
                  have hP : va_P D vwCl [(h1, .inr (2, [.int dstate, .int dplace, .int dplaces, .int dhold, .int dsteps, .int dbeam, .int dob, .int doc])), (h2, .inr (0, [.ref h3, .int ccount, .int cover])), (h3, .inl (aI, 8, .inl cf)), (h4, .inr (3, [.ref h5, .int gap])), (h5, .inl (aI, n, .inl pf)), (k0, .inr (4, [.ref h4, .ref h0, up, .int powered, .int stepsDone])), (h0, .inr (1, [.int wayToOther, .ref h1, .ref h2, .int place, .int speed, .int way, .int topSpeed, .int gain, .int brake, .int darkSpeed, .int rideSpeed, .int kilos, .int mostKilos, .int openContacts, .int fireFloor, .int ride, .int starts, .int distance, .int hardFalls]))] H := hP
                  have hD : va_D A [(h1, .inr (2, [.int dstate, .int dplace, .int dplaces, .int dhold, .int dsteps, .int dbeam, .int dob, .int doc])), (h2, .inr (0, [.ref h3, .int ccount, .int cover])), (h3, .inl (aI, 8, .inl cf)), (h4, .inr (3, [.ref h5, .int gap])), (h5, .inl (aI, n, .inl pf)), (k0, .inr (4, [.ref h4, .ref h0, up, .int powered, .int stepsDone])), (h0, .inr (1, [.int wayToOther, .ref h1, .ref h2, .int place, .int speed, .int way, .int topSpeed, .int gain, .int brake, .int darkSpeed, .int rideSpeed, .int kilos, .int mostKilos, .int openContacts, .int fireFloor, .int ride, .int starts, .int distance, .int hardFalls]))] := hD
                  refine lv_aload_n hx hb dX4_told_121 rfl (lv_at hl 1 rfl) ?_
                  refine va_get (D := D) (ci := 4) (v := .ref h4) (C := RX4) (T := TX4) (N := 5) hx hb hts inX4 hown hK hP 5 rfl rfl 0 (by decide) (hts _ (mG w_79)) (fun _ h9 => h9) rfl dX4_told_122 ?_
                  refine my_i (wr := [(h1, .inr (2, [.int dstate, .int dplace, .int dplaces, .int dhold, .int dsteps, .int dbeam, .int dob, .int doc])), (k0, .inr (4, [.ref h4, .ref h0, up, .int powered, .int stepsDone]))]) [6, 1, 2, 3, 4] [0, 5] (va_runV (As := [.int r_14, .ref h4]) (rest := []) ⟨hx, hb, hml, hown, hts⟩ (c_wantedPlace l D aI aL aZ _ h0 h1 h2 wayToOther place speed way topSpeed gain brake darkSpeed rideSpeed kilos mostKilos openContacts fireFloor ride starts distance hardFalls h3 h4 h5 ccount cover cf gap n pf r_14 hn hn1) (cwV 2 hts (gV w_620 w_512 w_513 w_44 w_514) rfl rfl rfl (by decide +kernel) ⟨Nat.le_of_ble_eq_true rfl, Nat.le_of_ble_eq_true rfl⟩) (prev_of hK hP hD hS hA hE [6, 1, 2, 3, 4] rfl (by decide) (ci := 1) rfl 6 rfl _) rfl rfl hl.1 rfl (lv_room (Nat.le_of_ble_eq_true rfl)) dX4_told_125 ⟨Nat.le_of_ble_eq_true rfl, Nat.le_of_ble_eq_true rfl⟩) hP hD hS hA rfl rfl (by decide) (by decide) (fun r_16 u_ H locs hw_17 hP hD hS => ?_)
                  have hw_17 : F_wantedPlace place fireFloor ride ccount cf n pf r_14 = r_16 := hw_17
                  have hG := hG.trans (cb_e hw_17)
                  have hP : va_P D vwCl [(h1, .inr (2, [.int dstate, .int dplace, .int dplaces, .int dhold, .int dsteps, .int dbeam, .int dob, .int doc])), (k0, .inr (4, [.ref h4, .ref h0, up, .int powered, .int stepsDone])), (h0, .inr (1, [.int wayToOther, .ref h1, .ref h2, .int place, .int speed, .int way, .int topSpeed, .int gain, .int brake, .int darkSpeed, .int rideSpeed, .int kilos, .int mostKilos, .int openContacts, .int fireFloor, .int ride, .int starts, .int distance, .int hardFalls])), (h2, .inr (0, [.ref h3, .int ccount, .int cover])), (h3, .inl (aI, 8, .inl cf)), (h4, .inr (3, [.ref h5, .int gap])), (h5, .inl (aI, n, .inl pf))] H := hP
                  have hD : va_D A [(h1, .inr (2, [.int dstate, .int dplace, .int dplaces, .int dhold, .int dsteps, .int dbeam, .int dob, .int doc])), (k0, .inr (4, [.ref h4, .ref h0, up, .int powered, .int stepsDone])), (h0, .inr (1, [.int wayToOther, .ref h1, .ref h2, .int place, .int speed, .int way, .int topSpeed, .int gain, .int brake, .int darkSpeed, .int rideSpeed, .int kilos, .int mostKilos, .int openContacts, .int fireFloor, .int ride, .int starts, .int distance, .int hardFalls])), (h2, .inr (0, [.ref h3, .int ccount, .int cover])), (h3, .inl (aI, 8, .inl cf)), (h4, .inr (3, [.ref h5, .int gap])), (h5, .inl (aI, n, .inl pf))] := hD
                  have hP := hP.sub (ws' := [(k0, .inr (4, [.ref h4, .ref h0, up, .int powered, .int stepsDone])), (h0, .inr (1, [.int wayToOther, .ref h1, .ref h2, .int place, .int speed, .int way, .int topSpeed, .int gain, .int brake, .int darkSpeed, .int rideSpeed, .int kilos, .int mostKilos, .int openContacts, .int fireFloor, .int ride, .int starts, .int distance, .int hardFalls])), (h1, .inr (2, [.int dstate, .int dplace, .int dplaces, .int dhold, .int dsteps, .int dbeam, .int dob, .int doc])), (h2, .inr (0, [.ref h3, .int ccount, .int cover])), (h3, .inl (aI, 8, .inl cf)), (h4, .inr (3, [.ref h5, .int gap])), (h5, .inl (aI, n, .inl pf))]) [1, 2, 0, 3, 4, 5, 6] rfl
                  have hD := hD.sub (ws' := [(k0, .inr (4, [.ref h4, .ref h0, up, .int powered, .int stepsDone])), (h0, .inr (1, [.int wayToOther, .ref h1, .ref h2, .int place, .int speed, .int way, .int topSpeed, .int gain, .int brake, .int darkSpeed, .int rideSpeed, .int kilos, .int mostKilos, .int openContacts, .int fireFloor, .int ride, .int starts, .int distance, .int hardFalls])), (h1, .inr (2, [.int dstate, .int dplace, .int dplaces, .int dhold, .int dsteps, .int dbeam, .int dob, .int doc])), (h2, .inr (0, [.ref h3, .int ccount, .int cover])), (h3, .inl (aI, 8, .inl cf)), (h4, .inr (3, [.ref h5, .int gap])), (h5, .inl (aI, n, .inl pf))]) [1, 2, 0, 3, 4, 5, 6] (by decide) rfl
                  exact rtx_i hQ hx hb hr () hG hP hD hS (Nat.le_of_ble_eq_true rfl) (Nat.le_of_ble_eq_true rfl) dX4_told_128 hlk
                · have hG := hG.trans (if_neg c_13)
                  refine lv_tableOut (tgt := 129) hx hb dX4_told_7 (by have q0 := lv_neT c_2 (a := 0) (by decide); have q1 := lv_neT c_3 (a := 1) (by decide); have q2 := lv_neT c_4 (a := 2) (by decide); have q3 := lv_neT c_7 (a := 3) (by decide); have q4 := lv_neT c_8 (a := 4) (by decide); have q5 := lv_neT c_9 (a := 5) (by decide); have q6 := lv_neT c_10 (a := 6) (by decide); have q7 := lv_neT c_13 (a := 7) (by decide); omega) (by decide) ?_
                  exact my_throw (own := RX4) (cls := "java/lang/IllegalArgumentException") (text := "there is no such thing to be told") 1 [6, 0, 1, 2, 3, 4, 5] hx hb hl9 hown (by decide +kernel) (hts _ (mG w_118)) (hts _ (mG w_42)) 11 rfl mt_92 hts tb_X4_92 tg_X4_92 hE hS (hl.1.trans hml.symm) dX4_told_129 dX4_told_132 dX4_told_133 dX4_told_135 dX4_told_138 hout (Nat.le_of_ble_eq_true rfl) (Nat.le_of_ble_eq_true rfl) (Nat.le_of_ble_eq_true rfl) (Nat.le_of_ble_eq_true rfl) hlk hQ rfl ⟨hG, rfl⟩ hP hD rfl (by decide) (Nat.le_of_ble_eq_true rfl) (Nat.le_of_ble_eq_true rfl)
def F_told_1 (powered : Int32) (place : Int32) (speed : Int32) (way : Int32) (openContacts : Int32) (fireFloor : Int32) (ride : Int32) (dstate : Int32) (dplace : Int32) (ccount : Int32) (cf : Nat → Int32) (n : Nat) (pf : Nat → Int32) (p1 : Int32) : Int32 ⊕ Int32 :=
  cx F_carOf_1 fun _ =>
    if p1 = 0 then
      .inr place
    else
      if p1 = 1 then
        .inr (speed * way)
      else
        if p1 = 2 then
          cb (F_modeNow openContacts fireFloor ride powered) fun r_5 =>
            .inr r_5
        else
          if p1 = 3 then
            .inr dstate
          else
            if p1 = 4 then
              .inr dplace
            else
              if p1 = 5 then
                .inr ccount
              else
                if p1 = 6 then
                  cb (F_floorAt n pf place) fun r_11 =>
                    .inr r_11
                else
                  if p1 = 7 then
                    cb (F_modeNow openContacts fireFloor ride powered) fun r_14 =>
                      cb (F_wantedPlace place fireFloor ride ccount cf n pf r_14) fun r_16 =>
                        .inr r_16
                  else
                    .inl 1
theorem F_told_1_u (powered : Int32) (place : Int32) (speed : Int32) (way : Int32) (openContacts : Int32) (fireFloor : Int32) (ride : Int32) (dstate : Int32) (dplace : Int32) (ccount : Int32) (cf : Nat → Int32) (n : Nat) (pf : Nat → Int32) (p1 : Int32) : F_told_1 powered place speed way openContacts fireFloor ride dstate dplace ccount cf n pf p1 =
  (cx F_carOf_1 fun _ =>
    if p1 = 0 then
      .inr place
    else
      if p1 = 1 then
        .inr (speed * way)
      else
        if p1 = 2 then
          cb (F_modeNow openContacts fireFloor ride powered) fun r_5 =>
            .inr r_5
        else
          if p1 = 3 then
            .inr dstate
          else
            if p1 = 4 then
              .inr dplace
            else
              if p1 = 5 then
                .inr ccount
              else
                if p1 = 6 then
                  cb (F_floorAt n pf place) fun r_11 =>
                    .inr r_11
                else
                  if p1 = 7 then
                    cb (F_modeNow openContacts fireFloor ride powered) fun r_14 =>
                      cb (F_wantedPlace place fireFloor ride ccount cf n pf r_14) fun r_16 =>
                        .inr r_16
                  else
                    .inl 1) := rfl
set_option maxHeartbeats 4000000 in
set_option maxRecDepth 100000 in
theorem c_told_1 (l : Launch) (hl9 : l.stackTraces = false) (D : va_G) (aI aL aZ : ClassId) (sz : Nat) (k0 : Nat) (h4 : Nat) (powered : Int32) (stepsDone : Int32) (lo : Value) (h0 : Nat) (h1 : Nat) (h2 : Nat) (wayToOther : Int32) (place : Int32) (speed : Int32) (way : Int32) (topSpeed : Int32) (gain : Int32) (brake : Int32) (darkSpeed : Int32) (rideSpeed : Int32) (kilos : Int32) (mostKilos : Int32) (openContacts : Int32) (fireFloor : Int32) (ride : Int32) (starts : Int32) (distance : Int32) (hardFalls : Int32) (dstate : Int32) (dplace : Int32) (dplaces : Int32) (dhold : Int32) (dsteps : Int32) (dbeam : Int32) (dob : Int32) (doc : Int32) (h3 : Nat) (ccount : Int32) (cover : Int32) (cf : Nat → Int32) (h5 : Nat) (gap : Int32) (n : Nat) (pf : Nat → Int32) (p1 : Int32) (hn : n < 2 ^ 31) (hn1 : 1 ≤ n) : vx_Met l yX4_told (.code yX4_told cX4_told 4 (some .int) :: Gw) ({ frames := 6, cells := 1, slots := 6, locals := 92 }) (va_Pc [.ref k0, .int 1, .int p1] (mpre D [(aI, .int), (aL, .long), (aZ, .boolean)] [(k0, .inr (4, [.ref h4, lo, .ref h0, .int powered, .int stepsDone])), (h0, .inr (1, [.int wayToOther, .ref h1, .ref h2, .int place, .int speed, .int way, .int topSpeed, .int gain, .int brake, .int darkSpeed, .int rideSpeed, .int kilos, .int mostKilos, .int openContacts, .int fireFloor, .int ride, .int starts, .int distance, .int hardFalls])), (h1, .inr (2, [.int dstate, .int dplace, .int dplaces, .int dhold, .int dsteps, .int dbeam, .int dob, .int doc])), (h2, .inr (0, [.ref h3, .int ccount, .int cover])), (h3, .inl (aI, 8, .inl cf)), (h4, .inr (3, [.ref h5, .int gap])), (h5, .inl (aI, n, .inl pf))] sz)) ((fun A : Nat → Prop => va_Qi (fun (r : Int32) (u : Unit) => F_told_1 powered place speed way openContacts fireFloor ride dstate dplace ccount cf n pf p1 = .inr r) (mpst D A (fun (u : Unit) => [(k0, .inr (4, [.ref h4, lo, .ref h0, .int powered, .int stepsDone])), (h0, .inr (1, [.int wayToOther, .ref h1, .ref h2, .int place, .int speed, .int way, .int topSpeed, .int gain, .int brake, .int darkSpeed, .int rideSpeed, .int kilos, .int mostKilos, .int openContacts, .int fireFloor, .int ride, .int starts, .int distance, .int hardFalls])), (h1, .inr (2, [.int dstate, .int dplace, .int dplaces, .int dhold, .int dsteps, .int dbeam, .int dob, .int doc])), (h2, .inr (0, [.ref h3, .int ccount, .int cover])), (h3, .inl (aI, 8, .inl cf)), (h4, .inr (3, [.ref h5, .int gap])), (h5, .inl (aI, n, .inl pf))])) A) (va_A ([(k0, .inr (4, [.ref h4, lo, .ref h0, .int powered, .int stepsDone])), (h0, .inr (1, [.int wayToOther, .ref h1, .ref h2, .int place, .int speed, .int way, .int topSpeed, .int gain, .int brake, .int darkSpeed, .int rideSpeed, .int kilos, .int mostKilos, .int openContacts, .int fireFloor, .int ride, .int starts, .int distance, .int hardFalls])), (h1, .inr (2, [.int dstate, .int dplace, .int dplaces, .int dhold, .int dsteps, .int dbeam, .int dob, .int doc])), (h2, .inr (0, [.ref h3, .int ccount, .int cover])), (h3, .inl (aI, 8, .inl cf)), (h4, .inr (3, [.ref h5, .int gap])), (h5, .inl (aI, n, .inl pf))]) sz)) ((fun A : Nat → Prop => vx_X (fun u : Int32 => F_told_1 powered place speed way openContacts fireFloor ride dstate dplace ccount cf n pf p1 = .inl u ∧ (u = 1)) (mpsx D A [(k0, .inr (4, [.ref h4, lo, .ref h0, .int powered, .int stepsDone])), (h0, .inr (1, [.int wayToOther, .ref h1, .ref h2, .int place, .int speed, .int way, .int topSpeed, .int gain, .int brake, .int darkSpeed, .int rideSpeed, .int kilos, .int mostKilos, .int openContacts, .int fireFloor, .int ride, .int starts, .int distance, .int hardFalls])), (h1, .inr (2, [.int dstate, .int dplace, .int dplaces, .int dhold, .int dsteps, .int dbeam, .int dob, .int doc])), (h2, .inr (0, [.ref h3, .int ccount, .int cover])), (h3, .inl (aI, 8, .inl cf)), (h4, .inr (3, [.ref h5, .int gap])), (h5, .inl (aI, n, .inl pf))]) A) (va_A ([(k0, .inr (4, [.ref h4, lo, .ref h0, .int powered, .int stepsDone])), (h0, .inr (1, [.int wayToOther, .ref h1, .ref h2, .int place, .int speed, .int way, .int topSpeed, .int gain, .int brake, .int darkSpeed, .int rideSpeed, .int kilos, .int mostKilos, .int openContacts, .int fireFloor, .int ride, .int starts, .int distance, .int hardFalls])), (h1, .inr (2, [.int dstate, .int dplace, .int dplaces, .int dhold, .int dsteps, .int dbeam, .int dob, .int doc])), (h2, .inr (0, [.ref h3, .int ccount, .int cover])), (h3, .inl (aI, 8, .inl cf)), (h4, .inr (3, [.ref h5, .int gap])), (h5, .inl (aI, n, .inl pf))]) sz)) 1 6 (va_A ([(k0, .inr (4, [.ref h4, lo, .ref h0, .int powered, .int stepsDone])), (h0, .inr (1, [.int wayToOther, .ref h1, .ref h2, .int place, .int speed, .int way, .int topSpeed, .int gain, .int brake, .int darkSpeed, .int rideSpeed, .int kilos, .int mostKilos, .int openContacts, .int fireFloor, .int ride, .int starts, .int distance, .int hardFalls])), (h1, .inr (2, [.int dstate, .int dplace, .int dplaces, .int dhold, .int dsteps, .int dbeam, .int dob, .int doc])), (h2, .inr (0, [.ref h3, .int ccount, .int cover])), (h3, .inl (aI, 8, .inl cf)), (h4, .inr (3, [.ref h5, .int gap])), (h5, .inl (aI, n, .inl pf))]) sz) := by
  refine enx (cc := cX4_told) (maxL := 4) (ret := (some .int)) (Qc := (fun A : Nat → Prop => va_Qi (fun (r : Int32) (u : Unit) => F_told_1 powered place speed way openContacts fireFloor ride dstate dplace ccount cf n pf p1 = .inr r) (mpst D A (fun (u : Unit) => [(k0, .inr (4, [.ref h4, lo, .ref h0, .int powered, .int stepsDone])), (h0, .inr (1, [.int wayToOther, .ref h1, .ref h2, .int place, .int speed, .int way, .int topSpeed, .int gain, .int brake, .int darkSpeed, .int rideSpeed, .int kilos, .int mostKilos, .int openContacts, .int fireFloor, .int ride, .int starts, .int distance, .int hardFalls])), (h1, .inr (2, [.int dstate, .int dplace, .int dplaces, .int dhold, .int dsteps, .int dbeam, .int dob, .int doc])), (h2, .inr (0, [.ref h3, .int ccount, .int cover])), (h3, .inl (aI, 8, .inl cf)), (h4, .inr (3, [.ref h5, .int gap])), (h5, .inl (aI, n, .inl pf))])) A)) (XC := (fun A : Nat → Prop => vx_X (fun u : Int32 => F_told_1 powered place speed way openContacts fireFloor ride dstate dplace ccount cf n pf p1 = .inl u ∧ (u = 1)) (mpsx D A [(k0, .inr (4, [.ref h4, lo, .ref h0, .int powered, .int stepsDone])), (h0, .inr (1, [.int wayToOther, .ref h1, .ref h2, .int place, .int speed, .int way, .int topSpeed, .int gain, .int brake, .int darkSpeed, .int rideSpeed, .int kilos, .int mostKilos, .int openContacts, .int fireFloor, .int ride, .int starts, .int distance, .int hardFalls])), (h1, .inr (2, [.int dstate, .int dplace, .int dplaces, .int dhold, .int dsteps, .int dbeam, .int dob, .int doc])), (h2, .inr (0, [.ref h3, .int ccount, .int cover])), (h3, .inl (aI, 8, .inl cf)), (h4, .inr (3, [.ref h5, .int gap])), (h5, .inl (aI, n, .inl pf))]) A)) (by decide) rfl (Nat.le_of_ble_eq_true rfl) ?_
  intro p e s m args below meth c A ls Q hQ hx hb hr hts hown hlk hnm hml hout hA hS hP hK hD hE hl
  have hown : s.vm.findClass RX4 = some m.cls := hown
  have hl : lv_has ls 4 [(0, .ref k0), (1, .int 1), (2, .int p1)] := hl
  have hG := F_told_1_u powered place speed way openContacts fireFloor ride dstate dplace ccount cf n pf p1
  refine lv_aload_n hx hb dX4_told_0 rfl (lv_at hl 0 rfl) ?_
  refine lv_iload_n hx hb dX4_told_1 rfl (lv_at hl 1 rfl) ?_
  refine my_xr (wr := [(h0, .inr (1, [.int wayToOther, .ref h1, .ref h2, .int place, .int speed, .int way, .int topSpeed, .int gain, .int brake, .int darkSpeed, .int rideSpeed, .int kilos, .int mostKilos, .int openContacts, .int fireFloor, .int ride, .int starts, .int distance, .int hardFalls])), (h1, .inr (2, [.int dstate, .int dplace, .int dplaces, .int dhold, .int dsteps, .int dbeam, .int dob, .int doc])), (h2, .inr (0, [.ref h3, .int ccount, .int cover])), (h3, .inl (aI, 8, .inl cf)), (h4, .inr (3, [.ref h5, .int gap])), (h5, .inl (aI, n, .inl pf))]) [0] [1, 2, 3, 4, 5, 6] [6, 0, 1, 2, 3, 4, 5] (vx_runV (As := [.int 1]) (rest := []) ⟨hx, hb, hml, hown, hts⟩ (c_carOf_1 l hl9 D aI aL aZ _ k0 h4 powered stepsDone h0 lo) (cwV 1 hts (gV w_393 w_395 w_2 w_35 w_396) rfl rfl rfl (by decide +kernel) ⟨Nat.le_of_ble_eq_true rfl, Nat.le_of_ble_eq_true rfl⟩) (prev_of hK hP hD hS hA hE [0] rfl (by decide) (ci := 4) rfl 0 rfl _) rfl rfl hl.1 rfl (lv_room (Nat.le_of_ble_eq_true rfl)) dX4_told_2 ⟨Nat.le_of_ble_eq_true rfl, Nat.le_of_ble_eq_true rfl⟩) hP hD hS hA rfl rfl (by decide) (by decide) hQ (fun _ h9 => ⟨hG.trans (cx_l h9.1), (False.elim h9.2)⟩) hout hlk rfl (by decide) (Nat.le_of_ble_eq_true rfl) (Nat.le_of_ble_eq_true rfl) (fun u_ H locs hw_1 hP hD hS => ?_)
  have hw_1 : F_carOf_1 = .inr () := hw_1
  have hG := hG.trans (cx_r hw_1)
  have hP : va_P D vwCl [(h0, .inr (1, [.int wayToOther, .ref h1, .ref h2, .int place, .int speed, .int way, .int topSpeed, .int gain, .int brake, .int darkSpeed, .int rideSpeed, .int kilos, .int mostKilos, .int openContacts, .int fireFloor, .int ride, .int starts, .int distance, .int hardFalls])), (h1, .inr (2, [.int dstate, .int dplace, .int dplaces, .int dhold, .int dsteps, .int dbeam, .int dob, .int doc])), (h2, .inr (0, [.ref h3, .int ccount, .int cover])), (h3, .inl (aI, 8, .inl cf)), (h4, .inr (3, [.ref h5, .int gap])), (h5, .inl (aI, n, .inl pf)), (k0, .inr (4, [.ref h4, lo, .ref h0, .int powered, .int stepsDone]))] H := hP
  have hD : va_D A [(h0, .inr (1, [.int wayToOther, .ref h1, .ref h2, .int place, .int speed, .int way, .int topSpeed, .int gain, .int brake, .int darkSpeed, .int rideSpeed, .int kilos, .int mostKilos, .int openContacts, .int fireFloor, .int ride, .int starts, .int distance, .int hardFalls])), (h1, .inr (2, [.int dstate, .int dplace, .int dplaces, .int dhold, .int dsteps, .int dbeam, .int dob, .int doc])), (h2, .inr (0, [.ref h3, .int ccount, .int cover])), (h3, .inl (aI, 8, .inl cf)), (h4, .inr (3, [.ref h5, .int gap])), (h5, .inl (aI, n, .inl pf)), (k0, .inr (4, [.ref h4, lo, .ref h0, .int powered, .int stepsDone]))] := hD
  refine lv_astore_n (lv' := [(3, .ref h0), (0, .ref k0), (1, .int 1), (2, .int p1)]) hx hb dX4_told_5 rfl hl (by decide) rfl (fun ls hl => ?_)
  refine lv_iload_n hx hb dX4_told_6 rfl (lv_at hl 3 rfl) ?_
  by_cases c_2 : p1 = 0
  · have hG := hG.trans (if_pos c_2)
    refine lv_tableIn (off := 45) (tgt := 52) hx hb dX4_told_7 (by rw [c_2]; decide) (by rw [c_2]; decide) (by rw [c_2]; rfl) (by decide) ?_
    refine lv_aload_n hx hb dX4_told_52 rfl (lv_at hl 0 rfl) ?_
    refine va_getN (D := D) (ci := 1) (v := .int place) (C := RX1) (T := TX1) (N := 19) hx hb hts inX1 hown hK hP 0 rfl rfl 3 (by decide) (nwF hE 14 rfl) (fun _ h9 => h9) rfl dX4_told_53 ?_
    have hP := hP.sub (ws' := [(k0, .inr (4, [.ref h4, lo, .ref h0, .int powered, .int stepsDone])), (h0, .inr (1, [.int wayToOther, .ref h1, .ref h2, .int place, .int speed, .int way, .int topSpeed, .int gain, .int brake, .int darkSpeed, .int rideSpeed, .int kilos, .int mostKilos, .int openContacts, .int fireFloor, .int ride, .int starts, .int distance, .int hardFalls])), (h1, .inr (2, [.int dstate, .int dplace, .int dplaces, .int dhold, .int dsteps, .int dbeam, .int dob, .int doc])), (h2, .inr (0, [.ref h3, .int ccount, .int cover])), (h3, .inl (aI, 8, .inl cf)), (h4, .inr (3, [.ref h5, .int gap])), (h5, .inl (aI, n, .inl pf))]) [6, 0, 1, 2, 3, 4, 5] rfl
    have hD := hD.sub (ws' := [(k0, .inr (4, [.ref h4, lo, .ref h0, .int powered, .int stepsDone])), (h0, .inr (1, [.int wayToOther, .ref h1, .ref h2, .int place, .int speed, .int way, .int topSpeed, .int gain, .int brake, .int darkSpeed, .int rideSpeed, .int kilos, .int mostKilos, .int openContacts, .int fireFloor, .int ride, .int starts, .int distance, .int hardFalls])), (h1, .inr (2, [.int dstate, .int dplace, .int dplaces, .int dhold, .int dsteps, .int dbeam, .int dob, .int doc])), (h2, .inr (0, [.ref h3, .int ccount, .int cover])), (h3, .inl (aI, 8, .inl cf)), (h4, .inr (3, [.ref h5, .int gap])), (h5, .inl (aI, n, .inl pf))]) [6, 0, 1, 2, 3, 4, 5] (by decide) rfl
    exact rtx_i hQ hx hb hr () hG hP hD hS (Nat.le_of_ble_eq_true rfl) (Nat.le_of_ble_eq_true rfl) dX4_told_56 hlk
  · have hG := hG.trans (if_neg c_2)
    by_cases c_3 : p1 = 1
    · have hG := hG.trans (if_pos c_3)
      refine lv_tableIn (off := 50) (tgt := 57) hx hb dX4_told_7 (by rw [c_3]; decide) (by rw [c_3]; decide) (by rw [c_3]; rfl) (by decide) ?_
      refine lv_aload_n hx hb dX4_told_57 rfl (lv_at hl 0 rfl) ?_
      refine va_getN (D := D) (ci := 1) (v := .int speed) (C := RX1) (T := TX1) (N := 19) hx hb hts inX1 hown hK hP 0 rfl rfl 4 (by decide) (nwF hE 15 rfl) (fun _ h9 => h9) rfl dX4_told_58 ?_
      refine lv_aload_n hx hb dX4_told_61 rfl (lv_at hl 0 rfl) ?_
      refine va_getN (D := D) (ci := 1) (v := .int way) (C := RX1) (T := TX1) (N := 19) hx hb hts inX1 hown hK hP 0 rfl rfl 5 (by decide) (nwF hE 16 rfl) (fun _ h9 => h9) rfl dX4_told_62 ?_
      refine lv_imul hx hb dX4_told_65 ?_
      have hP := hP.sub (ws' := [(k0, .inr (4, [.ref h4, lo, .ref h0, .int powered, .int stepsDone])), (h0, .inr (1, [.int wayToOther, .ref h1, .ref h2, .int place, .int speed, .int way, .int topSpeed, .int gain, .int brake, .int darkSpeed, .int rideSpeed, .int kilos, .int mostKilos, .int openContacts, .int fireFloor, .int ride, .int starts, .int distance, .int hardFalls])), (h1, .inr (2, [.int dstate, .int dplace, .int dplaces, .int dhold, .int dsteps, .int dbeam, .int dob, .int doc])), (h2, .inr (0, [.ref h3, .int ccount, .int cover])), (h3, .inl (aI, 8, .inl cf)), (h4, .inr (3, [.ref h5, .int gap])), (h5, .inl (aI, n, .inl pf))]) [6, 0, 1, 2, 3, 4, 5] rfl
      have hD := hD.sub (ws' := [(k0, .inr (4, [.ref h4, lo, .ref h0, .int powered, .int stepsDone])), (h0, .inr (1, [.int wayToOther, .ref h1, .ref h2, .int place, .int speed, .int way, .int topSpeed, .int gain, .int brake, .int darkSpeed, .int rideSpeed, .int kilos, .int mostKilos, .int openContacts, .int fireFloor, .int ride, .int starts, .int distance, .int hardFalls])), (h1, .inr (2, [.int dstate, .int dplace, .int dplaces, .int dhold, .int dsteps, .int dbeam, .int dob, .int doc])), (h2, .inr (0, [.ref h3, .int ccount, .int cover])), (h3, .inl (aI, 8, .inl cf)), (h4, .inr (3, [.ref h5, .int gap])), (h5, .inl (aI, n, .inl pf))]) [6, 0, 1, 2, 3, 4, 5] (by decide) rfl
      exact rtx_i hQ hx hb hr () hG hP hD hS (Nat.le_of_ble_eq_true rfl) (Nat.le_of_ble_eq_true rfl) dX4_told_66 hlk
    · have hG := hG.trans (if_neg c_3)
      by_cases c_4 : p1 = 2
      · have hG := hG.trans (if_pos c_4)
        refine lv_tableIn (off := 60) (tgt := 67) hx hb dX4_told_7 (by rw [c_4]; decide) (by rw [c_4]; decide) (by rw [c_4]; rfl) (by decide) ?_
        refine lv_aload_n hx hb dX4_told_67 rfl (lv_at hl 0 rfl) ?_
        refine lv_aload_n hx hb dX4_told_68 rfl (lv_at hl 1 rfl) ?_
        refine va_get (D := D) (ci := 4) (v := .int powered) (C := RX4) (T := TX4) (N := 5) hx hb hts inX4 hown hK hP 6 rfl rfl 3 (by decide) (hts _ (mG w_82)) (fun _ h9 => h9) rfl dX4_told_69 ?_
        refine my_i (wr := [(h1, .inr (2, [.int dstate, .int dplace, .int dplaces, .int dhold, .int dsteps, .int dbeam, .int dob, .int doc])), (h2, .inr (0, [.ref h3, .int ccount, .int cover])), (h3, .inl (aI, 8, .inl cf)), (h4, .inr (3, [.ref h5, .int gap])), (h5, .inl (aI, n, .inl pf)), (k0, .inr (4, [.ref h4, lo, .ref h0, .int powered, .int stepsDone]))]) [0] [1, 2, 3, 4, 5, 6] (va_runV (As := [.int powered]) (rest := []) ⟨hx, hb, hml, hown, hts⟩ (c_modeNow l D aI aL aZ _ h0 h1 h2 wayToOther place speed way topSpeed gain brake darkSpeed rideSpeed kilos mostKilos openContacts fireFloor ride starts distance hardFalls powered) (cwV 1 hts (gV w_619 w_508 w_509 w_44 w_510) rfl rfl rfl (by decide +kernel) ⟨Nat.le_of_ble_eq_true rfl, Nat.le_of_ble_eq_true rfl⟩) (prev_of hK hP hD hS hA hE [0] rfl (by decide) (ci := 1) rfl 0 rfl _) rfl rfl hl.1 rfl (lv_room (Nat.le_of_ble_eq_true rfl)) dX4_told_72 ⟨Nat.le_of_ble_eq_true rfl, Nat.le_of_ble_eq_true rfl⟩) hP hD hS hA rfl rfl (by decide) (by decide) (fun r_5 u_ H locs hw_6 hP hD hS => ?_)
        have hw_6 : F_modeNow openContacts fireFloor ride powered = r_5 := hw_6
        have hG := hG.trans (cb_e hw_6)
        have hP : va_P D vwCl [(h1, .inr (2, [.int dstate, .int dplace, .int dplaces, .int dhold, .int dsteps, .int dbeam, .int dob, .int doc])), (h2, .inr (0, [.ref h3, .int ccount, .int cover])), (h3, .inl (aI, 8, .inl cf)), (h4, .inr (3, [.ref h5, .int gap])), (h5, .inl (aI, n, .inl pf)), (k0, .inr (4, [.ref h4, lo, .ref h0, .int powered, .int stepsDone])), (h0, .inr (1, [.int wayToOther, .ref h1, .ref h2, .int place, .int speed, .int way, .int topSpeed, .int gain, .int brake, .int darkSpeed, .int rideSpeed, .int kilos, .int mostKilos, .int openContacts, .int fireFloor, .int ride, .int starts, .int distance, .int hardFalls]))] H := hP
        have hD : va_D A [(h1, .inr (2, [.int dstate, .int dplace, .int dplaces, .int dhold, .int dsteps, .int dbeam, .int dob, .int doc])), (h2, .inr (0, [.ref h3, .int ccount, .int cover])), (h3, .inl (aI, 8, .inl cf)), (h4, .inr (3, [.ref h5, .int gap])), (h5, .inl (aI, n, .inl pf)), (k0, .inr (4, [.ref h4, lo, .ref h0, .int powered, .int stepsDone])), (h0, .inr (1, [.int wayToOther, .ref h1, .ref h2, .int place, .int speed, .int way, .int topSpeed, .int gain, .int brake, .int darkSpeed, .int rideSpeed, .int kilos, .int mostKilos, .int openContacts, .int fireFloor, .int ride, .int starts, .int distance, .int hardFalls]))] := hD
        have hP := hP.sub (ws' := [(k0, .inr (4, [.ref h4, lo, .ref h0, .int powered, .int stepsDone])), (h0, .inr (1, [.int wayToOther, .ref h1, .ref h2, .int place, .int speed, .int way, .int topSpeed, .int gain, .int brake, .int darkSpeed, .int rideSpeed, .int kilos, .int mostKilos, .int openContacts, .int fireFloor, .int ride, .int starts, .int distance, .int hardFalls])), (h1, .inr (2, [.int dstate, .int dplace, .int dplaces, .int dhold, .int dsteps, .int dbeam, .int dob, .int doc])), (h2, .inr (0, [.ref h3, .int ccount, .int cover])), (h3, .inl (aI, 8, .inl cf)), (h4, .inr (3, [.ref h5, .int gap])), (h5, .inl (aI, n, .inl pf))]) [5, 6, 0, 1, 2, 3, 4] rfl
        have hD := hD.sub (ws' := [(k0, .inr (4, [.ref h4, lo, .ref h0, .int powered, .int stepsDone])), (h0, .inr (1, [.int wayToOther, .ref h1, .ref h2, .int place, .int speed, .int way, .int topSpeed, .int gain, .int brake, .int darkSpeed, .int rideSpeed, .int kilos, .int mostKilos, .int openContacts, .int fireFloor, .int ride, .int starts, .int distance, .int hardFalls])), (h1, .inr (2, [.int dstate, .int dplace, .int dplaces, .int dhold, .int dsteps, .int dbeam, .int dob, .int doc])), (h2, .inr (0, [.ref h3, .int ccount, .int cover])), (h3, .inl (aI, 8, .inl cf)), (h4, .inr (3, [.ref h5, .int gap])), (h5, .inl (aI, n, .inl pf))]) [5, 6, 0, 1, 2, 3, 4] (by decide) rfl
        exact rtx_i hQ hx hb hr () hG hP hD hS (Nat.le_of_ble_eq_true rfl) (Nat.le_of_ble_eq_true rfl) dX4_told_75 hlk
      · have hG := hG.trans (if_neg c_4)
        by_cases c_7 : p1 = 3
        · have hG := hG.trans (if_pos c_7)
          refine lv_tableIn (off := 69) (tgt := 76) hx hb dX4_told_7 (by rw [c_7]; decide) (by rw [c_7]; decide) (by rw [c_7]; rfl) (by decide) ?_
          refine lv_aload_n hx hb dX4_told_76 rfl (lv_at hl 0 rfl) ?_
          refine va_getN (D := D) (ci := 1) (v := .ref h1) (C := RX1) (T := TX1) (N := 19) hx hb hts inX1 hown hK hP 0 rfl rfl 1 (by decide) (nwF hE 12 rfl) (fun _ h9 => h9) rfl dX4_told_77 ?_
          refine va_getN (D := D) (ci := 2) (v := .int dstate) (C := RX2) (T := TX2) (N := 8) hx hb hts inX2 hown hK hP 1 rfl rfl 0 (by decide) (nwF hE 2 rfl) (fun _ h9 => h9) rfl dX4_told_80 ?_
          have hP := hP.sub (ws' := [(k0, .inr (4, [.ref h4, lo, .ref h0, .int powered, .int stepsDone])), (h0, .inr (1, [.int wayToOther, .ref h1, .ref h2, .int place, .int speed, .int way, .int topSpeed, .int gain, .int brake, .int darkSpeed, .int rideSpeed, .int kilos, .int mostKilos, .int openContacts, .int fireFloor, .int ride, .int starts, .int distance, .int hardFalls])), (h1, .inr (2, [.int dstate, .int dplace, .int dplaces, .int dhold, .int dsteps, .int dbeam, .int dob, .int doc])), (h2, .inr (0, [.ref h3, .int ccount, .int cover])), (h3, .inl (aI, 8, .inl cf)), (h4, .inr (3, [.ref h5, .int gap])), (h5, .inl (aI, n, .inl pf))]) [6, 0, 1, 2, 3, 4, 5] rfl
          have hD := hD.sub (ws' := [(k0, .inr (4, [.ref h4, lo, .ref h0, .int powered, .int stepsDone])), (h0, .inr (1, [.int wayToOther, .ref h1, .ref h2, .int place, .int speed, .int way, .int topSpeed, .int gain, .int brake, .int darkSpeed, .int rideSpeed, .int kilos, .int mostKilos, .int openContacts, .int fireFloor, .int ride, .int starts, .int distance, .int hardFalls])), (h1, .inr (2, [.int dstate, .int dplace, .int dplaces, .int dhold, .int dsteps, .int dbeam, .int dob, .int doc])), (h2, .inr (0, [.ref h3, .int ccount, .int cover])), (h3, .inl (aI, 8, .inl cf)), (h4, .inr (3, [.ref h5, .int gap])), (h5, .inl (aI, n, .inl pf))]) [6, 0, 1, 2, 3, 4, 5] (by decide) rfl
          exact rtx_i hQ hx hb hr () hG hP hD hS (Nat.le_of_ble_eq_true rfl) (Nat.le_of_ble_eq_true rfl) dX4_told_83 hlk
        · have hG := hG.trans (if_neg c_7)
          by_cases c_8 : p1 = 4
          · have hG := hG.trans (if_pos c_8)
            refine lv_tableIn (off := 77) (tgt := 84) hx hb dX4_told_7 (by rw [c_8]; decide) (by rw [c_8]; decide) (by rw [c_8]; rfl) (by decide) ?_
            refine lv_aload_n hx hb dX4_told_84 rfl (lv_at hl 0 rfl) ?_
            refine va_getN (D := D) (ci := 1) (v := .ref h1) (C := RX1) (T := TX1) (N := 19) hx hb hts inX1 hown hK hP 0 rfl rfl 1 (by decide) (nwF hE 12 rfl) (fun _ h9 => h9) rfl dX4_told_85 ?_
            refine va_getN (D := D) (ci := 2) (v := .int dplace) (C := RX2) (T := TX2) (N := 8) hx hb hts inX2 hown hK hP 1 rfl rfl 1 (by decide) (nwF hE 4 rfl) (fun _ h9 => h9) rfl dX4_told_88 ?_
            have hP := hP.sub (ws' := [(k0, .inr (4, [.ref h4, lo, .ref h0, .int powered, .int stepsDone])), (h0, .inr (1, [.int wayToOther, .ref h1, .ref h2, .int place, .int speed, .int way, .int topSpeed, .int gain, .int brake, .int darkSpeed, .int rideSpeed, .int kilos, .int mostKilos, .int openContacts, .int fireFloor, .int ride, .int starts, .int distance, .int hardFalls])), (h1, .inr (2, [.int dstate, .int dplace, .int dplaces, .int dhold, .int dsteps, .int dbeam, .int dob, .int doc])), (h2, .inr (0, [.ref h3, .int ccount, .int cover])), (h3, .inl (aI, 8, .inl cf)), (h4, .inr (3, [.ref h5, .int gap])), (h5, .inl (aI, n, .inl pf))]) [6, 0, 1, 2, 3, 4, 5] rfl
            have hD := hD.sub (ws' := [(k0, .inr (4, [.ref h4, lo, .ref h0, .int powered, .int stepsDone])), (h0, .inr (1, [.int wayToOther, .ref h1, .ref h2, .int place, .int speed, .int way, .int topSpeed, .int gain, .int brake, .int darkSpeed, .int rideSpeed, .int kilos, .int mostKilos, .int openContacts, .int fireFloor, .int ride, .int starts, .int distance, .int hardFalls])), (h1, .inr (2, [.int dstate, .int dplace, .int dplaces, .int dhold, .int dsteps, .int dbeam, .int dob, .int doc])), (h2, .inr (0, [.ref h3, .int ccount, .int cover])), (h3, .inl (aI, 8, .inl cf)), (h4, .inr (3, [.ref h5, .int gap])), (h5, .inl (aI, n, .inl pf))]) [6, 0, 1, 2, 3, 4, 5] (by decide) rfl
            exact rtx_i hQ hx hb hr () hG hP hD hS (Nat.le_of_ble_eq_true rfl) (Nat.le_of_ble_eq_true rfl) dX4_told_91 hlk
          · have hG := hG.trans (if_neg c_8)
            by_cases c_9 : p1 = 5
            · have hG := hG.trans (if_pos c_9)
              refine lv_tableIn (off := 85) (tgt := 92) hx hb dX4_told_7 (by rw [c_9]; decide) (by rw [c_9]; decide) (by rw [c_9]; rfl) (by decide) ?_
              refine lv_aload_n hx hb dX4_told_92 rfl (lv_at hl 0 rfl) ?_
              refine va_getN (D := D) (ci := 1) (v := .ref h2) (C := RX1) (T := TX1) (N := 19) hx hb hts inX1 hown hK hP 0 rfl rfl 2 (by decide) (nwF hE 13 rfl) (fun _ h9 => h9) rfl dX4_told_93 ?_
              refine va_getN (D := D) (ci := 0) (v := .int ccount) (C := RX0) (T := TX0) (N := 3) hx hb hts inX0 hown hK hP 2 rfl rfl 1 (by decide) (nwF hE 10 rfl) (fun _ h9 => h9) rfl dX4_told_96 ?_
              have hP := hP.sub (ws' := [(k0, .inr (4, [.ref h4, lo, .ref h0, .int powered, .int stepsDone])), (h0, .inr (1, [.int wayToOther, .ref h1, .ref h2, .int place, .int speed, .int way, .int topSpeed, .int gain, .int brake, .int darkSpeed, .int rideSpeed, .int kilos, .int mostKilos, .int openContacts, .int fireFloor, .int ride, .int starts, .int distance, .int hardFalls])), (h1, .inr (2, [.int dstate, .int dplace, .int dplaces, .int dhold, .int dsteps, .int dbeam, .int dob, .int doc])), (h2, .inr (0, [.ref h3, .int ccount, .int cover])), (h3, .inl (aI, 8, .inl cf)), (h4, .inr (3, [.ref h5, .int gap])), (h5, .inl (aI, n, .inl pf))]) [6, 0, 1, 2, 3, 4, 5] rfl
              have hD := hD.sub (ws' := [(k0, .inr (4, [.ref h4, lo, .ref h0, .int powered, .int stepsDone])), (h0, .inr (1, [.int wayToOther, .ref h1, .ref h2, .int place, .int speed, .int way, .int topSpeed, .int gain, .int brake, .int darkSpeed, .int rideSpeed, .int kilos, .int mostKilos, .int openContacts, .int fireFloor, .int ride, .int starts, .int distance, .int hardFalls])), (h1, .inr (2, [.int dstate, .int dplace, .int dplaces, .int dhold, .int dsteps, .int dbeam, .int dob, .int doc])), (h2, .inr (0, [.ref h3, .int ccount, .int cover])), (h3, .inl (aI, 8, .inl cf)), (h4, .inr (3, [.ref h5, .int gap])), (h5, .inl (aI, n, .inl pf))]) [6, 0, 1, 2, 3, 4, 5] (by decide) rfl
              exact rtx_i hQ hx hb hr () hG hP hD hS (Nat.le_of_ble_eq_true rfl) (Nat.le_of_ble_eq_true rfl) dX4_told_99 hlk
            · have hG := hG.trans (if_neg c_9)
              by_cases c_10 : p1 = 6
              · have hG := hG.trans (if_pos c_10)
                refine lv_tableIn (off := 93) (tgt := 100) hx hb dX4_told_7 (by rw [c_10]; decide) (by rw [c_10]; decide) (by rw [c_10]; rfl) (by decide) ?_
                refine lv_aload_n hx hb dX4_told_100 rfl (lv_at hl 1 rfl) ?_
                refine va_get (D := D) (ci := 4) (v := .ref h4) (C := RX4) (T := TX4) (N := 5) hx hb hts inX4 hown hK hP 6 rfl rfl 0 (by decide) (hts _ (mG w_79)) (fun _ h9 => h9) rfl dX4_told_101 ?_
                refine lv_aload_n hx hb dX4_told_104 rfl (lv_at hl 0 rfl) ?_
                refine va_getN (D := D) (ci := 1) (v := .int place) (C := RX1) (T := TX1) (N := 19) hx hb hts inX1 hown hK hP 0 rfl rfl 3 (by decide) (nwF hE 14 rfl) (fun _ h9 => h9) rfl dX4_told_105 ?_
                refine my_i (wr := [(h0, .inr (1, [.int wayToOther, .ref h1, .ref h2, .int place, .int speed, .int way, .int topSpeed, .int gain, .int brake, .int darkSpeed, .int rideSpeed, .int kilos, .int mostKilos, .int openContacts, .int fireFloor, .int ride, .int starts, .int distance, .int hardFalls])), (h1, .inr (2, [.int dstate, .int dplace, .int dplaces, .int dhold, .int dsteps, .int dbeam, .int dob, .int doc])), (h2, .inr (0, [.ref h3, .int ccount, .int cover])), (h3, .inl (aI, 8, .inl cf)), (k0, .inr (4, [.ref h4, lo, .ref h0, .int powered, .int stepsDone]))]) [4, 5] [0, 1, 2, 3, 6] (va_runV (As := [.int place]) (rest := []) ⟨hx, hb, hml, hown, hts⟩ (c_floorAt l D aI aL aZ _ h4 h5 gap n pf place hn) (cwV 1 hts (gV w_434 w_435 w_436 w_36 w_437) rfl rfl rfl (by decide +kernel) ⟨Nat.le_of_ble_eq_true rfl, Nat.le_of_ble_eq_true rfl⟩) (prev_of hK hP hD hS hA hE [4, 5] rfl (by decide) (ci := 3) rfl 4 rfl _) rfl rfl hl.1 rfl (lv_room (Nat.le_of_ble_eq_true rfl)) dX4_told_108 ⟨Nat.le_of_ble_eq_true rfl, Nat.le_of_ble_eq_true rfl⟩) hP hD hS hA rfl rfl (by decide) (by decide) (fun r_11 u_ H locs hw_12 hP hD hS => ?_)
                have hw_12 : F_floorAt n pf place = r_11 := hw_12
                have hG := hG.trans (cb_e hw_12)
                have hP : va_P D vwCl [(h0, .inr (1, [.int wayToOther, .ref h1, .ref h2, .int place, .int speed, .int way, .int topSpeed, .int gain, .int brake, .int darkSpeed, .int rideSpeed, .int kilos, .int mostKilos, .int openContacts, .int fireFloor, .int ride, .int starts, .int distance, .int hardFalls])), (h1, .inr (2, [.int dstate, .int dplace, .int dplaces, .int dhold, .int dsteps, .int dbeam, .int dob, .int doc])), (h2, .inr (0, [.ref h3, .int ccount, .int cover])), (h3, .inl (aI, 8, .inl cf)), (k0, .inr (4, [.ref h4, lo, .ref h0, .int powered, .int stepsDone])), (h4, .inr (3, [.ref h5, .int gap])), (h5, .inl (aI, n, .inl pf))] H := hP
                have hD : va_D A [(h0, .inr (1, [.int wayToOther, .ref h1, .ref h2, .int place, .int speed, .int way, .int topSpeed, .int gain, .int brake, .int darkSpeed, .int rideSpeed, .int kilos, .int mostKilos, .int openContacts, .int fireFloor, .int ride, .int starts, .int distance, .int hardFalls])), (h1, .inr (2, [.int dstate, .int dplace, .int dplaces, .int dhold, .int dsteps, .int dbeam, .int dob, .int doc])), (h2, .inr (0, [.ref h3, .int ccount, .int cover])), (h3, .inl (aI, 8, .inl cf)), (k0, .inr (4, [.ref h4, lo, .ref h0, .int powered, .int stepsDone])), (h4, .inr (3, [.ref h5, .int gap])), (h5, .inl (aI, n, .inl pf))] := hD
                have hP := hP.sub (ws' := [(k0, .inr (4, [.ref h4, lo, .ref h0, .int powered, .int stepsDone])), (h0, .inr (1, [.int wayToOther, .ref h1, .ref h2, .int place, .int speed, .int way, .int topSpeed, .int gain, .int brake, .int darkSpeed, .int rideSpeed, .int kilos, .int mostKilos, .int openContacts, .int fireFloor, .int ride, .int starts, .int distance, .int hardFalls])), (h1, .inr (2, [.int dstate, .int dplace, .int dplaces, .int dhold, .int dsteps, .int dbeam, .int dob, .int doc])), (h2, .inr (0, [.ref h3, .int ccount, .int cover])), (h3, .inl (aI, 8, .inl cf)), (h4, .inr (3, [.ref h5, .int gap])), (h5, .inl (aI, n, .inl pf))]) [4, 0, 1, 2, 3, 5, 6] rfl
                have hD := hD.sub (ws' := [(k0, .inr (4, [.ref h4, lo, .ref h0, .int powered, .int stepsDone])), (h0, .inr (1, [.int wayToOther, .ref h1, .ref h2, .int place, .int speed, .int way, .int topSpeed, .int gain, .int brake, .int darkSpeed, .int rideSpeed, .int kilos, .int mostKilos, .int openContacts, .int fireFloor, .int ride, .int starts, .int distance, .int hardFalls])), (h1, .inr (2, [.int dstate, .int dplace, .int dplaces, .int dhold, .int dsteps, .int dbeam, .int dob, .int doc])), (h2, .inr (0, [.ref h3, .int ccount, .int cover])), (h3, .inl (aI, 8, .inl cf)), (h4, .inr (3, [.ref h5, .int gap])), (h5, .inl (aI, n, .inl pf))]) [4, 0, 1, 2, 3, 5, 6] (by decide) rfl
                exact rtx_i hQ hx hb hr () hG hP hD hS (Nat.le_of_ble_eq_true rfl) (Nat.le_of_ble_eq_true rfl) dX4_told_111 hlk
              · have hG := hG.trans (if_neg c_10)
                by_cases c_13 : p1 = 7
                · have hG := hG.trans (if_pos c_13)
                  refine lv_tableIn (off := 105) (tgt := 112) hx hb dX4_told_7 (by rw [c_13]; decide) (by rw [c_13]; decide) (by rw [c_13]; rfl) (by decide) ?_
                  refine lv_aload_n hx hb dX4_told_112 rfl (lv_at hl 0 rfl) ?_
                  refine lv_aload_n hx hb dX4_told_113 rfl (lv_at hl 0 rfl) ?_
                  refine lv_aload_n hx hb dX4_told_114 rfl (lv_at hl 1 rfl) ?_
                  refine va_get (D := D) (ci := 4) (v := .int powered) (C := RX4) (T := TX4) (N := 5) hx hb hts inX4 hown hK hP 6 rfl rfl 3 (by decide) (hts _ (mG w_82)) (fun _ h9 => h9) rfl dX4_told_115 ?_
                  refine my_i (wr := [(h1, .inr (2, [.int dstate, .int dplace, .int dplaces, .int dhold, .int dsteps, .int dbeam, .int dob, .int doc])), (h2, .inr (0, [.ref h3, .int ccount, .int cover])), (h3, .inl (aI, 8, .inl cf)), (h4, .inr (3, [.ref h5, .int gap])), (h5, .inl (aI, n, .inl pf)), (k0, .inr (4, [.ref h4, lo, .ref h0, .int powered, .int stepsDone]))]) [0] [1, 2, 3, 4, 5, 6] (va_runV (As := [.int powered]) (rest := [.ref h0]) ⟨hx, hb, hml, hown, hts⟩ (c_modeNow l D aI aL aZ _ h0 h1 h2 wayToOther place speed way topSpeed gain brake darkSpeed rideSpeed kilos mostKilos openContacts fireFloor ride starts distance hardFalls powered) (cwV 1 hts (gV w_619 w_508 w_509 w_44 w_510) rfl rfl rfl (by decide +kernel) ⟨Nat.le_of_ble_eq_true rfl, Nat.le_of_ble_eq_true rfl⟩) (prev_of hK hP hD hS hA hE [0] rfl (by decide) (ci := 1) rfl 0 rfl _) rfl rfl hl.1 rfl (lv_room (Nat.le_of_ble_eq_true rfl)) dX4_told_118 ⟨Nat.le_of_ble_eq_true rfl, Nat.le_of_ble_eq_true rfl⟩) hP hD hS hA rfl rfl (by decide) (by decide) (fun r_14 u_ H locs hw_15 hP hD hS => ?_)
                  have hw_15 : F_modeNow openContacts fireFloor ride powered = r_14 := hw_15
                  have hG := hG.trans (cb_e hw_15)
                  have hP : va_P D vwCl [(h1, .inr (2, [.int dstate, .int dplace, .int dplaces, .int dhold, .int dsteps, .int dbeam, .int dob, .int doc])), (h2, .inr (0, [.ref h3, .int ccount, .int cover])), (h3, .inl (aI, 8, .inl cf)), (h4, .inr (3, [.ref h5, .int gap])), (h5, .inl (aI, n, .inl pf)), (k0, .inr (4, [.ref h4, lo, .ref h0, .int powered, .int stepsDone])), (h0, .inr (1, [.int wayToOther, .ref h1, .ref h2, .int place, .int speed, .int way, .int topSpeed, .int gain, .int brake, .int darkSpeed, .int rideSpeed, .int kilos, .int mostKilos, .int openContacts, .int fireFloor, .int ride, .int starts, .int distance, .int hardFalls]))] H := hP
                  have hD : va_D A [(h1, .inr (2, [.int dstate, .int dplace, .int dplaces, .int dhold, .int dsteps, .int dbeam, .int dob, .int doc])), (h2, .inr (0, [.ref h3, .int ccount, .int cover])), (h3, .inl (aI, 8, .inl cf)), (h4, .inr (3, [.ref h5, .int gap])), (h5, .inl (aI, n, .inl pf)), (k0, .inr (4, [.ref h4, lo, .ref h0, .int powered, .int stepsDone])), (h0, .inr (1, [.int wayToOther, .ref h1, .ref h2, .int place, .int speed, .int way, .int topSpeed, .int gain, .int brake, .int darkSpeed, .int rideSpeed, .int kilos, .int mostKilos, .int openContacts, .int fireFloor, .int ride, .int starts, .int distance, .int hardFalls]))] := hD
                  refine lv_aload_n hx hb dX4_told_121 rfl (lv_at hl 1 rfl) ?_
                  refine va_get (D := D) (ci := 4) (v := .ref h4) (C := RX4) (T := TX4) (N := 5) hx hb hts inX4 hown hK hP 5 rfl rfl 0 (by decide) (hts _ (mG w_79)) (fun _ h9 => h9) rfl dX4_told_122 ?_
                  refine my_i (wr := [(h1, .inr (2, [.int dstate, .int dplace, .int dplaces, .int dhold, .int dsteps, .int dbeam, .int dob, .int doc])), (k0, .inr (4, [.ref h4, lo, .ref h0, .int powered, .int stepsDone]))]) [6, 1, 2, 3, 4] [0, 5] (va_runV (As := [.int r_14, .ref h4]) (rest := []) ⟨hx, hb, hml, hown, hts⟩ (c_wantedPlace l D aI aL aZ _ h0 h1 h2 wayToOther place speed way topSpeed gain brake darkSpeed rideSpeed kilos mostKilos openContacts fireFloor ride starts distance hardFalls h3 h4 h5 ccount cover cf gap n pf r_14 hn hn1) (cwV 2 hts (gV w_620 w_512 w_513 w_44 w_514) rfl rfl rfl (by decide +kernel) ⟨Nat.le_of_ble_eq_true rfl, Nat.le_of_ble_eq_true rfl⟩) (prev_of hK hP hD hS hA hE [6, 1, 2, 3, 4] rfl (by decide) (ci := 1) rfl 6 rfl _) rfl rfl hl.1 rfl (lv_room (Nat.le_of_ble_eq_true rfl)) dX4_told_125 ⟨Nat.le_of_ble_eq_true rfl, Nat.le_of_ble_eq_true rfl⟩) hP hD hS hA rfl rfl (by decide) (by decide) (fun r_16 u_ H locs hw_17 hP hD hS => ?_)
                  have hw_17 : F_wantedPlace place fireFloor ride ccount cf n pf r_14 = r_16 := hw_17
                  have hG := hG.trans (cb_e hw_17)
                  have hP : va_P D vwCl [(h1, .inr (2, [.int dstate, .int dplace, .int dplaces, .int dhold, .int dsteps, .int dbeam, .int dob, .int doc])), (k0, .inr (4, [.ref h4, lo, .ref h0, .int powered, .int stepsDone])), (h0, .inr (1, [.int wayToOther, .ref h1, .ref h2, .int place, .int speed, .int way, .int topSpeed, .int gain, .int brake, .int darkSpeed, .int rideSpeed, .int kilos, .int mostKilos, .int openContacts, .int fireFloor, .int ride, .int starts, .int distance, .int hardFalls])), (h2, .inr (0, [.ref h3, .int ccount, .int cover])), (h3, .inl (aI, 8, .inl cf)), (h4, .inr (3, [.ref h5, .int gap])), (h5, .inl (aI, n, .inl pf))] H := hP
                  have hD : va_D A [(h1, .inr (2, [.int dstate, .int dplace, .int dplaces, .int dhold, .int dsteps, .int dbeam, .int dob, .int doc])), (k0, .inr (4, [.ref h4, lo, .ref h0, .int powered, .int stepsDone])), (h0, .inr (1, [.int wayToOther, .ref h1, .ref h2, .int place, .int speed, .int way, .int topSpeed, .int gain, .int brake, .int darkSpeed, .int rideSpeed, .int kilos, .int mostKilos, .int openContacts, .int fireFloor, .int ride, .int starts, .int distance, .int hardFalls])), (h2, .inr (0, [.ref h3, .int ccount, .int cover])), (h3, .inl (aI, 8, .inl cf)), (h4, .inr (3, [.ref h5, .int gap])), (h5, .inl (aI, n, .inl pf))] := hD
                  have hP := hP.sub (ws' := [(k0, .inr (4, [.ref h4, lo, .ref h0, .int powered, .int stepsDone])), (h0, .inr (1, [.int wayToOther, .ref h1, .ref h2, .int place, .int speed, .int way, .int topSpeed, .int gain, .int brake, .int darkSpeed, .int rideSpeed, .int kilos, .int mostKilos, .int openContacts, .int fireFloor, .int ride, .int starts, .int distance, .int hardFalls])), (h1, .inr (2, [.int dstate, .int dplace, .int dplaces, .int dhold, .int dsteps, .int dbeam, .int dob, .int doc])), (h2, .inr (0, [.ref h3, .int ccount, .int cover])), (h3, .inl (aI, 8, .inl cf)), (h4, .inr (3, [.ref h5, .int gap])), (h5, .inl (aI, n, .inl pf))]) [1, 2, 0, 3, 4, 5, 6] rfl
                  have hD := hD.sub (ws' := [(k0, .inr (4, [.ref h4, lo, .ref h0, .int powered, .int stepsDone])), (h0, .inr (1, [.int wayToOther, .ref h1, .ref h2, .int place, .int speed, .int way, .int topSpeed, .int gain, .int brake, .int darkSpeed, .int rideSpeed, .int kilos, .int mostKilos, .int openContacts, .int fireFloor, .int ride, .int starts, .int distance, .int hardFalls])), (h1, .inr (2, [.int dstate, .int dplace, .int dplaces, .int dhold, .int dsteps, .int dbeam, .int dob, .int doc])), (h2, .inr (0, [.ref h3, .int ccount, .int cover])), (h3, .inl (aI, 8, .inl cf)), (h4, .inr (3, [.ref h5, .int gap])), (h5, .inl (aI, n, .inl pf))]) [1, 2, 0, 3, 4, 5, 6] (by decide) rfl
                  exact rtx_i hQ hx hb hr () hG hP hD hS (Nat.le_of_ble_eq_true rfl) (Nat.le_of_ble_eq_true rfl) dX4_told_128 hlk
                · have hG := hG.trans (if_neg c_13)
                  refine lv_tableOut (tgt := 129) hx hb dX4_told_7 (by have q0 := lv_neT c_2 (a := 0) (by decide); have q1 := lv_neT c_3 (a := 1) (by decide); have q2 := lv_neT c_4 (a := 2) (by decide); have q3 := lv_neT c_7 (a := 3) (by decide); have q4 := lv_neT c_8 (a := 4) (by decide); have q5 := lv_neT c_9 (a := 5) (by decide); have q6 := lv_neT c_10 (a := 6) (by decide); have q7 := lv_neT c_13 (a := 7) (by decide); omega) (by decide) ?_
                  exact my_throw (own := RX4) (cls := "java/lang/IllegalArgumentException") (text := "there is no such thing to be told") 1 [6, 0, 1, 2, 3, 4, 5] hx hb hl9 hown (by decide +kernel) (hts _ (mG w_118)) (hts _ (mG w_42)) 11 rfl mt_92 hts tb_X4_92 tg_X4_92 hE hS (hl.1.trans hml.symm) dX4_told_129 dX4_told_132 dX4_told_133 dX4_told_135 dX4_told_138 hout (Nat.le_of_ble_eq_true rfl) (Nat.le_of_ble_eq_true rfl) (Nat.le_of_ble_eq_true rfl) (Nat.le_of_ble_eq_true rfl) hlk hQ rfl ⟨hG, rfl⟩ hP hD rfl (by decide) (Nat.le_of_ble_eq_true rfl) (Nat.le_of_ble_eq_true rfl)
def F_told_0n : Int32 ⊕ Int32 :=
  cx F_carOf_0n fun _ =>
    .inl 0
theorem F_told_0n_u : F_told_0n =
  (cx F_carOf_0n fun _ =>
    .inl 0) := rfl
set_option maxHeartbeats 4000000 in
set_option maxRecDepth 100000 in
theorem c_told_0n (l : Launch) (hl9 : l.stackTraces = false) (D : va_G) (aI aL aZ : ClassId) (sz : Nat) (k0 : Nat) (h4 : Nat) (powered : Int32) (stepsDone : Int32) (up : Value) (p1 : Int32) : vx_Met l yX4_told (.code yX4_told cX4_told 4 (some .int) :: Gw) ({ frames := 7, cells := 1, slots := 6, locals := 114 }) (va_Pc [.ref k0, .int 0, .int p1] (mpre D [(aI, .int), (aL, .long), (aZ, .boolean)] [(k0, .inr (4, [.ref h4, .null, up, .int powered, .int stepsDone]))] sz)) ((fun A : Nat → Prop => va_Qi (fun (r : Int32) (u : Unit) => False) (mpst D A (fun (u : Unit) => [(k0, .inr (4, [.ref h4, .null, up, .int powered, .int stepsDone]))])) A) (va_A ([(k0, .inr (4, [.ref h4, .null, up, .int powered, .int stepsDone]))]) sz)) ((fun A : Nat → Prop => vx_X (fun u : Int32 => F_told_0n = .inl u ∧ (u = 1)) (mpsx D A [(k0, .inr (4, [.ref h4, .null, up, .int powered, .int stepsDone]))]) A) (va_A ([(k0, .inr (4, [.ref h4, .null, up, .int powered, .int stepsDone]))]) sz)) 1 6 (va_A ([(k0, .inr (4, [.ref h4, .null, up, .int powered, .int stepsDone]))]) sz) := by
  refine enx (cc := cX4_told) (maxL := 4) (ret := (some .int)) (Qc := (fun A : Nat → Prop => va_Qi (fun (r : Int32) (u : Unit) => False) (mpst D A (fun (u : Unit) => [(k0, .inr (4, [.ref h4, .null, up, .int powered, .int stepsDone]))])) A)) (XC := (fun A : Nat → Prop => vx_X (fun u : Int32 => F_told_0n = .inl u ∧ (u = 1)) (mpsx D A [(k0, .inr (4, [.ref h4, .null, up, .int powered, .int stepsDone]))]) A)) (by decide) rfl (Nat.le_of_ble_eq_true rfl) ?_
  intro p e s m args below meth c A ls Q hQ hx hb hr hts hown hlk hnm hml hout hA hS hP hK hD hE hl
  have hown : s.vm.findClass RX4 = some m.cls := hown
  have hl : lv_has ls 4 [(0, .ref k0), (1, .int 0), (2, .int p1)] := hl
  have hG := F_told_0n_u
  refine lv_aload_n hx hb dX4_told_0 rfl (lv_at hl 0 rfl) ?_
  refine lv_iload_n hx hb dX4_told_1 rfl (lv_at hl 1 rfl) ?_
  refine my_xr (wr := []) [0] [] [0] (vx_runV (As := [.int 0]) (rest := []) ⟨hx, hb, hml, hown, hts⟩ (c_carOf_0n l hl9 D aI aL aZ _ k0 h4 powered stepsDone up) (cwV 1 hts (gV w_393 w_395 w_2 w_35 w_396) rfl rfl rfl (by decide +kernel) ⟨Nat.le_of_ble_eq_true rfl, Nat.le_of_ble_eq_true rfl⟩) (prev_of hK hP hD hS hA hE [0] rfl (by decide) (ci := 4) rfl 0 rfl _) rfl rfl hl.1 rfl (lv_room (Nat.le_of_ble_eq_true rfl)) dX4_told_2 ⟨Nat.le_of_ble_eq_true rfl, Nat.le_of_ble_eq_true rfl⟩) hP hD hS hA rfl rfl (by decide) (by decide) hQ (fun _ h9 => ⟨hG.trans (cx_l h9.1), h9.2⟩) hout hlk rfl (by decide) (Nat.le_of_ble_eq_true rfl) (Nat.le_of_ble_eq_true rfl) (fun u_ H locs hw_1 hP hD hS => ?_)
  exact False.elim hw_1
def F_told_1n : Int32 ⊕ Int32 :=
  cx F_carOf_1n fun _ =>
    .inl 0
theorem F_told_1n_u : F_told_1n =
  (cx F_carOf_1n fun _ =>
    .inl 0) := rfl
set_option maxHeartbeats 4000000 in
set_option maxRecDepth 100000 in
theorem c_told_1n (l : Launch) (hl9 : l.stackTraces = false) (D : va_G) (aI aL aZ : ClassId) (sz : Nat) (k0 : Nat) (h4 : Nat) (powered : Int32) (stepsDone : Int32) (lo : Value) (p1 : Int32) : vx_Met l yX4_told (.code yX4_told cX4_told 4 (some .int) :: Gw) ({ frames := 7, cells := 1, slots := 6, locals := 114 }) (va_Pc [.ref k0, .int 1, .int p1] (mpre D [(aI, .int), (aL, .long), (aZ, .boolean)] [(k0, .inr (4, [.ref h4, lo, .null, .int powered, .int stepsDone]))] sz)) ((fun A : Nat → Prop => va_Qi (fun (r : Int32) (u : Unit) => False) (mpst D A (fun (u : Unit) => [(k0, .inr (4, [.ref h4, lo, .null, .int powered, .int stepsDone]))])) A) (va_A ([(k0, .inr (4, [.ref h4, lo, .null, .int powered, .int stepsDone]))]) sz)) ((fun A : Nat → Prop => vx_X (fun u : Int32 => F_told_1n = .inl u ∧ (u = 1)) (mpsx D A [(k0, .inr (4, [.ref h4, lo, .null, .int powered, .int stepsDone]))]) A) (va_A ([(k0, .inr (4, [.ref h4, lo, .null, .int powered, .int stepsDone]))]) sz)) 1 6 (va_A ([(k0, .inr (4, [.ref h4, lo, .null, .int powered, .int stepsDone]))]) sz) := by
  refine enx (cc := cX4_told) (maxL := 4) (ret := (some .int)) (Qc := (fun A : Nat → Prop => va_Qi (fun (r : Int32) (u : Unit) => False) (mpst D A (fun (u : Unit) => [(k0, .inr (4, [.ref h4, lo, .null, .int powered, .int stepsDone]))])) A)) (XC := (fun A : Nat → Prop => vx_X (fun u : Int32 => F_told_1n = .inl u ∧ (u = 1)) (mpsx D A [(k0, .inr (4, [.ref h4, lo, .null, .int powered, .int stepsDone]))]) A)) (by decide) rfl (Nat.le_of_ble_eq_true rfl) ?_
  intro p e s m args below meth c A ls Q hQ hx hb hr hts hown hlk hnm hml hout hA hS hP hK hD hE hl
  have hown : s.vm.findClass RX4 = some m.cls := hown
  have hl : lv_has ls 4 [(0, .ref k0), (1, .int 1), (2, .int p1)] := hl
  have hG := F_told_1n_u
  refine lv_aload_n hx hb dX4_told_0 rfl (lv_at hl 0 rfl) ?_
  refine lv_iload_n hx hb dX4_told_1 rfl (lv_at hl 1 rfl) ?_
  refine my_xr (wr := []) [0] [] [0] (vx_runV (As := [.int 1]) (rest := []) ⟨hx, hb, hml, hown, hts⟩ (c_carOf_1n l hl9 D aI aL aZ _ k0 h4 powered stepsDone lo) (cwV 1 hts (gV w_393 w_395 w_2 w_35 w_396) rfl rfl rfl (by decide +kernel) ⟨Nat.le_of_ble_eq_true rfl, Nat.le_of_ble_eq_true rfl⟩) (prev_of hK hP hD hS hA hE [0] rfl (by decide) (ci := 4) rfl 0 rfl _) rfl rfl hl.1 rfl (lv_room (Nat.le_of_ble_eq_true rfl)) dX4_told_2 ⟨Nat.le_of_ble_eq_true rfl, Nat.le_of_ble_eq_true rfl⟩) hP hD hS hA rfl rfl (by decide) (by decide) hQ (fun _ h9 => ⟨hG.trans (cx_l h9.1), h9.2⟩) hout hlk rfl (by decide) (Nat.le_of_ble_eq_true rfl) (Nat.le_of_ble_eq_true rfl) (fun u_ H locs hw_1 hP hD hS => ?_)
  exact False.elim hw_1
def F_told_x : Int32 ⊕ Int32 :=
  cx F_carOf_x fun _ =>
    .inl 0
theorem F_told_x_u : F_told_x =
  (cx F_carOf_x fun _ =>
    .inl 0) := rfl
set_option maxHeartbeats 4000000 in
set_option maxRecDepth 100000 in
theorem c_told_x (l : Launch) (hl9 : l.stackTraces = false) (D : va_G) (aI aL aZ : ClassId) (sz : Nat) (k0 : Nat) (h4 : Nat) (powered : Int32) (stepsDone : Int32) (lo : Value) (up : Value) (p0 : Int32) (p1 : Int32) (h9 : ¬ p0 = 0) (h8 : ¬ p0 = 1) : vx_Met l yX4_told (.code yX4_told cX4_told 4 (some .int) :: Gw) ({ frames := 7, cells := 1, slots := 6, locals := 114 }) (va_Pc [.ref k0, .int p0, .int p1] (mpre D [(aI, .int), (aL, .long), (aZ, .boolean)] [(k0, .inr (4, [.ref h4, lo, up, .int powered, .int stepsDone]))] sz)) ((fun A : Nat → Prop => va_Qi (fun (r : Int32) (u : Unit) => False) (mpst D A (fun (u : Unit) => [(k0, .inr (4, [.ref h4, lo, up, .int powered, .int stepsDone]))])) A) (va_A ([(k0, .inr (4, [.ref h4, lo, up, .int powered, .int stepsDone]))]) sz)) ((fun A : Nat → Prop => vx_X (fun u : Int32 => F_told_x = .inl u ∧ (u = 1)) (mpsx D A [(k0, .inr (4, [.ref h4, lo, up, .int powered, .int stepsDone]))]) A) (va_A ([(k0, .inr (4, [.ref h4, lo, up, .int powered, .int stepsDone]))]) sz)) 1 6 (va_A ([(k0, .inr (4, [.ref h4, lo, up, .int powered, .int stepsDone]))]) sz) := by
  refine enx (cc := cX4_told) (maxL := 4) (ret := (some .int)) (Qc := (fun A : Nat → Prop => va_Qi (fun (r : Int32) (u : Unit) => False) (mpst D A (fun (u : Unit) => [(k0, .inr (4, [.ref h4, lo, up, .int powered, .int stepsDone]))])) A)) (XC := (fun A : Nat → Prop => vx_X (fun u : Int32 => F_told_x = .inl u ∧ (u = 1)) (mpsx D A [(k0, .inr (4, [.ref h4, lo, up, .int powered, .int stepsDone]))]) A)) (by decide) rfl (Nat.le_of_ble_eq_true rfl) ?_
  intro p e s m args below meth c A ls Q hQ hx hb hr hts hown hlk hnm hml hout hA hS hP hK hD hE hl
  have hown : s.vm.findClass RX4 = some m.cls := hown
  have hl : lv_has ls 4 [(0, .ref k0), (1, .int p0), (2, .int p1)] := hl
  have hG := F_told_x_u
  refine lv_aload_n hx hb dX4_told_0 rfl (lv_at hl 0 rfl) ?_
  refine lv_iload_n hx hb dX4_told_1 rfl (lv_at hl 1 rfl) ?_
  refine my_xr (wr := []) [0] [] [0] (vx_runV (As := [.int p0]) (rest := []) ⟨hx, hb, hml, hown, hts⟩ (c_carOf_x l hl9 D aI aL aZ _ k0 h4 powered stepsDone lo up p0 h9 h8) (cwV 1 hts (gV w_393 w_395 w_2 w_35 w_396) rfl rfl rfl (by decide +kernel) ⟨Nat.le_of_ble_eq_true rfl, Nat.le_of_ble_eq_true rfl⟩) (prev_of hK hP hD hS hA hE [0] rfl (by decide) (ci := 4) rfl 0 rfl _) rfl rfl hl.1 rfl (lv_room (Nat.le_of_ble_eq_true rfl)) dX4_told_2 ⟨Nat.le_of_ble_eq_true rfl, Nat.le_of_ble_eq_true rfl⟩) hP hD hS hA rfl rfl (by decide) (by decide) hQ (fun _ h9 => ⟨hG.trans (cx_l h9.1), h9.2⟩) hout hlk rfl (by decide) (Nat.le_of_ble_eq_true rfl) (Nat.le_of_ble_eq_true rfl) (fun u_ H locs hw_1 hP hD hS => ?_)
  exact False.elim hw_1
theorem dX4_wear_0 : decode cX4_wear 0 = .ok (.aload_n 0, 1) := by decide +kernel
theorem dX4_wear_1 : decode cX4_wear 1 = .ok (.iload_n 1, 1) := by decide +kernel
theorem dX4_wear_2 : decode cX4_wear 2 = .ok (.invokevirtual 84, 3) := by decide +kernel
theorem dX4_wear_5 : decode cX4_wear 5 = .ok (.astore_n 3, 1) := by decide +kernel
theorem dX4_wear_6 : decode cX4_wear 6 = .ok (.iload_n 2, 1) := by decide +kernel
theorem dX4_wear_7 : decode cX4_wear 7 = .ok (.tableswitch 76 0 5 #[37, 42, 47, 52, 60, 68], 37) := by decide +kernel
theorem dX4_wear_44 : decode cX4_wear 44 = .ok (.aload_n 3, 1) := by decide +kernel
theorem dX4_wear_45 : decode cX4_wear 45 = .ok (.getfield 198, 3) := by decide +kernel
theorem dX4_wear_48 : decode cX4_wear 48 = .ok (.ireturn, 1) := by decide +kernel
theorem dX4_wear_49 : decode cX4_wear 49 = .ok (.aload_n 3, 1) := by decide +kernel
theorem dX4_wear_50 : decode cX4_wear 50 = .ok (.getfield 201, 3) := by decide +kernel
theorem dX4_wear_53 : decode cX4_wear 53 = .ok (.ireturn, 1) := by decide +kernel
theorem dX4_wear_54 : decode cX4_wear 54 = .ok (.aload_n 3, 1) := by decide +kernel
theorem dX4_wear_55 : decode cX4_wear 55 = .ok (.getfield 204, 3) := by decide +kernel
theorem dX4_wear_58 : decode cX4_wear 58 = .ok (.ireturn, 1) := by decide +kernel
theorem dX4_wear_59 : decode cX4_wear 59 = .ok (.aload_n 3, 1) := by decide +kernel
theorem dX4_wear_60 : decode cX4_wear 60 = .ok (.getfield 113, 3) := by decide +kernel
theorem dX4_wear_63 : decode cX4_wear 63 = .ok (.getfield 207, 3) := by decide +kernel
theorem dX4_wear_66 : decode cX4_wear 66 = .ok (.ireturn, 1) := by decide +kernel
theorem dX4_wear_67 : decode cX4_wear 67 = .ok (.aload_n 3, 1) := by decide +kernel
theorem dX4_wear_68 : decode cX4_wear 68 = .ok (.getfield 113, 3) := by decide +kernel
theorem dX4_wear_71 : decode cX4_wear 71 = .ok (.getfield 210, 3) := by decide +kernel
theorem dX4_wear_74 : decode cX4_wear 74 = .ok (.ireturn, 1) := by decide +kernel
theorem dX4_wear_75 : decode cX4_wear 75 = .ok (.aload_n 3, 1) := by decide +kernel
theorem dX4_wear_76 : decode cX4_wear 76 = .ok (.getfield 130, 3) := by decide +kernel
theorem dX4_wear_79 : decode cX4_wear 79 = .ok (.getfield 213, 3) := by decide +kernel
theorem dX4_wear_82 : decode cX4_wear 82 = .ok (.ireturn, 1) := by decide +kernel
theorem dX4_wear_83 : decode cX4_wear 83 = .ok (.new 88, 3) := by decide +kernel
theorem dX4_wear_86 : decode cX4_wear 86 = .ok (.dup, 1) := by decide +kernel
theorem dX4_wear_87 : decode cX4_wear 87 = .ok (.ldc 216, 2) := by decide +kernel
theorem dX4_wear_89 : decode cX4_wear 89 = .ok (.invokespecial 92, 3) := by decide +kernel
theorem dX4_wear_92 : decode cX4_wear 92 = .ok (.athrow, 1) := by decide +kernel
def F_wear_0 (starts : Int32) (distance : Int32) (hardFalls : Int32) (dob : Int32) (doc : Int32) (cover : Int32) (p1 : Int32) : Int32 ⊕ Int32 :=
  cx F_carOf_0 fun _ =>
    if p1 = 0 then
      .inr starts
    else
      if p1 = 1 then
        .inr distance
      else
        if p1 = 2 then
          .inr hardFalls
        else
          if p1 = 3 then
            .inr dob
          else
            if p1 = 4 then
              .inr doc
            else
              if p1 = 5 then
                .inr cover
              else
                .inl 1
theorem F_wear_0_u (starts : Int32) (distance : Int32) (hardFalls : Int32) (dob : Int32) (doc : Int32) (cover : Int32) (p1 : Int32) : F_wear_0 starts distance hardFalls dob doc cover p1 =
  (cx F_carOf_0 fun _ =>
    if p1 = 0 then
      .inr starts
    else
      if p1 = 1 then
        .inr distance
      else
        if p1 = 2 then
          .inr hardFalls
        else
          if p1 = 3 then
            .inr dob
          else
            if p1 = 4 then
              .inr doc
            else
              if p1 = 5 then
                .inr cover
              else
                .inl 1) := rfl
set_option maxHeartbeats 4000000 in
set_option maxRecDepth 100000 in
theorem c_wear_0 (l : Launch) (hl9 : l.stackTraces = false) (D : va_G) (aI aL aZ : ClassId) (sz : Nat) (k0 : Nat) (h4 : Nat) (powered : Int32) (stepsDone : Int32) (up : Value) (h0 : Nat) (h1 : Nat) (h2 : Nat) (wayToOther : Int32) (place : Int32) (speed : Int32) (way : Int32) (topSpeed : Int32) (gain : Int32) (brake : Int32) (darkSpeed : Int32) (rideSpeed : Int32) (kilos : Int32) (mostKilos : Int32) (openContacts : Int32) (fireFloor : Int32) (ride : Int32) (starts : Int32) (distance : Int32) (hardFalls : Int32) (dstate : Int32) (dplace : Int32) (dplaces : Int32) (dhold : Int32) (dsteps : Int32) (dbeam : Int32) (dob : Int32) (doc : Int32) (h3 : Nat) (ccount : Int32) (cover : Int32) (p1 : Int32) : vx_Met l yX4_wear (.code yX4_wear cX4_wear 4 (some .int) :: Gw) ({ frames := 6, cells := 1, slots := 6, locals := 92 }) (va_Pc [.ref k0, .int 0, .int p1] (mpre D [(aI, .int), (aL, .long), (aZ, .boolean)] [(k0, .inr (4, [.ref h4, .ref h0, up, .int powered, .int stepsDone])), (h0, .inr (1, [.int wayToOther, .ref h1, .ref h2, .int place, .int speed, .int way, .int topSpeed, .int gain, .int brake, .int darkSpeed, .int rideSpeed, .int kilos, .int mostKilos, .int openContacts, .int fireFloor, .int ride, .int starts, .int distance, .int hardFalls])), (h1, .inr (2, [.int dstate, .int dplace, .int dplaces, .int dhold, .int dsteps, .int dbeam, .int dob, .int doc])), (h2, .inr (0, [.ref h3, .int ccount, .int cover]))] sz)) ((fun A : Nat → Prop => va_Qi (fun (r : Int32) (u : Unit) => F_wear_0 starts distance hardFalls dob doc cover p1 = .inr r) (mpst D A (fun (u : Unit) => [(k0, .inr (4, [.ref h4, .ref h0, up, .int powered, .int stepsDone])), (h0, .inr (1, [.int wayToOther, .ref h1, .ref h2, .int place, .int speed, .int way, .int topSpeed, .int gain, .int brake, .int darkSpeed, .int rideSpeed, .int kilos, .int mostKilos, .int openContacts, .int fireFloor, .int ride, .int starts, .int distance, .int hardFalls])), (h1, .inr (2, [.int dstate, .int dplace, .int dplaces, .int dhold, .int dsteps, .int dbeam, .int dob, .int doc])), (h2, .inr (0, [.ref h3, .int ccount, .int cover]))])) A) (va_A ([(k0, .inr (4, [.ref h4, .ref h0, up, .int powered, .int stepsDone])), (h0, .inr (1, [.int wayToOther, .ref h1, .ref h2, .int place, .int speed, .int way, .int topSpeed, .int gain, .int brake, .int darkSpeed, .int rideSpeed, .int kilos, .int mostKilos, .int openContacts, .int fireFloor, .int ride, .int starts, .int distance, .int hardFalls])), (h1, .inr (2, [.int dstate, .int dplace, .int dplaces, .int dhold, .int dsteps, .int dbeam, .int dob, .int doc])), (h2, .inr (0, [.ref h3, .int ccount, .int cover]))]) sz)) ((fun A : Nat → Prop => vx_X (fun u : Int32 => F_wear_0 starts distance hardFalls dob doc cover p1 = .inl u ∧ (u = 1)) (mpsx D A [(k0, .inr (4, [.ref h4, .ref h0, up, .int powered, .int stepsDone])), (h0, .inr (1, [.int wayToOther, .ref h1, .ref h2, .int place, .int speed, .int way, .int topSpeed, .int gain, .int brake, .int darkSpeed, .int rideSpeed, .int kilos, .int mostKilos, .int openContacts, .int fireFloor, .int ride, .int starts, .int distance, .int hardFalls])), (h1, .inr (2, [.int dstate, .int dplace, .int dplaces, .int dhold, .int dsteps, .int dbeam, .int dob, .int doc])), (h2, .inr (0, [.ref h3, .int ccount, .int cover]))]) A) (va_A ([(k0, .inr (4, [.ref h4, .ref h0, up, .int powered, .int stepsDone])), (h0, .inr (1, [.int wayToOther, .ref h1, .ref h2, .int place, .int speed, .int way, .int topSpeed, .int gain, .int brake, .int darkSpeed, .int rideSpeed, .int kilos, .int mostKilos, .int openContacts, .int fireFloor, .int ride, .int starts, .int distance, .int hardFalls])), (h1, .inr (2, [.int dstate, .int dplace, .int dplaces, .int dhold, .int dsteps, .int dbeam, .int dob, .int doc])), (h2, .inr (0, [.ref h3, .int ccount, .int cover]))]) sz)) 1 6 (va_A ([(k0, .inr (4, [.ref h4, .ref h0, up, .int powered, .int stepsDone])), (h0, .inr (1, [.int wayToOther, .ref h1, .ref h2, .int place, .int speed, .int way, .int topSpeed, .int gain, .int brake, .int darkSpeed, .int rideSpeed, .int kilos, .int mostKilos, .int openContacts, .int fireFloor, .int ride, .int starts, .int distance, .int hardFalls])), (h1, .inr (2, [.int dstate, .int dplace, .int dplaces, .int dhold, .int dsteps, .int dbeam, .int dob, .int doc])), (h2, .inr (0, [.ref h3, .int ccount, .int cover]))]) sz) := by
  refine enx (cc := cX4_wear) (maxL := 4) (ret := (some .int)) (Qc := (fun A : Nat → Prop => va_Qi (fun (r : Int32) (u : Unit) => F_wear_0 starts distance hardFalls dob doc cover p1 = .inr r) (mpst D A (fun (u : Unit) => [(k0, .inr (4, [.ref h4, .ref h0, up, .int powered, .int stepsDone])), (h0, .inr (1, [.int wayToOther, .ref h1, .ref h2, .int place, .int speed, .int way, .int topSpeed, .int gain, .int brake, .int darkSpeed, .int rideSpeed, .int kilos, .int mostKilos, .int openContacts, .int fireFloor, .int ride, .int starts, .int distance, .int hardFalls])), (h1, .inr (2, [.int dstate, .int dplace, .int dplaces, .int dhold, .int dsteps, .int dbeam, .int dob, .int doc])), (h2, .inr (0, [.ref h3, .int ccount, .int cover]))])) A)) (XC := (fun A : Nat → Prop => vx_X (fun u : Int32 => F_wear_0 starts distance hardFalls dob doc cover p1 = .inl u ∧ (u = 1)) (mpsx D A [(k0, .inr (4, [.ref h4, .ref h0, up, .int powered, .int stepsDone])), (h0, .inr (1, [.int wayToOther, .ref h1, .ref h2, .int place, .int speed, .int way, .int topSpeed, .int gain, .int brake, .int darkSpeed, .int rideSpeed, .int kilos, .int mostKilos, .int openContacts, .int fireFloor, .int ride, .int starts, .int distance, .int hardFalls])), (h1, .inr (2, [.int dstate, .int dplace, .int dplaces, .int dhold, .int dsteps, .int dbeam, .int dob, .int doc])), (h2, .inr (0, [.ref h3, .int ccount, .int cover]))]) A)) (by decide) rfl (Nat.le_of_ble_eq_true rfl) ?_
  intro p e s m args below meth c A ls Q hQ hx hb hr hts hown hlk hnm hml hout hA hS hP hK hD hE hl
  have hown : s.vm.findClass RX4 = some m.cls := hown
  have hl : lv_has ls 4 [(0, .ref k0), (1, .int 0), (2, .int p1)] := hl
  have hG := F_wear_0_u starts distance hardFalls dob doc cover p1
  refine lv_aload_n hx hb dX4_wear_0 rfl (lv_at hl 0 rfl) ?_
  refine lv_iload_n hx hb dX4_wear_1 rfl (lv_at hl 1 rfl) ?_
  refine my_xr (wr := [(h0, .inr (1, [.int wayToOther, .ref h1, .ref h2, .int place, .int speed, .int way, .int topSpeed, .int gain, .int brake, .int darkSpeed, .int rideSpeed, .int kilos, .int mostKilos, .int openContacts, .int fireFloor, .int ride, .int starts, .int distance, .int hardFalls])), (h1, .inr (2, [.int dstate, .int dplace, .int dplaces, .int dhold, .int dsteps, .int dbeam, .int dob, .int doc])), (h2, .inr (0, [.ref h3, .int ccount, .int cover]))]) [0] [1, 2, 3] [3, 0, 1, 2] (vx_runV (As := [.int 0]) (rest := []) ⟨hx, hb, hml, hown, hts⟩ (c_carOf_0 l hl9 D aI aL aZ _ k0 h4 powered stepsDone h0 up) (cwV 1 hts (gV w_393 w_395 w_2 w_35 w_396) rfl rfl rfl (by decide +kernel) ⟨Nat.le_of_ble_eq_true rfl, Nat.le_of_ble_eq_true rfl⟩) (prev_of hK hP hD hS hA hE [0] rfl (by decide) (ci := 4) rfl 0 rfl _) rfl rfl hl.1 rfl (lv_room (Nat.le_of_ble_eq_true rfl)) dX4_wear_2 ⟨Nat.le_of_ble_eq_true rfl, Nat.le_of_ble_eq_true rfl⟩) hP hD hS hA rfl rfl (by decide) (by decide) hQ (fun _ h9 => ⟨hG.trans (cx_l h9.1), (False.elim h9.2)⟩) hout hlk rfl (by decide) (Nat.le_of_ble_eq_true rfl) (Nat.le_of_ble_eq_true rfl) (fun u_ H locs hw_1 hP hD hS => ?_)
  have hw_1 : F_carOf_0 = .inr () := hw_1
  have hG := hG.trans (cx_r hw_1)
  have hP : va_P D vwCl [(h0, .inr (1, [.int wayToOther, .ref h1, .ref h2, .int place, .int speed, .int way, .int topSpeed, .int gain, .int brake, .int darkSpeed, .int rideSpeed, .int kilos, .int mostKilos, .int openContacts, .int fireFloor, .int ride, .int starts, .int distance, .int hardFalls])), (h1, .inr (2, [.int dstate, .int dplace, .int dplaces, .int dhold, .int dsteps, .int dbeam, .int dob, .int doc])), (h2, .inr (0, [.ref h3, .int ccount, .int cover])), (k0, .inr (4, [.ref h4, .ref h0, up, .int powered, .int stepsDone]))] H := hP
  have hD : va_D A [(h0, .inr (1, [.int wayToOther, .ref h1, .ref h2, .int place, .int speed, .int way, .int topSpeed, .int gain, .int brake, .int darkSpeed, .int rideSpeed, .int kilos, .int mostKilos, .int openContacts, .int fireFloor, .int ride, .int starts, .int distance, .int hardFalls])), (h1, .inr (2, [.int dstate, .int dplace, .int dplaces, .int dhold, .int dsteps, .int dbeam, .int dob, .int doc])), (h2, .inr (0, [.ref h3, .int ccount, .int cover])), (k0, .inr (4, [.ref h4, .ref h0, up, .int powered, .int stepsDone]))] := hD
  refine lv_astore_n (lv' := [(3, .ref h0), (0, .ref k0), (1, .int 0), (2, .int p1)]) hx hb dX4_wear_5 rfl hl (by decide) rfl (fun ls hl => ?_)
  refine lv_iload_n hx hb dX4_wear_6 rfl (lv_at hl 3 rfl) ?_
  by_cases c_2 : p1 = 0
  · have hG := hG.trans (if_pos c_2)
    refine lv_tableIn (off := 37) (tgt := 44) hx hb dX4_wear_7 (by rw [c_2]; decide) (by rw [c_2]; decide) (by rw [c_2]; rfl) (by decide) ?_
    refine lv_aload_n hx hb dX4_wear_44 rfl (lv_at hl 0 rfl) ?_
    refine va_getN (D := D) (ci := 1) (v := .int starts) (C := RX1) (T := TX1) (N := 19) hx hb hts inX1 hown hK hP 0 rfl rfl 16 (by decide) (nwF hE 27 rfl) (fun _ h9 => h9) rfl dX4_wear_45 ?_
    have hP := hP.sub (ws' := [(k0, .inr (4, [.ref h4, .ref h0, up, .int powered, .int stepsDone])), (h0, .inr (1, [.int wayToOther, .ref h1, .ref h2, .int place, .int speed, .int way, .int topSpeed, .int gain, .int brake, .int darkSpeed, .int rideSpeed, .int kilos, .int mostKilos, .int openContacts, .int fireFloor, .int ride, .int starts, .int distance, .int hardFalls])), (h1, .inr (2, [.int dstate, .int dplace, .int dplaces, .int dhold, .int dsteps, .int dbeam, .int dob, .int doc])), (h2, .inr (0, [.ref h3, .int ccount, .int cover]))]) [3, 0, 1, 2] rfl
    have hD := hD.sub (ws' := [(k0, .inr (4, [.ref h4, .ref h0, up, .int powered, .int stepsDone])), (h0, .inr (1, [.int wayToOther, .ref h1, .ref h2, .int place, .int speed, .int way, .int topSpeed, .int gain, .int brake, .int darkSpeed, .int rideSpeed, .int kilos, .int mostKilos, .int openContacts, .int fireFloor, .int ride, .int starts, .int distance, .int hardFalls])), (h1, .inr (2, [.int dstate, .int dplace, .int dplaces, .int dhold, .int dsteps, .int dbeam, .int dob, .int doc])), (h2, .inr (0, [.ref h3, .int ccount, .int cover]))]) [3, 0, 1, 2] (by decide) rfl
    exact rtx_i hQ hx hb hr () hG hP hD hS (Nat.le_of_ble_eq_true rfl) (Nat.le_of_ble_eq_true rfl) dX4_wear_48 hlk
  · have hG := hG.trans (if_neg c_2)
    by_cases c_3 : p1 = 1
    · have hG := hG.trans (if_pos c_3)
      refine lv_tableIn (off := 42) (tgt := 49) hx hb dX4_wear_7 (by rw [c_3]; decide) (by rw [c_3]; decide) (by rw [c_3]; rfl) (by decide) ?_
      refine lv_aload_n hx hb dX4_wear_49 rfl (lv_at hl 0 rfl) ?_
      refine va_getN (D := D) (ci := 1) (v := .int distance) (C := RX1) (T := TX1) (N := 19) hx hb hts inX1 hown hK hP 0 rfl rfl 17 (by decide) (nwF hE 28 rfl) (fun _ h9 => h9) rfl dX4_wear_50 ?_
      have hP := hP.sub (ws' := [(k0, .inr (4, [.ref h4, .ref h0, up, .int powered, .int stepsDone])), (h0, .inr (1, [.int wayToOther, .ref h1, .ref h2, .int place, .int speed, .int way, .int topSpeed, .int gain, .int brake, .int darkSpeed, .int rideSpeed, .int kilos, .int mostKilos, .int openContacts, .int fireFloor, .int ride, .int starts, .int distance, .int hardFalls])), (h1, .inr (2, [.int dstate, .int dplace, .int dplaces, .int dhold, .int dsteps, .int dbeam, .int dob, .int doc])), (h2, .inr (0, [.ref h3, .int ccount, .int cover]))]) [3, 0, 1, 2] rfl
      have hD := hD.sub (ws' := [(k0, .inr (4, [.ref h4, .ref h0, up, .int powered, .int stepsDone])), (h0, .inr (1, [.int wayToOther, .ref h1, .ref h2, .int place, .int speed, .int way, .int topSpeed, .int gain, .int brake, .int darkSpeed, .int rideSpeed, .int kilos, .int mostKilos, .int openContacts, .int fireFloor, .int ride, .int starts, .int distance, .int hardFalls])), (h1, .inr (2, [.int dstate, .int dplace, .int dplaces, .int dhold, .int dsteps, .int dbeam, .int dob, .int doc])), (h2, .inr (0, [.ref h3, .int ccount, .int cover]))]) [3, 0, 1, 2] (by decide) rfl
      exact rtx_i hQ hx hb hr () hG hP hD hS (Nat.le_of_ble_eq_true rfl) (Nat.le_of_ble_eq_true rfl) dX4_wear_53 hlk
    · have hG := hG.trans (if_neg c_3)
      by_cases c_4 : p1 = 2
      · have hG := hG.trans (if_pos c_4)
        refine lv_tableIn (off := 47) (tgt := 54) hx hb dX4_wear_7 (by rw [c_4]; decide) (by rw [c_4]; decide) (by rw [c_4]; rfl) (by decide) ?_
        refine lv_aload_n hx hb dX4_wear_54 rfl (lv_at hl 0 rfl) ?_
        refine va_getN (D := D) (ci := 1) (v := .int hardFalls) (C := RX1) (T := TX1) (N := 19) hx hb hts inX1 hown hK hP 0 rfl rfl 18 (by decide) (nwF hE 29 rfl) (fun _ h9 => h9) rfl dX4_wear_55 ?_
        have hP := hP.sub (ws' := [(k0, .inr (4, [.ref h4, .ref h0, up, .int powered, .int stepsDone])), (h0, .inr (1, [.int wayToOther, .ref h1, .ref h2, .int place, .int speed, .int way, .int topSpeed, .int gain, .int brake, .int darkSpeed, .int rideSpeed, .int kilos, .int mostKilos, .int openContacts, .int fireFloor, .int ride, .int starts, .int distance, .int hardFalls])), (h1, .inr (2, [.int dstate, .int dplace, .int dplaces, .int dhold, .int dsteps, .int dbeam, .int dob, .int doc])), (h2, .inr (0, [.ref h3, .int ccount, .int cover]))]) [3, 0, 1, 2] rfl
        have hD := hD.sub (ws' := [(k0, .inr (4, [.ref h4, .ref h0, up, .int powered, .int stepsDone])), (h0, .inr (1, [.int wayToOther, .ref h1, .ref h2, .int place, .int speed, .int way, .int topSpeed, .int gain, .int brake, .int darkSpeed, .int rideSpeed, .int kilos, .int mostKilos, .int openContacts, .int fireFloor, .int ride, .int starts, .int distance, .int hardFalls])), (h1, .inr (2, [.int dstate, .int dplace, .int dplaces, .int dhold, .int dsteps, .int dbeam, .int dob, .int doc])), (h2, .inr (0, [.ref h3, .int ccount, .int cover]))]) [3, 0, 1, 2] (by decide) rfl
        exact rtx_i hQ hx hb hr () hG hP hD hS (Nat.le_of_ble_eq_true rfl) (Nat.le_of_ble_eq_true rfl) dX4_wear_58 hlk
      · have hG := hG.trans (if_neg c_4)
        by_cases c_5 : p1 = 3
        · have hG := hG.trans (if_pos c_5)
          refine lv_tableIn (off := 52) (tgt := 59) hx hb dX4_wear_7 (by rw [c_5]; decide) (by rw [c_5]; decide) (by rw [c_5]; rfl) (by decide) ?_
          refine lv_aload_n hx hb dX4_wear_59 rfl (lv_at hl 0 rfl) ?_
          refine va_getN (D := D) (ci := 1) (v := .ref h1) (C := RX1) (T := TX1) (N := 19) hx hb hts inX1 hown hK hP 0 rfl rfl 1 (by decide) (nwF hE 12 rfl) (fun _ h9 => h9) rfl dX4_wear_60 ?_
          refine va_getN (D := D) (ci := 2) (v := .int dob) (C := RX2) (T := TX2) (N := 8) hx hb hts inX2 hown hK hP 1 rfl rfl 6 (by decide) (nwF hE 8 rfl) (fun _ h9 => h9) rfl dX4_wear_63 ?_
          have hP := hP.sub (ws' := [(k0, .inr (4, [.ref h4, .ref h0, up, .int powered, .int stepsDone])), (h0, .inr (1, [.int wayToOther, .ref h1, .ref h2, .int place, .int speed, .int way, .int topSpeed, .int gain, .int brake, .int darkSpeed, .int rideSpeed, .int kilos, .int mostKilos, .int openContacts, .int fireFloor, .int ride, .int starts, .int distance, .int hardFalls])), (h1, .inr (2, [.int dstate, .int dplace, .int dplaces, .int dhold, .int dsteps, .int dbeam, .int dob, .int doc])), (h2, .inr (0, [.ref h3, .int ccount, .int cover]))]) [3, 0, 1, 2] rfl
          have hD := hD.sub (ws' := [(k0, .inr (4, [.ref h4, .ref h0, up, .int powered, .int stepsDone])), (h0, .inr (1, [.int wayToOther, .ref h1, .ref h2, .int place, .int speed, .int way, .int topSpeed, .int gain, .int brake, .int darkSpeed, .int rideSpeed, .int kilos, .int mostKilos, .int openContacts, .int fireFloor, .int ride, .int starts, .int distance, .int hardFalls])), (h1, .inr (2, [.int dstate, .int dplace, .int dplaces, .int dhold, .int dsteps, .int dbeam, .int dob, .int doc])), (h2, .inr (0, [.ref h3, .int ccount, .int cover]))]) [3, 0, 1, 2] (by decide) rfl
          exact rtx_i hQ hx hb hr () hG hP hD hS (Nat.le_of_ble_eq_true rfl) (Nat.le_of_ble_eq_true rfl) dX4_wear_66 hlk
        · have hG := hG.trans (if_neg c_5)
          by_cases c_6 : p1 = 4
          · have hG := hG.trans (if_pos c_6)
            refine lv_tableIn (off := 60) (tgt := 67) hx hb dX4_wear_7 (by rw [c_6]; decide) (by rw [c_6]; decide) (by rw [c_6]; rfl) (by decide) ?_
            refine lv_aload_n hx hb dX4_wear_67 rfl (lv_at hl 0 rfl) ?_
            refine va_getN (D := D) (ci := 1) (v := .ref h1) (C := RX1) (T := TX1) (N := 19) hx hb hts inX1 hown hK hP 0 rfl rfl 1 (by decide) (nwF hE 12 rfl) (fun _ h9 => h9) rfl dX4_wear_68 ?_
            refine va_getN (D := D) (ci := 2) (v := .int doc) (C := RX2) (T := TX2) (N := 8) hx hb hts inX2 hown hK hP 1 rfl rfl 7 (by decide) (nwF hE 9 rfl) (fun _ h9 => h9) rfl dX4_wear_71 ?_
            have hP := hP.sub (ws' := [(k0, .inr (4, [.ref h4, .ref h0, up, .int powered, .int stepsDone])), (h0, .inr (1, [.int wayToOther, .ref h1, .ref h2, .int place, .int speed, .int way, .int topSpeed, .int gain, .int brake, .int darkSpeed, .int rideSpeed, .int kilos, .int mostKilos, .int openContacts, .int fireFloor, .int ride, .int starts, .int distance, .int hardFalls])), (h1, .inr (2, [.int dstate, .int dplace, .int dplaces, .int dhold, .int dsteps, .int dbeam, .int dob, .int doc])), (h2, .inr (0, [.ref h3, .int ccount, .int cover]))]) [3, 0, 1, 2] rfl
            have hD := hD.sub (ws' := [(k0, .inr (4, [.ref h4, .ref h0, up, .int powered, .int stepsDone])), (h0, .inr (1, [.int wayToOther, .ref h1, .ref h2, .int place, .int speed, .int way, .int topSpeed, .int gain, .int brake, .int darkSpeed, .int rideSpeed, .int kilos, .int mostKilos, .int openContacts, .int fireFloor, .int ride, .int starts, .int distance, .int hardFalls])), (h1, .inr (2, [.int dstate, .int dplace, .int dplaces, .int dhold, .int dsteps, .int dbeam, .int dob, .int doc])), (h2, .inr (0, [.ref h3, .int ccount, .int cover]))]) [3, 0, 1, 2] (by decide) rfl
            exact rtx_i hQ hx hb hr () hG hP hD hS (Nat.le_of_ble_eq_true rfl) (Nat.le_of_ble_eq_true rfl) dX4_wear_74 hlk
          · have hG := hG.trans (if_neg c_6)
            by_cases c_7 : p1 = 5
            · have hG := hG.trans (if_pos c_7)
              refine lv_tableIn (off := 68) (tgt := 75) hx hb dX4_wear_7 (by rw [c_7]; decide) (by rw [c_7]; decide) (by rw [c_7]; rfl) (by decide) ?_
              refine lv_aload_n hx hb dX4_wear_75 rfl (lv_at hl 0 rfl) ?_
              refine va_getN (D := D) (ci := 1) (v := .ref h2) (C := RX1) (T := TX1) (N := 19) hx hb hts inX1 hown hK hP 0 rfl rfl 2 (by decide) (nwF hE 13 rfl) (fun _ h9 => h9) rfl dX4_wear_76 ?_
              refine va_getN (D := D) (ci := 0) (v := .int cover) (C := RX0) (T := TX0) (N := 3) hx hb hts inX0 hown hK hP 2 rfl rfl 2 (by decide) (nwF hE 11 rfl) (fun _ h9 => h9) rfl dX4_wear_79 ?_
              have hP := hP.sub (ws' := [(k0, .inr (4, [.ref h4, .ref h0, up, .int powered, .int stepsDone])), (h0, .inr (1, [.int wayToOther, .ref h1, .ref h2, .int place, .int speed, .int way, .int topSpeed, .int gain, .int brake, .int darkSpeed, .int rideSpeed, .int kilos, .int mostKilos, .int openContacts, .int fireFloor, .int ride, .int starts, .int distance, .int hardFalls])), (h1, .inr (2, [.int dstate, .int dplace, .int dplaces, .int dhold, .int dsteps, .int dbeam, .int dob, .int doc])), (h2, .inr (0, [.ref h3, .int ccount, .int cover]))]) [3, 0, 1, 2] rfl
              have hD := hD.sub (ws' := [(k0, .inr (4, [.ref h4, .ref h0, up, .int powered, .int stepsDone])), (h0, .inr (1, [.int wayToOther, .ref h1, .ref h2, .int place, .int speed, .int way, .int topSpeed, .int gain, .int brake, .int darkSpeed, .int rideSpeed, .int kilos, .int mostKilos, .int openContacts, .int fireFloor, .int ride, .int starts, .int distance, .int hardFalls])), (h1, .inr (2, [.int dstate, .int dplace, .int dplaces, .int dhold, .int dsteps, .int dbeam, .int dob, .int doc])), (h2, .inr (0, [.ref h3, .int ccount, .int cover]))]) [3, 0, 1, 2] (by decide) rfl
              exact rtx_i hQ hx hb hr () hG hP hD hS (Nat.le_of_ble_eq_true rfl) (Nat.le_of_ble_eq_true rfl) dX4_wear_82 hlk
            · have hG := hG.trans (if_neg c_7)
              refine lv_tableOut (tgt := 83) hx hb dX4_wear_7 (by have q0 := lv_neT c_2 (a := 0) (by decide); have q1 := lv_neT c_3 (a := 1) (by decide); have q2 := lv_neT c_4 (a := 2) (by decide); have q3 := lv_neT c_5 (a := 3) (by decide); have q4 := lv_neT c_6 (a := 4) (by decide); have q5 := lv_neT c_7 (a := 5) (by decide); omega) (by decide) ?_
              exact my_throw (own := RX4) (cls := "java/lang/IllegalArgumentException") (text := "there is no such wear") 1 [3, 0, 1, 2] hx hb hl9 hown (by decide +kernel) (hts _ (mG w_118)) (hts _ (mG w_42)) 12 rfl mt_92 hts tb_X4_92 tg_X4_92 hE hS (hl.1.trans hml.symm) dX4_wear_83 dX4_wear_86 dX4_wear_87 dX4_wear_89 dX4_wear_92 hout (Nat.le_of_ble_eq_true rfl) (Nat.le_of_ble_eq_true rfl) (Nat.le_of_ble_eq_true rfl) (Nat.le_of_ble_eq_true rfl) hlk hQ rfl ⟨hG, rfl⟩ hP hD rfl (by decide) (Nat.le_of_ble_eq_true rfl) (Nat.le_of_ble_eq_true rfl)
def F_wear_1 (starts : Int32) (distance : Int32) (hardFalls : Int32) (dob : Int32) (doc : Int32) (cover : Int32) (p1 : Int32) : Int32 ⊕ Int32 :=
  cx F_carOf_1 fun _ =>
    if p1 = 0 then
      .inr starts
    else
      if p1 = 1 then
        .inr distance
      else
        if p1 = 2 then
          .inr hardFalls
        else
          if p1 = 3 then
            .inr dob
          else
            if p1 = 4 then
              .inr doc
            else
              if p1 = 5 then
                .inr cover
              else
                .inl 1
theorem F_wear_1_u (starts : Int32) (distance : Int32) (hardFalls : Int32) (dob : Int32) (doc : Int32) (cover : Int32) (p1 : Int32) : F_wear_1 starts distance hardFalls dob doc cover p1 =
  (cx F_carOf_1 fun _ =>
    if p1 = 0 then
      .inr starts
    else
      if p1 = 1 then
        .inr distance
      else
        if p1 = 2 then
          .inr hardFalls
        else
          if p1 = 3 then
            .inr dob
          else
            if p1 = 4 then
              .inr doc
            else
              if p1 = 5 then
                .inr cover
              else
                .inl 1) := rfl
set_option maxHeartbeats 4000000 in
set_option maxRecDepth 100000 in
theorem c_wear_1 (l : Launch) (hl9 : l.stackTraces = false) (D : va_G) (aI aL aZ : ClassId) (sz : Nat) (k0 : Nat) (h4 : Nat) (powered : Int32) (stepsDone : Int32) (lo : Value) (h0 : Nat) (h1 : Nat) (h2 : Nat) (wayToOther : Int32) (place : Int32) (speed : Int32) (way : Int32) (topSpeed : Int32) (gain : Int32) (brake : Int32) (darkSpeed : Int32) (rideSpeed : Int32) (kilos : Int32) (mostKilos : Int32) (openContacts : Int32) (fireFloor : Int32) (ride : Int32) (starts : Int32) (distance : Int32) (hardFalls : Int32) (dstate : Int32) (dplace : Int32) (dplaces : Int32) (dhold : Int32) (dsteps : Int32) (dbeam : Int32) (dob : Int32) (doc : Int32) (h3 : Nat) (ccount : Int32) (cover : Int32) (p1 : Int32) : vx_Met l yX4_wear (.code yX4_wear cX4_wear 4 (some .int) :: Gw) ({ frames := 6, cells := 1, slots := 6, locals := 92 }) (va_Pc [.ref k0, .int 1, .int p1] (mpre D [(aI, .int), (aL, .long), (aZ, .boolean)] [(k0, .inr (4, [.ref h4, lo, .ref h0, .int powered, .int stepsDone])), (h0, .inr (1, [.int wayToOther, .ref h1, .ref h2, .int place, .int speed, .int way, .int topSpeed, .int gain, .int brake, .int darkSpeed, .int rideSpeed, .int kilos, .int mostKilos, .int openContacts, .int fireFloor, .int ride, .int starts, .int distance, .int hardFalls])), (h1, .inr (2, [.int dstate, .int dplace, .int dplaces, .int dhold, .int dsteps, .int dbeam, .int dob, .int doc])), (h2, .inr (0, [.ref h3, .int ccount, .int cover]))] sz)) ((fun A : Nat → Prop => va_Qi (fun (r : Int32) (u : Unit) => F_wear_1 starts distance hardFalls dob doc cover p1 = .inr r) (mpst D A (fun (u : Unit) => [(k0, .inr (4, [.ref h4, lo, .ref h0, .int powered, .int stepsDone])), (h0, .inr (1, [.int wayToOther, .ref h1, .ref h2, .int place, .int speed, .int way, .int topSpeed, .int gain, .int brake, .int darkSpeed, .int rideSpeed, .int kilos, .int mostKilos, .int openContacts, .int fireFloor, .int ride, .int starts, .int distance, .int hardFalls])), (h1, .inr (2, [.int dstate, .int dplace, .int dplaces, .int dhold, .int dsteps, .int dbeam, .int dob, .int doc])), (h2, .inr (0, [.ref h3, .int ccount, .int cover]))])) A) (va_A ([(k0, .inr (4, [.ref h4, lo, .ref h0, .int powered, .int stepsDone])), (h0, .inr (1, [.int wayToOther, .ref h1, .ref h2, .int place, .int speed, .int way, .int topSpeed, .int gain, .int brake, .int darkSpeed, .int rideSpeed, .int kilos, .int mostKilos, .int openContacts, .int fireFloor, .int ride, .int starts, .int distance, .int hardFalls])), (h1, .inr (2, [.int dstate, .int dplace, .int dplaces, .int dhold, .int dsteps, .int dbeam, .int dob, .int doc])), (h2, .inr (0, [.ref h3, .int ccount, .int cover]))]) sz)) ((fun A : Nat → Prop => vx_X (fun u : Int32 => F_wear_1 starts distance hardFalls dob doc cover p1 = .inl u ∧ (u = 1)) (mpsx D A [(k0, .inr (4, [.ref h4, lo, .ref h0, .int powered, .int stepsDone])), (h0, .inr (1, [.int wayToOther, .ref h1, .ref h2, .int place, .int speed, .int way, .int topSpeed, .int gain, .int brake, .int darkSpeed, .int rideSpeed, .int kilos, .int mostKilos, .int openContacts, .int fireFloor, .int ride, .int starts, .int distance, .int hardFalls])), (h1, .inr (2, [.int dstate, .int dplace, .int dplaces, .int dhold, .int dsteps, .int dbeam, .int dob, .int doc])), (h2, .inr (0, [.ref h3, .int ccount, .int cover]))]) A) (va_A ([(k0, .inr (4, [.ref h4, lo, .ref h0, .int powered, .int stepsDone])), (h0, .inr (1, [.int wayToOther, .ref h1, .ref h2, .int place, .int speed, .int way, .int topSpeed, .int gain, .int brake, .int darkSpeed, .int rideSpeed, .int kilos, .int mostKilos, .int openContacts, .int fireFloor, .int ride, .int starts, .int distance, .int hardFalls])), (h1, .inr (2, [.int dstate, .int dplace, .int dplaces, .int dhold, .int dsteps, .int dbeam, .int dob, .int doc])), (h2, .inr (0, [.ref h3, .int ccount, .int cover]))]) sz)) 1 6 (va_A ([(k0, .inr (4, [.ref h4, lo, .ref h0, .int powered, .int stepsDone])), (h0, .inr (1, [.int wayToOther, .ref h1, .ref h2, .int place, .int speed, .int way, .int topSpeed, .int gain, .int brake, .int darkSpeed, .int rideSpeed, .int kilos, .int mostKilos, .int openContacts, .int fireFloor, .int ride, .int starts, .int distance, .int hardFalls])), (h1, .inr (2, [.int dstate, .int dplace, .int dplaces, .int dhold, .int dsteps, .int dbeam, .int dob, .int doc])), (h2, .inr (0, [.ref h3, .int ccount, .int cover]))]) sz) := by
  refine enx (cc := cX4_wear) (maxL := 4) (ret := (some .int)) (Qc := (fun A : Nat → Prop => va_Qi (fun (r : Int32) (u : Unit) => F_wear_1 starts distance hardFalls dob doc cover p1 = .inr r) (mpst D A (fun (u : Unit) => [(k0, .inr (4, [.ref h4, lo, .ref h0, .int powered, .int stepsDone])), (h0, .inr (1, [.int wayToOther, .ref h1, .ref h2, .int place, .int speed, .int way, .int topSpeed, .int gain, .int brake, .int darkSpeed, .int rideSpeed, .int kilos, .int mostKilos, .int openContacts, .int fireFloor, .int ride, .int starts, .int distance, .int hardFalls])), (h1, .inr (2, [.int dstate, .int dplace, .int dplaces, .int dhold, .int dsteps, .int dbeam, .int dob, .int doc])), (h2, .inr (0, [.ref h3, .int ccount, .int cover]))])) A)) (XC := (fun A : Nat → Prop => vx_X (fun u : Int32 => F_wear_1 starts distance hardFalls dob doc cover p1 = .inl u ∧ (u = 1)) (mpsx D A [(k0, .inr (4, [.ref h4, lo, .ref h0, .int powered, .int stepsDone])), (h0, .inr (1, [.int wayToOther, .ref h1, .ref h2, .int place, .int speed, .int way, .int topSpeed, .int gain, .int brake, .int darkSpeed, .int rideSpeed, .int kilos, .int mostKilos, .int openContacts, .int fireFloor, .int ride, .int starts, .int distance, .int hardFalls])), (h1, .inr (2, [.int dstate, .int dplace, .int dplaces, .int dhold, .int dsteps, .int dbeam, .int dob, .int doc])), (h2, .inr (0, [.ref h3, .int ccount, .int cover]))]) A)) (by decide) rfl (Nat.le_of_ble_eq_true rfl) ?_
  intro p e s m args below meth c A ls Q hQ hx hb hr hts hown hlk hnm hml hout hA hS hP hK hD hE hl
  have hown : s.vm.findClass RX4 = some m.cls := hown
  have hl : lv_has ls 4 [(0, .ref k0), (1, .int 1), (2, .int p1)] := hl
  have hG := F_wear_1_u starts distance hardFalls dob doc cover p1
  refine lv_aload_n hx hb dX4_wear_0 rfl (lv_at hl 0 rfl) ?_
  refine lv_iload_n hx hb dX4_wear_1 rfl (lv_at hl 1 rfl) ?_
  refine my_xr (wr := [(h0, .inr (1, [.int wayToOther, .ref h1, .ref h2, .int place, .int speed, .int way, .int topSpeed, .int gain, .int brake, .int darkSpeed, .int rideSpeed, .int kilos, .int mostKilos, .int openContacts, .int fireFloor, .int ride, .int starts, .int distance, .int hardFalls])), (h1, .inr (2, [.int dstate, .int dplace, .int dplaces, .int dhold, .int dsteps, .int dbeam, .int dob, .int doc])), (h2, .inr (0, [.ref h3, .int ccount, .int cover]))]) [0] [1, 2, 3] [3, 0, 1, 2] (vx_runV (As := [.int 1]) (rest := []) ⟨hx, hb, hml, hown, hts⟩ (c_carOf_1 l hl9 D aI aL aZ _ k0 h4 powered stepsDone h0 lo) (cwV 1 hts (gV w_393 w_395 w_2 w_35 w_396) rfl rfl rfl (by decide +kernel) ⟨Nat.le_of_ble_eq_true rfl, Nat.le_of_ble_eq_true rfl⟩) (prev_of hK hP hD hS hA hE [0] rfl (by decide) (ci := 4) rfl 0 rfl _) rfl rfl hl.1 rfl (lv_room (Nat.le_of_ble_eq_true rfl)) dX4_wear_2 ⟨Nat.le_of_ble_eq_true rfl, Nat.le_of_ble_eq_true rfl⟩) hP hD hS hA rfl rfl (by decide) (by decide) hQ (fun _ h9 => ⟨hG.trans (cx_l h9.1), (False.elim h9.2)⟩) hout hlk rfl (by decide) (Nat.le_of_ble_eq_true rfl) (Nat.le_of_ble_eq_true rfl) (fun u_ H locs hw_1 hP hD hS => ?_)
  have hw_1 : F_carOf_1 = .inr () := hw_1
  have hG := hG.trans (cx_r hw_1)
  have hP : va_P D vwCl [(h0, .inr (1, [.int wayToOther, .ref h1, .ref h2, .int place, .int speed, .int way, .int topSpeed, .int gain, .int brake, .int darkSpeed, .int rideSpeed, .int kilos, .int mostKilos, .int openContacts, .int fireFloor, .int ride, .int starts, .int distance, .int hardFalls])), (h1, .inr (2, [.int dstate, .int dplace, .int dplaces, .int dhold, .int dsteps, .int dbeam, .int dob, .int doc])), (h2, .inr (0, [.ref h3, .int ccount, .int cover])), (k0, .inr (4, [.ref h4, lo, .ref h0, .int powered, .int stepsDone]))] H := hP
  have hD : va_D A [(h0, .inr (1, [.int wayToOther, .ref h1, .ref h2, .int place, .int speed, .int way, .int topSpeed, .int gain, .int brake, .int darkSpeed, .int rideSpeed, .int kilos, .int mostKilos, .int openContacts, .int fireFloor, .int ride, .int starts, .int distance, .int hardFalls])), (h1, .inr (2, [.int dstate, .int dplace, .int dplaces, .int dhold, .int dsteps, .int dbeam, .int dob, .int doc])), (h2, .inr (0, [.ref h3, .int ccount, .int cover])), (k0, .inr (4, [.ref h4, lo, .ref h0, .int powered, .int stepsDone]))] := hD
  refine lv_astore_n (lv' := [(3, .ref h0), (0, .ref k0), (1, .int 1), (2, .int p1)]) hx hb dX4_wear_5 rfl hl (by decide) rfl (fun ls hl => ?_)
  refine lv_iload_n hx hb dX4_wear_6 rfl (lv_at hl 3 rfl) ?_
  by_cases c_2 : p1 = 0
  · have hG := hG.trans (if_pos c_2)
    refine lv_tableIn (off := 37) (tgt := 44) hx hb dX4_wear_7 (by rw [c_2]; decide) (by rw [c_2]; decide) (by rw [c_2]; rfl) (by decide) ?_
    refine lv_aload_n hx hb dX4_wear_44 rfl (lv_at hl 0 rfl) ?_
    refine va_getN (D := D) (ci := 1) (v := .int starts) (C := RX1) (T := TX1) (N := 19) hx hb hts inX1 hown hK hP 0 rfl rfl 16 (by decide) (nwF hE 27 rfl) (fun _ h9 => h9) rfl dX4_wear_45 ?_
    have hP := hP.sub (ws' := [(k0, .inr (4, [.ref h4, lo, .ref h0, .int powered, .int stepsDone])), (h0, .inr (1, [.int wayToOther, .ref h1, .ref h2, .int place, .int speed, .int way, .int topSpeed, .int gain, .int brake, .int darkSpeed, .int rideSpeed, .int kilos, .int mostKilos, .int openContacts, .int fireFloor, .int ride, .int starts, .int distance, .int hardFalls])), (h1, .inr (2, [.int dstate, .int dplace, .int dplaces, .int dhold, .int dsteps, .int dbeam, .int dob, .int doc])), (h2, .inr (0, [.ref h3, .int ccount, .int cover]))]) [3, 0, 1, 2] rfl
    have hD := hD.sub (ws' := [(k0, .inr (4, [.ref h4, lo, .ref h0, .int powered, .int stepsDone])), (h0, .inr (1, [.int wayToOther, .ref h1, .ref h2, .int place, .int speed, .int way, .int topSpeed, .int gain, .int brake, .int darkSpeed, .int rideSpeed, .int kilos, .int mostKilos, .int openContacts, .int fireFloor, .int ride, .int starts, .int distance, .int hardFalls])), (h1, .inr (2, [.int dstate, .int dplace, .int dplaces, .int dhold, .int dsteps, .int dbeam, .int dob, .int doc])), (h2, .inr (0, [.ref h3, .int ccount, .int cover]))]) [3, 0, 1, 2] (by decide) rfl
    exact rtx_i hQ hx hb hr () hG hP hD hS (Nat.le_of_ble_eq_true rfl) (Nat.le_of_ble_eq_true rfl) dX4_wear_48 hlk
  · have hG := hG.trans (if_neg c_2)
    by_cases c_3 : p1 = 1
    · have hG := hG.trans (if_pos c_3)
      refine lv_tableIn (off := 42) (tgt := 49) hx hb dX4_wear_7 (by rw [c_3]; decide) (by rw [c_3]; decide) (by rw [c_3]; rfl) (by decide) ?_
      refine lv_aload_n hx hb dX4_wear_49 rfl (lv_at hl 0 rfl) ?_
      refine va_getN (D := D) (ci := 1) (v := .int distance) (C := RX1) (T := TX1) (N := 19) hx hb hts inX1 hown hK hP 0 rfl rfl 17 (by decide) (nwF hE 28 rfl) (fun _ h9 => h9) rfl dX4_wear_50 ?_
      have hP := hP.sub (ws' := [(k0, .inr (4, [.ref h4, lo, .ref h0, .int powered, .int stepsDone])), (h0, .inr (1, [.int wayToOther, .ref h1, .ref h2, .int place, .int speed, .int way, .int topSpeed, .int gain, .int brake, .int darkSpeed, .int rideSpeed, .int kilos, .int mostKilos, .int openContacts, .int fireFloor, .int ride, .int starts, .int distance, .int hardFalls])), (h1, .inr (2, [.int dstate, .int dplace, .int dplaces, .int dhold, .int dsteps, .int dbeam, .int dob, .int doc])), (h2, .inr (0, [.ref h3, .int ccount, .int cover]))]) [3, 0, 1, 2] rfl
      have hD := hD.sub (ws' := [(k0, .inr (4, [.ref h4, lo, .ref h0, .int powered, .int stepsDone])), (h0, .inr (1, [.int wayToOther, .ref h1, .ref h2, .int place, .int speed, .int way, .int topSpeed, .int gain, .int brake, .int darkSpeed, .int rideSpeed, .int kilos, .int mostKilos, .int openContacts, .int fireFloor, .int ride, .int starts, .int distance, .int hardFalls])), (h1, .inr (2, [.int dstate, .int dplace, .int dplaces, .int dhold, .int dsteps, .int dbeam, .int dob, .int doc])), (h2, .inr (0, [.ref h3, .int ccount, .int cover]))]) [3, 0, 1, 2] (by decide) rfl
      exact rtx_i hQ hx hb hr () hG hP hD hS (Nat.le_of_ble_eq_true rfl) (Nat.le_of_ble_eq_true rfl) dX4_wear_53 hlk
    · have hG := hG.trans (if_neg c_3)
      by_cases c_4 : p1 = 2
      · have hG := hG.trans (if_pos c_4)
        refine lv_tableIn (off := 47) (tgt := 54) hx hb dX4_wear_7 (by rw [c_4]; decide) (by rw [c_4]; decide) (by rw [c_4]; rfl) (by decide) ?_
        refine lv_aload_n hx hb dX4_wear_54 rfl (lv_at hl 0 rfl) ?_
        refine va_getN (D := D) (ci := 1) (v := .int hardFalls) (C := RX1) (T := TX1) (N := 19) hx hb hts inX1 hown hK hP 0 rfl rfl 18 (by decide) (nwF hE 29 rfl) (fun _ h9 => h9) rfl dX4_wear_55 ?_
        have hP := hP.sub (ws' := [(k0, .inr (4, [.ref h4, lo, .ref h0, .int powered, .int stepsDone])), (h0, .inr (1, [.int wayToOther, .ref h1, .ref h2, .int place, .int speed, .int way, .int topSpeed, .int gain, .int brake, .int darkSpeed, .int rideSpeed, .int kilos, .int mostKilos, .int openContacts, .int fireFloor, .int ride, .int starts, .int distance, .int hardFalls])), (h1, .inr (2, [.int dstate, .int dplace, .int dplaces, .int dhold, .int dsteps, .int dbeam, .int dob, .int doc])), (h2, .inr (0, [.ref h3, .int ccount, .int cover]))]) [3, 0, 1, 2] rfl
        have hD := hD.sub (ws' := [(k0, .inr (4, [.ref h4, lo, .ref h0, .int powered, .int stepsDone])), (h0, .inr (1, [.int wayToOther, .ref h1, .ref h2, .int place, .int speed, .int way, .int topSpeed, .int gain, .int brake, .int darkSpeed, .int rideSpeed, .int kilos, .int mostKilos, .int openContacts, .int fireFloor, .int ride, .int starts, .int distance, .int hardFalls])), (h1, .inr (2, [.int dstate, .int dplace, .int dplaces, .int dhold, .int dsteps, .int dbeam, .int dob, .int doc])), (h2, .inr (0, [.ref h3, .int ccount, .int cover]))]) [3, 0, 1, 2] (by decide) rfl
        exact rtx_i hQ hx hb hr () hG hP hD hS (Nat.le_of_ble_eq_true rfl) (Nat.le_of_ble_eq_true rfl) dX4_wear_58 hlk
      · have hG := hG.trans (if_neg c_4)
        by_cases c_5 : p1 = 3
        · have hG := hG.trans (if_pos c_5)
          refine lv_tableIn (off := 52) (tgt := 59) hx hb dX4_wear_7 (by rw [c_5]; decide) (by rw [c_5]; decide) (by rw [c_5]; rfl) (by decide) ?_
          refine lv_aload_n hx hb dX4_wear_59 rfl (lv_at hl 0 rfl) ?_
          refine va_getN (D := D) (ci := 1) (v := .ref h1) (C := RX1) (T := TX1) (N := 19) hx hb hts inX1 hown hK hP 0 rfl rfl 1 (by decide) (nwF hE 12 rfl) (fun _ h9 => h9) rfl dX4_wear_60 ?_
          refine va_getN (D := D) (ci := 2) (v := .int dob) (C := RX2) (T := TX2) (N := 8) hx hb hts inX2 hown hK hP 1 rfl rfl 6 (by decide) (nwF hE 8 rfl) (fun _ h9 => h9) rfl dX4_wear_63 ?_
          have hP := hP.sub (ws' := [(k0, .inr (4, [.ref h4, lo, .ref h0, .int powered, .int stepsDone])), (h0, .inr (1, [.int wayToOther, .ref h1, .ref h2, .int place, .int speed, .int way, .int topSpeed, .int gain, .int brake, .int darkSpeed, .int rideSpeed, .int kilos, .int mostKilos, .int openContacts, .int fireFloor, .int ride, .int starts, .int distance, .int hardFalls])), (h1, .inr (2, [.int dstate, .int dplace, .int dplaces, .int dhold, .int dsteps, .int dbeam, .int dob, .int doc])), (h2, .inr (0, [.ref h3, .int ccount, .int cover]))]) [3, 0, 1, 2] rfl
          have hD := hD.sub (ws' := [(k0, .inr (4, [.ref h4, lo, .ref h0, .int powered, .int stepsDone])), (h0, .inr (1, [.int wayToOther, .ref h1, .ref h2, .int place, .int speed, .int way, .int topSpeed, .int gain, .int brake, .int darkSpeed, .int rideSpeed, .int kilos, .int mostKilos, .int openContacts, .int fireFloor, .int ride, .int starts, .int distance, .int hardFalls])), (h1, .inr (2, [.int dstate, .int dplace, .int dplaces, .int dhold, .int dsteps, .int dbeam, .int dob, .int doc])), (h2, .inr (0, [.ref h3, .int ccount, .int cover]))]) [3, 0, 1, 2] (by decide) rfl
          exact rtx_i hQ hx hb hr () hG hP hD hS (Nat.le_of_ble_eq_true rfl) (Nat.le_of_ble_eq_true rfl) dX4_wear_66 hlk
        · have hG := hG.trans (if_neg c_5)
          by_cases c_6 : p1 = 4
          · have hG := hG.trans (if_pos c_6)
            refine lv_tableIn (off := 60) (tgt := 67) hx hb dX4_wear_7 (by rw [c_6]; decide) (by rw [c_6]; decide) (by rw [c_6]; rfl) (by decide) ?_
            refine lv_aload_n hx hb dX4_wear_67 rfl (lv_at hl 0 rfl) ?_
            refine va_getN (D := D) (ci := 1) (v := .ref h1) (C := RX1) (T := TX1) (N := 19) hx hb hts inX1 hown hK hP 0 rfl rfl 1 (by decide) (nwF hE 12 rfl) (fun _ h9 => h9) rfl dX4_wear_68 ?_
            refine va_getN (D := D) (ci := 2) (v := .int doc) (C := RX2) (T := TX2) (N := 8) hx hb hts inX2 hown hK hP 1 rfl rfl 7 (by decide) (nwF hE 9 rfl) (fun _ h9 => h9) rfl dX4_wear_71 ?_
            have hP := hP.sub (ws' := [(k0, .inr (4, [.ref h4, lo, .ref h0, .int powered, .int stepsDone])), (h0, .inr (1, [.int wayToOther, .ref h1, .ref h2, .int place, .int speed, .int way, .int topSpeed, .int gain, .int brake, .int darkSpeed, .int rideSpeed, .int kilos, .int mostKilos, .int openContacts, .int fireFloor, .int ride, .int starts, .int distance, .int hardFalls])), (h1, .inr (2, [.int dstate, .int dplace, .int dplaces, .int dhold, .int dsteps, .int dbeam, .int dob, .int doc])), (h2, .inr (0, [.ref h3, .int ccount, .int cover]))]) [3, 0, 1, 2] rfl
            have hD := hD.sub (ws' := [(k0, .inr (4, [.ref h4, lo, .ref h0, .int powered, .int stepsDone])), (h0, .inr (1, [.int wayToOther, .ref h1, .ref h2, .int place, .int speed, .int way, .int topSpeed, .int gain, .int brake, .int darkSpeed, .int rideSpeed, .int kilos, .int mostKilos, .int openContacts, .int fireFloor, .int ride, .int starts, .int distance, .int hardFalls])), (h1, .inr (2, [.int dstate, .int dplace, .int dplaces, .int dhold, .int dsteps, .int dbeam, .int dob, .int doc])), (h2, .inr (0, [.ref h3, .int ccount, .int cover]))]) [3, 0, 1, 2] (by decide) rfl
            exact rtx_i hQ hx hb hr () hG hP hD hS (Nat.le_of_ble_eq_true rfl) (Nat.le_of_ble_eq_true rfl) dX4_wear_74 hlk
          · have hG := hG.trans (if_neg c_6)
            by_cases c_7 : p1 = 5
            · have hG := hG.trans (if_pos c_7)
              refine lv_tableIn (off := 68) (tgt := 75) hx hb dX4_wear_7 (by rw [c_7]; decide) (by rw [c_7]; decide) (by rw [c_7]; rfl) (by decide) ?_
              refine lv_aload_n hx hb dX4_wear_75 rfl (lv_at hl 0 rfl) ?_
              refine va_getN (D := D) (ci := 1) (v := .ref h2) (C := RX1) (T := TX1) (N := 19) hx hb hts inX1 hown hK hP 0 rfl rfl 2 (by decide) (nwF hE 13 rfl) (fun _ h9 => h9) rfl dX4_wear_76 ?_
              refine va_getN (D := D) (ci := 0) (v := .int cover) (C := RX0) (T := TX0) (N := 3) hx hb hts inX0 hown hK hP 2 rfl rfl 2 (by decide) (nwF hE 11 rfl) (fun _ h9 => h9) rfl dX4_wear_79 ?_
              have hP := hP.sub (ws' := [(k0, .inr (4, [.ref h4, lo, .ref h0, .int powered, .int stepsDone])), (h0, .inr (1, [.int wayToOther, .ref h1, .ref h2, .int place, .int speed, .int way, .int topSpeed, .int gain, .int brake, .int darkSpeed, .int rideSpeed, .int kilos, .int mostKilos, .int openContacts, .int fireFloor, .int ride, .int starts, .int distance, .int hardFalls])), (h1, .inr (2, [.int dstate, .int dplace, .int dplaces, .int dhold, .int dsteps, .int dbeam, .int dob, .int doc])), (h2, .inr (0, [.ref h3, .int ccount, .int cover]))]) [3, 0, 1, 2] rfl
              have hD := hD.sub (ws' := [(k0, .inr (4, [.ref h4, lo, .ref h0, .int powered, .int stepsDone])), (h0, .inr (1, [.int wayToOther, .ref h1, .ref h2, .int place, .int speed, .int way, .int topSpeed, .int gain, .int brake, .int darkSpeed, .int rideSpeed, .int kilos, .int mostKilos, .int openContacts, .int fireFloor, .int ride, .int starts, .int distance, .int hardFalls])), (h1, .inr (2, [.int dstate, .int dplace, .int dplaces, .int dhold, .int dsteps, .int dbeam, .int dob, .int doc])), (h2, .inr (0, [.ref h3, .int ccount, .int cover]))]) [3, 0, 1, 2] (by decide) rfl
              exact rtx_i hQ hx hb hr () hG hP hD hS (Nat.le_of_ble_eq_true rfl) (Nat.le_of_ble_eq_true rfl) dX4_wear_82 hlk
            · have hG := hG.trans (if_neg c_7)
              refine lv_tableOut (tgt := 83) hx hb dX4_wear_7 (by have q0 := lv_neT c_2 (a := 0) (by decide); have q1 := lv_neT c_3 (a := 1) (by decide); have q2 := lv_neT c_4 (a := 2) (by decide); have q3 := lv_neT c_5 (a := 3) (by decide); have q4 := lv_neT c_6 (a := 4) (by decide); have q5 := lv_neT c_7 (a := 5) (by decide); omega) (by decide) ?_
              exact my_throw (own := RX4) (cls := "java/lang/IllegalArgumentException") (text := "there is no such wear") 1 [3, 0, 1, 2] hx hb hl9 hown (by decide +kernel) (hts _ (mG w_118)) (hts _ (mG w_42)) 12 rfl mt_92 hts tb_X4_92 tg_X4_92 hE hS (hl.1.trans hml.symm) dX4_wear_83 dX4_wear_86 dX4_wear_87 dX4_wear_89 dX4_wear_92 hout (Nat.le_of_ble_eq_true rfl) (Nat.le_of_ble_eq_true rfl) (Nat.le_of_ble_eq_true rfl) (Nat.le_of_ble_eq_true rfl) hlk hQ rfl ⟨hG, rfl⟩ hP hD rfl (by decide) (Nat.le_of_ble_eq_true rfl) (Nat.le_of_ble_eq_true rfl)
def F_wear_0n : Int32 ⊕ Int32 :=
  cx F_carOf_0n fun _ =>
    .inl 0
theorem F_wear_0n_u : F_wear_0n =
  (cx F_carOf_0n fun _ =>
    .inl 0) := rfl
set_option maxHeartbeats 4000000 in
set_option maxRecDepth 100000 in
theorem c_wear_0n (l : Launch) (hl9 : l.stackTraces = false) (D : va_G) (aI aL aZ : ClassId) (sz : Nat) (k0 : Nat) (h4 : Nat) (powered : Int32) (stepsDone : Int32) (up : Value) (p1 : Int32) : vx_Met l yX4_wear (.code yX4_wear cX4_wear 4 (some .int) :: Gw) ({ frames := 7, cells := 1, slots := 6, locals := 114 }) (va_Pc [.ref k0, .int 0, .int p1] (mpre D [(aI, .int), (aL, .long), (aZ, .boolean)] [(k0, .inr (4, [.ref h4, .null, up, .int powered, .int stepsDone]))] sz)) ((fun A : Nat → Prop => va_Qi (fun (r : Int32) (u : Unit) => False) (mpst D A (fun (u : Unit) => [(k0, .inr (4, [.ref h4, .null, up, .int powered, .int stepsDone]))])) A) (va_A ([(k0, .inr (4, [.ref h4, .null, up, .int powered, .int stepsDone]))]) sz)) ((fun A : Nat → Prop => vx_X (fun u : Int32 => F_wear_0n = .inl u ∧ (u = 1)) (mpsx D A [(k0, .inr (4, [.ref h4, .null, up, .int powered, .int stepsDone]))]) A) (va_A ([(k0, .inr (4, [.ref h4, .null, up, .int powered, .int stepsDone]))]) sz)) 1 6 (va_A ([(k0, .inr (4, [.ref h4, .null, up, .int powered, .int stepsDone]))]) sz) := by
  refine enx (cc := cX4_wear) (maxL := 4) (ret := (some .int)) (Qc := (fun A : Nat → Prop => va_Qi (fun (r : Int32) (u : Unit) => False) (mpst D A (fun (u : Unit) => [(k0, .inr (4, [.ref h4, .null, up, .int powered, .int stepsDone]))])) A)) (XC := (fun A : Nat → Prop => vx_X (fun u : Int32 => F_wear_0n = .inl u ∧ (u = 1)) (mpsx D A [(k0, .inr (4, [.ref h4, .null, up, .int powered, .int stepsDone]))]) A)) (by decide) rfl (Nat.le_of_ble_eq_true rfl) ?_
  intro p e s m args below meth c A ls Q hQ hx hb hr hts hown hlk hnm hml hout hA hS hP hK hD hE hl
  have hown : s.vm.findClass RX4 = some m.cls := hown
  have hl : lv_has ls 4 [(0, .ref k0), (1, .int 0), (2, .int p1)] := hl
  have hG := F_wear_0n_u
  refine lv_aload_n hx hb dX4_wear_0 rfl (lv_at hl 0 rfl) ?_
  refine lv_iload_n hx hb dX4_wear_1 rfl (lv_at hl 1 rfl) ?_
  refine my_xr (wr := []) [0] [] [0] (vx_runV (As := [.int 0]) (rest := []) ⟨hx, hb, hml, hown, hts⟩ (c_carOf_0n l hl9 D aI aL aZ _ k0 h4 powered stepsDone up) (cwV 1 hts (gV w_393 w_395 w_2 w_35 w_396) rfl rfl rfl (by decide +kernel) ⟨Nat.le_of_ble_eq_true rfl, Nat.le_of_ble_eq_true rfl⟩) (prev_of hK hP hD hS hA hE [0] rfl (by decide) (ci := 4) rfl 0 rfl _) rfl rfl hl.1 rfl (lv_room (Nat.le_of_ble_eq_true rfl)) dX4_wear_2 ⟨Nat.le_of_ble_eq_true rfl, Nat.le_of_ble_eq_true rfl⟩) hP hD hS hA rfl rfl (by decide) (by decide) hQ (fun _ h9 => ⟨hG.trans (cx_l h9.1), h9.2⟩) hout hlk rfl (by decide) (Nat.le_of_ble_eq_true rfl) (Nat.le_of_ble_eq_true rfl) (fun u_ H locs hw_1 hP hD hS => ?_)
  exact False.elim hw_1
def F_wear_1n : Int32 ⊕ Int32 :=
  cx F_carOf_1n fun _ =>
    .inl 0
theorem F_wear_1n_u : F_wear_1n =
  (cx F_carOf_1n fun _ =>
    .inl 0) := rfl
set_option maxHeartbeats 4000000 in
set_option maxRecDepth 100000 in
theorem c_wear_1n (l : Launch) (hl9 : l.stackTraces = false) (D : va_G) (aI aL aZ : ClassId) (sz : Nat) (k0 : Nat) (h4 : Nat) (powered : Int32) (stepsDone : Int32) (lo : Value) (p1 : Int32) : vx_Met l yX4_wear (.code yX4_wear cX4_wear 4 (some .int) :: Gw) ({ frames := 7, cells := 1, slots := 6, locals := 114 }) (va_Pc [.ref k0, .int 1, .int p1] (mpre D [(aI, .int), (aL, .long), (aZ, .boolean)] [(k0, .inr (4, [.ref h4, lo, .null, .int powered, .int stepsDone]))] sz)) ((fun A : Nat → Prop => va_Qi (fun (r : Int32) (u : Unit) => False) (mpst D A (fun (u : Unit) => [(k0, .inr (4, [.ref h4, lo, .null, .int powered, .int stepsDone]))])) A) (va_A ([(k0, .inr (4, [.ref h4, lo, .null, .int powered, .int stepsDone]))]) sz)) ((fun A : Nat → Prop => vx_X (fun u : Int32 => F_wear_1n = .inl u ∧ (u = 1)) (mpsx D A [(k0, .inr (4, [.ref h4, lo, .null, .int powered, .int stepsDone]))]) A) (va_A ([(k0, .inr (4, [.ref h4, lo, .null, .int powered, .int stepsDone]))]) sz)) 1 6 (va_A ([(k0, .inr (4, [.ref h4, lo, .null, .int powered, .int stepsDone]))]) sz) := by
  refine enx (cc := cX4_wear) (maxL := 4) (ret := (some .int)) (Qc := (fun A : Nat → Prop => va_Qi (fun (r : Int32) (u : Unit) => False) (mpst D A (fun (u : Unit) => [(k0, .inr (4, [.ref h4, lo, .null, .int powered, .int stepsDone]))])) A)) (XC := (fun A : Nat → Prop => vx_X (fun u : Int32 => F_wear_1n = .inl u ∧ (u = 1)) (mpsx D A [(k0, .inr (4, [.ref h4, lo, .null, .int powered, .int stepsDone]))]) A)) (by decide) rfl (Nat.le_of_ble_eq_true rfl) ?_
  intro p e s m args below meth c A ls Q hQ hx hb hr hts hown hlk hnm hml hout hA hS hP hK hD hE hl
  have hown : s.vm.findClass RX4 = some m.cls := hown
  have hl : lv_has ls 4 [(0, .ref k0), (1, .int 1), (2, .int p1)] := hl
  have hG := F_wear_1n_u
  refine lv_aload_n hx hb dX4_wear_0 rfl (lv_at hl 0 rfl) ?_
  refine lv_iload_n hx hb dX4_wear_1 rfl (lv_at hl 1 rfl) ?_
  refine my_xr (wr := []) [0] [] [0] (vx_runV (As := [.int 1]) (rest := []) ⟨hx, hb, hml, hown, hts⟩ (c_carOf_1n l hl9 D aI aL aZ _ k0 h4 powered stepsDone lo) (cwV 1 hts (gV w_393 w_395 w_2 w_35 w_396) rfl rfl rfl (by decide +kernel) ⟨Nat.le_of_ble_eq_true rfl, Nat.le_of_ble_eq_true rfl⟩) (prev_of hK hP hD hS hA hE [0] rfl (by decide) (ci := 4) rfl 0 rfl _) rfl rfl hl.1 rfl (lv_room (Nat.le_of_ble_eq_true rfl)) dX4_wear_2 ⟨Nat.le_of_ble_eq_true rfl, Nat.le_of_ble_eq_true rfl⟩) hP hD hS hA rfl rfl (by decide) (by decide) hQ (fun _ h9 => ⟨hG.trans (cx_l h9.1), h9.2⟩) hout hlk rfl (by decide) (Nat.le_of_ble_eq_true rfl) (Nat.le_of_ble_eq_true rfl) (fun u_ H locs hw_1 hP hD hS => ?_)
  exact False.elim hw_1
def F_wear_x : Int32 ⊕ Int32 :=
  cx F_carOf_x fun _ =>
    .inl 0
theorem F_wear_x_u : F_wear_x =
  (cx F_carOf_x fun _ =>
    .inl 0) := rfl
set_option maxHeartbeats 4000000 in
set_option maxRecDepth 100000 in
theorem c_wear_x (l : Launch) (hl9 : l.stackTraces = false) (D : va_G) (aI aL aZ : ClassId) (sz : Nat) (k0 : Nat) (h4 : Nat) (powered : Int32) (stepsDone : Int32) (lo : Value) (up : Value) (p0 : Int32) (p1 : Int32) (h9 : ¬ p0 = 0) (h8 : ¬ p0 = 1) : vx_Met l yX4_wear (.code yX4_wear cX4_wear 4 (some .int) :: Gw) ({ frames := 7, cells := 1, slots := 6, locals := 114 }) (va_Pc [.ref k0, .int p0, .int p1] (mpre D [(aI, .int), (aL, .long), (aZ, .boolean)] [(k0, .inr (4, [.ref h4, lo, up, .int powered, .int stepsDone]))] sz)) ((fun A : Nat → Prop => va_Qi (fun (r : Int32) (u : Unit) => False) (mpst D A (fun (u : Unit) => [(k0, .inr (4, [.ref h4, lo, up, .int powered, .int stepsDone]))])) A) (va_A ([(k0, .inr (4, [.ref h4, lo, up, .int powered, .int stepsDone]))]) sz)) ((fun A : Nat → Prop => vx_X (fun u : Int32 => F_wear_x = .inl u ∧ (u = 1)) (mpsx D A [(k0, .inr (4, [.ref h4, lo, up, .int powered, .int stepsDone]))]) A) (va_A ([(k0, .inr (4, [.ref h4, lo, up, .int powered, .int stepsDone]))]) sz)) 1 6 (va_A ([(k0, .inr (4, [.ref h4, lo, up, .int powered, .int stepsDone]))]) sz) := by
  refine enx (cc := cX4_wear) (maxL := 4) (ret := (some .int)) (Qc := (fun A : Nat → Prop => va_Qi (fun (r : Int32) (u : Unit) => False) (mpst D A (fun (u : Unit) => [(k0, .inr (4, [.ref h4, lo, up, .int powered, .int stepsDone]))])) A)) (XC := (fun A : Nat → Prop => vx_X (fun u : Int32 => F_wear_x = .inl u ∧ (u = 1)) (mpsx D A [(k0, .inr (4, [.ref h4, lo, up, .int powered, .int stepsDone]))]) A)) (by decide) rfl (Nat.le_of_ble_eq_true rfl) ?_
  intro p e s m args below meth c A ls Q hQ hx hb hr hts hown hlk hnm hml hout hA hS hP hK hD hE hl
  have hown : s.vm.findClass RX4 = some m.cls := hown
  have hl : lv_has ls 4 [(0, .ref k0), (1, .int p0), (2, .int p1)] := hl
  have hG := F_wear_x_u
  refine lv_aload_n hx hb dX4_wear_0 rfl (lv_at hl 0 rfl) ?_
  refine lv_iload_n hx hb dX4_wear_1 rfl (lv_at hl 1 rfl) ?_
  refine my_xr (wr := []) [0] [] [0] (vx_runV (As := [.int p0]) (rest := []) ⟨hx, hb, hml, hown, hts⟩ (c_carOf_x l hl9 D aI aL aZ _ k0 h4 powered stepsDone lo up p0 h9 h8) (cwV 1 hts (gV w_393 w_395 w_2 w_35 w_396) rfl rfl rfl (by decide +kernel) ⟨Nat.le_of_ble_eq_true rfl, Nat.le_of_ble_eq_true rfl⟩) (prev_of hK hP hD hS hA hE [0] rfl (by decide) (ci := 4) rfl 0 rfl _) rfl rfl hl.1 rfl (lv_room (Nat.le_of_ble_eq_true rfl)) dX4_wear_2 ⟨Nat.le_of_ble_eq_true rfl, Nat.le_of_ble_eq_true rfl⟩) hP hD hS hA rfl rfl (by decide) (by decide) hQ (fun _ h9 => ⟨hG.trans (cx_l h9.1), h9.2⟩) hout hlk rfl (by decide) (Nat.le_of_ble_eq_true rfl) (Nat.le_of_ble_eq_true rfl) (fun u_ H locs hw_1 hP hD hS => ?_)
  exact False.elim hw_1
