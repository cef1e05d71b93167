theorem dX1_isOverloaded_0 : decode cX1_isOverloaded 0 = .ok (.aload_n 0, 1) := by decide +kernel
theorem dX1_isOverloaded_1 : decode cX1_isOverloaded 1 = .ok (.getfield 56, 3) := by decide +kernel
theorem dX1_isOverloaded_4 : decode cX1_isOverloaded 4 = .ok (.aload_n 0, 1) := by decide +kernel
theorem dX1_isOverloaded_5 : decode cX1_isOverloaded 5 = .ok (.getfield 41, 3) := by decide +kernel
theorem dX1_isOverloaded_8 : decode cX1_isOverloaded 8 = .ok (.if_icmp .le 7, 3) := by decide +kernel
theorem dX1_isOverloaded_11 : decode cX1_isOverloaded 11 = .ok (.iconst 1, 1) := by decide +kernel
theorem dX1_isOverloaded_12 : decode cX1_isOverloaded 12 = .ok (.goto 4, 3) := by decide +kernel
theorem dX1_isOverloaded_15 : decode cX1_isOverloaded 15 = .ok (.iconst 0, 1) := by decide +kernel
theorem dX1_isOverloaded_16 : decode cX1_isOverloaded 16 = .ok (.ireturn, 1) := by decide +kernel
def F_isOverloaded (kilos : Int32) (mostKilos : Int32) : Int32 :=
  if kilos ≤ mostKilos then
    0
  else
    1
theorem F_isOverloaded_u (kilos : Int32) (mostKilos : Int32) : F_isOverloaded kilos mostKilos =
  (if kilos ≤ mostKilos then
    0
  else
    1) := rfl
set_option maxHeartbeats 4000000 in
set_option maxRecDepth 100000 in
theorem c_isOverloaded (l : Launch) (D : va_G) (aI aL aZ : ClassId) (sz : Nat) (h0 : Nat) (h1 : Nat) (h2 : Nat) (wayToOther : Int32) (place : Int32) (speed : Int32) (way : Int32) (topSpeed : Int32) (gain : Int32) (brake : Int32) (darkSpeed : Int32) (rideSpeed : Int32) (kilos : Int32) (mostKilos : Int32) (openContacts : Int32) (fireFloor : Int32) (ride : Int32) (starts : Int32) (distance : Int32) (hardFalls : Int32) : Met l yX1_isOverloaded (.code yX1_isOverloaded cX1_isOverloaded 1 (some .boolean) :: Gw) ({ frames := 0, cells := 0, slots := 0, locals := 0 }) (va_Pc [.ref h0] (mpre D [(aI, .int), (aL, .long), (aZ, .boolean)] [(h0, .inr (1, [.int wayToOther, .ref h1, .ref h2, .int place, .int speed, .int way, .int topSpeed, .int gain, .int brake, .int darkSpeed, .int rideSpeed, .int kilos, .int mostKilos, .int openContacts, .int fireFloor, .int ride, .int starts, .int distance, .int hardFalls]))] sz)) ((fun A : Nat → Prop => va_Qi (fun (r : Int32) (u : Unit) => F_isOverloaded kilos mostKilos = r ∧ nb r) (mpst D A (fun (u : Unit) => [(h0, .inr (1, [.int wayToOther, .ref h1, .ref h2, .int place, .int speed, .int way, .int topSpeed, .int gain, .int brake, .int darkSpeed, .int rideSpeed, .int kilos, .int mostKilos, .int openContacts, .int fireFloor, .int ride, .int starts, .int distance, .int hardFalls]))])) A) (va_A ([(h0, .inr (1, [.int wayToOther, .ref h1, .ref h2, .int place, .int speed, .int way, .int topSpeed, .int gain, .int brake, .int darkSpeed, .int rideSpeed, .int kilos, .int mostKilos, .int openContacts, .int fireFloor, .int ride, .int starts, .int distance, .int hardFalls]))]) sz)) 0 0 (va_A ([(h0, .inr (1, [.int wayToOther, .ref h1, .ref h2, .int place, .int speed, .int way, .int topSpeed, .int gain, .int brake, .int darkSpeed, .int rideSpeed, .int kilos, .int mostKilos, .int openContacts, .int fireFloor, .int ride, .int starts, .int distance, .int hardFalls]))]) sz) := by
  refine en (cc := cX1_isOverloaded) (maxL := 1) (ret := (some .boolean)) (Qc := (fun A : Nat → Prop => va_Qi (fun (r : Int32) (u : Unit) => F_isOverloaded kilos mostKilos = r ∧ nb r) (mpst D A (fun (u : Unit) => [(h0, .inr (1, [.int wayToOther, .ref h1, .ref h2, .int place, .int speed, .int way, .int topSpeed, .int gain, .int brake, .int darkSpeed, .int rideSpeed, .int kilos, .int mostKilos, .int openContacts, .int fireFloor, .int ride, .int starts, .int distance, .int hardFalls]))])) A)) (by decide) rfl (Nat.le_of_ble_eq_true rfl) ?_
  intro p e s m args below meth c A ls Q hQ hx hb hr hts hown hlk hnm hml hA hS hP hK hD hE hl
  have hown : s.vm.findClass RX1 = some m.cls := hown
  have hl : lv_has ls 1 [(0, .ref h0)] := hl
  have hG := F_isOverloaded_u kilos mostKilos
  refine lv_aload_n hx hb dX1_isOverloaded_0 rfl (lv_at hl 0 rfl) ?_
  refine va_get (D := D) (ci := 1) (v := .int kilos) (C := RX1) (T := TX1) (N := 19) hx hb hts inX1 hown hK hP 0 rfl rfl 11 (by decide) (hts _ (mG w_322)) (fun _ h9 => h9) rfl dX1_isOverloaded_1 ?_
  refine lv_aload_n hx hb dX1_isOverloaded_4 rfl (lv_at hl 0 rfl) ?_
  refine va_get (D := D) (ci := 1) (v := .int mostKilos) (C := RX1) (T := TX1) (N := 19) hx hb hts inX1 hown hK hP 0 rfl rfl 12 (by decide) (hts _ (mG w_324)) (fun _ h9 => h9) rfl dX1_isOverloaded_5 ?_
  refine lv_icmp_le (tgt := 15) hx hb dX1_isOverloaded_8 (by decide) (fun c_1 => ?_) (fun c_1 => ?_)
  · have hG := hG.trans (if_pos c_1)
    refine lv_iconst (v := 0) hx hb dX1_isOverloaded_15 (by decide) ?_
    have hP := hP.sub (ws' := [(h0, .inr (1, [.int wayToOther, .ref h1, .ref h2, .int place, .int speed, .int way, .int topSpeed, .int gain, .int brake, .int darkSpeed, .int rideSpeed, .int kilos, .int mostKilos, .int openContacts, .int fireFloor, .int ride, .int starts, .int distance, .int hardFalls]))]) [0] rfl
    have hD := hD.sub (ws' := [(h0, .inr (1, [.int wayToOther, .ref h1, .ref h2, .int place, .int speed, .int way, .int topSpeed, .int gain, .int brake, .int darkSpeed, .int rideSpeed, .int kilos, .int mostKilos, .int openContacts, .int fireFloor, .int ride, .int starts, .int distance, .int hardFalls]))]) [0] (by decide) rfl
    exact rt_z hQ hx hb hr (nb_n (Or.inl rfl)) () ⟨hG, (Or.inl rfl)⟩ hP hD hS (Nat.le_of_ble_eq_true rfl) (Nat.le_of_ble_eq_true rfl) dX1_isOverloaded_16 hlk
  · have hG := hG.trans (if_neg c_1)
    refine lv_iconst (v := 1) hx hb dX1_isOverloaded_11 (by decide) ?_
    refine lv_goto (tgt := 16) hx hb dX1_isOverloaded_12 (by decide) ?_
    have hP := hP.sub (ws' := [(h0, .inr (1, [.int wayToOther, .ref h1, .ref h2, .int place, .int speed, .int way, .int topSpeed, .int gain, .int brake, .int darkSpeed, .int rideSpeed, .int kilos, .int mostKilos, .int openContacts, .int fireFloor, .int ride, .int starts, .int distance, .int hardFalls]))]) [0] rfl
    have hD := hD.sub (ws' := [(h0, .inr (1, [.int wayToOther, .ref h1, .ref h2, .int place, .int speed, .int way, .int topSpeed, .int gain, .int brake, .int darkSpeed, .int rideSpeed, .int kilos, .int mostKilos, .int openContacts, .int fireFloor, .int ride, .int starts, .int distance, .int hardFalls]))]) [0] (by decide) rfl
    exact rt_z hQ hx hb hr (nb_n (Or.inr rfl)) () ⟨hG, (Or.inr rfl)⟩ hP hD hS (Nat.le_of_ble_eq_true rfl) (Nat.le_of_ble_eq_true rfl) dX1_isOverloaded_16 hlk
theorem dX1_modeNow_0 : decode cX1_modeNow 0 = .ok (.aload_n 0, 1) := by decide +kernel
theorem dX1_modeNow_1 : decode cX1_modeNow 1 = .ok (.getfield 59, 3) := by decide +kernel
theorem dX1_modeNow_4 : decode cX1_modeNow 4 = .ok (.ifCond .eq 5, 3) := by decide +kernel
theorem dX1_modeNow_7 : decode cX1_modeNow 7 = .ok (.iconst 1, 1) := by decide +kernel
theorem dX1_modeNow_8 : decode cX1_modeNow 8 = .ok (.ireturn, 1) := by decide +kernel
theorem dX1_modeNow_9 : decode cX1_modeNow 9 = .ok (.iload_n 1, 1) := by decide +kernel
theorem dX1_modeNow_10 : decode cX1_modeNow 10 = .ok (.ifCond .ne 5, 3) := by decide +kernel
theorem dX1_modeNow_13 : decode cX1_modeNow 13 = .ok (.iconst 2, 1) := by decide +kernel
theorem dX1_modeNow_14 : decode cX1_modeNow 14 = .ok (.ireturn, 1) := by decide +kernel
theorem dX1_modeNow_15 : decode cX1_modeNow 15 = .ok (.aload_n 0, 1) := by decide +kernel
theorem dX1_modeNow_16 : decode cX1_modeNow 16 = .ok (.getfield 44, 3) := by decide +kernel
theorem dX1_modeNow_19 : decode cX1_modeNow 19 = .ok (.iconst (-1), 1) := by decide +kernel
theorem dX1_modeNow_20 : decode cX1_modeNow 20 = .ok (.if_icmp .eq 5, 3) := by decide +kernel
theorem dX1_modeNow_23 : decode cX1_modeNow 23 = .ok (.iconst 3, 1) := by decide +kernel
theorem dX1_modeNow_24 : decode cX1_modeNow 24 = .ok (.ireturn, 1) := by decide +kernel
theorem dX1_modeNow_25 : decode cX1_modeNow 25 = .ok (.aload_n 0, 1) := by decide +kernel
theorem dX1_modeNow_26 : decode cX1_modeNow 26 = .ok (.getfield 47, 3) := by decide +kernel
theorem dX1_modeNow_29 : decode cX1_modeNow 29 = .ok (.iconst 2, 1) := by decide +kernel
theorem dX1_modeNow_30 : decode cX1_modeNow 30 = .ok (.if_icmp .eq 7, 3) := by decide +kernel
theorem dX1_modeNow_33 : decode cX1_modeNow 33 = .ok (.iconst 4, 1) := by decide +kernel
theorem dX1_modeNow_34 : decode cX1_modeNow 34 = .ok (.goto 4, 3) := by decide +kernel
theorem dX1_modeNow_37 : decode cX1_modeNow 37 = .ok (.iconst 0, 1) := by decide +kernel
theorem dX1_modeNow_38 : decode cX1_modeNow 38 = .ok (.ireturn, 1) := by decide +kernel
def F_modeNow (openContacts : Int32) (fireFloor : Int32) (ride : Int32) (p0 : Int32) : Int32 :=
  if openContacts = 0 then
    if p0 = 0 then
      2
    else
      if fireFloor = (-1) then
        if ride = 2 then
          0
        else
          4
      else
        3
  else
    1
theorem F_modeNow_u (openContacts : Int32) (fireFloor : Int32) (ride : Int32) (p0 : Int32) : F_modeNow openContacts fireFloor ride p0 =
  (if openContacts = 0 then
    if p0 = 0 then
      2
    else
      if fireFloor = (-1) then
        if ride = 2 then
          0
        else
          4
      else
        3
  else
    1) := rfl
set_option maxHeartbeats 4000000 in
set_option maxRecDepth 100000 in
theorem c_modeNow (l : Launch) (D : va_G) (aI aL aZ : ClassId) (sz : Nat) (h0 : Nat) (h1 : Nat) (h2 : Nat) (wayToOther : Int32) (place : Int32) (speed : Int32) (way : Int32) (topSpeed : Int32) (gain : Int32) (brake : Int32) (darkSpeed : Int32) (rideSpeed : Int32) (kilos : Int32) (mostKilos : Int32) (openContacts : Int32) (fireFloor : Int32) (ride : Int32) (starts : Int32) (distance : Int32) (hardFalls : Int32) (p0 : Int32) : Met l yX1_modeNow (.code yX1_modeNow cX1_modeNow 2 (some .int) :: Gw) ({ frames := 0, cells := 0, slots := 0, locals := 0 }) (va_Pc [.ref h0, .int p0] (mpre D [(aI, .int), (aL, .long), (aZ, .boolean)] [(h0, .inr (1, [.int wayToOther, .ref h1, .ref h2, .int place, .int speed, .int way, .int topSpeed, .int gain, .int brake, .int darkSpeed, .int rideSpeed, .int kilos, .int mostKilos, .int openContacts, .int fireFloor, .int ride, .int starts, .int distance, .int hardFalls]))] sz)) ((fun A : Nat → Prop => va_Qi (fun (r : Int32) (u : Unit) => F_modeNow openContacts fireFloor ride p0 = r) (mpst D A (fun (u : Unit) => [(h0, .inr (1, [.int wayToOther, .ref h1, .ref h2, .int place, .int speed, .int way, .int topSpeed, .int gain, .int brake, .int darkSpeed, .int rideSpeed, .int kilos, .int mostKilos, .int openContacts, .int fireFloor, .int ride, .int starts, .int distance, .int hardFalls]))])) A) (va_A ([(h0, .inr (1, [.int wayToOther, .ref h1, .ref h2, .int place, .int speed, .int way, .int topSpeed, .int gain, .int brake, .int darkSpeed, .int rideSpeed, .int kilos, .int mostKilos, .int openContacts, .int fireFloor, .int ride, .int starts, .int distance, .int hardFalls]))]) sz)) 0 0 (va_A ([(h0, .inr (1, [.int wayToOther, .ref h1, .ref h2, .int place, .int speed, .int way, .int topSpeed, .int gain, .int brake, .int darkSpeed, .int rideSpeed, .int kilos, .int mostKilos, .int openContacts, .int fireFloor, .int ride, .int starts, .int distance, .int hardFalls]))]) sz) := by
  refine en (cc := cX1_modeNow) (maxL := 2) (ret := (some .int)) (Qc := (fun A : Nat → Prop => va_Qi (fun (r : Int32) (u : Unit) => F_modeNow openContacts fireFloor ride p0 = r) (mpst D A (fun (u : Unit) => [(h0, .inr (1, [.int wayToOther, .ref h1, .ref h2, .int place, .int speed, .int way, .int topSpeed, .int gain, .int brake, .int darkSpeed, .int rideSpeed, .int kilos, .int mostKilos, .int openContacts, .int fireFloor, .int ride, .int starts, .int distance, .int hardFalls]))])) A)) (by decide) rfl (Nat.le_of_ble_eq_true rfl) ?_
  intro p e s m args below meth c A ls Q hQ hx hb hr hts hown hlk hnm hml hA hS hP hK hD hE hl
  have hown : s.vm.findClass RX1 = some m.cls := hown
  have hl : lv_has ls 2 [(0, .ref h0), (1, .int p0)] := hl
  have hG := F_modeNow_u openContacts fireFloor ride p0
  refine lv_aload_n hx hb dX1_modeNow_0 rfl (lv_at hl 0 rfl) ?_
  refine va_get (D := D) (ci := 1) (v := .int openContacts) (C := RX1) (T := TX1) (N := 19) hx hb hts inX1 hown hK hP 0 rfl rfl 13 (by decide) (hts _ (mG w_326)) (fun _ h9 => h9) rfl dX1_modeNow_1 ?_
  refine lv_if_eq (tgt := 9) hx hb dX1_modeNow_4 (by decide) (fun c_1 => ?_) (fun c_1 => ?_)
  · have hG := hG.trans (if_pos c_1)
    refine lv_iload_n hx hb dX1_modeNow_9 rfl (lv_at hl 1 rfl) ?_
    refine lv_if_ne (tgt := 15) hx hb dX1_modeNow_10 (by decide) (fun c_2 => ?_) (fun c_2 => ?_)
    · have hG := hG.trans (if_neg c_2)
      refine lv_aload_n hx hb dX1_modeNow_15 rfl (lv_at hl 0 rfl) ?_
      refine va_get (D := D) (ci := 1) (v := .int fireFloor) (C := RX1) (T := TX1) (N := 19) hx hb hts inX1 hown hK hP 0 rfl rfl 14 (by decide) (hts _ (mG w_328)) (fun _ h9 => h9) rfl dX1_modeNow_16 ?_
      refine lv_iconst (v := (-1)) hx hb dX1_modeNow_19 (by decide) ?_
      refine lv_icmp_eq (tgt := 25) hx hb dX1_modeNow_20 (by decide) (fun c_3 => ?_) (fun c_3 => ?_)
      · have hG := hG.trans (if_pos c_3)
        refine lv_aload_n hx hb dX1_modeNow_25 rfl (lv_at hl 0 rfl) ?_
        refine va_get (D := D) (ci := 1) (v := .int ride) (C := RX1) (T := TX1) (N := 19) hx hb hts inX1 hown hK hP 0 rfl rfl 15 (by decide) (hts _ (mG w_330)) (fun _ h9 => h9) rfl dX1_modeNow_26 ?_
        refine lv_iconst (v := 2) hx hb dX1_modeNow_29 (by decide) ?_
        refine lv_icmp_eq (tgt := 37) hx hb dX1_modeNow_30 (by decide) (fun c_4 => ?_) (fun c_4 => ?_)
        · have hG := hG.trans (if_pos c_4)
          refine lv_iconst (v := 0) hx hb dX1_modeNow_37 (by decide) ?_
          have hP := hP.sub (ws' := [(h0, .inr (1, [.int wayToOther, .ref h1, .ref h2, .int place, .int speed, .int way, .int topSpeed, .int gain, .int brake, .int darkSpeed, .int rideSpeed, .int kilos, .int mostKilos, .int openContacts, .int fireFloor, .int ride, .int starts, .int distance, .int hardFalls]))]) [0] rfl
          have hD := hD.sub (ws' := [(h0, .inr (1, [.int wayToOther, .ref h1, .ref h2, .int place, .int speed, .int way, .int topSpeed, .int gain, .int brake, .int darkSpeed, .int rideSpeed, .int kilos, .int mostKilos, .int openContacts, .int fireFloor, .int ride, .int starts, .int distance, .int hardFalls]))]) [0] (by decide) rfl
          exact rt_i hQ hx hb hr () hG hP hD hS (Nat.le_of_ble_eq_true rfl) (Nat.le_of_ble_eq_true rfl) dX1_modeNow_38 hlk
        · have hG := hG.trans (if_neg c_4)
          refine lv_iconst (v := 4) hx hb dX1_modeNow_33 (by decide) ?_
          refine lv_goto (tgt := 38) hx hb dX1_modeNow_34 (by decide) ?_
          have hP := hP.sub (ws' := [(h0, .inr (1, [.int wayToOther, .ref h1, .ref h2, .int place, .int speed, .int way, .int topSpeed, .int gain, .int brake, .int darkSpeed, .int rideSpeed, .int kilos, .int mostKilos, .int openContacts, .int fireFloor, .int ride, .int starts, .int distance, .int hardFalls]))]) [0] rfl
          have hD := hD.sub (ws' := [(h0, .inr (1, [.int wayToOther, .ref h1, .ref h2, .int place, .int speed, .int way, .int topSpeed, .int gain, .int brake, .int darkSpeed, .int rideSpeed, .int kilos, .int mostKilos, .int openContacts, .int fireFloor, .int ride, .int starts, .int distance, .int hardFalls]))]) [0] (by decide) rfl
          exact rt_i hQ hx hb hr () hG hP hD hS (Nat.le_of_ble_eq_true rfl) (Nat.le_of_ble_eq_true rfl) dX1_modeNow_38 hlk
      · have hG := hG.trans (if_neg c_3)
        refine lv_iconst (v := 3) hx hb dX1_modeNow_23 (by decide) ?_
        have hP := hP.sub (ws' := [(h0, .inr (1, [.int wayToOther, .ref h1, .ref h2, .int place, .int speed, .int way, .int topSpeed, .int gain, .int brake, .int darkSpeed, .int rideSpeed, .int kilos, .int mostKilos, .int openContacts, .int fireFloor, .int ride, .int starts, .int distance, .int hardFalls]))]) [0] rfl
        have hD := hD.sub (ws' := [(h0, .inr (1, [.int wayToOther, .ref h1, .ref h2, .int place, .int speed, .int way, .int topSpeed, .int gain, .int brake, .int darkSpeed, .int rideSpeed, .int kilos, .int mostKilos, .int openContacts, .int fireFloor, .int ride, .int starts, .int distance, .int hardFalls]))]) [0] (by decide) rfl
        exact rt_i hQ hx hb hr () hG hP hD hS (Nat.le_of_ble_eq_true rfl) (Nat.le_of_ble_eq_true rfl) dX1_modeNow_24 hlk
    · have hG := hG.trans (if_pos c_2)
      refine lv_iconst (v := 2) hx hb dX1_modeNow_13 (by decide) ?_
      have hP := hP.sub (ws' := [(h0, .inr (1, [.int wayToOther, .ref h1, .ref h2, .int place, .int speed, .int way, .int topSpeed, .int gain, .int brake, .int darkSpeed, .int rideSpeed, .int kilos, .int mostKilos, .int openContacts, .int fireFloor, .int ride, .int starts, .int distance, .int hardFalls]))]) [0] rfl
      have hD := hD.sub (ws' := [(h0, .inr (1, [.int wayToOther, .ref h1, .ref h2, .int place, .int speed, .int way, .int topSpeed, .int gain, .int brake, .int darkSpeed, .int rideSpeed, .int kilos, .int mostKilos, .int openContacts, .int fireFloor, .int ride, .int starts, .int distance, .int hardFalls]))]) [0] (by decide) rfl
      exact rt_i hQ hx hb hr () hG hP hD hS (Nat.le_of_ble_eq_true rfl) (Nat.le_of_ble_eq_true rfl) dX1_modeNow_14 hlk
  · have hG := hG.trans (if_neg c_1)
    refine lv_iconst (v := 1) hx hb dX1_modeNow_7 (by decide) ?_
    have hP := hP.sub (ws' := [(h0, .inr (1, [.int wayToOther, .ref h1, .ref h2, .int place, .int speed, .int way, .int topSpeed, .int gain, .int brake, .int darkSpeed, .int rideSpeed, .int kilos, .int mostKilos, .int openContacts, .int fireFloor, .int ride, .int starts, .int distance, .int hardFalls]))]) [0] rfl
    have hD := hD.sub (ws' := [(h0, .inr (1, [.int wayToOther, .ref h1, .ref h2, .int place, .int speed, .int way, .int topSpeed, .int gain, .int brake, .int darkSpeed, .int rideSpeed, .int kilos, .int mostKilos, .int openContacts, .int fireFloor, .int ride, .int starts, .int distance, .int hardFalls]))]) [0] (by decide) rfl
    exact rt_i hQ hx hb hr () hG hP hD hS (Nat.le_of_ble_eq_true rfl) (Nat.le_of_ble_eq_true rfl) dX1_modeNow_8 hlk
theorem dX1_standPlace_0 : decode cX1_standPlace 0 = .ok (.aload_n 0, 1) := by decide +kernel
theorem dX1_standPlace_1 : decode cX1_standPlace 1 = .ok (.getfield 78, 3) := by decide +kernel
theorem dX1_standPlace_4 : decode cX1_standPlace 4 = .ok (.aload_n 0, 1) := by decide +kernel
theorem dX1_standPlace_5 : decode cX1_standPlace 5 = .ok (.getfield 53, 3) := by decide +kernel
theorem dX1_standPlace_8 : decode cX1_standPlace 8 = .ok (.if_icmp .ne 27, 3) := by decide +kernel
theorem dX1_standPlace_11 : decode cX1_standPlace 11 = .ok (.aload_n 0, 1) := by decide +kernel
theorem dX1_standPlace_12 : decode cX1_standPlace 12 = .ok (.getfield 50, 3) := by decide +kernel
theorem dX1_standPlace_15 : decode cX1_standPlace 15 = .ok (.aload_n 0, 1) := by decide +kernel
theorem dX1_standPlace_16 : decode cX1_standPlace 16 = .ok (.getfield 78, 3) := by decide +kernel
theorem dX1_standPlace_19 : decode cX1_standPlace 19 = .ok (.aload_n 0, 1) := by decide +kernel
theorem dX1_standPlace_20 : decode cX1_standPlace 20 = .ok (.getfield 81, 3) := by decide +kernel
theorem dX1_standPlace_23 : decode cX1_standPlace 23 = .ok (.aload_n 0, 1) := by decide +kernel
theorem dX1_standPlace_24 : decode cX1_standPlace 24 = .ok (.getfield 32, 3) := by decide +kernel
theorem dX1_standPlace_27 : decode cX1_standPlace 27 = .ok (.invokestatic 84, 3) := by decide +kernel
theorem dX1_standPlace_30 : decode cX1_standPlace 30 = .ok (.imul, 1) := by decide +kernel
theorem dX1_standPlace_31 : decode cX1_standPlace 31 = .ok (.iadd, 1) := by decide +kernel
theorem dX1_standPlace_32 : decode cX1_standPlace 32 = .ok (.goto 7, 3) := by decide +kernel
theorem dX1_standPlace_35 : decode cX1_standPlace 35 = .ok (.aload_n 0, 1) := by decide +kernel
theorem dX1_standPlace_36 : decode cX1_standPlace 36 = .ok (.getfield 50, 3) := by decide +kernel
theorem dX1_standPlace_39 : decode cX1_standPlace 39 = .ok (.ireturn, 1) := by decide +kernel
def F_standPlace (wayToOther : Int32) (place : Int32) (speed : Int32) (way : Int32) (brake : Int32) : Int32 :=
  if way = wayToOther then
    cb (F_length speed brake) fun r_2 =>
      (place + (way * r_2))
  else
    place
theorem F_standPlace_u (wayToOther : Int32) (place : Int32) (speed : Int32) (way : Int32) (brake : Int32) : F_standPlace wayToOther place speed way brake =
  (if way = wayToOther then
    cb (F_length speed brake) fun r_2 =>
      (place + (way * r_2))
  else
    place) := rfl
set_option maxHeartbeats 4000000 in
set_option maxRecDepth 100000 in
theorem c_standPlace (l : Launch) (D : va_G) (aI aL aZ : ClassId) (sz : Nat) (h0 : Nat) (h1 : Nat) (h2 : Nat) (wayToOther : Int32) (place : Int32) (speed : Int32) (way : Int32) (topSpeed : Int32) (gain : Int32) (brake : Int32) (darkSpeed : Int32) (rideSpeed : Int32) (kilos : Int32) (mostKilos : Int32) (openContacts : Int32) (fireFloor : Int32) (ride : Int32) (starts : Int32) (distance : Int32) (hardFalls : Int32) : Met l yX1_standPlace (.code yX1_standPlace cX1_standPlace 1 (some .int) :: Gw) ({ frames := 1, cells := 0, slots := 0, locals := 22 }) (va_Pc [.ref h0] (mpre D [(aI, .int), (aL, .long), (aZ, .boolean)] [(h0, .inr (1, [.int wayToOther, .ref h1, .ref h2, .int place, .int speed, .int way, .int topSpeed, .int gain, .int brake, .int darkSpeed, .int rideSpeed, .int kilos, .int mostKilos, .int openContacts, .int fireFloor, .int ride, .int starts, .int distance, .int hardFalls]))] sz)) ((fun A : Nat → Prop => va_Qi (fun (r : Int32) (u : Unit) => F_standPlace wayToOther place speed way brake = r) (mpst D A (fun (u : Unit) => [(h0, .inr (1, [.int wayToOther, .ref h1, .ref h2, .int place, .int speed, .int way, .int topSpeed, .int gain, .int brake, .int darkSpeed, .int rideSpeed, .int kilos, .int mostKilos, .int openContacts, .int fireFloor, .int ride, .int starts, .int distance, .int hardFalls]))])) A) (va_A ([(h0, .inr (1, [.int wayToOther, .ref h1, .ref h2, .int place, .int speed, .int way, .int topSpeed, .int gain, .int brake, .int darkSpeed, .int rideSpeed, .int kilos, .int mostKilos, .int openContacts, .int fireFloor, .int ride, .int starts, .int distance, .int hardFalls]))]) sz)) 0 0 (va_A ([(h0, .inr (1, [.int wayToOther, .ref h1, .ref h2, .int place, .int speed, .int way, .int topSpeed, .int gain, .int brake, .int darkSpeed, .int rideSpeed, .int kilos, .int mostKilos, .int openContacts, .int fireFloor, .int ride, .int starts, .int distance, .int hardFalls]))]) sz) := by
  refine en (cc := cX1_standPlace) (maxL := 1) (ret := (some .int)) (Qc := (fun A : Nat → Prop => va_Qi (fun (r : Int32) (u : Unit) => F_standPlace wayToOther place speed way brake = r) (mpst D A (fun (u : Unit) => [(h0, .inr (1, [.int wayToOther, .ref h1, .ref h2, .int place, .int speed, .int way, .int topSpeed, .int gain, .int brake, .int darkSpeed, .int rideSpeed, .int kilos, .int mostKilos, .int openContacts, .int fireFloor, .int ride, .int starts, .int distance, .int hardFalls]))])) A)) (by decide) rfl (Nat.le_of_ble_eq_true rfl) ?_
  intro p e s m args below meth c A ls Q hQ hx hb hr hts hown hlk hnm hml hA hS hP hK hD hE hl
  have hown : s.vm.findClass RX1 = some m.cls := hown
  have hl : lv_has ls 1 [(0, .ref h0)] := hl
  have hG := F_standPlace_u wayToOther place speed way brake
  refine lv_aload_n hx hb dX1_standPlace_0 rfl (lv_at hl 0 rfl) ?_
  refine va_get (D := D) (ci := 1) (v := .int way) (C := RX1) (T := TX1) (N := 19) hx hb hts inX1 hown hK hP 0 rfl rfl 5 (by decide) (hts _ (mG w_310)) (fun _ h9 => h9) rfl dX1_standPlace_1 ?_
  refine lv_aload_n hx hb dX1_standPlace_4 rfl (lv_at hl 0 rfl) ?_
  refine va_get (D := D) (ci := 1) (v := .int wayToOther) (C := RX1) (T := TX1) (N := 19) hx hb hts inX1 hown hK hP 0 rfl rfl 0 (by decide) (hts _ (mG w_301)) (fun _ h9 => h9) rfl dX1_standPlace_5 ?_
  refine lv_icmp_ne (tgt := 35) hx hb dX1_standPlace_8 (by decide) (fun c_1 => ?_) (fun c_1 => ?_)
  · have hG := hG.trans (if_neg c_1)
    refine lv_aload_n hx hb dX1_standPlace_35 rfl (lv_at hl 0 rfl) ?_
    refine va_get (D := D) (ci := 1) (v := .int place) (C := RX1) (T := TX1) (N := 19) hx hb hts inX1 hown hK hP 0 rfl rfl 3 (by decide) (hts _ (mG w_306)) (fun _ h9 => h9) rfl dX1_standPlace_36 ?_
    have hP := hP.sub (ws' := [(h0, .inr (1, [.int wayToOther, .ref h1, .ref h2, .int place, .int speed, .int way, .int topSpeed, .int gain, .int brake, .int darkSpeed, .int rideSpeed, .int kilos, .int mostKilos, .int openContacts, .int fireFloor, .int ride, .int starts, .int distance, .int hardFalls]))]) [0] rfl
    have hD := hD.sub (ws' := [(h0, .inr (1, [.int wayToOther, .ref h1, .ref h2, .int place, .int speed, .int way, .int topSpeed, .int gain, .int brake, .int darkSpeed, .int rideSpeed, .int kilos, .int mostKilos, .int openContacts, .int fireFloor, .int ride, .int starts, .int distance, .int hardFalls]))]) [0] (by decide) rfl
    exact rt_i hQ hx hb hr () hG hP hD hS (Nat.le_of_ble_eq_true rfl) (Nat.le_of_ble_eq_true rfl) dX1_standPlace_39 hlk
  · have hG := hG.trans (if_pos c_1)
    refine lv_aload_n hx hb dX1_standPlace_11 rfl (lv_at hl 0 rfl) ?_
    refine va_get (D := D) (ci := 1) (v := .int place) (C := RX1) (T := TX1) (N := 19) hx hb hts inX1 hown hK hP 0 rfl rfl 3 (by decide) (hts _ (mG w_306)) (fun _ h9 => h9) rfl dX1_standPlace_12 ?_
    refine lv_aload_n hx hb dX1_standPlace_15 rfl (lv_at hl 0 rfl) ?_
    refine va_get (D := D) (ci := 1) (v := .int way) (C := RX1) (T := TX1) (N := 19) hx hb hts inX1 hown hK hP 0 rfl rfl 5 (by decide) (hts _ (mG w_310)) (fun _ h9 => h9) rfl dX1_standPlace_16 ?_
    refine lv_aload_n hx hb dX1_standPlace_19 rfl (lv_at hl 0 rfl) ?_
    refine va_get (D := D) (ci := 1) (v := .int speed) (C := RX1) (T := TX1) (N := 19) hx hb hts inX1 hown hK hP 0 rfl rfl 4 (by decide) (hts _ (mG w_308)) (fun _ h9 => h9) rfl dX1_standPlace_20 ?_
    refine lv_aload_n hx hb dX1_standPlace_23 rfl (lv_at hl 0 rfl) ?_
    refine va_get (D := D) (ci := 1) (v := .int brake) (C := RX1) (T := TX1) (N := 19) hx hb hts inX1 hown hK hP 0 rfl rfl 8 (by decide) (hts _ (mG w_316)) (fun _ h9 => h9) rfl dX1_standPlace_24 ?_
    refine my_i (wr := [(h0, .inr (1, [.int wayToOther, .ref h1, .ref h2, .int place, .int speed, .int way, .int topSpeed, .int gain, .int brake, .int darkSpeed, .int rideSpeed, .int kilos, .int mostKilos, .int openContacts, .int fireFloor, .int ride, .int starts, .int distance, .int hardFalls]))]) [] [0] (va_runSN (As := [.int speed, .int brake]) (rest := [.int way, .int place]) ⟨hx, hb, hml, hown, hts⟩ (c_length l D aI aL aZ _ speed brake) ⟨(va_cnB 2 hts (gC w_384) rfl rfl rfl (nwM hE 2 rfl) (hts _ (mG w_35)) (by decide +kernel) ⟨Nat.le_of_ble_eq_true rfl, Nat.le_of_ble_eq_true rfl⟩), hts _ (mG w_383), trivial⟩ (pre_of hK hP hD hS hA hE [] rfl (by decide) _) rfl rfl hl.1 rfl (lv_room (Nat.le_of_ble_eq_true rfl)) dX1_standPlace_27 ⟨Nat.le_of_ble_eq_true rfl, Nat.le_of_ble_eq_true rfl⟩) hP hD hS hA rfl rfl (by decide) (by decide) (fun r_2 u_ H locs hw_3 hP hD hS => ?_)
    have hw_3 : F_length speed brake = r_2 := hw_3
    have hG := hG.trans (cb_e hw_3)
    have hP : va_P D vwCl [(h0, .inr (1, [.int wayToOther, .ref h1, .ref h2, .int place, .int speed, .int way, .int topSpeed, .int gain, .int brake, .int darkSpeed, .int rideSpeed, .int kilos, .int mostKilos, .int openContacts, .int fireFloor, .int ride, .int starts, .int distance, .int hardFalls]))] H := hP
    have hD : va_D A [(h0, .inr (1, [.int wayToOther, .ref h1, .ref h2, .int place, .int speed, .int way, .int topSpeed, .int gain, .int brake, .int darkSpeed, .int rideSpeed, .int kilos, .int mostKilos, .int openContacts, .int fireFloor, .int ride, .int starts, .int distance, .int hardFalls]))] := hD
    refine lv_imul hx hb dX1_standPlace_30 ?_
    refine lv_iadd hx hb dX1_standPlace_31 ?_
    refine lv_goto (tgt := 39) hx hb dX1_standPlace_32 (by decide) ?_
    have hP := hP.sub (ws' := [(h0, .inr (1, [.int wayToOther, .ref h1, .ref h2, .int place, .int speed, .int way, .int topSpeed, .int gain, .int brake, .int darkSpeed, .int rideSpeed, .int kilos, .int mostKilos, .int openContacts, .int fireFloor, .int ride, .int starts, .int distance, .int hardFalls]))]) [0] rfl
    have hD := hD.sub (ws' := [(h0, .inr (1, [.int wayToOther, .ref h1, .ref h2, .int place, .int speed, .int way, .int topSpeed, .int gain, .int brake, .int darkSpeed, .int rideSpeed, .int kilos, .int mostKilos, .int openContacts, .int fireFloor, .int ride, .int starts, .int distance, .int hardFalls]))]) [0] (by decide) rfl
    exact rt_i hQ hx hb hr () hG hP hD hS (Nat.le_of_ble_eq_true rfl) (Nat.le_of_ble_eq_true rfl) dX1_standPlace_39 hlk
theorem dX1_wayTo_0 : decode cX1_wayTo 0 = .ok (.iload_n 1, 1) := by decide +kernel
theorem dX1_wayTo_1 : decode cX1_wayTo 1 = .ok (.iconst (-1), 1) := by decide +kernel
theorem dX1_wayTo_2 : decode cX1_wayTo 2 = .ok (.if_icmp .ne 7, 3) := by decide +kernel
theorem dX1_wayTo_5 : decode cX1_wayTo 5 = .ok (.iconst 0, 1) := by decide +kernel
theorem dX1_wayTo_6 : decode cX1_wayTo 6 = .ok (.goto 11, 3) := by decide +kernel
theorem dX1_wayTo_9 : decode cX1_wayTo 9 = .ok (.iload_n 1, 1) := by decide +kernel
theorem dX1_wayTo_10 : decode cX1_wayTo 10 = .ok (.aload_n 0, 1) := by decide +kernel
theorem dX1_wayTo_11 : decode cX1_wayTo 11 = .ok (.getfield 50, 3) := by decide +kernel
theorem dX1_wayTo_14 : decode cX1_wayTo 14 = .ok (.invokestatic 126, 3) := by decide +kernel
theorem dX1_wayTo_17 : decode cX1_wayTo 17 = .ok (.ireturn, 1) := by decide +kernel
def F_wayTo (place : Int32) (p0 : Int32) : Int32 :=
  if p0 = (-1) then
    0
  else
    cb (F_intCompare p0 place) fun r_2 =>
      r_2
theorem F_wayTo_u (place : Int32) (p0 : Int32) : F_wayTo place p0 =
  (if p0 = (-1) then
    0
  else
    cb (F_intCompare p0 place) fun r_2 =>
      r_2) := rfl
set_option maxHeartbeats 4000000 in
set_option maxRecDepth 100000 in
theorem c_wayTo (l : Launch) (D : va_G) (aI aL aZ : ClassId) (sz : Nat) (h0 : Nat) (h1 : Nat) (h2 : Nat) (wayToOther : Int32) (place : Int32) (speed : Int32) (way : Int32) (topSpeed : Int32) (gain : Int32) (brake : Int32) (darkSpeed : Int32) (rideSpeed : Int32) (kilos : Int32) (mostKilos : Int32) (openContacts : Int32) (fireFloor : Int32) (ride : Int32) (starts : Int32) (distance : Int32) (hardFalls : Int32) (p0 : Int32) : Met l yX1_wayTo (.code yX1_wayTo cX1_wayTo 2 (some .int) :: Gw) ({ frames := 1, cells := 0, slots := 0, locals := 21 }) (va_Pc [.ref h0, .int p0] (mpre D [(aI, .int), (aL, .long), (aZ, .boolean)] [(h0, .inr (1, [.int wayToOther, .ref h1, .ref h2, .int place, .int speed, .int way, .int topSpeed, .int gain, .int brake, .int darkSpeed, .int rideSpeed, .int kilos, .int mostKilos, .int openContacts, .int fireFloor, .int ride, .int starts, .int distance, .int hardFalls]))] sz)) ((fun A : Nat → Prop => va_Qi (fun (r : Int32) (u : Unit) => F_wayTo place p0 = r) (mpst D A (fun (u : Unit) => [(h0, .inr (1, [.int wayToOther, .ref h1, .ref h2, .int place, .int speed, .int way, .int topSpeed, .int gain, .int brake, .int darkSpeed, .int rideSpeed, .int kilos, .int mostKilos, .int openContacts, .int fireFloor, .int ride, .int starts, .int distance, .int hardFalls]))])) A) (va_A ([(h0, .inr (1, [.int wayToOther, .ref h1, .ref h2, .int place, .int speed, .int way, .int topSpeed, .int gain, .int brake, .int darkSpeed, .int rideSpeed, .int kilos, .int mostKilos, .int openContacts, .int fireFloor, .int ride, .int starts, .int distance, .int hardFalls]))]) sz)) 0 0 (va_A ([(h0, .inr (1, [.int wayToOther, .ref h1, .ref h2, .int place, .int speed, .int way, .int topSpeed, .int gain, .int brake, .int darkSpeed, .int rideSpeed, .int kilos, .int mostKilos, .int openContacts, .int fireFloor, .int ride, .int starts, .int distance, .int hardFalls]))]) sz) := by
  refine en (cc := cX1_wayTo) (maxL := 2) (ret := (some .int)) (Qc := (fun A : Nat → Prop => va_Qi (fun (r : Int32) (u : Unit) => F_wayTo place p0 = r) (mpst D A (fun (u : Unit) => [(h0, .inr (1, [.int wayToOther, .ref h1, .ref h2, .int place, .int speed, .int way, .int topSpeed, .int gain, .int brake, .int darkSpeed, .int rideSpeed, .int kilos, .int mostKilos, .int openContacts, .int fireFloor, .int ride, .int starts, .int distance, .int hardFalls]))])) A)) (by decide) rfl (Nat.le_of_ble_eq_true rfl) ?_
  intro p e s m args below meth c A ls Q hQ hx hb hr hts hown hlk hnm hml hA hS hP hK hD hE hl
  have hown : s.vm.findClass RX1 = some m.cls := hown
  have hl : lv_has ls 2 [(0, .ref h0), (1, .int p0)] := hl
  have hG := F_wayTo_u place p0
  refine lv_iload_n hx hb dX1_wayTo_0 rfl (lv_at hl 1 rfl) ?_
  refine lv_iconst (v := (-1)) hx hb dX1_wayTo_1 (by decide) ?_
  refine lv_icmp_ne (tgt := 9) hx hb dX1_wayTo_2 (by decide) (fun c_1 => ?_) (fun c_1 => ?_)
  · have hG := hG.trans (if_neg c_1)
    refine lv_iload_n hx hb dX1_wayTo_9 rfl (lv_at hl 1 rfl) ?_
    refine lv_aload_n hx hb dX1_wayTo_10 rfl (lv_at hl 0 rfl) ?_
    refine va_get (D := D) (ci := 1) (v := .int place) (C := RX1) (T := TX1) (N := 19) hx hb hts inX1 hown hK hP 0 rfl rfl 3 (by decide) (hts _ (mG w_306)) (fun _ h9 => h9) rfl dX1_wayTo_11 ?_
    refine my_i (wr := [(h0, .inr (1, [.int wayToOther, .ref h1, .ref h2, .int place, .int speed, .int way, .int topSpeed, .int gain, .int brake, .int darkSpeed, .int rideSpeed, .int kilos, .int mostKilos, .int openContacts, .int fireFloor, .int ride, .int starts, .int distance, .int hardFalls]))]) [] [0] (va_runS (As := [.int p0, .int place]) (rest := []) ⟨hx, hb, hml, hown, hts⟩ (c_intCompare l D aI aL aZ _ p0 place) (va_cwS 2 hts (gS w_532 w_533 w_47 w_534) rfl rfl rfl (by decide +kernel) ⟨Nat.le_of_ble_eq_true rfl, Nat.le_of_ble_eq_true rfl⟩) (pre_of hK hP hD hS hA hE [] rfl (by decide) _) rfl rfl hl.1 rfl (lv_room (Nat.le_of_ble_eq_true rfl)) dX1_wayTo_14 ⟨Nat.le_of_ble_eq_true rfl, Nat.le_of_ble_eq_true rfl⟩) hP hD hS hA rfl rfl (by decide) (by decide) (fun r_2 u_ H locs hw_3 hP hD hS => ?_)
    have hw_3 : F_intCompare p0 place = r_2 := hw_3
    have hG := hG.trans (cb_e hw_3)
    have hP : va_P D vwCl [(h0, .inr (1, [.int wayToOther, .ref h1, .ref h2, .int place, .int speed, .int way, .int topSpeed, .int gain, .int brake, .int darkSpeed, .int rideSpeed, .int kilos, .int mostKilos, .int openContacts, .int fireFloor, .int ride, .int starts, .int distance, .int hardFalls]))] H := hP
    have hD : va_D A [(h0, .inr (1, [.int wayToOther, .ref h1, .ref h2, .int place, .int speed, .int way, .int topSpeed, .int gain, .int brake, .int darkSpeed, .int rideSpeed, .int kilos, .int mostKilos, .int openContacts, .int fireFloor, .int ride, .int starts, .int distance, .int hardFalls]))] := hD
    have hP := hP.sub (ws' := [(h0, .inr (1, [.int wayToOther, .ref h1, .ref h2, .int place, .int speed, .int way, .int topSpeed, .int gain, .int brake, .int darkSpeed, .int rideSpeed, .int kilos, .int mostKilos, .int openContacts, .int fireFloor, .int ride, .int starts, .int distance, .int hardFalls]))]) [0] rfl
    have hD := hD.sub (ws' := [(h0, .inr (1, [.int wayToOther, .ref h1, .ref h2, .int place, .int speed, .int way, .int topSpeed, .int gain, .int brake, .int darkSpeed, .int rideSpeed, .int kilos, .int mostKilos, .int openContacts, .int fireFloor, .int ride, .int starts, .int distance, .int hardFalls]))]) [0] (by decide) rfl
    exact rt_i hQ hx hb hr () hG hP hD hS (Nat.le_of_ble_eq_true rfl) (Nat.le_of_ble_eq_true rfl) dX1_wayTo_17 hlk
  · have hG := hG.trans (if_pos c_1)
    refine lv_iconst (v := 0) hx hb dX1_wayTo_5 (by decide) ?_
    refine lv_goto (tgt := 17) hx hb dX1_wayTo_6 (by decide) ?_
    have hP := hP.sub (ws' := [(h0, .inr (1, [.int wayToOther, .ref h1, .ref h2, .int place, .int speed, .int way, .int topSpeed, .int gain, .int brake, .int darkSpeed, .int rideSpeed, .int kilos, .int mostKilos, .int openContacts, .int fireFloor, .int ride, .int starts, .int distance, .int hardFalls]))]) [0] rfl
    have hD := hD.sub (ws' := [(h0, .inr (1, [.int wayToOther, .ref h1, .ref h2, .int place, .int speed, .int way, .int topSpeed, .int gain, .int brake, .int darkSpeed, .int rideSpeed, .int kilos, .int mostKilos, .int openContacts, .int fireFloor, .int ride, .int starts, .int distance, .int hardFalls]))]) [0] (by decide) rfl
    exact rt_i hQ hx hb hr () hG hP hD hS (Nat.le_of_ble_eq_true rfl) (Nat.le_of_ble_eq_true rfl) dX1_wayTo_17 hlk
theorem dX1_limitIn_0 : decode cX1_limitIn 0 = .ok (.iload_n 1, 1) := by decide +kernel
theorem dX1_limitIn_1 : decode cX1_limitIn 1 = .ok (.iconst 2, 1) := by decide +kernel
theorem dX1_limitIn_2 : decode cX1_limitIn 2 = .ok (.if_icmp .ne 10, 3) := by decide +kernel
theorem dX1_limitIn_5 : decode cX1_limitIn 5 = .ok (.aload_n 0, 1) := by decide +kernel
theorem dX1_limitIn_6 : decode cX1_limitIn 6 = .ok (.getfield 35, 3) := by decide +kernel
theorem dX1_limitIn_9 : decode cX1_limitIn 9 = .ok (.goto 19, 3) := by decide +kernel
theorem dX1_limitIn_12 : decode cX1_limitIn 12 = .ok (.iload_n 1, 1) := by decide +kernel
theorem dX1_limitIn_13 : decode cX1_limitIn 13 = .ok (.iconst 4, 1) := by decide +kernel
theorem dX1_limitIn_14 : decode cX1_limitIn 14 = .ok (.if_icmp .ne 10, 3) := by decide +kernel
theorem dX1_limitIn_17 : decode cX1_limitIn 17 = .ok (.aload_n 0, 1) := by decide +kernel
theorem dX1_limitIn_18 : decode cX1_limitIn 18 = .ok (.getfield 38, 3) := by decide +kernel
theorem dX1_limitIn_21 : decode cX1_limitIn 21 = .ok (.goto 7, 3) := by decide +kernel
theorem dX1_limitIn_24 : decode cX1_limitIn 24 = .ok (.aload_n 0, 1) := by decide +kernel
theorem dX1_limitIn_25 : decode cX1_limitIn 25 = .ok (.getfield 25, 3) := by decide +kernel
theorem dX1_limitIn_28 : decode cX1_limitIn 28 = .ok (.ireturn, 1) := by decide +kernel
def F_limitIn (topSpeed : Int32) (darkSpeed : Int32) (rideSpeed : Int32) (p0 : Int32) : Int32 :=
  if p0 = 2 then
    darkSpeed
  else
    if p0 = 4 then
      rideSpeed
    else
      topSpeed
theorem F_limitIn_u (topSpeed : Int32) (darkSpeed : Int32) (rideSpeed : Int32) (p0 : Int32) : F_limitIn topSpeed darkSpeed rideSpeed p0 =
  (if p0 = 2 then
    darkSpeed
  else
    if p0 = 4 then
      rideSpeed
    else
      topSpeed) := rfl
set_option maxHeartbeats 4000000 in
set_option maxRecDepth 100000 in
theorem c_limitIn (l : Launch) (D : va_G) (aI aL aZ : ClassId) (sz : Nat) (h0 : Nat) (h1 : Nat) (h2 : Nat) (wayToOther : Int32) (place : Int32) (speed : Int32) (way : Int32) (topSpeed : Int32) (gain : Int32) (brake : Int32) (darkSpeed : Int32) (rideSpeed : Int32) (kilos : Int32) (mostKilos : Int32) (openContacts : Int32) (fireFloor : Int32) (ride : Int32) (starts : Int32) (distance : Int32) (hardFalls : Int32) (p0 : Int32) : Met l yX1_limitIn (.code yX1_limitIn cX1_limitIn 2 (some .int) :: Gw) ({ frames := 0, cells := 0, slots := 0, locals := 0 }) (va_Pc [.ref h0, .int p0] (mpre D [(aI, .int), (aL, .long), (aZ, .boolean)] [(h0, .inr (1, [.int wayToOther, .ref h1, .ref h2, .int place, .int speed, .int way, .int topSpeed, .int gain, .int brake, .int darkSpeed, .int rideSpeed, .int kilos, .int mostKilos, .int openContacts, .int fireFloor, .int ride, .int starts, .int distance, .int hardFalls]))] sz)) ((fun A : Nat → Prop => va_Qi (fun (r : Int32) (u : Unit) => F_limitIn topSpeed darkSpeed rideSpeed p0 = r) (mpst D A (fun (u : Unit) => [(h0, .inr (1, [.int wayToOther, .ref h1, .ref h2, .int place, .int speed, .int way, .int topSpeed, .int gain, .int brake, .int darkSpeed, .int rideSpeed, .int kilos, .int mostKilos, .int openContacts, .int fireFloor, .int ride, .int starts, .int distance, .int hardFalls]))])) A) (va_A ([(h0, .inr (1, [.int wayToOther, .ref h1, .ref h2, .int place, .int speed, .int way, .int topSpeed, .int gain, .int brake, .int darkSpeed, .int rideSpeed, .int kilos, .int mostKilos, .int openContacts, .int fireFloor, .int ride, .int starts, .int distance, .int hardFalls]))]) sz)) 0 0 (va_A ([(h0, .inr (1, [.int wayToOther, .ref h1, .ref h2, .int place, .int speed, .int way, .int topSpeed, .int gain, .int brake, .int darkSpeed, .int rideSpeed, .int kilos, .int mostKilos, .int openContacts, .int fireFloor, .int ride, .int starts, .int distance, .int hardFalls]))]) sz) := by
  refine en (cc := cX1_limitIn) (maxL := 2) (ret := (some .int)) (Qc := (fun A : Nat → Prop => va_Qi (fun (r : Int32) (u : Unit) => F_limitIn topSpeed darkSpeed rideSpeed p0 = r) (mpst D A (fun (u : Unit) => [(h0, .inr (1, [.int wayToOther, .ref h1, .ref h2, .int place, .int speed, .int way, .int topSpeed, .int gain, .int brake, .int darkSpeed, .int rideSpeed, .int kilos, .int mostKilos, .int openContacts, .int fireFloor, .int ride, .int starts, .int distance, .int hardFalls]))])) A)) (by decide) rfl (Nat.le_of_ble_eq_true rfl) ?_
  intro p e s m args below meth c A ls Q hQ hx hb hr hts hown hlk hnm hml hA hS hP hK hD hE hl
  have hown : s.vm.findClass RX1 = some m.cls := hown
  have hl : lv_has ls 2 [(0, .ref h0), (1, .int p0)] := hl
  have hG := F_limitIn_u topSpeed darkSpeed rideSpeed p0
  refine lv_iload_n hx hb dX1_limitIn_0 rfl (lv_at hl 1 rfl) ?_
  refine lv_iconst (v := 2) hx hb dX1_limitIn_1 (by decide) ?_
  refine lv_icmp_ne (tgt := 12) hx hb dX1_limitIn_2 (by decide) (fun c_1 => ?_) (fun c_1 => ?_)
  · have hG := hG.trans (if_neg c_1)
    refine lv_iload_n hx hb dX1_limitIn_12 rfl (lv_at hl 1 rfl) ?_
    refine lv_iconst (v := 4) hx hb dX1_limitIn_13 (by decide) ?_
    refine lv_icmp_ne (tgt := 24) hx hb dX1_limitIn_14 (by decide) (fun c_2 => ?_) (fun c_2 => ?_)
    · have hG := hG.trans (if_neg c_2)
      refine lv_aload_n hx hb dX1_limitIn_24 rfl (lv_at hl 0 rfl) ?_
      refine va_get (D := D) (ci := 1) (v := .int topSpeed) (C := RX1) (T := TX1) (N := 19) hx hb hts inX1 hown hK hP 0 rfl rfl 6 (by decide) (hts _ (mG w_312)) (fun _ h9 => h9) rfl dX1_limitIn_25 ?_
      have hP := hP.sub (ws' := [(h0, .inr (1, [.int wayToOther, .ref h1, .ref h2, .int place, .int speed, .int way, .int topSpeed, .int gain, .int brake, .int darkSpeed, .int rideSpeed, .int kilos, .int mostKilos, .int openContacts, .int fireFloor, .int ride, .int starts, .int distance, .int hardFalls]))]) [0] rfl
      have hD := hD.sub (ws' := [(h0, .inr (1, [.int wayToOther, .ref h1, .ref h2, .int place, .int speed, .int way, .int topSpeed, .int gain, .int brake, .int darkSpeed, .int rideSpeed, .int kilos, .int mostKilos, .int openContacts, .int fireFloor, .int ride, .int starts, .int distance, .int hardFalls]))]) [0] (by decide) rfl
      exact rt_i hQ hx hb hr () hG hP hD hS (Nat.le_of_ble_eq_true rfl) (Nat.le_of_ble_eq_true rfl) dX1_limitIn_28 hlk
    · have hG := hG.trans (if_pos c_2)
      refine lv_aload_n hx hb dX1_limitIn_17 rfl (lv_at hl 0 rfl) ?_
      refine va_get (D := D) (ci := 1) (v := .int rideSpeed) (C := RX1) (T := TX1) (N := 19) hx hb hts inX1 hown hK hP 0 rfl rfl 10 (by decide) (hts _ (mG w_320)) (fun _ h9 => h9) rfl dX1_limitIn_18 ?_
      refine lv_goto (tgt := 28) hx hb dX1_limitIn_21 (by decide) ?_
      have hP := hP.sub (ws' := [(h0, .inr (1, [.int wayToOther, .ref h1, .ref h2, .int place, .int speed, .int way, .int topSpeed, .int gain, .int brake, .int darkSpeed, .int rideSpeed, .int kilos, .int mostKilos, .int openContacts, .int fireFloor, .int ride, .int starts, .int distance, .int hardFalls]))]) [0] rfl
      have hD := hD.sub (ws' := [(h0, .inr (1, [.int wayToOther, .ref h1, .ref h2, .int place, .int speed, .int way, .int topSpeed, .int gain, .int brake, .int darkSpeed, .int rideSpeed, .int kilos, .int mostKilos, .int openContacts, .int fireFloor, .int ride, .int starts, .int distance, .int hardFalls]))]) [0] (by decide) rfl
      exact rt_i hQ hx hb hr () hG hP hD hS (Nat.le_of_ble_eq_true rfl) (Nat.le_of_ble_eq_true rfl) dX1_limitIn_28 hlk
  · have hG := hG.trans (if_pos c_1)
    refine lv_aload_n hx hb dX1_limitIn_5 rfl (lv_at hl 0 rfl) ?_
    refine va_get (D := D) (ci := 1) (v := .int darkSpeed) (C := RX1) (T := TX1) (N := 19) hx hb hts inX1 hown hK hP 0 rfl rfl 9 (by decide) (hts _ (mG w_318)) (fun _ h9 => h9) rfl dX1_limitIn_6 ?_
    refine lv_goto (tgt := 28) hx hb dX1_limitIn_9 (by decide) ?_
    have hP := hP.sub (ws' := [(h0, .inr (1, [.int wayToOther, .ref h1, .ref h2, .int place, .int speed, .int way, .int topSpeed, .int gain, .int brake, .int darkSpeed, .int rideSpeed, .int kilos, .int mostKilos, .int openContacts, .int fireFloor, .int ride, .int starts, .int distance, .int hardFalls]))]) [0] rfl
    have hD := hD.sub (ws' := [(h0, .inr (1, [.int wayToOther, .ref h1, .ref h2, .int place, .int speed, .int way, .int topSpeed, .int gain, .int brake, .int darkSpeed, .int rideSpeed, .int kilos, .int mostKilos, .int openContacts, .int fireFloor, .int ride, .int starts, .int distance, .int hardFalls]))]) [0] (by decide) rfl
    exact rt_i hQ hx hb hr () hG hP hD hS (Nat.le_of_ble_eq_true rfl) (Nat.le_of_ble_eq_true rfl) dX1_limitIn_28 hlk
theorem dX1_speedWithin_0 : decode cX1_speedWithin 0 = .ok (.aload_n 0, 1) := by decide +kernel
theorem dX1_speedWithin_1 : decode cX1_speedWithin 1 = .ok (.getfield 81, 3) := by decide +kernel
theorem dX1_speedWithin_4 : decode cX1_speedWithin 4 = .ok (.iload_n 1, 1) := by decide +kernel
theorem dX1_speedWithin_5 : decode cX1_speedWithin 5 = .ok (.if_icmp .le 19, 3) := by decide +kernel
theorem dX1_speedWithin_8 : decode cX1_speedWithin 8 = .ok (.iload_n 1, 1) := by decide +kernel
theorem dX1_speedWithin_9 : decode cX1_speedWithin 9 = .ok (.aload_n 0, 1) := by decide +kernel
theorem dX1_speedWithin_10 : decode cX1_speedWithin 10 = .ok (.getfield 81, 3) := by decide +kernel
theorem dX1_speedWithin_13 : decode cX1_speedWithin 13 = .ok (.aload_n 0, 1) := by decide +kernel
theorem dX1_speedWithin_14 : decode cX1_speedWithin 14 = .ok (.getfield 29, 3) := by decide +kernel
theorem dX1_speedWithin_17 : decode cX1_speedWithin 17 = .ok (.isub, 1) := by decide +kernel
theorem dX1_speedWithin_18 : decode cX1_speedWithin 18 = .ok (.invokestatic 159, 3) := by decide +kernel
theorem dX1_speedWithin_21 : decode cX1_speedWithin 21 = .ok (.goto 16, 3) := by decide +kernel
theorem dX1_speedWithin_24 : decode cX1_speedWithin 24 = .ok (.iload_n 1, 1) := by decide +kernel
theorem dX1_speedWithin_25 : decode cX1_speedWithin 25 = .ok (.aload_n 0, 1) := by decide +kernel
theorem dX1_speedWithin_26 : decode cX1_speedWithin 26 = .ok (.getfield 81, 3) := by decide +kernel
theorem dX1_speedWithin_29 : decode cX1_speedWithin 29 = .ok (.aload_n 0, 1) := by decide +kernel
theorem dX1_speedWithin_30 : decode cX1_speedWithin 30 = .ok (.getfield 29, 3) := by decide +kernel
theorem dX1_speedWithin_33 : decode cX1_speedWithin 33 = .ok (.iadd, 1) := by decide +kernel
theorem dX1_speedWithin_34 : decode cX1_speedWithin 34 = .ok (.invokestatic 162, 3) := by decide +kernel
theorem dX1_speedWithin_37 : decode cX1_speedWithin 37 = .ok (.ireturn, 1) := by decide +kernel
def F_speedWithin (speed : Int32) (gain : Int32) (p0 : Int32) : Int32 :=
  if speed ≤ p0 then
    (if (speed + gain) < p0 then (speed + gain) else p0)
  else
    (if p0 < (speed - gain) then (speed - gain) else p0)
theorem F_speedWithin_u (speed : Int32) (gain : Int32) (p0 : Int32) : F_speedWithin speed gain p0 =
  (if speed ≤ p0 then
    (if (speed + gain) < p0 then (speed + gain) else p0)
  else
    (if p0 < (speed - gain) then (speed - gain) else p0)) := rfl
set_option maxHeartbeats 4000000 in
set_option maxRecDepth 100000 in
theorem c_speedWithin (l : Launch) (D : va_G) (aI aL aZ : ClassId) (sz : Nat) (h0 : Nat) (h1 : Nat) (h2 : Nat) (wayToOther : Int32) (place : Int32) (speed : Int32) (way : Int32) (topSpeed : Int32) (gain : Int32) (brake : Int32) (darkSpeed : Int32) (rideSpeed : Int32) (kilos : Int32) (mostKilos : Int32) (openContacts : Int32) (fireFloor : Int32) (ride : Int32) (starts : Int32) (distance : Int32) (hardFalls : Int32) (p0 : Int32) : Met l yX1_speedWithin (.code yX1_speedWithin cX1_speedWithin 2 (some .int) :: Gw) ({ frames := 1, cells := 0, slots := 0, locals := 21 }) (va_Pc [.ref h0, .int p0] (mpre D [(aI, .int), (aL, .long), (aZ, .boolean)] [(h0, .inr (1, [.int wayToOther, .ref h1, .ref h2, .int place, .int speed, .int way, .int topSpeed, .int gain, .int brake, .int darkSpeed, .int rideSpeed, .int kilos, .int mostKilos, .int openContacts, .int fireFloor, .int ride, .int starts, .int distance, .int hardFalls]))] sz)) ((fun A : Nat → Prop => va_Qi (fun (r : Int32) (u : Unit) => F_speedWithin speed gain p0 = r) (mpst D A (fun (u : Unit) => [(h0, .inr (1, [.int wayToOther, .ref h1, .ref h2, .int place, .int speed, .int way, .int topSpeed, .int gain, .int brake, .int darkSpeed, .int rideSpeed, .int kilos, .int mostKilos, .int openContacts, .int fireFloor, .int ride, .int starts, .int distance, .int hardFalls]))])) A) (va_A ([(h0, .inr (1, [.int wayToOther, .ref h1, .ref h2, .int place, .int speed, .int way, .int topSpeed, .int gain, .int brake, .int darkSpeed, .int rideSpeed, .int kilos, .int mostKilos, .int openContacts, .int fireFloor, .int ride, .int starts, .int distance, .int hardFalls]))]) sz)) 0 0 (va_A ([(h0, .inr (1, [.int wayToOther, .ref h1, .ref h2, .int place, .int speed, .int way, .int topSpeed, .int gain, .int brake, .int darkSpeed, .int rideSpeed, .int kilos, .int mostKilos, .int openContacts, .int fireFloor, .int ride, .int starts, .int distance, .int hardFalls]))]) sz) := by
  refine en (cc := cX1_speedWithin) (maxL := 2) (ret := (some .int)) (Qc := (fun A : Nat → Prop => va_Qi (fun (r : Int32) (u : Unit) => F_speedWithin speed gain p0 = r) (mpst D A (fun (u : Unit) => [(h0, .inr (1, [.int wayToOther, .ref h1, .ref h2, .int place, .int speed, .int way, .int topSpeed, .int gain, .int brake, .int darkSpeed, .int rideSpeed, .int kilos, .int mostKilos, .int openContacts, .int fireFloor, .int ride, .int starts, .int distance, .int hardFalls]))])) A)) (by decide) rfl (Nat.le_of_ble_eq_true rfl) ?_
  intro p e s m args below meth c A ls Q hQ hx hb hr hts hown hlk hnm hml hA hS hP hK hD hE hl
  have hown : s.vm.findClass RX1 = some m.cls := hown
  have hl : lv_has ls 2 [(0, .ref h0), (1, .int p0)] := hl
  have hG := F_speedWithin_u speed gain p0
  refine lv_aload_n hx hb dX1_speedWithin_0 rfl (lv_at hl 0 rfl) ?_
  refine va_get (D := D) (ci := 1) (v := .int speed) (C := RX1) (T := TX1) (N := 19) hx hb hts inX1 hown hK hP 0 rfl rfl 4 (by decide) (hts _ (mG w_308)) (fun _ h9 => h9) rfl dX1_speedWithin_1 ?_
  refine lv_iload_n hx hb dX1_speedWithin_4 rfl (lv_at hl 1 rfl) ?_
  refine lv_icmp_le (tgt := 24) hx hb dX1_speedWithin_5 (by decide) (fun c_1 => ?_) (fun c_1 => ?_)
  · have hG := hG.trans (if_pos c_1)
    refine lv_iload_n hx hb dX1_speedWithin_24 rfl (lv_at hl 1 rfl) ?_
    refine lv_aload_n hx hb dX1_speedWithin_25 rfl (lv_at hl 0 rfl) ?_
    refine va_get (D := D) (ci := 1) (v := .int speed) (C := RX1) (T := TX1) (N := 19) hx hb hts inX1 hown hK hP 0 rfl rfl 4 (by decide) (hts _ (mG w_308)) (fun _ h9 => h9) rfl dX1_speedWithin_26 ?_
    refine lv_aload_n hx hb dX1_speedWithin_29 rfl (lv_at hl 0 rfl) ?_
    refine va_get (D := D) (ci := 1) (v := .int gain) (C := RX1) (T := TX1) (N := 19) hx hb hts inX1 hown hK hP 0 rfl rfl 7 (by decide) (hts _ (mG w_314)) (fun _ h9 => h9) rfl dX1_speedWithin_30 ?_
    refine lv_iadd hx hb dX1_speedWithin_33 ?_
    refine va_mmin hx hb (by rw [hml]; exact hl.1.symm) hown (hts _ (mG w_559)) (hts _ (mG w_62)) (hts _ (mG w_37)) (hts _ (mG w_63)) (Nat.le_of_ble_eq_true rfl) (Nat.le_of_ble_eq_true rfl) (Nat.le_of_ble_eq_true rfl) (Nat.le_of_ble_eq_true rfl) dX1_speedWithin_34 ?_
    have hP := hP.sub (ws' := [(h0, .inr (1, [.int wayToOther, .ref h1, .ref h2, .int place, .int speed, .int way, .int topSpeed, .int gain, .int brake, .int darkSpeed, .int rideSpeed, .int kilos, .int mostKilos, .int openContacts, .int fireFloor, .int ride, .int starts, .int distance, .int hardFalls]))]) [0] rfl
    have hD := hD.sub (ws' := [(h0, .inr (1, [.int wayToOther, .ref h1, .ref h2, .int place, .int speed, .int way, .int topSpeed, .int gain, .int brake, .int darkSpeed, .int rideSpeed, .int kilos, .int mostKilos, .int openContacts, .int fireFloor, .int ride, .int starts, .int distance, .int hardFalls]))]) [0] (by decide) rfl
    exact rt_i hQ hx hb hr () hG hP hD hS (Nat.le_of_ble_eq_true rfl) (Nat.le_of_ble_eq_true rfl) dX1_speedWithin_37 hlk
  · have hG := hG.trans (if_neg c_1)
    refine lv_iload_n hx hb dX1_speedWithin_8 rfl (lv_at hl 1 rfl) ?_
    refine lv_aload_n hx hb dX1_speedWithin_9 rfl (lv_at hl 0 rfl) ?_
    refine va_get (D := D) (ci := 1) (v := .int speed) (C := RX1) (T := TX1) (N := 19) hx hb hts inX1 hown hK hP 0 rfl rfl 4 (by decide) (hts _ (mG w_308)) (fun _ h9 => h9) rfl dX1_speedWithin_10 ?_
    refine lv_aload_n hx hb dX1_speedWithin_13 rfl (lv_at hl 0 rfl) ?_
    refine va_get (D := D) (ci := 1) (v := .int gain) (C := RX1) (T := TX1) (N := 19) hx hb hts inX1 hown hK hP 0 rfl rfl 7 (by decide) (hts _ (mG w_314)) (fun _ h9 => h9) rfl dX1_speedWithin_14 ?_
    refine lv_isub hx hb dX1_speedWithin_17 ?_
    refine va_mmax hx hb (by rw [hml]; exact hl.1.symm) hown (hts _ (mG w_558)) (hts _ (mG w_59)) (hts _ (mG w_37)) (hts _ (mG w_60)) (Nat.le_of_ble_eq_true rfl) (Nat.le_of_ble_eq_true rfl) (Nat.le_of_ble_eq_true rfl) (Nat.le_of_ble_eq_true rfl) dX1_speedWithin_18 ?_
    refine lv_goto (tgt := 37) hx hb dX1_speedWithin_21 (by decide) ?_
    have hP := hP.sub (ws' := [(h0, .inr (1, [.int wayToOther, .ref h1, .ref h2, .int place, .int speed, .int way, .int topSpeed, .int gain, .int brake, .int darkSpeed, .int rideSpeed, .int kilos, .int mostKilos, .int openContacts, .int fireFloor, .int ride, .int starts, .int distance, .int hardFalls]))]) [0] rfl
    have hD := hD.sub (ws' := [(h0, .inr (1, [.int wayToOther, .ref h1, .ref h2, .int place, .int speed, .int way, .int topSpeed, .int gain, .int brake, .int darkSpeed, .int rideSpeed, .int kilos, .int mostKilos, .int openContacts, .int fireFloor, .int ride, .int starts, .int distance, .int hardFalls]))]) [0] (by decide) rfl
    exact rt_i hQ hx hb hr () hG hP hD hS (Nat.le_of_ble_eq_true rfl) (Nat.le_of_ble_eq_true rfl) dX1_speedWithin_37 hlk
theorem dX1_leastSpeed_0 : decode cX1_leastSpeed 0 = .ok (.aload_n 0, 1) := by decide +kernel
theorem dX1_leastSpeed_1 : decode cX1_leastSpeed 1 = .ok (.getfield 81, 3) := by decide +kernel
theorem dX1_leastSpeed_4 : decode cX1_leastSpeed 4 = .ok (.aload_n 0, 1) := by decide +kernel
theorem dX1_leastSpeed_5 : decode cX1_leastSpeed 5 = .ok (.getfield 32, 3) := by decide +kernel
theorem dX1_leastSpeed_8 : decode cX1_leastSpeed 8 = .ok (.isub, 1) := by decide +kernel
theorem dX1_leastSpeed_9 : decode cX1_leastSpeed 9 = .ok (.iconst 0, 1) := by decide +kernel
theorem dX1_leastSpeed_10 : decode cX1_leastSpeed 10 = .ok (.invokestatic 159, 3) := by decide +kernel
theorem dX1_leastSpeed_13 : decode cX1_leastSpeed 13 = .ok (.ireturn, 1) := by decide +kernel
def F_leastSpeed (speed : Int32) (brake : Int32) : Int32 :=
  (if (speed - brake) < 0 then 0 else (speed - brake))
theorem F_leastSpeed_u (speed : Int32) (brake : Int32) : F_leastSpeed speed brake =
  ((if (speed - brake) < 0 then 0 else (speed - brake))) := rfl
set_option maxHeartbeats 4000000 in
set_option maxRecDepth 100000 in
theorem c_leastSpeed (l : Launch) (D : va_G) (aI aL aZ : ClassId) (sz : Nat) (h0 : Nat) (h1 : Nat) (h2 : Nat) (wayToOther : Int32) (place : Int32) (speed : Int32) (way : Int32) (topSpeed : Int32) (gain : Int32) (brake : Int32) (darkSpeed : Int32) (rideSpeed : Int32) (kilos : Int32) (mostKilos : Int32) (openContacts : Int32) (fireFloor : Int32) (ride : Int32) (starts : Int32) (distance : Int32) (hardFalls : Int32) : Met l yX1_leastSpeed (.code yX1_leastSpeed cX1_leastSpeed 1 (some .int) :: Gw) ({ frames := 1, cells := 0, slots := 0, locals := 21 }) (va_Pc [.ref h0] (mpre D [(aI, .int), (aL, .long), (aZ, .boolean)] [(h0, .inr (1, [.int wayToOther, .ref h1, .ref h2, .int place, .int speed, .int way, .int topSpeed, .int gain, .int brake, .int darkSpeed, .int rideSpeed, .int kilos, .int mostKilos, .int openContacts, .int fireFloor, .int ride, .int starts, .int distance, .int hardFalls]))] sz)) ((fun A : Nat → Prop => va_Qi (fun (r : Int32) (u : Unit) => F_leastSpeed speed brake = r) (mpst D A (fun (u : Unit) => [(h0, .inr (1, [.int wayToOther, .ref h1, .ref h2, .int place, .int speed, .int way, .int topSpeed, .int gain, .int brake, .int darkSpeed, .int rideSpeed, .int kilos, .int mostKilos, .int openContacts, .int fireFloor, .int ride, .int starts, .int distance, .int hardFalls]))])) A) (va_A ([(h0, .inr (1, [.int wayToOther, .ref h1, .ref h2, .int place, .int speed, .int way, .int topSpeed, .int gain, .int brake, .int darkSpeed, .int rideSpeed, .int kilos, .int mostKilos, .int openContacts, .int fireFloor, .int ride, .int starts, .int distance, .int hardFalls]))]) sz)) 0 0 (va_A ([(h0, .inr (1, [.int wayToOther, .ref h1, .ref h2, .int place, .int speed, .int way, .int topSpeed, .int gain, .int brake, .int darkSpeed, .int rideSpeed, .int kilos, .int mostKilos, .int openContacts, .int fireFloor, .int ride, .int starts, .int distance, .int hardFalls]))]) sz) := by
  refine en (cc := cX1_leastSpeed) (maxL := 1) (ret := (some .int)) (Qc := (fun A : Nat → Prop => va_Qi (fun (r : Int32) (u : Unit) => F_leastSpeed speed brake = r) (mpst D A (fun (u : Unit) => [(h0, .inr (1, [.int wayToOther, .ref h1, .ref h2, .int place, .int speed, .int way, .int topSpeed, .int gain, .int brake, .int darkSpeed, .int rideSpeed, .int kilos, .int mostKilos, .int openContacts, .int fireFloor, .int ride, .int starts, .int distance, .int hardFalls]))])) A)) (by decide) rfl (Nat.le_of_ble_eq_true rfl) ?_
  intro p e s m args below meth c A ls Q hQ hx hb hr hts hown hlk hnm hml hA hS hP hK hD hE hl
  have hown : s.vm.findClass RX1 = some m.cls := hown
  have hl : lv_has ls 1 [(0, .ref h0)] := hl
  have hG := F_leastSpeed_u speed brake
  refine lv_aload_n hx hb dX1_leastSpeed_0 rfl (lv_at hl 0 rfl) ?_
  refine va_get (D := D) (ci := 1) (v := .int speed) (C := RX1) (T := TX1) (N := 19) hx hb hts inX1 hown hK hP 0 rfl rfl 4 (by decide) (hts _ (mG w_308)) (fun _ h9 => h9) rfl dX1_leastSpeed_1 ?_
  refine lv_aload_n hx hb dX1_leastSpeed_4 rfl (lv_at hl 0 rfl) ?_
  refine va_get (D := D) (ci := 1) (v := .int brake) (C := RX1) (T := TX1) (N := 19) hx hb hts inX1 hown hK hP 0 rfl rfl 8 (by decide) (hts _ (mG w_316)) (fun _ h9 => h9) rfl dX1_leastSpeed_5 ?_
  refine lv_isub hx hb dX1_leastSpeed_8 ?_
  refine lv_iconst (v := 0) hx hb dX1_leastSpeed_9 (by decide) ?_
  refine va_mmax hx hb (by rw [hml]; exact hl.1.symm) hown (hts _ (mG w_558)) (hts _ (mG w_59)) (hts _ (mG w_37)) (hts _ (mG w_60)) (Nat.le_of_ble_eq_true rfl) (Nat.le_of_ble_eq_true rfl) (Nat.le_of_ble_eq_true rfl) (Nat.le_of_ble_eq_true rfl) dX1_leastSpeed_10 ?_
  have hP := hP.sub (ws' := [(h0, .inr (1, [.int wayToOther, .ref h1, .ref h2, .int place, .int speed, .int way, .int topSpeed, .int gain, .int brake, .int darkSpeed, .int rideSpeed, .int kilos, .int mostKilos, .int openContacts, .int fireFloor, .int ride, .int starts, .int distance, .int hardFalls]))]) [0] rfl
  have hD := hD.sub (ws' := [(h0, .inr (1, [.int wayToOther, .ref h1, .ref h2, .int place, .int speed, .int way, .int topSpeed, .int gain, .int brake, .int darkSpeed, .int rideSpeed, .int kilos, .int mostKilos, .int openContacts, .int fireFloor, .int ride, .int starts, .int distance, .int hardFalls]))]) [0] (by decide) rfl
  exact rt_i hQ hx hb hr () hG hP hD hS (Nat.le_of_ble_eq_true rfl) (Nat.le_of_ble_eq_true rfl) dX1_leastSpeed_13 hlk
theorem dX1_fits_0 : decode cX1_fits 0 = .ok (.iload_n 1, 1) := by decide +kernel
theorem dX1_fits_1 : decode cX1_fits 1 = .ok (.iload_n 1, 1) := by decide +kernel
theorem dX1_fits_2 : decode cX1_fits 2 = .ok (.aload_n 0, 1) := by decide +kernel
theorem dX1_fits_3 : decode cX1_fits 3 = .ok (.getfield 29, 3) := by decide +kernel
theorem dX1_fits_6 : decode cX1_fits 6 = .ok (.invokestatic 84, 3) := by decide +kernel
theorem dX1_fits_9 : decode cX1_fits 9 = .ok (.iadd, 1) := by decide +kernel
theorem dX1_fits_10 : decode cX1_fits 10 = .ok (.iload_n 2, 1) := by decide +kernel
theorem dX1_fits_11 : decode cX1_fits 11 = .ok (.if_icmp .gt 21, 3) := by decide +kernel
theorem dX1_fits_14 : decode cX1_fits 14 = .ok (.iload_n 1, 1) := by decide +kernel
theorem dX1_fits_15 : decode cX1_fits 15 = .ok (.iload_n 1, 1) := by decide +kernel
theorem dX1_fits_16 : decode cX1_fits 16 = .ok (.aload_n 0, 1) := by decide +kernel
theorem dX1_fits_17 : decode cX1_fits 17 = .ok (.getfield 32, 3) := by decide +kernel
theorem dX1_fits_20 : decode cX1_fits 20 = .ok (.invokestatic 84, 3) := by decide +kernel
theorem dX1_fits_23 : decode cX1_fits 23 = .ok (.iadd, 1) := by decide +kernel
theorem dX1_fits_24 : decode cX1_fits 24 = .ok (.iload_n 3, 1) := by decide +kernel
theorem dX1_fits_25 : decode cX1_fits 25 = .ok (.if_icmp .gt 7, 3) := by decide +kernel
theorem dX1_fits_28 : decode cX1_fits 28 = .ok (.iconst 1, 1) := by decide +kernel
theorem dX1_fits_29 : decode cX1_fits 29 = .ok (.goto 4, 3) := by decide +kernel
theorem dX1_fits_32 : decode cX1_fits 32 = .ok (.iconst 0, 1) := by decide +kernel
theorem dX1_fits_33 : decode cX1_fits 33 = .ok (.ireturn, 1) := by decide +kernel
def F_fitsC (gain : Int32) (brake : Int32) (p0 : Int32) (p1 : Int32) (p2 : Int32) : Int32 :=
  cb (F_length p0 gain) fun r_1 =>
    if p1 < (p0 + r_1) then
      0
    else
      cb (F_length p0 brake) fun r_4 =>
        if p2 < (p0 + r_4) then
          0
        else
          1
theorem F_fitsC_u (gain : Int32) (brake : Int32) (p0 : Int32) (p1 : Int32) (p2 : Int32) : F_fitsC gain brake p0 p1 p2 =
  (cb (F_length p0 gain) fun r_1 =>
    if p1 < (p0 + r_1) then
      0
    else
      cb (F_length p0 brake) fun r_4 =>
        if p2 < (p0 + r_4) then
          0
        else
          1) := rfl
set_option maxHeartbeats 4000000 in
set_option maxRecDepth 100000 in
theorem c_fitsC (l : Launch) (D : va_G) (aI aL aZ : ClassId) (sz : Nat) (h0 : Nat) (h1 : Nat) (h2 : Nat) (wayToOther : Int32) (place : Int32) (speed : Int32) (way : Int32) (topSpeed : Int32) (gain : Int32) (brake : Int32) (darkSpeed : Int32) (rideSpeed : Int32) (kilos : Int32) (mostKilos : Int32) (openContacts : Int32) (fireFloor : Int32) (ride : Int32) (starts : Int32) (distance : Int32) (hardFalls : Int32) (p0 : Int32) (p1 : Int32) (p2 : Int32) : Met l yX1_fits (.code yX1_fits cX1_fits 4 (some .boolean) :: Gw) ({ frames := 1, cells := 0, slots := 0, locals := 22 }) (va_Pc [.ref h0, .int p0, .int p1, .int p2] (mpre D [(aI, .int), (aL, .long), (aZ, .boolean)] [(h0, .inr (1, [.int wayToOther, .ref h1, .ref h2, .int place, .int speed, .int way, .int topSpeed, .int gain, .int brake, .int darkSpeed, .int rideSpeed, .int kilos, .int mostKilos, .int openContacts, .int fireFloor, .int ride, .int starts, .int distance, .int hardFalls]))] sz)) ((fun A : Nat → Prop => va_Qi (fun (r : Int32) (u : Unit) => F_fitsC gain brake p0 p1 p2 = r ∧ nb r) (mpst D A (fun (u : Unit) => [(h0, .inr (1, [.int wayToOther, .ref h1, .ref h2, .int place, .int speed, .int way, .int topSpeed, .int gain, .int brake, .int darkSpeed, .int rideSpeed, .int kilos, .int mostKilos, .int openContacts, .int fireFloor, .int ride, .int starts, .int distance, .int hardFalls]))])) A) (va_A ([(h0, .inr (1, [.int wayToOther, .ref h1, .ref h2, .int place, .int speed, .int way, .int topSpeed, .int gain, .int brake, .int darkSpeed, .int rideSpeed, .int kilos, .int mostKilos, .int openContacts, .int fireFloor, .int ride, .int starts, .int distance, .int hardFalls]))]) sz)) 0 0 (va_A ([(h0, .inr (1, [.int wayToOther, .ref h1, .ref h2, .int place, .int speed, .int way, .int topSpeed, .int gain, .int brake, .int darkSpeed, .int rideSpeed, .int kilos, .int mostKilos, .int openContacts, .int fireFloor, .int ride, .int starts, .int distance, .int hardFalls]))]) sz) := by
  refine en (cc := cX1_fits) (maxL := 4) (ret := (some .boolean)) (Qc := (fun A : Nat → Prop => va_Qi (fun (r : Int32) (u : Unit) => F_fitsC gain brake p0 p1 p2 = r ∧ nb r) (mpst D A (fun (u : Unit) => [(h0, .inr (1, [.int wayToOther, .ref h1, .ref h2, .int place, .int speed, .int way, .int topSpeed, .int gain, .int brake, .int darkSpeed, .int rideSpeed, .int kilos, .int mostKilos, .int openContacts, .int fireFloor, .int ride, .int starts, .int distance, .int hardFalls]))])) A)) (by decide) rfl (Nat.le_of_ble_eq_true rfl) ?_
  intro p e s m args below meth c A ls Q hQ hx hb hr hts hown hlk hnm hml hA hS hP hK hD hE hl
  have hown : s.vm.findClass RX1 = some m.cls := hown
  have hl : lv_has ls 4 [(0, .ref h0), (1, .int p0), (2, .int p1), (3, .int p2)] := hl
  have hG := F_fitsC_u gain brake p0 p1 p2
  refine lv_iload_n hx hb dX1_fits_0 rfl (lv_at hl 1 rfl) ?_
  refine lv_iload_n hx hb dX1_fits_1 rfl (lv_at hl 1 rfl) ?_
  refine lv_aload_n hx hb dX1_fits_2 rfl (lv_at hl 0 rfl) ?_
  refine va_get (D := D) (ci := 1) (v := .int gain) (C := RX1) (T := TX1) (N := 19) hx hb hts inX1 hown hK hP 0 rfl rfl 7 (by decide) (hts _ (mG w_314)) (fun _ h9 => h9) rfl dX1_fits_3 ?_
  refine my_i (wr := [(h0, .inr (1, [.int wayToOther, .ref h1, .ref h2, .int place, .int speed, .int way, .int topSpeed, .int gain, .int brake, .int darkSpeed, .int rideSpeed, .int kilos, .int mostKilos, .int openContacts, .int fireFloor, .int ride, .int starts, .int distance, .int hardFalls]))]) [] [0] (va_runSN (As := [.int p0, .int gain]) (rest := [.int p0]) ⟨hx, hb, hml, hown, hts⟩ (c_length l D aI aL aZ _ p0 gain) ⟨(va_cnB 2 hts (gC w_384) rfl rfl rfl (nwM hE 2 rfl) (hts _ (mG w_35)) (by decide +kernel) ⟨Nat.le_of_ble_eq_true rfl, Nat.le_of_ble_eq_true rfl⟩), hts _ (mG w_383), trivial⟩ (pre_of hK hP hD hS hA hE [] rfl (by decide) _) rfl rfl hl.1 rfl (lv_room (Nat.le_of_ble_eq_true rfl)) dX1_fits_6 ⟨Nat.le_of_ble_eq_true rfl, Nat.le_of_ble_eq_true rfl⟩) hP hD hS hA rfl rfl (by decide) (by decide) (fun r_1 u_ H locs hw_2 hP hD hS => ?_)
  have hw_2 : F_length p0 gain = r_1 := hw_2
  have hG := hG.trans (cb_e hw_2)
  have hP : va_P D vwCl [(h0, .inr (1, [.int wayToOther, .ref h1, .ref h2, .int place, .int speed, .int way, .int topSpeed, .int gain, .int brake, .int darkSpeed, .int rideSpeed, .int kilos, .int mostKilos, .int openContacts, .int fireFloor, .int ride, .int starts, .int distance, .int hardFalls]))] H := hP
  have hD : va_D A [(h0, .inr (1, [.int wayToOther, .ref h1, .ref h2, .int place, .int speed, .int way, .int topSpeed, .int gain, .int brake, .int darkSpeed, .int rideSpeed, .int kilos, .int mostKilos, .int openContacts, .int fireFloor, .int ride, .int starts, .int distance, .int hardFalls]))] := hD
  refine lv_iadd hx hb dX1_fits_9 ?_
  refine lv_iload_n hx hb dX1_fits_10 rfl (lv_at hl 2 rfl) ?_
  refine lv_icmp_gt (tgt := 32) hx hb dX1_fits_11 (by decide) (fun c_3 => ?_) (fun c_3 => ?_)
  · have hG := hG.trans (if_pos c_3)
    refine lv_iconst (v := 0) hx hb dX1_fits_32 (by decide) ?_
    have hP := hP.sub (ws' := [(h0, .inr (1, [.int wayToOther, .ref h1, .ref h2, .int place, .int speed, .int way, .int topSpeed, .int gain, .int brake, .int darkSpeed, .int rideSpeed, .int kilos, .int mostKilos, .int openContacts, .int fireFloor, .int ride, .int starts, .int distance, .int hardFalls]))]) [0] rfl
    have hD := hD.sub (ws' := [(h0, .inr (1, [.int wayToOther, .ref h1, .ref h2, .int place, .int speed, .int way, .int topSpeed, .int gain, .int brake, .int darkSpeed, .int rideSpeed, .int kilos, .int mostKilos, .int openContacts, .int fireFloor, .int ride, .int starts, .int distance, .int hardFalls]))]) [0] (by decide) rfl
    exact rt_z hQ hx hb hr (nb_n (Or.inl rfl)) () ⟨hG, (Or.inl rfl)⟩ hP hD hS (Nat.le_of_ble_eq_true rfl) (Nat.le_of_ble_eq_true rfl) dX1_fits_33 hlk
  · have hG := hG.trans (if_neg c_3)
    refine lv_iload_n hx hb dX1_fits_14 rfl (lv_at hl 1 rfl) ?_
    refine lv_iload_n hx hb dX1_fits_15 rfl (lv_at hl 1 rfl) ?_
    refine lv_aload_n hx hb dX1_fits_16 rfl (lv_at hl 0 rfl) ?_
    refine va_get (D := D) (ci := 1) (v := .int brake) (C := RX1) (T := TX1) (N := 19) hx hb hts inX1 hown hK hP 0 rfl rfl 8 (by decide) (hts _ (mG w_316)) (fun _ h9 => h9) rfl dX1_fits_17 ?_
    refine my_i (wr := [(h0, .inr (1, [.int wayToOther, .ref h1, .ref h2, .int place, .int speed, .int way, .int topSpeed, .int gain, .int brake, .int darkSpeed, .int rideSpeed, .int kilos, .int mostKilos, .int openContacts, .int fireFloor, .int ride, .int starts, .int distance, .int hardFalls]))]) [] [0] (va_runSN (As := [.int p0, .int brake]) (rest := [.int p0]) ⟨hx, hb, hml, hown, hts⟩ (c_length l D aI aL aZ _ p0 brake) ⟨(va_cnB 2 hts (gC w_384) rfl rfl rfl (nwM hE 2 rfl) (hts _ (mG w_35)) (by decide +kernel) ⟨Nat.le_of_ble_eq_true rfl, Nat.le_of_ble_eq_true rfl⟩), hts _ (mG w_383), trivial⟩ (pre_of hK hP hD hS hA hE [] rfl (by decide) _) rfl rfl hl.1 rfl (lv_room (Nat.le_of_ble_eq_true rfl)) dX1_fits_20 ⟨Nat.le_of_ble_eq_true rfl, Nat.le_of_ble_eq_true rfl⟩) hP hD hS hA rfl rfl (by decide) (by decide) (fun r_4 u_ H locs hw_5 hP hD hS => ?_)
    have hw_5 : F_length p0 brake = r_4 := hw_5
    have hG := hG.trans (cb_e hw_5)
    have hP : va_P D vwCl [(h0, .inr (1, [.int wayToOther, .ref h1, .ref h2, .int place, .int speed, .int way, .int topSpeed, .int gain, .int brake, .int darkSpeed, .int rideSpeed, .int kilos, .int mostKilos, .int openContacts, .int fireFloor, .int ride, .int starts, .int distance, .int hardFalls]))] H := hP
    have hD : va_D A [(h0, .inr (1, [.int wayToOther, .ref h1, .ref h2, .int place, .int speed, .int way, .int topSpeed, .int gain, .int brake, .int darkSpeed, .int rideSpeed, .int kilos, .int mostKilos, .int openContacts, .int fireFloor, .int ride, .int starts, .int distance, .int hardFalls]))] := hD
    refine lv_iadd hx hb dX1_fits_23 ?_
    refine lv_iload_n hx hb dX1_fits_24 rfl (lv_at hl 3 rfl) ?_
    refine lv_icmp_gt (tgt := 32) hx hb dX1_fits_25 (by decide) (fun c_6 => ?_) (fun c_6 => ?_)
    · have hG := hG.trans (if_pos c_6)
      refine lv_iconst (v := 0) hx hb dX1_fits_32 (by decide) ?_
      have hP := hP.sub (ws' := [(h0, .inr (1, [.int wayToOther, .ref h1, .ref h2, .int place, .int speed, .int way, .int topSpeed, .int gain, .int brake, .int darkSpeed, .int rideSpeed, .int kilos, .int mostKilos, .int openContacts, .int fireFloor, .int ride, .int starts, .int distance, .int hardFalls]))]) [0] rfl
      have hD := hD.sub (ws' := [(h0, .inr (1, [.int wayToOther, .ref h1, .ref h2, .int place, .int speed, .int way, .int topSpeed, .int gain, .int brake, .int darkSpeed, .int rideSpeed, .int kilos, .int mostKilos, .int openContacts, .int fireFloor, .int ride, .int starts, .int distance, .int hardFalls]))]) [0] (by decide) rfl
      exact rt_z hQ hx hb hr (nb_n (Or.inl rfl)) () ⟨hG, (Or.inl rfl)⟩ hP hD hS (Nat.le_of_ble_eq_true rfl) (Nat.le_of_ble_eq_true rfl) dX1_fits_33 hlk
    · have hG := hG.trans (if_neg c_6)
      refine lv_iconst (v := 1) hx hb dX1_fits_28 (by decide) ?_
      refine lv_goto (tgt := 33) hx hb dX1_fits_29 (by decide) ?_
      have hP := hP.sub (ws' := [(h0, .inr (1, [.int wayToOther, .ref h1, .ref h2, .int place, .int speed, .int way, .int topSpeed, .int gain, .int brake, .int darkSpeed, .int rideSpeed, .int kilos, .int mostKilos, .int openContacts, .int fireFloor, .int ride, .int starts, .int distance, .int hardFalls]))]) [0] rfl
      have hD := hD.sub (ws' := [(h0, .inr (1, [.int wayToOther, .ref h1, .ref h2, .int place, .int speed, .int way, .int topSpeed, .int gain, .int brake, .int darkSpeed, .int rideSpeed, .int kilos, .int mostKilos, .int openContacts, .int fireFloor, .int ride, .int starts, .int distance, .int hardFalls]))]) [0] (by decide) rfl
      exact rt_z hQ hx hb hr (nb_n (Or.inr rfl)) () ⟨hG, (Or.inr rfl)⟩ hP hD hS (Nat.le_of_ble_eq_true rfl) (Nat.le_of_ble_eq_true rfl) dX1_fits_33 hlk
theorem dX1_greatestSpeed_0 : decode cX1_greatestSpeed 0 = .ok (.aload_n 0, 1) := by decide +kernel
theorem dX1_greatestSpeed_1 : decode cX1_greatestSpeed 1 = .ok (.iload_n 1, 1) := by decide +kernel
theorem dX1_greatestSpeed_2 : decode cX1_greatestSpeed 2 = .ok (.iload_n 2, 1) := by decide +kernel
theorem dX1_greatestSpeed_3 : decode cX1_greatestSpeed 3 = .ok (.iload_n 3, 1) := by decide +kernel
theorem dX1_greatestSpeed_4 : decode cX1_greatestSpeed 4 = .ok (.invokevirtual 168, 3) := by decide +kernel
theorem dX1_greatestSpeed_7 : decode cX1_greatestSpeed 7 = .ok (.ifCond .eq 5, 3) := by decide +kernel
theorem dX1_greatestSpeed_10 : decode cX1_greatestSpeed 10 = .ok (.iload_n 1, 1) := by decide +kernel
theorem dX1_greatestSpeed_11 : decode cX1_greatestSpeed 11 = .ok (.ireturn, 1) := by decide +kernel
theorem dX1_greatestSpeed_12 : decode cX1_greatestSpeed 12 = .ok (.aload_n 0, 1) := by decide +kernel
theorem dX1_greatestSpeed_13 : decode cX1_greatestSpeed 13 = .ok (.invokevirtual 165, 3) := by decide +kernel
theorem dX1_greatestSpeed_16 : decode cX1_greatestSpeed 16 = .ok (.istore 4, 2) := by decide +kernel
theorem dX1_greatestSpeed_18 : decode cX1_greatestSpeed 18 = .ok (.aload_n 0, 1) := by decide +kernel
theorem dX1_greatestSpeed_19 : decode cX1_greatestSpeed 19 = .ok (.iload 4, 2) := by decide +kernel
theorem dX1_greatestSpeed_21 : decode cX1_greatestSpeed 21 = .ok (.iload_n 2, 1) := by decide +kernel
theorem dX1_greatestSpeed_22 : decode cX1_greatestSpeed 22 = .ok (.iload_n 3, 1) := by decide +kernel
theorem dX1_greatestSpeed_23 : decode cX1_greatestSpeed 23 = .ok (.invokevirtual 168, 3) := by decide +kernel
theorem dX1_greatestSpeed_26 : decode cX1_greatestSpeed 26 = .ok (.ifCond .ne 5, 3) := by decide +kernel
theorem dX1_greatestSpeed_29 : decode cX1_greatestSpeed 29 = .ok (.iconst (-1), 1) := by decide +kernel
theorem dX1_greatestSpeed_30 : decode cX1_greatestSpeed 30 = .ok (.ireturn, 1) := by decide +kernel
theorem dX1_greatestSpeed_31 : decode cX1_greatestSpeed 31 = .ok (.iload_n 1, 1) := by decide +kernel
theorem dX1_greatestSpeed_32 : decode cX1_greatestSpeed 32 = .ok (.istore 5, 2) := by decide +kernel
theorem dX1_greatestSpeed_34 : decode cX1_greatestSpeed 34 = .ok (.iconst 0, 1) := by decide +kernel
theorem dX1_greatestSpeed_35 : decode cX1_greatestSpeed 35 = .ok (.istore 6, 2) := by decide +kernel
theorem dX1_greatestSpeed_37 : decode cX1_greatestSpeed 37 = .ok (.iload 6, 2) := by decide +kernel
theorem dX1_greatestSpeed_39 : decode cX1_greatestSpeed 39 = .ok (.bipush 32, 2) := by decide +kernel
theorem dX1_greatestSpeed_41 : decode cX1_greatestSpeed 41 = .ok (.if_icmp .ge 49, 3) := by decide +kernel
theorem dX1_greatestSpeed_44 : decode cX1_greatestSpeed 44 = .ok (.iload 5, 2) := by decide +kernel
theorem dX1_greatestSpeed_46 : decode cX1_greatestSpeed 46 = .ok (.iload 4, 2) := by decide +kernel
theorem dX1_greatestSpeed_48 : decode cX1_greatestSpeed 48 = .ok (.isub, 1) := by decide +kernel
theorem dX1_greatestSpeed_49 : decode cX1_greatestSpeed 49 = .ok (.iconst 1, 1) := by decide +kernel
theorem dX1_greatestSpeed_50 : decode cX1_greatestSpeed 50 = .ok (.if_icmp .le 40, 3) := by decide +kernel
theorem dX1_greatestSpeed_53 : decode cX1_greatestSpeed 53 = .ok (.iload 4, 2) := by decide +kernel
theorem dX1_greatestSpeed_55 : decode cX1_greatestSpeed 55 = .ok (.iload 5, 2) := by decide +kernel
theorem dX1_greatestSpeed_57 : decode cX1_greatestSpeed 57 = .ok (.iadd, 1) := by decide +kernel
theorem dX1_greatestSpeed_58 : decode cX1_greatestSpeed 58 = .ok (.iconst 2, 1) := by decide +kernel
theorem dX1_greatestSpeed_59 : decode cX1_greatestSpeed 59 = .ok (.idiv, 1) := by decide +kernel
theorem dX1_greatestSpeed_60 : decode cX1_greatestSpeed 60 = .ok (.istore 7, 2) := by decide +kernel
theorem dX1_greatestSpeed_62 : decode cX1_greatestSpeed 62 = .ok (.aload_n 0, 1) := by decide +kernel
theorem dX1_greatestSpeed_63 : decode cX1_greatestSpeed 63 = .ok (.iload 7, 2) := by decide +kernel
theorem dX1_greatestSpeed_65 : decode cX1_greatestSpeed 65 = .ok (.iload_n 2, 1) := by decide +kernel
theorem dX1_greatestSpeed_66 : decode cX1_greatestSpeed 66 = .ok (.iload_n 3, 1) := by decide +kernel
theorem dX1_greatestSpeed_67 : decode cX1_greatestSpeed 67 = .ok (.invokevirtual 168, 3) := by decide +kernel
theorem dX1_greatestSpeed_70 : decode cX1_greatestSpeed 70 = .ok (.ifCond .eq 10, 3) := by decide +kernel
theorem dX1_greatestSpeed_73 : decode cX1_greatestSpeed 73 = .ok (.iload 7, 2) := by decide +kernel
theorem dX1_greatestSpeed_75 : decode cX1_greatestSpeed 75 = .ok (.istore 4, 2) := by decide +kernel
theorem dX1_greatestSpeed_77 : decode cX1_greatestSpeed 77 = .ok (.goto 7, 3) := by decide +kernel
theorem dX1_greatestSpeed_80 : decode cX1_greatestSpeed 80 = .ok (.iload 7, 2) := by decide +kernel
theorem dX1_greatestSpeed_82 : decode cX1_greatestSpeed 82 = .ok (.istore 5, 2) := by decide +kernel
theorem dX1_greatestSpeed_84 : decode cX1_greatestSpeed 84 = .ok (.iinc 6 1, 3) := by decide +kernel
theorem dX1_greatestSpeed_87 : decode cX1_greatestSpeed 87 = .ok (.goto (-50), 3) := by decide +kernel
theorem dX1_greatestSpeed_90 : decode cX1_greatestSpeed 90 = .ok (.iload 4, 2) := by decide +kernel
theorem dX1_greatestSpeed_92 : decode cX1_greatestSpeed 92 = .ok (.ireturn, 1) := by decide +kernel
def L_greatestSpeed_37 (gain : Int32) (brake : Int32) (p1 : Int32) (p2 : Int32) : Nat → Int32 → Int32 → Nat → Int32
  | 0, _, _, _ => 0
  | fu + 1, x4, x5, j =>
    if 32 ≤ (nI j) then
      x4
    else
      if (x5 - x4) ≤ 1 then
        x4
      else
        cb (F_fitsC gain brake ((x4 + x5) / 2) p1 p2) fun r_11 =>
          if r_11 = 0 then
            L_greatestSpeed_37 gain brake p1 p2 fu x4 ((x4 + x5) / 2) (j + 1)
          else
            L_greatestSpeed_37 gain brake p1 p2 fu ((x4 + x5) / 2) x5 (j + 1)
theorem L_greatestSpeed_37_u (gain : Int32) (brake : Int32) (p1 : Int32) (p2 : Int32) (fu : Nat) (x4 : Int32) (x5 : Int32) (j : Nat) : L_greatestSpeed_37 gain brake p1 p2 (fu + 1) x4 x5 j =
    (if 32 ≤ (nI j) then
      x4
    else
      if (x5 - x4) ≤ 1 then
        x4
      else
        cb (F_fitsC gain brake ((x4 + x5) / 2) p1 p2) fun r_11 =>
          if r_11 = 0 then
            L_greatestSpeed_37 gain brake p1 p2 fu x4 ((x4 + x5) / 2) (j + 1)
          else
            L_greatestSpeed_37 gain brake p1 p2 fu ((x4 + x5) / 2) x5 (j + 1)) := rfl
def F_greatestSpeed (speed : Int32) (gain : Int32) (brake : Int32) (p0 : Int32) (p1 : Int32) (p2 : Int32) : Int32 :=
  cb (F_fitsC gain brake p0 p1 p2) fun r_1 =>
    if r_1 = 0 then
      cb (F_leastSpeed speed brake) fun r_4 =>
        cb (F_fitsC gain brake r_4 p1 p2) fun r_6 =>
          if r_6 = 0 then
            (-1)
          else
            L_greatestSpeed_37 gain brake p1 p2 33 r_4 p0 0
    else
      p0
theorem F_greatestSpeed_u (speed : Int32) (gain : Int32) (brake : Int32) (p0 : Int32) (p1 : Int32) (p2 : Int32) : F_greatestSpeed speed gain brake p0 p1 p2 =
  (cb (F_fitsC gain brake p0 p1 p2) fun r_1 =>
    if r_1 = 0 then
      cb (F_leastSpeed speed brake) fun r_4 =>
        cb (F_fitsC gain brake r_4 p1 p2) fun r_6 =>
          if r_6 = 0 then
            (-1)
          else
            L_greatestSpeed_37 gain brake p1 p2 33 r_4 p0 0
    else
      p0) := rfl
set_option maxHeartbeats 4000000 in
set_option maxRecDepth 100000 in
theorem c_greatestSpeed (l : Launch) (D : va_G) (aI aL aZ : ClassId) (sz : Nat) (h0 : Nat) (h1 : Nat) (h2 : Nat) (wayToOther : Int32) (place : Int32) (speed : Int32) (way : Int32) (topSpeed : Int32) (gain : Int32) (brake : Int32) (darkSpeed : Int32) (rideSpeed : Int32) (kilos : Int32) (mostKilos : Int32) (openContacts : Int32) (fireFloor : Int32) (ride : Int32) (starts : Int32) (distance : Int32) (hardFalls : Int32) (p0 : Int32) (p1 : Int32) (p2 : Int32) : Met l yX1_greatestSpeed (.code yX1_greatestSpeed cX1_greatestSpeed 8 (some .int) :: Gw) ({ frames := 2, cells := 0, slots := 0, locals := 45 }) (va_Pc [.ref h0, .int p0, .int p1, .int p2] (mpre D [(aI, .int), (aL, .long), (aZ, .boolean)] [(h0, .inr (1, [.int wayToOther, .ref h1, .ref h2, .int place, .int speed, .int way, .int topSpeed, .int gain, .int brake, .int darkSpeed, .int rideSpeed, .int kilos, .int mostKilos, .int openContacts, .int fireFloor, .int ride, .int starts, .int distance, .int hardFalls]))] sz)) ((fun A : Nat → Prop => va_Qi (fun (r : Int32) (u : Unit) => F_greatestSpeed speed gain brake p0 p1 p2 = r) (mpst D A (fun (u : Unit) => [(h0, .inr (1, [.int wayToOther, .ref h1, .ref h2, .int place, .int speed, .int way, .int topSpeed, .int gain, .int brake, .int darkSpeed, .int rideSpeed, .int kilos, .int mostKilos, .int openContacts, .int fireFloor, .int ride, .int starts, .int distance, .int hardFalls]))])) A) (va_A ([(h0, .inr (1, [.int wayToOther, .ref h1, .ref h2, .int place, .int speed, .int way, .int topSpeed, .int gain, .int brake, .int darkSpeed, .int rideSpeed, .int kilos, .int mostKilos, .int openContacts, .int fireFloor, .int ride, .int starts, .int distance, .int hardFalls]))]) sz)) 0 0 (va_A ([(h0, .inr (1, [.int wayToOther, .ref h1, .ref h2, .int place, .int speed, .int way, .int topSpeed, .int gain, .int brake, .int darkSpeed, .int rideSpeed, .int kilos, .int mostKilos, .int openContacts, .int fireFloor, .int ride, .int starts, .int distance, .int hardFalls]))]) sz) := by
  refine en (cc := cX1_greatestSpeed) (maxL := 8) (ret := (some .int)) (Qc := (fun A : Nat → Prop => va_Qi (fun (r : Int32) (u : Unit) => F_greatestSpeed speed gain brake p0 p1 p2 = r) (mpst D A (fun (u : Unit) => [(h0, .inr (1, [.int wayToOther, .ref h1, .ref h2, .int place, .int speed, .int way, .int topSpeed, .int gain, .int brake, .int darkSpeed, .int rideSpeed, .int kilos, .int mostKilos, .int openContacts, .int fireFloor, .int ride, .int starts, .int distance, .int hardFalls]))])) A)) (by decide) rfl (Nat.le_of_ble_eq_true rfl) ?_
  intro p e s m args below meth c A ls Q hQ hx hb hr hts hown hlk hnm hml hA hS hP hK hD hE hl
  have hown : s.vm.findClass RX1 = some m.cls := hown
  have hl : lv_has ls 8 [(0, .ref h0), (1, .int p0), (2, .int p1), (3, .int p2)] := hl
  have hG := F_greatestSpeed_u speed gain brake p0 p1 p2
  refine lv_aload_n hx hb dX1_greatestSpeed_0 rfl (lv_at hl 0 rfl) ?_
  refine lv_iload_n hx hb dX1_greatestSpeed_1 rfl (lv_at hl 1 rfl) ?_
  refine lv_iload_n hx hb dX1_greatestSpeed_2 rfl (lv_at hl 2 rfl) ?_
  refine lv_iload_n hx hb dX1_greatestSpeed_3 rfl (lv_at hl 3 rfl) ?_
  refine my_i (wr := []) [0] [] (va_runV (As := [.int p0, .int p1, .int p2]) (rest := []) ⟨hx, hb, hml, hown, hts⟩ (c_fitsC l D aI aL aZ _ h0 h1 h2 wayToOther place speed way topSpeed gain brake darkSpeed rideSpeed kilos mostKilos openContacts fireFloor ride starts distance hardFalls p0 p1 p2) (cwV 3 hts (gV w_565 w_567 w_10 w_44 w_568) rfl rfl rfl (by decide +kernel) ⟨Nat.le_of_ble_eq_true rfl, Nat.le_of_ble_eq_true rfl⟩) (prev_of hK hP hD hS hA hE [0] rfl (by decide) (ci := 1) rfl 0 rfl _) rfl rfl hl.1 rfl (lv_room (Nat.le_of_ble_eq_true rfl)) dX1_greatestSpeed_4 ⟨Nat.le_of_ble_eq_true rfl, Nat.le_of_ble_eq_true rfl⟩) hP hD hS hA rfl rfl (by decide) (by decide) (fun r_1 u_ H locs hw_2 hP hD hS => ?_)
  have hw_2 : F_fitsC gain brake p0 p1 p2 = r_1 ∧ nb r_1 := hw_2
  have hG := hG.trans (cb_e hw_2.1)
  have hP : va_P D vwCl [(h0, .inr (1, [.int wayToOther, .ref h1, .ref h2, .int place, .int speed, .int way, .int topSpeed, .int gain, .int brake, .int darkSpeed, .int rideSpeed, .int kilos, .int mostKilos, .int openContacts, .int fireFloor, .int ride, .int starts, .int distance, .int hardFalls]))] H := hP
  have hD : va_D A [(h0, .inr (1, [.int wayToOther, .ref h1, .ref h2, .int place, .int speed, .int way, .int topSpeed, .int gain, .int brake, .int darkSpeed, .int rideSpeed, .int kilos, .int mostKilos, .int openContacts, .int fireFloor, .int ride, .int starts, .int distance, .int hardFalls]))] := hD
  refine lv_if_eq (tgt := 12) hx hb dX1_greatestSpeed_7 (by decide) (fun c_3 => ?_) (fun c_3 => ?_)
  · have hG := hG.trans (if_pos c_3)
    refine lv_aload_n hx hb dX1_greatestSpeed_12 rfl (lv_at hl 0 rfl) ?_
    refine my_i (wr := []) [0] [] (va_runV (As := []) (rest := []) ⟨hx, hb, hml, hown, hts⟩ (c_leastSpeed l D aI aL aZ _ h0 h1 h2 wayToOther place speed way topSpeed gain brake darkSpeed rideSpeed kilos mostKilos openContacts fireFloor ride starts distance hardFalls) (cwV 0 hts (gV w_569 w_571 w_11 w_44 w_572) rfl rfl rfl (by decide +kernel) ⟨Nat.le_of_ble_eq_true rfl, Nat.le_of_ble_eq_true rfl⟩) (prev_of hK hP hD hS hA hE [0] rfl (by decide) (ci := 1) rfl 0 rfl _) rfl rfl hl.1 rfl (lv_room (Nat.le_of_ble_eq_true rfl)) dX1_greatestSpeed_13 ⟨Nat.le_of_ble_eq_true rfl, Nat.le_of_ble_eq_true rfl⟩) hP hD hS hA rfl rfl (by decide) (by decide) (fun r_4 u_ H locs hw_5 hP hD hS => ?_)
    have hw_5 : F_leastSpeed speed brake = r_4 := hw_5
    have hG := hG.trans (cb_e hw_5)
    have hP : va_P D vwCl [(h0, .inr (1, [.int wayToOther, .ref h1, .ref h2, .int place, .int speed, .int way, .int topSpeed, .int gain, .int brake, .int darkSpeed, .int rideSpeed, .int kilos, .int mostKilos, .int openContacts, .int fireFloor, .int ride, .int starts, .int distance, .int hardFalls]))] H := hP
    have hD : va_D A [(h0, .inr (1, [.int wayToOther, .ref h1, .ref h2, .int place, .int speed, .int way, .int topSpeed, .int gain, .int brake, .int darkSpeed, .int rideSpeed, .int kilos, .int mostKilos, .int openContacts, .int fireFloor, .int ride, .int starts, .int distance, .int hardFalls]))] := hD
    refine lv_istore (lv' := [(4, .int r_4), (0, .ref h0), (1, .int p0), (2, .int p1), (3, .int p2)]) hx hb dX1_greatestSpeed_16 hl (by decide) rfl (fun ls hl => ?_)
    refine lv_aload_n hx hb dX1_greatestSpeed_18 rfl (lv_at hl 1 rfl) ?_
    refine lv_iload hx hb dX1_greatestSpeed_19 (lv_at hl 0 rfl) ?_
    refine lv_iload_n hx hb dX1_greatestSpeed_21 rfl (lv_at hl 3 rfl) ?_
    refine lv_iload_n hx hb dX1_greatestSpeed_22 rfl (lv_at hl 4 rfl) ?_
    refine my_i (wr := []) [0] [] (va_runV (As := [.int r_4, .int p1, .int p2]) (rest := []) ⟨hx, hb, hml, hown, hts⟩ (c_fitsC l D aI aL aZ _ h0 h1 h2 wayToOther place speed way topSpeed gain brake darkSpeed rideSpeed kilos mostKilos openContacts fireFloor ride starts distance hardFalls r_4 p1 p2) (cwV 3 hts (gV w_565 w_567 w_10 w_44 w_568) rfl rfl rfl (by decide +kernel) ⟨Nat.le_of_ble_eq_true rfl, Nat.le_of_ble_eq_true rfl⟩) (prev_of hK hP hD hS hA hE [0] rfl (by decide) (ci := 1) rfl 0 rfl _) rfl rfl hl.1 rfl (lv_room (Nat.le_of_ble_eq_true rfl)) dX1_greatestSpeed_23 ⟨Nat.le_of_ble_eq_true rfl, Nat.le_of_ble_eq_true rfl⟩) hP hD hS hA rfl rfl (by decide) (by decide) (fun r_6 u_ H locs hw_7 hP hD hS => ?_)
    have hw_7 : F_fitsC gain brake r_4 p1 p2 = r_6 ∧ nb r_6 := hw_7
    have hG := hG.trans (cb_e hw_7.1)
    have hP : va_P D vwCl [(h0, .inr (1, [.int wayToOther, .ref h1, .ref h2, .int place, .int speed, .int way, .int topSpeed, .int gain, .int brake, .int darkSpeed, .int rideSpeed, .int kilos, .int mostKilos, .int openContacts, .int fireFloor, .int ride, .int starts, .int distance, .int hardFalls]))] H := hP
    have hD : va_D A [(h0, .inr (1, [.int wayToOther, .ref h1, .ref h2, .int place, .int speed, .int way, .int topSpeed, .int gain, .int brake, .int darkSpeed, .int rideSpeed, .int kilos, .int mostKilos, .int openContacts, .int fireFloor, .int ride, .int starts, .int distance, .int hardFalls]))] := hD
    refine lv_if_ne (tgt := 31) hx hb dX1_greatestSpeed_26 (by decide) (fun c_8 => ?_) (fun c_8 => ?_)
    · have hG := hG.trans (if_neg c_8)
      refine lv_iload_n hx hb dX1_greatestSpeed_31 rfl (lv_at hl 2 rfl) ?_
      refine lv_istore (lv' := [(5, .int p0), (4, .int r_4), (0, .ref h0), (1, .int p0), (2, .int p1), (3, .int p2)]) hx hb dX1_greatestSpeed_32 hl (by decide) rfl (fun ls hl => ?_)
      refine lv_iconst (v := 0) hx hb dX1_greatestSpeed_34 (by decide) ?_
      refine lv_istore (lv' := [(6, .int 0), (5, .int p0), (4, .int r_4), (0, .ref h0), (1, .int p0), (2, .int p1), (3, .int p2)]) hx hb dX1_greatestSpeed_35 hl (by decide) rfl (fun ls hl => ?_)
      have loop37 : ∀ (fu : Nat) (x4 : Int32) (x5 : Int32) (j : Nat), j ≤ 32 → 33 ≤ j + fu → F_greatestSpeed speed gain brake p0 p1 p2 = L_greatestSpeed_37 gain brake p1 p2 fu x4 x5 j → ∀ (H : Heap) (locs : List Loc), va_P D vwCl [(h0, .inr (1, [.int wayToOther, .ref h1, .ref h2, .int place, .int speed, .int way, .int topSpeed, .int gain, .int brake, .int darkSpeed, .int rideSpeed, .int kilos, .int mostKilos, .int openContacts, .int fireFloor, .int ride, .int starts, .int distance, .int hardFalls]))] H → va_D A [(h0, .inr (1, [.int wayToOther, .ref h1, .ref h2, .int place, .int speed, .int way, .int topSpeed, .int gain, .int brake, .int darkSpeed, .int rideSpeed, .int kilos, .int mostKilos, .int openContacts, .int fireFloor, .int ride, .int starts, .int distance, .int hardFalls]))] → va_S A s.heap H locs → ∀ (ls : Array Slot), lv_has ls 8 [(6, .int (nI j)), (5, .int x5), (4, .int x4), (0, .ref h0), (1, .int p0), (2, .int p1), (3, .int p2)] → W p l e ({ frames := 2, cells := 0, slots := 0, locals := 45 }) s m args below meth c H locs 0 0 Q (F0 m 37 ls []) := by
        intro fu
        induction fu with
        | zero => intro x4 x5 j hj hm; exact absurd hm (by omega)
        | succ fu ih =>
          intro x4 x5 j hj hm hG H locs hP hD hS ls hl
          have hG := hG.trans (L_greatestSpeed_37_u gain brake p1 p2 fu x4 x5 j)
          refine lv_iload hx hb dX1_greatestSpeed_37 (lv_at hl 0 rfl) ?_
          refine lv_bipush (v := 32) hx hb dX1_greatestSpeed_39 (by decide) ?_
          refine lv_icmp_ge (tgt := 90) hx hb dX1_greatestSpeed_41 (by decide) (fun c_9 => ?_) (fun c_9 => ?_)
          · have hG := hG.trans (if_pos c_9)
            refine lv_iload hx hb dX1_greatestSpeed_90 (lv_at hl 2 rfl) ?_
            have hP := hP.sub (ws' := [(h0, .inr (1, [.int wayToOther, .ref h1, .ref h2, .int place, .int speed, .int way, .int topSpeed, .int gain, .int brake, .int darkSpeed, .int rideSpeed, .int kilos, .int mostKilos, .int openContacts, .int fireFloor, .int ride, .int starts, .int distance, .int hardFalls]))]) [0] rfl
            have hD := hD.sub (ws' := [(h0, .inr (1, [.int wayToOther, .ref h1, .ref h2, .int place, .int speed, .int way, .int topSpeed, .int gain, .int brake, .int darkSpeed, .int rideSpeed, .int kilos, .int mostKilos, .int openContacts, .int fireFloor, .int ride, .int starts, .int distance, .int hardFalls]))]) [0] (by decide) rfl
            exact rt_i hQ hx hb hr () hG hP hD hS (Nat.le_of_ble_eq_true rfl) (Nat.le_of_ble_eq_true rfl) dX1_greatestSpeed_92 hlk
          · have hG := hG.trans (if_neg c_9)
            refine lv_iload hx hb dX1_greatestSpeed_44 (lv_at hl 1 rfl) ?_
            refine lv_iload hx hb dX1_greatestSpeed_46 (lv_at hl 2 rfl) ?_
            refine lv_isub hx hb dX1_greatestSpeed_48 ?_
            refine lv_iconst (v := 1) hx hb dX1_greatestSpeed_49 (by decide) ?_
            refine lv_icmp_le (tgt := 90) hx hb dX1_greatestSpeed_50 (by decide) (fun c_10 => ?_) (fun c_10 => ?_)
            · have hG := hG.trans (if_pos c_10)
              refine lv_iload hx hb dX1_greatestSpeed_90 (lv_at hl 2 rfl) ?_
              have hP := hP.sub (ws' := [(h0, .inr (1, [.int wayToOther, .ref h1, .ref h2, .int place, .int speed, .int way, .int topSpeed, .int gain, .int brake, .int darkSpeed, .int rideSpeed, .int kilos, .int mostKilos, .int openContacts, .int fireFloor, .int ride, .int starts, .int distance, .int hardFalls]))]) [0] rfl
              have hD := hD.sub (ws' := [(h0, .inr (1, [.int wayToOther, .ref h1, .ref h2, .int place, .int speed, .int way, .int topSpeed, .int gain, .int brake, .int darkSpeed, .int rideSpeed, .int kilos, .int mostKilos, .int openContacts, .int fireFloor, .int ride, .int starts, .int distance, .int hardFalls]))]) [0] (by decide) rfl
              exact rt_i hQ hx hb hr () hG hP hD hS (Nat.le_of_ble_eq_true rfl) (Nat.le_of_ble_eq_true rfl) dX1_greatestSpeed_92 hlk
            · have hG := hG.trans (if_neg c_10)
              refine lv_iload hx hb dX1_greatestSpeed_53 (lv_at hl 2 rfl) ?_
              refine lv_iload hx hb dX1_greatestSpeed_55 (lv_at hl 1 rfl) ?_
              refine lv_iadd hx hb dX1_greatestSpeed_57 ?_
              refine lv_iconst (v := 2) hx hb dX1_greatestSpeed_58 (by decide) ?_
              refine lv_idiv hx hb dX1_greatestSpeed_59 (by decide) ?_
              refine lv_istore (lv' := [(7, .int ((x4 + x5) / 2)), (6, .int (nI j)), (5, .int x5), (4, .int x4), (0, .ref h0), (1, .int p0), (2, .int p1), (3, .int p2)]) hx hb dX1_greatestSpeed_60 hl (by decide) rfl (fun ls hl => ?_)
              refine lv_aload_n hx hb dX1_greatestSpeed_62 rfl (lv_at hl 4 rfl) ?_
              refine lv_iload hx hb dX1_greatestSpeed_63 (lv_at hl 0 rfl) ?_
              refine lv_iload_n hx hb dX1_greatestSpeed_65 rfl (lv_at hl 6 rfl) ?_
              refine lv_iload_n hx hb dX1_greatestSpeed_66 rfl (lv_at hl 7 rfl) ?_
              refine my_i (wr := []) [0] [] (va_runV (As := [.int ((x4 + x5) / 2), .int p1, .int p2]) (rest := []) ⟨hx, hb, hml, hown, hts⟩ (c_fitsC l D aI aL aZ _ h0 h1 h2 wayToOther place speed way topSpeed gain brake darkSpeed rideSpeed kilos mostKilos openContacts fireFloor ride starts distance hardFalls ((x4 + x5) / 2) p1 p2) (cwV 3 hts (gV w_565 w_567 w_10 w_44 w_568) rfl rfl rfl (by decide +kernel) ⟨Nat.le_of_ble_eq_true rfl, Nat.le_of_ble_eq_true rfl⟩) (prev_of hK hP hD hS hA hE [0] rfl (by decide) (ci := 1) rfl 0 rfl _) rfl rfl hl.1 rfl (lv_room (Nat.le_of_ble_eq_true rfl)) dX1_greatestSpeed_67 ⟨Nat.le_of_ble_eq_true rfl, Nat.le_of_ble_eq_true rfl⟩) hP hD hS hA rfl rfl (by decide) (by decide) (fun r_11 u_ H locs hw_12 hP hD hS => ?_)
              have hw_12 : F_fitsC gain brake ((x4 + x5) / 2) p1 p2 = r_11 ∧ nb r_11 := hw_12
              have hG := hG.trans (cb_e hw_12.1)
              have hP : va_P D vwCl [(h0, .inr (1, [.int wayToOther, .ref h1, .ref h2, .int place, .int speed, .int way, .int topSpeed, .int gain, .int brake, .int darkSpeed, .int rideSpeed, .int kilos, .int mostKilos, .int openContacts, .int fireFloor, .int ride, .int starts, .int distance, .int hardFalls]))] H := hP
              have hD : va_D A [(h0, .inr (1, [.int wayToOther, .ref h1, .ref h2, .int place, .int speed, .int way, .int topSpeed, .int gain, .int brake, .int darkSpeed, .int rideSpeed, .int kilos, .int mostKilos, .int openContacts, .int fireFloor, .int ride, .int starts, .int distance, .int hardFalls]))] := hD
              refine lv_if_eq (tgt := 80) hx hb dX1_greatestSpeed_70 (by decide) (fun c_13 => ?_) (fun c_13 => ?_)
              · have hG := hG.trans (if_pos c_13)
                refine lv_iload hx hb dX1_greatestSpeed_80 (lv_at hl 0 rfl) ?_
                refine lv_istore (lv' := [(5, .int ((x4 + x5) / 2)), (7, .int ((x4 + x5) / 2)), (6, .int (nI j)), (4, .int x4), (0, .ref h0), (1, .int p0), (2, .int p1), (3, .int p2)]) hx hb dX1_greatestSpeed_82 hl (by decide) rfl (fun ls hl => ?_)
                refine lv_iinc (v := (nI (j + 1))) (lv' := [(6, .int (nI (j + 1))), (5, .int ((x4 + x5) / 2)), (7, .int ((x4 + x5) / 2)), (4, .int x4), (0, .ref h0), (1, .int p0), (2, .int p1), (3, .int p2)]) hx hb dX1_greatestSpeed_84 hl (k := 2) rfl (nI_1 _) (by decide) rfl (fun ls hl => ?_)
                refine lv_goto (tgt := 37) hx hb dX1_greatestSpeed_87 (by decide) ?_
                exact ih x4 ((x4 + x5) / 2) (j + 1) (ix_lt (n := 32) (by decide) hj c_9) (by omega) hG _ _ (hP.sub [0] rfl) (hD.sub [0] (by decide) rfl) hS ls (lv_sub hl [0, 1, 3, 4, 5, 6, 7] rfl)
              · have hG := hG.trans (if_neg c_13)
                refine lv_iload hx hb dX1_greatestSpeed_73 (lv_at hl 0 rfl) ?_
                refine lv_istore (lv' := [(4, .int ((x4 + x5) / 2)), (7, .int ((x4 + x5) / 2)), (6, .int (nI j)), (5, .int x5), (0, .ref h0), (1, .int p0), (2, .int p1), (3, .int p2)]) hx hb dX1_greatestSpeed_75 hl (by decide) rfl (fun ls hl => ?_)
                refine lv_goto (tgt := 84) hx hb dX1_greatestSpeed_77 (by decide) ?_
                refine lv_iinc (v := (nI (j + 1))) (lv' := [(6, .int (nI (j + 1))), (4, .int ((x4 + x5) / 2)), (7, .int ((x4 + x5) / 2)), (5, .int x5), (0, .ref h0), (1, .int p0), (2, .int p1), (3, .int p2)]) hx hb dX1_greatestSpeed_84 hl (k := 2) rfl (nI_1 _) (by decide) rfl (fun ls hl => ?_)
                refine lv_goto (tgt := 37) hx hb dX1_greatestSpeed_87 (by decide) ?_
                exact ih ((x4 + x5) / 2) x5 (j + 1) (ix_lt (n := 32) (by decide) hj c_9) (by omega) hG _ _ (hP.sub [0] rfl) (hD.sub [0] (by decide) rfl) hS ls (lv_sub hl [0, 3, 1, 4, 5, 6, 7] rfl)
      exact loop37 33 r_4 p0 0 (by decide) (by decide) hG _ _ hP hD hS ls (lv_sub hl [0, 1, 2, 3, 4, 5, 6] rfl)
    · have hG := hG.trans (if_pos c_8)
      refine lv_iconst (v := (-1)) hx hb dX1_greatestSpeed_29 (by decide) ?_
      have hP := hP.sub (ws' := [(h0, .inr (1, [.int wayToOther, .ref h1, .ref h2, .int place, .int speed, .int way, .int topSpeed, .int gain, .int brake, .int darkSpeed, .int rideSpeed, .int kilos, .int mostKilos, .int openContacts, .int fireFloor, .int ride, .int starts, .int distance, .int hardFalls]))]) [0] rfl
      have hD := hD.sub (ws' := [(h0, .inr (1, [.int wayToOther, .ref h1, .ref h2, .int place, .int speed, .int way, .int topSpeed, .int gain, .int brake, .int darkSpeed, .int rideSpeed, .int kilos, .int mostKilos, .int openContacts, .int fireFloor, .int ride, .int starts, .int distance, .int hardFalls]))]) [0] (by decide) rfl
      exact rt_i hQ hx hb hr () hG hP hD hS (Nat.le_of_ble_eq_true rfl) (Nat.le_of_ble_eq_true rfl) dX1_greatestSpeed_30 hlk
  · have hG := hG.trans (if_neg c_3)
    refine lv_iload_n hx hb dX1_greatestSpeed_10 rfl (lv_at hl 1 rfl) ?_
    have hP := hP.sub (ws' := [(h0, .inr (1, [.int wayToOther, .ref h1, .ref h2, .int place, .int speed, .int way, .int topSpeed, .int gain, .int brake, .int darkSpeed, .int rideSpeed, .int kilos, .int mostKilos, .int openContacts, .int fireFloor, .int ride, .int starts, .int distance, .int hardFalls]))]) [0] rfl
    have hD := hD.sub (ws' := [(h0, .inr (1, [.int wayToOther, .ref h1, .ref h2, .int place, .int speed, .int way, .int topSpeed, .int gain, .int brake, .int darkSpeed, .int rideSpeed, .int kilos, .int mostKilos, .int openContacts, .int fireFloor, .int ride, .int starts, .int distance, .int hardFalls]))]) [0] (by decide) rfl
    exact rt_i hQ hx hb hr () hG hP hD hS (Nat.le_of_ble_eq_true rfl) (Nat.le_of_ble_eq_true rfl) dX1_greatestSpeed_11 hlk
theorem dX1_brakingSpeed_0 : decode cX1_brakingSpeed 0 = .ok (.iload_n 1, 1) := by decide +kernel
theorem dX1_brakingSpeed_1 : decode cX1_brakingSpeed 1 = .ok (.iconst 1, 1) := by decide +kernel
theorem dX1_brakingSpeed_2 : decode cX1_brakingSpeed 2 = .ok (.if_icmp .ne 10, 3) := by decide +kernel
theorem dX1_brakingSpeed_5 : decode cX1_brakingSpeed 5 = .ok (.aload_n 0, 1) := by decide +kernel
theorem dX1_brakingSpeed_6 : decode cX1_brakingSpeed 6 = .ok (.getfield 32, 3) := by decide +kernel
theorem dX1_brakingSpeed_9 : decode cX1_brakingSpeed 9 = .ok (.goto 7, 3) := by decide +kernel
theorem dX1_brakingSpeed_12 : decode cX1_brakingSpeed 12 = .ok (.aload_n 0, 1) := by decide +kernel
theorem dX1_brakingSpeed_13 : decode cX1_brakingSpeed 13 = .ok (.getfield 29, 3) := by decide +kernel
theorem dX1_brakingSpeed_16 : decode cX1_brakingSpeed 16 = .ok (.istore_n 3, 1) := by decide +kernel
theorem dX1_brakingSpeed_17 : decode cX1_brakingSpeed 17 = .ok (.aload_n 0, 1) := by decide +kernel
theorem dX1_brakingSpeed_18 : decode cX1_brakingSpeed 18 = .ok (.aload_n 0, 1) := by decide +kernel
theorem dX1_brakingSpeed_19 : decode cX1_brakingSpeed 19 = .ok (.getfield 81, 3) := by decide +kernel
theorem dX1_brakingSpeed_22 : decode cX1_brakingSpeed 22 = .ok (.iload_n 3, 1) := by decide +kernel
theorem dX1_brakingSpeed_23 : decode cX1_brakingSpeed 23 = .ok (.isub, 1) := by decide +kernel
theorem dX1_brakingSpeed_24 : decode cX1_brakingSpeed 24 = .ok (.iconst 0, 1) := by decide +kernel
theorem dX1_brakingSpeed_25 : decode cX1_brakingSpeed 25 = .ok (.invokestatic 159, 3) := by decide +kernel
theorem dX1_brakingSpeed_28 : decode cX1_brakingSpeed 28 = .ok (.ldc 131, 2) := by decide +kernel
theorem dX1_brakingSpeed_30 : decode cX1_brakingSpeed 30 = .ok (.iload_n 2, 1) := by decide +kernel
theorem dX1_brakingSpeed_31 : decode cX1_brakingSpeed 31 = .ok (.invokevirtual 150, 3) := by decide +kernel
theorem dX1_brakingSpeed_34 : decode cX1_brakingSpeed 34 = .ok (.istore 4, 2) := by decide +kernel
theorem dX1_brakingSpeed_36 : decode cX1_brakingSpeed 36 = .ok (.iload 4, 2) := by decide +kernel
theorem dX1_brakingSpeed_38 : decode cX1_brakingSpeed 38 = .ok (.iconst (-1), 1) := by decide +kernel
theorem dX1_brakingSpeed_39 : decode cX1_brakingSpeed 39 = .ok (.if_icmp .ne 10, 3) := by decide +kernel
theorem dX1_brakingSpeed_42 : decode cX1_brakingSpeed 42 = .ok (.aload_n 0, 1) := by decide +kernel
theorem dX1_brakingSpeed_43 : decode cX1_brakingSpeed 43 = .ok (.invokevirtual 165, 3) := by decide +kernel
theorem dX1_brakingSpeed_46 : decode cX1_brakingSpeed 46 = .ok (.goto 5, 3) := by decide +kernel
theorem dX1_brakingSpeed_49 : decode cX1_brakingSpeed 49 = .ok (.iload 4, 2) := by decide +kernel
theorem dX1_brakingSpeed_51 : decode cX1_brakingSpeed 51 = .ok (.ireturn, 1) := by decide +kernel
def F_brakingSpeed (speed : Int32) (gain : Int32) (brake : Int32) (p0 : Int32) (p1 : Int32) : Int32 :=
  if p0 = 1 then
    cb (F_greatestSpeed speed gain brake (if (speed - brake) < 0 then 0 else (speed - brake)) 1000000000 p1) fun r_7 =>
      if r_7 = (-1) then
        cb (F_leastSpeed speed brake) fun r_10 =>
          r_10
      else
        r_7
  else
    cb (F_greatestSpeed speed gain brake (if (speed - gain) < 0 then 0 else (speed - gain)) 1000000000 p1) fun r_2 =>
      if r_2 = (-1) then
        cb (F_leastSpeed speed brake) fun r_5 =>
          r_5
      else
        r_2
theorem F_brakingSpeed_u (speed : Int32) (gain : Int32) (brake : Int32) (p0 : Int32) (p1 : Int32) : F_brakingSpeed speed gain brake p0 p1 =
  (if p0 = 1 then
    cb (F_greatestSpeed speed gain brake (if (speed - brake) < 0 then 0 else (speed - brake)) 1000000000 p1) fun r_7 =>
      if r_7 = (-1) then
        cb (F_leastSpeed speed brake) fun r_10 =>
          r_10
      else
        r_7
  else
    cb (F_greatestSpeed speed gain brake (if (speed - gain) < 0 then 0 else (speed - gain)) 1000000000 p1) fun r_2 =>
      if r_2 = (-1) then
        cb (F_leastSpeed speed brake) fun r_5 =>
          r_5
      else
        r_2) := rfl
set_option maxHeartbeats 4000000 in
set_option maxRecDepth 100000 in
theorem c_brakingSpeed (l : Launch) (D : va_G) (aI aL aZ : ClassId) (sz : Nat) (h0 : Nat) (h1 : Nat) (h2 : Nat) (wayToOther : Int32) (place : Int32) (speed : Int32) (way : Int32) (topSpeed : Int32) (gain : Int32) (brake : Int32) (darkSpeed : Int32) (rideSpeed : Int32) (kilos : Int32) (mostKilos : Int32) (openContacts : Int32) (fireFloor : Int32) (ride : Int32) (starts : Int32) (distance : Int32) (hardFalls : Int32) (p0 : Int32) (p1 : Int32) : Met l yX1_brakingSpeed (.code yX1_brakingSpeed cX1_brakingSpeed 5 (some .int) :: Gw) ({ frames := 3, cells := 0, slots := 0, locals := 72 }) (va_Pc [.ref h0, .int p0, .int p1] (mpre D [(aI, .int), (aL, .long), (aZ, .boolean)] [(h0, .inr (1, [.int wayToOther, .ref h1, .ref h2, .int place, .int speed, .int way, .int topSpeed, .int gain, .int brake, .int darkSpeed, .int rideSpeed, .int kilos, .int mostKilos, .int openContacts, .int fireFloor, .int ride, .int starts, .int distance, .int hardFalls]))] sz)) ((fun A : Nat → Prop => va_Qi (fun (r : Int32) (u : Unit) => F_brakingSpeed speed gain brake p0 p1 = r) (mpst D A (fun (u : Unit) => [(h0, .inr (1, [.int wayToOther, .ref h1, .ref h2, .int place, .int speed, .int way, .int topSpeed, .int gain, .int brake, .int darkSpeed, .int rideSpeed, .int kilos, .int mostKilos, .int openContacts, .int fireFloor, .int ride, .int starts, .int distance, .int hardFalls]))])) A) (va_A ([(h0, .inr (1, [.int wayToOther, .ref h1, .ref h2, .int place, .int speed, .int way, .int topSpeed, .int gain, .int brake, .int darkSpeed, .int rideSpeed, .int kilos, .int mostKilos, .int openContacts, .int fireFloor, .int ride, .int starts, .int distance, .int hardFalls]))]) sz)) 0 0 (va_A ([(h0, .inr (1, [.int wayToOther, .ref h1, .ref h2, .int place, .int speed, .int way, .int topSpeed, .int gain, .int brake, .int darkSpeed, .int rideSpeed, .int kilos, .int mostKilos, .int openContacts, .int fireFloor, .int ride, .int starts, .int distance, .int hardFalls]))]) sz) := by
  refine en (cc := cX1_brakingSpeed) (maxL := 5) (ret := (some .int)) (Qc := (fun A : Nat → Prop => va_Qi (fun (r : Int32) (u : Unit) => F_brakingSpeed speed gain brake p0 p1 = r) (mpst D A (fun (u : Unit) => [(h0, .inr (1, [.int wayToOther, .ref h1, .ref h2, .int place, .int speed, .int way, .int topSpeed, .int gain, .int brake, .int darkSpeed, .int rideSpeed, .int kilos, .int mostKilos, .int openContacts, .int fireFloor, .int ride, .int starts, .int distance, .int hardFalls]))])) A)) (by decide) rfl (Nat.le_of_ble_eq_true rfl) ?_
  intro p e s m args below meth c A ls Q hQ hx hb hr hts hown hlk hnm hml hA hS hP hK hD hE hl
  have hown : s.vm.findClass RX1 = some m.cls := hown
  have hl : lv_has ls 5 [(0, .ref h0), (1, .int p0), (2, .int p1)] := hl
  have hG := F_brakingSpeed_u speed gain brake p0 p1
  refine lv_iload_n hx hb dX1_brakingSpeed_0 rfl (lv_at hl 1 rfl) ?_
  refine lv_iconst (v := 1) hx hb dX1_brakingSpeed_1 (by decide) ?_
  refine lv_icmp_ne (tgt := 12) hx hb dX1_brakingSpeed_2 (by decide) (fun c_1 => ?_) (fun c_1 => ?_)
  · have hG := hG.trans (if_neg c_1)
    refine lv_aload_n hx hb dX1_brakingSpeed_12 rfl (lv_at hl 0 rfl) ?_
    refine va_get (D := D) (ci := 1) (v := .int gain) (C := RX1) (T := TX1) (N := 19) hx hb hts inX1 hown hK hP 0 rfl rfl 7 (by decide) (hts _ (mG w_314)) (fun _ h9 => h9) rfl dX1_brakingSpeed_13 ?_
    refine lv_istore_n (lv' := [(3, .int gain), (0, .ref h0), (1, .int p0), (2, .int p1)]) hx hb dX1_brakingSpeed_16 rfl hl (by decide) rfl (fun ls hl => ?_)
    refine lv_aload_n hx hb dX1_brakingSpeed_17 rfl (lv_at hl 1 rfl) ?_
    refine lv_aload_n hx hb dX1_brakingSpeed_18 rfl (lv_at hl 1 rfl) ?_
    refine va_get (D := D) (ci := 1) (v := .int speed) (C := RX1) (T := TX1) (N := 19) hx hb hts inX1 hown hK hP 0 rfl rfl 4 (by decide) (hts _ (mG w_308)) (fun _ h9 => h9) rfl dX1_brakingSpeed_19 ?_
    refine lv_iload_n hx hb dX1_brakingSpeed_22 rfl (lv_at hl 0 rfl) ?_
    refine lv_isub hx hb dX1_brakingSpeed_23 ?_
    refine lv_iconst (v := 0) hx hb dX1_brakingSpeed_24 (by decide) ?_
    refine va_mmax hx hb (by rw [hml]; exact hl.1.symm) hown (hts _ (mG w_558)) (hts _ (mG w_59)) (hts _ (mG w_37)) (hts _ (mG w_60)) (Nat.le_of_ble_eq_true rfl) (Nat.le_of_ble_eq_true rfl) (Nat.le_of_ble_eq_true rfl) (Nat.le_of_ble_eq_true rfl) dX1_brakingSpeed_25 ?_
    refine lv_ldc (v := 1000000000) hx hb hown (hts _ (mG w_539)) dX1_brakingSpeed_28 ?_
    refine lv_iload_n hx hb dX1_brakingSpeed_30 rfl (lv_at hl 3 rfl) ?_
    refine my_i (wr := []) [0] [] (va_runV (As := [.int (if (speed - gain) < 0 then 0 else (speed - gain)), .int 1000000000, .int p1]) (rest := []) ⟨hx, hb, hml, hown, hts⟩ (c_greatestSpeed l D aI aL aZ _ h0 h1 h2 wayToOther place speed way topSpeed gain brake darkSpeed rideSpeed kilos mostKilos openContacts fireFloor ride starts distance hardFalls (if (speed - gain) < 0 then 0 else (speed - gain)) 1000000000 p1) (cwV 3 hts (gV w_561 w_563 w_9 w_44 w_564) rfl rfl rfl (by decide +kernel) ⟨Nat.le_of_ble_eq_true rfl, Nat.le_of_ble_eq_true rfl⟩) (prev_of hK hP hD hS hA hE [0] rfl (by decide) (ci := 1) rfl 0 rfl _) rfl rfl hl.1 rfl (lv_room (Nat.le_of_ble_eq_true rfl)) dX1_brakingSpeed_31 ⟨Nat.le_of_ble_eq_true rfl, Nat.le_of_ble_eq_true rfl⟩) hP hD hS hA rfl rfl (by decide) (by decide) (fun r_2 u_ H locs hw_3 hP hD hS => ?_)
    have hw_3 : F_greatestSpeed speed gain brake (if (speed - gain) < 0 then 0 else (speed - gain)) 1000000000 p1 = r_2 := hw_3
    have hG := hG.trans (cb_e hw_3)
    have hP : va_P D vwCl [(h0, .inr (1, [.int wayToOther, .ref h1, .ref h2, .int place, .int speed, .int way, .int topSpeed, .int gain, .int brake, .int darkSpeed, .int rideSpeed, .int kilos, .int mostKilos, .int openContacts, .int fireFloor, .int ride, .int starts, .int distance, .int hardFalls]))] H := hP
    have hD : va_D A [(h0, .inr (1, [.int wayToOther, .ref h1, .ref h2, .int place, .int speed, .int way, .int topSpeed, .int gain, .int brake, .int darkSpeed, .int rideSpeed, .int kilos, .int mostKilos, .int openContacts, .int fireFloor, .int ride, .int starts, .int distance, .int hardFalls]))] := hD
    refine lv_istore (lv' := [(4, .int r_2), (3, .int gain), (0, .ref h0), (1, .int p0), (2, .int p1)]) hx hb dX1_brakingSpeed_34 hl (by decide) rfl (fun ls hl => ?_)
    refine lv_iload hx hb dX1_brakingSpeed_36 (lv_at hl 0 rfl) ?_
    refine lv_iconst (v := (-1)) hx hb dX1_brakingSpeed_38 (by decide) ?_
    refine lv_icmp_ne (tgt := 49) hx hb dX1_brakingSpeed_39 (by decide) (fun c_4 => ?_) (fun c_4 => ?_)
    · have hG := hG.trans (if_neg c_4)
      refine lv_iload hx hb dX1_brakingSpeed_49 (lv_at hl 0 rfl) ?_
      have hP := hP.sub (ws' := [(h0, .inr (1, [.int wayToOther, .ref h1, .ref h2, .int place, .int speed, .int way, .int topSpeed, .int gain, .int brake, .int darkSpeed, .int rideSpeed, .int kilos, .int mostKilos, .int openContacts, .int fireFloor, .int ride, .int starts, .int distance, .int hardFalls]))]) [0] rfl
      have hD := hD.sub (ws' := [(h0, .inr (1, [.int wayToOther, .ref h1, .ref h2, .int place, .int speed, .int way, .int topSpeed, .int gain, .int brake, .int darkSpeed, .int rideSpeed, .int kilos, .int mostKilos, .int openContacts, .int fireFloor, .int ride, .int starts, .int distance, .int hardFalls]))]) [0] (by decide) rfl
      exact rt_i hQ hx hb hr () hG hP hD hS (Nat.le_of_ble_eq_true rfl) (Nat.le_of_ble_eq_true rfl) dX1_brakingSpeed_51 hlk
    · have hG := hG.trans (if_pos c_4)
      refine lv_aload_n hx hb dX1_brakingSpeed_42 rfl (lv_at hl 2 rfl) ?_
      refine my_i (wr := []) [0] [] (va_runV (As := []) (rest := []) ⟨hx, hb, hml, hown, hts⟩ (c_leastSpeed l D aI aL aZ _ h0 h1 h2 wayToOther place speed way topSpeed gain brake darkSpeed rideSpeed kilos mostKilos openContacts fireFloor ride starts distance hardFalls) (cwV 0 hts (gV w_569 w_571 w_11 w_44 w_572) rfl rfl rfl (by decide +kernel) ⟨Nat.le_of_ble_eq_true rfl, Nat.le_of_ble_eq_true rfl⟩) (prev_of hK hP hD hS hA hE [0] rfl (by decide) (ci := 1) rfl 0 rfl _) rfl rfl hl.1 rfl (lv_room (Nat.le_of_ble_eq_true rfl)) dX1_brakingSpeed_43 ⟨Nat.le_of_ble_eq_true rfl, Nat.le_of_ble_eq_true rfl⟩) hP hD hS hA rfl rfl (by decide) (by decide) (fun r_5 u_ H locs hw_6 hP hD hS => ?_)
      have hw_6 : F_leastSpeed speed brake = r_5 := hw_6
      have hG := hG.trans (cb_e hw_6)
      have hP : va_P D vwCl [(h0, .inr (1, [.int wayToOther, .ref h1, .ref h2, .int place, .int speed, .int way, .int topSpeed, .int gain, .int brake, .int darkSpeed, .int rideSpeed, .int kilos, .int mostKilos, .int openContacts, .int fireFloor, .int ride, .int starts, .int distance, .int hardFalls]))] H := hP
      have hD : va_D A [(h0, .inr (1, [.int wayToOther, .ref h1, .ref h2, .int place, .int speed, .int way, .int topSpeed, .int gain, .int brake, .int darkSpeed, .int rideSpeed, .int kilos, .int mostKilos, .int openContacts, .int fireFloor, .int ride, .int starts, .int distance, .int hardFalls]))] := hD
      refine lv_goto (tgt := 51) hx hb dX1_brakingSpeed_46 (by decide) ?_
      have hP := hP.sub (ws' := [(h0, .inr (1, [.int wayToOther, .ref h1, .ref h2, .int place, .int speed, .int way, .int topSpeed, .int gain, .int brake, .int darkSpeed, .int rideSpeed, .int kilos, .int mostKilos, .int openContacts, .int fireFloor, .int ride, .int starts, .int distance, .int hardFalls]))]) [0] rfl
      have hD := hD.sub (ws' := [(h0, .inr (1, [.int wayToOther, .ref h1, .ref h2, .int place, .int speed, .int way, .int topSpeed, .int gain, .int brake, .int darkSpeed, .int rideSpeed, .int kilos, .int mostKilos, .int openContacts, .int fireFloor, .int ride, .int starts, .int distance, .int hardFalls]))]) [0] (by decide) rfl
      exact rt_i hQ hx hb hr () hG hP hD hS (Nat.le_of_ble_eq_true rfl) (Nat.le_of_ble_eq_true rfl) dX1_brakingSpeed_51 hlk
  · have hG := hG.trans (if_pos c_1)
    refine lv_aload_n hx hb dX1_brakingSpeed_5 rfl (lv_at hl 0 rfl) ?_
    refine va_get (D := D) (ci := 1) (v := .int brake) (C := RX1) (T := TX1) (N := 19) hx hb hts inX1 hown hK hP 0 rfl rfl 8 (by decide) (hts _ (mG w_316)) (fun _ h9 => h9) rfl dX1_brakingSpeed_6 ?_
    refine lv_goto (tgt := 16) hx hb dX1_brakingSpeed_9 (by decide) ?_
    refine lv_istore_n (lv' := [(3, .int brake), (0, .ref h0), (1, .int p0), (2, .int p1)]) hx hb dX1_brakingSpeed_16 rfl hl (by decide) rfl (fun ls hl => ?_)
    refine lv_aload_n hx hb dX1_brakingSpeed_17 rfl (lv_at hl 1 rfl) ?_
    refine lv_aload_n hx hb dX1_brakingSpeed_18 rfl (lv_at hl 1 rfl) ?_
    refine va_get (D := D) (ci := 1) (v := .int speed) (C := RX1) (T := TX1) (N := 19) hx hb hts inX1 hown hK hP 0 rfl rfl 4 (by decide) (hts _ (mG w_308)) (fun _ h9 => h9) rfl dX1_brakingSpeed_19 ?_
    refine lv_iload_n hx hb dX1_brakingSpeed_22 rfl (lv_at hl 0 rfl) ?_
    refine lv_isub hx hb dX1_brakingSpeed_23 ?_
    refine lv_iconst (v := 0) hx hb dX1_brakingSpeed_24 (by decide) ?_
    refine va_mmax hx hb (by rw [hml]; exact hl.1.symm) hown (hts _ (mG w_558)) (hts _ (mG w_59)) (hts _ (mG w_37)) (hts _ (mG w_60)) (Nat.le_of_ble_eq_true rfl) (Nat.le_of_ble_eq_true rfl) (Nat.le_of_ble_eq_true rfl) (Nat.le_of_ble_eq_true rfl) dX1_brakingSpeed_25 ?_
    refine lv_ldc (v := 1000000000) hx hb hown (hts _ (mG w_539)) dX1_brakingSpeed_28 ?_
    refine lv_iload_n hx hb dX1_brakingSpeed_30 rfl (lv_at hl 3 rfl) ?_
    refine my_i (wr := []) [0] [] (va_runV (As := [.int (if (speed - brake) < 0 then 0 else (speed - brake)), .int 1000000000, .int p1]) (rest := []) ⟨hx, hb, hml, hown, hts⟩ (c_greatestSpeed l D aI aL aZ _ h0 h1 h2 wayToOther place speed way topSpeed gain brake darkSpeed rideSpeed kilos mostKilos openContacts fireFloor ride starts distance hardFalls (if (speed - brake) < 0 then 0 else (speed - brake)) 1000000000 p1) (cwV 3 hts (gV w_561 w_563 w_9 w_44 w_564) rfl rfl rfl (by decide +kernel) ⟨Nat.le_of_ble_eq_true rfl, Nat.le_of_ble_eq_true rfl⟩) (prev_of hK hP hD hS hA hE [0] rfl (by decide) (ci := 1) rfl 0 rfl _) rfl rfl hl.1 rfl (lv_room (Nat.le_of_ble_eq_true rfl)) dX1_brakingSpeed_31 ⟨Nat.le_of_ble_eq_true rfl, Nat.le_of_ble_eq_true rfl⟩) hP hD hS hA rfl rfl (by decide) (by decide) (fun r_7 u_ H locs hw_8 hP hD hS => ?_)
    have hw_8 : F_greatestSpeed speed gain brake (if (speed - brake) < 0 then 0 else (speed - brake)) 1000000000 p1 = r_7 := hw_8
    have hG := hG.trans (cb_e hw_8)
    have hP : va_P D vwCl [(h0, .inr (1, [.int wayToOther, .ref h1, .ref h2, .int place, .int speed, .int way, .int topSpeed, .int gain, .int brake, .int darkSpeed, .int rideSpeed, .int kilos, .int mostKilos, .int openContacts, .int fireFloor, .int ride, .int starts, .int distance, .int hardFalls]))] H := hP
    have hD : va_D A [(h0, .inr (1, [.int wayToOther, .ref h1, .ref h2, .int place, .int speed, .int way, .int topSpeed, .int gain, .int brake, .int darkSpeed, .int rideSpeed, .int kilos, .int mostKilos, .int openContacts, .int fireFloor, .int ride, .int starts, .int distance, .int hardFalls]))] := hD
    refine lv_istore (lv' := [(4, .int r_7), (3, .int brake), (0, .ref h0), (1, .int p0), (2, .int p1)]) hx hb dX1_brakingSpeed_34 hl (by decide) rfl (fun ls hl => ?_)
    refine lv_iload hx hb dX1_brakingSpeed_36 (lv_at hl 0 rfl) ?_
    refine lv_iconst (v := (-1)) hx hb dX1_brakingSpeed_38 (by decide) ?_
    refine lv_icmp_ne (tgt := 49) hx hb dX1_brakingSpeed_39 (by decide) (fun c_9 => ?_) (fun c_9 => ?_)
    · have hG := hG.trans (if_neg c_9)
      refine lv_iload hx hb dX1_brakingSpeed_49 (lv_at hl 0 rfl) ?_
      have hP := hP.sub (ws' := [(h0, .inr (1, [.int wayToOther, .ref h1, .ref h2, .int place, .int speed, .int way, .int topSpeed, .int gain, .int brake, .int darkSpeed, .int rideSpeed, .int kilos, .int mostKilos, .int openContacts, .int fireFloor, .int ride, .int starts, .int distance, .int hardFalls]))]) [0] rfl
      have hD := hD.sub (ws' := [(h0, .inr (1, [.int wayToOther, .ref h1, .ref h2, .int place, .int speed, .int way, .int topSpeed, .int gain, .int brake, .int darkSpeed, .int rideSpeed, .int kilos, .int mostKilos, .int openContacts, .int fireFloor, .int ride, .int starts, .int distance, .int hardFalls]))]) [0] (by decide) rfl
      exact rt_i hQ hx hb hr () hG hP hD hS (Nat.le_of_ble_eq_true rfl) (Nat.le_of_ble_eq_true rfl) dX1_brakingSpeed_51 hlk
    · have hG := hG.trans (if_pos c_9)
      refine lv_aload_n hx hb dX1_brakingSpeed_42 rfl (lv_at hl 2 rfl) ?_
      refine my_i (wr := []) [0] [] (va_runV (As := []) (rest := []) ⟨hx, hb, hml, hown, hts⟩ (c_leastSpeed l D aI aL aZ _ h0 h1 h2 wayToOther place speed way topSpeed gain brake darkSpeed rideSpeed kilos mostKilos openContacts fireFloor ride starts distance hardFalls) (cwV 0 hts (gV w_569 w_571 w_11 w_44 w_572) rfl rfl rfl (by decide +kernel) ⟨Nat.le_of_ble_eq_true rfl, Nat.le_of_ble_eq_true rfl⟩) (prev_of hK hP hD hS hA hE [0] rfl (by decide) (ci := 1) rfl 0 rfl _) rfl rfl hl.1 rfl (lv_room (Nat.le_of_ble_eq_true rfl)) dX1_brakingSpeed_43 ⟨Nat.le_of_ble_eq_true rfl, Nat.le_of_ble_eq_true rfl⟩) hP hD hS hA rfl rfl (by decide) (by decide) (fun r_10 u_ H locs hw_11 hP hD hS => ?_)
      have hw_11 : F_leastSpeed speed brake = r_10 := hw_11
      have hG := hG.trans (cb_e hw_11)
      have hP : va_P D vwCl [(h0, .inr (1, [.int wayToOther, .ref h1, .ref h2, .int place, .int speed, .int way, .int topSpeed, .int gain, .int brake, .int darkSpeed, .int rideSpeed, .int kilos, .int mostKilos, .int openContacts, .int fireFloor, .int ride, .int starts, .int distance, .int hardFalls]))] H := hP
      have hD : va_D A [(h0, .inr (1, [.int wayToOther, .ref h1, .ref h2, .int place, .int speed, .int way, .int topSpeed, .int gain, .int brake, .int darkSpeed, .int rideSpeed, .int kilos, .int mostKilos, .int openContacts, .int fireFloor, .int ride, .int starts, .int distance, .int hardFalls]))] := hD
      refine lv_goto (tgt := 51) hx hb dX1_brakingSpeed_46 (by decide) ?_
      have hP := hP.sub (ws' := [(h0, .inr (1, [.int wayToOther, .ref h1, .ref h2, .int place, .int speed, .int way, .int topSpeed, .int gain, .int brake, .int darkSpeed, .int rideSpeed, .int kilos, .int mostKilos, .int openContacts, .int fireFloor, .int ride, .int starts, .int distance, .int hardFalls]))]) [0] rfl
      have hD := hD.sub (ws' := [(h0, .inr (1, [.int wayToOther, .ref h1, .ref h2, .int place, .int speed, .int way, .int topSpeed, .int gain, .int brake, .int darkSpeed, .int rideSpeed, .int kilos, .int mostKilos, .int openContacts, .int fireFloor, .int ride, .int starts, .int distance, .int hardFalls]))]) [0] (by decide) rfl
      exact rt_i hQ hx hb hr () hG hP hD hS (Nat.le_of_ble_eq_true rfl) (Nat.le_of_ble_eq_true rfl) dX1_brakingSpeed_51 hlk
theorem dX1_mayStart_0 : decode cX1_mayStart 0 = .ok (.iload_n 1, 1) := by decide +kernel
theorem dX1_mayStart_1 : decode cX1_mayStart 1 = .ok (.ifCond .eq 24, 3) := by decide +kernel
theorem dX1_mayStart_4 : decode cX1_mayStart 4 = .ok (.aload_n 0, 1) := by decide +kernel
theorem dX1_mayStart_5 : decode cX1_mayStart 5 = .ok (.getfield 12, 3) := by decide +kernel
theorem dX1_mayStart_8 : decode cX1_mayStart 8 = .ok (.getfield 156, 3) := by decide +kernel
theorem dX1_mayStart_11 : decode cX1_mayStart 11 = .ok (.ifCond .ne 14, 3) := by decide +kernel
theorem dX1_mayStart_14 : decode cX1_mayStart 14 = .ok (.aload_n 0, 1) := by decide +kernel
theorem dX1_mayStart_15 : decode cX1_mayStart 15 = .ok (.invokevirtual 118, 3) := by decide +kernel
theorem dX1_mayStart_18 : decode cX1_mayStart 18 = .ok (.ifCond .ne 7, 3) := by decide +kernel
theorem dX1_mayStart_21 : decode cX1_mayStart 21 = .ok (.iconst 1, 1) := by decide +kernel
theorem dX1_mayStart_22 : decode cX1_mayStart 22 = .ok (.goto 4, 3) := by decide +kernel
theorem dX1_mayStart_25 : decode cX1_mayStart 25 = .ok (.iconst 0, 1) := by decide +kernel
theorem dX1_mayStart_26 : decode cX1_mayStart 26 = .ok (.ireturn, 1) := by decide +kernel
def F_mayStart (kilos : Int32) (mostKilos : Int32) (dstate : Int32) (p0 : Int32) : Int32 :=
  if p0 = 0 then
    0
  else
    if dstate = 0 then
      cb (F_isOverloaded kilos mostKilos) fun r_3 =>
        if r_3 = 0 then
          1
        else
          0
    else
      0
theorem F_mayStart_u (kilos : Int32) (mostKilos : Int32) (dstate : Int32) (p0 : Int32) : F_mayStart kilos mostKilos dstate p0 =
  (if p0 = 0 then
    0
  else
    if dstate = 0 then
      cb (F_isOverloaded kilos mostKilos) fun r_3 =>
        if r_3 = 0 then
          1
        else
          0
    else
      0) := rfl
set_option maxHeartbeats 4000000 in
set_option maxRecDepth 100000 in
theorem c_mayStart (l : Launch) (D : va_G) (aI aL aZ : ClassId) (sz : Nat) (h0 : Nat) (h1 : Nat) (h2 : Nat) (wayToOther : Int32) (place : Int32) (speed : Int32) (way : Int32) (topSpeed : Int32) (gain : Int32) (brake : Int32) (darkSpeed : Int32) (rideSpeed : Int32) (kilos : Int32) (mostKilos : Int32) (openContacts : Int32) (fireFloor : Int32) (ride : Int32) (starts : Int32) (distance : Int32) (hardFalls : Int32) (dstate : Int32) (dplace : Int32) (dplaces : Int32) (dhold : Int32) (dsteps : Int32) (dbeam : Int32) (dob : Int32) (doc : Int32) (p0 : Int32) : Met l yX1_mayStart (.code yX1_mayStart cX1_mayStart 2 (some .boolean) :: Gw) ({ frames := 1, cells := 0, slots := 0, locals := 20 }) (va_Pc [.ref h0, .int p0] (mpre D [(aI, .int), (aL, .long), (aZ, .boolean)] [(h0, .inr (1, [.int wayToOther, .ref h1, .ref h2, .int place, .int speed, .int way, .int topSpeed, .int gain, .int brake, .int darkSpeed, .int rideSpeed, .int kilos, .int mostKilos, .int openContacts, .int fireFloor, .int ride, .int starts, .int distance, .int hardFalls])), (h1, .inr (2, [.int dstate, .int dplace, .int dplaces, .int dhold, .int dsteps, .int dbeam, .int dob, .int doc]))] sz)) ((fun A : Nat → Prop => va_Qi (fun (r : Int32) (u : Unit) => F_mayStart kilos mostKilos dstate p0 = r ∧ nb r) (mpst D A (fun (u : Unit) => [(h0, .inr (1, [.int wayToOther, .ref h1, .ref h2, .int place, .int speed, .int way, .int topSpeed, .int gain, .int brake, .int darkSpeed, .int rideSpeed, .int kilos, .int mostKilos, .int openContacts, .int fireFloor, .int ride, .int starts, .int distance, .int hardFalls])), (h1, .inr (2, [.int dstate, .int dplace, .int dplaces, .int dhold, .int dsteps, .int dbeam, .int dob, .int doc]))])) A) (va_A ([(h0, .inr (1, [.int wayToOther, .ref h1, .ref h2, .int place, .int speed, .int way, .int topSpeed, .int gain, .int brake, .int darkSpeed, .int rideSpeed, .int kilos, .int mostKilos, .int openContacts, .int fireFloor, .int ride, .int starts, .int distance, .int hardFalls])), (h1, .inr (2, [.int dstate, .int dplace, .int dplaces, .int dhold, .int dsteps, .int dbeam, .int dob, .int doc]))]) sz)) 0 0 (va_A ([(h0, .inr (1, [.int wayToOther, .ref h1, .ref h2, .int place, .int speed, .int way, .int topSpeed, .int gain, .int brake, .int darkSpeed, .int rideSpeed, .int kilos, .int mostKilos, .int openContacts, .int fireFloor, .int ride, .int starts, .int distance, .int hardFalls])), (h1, .inr (2, [.int dstate, .int dplace, .int dplaces, .int dhold, .int dsteps, .int dbeam, .int dob, .int doc]))]) sz) := by
  refine en (cc := cX1_mayStart) (maxL := 2) (ret := (some .boolean)) (Qc := (fun A : Nat → Prop => va_Qi (fun (r : Int32) (u : Unit) => F_mayStart kilos mostKilos dstate p0 = r ∧ nb r) (mpst D A (fun (u : Unit) => [(h0, .inr (1, [.int wayToOther, .ref h1, .ref h2, .int place, .int speed, .int way, .int topSpeed, .int gain, .int brake, .int darkSpeed, .int rideSpeed, .int kilos, .int mostKilos, .int openContacts, .int fireFloor, .int ride, .int starts, .int distance, .int hardFalls])), (h1, .inr (2, [.int dstate, .int dplace, .int dplaces, .int dhold, .int dsteps, .int dbeam, .int dob, .int doc]))])) A)) (by decide) rfl (Nat.le_of_ble_eq_true rfl) ?_
  intro p e s m args below meth c A ls Q hQ hx hb hr hts hown hlk hnm hml hA hS hP hK hD hE hl
  have hown : s.vm.findClass RX1 = some m.cls := hown
  have hl : lv_has ls 2 [(0, .ref h0), (1, .int p0)] := hl
  have hG := F_mayStart_u kilos mostKilos dstate p0
  refine lv_iload_n hx hb dX1_mayStart_0 rfl (lv_at hl 1 rfl) ?_
  refine lv_if_eq (tgt := 25) hx hb dX1_mayStart_1 (by decide) (fun c_1 => ?_) (fun c_1 => ?_)
  · have hG := hG.trans (if_pos c_1)
    refine lv_iconst (v := 0) hx hb dX1_mayStart_25 (by decide) ?_
    have hP := hP.sub (ws' := [(h0, .inr (1, [.int wayToOther, .ref h1, .ref h2, .int place, .int speed, .int way, .int topSpeed, .int gain, .int brake, .int darkSpeed, .int rideSpeed, .int kilos, .int mostKilos, .int openContacts, .int fireFloor, .int ride, .int starts, .int distance, .int hardFalls])), (h1, .inr (2, [.int dstate, .int dplace, .int dplaces, .int dhold, .int dsteps, .int dbeam, .int dob, .int doc]))]) [0, 1] rfl
    have hD := hD.sub (ws' := [(h0, .inr (1, [.int wayToOther, .ref h1, .ref h2, .int place, .int speed, .int way, .int topSpeed, .int gain, .int brake, .int darkSpeed, .int rideSpeed, .int kilos, .int mostKilos, .int openContacts, .int fireFloor, .int ride, .int starts, .int distance, .int hardFalls])), (h1, .inr (2, [.int dstate, .int dplace, .int dplaces, .int dhold, .int dsteps, .int dbeam, .int dob, .int doc]))]) [0, 1] (by decide) rfl
    exact rt_z hQ hx hb hr (nb_n (Or.inl rfl)) () ⟨hG, (Or.inl rfl)⟩ hP hD hS (Nat.le_of_ble_eq_true rfl) (Nat.le_of_ble_eq_true rfl) dX1_mayStart_26 hlk
  · have hG := hG.trans (if_neg c_1)
    refine lv_aload_n hx hb dX1_mayStart_4 rfl (lv_at hl 0 rfl) ?_
    refine va_get (D := D) (ci := 1) (v := .ref h1) (C := RX1) (T := TX1) (N := 19) hx hb hts inX1 hown hK hP 0 rfl rfl 1 (by decide) (hts _ (mG w_302)) (fun _ h9 => h9) rfl dX1_mayStart_5 ?_
    refine va_getN (D := D) (ci := 2) (v := .int dstate) (C := RX2) (T := TX2) (N := 8) hx hb hts inX2 hown hK hP 1 rfl rfl 0 (by decide) (nwF hE 3 rfl) (fun _ h9 => h9) rfl dX1_mayStart_8 ?_
    refine lv_if_ne (tgt := 25) hx hb dX1_mayStart_11 (by decide) (fun c_2 => ?_) (fun c_2 => ?_)
    · have hG := hG.trans (if_neg c_2)
      refine lv_iconst (v := 0) hx hb dX1_mayStart_25 (by decide) ?_
      have hP := hP.sub (ws' := [(h0, .inr (1, [.int wayToOther, .ref h1, .ref h2, .int place, .int speed, .int way, .int topSpeed, .int gain, .int brake, .int darkSpeed, .int rideSpeed, .int kilos, .int mostKilos, .int openContacts, .int fireFloor, .int ride, .int starts, .int distance, .int hardFalls])), (h1, .inr (2, [.int dstate, .int dplace, .int dplaces, .int dhold, .int dsteps, .int dbeam, .int dob, .int doc]))]) [0, 1] rfl
      have hD := hD.sub (ws' := [(h0, .inr (1, [.int wayToOther, .ref h1, .ref h2, .int place, .int speed, .int way, .int topSpeed, .int gain, .int brake, .int darkSpeed, .int rideSpeed, .int kilos, .int mostKilos, .int openContacts, .int fireFloor, .int ride, .int starts, .int distance, .int hardFalls])), (h1, .inr (2, [.int dstate, .int dplace, .int dplaces, .int dhold, .int dsteps, .int dbeam, .int dob, .int doc]))]) [0, 1] (by decide) rfl
      exact rt_z hQ hx hb hr (nb_n (Or.inl rfl)) () ⟨hG, (Or.inl rfl)⟩ hP hD hS (Nat.le_of_ble_eq_true rfl) (Nat.le_of_ble_eq_true rfl) dX1_mayStart_26 hlk
    · have hG := hG.trans (if_pos c_2)
      refine lv_aload_n hx hb dX1_mayStart_14 rfl (lv_at hl 0 rfl) ?_
      refine my_i (wr := [(h1, .inr (2, [.int dstate, .int dplace, .int dplaces, .int dhold, .int dsteps, .int dbeam, .int dob, .int doc]))]) [0] [1] (va_runV (As := []) (rest := []) ⟨hx, hb, hml, hown, hts⟩ (c_isOverloaded l D aI aL aZ _ h0 h1 h2 wayToOther place speed way topSpeed gain brake darkSpeed rideSpeed kilos mostKilos openContacts fireFloor ride starts distance hardFalls) (cwV 0 hts (gV w_549 w_451 w_452 w_44 w_453) rfl rfl rfl (by decide +kernel) ⟨Nat.le_of_ble_eq_true rfl, Nat.le_of_ble_eq_true rfl⟩) (prev_of hK hP hD hS hA hE [0] rfl (by decide) (ci := 1) rfl 0 rfl _) rfl rfl hl.1 rfl (lv_room (Nat.le_of_ble_eq_true rfl)) dX1_mayStart_15 ⟨Nat.le_of_ble_eq_true rfl, Nat.le_of_ble_eq_true rfl⟩) hP hD hS hA rfl rfl (by decide) (by decide) (fun r_3 u_ H locs hw_4 hP hD hS => ?_)
      have hw_4 : F_isOverloaded kilos mostKilos = r_3 ∧ nb r_3 := hw_4
      have hG := hG.trans (cb_e hw_4.1)
      have hP : va_P D vwCl [(h1, .inr (2, [.int dstate, .int dplace, .int dplaces, .int dhold, .int dsteps, .int dbeam, .int dob, .int doc])), (h0, .inr (1, [.int wayToOther, .ref h1, .ref h2, .int place, .int speed, .int way, .int topSpeed, .int gain, .int brake, .int darkSpeed, .int rideSpeed, .int kilos, .int mostKilos, .int openContacts, .int fireFloor, .int ride, .int starts, .int distance, .int hardFalls]))] H := hP
      have hD : va_D A [(h1, .inr (2, [.int dstate, .int dplace, .int dplaces, .int dhold, .int dsteps, .int dbeam, .int dob, .int doc])), (h0, .inr (1, [.int wayToOther, .ref h1, .ref h2, .int place, .int speed, .int way, .int topSpeed, .int gain, .int brake, .int darkSpeed, .int rideSpeed, .int kilos, .int mostKilos, .int openContacts, .int fireFloor, .int ride, .int starts, .int distance, .int hardFalls]))] := hD
      refine lv_if_ne (tgt := 25) hx hb dX1_mayStart_18 (by decide) (fun c_5 => ?_) (fun c_5 => ?_)
      · have hG := hG.trans (if_neg c_5)
        refine lv_iconst (v := 0) hx hb dX1_mayStart_25 (by decide) ?_
        have hP := hP.sub (ws' := [(h0, .inr (1, [.int wayToOther, .ref h1, .ref h2, .int place, .int speed, .int way, .int topSpeed, .int gain, .int brake, .int darkSpeed, .int rideSpeed, .int kilos, .int mostKilos, .int openContacts, .int fireFloor, .int ride, .int starts, .int distance, .int hardFalls])), (h1, .inr (2, [.int dstate, .int dplace, .int dplaces, .int dhold, .int dsteps, .int dbeam, .int dob, .int doc]))]) [1, 0] rfl
        have hD := hD.sub (ws' := [(h0, .inr (1, [.int wayToOther, .ref h1, .ref h2, .int place, .int speed, .int way, .int topSpeed, .int gain, .int brake, .int darkSpeed, .int rideSpeed, .int kilos, .int mostKilos, .int openContacts, .int fireFloor, .int ride, .int starts, .int distance, .int hardFalls])), (h1, .inr (2, [.int dstate, .int dplace, .int dplaces, .int dhold, .int dsteps, .int dbeam, .int dob, .int doc]))]) [1, 0] (by decide) rfl
        exact rt_z hQ hx hb hr (nb_n (Or.inl rfl)) () ⟨hG, (Or.inl rfl)⟩ hP hD hS (Nat.le_of_ble_eq_true rfl) (Nat.le_of_ble_eq_true rfl) dX1_mayStart_26 hlk
      · have hG := hG.trans (if_pos c_5)
        refine lv_iconst (v := 1) hx hb dX1_mayStart_21 (by decide) ?_
        refine lv_goto (tgt := 26) hx hb dX1_mayStart_22 (by decide) ?_
        have hP := hP.sub (ws' := [(h0, .inr (1, [.int wayToOther, .ref h1, .ref h2, .int place, .int speed, .int way, .int topSpeed, .int gain, .int brake, .int darkSpeed, .int rideSpeed, .int kilos, .int mostKilos, .int openContacts, .int fireFloor, .int ride, .int starts, .int distance, .int hardFalls])), (h1, .inr (2, [.int dstate, .int dplace, .int dplaces, .int dhold, .int dsteps, .int dbeam, .int dob, .int doc]))]) [1, 0] rfl
        have hD := hD.sub (ws' := [(h0, .inr (1, [.int wayToOther, .ref h1, .ref h2, .int place, .int speed, .int way, .int topSpeed, .int gain, .int brake, .int darkSpeed, .int rideSpeed, .int kilos, .int mostKilos, .int openContacts, .int fireFloor, .int ride, .int starts, .int distance, .int hardFalls])), (h1, .inr (2, [.int dstate, .int dplace, .int dplaces, .int dhold, .int dsteps, .int dbeam, .int dob, .int doc]))]) [1, 0] (by decide) rfl
        exact rt_z hQ hx hb hr (nb_n (Or.inr rfl)) () ⟨hG, (Or.inr rfl)⟩ hP hD hS (Nat.le_of_ble_eq_true rfl) (Nat.le_of_ble_eq_true rfl) dX1_mayStart_26 hlk
theorem dX1_roomToOther_0 : decode cX1_roomToOther 0 = .ok (.aload_n 2, 1) := by decide +kernel
theorem dX1_roomToOther_1 : decode cX1_roomToOther 1 = .ok (.ifnull 11, 3) := by decide +kernel
theorem dX1_roomToOther_4 : decode cX1_roomToOther 4 = .ok (.iload_n 1, 1) := by decide +kernel
theorem dX1_roomToOther_5 : decode cX1_roomToOther 5 = .ok (.aload_n 0, 1) := by decide +kernel
theorem dX1_roomToOther_6 : decode cX1_roomToOther 6 = .ok (.getfield 53, 3) := by decide +kernel
theorem dX1_roomToOther_9 : decode cX1_roomToOther 9 = .ok (.if_icmp .eq 6, 3) := by decide +kernel
theorem dX1_roomToOther_12 : decode cX1_roomToOther 12 = .ok (.ldc 131, 2) := by decide +kernel
theorem dX1_roomToOther_14 : decode cX1_roomToOther 14 = .ok (.ireturn, 1) := by decide +kernel
theorem dX1_roomToOther_15 : decode cX1_roomToOther 15 = .ok (.iload_n 1, 1) := by decide +kernel
theorem dX1_roomToOther_16 : decode cX1_roomToOther 16 = .ok (.aload_n 2, 1) := by decide +kernel
theorem dX1_roomToOther_17 : decode cX1_roomToOther 17 = .ok (.invokevirtual 132, 3) := by decide +kernel
theorem dX1_roomToOther_20 : decode cX1_roomToOther 20 = .ok (.aload_n 0, 1) := by decide +kernel
theorem dX1_roomToOther_21 : decode cX1_roomToOther 21 = .ok (.getfield 50, 3) := by decide +kernel
theorem dX1_roomToOther_24 : decode cX1_roomToOther 24 = .ok (.isub, 1) := by decide +kernel
theorem dX1_roomToOther_25 : decode cX1_roomToOther 25 = .ok (.imul, 1) := by decide +kernel
theorem dX1_roomToOther_26 : decode cX1_roomToOther 26 = .ok (.iload_n 3, 1) := by decide +kernel
theorem dX1_roomToOther_27 : decode cX1_roomToOther 27 = .ok (.isub, 1) := by decide +kernel
theorem dX1_roomToOther_28 : decode cX1_roomToOther 28 = .ok (.ireturn, 1) := by decide +kernel
def F_roomToOtherN : Int32 :=
  1000000000
theorem F_roomToOtherN_u : F_roomToOtherN =
  (1000000000) := rfl
set_option maxHeartbeats 4000000 in
set_option maxRecDepth 100000 in
theorem c_roomToOtherN (l : Launch) (D : va_G) (aI aL aZ : ClassId) (sz : Nat) (h0 : Nat) (h1 : Nat) (h2 : Nat) (wayToOther : Int32) (place : Int32) (speed : Int32) (way : Int32) (topSpeed : Int32) (gain : Int32) (brake : Int32) (darkSpeed : Int32) (rideSpeed : Int32) (kilos : Int32) (mostKilos : Int32) (openContacts : Int32) (fireFloor : Int32) (ride : Int32) (starts : Int32) (distance : Int32) (hardFalls : Int32) (p0 : Int32) (p2 : Int32) : Met l yX1_roomToOther (.code yX1_roomToOther cX1_roomToOther 4 (some .int) :: Gw) ({ frames := 0, cells := 0, slots := 0, locals := 0 }) (va_Pc [.ref h0, .int p0, .null, .int p2] (mpre D [(aI, .int), (aL, .long), (aZ, .boolean)] [(h0, .inr (1, [.int wayToOther, .ref h1, .ref h2, .int place, .int speed, .int way, .int topSpeed, .int gain, .int brake, .int darkSpeed, .int rideSpeed, .int kilos, .int mostKilos, .int openContacts, .int fireFloor, .int ride, .int starts, .int distance, .int hardFalls]))] sz)) ((fun A : Nat → Prop => va_Qi (fun (r : Int32) (u : Unit) => r = 1000000000 ∧ (F_roomToOtherN = r)) (mpst D A (fun (u : Unit) => [(h0, .inr (1, [.int wayToOther, .ref h1, .ref h2, .int place, .int speed, .int way, .int topSpeed, .int gain, .int brake, .int darkSpeed, .int rideSpeed, .int kilos, .int mostKilos, .int openContacts, .int fireFloor, .int ride, .int starts, .int distance, .int hardFalls]))])) A) (va_A ([(h0, .inr (1, [.int wayToOther, .ref h1, .ref h2, .int place, .int speed, .int way, .int topSpeed, .int gain, .int brake, .int darkSpeed, .int rideSpeed, .int kilos, .int mostKilos, .int openContacts, .int fireFloor, .int ride, .int starts, .int distance, .int hardFalls]))]) sz)) 0 0 (va_A ([(h0, .inr (1, [.int wayToOther, .ref h1, .ref h2, .int place, .int speed, .int way, .int topSpeed, .int gain, .int brake, .int darkSpeed, .int rideSpeed, .int kilos, .int mostKilos, .int openContacts, .int fireFloor, .int ride, .int starts, .int distance, .int hardFalls]))]) sz) := by
  refine en (cc := cX1_roomToOther) (maxL := 4) (ret := (some .int)) (Qc := (fun A : Nat → Prop => va_Qi (fun (r : Int32) (u : Unit) => r = 1000000000 ∧ (F_roomToOtherN = r)) (mpst D A (fun (u : Unit) => [(h0, .inr (1, [.int wayToOther, .ref h1, .ref h2, .int place, .int speed, .int way, .int topSpeed, .int gain, .int brake, .int darkSpeed, .int rideSpeed, .int kilos, .int mostKilos, .int openContacts, .int fireFloor, .int ride, .int starts, .int distance, .int hardFalls]))])) A)) (by decide) rfl (Nat.le_of_ble_eq_true rfl) ?_
  intro p e s m args below meth c A ls Q hQ hx hb hr hts hown hlk hnm hml hA hS hP hK hD hE hl
  have hown : s.vm.findClass RX1 = some m.cls := hown
  have hl : lv_has ls 4 [(0, .ref h0), (1, .int p0), (2, .null), (3, .int p2)] := hl
  have hG := F_roomToOtherN_u
  refine lv_aload_nN hx hb dX1_roomToOther_0 rfl (lv_at hl 2 rfl) ?_
  refine lv_ifnullN (tgt := 12) hx hb dX1_roomToOther_1 (by decide) ?_
  refine lv_ldc (v := 1000000000) hx hb hown (hts _ (mG w_539)) dX1_roomToOther_12 ?_
  have hP := hP.sub (ws' := [(h0, .inr (1, [.int wayToOther, .ref h1, .ref h2, .int place, .int speed, .int way, .int topSpeed, .int gain, .int brake, .int darkSpeed, .int rideSpeed, .int kilos, .int mostKilos, .int openContacts, .int fireFloor, .int ride, .int starts, .int distance, .int hardFalls]))]) [0] rfl
  have hD := hD.sub (ws' := [(h0, .inr (1, [.int wayToOther, .ref h1, .ref h2, .int place, .int speed, .int way, .int topSpeed, .int gain, .int brake, .int darkSpeed, .int rideSpeed, .int kilos, .int mostKilos, .int openContacts, .int fireFloor, .int ride, .int starts, .int distance, .int hardFalls]))]) [0] (by decide) rfl
  exact rt_i hQ hx hb hr () ⟨rfl, hG⟩ hP hD hS (Nat.le_of_ble_eq_true rfl) (Nat.le_of_ble_eq_true rfl) dX1_roomToOther_14 hlk
def F_roomToOther (wayToOther : Int32) (place : Int32) (wayToOtherB : Int32) (placeB : Int32) (speedB : Int32) (wayB : Int32) (brakeB : Int32) (p0 : Int32) (p2 : Int32) : Int32 :=
  if p0 = wayToOther then
    cb (F_standPlace wayToOtherB placeB speedB wayB brakeB) fun r_2 =>
      ((p0 * (r_2 - place)) - p2)
  else
    1000000000
theorem F_roomToOther_u (wayToOther : Int32) (place : Int32) (wayToOtherB : Int32) (placeB : Int32) (speedB : Int32) (wayB : Int32) (brakeB : Int32) (p0 : Int32) (p2 : Int32) : F_roomToOther wayToOther place wayToOtherB placeB speedB wayB brakeB p0 p2 =
  (if p0 = wayToOther then
    cb (F_standPlace wayToOtherB placeB speedB wayB brakeB) fun r_2 =>
      ((p0 * (r_2 - place)) - p2)
  else
    1000000000) := rfl
set_option maxHeartbeats 4000000 in
set_option maxRecDepth 100000 in
theorem c_roomToOther (l : Launch) (D : va_G) (aI aL aZ : ClassId) (sz : Nat) (h0 : Nat) (h1 : Nat) (h2 : Nat) (wayToOther : Int32) (place : Int32) (speed : Int32) (way : Int32) (topSpeed : Int32) (gain : Int32) (brake : Int32) (darkSpeed : Int32) (rideSpeed : Int32) (kilos : Int32) (mostKilos : Int32) (openContacts : Int32) (fireFloor : Int32) (ride : Int32) (starts : Int32) (distance : Int32) (hardFalls : Int32) (g0 : Nat) (g1 : Nat) (g2 : Nat) (wayToOtherB : Int32) (placeB : Int32) (speedB : Int32) (wayB : Int32) (topSpeedB : Int32) (gainB : Int32) (brakeB : Int32) (darkSpeedB : Int32) (rideSpeedB : Int32) (kilosB : Int32) (mostKilosB : Int32) (openContactsB : Int32) (fireFloorB : Int32) (rideB : Int32) (startsB : Int32) (distanceB : Int32) (hardFallsB : Int32) (p0 : Int32) (p2 : Int32) : Met l yX1_roomToOther (.code yX1_roomToOther cX1_roomToOther 4 (some .int) :: Gw) ({ frames := 2, cells := 0, slots := 0, locals := 42 }) (va_Pc [.ref h0, .int p0, .ref g0, .int p2] (mpre D [(aI, .int), (aL, .long), (aZ, .boolean)] [(h0, .inr (1, [.int wayToOther, .ref h1, .ref h2, .int place, .int speed, .int way, .int topSpeed, .int gain, .int brake, .int darkSpeed, .int rideSpeed, .int kilos, .int mostKilos, .int openContacts, .int fireFloor, .int ride, .int starts, .int distance, .int hardFalls])), (g0, .inr (1, [.int wayToOtherB, .ref g1, .ref g2, .int placeB, .int speedB, .int wayB, .int topSpeedB, .int gainB, .int brakeB, .int darkSpeedB, .int rideSpeedB, .int kilosB, .int mostKilosB, .int openContactsB, .int fireFloorB, .int rideB, .int startsB, .int distanceB, .int hardFallsB]))] sz)) ((fun A : Nat → Prop => va_Qi (fun (r : Int32) (u : Unit) => F_roomToOther wayToOther place wayToOtherB placeB speedB wayB brakeB p0 p2 = r) (mpst D A (fun (u : Unit) => [(h0, .inr (1, [.int wayToOther, .ref h1, .ref h2, .int place, .int speed, .int way, .int topSpeed, .int gain, .int brake, .int darkSpeed, .int rideSpeed, .int kilos, .int mostKilos, .int openContacts, .int fireFloor, .int ride, .int starts, .int distance, .int hardFalls])), (g0, .inr (1, [.int wayToOtherB, .ref g1, .ref g2, .int placeB, .int speedB, .int wayB, .int topSpeedB, .int gainB, .int brakeB, .int darkSpeedB, .int rideSpeedB, .int kilosB, .int mostKilosB, .int openContactsB, .int fireFloorB, .int rideB, .int startsB, .int distanceB, .int hardFallsB]))])) A) (va_A ([(h0, .inr (1, [.int wayToOther, .ref h1, .ref h2, .int place, .int speed, .int way, .int topSpeed, .int gain, .int brake, .int darkSpeed, .int rideSpeed, .int kilos, .int mostKilos, .int openContacts, .int fireFloor, .int ride, .int starts, .int distance, .int hardFalls])), (g0, .inr (1, [.int wayToOtherB, .ref g1, .ref g2, .int placeB, .int speedB, .int wayB, .int topSpeedB, .int gainB, .int brakeB, .int darkSpeedB, .int rideSpeedB, .int kilosB, .int mostKilosB, .int openContactsB, .int fireFloorB, .int rideB, .int startsB, .int distanceB, .int hardFallsB]))]) sz)) 0 0 (va_A ([(h0, .inr (1, [.int wayToOther, .ref h1, .ref h2, .int place, .int speed, .int way, .int topSpeed, .int gain, .int brake, .int darkSpeed, .int rideSpeed, .int kilos, .int mostKilos, .int openContacts, .int fireFloor, .int ride, .int starts, .int distance, .int hardFalls])), (g0, .inr (1, [.int wayToOtherB, .ref g1, .ref g2, .int placeB, .int speedB, .int wayB, .int topSpeedB, .int gainB, .int brakeB, .int darkSpeedB, .int rideSpeedB, .int kilosB, .int mostKilosB, .int openContactsB, .int fireFloorB, .int rideB, .int startsB, .int distanceB, .int hardFallsB]))]) sz) := by
  refine en (cc := cX1_roomToOther) (maxL := 4) (ret := (some .int)) (Qc := (fun A : Nat → Prop => va_Qi (fun (r : Int32) (u : Unit) => F_roomToOther wayToOther place wayToOtherB placeB speedB wayB brakeB p0 p2 = r) (mpst D A (fun (u : Unit) => [(h0, .inr (1, [.int wayToOther, .ref h1, .ref h2, .int place, .int speed, .int way, .int topSpeed, .int gain, .int brake, .int darkSpeed, .int rideSpeed, .int kilos, .int mostKilos, .int openContacts, .int fireFloor, .int ride, .int starts, .int distance, .int hardFalls])), (g0, .inr (1, [.int wayToOtherB, .ref g1, .ref g2, .int placeB, .int speedB, .int wayB, .int topSpeedB, .int gainB, .int brakeB, .int darkSpeedB, .int rideSpeedB, .int kilosB, .int mostKilosB, .int openContactsB, .int fireFloorB, .int rideB, .int startsB, .int distanceB, .int hardFallsB]))])) A)) (by decide) rfl (Nat.le_of_ble_eq_true rfl) ?_
  intro p e s m args below meth c A ls Q hQ hx hb hr hts hown hlk hnm hml hA hS hP hK hD hE hl
  have hown : s.vm.findClass RX1 = some m.cls := hown
  have hl : lv_has ls 4 [(0, .ref h0), (1, .int p0), (2, .ref g0), (3, .int p2)] := hl
  have hG := F_roomToOther_u wayToOther place wayToOtherB placeB speedB wayB brakeB p0 p2
  refine lv_aload_n hx hb dX1_roomToOther_0 rfl (lv_at hl 2 rfl) ?_
  refine lv_ifnull hx hb dX1_roomToOther_1 ?_
  refine lv_iload_n hx hb dX1_roomToOther_4 rfl (lv_at hl 1 rfl) ?_
  refine lv_aload_n hx hb dX1_roomToOther_5 rfl (lv_at hl 0 rfl) ?_
  refine va_get (D := D) (ci := 1) (v := .int wayToOther) (C := RX1) (T := TX1) (N := 19) hx hb hts inX1 hown hK hP 0 rfl rfl 0 (by decide) (hts _ (mG w_301)) (fun _ h9 => h9) rfl dX1_roomToOther_6 ?_
  refine lv_icmp_eq (tgt := 15) hx hb dX1_roomToOther_9 (by decide) (fun c_1 => ?_) (fun c_1 => ?_)
  · have hG := hG.trans (if_pos c_1)
    refine lv_iload_n hx hb dX1_roomToOther_15 rfl (lv_at hl 1 rfl) ?_
    refine lv_aload_n hx hb dX1_roomToOther_16 rfl (lv_at hl 2 rfl) ?_
    refine my_i (wr := [(h0, .inr (1, [.int wayToOther, .ref h1, .ref h2, .int place, .int speed, .int way, .int topSpeed, .int gain, .int brake, .int darkSpeed, .int rideSpeed, .int kilos, .int mostKilos, .int openContacts, .int fireFloor, .int ride, .int starts, .int distance, .int hardFalls]))]) [1] [0] (va_runV (As := []) (rest := [.int p0]) ⟨hx, hb, hml, hown, hts⟩ (c_standPlace l D aI aL aZ _ g0 g1 g2 wayToOtherB placeB speedB wayB topSpeedB gainB brakeB darkSpeedB rideSpeedB kilosB mostKilosB openContactsB fireFloorB rideB startsB distanceB hardFallsB) (cwV 0 hts (gV w_540 w_379 w_380 w_44 w_381) rfl rfl rfl (by decide +kernel) ⟨Nat.le_of_ble_eq_true rfl, Nat.le_of_ble_eq_true rfl⟩) (prev_of hK hP hD hS hA hE [1] rfl (by decide) (ci := 1) rfl 1 rfl _) rfl rfl hl.1 rfl (lv_room (Nat.le_of_ble_eq_true rfl)) dX1_roomToOther_17 ⟨Nat.le_of_ble_eq_true rfl, Nat.le_of_ble_eq_true rfl⟩) hP hD hS hA rfl rfl (by decide) (by decide) (fun r_2 u_ H locs hw_3 hP hD hS => ?_)
    have hw_3 : F_standPlace wayToOtherB placeB speedB wayB brakeB = r_2 := hw_3
    have hG := hG.trans (cb_e hw_3)
    have hP : va_P D vwCl [(h0, .inr (1, [.int wayToOther, .ref h1, .ref h2, .int place, .int speed, .int way, .int topSpeed, .int gain, .int brake, .int darkSpeed, .int rideSpeed, .int kilos, .int mostKilos, .int openContacts, .int fireFloor, .int ride, .int starts, .int distance, .int hardFalls])), (g0, .inr (1, [.int wayToOtherB, .ref g1, .ref g2, .int placeB, .int speedB, .int wayB, .int topSpeedB, .int gainB, .int brakeB, .int darkSpeedB, .int rideSpeedB, .int kilosB, .int mostKilosB, .int openContactsB, .int fireFloorB, .int rideB, .int startsB, .int distanceB, .int hardFallsB]))] H := hP
    have hD : va_D A [(h0, .inr (1, [.int wayToOther, .ref h1, .ref h2, .int place, .int speed, .int way, .int topSpeed, .int gain, .int brake, .int darkSpeed, .int rideSpeed, .int kilos, .int mostKilos, .int openContacts, .int fireFloor, .int ride, .int starts, .int distance, .int hardFalls])), (g0, .inr (1, [.int wayToOtherB, .ref g1, .ref g2, .int placeB, .int speedB, .int wayB, .int topSpeedB, .int gainB, .int brakeB, .int darkSpeedB, .int rideSpeedB, .int kilosB, .int mostKilosB, .int openContactsB, .int fireFloorB, .int rideB, .int startsB, .int distanceB, .int hardFallsB]))] := hD
    refine lv_aload_n hx hb dX1_roomToOther_20 rfl (lv_at hl 0 rfl) ?_
    refine va_get (D := D) (ci := 1) (v := .int place) (C := RX1) (T := TX1) (N := 19) hx hb hts inX1 hown hK hP 0 rfl rfl 3 (by decide) (hts _ (mG w_306)) (fun _ h9 => h9) rfl dX1_roomToOther_21 ?_
    refine lv_isub hx hb dX1_roomToOther_24 ?_
    refine lv_imul hx hb dX1_roomToOther_25 ?_
    refine lv_iload_n hx hb dX1_roomToOther_26 rfl (lv_at hl 3 rfl) ?_
    refine lv_isub hx hb dX1_roomToOther_27 ?_
    have hP := hP.sub (ws' := [(h0, .inr (1, [.int wayToOther, .ref h1, .ref h2, .int place, .int speed, .int way, .int topSpeed, .int gain, .int brake, .int darkSpeed, .int rideSpeed, .int kilos, .int mostKilos, .int openContacts, .int fireFloor, .int ride, .int starts, .int distance, .int hardFalls])), (g0, .inr (1, [.int wayToOtherB, .ref g1, .ref g2, .int placeB, .int speedB, .int wayB, .int topSpeedB, .int gainB, .int brakeB, .int darkSpeedB, .int rideSpeedB, .int kilosB, .int mostKilosB, .int openContactsB, .int fireFloorB, .int rideB, .int startsB, .int distanceB, .int hardFallsB]))]) [0, 1] rfl
    have hD := hD.sub (ws' := [(h0, .inr (1, [.int wayToOther, .ref h1, .ref h2, .int place, .int speed, .int way, .int topSpeed, .int gain, .int brake, .int darkSpeed, .int rideSpeed, .int kilos, .int mostKilos, .int openContacts, .int fireFloor, .int ride, .int starts, .int distance, .int hardFalls])), (g0, .inr (1, [.int wayToOtherB, .ref g1, .ref g2, .int placeB, .int speedB, .int wayB, .int topSpeedB, .int gainB, .int brakeB, .int darkSpeedB, .int rideSpeedB, .int kilosB, .int mostKilosB, .int openContactsB, .int fireFloorB, .int rideB, .int startsB, .int distanceB, .int hardFallsB]))]) [0, 1] (by decide) rfl
    exact rt_i hQ hx hb hr () hG hP hD hS (Nat.le_of_ble_eq_true rfl) (Nat.le_of_ble_eq_true rfl) dX1_roomToOther_28 hlk
  · have hG := hG.trans (if_neg c_1)
    refine lv_ldc (v := 1000000000) hx hb hown (hts _ (mG w_539)) dX1_roomToOther_12 ?_
    have hP := hP.sub (ws' := [(h0, .inr (1, [.int wayToOther, .ref h1, .ref h2, .int place, .int speed, .int way, .int topSpeed, .int gain, .int brake, .int darkSpeed, .int rideSpeed, .int kilos, .int mostKilos, .int openContacts, .int fireFloor, .int ride, .int starts, .int distance, .int hardFalls])), (g0, .inr (1, [.int wayToOtherB, .ref g1, .ref g2, .int placeB, .int speedB, .int wayB, .int topSpeedB, .int gainB, .int brakeB, .int darkSpeedB, .int rideSpeedB, .int kilosB, .int mostKilosB, .int openContactsB, .int fireFloorB, .int rideB, .int startsB, .int distanceB, .int hardFallsB]))]) [0, 1] rfl
    have hD := hD.sub (ws' := [(h0, .inr (1, [.int wayToOther, .ref h1, .ref h2, .int place, .int speed, .int way, .int topSpeed, .int gain, .int brake, .int darkSpeed, .int rideSpeed, .int kilos, .int mostKilos, .int openContacts, .int fireFloor, .int ride, .int starts, .int distance, .int hardFalls])), (g0, .inr (1, [.int wayToOtherB, .ref g1, .ref g2, .int placeB, .int speedB, .int wayB, .int topSpeedB, .int gainB, .int brakeB, .int darkSpeedB, .int rideSpeedB, .int kilosB, .int mostKilosB, .int openContactsB, .int fireFloorB, .int rideB, .int startsB, .int distanceB, .int hardFallsB]))]) [0, 1] (by decide) rfl
    exact rt_i hQ hx hb hr () hG hP hD hS (Nat.le_of_ble_eq_true rfl) (Nat.le_of_ble_eq_true rfl) dX1_roomToOther_14 hlk
theorem dX1_land_0 : decode cX1_land 0 = .ok (.iload_n 1, 1) := by decide +kernel
theorem dX1_land_1 : decode cX1_land 1 = .ok (.ifCond .ne 10, 3) := by decide +kernel
theorem dX1_land_4 : decode cX1_land 4 = .ok (.aload_n 0, 1) := by decide +kernel
theorem dX1_land_5 : decode cX1_land 5 = .ok (.getfield 21, 3) := by decide +kernel
theorem dX1_land_8 : decode cX1_land 8 = .ok (.invokevirtual 181, 3) := by decide +kernel
theorem dX1_land_11 : decode cX1_land 11 = .ok (.iload_n 1, 1) := by decide +kernel
theorem dX1_land_12 : decode cX1_land 12 = .ok (.iconst 4, 1) := by decide +kernel
theorem dX1_land_13 : decode cX1_land 13 = .ok (.if_icmp .eq 10, 3) := by decide +kernel
theorem dX1_land_16 : decode cX1_land 16 = .ok (.aload_n 0, 1) := by decide +kernel
theorem dX1_land_17 : decode cX1_land 17 = .ok (.getfield 12, 3) := by decide +kernel
theorem dX1_land_20 : decode cX1_land 20 = .ok (.invokevirtual 184, 3) := by decide +kernel
theorem dX1_land_23 : decode cX1_land 23 = .ok (.return_, 1) := by decide +kernel
def F_land (dstate : Int32) (dsteps : Int32) (dob : Int32) (doc : Int32) (ccount : Int32) (cover : Int32) (cf : Nat → Int32) (p0 : Int32) : Int32 × Int32 × Int32 × Int32 × Int32 × Int32 × (Nat → Int32) :=
  if p0 = 0 then
    cb (F_endFirst ccount cover cf) fun (x_8, x_9, x_10) =>
      if p0 = 4 then
        (dstate, dsteps, dob, doc, x_8, x_9, x_10)
      else
        cb (F_openForLanding dstate dsteps dob doc) fun (x_13, x_14, x_15, x_16) =>
          (x_13, x_14, x_15, x_16, x_8, x_9, x_10)
  else
    if p0 = 4 then
      (dstate, dsteps, dob, doc, ccount, cover, cf)
    else
      cb (F_openForLanding dstate dsteps dob doc) fun (x_3, x_4, x_5, x_6) =>
        (x_3, x_4, x_5, x_6, ccount, cover, cf)
theorem F_land_u (dstate : Int32) (dsteps : Int32) (dob : Int32) (doc : Int32) (ccount : Int32) (cover : Int32) (cf : Nat → Int32) (p0 : Int32) : F_land dstate dsteps dob doc ccount cover cf p0 =
  (if p0 = 0 then
    cb (F_endFirst ccount cover cf) fun (x_8, x_9, x_10) =>
      if p0 = 4 then
        (dstate, dsteps, dob, doc, x_8, x_9, x_10)
      else
        cb (F_openForLanding dstate dsteps dob doc) fun (x_13, x_14, x_15, x_16) =>
          (x_13, x_14, x_15, x_16, x_8, x_9, x_10)
  else
    if p0 = 4 then
      (dstate, dsteps, dob, doc, ccount, cover, cf)
    else
      cb (F_openForLanding dstate dsteps dob doc) fun (x_3, x_4, x_5, x_6) =>
        (x_3, x_4, x_5, x_6, ccount, cover, cf)) := rfl
set_option maxHeartbeats 4000000 in
set_option maxRecDepth 100000 in
theorem c_land (l : Launch) (D : va_G) (aI aL aZ : ClassId) (sz : Nat) (h0 : Nat) (h1 : Nat) (h2 : Nat) (wayToOther : Int32) (place : Int32) (speed : Int32) (way : Int32) (topSpeed : Int32) (gain : Int32) (brake : Int32) (darkSpeed : Int32) (rideSpeed : Int32) (kilos : Int32) (mostKilos : Int32) (openContacts : Int32) (fireFloor : Int32) (ride : Int32) (starts : Int32) (distance : Int32) (hardFalls : Int32) (h3 : Nat) (dstate : Int32) (dplace : Int32) (dplaces : Int32) (dhold : Int32) (dsteps : Int32) (dbeam : Int32) (dob : Int32) (doc : Int32) (ccount : Int32) (cover : Int32) (cf : Nat → Int32) (p0 : Int32) : Met l yX1_land (.code yX1_land cX1_land 2 none :: Gw) ({ frames := 2, cells := 0, slots := 0, locals := 40 }) (va_Pc [.ref h0, .int p0] (mpre D [(aI, .int), (aL, .long), (aZ, .boolean)] [(h0, .inr (1, [.int wayToOther, .ref h1, .ref h2, .int place, .int speed, .int way, .int topSpeed, .int gain, .int brake, .int darkSpeed, .int rideSpeed, .int kilos, .int mostKilos, .int openContacts, .int fireFloor, .int ride, .int starts, .int distance, .int hardFalls])), (h1, .inr (2, [.int dstate, .int dplace, .int dplaces, .int dhold, .int dsteps, .int dbeam, .int dob, .int doc])), (h2, .inr (0, [.ref h3, .int ccount, .int cover])), (h3, .inl (aI, 8, .inl cf))] sz)) ((fun A : Nat → Prop => va_Qv (fun (u : Int32 × Int32 × Int32 × Int32 × Int32 × Int32 × (Nat → Int32)) => match u with | (u0, u1, u2, u3, u4, u5, u6) => F_land dstate dsteps dob doc ccount cover cf p0 = (u0, u1, u2, u3, u4, u5, u6)) (mpst D A (fun (u : Int32 × Int32 × Int32 × Int32 × Int32 × Int32 × (Nat → Int32)) => match u with | (u0, u1, u2, u3, u4, u5, u6) => [(h0, .inr (1, [.int wayToOther, .ref h1, .ref h2, .int place, .int speed, .int way, .int topSpeed, .int gain, .int brake, .int darkSpeed, .int rideSpeed, .int kilos, .int mostKilos, .int openContacts, .int fireFloor, .int ride, .int starts, .int distance, .int hardFalls])), (h1, .inr (2, [.int u0, .int dplace, .int dplaces, .int dhold, .int u1, .int dbeam, .int u2, .int u3])), (h2, .inr (0, [.ref h3, .int u4, .int u5])), (h3, .inl (aI, 8, .inl u6))])) A) (va_A ([(h0, .inr (1, [.int wayToOther, .ref h1, .ref h2, .int place, .int speed, .int way, .int topSpeed, .int gain, .int brake, .int darkSpeed, .int rideSpeed, .int kilos, .int mostKilos, .int openContacts, .int fireFloor, .int ride, .int starts, .int distance, .int hardFalls])), (h1, .inr (2, [.int dstate, .int dplace, .int dplaces, .int dhold, .int dsteps, .int dbeam, .int dob, .int doc])), (h2, .inr (0, [.ref h3, .int ccount, .int cover])), (h3, .inl (aI, 8, .inl cf))]) sz)) 0 0 (va_A ([(h0, .inr (1, [.int wayToOther, .ref h1, .ref h2, .int place, .int speed, .int way, .int topSpeed, .int gain, .int brake, .int darkSpeed, .int rideSpeed, .int kilos, .int mostKilos, .int openContacts, .int fireFloor, .int ride, .int starts, .int distance, .int hardFalls])), (h1, .inr (2, [.int dstate, .int dplace, .int dplaces, .int dhold, .int dsteps, .int dbeam, .int dob, .int doc])), (h2, .inr (0, [.ref h3, .int ccount, .int cover])), (h3, .inl (aI, 8, .inl cf))]) sz) := by
  refine en (cc := cX1_land) (maxL := 2) (ret := none) (Qc := (fun A : Nat → Prop => va_Qv (fun (u : Int32 × Int32 × Int32 × Int32 × Int32 × Int32 × (Nat → Int32)) => match u with | (u0, u1, u2, u3, u4, u5, u6) => F_land dstate dsteps dob doc ccount cover cf p0 = (u0, u1, u2, u3, u4, u5, u6)) (mpst D A (fun (u : Int32 × Int32 × Int32 × Int32 × Int32 × Int32 × (Nat → Int32)) => match u with | (u0, u1, u2, u3, u4, u5, u6) => [(h0, .inr (1, [.int wayToOther, .ref h1, .ref h2, .int place, .int speed, .int way, .int topSpeed, .int gain, .int brake, .int darkSpeed, .int rideSpeed, .int kilos, .int mostKilos, .int openContacts, .int fireFloor, .int ride, .int starts, .int distance, .int hardFalls])), (h1, .inr (2, [.int u0, .int dplace, .int dplaces, .int dhold, .int u1, .int dbeam, .int u2, .int u3])), (h2, .inr (0, [.ref h3, .int u4, .int u5])), (h3, .inl (aI, 8, .inl u6))])) A)) (by decide) rfl (Nat.le_of_ble_eq_true rfl) ?_
  intro p e s m args below meth c A ls Q hQ hx hb hr hts hown hlk hnm hml hA hS hP hK hD hE hl
  have hown : s.vm.findClass RX1 = some m.cls := hown
  have hl : lv_has ls 2 [(0, .ref h0), (1, .int p0)] := hl
  have hG := F_land_u dstate dsteps dob doc ccount cover cf p0
  refine lv_iload_n hx hb dX1_land_0 rfl (lv_at hl 1 rfl) ?_
  refine lv_if_ne (tgt := 11) hx hb dX1_land_1 (by decide) (fun c_1 => ?_) (fun c_1 => ?_)
  · have hG := hG.trans (if_neg c_1)
    refine lv_iload_n hx hb dX1_land_11 rfl (lv_at hl 1 rfl) ?_
    refine lv_iconst (v := 4) hx hb dX1_land_12 (by decide) ?_
    refine lv_icmp_eq (tgt := 23) hx hb dX1_land_13 (by decide) (fun c_2 => ?_) (fun c_2 => ?_)
    · have hG := hG.trans (if_pos c_2)
      have hP := hP.sub (ws' := [(h0, .inr (1, [.int wayToOther, .ref h1, .ref h2, .int place, .int speed, .int way, .int topSpeed, .int gain, .int brake, .int darkSpeed, .int rideSpeed, .int kilos, .int mostKilos, .int openContacts, .int fireFloor, .int ride, .int starts, .int distance, .int hardFalls])), (h1, .inr (2, [.int dstate, .int dplace, .int dplaces, .int dhold, .int dsteps, .int dbeam, .int dob, .int doc])), (h2, .inr (0, [.ref h3, .int ccount, .int cover])), (h3, .inl (aI, 8, .inl cf))]) [0, 1, 2, 3] rfl
      have hD := hD.sub (ws' := [(h0, .inr (1, [.int wayToOther, .ref h1, .ref h2, .int place, .int speed, .int way, .int topSpeed, .int gain, .int brake, .int darkSpeed, .int rideSpeed, .int kilos, .int mostKilos, .int openContacts, .int fireFloor, .int ride, .int starts, .int distance, .int hardFalls])), (h1, .inr (2, [.int dstate, .int dplace, .int dplaces, .int dhold, .int dsteps, .int dbeam, .int dob, .int doc])), (h2, .inr (0, [.ref h3, .int ccount, .int cover])), (h3, .inl (aI, 8, .inl cf))]) [0, 1, 2, 3] (by decide) rfl
      exact rt_v hQ hx hb hr (dstate, dsteps, dob, doc, ccount, cover, cf) hG hP hD hS (Nat.le_of_ble_eq_true rfl) (Nat.le_of_ble_eq_true rfl) dX1_land_23 hlk
    · have hG := hG.trans (if_neg c_2)
      refine lv_aload_n hx hb dX1_land_16 rfl (lv_at hl 0 rfl) ?_
      refine va_get (D := D) (ci := 1) (v := .ref h1) (C := RX1) (T := TX1) (N := 19) hx hb hts inX1 hown hK hP 0 rfl rfl 1 (by decide) (hts _ (mG w_302)) (fun _ h9 => h9) rfl dX1_land_17 ?_
      refine my_v (wr := [(h0, .inr (1, [.int wayToOther, .ref h1, .ref h2, .int place, .int speed, .int way, .int topSpeed, .int gain, .int brake, .int darkSpeed, .int rideSpeed, .int kilos, .int mostKilos, .int openContacts, .int fireFloor, .int ride, .int starts, .int distance, .int hardFalls])), (h2, .inr (0, [.ref h3, .int ccount, .int cover])), (h3, .inl (aI, 8, .inl cf))]) [1] [0, 2, 3] (va_runV (As := []) (rest := []) ⟨hx, hb, hml, hown, hts⟩ (c_openForLanding l D aI aL aZ _ h1 dstate dplace dplaces dhold dsteps dbeam dob doc) (cwV 0 hts (gV w_589 w_590 w_591 w_45 w_592) rfl rfl rfl (by decide +kernel) ⟨Nat.le_of_ble_eq_true rfl, Nat.le_of_ble_eq_true rfl⟩) (prev_of hK hP hD hS hA hE [1] rfl (by decide) (ci := 2) rfl 1 rfl _) rfl rfl hl.1 rfl (lv_room (Nat.le_of_ble_eq_true rfl)) dX1_land_20 ⟨Nat.le_of_ble_eq_true rfl, Nat.le_of_ble_eq_true rfl⟩) hP hD hS hA rfl rfl (by decide) (by decide) (fun u_ H locs hw_7 hP hD hS => ?_)
      obtain ⟨x_3, x_4, x_5, x_6⟩ := u_
      have hw_7 : F_openForLanding dstate dsteps dob doc = (x_3, x_4, x_5, x_6) := hw_7
      have hG := hG.trans (cb_e hw_7)
      have hP : va_P D vwCl [(h0, .inr (1, [.int wayToOther, .ref h1, .ref h2, .int place, .int speed, .int way, .int topSpeed, .int gain, .int brake, .int darkSpeed, .int rideSpeed, .int kilos, .int mostKilos, .int openContacts, .int fireFloor, .int ride, .int starts, .int distance, .int hardFalls])), (h2, .inr (0, [.ref h3, .int ccount, .int cover])), (h3, .inl (aI, 8, .inl cf)), (h1, .inr (2, [.int x_3, .int dplace, .int dplaces, .int dhold, .int x_4, .int dbeam, .int x_5, .int x_6]))] H := hP
      have hD : va_D A [(h0, .inr (1, [.int wayToOther, .ref h1, .ref h2, .int place, .int speed, .int way, .int topSpeed, .int gain, .int brake, .int darkSpeed, .int rideSpeed, .int kilos, .int mostKilos, .int openContacts, .int fireFloor, .int ride, .int starts, .int distance, .int hardFalls])), (h2, .inr (0, [.ref h3, .int ccount, .int cover])), (h3, .inl (aI, 8, .inl cf)), (h1, .inr (2, [.int x_3, .int dplace, .int dplaces, .int dhold, .int x_4, .int dbeam, .int x_5, .int x_6]))] := hD
      have hP := hP.sub (ws' := [(h0, .inr (1, [.int wayToOther, .ref h1, .ref h2, .int place, .int speed, .int way, .int topSpeed, .int gain, .int brake, .int darkSpeed, .int rideSpeed, .int kilos, .int mostKilos, .int openContacts, .int fireFloor, .int ride, .int starts, .int distance, .int hardFalls])), (h1, .inr (2, [.int x_3, .int dplace, .int dplaces, .int dhold, .int x_4, .int dbeam, .int x_5, .int x_6])), (h2, .inr (0, [.ref h3, .int ccount, .int cover])), (h3, .inl (aI, 8, .inl cf))]) [0, 3, 1, 2] rfl
      have hD := hD.sub (ws' := [(h0, .inr (1, [.int wayToOther, .ref h1, .ref h2, .int place, .int speed, .int way, .int topSpeed, .int gain, .int brake, .int darkSpeed, .int rideSpeed, .int kilos, .int mostKilos, .int openContacts, .int fireFloor, .int ride, .int starts, .int distance, .int hardFalls])), (h1, .inr (2, [.int x_3, .int dplace, .int dplaces, .int dhold, .int x_4, .int dbeam, .int x_5, .int x_6])), (h2, .inr (0, [.ref h3, .int ccount, .int cover])), (h3, .inl (aI, 8, .inl cf))]) [0, 3, 1, 2] (by decide) rfl
      exact rt_v hQ hx hb hr (x_3, x_4, x_5, x_6, ccount, cover, cf) hG hP hD hS (Nat.le_of_ble_eq_true rfl) (Nat.le_of_ble_eq_true rfl) dX1_land_23 hlk
  · have hG := hG.trans (if_pos c_1)
    refine lv_aload_n hx hb dX1_land_4 rfl (lv_at hl 0 rfl) ?_
    refine va_get (D := D) (ci := 1) (v := .ref h2) (C := RX1) (T := TX1) (N := 19) hx hb hts inX1 hown hK hP 0 rfl rfl 2 (by decide) (hts _ (mG w_304)) (fun _ h9 => h9) rfl dX1_land_5 ?_
    refine my_v (wr := [(h0, .inr (1, [.int wayToOther, .ref h1, .ref h2, .int place, .int speed, .int way, .int topSpeed, .int gain, .int brake, .int darkSpeed, .int rideSpeed, .int kilos, .int mostKilos, .int openContacts, .int fireFloor, .int ride, .int starts, .int distance, .int hardFalls])), (h1, .inr (2, [.int dstate, .int dplace, .int dplaces, .int dhold, .int dsteps, .int dbeam, .int dob, .int doc]))]) [2, 3] [0, 1] (va_runV (As := []) (rest := []) ⟨hx, hb, hml, hown, hts⟩ (c_endFirst l D aI aL aZ _ h2 h3 ccount cover cf) (cwV 0 hts (gV w_585 w_586 w_587 w_46 w_588) rfl rfl rfl (by decide +kernel) ⟨Nat.le_of_ble_eq_true rfl, Nat.le_of_ble_eq_true rfl⟩) (prev_of hK hP hD hS hA hE [2, 3] rfl (by decide) (ci := 0) rfl 2 rfl _) rfl rfl hl.1 rfl (lv_room (Nat.le_of_ble_eq_true rfl)) dX1_land_8 ⟨Nat.le_of_ble_eq_true rfl, Nat.le_of_ble_eq_true rfl⟩) hP hD hS hA rfl rfl (by decide) (by decide) (fun u_ H locs hw_11 hP hD hS => ?_)
    obtain ⟨x_8, x_9, x_10⟩ := u_
    have hw_11 : F_endFirst ccount cover cf = (x_8, x_9, x_10) := hw_11
    have hG := hG.trans (cb_e hw_11)
    have hP : va_P D vwCl [(h0, .inr (1, [.int wayToOther, .ref h1, .ref h2, .int place, .int speed, .int way, .int topSpeed, .int gain, .int brake, .int darkSpeed, .int rideSpeed, .int kilos, .int mostKilos, .int openContacts, .int fireFloor, .int ride, .int starts, .int distance, .int hardFalls])), (h1, .inr (2, [.int dstate, .int dplace, .int dplaces, .int dhold, .int dsteps, .int dbeam, .int dob, .int doc])), (h2, .inr (0, [.ref h3, .int x_8, .int x_9])), (h3, .inl (aI, 8, .inl x_10))] H := hP
    have hD : va_D A [(h0, .inr (1, [.int wayToOther, .ref h1, .ref h2, .int place, .int speed, .int way, .int topSpeed, .int gain, .int brake, .int darkSpeed, .int rideSpeed, .int kilos, .int mostKilos, .int openContacts, .int fireFloor, .int ride, .int starts, .int distance, .int hardFalls])), (h1, .inr (2, [.int dstate, .int dplace, .int dplaces, .int dhold, .int dsteps, .int dbeam, .int dob, .int doc])), (h2, .inr (0, [.ref h3, .int x_8, .int x_9])), (h3, .inl (aI, 8, .inl x_10))] := hD
    refine lv_iload_n hx hb dX1_land_11 rfl (lv_at hl 1 rfl) ?_
    refine lv_iconst (v := 4) hx hb dX1_land_12 (by decide) ?_
    refine lv_icmp_eq (tgt := 23) hx hb dX1_land_13 (by decide) (fun c_12 => ?_) (fun c_12 => ?_)
    · have hG := hG.trans (if_pos c_12)
      have hP := hP.sub (ws' := [(h0, .inr (1, [.int wayToOther, .ref h1, .ref h2, .int place, .int speed, .int way, .int topSpeed, .int gain, .int brake, .int darkSpeed, .int rideSpeed, .int kilos, .int mostKilos, .int openContacts, .int fireFloor, .int ride, .int starts, .int distance, .int hardFalls])), (h1, .inr (2, [.int dstate, .int dplace, .int dplaces, .int dhold, .int dsteps, .int dbeam, .int dob, .int doc])), (h2, .inr (0, [.ref h3, .int x_8, .int x_9])), (h3, .inl (aI, 8, .inl x_10))]) [0, 1, 2, 3] rfl
      have hD := hD.sub (ws' := [(h0, .inr (1, [.int wayToOther, .ref h1, .ref h2, .int place, .int speed, .int way, .int topSpeed, .int gain, .int brake, .int darkSpeed, .int rideSpeed, .int kilos, .int mostKilos, .int openContacts, .int fireFloor, .int ride, .int starts, .int distance, .int hardFalls])), (h1, .inr (2, [.int dstate, .int dplace, .int dplaces, .int dhold, .int dsteps, .int dbeam, .int dob, .int doc])), (h2, .inr (0, [.ref h3, .int x_8, .int x_9])), (h3, .inl (aI, 8, .inl x_10))]) [0, 1, 2, 3] (by decide) rfl
      exact rt_v hQ hx hb hr (dstate, dsteps, dob, doc, x_8, x_9, x_10) hG hP hD hS (Nat.le_of_ble_eq_true rfl) (Nat.le_of_ble_eq_true rfl) dX1_land_23 hlk
    · have hG := hG.trans (if_neg c_12)
      refine lv_aload_n hx hb dX1_land_16 rfl (lv_at hl 0 rfl) ?_
      refine va_get (D := D) (ci := 1) (v := .ref h1) (C := RX1) (T := TX1) (N := 19) hx hb hts inX1 hown hK hP 0 rfl rfl 1 (by decide) (hts _ (mG w_302)) (fun _ h9 => h9) rfl dX1_land_17 ?_
      refine my_v (wr := [(h0, .inr (1, [.int wayToOther, .ref h1, .ref h2, .int place, .int speed, .int way, .int topSpeed, .int gain, .int brake, .int darkSpeed, .int rideSpeed, .int kilos, .int mostKilos, .int openContacts, .int fireFloor, .int ride, .int starts, .int distance, .int hardFalls])), (h2, .inr (0, [.ref h3, .int x_8, .int x_9])), (h3, .inl (aI, 8, .inl x_10))]) [1] [0, 2, 3] (va_runV (As := []) (rest := []) ⟨hx, hb, hml, hown, hts⟩ (c_openForLanding l D aI aL aZ _ h1 dstate dplace dplaces dhold dsteps dbeam dob doc) (cwV 0 hts (gV w_589 w_590 w_591 w_45 w_592) rfl rfl rfl (by decide +kernel) ⟨Nat.le_of_ble_eq_true rfl, Nat.le_of_ble_eq_true rfl⟩) (prev_of hK hP hD hS hA hE [1] rfl (by decide) (ci := 2) rfl 1 rfl _) rfl rfl hl.1 rfl (lv_room (Nat.le_of_ble_eq_true rfl)) dX1_land_20 ⟨Nat.le_of_ble_eq_true rfl, Nat.le_of_ble_eq_true rfl⟩) hP hD hS hA rfl rfl (by decide) (by decide) (fun u_ H locs hw_17 hP hD hS => ?_)
      obtain ⟨x_13, x_14, x_15, x_16⟩ := u_
      have hw_17 : F_openForLanding dstate dsteps dob doc = (x_13, x_14, x_15, x_16) := hw_17
      have hG := hG.trans (cb_e hw_17)
      have hP : va_P D vwCl [(h0, .inr (1, [.int wayToOther, .ref h1, .ref h2, .int place, .int speed, .int way, .int topSpeed, .int gain, .int brake, .int darkSpeed, .int rideSpeed, .int kilos, .int mostKilos, .int openContacts, .int fireFloor, .int ride, .int starts, .int distance, .int hardFalls])), (h2, .inr (0, [.ref h3, .int x_8, .int x_9])), (h3, .inl (aI, 8, .inl x_10)), (h1, .inr (2, [.int x_13, .int dplace, .int dplaces, .int dhold, .int x_14, .int dbeam, .int x_15, .int x_16]))] H := hP
      have hD : va_D A [(h0, .inr (1, [.int wayToOther, .ref h1, .ref h2, .int place, .int speed, .int way, .int topSpeed, .int gain, .int brake, .int darkSpeed, .int rideSpeed, .int kilos, .int mostKilos, .int openContacts, .int fireFloor, .int ride, .int starts, .int distance, .int hardFalls])), (h2, .inr (0, [.ref h3, .int x_8, .int x_9])), (h3, .inl (aI, 8, .inl x_10)), (h1, .inr (2, [.int x_13, .int dplace, .int dplaces, .int dhold, .int x_14, .int dbeam, .int x_15, .int x_16]))] := hD
      have hP := hP.sub (ws' := [(h0, .inr (1, [.int wayToOther, .ref h1, .ref h2, .int place, .int speed, .int way, .int topSpeed, .int gain, .int brake, .int darkSpeed, .int rideSpeed, .int kilos, .int mostKilos, .int openContacts, .int fireFloor, .int ride, .int starts, .int distance, .int hardFalls])), (h1, .inr (2, [.int x_13, .int dplace, .int dplaces, .int dhold, .int x_14, .int dbeam, .int x_15, .int x_16])), (h2, .inr (0, [.ref h3, .int x_8, .int x_9])), (h3, .inl (aI, 8, .inl x_10))]) [0, 3, 1, 2] rfl
      have hD := hD.sub (ws' := [(h0, .inr (1, [.int wayToOther, .ref h1, .ref h2, .int place, .int speed, .int way, .int topSpeed, .int gain, .int brake, .int darkSpeed, .int rideSpeed, .int kilos, .int mostKilos, .int openContacts, .int fireFloor, .int ride, .int starts, .int distance, .int hardFalls])), (h1, .inr (2, [.int x_13, .int dplace, .int dplaces, .int dhold, .int x_14, .int dbeam, .int x_15, .int x_16])), (h2, .inr (0, [.ref h3, .int x_8, .int x_9])), (h3, .inl (aI, 8, .inl x_10))]) [0, 3, 1, 2] (by decide) rfl
      exact rt_v hQ hx hb hr (x_13, x_14, x_15, x_16, x_8, x_9, x_10) hG hP hD hS (Nat.le_of_ble_eq_true rfl) (Nat.le_of_ble_eq_true rfl) dX1_land_23 hlk
theorem dX1_wantedPlace_0 : decode cX1_wantedPlace 0 = .ok (.iload_n 1, 1) := by decide +kernel
theorem dX1_wantedPlace_1 : decode cX1_wantedPlace 1 = .ok (.tableswitch 102 0 4 #[35, 102, 56, 47, 65], 35) := by decide +kernel
theorem dX1_wantedPlace_36 : decode cX1_wantedPlace 36 = .ok (.aload_n 2, 1) := by decide +kernel
theorem dX1_wantedPlace_37 : decode cX1_wantedPlace 37 = .ok (.aload_n 0, 1) := by decide +kernel
theorem dX1_wantedPlace_38 : decode cX1_wantedPlace 38 = .ok (.getfield 21, 3) := by decide +kernel
theorem dX1_wantedPlace_41 : decode cX1_wantedPlace 41 = .ok (.invokevirtual 62, 3) := by decide +kernel
theorem dX1_wantedPlace_44 : decode cX1_wantedPlace 44 = .ok (.invokevirtual 66, 3) := by decide +kernel
theorem dX1_wantedPlace_47 : decode cX1_wantedPlace 47 = .ok (.ireturn, 1) := by decide +kernel
theorem dX1_wantedPlace_48 : decode cX1_wantedPlace 48 = .ok (.aload_n 2, 1) := by decide +kernel
theorem dX1_wantedPlace_49 : decode cX1_wantedPlace 49 = .ok (.aload_n 0, 1) := by decide +kernel
theorem dX1_wantedPlace_50 : decode cX1_wantedPlace 50 = .ok (.getfield 44, 3) := by decide +kernel
theorem dX1_wantedPlace_53 : decode cX1_wantedPlace 53 = .ok (.invokevirtual 66, 3) := by decide +kernel
theorem dX1_wantedPlace_56 : decode cX1_wantedPlace 56 = .ok (.ireturn, 1) := by decide +kernel
theorem dX1_wantedPlace_57 : decode cX1_wantedPlace 57 = .ok (.aload_n 2, 1) := by decide +kernel
theorem dX1_wantedPlace_58 : decode cX1_wantedPlace 58 = .ok (.aload_n 0, 1) := by decide +kernel
theorem dX1_wantedPlace_59 : decode cX1_wantedPlace 59 = .ok (.getfield 50, 3) := by decide +kernel
theorem dX1_wantedPlace_62 : decode cX1_wantedPlace 62 = .ok (.invokevirtual 72, 3) := by decide +kernel
theorem dX1_wantedPlace_65 : decode cX1_wantedPlace 65 = .ok (.ireturn, 1) := by decide +kernel
theorem dX1_wantedPlace_66 : decode cX1_wantedPlace 66 = .ok (.aload_n 0, 1) := by decide +kernel
theorem dX1_wantedPlace_67 : decode cX1_wantedPlace 67 = .ok (.getfield 47, 3) := by decide +kernel
theorem dX1_wantedPlace_70 : decode cX1_wantedPlace 70 = .ok (.iconst 1, 1) := by decide +kernel
theorem dX1_wantedPlace_71 : decode cX1_wantedPlace 71 = .ok (.if_icmp .ne 14, 3) := by decide +kernel
theorem dX1_wantedPlace_74 : decode cX1_wantedPlace 74 = .ok (.aload_n 2, 1) := by decide +kernel
theorem dX1_wantedPlace_75 : decode cX1_wantedPlace 75 = .ok (.aload_n 2, 1) := by decide +kernel
theorem dX1_wantedPlace_76 : decode cX1_wantedPlace 76 = .ok (.invokevirtual 75, 3) := by decide +kernel
theorem dX1_wantedPlace_79 : decode cX1_wantedPlace 79 = .ok (.invokevirtual 66, 3) := by decide +kernel
theorem dX1_wantedPlace_82 : decode cX1_wantedPlace 82 = .ok (.goto 20, 3) := by decide +kernel
theorem dX1_wantedPlace_85 : decode cX1_wantedPlace 85 = .ok (.aload_n 0, 1) := by decide +kernel
theorem dX1_wantedPlace_86 : decode cX1_wantedPlace 86 = .ok (.getfield 47, 3) := by decide +kernel
theorem dX1_wantedPlace_89 : decode cX1_wantedPlace 89 = .ok (.iconst (-1), 1) := by decide +kernel
theorem dX1_wantedPlace_90 : decode cX1_wantedPlace 90 = .ok (.if_icmp .ne 11, 3) := by decide +kernel
theorem dX1_wantedPlace_93 : decode cX1_wantedPlace 93 = .ok (.aload_n 2, 1) := by decide +kernel
theorem dX1_wantedPlace_94 : decode cX1_wantedPlace 94 = .ok (.iconst 0, 1) := by decide +kernel
theorem dX1_wantedPlace_95 : decode cX1_wantedPlace 95 = .ok (.invokevirtual 66, 3) := by decide +kernel
theorem dX1_wantedPlace_98 : decode cX1_wantedPlace 98 = .ok (.goto 4, 3) := by decide +kernel
theorem dX1_wantedPlace_101 : decode cX1_wantedPlace 101 = .ok (.iconst (-1), 1) := by decide +kernel
theorem dX1_wantedPlace_102 : decode cX1_wantedPlace 102 = .ok (.ireturn, 1) := by decide +kernel
theorem dX1_wantedPlace_103 : decode cX1_wantedPlace 103 = .ok (.iconst (-1), 1) := by decide +kernel
theorem dX1_wantedPlace_104 : decode cX1_wantedPlace 104 = .ok (.ireturn, 1) := by decide +kernel
def F_wantedPlace (place : Int32) (fireFloor : Int32) (ride : Int32) (ccount : Int32) (cf : Nat → Int32) (n : Nat) (pf : Nat → Int32) (p0 : Int32) : Int32 :=
  if p0 = 0 then
    cb (F_firstFloor ccount cf) fun r_2 =>
      cb (F_placeOf n pf r_2) fun r_4 =>
        r_4
  else
    if p0 = 1 then
      (-1)
    else
      if p0 = 2 then
        cb (F_nearestPlace n pf place) fun r_8 =>
          r_8
      else
        if p0 = 3 then
          cb (F_placeOf n pf fireFloor) fun r_11 =>
            r_11
        else
          if p0 = 4 then
            if ride = 1 then
              cb (F_topFloor n) fun r_18 =>
                cb (F_placeOf n pf r_18) fun r_20 =>
                  r_20
            else
              if ride = (-1) then
                cb (F_placeOf n pf 0) fun r_16 =>
                  r_16
              else
                (-1)
          else
            (-1)
theorem F_wantedPlace_u (place : Int32) (fireFloor : Int32) (ride : Int32) (ccount : Int32) (cf : Nat → Int32) (n : Nat) (pf : Nat → Int32) (p0 : Int32) : F_wantedPlace place fireFloor ride ccount cf n pf p0 =
  (if p0 = 0 then
    cb (F_firstFloor ccount cf) fun r_2 =>
      cb (F_placeOf n pf r_2) fun r_4 =>
        r_4
  else
    if p0 = 1 then
      (-1)
    else
      if p0 = 2 then
        cb (F_nearestPlace n pf place) fun r_8 =>
          r_8
      else
        if p0 = 3 then
          cb (F_placeOf n pf fireFloor) fun r_11 =>
            r_11
        else
          if p0 = 4 then
            if ride = 1 then
              cb (F_topFloor n) fun r_18 =>
                cb (F_placeOf n pf r_18) fun r_20 =>
                  r_20
            else
              if ride = (-1) then
                cb (F_placeOf n pf 0) fun r_16 =>
                  r_16
              else
                (-1)
          else
            (-1)) := rfl
set_option maxHeartbeats 4000000 in
set_option maxRecDepth 100000 in
theorem c_wantedPlace (l : Launch) (D : va_G) (aI aL aZ : ClassId) (sz : Nat) (h0 : Nat) (h1 : Nat) (h2 : Nat) (wayToOther : Int32) (place : Int32) (speed : Int32) (way : Int32) (topSpeed : Int32) (gain : Int32) (brake : Int32) (darkSpeed : Int32) (rideSpeed : Int32) (kilos : Int32) (mostKilos : Int32) (openContacts : Int32) (fireFloor : Int32) (ride : Int32) (starts : Int32) (distance : Int32) (hardFalls : Int32) (h3 : Nat) (h4 : Nat) (h5 : Nat) (ccount : Int32) (cover : Int32) (cf : Nat → Int32) (gap : Int32) (n : Nat) (pf : Nat → Int32) (p0 : Int32) (hn : n < 2 ^ 31) (hn1 : 1 ≤ n) : Met l yX1_wantedPlace (.code yX1_wantedPlace cX1_wantedPlace 3 (some .int) :: Gw) ({ frames := 3, cells := 0, slots := 0, locals := 65 }) (va_Pc [.ref h0, .int p0, .ref h4] (mpre D [(aI, .int), (aL, .long), (aZ, .boolean)] [(h0, .inr (1, [.int wayToOther, .ref h1, .ref h2, .int place, .int speed, .int way, .int topSpeed, .int gain, .int brake, .int darkSpeed, .int rideSpeed, .int kilos, .int mostKilos, .int openContacts, .int fireFloor, .int ride, .int starts, .int distance, .int hardFalls])), (h2, .inr (0, [.ref h3, .int ccount, .int cover])), (h3, .inl (aI, 8, .inl cf)), (h4, .inr (3, [.ref h5, .int gap])), (h5, .inl (aI, n, .inl pf))] sz)) ((fun A : Nat → Prop => va_Qi (fun (r : Int32) (u : Unit) => F_wantedPlace place fireFloor ride ccount cf n pf p0 = r) (mpst D A (fun (u : Unit) => [(h0, .inr (1, [.int wayToOther, .ref h1, .ref h2, .int place, .int speed, .int way, .int topSpeed, .int gain, .int brake, .int darkSpeed, .int rideSpeed, .int kilos, .int mostKilos, .int openContacts, .int fireFloor, .int ride, .int starts, .int distance, .int hardFalls])), (h2, .inr (0, [.ref h3, .int ccount, .int cover])), (h3, .inl (aI, 8, .inl cf)), (h4, .inr (3, [.ref h5, .int gap])), (h5, .inl (aI, n, .inl pf))])) A) (va_A ([(h0, .inr (1, [.int wayToOther, .ref h1, .ref h2, .int place, .int speed, .int way, .int topSpeed, .int gain, .int brake, .int darkSpeed, .int rideSpeed, .int kilos, .int mostKilos, .int openContacts, .int fireFloor, .int ride, .int starts, .int distance, .int hardFalls])), (h2, .inr (0, [.ref h3, .int ccount, .int cover])), (h3, .inl (aI, 8, .inl cf)), (h4, .inr (3, [.ref h5, .int gap])), (h5, .inl (aI, n, .inl pf))]) sz)) 0 0 (va_A ([(h0, .inr (1, [.int wayToOther, .ref h1, .ref h2, .int place, .int speed, .int way, .int topSpeed, .int gain, .int brake, .int darkSpeed, .int rideSpeed, .int kilos, .int mostKilos, .int openContacts, .int fireFloor, .int ride, .int starts, .int distance, .int hardFalls])), (h2, .inr (0, [.ref h3, .int ccount, .int cover])), (h3, .inl (aI, 8, .inl cf)), (h4, .inr (3, [.ref h5, .int gap])), (h5, .inl (aI, n, .inl pf))]) sz) := by
  refine en (cc := cX1_wantedPlace) (maxL := 3) (ret := (some .int)) (Qc := (fun A : Nat → Prop => va_Qi (fun (r : Int32) (u : Unit) => F_wantedPlace place fireFloor ride ccount cf n pf p0 = r) (mpst D A (fun (u : Unit) => [(h0, .inr (1, [.int wayToOther, .ref h1, .ref h2, .int place, .int speed, .int way, .int topSpeed, .int gain, .int brake, .int darkSpeed, .int rideSpeed, .int kilos, .int mostKilos, .int openContacts, .int fireFloor, .int ride, .int starts, .int distance, .int hardFalls])), (h2, .inr (0, [.ref h3, .int ccount, .int cover])), (h3, .inl (aI, 8, .inl cf)), (h4, .inr (3, [.ref h5, .int gap])), (h5, .inl (aI, n, .inl pf))])) A)) (by decide) rfl (Nat.le_of_ble_eq_true rfl) ?_
  intro p e s m args below meth c A ls Q hQ hx hb hr hts hown hlk hnm hml hA hS hP hK hD hE hl
  have hown : s.vm.findClass RX1 = some m.cls := hown
  have hl : lv_has ls 3 [(0, .ref h0), (1, .int p0), (2, .ref h4)] := hl
  have hG := F_wantedPlace_u place fireFloor ride ccount cf n pf p0
  refine lv_iload_n hx hb dX1_wantedPlace_0 rfl (lv_at hl 1 rfl) ?_
  by_cases c_1 : p0 = 0
  · have hG := hG.trans (if_pos c_1)
    refine lv_tableIn (off := 35) (tgt := 36) hx hb dX1_wantedPlace_1 (by rw [c_1]; decide) (by rw [c_1]; decide) (by rw [c_1]; rfl) (by decide) ?_
    refine lv_aload_n hx hb dX1_wantedPlace_36 rfl (lv_at hl 2 rfl) ?_
    refine lv_aload_n hx hb dX1_wantedPlace_37 rfl (lv_at hl 0 rfl) ?_
    refine va_get (D := D) (ci := 1) (v := .ref h2) (C := RX1) (T := TX1) (N := 19) hx hb hts inX1 hown hK hP 0 rfl rfl 2 (by decide) (hts _ (mG w_304)) (fun _ h9 => h9) rfl dX1_wantedPlace_38 ?_
    refine my_i (wr := [(h0, .inr (1, [.int wayToOther, .ref h1, .ref h2, .int place, .int speed, .int way, .int topSpeed, .int gain, .int brake, .int darkSpeed, .int rideSpeed, .int kilos, .int mostKilos, .int openContacts, .int fireFloor, .int ride, .int starts, .int distance, .int hardFalls])), (h4, .inr (3, [.ref h5, .int gap])), (h5, .inl (aI, n, .inl pf))]) [1, 2] [0, 3, 4] (va_runV (As := []) (rest := [.ref h4]) ⟨hx, hb, hml, hown, hts⟩ (c_firstFloor l D aI aL aZ _ h2 h3 ccount cover cf) (cwV 0 hts (gV w_515 w_516 w_517 w_46 w_518) rfl rfl rfl (by decide +kernel) ⟨Nat.le_of_ble_eq_true rfl, Nat.le_of_ble_eq_true rfl⟩) (prev_of hK hP hD hS hA hE [1, 2] rfl (by decide) (ci := 0) rfl 1 rfl _) rfl rfl hl.1 rfl (lv_room (Nat.le_of_ble_eq_true rfl)) dX1_wantedPlace_41 ⟨Nat.le_of_ble_eq_true rfl, Nat.le_of_ble_eq_true rfl⟩) hP hD hS hA rfl rfl (by decide) (by decide) (fun r_2 u_ H locs hw_3 hP hD hS => ?_)
    have hw_3 : F_firstFloor ccount cf = r_2 := hw_3
    have hG := hG.trans (cb_e hw_3)
    have hP : va_P D vwCl [(h0, .inr (1, [.int wayToOther, .ref h1, .ref h2, .int place, .int speed, .int way, .int topSpeed, .int gain, .int brake, .int darkSpeed, .int rideSpeed, .int kilos, .int mostKilos, .int openContacts, .int fireFloor, .int ride, .int starts, .int distance, .int hardFalls])), (h4, .inr (3, [.ref h5, .int gap])), (h5, .inl (aI, n, .inl pf)), (h2, .inr (0, [.ref h3, .int ccount, .int cover])), (h3, .inl (aI, 8, .inl cf))] H := hP
    have hD : va_D A [(h0, .inr (1, [.int wayToOther, .ref h1, .ref h2, .int place, .int speed, .int way, .int topSpeed, .int gain, .int brake, .int darkSpeed, .int rideSpeed, .int kilos, .int mostKilos, .int openContacts, .int fireFloor, .int ride, .int starts, .int distance, .int hardFalls])), (h4, .inr (3, [.ref h5, .int gap])), (h5, .inl (aI, n, .inl pf)), (h2, .inr (0, [.ref h3, .int ccount, .int cover])), (h3, .inl (aI, 8, .inl cf))] := hD
    refine my_i (wr := [(h0, .inr (1, [.int wayToOther, .ref h1, .ref h2, .int place, .int speed, .int way, .int topSpeed, .int gain, .int brake, .int darkSpeed, .int rideSpeed, .int kilos, .int mostKilos, .int openContacts, .int fireFloor, .int ride, .int starts, .int distance, .int hardFalls])), (h2, .inr (0, [.ref h3, .int ccount, .int cover])), (h3, .inl (aI, 8, .inl cf))]) [1, 2] [0, 3, 4] (va_runV (As := [.int r_2]) (rest := []) ⟨hx, hb, hml, hown, hts⟩ (c_placeOf l D aI aL aZ _ h4 h5 gap n pf r_2 hn) (cwV 1 hts (gV w_519 w_215 w_216 w_36 w_217) rfl rfl rfl (by decide +kernel) ⟨Nat.le_of_ble_eq_true rfl, Nat.le_of_ble_eq_true rfl⟩) (prev_of hK hP hD hS hA hE [1, 2] rfl (by decide) (ci := 3) rfl 1 rfl _) rfl rfl hl.1 rfl (lv_room (Nat.le_of_ble_eq_true rfl)) dX1_wantedPlace_44 ⟨Nat.le_of_ble_eq_true rfl, Nat.le_of_ble_eq_true rfl⟩) hP hD hS hA rfl rfl (by decide) (by decide) (fun r_4 u_ H locs hw_5 hP hD hS => ?_)
    have hw_5 : F_placeOf n pf r_2 = r_4 := hw_5
    have hG := hG.trans (cb_e hw_5)
    have hP : va_P D vwCl [(h0, .inr (1, [.int wayToOther, .ref h1, .ref h2, .int place, .int speed, .int way, .int topSpeed, .int gain, .int brake, .int darkSpeed, .int rideSpeed, .int kilos, .int mostKilos, .int openContacts, .int fireFloor, .int ride, .int starts, .int distance, .int hardFalls])), (h2, .inr (0, [.ref h3, .int ccount, .int cover])), (h3, .inl (aI, 8, .inl cf)), (h4, .inr (3, [.ref h5, .int gap])), (h5, .inl (aI, n, .inl pf))] H := hP
    have hD : va_D A [(h0, .inr (1, [.int wayToOther, .ref h1, .ref h2, .int place, .int speed, .int way, .int topSpeed, .int gain, .int brake, .int darkSpeed, .int rideSpeed, .int kilos, .int mostKilos, .int openContacts, .int fireFloor, .int ride, .int starts, .int distance, .int hardFalls])), (h2, .inr (0, [.ref h3, .int ccount, .int cover])), (h3, .inl (aI, 8, .inl cf)), (h4, .inr (3, [.ref h5, .int gap])), (h5, .inl (aI, n, .inl pf))] := hD
    have hP := hP.sub (ws' := [(h0, .inr (1, [.int wayToOther, .ref h1, .ref h2, .int place, .int speed, .int way, .int topSpeed, .int gain, .int brake, .int darkSpeed, .int rideSpeed, .int kilos, .int mostKilos, .int openContacts, .int fireFloor, .int ride, .int starts, .int distance, .int hardFalls])), (h2, .inr (0, [.ref h3, .int ccount, .int cover])), (h3, .inl (aI, 8, .inl cf)), (h4, .inr (3, [.ref h5, .int gap])), (h5, .inl (aI, n, .inl pf))]) [0, 1, 2, 3, 4] rfl
    have hD := hD.sub (ws' := [(h0, .inr (1, [.int wayToOther, .ref h1, .ref h2, .int place, .int speed, .int way, .int topSpeed, .int gain, .int brake, .int darkSpeed, .int rideSpeed, .int kilos, .int mostKilos, .int openContacts, .int fireFloor, .int ride, .int starts, .int distance, .int hardFalls])), (h2, .inr (0, [.ref h3, .int ccount, .int cover])), (h3, .inl (aI, 8, .inl cf)), (h4, .inr (3, [.ref h5, .int gap])), (h5, .inl (aI, n, .inl pf))]) [0, 1, 2, 3, 4] (by decide) rfl
    exact rt_i hQ hx hb hr () hG hP hD hS (Nat.le_of_ble_eq_true rfl) (Nat.le_of_ble_eq_true rfl) dX1_wantedPlace_47 hlk
  · have hG := hG.trans (if_neg c_1)
    by_cases c_6 : p0 = 1
    · have hG := hG.trans (if_pos c_6)
      refine lv_tableIn (off := 102) (tgt := 103) hx hb dX1_wantedPlace_1 (by rw [c_6]; decide) (by rw [c_6]; decide) (by rw [c_6]; rfl) (by decide) ?_
      refine lv_iconst (v := (-1)) hx hb dX1_wantedPlace_103 (by decide) ?_
      have hP := hP.sub (ws' := [(h0, .inr (1, [.int wayToOther, .ref h1, .ref h2, .int place, .int speed, .int way, .int topSpeed, .int gain, .int brake, .int darkSpeed, .int rideSpeed, .int kilos, .int mostKilos, .int openContacts, .int fireFloor, .int ride, .int starts, .int distance, .int hardFalls])), (h2, .inr (0, [.ref h3, .int ccount, .int cover])), (h3, .inl (aI, 8, .inl cf)), (h4, .inr (3, [.ref h5, .int gap])), (h5, .inl (aI, n, .inl pf))]) [0, 1, 2, 3, 4] rfl
      have hD := hD.sub (ws' := [(h0, .inr (1, [.int wayToOther, .ref h1, .ref h2, .int place, .int speed, .int way, .int topSpeed, .int gain, .int brake, .int darkSpeed, .int rideSpeed, .int kilos, .int mostKilos, .int openContacts, .int fireFloor, .int ride, .int starts, .int distance, .int hardFalls])), (h2, .inr (0, [.ref h3, .int ccount, .int cover])), (h3, .inl (aI, 8, .inl cf)), (h4, .inr (3, [.ref h5, .int gap])), (h5, .inl (aI, n, .inl pf))]) [0, 1, 2, 3, 4] (by decide) rfl
      exact rt_i hQ hx hb hr () hG hP hD hS (Nat.le_of_ble_eq_true rfl) (Nat.le_of_ble_eq_true rfl) dX1_wantedPlace_104 hlk
    · have hG := hG.trans (if_neg c_6)
      by_cases c_7 : p0 = 2
      · have hG := hG.trans (if_pos c_7)
        refine lv_tableIn (off := 56) (tgt := 57) hx hb dX1_wantedPlace_1 (by rw [c_7]; decide) (by rw [c_7]; decide) (by rw [c_7]; rfl) (by decide) ?_
        refine lv_aload_n hx hb dX1_wantedPlace_57 rfl (lv_at hl 2 rfl) ?_
        refine lv_aload_n hx hb dX1_wantedPlace_58 rfl (lv_at hl 0 rfl) ?_
        refine va_get (D := D) (ci := 1) (v := .int place) (C := RX1) (T := TX1) (N := 19) hx hb hts inX1 hown hK hP 0 rfl rfl 3 (by decide) (hts _ (mG w_306)) (fun _ h9 => h9) rfl dX1_wantedPlace_59 ?_
        refine my_i (wr := [(h0, .inr (1, [.int wayToOther, .ref h1, .ref h2, .int place, .int speed, .int way, .int topSpeed, .int gain, .int brake, .int darkSpeed, .int rideSpeed, .int kilos, .int mostKilos, .int openContacts, .int fireFloor, .int ride, .int starts, .int distance, .int hardFalls])), (h2, .inr (0, [.ref h3, .int ccount, .int cover])), (h3, .inl (aI, 8, .inl cf))]) [3, 4] [0, 1, 2] (va_runV (As := [.int place]) (rest := []) ⟨hx, hb, hml, hown, hts⟩ (c_nearestPlace l D aI aL aZ _ h4 h5 gap n pf place hn hn1) (cwV 1 hts (gV w_520 w_521 w_522 w_36 w_523) rfl rfl rfl (by decide +kernel) ⟨Nat.le_of_ble_eq_true rfl, Nat.le_of_ble_eq_true rfl⟩) (prev_of hK hP hD hS hA hE [3, 4] rfl (by decide) (ci := 3) rfl 3 rfl _) rfl rfl hl.1 rfl (lv_room (Nat.le_of_ble_eq_true rfl)) dX1_wantedPlace_62 ⟨Nat.le_of_ble_eq_true rfl, Nat.le_of_ble_eq_true rfl⟩) hP hD hS hA rfl rfl (by decide) (by decide) (fun r_8 u_ H locs hw_9 hP hD hS => ?_)
        have hw_9 : F_nearestPlace n pf place = r_8 := hw_9
        have hG := hG.trans (cb_e hw_9)
        have hP : va_P D vwCl [(h0, .inr (1, [.int wayToOther, .ref h1, .ref h2, .int place, .int speed, .int way, .int topSpeed, .int gain, .int brake, .int darkSpeed, .int rideSpeed, .int kilos, .int mostKilos, .int openContacts, .int fireFloor, .int ride, .int starts, .int distance, .int hardFalls])), (h2, .inr (0, [.ref h3, .int ccount, .int cover])), (h3, .inl (aI, 8, .inl cf)), (h4, .inr (3, [.ref h5, .int gap])), (h5, .inl (aI, n, .inl pf))] H := hP
        have hD : va_D A [(h0, .inr (1, [.int wayToOther, .ref h1, .ref h2, .int place, .int speed, .int way, .int topSpeed, .int gain, .int brake, .int darkSpeed, .int rideSpeed, .int kilos, .int mostKilos, .int openContacts, .int fireFloor, .int ride, .int starts, .int distance, .int hardFalls])), (h2, .inr (0, [.ref h3, .int ccount, .int cover])), (h3, .inl (aI, 8, .inl cf)), (h4, .inr (3, [.ref h5, .int gap])), (h5, .inl (aI, n, .inl pf))] := hD
        have hP := hP.sub (ws' := [(h0, .inr (1, [.int wayToOther, .ref h1, .ref h2, .int place, .int speed, .int way, .int topSpeed, .int gain, .int brake, .int darkSpeed, .int rideSpeed, .int kilos, .int mostKilos, .int openContacts, .int fireFloor, .int ride, .int starts, .int distance, .int hardFalls])), (h2, .inr (0, [.ref h3, .int ccount, .int cover])), (h3, .inl (aI, 8, .inl cf)), (h4, .inr (3, [.ref h5, .int gap])), (h5, .inl (aI, n, .inl pf))]) [0, 1, 2, 3, 4] rfl
        have hD := hD.sub (ws' := [(h0, .inr (1, [.int wayToOther, .ref h1, .ref h2, .int place, .int speed, .int way, .int topSpeed, .int gain, .int brake, .int darkSpeed, .int rideSpeed, .int kilos, .int mostKilos, .int openContacts, .int fireFloor, .int ride, .int starts, .int distance, .int hardFalls])), (h2, .inr (0, [.ref h3, .int ccount, .int cover])), (h3, .inl (aI, 8, .inl cf)), (h4, .inr (3, [.ref h5, .int gap])), (h5, .inl (aI, n, .inl pf))]) [0, 1, 2, 3, 4] (by decide) rfl
        exact rt_i hQ hx hb hr () hG hP hD hS (Nat.le_of_ble_eq_true rfl) (Nat.le_of_ble_eq_true rfl) dX1_wantedPlace_65 hlk
      · have hG := hG.trans (if_neg c_7)
        by_cases c_10 : p0 = 3
        · have hG := hG.trans (if_pos c_10)
          refine lv_tableIn (off := 47) (tgt := 48) hx hb dX1_wantedPlace_1 (by rw [c_10]; decide) (by rw [c_10]; decide) (by rw [c_10]; rfl) (by decide) ?_
          refine lv_aload_n hx hb dX1_wantedPlace_48 rfl (lv_at hl 2 rfl) ?_
          refine lv_aload_n hx hb dX1_wantedPlace_49 rfl (lv_at hl 0 rfl) ?_
          refine va_get (D := D) (ci := 1) (v := .int fireFloor) (C := RX1) (T := TX1) (N := 19) hx hb hts inX1 hown hK hP 0 rfl rfl 14 (by decide) (hts _ (mG w_328)) (fun _ h9 => h9) rfl dX1_wantedPlace_50 ?_
          refine my_i (wr := [(h0, .inr (1, [.int wayToOther, .ref h1, .ref h2, .int place, .int speed, .int way, .int topSpeed, .int gain, .int brake, .int darkSpeed, .int rideSpeed, .int kilos, .int mostKilos, .int openContacts, .int fireFloor, .int ride, .int starts, .int distance, .int hardFalls])), (h2, .inr (0, [.ref h3, .int ccount, .int cover])), (h3, .inl (aI, 8, .inl cf))]) [3, 4] [0, 1, 2] (va_runV (As := [.int fireFloor]) (rest := []) ⟨hx, hb, hml, hown, hts⟩ (c_placeOf l D aI aL aZ _ h4 h5 gap n pf fireFloor hn) (cwV 1 hts (gV w_519 w_215 w_216 w_36 w_217) rfl rfl rfl (by decide +kernel) ⟨Nat.le_of_ble_eq_true rfl, Nat.le_of_ble_eq_true rfl⟩) (prev_of hK hP hD hS hA hE [3, 4] rfl (by decide) (ci := 3) rfl 3 rfl _) rfl rfl hl.1 rfl (lv_room (Nat.le_of_ble_eq_true rfl)) dX1_wantedPlace_53 ⟨Nat.le_of_ble_eq_true rfl, Nat.le_of_ble_eq_true rfl⟩) hP hD hS hA rfl rfl (by decide) (by decide) (fun r_11 u_ H locs hw_12 hP hD hS => ?_)
          have hw_12 : F_placeOf n pf fireFloor = r_11 := hw_12
          have hG := hG.trans (cb_e hw_12)
          have hP : va_P D vwCl [(h0, .inr (1, [.int wayToOther, .ref h1, .ref h2, .int place, .int speed, .int way, .int topSpeed, .int gain, .int brake, .int darkSpeed, .int rideSpeed, .int kilos, .int mostKilos, .int openContacts, .int fireFloor, .int ride, .int starts, .int distance, .int hardFalls])), (h2, .inr (0, [.ref h3, .int ccount, .int cover])), (h3, .inl (aI, 8, .inl cf)), (h4, .inr (3, [.ref h5, .int gap])), (h5, .inl (aI, n, .inl pf))] H := hP
          have hD : va_D A [(h0, .inr (1, [.int wayToOther, .ref h1, .ref h2, .int place, .int speed, .int way, .int topSpeed, .int gain, .int brake, .int darkSpeed, .int rideSpeed, .int kilos, .int mostKilos, .int openContacts, .int fireFloor, .int ride, .int starts, .int distance, .int hardFalls])), (h2, .inr (0, [.ref h3, .int ccount, .int cover])), (h3, .inl (aI, 8, .inl cf)), (h4, .inr (3, [.ref h5, .int gap])), (h5, .inl (aI, n, .inl pf))] := hD
          have hP := hP.sub (ws' := [(h0, .inr (1, [.int wayToOther, .ref h1, .ref h2, .int place, .int speed, .int way, .int topSpeed, .int gain, .int brake, .int darkSpeed, .int rideSpeed, .int kilos, .int mostKilos, .int openContacts, .int fireFloor, .int ride, .int starts, .int distance, .int hardFalls])), (h2, .inr (0, [.ref h3, .int ccount, .int cover])), (h3, .inl (aI, 8, .inl cf)), (h4, .inr (3, [.ref h5, .int gap])), (h5, .inl (aI, n, .inl pf))]) [0, 1, 2, 3, 4] rfl
          have hD := hD.sub (ws' := [(h0, .inr (1, [.int wayToOther, .ref h1, .ref h2, .int place, .int speed, .int way, .int topSpeed, .int gain, .int brake, .int darkSpeed, .int rideSpeed, .int kilos, .int mostKilos, .int openContacts, .int fireFloor, .int ride, .int starts, .int distance, .int hardFalls])), (h2, .inr (0, [.ref h3, .int ccount, .int cover])), (h3, .inl (aI, 8, .inl cf)), (h4, .inr (3, [.ref h5, .int gap])), (h5, .inl (aI, n, .inl pf))]) [0, 1, 2, 3, 4] (by decide) rfl
          exact rt_i hQ hx hb hr () hG hP hD hS (Nat.le_of_ble_eq_true rfl) (Nat.le_of_ble_eq_true rfl) dX1_wantedPlace_56 hlk
        · have hG := hG.trans (if_neg c_10)
          by_cases c_13 : p0 = 4
          · have hG := hG.trans (if_pos c_13)
            refine lv_tableIn (off := 65) (tgt := 66) hx hb dX1_wantedPlace_1 (by rw [c_13]; decide) (by rw [c_13]; decide) (by rw [c_13]; rfl) (by decide) ?_
            refine lv_aload_n hx hb dX1_wantedPlace_66 rfl (lv_at hl 0 rfl) ?_
            refine va_get (D := D) (ci := 1) (v := .int ride) (C := RX1) (T := TX1) (N := 19) hx hb hts inX1 hown hK hP 0 rfl rfl 15 (by decide) (hts _ (mG w_330)) (fun _ h9 => h9) rfl dX1_wantedPlace_67 ?_
            refine lv_iconst (v := 1) hx hb dX1_wantedPlace_70 (by decide) ?_
            refine lv_icmp_ne (tgt := 85) hx hb dX1_wantedPlace_71 (by decide) (fun c_14 => ?_) (fun c_14 => ?_)
            · have hG := hG.trans (if_neg c_14)
              refine lv_aload_n hx hb dX1_wantedPlace_85 rfl (lv_at hl 0 rfl) ?_
              refine va_get (D := D) (ci := 1) (v := .int ride) (C := RX1) (T := TX1) (N := 19) hx hb hts inX1 hown hK hP 0 rfl rfl 15 (by decide) (hts _ (mG w_330)) (fun _ h9 => h9) rfl dX1_wantedPlace_86 ?_
              refine lv_iconst (v := (-1)) hx hb dX1_wantedPlace_89 (by decide) ?_
              refine lv_icmp_ne (tgt := 101) hx hb dX1_wantedPlace_90 (by decide) (fun c_15 => ?_) (fun c_15 => ?_)
              · have hG := hG.trans (if_neg c_15)
                refine lv_iconst (v := (-1)) hx hb dX1_wantedPlace_101 (by decide) ?_
                have hP := hP.sub (ws' := [(h0, .inr (1, [.int wayToOther, .ref h1, .ref h2, .int place, .int speed, .int way, .int topSpeed, .int gain, .int brake, .int darkSpeed, .int rideSpeed, .int kilos, .int mostKilos, .int openContacts, .int fireFloor, .int ride, .int starts, .int distance, .int hardFalls])), (h2, .inr (0, [.ref h3, .int ccount, .int cover])), (h3, .inl (aI, 8, .inl cf)), (h4, .inr (3, [.ref h5, .int gap])), (h5, .inl (aI, n, .inl pf))]) [0, 1, 2, 3, 4] rfl
                have hD := hD.sub (ws' := [(h0, .inr (1, [.int wayToOther, .ref h1, .ref h2, .int place, .int speed, .int way, .int topSpeed, .int gain, .int brake, .int darkSpeed, .int rideSpeed, .int kilos, .int mostKilos, .int openContacts, .int fireFloor, .int ride, .int starts, .int distance, .int hardFalls])), (h2, .inr (0, [.ref h3, .int ccount, .int cover])), (h3, .inl (aI, 8, .inl cf)), (h4, .inr (3, [.ref h5, .int gap])), (h5, .inl (aI, n, .inl pf))]) [0, 1, 2, 3, 4] (by decide) rfl
                exact rt_i hQ hx hb hr () hG hP hD hS (Nat.le_of_ble_eq_true rfl) (Nat.le_of_ble_eq_true rfl) dX1_wantedPlace_102 hlk
              · have hG := hG.trans (if_pos c_15)
                refine lv_aload_n hx hb dX1_wantedPlace_93 rfl (lv_at hl 2 rfl) ?_
                refine lv_iconst (v := 0) hx hb dX1_wantedPlace_94 (by decide) ?_
                refine my_i (wr := [(h0, .inr (1, [.int wayToOther, .ref h1, .ref h2, .int place, .int speed, .int way, .int topSpeed, .int gain, .int brake, .int darkSpeed, .int rideSpeed, .int kilos, .int mostKilos, .int openContacts, .int fireFloor, .int ride, .int starts, .int distance, .int hardFalls])), (h2, .inr (0, [.ref h3, .int ccount, .int cover])), (h3, .inl (aI, 8, .inl cf))]) [3, 4] [0, 1, 2] (va_runV (As := [.int 0]) (rest := []) ⟨hx, hb, hml, hown, hts⟩ (c_placeOf l D aI aL aZ _ h4 h5 gap n pf 0 hn) (cwV 1 hts (gV w_519 w_215 w_216 w_36 w_217) rfl rfl rfl (by decide +kernel) ⟨Nat.le_of_ble_eq_true rfl, Nat.le_of_ble_eq_true rfl⟩) (prev_of hK hP hD hS hA hE [3, 4] rfl (by decide) (ci := 3) rfl 3 rfl _) rfl rfl hl.1 rfl (lv_room (Nat.le_of_ble_eq_true rfl)) dX1_wantedPlace_95 ⟨Nat.le_of_ble_eq_true rfl, Nat.le_of_ble_eq_true rfl⟩) hP hD hS hA rfl rfl (by decide) (by decide) (fun r_16 u_ H locs hw_17 hP hD hS => ?_)
                have hw_17 : F_placeOf n pf 0 = r_16 := hw_17
                have hG := hG.trans (cb_e hw_17)
                have hP : va_P D vwCl [(h0, .inr (1, [.int wayToOther, .ref h1, .ref h2, .int place, .int speed, .int way, .int topSpeed, .int gain, .int brake, .int darkSpeed, .int rideSpeed, .int kilos, .int mostKilos, .int openContacts, .int fireFloor, .int ride, .int starts, .int distance, .int hardFalls])), (h2, .inr (0, [.ref h3, .int ccount, .int cover])), (h3, .inl (aI, 8, .inl cf)), (h4, .inr (3, [.ref h5, .int gap])), (h5, .inl (aI, n, .inl pf))] H := hP
                have hD : va_D A [(h0, .inr (1, [.int wayToOther, .ref h1, .ref h2, .int place, .int speed, .int way, .int topSpeed, .int gain, .int brake, .int darkSpeed, .int rideSpeed, .int kilos, .int mostKilos, .int openContacts, .int fireFloor, .int ride, .int starts, .int distance, .int hardFalls])), (h2, .inr (0, [.ref h3, .int ccount, .int cover])), (h3, .inl (aI, 8, .inl cf)), (h4, .inr (3, [.ref h5, .int gap])), (h5, .inl (aI, n, .inl pf))] := hD
                refine lv_goto (tgt := 102) hx hb dX1_wantedPlace_98 (by decide) ?_
                have hP := hP.sub (ws' := [(h0, .inr (1, [.int wayToOther, .ref h1, .ref h2, .int place, .int speed, .int way, .int topSpeed, .int gain, .int brake, .int darkSpeed, .int rideSpeed, .int kilos, .int mostKilos, .int openContacts, .int fireFloor, .int ride, .int starts, .int distance, .int hardFalls])), (h2, .inr (0, [.ref h3, .int ccount, .int cover])), (h3, .inl (aI, 8, .inl cf)), (h4, .inr (3, [.ref h5, .int gap])), (h5, .inl (aI, n, .inl pf))]) [0, 1, 2, 3, 4] rfl
                have hD := hD.sub (ws' := [(h0, .inr (1, [.int wayToOther, .ref h1, .ref h2, .int place, .int speed, .int way, .int topSpeed, .int gain, .int brake, .int darkSpeed, .int rideSpeed, .int kilos, .int mostKilos, .int openContacts, .int fireFloor, .int ride, .int starts, .int distance, .int hardFalls])), (h2, .inr (0, [.ref h3, .int ccount, .int cover])), (h3, .inl (aI, 8, .inl cf)), (h4, .inr (3, [.ref h5, .int gap])), (h5, .inl (aI, n, .inl pf))]) [0, 1, 2, 3, 4] (by decide) rfl
                exact rt_i hQ hx hb hr () hG hP hD hS (Nat.le_of_ble_eq_true rfl) (Nat.le_of_ble_eq_true rfl) dX1_wantedPlace_102 hlk
            · have hG := hG.trans (if_pos c_14)
              refine lv_aload_n hx hb dX1_wantedPlace_74 rfl (lv_at hl 2 rfl) ?_
              refine lv_aload_n hx hb dX1_wantedPlace_75 rfl (lv_at hl 2 rfl) ?_
              refine my_i (wr := [(h0, .inr (1, [.int wayToOther, .ref h1, .ref h2, .int place, .int speed, .int way, .int topSpeed, .int gain, .int brake, .int darkSpeed, .int rideSpeed, .int kilos, .int mostKilos, .int openContacts, .int fireFloor, .int ride, .int starts, .int distance, .int hardFalls])), (h2, .inr (0, [.ref h3, .int ccount, .int cover])), (h3, .inl (aI, 8, .inl cf))]) [3, 4] [0, 1, 2] (va_runV (As := []) (rest := [.ref h4]) ⟨hx, hb, hml, hown, hts⟩ (c_topFloor l D aI aL aZ _ h4 h5 gap n pf) (cwV 0 hts (gV w_527 w_112 w_113 w_36 w_114) rfl rfl rfl (by decide +kernel) ⟨Nat.le_of_ble_eq_true rfl, Nat.le_of_ble_eq_true rfl⟩) (prev_of hK hP hD hS hA hE [3, 4] rfl (by decide) (ci := 3) rfl 3 rfl _) rfl rfl hl.1 rfl (lv_room (Nat.le_of_ble_eq_true rfl)) dX1_wantedPlace_76 ⟨Nat.le_of_ble_eq_true rfl, Nat.le_of_ble_eq_true rfl⟩) hP hD hS hA rfl rfl (by decide) (by decide) (fun r_18 u_ H locs hw_19 hP hD hS => ?_)
              have hw_19 : F_topFloor n = r_18 := hw_19
              have hG := hG.trans (cb_e hw_19)
              have hP : va_P D vwCl [(h0, .inr (1, [.int wayToOther, .ref h1, .ref h2, .int place, .int speed, .int way, .int topSpeed, .int gain, .int brake, .int darkSpeed, .int rideSpeed, .int kilos, .int mostKilos, .int openContacts, .int fireFloor, .int ride, .int starts, .int distance, .int hardFalls])), (h2, .inr (0, [.ref h3, .int ccount, .int cover])), (h3, .inl (aI, 8, .inl cf)), (h4, .inr (3, [.ref h5, .int gap])), (h5, .inl (aI, n, .inl pf))] H := hP
              have hD : va_D A [(h0, .inr (1, [.int wayToOther, .ref h1, .ref h2, .int place, .int speed, .int way, .int topSpeed, .int gain, .int brake, .int darkSpeed, .int rideSpeed, .int kilos, .int mostKilos, .int openContacts, .int fireFloor, .int ride, .int starts, .int distance, .int hardFalls])), (h2, .inr (0, [.ref h3, .int ccount, .int cover])), (h3, .inl (aI, 8, .inl cf)), (h4, .inr (3, [.ref h5, .int gap])), (h5, .inl (aI, n, .inl pf))] := hD
              refine my_i (wr := [(h0, .inr (1, [.int wayToOther, .ref h1, .ref h2, .int place, .int speed, .int way, .int topSpeed, .int gain, .int brake, .int darkSpeed, .int rideSpeed, .int kilos, .int mostKilos, .int openContacts, .int fireFloor, .int ride, .int starts, .int distance, .int hardFalls])), (h2, .inr (0, [.ref h3, .int ccount, .int cover])), (h3, .inl (aI, 8, .inl cf))]) [3, 4] [0, 1, 2] (va_runV (As := [.int r_18]) (rest := []) ⟨hx, hb, hml, hown, hts⟩ (c_placeOf l D aI aL aZ _ h4 h5 gap n pf r_18 hn) (cwV 1 hts (gV w_519 w_215 w_216 w_36 w_217) rfl rfl rfl (by decide +kernel) ⟨Nat.le_of_ble_eq_true rfl, Nat.le_of_ble_eq_true rfl⟩) (prev_of hK hP hD hS hA hE [3, 4] rfl (by decide) (ci := 3) rfl 3 rfl _) rfl rfl hl.1 rfl (lv_room (Nat.le_of_ble_eq_true rfl)) dX1_wantedPlace_79 ⟨Nat.le_of_ble_eq_true rfl, Nat.le_of_ble_eq_true rfl⟩) hP hD hS hA rfl rfl (by decide) (by decide) (fun r_20 u_ H locs hw_21 hP hD hS => ?_)
              have hw_21 : F_placeOf n pf r_18 = r_20 := hw_21
              have hG := hG.trans (cb_e hw_21)
              have hP : va_P D vwCl [(h0, .inr (1, [.int wayToOther, .ref h1, .ref h2, .int place, .int speed, .int way, .int topSpeed, .int gain, .int brake, .int darkSpeed, .int rideSpeed, .int kilos, .int mostKilos, .int openContacts, .int fireFloor, .int ride, .int starts, .int distance, .int hardFalls])), (h2, .inr (0, [.ref h3, .int ccount, .int cover])), (h3, .inl (aI, 8, .inl cf)), (h4, .inr (3, [.ref h5, .int gap])), (h5, .inl (aI, n, .inl pf))] H := hP
              have hD : va_D A [(h0, .inr (1, [.int wayToOther, .ref h1, .ref h2, .int place, .int speed, .int way, .int topSpeed, .int gain, .int brake, .int darkSpeed, .int rideSpeed, .int kilos, .int mostKilos, .int openContacts, .int fireFloor, .int ride, .int starts, .int distance, .int hardFalls])), (h2, .inr (0, [.ref h3, .int ccount, .int cover])), (h3, .inl (aI, 8, .inl cf)), (h4, .inr (3, [.ref h5, .int gap])), (h5, .inl (aI, n, .inl pf))] := hD
              refine lv_goto (tgt := 102) hx hb dX1_wantedPlace_82 (by decide) ?_
              have hP := hP.sub (ws' := [(h0, .inr (1, [.int wayToOther, .ref h1, .ref h2, .int place, .int speed, .int way, .int topSpeed, .int gain, .int brake, .int darkSpeed, .int rideSpeed, .int kilos, .int mostKilos, .int openContacts, .int fireFloor, .int ride, .int starts, .int distance, .int hardFalls])), (h2, .inr (0, [.ref h3, .int ccount, .int cover])), (h3, .inl (aI, 8, .inl cf)), (h4, .inr (3, [.ref h5, .int gap])), (h5, .inl (aI, n, .inl pf))]) [0, 1, 2, 3, 4] rfl
              have hD := hD.sub (ws' := [(h0, .inr (1, [.int wayToOther, .ref h1, .ref h2, .int place, .int speed, .int way, .int topSpeed, .int gain, .int brake, .int darkSpeed, .int rideSpeed, .int kilos, .int mostKilos, .int openContacts, .int fireFloor, .int ride, .int starts, .int distance, .int hardFalls])), (h2, .inr (0, [.ref h3, .int ccount, .int cover])), (h3, .inl (aI, 8, .inl cf)), (h4, .inr (3, [.ref h5, .int gap])), (h5, .inl (aI, n, .inl pf))]) [0, 1, 2, 3, 4] (by decide) rfl
              exact rt_i hQ hx hb hr () hG hP hD hS (Nat.le_of_ble_eq_true rfl) (Nat.le_of_ble_eq_true rfl) dX1_wantedPlace_102 hlk
          · have hG := hG.trans (if_neg c_13)
            refine lv_tableOut (tgt := 103) hx hb dX1_wantedPlace_1 (by have q0 := lv_neT c_1 (a := 0) (by decide); have q1 := lv_neT c_6 (a := 1) (by decide); have q2 := lv_neT c_7 (a := 2) (by decide); have q3 := lv_neT c_10 (a := 3) (by decide); have q4 := lv_neT c_13 (a := 4) (by decide); omega) (by decide) ?_
            refine lv_iconst (v := (-1)) hx hb dX1_wantedPlace_103 (by decide) ?_
            have hP := hP.sub (ws' := [(h0, .inr (1, [.int wayToOther, .ref h1, .ref h2, .int place, .int speed, .int way, .int topSpeed, .int gain, .int brake, .int darkSpeed, .int rideSpeed, .int kilos, .int mostKilos, .int openContacts, .int fireFloor, .int ride, .int starts, .int distance, .int hardFalls])), (h2, .inr (0, [.ref h3, .int ccount, .int cover])), (h3, .inl (aI, 8, .inl cf)), (h4, .inr (3, [.ref h5, .int gap])), (h5, .inl (aI, n, .inl pf))]) [0, 1, 2, 3, 4] rfl
            have hD := hD.sub (ws' := [(h0, .inr (1, [.int wayToOther, .ref h1, .ref h2, .int place, .int speed, .int way, .int topSpeed, .int gain, .int brake, .int darkSpeed, .int rideSpeed, .int kilos, .int mostKilos, .int openContacts, .int fireFloor, .int ride, .int starts, .int distance, .int hardFalls])), (h2, .inr (0, [.ref h3, .int ccount, .int cover])), (h3, .inl (aI, 8, .inl cf)), (h4, .inr (3, [.ref h5, .int gap])), (h5, .inl (aI, n, .inl pf))]) [0, 1, 2, 3, 4] (by decide) rfl
            exact rt_i hQ hx hb hr () hG hP hD hS (Nat.le_of_ble_eq_true rfl) (Nat.le_of_ble_eq_true rfl) dX1_wantedPlace_104 hlk
