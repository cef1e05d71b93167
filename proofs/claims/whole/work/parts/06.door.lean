theorem dX2_turnToOpening_0 : decode cX2_turnToOpening 0 = .ok (.aload_n 0, 1) := by decide +kernel
theorem dX2_turnToOpening_1 : decode cX2_turnToOpening 1 = .ok (.getfield 9, 3) := by decide +kernel
theorem dX2_turnToOpening_4 : decode cX2_turnToOpening 4 = .ok (.iconst 1, 1) := by decide +kernel
theorem dX2_turnToOpening_5 : decode cX2_turnToOpening 5 = .ok (.if_icmp .eq 11, 3) := by decide +kernel
theorem dX2_turnToOpening_8 : decode cX2_turnToOpening 8 = .ok (.aload_n 0, 1) := by decide +kernel
theorem dX2_turnToOpening_9 : decode cX2_turnToOpening 9 = .ok (.getfield 9, 3) := by decide +kernel
theorem dX2_turnToOpening_12 : decode cX2_turnToOpening 12 = .ok (.iconst 2, 1) := by decide +kernel
theorem dX2_turnToOpening_13 : decode cX2_turnToOpening 13 = .ok (.if_icmp .ne 5, 3) := by decide +kernel
theorem dX2_turnToOpening_16 : decode cX2_turnToOpening 16 = .ok (.iconst 0, 1) := by decide +kernel
theorem dX2_turnToOpening_17 : decode cX2_turnToOpening 17 = .ok (.ireturn, 1) := by decide +kernel
theorem dX2_turnToOpening_18 : decode cX2_turnToOpening 18 = .ok (.aload_n 0, 1) := by decide +kernel
theorem dX2_turnToOpening_19 : decode cX2_turnToOpening 19 = .ok (.getfield 9, 3) := by decide +kernel
theorem dX2_turnToOpening_22 : decode cX2_turnToOpening 22 = .ok (.ifCond .ne 16, 3) := by decide +kernel
theorem dX2_turnToOpening_25 : decode cX2_turnToOpening 25 = .ok (.aload_n 0, 1) := by decide +kernel
theorem dX2_turnToOpening_26 : decode cX2_turnToOpening 26 = .ok (.dup, 1) := by decide +kernel
theorem dX2_turnToOpening_27 : decode cX2_turnToOpening 27 = .ok (.getfield 21, 3) := by decide +kernel
theorem dX2_turnToOpening_30 : decode cX2_turnToOpening 30 = .ok (.iconst 1, 1) := by decide +kernel
theorem dX2_turnToOpening_31 : decode cX2_turnToOpening 31 = .ok (.iadd, 1) := by decide +kernel
theorem dX2_turnToOpening_32 : decode cX2_turnToOpening 32 = .ok (.putfield 21, 3) := by decide +kernel
theorem dX2_turnToOpening_35 : decode cX2_turnToOpening 35 = .ok (.goto 13, 3) := by decide +kernel
theorem dX2_turnToOpening_38 : decode cX2_turnToOpening 38 = .ok (.aload_n 0, 1) := by decide +kernel
theorem dX2_turnToOpening_39 : decode cX2_turnToOpening 39 = .ok (.dup, 1) := by decide +kernel
theorem dX2_turnToOpening_40 : decode cX2_turnToOpening 40 = .ok (.getfield 24, 3) := by decide +kernel
theorem dX2_turnToOpening_43 : decode cX2_turnToOpening 43 = .ok (.iconst 1, 1) := by decide +kernel
theorem dX2_turnToOpening_44 : decode cX2_turnToOpening 44 = .ok (.iadd, 1) := by decide +kernel
theorem dX2_turnToOpening_45 : decode cX2_turnToOpening 45 = .ok (.putfield 24, 3) := by decide +kernel
theorem dX2_turnToOpening_48 : decode cX2_turnToOpening 48 = .ok (.aload_n 0, 1) := by decide +kernel
theorem dX2_turnToOpening_49 : decode cX2_turnToOpening 49 = .ok (.iconst 1, 1) := by decide +kernel
theorem dX2_turnToOpening_50 : decode cX2_turnToOpening 50 = .ok (.putfield 9, 3) := by decide +kernel
theorem dX2_turnToOpening_53 : decode cX2_turnToOpening 53 = .ok (.iconst 1, 1) := by decide +kernel
theorem dX2_turnToOpening_54 : decode cX2_turnToOpening 54 = .ok (.ireturn, 1) := by decide +kernel
def F_turnToOpening (dstate : Int32) (dob : Int32) (doc : Int32) : Int32 × Int32 × Int32 × Int32 :=
  if dstate = 1 then
    (0, dstate, dob, doc)
  else
    if dstate = 2 then
      (0, dstate, dob, doc)
    else
      if dstate = 0 then
        (1, 1, (dob + 1), doc)
      else
        (1, 1, dob, (doc + 1))
theorem F_turnToOpening_u (dstate : Int32) (dob : Int32) (doc : Int32) : F_turnToOpening dstate dob doc =
  (if dstate = 1 then
    (0, dstate, dob, doc)
  else
    if dstate = 2 then
      (0, dstate, dob, doc)
    else
      if dstate = 0 then
        (1, 1, (dob + 1), doc)
      else
        (1, 1, dob, (doc + 1))) := rfl
set_option maxHeartbeats 4000000 in
set_option maxRecDepth 100000 in
theorem c_turnToOpening (l : Launch) (D : va_G) (aI aL aZ : ClassId) (sz : Nat) (h0 : Nat) (dstate : Int32) (dplace : Int32) (dplaces : Int32) (dhold : Int32) (dsteps : Int32) (dbeam : Int32) (dob : Int32) (doc : Int32) : Met l yX2_turnToOpening (.code yX2_turnToOpening cX2_turnToOpening 1 (some .boolean) :: Gw) ({ frames := 0, cells := 0, slots := 0, locals := 0 }) (va_Pc [.ref h0] (mpre D [(aI, .int), (aL, .long), (aZ, .boolean)] [(h0, .inr (2, [.int dstate, .int dplace, .int dplaces, .int dhold, .int dsteps, .int dbeam, .int dob, .int doc]))] sz)) ((fun A : Nat → Prop => va_Qi (fun (r : Int32) (u : Int32 × Int32 × Int32) => match u with | (u0, u1, u2) => F_turnToOpening dstate dob doc = (r, u0, u1, u2) ∧ nb r) (mpst D A (fun (u : Int32 × Int32 × Int32) => match u with | (u0, u1, u2) => [(h0, .inr (2, [.int u0, .int dplace, .int dplaces, .int dhold, .int dsteps, .int dbeam, .int u1, .int u2]))])) A) (va_A ([(h0, .inr (2, [.int dstate, .int dplace, .int dplaces, .int dhold, .int dsteps, .int dbeam, .int dob, .int doc]))]) sz)) 0 0 (va_A ([(h0, .inr (2, [.int dstate, .int dplace, .int dplaces, .int dhold, .int dsteps, .int dbeam, .int dob, .int doc]))]) sz) := by
  refine en (cc := cX2_turnToOpening) (maxL := 1) (ret := (some .boolean)) (Qc := (fun A : Nat → Prop => va_Qi (fun (r : Int32) (u : Int32 × Int32 × Int32) => match u with | (u0, u1, u2) => F_turnToOpening dstate dob doc = (r, u0, u1, u2) ∧ nb r) (mpst D A (fun (u : Int32 × Int32 × Int32) => match u with | (u0, u1, u2) => [(h0, .inr (2, [.int u0, .int dplace, .int dplaces, .int dhold, .int dsteps, .int dbeam, .int u1, .int u2]))])) A)) (by decide) rfl (Nat.le_of_ble_eq_true rfl) ?_
  intro p e s m args below meth c A ls Q hQ hx hb hr hts hown hlk hnm hml hA hS hP hK hD hE hl
  have hown : s.vm.findClass RX2 = some m.cls := hown
  have hl : lv_has ls 1 [(0, .ref h0)] := hl
  have hG := F_turnToOpening_u dstate dob doc
  refine lv_aload_n hx hb dX2_turnToOpening_0 rfl (lv_at hl 0 rfl) ?_
  refine va_get (D := D) (ci := 2) (v := .int dstate) (C := RX2) (T := TX2) (N := 8) hx hb hts inX2 hown hK hP 0 rfl rfl 0 (by decide) (hts _ (mG w_250)) (fun _ h9 => h9) rfl dX2_turnToOpening_1 ?_
  refine lv_iconst (v := 1) hx hb dX2_turnToOpening_4 (by decide) ?_
  refine lv_icmp_eq (tgt := 16) hx hb dX2_turnToOpening_5 (by decide) (fun c_1 => ?_) (fun c_1 => ?_)
  · have hG := hG.trans (if_pos c_1)
    refine lv_iconst (v := 0) hx hb dX2_turnToOpening_16 (by decide) ?_
    have hP := hP.sub (ws' := [(h0, .inr (2, [.int dstate, .int dplace, .int dplaces, .int dhold, .int dsteps, .int dbeam, .int dob, .int doc]))]) [0] rfl
    have hD := hD.sub (ws' := [(h0, .inr (2, [.int dstate, .int dplace, .int dplaces, .int dhold, .int dsteps, .int dbeam, .int dob, .int doc]))]) [0] (by decide) rfl
    exact rt_z hQ hx hb hr (nb_n (Or.inl rfl)) (dstate, dob, doc) ⟨hG, (Or.inl rfl)⟩ hP hD hS (Nat.le_of_ble_eq_true rfl) (Nat.le_of_ble_eq_true rfl) dX2_turnToOpening_17 hlk
  · have hG := hG.trans (if_neg c_1)
    refine lv_aload_n hx hb dX2_turnToOpening_8 rfl (lv_at hl 0 rfl) ?_
    refine va_get (D := D) (ci := 2) (v := .int dstate) (C := RX2) (T := TX2) (N := 8) hx hb hts inX2 hown hK hP 0 rfl rfl 0 (by decide) (hts _ (mG w_250)) (fun _ h9 => h9) rfl dX2_turnToOpening_9 ?_
    refine lv_iconst (v := 2) hx hb dX2_turnToOpening_12 (by decide) ?_
    refine lv_icmp_ne (tgt := 18) hx hb dX2_turnToOpening_13 (by decide) (fun c_2 => ?_) (fun c_2 => ?_)
    · have hG := hG.trans (if_neg c_2)
      refine lv_aload_n hx hb dX2_turnToOpening_18 rfl (lv_at hl 0 rfl) ?_
      refine va_get (D := D) (ci := 2) (v := .int dstate) (C := RX2) (T := TX2) (N := 8) hx hb hts inX2 hown hK hP 0 rfl rfl 0 (by decide) (hts _ (mG w_250)) (fun _ h9 => h9) rfl dX2_turnToOpening_19 ?_
      refine lv_if_ne (tgt := 38) hx hb dX2_turnToOpening_22 (by decide) (fun c_3 => ?_) (fun c_3 => ?_)
      · have hG := hG.trans (if_neg c_3)
        refine lv_aload_n hx hb dX2_turnToOpening_38 rfl (lv_at hl 0 rfl) ?_
        refine lv_dup hx hb dX2_turnToOpening_39 rfl ?_
        refine va_get (D := D) (ci := 2) (v := .int doc) (C := RX2) (T := TX2) (N := 8) hx hb hts inX2 hown hK hP 0 rfl rfl 7 (by decide) (hts _ (mG w_264)) (fun _ h9 => h9) rfl dX2_turnToOpening_40 ?_
        refine lv_iconst (v := 1) hx hb dX2_turnToOpening_43 (by decide) ?_
        refine lv_iadd hx hb dX2_turnToOpening_44 ?_
        refine va_put (D := D) (ci := 2) (v := .int (doc + 1)) (ty := .int) (C := RX2) (T := TX2) (N := 8) hx hb hts inX2 tyX2 tyX2_ok nmX2 hown hK hP hD hS 0 rfl rfl 7 (by decide) (hts _ (mG w_264)) (fun _ h9 => h9) rfl (by decide +kernel) rfl rfl (Nat.le_of_ble_eq_true rfl) dX2_turnToOpening_45 (fun H locs hP hD hS => ?_)
        have hP : va_P D vwCl [(h0, .inr (2, [.int dstate, .int dplace, .int dplaces, .int dhold, .int dsteps, .int dbeam, .int dob, .int (doc + 1)]))] H := hP
        have hD : va_D A [(h0, .inr (2, [.int dstate, .int dplace, .int dplaces, .int dhold, .int dsteps, .int dbeam, .int dob, .int (doc + 1)]))] := hD
        refine lv_aload_n hx hb dX2_turnToOpening_48 rfl (lv_at hl 0 rfl) ?_
        refine lv_iconst (v := 1) hx hb dX2_turnToOpening_49 (by decide) ?_
        refine va_put (D := D) (ci := 2) (v := .int 1) (ty := .int) (C := RX2) (T := TX2) (N := 8) hx hb hts inX2 tyX2 tyX2_ok nmX2 hown hK hP hD hS 0 rfl rfl 0 (by decide) (hts _ (mG w_250)) (fun _ h9 => h9) rfl (by decide +kernel) rfl rfl (Nat.le_of_ble_eq_true rfl) dX2_turnToOpening_50 (fun H locs hP hD hS => ?_)
        have hP : va_P D vwCl [(h0, .inr (2, [.int 1, .int dplace, .int dplaces, .int dhold, .int dsteps, .int dbeam, .int dob, .int (doc + 1)]))] H := hP
        have hD : va_D A [(h0, .inr (2, [.int 1, .int dplace, .int dplaces, .int dhold, .int dsteps, .int dbeam, .int dob, .int (doc + 1)]))] := hD
        refine lv_iconst (v := 1) hx hb dX2_turnToOpening_53 (by decide) ?_
        have hP := hP.sub (ws' := [(h0, .inr (2, [.int 1, .int dplace, .int dplaces, .int dhold, .int dsteps, .int dbeam, .int dob, .int (doc + 1)]))]) [0] rfl
        have hD := hD.sub (ws' := [(h0, .inr (2, [.int 1, .int dplace, .int dplaces, .int dhold, .int dsteps, .int dbeam, .int dob, .int (doc + 1)]))]) [0] (by decide) rfl
        exact rt_z hQ hx hb hr (nb_n (Or.inr rfl)) (1, dob, (doc + 1)) ⟨hG, (Or.inr rfl)⟩ hP hD hS (Nat.le_of_ble_eq_true rfl) (Nat.le_of_ble_eq_true rfl) dX2_turnToOpening_54 hlk
      · have hG := hG.trans (if_pos c_3)
        refine lv_aload_n hx hb dX2_turnToOpening_25 rfl (lv_at hl 0 rfl) ?_
        refine lv_dup hx hb dX2_turnToOpening_26 rfl ?_
        refine va_get (D := D) (ci := 2) (v := .int dob) (C := RX2) (T := TX2) (N := 8) hx hb hts inX2 hown hK hP 0 rfl rfl 6 (by decide) (hts _ (mG w_262)) (fun _ h9 => h9) rfl dX2_turnToOpening_27 ?_
        refine lv_iconst (v := 1) hx hb dX2_turnToOpening_30 (by decide) ?_
        refine lv_iadd hx hb dX2_turnToOpening_31 ?_
        refine va_put (D := D) (ci := 2) (v := .int (dob + 1)) (ty := .int) (C := RX2) (T := TX2) (N := 8) hx hb hts inX2 tyX2 tyX2_ok nmX2 hown hK hP hD hS 0 rfl rfl 6 (by decide) (hts _ (mG w_262)) (fun _ h9 => h9) rfl (by decide +kernel) rfl rfl (Nat.le_of_ble_eq_true rfl) dX2_turnToOpening_32 (fun H locs hP hD hS => ?_)
        have hP : va_P D vwCl [(h0, .inr (2, [.int dstate, .int dplace, .int dplaces, .int dhold, .int dsteps, .int dbeam, .int (dob + 1), .int doc]))] H := hP
        have hD : va_D A [(h0, .inr (2, [.int dstate, .int dplace, .int dplaces, .int dhold, .int dsteps, .int dbeam, .int (dob + 1), .int doc]))] := hD
        refine lv_goto (tgt := 48) hx hb dX2_turnToOpening_35 (by decide) ?_
        refine lv_aload_n hx hb dX2_turnToOpening_48 rfl (lv_at hl 0 rfl) ?_
        refine lv_iconst (v := 1) hx hb dX2_turnToOpening_49 (by decide) ?_
        refine va_put (D := D) (ci := 2) (v := .int 1) (ty := .int) (C := RX2) (T := TX2) (N := 8) hx hb hts inX2 tyX2 tyX2_ok nmX2 hown hK hP hD hS 0 rfl rfl 0 (by decide) (hts _ (mG w_250)) (fun _ h9 => h9) rfl (by decide +kernel) rfl rfl (Nat.le_of_ble_eq_true rfl) dX2_turnToOpening_50 (fun H locs hP hD hS => ?_)
        have hP : va_P D vwCl [(h0, .inr (2, [.int 1, .int dplace, .int dplaces, .int dhold, .int dsteps, .int dbeam, .int (dob + 1), .int doc]))] H := hP
        have hD : va_D A [(h0, .inr (2, [.int 1, .int dplace, .int dplaces, .int dhold, .int dsteps, .int dbeam, .int (dob + 1), .int doc]))] := hD
        refine lv_iconst (v := 1) hx hb dX2_turnToOpening_53 (by decide) ?_
        have hP := hP.sub (ws' := [(h0, .inr (2, [.int 1, .int dplace, .int dplaces, .int dhold, .int dsteps, .int dbeam, .int (dob + 1), .int doc]))]) [0] rfl
        have hD := hD.sub (ws' := [(h0, .inr (2, [.int 1, .int dplace, .int dplaces, .int dhold, .int dsteps, .int dbeam, .int (dob + 1), .int doc]))]) [0] (by decide) rfl
        exact rt_z hQ hx hb hr (nb_n (Or.inr rfl)) (1, (dob + 1), doc) ⟨hG, (Or.inr rfl)⟩ hP hD hS (Nat.le_of_ble_eq_true rfl) (Nat.le_of_ble_eq_true rfl) dX2_turnToOpening_54 hlk
    · have hG := hG.trans (if_pos c_2)
      refine lv_iconst (v := 0) hx hb dX2_turnToOpening_16 (by decide) ?_
      have hP := hP.sub (ws' := [(h0, .inr (2, [.int dstate, .int dplace, .int dplaces, .int dhold, .int dsteps, .int dbeam, .int dob, .int doc]))]) [0] rfl
      have hD := hD.sub (ws' := [(h0, .inr (2, [.int dstate, .int dplace, .int dplaces, .int dhold, .int dsteps, .int dbeam, .int dob, .int doc]))]) [0] (by decide) rfl
      exact rt_z hQ hx hb hr (nb_n (Or.inl rfl)) (dstate, dob, doc) ⟨hG, (Or.inl rfl)⟩ hP hD hS (Nat.le_of_ble_eq_true rfl) (Nat.le_of_ble_eq_true rfl) dX2_turnToOpening_17 hlk
theorem dX2_openForLanding_0 : decode cX2_openForLanding 0 = .ok (.aload_n 0, 1) := by decide +kernel
theorem dX2_openForLanding_1 : decode cX2_openForLanding 1 = .ok (.getfield 9, 3) := by decide +kernel
theorem dX2_openForLanding_4 : decode cX2_openForLanding 4 = .ok (.iconst 2, 1) := by decide +kernel
theorem dX2_openForLanding_5 : decode cX2_openForLanding 5 = .ok (.if_icmp .ne 11, 3) := by decide +kernel
theorem dX2_openForLanding_8 : decode cX2_openForLanding 8 = .ok (.aload_n 0, 1) := by decide +kernel
theorem dX2_openForLanding_9 : decode cX2_openForLanding 9 = .ok (.iconst 0, 1) := by decide +kernel
theorem dX2_openForLanding_10 : decode cX2_openForLanding 10 = .ok (.putfield 27, 3) := by decide +kernel
theorem dX2_openForLanding_13 : decode cX2_openForLanding 13 = .ok (.goto 8, 3) := by decide +kernel
theorem dX2_openForLanding_16 : decode cX2_openForLanding 16 = .ok (.aload_n 0, 1) := by decide +kernel
theorem dX2_openForLanding_17 : decode cX2_openForLanding 17 = .ok (.invokevirtual 30, 3) := by decide +kernel
theorem dX2_openForLanding_20 : decode cX2_openForLanding 20 = .ok (.pop, 1) := by decide +kernel
theorem dX2_openForLanding_21 : decode cX2_openForLanding 21 = .ok (.return_, 1) := by decide +kernel
def F_openForLanding (dstate : Int32) (dsteps : Int32) (dob : Int32) (doc : Int32) : Int32 × Int32 × Int32 × Int32 :=
  if dstate = 2 then
    (dstate, 0, dob, doc)
  else
    cb (F_turnToOpening dstate dob doc) fun (r_2, x_3, x_4, x_5) =>
      (x_3, dsteps, x_4, x_5)
theorem F_openForLanding_u (dstate : Int32) (dsteps : Int32) (dob : Int32) (doc : Int32) : F_openForLanding dstate dsteps dob doc =
  (if dstate = 2 then
    (dstate, 0, dob, doc)
  else
    cb (F_turnToOpening dstate dob doc) fun (r_2, x_3, x_4, x_5) =>
      (x_3, dsteps, x_4, x_5)) := rfl
set_option maxHeartbeats 4000000 in
set_option maxRecDepth 100000 in
theorem c_openForLanding (l : Launch) (D : va_G) (aI aL aZ : ClassId) (sz : Nat) (h0 : Nat) (dstate : Int32) (dplace : Int32) (dplaces : Int32) (dhold : Int32) (dsteps : Int32) (dbeam : Int32) (dob : Int32) (doc : Int32) : Met l yX2_openForLanding (.code yX2_openForLanding cX2_openForLanding 1 none :: Gw) ({ frames := 1, cells := 0, slots := 0, locals := 20 }) (va_Pc [.ref h0] (mpre D [(aI, .int), (aL, .long), (aZ, .boolean)] [(h0, .inr (2, [.int dstate, .int dplace, .int dplaces, .int dhold, .int dsteps, .int dbeam, .int dob, .int doc]))] sz)) ((fun A : Nat → Prop => va_Qv (fun (u : Int32 × Int32 × Int32 × Int32) => match u with | (u0, u1, u2, u3) => F_openForLanding dstate dsteps dob doc = (u0, u1, u2, u3)) (mpst D A (fun (u : Int32 × Int32 × Int32 × Int32) => match u with | (u0, u1, u2, u3) => [(h0, .inr (2, [.int u0, .int dplace, .int dplaces, .int dhold, .int u1, .int dbeam, .int u2, .int u3]))])) A) (va_A ([(h0, .inr (2, [.int dstate, .int dplace, .int dplaces, .int dhold, .int dsteps, .int dbeam, .int dob, .int doc]))]) sz)) 0 0 (va_A ([(h0, .inr (2, [.int dstate, .int dplace, .int dplaces, .int dhold, .int dsteps, .int dbeam, .int dob, .int doc]))]) sz) := by
  refine en (cc := cX2_openForLanding) (maxL := 1) (ret := none) (Qc := (fun A : Nat → Prop => va_Qv (fun (u : Int32 × Int32 × Int32 × Int32) => match u with | (u0, u1, u2, u3) => F_openForLanding dstate dsteps dob doc = (u0, u1, u2, u3)) (mpst D A (fun (u : Int32 × Int32 × Int32 × Int32) => match u with | (u0, u1, u2, u3) => [(h0, .inr (2, [.int u0, .int dplace, .int dplaces, .int dhold, .int u1, .int dbeam, .int u2, .int u3]))])) A)) (by decide) rfl (Nat.le_of_ble_eq_true rfl) ?_
  intro p e s m args below meth c A ls Q hQ hx hb hr hts hown hlk hnm hml hA hS hP hK hD hE hl
  have hown : s.vm.findClass RX2 = some m.cls := hown
  have hl : lv_has ls 1 [(0, .ref h0)] := hl
  have hG := F_openForLanding_u dstate dsteps dob doc
  refine lv_aload_n hx hb dX2_openForLanding_0 rfl (lv_at hl 0 rfl) ?_
  refine va_get (D := D) (ci := 2) (v := .int dstate) (C := RX2) (T := TX2) (N := 8) hx hb hts inX2 hown hK hP 0 rfl rfl 0 (by decide) (hts _ (mG w_250)) (fun _ h9 => h9) rfl dX2_openForLanding_1 ?_
  refine lv_iconst (v := 2) hx hb dX2_openForLanding_4 (by decide) ?_
  refine lv_icmp_ne (tgt := 16) hx hb dX2_openForLanding_5 (by decide) (fun c_1 => ?_) (fun c_1 => ?_)
  · have hG := hG.trans (if_neg c_1)
    refine lv_aload_n hx hb dX2_openForLanding_16 rfl (lv_at hl 0 rfl) ?_
    refine my_i (wr := []) [0] [] (va_runV (As := []) (rest := []) ⟨hx, hb, hml, hown, hts⟩ (c_turnToOpening l D aI aL aZ _ h0 dstate dplace dplaces dhold dsteps dbeam dob doc) (cwV 0 hts (gV w_593 w_440 w_441 w_45 w_442) rfl rfl rfl (by decide +kernel) ⟨Nat.le_of_ble_eq_true rfl, Nat.le_of_ble_eq_true rfl⟩) (prev_of hK hP hD hS hA hE [0] rfl (by decide) (ci := 2) rfl 0 rfl _) rfl rfl hl.1 rfl (lv_room (Nat.le_of_ble_eq_true rfl)) dX2_openForLanding_17 ⟨Nat.le_of_ble_eq_true rfl, Nat.le_of_ble_eq_true rfl⟩) hP hD hS hA rfl rfl (by decide) (by decide) (fun r_2 u_ H locs hw_6 hP hD hS => ?_)
    obtain ⟨x_3, x_4, x_5⟩ := u_
    have hw_6 : F_turnToOpening dstate dob doc = (r_2, x_3, x_4, x_5) ∧ nb r_2 := hw_6
    have hG := hG.trans (cb_e hw_6.1)
    have hP : va_P D vwCl [(h0, .inr (2, [.int x_3, .int dplace, .int dplaces, .int dhold, .int dsteps, .int dbeam, .int x_4, .int x_5]))] H := hP
    have hD : va_D A [(h0, .inr (2, [.int x_3, .int dplace, .int dplaces, .int dhold, .int dsteps, .int dbeam, .int x_4, .int x_5]))] := hD
    refine lv_pop hx hb dX2_openForLanding_20 rfl ?_
    have hP := hP.sub (ws' := [(h0, .inr (2, [.int x_3, .int dplace, .int dplaces, .int dhold, .int dsteps, .int dbeam, .int x_4, .int x_5]))]) [0] rfl
    have hD := hD.sub (ws' := [(h0, .inr (2, [.int x_3, .int dplace, .int dplaces, .int dhold, .int dsteps, .int dbeam, .int x_4, .int x_5]))]) [0] (by decide) rfl
    exact rt_v hQ hx hb hr (x_3, dsteps, x_4, x_5) hG hP hD hS (Nat.le_of_ble_eq_true rfl) (Nat.le_of_ble_eq_true rfl) dX2_openForLanding_21 hlk
  · have hG := hG.trans (if_pos c_1)
    refine lv_aload_n hx hb dX2_openForLanding_8 rfl (lv_at hl 0 rfl) ?_
    refine lv_iconst (v := 0) hx hb dX2_openForLanding_9 (by decide) ?_
    refine va_put (D := D) (ci := 2) (v := .int 0) (ty := .int) (C := RX2) (T := TX2) (N := 8) hx hb hts inX2 tyX2 tyX2_ok nmX2 hown hK hP hD hS 0 rfl rfl 4 (by decide) (hts _ (mG w_259)) (fun _ h9 => h9) rfl (by decide +kernel) rfl rfl (Nat.le_of_ble_eq_true rfl) dX2_openForLanding_10 (fun H locs hP hD hS => ?_)
    have hP : va_P D vwCl [(h0, .inr (2, [.int dstate, .int dplace, .int dplaces, .int dhold, .int 0, .int dbeam, .int dob, .int doc]))] H := hP
    have hD : va_D A [(h0, .inr (2, [.int dstate, .int dplace, .int dplaces, .int dhold, .int 0, .int dbeam, .int dob, .int doc]))] := hD
    refine lv_goto (tgt := 21) hx hb dX2_openForLanding_13 (by decide) ?_
    have hP := hP.sub (ws' := [(h0, .inr (2, [.int dstate, .int dplace, .int dplaces, .int dhold, .int 0, .int dbeam, .int dob, .int doc]))]) [0] rfl
    have hD := hD.sub (ws' := [(h0, .inr (2, [.int dstate, .int dplace, .int dplaces, .int dhold, .int 0, .int dbeam, .int dob, .int doc]))]) [0] (by decide) rfl
    exact rt_v hQ hx hb hr (dstate, 0, dob, doc) hG hP hD hS (Nat.le_of_ble_eq_true rfl) (Nat.le_of_ble_eq_true rfl) dX2_openForLanding_21 hlk
theorem dX2_openFurther_0 : decode cX2_openFurther 0 = .ok (.aload_n 0, 1) := by decide +kernel
theorem dX2_openFurther_1 : decode cX2_openFurther 1 = .ok (.aload_n 0, 1) := by decide +kernel
theorem dX2_openFurther_2 : decode cX2_openFurther 2 = .ok (.getfield 48, 3) := by decide +kernel
theorem dX2_openFurther_5 : decode cX2_openFurther 5 = .ok (.iconst 1, 1) := by decide +kernel
theorem dX2_openFurther_6 : decode cX2_openFurther 6 = .ok (.iadd, 1) := by decide +kernel
theorem dX2_openFurther_7 : decode cX2_openFurther 7 = .ok (.aload_n 0, 1) := by decide +kernel
theorem dX2_openFurther_8 : decode cX2_openFurther 8 = .ok (.getfield 15, 3) := by decide +kernel
theorem dX2_openFurther_11 : decode cX2_openFurther 11 = .ok (.invokestatic 51, 3) := by decide +kernel
theorem dX2_openFurther_14 : decode cX2_openFurther 14 = .ok (.putfield 48, 3) := by decide +kernel
theorem dX2_openFurther_17 : decode cX2_openFurther 17 = .ok (.aload_n 0, 1) := by decide +kernel
theorem dX2_openFurther_18 : decode cX2_openFurther 18 = .ok (.getfield 48, 3) := by decide +kernel
theorem dX2_openFurther_21 : decode cX2_openFurther 21 = .ok (.aload_n 0, 1) := by decide +kernel
theorem dX2_openFurther_22 : decode cX2_openFurther 22 = .ok (.getfield 15, 3) := by decide +kernel
theorem dX2_openFurther_25 : decode cX2_openFurther 25 = .ok (.if_icmp .ne 13, 3) := by decide +kernel
theorem dX2_openFurther_28 : decode cX2_openFurther 28 = .ok (.aload_n 0, 1) := by decide +kernel
theorem dX2_openFurther_29 : decode cX2_openFurther 29 = .ok (.iconst 2, 1) := by decide +kernel
theorem dX2_openFurther_30 : decode cX2_openFurther 30 = .ok (.putfield 9, 3) := by decide +kernel
theorem dX2_openFurther_33 : decode cX2_openFurther 33 = .ok (.aload_n 0, 1) := by decide +kernel
theorem dX2_openFurther_34 : decode cX2_openFurther 34 = .ok (.iconst 0, 1) := by decide +kernel
theorem dX2_openFurther_35 : decode cX2_openFurther 35 = .ok (.putfield 27, 3) := by decide +kernel
theorem dX2_openFurther_38 : decode cX2_openFurther 38 = .ok (.return_, 1) := by decide +kernel
def F_openFurther (dstate : Int32) (dplace : Int32) (dplaces : Int32) (dsteps : Int32) : Int32 × Int32 :=
  if (if dplaces < (dplace + 1) then dplaces else (dplace + 1)) = dplaces then
    (2, 0)
  else
    (dstate, dsteps)
theorem F_openFurther_u (dstate : Int32) (dplace : Int32) (dplaces : Int32) (dsteps : Int32) : F_openFurther dstate dplace dplaces dsteps =
  (if (if dplaces < (dplace + 1) then dplaces else (dplace + 1)) = dplaces then
    (2, 0)
  else
    (dstate, dsteps)) := rfl
set_option maxHeartbeats 4000000 in
set_option maxRecDepth 100000 in
theorem c_openFurther (l : Launch) (D : va_G) (aI aL aZ : ClassId) (sz : Nat) (h0 : Nat) (dstate : Int32) (dplace : Int32) (dplaces : Int32) (dhold : Int32) (dsteps : Int32) (dbeam : Int32) (dob : Int32) (doc : Int32) : Met l yX2_openFurther (.code yX2_openFurther cX2_openFurther 1 none :: Gw) ({ frames := 1, cells := 0, slots := 0, locals := 21 }) (va_Pc [.ref h0] (mpre D [(aI, .int), (aL, .long), (aZ, .boolean)] [(h0, .inr (2, [.int dstate, .int dplace, .int dplaces, .int dhold, .int dsteps, .int dbeam, .int dob, .int doc]))] sz)) ((fun A : Nat → Prop => va_Qv (fun (u : Int32 × Int32) => match u with | (u0, u1) => F_openFurther dstate dplace dplaces dsteps = (u0, u1)) (mpst D A (fun (u : Int32 × Int32) => match u with | (u0, u1) => [(h0, .inr (2, [.int u0, .int (if dplaces < (dplace + 1) then dplaces else (dplace + 1)), .int dplaces, .int dhold, .int u1, .int dbeam, .int dob, .int doc]))])) A) (va_A ([(h0, .inr (2, [.int dstate, .int dplace, .int dplaces, .int dhold, .int dsteps, .int dbeam, .int dob, .int doc]))]) sz)) 0 0 (va_A ([(h0, .inr (2, [.int dstate, .int dplace, .int dplaces, .int dhold, .int dsteps, .int dbeam, .int dob, .int doc]))]) sz) := by
  refine en (cc := cX2_openFurther) (maxL := 1) (ret := none) (Qc := (fun A : Nat → Prop => va_Qv (fun (u : Int32 × Int32) => match u with | (u0, u1) => F_openFurther dstate dplace dplaces dsteps = (u0, u1)) (mpst D A (fun (u : Int32 × Int32) => match u with | (u0, u1) => [(h0, .inr (2, [.int u0, .int (if dplaces < (dplace + 1) then dplaces else (dplace + 1)), .int dplaces, .int dhold, .int u1, .int dbeam, .int dob, .int doc]))])) A)) (by decide) rfl (Nat.le_of_ble_eq_true rfl) ?_
  intro p e s m args below meth c A ls Q hQ hx hb hr hts hown hlk hnm hml hA hS hP hK hD hE hl
  have hown : s.vm.findClass RX2 = some m.cls := hown
  have hl : lv_has ls 1 [(0, .ref h0)] := hl
  have hG := F_openFurther_u dstate dplace dplaces dsteps
  refine lv_aload_n hx hb dX2_openFurther_0 rfl (lv_at hl 0 rfl) ?_
  refine lv_aload_n hx hb dX2_openFurther_1 rfl (lv_at hl 0 rfl) ?_
  refine va_get (D := D) (ci := 2) (v := .int dplace) (C := RX2) (T := TX2) (N := 8) hx hb hts inX2 hown hK hP 0 rfl rfl 1 (by decide) (hts _ (mG w_253)) (fun _ h9 => h9) rfl dX2_openFurther_2 ?_
  refine lv_iconst (v := 1) hx hb dX2_openFurther_5 (by decide) ?_
  refine lv_iadd hx hb dX2_openFurther_6 ?_
  refine lv_aload_n hx hb dX2_openFurther_7 rfl (lv_at hl 0 rfl) ?_
  refine va_get (D := D) (ci := 2) (v := .int dplaces) (C := RX2) (T := TX2) (N := 8) hx hb hts inX2 hown hK hP 0 rfl rfl 2 (by decide) (hts _ (mG w_255)) (fun _ h9 => h9) rfl dX2_openFurther_8 ?_
  refine va_mmin hx hb (by rw [hml]; exact hl.1.symm) hown (hts _ (mG w_602)) (hts _ (mG w_62)) (hts _ (mG w_37)) (hts _ (mG w_63)) (Nat.le_of_ble_eq_true rfl) (Nat.le_of_ble_eq_true rfl) (Nat.le_of_ble_eq_true rfl) (Nat.le_of_ble_eq_true rfl) dX2_openFurther_11 ?_
  refine va_put (D := D) (ci := 2) (v := .int (if dplaces < (dplace + 1) then dplaces else (dplace + 1))) (ty := .int) (C := RX2) (T := TX2) (N := 8) hx hb hts inX2 tyX2 tyX2_ok nmX2 hown hK hP hD hS 0 rfl rfl 1 (by decide) (hts _ (mG w_253)) (fun _ h9 => h9) rfl (by decide +kernel) rfl rfl (Nat.le_of_ble_eq_true rfl) dX2_openFurther_14 (fun H locs hP hD hS => ?_)
  have hP : va_P D vwCl [(h0, .inr (2, [.int dstate, .int (if dplaces < (dplace + 1) then dplaces else (dplace + 1)), .int dplaces, .int dhold, .int dsteps, .int dbeam, .int dob, .int doc]))] H := hP
  have hD : va_D A [(h0, .inr (2, [.int dstate, .int (if dplaces < (dplace + 1) then dplaces else (dplace + 1)), .int dplaces, .int dhold, .int dsteps, .int dbeam, .int dob, .int doc]))] := hD
  refine lv_aload_n hx hb dX2_openFurther_17 rfl (lv_at hl 0 rfl) ?_
  refine va_get (D := D) (ci := 2) (v := .int (if dplaces < (dplace + 1) then dplaces else (dplace + 1))) (C := RX2) (T := TX2) (N := 8) hx hb hts inX2 hown hK hP 0 rfl rfl 1 (by decide) (hts _ (mG w_253)) (fun _ h9 => h9) rfl dX2_openFurther_18 ?_
  refine lv_aload_n hx hb dX2_openFurther_21 rfl (lv_at hl 0 rfl) ?_
  refine va_get (D := D) (ci := 2) (v := .int dplaces) (C := RX2) (T := TX2) (N := 8) hx hb hts inX2 hown hK hP 0 rfl rfl 2 (by decide) (hts _ (mG w_255)) (fun _ h9 => h9) rfl dX2_openFurther_22 ?_
  refine lv_icmp_ne (tgt := 38) hx hb dX2_openFurther_25 (by decide) (fun c_1 => ?_) (fun c_1 => ?_)
  · have hG := hG.trans (if_neg c_1)
    have hP := hP.sub (ws' := [(h0, .inr (2, [.int dstate, .int (if dplaces < (dplace + 1) then dplaces else (dplace + 1)), .int dplaces, .int dhold, .int dsteps, .int dbeam, .int dob, .int doc]))]) [0] rfl
    have hD := hD.sub (ws' := [(h0, .inr (2, [.int dstate, .int (if dplaces < (dplace + 1) then dplaces else (dplace + 1)), .int dplaces, .int dhold, .int dsteps, .int dbeam, .int dob, .int doc]))]) [0] (by decide) rfl
    exact rt_v hQ hx hb hr (dstate, dsteps) hG hP hD hS (Nat.le_of_ble_eq_true rfl) (Nat.le_of_ble_eq_true rfl) dX2_openFurther_38 hlk
  · have hG := hG.trans (if_pos c_1)
    refine lv_aload_n hx hb dX2_openFurther_28 rfl (lv_at hl 0 rfl) ?_
    refine lv_iconst (v := 2) hx hb dX2_openFurther_29 (by decide) ?_
    refine va_put (D := D) (ci := 2) (v := .int 2) (ty := .int) (C := RX2) (T := TX2) (N := 8) hx hb hts inX2 tyX2 tyX2_ok nmX2 hown hK hP hD hS 0 rfl rfl 0 (by decide) (hts _ (mG w_250)) (fun _ h9 => h9) rfl (by decide +kernel) rfl rfl (Nat.le_of_ble_eq_true rfl) dX2_openFurther_30 (fun H locs hP hD hS => ?_)
    have hP : va_P D vwCl [(h0, .inr (2, [.int 2, .int (if dplaces < (dplace + 1) then dplaces else (dplace + 1)), .int dplaces, .int dhold, .int dsteps, .int dbeam, .int dob, .int doc]))] H := hP
    have hD : va_D A [(h0, .inr (2, [.int 2, .int (if dplaces < (dplace + 1) then dplaces else (dplace + 1)), .int dplaces, .int dhold, .int dsteps, .int dbeam, .int dob, .int doc]))] := hD
    refine lv_aload_n hx hb dX2_openFurther_33 rfl (lv_at hl 0 rfl) ?_
    refine lv_iconst (v := 0) hx hb dX2_openFurther_34 (by decide) ?_
    refine va_put (D := D) (ci := 2) (v := .int 0) (ty := .int) (C := RX2) (T := TX2) (N := 8) hx hb hts inX2 tyX2 tyX2_ok nmX2 hown hK hP hD hS 0 rfl rfl 4 (by decide) (hts _ (mG w_259)) (fun _ h9 => h9) rfl (by decide +kernel) rfl rfl (Nat.le_of_ble_eq_true rfl) dX2_openFurther_35 (fun H locs hP hD hS => ?_)
    have hP : va_P D vwCl [(h0, .inr (2, [.int 2, .int (if dplaces < (dplace + 1) then dplaces else (dplace + 1)), .int dplaces, .int dhold, .int 0, .int dbeam, .int dob, .int doc]))] H := hP
    have hD : va_D A [(h0, .inr (2, [.int 2, .int (if dplaces < (dplace + 1) then dplaces else (dplace + 1)), .int dplaces, .int dhold, .int 0, .int dbeam, .int dob, .int doc]))] := hD
    have hP := hP.sub (ws' := [(h0, .inr (2, [.int 2, .int (if dplaces < (dplace + 1) then dplaces else (dplace + 1)), .int dplaces, .int dhold, .int 0, .int dbeam, .int dob, .int doc]))]) [0] rfl
    have hD := hD.sub (ws' := [(h0, .inr (2, [.int 2, .int (if dplaces < (dplace + 1) then dplaces else (dplace + 1)), .int dplaces, .int dhold, .int 0, .int dbeam, .int dob, .int doc]))]) [0] (by decide) rfl
    exact rt_v hQ hx hb hr (2, 0) hG hP hD hS (Nat.le_of_ble_eq_true rfl) (Nat.le_of_ble_eq_true rfl) dX2_openFurther_38 hlk
theorem dX2_closeFurther_0 : decode cX2_closeFurther 0 = .ok (.aload_n 0, 1) := by decide +kernel
theorem dX2_closeFurther_1 : decode cX2_closeFurther 1 = .ok (.aload_n 0, 1) := by decide +kernel
theorem dX2_closeFurther_2 : decode cX2_closeFurther 2 = .ok (.getfield 48, 3) := by decide +kernel
theorem dX2_closeFurther_5 : decode cX2_closeFurther 5 = .ok (.iconst 1, 1) := by decide +kernel
theorem dX2_closeFurther_6 : decode cX2_closeFurther 6 = .ok (.isub, 1) := by decide +kernel
theorem dX2_closeFurther_7 : decode cX2_closeFurther 7 = .ok (.iconst 0, 1) := by decide +kernel
theorem dX2_closeFurther_8 : decode cX2_closeFurther 8 = .ok (.invokestatic 57, 3) := by decide +kernel
theorem dX2_closeFurther_11 : decode cX2_closeFurther 11 = .ok (.putfield 48, 3) := by decide +kernel
theorem dX2_closeFurther_14 : decode cX2_closeFurther 14 = .ok (.aload_n 0, 1) := by decide +kernel
theorem dX2_closeFurther_15 : decode cX2_closeFurther 15 = .ok (.getfield 48, 3) := by decide +kernel
theorem dX2_closeFurther_18 : decode cX2_closeFurther 18 = .ok (.ifCond .ne 8, 3) := by decide +kernel
theorem dX2_closeFurther_21 : decode cX2_closeFurther 21 = .ok (.aload_n 0, 1) := by decide +kernel
theorem dX2_closeFurther_22 : decode cX2_closeFurther 22 = .ok (.iconst 0, 1) := by decide +kernel
theorem dX2_closeFurther_23 : decode cX2_closeFurther 23 = .ok (.putfield 9, 3) := by decide +kernel
theorem dX2_closeFurther_26 : decode cX2_closeFurther 26 = .ok (.return_, 1) := by decide +kernel
def F_closeFurther (dstate : Int32) (dplace : Int32) : Int32 :=
  if (if (dplace - 1) < 0 then 0 else (dplace - 1)) = 0 then
    0
  else
    dstate
theorem F_closeFurther_u (dstate : Int32) (dplace : Int32) : F_closeFurther dstate dplace =
  (if (if (dplace - 1) < 0 then 0 else (dplace - 1)) = 0 then
    0
  else
    dstate) := rfl
set_option maxHeartbeats 4000000 in
set_option maxRecDepth 100000 in
theorem c_closeFurther (l : Launch) (D : va_G) (aI aL aZ : ClassId) (sz : Nat) (h0 : Nat) (dstate : Int32) (dplace : Int32) (dplaces : Int32) (dhold : Int32) (dsteps : Int32) (dbeam : Int32) (dob : Int32) (doc : Int32) : Met l yX2_closeFurther (.code yX2_closeFurther cX2_closeFurther 1 none :: Gw) ({ frames := 1, cells := 0, slots := 0, locals := 21 }) (va_Pc [.ref h0] (mpre D [(aI, .int), (aL, .long), (aZ, .boolean)] [(h0, .inr (2, [.int dstate, .int dplace, .int dplaces, .int dhold, .int dsteps, .int dbeam, .int dob, .int doc]))] sz)) ((fun A : Nat → Prop => va_Qv (fun (u : Int32) => F_closeFurther dstate dplace = u) (mpst D A (fun (u : Int32) => [(h0, .inr (2, [.int u, .int (if (dplace - 1) < 0 then 0 else (dplace - 1)), .int dplaces, .int dhold, .int dsteps, .int dbeam, .int dob, .int doc]))])) A) (va_A ([(h0, .inr (2, [.int dstate, .int dplace, .int dplaces, .int dhold, .int dsteps, .int dbeam, .int dob, .int doc]))]) sz)) 0 0 (va_A ([(h0, .inr (2, [.int dstate, .int dplace, .int dplaces, .int dhold, .int dsteps, .int dbeam, .int dob, .int doc]))]) sz) := by
  refine en (cc := cX2_closeFurther) (maxL := 1) (ret := none) (Qc := (fun A : Nat → Prop => va_Qv (fun (u : Int32) => F_closeFurther dstate dplace = u) (mpst D A (fun (u : Int32) => [(h0, .inr (2, [.int u, .int (if (dplace - 1) < 0 then 0 else (dplace - 1)), .int dplaces, .int dhold, .int dsteps, .int dbeam, .int dob, .int doc]))])) A)) (by decide) rfl (Nat.le_of_ble_eq_true rfl) ?_
  intro p e s m args below meth c A ls Q hQ hx hb hr hts hown hlk hnm hml hA hS hP hK hD hE hl
  have hown : s.vm.findClass RX2 = some m.cls := hown
  have hl : lv_has ls 1 [(0, .ref h0)] := hl
  have hG := F_closeFurther_u dstate dplace
  refine lv_aload_n hx hb dX2_closeFurther_0 rfl (lv_at hl 0 rfl) ?_
  refine lv_aload_n hx hb dX2_closeFurther_1 rfl (lv_at hl 0 rfl) ?_
  refine va_get (D := D) (ci := 2) (v := .int dplace) (C := RX2) (T := TX2) (N := 8) hx hb hts inX2 hown hK hP 0 rfl rfl 1 (by decide) (hts _ (mG w_253)) (fun _ h9 => h9) rfl dX2_closeFurther_2 ?_
  refine lv_iconst (v := 1) hx hb dX2_closeFurther_5 (by decide) ?_
  refine lv_isub hx hb dX2_closeFurther_6 ?_
  refine lv_iconst (v := 0) hx hb dX2_closeFurther_7 (by decide) ?_
  refine va_mmax hx hb (by rw [hml]; exact hl.1.symm) hown (hts _ (mG w_611)) (hts _ (mG w_59)) (hts _ (mG w_37)) (hts _ (mG w_60)) (Nat.le_of_ble_eq_true rfl) (Nat.le_of_ble_eq_true rfl) (Nat.le_of_ble_eq_true rfl) (Nat.le_of_ble_eq_true rfl) dX2_closeFurther_8 ?_
  refine va_put (D := D) (ci := 2) (v := .int (if (dplace - 1) < 0 then 0 else (dplace - 1))) (ty := .int) (C := RX2) (T := TX2) (N := 8) hx hb hts inX2 tyX2 tyX2_ok nmX2 hown hK hP hD hS 0 rfl rfl 1 (by decide) (hts _ (mG w_253)) (fun _ h9 => h9) rfl (by decide +kernel) rfl rfl (Nat.le_of_ble_eq_true rfl) dX2_closeFurther_11 (fun H locs hP hD hS => ?_)
  have hP : va_P D vwCl [(h0, .inr (2, [.int dstate, .int (if (dplace - 1) < 0 then 0 else (dplace - 1)), .int dplaces, .int dhold, .int dsteps, .int dbeam, .int dob, .int doc]))] H := hP
  have hD : va_D A [(h0, .inr (2, [.int dstate, .int (if (dplace - 1) < 0 then 0 else (dplace - 1)), .int dplaces, .int dhold, .int dsteps, .int dbeam, .int dob, .int doc]))] := hD
  refine lv_aload_n hx hb dX2_closeFurther_14 rfl (lv_at hl 0 rfl) ?_
  refine va_get (D := D) (ci := 2) (v := .int (if (dplace - 1) < 0 then 0 else (dplace - 1))) (C := RX2) (T := TX2) (N := 8) hx hb hts inX2 hown hK hP 0 rfl rfl 1 (by decide) (hts _ (mG w_253)) (fun _ h9 => h9) rfl dX2_closeFurther_15 ?_
  refine lv_if_ne (tgt := 26) hx hb dX2_closeFurther_18 (by decide) (fun c_1 => ?_) (fun c_1 => ?_)
  · have hG := hG.trans (if_neg c_1)
    have hP := hP.sub (ws' := [(h0, .inr (2, [.int dstate, .int (if (dplace - 1) < 0 then 0 else (dplace - 1)), .int dplaces, .int dhold, .int dsteps, .int dbeam, .int dob, .int doc]))]) [0] rfl
    have hD := hD.sub (ws' := [(h0, .inr (2, [.int dstate, .int (if (dplace - 1) < 0 then 0 else (dplace - 1)), .int dplaces, .int dhold, .int dsteps, .int dbeam, .int dob, .int doc]))]) [0] (by decide) rfl
    exact rt_v hQ hx hb hr dstate hG hP hD hS (Nat.le_of_ble_eq_true rfl) (Nat.le_of_ble_eq_true rfl) dX2_closeFurther_26 hlk
  · have hG := hG.trans (if_pos c_1)
    refine lv_aload_n hx hb dX2_closeFurther_21 rfl (lv_at hl 0 rfl) ?_
    refine lv_iconst (v := 0) hx hb dX2_closeFurther_22 (by decide) ?_
    refine va_put (D := D) (ci := 2) (v := .int 0) (ty := .int) (C := RX2) (T := TX2) (N := 8) hx hb hts inX2 tyX2 tyX2_ok nmX2 hown hK hP hD hS 0 rfl rfl 0 (by decide) (hts _ (mG w_250)) (fun _ h9 => h9) rfl (by decide +kernel) rfl rfl (Nat.le_of_ble_eq_true rfl) dX2_closeFurther_23 (fun H locs hP hD hS => ?_)
    have hP : va_P D vwCl [(h0, .inr (2, [.int 0, .int (if (dplace - 1) < 0 then 0 else (dplace - 1)), .int dplaces, .int dhold, .int dsteps, .int dbeam, .int dob, .int doc]))] H := hP
    have hD : va_D A [(h0, .inr (2, [.int 0, .int (if (dplace - 1) < 0 then 0 else (dplace - 1)), .int dplaces, .int dhold, .int dsteps, .int dbeam, .int dob, .int doc]))] := hD
    have hP := hP.sub (ws' := [(h0, .inr (2, [.int 0, .int (if (dplace - 1) < 0 then 0 else (dplace - 1)), .int dplaces, .int dhold, .int dsteps, .int dbeam, .int dob, .int doc]))]) [0] rfl
    have hD := hD.sub (ws' := [(h0, .inr (2, [.int 0, .int (if (dplace - 1) < 0 then 0 else (dplace - 1)), .int dplaces, .int dhold, .int dsteps, .int dbeam, .int dob, .int doc]))]) [0] (by decide) rfl
    exact rt_v hQ hx hb hr 0 hG hP hD hS (Nat.le_of_ble_eq_true rfl) (Nat.le_of_ble_eq_true rfl) dX2_closeFurther_26 hlk
theorem dX2_isTimeToClose_0 : decode cX2_isTimeToClose 0 = .ok (.iload_n 1, 1) := by decide +kernel
theorem dX2_isTimeToClose_1 : decode cX2_isTimeToClose 1 = .ok (.ifCond .ne 27, 3) := by decide +kernel
theorem dX2_isTimeToClose_4 : decode cX2_isTimeToClose 4 = .ok (.aload_n 0, 1) := by decide +kernel
theorem dX2_isTimeToClose_5 : decode cX2_isTimeToClose 5 = .ok (.getfield 27, 3) := by decide +kernel
theorem dX2_isTimeToClose_8 : decode cX2_isTimeToClose 8 = .ok (.aload_n 0, 1) := by decide +kernel
theorem dX2_isTimeToClose_9 : decode cX2_isTimeToClose 9 = .ok (.getfield 18, 3) := by decide +kernel
theorem dX2_isTimeToClose_12 : decode cX2_isTimeToClose 12 = .ok (.if_icmp .lt 14, 3) := by decide +kernel
theorem dX2_isTimeToClose_15 : decode cX2_isTimeToClose 15 = .ok (.aload_n 0, 1) := by decide +kernel
theorem dX2_isTimeToClose_16 : decode cX2_isTimeToClose 16 = .ok (.getfield 41, 3) := by decide +kernel
theorem dX2_isTimeToClose_19 : decode cX2_isTimeToClose 19 = .ok (.ifCond .ne 7, 3) := by decide +kernel
theorem dX2_isTimeToClose_22 : decode cX2_isTimeToClose 22 = .ok (.iconst 1, 1) := by decide +kernel
theorem dX2_isTimeToClose_23 : decode cX2_isTimeToClose 23 = .ok (.goto 4, 3) := by decide +kernel
theorem dX2_isTimeToClose_26 : decode cX2_isTimeToClose 26 = .ok (.iconst 0, 1) := by decide +kernel
theorem dX2_isTimeToClose_27 : decode cX2_isTimeToClose 27 = .ok (.ireturn, 1) := by decide +kernel
theorem dX2_isTimeToClose_28 : decode cX2_isTimeToClose 28 = .ok (.iload_n 1, 1) := by decide +kernel
theorem dX2_isTimeToClose_29 : decode cX2_isTimeToClose 29 = .ok (.iconst 3, 1) := by decide +kernel
theorem dX2_isTimeToClose_30 : decode cX2_isTimeToClose 30 = .ok (.if_icmp .ne 11, 3) := by decide +kernel
theorem dX2_isTimeToClose_33 : decode cX2_isTimeToClose 33 = .ok (.iload_n 2, 1) := by decide +kernel
theorem dX2_isTimeToClose_34 : decode cX2_isTimeToClose 34 = .ok (.ifCond .eq 7, 3) := by decide +kernel
theorem dX2_isTimeToClose_37 : decode cX2_isTimeToClose 37 = .ok (.iconst 1, 1) := by decide +kernel
theorem dX2_isTimeToClose_38 : decode cX2_isTimeToClose 38 = .ok (.goto 4, 3) := by decide +kernel
theorem dX2_isTimeToClose_41 : decode cX2_isTimeToClose 41 = .ok (.iconst 0, 1) := by decide +kernel
theorem dX2_isTimeToClose_42 : decode cX2_isTimeToClose 42 = .ok (.ireturn, 1) := by decide +kernel
def F_isTimeToClose (dhold : Int32) (dsteps : Int32) (dbeam : Int32) (p0 : Int32) (p1 : Int32) : Int32 :=
  if p0 = 0 then
    if dsteps < dhold then
      0
    else
      if dbeam = 0 then
        1
      else
        0
  else
    if p0 = 3 then
      if p1 = 0 then
        0
      else
        1
    else
      0
theorem F_isTimeToClose_u (dhold : Int32) (dsteps : Int32) (dbeam : Int32) (p0 : Int32) (p1 : Int32) : F_isTimeToClose dhold dsteps dbeam p0 p1 =
  (if p0 = 0 then
    if dsteps < dhold then
      0
    else
      if dbeam = 0 then
        1
      else
        0
  else
    if p0 = 3 then
      if p1 = 0 then
        0
      else
        1
    else
      0) := rfl
set_option maxHeartbeats 4000000 in
set_option maxRecDepth 100000 in
theorem c_isTimeToClose (l : Launch) (D : va_G) (aI aL aZ : ClassId) (sz : Nat) (h0 : Nat) (dstate : Int32) (dplace : Int32) (dplaces : Int32) (dhold : Int32) (dsteps : Int32) (dbeam : Int32) (dob : Int32) (doc : Int32) (p0 : Int32) (p1 : Int32) : Met l yX2_isTimeToClose (.code yX2_isTimeToClose cX2_isTimeToClose 3 (some .boolean) :: Gw) ({ frames := 0, cells := 0, slots := 0, locals := 0 }) (va_Pc [.ref h0, .int p0, .int p1] (mpre D [(aI, .int), (aL, .long), (aZ, .boolean)] [(h0, .inr (2, [.int dstate, .int dplace, .int dplaces, .int dhold, .int dsteps, .int dbeam, .int dob, .int doc]))] sz)) ((fun A : Nat → Prop => va_Qi (fun (r : Int32) (u : Unit) => F_isTimeToClose dhold dsteps dbeam p0 p1 = r ∧ nb r) (mpst D A (fun (u : Unit) => [(h0, .inr (2, [.int dstate, .int dplace, .int dplaces, .int dhold, .int dsteps, .int dbeam, .int dob, .int doc]))])) A) (va_A ([(h0, .inr (2, [.int dstate, .int dplace, .int dplaces, .int dhold, .int dsteps, .int dbeam, .int dob, .int doc]))]) sz)) 0 0 (va_A ([(h0, .inr (2, [.int dstate, .int dplace, .int dplaces, .int dhold, .int dsteps, .int dbeam, .int dob, .int doc]))]) sz) := by
  refine en (cc := cX2_isTimeToClose) (maxL := 3) (ret := (some .boolean)) (Qc := (fun A : Nat → Prop => va_Qi (fun (r : Int32) (u : Unit) => F_isTimeToClose dhold dsteps dbeam p0 p1 = r ∧ nb r) (mpst D A (fun (u : Unit) => [(h0, .inr (2, [.int dstate, .int dplace, .int dplaces, .int dhold, .int dsteps, .int dbeam, .int dob, .int doc]))])) A)) (by decide) rfl (Nat.le_of_ble_eq_true rfl) ?_
  intro p e s m args below meth c A ls Q hQ hx hb hr hts hown hlk hnm hml hA hS hP hK hD hE hl
  have hown : s.vm.findClass RX2 = some m.cls := hown
  have hl : lv_has ls 3 [(0, .ref h0), (1, .int p0), (2, .int p1)] := hl
  have hG := F_isTimeToClose_u dhold dsteps dbeam p0 p1
  refine lv_iload_n hx hb dX2_isTimeToClose_0 rfl (lv_at hl 1 rfl) ?_
  refine lv_if_ne (tgt := 28) hx hb dX2_isTimeToClose_1 (by decide) (fun c_1 => ?_) (fun c_1 => ?_)
  · have hG := hG.trans (if_neg c_1)
    refine lv_iload_n hx hb dX2_isTimeToClose_28 rfl (lv_at hl 1 rfl) ?_
    refine lv_iconst (v := 3) hx hb dX2_isTimeToClose_29 (by decide) ?_
    refine lv_icmp_ne (tgt := 41) hx hb dX2_isTimeToClose_30 (by decide) (fun c_2 => ?_) (fun c_2 => ?_)
    · have hG := hG.trans (if_neg c_2)
      refine lv_iconst (v := 0) hx hb dX2_isTimeToClose_41 (by decide) ?_
      have hP := hP.sub (ws' := [(h0, .inr (2, [.int dstate, .int dplace, .int dplaces, .int dhold, .int dsteps, .int dbeam, .int dob, .int doc]))]) [0] rfl
      have hD := hD.sub (ws' := [(h0, .inr (2, [.int dstate, .int dplace, .int dplaces, .int dhold, .int dsteps, .int dbeam, .int dob, .int doc]))]) [0] (by decide) rfl
      exact rt_z hQ hx hb hr (nb_n (Or.inl rfl)) () ⟨hG, (Or.inl rfl)⟩ hP hD hS (Nat.le_of_ble_eq_true rfl) (Nat.le_of_ble_eq_true rfl) dX2_isTimeToClose_42 hlk
    · have hG := hG.trans (if_pos c_2)
      refine lv_iload_n hx hb dX2_isTimeToClose_33 rfl (lv_at hl 2 rfl) ?_
      refine lv_if_eq (tgt := 41) hx hb dX2_isTimeToClose_34 (by decide) (fun c_3 => ?_) (fun c_3 => ?_)
      · have hG := hG.trans (if_pos c_3)
        refine lv_iconst (v := 0) hx hb dX2_isTimeToClose_41 (by decide) ?_
        have hP := hP.sub (ws' := [(h0, .inr (2, [.int dstate, .int dplace, .int dplaces, .int dhold, .int dsteps, .int dbeam, .int dob, .int doc]))]) [0] rfl
        have hD := hD.sub (ws' := [(h0, .inr (2, [.int dstate, .int dplace, .int dplaces, .int dhold, .int dsteps, .int dbeam, .int dob, .int doc]))]) [0] (by decide) rfl
        exact rt_z hQ hx hb hr (nb_n (Or.inl rfl)) () ⟨hG, (Or.inl rfl)⟩ hP hD hS (Nat.le_of_ble_eq_true rfl) (Nat.le_of_ble_eq_true rfl) dX2_isTimeToClose_42 hlk
      · have hG := hG.trans (if_neg c_3)
        refine lv_iconst (v := 1) hx hb dX2_isTimeToClose_37 (by decide) ?_
        refine lv_goto (tgt := 42) hx hb dX2_isTimeToClose_38 (by decide) ?_
        have hP := hP.sub (ws' := [(h0, .inr (2, [.int dstate, .int dplace, .int dplaces, .int dhold, .int dsteps, .int dbeam, .int dob, .int doc]))]) [0] rfl
        have hD := hD.sub (ws' := [(h0, .inr (2, [.int dstate, .int dplace, .int dplaces, .int dhold, .int dsteps, .int dbeam, .int dob, .int doc]))]) [0] (by decide) rfl
        exact rt_z hQ hx hb hr (nb_n (Or.inr rfl)) () ⟨hG, (Or.inr rfl)⟩ hP hD hS (Nat.le_of_ble_eq_true rfl) (Nat.le_of_ble_eq_true rfl) dX2_isTimeToClose_42 hlk
  · have hG := hG.trans (if_pos c_1)
    refine lv_aload_n hx hb dX2_isTimeToClose_4 rfl (lv_at hl 0 rfl) ?_
    refine va_get (D := D) (ci := 2) (v := .int dsteps) (C := RX2) (T := TX2) (N := 8) hx hb hts inX2 hown hK hP 0 rfl rfl 4 (by decide) (hts _ (mG w_259)) (fun _ h9 => h9) rfl dX2_isTimeToClose_5 ?_
    refine lv_aload_n hx hb dX2_isTimeToClose_8 rfl (lv_at hl 0 rfl) ?_
    refine va_get (D := D) (ci := 2) (v := .int dhold) (C := RX2) (T := TX2) (N := 8) hx hb hts inX2 hown hK hP 0 rfl rfl 3 (by decide) (hts _ (mG w_257)) (fun _ h9 => h9) rfl dX2_isTimeToClose_9 ?_
    refine lv_icmp_lt (tgt := 26) hx hb dX2_isTimeToClose_12 (by decide) (fun c_4 => ?_) (fun c_4 => ?_)
    · have hG := hG.trans (if_pos c_4)
      refine lv_iconst (v := 0) hx hb dX2_isTimeToClose_26 (by decide) ?_
      have hP := hP.sub (ws' := [(h0, .inr (2, [.int dstate, .int dplace, .int dplaces, .int dhold, .int dsteps, .int dbeam, .int dob, .int doc]))]) [0] rfl
      have hD := hD.sub (ws' := [(h0, .inr (2, [.int dstate, .int dplace, .int dplaces, .int dhold, .int dsteps, .int dbeam, .int dob, .int doc]))]) [0] (by decide) rfl
      exact rt_z hQ hx hb hr (nb_n (Or.inl rfl)) () ⟨hG, (Or.inl rfl)⟩ hP hD hS (Nat.le_of_ble_eq_true rfl) (Nat.le_of_ble_eq_true rfl) dX2_isTimeToClose_27 hlk
    · have hG := hG.trans (if_neg c_4)
      refine lv_aload_n hx hb dX2_isTimeToClose_15 rfl (lv_at hl 0 rfl) ?_
      refine va_get (D := D) (ci := 2) (v := .int dbeam) (C := RX2) (T := TX2) (N := 8) hx hb hts inX2 hown hK hP 0 rfl rfl 5 (by decide) (hts _ (mG w_260)) (fun _ h9 => h9) rfl dX2_isTimeToClose_16 ?_
      refine lv_if_ne (tgt := 26) hx hb dX2_isTimeToClose_19 (by decide) (fun c_5 => ?_) (fun c_5 => ?_)
      · have hG := hG.trans (if_neg c_5)
        refine lv_iconst (v := 0) hx hb dX2_isTimeToClose_26 (by decide) ?_
        have hP := hP.sub (ws' := [(h0, .inr (2, [.int dstate, .int dplace, .int dplaces, .int dhold, .int dsteps, .int dbeam, .int dob, .int doc]))]) [0] rfl
        have hD := hD.sub (ws' := [(h0, .inr (2, [.int dstate, .int dplace, .int dplaces, .int dhold, .int dsteps, .int dbeam, .int dob, .int doc]))]) [0] (by decide) rfl
        exact rt_z hQ hx hb hr (nb_n (Or.inl rfl)) () ⟨hG, (Or.inl rfl)⟩ hP hD hS (Nat.le_of_ble_eq_true rfl) (Nat.le_of_ble_eq_true rfl) dX2_isTimeToClose_27 hlk
      · have hG := hG.trans (if_pos c_5)
        refine lv_iconst (v := 1) hx hb dX2_isTimeToClose_22 (by decide) ?_
        refine lv_goto (tgt := 27) hx hb dX2_isTimeToClose_23 (by decide) ?_
        have hP := hP.sub (ws' := [(h0, .inr (2, [.int dstate, .int dplace, .int dplaces, .int dhold, .int dsteps, .int dbeam, .int dob, .int doc]))]) [0] rfl
        have hD := hD.sub (ws' := [(h0, .inr (2, [.int dstate, .int dplace, .int dplaces, .int dhold, .int dsteps, .int dbeam, .int dob, .int doc]))]) [0] (by decide) rfl
        exact rt_z hQ hx hb hr (nb_n (Or.inr rfl)) () ⟨hG, (Or.inr rfl)⟩ hP hD hS (Nat.le_of_ble_eq_true rfl) (Nat.le_of_ble_eq_true rfl) dX2_isTimeToClose_27 hlk
theorem dX2_takeStep_0 : decode cX2_takeStep 0 = .ok (.aload_n 0, 1) := by decide +kernel
theorem dX2_takeStep_1 : decode cX2_takeStep 1 = .ok (.getfield 9, 3) := by decide +kernel
theorem dX2_takeStep_4 : decode cX2_takeStep 4 = .ok (.tableswitch 97 1 3 #[28, 35, 66], 28) := by decide +kernel
theorem dX2_takeStep_32 : decode cX2_takeStep 32 = .ok (.aload_n 0, 1) := by decide +kernel
theorem dX2_takeStep_33 : decode cX2_takeStep 33 = .ok (.invokevirtual 34, 3) := by decide +kernel
theorem dX2_takeStep_36 : decode cX2_takeStep 36 = .ok (.goto 65, 3) := by decide +kernel
theorem dX2_takeStep_39 : decode cX2_takeStep 39 = .ok (.aload_n 0, 1) := by decide +kernel
theorem dX2_takeStep_40 : decode cX2_takeStep 40 = .ok (.dup, 1) := by decide +kernel
theorem dX2_takeStep_41 : decode cX2_takeStep 41 = .ok (.getfield 27, 3) := by decide +kernel
theorem dX2_takeStep_44 : decode cX2_takeStep 44 = .ok (.iconst 1, 1) := by decide +kernel
theorem dX2_takeStep_45 : decode cX2_takeStep 45 = .ok (.iadd, 1) := by decide +kernel
theorem dX2_takeStep_46 : decode cX2_takeStep 46 = .ok (.putfield 27, 3) := by decide +kernel
theorem dX2_takeStep_49 : decode cX2_takeStep 49 = .ok (.iload_n 2, 1) := by decide +kernel
theorem dX2_takeStep_50 : decode cX2_takeStep 50 = .ok (.ifCond .ne 51, 3) := by decide +kernel
theorem dX2_takeStep_53 : decode cX2_takeStep 53 = .ok (.aload_n 0, 1) := by decide +kernel
theorem dX2_takeStep_54 : decode cX2_takeStep 54 = .ok (.iload_n 1, 1) := by decide +kernel
theorem dX2_takeStep_55 : decode cX2_takeStep 55 = .ok (.iload_n 3, 1) := by decide +kernel
theorem dX2_takeStep_56 : decode cX2_takeStep 56 = .ok (.invokevirtual 37, 3) := by decide +kernel
theorem dX2_takeStep_59 : decode cX2_takeStep 59 = .ok (.ifCond .eq 42, 3) := by decide +kernel
theorem dX2_takeStep_62 : decode cX2_takeStep 62 = .ok (.aload_n 0, 1) := by decide +kernel
theorem dX2_takeStep_63 : decode cX2_takeStep 63 = .ok (.iconst 3, 1) := by decide +kernel
theorem dX2_takeStep_64 : decode cX2_takeStep 64 = .ok (.putfield 9, 3) := by decide +kernel
theorem dX2_takeStep_67 : decode cX2_takeStep 67 = .ok (.goto 34, 3) := by decide +kernel
theorem dX2_takeStep_70 : decode cX2_takeStep 70 = .ok (.iload_n 2, 1) := by decide +kernel
theorem dX2_takeStep_71 : decode cX2_takeStep 71 = .ok (.ifCond .ne 15, 3) := by decide +kernel
theorem dX2_takeStep_74 : decode cX2_takeStep 74 = .ok (.aload_n 0, 1) := by decide +kernel
theorem dX2_takeStep_75 : decode cX2_takeStep 75 = .ok (.getfield 41, 3) := by decide +kernel
theorem dX2_takeStep_78 : decode cX2_takeStep 78 = .ok (.ifCond .eq 16, 3) := by decide +kernel
theorem dX2_takeStep_81 : decode cX2_takeStep 81 = .ok (.iload_n 1, 1) := by decide +kernel
theorem dX2_takeStep_82 : decode cX2_takeStep 82 = .ok (.iconst 3, 1) := by decide +kernel
theorem dX2_takeStep_83 : decode cX2_takeStep 83 = .ok (.if_icmp .eq 11, 3) := by decide +kernel
theorem dX2_takeStep_86 : decode cX2_takeStep 86 = .ok (.aload_n 0, 1) := by decide +kernel
theorem dX2_takeStep_87 : decode cX2_takeStep 87 = .ok (.invokevirtual 30, 3) := by decide +kernel
theorem dX2_takeStep_90 : decode cX2_takeStep 90 = .ok (.pop, 1) := by decide +kernel
theorem dX2_takeStep_91 : decode cX2_takeStep 91 = .ok (.goto 10, 3) := by decide +kernel
theorem dX2_takeStep_94 : decode cX2_takeStep 94 = .ok (.aload_n 0, 1) := by decide +kernel
theorem dX2_takeStep_95 : decode cX2_takeStep 95 = .ok (.invokevirtual 45, 3) := by decide +kernel
theorem dX2_takeStep_98 : decode cX2_takeStep 98 = .ok (.goto 3, 3) := by decide +kernel
theorem dX2_takeStep_101 : decode cX2_takeStep 101 = .ok (.return_, 1) := by decide +kernel
def F_dTakeStep (dstate : Int32) (dplace : Int32) (dplaces : Int32) (dhold : Int32) (dsteps : Int32) (dbeam : Int32) (dob : Int32) (doc : Int32) (p0 : Int32) (p1 : Int32) (p2 : Int32) : Int32 × Int32 × Int32 × Int32 × Int32 :=
  if dstate = 1 then
    cb (F_openFurther dstate dplace dplaces dsteps) fun (x_2, x_3) =>
      (x_2, (if dplaces < (dplace + 1) then dplaces else (dplace + 1)), x_3, dob, doc)
  else
    if dstate = 2 then
      if p1 = 0 then
        cb (F_isTimeToClose dhold (dsteps + 1) dbeam p0 p2) fun r_7 =>
          if r_7 = 0 then
            (dstate, dplace, (dsteps + 1), dob, doc)
          else
            (3, dplace, (dsteps + 1), dob, doc)
      else
        (dstate, dplace, (dsteps + 1), dob, doc)
    else
      if dstate = 3 then
        if p1 = 0 then
          if dbeam = 0 then
            cb (F_closeFurther dstate dplace) fun x_18 =>
              (x_18, (if (dplace - 1) < 0 then 0 else (dplace - 1)), dsteps, dob, doc)
          else
            if p0 = 3 then
              cb (F_closeFurther dstate dplace) fun x_21 =>
                (x_21, (if (dplace - 1) < 0 then 0 else (dplace - 1)), dsteps, dob, doc)
            else
              cb (F_turnToOpening dstate dob doc) fun (r_23, x_24, x_25, x_26) =>
                (x_24, dplace, dsteps, x_25, x_26)
        else
          cb (F_turnToOpening dstate dob doc) fun (r_12, x_13, x_14, x_15) =>
            (x_13, dplace, dsteps, x_14, x_15)
      else
        (dstate, dplace, dsteps, dob, doc)
theorem F_dTakeStep_u (dstate : Int32) (dplace : Int32) (dplaces : Int32) (dhold : Int32) (dsteps : Int32) (dbeam : Int32) (dob : Int32) (doc : Int32) (p0 : Int32) (p1 : Int32) (p2 : Int32) : F_dTakeStep dstate dplace dplaces dhold dsteps dbeam dob doc p0 p1 p2 =
  (if dstate = 1 then
    cb (F_openFurther dstate dplace dplaces dsteps) fun (x_2, x_3) =>
      (x_2, (if dplaces < (dplace + 1) then dplaces else (dplace + 1)), x_3, dob, doc)
  else
    if dstate = 2 then
      if p1 = 0 then
        cb (F_isTimeToClose dhold (dsteps + 1) dbeam p0 p2) fun r_7 =>
          if r_7 = 0 then
            (dstate, dplace, (dsteps + 1), dob, doc)
          else
            (3, dplace, (dsteps + 1), dob, doc)
      else
        (dstate, dplace, (dsteps + 1), dob, doc)
    else
      if dstate = 3 then
        if p1 = 0 then
          if dbeam = 0 then
            cb (F_closeFurther dstate dplace) fun x_18 =>
              (x_18, (if (dplace - 1) < 0 then 0 else (dplace - 1)), dsteps, dob, doc)
          else
            if p0 = 3 then
              cb (F_closeFurther dstate dplace) fun x_21 =>
                (x_21, (if (dplace - 1) < 0 then 0 else (dplace - 1)), dsteps, dob, doc)
            else
              cb (F_turnToOpening dstate dob doc) fun (r_23, x_24, x_25, x_26) =>
                (x_24, dplace, dsteps, x_25, x_26)
        else
          cb (F_turnToOpening dstate dob doc) fun (r_12, x_13, x_14, x_15) =>
            (x_13, dplace, dsteps, x_14, x_15)
      else
        (dstate, dplace, dsteps, dob, doc)) := rfl
set_option maxHeartbeats 4000000 in
set_option maxRecDepth 100000 in
theorem c_dTakeStep (l : Launch) (D : va_G) (aI aL aZ : ClassId) (sz : Nat) (h0 : Nat) (dstate : Int32) (dplace : Int32) (dplaces : Int32) (dhold : Int32) (dsteps : Int32) (dbeam : Int32) (dob : Int32) (doc : Int32) (p0 : Int32) (p1 : Int32) (p2 : Int32) : Met l yX2_takeStep (.code yX2_takeStep cX2_takeStep 4 none :: Gw) ({ frames := 2, cells := 0, slots := 0, locals := 41 }) (va_Pc [.ref h0, .int p0, .int p1, .int p2] (mpre D [(aI, .int), (aL, .long), (aZ, .boolean)] [(h0, .inr (2, [.int dstate, .int dplace, .int dplaces, .int dhold, .int dsteps, .int dbeam, .int dob, .int doc]))] sz)) ((fun A : Nat → Prop => va_Qv (fun (u : Int32 × Int32 × Int32 × Int32 × Int32) => match u with | (u0, u1, u2, u3, u4) => F_dTakeStep dstate dplace dplaces dhold dsteps dbeam dob doc p0 p1 p2 = (u0, u1, u2, u3, u4)) (mpst D A (fun (u : Int32 × Int32 × Int32 × Int32 × Int32) => match u with | (u0, u1, u2, u3, u4) => [(h0, .inr (2, [.int u0, .int u1, .int dplaces, .int dhold, .int u2, .int dbeam, .int u3, .int u4]))])) A) (va_A ([(h0, .inr (2, [.int dstate, .int dplace, .int dplaces, .int dhold, .int dsteps, .int dbeam, .int dob, .int doc]))]) sz)) 0 0 (va_A ([(h0, .inr (2, [.int dstate, .int dplace, .int dplaces, .int dhold, .int dsteps, .int dbeam, .int dob, .int doc]))]) sz) := by
  refine en (cc := cX2_takeStep) (maxL := 4) (ret := none) (Qc := (fun A : Nat → Prop => va_Qv (fun (u : Int32 × Int32 × Int32 × Int32 × Int32) => match u with | (u0, u1, u2, u3, u4) => F_dTakeStep dstate dplace dplaces dhold dsteps dbeam dob doc p0 p1 p2 = (u0, u1, u2, u3, u4)) (mpst D A (fun (u : Int32 × Int32 × Int32 × Int32 × Int32) => match u with | (u0, u1, u2, u3, u4) => [(h0, .inr (2, [.int u0, .int u1, .int dplaces, .int dhold, .int u2, .int dbeam, .int u3, .int u4]))])) A)) (by decide) rfl (Nat.le_of_ble_eq_true rfl) ?_
  intro p e s m args below meth c A ls Q hQ hx hb hr hts hown hlk hnm hml hA hS hP hK hD hE hl
  have hown : s.vm.findClass RX2 = some m.cls := hown
  have hl : lv_has ls 4 [(0, .ref h0), (1, .int p0), (2, .int p1), (3, .int p2)] := hl
  have hG := F_dTakeStep_u dstate dplace dplaces dhold dsteps dbeam dob doc p0 p1 p2
  refine lv_aload_n hx hb dX2_takeStep_0 rfl (lv_at hl 0 rfl) ?_
  refine va_get (D := D) (ci := 2) (v := .int dstate) (C := RX2) (T := TX2) (N := 8) hx hb hts inX2 hown hK hP 0 rfl rfl 0 (by decide) (hts _ (mG w_250)) (fun _ h9 => h9) rfl dX2_takeStep_1 ?_
  by_cases c_1 : dstate = 1
  · have hG := hG.trans (if_pos c_1)
    refine lv_tableIn (off := 28) (tgt := 32) hx hb dX2_takeStep_4 (by rw [c_1]; decide) (by rw [c_1]; decide) (by rw [c_1]; rfl) (by decide) ?_
    refine lv_aload_n hx hb dX2_takeStep_32 rfl (lv_at hl 0 rfl) ?_
    refine my_v (wr := []) [0] [] (va_runV (As := []) (rest := []) ⟨hx, hb, hml, hown, hts⟩ (c_openFurther l D aI aL aZ _ h0 dstate dplace dplaces dhold dsteps dbeam dob doc) (cwV 0 hts (gV w_598 w_600 w_15 w_45 w_601) rfl rfl rfl (by decide +kernel) ⟨Nat.le_of_ble_eq_true rfl, Nat.le_of_ble_eq_true rfl⟩) (prev_of hK hP hD hS hA hE [0] rfl (by decide) (ci := 2) rfl 0 rfl _) rfl rfl hl.1 rfl (lv_room (Nat.le_of_ble_eq_true rfl)) dX2_takeStep_33 ⟨Nat.le_of_ble_eq_true rfl, Nat.le_of_ble_eq_true rfl⟩) hP hD hS hA rfl rfl (by decide) (by decide) (fun u_ H locs hw_4 hP hD hS => ?_)
    obtain ⟨x_2, x_3⟩ := u_
    have hw_4 : F_openFurther dstate dplace dplaces dsteps = (x_2, x_3) := hw_4
    have hG := hG.trans (cb_e hw_4)
    have hP : va_P D vwCl [(h0, .inr (2, [.int x_2, .int (if dplaces < (dplace + 1) then dplaces else (dplace + 1)), .int dplaces, .int dhold, .int x_3, .int dbeam, .int dob, .int doc]))] H := hP
    have hD : va_D A [(h0, .inr (2, [.int x_2, .int (if dplaces < (dplace + 1) then dplaces else (dplace + 1)), .int dplaces, .int dhold, .int x_3, .int dbeam, .int dob, .int doc]))] := hD
    refine lv_goto (tgt := 101) hx hb dX2_takeStep_36 (by decide) ?_
    have hP := hP.sub (ws' := [(h0, .inr (2, [.int x_2, .int (if dplaces < (dplace + 1) then dplaces else (dplace + 1)), .int dplaces, .int dhold, .int x_3, .int dbeam, .int dob, .int doc]))]) [0] rfl
    have hD := hD.sub (ws' := [(h0, .inr (2, [.int x_2, .int (if dplaces < (dplace + 1) then dplaces else (dplace + 1)), .int dplaces, .int dhold, .int x_3, .int dbeam, .int dob, .int doc]))]) [0] (by decide) rfl
    exact rt_v hQ hx hb hr (x_2, (if dplaces < (dplace + 1) then dplaces else (dplace + 1)), x_3, dob, doc) hG hP hD hS (Nat.le_of_ble_eq_true rfl) (Nat.le_of_ble_eq_true rfl) dX2_takeStep_101 hlk
  · have hG := hG.trans (if_neg c_1)
    by_cases c_5 : dstate = 2
    · have hG := hG.trans (if_pos c_5)
      refine lv_tableIn (off := 35) (tgt := 39) hx hb dX2_takeStep_4 (by rw [c_5]; decide) (by rw [c_5]; decide) (by rw [c_5]; rfl) (by decide) ?_
      refine lv_aload_n hx hb dX2_takeStep_39 rfl (lv_at hl 0 rfl) ?_
      refine lv_dup hx hb dX2_takeStep_40 rfl ?_
      refine va_get (D := D) (ci := 2) (v := .int dsteps) (C := RX2) (T := TX2) (N := 8) hx hb hts inX2 hown hK hP 0 rfl rfl 4 (by decide) (hts _ (mG w_259)) (fun _ h9 => h9) rfl dX2_takeStep_41 ?_
      refine lv_iconst (v := 1) hx hb dX2_takeStep_44 (by decide) ?_
      refine lv_iadd hx hb dX2_takeStep_45 ?_
      refine va_put (D := D) (ci := 2) (v := .int (dsteps + 1)) (ty := .int) (C := RX2) (T := TX2) (N := 8) hx hb hts inX2 tyX2 tyX2_ok nmX2 hown hK hP hD hS 0 rfl rfl 4 (by decide) (hts _ (mG w_259)) (fun _ h9 => h9) rfl (by decide +kernel) rfl rfl (Nat.le_of_ble_eq_true rfl) dX2_takeStep_46 (fun H locs hP hD hS => ?_)
      have hP : va_P D vwCl [(h0, .inr (2, [.int dstate, .int dplace, .int dplaces, .int dhold, .int (dsteps + 1), .int dbeam, .int dob, .int doc]))] H := hP
      have hD : va_D A [(h0, .inr (2, [.int dstate, .int dplace, .int dplaces, .int dhold, .int (dsteps + 1), .int dbeam, .int dob, .int doc]))] := hD
      refine lv_iload_n hx hb dX2_takeStep_49 rfl (lv_at hl 2 rfl) ?_
      refine lv_if_ne (tgt := 101) hx hb dX2_takeStep_50 (by decide) (fun c_6 => ?_) (fun c_6 => ?_)
      · have hG := hG.trans (if_neg c_6)
        have hP := hP.sub (ws' := [(h0, .inr (2, [.int dstate, .int dplace, .int dplaces, .int dhold, .int (dsteps + 1), .int dbeam, .int dob, .int doc]))]) [0] rfl
        have hD := hD.sub (ws' := [(h0, .inr (2, [.int dstate, .int dplace, .int dplaces, .int dhold, .int (dsteps + 1), .int dbeam, .int dob, .int doc]))]) [0] (by decide) rfl
        exact rt_v hQ hx hb hr (dstate, dplace, (dsteps + 1), dob, doc) hG hP hD hS (Nat.le_of_ble_eq_true rfl) (Nat.le_of_ble_eq_true rfl) dX2_takeStep_101 hlk
      · have hG := hG.trans (if_pos c_6)
        refine lv_aload_n hx hb dX2_takeStep_53 rfl (lv_at hl 0 rfl) ?_
        refine lv_iload_n hx hb dX2_takeStep_54 rfl (lv_at hl 1 rfl) ?_
        refine lv_iload_n hx hb dX2_takeStep_55 rfl (lv_at hl 3 rfl) ?_
        refine my_i (wr := []) [0] [] (va_runV (As := [.int p0, .int p2]) (rest := []) ⟨hx, hb, hml, hown, hts⟩ (c_isTimeToClose l D aI aL aZ _ h0 dstate dplace dplaces dhold (dsteps + 1) dbeam dob doc p0 p2) (cwV 2 hts (gV w_603 w_605 w_16 w_45 w_606) rfl rfl rfl (by decide +kernel) ⟨Nat.le_of_ble_eq_true rfl, Nat.le_of_ble_eq_true rfl⟩) (prev_of hK hP hD hS hA hE [0] rfl (by decide) (ci := 2) rfl 0 rfl _) rfl rfl hl.1 rfl (lv_room (Nat.le_of_ble_eq_true rfl)) dX2_takeStep_56 ⟨Nat.le_of_ble_eq_true rfl, Nat.le_of_ble_eq_true rfl⟩) hP hD hS hA rfl rfl (by decide) (by decide) (fun r_7 u_ H locs hw_8 hP hD hS => ?_)
        have hw_8 : F_isTimeToClose dhold (dsteps + 1) dbeam p0 p2 = r_7 ∧ nb r_7 := hw_8
        have hG := hG.trans (cb_e hw_8.1)
        have hP : va_P D vwCl [(h0, .inr (2, [.int dstate, .int dplace, .int dplaces, .int dhold, .int (dsteps + 1), .int dbeam, .int dob, .int doc]))] H := hP
        have hD : va_D A [(h0, .inr (2, [.int dstate, .int dplace, .int dplaces, .int dhold, .int (dsteps + 1), .int dbeam, .int dob, .int doc]))] := hD
        refine lv_if_eq (tgt := 101) hx hb dX2_takeStep_59 (by decide) (fun c_9 => ?_) (fun c_9 => ?_)
        · have hG := hG.trans (if_pos c_9)
          have hP := hP.sub (ws' := [(h0, .inr (2, [.int dstate, .int dplace, .int dplaces, .int dhold, .int (dsteps + 1), .int dbeam, .int dob, .int doc]))]) [0] rfl
          have hD := hD.sub (ws' := [(h0, .inr (2, [.int dstate, .int dplace, .int dplaces, .int dhold, .int (dsteps + 1), .int dbeam, .int dob, .int doc]))]) [0] (by decide) rfl
          exact rt_v hQ hx hb hr (dstate, dplace, (dsteps + 1), dob, doc) hG hP hD hS (Nat.le_of_ble_eq_true rfl) (Nat.le_of_ble_eq_true rfl) dX2_takeStep_101 hlk
        · have hG := hG.trans (if_neg c_9)
          refine lv_aload_n hx hb dX2_takeStep_62 rfl (lv_at hl 0 rfl) ?_
          refine lv_iconst (v := 3) hx hb dX2_takeStep_63 (by decide) ?_
          refine va_put (D := D) (ci := 2) (v := .int 3) (ty := .int) (C := RX2) (T := TX2) (N := 8) hx hb hts inX2 tyX2 tyX2_ok nmX2 hown hK hP hD hS 0 rfl rfl 0 (by decide) (hts _ (mG w_250)) (fun _ h9 => h9) rfl (by decide +kernel) rfl rfl (Nat.le_of_ble_eq_true rfl) dX2_takeStep_64 (fun H locs hP hD hS => ?_)
          have hP : va_P D vwCl [(h0, .inr (2, [.int 3, .int dplace, .int dplaces, .int dhold, .int (dsteps + 1), .int dbeam, .int dob, .int doc]))] H := hP
          have hD : va_D A [(h0, .inr (2, [.int 3, .int dplace, .int dplaces, .int dhold, .int (dsteps + 1), .int dbeam, .int dob, .int doc]))] := hD
          refine lv_goto (tgt := 101) hx hb dX2_takeStep_67 (by decide) ?_
          have hP := hP.sub (ws' := [(h0, .inr (2, [.int 3, .int dplace, .int dplaces, .int dhold, .int (dsteps + 1), .int dbeam, .int dob, .int doc]))]) [0] rfl
          have hD := hD.sub (ws' := [(h0, .inr (2, [.int 3, .int dplace, .int dplaces, .int dhold, .int (dsteps + 1), .int dbeam, .int dob, .int doc]))]) [0] (by decide) rfl
          exact rt_v hQ hx hb hr (3, dplace, (dsteps + 1), dob, doc) hG hP hD hS (Nat.le_of_ble_eq_true rfl) (Nat.le_of_ble_eq_true rfl) dX2_takeStep_101 hlk
    · have hG := hG.trans (if_neg c_5)
      by_cases c_10 : dstate = 3
      · have hG := hG.trans (if_pos c_10)
        refine lv_tableIn (off := 66) (tgt := 70) hx hb dX2_takeStep_4 (by rw [c_10]; decide) (by rw [c_10]; decide) (by rw [c_10]; rfl) (by decide) ?_
        refine lv_iload_n hx hb dX2_takeStep_70 rfl (lv_at hl 2 rfl) ?_
        refine lv_if_ne (tgt := 86) hx hb dX2_takeStep_71 (by decide) (fun c_11 => ?_) (fun c_11 => ?_)
        · have hG := hG.trans (if_neg c_11)
          refine lv_aload_n hx hb dX2_takeStep_86 rfl (lv_at hl 0 rfl) ?_
          refine my_i (wr := []) [0] [] (va_runV (As := []) (rest := []) ⟨hx, hb, hml, hown, hts⟩ (c_turnToOpening l D aI aL aZ _ h0 dstate dplace dplaces dhold dsteps dbeam dob doc) (cwV 0 hts (gV w_593 w_440 w_441 w_45 w_442) rfl rfl rfl (by decide +kernel) ⟨Nat.le_of_ble_eq_true rfl, Nat.le_of_ble_eq_true rfl⟩) (prev_of hK hP hD hS hA hE [0] rfl (by decide) (ci := 2) rfl 0 rfl _) rfl rfl hl.1 rfl (lv_room (Nat.le_of_ble_eq_true rfl)) dX2_takeStep_87 ⟨Nat.le_of_ble_eq_true rfl, Nat.le_of_ble_eq_true rfl⟩) hP hD hS hA rfl rfl (by decide) (by decide) (fun r_12 u_ H locs hw_16 hP hD hS => ?_)
          obtain ⟨x_13, x_14, x_15⟩ := u_
          have hw_16 : F_turnToOpening dstate dob doc = (r_12, x_13, x_14, x_15) ∧ nb r_12 := hw_16
          have hG := hG.trans (cb_e hw_16.1)
          have hP : va_P D vwCl [(h0, .inr (2, [.int x_13, .int dplace, .int dplaces, .int dhold, .int dsteps, .int dbeam, .int x_14, .int x_15]))] H := hP
          have hD : va_D A [(h0, .inr (2, [.int x_13, .int dplace, .int dplaces, .int dhold, .int dsteps, .int dbeam, .int x_14, .int x_15]))] := hD
          refine lv_pop hx hb dX2_takeStep_90 rfl ?_
          refine lv_goto (tgt := 101) hx hb dX2_takeStep_91 (by decide) ?_
          have hP := hP.sub (ws' := [(h0, .inr (2, [.int x_13, .int dplace, .int dplaces, .int dhold, .int dsteps, .int dbeam, .int x_14, .int x_15]))]) [0] rfl
          have hD := hD.sub (ws' := [(h0, .inr (2, [.int x_13, .int dplace, .int dplaces, .int dhold, .int dsteps, .int dbeam, .int x_14, .int x_15]))]) [0] (by decide) rfl
          exact rt_v hQ hx hb hr (x_13, dplace, dsteps, x_14, x_15) hG hP hD hS (Nat.le_of_ble_eq_true rfl) (Nat.le_of_ble_eq_true rfl) dX2_takeStep_101 hlk
        · have hG := hG.trans (if_pos c_11)
          refine lv_aload_n hx hb dX2_takeStep_74 rfl (lv_at hl 0 rfl) ?_
          refine va_get (D := D) (ci := 2) (v := .int dbeam) (C := RX2) (T := TX2) (N := 8) hx hb hts inX2 hown hK hP 0 rfl rfl 5 (by decide) (hts _ (mG w_260)) (fun _ h9 => h9) rfl dX2_takeStep_75 ?_
          refine lv_if_eq (tgt := 94) hx hb dX2_takeStep_78 (by decide) (fun c_17 => ?_) (fun c_17 => ?_)
          · have hG := hG.trans (if_pos c_17)
            refine lv_aload_n hx hb dX2_takeStep_94 rfl (lv_at hl 0 rfl) ?_
            refine my_v (wr := []) [0] [] (va_runV (As := []) (rest := []) ⟨hx, hb, hml, hown, hts⟩ (c_closeFurther l D aI aL aZ _ h0 dstate dplace dplaces dhold dsteps dbeam dob doc) (cwV 0 hts (gV w_607 w_609 w_17 w_45 w_610) rfl rfl rfl (by decide +kernel) ⟨Nat.le_of_ble_eq_true rfl, Nat.le_of_ble_eq_true rfl⟩) (prev_of hK hP hD hS hA hE [0] rfl (by decide) (ci := 2) rfl 0 rfl _) rfl rfl hl.1 rfl (lv_room (Nat.le_of_ble_eq_true rfl)) dX2_takeStep_95 ⟨Nat.le_of_ble_eq_true rfl, Nat.le_of_ble_eq_true rfl⟩) hP hD hS hA rfl rfl (by decide) (by decide) (fun u_ H locs hw_19 hP hD hS => ?_)
            obtain ⟨x_18, rfl⟩ : ∃ z, z = u_ := ⟨_, rfl⟩
            have hw_19 : F_closeFurther dstate dplace = x_18 := hw_19
            have hG := hG.trans (cb_e hw_19)
            have hP : va_P D vwCl [(h0, .inr (2, [.int x_18, .int (if (dplace - 1) < 0 then 0 else (dplace - 1)), .int dplaces, .int dhold, .int dsteps, .int dbeam, .int dob, .int doc]))] H := hP
            have hD : va_D A [(h0, .inr (2, [.int x_18, .int (if (dplace - 1) < 0 then 0 else (dplace - 1)), .int dplaces, .int dhold, .int dsteps, .int dbeam, .int dob, .int doc]))] := hD
            refine lv_goto (tgt := 101) hx hb dX2_takeStep_98 (by decide) ?_
            have hP := hP.sub (ws' := [(h0, .inr (2, [.int x_18, .int (if (dplace - 1) < 0 then 0 else (dplace - 1)), .int dplaces, .int dhold, .int dsteps, .int dbeam, .int dob, .int doc]))]) [0] rfl
            have hD := hD.sub (ws' := [(h0, .inr (2, [.int x_18, .int (if (dplace - 1) < 0 then 0 else (dplace - 1)), .int dplaces, .int dhold, .int dsteps, .int dbeam, .int dob, .int doc]))]) [0] (by decide) rfl
            exact rt_v hQ hx hb hr (x_18, (if (dplace - 1) < 0 then 0 else (dplace - 1)), dsteps, dob, doc) hG hP hD hS (Nat.le_of_ble_eq_true rfl) (Nat.le_of_ble_eq_true rfl) dX2_takeStep_101 hlk
          · have hG := hG.trans (if_neg c_17)
            refine lv_iload_n hx hb dX2_takeStep_81 rfl (lv_at hl 1 rfl) ?_
            refine lv_iconst (v := 3) hx hb dX2_takeStep_82 (by decide) ?_
            refine lv_icmp_eq (tgt := 94) hx hb dX2_takeStep_83 (by decide) (fun c_20 => ?_) (fun c_20 => ?_)
            · have hG := hG.trans (if_pos c_20)
              refine lv_aload_n hx hb dX2_takeStep_94 rfl (lv_at hl 0 rfl) ?_
              refine my_v (wr := []) [0] [] (va_runV (As := []) (rest := []) ⟨hx, hb, hml, hown, hts⟩ (c_closeFurther l D aI aL aZ _ h0 dstate dplace dplaces dhold dsteps dbeam dob doc) (cwV 0 hts (gV w_607 w_609 w_17 w_45 w_610) rfl rfl rfl (by decide +kernel) ⟨Nat.le_of_ble_eq_true rfl, Nat.le_of_ble_eq_true rfl⟩) (prev_of hK hP hD hS hA hE [0] rfl (by decide) (ci := 2) rfl 0 rfl _) rfl rfl hl.1 rfl (lv_room (Nat.le_of_ble_eq_true rfl)) dX2_takeStep_95 ⟨Nat.le_of_ble_eq_true rfl, Nat.le_of_ble_eq_true rfl⟩) hP hD hS hA rfl rfl (by decide) (by decide) (fun u_ H locs hw_22 hP hD hS => ?_)
              obtain ⟨x_21, rfl⟩ : ∃ z, z = u_ := ⟨_, rfl⟩
              have hw_22 : F_closeFurther dstate dplace = x_21 := hw_22
              have hG := hG.trans (cb_e hw_22)
              have hP : va_P D vwCl [(h0, .inr (2, [.int x_21, .int (if (dplace - 1) < 0 then 0 else (dplace - 1)), .int dplaces, .int dhold, .int dsteps, .int dbeam, .int dob, .int doc]))] H := hP
              have hD : va_D A [(h0, .inr (2, [.int x_21, .int (if (dplace - 1) < 0 then 0 else (dplace - 1)), .int dplaces, .int dhold, .int dsteps, .int dbeam, .int dob, .int doc]))] := hD
              refine lv_goto (tgt := 101) hx hb dX2_takeStep_98 (by decide) ?_
              have hP := hP.sub (ws' := [(h0, .inr (2, [.int x_21, .int (if (dplace - 1) < 0 then 0 else (dplace - 1)), .int dplaces, .int dhold, .int dsteps, .int dbeam, .int dob, .int doc]))]) [0] rfl
              have hD := hD.sub (ws' := [(h0, .inr (2, [.int x_21, .int (if (dplace - 1) < 0 then 0 else (dplace - 1)), .int dplaces, .int dhold, .int dsteps, .int dbeam, .int dob, .int doc]))]) [0] (by decide) rfl
              exact rt_v hQ hx hb hr (x_21, (if (dplace - 1) < 0 then 0 else (dplace - 1)), dsteps, dob, doc) hG hP hD hS (Nat.le_of_ble_eq_true rfl) (Nat.le_of_ble_eq_true rfl) dX2_takeStep_101 hlk
            · have hG := hG.trans (if_neg c_20)
              refine lv_aload_n hx hb dX2_takeStep_86 rfl (lv_at hl 0 rfl) ?_
              refine my_i (wr := []) [0] [] (va_runV (As := []) (rest := []) ⟨hx, hb, hml, hown, hts⟩ (c_turnToOpening l D aI aL aZ _ h0 dstate dplace dplaces dhold dsteps dbeam dob doc) (cwV 0 hts (gV w_593 w_440 w_441 w_45 w_442) rfl rfl rfl (by decide +kernel) ⟨Nat.le_of_ble_eq_true rfl, Nat.le_of_ble_eq_true rfl⟩) (prev_of hK hP hD hS hA hE [0] rfl (by decide) (ci := 2) rfl 0 rfl _) rfl rfl hl.1 rfl (lv_room (Nat.le_of_ble_eq_true rfl)) dX2_takeStep_87 ⟨Nat.le_of_ble_eq_true rfl, Nat.le_of_ble_eq_true rfl⟩) hP hD hS hA rfl rfl (by decide) (by decide) (fun r_23 u_ H locs hw_27 hP hD hS => ?_)
              obtain ⟨x_24, x_25, x_26⟩ := u_
              have hw_27 : F_turnToOpening dstate dob doc = (r_23, x_24, x_25, x_26) ∧ nb r_23 := hw_27
              have hG := hG.trans (cb_e hw_27.1)
              have hP : va_P D vwCl [(h0, .inr (2, [.int x_24, .int dplace, .int dplaces, .int dhold, .int dsteps, .int dbeam, .int x_25, .int x_26]))] H := hP
              have hD : va_D A [(h0, .inr (2, [.int x_24, .int dplace, .int dplaces, .int dhold, .int dsteps, .int dbeam, .int x_25, .int x_26]))] := hD
              refine lv_pop hx hb dX2_takeStep_90 rfl ?_
              refine lv_goto (tgt := 101) hx hb dX2_takeStep_91 (by decide) ?_
              have hP := hP.sub (ws' := [(h0, .inr (2, [.int x_24, .int dplace, .int dplaces, .int dhold, .int dsteps, .int dbeam, .int x_25, .int x_26]))]) [0] rfl
              have hD := hD.sub (ws' := [(h0, .inr (2, [.int x_24, .int dplace, .int dplaces, .int dhold, .int dsteps, .int dbeam, .int x_25, .int x_26]))]) [0] (by decide) rfl
              exact rt_v hQ hx hb hr (x_24, dplace, dsteps, x_25, x_26) hG hP hD hS (Nat.le_of_ble_eq_true rfl) (Nat.le_of_ble_eq_true rfl) dX2_takeStep_101 hlk
      · have hG := hG.trans (if_neg c_10)
        refine lv_tableOut (tgt := 101) hx hb dX2_takeStep_4 (by have q0 := lv_neT c_1 (a := 1) (by decide); have q1 := lv_neT c_5 (a := 2) (by decide); have q2 := lv_neT c_10 (a := 3) (by decide); omega) (by decide) ?_
        have hP := hP.sub (ws' := [(h0, .inr (2, [.int dstate, .int dplace, .int dplaces, .int dhold, .int dsteps, .int dbeam, .int dob, .int doc]))]) [0] rfl
        have hD := hD.sub (ws' := [(h0, .inr (2, [.int dstate, .int dplace, .int dplaces, .int dhold, .int dsteps, .int dbeam, .int dob, .int doc]))]) [0] (by decide) rfl
        exact rt_v hQ hx hb hr (dstate, dplace, dsteps, dob, doc) hG hP hD hS (Nat.le_of_ble_eq_true rfl) (Nat.le_of_ble_eq_true rfl) dX2_takeStep_101 hlk
