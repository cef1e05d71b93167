/-! One step of a car: class and reference. -/
def stC (pl want mode u ki mk ds dp dw dh dst db ob oc cc cov : Int32) (cf : Nat → Int32) : Int32 × Int32 × Int32 × Int32 × Int32 × Int32 × Int32 × (Nat → Int32) :=
  cb (if u = 0 then (if want = pl then F_land ds dst ob oc cc cov cf mode else (ds, dst, ob, oc, cc, cov, cf)) else (ds, dst, ob, oc, cc, cov, cf)) fun (a, b, c, d, e, f, g) =>
    if mode = 1 then (a, dp, b, c, d, e, f, g)
    else cb (F_dTakeStep a dp dw dh b db c d mode (F_isOverloaded ki mk) (if want = pl then 0 else 1)) fun (a1, p1, b1, c1, d1) => (a1, p1, b1, c1, d1, e, f, g)
def tsG (rm : Int32 → Int32) (place speed way V g b R I ki mk oc ff ri starts dist hf ds dp dw dh dst db ob od cc cov : Int32) (cf : Nat → Int32) (n : Nat) (pf : Nat → Int32) (pw : Int32) : Int32 × Int32 × Int32 × Int32 × Int32 × Int32 × Int32 × Int32 × Int32 × Int32 × Int32 × Int32 × Int32 × (Nat → Int32) :=
  cb (F_modeNow oc ff ri pw) fun mode =>
    cb (F_wantedPlace place ff ri cc cf n pf mode) fun want =>
      cb (if speed ≤ 0 then F_wayTo place want else way) fun hd =>
        cb (F_nextSpeed place speed way V g b R I ki mk ds mode want (rm hd)) fun u =>
          cb (F_goOn speed g starts hf u hd) fun (w1, s1, h1) =>
            cb (stC (place + hd * u) want mode u ki mk ds dp dw dh dst db ob od cc cov cf) fun (x1, x2, x3, x4, x5, x6, x7, x8) =>
              (place + hd * u, u, w1, s1, dist + u, h1, x1, x2, x3, x4, x5, x6, x7, x8)
theorem ts_N (place speed way V g b R I ki mk oc ff ri starts dist hf ds dp dw dh dst db ob od cc cov : Int32) (cf : Nat → Int32) (n : Nat) (pf : Nat → Int32) (pw : Int32) :
    F_takeStepN place speed way V g b R I ki mk oc ff ri starts dist hf ds dp dw dh dst db ob od cc cov cf n pf pw = tsG (fun _ => 1000000000) place speed way V g b R I ki mk oc ff ri starts dist hf ds dp dw dh dst db ob od cc cov cf n pf pw := by
  unfold F_takeStepN tsG stC
  generalize F_modeNow oc ff ri pw = mode
  generalize hw9 : F_wantedPlace place ff ri cc cf n pf mode = want
  simp only [cb]
  rw [hw9]
  by_cases h0 : speed ≤ 0
  · simp only [if_pos h0]
    generalize F_wayTo place want = hd
    generalize F_nextSpeed place speed way V g b R I ki mk ds mode want 1000000000 = u
    generalize F_goOn speed g starts hf u hd = go
    obtain ⟨w1, s1, h1⟩ := go
    generalize F_isOverloaded ki mk = ov
    simp only []
    generalize place + hd * u = pl
    by_cases k1 : u = 0
    · by_cases k2 : want = pl
      · by_cases k3 : mode = 1
        · simp only [if_pos k1, if_pos k2, if_pos k3]
        · simp only [if_pos k1, if_pos k2, if_neg k3]
      · by_cases k3 : mode = 1
        · simp only [if_pos k1, if_neg k2, if_pos k3]
        · simp only [if_pos k1, if_neg k2, if_neg k3]
    · by_cases k2 : want = pl
      · by_cases k3 : mode = 1
        · simp only [if_neg k1, if_pos k2, if_pos k3]
        · simp only [if_neg k1, if_pos k2, if_neg k3]
      · by_cases k3 : mode = 1
        · simp only [if_neg k1, if_neg k2, if_pos k3]
        · simp only [if_neg k1, if_neg k2, if_neg k3]
  · simp only [if_neg h0]
    generalize F_nextSpeed place speed way V g b R I ki mk ds mode want 1000000000 = u
    generalize F_goOn speed g starts hf u way = go
    obtain ⟨w1, s1, h1⟩ := go
    generalize F_isOverloaded ki mk = ov
    simp only []
    generalize place + way * u = pl
    by_cases k1 : u = 0
    · by_cases k2 : want = pl
      · by_cases k3 : mode = 1
        · simp only [if_pos k1, if_pos k2, if_pos k3]
        · simp only [if_pos k1, if_pos k2, if_neg k3]
      · by_cases k3 : mode = 1
        · simp only [if_pos k1, if_neg k2, if_pos k3]
        · simp only [if_pos k1, if_neg k2, if_neg k3]
    · by_cases k2 : want = pl
      · by_cases k3 : mode = 1
        · simp only [if_neg k1, if_pos k2, if_pos k3]
        · simp only [if_neg k1, if_pos k2, if_neg k3]
      · by_cases k3 : mode = 1
        · simp only [if_neg k1, if_neg k2, if_pos k3]
        · simp only [if_neg k1, if_neg k2, if_neg k3]
theorem ts_O (wo1 gap wB pB sB yB bB : Int32) (place speed way V g b R I ki mk oc ff ri starts dist hf ds dp dw dh dst db ob od cc cov : Int32) (cf : Nat → Int32) (n : Nat) (pf : Nat → Int32) (pw : Int32) :
    F_takeStep wo1 place speed way V g b R I ki mk oc ff ri starts dist hf ds dp dw dh dst db ob od cc cov cf gap n pf wB pB sB yB bB pw = tsG (fun hd => F_roomToOther wo1 place wB pB sB yB bB hd gap) place speed way V g b R I ki mk oc ff ri starts dist hf ds dp dw dh dst db ob od cc cov cf n pf pw := by
  unfold F_takeStep tsG stC
  generalize F_modeNow oc ff ri pw = mode
  generalize hw9 : F_wantedPlace place ff ri cc cf n pf mode = want
  simp only [cb]
  rw [hw9]
  by_cases h0 : speed ≤ 0
  · simp only [if_pos h0]
    generalize F_wayTo place want = hd
    generalize F_nextSpeed place speed way V g b R I ki mk ds mode want (F_roomToOther wo1 place wB pB sB yB bB hd gap) = u
    generalize F_goOn speed g starts hf u hd = go
    obtain ⟨w1, s1, h1⟩ := go
    generalize F_isOverloaded ki mk = ov
    simp only []
    generalize place + hd * u = pl
    by_cases k1 : u = 0
    · by_cases k2 : want = pl
      · by_cases k3 : mode = 1
        · simp only [if_pos k1, if_pos k2, if_pos k3]
        · simp only [if_pos k1, if_pos k2, if_neg k3]
      · by_cases k3 : mode = 1
        · simp only [if_pos k1, if_neg k2, if_pos k3]
        · simp only [if_pos k1, if_neg k2, if_neg k3]
    · by_cases k2 : want = pl
      · by_cases k3 : mode = 1
        · simp only [if_neg k1, if_pos k2, if_pos k3]
        · simp only [if_neg k1, if_pos k2, if_neg k3]
      · by_cases k3 : mode = 1
        · simp only [if_neg k1, if_neg k2, if_pos k3]
        · simp only [if_neg k1, if_neg k2, if_neg k3]
  · simp only [if_neg h0]
    generalize F_nextSpeed place speed way V g b R I ki mk ds mode want (F_roomToOther wo1 place wB pB sB yB bB way gap) = u
    generalize F_goOn speed g starts hf u way = go
    obtain ⟨w1, s1, h1⟩ := go
    generalize F_isOverloaded ki mk = ov
    simp only []
    generalize place + way * u = pl
    by_cases k1 : u = 0
    · by_cases k2 : want = pl
      · by_cases k3 : mode = 1
        · simp only [if_pos k1, if_pos k2, if_pos k3]
        · simp only [if_pos k1, if_pos k2, if_neg k3]
      · by_cases k3 : mode = 1
        · simp only [if_pos k1, if_neg k2, if_pos k3]
        · simp only [if_pos k1, if_neg k2, if_neg k3]
    · by_cases k2 : want = pl
      · by_cases k3 : mode = 1
        · simp only [if_neg k1, if_pos k2, if_pos k3]
        · simp only [if_neg k1, if_pos k2, if_neg k3]
      · by_cases k3 : mode = 1
        · simp only [if_neg k1, if_neg k2, if_pos k3]
        · simp only [if_neg k1, if_neg k2, if_neg k3]
def stM (Ld : Int32 → Int32 → (Nat → Int32) → Int32 → Int32 → Int32 → Int32 → Int32 → Int32 × Int32 × (Nat → Int32) × Int32 × Int32 × Int32 × Int32) (pl want mode u ki mk ds dp dw dh dst db w3 w4 w5 cc : Int32) (mc : Nat → Int32) : Int32 × Int32 × Int32 × (Nat → Int32) × Int32 × Int32 × Int32 × Int32 :=
  cb (if want = (-1) then 0 else if pl = want then 1 else 0) fun th =>
    cb (if u = 0 then (if th = 0 then (ds, dst, mc, cc, w3, w4, w5) else Ld ds dst mc cc w3 w4 w5 mode) else (ds, dst, mc, cc, w3, w4, w5)) fun (a, b, m, e, x3, x4, x5) =>
      if mode = 1 then (a, dp, b, m, e, x3, x4, x5)
      else cb (F_m_door_0 a dp b dw dh ki mk db x4 mode th) fun (a1, p1, b1, y4) => (a1, p1, b1, m, e, x3, y4, x5)
def msG (Ld : Int32 → Int32 → (Nat → Int32) → Int32 → Int32 → Int32 → Int32 → Int32 → Int32 × Int32 × (Nat → Int32) × Int32 × Int32 × Int32 × Int32) (place sp g ki mk ds dp dw dh dst db cc w0 w1 w2 w3 w4 w5 mode want next : Int32) (mc : Nat → Int32) : Int32 × Int32 × Int32 × Int32 × Int32 × (Nat → Int32) × Int32 × Int32 × Int32 × Int32 × Int32 × Int32 × Int32 :=
  cb (F_m_size sp) fun had =>
    cb (F_m_size next) fun u =>
      cb (stM Ld (place + next) want mode u ki mk ds dp dw dh dst db w3 w4 w5 cc mc) fun (x1, x2, x3, m, x5, x6, x7, x8) =>
        (place + next, next, x1, x2, x3, m, x5, (if had = 0 then (if u ≤ 0 then w0 else w0 + 1) else w0), w1 + u, (if had - u ≤ g then w2 else w2 + 1), x6, x7, x8)
theorem ms_10 (dk place sp V g b R I ds dp dst dw dh ki mk db oc ff ri cc w0 w1 w2 w3 w4 w5 : Int32) (n : Nat) (mh mc : Nat → Int32) :
    F_m_step_10 n dk mh place sp V g b R I ds dp dst dw dh ki mk db oc ff ri mc cc w0 w1 w2 w3 w4 w5 = msG F_m_land_0 place sp g ki mk ds dp dw dh dst db cc w0 w1 w2 w3 w4 w5 (F_m_mode_0 dk oc ff ri) (F_m_wanted_0 n dk mh place oc ff ri mc cc) (F_m_next_10 place sp V g b R I ds ki mk (F_m_mode_0 dk oc ff ri) (F_m_wanted_0 n dk mh place oc ff ri mc cc)) mc := by
  unfold F_m_step_10 msG stM
  simp only [cb]
  generalize F_m_next_10 place sp V g b R I ds ki mk (F_m_mode_0 dk oc ff ri) (F_m_wanted_0 n dk mh place oc ff ri mc cc) = next
  generalize F_m_wanted_0 n dk mh place oc ff ri mc cc = want
  generalize F_m_mode_0 dk oc ff ri = mode
  generalize F_m_size sp = had
  generalize F_m_size next = u
  unfold K_m_step_10_80 K_m_step_10_157 K_m_step_10_201
  simp only [cb]
  generalize place + next = pl
  by_cases k1 : had = 0
  · by_cases k2 : u ≤ 0
    · by_cases k3 : had - u ≤ g
      · by_cases k4 : want = (-1)
        · by_cases k5 : pl = want
          · by_cases k6 : u = 0
            · by_cases k7 : mode = 1
              · simp only [if_pos k1, if_pos k2, if_pos k3, if_pos k4, if_pos k5, if_pos k6, if_pos k7, if_pos, if_neg qn_10]
                try rfl
              · simp only [if_pos k1, if_pos k2, if_pos k3, if_pos k4, if_pos k5, if_pos k6, if_neg k7, if_pos, if_neg qn_10]
                try rfl
            · by_cases k7 : mode = 1
              · simp only [if_pos k1, if_pos k2, if_pos k3, if_pos k4, if_pos k5, if_neg k6, if_pos k7, if_pos, if_neg qn_10]
                try rfl
              · simp only [if_pos k1, if_pos k2, if_pos k3, if_pos k4, if_pos k5, if_neg k6, if_neg k7, if_pos, if_neg qn_10]
                try rfl
          · by_cases k6 : u = 0
            · by_cases k7 : mode = 1
              · simp only [if_pos k1, if_pos k2, if_pos k3, if_pos k4, if_neg k5, if_pos k6, if_pos k7, if_pos, if_neg qn_10]
                try rfl
              · simp only [if_pos k1, if_pos k2, if_pos k3, if_pos k4, if_neg k5, if_pos k6, if_neg k7, if_pos, if_neg qn_10]
                try rfl
            · by_cases k7 : mode = 1
              · simp only [if_pos k1, if_pos k2, if_pos k3, if_pos k4, if_neg k5, if_neg k6, if_pos k7, if_pos, if_neg qn_10]
                try rfl
              · simp only [if_pos k1, if_pos k2, if_pos k3, if_pos k4, if_neg k5, if_neg k6, if_neg k7, if_pos, if_neg qn_10]
                try rfl
        · by_cases k5 : pl = want
          · by_cases k6 : u = 0
            · by_cases k7 : mode = 1
              · simp only [if_pos k1, if_pos k2, if_pos k3, if_neg k4, if_pos k5, if_pos k6, if_pos k7, if_pos, if_neg qn_10]
                try rfl
              · simp only [if_pos k1, if_pos k2, if_pos k3, if_neg k4, if_pos k5, if_pos k6, if_neg k7, if_pos, if_neg qn_10]
                try rfl
            · by_cases k7 : mode = 1
              · simp only [if_pos k1, if_pos k2, if_pos k3, if_neg k4, if_pos k5, if_neg k6, if_pos k7, if_pos, if_neg qn_10]
                try rfl
              · simp only [if_pos k1, if_pos k2, if_pos k3, if_neg k4, if_pos k5, if_neg k6, if_neg k7, if_pos, if_neg qn_10]
                try rfl
          · by_cases k6 : u = 0
            · by_cases k7 : mode = 1
              · simp only [if_pos k1, if_pos k2, if_pos k3, if_neg k4, if_neg k5, if_pos k6, if_pos k7, if_pos, if_neg qn_10]
                try rfl
              · simp only [if_pos k1, if_pos k2, if_pos k3, if_neg k4, if_neg k5, if_pos k6, if_neg k7, if_pos, if_neg qn_10]
                try rfl
            · by_cases k7 : mode = 1
              · simp only [if_pos k1, if_pos k2, if_pos k3, if_neg k4, if_neg k5, if_neg k6, if_pos k7, if_pos, if_neg qn_10]
                try rfl
              · simp only [if_pos k1, if_pos k2, if_pos k3, if_neg k4, if_neg k5, if_neg k6, if_neg k7, if_pos, if_neg qn_10]
                try rfl
      · by_cases k4 : want = (-1)
        · by_cases k5 : pl = want
          · by_cases k6 : u = 0
            · by_cases k7 : mode = 1
              · simp only [if_pos k1, if_pos k2, if_neg k3, if_pos k4, if_pos k5, if_pos k6, if_pos k7, if_pos, if_neg qn_10]
                try rfl
              · simp only [if_pos k1, if_pos k2, if_neg k3, if_pos k4, if_pos k5, if_pos k6, if_neg k7, if_pos, if_neg qn_10]
                try rfl
            · by_cases k7 : mode = 1
              · simp only [if_pos k1, if_pos k2, if_neg k3, if_pos k4, if_pos k5, if_neg k6, if_pos k7, if_pos, if_neg qn_10]
                try rfl
              · simp only [if_pos k1, if_pos k2, if_neg k3, if_pos k4, if_pos k5, if_neg k6, if_neg k7, if_pos, if_neg qn_10]
                try rfl
          · by_cases k6 : u = 0
            · by_cases k7 : mode = 1
              · simp only [if_pos k1, if_pos k2, if_neg k3, if_pos k4, if_neg k5, if_pos k6, if_pos k7, if_pos, if_neg qn_10]
                try rfl
              · simp only [if_pos k1, if_pos k2, if_neg k3, if_pos k4, if_neg k5, if_pos k6, if_neg k7, if_pos, if_neg qn_10]
                try rfl
            · by_cases k7 : mode = 1
              · simp only [if_pos k1, if_pos k2, if_neg k3, if_pos k4, if_neg k5, if_neg k6, if_pos k7, if_pos, if_neg qn_10]
                try rfl
              · simp only [if_pos k1, if_pos k2, if_neg k3, if_pos k4, if_neg k5, if_neg k6, if_neg k7, if_pos, if_neg qn_10]
                try rfl
        · by_cases k5 : pl = want
          · by_cases k6 : u = 0
            · by_cases k7 : mode = 1
              · simp only [if_pos k1, if_pos k2, if_neg k3, if_neg k4, if_pos k5, if_pos k6, if_pos k7, if_pos, if_neg qn_10]
                try rfl
              · simp only [if_pos k1, if_pos k2, if_neg k3, if_neg k4, if_pos k5, if_pos k6, if_neg k7, if_pos, if_neg qn_10]
                try rfl
            · by_cases k7 : mode = 1
              · simp only [if_pos k1, if_pos k2, if_neg k3, if_neg k4, if_pos k5, if_neg k6, if_pos k7, if_pos, if_neg qn_10]
                try rfl
              · simp only [if_pos k1, if_pos k2, if_neg k3, if_neg k4, if_pos k5, if_neg k6, if_neg k7, if_pos, if_neg qn_10]
                try rfl
          · by_cases k6 : u = 0
            · by_cases k7 : mode = 1
              · simp only [if_pos k1, if_pos k2, if_neg k3, if_neg k4, if_neg k5, if_pos k6, if_pos k7, if_pos, if_neg qn_10]
                try rfl
              · simp only [if_pos k1, if_pos k2, if_neg k3, if_neg k4, if_neg k5, if_pos k6, if_neg k7, if_pos, if_neg qn_10]
                try rfl
            · by_cases k7 : mode = 1
              · simp only [if_pos k1, if_pos k2, if_neg k3, if_neg k4, if_neg k5, if_neg k6, if_pos k7, if_pos, if_neg qn_10]
                try rfl
              · simp only [if_pos k1, if_pos k2, if_neg k3, if_neg k4, if_neg k5, if_neg k6, if_neg k7, if_pos, if_neg qn_10]
                try rfl
    · by_cases k3 : had - u ≤ g
      · by_cases k4 : want = (-1)
        · by_cases k5 : pl = want
          · by_cases k6 : u = 0
            · by_cases k7 : mode = 1
              · simp only [if_pos k1, if_neg k2, if_pos k3, if_pos k4, if_pos k5, if_pos k6, if_pos k7, if_pos, if_neg qn_10]
                try rfl
              · simp only [if_pos k1, if_neg k2, if_pos k3, if_pos k4, if_pos k5, if_pos k6, if_neg k7, if_pos, if_neg qn_10]
                try rfl
            · by_cases k7 : mode = 1
              · simp only [if_pos k1, if_neg k2, if_pos k3, if_pos k4, if_pos k5, if_neg k6, if_pos k7, if_pos, if_neg qn_10]
                try rfl
              · simp only [if_pos k1, if_neg k2, if_pos k3, if_pos k4, if_pos k5, if_neg k6, if_neg k7, if_pos, if_neg qn_10]
                try rfl
          · by_cases k6 : u = 0
            · by_cases k7 : mode = 1
              · simp only [if_pos k1, if_neg k2, if_pos k3, if_pos k4, if_neg k5, if_pos k6, if_pos k7, if_pos, if_neg qn_10]
                try rfl
              · simp only [if_pos k1, if_neg k2, if_pos k3, if_pos k4, if_neg k5, if_pos k6, if_neg k7, if_pos, if_neg qn_10]
                try rfl
            · by_cases k7 : mode = 1
              · simp only [if_pos k1, if_neg k2, if_pos k3, if_pos k4, if_neg k5, if_neg k6, if_pos k7, if_pos, if_neg qn_10]
                try rfl
              · simp only [if_pos k1, if_neg k2, if_pos k3, if_pos k4, if_neg k5, if_neg k6, if_neg k7, if_pos, if_neg qn_10]
                try rfl
        · by_cases k5 : pl = want
          · by_cases k6 : u = 0
            · by_cases k7 : mode = 1
              · simp only [if_pos k1, if_neg k2, if_pos k3, if_neg k4, if_pos k5, if_pos k6, if_pos k7, if_pos, if_neg qn_10]
                try rfl
              · simp only [if_pos k1, if_neg k2, if_pos k3, if_neg k4, if_pos k5, if_pos k6, if_neg k7, if_pos, if_neg qn_10]
                try rfl
            · by_cases k7 : mode = 1
              · simp only [if_pos k1, if_neg k2, if_pos k3, if_neg k4, if_pos k5, if_neg k6, if_pos k7, if_pos, if_neg qn_10]
                try rfl
              · simp only [if_pos k1, if_neg k2, if_pos k3, if_neg k4, if_pos k5, if_neg k6, if_neg k7, if_pos, if_neg qn_10]
                try rfl
          · by_cases k6 : u = 0
            · by_cases k7 : mode = 1
              · simp only [if_pos k1, if_neg k2, if_pos k3, if_neg k4, if_neg k5, if_pos k6, if_pos k7, if_pos, if_neg qn_10]
                try rfl
              · simp only [if_pos k1, if_neg k2, if_pos k3, if_neg k4, if_neg k5, if_pos k6, if_neg k7, if_pos, if_neg qn_10]
                try rfl
            · by_cases k7 : mode = 1
              · simp only [if_pos k1, if_neg k2, if_pos k3, if_neg k4, if_neg k5, if_neg k6, if_pos k7, if_pos, if_neg qn_10]
                try rfl
              · simp only [if_pos k1, if_neg k2, if_pos k3, if_neg k4, if_neg k5, if_neg k6, if_neg k7, if_pos, if_neg qn_10]
                try rfl
      · by_cases k4 : want = (-1)
        · by_cases k5 : pl = want
          · by_cases k6 : u = 0
            · by_cases k7 : mode = 1
              · simp only [if_pos k1, if_neg k2, if_neg k3, if_pos k4, if_pos k5, if_pos k6, if_pos k7, if_pos, if_neg qn_10]
                try rfl
              · simp only [if_pos k1, if_neg k2, if_neg k3, if_pos k4, if_pos k5, if_pos k6, if_neg k7, if_pos, if_neg qn_10]
                try rfl
            · by_cases k7 : mode = 1
              · simp only [if_pos k1, if_neg k2, if_neg k3, if_pos k4, if_pos k5, if_neg k6, if_pos k7, if_pos, if_neg qn_10]
                try rfl
              · simp only [if_pos k1, if_neg k2, if_neg k3, if_pos k4, if_pos k5, if_neg k6, if_neg k7, if_pos, if_neg qn_10]
                try rfl
          · by_cases k6 : u = 0
            · by_cases k7 : mode = 1
              · simp only [if_pos k1, if_neg k2, if_neg k3, if_pos k4, if_neg k5, if_pos k6, if_pos k7, if_pos, if_neg qn_10]
                try rfl
              · simp only [if_pos k1, if_neg k2, if_neg k3, if_pos k4, if_neg k5, if_pos k6, if_neg k7, if_pos, if_neg qn_10]
                try rfl
            · by_cases k7 : mode = 1
              · simp only [if_pos k1, if_neg k2, if_neg k3, if_pos k4, if_neg k5, if_neg k6, if_pos k7, if_pos, if_neg qn_10]
                try rfl
              · simp only [if_pos k1, if_neg k2, if_neg k3, if_pos k4, if_neg k5, if_neg k6, if_neg k7, if_pos, if_neg qn_10]
                try rfl
        · by_cases k5 : pl = want
          · by_cases k6 : u = 0
            · by_cases k7 : mode = 1
              · simp only [if_pos k1, if_neg k2, if_neg k3, if_neg k4, if_pos k5, if_pos k6, if_pos k7, if_pos, if_neg qn_10]
                try rfl
              · simp only [if_pos k1, if_neg k2, if_neg k3, if_neg k4, if_pos k5, if_pos k6, if_neg k7, if_pos, if_neg qn_10]
                try rfl
            · by_cases k7 : mode = 1
              · simp only [if_pos k1, if_neg k2, if_neg k3, if_neg k4, if_pos k5, if_neg k6, if_pos k7, if_pos, if_neg qn_10]
                try rfl
              · simp only [if_pos k1, if_neg k2, if_neg k3, if_neg k4, if_pos k5, if_neg k6, if_neg k7, if_pos, if_neg qn_10]
                try rfl
          · by_cases k6 : u = 0
            · by_cases k7 : mode = 1
              · simp only [if_pos k1, if_neg k2, if_neg k3, if_neg k4, if_neg k5, if_pos k6, if_pos k7, if_pos, if_neg qn_10]
                try rfl
              · simp only [if_pos k1, if_neg k2, if_neg k3, if_neg k4, if_neg k5, if_pos k6, if_neg k7, if_pos, if_neg qn_10]
                try rfl
            · by_cases k7 : mode = 1
              · simp only [if_pos k1, if_neg k2, if_neg k3, if_neg k4, if_neg k5, if_neg k6, if_pos k7, if_pos, if_neg qn_10]
                try rfl
              · simp only [if_pos k1, if_neg k2, if_neg k3, if_neg k4, if_neg k5, if_neg k6, if_neg k7, if_pos, if_neg qn_10]
                try rfl
  · by_cases k2 : u ≤ 0
    · by_cases k3 : had - u ≤ g
      · by_cases k4 : want = (-1)
        · by_cases k5 : pl = want
          · by_cases k6 : u = 0
            · by_cases k7 : mode = 1
              · simp only [if_neg k1, if_pos k2, if_pos k3, if_pos k4, if_pos k5, if_pos k6, if_pos k7, if_pos, if_neg qn_10]
                try rfl
              · simp only [if_neg k1, if_pos k2, if_pos k3, if_pos k4, if_pos k5, if_pos k6, if_neg k7, if_pos, if_neg qn_10]
                try rfl
            · by_cases k7 : mode = 1
              · simp only [if_neg k1, if_pos k2, if_pos k3, if_pos k4, if_pos k5, if_neg k6, if_pos k7, if_pos, if_neg qn_10]
                try rfl
              · simp only [if_neg k1, if_pos k2, if_pos k3, if_pos k4, if_pos k5, if_neg k6, if_neg k7, if_pos, if_neg qn_10]
                try rfl
          · by_cases k6 : u = 0
            · by_cases k7 : mode = 1
              · simp only [if_neg k1, if_pos k2, if_pos k3, if_pos k4, if_neg k5, if_pos k6, if_pos k7, if_pos, if_neg qn_10]
                try rfl
              · simp only [if_neg k1, if_pos k2, if_pos k3, if_pos k4, if_neg k5, if_pos k6, if_neg k7, if_pos, if_neg qn_10]
                try rfl
            · by_cases k7 : mode = 1
              · simp only [if_neg k1, if_pos k2, if_pos k3, if_pos k4, if_neg k5, if_neg k6, if_pos k7, if_pos, if_neg qn_10]
                try rfl
              · simp only [if_neg k1, if_pos k2, if_pos k3, if_pos k4, if_neg k5, if_neg k6, if_neg k7, if_pos, if_neg qn_10]
                try rfl
        · by_cases k5 : pl = want
          · by_cases k6 : u = 0
            · by_cases k7 : mode = 1
              · simp only [if_neg k1, if_pos k2, if_pos k3, if_neg k4, if_pos k5, if_pos k6, if_pos k7, if_pos, if_neg qn_10]
                try rfl
              · simp only [if_neg k1, if_pos k2, if_pos k3, if_neg k4, if_pos k5, if_pos k6, if_neg k7, if_pos, if_neg qn_10]
                try rfl
            · by_cases k7 : mode = 1
              · simp only [if_neg k1, if_pos k2, if_pos k3, if_neg k4, if_pos k5, if_neg k6, if_pos k7, if_pos, if_neg qn_10]
                try rfl
              · simp only [if_neg k1, if_pos k2, if_pos k3, if_neg k4, if_pos k5, if_neg k6, if_neg k7, if_pos, if_neg qn_10]
                try rfl
          · by_cases k6 : u = 0
            · by_cases k7 : mode = 1
              · simp only [if_neg k1, if_pos k2, if_pos k3, if_neg k4, if_neg k5, if_pos k6, if_pos k7, if_pos, if_neg qn_10]
                try rfl
              · simp only [if_neg k1, if_pos k2, if_pos k3, if_neg k4, if_neg k5, if_pos k6, if_neg k7, if_pos, if_neg qn_10]
                try rfl
            · by_cases k7 : mode = 1
              · simp only [if_neg k1, if_pos k2, if_pos k3, if_neg k4, if_neg k5, if_neg k6, if_pos k7, if_pos, if_neg qn_10]
                try rfl
              · simp only [if_neg k1, if_pos k2, if_pos k3, if_neg k4, if_neg k5, if_neg k6, if_neg k7, if_pos, if_neg qn_10]
                try rfl
      · by_cases k4 : want = (-1)
        · by_cases k5 : pl = want
          · by_cases k6 : u = 0
            · by_cases k7 : mode = 1
              · simp only [if_neg k1, if_pos k2, if_neg k3, if_pos k4, if_pos k5, if_pos k6, if_pos k7, if_pos, if_neg qn_10]
                try rfl
              · simp only [if_neg k1, if_pos k2, if_neg k3, if_pos k4, if_pos k5, if_pos k6, if_neg k7, if_pos, if_neg qn_10]
                try rfl
            · by_cases k7 : mode = 1
              · simp only [if_neg k1, if_pos k2, if_neg k3, if_pos k4, if_pos k5, if_neg k6, if_pos k7, if_pos, if_neg qn_10]
                try rfl
              · simp only [if_neg k1, if_pos k2, if_neg k3, if_pos k4, if_pos k5, if_neg k6, if_neg k7, if_pos, if_neg qn_10]
                try rfl
          · by_cases k6 : u = 0
            · by_cases k7 : mode = 1
              · simp only [if_neg k1, if_pos k2, if_neg k3, if_pos k4, if_neg k5, if_pos k6, if_pos k7, if_pos, if_neg qn_10]
                try rfl
              · simp only [if_neg k1, if_pos k2, if_neg k3, if_pos k4, if_neg k5, if_pos k6, if_neg k7, if_pos, if_neg qn_10]
                try rfl
            · by_cases k7 : mode = 1
              · simp only [if_neg k1, if_pos k2, if_neg k3, if_pos k4, if_neg k5, if_neg k6, if_pos k7, if_pos, if_neg qn_10]
                try rfl
              · simp only [if_neg k1, if_pos k2, if_neg k3, if_pos k4, if_neg k5, if_neg k6, if_neg k7, if_pos, if_neg qn_10]
                try rfl
        · by_cases k5 : pl = want
          · by_cases k6 : u = 0
            · by_cases k7 : mode = 1
              · simp only [if_neg k1, if_pos k2, if_neg k3, if_neg k4, if_pos k5, if_pos k6, if_pos k7, if_pos, if_neg qn_10]
                try rfl
              · simp only [if_neg k1, if_pos k2, if_neg k3, if_neg k4, if_pos k5, if_pos k6, if_neg k7, if_pos, if_neg qn_10]
                try rfl
            · by_cases k7 : mode = 1
              · simp only [if_neg k1, if_pos k2, if_neg k3, if_neg k4, if_pos k5, if_neg k6, if_pos k7, if_pos, if_neg qn_10]
                try rfl
              · simp only [if_neg k1, if_pos k2, if_neg k3, if_neg k4, if_pos k5, if_neg k6, if_neg k7, if_pos, if_neg qn_10]
                try rfl
          · by_cases k6 : u = 0
            · by_cases k7 : mode = 1
              · simp only [if_neg k1, if_pos k2, if_neg k3, if_neg k4, if_neg k5, if_pos k6, if_pos k7, if_pos, if_neg qn_10]
                try rfl
              · simp only [if_neg k1, if_pos k2, if_neg k3, if_neg k4, if_neg k5, if_pos k6, if_neg k7, if_pos, if_neg qn_10]
                try rfl
            · by_cases k7 : mode = 1
              · simp only [if_neg k1, if_pos k2, if_neg k3, if_neg k4, if_neg k5, if_neg k6, if_pos k7, if_pos, if_neg qn_10]
                try rfl
              · simp only [if_neg k1, if_pos k2, if_neg k3, if_neg k4, if_neg k5, if_neg k6, if_neg k7, if_pos, if_neg qn_10]
                try rfl
    · by_cases k3 : had - u ≤ g
      · by_cases k4 : want = (-1)
        · by_cases k5 : pl = want
          · by_cases k6 : u = 0
            · by_cases k7 : mode = 1
              · simp only [if_neg k1, if_neg k2, if_pos k3, if_pos k4, if_pos k5, if_pos k6, if_pos k7, if_pos, if_neg qn_10]
                try rfl
              · simp only [if_neg k1, if_neg k2, if_pos k3, if_pos k4, if_pos k5, if_pos k6, if_neg k7, if_pos, if_neg qn_10]
                try rfl
            · by_cases k7 : mode = 1
              · simp only [if_neg k1, if_neg k2, if_pos k3, if_pos k4, if_pos k5, if_neg k6, if_pos k7, if_pos, if_neg qn_10]
                try rfl
              · simp only [if_neg k1, if_neg k2, if_pos k3, if_pos k4, if_pos k5, if_neg k6, if_neg k7, if_pos, if_neg qn_10]
                try rfl
          · by_cases k6 : u = 0
            · by_cases k7 : mode = 1
              · simp only [if_neg k1, if_neg k2, if_pos k3, if_pos k4, if_neg k5, if_pos k6, if_pos k7, if_pos, if_neg qn_10]
                try rfl
              · simp only [if_neg k1, if_neg k2, if_pos k3, if_pos k4, if_neg k5, if_pos k6, if_neg k7, if_pos, if_neg qn_10]
                try rfl
            · by_cases k7 : mode = 1
              · simp only [if_neg k1, if_neg k2, if_pos k3, if_pos k4, if_neg k5, if_neg k6, if_pos k7, if_pos, if_neg qn_10]
                try rfl
              · simp only [if_neg k1, if_neg k2, if_pos k3, if_pos k4, if_neg k5, if_neg k6, if_neg k7, if_pos, if_neg qn_10]
                try rfl
        · by_cases k5 : pl = want
          · by_cases k6 : u = 0
            · by_cases k7 : mode = 1
              · simp only [if_neg k1, if_neg k2, if_pos k3, if_neg k4, if_pos k5, if_pos k6, if_pos k7, if_pos, if_neg qn_10]
                try rfl
              · simp only [if_neg k1, if_neg k2, if_pos k3, if_neg k4, if_pos k5, if_pos k6, if_neg k7, if_pos, if_neg qn_10]
                try rfl
            · by_cases k7 : mode = 1
              · simp only [if_neg k1, if_neg k2, if_pos k3, if_neg k4, if_pos k5, if_neg k6, if_pos k7, if_pos, if_neg qn_10]
                try rfl
              · simp only [if_neg k1, if_neg k2, if_pos k3, if_neg k4, if_pos k5, if_neg k6, if_neg k7, if_pos, if_neg qn_10]
                try rfl
          · by_cases k6 : u = 0
            · by_cases k7 : mode = 1
              · simp only [if_neg k1, if_neg k2, if_pos k3, if_neg k4, if_neg k5, if_pos k6, if_pos k7, if_pos, if_neg qn_10]
                try rfl
              · simp only [if_neg k1, if_neg k2, if_pos k3, if_neg k4, if_neg k5, if_pos k6, if_neg k7, if_pos, if_neg qn_10]
                try rfl
            · by_cases k7 : mode = 1
              · simp only [if_neg k1, if_neg k2, if_pos k3, if_neg k4, if_neg k5, if_neg k6, if_pos k7, if_pos, if_neg qn_10]
                try rfl
              · simp only [if_neg k1, if_neg k2, if_pos k3, if_neg k4, if_neg k5, if_neg k6, if_neg k7, if_pos, if_neg qn_10]
                try rfl
      · by_cases k4 : want = (-1)
        · by_cases k5 : pl = want
          · by_cases k6 : u = 0
            · by_cases k7 : mode = 1
              · simp only [if_neg k1, if_neg k2, if_neg k3, if_pos k4, if_pos k5, if_pos k6, if_pos k7, if_pos, if_neg qn_10]
                try rfl
              · simp only [if_neg k1, if_neg k2, if_neg k3, if_pos k4, if_pos k5, if_pos k6, if_neg k7, if_pos, if_neg qn_10]
                try rfl
            · by_cases k7 : mode = 1
              · simp only [if_neg k1, if_neg k2, if_neg k3, if_pos k4, if_pos k5, if_neg k6, if_pos k7, if_pos, if_neg qn_10]
                try rfl
              · simp only [if_neg k1, if_neg k2, if_neg k3, if_pos k4, if_pos k5, if_neg k6, if_neg k7, if_pos, if_neg qn_10]
                try rfl
          · by_cases k6 : u = 0
            · by_cases k7 : mode = 1
              · simp only [if_neg k1, if_neg k2, if_neg k3, if_pos k4, if_neg k5, if_pos k6, if_pos k7, if_pos, if_neg qn_10]
                try rfl
              · simp only [if_neg k1, if_neg k2, if_neg k3, if_pos k4, if_neg k5, if_pos k6, if_neg k7, if_pos, if_neg qn_10]
                try rfl
            · by_cases k7 : mode = 1
              · simp only [if_neg k1, if_neg k2, if_neg k3, if_pos k4, if_neg k5, if_neg k6, if_pos k7, if_pos, if_neg qn_10]
                try rfl
              · simp only [if_neg k1, if_neg k2, if_neg k3, if_pos k4, if_neg k5, if_neg k6, if_neg k7, if_pos, if_neg qn_10]
                try rfl
        · by_cases k5 : pl = want
          · by_cases k6 : u = 0
            · by_cases k7 : mode = 1
              · simp only [if_neg k1, if_neg k2, if_neg k3, if_neg k4, if_pos k5, if_pos k6, if_pos k7, if_pos, if_neg qn_10]
                try rfl
              · simp only [if_neg k1, if_neg k2, if_neg k3, if_neg k4, if_pos k5, if_pos k6, if_neg k7, if_pos, if_neg qn_10]
                try rfl
            · by_cases k7 : mode = 1
              · simp only [if_neg k1, if_neg k2, if_neg k3, if_neg k4, if_pos k5, if_neg k6, if_pos k7, if_pos, if_neg qn_10]
                try rfl
              · simp only [if_neg k1, if_neg k2, if_neg k3, if_neg k4, if_pos k5, if_neg k6, if_neg k7, if_pos, if_neg qn_10]
                try rfl
          · by_cases k6 : u = 0
            · by_cases k7 : mode = 1
              · simp only [if_neg k1, if_neg k2, if_neg k3, if_neg k4, if_neg k5, if_pos k6, if_pos k7, if_pos, if_neg qn_10]
                try rfl
              · simp only [if_neg k1, if_neg k2, if_neg k3, if_neg k4, if_neg k5, if_pos k6, if_neg k7, if_pos, if_neg qn_10]
                try rfl
            · by_cases k7 : mode = 1
              · simp only [if_neg k1, if_neg k2, if_neg k3, if_neg k4, if_neg k5, if_neg k6, if_pos k7, if_pos, if_neg qn_10]
                try rfl
              · simp only [if_neg k1, if_neg k2, if_neg k3, if_neg k4, if_neg k5, if_neg k6, if_neg k7, if_pos, if_neg qn_10]
                try rfl
theorem ms_20 (gap dk place plo sp so V g b bo R I ds dp dst dw dh ki mk db oc ff ri cc w0 w1 w2 w3 w4 w5 : Int32) (n : Nat) (mh mc : Nat → Int32) :
    F_m_step_20 n gap dk mh place plo sp so V g b bo R I ds dp dst dw dh ki mk db oc ff ri mc cc w0 w1 w2 w3 w4 w5 = msG F_m_land_0 place sp g ki mk ds dp dw dh dst db cc w0 w1 w2 w3 w4 w5 (F_m_mode_0 dk oc ff ri) (F_m_wanted_0 n dk mh place oc ff ri mc cc) (F_m_next_20 gap place plo sp so V g b bo R I ds ki mk (F_m_mode_0 dk oc ff ri) (F_m_wanted_0 n dk mh place oc ff ri mc cc)) mc := by
  unfold F_m_step_20 msG stM
  simp only [cb]
  generalize F_m_next_20 gap place plo sp so V g b bo R I ds ki mk (F_m_mode_0 dk oc ff ri) (F_m_wanted_0 n dk mh place oc ff ri mc cc) = next
  generalize F_m_wanted_0 n dk mh place oc ff ri mc cc = want
  generalize F_m_mode_0 dk oc ff ri = mode
  generalize F_m_size sp = had
  generalize F_m_size next = u
  unfold K_m_step_20_80 K_m_step_20_157 K_m_step_20_201
  simp only [cb]
  generalize place + next = pl
  by_cases k1 : had = 0
  · by_cases k2 : u ≤ 0
    · by_cases k3 : had - u ≤ g
      · by_cases k4 : want = (-1)
        · by_cases k5 : pl = want
          · by_cases k6 : u = 0
            · by_cases k7 : mode = 1
              · simp only [if_pos k1, if_pos k2, if_pos k3, if_pos k4, if_pos k5, if_pos k6, if_pos k7, if_pos, if_neg qn_10]
                try rfl
              · simp only [if_pos k1, if_pos k2, if_pos k3, if_pos k4, if_pos k5, if_pos k6, if_neg k7, if_pos, if_neg qn_10]
                try rfl
            · by_cases k7 : mode = 1
              · simp only [if_pos k1, if_pos k2, if_pos k3, if_pos k4, if_pos k5, if_neg k6, if_pos k7, if_pos, if_neg qn_10]
                try rfl
              · simp only [if_pos k1, if_pos k2, if_pos k3, if_pos k4, if_pos k5, if_neg k6, if_neg k7, if_pos, if_neg qn_10]
                try rfl
          · by_cases k6 : u = 0
            · by_cases k7 : mode = 1
              · simp only [if_pos k1, if_pos k2, if_pos k3, if_pos k4, if_neg k5, if_pos k6, if_pos k7, if_pos, if_neg qn_10]
                try rfl
              · simp only [if_pos k1, if_pos k2, if_pos k3, if_pos k4, if_neg k5, if_pos k6, if_neg k7, if_pos, if_neg qn_10]
                try rfl
            · by_cases k7 : mode = 1
              · simp only [if_pos k1, if_pos k2, if_pos k3, if_pos k4, if_neg k5, if_neg k6, if_pos k7, if_pos, if_neg qn_10]
                try rfl
              · simp only [if_pos k1, if_pos k2, if_pos k3, if_pos k4, if_neg k5, if_neg k6, if_neg k7, if_pos, if_neg qn_10]
                try rfl
        · by_cases k5 : pl = want
          · by_cases k6 : u = 0
            · by_cases k7 : mode = 1
              · simp only [if_pos k1, if_pos k2, if_pos k3, if_neg k4, if_pos k5, if_pos k6, if_pos k7, if_pos, if_neg qn_10]
                try rfl
              · simp only [if_pos k1, if_pos k2, if_pos k3, if_neg k4, if_pos k5, if_pos k6, if_neg k7, if_pos, if_neg qn_10]
                try rfl
            · by_cases k7 : mode = 1
              · simp only [if_pos k1, if_pos k2, if_pos k3, if_neg k4, if_pos k5, if_neg k6, if_pos k7, if_pos, if_neg qn_10]
                try rfl
              · simp only [if_pos k1, if_pos k2, if_pos k3, if_neg k4, if_pos k5, if_neg k6, if_neg k7, if_pos, if_neg qn_10]
                try rfl
          · by_cases k6 : u = 0
            · by_cases k7 : mode = 1
              · simp only [if_pos k1, if_pos k2, if_pos k3, if_neg k4, if_neg k5, if_pos k6, if_pos k7, if_pos, if_neg qn_10]
                try rfl
              · simp only [if_pos k1, if_pos k2, if_pos k3, if_neg k4, if_neg k5, if_pos k6, if_neg k7, if_pos, if_neg qn_10]
                try rfl
            · by_cases k7 : mode = 1
              · simp only [if_pos k1, if_pos k2, if_pos k3, if_neg k4, if_neg k5, if_neg k6, if_pos k7, if_pos, if_neg qn_10]
                try rfl
              · simp only [if_pos k1, if_pos k2, if_pos k3, if_neg k4, if_neg k5, if_neg k6, if_neg k7, if_pos, if_neg qn_10]
                try rfl
      · by_cases k4 : want = (-1)
        · by_cases k5 : pl = want
          · by_cases k6 : u = 0
            · by_cases k7 : mode = 1
              · simp only [if_pos k1, if_pos k2, if_neg k3, if_pos k4, if_pos k5, if_pos k6, if_pos k7, if_pos, if_neg qn_10]
                try rfl
              · simp only [if_pos k1, if_pos k2, if_neg k3, if_pos k4, if_pos k5, if_pos k6, if_neg k7, if_pos, if_neg qn_10]
                try rfl
            · by_cases k7 : mode = 1
              · simp only [if_pos k1, if_pos k2, if_neg k3, if_pos k4, if_pos k5, if_neg k6, if_pos k7, if_pos, if_neg qn_10]
                try rfl
              · simp only [if_pos k1, if_pos k2, if_neg k3, if_pos k4, if_pos k5, if_neg k6, if_neg k7, if_pos, if_neg qn_10]
                try rfl
          · by_cases k6 : u = 0
            · by_cases k7 : mode = 1
              · simp only [if_pos k1, if_pos k2, if_neg k3, if_pos k4, if_neg k5, if_pos k6, if_pos k7, if_pos, if_neg qn_10]
                try rfl
              · simp only [if_pos k1, if_pos k2, if_neg k3, if_pos k4, if_neg k5, if_pos k6, if_neg k7, if_pos, if_neg qn_10]
                try rfl
            · by_cases k7 : mode = 1
              · simp only [if_pos k1, if_pos k2, if_neg k3, if_pos k4, if_neg k5, if_neg k6, if_pos k7, if_pos, if_neg qn_10]
                try rfl
              · simp only [if_pos k1, if_pos k2, if_neg k3, if_pos k4, if_neg k5, if_neg k6, if_neg k7, if_pos, if_neg qn_10]
                try rfl
        · by_cases k5 : pl = want
          · by_cases k6 : u = 0
            · by_cases k7 : mode = 1
              · simp only [if_pos k1, if_pos k2, if_neg k3, if_neg k4, if_pos k5, if_pos k6, if_pos k7, if_pos, if_neg qn_10]
                try rfl
              · simp only [if_pos k1, if_pos k2, if_neg k3, if_neg k4, if_pos k5, if_pos k6, if_neg k7, if_pos, if_neg qn_10]
                try rfl
            · by_cases k7 : mode = 1
              · simp only [if_pos k1, if_pos k2, if_neg k3, if_neg k4, if_pos k5, if_neg k6, if_pos k7, if_pos, if_neg qn_10]
                try rfl
              · simp only [if_pos k1, if_pos k2, if_neg k3, if_neg k4, if_pos k5, if_neg k6, if_neg k7, if_pos, if_neg qn_10]
                try rfl
          · by_cases k6 : u = 0
            · by_cases k7 : mode = 1
              · simp only [if_pos k1, if_pos k2, if_neg k3, if_neg k4, if_neg k5, if_pos k6, if_pos k7, if_pos, if_neg qn_10]
                try rfl
              · simp only [if_pos k1, if_pos k2, if_neg k3, if_neg k4, if_neg k5, if_pos k6, if_neg k7, if_pos, if_neg qn_10]
                try rfl
            · by_cases k7 : mode = 1
              · simp only [if_pos k1, if_pos k2, if_neg k3, if_neg k4, if_neg k5, if_neg k6, if_pos k7, if_pos, if_neg qn_10]
                try rfl
              · simp only [if_pos k1, if_pos k2, if_neg k3, if_neg k4, if_neg k5, if_neg k6, if_neg k7, if_pos, if_neg qn_10]
                try rfl
    · by_cases k3 : had - u ≤ g
      · by_cases k4 : want = (-1)
        · by_cases k5 : pl = want
          · by_cases k6 : u = 0
            · by_cases k7 : mode = 1
              · simp only [if_pos k1, if_neg k2, if_pos k3, if_pos k4, if_pos k5, if_pos k6, if_pos k7, if_pos, if_neg qn_10]
                try rfl
              · simp only [if_pos k1, if_neg k2, if_pos k3, if_pos k4, if_pos k5, if_pos k6, if_neg k7, if_pos, if_neg qn_10]
                try rfl
            · by_cases k7 : mode = 1
              · simp only [if_pos k1, if_neg k2, if_pos k3, if_pos k4, if_pos k5, if_neg k6, if_pos k7, if_pos, if_neg qn_10]
                try rfl
              · simp only [if_pos k1, if_neg k2, if_pos k3, if_pos k4, if_pos k5, if_neg k6, if_neg k7, if_pos, if_neg qn_10]
                try rfl
          · by_cases k6 : u = 0
            · by_cases k7 : mode = 1
              · simp only [if_pos k1, if_neg k2, if_pos k3, if_pos k4, if_neg k5, if_pos k6, if_pos k7, if_pos, if_neg qn_10]
                try rfl
              · simp only [if_pos k1, if_neg k2, if_pos k3, if_pos k4, if_neg k5, if_pos k6, if_neg k7, if_pos, if_neg qn_10]
                try rfl
            · by_cases k7 : mode = 1
              · simp only [if_pos k1, if_neg k2, if_pos k3, if_pos k4, if_neg k5, if_neg k6, if_pos k7, if_pos, if_neg qn_10]
                try rfl
              · simp only [if_pos k1, if_neg k2, if_pos k3, if_pos k4, if_neg k5, if_neg k6, if_neg k7, if_pos, if_neg qn_10]
                try rfl
        · by_cases k5 : pl = want
          · by_cases k6 : u = 0
            · by_cases k7 : mode = 1
              · simp only [if_pos k1, if_neg k2, if_pos k3, if_neg k4, if_pos k5, if_pos k6, if_pos k7, if_pos, if_neg qn_10]
                try rfl
              · simp only [if_pos k1, if_neg k2, if_pos k3, if_neg k4, if_pos k5, if_pos k6, if_neg k7, if_pos, if_neg qn_10]
                try rfl
            · by_cases k7 : mode = 1
              · simp only [if_pos k1, if_neg k2, if_pos k3, if_neg k4, if_pos k5, if_neg k6, if_pos k7, if_pos, if_neg qn_10]
                try rfl
              · simp only [if_pos k1, if_neg k2, if_pos k3, if_neg k4, if_pos k5, if_neg k6, if_neg k7, if_pos, if_neg qn_10]
                try rfl
          · by_cases k6 : u = 0
            · by_cases k7 : mode = 1
              · simp only [if_pos k1, if_neg k2, if_pos k3, if_neg k4, if_neg k5, if_pos k6, if_pos k7, if_pos, if_neg qn_10]
                try rfl
              · simp only [if_pos k1, if_neg k2, if_pos k3, if_neg k4, if_neg k5, if_pos k6, if_neg k7, if_pos, if_neg qn_10]
                try rfl
            · by_cases k7 : mode = 1
              · simp only [if_pos k1, if_neg k2, if_pos k3, if_neg k4, if_neg k5, if_neg k6, if_pos k7, if_pos, if_neg qn_10]
                try rfl
              · simp only [if_pos k1, if_neg k2, if_pos k3, if_neg k4, if_neg k5, if_neg k6, if_neg k7, if_pos, if_neg qn_10]
                try rfl
      · by_cases k4 : want = (-1)
        · by_cases k5 : pl = want
          · by_cases k6 : u = 0
            · by_cases k7 : mode = 1
              · simp only [if_pos k1, if_neg k2, if_neg k3, if_pos k4, if_pos k5, if_pos k6, if_pos k7, if_pos, if_neg qn_10]
                try rfl
              · simp only [if_pos k1, if_neg k2, if_neg k3, if_pos k4, if_pos k5, if_pos k6, if_neg k7, if_pos, if_neg qn_10]
                try rfl
            · by_cases k7 : mode = 1
              · simp only [if_pos k1, if_neg k2, if_neg k3, if_pos k4, if_pos k5, if_neg k6, if_pos k7, if_pos, if_neg qn_10]
                try rfl
              · simp only [if_pos k1, if_neg k2, if_neg k3, if_pos k4, if_pos k5, if_neg k6, if_neg k7, if_pos, if_neg qn_10]
                try rfl
          · by_cases k6 : u = 0
            · by_cases k7 : mode = 1
              · simp only [if_pos k1, if_neg k2, if_neg k3, if_pos k4, if_neg k5, if_pos k6, if_pos k7, if_pos, if_neg qn_10]
                try rfl
              · simp only [if_pos k1, if_neg k2, if_neg k3, if_pos k4, if_neg k5, if_pos k6, if_neg k7, if_pos, if_neg qn_10]
                try rfl
            · by_cases k7 : mode = 1
              · simp only [if_pos k1, if_neg k2, if_neg k3, if_pos k4, if_neg k5, if_neg k6, if_pos k7, if_pos, if_neg qn_10]
                try rfl
              · simp only [if_pos k1, if_neg k2, if_neg k3, if_pos k4, if_neg k5, if_neg k6, if_neg k7, if_pos, if_neg qn_10]
                try rfl
        · by_cases k5 : pl = want
          · by_cases k6 : u = 0
            · by_cases k7 : mode = 1
              · simp only [if_pos k1, if_neg k2, if_neg k3, if_neg k4, if_pos k5, if_pos k6, if_pos k7, if_pos, if_neg qn_10]
                try rfl
              · simp only [if_pos k1, if_neg k2, if_neg k3, if_neg k4, if_pos k5, if_pos k6, if_neg k7, if_pos, if_neg qn_10]
                try rfl
            · by_cases k7 : mode = 1
              · simp only [if_pos k1, if_neg k2, if_neg k3, if_neg k4, if_pos k5, if_neg k6, if_pos k7, if_pos, if_neg qn_10]
                try rfl
              · simp only [if_pos k1, if_neg k2, if_neg k3, if_neg k4, if_pos k5, if_neg k6, if_neg k7, if_pos, if_neg qn_10]
                try rfl
          · by_cases k6 : u = 0
            · by_cases k7 : mode = 1
              · simp only [if_pos k1, if_neg k2, if_neg k3, if_neg k4, if_neg k5, if_pos k6, if_pos k7, if_pos, if_neg qn_10]
                try rfl
              · simp only [if_pos k1, if_neg k2, if_neg k3, if_neg k4, if_neg k5, if_pos k6, if_neg k7, if_pos, if_neg qn_10]
                try rfl
            · by_cases k7 : mode = 1
              · simp only [if_pos k1, if_neg k2, if_neg k3, if_neg k4, if_neg k5, if_neg k6, if_pos k7, if_pos, if_neg qn_10]
                try rfl
              · simp only [if_pos k1, if_neg k2, if_neg k3, if_neg k4, if_neg k5, if_neg k6, if_neg k7, if_pos, if_neg qn_10]
                try rfl
  · by_cases k2 : u ≤ 0
    · by_cases k3 : had - u ≤ g
      · by_cases k4 : want = (-1)
        · by_cases k5 : pl = want
          · by_cases k6 : u = 0
            · by_cases k7 : mode = 1
              · simp only [if_neg k1, if_pos k2, if_pos k3, if_pos k4, if_pos k5, if_pos k6, if_pos k7, if_pos, if_neg qn_10]
                try rfl
              · simp only [if_neg k1, if_pos k2, if_pos k3, if_pos k4, if_pos k5, if_pos k6, if_neg k7, if_pos, if_neg qn_10]
                try rfl
            · by_cases k7 : mode = 1
              · simp only [if_neg k1, if_pos k2, if_pos k3, if_pos k4, if_pos k5, if_neg k6, if_pos k7, if_pos, if_neg qn_10]
                try rfl
              · simp only [if_neg k1, if_pos k2, if_pos k3, if_pos k4, if_pos k5, if_neg k6, if_neg k7, if_pos, if_neg qn_10]
                try rfl
          · by_cases k6 : u = 0
            · by_cases k7 : mode = 1
              · simp only [if_neg k1, if_pos k2, if_pos k3, if_pos k4, if_neg k5, if_pos k6, if_pos k7, if_pos, if_neg qn_10]
                try rfl
              · simp only [if_neg k1, if_pos k2, if_pos k3, if_pos k4, if_neg k5, if_pos k6, if_neg k7, if_pos, if_neg qn_10]
                try rfl
            · by_cases k7 : mode = 1
              · simp only [if_neg k1, if_pos k2, if_pos k3, if_pos k4, if_neg k5, if_neg k6, if_pos k7, if_pos, if_neg qn_10]
                try rfl
              · simp only [if_neg k1, if_pos k2, if_pos k3, if_pos k4, if_neg k5, if_neg k6, if_neg k7, if_pos, if_neg qn_10]
                try rfl
        · by_cases k5 : pl = want
          · by_cases k6 : u = 0
            · by_cases k7 : mode = 1
              · simp only [if_neg k1, if_pos k2, if_pos k3, if_neg k4, if_pos k5, if_pos k6, if_pos k7, if_pos, if_neg qn_10]
                try rfl
              · simp only [if_neg k1, if_pos k2, if_pos k3, if_neg k4, if_pos k5, if_pos k6, if_neg k7, if_pos, if_neg qn_10]
                try rfl
            · by_cases k7 : mode = 1
              · simp only [if_neg k1, if_pos k2, if_pos k3, if_neg k4, if_pos k5, if_neg k6, if_pos k7, if_pos, if_neg qn_10]
                try rfl
              · simp only [if_neg k1, if_pos k2, if_pos k3, if_neg k4, if_pos k5, if_neg k6, if_neg k7, if_pos, if_neg qn_10]
                try rfl
          · by_cases k6 : u = 0
            · by_cases k7 : mode = 1
              · simp only [if_neg k1, if_pos k2, if_pos k3, if_neg k4, if_neg k5, if_pos k6, if_pos k7, if_pos, if_neg qn_10]
                try rfl
              · simp only [if_neg k1, if_pos k2, if_pos k3, if_neg k4, if_neg k5, if_pos k6, if_neg k7, if_pos, if_neg qn_10]
                try rfl
            · by_cases k7 : mode = 1
              · simp only [if_neg k1, if_pos k2, if_pos k3, if_neg k4, if_neg k5, if_neg k6, if_pos k7, if_pos, if_neg qn_10]
                try rfl
              · simp only [if_neg k1, if_pos k2, if_pos k3, if_neg k4, if_neg k5, if_neg k6, if_neg k7, if_pos, if_neg qn_10]
                try rfl
      · by_cases k4 : want = (-1)
        · by_cases k5 : pl = want
          · by_cases k6 : u = 0
            · by_cases k7 : mode = 1
              · simp only [if_neg k1, if_pos k2, if_neg k3, if_pos k4, if_pos k5, if_pos k6, if_pos k7, if_pos, if_neg qn_10]
                try rfl
              · simp only [if_neg k1, if_pos k2, if_neg k3, if_pos k4, if_pos k5, if_pos k6, if_neg k7, if_pos, if_neg qn_10]
                try rfl
            · by_cases k7 : mode = 1
              · simp only [if_neg k1, if_pos k2, if_neg k3, if_pos k4, if_pos k5, if_neg k6, if_pos k7, if_pos, if_neg qn_10]
                try rfl
              · simp only [if_neg k1, if_pos k2, if_neg k3, if_pos k4, if_pos k5, if_neg k6, if_neg k7, if_pos, if_neg qn_10]
                try rfl
          · by_cases k6 : u = 0
            · by_cases k7 : mode = 1
              · simp only [if_neg k1, if_pos k2, if_neg k3, if_pos k4, if_neg k5, if_pos k6, if_pos k7, if_pos, if_neg qn_10]
                try rfl
              · simp only [if_neg k1, if_pos k2, if_neg k3, if_pos k4, if_neg k5, if_pos k6, if_neg k7, if_pos, if_neg qn_10]
                try rfl
            · by_cases k7 : mode = 1
              · simp only [if_neg k1, if_pos k2, if_neg k3, if_pos k4, if_neg k5, if_neg k6, if_pos k7, if_pos, if_neg qn_10]
                try rfl
              · simp only [if_neg k1, if_pos k2, if_neg k3, if_pos k4, if_neg k5, if_neg k6, if_neg k7, if_pos, if_neg qn_10]
                try rfl
        · by_cases k5 : pl = want
          · by_cases k6 : u = 0
            · by_cases k7 : mode = 1
              · simp only [if_neg k1, if_pos k2, if_neg k3, if_neg k4, if_pos k5, if_pos k6, if_pos k7, if_pos, if_neg qn_10]
                try rfl
              · simp only [if_neg k1, if_pos k2, if_neg k3, if_neg k4, if_pos k5, if_pos k6, if_neg k7, if_pos, if_neg qn_10]
                try rfl
            · by_cases k7 : mode = 1
              · simp only [if_neg k1, if_pos k2, if_neg k3, if_neg k4, if_pos k5, if_neg k6, if_pos k7, if_pos, if_neg qn_10]
                try rfl
              · simp only [if_neg k1, if_pos k2, if_neg k3, if_neg k4, if_pos k5, if_neg k6, if_neg k7, if_pos, if_neg qn_10]
                try rfl
          · by_cases k6 : u = 0
            · by_cases k7 : mode = 1
              · simp only [if_neg k1, if_pos k2, if_neg k3, if_neg k4, if_neg k5, if_pos k6, if_pos k7, if_pos, if_neg qn_10]
                try rfl
              · simp only [if_neg k1, if_pos k2, if_neg k3, if_neg k4, if_neg k5, if_pos k6, if_neg k7, if_pos, if_neg qn_10]
                try rfl
            · by_cases k7 : mode = 1
              · simp only [if_neg k1, if_pos k2, if_neg k3, if_neg k4, if_neg k5, if_neg k6, if_pos k7, if_pos, if_neg qn_10]
                try rfl
              · simp only [if_neg k1, if_pos k2, if_neg k3, if_neg k4, if_neg k5, if_neg k6, if_neg k7, if_pos, if_neg qn_10]
                try rfl
    · by_cases k3 : had - u ≤ g
      · by_cases k4 : want = (-1)
        · by_cases k5 : pl = want
          · by_cases k6 : u = 0
            · by_cases k7 : mode = 1
              · simp only [if_neg k1, if_neg k2, if_pos k3, if_pos k4, if_pos k5, if_pos k6, if_pos k7, if_pos, if_neg qn_10]
                try rfl
              · simp only [if_neg k1, if_neg k2, if_pos k3, if_pos k4, if_pos k5, if_pos k6, if_neg k7, if_pos, if_neg qn_10]
                try rfl
            · by_cases k7 : mode = 1
              · simp only [if_neg k1, if_neg k2, if_pos k3, if_pos k4, if_pos k5, if_neg k6, if_pos k7, if_pos, if_neg qn_10]
                try rfl
              · simp only [if_neg k1, if_neg k2, if_pos k3, if_pos k4, if_pos k5, if_neg k6, if_neg k7, if_pos, if_neg qn_10]
                try rfl
          · by_cases k6 : u = 0
            · by_cases k7 : mode = 1
              · simp only [if_neg k1, if_neg k2, if_pos k3, if_pos k4, if_neg k5, if_pos k6, if_pos k7, if_pos, if_neg qn_10]
                try rfl
              · simp only [if_neg k1, if_neg k2, if_pos k3, if_pos k4, if_neg k5, if_pos k6, if_neg k7, if_pos, if_neg qn_10]
                try rfl
            · by_cases k7 : mode = 1
              · simp only [if_neg k1, if_neg k2, if_pos k3, if_pos k4, if_neg k5, if_neg k6, if_pos k7, if_pos, if_neg qn_10]
                try rfl
              · simp only [if_neg k1, if_neg k2, if_pos k3, if_pos k4, if_neg k5, if_neg k6, if_neg k7, if_pos, if_neg qn_10]
                try rfl
        · by_cases k5 : pl = want
          · by_cases k6 : u = 0
            · by_cases k7 : mode = 1
              · simp only [if_neg k1, if_neg k2, if_pos k3, if_neg k4, if_pos k5, if_pos k6, if_pos k7, if_pos, if_neg qn_10]
                try rfl
              · simp only [if_neg k1, if_neg k2, if_pos k3, if_neg k4, if_pos k5, if_pos k6, if_neg k7, if_pos, if_neg qn_10]
                try rfl
            · by_cases k7 : mode = 1
              · simp only [if_neg k1, if_neg k2, if_pos k3, if_neg k4, if_pos k5, if_neg k6, if_pos k7, if_pos, if_neg qn_10]
                try rfl
              · simp only [if_neg k1, if_neg k2, if_pos k3, if_neg k4, if_pos k5, if_neg k6, if_neg k7, if_pos, if_neg qn_10]
                try rfl
          · by_cases k6 : u = 0
            · by_cases k7 : mode = 1
              · simp only [if_neg k1, if_neg k2, if_pos k3, if_neg k4, if_neg k5, if_pos k6, if_pos k7, if_pos, if_neg qn_10]
                try rfl
              · simp only [if_neg k1, if_neg k2, if_pos k3, if_neg k4, if_neg k5, if_pos k6, if_neg k7, if_pos, if_neg qn_10]
                try rfl
            · by_cases k7 : mode = 1
              · simp only [if_neg k1, if_neg k2, if_pos k3, if_neg k4, if_neg k5, if_neg k6, if_pos k7, if_pos, if_neg qn_10]
                try rfl
              · simp only [if_neg k1, if_neg k2, if_pos k3, if_neg k4, if_neg k5, if_neg k6, if_neg k7, if_pos, if_neg qn_10]
                try rfl
      · by_cases k4 : want = (-1)
        · by_cases k5 : pl = want
          · by_cases k6 : u = 0
            · by_cases k7 : mode = 1
              · simp only [if_neg k1, if_neg k2, if_neg k3, if_pos k4, if_pos k5, if_pos k6, if_pos k7, if_pos, if_neg qn_10]
                try rfl
              · simp only [if_neg k1, if_neg k2, if_neg k3, if_pos k4, if_pos k5, if_pos k6, if_neg k7, if_pos, if_neg qn_10]
                try rfl
            · by_cases k7 : mode = 1
              · simp only [if_neg k1, if_neg k2, if_neg k3, if_pos k4, if_pos k5, if_neg k6, if_pos k7, if_pos, if_neg qn_10]
                try rfl
              · simp only [if_neg k1, if_neg k2, if_neg k3, if_pos k4, if_pos k5, if_neg k6, if_neg k7, if_pos, if_neg qn_10]
                try rfl
          · by_cases k6 : u = 0
            · by_cases k7 : mode = 1
              · simp only [if_neg k1, if_neg k2, if_neg k3, if_pos k4, if_neg k5, if_pos k6, if_pos k7, if_pos, if_neg qn_10]
                try rfl
              · simp only [if_neg k1, if_neg k2, if_neg k3, if_pos k4, if_neg k5, if_pos k6, if_neg k7, if_pos, if_neg qn_10]
                try rfl
            · by_cases k7 : mode = 1
              · simp only [if_neg k1, if_neg k2, if_neg k3, if_pos k4, if_neg k5, if_neg k6, if_pos k7, if_pos, if_neg qn_10]
                try rfl
              · simp only [if_neg k1, if_neg k2, if_neg k3, if_pos k4, if_neg k5, if_neg k6, if_neg k7, if_pos, if_neg qn_10]
                try rfl
        · by_cases k5 : pl = want
          · by_cases k6 : u = 0
            · by_cases k7 : mode = 1
              · simp only [if_neg k1, if_neg k2, if_neg k3, if_neg k4, if_pos k5, if_pos k6, if_pos k7, if_pos, if_neg qn_10]
                try rfl
              · simp only [if_neg k1, if_neg k2, if_neg k3, if_neg k4, if_pos k5, if_pos k6, if_neg k7, if_pos, if_neg qn_10]
                try rfl
            · by_cases k7 : mode = 1
              · simp only [if_neg k1, if_neg k2, if_neg k3, if_neg k4, if_pos k5, if_neg k6, if_pos k7, if_pos, if_neg qn_10]
                try rfl
              · simp only [if_neg k1, if_neg k2, if_neg k3, if_neg k4, if_pos k5, if_neg k6, if_neg k7, if_pos, if_neg qn_10]
                try rfl
          · by_cases k6 : u = 0
            · by_cases k7 : mode = 1
              · simp only [if_neg k1, if_neg k2, if_neg k3, if_neg k4, if_neg k5, if_pos k6, if_pos k7, if_pos, if_neg qn_10]
                try rfl
              · simp only [if_neg k1, if_neg k2, if_neg k3, if_neg k4, if_neg k5, if_pos k6, if_neg k7, if_pos, if_neg qn_10]
                try rfl
            · by_cases k7 : mode = 1
              · simp only [if_neg k1, if_neg k2, if_neg k3, if_neg k4, if_neg k5, if_neg k6, if_pos k7, if_pos, if_neg qn_10]
                try rfl
              · simp only [if_neg k1, if_neg k2, if_neg k3, if_neg k4, if_neg k5, if_neg k6, if_neg k7, if_pos, if_neg qn_10]
                try rfl
theorem ms_21 (gap dk plo place so sp V g bo b R I ds dp dst dw dh ki mk db oc ff ri cc w0 w1 w2 w3 w4 w5 : Int32) (n : Nat) (mh mc : Nat → Int32) :
    F_m_step_21 n gap dk mh plo place so sp V g bo b R I ds dp dst dw dh ki mk db oc ff ri mc cc w0 w1 w2 w3 w4 w5 = msG F_m_land_1 place sp g ki mk ds dp dw dh dst db cc w0 w1 w2 w3 w4 w5 (F_m_mode_1 dk oc ff ri) (F_m_wanted_1 n dk mh place oc ff ri mc cc) (F_m_next_21 gap plo place so sp V g bo b R I ds ki mk (F_m_mode_1 dk oc ff ri) (F_m_wanted_1 n dk mh place oc ff ri mc cc)) mc := by
  unfold F_m_step_21 msG stM
  simp only [cb]
  generalize F_m_next_21 gap plo place so sp V g bo b R I ds ki mk (F_m_mode_1 dk oc ff ri) (F_m_wanted_1 n dk mh place oc ff ri mc cc) = next
  generalize F_m_wanted_1 n dk mh place oc ff ri mc cc = want
  generalize F_m_mode_1 dk oc ff ri = mode
  generalize F_m_size sp = had
  generalize F_m_size next = u
  unfold K_m_step_21_80 K_m_step_21_157 K_m_step_21_201
  simp only [cb]
  generalize place + next = pl
  by_cases k1 : had = 0
  · by_cases k2 : u ≤ 0
    · by_cases k3 : had - u ≤ g
      · by_cases k4 : want = (-1)
        · by_cases k5 : pl = want
          · by_cases k6 : u = 0
            · by_cases k7 : mode = 1
              · simp only [if_pos k1, if_pos k2, if_pos k3, if_pos k4, if_pos k5, if_pos k6, if_pos k7, if_pos, if_neg qn_10]
                try rfl
              · simp only [if_pos k1, if_pos k2, if_pos k3, if_pos k4, if_pos k5, if_pos k6, if_neg k7, if_pos, if_neg qn_10]
                try rfl
            · by_cases k7 : mode = 1
              · simp only [if_pos k1, if_pos k2, if_pos k3, if_pos k4, if_pos k5, if_neg k6, if_pos k7, if_pos, if_neg qn_10]
                try rfl
              · simp only [if_pos k1, if_pos k2, if_pos k3, if_pos k4, if_pos k5, if_neg k6, if_neg k7, if_pos, if_neg qn_10]
                try rfl
          · by_cases k6 : u = 0
            · by_cases k7 : mode = 1
              · simp only [if_pos k1, if_pos k2, if_pos k3, if_pos k4, if_neg k5, if_pos k6, if_pos k7, if_pos, if_neg qn_10]
                try rfl
              · simp only [if_pos k1, if_pos k2, if_pos k3, if_pos k4, if_neg k5, if_pos k6, if_neg k7, if_pos, if_neg qn_10]
                try rfl
            · by_cases k7 : mode = 1
              · simp only [if_pos k1, if_pos k2, if_pos k3, if_pos k4, if_neg k5, if_neg k6, if_pos k7, if_pos, if_neg qn_10]
                try rfl
              · simp only [if_pos k1, if_pos k2, if_pos k3, if_pos k4, if_neg k5, if_neg k6, if_neg k7, if_pos, if_neg qn_10]
                try rfl
        · by_cases k5 : pl = want
          · by_cases k6 : u = 0
            · by_cases k7 : mode = 1
              · simp only [if_pos k1, if_pos k2, if_pos k3, if_neg k4, if_pos k5, if_pos k6, if_pos k7, if_pos, if_neg qn_10]
                try rfl
              · simp only [if_pos k1, if_pos k2, if_pos k3, if_neg k4, if_pos k5, if_pos k6, if_neg k7, if_pos, if_neg qn_10]
                try rfl
            · by_cases k7 : mode = 1
              · simp only [if_pos k1, if_pos k2, if_pos k3, if_neg k4, if_pos k5, if_neg k6, if_pos k7, if_pos, if_neg qn_10]
                try rfl
              · simp only [if_pos k1, if_pos k2, if_pos k3, if_neg k4, if_pos k5, if_neg k6, if_neg k7, if_pos, if_neg qn_10]
                try rfl
          · by_cases k6 : u = 0
            · by_cases k7 : mode = 1
              · simp only [if_pos k1, if_pos k2, if_pos k3, if_neg k4, if_neg k5, if_pos k6, if_pos k7, if_pos, if_neg qn_10]
                try rfl
              · simp only [if_pos k1, if_pos k2, if_pos k3, if_neg k4, if_neg k5, if_pos k6, if_neg k7, if_pos, if_neg qn_10]
                try rfl
            · by_cases k7 : mode = 1
              · simp only [if_pos k1, if_pos k2, if_pos k3, if_neg k4, if_neg k5, if_neg k6, if_pos k7, if_pos, if_neg qn_10]
                try rfl
              · simp only [if_pos k1, if_pos k2, if_pos k3, if_neg k4, if_neg k5, if_neg k6, if_neg k7, if_pos, if_neg qn_10]
                try rfl
      · by_cases k4 : want = (-1)
        · by_cases k5 : pl = want
          · by_cases k6 : u = 0
            · by_cases k7 : mode = 1
              · simp only [if_pos k1, if_pos k2, if_neg k3, if_pos k4, if_pos k5, if_pos k6, if_pos k7, if_pos, if_neg qn_10]
                try rfl
              · simp only [if_pos k1, if_pos k2, if_neg k3, if_pos k4, if_pos k5, if_pos k6, if_neg k7, if_pos, if_neg qn_10]
                try rfl
            · by_cases k7 : mode = 1
              · simp only [if_pos k1, if_pos k2, if_neg k3, if_pos k4, if_pos k5, if_neg k6, if_pos k7, if_pos, if_neg qn_10]
                try rfl
              · simp only [if_pos k1, if_pos k2, if_neg k3, if_pos k4, if_pos k5, if_neg k6, if_neg k7, if_pos, if_neg qn_10]
                try rfl
          · by_cases k6 : u = 0
            · by_cases k7 : mode = 1
              · simp only [if_pos k1, if_pos k2, if_neg k3, if_pos k4, if_neg k5, if_pos k6, if_pos k7, if_pos, if_neg qn_10]
                try rfl
              · simp only [if_pos k1, if_pos k2, if_neg k3, if_pos k4, if_neg k5, if_pos k6, if_neg k7, if_pos, if_neg qn_10]
                try rfl
            · by_cases k7 : mode = 1
              · simp only [if_pos k1, if_pos k2, if_neg k3, if_pos k4, if_neg k5, if_neg k6, if_pos k7, if_pos, if_neg qn_10]
                try rfl
              · simp only [if_pos k1, if_pos k2, if_neg k3, if_pos k4, if_neg k5, if_neg k6, if_neg k7, if_pos, if_neg qn_10]
                try rfl
        · by_cases k5 : pl = want
          · by_cases k6 : u = 0
            · by_cases k7 : mode = 1
              · simp only [if_pos k1, if_pos k2, if_neg k3, if_neg k4, if_pos k5, if_pos k6, if_pos k7, if_pos, if_neg qn_10]
                try rfl
              · simp only [if_pos k1, if_pos k2, if_neg k3, if_neg k4, if_pos k5, if_pos k6, if_neg k7, if_pos, if_neg qn_10]
                try rfl
            · by_cases k7 : mode = 1
              · simp only [if_pos k1, if_pos k2, if_neg k3, if_neg k4, if_pos k5, if_neg k6, if_pos k7, if_pos, if_neg qn_10]
                try rfl
              · simp only [if_pos k1, if_pos k2, if_neg k3, if_neg k4, if_pos k5, if_neg k6, if_neg k7, if_pos, if_neg qn_10]
                try rfl
          · by_cases k6 : u = 0
            · by_cases k7 : mode = 1
              · simp only [if_pos k1, if_pos k2, if_neg k3, if_neg k4, if_neg k5, if_pos k6, if_pos k7, if_pos, if_neg qn_10]
                try rfl
              · simp only [if_pos k1, if_pos k2, if_neg k3, if_neg k4, if_neg k5, if_pos k6, if_neg k7, if_pos, if_neg qn_10]
                try rfl
            · by_cases k7 : mode = 1
              · simp only [if_pos k1, if_pos k2, if_neg k3, if_neg k4, if_neg k5, if_neg k6, if_pos k7, if_pos, if_neg qn_10]
                try rfl
              · simp only [if_pos k1, if_pos k2, if_neg k3, if_neg k4, if_neg k5, if_neg k6, if_neg k7, if_pos, if_neg qn_10]
                try rfl
    · by_cases k3 : had - u ≤ g
      · by_cases k4 : want = (-1)
        · by_cases k5 : pl = want
          · by_cases k6 : u = 0
            · by_cases k7 : mode = 1
              · simp only [if_pos k1, if_neg k2, if_pos k3, if_pos k4, if_pos k5, if_pos k6, if_pos k7, if_pos, if_neg qn_10]
                try rfl
              · simp only [if_pos k1, if_neg k2, if_pos k3, if_pos k4, if_pos k5, if_pos k6, if_neg k7, if_pos, if_neg qn_10]
                try rfl
            · by_cases k7 : mode = 1
              · simp only [if_pos k1, if_neg k2, if_pos k3, if_pos k4, if_pos k5, if_neg k6, if_pos k7, if_pos, if_neg qn_10]
                try rfl
              · simp only [if_pos k1, if_neg k2, if_pos k3, if_pos k4, if_pos k5, if_neg k6, if_neg k7, if_pos, if_neg qn_10]
                try rfl
          · by_cases k6 : u = 0
            · by_cases k7 : mode = 1
              · simp only [if_pos k1, if_neg k2, if_pos k3, if_pos k4, if_neg k5, if_pos k6, if_pos k7, if_pos, if_neg qn_10]
                try rfl
              · simp only [if_pos k1, if_neg k2, if_pos k3, if_pos k4, if_neg k5, if_pos k6, if_neg k7, if_pos, if_neg qn_10]
                try rfl
            · by_cases k7 : mode = 1
              · simp only [if_pos k1, if_neg k2, if_pos k3, if_pos k4, if_neg k5, if_neg k6, if_pos k7, if_pos, if_neg qn_10]
                try rfl
              · simp only [if_pos k1, if_neg k2, if_pos k3, if_pos k4, if_neg k5, if_neg k6, if_neg k7, if_pos, if_neg qn_10]
                try rfl
        · by_cases k5 : pl = want
          · by_cases k6 : u = 0
            · by_cases k7 : mode = 1
              · simp only [if_pos k1, if_neg k2, if_pos k3, if_neg k4, if_pos k5, if_pos k6, if_pos k7, if_pos, if_neg qn_10]
                try rfl
              · simp only [if_pos k1, if_neg k2, if_pos k3, if_neg k4, if_pos k5, if_pos k6, if_neg k7, if_pos, if_neg qn_10]
                try rfl
            · by_cases k7 : mode = 1
              · simp only [if_pos k1, if_neg k2, if_pos k3, if_neg k4, if_pos k5, if_neg k6, if_pos k7, if_pos, if_neg qn_10]
                try rfl
              · simp only [if_pos k1, if_neg k2, if_pos k3, if_neg k4, if_pos k5, if_neg k6, if_neg k7, if_pos, if_neg qn_10]
                try rfl
          · by_cases k6 : u = 0
            · by_cases k7 : mode = 1
              · simp only [if_pos k1, if_neg k2, if_pos k3, if_neg k4, if_neg k5, if_pos k6, if_pos k7, if_pos, if_neg qn_10]
                try rfl
              · simp only [if_pos k1, if_neg k2, if_pos k3, if_neg k4, if_neg k5, if_pos k6, if_neg k7, if_pos, if_neg qn_10]
                try rfl
            · by_cases k7 : mode = 1
              · simp only [if_pos k1, if_neg k2, if_pos k3, if_neg k4, if_neg k5, if_neg k6, if_pos k7, if_pos, if_neg qn_10]
                try rfl
              · simp only [if_pos k1, if_neg k2, if_pos k3, if_neg k4, if_neg k5, if_neg k6, if_neg k7, if_pos, if_neg qn_10]
                try rfl
      · by_cases k4 : want = (-1)
        · by_cases k5 : pl = want
          · by_cases k6 : u = 0
            · by_cases k7 : mode = 1
              · simp only [if_pos k1, if_neg k2, if_neg k3, if_pos k4, if_pos k5, if_pos k6, if_pos k7, if_pos, if_neg qn_10]
                try rfl
              · simp only [if_pos k1, if_neg k2, if_neg k3, if_pos k4, if_pos k5, if_pos k6, if_neg k7, if_pos, if_neg qn_10]
                try rfl
            · by_cases k7 : mode = 1
              · simp only [if_pos k1, if_neg k2, if_neg k3, if_pos k4, if_pos k5, if_neg k6, if_pos k7, if_pos, if_neg qn_10]
                try rfl
              · simp only [if_pos k1, if_neg k2, if_neg k3, if_pos k4, if_pos k5, if_neg k6, if_neg k7, if_pos, if_neg qn_10]
                try rfl
          · by_cases k6 : u = 0
            · by_cases k7 : mode = 1
              · simp only [if_pos k1, if_neg k2, if_neg k3, if_pos k4, if_neg k5, if_pos k6, if_pos k7, if_pos, if_neg qn_10]
                try rfl
              · simp only [if_pos k1, if_neg k2, if_neg k3, if_pos k4, if_neg k5, if_pos k6, if_neg k7, if_pos, if_neg qn_10]
                try rfl
            · by_cases k7 : mode = 1
              · simp only [if_pos k1, if_neg k2, if_neg k3, if_pos k4, if_neg k5, if_neg k6, if_pos k7, if_pos, if_neg qn_10]
                try rfl
              · simp only [if_pos k1, if_neg k2, if_neg k3, if_pos k4, if_neg k5, if_neg k6, if_neg k7, if_pos, if_neg qn_10]
                try rfl
        · by_cases k5 : pl = want
          · by_cases k6 : u = 0
            · by_cases k7 : mode = 1
              · simp only [if_pos k1, if_neg k2, if_neg k3, if_neg k4, if_pos k5, if_pos k6, if_pos k7, if_pos, if_neg qn_10]
                try rfl
              · simp only [if_pos k1, if_neg k2, if_neg k3, if_neg k4, if_pos k5, if_pos k6, if_neg k7, if_pos, if_neg qn_10]
                try rfl
            · by_cases k7 : mode = 1
              · simp only [if_pos k1, if_neg k2, if_neg k3, if_neg k4, if_pos k5, if_neg k6, if_pos k7, if_pos, if_neg qn_10]
                try rfl
              · simp only [if_pos k1, if_neg k2, if_neg k3, if_neg k4, if_pos k5, if_neg k6, if_neg k7, if_pos, if_neg qn_10]
                try rfl
          · by_cases k6 : u = 0
            · by_cases k7 : mode = 1
              · simp only [if_pos k1, if_neg k2, if_neg k3, if_neg k4, if_neg k5, if_pos k6, if_pos k7, if_pos, if_neg qn_10]
                try rfl
              · simp only [if_pos k1, if_neg k2, if_neg k3, if_neg k4, if_neg k5, if_pos k6, if_neg k7, if_pos, if_neg qn_10]
                try rfl
            · by_cases k7 : mode = 1
              · simp only [if_pos k1, if_neg k2, if_neg k3, if_neg k4, if_neg k5, if_neg k6, if_pos k7, if_pos, if_neg qn_10]
                try rfl
              · simp only [if_pos k1, if_neg k2, if_neg k3, if_neg k4, if_neg k5, if_neg k6, if_neg k7, if_pos, if_neg qn_10]
                try rfl
  · by_cases k2 : u ≤ 0
    · by_cases k3 : had - u ≤ g
      · by_cases k4 : want = (-1)
        · by_cases k5 : pl = want
          · by_cases k6 : u = 0
            · by_cases k7 : mode = 1
              · simp only [if_neg k1, if_pos k2, if_pos k3, if_pos k4, if_pos k5, if_pos k6, if_pos k7, if_pos, if_neg qn_10]
                try rfl
              · simp only [if_neg k1, if_pos k2, if_pos k3, if_pos k4, if_pos k5, if_pos k6, if_neg k7, if_pos, if_neg qn_10]
                try rfl
            · by_cases k7 : mode = 1
              · simp only [if_neg k1, if_pos k2, if_pos k3, if_pos k4, if_pos k5, if_neg k6, if_pos k7, if_pos, if_neg qn_10]
                try rfl
              · simp only [if_neg k1, if_pos k2, if_pos k3, if_pos k4, if_pos k5, if_neg k6, if_neg k7, if_pos, if_neg qn_10]
                try rfl
          · by_cases k6 : u = 0
            · by_cases k7 : mode = 1
              · simp only [if_neg k1, if_pos k2, if_pos k3, if_pos k4, if_neg k5, if_pos k6, if_pos k7, if_pos, if_neg qn_10]
                try rfl
              · simp only [if_neg k1, if_pos k2, if_pos k3, if_pos k4, if_neg k5, if_pos k6, if_neg k7, if_pos, if_neg qn_10]
                try rfl
            · by_cases k7 : mode = 1
              · simp only [if_neg k1, if_pos k2, if_pos k3, if_pos k4, if_neg k5, if_neg k6, if_pos k7, if_pos, if_neg qn_10]
                try rfl
              · simp only [if_neg k1, if_pos k2, if_pos k3, if_pos k4, if_neg k5, if_neg k6, if_neg k7, if_pos, if_neg qn_10]
                try rfl
        · by_cases k5 : pl = want
          · by_cases k6 : u = 0
            · by_cases k7 : mode = 1
              · simp only [if_neg k1, if_pos k2, if_pos k3, if_neg k4, if_pos k5, if_pos k6, if_pos k7, if_pos, if_neg qn_10]
                try rfl
              · simp only [if_neg k1, if_pos k2, if_pos k3, if_neg k4, if_pos k5, if_pos k6, if_neg k7, if_pos, if_neg qn_10]
                try rfl
            · by_cases k7 : mode = 1
              · simp only [if_neg k1, if_pos k2, if_pos k3, if_neg k4, if_pos k5, if_neg k6, if_pos k7, if_pos, if_neg qn_10]
                try rfl
              · simp only [if_neg k1, if_pos k2, if_pos k3, if_neg k4, if_pos k5, if_neg k6, if_neg k7, if_pos, if_neg qn_10]
                try rfl
          · by_cases k6 : u = 0
            · by_cases k7 : mode = 1
              · simp only [if_neg k1, if_pos k2, if_pos k3, if_neg k4, if_neg k5, if_pos k6, if_pos k7, if_pos, if_neg qn_10]
                try rfl
              · simp only [if_neg k1, if_pos k2, if_pos k3, if_neg k4, if_neg k5, if_pos k6, if_neg k7, if_pos, if_neg qn_10]
                try rfl
            · by_cases k7 : mode = 1
              · simp only [if_neg k1, if_pos k2, if_pos k3, if_neg k4, if_neg k5, if_neg k6, if_pos k7, if_pos, if_neg qn_10]
                try rfl
              · simp only [if_neg k1, if_pos k2, if_pos k3, if_neg k4, if_neg k5, if_neg k6, if_neg k7, if_pos, if_neg qn_10]
                try rfl
      · by_cases k4 : want = (-1)
        · by_cases k5 : pl = want
          · by_cases k6 : u = 0
            · by_cases k7 : mode = 1
              · simp only [if_neg k1, if_pos k2, if_neg k3, if_pos k4, if_pos k5, if_pos k6, if_pos k7, if_pos, if_neg qn_10]
                try rfl
              · simp only [if_neg k1, if_pos k2, if_neg k3, if_pos k4, if_pos k5, if_pos k6, if_neg k7, if_pos, if_neg qn_10]
                try rfl
            · by_cases k7 : mode = 1
              · simp only [if_neg k1, if_pos k2, if_neg k3, if_pos k4, if_pos k5, if_neg k6, if_pos k7, if_pos, if_neg qn_10]
                try rfl
              · simp only [if_neg k1, if_pos k2, if_neg k3, if_pos k4, if_pos k5, if_neg k6, if_neg k7, if_pos, if_neg qn_10]
                try rfl
          · by_cases k6 : u = 0
            · by_cases k7 : mode = 1
              · simp only [if_neg k1, if_pos k2, if_neg k3, if_pos k4, if_neg k5, if_pos k6, if_pos k7, if_pos, if_neg qn_10]
                try rfl
              · simp only [if_neg k1, if_pos k2, if_neg k3, if_pos k4, if_neg k5, if_pos k6, if_neg k7, if_pos, if_neg qn_10]
                try rfl
            · by_cases k7 : mode = 1
              · simp only [if_neg k1, if_pos k2, if_neg k3, if_pos k4, if_neg k5, if_neg k6, if_pos k7, if_pos, if_neg qn_10]
                try rfl
              · simp only [if_neg k1, if_pos k2, if_neg k3, if_pos k4, if_neg k5, if_neg k6, if_neg k7, if_pos, if_neg qn_10]
                try rfl
        · by_cases k5 : pl = want
          · by_cases k6 : u = 0
            · by_cases k7 : mode = 1
              · simp only [if_neg k1, if_pos k2, if_neg k3, if_neg k4, if_pos k5, if_pos k6, if_pos k7, if_pos, if_neg qn_10]
                try rfl
              · simp only [if_neg k1, if_pos k2, if_neg k3, if_neg k4, if_pos k5, if_pos k6, if_neg k7, if_pos, if_neg qn_10]
                try rfl
            · by_cases k7 : mode = 1
              · simp only [if_neg k1, if_pos k2, if_neg k3, if_neg k4, if_pos k5, if_neg k6, if_pos k7, if_pos, if_neg qn_10]
                try rfl
              · simp only [if_neg k1, if_pos k2, if_neg k3, if_neg k4, if_pos k5, if_neg k6, if_neg k7, if_pos, if_neg qn_10]
                try rfl
          · by_cases k6 : u = 0
            · by_cases k7 : mode = 1
              · simp only [if_neg k1, if_pos k2, if_neg k3, if_neg k4, if_neg k5, if_pos k6, if_pos k7, if_pos, if_neg qn_10]
                try rfl
              · simp only [if_neg k1, if_pos k2, if_neg k3, if_neg k4, if_neg k5, if_pos k6, if_neg k7, if_pos, if_neg qn_10]
                try rfl
            · by_cases k7 : mode = 1
              · simp only [if_neg k1, if_pos k2, if_neg k3, if_neg k4, if_neg k5, if_neg k6, if_pos k7, if_pos, if_neg qn_10]
                try rfl
              · simp only [if_neg k1, if_pos k2, if_neg k3, if_neg k4, if_neg k5, if_neg k6, if_neg k7, if_pos, if_neg qn_10]
                try rfl
    · by_cases k3 : had - u ≤ g
      · by_cases k4 : want = (-1)
        · by_cases k5 : pl = want
          · by_cases k6 : u = 0
            · by_cases k7 : mode = 1
              · simp only [if_neg k1, if_neg k2, if_pos k3, if_pos k4, if_pos k5, if_pos k6, if_pos k7, if_pos, if_neg qn_10]
                try rfl
              · simp only [if_neg k1, if_neg k2, if_pos k3, if_pos k4, if_pos k5, if_pos k6, if_neg k7, if_pos, if_neg qn_10]
                try rfl
            · by_cases k7 : mode = 1
              · simp only [if_neg k1, if_neg k2, if_pos k3, if_pos k4, if_pos k5, if_neg k6, if_pos k7, if_pos, if_neg qn_10]
                try rfl
              · simp only [if_neg k1, if_neg k2, if_pos k3, if_pos k4, if_pos k5, if_neg k6, if_neg k7, if_pos, if_neg qn_10]
                try rfl
          · by_cases k6 : u = 0
            · by_cases k7 : mode = 1
              · simp only [if_neg k1, if_neg k2, if_pos k3, if_pos k4, if_neg k5, if_pos k6, if_pos k7, if_pos, if_neg qn_10]
                try rfl
              · simp only [if_neg k1, if_neg k2, if_pos k3, if_pos k4, if_neg k5, if_pos k6, if_neg k7, if_pos, if_neg qn_10]
                try rfl
            · by_cases k7 : mode = 1
              · simp only [if_neg k1, if_neg k2, if_pos k3, if_pos k4, if_neg k5, if_neg k6, if_pos k7, if_pos, if_neg qn_10]
                try rfl
              · simp only [if_neg k1, if_neg k2, if_pos k3, if_pos k4, if_neg k5, if_neg k6, if_neg k7, if_pos, if_neg qn_10]
                try rfl
        · by_cases k5 : pl = want
          · by_cases k6 : u = 0
            · by_cases k7 : mode = 1
              · simp only [if_neg k1, if_neg k2, if_pos k3, if_neg k4, if_pos k5, if_pos k6, if_pos k7, if_pos, if_neg qn_10]
                try rfl
              · simp only [if_neg k1, if_neg k2, if_pos k3, if_neg k4, if_pos k5, if_pos k6, if_neg k7, if_pos, if_neg qn_10]
                try rfl
            · by_cases k7 : mode = 1
              · simp only [if_neg k1, if_neg k2, if_pos k3, if_neg k4, if_pos k5, if_neg k6, if_pos k7, if_pos, if_neg qn_10]
                try rfl
              · simp only [if_neg k1, if_neg k2, if_pos k3, if_neg k4, if_pos k5, if_neg k6, if_neg k7, if_pos, if_neg qn_10]
                try rfl
          · by_cases k6 : u = 0
            · by_cases k7 : mode = 1
              · simp only [if_neg k1, if_neg k2, if_pos k3, if_neg k4, if_neg k5, if_pos k6, if_pos k7, if_pos, if_neg qn_10]
                try rfl
              · simp only [if_neg k1, if_neg k2, if_pos k3, if_neg k4, if_neg k5, if_pos k6, if_neg k7, if_pos, if_neg qn_10]
                try rfl
            · by_cases k7 : mode = 1
              · simp only [if_neg k1, if_neg k2, if_pos k3, if_neg k4, if_neg k5, if_neg k6, if_pos k7, if_pos, if_neg qn_10]
                try rfl
              · simp only [if_neg k1, if_neg k2, if_pos k3, if_neg k4, if_neg k5, if_neg k6, if_neg k7, if_pos, if_neg qn_10]
                try rfl
      · by_cases k4 : want = (-1)
        · by_cases k5 : pl = want
          · by_cases k6 : u = 0
            · by_cases k7 : mode = 1
              · simp only [if_neg k1, if_neg k2, if_neg k3, if_pos k4, if_pos k5, if_pos k6, if_pos k7, if_pos, if_neg qn_10]
                try rfl
              · simp only [if_neg k1, if_neg k2, if_neg k3, if_pos k4, if_pos k5, if_pos k6, if_neg k7, if_pos, if_neg qn_10]
                try rfl
            · by_cases k7 : mode = 1
              · simp only [if_neg k1, if_neg k2, if_neg k3, if_pos k4, if_pos k5, if_neg k6, if_pos k7, if_pos, if_neg qn_10]
                try rfl
              · simp only [if_neg k1, if_neg k2, if_neg k3, if_pos k4, if_pos k5, if_neg k6, if_neg k7, if_pos, if_neg qn_10]
                try rfl
          · by_cases k6 : u = 0
            · by_cases k7 : mode = 1
              · simp only [if_neg k1, if_neg k2, if_neg k3, if_pos k4, if_neg k5, if_pos k6, if_pos k7, if_pos, if_neg qn_10]
                try rfl
              · simp only [if_neg k1, if_neg k2, if_neg k3, if_pos k4, if_neg k5, if_pos k6, if_neg k7, if_pos, if_neg qn_10]
                try rfl
            · by_cases k7 : mode = 1
              · simp only [if_neg k1, if_neg k2, if_neg k3, if_pos k4, if_neg k5, if_neg k6, if_pos k7, if_pos, if_neg qn_10]
                try rfl
              · simp only [if_neg k1, if_neg k2, if_neg k3, if_pos k4, if_neg k5, if_neg k6, if_neg k7, if_pos, if_neg qn_10]
                try rfl
        · by_cases k5 : pl = want
          · by_cases k6 : u = 0
            · by_cases k7 : mode = 1
              · simp only [if_neg k1, if_neg k2, if_neg k3, if_neg k4, if_pos k5, if_pos k6, if_pos k7, if_pos, if_neg qn_10]
                try rfl
              · simp only [if_neg k1, if_neg k2, if_neg k3, if_neg k4, if_pos k5, if_pos k6, if_neg k7, if_pos, if_neg qn_10]
                try rfl
            · by_cases k7 : mode = 1
              · simp only [if_neg k1, if_neg k2, if_neg k3, if_neg k4, if_pos k5, if_neg k6, if_pos k7, if_pos, if_neg qn_10]
                try rfl
              · simp only [if_neg k1, if_neg k2, if_neg k3, if_neg k4, if_pos k5, if_neg k6, if_neg k7, if_pos, if_neg qn_10]
                try rfl
          · by_cases k6 : u = 0
            · by_cases k7 : mode = 1
              · simp only [if_neg k1, if_neg k2, if_neg k3, if_neg k4, if_neg k5, if_pos k6, if_pos k7, if_pos, if_neg qn_10]
                try rfl
              · simp only [if_neg k1, if_neg k2, if_neg k3, if_neg k4, if_neg k5, if_pos k6, if_neg k7, if_pos, if_neg qn_10]
                try rfl
            · by_cases k7 : mode = 1
              · simp only [if_neg k1, if_neg k2, if_neg k3, if_neg k4, if_neg k5, if_neg k6, if_pos k7, if_pos, if_neg qn_10]
                try rfl
              · simp only [if_neg k1, if_neg k2, if_neg k3, if_neg k4, if_neg k5, if_neg k6, if_neg k7, if_pos, if_neg qn_10]
                try rfl
