/-! The next speed: class and reference. -/
def nB (G : Int32 → Int32 → Int32 → Int32 → Int32) (gain brake mode r1 wy le un : Int32) : Int32 :=
  if un = (-1) then
    if mode = 1 then
      if r1 ≤ brake then
        cb (G wy le 0 (-1)) fun r =>
          if r = (-1) then
            (wy * le)
          else
            (wy * r)
      else
        cb (G wy le (r1 - brake) (-1)) fun r =>
          if r = (-1) then
            (wy * le)
          else
            (wy * r)
    else
      if r1 ≤ gain then
        cb (G wy le 0 (-1)) fun r =>
          if r = (-1) then
            (wy * le)
          else
            (wy * r)
      else
        cb (G wy le (r1 - gain) (-1)) fun r =>
          if r = (-1) then
            (wy * le)
          else
            (wy * r)
  else
    (wy * un)
def nC (G : Int32 → Int32 → Int32 → Int32 → Int32) (place most gain brake slow ride mode want r1 tw wy le : Int32) : Int32 :=
  if wy = tw then
    cb (F_m_limit_0 most slow ride mode) fun l =>
      if r1 ≤ l then
        if l ≤ (r1 + gain) then
          cb (F_m_size (want - place)) fun d =>
            cb (G wy le l d) fun u =>
              nB G gain brake mode r1 wy le u
        else
          cb (F_m_size (want - place)) fun d =>
            cb (G wy le (r1 + gain) d) fun u =>
              nB G gain brake mode r1 wy le u
      else
        if (r1 - gain) ≤ l then
          cb (F_m_size (want - place)) fun d =>
            cb (G wy le l d) fun u =>
              nB G gain brake mode r1 wy le u
        else
          cb (F_m_size (want - place)) fun d =>
            cb (G wy le (r1 - gain) d) fun u =>
              nB G gain brake mode r1 wy le u
  else
    nB G gain brake mode r1 wy le (-1)
def nD (G : Int32 → Int32 → Int32 → Int32 → Int32) (place most gain brake slow ride mode want r1 tw wy : Int32) : Int32 :=
  if r1 ≤ brake then
    nC G place most gain brake slow ride mode want r1 tw wy 0
  else
    nC G place most gain brake slow ride mode want r1 tw wy (r1 - brake)
def nE (G : Int32 → Int32 → Int32 → Int32 → Int32) (place sp most gain brake slow ride mode want r1 tw : Int32) : Int32 :=
  if r1 = 0 then
    nD G place most gain brake slow ride mode want r1 tw tw
  else
    cb (F_m_sign sp) fun w =>
      nD G place most gain brake slow ride mode want r1 tw w
def nF (G : Int32 → Int32 → Int32 → Int32 → Int32) (place sp most gain brake slow ride door load mostLoad mode want r1 tw : Int32) : Int32 :=
  if r1 = 0 then
    if tw = 0 then
      0
    else
      if door = 0 then
        if load ≤ mostLoad then
          nE G place sp most gain brake slow ride mode want r1 tw
        else
          0
      else
        0
  else
    nE G place sp most gain brake slow ride mode want r1 tw
def nX (G : Int32 → Int32 → Int32 → Int32 → Int32) (place sp most gain brake slow ride door load mostLoad mode want : Int32) : Int32 :=
  cb (F_m_size sp) fun r1 =>
    if want = (-1) then
      nF G place sp most gain brake slow ride door load mostLoad mode want r1 0
    else
      cb (F_m_sign (want - place)) fun tw =>
        nF G place sp most gain brake slow ride door load mostLoad mode want r1 tw
theorem nX_10 (a b c d e f g h i j k l : Int32) : F_m_next_10 a b c d e f g h i j k l = nX (fun _ x y z => F_m_greatest_10 d x y z) a b c d e f g h i j k l := rfl
/-- the search of the reference is the class's, for the least speed that the brake leaves -/
def gOk (G : Int32 → Int32 → Int32 → Int32 → Int32) (v g b : Nat) (wy room : Int32) : Prop :=
  ∀ (hi : Nat) (d : Int32), v - b ≤ hi → hi ≤ 4000 → (d = -1 ∨ 0 ≤ d.toInt) → G wy (nI (v - b)) (nI hi) d = F_greatestSpeed (nI v) (nI g) (nI b) (nI hi) (if d = -1 then 1000000000 else d) room
theorem nsub {v b : Nat} (hv : v ≤ 4000) (hb : b ≤ 4000) : (if (nI v - nI b) < 0 then (0 : Int32) else (nI v - nI b)) = nI (v - b) := F_least_nI (by omega) (by omega)
theorem nB_m1 {G : Int32 → Int32 → Int32 → Int32 → Int32} {v g b : Nat} {wy room mode : Int32} (hG : gOk G v g b wy room) (hv : v ≤ 2000) (hgb : g ≤ b) (hb : b ≤ 1000) :
    nB G (nI g) (nI b) mode (nI v) wy (nI (v - b)) (-1) = wy * F_brakingSpeed (nI v) (nI g) (nI b) mode room := by
  have key : ∀ f : Nat, f ≤ b → (if nI v ≤ nI f then cb (G wy (nI (v - b)) 0 (-1)) (fun r => if r = (-1) then (wy * nI (v - b)) else (wy * r)) else cb (G wy (nI (v - b)) (nI v - nI f) (-1)) (fun r => if r = (-1) then (wy * nI (v - b)) else (wy * r))) =
      wy * (cb (F_greatestSpeed (nI v) (nI g) (nI b) (if (nI v - nI f) < 0 then 0 else (nI v - nI f)) 1000000000 room) fun r => if r = (-1) then cb (F_leastSpeed (nI v) (nI b)) (fun r => r) else r) := by
    intro f hf
    rw [nsub (by omega) (by omega), F_least_nI (by omega) (by omega)]
    have e := hG (v - f) (-1) (by omega) (by omega) (Or.inl rfl)
    rw [if_pos rfl] at e
    by_cases h : v ≤ f
    · rw [if_pos (nI_le h (by omega))]
      rw [show v - f = 0 by omega] at e ⊢
      have e2 : G wy (nI (v - b)) 0 (-1) = F_greatestSpeed (nI v) (nI g) (nI b) (nI 0) 1000000000 room := e
      rw [e2]
      simp only [cb]
      split <;> rfl
    · rw [if_neg (nI_ge (by omega) (by omega)), pk_sub (by omega), e]
      simp only [cb]
      split <;> rfl
  unfold nB F_brakingSpeed
  rw [if_pos rfl]
  by_cases hm : mode = 1
  · rw [if_pos hm, if_pos hm]
    exact key b (Nat.le_refl _)
  · rw [if_neg hm, if_neg hm]
    exact key g hgb
theorem nB_all {G : Int32 → Int32 → Int32 → Int32 → Int32} {v g b : Nat} {wy room mode : Int32} (hG : gOk G v g b wy room) (hv : v ≤ 2000) (hgb : g ≤ b) (hb : b ≤ 1000) (u : Int32) :
    nB G (nI g) (nI b) mode (nI v) wy (nI (v - b)) u = wy * (if u = (-1) then F_brakingSpeed (nI v) (nI g) (nI b) mode room else u) := by
  by_cases h : u = (-1)
  · subst h
    rw [if_pos rfl]
    exact nB_m1 hG hv hgb hb
  · rw [if_neg h]
    unfold nB
    rw [if_neg h]
theorem size_abs (x : Int32) : F_m_size x = (if 0 ≤ x then x else 0 - x) := by
  unfold F_m_size
  split
  · rfl
  · rw [Int32.zero_sub]
def spW (v g l : Nat) : Nat := if v ≤ l then (if v + g < l then v + g else l) else (if l < v - g then v - g else l)
theorem spW_nI {v g l : Nat} (hv : v ≤ 2000) (hg : g ≤ 1000) (hl : l ≤ 2000) : F_speedWithin (nI v) (nI g) (nI l) = nI (spW v g l) := by
  unfold F_speedWithin spW
  by_cases h : v ≤ l
  · rw [if_pos (nI_le h (by omega)), if_pos h, nI_add]
    by_cases h2 : v + g < l
    · rw [if_pos (nI_lt h2 (by omega)), if_pos h2]
    · rw [if_neg (nI_nlt (by omega) (by omega)), if_neg h2]
  · rw [if_neg (nI_ge (by omega) (by omega)), if_neg h]
    by_cases h3 : g ≤ v
    · rw [pk_sub h3]
      by_cases h2 : l < v - g
      · rw [if_pos (nI_lt h2 (by omega)), if_pos h2]
      · rw [if_neg (nI_nlt (by omega) (by omega)), if_neg h2]
    · rw [if_neg, if_neg (by omega)]
      intro q
      have h4 := pk_sneg (a := v) (b := g) (by omega) (by omega)
      rw [Int32.lt_iff_toInt_lt] at q h4
      rw [nI_toInt (by omega)] at q
      have e0 : (0 : Int32).toInt = 0 := by decide
      rw [e0] at h4
      omega
theorem spW_le {v g l b : Nat} (hv : v ≤ 2000) (hl : l ≤ 2000) (hgb : g ≤ b) : v - b ≤ spW v g l ∧ spW v g l ≤ 2000 := by
  unfold spW
  repeat' split
  all_goals omega
theorem nC_eq {G : Int32 → Int32 → Int32 → Int32 → Int32} {v g b V R I l : Nat} {place wy room mode want : Int32} (hG : gOk G v g b wy room) (hv : v ≤ 2000) (hgb : g ≤ b) (hb : b ≤ 1000)
    (hl : F_limitIn (nI V) (nI R) (nI I) mode = nI l) (hl2 : l ≤ 2000) (hd0 : 0 ≤ (F_m_size (want - place)).toInt) :
    nC G place (nI V) (nI g) (nI b) (nI R) (nI I) mode want (nI v) wy wy (nI (v - b)) =
      wy * (cb (F_greatestSpeed (nI v) (nI g) (nI b) (F_speedWithin (nI v) (nI g) (nI l)) (F_m_size (want - place)) room) fun u => if u = (-1) then F_brakingSpeed (nI v) (nI g) (nI b) mode room else u) := by
  have hsp := spW_le (v := v) (g := g) (l := l) (b := b) hv hl2 hgb
  have hdn : ¬ F_m_size (want - place) = -1 := by
    intro e
    rw [e] at hd0
    exact absurd hd0 (by decide)
  have e := hG (spW v g l) (F_m_size (want - place)) hsp.1 (by omega) (Or.inr hd0)
  rw [if_neg hdn] at e
  rw [spW_nI hv (by omega) hl2, ← e]
  unfold nC
  rw [if_pos rfl, show F_m_limit_0 (nI V) (nI R) (nI I) mode = nI l from hl]
  simp only [cb]
  unfold spW at e ⊢
  by_cases h : v ≤ l
  · rw [if_pos (nI_le h (by omega)), if_pos h, nI_add]
    by_cases h2 : v + g < l
    · rw [if_neg (nI_ge h2 (by omega)), if_pos h2, nB_all hG hv hgb hb]
    · rw [if_pos (nI_le (by omega) (by omega)), if_neg h2, nB_all hG hv hgb hb]
  · rw [if_neg (nI_ge (by omega) (by omega)), if_neg h]
    by_cases h3 : g ≤ v
    · rw [pk_sub h3]
      by_cases h2 : l < v - g
      · rw [if_neg (nI_ge h2 (by omega)), if_pos h2, nB_all hG hv hgb hb]
      · rw [if_pos (nI_le (by omega) (by omega)), if_neg h2, nB_all hG hv hgb hb]
    · have hle : nI v - nI g ≤ nI l := by
        have h4 := pk_sneg (a := v) (b := g) (by omega) (by omega)
        rw [Int32.le_iff_toInt_le]
        rw [Int32.lt_iff_toInt_lt] at h4
        rw [nI_toInt (by omega)]
        have e0 : (0 : Int32).toInt = 0 := by decide
        rw [e0] at h4
        omega
      rw [if_pos hle, if_neg (show ¬ l < v - g by omega), nB_all hG hv hgb hb]
theorem nD_eq {G : Int32 → Int32 → Int32 → Int32 → Int32} {v b : Nat} {place most gain slow ride mode want tw wy : Int32} (hv : v ≤ 2000) (hb : b ≤ 1000) :
    nD G place most gain (nI b) slow ride mode want (nI v) tw wy = nC G place most gain (nI b) slow ride mode want (nI v) tw wy (nI (v - b)) := by
  unfold nD
  by_cases h : v ≤ b
  · rw [if_pos (nI_le h (by omega)), show v - b = 0 by omega]; rfl
  · rw [if_neg (nI_ge (by omega) (by omega)), pk_sub (by omega)]
theorem lim_nI {V R I : Nat} {mode : Int32} (hV : V ≤ 2000) (hR : R ≤ 2000) (hI : I ≤ 2000) : ∃ l, l ≤ 2000 ∧ F_limitIn (nI V) (nI R) (nI I) mode = nI l := by
  unfold F_limitIn
  split
  · exact ⟨R, hR, rfl⟩
  · split
    · exact ⟨I, hI, rfl⟩
    · exact ⟨V, hV, rfl⟩
/-- the next speed of the reference, with its sign, is the class's on the way it goes -/
theorem nX_eq {G : Int32 → Int32 → Int32 → Int32 → Int32} {v g b V R I : Nat} {place way sp hd door load mostLoad mode want room : Int32} (hG : gOk G v g b hd room) (hv : v ≤ 2000) (hgb : g ≤ b) (hb : b ≤ 1000) (hV : V ≤ 2000) (hR : R ≤ 2000) (hI : I ≤ 2000)
    (hsz : F_m_size sp = nI v) (hsg : v ≠ 0 → F_m_sign sp = way) (hway : v ≠ 0 → way ≠ 0) (htw : (if want = (-1) then 0 else F_m_sign (want - place)) = F_wayTo place want) (hhd : hd = if v = 0 then F_wayTo place want else way)
    (hd0 : ¬ want = (-1) → 0 ≤ (F_m_size (want - place)).toInt) :
    nX G place sp (nI V) (nI g) (nI b) (nI R) (nI I) door load mostLoad mode want = hd * F_nextSpeed place (nI v) way (nI V) (nI g) (nI b) (nI R) (nI I) load mostLoad door mode want room := by
  obtain ⟨l, hl2, hl⟩ := lim_nI (mode := mode) hV hR hI
  have hx : nX G place sp (nI V) (nI g) (nI b) (nI R) (nI I) door load mostLoad mode want = nF G place sp (nI V) (nI g) (nI b) (nI R) (nI I) door load mostLoad mode want (nI v) (F_wayTo place want) := by
    unfold nX
    rw [hsz, ← htw]
    simp only [cb]
    split <;> rfl
  rw [hx]
  have hw1 : want = (-1) → F_wayTo place want = 0 := by
    intro e; rw [← htw, if_pos e]
  unfold F_nextSpeed
  generalize F_wayTo place want = tw at hhd hw1 ⊢
  simp only [cb]
  unfold nF nE
  simp only [cb]
  by_cases h0 : v = 0
  · subst h0
    rw [if_pos rfl] at hhd
    rw [hhd] at hG ⊢
    have z0 : nI 0 = 0 := nI_0
    simp only [if_pos z0]
    by_cases ht : tw = 0
    · have hm : F_mayStart load mostLoad door tw = 0 := by
        unfold F_mayStart
        rw [if_pos ht]
      rw [if_pos ht, hm, if_pos rfl, Int32.mul_zero]
    · rw [if_neg ht]
      by_cases hdo : door = 0
      · rw [if_pos hdo]
        by_cases hlo : load ≤ mostLoad
        · have hm : F_mayStart load mostLoad door tw = 1 := by
            unfold F_mayStart F_isOverloaded
            rw [if_neg ht, if_pos hdo, if_pos hlo]
            rfl
          rw [if_pos hlo, hm, if_neg (by decide), nD_eq hv hb, nC_eq hG hv hgb hb hl hl2 (hd0 (fun e => ht (hw1 e))), hl, size_abs]
          simp only [cb]
        · have hm : F_mayStart load mostLoad door tw = 0 := by
            unfold F_mayStart F_isOverloaded
            rw [if_neg ht, if_pos hdo, if_neg hlo]
            rfl
          rw [if_neg hlo, hm, if_pos rfl, Int32.mul_zero]
      · have hm : F_mayStart load mostLoad door tw = 0 := by
          unfold F_mayStart
          rw [if_neg ht, if_neg hdo]
        rw [if_neg hdo, hm, if_pos rfl, Int32.mul_zero]
  · have zv : ¬ nI v = 0 := nI_ne0 (by omega) (by omega)
    rw [if_neg h0] at hhd
    rw [hhd] at hG ⊢
    simp only [if_neg zv]
    rw [hsg h0, nD_eq hv hb]
    by_cases hw : way = tw
    · rw [if_pos hw]
      rw [← hw] at hw1 ⊢
      rw [nC_eq hG hv hgb hb hl hl2 (hd0 (fun e => hway h0 (hw1 e))), hl, size_abs]
      simp only [cb]
    · rw [if_neg hw]
      unfold nC
      rw [if_neg hw, nB_m1 hG hv hgb hb]
