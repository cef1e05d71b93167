/-! The next speed and the next place. -/
theorem nI_nm1' {u : Nat} (h : u ≤ 5000) : ¬ nI u = -1 := nI_nm1 (by omega)
theorem braking_spec {v g b : Nat} {mode room : Int32} (hg : 1 ≤ g) (hgb : g ≤ b) (hb : b ≤ 1000) (hv : v ≤ 2000) : ∃ u, F_brakingSpeed (nI v) (nI g) (nI b) mode room = nI u ∧ u ≤ v - g := by
  have key : ∀ f : Nat, g ≤ f → f ≤ b → ∃ u, (cb (F_greatestSpeed (nI v) (nI g) (nI b) (if (nI v - nI f) < 0 then 0 else (nI v - nI f)) 1000000000 room) fun r => if r = (-1) then cb (F_leastSpeed (nI v) (nI b)) (fun r => r) else r) = nI u ∧ u ≤ v - g := by
    intro f h1 h2
    rw [nsub (by omega) (by omega), F_least_nI (by omega) (by omega)]
    simp only [cb]
    rcases gs_spec (v := v) (g := g) (b := b) (hi := v - f) (p1 := 1000000000) (p2 := room) hg (by omega) (by omega) hb (by omega) (by omega) (by omega) with ⟨_, e⟩ | ⟨u, e, h3, h4, _, _⟩
    · rw [e, if_pos rfl]; exact ⟨v - b, rfl, by omega⟩
    · rw [e, if_neg (nI_nm1' (by omega))]; exact ⟨u, rfl, by omega⟩
  unfold F_brakingSpeed
  by_cases hm : mode = 1
  · rw [if_pos hm]; exact key b hgb (Nat.le_refl _)
  · rw [if_neg hm]; exact key g (Nat.le_refl _) hgb
theorem next_spec {p v g b V R I : Nat} {way ki mk ds mode want room : Int32} (hp : p ≤ 100000) (hv : v ≤ 2000) (hg : 1 ≤ g) (hgb : g ≤ b) (hb : b ≤ 1000) (hV : V ≤ 2000) (hR : R ≤ 2000) (hI : I ≤ 2000) (hway : v ≠ 0 → way ≠ 0) :
    ∃ u, F_nextSpeed (nI p) (nI v) way (nI V) (nI g) (nI b) (nI R) (nI I) ki mk ds mode want room = nI u ∧ u ≤ 2000 ∧
      (u ≤ v - g ∨ (F_wayTo (nI p) want ≠ 0 ∧ (v ≠ 0 → way = F_wayTo (nI p) want) ∧ ((u + lenF u g u : Nat) : Int) ≤ (F_m_size (want - nI p)).toInt)) ∧ (v = 0 → F_wayTo (nI p) want = 0 → u = 0) := by
  obtain ⟨l, hl2, hl⟩ := lim_nI (mode := mode) hV hR hI
  have hsp := spW_le (v := v) (g := g) (l := l) (b := b) hv hl2 hgb
  obtain ⟨ub, eb, hub⟩ := braking_spec (mode := mode) (room := room) hg hgb hb hv
  unfold F_nextSpeed
  simp only [cb]
  rw [hl, spW_nI hv (by omega) hl2, ← size_abs, eb]
  generalize F_wayTo (nI p) want = tw
  have hgs := gs_spec (v := v) (g := g) (b := b) (hi := spW v g l) (p1 := F_m_size (want - nI p)) (p2 := room) hg (by omega) (by omega) hb (by omega) (by omega) hsp.1
  by_cases h0 : v = 0
  · rw [if_pos (by rw [h0]; rfl)]
    by_cases hm : F_mayStart ki mk ds tw = 0
    · rw [if_pos hm]
      exact ⟨0, rfl, by omega, Or.inl (by omega), fun _ _ => rfl⟩
    · have ht : ¬ tw = 0 := by
        intro e
        apply hm
        unfold F_mayStart
        rw [if_pos e]
      rw [if_neg hm]
      rcases hgs with ⟨_, e⟩ | ⟨u, e, h3, h4, h5, _⟩
      · rw [e, if_pos rfl]; exact ⟨ub, rfl, by omega, Or.inl hub, fun _ h => absurd h ht⟩
      · rw [e, if_neg (nI_nm1' (by omega))]; exact ⟨u, rfl, by omega, Or.inr ⟨ht, fun h => absurd h0 h, h5.1⟩, fun _ h => absurd h ht⟩
  · rw [if_neg (nI_ne0 (by omega) (by omega))]
    by_cases hw : way = tw
    · rw [if_pos hw]
      have ht : ¬ tw = 0 := fun e => hway h0 (hw.trans e)
      rcases hgs with ⟨_, e⟩ | ⟨u, e, h3, h4, h5, _⟩
      · rw [e, if_pos rfl]; exact ⟨ub, rfl, by omega, Or.inl hub, fun h => absurd h h0⟩
      · rw [e, if_neg (nI_nm1' (by omega))]; exact ⟨u, rfl, by omega, Or.inr ⟨ht, fun _ => hw, h5.1⟩, fun h => absurd h h0⟩
    · rw [if_neg hw]; exact ⟨ub, rfl, by omega, Or.inl hub, fun h => absurd h h0⟩
theorem lenF_step {v g : Nat} (hg : 1 ≤ g) (h : g < v) : lenF v g v = (v - g) + lenF (v - g) g (v - g) := by
  obtain ⟨k, rfl⟩ : ∃ k, v = k + 1 := ⟨v - 1, by omega⟩
  simp only [lenF]
  rw [if_neg (by omega), lenF_fuel g hg k (k + 1 - g) (k + 1 - g) (by omega) (Nat.le_refl _)]
theorem lenF_mo {u v g : Nat} (hg : 1 ≤ g) (h : u ≤ v) : u + lenF u g u ≤ v + lenF v g v := by
  have h1 := lenF_mono g v u v h
  rw [lenF_fuel g hg v u u h (Nat.le_refl _)] at h1
  exact h1
/-- the places that a car reaches while it falls by its gain lie in the shaft -/
def czI (p v g : Nat) (way : Int32) : Prop := p ≤ 100000 ∧ (way = 1 → p + lenF v g v ≤ 100000) ∧ (way = -1 → lenF v g v ≤ p)
theorem wv_ne {v : Nat} {way : Int32} (h : wv v way) (h0 : v ≠ 0) : way ≠ 0 := by
  rcases h with ⟨h1, h2⟩ | ⟨h1, h2⟩ | ⟨h1, h2⟩
  · exact absurd h1 h0
  · rw [h2]; decide
  · rw [h2]; decide
theorem pl_up {p u : Nat} : nI p + 1 * nI u = nI (p + u) := by
  rw [i1_mul, nI_add]
theorem pl_dn {p u : Nat} (h : u ≤ p) : nI p + (-1) * nI u = nI (p - u) := by
  rw [im1_mul, ← Int32.sub_eq_add_neg, pk_sub h]
theorem place_spec {p v g u : Nat} {way hd want : Int32} (hz : czI p v g way) (hw : wv v way) (hg : 1 ≤ g) (hwo : wo want) (hu : u ≤ 2000) (hhd : hd = if v = 0 then F_wayTo (nI p) want else way)
    (h : u ≤ v - g ∨ (F_wayTo (nI p) want ≠ 0 ∧ (v ≠ 0 → way = F_wayTo (nI p) want) ∧ ((u + lenF u g u : Nat) : Int) ≤ (F_m_size (want - nI p)).toInt)) :
    ∃ p', nI p + hd * nI u = nI p' ∧ czI p' u g (if nI u = 0 then 0 else hd) ∧ wv u (if nI u = 0 then 0 else hd) ∧ hd * nI u = (if nI u = 0 then 0 else hd) * nI u := by
  obtain ⟨hp, hz1, hz2⟩ := hz
  by_cases h0 : u = 0
  · subst h0
    have e0 : nI 0 = 0 := nI_0
    rw [if_pos e0, e0, Int32.mul_zero, Int32.mul_zero, Int32.add_zero]
    exact ⟨p, rfl, ⟨hp, fun q => absurd q (by decide), fun q => absurd q (by decide)⟩, Or.inl ⟨rfl, rfl⟩, rfl⟩
  · rw [if_neg (nI_ne0 (by omega) (by omega))]
    have key : (hd = 1 ∧ p + (u + lenF u g u) ≤ 100000) ∨ (hd = -1 ∧ u + lenF u g u ≤ p) := by
      rcases h with h | ⟨h1, h2, h3⟩
      · have hv0 : v ≠ 0 := by omega
        have e1 := lenF_step (v := v) hg (by omega)
        have e2 := lenF_mo (u := u) (v := v - g) hg h
        rw [if_neg hv0] at hhd
        rcases hw with ⟨q1, q2⟩ | ⟨q1, q2⟩ | ⟨q1, q2⟩
        · exact absurd q1 hv0
        · have := hz1 q2
          exact Or.inl ⟨hhd.trans q2, by omega⟩
        · have := hz2 q2
          exact Or.inr ⟨hhd.trans q2, by omega⟩
      · have e1 : hd = F_wayTo (nI p) want := by
          by_cases hv0 : v = 0
          · rw [if_pos hv0] at hhd; exact hhd
          · rw [if_neg hv0] at hhd; exact hhd.trans (h2 hv0)
        rcases way_sp hp hwo with ⟨q1, _⟩ | ⟨w, hw, _, ⟨q1, q2, q3⟩ | ⟨q1, q2, q3⟩⟩
        · exact absurd q1 h1
        · exact Or.inl ⟨e1.trans q1, by omega⟩
        · exact Or.inr ⟨e1.trans q1, by omega⟩
    rcases key with ⟨e, k⟩ | ⟨e, k⟩
    · subst e
      exact ⟨p + u, pl_up, ⟨by omega, fun _ => by omega, fun q => absurd q (by decide)⟩, Or.inr (Or.inl ⟨h0, rfl⟩), rfl⟩
    · subst e
      exact ⟨p - u, pl_dn (by omega), ⟨by omega, fun q => absurd q (by decide), fun _ => by omega⟩, Or.inr (Or.inr ⟨h0, rfl⟩), rfl⟩
theorem goOn_eq (speed gain starts hf u hd : Int32) : F_goOn speed gain starts hf u hd = ((if u = 0 then 0 else hd), (if speed = 0 then (if u ≤ 0 then starts else starts + 1) else starts), (if speed - u ≤ gain then hf else hf + 1)) := by
  unfold F_goOn
  by_cases h1 : speed = 0
  · by_cases h2 : u ≤ 0
    · by_cases h3 : speed - u ≤ gain
      · by_cases h4 : u = 0
        · simp only [if_pos h1, if_pos h2, if_pos h3, if_pos h4]
        · simp only [if_pos h1, if_pos h2, if_pos h3, if_neg h4]
      · by_cases h4 : u = 0
        · simp only [if_pos h1, if_pos h2, if_neg h3, if_pos h4]
        · simp only [if_pos h1, if_pos h2, if_neg h3, if_neg h4]
    · by_cases h3 : speed - u ≤ gain
      · by_cases h4 : u = 0
        · simp only [if_pos h1, if_neg h2, if_pos h3, if_pos h4]
        · simp only [if_pos h1, if_neg h2, if_pos h3, if_neg h4]
      · by_cases h4 : u = 0
        · simp only [if_pos h1, if_neg h2, if_neg h3, if_pos h4]
        · simp only [if_pos h1, if_neg h2, if_neg h3, if_neg h4]
  · by_cases h2 : u ≤ 0
    · by_cases h3 : speed - u ≤ gain
      · by_cases h4 : u = 0
        · simp only [if_neg h1, if_pos h2, if_pos h3, if_pos h4]
        · simp only [if_neg h1, if_pos h2, if_pos h3, if_neg h4]
      · by_cases h4 : u = 0
        · simp only [if_neg h1, if_pos h2, if_neg h3, if_pos h4]
        · simp only [if_neg h1, if_pos h2, if_neg h3, if_neg h4]
    · by_cases h3 : speed - u ≤ gain
      · by_cases h4 : u = 0
        · simp only [if_neg h1, if_neg h2, if_pos h3, if_pos h4]
        · simp only [if_neg h1, if_neg h2, if_pos h3, if_neg h4]
      · by_cases h4 : u = 0
        · simp only [if_neg h1, if_neg h2, if_neg h3, if_pos h4]
        · simp only [if_neg h1, if_neg h2, if_neg h3, if_neg h4]
