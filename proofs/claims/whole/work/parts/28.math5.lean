/-! The shaft, the mode, the wanted place: class and reference. -/
def flr (n : Nat) (x : Int32) : Prop := ∃ f : Nat, f < n ∧ x = nI f
def shI (n : Nat) (pf : Nat → Int32) : Prop := 1 ≤ n ∧ n ≤ 20 ∧ ∃ q : Nat → Nat, (∀ i, i < n → pf i = nI (q i) ∧ q i ≤ 100000) ∧ (∀ i, i + 1 < n → q i < q (i + 1))
def shR (n : Nat) (pf mh : Nat → Int32) : Prop := ∀ i, i < n → mh i = pf i
def caI (n : Nat) (cc : Int32) (cf : Nat → Int32) : Prop := ∃ m : Nat, m ≤ 8 ∧ cc = nI m ∧ ∀ i, i < m → flr n (cf i)
def caR (b : Nat) (cf mc : Nat → Int32) : Prop := ∀ i, i < 8 → mc (b + i) = cf i
def fiI (n : Nat) (ff : Int32) : Prop := ff = -1 ∨ flr n ff
def drk (pw : Int32) : Int32 := if pw = 0 then 1 else 0
theorem mode_eq (oc ff ri pw : Int32) : F_m_mode_0 (drk pw) oc ff ri = F_modeNow oc ff ri pw := by
  unfold F_m_mode_0 F_modeNow drk
  by_cases h : pw = 0
  · rw [if_pos h, if_pos h, if_neg (show ¬ (1 : Int32) = 0 by decide)]
  · rw [if_neg h, if_neg h, if_pos (show (0 : Int32) = 0 from rfl)]
theorem mode_1 (a b c d : Int32) : F_m_mode_1 a b c d = F_m_mode_0 a b c d := rfl
theorem isF {n f : Nat} (hf : f < n) (hn : n ≤ 20) : F_isFloor n (nI f) = 1 := by
  unfold F_isFloor
  rw [if_neg (nI_pos (by omega)), if_neg (nI_ge hf (by omega))]
theorem plOf {n f : Nat} {pf : Nat → Int32} (hf : f < n) (hn : n ≤ 20) : F_placeOf n pf (nI f) = pf f := by
  unfold F_placeOf
  rw [isF hf hn]
  simp only [cb]
  rw [if_neg (by decide), nI_clamp (by omega)]
theorem plOf_m1 {n : Nat} {pf : Nat → Int32} : F_placeOf n pf (-1) = -1 := by
  unfold F_placeOf F_isFloor
  rw [if_pos (by decide)]
  rfl
theorem near_eq {n : Nat} {pf mh : Nat → Int32} {p0 : Int32} (hn : n ≤ 20) (hr : shR n pf mh) :
    ∀ (fu bj j : Nat), bj < n → j ≤ n → L_nearestPlace_8 n pf p0 fu (pf bj) j = L_m_nearest_4 n mh p0 fu bj j := by
  intro fu
  induction fu with
  | zero => intro bj j _ _; rfl
  | succ fu ih =>
    intro bj j hb hj
    rw [L_nearestPlace_8_u, L_m_nearest_4_u]
    by_cases h : nI n ≤ nI j
    · rw [if_pos h, if_pos h, nI_clamp (by omega), hr bj hb]
    · have hj2 := ix_lt (by omega) hj h
      rw [if_neg h, if_neg h, nI_clamp (by omega), nI_clamp (by omega), hr bj hb, hr j (by omega), size_abs, size_abs]
      simp only [cb]
      by_cases h3 : (if 0 ≤ (pf bj - p0) then (pf bj - p0) else 0 - (pf bj - p0)) ≤ (if 0 ≤ (pf j - p0) then (pf j - p0) else 0 - (pf j - p0))
      · rw [if_pos h3, if_pos h3]; exact ih bj (j + 1) hb (by omega)
      · rw [if_neg h3, if_neg h3]; exact ih j (j + 1) (by omega) (by omega)
theorem near_b {n : Nat} {pf : Nat → Int32} {p0 : Int32} (hn : n ≤ 20) (hq : ∀ i, i < n → ∃ w : Nat, w ≤ 100000 ∧ pf i = nI w) :
    ∀ (fu j : Nat) (x : Int32), j ≤ n → (∃ w : Nat, w ≤ 100000 ∧ x = nI w) → ∃ w : Nat, w ≤ 100000 ∧ L_nearestPlace_8 n pf p0 fu x j = nI w := by
  intro fu
  induction fu with
  | zero => intro j x _ _; exact ⟨0, by omega, rfl⟩
  | succ fu ih =>
    intro j x hj hx
    rw [L_nearestPlace_8_u]
    by_cases h : nI n ≤ nI j
    · rw [if_pos h]; exact hx
    · have hj2 := ix_lt (by omega) hj h
      rw [if_neg h, nI_clamp (by omega)]
      by_cases hC : ((if 0 ≤ (x - p0) then (x - p0) else 0 - (x - p0)) ≤ (if 0 ≤ (pf j - p0) then (pf j - p0) else 0 - (pf j - p0)))
      · rw [if_pos hC]; exact ih (j + 1) x (by omega) hx
      · rw [if_neg hC]; exact ih (j + 1) _ (by omega) (hq j (by omega))
theorem sh_b {n : Nat} {pf : Nat → Int32} (h : shI n pf) : ∀ i, i < n → ∃ w : Nat, w ≤ 100000 ∧ pf i = nI w := by
  obtain ⟨_, _, q, h1, _⟩ := h
  intro i hi
  exact ⟨q i, (h1 i hi).2, (h1 i hi).1⟩
theorem nearest_eq {n : Nat} {pf mh : Nat → Int32} {p0 : Int32} (h : shI n pf) (hr : shR n pf mh) : F_m_nearest n mh p0 = F_nearestPlace n pf p0 := by
  obtain ⟨h1, h2, _⟩ := h
  unfold F_m_nearest F_nearestPlace
  rw [show (0 : Int32) = nI 0 from rfl, plOf (by omega) h2]
  simp only [cb]
  exact (near_eq h2 hr (n + 1) 0 1 (by omega) (by omega)).symm
theorem nearest_b {n : Nat} {pf : Nat → Int32} {p0 : Int32} (h : shI n pf) : ∃ w : Nat, w ≤ 100000 ∧ F_nearestPlace n pf p0 = nI w := by
  have hb := sh_b h
  obtain ⟨h1, h2, _⟩ := h
  unfold F_nearestPlace
  rw [show (0 : Int32) = nI 0 from rfl, plOf (by omega) h2]
  simp only [cb]
  exact near_b h2 hb (n + 1) 1 _ (by omega) (hb 0 (by omega))
theorem mode3 {oc ff ri pw : Int32} (h : F_modeNow oc ff ri pw = 3) : ¬ ff = -1 := by
  unfold F_modeNow at h
  intro e
  rw [if_pos e] at h
  revert h
  repeat' split
  all_goals (intro h; exact absurd h (by decide))
theorem topF (n : Nat) (h : 1 ≤ n) : F_topFloor n = nI (n - 1) := by
  unfold F_topFloor
  rw [lit_1, pk_sub h]
theorem wanted_eq {n : Nat} {pf mh cf mc : Nat → Int32} {pl oc ff ri cc pw : Int32} (hs : shI n pf) (hr : shR n pf mh) (hc : caI n cc cf) (hf : fiI n ff) (hm : mc 0 = cf 0) :
    F_m_wanted_0 n (drk pw) mh pl oc ff ri mc cc = F_wantedPlace pl ff ri cc cf n pf (F_modeNow oc ff ri pw) := by
  have hn := hs.2.1
  have hn1 := hs.1
  unfold F_m_wanted_0 F_wantedPlace
  rw [mode_eq]
  have h3 := @mode3 oc ff ri pw
  generalize F_modeNow oc ff ri pw = mode at h3 ⊢
  simp only [cb]
  rw [nearest_eq hs hr]
  by_cases e0 : mode = 0
  · rw [if_pos e0, if_pos e0]
    obtain ⟨m, hm8, rfl, hg⟩ := hc
    unfold F_firstFloor
    by_cases h0 : m = 0
    · subst h0
      rw [if_pos (by decide), if_pos (by decide), plOf_m1]
    · rw [if_neg (nI_nle (by omega) (by omega)), if_neg (nI_nle (by omega) (by omega)), hm]
      obtain ⟨f, hf1, hf2⟩ := hg 0 (by omega)
      rw [hf2, plOf hf1 hn, nI_clamp (by omega), hr f hf1]
  · rw [if_neg e0, if_neg e0]
    by_cases e1 : mode = 1
    · rw [if_pos e1, if_pos e1]
    · rw [if_neg e1, if_neg e1]
      by_cases e2 : mode = 2
      · rw [if_pos e2, if_pos e2]
      · rw [if_neg e2, if_neg e2]
        by_cases e3 : mode = 3
        · rw [if_pos e3, if_pos e3]
          rcases hf with hf | ⟨f, hf1, hf2⟩
          · exact absurd hf (h3 e3)
          · rw [hf2, plOf hf1 hn, nI_clamp (by omega), hr f hf1]
        · rw [if_neg e3, if_neg e3]
          by_cases e4 : mode = 4
          · rw [if_pos e4, if_pos e4, topF n hn1, plOf (by omega) hn, show (0 : Int32) = nI 0 from rfl, plOf (by omega) hn, lit_1, pk_sub hn1, nI_clamp (by omega), hr _ (by omega), hr 0 (by omega)]
          · rw [if_neg e4, if_neg e4]
theorem wanted_1 (n : Nat) (mh mc : Nat → Int32) (dk pl oc ff ri cc : Int32) : F_m_wanted_1 n dk mh pl oc ff ri mc cc = F_m_wanted_0 n dk mh pl oc ff ri (fun _ => mc 8) cc := rfl
theorem wanted_wo {n : Nat} {pf cf : Nat → Int32} {pl ff ri cc mode : Int32} (hs : shI n pf) (hc : caI n cc cf) (hf : fiI n ff) : wo (F_wantedPlace pl ff ri cc cf n pf mode) := by
  have hn := hs.2.1
  have hn1 := hs.1
  have hb := sh_b hs
  unfold F_wantedPlace
  simp only [cb]
  by_cases e0 : mode = 0
  · rw [if_pos e0]
    obtain ⟨m, hm8, rfl, hg⟩ := hc
    unfold F_firstFloor
    by_cases h0 : m = 0
    · subst h0
      rw [if_pos (by decide), plOf_m1]; exact Or.inl rfl
    · rw [if_neg (nI_nle (by omega) (by omega))]
      obtain ⟨f, hf1, hf2⟩ := hg 0 (by omega)
      rw [hf2, plOf hf1 hn]; exact Or.inr (hb f hf1)
  · rw [if_neg e0]
    by_cases e1 : mode = 1
    · rw [if_pos e1]; exact Or.inl rfl
    · rw [if_neg e1]
      by_cases e2 : mode = 2
      · rw [if_pos e2]; exact Or.inr (nearest_b hs)
      · rw [if_neg e2]
        by_cases e3 : mode = 3
        · rw [if_pos e3]
          rcases hf with hf | ⟨f, hf1, hf2⟩
          · rw [hf, plOf_m1]; exact Or.inl rfl
          · rw [hf2, plOf hf1 hn]; exact Or.inr (hb f hf1)
        · rw [if_neg e3]
          by_cases e4 : mode = 4
          · rw [if_pos e4, topF n hn1, plOf (by omega) hn, show (0 : Int32) = nI 0 from rfl, plOf (by omega) hn]
            split
            · exact Or.inr (hb _ (by omega))
            · split
              · exact Or.inr (hb 0 (by omega))
              · exact Or.inl rfl
          · rw [if_neg e4]; exact Or.inl rfl
/-! floorAt -/
theorem q_mono {n : Nat} {q : Nat → Nat} (h : ∀ i, i + 1 < n → q i < q (i + 1)) : ∀ (d i : Nat), i + d + 1 < n → q i < q (i + d + 1) := by
  intro d
  induction d with
  | zero => intro i hi; exact h i hi
  | succ d ih =>
    intro i hi
    have h1 := ih i (by omega)
    have h2 := h (i + d + 1) (by omega)
    exact Nat.lt_trans h1 h2
theorem pf_inj {n : Nat} {pf : Nat → Int32} (h : shI n pf) {i j : Nat} (hi : i < n) (hj : j < n) (e : pf i = pf j) : i = j := by
  obtain ⟨_, _, q, h1, h2⟩ := h
  rw [(h1 i hi).1, (h1 j hj).1] at e
  have e2 := (nI_eq (by have := (h1 i hi).2; omega) (by have := (h1 j hj).2; omega)).mp e
  rcases Nat.lt_trichotomy i j with z | z | z
  · have := q_mono h2 (j - i - 1) i (by omega)
    rw [show i + (j - i - 1) + 1 = j by omega] at this
    omega
  · exact z
  · have := q_mono h2 (i - j - 1) j (by omega)
    rw [show j + (i - j - 1) + 1 = i by omega] at this
    omega
theorem fl_none {n : Nat} {pf mh : Nat → Int32} {p0 : Int32} (hn : n ≤ 20) (hr : shR n pf mh) :
    ∀ (d fu j : Nat) (ff : Int32), j + d = n → d < fu → (∀ i, j ≤ i → i < n → ¬ pf i = p0) → L_floorAt_2 n pf p0 fu j = -1 ∧ L_m_floorAt_4 n mh p0 fu ff j = ff := by
  intro d
  induction d with
  | zero =>
    intro fu j ff hj hf hne
    obtain ⟨f, rfl⟩ : ∃ f, fu = f + 1 := ⟨fu - 1, by omega⟩
    rw [L_floorAt_2_u, L_m_floorAt_4_u, if_pos (nI_le (by omega) (by omega)), if_pos (nI_le (by omega) (by omega))]
    exact ⟨rfl, rfl⟩
  | succ d ih =>
    intro fu j ff hj hf hne
    obtain ⟨f, rfl⟩ : ∃ f, fu = f + 1 := ⟨fu - 1, by omega⟩
    rw [L_floorAt_2_u, L_m_floorAt_4_u, if_neg (nI_ge (by omega) (by omega)), if_neg (nI_ge (by omega) (by omega)), nI_clamp (by omega), hr j (by omega), if_neg (hne j (by omega) (by omega)), if_neg (hne j (by omega) (by omega))]
    exact ih f (j + 1) ff (by omega) (by omega) (fun i h1 h2 => hne i (by omega) h2)
theorem fl_some {n k : Nat} {pf mh : Nat → Int32} {p0 : Int32} (hn : n ≤ 20) (hr : shR n pf mh) (hk : k < n) (hpk : pf k = p0) (hu : ∀ i, i < n → pf i = p0 → i = k) :
    ∀ (d fu j : Nat) (ff : Int32), j + d = n → d < fu → j ≤ k → L_floorAt_2 n pf p0 fu j = nI k ∧ L_m_floorAt_4 n mh p0 fu ff j = nI k := by
  intro d
  induction d with
  | zero => intro fu j ff hj hf hjk; omega
  | succ d ih =>
    intro fu j ff hj hf hjk
    obtain ⟨f, rfl⟩ : ∃ f, fu = f + 1 := ⟨fu - 1, by omega⟩
    rw [L_floorAt_2_u, L_m_floorAt_4_u, if_neg (nI_ge (by omega) (by omega)), if_neg (nI_ge (by omega) (by omega)), nI_clamp (by omega), hr j (by omega)]
    by_cases e : j = k
    · subst e
      rw [if_pos hpk, if_pos hpk]
      exact ⟨rfl, (fl_none hn hr d f (j + 1) (nI j) (by omega) (by omega) (fun i h1 h2 h3 => by have := hu i h2 h3; omega)).2⟩
    · rw [if_neg (fun h => e (hu j (by omega) h)), if_neg (fun h => e (hu j (by omega) h))]
      exact ih f (j + 1) ff (by omega) (by omega) (by omega)
theorem floorAt_eq {n : Nat} {pf mh : Nat → Int32} {p0 : Int32} (hs : shI n pf) (hr : shR n pf mh) : F_m_floorAt n mh p0 = F_floorAt n pf p0 := by
  unfold F_m_floorAt F_floorAt
  by_cases h : ∃ k, k < n ∧ pf k = p0
  · obtain ⟨k, hk, hp⟩ := h
    obtain ⟨e1, e2⟩ := fl_some (p0 := p0) hs.2.1 hr hk hp (fun i h1 h2 => pf_inj hs h1 hk (h2.trans hp.symm)) n (n + 1) 0 (-1) (by omega) (by omega) (by omega)
    rw [e1, e2]
  · obtain ⟨e1, e2⟩ := fl_none (p0 := p0) hs.2.1 hr n (n + 1) 0 (-1) (by omega) (by omega) (fun i h1 h2 h3 => h ⟨i, h2, h3⟩)
    rw [e1, e2]
