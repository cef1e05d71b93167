/-! Numbers: how far a car goes yet, by steps that fall by g each time. -/
def lenF : Nat → Nat → Nat → Nat
  | 0, _, _ => 0
  | k + 1, g, u => if u ≤ g then 0 else (u - g) + lenF k g (u - g)
theorem lenF_mono (g : Nat) : ∀ (k u v : Nat), u ≤ v → u + lenF k g u ≤ v + lenF k g v := by
  intro k
  induction k with
  | zero => intro u v h; simpa [lenF] using h
  | succ k ih =>
    intro u v h
    simp only [lenF]
    by_cases h1 : u ≤ g
    · rw [if_pos h1]; omega
    · rw [if_neg h1, if_neg (by omega : ¬ v ≤ g)]
      have := ih (u - g) (v - g) (by omega)
      omega
theorem lenF_fuel (g : Nat) (hg : 1 ≤ g) : ∀ (k k' u : Nat), u ≤ k → u ≤ k' → lenF k g u = lenF k' g u := by
  intro k
  induction k with
  | zero =>
    intro k' u h h'
    have : u = 0 := by omega
    subst this
    cases k' <;> simp [lenF]
  | succ k ih =>
    intro k' u h h'
    cases k' with
    | zero =>
      have : u = 0 := by omega
      subst this
      simp [lenF]
    | succ k' =>
      simp only [lenF]
      by_cases h1 : u ≤ g
      · rw [if_pos h1, if_pos h1]
      · rw [if_neg h1, if_neg h1, ih k' (u - g) (by omega) (by omega)]
def tri (t : Nat) : Nat := t * (t + 1) / 2
theorem tri_s (t : Nat) : tri (t + 1) = tri t + (t + 1) := by
  unfold tri
  have h : (t + 1) * (t + 1 + 1) = t * (t + 1) + 2 * (t + 1) := by
    rw [Nat.mul_comm]
    show (t + 2) * (t + 1) = _
    rw [Nat.add_mul]
  rw [h, Nat.add_mul_div_left _ _ (by decide)]
theorem lenF_cl (g : Nat) (hg : 1 ≤ g) : ∀ (k u : Nat), u ≤ k → lenF k g u + g * tri ((u - 1) / g) = ((u - 1) / g) * u := by
  intro k
  induction k with
  | zero =>
    intro u h
    have : u = 0 := by omega
    subst this
    simp [lenF, tri]
  | succ k ih =>
    intro u h
    simp only [lenF]
    by_cases h1 : u ≤ g
    · rw [if_pos h1, Nat.div_eq_of_lt (by omega)]
      simp [tri]
    · rw [if_neg h1]
      obtain ⟨w, rfl⟩ : ∃ w, u = w + g := ⟨u - g, by omega⟩
      have hd : (w + g - 1) / g = (w - 1) / g + 1 := by
        rw [show w + g - 1 = (w - 1) + g by omega, Nat.add_div_right _ (by omega)]
      have hi := ih w (by omega)
      rw [Nat.add_sub_cancel, hd]
      generalize (w - 1) / g = t at hi ⊢
      rw [tri_s, Nat.mul_add, Nat.add_mul, Nat.mul_add, Nat.mul_add]
      have e1 : g * t = t * g := Nat.mul_comm _ _
      rw [e1]
      omega
theorem lenF_le (g : Nat) : ∀ (k u : Nat), lenF k g u ≤ k * u := by
  intro k
  induction k with
  | zero => intro u; simp [lenF]
  | succ k ih =>
    intro u
    simp only [lenF]
    by_cases h1 : u ≤ g
    · rw [if_pos h1]; exact Nat.zero_le _
    · rw [if_neg h1, Nat.add_mul]
      have h2 := ih (u - g)
      have h3 : k * (u - g) ≤ k * u := Nat.mul_le_mul_left _ (by omega)
      omega
theorem len_core {u g : Nat} (hg : 1 ≤ g) (hgm : g ≤ 1000) (hu1 : 1 ≤ u) (hu : u ≤ 5000) :
    ((nI u - 1) / nI g) * nI u - nI g * ((((nI u - 1) / nI g) * (((nI u - 1) / nI g) + 1)) / 2) = nI (lenF u g u) := by
  rw [lit_1, lit_2, pk_sub hu1, pk_div (by omega) (by omega) (by omega)]
  have hcl := lenF_cl g hg u u (Nat.le_refl _)
  have htu : (u - 1) / g ≤ 5000 := Nat.le_trans (Nat.div_le_self _ _) (by omega)
  unfold tri at hcl
  generalize (u - 1) / g = t at hcl htu ⊢
  have hb : t * (t + 1) ≤ 5000 * 5001 := Nat.mul_le_mul htu (by omega)
  rw [nI_add, pk_mul, pk_mul, pk_div (by omega) (by decide) (by decide), pk_mul, pk_sub (by omega)]
  congr 1
  omega
/-- the class's closed form is that sum -/
theorem F_length_nI {u g : Nat} (hg : 1 ≤ g) (hgm : g ≤ 1000) (hu : u ≤ 5000) : F_length (nI u) (nI g) = nI (lenF u g u) := by
  unfold F_length
  rw [if_neg (by rw [lit_1]; exact nI_nlt hg (by omega))]
  by_cases h : g < u
  · rw [if_pos (nI_lt h (by omega))]
    exact len_core hg hgm (by omega) hu
  · rw [if_neg (nI_nlt (by omega) (by omega))]
    have : lenF u g u = 0 := by
      cases u with
      | zero => rfl
      | succ u => simp only [lenF]; rw [if_pos (by omega)]
    rw [this]; rfl
theorem F_m_length_nI {u g : Nat} (hg : 1 ≤ g) (hgm : g ≤ 1000) (hu : u ≤ 5000) : F_m_length (nI u) (nI g) = nI (lenF u g u) := by
  unfold F_m_length
  by_cases h : u = 0
  · subst h
    rw [if_pos (by decide)]
    have e : (0 : Int32) / 2 = 0 := by decide
    rw [e, Int32.zero_mul, Int32.mul_zero]
    show (0 : Int32) - 0 = nI 0
    decide
  · rw [if_neg (nI_nle (by omega) (by omega))]
    exact len_core hg hgm (by omega) hu
