/-! The greatest speed that fits, by halving. -/
def okS (g b : Nat) (p1 p2 : Int32) (u : Nat) : Prop := ((u + lenF u g u : Nat) : Int) ≤ p1.toInt ∧ ((u + lenF u b u : Nat) : Int) ≤ p2.toInt
theorem okS_mono {g b : Nat} {p1 p2 : Int32} (hg : 1 ≤ g) (hb : 1 ≤ b) {u v : Nat} (h : u ≤ v) (hv : okS g b p1 p2 v) : okS g b p1 p2 u := by
  unfold okS at hv ⊢
  have h1 := lenF_mono g v u v h
  have h2 := lenF_mono b v u v h
  rw [lenF_fuel g hg v u u h (Nat.le_refl _)] at h1
  rw [lenF_fuel b hb v u u h (Nat.le_refl _)] at h2
  omega
theorem nI_lt_iff {x : Int32} {a : Nat} (ha : a < 2 ^ 31) : x < nI a ↔ x.toInt < (a : Int) := by
  rw [Int32.lt_iff_toInt_lt, nI_toInt ha]
theorem sum_lt {u g : Nat} (hu : u ≤ 5000) : u + lenF u g u < 2 ^ 31 := by
  have h := lenF_le g u u
  have h2 : u * u ≤ 5000 * 5000 := Nat.mul_le_mul hu hu
  omega
theorem F_fits_nI {u g b : Nat} {p1 p2 : Int32} (hg : 1 ≤ g) (hgm : g ≤ 1000) (hb : 1 ≤ b) (hbm : b ≤ 1000) (hu : u ≤ 5000) :
    (okS g b p1 p2 u → F_fitsC (nI g) (nI b) (nI u) p1 p2 = 1) ∧ (¬ okS g b p1 p2 u → F_fitsC (nI g) (nI b) (nI u) p1 p2 = 0) := by
  unfold F_fitsC okS
  rw [F_length_nI hg hgm hu, F_length_nI hb hbm hu]
  simp only [cb]
  rw [nI_add, nI_add]
  have s1 := sum_lt (u := u) (g := g) hu
  have s2 := sum_lt (u := u) (g := b) hu
  constructor
  · intro h
    rw [if_neg (by rw [nI_lt_iff s1]; omega), if_neg (by rw [nI_lt_iff s2]; omega)]
  · intro h
    by_cases h1 : p1 < nI (u + lenF u g u)
    · rw [if_pos h1]
    · rw [if_neg h1, if_pos]
      rw [nI_lt_iff s1] at h1
      rw [nI_lt_iff s2]
      omega
theorem gs_loop {g b : Nat} {p1 p2 : Int32} (hg : 1 ≤ g) (hgm : g ≤ 1000) (hb : 1 ≤ b) (hbm : b ≤ 1000) :
    ∀ (k fu a c j : Nat), j + k = 32 → 33 ≤ j + fu → a < c → c ≤ 5000 → c - a ≤ 2 ^ k → okS g b p1 p2 a → ¬ okS g b p1 p2 c →
      ∃ r, L_greatestSpeed_37 (nI g) (nI b) p1 p2 fu (nI a) (nI c) j = nI r ∧ a ≤ r ∧ r < c ∧ okS g b p1 p2 r ∧ ¬ okS g b p1 p2 (r + 1) := by
  intro k
  induction k with
  | zero =>
    intro fu a c j hj hfu hac hc hd h1 h2
    obtain ⟨f, rfl⟩ : ∃ f, fu = f + 1 := ⟨fu - 1, by omega⟩
    have hc1 : c = a + 1 := by simp at hd; omega
    refine ⟨a, ?_, Nat.le_refl _, hac, h1, by rw [← hc1]; exact h2⟩
    rw [L_greatestSpeed_37_u, if_pos (show (32 : Int32) ≤ nI j from nI_le (a := 32) (b := j) (by omega) (by omega))]
  | succ k ih =>
    intro fu a c j hj hfu hac hc hd h1 h2
    obtain ⟨f, rfl⟩ : ∃ f, fu = f + 1 := ⟨fu - 1, by omega⟩
    rw [L_greatestSpeed_37_u, if_neg (show ¬ (32 : Int32) ≤ nI j from nI_ge (a := j) (b := 32) (by omega) (by decide)), pk_sub (Nat.le_of_lt hac)]
    by_cases h3 : c - a ≤ 1
    · rw [if_pos (show nI (c - a) ≤ (1 : Int32) from nI_le (a := c - a) (b := 1) h3 (by decide))]
      exact ⟨a, rfl, Nat.le_refl _, hac, h1, by rw [show a + 1 = c by omega]; exact h2⟩
    · rw [if_neg (show ¬ nI (c - a) ≤ (1 : Int32) from nI_ge (a := 1) (b := c - a) (by omega) (by omega)), nI_add, lit_2, pk_div (by omega) (by decide) (by decide)]
      have hp : (2 : Nat) ^ (k + 1) = 2 * 2 ^ k := by rw [Nat.pow_succ]; omega
      rw [hp] at hd
      obtain ⟨hf1, hf0⟩ := F_fits_nI (u := (a + c) / 2) (p1 := p1) (p2 := p2) hg hgm hb hbm (by omega)
      by_cases h4 : okS g b p1 p2 ((a + c) / 2)
      · rw [hf1 h4]
        simp only [cb]
        rw [if_neg (by decide)]
        obtain ⟨r, e1, e2, e3, e4, e5⟩ := ih f ((a + c) / 2) c (j + 1) (by omega) (by omega) (by omega) hc (by omega) h4 h2
        exact ⟨r, e1, by omega, e3, e4, e5⟩
      · rw [hf0 h4]
        simp only [cb]
        rw [if_pos trivial]
        obtain ⟨r, e1, e2, e3, e4, e5⟩ := ih f a ((a + c) / 2) (j + 1) (by omega) (by omega) (by omega) (by omega) (by omega) h1 h4
        exact ⟨r, e1, e2, by omega, e4, e5⟩
theorem F_least_nI {v b : Nat} (hv : v ≤ 5000) (hb : b ≤ 5000) : F_leastSpeed (nI v) (nI b) = nI (v - b) := by
  unfold F_leastSpeed
  by_cases h : v < b
  · rw [if_pos (pk_sneg (by omega) h), show v - b = 0 by omega]; rfl
  · rw [pk_sub (by omega), if_neg (nI_pos (by omega))]
/-- the greatest speed of lo .. hi that fits, or -1 -/
theorem gs_spec {v g b hi : Nat} {p1 p2 : Int32} (hg : 1 ≤ g) (hgm : g ≤ 1000) (hb : 1 ≤ b) (hbm : b ≤ 1000) (hv : v ≤ 5000) (hhi : hi ≤ 5000) (hlo : v - b ≤ hi) :
    (¬ okS g b p1 p2 (v - b) ∧ F_greatestSpeed (nI v) (nI g) (nI b) (nI hi) p1 p2 = -1) ∨
    ∃ u, F_greatestSpeed (nI v) (nI g) (nI b) (nI hi) p1 p2 = nI u ∧ v - b ≤ u ∧ u ≤ hi ∧ okS g b p1 p2 u ∧ ∀ w, u < w → w ≤ hi → ¬ okS g b p1 p2 w := by
  unfold F_greatestSpeed
  obtain ⟨hf1, hf0⟩ := F_fits_nI (u := hi) (p1 := p1) (p2 := p2) hg hgm hb hbm hhi
  by_cases h1 : okS g b p1 p2 hi
  · refine Or.inr ⟨hi, ?_, hlo, Nat.le_refl _, h1, fun w h2 h3 => by omega⟩
    rw [hf1 h1]
    simp only [cb]
    rw [if_neg (by decide)]
  · rw [hf0 h1]
    simp only [cb]
    rw [if_pos trivial, F_least_nI hv (by omega)]
    obtain ⟨hl1, hl0⟩ := F_fits_nI (u := v - b) (p1 := p1) (p2 := p2) hg hgm hb hbm (by omega)
    by_cases h2 : okS g b p1 p2 (v - b)
    · rw [hl1 h2, if_neg (by decide)]
      have hne : v - b ≠ hi := fun e => h1 (e ▸ h2)
      obtain ⟨r, e1, e2, e3, e4, e5⟩ := gs_loop (p1 := p1) (p2 := p2) hg hgm hb hbm 32 33 (v - b) hi 0 (by omega) (by omega) (by omega) hhi (by have h9 : (2 : Nat) ^ 32 = 4294967296 := (by decide); omega) h2 h1
      exact Or.inr ⟨r, e1, e2, by omega, e4, fun w h3 h4 h5 => e5 (okS_mono hg hb (by omega) h5)⟩
    · rw [hl0 h2, if_pos rfl]
      exact Or.inl ⟨h2, rfl⟩
/-! The reference's search: from the least on, the last that fits. -/
theorem gr_gen (L : Nat → Int32 → Int32 → Int32) (hi : Nat) (P : Nat → Prop)
    (hx : ∀ fu ub, L (fu + 1) ub (nI (hi + 1)) = ub)
    (hP : ∀ fu ub u, u ≤ hi → P u → L (fu + 1) ub (nI u) = L fu (nI u) (nI (u + 1)))
    (hN : ∀ fu ub u, u ≤ hi → ¬ P u → L (fu + 1) ub (nI u) = L fu ub (nI (u + 1))) :
    ∀ (k u : Nat) (ub : Int32) (fu : Nat), u + k = hi + 1 → k < fu →
      (∃ w, u ≤ w ∧ w ≤ hi ∧ P w ∧ (∀ z, w < z → z ≤ hi → ¬ P z) ∧ L fu ub (nI u) = nI w) ∨ ((∀ z, u ≤ z → z ≤ hi → ¬ P z) ∧ L fu ub (nI u) = ub) := by
  intro k
  induction k with
  | zero =>
    intro u ub fu hu hf
    obtain ⟨f, rfl⟩ : ∃ f, fu = f + 1 := ⟨fu - 1, by omega⟩
    have : u = hi + 1 := by omega
    subst this
    exact Or.inr ⟨fun z h1 h2 => by omega, hx f ub⟩
  | succ k ih =>
    intro u ub fu hu hf
    obtain ⟨f, rfl⟩ : ∃ f, fu = f + 1 := ⟨fu - 1, by omega⟩
    by_cases h : P u
    · rw [hP f ub u (by omega) h]
      rcases ih (u + 1) (nI u) f (by omega) (by omega) with ⟨w, e1, e2, e3, e4, e5⟩ | ⟨e1, e2⟩
      · exact Or.inl ⟨w, by omega, e2, e3, e4, e5⟩
      · exact Or.inl ⟨u, Nat.le_refl _, by omega, h, fun z h1 h2 => e1 z (by omega) h2, e2⟩
    · rw [hN f ub u (by omega) h]
      rcases ih (u + 1) ub f (by omega) (by omega) with ⟨w, e1, e2, e3, e4, e5⟩ | ⟨e1, e2⟩
      · exact Or.inl ⟨w, by omega, e2, e3, e4, e5⟩
      · refine Or.inr ⟨fun z h1 h2 => ?_, e2⟩
        by_cases hz : z = u
        · subst hz; exact h
        · exact e1 z (by omega) h2
/-- where both search the same range for the same property they find the same -/
theorem gr_same {lo hi : Nat} {P Q : Nat → Prop} {x y : Int32} (hlo : lo ≤ hi) (hmono : ∀ u v, u ≤ v → v ≤ hi → Q v → Q u) (hPQ : ∀ z, lo ≤ z → z ≤ hi → (P z ↔ Q z))
    (hx : (∃ w, lo ≤ w ∧ w ≤ hi ∧ P w ∧ (∀ z, w < z → z ≤ hi → ¬ P z) ∧ x = nI w) ∨ ((∀ z, lo ≤ z → z ≤ hi → ¬ P z) ∧ x = -1))
    (hy : (¬ Q lo ∧ y = -1) ∨ ∃ u, y = nI u ∧ lo ≤ u ∧ u ≤ hi ∧ Q u ∧ ∀ w, u < w → w ≤ hi → ¬ Q w) : y = x := by
  rcases hx with ⟨w, a1, a2, a3, a4, a5⟩ | ⟨a1, a2⟩
  · rcases hy with ⟨b1, b2⟩ | ⟨u, b1, b2, b3, b4, b5⟩
    · exact absurd (hmono lo w a1 a2 ((hPQ w a1 a2).mp a3)) b1
    · have : u = w := by
        rcases Nat.lt_trichotomy u w with h | h | h
        · exact absurd ((hPQ w a1 a2).mp a3) (b5 w h a2)
        · exact h
        · exact absurd ((hPQ u b2 b3).mpr b4) (a4 u h b3)
      rw [b1, a5, this]
  · rcases hy with ⟨b1, b2⟩ | ⟨u, b1, b2, b3, b4, b5⟩
    · rw [a2, b2]
    · exact absurd ((hPQ u b2 b3).mpr b4) (a1 u b2 b3)
theorem nI_s (u : Nat) : nI u + 1 = nI (u + 1) := nI_1 u
theorem mg10 {g lo hi : Nat} {p4 : Int32} (hg : 1 ≤ g) (hgm : g ≤ 1000) (hhi : hi ≤ 4000) (hlo : lo ≤ hi) :
    (∃ w, lo ≤ w ∧ w ≤ hi ∧ (p4 = -1 ∨ ((w + lenF w g w : Nat) : Int) ≤ p4.toInt) ∧ (∀ z, w < z → z ≤ hi → ¬ (p4 = -1 ∨ ((z + lenF z g z : Nat) : Int) ≤ p4.toInt)) ∧ F_m_greatest_10 (nI g) (nI lo) (nI hi) p4 = nI w) ∨
    ((∀ z, lo ≤ z → z ≤ hi → ¬ (p4 = -1 ∨ ((z + lenF z g z : Nat) : Int) ≤ p4.toInt)) ∧ F_m_greatest_10 (nI g) (nI lo) (nI hi) p4 = -1) := by
  unfold F_m_greatest_10
  rw [nI_toInt (by omega), nI_toInt (by omega)]
  refine gr_gen (fun fu ub uu => L_m_greatest_10_6 (nI g) (nI hi) p4 fu ub uu) hi (fun z => p4 = -1 ∨ ((z + lenF z g z : Nat) : Int) ≤ p4.toInt) ?_ ?_ ?_ (hi + 1 - lo) lo (-1) _ (by omega) (by omega)
  · intro fu ub
    show L_m_greatest_10_6 (nI g) (nI hi) p4 (fu + 1) ub (nI (hi + 1)) = ub
    rw [L_m_greatest_10_6_u, if_pos (nI_lt (by omega) (by omega))]
  · intro fu ub u hu h
    show L_m_greatest_10_6 (nI g) (nI hi) p4 (fu + 1) ub (nI u) = L_m_greatest_10_6 (nI g) (nI hi) p4 fu (nI u) (nI (u + 1))
    rw [L_m_greatest_10_6_u, if_neg (nI_nlt hu (by omega)), nI_s]
    by_cases h4 : p4 = -1
    · rw [if_pos h4]; rfl
    · rw [if_neg h4, F_m_length_nI hg hgm (by omega)]
      simp only [cb]
      rw [nI_add, if_neg]
      rw [nI_lt_iff (sum_lt (by omega))]
      rcases h with h | h
      · exact absurd h h4
      · omega
  · intro fu ub u hu h
    show L_m_greatest_10_6 (nI g) (nI hi) p4 (fu + 1) ub (nI u) = L_m_greatest_10_6 (nI g) (nI hi) p4 fu ub (nI (u + 1))
    rw [L_m_greatest_10_6_u, if_neg (nI_nlt hu (by omega)), nI_s]
    rw [if_neg (fun e => h (Or.inl e)), F_m_length_nI hg hgm (by omega)]
    simp only [cb]
    rw [nI_add, if_pos]
    rw [nI_lt_iff (sum_lt (by omega))]
    rcases Int.lt_or_le p4.toInt (((u + lenF u g u : Nat) : Int)) with q | q
    · exact q
    · exact absurd (Or.inr q) h
