/-! Numbers for the reference's walks. -/
theorem ixm_s {j nf : Nat} (hnf2 : nf ≤ 20) (hj : j ≤ nf) (h : ¬ nI nf ≤ nI j) : j + 1 ≤ nf := ix_lt (by omega) hj h
theorem ixm_lt {j nf : Nat} (hnf2 : nf ≤ 20) (hj : j ≤ nf) (h : ¬ nI nf ≤ nI j) : j < 20 := by
  have := ixm_s hnf2 hj h
  omega
theorem ixm {j nf : Nat} (hnf2 : nf ≤ 20) (hj : j ≤ nf) (h : ¬ nI nf ≤ nI j) : vp_in (nI j) 20 := vp_in_nI (ixm_lt hnf2 hj h) (by decide)
theorem i_add {x y : Int32} (h1 : -2147483648 ≤ x.toInt + y.toInt) (h2 : x.toInt + y.toInt < 2147483648) : (x + y).toInt = x.toInt + y.toInt := by
  rw [Int32.toInt_add, Int.bmod_def]
  split <;> omega
theorem i_sub {x y : Int32} (h1 : -2147483648 ≤ x.toInt - y.toInt) (h2 : x.toInt - y.toInt < 2147483648) : (x - y).toInt = x.toInt - y.toInt := by
  rw [Int32.toInt_sub, Int.bmod_def]
  split <;> omega
theorem i_neg {x : Int32} (h1 : -2147483648 < x.toInt) (h2 : x.toInt < 2147483648) : (-x).toInt = -x.toInt := by
  rw [Int32.toInt_neg, Int.bmod_def]
  split <;> omega
theorem gr_b {p3 uu : Int32} {fu : Nat} (hmx : ¬ p3 = 2147483647) (h : ¬ p3 < uu) (hm : p3.toInt + 1 - uu.toInt < ((fu + 1 : Nat) : Int)) : p3.toInt + 1 - (uu + 1).toInt < (fu : Int) ∧ 1 ≤ fu := by
  have h1 : uu.toInt ≤ p3.toInt := by
    rw [Int32.lt_iff_toInt_lt] at h; omega
  have h2 : ¬ p3.toInt = 2147483647 := fun e => hmx (Int32.toInt_inj.mp (by rw [e]; rfl))
  have h3 := Int32.toInt_lt p3
  have h4 := Int32.le_toInt uu
  have e1 : (1 : Int32).toInt = 1 := by decide
  have h5 : (uu + 1).toInt = uu.toInt + 1 := by
    rw [i_add (by rw [e1]; omega) (by rw [e1]; omega), e1]
  rw [h5]
  omega
def sb (x : Int32) : Prop := -5000 ≤ x.toInt ∧ x.toInt ≤ 5000
theorem mxn_e {x : Int32} (h : x.toInt ≤ 100000) : ¬ x = 2147483647 := by
  intro e
  rw [e] at h
  exact absurd h (by decide)
theorem mxn_id {x : Int32} (h : sb x) : ¬ x = 2147483647 := mxn_e (by have := h.2; omega)
theorem mxn_add {x y : Int32} (hx : sb x) (hy : sb y) : ¬ x + y = 2147483647 := mxn_e (by
  obtain ⟨a, b⟩ := hx
  obtain ⟨c, d⟩ := hy
  rw [i_add (by omega) (by omega)]; omega)
theorem mxn_sub {x y : Int32} (hx : sb x) (hy : sb y) : ¬ x - y = 2147483647 := mxn_e (by
  obtain ⟨a, b⟩ := hx
  obtain ⟨c, d⟩ := hy
  rw [i_sub (by omega) (by omega)]; omega)
theorem sb_neg {x : Int32} (h : sb x) : sb (-x) := by
  obtain ⟨a, b⟩ := h
  unfold sb
  rw [i_neg (by omega) (by omega)]
  omega
theorem ld_lt {cnt : Int32} {j : Nat} (hcc : 0 ≤ cnt ∧ cnt ≤ 8) (hj : j ≤ 8) (h : ¬ cnt - 1 ≤ nI j) : j < 7 := by
  obtain ⟨q, hq, rfl⟩ := nI_of2 (M := 8) (n := 8) (by decide) (Int32.not_lt.mpr hcc.1) hcc.2
  cases q with
  | zero =>
    refine absurd ?_ h
    rw [Int32.le_iff_toInt_le, nI_toInt (by omega)]
    have : (nI 0 - 1).toInt = -1 := by decide
    rw [this]; omega
  | succ q =>
    rw [nI_pred] at h
    rcases Nat.lt_or_ge j q with z | z
    · omega
    · exact absurd (nI_le z (by omega)) h
theorem ld_in_0 {j : Nat} (h : j < 7) : vp_in (0 + nI j) 16 := by
  rw [show (0 : Int32) = nI 0 from rfl, nI_add]
  exact vp_in_nI (by omega) (by decide)
theorem ld_in_1 {j : Nat} (h : j < 7) : vp_in (8 + nI j) 16 := by
  rw [show (8 : Int32) = nI 8 from rfl, nI_add]
  exact vp_in_nI (by omega) (by decide)
theorem ld_in1_0 {j : Nat} (h : j < 7) : vp_in ((0 + nI j) + 1) 16 := by
  rw [show (0 : Int32) = nI 0 from rfl, nI_add, nI_1]
  exact vp_in_nI (by omega) (by decide)
theorem ld_in1_1 {j : Nat} (h : j < 7) : vp_in ((8 + nI j) + 1) 16 := by
  rw [show (8 : Int32) = nI 8 from rfl, nI_add, nI_1]
  exact vp_in_nI (by omega) (by decide)
theorem nb_1 {r : Int32} (h : nb r) (h0 : ¬ r = 0) : r = 1 := h.resolve_left h0
theorem ab0 {x : Int32} (h : ¬ x < 0) (h1 : ¬ 0 ≤ x) : False := h1 (Int32.not_lt.mp h)
theorem ab1 {x : Int32} (h : ¬ x < 0) (h1 : ¬ 1 ≤ x) (h0 : ¬ x = 0) : False := by
  obtain ⟨j, hj, rfl⟩ := nI_of h
  rcases Nat.lt_or_ge j 1 with q | q
  · exact h0 (by rw [show j = 0 by omega]; rfl)
  · exact h1 (nI_le q hj)
theorem ab2 {x : Int32} (h : ¬ x < 0) (h1 : ¬ 2 ≤ x) (h0 : ¬ x = 0) (h2 : ¬ x = 1) : False := by
  obtain ⟨j, hj, rfl⟩ := nI_of h
  rcases Nat.lt_or_ge j 2 with q | q
  · rcases (show j = 0 ∨ j = 1 by omega) with rfl | rfl
    · exact h0 rfl
    · exact h2 rfl
  · exact h1 (nI_le q hj)
/-- the calls of a car in the reference lie within the floors' row -/
def cI (f : Nat → Int32) (b : Nat) (cnt : Int32) : Prop := ∀ i : Nat, i < 8 → nI i < cnt → vp_in (f (b + i)) 20
theorem cI_first {f : Nat → Int32} {b : Nat} {cnt : Int32} (h : cI f b cnt) (h0 : ¬ cnt ≤ 0) : vp_in (f b) 20 := h 0 (by decide) (Int32.not_le.mp h0)
theorem go_in_0 {cnt : Int32} (hcc : 0 ≤ cnt ∧ cnt ≤ 8) (h : ¬ 8 ≤ cnt) : vp_in (0 + cnt) 16 := by
  obtain ⟨q, hq, rfl⟩ := nI_of2 (M := 8) (n := 8) (by decide) (Int32.not_lt.mpr hcc.1) hcc.2
  rw [show (0 : Int32) = nI 0 from rfl, nI_add]
  exact vp_in_nI (by omega) (by decide)
theorem go_in_1 {cnt : Int32} (hcc : 0 ≤ cnt ∧ cnt ≤ 8) (h : ¬ 8 ≤ cnt) : vp_in (8 + cnt) 16 := by
  obtain ⟨q, hq, rfl⟩ := nI_of2 (M := 8) (n := 8) (by decide) (Int32.not_lt.mpr hcc.1) hcc.2
  rcases Nat.lt_or_ge q 8 with z | z
  · rw [show (8 : Int32) = nI 8 from rfl, nI_add]
    exact vp_in_nI (by omega) (by decide)
  · exact absurd (nI_le z (by omega)) h
