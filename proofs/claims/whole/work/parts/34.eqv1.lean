/-! Calls of class and reference give alike answers. -/
theorem updL0 {f : Nat → Int64} {k : Nat} {x : Int64} : vp_updL f k x k = x := by
  unfold vp_updL
  exact if_pos rfl
theorem rin (x lo hi : Int32) : (F_m_in x lo hi = 1 ∧ F_refuseOutside x lo hi = .inr () ∧ ¬ x < lo ∧ x ≤ hi) ∨ (F_m_in x lo hi = 0 ∧ F_refuseOutside x lo hi = .inl 1) := by
  unfold F_m_in F_refuseOutside
  by_cases h1 : x < lo
  · rw [if_pos h1, if_pos h1]; exact Or.inr ⟨rfl, rfl⟩
  · rw [if_neg h1, if_neg h1]
    by_cases h2 : x ≤ hi
    · rw [if_neg (Int32.not_lt.mpr h2), if_pos h2]; exact Or.inl ⟨rfl, rfl, h1, h2⟩
    · rw [if_pos (Int32.not_le.mp h2), if_neg h2]; exact Or.inr ⟨rfl, rfl⟩
theorem fin1 {n : Nat} (p : Int32) (h1 : 1 ≤ n) (h2 : n ≤ 20) : (F_m_isFloor n p = 1 ∧ F_refuseOutside p 0 (F_topFloor n) = .inr () ∧ flr n p) ∨ (F_m_isFloor n p = 0 ∧ F_refuseOutside p 0 (F_topFloor n) = .inl 1) := by
  unfold F_m_isFloor F_refuseOutside
  rw [topF n h1]
  by_cases h3 : p < 0
  · rw [if_pos h3, if_pos h3]; exact Or.inr ⟨rfl, rfl⟩
  · obtain ⟨j, hj, rfl⟩ := nI_of h3
    rw [if_neg h3, if_neg h3]
    by_cases h4 : j < n
    · rw [if_neg (nI_ge h4 (by omega)), if_pos (nI_le (by omega) (by omega))]; exact Or.inl ⟨rfl, rfl, j, h4, rfl⟩
    · rw [if_pos (nI_le (by omega) hj), if_neg (nI_ge (by omega) hj)]; exact Or.inr ⟨rfl, rfl⟩
theorem rng {x : Int32} {lo hi : Int32} {a b : Nat} (hlo : lo.toInt = (a : Int)) (hhi : hi.toInt = (b : Int)) (h1 : ¬ x < lo) (h2 : x ≤ hi) : ∃ v : Nat, a ≤ v ∧ v ≤ b ∧ x = nI v := by
  rw [Int32.lt_iff_toInt_lt, hlo] at h1
  rw [Int32.le_iff_toInt_le, hhi] at h2
  have h0 : ¬ x < 0 := by rw [Int32.lt_iff_toInt_lt, z_toInt]; omega
  obtain ⟨j, hj, rfl⟩ := nI_of h0
  rw [nI_toInt hj] at h1 h2
  exact ⟨j, by omega, by omega, rfl⟩
theorem sp0 {v : Nat} {way : Int32} (h : wv v way) (hv : v ≤ 2000) : way * nI v = 0 ↔ nI v = 0 := by
  have h1 := wv_size h (by omega)
  constructor
  · intro e; rw [e] at h1; rw [← h1]; rfl
  · intro e; rw [e, Int32.mul_zero]
def gpI (gap : Int32) : Prop := ∃ G : Nat, G ≤ 10000 ∧ gap = nI G
theorem E_load_10 {v p1 : Int32} {of of1 : Nat → Int64} {k a r t w : Int32} (h1 : F_h_load_0 v p1 of = (k, a, of1)) (h2 : F_m_load_10 v p1 = (r, t, w)) :
    t = k ∧ (k = 0 → of1 (0 : Int32).toNatClampNeg = r.toInt64) ∧ w = a := by
  rcases rin p1 0 10000 with ⟨e1, e2, _, _⟩ | ⟨e1, e2⟩
  · have q1 : F_h_load_0 v p1 of = (0, p1, vp_updL of (0 : Int32).toNatClampNeg v.toInt64) := by unfold F_h_load_0 F_load_0; rw [e2]; rfl
    have q2 : F_m_load_10 v p1 = (v, 0, p1) := by unfold F_m_load_10; rw [e1]; rfl
    rw [q1] at h1; rw [q2] at h2; cases h1; cases h2
    exact ⟨rfl, fun _ => updL0, rfl⟩
  · have q1 : F_h_load_0 v p1 of = (1, v, of) := by unfold F_h_load_0 F_load_0; rw [e2]; rfl
    have q2 : F_m_load_10 v p1 = (0, 1, v) := by unfold F_m_load_10; rw [e1]; rfl
    rw [q1] at h1; rw [q2] at h2; cases h1; cases h2
    exact ⟨rfl, fun h => absurd h (by decide), rfl⟩
theorem E_load_20 {v p1 : Int32} {of of1 : Nat → Int64} {k a r t w : Int32} (h1 : F_h_load_0 v p1 of = (k, a, of1)) (h2 : F_m_load_20 v p1 = (r, t, w)) :
    t = k ∧ (k = 0 → of1 (0 : Int32).toNatClampNeg = r.toInt64) ∧ w = a := by
  rcases rin p1 0 10000 with ⟨e1, e2, _, _⟩ | ⟨e1, e2⟩
  · have q1 : F_h_load_0 v p1 of = (0, p1, vp_updL of (0 : Int32).toNatClampNeg v.toInt64) := by unfold F_h_load_0 F_load_0; rw [e2]; rfl
    have q2 : F_m_load_20 v p1 = (v, 0, p1) := by unfold F_m_load_20; rw [e1]; rfl
    rw [q1] at h1; rw [q2] at h2; cases h1; cases h2
    exact ⟨rfl, fun _ => updL0, rfl⟩
  · have q1 : F_h_load_0 v p1 of = (1, v, of) := by unfold F_h_load_0 F_load_0; rw [e2]; rfl
    have q2 : F_m_load_20 v p1 = (0, 1, v) := by unfold F_m_load_20; rw [e1]; rfl
    rw [q1] at h1; rw [q2] at h2; cases h1; cases h2
    exact ⟨rfl, fun h => absurd h (by decide), rfl⟩
theorem E_load_21 {v p1 : Int32} {of of1 : Nat → Int64} {k a r t w : Int32} (h1 : F_h_load_1 v p1 of = (k, a, of1)) (h2 : F_m_load_21 v p1 = (r, t, w)) :
    t = k ∧ (k = 0 → of1 (0 : Int32).toNatClampNeg = r.toInt64) ∧ w = a := by
  rcases rin p1 0 10000 with ⟨e1, e2, _, _⟩ | ⟨e1, e2⟩
  · have q1 : F_h_load_1 v p1 of = (0, p1, vp_updL of (0 : Int32).toNatClampNeg v.toInt64) := by unfold F_h_load_1 F_load_1; rw [e2]; rfl
    have q2 : F_m_load_21 v p1 = (v, 0, p1) := by unfold F_m_load_21; rw [e1]; rfl
    rw [q1] at h1; rw [q2] at h2; cases h1; cases h2
    exact ⟨rfl, fun _ => updL0, rfl⟩
  · have q1 : F_h_load_1 v p1 of = (1, v, of) := by unfold F_h_load_1 F_load_1; rw [e2]; rfl
    have q2 : F_m_load_21 v p1 = (0, 1, v) := by unfold F_m_load_21; rw [e1]; rfl
    rw [q1] at h1; rw [q2] at h2; cases h1; cases h2
    exact ⟨rfl, fun h => absurd h (by decide), rfl⟩
theorem E_most_10 {v p1 : Int32} {of of1 : Nat → Int64} {k a r t w : Int32} (h1 : F_h_most_0 v p1 of = (k, a, of1)) (h2 : F_m_most_10 v p1 = (r, t, w)) :
    t = k ∧ (k = 0 → of1 (0 : Int32).toNatClampNeg = r.toInt64) ∧ w = a := by
  rcases rin p1 0 10000 with ⟨e1, e2, _, _⟩ | ⟨e1, e2⟩
  · have q1 : F_h_most_0 v p1 of = (0, p1, vp_updL of (0 : Int32).toNatClampNeg v.toInt64) := by unfold F_h_most_0 F_most_0; rw [e2]; rfl
    have q2 : F_m_most_10 v p1 = (v, 0, p1) := by unfold F_m_most_10; rw [e1]; rfl
    rw [q1] at h1; rw [q2] at h2; cases h1; cases h2
    exact ⟨rfl, fun _ => updL0, rfl⟩
  · have q1 : F_h_most_0 v p1 of = (1, v, of) := by unfold F_h_most_0 F_most_0; rw [e2]; rfl
    have q2 : F_m_most_10 v p1 = (0, 1, v) := by unfold F_m_most_10; rw [e1]; rfl
    rw [q1] at h1; rw [q2] at h2; cases h1; cases h2
    exact ⟨rfl, fun h => absurd h (by decide), rfl⟩
theorem E_most_20 {v p1 : Int32} {of of1 : Nat → Int64} {k a r t w : Int32} (h1 : F_h_most_0 v p1 of = (k, a, of1)) (h2 : F_m_most_20 v p1 = (r, t, w)) :
    t = k ∧ (k = 0 → of1 (0 : Int32).toNatClampNeg = r.toInt64) ∧ w = a := by
  rcases rin p1 0 10000 with ⟨e1, e2, _, _⟩ | ⟨e1, e2⟩
  · have q1 : F_h_most_0 v p1 of = (0, p1, vp_updL of (0 : Int32).toNatClampNeg v.toInt64) := by unfold F_h_most_0 F_most_0; rw [e2]; rfl
    have q2 : F_m_most_20 v p1 = (v, 0, p1) := by unfold F_m_most_20; rw [e1]; rfl
    rw [q1] at h1; rw [q2] at h2; cases h1; cases h2
    exact ⟨rfl, fun _ => updL0, rfl⟩
  · have q1 : F_h_most_0 v p1 of = (1, v, of) := by unfold F_h_most_0 F_most_0; rw [e2]; rfl
    have q2 : F_m_most_20 v p1 = (0, 1, v) := by unfold F_m_most_20; rw [e1]; rfl
    rw [q1] at h1; rw [q2] at h2; cases h1; cases h2
    exact ⟨rfl, fun h => absurd h (by decide), rfl⟩
theorem E_most_21 {v p1 : Int32} {of of1 : Nat → Int64} {k a r t w : Int32} (h1 : F_h_most_1 v p1 of = (k, a, of1)) (h2 : F_m_most_21 v p1 = (r, t, w)) :
    t = k ∧ (k = 0 → of1 (0 : Int32).toNatClampNeg = r.toInt64) ∧ w = a := by
  rcases rin p1 0 10000 with ⟨e1, e2, _, _⟩ | ⟨e1, e2⟩
  · have q1 : F_h_most_1 v p1 of = (0, p1, vp_updL of (0 : Int32).toNatClampNeg v.toInt64) := by unfold F_h_most_1 F_most_1; rw [e2]; rfl
    have q2 : F_m_most_21 v p1 = (v, 0, p1) := by unfold F_m_most_21; rw [e1]; rfl
    rw [q1] at h1; rw [q2] at h2; cases h1; cases h2
    exact ⟨rfl, fun _ => updL0, rfl⟩
  · have q1 : F_h_most_1 v p1 of = (1, v, of) := by unfold F_h_most_1 F_most_1; rw [e2]; rfl
    have q2 : F_m_most_21 v p1 = (0, 1, v) := by unfold F_m_most_21; rw [e1]; rfl
    rw [q1] at h1; rw [q2] at h2; cases h1; cases h2
    exact ⟨rfl, fun h => absurd h (by decide), rfl⟩
theorem E_inspect_10 {v p1 : Int32} {of of1 : Nat → Int64} {k a r t w : Int32} (h1 : F_h_inspect_0 v p1 of = (k, a, of1)) (h2 : F_m_inspect_10 v p1 = (r, t, w)) :
    t = k ∧ (k = 0 → of1 (0 : Int32).toNatClampNeg = r.toInt64) ∧ w = a := by
  rcases rin p1 (-1) 2 with ⟨e1, e2, _, _⟩ | ⟨e1, e2⟩
  · have q1 : F_h_inspect_0 v p1 of = (0, p1, vp_updL of (0 : Int32).toNatClampNeg v.toInt64) := by unfold F_h_inspect_0 F_inspect_0; rw [e2]; rfl
    have q2 : F_m_inspect_10 v p1 = (v, 0, p1) := by unfold F_m_inspect_10; rw [e1]; rfl
    rw [q1] at h1; rw [q2] at h2; cases h1; cases h2
    exact ⟨rfl, fun _ => updL0, rfl⟩
  · have q1 : F_h_inspect_0 v p1 of = (1, v, of) := by unfold F_h_inspect_0 F_inspect_0; rw [e2]; rfl
    have q2 : F_m_inspect_10 v p1 = (0, 1, v) := by unfold F_m_inspect_10; rw [e1]; rfl
    rw [q1] at h1; rw [q2] at h2; cases h1; cases h2
    exact ⟨rfl, fun h => absurd h (by decide), rfl⟩
theorem E_inspect_20 {v p1 : Int32} {of of1 : Nat → Int64} {k a r t w : Int32} (h1 : F_h_inspect_0 v p1 of = (k, a, of1)) (h2 : F_m_inspect_20 v p1 = (r, t, w)) :
    t = k ∧ (k = 0 → of1 (0 : Int32).toNatClampNeg = r.toInt64) ∧ w = a := by
  rcases rin p1 (-1) 2 with ⟨e1, e2, _, _⟩ | ⟨e1, e2⟩
  · have q1 : F_h_inspect_0 v p1 of = (0, p1, vp_updL of (0 : Int32).toNatClampNeg v.toInt64) := by unfold F_h_inspect_0 F_inspect_0; rw [e2]; rfl
    have q2 : F_m_inspect_20 v p1 = (v, 0, p1) := by unfold F_m_inspect_20; rw [e1]; rfl
    rw [q1] at h1; rw [q2] at h2; cases h1; cases h2
    exact ⟨rfl, fun _ => updL0, rfl⟩
  · have q1 : F_h_inspect_0 v p1 of = (1, v, of) := by unfold F_h_inspect_0 F_inspect_0; rw [e2]; rfl
    have q2 : F_m_inspect_20 v p1 = (0, 1, v) := by unfold F_m_inspect_20; rw [e1]; rfl
    rw [q1] at h1; rw [q2] at h2; cases h1; cases h2
    exact ⟨rfl, fun h => absurd h (by decide), rfl⟩
theorem E_inspect_21 {v p1 : Int32} {of of1 : Nat → Int64} {k a r t w : Int32} (h1 : F_h_inspect_1 v p1 of = (k, a, of1)) (h2 : F_m_inspect_21 v p1 = (r, t, w)) :
    t = k ∧ (k = 0 → of1 (0 : Int32).toNatClampNeg = r.toInt64) ∧ w = a := by
  rcases rin p1 (-1) 2 with ⟨e1, e2, _, _⟩ | ⟨e1, e2⟩
  · have q1 : F_h_inspect_1 v p1 of = (0, p1, vp_updL of (0 : Int32).toNatClampNeg v.toInt64) := by unfold F_h_inspect_1 F_inspect_1; rw [e2]; rfl
    have q2 : F_m_inspect_21 v p1 = (v, 0, p1) := by unfold F_m_inspect_21; rw [e1]; rfl
    rw [q1] at h1; rw [q2] at h2; cases h1; cases h2
    exact ⟨rfl, fun _ => updL0, rfl⟩
  · have q1 : F_h_inspect_1 v p1 of = (1, v, of) := by unfold F_h_inspect_1 F_inspect_1; rw [e2]; rfl
    have q2 : F_m_inspect_21 v p1 = (0, 1, v) := by unfold F_m_inspect_21; rw [e1]; rfl
    rw [q1] at h1; rw [q2] at h2; cases h1; cases h2
    exact ⟨rfl, fun h => absurd h (by decide), rfl⟩
theorem E_slow_10 {place speed way V g b R I p1 p2 k a b1 t x y : Int32} (hk : kiI place speed way V g b R I) (h1 : F_h_slow_0 R I p1 p2 = (k, a, b1)) (h2 : F_m_slow_10 R I p1 p2 = (t, x, y)) :
    t = k ∧ x = a ∧ y = b1 ∧ kiI place speed way V g b a b1 := by
  have bad : F_h_slow_0 R I p1 p2 = (1, R, I) → F_m_slow_10 R I p1 p2 = (1, R, I) → t = k ∧ x = a ∧ y = b1 ∧ kiI place speed way V g b a b1 := by
    intro q1 q2
    rw [q1] at h1; rw [q2] at h2; cases h1; cases h2
    exact ⟨rfl, rfl, rfl, hk⟩
  rcases rin p1 1 2000 with ⟨e1, e2, a1, a2⟩ | ⟨e1, e2⟩
  · rcases rin p2 1 2000 with ⟨e3, e4, a3, a4⟩ | ⟨e3, e4⟩
    · have q1 : F_h_slow_0 R I p1 p2 = (0, p1, p2) := by unfold F_h_slow_0 F_slow_0; rw [e2, e4]; rfl
      have q2 : F_m_slow_10 R I p1 p2 = (0, p1, p2) := by unfold F_m_slow_10; rw [e1, e3]; rfl
      rw [q1] at h1; rw [q2] at h2; cases h1; cases h2
      obtain ⟨p, v, gn, bn, Vn, Rn, In, z1, z2, z3, z4, z5, z6, z7, hv, hg, hgb, hb, hV, hR, hI, hw, hz⟩ := hk
      obtain ⟨u1, _, hu1, rfl⟩ := rng (a := 1) (b := 2000) (by decide) (by decide) a1 a2
      obtain ⟨u2, _, hu2, rfl⟩ := rng (a := 1) (b := 2000) (by decide) (by decide) a3 a4
      exact ⟨rfl, rfl, rfl, p, v, gn, bn, Vn, u1, u2, z1, z2, z3, z4, z5, rfl, rfl, hv, hg, hgb, hb, hV, hu1, hu2, hw, hz⟩
    · exact bad (by unfold F_h_slow_0 F_slow_0; rw [e2, e4]; rfl) (by unfold F_m_slow_10; rw [e1, e3]; rfl)
  · exact bad (by unfold F_h_slow_0 F_slow_0; rw [e2]; rfl) (by unfold F_m_slow_10; rw [e1]; rfl)
theorem E_rates_10 {place speed way V g b R I p1 p2 p3 k a1 a2 a3 t x1 x2 x3 : Int32} (hk : kiI place speed way V g b R I) (h1 : F_h_rates_0 speed V g b p1 p2 p3 = (k, a1, a2, a3)) (h2 : F_m_rates_10 (way * speed) V g b p1 p2 p3 = (t, x1, x2, x3)) :
    t = k ∧ x1 = a1 ∧ x2 = a2 ∧ x3 = a3 ∧ kiI place speed way a1 a2 a3 R I := by
  have bad : ∀ z : Int32, F_h_rates_0 speed V g b p1 p2 p3 = (z, V, g, b) → F_m_rates_10 (way * speed) V g b p1 p2 p3 = (z, V, g, b) → t = k ∧ x1 = a1 ∧ x2 = a2 ∧ x3 = a3 ∧ kiI place speed way a1 a2 a3 R I := by
    intro z q1 q2
    rw [q1] at h1; rw [q2] at h2; cases h1; cases h2
    exact ⟨rfl, rfl, rfl, rfl, hk⟩
  rcases rin p1 1 2000 with ⟨e1, e2, b1, b2⟩ | ⟨e1, e2⟩
  · rcases rin p2 1 1000 with ⟨e3, e4, b3, b4⟩ | ⟨e3, e4⟩
    · rcases rin p3 1 1000 with ⟨e5, e6, b5, b6⟩ | ⟨e5, e6⟩
      · by_cases h : p2 ≤ p3
        · obtain ⟨p, v, gn, bn, Vn, Rn, In, z1, z2, z3, z4, z5, z6, z7, hv, hg, hgb, hb, hV, hR, hI, hw, hz⟩ := hk
          by_cases hs : speed = 0
          · have hs2 : way * speed = 0 := by rw [hs, Int32.mul_zero]
            have q1 : F_h_rates_0 speed V g b p1 p2 p3 = (0, p1, p2, p3) := by unfold F_h_rates_0 F_rates_0; rw [e2, e4, e6, if_pos h, if_pos hs]; rfl
            have q2 : F_m_rates_10 (way * speed) V g b p1 p2 p3 = (0, p1, p2, p3) := by unfold F_m_rates_10; rw [e1, e3, e5, if_neg (Int32.not_lt.mpr h), if_pos hs2]; rfl
            rw [q1] at h1; rw [q2] at h2; cases h1; cases h2
            obtain ⟨u1, _, hu1, rfl⟩ := rng (a := 1) (b := 2000) (by decide) (by decide) b1 b2
            obtain ⟨u2, hu20, hu2, rfl⟩ := rng (a := 1) (b := 1000) (by decide) (by decide) b3 b4
            obtain ⟨u3, _, hu3, rfl⟩ := rng (a := 1) (b := 1000) (by decide) (by decide) b5 b6
            have h23 : u2 ≤ u3 := (nI_leI (by omega) (by omega)).mp h
            have hv0 : v = 0 := by
              rw [z2] at hs
              exact (nI_eq (b := 0) (by omega) (by omega)).mp hs
            have hw0 : way = 0 := by
              rcases hw with ⟨_, q⟩ | ⟨q, _⟩ | ⟨q, _⟩
              · exact q
              · exact absurd hv0 q
              · exact absurd hv0 q
            refine ⟨rfl, rfl, rfl, rfl, p, v, u2, u3, u1, Rn, In, z1, z2, rfl, rfl, rfl, z6, z7, hv, hu20, h23, hu3, hu1, hR, hI, hw, hz.1, fun q => ?_, fun q => ?_⟩
            · rw [hw0] at q; exact absurd q (by decide)
            · rw [hw0] at q; exact absurd q (by decide)
          · have hs2 : ¬ way * speed = 0 := by rw [z2] at hs ⊢; exact fun q => hs ((sp0 hw hv).mp q)
            exact bad 2 (by unfold F_h_rates_0 F_rates_0; rw [e2, e4, e6, if_pos h, if_neg hs]; rfl) (by unfold F_m_rates_10; rw [e1, e3, e5, if_neg (Int32.not_lt.mpr h), if_neg hs2]; rfl)
        · exact bad 1 (by unfold F_h_rates_0 F_rates_0; rw [e2, e4, e6, if_neg h]; rfl) (by unfold F_m_rates_10; rw [e1, e3, e5, if_pos (Int32.not_le.mp h)]; rfl)
      · exact bad 1 (by unfold F_h_rates_0 F_rates_0; rw [e2, e4, e6]; rfl) (by unfold F_m_rates_10; rw [e1, e3, e5]; rfl)
    · exact bad 1 (by unfold F_h_rates_0 F_rates_0; rw [e2, e4]; rfl) (by unfold F_m_rates_10; rw [e1, e3]; rfl)
  · exact bad 1 (by unfold F_h_rates_0 F_rates_0; rw [e2]; rfl) (by unfold F_m_rates_10; rw [e1]; rfl)
theorem E_door_10 {ds dp dw dh p1 p2 k a b t x y : Int32} (hd : doI ds dp dw) (h1 : F_h_door_0 ds dw dh p1 p2 = (k, a, b)) (h2 : F_m_pdoor_10 ds dw dh p1 p2 = (t, x, y)) :
    t = k ∧ x = a ∧ y = b ∧ doI ds dp a := by
  have bad : ∀ z : Int32, F_h_door_0 ds dw dh p1 p2 = (z, dw, dh) → F_m_pdoor_10 ds dw dh p1 p2 = (z, dw, dh) → t = k ∧ x = a ∧ y = b ∧ doI ds dp a := by
    intro z q1 q2
    rw [q1] at h1; rw [q2] at h2; cases h1; cases h2
    exact ⟨rfl, rfl, rfl, hd⟩
  rcases rin p1 1 50 with ⟨e1, e2, a1, a2⟩ | ⟨e1, e2⟩
  · rcases rin p2 0 1000 with ⟨e3, e4, a3, a4⟩ | ⟨e3, e4⟩
    · by_cases h : ds = 0
      · have q1 : F_h_door_0 ds dw dh p1 p2 = (0, p1, p2) := by unfold F_h_door_0 F_door_0; rw [e2, e4, if_pos h]; rfl
        have q2 : F_m_pdoor_10 ds dw dh p1 p2 = (0, p1, p2) := by unfold F_m_pdoor_10; rw [e1, e3, if_pos h]; rfl
        rw [q1] at h1; rw [q2] at h2; cases h1; cases h2
        obtain ⟨z1, x, y, z2, z3, z4, z5, z6, z7⟩ := hd
        obtain ⟨u1, hu0, hu1, rfl⟩ := rng (a := 1) (b := 50) (by decide) (by decide) a1 a2
        exact ⟨rfl, rfl, rfl, z1, x, u1, z2, rfl, z4, hu0, hu1, z7⟩
      · exact bad 2 (by unfold F_h_door_0 F_door_0; rw [e2, e4, if_neg h]; rfl) (by unfold F_m_pdoor_10; rw [e1, e3, if_neg h]; rfl)
    · exact bad 1 (by unfold F_h_door_0 F_door_0; rw [e2, e4]; rfl) (by unfold F_m_pdoor_10; rw [e1, e3]; rfl)
  · exact bad 1 (by unfold F_h_door_0 F_door_0; rw [e2]; rfl) (by unfold F_m_pdoor_10; rw [e1]; rfl)
theorem E_go_10 {n : Nat} {cf mc cf1 mc1 : Nat → Int32} {cc p1 k a r t x : Int32} {of of1 : Nat → Int64} (hn1 : 1 ≤ n) (hn : n ≤ 20) (hc : caI n cc cf) (hr : caR 0 cf mc) (h1 : F_h_go_0 cc cf n p1 of = (k, a, cf1, of1)) (h2 : F_m_go_10 n mc cc p1 = (r, t, mc1, x)) :
    t = k ∧ (k = 0 → of1 (0 : Int32).toNatClampNeg = r.toInt64) ∧ x = a ∧ caI n a cf1 ∧ caR 0 cf1 mc1 ∧ (∀ k, (k < 0 ∨ 0 + 8 ≤ k) → mc1 k = mc k) := by
  have hc0 := hc
  obtain ⟨m, hm8, rfl, hg⟩ := hc
  rcases fin1 (n := n) p1 hn1 hn with ⟨e1, e2, e3⟩ | ⟨e1, e2⟩
  · by_cases h8 : m < 8
    · have a1 : F_append (nI m) cf p1 = (nI (m + 1), upd cf m p1) := by
        unfold F_append
        rw [if_neg (nI_pos (by omega)), if_neg (nI_ge h8 (by omega)), nI_1, nI_clamp (by omega)]
      have q1 : F_h_go_0 (nI m) cf n p1 of = (0, nI (m + 1), upd cf m p1, vp_updL of (0 : Int32).toNatClampNeg (nI (m + 1)).toInt64) := by
        unfold F_h_go_0 F_go_0
        simp only [cb]
        rw [e2, if_pos (show nI m < 8 from nI_lt (b := 8) h8 (by decide)), a1]; rfl
      have q2 : F_m_go_10 n mc (nI m) p1 = (nI (m + 1), 0, upd mc (0 + m) p1, nI (m + 1)) := by
        unfold F_m_go_10
        rw [e1, nI_1, show (0 : Int32) = nI 0 from rfl, nI_add, nI_clamp (by omega)]
        have e9 : ¬ (8 : Int32) ≤ nI m := nI_ge (b := 8) h8 (by decide)
        have e8 : ¬ nI 8 ≤ nI m := e9
        simp only [cb, if_neg e9, if_neg e8]; rfl
      rw [q1] at h1; rw [q2] at h2; cases h1; cases h2
      refine ⟨rfl, fun _ => updL0, rfl, ⟨m + 1, by omega, rfl, fun i hi => ?_⟩, fun i hi => ?_, fun i hi => ?_⟩
      · simp only [upd]
        by_cases e : i = m
        · rw [if_pos e]; exact e3
        · rw [if_neg e]; exact hg i (by omega)
      · simp only [upd]
        by_cases e : i = m
        · rw [if_pos (by omega), if_pos e]
        · rw [if_neg (by omega), if_neg e]; exact hr i hi
      · simp only [upd]
        rw [if_neg (by omega)]
    · have q1 : F_h_go_0 (nI m) cf n p1 of = (2, nI m, cf, of) := by
        unfold F_h_go_0 F_go_0
        simp only [cb]
        rw [e2, if_neg (show ¬ nI m < 8 from nI_nlt (b := 8) (by omega) (by omega))]; rfl
      have q2 : F_m_go_10 n mc (nI m) p1 = (0, 2, mc, nI m) := by
        unfold F_m_go_10
        rw [e1]
        have e9 : (8 : Int32) ≤ nI m := nI_le (a := 8) (by omega) (by omega)
        simp only [cb, if_pos e9]; rfl
      rw [q1] at h1; rw [q2] at h2; cases h1; cases h2
      exact ⟨rfl, fun h => absurd h (by decide), rfl, hc0, hr, fun _ _ => rfl⟩
  · have q1 : F_h_go_0 (nI m) cf n p1 of = (1, nI m, cf, of) := by
      unfold F_h_go_0 F_go_0
      simp only [cb]
      rw [e2]; rfl
    have q2 : F_m_go_10 n mc (nI m) p1 = (0, 1, mc, nI m) := by unfold F_m_go_10; rw [e1]; rfl
    rw [q1] at h1; rw [q2] at h2; cases h1; cases h2
    exact ⟨rfl, fun h => absurd h (by decide), rfl, hc0, hr, fun _ _ => rfl⟩
theorem E_fire_10 {n : Nat} {v p1 : Int32} {of of1 : Nat → Int64} {k a r t w : Int32} (hn1 : 1 ≤ n) (hn : n ≤ 20) (hf : fiI n v) (h1 : F_h_fire_0 v n p1 of = (k, a, of1)) (h2 : F_m_fire_10 n v p1 = (r, t, w)) :
    t = k ∧ (k = 0 → of1 (0 : Int32).toNatClampNeg = r.toInt64) ∧ w = a ∧ fiI n a := by
  have good : F_h_fire_0 v n p1 of = (0, p1, vp_updL of (0 : Int32).toNatClampNeg v.toInt64) → F_m_fire_10 n v p1 = (v, 0, p1) → fiI n p1 → t = k ∧ (k = 0 → of1 (0 : Int32).toNatClampNeg = r.toInt64) ∧ w = a ∧ fiI n a := by
    intro q1 q2 h
    rw [q1] at h1; rw [q2] at h2; cases h1; cases h2
    exact ⟨rfl, fun _ => updL0, rfl, h⟩
  have ht := topF n hn1
  by_cases hm : p1 = -1
  · subst hm
    have er : F_refuseOutside (-1) (-1) (F_topFloor n) = .inr () := by
      unfold F_refuseOutside
      rw [if_neg (by decide), if_pos]
      rw [ht, Int32.le_iff_toInt_le, nI_toInt (by omega), m1_toInt]; omega
    refine good ?_ ?_ (Or.inl rfl)
    · unfold F_h_fire_0 F_fire_0
      simp only [cb]
      rw [er]; rfl
    · unfold F_m_fire_10
      rw [if_pos rfl]; rfl
  · rcases fin1 (n := n) p1 hn1 hn with ⟨e1, e2, e3⟩ | ⟨e1, e2⟩
    · have er : F_refuseOutside p1 (-1) (F_topFloor n) = .inr () := by
        obtain ⟨f, hf1, rfl⟩ := e3
        unfold F_refuseOutside
        rw [ht, if_neg, if_pos (nI_le (by omega) (by omega))]
        rw [Int32.lt_iff_toInt_lt, nI_toInt (by omega), m1_toInt]; omega
      refine good ?_ ?_ (Or.inr e3)
      · unfold F_h_fire_0 F_fire_0
        simp only [cb]
        rw [er]; rfl
      · unfold F_m_fire_10
        rw [if_neg hm, e1]; rfl
    · have er : F_refuseOutside p1 (-1) (F_topFloor n) = .inl 1 := by
        unfold F_refuseOutside at e2 ⊢
        by_cases z1 : p1 < 0
        · rw [if_pos]
          rw [Int32.lt_iff_toInt_lt, m1_toInt]
          rw [Int32.lt_iff_toInt_lt, z_toInt] at z1
          have z2 : ¬ p1.toInt = -1 := fun e => hm (Int32.toInt_inj.mp (by rw [e]; exact m1_toInt.symm))
          omega
        · rw [if_neg z1] at e2
          rw [if_neg]
          · exact e2
          · rw [Int32.lt_iff_toInt_lt, m1_toInt]
            rw [Int32.lt_iff_toInt_lt, z_toInt] at z1
            omega
      have q1 : F_h_fire_0 v n p1 of = (1, v, of) := by
        unfold F_h_fire_0 F_fire_0
        simp only [cb]
        rw [er]; rfl
      have q2 : F_m_fire_10 n v p1 = (0, 1, v) := by
        unfold F_m_fire_10
        rw [if_neg hm, e1]; rfl
      rw [q1] at h1; rw [q2] at h2; cases h1; cases h2
      exact ⟨rfl, fun h => absurd h (by decide), rfl, hf⟩
theorem E_close_10 {ki mk ds db dp dw : Int32} {of of1 : Nat → Int64} {k a r w : Int32} (hd : doI ds dp dw) (h1 : F_h_close_0 ki mk ds db of = (k, a, of1)) (h2 : F_m_close_10 ds ki mk db = (r, w)) :
    0 = k ∧ ((r = 0 → of1 (0 : Int32).toNatClampNeg = 0) ∧ (¬ r = 0 → of1 (0 : Int32).toNatClampNeg = 1)) ∧ w = a ∧ doI a dp dw := by
  have bad : F_h_close_0 ki mk ds db of = (0, ds, vp_updL of (0 : Int32).toNatClampNeg 0) → F_m_close_10 ds ki mk db = (0, ds) → 0 = k ∧ ((r = 0 → of1 (0 : Int32).toNatClampNeg = 0) ∧ (¬ r = 0 → of1 (0 : Int32).toNatClampNeg = 1)) ∧ w = a ∧ doI a dp dw := by
    intro q1 q2
    rw [q1] at h1; rw [q2] at h2; cases h1; cases h2
    exact ⟨rfl, ⟨fun _ => updL0, fun h => absurd rfl h⟩, rfl, hd⟩
  by_cases c1 : ds = 2
  · by_cases c2 : db = 0
    · by_cases c3 : ki ≤ mk
      · have o1 : F_isOverloaded ki mk = 0 := by unfold F_isOverloaded; rw [if_pos c3]
        have q1 : F_h_close_0 ki mk ds db of = (0, 3, vp_updL of (0 : Int32).toNatClampNeg 1) := by unfold F_h_close_0 F_close_0; rw [if_pos c1, if_pos c2, o1]; rfl
        have q2 : F_m_close_10 ds ki mk db = (1, 3) := by unfold F_m_close_10; rw [if_pos c1, if_pos c2, if_pos c3]; rfl
        rw [q1] at h1; rw [q2] at h2; cases h1; cases h2
        obtain ⟨z1, x, y, z2, z3, z4, z5, z6, z7⟩ := hd
        exact ⟨rfl, ⟨fun h => absurd h (by decide), fun _ => updL0⟩, rfl, Or.inr (Or.inr (Or.inr rfl)), x, y, z2, z3, z4, z5, z6, fun _ => z7 (Or.inl c1)⟩
      · have o1 : F_isOverloaded ki mk = 1 := by unfold F_isOverloaded; rw [if_neg c3]
        exact bad (by unfold F_h_close_0 F_close_0; rw [if_pos c1, if_pos c2, o1]; rfl) (by unfold F_m_close_10; rw [if_pos c1, if_pos c2, if_neg c3]; rfl)
    · exact bad (by unfold F_h_close_0 F_close_0; rw [if_pos c1, if_neg c2]; rfl) (by unfold F_m_close_10; rw [if_pos c1, if_neg c2]; rfl)
  · exact bad (by unfold F_h_close_0 F_close_0; rw [if_neg c1]; rfl) (by unfold F_m_close_10; rw [if_neg c1]; rfl)
theorem E_beam_10 {db : Int32} {of of1 : Nat → Int64} {k r : Int32} (h1 : F_h_beam_0 db of = (k, of1)) (h2 : F_m_beam_10 db = r) :
    0 = k ∧ ((r = 0 → of1 (0 : Int32).toNatClampNeg = 0) ∧ (¬ r = 0 → of1 (0 : Int32).toNatClampNeg = 1)) := by
  have q2 : db = r := h2
  subst q2
  by_cases c1 : db = 0
  · have q1 : F_h_beam_0 db of = (0, vp_updL of (0 : Int32).toNatClampNeg 0) := by unfold F_h_beam_0 F_beam_0; subst c1; rfl
    rw [q1] at h1; cases h1
    exact ⟨rfl, fun _ => updL0, fun h => absurd c1 h⟩
  · have q1 : F_h_beam_0 db of = (0, vp_updL of (0 : Int32).toNatClampNeg 1) := by
      have e : F_h_beam_0 db of = (if db = 0 then (0, vp_updL of (0 : Int32).toNatClampNeg 0) else (0, vp_updL of (0 : Int32).toNatClampNeg 1)) := rfl
      rw [e, if_neg c1]
    rw [q1] at h1; cases h1
    exact ⟨rfl, fun h => absurd h c1, fun _ => updL0⟩
theorem E_open_10 {n : Nat} {pf mh : Nat → Int32} {place speed way V g b R I ds dp dw ob oc : Int32} {of of1 : Nat → Int64} {k a1 a2 a3 r t x1 x2 x3 : Int32} (hs : shI n pf) (hr : shR n pf mh) (hk : kiI place speed way V g b R I) (hd : doI ds dp dw)
    (h1 : F_h_open_0 place speed ds ob oc n pf of = (k, a1, a2, a3, of1)) (h2 : F_m_open_10 n mh place (way * speed) ds ob oc = (r, t, x1, x2, x3)) :
    t = k ∧ (k = 0 → (r = 0 → of1 (0 : Int32).toNatClampNeg = 0) ∧ (¬ r = 0 → of1 (0 : Int32).toNatClampNeg = 1)) ∧ x1 = a1 ∧ x2 = a2 ∧ x3 = a3 ∧ doI a1 dp dw := by
  have bad : F_h_open_0 place speed ds ob oc n pf of = (2, ds, ob, oc, of) → F_m_open_10 n mh place (way * speed) ds ob oc = (0, 2, ds, ob, oc) → t = k ∧ (k = 0 → (r = 0 → of1 (0 : Int32).toNatClampNeg = 0) ∧ (¬ r = 0 → of1 (0 : Int32).toNatClampNeg = 1)) ∧ x1 = a1 ∧ x2 = a2 ∧ x3 = a3 ∧ doI a1 dp dw := by
    intro q1 q2
    rw [q1] at h1; rw [q2] at h2; cases h1; cases h2
    exact ⟨rfl, fun h => absurd h (by decide), rfl, rfl, rfl, hd⟩
  have hfl := floorAt_eq (p0 := place) hs hr
  obtain ⟨p, v, gn, bn, Vn, Rn, In, z1, z2, z3, z4, z5, z6, z7, hv, hg, hgb, hb, hV, hR, hI, hw, hz⟩ := hk
  by_cases h0 : speed = 0
  · have hs2 : way * speed = 0 := by rw [h0, Int32.mul_zero]
    by_cases hfa : F_floorAt n pf place = -1
    · exact bad (by unfold F_h_open_0 F_open_0; rw [if_pos h0, hfa]; rfl) (by unfold F_m_open_10; rw [if_pos hs2, hfl, hfa]; rfl)
    · have q1 : F_h_open_0 place speed ds ob oc n pf of = cb (F_turnToOpening ds ob oc) (fun (r_6, x_7, x_8, x_9) => if r_6 = 0 then (0, x_7, x_8, x_9, vp_updL of (0 : Int32).toNatClampNeg 0) else (0, x_7, x_8, x_9, vp_updL of (0 : Int32).toNatClampNeg 1)) := by
        unfold F_h_open_0 F_open_0
        simp only [cb]
        rw [if_pos h0, if_neg hfa]; rfl
      have q2 : F_m_open_10 n mh place (way * speed) ds ob oc = (if ds = 1 then (0, 0, ds, ob, oc) else if ds = 2 then (0, 0, ds, ob, oc) else if ds = 0 then (1, 0, 1, ob + 1, oc) else (1, 0, 1, ob, oc + 1)) := by
        unfold F_m_open_10
        simp only [cb]
        rw [if_pos hs2, hfl, if_neg hfa]
      rw [q1] at h1; rw [q2] at h2
      obtain ⟨y1, x, y, y2, y3, y4, y5, y6, y7⟩ := hd
      have hd1 : doI 1 dp dw := ⟨Or.inr (Or.inl rfl), x, y, y2, y3, y4, y5, y6, fun q => absurd q q123⟩
      rcases y1 with rfl | rfl | rfl | rfl
      · have h1 : (0, 1, ob + 1, oc, vp_updL of (0 : Int32).toNatClampNeg 1) = (k, a1, a2, a3, of1) := h1
        have h2 : (1, 0, 1, ob + 1, oc) = (r, t, x1, x2, x3) := h2
        cases h1; cases h2
        exact ⟨rfl, fun _ => ⟨fun h => absurd h (by decide), fun _ => updL0⟩, rfl, rfl, rfl, hd1⟩
      · have h1 : (0, 1, ob, oc, vp_updL of (0 : Int32).toNatClampNeg 0) = (k, a1, a2, a3, of1) := h1
        have h2 : (0, 0, 1, ob, oc) = (r, t, x1, x2, x3) := h2
        cases h1; cases h2
        exact ⟨rfl, fun _ => ⟨fun _ => updL0, fun h => absurd rfl h⟩, rfl, rfl, rfl, hd1⟩
      · have h1 : (0, 2, ob, oc, vp_updL of (0 : Int32).toNatClampNeg 0) = (k, a1, a2, a3, of1) := h1
        have h2 : (0, 0, 2, ob, oc) = (r, t, x1, x2, x3) := h2
        cases h1; cases h2
        exact ⟨rfl, fun _ => ⟨fun _ => updL0, fun h => absurd rfl h⟩, rfl, rfl, rfl, ⟨Or.inr (Or.inr (Or.inl rfl)), x, y, y2, y3, y4, y5, y6, y7⟩⟩
      · have h1 : (0, 1, ob, oc + 1, vp_updL of (0 : Int32).toNatClampNeg 1) = (k, a1, a2, a3, of1) := h1
        have h2 : (1, 0, 1, ob, oc + 1) = (r, t, x1, x2, x3) := h2
        cases h1; cases h2
        exact ⟨rfl, fun _ => ⟨fun h => absurd h (by decide), fun _ => updL0⟩, rfl, rfl, rfl, hd1⟩
  · have hs2 : ¬ way * speed = 0 := by rw [z2] at h0 ⊢; exact fun q => h0 ((sp0 hw hv).mp q)
    exact bad (by unfold F_h_open_0 F_open_0; rw [if_neg h0]; rfl) (by unfold F_m_open_10; rw [if_neg hs2]; rfl)
theorem E_slow_20 {place speed way V g b R I p1 p2 k a b1 t x y : Int32} (hk : kiI place speed way V g b R I) (h1 : F_h_slow_0 R I p1 p2 = (k, a, b1)) (h2 : F_m_slow_20 R I p1 p2 = (t, x, y)) :
    t = k ∧ x = a ∧ y = b1 ∧ kiI place speed way V g b a b1 := by
  have bad : F_h_slow_0 R I p1 p2 = (1, R, I) → F_m_slow_20 R I p1 p2 = (1, R, I) → t = k ∧ x = a ∧ y = b1 ∧ kiI place speed way V g b a b1 := by
    intro q1 q2
    rw [q1] at h1; rw [q2] at h2; cases h1; cases h2
    exact ⟨rfl, rfl, rfl, hk⟩
  rcases rin p1 1 2000 with ⟨e1, e2, a1, a2⟩ | ⟨e1, e2⟩
  · rcases rin p2 1 2000 with ⟨e3, e4, a3, a4⟩ | ⟨e3, e4⟩
    · have q1 : F_h_slow_0 R I p1 p2 = (0, p1, p2) := by unfold F_h_slow_0 F_slow_0; rw [e2, e4]; rfl
      have q2 : F_m_slow_20 R I p1 p2 = (0, p1, p2) := by unfold F_m_slow_20; rw [e1, e3]; rfl
      rw [q1] at h1; rw [q2] at h2; cases h1; cases h2
      obtain ⟨p, v, gn, bn, Vn, Rn, In, z1, z2, z3, z4, z5, z6, z7, hv, hg, hgb, hb, hV, hR, hI, hw, hz⟩ := hk
      obtain ⟨u1, _, hu1, rfl⟩ := rng (a := 1) (b := 2000) (by decide) (by decide) a1 a2
      obtain ⟨u2, _, hu2, rfl⟩ := rng (a := 1) (b := 2000) (by decide) (by decide) a3 a4
      exact ⟨rfl, rfl, rfl, p, v, gn, bn, Vn, u1, u2, z1, z2, z3, z4, z5, rfl, rfl, hv, hg, hgb, hb, hV, hu1, hu2, hw, hz⟩
    · exact bad (by unfold F_h_slow_0 F_slow_0; rw [e2, e4]; rfl) (by unfold F_m_slow_20; rw [e1, e3]; rfl)
  · exact bad (by unfold F_h_slow_0 F_slow_0; rw [e2]; rfl) (by unfold F_m_slow_20; rw [e1]; rfl)
theorem E_rates_20 {place speed way V g b R I p1 p2 p3 k a1 a2 a3 t x1 x2 x3 : Int32} (hk : kiI place speed way V g b R I) (h1 : F_h_rates_0 speed V g b p1 p2 p3 = (k, a1, a2, a3)) (h2 : F_m_rates_20 (way * speed) V g b p1 p2 p3 = (t, x1, x2, x3)) :
    t = k ∧ x1 = a1 ∧ x2 = a2 ∧ x3 = a3 ∧ kiI place speed way a1 a2 a3 R I := by
  have bad : ∀ z : Int32, F_h_rates_0 speed V g b p1 p2 p3 = (z, V, g, b) → F_m_rates_20 (way * speed) V g b p1 p2 p3 = (z, V, g, b) → t = k ∧ x1 = a1 ∧ x2 = a2 ∧ x3 = a3 ∧ kiI place speed way a1 a2 a3 R I := by
    intro z q1 q2
    rw [q1] at h1; rw [q2] at h2; cases h1; cases h2
    exact ⟨rfl, rfl, rfl, rfl, hk⟩
  rcases rin p1 1 2000 with ⟨e1, e2, b1, b2⟩ | ⟨e1, e2⟩
  · rcases rin p2 1 1000 with ⟨e3, e4, b3, b4⟩ | ⟨e3, e4⟩
    · rcases rin p3 1 1000 with ⟨e5, e6, b5, b6⟩ | ⟨e5, e6⟩
      · by_cases h : p2 ≤ p3
        · obtain ⟨p, v, gn, bn, Vn, Rn, In, z1, z2, z3, z4, z5, z6, z7, hv, hg, hgb, hb, hV, hR, hI, hw, hz⟩ := hk
          by_cases hs : speed = 0
          · have hs2 : way * speed = 0 := by rw [hs, Int32.mul_zero]
            have q1 : F_h_rates_0 speed V g b p1 p2 p3 = (0, p1, p2, p3) := by unfold F_h_rates_0 F_rates_0; rw [e2, e4, e6, if_pos h, if_pos hs]; rfl
            have q2 : F_m_rates_20 (way * speed) V g b p1 p2 p3 = (0, p1, p2, p3) := by unfold F_m_rates_20; rw [e1, e3, e5, if_neg (Int32.not_lt.mpr h), if_pos hs2]; rfl
            rw [q1] at h1; rw [q2] at h2; cases h1; cases h2
            obtain ⟨u1, _, hu1, rfl⟩ := rng (a := 1) (b := 2000) (by decide) (by decide) b1 b2
            obtain ⟨u2, hu20, hu2, rfl⟩ := rng (a := 1) (b := 1000) (by decide) (by decide) b3 b4
            obtain ⟨u3, _, hu3, rfl⟩ := rng (a := 1) (b := 1000) (by decide) (by decide) b5 b6
            have h23 : u2 ≤ u3 := (nI_leI (by omega) (by omega)).mp h
            have hv0 : v = 0 := by
              rw [z2] at hs
              exact (nI_eq (b := 0) (by omega) (by omega)).mp hs
            have hw0 : way = 0 := by
              rcases hw with ⟨_, q⟩ | ⟨q, _⟩ | ⟨q, _⟩
              · exact q
              · exact absurd hv0 q
              · exact absurd hv0 q
            refine ⟨rfl, rfl, rfl, rfl, p, v, u2, u3, u1, Rn, In, z1, z2, rfl, rfl, rfl, z6, z7, hv, hu20, h23, hu3, hu1, hR, hI, hw, hz.1, fun q => ?_, fun q => ?_⟩
            · rw [hw0] at q; exact absurd q (by decide)
            · rw [hw0] at q; exact absurd q (by decide)
          · have hs2 : ¬ way * speed = 0 := by rw [z2] at hs ⊢; exact fun q => hs ((sp0 hw hv).mp q)
            exact bad 2 (by unfold F_h_rates_0 F_rates_0; rw [e2, e4, e6, if_pos h, if_neg hs]; rfl) (by unfold F_m_rates_20; rw [e1, e3, e5, if_neg (Int32.not_lt.mpr h), if_neg hs2]; rfl)
        · exact bad 1 (by unfold F_h_rates_0 F_rates_0; rw [e2, e4, e6, if_neg h]; rfl) (by unfold F_m_rates_20; rw [e1, e3, e5, if_pos (Int32.not_le.mp h)]; rfl)
      · exact bad 1 (by unfold F_h_rates_0 F_rates_0; rw [e2, e4, e6]; rfl) (by unfold F_m_rates_20; rw [e1, e3, e5]; rfl)
    · exact bad 1 (by unfold F_h_rates_0 F_rates_0; rw [e2, e4]; rfl) (by unfold F_m_rates_20; rw [e1, e3]; rfl)
  · exact bad 1 (by unfold F_h_rates_0 F_rates_0; rw [e2]; rfl) (by unfold F_m_rates_20; rw [e1]; rfl)
theorem E_door_20 {ds dp dw dh p1 p2 k a b t x y : Int32} (hd : doI ds dp dw) (h1 : F_h_door_0 ds dw dh p1 p2 = (k, a, b)) (h2 : F_m_pdoor_20 ds dw dh p1 p2 = (t, x, y)) :
    t = k ∧ x = a ∧ y = b ∧ doI ds dp a := by
  have bad : ∀ z : Int32, F_h_door_0 ds dw dh p1 p2 = (z, dw, dh) → F_m_pdoor_20 ds dw dh p1 p2 = (z, dw, dh) → t = k ∧ x = a ∧ y = b ∧ doI ds dp a := by
    intro z q1 q2
    rw [q1] at h1; rw [q2] at h2; cases h1; cases h2
    exact ⟨rfl, rfl, rfl, hd⟩
  rcases rin p1 1 50 with ⟨e1, e2, a1, a2⟩ | ⟨e1, e2⟩
  · rcases rin p2 0 1000 with ⟨e3, e4, a3, a4⟩ | ⟨e3, e4⟩
    · by_cases h : ds = 0
      · have q1 : F_h_door_0 ds dw dh p1 p2 = (0, p1, p2) := by unfold F_h_door_0 F_door_0; rw [e2, e4, if_pos h]; rfl
        have q2 : F_m_pdoor_20 ds dw dh p1 p2 = (0, p1, p2) := by unfold F_m_pdoor_20; rw [e1, e3, if_pos h]; rfl
        rw [q1] at h1; rw [q2] at h2; cases h1; cases h2
        obtain ⟨z1, x, y, z2, z3, z4, z5, z6, z7⟩ := hd
        obtain ⟨u1, hu0, hu1, rfl⟩ := rng (a := 1) (b := 50) (by decide) (by decide) a1 a2
        exact ⟨rfl, rfl, rfl, z1, x, u1, z2, rfl, z4, hu0, hu1, z7⟩
      · exact bad 2 (by unfold F_h_door_0 F_door_0; rw [e2, e4, if_neg h]; rfl) (by unfold F_m_pdoor_20; rw [e1, e3, if_neg h]; rfl)
    · exact bad 1 (by unfold F_h_door_0 F_door_0; rw [e2, e4]; rfl) (by unfold F_m_pdoor_20; rw [e1, e3]; rfl)
  · exact bad 1 (by unfold F_h_door_0 F_door_0; rw [e2]; rfl) (by unfold F_m_pdoor_20; rw [e1]; rfl)
theorem E_go_20 {n : Nat} {cf mc cf1 mc1 : Nat → Int32} {cc p1 k a r t x : Int32} {of of1 : Nat → Int64} (hn1 : 1 ≤ n) (hn : n ≤ 20) (hc : caI n cc cf) (hr : caR 0 cf mc) (h1 : F_h_go_0 cc cf n p1 of = (k, a, cf1, of1)) (h2 : F_m_go_20 n mc cc p1 = (r, t, mc1, x)) :
    t = k ∧ (k = 0 → of1 (0 : Int32).toNatClampNeg = r.toInt64) ∧ x = a ∧ caI n a cf1 ∧ caR 0 cf1 mc1 ∧ (∀ k, (k < 0 ∨ 0 + 8 ≤ k) → mc1 k = mc k) := by
  have hc0 := hc
  obtain ⟨m, hm8, rfl, hg⟩ := hc
  rcases fin1 (n := n) p1 hn1 hn with ⟨e1, e2, e3⟩ | ⟨e1, e2⟩
  · by_cases h8 : m < 8
    · have a1 : F_append (nI m) cf p1 = (nI (m + 1), upd cf m p1) := by
        unfold F_append
        rw [if_neg (nI_pos (by omega)), if_neg (nI_ge h8 (by omega)), nI_1, nI_clamp (by omega)]
      have q1 : F_h_go_0 (nI m) cf n p1 of = (0, nI (m + 1), upd cf m p1, vp_updL of (0 : Int32).toNatClampNeg (nI (m + 1)).toInt64) := by
        unfold F_h_go_0 F_go_0
        simp only [cb]
        rw [e2, if_pos (show nI m < 8 from nI_lt (b := 8) h8 (by decide)), a1]; rfl
      have q2 : F_m_go_20 n mc (nI m) p1 = (nI (m + 1), 0, upd mc (0 + m) p1, nI (m + 1)) := by
        unfold F_m_go_20
        rw [e1, nI_1, show (0 : Int32) = nI 0 from rfl, nI_add, nI_clamp (by omega)]
        have e9 : ¬ (8 : Int32) ≤ nI m := nI_ge (b := 8) h8 (by decide)
        have e8 : ¬ nI 8 ≤ nI m := e9
        simp only [cb, if_neg e9, if_neg e8]; rfl
      rw [q1] at h1; rw [q2] at h2; cases h1; cases h2
      refine ⟨rfl, fun _ => updL0, rfl, ⟨m + 1, by omega, rfl, fun i hi => ?_⟩, fun i hi => ?_, fun i hi => ?_⟩
      · simp only [upd]
        by_cases e : i = m
        · rw [if_pos e]; exact e3
        · rw [if_neg e]; exact hg i (by omega)
      · simp only [upd]
        by_cases e : i = m
        · rw [if_pos (by omega), if_pos e]
        · rw [if_neg (by omega), if_neg e]; exact hr i hi
      · simp only [upd]
        rw [if_neg (by omega)]
    · have q1 : F_h_go_0 (nI m) cf n p1 of = (2, nI m, cf, of) := by
        unfold F_h_go_0 F_go_0
        simp only [cb]
        rw [e2, if_neg (show ¬ nI m < 8 from nI_nlt (b := 8) (by omega) (by omega))]; rfl
      have q2 : F_m_go_20 n mc (nI m) p1 = (0, 2, mc, nI m) := by
        unfold F_m_go_20
        rw [e1]
        have e9 : (8 : Int32) ≤ nI m := nI_le (a := 8) (by omega) (by omega)
        simp only [cb, if_pos e9]; rfl
      rw [q1] at h1; rw [q2] at h2; cases h1; cases h2
      exact ⟨rfl, fun h => absurd h (by decide), rfl, hc0, hr, fun _ _ => rfl⟩
  · have q1 : F_h_go_0 (nI m) cf n p1 of = (1, nI m, cf, of) := by
      unfold F_h_go_0 F_go_0
      simp only [cb]
      rw [e2]; rfl
    have q2 : F_m_go_20 n mc (nI m) p1 = (0, 1, mc, nI m) := by unfold F_m_go_20; rw [e1]; rfl
    rw [q1] at h1; rw [q2] at h2; cases h1; cases h2
    exact ⟨rfl, fun h => absurd h (by decide), rfl, hc0, hr, fun _ _ => rfl⟩
theorem E_fire_20 {n : Nat} {v p1 : Int32} {of of1 : Nat → Int64} {k a r t w : Int32} (hn1 : 1 ≤ n) (hn : n ≤ 20) (hf : fiI n v) (h1 : F_h_fire_0 v n p1 of = (k, a, of1)) (h2 : F_m_fire_20 n v p1 = (r, t, w)) :
    t = k ∧ (k = 0 → of1 (0 : Int32).toNatClampNeg = r.toInt64) ∧ w = a ∧ fiI n a := by
  have good : F_h_fire_0 v n p1 of = (0, p1, vp_updL of (0 : Int32).toNatClampNeg v.toInt64) → F_m_fire_20 n v p1 = (v, 0, p1) → fiI n p1 → t = k ∧ (k = 0 → of1 (0 : Int32).toNatClampNeg = r.toInt64) ∧ w = a ∧ fiI n a := by
    intro q1 q2 h
    rw [q1] at h1; rw [q2] at h2; cases h1; cases h2
    exact ⟨rfl, fun _ => updL0, rfl, h⟩
  have ht := topF n hn1
  by_cases hm : p1 = -1
  · subst hm
    have er : F_refuseOutside (-1) (-1) (F_topFloor n) = .inr () := by
      unfold F_refuseOutside
      rw [if_neg (by decide), if_pos]
      rw [ht, Int32.le_iff_toInt_le, nI_toInt (by omega), m1_toInt]; omega
    refine good ?_ ?_ (Or.inl rfl)
    · unfold F_h_fire_0 F_fire_0
      simp only [cb]
      rw [er]; rfl
    · unfold F_m_fire_20
      rw [if_pos rfl]; rfl
  · rcases fin1 (n := n) p1 hn1 hn with ⟨e1, e2, e3⟩ | ⟨e1, e2⟩
    · have er : F_refuseOutside p1 (-1) (F_topFloor n) = .inr () := by
        obtain ⟨f, hf1, rfl⟩ := e3
        unfold F_refuseOutside
        rw [ht, if_neg, if_pos (nI_le (by omega) (by omega))]
        rw [Int32.lt_iff_toInt_lt, nI_toInt (by omega), m1_toInt]; omega
      refine good ?_ ?_ (Or.inr e3)
      · unfold F_h_fire_0 F_fire_0
        simp only [cb]
        rw [er]; rfl
      · unfold F_m_fire_20
        rw [if_neg hm, e1]; rfl
    · have er : F_refuseOutside p1 (-1) (F_topFloor n) = .inl 1 := by
        unfold F_refuseOutside at e2 ⊢
        by_cases z1 : p1 < 0
        · rw [if_pos]
          rw [Int32.lt_iff_toInt_lt, m1_toInt]
          rw [Int32.lt_iff_toInt_lt, z_toInt] at z1
          have z2 : ¬ p1.toInt = -1 := fun e => hm (Int32.toInt_inj.mp (by rw [e]; exact m1_toInt.symm))
          omega
        · rw [if_neg z1] at e2
          rw [if_neg]
          · exact e2
          · rw [Int32.lt_iff_toInt_lt, m1_toInt]
            rw [Int32.lt_iff_toInt_lt, z_toInt] at z1
            omega
      have q1 : F_h_fire_0 v n p1 of = (1, v, of) := by
        unfold F_h_fire_0 F_fire_0
        simp only [cb]
        rw [er]; rfl
      have q2 : F_m_fire_20 n v p1 = (0, 1, v) := by
        unfold F_m_fire_20
        rw [if_neg hm, e1]; rfl
      rw [q1] at h1; rw [q2] at h2; cases h1; cases h2
      exact ⟨rfl, fun h => absurd h (by decide), rfl, hf⟩
theorem E_close_20 {ki mk ds db dp dw : Int32} {of of1 : Nat → Int64} {k a r w : Int32} (hd : doI ds dp dw) (h1 : F_h_close_0 ki mk ds db of = (k, a, of1)) (h2 : F_m_close_20 ds ki mk db = (r, w)) :
    0 = k ∧ ((r = 0 → of1 (0 : Int32).toNatClampNeg = 0) ∧ (¬ r = 0 → of1 (0 : Int32).toNatClampNeg = 1)) ∧ w = a ∧ doI a dp dw := by
  have bad : F_h_close_0 ki mk ds db of = (0, ds, vp_updL of (0 : Int32).toNatClampNeg 0) → F_m_close_20 ds ki mk db = (0, ds) → 0 = k ∧ ((r = 0 → of1 (0 : Int32).toNatClampNeg = 0) ∧ (¬ r = 0 → of1 (0 : Int32).toNatClampNeg = 1)) ∧ w = a ∧ doI a dp dw := by
    intro q1 q2
    rw [q1] at h1; rw [q2] at h2; cases h1; cases h2
    exact ⟨rfl, ⟨fun _ => updL0, fun h => absurd rfl h⟩, rfl, hd⟩
  by_cases c1 : ds = 2
  · by_cases c2 : db = 0
    · by_cases c3 : ki ≤ mk
      · have o1 : F_isOverloaded ki mk = 0 := by unfold F_isOverloaded; rw [if_pos c3]
        have q1 : F_h_close_0 ki mk ds db of = (0, 3, vp_updL of (0 : Int32).toNatClampNeg 1) := by unfold F_h_close_0 F_close_0; rw [if_pos c1, if_pos c2, o1]; rfl
        have q2 : F_m_close_20 ds ki mk db = (1, 3) := by unfold F_m_close_20; rw [if_pos c1, if_pos c2, if_pos c3]; rfl
        rw [q1] at h1; rw [q2] at h2; cases h1; cases h2
        obtain ⟨z1, x, y, z2, z3, z4, z5, z6, z7⟩ := hd
        exact ⟨rfl, ⟨fun h => absurd h (by decide), fun _ => updL0⟩, rfl, Or.inr (Or.inr (Or.inr rfl)), x, y, z2, z3, z4, z5, z6, fun _ => z7 (Or.inl c1)⟩
      · have o1 : F_isOverloaded ki mk = 1 := by unfold F_isOverloaded; rw [if_neg c3]
        exact bad (by unfold F_h_close_0 F_close_0; rw [if_pos c1, if_pos c2, o1]; rfl) (by unfold F_m_close_20; rw [if_pos c1, if_pos c2, if_neg c3]; rfl)
    · exact bad (by unfold F_h_close_0 F_close_0; rw [if_pos c1, if_neg c2]; rfl) (by unfold F_m_close_20; rw [if_pos c1, if_neg c2]; rfl)
  · exact bad (by unfold F_h_close_0 F_close_0; rw [if_neg c1]; rfl) (by unfold F_m_close_20; rw [if_neg c1]; rfl)
theorem E_beam_20 {db : Int32} {of of1 : Nat → Int64} {k r : Int32} (h1 : F_h_beam_0 db of = (k, of1)) (h2 : F_m_beam_20 db = r) :
    0 = k ∧ ((r = 0 → of1 (0 : Int32).toNatClampNeg = 0) ∧ (¬ r = 0 → of1 (0 : Int32).toNatClampNeg = 1)) := by
  have q2 : db = r := h2
  subst q2
  by_cases c1 : db = 0
  · have q1 : F_h_beam_0 db of = (0, vp_updL of (0 : Int32).toNatClampNeg 0) := by unfold F_h_beam_0 F_beam_0; subst c1; rfl
    rw [q1] at h1; cases h1
    exact ⟨rfl, fun _ => updL0, fun h => absurd c1 h⟩
  · have q1 : F_h_beam_0 db of = (0, vp_updL of (0 : Int32).toNatClampNeg 1) := by
      have e : F_h_beam_0 db of = (if db = 0 then (0, vp_updL of (0 : Int32).toNatClampNeg 0) else (0, vp_updL of (0 : Int32).toNatClampNeg 1)) := rfl
      rw [e, if_neg c1]
    rw [q1] at h1; cases h1
    exact ⟨rfl, fun h => absurd h c1, fun _ => updL0⟩
theorem E_open_20 {n : Nat} {pf mh : Nat → Int32} {place speed way V g b R I ds dp dw ob oc : Int32} {of of1 : Nat → Int64} {k a1 a2 a3 r t x1 x2 x3 : Int32} (hs : shI n pf) (hr : shR n pf mh) (hk : kiI place speed way V g b R I) (hd : doI ds dp dw)
    (h1 : F_h_open_0 place speed ds ob oc n pf of = (k, a1, a2, a3, of1)) (h2 : F_m_open_20 n mh place (way * speed) ds ob oc = (r, t, x1, x2, x3)) :
    t = k ∧ (k = 0 → (r = 0 → of1 (0 : Int32).toNatClampNeg = 0) ∧ (¬ r = 0 → of1 (0 : Int32).toNatClampNeg = 1)) ∧ x1 = a1 ∧ x2 = a2 ∧ x3 = a3 ∧ doI a1 dp dw := by
  have bad : F_h_open_0 place speed ds ob oc n pf of = (2, ds, ob, oc, of) → F_m_open_20 n mh place (way * speed) ds ob oc = (0, 2, ds, ob, oc) → t = k ∧ (k = 0 → (r = 0 → of1 (0 : Int32).toNatClampNeg = 0) ∧ (¬ r = 0 → of1 (0 : Int32).toNatClampNeg = 1)) ∧ x1 = a1 ∧ x2 = a2 ∧ x3 = a3 ∧ doI a1 dp dw := by
    intro q1 q2
    rw [q1] at h1; rw [q2] at h2; cases h1; cases h2
    exact ⟨rfl, fun h => absurd h (by decide), rfl, rfl, rfl, hd⟩
  have hfl := floorAt_eq (p0 := place) hs hr
  obtain ⟨p, v, gn, bn, Vn, Rn, In, z1, z2, z3, z4, z5, z6, z7, hv, hg, hgb, hb, hV, hR, hI, hw, hz⟩ := hk
  by_cases h0 : speed = 0
  · have hs2 : way * speed = 0 := by rw [h0, Int32.mul_zero]
    by_cases hfa : F_floorAt n pf place = -1
    · exact bad (by unfold F_h_open_0 F_open_0; rw [if_pos h0, hfa]; rfl) (by unfold F_m_open_20; rw [if_pos hs2, hfl, hfa]; rfl)
    · have q1 : F_h_open_0 place speed ds ob oc n pf of = cb (F_turnToOpening ds ob oc) (fun (r_6, x_7, x_8, x_9) => if r_6 = 0 then (0, x_7, x_8, x_9, vp_updL of (0 : Int32).toNatClampNeg 0) else (0, x_7, x_8, x_9, vp_updL of (0 : Int32).toNatClampNeg 1)) := by
        unfold F_h_open_0 F_open_0
        simp only [cb]
        rw [if_pos h0, if_neg hfa]; rfl
      have q2 : F_m_open_20 n mh place (way * speed) ds ob oc = (if ds = 1 then (0, 0, ds, ob, oc) else if ds = 2 then (0, 0, ds, ob, oc) else if ds = 0 then (1, 0, 1, ob + 1, oc) else (1, 0, 1, ob, oc + 1)) := by
        unfold F_m_open_20
        simp only [cb]
        rw [if_pos hs2, hfl, if_neg hfa]
      rw [q1] at h1; rw [q2] at h2
      obtain ⟨y1, x, y, y2, y3, y4, y5, y6, y7⟩ := hd
      have hd1 : doI 1 dp dw := ⟨Or.inr (Or.inl rfl), x, y, y2, y3, y4, y5, y6, fun q => absurd q q123⟩
      rcases y1 with rfl | rfl | rfl | rfl
      · have h1 : (0, 1, ob + 1, oc, vp_updL of (0 : Int32).toNatClampNeg 1) = (k, a1, a2, a3, of1) := h1
        have h2 : (1, 0, 1, ob + 1, oc) = (r, t, x1, x2, x3) := h2
        cases h1; cases h2
        exact ⟨rfl, fun _ => ⟨fun h => absurd h (by decide), fun _ => updL0⟩, rfl, rfl, rfl, hd1⟩
      · have h1 : (0, 1, ob, oc, vp_updL of (0 : Int32).toNatClampNeg 0) = (k, a1, a2, a3, of1) := h1
        have h2 : (0, 0, 1, ob, oc) = (r, t, x1, x2, x3) := h2
        cases h1; cases h2
        exact ⟨rfl, fun _ => ⟨fun _ => updL0, fun h => absurd rfl h⟩, rfl, rfl, rfl, hd1⟩
      · have h1 : (0, 2, ob, oc, vp_updL of (0 : Int32).toNatClampNeg 0) = (k, a1, a2, a3, of1) := h1
        have h2 : (0, 0, 2, ob, oc) = (r, t, x1, x2, x3) := h2
        cases h1; cases h2
        exact ⟨rfl, fun _ => ⟨fun _ => updL0, fun h => absurd rfl h⟩, rfl, rfl, rfl, ⟨Or.inr (Or.inr (Or.inl rfl)), x, y, y2, y3, y4, y5, y6, y7⟩⟩
      · have h1 : (0, 1, ob, oc + 1, vp_updL of (0 : Int32).toNatClampNeg 1) = (k, a1, a2, a3, of1) := h1
        have h2 : (1, 0, 1, ob, oc + 1) = (r, t, x1, x2, x3) := h2
        cases h1; cases h2
        exact ⟨rfl, fun _ => ⟨fun h => absurd h (by decide), fun _ => updL0⟩, rfl, rfl, rfl, hd1⟩
  · have hs2 : ¬ way * speed = 0 := by rw [z2] at h0 ⊢; exact fun q => h0 ((sp0 hw hv).mp q)
    exact bad (by unfold F_h_open_0 F_open_0; rw [if_neg h0]; rfl) (by unfold F_m_open_20; rw [if_neg hs2]; rfl)
theorem E_slow_21 {place speed way V g b R I p1 p2 k a b1 t x y : Int32} (hk : kiI place speed way V g b R I) (h1 : F_h_slow_1 R I p1 p2 = (k, a, b1)) (h2 : F_m_slow_21 R I p1 p2 = (t, x, y)) :
    t = k ∧ x = a ∧ y = b1 ∧ kiI place speed way V g b a b1 := by
  have bad : F_h_slow_1 R I p1 p2 = (1, R, I) → F_m_slow_21 R I p1 p2 = (1, R, I) → t = k ∧ x = a ∧ y = b1 ∧ kiI place speed way V g b a b1 := by
    intro q1 q2
    rw [q1] at h1; rw [q2] at h2; cases h1; cases h2
    exact ⟨rfl, rfl, rfl, hk⟩
  rcases rin p1 1 2000 with ⟨e1, e2, a1, a2⟩ | ⟨e1, e2⟩
  · rcases rin p2 1 2000 with ⟨e3, e4, a3, a4⟩ | ⟨e3, e4⟩
    · have q1 : F_h_slow_1 R I p1 p2 = (0, p1, p2) := by unfold F_h_slow_1 F_slow_1; rw [e2, e4]; rfl
      have q2 : F_m_slow_21 R I p1 p2 = (0, p1, p2) := by unfold F_m_slow_21; rw [e1, e3]; rfl
      rw [q1] at h1; rw [q2] at h2; cases h1; cases h2
      obtain ⟨p, v, gn, bn, Vn, Rn, In, z1, z2, z3, z4, z5, z6, z7, hv, hg, hgb, hb, hV, hR, hI, hw, hz⟩ := hk
      obtain ⟨u1, _, hu1, rfl⟩ := rng (a := 1) (b := 2000) (by decide) (by decide) a1 a2
      obtain ⟨u2, _, hu2, rfl⟩ := rng (a := 1) (b := 2000) (by decide) (by decide) a3 a4
      exact ⟨rfl, rfl, rfl, p, v, gn, bn, Vn, u1, u2, z1, z2, z3, z4, z5, rfl, rfl, hv, hg, hgb, hb, hV, hu1, hu2, hw, hz⟩
    · exact bad (by unfold F_h_slow_1 F_slow_1; rw [e2, e4]; rfl) (by unfold F_m_slow_21; rw [e1, e3]; rfl)
  · exact bad (by unfold F_h_slow_1 F_slow_1; rw [e2]; rfl) (by unfold F_m_slow_21; rw [e1]; rfl)
theorem E_rates_21 {place speed way V g b R I p1 p2 p3 k a1 a2 a3 t x1 x2 x3 : Int32} (hk : kiI place speed way V g b R I) (h1 : F_h_rates_1 speed V g b p1 p2 p3 = (k, a1, a2, a3)) (h2 : F_m_rates_21 (way * speed) V g b p1 p2 p3 = (t, x1, x2, x3)) :
    t = k ∧ x1 = a1 ∧ x2 = a2 ∧ x3 = a3 ∧ kiI place speed way a1 a2 a3 R I := by
  have bad : ∀ z : Int32, F_h_rates_1 speed V g b p1 p2 p3 = (z, V, g, b) → F_m_rates_21 (way * speed) V g b p1 p2 p3 = (z, V, g, b) → t = k ∧ x1 = a1 ∧ x2 = a2 ∧ x3 = a3 ∧ kiI place speed way a1 a2 a3 R I := by
    intro z q1 q2
    rw [q1] at h1; rw [q2] at h2; cases h1; cases h2
    exact ⟨rfl, rfl, rfl, rfl, hk⟩
  rcases rin p1 1 2000 with ⟨e1, e2, b1, b2⟩ | ⟨e1, e2⟩
  · rcases rin p2 1 1000 with ⟨e3, e4, b3, b4⟩ | ⟨e3, e4⟩
    · rcases rin p3 1 1000 with ⟨e5, e6, b5, b6⟩ | ⟨e5, e6⟩
      · by_cases h : p2 ≤ p3
        · obtain ⟨p, v, gn, bn, Vn, Rn, In, z1, z2, z3, z4, z5, z6, z7, hv, hg, hgb, hb, hV, hR, hI, hw, hz⟩ := hk
          by_cases hs : speed = 0
          · have hs2 : way * speed = 0 := by rw [hs, Int32.mul_zero]
            have q1 : F_h_rates_1 speed V g b p1 p2 p3 = (0, p1, p2, p3) := by unfold F_h_rates_1 F_rates_1; rw [e2, e4, e6, if_pos h, if_pos hs]; rfl
            have q2 : F_m_rates_21 (way * speed) V g b p1 p2 p3 = (0, p1, p2, p3) := by unfold F_m_rates_21; rw [e1, e3, e5, if_neg (Int32.not_lt.mpr h), if_pos hs2]; rfl
            rw [q1] at h1; rw [q2] at h2; cases h1; cases h2
            obtain ⟨u1, _, hu1, rfl⟩ := rng (a := 1) (b := 2000) (by decide) (by decide) b1 b2
            obtain ⟨u2, hu20, hu2, rfl⟩ := rng (a := 1) (b := 1000) (by decide) (by decide) b3 b4
            obtain ⟨u3, _, hu3, rfl⟩ := rng (a := 1) (b := 1000) (by decide) (by decide) b5 b6
            have h23 : u2 ≤ u3 := (nI_leI (by omega) (by omega)).mp h
            have hv0 : v = 0 := by
              rw [z2] at hs
              exact (nI_eq (b := 0) (by omega) (by omega)).mp hs
            have hw0 : way = 0 := by
              rcases hw with ⟨_, q⟩ | ⟨q, _⟩ | ⟨q, _⟩
              · exact q
              · exact absurd hv0 q
              · exact absurd hv0 q
            refine ⟨rfl, rfl, rfl, rfl, p, v, u2, u3, u1, Rn, In, z1, z2, rfl, rfl, rfl, z6, z7, hv, hu20, h23, hu3, hu1, hR, hI, hw, hz.1, fun q => ?_, fun q => ?_⟩
            · rw [hw0] at q; exact absurd q (by decide)
            · rw [hw0] at q; exact absurd q (by decide)
          · have hs2 : ¬ way * speed = 0 := by rw [z2] at hs ⊢; exact fun q => hs ((sp0 hw hv).mp q)
            exact bad 2 (by unfold F_h_rates_1 F_rates_1; rw [e2, e4, e6, if_pos h, if_neg hs]; rfl) (by unfold F_m_rates_21; rw [e1, e3, e5, if_neg (Int32.not_lt.mpr h), if_neg hs2]; rfl)
        · exact bad 1 (by unfold F_h_rates_1 F_rates_1; rw [e2, e4, e6, if_neg h]; rfl) (by unfold F_m_rates_21; rw [e1, e3, e5, if_pos (Int32.not_le.mp h)]; rfl)
      · exact bad 1 (by unfold F_h_rates_1 F_rates_1; rw [e2, e4, e6]; rfl) (by unfold F_m_rates_21; rw [e1, e3, e5]; rfl)
    · exact bad 1 (by unfold F_h_rates_1 F_rates_1; rw [e2, e4]; rfl) (by unfold F_m_rates_21; rw [e1, e3]; rfl)
  · exact bad 1 (by unfold F_h_rates_1 F_rates_1; rw [e2]; rfl) (by unfold F_m_rates_21; rw [e1]; rfl)
theorem E_door_21 {ds dp dw dh p1 p2 k a b t x y : Int32} (hd : doI ds dp dw) (h1 : F_h_door_1 ds dw dh p1 p2 = (k, a, b)) (h2 : F_m_pdoor_21 ds dw dh p1 p2 = (t, x, y)) :
    t = k ∧ x = a ∧ y = b ∧ doI ds dp a := by
  have bad : ∀ z : Int32, F_h_door_1 ds dw dh p1 p2 = (z, dw, dh) → F_m_pdoor_21 ds dw dh p1 p2 = (z, dw, dh) → t = k ∧ x = a ∧ y = b ∧ doI ds dp a := by
    intro z q1 q2
    rw [q1] at h1; rw [q2] at h2; cases h1; cases h2
    exact ⟨rfl, rfl, rfl, hd⟩
  rcases rin p1 1 50 with ⟨e1, e2, a1, a2⟩ | ⟨e1, e2⟩
  · rcases rin p2 0 1000 with ⟨e3, e4, a3, a4⟩ | ⟨e3, e4⟩
    · by_cases h : ds = 0
      · have q1 : F_h_door_1 ds dw dh p1 p2 = (0, p1, p2) := by unfold F_h_door_1 F_door_1; rw [e2, e4, if_pos h]; rfl
        have q2 : F_m_pdoor_21 ds dw dh p1 p2 = (0, p1, p2) := by unfold F_m_pdoor_21; rw [e1, e3, if_pos h]; rfl
        rw [q1] at h1; rw [q2] at h2; cases h1; cases h2
        obtain ⟨z1, x, y, z2, z3, z4, z5, z6, z7⟩ := hd
        obtain ⟨u1, hu0, hu1, rfl⟩ := rng (a := 1) (b := 50) (by decide) (by decide) a1 a2
        exact ⟨rfl, rfl, rfl, z1, x, u1, z2, rfl, z4, hu0, hu1, z7⟩
      · exact bad 2 (by unfold F_h_door_1 F_door_1; rw [e2, e4, if_neg h]; rfl) (by unfold F_m_pdoor_21; rw [e1, e3, if_neg h]; rfl)
    · exact bad 1 (by unfold F_h_door_1 F_door_1; rw [e2, e4]; rfl) (by unfold F_m_pdoor_21; rw [e1, e3]; rfl)
  · exact bad 1 (by unfold F_h_door_1 F_door_1; rw [e2]; rfl) (by unfold F_m_pdoor_21; rw [e1]; rfl)
theorem E_go_21 {n : Nat} {cf mc cf1 mc1 : Nat → Int32} {cc p1 k a r t x : Int32} {of of1 : Nat → Int64} (hn1 : 1 ≤ n) (hn : n ≤ 20) (hc : caI n cc cf) (hr : caR 8 cf mc) (h1 : F_h_go_1 cc cf n p1 of = (k, a, cf1, of1)) (h2 : F_m_go_21 n mc cc p1 = (r, t, mc1, x)) :
    t = k ∧ (k = 0 → of1 (0 : Int32).toNatClampNeg = r.toInt64) ∧ x = a ∧ caI n a cf1 ∧ caR 8 cf1 mc1 ∧ (∀ k, (k < 8 ∨ 8 + 8 ≤ k) → mc1 k = mc k) := by
  have hc0 := hc
  obtain ⟨m, hm8, rfl, hg⟩ := hc
  rcases fin1 (n := n) p1 hn1 hn with ⟨e1, e2, e3⟩ | ⟨e1, e2⟩
  · by_cases h8 : m < 8
    · have a1 : F_append (nI m) cf p1 = (nI (m + 1), upd cf m p1) := by
        unfold F_append
        rw [if_neg (nI_pos (by omega)), if_neg (nI_ge h8 (by omega)), nI_1, nI_clamp (by omega)]
      have q1 : F_h_go_1 (nI m) cf n p1 of = (0, nI (m + 1), upd cf m p1, vp_updL of (0 : Int32).toNatClampNeg (nI (m + 1)).toInt64) := by
        unfold F_h_go_1 F_go_1
        simp only [cb]
        rw [e2, if_pos (show nI m < 8 from nI_lt (b := 8) h8 (by decide)), a1]; rfl
      have q2 : F_m_go_21 n mc (nI m) p1 = (nI (m + 1), 0, upd mc (8 + m) p1, nI (m + 1)) := by
        unfold F_m_go_21
        rw [e1, nI_1, show (8 : Int32) = nI 8 from rfl, nI_add, nI_clamp (by omega)]
        have e9 : ¬ (8 : Int32) ≤ nI m := nI_ge (b := 8) h8 (by decide)
        have e8 : ¬ nI 8 ≤ nI m := e9
        simp only [cb, if_neg e9, if_neg e8]; rfl
      rw [q1] at h1; rw [q2] at h2; cases h1; cases h2
      refine ⟨rfl, fun _ => updL0, rfl, ⟨m + 1, by omega, rfl, fun i hi => ?_⟩, fun i hi => ?_, fun i hi => ?_⟩
      · simp only [upd]
        by_cases e : i = m
        · rw [if_pos e]; exact e3
        · rw [if_neg e]; exact hg i (by omega)
      · simp only [upd]
        by_cases e : i = m
        · rw [if_pos (by omega), if_pos e]
        · rw [if_neg (by omega), if_neg e]; exact hr i hi
      · simp only [upd]
        rw [if_neg (by omega)]
    · have q1 : F_h_go_1 (nI m) cf n p1 of = (2, nI m, cf, of) := by
        unfold F_h_go_1 F_go_1
        simp only [cb]
        rw [e2, if_neg (show ¬ nI m < 8 from nI_nlt (b := 8) (by omega) (by omega))]; rfl
      have q2 : F_m_go_21 n mc (nI m) p1 = (0, 2, mc, nI m) := by
        unfold F_m_go_21
        rw [e1]
        have e9 : (8 : Int32) ≤ nI m := nI_le (a := 8) (by omega) (by omega)
        simp only [cb, if_pos e9]; rfl
      rw [q1] at h1; rw [q2] at h2; cases h1; cases h2
      exact ⟨rfl, fun h => absurd h (by decide), rfl, hc0, hr, fun _ _ => rfl⟩
  · have q1 : F_h_go_1 (nI m) cf n p1 of = (1, nI m, cf, of) := by
      unfold F_h_go_1 F_go_1
      simp only [cb]
      rw [e2]; rfl
    have q2 : F_m_go_21 n mc (nI m) p1 = (0, 1, mc, nI m) := by unfold F_m_go_21; rw [e1]; rfl
    rw [q1] at h1; rw [q2] at h2; cases h1; cases h2
    exact ⟨rfl, fun h => absurd h (by decide), rfl, hc0, hr, fun _ _ => rfl⟩
theorem E_fire_21 {n : Nat} {v p1 : Int32} {of of1 : Nat → Int64} {k a r t w : Int32} (hn1 : 1 ≤ n) (hn : n ≤ 20) (hf : fiI n v) (h1 : F_h_fire_1 v n p1 of = (k, a, of1)) (h2 : F_m_fire_21 n v p1 = (r, t, w)) :
    t = k ∧ (k = 0 → of1 (0 : Int32).toNatClampNeg = r.toInt64) ∧ w = a ∧ fiI n a := by
  have good : F_h_fire_1 v n p1 of = (0, p1, vp_updL of (0 : Int32).toNatClampNeg v.toInt64) → F_m_fire_21 n v p1 = (v, 0, p1) → fiI n p1 → t = k ∧ (k = 0 → of1 (0 : Int32).toNatClampNeg = r.toInt64) ∧ w = a ∧ fiI n a := by
    intro q1 q2 h
    rw [q1] at h1; rw [q2] at h2; cases h1; cases h2
    exact ⟨rfl, fun _ => updL0, rfl, h⟩
  have ht := topF n hn1
  by_cases hm : p1 = -1
  · subst hm
    have er : F_refuseOutside (-1) (-1) (F_topFloor n) = .inr () := by
      unfold F_refuseOutside
      rw [if_neg (by decide), if_pos]
      rw [ht, Int32.le_iff_toInt_le, nI_toInt (by omega), m1_toInt]; omega
    refine good ?_ ?_ (Or.inl rfl)
    · unfold F_h_fire_1 F_fire_1
      simp only [cb]
      rw [er]; rfl
    · unfold F_m_fire_21
      rw [if_pos rfl]; rfl
  · rcases fin1 (n := n) p1 hn1 hn with ⟨e1, e2, e3⟩ | ⟨e1, e2⟩
    · have er : F_refuseOutside p1 (-1) (F_topFloor n) = .inr () := by
        obtain ⟨f, hf1, rfl⟩ := e3
        unfold F_refuseOutside
        rw [ht, if_neg, if_pos (nI_le (by omega) (by omega))]
        rw [Int32.lt_iff_toInt_lt, nI_toInt (by omega), m1_toInt]; omega
      refine good ?_ ?_ (Or.inr e3)
      · unfold F_h_fire_1 F_fire_1
        simp only [cb]
        rw [er]; rfl
      · unfold F_m_fire_21
        rw [if_neg hm, e1]; rfl
    · have er : F_refuseOutside p1 (-1) (F_topFloor n) = .inl 1 := by
        unfold F_refuseOutside at e2 ⊢
        by_cases z1 : p1 < 0
        · rw [if_pos]
          rw [Int32.lt_iff_toInt_lt, m1_toInt]
          rw [Int32.lt_iff_toInt_lt, z_toInt] at z1
          have z2 : ¬ p1.toInt = -1 := fun e => hm (Int32.toInt_inj.mp (by rw [e]; exact m1_toInt.symm))
          omega
        · rw [if_neg z1] at e2
          rw [if_neg]
          · exact e2
          · rw [Int32.lt_iff_toInt_lt, m1_toInt]
            rw [Int32.lt_iff_toInt_lt, z_toInt] at z1
            omega
      have q1 : F_h_fire_1 v n p1 of = (1, v, of) := by
        unfold F_h_fire_1 F_fire_1
        simp only [cb]
        rw [er]; rfl
      have q2 : F_m_fire_21 n v p1 = (0, 1, v) := by
        unfold F_m_fire_21
        rw [if_neg hm, e1]; rfl
      rw [q1] at h1; rw [q2] at h2; cases h1; cases h2
      exact ⟨rfl, fun h => absurd h (by decide), rfl, hf⟩
theorem E_close_21 {ki mk ds db dp dw : Int32} {of of1 : Nat → Int64} {k a r w : Int32} (hd : doI ds dp dw) (h1 : F_h_close_1 ki mk ds db of = (k, a, of1)) (h2 : F_m_close_21 ds ki mk db = (r, w)) :
    0 = k ∧ ((r = 0 → of1 (0 : Int32).toNatClampNeg = 0) ∧ (¬ r = 0 → of1 (0 : Int32).toNatClampNeg = 1)) ∧ w = a ∧ doI a dp dw := by
  have bad : F_h_close_1 ki mk ds db of = (0, ds, vp_updL of (0 : Int32).toNatClampNeg 0) → F_m_close_21 ds ki mk db = (0, ds) → 0 = k ∧ ((r = 0 → of1 (0 : Int32).toNatClampNeg = 0) ∧ (¬ r = 0 → of1 (0 : Int32).toNatClampNeg = 1)) ∧ w = a ∧ doI a dp dw := by
    intro q1 q2
    rw [q1] at h1; rw [q2] at h2; cases h1; cases h2
    exact ⟨rfl, ⟨fun _ => updL0, fun h => absurd rfl h⟩, rfl, hd⟩
  by_cases c1 : ds = 2
  · by_cases c2 : db = 0
    · by_cases c3 : ki ≤ mk
      · have o1 : F_isOverloaded ki mk = 0 := by unfold F_isOverloaded; rw [if_pos c3]
        have q1 : F_h_close_1 ki mk ds db of = (0, 3, vp_updL of (0 : Int32).toNatClampNeg 1) := by unfold F_h_close_1 F_close_1; rw [if_pos c1, if_pos c2, o1]; rfl
        have q2 : F_m_close_21 ds ki mk db = (1, 3) := by unfold F_m_close_21; rw [if_pos c1, if_pos c2, if_pos c3]; rfl
        rw [q1] at h1; rw [q2] at h2; cases h1; cases h2
        obtain ⟨z1, x, y, z2, z3, z4, z5, z6, z7⟩ := hd
        exact ⟨rfl, ⟨fun h => absurd h (by decide), fun _ => updL0⟩, rfl, Or.inr (Or.inr (Or.inr rfl)), x, y, z2, z3, z4, z5, z6, fun _ => z7 (Or.inl c1)⟩
      · have o1 : F_isOverloaded ki mk = 1 := by unfold F_isOverloaded; rw [if_neg c3]
        exact bad (by unfold F_h_close_1 F_close_1; rw [if_pos c1, if_pos c2, o1]; rfl) (by unfold F_m_close_21; rw [if_pos c1, if_pos c2, if_neg c3]; rfl)
    · exact bad (by unfold F_h_close_1 F_close_1; rw [if_pos c1, if_neg c2]; rfl) (by unfold F_m_close_21; rw [if_pos c1, if_neg c2]; rfl)
  · exact bad (by unfold F_h_close_1 F_close_1; rw [if_neg c1]; rfl) (by unfold F_m_close_21; rw [if_neg c1]; rfl)
theorem E_beam_21 {db : Int32} {of of1 : Nat → Int64} {k r : Int32} (h1 : F_h_beam_1 db of = (k, of1)) (h2 : F_m_beam_21 db = r) :
    0 = k ∧ ((r = 0 → of1 (0 : Int32).toNatClampNeg = 0) ∧ (¬ r = 0 → of1 (0 : Int32).toNatClampNeg = 1)) := by
  have q2 : db = r := h2
  subst q2
  by_cases c1 : db = 0
  · have q1 : F_h_beam_1 db of = (0, vp_updL of (0 : Int32).toNatClampNeg 0) := by unfold F_h_beam_1 F_beam_1; subst c1; rfl
    rw [q1] at h1; cases h1
    exact ⟨rfl, fun _ => updL0, fun h => absurd c1 h⟩
  · have q1 : F_h_beam_1 db of = (0, vp_updL of (0 : Int32).toNatClampNeg 1) := by
      have e : F_h_beam_1 db of = (if db = 0 then (0, vp_updL of (0 : Int32).toNatClampNeg 0) else (0, vp_updL of (0 : Int32).toNatClampNeg 1)) := rfl
      rw [e, if_neg c1]
    rw [q1] at h1; cases h1
    exact ⟨rfl, fun h => absurd h c1, fun _ => updL0⟩
theorem E_open_21 {n : Nat} {pf mh : Nat → Int32} {place speed way V g b R I ds dp dw ob oc : Int32} {of of1 : Nat → Int64} {k a1 a2 a3 r t x1 x2 x3 : Int32} (hs : shI n pf) (hr : shR n pf mh) (hk : kiI place speed way V g b R I) (hd : doI ds dp dw)
    (h1 : F_h_open_1 place speed ds ob oc n pf of = (k, a1, a2, a3, of1)) (h2 : F_m_open_21 n mh place (way * speed) ds ob oc = (r, t, x1, x2, x3)) :
    t = k ∧ (k = 0 → (r = 0 → of1 (0 : Int32).toNatClampNeg = 0) ∧ (¬ r = 0 → of1 (0 : Int32).toNatClampNeg = 1)) ∧ x1 = a1 ∧ x2 = a2 ∧ x3 = a3 ∧ doI a1 dp dw := by
  have bad : F_h_open_1 place speed ds ob oc n pf of = (2, ds, ob, oc, of) → F_m_open_21 n mh place (way * speed) ds ob oc = (0, 2, ds, ob, oc) → t = k ∧ (k = 0 → (r = 0 → of1 (0 : Int32).toNatClampNeg = 0) ∧ (¬ r = 0 → of1 (0 : Int32).toNatClampNeg = 1)) ∧ x1 = a1 ∧ x2 = a2 ∧ x3 = a3 ∧ doI a1 dp dw := by
    intro q1 q2
    rw [q1] at h1; rw [q2] at h2; cases h1; cases h2
    exact ⟨rfl, fun h => absurd h (by decide), rfl, rfl, rfl, hd⟩
  have hfl := floorAt_eq (p0 := place) hs hr
  obtain ⟨p, v, gn, bn, Vn, Rn, In, z1, z2, z3, z4, z5, z6, z7, hv, hg, hgb, hb, hV, hR, hI, hw, hz⟩ := hk
  by_cases h0 : speed = 0
  · have hs2 : way * speed = 0 := by rw [h0, Int32.mul_zero]
    by_cases hfa : F_floorAt n pf place = -1
    · exact bad (by unfold F_h_open_1 F_open_1; rw [if_pos h0, hfa]; rfl) (by unfold F_m_open_21; rw [if_pos hs2, hfl, hfa]; rfl)
    · have q1 : F_h_open_1 place speed ds ob oc n pf of = cb (F_turnToOpening ds ob oc) (fun (r_6, x_7, x_8, x_9) => if r_6 = 0 then (0, x_7, x_8, x_9, vp_updL of (0 : Int32).toNatClampNeg 0) else (0, x_7, x_8, x_9, vp_updL of (0 : Int32).toNatClampNeg 1)) := by
        unfold F_h_open_1 F_open_1
        simp only [cb]
        rw [if_pos h0, if_neg hfa]; rfl
      have q2 : F_m_open_21 n mh place (way * speed) ds ob oc = (if ds = 1 then (0, 0, ds, ob, oc) else if ds = 2 then (0, 0, ds, ob, oc) else if ds = 0 then (1, 0, 1, ob + 1, oc) else (1, 0, 1, ob, oc + 1)) := by
        unfold F_m_open_21
        simp only [cb]
        rw [if_pos hs2, hfl, if_neg hfa]
      rw [q1] at h1; rw [q2] at h2
      obtain ⟨y1, x, y, y2, y3, y4, y5, y6, y7⟩ := hd
      have hd1 : doI 1 dp dw := ⟨Or.inr (Or.inl rfl), x, y, y2, y3, y4, y5, y6, fun q => absurd q q123⟩
      rcases y1 with rfl | rfl | rfl | rfl
      · have h1 : (0, 1, ob + 1, oc, vp_updL of (0 : Int32).toNatClampNeg 1) = (k, a1, a2, a3, of1) := h1
        have h2 : (1, 0, 1, ob + 1, oc) = (r, t, x1, x2, x3) := h2
        cases h1; cases h2
        exact ⟨rfl, fun _ => ⟨fun h => absurd h (by decide), fun _ => updL0⟩, rfl, rfl, rfl, hd1⟩
      · have h1 : (0, 1, ob, oc, vp_updL of (0 : Int32).toNatClampNeg 0) = (k, a1, a2, a3, of1) := h1
        have h2 : (0, 0, 1, ob, oc) = (r, t, x1, x2, x3) := h2
        cases h1; cases h2
        exact ⟨rfl, fun _ => ⟨fun _ => updL0, fun h => absurd rfl h⟩, rfl, rfl, rfl, hd1⟩
      · have h1 : (0, 2, ob, oc, vp_updL of (0 : Int32).toNatClampNeg 0) = (k, a1, a2, a3, of1) := h1
        have h2 : (0, 0, 2, ob, oc) = (r, t, x1, x2, x3) := h2
        cases h1; cases h2
        exact ⟨rfl, fun _ => ⟨fun _ => updL0, fun h => absurd rfl h⟩, rfl, rfl, rfl, ⟨Or.inr (Or.inr (Or.inl rfl)), x, y, y2, y3, y4, y5, y6, y7⟩⟩
      · have h1 : (0, 1, ob, oc + 1, vp_updL of (0 : Int32).toNatClampNeg 1) = (k, a1, a2, a3, of1) := h1
        have h2 : (1, 0, 1, ob, oc + 1) = (r, t, x1, x2, x3) := h2
        cases h1; cases h2
        exact ⟨rfl, fun _ => ⟨fun h => absurd h (by decide), fun _ => updL0⟩, rfl, rfl, rfl, hd1⟩
  · have hs2 : ¬ way * speed = 0 := by rw [z2] at h0 ⊢; exact fun q => h0 ((sp0 hw hv).mp q)
    exact bad (by unfold F_h_open_1 F_open_1; rw [if_neg h0]; rfl) (by unfold F_m_open_21; rw [if_neg hs2]; rfl)
