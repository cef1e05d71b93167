/-! Landing and the door: class and reference. -/
theorem qn_01 : ¬ (0 : Int32) = 1 := by decide
theorem qn_02 : ¬ (0 : Int32) = 2 := by decide
theorem qn_03 : ¬ (0 : Int32) = 3 := by decide
theorem qn_04 : ¬ (0 : Int32) = 4 := by decide
theorem qn_10 : ¬ (1 : Int32) = 0 := by decide
theorem qn_12 : ¬ (1 : Int32) = 2 := by decide
theorem qn_13 : ¬ (1 : Int32) = 3 := by decide
theorem qn_14 : ¬ (1 : Int32) = 4 := by decide
theorem qn_20 : ¬ (2 : Int32) = 0 := by decide
theorem qn_21 : ¬ (2 : Int32) = 1 := by decide
theorem qn_23 : ¬ (2 : Int32) = 3 := by decide
theorem qn_24 : ¬ (2 : Int32) = 4 := by decide
theorem qn_30 : ¬ (3 : Int32) = 0 := by decide
theorem qn_31 : ¬ (3 : Int32) = 1 := by decide
theorem qn_32 : ¬ (3 : Int32) = 2 := by decide
theorem qn_34 : ¬ (3 : Int32) = 4 := by decide
theorem qn_40 : ¬ (4 : Int32) = 0 := by decide
theorem qn_41 : ¬ (4 : Int32) = 1 := by decide
theorem qn_42 : ¬ (4 : Int32) = 2 := by decide
theorem qn_43 : ¬ (4 : Int32) = 3 := by decide
theorem q123 : ¬ ((1 : Int32) = 2 ∨ (1 : Int32) = 3) := by decide
theorem qm_01 : ¬ (0 : Int32) = -1 := by decide
def doI (ds dp dw : Int32) : Prop := (ds = 0 ∨ ds = 1 ∨ ds = 2 ∨ ds = 3) ∧ ∃ x y : Nat, dp = nI x ∧ dw = nI y ∧ x ≤ 50 ∧ 1 ≤ y ∧ y ≤ 50 ∧ (ds = 2 ∨ ds = 3 → 1 ≤ x)
def ldD (ds dst : Int32) (mc : Nat → Int32) (cc w3 w4 w5 : Int32) : Int32 × Int32 × (Nat → Int32) × Int32 × Int32 × Int32 × Int32 :=
  if ds = 0 then (1, dst, mc, cc, (w3 + 1), w4, w5) else if ds = 3 then (1, dst, mc, cc, w3, (w4 + 1), w5) else if ds = 2 then (ds, 0, mc, cc, w3, w4, w5) else (ds, dst, mc, cc, w3, w4, w5)
theorem ldD_eq {ds dst cc ob oc w5 : Int32} {mc : Nat → Int32} (h : ds = 0 ∨ ds = 1 ∨ ds = 2 ∨ ds = 3) : ldD ds dst mc cc ob oc w5 = cb (F_openForLanding ds dst ob oc) fun (a, b, c, d) => (a, b, mc, cc, c, d, w5) := by
  rcases h with rfl | rfl | rfl | rfl <;> rfl
theorem opL_doI {ds dp dw dst ob oc : Int32} (h : doI ds dp dw) : doI (F_openForLanding ds dst ob oc).1 dp dw := by
  obtain ⟨h1, x, y, e1, e2, e3, e4, e5, e6⟩ := h
  rcases h1 with rfl | rfl | rfl | rfl
  · exact ⟨Or.inr (Or.inl rfl), x, y, e1, e2, e3, e4, e5, fun q => absurd (show (1 : Int32) = 2 ∨ (1 : Int32) = 3 from q) q123⟩
  · exact ⟨Or.inr (Or.inl rfl), x, y, e1, e2, e3, e4, e5, fun q => absurd (show (1 : Int32) = 2 ∨ (1 : Int32) = 3 from q) q123⟩
  · exact ⟨Or.inr (Or.inr (Or.inl rfl)), x, y, e1, e2, e3, e4, e5, fun _ => e6 (Or.inl rfl)⟩
  · exact ⟨Or.inr (Or.inl rfl), x, y, e1, e2, e3, e4, e5, fun q => absurd (show (1 : Int32) = 2 ∨ (1 : Int32) = 3 from q) q123⟩
theorem ld_loop_0 {n m : Nat} {ds dst w3 w4 w5 cov : Int32} (hm8 : m ≤ 8) :
    ∀ (d fu fv j : Nat) (cg mg : Nat → Int32), j + d + 1 = m → d < fu → d < fv → caR 0 cg mg → (∀ i, i < m → flr n (cg i)) →
      ∃ cg' mg' : Nat → Int32, L_endFirst_11 (nI m) cov fu (j + 1) cg = (nI m - 1, cov + 1, cg') ∧ L_m_land_0_16 ds dst (nI m) w3 w4 w5 0 fv j mg = ldD ds dst mg' (nI m - 1) w3 w4 (w5 + 1) ∧ caR 0 cg' mg' ∧ (∀ i, i < m → flr n (cg' i)) ∧ (∀ k, (k < 0 ∨ 0 + 8 ≤ k) → mg' k = mg k) := by
  intro d
  induction d with
  | zero =>
    intro fu fv j cg mg hj h1 h2 hr hg
    obtain ⟨f, rfl⟩ : ∃ f, fu = f + 1 := ⟨fu - 1, by omega⟩
    obtain ⟨f2, rfl⟩ : ∃ f, fv = f + 1 := ⟨fv - 1, by omega⟩
    refine ⟨cg, mg, ?_, ?_, hr, hg, fun _ _ => rfl⟩
    · rw [L_endFirst_11_u, if_pos (nI_le (by omega) (by omega))]
    · rw [L_m_land_0_16_u, ← hj, nI_pred, if_pos (nI_le (by omega) (by omega)), if_neg qn_04]
      rfl
  | succ d ih =>
    intro fu fv j cg mg hj h1 h2 hr hg
    obtain ⟨f, rfl⟩ : ∃ f, fu = f + 1 := ⟨fu - 1, by omega⟩
    obtain ⟨f2, rfl⟩ : ∃ f, fv = f + 1 := ⟨fv - 1, by omega⟩
    have e1 : nI m - 1 = nI (m - 1) := by rw [lit_1, pk_sub (by omega)]
    have e2 : nI (j + 1) - 1 = nI j := nI_pred j
    have hr2 : caR 0 (upd cg j (cg (j + 1))) (upd mg (0 + j) (mg (0 + j + 1))) := by
      intro i hi
      have h5 := hr (j + 1) (by omega)
      have h6 := hr i hi
      simp only [upd]
      by_cases e : i = j
      · rw [if_pos (by omega), if_pos e]; exact h5
      · rw [if_neg (by omega), if_neg e]; exact h6
    have hg2 : ∀ i, i < m → flr n (upd cg j (cg (j + 1)) i) := by
      intro i hi
      simp only [upd]
      by_cases e : i = j
      · rw [if_pos e]; exact hg (j + 1) (by omega)
      · rw [if_neg e]; exact hg i hi
    obtain ⟨cg', mg', q1, q2, q3, q4, q5⟩ := ih f f2 (j + 1) (upd cg j (cg (j + 1))) (upd mg (0 + j) (mg (0 + j + 1))) (by omega) (by omega) (by omega) hr2 hg2
    refine ⟨cg', mg', ?_, ?_, q3, q4, ?_⟩
    · rw [L_endFirst_11_u, if_neg (nI_ge (by omega) (by omega)), if_neg (nI_ge (by omega) (by omega)), e2, nI_clamp (by omega), nI_clamp (by omega)]
      exact q1
    · rw [L_m_land_0_16_u, if_neg (by rw [e1]; exact nI_ge (by omega) (by omega)), show (0 : Int32) = nI 0 from rfl, nI_add, nI_1, nI_clamp (by omega), nI_clamp (by omega)]
      exact q2
    · intro k hk
      rw [q5 k hk]
      simp only [upd]
      rw [if_neg (by omega)]
theorem land_rel_0 {n : Nat} {ds dp dw dst ob oc cc cov mode : Int32} {cf mc : Nat → Int32} (hd : doI ds dp dw) (hc : caI n cc cf) (hr : caR 0 cf mc) (hm : mode = 0 → ¬ cc = 0) :
    ∃ a b c d e f g mc', F_land ds dst ob oc cc cov cf mode = (a, b, c, d, e, f, g) ∧ F_m_land_0 ds dst mc cc ob oc cov mode = (a, b, mc', e, c, d, f) ∧ doI a dp dw ∧ caI n e g ∧ caR 0 g mc' ∧ (∀ k, (k < 0 ∨ 0 + 8 ≤ k) → mc' k = mc k) := by
  have hopen := opL_doI (dst := dst) (ob := ob) (oc := oc) hd
  have hl := fun m2 c2 w2 => ldD_eq (dst := dst) (cc := c2) (ob := ob) (oc := oc) (w5 := w2) (mc := m2) hd.1
  unfold F_land F_m_land_0
  by_cases h0 : mode = 0
  · subst h0
    rw [if_pos rfl, if_pos rfl]
    obtain ⟨m, hm8, rfl, hg⟩ := hc
    have hm1 : 1 ≤ m := by
      rcases Nat.eq_zero_or_pos m with z | z
      · subst z; exact absurd rfl (hm rfl)
      · exact z
    obtain ⟨cg', mg', q1, q2, q3, q4, q5⟩ := ld_loop_0 (n := n) (m := m) (ds := ds) (dst := dst) (w3 := ob) (w4 := oc) (w5 := cov) (cov := cov) hm8 (m - 1) 8 9 0 cf mc (by omega) (by omega) (by omega) hr hg
    have e1 : F_endFirst (nI m) cov cf = (nI m - 1, cov + 1, cg') := by
      unfold F_endFirst
      rw [if_pos (by rw [lit_1]; exact nI_le hm1 (by omega))]
      exact q1
    rw [e1, q2, hl]
    simp only [cb]
    rw [if_neg qn_04]
    generalize F_openForLanding ds dst ob oc = x at hopen ⊢
    obtain ⟨a, b, c, d⟩ := x
    exact ⟨a, b, c, d, nI m - 1, cov + 1, cg', mg', rfl, rfl, hopen, ⟨m - 1, by omega, by rw [lit_1, pk_sub hm1], fun i hi => q4 i (by omega)⟩, q3, q5⟩
  · rw [if_neg h0, if_neg h0]
    by_cases h4 : mode = 4
    · rw [if_pos h4, if_pos h4]
      exact ⟨_, _, _, _, _, _, _, mc, rfl, rfl, hd, hc, hr, fun _ _ => rfl⟩
    · rw [if_neg h4, if_neg h4]
      have e := hl mc cc cov
      generalize F_openForLanding ds dst ob oc = x at hopen e ⊢
      obtain ⟨a, b, c, d⟩ := x
      exact ⟨a, b, c, d, cc, cov, cf, mc, rfl, e, hopen, hc, hr, fun _ _ => rfl⟩
theorem ld_loop_1 {n m : Nat} {ds dst w3 w4 w5 cov : Int32} (hm8 : m ≤ 8) :
    ∀ (d fu fv j : Nat) (cg mg : Nat → Int32), j + d + 1 = m → d < fu → d < fv → caR 8 cg mg → (∀ i, i < m → flr n (cg i)) →
      ∃ cg' mg' : Nat → Int32, L_endFirst_11 (nI m) cov fu (j + 1) cg = (nI m - 1, cov + 1, cg') ∧ L_m_land_1_16 ds dst (nI m) w3 w4 w5 0 fv j mg = ldD ds dst mg' (nI m - 1) w3 w4 (w5 + 1) ∧ caR 8 cg' mg' ∧ (∀ i, i < m → flr n (cg' i)) ∧ (∀ k, (k < 8 ∨ 8 + 8 ≤ k) → mg' k = mg k) := by
  intro d
  induction d with
  | zero =>
    intro fu fv j cg mg hj h1 h2 hr hg
    obtain ⟨f, rfl⟩ : ∃ f, fu = f + 1 := ⟨fu - 1, by omega⟩
    obtain ⟨f2, rfl⟩ : ∃ f, fv = f + 1 := ⟨fv - 1, by omega⟩
    refine ⟨cg, mg, ?_, ?_, hr, hg, fun _ _ => rfl⟩
    · rw [L_endFirst_11_u, if_pos (nI_le (by omega) (by omega))]
    · rw [L_m_land_1_16_u, ← hj, nI_pred, if_pos (nI_le (by omega) (by omega)), if_neg qn_04]
      rfl
  | succ d ih =>
    intro fu fv j cg mg hj h1 h2 hr hg
    obtain ⟨f, rfl⟩ : ∃ f, fu = f + 1 := ⟨fu - 1, by omega⟩
    obtain ⟨f2, rfl⟩ : ∃ f, fv = f + 1 := ⟨fv - 1, by omega⟩
    have e1 : nI m - 1 = nI (m - 1) := by rw [lit_1, pk_sub (by omega)]
    have e2 : nI (j + 1) - 1 = nI j := nI_pred j
    have hr2 : caR 8 (upd cg j (cg (j + 1))) (upd mg (8 + j) (mg (8 + j + 1))) := by
      intro i hi
      have h5 := hr (j + 1) (by omega)
      have h6 := hr i hi
      simp only [upd]
      by_cases e : i = j
      · rw [if_pos (by omega), if_pos e]; exact h5
      · rw [if_neg (by omega), if_neg e]; exact h6
    have hg2 : ∀ i, i < m → flr n (upd cg j (cg (j + 1)) i) := by
      intro i hi
      simp only [upd]
      by_cases e : i = j
      · rw [if_pos e]; exact hg (j + 1) (by omega)
      · rw [if_neg e]; exact hg i hi
    obtain ⟨cg', mg', q1, q2, q3, q4, q5⟩ := ih f f2 (j + 1) (upd cg j (cg (j + 1))) (upd mg (8 + j) (mg (8 + j + 1))) (by omega) (by omega) (by omega) hr2 hg2
    refine ⟨cg', mg', ?_, ?_, q3, q4, ?_⟩
    · rw [L_endFirst_11_u, if_neg (nI_ge (by omega) (by omega)), if_neg (nI_ge (by omega) (by omega)), e2, nI_clamp (by omega), nI_clamp (by omega)]
      exact q1
    · rw [L_m_land_1_16_u, if_neg (by rw [e1]; exact nI_ge (by omega) (by omega)), show (8 : Int32) = nI 8 from rfl, nI_add, nI_1, nI_clamp (by omega), nI_clamp (by omega)]
      exact q2
    · intro k hk
      rw [q5 k hk]
      simp only [upd]
      rw [if_neg (by omega)]
theorem land_rel_1 {n : Nat} {ds dp dw dst ob oc cc cov mode : Int32} {cf mc : Nat → Int32} (hd : doI ds dp dw) (hc : caI n cc cf) (hr : caR 8 cf mc) (hm : mode = 0 → ¬ cc = 0) :
    ∃ a b c d e f g mc', F_land ds dst ob oc cc cov cf mode = (a, b, c, d, e, f, g) ∧ F_m_land_1 ds dst mc cc ob oc cov mode = (a, b, mc', e, c, d, f) ∧ doI a dp dw ∧ caI n e g ∧ caR 8 g mc' ∧ (∀ k, (k < 8 ∨ 8 + 8 ≤ k) → mc' k = mc k) := by
  have hopen := opL_doI (dst := dst) (ob := ob) (oc := oc) hd
  have hl := fun m2 c2 w2 => ldD_eq (dst := dst) (cc := c2) (ob := ob) (oc := oc) (w5 := w2) (mc := m2) hd.1
  unfold F_land F_m_land_1
  by_cases h0 : mode = 0
  · subst h0
    rw [if_pos rfl, if_pos rfl]
    obtain ⟨m, hm8, rfl, hg⟩ := hc
    have hm1 : 1 ≤ m := by
      rcases Nat.eq_zero_or_pos m with z | z
      · subst z; exact absurd rfl (hm rfl)
      · exact z
    obtain ⟨cg', mg', q1, q2, q3, q4, q5⟩ := ld_loop_1 (n := n) (m := m) (ds := ds) (dst := dst) (w3 := ob) (w4 := oc) (w5 := cov) (cov := cov) hm8 (m - 1) 8 9 0 cf mc (by omega) (by omega) (by omega) hr hg
    have e1 : F_endFirst (nI m) cov cf = (nI m - 1, cov + 1, cg') := by
      unfold F_endFirst
      rw [if_pos (by rw [lit_1]; exact nI_le hm1 (by omega))]
      exact q1
    rw [e1, q2, hl]
    simp only [cb]
    rw [if_neg qn_04]
    generalize F_openForLanding ds dst ob oc = x at hopen ⊢
    obtain ⟨a, b, c, d⟩ := x
    exact ⟨a, b, c, d, nI m - 1, cov + 1, cg', mg', rfl, rfl, hopen, ⟨m - 1, by omega, by rw [lit_1, pk_sub hm1], fun i hi => q4 i (by omega)⟩, q3, q5⟩
  · rw [if_neg h0, if_neg h0]
    by_cases h4 : mode = 4
    · rw [if_pos h4, if_pos h4]
      exact ⟨_, _, _, _, _, _, _, mc, rfl, rfl, hd, hc, hr, fun _ _ => rfl⟩
    · rw [if_neg h4, if_neg h4]
      have e := hl mc cc cov
      generalize F_openForLanding ds dst ob oc = x at hopen e ⊢
      obtain ⟨a, b, c, d⟩ := x
      exact ⟨a, b, c, d, cc, cov, cf, mc, rfl, e, hopen, hc, hr, fun _ _ => rfl⟩
theorem door_rel {ds dp dw dh dst db ob oc ki mk mode aw th : Int32} (hd : doI ds dp dw) (ha : (aw = 0 ∧ th = 1) ∨ (aw = 1 ∧ th = 0)) :
    ∃ a p b d, F_dTakeStep ds dp dw dh dst db ob oc mode (F_isOverloaded ki mk) aw = (a, p, b, ob, d) ∧ F_m_door_0 ds dp dst dw dh ki mk db oc mode th = (a, p, b, d) ∧ doI a p dw := by
  have hov : ∀ {α : Type} (A B : α), (if F_isOverloaded ki mk = 0 then A else B) = (if mk < ki then B else A) := by
    intro α A B
    unfold F_isOverloaded
    by_cases h : ki ≤ mk
    · rw [if_pos h, if_pos rfl, if_neg (Int32.not_lt.mpr h)]
    · rw [if_neg h, if_neg qn_10, if_pos (Int32.not_le.mp h)]
  obtain ⟨h1, x, y, rfl, rfl, e3, e4, e5, e6⟩ := hd
  unfold F_dTakeStep F_m_door_0
  rcases h1 with rfl | rfl | rfl | rfl
  · simp only [if_neg qn_01, if_neg qn_02, if_neg qn_03]
    exact ⟨_, _, _, _, rfl, rfl, ⟨Or.inl rfl, x, y, rfl, rfl, e3, e4, e5, fun q => absurd q (by decide)⟩⟩
  · simp only [if_pos]
    unfold F_openFurther
    simp only [cb]
    rw [nI_1]
    by_cases hxy : y ≤ x
    · rw [if_pos (nI_lt (by omega) (by omega)), if_pos rfl, if_pos (nI_le (by omega) (by omega))]
      exact ⟨_, _, _, _, rfl, rfl, ⟨Or.inr (Or.inr (Or.inl rfl)), y, y, rfl, rfl, e5, e4, e5, fun _ => e4⟩⟩
    · rw [if_neg (nI_nlt (by omega) (by omega)), if_neg (nI_ge (by omega) (by omega))]
      by_cases h2 : nI (x + 1) = nI y
      · rw [if_pos h2, if_pos h2]
        exact ⟨_, _, _, _, rfl, rfl, ⟨Or.inr (Or.inr (Or.inl rfl)), x + 1, y, rfl, rfl, by omega, e4, e5, fun _ => by omega⟩⟩
      · rw [if_neg h2, if_neg h2]
        exact ⟨_, _, _, _, rfl, rfl, ⟨Or.inr (Or.inl rfl), x + 1, y, rfl, rfl, by omega, e4, e5, fun q => absurd (show (1 : Int32) = 2 ∨ (1 : Int32) = 3 from q) q123⟩⟩
  · have i2 : doI 2 (nI x) (nI y) := ⟨Or.inr (Or.inr (Or.inl rfl)), x, y, rfl, rfl, e3, e4, e5, e6⟩
    have i3 : doI 3 (nI x) (nI y) := ⟨Or.inr (Or.inr (Or.inr rfl)), x, y, rfl, rfl, e3, e4, e5, fun _ => e6 (Or.inl rfl)⟩
    simp only [if_neg qn_21, if_pos]
    rw [hov]
    unfold F_isTimeToClose
    simp only [cb]
    rcases ha with ⟨rfl, rfl⟩ | ⟨rfl, rfl⟩
    · by_cases k1 : mk < ki
      · by_cases k2 : mode = 0
        · by_cases k3 : mode = 3
          · by_cases k4 : dst + 1 < dh
            · by_cases k5 : db = 0
              · simp only [if_pos k1, if_pos k2, if_pos k3, if_pos k4, if_pos k5, if_true, if_false, if_neg qn_10, if_neg qn_01, if_pos]
                first
                  | exact ⟨_, _, _, _, rfl, rfl, i2⟩
                  | exact ⟨_, _, _, _, rfl, rfl, i3⟩
              · simp only [if_pos k1, if_pos k2, if_pos k3, if_pos k4, if_neg k5, if_true, if_false, if_neg qn_10, if_neg qn_01, if_pos]
                first
                  | exact ⟨_, _, _, _, rfl, rfl, i2⟩
                  | exact ⟨_, _, _, _, rfl, rfl, i3⟩
            · by_cases k5 : db = 0
              · simp only [if_pos k1, if_pos k2, if_pos k3, if_neg k4, if_pos k5, if_true, if_false, if_neg qn_10, if_neg qn_01, if_pos]
                first
                  | exact ⟨_, _, _, _, rfl, rfl, i2⟩
                  | exact ⟨_, _, _, _, rfl, rfl, i3⟩
              · simp only [if_pos k1, if_pos k2, if_pos k3, if_neg k4, if_neg k5, if_true, if_false, if_neg qn_10, if_neg qn_01, if_pos]
                first
                  | exact ⟨_, _, _, _, rfl, rfl, i2⟩
                  | exact ⟨_, _, _, _, rfl, rfl, i3⟩
          · by_cases k4 : dst + 1 < dh
            · by_cases k5 : db = 0
              · simp only [if_pos k1, if_pos k2, if_neg k3, if_pos k4, if_pos k5, if_true, if_false, if_neg qn_10, if_neg qn_01, if_pos]
                first
                  | exact ⟨_, _, _, _, rfl, rfl, i2⟩
                  | exact ⟨_, _, _, _, rfl, rfl, i3⟩
              · simp only [if_pos k1, if_pos k2, if_neg k3, if_pos k4, if_neg k5, if_true, if_false, if_neg qn_10, if_neg qn_01, if_pos]
                first
                  | exact ⟨_, _, _, _, rfl, rfl, i2⟩
                  | exact ⟨_, _, _, _, rfl, rfl, i3⟩
            · by_cases k5 : db = 0
              · simp only [if_pos k1, if_pos k2, if_neg k3, if_neg k4, if_pos k5, if_true, if_false, if_neg qn_10, if_neg qn_01, if_pos]
                first
                  | exact ⟨_, _, _, _, rfl, rfl, i2⟩
                  | exact ⟨_, _, _, _, rfl, rfl, i3⟩
              · simp only [if_pos k1, if_pos k2, if_neg k3, if_neg k4, if_neg k5, if_true, if_false, if_neg qn_10, if_neg qn_01, if_pos]
                first
                  | exact ⟨_, _, _, _, rfl, rfl, i2⟩
                  | exact ⟨_, _, _, _, rfl, rfl, i3⟩
        · by_cases k3 : mode = 3
          · by_cases k4 : dst + 1 < dh
            · by_cases k5 : db = 0
              · simp only [if_pos k1, if_neg k2, if_pos k3, if_pos k4, if_pos k5, if_true, if_false, if_neg qn_10, if_neg qn_01, if_pos]
                first
                  | exact ⟨_, _, _, _, rfl, rfl, i2⟩
                  | exact ⟨_, _, _, _, rfl, rfl, i3⟩
              · simp only [if_pos k1, if_neg k2, if_pos k3, if_pos k4, if_neg k5, if_true, if_false, if_neg qn_10, if_neg qn_01, if_pos]
                first
                  | exact ⟨_, _, _, _, rfl, rfl, i2⟩
                  | exact ⟨_, _, _, _, rfl, rfl, i3⟩
            · by_cases k5 : db = 0
              · simp only [if_pos k1, if_neg k2, if_pos k3, if_neg k4, if_pos k5, if_true, if_false, if_neg qn_10, if_neg qn_01, if_pos]
                first
                  | exact ⟨_, _, _, _, rfl, rfl, i2⟩
                  | exact ⟨_, _, _, _, rfl, rfl, i3⟩
              · simp only [if_pos k1, if_neg k2, if_pos k3, if_neg k4, if_neg k5, if_true, if_false, if_neg qn_10, if_neg qn_01, if_pos]
                first
                  | exact ⟨_, _, _, _, rfl, rfl, i2⟩
                  | exact ⟨_, _, _, _, rfl, rfl, i3⟩
          · by_cases k4 : dst + 1 < dh
            · by_cases k5 : db = 0
              · simp only [if_pos k1, if_neg k2, if_neg k3, if_pos k4, if_pos k5, if_true, if_false, if_neg qn_10, if_neg qn_01, if_pos]
                first
                  | exact ⟨_, _, _, _, rfl, rfl, i2⟩
                  | exact ⟨_, _, _, _, rfl, rfl, i3⟩
              · simp only [if_pos k1, if_neg k2, if_neg k3, if_pos k4, if_neg k5, if_true, if_false, if_neg qn_10, if_neg qn_01, if_pos]
                first
                  | exact ⟨_, _, _, _, rfl, rfl, i2⟩
                  | exact ⟨_, _, _, _, rfl, rfl, i3⟩
            · by_cases k5 : db = 0
              · simp only [if_pos k1, if_neg k2, if_neg k3, if_neg k4, if_pos k5, if_true, if_false, if_neg qn_10, if_neg qn_01, if_pos]
                first
                  | exact ⟨_, _, _, _, rfl, rfl, i2⟩
                  | exact ⟨_, _, _, _, rfl, rfl, i3⟩
              · simp only [if_pos k1, if_neg k2, if_neg k3, if_neg k4, if_neg k5, if_true, if_false, if_neg qn_10, if_neg qn_01, if_pos]
                first
                  | exact ⟨_, _, _, _, rfl, rfl, i2⟩
                  | exact ⟨_, _, _, _, rfl, rfl, i3⟩
      · by_cases k2 : mode = 0
        · by_cases k3 : mode = 3
          · by_cases k4 : dst + 1 < dh
            · by_cases k5 : db = 0
              · simp only [if_neg k1, if_pos k2, if_pos k3, if_pos k4, if_pos k5, if_true, if_false, if_neg qn_10, if_neg qn_01, if_pos]
                first
                  | exact ⟨_, _, _, _, rfl, rfl, i2⟩
                  | exact ⟨_, _, _, _, rfl, rfl, i3⟩
              · simp only [if_neg k1, if_pos k2, if_pos k3, if_pos k4, if_neg k5, if_true, if_false, if_neg qn_10, if_neg qn_01, if_pos]
                first
                  | exact ⟨_, _, _, _, rfl, rfl, i2⟩
                  | exact ⟨_, _, _, _, rfl, rfl, i3⟩
            · by_cases k5 : db = 0
              · simp only [if_neg k1, if_pos k2, if_pos k3, if_neg k4, if_pos k5, if_true, if_false, if_neg qn_10, if_neg qn_01, if_pos]
                first
                  | exact ⟨_, _, _, _, rfl, rfl, i2⟩
                  | exact ⟨_, _, _, _, rfl, rfl, i3⟩
              · simp only [if_neg k1, if_pos k2, if_pos k3, if_neg k4, if_neg k5, if_true, if_false, if_neg qn_10, if_neg qn_01, if_pos]
                first
                  | exact ⟨_, _, _, _, rfl, rfl, i2⟩
                  | exact ⟨_, _, _, _, rfl, rfl, i3⟩
          · by_cases k4 : dst + 1 < dh
            · by_cases k5 : db = 0
              · simp only [if_neg k1, if_pos k2, if_neg k3, if_pos k4, if_pos k5, if_true, if_false, if_neg qn_10, if_neg qn_01, if_pos]
                first
                  | exact ⟨_, _, _, _, rfl, rfl, i2⟩
                  | exact ⟨_, _, _, _, rfl, rfl, i3⟩
              · simp only [if_neg k1, if_pos k2, if_neg k3, if_pos k4, if_neg k5, if_true, if_false, if_neg qn_10, if_neg qn_01, if_pos]
                first
                  | exact ⟨_, _, _, _, rfl, rfl, i2⟩
                  | exact ⟨_, _, _, _, rfl, rfl, i3⟩
            · by_cases k5 : db = 0
              · simp only [if_neg k1, if_pos k2, if_neg k3, if_neg k4, if_pos k5, if_true, if_false, if_neg qn_10, if_neg qn_01, if_pos]
                first
                  | exact ⟨_, _, _, _, rfl, rfl, i2⟩
                  | exact ⟨_, _, _, _, rfl, rfl, i3⟩
              · simp only [if_neg k1, if_pos k2, if_neg k3, if_neg k4, if_neg k5, if_true, if_false, if_neg qn_10, if_neg qn_01, if_pos]
                first
                  | exact ⟨_, _, _, _, rfl, rfl, i2⟩
                  | exact ⟨_, _, _, _, rfl, rfl, i3⟩
        · by_cases k3 : mode = 3
          · by_cases k4 : dst + 1 < dh
            · by_cases k5 : db = 0
              · simp only [if_neg k1, if_neg k2, if_pos k3, if_pos k4, if_pos k5, if_true, if_false, if_neg qn_10, if_neg qn_01, if_pos]
                first
                  | exact ⟨_, _, _, _, rfl, rfl, i2⟩
                  | exact ⟨_, _, _, _, rfl, rfl, i3⟩
              · simp only [if_neg k1, if_neg k2, if_pos k3, if_pos k4, if_neg k5, if_true, if_false, if_neg qn_10, if_neg qn_01, if_pos]
                first
                  | exact ⟨_, _, _, _, rfl, rfl, i2⟩
                  | exact ⟨_, _, _, _, rfl, rfl, i3⟩
            · by_cases k5 : db = 0
              · simp only [if_neg k1, if_neg k2, if_pos k3, if_neg k4, if_pos k5, if_true, if_false, if_neg qn_10, if_neg qn_01, if_pos]
                first
                  | exact ⟨_, _, _, _, rfl, rfl, i2⟩
                  | exact ⟨_, _, _, _, rfl, rfl, i3⟩
              · simp only [if_neg k1, if_neg k2, if_pos k3, if_neg k4, if_neg k5, if_true, if_false, if_neg qn_10, if_neg qn_01, if_pos]
                first
                  | exact ⟨_, _, _, _, rfl, rfl, i2⟩
                  | exact ⟨_, _, _, _, rfl, rfl, i3⟩
          · by_cases k4 : dst + 1 < dh
            · by_cases k5 : db = 0
              · simp only [if_neg k1, if_neg k2, if_neg k3, if_pos k4, if_pos k5, if_true, if_false, if_neg qn_10, if_neg qn_01, if_pos]
                first
                  | exact ⟨_, _, _, _, rfl, rfl, i2⟩
                  | exact ⟨_, _, _, _, rfl, rfl, i3⟩
              · simp only [if_neg k1, if_neg k2, if_neg k3, if_pos k4, if_neg k5, if_true, if_false, if_neg qn_10, if_neg qn_01, if_pos]
                first
                  | exact ⟨_, _, _, _, rfl, rfl, i2⟩
                  | exact ⟨_, _, _, _, rfl, rfl, i3⟩
            · by_cases k5 : db = 0
              · simp only [if_neg k1, if_neg k2, if_neg k3, if_neg k4, if_pos k5, if_true, if_false, if_neg qn_10, if_neg qn_01, if_pos]
                first
                  | exact ⟨_, _, _, _, rfl, rfl, i2⟩
                  | exact ⟨_, _, _, _, rfl, rfl, i3⟩
              · simp only [if_neg k1, if_neg k2, if_neg k3, if_neg k4, if_neg k5, if_true, if_false, if_neg qn_10, if_neg qn_01, if_pos]
                first
                  | exact ⟨_, _, _, _, rfl, rfl, i2⟩
                  | exact ⟨_, _, _, _, rfl, rfl, i3⟩
    · by_cases k1 : mk < ki
      · by_cases k2 : mode = 0
        · by_cases k3 : mode = 3
          · by_cases k4 : dst + 1 < dh
            · by_cases k5 : db = 0
              · simp only [if_pos k1, if_pos k2, if_pos k3, if_pos k4, if_pos k5, if_true, if_false, if_neg qn_10, if_neg qn_01, if_pos]
                first
                  | exact ⟨_, _, _, _, rfl, rfl, i2⟩
                  | exact ⟨_, _, _, _, rfl, rfl, i3⟩
              · simp only [if_pos k1, if_pos k2, if_pos k3, if_pos k4, if_neg k5, if_true, if_false, if_neg qn_10, if_neg qn_01, if_pos]
                first
                  | exact ⟨_, _, _, _, rfl, rfl, i2⟩
                  | exact ⟨_, _, _, _, rfl, rfl, i3⟩
            · by_cases k5 : db = 0
              · simp only [if_pos k1, if_pos k2, if_pos k3, if_neg k4, if_pos k5, if_true, if_false, if_neg qn_10, if_neg qn_01, if_pos]
                first
                  | exact ⟨_, _, _, _, rfl, rfl, i2⟩
                  | exact ⟨_, _, _, _, rfl, rfl, i3⟩
              · simp only [if_pos k1, if_pos k2, if_pos k3, if_neg k4, if_neg k5, if_true, if_false, if_neg qn_10, if_neg qn_01, if_pos]
                first
                  | exact ⟨_, _, _, _, rfl, rfl, i2⟩
                  | exact ⟨_, _, _, _, rfl, rfl, i3⟩
          · by_cases k4 : dst + 1 < dh
            · by_cases k5 : db = 0
              · simp only [if_pos k1, if_pos k2, if_neg k3, if_pos k4, if_pos k5, if_true, if_false, if_neg qn_10, if_neg qn_01, if_pos]
                first
                  | exact ⟨_, _, _, _, rfl, rfl, i2⟩
                  | exact ⟨_, _, _, _, rfl, rfl, i3⟩
              · simp only [if_pos k1, if_pos k2, if_neg k3, if_pos k4, if_neg k5, if_true, if_false, if_neg qn_10, if_neg qn_01, if_pos]
                first
                  | exact ⟨_, _, _, _, rfl, rfl, i2⟩
                  | exact ⟨_, _, _, _, rfl, rfl, i3⟩
            · by_cases k5 : db = 0
              · simp only [if_pos k1, if_pos k2, if_neg k3, if_neg k4, if_pos k5, if_true, if_false, if_neg qn_10, if_neg qn_01, if_pos]
                first
                  | exact ⟨_, _, _, _, rfl, rfl, i2⟩
                  | exact ⟨_, _, _, _, rfl, rfl, i3⟩
              · simp only [if_pos k1, if_pos k2, if_neg k3, if_neg k4, if_neg k5, if_true, if_false, if_neg qn_10, if_neg qn_01, if_pos]
                first
                  | exact ⟨_, _, _, _, rfl, rfl, i2⟩
                  | exact ⟨_, _, _, _, rfl, rfl, i3⟩
        · by_cases k3 : mode = 3
          · by_cases k4 : dst + 1 < dh
            · by_cases k5 : db = 0
              · simp only [if_pos k1, if_neg k2, if_pos k3, if_pos k4, if_pos k5, if_true, if_false, if_neg qn_10, if_neg qn_01, if_pos]
                first
                  | exact ⟨_, _, _, _, rfl, rfl, i2⟩
                  | exact ⟨_, _, _, _, rfl, rfl, i3⟩
              · simp only [if_pos k1, if_neg k2, if_pos k3, if_pos k4, if_neg k5, if_true, if_false, if_neg qn_10, if_neg qn_01, if_pos]
                first
                  | exact ⟨_, _, _, _, rfl, rfl, i2⟩
                  | exact ⟨_, _, _, _, rfl, rfl, i3⟩
            · by_cases k5 : db = 0
              · simp only [if_pos k1, if_neg k2, if_pos k3, if_neg k4, if_pos k5, if_true, if_false, if_neg qn_10, if_neg qn_01, if_pos]
                first
                  | exact ⟨_, _, _, _, rfl, rfl, i2⟩
                  | exact ⟨_, _, _, _, rfl, rfl, i3⟩
              · simp only [if_pos k1, if_neg k2, if_pos k3, if_neg k4, if_neg k5, if_true, if_false, if_neg qn_10, if_neg qn_01, if_pos]
                first
                  | exact ⟨_, _, _, _, rfl, rfl, i2⟩
                  | exact ⟨_, _, _, _, rfl, rfl, i3⟩
          · by_cases k4 : dst + 1 < dh
            · by_cases k5 : db = 0
              · simp only [if_pos k1, if_neg k2, if_neg k3, if_pos k4, if_pos k5, if_true, if_false, if_neg qn_10, if_neg qn_01, if_pos]
                first
                  | exact ⟨_, _, _, _, rfl, rfl, i2⟩
                  | exact ⟨_, _, _, _, rfl, rfl, i3⟩
              · simp only [if_pos k1, if_neg k2, if_neg k3, if_pos k4, if_neg k5, if_true, if_false, if_neg qn_10, if_neg qn_01, if_pos]
                first
                  | exact ⟨_, _, _, _, rfl, rfl, i2⟩
                  | exact ⟨_, _, _, _, rfl, rfl, i3⟩
            · by_cases k5 : db = 0
              · simp only [if_pos k1, if_neg k2, if_neg k3, if_neg k4, if_pos k5, if_true, if_false, if_neg qn_10, if_neg qn_01, if_pos]
                first
                  | exact ⟨_, _, _, _, rfl, rfl, i2⟩
                  | exact ⟨_, _, _, _, rfl, rfl, i3⟩
              · simp only [if_pos k1, if_neg k2, if_neg k3, if_neg k4, if_neg k5, if_true, if_false, if_neg qn_10, if_neg qn_01, if_pos]
                first
                  | exact ⟨_, _, _, _, rfl, rfl, i2⟩
                  | exact ⟨_, _, _, _, rfl, rfl, i3⟩
      · by_cases k2 : mode = 0
        · by_cases k3 : mode = 3
          · by_cases k4 : dst + 1 < dh
            · by_cases k5 : db = 0
              · simp only [if_neg k1, if_pos k2, if_pos k3, if_pos k4, if_pos k5, if_true, if_false, if_neg qn_10, if_neg qn_01, if_pos]
                first
                  | exact ⟨_, _, _, _, rfl, rfl, i2⟩
                  | exact ⟨_, _, _, _, rfl, rfl, i3⟩
              · simp only [if_neg k1, if_pos k2, if_pos k3, if_pos k4, if_neg k5, if_true, if_false, if_neg qn_10, if_neg qn_01, if_pos]
                first
                  | exact ⟨_, _, _, _, rfl, rfl, i2⟩
                  | exact ⟨_, _, _, _, rfl, rfl, i3⟩
            · by_cases k5 : db = 0
              · simp only [if_neg k1, if_pos k2, if_pos k3, if_neg k4, if_pos k5, if_true, if_false, if_neg qn_10, if_neg qn_01, if_pos]
                first
                  | exact ⟨_, _, _, _, rfl, rfl, i2⟩
                  | exact ⟨_, _, _, _, rfl, rfl, i3⟩
              · simp only [if_neg k1, if_pos k2, if_pos k3, if_neg k4, if_neg k5, if_true, if_false, if_neg qn_10, if_neg qn_01, if_pos]
                first
                  | exact ⟨_, _, _, _, rfl, rfl, i2⟩
                  | exact ⟨_, _, _, _, rfl, rfl, i3⟩
          · by_cases k4 : dst + 1 < dh
            · by_cases k5 : db = 0
              · simp only [if_neg k1, if_pos k2, if_neg k3, if_pos k4, if_pos k5, if_true, if_false, if_neg qn_10, if_neg qn_01, if_pos]
                first
                  | exact ⟨_, _, _, _, rfl, rfl, i2⟩
                  | exact ⟨_, _, _, _, rfl, rfl, i3⟩
              · simp only [if_neg k1, if_pos k2, if_neg k3, if_pos k4, if_neg k5, if_true, if_false, if_neg qn_10, if_neg qn_01, if_pos]
                first
                  | exact ⟨_, _, _, _, rfl, rfl, i2⟩
                  | exact ⟨_, _, _, _, rfl, rfl, i3⟩
            · by_cases k5 : db = 0
              · simp only [if_neg k1, if_pos k2, if_neg k3, if_neg k4, if_pos k5, if_true, if_false, if_neg qn_10, if_neg qn_01, if_pos]
                first
                  | exact ⟨_, _, _, _, rfl, rfl, i2⟩
                  | exact ⟨_, _, _, _, rfl, rfl, i3⟩
              · simp only [if_neg k1, if_pos k2, if_neg k3, if_neg k4, if_neg k5, if_true, if_false, if_neg qn_10, if_neg qn_01, if_pos]
                first
                  | exact ⟨_, _, _, _, rfl, rfl, i2⟩
                  | exact ⟨_, _, _, _, rfl, rfl, i3⟩
        · by_cases k3 : mode = 3
          · by_cases k4 : dst + 1 < dh
            · by_cases k5 : db = 0
              · simp only [if_neg k1, if_neg k2, if_pos k3, if_pos k4, if_pos k5, if_true, if_false, if_neg qn_10, if_neg qn_01, if_pos]
                first
                  | exact ⟨_, _, _, _, rfl, rfl, i2⟩
                  | exact ⟨_, _, _, _, rfl, rfl, i3⟩
              · simp only [if_neg k1, if_neg k2, if_pos k3, if_pos k4, if_neg k5, if_true, if_false, if_neg qn_10, if_neg qn_01, if_pos]
                first
                  | exact ⟨_, _, _, _, rfl, rfl, i2⟩
                  | exact ⟨_, _, _, _, rfl, rfl, i3⟩
            · by_cases k5 : db = 0
              · simp only [if_neg k1, if_neg k2, if_pos k3, if_neg k4, if_pos k5, if_true, if_false, if_neg qn_10, if_neg qn_01, if_pos]
                first
                  | exact ⟨_, _, _, _, rfl, rfl, i2⟩
                  | exact ⟨_, _, _, _, rfl, rfl, i3⟩
              · simp only [if_neg k1, if_neg k2, if_pos k3, if_neg k4, if_neg k5, if_true, if_false, if_neg qn_10, if_neg qn_01, if_pos]
                first
                  | exact ⟨_, _, _, _, rfl, rfl, i2⟩
                  | exact ⟨_, _, _, _, rfl, rfl, i3⟩
          · by_cases k4 : dst + 1 < dh
            · by_cases k5 : db = 0
              · simp only [if_neg k1, if_neg k2, if_neg k3, if_pos k4, if_pos k5, if_true, if_false, if_neg qn_10, if_neg qn_01, if_pos]
                first
                  | exact ⟨_, _, _, _, rfl, rfl, i2⟩
                  | exact ⟨_, _, _, _, rfl, rfl, i3⟩
              · simp only [if_neg k1, if_neg k2, if_neg k3, if_pos k4, if_neg k5, if_true, if_false, if_neg qn_10, if_neg qn_01, if_pos]
                first
                  | exact ⟨_, _, _, _, rfl, rfl, i2⟩
                  | exact ⟨_, _, _, _, rfl, rfl, i3⟩
            · by_cases k5 : db = 0
              · simp only [if_neg k1, if_neg k2, if_neg k3, if_neg k4, if_pos k5, if_true, if_false, if_neg qn_10, if_neg qn_01, if_pos]
                first
                  | exact ⟨_, _, _, _, rfl, rfl, i2⟩
                  | exact ⟨_, _, _, _, rfl, rfl, i3⟩
              · simp only [if_neg k1, if_neg k2, if_neg k3, if_neg k4, if_neg k5, if_true, if_false, if_neg qn_10, if_neg qn_01, if_pos]
                first
                  | exact ⟨_, _, _, _, rfl, rfl, i2⟩
                  | exact ⟨_, _, _, _, rfl, rfl, i3⟩
  · have i1 : doI 1 (nI x) (nI y) := ⟨Or.inr (Or.inl rfl), x, y, rfl, rfl, e3, e4, e5, fun q => absurd q (by decide)⟩
    have hx : 1 ≤ x := e6 (Or.inr rfl)
    have i4 : ¬ nI (x - 1) = 0 → doI 3 (nI (x - 1)) (nI y) := fun h => ⟨Or.inr (Or.inr (Or.inr rfl)), x - 1, y, rfl, rfl, by omega, e4, e5, fun _ => by
      rcases Nat.eq_zero_or_pos (x - 1) with z | z
      · rw [z] at h; exact absurd rfl h
      · exact z⟩
    have i5 : doI 0 (nI (x - 1)) (nI y) := ⟨Or.inl rfl, x - 1, y, rfl, rfl, by omega, e4, e5, fun q => absurd q (by decide)⟩
    simp only [if_neg qn_31, if_neg qn_32, if_pos]
    rw [hov]
    unfold F_closeFurther F_turnToOpening
    rw [lit_1, pk_sub hx, ← lit_1]
    simp only [cb, if_neg (nI_pos (show x - 1 < 2 ^ 31 by omega)), if_neg qn_31, if_neg qn_32, if_neg qn_30]
    by_cases k1 : mk < ki
    · by_cases k3 : mode = 3
      · by_cases k5 : db = 0
        · by_cases k6 : nI (x - 1) = 0
          · simp only [if_pos k1, if_pos k3, if_pos k5, if_pos k6]
            first
              | exact ⟨_, _, _, _, rfl, rfl, i1⟩
              | exact ⟨_, _, _, _, rfl, rfl, i5⟩
          · simp only [if_pos k1, if_pos k3, if_pos k5, if_neg k6]
            first
              | exact ⟨_, _, _, _, rfl, rfl, i1⟩
              | exact ⟨_, _, _, _, rfl, rfl, i5⟩
              | exact ⟨_, _, _, _, rfl, rfl, i4 k6⟩
        · by_cases k6 : nI (x - 1) = 0
          · simp only [if_pos k1, if_pos k3, if_neg k5, if_pos k6]
            first
              | exact ⟨_, _, _, _, rfl, rfl, i1⟩
              | exact ⟨_, _, _, _, rfl, rfl, i5⟩
          · simp only [if_pos k1, if_pos k3, if_neg k5, if_neg k6]
            first
              | exact ⟨_, _, _, _, rfl, rfl, i1⟩
              | exact ⟨_, _, _, _, rfl, rfl, i5⟩
              | exact ⟨_, _, _, _, rfl, rfl, i4 k6⟩
      · by_cases k5 : db = 0
        · by_cases k6 : nI (x - 1) = 0
          · simp only [if_pos k1, if_neg k3, if_pos k5, if_pos k6]
            first
              | exact ⟨_, _, _, _, rfl, rfl, i1⟩
              | exact ⟨_, _, _, _, rfl, rfl, i5⟩
          · simp only [if_pos k1, if_neg k3, if_pos k5, if_neg k6]
            first
              | exact ⟨_, _, _, _, rfl, rfl, i1⟩
              | exact ⟨_, _, _, _, rfl, rfl, i5⟩
              | exact ⟨_, _, _, _, rfl, rfl, i4 k6⟩
        · by_cases k6 : nI (x - 1) = 0
          · simp only [if_pos k1, if_neg k3, if_neg k5, if_pos k6]
            first
              | exact ⟨_, _, _, _, rfl, rfl, i1⟩
              | exact ⟨_, _, _, _, rfl, rfl, i5⟩
          · simp only [if_pos k1, if_neg k3, if_neg k5, if_neg k6]
            first
              | exact ⟨_, _, _, _, rfl, rfl, i1⟩
              | exact ⟨_, _, _, _, rfl, rfl, i5⟩
              | exact ⟨_, _, _, _, rfl, rfl, i4 k6⟩
    · by_cases k3 : mode = 3
      · by_cases k5 : db = 0
        · by_cases k6 : nI (x - 1) = 0
          · simp only [if_neg k1, if_pos k3, if_pos k5, if_pos k6]
            first
              | exact ⟨_, _, _, _, rfl, rfl, i1⟩
              | exact ⟨_, _, _, _, rfl, rfl, i5⟩
          · simp only [if_neg k1, if_pos k3, if_pos k5, if_neg k6]
            first
              | exact ⟨_, _, _, _, rfl, rfl, i1⟩
              | exact ⟨_, _, _, _, rfl, rfl, i5⟩
              | exact ⟨_, _, _, _, rfl, rfl, i4 k6⟩
        · by_cases k6 : nI (x - 1) = 0
          · simp only [if_neg k1, if_pos k3, if_neg k5, if_pos k6]
            first
              | exact ⟨_, _, _, _, rfl, rfl, i1⟩
              | exact ⟨_, _, _, _, rfl, rfl, i5⟩
          · simp only [if_neg k1, if_pos k3, if_neg k5, if_neg k6]
            first
              | exact ⟨_, _, _, _, rfl, rfl, i1⟩
              | exact ⟨_, _, _, _, rfl, rfl, i5⟩
              | exact ⟨_, _, _, _, rfl, rfl, i4 k6⟩
      · by_cases k5 : db = 0
        · by_cases k6 : nI (x - 1) = 0
          · simp only [if_neg k1, if_neg k3, if_pos k5, if_pos k6]
            first
              | exact ⟨_, _, _, _, rfl, rfl, i1⟩
              | exact ⟨_, _, _, _, rfl, rfl, i5⟩
          · simp only [if_neg k1, if_neg k3, if_pos k5, if_neg k6]
            first
              | exact ⟨_, _, _, _, rfl, rfl, i1⟩
              | exact ⟨_, _, _, _, rfl, rfl, i5⟩
              | exact ⟨_, _, _, _, rfl, rfl, i4 k6⟩
        · by_cases k6 : nI (x - 1) = 0
          · simp only [if_neg k1, if_neg k3, if_neg k5, if_pos k6]
            first
              | exact ⟨_, _, _, _, rfl, rfl, i1⟩
              | exact ⟨_, _, _, _, rfl, rfl, i5⟩
          · simp only [if_neg k1, if_neg k3, if_neg k5, if_neg k6]
            first
              | exact ⟨_, _, _, _, rfl, rfl, i1⟩
              | exact ⟨_, _, _, _, rfl, rfl, i5⟩
              | exact ⟨_, _, _, _, rfl, rfl, i4 k6⟩
theorem door_1 (a b c d e f g h i j k : Int32) : F_m_door_1 a b c d e f g h i j k = F_m_door_0 a b c d e f g h i j k := rfl
