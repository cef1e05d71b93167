/-! Speeds with their signs; rooms between the cars. -/
theorem m1_toInt : (-1 : Int32).toInt = -1 := by decide
theorem z_toInt : (0 : Int32).toInt = 0 := by decide
theorem i1_mul (x : Int32) : (1 : Int32) * x = x := Int32.one_mul x
theorem im1_mul (x : Int32) : (-1 : Int32) * x = -x := by
  rw [Int32.neg_mul, Int32.one_mul]
def wv (v : Nat) (way : Int32) : Prop := (v = 0 ∧ way = 0) ∨ (v ≠ 0 ∧ way = 1) ∨ (v ≠ 0 ∧ way = -1)
theorem sz_p {u : Nat} (h : u ≤ 5000) : F_m_size (nI u) = nI u := by
  unfold F_m_size
  rw [if_pos (nI_pos' (by omega))]
theorem nn_toInt {u : Nat} (h : u ≤ 5000) : (-nI u).toInt = -(u : Int) := by
  rw [i_neg (by rw [nI_toInt (by omega)]; omega) (by rw [nI_toInt (by omega)]; omega), nI_toInt (by omega)]
theorem sz_n {u : Nat} (h : u ≤ 5000) : F_m_size (-nI u) = nI u := by
  unfold F_m_size
  by_cases h0 : u = 0
  · subst h0; decide
  · rw [if_neg]
    · rw [Int32.neg_neg]
    · rw [Int32.le_iff_toInt_le, nn_toInt h, z_toInt]; omega
theorem wv_size {v : Nat} {way : Int32} (h : wv v way) (hv : v ≤ 5000) : F_m_size (way * nI v) = nI v := by
  rcases h with ⟨h1, h2⟩ | ⟨h1, h2⟩ | ⟨h1, h2⟩
  · subst h1; subst h2; decide
  · subst h2; rw [i1_mul]; exact sz_p hv
  · subst h2; rw [im1_mul]; exact sz_n hv
theorem wv_sign {v : Nat} {way : Int32} (h : wv v way) (hv : v ≤ 5000) : F_m_sign (way * nI v) = way := by
  rcases h with ⟨h1, h2⟩ | ⟨h1, h2⟩ | ⟨h1, h2⟩
  · subst h1; subst h2; decide
  · subst h2
    rw [i1_mul]
    unfold F_m_sign
    rw [if_neg (nI_nle (by omega) (by omega))]
  · subst h2
    rw [im1_mul]
    unfold F_m_sign
    rw [if_pos, if_neg]
    · rw [Int32.le_iff_toInt_le, nn_toInt hv, z_toInt]; omega
    · rw [Int32.le_iff_toInt_le, nn_toInt hv, z_toInt]; omega
/-- a wanted place -/
def wo (want : Int32) : Prop := want = -1 ∨ ∃ w : Nat, w ≤ 100000 ∧ want = nI w
theorem nI_nm1 {w : Nat} (h : w ≤ 100000) : ¬ nI w = -1 := by
  intro e
  have := congrArg Int32.toInt e
  rw [nI_toInt (by omega), m1_toInt] at this
  omega
theorem d_toInt {w p : Nat} (hw : w ≤ 100000) (hp : p ≤ 100000) : (nI w - nI p).toInt = (w : Int) - (p : Int) := by
  rw [i_sub (by rw [nI_toInt (by omega), nI_toInt (by omega)]; omega) (by rw [nI_toInt (by omega), nI_toInt (by omega)]; omega), nI_toInt (by omega), nI_toInt (by omega)]
theorem way_eq {p : Nat} {want : Int32} (hp : p ≤ 100000) (hw : wo want) : (if want = (-1) then 0 else F_m_sign (want - nI p)) = F_wayTo (nI p) want := by
  unfold F_wayTo
  rcases hw with rfl | ⟨w, hw, rfl⟩
  · rw [if_pos rfl, if_pos rfl]
  · rw [if_neg (nI_nm1 hw), if_neg (nI_nm1 hw)]
    unfold F_m_sign F_intCompare
    simp only [cb]
    have hd := d_toInt hw hp
    by_cases h1 : p ≤ w
    · rw [if_pos (nI_le h1 (by omega))]
      by_cases h2 : w = p
      · subst h2
        rw [if_pos rfl, if_pos, if_pos]
        · rw [Int32.le_iff_toInt_le, hd, z_toInt]; omega
        · rw [Int32.le_iff_toInt_le, hd, z_toInt]; omega
      · rw [if_neg (fun e => h2 ((nI_eq (by omega) (by omega)).mp e)), if_neg]
        rw [Int32.le_iff_toInt_le, hd, z_toInt]; omega
    · rw [if_neg (nI_ge (by omega) (by omega)), if_pos, if_neg]
      · rw [Int32.le_iff_toInt_le, hd, z_toInt]; omega
      · rw [Int32.le_iff_toInt_le, hd, z_toInt]; omega
/-- the way to a wanted place, and how far -/
theorem way_sp {p : Nat} {want : Int32} (hp : p ≤ 100000) (hw : wo want) :
    (F_wayTo (nI p) want = 0 ∧ (want = -1 ∨ want = nI p)) ∨ ∃ w : Nat, w ≤ 100000 ∧ want = nI w ∧ ((F_wayTo (nI p) want = 1 ∧ p < w ∧ (F_m_size (want - nI p)).toInt = (w : Int) - p) ∨ (F_wayTo (nI p) want = -1 ∧ w < p ∧ (F_m_size (want - nI p)).toInt = (p : Int) - w)) := by
  unfold F_wayTo
  rcases hw with rfl | ⟨w, hw, rfl⟩
  · rw [if_pos rfl]; exact Or.inl ⟨rfl, Or.inl rfl⟩
  · rw [if_neg (nI_nm1 hw)]
    have hd := d_toInt hw hp
    unfold F_intCompare F_m_size
    simp only [cb]
    by_cases h1 : p ≤ w
    · rw [if_pos (nI_le h1 (by omega))]
      by_cases h2 : w = p
      · subst h2
        rw [if_pos rfl]; exact Or.inl ⟨rfl, Or.inr rfl⟩
      · rw [if_neg (fun e => h2 ((nI_eq (by omega) (by omega)).mp e))]
        refine Or.inr ⟨w, hw, rfl, Or.inl ⟨rfl, by omega, ?_⟩⟩
        rw [if_pos (by rw [Int32.le_iff_toInt_le, hd, z_toInt]; omega), hd]
    · rw [if_neg (nI_ge (by omega) (by omega))]
      refine Or.inr ⟨w, hw, rfl, Or.inr ⟨rfl, by omega, ?_⟩⟩
      rw [if_neg (by rw [Int32.le_iff_toInt_le, hd, z_toInt]; omega), i_neg (by omega) (by omega), hd]
      omega
theorem sz_pos {p w : Nat} (hp : p ≤ 100000) (hw : w ≤ 100000) : 0 ≤ (F_m_size (nI w - nI p)).toInt := by
  have hd := d_toInt hw hp
  unfold F_m_size
  by_cases h : (0 : Int32) ≤ nI w - nI p
  · rw [if_pos h]
    rw [Int32.le_iff_toInt_le, z_toInt] at h
    exact h
  · rw [if_neg h, i_neg (by omega) (by omega), hd]
    rw [Int32.le_iff_toInt_le, hd, z_toInt] at h
    omega
theorem gOk_10 {v g b : Nat} {wy : Int32} (hg : 1 ≤ g) (hgb : g ≤ b) (hb : b ≤ 1000) (hv : v ≤ 2000) : gOk (fun _ x y z => F_m_greatest_10 (nI g) x y z) v g b wy 1000000000 := by
  intro hi d hlo hhi hd
  have e9 : (1000000000 : Int32).toInt = 1000000000 := by decide
  refine (gr_same (lo := v - b) (hi := hi) (P := fun w => d = -1 ∨ ((w + lenF w g w : Nat) : Int) ≤ d.toInt) (Q := okS g b (if d = -1 then 1000000000 else d) 1000000000) hlo (fun u w h1 h2 h3 => okS_mono hg (by omega) h1 h3) ?_ (mg10 hg (by omega) hhi hlo) (gs_spec hg (by omega) (by omega) hb (by omega) (by omega) hlo)).symm
  intro z h1 h2
  have s1 := lenF_le g z z
  have s2 := lenF_le b z z
  have s3 : z * z ≤ 4000 * 4000 := Nat.mul_le_mul (by omega) (by omega)
  unfold okS
  rw [e9]
  by_cases hd1 : d = -1
  · rw [if_pos hd1, e9]
    constructor
    · intro _; omega
    · intro _; exact Or.inl hd1
  · rw [if_neg hd1]
    constructor
    · intro h
      rcases h with h | h
      · exact absurd h hd1
      · omega
    · intro h; exact Or.inr h.1
/-- where a car can stand: class and reference -/
theorem stand_eq {v b : Nat} {way pl d : Int32} (h : wv v way) (hv : v ≤ 2000) (hb1 : 1 ≤ b) (hb : b ≤ 1000) : F_m_stands_0 pl (way * nI v) (nI b) d = F_standPlace d pl (nI v) way (nI b) := by
  unfold F_m_stands_0 F_standPlace
  rw [wv_sign h (by omega), wv_size h (by omega)]
  simp only [cb]
  rw [F_m_length_nI hb1 hb (by omega), F_length_nI hb1 hb (by omega)]
  by_cases e : way = d
  · rw [if_pos e, if_pos e, e]
  · rw [if_neg e, if_neg e]
theorem stands_1 (a b c d : Int32) : F_m_stands_1 a b c d = F_m_stands_0 a b c d := rfl
theorem stand_b {v b p : Nat} {way d : Int32} (h : wv v way) (hv : v ≤ 2000) (hb1 : 1 ≤ b) (hb : b ≤ 1000) (hp : p ≤ 100000) : -5000000 ≤ (F_standPlace d (nI p) (nI v) way (nI b)).toInt ∧ (F_standPlace d (nI p) (nI v) way (nI b)).toInt ≤ 5000000 := by
  unfold F_standPlace
  rw [F_length_nI hb1 hb (by omega)]
  simp only [cb]
  have s1 := lenF_le b v v
  have s3 : v * v ≤ 2000 * 2000 := Nat.mul_le_mul hv hv
  by_cases e : way = d
  · rw [if_pos e]
    rcases h with ⟨h1, h2⟩ | ⟨h1, h2⟩ | ⟨h1, h2⟩
    · rw [h2, Int32.zero_mul, Int32.add_zero, nI_toInt (by omega)]; omega
    · rw [h2, i1_mul, nI_add, nI_toInt (by omega)]; omega
    · have e1 : (-nI (lenF v b v)).toInt = -((lenF v b v : Nat) : Int) := by
        rw [i_neg (by rw [nI_toInt (by omega)]; omega) (by rw [nI_toInt (by omega)]; omega), nI_toInt (by omega)]
      have e2 := nI_toInt (n := p) (by omega)
      rw [h2, im1_mul, i_add (by omega) (by omega), e1, e2]; omega
  · rw [if_neg e, nI_toInt (by omega)]; omega
theorem nX_20 (gp pl0 pl1 s0 s1 mo g b0 b1 sl ri dr lo ml mode want : Int32) : F_m_next_20 gp pl0 pl1 s0 s1 mo g b0 b1 sl ri dr lo ml mode want = nX (fun w x y z => F_m_greatest_20 gp pl0 pl1 s1 g b0 b1 w x y z) pl0 s0 mo g b0 sl ri dr lo ml mode want := rfl
theorem mg20 {g lo hi : Nat} {gp pl0 pl1 so b0 b1 wy p4 : Int32} (hg : 1 ≤ g) (hgm : g ≤ 1000) (hhi : hi ≤ 4000) (hlo : lo ≤ hi) :
    (∃ w, lo ≤ w ∧ w ≤ hi ∧ ((p4 = -1 ∨ ((w + lenF w g w : Nat) : Int) ≤ p4.toInt) ∧ ¬ F_m_isFree_20 gp pl0 pl1 so b0 b1 wy (nI w) = 0) ∧ (∀ z, w < z → z ≤ hi → ¬ ((p4 = -1 ∨ ((z + lenF z g z : Nat) : Int) ≤ p4.toInt) ∧ ¬ F_m_isFree_20 gp pl0 pl1 so b0 b1 wy (nI z) = 0)) ∧ F_m_greatest_20 gp pl0 pl1 so (nI g) b0 b1 wy (nI lo) (nI hi) p4 = nI w) ∨
    ((∀ z, lo ≤ z → z ≤ hi → ¬ ((p4 = -1 ∨ ((z + lenF z g z : Nat) : Int) ≤ p4.toInt) ∧ ¬ F_m_isFree_20 gp pl0 pl1 so b0 b1 wy (nI z) = 0)) ∧ F_m_greatest_20 gp pl0 pl1 so (nI g) b0 b1 wy (nI lo) (nI hi) p4 = -1) := by
  unfold F_m_greatest_20
  rw [nI_toInt (by omega), nI_toInt (by omega)]
  refine gr_gen (fun fu ub uu => L_m_greatest_20_6 gp pl0 pl1 so (nI g) b0 b1 wy (nI hi) p4 fu ub uu) hi (fun z => (p4 = -1 ∨ ((z + lenF z g z : Nat) : Int) ≤ p4.toInt) ∧ ¬ F_m_isFree_20 gp pl0 pl1 so b0 b1 wy (nI z) = 0) ?_ ?_ ?_ (hi + 1 - lo) lo (-1) _ (by omega) (by omega)
  · intro fu ub
    show L_m_greatest_20_6 gp pl0 pl1 so (nI g) b0 b1 wy (nI hi) p4 (fu + 1) ub (nI (hi + 1)) = ub
    rw [L_m_greatest_20_6_u, if_pos (nI_lt (by omega) (by omega))]
  · intro fu ub u hu h
    show L_m_greatest_20_6 gp pl0 pl1 so (nI g) b0 b1 wy (nI hi) p4 (fu + 1) ub (nI u) = L_m_greatest_20_6 gp pl0 pl1 so (nI g) b0 b1 wy (nI hi) p4 fu (nI u) (nI (u + 1))
    rw [L_m_greatest_20_6_u, if_neg (nI_nlt hu (by omega)), nI_s]
    simp only [cb]
    by_cases h4 : p4 = -1
    · rw [if_pos h4, if_neg h.2]
    · rw [if_neg h4, F_m_length_nI hg hgm (by omega), nI_add, if_neg, if_neg h.2]
      rw [nI_lt_iff (sum_lt (by omega))]
      rcases h.1 with h | h
      · exact absurd h h4
      · omega
  · intro fu ub u hu h
    show L_m_greatest_20_6 gp pl0 pl1 so (nI g) b0 b1 wy (nI hi) p4 (fu + 1) ub (nI u) = L_m_greatest_20_6 gp pl0 pl1 so (nI g) b0 b1 wy (nI hi) p4 fu ub (nI (u + 1))
    rw [L_m_greatest_20_6_u, if_neg (nI_nlt hu (by omega)), nI_s]
    simp only [cb]
    by_cases hf : F_m_isFree_20 gp pl0 pl1 so b0 b1 wy (nI u) = 0
    · rw [if_pos hf]
      simp only [ite_self]
    · have h' : ¬ (p4 = -1 ∨ ((u + lenF u g u : Nat) : Int) ≤ p4.toInt) := fun q => h ⟨q, hf⟩
      rw [if_neg (fun e => h' (Or.inl e)), F_m_length_nI hg hgm (by omega), nI_add, if_pos]
      rw [nI_lt_iff (sum_lt (by omega))]
      rcases Int.lt_or_le p4.toInt (((u + lenF u g u : Nat) : Int)) with q | q
      · exact q
      · exact absurd (Or.inr q) h'
theorem free_20 {u b p G : Nat} {plo so bo wy st : Int32} (hb1 : 1 ≤ b) (hb : b ≤ 1000) (hu : u ≤ 4000) (hp : p ≤ 100000) (hG : G ≤ 10000)
    (hst : F_m_stands_1 plo so bo (-1) = st) (hs1 : -5000000 ≤ st.toInt) (hs2 : st.toInt ≤ 5000000) :
    (¬ F_m_isFree_20 (nI G) (nI p) plo so (nI b) bo wy (nI u) = 0) ↔ ((u + lenF u b u : Nat) : Int) ≤ (if wy = 1 then ((wy * (st - nI p)) - nI G) else 1000000000).toInt := by
  have s1 := lenF_le b u u
  have s3 : u * u ≤ 4000 * 4000 := Nat.mul_le_mul hu hu
  unfold F_m_isFree_20
  rw [F_m_length_nI hb1 hb (by omega), hst]
  simp only [cb]
  by_cases h : wy = 1
  · subst h
    rw [if_pos rfl, if_pos rfl, i1_mul, i1_mul, nI_add]
    have e1 := nI_toInt (n := p) (by omega)
    have e2 := nI_toInt (n := G) (by omega)
    have e3 := nI_toInt (n := u + lenF u b u) (by omega)
    have e4 : (st - nI p).toInt = st.toInt - p := by rw [i_sub (by omega) (by omega), e1]
    have e5 : (st - nI p - nI G).toInt = st.toInt - p - G := by rw [i_sub (by omega) (by omega), e4, e2]
    have e6 : (nI p + nI (u + lenF u b u) + nI G).toInt = p + (u + lenF u b u : Nat) + G := by
      rw [nI_add, nI_add, nI_toInt (by omega)]
      omega
    rw [e5]
    by_cases h5 : st < nI p + nI (u + lenF u b u) + nI G
    · rw [if_pos h5]
      rw [Int32.lt_iff_toInt_lt, e6] at h5
      constructor
      · intro q; exact absurd rfl q
      · intro q; omega
    · rw [if_neg h5]
      rw [Int32.lt_iff_toInt_lt, e6] at h5
      constructor
      · intro _; omega
      · intro _; decide
  · rw [if_neg h, if_neg h]
    have e9 : (1000000000 : Int32).toInt = 1000000000 := by decide
    rw [e9]
    constructor
    · intro _; omega
    · intro _; decide
theorem gOk_20 {v g b p G : Nat} {plo so bo wy st : Int32} (hg : 1 ≤ g) (hgb : g ≤ b) (hb : b ≤ 1000) (hv : v ≤ 2000) (hp : p ≤ 100000) (hG : G ≤ 10000)
    (hst : F_m_stands_1 plo so bo (-1) = st) (hs1 : -5000000 ≤ st.toInt) (hs2 : st.toInt ≤ 5000000) :
    gOk (fun w x y z => F_m_greatest_20 (nI G) (nI p) plo so (nI g) (nI b) bo w x y z) v g b wy (if wy = 1 then ((wy * (st - nI p)) - nI G) else 1000000000) := by
  intro hi d hlo hhi hd
  have e9 : (1000000000 : Int32).toInt = 1000000000 := by decide
  generalize hr : (if wy = 1 then ((wy * (st - nI p)) - nI G) else 1000000000) = room
  refine (gr_same (lo := v - b) (hi := hi) (P := fun w => (d = -1 ∨ ((w + lenF w g w : Nat) : Int) ≤ d.toInt) ∧ ¬ F_m_isFree_20 (nI G) (nI p) plo so (nI b) bo wy (nI w) = 0) (Q := okS g b (if d = -1 then 1000000000 else d) room) hlo (fun u w h1 h2 h3 => okS_mono hg (by omega) h1 h3) ?_ (mg20 hg (by omega) hhi hlo) (gs_spec hg (by omega) (by omega) hb (by omega) (by omega) hlo)).symm
  intro z h1 h2
  have hf := free_20 (u := z) (b := b) (p := p) (G := G) (plo := plo) (so := so) (bo := bo) (wy := wy) (st := st) (by omega) hb (by omega) hp hG hst hs1 hs2
  rw [hr] at hf
  have s1 := lenF_le g z z
  have s3 : z * z ≤ 4000 * 4000 := Nat.mul_le_mul (by omega) (by omega)
  show ((d = -1 ∨ ((z + lenF z g z : Nat) : Int) ≤ d.toInt) ∧ ¬ F_m_isFree_20 (nI G) (nI p) plo so (nI b) bo wy (nI z) = 0) ↔ _
  rw [hf]
  unfold okS
  by_cases hd1 : d = -1
  · rw [if_pos hd1, e9]
    constructor
    · intro h; exact ⟨by omega, h.2⟩
    · intro h; exact ⟨Or.inl hd1, h.2⟩
  · rw [if_neg hd1]
    constructor
    · intro h
      rcases h.1 with h3 | h3
      · exact absurd h3 hd1
      · exact ⟨h3, h.2⟩
    · intro h; exact ⟨Or.inr h.1, h.2⟩
theorem nX_21 (gp pl0 pl1 s0 s1 mo g b0 b1 sl ri dr lo ml mode want : Int32) : F_m_next_21 gp pl0 pl1 s0 s1 mo g b0 b1 sl ri dr lo ml mode want = nX (fun w x y z => F_m_greatest_21 gp pl0 pl1 s0 g b0 b1 w x y z) pl1 s1 mo g b1 sl ri dr lo ml mode want := rfl
theorem mg21 {g lo hi : Nat} {gp pl0 pl1 so b0 b1 wy p4 : Int32} (hg : 1 ≤ g) (hgm : g ≤ 1000) (hhi : hi ≤ 4000) (hlo : lo ≤ hi) :
    (∃ w, lo ≤ w ∧ w ≤ hi ∧ ((p4 = -1 ∨ ((w + lenF w g w : Nat) : Int) ≤ p4.toInt) ∧ ¬ F_m_isFree_21 gp pl0 pl1 so b0 b1 wy (nI w) = 0) ∧ (∀ z, w < z → z ≤ hi → ¬ ((p4 = -1 ∨ ((z + lenF z g z : Nat) : Int) ≤ p4.toInt) ∧ ¬ F_m_isFree_21 gp pl0 pl1 so b0 b1 wy (nI z) = 0)) ∧ F_m_greatest_21 gp pl0 pl1 so (nI g) b0 b1 wy (nI lo) (nI hi) p4 = nI w) ∨
    ((∀ z, lo ≤ z → z ≤ hi → ¬ ((p4 = -1 ∨ ((z + lenF z g z : Nat) : Int) ≤ p4.toInt) ∧ ¬ F_m_isFree_21 gp pl0 pl1 so b0 b1 wy (nI z) = 0)) ∧ F_m_greatest_21 gp pl0 pl1 so (nI g) b0 b1 wy (nI lo) (nI hi) p4 = -1) := by
  unfold F_m_greatest_21
  rw [nI_toInt (by omega), nI_toInt (by omega)]
  refine gr_gen (fun fu ub uu => L_m_greatest_21_6 gp pl0 pl1 so (nI g) b0 b1 wy (nI hi) p4 fu ub uu) hi (fun z => (p4 = -1 ∨ ((z + lenF z g z : Nat) : Int) ≤ p4.toInt) ∧ ¬ F_m_isFree_21 gp pl0 pl1 so b0 b1 wy (nI z) = 0) ?_ ?_ ?_ (hi + 1 - lo) lo (-1) _ (by omega) (by omega)
  · intro fu ub
    show L_m_greatest_21_6 gp pl0 pl1 so (nI g) b0 b1 wy (nI hi) p4 (fu + 1) ub (nI (hi + 1)) = ub
    rw [L_m_greatest_21_6_u, if_pos (nI_lt (by omega) (by omega))]
  · intro fu ub u hu h
    show L_m_greatest_21_6 gp pl0 pl1 so (nI g) b0 b1 wy (nI hi) p4 (fu + 1) ub (nI u) = L_m_greatest_21_6 gp pl0 pl1 so (nI g) b0 b1 wy (nI hi) p4 fu (nI u) (nI (u + 1))
    rw [L_m_greatest_21_6_u, if_neg (nI_nlt hu (by omega)), nI_s]
    simp only [cb]
    by_cases h4 : p4 = -1
    · rw [if_pos h4, if_neg h.2]
    · rw [if_neg h4, F_m_length_nI hg hgm (by omega), nI_add, if_neg, if_neg h.2]
      rw [nI_lt_iff (sum_lt (by omega))]
      rcases h.1 with h | h
      · exact absurd h h4
      · omega
  · intro fu ub u hu h
    show L_m_greatest_21_6 gp pl0 pl1 so (nI g) b0 b1 wy (nI hi) p4 (fu + 1) ub (nI u) = L_m_greatest_21_6 gp pl0 pl1 so (nI g) b0 b1 wy (nI hi) p4 fu ub (nI (u + 1))
    rw [L_m_greatest_21_6_u, if_neg (nI_nlt hu (by omega)), nI_s]
    simp only [cb]
    by_cases hf : F_m_isFree_21 gp pl0 pl1 so b0 b1 wy (nI u) = 0
    · rw [if_pos hf]
      simp only [ite_self]
    · have h' : ¬ (p4 = -1 ∨ ((u + lenF u g u : Nat) : Int) ≤ p4.toInt) := fun q => h ⟨q, hf⟩
      rw [if_neg (fun e => h' (Or.inl e)), F_m_length_nI hg hgm (by omega), nI_add, if_pos]
      rw [nI_lt_iff (sum_lt (by omega))]
      rcases Int.lt_or_le p4.toInt (((u + lenF u g u : Nat) : Int)) with q | q
      · exact q
      · exact absurd (Or.inr q) h'
theorem free_21 {u b p G : Nat} {plo so bo wy st : Int32} (hb1 : 1 ≤ b) (hb : b ≤ 1000) (hu : u ≤ 4000) (hp : p ≤ 100000) (hG : G ≤ 10000)
    (hst : F_m_stands_0 plo so bo (1) = st) (hs1 : -5000000 ≤ st.toInt) (hs2 : st.toInt ≤ 5000000) :
    (¬ F_m_isFree_21 (nI G) plo (nI p) so bo (nI b) wy (nI u) = 0) ↔ ((u + lenF u b u : Nat) : Int) ≤ (if wy = (-1) then ((wy * (st - nI p)) - nI G) else 1000000000).toInt := by
  have s1 := lenF_le b u u
  have s3 : u * u ≤ 4000 * 4000 := Nat.mul_le_mul hu hu
  unfold F_m_isFree_21
  rw [F_m_length_nI hb1 hb (by omega), hst]
  simp only [cb]
  by_cases h : wy = (-1)
  · subst h
    rw [if_pos rfl, if_pos rfl, im1_mul, im1_mul, nI_add]
    have e1 := nI_toInt (n := p) (by omega)
    have e2 := nI_toInt (n := G) (by omega)
    have e3 := nI_toInt (n := u + lenF u b u) (by omega)
    have e4 : (st - nI p).toInt = st.toInt - p := by rw [i_sub (by omega) (by omega), e1]
    have e7 : (-(st - nI p)).toInt = -(st.toInt - p) := by rw [i_neg (by omega) (by omega), e4]
    have e5 : (-(st - nI p) - nI G).toInt = -(st.toInt - p) - G := by rw [i_sub (by omega) (by omega), e7, e2]
    have e8 : (-nI (u + lenF u b u)).toInt = -((u + lenF u b u : Nat) : Int) := by rw [i_neg (by omega) (by omega), e3]
    have e10 : (nI p + -nI (u + lenF u b u)).toInt = p + -((u + lenF u b u : Nat) : Int) := by rw [i_add (by omega) (by omega), e1, e8]
    have e6 : (nI p + -nI (u + lenF u b u) - nI G).toInt = p + -((u + lenF u b u : Nat) : Int) - G := by rw [i_sub (by omega) (by omega), e10, e2]
    rw [e5]
    by_cases h5 : nI p + -nI (u + lenF u b u) - nI G < st
    · rw [if_pos h5]
      rw [Int32.lt_iff_toInt_lt, e6] at h5
      constructor
      · intro q; exact absurd rfl q
      · intro q; omega
    · rw [if_neg h5]
      rw [Int32.lt_iff_toInt_lt, e6] at h5
      constructor
      · intro _; omega
      · intro _; decide
  · rw [if_neg h, if_neg h]
    have e9 : (1000000000 : Int32).toInt = 1000000000 := by decide
    rw [e9]
    constructor
    · intro _; omega
    · intro _; decide
theorem gOk_21 {v g b p G : Nat} {plo so bo wy st : Int32} (hg : 1 ≤ g) (hgb : g ≤ b) (hb : b ≤ 1000) (hv : v ≤ 2000) (hp : p ≤ 100000) (hG : G ≤ 10000)
    (hst : F_m_stands_0 plo so bo (1) = st) (hs1 : -5000000 ≤ st.toInt) (hs2 : st.toInt ≤ 5000000) :
    gOk (fun w x y z => F_m_greatest_21 (nI G) plo (nI p) so (nI g) bo (nI b) w x y z) v g b wy (if wy = (-1) then ((wy * (st - nI p)) - nI G) else 1000000000) := by
  intro hi d hlo hhi hd
  have e9 : (1000000000 : Int32).toInt = 1000000000 := by decide
  generalize hr : (if wy = (-1) then ((wy * (st - nI p)) - nI G) else 1000000000) = room
  refine (gr_same (lo := v - b) (hi := hi) (P := fun w => (d = -1 ∨ ((w + lenF w g w : Nat) : Int) ≤ d.toInt) ∧ ¬ F_m_isFree_21 (nI G) plo (nI p) so bo (nI b) wy (nI w) = 0) (Q := okS g b (if d = -1 then 1000000000 else d) room) hlo (fun u w h1 h2 h3 => okS_mono hg (by omega) h1 h3) ?_ (mg21 hg (by omega) hhi hlo) (gs_spec hg (by omega) (by omega) hb (by omega) (by omega) hlo)).symm
  intro z h1 h2
  have hf := free_21 (u := z) (b := b) (p := p) (G := G) (plo := plo) (so := so) (bo := bo) (wy := wy) (st := st) (by omega) hb (by omega) hp hG hst hs1 hs2
  rw [hr] at hf
  have s1 := lenF_le g z z
  have s3 : z * z ≤ 4000 * 4000 := Nat.mul_le_mul (by omega) (by omega)
  show ((d = -1 ∨ ((z + lenF z g z : Nat) : Int) ≤ d.toInt) ∧ ¬ F_m_isFree_21 (nI G) plo (nI p) so bo (nI b) wy (nI z) = 0) ↔ _
  rw [hf]
  unfold okS
  by_cases hd1 : d = -1
  · rw [if_pos hd1, e9]
    constructor
    · intro h; exact ⟨by omega, h.2⟩
    · intro h; exact ⟨Or.inl hd1, h.2⟩
  · rw [if_neg hd1]
    constructor
    · intro h
      rcases h.1 with h3 | h3
      · exact absurd h3 hd1
      · exact ⟨h3, h.2⟩
    · intro h; exact ⟨Or.inr h.1, h.2⟩
