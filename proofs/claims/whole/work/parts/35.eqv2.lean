/-! Calls of class and reference, the rest. -/
theorem bit_core : ∀ j : Nat, j < 8 → ∀ x : BitVec 32, (x &&& BitVec.twoPow 32 j = 0#32 ↔ x.getLsbD j = false) := by
  intro j hj x
  rw [BitVec.and_twoPow]
  cases h : x.getLsbD j with
  | false => simp
  | true =>
    simp only [if_true]
    constructor
    · intro e
      have e2 := congrArg (fun z => BitVec.getLsbD z j) e
      simp [BitVec.getLsbD_twoPow] at e2
      omega
    · intro e; exact absurd e (by decide)
theorem bit_sh : ∀ j : Nat, j < 8 → ∀ x : BitVec 32, ((x.sshiftRight j) &&& 1#32 = 1#32 ↔ x.getLsbD j = true) := by
  intro j hj x
  constructor
  · intro e
    have e2 : ((x.sshiftRight j) &&& 1#32).getLsbD 0 = (1#32).getLsbD 0 := by rw [e]
    rw [BitVec.getLsbD_and, BitVec.getLsbD_sshiftRight, if_pos (by omega)] at e2
    simpa using e2
  · intro e
    apply BitVec.eq_of_getLsbD_eq
    intro i hi
    rw [BitVec.getLsbD_and, BitVec.getLsbD_sshiftRight]
    by_cases h0 : i = 0
    · subst h0
      simp [e]
      omega
    · have : (1#32).getLsbD i = false := by
        rw [show (1#32) = BitVec.twoPow 32 0 from rfl, BitVec.getLsbD_twoPow]
        simp
        omega
      rw [this]
      simp
theorem bit_off : ∀ j : Nat, j < 8 → ∀ x : BitVec 32, x.getLsbD j = false → (x &&& (BitVec.twoPow 32 j ^^^ 4294967295#32) = x ∧ x ||| BitVec.twoPow 32 j = x ^^^ BitVec.twoPow 32 j) := by
  intro j hj x hx
  constructor
  · apply BitVec.eq_of_getLsbD_eq
    intro i hi
    rw [BitVec.getLsbD_and, BitVec.getLsbD_xor, BitVec.getLsbD_twoPow, show (4294967295#32) = BitVec.allOnes 32 from rfl, BitVec.getLsbD_allOnes]
    by_cases e : j = i
    · subst e; simp [hx]
    · simp [e, hi]
  · apply BitVec.eq_of_getLsbD_eq
    intro i hi
    rw [BitVec.getLsbD_or, BitVec.getLsbD_xor, BitVec.getLsbD_twoPow]
    by_cases e : j = i
    · subst e; simp [hx]
    · simp [e]
theorem bit_on : ∀ j : Nat, j < 8 → ∀ x : BitVec 32, x.getLsbD j = true → (x &&& (BitVec.twoPow 32 j ^^^ 4294967295#32) = x ^^^ BitVec.twoPow 32 j ∧ x ||| BitVec.twoPow 32 j = x) := by
  intro j hj x hx
  constructor
  · apply BitVec.eq_of_getLsbD_eq
    intro i hi
    rw [BitVec.getLsbD_and, BitVec.getLsbD_xor, BitVec.getLsbD_xor, BitVec.getLsbD_twoPow, show (4294967295#32) = BitVec.allOnes 32 from rfl, BitVec.getLsbD_allOnes]
    by_cases e : j = i
    · subst e; simp [hx]
      try omega
    · simp [e, hi]
  · apply BitVec.eq_of_getLsbD_eq
    intro i hi
    rw [BitVec.getLsbD_or, BitVec.getLsbD_twoPow]
    by_cases e : j = i
    · subst e; simp [hx]
    · simp [e]
theorem tp_lit {p1 : Int32} {j : Nat} (hj : j ≤ 7) (h : p1 = nI j) : ((1 : Int32) <<< (p1 &&& 31)).toBitVec = BitVec.twoPow 32 j := by
  subst h
  rcases (show j = 0 ∨ j = 1 ∨ j = 2 ∨ j = 3 ∨ j = 4 ∨ j = 5 ∨ j = 6 ∨ j = 7 by omega) with rfl | rfl | rfl | rfl | rfl | rfl | rfl | rfl <;> decide +kernel
theorem sh_lit (x : Int32) {p1 : Int32} {j : Nat} (hj : j ≤ 7) (h : p1 = nI j) : (x >>> (p1 &&& 31)).toBitVec = x.toBitVec.sshiftRight j := by
  subst h
  rcases (show j = 0 ∨ j = 1 ∨ j = 2 ∨ j = 3 ∨ j = 4 ∨ j = 5 ∨ j = 6 ∨ j = 7 by omega) with rfl | rfl | rfl | rfl | rfl | rfl | rfl | rfl <;> rfl
theorem con_eq {x p1 : Int32} {j : Nat} (hj : j ≤ 7) (h : p1 = nI j) :
    ((x &&& ((1 : Int32) <<< (p1 &&& 31))) = 0 ∧ ¬ ((x >>> (p1 &&& 31)) &&& 1) = 1 ∧ (x &&& (((1 : Int32) <<< (p1 &&& 31)) ^^^ (-1))) = x ∧ (x ||| ((1 : Int32) <<< (p1 &&& 31))) = (x ^^^ ((1 : Int32) <<< (p1 &&& 31)))) ∨
    (¬ (x &&& ((1 : Int32) <<< (p1 &&& 31))) = 0 ∧ ((x >>> (p1 &&& 31)) &&& 1) = 1 ∧ (x &&& (((1 : Int32) <<< (p1 &&& 31)) ^^^ (-1))) = (x ^^^ ((1 : Int32) <<< (p1 &&& 31))) ∧ (x ||| ((1 : Int32) <<< (p1 &&& 31))) = x) := by
  have t1 := tp_lit hj h
  have t2 := sh_lit x hj h
  have b1 := bit_core j (by omega) x.toBitVec
  have b2 := bit_sh j (by omega) x.toBitVec
  have em : (-1 : Int32).toBitVec = 4294967295#32 := by decide
  cases hx : x.toBitVec.getLsbD j with
  | false =>
    have b3 := bit_off j (by omega) x.toBitVec hx
    refine Or.inl ⟨?_, ?_, ?_, ?_⟩
    · apply Int32.toBitVec_inj.mp; rw [Int32.toBitVec_and, t1]; exact b1.mpr hx
    · intro e
      have e2 := congrArg Int32.toBitVec e
      rw [Int32.toBitVec_and, t2] at e2
      rw [b2.mp e2] at hx
      exact absurd hx (by decide)
    · apply Int32.toBitVec_inj.mp; rw [Int32.toBitVec_and, Int32.toBitVec_xor, t1, em]; exact b3.1
    · apply Int32.toBitVec_inj.mp; rw [Int32.toBitVec_or, Int32.toBitVec_xor, t1]; exact b3.2
  | true =>
    have b3 := bit_on j (by omega) x.toBitVec hx
    refine Or.inr ⟨?_, ?_, ?_, ?_⟩
    · intro e
      have e2 := congrArg Int32.toBitVec e
      rw [Int32.toBitVec_and, t1] at e2
      rw [b1.mp e2] at hx
      exact absurd hx (by decide)
    · apply Int32.toBitVec_inj.mp; rw [Int32.toBitVec_and, t2]; exact b2.mpr hx
    · apply Int32.toBitVec_inj.mp; rw [Int32.toBitVec_and, Int32.toBitVec_xor, Int32.toBitVec_xor, t1, em]; exact b3.1
    · apply Int32.toBitVec_inj.mp; rw [Int32.toBitVec_or, t1]; exact b3.2
theorem E_contact_10 {v p1 p2 : Int32} {of of1 : Nat → Int64} {k a r t w : Int32} (hp : nb p2) (h1 : F_h_contact_0 v p1 p2 of = (k, a, of1)) (h2 : F_m_contact_10 v p1 p2 = (r, t, w)) :
    t = k ∧ (k = 0 → (r = 0 → of1 (0 : Int32).toNatClampNeg = 0) ∧ (¬ r = 0 → of1 (0 : Int32).toNatClampNeg = 1)) ∧ w = a := by
  rcases rin p1 0 7 with ⟨e1, e2, a1, a2⟩ | ⟨e1, e2⟩
  · obtain ⟨j, _, hj, hpj⟩ := rng (a := 0) (b := 7) (by decide) (by decide) a1 a2
    unfold F_h_contact_0 F_contact_0 at h1
    unfold F_m_contact_10 at h2
    rw [e2] at h1
    rw [e1] at h2
    simp only [cb] at h2
    rw [if_neg qn_10] at h2
    rcases con_eq (x := v) hj hpj with ⟨d1, d2, d3, d4⟩ | ⟨d1, d2, d3, d4⟩
    · rw [if_neg d2] at h2
      rw [if_pos d1] at h1
      rcases hp with rfl | rfl
      · rw [if_pos rfl] at h2
        rw [if_pos rfl] at h1
        have h1 : (0, (v &&& (((1 : Int32) <<< (p1 &&& 31)) ^^^ (-1))), vp_updL of (0 : Int32).toNatClampNeg 0) = (k, a, of1) := h1
        rw [d3] at h1
        cases h1; cases h2
        exact ⟨rfl, fun _ => ⟨fun _ => updL0, fun h => absurd rfl h⟩, rfl⟩
      · rw [if_neg qn_01] at h2
        rw [if_neg qn_10] at h1
        have h1 : (0, (v ||| ((1 : Int32) <<< (p1 &&& 31))), vp_updL of (0 : Int32).toNatClampNeg 0) = (k, a, of1) := h1
        rw [d4] at h1
        cases h1; cases h2
        exact ⟨rfl, fun _ => ⟨fun _ => updL0, fun h => absurd rfl h⟩, rfl⟩
    · rw [if_pos d2] at h2
      rw [if_neg d1] at h1
      rcases hp with rfl | rfl
      · rw [if_neg qn_10] at h2
        rw [if_pos rfl] at h1
        have h1 : (0, (v &&& (((1 : Int32) <<< (p1 &&& 31)) ^^^ (-1))), vp_updL of (0 : Int32).toNatClampNeg 1) = (k, a, of1) := h1
        rw [d3] at h1
        cases h1; cases h2
        exact ⟨rfl, fun _ => ⟨fun h => absurd h (by decide), fun _ => updL0⟩, rfl⟩
      · rw [if_pos rfl] at h2
        rw [if_neg qn_10] at h1
        have h1 : (0, (v ||| ((1 : Int32) <<< (p1 &&& 31))), vp_updL of (0 : Int32).toNatClampNeg 1) = (k, a, of1) := h1
        rw [d4] at h1
        cases h1; cases h2
        exact ⟨rfl, fun _ => ⟨fun h => absurd h (by decide), fun _ => updL0⟩, rfl⟩
  · have q1 : F_h_contact_0 v p1 p2 of = (1, v, of) := by unfold F_h_contact_0 F_contact_0; rw [e2]; rfl
    have q2 : F_m_contact_10 v p1 p2 = (0, 1, v) := by unfold F_m_contact_10; rw [e1]; rfl
    rw [q1] at h1; rw [q2] at h2; cases h1; cases h2
    exact ⟨rfl, fun h => absurd h (by decide), rfl⟩
theorem E_told_10 {n : Nat} {pf mh cf mc : Nat → Int32} {pw place speed way oc ff ri ds dp cc p1 : Int32} {of of1 : Nat → Int64} {k r t : Int32} (hs : shI n pf) (hr : shR n pf mh) (hc : caI n cc cf) (hf : fiI n ff) (hm : mc 0 = cf 0)
    (h1 : F_h_told_0 pw place speed way oc ff ri ds dp cc cf n pf p1 of = (k, of1)) (h2 : F_m_told_10 n (drk pw) mh place (way * speed) ds dp oc ff ri mc cc p1 = (r, t)) : t = k ∧ (k = 0 → of1 (0 : Int32).toNatClampNeg = r.toInt64) := by
  have key : ∀ z : Int32, F_told_0 pw place speed way oc ff ri ds dp cc cf n pf p1 = .inr z → F_m_told_10 n (drk pw) mh place (way * speed) ds dp oc ff ri mc cc p1 = (z, 0) → t = k ∧ (k = 0 → of1 (0 : Int32).toNatClampNeg = r.toInt64) := by
    intro z q1 q2
    unfold F_h_told_0 at h1
    rw [q1] at h1
    have h1 : (0, vp_updL of (0 : Int32).toNatClampNeg z.toInt64) = (k, of1) := h1
    rw [q2] at h2; cases h1; cases h2
    exact ⟨rfl, fun _ => updL0⟩
  have hm2 := (mode_eq oc ff ri pw)
  have hw2 : F_m_wanted_0 n (drk pw) mh place oc ff ri mc cc = F_wantedPlace place ff ri cc cf n pf (F_modeNow oc ff ri pw) := by rw [wanted_eq hs hr hc hf hm]
  have hfl := floorAt_eq (p0 := place) hs hr
  have fcl : ∀ z, (F_told_0 pw place speed way oc ff ri ds dp cc cf n pf p1 = z) = ((if p1 = 0 then .inr place else if p1 = 1 then .inr (speed * way) else if p1 = 2 then .inr (F_modeNow oc ff ri pw) else if p1 = 3 then .inr ds else if p1 = 4 then .inr dp else if p1 = 5 then .inr cc else if p1 = 6 then .inr (F_floorAt n pf place) else if p1 = 7 then .inr (F_wantedPlace place ff ri cc cf n pf (F_modeNow oc ff ri pw)) else .inl 1) = z) := fun _ => rfl
  rcases rin p1 0 7 with ⟨e1, e2, a1, a2⟩ | ⟨e1, e2⟩
  · obtain ⟨j, _, hj, rfl⟩ := rng (a := 0) (b := 7) (by decide) (by decide) a1 a2
    have rf : F_m_told_10 n (drk pw) mh place (way * speed) ds dp oc ff ri mc cc (nI j) = (if nI j = 0 then (place, 0) else if nI j = 1 then (way * speed, 0) else if nI j = 2 then (F_m_mode_0 (drk pw) oc ff ri, 0) else if nI j = 3 then (ds, 0) else if nI j = 4 then (dp, 0) else if nI j = 5 then (cc, 0) else if nI j = 6 then (F_m_floorAt n mh place, 0) else (F_m_wanted_0 n (drk pw) mh place oc ff ri mc cc, 0)) := by
      unfold F_m_told_10
      rw [e1]; rfl
    rw [hm2, hw2, hfl] at rf
    rcases (show j = 0 ∨ j = 1 ∨ j = 2 ∨ j = 3 ∨ j = 4 ∨ j = 5 ∨ j = 6 ∨ j = 7 by omega) with rfl | rfl | rfl | rfl | rfl | rfl | rfl | rfl
    · exact key place rfl (rf.trans rfl)
    · exact key (way * speed) (by rw [Int32.mul_comm]; rfl) (rf.trans rfl)
    · exact key _ rfl (rf.trans rfl)
    · exact key _ rfl (rf.trans rfl)
    · exact key _ rfl (rf.trans rfl)
    · exact key _ rfl (rf.trans rfl)
    · exact key _ rfl (rf.trans rfl)
    · exact key _ rfl (rf.trans rfl)
  · have ne : ∀ j : Nat, j ≤ 7 → ¬ p1 = nI j := by
      intro j hj e
      rw [e] at e1
      unfold F_m_in at e1
      rw [if_neg (nI_pos (by omega)), if_neg (show ¬ (7 : Int32) < nI j from nI_nlt (a := 7) hj (by decide))] at e1
      exact absurd e1 (by decide)
    have q1 : F_told_0 pw place speed way oc ff ri ds dp cc cf n pf p1 = .inl 1 := by
      rw [fcl, if_neg (show ¬ p1 = 0 from ne 0 (by decide)), if_neg (show ¬ p1 = 1 from ne 1 (by decide)), if_neg (show ¬ p1 = 2 from ne 2 (by decide)), if_neg (show ¬ p1 = 3 from ne 3 (by decide)), if_neg (show ¬ p1 = 4 from ne 4 (by decide)), if_neg (show ¬ p1 = 5 from ne 5 (by decide)), if_neg (show ¬ p1 = 6 from ne 6 (by decide)), if_neg (show ¬ p1 = 7 from ne 7 (by decide))]
    have q2 : F_m_told_10 n (drk pw) mh place (way * speed) ds dp oc ff ri mc cc p1 = (0, 1) := by unfold F_m_told_10; rw [e1]; rfl
    unfold F_h_told_0 at h1
    rw [q1] at h1
    have h1 : (1, of) = (k, of1) := h1
    rw [q2] at h2; cases h1; cases h2
    exact ⟨rfl, fun h => absurd h (by decide)⟩
theorem E_wear_10 {w0 w1 w2 w3 w4 w5 p1 : Int32} {of of1 : Nat → Int64} {k r t : Int32} (h1 : F_h_wear_0 w0 w1 w2 w3 w4 w5 p1 of = (k, of1)) (h2 : F_m_wear_10 w0 w1 w2 w3 w4 w5 p1 = (r, t)) : t = k ∧ (k = 0 → of1 (0 : Int32).toNatClampNeg = r.toInt64) := by
  have key : ∀ z : Int32, F_wear_0 w0 w1 w2 w3 w4 w5 p1 = .inr z → F_m_wear_10 w0 w1 w2 w3 w4 w5 p1 = (z, 0) → t = k ∧ (k = 0 → of1 (0 : Int32).toNatClampNeg = r.toInt64) := by
    intro z q1 q2
    unfold F_h_wear_0 at h1
    rw [q1] at h1
    have h1 : (0, vp_updL of (0 : Int32).toNatClampNeg z.toInt64) = (k, of1) := h1
    rw [q2] at h2; cases h1; cases h2
    exact ⟨rfl, fun _ => updL0⟩
  rcases rin p1 0 5 with ⟨e1, e2, a1, a2⟩ | ⟨e1, e2⟩
  · obtain ⟨j, _, hj, rfl⟩ := rng (a := 0) (b := 5) (by decide) (by decide) a1 a2
    rcases (show j = 0 ∨ j = 1 ∨ j = 2 ∨ j = 3 ∨ j = 4 ∨ j = 5 by omega) with rfl | rfl | rfl | rfl | rfl | rfl
    · exact key _ rfl rfl
    · exact key _ rfl rfl
    · exact key _ rfl rfl
    · exact key _ rfl rfl
    · exact key _ rfl rfl
    · exact key _ rfl rfl
  · have ne : ∀ j : Nat, j ≤ 5 → ¬ p1 = nI j := by
      intro j hj e
      rw [e] at e1
      unfold F_m_in at e1
      rw [if_neg (nI_pos (by omega)), if_neg (show ¬ (5 : Int32) < nI j from nI_nlt (a := 5) hj (by decide))] at e1
      exact absurd e1 (by decide)
    have n0 : ¬ p1 = 0 := ne 0 (by decide)
    have n1 : ¬ p1 = 1 := ne 1 (by decide)
    have n2 : ¬ p1 = 2 := ne 2 (by decide)
    have n3 : ¬ p1 = 3 := ne 3 (by decide)
    have n4 : ¬ p1 = 4 := ne 4 (by decide)
    have n5 : ¬ p1 = 5 := ne 5 (by decide)
    have q1 : F_wear_0 w0 w1 w2 w3 w4 w5 p1 = .inl 1 := by
      have fcl : F_wear_0 w0 w1 w2 w3 w4 w5 p1 = (if p1 = 0 then .inr w0 else if p1 = 1 then .inr w1 else if p1 = 2 then .inr w2 else if p1 = 3 then .inr w3 else if p1 = 4 then .inr w4 else if p1 = 5 then .inr w5 else .inl 1) := rfl
      rw [fcl, if_neg n0, if_neg n1, if_neg n2, if_neg n3, if_neg n4, if_neg n5]
    have q2 : F_m_wear_10 w0 w1 w2 w3 w4 w5 p1 = (0, 1) := by
      unfold F_m_wear_10
      rw [if_neg n0, if_neg n1, if_neg n2, if_neg n3, if_neg n4, if_neg n5, e1]; rfl
    unfold F_h_wear_0 at h1
    rw [q1] at h1
    have h1 : (1, of) = (k, of1) := h1
    rw [q2] at h2; cases h1; cases h2
    exact ⟨rfl, fun h => absurd h (by decide)⟩
theorem E_contact_20 {v p1 p2 : Int32} {of of1 : Nat → Int64} {k a r t w : Int32} (hp : nb p2) (h1 : F_h_contact_0 v p1 p2 of = (k, a, of1)) (h2 : F_m_contact_20 v p1 p2 = (r, t, w)) :
    t = k ∧ (k = 0 → (r = 0 → of1 (0 : Int32).toNatClampNeg = 0) ∧ (¬ r = 0 → of1 (0 : Int32).toNatClampNeg = 1)) ∧ w = a := by
  rcases rin p1 0 7 with ⟨e1, e2, a1, a2⟩ | ⟨e1, e2⟩
  · obtain ⟨j, _, hj, hpj⟩ := rng (a := 0) (b := 7) (by decide) (by decide) a1 a2
    unfold F_h_contact_0 F_contact_0 at h1
    unfold F_m_contact_20 at h2
    rw [e2] at h1
    rw [e1] at h2
    simp only [cb] at h2
    rw [if_neg qn_10] at h2
    rcases con_eq (x := v) hj hpj with ⟨d1, d2, d3, d4⟩ | ⟨d1, d2, d3, d4⟩
    · rw [if_neg d2] at h2
      rw [if_pos d1] at h1
      rcases hp with rfl | rfl
      · rw [if_pos rfl] at h2
        rw [if_pos rfl] at h1
        have h1 : (0, (v &&& (((1 : Int32) <<< (p1 &&& 31)) ^^^ (-1))), vp_updL of (0 : Int32).toNatClampNeg 0) = (k, a, of1) := h1
        rw [d3] at h1
        cases h1; cases h2
        exact ⟨rfl, fun _ => ⟨fun _ => updL0, fun h => absurd rfl h⟩, rfl⟩
      · rw [if_neg qn_01] at h2
        rw [if_neg qn_10] at h1
        have h1 : (0, (v ||| ((1 : Int32) <<< (p1 &&& 31))), vp_updL of (0 : Int32).toNatClampNeg 0) = (k, a, of1) := h1
        rw [d4] at h1
        cases h1; cases h2
        exact ⟨rfl, fun _ => ⟨fun _ => updL0, fun h => absurd rfl h⟩, rfl⟩
    · rw [if_pos d2] at h2
      rw [if_neg d1] at h1
      rcases hp with rfl | rfl
      · rw [if_neg qn_10] at h2
        rw [if_pos rfl] at h1
        have h1 : (0, (v &&& (((1 : Int32) <<< (p1 &&& 31)) ^^^ (-1))), vp_updL of (0 : Int32).toNatClampNeg 1) = (k, a, of1) := h1
        rw [d3] at h1
        cases h1; cases h2
        exact ⟨rfl, fun _ => ⟨fun h => absurd h (by decide), fun _ => updL0⟩, rfl⟩
      · rw [if_pos rfl] at h2
        rw [if_neg qn_10] at h1
        have h1 : (0, (v ||| ((1 : Int32) <<< (p1 &&& 31))), vp_updL of (0 : Int32).toNatClampNeg 1) = (k, a, of1) := h1
        rw [d4] at h1
        cases h1; cases h2
        exact ⟨rfl, fun _ => ⟨fun h => absurd h (by decide), fun _ => updL0⟩, rfl⟩
  · have q1 : F_h_contact_0 v p1 p2 of = (1, v, of) := by unfold F_h_contact_0 F_contact_0; rw [e2]; rfl
    have q2 : F_m_contact_20 v p1 p2 = (0, 1, v) := by unfold F_m_contact_20; rw [e1]; rfl
    rw [q1] at h1; rw [q2] at h2; cases h1; cases h2
    exact ⟨rfl, fun h => absurd h (by decide), rfl⟩
theorem E_told_20 {n : Nat} {pf mh cf mc : Nat → Int32} {pw place speed way oc ff ri ds dp cc p1 : Int32} {of of1 : Nat → Int64} {k r t : Int32} (hs : shI n pf) (hr : shR n pf mh) (hc : caI n cc cf) (hf : fiI n ff) (hm : mc 0 = cf 0)
    (h1 : F_h_told_0 pw place speed way oc ff ri ds dp cc cf n pf p1 of = (k, of1)) (h2 : F_m_told_20 n (drk pw) mh place (way * speed) ds dp oc ff ri mc cc p1 = (r, t)) : t = k ∧ (k = 0 → of1 (0 : Int32).toNatClampNeg = r.toInt64) := by
  have key : ∀ z : Int32, F_told_0 pw place speed way oc ff ri ds dp cc cf n pf p1 = .inr z → F_m_told_20 n (drk pw) mh place (way * speed) ds dp oc ff ri mc cc p1 = (z, 0) → t = k ∧ (k = 0 → of1 (0 : Int32).toNatClampNeg = r.toInt64) := by
    intro z q1 q2
    unfold F_h_told_0 at h1
    rw [q1] at h1
    have h1 : (0, vp_updL of (0 : Int32).toNatClampNeg z.toInt64) = (k, of1) := h1
    rw [q2] at h2; cases h1; cases h2
    exact ⟨rfl, fun _ => updL0⟩
  have hm2 := (mode_eq oc ff ri pw)
  have hw2 : F_m_wanted_0 n (drk pw) mh place oc ff ri mc cc = F_wantedPlace place ff ri cc cf n pf (F_modeNow oc ff ri pw) := by rw [wanted_eq hs hr hc hf hm]
  have hfl := floorAt_eq (p0 := place) hs hr
  have fcl : ∀ z, (F_told_0 pw place speed way oc ff ri ds dp cc cf n pf p1 = z) = ((if p1 = 0 then .inr place else if p1 = 1 then .inr (speed * way) else if p1 = 2 then .inr (F_modeNow oc ff ri pw) else if p1 = 3 then .inr ds else if p1 = 4 then .inr dp else if p1 = 5 then .inr cc else if p1 = 6 then .inr (F_floorAt n pf place) else if p1 = 7 then .inr (F_wantedPlace place ff ri cc cf n pf (F_modeNow oc ff ri pw)) else .inl 1) = z) := fun _ => rfl
  rcases rin p1 0 7 with ⟨e1, e2, a1, a2⟩ | ⟨e1, e2⟩
  · obtain ⟨j, _, hj, rfl⟩ := rng (a := 0) (b := 7) (by decide) (by decide) a1 a2
    have rf : F_m_told_20 n (drk pw) mh place (way * speed) ds dp oc ff ri mc cc (nI j) = (if nI j = 0 then (place, 0) else if nI j = 1 then (way * speed, 0) else if nI j = 2 then (F_m_mode_0 (drk pw) oc ff ri, 0) else if nI j = 3 then (ds, 0) else if nI j = 4 then (dp, 0) else if nI j = 5 then (cc, 0) else if nI j = 6 then (F_m_floorAt n mh place, 0) else (F_m_wanted_0 n (drk pw) mh place oc ff ri mc cc, 0)) := by
      unfold F_m_told_20
      rw [e1]; rfl
    rw [hm2, hw2, hfl] at rf
    rcases (show j = 0 ∨ j = 1 ∨ j = 2 ∨ j = 3 ∨ j = 4 ∨ j = 5 ∨ j = 6 ∨ j = 7 by omega) with rfl | rfl | rfl | rfl | rfl | rfl | rfl | rfl
    · exact key place rfl (rf.trans rfl)
    · exact key (way * speed) (by rw [Int32.mul_comm]; rfl) (rf.trans rfl)
    · exact key _ rfl (rf.trans rfl)
    · exact key _ rfl (rf.trans rfl)
    · exact key _ rfl (rf.trans rfl)
    · exact key _ rfl (rf.trans rfl)
    · exact key _ rfl (rf.trans rfl)
    · exact key _ rfl (rf.trans rfl)
  · have ne : ∀ j : Nat, j ≤ 7 → ¬ p1 = nI j := by
      intro j hj e
      rw [e] at e1
      unfold F_m_in at e1
      rw [if_neg (nI_pos (by omega)), if_neg (show ¬ (7 : Int32) < nI j from nI_nlt (a := 7) hj (by decide))] at e1
      exact absurd e1 (by decide)
    have q1 : F_told_0 pw place speed way oc ff ri ds dp cc cf n pf p1 = .inl 1 := by
      rw [fcl, if_neg (show ¬ p1 = 0 from ne 0 (by decide)), if_neg (show ¬ p1 = 1 from ne 1 (by decide)), if_neg (show ¬ p1 = 2 from ne 2 (by decide)), if_neg (show ¬ p1 = 3 from ne 3 (by decide)), if_neg (show ¬ p1 = 4 from ne 4 (by decide)), if_neg (show ¬ p1 = 5 from ne 5 (by decide)), if_neg (show ¬ p1 = 6 from ne 6 (by decide)), if_neg (show ¬ p1 = 7 from ne 7 (by decide))]
    have q2 : F_m_told_20 n (drk pw) mh place (way * speed) ds dp oc ff ri mc cc p1 = (0, 1) := by unfold F_m_told_20; rw [e1]; rfl
    unfold F_h_told_0 at h1
    rw [q1] at h1
    have h1 : (1, of) = (k, of1) := h1
    rw [q2] at h2; cases h1; cases h2
    exact ⟨rfl, fun h => absurd h (by decide)⟩
theorem E_wear_20 {w0 w1 w2 w3 w4 w5 p1 : Int32} {of of1 : Nat → Int64} {k r t : Int32} (h1 : F_h_wear_0 w0 w1 w2 w3 w4 w5 p1 of = (k, of1)) (h2 : F_m_wear_20 w0 w1 w2 w3 w4 w5 p1 = (r, t)) : t = k ∧ (k = 0 → of1 (0 : Int32).toNatClampNeg = r.toInt64) := by
  have key : ∀ z : Int32, F_wear_0 w0 w1 w2 w3 w4 w5 p1 = .inr z → F_m_wear_20 w0 w1 w2 w3 w4 w5 p1 = (z, 0) → t = k ∧ (k = 0 → of1 (0 : Int32).toNatClampNeg = r.toInt64) := by
    intro z q1 q2
    unfold F_h_wear_0 at h1
    rw [q1] at h1
    have h1 : (0, vp_updL of (0 : Int32).toNatClampNeg z.toInt64) = (k, of1) := h1
    rw [q2] at h2; cases h1; cases h2
    exact ⟨rfl, fun _ => updL0⟩
  rcases rin p1 0 5 with ⟨e1, e2, a1, a2⟩ | ⟨e1, e2⟩
  · obtain ⟨j, _, hj, rfl⟩ := rng (a := 0) (b := 5) (by decide) (by decide) a1 a2
    rcases (show j = 0 ∨ j = 1 ∨ j = 2 ∨ j = 3 ∨ j = 4 ∨ j = 5 by omega) with rfl | rfl | rfl | rfl | rfl | rfl
    · exact key _ rfl rfl
    · exact key _ rfl rfl
    · exact key _ rfl rfl
    · exact key _ rfl rfl
    · exact key _ rfl rfl
    · exact key _ rfl rfl
  · have ne : ∀ j : Nat, j ≤ 5 → ¬ p1 = nI j := by
      intro j hj e
      rw [e] at e1
      unfold F_m_in at e1
      rw [if_neg (nI_pos (by omega)), if_neg (show ¬ (5 : Int32) < nI j from nI_nlt (a := 5) hj (by decide))] at e1
      exact absurd e1 (by decide)
    have n0 : ¬ p1 = 0 := ne 0 (by decide)
    have n1 : ¬ p1 = 1 := ne 1 (by decide)
    have n2 : ¬ p1 = 2 := ne 2 (by decide)
    have n3 : ¬ p1 = 3 := ne 3 (by decide)
    have n4 : ¬ p1 = 4 := ne 4 (by decide)
    have n5 : ¬ p1 = 5 := ne 5 (by decide)
    have q1 : F_wear_0 w0 w1 w2 w3 w4 w5 p1 = .inl 1 := by
      have fcl : F_wear_0 w0 w1 w2 w3 w4 w5 p1 = (if p1 = 0 then .inr w0 else if p1 = 1 then .inr w1 else if p1 = 2 then .inr w2 else if p1 = 3 then .inr w3 else if p1 = 4 then .inr w4 else if p1 = 5 then .inr w5 else .inl 1) := rfl
      rw [fcl, if_neg n0, if_neg n1, if_neg n2, if_neg n3, if_neg n4, if_neg n5]
    have q2 : F_m_wear_20 w0 w1 w2 w3 w4 w5 p1 = (0, 1) := by
      unfold F_m_wear_20
      rw [if_neg n0, if_neg n1, if_neg n2, if_neg n3, if_neg n4, if_neg n5, e1]; rfl
    unfold F_h_wear_0 at h1
    rw [q1] at h1
    have h1 : (1, of) = (k, of1) := h1
    rw [q2] at h2; cases h1; cases h2
    exact ⟨rfl, fun h => absurd h (by decide)⟩
theorem E_contact_21 {v p1 p2 : Int32} {of of1 : Nat → Int64} {k a r t w : Int32} (hp : nb p2) (h1 : F_h_contact_1 v p1 p2 of = (k, a, of1)) (h2 : F_m_contact_21 v p1 p2 = (r, t, w)) :
    t = k ∧ (k = 0 → (r = 0 → of1 (0 : Int32).toNatClampNeg = 0) ∧ (¬ r = 0 → of1 (0 : Int32).toNatClampNeg = 1)) ∧ w = a := by
  rcases rin p1 0 7 with ⟨e1, e2, a1, a2⟩ | ⟨e1, e2⟩
  · obtain ⟨j, _, hj, hpj⟩ := rng (a := 0) (b := 7) (by decide) (by decide) a1 a2
    unfold F_h_contact_1 F_contact_1 at h1
    unfold F_m_contact_21 at h2
    rw [e2] at h1
    rw [e1] at h2
    simp only [cb] at h2
    rw [if_neg qn_10] at h2
    rcases con_eq (x := v) hj hpj with ⟨d1, d2, d3, d4⟩ | ⟨d1, d2, d3, d4⟩
    · rw [if_neg d2] at h2
      rw [if_pos d1] at h1
      rcases hp with rfl | rfl
      · rw [if_pos rfl] at h2
        rw [if_pos rfl] at h1
        have h1 : (0, (v &&& (((1 : Int32) <<< (p1 &&& 31)) ^^^ (-1))), vp_updL of (0 : Int32).toNatClampNeg 0) = (k, a, of1) := h1
        rw [d3] at h1
        cases h1; cases h2
        exact ⟨rfl, fun _ => ⟨fun _ => updL0, fun h => absurd rfl h⟩, rfl⟩
      · rw [if_neg qn_01] at h2
        rw [if_neg qn_10] at h1
        have h1 : (0, (v ||| ((1 : Int32) <<< (p1 &&& 31))), vp_updL of (0 : Int32).toNatClampNeg 0) = (k, a, of1) := h1
        rw [d4] at h1
        cases h1; cases h2
        exact ⟨rfl, fun _ => ⟨fun _ => updL0, fun h => absurd rfl h⟩, rfl⟩
    · rw [if_pos d2] at h2
      rw [if_neg d1] at h1
      rcases hp with rfl | rfl
      · rw [if_neg qn_10] at h2
        rw [if_pos rfl] at h1
        have h1 : (0, (v &&& (((1 : Int32) <<< (p1 &&& 31)) ^^^ (-1))), vp_updL of (0 : Int32).toNatClampNeg 1) = (k, a, of1) := h1
        rw [d3] at h1
        cases h1; cases h2
        exact ⟨rfl, fun _ => ⟨fun h => absurd h (by decide), fun _ => updL0⟩, rfl⟩
      · rw [if_pos rfl] at h2
        rw [if_neg qn_10] at h1
        have h1 : (0, (v ||| ((1 : Int32) <<< (p1 &&& 31))), vp_updL of (0 : Int32).toNatClampNeg 1) = (k, a, of1) := h1
        rw [d4] at h1
        cases h1; cases h2
        exact ⟨rfl, fun _ => ⟨fun h => absurd h (by decide), fun _ => updL0⟩, rfl⟩
  · have q1 : F_h_contact_1 v p1 p2 of = (1, v, of) := by unfold F_h_contact_1 F_contact_1; rw [e2]; rfl
    have q2 : F_m_contact_21 v p1 p2 = (0, 1, v) := by unfold F_m_contact_21; rw [e1]; rfl
    rw [q1] at h1; rw [q2] at h2; cases h1; cases h2
    exact ⟨rfl, fun h => absurd h (by decide), rfl⟩
theorem E_told_21 {n : Nat} {pf mh cf mc : Nat → Int32} {pw place speed way oc ff ri ds dp cc p1 : Int32} {of of1 : Nat → Int64} {k r t : Int32} (hs : shI n pf) (hr : shR n pf mh) (hc : caI n cc cf) (hf : fiI n ff) (hm : mc 8 = cf 0)
    (h1 : F_h_told_1 pw place speed way oc ff ri ds dp cc cf n pf p1 of = (k, of1)) (h2 : F_m_told_21 n (drk pw) mh place (way * speed) ds dp oc ff ri mc cc p1 = (r, t)) : t = k ∧ (k = 0 → of1 (0 : Int32).toNatClampNeg = r.toInt64) := by
  have key : ∀ z : Int32, F_told_1 pw place speed way oc ff ri ds dp cc cf n pf p1 = .inr z → F_m_told_21 n (drk pw) mh place (way * speed) ds dp oc ff ri mc cc p1 = (z, 0) → t = k ∧ (k = 0 → of1 (0 : Int32).toNatClampNeg = r.toInt64) := by
    intro z q1 q2
    unfold F_h_told_1 at h1
    rw [q1] at h1
    have h1 : (0, vp_updL of (0 : Int32).toNatClampNeg z.toInt64) = (k, of1) := h1
    rw [q2] at h2; cases h1; cases h2
    exact ⟨rfl, fun _ => updL0⟩
  have hm2 := (mode_1 (drk pw) oc ff ri).trans (mode_eq oc ff ri pw)
  have hw2 : F_m_wanted_1 n (drk pw) mh place oc ff ri mc cc = F_wantedPlace place ff ri cc cf n pf (F_modeNow oc ff ri pw) := by rw [wanted_1, wanted_eq hs hr hc hf hm]
  have hfl := floorAt_eq (p0 := place) hs hr
  have fcl : ∀ z, (F_told_1 pw place speed way oc ff ri ds dp cc cf n pf p1 = z) = ((if p1 = 0 then .inr place else if p1 = 1 then .inr (speed * way) else if p1 = 2 then .inr (F_modeNow oc ff ri pw) else if p1 = 3 then .inr ds else if p1 = 4 then .inr dp else if p1 = 5 then .inr cc else if p1 = 6 then .inr (F_floorAt n pf place) else if p1 = 7 then .inr (F_wantedPlace place ff ri cc cf n pf (F_modeNow oc ff ri pw)) else .inl 1) = z) := fun _ => rfl
  rcases rin p1 0 7 with ⟨e1, e2, a1, a2⟩ | ⟨e1, e2⟩
  · obtain ⟨j, _, hj, rfl⟩ := rng (a := 0) (b := 7) (by decide) (by decide) a1 a2
    have rf : F_m_told_21 n (drk pw) mh place (way * speed) ds dp oc ff ri mc cc (nI j) = (if nI j = 0 then (place, 0) else if nI j = 1 then (way * speed, 0) else if nI j = 2 then (F_m_mode_1 (drk pw) oc ff ri, 0) else if nI j = 3 then (ds, 0) else if nI j = 4 then (dp, 0) else if nI j = 5 then (cc, 0) else if nI j = 6 then (F_m_floorAt n mh place, 0) else (F_m_wanted_1 n (drk pw) mh place oc ff ri mc cc, 0)) := by
      unfold F_m_told_21
      rw [e1]; rfl
    rw [hm2, hw2, hfl] at rf
    rcases (show j = 0 ∨ j = 1 ∨ j = 2 ∨ j = 3 ∨ j = 4 ∨ j = 5 ∨ j = 6 ∨ j = 7 by omega) with rfl | rfl | rfl | rfl | rfl | rfl | rfl | rfl
    · exact key place rfl (rf.trans rfl)
    · exact key (way * speed) (by rw [Int32.mul_comm]; rfl) (rf.trans rfl)
    · exact key _ rfl (rf.trans rfl)
    · exact key _ rfl (rf.trans rfl)
    · exact key _ rfl (rf.trans rfl)
    · exact key _ rfl (rf.trans rfl)
    · exact key _ rfl (rf.trans rfl)
    · exact key _ rfl (rf.trans rfl)
  · have ne : ∀ j : Nat, j ≤ 7 → ¬ p1 = nI j := by
      intro j hj e
      rw [e] at e1
      unfold F_m_in at e1
      rw [if_neg (nI_pos (by omega)), if_neg (show ¬ (7 : Int32) < nI j from nI_nlt (a := 7) hj (by decide))] at e1
      exact absurd e1 (by decide)
    have q1 : F_told_1 pw place speed way oc ff ri ds dp cc cf n pf p1 = .inl 1 := by
      rw [fcl, if_neg (show ¬ p1 = 0 from ne 0 (by decide)), if_neg (show ¬ p1 = 1 from ne 1 (by decide)), if_neg (show ¬ p1 = 2 from ne 2 (by decide)), if_neg (show ¬ p1 = 3 from ne 3 (by decide)), if_neg (show ¬ p1 = 4 from ne 4 (by decide)), if_neg (show ¬ p1 = 5 from ne 5 (by decide)), if_neg (show ¬ p1 = 6 from ne 6 (by decide)), if_neg (show ¬ p1 = 7 from ne 7 (by decide))]
    have q2 : F_m_told_21 n (drk pw) mh place (way * speed) ds dp oc ff ri mc cc p1 = (0, 1) := by unfold F_m_told_21; rw [e1]; rfl
    unfold F_h_told_1 at h1
    rw [q1] at h1
    have h1 : (1, of) = (k, of1) := h1
    rw [q2] at h2; cases h1; cases h2
    exact ⟨rfl, fun h => absurd h (by decide)⟩
theorem E_wear_21 {w0 w1 w2 w3 w4 w5 p1 : Int32} {of of1 : Nat → Int64} {k r t : Int32} (h1 : F_h_wear_1 w0 w1 w2 w3 w4 w5 p1 of = (k, of1)) (h2 : F_m_wear_21 w0 w1 w2 w3 w4 w5 p1 = (r, t)) : t = k ∧ (k = 0 → of1 (0 : Int32).toNatClampNeg = r.toInt64) := by
  have key : ∀ z : Int32, F_wear_1 w0 w1 w2 w3 w4 w5 p1 = .inr z → F_m_wear_21 w0 w1 w2 w3 w4 w5 p1 = (z, 0) → t = k ∧ (k = 0 → of1 (0 : Int32).toNatClampNeg = r.toInt64) := by
    intro z q1 q2
    unfold F_h_wear_1 at h1
    rw [q1] at h1
    have h1 : (0, vp_updL of (0 : Int32).toNatClampNeg z.toInt64) = (k, of1) := h1
    rw [q2] at h2; cases h1; cases h2
    exact ⟨rfl, fun _ => updL0⟩
  rcases rin p1 0 5 with ⟨e1, e2, a1, a2⟩ | ⟨e1, e2⟩
  · obtain ⟨j, _, hj, rfl⟩ := rng (a := 0) (b := 5) (by decide) (by decide) a1 a2
    rcases (show j = 0 ∨ j = 1 ∨ j = 2 ∨ j = 3 ∨ j = 4 ∨ j = 5 by omega) with rfl | rfl | rfl | rfl | rfl | rfl
    · exact key _ rfl rfl
    · exact key _ rfl rfl
    · exact key _ rfl rfl
    · exact key _ rfl rfl
    · exact key _ rfl rfl
    · exact key _ rfl rfl
  · have ne : ∀ j : Nat, j ≤ 5 → ¬ p1 = nI j := by
      intro j hj e
      rw [e] at e1
      unfold F_m_in at e1
      rw [if_neg (nI_pos (by omega)), if_neg (show ¬ (5 : Int32) < nI j from nI_nlt (a := 5) hj (by decide))] at e1
      exact absurd e1 (by decide)
    have n0 : ¬ p1 = 0 := ne 0 (by decide)
    have n1 : ¬ p1 = 1 := ne 1 (by decide)
    have n2 : ¬ p1 = 2 := ne 2 (by decide)
    have n3 : ¬ p1 = 3 := ne 3 (by decide)
    have n4 : ¬ p1 = 4 := ne 4 (by decide)
    have n5 : ¬ p1 = 5 := ne 5 (by decide)
    have q1 : F_wear_1 w0 w1 w2 w3 w4 w5 p1 = .inl 1 := by
      have fcl : F_wear_1 w0 w1 w2 w3 w4 w5 p1 = (if p1 = 0 then .inr w0 else if p1 = 1 then .inr w1 else if p1 = 2 then .inr w2 else if p1 = 3 then .inr w3 else if p1 = 4 then .inr w4 else if p1 = 5 then .inr w5 else .inl 1) := rfl
      rw [fcl, if_neg n0, if_neg n1, if_neg n2, if_neg n3, if_neg n4, if_neg n5]
    have q2 : F_m_wear_21 w0 w1 w2 w3 w4 w5 p1 = (0, 1) := by
      unfold F_m_wear_21
      rw [if_neg n0, if_neg n1, if_neg n2, if_neg n3, if_neg n4, if_neg n5, e1]; rfl
    unfold F_h_wear_1 at h1
    rw [q1] at h1
    have h1 : (1, of) = (k, of1) := h1
    rw [q2] at h2; cases h1; cases h2
    exact ⟨rfl, fun h => absurd h (by decide)⟩
theorem E_gap_0 {gap p0 : Int32} {of of1 : Nat → Int64} {k a r t w : Int32} (hg : gpI gap) (h1 : F_h_gap_n gap p0 of = (k, a, of1)) (h2 : F_m_gap_0 gap p0 = (r, t, w)) :
    t = k ∧ (k = 0 → of1 (0 : Int32).toNatClampNeg = r.toInt64) ∧ w = a ∧ gpI a := by
  rcases rin p0 0 10000 with ⟨e1, e2, a1, a2⟩ | ⟨e1, e2⟩
  · have q1 : F_h_gap_n gap p0 of = (0, p0, vp_updL of (0 : Int32).toNatClampNeg gap.toInt64) := by unfold F_h_gap_n F_gap_n; rw [e2]; rfl
    have q2 : F_m_gap_0 gap p0 = (gap, 0, p0) := by unfold F_m_gap_0; rw [e1]; rfl
    rw [q1] at h1; rw [q2] at h2; cases h1; cases h2
    obtain ⟨u, _, hu, rfl⟩ := rng (a := 0) (b := 10000) (by decide) (by decide) a1 a2
    exact ⟨rfl, fun _ => updL0, rfl, u, hu, rfl⟩
  · have q1 : F_h_gap_n gap p0 of = (1, gap, of) := by unfold F_h_gap_n F_gap_n; rw [e2]; rfl
    have q2 : F_m_gap_0 gap p0 = (0, 1, gap) := by unfold F_m_gap_0; rw [e1]; rfl
    rw [q1] at h1; rw [q2] at h2; cases h1; cases h2
    exact ⟨rfl, fun h => absurd h (by decide), rfl, hg⟩
theorem E_gap_1 {p0 k r t : Int32} (h1 : F_h_gap_c p0 = k) (h2 : F_m_gap_1 p0 = (r, t)) : t = k ∧ ¬ k = 0 := by
  rcases rin p0 0 10000 with ⟨e1, e2, a1, a2⟩ | ⟨e1, e2⟩
  · have q1 : F_h_gap_c p0 = 2 := by unfold F_h_gap_c F_gap_c; rw [e2]; rfl
    have q2 : F_m_gap_1 p0 = (0, 2) := by unfold F_m_gap_1; rw [e1]; rfl
    rw [q1] at h1; rw [q2] at h2; subst h1; cases h2
    exact ⟨rfl, by decide⟩
  · have q1 : F_h_gap_c p0 = 1 := by unfold F_h_gap_c F_gap_c; rw [e2]; rfl
    have q2 : F_m_gap_1 p0 = (0, 1) := by unfold F_m_gap_1; rw [e1]; rfl
    rw [q1] at h1; rw [q2] at h2; subst h1; cases h2
    exact ⟨rfl, by decide⟩
theorem E_height_1 {n : Nat} {p0 p1 k r t : Int32} (hn1 : 1 ≤ n) (hn : n ≤ 20) (h1 : F_h_height_c n p0 p1 = k) (h2 : F_m_height_1 n p0 p1 = (r, t)) : t = k ∧ ¬ k = 0 := by
  rcases fin1 (n := n) p0 hn1 hn with ⟨e1, e2, e3⟩ | ⟨e1, e2⟩
  · rcases rin p1 0 100000 with ⟨e4, e5, a1, a2⟩ | ⟨e4, e5⟩
    · have q1 : F_h_height_c n p0 p1 = 2 := by unfold F_h_height_c F_height_c; simp only [cb]; rw [e2, e5]; rfl
      have q2 : F_m_height_1 n p0 p1 = (0, 2) := by unfold F_m_height_1; rw [e1, e4]; rfl
      rw [q1] at h1; rw [q2] at h2; subst h1; cases h2
      exact ⟨rfl, by decide⟩
    · have q1 : F_h_height_c n p0 p1 = 1 := by unfold F_h_height_c F_height_c; simp only [cb]; rw [e2, e5]; rfl
      have q2 : F_m_height_1 n p0 p1 = (0, 1) := by unfold F_m_height_1; rw [e1, e4]; rfl
      rw [q1] at h1; rw [q2] at h2; subst h1; cases h2
      exact ⟨rfl, by decide⟩
  · have q1 : F_h_height_c n p0 p1 = 1 := by unfold F_h_height_c F_height_c; simp only [cb]; rw [e2]; rfl
    have q2 : F_m_height_1 n p0 p1 = (0, 1) := by unfold F_m_height_1; rw [e1]; rfl
    rw [q1] at h1; rw [q2] at h2; subst h1; cases h2
    exact ⟨rfl, by decide⟩
theorem E_gap_2 {p0 k r t : Int32} (h1 : F_h_gap_c p0 = k) (h2 : F_m_gap_2 p0 = (r, t)) : t = k ∧ ¬ k = 0 := by
  rcases rin p0 0 10000 with ⟨e1, e2, a1, a2⟩ | ⟨e1, e2⟩
  · have q1 : F_h_gap_c p0 = 2 := by unfold F_h_gap_c F_gap_c; rw [e2]; rfl
    have q2 : F_m_gap_2 p0 = (0, 2) := by unfold F_m_gap_2; rw [e1]; rfl
    rw [q1] at h1; rw [q2] at h2; subst h1; cases h2
    exact ⟨rfl, by decide⟩
  · have q1 : F_h_gap_c p0 = 1 := by unfold F_h_gap_c F_gap_c; rw [e2]; rfl
    have q2 : F_m_gap_2 p0 = (0, 1) := by unfold F_m_gap_2; rw [e1]; rfl
    rw [q1] at h1; rw [q2] at h2; subst h1; cases h2
    exact ⟨rfl, by decide⟩
theorem E_height_2 {n : Nat} {p0 p1 k r t : Int32} (hn1 : 1 ≤ n) (hn : n ≤ 20) (h1 : F_h_height_c n p0 p1 = k) (h2 : F_m_height_2 n p0 p1 = (r, t)) : t = k ∧ ¬ k = 0 := by
  rcases fin1 (n := n) p0 hn1 hn with ⟨e1, e2, e3⟩ | ⟨e1, e2⟩
  · rcases rin p1 0 100000 with ⟨e4, e5, a1, a2⟩ | ⟨e4, e5⟩
    · have q1 : F_h_height_c n p0 p1 = 2 := by unfold F_h_height_c F_height_c; simp only [cb]; rw [e2, e5]; rfl
      have q2 : F_m_height_2 n p0 p1 = (0, 2) := by unfold F_m_height_2; rw [e1, e4]; rfl
      rw [q1] at h1; rw [q2] at h2; subst h1; cases h2
      exact ⟨rfl, by decide⟩
    · have q1 : F_h_height_c n p0 p1 = 1 := by unfold F_h_height_c F_height_c; simp only [cb]; rw [e2, e5]; rfl
      have q2 : F_m_height_2 n p0 p1 = (0, 1) := by unfold F_m_height_2; rw [e1, e4]; rfl
      rw [q1] at h1; rw [q2] at h2; subst h1; cases h2
      exact ⟨rfl, by decide⟩
  · have q1 : F_h_height_c n p0 p1 = 1 := by unfold F_h_height_c F_height_c; simp only [cb]; rw [e2]; rfl
    have q2 : F_m_height_2 n p0 p1 = (0, 1) := by unfold F_m_height_2; rw [e1]; rfl
    rw [q1] at h1; rw [q2] at h2; subst h1; cases h2
    exact ⟨rfl, by decide⟩
theorem E_car_2 {n : Nat} {pf : Nat → Int32} {p0 k r t : Int32} (hn1 : 1 ≤ n) (hn : n ≤ 20) (h1 : F_h_car_2 n pf p0 = k) (h2 : F_m_car_2 n p0 = (r, t)) : t = k ∧ ¬ k = 0 := by
  rcases fin1 (n := n) p0 hn1 hn with ⟨e1, e2, e3⟩ | ⟨e1, e2⟩
  · have q1 : F_h_car_2 n pf p0 = 2 := by unfold F_h_car_2 F_car_2; simp only [cb]; rw [e2]; rfl
    have q2 : F_m_car_2 n p0 = (0, 2) := by unfold F_m_car_2; rw [e1]; rfl
    rw [q1] at h1; rw [q2] at h2; subst h1; cases h2
    exact ⟨rfl, by decide⟩
  · have q1 : F_h_car_2 n pf p0 = 1 := by unfold F_h_car_2 F_car_2; simp only [cb]; rw [e2]; rfl
    have q2 : F_m_car_2 n p0 = (0, 1) := by unfold F_m_car_2; rw [e1]; rfl
    rw [q1] at h1; rw [q2] at h2; subst h1; cases h2
    exact ⟨rfl, by decide⟩
/-- the two of a new car -/
theorem E_car_0 {n : Nat} {pf mh : Nat → Int32} {p0 : Int32} (hs : shI n pf) (hr : shR n pf mh) :
    (F_car_0 n pf p0 = .inl 1 ∧ F_m_isFloor n p0 = 0) ∨ ∃ q : Nat, q ≤ 100000 ∧ F_car_0 n pf p0 = .inr (0, nI q) ∧ F_m_isFloor n p0 = 1 ∧ mh p0.toNatClampNeg = nI q := by
  have hn1 := hs.1
  have hn := hs.2.1
  rcases fin1 (n := n) p0 hn1 hn with ⟨e1, e2, f, hf, rfl⟩ | ⟨e1, e2⟩
  · obtain ⟨q, hq, e⟩ := sh_b hs f hf
    refine Or.inr ⟨q, hq, ?_, e1, ?_⟩
    · unfold F_car_0
      simp only [cb]
      rw [e2, plOf hf hn, e]; rfl
    · rw [nI_clamp (by omega), hr f hf, e]
  · refine Or.inl ⟨?_, e1⟩
    unfold F_car_0
    simp only [cb]
    rw [e2]; rfl
theorem E_car_1 {n : Nat} {pf mh : Nat → Int32} {gap place speed way V g b R I p0 : Int32} (hs : shI n pf) (hr : shR n pf mh) (hg : gpI gap) (hk : kiI place speed way V g b R I) :
    (F_car_1 gap n pf 1 place speed way b p0 = .inl 1 ∧ F_m_isFloor n p0 = 0) ∨ ∃ q : Nat, q ≤ 100000 ∧ F_m_isFloor n p0 = 1 ∧ mh p0.toNatClampNeg = nI q ∧
      ((F_car_1 gap n pf 1 place speed way b p0 = .inl 2 ∧ (mh p0.toNatClampNeg - gap) < F_m_stands_0 place (way * speed) b 1) ∨ (F_car_1 gap n pf 1 place speed way b p0 = .inr (1, nI q) ∧ ¬ (mh p0.toNatClampNeg - gap) < F_m_stands_0 place (way * speed) b 1)) := by
  have hn1 := hs.1
  have hn := hs.2.1
  rcases fin1 (n := n) p0 hn1 hn with ⟨e1, e2, f, hf, rfl⟩ | ⟨e1, e2⟩
  · obtain ⟨q, hq, e⟩ := sh_b hs f hf
    obtain ⟨p, v, gn, bn, Vn, Rn, In, rfl, rfl, rfl, rfl, rfl, rfl, rfl, hv, hg1, hgb, hb, hV, hR, hI, hw, hz⟩ := hk
    obtain ⟨G, hG, rfl⟩ := hg
    have hst : F_m_stands_0 (nI p) (way * nI v) (nI bn) 1 = F_standPlace 1 (nI p) (nI v) way (nI bn) := stand_eq hw hv (by omega) hb
    have hbd := stand_b (d := 1) (p := p) hw hv (by omega) hb hz.1
    rw [hst]
    refine Or.inr ⟨q, hq, e1, by rw [nI_clamp (by omega), hr f hf, e], ?_⟩
    rw [nI_clamp (by omega), hr f hf, e]
    have hF : F_car_1 (nI G) n pf 1 (nI p) (nI v) way (nI bn) (nI f) = (if nI G ≤ nI q - F_standPlace 1 (nI p) (nI v) way (nI bn) then .inr (1, nI q) else .inl 2) := by
      unfold F_car_1
      simp only [cb]
      rw [e2, plOf hf hn, e]; rfl
    rw [hF]
    generalize F_standPlace 1 (nI p) (nI v) way (nI bn) = st at hbd ⊢
    have n1 := nI_toInt (n := q) (by omega)
    have n2 := nI_toInt (n := G) (by omega)
    have d1 : (nI q - st).toInt = q - st.toInt := by rw [i_sub (by omega) (by omega), n1]
    have d2 : (nI q - nI G).toInt = q - G := by rw [i_sub (by omega) (by omega), n1, n2]
    by_cases c1 : nI G ≤ nI q - st
    · refine Or.inr ⟨by rw [if_pos c1], ?_⟩
      rw [Int32.le_iff_toInt_le, d1, n2] at c1
      rw [Int32.lt_iff_toInt_lt, d2]
      omega
    · refine Or.inl ⟨by rw [if_neg c1], ?_⟩
      rw [Int32.le_iff_toInt_le, d1, n2] at c1
      rw [Int32.lt_iff_toInt_lt, d2]
      omega
  · refine Or.inl ⟨?_, e1⟩
    unfold F_car_1
    simp only [cb]
    rw [e2]; rfl
theorem E_power {pw p0 r x : Int32} (hp : nb pw) (h2 : F_m_power (drk pw) p0 = (r, x)) : r = pw ∧ x = drk p0 := by
  unfold drk at h2 ⊢
  rcases hp with rfl | rfl
  · rw [if_pos rfl] at h2
    have e : F_m_power 1 p0 = (if p0 = 0 then (0, 1) else (0, 0)) := rfl
    rw [e] at h2
    by_cases c1 : p0 = 0
    · rw [if_pos c1] at h2 ⊢; cases h2; exact ⟨rfl, rfl⟩
    · rw [if_neg c1] at h2 ⊢; cases h2; exact ⟨rfl, rfl⟩
  · rw [if_neg qn_10] at h2
    have e : F_m_power 0 p0 = (if p0 = 0 then (1, 1) else (1, 0)) := rfl
    rw [e] at h2
    by_cases c1 : p0 = 0
    · rw [if_pos c1] at h2 ⊢; cases h2; exact ⟨rfl, rfl⟩
    · rw [if_neg c1] at h2 ⊢; cases h2; exact ⟨rfl, rfl⟩
