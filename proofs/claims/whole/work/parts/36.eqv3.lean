/-! Heights, and steps. -/
theorem isF_m1 {n : Nat} : F_isFloor n (-1) = 0 := by
  unfold F_isFloor
  rw [if_pos (by decide)]
theorem isF_out {n f : Nat} (hf : n ≤ f) (h : f < 100) : F_isFloor n (nI f) = 0 := by
  unfold F_isFloor
  rw [if_neg (nI_pos (by omega)), if_pos (nI_le hf (by omega))]
theorem up_shI {n f w : Nat} {pf : Nat → Int32} (hs : shI n pf) (hf : f < n) (hw : w ≤ 100000) (hlo : f = 0 ∨ ¬ nI w ≤ pf (f - 1)) (hhi : f + 1 = n ∨ ¬ pf (f + 1) ≤ nI w) : shI n (upd pf f (nI w)) := by
  obtain ⟨h1, h2, q, h3, h4⟩ := hs
  refine ⟨h1, h2, fun i => if i = f then w else q i, fun i hi => ?_, fun i hi => ?_⟩
  · simp only [upd]
    by_cases e : i = f
    · rw [if_pos e, if_pos e]; exact ⟨rfl, hw⟩
    · rw [if_neg e, if_neg e]; exact h3 i hi
  · show (if i = f then w else q i) < (if i + 1 = f then w else q (i + 1))
    by_cases e : i = f
    · rw [if_pos e, if_neg (by omega)]
      rcases hhi with z | z
      · omega
      · have e1 := h3 (f + 1) (by omega)
        rw [e1.1, nI_leI (by omega) (by omega)] at z
        rw [e]; omega
    · rw [if_neg e]
      by_cases e2 : i + 1 = f
      · rw [if_pos e2]
        rcases hlo with z | z
        · omega
        · have e1 := h3 (f - 1) (by omega)
          rw [e1.1, nI_leI (by omega) (by omega)] at z
          rw [show i = f - 1 by omega]; omega
      · rw [if_neg e2]; exact h4 i hi
theorem up_shR {n f : Nat} {x : Int32} {pf mh : Nat → Int32} (hr : shR n pf mh) : shR n (upd pf f x) (upd mh f x) := by
  intro i hi
  simp only [upd]
  by_cases e : i = f
  · rw [if_pos e, if_pos e]
  · rw [if_neg e, if_neg e]; exact hr i hi
theorem E_height_0 {n : Nat} {pf mh pf1 mh1 : Nat → Int32} {p0 p1 : Int32} {of of1 : Nat → Int64} {k r t : Int32} (hs : shI n pf) (hr : shR n pf mh) (h1 : F_h_height_n n pf p0 p1 of = (k, pf1, of1)) (h2 : F_m_height_0 n mh p0 p1 = (r, t, mh1)) :
    t = k ∧ (k = 0 → of1 (0 : Int32).toNatClampNeg = r.toInt64) ∧ shI n pf1 ∧ shR n pf1 mh1 := by
  have hn1 := hs.1
  have hn := hs.2.1
  have bad : ∀ z : Int32, ¬ z = 0 → F_h_height_n n pf p0 p1 of = (z, pf, of) → F_m_height_0 n mh p0 p1 = (0, z, mh) → t = k ∧ (k = 0 → of1 (0 : Int32).toNatClampNeg = r.toInt64) ∧ shI n pf1 ∧ shR n pf1 mh1 := by
    intro z hz q1 q2
    rw [q1] at h1; rw [q2] at h2; cases h1; cases h2
    exact ⟨rfl, fun h => absurd h hz, hs, hr⟩
  rcases fin1 (n := n) p0 hn1 hn with ⟨e1, e2, f, hf, rfl⟩ | ⟨e1, e2⟩
  · rcases rin p1 0 100000 with ⟨e4, e5, a1, a2⟩ | ⟨e4, e5⟩
    · obtain ⟨w, _, hw, rfl⟩ := rng (a := 0) (b := 100000) (by decide) (by decide) a1 a2
      have hbad : F_lies n pf (nI f) (nI w) = 0 → F_h_height_n n pf (nI f) (nI w) of = (2, pf, of) := by
        intro q
        unfold F_h_height_n F_height_n
        simp only [cb]
        rw [e2, e5, q]; rfl
      have hgood : F_lies n pf (nI f) (nI w) = 1 → F_h_height_n n pf (nI f) (nI w) of = (0, upd pf f (nI w), vp_updL of (0 : Int32).toNatClampNeg (pf f).toInt64) := by
        intro q
        have e9 : F_setPlace n pf (nI f) (nI w) = upd pf f (nI w) := by
          unfold F_setPlace
          rw [isF hf hn]
          simp only [cb]
          rw [if_neg qn_10, nI_clamp (by omega)]
        unfold F_h_height_n F_height_n
        simp only [cb]
        rw [e2, e5, q, plOf hf hn, e9]; rfl
      have good : F_lies n pf (nI f) (nI w) = 1 → F_m_height_0 n mh (nI f) (nI w) = (pf f, 0, upd mh f (nI w)) → (f = 0 ∨ ¬ nI w ≤ pf (f - 1)) → (f + 1 = n ∨ ¬ pf (f + 1) ≤ nI w) → t = k ∧ (k = 0 → of1 (0 : Int32).toNatClampNeg = r.toInt64) ∧ shI n pf1 ∧ shR n pf1 mh1 := by
        intro q1 q2 z1 z2
        rw [hgood q1] at h1; rw [q2] at h2; cases h1; cases h2
        exact ⟨rfl, fun _ => updL0, up_shI hs hf hw z1 z2, up_shR hr⟩
      have hu : nI f + 1 = nI (f + 1) := nI_1 f
      have hN : nI n - 1 = nI (n - 1) := by rw [lit_1, pk_sub hn1]
      have hcf : (nI f).toNatClampNeg = f := nI_clamp (by omega)
      by_cases f0 : f = 0
      · have p00 : nI f = 0 := by rw [f0]; rfl
        have hd : nI f - 1 = -1 := by rw [f0]; decide
        by_cases fn : f + 1 = n
        · refine good ?_ ?_ (Or.inl f0) (Or.inl fn)
          · unfold F_lies
            rw [hd, hu, isF_m1, isF_out (by omega) (by omega)]; rfl
          · unfold F_m_height_0
            rw [e1, e4, hN, show n - 1 = f by omega, hcf, hr f hf]
            simp only [cb]
            rw [if_neg qn_10, if_neg qn_10, if_pos p00, if_pos trivial]
        · have fn2 : ¬ nI f = nI (n - 1) := fun e => fn (by have := (nI_eq (by omega) (by omega)).mp e; omega)
          have hl : F_lies n pf (nI f) (nI w) = (if pf (f + 1) ≤ nI w then 0 else 1) := by
            unfold F_lies
            rw [hd, hu, isF_m1, isF (show f + 1 < n by omega) hn, plOf (show f + 1 < n by omega) hn]; rfl
          have hm : F_m_height_0 n mh (nI f) (nI w) = (if pf (f + 1) ≤ nI w then (0, 2, mh) else (pf f, 0, upd mh f (nI w))) := by
            unfold F_m_height_0
            rw [e1, e4, hN, hu, nI_clamp (show f + 1 < 2 ^ 31 by omega), hr (f + 1) (by omega), hcf, hr f hf]
            simp only [cb]
            rw [if_neg qn_10, if_neg qn_10, if_pos p00, if_neg fn2]
          by_cases c1 : pf (f + 1) ≤ nI w
          · rw [if_pos c1] at hl hm
            exact bad 2 (by decide) (hbad hl) hm
          · rw [if_neg c1] at hl hm
            exact good hl hm (Or.inl f0) (Or.inr c1)
      · have p00 : ¬ nI f = 0 := nI_ne0 (by omega) (by omega)
        have hd : nI f - 1 = nI (f - 1) := by rw [lit_1, pk_sub (by omega)]
        by_cases fn : f + 1 = n
        · have hl : F_lies n pf (nI f) (nI w) = (if nI w ≤ pf (f - 1) then 0 else 1) := by
            unfold F_lies
            rw [hd, hu, isF (show f - 1 < n by omega) hn, plOf (show f - 1 < n by omega) hn, isF_out (show n ≤ f + 1 by omega) (by omega)]; rfl
          have hm : F_m_height_0 n mh (nI f) (nI w) = (if nI w ≤ pf (f - 1) then (0, 2, mh) else (pf f, 0, upd mh f (nI w))) := by
            unfold F_m_height_0
            rw [e1, e4, hN, show n - 1 = f by omega, hd, nI_clamp (show f - 1 < 2 ^ 31 by omega), hr (f - 1) (by omega), hcf, hr f hf]
            simp only [cb]
            rw [if_neg qn_10, if_neg qn_10, if_neg p00, if_pos trivial]
          by_cases c1 : nI w ≤ pf (f - 1)
          · rw [if_pos c1] at hl hm
            exact bad 2 (by decide) (hbad hl) hm
          · rw [if_neg c1] at hl hm
            exact good hl hm (Or.inr c1) (Or.inl fn)
        · have fn2 : ¬ nI f = nI (n - 1) := fun e => fn (by have := (nI_eq (by omega) (by omega)).mp e; omega)
          have hl : F_lies n pf (nI f) (nI w) = (if nI w ≤ pf (f - 1) then (if pf (f + 1) ≤ nI w then 0 else 0) else (if pf (f + 1) ≤ nI w then 0 else 1)) := by
            unfold F_lies
            rw [hd, hu, isF (show f - 1 < n by omega) hn, plOf (show f - 1 < n by omega) hn, isF (show f + 1 < n by omega) hn, plOf (show f + 1 < n by omega) hn]; rfl
          have hm : F_m_height_0 n mh (nI f) (nI w) = (if nI w ≤ pf (f - 1) then (0, 2, mh) else if pf (f + 1) ≤ nI w then (0, 2, mh) else (pf f, 0, upd mh f (nI w))) := by
            unfold F_m_height_0
            rw [e1, e4, hN, hd, hu, nI_clamp (show f - 1 < 2 ^ 31 by omega), nI_clamp (show f + 1 < 2 ^ 31 by omega), hr (f - 1) (by omega), hr (f + 1) (by omega), hcf, hr f hf]
            simp only [cb]
            rw [if_neg qn_10, if_neg qn_10, if_neg p00, if_neg fn2]
          by_cases c1 : nI w ≤ pf (f - 1)
          · rw [if_pos c1] at hl hm
            rw [ite_self] at hl
            exact bad 2 (by decide) (hbad hl) hm
          · rw [if_neg c1] at hl hm
            by_cases c2 : pf (f + 1) ≤ nI w
            · rw [if_pos c2] at hl hm
              exact bad 2 (by decide) (hbad hl) hm
            · rw [if_neg c2] at hl hm
              exact good hl hm (Or.inr c1) (Or.inr c2)
    · exact bad 1 (by decide) (by unfold F_h_height_n F_height_n; simp only [cb]; rw [e2, e5]; rfl) (by unfold F_m_height_0; rw [e1, e4]; rfl)
  · exact bad 1 (by decide) (by unfold F_h_height_n F_height_n; simp only [cb]; rw [e2]; rfl) (by unfold F_m_height_0; rw [e1]; rfl)
theorem sb_nI {x : Nat} (h : x ≤ 5000) : sb (nI x) := by
  unfold sb
  rw [nI_toInt (by omega)]; omega
theorem sb_wv {v : Nat} {way : Int32} (h : wv v way) (hv : v ≤ 2000) : sb (way * nI v) := by
  rcases h with ⟨h1, h2⟩ | ⟨h1, h2⟩ | ⟨h1, h2⟩
  · rw [h2, Int32.zero_mul]; exact sb_nI (x := 0) (by decide)
  · rw [h2, i1_mul]; exact sb_nI (by omega)
  · rw [h2, im1_mul]; exact sb_neg (sb_nI (by omega))
theorem ki_sb {place speed way V g b R I : Int32} (h : kiI place speed way V g b R I) : sb (way * speed) ∧ sb V ∧ sb g ∧ sb b ∧ sb R ∧ sb I ∧ ¬ g = 0 ∧ ¬ b = 0 := by
  obtain ⟨p, v, gn, bn, Vn, Rn, In, rfl, rfl, rfl, rfl, rfl, rfl, rfl, hv, hg, hgb, hb, hV, hR, hI, hw, hz⟩ := h
  exact ⟨sb_wv hw hv, sb_nI (by omega), sb_nI (by omega), sb_nI (by omega), sb_nI (by omega), sb_nI (by omega), nI_ne0 (by omega) (by omega), nI_ne0 (by omega) (by omega)⟩
theorem ca_b {n : Nat} {cc : Int32} {cf : Nat → Int32} (h : caI n cc cf) : 0 ≤ cc ∧ cc ≤ 8 := by
  obtain ⟨m, hm, rfl, _⟩ := h
  exact ⟨nI_pos' (by omega), nI_le (b := 8) hm (by decide)⟩
theorem ca_cI {n b : Nat} {cc : Int32} {cf mc : Nat → Int32} (hn : n ≤ 20) (h : caI n cc cf) (hr : caR b cf mc) : cI mc b cc := by
  obtain ⟨m, hm, rfl, hg⟩ := h
  intro i hi hlt
  have hi2 : i < m := (nI_ltI (by omega) (by omega)).mp hlt
  obtain ⟨f, hf, e⟩ := hg i hi2
  rw [hr i hi, e]
  exact vp_in_nI (by omega) (by decide)
theorem fi_in {n : Nat} {ff : Int32} (hn : n ≤ 20) (h : fiI n ff) : ¬ ff = (-1) → vp_in ff 20 := by
  intro h1
  rcases h with h | ⟨f, hf, rfl⟩
  · exact absurd h h1
  · exact vp_in_nI (by omega) (by decide)
def IV1 (n : Nat) (V g b R I dw : Int32) (pl sp ds dp _op : Int32) (mc : Nat → Int32) (cc _w0 _w1 _w2 _w3 _w4 _w5 : Int32) : Prop :=
  ∃ (speed way : Int32) (cf : Nat → Int32), sp = way * speed ∧ kiI pl speed way V g b R I ∧ doI ds dp dw ∧ caI n cc cf ∧ caR 0 cf mc
def IV2 (n : Nat) (V g b R I dw V' g' b' R' I' dw' : Int32) (pl pl' sp sp' ds ds' dp dp' _op _op' : Int32) (mc : Nat → Int32) (cc cc' _w0 _w1 _w2 _w3 _w4 _w5 _w6 _w7 _w8 _w9 _w10 _w11 : Int32) : Prop :=
  ∃ (speed way speed' way' : Int32) (cf cf' : Nat → Int32), (sp = way * speed ∧ kiI pl speed way V g b R I ∧ doI ds dp dw ∧ caI n cc cf ∧ caR 0 cf mc) ∧ (sp' = way' * speed' ∧ kiI pl' speed' way' V' g' b' R' I' ∧ doI ds' dp' dw' ∧ caI n cc' cf' ∧ caR 8 cf' mc)
theorem caR_other {b b2 : Nat} {cf mc m' : Nat → Int32} (h : caR b2 cf mc) (ho : ∀ k, (k < b ∨ b + 8 ≤ k) → m' k = mc k) (hb : b2 + 8 ≤ b ∨ b + 8 ≤ b2) : caR b2 cf m' := by
  intro i hi
  rw [ho (b2 + i) (by omega)]
  exact h i hi
theorem IV1_p {n : Nat} {V g b R I dw : Int32} (hn : n ≤ 20) : ∀ (vpl0 : Int32) (vsp0 : Int32) (vdo0 : Int32) (vdp0 : Int32) (vop0 : Int32) (vcalls : Nat → Int32) (vcc0 : Int32) (vw0 : Int32) (vw1 : Int32) (vw2 : Int32) (vw3 : Int32) (vw4 : Int32) (vw5 : Int32), IV1 n V g b R I dw vpl0 vsp0 vdo0 vdp0 vop0 vcalls vcc0 vw0 vw1 vw2 vw3 vw4 vw5 → (sb vsp0) ∧ (cI vcalls 0 vcc0) ∧ (0 ≤ vcc0 ∧ vcc0 ≤ 8) := by
  intro vpl0 vsp0 vdo0 vdp0 vop0 vcalls vcc0 vw0 vw1 vw2 vw3 vw4 vw5 h
  obtain ⟨speed, way, cf, rfl, hk, hd, hc, hr⟩ := h
  exact ⟨(ki_sb hk).1, ca_cI hn hc hr, ca_b hc⟩
theorem IV2_p {n : Nat} {V g b R I dw V' g' b' R' I' dw' : Int32} (hn : n ≤ 20) : ∀ (vpl0 : Int32) (vpl1 : Int32) (vsp0 : Int32) (vsp1 : Int32) (vdo0 : Int32) (vdo1 : Int32) (vdp0 : Int32) (vdp1 : Int32) (vop0 : Int32) (vop1 : Int32) (vcalls : Nat → Int32) (vcc0 : Int32) (vcc1 : Int32) (vw0 : Int32) (vw1 : Int32) (vw2 : Int32) (vw3 : Int32) (vw4 : Int32) (vw5 : Int32) (vw6 : Int32) (vw7 : Int32) (vw8 : Int32) (vw9 : Int32) (vw10 : Int32) (vw11 : Int32), IV2 n V g b R I dw V' g' b' R' I' dw' vpl0 vpl1 vsp0 vsp1 vdo0 vdo1 vdp0 vdp1 vop0 vop1 vcalls vcc0 vcc1 vw0 vw1 vw2 vw3 vw4 vw5 vw6 vw7 vw8 vw9 vw10 vw11 → (sb vsp0) ∧ (cI vcalls 0 vcc0) ∧ (0 ≤ vcc0 ∧ vcc0 ≤ 8) ∧ (sb vsp1) ∧ (cI vcalls 8 vcc1) ∧ (0 ≤ vcc1 ∧ vcc1 ≤ 8) := by
  intro vpl0 vpl1 vsp0 vsp1 vdo0 vdo1 vdp0 vdp1 vop0 vop1 vcalls vcc0 vcc1 vw0 vw1 vw2 vw3 vw4 vw5 vw6 vw7 vw8 vw9 vw10 vw11 h
  obtain ⟨speed, way, speed', way', cf, cf', ⟨rfl, hk, hd, hc, hr⟩, ⟨rfl, hk', hd', hc', hr'⟩⟩ := h
  exact ⟨(ki_sb hk).1, ca_cI hn hc hr, ca_b hc, (ki_sb hk').1, ca_cI hn hc' hr', ca_b hc'⟩
theorem IV1_s {n : Nat} {pf mh : Nat → Int32} {V g b R I dw ki mk db oc ff ri dh pw : Int32} (hs : shI n pf) (hsr : shR n pf mh) (hf : fiI n ff) : ∀ (vpl0 : Int32) (vsp0 : Int32) (vdo0 : Int32) (vdp0 : Int32) (vop0 : Int32) (vcalls : Nat → Int32) (vcc0 : Int32) (vw0 : Int32) (vw1 : Int32) (vw2 : Int32) (vw3 : Int32) (vw4 : Int32) (vw5 : Int32) (zvpl0 : Int32) (zvsp0 : Int32) (zvdo0 : Int32) (zvdp0 : Int32) (zvop0 : Int32) (zvcalls : Nat → Int32) (zvcc0 : Int32) (zvw0 : Int32) (zvw1 : Int32) (zvw2 : Int32) (zvw3 : Int32) (zvw4 : Int32) (zvw5 : Int32), IV1 n V g b R I dw vpl0 vsp0 vdo0 vdp0 vop0 vcalls vcc0 vw0 vw1 vw2 vw3 vw4 vw5 →
    F_m_step_10 n (drk pw) mh vpl0 vsp0 V g b R I vdo0 vdp0 vop0 dw dh ki mk db oc ff ri vcalls vcc0 vw0 vw1 vw2 vw3 vw4 vw5 = (zvpl0, zvsp0, zvdo0, zvdp0, zvop0, zvcalls, zvcc0, zvw0, zvw1, zvw2, zvw3, zvw4, zvw5) → IV1 n V g b R I dw zvpl0 zvsp0 zvdo0 zvdp0 zvop0 zvcalls zvcc0 zvw0 zvw1 zvw2 zvw3 zvw4 zvw5 := by
  intro vpl0 vsp0 vdo0 vdp0 vop0 vcalls vcc0 vw0 vw1 vw2 vw3 vw4 vw5 zvpl0 zvsp0 zvdo0 zvdp0 zvop0 zvcalls zvcc0 zvw0 zvw1 zvw2 zvw3 zvw4 zvw5 h he
  obtain ⟨speed, way, cf, rfl, hk, hd, hc, hr⟩ := h
  obtain ⟨y1, y2, y3, y4, y5, y6, y7, y8, y9, y10, y11, y12, y13, y14, m', _, q2, q3, q4, q5, q6, q7⟩ := step_10 (ki := ki) (mk := mk) (oc := oc) (ri := ri) (starts := vw0) (dist := vw1) (hf := vw2) (dh := dh) (dst := vop0) (db := db) (ob := vw3) (od := vw4) (cov := vw5) (pw := pw) hk hd hc hf hs hsr hr
  rw [q2] at he
  cases he
  exact ⟨y2, y3, y14, rfl, q3, q4, q5, q6⟩
theorem IV2_s0 {n : Nat} {pf mh : Nat → Int32} {V g b R I dw V' g' b' R' I' dw' ki mk db oc ff ri dh pw gap : Int32} (hs : shI n pf) (hsr : shR n pf mh) (hf : fiI n ff) (hg : gpI gap) : ∀ (vpl0 : Int32) (vpl1 : Int32) (vsp0 : Int32) (vsp1 : Int32) (vdo0 : Int32) (vdo1 : Int32) (vdp0 : Int32) (vdp1 : Int32) (vop0 : Int32) (vop1 : Int32) (vcalls : Nat → Int32) (vcc0 : Int32) (vcc1 : Int32) (vw0 : Int32) (vw1 : Int32) (vw2 : Int32) (vw3 : Int32) (vw4 : Int32) (vw5 : Int32) (vw6 : Int32) (vw7 : Int32) (vw8 : Int32) (vw9 : Int32) (vw10 : Int32) (vw11 : Int32) (zvpl0 : Int32) (zvsp0 : Int32) (zvdo0 : Int32) (zvdp0 : Int32) (zvop0 : Int32) (zvcalls : Nat → Int32) (zvcc0 : Int32) (zvw0 : Int32) (zvw1 : Int32) (zvw2 : Int32) (zvw3 : Int32) (zvw4 : Int32) (zvw5 : Int32), IV2 n V g b R I dw V' g' b' R' I' dw' vpl0 vpl1 vsp0 vsp1 vdo0 vdo1 vdp0 vdp1 vop0 vop1 vcalls vcc0 vcc1 vw0 vw1 vw2 vw3 vw4 vw5 vw6 vw7 vw8 vw9 vw10 vw11 →
    F_m_step_20 n gap (drk pw) mh vpl0 vpl1 vsp0 vsp1 V g b b' R I vdo0 vdp0 vop0 dw dh ki mk db oc ff ri vcalls vcc0 vw0 vw1 vw2 vw3 vw4 vw5 = (zvpl0, zvsp0, zvdo0, zvdp0, zvop0, zvcalls, zvcc0, zvw0, zvw1, zvw2, zvw3, zvw4, zvw5) → IV2 n V g b R I dw V' g' b' R' I' dw' zvpl0 vpl1 zvsp0 vsp1 zvdo0 vdo1 zvdp0 vdp1 zvop0 vop1 zvcalls zvcc0 vcc1 zvw0 zvw1 zvw2 zvw3 zvw4 zvw5 vw6 vw7 vw8 vw9 vw10 vw11 := by
  intro vpl0 vpl1 vsp0 vsp1 vdo0 vdo1 vdp0 vdp1 vop0 vop1 vcalls vcc0 vcc1 vw0 vw1 vw2 vw3 vw4 vw5 vw6 vw7 vw8 vw9 vw10 vw11 zvpl0 zvsp0 zvdo0 zvdp0 zvop0 zvcalls zvcc0 zvw0 zvw1 zvw2 zvw3 zvw4 zvw5 h he
  obtain ⟨speed, way, speed', way', cf, cf', ⟨rfl, hk, hd, hc, hr⟩, ⟨rfl, hk', hd', hc', hr'⟩⟩ := h
  obtain ⟨y1, y2, y3, y4, y5, y6, y7, y8, y9, y10, y11, y12, y13, y14, m', _, q2, q3, q4, q5, q6, q7⟩ := step_20 (ki := ki) (mk := mk) (oc := oc) (ri := ri) (starts := vw0) (dist := vw1) (hf := vw2) (dh := dh) (dst := vop0) (db := db) (ob := vw3) (od := vw4) (cov := vw5) (pw := pw) hk hk' hg hd hc hf hs hsr hr
  rw [q2] at he
  cases he
  exact ⟨y2, y3, speed', way', y14, cf', ⟨rfl, q3, q4, q5, q6⟩, ⟨rfl, hk', hd', hc', caR_other hr' q7 (Or.inr (by decide))⟩⟩
theorem IV2_s1 {n : Nat} {pf mh : Nat → Int32} {V g b R I dw V' g' b' R' I' dw' ki mk db oc ff ri dh pw gap : Int32} (hs : shI n pf) (hsr : shR n pf mh) (hf : fiI n ff) (hg : gpI gap) : ∀ (vpl0 : Int32) (vpl1 : Int32) (vsp0 : Int32) (vsp1 : Int32) (vdo0 : Int32) (vdo1 : Int32) (vdp0 : Int32) (vdp1 : Int32) (vop0 : Int32) (vop1 : Int32) (vcalls : Nat → Int32) (vcc0 : Int32) (vcc1 : Int32) (vw0 : Int32) (vw1 : Int32) (vw2 : Int32) (vw3 : Int32) (vw4 : Int32) (vw5 : Int32) (vw6 : Int32) (vw7 : Int32) (vw8 : Int32) (vw9 : Int32) (vw10 : Int32) (vw11 : Int32) (zvpl1 : Int32) (zvsp1 : Int32) (zvdo1 : Int32) (zvdp1 : Int32) (zvop1 : Int32) (zvcalls : Nat → Int32) (zvcc1 : Int32) (zvw6 : Int32) (zvw7 : Int32) (zvw8 : Int32) (zvw9 : Int32) (zvw10 : Int32) (zvw11 : Int32), IV2 n V g b R I dw V' g' b' R' I' dw' vpl0 vpl1 vsp0 vsp1 vdo0 vdo1 vdp0 vdp1 vop0 vop1 vcalls vcc0 vcc1 vw0 vw1 vw2 vw3 vw4 vw5 vw6 vw7 vw8 vw9 vw10 vw11 →
    F_m_step_21 n gap (drk pw) mh vpl0 vpl1 vsp0 vsp1 V' g' b b' R' I' vdo1 vdp1 vop1 dw' dh ki mk db oc ff ri vcalls vcc1 vw6 vw7 vw8 vw9 vw10 vw11 = (zvpl1, zvsp1, zvdo1, zvdp1, zvop1, zvcalls, zvcc1, zvw6, zvw7, zvw8, zvw9, zvw10, zvw11) → IV2 n V g b R I dw V' g' b' R' I' dw' vpl0 zvpl1 vsp0 zvsp1 vdo0 zvdo1 vdp0 zvdp1 vop0 zvop1 zvcalls vcc0 zvcc1 vw0 vw1 vw2 vw3 vw4 vw5 zvw6 zvw7 zvw8 zvw9 zvw10 zvw11 := by
  intro vpl0 vpl1 vsp0 vsp1 vdo0 vdo1 vdp0 vdp1 vop0 vop1 vcalls vcc0 vcc1 vw0 vw1 vw2 vw3 vw4 vw5 vw6 vw7 vw8 vw9 vw10 vw11 zvpl1 zvsp1 zvdo1 zvdp1 zvop1 zvcalls zvcc1 zvw6 zvw7 zvw8 zvw9 zvw10 zvw11 h he
  obtain ⟨speed, way, speed', way', cf, cf', ⟨rfl, hk, hd, hc, hr⟩, ⟨rfl, hk', hd', hc', hr'⟩⟩ := h
  obtain ⟨y1, y2, y3, y4, y5, y6, y7, y8, y9, y10, y11, y12, y13, y14, m', _, q2, q3, q4, q5, q6, q7⟩ := step_21 (ki := ki) (mk := mk) (oc := oc) (ri := ri) (starts := vw6) (dist := vw7) (hf := vw8) (dh := dh) (dst := vop1) (db := db) (ob := vw9) (od := vw10) (cov := vw11) (pw := pw) hk' hk hg hd' hc' hf hs hsr hr'
  rw [q2] at he
  cases he
  exact ⟨speed, way, y2, y3, cf, y14, ⟨rfl, hk, hd, hc, caR_other hr q7 (Or.inl (by decide))⟩, ⟨rfl, q3, q4, q5, q6⟩⟩
theorem ls_0 {sd : Int32} {P : Nat} (hP : P ≤ 1000) : ∀ (d fu j : Nat), j + d = P → d < fu → L_steps_0_10 sd (nI P) fu j = .inr (sd + nI P) ∧ L_m_steps_0_20 sd (nI P) fu j = (sd + nI P, 0, sd + nI P) := by
  intro d
  induction d with
  | zero =>
    intro fu j hj hf
    obtain ⟨f, rfl⟩ : ∃ f, fu = f + 1 := ⟨fu - 1, by omega⟩
    rw [L_steps_0_10_u, L_m_steps_0_20_u, if_pos (nI_le (by omega) (by omega)), if_pos (nI_le (by omega) (by omega))]
    exact ⟨rfl, rfl⟩
  | succ d ih =>
    intro fu j hj hf
    obtain ⟨f, rfl⟩ : ∃ f, fu = f + 1 := ⟨fu - 1, by omega⟩
    rw [L_steps_0_10_u, L_m_steps_0_20_u, if_neg (nI_ge (by omega) (by omega)), if_neg (nI_ge (by omega) (by omega))]
    exact ih f (j + 1) (by omega) (by omega)
theorem ls_1 {n P : Nat} {pf mh : Nat → Int32} {powered sd topSpeed gain brake darkSpeed rideSpeed kilos mostKilos openContacts fireFloor ride dplaces dhold dbeam : Int32} (hP : P ≤ 1000) (hs : shI n pf) (hsr : shR n pf mh) (hf9 : fiI n fireFloor) :
    ∀ (d fu j : Nat) (place speed way starts distance hardFalls dstate dplace dsteps dob doc ccount cover : Int32) (cf mc : Nat → Int32), j + d = P → d < fu → kiI place speed way topSpeed gain brake darkSpeed rideSpeed → doI dstate dplace dplaces → caI n ccount cf → caR 0 cf mc → (∀ i, 8 ≤ i → mc i = 0) →
      ∃ (y1 y2 y3 y4 y5 y6 y7 y8 y9 y10 y11 y12 y13 : Int32) (y14 m' : Nat → Int32), L_steps_1_10 powered sd n pf topSpeed gain brake darkSpeed rideSpeed kilos mostKilos openContacts fireFloor ride dplaces dhold dbeam (nI P) fu j place speed way starts distance hardFalls dstate dplace dsteps dob doc ccount cover cf = .inr (sd + nI P, y1, y2, y3, y4, y5, y6, y7, y8, y9, y10, y11, y12, y13, y14) ∧ L_m_steps_1_20 n (drk powered) sd mh topSpeed gain brake darkSpeed rideSpeed dplaces dhold kilos mostKilos dbeam openContacts fireFloor ride (nI P) fu j place (way * speed) dstate dplace dsteps mc ccount starts distance hardFalls dob doc cover = (sd + nI P, 0, sd + nI P, y1, y3 * y2, y7, y8, y9, m', y12, y4, y5, y6, y10, y11, y13) ∧
        kiI y1 y2 y3 topSpeed gain brake darkSpeed rideSpeed ∧ doI y7 y8 dplaces ∧ caI n y12 y14 ∧ caR 0 y14 m' ∧ (∀ i, 8 ≤ i → m' i = 0) := by
  intro d
  induction d with
  | zero =>
    intro fu j place speed way starts distance hardFalls dstate dplace dsteps dob doc ccount cover cf mc hj hf hk hd hc hr hm
    obtain ⟨f, rfl⟩ : ∃ f, fu = f + 1 := ⟨fu - 1, by omega⟩
    refine ⟨place, speed, way, starts, distance, hardFalls, dstate, dplace, dsteps, dob, doc, ccount, cover, cf, mc, ?_, ?_, hk, hd, hc, hr, hm⟩
    · rw [L_steps_1_10_u, if_pos (nI_le (by omega) (by omega))]
    · rw [L_m_steps_1_20_u, if_pos (nI_le (by omega) (by omega))]
  | succ d ih =>
    intro fu j place speed way starts distance hardFalls dstate dplace dsteps dob doc ccount cover cf mc hj hf hk hd hc hr hm
    obtain ⟨f, rfl⟩ : ∃ f, fu = f + 1 := ⟨fu - 1, by omega⟩
    obtain ⟨z1, z2, z3, z4, z5, z6, z7, z8, z9, z10, z11, z12, z13, z14, m1, q1, q2, q3, q4, q5, q6, q7⟩ := step_10 (ki := kilos) (mk := mostKilos) (oc := openContacts) (ri := ride) (starts := starts) (dist := distance) (hf := hardFalls) (dh := dhold) (dst := dsteps) (db := dbeam) (ob := dob) (od := doc) (cov := cover) (pw := powered) hk hd hc hf9 hs hsr hr
    obtain ⟨y1, y2, y3, y4, y5, y6, y7, y8, y9, y10, y11, y12, y13, y14, m', r1, r2, r3⟩ := ih f (j + 1) z1 z2 z3 z4 z5 z6 z7 z8 z9 z10 z11 z12 z13 z14 m1 (by omega) (by omega) q3 q4 q5 q6 (fun i hi => (q7 i (Or.inr (by omega))).trans (hm i hi))
    refine ⟨y1, y2, y3, y4, y5, y6, y7, y8, y9, y10, y11, y12, y13, y14, m', ?_, ?_, r3⟩
    · rw [L_steps_1_10_u, if_neg (nI_ge (by omega) (by omega)), q1]; exact r1
    · rw [L_m_steps_1_20_u, if_neg (nI_ge (by omega) (by omega)), q2]; exact r2
theorem ls_2 {n P : Nat} {pf mh : Nat → Int32} {powered sd gap topSpeed gain brake darkSpeed rideSpeed kilos mostKilos openContacts fireFloor ride dplaces dhold dbeam topSpeedB gainB brakeB darkSpeedB rideSpeedB kilosB mostKilosB openContactsB fireFloorB rideB dplacesB dholdB dbeamB : Int32} (hP : P ≤ 1000) (hs : shI n pf) (hsr : shR n pf mh) (hg : gpI gap) (hf9 : fiI n fireFloor) (hf9B : fiI n fireFloorB) :
    ∀ (d fu j : Nat) (place speed way starts distance hardFalls dstate dplace dsteps dob doc ccount cover : Int32) (cf : Nat → Int32) (placeB speedB wayB startsB distanceB hardFallsB dstateB dplaceB dstepsB dobB docB ccountB coverB : Int32) (cfB mc : Nat → Int32), j + d = P → d < fu → kiI place speed way topSpeed gain brake darkSpeed rideSpeed → doI dstate dplace dplaces → caI n ccount cf → caR 0 cf mc → kiI placeB speedB wayB topSpeedB gainB brakeB darkSpeedB rideSpeedB → doI dstateB dplaceB dplacesB → caI n ccountB cfB → caR 8 cfB mc →
      ∃ (y1 y2 y3 y4 y5 y6 y7 y8 y9 y10 y11 y12 y13 t1 t2 t3 t4 t5 t6 t7 t8 t9 t10 t11 t12 t13 : Int32) (y14 t14 m' : Nat → Int32), L_steps_2_10 powered sd gap n pf 1 topSpeed gain brake darkSpeed rideSpeed kilos mostKilos openContacts fireFloor ride dplaces dhold dbeam (-1) topSpeedB gainB brakeB darkSpeedB rideSpeedB kilosB mostKilosB openContactsB fireFloorB rideB dplacesB dholdB dbeamB (nI P) fu j place speed way starts distance hardFalls dstate dplace dsteps dob doc ccount cover cf placeB speedB wayB startsB distanceB hardFallsB dstateB dplaceB dstepsB dobB docB ccountB coverB cfB = .inr (sd + nI P, y1, y2, y3, y4, y5, y6, y7, y8, y9, y10, y11, y12, y13, y14, t1, t2, t3, t4, t5, t6, t7, t8, t9, t10, t11, t12, t13, t14) ∧ L_m_steps_2_20 n gap (drk powered) sd mh topSpeed topSpeedB gain gainB brake brakeB darkSpeed darkSpeedB rideSpeed rideSpeedB dplaces dplacesB dhold dholdB kilos kilosB mostKilos mostKilosB dbeam dbeamB openContacts openContactsB fireFloor fireFloorB ride rideB (nI P) fu j place placeB (way * speed) (wayB * speedB) dstate dstateB dplace dplaceB dsteps dstepsB mc ccount ccountB starts distance hardFalls dob doc cover startsB distanceB hardFallsB dobB docB coverB = (sd + nI P, 0, sd + nI P, y1, t1, y3 * y2, t3 * t2, y7, t7, y8, t8, y9, t9, m', y12, t12, y4, y5, y6, y10, y11, y13, t4, t5, t6, t10, t11, t13) ∧
        (kiI y1 y2 y3 topSpeed gain brake darkSpeed rideSpeed ∧ doI y7 y8 dplaces ∧ caI n y12 y14 ∧ caR 0 y14 m') ∧ (kiI t1 t2 t3 topSpeedB gainB brakeB darkSpeedB rideSpeedB ∧ doI t7 t8 dplacesB ∧ caI n t12 t14 ∧ caR 8 t14 m') := by
  intro d
  induction d with
  | zero =>
    intro fu j place speed way starts distance hardFalls dstate dplace dsteps dob doc ccount cover cf placeB speedB wayB startsB distanceB hardFallsB dstateB dplaceB dstepsB dobB docB ccountB coverB cfB mc hj hf hk hd hc hr hkB hdB hcB hrB
    obtain ⟨f, rfl⟩ : ∃ f, fu = f + 1 := ⟨fu - 1, by omega⟩
    refine ⟨place, speed, way, starts, distance, hardFalls, dstate, dplace, dsteps, dob, doc, ccount, cover, placeB, speedB, wayB, startsB, distanceB, hardFallsB, dstateB, dplaceB, dstepsB, dobB, docB, ccountB, coverB, cf, cfB, mc, ?_, ?_, ⟨hk, hd, hc, hr⟩, ⟨hkB, hdB, hcB, hrB⟩⟩
    · rw [L_steps_2_10_u, if_pos (nI_le (by omega) (by omega))]
    · rw [L_m_steps_2_20_u, if_pos (nI_le (by omega) (by omega))]
  | succ d ih =>
    intro fu j place speed way starts distance hardFalls dstate dplace dsteps dob doc ccount cover cf placeB speedB wayB startsB distanceB hardFallsB dstateB dplaceB dstepsB dobB docB ccountB coverB cfB mc hj hf hk hd hc hr hkB hdB hcB hrB
    obtain ⟨f, rfl⟩ : ∃ f, fu = f + 1 := ⟨fu - 1, by omega⟩
    obtain ⟨z1, z2, z3, z4, z5, z6, z7, z8, z9, z10, z11, z12, z13, z14, m1, q1, q2, q3, q4, q5, q6, q7⟩ := step_20 (ki := kilos) (mk := mostKilos) (oc := openContacts) (ri := ride) (starts := starts) (dist := distance) (hf := hardFalls) (dh := dhold) (dst := dsteps) (db := dbeam) (ob := dob) (od := doc) (cov := cover) (pw := powered) hk hkB hg hd hc hf9 hs hsr hr
    have hrB1 := caR_other hrB q7 (Or.inr (by decide))
    obtain ⟨w1, w2, w3, w4, w5, w6, w7, w8, w9, w10, w11, w12, w13, w14, m2, s1, s2, s3, s4, s5, s6, s7⟩ := step_21 (ki := kilosB) (mk := mostKilosB) (oc := openContactsB) (ri := rideB) (starts := startsB) (dist := distanceB) (hf := hardFallsB) (dh := dholdB) (dst := dstepsB) (db := dbeamB) (ob := dobB) (od := docB) (cov := coverB) (pw := powered) hkB q3 hg hdB hcB hf9B hs hsr hrB1
    have q6b := caR_other q6 s7 (Or.inl (by decide))
    obtain ⟨y1, y2, y3, y4, y5, y6, y7, y8, y9, y10, y11, y12, y13, t1, t2, t3, t4, t5, t6, t7, t8, t9, t10, t11, t12, t13, y14, t14, m', r1, r2, r3⟩ := ih f (j + 1) z1 z2 z3 z4 z5 z6 z7 z8 z9 z10 z11 z12 z13 z14 w1 w2 w3 w4 w5 w6 w7 w8 w9 w10 w11 w12 w13 w14 m2 (by omega) (by omega) q3 q4 q5 q6b s3 s4 s5 s6
    refine ⟨y1, y2, y3, y4, y5, y6, y7, y8, y9, y10, y11, y12, y13, t1, t2, t3, t4, t5, t6, t7, t8, t9, t10, t11, t12, t13, y14, t14, m', ?_, ?_, r3⟩
    · rw [L_steps_2_10_u, if_neg (nI_ge (by omega) (by omega)), q1]
      simp only [cb]
      rw [s1]; exact r1
    · rw [L_m_steps_2_20_u, if_neg (nI_ge (by omega) (by omega)), q2]
      simp only [cb]
      rw [s2]; exact r2
theorem E_steps_0 {sd p0 : Int32} {of of1 : Nat → Int64} {k a r t x : Int32} (h1 : F_h_steps_0 sd p0 of = (k, a, of1)) (h2 : F_m_steps_0 sd p0 = (r, t, x)) : t = k ∧ (k = 0 → of1 (0 : Int32).toNatClampNeg = r.toInt64) ∧ x = a := by
  rcases rin p0 1 1000 with ⟨e1, e2, a1, a2⟩ | ⟨e1, e2⟩
  · obtain ⟨P, hP1, hP, rfl⟩ := rng (a := 1) (b := 1000) (by decide) (by decide) a1 a2
    obtain ⟨r1, r2⟩ := ls_0 (sd := sd) hP P (P + 1) 0 (by omega) (by omega)
    unfold F_h_steps_0 F_steps_0 at h1
    unfold F_m_steps_0 at h2
    rw [nI_clamp (by omega)] at h1 h2
    rw [e2] at h1
    rw [e1] at h2
    have h1 : ch (L_steps_0_10 sd (nI P) (P + 1) 0) (1, sd, of) (1, sd, of) (fun r_1 => (0, sd + nI P, vp_updL of (0 : Int32).toNatClampNeg r_1.toInt64)) = (k, a, of1) := h1
    have h2 : L_m_steps_0_20 sd (nI P) (P + 1) 0 = (r, t, x) := h2
    rw [r1] at h1
    rw [r2] at h2
    have h1 : (0, sd + nI P, vp_updL of (0 : Int32).toNatClampNeg (sd + nI P).toInt64) = (k, a, of1) := h1
    cases h1; cases h2
    exact ⟨rfl, fun _ => updL0, rfl⟩
  · have q1 : F_h_steps_0 sd p0 of = (1, sd, of) := by unfold F_h_steps_0 F_steps_0; rw [e2]; rfl
    have q2 : F_m_steps_0 sd p0 = (0, 1, sd) := by unfold F_m_steps_0; rw [e1]; rfl
    rw [q1] at h1; rw [q2] at h2; cases h1; cases h2
    exact ⟨rfl, fun h => absurd h (by decide), rfl⟩
theorem E_steps_1 {n : Nat} {pf mh cf mc y14 x6 : Nat → Int32} {powered sd place speed way starts distance hardFalls dstate dplace dsteps dob doc ccount cover topSpeed gain brake darkSpeed rideSpeed kilos mostKilos openContacts fireFloor ride dplaces dhold dbeam p0 : Int32} {of of1 : Nat → Int64} {k a y1 y2 y3 y4 y5 y6 y7 y8 y9 y10 y11 y12 y13 r t x0 x1 x2 x3 x4 x5 x7 x8 x9 x10 x11 x12 x13 : Int32}
    (hs : shI n pf) (hsr : shR n pf mh) (hf9 : fiI n fireFloor) (hk : kiI place speed way topSpeed gain brake darkSpeed rideSpeed) (hd : doI dstate dplace dplaces) (hc : caI n ccount cf) (hr : caR 0 cf mc) (hm : ∀ i, 8 ≤ i → mc i = 0)
    (h1 : F_h_steps_1 powered sd n pf place speed way topSpeed gain brake darkSpeed rideSpeed kilos mostKilos openContacts fireFloor ride starts distance hardFalls dstate dplace dplaces dhold dsteps dbeam dob doc ccount cover cf p0 of = (k, a, y1, y2, y3, y4, y5, y6, y7, y8, y9, y10, y11, y12, y13, y14, of1)) (h2 : F_m_steps_1 n (drk powered) sd mh place (way * speed) topSpeed gain brake darkSpeed rideSpeed dstate dplace dsteps dplaces dhold kilos mostKilos dbeam openContacts fireFloor ride mc ccount starts distance hardFalls dob doc cover p0 = (r, t, x0, x1, x2, x3, x4, x5, x6, x7, x8, x9, x10, x11, x12, x13)) :
    t = k ∧ (k = 0 → of1 (0 : Int32).toNatClampNeg = r.toInt64) ∧ x0 = a ∧ (x1 = y1 ∧ x2 = y3 * y2 ∧ x3 = y7 ∧ x4 = y8 ∧ x5 = y9 ∧ x7 = y12 ∧ x8 = y4 ∧ x9 = y5 ∧ x10 = y6 ∧ x11 = y10 ∧ x12 = y11 ∧ x13 = y13) ∧ kiI y1 y2 y3 topSpeed gain brake darkSpeed rideSpeed ∧ doI y7 y8 dplaces ∧ caI n y12 y14 ∧ caR 0 y14 x6 ∧ (∀ i, 8 ≤ i → x6 i = 0) := by
  rcases rin p0 1 1000 with ⟨e1, e2, a1, a2⟩ | ⟨e1, e2⟩
  · obtain ⟨P, hP1, hP, rfl⟩ := rng (a := 1) (b := 1000) (by decide) (by decide) a1 a2
    obtain ⟨z1, z2, z3, z4, z5, z6, z7, z8, z9, z10, z11, z12, z13, z14, m', r1, r2, r3, r4, r5, r6, r7⟩ := ls_1 (powered := powered) (sd := sd) (kilos := kilos) (mostKilos := mostKilos) (openContacts := openContacts) (ride := ride) (dhold := dhold) (dbeam := dbeam) hP hs hsr hf9 P (P + 1) 0 place speed way starts distance hardFalls dstate dplace dsteps dob doc ccount cover cf mc (by omega) (by omega) hk hd hc hr hm
    have q1 : F_h_steps_1 powered sd n pf place speed way topSpeed gain brake darkSpeed rideSpeed kilos mostKilos openContacts fireFloor ride starts distance hardFalls dstate dplace dplaces dhold dsteps dbeam dob doc ccount cover cf (nI P) of = (0, sd + nI P, z1, z2, z3, z4, z5, z6, z7, z8, z9, z10, z11, z12, z13, z14, vp_updL of (0 : Int32).toNatClampNeg (sd + nI P).toInt64) := by
      unfold F_h_steps_1 F_steps_1
      rw [e2, nI_clamp (by omega)]
      show ch (L_steps_1_10 powered sd n pf topSpeed gain brake darkSpeed rideSpeed kilos mostKilos openContacts fireFloor ride dplaces dhold dbeam (nI P) (P + 1) 0 place speed way starts distance hardFalls dstate dplace dsteps dob doc ccount cover cf) _ _ _ = _
      rw [r1]; rfl
    have q2 : F_m_steps_1 n (drk powered) sd mh place (way * speed) topSpeed gain brake darkSpeed rideSpeed dstate dplace dsteps dplaces dhold kilos mostKilos dbeam openContacts fireFloor ride mc ccount starts distance hardFalls dob doc cover (nI P) = (sd + nI P, 0, sd + nI P, z1, z3 * z2, z7, z8, z9, m', z12, z4, z5, z6, z10, z11, z13) := by
      unfold F_m_steps_1
      rw [e1, nI_clamp (by omega)]
      exact r2
    rw [q1] at h1; rw [q2] at h2; cases h1; cases h2
    exact ⟨rfl, fun _ => updL0, rfl, ⟨rfl, rfl, rfl, rfl, rfl, rfl, rfl, rfl, rfl, rfl, rfl, rfl⟩, r3, r4, r5, r6, r7⟩
  · have q1 : F_h_steps_1 powered sd n pf place speed way topSpeed gain brake darkSpeed rideSpeed kilos mostKilos openContacts fireFloor ride starts distance hardFalls dstate dplace dplaces dhold dsteps dbeam dob doc ccount cover cf p0 of = (1, sd, place, speed, way, starts, distance, hardFalls, dstate, dplace, dsteps, dob, doc, ccount, cover, cf, of) := by unfold F_h_steps_1 F_steps_1; rw [e2]; rfl
    have q2 : F_m_steps_1 n (drk powered) sd mh place (way * speed) topSpeed gain brake darkSpeed rideSpeed dstate dplace dsteps dplaces dhold kilos mostKilos dbeam openContacts fireFloor ride mc ccount starts distance hardFalls dob doc cover p0 = (0, 1, sd, place, way * speed, dstate, dplace, dsteps, mc, ccount, starts, distance, hardFalls, dob, doc, cover) := by unfold F_m_steps_1; rw [e1]; rfl
    rw [q1] at h1; rw [q2] at h2; cases h1; cases h2
    exact ⟨rfl, fun h => absurd h (by decide), rfl, ⟨rfl, rfl, rfl, rfl, rfl, rfl, rfl, rfl, rfl, rfl, rfl, rfl⟩, hk, hd, hc, hr, hm⟩
theorem E_steps_2 {n : Nat} {pf mh cf cfB mc y14 t14 x11 : Nat → Int32} {powered sd gap place speed way starts distance hardFalls dstate dplace dsteps dob doc ccount cover topSpeed gain brake darkSpeed rideSpeed kilos mostKilos openContacts fireFloor ride dplaces dhold dbeam placeB speedB wayB startsB distanceB hardFallsB dstateB dplaceB dstepsB dobB docB ccountB coverB topSpeedB gainB brakeB darkSpeedB rideSpeedB kilosB mostKilosB openContactsB fireFloorB rideB dplacesB dholdB dbeamB p0 : Int32} {of of1 : Nat → Int64} {k a y1 y2 y3 y4 y5 y6 y7 y8 y9 y10 y11 y12 y13 t1 t2 t3 t4 t5 t6 t7 t8 t9 t10 t11 t12 t13 r t x0 x1 x2 x3 x4 x5 x6 x7 x8 x9 x10 x12 x13 x14 x15 x16 x17 x18 x19 x20 x21 x22 x23 x24 x25 : Int32}
    (hs : shI n pf) (hsr : shR n pf mh) (hg : gpI gap) (hf9 : fiI n fireFloor) (hf9B : fiI n fireFloorB) (hk : kiI place speed way topSpeed gain brake darkSpeed rideSpeed) (hd : doI dstate dplace dplaces) (hc : caI n ccount cf) (hr : caR 0 cf mc) (hkB : kiI placeB speedB wayB topSpeedB gainB brakeB darkSpeedB rideSpeedB) (hdB : doI dstateB dplaceB dplacesB) (hcB : caI n ccountB cfB) (hrB : caR 8 cfB mc)
    (h1 : F_h_steps_2 powered sd gap n pf 1 place speed way topSpeed gain brake darkSpeed rideSpeed kilos mostKilos openContacts fireFloor ride starts distance hardFalls dstate dplace dplaces dhold dsteps dbeam dob doc ccount cover cf (-1) placeB speedB wayB topSpeedB gainB brakeB darkSpeedB rideSpeedB kilosB mostKilosB openContactsB fireFloorB rideB startsB distanceB hardFallsB dstateB dplaceB dplacesB dholdB dstepsB dbeamB dobB docB ccountB coverB cfB p0 of = (k, a, y1, y2, y3, y4, y5, y6, y7, y8, y9, y10, y11, y12, y13, y14, t1, t2, t3, t4, t5, t6, t7, t8, t9, t10, t11, t12, t13, t14, of1)) (h2 : F_m_steps_2 n gap (drk powered) sd mh place placeB (way * speed) (wayB * speedB) topSpeed topSpeedB gain gainB brake brakeB darkSpeed darkSpeedB rideSpeed rideSpeedB dstate dstateB dplace dplaceB dsteps dstepsB dplaces dplacesB dhold dholdB kilos kilosB mostKilos mostKilosB dbeam dbeamB openContacts openContactsB fireFloor fireFloorB ride rideB mc ccount ccountB starts distance hardFalls dob doc cover startsB distanceB hardFallsB dobB docB coverB p0 = (r, t, x0, x1, x2, x3, x4, x5, x6, x7, x8, x9, x10, x11, x12, x13, x14, x15, x16, x17, x18, x19, x20, x21, x22, x23, x24, x25)) :
    t = k ∧ (k = 0 → of1 (0 : Int32).toNatClampNeg = r.toInt64) ∧ x0 = a ∧ (x1 = y1 ∧ x2 = t1 ∧ x3 = y3 * y2 ∧ x4 = t3 * t2 ∧ x5 = y7 ∧ x6 = t7 ∧ x7 = y8 ∧ x8 = t8 ∧ x9 = y9 ∧ x10 = t9 ∧ x12 = y12 ∧ x13 = t12 ∧ x14 = y4 ∧ x15 = y5 ∧ x16 = y6 ∧ x17 = y10 ∧ x18 = y11 ∧ x19 = y13 ∧ x20 = t4 ∧ x21 = t5 ∧ x22 = t6 ∧ x23 = t10 ∧ x24 = t11 ∧ x25 = t13) ∧ (kiI y1 y2 y3 topSpeed gain brake darkSpeed rideSpeed ∧ doI y7 y8 dplaces ∧ caI n y12 y14 ∧ caR 0 y14 x11) ∧ (kiI t1 t2 t3 topSpeedB gainB brakeB darkSpeedB rideSpeedB ∧ doI t7 t8 dplacesB ∧ caI n t12 t14 ∧ caR 8 t14 x11) := by
  rcases rin p0 1 1000 with ⟨e1, e2, a1, a2⟩ | ⟨e1, e2⟩
  · obtain ⟨P, hP1, hP, rfl⟩ := rng (a := 1) (b := 1000) (by decide) (by decide) a1 a2
    obtain ⟨z1, z2, z3, z4, z5, z6, z7, z8, z9, z10, z11, z12, z13, w1, w2, w3, w4, w5, w6, w7, w8, w9, w10, w11, w12, w13, z14, w14, m', r1, r2, r3⟩ := ls_2 (powered := powered) (sd := sd) (kilos := kilos) (mostKilos := mostKilos) (openContacts := openContacts) (ride := ride) (dhold := dhold) (dbeam := dbeam) (kilosB := kilosB) (mostKilosB := mostKilosB) (openContactsB := openContactsB) (rideB := rideB) (dholdB := dholdB) (dbeamB := dbeamB) hP hs hsr hg hf9 hf9B P (P + 1) 0 place speed way starts distance hardFalls dstate dplace dsteps dob doc ccount cover cf placeB speedB wayB startsB distanceB hardFallsB dstateB dplaceB dstepsB dobB docB ccountB coverB cfB mc (by omega) (by omega) hk hd hc hr hkB hdB hcB hrB
    have q1 : F_h_steps_2 powered sd gap n pf 1 place speed way topSpeed gain brake darkSpeed rideSpeed kilos mostKilos openContacts fireFloor ride starts distance hardFalls dstate dplace dplaces dhold dsteps dbeam dob doc ccount cover cf (-1) placeB speedB wayB topSpeedB gainB brakeB darkSpeedB rideSpeedB kilosB mostKilosB openContactsB fireFloorB rideB startsB distanceB hardFallsB dstateB dplaceB dplacesB dholdB dstepsB dbeamB dobB docB ccountB coverB cfB (nI P) of = (0, sd + nI P, z1, z2, z3, z4, z5, z6, z7, z8, z9, z10, z11, z12, z13, z14, w1, w2, w3, w4, w5, w6, w7, w8, w9, w10, w11, w12, w13, w14, vp_updL of (0 : Int32).toNatClampNeg (sd + nI P).toInt64) := by
      unfold F_h_steps_2 F_steps_2
      rw [e2, nI_clamp (by omega)]
      show ch (L_steps_2_10 powered sd gap n pf 1 topSpeed gain brake darkSpeed rideSpeed kilos mostKilos openContacts fireFloor ride dplaces dhold dbeam (-1) topSpeedB gainB brakeB darkSpeedB rideSpeedB kilosB mostKilosB openContactsB fireFloorB rideB dplacesB dholdB dbeamB (nI P) (P + 1) 0 place speed way starts distance hardFalls dstate dplace dsteps dob doc ccount cover cf placeB speedB wayB startsB distanceB hardFallsB dstateB dplaceB dstepsB dobB docB ccountB coverB cfB) _ _ _ = _
      rw [r1]; rfl
    have q2 : F_m_steps_2 n gap (drk powered) sd mh place placeB (way * speed) (wayB * speedB) topSpeed topSpeedB gain gainB brake brakeB darkSpeed darkSpeedB rideSpeed rideSpeedB dstate dstateB dplace dplaceB dsteps dstepsB dplaces dplacesB dhold dholdB kilos kilosB mostKilos mostKilosB dbeam dbeamB openContacts openContactsB fireFloor fireFloorB ride rideB mc ccount ccountB starts distance hardFalls dob doc cover startsB distanceB hardFallsB dobB docB coverB (nI P) = (sd + nI P, 0, sd + nI P, z1, w1, z3 * z2, w3 * w2, z7, w7, z8, w8, z9, w9, m', z12, w12, z4, z5, z6, z10, z11, z13, w4, w5, w6, w10, w11, w13) := by
      unfold F_m_steps_2
      rw [e1, nI_clamp (by omega)]
      exact r2
    rw [q1] at h1; rw [q2] at h2; cases h1; cases h2
    exact ⟨rfl, fun _ => updL0, rfl, ⟨rfl, rfl, rfl, rfl, rfl, rfl, rfl, rfl, rfl, rfl, rfl, rfl, rfl, rfl, rfl, rfl, rfl, rfl, rfl, rfl, rfl, rfl, rfl, rfl⟩, r3⟩
  · have q1 : F_h_steps_2 powered sd gap n pf 1 place speed way topSpeed gain brake darkSpeed rideSpeed kilos mostKilos openContacts fireFloor ride starts distance hardFalls dstate dplace dplaces dhold dsteps dbeam dob doc ccount cover cf (-1) placeB speedB wayB topSpeedB gainB brakeB darkSpeedB rideSpeedB kilosB mostKilosB openContactsB fireFloorB rideB startsB distanceB hardFallsB dstateB dplaceB dplacesB dholdB dstepsB dbeamB dobB docB ccountB coverB cfB p0 of = (1, sd, place, speed, way, starts, distance, hardFalls, dstate, dplace, dsteps, dob, doc, ccount, cover, cf, placeB, speedB, wayB, startsB, distanceB, hardFallsB, dstateB, dplaceB, dstepsB, dobB, docB, ccountB, coverB, cfB, of) := by unfold F_h_steps_2 F_steps_2; rw [e2]; rfl
    have q2 : F_m_steps_2 n gap (drk powered) sd mh place placeB (way * speed) (wayB * speedB) topSpeed topSpeedB gain gainB brake brakeB darkSpeed darkSpeedB rideSpeed rideSpeedB dstate dstateB dplace dplaceB dsteps dstepsB dplaces dplacesB dhold dholdB kilos kilosB mostKilos mostKilosB dbeam dbeamB openContacts openContactsB fireFloor fireFloorB ride rideB mc ccount ccountB starts distance hardFalls dob doc cover startsB distanceB hardFallsB dobB docB coverB p0 = (0, 1, sd, place, placeB, way * speed, wayB * speedB, dstate, dstateB, dplace, dplaceB, dsteps, dstepsB, mc, ccount, ccountB, starts, distance, hardFalls, dob, doc, cover, startsB, distanceB, hardFallsB, dobB, docB, coverB) := by unfold F_m_steps_2; rw [e1]; rfl
    rw [q1] at h1; rw [q2] at h2; cases h1; cases h2
    exact ⟨rfl, fun h => absurd h (by decide), rfl, ⟨rfl, rfl, rfl, rfl, rfl, rfl, rfl, rfl, rfl, rfl, rfl, rfl, rfl, rfl, rfl, rfl, rfl, rfl, rfl, rfl, rfl, rfl, rfl, rfl⟩, ⟨hk, hd, hc, hr⟩, ⟨hkB, hdB, hcB, hrB⟩⟩
