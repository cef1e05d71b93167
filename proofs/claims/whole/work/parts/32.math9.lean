/-! A step keeps class and reference alike. -/
theorem stg_rel_0 {n p' : Nat} {want mode u ki mk ds dp dw dh dst db ob oc cc cov : Int32} {cf mc : Nat → Int32} (hp : p' ≤ 100000) (hd : doI ds dp dw) (hc : caI n cc cf) (hr : caR 0 cf mc) (hm : mode = 0 → ¬ want = -1 → ¬ cc = 0) :
    ∃ x1 x2 x3 x4 x5 x6 x7 x8 m', stC (nI p') want mode u ki mk ds dp dw dh dst db ob oc cc cov cf = (x1, x2, x3, x4, x5, x6, x7, x8) ∧ stM F_m_land_0 (nI p') want mode u ki mk ds dp dw dh dst db ob oc cov cc mc = (x1, x2, x3, m', x6, x4, x5, x7) ∧
      doI x1 x2 dw ∧ caI n x6 x8 ∧ caR 0 x8 m' ∧ (∀ k, (k < 0 ∨ 0 + 8 ≤ k) → m' k = mc k) := by
  have key : ∀ (aw th a b c d e f : Int32) (g m : Nat → Int32), ((aw = 0 ∧ th = 1) ∨ (aw = 1 ∧ th = 0)) → doI a dp dw → caI n e g → caR 0 g m → (∀ k, (k < 0 ∨ 0 + 8 ≤ k) → m k = mc k) →
      ∃ x1 x2 x3 x4 x5 x6 x7 x8 m', (if mode = 1 then (a, dp, b, c, d, e, f, g) else cb (F_dTakeStep a dp dw dh b db c d mode (F_isOverloaded ki mk) aw) fun (a1, p1, b1, c1, d1) => (a1, p1, b1, c1, d1, e, f, g)) = (x1, x2, x3, x4, x5, x6, x7, x8) ∧
        (if mode = 1 then (a, dp, b, m, e, c, d, f) else cb (F_m_door_0 a dp b dw dh ki mk db d mode th) fun (a1, p1, b1, y4) => (a1, p1, b1, m, e, c, y4, f)) = (x1, x2, x3, m', x6, x4, x5, x7) ∧
        doI x1 x2 dw ∧ caI n x6 x8 ∧ caR 0 x8 m' ∧ (∀ k, (k < 0 ∨ 0 + 8 ≤ k) → m' k = mc k) := by
    intro aw th a b c d e f g m hat h1 h2 h3 h4
    by_cases e1 : mode = 1
    · rw [if_pos e1, if_pos e1]
      exact ⟨a, dp, b, c, d, e, f, g, m, rfl, rfl, h1, h2, h3, h4⟩
    · rw [if_neg e1, if_neg e1]
      obtain ⟨a1, p1, b1, d1, q1, q2, q3⟩ := door_rel (dh := dh) (dst := b) (db := db) (ob := c) (oc := d) (ki := ki) (mk := mk) (mode := mode) h1 hat
      rw [q1, q2]
      exact ⟨a1, p1, b1, c, d1, e, f, g, m, rfl, rfl, q3, h2, h3, h4⟩
  unfold stC stM
  by_cases hw : want = nI p'
  · have hn : ¬ want = -1 := by rw [hw]; exact nI_nm1 hp
    have e1 : (if want = (-1) then (0 : Int32) else if nI p' = want then 1 else 0) = 1 := by rw [if_neg hn, if_pos hw.symm]
    rw [e1]
    simp only [cb]
    simp only [if_pos hw, if_neg qn_10]
    by_cases hu : u = 0
    · simp only [if_pos hu]
      obtain ⟨a, b, c, d, e, f, g, m', q1, q2, q3, q4, q5, q6⟩ := land_rel_0 (dst := dst) (ob := ob) (oc := oc) (cov := cov) (mode := mode) hd hc hr (fun h => hm h hn)
      rw [q1, q2]
      exact key 0 1 a b c d e f g m' (Or.inl ⟨rfl, rfl⟩) q3 q4 q5 q6
    · simp only [if_neg hu]
      exact key 0 1 ds dst ob oc cc cov cf mc (Or.inl ⟨rfl, rfl⟩) hd hc hr (fun _ _ => rfl)
  · have e1 : (if want = (-1) then (0 : Int32) else if nI p' = want then 1 else 0) = 0 := by
      by_cases hn : want = -1
      · rw [if_pos hn]
      · rw [if_neg hn, if_neg (fun e => hw e.symm)]
    rw [e1]
    simp only [cb]
    simp only [if_neg hw, if_pos, ite_self]
    exact key 1 0 ds dst ob oc cc cov cf mc (Or.inr ⟨rfl, rfl⟩) hd hc hr (fun _ _ => rfl)
theorem stg_rel_1 {n p' : Nat} {want mode u ki mk ds dp dw dh dst db ob oc cc cov : Int32} {cf mc : Nat → Int32} (hp : p' ≤ 100000) (hd : doI ds dp dw) (hc : caI n cc cf) (hr : caR 8 cf mc) (hm : mode = 0 → ¬ want = -1 → ¬ cc = 0) :
    ∃ x1 x2 x3 x4 x5 x6 x7 x8 m', stC (nI p') want mode u ki mk ds dp dw dh dst db ob oc cc cov cf = (x1, x2, x3, x4, x5, x6, x7, x8) ∧ stM F_m_land_1 (nI p') want mode u ki mk ds dp dw dh dst db ob oc cov cc mc = (x1, x2, x3, m', x6, x4, x5, x7) ∧
      doI x1 x2 dw ∧ caI n x6 x8 ∧ caR 8 x8 m' ∧ (∀ k, (k < 8 ∨ 8 + 8 ≤ k) → m' k = mc k) := by
  have key : ∀ (aw th a b c d e f : Int32) (g m : Nat → Int32), ((aw = 0 ∧ th = 1) ∨ (aw = 1 ∧ th = 0)) → doI a dp dw → caI n e g → caR 8 g m → (∀ k, (k < 8 ∨ 8 + 8 ≤ k) → m k = mc k) →
      ∃ x1 x2 x3 x4 x5 x6 x7 x8 m', (if mode = 1 then (a, dp, b, c, d, e, f, g) else cb (F_dTakeStep a dp dw dh b db c d mode (F_isOverloaded ki mk) aw) fun (a1, p1, b1, c1, d1) => (a1, p1, b1, c1, d1, e, f, g)) = (x1, x2, x3, x4, x5, x6, x7, x8) ∧
        (if mode = 1 then (a, dp, b, m, e, c, d, f) else cb (F_m_door_0 a dp b dw dh ki mk db d mode th) fun (a1, p1, b1, y4) => (a1, p1, b1, m, e, c, y4, f)) = (x1, x2, x3, m', x6, x4, x5, x7) ∧
        doI x1 x2 dw ∧ caI n x6 x8 ∧ caR 8 x8 m' ∧ (∀ k, (k < 8 ∨ 8 + 8 ≤ k) → m' k = mc k) := by
    intro aw th a b c d e f g m hat h1 h2 h3 h4
    by_cases e1 : mode = 1
    · rw [if_pos e1, if_pos e1]
      exact ⟨a, dp, b, c, d, e, f, g, m, rfl, rfl, h1, h2, h3, h4⟩
    · rw [if_neg e1, if_neg e1]
      obtain ⟨a1, p1, b1, d1, q1, q2, q3⟩ := door_rel (dh := dh) (dst := b) (db := db) (ob := c) (oc := d) (ki := ki) (mk := mk) (mode := mode) h1 hat
      rw [q1, q2]
      exact ⟨a1, p1, b1, c, d1, e, f, g, m, rfl, rfl, q3, h2, h3, h4⟩
  unfold stC stM
  by_cases hw : want = nI p'
  · have hn : ¬ want = -1 := by rw [hw]; exact nI_nm1 hp
    have e1 : (if want = (-1) then (0 : Int32) else if nI p' = want then 1 else 0) = 1 := by rw [if_neg hn, if_pos hw.symm]
    rw [e1]
    simp only [cb]
    simp only [if_pos hw, if_neg qn_10]
    by_cases hu : u = 0
    · simp only [if_pos hu]
      obtain ⟨a, b, c, d, e, f, g, m', q1, q2, q3, q4, q5, q6⟩ := land_rel_1 (dst := dst) (ob := ob) (oc := oc) (cov := cov) (mode := mode) hd hc hr (fun h => hm h hn)
      rw [q1, q2]
      exact key 0 1 a b c d e f g m' (Or.inl ⟨rfl, rfl⟩) q3 q4 q5 q6
    · simp only [if_neg hu]
      exact key 0 1 ds dst ob oc cc cov cf mc (Or.inl ⟨rfl, rfl⟩) hd hc hr (fun _ _ => rfl)
  · have e1 : (if want = (-1) then (0 : Int32) else if nI p' = want then 1 else 0) = 0 := by
      by_cases hn : want = -1
      · rw [if_pos hn]
      · rw [if_neg hn, if_neg (fun e => hw e.symm)]
    rw [e1]
    simp only [cb]
    simp only [if_neg hw, if_pos, ite_self]
    exact key 1 0 ds dst ob oc cc cov cf mc (Or.inr ⟨rfl, rfl⟩) hd hc hr (fun _ _ => rfl)
def kiI (place speed way V g b R I : Int32) : Prop :=
  ∃ p v gn bn Vn Rn In : Nat, place = nI p ∧ speed = nI v ∧ V = nI Vn ∧ g = nI gn ∧ b = nI bn ∧ R = nI Rn ∧ I = nI In ∧ v ≤ 2000 ∧ 1 ≤ gn ∧ gn ≤ bn ∧ bn ≤ 1000 ∧ Vn ≤ 2000 ∧ Rn ≤ 2000 ∧ In ≤ 2000 ∧ wv v way ∧ czI p v gn way
theorem want0 {n : Nat} {pf cf : Nat → Int32} {pl ff ri cc mode : Int32} (h0 : mode = 0) (h : ¬ F_wantedPlace pl ff ri cc cf n pf mode = -1) : ¬ cc = 0 := by
  intro e
  apply h
  subst h0; subst e
  unfold F_wantedPlace F_firstFloor
  rw [if_pos rfl, if_pos (by decide)]
  simp only [cb]
  exact plOf_m1
theorem hd_eq {v : Nat} {tw way : Int32} (hv : v ≤ 2000) : (if nI v ≤ 0 then tw else way) = (if v = 0 then tw else way) := by
  by_cases h : v = 0
  · subst h; rw [if_pos (by decide), if_pos rfl]
  · rw [if_neg (nI_nle (by omega) (by omega)), if_neg h]
theorem step_rel_0 {n : Nat} {pf cf mc : Nat → Int32} {rm : Int32 → Int32} {place speed way V g b R I ki mk oc ff ri starts dist hf ds dp dw dh dst db ob od cc cov pw next : Int32} (hk : kiI place speed way V g b R I) (hdo : doI ds dp dw) (hc : caI n cc cf) (hf9 : fiI n ff) (hs : shI n pf) (hr : caR 0 cf mc)
    (hnx : next = (if speed ≤ 0 then F_wayTo place (F_wantedPlace place ff ri cc cf n pf (F_modeNow oc ff ri pw)) else way) * F_nextSpeed place speed way V g b R I ki mk ds (F_modeNow oc ff ri pw) (F_wantedPlace place ff ri cc cf n pf (F_modeNow oc ff ri pw)) (rm (if speed ≤ 0 then F_wayTo place (F_wantedPlace place ff ri cc cf n pf (F_modeNow oc ff ri pw)) else way))) :
    ∃ (y1 y2 y3 y4 y5 y6 y7 y8 y9 y10 y11 y12 y13 : Int32) (y14 m' : Nat → Int32), tsG rm place speed way V g b R I ki mk oc ff ri starts dist hf ds dp dw dh dst db ob od cc cov cf n pf pw = (y1, y2, y3, y4, y5, y6, y7, y8, y9, y10, y11, y12, y13, y14) ∧
      msG F_m_land_0 place (way * speed) g ki mk ds dp dw dh dst db cc starts dist hf ob od cov (F_modeNow oc ff ri pw) (F_wantedPlace place ff ri cc cf n pf (F_modeNow oc ff ri pw)) next mc = (y1, y3 * y2, y7, y8, y9, m', y12, y4, y5, y6, y10, y11, y13) ∧
      kiI y1 y2 y3 V g b R I ∧ doI y7 y8 dw ∧ caI n y12 y14 ∧ caR 0 y14 m' ∧ (∀ k, (k < 0 ∨ 0 + 8 ≤ k) → m' k = mc k) := by
  have hwo := wanted_wo (pl := place) (ri := ri) (mode := F_modeNow oc ff ri pw) hs hc hf9
  have hw0 := fun h => want0 (n := n) (pf := pf) (cf := cf) (pl := place) (ff := ff) (ri := ri) (cc := cc) (mode := F_modeNow oc ff ri pw) h
  unfold tsG msG
  generalize F_modeNow oc ff ri pw = mode at hnx hwo hw0 ⊢
  simp only [cb]
  generalize F_wantedPlace place ff ri cc cf n pf mode = want at hnx hwo hw0 ⊢
  obtain ⟨p, v, gn, bn, Vn, Rn, In, rfl, rfl, rfl, rfl, rfl, rfl, rfl, hv, hg, hgb, hb, hV, hR, hI, hw, hz⟩ := hk
  rw [hd_eq hv] at hnx ⊢
  generalize hhd : (if v = 0 then F_wayTo (nI p) want else way) = hd at hnx ⊢
  obtain ⟨u, eu, hu, hcase, _⟩ := next_spec (p := p) (v := v) (g := gn) (b := bn) (V := Vn) (R := Rn) (I := In) (way := way) (ki := ki) (mk := mk) (ds := ds) (mode := mode) (want := want) (room := rm hd) hz.1 hv hg hgb hb hV hR hI (wv_ne hw)
  rw [eu] at hnx ⊢
  obtain ⟨p', e1, hz', hw', e2⟩ := place_spec hz hw hg hwo hu hhd.symm hcase
  have hsz : F_m_size next = nI u := by rw [hnx, e2]; exact wv_size hw' (by omega)
  have e3 : nI p + next = nI p' := by rw [hnx]; exact e1
  rw [hsz, e3, e1, wv_size hw (by omega), goOn_eq]
  obtain ⟨x1, x2, x3, x4, x5, x6, x7, x8, m', q1, q2, q3, q4, q5, q6⟩ := stg_rel_0 (n := n) (p' := p') (want := want) (mode := mode) (u := nI u) (ki := ki) (mk := mk) (dh := dh) (dst := dst) (db := db) (ob := ob) (oc := od) (cov := cov) hz'.1 hdo hc hr hw0
  rw [q1, q2]
  refine ⟨nI p', nI u, _, _, _, _, x1, x2, x3, x4, x5, x6, x7, x8, m', rfl, ?_, ?_, q3, q4, q5, q6⟩
  · rw [← e2, ← hnx]
  · exact ⟨p', u, gn, bn, Vn, Rn, In, rfl, rfl, rfl, rfl, rfl, rfl, rfl, by omega, hg, hgb, hb, hV, hR, hI, hw', hz'⟩
theorem step_rel_1 {n : Nat} {pf cf mc : Nat → Int32} {rm : Int32 → Int32} {place speed way V g b R I ki mk oc ff ri starts dist hf ds dp dw dh dst db ob od cc cov pw next : Int32} (hk : kiI place speed way V g b R I) (hdo : doI ds dp dw) (hc : caI n cc cf) (hf9 : fiI n ff) (hs : shI n pf) (hr : caR 8 cf mc)
    (hnx : next = (if speed ≤ 0 then F_wayTo place (F_wantedPlace place ff ri cc cf n pf (F_modeNow oc ff ri pw)) else way) * F_nextSpeed place speed way V g b R I ki mk ds (F_modeNow oc ff ri pw) (F_wantedPlace place ff ri cc cf n pf (F_modeNow oc ff ri pw)) (rm (if speed ≤ 0 then F_wayTo place (F_wantedPlace place ff ri cc cf n pf (F_modeNow oc ff ri pw)) else way))) :
    ∃ (y1 y2 y3 y4 y5 y6 y7 y8 y9 y10 y11 y12 y13 : Int32) (y14 m' : Nat → Int32), tsG rm place speed way V g b R I ki mk oc ff ri starts dist hf ds dp dw dh dst db ob od cc cov cf n pf pw = (y1, y2, y3, y4, y5, y6, y7, y8, y9, y10, y11, y12, y13, y14) ∧
      msG F_m_land_1 place (way * speed) g ki mk ds dp dw dh dst db cc starts dist hf ob od cov (F_modeNow oc ff ri pw) (F_wantedPlace place ff ri cc cf n pf (F_modeNow oc ff ri pw)) next mc = (y1, y3 * y2, y7, y8, y9, m', y12, y4, y5, y6, y10, y11, y13) ∧
      kiI y1 y2 y3 V g b R I ∧ doI y7 y8 dw ∧ caI n y12 y14 ∧ caR 8 y14 m' ∧ (∀ k, (k < 8 ∨ 8 + 8 ≤ k) → m' k = mc k) := by
  have hwo := wanted_wo (pl := place) (ri := ri) (mode := F_modeNow oc ff ri pw) hs hc hf9
  have hw0 := fun h => want0 (n := n) (pf := pf) (cf := cf) (pl := place) (ff := ff) (ri := ri) (cc := cc) (mode := F_modeNow oc ff ri pw) h
  unfold tsG msG
  generalize F_modeNow oc ff ri pw = mode at hnx hwo hw0 ⊢
  simp only [cb]
  generalize F_wantedPlace place ff ri cc cf n pf mode = want at hnx hwo hw0 ⊢
  obtain ⟨p, v, gn, bn, Vn, Rn, In, rfl, rfl, rfl, rfl, rfl, rfl, rfl, hv, hg, hgb, hb, hV, hR, hI, hw, hz⟩ := hk
  rw [hd_eq hv] at hnx ⊢
  generalize hhd : (if v = 0 then F_wayTo (nI p) want else way) = hd at hnx ⊢
  obtain ⟨u, eu, hu, hcase, _⟩ := next_spec (p := p) (v := v) (g := gn) (b := bn) (V := Vn) (R := Rn) (I := In) (way := way) (ki := ki) (mk := mk) (ds := ds) (mode := mode) (want := want) (room := rm hd) hz.1 hv hg hgb hb hV hR hI (wv_ne hw)
  rw [eu] at hnx ⊢
  obtain ⟨p', e1, hz', hw', e2⟩ := place_spec hz hw hg hwo hu hhd.symm hcase
  have hsz : F_m_size next = nI u := by rw [hnx, e2]; exact wv_size hw' (by omega)
  have e3 : nI p + next = nI p' := by rw [hnx]; exact e1
  rw [hsz, e3, e1, wv_size hw (by omega), goOn_eq]
  obtain ⟨x1, x2, x3, x4, x5, x6, x7, x8, m', q1, q2, q3, q4, q5, q6⟩ := stg_rel_1 (n := n) (p' := p') (want := want) (mode := mode) (u := nI u) (ki := ki) (mk := mk) (dh := dh) (dst := dst) (db := db) (ob := ob) (oc := od) (cov := cov) hz'.1 hdo hc hr hw0
  rw [q1, q2]
  refine ⟨nI p', nI u, _, _, _, _, x1, x2, x3, x4, x5, x6, x7, x8, m', rfl, ?_, ?_, q3, q4, q5, q6⟩
  · rw [← e2, ← hnx]
  · exact ⟨p', u, gn, bn, Vn, Rn, In, rfl, rfl, rfl, rfl, rfl, rfl, rfl, by omega, hg, hgb, hb, hV, hR, hI, hw', hz'⟩
theorem nx_10 {n : Nat} {place speed way V g b R I ki mk ds mode want : Int32} (hk : kiI place speed way V g b R I) (hwo : wo want) :
    F_m_next_10 place (way * speed) V g b R I ds ki mk mode want = (if speed ≤ 0 then F_wayTo place want else way) * F_nextSpeed place speed way V g b R I ki mk ds mode want 1000000000 := by
  obtain ⟨p, v, gn, bn, Vn, Rn, In, rfl, rfl, rfl, rfl, rfl, rfl, rfl, hv, hg, hgb, hb, hV, hR, hI, hw, hz⟩ := hk
  rw [hd_eq hv, nX_10]
  exact nX_eq (gOk_10 hg hgb hb hv) hv hgb hb hV hR hI (wv_size hw (by omega)) (fun _ => wv_sign hw (by omega)) (wv_ne hw) (way_eq hz.1 hwo) rfl (fun h => by
    rcases hwo with h2 | ⟨w, h2, rfl⟩
    · exact absurd h2 h
    · exact sz_pos hz.1 h2)
theorem nx_20 {place speed way V g b R I ki mk ds mode want gap pB sB yB VB gB bB RB IB : Int32} (hk : kiI place speed way V g b R I) (hB : kiI pB sB yB VB gB bB RB IB) (hgap : ∃ G : Nat, G ≤ 10000 ∧ gap = nI G) (hwo : wo want) :
    F_m_next_20 gap place pB (way * speed) (yB * sB) V g b bB R I ds ki mk mode want = (if speed ≤ 0 then F_wayTo place want else way) * F_nextSpeed place speed way V g b R I ki mk ds mode want (F_roomToOther 1 place (-1) pB sB yB bB (if speed ≤ 0 then F_wayTo place want else way) gap) := by
  obtain ⟨p, v, gn, bn, Vn, Rn, In, rfl, rfl, rfl, rfl, rfl, rfl, rfl, hv, hg, hgb, hb, hV, hR, hI, hw, hz⟩ := hk
  obtain ⟨p2, v2, gn2, bn2, Vn2, Rn2, In2, rfl, rfl, rfl, rfl, rfl, rfl, rfl, hv2, hg2, hgb2, hb2, hV2, hR2, hI2, hw2, hz2⟩ := hB
  obtain ⟨G, hG, rfl⟩ := hgap
  rw [hd_eq hv, nX_20]
  have hst : F_m_stands_1 (nI p2) (yB * nI v2) (nI bn2) (-1) = F_standPlace (-1) (nI p2) (nI v2) yB (nI bn2) := stand_eq hw2 hv2 (by omega) hb2
  have hbd := stand_b (d := (-1)) (p := p2) hw2 hv2 (by omega) hb2 hz2.1
  have hroom : ∀ hd : Int32, F_roomToOther 1 (nI p) (-1) (nI p2) (nI v2) yB (nI bn2) hd (nI G) = (if hd = 1 then ((hd * (F_standPlace (-1) (nI p2) (nI v2) yB (nI bn2) - nI p)) - nI G) else 1000000000) := fun _ => rfl
  rw [hroom]
  exact nX_eq (gOk_20 hg hgb hb hv hz.1 hG hst hbd.1 hbd.2) hv hgb hb hV hR hI (wv_size hw (by omega)) (fun _ => wv_sign hw (by omega)) (wv_ne hw) (way_eq hz.1 hwo) rfl (fun h => by
    rcases hwo with h2 | ⟨w, h2, rfl⟩
    · exact absurd h2 h
    · exact sz_pos hz.1 h2)
theorem nx_21 {place speed way V g b R I ki mk ds mode want gap pB sB yB VB gB bB RB IB : Int32} (hk : kiI place speed way V g b R I) (hB : kiI pB sB yB VB gB bB RB IB) (hgap : ∃ G : Nat, G ≤ 10000 ∧ gap = nI G) (hwo : wo want) :
    F_m_next_21 gap pB place (yB * sB) (way * speed) V g bB b R I ds ki mk mode want = (if speed ≤ 0 then F_wayTo place want else way) * F_nextSpeed place speed way V g b R I ki mk ds mode want (F_roomToOther (-1) place 1 pB sB yB bB (if speed ≤ 0 then F_wayTo place want else way) gap) := by
  obtain ⟨p, v, gn, bn, Vn, Rn, In, rfl, rfl, rfl, rfl, rfl, rfl, rfl, hv, hg, hgb, hb, hV, hR, hI, hw, hz⟩ := hk
  obtain ⟨p2, v2, gn2, bn2, Vn2, Rn2, In2, rfl, rfl, rfl, rfl, rfl, rfl, rfl, hv2, hg2, hgb2, hb2, hV2, hR2, hI2, hw2, hz2⟩ := hB
  obtain ⟨G, hG, rfl⟩ := hgap
  rw [hd_eq hv, nX_21]
  have hst : F_m_stands_0 (nI p2) (yB * nI v2) (nI bn2) 1 = F_standPlace 1 (nI p2) (nI v2) yB (nI bn2) := stand_eq hw2 hv2 (by omega) hb2
  have hbd := stand_b (d := 1) (p := p2) hw2 hv2 (by omega) hb2 hz2.1
  have hroom : ∀ hd : Int32, F_roomToOther (-1) (nI p) 1 (nI p2) (nI v2) yB (nI bn2) hd (nI G) = (if hd = (-1) then ((hd * (F_standPlace 1 (nI p2) (nI v2) yB (nI bn2) - nI p)) - nI G) else 1000000000) := fun _ => rfl
  rw [hroom]
  exact nX_eq (gOk_21 hg hgb hb hv hz.1 hG hst hbd.1 hbd.2) hv hgb hb hV hR hI (wv_size hw (by omega)) (fun _ => wv_sign hw (by omega)) (wv_ne hw) (way_eq hz.1 hwo) rfl (fun h => by
    rcases hwo with h2 | ⟨w, h2, rfl⟩
    · exact absurd h2 h
    · exact sz_pos hz.1 h2)
theorem step_10 {n : Nat} {pf mh cf mc : Nat → Int32} {place speed way V g b R I ki mk oc ff ri starts dist hf ds dp dw dh dst db ob od cc cov pw : Int32} (hk : kiI place speed way V g b R I) (hdo : doI ds dp dw) (hc : caI n cc cf) (hf9 : fiI n ff) (hs : shI n pf) (hsr : shR n pf mh) (hr : caR 0 cf mc) :
    ∃ (y1 y2 y3 y4 y5 y6 y7 y8 y9 y10 y11 y12 y13 : Int32) (y14 m' : Nat → Int32), F_takeStepN place speed way V g b R I ki mk oc ff ri starts dist hf ds dp dw dh dst db ob od cc cov cf n pf pw = (y1, y2, y3, y4, y5, y6, y7, y8, y9, y10, y11, y12, y13, y14) ∧
      F_m_step_10 n (drk pw) mh place (way * speed) V g b R I ds dp dst dw dh ki mk db oc ff ri mc cc starts dist hf ob od cov = (y1, y3 * y2, y7, y8, y9, m', y12, y4, y5, y6, y10, y11, y13) ∧
      kiI y1 y2 y3 V g b R I ∧ doI y7 y8 dw ∧ caI n y12 y14 ∧ caR 0 y14 m' ∧ (∀ k, (k < 0 ∨ 0 + 8 ≤ k) → m' k = mc k) := by
  rw [ts_N, ms_10, mode_eq, wanted_eq hs hsr hc hf9 (hr 0 (by decide))]
  exact step_rel_0 (rm := (fun _ => 1000000000)) hk hdo hc hf9 hs hr (nx_10 (n := n) hk (wanted_wo hs hc hf9))
theorem step_20 {n : Nat} {pf mh cf mc : Nat → Int32} {gap pB sB yB VB gB bB RB IB place speed way V g b R I ki mk oc ff ri starts dist hf ds dp dw dh dst db ob od cc cov pw : Int32} (hk : kiI place speed way V g b R I) (hB : kiI pB sB yB VB gB bB RB IB) (hgap : ∃ G : Nat, G ≤ 10000 ∧ gap = nI G) (hdo : doI ds dp dw) (hc : caI n cc cf) (hf9 : fiI n ff) (hs : shI n pf) (hsr : shR n pf mh) (hr : caR 0 cf mc) :
    ∃ (y1 y2 y3 y4 y5 y6 y7 y8 y9 y10 y11 y12 y13 : Int32) (y14 m' : Nat → Int32), F_takeStep 1 place speed way V g b R I ki mk oc ff ri starts dist hf ds dp dw dh dst db ob od cc cov cf gap n pf (-1) pB sB yB bB pw = (y1, y2, y3, y4, y5, y6, y7, y8, y9, y10, y11, y12, y13, y14) ∧
      F_m_step_20 n gap (drk pw) mh place pB (way * speed) (yB * sB) V g b bB R I ds dp dst dw dh ki mk db oc ff ri mc cc starts dist hf ob od cov = (y1, y3 * y2, y7, y8, y9, m', y12, y4, y5, y6, y10, y11, y13) ∧
      kiI y1 y2 y3 V g b R I ∧ doI y7 y8 dw ∧ caI n y12 y14 ∧ caR 0 y14 m' ∧ (∀ k, (k < 0 ∨ 0 + 8 ≤ k) → m' k = mc k) := by
  rw [ts_O, ms_20, mode_eq, wanted_eq hs hsr hc hf9 (hr 0 (by decide))]
  exact step_rel_0 (rm := (fun hd => F_roomToOther 1 place (-1) pB sB yB bB hd gap)) hk hdo hc hf9 hs hr (nx_20 hk hB hgap (wanted_wo hs hc hf9))
theorem step_21 {n : Nat} {pf mh cf mc : Nat → Int32} {gap pB sB yB VB gB bB RB IB place speed way V g b R I ki mk oc ff ri starts dist hf ds dp dw dh dst db ob od cc cov pw : Int32} (hk : kiI place speed way V g b R I) (hB : kiI pB sB yB VB gB bB RB IB) (hgap : ∃ G : Nat, G ≤ 10000 ∧ gap = nI G) (hdo : doI ds dp dw) (hc : caI n cc cf) (hf9 : fiI n ff) (hs : shI n pf) (hsr : shR n pf mh) (hr : caR 8 cf mc) :
    ∃ (y1 y2 y3 y4 y5 y6 y7 y8 y9 y10 y11 y12 y13 : Int32) (y14 m' : Nat → Int32), F_takeStep (-1) place speed way V g b R I ki mk oc ff ri starts dist hf ds dp dw dh dst db ob od cc cov cf gap n pf 1 pB sB yB bB pw = (y1, y2, y3, y4, y5, y6, y7, y8, y9, y10, y11, y12, y13, y14) ∧
      F_m_step_21 n gap (drk pw) mh pB place (yB * sB) (way * speed) V g bB b R I ds dp dst dw dh ki mk db oc ff ri mc cc starts dist hf ob od cov = (y1, y3 * y2, y7, y8, y9, m', y12, y4, y5, y6, y10, y11, y13) ∧
      kiI y1 y2 y3 V g b R I ∧ doI y7 y8 dw ∧ caI n y12 y14 ∧ caR 8 y14 m' ∧ (∀ k, (k < 8 ∨ 8 + 8 ≤ k) → m' k = mc k) := by
  rw [ts_O, ms_21, mode_1, mode_eq, wanted_1, wanted_eq hs hsr hc hf9 (hr 0 (by decide))]
  exact step_rel_1 (rm := (fun hd => F_roomToOther (-1) place 1 pB sB yB bB hd gap)) hk hdo hc hf9 hs hr (nx_21 hk hB hgap (wanted_wo hs hc hf9))
