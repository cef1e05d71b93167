def evF : List (String × Nat × String × String × String × String) := [(RX4, 62, "CarSteps$Shaft", "gap", "I", "CarSteps"),
  (RX1, 99, "CarSteps$Shaft", "gap", "I", "CarSteps"),
  (RX4, 117, "CarSteps$Door", "state", "I", "CarSteps"),
  (RX1, 156, "CarSteps$Door", "state", "I", "CarSteps"),
  (RX4, 191, "CarSteps$Door", "place", "I", "CarSteps"),
  (RX4, 124, "CarSteps$Door", "places", "I", "CarSteps"),
  (RX4, 127, "CarSteps$Door", "hold", "I", "CarSteps"),
  (RX4, 156, "CarSteps$Door", "beamBroken", "Z", "CarSteps"),
  (RX4, 207, "CarSteps$Door", "openingsBehindClosed", "I", "CarSteps"),
  (RX4, 210, "CarSteps$Door", "openingsBehindClosing", "I", "CarSteps"),
  (RX4, 134, "CarSteps$Calls", "count", "I", "CarSteps"),
  (RX4, 213, "CarSteps$Calls", "over", "I", "CarSteps"),
  (RX4, 113, "CarSteps$Car", "door", "LCarSteps$Door;", "CarSteps"),
  (RX4, 130, "CarSteps$Car", "calls", "LCarSteps$Calls;", "CarSteps"),
  (RX4, 144, "CarSteps$Car", "place", "I", "CarSteps"),
  (RX4, 93, "CarSteps$Car", "speed", "I", "CarSteps"),
  (RX4, 184, "CarSteps$Car", "way", "I", "CarSteps"),
  (RX4, 98, "CarSteps$Car", "topSpeed", "I", "CarSteps"),
  (RX4, 101, "CarSteps$Car", "gain", "I", "CarSteps"),
  (RX4, 104, "CarSteps$Car", "brake", "I", "CarSteps"),
  (RX4, 107, "CarSteps$Car", "darkSpeed", "I", "CarSteps"),
  (RX4, 110, "CarSteps$Car", "rideSpeed", "I", "CarSteps"),
  (RX4, 165, "CarSteps$Car", "kilos", "I", "CarSteps"),
  (RX4, 168, "CarSteps$Car", "mostKilos", "I", "CarSteps"),
  (RX4, 162, "CarSteps$Car", "openContacts", "I", "CarSteps"),
  (RX4, 171, "CarSteps$Car", "fireFloor", "I", "CarSteps"),
  (RX4, 174, "CarSteps$Car", "ride", "I", "CarSteps"),
  (RX4, 198, "CarSteps$Car", "starts", "I", "CarSteps"),
  (RX4, 201, "CarSteps$Car", "distance", "I", "CarSteps"),
  (RX4, 204, "CarSteps$Car", "hardFalls", "I", "CarSteps")]
def evM : List (String × Nat × MethodName × String) := [(RX1, 11, yX2_init, "CarSteps"),
  (RX1, 20, yX0_init, "CarSteps"),
  (RX1, 84, yX4_length, "CarSteps")]
def evS : List (String × Nat × String) := [(RX4, 222, "a number is out of its bounds"),
  (RX4, 220, "there is a car"),
  (RX4, 49, "the place does not lie between those of the neighbours"),
  (RX4, 77, "there are two cars"),
  (RX4, 82, "the floor is too near to car 0"),
  (RX4, 218, "there is no such car"),
  (RX4, 90, "the gain is above the brake"),
  (RX4, 96, "the car does not stand"),
  (RX4, 122, "the door is not closed"),
  (RX4, 139, "there are too many calls"),
  (RX4, 150, "the car is not at a floor"),
  (RX4, 196, "there is no such thing to be told"),
  (RX4, 216, "there is no such wear")]
def evD : List MethodName := [⟨"java/lang/RuntimeException", "<init>", "(Ljava/lang/String;)V"⟩, ⟨"java/lang/Exception", "<init>", "(Ljava/lang/String;)V"⟩, ⟨"java/lang/Throwable", "<init>", "(Ljava/lang/String;)V"⟩]
def evC : List (String × String) := [("java/lang/IllegalArgumentException", "java/lang/IllegalArgumentException"), ("java/lang/IllegalStateException", "java/lang/IllegalStateException")]
def evN : List (String × String) := [("java/lang/IllegalStateException", "java/lang/IllegalArgumentException")]
/-! My own tools: the surroundings of a method (ev), a contract's start and end, calls with their frame in one row, returns. -/
def nb (r : Int32) : Prop := r = 0 ∨ r = 1
theorem nb_n {v : Int32} (h : nb v) : narrow .boolean (.int v) = .int v := by
  rcases h with rfl | rfl <;> rfl
theorem nb_f {v : Int32} (h : nb v) : fits .boolean (.int v) = true := by
  rcases h with rfl | rfl <;> rfl
def cb {α β : Type} (x : α) (k : α → β) : β := k x
theorem cb_e {α β : Type} {x y : α} {k : α → β} (h : x = y) : cb x k = k y := by rw [h]; rfl
def cx {α β : Type} (x : Int32 ⊕ α) (k : α → Int32 ⊕ β) : Int32 ⊕ β := match x with
  | .inl e => .inl e
  | .inr a => k a
theorem cx_l {α β : Type} {x : Int32 ⊕ α} {k : α → Int32 ⊕ β} {e : Int32} (h : x = .inl e) : cx x k = .inl e := by rw [h]; rfl
theorem cx_r {α β : Type} {x : Int32 ⊕ α} {k : α → Int32 ⊕ β} {a : α} (h : x = .inr a) : cx x k = k a := by rw [h]; rfl
def xN (u : Int32) : String := if u = 1 then "java/lang/IllegalArgumentException" else "java/lang/IllegalStateException"
/-- the surroundings: statics that a throw reads, links across the nest, words that no list can hold -/
def ev (A : Nat → Prop) (U : State) (H : Heap) : Prop :=
  (vx_Zq Bundle.tN "UNASSIGNED_STACK" Bundle.steD A U H ∧ vx_Zq Bundle.tN "SUPPRESSED_SENTINEL" Bundle.listD A U H) ∧
  (∀ q ∈ evF, va_Nw (.fieldLinkNest q.1 q.2.1 q.2.2.1 q.2.2.2.1 q.2.2.2.2.1 q.2.2.2.2.2) U) ∧
  (∀ q ∈ evM, va_Nw (.methodLinkNest q.1 q.2.1 q.2.2.1 q.2.2.2) U) ∧
  (∀ q ∈ evD, va_Nw (.declares q) U) ∧ (∀ q ∈ evC, va_Nw (.castable q.1 q.2) U) ∧
  (∀ q ∈ evS, ∃ a, vk_R q.1 q.2.1 q.2.2 a U) ∧ (∀ q ∈ evN, va_Nc q.1 q.2 U)
theorem ev_w {A : Nat → Prop} {s U : State} {H : Heap} (hW : s.WarmedH U.vm) (h : ev A s H) : ev A U H := by
  obtain ⟨⟨h1, h2⟩, h3, h4, h5, h6, h7, h8⟩ := h
  exact ⟨⟨vx_Zq.moved hW.alike h1, vx_Zq.moved hW.alike h2⟩, fun q hq => va_Nw.warmF hW (h3 q hq), fun q hq => va_Nw.warmM hW (h4 q hq), fun q hq => va_Nw.warmD hW (h5 q hq), fun q hq => va_Nw.warmC hW (h6 q hq), fun q hq => by obtain ⟨a, ha⟩ := h7 q hq; exact ⟨a, vk_R.warm hW ha⟩, fun q hq => va_Nc.moved hW.alike (h8 q hq)⟩
theorem ev_k {A : Nat → Prop} {U : State} {H H1 : Heap} (h : ev A U H) (hq : ∀ a : Nat, a < H.size → ¬ A a → H1[a]? = H[a]?) : ev A U H1 :=
  ⟨⟨h.1.1.kept hq, h.1.2.kept hq⟩, h.2⟩
theorem ev_n {A B : Nat → Prop} {U : State} {H : Heap} (h : ev A U H) (hAB : ∀ q, B q → A q) : ev B U H :=
  ⟨⟨h.1.1.narrow hAB, h.1.2.narrow hAB⟩, h.2⟩
theorem ev_c {A : Nat → Prop} {U : State} {g : JFrame} {mk : MethodId} {a : Array Value} (h : ev A U U.heap) : ev A (U.calling g mk a) (U.calling g mk a).heap :=
  ev_w (s := U) (U := U.calling g mk a) (State.WarmedH.refl U) h
theorem nwF {A : Nat → Prop} {U : State} {H : Heap} {args : Array Value} (h : ev A U H) (k : Nat) {a : String} {i : Nat} {b n d o : String} (hk : evF[k]? = some (a, i, b, n, d, o)) : (Cond.fieldLinkNest a i b n d o).before args U = true :=
  va_Nw.use rfl (h.2.1 _ (List.mem_of_getElem? hk))
theorem nwM {A : Nat → Prop} {U : State} {H : Heap} (h : ev A U H) (k : Nat) {a : String} {i : Nat} {y : MethodName} {o : String} (hk : evM[k]? = some (a, i, y, o)) : va_Nw (.methodLinkNest a i y o) U :=
  h.2.2.1 _ (List.mem_of_getElem? hk)
theorem nwD {A : Nat → Prop} {U : State} {H : Heap} {args : Array Value} (h : ev A U H) (k : Nat) {y : MethodName} (hk : evD[k]? = some y) : (Cond.declares y).before args U = true :=
  va_Nw.use rfl (h.2.2.2.1 _ (List.mem_of_getElem? hk))
theorem nwC {A : Nat → Prop} {U : State} {H : Heap} {args : Array Value} (h : ev A U H) (k : Nat) {a b : String} (hk : evC[k]? = some (a, b)) : (Cond.castable a b).before args U = true :=
  va_Nw.use rfl (h.2.2.2.2.1 _ (List.mem_of_getElem? hk))
/-- a contract's start and its ends -/
def mpre (D : va_G) (tys : List (ClassId × FieldType)) (ws : va_W) (sz : Nat) (U : State) : Prop :=
  U.heap.size = sz ∧ va_P D vwCl ws U.heap ∧ va_K D vwCl tys U ∧ va_D (fun _ => True) ws ∧ ev (va_A ws sz) U U.heap
def mpst {S : Type} (D : va_G) (A : Nat → Prop) (w1 : S → va_W) (u : S) (t : State) : Prop := va_P D vwCl (w1 u) t.heap ∧ va_D A (w1 u)
def mpsr {S : Type} (D : va_G) (A : Nat → Prop) (w1 : S → va_W) (ra : Nat) (u : S) (a : Nat) (t : State) : Prop := a = ra ∧ va_P D vwCl (w1 u) t.heap ∧ va_D A (w1 u)
def mpsx (D : va_G) (A : Nat → Prop) (w : va_W) (E : String) (u : Int32) (t : State) : Prop := E = xN u ∧ va_P D vwCl w t.heap ∧ va_D A w
theorem fm_of {ws wc : va_W} {is : List Nat} (h : is.map (fun i => ws[i]?) = wc.map some) : is.filterMap (fun i => ws[i]?) = wc := by
  have h1 : is.filterMap (fun i => ws[i]?) = (is.map (fun i => ws[i]?)).filterMap id := by
    rw [List.filterMap_map]; rfl
  rw [h1, h, List.filterMap_map]
  show wc.filterMap some = wc
  exact List.filterMap_some
section TA
variable {p : Program} {l : Launch} {e : Env} {R : Room} {s : State} {m : MethodId} {args : Array Value} {below : List Frame} {meth : Method} {c : Code} {H : Heap} {locs : List Loc} {cells slots : Nat} {Q : State → Prop}
variable {D : va_G} {tys : List (ClassId × FieldType)} {ws wc wr ws0 : va_W} {A : Nat → Prop}
theorem pre_of (hK : va_K D vwCl tys s) (hP : va_P D vwCl ws H) (hD : va_D A ws) (hS : va_S A s.heap H locs) (hA : ∀ q, s.heap.size ≤ q → A q) (hE : ev A s s.heap) (isC : List Nat)
    (hC : isC.map (fun i => ws[i]?) = wc.map some) (hn : va_nd isC = true) (av : List Value) : PreS s H (va_Pc av (mpre D tys wc H.size)) av := by
  refine ⟨fun a U g mk q => ?_, fun U hU hW => ⟨rfl, by rw [hU], ?_, va_K.moved hW.alike hK, ?_, ?_⟩⟩
  · obtain ⟨q0, q1, qP, qK, qD, qE⟩ := q
    exact ⟨q0, q1, qP, va_K.moved (u := U) (U := U.calling g mk a) (Vm.Alike.refl U.vm) qK, qD, ev_c qE⟩
  · rw [hU]; exact hP.sub isC (fm_of hC)
  · exact (hD.sub isC hn hC).weaken (fun _ _ _ _ => trivial)
  · rw [hU]; exact ev_n (ev_w hW (ev_k hE hS.2.1)) (va_free hD hS hA isC hC)
theorem prev_of (hK : va_K D vwCl tys s) (hP : va_P D vwCl ws H) (hD : va_D A ws) (hS : va_S A s.heap H locs) (hA : ∀ q, s.heap.size ≤ q → A q) (hE : ev A s s.heap) (isC : List Nat)
    (hC : isC.map (fun i => ws[i]?) = wc.map some) (hn : va_nd isC = true) {ci : Nat} {C : String} {T : u_T} {N : Nat} (hc : vwCl[ci]? = some (C, T, N)) (q0 : Nat) {b : Nat} {fs : List Value} (he : ws[q0]? = some (b, .inr (ci, fs))) (As : List Value) :
    PreV s H C b (va_Pc (.ref b :: As) (mpre D tys wc H.size)) As :=
  ⟨(pre_of hK hP hD hS hA hE isC hC hn (.ref b :: As)).1, va_recv hK hP hc he, (pre_of hK hP hD hS hA hE isC hC hn (.ref b :: As)).2⟩
variable {pc : Nat} {ls : Array Slot} {st0 rest : List Value} {mc ms : Nat} {av : Array Value}
theorem my_i {S : Type} {post : Int32 → S → Prop} {w1 : S → va_W} (isC isR : List Nat)
    (hr : va_Run p l e R s m args below meth c H locs cells slots mc ms (F0 m pc ls st0) rest (va_Qi post (mpst D (va_A wc H.size) w1) (va_A wc H.size) av) (va_A wc H.size))
    (hP : va_P D vwCl ws H) (hD : va_D A ws) (hS : va_S A s.heap H locs) (hA : ∀ q, s.heap.size ≤ q → A q) (hC : isC.map (fun i => ws[i]?) = wc.map some) (hR : isR.map (fun i => ws[i]?) = wr.map some) (hn : va_nd isR = true) (hdis : ∀ i ∈ isR, i ∉ isC)
    (kk : ∀ (r : Int32) (u : S) (H1 : Heap) (locs1 : List Loc), post r u → va_P D vwCl (wr ++ w1 u) H1 → va_D A (wr ++ w1 u) → va_S A s.heap H1 locs1 → W p l e R s m args below meth c H1 locs1 (cells + mc) (slots + ms) Q (F0 m (pc + 3) ls (.int r :: rest))) :
    W p l e R s m args below meth c H locs cells slots Q (F0 m pc ls st0) := by
  have hF := va_free hD hS hA isC hC
  refine va_calli hr hS (fun q _ h => hF q h) hF (fun r u t H1 locs1 ht hvm hw hB hz hk hS1 => ?_)
  obtain ⟨hP1, hD1⟩ := hB
  rw [ht] at hP1
  obtain ⟨hP2, hD2⟩ := va_join hP hD isC isR hC hR hn hdis hk hF hP1 hD1
  exact kk r u H1 locs1 hw hP2 hD2 hS1
theorem my_v {S : Type} {post : S → Prop} {w1 : S → va_W} (isC isR : List Nat)
    (hr : va_Run p l e R s m args below meth c H locs cells slots mc ms (F0 m pc ls st0) rest (va_Qv post (mpst D (va_A wc H.size) w1) (va_A wc H.size) av) (va_A wc H.size))
    (hP : va_P D vwCl ws H) (hD : va_D A ws) (hS : va_S A s.heap H locs) (hA : ∀ q, s.heap.size ≤ q → A q) (hC : isC.map (fun i => ws[i]?) = wc.map some) (hR : isR.map (fun i => ws[i]?) = wr.map some) (hn : va_nd isR = true) (hdis : ∀ i ∈ isR, i ∉ isC)
    (kk : ∀ (u : S) (H1 : Heap) (locs1 : List Loc), post u → va_P D vwCl (wr ++ w1 u) H1 → va_D A (wr ++ w1 u) → va_S A s.heap H1 locs1 → W p l e R s m args below meth c H1 locs1 (cells + mc) (slots + ms) Q (F0 m (pc + 3) ls rest)) :
    W p l e R s m args below meth c H locs cells slots Q (F0 m pc ls st0) := by
  have hF := va_free hD hS hA isC hC
  refine va_callv hr hS (fun q _ h => hF q h) hF (fun u t H1 locs1 ht hvm hw hB hz hk hS1 => ?_)
  obtain ⟨hP1, hD1⟩ := hB
  rw [ht] at hP1
  obtain ⟨hP2, hD2⟩ := va_join hP hD isC isR hC hR hn hdis hk hF hP1 hD1
  exact kk u H1 locs1 hw hP2 hD2 hS1
variable {Qc : Array Value → State → Outcome → State → Prop} {mcM msM : Nat}
theorem my_xi {S : Type} {post : Int32 → S → Prop} {w1 : S → va_W} {px gx : Int32 → Prop} (isC isR isP : List Nat)
    (hr : vx_Run p l e R s m args below meth c H locs cells slots mc ms (F0 m pc ls st0) rest (va_Qi post (mpst D (va_A wc H.size) w1) (va_A wc H.size) av) (vx_X px (mpsx D (va_A wc H.size) wc) (va_A wc H.size)) (va_A wc H.size))
    (hP : va_P D vwCl ws H) (hD : va_D A ws) (hS : va_S A s.heap H locs) (hA : ∀ q, s.heap.size ≤ q → A q) (hC : isC.map (fun i => ws[i]?) = wc.map some) (hR : isR.map (fun i => ws[i]?) = wr.map some) (hn : va_nd isR = true) (hdis : ∀ i ∈ isR, i ∉ isC)
    (hQ : Q = vx_MQ below Qc (vx_X gx (mpsx D A ws0) A) args s mcM msM A) (hg : ∀ u, px u → gx u) (hout : ∀ x ∈ c.exceptionTable.toList, False) (hlk : meth.locks = false) (hI : isP.map (fun i => (wr ++ wc)[i]?) = ws0.map some) (hnP : va_nd isP = true) (hcm : cells + mc ≤ mcM) (hsm : slots + ms ≤ msM)
    (kk : ∀ (r : Int32) (u : S) (H1 : Heap) (locs1 : List Loc), post r u → va_P D vwCl (wr ++ w1 u) H1 → va_D A (wr ++ w1 u) → va_S A s.heap H1 locs1 → W p l e R s m args below meth c H1 locs1 (cells + mc) (slots + ms) Q (F0 m (pc + 3) ls (.int r :: rest))) :
    W p l e R s m args below meth c H locs cells slots Q (F0 m pc ls st0) := by
  subst hQ
  have hF := va_free hD hS hA isC hC
  refine vx_calli hr hS (fun q _ h => hF q h) hF (fun q _ h => hF q h) (fun E ce q9 u t H1 locs1 ht hvm hw hB hz hk hS1 hce hcv hcl => ?_) (fun r u t H1 locs1 ht hvm hw hB hz hk hS1 => ?_)
  · obtain ⟨hE, hP1, hD1⟩ := hB
    rw [ht] at hP1
    obtain ⟨hP2, hD2⟩ := va_join hP hD isC isR hC hR hn hdis hk hF hP1 hD1
    exact vx_out (fun x hx => (hout x hx).elim) hlk hce hcv hcl (fun t2 ht2 _ => ⟨u, hg u hw, ⟨hE, by rw [ht2]; exact hP2.sub isP (fm_of hI), hD2.sub isP hnP hI⟩, hS1.F ht2⟩) hS1.2.2 hcm hsm
  · obtain ⟨hP1, hD1⟩ := hB
    rw [ht] at hP1
    obtain ⟨hP2, hD2⟩ := va_join hP hD isC isR hC hR hn hdis hk hF hP1 hD1
    exact kk r u H1 locs1 hw hP2 hD2 hS1
theorem my_xv {S : Type} {post : S → Prop} {w1 : S → va_W} {px gx : Int32 → Prop} (isC isR isP : List Nat)
    (hr : vx_Run p l e R s m args below meth c H locs cells slots mc ms (F0 m pc ls st0) rest (va_Qv post (mpst D (va_A wc H.size) w1) (va_A wc H.size) av) (vx_X px (mpsx D (va_A wc H.size) wc) (va_A wc H.size)) (va_A wc H.size))
    (hP : va_P D vwCl ws H) (hD : va_D A ws) (hS : va_S A s.heap H locs) (hA : ∀ q, s.heap.size ≤ q → A q) (hC : isC.map (fun i => ws[i]?) = wc.map some) (hR : isR.map (fun i => ws[i]?) = wr.map some) (hn : va_nd isR = true) (hdis : ∀ i ∈ isR, i ∉ isC)
    (hQ : Q = vx_MQ below Qc (vx_X gx (mpsx D A ws0) A) args s mcM msM A) (hg : ∀ u, px u → gx u) (hout : ∀ x ∈ c.exceptionTable.toList, False) (hlk : meth.locks = false) (hI : isP.map (fun i => (wr ++ wc)[i]?) = ws0.map some) (hnP : va_nd isP = true) (hcm : cells + mc ≤ mcM) (hsm : slots + ms ≤ msM)
    (kk : ∀ (u : S) (H1 : Heap) (locs1 : List Loc), post u → va_P D vwCl (wr ++ w1 u) H1 → va_D A (wr ++ w1 u) → va_S A s.heap H1 locs1 → W p l e R s m args below meth c H1 locs1 (cells + mc) (slots + ms) Q (F0 m (pc + 3) ls rest)) :
    W p l e R s m args below meth c H locs cells slots Q (F0 m pc ls st0) := by
  subst hQ
  have hF := va_free hD hS hA isC hC
  refine vx_callv hr hS (fun q _ h => hF q h) hF (fun q _ h => hF q h) (fun E ce q9 u t H1 locs1 ht hvm hw hB hz hk hS1 hce hcv hcl => ?_) (fun u t H1 locs1 ht hvm hw hB hz hk hS1 => ?_)
  · obtain ⟨hE, hP1, hD1⟩ := hB
    rw [ht] at hP1
    obtain ⟨hP2, hD2⟩ := va_join hP hD isC isR hC hR hn hdis hk hF hP1 hD1
    exact vx_out (fun x hx => (hout x hx).elim) hlk hce hcv hcl (fun t2 ht2 _ => ⟨u, hg u hw, ⟨hE, by rw [ht2]; exact hP2.sub isP (fm_of hI), hD2.sub isP hnP hI⟩, hS1.F ht2⟩) hS1.2.2 hcm hsm
  · obtain ⟨hP1, hD1⟩ := hB
    rw [ht] at hP1
    obtain ⟨hP2, hD2⟩ := va_join hP hD isC isR hC hR hn hdis hk hF hP1 hD1
    exact kk u H1 locs1 hw hP2 hD2 hS1
theorem vr_callr {a : Array Value} {free A1 AX : Nat → Prop} {H0 : Heap} {S SX : Type} {post : S → Prop} {px : SX → Prop} {B : S → Nat → State → Prop} {BX : String → SX → State → Prop} (hr : vx_Run p l e R s m args below meth c H locs cells slots mc ms (F0 m pc ls st0) rest (va_Qr post B A1 a) (vx_X px BX AX) free) (hS : va_S A H0 H locs) (hA : ∀ q, q < H.size → A1 q → A q) (hf : ∀ q, free q → A q) (hAX : ∀ q, q < H.size → AX q → A q)
    (kx : ∀ (E : String) (ce : Cell) (q9 : Addr) (u : SX) (t : State) (H1 : Heap) (locs1 : List Loc), t.heap = H1 → s.vm.Alike t.vm → px u → BX E u t → H.size ≤ H1.size → (∀ q : Nat, q < H.size → ¬ AX q → H1[q]? = H[q]?) → va_S A H0 H1 locs1 → H1[q9]? = some ce → ce.vm = .none → s.vm.findClass E = some ce.cls → vx_W p l e R s m args below meth c H1 locs1 (cells + mc) (slots + ms) Q (F0 m pc ls rest) q9)
    (kk : ∀ (u : S) (ra : Nat) (t : State) (H1 : Heap) (locs1 : List Loc), t.heap = H1 → s.vm.Alike t.vm → post u → B u ra t → H.size ≤ H1.size → (∀ q : Nat, q < H.size → ¬ A1 q → H1[q]? = H[q]?) → va_S A H0 H1 locs1 → W p l e R s m args below meth c H1 locs1 (cells + mc) (slots + ms) Q (F0 m (pc + 3) ls (.ref ra :: rest))) : W p l e R s m args below meth c H locs cells slots Q (F0 m pc ls st0) := by
  intro T hT X
  rcases hr T hT X with ⟨v, st₀, t, T', L, h0, X', hL, e1, e2, ⟨⟨u, ra, hv, hp, hb⟩, hF⟩, st⟩ | ⟨q, st₀, t, T', L, E, ce, h0, X', hL, e1, e2, ⟨u, hp, hb, hF⟩, hce, hcv, hcl, st⟩
  · cases hv
    obtain ⟨k1, k2, k3⟩ := vx_keep h0 e1 hS hA hf hL hF
    obtain ⟨t2, a1, b1⟩ := kk u ra t T'.heap (locs ++ L) e1.symm (by rw [← e2]; exact X'.warmed.alike) hp hb k1 k2 k3 T' rfl X'
    exact ⟨t2, st t2 a1, b1⟩
  · obtain ⟨k1, k2, k3⟩ := vx_keep h0 e1 hS hAX hf hL hF
    obtain ⟨t2, a1, b1⟩ := kx E ce q u t T'.heap (locs ++ L) e1.symm (by rw [← e2]; exact X'.warmed.alike) hp hb k1 k2 k3 (by rw [e1]; exact hce) hcv hcl T' rfl X'
    exact ⟨t2, st.trans a1, b1⟩
theorem my_xr {S : Type} {post : S → Prop} {w1 : S → va_W} {ra : Nat} {px gx : Int32 → Prop} (isC isR isP : List Nat)
    (hr : vx_Run p l e R s m args below meth c H locs cells slots mc ms (F0 m pc ls st0) rest (va_Qr post (mpsr D (va_A wc H.size) w1 ra) (va_A wc H.size) av) (vx_X px (mpsx D (va_A wc H.size) wc) (va_A wc H.size)) (va_A wc H.size))
    (hP : va_P D vwCl ws H) (hD : va_D A ws) (hS : va_S A s.heap H locs) (hA : ∀ q, s.heap.size ≤ q → A q) (hC : isC.map (fun i => ws[i]?) = wc.map some) (hR : isR.map (fun i => ws[i]?) = wr.map some) (hn : va_nd isR = true) (hdis : ∀ i ∈ isR, i ∉ isC)
    (hQ : Q = vx_MQ below Qc (vx_X gx (mpsx D A ws0) A) args s mcM msM A) (hg : ∀ u, px u → gx u) (hout : ∀ x ∈ c.exceptionTable.toList, False) (hlk : meth.locks = false) (hI : isP.map (fun i => (wr ++ wc)[i]?) = ws0.map some) (hnP : va_nd isP = true) (hcm : cells + mc ≤ mcM) (hsm : slots + ms ≤ msM)
    (kk : ∀ (u : S) (H1 : Heap) (locs1 : List Loc), post u → va_P D vwCl (wr ++ w1 u) H1 → va_D A (wr ++ w1 u) → va_S A s.heap H1 locs1 → W p l e R s m args below meth c H1 locs1 (cells + mc) (slots + ms) Q (F0 m (pc + 3) ls (.ref ra :: rest))) :
    W p l e R s m args below meth c H locs cells slots Q (F0 m pc ls st0) := by
  subst hQ
  have hF := va_free hD hS hA isC hC
  refine vr_callr hr hS (fun q _ h => hF q h) hF (fun q _ h => hF q h) (fun E ce q9 u t H1 locs1 ht hvm hw hB hz hk hS1 hce hcv hcl => ?_) (fun u a t H1 locs1 ht hvm hw hB hz hk hS1 => ?_)
  · obtain ⟨hE, hP1, hD1⟩ := hB
    rw [ht] at hP1
    obtain ⟨hP2, hD2⟩ := va_join hP hD isC isR hC hR hn hdis hk hF hP1 hD1
    exact vx_out (fun x hx => (hout x hx).elim) hlk hce hcv hcl (fun t2 ht2 _ => ⟨u, hg u hw, ⟨hE, by rw [ht2]; exact hP2.sub isP (fm_of hI), hD2.sub isP hnP hI⟩, hS1.F ht2⟩) hS1.2.2 hcm hsm
  · obtain ⟨ha, hP1, hD1⟩ := hB
    subst ha
    rw [ht] at hP1
    obtain ⟨hP2, hD2⟩ := va_join hP hD isC isR hC hR hn hdis hk hF hP1 hD1
    exact kk u H1 locs1 hw hP2 hD2 hS1
variable {cc : ByteArray}
/-- the ends -/
theorem rt_i {S : Type} {post : Int32 → S → Prop} {w1 : S → va_W} {v : Int32} (hQ : Q = MQ below (va_Qi post (mpst D A w1) A) args s mcM msM A) (hx : p.tables.exec = Jvm.exec) (hb : c.code = cc) (hr : meth.sig.returnType = some .int) (u : S) (hp : post v u)
    (hP : va_P D vwCl (w1 u) H) (hD : va_D A (w1 u)) (hS : va_S A s.heap H locs) (hc : cells ≤ mcM) (hs : slots ≤ msM) (hdg : decode cc pc = .ok (.ireturn, 1)) (hlk : meth.locks = false) : W p l e R s m args below meth c H locs cells slots Q (F0 m pc ls [.int v]) := by
  subst hQ
  exact W.widen hc hs (W.iret hx hb hr (fun t ht hW => ⟨⟨v, u, rfl, hp, by rw [ht]; exact hP, hD⟩, hS.F ht⟩) hS.2.2 hdg hlk)
theorem rt_z {S : Type} {post : Int32 → S → Prop} {w1 : S → va_W} {v : Int32} (hQ : Q = MQ below (va_Qi post (mpst D A w1) A) args s mcM msM A) (hx : p.tables.exec = Jvm.exec) (hb : c.code = cc) (hr : meth.sig.returnType = some .boolean) (hn : narrow .boolean (.int v) = .int v) (u : S) (hp : post v u)
    (hP : va_P D vwCl (w1 u) H) (hD : va_D A (w1 u)) (hS : va_S A s.heap H locs) (hc : cells ≤ mcM) (hs : slots ≤ msM) (hdg : decode cc pc = .ok (.ireturn, 1)) (hlk : meth.locks = false) : W p l e R s m args below meth c H locs cells slots Q (F0 m pc ls [.int v]) := by
  subst hQ
  exact W.widen hc hs (W.zret hx hb hr hn (fun t ht hW => ⟨⟨v, u, rfl, hp, by rw [ht]; exact hP, hD⟩, hS.F ht⟩) hS.2.2 hdg hlk)
theorem rt_v {S : Type} {post : S → Prop} {w1 : S → va_W} (hQ : Q = MQ below (va_Qv post (mpst D A w1) A) args s mcM msM A) (hx : p.tables.exec = Jvm.exec) (hb : c.code = cc) (hr : meth.sig.returnType = none) (u : S) (hp : post u)
    (hP : va_P D vwCl (w1 u) H) (hD : va_D A (w1 u)) (hS : va_S A s.heap H locs) (hc : cells ≤ mcM) (hs : slots ≤ msM) (hdg : decode cc pc = .ok (.return_, 1)) (hlk : meth.locks = false) : W p l e R s m args below meth c H locs cells slots Q (F0 m pc ls []) := by
  subst hQ
  exact W.widen hc hs (W.vret hx hb hr (fun t ht hW => ⟨⟨u, rfl, hp, by rw [ht]; exact hP, hD⟩, hS.F ht⟩) hS.2.2 hdg hlk)
variable {XC : String → State → State → Prop}
theorem rtx_i {S : Type} {post : Int32 → S → Prop} {w1 : S → va_W} {v : Int32} (hQ : Q = vx_MQ below (va_Qi post (mpst D A w1) A) XC args s mcM msM A) (hx : p.tables.exec = Jvm.exec) (hb : c.code = cc) (hr : meth.sig.returnType = some .int) (u : S) (hp : post v u)
    (hP : va_P D vwCl (w1 u) H) (hD : va_D A (w1 u)) (hS : va_S A s.heap H locs) (hc : cells ≤ mcM) (hs : slots ≤ msM) (hdg : decode cc pc = .ok (.ireturn, 1)) (hlk : meth.locks = false) : W p l e R s m args below meth c H locs cells slots Q (F0 m pc ls [.int v]) := by
  subst hQ
  exact vx_ret (rt_i rfl hx hb hr u hp hP hD hS hc hs hdg hlk)
theorem rtx_z {S : Type} {post : Int32 → S → Prop} {w1 : S → va_W} {v : Int32} (hQ : Q = vx_MQ below (va_Qi post (mpst D A w1) A) XC args s mcM msM A) (hx : p.tables.exec = Jvm.exec) (hb : c.code = cc) (hr : meth.sig.returnType = some .boolean) (hn : narrow .boolean (.int v) = .int v) (u : S) (hp : post v u)
    (hP : va_P D vwCl (w1 u) H) (hD : va_D A (w1 u)) (hS : va_S A s.heap H locs) (hc : cells ≤ mcM) (hs : slots ≤ msM) (hdg : decode cc pc = .ok (.ireturn, 1)) (hlk : meth.locks = false) : W p l e R s m args below meth c H locs cells slots Q (F0 m pc ls [.int v]) := by
  subst hQ
  exact vx_ret (rt_z rfl hx hb hr hn u hp hP hD hS hc hs hdg hlk)
theorem rtx_v {S : Type} {post : S → Prop} {w1 : S → va_W} (hQ : Q = vx_MQ below (va_Qv post (mpst D A w1) A) XC args s mcM msM A) (hx : p.tables.exec = Jvm.exec) (hb : c.code = cc) (hr : meth.sig.returnType = none) (u : S) (hp : post u)
    (hP : va_P D vwCl (w1 u) H) (hD : va_D A (w1 u)) (hS : va_S A s.heap H locs) (hc : cells ≤ mcM) (hs : slots ≤ msM) (hdg : decode cc pc = .ok (.return_, 1)) (hlk : meth.locks = false) : W p l e R s m args below meth c H locs cells slots Q (F0 m pc ls []) := by
  subst hQ
  exact vx_ret (rt_v rfl hx hb hr u hp hP hD hS hc hs hdg hlk)
theorem rtx_r {S : Type} {post : S → Prop} {w1 : S → va_W} {ra : Nat} {n : String} (hQ : Q = vx_MQ below (va_Qr post (mpsr D A w1 ra) A) XC args s mcM msM A) (hx : p.tables.exec = Jvm.exec) (hb : c.code = cc) (hr : meth.sig.returnType = some (.object n)) (u : S) (hp : post u)
    (hP : va_P D vwCl (w1 u) H) (hD : va_D A (w1 u)) (hS : va_S A s.heap H locs) (hc : cells ≤ mcM) (hs : slots ≤ msM) (hdg : decode cc pc = .ok (.areturn, 1)) (hlk : meth.locks = false) : W p l e R s m args below meth c H locs cells slots Q (F0 m pc ls [.ref ra]) := by
  subst hQ
  exact vx_ret (W.widen hc hs (W.aret hx hb hr (Or.inl ⟨n, rfl⟩) (Or.inr ⟨ra, rfl⟩) (fun t ht hW => ⟨⟨u, ra, rfl, hp, rfl, by rw [ht]; exact hP, hD⟩, hS.F ht⟩) hS.2.2 hdg hlk))
/-- a new array of ints -/
theorem my_newi {aI : ClassId} {tl : List (ClassId × FieldType)} (hx : p.tables.exec = Jvm.exec) (hb : c.code = cc) (harr : (Cond.arrayClass .int).before args s = true) (hK : va_K D vwCl ((aI, .int) :: tl) s) (hP : va_P D vwCl ws H) (hD : va_D A ws) (hS : va_S A s.heap H locs) (hA : ∀ q, s.heap.size ≤ q → A q)
    {n : Int32} {N M : Nat} (hn : ¬ n < 0) (hN : n.toNatClampNeg = N) (hM : N ≤ M) (hM2 : M ≤ 1000000) (hcells : cells + 1 ≤ R.cells) (hslots : slots + M ≤ R.slots) (hdg : decode cc pc = .ok (.newarray .int, 2))
    (kk : ∀ (q : Nat) (H1 : Heap), va_P D vwCl (ws ++ [(q, .inl (aI, N, .inl (fun _ => 0)))]) H1 → va_D A (ws ++ [(q, .inl (aI, N, .inl (fun _ => 0)))]) → va_S A s.heap H1 locs →
      W p l e R s m args below meth c H1 locs (cells + 1) (slots + M) Q (F0 m (pc + 2) ls (.ref q :: rest))) : W p l e R s m args below meth c H locs cells slots Q (F0 m pc ls (.int n :: rest)) := by
  refine va_newa (atype := .int) (ty := .int) (a0 := (N, .inl (fun _ => 0))) hx hb harr rfl hK hP hD hS hA (fun cA => rfl) hn hN (by show N * 4 ≤ _; omega) hcells (by omega) hdg (fun q cA H1 hK1 hP1 hD1 hS1 => ?_)
  have h1 := (hK1.2 0 (aI, .int) rfl).2
  have h2 := (hK1.2 (((aI, FieldType.int) :: tl).length) (cA, .int) (by simp)).2
  have h3 : s.vm.findClass ("[" ++ FieldType.int.toString) = some aI := h1
  have h4 : s.vm.findClass ("[" ++ FieldType.int.toString) = some cA := h2
  cases Option.some.inj (h3.symm.trans h4)
  exact W.widen (Nat.le_refl _) (by omega) (kk q H1 hP1 hD1 hS1)
end TA
section TB
variable {l : Launch} {y : MethodName} {ws ws' : List Cond} {rm : Room} {mc ms : Nat} {cc : ByteArray} {maxL : Nat} {ret : Option FieldType} {D : va_G} {tys : List (ClassId × FieldType)} {W0 : va_W} {sz : Nat} {av : List Value}
theorem en {Qc : (Nat → Prop) → Array Value → State → Outcome → State → Prop} (hy : plainName y.cls = true) (hw : ws = Cond.code y cc maxL ret :: ws') (hlen : (lg_sl av).length ≤ maxL)
    (body : ∀ (p : Program) (e : Env) (s : State) (m : MethodId) (args : Array Value) (below : List Frame) (meth : Method) (c : Code) (A : Nat → Prop) (ls : Array Slot) (Q : State → Prop), Q = MQ below (Qc A) args s mc ms A →
      p.tables.exec = Jvm.exec → c.code = cc → meth.sig.returnType = ret → (∀ w ∈ ws, w.before args s = true) → s.vm.findClass y.cls = some m.cls → meth.locks = false → meth.name = y.name → c.maxLocals = maxL → (∀ q, s.heap.size ≤ q → A q) →
      va_S A s.heap s.heap [] → va_P D vwCl W0 s.heap → va_K D vwCl tys s → va_D A W0 → ev A s s.heap → lv_has ls maxL (lv_args 0 av) → W p l e rm s m args below meth c s.heap [] 0 0 Q (F0 m 0 ls [])) :
    Met l y ws rm (va_Pc av (mpre D tys W0 sz)) (Qc (va_A W0 sz)) mc ms (va_A W0 sz) := by
  refine Met.ofW (cc := cc) (maxL := maxL) (ret := ret) hy hw ?_
  intro p e s m args below meth c s₁ B hml hv
  obtain ⟨rfl, hsz, hP, hK, hD0, hE⟩ := hv
  subst hsz
  have hl := lv_entry av (n := maxL) hlen
  rw [lg_entry_eq]
  exact body p e s m av.toArray below meth c _ _ _ rfl B.exec B.bytes B.returns (atoms_spec (ws := ws) B.pre) (findClass_of_methodNamed B.named) B.notSynchronized (name_of_methodNamed B.named B.method).1 hml (fun q h => Or.inr h) va_S.rf hP hK hD0.self hE hl
theorem enx {Qc : (Nat → Prop) → Array Value → State → Outcome → State → Prop} {XC : (Nat → Prop) → String → State → State → Prop} (hy : plainName y.cls = true) (hw : ws = Cond.code y cc maxL ret :: ws') (hlen : (lg_sl av).length ≤ maxL)
    (body : ∀ (p : Program) (e : Env) (s : State) (m : MethodId) (args : Array Value) (below : List Frame) (meth : Method) (c : Code) (A : Nat → Prop) (ls : Array Slot) (Q : State → Prop), Q = vx_MQ below (Qc A) (XC A) args s mc ms A →
      p.tables.exec = Jvm.exec → c.code = cc → meth.sig.returnType = ret → (∀ w ∈ ws, w.before args s = true) → s.vm.findClass y.cls = some m.cls → meth.locks = false → meth.name = y.name → c.maxLocals = maxL → (∀ x ∈ c.exceptionTable.toList, False) → (∀ q, s.heap.size ≤ q → A q) →
      va_S A s.heap s.heap [] → va_P D vwCl W0 s.heap → va_K D vwCl tys s → va_D A W0 → ev A s s.heap → lv_has ls maxL (lv_args 0 av) → W p l e rm s m args below meth c s.heap [] 0 0 Q (F0 m 0 ls [])) :
    vx_Met l y ws rm (va_Pc av (mpre D tys W0 sz)) (Qc (va_A W0 sz)) (XC (va_A W0 sz)) mc ms (va_A W0 sz) := by
  refine vx_ofW (cc := cc) (maxL := maxL) (ret := ret) hy hw ?_
  intro p e s m args below meth c s₁ B hml hout hv
  obtain ⟨rfl, hsz, hP, hK, hD0, hE⟩ := hv
  subst hsz
  have hl := lv_entry av (n := maxL) hlen
  rw [lg_entry_eq]
  exact body p e s m av.toArray below meth c _ _ _ rfl B.exec B.bytes B.returns (atoms_spec (ws := ws) B.pre) (findClass_of_methodNamed B.named) B.notSynchronized (name_of_methodNamed B.named B.method).1 hml hout (fun q h => Or.inr h) va_S.rf hP hK hD0.self hE hl
end TB
/-! a throw -/
def evB : List Cond := evD.map Cond.declares ++ evC.map (fun q => Cond.castable q.1 q.2)
theorem ev_B {A : Nat → Prop} {U : State} {H : Heap} {args : Array Value} (h : ev A U H) : ∀ w ∈ evB, w.before args U = true := by
  intro w hw
  rcases List.mem_append.mp hw with q | q
  · obtain ⟨y, hy, rfl⟩ := List.mem_map.mp q
    exact va_Nw.use rfl (h.2.2.2.1 y hy)
  · obtain ⟨y, hy, rfl⟩ := List.mem_map.mp q
    exact va_Nw.use rfl (h.2.2.2.2.1 y hy)
def exNs : List String := ["java/lang/RuntimeException", "java/lang/Exception"]
theorem my_throw {p : Program} {l : Launch} {e : Env} {R : Room} {s : State} {m : MethodId} {args : Array Value} {below : List Frame} {meth : Method} {c : Code} {H : Heap} {locs : List Loc} {cells slots : Nat} {Q : State → Prop}
    {D : va_G} {ws ws0 : va_W} {A : Nat → Prop} {pc : Nat} {ls : Array Slot} {rest : List Value} {Qc : Array Value → State → Outcome → State → Prop} {mcM msM : Nat} {cc : ByteArray} {Ts : List Cond}
    {own cls text : String} {ik is ic : Nat} {gx : Int32 → Prop} (u : Int32) (isP : List Nat) (hx : p.tables.exec = Jvm.exec) (hb : c.code = cc) (hl9 : l.stackTraces = false) (hown : s.vm.findClass own = some m.cls) (hf : Bundle.fit cls = true)
    (hk : (Cond.classLink own ik cls).before args s = true) (hini : (Cond.initialized cls).before args s = true) (k : Nat) (hstr : evS[k]? = some (own, is, text)) (h1 : ∀ w ∈ (vx_atS own ic cls exNs).filter goodWord, w ∈ Ts) (hts : ∀ w ∈ Ts, w.before args s = true)
    (h2 : ∀ w ∈ (vx_atS own ic cls exNs).filter (fun w => !goodWord w), w ∈ evB) (hgood : ∀ w ∈ Cond.classLink own ik cls :: Cond.initialized cls :: vx_atS own ic cls exNs, vx_ot w = true) (hE : ev A s s.heap) (hS : va_S A s.heap H locs) (hls : ls.size = c.maxLocals)
    (d0 : decode cc pc = .ok (.new ik, 3)) (d3 : decode cc (pc + 3) = .ok (.dup, 1)) (d4 : decode cc (pc + 4) = .ok (.ldc is, 2)) (d6 : decode cc (pc + 6) = .ok (.invokespecial ic, 3)) (d9 : decode cc (pc + 9) = .ok (.athrow, 1))
    (hout : ∀ x ∈ c.exceptionTable.toList, False) (hRf : 5 < R.frames) (hRl : (rest.map fun v => v.category).sum + 82 ≤ R.locals) (hRc : cells + 1 ≤ R.cells) (hRs : slots + 6 ≤ R.slots) (hlk : meth.locks = false)
    (hQ : Q = vx_MQ below Qc (vx_X gx (mpsx D A ws0) A) args s mcM msM A) (hcls : cls = xN u) (hg : gx u) (hP : va_P D vwCl ws H) (hD : va_D A ws) (hI : isP.map (fun i => ws[i]?) = ws0.map some) (hnP : va_nd isP = true) (hc : cells + 1 ≤ mcM) (hs : slots + 6 ≤ msM) :
    W p l e R s m args below meth c H locs cells slots Q (F0 m pc ls rest) := by
  subst hQ
  obtain ⟨sa, hsa⟩ := hE.2.2.2.2.2.1 _ (List.mem_of_getElem? hstr)
  refine vx_throwS (cls := cls) (names := exNs) (A := A) hx hb hl9 hown hf (by decide) hk hini hsa (vx_hat (fun w hw => hts w (h1 w hw)) h2 (ev_B hE)) hgood hE.1.1 hE.1.2 hS hls d0 d3 d4 d6 d9 (fun x hx => (hout x hx).elim) hRf hRl hRc hRs hlk (fun t hal hsz hk9 => ?_) hS.2.2 hc hs
  refine ⟨u, hg, ⟨hcls, ?_, hD.sub isP hnP hI⟩, Nat.le_trans hS.1 hsz, fun q h9 h8 => (hk9 q (Nat.lt_of_lt_of_le h9 hS.1)).trans (hS.2.1 q h9 h8)⟩
  exact (hP.kept (fun k q hq => hk9 q.1 ((hP k q hq).lt))).sub isP (fm_of hI)
theorem ix_m1 {j n : Nat} (h1 : 1 ≤ j) (hj : j ≤ n) (hn : n < 2 ^ 31) : vp_in (nI j - 1) n := by
  obtain ⟨i, rfl⟩ : ∃ i, j = i + 1 := ⟨j - 1, by omega⟩
  rw [nI_pred]
  exact vp_in_nI (by omega) hn
theorem lit_1 : (1 : Int32) = nI 1 := rfl
theorem lit_2 : (2 : Int32) = nI 2 := rfl
/-! indices -/
theorem ix_lt {j n : Nat} (hn : n < 2 ^ 31) (hj : j ≤ n) (h : ¬ nI n ≤ nI j) : j + 1 ≤ n := by
  rcases Nat.lt_or_ge j n with q | q
  · exact q
  · exact absurd (nI_le q (by omega)) h
theorem ix_in {j n : Nat} (hn : n < 2 ^ 31) (hj : j ≤ n) (h : ¬ nI n ≤ nI j) : vp_in (nI j) n := vp_in_nI (ix_lt hn hj h) hn
theorem ix_lt1 {j n : Nat} (hn : n < 2 ^ 31) (hj : j ≤ n ∨ j = 1) (h : ¬ nI n ≤ nI j) : j + 1 ≤ n := by
  rcases Nat.lt_or_ge j n with q | q
  · exact q
  · exact absurd (nI_le q (by omega)) h
theorem ix_in1 {j n : Nat} (hn : n < 2 ^ 31) (hj : j ≤ n ∨ j = 1) (h : ¬ nI n ≤ nI j) : vp_in (nI j) n := vp_in_nI (ix_lt1 hn hj h) hn
theorem len_ne {y : Int32} (h : ¬ y < 1) : ¬ y = 0 := by
  intro e; subst e; exact h (by decide)
theorem cnt_in {x : Int32} (h0 : ¬ x < 0) (h : ¬ nI 8 ≤ x) : vp_in x 8 := by
  obtain ⟨j, hj, rfl⟩ := nI_of h0
  exact vp_in_nI (Nat.not_le.mp fun q => h (nI_le q hj)) (by decide)
/-! arrays told by their elements -/
def arL (l : List Int32) : Nat → Int32 := fun j => l.getD j 0
theorem upd_arL {l : List Int32} {k : Nat} {x : Int32} (h : k < l.length) : upd (arL l) k x = arL (l.set k x) := by
  funext j
  unfold arL upd
  by_cases e : j = k
  · subst e; simp [h]
  · simp [e, List.getElem?_set, Ne.symm e]
section TE
variable {p : Program} {l : Launch} {e : Env} {R : Room} {s : State} {m : MethodId} {args : Array Value} {below : List Frame} {meth : Method} {c : Code} {H : Heap} {locs : List Loc} {cells slots : Nat} {Q : State → Prop}
variable {cc : ByteArray} {pc : Nat} {ls : Array Slot} {rest : List Value} {D : va_G} {cl : List vw_C} {A : Nat → Prop} {a : Nat} {tys : List (ClassId × FieldType)} {ws : va_W} {H0 : Heap} {cA : ClassId} {n : Nat} {L : List Int32}
theorem cl_in {i : Int32} {k : Nat} (hi : 0 ≤ i ∧ i.toNatClampNeg = k) (hk : k < n) : vp_in i n := by
  intro q
  rcases q with q | q
  · exact absurd hi.1 (Int32.not_le.mpr q)
  · omega
theorem my_iald {k : Nat} {v i : Int32} (hx : p.tables.exec = Jvm.exec) (hb : c.code = cc) (hK : va_K D cl tys s) (hP : va_P D cl ws H) (q0 t0 : Nat) (ha : ws[q0]? = some (a, .inl (cA, n, .inl (arL L)))) (ht : tys[t0]? = some (cA, .int)) (hi : 0 ≤ i ∧ i.toNatClampNeg = k) (hk : k < n) (hv : L.getD k 0 = v) (hdg : decode cc pc = .ok (.iaload, 1))
    (kk : W p l e R s m args below meth c H locs cells slots Q (F0 m (pc + 1) ls (.int v :: rest))) : W p l e R s m args below meth c H locs cells slots Q (F0 m pc ls (.int i :: .ref a :: rest)) := by
  refine va_iald hx hb hK hP q0 t0 ha ht (cl_in hi hk) hdg ?_
  rw [hi.2]
  show W p l e R s m args below meth c H locs cells slots Q (F0 m (pc + 1) ls (.int (L.getD k 0) :: rest))
  rw [hv]
  exact kk
theorem my_zald {k : Nat} {v i : Int32} (hx : p.tables.exec = Jvm.exec) (hb : c.code = cc) (hK : va_K D cl tys s) (hP : va_P D cl ws H) (q0 t0 : Nat) (ha : ws[q0]? = some (a, .inl (cA, n, .inl (arL L)))) (ht : tys[t0]? = some (cA, .boolean)) (hi : 0 ≤ i ∧ i.toNatClampNeg = k) (hk : k < n) (hv : L.getD k 0 = v) (hdg : decode cc pc = .ok (.baload, 1))
    (kk : W p l e R s m args below meth c H locs cells slots Q (F0 m (pc + 1) ls (.int v :: rest))) : W p l e R s m args below meth c H locs cells slots Q (F0 m pc ls (.int i :: .ref a :: rest)) := by
  refine va_zald hx hb hK hP q0 t0 ha ht (cl_in hi hk) hdg ?_
  rw [hi.2]
  show W p l e R s m args below meth c H locs cells slots Q (F0 m (pc + 1) ls (.int (L.getD k 0) :: rest))
  rw [hv]
  exact kk
theorem my_iast {k : Nat} {x i : Int32} (hx : p.tables.exec = Jvm.exec) (hb : c.code = cc) (hK : va_K D cl tys s) (hP : va_P D cl ws H) (hD : va_D A ws) (hS : va_S A H0 H locs) (q0 t0 : Nat) (ha : ws[q0]? = some (a, .inl (cA, n, .inl (arL L)))) (ht : tys[t0]? = some (cA, .int)) (hi : (0 ≤ i ∧ i.toNatClampNeg = k) ∧ k < n) (hk : k < L.length) (hdg : decode cc pc = .ok (.iastore, 1))
    (kk : ∀ (H1 : Heap) (locs1 : List Loc), va_P D cl (ws.set q0 (a, .inl (cA, n, .inl (arL (L.set k x))))) H1 → va_D A (ws.set q0 (a, .inl (cA, n, .inl (arL (L.set k x))))) → va_S A H0 H1 locs1 → W p l e R s m args below meth c H1 locs1 cells slots Q (F0 m (pc + 1) ls rest)) : W p l e R s m args below meth c H locs cells slots Q (F0 m pc ls (.int x :: .int i :: .ref a :: rest)) := by
  refine va_iast hx hb hK hP hD hS q0 t0 ha ht (cl_in hi.1 hi.2) hdg (fun H1 locs1 h1 h2 h3 => ?_)
  rw [hi.1.2, upd_arL hk] at h1 h2
  exact kk H1 locs1 h1 h2 h3
theorem my_zast {k : Nat} {x i : Int32} (hx : p.tables.exec = Jvm.exec) (hb : c.code = cc) (hK : va_K D cl tys s) (hP : va_P D cl ws H) (hD : va_D A ws) (hS : va_S A H0 H locs) (q0 t0 : Nat) (ha : ws[q0]? = some (a, .inl (cA, n, .inl (arL L)))) (ht : tys[t0]? = some (cA, .boolean)) (hi : (0 ≤ i ∧ i.toNatClampNeg = k) ∧ k < n) (hk : k < L.length) (hnb : nb x) (hdg : decode cc pc = .ok (.bastore, 1))
    (kk : ∀ (H1 : Heap) (locs1 : List Loc), va_P D cl (ws.set q0 (a, .inl (cA, n, .inl (arL (L.set k x))))) H1 → va_D A (ws.set q0 (a, .inl (cA, n, .inl (arL (L.set k x))))) → va_S A H0 H1 locs1 → W p l e R s m args below meth c H1 locs1 cells slots Q (F0 m (pc + 1) ls rest)) : W p l e R s m args below meth c H locs cells slots Q (F0 m pc ls (.int x :: .int i :: .ref a :: rest)) := by
  refine va_zast hx hb hK hP hD hS q0 t0 ha ht (cl_in hi.1 hi.2) hdg (fun H1 locs1 h1 h2 h3 => ?_)
  have hx9 : vp_nar .boolean x = x := by rcases hnb with rfl | rfl <;> rfl
  rw [hi.1.2, hx9, upd_arL hk] at h1 h2
  exact kk H1 locs1 h1 h2 h3
end TE
/-! The law's helpers: a call in a try, caught by one or two rows. -/
def ch {α β : Type} (x : Int32 ⊕ α) (a b : β) (k : α → β) : β := match x with
  | .inl e => if e = 1 then a else b
  | .inr z => k z
theorem ch_1 {α β : Type} {x : Int32 ⊕ α} {a b : β} {k : α → β} (h : x = .inl 1) : ch x a b k = a := by rw [h]; rfl
theorem ch_2 {α β : Type} {x : Int32 ⊕ α} {a b : β} {k : α → β} (h : x = .inl 2) : ch x a b k = b := by rw [h]; rfl
theorem ch_r {α β : Type} {x : Int32 ⊕ α} {a b : β} {k : α → β} {z : α} (h : x = .inr z) : ch x a b k = k z := by rw [h]; rfl
theorem xN_1 : xN 1 = "java/lang/IllegalArgumentException" := by decide
theorem xN_2 : xN 2 = "java/lang/IllegalStateException" := by decide
section TC
variable {l : Launch} {y : MethodName} {ws ws' : List Cond} {rm : Room} {mc ms : Nat} {cc : ByteArray} {maxL : Nat} {ret : Option FieldType} {D : va_G} {tys : List (ClassId × FieldType)} {W0 : va_W} {sz : Nat} {av : List Value} {hh : List (Nat × Nat × Nat × Nat)}
theorem enh {Qc : (Nat → Prop) → Array Value → State → Outcome → State → Prop} (hy : plainName y.cls = true) (hw : ws = Cond.codeWith y cc maxL ret hh :: ws') (hlen : (lg_sl av).length ≤ maxL)
    (body : ∀ (p : Program) (e : Env) (s : State) (m : MethodId) (args : Array Value) (below : List Frame) (meth : Method) (c : Code) (A : Nat → Prop) (ls : Array Slot) (Q : State → Prop), Q = MQ below (Qc A) args s mc ms A →
      p.tables.exec = Jvm.exec → c.code = cc → meth.sig.returnType = ret → (∀ w ∈ ws, w.before args s = true) → s.vm.findClass y.cls = some m.cls → meth.locks = false → meth.name = y.name → c.maxLocals = maxL → c.exceptionTable.toList = tableOf hh → (∀ q, s.heap.size ≤ q → A q) →
      va_S A s.heap s.heap [] → va_P D vwCl W0 s.heap → va_K D vwCl tys s → va_D A W0 → ev A s s.heap → lv_has ls maxL (lv_args 0 av) → W p l e rm s m args below meth c s.heap [] 0 0 Q (F0 m 0 ls [])) :
    Met l y ws rm (va_Pc av (mpre D tys W0 sz)) (Qc (va_A W0 sz)) mc ms (va_A W0 sz) := by
  refine va_MetW (cc := cc) (maxL := maxL) (ret := ret) (hh := hh) hy hw ?_
  intro p e s m args below meth c s₁ B hml hv
  obtain ⟨rfl, hsz, hP, hK, hD0, hE⟩ := hv
  subst hsz
  have hl := lv_entry av (n := maxL) hlen
  rw [lg_entry_eq]
  have hts := atoms_spec (ws := ws) B.pre
  exact body p e s m av.toArray below meth c _ _ _ rfl B.exec B.bytes B.returns hts (findClass_of_methodNamed B.named) B.notSynchronized (name_of_methodNamed B.named B.method).1 hml (vx_table (x := y) B (hts _ (by rw [hw]; exact List.mem_cons_self))) (fun q h => Or.inr h) va_S.rf hP hK hD0.self hE hl
end TC
section TD
variable {p : Program} {l : Launch} {e : Env} {R : Room} {s : State} {m : MethodId} {args : Array Value} {below : List Frame} {meth : Method} {c : Code} {H : Heap} {locs : List Loc} {cells slots : Nat} {Q : State → Prop}
variable {D : va_G} {tys : List (ClassId × FieldType)} {ws wc wr : va_W} {A : Nat → Prop} {pc : Nat} {ls : Array Slot} {st0 rest : List Value} {mc ms : Nat} {av : Array Value} {own : String} {a0 b0 k1 k2 t1 t2 : Nat}
theorem my_h1 {E : String} {ce : Cell} {q9 : Addr} {u : Int32} {H1 : Heap} {locs1 : List Loc} {C S : Nat} {suf : List ExceptionTableEntry} (hown : s.vm.findClass own = some m.cls) (htab : c.exceptionTable.toList = ⟨a0, b0, k1, t1⟩ :: suf) (hv1 : covers ⟨a0, b0, k1, t1⟩ pc = true) (ht1 : t1 ≠ 0)
    (hl1 : (Cond.classLink own t1 "java/lang/IllegalArgumentException").before args s = true) (hE : ev A s s.heap) (hEx : E = xN 1) (hce : H1[q9]? = some ce) (hcv : ce.vm = .none) (hcl : s.vm.findClass E = some ce.cls)
    (kx : W p l e R s m args below meth c H1 locs1 C S Q (F0 m k1 ls [.ref q9])) : vx_W p l e R s m args below meth c H1 locs1 C S Q (F0 m pc ls rest) q9 := by
  rw [xN_1] at hEx
  subst hEx
  exact vx_catch hown [] ⟨a0, b0, k1, t1⟩ suf htab (fun z h => nomatch h) hv1 ht1 hl1 (nwC hE 0 rfl) hce hcv hcl kx
theorem my_h2 {E : String} {ce : Cell} {q9 : Addr} {u : Int32} {H1 : Heap} {locs1 : List Loc} {C S : Nat} (hown : s.vm.findClass own = some m.cls) (htab : c.exceptionTable.toList = [⟨a0, b0, k1, t1⟩, ⟨a0, b0, k2, t2⟩]) (hv2 : covers ⟨a0, b0, k2, t2⟩ pc = true) (ht1 : t1 ≠ 0) (ht2 : t2 ≠ 0)
    (hl1 : (Cond.classLink own t1 "java/lang/IllegalArgumentException").before args s = true) (hl2 : (Cond.classLink own t2 "java/lang/IllegalStateException").before args s = true) (hE : ev A s s.heap) (hEx : E = xN 2) (hce : H1[q9]? = some ce) (hcv : ce.vm = .none) (hcl : s.vm.findClass E = some ce.cls)
    (kx : W p l e R s m args below meth c H1 locs1 C S Q (F0 m k2 ls [.ref q9])) : vx_W p l e R s m args below meth c H1 locs1 C S Q (F0 m pc ls rest) q9 := by
  rw [xN_2] at hEx
  subst hEx
  refine vx_catch hown [⟨a0, b0, k1, t1⟩] ⟨a0, b0, k2, t2⟩ [] htab (fun z h => Or.inr ?_) hv2 ht2 hl2 (nwC hE 1 rfl) hce hcv hcl kx
  cases List.mem_singleton.mp h
  exact ⟨ht1, _, hl1, hE.2.2.2.2.2.2 _ (List.mem_of_getElem? (i := 0) rfl)⟩
theorem my_ci {S : Type} {post : Int32 → S → Prop} {w1 : S → va_W} {px : Int32 → Prop} (isC isR : List Nat)
    (hr : vx_Run p l e R s m args below meth c H locs cells slots mc ms (F0 m pc ls st0) rest (va_Qi post (mpst D (va_A wc H.size) w1) (va_A wc H.size) av) (vx_X px (mpsx D (va_A wc H.size) wc) (va_A wc H.size)) (va_A wc H.size))
    (hP : va_P D vwCl ws H) (hD : va_D A ws) (hS : va_S A s.heap H locs) (hA : ∀ q, s.heap.size ≤ q → A q) (hC : isC.map (fun i => ws[i]?) = wc.map some) (hR : isR.map (fun i => ws[i]?) = wr.map some) (hn : va_nd isR = true) (hdis : ∀ i ∈ isR, i ∉ isC)
    (kx : ∀ (E : String) (ce : Cell) (q9 : Addr) (u : Int32) (H1 : Heap) (locs1 : List Loc), px u → E = xN u → va_P D vwCl (wr ++ wc) H1 → va_D A (wr ++ wc) → va_S A s.heap H1 locs1 → H1[q9]? = some ce → ce.vm = .none → s.vm.findClass E = some ce.cls → vx_W p l e R s m args below meth c H1 locs1 (cells + mc) (slots + ms) Q (F0 m pc ls rest) q9)
    (kk : ∀ (r : Int32) (u : S) (H1 : Heap) (locs1 : List Loc), post r u → va_P D vwCl (wr ++ w1 u) H1 → va_D A (wr ++ w1 u) → va_S A s.heap H1 locs1 → W p l e R s m args below meth c H1 locs1 (cells + mc) (slots + ms) Q (F0 m (pc + 3) ls (.int r :: rest))) :
    W p l e R s m args below meth c H locs cells slots Q (F0 m pc ls st0) := by
  have hF := va_free hD hS hA isC hC
  refine vx_calli hr hS (fun q _ h => hF q h) hF (fun q _ h => hF q h) (fun E ce q9 u t H1 locs1 ht hvm hw hB hz hk hS1 hce hcv hcl => ?_) (fun r u t H1 locs1 ht hvm hw hB hz hk hS1 => ?_)
  · obtain ⟨hE, hP1, hD1⟩ := hB
    rw [ht] at hP1
    obtain ⟨hP2, hD2⟩ := va_join hP hD isC isR hC hR hn hdis hk hF hP1 hD1
    exact kx E ce q9 u H1 locs1 hw hE hP2 hD2 hS1 hce hcv hcl
  · obtain ⟨hP1, hD1⟩ := hB
    rw [ht] at hP1
    obtain ⟨hP2, hD2⟩ := va_join hP hD isC isR hC hR hn hdis hk hF hP1 hD1
    exact kk r u H1 locs1 hw hP2 hD2 hS1
theorem my_cv {S : Type} {post : S → Prop} {w1 : S → va_W} {px : Int32 → Prop} (isC isR : List Nat)
    (hr : vx_Run p l e R s m args below meth c H locs cells slots mc ms (F0 m pc ls st0) rest (va_Qv post (mpst D (va_A wc H.size) w1) (va_A wc H.size) av) (vx_X px (mpsx D (va_A wc H.size) wc) (va_A wc H.size)) (va_A wc H.size))
    (hP : va_P D vwCl ws H) (hD : va_D A ws) (hS : va_S A s.heap H locs) (hA : ∀ q, s.heap.size ≤ q → A q) (hC : isC.map (fun i => ws[i]?) = wc.map some) (hR : isR.map (fun i => ws[i]?) = wr.map some) (hn : va_nd isR = true) (hdis : ∀ i ∈ isR, i ∉ isC)
    (kx : ∀ (E : String) (ce : Cell) (q9 : Addr) (u : Int32) (H1 : Heap) (locs1 : List Loc), px u → E = xN u → va_P D vwCl (wr ++ wc) H1 → va_D A (wr ++ wc) → va_S A s.heap H1 locs1 → H1[q9]? = some ce → ce.vm = .none → s.vm.findClass E = some ce.cls → vx_W p l e R s m args below meth c H1 locs1 (cells + mc) (slots + ms) Q (F0 m pc ls rest) q9)
    (kk : ∀ (u : S) (H1 : Heap) (locs1 : List Loc), post u → va_P D vwCl (wr ++ w1 u) H1 → va_D A (wr ++ w1 u) → va_S A s.heap H1 locs1 → W p l e R s m args below meth c H1 locs1 (cells + mc) (slots + ms) Q (F0 m (pc + 3) ls rest)) :
    W p l e R s m args below meth c H locs cells slots Q (F0 m pc ls st0) := by
  have hF := va_free hD hS hA isC hC
  refine vx_callv hr hS (fun q _ h => hF q h) hF (fun q _ h => hF q h) (fun E ce q9 u t H1 locs1 ht hvm hw hB hz hk hS1 hce hcv hcl => ?_) (fun u t H1 locs1 ht hvm hw hB hz hk hS1 => ?_)
  · obtain ⟨hE, hP1, hD1⟩ := hB
    rw [ht] at hP1
    obtain ⟨hP2, hD2⟩ := va_join hP hD isC isR hC hR hn hdis hk hF hP1 hD1
    exact kx E ce q9 u H1 locs1 hw hE hP2 hD2 hS1 hce hcv hcl
  · obtain ⟨hP1, hD1⟩ := hB
    rw [ht] at hP1
    obtain ⟨hP2, hD2⟩ := va_join hP hD isC isR hC hR hn hdis hk hF hP1 hD1
    exact kk u H1 locs1 hw hP2 hD2 hS1
end TD
theorem mt_92 {a : Cond} : ∀ w ∈ (vx_atS RX4 92 "java/lang/IllegalArgumentException" exNs).filter goodWord, w ∈ a :: Gw := fun w h => List.mem_cons_of_mem _ (List.mem_filter.mpr ⟨(by decide +kernel : ∀ w ∈ (vx_atS RX4 92 "java/lang/IllegalArgumentException" exNs).filter goodWord, w ∈ lw_tbl) w h, (List.mem_filter.mp h).2⟩)
theorem tb_X4_92 : ∀ w ∈ (vx_atS RX4 92 "java/lang/IllegalArgumentException" exNs).filter (fun w => !goodWord w), w ∈ evB := by decide +kernel
theorem tg_X4_92 : ∀ w ∈ Cond.classLink RX4 88 "java/lang/IllegalArgumentException" :: Cond.initialized "java/lang/IllegalArgumentException" :: vx_atS RX4 92 "java/lang/IllegalArgumentException" exNs, vx_ot w = true := by decide +kernel
theorem mt_51 {a : Cond} : ∀ w ∈ (vx_atS RX4 51 "java/lang/IllegalStateException" exNs).filter goodWord, w ∈ a :: Gw := fun w h => List.mem_cons_of_mem _ (List.mem_filter.mpr ⟨(by decide +kernel : ∀ w ∈ (vx_atS RX4 51 "java/lang/IllegalStateException" exNs).filter goodWord, w ∈ lw_tbl) w h, (List.mem_filter.mp h).2⟩)
theorem tb_X4_51 : ∀ w ∈ (vx_atS RX4 51 "java/lang/IllegalStateException" exNs).filter (fun w => !goodWord w), w ∈ evB := by decide +kernel
theorem tg_X4_51 : ∀ w ∈ Cond.classLink RX4 47 "java/lang/IllegalStateException" :: Cond.initialized "java/lang/IllegalStateException" :: vx_atS RX4 51 "java/lang/IllegalStateException" exNs, vx_ot w = true := by decide +kernel
