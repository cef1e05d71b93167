-- ===== PART A: goes FIRST, ahead of the names: the tables' words, and 'selects' of the private methods out of them =====
/-- a private method of a class that the tables say can be made, by its rows of tables_1 -/
def lw_okq (q : MethodName × Nat) : Prop := (q.1.cls ≠ "java/lang/invoke/MethodHandle" ∧ q.1.cls ≠ "java/lang/invoke/VarHandle") ∧ Cond.instantiable q.1.cls q.2 ∈ tables_1 ∧ Cond.privateMethod q.1 ∈ tables_1 ∧ Cond.instanceMethod q.1 ∈ tables_1
theorem lw_p0 : lw_okq (⟨"java/lang/Throwable", "fillInStackTrace", "(I)Ljava/lang/Throwable;"⟩, 6) := ⟨⟨by decide +kernel, by decide +kernel⟩, List.mem_of_getElem? (i := 122) (by decide +kernel), List.mem_of_getElem? (i := 120) (by decide +kernel), List.mem_of_getElem? (i := 121) (by decide +kernel)⟩
theorem lw_p1 : lw_okq (⟨"CarSteps", "refuseWithCars", "()V"⟩, 5) := ⟨⟨by decide +kernel, by decide +kernel⟩, List.mem_of_getElem? (i := 15) (by decide +kernel), List.mem_of_getElem? (i := 153) (by decide +kernel), List.mem_of_getElem? (i := 154) (by decide +kernel)⟩
theorem lw_p2 : lw_okq (⟨"CarSteps", "carOf", "(I)LCarSteps$Car;"⟩, 5) := ⟨⟨by decide +kernel, by decide +kernel⟩, List.mem_of_getElem? (i := 15) (by decide +kernel), List.mem_of_getElem? (i := 360) (by decide +kernel), List.mem_of_getElem? (i := 361) (by decide +kernel)⟩
theorem lw_p3 : lw_okq (⟨"CarSteps$Car", "wayTo", "(I)I"⟩, 19) := ⟨⟨by decide +kernel, by decide +kernel⟩, List.mem_of_getElem? (i := 205) (by decide +kernel), List.mem_of_getElem? (i := 495) (by decide +kernel), List.mem_of_getElem? (i := 496) (by decide +kernel)⟩
theorem lw_p4 : lw_okq (⟨"CarSteps$Car", "roomToOther", "(ILCarSteps$Car;I)I"⟩, 19) := ⟨⟨by decide +kernel, by decide +kernel⟩, List.mem_of_getElem? (i := 205) (by decide +kernel), List.mem_of_getElem? (i := 502) (by decide +kernel), List.mem_of_getElem? (i := 503) (by decide +kernel)⟩
theorem lw_p5 : lw_okq (⟨"CarSteps$Car", "nextSpeed", "(III)I"⟩, 19) := ⟨⟨by decide +kernel, by decide +kernel⟩, List.mem_of_getElem? (i := 205) (by decide +kernel), List.mem_of_getElem? (i := 508) (by decide +kernel), List.mem_of_getElem? (i := 509) (by decide +kernel)⟩
theorem lw_p6 : lw_okq (⟨"CarSteps$Car", "mayStart", "(I)Z"⟩, 19) := ⟨⟨by decide +kernel, by decide +kernel⟩, List.mem_of_getElem? (i := 205) (by decide +kernel), List.mem_of_getElem? (i := 512) (by decide +kernel), List.mem_of_getElem? (i := 513) (by decide +kernel)⟩
theorem lw_p7 : lw_okq (⟨"CarSteps$Car", "limitIn", "(I)I"⟩, 19) := ⟨⟨by decide +kernel, by decide +kernel⟩, List.mem_of_getElem? (i := 205) (by decide +kernel), List.mem_of_getElem? (i := 517) (by decide +kernel), List.mem_of_getElem? (i := 518) (by decide +kernel)⟩
theorem lw_p8 : lw_okq (⟨"CarSteps$Car", "speedWithin", "(I)I"⟩, 19) := ⟨⟨by decide +kernel, by decide +kernel⟩, List.mem_of_getElem? (i := 205) (by decide +kernel), List.mem_of_getElem? (i := 521) (by decide +kernel), List.mem_of_getElem? (i := 522) (by decide +kernel)⟩
theorem lw_p9 : lw_okq (⟨"CarSteps$Car", "greatestSpeed", "(III)I"⟩, 19) := ⟨⟨by decide +kernel, by decide +kernel⟩, List.mem_of_getElem? (i := 205) (by decide +kernel), List.mem_of_getElem? (i := 528) (by decide +kernel), List.mem_of_getElem? (i := 529) (by decide +kernel)⟩
theorem lw_p10 : lw_okq (⟨"CarSteps$Car", "fits", "(III)Z"⟩, 19) := ⟨⟨by decide +kernel, by decide +kernel⟩, List.mem_of_getElem? (i := 205) (by decide +kernel), List.mem_of_getElem? (i := 532) (by decide +kernel), List.mem_of_getElem? (i := 533) (by decide +kernel)⟩
theorem lw_p11 : lw_okq (⟨"CarSteps$Car", "leastSpeed", "()I"⟩, 19) := ⟨⟨by decide +kernel, by decide +kernel⟩, List.mem_of_getElem? (i := 205) (by decide +kernel), List.mem_of_getElem? (i := 536) (by decide +kernel), List.mem_of_getElem? (i := 537) (by decide +kernel)⟩
theorem lw_p12 : lw_okq (⟨"CarSteps$Car", "brakingSpeed", "(II)I"⟩, 19) := ⟨⟨by decide +kernel, by decide +kernel⟩, List.mem_of_getElem? (i := 205) (by decide +kernel), List.mem_of_getElem? (i := 540) (by decide +kernel), List.mem_of_getElem? (i := 541) (by decide +kernel)⟩
theorem lw_p13 : lw_okq (⟨"CarSteps$Car", "goOn", "(II)V"⟩, 19) := ⟨⟨by decide +kernel, by decide +kernel⟩, List.mem_of_getElem? (i := 205) (by decide +kernel), List.mem_of_getElem? (i := 544) (by decide +kernel), List.mem_of_getElem? (i := 545) (by decide +kernel)⟩
theorem lw_p14 : lw_okq (⟨"CarSteps$Car", "land", "(I)V"⟩, 19) := ⟨⟨by decide +kernel, by decide +kernel⟩, List.mem_of_getElem? (i := 205) (by decide +kernel), List.mem_of_getElem? (i := 548) (by decide +kernel), List.mem_of_getElem? (i := 549) (by decide +kernel)⟩
theorem lw_p15 : lw_okq (⟨"CarSteps$Door", "openFurther", "()V"⟩, 8) := ⟨⟨by decide +kernel, by decide +kernel⟩, List.mem_of_getElem? (i := 211) (by decide +kernel), List.mem_of_getElem? (i := 565) (by decide +kernel), List.mem_of_getElem? (i := 566) (by decide +kernel)⟩
def lw_privs_1 : List (MethodName × Nat) := [(⟨"java/lang/Throwable", "fillInStackTrace", "(I)Ljava/lang/Throwable;"⟩, 6), (⟨"CarSteps", "refuseWithCars", "()V"⟩, 5), (⟨"CarSteps", "carOf", "(I)LCarSteps$Car;"⟩, 5), (⟨"CarSteps$Car", "wayTo", "(I)I"⟩, 19), (⟨"CarSteps$Car", "roomToOther", "(ILCarSteps$Car;I)I"⟩, 19), (⟨"CarSteps$Car", "nextSpeed", "(III)I"⟩, 19), (⟨"CarSteps$Car", "mayStart", "(I)Z"⟩, 19), (⟨"CarSteps$Car", "limitIn", "(I)I"⟩, 19), (⟨"CarSteps$Car", "speedWithin", "(I)I"⟩, 19), (⟨"CarSteps$Car", "greatestSpeed", "(III)I"⟩, 19), (⟨"CarSteps$Car", "fits", "(III)Z"⟩, 19), (⟨"CarSteps$Car", "leastSpeed", "()I"⟩, 19), (⟨"CarSteps$Car", "brakingSpeed", "(II)I"⟩, 19), (⟨"CarSteps$Car", "goOn", "(II)V"⟩, 19), (⟨"CarSteps$Car", "land", "(I)V"⟩, 19), (⟨"CarSteps$Door", "openFurther", "()V"⟩, 8)]
theorem lw_r1 : ∀ q ∈ lw_privs_1, lw_okq q := List.forall_mem_cons.mpr ⟨lw_p0, List.forall_mem_cons.mpr ⟨lw_p1, List.forall_mem_cons.mpr ⟨lw_p2, List.forall_mem_cons.mpr ⟨lw_p3, List.forall_mem_cons.mpr ⟨lw_p4, List.forall_mem_cons.mpr ⟨lw_p5, List.forall_mem_cons.mpr ⟨lw_p6, List.forall_mem_cons.mpr ⟨lw_p7, List.forall_mem_cons.mpr ⟨lw_p8, List.forall_mem_cons.mpr ⟨lw_p9, List.forall_mem_cons.mpr ⟨lw_p10, List.forall_mem_cons.mpr ⟨lw_p11, List.forall_mem_cons.mpr ⟨lw_p12, List.forall_mem_cons.mpr ⟨lw_p13, List.forall_mem_cons.mpr ⟨lw_p14, List.forall_mem_cons.mpr ⟨lw_p15, fun _ h => absurd h List.not_mem_nil⟩⟩⟩⟩⟩⟩⟩⟩⟩⟩⟩⟩⟩⟩⟩⟩
theorem lw_p16 : lw_okq (⟨"CarSteps$Door", "isTimeToClose", "(IZ)Z"⟩, 8) := ⟨⟨by decide +kernel, by decide +kernel⟩, List.mem_of_getElem? (i := 211) (by decide +kernel), List.mem_of_getElem? (i := 570) (by decide +kernel), List.mem_of_getElem? (i := 571) (by decide +kernel)⟩
theorem lw_p17 : lw_okq (⟨"CarSteps$Door", "closeFurther", "()V"⟩, 8) := ⟨⟨by decide +kernel, by decide +kernel⟩, List.mem_of_getElem? (i := 211) (by decide +kernel), List.mem_of_getElem? (i := 574) (by decide +kernel), List.mem_of_getElem? (i := 575) (by decide +kernel)⟩
theorem lw_p18 : lw_okq (⟨"CarStepsModel", "isFloor", "(I)Z"⟩, 28) := ⟨⟨by decide +kernel, by decide +kernel⟩, List.mem_of_getElem? (i := 597) (by decide +kernel), List.mem_of_getElem? (i := 697) (by decide +kernel), List.mem_of_getElem? (i := 698) (by decide +kernel)⟩
theorem lw_p19 : lw_okq (⟨"CarStepsModel", "goes", "(ZZ)Z"⟩, 28) := ⟨⟨by decide +kernel, by decide +kernel⟩, List.mem_of_getElem? (i := 597) (by decide +kernel), List.mem_of_getElem? (i := 705) (by decide +kernel), List.mem_of_getElem? (i := 706) (by decide +kernel)⟩
theorem lw_p20 : lw_okq (⟨"CarStepsModel", "stands", "(II)I"⟩, 28) := ⟨⟨by decide +kernel, by decide +kernel⟩, List.mem_of_getElem? (i := 597) (by decide +kernel), List.mem_of_getElem? (i := 717) (by decide +kernel), List.mem_of_getElem? (i := 718) (by decide +kernel)⟩
theorem lw_p21 : lw_okq (⟨"CarStepsModel", "isCar", "(I)Z"⟩, 28) := ⟨⟨by decide +kernel, by decide +kernel⟩, List.mem_of_getElem? (i := 597) (by decide +kernel), List.mem_of_getElem? (i := 734) (by decide +kernel), List.mem_of_getElem? (i := 735) (by decide +kernel)⟩
theorem lw_p22 : lw_okq (⟨"CarStepsModel", "floorAt", "(I)I"⟩, 28) := ⟨⟨by decide +kernel, by decide +kernel⟩, List.mem_of_getElem? (i := 597) (by decide +kernel), List.mem_of_getElem? (i := 754) (by decide +kernel), List.mem_of_getElem? (i := 755) (by decide +kernel)⟩
theorem lw_p23 : lw_okq (⟨"CarStepsModel", "reopen", "(II)V"⟩, 28) := ⟨⟨by decide +kernel, by decide +kernel⟩, List.mem_of_getElem? (i := 597) (by decide +kernel), List.mem_of_getElem? (i := 758) (by decide +kernel), List.mem_of_getElem? (i := 759) (by decide +kernel)⟩
theorem lw_p24 : lw_okq (⟨"CarStepsModel", "step", "(I)V"⟩, 28) := ⟨⟨by decide +kernel, by decide +kernel⟩, List.mem_of_getElem? (i := 597) (by decide +kernel), List.mem_of_getElem? (i := 798) (by decide +kernel), List.mem_of_getElem? (i := 799) (by decide +kernel)⟩
theorem lw_p25 : lw_okq (⟨"CarStepsModel", "mode", "(I)I"⟩, 28) := ⟨⟨by decide +kernel, by decide +kernel⟩, List.mem_of_getElem? (i := 597) (by decide +kernel), List.mem_of_getElem? (i := 802) (by decide +kernel), List.mem_of_getElem? (i := 803) (by decide +kernel)⟩
theorem lw_p26 : lw_okq (⟨"CarStepsModel", "wanted", "(I)I"⟩, 28) := ⟨⟨by decide +kernel, by decide +kernel⟩, List.mem_of_getElem? (i := 597) (by decide +kernel), List.mem_of_getElem? (i := 806) (by decide +kernel), List.mem_of_getElem? (i := 807) (by decide +kernel)⟩
theorem lw_p27 : lw_okq (⟨"CarStepsModel", "nearest", "(I)I"⟩, 28) := ⟨⟨by decide +kernel, by decide +kernel⟩, List.mem_of_getElem? (i := 597) (by decide +kernel), List.mem_of_getElem? (i := 810) (by decide +kernel), List.mem_of_getElem? (i := 811) (by decide +kernel)⟩
theorem lw_p28 : lw_okq (⟨"CarStepsModel", "next", "(III)I"⟩, 28) := ⟨⟨by decide +kernel, by decide +kernel⟩, List.mem_of_getElem? (i := 597) (by decide +kernel), List.mem_of_getElem? (i := 814) (by decide +kernel), List.mem_of_getElem? (i := 815) (by decide +kernel)⟩
theorem lw_p29 : lw_okq (⟨"CarStepsModel", "limit", "(II)I"⟩, 28) := ⟨⟨by decide +kernel, by decide +kernel⟩, List.mem_of_getElem? (i := 597) (by decide +kernel), List.mem_of_getElem? (i := 818) (by decide +kernel), List.mem_of_getElem? (i := 819) (by decide +kernel)⟩
theorem lw_p30 : lw_okq (⟨"CarStepsModel", "greatest", "(IIIII)I"⟩, 28) := ⟨⟨by decide +kernel, by decide +kernel⟩, List.mem_of_getElem? (i := 597) (by decide +kernel), List.mem_of_getElem? (i := 822) (by decide +kernel), List.mem_of_getElem? (i := 823) (by decide +kernel)⟩
theorem lw_p31 : lw_okq (⟨"CarStepsModel", "isFree", "(III)Z"⟩, 28) := ⟨⟨by decide +kernel, by decide +kernel⟩, List.mem_of_getElem? (i := 597) (by decide +kernel), List.mem_of_getElem? (i := 826) (by decide +kernel), List.mem_of_getElem? (i := 827) (by decide +kernel)⟩
def lw_privs_2 : List (MethodName × Nat) := [(⟨"CarSteps$Door", "isTimeToClose", "(IZ)Z"⟩, 8), (⟨"CarSteps$Door", "closeFurther", "()V"⟩, 8), (⟨"CarStepsModel", "isFloor", "(I)Z"⟩, 28), (⟨"CarStepsModel", "goes", "(ZZ)Z"⟩, 28), (⟨"CarStepsModel", "stands", "(II)I"⟩, 28), (⟨"CarStepsModel", "isCar", "(I)Z"⟩, 28), (⟨"CarStepsModel", "floorAt", "(I)I"⟩, 28), (⟨"CarStepsModel", "reopen", "(II)V"⟩, 28), (⟨"CarStepsModel", "step", "(I)V"⟩, 28), (⟨"CarStepsModel", "mode", "(I)I"⟩, 28), (⟨"CarStepsModel", "wanted", "(I)I"⟩, 28), (⟨"CarStepsModel", "nearest", "(I)I"⟩, 28), (⟨"CarStepsModel", "next", "(III)I"⟩, 28), (⟨"CarStepsModel", "limit", "(II)I"⟩, 28), (⟨"CarStepsModel", "greatest", "(IIIII)I"⟩, 28), (⟨"CarStepsModel", "isFree", "(III)Z"⟩, 28)]
theorem lw_r2 : ∀ q ∈ lw_privs_2, lw_okq q := List.forall_mem_cons.mpr ⟨lw_p16, List.forall_mem_cons.mpr ⟨lw_p17, List.forall_mem_cons.mpr ⟨lw_p18, List.forall_mem_cons.mpr ⟨lw_p19, List.forall_mem_cons.mpr ⟨lw_p20, List.forall_mem_cons.mpr ⟨lw_p21, List.forall_mem_cons.mpr ⟨lw_p22, List.forall_mem_cons.mpr ⟨lw_p23, List.forall_mem_cons.mpr ⟨lw_p24, List.forall_mem_cons.mpr ⟨lw_p25, List.forall_mem_cons.mpr ⟨lw_p26, List.forall_mem_cons.mpr ⟨lw_p27, List.forall_mem_cons.mpr ⟨lw_p28, List.forall_mem_cons.mpr ⟨lw_p29, List.forall_mem_cons.mpr ⟨lw_p30, List.forall_mem_cons.mpr ⟨lw_p31, fun _ h => absurd h List.not_mem_nil⟩⟩⟩⟩⟩⟩⟩⟩⟩⟩⟩⟩⟩⟩⟩⟩
theorem lw_p32 : lw_okq (⟨"CarStepsModel", "land", "(II)V"⟩, 28) := ⟨⟨by decide +kernel, by decide +kernel⟩, List.mem_of_getElem? (i := 597) (by decide +kernel), List.mem_of_getElem? (i := 830) (by decide +kernel), List.mem_of_getElem? (i := 831) (by decide +kernel)⟩
theorem lw_p33 : lw_okq (⟨"CarStepsModel", "door", "(IIZ)V"⟩, 28) := ⟨⟨by decide +kernel, by decide +kernel⟩, List.mem_of_getElem? (i := 597) (by decide +kernel), List.mem_of_getElem? (i := 834) (by decide +kernel), List.mem_of_getElem? (i := 835) (by decide +kernel)⟩
def lw_privs_3 : List (MethodName × Nat) := [(⟨"CarStepsModel", "land", "(II)V"⟩, 28), (⟨"CarStepsModel", "door", "(IIZ)V"⟩, 28)]
theorem lw_r3 : ∀ q ∈ lw_privs_3, lw_okq q := List.forall_mem_cons.mpr ⟨lw_p32, List.forall_mem_cons.mpr ⟨lw_p33, fun _ h => absurd h List.not_mem_nil⟩⟩
def lw_privs : List (MethodName × Nat) := lw_privs_1 ++ (lw_privs_2 ++ (lw_privs_3))
def lw_tbl : List Cond := k2_sels lw_privs ++ tables_1
theorem lw_privs_ok : ∀ q ∈ lw_privs, lw_okq q := by
  show ∀ q ∈ lw_privs_1 ++ (lw_privs_2 ++ (lw_privs_3)), lw_okq q
  exact List.forall_mem_append.mpr ⟨lw_r1, List.forall_mem_append.mpr ⟨lw_r2, lw_r3⟩⟩

/-! ===== BEGIN words of one list among another's, by their places ===== -/
theorem goodIn_r {big : List Cond} (ws : List Cond) (ps : List Nat) (hp : ws = ps.filterMap (fun i => big[i]?)) (h : ws.all goodWord = true) : GoodIn big ws := by
  intro w hw
  have h1 := List.all_eq_true.mp h w hw
  rw [hp] at hw
  obtain ⟨i, -, hi⟩ := List.mem_filterMap.mp hw
  have hm : w ∈ big := by first | exact List.mem_of_getElem? hi | exact List.getElem?_mem hi
  exact ⟨hm, good_of_word h1⟩
theorem goodIn_app {big a b : List Cond} (ha : GoodIn big a) (hb : GoodIn big b) : GoodIn big (a ++ b) := fun w h => (List.mem_append.mp h).elim (ha w) (hb w)
theorem goodIn_ca {big a b : List Cond} {c : Cond} (ha : GoodIn big (c :: a)) (hb : GoodIn big b) : GoodIn big (c :: (a ++ b)) := fun w h => (List.mem_cons.mp h).elim (fun e => ha w (List.mem_cons.mpr (Or.inl e))) (fun h => (List.mem_append.mp h).elim (fun h => ha w (List.mem_cons.mpr (Or.inr h))) (hb w))
theorem goodIn_sub {big ws : List Cond} (hm : ∀ w ∈ ws, w ∈ big) (h : ws.all goodWord = true) : GoodIn big ws := fun w hw => ⟨hm w hw, good_of_word (List.all_eq_true.mp h w hw)⟩
/-! ===== END ===== -/

/-! ===== BEGIN exceptions that leave a method, and their catching by the caller (launches without stack traces) ===== -/
section VXA
/-! The laws vx_back, vx_callV, vx_callS, vx_callSW, vx_throw0, vx_throwS follow proofs of the library, with one case more: JvmDerived/Free/Laws.lean (Back.of_free), Shelf42/LK1.lean (callV, callS), Shelf/KitTraced.lean (throwNew0V, throwNewS). -/
/-- where a method has thrown q: the class by its name, the cell, what was written, the world -/
def vx_T (XC : String → State → State → Prop) (st : State) (q : Addr) (t : State) (mc ms : Nat) (free : Addr → Prop) : Prop :=
  ∃ (E : String) (ce : Cell) (L : List Loc), XC E st t ∧ t.heap[q]? = some ce ∧ ce.vm = .none ∧ st.vm.findClass E = some ce.cls ∧ st.WarmedH t.vm ∧ st.sameButNew ({ t with vm := st.vm } : State) L mc ms ∧ ∀ z ∈ L, free z.base
def vx_Q (Qc : Array Value → State → Outcome → State → Prop) (XC : String → State → State → Prop) (mc ms : Nat) (free : Addr → Prop) : Array Value → State → Outcome → State → Prop := fun a st o t =>
  (Qc a st o t ∧ ∃ L, FrameEnd st o t L mc ms ∧ ∀ q ∈ L, free q.base) ∨ ∃ q, o = .threw q ∧ vx_T XC st q t mc ms free
/-- a callee that returns or throws -/
def vx_Met (l : Launch) (y : MethodName) (ws : List Cond) (rm : Room) (Pc : Array Value → State → Prop) (Qc : Array Value → State → Outcome → State → Prop) (XC : String → State → State → Prop) (mc ms : Nat) (free : Addr → Prop) : Prop :=
  MetFree l y (headSpec ws rm) Pc (fun _ _ _ _ _ => True) (vx_Q Qc XC mc ms free)
def vx_Post (XC : String → State → State → Prop) (mc ms : Nat) (free : Addr → Prop) : Pt → Array Value → Addr → Pt → Prop := fun A a q B =>
  ∃ (g : JFrame) (mk : MethodId) (t : State) (L : List Loc) (E : String) (ce : Cell), B.U.heap = t.heap ∧ B.U.vm = t.vm ∧ XC E (A.U.calling g mk a) t ∧ t.heap[q]? = some ce ∧ ce.vm = .none ∧ A.U.vm.findClass E = some ce.cls ∧ B.locs = A.locs ++ L ∧ (∀ z ∈ L, free z.base) ∧ B.cells = A.cells + mc ∧ B.slots = A.slots + ms
def vx_Back (l : Launch) (R : Room) (p : Program) (e : Env) (below : List Frame) (s : State) (sargs : Array Value) (y : MethodName) (len W9 : Nat)
    (Pre : Pt → Array Value → Prop) (Post : Pt → Array Value → Option Value → Pt → Prop) (PostX : Pt → Array Value → Addr → Pt → Prop) : Prop :=
  ∀ (m : MethodId) (meth : Method) (c : Code) (A : Pt) (g : JFrame) (ig : Instr) (mk : MethodId) (a : Array Value),
    Stand p l e R s m sargs below meth c A.U A.locs A.cells A.slots → g.method = m → g.locals.size = c.maxLocals → decode c.code g.pc = .ok (ig, len) →
    2 * g.monitorRoom + (g.stack.map fun v => v.category).sum ≤ W9 → A.U.methodNamed? y = some mk → Pre A a →
    (∃ (v : Option Value) (B : Pt), Stand p l e R s m sargs below meth c B.U B.locs B.cells B.slots ∧ Post A a v B ∧
      Steps p.tables e below (doInvoke e (A.U.setTop g) [] mk a).1 (B.U.setTop { g with pc := g.pc + len, stack := v.toList ++ g.stack })) ∨
    (∃ (q : Addr) (B : Pt), Stand p l e R s m sargs below meth c B.U B.locs B.cells B.slots ∧ PostX A a q B ∧
      Steps p.tables e below (doInvoke e (A.U.setTop g) [] mk a).1 ((B.U.setTop g).pushFrame (.throwing q)))
section Payer
variable {l : Launch} {R : Room} {p : Program} {e : Env} {below : List Frame} {s : State} {sargs : Array Value} {y : MethodName} {len W9 : Nat}
theorem vx_back {ws : List Cond} {rm : Room} {Pc : Array Value → State → Prop} {Qc : Array Value → State → Outcome → State → Prop} {XC : String → State → State → Prop} {mc ms : Nat} {free : Addr → Prop} {bytes : ByteArray} {maxL : Nat} {ret : Option FieldType}
    (hM : vx_Met l y ws rm Pc Qc XC mc ms free) (hblind : FrameBlind Pc) (hrc : rm.cells = mc) (hrs : rm.slots = ms)
    (hframes : rm.frames + 1 ≤ R.frames) (hlocals : W9 + (maxL + 11) + rm.locals ≤ R.locals)
    (hws : ∀ w ∈ ws, ∀ a' U, s.WarmedH U.vm → w.before a' U = true) (hcode : Cond.code y bytes maxL ret ∈ ws) (hinit : ∀ a' U, s.WarmedH U.vm → (Cond.initialized y.cls).before a' U = true) :
    vx_Back l R p e below s sargs y len W9 (PreOf R mc ms Pc) (PostOf Qc mc ms free) (vx_Post XC mc ms free) := by
  intro m meth c A g ig mk a X hg hsize hdg hW hn hp
  have h1 : (headSpec ws rm).pre.before a A.U = true := atoms_intro fun w hw => hws w hw _ _ X.warmed
  have h2 : (Cond.code y bytes maxL ret).before a A.U = true := hws _ hcode _ _ X.warmed
  have h3 : (Cond.initialized y.cls).before a A.U = true := hinit _ _ X.warmed
  have h4 : A.cells + (headSpec ws rm).room.cells ≤ R.cells := by rw [show (headSpec ws rm).room.cells = mc from hrc]; exact hp.1
  have h5 : A.slots + (headSpec ws rm).room.slots ≤ R.slots := by rw [show (headSpec ws rm).room.slots = ms from hrs]; exact hp.2.1
  have hPc : Pc a (A.U.calling g mk a) := hblind _ _ _ _ hp.2.2
  obtain ⟨U, Ls, c0, s0⟩ := A
  dsimp only [Pt.U, Pt.locs, Pt.cells, Pt.slots] at h1 h2 h3 h4 h5 X hn hPc ⊢
  obtain ⟨methY, cY, hmY, hcY, -, hlY, -, -, -, -⟩ := Cond.code_spec hn h2
  obtain ⟨kY, hkY, -⟩ := className_of_methodNamed hn
  have hinitY : kY.init = .initialized := Cond.initialized_spec (findClass_of_methodNamed hn) hkY h3
  have h : At U g.method c below := by rw [hg]; exact X.here
  have hlocals9 : W9 + (maxL + 11) + (headSpec ws rm).room.locals ≤ R.locals := hlocals
  have happ : (headSpec ws rm).appliesLoose y e.platform (U.calling g mk a) = true :=
    Spec.appliesLoose_calling (g := g) h hdg hn hkY hinitY
      (X.room_calling (g := g) (R' := (headSpec ws rm).room) hsize hmY hcY hframes (by rw [hlY]; omega) h4 h5) h1
  obtain ⟨mid, hmid⟩ := h.above
  have hfr : (U.setTop g).frames = (.java g :: mid) ++ below := by rw [State.frames_setTop' g h.top, hmid]; rfl
  obtain ⟨o, s₂, hsteps, -, hend, hq⟩ := Steps.callFree hM p X.admits X.cas X.clock (acts := []) hfr happ hPc trivial
  have hq' : vx_Q Qc XC mc ms free a (U.calling g mk a) o s₂ := hq
  rw [State.frames_setTop' g h.top] at hend
  obtain ⟨g₀, hg0⟩ := Option.isSome_iff_exists.mp h.top
  obtain ⟨r, hr⟩ := State.topJava?_eq_some.mp hg0
  have hr' : (({ U with heap := s₂.heap, slotsUsed := s₂.slotsUsed } : State).setVm s₂.vm).frames = .java g₀ :: r := hr
  rcases hq' with ⟨hqc, L, hfe, hL⟩ | ⟨q, rfl, E, ce, L, hx, hce, hcv, hcl, hW₂, hsm, hL⟩
  · obtain ⟨⟨v, rfl⟩, hW₂, e2, q2, q3, q4, q5, q6⟩ := id hfe
    have e3 : s₂ = ({ (U.calling g mk a).setFrames s₂.frames with heap := s₂.heap, slotsUsed := s₂.slotsUsed } : State).setVm s₂.vm := by
      have : s₂ = ({ s₂ with vm := (U.calling g mk a).vm } : State).setVm s₂.vm := rfl
      rw [e2] at this
      exact this
    obtain ⟨c₂, i₂, len₂, hc₂, hd₂, hf₂⟩ := hend
    have hW' : U.WarmedH s₂.vm := hW₂
    have hcc : c₂ = c := by
      have h1 : s₂.code? g.method = U.code? g.method := by
        rw [State.code?_eq, State.code?_eq, hW'.alike.method?]
      exact Option.some.inj (hc₂.symm.trans (h1.trans h.code))
    subst hcc
    have hlen : len₂ = len := by rw [hdg] at hd₂; cases hd₂; rfl
    subst hlen
    have hs₂ : s₂ = (({ U with heap := s₂.heap, slotsUsed := s₂.slotsUsed } : State).setVm s₂.vm).setTop { g with pc := g.pc + len₂, stack := v.toList ++ g.stack } := by
      refine e3.trans ?_
      rw [hf₂, State.calling_eq h.top, State.setFrames_setFrames, State.setTop_of_frames _ hr', hr]
      rfl
    have hsame : U.sameButNew ({ U with heap := s₂.heap, slotsUsed := s₂.slotsUsed } : State) L mc ms := by
      refine ⟨?_, q2, q3, q4, q5, q6⟩
      obtain ⟨t, ht, -⟩ := State.frames_cons hr
      show ({ U with heap := s₂.heap, slotsUsed := s₂.slotsUsed } : State) = { U.setFrames U.frames with heap := s₂.heap, slotsUsed := s₂.slotsUsed }
      rw [State.setFrames_self ht]
    subst hg
    refine Or.inl ⟨v, ⟨(({ U with heap := s₂.heap, slotsUsed := s₂.slotsUsed } : State).setVm s₂.vm), Ls ++ L, c0 + mc, s0 + ms⟩,
      ⟨X.admits, X.cas, X.clock, X.frames, X.room, X.hears, X.method, X.code, (X.here.setHeapUsed s₂.heap s₂.slotsUsed).setVm hW'.alike, X.tail, State.WarmedH.trans X.warmed hW', X.limits, X.bytes, X.same.trans (hsame.setVm s.vm)⟩,
      ⟨g, mk, s₂, L, rfl, rfl, hqc, rfl, hL, rfl, rfl⟩, ?_⟩
    show Steps p.tables e below _ ((({ U with heap := s₂.heap, slotsUsed := s₂.slotsUsed } : State).setVm s₂.vm).setTop { g with pc := g.pc + len₂, stack := v.toList ++ g.stack })
    rw [← hs₂]
    exact hsteps
  · obtain ⟨e2, q2, q3, q4, q5, q6⟩ := id hsm
    have e3 : s₂ = ({ (U.calling g mk a).setFrames s₂.frames with heap := s₂.heap, slotsUsed := s₂.slotsUsed } : State).setVm s₂.vm := by
      have : s₂ = ({ s₂ with vm := (U.calling g mk a).vm } : State).setVm s₂.vm := rfl
      rw [e2] at this
      exact this
    have hf₂ : s₂.frames = .throwing q :: .java g :: U.frames.tail := hend
    have hW' : U.WarmedH s₂.vm := hW₂
    have hs₂ : s₂ = ((({ U with heap := s₂.heap, slotsUsed := s₂.slotsUsed } : State).setVm s₂.vm).setTop g).pushFrame (.throwing q) := by
      refine e3.trans ?_
      rw [hf₂, State.calling_eq h.top, State.setFrames_setFrames, State.pushFrame, State.frames_setTop _ hr', State.setTop_of_frames _ hr', State.setFrames_setFrames, hr]
      rfl
    have hsame : U.sameButNew ({ U with heap := s₂.heap, slotsUsed := s₂.slotsUsed } : State) L mc ms := by
      refine ⟨?_, q2, q3, q4, q5, q6⟩
      obtain ⟨t, ht, -⟩ := State.frames_cons hr
      show ({ U with heap := s₂.heap, slotsUsed := s₂.slotsUsed } : State) = { U.setFrames U.frames with heap := s₂.heap, slotsUsed := s₂.slotsUsed }
      rw [State.setFrames_self ht]
    subst hg
    refine Or.inr ⟨q, ⟨(({ U with heap := s₂.heap, slotsUsed := s₂.slotsUsed } : State).setVm s₂.vm), Ls ++ L, c0 + mc, s0 + ms⟩,
      ⟨X.admits, X.cas, X.clock, X.frames, X.room, X.hears, X.method, X.code, (X.here.setHeapUsed s₂.heap s₂.slotsUsed).setVm hW'.alike, X.tail, State.WarmedH.trans X.warmed hW', X.limits, X.bytes, X.same.trans (hsame.setVm s.vm)⟩,
      ⟨g, mk, s₂, L, E, ce, rfl, rfl, hx, hce, hcv, hcl, rfl, hL, rfl, rfl⟩, ?_⟩
    show Steps p.tables e below _ (((({ U with heap := s₂.heap, slotsUsed := s₂.slotsUsed } : State).setVm s₂.vm).setTop g).pushFrame (.throwing q))
    rw [← hs₂]
    exact hsteps
end Payer
section Calls
variable {p : Program} {l : Launch} {e : Env} {R : Room} {s : State} {m : MethodId} {args : Array Value} {below : List Frame} {meth : Method} {c : Code} {T : State} {locs : List Loc} {cells slots : Nat}
theorem vx_callV (X : Stand p l e R s m args below meth c T locs cells slots) (hexec : p.tables.exec = Jvm.exec) {own C : String} {index : Nat} {y : MethodName} {bytes : ByteArray} {maxL : Nat} {ret : Option FieldType}
    (hown : s.vm.findClass own = some m.cls) (hlink : (Cond.methodLink own index y).before args s = true) (hinst : (Cond.instanceMethod y).before args s = true) (hsel : (Cond.selects C y y).before args s = true)
    (hcode : (Cond.code y bytes maxL ret).before args s = true) (hy : y.cls ≠ "java/lang/invoke/MethodHandle" ∧ y.cls ≠ "java/lang/invoke/VarHandle")
    {W9 : Nat} {Pre : Pt → Array Value → Prop} {Post : Pt → Array Value → Option Value → Pt → Prop} {PostX : Pt → Array Value → Addr → Pt → Prop} (hK : vx_Back l R p e below s args y 3 W9 Pre Post PostX)
    {b : Addr} {cellB : Cell} (hcell : T.heap[b]? = some cellB) (hobj : cellB.vm.isStatics = false) (hcls : s.vm.findClass C = some cellB.cls)
    {g : JFrame} (hg : g.method = m) (hsize : g.locals.size = c.maxLocals) {argsL rest : List Value} (hlen : ∀ sig, parseMethodDescriptor y.desc = some sig → argsL.length = sig.parameters.length)
    (hstack : g.stack = argsL.reverse ++ .ref b :: rest) (hW : 2 * g.monitorRoom + (rest.map fun v => v.category).sum ≤ W9) (hdg : decode c.code g.pc = .ok (.invokevirtual index, 3))
    (hpre : ∀ vm₁, s.WarmedH vm₁ → Pre ⟨T.setVm vm₁, locs, cells, slots⟩ (Value.ref b :: argsL).toArray) :
    (∃ (v : Option Value) (vm₁ : Vm) (B : Pt), s.WarmedH vm₁ ∧ Stand p l e R s m args below meth c B.U B.locs B.cells B.slots ∧ Post ⟨T.setVm vm₁, locs, cells, slots⟩ (Value.ref b :: argsL).toArray v B ∧
      ∀ target, Steps p.tables e below (B.U.setTop { g with pc := g.pc + 3, stack := v.toList ++ rest }) target → Steps p.tables e below (T.setTop g) target) ∨
    (∃ (q : Addr) (vm₁ : Vm) (B : Pt), s.WarmedH vm₁ ∧ Stand p l e R s m args below meth c B.U B.locs B.cells B.slots ∧ PostX ⟨T.setVm vm₁, locs, cells, slots⟩ (Value.ref b :: argsL).toArray q B ∧
      Steps p.tables e below (T.setTop g) ((B.U.setTop { g with stack := rest }).pushFrame (.throwing q))) := by
  obtain ⟨mk, methM, hnamed, hmethM, hstM, habM⟩ := Cond.instanceMethod_spec hinst
  obtain ⟨methM', cM, hmethM', -, -, -, -, -, -, hsigM⟩ := Cond.code_spec hnamed hcode
  cases hmethM.symm.trans hmethM'
  obtain ⟨c2, r2, m2, q1, q2, q3, q4, kP, hkP, hkPi⟩ := Cond.selects_spec hsel
  cases hcls.symm.trans q1
  cases (State.methodFound?_of_named hnamed hy).symm.trans q2
  cases hnamed.symm.trans q3
  have hselP : selectMethod e.platform s.vm cellB.cls mk = .method mk := by rw [Launch.admits_selectMethod X.admits]; exact q4
  obtain ⟨vm₁, X₁, hstep₁⟩ := X.invokevirtual hexec hown hlink hnamed hmethM hstM hkP hkPi hy (a := b) (cell := cellB) hcell
    (fun z h => by rw [h] at hobj; cases hobj) hselP hmethM habM hkP hkPi (g := g) hg (argsL := argsL) (rest := rest) (hlen _ hsigM) hstack hdg
  rcases hK m meth c ⟨T.setVm vm₁, locs, cells, slots⟩ { g with stack := rest } (.invokevirtual index) mk (Value.ref b :: argsL).toArray X₁ hg hsize hdg hW (X₁.named hnamed) (hpre vm₁ X₁.warmed) with ⟨v, B, X', hpost, hsteps⟩ | ⟨q, B, X', hpost, hsteps⟩
  · exact Or.inl ⟨v, vm₁, B, X₁.warmed, X', hpost, fun target h => hstep₁ _ fun acts => by rw [doInvoke_state]; exact hsteps.trans h⟩
  · exact Or.inr ⟨q, vm₁, B, X₁.warmed, X', hpost, hstep₁ _ fun acts => by rw [doInvoke_state]; exact hsteps⟩
theorem vx_callS (X : Stand p l e R s m args below meth c T locs cells slots) (hexec : p.tables.exec = Jvm.exec) {own : String} {index : Nat} {y : MethodName} {bytes : ByteArray} {maxL : Nat} {ret : Option FieldType}
    (hown : s.vm.findClass own = some m.cls) (hlink : (Cond.methodLink own index y).before args s = true) (hstat : (Cond.static y).before args s = true) (hinit : (Cond.initialized y.cls).before args s = true)
    (hcode : (Cond.code y bytes maxL ret).before args s = true) (hy : y.cls ≠ "java/lang/invoke/MethodHandle" ∧ y.cls ≠ "java/lang/invoke/VarHandle")
    {W9 : Nat} {Pre : Pt → Array Value → Prop} {Post : Pt → Array Value → Option Value → Pt → Prop} {PostX : Pt → Array Value → Addr → Pt → Prop} (hK : vx_Back l R p e below s args y 3 W9 Pre Post PostX)
    {g : JFrame} (hg : g.method = m) (hsize : g.locals.size = c.maxLocals) {argsL rest : List Value} (hlen : ∀ sig, parseMethodDescriptor y.desc = some sig → argsL.length = sig.parameters.length)
    (hstack : g.stack = argsL.reverse ++ rest) (hW : 2 * g.monitorRoom + (rest.map fun v => v.category).sum ≤ W9) (hdg : decode c.code g.pc = .ok (.invokestatic index, 3))
    (hpre : ∀ vm₁, s.WarmedH vm₁ → Pre ⟨T.setVm vm₁, locs, cells, slots⟩ argsL.toArray) :
    (∃ (v : Option Value) (vm₁ : Vm) (B : Pt), s.WarmedH vm₁ ∧ Stand p l e R s m args below meth c B.U B.locs B.cells B.slots ∧ Post ⟨T.setVm vm₁, locs, cells, slots⟩ argsL.toArray v B ∧
      ∀ target, Steps p.tables e below (B.U.setTop { g with pc := g.pc + 3, stack := v.toList ++ rest }) target → Steps p.tables e below (T.setTop g) target) ∨
    (∃ (q : Addr) (vm₁ : Vm) (B : Pt), s.WarmedH vm₁ ∧ Stand p l e R s m args below meth c B.U B.locs B.cells B.slots ∧ PostX ⟨T.setVm vm₁, locs, cells, slots⟩ argsL.toArray q B ∧
      Steps p.tables e below (T.setTop g) ((B.U.setTop { g with stack := rest }).pushFrame (.throwing q))) := by
  obtain ⟨mk, hnamed⟩ := Cond.code_named hcode
  obtain ⟨methM, cM, hmethM, -, -, -, -, -, -, hsigM⟩ := Cond.code_spec hnamed hcode
  have hstatic : methM.isStatic = true := Cond.static_spec hnamed hmethM hstat
  obtain ⟨kP, hkP, -⟩ := className_of_methodNamed hnamed
  have hinitP : kP.init = .initialized := Cond.initialized_spec (findClass_of_methodNamed hnamed) hkP hinit
  obtain ⟨vm₁, X₁, hstep₁⟩ := X.invokestatic hexec hown hlink hnamed hmethM hstatic hkP hinitP hy (g := g) hg (argsL := argsL) (rest := rest) (hlen _ hsigM) hstack hdg
  rcases hK m meth c ⟨T.setVm vm₁, locs, cells, slots⟩ { g with stack := rest } (.invokestatic index) mk argsL.toArray X₁ hg hsize hdg hW (X₁.named hnamed) (hpre vm₁ X₁.warmed) with ⟨v, B, X', hpost, hsteps⟩ | ⟨q, B, X', hpost, hsteps⟩
  · exact Or.inl ⟨v, vm₁, B, X₁.warmed, X', hpost, fun target h => hstep₁ _ fun acts => by rw [doInvoke_state]; exact hsteps.trans h⟩
  · exact Or.inr ⟨q, vm₁, B, X₁.warmed, X', hpost, hstep₁ _ fun acts => by rw [doInvoke_state]; exact hsteps⟩
end Calls
theorem vx_cls {s : State} {T : State} {vm₁ : Vm} {E : String} {k : ClassId} (hW : s.WarmedH vm₁) (h : (T.setVm vm₁).vm.findClass E = some k) : s.vm.findClass E = some k := by
  have h1 : vm₁.findClass E = some k := h
  rw [hW.alike.findClass] at h1
  exact h1
/-- the method's frame g, with q thrown over it -/
def vx_W (p : Program) (l : Launch) (e : Env) (R : Room) (s : State) (m : MethodId) (args : Array Value) (below : List Frame) (meth : Method) (c : Code) (H : Heap) (locs : List Loc) (cells slots : Nat) (Q : State → Prop) (g : JFrame) (q : Addr) : Prop :=
  ∀ T : State, T.heap = H → Stand p l e R s m args below meth c T locs cells slots → ∃ t, Steps p.tables e below ((T.setTop g).pushFrame (.throwing q)) t ∧ Q t
def vx_Run (p : Program) (l : Launch) (e : Env) (R : Room) (s : State) (m : MethodId) (args : Array Value) (below : List Frame) (meth : Method) (c : Code) (H : Heap) (locs : List Loc) (cells slots mc ms : Nat) (g : JFrame) (rest : List Value) (Qa : State → Outcome → State → Prop) (XC : String → State → State → Prop) (free : Addr → Prop) : Prop :=
  ∀ T : State, T.heap = H → Stand p l e R s m args below meth c T locs cells slots →
    (∃ (v : Option Value) (st₀ t T' : State) (L : List Loc), st₀.heap = H ∧ Stand p l e R s m args below meth c T' (locs ++ L) (cells + mc) (slots + ms) ∧ (∀ q ∈ L, free q.base) ∧ T'.heap = t.heap ∧ T'.vm = t.vm ∧ Qa st₀ (.returned v) t ∧
      Goes p e below T g T' { g with pc := g.pc + 3, stack := v.toList ++ rest }) ∨
    (∃ (q : Addr) (st₀ t T' : State) (L : List Loc) (E : String) (ce : Cell), st₀.heap = H ∧ Stand p l e R s m args below meth c T' (locs ++ L) (cells + mc) (slots + ms) ∧ (∀ z ∈ L, free z.base) ∧ T'.heap = t.heap ∧ T'.vm = t.vm ∧ XC E st₀ t ∧ t.heap[q]? = some ce ∧ ce.vm = .none ∧ s.vm.findClass E = some ce.cls ∧
      Steps p.tables e below (T.setTop g) ((T'.setTop { g with stack := rest }).pushFrame (.throwing q)))
def vx_X {S : Type} (px : S → Prop) (B : String → S → State → Prop) (A : Nat → Prop) : String → State → State → Prop := fun E st t => ∃ u : S, px u ∧ B E u t ∧ va_F A st t
section Runs
variable {p : Program} {l : Launch} {e : Env} {R : Room} {s : State} {m : MethodId} {args : Array Value} {below : List Frame} {meth : Method} {c : Code} {H : Heap} {locs : List Loc} {cells slots : Nat}
variable {y : MethodName} {bytes cc : ByteArray} {maxL nL mc ms n index : Nat} {ret : Option FieldType} {ws : List Cond} {rm : Room} {Pc : Array Value → State → Prop} {Qc : Array Value → State → Outcome → State → Prop} {XC : String → State → State → Prop} {free : Addr → Prop} {Ts : List Cond} {own C : String} {b : Addr} {As rest : List Value} {g : JFrame}
theorem vx_callBack (cb : CallB R s args own index y bytes maxL ret ws rm mc ms n) (hM : vx_Met l y ws rm Pc Qc XC mc ms free) (hbl : FrameBlind Pc) : vx_Back l R p e below s args y 3 8 (PreOf R mc ms Pc) (PostOf Qc mc ms free) (vx_Post XC mc ms free) := by
  obtain ⟨hrc, hrs, hfr, hlo, hws, hcw, -, hini, -⟩ := cb
  exact vx_back (bytes := bytes) (maxL := maxL) (ret := ret) hM hbl hrc hrs hfr hlo hws hcw (fun a' U hW => word_at hW (Or.inl (by first | rfl | simp [Cond.onTables, Cond.keeps, Cond.steady])) hini)
theorem vx_runV (S : CallFix p m c cc nL s args Ts own) (hM : vx_Met l y ws rm Pc Qc XC mc ms free) (cw : CallW R s args own C index y bytes maxL ret ws rm mc ms n) (hp : PreV s H C b Pc As)
    (hg : g.method = m) (hn : As.length = n) (hsize : g.locals.size = nL) (hstack : g.stack = As.reverse ++ .ref b :: rest) (hW : 2 * g.monitorRoom + (rest.map fun v => v.category).sum ≤ 8) (hdg : decode cc g.pc = .ok (.invokevirtual index, 3)) (hf : cells + mc ≤ R.cells ∧ slots + ms ≤ R.slots) :
    vx_Run p l e R s m args below meth c H locs cells slots mc ms g rest (Qc (Value.ref b :: As).toArray) XC free := by
  have hK : vx_Back l R p e below s args y 3 8 (PreOf R mc ms Pc) (PostOf Qc mc ms free) (vx_Post XC mc ms free) := vx_callBack cw.1 hM hp.1
  obtain ⟨⟨-, -, -, -, -, -, hcode, -, hy, hlen, hl⟩, hin, hse⟩ := cw
  obtain ⟨hx, hb, hml, ho, -⟩ := S
  obtain ⟨-, ⟨cellB, hcB, hoB, hclB⟩, hPc⟩ := hp
  intro T hT X
  rcases vx_callV X hx (C := C) (bytes := bytes) (maxL := maxL) (ret := ret) ho hl hin hse hcode hy hK (by rw [hT]; exact hcB) hoB hclB hg (hsize.trans hml.symm) (argsL := As) (rest := rest) (fun sig h => hn.trans (hlen sig h)) hstack hW (by rw [hb]; exact hdg)
    (fun vm₁ hW₁ => ⟨hf.1, hf.2, hPc (T.setVm vm₁) hT hW₁⟩) with ⟨v, vm₁, ⟨U', l2, c2, s2⟩, hW₁, X', ⟨g', mk, t, L, e1, e2, hq, h1, hL, h2, h3⟩, st⟩ | ⟨q, vm₁, ⟨U', l2, c2, s2⟩, hW₁, X', ⟨g', mk, t, L, E, ce, e1, e2, hq, hce, hcv, hcl, h1, hL, h2, h3⟩, st⟩
  · dsimp only [Pt.U, Pt.locs, Pt.cells, Pt.slots] at X' e1 e2 h1 h2 h3 st
    subst h1; subst h2; subst h3
    exact Or.inl ⟨v, (T.setVm vm₁).calling g' mk (Value.ref b :: As).toArray, t, U', L, hT, X', hL, e1, e2, hq, st⟩
  · dsimp only [Pt.U, Pt.locs, Pt.cells, Pt.slots] at X' e1 e2 h1 h2 h3 st hcl
    subst h1; subst h2; subst h3
    exact Or.inr ⟨q, (T.setVm vm₁).calling g' mk (Value.ref b :: As).toArray, t, U', L, E, ce, hT, X', hL, e1, e2, hq, hce, hcv, vx_cls hW₁ hcl, st⟩
theorem vx_runS (S : CallFix p m c cc nL s args Ts own) (hM : vx_Met l y ws rm Pc Qc XC mc ms free) (cw : CallB R s args own index y bytes maxL ret ws rm mc ms n ∧ (Cond.static y).before args s = true) (hp : PreS s H Pc As)
    (hg : g.method = m) (hn : As.length = n) (hsize : g.locals.size = nL) (hstack : g.stack = As.reverse ++ rest) (hW : 2 * g.monitorRoom + (rest.map fun v => v.category).sum ≤ 8) (hdg : decode cc g.pc = .ok (.invokestatic index, 3)) (hf : cells + mc ≤ R.cells ∧ slots + ms ≤ R.slots) :
    vx_Run p l e R s m args below meth c H locs cells slots mc ms g rest (Qc As.toArray) XC free := by
  have hK : vx_Back l R p e below s args y 3 8 (PreOf R mc ms Pc) (PostOf Qc mc ms free) (vx_Post XC mc ms free) := vx_callBack cw.1 hM hp.1
  obtain ⟨⟨-, -, -, -, -, -, hcode, hini, hy, hlen, hl⟩, hstt⟩ := cw
  obtain ⟨hx, hb, hml, ho, -⟩ := S
  intro T hT X
  rcases vx_callS X hx (bytes := bytes) (maxL := maxL) (ret := ret) ho hl hstt hini hcode hy hK hg (hsize.trans hml.symm) (argsL := As) (rest := rest) (fun sig h => hn.trans (hlen sig h)) hstack hW (by rw [hb]; exact hdg)
    (fun vm₁ hW₁ => ⟨hf.1, hf.2, hp.2 (T.setVm vm₁) hT hW₁⟩) with ⟨v, vm₁, ⟨U', l2, c2, s2⟩, hW₁, X', ⟨g', mk, t, L, e1, e2, hq, h1, hL, h2, h3⟩, st⟩ | ⟨q, vm₁, ⟨U', l2, c2, s2⟩, hW₁, X', ⟨g', mk, t, L, E, ce, e1, e2, hq, hce, hcv, hcl, h1, hL, h2, h3⟩, st⟩
  · dsimp only [Pt.U, Pt.locs, Pt.cells, Pt.slots] at X' e1 e2 h1 h2 h3 st
    subst h1; subst h2; subst h3
    exact Or.inl ⟨v, (T.setVm vm₁).calling g' mk As.toArray, t, U', L, hT, X', hL, e1, e2, hq, st⟩
  · dsimp only [Pt.U, Pt.locs, Pt.cells, Pt.slots] at X' e1 e2 h1 h2 h3 st hcl
    subst h1; subst h2; subst h3
    exact Or.inr ⟨q, (T.setVm vm₁).calling g' mk As.toArray, t, U', L, E, ce, hT, X', hL, e1, e2, hq, hce, hcv, vx_cls hW₁ hcl, st⟩
end Runs
section Rows
variable {p : Program} {l : Launch} {e : Env} {R : Room} {s : State} {m : MethodId} {args : Array Value} {below : List Frame} {meth : Method} {c : Code} {H : Heap} {locs : List Loc} {cells slots : Nat} {Q : State → Prop}
variable {mc ms : Nat} {free : Addr → Prop} {A0 A1 : Nat → Prop} {H0 : Heap} {a : Array Value} {pc : Nat} {ls : Array Slot} {st0 rest : List Value}
theorem vx_keep {st₀ t T' : State} {L : List Loc} (h0 : st₀.heap = H) (e1 : T'.heap = t.heap) (hS : va_S A0 H0 H locs) (hA : ∀ q, q < H.size → A1 q → A0 q) (hf : ∀ q, free q → A0 q) (hL : ∀ q ∈ L, free q.base) (hF : va_F A1 st₀ t) :
    H.size ≤ T'.heap.size ∧ (∀ q : Nat, q < H.size → ¬ A1 q → T'.heap[q]? = H[q]?) ∧ va_S A0 H0 T'.heap (locs ++ L) := by
  obtain ⟨hz, hk⟩ := hF
  rw [h0] at hz hk
  exact ⟨by rw [e1]; exact hz, fun q h1 h2 => by rw [e1]; exact hk q h1 h2,
    ⟨Nat.le_trans hS.1 (by rw [e1]; exact hz), fun q h1 h2 => by rw [e1, hk q (Nat.lt_of_lt_of_le h1 hS.1) (fun z => h2 (hA q (Nat.lt_of_lt_of_le h1 hS.1) z))]; exact hS.2.1 q h1 h2, fun q hq => by
      rcases List.mem_append.mp hq with h | h
      · exact hS.2.2 q h
      · exact hf _ (hL q h)⟩⟩
theorem vx_calli {S SX : Type} {post : Int32 → S → Prop} {px : SX → Prop} {B : S → State → Prop} {BX : String → SX → State → Prop} {AX : Nat → Prop} (hr : vx_Run p l e R s m args below meth c H locs cells slots mc ms (F0 m pc ls st0) rest (va_Qi post B A1 a) (vx_X px BX AX) free) (hS : va_S A0 H0 H locs) (hA : ∀ q, q < H.size → A1 q → A0 q) (hf : ∀ q, free q → A0 q) (hAX : ∀ q, q < H.size → AX q → A0 q)
    (kx : ∀ (E : String) (ce : Cell) (q9 : Addr) (u : SX) (t : State) (H1 : Heap) (locs1 : List Loc), t.heap = H1 → s.vm.Alike t.vm → px u → BX E u t → H.size ≤ H1.size → (∀ q : Nat, q < H.size → ¬ AX q → H1[q]? = H[q]?) → va_S A0 H0 H1 locs1 → H1[q9]? = some ce → ce.vm = .none → s.vm.findClass E = some ce.cls → vx_W p l e R s m args below meth c H1 locs1 (cells + mc) (slots + ms) Q (F0 m pc ls rest) q9)
    (kk : ∀ (r : Int32) (u : S) (t : State) (H1 : Heap) (locs1 : List Loc), t.heap = H1 → s.vm.Alike t.vm → post r u → B u t → H.size ≤ H1.size → (∀ q : Nat, q < H.size → ¬ A1 q → H1[q]? = H[q]?) → va_S A0 H0 H1 locs1 → W p l e R s m args below meth c H1 locs1 (cells + mc) (slots + ms) Q (F0 m (pc + 3) ls (.int r :: rest))) : W p l e R s m args below meth c H locs cells slots Q (F0 m pc ls st0) := by
  intro T hT X
  rcases hr T hT X with ⟨v, st₀, t, T', L, h0, X', hL, e1, e2, ⟨⟨r, u, hv, hp, hb⟩, hF⟩, st⟩ | ⟨q, st₀, t, T', L, E, ce, h0, X', hL, e1, e2, ⟨u, hp, hb, hF⟩, hce, hcv, hcl, st⟩
  · cases hv
    obtain ⟨k1, k2, k3⟩ := vx_keep h0 e1 hS hA hf hL hF
    obtain ⟨t2, a1, b1⟩ := kk r u t T'.heap (locs ++ L) e1.symm (by rw [← e2]; exact X'.warmed.alike) hp hb k1 k2 k3 T' rfl X'
    exact ⟨t2, st t2 a1, b1⟩
  · obtain ⟨k1, k2, k3⟩ := vx_keep h0 e1 hS hAX hf hL hF
    obtain ⟨t2, a1, b1⟩ := kx E ce q u t T'.heap (locs ++ L) e1.symm (by rw [← e2]; exact X'.warmed.alike) hp hb k1 k2 k3 (by rw [e1]; exact hce) hcv hcl T' rfl X'
    exact ⟨t2, st.trans a1, b1⟩
theorem vx_calll {S SX : Type} {post : Int64 → S → Prop} {px : SX → Prop} {B : S → State → Prop} {BX : String → SX → State → Prop} {AX : Nat → Prop} (hr : vx_Run p l e R s m args below meth c H locs cells slots mc ms (F0 m pc ls st0) rest (va_Ql post B A1 a) (vx_X px BX AX) free) (hS : va_S A0 H0 H locs) (hA : ∀ q, q < H.size → A1 q → A0 q) (hf : ∀ q, free q → A0 q) (hAX : ∀ q, q < H.size → AX q → A0 q)
    (kx : ∀ (E : String) (ce : Cell) (q9 : Addr) (u : SX) (t : State) (H1 : Heap) (locs1 : List Loc), t.heap = H1 → s.vm.Alike t.vm → px u → BX E u t → H.size ≤ H1.size → (∀ q : Nat, q < H.size → ¬ AX q → H1[q]? = H[q]?) → va_S A0 H0 H1 locs1 → H1[q9]? = some ce → ce.vm = .none → s.vm.findClass E = some ce.cls → vx_W p l e R s m args below meth c H1 locs1 (cells + mc) (slots + ms) Q (F0 m pc ls rest) q9)
    (kk : ∀ (r : Int64) (u : S) (t : State) (H1 : Heap) (locs1 : List Loc), t.heap = H1 → s.vm.Alike t.vm → post r u → B u t → H.size ≤ H1.size → (∀ q : Nat, q < H.size → ¬ A1 q → H1[q]? = H[q]?) → va_S A0 H0 H1 locs1 → W p l e R s m args below meth c H1 locs1 (cells + mc) (slots + ms) Q (F0 m (pc + 3) ls (.long r :: rest))) : W p l e R s m args below meth c H locs cells slots Q (F0 m pc ls st0) := by
  intro T hT X
  rcases hr T hT X with ⟨v, st₀, t, T', L, h0, X', hL, e1, e2, ⟨⟨r, u, hv, hp, hb⟩, hF⟩, st⟩ | ⟨q, st₀, t, T', L, E, ce, h0, X', hL, e1, e2, ⟨u, hp, hb, hF⟩, hce, hcv, hcl, st⟩
  · cases hv
    obtain ⟨k1, k2, k3⟩ := vx_keep h0 e1 hS hA hf hL hF
    obtain ⟨t2, a1, b1⟩ := kk r u t T'.heap (locs ++ L) e1.symm (by rw [← e2]; exact X'.warmed.alike) hp hb k1 k2 k3 T' rfl X'
    exact ⟨t2, st t2 a1, b1⟩
  · obtain ⟨k1, k2, k3⟩ := vx_keep h0 e1 hS hAX hf hL hF
    obtain ⟨t2, a1, b1⟩ := kx E ce q u t T'.heap (locs ++ L) e1.symm (by rw [← e2]; exact X'.warmed.alike) hp hb k1 k2 k3 (by rw [e1]; exact hce) hcv hcl T' rfl X'
    exact ⟨t2, st.trans a1, b1⟩
theorem vx_callf {S SX : Type} {post : UInt32 → S → Prop} {px : SX → Prop} {B : S → State → Prop} {BX : String → SX → State → Prop} {AX : Nat → Prop} (hr : vx_Run p l e R s m args below meth c H locs cells slots mc ms (F0 m pc ls st0) rest (va_Qf post B A1 a) (vx_X px BX AX) free) (hS : va_S A0 H0 H locs) (hA : ∀ q, q < H.size → A1 q → A0 q) (hf : ∀ q, free q → A0 q) (hAX : ∀ q, q < H.size → AX q → A0 q)
    (kx : ∀ (E : String) (ce : Cell) (q9 : Addr) (u : SX) (t : State) (H1 : Heap) (locs1 : List Loc), t.heap = H1 → s.vm.Alike t.vm → px u → BX E u t → H.size ≤ H1.size → (∀ q : Nat, q < H.size → ¬ AX q → H1[q]? = H[q]?) → va_S A0 H0 H1 locs1 → H1[q9]? = some ce → ce.vm = .none → s.vm.findClass E = some ce.cls → vx_W p l e R s m args below meth c H1 locs1 (cells + mc) (slots + ms) Q (F0 m pc ls rest) q9)
    (kk : ∀ (r : UInt32) (u : S) (t : State) (H1 : Heap) (locs1 : List Loc), t.heap = H1 → s.vm.Alike t.vm → post r u → B u t → H.size ≤ H1.size → (∀ q : Nat, q < H.size → ¬ A1 q → H1[q]? = H[q]?) → va_S A0 H0 H1 locs1 → W p l e R s m args below meth c H1 locs1 (cells + mc) (slots + ms) Q (F0 m (pc + 3) ls (.float r :: rest))) : W p l e R s m args below meth c H locs cells slots Q (F0 m pc ls st0) := by
  intro T hT X
  rcases hr T hT X with ⟨v, st₀, t, T', L, h0, X', hL, e1, e2, ⟨⟨r, u, hv, hp, hb⟩, hF⟩, st⟩ | ⟨q, st₀, t, T', L, E, ce, h0, X', hL, e1, e2, ⟨u, hp, hb, hF⟩, hce, hcv, hcl, st⟩
  · cases hv
    obtain ⟨k1, k2, k3⟩ := vx_keep h0 e1 hS hA hf hL hF
    obtain ⟨t2, a1, b1⟩ := kk r u t T'.heap (locs ++ L) e1.symm (by rw [← e2]; exact X'.warmed.alike) hp hb k1 k2 k3 T' rfl X'
    exact ⟨t2, st t2 a1, b1⟩
  · obtain ⟨k1, k2, k3⟩ := vx_keep h0 e1 hS hAX hf hL hF
    obtain ⟨t2, a1, b1⟩ := kx E ce q u t T'.heap (locs ++ L) e1.symm (by rw [← e2]; exact X'.warmed.alike) hp hb k1 k2 k3 (by rw [e1]; exact hce) hcv hcl T' rfl X'
    exact ⟨t2, st.trans a1, b1⟩
theorem vx_calld {S SX : Type} {post : UInt64 → S → Prop} {px : SX → Prop} {B : S → State → Prop} {BX : String → SX → State → Prop} {AX : Nat → Prop} (hr : vx_Run p l e R s m args below meth c H locs cells slots mc ms (F0 m pc ls st0) rest (va_Qd post B A1 a) (vx_X px BX AX) free) (hS : va_S A0 H0 H locs) (hA : ∀ q, q < H.size → A1 q → A0 q) (hf : ∀ q, free q → A0 q) (hAX : ∀ q, q < H.size → AX q → A0 q)
    (kx : ∀ (E : String) (ce : Cell) (q9 : Addr) (u : SX) (t : State) (H1 : Heap) (locs1 : List Loc), t.heap = H1 → s.vm.Alike t.vm → px u → BX E u t → H.size ≤ H1.size → (∀ q : Nat, q < H.size → ¬ AX q → H1[q]? = H[q]?) → va_S A0 H0 H1 locs1 → H1[q9]? = some ce → ce.vm = .none → s.vm.findClass E = some ce.cls → vx_W p l e R s m args below meth c H1 locs1 (cells + mc) (slots + ms) Q (F0 m pc ls rest) q9)
    (kk : ∀ (r : UInt64) (u : S) (t : State) (H1 : Heap) (locs1 : List Loc), t.heap = H1 → s.vm.Alike t.vm → post r u → B u t → H.size ≤ H1.size → (∀ q : Nat, q < H.size → ¬ A1 q → H1[q]? = H[q]?) → va_S A0 H0 H1 locs1 → W p l e R s m args below meth c H1 locs1 (cells + mc) (slots + ms) Q (F0 m (pc + 3) ls (.double r :: rest))) : W p l e R s m args below meth c H locs cells slots Q (F0 m pc ls st0) := by
  intro T hT X
  rcases hr T hT X with ⟨v, st₀, t, T', L, h0, X', hL, e1, e2, ⟨⟨r, u, hv, hp, hb⟩, hF⟩, st⟩ | ⟨q, st₀, t, T', L, E, ce, h0, X', hL, e1, e2, ⟨u, hp, hb, hF⟩, hce, hcv, hcl, st⟩
  · cases hv
    obtain ⟨k1, k2, k3⟩ := vx_keep h0 e1 hS hA hf hL hF
    obtain ⟨t2, a1, b1⟩ := kk r u t T'.heap (locs ++ L) e1.symm (by rw [← e2]; exact X'.warmed.alike) hp hb k1 k2 k3 T' rfl X'
    exact ⟨t2, st t2 a1, b1⟩
  · obtain ⟨k1, k2, k3⟩ := vx_keep h0 e1 hS hAX hf hL hF
    obtain ⟨t2, a1, b1⟩ := kx E ce q u t T'.heap (locs ++ L) e1.symm (by rw [← e2]; exact X'.warmed.alike) hp hb k1 k2 k3 (by rw [e1]; exact hce) hcv hcl T' rfl X'
    exact ⟨t2, st.trans a1, b1⟩
theorem vx_callv {S SX : Type} {post : S → Prop} {px : SX → Prop} {B : S → State → Prop} {BX : String → SX → State → Prop} {AX : Nat → Prop} (hr : vx_Run p l e R s m args below meth c H locs cells slots mc ms (F0 m pc ls st0) rest (va_Qv post B A1 a) (vx_X px BX AX) free) (hS : va_S A0 H0 H locs) (hA : ∀ q, q < H.size → A1 q → A0 q) (hf : ∀ q, free q → A0 q) (hAX : ∀ q, q < H.size → AX q → A0 q)
    (kx : ∀ (E : String) (ce : Cell) (q9 : Addr) (u : SX) (t : State) (H1 : Heap) (locs1 : List Loc), t.heap = H1 → s.vm.Alike t.vm → px u → BX E u t → H.size ≤ H1.size → (∀ q : Nat, q < H.size → ¬ AX q → H1[q]? = H[q]?) → va_S A0 H0 H1 locs1 → H1[q9]? = some ce → ce.vm = .none → s.vm.findClass E = some ce.cls → vx_W p l e R s m args below meth c H1 locs1 (cells + mc) (slots + ms) Q (F0 m pc ls rest) q9)
    (kk : ∀ (u : S) (t : State) (H1 : Heap) (locs1 : List Loc), t.heap = H1 → s.vm.Alike t.vm → post u → B u t → H.size ≤ H1.size → (∀ q : Nat, q < H.size → ¬ A1 q → H1[q]? = H[q]?) → va_S A0 H0 H1 locs1 → W p l e R s m args below meth c H1 locs1 (cells + mc) (slots + ms) Q (F0 m (pc + 3) ls (rest))) : W p l e R s m args below meth c H locs cells slots Q (F0 m pc ls st0) := by
  intro T hT X
  rcases hr T hT X with ⟨v, st₀, t, T', L, h0, X', hL, e1, e2, ⟨⟨u, hv, hp, hb⟩, hF⟩, st⟩ | ⟨q, st₀, t, T', L, E, ce, h0, X', hL, e1, e2, ⟨u, hp, hb, hF⟩, hce, hcv, hcl, st⟩
  · cases hv
    obtain ⟨k1, k2, k3⟩ := vx_keep h0 e1 hS hA hf hL hF
    obtain ⟨t2, a1, b1⟩ := kk u t T'.heap (locs ++ L) e1.symm (by rw [← e2]; exact X'.warmed.alike) hp hb k1 k2 k3 T' rfl X'
    exact ⟨t2, st t2 a1, b1⟩
  · obtain ⟨k1, k2, k3⟩ := vx_keep h0 e1 hS hAX hf hL hF
    obtain ⟨t2, a1, b1⟩ := kx E ce q u t T'.heap (locs ++ L) e1.symm (by rw [← e2]; exact X'.warmed.alike) hp hb k1 k2 k3 (by rw [e1]; exact hce) hcv hcl T' rfl X'
    exact ⟨t2, st.trans a1, b1⟩
/-- caught by the row x of this method's table; the rows ahead don't take it -/
theorem vx_catch {own name : String} {E : String} {ce : Cell} {q : Addr} (hown : s.vm.findClass own = some m.cls) (pre : List ExceptionTableEntry) (x : ExceptionTableEntry) (suf : List ExceptionTableEntry) (hsplit : c.exceptionTable.toList = pre ++ x :: suf)
    (hpass : ∀ z ∈ pre, covers z pc = false ∨ (z.catchType ≠ 0 ∧ ∃ nm : String, (Cond.classLink own z.catchType nm).before args s = true ∧ va_Nc E nm s)) (hx : covers x pc = true) (h0 : x.catchType ≠ 0)
    (hlink : (Cond.classLink own x.catchType name).before args s = true) (hcast : (Cond.castable E name).before args s = true) (hcell : H[q]? = some ce) (hv : ce.vm = .none) (hcl : s.vm.findClass E = some ce.cls)
    (kk : W p l e R s m args below meth c H locs cells slots Q (F0 m x.handlerPc ls [.ref q])) : vx_W p l e R s m args below meth c H locs cells slots Q (F0 m pc ls rest) q := by
  intro T hT X
  have hpl : e.platform.magicAccessors = ({} : Platform).magicAccessors := by rw [X.admits.platform]
  obtain ⟨c3, c4, hc3, hc4, hasg⟩ := Cond.castable_spec hcast
  cases Option.some.inj (hc3.symm.trans hcl)
  obtain ⟨c5, hc5, hcl5⟩ := Cond.classLink_spec hown hlink e.platform hpl
  cases Option.some.inj (hc4.symm.trans hc5)
  obtain ⟨vm', X', st⟩ := X.thenCaughtThrough q (g := F0 m pc ls rest) rfl (Steps.refl _) (by rw [hT]; exact hcell) (by rw [hv]; rfl) (by obtain ⟨k9, h9, -⟩ := Vm.findClass_spec hcl; exact ⟨k9, h9⟩) pre x suf hsplit
    (fun z hz => by
      rcases hpass z hz with h | ⟨hz0, nm, hl1, hn1⟩
      · exact Or.inl h
      · obtain ⟨c6, hc6, hcl6⟩ := Cond.classLink_spec hown hl1 e.platform hpl
        obtain ⟨a8, b8, h1, h2, h3⟩ := hn1
        cases Option.some.inj (h1.symm.trans hcl)
        cases Option.some.inj (h2.symm.trans hc6)
        exact Or.inr ⟨hz0, _, hcl6, h3⟩) hx (Or.inr ⟨h0, c4, hcl5, hasg⟩)
  obtain ⟨t, a1, b1⟩ := kk (T.setVm vm') hT X'
  exact ⟨t, st.trans a1, b1⟩
end Rows
section Ends
variable {p : Program} {l : Launch} {e : Env} {R : Room} {s : State} {m : MethodId} {args : Array Value} {below : List Frame} {meth : Method} {c : Code} {H : Heap} {locs : List Loc} {cells slots : Nat} {Q : State → Prop}
variable {mc ms : Nat} {free : Addr → Prop} {A0 A1 : Nat → Prop} {H0 : Heap} {a : Array Value} {ls : Array Slot} {st0 rest : List Value}
variable {Qc : Array Value → State → Outcome → State → Prop} {XC : String → State → State → Prop}
/-- what a body that may throw owes at its end -/
def vx_MQ (below : List Frame) (Qc : Array Value → State → Outcome → State → Prop) (XC : String → State → State → Prop) (a : Array Value) (s : State) (mc ms : Nat) (free : Addr → Prop) : State → Prop := fun t =>
  ∃ o, t.status = .running ∧ Ended t below o ∧ vx_Q Qc XC mc ms free a s o t
theorem vx_ret {g : JFrame} {mc ms : Nat} (k : W p l e R s m args below meth c H locs cells slots (MQ below Qc args s mc ms free) g) : W p l e R s m args below meth c H locs cells slots (vx_MQ below Qc XC args s mc ms free) g := by
  intro T hT X
  obtain ⟨t, a1, o, b1, b2, b3, b4⟩ := k T hT X
  exact ⟨t, a1, o, b1, b2, Or.inl ⟨b3, b4⟩⟩
/-- not caught here: it goes on to the caller -/
theorem vx_widen {g : JFrame} {q : Addr} {k n : Nat} (h1 : cells ≤ k) (h2 : slots ≤ n) (kk : vx_W p l e R s m args below meth c H locs k n Q g q) : vx_W p l e R s m args below meth c H locs cells slots Q g q := fun T hT X => kk T hT (stand_widen X h1 h2)
theorem vx_out {pc : Nat} {E : String} {ce : Cell} {q : Addr} {mc ms : Nat} (hout : ∀ x ∈ c.exceptionTable.toList, covers x pc = false) (hlocks : meth.locks = false) (hcell : H[q]? = some ce) (hv : ce.vm = .none) (hcl : s.vm.findClass E = some ce.cls)
    (hx : ∀ t : State, t.heap = H → s.vm.Alike t.vm → XC E s t) (hf : ∀ z ∈ locs, free z.base) (hc : cells ≤ mc) (hs : slots ≤ ms) :
    vx_W p l e R s m args below meth c H locs cells slots (vx_MQ below Qc XC args s mc ms free) (F0 m pc ls rest) q := by
  intro T hT X
  obtain ⟨st1, hrun, hend, hW, hsm⟩ := X.leaveThrown q (g := F0 m pc ls rest) rfl rfl rfl hout hlocks
  have hcell9 : (T.setFrames (.throwing q :: below)).heap[q]? = some ce := by
    show T.heap[q]? = some ce
    rw [hT]; exact hcell
  exact ⟨_, st1, .threw q, hrun, hend, Or.inr ⟨q, rfl, E, ce, locs, hx _ hT hW.alike, hcell9, hv, hcl, hW, hsm.mono hc hs, hf⟩⟩
theorem vx_frame {U : State} {k n : Nat} (h : s.sameButNew ({ U with vm := s.vm } : State) locs k n) : s.heap.size ≤ U.heap.size ∧ ∀ q : Nat, q < s.heap.size → (∀ z ∈ locs, z.base ≠ q) → U.heap[q]? = s.heap[q]? := by
  obtain ⟨-, h2, -, -, -, h6⟩ := h
  refine ⟨h2, fun q hq hz => ?_⟩
  obtain ⟨c9, e1, e2, e3, e4⟩ := h6 q _ (Array.getElem?_eq_getElem hq)
  have hs : c9.slots = (s.heap[q]).slots := Array.ext_getElem? fun i => e4 i fun hm => hz _ hm rfl
  have h9 : c9 = s.heap[q] := by
    rw [hs] at e2
    exact e2
  have e5 : U.heap[q]? = some c9 := e1
  rw [e5, h9, Array.getElem?_eq_getElem hq]
/-- the words of a throw but the four that speak of the heap -/
def vx_no (w : Cond) : Bool := decide (w ≠ .isRef (.static Bundle.tN "UNASSIGNED_STACK" Bundle.steD)) && decide (w ≠ .isRef (.static Bundle.tN "SUPPRESSED_SENTINEL" Bundle.listD)) && decide (w ≠ .laysStatic Bundle.tN "UNASSIGNED_STACK" Bundle.steD) && decide (w ≠ .laysStatic Bundle.tN "SUPPRESSED_SENTINEL" Bundle.listD)
def vx_at0 (own : String) (ic : Nat) (X : String) (names : List String) : List Cond := (Bundle.ownAtoms0 own ic X names).filter vx_no
def vx_atS (own : String) (ic : Nat) (X : String) (names : List String) : List Cond := (Bundle.ownAtoms own ic X names).filter vx_no
/-- a word that the tables alone decide, or a good one -/
def vx_ot (w : Cond) : Bool := w.onTables || goodWord w
theorem vx_ot_at {args a' : Array Value} {s U : State} {w : Cond} (hW : s.WarmedH U.vm) (hvm : s.vm = U.vm) (hg : vx_ot w = true) (h : w.before args s = true) : w.before a' U = true := by
  simp only [vx_ot, Bool.or_eq_true] at hg
  rcases hg with hg | hg
  · exact va_tabs hg hvm h
  · exact word_at hW (good_of_word hg) h
/-- a list's words: the good ones out of the method's own list, the others by premises of their own -/
theorem vx_hat {args : Array Value} {s : State} {L B : List Cond} (h1 : ∀ w ∈ L.filter goodWord, w.before args s = true) (h2 : ∀ w ∈ L.filter (fun w => !goodWord w), w ∈ B) (h3 : ∀ w ∈ B, w.before args s = true) : ∀ w ∈ L, w.before args s = true := by
  intro w hw
  by_cases g : goodWord w = true
  · exact h1 w (List.mem_filter.mpr ⟨hw, g⟩)
  · refine h3 w (h2 w (List.mem_filter.mpr ⟨hw, ?_⟩))
    show (!goodWord w) = true
    cases hgw : goodWord w
    · rfl
    · exact absurd hgw g
theorem vx_c {args : Array Value} {s : State} {w : Cond} {B : List Cond} (h : w.before args s = true) (t : ∀ w ∈ B, w.before args s = true) : ∀ w' ∈ w :: B, w'.before args s = true := fun w' h' => (List.mem_cons.mp h').elim (fun e => by rw [e]; exact h) (t w')
theorem vx_n {args : Array Value} {s : State} : ∀ w ∈ ([] : List Cond), w.before args s = true := fun _ h => nomatch h
theorem vx_own {args : Array Value} {s : State} {L : List Cond} (h1 : ∀ w ∈ L.filter vx_no, w.before args s = true)
    (hU : (Cond.isRef (.static Bundle.tN "UNASSIGNED_STACK" Bundle.steD)).before args s = true) (hN : (Cond.isRef (.static Bundle.tN "SUPPRESSED_SENTINEL" Bundle.listD)).before args s = true)
    (lU : (Cond.laysStatic Bundle.tN "UNASSIGNED_STACK" Bundle.steD).before args s = true) (lN : (Cond.laysStatic Bundle.tN "SUPPRESSED_SENTINEL" Bundle.listD).before args s = true) : ∀ w ∈ L, w.before args s = true := by
  intro w hw
  by_cases e1 : w = .isRef (.static Bundle.tN "UNASSIGNED_STACK" Bundle.steD)
  · rw [e1]; exact hU
  · by_cases e2 : w = .isRef (.static Bundle.tN "SUPPRESSED_SENTINEL" Bundle.listD)
    · rw [e2]; exact hN
    · by_cases e3 : w = .laysStatic Bundle.tN "UNASSIGNED_STACK" Bundle.steD
      · rw [e3]; exact lU
      · by_cases e4 : w = .laysStatic Bundle.tN "SUPPRESSED_SENTINEL" Bundle.listD
        · rw [e4]; exact lN
        · exact h1 w (List.mem_filter.mpr ⟨hw, by unfold vx_no; rw [decide_eq_true e1, decide_eq_true e2, decide_eq_true e3, decide_eq_true e4]; rfl⟩)
/-- where a static field lies, its class's statics cell in H -/
def vx_L (C n d : String) (A : Nat → Prop) (U : State) (H : Heap) : Prop := ∃ (c : ClassId) (k : Class) (i : Nat) (f : Field) (a : Nat) (cell : Cell), U.vm.findClass C = some c ∧ U.fieldFound? C n d = some (c, k, i, f) ∧ f.isStatic = true ∧ k.statics = some a ∧ H[a]? = some cell ∧ cell.vm.isStatics = true ∧ cell.cls = c ∧ f.slot < cell.slots.size ∧ k.staticTypes[f.slot]? = some f.type ∧ ¬ A a
theorem vx_L.moved {C n d : String} {A : Nat → Prop} {u U : State} {H : Heap} (hvm : u.vm.Alike U.vm) (h : vx_L C n d A u H) : vx_L C n d A U H := by
  obtain ⟨c, k, i, f, a, cell, h1, h2, h3, h4, h5, h6, h7, h8, h9, h10⟩ := h
  obtain ⟨k', hi', he⟩ := State.fieldFound?_setVm hvm h2
  exact ⟨c, k', i, f, a, cell, by rw [hvm.findClass]; exact h1, hi', h3, by rw [he]; exact h4, h5, h6, h7, h8, by rw [he]; exact h9, h10⟩
theorem vx_L.kept {C n d : String} {A : Nat → Prop} {U : State} {H H1 : Heap} (h : vx_L C n d A U H) (hq : ∀ a : Nat, a < H.size → ¬ A a → H1[a]? = H[a]?) : vx_L C n d A U H1 := by
  obtain ⟨c, k, i, f, a, cell, h1, h2, h3, h4, h5, h6, h7, h8, h9, h10⟩ := h
  exact ⟨c, k, i, f, a, cell, h1, h2, h3, h4, by rw [hq a (Array.getElem?_eq_some_iff.mp h5).1 h10]; exact h5, h6, h7, h8, h9, h10⟩
theorem vx_L.narrow {C n d : String} {A B : Nat → Prop} {U : State} {H : Heap} (h : vx_L C n d A U H) (hAB : ∀ q, B q → A q) : vx_L C n d B U H := by
  obtain ⟨c, k, i, f, a, cell, h1, h2, h3, h4, h5, h6, h7, h8, h9, h10⟩ := h
  exact ⟨c, k, i, f, a, cell, h1, h2, h3, h4, h5, h6, h7, h8, h9, fun z => h10 (hAB _ z)⟩
theorem vx_L.word {C n d : String} {A : Nat → Prop} {s : State} {args : Array Value} (h : vx_L C n d A s s.heap) : (Cond.laysStatic C n d).before args s = true := by
  obtain ⟨c, k, i, f, a, cell, h1, h2, h3, h4, h5, h6, h7, h8, h9, -⟩ := h
  show (Cond.laysStatic C n d).holds args s none s [] = true
  exact Cond.laysStatic_of h1 h2 h3 h4 h5 h6 h7 h8 h9
/-- .. and what it holds: null or some reference -/
def vx_Zq (C n d : String) (A : Nat → Prop) (U : State) (H : Heap) : Prop := va_Zq C n d A U H ∧ vx_L C n d A U H
theorem vx_Zq.moved {C n d : String} {A : Nat → Prop} {u U : State} {H : Heap} (hvm : u.vm.Alike U.vm) (h : vx_Zq C n d A u H) : vx_Zq C n d A U H := ⟨va_Zq.moved hvm h.1, vx_L.moved hvm h.2⟩
theorem vx_Zq.kept {C n d : String} {A : Nat → Prop} {U : State} {H H1 : Heap} (h : vx_Zq C n d A U H) (hq : ∀ a : Nat, a < H.size → ¬ A a → H1[a]? = H[a]?) : vx_Zq C n d A U H1 := ⟨va_Zq.kept h.1 hq, vx_L.kept h.2 hq⟩
theorem vx_Zq.narrow {C n d : String} {A B : Nat → Prop} {U : State} {H : Heap} (h : vx_Zq C n d A U H) (hAB : ∀ q, B q → A q) : vx_Zq C n d B U H := ⟨va_Zq.narrow h.1 hAB, vx_L.narrow h.2 hAB⟩
theorem vx_Zqof {args : Array Value} {s : State} {C n d : String} {A : Nat → Prop} (hl : (Cond.laysStatic C n d).before args s = true) (hini : (Cond.initialized C).before args s = true) (h : (Cond.isRef (.static C n d)).before args s = true) (hA : ∀ a : Nat, a < s.heap.size → ¬ A a) : vx_Zq C n d A s s.heap := by
  refine ⟨va_Zqof hl hini h hA, ?_⟩
  obtain ⟨c, k, i, f, a, cell, h1, h2, h3, h4, h5, h6, h7, h8, h9⟩ := Cond.laysStatic_spec hl
  exact ⟨c, k, i, f, a, cell, h1, h2, h3, h4, h5, h6, h7, h8, h9, hA a (Array.getElem?_eq_some_iff.mp h5).1⟩
theorem vx_isRef {C n d : String} {v : Value} {A : Nat → Prop} {s : State} {args : Array Value} (h : va_Z C n d v A s s.heap) (hv : v.isRef = true) : (Cond.isRef (.static C n d)).before args s = true := by
  obtain ⟨cf, kf, fi, f, a, cell, h1, h2, h3, h4, h5, h6, h7, -⟩ := h
  have he : (Term.static C n d).eval args s none [] s = some v := by
    simp [Term.eval, State.fieldNamed?, h1, h2, h4, h5, h6, h7]
  simp only [Cond.before, Cond.holds, Cond.value, he]
  cases v <;> simp_all [Value.isRef]
theorem vx_isRefq {C n d : String} {A : Nat → Prop} {s : State} {args : Array Value} (h : va_Zq C n d A s s.heap) : (Cond.isRef (.static C n d)).before args s = true := by
  rcases h with h | ⟨t, h⟩
  · exact vx_isRef h rfl
  · exact vx_isRef h rfl
/-- the same frame, seen from here: as if the method were called anew in this heap -/
theorem vx_rebase {T : State} (X : Stand p l e R s m args below meth c T locs cells slots) {R' : Room} (hf : R'.frames ≤ R.frames) (hl : R'.locals ≤ R.locals) (hc : cells + R'.cells ≤ R.cells) (hs : slots + R'.slots ≤ R.slots) :
    Stand p l e R' ((T.setVm s.vm).setFrames (.invoking m args :: below)) m args below meth c T [] 0 0 := by
  have htop : (T.setVm s.vm).topJava?.isSome := X.here.top
  have hF : ((T.setVm s.vm).setFrames (.invoking m args :: below)).frames = .invoking m args :: below := State.frames_setFrames _ (State.cur_lt_of_top htop)
  obtain ⟨g₀, hg0⟩ := Option.isSome_iff_exists.mp htop
  obtain ⟨r, hr⟩ := State.topJava?_eq_some.mp hg0
  have hl9 : e.platform.stackLimits (T.setVm s.vm).me = e.platform.stackLimits s.me := X.limits
  have hb9 : (T.setVm s.vm).me.stackBytes = s.me.stackBytes := X.bytes
  refine ⟨X.admits, X.cas, X.clock, hF, ?_, X.hears, X.method, X.code, X.here, X.tail, X.warmed, ?_, ?_, ?_⟩
  · have h := X.room
    have hU : ((T.setVm s.vm).setFrames (.invoking m args :: below)).localsInUse = s.localsInUse := by
      rw [State.localsInUse_invoking hF (meth := meth) (c := c) X.method X.code, State.localsInUse_invoking X.frames X.method X.code]
    simp only [State.hasRoom, Bool.and_eq_true, decide_eq_true_eq] at h ⊢
    obtain ⟨⟨⟨⟨h1, h2, h3, h4, h5, h6⟩, h7⟩, h8⟩, h9⟩ := h
    rw [X.frames, List.length_cons] at h2 h3
    have q1 := X.heapSize
    have q2 := X.used
    simp only [hF, hU, List.length_cons, State.stackLimits_setFrames, State.stackBytes_setFrames, hl9, hb9]
    refine ⟨⟨⟨⟨by omega, by omega, by omega, by omega, by omega, h6⟩, ?_⟩, ?_⟩, X.book⟩
    · show T.heap.size + R'.cells ≤ e.platform.maxCells
      omega
    · show T.slotsUsed + R'.slots ≤ e.platform.maxSlots
      omega
  · rw [State.stackLimits_setFrames]; rfl
  · rw [State.stackBytes_setFrames]; rfl
  · refine ⟨?_, Nat.le_refl _, Nat.le_refl _, ?_, ?_, fun a c9 h9 => ⟨c9, h9, rfl, rfl, fun _ _ => rfl⟩⟩
    · obtain ⟨t, ht, -⟩ := State.frames_cons hr
      show T.setVm s.vm = { ((T.setVm s.vm).setFrames (.invoking m args :: below)).setFrames (T.setVm s.vm).frames with heap := T.heap, slotsUsed := T.slotsUsed }
      rw [State.setFrames_setFrames, State.setFrames_self ht]
      rfl
    · show T.slotsUsed = T.slotsUsed + ((T.heap.toList.drop T.heap.size).map (·.slots.size)).sum
      rw [List.drop_eq_nil_of_le (Nat.le_of_eq Array.length_toList)]
      rfl
    · show ((T.heap.toList.drop T.heap.size).map (·.slots.size)).sum ≤ 0
      rw [List.drop_eq_nil_of_le (Nat.le_of_eq Array.length_toList)]
      exact Nat.le_refl _
/-- 'throw new E()': new; dup; invokespecial; athrow -/
theorem vx_throw0 {cc : ByteArray} {pc : Nat} (hexec : p.tables.exec = Jvm.exec) (hb : c.code = cc) (hl : l.stackTraces = false) {own cls : String} {names : List String} {ik ic mc ms : Nat} {A : Nat → Prop}
    (hown : s.vm.findClass own = some m.cls) (hcls : Bundle.fit cls = true) (hnames : ∀ n ∈ names, Bundle.fit n = true)
    (hk : (Cond.classLink own ik cls).before args s = true) (hini : (Cond.initialized cls).before args s = true) (hat : ∀ w ∈ vx_at0 own ic cls names, w.before args s = true)
    (hgood : ∀ w ∈ Cond.classLink own ik cls :: Cond.initialized cls :: vx_at0 own ic cls names, vx_ot w = true)
    (hU : vx_Zq Bundle.tN "UNASSIGNED_STACK" Bundle.steD A s s.heap) (hN : vx_Zq Bundle.tN "SUPPRESSED_SENTINEL" Bundle.listD A s s.heap) (hS : va_S A s.heap H locs) (hsize : ls.size = c.maxLocals)
    (d0 : decode cc pc = .ok (.new ik, 3)) (d3 : decode cc (pc + 3) = .ok (.dup, 1)) (d4 : decode cc (pc + 4) = .ok (.invokespecial ic, 3)) (d7 : decode cc (pc + 7) = .ok (.athrow, 1))
    (hout : ∀ x ∈ c.exceptionTable.toList, covers x (pc + 7) = false)
    (hRframes : names.length + 3 < R.frames) (hRlocals : (rest.map fun v => v.category).sum + (13 * (names.length + 1) + 42) ≤ R.locals) (hRcells : cells + 1 ≤ R.cells) (hRslots : slots + 6 ≤ R.slots) (hlocks : meth.locks = false)
    (hx : ∀ t : State, s.vm.Alike t.vm → H.size ≤ t.heap.size → (∀ q : Nat, q < H.size → t.heap[q]? = H[q]?) → XC cls s t)
    (hf : ∀ z ∈ locs, free z.base) (hc : cells + 1 ≤ mc) (hs : slots + 6 ≤ ms) :
    W p l e R s m args below meth c H locs cells slots (vx_MQ below Qc XC args s mc ms free) (F0 m pc ls rest) := by
  intro T hT X
  have htr : e.platform.stackTraces = false := (show e.platform.stackTraces = l.stackTraces by rw [X.admits.platform]).trans hl
  have Y := vx_rebase X (R' := { frames := R.frames, locals := R.locals, cells := 1, slots := 6 }) (Nat.le_refl _) (Nat.le_refl _) hRcells hRslots
  obtain ⟨s', hA⟩ : ∃ z, z = (T.setVm s.vm).setFrames (.invoking m args :: below) := ⟨_, rfl⟩
  rw [← hA] at Y
  have hvm : s'.vm = s.vm := by rw [hA]; rfl
  have hhp : s'.heap = H := by rw [hA]; exact hT
  have hW0 : s.WarmedH s'.vm := by rw [hvm]; exact State.WarmedH.refl s
  have hat' : ∀ w ∈ vx_at0 own ic cls names, w.before args s' = true := fun w hw => vx_ot_at hW0 hvm.symm (hgood w (List.mem_cons_of_mem _ (List.mem_cons_of_mem _ hw))) (hat w hw)
  have hk' : (Cond.classLink own ik cls).before args s' = true := vx_ot_at hW0 hvm.symm (hgood _ List.mem_cons_self) hk
  have hini' : (Cond.initialized cls).before args s' = true := vx_ot_at hW0 hvm.symm (hgood _ (List.mem_cons_of_mem _ List.mem_cons_self)) hini
  have hU' : vx_Zq Bundle.tN "UNASSIGNED_STACK" Bundle.steD A s' s'.heap := by rw [hhp]; exact vx_Zq.moved hW0.alike (hU.kept hS.2.1)
  have hN' : vx_Zq Bundle.tN "SUPPRESSED_SENTINEL" Bundle.listD A s' s'.heap := by rw [hhp]; exact vx_Zq.moved hW0.alike (hN.kept hS.2.1)
  have h : ∀ w ∈ Bundle.ownAtoms0 own ic cls names, w.before args s' = true := vx_own hat' (vx_isRefq hU'.1) (vx_isRefq hN'.1) hU'.2.word hN'.2.word
  have hown' : s'.vm.findClass own = some m.cls := by rw [hvm]; exact hown
  have hins : (Cond.instantiable cls 6).before args s' = true := h _ (by simp [Bundle.ownAtoms0])
  obtain ⟨vm₁, cX, kX, hfX, hkX, -, -, X₁, st1⟩ := Y.newCold hexec (own := own) (C := cls) (index := ik) (n := 6) hown' hk' hins hini'
    (g := F0 m pc ls rest) rfl (by rw [hb]; exact d0) (Nat.le_refl _) (Nat.le_refl _)
  generalize hT1 : (T.setVm vm₁).pushCell { cls := cX, slots := kX.instanceTypes.map defaultValue, vm := .none } = T1 at X₁ st1
  have hcat : (Value.ref T.heap.size).category = 1 := rfl
  have hcellA : T1.heap[T.heap.size]? = some (freshCell cX kX) := by rw [← hT1]; exact State.heap_pushCell_size _ _
  have d3' : decode c.code (pc + 3) = .ok (.dup, 1) := by rw [hb]; exact d3
  obtain ⟨U, hsteps, hrun, hend, hW, hsame, ce, hce, hO⟩ := X₁.ctorThrow0 hexec htr (own := own) (cls := cls) (names := names) (ic := ic) hown' hcls hnames h (fun x hx => nomatch hx) hfX hkX hcellA (by rw [hhp, hT]; exact Nat.le_refl _)
    (g := { method := m, pc := pc + 4, locals := ls, stack := .ref T.heap.size :: .ref T.heap.size :: rest, locked := none }) rfl hsize rfl rfl (rest := rest) rfl
    (by rw [hb]; exact d4) (by rw [hb]; exact d7) hout hRframes (by simp only [List.map_cons, List.sum_cons, hcat]; omega) hlocks
  obtain ⟨f1, f2⟩ := vx_frame hsame
  rw [hhp] at f1 f2
  have hWs : s.WarmedH U.vm := State.WarmedH.trans hW0 hW
  have hcl : s.vm.findClass cls = some ce.cls := by
    have h9 := hO.cls
    rw [hvm] at h9
    exact h9
  have hall : s.sameButNew ({ U with vm := s.vm } : State) locs mc ms := by
    subst hA
    obtain ⟨e1, e2⟩ := hsame
    rw [State.setFrames_setFrames] at e1
    have h2 : (T.setVm s.vm).sameButNew ({ U with vm := s.vm } : State) [] (0 + 1) (0 + 6) := ⟨e1, e2⟩
    have h3 := X.same.trans h2
    rw [List.append_nil] at h3
    exact h3.mono hc hs
  refine ⟨U, ?_, .threw T.heap.size, hrun, hend, Or.inr ⟨T.heap.size, rfl, cls, ce, locs, hx U hWs.alike f1 (fun q hq => f2 q hq (fun z hz => nomatch hz)), hce, hO.vm, hcl, hWs, hall, hf⟩⟩
  refine st1 _ ?_
  show Steps p.tables e below (T1.setTop { method := m, pc := pc + 3, locals := ls, stack := .ref T.heap.size :: rest, locked := none }) _
  jvm_step X₁.here [X₁.here.top, hexec, d3', Value.category]
  exact hsteps
/-- 'throw new E("text")': new; dup; ldc; invokespecial; athrow -/
theorem vx_throwS {cc : ByteArray} {pc : Nat} (hexec : p.tables.exec = Jvm.exec) (hb : c.code = cc) (hl : l.stackTraces = false) {own cls text : String} {names : List String} {ik is ic mc ms sa : Nat} {A : Nat → Prop}
    (hown : s.vm.findClass own = some m.cls) (hcls : Bundle.fit cls = true) (hnames : ∀ n ∈ names, Bundle.fit n = true)
    (hk : (Cond.classLink own ik cls).before args s = true) (hini : (Cond.initialized cls).before args s = true) (hstr : vk_R own is text sa s) (hat : ∀ w ∈ vx_atS own ic cls names, w.before args s = true)
    (hgood : ∀ w ∈ Cond.classLink own ik cls :: Cond.initialized cls :: vx_atS own ic cls names, vx_ot w = true)
    (hU : vx_Zq Bundle.tN "UNASSIGNED_STACK" Bundle.steD A s s.heap) (hN : vx_Zq Bundle.tN "SUPPRESSED_SENTINEL" Bundle.listD A s s.heap) (hS : va_S A s.heap H locs) (hsize : ls.size = c.maxLocals)
    (d0 : decode cc pc = .ok (.new ik, 3)) (d3 : decode cc (pc + 3) = .ok (.dup, 1)) (d4 : decode cc (pc + 4) = .ok (.ldc is, 2)) (d6 : decode cc (pc + 6) = .ok (.invokespecial ic, 3)) (d9 : decode cc (pc + 9) = .ok (.athrow, 1))
    (hout : ∀ x ∈ c.exceptionTable.toList, covers x (pc + 9) = false)
    (hRframes : names.length + 3 < R.frames) (hRlocals : (rest.map fun v => v.category).sum + (13 * (names.length + 1) + 43) ≤ R.locals) (hRcells : cells + 1 ≤ R.cells) (hRslots : slots + 6 ≤ R.slots) (hlocks : meth.locks = false)
    (hx : ∀ t : State, s.vm.Alike t.vm → H.size ≤ t.heap.size → (∀ q : Nat, q < H.size → t.heap[q]? = H[q]?) → XC cls s t)
    (hf : ∀ z ∈ locs, free z.base) (hc : cells + 1 ≤ mc) (hs : slots + 6 ≤ ms) :
    W p l e R s m args below meth c H locs cells slots (vx_MQ below Qc XC args s mc ms free) (F0 m pc ls rest) := by
  intro T hT X
  have htr : e.platform.stackTraces = false := (show e.platform.stackTraces = l.stackTraces by rw [X.admits.platform]).trans hl
  have Y := vx_rebase X (R' := { frames := R.frames, locals := R.locals, cells := 1, slots := 6 }) (Nat.le_refl _) (Nat.le_refl _) hRcells hRslots
  obtain ⟨s', hA⟩ : ∃ z, z = (T.setVm s.vm).setFrames (.invoking m args :: below) := ⟨_, rfl⟩
  rw [← hA] at Y
  have hvm : s'.vm = s.vm := by rw [hA]; rfl
  have hhp : s'.heap = H := by rw [hA]; exact hT
  have hW0 : s.WarmedH s'.vm := by rw [hvm]; exact State.WarmedH.refl s
  have hat' : ∀ w ∈ vx_atS own ic cls names, w.before args s' = true := fun w hw => vx_ot_at hW0 hvm.symm (hgood w (List.mem_cons_of_mem _ (List.mem_cons_of_mem _ hw))) (hat w hw)
  have hk' : (Cond.classLink own ik cls).before args s' = true := vx_ot_at hW0 hvm.symm (hgood _ List.mem_cons_self) hk
  have hini' : (Cond.initialized cls).before args s' = true := vx_ot_at hW0 hvm.symm (hgood _ (List.mem_cons_of_mem _ List.mem_cons_self)) hini
  have hU' : vx_Zq Bundle.tN "UNASSIGNED_STACK" Bundle.steD A s' s'.heap := by rw [hhp]; exact vx_Zq.moved hW0.alike (hU.kept hS.2.1)
  have hN' : vx_Zq Bundle.tN "SUPPRESSED_SENTINEL" Bundle.listD A s' s'.heap := by rw [hhp]; exact vx_Zq.moved hW0.alike (hN.kept hS.2.1)
  have h : ∀ w ∈ Bundle.ownAtoms own ic cls names, w.before args s' = true := vx_own hat' (vx_isRefq hU'.1) (vx_isRefq hN'.1) hU'.2.word hN'.2.word
  have hown' : s'.vm.findClass own = some m.cls := by rw [hvm]; exact hown
  have hins : (Cond.instantiable cls 6).before args s' = true := h _ (by simp [Bundle.ownAtoms])
  obtain ⟨vm₁, cX, kX, hfX, hkX, -, -, X₁, st1⟩ := Y.newCold hexec (own := own) (C := cls) (index := ik) (n := 6) hown' hk' hins hini'
    (g := F0 m pc ls rest) rfl (by rw [hb]; exact d0) (Nat.le_refl _) (Nat.le_refl _)
  generalize hT1 : (T.setVm vm₁).pushCell { cls := cX, slots := kX.instanceTypes.map defaultValue, vm := .none } = T1 at X₁ st1
  have hcat : (Value.ref T.heap.size).category = 1 := rfl
  have hcellA : T1.heap[T.heap.size]? = some (freshCell cX kX) := by rw [← hT1]; exact State.heap_pushCell_size _ _
  have d3' : decode c.code (pc + 3) = .ok (.dup, 1) := by rw [hb]; exact d3
  have d4' : decode c.code (pc + 4) = .ok (.ldc is, 2) := by rw [hb]; exact d4
  have hstr' : vk_R own is text sa s' := vk_R.warm hW0 hstr
  obtain ⟨U, hsteps, hrun, hend, hW, hsame, ce, hce, hO⟩ := X₁.ctorThrowS hexec htr (own := own) (cls := cls) (names := names) (ic := ic) hown' hcls hnames h (fun x hx => nomatch hx) hfX hkX hcellA (by rw [hhp, hT]; exact Nat.le_refl _) (msg := .ref sa) rfl
    (g := { method := m, pc := pc + 6, locals := ls, stack := .ref sa :: .ref T.heap.size :: .ref T.heap.size :: rest, locked := none }) rfl hsize rfl rfl (rest := rest) rfl
    (by rw [hb]; exact d6) (by rw [hb]; exact d9) hout hRframes (by simp only [List.map_cons, List.sum_cons, hcat]; omega) hlocks
  obtain ⟨f1, f2⟩ := vx_frame hsame
  rw [hhp] at f1 f2
  have hWs : s.WarmedH U.vm := State.WarmedH.trans hW0 hW
  have hcl : s.vm.findClass cls = some ce.cls := by
    have h9 := hO.cls
    rw [hvm] at h9
    exact h9
  have hall : s.sameButNew ({ U with vm := s.vm } : State) locs mc ms := by
    subst hA
    obtain ⟨e1, e2⟩ := hsame
    rw [State.setFrames_setFrames] at e1
    have h2 : (T.setVm s.vm).sameButNew ({ U with vm := s.vm } : State) [] (0 + 1) (0 + 6) := ⟨e1, e2⟩
    have h3 := X.same.trans h2
    rw [List.append_nil] at h3
    exact h3.mono hc hs
  refine ⟨U, ?_, .threw T.heap.size, hrun, hend, Or.inr ⟨T.heap.size, rfl, cls, ce, locs, hx U hWs.alike f1 (fun q hq => f2 q hq (fun z hz => nomatch hz)), hce, hO.vm, hcl, hWs, hall, hf⟩⟩
  refine st1 _ ?_
  show Steps p.tables e below (T1.setTop { method := m, pc := pc + 3, locals := ls, stack := .ref T.heap.size :: rest, locked := none }) _
  jvm_step X₁.here [X₁.here.top, hexec, d3', Value.category]
  exact X₁.ldcString hexec (own := own) (text := text) (index := is) (a := sa) hown' hstr'.1 hstr'.2
    (g := { method := m, pc := pc + 4, locals := ls, stack := .ref T.heap.size :: .ref T.heap.size :: rest, locked := none }) rfl d4' _ hsteps
/-- 'throw new E("text")', the text by a wide index -/
theorem vx_throwSW {cc : ByteArray} {pc : Nat} (hexec : p.tables.exec = Jvm.exec) (hb : c.code = cc) (hl : l.stackTraces = false) {own cls text : String} {names : List String} {ik is ic mc ms sa : Nat} {A : Nat → Prop}
    (hown : s.vm.findClass own = some m.cls) (hcls : Bundle.fit cls = true) (hnames : ∀ n ∈ names, Bundle.fit n = true)
    (hk : (Cond.classLink own ik cls).before args s = true) (hini : (Cond.initialized cls).before args s = true) (hstr : vk_R own is text sa s) (hat : ∀ w ∈ vx_atS own ic cls names, w.before args s = true)
    (hgood : ∀ w ∈ Cond.classLink own ik cls :: Cond.initialized cls :: vx_atS own ic cls names, vx_ot w = true)
    (hU : vx_Zq Bundle.tN "UNASSIGNED_STACK" Bundle.steD A s s.heap) (hN : vx_Zq Bundle.tN "SUPPRESSED_SENTINEL" Bundle.listD A s s.heap) (hS : va_S A s.heap H locs) (hsize : ls.size = c.maxLocals)
    (d0 : decode cc pc = .ok (.new ik, 3)) (d3 : decode cc (pc + 3) = .ok (.dup, 1)) (d4 : decode cc (pc + 4) = .ok (.ldc_w is, 3)) (d7 : decode cc (pc + 7) = .ok (.invokespecial ic, 3)) (d10 : decode cc (pc + 10) = .ok (.athrow, 1))
    (hout : ∀ x ∈ c.exceptionTable.toList, covers x (pc + 10) = false)
    (hRframes : names.length + 3 < R.frames) (hRlocals : (rest.map fun v => v.category).sum + (13 * (names.length + 1) + 43) ≤ R.locals) (hRcells : cells + 1 ≤ R.cells) (hRslots : slots + 6 ≤ R.slots) (hlocks : meth.locks = false)
    (hx : ∀ t : State, s.vm.Alike t.vm → H.size ≤ t.heap.size → (∀ q : Nat, q < H.size → t.heap[q]? = H[q]?) → XC cls s t)
    (hf : ∀ z ∈ locs, free z.base) (hc : cells + 1 ≤ mc) (hs : slots + 6 ≤ ms) :
    W p l e R s m args below meth c H locs cells slots (vx_MQ below Qc XC args s mc ms free) (F0 m pc ls rest) := by
  intro T hT X
  have htr : e.platform.stackTraces = false := (show e.platform.stackTraces = l.stackTraces by rw [X.admits.platform]).trans hl
  have Y := vx_rebase X (R' := { frames := R.frames, locals := R.locals, cells := 1, slots := 6 }) (Nat.le_refl _) (Nat.le_refl _) hRcells hRslots
  obtain ⟨s', hA⟩ : ∃ z, z = (T.setVm s.vm).setFrames (.invoking m args :: below) := ⟨_, rfl⟩
  rw [← hA] at Y
  have hvm : s'.vm = s.vm := by rw [hA]; rfl
  have hhp : s'.heap = H := by rw [hA]; exact hT
  have hW0 : s.WarmedH s'.vm := by rw [hvm]; exact State.WarmedH.refl s
  have hat' : ∀ w ∈ vx_atS own ic cls names, w.before args s' = true := fun w hw => vx_ot_at hW0 hvm.symm (hgood w (List.mem_cons_of_mem _ (List.mem_cons_of_mem _ hw))) (hat w hw)
  have hk' : (Cond.classLink own ik cls).before args s' = true := vx_ot_at hW0 hvm.symm (hgood _ List.mem_cons_self) hk
  have hini' : (Cond.initialized cls).before args s' = true := vx_ot_at hW0 hvm.symm (hgood _ (List.mem_cons_of_mem _ List.mem_cons_self)) hini
  have hU' : vx_Zq Bundle.tN "UNASSIGNED_STACK" Bundle.steD A s' s'.heap := by rw [hhp]; exact vx_Zq.moved hW0.alike (hU.kept hS.2.1)
  have hN' : vx_Zq Bundle.tN "SUPPRESSED_SENTINEL" Bundle.listD A s' s'.heap := by rw [hhp]; exact vx_Zq.moved hW0.alike (hN.kept hS.2.1)
  have h : ∀ w ∈ Bundle.ownAtoms own ic cls names, w.before args s' = true := vx_own hat' (vx_isRefq hU'.1) (vx_isRefq hN'.1) hU'.2.word hN'.2.word
  have hown' : s'.vm.findClass own = some m.cls := by rw [hvm]; exact hown
  have hins : (Cond.instantiable cls 6).before args s' = true := h _ (by simp [Bundle.ownAtoms])
  obtain ⟨vm₁, cX, kX, hfX, hkX, -, -, X₁, st1⟩ := Y.newCold hexec (own := own) (C := cls) (index := ik) (n := 6) hown' hk' hins hini'
    (g := F0 m pc ls rest) rfl (by rw [hb]; exact d0) (Nat.le_refl _) (Nat.le_refl _)
  generalize hT1 : (T.setVm vm₁).pushCell { cls := cX, slots := kX.instanceTypes.map defaultValue, vm := .none } = T1 at X₁ st1
  have hcat : (Value.ref T.heap.size).category = 1 := rfl
  have hcellA : T1.heap[T.heap.size]? = some (freshCell cX kX) := by rw [← hT1]; exact State.heap_pushCell_size _ _
  have d3' : decode c.code (pc + 3) = .ok (.dup, 1) := by rw [hb]; exact d3
  have d4' : decode c.code (pc + 4) = .ok (.ldc_w is, 3) := by rw [hb]; exact d4
  have hstr' : vk_R own is text sa s' := vk_R.warm hW0 hstr
  obtain ⟨U, hsteps, hrun, hend, hW, hsame, ce, hce, hO⟩ := X₁.ctorThrowS hexec htr (own := own) (cls := cls) (names := names) (ic := ic) hown' hcls hnames h (fun x hx => nomatch hx) hfX hkX hcellA (by rw [hhp, hT]; exact Nat.le_refl _) (msg := .ref sa) rfl
    (g := { method := m, pc := pc + 7, locals := ls, stack := .ref sa :: .ref T.heap.size :: .ref T.heap.size :: rest, locked := none }) rfl hsize rfl rfl (rest := rest) rfl
    (by rw [hb]; exact d7) (by rw [hb]; exact d10) hout hRframes (by simp only [List.map_cons, List.sum_cons, hcat]; omega) hlocks
  obtain ⟨f1, f2⟩ := vx_frame hsame
  rw [hhp] at f1 f2
  have hWs : s.WarmedH U.vm := State.WarmedH.trans hW0 hW
  have hcl : s.vm.findClass cls = some ce.cls := by
    have h9 := hO.cls
    rw [hvm] at h9
    exact h9
  have hall : s.sameButNew ({ U with vm := s.vm } : State) locs mc ms := by
    subst hA
    obtain ⟨e1, e2⟩ := hsame
    rw [State.setFrames_setFrames] at e1
    have h2 : (T.setVm s.vm).sameButNew ({ U with vm := s.vm } : State) [] (0 + 1) (0 + 6) := ⟨e1, e2⟩
    have h3 := X.same.trans h2
    rw [List.append_nil] at h3
    exact h3.mono hc hs
  refine ⟨U, ?_, .threw T.heap.size, hrun, hend, Or.inr ⟨T.heap.size, rfl, cls, ce, locs, hx U hWs.alike f1 (fun q hq => f2 q hq (fun z hz => nomatch hz)), hce, hO.vm, hcl, hWs, hall, hf⟩⟩
  refine st1 _ ?_
  show Steps p.tables e below (T1.setTop { method := m, pc := pc + 3, locals := ls, stack := .ref T.heap.size :: rest, locked := none }) _
  jvm_step X₁.here [X₁.here.top, hexec, d3', Value.category]
  exact X₁.ldcStringW hexec (own := own) (text := text) (index := is) (a := sa) hown' hstr'.1 hstr'.2
    (g := { method := m, pc := pc + 4, locals := ls, stack := .ref T.heap.size :: .ref T.heap.size :: rest, locked := none }) rfl d4' _ hsteps
end Ends
section Bodies
variable {l : Launch}
theorem vx_ofW {y : MethodName} {ws ws' : List Cond} {rm : Room} {Pc : Array Value → State → Prop} {Qc : Array Value → State → Outcome → State → Prop} {XC : String → State → State → Prop} {mc ms : Nat} {free : Addr → Prop} {cc : ByteArray} {maxL : Nat} {ret : Option FieldType}
    (hy : plainName y.cls = true) (hw : ws = Cond.code y cc maxL ret :: ws')
    (body : ∀ p e s m args below meth c s₁, BodyLoose p l y (headSpec ws rm) cc maxL ret e s m args below meth c s₁ → c.maxLocals = maxL → (∀ x ∈ c.exceptionTable.toList, False) → Pc args s →
      W p l e (headSpec ws rm).room s m args below meth c s.heap [] 0 0 (vx_MQ below Qc XC args s mc ms free) (entryFrame m args maxL)) : vx_Met l y ws rm Pc Qc XC mc ms free := by
  refine MetFree.of_bodyS (code := cc) (maxLocals := maxL) (ret := ret) hy ?_ ?_
  · intro args s m h hn
    obtain ⟨meth, c, h1, h2, h3, h4, h5, h6, -, -⟩ := Cond.code_spec hn (atoms_spec (ws := ws) h _ (by rw [hw]; exact List.mem_cons_self))
    exact ⟨meth, c, h1, h2, h3, h4, h5, h6⟩
  · intro p e s m args below meth c s₁ B hml hP _
    have hh0 : s₁.heap = s.heap := by rw [B.state]; rfl
    have ht : ∀ x ∈ c.exceptionTable.toList, False := by
      obtain ⟨meth9, c9, h1, h2, -, -, -, -, h7, -⟩ := Cond.code_spec B.named (atoms_spec (ws := ws) B.pre _ (by rw [hw]; exact List.mem_cons_self))
      cases Option.some.inj (h1.symm.trans B.method)
      cases Option.some.inj (h2.symm.trans (Stand.of_body B).code)
      intro x hx
      rw [Array.isEmpty_iff.mp h7] at hx
      cases hx
    obtain ⟨t, a1, o, b1, b2, b3⟩ := body p e s m args below meth c s₁ B hml ht hP s₁ hh0 (Stand.of_body B)
    exact ⟨t, o, a1, b1, b2, b3⟩
/-- the table of a body with handlers -/
theorem vx_table {p : Program} {x y : MethodName} {S : Spec} {cc bytes : ByteArray} {maxL maxL' : Nat} {ret ret' : Option FieldType} {e : Env} {s s₁ : State} {m : MethodId} {args : Array Value} {below : List Frame} {meth : Method} {c : Code} {hh : List (Nat × Nat × Nat × Nat)}
    (B : BodyLoose p l y S cc maxL ret e s m args below meth c s₁) (h : (Cond.codeWith y bytes maxL' ret' hh).before args s = true) : c.exceptionTable.toList = tableOf hh := by
  obtain ⟨m9, meth9, c9, hn9, h1, h2, -, -, h6, -⟩ := Cond.codeWith_spec h
  cases Option.some.inj (hn9.symm.trans B.named)
  cases Option.some.inj (h1.symm.trans B.method)
  cases Option.some.inj (h2.symm.trans (Stand.of_body B).code)
  rw [← h6, table_eq]
end Bodies
end VXA
/-! ===== END ===== -/
/-! ===== BEGIN a static call of a method with an exception table ===== -/
section VXS
variable {p : Program} {l : Launch} {e : Env} {R : Room} {s : State} {m : MethodId} {args : Array Value} {below : List Frame} {meth : Method} {c : Code} {T : State} {H : Heap} {locs : List Loc} {cells slots : Nat}
abbrev vx_CSW (R : Room) (s : State) (args : Array Value) (own : String) (index : Nat) (y : MethodName) (bytes : ByteArray) (maxL : Nat) (ret : Option FieldType) (hh : List (Nat × Nat × Nat × Nat)) (ws : List Cond) (rm : Room) (mc ms n : Nat) : Prop :=
  (rm.cells = mc ∧ rm.slots = ms ∧ rm.frames + 1 ≤ R.frames ∧ 8 + (maxL + 11) + rm.locals ≤ R.locals ∧ (∀ w ∈ ws, ∀ (a' : Array Value) (U : State), s.WarmedH U.vm → w.before a' U = true) ∧ Cond.codeWith y bytes maxL ret hh ∈ ws) ∧
  (Cond.codeWith y bytes maxL ret hh).before args s = true ∧ (Cond.initialized y.cls).before args s = true ∧ (y.cls ≠ "java/lang/invoke/MethodHandle" ∧ y.cls ≠ "java/lang/invoke/VarHandle") ∧
  (∀ sig, parseMethodDescriptor y.desc = some sig → n = sig.parameters.length) ∧ (Cond.methodLink own index y).before args s = true ∧ (Cond.static y).before args s = true
theorem vx_cwSW {own : String} {index maxL mc ms : Nat} {y : MethodName} {bytes : ByteArray} {ret : Option FieldType} {hh : List (Nat × Nat × Nat × Nat)} {Ts ws ws' : List Cond} {rm : Room} (n : Nat) (ht : ∀ w ∈ Ts, w.before args s = true) (hT : GoodIn Ts (va_wsS own index y ws)) (hw : ws = Cond.codeWith y bytes maxL ret hh :: ws') (hrc : rm.cells = mc) (hrs : rm.slots = ms)
    (hd : y.cls ≠ "java/lang/invoke/MethodHandle" ∧ y.cls ≠ "java/lang/invoke/VarHandle" ∧ (parseMethodDescriptor y.desc).map (fun d => d.parameters.length) = some n) (hR : rm.frames + 1 ≤ R.frames ∧ 8 + (maxL + 11) + rm.locals ≤ R.locals) :
    vx_CSW R s args own index y bytes maxL ret hh ws rm mc ms n := by
  have ok : ∀ w ∈ va_wsS own index y ws, w.before args s = true := fun w h => ht w (hT w h).1
  have hG : GoodIn Ts ws := fun w h => hT w (by unfold va_wsS; exact List.mem_append_right _ h)
  have hc : Cond.codeWith y bytes maxL ret hh ∈ ws := by rw [hw]; exact List.mem_cons_self
  refine ⟨⟨hrc, hrs, hR.1, hR.2, pay_in ht hG, hc⟩, ht _ (hG _ hc).1, ok _ (by simp [va_wsS]), ⟨hd.1, hd.2.1⟩, fun sig h => ?_, ok _ (by simp [va_wsS]), ok _ (by simp [va_wsS])⟩
  have h2 := hd.2.2
  rw [h] at h2
  exact (Option.some.inj h2).symm
theorem vx_callSW (X : Stand p l e R s m args below meth c T locs cells slots) (hexec : p.tables.exec = Jvm.exec) {own : String} {index : Nat} {y : MethodName} {bytes : ByteArray} {maxL : Nat} {ret : Option FieldType} {hh : List (Nat × Nat × Nat × Nat)}
    (hown : s.vm.findClass own = some m.cls) (hlink : (Cond.methodLink own index y).before args s = true) (hstat : (Cond.static y).before args s = true) (hinit : (Cond.initialized y.cls).before args s = true)
    (hcode : (Cond.codeWith y bytes maxL ret hh).before args s = true) (hy : y.cls ≠ "java/lang/invoke/MethodHandle" ∧ y.cls ≠ "java/lang/invoke/VarHandle")
    {W9 : Nat} {Pre : Pt → Array Value → Prop} {Post : Pt → Array Value → Option Value → Pt → Prop} (hK : Back l R p e below s args y 3 W9 Pre Post)
    {g : JFrame} (hg : g.method = m) (hsize : g.locals.size = c.maxLocals) {argsL rest : List Value} (hlen : ∀ sig, parseMethodDescriptor y.desc = some sig → argsL.length = sig.parameters.length)
    (hstack : g.stack = argsL.reverse ++ rest) (hW : 2 * g.monitorRoom + (rest.map fun v => v.category).sum ≤ W9) (hdg : decode c.code g.pc = .ok (.invokestatic index, 3))
    (hpre : ∀ vm₁, s.WarmedH vm₁ → Pre ⟨T.setVm vm₁, locs, cells, slots⟩ argsL.toArray) :
    ∃ (v : Option Value) (vm₁ : Vm) (B : Pt), s.WarmedH vm₁ ∧ Stand p l e R s m args below meth c B.U B.locs B.cells B.slots ∧ Post ⟨T.setVm vm₁, locs, cells, slots⟩ argsL.toArray v B ∧
      ∀ target, Steps p.tables e below (B.U.setTop { g with pc := g.pc + 3, stack := v.toList ++ rest }) target → Steps p.tables e below (T.setTop g) target := by
  obtain ⟨mk, methM, cM, hnamed, hmethM, -, -, -, -, -, -, hsigM⟩ := Cond.codeWith_spec hcode
  have hstatic : methM.isStatic = true := Cond.static_spec hnamed hmethM hstat
  obtain ⟨kP, hkP, -⟩ := className_of_methodNamed hnamed
  have hinitP : kP.init = .initialized := Cond.initialized_spec (findClass_of_methodNamed hnamed) hkP hinit
  obtain ⟨vm₁, X₁, hstep₁⟩ := X.invokestatic hexec hown hlink hnamed hmethM hstatic hkP hinitP hy (g := g) hg (argsL := argsL) (rest := rest) (hlen _ hsigM) hstack hdg
  obtain ⟨v, B, X', hpost, hsteps⟩ := hK m meth c ⟨T.setVm vm₁, locs, cells, slots⟩ { g with stack := rest } (.invokestatic index) mk argsL.toArray X₁ hg hsize hdg hW (X₁.named hnamed) (hpre vm₁ X₁.warmed)
  exact ⟨v, vm₁, B, X₁.warmed, X', hpost, fun target h => hstep₁ _ fun acts => by rw [doInvoke_state]; exact hsteps.trans h⟩
theorem vx_runSW {y : MethodName} {bytes cc : ByteArray} {maxL nL mc ms n index : Nat} {ret : Option FieldType} {hh : List (Nat × Nat × Nat × Nat)} {ws : List Cond} {rm : Room} {Pc : Array Value → State → Prop} {Qc : Array Value → State → Outcome → State → Prop} {free : Addr → Prop} {Ts : List Cond} {own : String} {As rest : List Value} {g : JFrame}
    (S : CallFix p m c cc nL s args Ts own) (hM : Met l y ws rm Pc Qc mc ms free) (cw : vx_CSW R s args own index y bytes maxL ret hh ws rm mc ms n) (hp : PreS s H Pc As)
    (hg : g.method = m) (hn : As.length = n) (hsize : g.locals.size = nL) (hstack : g.stack = As.reverse ++ rest) (hW : 2 * g.monitorRoom + (rest.map fun v => v.category).sum ≤ 8) (hdg : decode cc g.pc = .ok (.invokestatic index, 3)) (hf : cells + mc ≤ R.cells ∧ slots + ms ≤ R.slots) :
    va_Run p l e R s m args below meth c H locs cells slots mc ms g rest (Qc As.toArray) (free) := by
  obtain ⟨⟨hrc, hrs, hfr, hlo, hws, hcw⟩, hcode, hini, hy, hlen, hl, hstt⟩ := cw
  have hK : Back l R p e below s args y 3 8 (PreOf R mc ms Pc) (PostOf Qc mc ms free) := va_backW (hh := hh) (bytes := bytes) (maxL := maxL) (ret := ret) hM hp.1 hrc hrs hfr hlo hws hcw (fun a' U hW => word_at hW (Or.inl (by first | rfl | simp [Cond.onTables, Cond.keeps, Cond.steady])) hini)
  obtain ⟨hx, hb, hml, ho, -⟩ := S
  intro T hT X
  obtain ⟨v, vm₁, ⟨U', l2, c2, s2⟩, hW₁, X', ⟨g', mk, t, L, e1, e2, hq, h1, hL, h2, h3⟩, st⟩ := vx_callSW X hx (hh := hh) (bytes := bytes) (maxL := maxL) (ret := ret) ho hl hstt hini hcode hy hK hg (hsize.trans hml.symm) (argsL := As) (rest := rest) (fun sig h => hn.trans (hlen sig h)) hstack hW (by rw [hb]; exact hdg)
    (fun vm₁ hW₁ => ⟨hf.1, hf.2, hp.2 (T.setVm vm₁) hT hW₁⟩)
  dsimp only [Pt.U, Pt.locs, Pt.cells, Pt.slots] at X' e1 e2 h1 h2 h3 st
  subst h1; subst h2; subst h3
  exact ⟨v, (T.setVm vm₁).calling g' mk As.toArray, t, U', L, hT, X', hL, e1, e2, hq, st⟩
/-- not caught here, past rows that name other classes: it goes on to the caller -/
theorem vx_outP {p : Program} {l : Launch} {e : Env} {R : Room} {s : State} {m : MethodId} {args : Array Value} {below : List Frame} {meth : Method} {c : Code} {H : Heap} {locs : List Loc} {cells slots : Nat} {free : Addr → Prop} {ls : Array Slot} {rest : List Value} {Qc : Array Value → State → Outcome → State → Prop} {XC : String → State → State → Prop}
    {pc : Nat} {own E : String} {ce : Cell} {q : Addr} {mc ms : Nat} (hown : s.vm.findClass own = some m.cls) (hlocks : meth.locks = false)
    (hpass : ∀ z ∈ c.exceptionTable.toList, covers z pc = false ∨ (z.catchType ≠ 0 ∧ ∃ nm : String, (Cond.classLink own z.catchType nm).before args s = true ∧ va_Nc E nm s)) (hcell : H[q]? = some ce) (hv : ce.vm = .none) (hcl : s.vm.findClass E = some ce.cls)
    (hx : ∀ t : State, t.heap = H → s.vm.Alike t.vm → XC E s t) (hf : ∀ z ∈ locs, free z.base) (hc : cells ≤ mc) (hs : slots ≤ ms) :
    vx_W p l e R s m args below meth c H locs cells slots (vx_MQ below Qc XC args s mc ms free) (F0 m pc ls rest) q := by
  intro T hT X
  have hpl : e.platform.magicAccessors = ({} : Platform).magicAccessors := by rw [X.admits.platform]
  obtain ⟨vm', hW', X', st⟩ := X.outThrough hlocks q (g := F0 m pc ls rest) rfl rfl rfl (cell := ce) (by rw [hT]; exact hcell) (by rw [hv]; rfl)
    (by obtain ⟨k9, h9, -⟩ := Vm.findClass_spec hcl; exact ⟨k9, h9⟩) (fun z hz => by
      rcases hpass z hz with h | ⟨hz0, nm, hl1, hn1⟩
      · exact Or.inl h
      · obtain ⟨c6, hc6, hcl6⟩ := Cond.classLink_spec hown hl1 e.platform hpl
        obtain ⟨a8, b8, h1, h2, h3⟩ := hn1
        cases Option.some.inj (h1.symm.trans hcl)
        cases Option.some.inj (h2.symm.trans hc6)
        exact Or.inr ⟨hz0, _, hcl6, h3⟩)
  obtain ⟨g₀, hfr⟩ := X'.frames_eq
  have hcell9 : ((T.setVm vm').setFrames (.throwing q :: below)).heap[q]? = some ce := by
    show T.heap[q]? = some ce
    rw [hT]; exact hcell
  have hend : Ended ((T.setVm vm').setFrames (.throwing q :: below)) below (.threw q) := State.frames_setFrames _ (State.cur_lt_of_frames hfr)
  refine ⟨(T.setVm vm').setFrames (.throwing q :: below), ?_, .threw q, X'.here.running, hend, Or.inr ⟨q, rfl, E, ce, locs, hx _ hT (X'.ends _).1.alike, hcell9, hv, hcl, (X'.ends _).1, (X'.ends _).2.mono hc hs, hf⟩⟩
  rw [X.pushThrowing_eq]
  exact st
/-- a thing of a world lies in the heap -/
theorem vx_lt {D : va_G} {cl : List vw_C} {ws : va_W} {H1 : Heap} (h : va_P D cl ws H1) {k : Nat} {q : Nat × va_E} (hk : ws[k]? = some q) : q.1 < H1.size := (h k q hk).lt
end VXS
/-! ===== END ===== -/
/-! ===== BEGIN methods with a table of their own: called by a name, returning or throwing ===== -/
section VXH
/-! vx_backW, vx_callVX, vx_callSX, vx_callVW, vx_runVW, vx_runVX, vx_runSX, vx_ofWH follow the same proofs as their sisters above (Free/Laws.lean, Shelf42/LK1.lean); vx_outP calls Shelf42/NT130.lean (outThrough). -/
section
variable {l : Launch} {R : Room} {p : Program} {e : Env} {below : List Frame} {s : State} {sargs : Array Value} {y : MethodName} {len W9 : Nat}
theorem vx_backW {ws : List Cond} {rm : Room} {Pc : Array Value → State → Prop} {Qc : Array Value → State → Outcome → State → Prop} {XC : String → State → State → Prop} {mc ms : Nat} {free : Addr → Prop} {bytes : ByteArray} {maxL : Nat} {ret : Option FieldType} {hh : List (Nat × Nat × Nat × Nat)}
    (hM : vx_Met l y ws rm Pc Qc XC mc ms free) (hblind : FrameBlind Pc) (hrc : rm.cells = mc) (hrs : rm.slots = ms)
    (hframes : rm.frames + 1 ≤ R.frames) (hlocals : W9 + (maxL + 11) + rm.locals ≤ R.locals)
    (hws : ∀ w ∈ ws, ∀ a' U, s.WarmedH U.vm → w.before a' U = true) (hcode : Cond.codeWith y bytes maxL ret hh ∈ ws) (hinit : ∀ a' U, s.WarmedH U.vm → (Cond.initialized y.cls).before a' U = true) :
    vx_Back l R p e below s sargs y len W9 (PreOf R mc ms Pc) (PostOf Qc mc ms free) (vx_Post XC mc ms free) := by
  intro m meth c A g ig mk a X hg hsize hdg hW hn hp
  have h1 : (headSpec ws rm).pre.before a A.U = true := atoms_intro fun w hw => hws w hw _ _ X.warmed
  have h2 : (Cond.codeWith y bytes maxL ret hh).before a A.U = true := hws _ hcode _ _ X.warmed
  have h3 : (Cond.initialized y.cls).before a A.U = true := hinit _ _ X.warmed
  have h4 : A.cells + (headSpec ws rm).room.cells ≤ R.cells := by rw [show (headSpec ws rm).room.cells = mc from hrc]; exact hp.1
  have h5 : A.slots + (headSpec ws rm).room.slots ≤ R.slots := by rw [show (headSpec ws rm).room.slots = ms from hrs]; exact hp.2.1
  have hPc : Pc a (A.U.calling g mk a) := hblind _ _ _ _ hp.2.2
  obtain ⟨U, Ls, c0, s0⟩ := A
  dsimp only [Pt.U, Pt.locs, Pt.cells, Pt.slots] at h1 h2 h3 h4 h5 X hn hPc ⊢
  obtain ⟨m9, methY, cY, hn9, hmY, hcY, -, hlY, -⟩ := Cond.codeWith_spec h2
  cases Option.some.inj (hn9.symm.trans hn)
  obtain ⟨kY, hkY, -⟩ := className_of_methodNamed hn
  have hinitY : kY.init = .initialized := Cond.initialized_spec (findClass_of_methodNamed hn) hkY h3
  have h : At U g.method c below := by rw [hg]; exact X.here
  have hlocals9 : W9 + (maxL + 11) + (headSpec ws rm).room.locals ≤ R.locals := hlocals
  have happ : (headSpec ws rm).appliesLoose y e.platform (U.calling g mk a) = true :=
    Spec.appliesLoose_calling (g := g) h hdg hn hkY hinitY
      (X.room_calling (g := g) (R' := (headSpec ws rm).room) hsize hmY hcY hframes (by rw [hlY]; omega) h4 h5) h1
  obtain ⟨mid, hmid⟩ := h.above
  have hfr : (U.setTop g).frames = (.java g :: mid) ++ below := by rw [State.frames_setTop' g h.top, hmid]; rfl
  obtain ⟨o, s₂, hsteps, -, hend, hq⟩ := Steps.callFree hM p X.admits X.cas X.clock (acts := []) hfr happ hPc trivial
  have hq' : vx_Q Qc XC mc ms free a (U.calling g mk a) o s₂ := hq
  rw [State.frames_setTop' g h.top] at hend
  obtain ⟨g₀, hg0⟩ := Option.isSome_iff_exists.mp h.top
  obtain ⟨r, hr⟩ := State.topJava?_eq_some.mp hg0
  have hr' : (({ U with heap := s₂.heap, slotsUsed := s₂.slotsUsed } : State).setVm s₂.vm).frames = .java g₀ :: r := hr
  rcases hq' with ⟨hqc, L, hfe, hL⟩ | ⟨q, rfl, E, ce, L, hx, hce, hcv, hcl, hW₂, hsm, hL⟩
  · obtain ⟨⟨v, rfl⟩, hW₂, e2, q2, q3, q4, q5, q6⟩ := id hfe
    have e3 : s₂ = ({ (U.calling g mk a).setFrames s₂.frames with heap := s₂.heap, slotsUsed := s₂.slotsUsed } : State).setVm s₂.vm := by
      have : s₂ = ({ s₂ with vm := (U.calling g mk a).vm } : State).setVm s₂.vm := rfl
      rw [e2] at this
      exact this
    obtain ⟨c₂, i₂, len₂, hc₂, hd₂, hf₂⟩ := hend
    have hW' : U.WarmedH s₂.vm := hW₂
    have hcc : c₂ = c := by
      have h1 : s₂.code? g.method = U.code? g.method := by
        rw [State.code?_eq, State.code?_eq, hW'.alike.method?]
      exact Option.some.inj (hc₂.symm.trans (h1.trans h.code))
    subst hcc
    have hlen : len₂ = len := by rw [hdg] at hd₂; cases hd₂; rfl
    subst hlen
    have hs₂ : s₂ = (({ U with heap := s₂.heap, slotsUsed := s₂.slotsUsed } : State).setVm s₂.vm).setTop { g with pc := g.pc + len₂, stack := v.toList ++ g.stack } := by
      refine e3.trans ?_
      rw [hf₂, State.calling_eq h.top, State.setFrames_setFrames, State.setTop_of_frames _ hr', hr]
      rfl
    have hsame : U.sameButNew ({ U with heap := s₂.heap, slotsUsed := s₂.slotsUsed } : State) L mc ms := by
      refine ⟨?_, q2, q3, q4, q5, q6⟩
      obtain ⟨t, ht, -⟩ := State.frames_cons hr
      show ({ U with heap := s₂.heap, slotsUsed := s₂.slotsUsed } : State) = { U.setFrames U.frames with heap := s₂.heap, slotsUsed := s₂.slotsUsed }
      rw [State.setFrames_self ht]
    subst hg
    refine Or.inl ⟨v, ⟨(({ U with heap := s₂.heap, slotsUsed := s₂.slotsUsed } : State).setVm s₂.vm), Ls ++ L, c0 + mc, s0 + ms⟩,
      ⟨X.admits, X.cas, X.clock, X.frames, X.room, X.hears, X.method, X.code, (X.here.setHeapUsed s₂.heap s₂.slotsUsed).setVm hW'.alike, X.tail, State.WarmedH.trans X.warmed hW', X.limits, X.bytes, X.same.trans (hsame.setVm s.vm)⟩,
      ⟨g, mk, s₂, L, rfl, rfl, hqc, rfl, hL, rfl, rfl⟩, ?_⟩
    show Steps p.tables e below _ ((({ U with heap := s₂.heap, slotsUsed := s₂.slotsUsed } : State).setVm s₂.vm).setTop { g with pc := g.pc + len₂, stack := v.toList ++ g.stack })
    rw [← hs₂]
    exact hsteps
  · obtain ⟨e2, q2, q3, q4, q5, q6⟩ := id hsm
    have e3 : s₂ = ({ (U.calling g mk a).setFrames s₂.frames with heap := s₂.heap, slotsUsed := s₂.slotsUsed } : State).setVm s₂.vm := by
      have : s₂ = ({ s₂ with vm := (U.calling g mk a).vm } : State).setVm s₂.vm := rfl
      rw [e2] at this
      exact this
    have hf₂ : s₂.frames = .throwing q :: .java g :: U.frames.tail := hend
    have hW' : U.WarmedH s₂.vm := hW₂
    have hs₂ : s₂ = ((({ U with heap := s₂.heap, slotsUsed := s₂.slotsUsed } : State).setVm s₂.vm).setTop g).pushFrame (.throwing q) := by
      refine e3.trans ?_
      rw [hf₂, State.calling_eq h.top, State.setFrames_setFrames, State.pushFrame, State.frames_setTop _ hr', State.setTop_of_frames _ hr', State.setFrames_setFrames, hr]
      rfl
    have hsame : U.sameButNew ({ U with heap := s₂.heap, slotsUsed := s₂.slotsUsed } : State) L mc ms := by
      refine ⟨?_, q2, q3, q4, q5, q6⟩
      obtain ⟨t, ht, -⟩ := State.frames_cons hr
      show ({ U with heap := s₂.heap, slotsUsed := s₂.slotsUsed } : State) = { U.setFrames U.frames with heap := s₂.heap, slotsUsed := s₂.slotsUsed }
      rw [State.setFrames_self ht]
    subst hg
    refine Or.inr ⟨q, ⟨(({ U with heap := s₂.heap, slotsUsed := s₂.slotsUsed } : State).setVm s₂.vm), Ls ++ L, c0 + mc, s0 + ms⟩,
      ⟨X.admits, X.cas, X.clock, X.frames, X.room, X.hears, X.method, X.code, (X.here.setHeapUsed s₂.heap s₂.slotsUsed).setVm hW'.alike, X.tail, State.WarmedH.trans X.warmed hW', X.limits, X.bytes, X.same.trans (hsame.setVm s.vm)⟩,
      ⟨g, mk, s₂, L, E, ce, rfl, rfl, hx, hce, hcv, hcl, rfl, hL, rfl, rfl⟩, ?_⟩
    show Steps p.tables e below _ (((({ U with heap := s₂.heap, slotsUsed := s₂.slotsUsed } : State).setVm s₂.vm).setTop g).pushFrame (.throwing q))
    rw [← hs₂]
    exact hsteps
end
variable {p : Program} {l : Launch} {e : Env} {R : Room} {s : State} {m : MethodId} {args : Array Value} {below : List Frame} {meth : Method} {c : Code} {T : State} {H : Heap} {locs : List Loc} {cells slots : Nat}
theorem vx_callVX (X : Stand p l e R s m args below meth c T locs cells slots) (hexec : p.tables.exec = Jvm.exec) {own C : String} {index : Nat} {y : MethodName} {bytes : ByteArray} {maxL : Nat} {ret : Option FieldType} {hh : List (Nat × Nat × Nat × Nat)}
    (hown : s.vm.findClass own = some m.cls) (hlink : (Cond.methodLink own index y).before args s = true) (hinst : (Cond.instanceMethod y).before args s = true) (hsel : (Cond.selects C y y).before args s = true)
    (hcode : (Cond.codeWith y bytes maxL ret hh).before args s = true) (hy : y.cls ≠ "java/lang/invoke/MethodHandle" ∧ y.cls ≠ "java/lang/invoke/VarHandle")
    {W9 : Nat} {Pre : Pt → Array Value → Prop} {Post : Pt → Array Value → Option Value → Pt → Prop} {PostX : Pt → Array Value → Addr → Pt → Prop} (hK : vx_Back l R p e below s args y 3 W9 Pre Post PostX)
    {b : Addr} {cellB : Cell} (hcell : T.heap[b]? = some cellB) (hobj : cellB.vm.isStatics = false) (hcls : s.vm.findClass C = some cellB.cls)
    {g : JFrame} (hg : g.method = m) (hsize : g.locals.size = c.maxLocals) {argsL rest : List Value} (hlen : ∀ sig, parseMethodDescriptor y.desc = some sig → argsL.length = sig.parameters.length)
    (hstack : g.stack = argsL.reverse ++ .ref b :: rest) (hW : 2 * g.monitorRoom + (rest.map fun v => v.category).sum ≤ W9) (hdg : decode c.code g.pc = .ok (.invokevirtual index, 3))
    (hpre : ∀ vm₁, s.WarmedH vm₁ → Pre ⟨T.setVm vm₁, locs, cells, slots⟩ (Value.ref b :: argsL).toArray) :
    (∃ (v : Option Value) (vm₁ : Vm) (B : Pt), s.WarmedH vm₁ ∧ Stand p l e R s m args below meth c B.U B.locs B.cells B.slots ∧ Post ⟨T.setVm vm₁, locs, cells, slots⟩ (Value.ref b :: argsL).toArray v B ∧
      ∀ target, Steps p.tables e below (B.U.setTop { g with pc := g.pc + 3, stack := v.toList ++ rest }) target → Steps p.tables e below (T.setTop g) target) ∨
    (∃ (q : Addr) (vm₁ : Vm) (B : Pt), s.WarmedH vm₁ ∧ Stand p l e R s m args below meth c B.U B.locs B.cells B.slots ∧ PostX ⟨T.setVm vm₁, locs, cells, slots⟩ (Value.ref b :: argsL).toArray q B ∧
      Steps p.tables e below (T.setTop g) ((B.U.setTop { g with stack := rest }).pushFrame (.throwing q))) := by
  obtain ⟨mk, methM, hnamed, hmethM, hstM, habM⟩ := Cond.instanceMethod_spec hinst
  obtain ⟨m8, methM', cM, hn8, hmethM', -, -, -, -, -, -, hsigM⟩ := Cond.codeWith_spec hcode
  cases Option.some.inj (hn8.symm.trans hnamed)
  cases hmethM.symm.trans hmethM'
  obtain ⟨c2, r2, m2, q1, q2, q3, q4, kP, hkP, hkPi⟩ := Cond.selects_spec hsel
  cases hcls.symm.trans q1
  cases (State.methodFound?_of_named hnamed hy).symm.trans q2
  cases hnamed.symm.trans q3
  have hselP : selectMethod e.platform s.vm cellB.cls mk = .method mk := by rw [Launch.admits_selectMethod X.admits]; exact q4
  obtain ⟨vm₁, X₁, hstep₁⟩ := X.invokevirtual hexec hown hlink hnamed hmethM hstM hkP hkPi hy (a := b) (cell := cellB) hcell
    (fun z h => by rw [h] at hobj; cases hobj) hselP hmethM habM hkP hkPi (g := g) hg (argsL := argsL) (rest := rest) (hlen _ hsigM) hstack hdg
  rcases hK m meth c ⟨T.setVm vm₁, locs, cells, slots⟩ { g with stack := rest } (.invokevirtual index) mk (Value.ref b :: argsL).toArray X₁ hg hsize hdg hW (X₁.named hnamed) (hpre vm₁ X₁.warmed) with ⟨v, B, X', hpost, hsteps⟩ | ⟨q, B, X', hpost, hsteps⟩
  · exact Or.inl ⟨v, vm₁, B, X₁.warmed, X', hpost, fun target h => hstep₁ _ fun acts => by rw [doInvoke_state]; exact hsteps.trans h⟩
  · exact Or.inr ⟨q, vm₁, B, X₁.warmed, X', hpost, hstep₁ _ fun acts => by rw [doInvoke_state]; exact hsteps⟩
theorem vx_callSX (X : Stand p l e R s m args below meth c T locs cells slots) (hexec : p.tables.exec = Jvm.exec) {own : String} {index : Nat} {y : MethodName} {bytes : ByteArray} {maxL : Nat} {ret : Option FieldType} {hh : List (Nat × Nat × Nat × Nat)}
    (hown : s.vm.findClass own = some m.cls) (hlink : (Cond.methodLink own index y).before args s = true) (hstat : (Cond.static y).before args s = true) (hinit : (Cond.initialized y.cls).before args s = true)
    (hcode : (Cond.codeWith y bytes maxL ret hh).before args s = true) (hy : y.cls ≠ "java/lang/invoke/MethodHandle" ∧ y.cls ≠ "java/lang/invoke/VarHandle")
    {W9 : Nat} {Pre : Pt → Array Value → Prop} {Post : Pt → Array Value → Option Value → Pt → Prop} {PostX : Pt → Array Value → Addr → Pt → Prop} (hK : vx_Back l R p e below s args y 3 W9 Pre Post PostX)
    {g : JFrame} (hg : g.method = m) (hsize : g.locals.size = c.maxLocals) {argsL rest : List Value} (hlen : ∀ sig, parseMethodDescriptor y.desc = some sig → argsL.length = sig.parameters.length)
    (hstack : g.stack = argsL.reverse ++ rest) (hW : 2 * g.monitorRoom + (rest.map fun v => v.category).sum ≤ W9) (hdg : decode c.code g.pc = .ok (.invokestatic index, 3))
    (hpre : ∀ vm₁, s.WarmedH vm₁ → Pre ⟨T.setVm vm₁, locs, cells, slots⟩ argsL.toArray) :
    (∃ (v : Option Value) (vm₁ : Vm) (B : Pt), s.WarmedH vm₁ ∧ Stand p l e R s m args below meth c B.U B.locs B.cells B.slots ∧ Post ⟨T.setVm vm₁, locs, cells, slots⟩ argsL.toArray v B ∧
      ∀ target, Steps p.tables e below (B.U.setTop { g with pc := g.pc + 3, stack := v.toList ++ rest }) target → Steps p.tables e below (T.setTop g) target) ∨
    (∃ (q : Addr) (vm₁ : Vm) (B : Pt), s.WarmedH vm₁ ∧ Stand p l e R s m args below meth c B.U B.locs B.cells B.slots ∧ PostX ⟨T.setVm vm₁, locs, cells, slots⟩ argsL.toArray q B ∧
      Steps p.tables e below (T.setTop g) ((B.U.setTop { g with stack := rest }).pushFrame (.throwing q))) := by
  obtain ⟨mk, methM, cM, hnamed, hmethM, -, -, -, -, -, -, hsigM⟩ := Cond.codeWith_spec hcode
  have hstatic : methM.isStatic = true := Cond.static_spec hnamed hmethM hstat
  obtain ⟨kP, hkP, -⟩ := className_of_methodNamed hnamed
  have hinitP : kP.init = .initialized := Cond.initialized_spec (findClass_of_methodNamed hnamed) hkP hinit
  obtain ⟨vm₁, X₁, hstep₁⟩ := X.invokestatic hexec hown hlink hnamed hmethM hstatic hkP hinitP hy (g := g) hg (argsL := argsL) (rest := rest) (hlen _ hsigM) hstack hdg
  rcases hK m meth c ⟨T.setVm vm₁, locs, cells, slots⟩ { g with stack := rest } (.invokestatic index) mk argsL.toArray X₁ hg hsize hdg hW (X₁.named hnamed) (hpre vm₁ X₁.warmed) with ⟨v, B, X', hpost, hsteps⟩ | ⟨q, B, X', hpost, hsteps⟩
  · exact Or.inl ⟨v, vm₁, B, X₁.warmed, X', hpost, fun target h => hstep₁ _ fun acts => by rw [doInvoke_state]; exact hsteps.trans h⟩
  · exact Or.inr ⟨q, vm₁, B, X₁.warmed, X', hpost, hstep₁ _ fun acts => by rw [doInvoke_state]; exact hsteps⟩
theorem vx_callVW (X : Stand p l e R s m args below meth c T locs cells slots) (hexec : p.tables.exec = Jvm.exec) {own C : String} {index : Nat} {y : MethodName} {bytes : ByteArray} {maxL : Nat} {ret : Option FieldType} {hh : List (Nat × Nat × Nat × Nat)}
    (hown : s.vm.findClass own = some m.cls) (hlink : (Cond.methodLink own index y).before args s = true) (hinst : (Cond.instanceMethod y).before args s = true) (hsel : (Cond.selects C y y).before args s = true)
    (hcode : (Cond.codeWith y bytes maxL ret hh).before args s = true) (hy : y.cls ≠ "java/lang/invoke/MethodHandle" ∧ y.cls ≠ "java/lang/invoke/VarHandle")
    {W9 : Nat} {Pre : Pt → Array Value → Prop} {Post : Pt → Array Value → Option Value → Pt → Prop} (hK : Back l R p e below s args y 3 W9 Pre Post)
    {b : Addr} {cellB : Cell} (hcell : T.heap[b]? = some cellB) (hobj : cellB.vm.isStatics = false) (hcls : s.vm.findClass C = some cellB.cls)
    {g : JFrame} (hg : g.method = m) (hsize : g.locals.size = c.maxLocals) {argsL rest : List Value} (hlen : ∀ sig, parseMethodDescriptor y.desc = some sig → argsL.length = sig.parameters.length)
    (hstack : g.stack = argsL.reverse ++ .ref b :: rest) (hW : 2 * g.monitorRoom + (rest.map fun v => v.category).sum ≤ W9) (hdg : decode c.code g.pc = .ok (.invokevirtual index, 3))
    (hpre : ∀ vm₁, s.WarmedH vm₁ → Pre ⟨T.setVm vm₁, locs, cells, slots⟩ (Value.ref b :: argsL).toArray) :
    ∃ (v : Option Value) (vm₁ : Vm) (B : Pt), s.WarmedH vm₁ ∧ Stand p l e R s m args below meth c B.U B.locs B.cells B.slots ∧ Post ⟨T.setVm vm₁, locs, cells, slots⟩ (Value.ref b :: argsL).toArray v B ∧
      ∀ target, Steps p.tables e below (B.U.setTop { g with pc := g.pc + 3, stack := v.toList ++ rest }) target → Steps p.tables e below (T.setTop g) target := by
  obtain ⟨mk, methM, hnamed, hmethM, hstM, habM⟩ := Cond.instanceMethod_spec hinst
  obtain ⟨m8, methM', cM, hn8, hmethM', -, -, -, -, -, -, hsigM⟩ := Cond.codeWith_spec hcode
  cases Option.some.inj (hn8.symm.trans hnamed)
  cases hmethM.symm.trans hmethM'
  obtain ⟨c2, r2, m2, q1, q2, q3, q4, kP, hkP, hkPi⟩ := Cond.selects_spec hsel
  cases hcls.symm.trans q1
  cases (State.methodFound?_of_named hnamed hy).symm.trans q2
  cases hnamed.symm.trans q3
  have hselP : selectMethod e.platform s.vm cellB.cls mk = .method mk := by rw [Launch.admits_selectMethod X.admits]; exact q4
  obtain ⟨vm₁, X₁, hstep₁⟩ := X.invokevirtual hexec hown hlink hnamed hmethM hstM hkP hkPi hy (a := b) (cell := cellB) hcell
    (fun z h => by rw [h] at hobj; cases hobj) hselP hmethM habM hkP hkPi (g := g) hg (argsL := argsL) (rest := rest) (hlen _ hsigM) hstack hdg
  obtain ⟨v, B, X', hpost, hsteps⟩ := hK m meth c ⟨T.setVm vm₁, locs, cells, slots⟩ { g with stack := rest } (.invokevirtual index) mk (Value.ref b :: argsL).toArray X₁ hg hsize hdg hW (X₁.named hnamed) (hpre vm₁ X₁.warmed)
  exact ⟨v, vm₁, B, X₁.warmed, X', hpost, fun target h => hstep₁ _ fun acts => by rw [doInvoke_state]; exact hsteps.trans h⟩
abbrev vx_CVW (R : Room) (s : State) (args : Array Value) (own C : String) (index : Nat) (y : MethodName) (bytes : ByteArray) (maxL : Nat) (ret : Option FieldType) (hh : List (Nat × Nat × Nat × Nat)) (ws : List Cond) (rm : Room) (mc ms n : Nat) : Prop :=
  (rm.cells = mc ∧ rm.slots = ms ∧ rm.frames + 1 ≤ R.frames ∧ 8 + (maxL + 11) + rm.locals ≤ R.locals ∧ (∀ w ∈ ws, ∀ (a' : Array Value) (U : State), s.WarmedH U.vm → w.before a' U = true) ∧ Cond.codeWith y bytes maxL ret hh ∈ ws) ∧
  (Cond.codeWith y bytes maxL ret hh).before args s = true ∧ (Cond.initialized y.cls).before args s = true ∧ (y.cls ≠ "java/lang/invoke/MethodHandle" ∧ y.cls ≠ "java/lang/invoke/VarHandle") ∧
  (∀ sig, parseMethodDescriptor y.desc = some sig → n = sig.parameters.length) ∧ (Cond.methodLink own index y).before args s = true ∧ (Cond.instanceMethod y).before args s = true ∧ (Cond.selects C y y).before args s = true
theorem vx_cwVW {own C : String} {index maxL mc ms : Nat} {y : MethodName} {bytes : ByteArray} {ret : Option FieldType} {hh : List (Nat × Nat × Nat × Nat)} {Ts ws ws' : List Cond} {rm : Room} (n : Nat) (ht : ∀ w ∈ Ts, w.before args s = true) (hT : GoodIn Ts (wsV own index C y ws)) (hw : ws = Cond.codeWith y bytes maxL ret hh :: ws') (hrc : rm.cells = mc) (hrs : rm.slots = ms)
    (hd : y.cls = C ∧ y.cls ≠ "java/lang/invoke/MethodHandle" ∧ y.cls ≠ "java/lang/invoke/VarHandle" ∧ (parseMethodDescriptor y.desc).map (fun d => d.parameters.length) = some n) (hR : rm.frames + 1 ≤ R.frames ∧ 8 + (maxL + 11) + rm.locals ≤ R.locals) :
    vx_CVW R s args own C index y bytes maxL ret hh ws rm mc ms n := by
  obtain ⟨hC, hd⟩ := hd
  subst hC
  have ok : ∀ w ∈ wsV own index y.cls y ws, w.before args s = true := fun w h => ht w (hT w h).1
  have hG : GoodIn Ts ws := fun w h => hT w (by unfold wsV; exact List.mem_append_right _ h)
  have hc : Cond.codeWith y bytes maxL ret hh ∈ ws := by rw [hw]; exact List.mem_cons_self
  refine ⟨⟨hrc, hrs, hR.1, hR.2, pay_in ht hG, hc⟩, ht _ (hG _ hc).1, ok _ (by simp [wsV]), ⟨hd.1, hd.2.1⟩, fun sig h => ?_, ok _ (by simp [wsV]), ok _ (by simp [wsV]), ok _ (by simp [wsV])⟩
  have h2 := hd.2.2
  rw [h] at h2
  exact (Option.some.inj h2).symm
theorem vx_runVW {y : MethodName} {bytes cc : ByteArray} {maxL nL mc ms n index : Nat} {ret : Option FieldType} {hh : List (Nat × Nat × Nat × Nat)} {ws : List Cond} {rm : Room} {Pc : Array Value → State → Prop} {Qc : Array Value → State → Outcome → State → Prop} {free : Addr → Prop} {Ts : List Cond} {own C : String} {b : Addr} {As rest : List Value} {g : JFrame}
    (S : CallFix p m c cc nL s args Ts own) (hM : Met l y ws rm Pc Qc mc ms free) (cw : vx_CVW R s args own C index y bytes maxL ret hh ws rm mc ms n) (hp : PreV s H C b Pc As)
    (hg : g.method = m) (hn : As.length = n) (hsize : g.locals.size = nL) (hstack : g.stack = As.reverse ++ .ref b :: rest) (hW : 2 * g.monitorRoom + (rest.map fun v => v.category).sum ≤ 8) (hdg : decode cc g.pc = .ok (.invokevirtual index, 3)) (hf : cells + mc ≤ R.cells ∧ slots + ms ≤ R.slots) :
    va_Run p l e R s m args below meth c H locs cells slots mc ms g rest (Qc (Value.ref b :: As).toArray) free := by
  obtain ⟨⟨hrc, hrs, hfr, hlo, hws, hcw⟩, hcode, hini, hy, hlen, hl, hin, hse⟩ := cw
  have hK : Back l R p e below s args y 3 8 (PreOf R mc ms Pc) (PostOf Qc mc ms free) := va_backW (hh := hh) (bytes := bytes) (maxL := maxL) (ret := ret) hM hp.1 hrc hrs hfr hlo hws hcw (fun a' U hW => word_at hW (Or.inl (by first | rfl | simp [Cond.onTables, Cond.keeps, Cond.steady])) hini)
  obtain ⟨hx, hb, hml, ho, -⟩ := S
  obtain ⟨-, ⟨cellB, hcB, hoB, hclB⟩, hPc⟩ := hp
  intro T hT X
  obtain ⟨v, vm₁, ⟨U', l2, c2, s2⟩, hW₁, X', ⟨g', mk, t, L, e1, e2, hq, h1, hL, h2, h3⟩, st⟩ := vx_callVW X hx (C := C) (hh := hh) (bytes := bytes) (maxL := maxL) (ret := ret) ho hl hin hse hcode hy hK (by rw [hT]; exact hcB) hoB hclB hg (hsize.trans hml.symm) (argsL := As) (rest := rest) (fun sig h => hn.trans (hlen sig h)) hstack hW (by rw [hb]; exact hdg)
    (fun vm₁ hW₁ => ⟨hf.1, hf.2, hPc (T.setVm vm₁) hT hW₁⟩)
  dsimp only [Pt.U, Pt.locs, Pt.cells, Pt.slots] at X' e1 e2 h1 h2 h3 st
  subst h1; subst h2; subst h3
  exact ⟨v, (T.setVm vm₁).calling g' mk (Value.ref b :: As).toArray, t, U', L, hT, X', hL, e1, e2, hq, st⟩
section
variable {y : MethodName} {bytes cc : ByteArray} {maxL nL mc ms n index : Nat} {ret : Option FieldType} {ws : List Cond} {rm : Room} {Pc : Array Value → State → Prop} {Qc : Array Value → State → Outcome → State → Prop} {XC : String → State → State → Prop} {free : Addr → Prop} {Ts : List Cond} {own C : String} {b : Addr} {As rest : List Value} {g : JFrame}
theorem vx_runVX {hh : List (Nat × Nat × Nat × Nat)} (S : CallFix p m c cc nL s args Ts own) (hM : vx_Met l y ws rm Pc Qc XC mc ms free) (cw : vx_CVW R s args own C index y bytes maxL ret hh ws rm mc ms n) (hp : PreV s H C b Pc As)
    (hg : g.method = m) (hn : As.length = n) (hsize : g.locals.size = nL) (hstack : g.stack = As.reverse ++ .ref b :: rest) (hW : 2 * g.monitorRoom + (rest.map fun v => v.category).sum ≤ 8) (hdg : decode cc g.pc = .ok (.invokevirtual index, 3)) (hf : cells + mc ≤ R.cells ∧ slots + ms ≤ R.slots) :
    vx_Run p l e R s m args below meth c H locs cells slots mc ms g rest (Qc (Value.ref b :: As).toArray) XC free := by
  obtain ⟨⟨hrc, hrs, hfr, hlo, hws, hcw⟩, hcode, hini, hy, hlen, hl, hin, hse⟩ := cw
  have hK : vx_Back l R p e below s args y 3 8 (PreOf R mc ms Pc) (PostOf Qc mc ms free) (vx_Post XC mc ms free) := vx_backW (hh := hh) (bytes := bytes) (maxL := maxL) (ret := ret) hM hp.1 hrc hrs hfr hlo hws hcw (fun a' U hW => word_at hW (Or.inl (by first | rfl | simp [Cond.onTables, Cond.keeps, Cond.steady])) hini)
  obtain ⟨hx, hb, hml, ho, -⟩ := S
  obtain ⟨-, ⟨cellB, hcB, hoB, hclB⟩, hPc⟩ := hp
  intro T hT X
  rcases vx_callVX X hx (C := C) (hh := hh) (bytes := bytes) (maxL := maxL) (ret := ret) ho hl hin hse hcode hy hK (by rw [hT]; exact hcB) hoB hclB hg (hsize.trans hml.symm) (argsL := As) (rest := rest) (fun sig h => hn.trans (hlen sig h)) hstack hW (by rw [hb]; exact hdg)
    (fun vm₁ hW₁ => ⟨hf.1, hf.2, hPc (T.setVm vm₁) hT hW₁⟩) with ⟨v, vm₁, ⟨U', l2, c2, s2⟩, hW₁, X', ⟨g', mk, t, L, e1, e2, hq, h1, hL, h2, h3⟩, st⟩ | ⟨q, vm₁, ⟨U', l2, c2, s2⟩, hW₁, X', ⟨g', mk, t, L, E, ce, e1, e2, hq, hce, hcv, hcl, h1, hL, h2, h3⟩, st⟩
  · dsimp only [Pt.U, Pt.locs, Pt.cells, Pt.slots] at X' e1 e2 h1 h2 h3 st
    subst h1; subst h2; subst h3
    exact Or.inl ⟨v, (T.setVm vm₁).calling g' mk (Value.ref b :: As).toArray, t, U', L, hT, X', hL, e1, e2, hq, st⟩
  · dsimp only [Pt.U, Pt.locs, Pt.cells, Pt.slots] at X' e1 e2 h1 h2 h3 st hcl
    subst h1; subst h2; subst h3
    exact Or.inr ⟨q, (T.setVm vm₁).calling g' mk (Value.ref b :: As).toArray, t, U', L, E, ce, hT, X', hL, e1, e2, hq, hce, hcv, vx_cls hW₁ hcl, st⟩
theorem vx_runSX {hh : List (Nat × Nat × Nat × Nat)} (S : CallFix p m c cc nL s args Ts own) (hM : vx_Met l y ws rm Pc Qc XC mc ms free) (cw : vx_CSW R s args own index y bytes maxL ret hh ws rm mc ms n) (hp : PreS s H Pc As)
    (hg : g.method = m) (hn : As.length = n) (hsize : g.locals.size = nL) (hstack : g.stack = As.reverse ++ rest) (hW : 2 * g.monitorRoom + (rest.map fun v => v.category).sum ≤ 8) (hdg : decode cc g.pc = .ok (.invokestatic index, 3)) (hf : cells + mc ≤ R.cells ∧ slots + ms ≤ R.slots) :
    vx_Run p l e R s m args below meth c H locs cells slots mc ms g rest (Qc As.toArray) XC free := by
  obtain ⟨⟨hrc, hrs, hfr, hlo, hws, hcw⟩, hcode, hini, hy, hlen, hl, hstt⟩ := cw
  have hK : vx_Back l R p e below s args y 3 8 (PreOf R mc ms Pc) (PostOf Qc mc ms free) (vx_Post XC mc ms free) := vx_backW (hh := hh) (bytes := bytes) (maxL := maxL) (ret := ret) hM hp.1 hrc hrs hfr hlo hws hcw (fun a' U hW => word_at hW (Or.inl (by first | rfl | simp [Cond.onTables, Cond.keeps, Cond.steady])) hini)
  obtain ⟨hx, hb, hml, ho, -⟩ := S
  intro T hT X
  rcases vx_callSX X hx (hh := hh) (bytes := bytes) (maxL := maxL) (ret := ret) ho hl hstt hini hcode hy hK hg (hsize.trans hml.symm) (argsL := As) (rest := rest) (fun sig h => hn.trans (hlen sig h)) hstack hW (by rw [hb]; exact hdg)
    (fun vm₁ hW₁ => ⟨hf.1, hf.2, hp.2 (T.setVm vm₁) hT hW₁⟩) with ⟨v, vm₁, ⟨U', l2, c2, s2⟩, hW₁, X', ⟨g', mk, t, L, e1, e2, hq, h1, hL, h2, h3⟩, st⟩ | ⟨q, vm₁, ⟨U', l2, c2, s2⟩, hW₁, X', ⟨g', mk, t, L, E, ce, e1, e2, hq, hce, hcv, hcl, h1, hL, h2, h3⟩, st⟩
  · dsimp only [Pt.U, Pt.locs, Pt.cells, Pt.slots] at X' e1 e2 h1 h2 h3 st
    subst h1; subst h2; subst h3
    exact Or.inl ⟨v, (T.setVm vm₁).calling g' mk As.toArray, t, U', L, hT, X', hL, e1, e2, hq, st⟩
  · dsimp only [Pt.U, Pt.locs, Pt.cells, Pt.slots] at X' e1 e2 h1 h2 h3 st hcl
    subst h1; subst h2; subst h3
    exact Or.inr ⟨q, (T.setVm vm₁).calling g' mk As.toArray, t, U', L, E, ce, hT, X', hL, e1, e2, hq, hce, hcv, vx_cls hW₁ hcl, st⟩
end
end VXH
theorem vx_ofWH {l : Launch} {y : MethodName} {ws ws' : List Cond} {rm : Room} {Pc : Array Value → State → Prop} {Qc : Array Value → State → Outcome → State → Prop} {XC : String → State → State → Prop} {mc ms : Nat} {free : Addr → Prop} {cc : ByteArray} {maxL : Nat} {ret : Option FieldType} {hh : List (Nat × Nat × Nat × Nat)}
    (hy : plainName y.cls = true) (hw : ws = Cond.codeWith y cc maxL ret hh :: ws')
    (body : ∀ p e s m args below meth c s₁, BodyLoose p l y (headSpec ws rm) cc maxL ret e s m args below meth c s₁ → c.maxLocals = maxL → Pc args s →
      W p l e (headSpec ws rm).room s m args below meth c s.heap [] 0 0 (vx_MQ below Qc XC args s mc ms free) (entryFrame m args maxL)) : vx_Met l y ws rm Pc Qc XC mc ms free := by
  refine MetFree.of_bodyS (code := cc) (maxLocals := maxL) (ret := ret) hy ?_ ?_
  · intro args s m h hn
    obtain ⟨m9, meth, c, hn9, h1, h2, h3, h4, -, h5, h6, -⟩ := Cond.codeWith_spec (atoms_spec (ws := ws) h _ (by rw [hw]; exact List.mem_cons_self))
    cases hn.symm.trans hn9
    exact ⟨meth, c, h1, h2, h3, h4, h5, h6⟩
  · intro p e s m args below meth c s₁ B hml hP _
    have hh0 : s₁.heap = s.heap := by rw [B.state]; rfl
    obtain ⟨t, a1, o, b1, b2, b3⟩ := body p e s m args below meth c s₁ B hml hP s₁ hh0 (Stand.of_body B)
    exact ⟨t, o, a1, b1, b2, b3⟩
/-! ===== END ===== -/

def RX0 : String := "CarSteps$Calls"
def RX1 : String := "CarSteps$Car"
def RX2 : String := "CarSteps$Door"
def RX3 : String := "CarSteps$Shaft"
def RX4 : String := "CarSteps"
def RX5 : String := "CarStepsModel"
def RJ6 : String := "java/lang/Integer"
def RL : String := "CarStepsLaw"
def TX0 : u_T := fun k => match k with
  | 0 => ("CarSteps$Calls", "floors", "[I", true)
  | 1 => ("CarSteps$Calls", "count", "I", false)
  | _ => ("CarSteps$Calls", "over", "I", false)
def tyX0 : Nat → FieldType := fun k => match k with
  | 0 => .array .int
  | 1 => .int
  | _ => .int
theorem nmX0 : ∀ a, a < 3 → ∀ b, b < 3 → a ≠ b → (TX0 a).2.1 ≠ (TX0 b).2.1 := by decide +kernel
theorem tyX0_ok : ∀ k, k < 3 → parseFieldDescriptor (TX0 k).2.2.1 = some (tyX0 k) := by decide +kernel
def TX1 : u_T := fun k => match k with
  | 0 => ("CarSteps$Car", "wayToOther", "I", true)
  | 1 => ("CarSteps$Car", "door", "LCarSteps$Door;", true)
  | 2 => ("CarSteps$Car", "calls", "LCarSteps$Calls;", true)
  | 3 => ("CarSteps$Car", "place", "I", false)
  | 4 => ("CarSteps$Car", "speed", "I", false)
  | 5 => ("CarSteps$Car", "way", "I", false)
  | 6 => ("CarSteps$Car", "topSpeed", "I", false)
  | 7 => ("CarSteps$Car", "gain", "I", false)
  | 8 => ("CarSteps$Car", "brake", "I", false)
  | 9 => ("CarSteps$Car", "darkSpeed", "I", false)
  | 10 => ("CarSteps$Car", "rideSpeed", "I", false)
  | 11 => ("CarSteps$Car", "kilos", "I", false)
  | 12 => ("CarSteps$Car", "mostKilos", "I", false)
  | 13 => ("CarSteps$Car", "openContacts", "I", false)
  | 14 => ("CarSteps$Car", "fireFloor", "I", false)
  | 15 => ("CarSteps$Car", "ride", "I", false)
  | 16 => ("CarSteps$Car", "starts", "I", false)
  | 17 => ("CarSteps$Car", "distance", "I", false)
  | _ => ("CarSteps$Car", "hardFalls", "I", false)
def tyX1 : Nat → FieldType := fun k => match k with
  | 0 => .int
  | 1 => .object "CarSteps$Door"
  | 2 => .object "CarSteps$Calls"
  | 3 => .int
  | 4 => .int
  | 5 => .int
  | 6 => .int
  | 7 => .int
  | 8 => .int
  | 9 => .int
  | 10 => .int
  | 11 => .int
  | 12 => .int
  | 13 => .int
  | 14 => .int
  | 15 => .int
  | 16 => .int
  | 17 => .int
  | _ => .int
theorem nmX1 : ∀ a, a < 19 → ∀ b, b < 19 → a ≠ b → (TX1 a).2.1 ≠ (TX1 b).2.1 := by decide +kernel
theorem tyX1_ok : ∀ k, k < 19 → parseFieldDescriptor (TX1 k).2.2.1 = some (tyX1 k) := by decide +kernel
def TX2 : u_T := fun k => match k with
  | 0 => ("CarSteps$Door", "state", "I", false)
  | 1 => ("CarSteps$Door", "place", "I", false)
  | 2 => ("CarSteps$Door", "places", "I", false)
  | 3 => ("CarSteps$Door", "hold", "I", false)
  | 4 => ("CarSteps$Door", "stepsOpen", "I", false)
  | 5 => ("CarSteps$Door", "beamBroken", "Z", false)
  | 6 => ("CarSteps$Door", "openingsBehindClosed", "I", false)
  | _ => ("CarSteps$Door", "openingsBehindClosing", "I", false)
def tyX2 : Nat → FieldType := fun k => match k with
  | 0 => .int
  | 1 => .int
  | 2 => .int
  | 3 => .int
  | 4 => .int
  | 5 => .boolean
  | 6 => .int
  | _ => .int
theorem nmX2 : ∀ a, a < 8 → ∀ b, b < 8 → a ≠ b → (TX2 a).2.1 ≠ (TX2 b).2.1 := by decide +kernel
theorem tyX2_ok : ∀ k, k < 8 → parseFieldDescriptor (TX2 k).2.2.1 = some (tyX2 k) := by decide +kernel
def TX3 : u_T := fun k => match k with
  | 0 => ("CarSteps$Shaft", "places", "[I", true)
  | _ => ("CarSteps$Shaft", "gap", "I", false)
def tyX3 : Nat → FieldType := fun k => match k with
  | 0 => .array .int
  | _ => .int
theorem nmX3 : ∀ a, a < 2 → ∀ b, b < 2 → a ≠ b → (TX3 a).2.1 ≠ (TX3 b).2.1 := by decide +kernel
theorem tyX3_ok : ∀ k, k < 2 → parseFieldDescriptor (TX3 k).2.2.1 = some (tyX3 k) := by decide +kernel
def TX4 : u_T := fun k => match k with
  | 0 => ("CarSteps", "shaft", "LCarSteps$Shaft;", true)
  | 1 => ("CarSteps", "lower", "LCarSteps$Car;", false)
  | 2 => ("CarSteps", "upper", "LCarSteps$Car;", false)
  | 3 => ("CarSteps", "powered", "Z", false)
  | _ => ("CarSteps", "stepsDone", "I", false)
def tyX4 : Nat → FieldType := fun k => match k with
  | 0 => .object "CarSteps$Shaft"
  | 1 => .object "CarSteps$Car"
  | 2 => .object "CarSteps$Car"
  | 3 => .boolean
  | _ => .int
theorem nmX4 : ∀ a, a < 5 → ∀ b, b < 5 → a ≠ b → (TX4 a).2.1 ≠ (TX4 b).2.1 := by decide +kernel
theorem tyX4_ok : ∀ k, k < 5 → parseFieldDescriptor (TX4 k).2.2.1 = some (tyX4 k) := by decide +kernel
def TX5 : u_T := fun k => match k with
  | 0 => ("CarStepsModel", "thrown", "I", false)
  | 1 => ("CarStepsModel", "floors", "I", false)
  | 2 => ("CarStepsModel", "heights", "[I", true)
  | 3 => ("CarStepsModel", "gap", "I", false)
  | 4 => ("CarStepsModel", "cars", "I", false)
  | 5 => ("CarStepsModel", "dark", "Z", false)
  | 6 => ("CarStepsModel", "steps", "I", false)
  | 7 => ("CarStepsModel", "places", "[I", true)
  | 8 => ("CarStepsModel", "speeds", "[I", true)
  | 9 => ("CarStepsModel", "most", "[I", true)
  | 10 => ("CarStepsModel", "gains", "[I", true)
  | 11 => ("CarStepsModel", "brakes", "[I", true)
  | 12 => ("CarStepsModel", "slows", "[I", true)
  | 13 => ("CarStepsModel", "rides", "[I", true)
  | 14 => ("CarStepsModel", "doors", "[I", true)
  | 15 => ("CarStepsModel", "doorPlaces", "[I", true)
  | 16 => ("CarStepsModel", "opened", "[I", true)
  | 17 => ("CarStepsModel", "wide", "[I", true)
  | 18 => ("CarStepsModel", "holds", "[I", true)
  | 19 => ("CarStepsModel", "loads", "[I", true)
  | 20 => ("CarStepsModel", "mostLoads", "[I", true)
  | 21 => ("CarStepsModel", "beams", "[Z", true)
  | 22 => ("CarStepsModel", "contacts", "[I", true)
  | 23 => ("CarStepsModel", "fires", "[I", true)
  | 24 => ("CarStepsModel", "ways", "[I", true)
  | 25 => ("CarStepsModel", "calls", "[I", true)
  | 26 => ("CarStepsModel", "callCounts", "[I", true)
  | _ => ("CarStepsModel", "wears", "[I", true)
def tyX5 : Nat → FieldType := fun k => match k with
  | 0 => .int
  | 1 => .int
  | 2 => .array .int
  | 3 => .int
  | 4 => .int
  | 5 => .boolean
  | 6 => .int
  | 7 => .array .int
  | 8 => .array .int
  | 9 => .array .int
  | 10 => .array .int
  | 11 => .array .int
  | 12 => .array .int
  | 13 => .array .int
  | 14 => .array .int
  | 15 => .array .int
  | 16 => .array .int
  | 17 => .array .int
  | 18 => .array .int
  | 19 => .array .int
  | 20 => .array .int
  | 21 => .array .boolean
  | 22 => .array .int
  | 23 => .array .int
  | 24 => .array .int
  | 25 => .array .int
  | 26 => .array .int
  | _ => .array .int
theorem nmX5 : ∀ a, a < 28 → ∀ b, b < 28 → a ≠ b → (TX5 a).2.1 ≠ (TX5 b).2.1 := by decide +kernel
theorem tyX5_ok : ∀ k, k < 28 → parseFieldDescriptor (TX5 k).2.2.1 = some (tyX5 k) := by decide +kernel
abbrev cX4_init : ByteArray := prog_1_method_1_code
def yX4_init : MethodName := ⟨RX4, "<init>", "(I)V"⟩
abbrev cX4_height : ByteArray := prog_1_method_2_code
def yX4_height : MethodName := ⟨RX4, "height", "(II)I"⟩
abbrev cX4_gap : ByteArray := prog_1_method_3_code
def yX4_gap : MethodName := ⟨RX4, "gap", "(I)I"⟩
abbrev cX4_car : ByteArray := prog_1_method_4_code
def yX4_car : MethodName := ⟨RX4, "car", "(I)I"⟩
abbrev cX4_rates : ByteArray := prog_1_method_5_code
def yX4_rates : MethodName := ⟨RX4, "rates", "(IIII)V"⟩
abbrev cX4_slow : ByteArray := prog_1_method_6_code
def yX4_slow : MethodName := ⟨RX4, "slow", "(III)V"⟩
abbrev cX4_door : ByteArray := prog_1_method_7_code
def yX4_door : MethodName := ⟨RX4, "door", "(III)V"⟩
abbrev cX4_go : ByteArray := prog_1_method_8_code
def yX4_go : MethodName := ⟨RX4, "go", "(II)I"⟩
abbrev cX4_open : ByteArray := prog_1_method_9_code
def yX4_open : MethodName := ⟨RX4, "open", "(I)Z"⟩
abbrev cX4_close : ByteArray := prog_1_method_10_code
def yX4_close : MethodName := ⟨RX4, "close", "(I)Z"⟩
abbrev cX4_beam : ByteArray := prog_1_method_11_code
def yX4_beam : MethodName := ⟨RX4, "beam", "(IZ)Z"⟩
abbrev cX4_contact : ByteArray := prog_1_method_12_code
def yX4_contact : MethodName := ⟨RX4, "contact", "(IIZ)Z"⟩
abbrev cX4_load : ByteArray := prog_1_method_13_code
def yX4_load : MethodName := ⟨RX4, "load", "(II)I"⟩
abbrev cX4_most : ByteArray := prog_1_method_14_code
def yX4_most : MethodName := ⟨RX4, "most", "(II)I"⟩
abbrev cX4_fire : ByteArray := prog_1_method_15_code
def yX4_fire : MethodName := ⟨RX4, "fire", "(II)I"⟩
abbrev cX4_inspect : ByteArray := prog_1_method_16_code
def yX4_inspect : MethodName := ⟨RX4, "inspect", "(II)I"⟩
abbrev cX4_power : ByteArray := prog_1_method_17_code
def yX4_power : MethodName := ⟨RX4, "power", "(Z)Z"⟩
abbrev cX4_steps : ByteArray := prog_1_method_18_code
def yX4_steps : MethodName := ⟨RX4, "steps", "(I)I"⟩
abbrev cX4_told : ByteArray := prog_1_method_19_code
def yX4_told : MethodName := ⟨RX4, "told", "(II)I"⟩
abbrev cX4_wear : ByteArray := prog_1_method_20_code
def yX4_wear : MethodName := ⟨RX4, "wear", "(II)I"⟩
abbrev cX4_carOf : ByteArray := prog_1_method_21_code
def yX4_carOf : MethodName := ⟨RX4, "carOf", "(I)LCarSteps$Car;"⟩
abbrev cX4_refuseWithCars : ByteArray := prog_1_method_22_code
def yX4_refuseWithCars : MethodName := ⟨RX4, "refuseWithCars", "()V"⟩
abbrev cX4_refuseOutside : ByteArray := prog_1_method_23_code
def yX4_refuseOutside : MethodName := ⟨RX4, "refuseOutside", "(III)V"⟩
abbrev cX4_length : ByteArray := prog_1_method_24_code
def yX4_length : MethodName := ⟨RX4, "length", "(II)I"⟩
abbrev cX5_init : ByteArray := prog_7_method_1_code
def yX5_init : MethodName := ⟨RX5, "<init>", "(I)V"⟩
abbrev cX5_thrown : ByteArray := prog_7_method_2_code
def yX5_thrown : MethodName := ⟨RX5, "thrown", "()I"⟩
abbrev cX5_length : ByteArray := prog_7_method_3_code
def yX5_length : MethodName := ⟨RX5, "length", "(II)I"⟩
abbrev cX5_size : ByteArray := prog_7_method_4_code
def yX5_size : MethodName := ⟨RX5, "size", "(I)I"⟩
abbrev cX5_sign : ByteArray := prog_7_method_5_code
def yX5_sign : MethodName := ⟨RX5, "sign", "(I)I"⟩
abbrev cX5_stands : ByteArray := prog_7_method_6_code
def yX5_stands : MethodName := ⟨RX5, "stands", "(II)I"⟩
abbrev cX5_isFree : ByteArray := prog_7_method_7_code
def yX5_isFree : MethodName := ⟨RX5, "isFree", "(III)Z"⟩
abbrev cX5_mode : ByteArray := prog_7_method_8_code
def yX5_mode : MethodName := ⟨RX5, "mode", "(I)I"⟩
abbrev cX5_nearest : ByteArray := prog_7_method_9_code
def yX5_nearest : MethodName := ⟨RX5, "nearest", "(I)I"⟩
abbrev cX5_wanted : ByteArray := prog_7_method_10_code
def yX5_wanted : MethodName := ⟨RX5, "wanted", "(I)I"⟩
abbrev cX5_greatest : ByteArray := prog_7_method_11_code
def yX5_greatest : MethodName := ⟨RX5, "greatest", "(IIIII)I"⟩
abbrev cX5_limit : ByteArray := prog_7_method_12_code
def yX5_limit : MethodName := ⟨RX5, "limit", "(II)I"⟩
abbrev cX5_next : ByteArray := prog_7_method_13_code
def yX5_next : MethodName := ⟨RX5, "next", "(III)I"⟩
abbrev cX5_reopen : ByteArray := prog_7_method_14_code
def yX5_reopen : MethodName := ⟨RX5, "reopen", "(II)V"⟩
abbrev cX5_land : ByteArray := prog_7_method_15_code
def yX5_land : MethodName := ⟨RX5, "land", "(II)V"⟩
abbrev cX5_door : ByteArray := prog_7_method_16_code
def yX5_door : MethodName := ⟨RX5, "door", "(IIZ)V"⟩
abbrev cX5_step : ByteArray := prog_7_method_17_code
def yX5_step : MethodName := ⟨RX5, "step", "(I)V"⟩
abbrev cX5_isCar : ByteArray := prog_7_method_18_code
def yX5_isCar : MethodName := ⟨RX5, "isCar", "(I)Z"⟩
abbrev cX5_isFloor : ByteArray := prog_7_method_19_code
def yX5_isFloor : MethodName := ⟨RX5, "isFloor", "(I)Z"⟩
abbrev cX5_in : ByteArray := prog_7_method_20_code
def yX5_in : MethodName := ⟨RX5, "in", "(III)Z"⟩
abbrev cX5_goes : ByteArray := prog_7_method_21_code
def yX5_goes : MethodName := ⟨RX5, "goes", "(ZZ)Z"⟩
abbrev cX5_height : ByteArray := prog_7_method_22_code
def yX5_height : MethodName := ⟨RX5, "height", "(II)I"⟩
abbrev cX5_gap : ByteArray := prog_7_method_23_code
def yX5_gap : MethodName := ⟨RX5, "gap", "(I)I"⟩
abbrev cX5_car : ByteArray := prog_7_method_24_code
def yX5_car : MethodName := ⟨RX5, "car", "(I)I"⟩
abbrev cX5_rates : ByteArray := prog_7_method_25_code
def yX5_rates : MethodName := ⟨RX5, "rates", "(IIII)V"⟩
abbrev cX5_slow : ByteArray := prog_7_method_26_code
def yX5_slow : MethodName := ⟨RX5, "slow", "(III)V"⟩
abbrev cX5_door_ : ByteArray := prog_7_method_27_code
def yX5_door_ : MethodName := ⟨RX5, "door", "(III)V"⟩
abbrev cX5_go : ByteArray := prog_7_method_28_code
def yX5_go : MethodName := ⟨RX5, "go", "(II)I"⟩
abbrev cX5_floorAt : ByteArray := prog_7_method_29_code
def yX5_floorAt : MethodName := ⟨RX5, "floorAt", "(I)I"⟩
abbrev cX5_open : ByteArray := prog_7_method_30_code
def yX5_open : MethodName := ⟨RX5, "open", "(I)Z"⟩
abbrev cX5_close : ByteArray := prog_7_method_31_code
def yX5_close : MethodName := ⟨RX5, "close", "(I)Z"⟩
abbrev cX5_beam : ByteArray := prog_7_method_32_code
def yX5_beam : MethodName := ⟨RX5, "beam", "(IZ)Z"⟩
abbrev cX5_contact : ByteArray := prog_7_method_33_code
def yX5_contact : MethodName := ⟨RX5, "contact", "(IIZ)Z"⟩
abbrev cX5_load : ByteArray := prog_7_method_34_code
def yX5_load : MethodName := ⟨RX5, "load", "(II)I"⟩
abbrev cX5_most : ByteArray := prog_7_method_35_code
def yX5_most : MethodName := ⟨RX5, "most", "(II)I"⟩
abbrev cX5_fire : ByteArray := prog_7_method_36_code
def yX5_fire : MethodName := ⟨RX5, "fire", "(II)I"⟩
abbrev cX5_inspect : ByteArray := prog_7_method_37_code
def yX5_inspect : MethodName := ⟨RX5, "inspect", "(II)I"⟩
abbrev cX5_power : ByteArray := prog_7_method_38_code
def yX5_power : MethodName := ⟨RX5, "power", "(Z)Z"⟩
abbrev cX5_steps : ByteArray := prog_7_method_39_code
def yX5_steps : MethodName := ⟨RX5, "steps", "(I)I"⟩
abbrev cX5_told : ByteArray := prog_7_method_40_code
def yX5_told : MethodName := ⟨RX5, "told", "(II)I"⟩
abbrev cX5_wear : ByteArray := prog_7_method_41_code
def yX5_wear : MethodName := ⟨RX5, "wear", "(II)I"⟩
abbrev cX0_init : ByteArray := prog_2_method_1_code
def yX0_init : MethodName := ⟨RX0, "<init>", "()V"⟩
abbrev cX0_append : ByteArray := prog_2_method_2_code
def yX0_append : MethodName := ⟨RX0, "append", "(I)V"⟩
abbrev cX0_firstFloor : ByteArray := prog_2_method_3_code
def yX0_firstFloor : MethodName := ⟨RX0, "firstFloor", "()I"⟩
abbrev cX0_endFirst : ByteArray := prog_2_method_4_code
def yX0_endFirst : MethodName := ⟨RX0, "endFirst", "()V"⟩
abbrev cX1_init : ByteArray := prog_3_method_1_code
def yX1_init : MethodName := ⟨RX1, "<init>", "(II)V"⟩
abbrev cX1_isOverloaded : ByteArray := prog_3_method_2_code
def yX1_isOverloaded : MethodName := ⟨RX1, "isOverloaded", "()Z"⟩
abbrev cX1_modeNow : ByteArray := prog_3_method_3_code
def yX1_modeNow : MethodName := ⟨RX1, "modeNow", "(Z)I"⟩
abbrev cX1_wantedPlace : ByteArray := prog_3_method_4_code
def yX1_wantedPlace : MethodName := ⟨RX1, "wantedPlace", "(ILCarSteps$Shaft;)I"⟩
abbrev cX1_standPlace : ByteArray := prog_3_method_5_code
def yX1_standPlace : MethodName := ⟨RX1, "standPlace", "()I"⟩
abbrev cX1_takeStep : ByteArray := prog_3_method_6_code
def yX1_takeStep : MethodName := ⟨RX1, "takeStep", "(LCarSteps$Shaft;LCarSteps$Car;Z)V"⟩
abbrev cX1_wayTo : ByteArray := prog_3_method_7_code
def yX1_wayTo : MethodName := ⟨RX1, "wayTo", "(I)I"⟩
abbrev cX1_roomToOther : ByteArray := prog_3_method_8_code
def yX1_roomToOther : MethodName := ⟨RX1, "roomToOther", "(ILCarSteps$Car;I)I"⟩
abbrev cX1_nextSpeed : ByteArray := prog_3_method_9_code
def yX1_nextSpeed : MethodName := ⟨RX1, "nextSpeed", "(III)I"⟩
abbrev cX1_mayStart : ByteArray := prog_3_method_10_code
def yX1_mayStart : MethodName := ⟨RX1, "mayStart", "(I)Z"⟩
abbrev cX1_limitIn : ByteArray := prog_3_method_11_code
def yX1_limitIn : MethodName := ⟨RX1, "limitIn", "(I)I"⟩
abbrev cX1_speedWithin : ByteArray := prog_3_method_12_code
def yX1_speedWithin : MethodName := ⟨RX1, "speedWithin", "(I)I"⟩
abbrev cX1_leastSpeed : ByteArray := prog_3_method_13_code
def yX1_leastSpeed : MethodName := ⟨RX1, "leastSpeed", "()I"⟩
abbrev cX1_brakingSpeed : ByteArray := prog_3_method_14_code
def yX1_brakingSpeed : MethodName := ⟨RX1, "brakingSpeed", "(II)I"⟩
abbrev cX1_greatestSpeed : ByteArray := prog_3_method_15_code
def yX1_greatestSpeed : MethodName := ⟨RX1, "greatestSpeed", "(III)I"⟩
abbrev cX1_fits : ByteArray := prog_3_method_16_code
def yX1_fits : MethodName := ⟨RX1, "fits", "(III)Z"⟩
abbrev cX1_goOn : ByteArray := prog_3_method_17_code
def yX1_goOn : MethodName := ⟨RX1, "goOn", "(II)V"⟩
abbrev cX1_land : ByteArray := prog_3_method_18_code
def yX1_land : MethodName := ⟨RX1, "land", "(I)V"⟩
abbrev cX2_init : ByteArray := prog_4_method_1_code
def yX2_init : MethodName := ⟨RX2, "<init>", "()V"⟩
abbrev cX2_turnToOpening : ByteArray := prog_4_method_2_code
def yX2_turnToOpening : MethodName := ⟨RX2, "turnToOpening", "()Z"⟩
abbrev cX2_openForLanding : ByteArray := prog_4_method_3_code
def yX2_openForLanding : MethodName := ⟨RX2, "openForLanding", "()V"⟩
abbrev cX2_takeStep : ByteArray := prog_4_method_4_code
def yX2_takeStep : MethodName := ⟨RX2, "takeStep", "(IZZ)V"⟩
abbrev cX2_openFurther : ByteArray := prog_4_method_5_code
def yX2_openFurther : MethodName := ⟨RX2, "openFurther", "()V"⟩
abbrev cX2_closeFurther : ByteArray := prog_4_method_6_code
def yX2_closeFurther : MethodName := ⟨RX2, "closeFurther", "()V"⟩
abbrev cX2_isTimeToClose : ByteArray := prog_4_method_7_code
def yX2_isTimeToClose : MethodName := ⟨RX2, "isTimeToClose", "(IZ)Z"⟩
abbrev cX3_init : ByteArray := prog_5_method_1_code
def yX3_init : MethodName := ⟨RX3, "<init>", "(I)V"⟩
abbrev cX3_topFloor : ByteArray := prog_5_method_2_code
def yX3_topFloor : MethodName := ⟨RX3, "topFloor", "()I"⟩
abbrev cX3_isFloor : ByteArray := prog_5_method_3_code
def yX3_isFloor : MethodName := ⟨RX3, "isFloor", "(I)Z"⟩
abbrev cX3_placeOf : ByteArray := prog_5_method_4_code
def yX3_placeOf : MethodName := ⟨RX3, "placeOf", "(I)I"⟩
abbrev cX3_setPlace : ByteArray := prog_5_method_5_code
def yX3_setPlace : MethodName := ⟨RX3, "setPlace", "(II)V"⟩
abbrev cX3_liesBetweenNeighbours : ByteArray := prog_5_method_6_code
def yX3_liesBetweenNeighbours : MethodName := ⟨RX3, "liesBetweenNeighbours", "(II)Z"⟩
abbrev cX3_floorAt : ByteArray := prog_5_method_7_code
def yX3_floorAt : MethodName := ⟨RX3, "floorAt", "(I)I"⟩
abbrev cX3_nearestPlace : ByteArray := prog_5_method_8_code
def yX3_nearestPlace : MethodName := ⟨RX3, "nearestPlace", "(I)I"⟩
abbrev cL_cell : ByteArray := method_2_code
def yL_cell : MethodName := ⟨RL, "cell", "([II)I"⟩
abbrev cL_height : ByteArray := method_3_code
def yL_height : MethodName := ⟨RL, "height", "(LCarSteps;II[J)I"⟩
abbrev cL_gap : ByteArray := method_4_code
def yL_gap : MethodName := ⟨RL, "gap", "(LCarSteps;I[J)I"⟩
abbrev cL_car : ByteArray := method_5_code
def yL_car : MethodName := ⟨RL, "car", "(LCarSteps;I[J)I"⟩
abbrev cL_rates : ByteArray := method_6_code
def yL_rates : MethodName := ⟨RL, "rates", "(LCarSteps;IIII)I"⟩
abbrev cL_slow : ByteArray := method_7_code
def yL_slow : MethodName := ⟨RL, "slow", "(LCarSteps;III)I"⟩
abbrev cL_door : ByteArray := method_8_code
def yL_door : MethodName := ⟨RL, "door", "(LCarSteps;III)I"⟩
abbrev cL_go : ByteArray := method_9_code
def yL_go : MethodName := ⟨RL, "go", "(LCarSteps;II[J)I"⟩
abbrev cL_open : ByteArray := method_10_code
def yL_open : MethodName := ⟨RL, "open", "(LCarSteps;I[J)I"⟩
abbrev cL_close : ByteArray := method_11_code
def yL_close : MethodName := ⟨RL, "close", "(LCarSteps;I[J)I"⟩
abbrev cL_beam : ByteArray := method_12_code
def yL_beam : MethodName := ⟨RL, "beam", "(LCarSteps;IZ[J)I"⟩
abbrev cL_contact : ByteArray := method_13_code
def yL_contact : MethodName := ⟨RL, "contact", "(LCarSteps;IIZ[J)I"⟩
abbrev cL_load : ByteArray := method_14_code
def yL_load : MethodName := ⟨RL, "load", "(LCarSteps;II[J)I"⟩
abbrev cL_most : ByteArray := method_15_code
def yL_most : MethodName := ⟨RL, "most", "(LCarSteps;II[J)I"⟩
abbrev cL_fire : ByteArray := method_16_code
def yL_fire : MethodName := ⟨RL, "fire", "(LCarSteps;II[J)I"⟩
abbrev cL_inspect : ByteArray := method_17_code
def yL_inspect : MethodName := ⟨RL, "inspect", "(LCarSteps;II[J)I"⟩
abbrev cL_steps : ByteArray := method_18_code
def yL_steps : MethodName := ⟨RL, "steps", "(LCarSteps;I[J)I"⟩
abbrev cL_told : ByteArray := method_19_code
def yL_told : MethodName := ⟨RL, "told", "(LCarSteps;II[J)I"⟩
abbrev cL_wear : ByteArray := method_20_code
def yL_wear : MethodName := ⟨RL, "wear", "(LCarSteps;II[J)I"⟩
abbrev cJ6_compare : ByteArray := prog_11_method_40_code
def yJ6_compare : MethodName := ⟨RJ6, "compare", "(II)I"⟩
abbrev vwCl : List vw_C := [(RX0, TX0, 3), (RX1, TX1, 19), (RX2, TX2, 8), (RX3, TX3, 2), (RX4, TX4, 5), (RX5, TX5, 28)]
/-- the words that every method has: all good ones of the tables -/
def Gw : List Cond := lw_tbl.filter goodWord
theorem inG {i : Nat} {w : Cond} (h : lw_tbl[i]? = some w) (hg : goodWord w = true) : w ∈ Gw := List.mem_filter.mpr ⟨List.mem_of_getElem? h, hg⟩
theorem mG {w a : Cond} (h : w ∈ Gw) : w ∈ a :: Gw := List.mem_cons_of_mem _ h
theorem gGG {a : Cond} {ws : List Cond} (h : ∀ w ∈ ws, w ∈ Gw) : GoodIn (a :: Gw) ws := fun w hw => ⟨List.mem_cons_of_mem _ (h w hw), good_of_word (List.mem_filter.mp (h w hw)).2⟩
theorem gC {a b : Cond} (h : b ∈ Gw) : GoodIn (a :: Gw) (b :: Gw) := gGG (fun w hw => (List.mem_cons.mp hw).elim (fun e => by rw [e]; exact h) id)
theorem gV {a : Cond} {own C : String} {idx : Nat} {y : MethodName} {b : Cond} (h1 : .methodLink own idx y ∈ Gw) (h2 : .instanceMethod y ∈ Gw) (h3 : .selects C y y ∈ Gw) (h4 : .initialized C ∈ Gw) (h5 : b ∈ Gw) : GoodIn (a :: Gw) (wsV own idx C y (b :: Gw)) := by
  refine gGG (fun w hw => ?_)
  unfold wsV at hw
  rcases List.mem_append.mp hw with hw | hw
  · simp only [List.mem_cons, List.not_mem_nil, or_false] at hw
    rcases hw with rfl | rfl | rfl | rfl <;> assumption
  · exact (List.mem_cons.mp hw).elim (fun e => by rw [e]; exact h5) id
theorem gS {a : Cond} {own : String} {idx : Nat} {y : MethodName} {b : Cond} (h1 : .methodLink own idx y ∈ Gw) (h2 : .static y ∈ Gw) (h4 : .initialized y.cls ∈ Gw) (h5 : b ∈ Gw) : GoodIn (a :: Gw) (va_wsS own idx y (b :: Gw)) := by
  refine gGG (fun w hw => ?_)
  unfold va_wsS at hw
  rcases List.mem_append.mp hw with hw | hw
  · simp only [List.mem_cons, List.not_mem_nil, or_false] at hw
    rcases hw with rfl | rfl | rfl <;> assumption
  · exact (List.mem_cons.mp hw).elim (fun e => by rw [e]; exact h5) id
theorem w_1 : (.selects RX4 yX4_refuseWithCars yX4_refuseWithCars : Cond) ∈ Gw := inG (i := 1) (by decide +kernel) (by decide +kernel)
theorem w_2 : (.selects RX4 yX4_carOf yX4_carOf : Cond) ∈ Gw := inG (i := 2) (by decide +kernel) (by decide +kernel)
theorem w_3 : (.selects RX1 yX1_wayTo yX1_wayTo : Cond) ∈ Gw := inG (i := 3) (by decide +kernel) (by decide +kernel)
theorem w_4 : (.selects RX1 yX1_roomToOther yX1_roomToOther : Cond) ∈ Gw := inG (i := 4) (by decide +kernel) (by decide +kernel)
theorem w_5 : (.selects RX1 yX1_nextSpeed yX1_nextSpeed : Cond) ∈ Gw := inG (i := 5) (by decide +kernel) (by decide +kernel)
theorem w_6 : (.selects RX1 yX1_mayStart yX1_mayStart : Cond) ∈ Gw := inG (i := 6) (by decide +kernel) (by decide +kernel)
theorem w_7 : (.selects RX1 yX1_limitIn yX1_limitIn : Cond) ∈ Gw := inG (i := 7) (by decide +kernel) (by decide +kernel)
theorem w_8 : (.selects RX1 yX1_speedWithin yX1_speedWithin : Cond) ∈ Gw := inG (i := 8) (by decide +kernel) (by decide +kernel)
theorem w_9 : (.selects RX1 yX1_greatestSpeed yX1_greatestSpeed : Cond) ∈ Gw := inG (i := 9) (by decide +kernel) (by decide +kernel)
theorem w_10 : (.selects RX1 yX1_fits yX1_fits : Cond) ∈ Gw := inG (i := 10) (by decide +kernel) (by decide +kernel)
theorem w_11 : (.selects RX1 yX1_leastSpeed yX1_leastSpeed : Cond) ∈ Gw := inG (i := 11) (by decide +kernel) (by decide +kernel)
theorem w_12 : (.selects RX1 yX1_brakingSpeed yX1_brakingSpeed : Cond) ∈ Gw := inG (i := 12) (by decide +kernel) (by decide +kernel)
theorem w_13 : (.selects RX1 yX1_goOn yX1_goOn : Cond) ∈ Gw := inG (i := 13) (by decide +kernel) (by decide +kernel)
theorem w_14 : (.selects RX1 yX1_land yX1_land : Cond) ∈ Gw := inG (i := 14) (by decide +kernel) (by decide +kernel)
theorem w_15 : (.selects RX2 yX2_openFurther yX2_openFurther : Cond) ∈ Gw := inG (i := 15) (by decide +kernel) (by decide +kernel)
theorem w_16 : (.selects RX2 yX2_isTimeToClose yX2_isTimeToClose : Cond) ∈ Gw := inG (i := 16) (by decide +kernel) (by decide +kernel)
theorem w_17 : (.selects RX2 yX2_closeFurther yX2_closeFurther : Cond) ∈ Gw := inG (i := 17) (by decide +kernel) (by decide +kernel)
theorem w_18 : (.selects RX5 yX5_isFloor yX5_isFloor : Cond) ∈ Gw := inG (i := 18) (by decide +kernel) (by decide +kernel)
theorem w_19 : (.selects RX5 yX5_goes yX5_goes : Cond) ∈ Gw := inG (i := 19) (by decide +kernel) (by decide +kernel)
theorem w_20 : (.selects RX5 yX5_stands yX5_stands : Cond) ∈ Gw := inG (i := 20) (by decide +kernel) (by decide +kernel)
theorem w_21 : (.selects RX5 yX5_isCar yX5_isCar : Cond) ∈ Gw := inG (i := 21) (by decide +kernel) (by decide +kernel)
theorem w_22 : (.selects RX5 yX5_floorAt yX5_floorAt : Cond) ∈ Gw := inG (i := 22) (by decide +kernel) (by decide +kernel)
theorem w_23 : (.selects RX5 yX5_reopen yX5_reopen : Cond) ∈ Gw := inG (i := 23) (by decide +kernel) (by decide +kernel)
theorem w_24 : (.selects RX5 yX5_step yX5_step : Cond) ∈ Gw := inG (i := 24) (by decide +kernel) (by decide +kernel)
theorem w_25 : (.selects RX5 yX5_mode yX5_mode : Cond) ∈ Gw := inG (i := 25) (by decide +kernel) (by decide +kernel)
theorem w_26 : (.selects RX5 yX5_wanted yX5_wanted : Cond) ∈ Gw := inG (i := 26) (by decide +kernel) (by decide +kernel)
theorem w_27 : (.selects RX5 yX5_nearest yX5_nearest : Cond) ∈ Gw := inG (i := 27) (by decide +kernel) (by decide +kernel)
theorem w_28 : (.selects RX5 yX5_next yX5_next : Cond) ∈ Gw := inG (i := 28) (by decide +kernel) (by decide +kernel)
theorem w_29 : (.selects RX5 yX5_limit yX5_limit : Cond) ∈ Gw := inG (i := 29) (by decide +kernel) (by decide +kernel)
theorem w_30 : (.selects RX5 yX5_greatest yX5_greatest : Cond) ∈ Gw := inG (i := 30) (by decide +kernel) (by decide +kernel)
theorem w_31 : (.selects RX5 yX5_isFree yX5_isFree : Cond) ∈ Gw := inG (i := 31) (by decide +kernel) (by decide +kernel)
theorem w_32 : (.selects RX5 yX5_land yX5_land : Cond) ∈ Gw := inG (i := 32) (by decide +kernel) (by decide +kernel)
theorem w_33 : (.selects RX5 yX5_door yX5_door : Cond) ∈ Gw := inG (i := 33) (by decide +kernel) (by decide +kernel)
theorem w_34 : (.initialized RL : Cond) ∈ Gw := inG (i := 34) (by decide +kernel) (by decide +kernel)
theorem w_35 : (.initialized RX4 : Cond) ∈ Gw := inG (i := 35) (by decide +kernel) (by decide +kernel)
theorem w_36 : (.initialized RX3 : Cond) ∈ Gw := inG (i := 36) (by decide +kernel) (by decide +kernel)
theorem w_37 : (.initialized "java/lang/Math" : Cond) ∈ Gw := inG (i := 37) (by decide +kernel) (by decide +kernel)
theorem w_38 : (.initialized RX5 : Cond) ∈ Gw := inG (i := 38) (by decide +kernel) (by decide +kernel)
theorem w_40 : (.initialized "java/lang/Exception" : Cond) ∈ Gw := inG (i := 40) (by decide +kernel) (by decide +kernel)
theorem w_41 : (.initialized "java/lang/RuntimeException" : Cond) ∈ Gw := inG (i := 41) (by decide +kernel) (by decide +kernel)
theorem w_42 : (.initialized "java/lang/IllegalArgumentException" : Cond) ∈ Gw := inG (i := 42) (by decide +kernel) (by decide +kernel)
theorem w_43 : (.initialized "java/lang/IllegalStateException" : Cond) ∈ Gw := inG (i := 43) (by decide +kernel) (by decide +kernel)
theorem w_44 : (.initialized RX1 : Cond) ∈ Gw := inG (i := 44) (by decide +kernel) (by decide +kernel)
theorem w_45 : (.initialized RX2 : Cond) ∈ Gw := inG (i := 45) (by decide +kernel) (by decide +kernel)
theorem w_46 : (.initialized RX0 : Cond) ∈ Gw := inG (i := 46) (by decide +kernel) (by decide +kernel)
theorem w_47 : (.initialized RJ6 : Cond) ∈ Gw := inG (i := 47) (by decide +kernel) (by decide +kernel)
theorem w_48 : (.classLink RL 8 RX4 : Cond) ∈ Gw := inG (i := 48) (by decide +kernel) (by decide +kernel)
theorem w_49 : (.instantiable RX4 5 : Cond) ∈ Gw := inG (i := 49) (by decide +kernel) (by decide +kernel)
theorem w_50 : (.methodLink RL 80 yX4_init : Cond) ∈ Gw := inG (i := 50) (by decide +kernel) (by decide +kernel)
theorem w_51 : (.instanceMethod yX4_init : Cond) ∈ Gw := inG (i := 51) (by decide +kernel) (by decide +kernel)
theorem w_52 : (.code yX4_init cX4_init 2 none : Cond) ∈ Gw := inG (i := 52) (by decide +kernel) (by decide +kernel)
theorem w_53 : (.methodLink RX4 1 objectInit : Cond) ∈ Gw := inG (i := 53) (by decide +kernel) (by decide +kernel)
theorem w_54 : (.instanceMethod objectInit : Cond) ∈ Gw := inG (i := 54) (by decide +kernel) (by decide +kernel)
theorem w_55 : (.code objectInit ⟨#[0xb1]⟩ 1 none : Cond) ∈ Gw := inG (i := 55) (by decide +kernel) (by decide +kernel)
theorem w_56 : (.classLink RX4 7 RX3 : Cond) ∈ Gw := inG (i := 56) (by decide +kernel) (by decide +kernel)
theorem w_57 : (.instantiable RX3 2 : Cond) ∈ Gw := inG (i := 57) (by decide +kernel) (by decide +kernel)
theorem w_58 : (.methodLink RX4 9 Lib.Math.max.name : Cond) ∈ Gw := inG (i := 58) (by decide +kernel) (by decide +kernel)
theorem w_59 : (.static Lib.Math.max.name : Cond) ∈ Gw := inG (i := 59) (by decide +kernel) (by decide +kernel)
theorem w_60 : (.code Lib.Math.max.name Lib.Math.max.code 2 (some .int) : Cond) ∈ Gw := inG (i := 60) (by decide +kernel) (by decide +kernel)
theorem w_61 : (.methodLink RX4 17 Lib.Math.min.name : Cond) ∈ Gw := inG (i := 61) (by decide +kernel) (by decide +kernel)
theorem w_62 : (.static Lib.Math.min.name : Cond) ∈ Gw := inG (i := 62) (by decide +kernel) (by decide +kernel)
theorem w_63 : (.code Lib.Math.min.name Lib.Math.min.code 2 (some .int) : Cond) ∈ Gw := inG (i := 63) (by decide +kernel) (by decide +kernel)
theorem w_64 : (.methodLink RX4 20 yX3_init : Cond) ∈ Gw := inG (i := 64) (by decide +kernel) (by decide +kernel)
theorem w_65 : (.instanceMethod yX3_init : Cond) ∈ Gw := inG (i := 65) (by decide +kernel) (by decide +kernel)
theorem w_66 : (.code yX3_init cX3_init 3 none : Cond) ∈ Gw := inG (i := 66) (by decide +kernel) (by decide +kernel)
theorem w_67 : (.methodLink RX3 3 objectInit : Cond) ∈ Gw := inG (i := 67) (by decide +kernel) (by decide +kernel)
theorem w_68 : (.methodLink RX3 9 Lib.Math.max.name : Cond) ∈ Gw := inG (i := 68) (by decide +kernel) (by decide +kernel)
theorem w_69 : (.fieldLink RX3 15 "CarSteps$Shaft" "places" "[I" : Cond) ∈ Gw := inG (i := 69) (by decide +kernel) (by decide +kernel)
theorem w_70 : (.fieldLink RX3 21 "CarSteps$Shaft" "gap" "I" : Cond) ∈ Gw := inG (i := 70) (by decide +kernel) (by decide +kernel)
theorem w_78 : (.arrayClass .int : Cond) ∈ Gw := inG (i := 78) (by decide +kernel) (by decide +kernel)
theorem w_79 : (.fieldLink RX4 23 "CarSteps" "shaft" "LCarSteps$Shaft;" : Cond) ∈ Gw := inG (i := 79) (by decide +kernel) (by decide +kernel)
theorem w_80 : (.fieldLink RX4 66 "CarSteps" "lower" "LCarSteps$Car;" : Cond) ∈ Gw := inG (i := 80) (by decide +kernel) (by decide +kernel)
theorem w_81 : (.fieldLink RX4 74 "CarSteps" "upper" "LCarSteps$Car;" : Cond) ∈ Gw := inG (i := 81) (by decide +kernel) (by decide +kernel)
theorem w_82 : (.fieldLink RX4 27 "CarSteps" "powered" "Z" : Cond) ∈ Gw := inG (i := 82) (by decide +kernel) (by decide +kernel)
theorem w_83 : (.fieldLink RX4 181 "CarSteps" "stepsDone" "I" : Cond) ∈ Gw := inG (i := 83) (by decide +kernel) (by decide +kernel)
theorem w_95 : (.methodLink RL 141 yX4_power : Cond) ∈ Gw := inG (i := 95) (by decide +kernel) (by decide +kernel)
theorem w_96 : (.instanceMethod yX4_power : Cond) ∈ Gw := inG (i := 96) (by decide +kernel) (by decide +kernel)
theorem w_97 : (.selects RX4 yX4_power yX4_power : Cond) ∈ Gw := inG (i := 97) (by decide +kernel) (by decide +kernel)
theorem w_98 : (.code yX4_power cX4_power 3 (some .boolean) : Cond) ∈ Gw := inG (i := 98) (by decide +kernel) (by decide +kernel)
theorem w_99 : (.methodLink RL 74 yL_cell : Cond) ∈ Gw := inG (i := 99) (by decide +kernel) (by decide +kernel)
theorem w_100 : (.static yL_cell : Cond) ∈ Gw := inG (i := 100) (by decide +kernel) (by decide +kernel)
theorem w_101 : (.code yL_cell cL_cell 2 (some .int) : Cond) ∈ Gw := inG (i := 101) (by decide +kernel) (by decide +kernel)
theorem w_102 : (.methodLink RL 86 yL_height : Cond) ∈ Gw := inG (i := 102) (by decide +kernel) (by decide +kernel)
theorem w_103 : (.static yL_height : Cond) ∈ Gw := inG (i := 103) (by decide +kernel) (by decide +kernel)
theorem w_104 : (.codeWith yL_height cL_height 5 (some .int) [(0, 10, 13, 13), (0, 10, 17, 15)] : Cond) ∈ Gw := inG (i := 104) (by decide +kernel) (by decide +kernel)
theorem w_105 : (.classLink RL 13 "java/lang/IllegalArgumentException" : Cond) ∈ Gw := inG (i := 105) (by decide +kernel) (by decide +kernel)
theorem w_106 : (.classLink RL 15 "java/lang/IllegalStateException" : Cond) ∈ Gw := inG (i := 106) (by decide +kernel) (by decide +kernel)
theorem w_107 : (.methodLink RL 7 yX4_height : Cond) ∈ Gw := inG (i := 107) (by decide +kernel) (by decide +kernel)
theorem w_108 : (.instanceMethod yX4_height : Cond) ∈ Gw := inG (i := 108) (by decide +kernel) (by decide +kernel)
theorem w_109 : (.selects RX4 yX4_height yX4_height : Cond) ∈ Gw := inG (i := 109) (by decide +kernel) (by decide +kernel)
theorem w_110 : (.code yX4_height cX4_height 4 (some .int) : Cond) ∈ Gw := inG (i := 110) (by decide +kernel) (by decide +kernel)
theorem w_111 : (.methodLink RX4 31 yX3_topFloor : Cond) ∈ Gw := inG (i := 111) (by decide +kernel) (by decide +kernel)
theorem w_112 : (.instanceMethod yX3_topFloor : Cond) ∈ Gw := inG (i := 112) (by decide +kernel) (by decide +kernel)
theorem w_113 : (.selects RX3 yX3_topFloor yX3_topFloor : Cond) ∈ Gw := inG (i := 113) (by decide +kernel) (by decide +kernel)
theorem w_114 : (.code yX3_topFloor cX3_topFloor 1 (some .int) : Cond) ∈ Gw := inG (i := 114) (by decide +kernel) (by decide +kernel)
theorem w_115 : (.methodLink RX4 35 yX4_refuseOutside : Cond) ∈ Gw := inG (i := 115) (by decide +kernel) (by decide +kernel)
theorem w_116 : (.static yX4_refuseOutside : Cond) ∈ Gw := inG (i := 116) (by decide +kernel) (by decide +kernel)
theorem w_117 : (.code yX4_refuseOutside cX4_refuseOutside 3 none : Cond) ∈ Gw := inG (i := 117) (by decide +kernel) (by decide +kernel)
theorem w_118 : (.classLink RX4 88 "java/lang/IllegalArgumentException" : Cond) ∈ Gw := inG (i := 118) (by decide +kernel) (by decide +kernel)
theorem w_119 : (.instantiable "java/lang/IllegalArgumentException" 6 : Cond) ∈ Gw := inG (i := 119) (by decide +kernel) (by decide +kernel)
theorem w_159 : (.methodLink RX4 92 ⟨"java/lang/IllegalArgumentException", "<init>", "(Ljava/lang/String;)V"⟩ : Cond) ∈ Gw := inG (i := 159) (by decide +kernel) (by decide +kernel)
theorem w_160 : (.instanceMethod ⟨"java/lang/IllegalArgumentException", "<init>", "(Ljava/lang/String;)V"⟩ : Cond) ∈ Gw := inG (i := 160) (by decide +kernel) (by decide +kernel)
theorem w_162 : (.methodLink "java/lang/IllegalArgumentException" 7 ⟨"java/lang/RuntimeException", "<init>", "(Ljava/lang/String;)V"⟩ : Cond) ∈ Gw := inG (i := 162) (by decide +kernel) (by decide +kernel)
theorem w_163 : (.instanceMethod ⟨"java/lang/RuntimeException", "<init>", "(Ljava/lang/String;)V"⟩ : Cond) ∈ Gw := inG (i := 163) (by decide +kernel) (by decide +kernel)
theorem w_165 : (.methodLink "java/lang/RuntimeException" 7 ⟨"java/lang/Exception", "<init>", "(Ljava/lang/String;)V"⟩ : Cond) ∈ Gw := inG (i := 165) (by decide +kernel) (by decide +kernel)
theorem w_166 : (.instanceMethod ⟨"java/lang/Exception", "<init>", "(Ljava/lang/String;)V"⟩ : Cond) ∈ Gw := inG (i := 166) (by decide +kernel) (by decide +kernel)
theorem w_184 : (.arrayClass .byte : Cond) ∈ Gw := inG (i := 184) (by decide +kernel) (by decide +kernel)
theorem w_185 : (.constant RX4 39 100000 : Cond) ∈ Gw := inG (i := 185) (by decide +kernel) (by decide +kernel)
theorem w_186 : (.methodLink RX4 40 yX4_refuseWithCars : Cond) ∈ Gw := inG (i := 186) (by decide +kernel) (by decide +kernel)
theorem w_188 : (.instanceMethod yX4_refuseWithCars : Cond) ∈ Gw := inG (i := 188) (by decide +kernel) (by decide +kernel)
theorem w_189 : (.code yX4_refuseWithCars cX4_refuseWithCars 1 none : Cond) ∈ Gw := inG (i := 189) (by decide +kernel) (by decide +kernel)
theorem w_190 : (.classLink RX4 47 "java/lang/IllegalStateException" : Cond) ∈ Gw := inG (i := 190) (by decide +kernel) (by decide +kernel)
theorem w_191 : (.instantiable "java/lang/IllegalStateException" 6 : Cond) ∈ Gw := inG (i := 191) (by decide +kernel) (by decide +kernel)
theorem w_200 : (.methodLink RX4 51 ⟨"java/lang/IllegalStateException", "<init>", "(Ljava/lang/String;)V"⟩ : Cond) ∈ Gw := inG (i := 200) (by decide +kernel) (by decide +kernel)
theorem w_201 : (.instanceMethod ⟨"java/lang/IllegalStateException", "<init>", "(Ljava/lang/String;)V"⟩ : Cond) ∈ Gw := inG (i := 201) (by decide +kernel) (by decide +kernel)
theorem w_203 : (.methodLink "java/lang/IllegalStateException" 7 ⟨"java/lang/RuntimeException", "<init>", "(Ljava/lang/String;)V"⟩ : Cond) ∈ Gw := inG (i := 203) (by decide +kernel) (by decide +kernel)
theorem w_206 : (.methodLink RX4 43 yX3_liesBetweenNeighbours : Cond) ∈ Gw := inG (i := 206) (by decide +kernel) (by decide +kernel)
theorem w_207 : (.instanceMethod yX3_liesBetweenNeighbours : Cond) ∈ Gw := inG (i := 207) (by decide +kernel) (by decide +kernel)
theorem w_208 : (.selects RX3 yX3_liesBetweenNeighbours yX3_liesBetweenNeighbours : Cond) ∈ Gw := inG (i := 208) (by decide +kernel) (by decide +kernel)
theorem w_209 : (.code yX3_liesBetweenNeighbours cX3_liesBetweenNeighbours 5 (some .boolean) : Cond) ∈ Gw := inG (i := 209) (by decide +kernel) (by decide +kernel)
theorem w_210 : (.methodLink RX3 25 yX3_isFloor : Cond) ∈ Gw := inG (i := 210) (by decide +kernel) (by decide +kernel)
theorem w_211 : (.instanceMethod yX3_isFloor : Cond) ∈ Gw := inG (i := 211) (by decide +kernel) (by decide +kernel)
theorem w_212 : (.selects RX3 yX3_isFloor yX3_isFloor : Cond) ∈ Gw := inG (i := 212) (by decide +kernel) (by decide +kernel)
theorem w_213 : (.code yX3_isFloor cX3_isFloor 2 (some .boolean) : Cond) ∈ Gw := inG (i := 213) (by decide +kernel) (by decide +kernel)
theorem w_214 : (.methodLink RX3 29 yX3_placeOf : Cond) ∈ Gw := inG (i := 214) (by decide +kernel) (by decide +kernel)
theorem w_215 : (.instanceMethod yX3_placeOf : Cond) ∈ Gw := inG (i := 215) (by decide +kernel) (by decide +kernel)
theorem w_216 : (.selects RX3 yX3_placeOf yX3_placeOf : Cond) ∈ Gw := inG (i := 216) (by decide +kernel) (by decide +kernel)
theorem w_217 : (.code yX3_placeOf cX3_placeOf 2 (some .int) : Cond) ∈ Gw := inG (i := 217) (by decide +kernel) (by decide +kernel)
theorem w_219 : (.methodLink RX4 54 yX3_placeOf : Cond) ∈ Gw := inG (i := 219) (by decide +kernel) (by decide +kernel)
theorem w_220 : (.methodLink RX4 58 yX3_setPlace : Cond) ∈ Gw := inG (i := 220) (by decide +kernel) (by decide +kernel)
theorem w_221 : (.instanceMethod yX3_setPlace : Cond) ∈ Gw := inG (i := 221) (by decide +kernel) (by decide +kernel)
theorem w_222 : (.selects RX3 yX3_setPlace yX3_setPlace : Cond) ∈ Gw := inG (i := 222) (by decide +kernel) (by decide +kernel)
theorem w_223 : (.code yX3_setPlace cX3_setPlace 3 none : Cond) ∈ Gw := inG (i := 223) (by decide +kernel) (by decide +kernel)
theorem w_224 : (.methodLink RL 94 yL_gap : Cond) ∈ Gw := inG (i := 224) (by decide +kernel) (by decide +kernel)
theorem w_225 : (.static yL_gap : Cond) ∈ Gw := inG (i := 225) (by decide +kernel) (by decide +kernel)
theorem w_226 : (.codeWith yL_gap cL_gap 4 (some .int) [(0, 9, 12, 13), (0, 9, 15, 15)] : Cond) ∈ Gw := inG (i := 226) (by decide +kernel) (by decide +kernel)
theorem w_227 : (.methodLink RL 17 yX4_gap : Cond) ∈ Gw := inG (i := 227) (by decide +kernel) (by decide +kernel)
theorem w_228 : (.instanceMethod yX4_gap : Cond) ∈ Gw := inG (i := 228) (by decide +kernel) (by decide +kernel)
theorem w_229 : (.selects RX4 yX4_gap yX4_gap : Cond) ∈ Gw := inG (i := 229) (by decide +kernel) (by decide +kernel)
theorem w_230 : (.code yX4_gap cX4_gap 3 (some .int) : Cond) ∈ Gw := inG (i := 230) (by decide +kernel) (by decide +kernel)
theorem w_231 : (.methodLink RL 98 yL_car : Cond) ∈ Gw := inG (i := 231) (by decide +kernel) (by decide +kernel)
theorem w_232 : (.static yL_car : Cond) ∈ Gw := inG (i := 232) (by decide +kernel) (by decide +kernel)
theorem w_233 : (.codeWith yL_car cL_car 4 (some .int) [(0, 9, 12, 13), (0, 9, 15, 15)] : Cond) ∈ Gw := inG (i := 233) (by decide +kernel) (by decide +kernel)
theorem w_234 : (.methodLink RL 21 yX4_car : Cond) ∈ Gw := inG (i := 234) (by decide +kernel) (by decide +kernel)
theorem w_235 : (.instanceMethod yX4_car : Cond) ∈ Gw := inG (i := 235) (by decide +kernel) (by decide +kernel)
theorem w_236 : (.selects RX4 yX4_car yX4_car : Cond) ∈ Gw := inG (i := 236) (by decide +kernel) (by decide +kernel)
theorem w_237 : (.code yX4_car cX4_car 3 (some .int) : Cond) ∈ Gw := inG (i := 237) (by decide +kernel) (by decide +kernel)
theorem w_238 : (.classLink RX4 70 RX1 : Cond) ∈ Gw := inG (i := 238) (by decide +kernel) (by decide +kernel)
theorem w_239 : (.instantiable RX1 19 : Cond) ∈ Gw := inG (i := 239) (by decide +kernel) (by decide +kernel)
theorem w_240 : (.methodLink RX4 72 yX1_init : Cond) ∈ Gw := inG (i := 240) (by decide +kernel) (by decide +kernel)
theorem w_241 : (.instanceMethod yX1_init : Cond) ∈ Gw := inG (i := 241) (by decide +kernel) (by decide +kernel)
theorem w_242 : (.code yX1_init cX1_init 3 none : Cond) ∈ Gw := inG (i := 242) (by decide +kernel) (by decide +kernel)
theorem w_243 : (.methodLink RX1 3 objectInit : Cond) ∈ Gw := inG (i := 243) (by decide +kernel) (by decide +kernel)
theorem w_244 : (.classLink RX1 9 RX2 : Cond) ∈ Gw := inG (i := 244) (by decide +kernel) (by decide +kernel)
theorem w_245 : (.instantiable RX2 8 : Cond) ∈ Gw := inG (i := 245) (by decide +kernel) (by decide +kernel)
theorem w_247 : (.instanceMethod yX2_init : Cond) ∈ Gw := inG (i := 247) (by decide +kernel) (by decide +kernel)
theorem w_248 : (.code yX2_init cX2_init 1 none : Cond) ∈ Gw := inG (i := 248) (by decide +kernel) (by decide +kernel)
theorem w_249 : (.methodLink RX2 3 objectInit : Cond) ∈ Gw := inG (i := 249) (by decide +kernel) (by decide +kernel)
theorem w_250 : (.fieldLink RX2 9 "CarSteps$Door" "state" "I" : Cond) ∈ Gw := inG (i := 250) (by decide +kernel) (by decide +kernel)
theorem w_253 : (.fieldLink RX2 48 "CarSteps$Door" "place" "I" : Cond) ∈ Gw := inG (i := 253) (by decide +kernel) (by decide +kernel)
theorem w_255 : (.fieldLink RX2 15 "CarSteps$Door" "places" "I" : Cond) ∈ Gw := inG (i := 255) (by decide +kernel) (by decide +kernel)
theorem w_257 : (.fieldLink RX2 18 "CarSteps$Door" "hold" "I" : Cond) ∈ Gw := inG (i := 257) (by decide +kernel) (by decide +kernel)
theorem w_259 : (.fieldLink RX2 27 "CarSteps$Door" "stepsOpen" "I" : Cond) ∈ Gw := inG (i := 259) (by decide +kernel) (by decide +kernel)
theorem w_260 : (.fieldLink RX2 41 "CarSteps$Door" "beamBroken" "Z" : Cond) ∈ Gw := inG (i := 260) (by decide +kernel) (by decide +kernel)
theorem w_262 : (.fieldLink RX2 21 "CarSteps$Door" "openingsBehindClosed" "I" : Cond) ∈ Gw := inG (i := 262) (by decide +kernel) (by decide +kernel)
theorem w_264 : (.fieldLink RX2 24 "CarSteps$Door" "openingsBehindClosing" "I" : Cond) ∈ Gw := inG (i := 264) (by decide +kernel) (by decide +kernel)
theorem w_283 : (.classLink RX1 18 RX0 : Cond) ∈ Gw := inG (i := 283) (by decide +kernel) (by decide +kernel)
theorem w_284 : (.instantiable RX0 3 : Cond) ∈ Gw := inG (i := 284) (by decide +kernel) (by decide +kernel)
theorem w_286 : (.instanceMethod yX0_init : Cond) ∈ Gw := inG (i := 286) (by decide +kernel) (by decide +kernel)
theorem w_287 : (.code yX0_init cX0_init 1 none : Cond) ∈ Gw := inG (i := 287) (by decide +kernel) (by decide +kernel)
theorem w_288 : (.methodLink RX0 3 objectInit : Cond) ∈ Gw := inG (i := 288) (by decide +kernel) (by decide +kernel)
theorem w_289 : (.fieldLink RX0 9 "CarSteps$Calls" "floors" "[I" : Cond) ∈ Gw := inG (i := 289) (by decide +kernel) (by decide +kernel)
theorem w_290 : (.fieldLink RX0 15 "CarSteps$Calls" "count" "I" : Cond) ∈ Gw := inG (i := 290) (by decide +kernel) (by decide +kernel)
theorem w_292 : (.fieldLink RX0 19 "CarSteps$Calls" "over" "I" : Cond) ∈ Gw := inG (i := 292) (by decide +kernel) (by decide +kernel)
theorem w_301 : (.fieldLink RX1 53 "CarSteps$Car" "wayToOther" "I" : Cond) ∈ Gw := inG (i := 301) (by decide +kernel) (by decide +kernel)
theorem w_302 : (.fieldLink RX1 12 "CarSteps$Car" "door" "LCarSteps$Door;" : Cond) ∈ Gw := inG (i := 302) (by decide +kernel) (by decide +kernel)
theorem w_304 : (.fieldLink RX1 21 "CarSteps$Car" "calls" "LCarSteps$Calls;" : Cond) ∈ Gw := inG (i := 304) (by decide +kernel) (by decide +kernel)
theorem w_306 : (.fieldLink RX1 50 "CarSteps$Car" "place" "I" : Cond) ∈ Gw := inG (i := 306) (by decide +kernel) (by decide +kernel)
theorem w_308 : (.fieldLink RX1 81 "CarSteps$Car" "speed" "I" : Cond) ∈ Gw := inG (i := 308) (by decide +kernel) (by decide +kernel)
theorem w_310 : (.fieldLink RX1 78 "CarSteps$Car" "way" "I" : Cond) ∈ Gw := inG (i := 310) (by decide +kernel) (by decide +kernel)
theorem w_312 : (.fieldLink RX1 25 "CarSteps$Car" "topSpeed" "I" : Cond) ∈ Gw := inG (i := 312) (by decide +kernel) (by decide +kernel)
theorem w_314 : (.fieldLink RX1 29 "CarSteps$Car" "gain" "I" : Cond) ∈ Gw := inG (i := 314) (by decide +kernel) (by decide +kernel)
theorem w_316 : (.fieldLink RX1 32 "CarSteps$Car" "brake" "I" : Cond) ∈ Gw := inG (i := 316) (by decide +kernel) (by decide +kernel)
theorem w_318 : (.fieldLink RX1 35 "CarSteps$Car" "darkSpeed" "I" : Cond) ∈ Gw := inG (i := 318) (by decide +kernel) (by decide +kernel)
theorem w_320 : (.fieldLink RX1 38 "CarSteps$Car" "rideSpeed" "I" : Cond) ∈ Gw := inG (i := 320) (by decide +kernel) (by decide +kernel)
theorem w_322 : (.fieldLink RX1 56 "CarSteps$Car" "kilos" "I" : Cond) ∈ Gw := inG (i := 322) (by decide +kernel) (by decide +kernel)
theorem w_324 : (.fieldLink RX1 41 "CarSteps$Car" "mostKilos" "I" : Cond) ∈ Gw := inG (i := 324) (by decide +kernel) (by decide +kernel)
theorem w_326 : (.fieldLink RX1 59 "CarSteps$Car" "openContacts" "I" : Cond) ∈ Gw := inG (i := 326) (by decide +kernel) (by decide +kernel)
theorem w_328 : (.fieldLink RX1 44 "CarSteps$Car" "fireFloor" "I" : Cond) ∈ Gw := inG (i := 328) (by decide +kernel) (by decide +kernel)
theorem w_330 : (.fieldLink RX1 47 "CarSteps$Car" "ride" "I" : Cond) ∈ Gw := inG (i := 330) (by decide +kernel) (by decide +kernel)
theorem w_332 : (.fieldLink RX1 172 "CarSteps$Car" "starts" "I" : Cond) ∈ Gw := inG (i := 332) (by decide +kernel) (by decide +kernel)
theorem w_334 : (.fieldLink RX1 178 "CarSteps$Car" "distance" "I" : Cond) ∈ Gw := inG (i := 334) (by decide +kernel) (by decide +kernel)
theorem w_336 : (.fieldLink RX1 175 "CarSteps$Car" "hardFalls" "I" : Cond) ∈ Gw := inG (i := 336) (by decide +kernel) (by decide +kernel)
theorem w_378 : (.methodLink RX4 79 yX1_standPlace : Cond) ∈ Gw := inG (i := 378) (by decide +kernel) (by decide +kernel)
theorem w_379 : (.instanceMethod yX1_standPlace : Cond) ∈ Gw := inG (i := 379) (by decide +kernel) (by decide +kernel)
theorem w_380 : (.selects RX1 yX1_standPlace yX1_standPlace : Cond) ∈ Gw := inG (i := 380) (by decide +kernel) (by decide +kernel)
theorem w_381 : (.code yX1_standPlace cX1_standPlace 1 (some .int) : Cond) ∈ Gw := inG (i := 381) (by decide +kernel) (by decide +kernel)
theorem w_383 : (.static yX4_length : Cond) ∈ Gw := inG (i := 383) (by decide +kernel) (by decide +kernel)
theorem w_384 : (.code yX4_length cX4_length 3 (some .int) : Cond) ∈ Gw := inG (i := 384) (by decide +kernel) (by decide +kernel)
theorem w_386 : (.methodLink RL 101 yL_rates : Cond) ∈ Gw := inG (i := 386) (by decide +kernel) (by decide +kernel)
theorem w_387 : (.static yL_rates : Cond) ∈ Gw := inG (i := 387) (by decide +kernel) (by decide +kernel)
theorem w_388 : (.codeWith yL_rates cL_rates 6 (some .int) [(0, 9, 12, 13), (0, 9, 16, 15)] : Cond) ∈ Gw := inG (i := 388) (by decide +kernel) (by decide +kernel)
theorem w_389 : (.methodLink RL 24 yX4_rates : Cond) ∈ Gw := inG (i := 389) (by decide +kernel) (by decide +kernel)
theorem w_390 : (.instanceMethod yX4_rates : Cond) ∈ Gw := inG (i := 390) (by decide +kernel) (by decide +kernel)
theorem w_391 : (.selects RX4 yX4_rates yX4_rates : Cond) ∈ Gw := inG (i := 391) (by decide +kernel) (by decide +kernel)
theorem w_392 : (.code yX4_rates cX4_rates 6 none : Cond) ∈ Gw := inG (i := 392) (by decide +kernel) (by decide +kernel)
theorem w_393 : (.methodLink RX4 84 yX4_carOf : Cond) ∈ Gw := inG (i := 393) (by decide +kernel) (by decide +kernel)
theorem w_395 : (.instanceMethod yX4_carOf : Cond) ∈ Gw := inG (i := 395) (by decide +kernel) (by decide +kernel)
theorem w_396 : (.code yX4_carOf cX4_carOf 3 (some (.object "CarSteps$Car")) : Cond) ∈ Gw := inG (i := 396) (by decide +kernel) (by decide +kernel)
theorem w_400 : (.methodLink RL 105 yL_slow : Cond) ∈ Gw := inG (i := 400) (by decide +kernel) (by decide +kernel)
theorem w_401 : (.static yL_slow : Cond) ∈ Gw := inG (i := 401) (by decide +kernel) (by decide +kernel)
theorem w_402 : (.codeWith yL_slow cL_slow 5 (some .int) [(0, 7, 10, 13)] : Cond) ∈ Gw := inG (i := 402) (by decide +kernel) (by decide +kernel)
theorem w_403 : (.methodLink RL 28 yX4_slow : Cond) ∈ Gw := inG (i := 403) (by decide +kernel) (by decide +kernel)
theorem w_404 : (.instanceMethod yX4_slow : Cond) ∈ Gw := inG (i := 404) (by decide +kernel) (by decide +kernel)
theorem w_405 : (.selects RX4 yX4_slow yX4_slow : Cond) ∈ Gw := inG (i := 405) (by decide +kernel) (by decide +kernel)
theorem w_406 : (.code yX4_slow cX4_slow 5 none : Cond) ∈ Gw := inG (i := 406) (by decide +kernel) (by decide +kernel)
theorem w_407 : (.methodLink RL 109 yL_door : Cond) ∈ Gw := inG (i := 407) (by decide +kernel) (by decide +kernel)
theorem w_408 : (.static yL_door : Cond) ∈ Gw := inG (i := 408) (by decide +kernel) (by decide +kernel)
theorem w_409 : (.codeWith yL_door cL_door 5 (some .int) [(0, 7, 10, 13), (0, 7, 14, 15)] : Cond) ∈ Gw := inG (i := 409) (by decide +kernel) (by decide +kernel)
theorem w_410 : (.methodLink RL 32 yX4_door : Cond) ∈ Gw := inG (i := 410) (by decide +kernel) (by decide +kernel)
theorem w_411 : (.instanceMethod yX4_door : Cond) ∈ Gw := inG (i := 411) (by decide +kernel) (by decide +kernel)
theorem w_412 : (.selects RX4 yX4_door yX4_door : Cond) ∈ Gw := inG (i := 412) (by decide +kernel) (by decide +kernel)
theorem w_413 : (.code yX4_door cX4_door 5 none : Cond) ∈ Gw := inG (i := 413) (by decide +kernel) (by decide +kernel)
theorem w_415 : (.methodLink RL 112 yL_go : Cond) ∈ Gw := inG (i := 415) (by decide +kernel) (by decide +kernel)
theorem w_416 : (.static yL_go : Cond) ∈ Gw := inG (i := 416) (by decide +kernel) (by decide +kernel)
theorem w_417 : (.codeWith yL_go cL_go 5 (some .int) [(0, 10, 13, 13), (0, 10, 17, 15)] : Cond) ∈ Gw := inG (i := 417) (by decide +kernel) (by decide +kernel)
theorem w_418 : (.methodLink RL 35 yX4_go : Cond) ∈ Gw := inG (i := 418) (by decide +kernel) (by decide +kernel)
theorem w_419 : (.instanceMethod yX4_go : Cond) ∈ Gw := inG (i := 419) (by decide +kernel) (by decide +kernel)
theorem w_420 : (.selects RX4 yX4_go yX4_go : Cond) ∈ Gw := inG (i := 420) (by decide +kernel) (by decide +kernel)
theorem w_421 : (.code yX4_go cX4_go 4 (some .int) : Cond) ∈ Gw := inG (i := 421) (by decide +kernel) (by decide +kernel)
theorem w_423 : (.methodLink RX4 141 yX0_append : Cond) ∈ Gw := inG (i := 423) (by decide +kernel) (by decide +kernel)
theorem w_424 : (.instanceMethod yX0_append : Cond) ∈ Gw := inG (i := 424) (by decide +kernel) (by decide +kernel)
theorem w_425 : (.selects RX0 yX0_append yX0_append : Cond) ∈ Gw := inG (i := 425) (by decide +kernel) (by decide +kernel)
theorem w_426 : (.code yX0_append cX0_append 2 none : Cond) ∈ Gw := inG (i := 426) (by decide +kernel) (by decide +kernel)
theorem w_427 : (.methodLink RL 115 yL_open : Cond) ∈ Gw := inG (i := 427) (by decide +kernel) (by decide +kernel)
theorem w_428 : (.static yL_open : Cond) ∈ Gw := inG (i := 428) (by decide +kernel) (by decide +kernel)
theorem w_429 : (.codeWith yL_open cL_open 4 (some .int) [(0, 16, 19, 13), (0, 16, 22, 15)] : Cond) ∈ Gw := inG (i := 429) (by decide +kernel) (by decide +kernel)
theorem w_430 : (.methodLink RL 38 yX4_open : Cond) ∈ Gw := inG (i := 430) (by decide +kernel) (by decide +kernel)
theorem w_431 : (.instanceMethod yX4_open : Cond) ∈ Gw := inG (i := 431) (by decide +kernel) (by decide +kernel)
theorem w_432 : (.selects RX4 yX4_open yX4_open : Cond) ∈ Gw := inG (i := 432) (by decide +kernel) (by decide +kernel)
theorem w_433 : (.code yX4_open cX4_open 3 (some .boolean) : Cond) ∈ Gw := inG (i := 433) (by decide +kernel) (by decide +kernel)
theorem w_434 : (.methodLink RX4 147 yX3_floorAt : Cond) ∈ Gw := inG (i := 434) (by decide +kernel) (by decide +kernel)
theorem w_435 : (.instanceMethod yX3_floorAt : Cond) ∈ Gw := inG (i := 435) (by decide +kernel) (by decide +kernel)
theorem w_436 : (.selects RX3 yX3_floorAt yX3_floorAt : Cond) ∈ Gw := inG (i := 436) (by decide +kernel) (by decide +kernel)
theorem w_437 : (.code yX3_floorAt cX3_floorAt 3 (some .int) : Cond) ∈ Gw := inG (i := 437) (by decide +kernel) (by decide +kernel)
theorem w_439 : (.methodLink RX4 152 yX2_turnToOpening : Cond) ∈ Gw := inG (i := 439) (by decide +kernel) (by decide +kernel)
theorem w_440 : (.instanceMethod yX2_turnToOpening : Cond) ∈ Gw := inG (i := 440) (by decide +kernel) (by decide +kernel)
theorem w_441 : (.selects RX2 yX2_turnToOpening yX2_turnToOpening : Cond) ∈ Gw := inG (i := 441) (by decide +kernel) (by decide +kernel)
theorem w_442 : (.code yX2_turnToOpening cX2_turnToOpening 1 (some .boolean) : Cond) ∈ Gw := inG (i := 442) (by decide +kernel) (by decide +kernel)
theorem w_443 : (.methodLink RL 118 yL_close : Cond) ∈ Gw := inG (i := 443) (by decide +kernel) (by decide +kernel)
theorem w_444 : (.static yL_close : Cond) ∈ Gw := inG (i := 444) (by decide +kernel) (by decide +kernel)
theorem w_445 : (.codeWith yL_close cL_close 4 (some .int) [(0, 16, 19, 13)] : Cond) ∈ Gw := inG (i := 445) (by decide +kernel) (by decide +kernel)
theorem w_446 : (.methodLink RL 42 yX4_close : Cond) ∈ Gw := inG (i := 446) (by decide +kernel) (by decide +kernel)
theorem w_447 : (.instanceMethod yX4_close : Cond) ∈ Gw := inG (i := 447) (by decide +kernel) (by decide +kernel)
theorem w_448 : (.selects RX4 yX4_close yX4_close : Cond) ∈ Gw := inG (i := 448) (by decide +kernel) (by decide +kernel)
theorem w_449 : (.code yX4_close cX4_close 3 (some .boolean) : Cond) ∈ Gw := inG (i := 449) (by decide +kernel) (by decide +kernel)
theorem w_450 : (.methodLink RX4 159 yX1_isOverloaded : Cond) ∈ Gw := inG (i := 450) (by decide +kernel) (by decide +kernel)
theorem w_451 : (.instanceMethod yX1_isOverloaded : Cond) ∈ Gw := inG (i := 451) (by decide +kernel) (by decide +kernel)
theorem w_452 : (.selects RX1 yX1_isOverloaded yX1_isOverloaded : Cond) ∈ Gw := inG (i := 452) (by decide +kernel) (by decide +kernel)
theorem w_453 : (.code yX1_isOverloaded cX1_isOverloaded 1 (some .boolean) : Cond) ∈ Gw := inG (i := 453) (by decide +kernel) (by decide +kernel)
theorem w_454 : (.methodLink RL 121 yL_beam : Cond) ∈ Gw := inG (i := 454) (by decide +kernel) (by decide +kernel)
theorem w_455 : (.static yL_beam : Cond) ∈ Gw := inG (i := 455) (by decide +kernel) (by decide +kernel)
theorem w_456 : (.codeWith yL_beam cL_beam 5 (some .int) [(0, 17, 20, 13)] : Cond) ∈ Gw := inG (i := 456) (by decide +kernel) (by decide +kernel)
theorem w_457 : (.methodLink RL 45 yX4_beam : Cond) ∈ Gw := inG (i := 457) (by decide +kernel) (by decide +kernel)
theorem w_458 : (.instanceMethod yX4_beam : Cond) ∈ Gw := inG (i := 458) (by decide +kernel) (by decide +kernel)
theorem w_459 : (.selects RX4 yX4_beam yX4_beam : Cond) ∈ Gw := inG (i := 459) (by decide +kernel) (by decide +kernel)
theorem w_460 : (.code yX4_beam cX4_beam 5 (some .boolean) : Cond) ∈ Gw := inG (i := 460) (by decide +kernel) (by decide +kernel)
theorem w_461 : (.methodLink RL 125 yL_contact : Cond) ∈ Gw := inG (i := 461) (by decide +kernel) (by decide +kernel)
theorem w_462 : (.static yL_contact : Cond) ∈ Gw := inG (i := 462) (by decide +kernel) (by decide +kernel)
theorem w_463 : (.codeWith yL_contact cL_contact 6 (some .int) [(0, 19, 22, 13)] : Cond) ∈ Gw := inG (i := 463) (by decide +kernel) (by decide +kernel)
theorem w_464 : (.methodLink RL 49 yX4_contact : Cond) ∈ Gw := inG (i := 464) (by decide +kernel) (by decide +kernel)
theorem w_465 : (.instanceMethod yX4_contact : Cond) ∈ Gw := inG (i := 465) (by decide +kernel) (by decide +kernel)
theorem w_466 : (.selects RX4 yX4_contact yX4_contact : Cond) ∈ Gw := inG (i := 466) (by decide +kernel) (by decide +kernel)
theorem w_467 : (.code yX4_contact cX4_contact 7 (some .boolean) : Cond) ∈ Gw := inG (i := 467) (by decide +kernel) (by decide +kernel)
theorem w_468 : (.methodLink RL 129 yL_load : Cond) ∈ Gw := inG (i := 468) (by decide +kernel) (by decide +kernel)
theorem w_469 : (.static yL_load : Cond) ∈ Gw := inG (i := 469) (by decide +kernel) (by decide +kernel)
theorem w_470 : (.codeWith yL_load cL_load 5 (some .int) [(0, 10, 13, 13)] : Cond) ∈ Gw := inG (i := 470) (by decide +kernel) (by decide +kernel)
theorem w_471 : (.methodLink RL 53 yX4_load : Cond) ∈ Gw := inG (i := 471) (by decide +kernel) (by decide +kernel)
theorem w_472 : (.instanceMethod yX4_load : Cond) ∈ Gw := inG (i := 472) (by decide +kernel) (by decide +kernel)
theorem w_473 : (.selects RX4 yX4_load yX4_load : Cond) ∈ Gw := inG (i := 473) (by decide +kernel) (by decide +kernel)
theorem w_474 : (.code yX4_load cX4_load 5 (some .int) : Cond) ∈ Gw := inG (i := 474) (by decide +kernel) (by decide +kernel)
theorem w_475 : (.methodLink RL 132 yL_most : Cond) ∈ Gw := inG (i := 475) (by decide +kernel) (by decide +kernel)
theorem w_476 : (.static yL_most : Cond) ∈ Gw := inG (i := 476) (by decide +kernel) (by decide +kernel)
theorem w_477 : (.codeWith yL_most cL_most 5 (some .int) [(0, 10, 13, 13)] : Cond) ∈ Gw := inG (i := 477) (by decide +kernel) (by decide +kernel)
theorem w_478 : (.methodLink RL 56 yX4_most : Cond) ∈ Gw := inG (i := 478) (by decide +kernel) (by decide +kernel)
theorem w_479 : (.instanceMethod yX4_most : Cond) ∈ Gw := inG (i := 479) (by decide +kernel) (by decide +kernel)
theorem w_480 : (.selects RX4 yX4_most yX4_most : Cond) ∈ Gw := inG (i := 480) (by decide +kernel) (by decide +kernel)
theorem w_481 : (.code yX4_most cX4_most 5 (some .int) : Cond) ∈ Gw := inG (i := 481) (by decide +kernel) (by decide +kernel)
theorem w_482 : (.methodLink RL 135 yL_fire : Cond) ∈ Gw := inG (i := 482) (by decide +kernel) (by decide +kernel)
theorem w_483 : (.static yL_fire : Cond) ∈ Gw := inG (i := 483) (by decide +kernel) (by decide +kernel)
theorem w_484 : (.codeWith yL_fire cL_fire 5 (some .int) [(0, 10, 13, 13)] : Cond) ∈ Gw := inG (i := 484) (by decide +kernel) (by decide +kernel)
theorem w_485 : (.methodLink RL 59 yX4_fire : Cond) ∈ Gw := inG (i := 485) (by decide +kernel) (by decide +kernel)
theorem w_486 : (.instanceMethod yX4_fire : Cond) ∈ Gw := inG (i := 486) (by decide +kernel) (by decide +kernel)
theorem w_487 : (.selects RX4 yX4_fire yX4_fire : Cond) ∈ Gw := inG (i := 487) (by decide +kernel) (by decide +kernel)
theorem w_488 : (.code yX4_fire cX4_fire 5 (some .int) : Cond) ∈ Gw := inG (i := 488) (by decide +kernel) (by decide +kernel)
theorem w_489 : (.methodLink RL 138 yL_inspect : Cond) ∈ Gw := inG (i := 489) (by decide +kernel) (by decide +kernel)
theorem w_490 : (.static yL_inspect : Cond) ∈ Gw := inG (i := 490) (by decide +kernel) (by decide +kernel)
theorem w_491 : (.codeWith yL_inspect cL_inspect 5 (some .int) [(0, 10, 13, 13)] : Cond) ∈ Gw := inG (i := 491) (by decide +kernel) (by decide +kernel)
theorem w_492 : (.methodLink RL 62 yX4_inspect : Cond) ∈ Gw := inG (i := 492) (by decide +kernel) (by decide +kernel)
theorem w_493 : (.instanceMethod yX4_inspect : Cond) ∈ Gw := inG (i := 493) (by decide +kernel) (by decide +kernel)
theorem w_494 : (.selects RX4 yX4_inspect yX4_inspect : Cond) ∈ Gw := inG (i := 494) (by decide +kernel) (by decide +kernel)
theorem w_495 : (.code yX4_inspect cX4_inspect 5 (some .int) : Cond) ∈ Gw := inG (i := 495) (by decide +kernel) (by decide +kernel)
theorem w_496 : (.methodLink RL 146 yL_steps : Cond) ∈ Gw := inG (i := 496) (by decide +kernel) (by decide +kernel)
theorem w_497 : (.static yL_steps : Cond) ∈ Gw := inG (i := 497) (by decide +kernel) (by decide +kernel)
theorem w_498 : (.codeWith yL_steps cL_steps 4 (some .int) [(0, 9, 12, 13)] : Cond) ∈ Gw := inG (i := 498) (by decide +kernel) (by decide +kernel)
theorem w_499 : (.methodLink RL 65 yX4_steps : Cond) ∈ Gw := inG (i := 499) (by decide +kernel) (by decide +kernel)
theorem w_500 : (.instanceMethod yX4_steps : Cond) ∈ Gw := inG (i := 500) (by decide +kernel) (by decide +kernel)
theorem w_501 : (.selects RX4 yX4_steps yX4_steps : Cond) ∈ Gw := inG (i := 501) (by decide +kernel) (by decide +kernel)
theorem w_502 : (.code yX4_steps cX4_steps 3 (some .int) : Cond) ∈ Gw := inG (i := 502) (by decide +kernel) (by decide +kernel)
theorem w_503 : (.methodLink RX4 177 yX1_takeStep : Cond) ∈ Gw := inG (i := 503) (by decide +kernel) (by decide +kernel)
theorem w_504 : (.instanceMethod yX1_takeStep : Cond) ∈ Gw := inG (i := 504) (by decide +kernel) (by decide +kernel)
theorem w_505 : (.selects RX1 yX1_takeStep yX1_takeStep : Cond) ∈ Gw := inG (i := 505) (by decide +kernel) (by decide +kernel)
theorem w_506 : (.code yX1_takeStep cX1_takeStep 8 none : Cond) ∈ Gw := inG (i := 506) (by decide +kernel) (by decide +kernel)
theorem w_507 : (.methodLink RX1 88 yX1_modeNow : Cond) ∈ Gw := inG (i := 507) (by decide +kernel) (by decide +kernel)
theorem w_508 : (.instanceMethod yX1_modeNow : Cond) ∈ Gw := inG (i := 508) (by decide +kernel) (by decide +kernel)
theorem w_509 : (.selects RX1 yX1_modeNow yX1_modeNow : Cond) ∈ Gw := inG (i := 509) (by decide +kernel) (by decide +kernel)
theorem w_510 : (.code yX1_modeNow cX1_modeNow 2 (some .int) : Cond) ∈ Gw := inG (i := 510) (by decide +kernel) (by decide +kernel)
theorem w_511 : (.methodLink RX1 92 yX1_wantedPlace : Cond) ∈ Gw := inG (i := 511) (by decide +kernel) (by decide +kernel)
theorem w_512 : (.instanceMethod yX1_wantedPlace : Cond) ∈ Gw := inG (i := 512) (by decide +kernel) (by decide +kernel)
theorem w_513 : (.selects RX1 yX1_wantedPlace yX1_wantedPlace : Cond) ∈ Gw := inG (i := 513) (by decide +kernel) (by decide +kernel)
theorem w_514 : (.code yX1_wantedPlace cX1_wantedPlace 3 (some .int) : Cond) ∈ Gw := inG (i := 514) (by decide +kernel) (by decide +kernel)
theorem w_515 : (.methodLink RX1 62 yX0_firstFloor : Cond) ∈ Gw := inG (i := 515) (by decide +kernel) (by decide +kernel)
theorem w_516 : (.instanceMethod yX0_firstFloor : Cond) ∈ Gw := inG (i := 516) (by decide +kernel) (by decide +kernel)
theorem w_517 : (.selects RX0 yX0_firstFloor yX0_firstFloor : Cond) ∈ Gw := inG (i := 517) (by decide +kernel) (by decide +kernel)
theorem w_518 : (.code yX0_firstFloor cX0_firstFloor 1 (some .int) : Cond) ∈ Gw := inG (i := 518) (by decide +kernel) (by decide +kernel)
theorem w_519 : (.methodLink RX1 66 yX3_placeOf : Cond) ∈ Gw := inG (i := 519) (by decide +kernel) (by decide +kernel)
theorem w_520 : (.methodLink RX1 72 yX3_nearestPlace : Cond) ∈ Gw := inG (i := 520) (by decide +kernel) (by decide +kernel)
theorem w_521 : (.instanceMethod yX3_nearestPlace : Cond) ∈ Gw := inG (i := 521) (by decide +kernel) (by decide +kernel)
theorem w_522 : (.selects RX3 yX3_nearestPlace yX3_nearestPlace : Cond) ∈ Gw := inG (i := 522) (by decide +kernel) (by decide +kernel)
theorem w_523 : (.code yX3_nearestPlace cX3_nearestPlace 4 (some .int) : Cond) ∈ Gw := inG (i := 523) (by decide +kernel) (by decide +kernel)
theorem w_524 : (.methodLink RX3 33 Lib.Math.abs.name : Cond) ∈ Gw := inG (i := 524) (by decide +kernel) (by decide +kernel)
theorem w_525 : (.static Lib.Math.abs.name : Cond) ∈ Gw := inG (i := 525) (by decide +kernel) (by decide +kernel)
theorem w_526 : (.code Lib.Math.abs.name Lib.Math.abs.code 1 (some .int) : Cond) ∈ Gw := inG (i := 526) (by decide +kernel) (by decide +kernel)
theorem w_527 : (.methodLink RX1 75 yX3_topFloor : Cond) ∈ Gw := inG (i := 527) (by decide +kernel) (by decide +kernel)
theorem w_528 : (.methodLink RX1 96 yX1_wayTo : Cond) ∈ Gw := inG (i := 528) (by decide +kernel) (by decide +kernel)
theorem w_530 : (.instanceMethod yX1_wayTo : Cond) ∈ Gw := inG (i := 530) (by decide +kernel) (by decide +kernel)
theorem w_531 : (.code yX1_wayTo cX1_wayTo 2 (some .int) : Cond) ∈ Gw := inG (i := 531) (by decide +kernel) (by decide +kernel)
theorem w_532 : (.methodLink RX1 126 yJ6_compare : Cond) ∈ Gw := inG (i := 532) (by decide +kernel) (by decide +kernel)
theorem w_533 : (.static yJ6_compare : Cond) ∈ Gw := inG (i := 533) (by decide +kernel) (by decide +kernel)
theorem w_534 : (.code yJ6_compare cJ6_compare 2 (some .int) : Cond) ∈ Gw := inG (i := 534) (by decide +kernel) (by decide +kernel)
theorem w_535 : (.methodLink RX1 102 yX1_roomToOther : Cond) ∈ Gw := inG (i := 535) (by decide +kernel) (by decide +kernel)
theorem w_537 : (.instanceMethod yX1_roomToOther : Cond) ∈ Gw := inG (i := 537) (by decide +kernel) (by decide +kernel)
theorem w_538 : (.code yX1_roomToOther cX1_roomToOther 4 (some .int) : Cond) ∈ Gw := inG (i := 538) (by decide +kernel) (by decide +kernel)
theorem w_539 : (.constant RX1 131 1000000000 : Cond) ∈ Gw := inG (i := 539) (by decide +kernel) (by decide +kernel)
theorem w_540 : (.methodLink RX1 132 yX1_standPlace : Cond) ∈ Gw := inG (i := 540) (by decide +kernel) (by decide +kernel)
theorem w_541 : (.methodLink RX1 106 yX1_nextSpeed : Cond) ∈ Gw := inG (i := 541) (by decide +kernel) (by decide +kernel)
theorem w_543 : (.instanceMethod yX1_nextSpeed : Cond) ∈ Gw := inG (i := 543) (by decide +kernel) (by decide +kernel)
theorem w_544 : (.code yX1_nextSpeed cX1_nextSpeed 6 (some .int) : Cond) ∈ Gw := inG (i := 544) (by decide +kernel) (by decide +kernel)
theorem w_545 : (.methodLink RX1 135 yX1_mayStart : Cond) ∈ Gw := inG (i := 545) (by decide +kernel) (by decide +kernel)
theorem w_547 : (.instanceMethod yX1_mayStart : Cond) ∈ Gw := inG (i := 547) (by decide +kernel) (by decide +kernel)
theorem w_548 : (.code yX1_mayStart cX1_mayStart 2 (some .boolean) : Cond) ∈ Gw := inG (i := 548) (by decide +kernel) (by decide +kernel)
theorem w_549 : (.methodLink RX1 118 yX1_isOverloaded : Cond) ∈ Gw := inG (i := 549) (by decide +kernel) (by decide +kernel)
theorem w_550 : (.methodLink RX1 139 yX1_limitIn : Cond) ∈ Gw := inG (i := 550) (by decide +kernel) (by decide +kernel)
theorem w_552 : (.instanceMethod yX1_limitIn : Cond) ∈ Gw := inG (i := 552) (by decide +kernel) (by decide +kernel)
theorem w_553 : (.code yX1_limitIn cX1_limitIn 2 (some .int) : Cond) ∈ Gw := inG (i := 553) (by decide +kernel) (by decide +kernel)
theorem w_554 : (.methodLink RX1 142 yX1_speedWithin : Cond) ∈ Gw := inG (i := 554) (by decide +kernel) (by decide +kernel)
theorem w_556 : (.instanceMethod yX1_speedWithin : Cond) ∈ Gw := inG (i := 556) (by decide +kernel) (by decide +kernel)
theorem w_557 : (.code yX1_speedWithin cX1_speedWithin 2 (some .int) : Cond) ∈ Gw := inG (i := 557) (by decide +kernel) (by decide +kernel)
theorem w_558 : (.methodLink RX1 159 Lib.Math.max.name : Cond) ∈ Gw := inG (i := 558) (by decide +kernel) (by decide +kernel)
theorem w_559 : (.methodLink RX1 162 Lib.Math.min.name : Cond) ∈ Gw := inG (i := 559) (by decide +kernel) (by decide +kernel)
theorem w_560 : (.methodLink RX1 145 Lib.Math.abs.name : Cond) ∈ Gw := inG (i := 560) (by decide +kernel) (by decide +kernel)
theorem w_561 : (.methodLink RX1 150 yX1_greatestSpeed : Cond) ∈ Gw := inG (i := 561) (by decide +kernel) (by decide +kernel)
theorem w_563 : (.instanceMethod yX1_greatestSpeed : Cond) ∈ Gw := inG (i := 563) (by decide +kernel) (by decide +kernel)
theorem w_564 : (.code yX1_greatestSpeed cX1_greatestSpeed 8 (some .int) : Cond) ∈ Gw := inG (i := 564) (by decide +kernel) (by decide +kernel)
theorem w_565 : (.methodLink RX1 168 yX1_fits : Cond) ∈ Gw := inG (i := 565) (by decide +kernel) (by decide +kernel)
theorem w_567 : (.instanceMethod yX1_fits : Cond) ∈ Gw := inG (i := 567) (by decide +kernel) (by decide +kernel)
theorem w_568 : (.code yX1_fits cX1_fits 4 (some .boolean) : Cond) ∈ Gw := inG (i := 568) (by decide +kernel) (by decide +kernel)
theorem w_569 : (.methodLink RX1 165 yX1_leastSpeed : Cond) ∈ Gw := inG (i := 569) (by decide +kernel) (by decide +kernel)
theorem w_571 : (.instanceMethod yX1_leastSpeed : Cond) ∈ Gw := inG (i := 571) (by decide +kernel) (by decide +kernel)
theorem w_572 : (.code yX1_leastSpeed cX1_leastSpeed 1 (some .int) : Cond) ∈ Gw := inG (i := 572) (by decide +kernel) (by decide +kernel)
theorem w_573 : (.methodLink RX1 153 yX1_brakingSpeed : Cond) ∈ Gw := inG (i := 573) (by decide +kernel) (by decide +kernel)
theorem w_575 : (.instanceMethod yX1_brakingSpeed : Cond) ∈ Gw := inG (i := 575) (by decide +kernel) (by decide +kernel)
theorem w_576 : (.code yX1_brakingSpeed cX1_brakingSpeed 5 (some .int) : Cond) ∈ Gw := inG (i := 576) (by decide +kernel) (by decide +kernel)
theorem w_577 : (.methodLink RX1 110 yX1_goOn : Cond) ∈ Gw := inG (i := 577) (by decide +kernel) (by decide +kernel)
theorem w_579 : (.instanceMethod yX1_goOn : Cond) ∈ Gw := inG (i := 579) (by decide +kernel) (by decide +kernel)
theorem w_580 : (.code yX1_goOn cX1_goOn 3 none : Cond) ∈ Gw := inG (i := 580) (by decide +kernel) (by decide +kernel)
theorem w_581 : (.methodLink RX1 114 yX1_land : Cond) ∈ Gw := inG (i := 581) (by decide +kernel) (by decide +kernel)
theorem w_583 : (.instanceMethod yX1_land : Cond) ∈ Gw := inG (i := 583) (by decide +kernel) (by decide +kernel)
theorem w_584 : (.code yX1_land cX1_land 2 none : Cond) ∈ Gw := inG (i := 584) (by decide +kernel) (by decide +kernel)
theorem w_585 : (.methodLink RX1 181 yX0_endFirst : Cond) ∈ Gw := inG (i := 585) (by decide +kernel) (by decide +kernel)
theorem w_586 : (.instanceMethod yX0_endFirst : Cond) ∈ Gw := inG (i := 586) (by decide +kernel) (by decide +kernel)
theorem w_587 : (.selects RX0 yX0_endFirst yX0_endFirst : Cond) ∈ Gw := inG (i := 587) (by decide +kernel) (by decide +kernel)
theorem w_588 : (.code yX0_endFirst cX0_endFirst 2 none : Cond) ∈ Gw := inG (i := 588) (by decide +kernel) (by decide +kernel)
theorem w_589 : (.methodLink RX1 184 yX2_openForLanding : Cond) ∈ Gw := inG (i := 589) (by decide +kernel) (by decide +kernel)
theorem w_590 : (.instanceMethod yX2_openForLanding : Cond) ∈ Gw := inG (i := 590) (by decide +kernel) (by decide +kernel)
theorem w_591 : (.selects RX2 yX2_openForLanding yX2_openForLanding : Cond) ∈ Gw := inG (i := 591) (by decide +kernel) (by decide +kernel)
theorem w_592 : (.code yX2_openForLanding cX2_openForLanding 1 none : Cond) ∈ Gw := inG (i := 592) (by decide +kernel) (by decide +kernel)
theorem w_593 : (.methodLink RX2 30 yX2_turnToOpening : Cond) ∈ Gw := inG (i := 593) (by decide +kernel) (by decide +kernel)
theorem w_594 : (.methodLink RX1 122 yX2_takeStep : Cond) ∈ Gw := inG (i := 594) (by decide +kernel) (by decide +kernel)
theorem w_595 : (.instanceMethod yX2_takeStep : Cond) ∈ Gw := inG (i := 595) (by decide +kernel) (by decide +kernel)
theorem w_596 : (.selects RX2 yX2_takeStep yX2_takeStep : Cond) ∈ Gw := inG (i := 596) (by decide +kernel) (by decide +kernel)
theorem w_597 : (.code yX2_takeStep cX2_takeStep 4 none : Cond) ∈ Gw := inG (i := 597) (by decide +kernel) (by decide +kernel)
theorem w_598 : (.methodLink RX2 34 yX2_openFurther : Cond) ∈ Gw := inG (i := 598) (by decide +kernel) (by decide +kernel)
theorem w_600 : (.instanceMethod yX2_openFurther : Cond) ∈ Gw := inG (i := 600) (by decide +kernel) (by decide +kernel)
theorem w_601 : (.code yX2_openFurther cX2_openFurther 1 none : Cond) ∈ Gw := inG (i := 601) (by decide +kernel) (by decide +kernel)
theorem w_602 : (.methodLink RX2 51 Lib.Math.min.name : Cond) ∈ Gw := inG (i := 602) (by decide +kernel) (by decide +kernel)
theorem w_603 : (.methodLink RX2 37 yX2_isTimeToClose : Cond) ∈ Gw := inG (i := 603) (by decide +kernel) (by decide +kernel)
theorem w_605 : (.instanceMethod yX2_isTimeToClose : Cond) ∈ Gw := inG (i := 605) (by decide +kernel) (by decide +kernel)
theorem w_606 : (.code yX2_isTimeToClose cX2_isTimeToClose 3 (some .boolean) : Cond) ∈ Gw := inG (i := 606) (by decide +kernel) (by decide +kernel)
theorem w_607 : (.methodLink RX2 45 yX2_closeFurther : Cond) ∈ Gw := inG (i := 607) (by decide +kernel) (by decide +kernel)
theorem w_609 : (.instanceMethod yX2_closeFurther : Cond) ∈ Gw := inG (i := 609) (by decide +kernel) (by decide +kernel)
theorem w_610 : (.code yX2_closeFurther cX2_closeFurther 1 none : Cond) ∈ Gw := inG (i := 610) (by decide +kernel) (by decide +kernel)
theorem w_611 : (.methodLink RX2 57 Lib.Math.max.name : Cond) ∈ Gw := inG (i := 611) (by decide +kernel) (by decide +kernel)
theorem w_612 : (.methodLink RL 149 yL_told : Cond) ∈ Gw := inG (i := 612) (by decide +kernel) (by decide +kernel)
theorem w_613 : (.static yL_told : Cond) ∈ Gw := inG (i := 613) (by decide +kernel) (by decide +kernel)
theorem w_614 : (.codeWith yL_told cL_told 5 (some .int) [(0, 10, 13, 13)] : Cond) ∈ Gw := inG (i := 614) (by decide +kernel) (by decide +kernel)
theorem w_615 : (.methodLink RL 68 yX4_told : Cond) ∈ Gw := inG (i := 615) (by decide +kernel) (by decide +kernel)
theorem w_616 : (.instanceMethod yX4_told : Cond) ∈ Gw := inG (i := 616) (by decide +kernel) (by decide +kernel)
theorem w_617 : (.selects RX4 yX4_told yX4_told : Cond) ∈ Gw := inG (i := 617) (by decide +kernel) (by decide +kernel)
theorem w_618 : (.code yX4_told cX4_told 4 (some .int) : Cond) ∈ Gw := inG (i := 618) (by decide +kernel) (by decide +kernel)
theorem w_619 : (.methodLink RX4 187 yX1_modeNow : Cond) ∈ Gw := inG (i := 619) (by decide +kernel) (by decide +kernel)
theorem w_620 : (.methodLink RX4 192 yX1_wantedPlace : Cond) ∈ Gw := inG (i := 620) (by decide +kernel) (by decide +kernel)
theorem w_622 : (.methodLink RL 152 yL_wear : Cond) ∈ Gw := inG (i := 622) (by decide +kernel) (by decide +kernel)
theorem w_623 : (.static yL_wear : Cond) ∈ Gw := inG (i := 623) (by decide +kernel) (by decide +kernel)
theorem w_624 : (.codeWith yL_wear cL_wear 5 (some .int) [(0, 10, 13, 13)] : Cond) ∈ Gw := inG (i := 624) (by decide +kernel) (by decide +kernel)
theorem w_625 : (.methodLink RL 71 yX4_wear : Cond) ∈ Gw := inG (i := 625) (by decide +kernel) (by decide +kernel)
theorem w_626 : (.instanceMethod yX4_wear : Cond) ∈ Gw := inG (i := 626) (by decide +kernel) (by decide +kernel)
theorem w_627 : (.selects RX4 yX4_wear yX4_wear : Cond) ∈ Gw := inG (i := 627) (by decide +kernel) (by decide +kernel)
theorem w_628 : (.code yX4_wear cX4_wear 4 (some .int) : Cond) ∈ Gw := inG (i := 628) (by decide +kernel) (by decide +kernel)
theorem w_630 : (.classLink RL 83 RX5 : Cond) ∈ Gw := inG (i := 630) (by decide +kernel) (by decide +kernel)
theorem w_631 : (.instantiable RX5 28 : Cond) ∈ Gw := inG (i := 631) (by decide +kernel) (by decide +kernel)
theorem w_632 : (.methodLink RL 85 yX5_init : Cond) ∈ Gw := inG (i := 632) (by decide +kernel) (by decide +kernel)
theorem w_633 : (.instanceMethod yX5_init : Cond) ∈ Gw := inG (i := 633) (by decide +kernel) (by decide +kernel)
theorem w_634 : (.code yX5_init cX5_init 3 none : Cond) ∈ Gw := inG (i := 634) (by decide +kernel) (by decide +kernel)
theorem w_635 : (.methodLink RX5 1 objectInit : Cond) ∈ Gw := inG (i := 635) (by decide +kernel) (by decide +kernel)
theorem w_636 : (.fieldLink RX5 84 "CarStepsModel" "thrown" "I" : Cond) ∈ Gw := inG (i := 636) (by decide +kernel) (by decide +kernel)
theorem w_637 : (.fieldLink RX5 81 "CarStepsModel" "floors" "I" : Cond) ∈ Gw := inG (i := 637) (by decide +kernel) (by decide +kernel)
theorem w_638 : (.fieldLink RX5 7 "CarStepsModel" "heights" "[I" : Cond) ∈ Gw := inG (i := 638) (by decide +kernel) (by decide +kernel)
theorem w_639 : (.fieldLink RX5 13 "CarStepsModel" "gap" "I" : Cond) ∈ Gw := inG (i := 639) (by decide +kernel) (by decide +kernel)
theorem w_640 : (.fieldLink RX5 98 "CarStepsModel" "cars" "I" : Cond) ∈ Gw := inG (i := 640) (by decide +kernel) (by decide +kernel)
theorem w_641 : (.fieldLink RX5 104 "CarStepsModel" "dark" "Z" : Cond) ∈ Gw := inG (i := 641) (by decide +kernel) (by decide +kernel)
theorem w_642 : (.fieldLink RX5 165 "CarStepsModel" "steps" "I" : Cond) ∈ Gw := inG (i := 642) (by decide +kernel) (by decide +kernel)
theorem w_643 : (.fieldLink RX5 17 "CarStepsModel" "places" "[I" : Cond) ∈ Gw := inG (i := 643) (by decide +kernel) (by decide +kernel)
theorem w_644 : (.fieldLink RX5 20 "CarStepsModel" "speeds" "[I" : Cond) ∈ Gw := inG (i := 644) (by decide +kernel) (by decide +kernel)
theorem w_645 : (.fieldLink RX5 23 "CarStepsModel" "most" "[I" : Cond) ∈ Gw := inG (i := 645) (by decide +kernel) (by decide +kernel)
theorem w_646 : (.fieldLink RX5 26 "CarStepsModel" "gains" "[I" : Cond) ∈ Gw := inG (i := 646) (by decide +kernel) (by decide +kernel)
theorem w_647 : (.fieldLink RX5 29 "CarStepsModel" "brakes" "[I" : Cond) ∈ Gw := inG (i := 647) (by decide +kernel) (by decide +kernel)
theorem w_648 : (.fieldLink RX5 32 "CarStepsModel" "slows" "[I" : Cond) ∈ Gw := inG (i := 648) (by decide +kernel) (by decide +kernel)
theorem w_649 : (.fieldLink RX5 35 "CarStepsModel" "rides" "[I" : Cond) ∈ Gw := inG (i := 649) (by decide +kernel) (by decide +kernel)
theorem w_650 : (.fieldLink RX5 38 "CarStepsModel" "doors" "[I" : Cond) ∈ Gw := inG (i := 650) (by decide +kernel) (by decide +kernel)
theorem w_651 : (.fieldLink RX5 41 "CarStepsModel" "doorPlaces" "[I" : Cond) ∈ Gw := inG (i := 651) (by decide +kernel) (by decide +kernel)
theorem w_652 : (.fieldLink RX5 44 "CarStepsModel" "opened" "[I" : Cond) ∈ Gw := inG (i := 652) (by decide +kernel) (by decide +kernel)
theorem w_653 : (.fieldLink RX5 47 "CarStepsModel" "wide" "[I" : Cond) ∈ Gw := inG (i := 653) (by decide +kernel) (by decide +kernel)
theorem w_654 : (.fieldLink RX5 50 "CarStepsModel" "holds" "[I" : Cond) ∈ Gw := inG (i := 654) (by decide +kernel) (by decide +kernel)
theorem w_655 : (.fieldLink RX5 53 "CarStepsModel" "loads" "[I" : Cond) ∈ Gw := inG (i := 655) (by decide +kernel) (by decide +kernel)
theorem w_656 : (.fieldLink RX5 56 "CarStepsModel" "mostLoads" "[I" : Cond) ∈ Gw := inG (i := 656) (by decide +kernel) (by decide +kernel)
theorem w_657 : (.fieldLink RX5 59 "CarStepsModel" "beams" "[Z" : Cond) ∈ Gw := inG (i := 657) (by decide +kernel) (by decide +kernel)
theorem w_658 : (.fieldLink RX5 63 "CarStepsModel" "contacts" "[I" : Cond) ∈ Gw := inG (i := 658) (by decide +kernel) (by decide +kernel)
theorem w_659 : (.fieldLink RX5 66 "CarStepsModel" "fires" "[I" : Cond) ∈ Gw := inG (i := 659) (by decide +kernel) (by decide +kernel)
theorem w_660 : (.fieldLink RX5 69 "CarStepsModel" "ways" "[I" : Cond) ∈ Gw := inG (i := 660) (by decide +kernel) (by decide +kernel)
theorem w_661 : (.fieldLink RX5 72 "CarStepsModel" "calls" "[I" : Cond) ∈ Gw := inG (i := 661) (by decide +kernel) (by decide +kernel)
theorem w_662 : (.fieldLink RX5 75 "CarStepsModel" "callCounts" "[I" : Cond) ∈ Gw := inG (i := 662) (by decide +kernel) (by decide +kernel)
theorem w_663 : (.fieldLink RX5 78 "CarStepsModel" "wears" "[I" : Cond) ∈ Gw := inG (i := 663) (by decide +kernel) (by decide +kernel)
theorem w_721 : (.arrayClass .boolean : Cond) ∈ Gw := inG (i := 721) (by decide +kernel) (by decide +kernel)
theorem w_722 : (.methodLink RL 90 yX5_thrown : Cond) ∈ Gw := inG (i := 722) (by decide +kernel) (by decide +kernel)
theorem w_723 : (.instanceMethod yX5_thrown : Cond) ∈ Gw := inG (i := 723) (by decide +kernel) (by decide +kernel)
theorem w_724 : (.selects RX5 yX5_thrown yX5_thrown : Cond) ∈ Gw := inG (i := 724) (by decide +kernel) (by decide +kernel)
theorem w_725 : (.code yX5_thrown cX5_thrown 1 (some .int) : Cond) ∈ Gw := inG (i := 725) (by decide +kernel) (by decide +kernel)
theorem w_726 : (.methodLink RL 89 yX5_height : Cond) ∈ Gw := inG (i := 726) (by decide +kernel) (by decide +kernel)
theorem w_727 : (.instanceMethod yX5_height : Cond) ∈ Gw := inG (i := 727) (by decide +kernel) (by decide +kernel)
theorem w_728 : (.selects RX5 yX5_height yX5_height : Cond) ∈ Gw := inG (i := 728) (by decide +kernel) (by decide +kernel)
theorem w_729 : (.code yX5_height cX5_height 6 (some .int) : Cond) ∈ Gw := inG (i := 729) (by decide +kernel) (by decide +kernel)
theorem w_730 : (.methodLink RX5 143 yX5_isFloor : Cond) ∈ Gw := inG (i := 730) (by decide +kernel) (by decide +kernel)
theorem w_732 : (.instanceMethod yX5_isFloor : Cond) ∈ Gw := inG (i := 732) (by decide +kernel) (by decide +kernel)
theorem w_733 : (.code yX5_isFloor cX5_isFloor 2 (some .boolean) : Cond) ∈ Gw := inG (i := 733) (by decide +kernel) (by decide +kernel)
theorem w_734 : (.constant RX5 147 100000 : Cond) ∈ Gw := inG (i := 734) (by decide +kernel) (by decide +kernel)
theorem w_735 : (.methodLink RX5 148 yX5_in : Cond) ∈ Gw := inG (i := 735) (by decide +kernel) (by decide +kernel)
theorem w_736 : (.static yX5_in : Cond) ∈ Gw := inG (i := 736) (by decide +kernel) (by decide +kernel)
theorem w_737 : (.code yX5_in cX5_in 3 (some .boolean) : Cond) ∈ Gw := inG (i := 737) (by decide +kernel) (by decide +kernel)
theorem w_738 : (.methodLink RX5 151 yX5_goes : Cond) ∈ Gw := inG (i := 738) (by decide +kernel) (by decide +kernel)
theorem w_740 : (.instanceMethod yX5_goes : Cond) ∈ Gw := inG (i := 740) (by decide +kernel) (by decide +kernel)
theorem w_741 : (.code yX5_goes cX5_goes 3 (some .boolean) : Cond) ∈ Gw := inG (i := 741) (by decide +kernel) (by decide +kernel)
theorem w_742 : (.methodLink RL 97 yX5_gap : Cond) ∈ Gw := inG (i := 742) (by decide +kernel) (by decide +kernel)
theorem w_743 : (.instanceMethod yX5_gap : Cond) ∈ Gw := inG (i := 743) (by decide +kernel) (by decide +kernel)
theorem w_744 : (.selects RX5 yX5_gap yX5_gap : Cond) ∈ Gw := inG (i := 744) (by decide +kernel) (by decide +kernel)
theorem w_745 : (.code yX5_gap cX5_gap 3 (some .int) : Cond) ∈ Gw := inG (i := 745) (by decide +kernel) (by decide +kernel)
theorem w_746 : (.methodLink RL 100 yX5_car : Cond) ∈ Gw := inG (i := 746) (by decide +kernel) (by decide +kernel)
theorem w_747 : (.instanceMethod yX5_car : Cond) ∈ Gw := inG (i := 747) (by decide +kernel) (by decide +kernel)
theorem w_748 : (.selects RX5 yX5_car yX5_car : Cond) ∈ Gw := inG (i := 748) (by decide +kernel) (by decide +kernel)
theorem w_749 : (.code yX5_car cX5_car 4 (some .int) : Cond) ∈ Gw := inG (i := 749) (by decide +kernel) (by decide +kernel)
theorem w_750 : (.methodLink RX5 101 yX5_stands : Cond) ∈ Gw := inG (i := 750) (by decide +kernel) (by decide +kernel)
theorem w_752 : (.instanceMethod yX5_stands : Cond) ∈ Gw := inG (i := 752) (by decide +kernel) (by decide +kernel)
theorem w_753 : (.code yX5_stands cX5_stands 3 (some .int) : Cond) ∈ Gw := inG (i := 753) (by decide +kernel) (by decide +kernel)
theorem w_754 : (.methodLink RX5 87 yX5_sign : Cond) ∈ Gw := inG (i := 754) (by decide +kernel) (by decide +kernel)
theorem w_755 : (.static yX5_sign : Cond) ∈ Gw := inG (i := 755) (by decide +kernel) (by decide +kernel)
theorem w_756 : (.code yX5_sign cX5_sign 1 (some .int) : Cond) ∈ Gw := inG (i := 756) (by decide +kernel) (by decide +kernel)
theorem w_757 : (.methodLink RX5 91 yX5_size : Cond) ∈ Gw := inG (i := 757) (by decide +kernel) (by decide +kernel)
theorem w_758 : (.static yX5_size : Cond) ∈ Gw := inG (i := 758) (by decide +kernel) (by decide +kernel)
theorem w_759 : (.code yX5_size cX5_size 1 (some .int) : Cond) ∈ Gw := inG (i := 759) (by decide +kernel) (by decide +kernel)
theorem w_760 : (.methodLink RX5 94 yX5_length : Cond) ∈ Gw := inG (i := 760) (by decide +kernel) (by decide +kernel)
theorem w_761 : (.static yX5_length : Cond) ∈ Gw := inG (i := 761) (by decide +kernel) (by decide +kernel)
theorem w_762 : (.code yX5_length cX5_length 3 (some .int) : Cond) ∈ Gw := inG (i := 762) (by decide +kernel) (by decide +kernel)
theorem w_763 : (.methodLink RL 104 yX5_rates : Cond) ∈ Gw := inG (i := 763) (by decide +kernel) (by decide +kernel)
theorem w_764 : (.instanceMethod yX5_rates : Cond) ∈ Gw := inG (i := 764) (by decide +kernel) (by decide +kernel)
theorem w_765 : (.selects RX5 yX5_rates yX5_rates : Cond) ∈ Gw := inG (i := 765) (by decide +kernel) (by decide +kernel)
theorem w_766 : (.code yX5_rates cX5_rates 6 none : Cond) ∈ Gw := inG (i := 766) (by decide +kernel) (by decide +kernel)
theorem w_767 : (.methodLink RX5 155 yX5_isCar : Cond) ∈ Gw := inG (i := 767) (by decide +kernel) (by decide +kernel)
theorem w_769 : (.instanceMethod yX5_isCar : Cond) ∈ Gw := inG (i := 769) (by decide +kernel) (by decide +kernel)
theorem w_770 : (.code yX5_isCar cX5_isCar 2 (some .boolean) : Cond) ∈ Gw := inG (i := 770) (by decide +kernel) (by decide +kernel)
theorem w_771 : (.methodLink RL 108 yX5_slow : Cond) ∈ Gw := inG (i := 771) (by decide +kernel) (by decide +kernel)
theorem w_772 : (.instanceMethod yX5_slow : Cond) ∈ Gw := inG (i := 772) (by decide +kernel) (by decide +kernel)
theorem w_773 : (.selects RX5 yX5_slow yX5_slow : Cond) ∈ Gw := inG (i := 773) (by decide +kernel) (by decide +kernel)
theorem w_774 : (.code yX5_slow cX5_slow 4 none : Cond) ∈ Gw := inG (i := 774) (by decide +kernel) (by decide +kernel)
theorem w_775 : (.methodLink RL 111 yX5_door_ : Cond) ∈ Gw := inG (i := 775) (by decide +kernel) (by decide +kernel)
theorem w_776 : (.instanceMethod yX5_door_ : Cond) ∈ Gw := inG (i := 776) (by decide +kernel) (by decide +kernel)
theorem w_777 : (.selects RX5 yX5_door_ yX5_door_ : Cond) ∈ Gw := inG (i := 777) (by decide +kernel) (by decide +kernel)
theorem w_778 : (.code yX5_door_ cX5_door_ 5 none : Cond) ∈ Gw := inG (i := 778) (by decide +kernel) (by decide +kernel)
theorem w_779 : (.methodLink RL 114 yX5_go : Cond) ∈ Gw := inG (i := 779) (by decide +kernel) (by decide +kernel)
theorem w_780 : (.instanceMethod yX5_go : Cond) ∈ Gw := inG (i := 780) (by decide +kernel) (by decide +kernel)
theorem w_781 : (.selects RX5 yX5_go yX5_go : Cond) ∈ Gw := inG (i := 781) (by decide +kernel) (by decide +kernel)
theorem w_782 : (.code yX5_go cX5_go 4 (some .int) : Cond) ∈ Gw := inG (i := 782) (by decide +kernel) (by decide +kernel)
theorem w_783 : (.methodLink RL 117 yX5_open : Cond) ∈ Gw := inG (i := 783) (by decide +kernel) (by decide +kernel)
theorem w_784 : (.instanceMethod yX5_open : Cond) ∈ Gw := inG (i := 784) (by decide +kernel) (by decide +kernel)
theorem w_785 : (.selects RX5 yX5_open yX5_open : Cond) ∈ Gw := inG (i := 785) (by decide +kernel) (by decide +kernel)
theorem w_786 : (.code yX5_open cX5_open 2 (some .boolean) : Cond) ∈ Gw := inG (i := 786) (by decide +kernel) (by decide +kernel)
theorem w_787 : (.methodLink RX5 158 yX5_floorAt : Cond) ∈ Gw := inG (i := 787) (by decide +kernel) (by decide +kernel)
theorem w_789 : (.instanceMethod yX5_floorAt : Cond) ∈ Gw := inG (i := 789) (by decide +kernel) (by decide +kernel)
theorem w_790 : (.code yX5_floorAt cX5_floorAt 4 (some .int) : Cond) ∈ Gw := inG (i := 790) (by decide +kernel) (by decide +kernel)
theorem w_791 : (.methodLink RX5 125 yX5_reopen : Cond) ∈ Gw := inG (i := 791) (by decide +kernel) (by decide +kernel)
theorem w_793 : (.instanceMethod yX5_reopen : Cond) ∈ Gw := inG (i := 793) (by decide +kernel) (by decide +kernel)
theorem w_794 : (.code yX5_reopen cX5_reopen 3 none : Cond) ∈ Gw := inG (i := 794) (by decide +kernel) (by decide +kernel)
theorem w_795 : (.methodLink RL 120 yX5_close : Cond) ∈ Gw := inG (i := 795) (by decide +kernel) (by decide +kernel)
theorem w_796 : (.instanceMethod yX5_close : Cond) ∈ Gw := inG (i := 796) (by decide +kernel) (by decide +kernel)
theorem w_797 : (.selects RX5 yX5_close yX5_close : Cond) ∈ Gw := inG (i := 797) (by decide +kernel) (by decide +kernel)
theorem w_798 : (.code yX5_close cX5_close 2 (some .boolean) : Cond) ∈ Gw := inG (i := 798) (by decide +kernel) (by decide +kernel)
theorem w_799 : (.methodLink RL 124 yX5_beam : Cond) ∈ Gw := inG (i := 799) (by decide +kernel) (by decide +kernel)
theorem w_800 : (.instanceMethod yX5_beam : Cond) ∈ Gw := inG (i := 800) (by decide +kernel) (by decide +kernel)
theorem w_801 : (.selects RX5 yX5_beam yX5_beam : Cond) ∈ Gw := inG (i := 801) (by decide +kernel) (by decide +kernel)
theorem w_802 : (.code yX5_beam cX5_beam 4 (some .boolean) : Cond) ∈ Gw := inG (i := 802) (by decide +kernel) (by decide +kernel)
theorem w_803 : (.methodLink RL 128 yX5_contact : Cond) ∈ Gw := inG (i := 803) (by decide +kernel) (by decide +kernel)
theorem w_804 : (.instanceMethod yX5_contact : Cond) ∈ Gw := inG (i := 804) (by decide +kernel) (by decide +kernel)
theorem w_805 : (.selects RX5 yX5_contact yX5_contact : Cond) ∈ Gw := inG (i := 805) (by decide +kernel) (by decide +kernel)
theorem w_806 : (.code yX5_contact cX5_contact 5 (some .boolean) : Cond) ∈ Gw := inG (i := 806) (by decide +kernel) (by decide +kernel)
theorem w_807 : (.methodLink RL 131 yX5_load : Cond) ∈ Gw := inG (i := 807) (by decide +kernel) (by decide +kernel)
theorem w_808 : (.instanceMethod yX5_load : Cond) ∈ Gw := inG (i := 808) (by decide +kernel) (by decide +kernel)
theorem w_809 : (.selects RX5 yX5_load yX5_load : Cond) ∈ Gw := inG (i := 809) (by decide +kernel) (by decide +kernel)
theorem w_810 : (.code yX5_load cX5_load 4 (some .int) : Cond) ∈ Gw := inG (i := 810) (by decide +kernel) (by decide +kernel)
theorem w_811 : (.methodLink RL 134 yX5_most : Cond) ∈ Gw := inG (i := 811) (by decide +kernel) (by decide +kernel)
theorem w_812 : (.instanceMethod yX5_most : Cond) ∈ Gw := inG (i := 812) (by decide +kernel) (by decide +kernel)
theorem w_813 : (.selects RX5 yX5_most yX5_most : Cond) ∈ Gw := inG (i := 813) (by decide +kernel) (by decide +kernel)
theorem w_814 : (.code yX5_most cX5_most 4 (some .int) : Cond) ∈ Gw := inG (i := 814) (by decide +kernel) (by decide +kernel)
theorem w_815 : (.methodLink RL 137 yX5_fire : Cond) ∈ Gw := inG (i := 815) (by decide +kernel) (by decide +kernel)
theorem w_816 : (.instanceMethod yX5_fire : Cond) ∈ Gw := inG (i := 816) (by decide +kernel) (by decide +kernel)
theorem w_817 : (.selects RX5 yX5_fire yX5_fire : Cond) ∈ Gw := inG (i := 817) (by decide +kernel) (by decide +kernel)
theorem w_818 : (.code yX5_fire cX5_fire 4 (some .int) : Cond) ∈ Gw := inG (i := 818) (by decide +kernel) (by decide +kernel)
theorem w_819 : (.methodLink RL 140 yX5_inspect : Cond) ∈ Gw := inG (i := 819) (by decide +kernel) (by decide +kernel)
theorem w_820 : (.instanceMethod yX5_inspect : Cond) ∈ Gw := inG (i := 820) (by decide +kernel) (by decide +kernel)
theorem w_821 : (.selects RX5 yX5_inspect yX5_inspect : Cond) ∈ Gw := inG (i := 821) (by decide +kernel) (by decide +kernel)
theorem w_822 : (.code yX5_inspect cX5_inspect 4 (some .int) : Cond) ∈ Gw := inG (i := 822) (by decide +kernel) (by decide +kernel)
theorem w_823 : (.methodLink RL 145 yX5_power : Cond) ∈ Gw := inG (i := 823) (by decide +kernel) (by decide +kernel)
theorem w_824 : (.instanceMethod yX5_power : Cond) ∈ Gw := inG (i := 824) (by decide +kernel) (by decide +kernel)
theorem w_825 : (.selects RX5 yX5_power yX5_power : Cond) ∈ Gw := inG (i := 825) (by decide +kernel) (by decide +kernel)
theorem w_826 : (.code yX5_power cX5_power 3 (some .boolean) : Cond) ∈ Gw := inG (i := 826) (by decide +kernel) (by decide +kernel)
theorem w_827 : (.methodLink RL 148 yX5_steps : Cond) ∈ Gw := inG (i := 827) (by decide +kernel) (by decide +kernel)
theorem w_828 : (.instanceMethod yX5_steps : Cond) ∈ Gw := inG (i := 828) (by decide +kernel) (by decide +kernel)
theorem w_829 : (.selects RX5 yX5_steps yX5_steps : Cond) ∈ Gw := inG (i := 829) (by decide +kernel) (by decide +kernel)
theorem w_830 : (.code yX5_steps cX5_steps 4 (some .int) : Cond) ∈ Gw := inG (i := 830) (by decide +kernel) (by decide +kernel)
theorem w_831 : (.methodLink RX5 161 yX5_step : Cond) ∈ Gw := inG (i := 831) (by decide +kernel) (by decide +kernel)
theorem w_833 : (.instanceMethod yX5_step : Cond) ∈ Gw := inG (i := 833) (by decide +kernel) (by decide +kernel)
theorem w_834 : (.code yX5_step cX5_step 8 none : Cond) ∈ Gw := inG (i := 834) (by decide +kernel) (by decide +kernel)
theorem w_835 : (.methodLink RX5 108 yX5_mode : Cond) ∈ Gw := inG (i := 835) (by decide +kernel) (by decide +kernel)
theorem w_837 : (.instanceMethod yX5_mode : Cond) ∈ Gw := inG (i := 837) (by decide +kernel) (by decide +kernel)
theorem w_838 : (.code yX5_mode cX5_mode 2 (some .int) : Cond) ∈ Gw := inG (i := 838) (by decide +kernel) (by decide +kernel)
theorem w_839 : (.methodLink RX5 129 yX5_wanted : Cond) ∈ Gw := inG (i := 839) (by decide +kernel) (by decide +kernel)
theorem w_841 : (.instanceMethod yX5_wanted : Cond) ∈ Gw := inG (i := 841) (by decide +kernel) (by decide +kernel)
theorem w_842 : (.code yX5_wanted cX5_wanted 2 (some .int) : Cond) ∈ Gw := inG (i := 842) (by decide +kernel) (by decide +kernel)
theorem w_843 : (.methodLink RX5 111 yX5_nearest : Cond) ∈ Gw := inG (i := 843) (by decide +kernel) (by decide +kernel)
theorem w_845 : (.instanceMethod yX5_nearest : Cond) ∈ Gw := inG (i := 845) (by decide +kernel) (by decide +kernel)
theorem w_846 : (.code yX5_nearest cX5_nearest 4 (some .int) : Cond) ∈ Gw := inG (i := 846) (by decide +kernel) (by decide +kernel)
theorem w_847 : (.methodLink RX5 132 yX5_next : Cond) ∈ Gw := inG (i := 847) (by decide +kernel) (by decide +kernel)
theorem w_849 : (.instanceMethod yX5_next : Cond) ∈ Gw := inG (i := 849) (by decide +kernel) (by decide +kernel)
theorem w_850 : (.code yX5_next cX5_next 11 (some .int) : Cond) ∈ Gw := inG (i := 850) (by decide +kernel) (by decide +kernel)
theorem w_851 : (.methodLink RX5 118 yX5_limit : Cond) ∈ Gw := inG (i := 851) (by decide +kernel) (by decide +kernel)
theorem w_853 : (.instanceMethod yX5_limit : Cond) ∈ Gw := inG (i := 853) (by decide +kernel) (by decide +kernel)
theorem w_854 : (.code yX5_limit cX5_limit 3 (some .int) : Cond) ∈ Gw := inG (i := 854) (by decide +kernel) (by decide +kernel)
theorem w_855 : (.methodLink RX5 121 yX5_greatest : Cond) ∈ Gw := inG (i := 855) (by decide +kernel) (by decide +kernel)
theorem w_857 : (.instanceMethod yX5_greatest : Cond) ∈ Gw := inG (i := 857) (by decide +kernel) (by decide +kernel)
theorem w_858 : (.code yX5_greatest cX5_greatest 9 (some .int) : Cond) ∈ Gw := inG (i := 858) (by decide +kernel) (by decide +kernel)
theorem w_859 : (.methodLink RX5 114 yX5_isFree : Cond) ∈ Gw := inG (i := 859) (by decide +kernel) (by decide +kernel)
theorem w_861 : (.instanceMethod yX5_isFree : Cond) ∈ Gw := inG (i := 861) (by decide +kernel) (by decide +kernel)
theorem w_862 : (.code yX5_isFree cX5_isFree 5 (some .boolean) : Cond) ∈ Gw := inG (i := 862) (by decide +kernel) (by decide +kernel)
theorem w_863 : (.methodLink RX5 136 yX5_land : Cond) ∈ Gw := inG (i := 863) (by decide +kernel) (by decide +kernel)
theorem w_865 : (.instanceMethod yX5_land : Cond) ∈ Gw := inG (i := 865) (by decide +kernel) (by decide +kernel)
theorem w_866 : (.code yX5_land cX5_land 4 none : Cond) ∈ Gw := inG (i := 866) (by decide +kernel) (by decide +kernel)
theorem w_867 : (.methodLink RX5 139 yX5_door : Cond) ∈ Gw := inG (i := 867) (by decide +kernel) (by decide +kernel)
theorem w_869 : (.instanceMethod yX5_door : Cond) ∈ Gw := inG (i := 869) (by decide +kernel) (by decide +kernel)
theorem w_870 : (.code yX5_door cX5_door 5 none : Cond) ∈ Gw := inG (i := 870) (by decide +kernel) (by decide +kernel)
theorem w_871 : (.methodLink RL 151 yX5_told : Cond) ∈ Gw := inG (i := 871) (by decide +kernel) (by decide +kernel)
theorem w_872 : (.instanceMethod yX5_told : Cond) ∈ Gw := inG (i := 872) (by decide +kernel) (by decide +kernel)
theorem w_873 : (.selects RX5 yX5_told yX5_told : Cond) ∈ Gw := inG (i := 873) (by decide +kernel) (by decide +kernel)
theorem w_874 : (.code yX5_told cX5_told 3 (some .int) : Cond) ∈ Gw := inG (i := 874) (by decide +kernel) (by decide +kernel)
theorem w_875 : (.methodLink RL 154 yX5_wear : Cond) ∈ Gw := inG (i := 875) (by decide +kernel) (by decide +kernel)
theorem w_876 : (.instanceMethod yX5_wear : Cond) ∈ Gw := inG (i := 876) (by decide +kernel) (by decide +kernel)
theorem w_877 : (.selects RX5 yX5_wear yX5_wear : Cond) ∈ Gw := inG (i := 877) (by decide +kernel) (by decide +kernel)
theorem w_878 : (.code yX5_wear cX5_wear 3 (some .int) : Cond) ∈ Gw := inG (i := 878) (by decide +kernel) (by decide +kernel)
theorem w_879 : (.arrayClass .long : Cond) ∈ Gw := inG (i := 879) (by decide +kernel) (by decide +kernel)
theorem inX0G : ∀ w ∈ u_ws RX0 TX0 3, w ∈ Gw := fun w h => List.mem_filter.mpr ⟨(goodIn_r (big := lw_tbl) (u_ws RX0 TX0 3) [294, 296, 298] (by decide +kernel) (by decide +kernel) w h).1, List.all_eq_true.mp (by decide +kernel : (u_ws RX0 TX0 3).all goodWord = true) w h⟩
theorem inX0 {a : Cond} : ∀ w ∈ u_ws RX0 TX0 3, w ∈ a :: Gw := fun w h => List.mem_cons_of_mem _ (inX0G w h)
theorem inX1G : ∀ w ∈ u_ws RX1 TX1 19, w ∈ Gw := fun w h => List.mem_filter.mpr ⟨(goodIn_r (big := lw_tbl) (u_ws RX1 TX1 19) [338, 340, 342, 344, 346, 348, 350, 352, 354, 356, 358, 360, 362, 364, 366, 368, 370, 372, 374] (by decide +kernel) (by decide +kernel) w h).1, List.all_eq_true.mp (by decide +kernel : (u_ws RX1 TX1 19).all goodWord = true) w h⟩
theorem inX1 {a : Cond} : ∀ w ∈ u_ws RX1 TX1 19, w ∈ a :: Gw := fun w h => List.mem_cons_of_mem _ (inX1G w h)
theorem inX2G : ∀ w ∈ u_ws RX2 TX2 8, w ∈ Gw := fun w h => List.mem_filter.mpr ⟨(goodIn_r (big := lw_tbl) (u_ws RX2 TX2 8) [266, 268, 270, 272, 274, 276, 278, 280] (by decide +kernel) (by decide +kernel) w h).1, List.all_eq_true.mp (by decide +kernel : (u_ws RX2 TX2 8).all goodWord = true) w h⟩
theorem inX2 {a : Cond} : ∀ w ∈ u_ws RX2 TX2 8, w ∈ a :: Gw := fun w h => List.mem_cons_of_mem _ (inX2G w h)
theorem inX3G : ∀ w ∈ u_ws RX3 TX3 2, w ∈ Gw := fun w h => List.mem_filter.mpr ⟨(goodIn_r (big := lw_tbl) (u_ws RX3 TX3 2) [73, 75] (by decide +kernel) (by decide +kernel) w h).1, List.all_eq_true.mp (by decide +kernel : (u_ws RX3 TX3 2).all goodWord = true) w h⟩
theorem inX3 {a : Cond} : ∀ w ∈ u_ws RX3 TX3 2, w ∈ a :: Gw := fun w h => List.mem_cons_of_mem _ (inX3G w h)
theorem inX4G : ∀ w ∈ u_ws RX4 TX4 5, w ∈ Gw := fun w h => List.mem_filter.mpr ⟨(goodIn_r (big := lw_tbl) (u_ws RX4 TX4 5) [84, 86, 88, 90, 92] (by decide +kernel) (by decide +kernel) w h).1, List.all_eq_true.mp (by decide +kernel : (u_ws RX4 TX4 5).all goodWord = true) w h⟩
theorem inX4 {a : Cond} : ∀ w ∈ u_ws RX4 TX4 5, w ∈ a :: Gw := fun w h => List.mem_cons_of_mem _ (inX4G w h)
theorem inX5G : ∀ w ∈ u_ws RX5 TX5 28, w ∈ Gw := fun w h => List.mem_filter.mpr ⟨(goodIn_r (big := lw_tbl) (u_ws RX5 TX5 28) [664, 666, 668, 670, 672, 674, 676, 678, 680, 682, 684, 686, 688, 690, 692, 694, 696, 698, 700, 702, 704, 706, 708, 710, 712, 714, 716, 718] (by decide +kernel) (by decide +kernel) w h).1, List.all_eq_true.mp (by decide +kernel : (u_ws RX5 TX5 28).all goodWord = true) w h⟩
theorem inX5 {a : Cond} : ∀ w ∈ u_ws RX5 TX5 28, w ∈ a :: Gw := fun w h => List.mem_cons_of_mem _ (inX5G w h)
