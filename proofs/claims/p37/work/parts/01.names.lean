-- ===== PART A: goes FIRST, ahead of the names: the tables' words, and 'selects' of the private methods out of them =====
/-- a private method of a class that the tables say can be made, by its rows of tables_1 -/
def lw_okq (q : MethodName × Nat) : Prop := (q.1.cls ≠ "java/lang/invoke/MethodHandle" ∧ q.1.cls ≠ "java/lang/invoke/VarHandle") ∧ Cond.instantiable q.1.cls q.2 ∈ tables_1 ∧ Cond.privateMethod q.1 ∈ tables_1 ∧ Cond.instanceMethod q.1 ∈ tables_1
theorem lw_p0 : lw_okq (⟨"java/lang/Throwable", "fillInStackTrace", "(I)Ljava/lang/Throwable;"⟩, 6) := ⟨⟨by decide +kernel, by decide +kernel⟩, List.mem_of_getElem? (i := 239) (by decide +kernel), List.mem_of_getElem? (i := 237) (by decide +kernel), List.mem_of_getElem? (i := 238) (by decide +kernel)⟩
theorem lw_p1 : lw_okq (⟨"java/util/ArrayList", "add", "(Ljava/lang/Object;[Ljava/lang/Object;I)V"⟩, 3) := ⟨⟨by decide +kernel, by decide +kernel⟩, List.mem_of_getElem? (i := 73) (by decide +kernel), List.mem_of_getElem? (i := 377) (by decide +kernel), List.mem_of_getElem? (i := 378) (by decide +kernel)⟩
theorem lw_p2 : lw_okq (⟨"java/util/ArrayList", "grow", "()[Ljava/lang/Object;"⟩, 3) := ⟨⟨by decide +kernel, by decide +kernel⟩, List.mem_of_getElem? (i := 73) (by decide +kernel), List.mem_of_getElem? (i := 381) (by decide +kernel), List.mem_of_getElem? (i := 382) (by decide +kernel)⟩
theorem lw_p3 : lw_okq (⟨"java/util/ArrayList", "grow", "(I)[Ljava/lang/Object;"⟩, 3) := ⟨⟨by decide +kernel, by decide +kernel⟩, List.mem_of_getElem? (i := 73) (by decide +kernel), List.mem_of_getElem? (i := 385) (by decide +kernel), List.mem_of_getElem? (i := 386) (by decide +kernel)⟩
theorem lw_p4 : lw_okq (⟨"MeridianSeries", "chainAt", "(I)LMeridianSeries$Series;"⟩, 9) := ⟨⟨by decide +kernel, by decide +kernel⟩, List.mem_of_getElem? (i := 27) (by decide +kernel), List.mem_of_getElem? (i := 474) (by decide +kernel), List.mem_of_getElem? (i := 475) (by decide +kernel)⟩
theorem lw_p5 : lw_okq (⟨"MeridianSeries", "isTimeUpToNow", "(J)Z"⟩, 9) := ⟨⟨by decide +kernel, by decide +kernel⟩, List.mem_of_getElem? (i := 27) (by decide +kernel), List.mem_of_getElem? (i := 495) (by decide +kernel), List.mem_of_getElem? (i := 496) (by decide +kernel)⟩
theorem lw_p6 : lw_okq (⟨"MeridianSeries", "putOrCountLate", "(LMeridianSeries$Series;II)Z"⟩, 9) := ⟨⟨by decide +kernel, by decide +kernel⟩, List.mem_of_getElem? (i := 27) (by decide +kernel), List.mem_of_getElem? (i := 504) (by decide +kernel), List.mem_of_getElem? (i := 505) (by decide +kernel)⟩
theorem lw_p7 : lw_okq (⟨"MeridianSeries$Points", "copyPoint", "(II)V"⟩, 7) := ⟨⟨by decide +kernel, by decide +kernel⟩, List.mem_of_getElem? (i := 298) (by decide +kernel), List.mem_of_getElem? (i := 532) (by decide +kernel), List.mem_of_getElem? (i := 533) (by decide +kernel)⟩
theorem lw_p8 : lw_okq (⟨"MeridianSeries$Points", "write", "(III)V"⟩, 7) := ⟨⟨by decide +kernel, by decide +kernel⟩, List.mem_of_getElem? (i := 298) (by decide +kernel), List.mem_of_getElem? (i := 536) (by decide +kernel), List.mem_of_getElem? (i := 537) (by decide +kernel)⟩
theorem lw_p9 : lw_okq (⟨"MeridianSeries$Series", "rollUpFirstBlock", "(LMeridianSeries$Settings;)V"⟩, 5) := ⟨⟨by decide +kernel, by decide +kernel⟩, List.mem_of_getElem? (i := 292) (by decide +kernel), List.mem_of_getElem? (i := 553) (by decide +kernel), List.mem_of_getElem? (i := 554) (by decide +kernel)⟩
theorem lw_p10 : lw_okq (⟨"MeridianSeries$Buckets", "write", "(III)V"⟩, 2) := ⟨⟨by decide +kernel, by decide +kernel⟩, List.mem_of_getElem? (i := 341) (by decide +kernel), List.mem_of_getElem? (i := 578) (by decide +kernel), List.mem_of_getElem? (i := 579) (by decide +kernel)⟩
theorem lw_p11 : lw_okq (⟨"MeridianSeries$Series", "rollUpFirstFine", "(LMeridianSeries$Settings;)V"⟩, 5) := ⟨⟨by decide +kernel, by decide +kernel⟩, List.mem_of_getElem? (i := 292) (by decide +kernel), List.mem_of_getElem? (i := 588) (by decide +kernel), List.mem_of_getElem? (i := 589) (by decide +kernel)⟩
theorem lw_p12 : lw_okq (⟨"MeridianSeries", "canGoOn", "(I)Z"⟩, 9) := ⟨⟨by decide +kernel, by decide +kernel⟩, List.mem_of_getElem? (i := 27) (by decide +kernel), List.mem_of_getElem? (i := 607) (by decide +kernel), List.mem_of_getElem? (i := 608) (by decide +kernel)⟩
theorem lw_p13 : lw_okq (⟨"MeridianSeries$Series", "fineEndingBy", "(II)I"⟩, 5) := ⟨⟨by decide +kernel, by decide +kernel⟩, List.mem_of_getElem? (i := 292) (by decide +kernel), List.mem_of_getElem? (i := 623) (by decide +kernel), List.mem_of_getElem? (i := 624) (by decide +kernel)⟩
theorem lw_p14 : lw_okq (⟨"MeridianSeries$Series", "toldOfGap", "(III)I"⟩, 5) := ⟨⟨by decide +kernel, by decide +kernel⟩, List.mem_of_getElem? (i := 292) (by decide +kernel), List.mem_of_getElem? (i := 652) (by decide +kernel), List.mem_of_getElem? (i := 653) (by decide +kernel)⟩
theorem lw_p15 : lw_okq (⟨"MeridianSeries$Series", "onLine", "(III)I"⟩, 5) := ⟨⟨by decide +kernel, by decide +kernel⟩, List.mem_of_getElem? (i := 292) (by decide +kernel), List.mem_of_getElem? (i := 657) (by decide +kernel), List.mem_of_getElem? (i := 658) (by decide +kernel)⟩
def lw_privs_1 : List (MethodName × Nat) := [(⟨"java/lang/Throwable", "fillInStackTrace", "(I)Ljava/lang/Throwable;"⟩, 6), (⟨"java/util/ArrayList", "add", "(Ljava/lang/Object;[Ljava/lang/Object;I)V"⟩, 3), (⟨"java/util/ArrayList", "grow", "()[Ljava/lang/Object;"⟩, 3), (⟨"java/util/ArrayList", "grow", "(I)[Ljava/lang/Object;"⟩, 3), (⟨"MeridianSeries", "chainAt", "(I)LMeridianSeries$Series;"⟩, 9), (⟨"MeridianSeries", "isTimeUpToNow", "(J)Z"⟩, 9), (⟨"MeridianSeries", "putOrCountLate", "(LMeridianSeries$Series;II)Z"⟩, 9), (⟨"MeridianSeries$Points", "copyPoint", "(II)V"⟩, 7), (⟨"MeridianSeries$Points", "write", "(III)V"⟩, 7), (⟨"MeridianSeries$Series", "rollUpFirstBlock", "(LMeridianSeries$Settings;)V"⟩, 5), (⟨"MeridianSeries$Buckets", "write", "(III)V"⟩, 2), (⟨"MeridianSeries$Series", "rollUpFirstFine", "(LMeridianSeries$Settings;)V"⟩, 5), (⟨"MeridianSeries", "canGoOn", "(I)Z"⟩, 9), (⟨"MeridianSeries$Series", "fineEndingBy", "(II)I"⟩, 5), (⟨"MeridianSeries$Series", "toldOfGap", "(III)I"⟩, 5), (⟨"MeridianSeries$Series", "onLine", "(III)I"⟩, 5)]
theorem lw_r1 : ∀ q ∈ lw_privs_1, lw_okq q := List.forall_mem_cons.mpr ⟨lw_p0, List.forall_mem_cons.mpr ⟨lw_p1, List.forall_mem_cons.mpr ⟨lw_p2, List.forall_mem_cons.mpr ⟨lw_p3, List.forall_mem_cons.mpr ⟨lw_p4, List.forall_mem_cons.mpr ⟨lw_p5, List.forall_mem_cons.mpr ⟨lw_p6, List.forall_mem_cons.mpr ⟨lw_p7, List.forall_mem_cons.mpr ⟨lw_p8, List.forall_mem_cons.mpr ⟨lw_p9, List.forall_mem_cons.mpr ⟨lw_p10, List.forall_mem_cons.mpr ⟨lw_p11, List.forall_mem_cons.mpr ⟨lw_p12, List.forall_mem_cons.mpr ⟨lw_p13, List.forall_mem_cons.mpr ⟨lw_p14, List.forall_mem_cons.mpr ⟨lw_p15, fun _ h => absurd h List.not_mem_nil⟩⟩⟩⟩⟩⟩⟩⟩⟩⟩⟩⟩⟩⟩⟩⟩
theorem lw_p16 : lw_okq (⟨"MeridianSeries$Series", "total", "(III)I"⟩, 5) := ⟨⟨by decide +kernel, by decide +kernel⟩, List.mem_of_getElem? (i := 292) (by decide +kernel), List.mem_of_getElem? (i := 661) (by decide +kernel), List.mem_of_getElem? (i := 662) (by decide +kernel)⟩
theorem lw_p17 : lw_okq (⟨"MeridianSeries$Series", "least", "(II)I"⟩, 5) := ⟨⟨by decide +kernel, by decide +kernel⟩, List.mem_of_getElem? (i := 292) (by decide +kernel), List.mem_of_getElem? (i := 665) (by decide +kernel), List.mem_of_getElem? (i := 666) (by decide +kernel)⟩
theorem lw_p18 : lw_okq (⟨"MeridianSeries$Series", "greatest", "(II)I"⟩, 5) := ⟨⟨by decide +kernel, by decide +kernel⟩, List.mem_of_getElem? (i := 292) (by decide +kernel), List.mem_of_getElem? (i := 670) (by decide +kernel), List.mem_of_getElem? (i := 671) (by decide +kernel)⟩
theorem lw_p19 : lw_okq (⟨"MeridianSeries$Rule", "ceases", "(Z)Z"⟩, 9) := ⟨⟨by decide +kernel, by decide +kernel⟩, List.mem_of_getElem? (i := 685) (by decide +kernel), List.mem_of_getElem? (i := 683) (by decide +kernel), List.mem_of_getElem? (i := 684) (by decide +kernel)⟩
theorem lw_p20 : lw_okq (⟨"MeridianSeries$Rule", "become", "(I)V"⟩, 9) := ⟨⟨by decide +kernel, by decide +kernel⟩, List.mem_of_getElem? (i := 685) (by decide +kernel), List.mem_of_getElem? (i := 688) (by decide +kernel), List.mem_of_getElem? (i := 689) (by decide +kernel)⟩
theorem lw_p21 : lw_okq (⟨"MeridianSeries$Rule", "begins", "(Z)Z"⟩, 9) := ⟨⟨by decide +kernel, by decide +kernel⟩, List.mem_of_getElem? (i := 685) (by decide +kernel), List.mem_of_getElem? (i := 692) (by decide +kernel), List.mem_of_getElem? (i := 693) (by decide +kernel)⟩
theorem lw_p22 : lw_okq (⟨"MeridianSeries$Packer", "begin", "(I)V"⟩, 6) := ⟨⟨by decide +kernel, by decide +kernel⟩, List.mem_of_getElem? (i := 138) (by decide +kernel), List.mem_of_getElem? (i := 744) (by decide +kernel), List.mem_of_getElem? (i := 745) (by decide +kernel)⟩
theorem lw_p23 : lw_okq (⟨"MeridianSeries$Packer", "write", "(II)V"⟩, 6) := ⟨⟨by decide +kernel, by decide +kernel⟩, List.mem_of_getElem? (i := 138) (by decide +kernel), List.mem_of_getElem? (i := 751) (by decide +kernel), List.mem_of_getElem? (i := 752) (by decide +kernel)⟩
theorem lw_p24 : lw_okq (⟨"MeridianSeries$Packer", "add", "(II)V"⟩, 6) := ⟨⟨by decide +kernel, by decide +kernel⟩, List.mem_of_getElem? (i := 138) (by decide +kernel), List.mem_of_getElem? (i := 756) (by decide +kernel), List.mem_of_getElem? (i := 757) (by decide +kernel)⟩
theorem lw_p25 : lw_okq (⟨"MeridianSeries$Packer", "addTime", "(I)V"⟩, 6) := ⟨⟨by decide +kernel, by decide +kernel⟩, List.mem_of_getElem? (i := 138) (by decide +kernel), List.mem_of_getElem? (i := 761) (by decide +kernel), List.mem_of_getElem? (i := 762) (by decide +kernel)⟩
theorem lw_p26 : lw_okq (⟨"MeridianSeries$Packer", "addValue", "(I)V"⟩, 6) := ⟨⟨by decide +kernel, by decide +kernel⟩, List.mem_of_getElem? (i := 138) (by decide +kernel), List.mem_of_getElem? (i := 766) (by decide +kernel), List.mem_of_getElem? (i := 767) (by decide +kernel)⟩
theorem lw_p27 : lw_okq (⟨"MeridianSeries", "toldByQuery", "(LMeridianSeries$Series;I)I"⟩, 9) := ⟨⟨by decide +kernel, by decide +kernel⟩, List.mem_of_getElem? (i := 27) (by decide +kernel), List.mem_of_getElem? (i := 788) (by decide +kernel), List.mem_of_getElem? (i := 789) (by decide +kernel)⟩
theorem lw_p28 : lw_okq (⟨"MeridianSeries", "withBlocks", "(JLMeridianSeries$Points;)J"⟩, 9) := ⟨⟨by decide +kernel, by decide +kernel⟩, List.mem_of_getElem? (i := 27) (by decide +kernel), List.mem_of_getElem? (i := 899) (by decide +kernel), List.mem_of_getElem? (i := 900) (by decide +kernel)⟩
theorem lw_p29 : lw_okq (⟨"MeridianSeries", "withWindows", "(JLMeridianSeries$Series;)J"⟩, 9) := ⟨⟨by decide +kernel, by decide +kernel⟩, List.mem_of_getElem? (i := 27) (by decide +kernel), List.mem_of_getElem? (i := 906) (by decide +kernel), List.mem_of_getElem? (i := 907) (by decide +kernel)⟩
def lw_privs_2 : List (MethodName × Nat) := [(⟨"MeridianSeries$Series", "total", "(III)I"⟩, 5), (⟨"MeridianSeries$Series", "least", "(II)I"⟩, 5), (⟨"MeridianSeries$Series", "greatest", "(II)I"⟩, 5), (⟨"MeridianSeries$Rule", "ceases", "(Z)Z"⟩, 9), (⟨"MeridianSeries$Rule", "become", "(I)V"⟩, 9), (⟨"MeridianSeries$Rule", "begins", "(Z)Z"⟩, 9), (⟨"MeridianSeries$Packer", "begin", "(I)V"⟩, 6), (⟨"MeridianSeries$Packer", "write", "(II)V"⟩, 6), (⟨"MeridianSeries$Packer", "add", "(II)V"⟩, 6), (⟨"MeridianSeries$Packer", "addTime", "(I)V"⟩, 6), (⟨"MeridianSeries$Packer", "addValue", "(I)V"⟩, 6), (⟨"MeridianSeries", "toldByQuery", "(LMeridianSeries$Series;I)I"⟩, 9), (⟨"MeridianSeries", "withBlocks", "(JLMeridianSeries$Points;)J"⟩, 9), (⟨"MeridianSeries", "withWindows", "(JLMeridianSeries$Series;)J"⟩, 9)]
theorem lw_r2 : ∀ q ∈ lw_privs_2, lw_okq q := List.forall_mem_cons.mpr ⟨lw_p16, List.forall_mem_cons.mpr ⟨lw_p17, List.forall_mem_cons.mpr ⟨lw_p18, List.forall_mem_cons.mpr ⟨lw_p19, List.forall_mem_cons.mpr ⟨lw_p20, List.forall_mem_cons.mpr ⟨lw_p21, List.forall_mem_cons.mpr ⟨lw_p22, List.forall_mem_cons.mpr ⟨lw_p23, List.forall_mem_cons.mpr ⟨lw_p24, List.forall_mem_cons.mpr ⟨lw_p25, List.forall_mem_cons.mpr ⟨lw_p26, List.forall_mem_cons.mpr ⟨lw_p27, List.forall_mem_cons.mpr ⟨lw_p28, List.forall_mem_cons.mpr ⟨lw_p29, fun _ h => absurd h List.not_mem_nil⟩⟩⟩⟩⟩⟩⟩⟩⟩⟩⟩⟩⟩⟩
def lw_privs : List (MethodName × Nat) := lw_privs_1 ++ (lw_privs_2)
def lw_tbl : List Cond := k2_sels lw_privs ++ tables_1
theorem lw_privs_ok : ∀ q ∈ lw_privs, lw_okq q := by
  show ∀ q ∈ lw_privs_1 ++ (lw_privs_2), lw_okq q
  exact List.forall_mem_append.mpr ⟨lw_r1, lw_r2⟩
-- ===== end of PART A; then your names; then what follows =====
/-! ===== BEGIN words of one list among another's, by their places ===== -/
theorem goodIn_r {big : List Cond} (ws : List Cond) (ps : List Nat) (hp : ws = ps.filterMap (fun i => big[i]?)) (h : ws.all goodWord = true) : GoodIn big ws := by
  intro w hw
  have h1 := List.all_eq_true.mp h w hw
  rw [hp] at hw
  obtain ⟨i, -, hi⟩ := List.mem_filterMap.mp hw
  have hm : w ∈ big := by first | exact List.mem_of_getElem? hi | exact List.getElem?_mem hi
  exact ⟨hm, good_of_word h1⟩
theorem goodIn_app {big a b : List Cond} (ha : GoodIn big a) (hb : GoodIn big b) : GoodIn big (a ++ b) := fun w h => (List.mem_append.mp h).elim (ha w) (hb w)
theorem goodIn_ca {big a b : List Cond} {c : Cond} (ha : GoodIn big (c :: a)) (hb : GoodIn big b) : GoodIn big (c :: (a ++ b)) := fun w h => (List.mem_cons.mp h).elim (fun e => ha w (List.mem_cons.mpr (Or.inl e))) (fun h => (List.mem_append.mp h).elim (fun h => ha w (List.mem_cons.mpr (Or.inr h))) (hb w))
theorem goodIn_sub {big ws : List Cond} (hm : ∀ w ∈ ws, w ∈ big) (h : ws.all goodWord = true) : GoodIn big ws := fun w hw => ⟨hm w hw, good_of_word (List.all_eq_true.mp h w hw)⟩
/-! ===== END ===== -/

/-! ===== BEGIN exceptions that leave a method, and their catching by the caller (launches without stack traces) ===== -/
section VXA
/-! The laws vx_back, vx_callV, vx_callS, vx_callSW, vx_throw0, vx_throwS follow proofs of the library, with one case more: JvmDerived/Free/Laws.lean (Back.of_free), Shelf42/LK1.lean (callV, callS), Shelf/KitTraced.lean (throwNew0V, throwNewS). -/
/-- where a method has thrown q: the class by its name, the cell, what was written, the world -/
def vx_T (XC : String → State → State → Prop) (st : State) (q : Addr) (t : State) (mc ms : Nat) (free : Addr → Prop) : Prop :=
  ∃ (E : String) (ce : Cell) (L : List Loc), XC E st t ∧ t.heap[q]? = some ce ∧ ce.vm = .none ∧ st.vm.findClass E = some ce.cls ∧ st.WarmedH t.vm ∧ st.sameButNew ({ t with vm := st.vm } : State) L mc ms ∧ ∀ z ∈ L, free z.base
def vx_Q (Qc : Array Value → State → Outcome → State → Prop) (XC : String → State → State → Prop) (mc ms : Nat) (free : Addr → Prop) : Array Value → State → Outcome → State → Prop := fun a st o t =>
  (Qc a st o t ∧ ∃ L, FrameEnd st o t L mc ms ∧ ∀ q ∈ L, free q.base) ∨ ∃ q, o = .threw q ∧ vx_T XC st q t mc ms free
/-- a callee that returns or throws -/
def vx_Met (l : Launch) (y : MethodName) (ws : List Cond) (rm : Room) (Pc : Array Value → State → Prop) (Qc : Array Value → State → Outcome → State → Prop) (XC : String → State → State → Prop) (mc ms : Nat) (free : Addr → Prop) : Prop :=
  MetFree l y (headSpec ws rm) Pc (fun _ _ _ _ _ => True) (vx_Q Qc XC mc ms free)
def vx_Post (XC : String → State → State → Prop) (mc ms : Nat) (free : Addr → Prop) : Pt → Array Value → Addr → Pt → Prop := fun A a q B =>
  ∃ (g : JFrame) (mk : MethodId) (t : State) (L : List Loc) (E : String) (ce : Cell), B.U.heap = t.heap ∧ B.U.vm = t.vm ∧ XC E (A.U.calling g mk a) t ∧ t.heap[q]? = some ce ∧ ce.vm = .none ∧ A.U.vm.findClass E = some ce.cls ∧ B.locs = A.locs ++ L ∧ (∀ z ∈ L, free z.base) ∧ B.cells = A.cells + mc ∧ B.slots = A.slots + ms
def vx_Back (l : Launch) (R : Room) (p : Program) (e : Env) (below : List Frame) (s : State) (sargs : Array Value) (y : MethodName) (len W9 : Nat)
    (Pre : Pt → Array Value → Prop) (Post : Pt → Array Value → Option Value → Pt → Prop) (PostX : Pt → Array Value → Addr → Pt → Prop) : Prop :=
  ∀ (m : MethodId) (meth : Method) (c : Code) (A : Pt) (g : JFrame) (ig : Instr) (mk : MethodId) (a : Array Value),
    Stand p l e R s m sargs below meth c A.U A.locs A.cells A.slots → g.method = m → g.locals.size = c.maxLocals → decode c.code g.pc = .ok (ig, len) →
    2 * g.monitorRoom + (g.stack.map fun v => v.category).sum ≤ W9 → A.U.methodNamed? y = some mk → Pre A a →
    (∃ (v : Option Value) (B : Pt), Stand p l e R s m sargs below meth c B.U B.locs B.cells B.slots ∧ Post A a v B ∧
      Steps p.tables e below (doInvoke e (A.U.setTop g) [] mk a).1 (B.U.setTop { g with pc := g.pc + len, stack := v.toList ++ g.stack })) ∨
    (∃ (q : Addr) (B : Pt), Stand p l e R s m sargs below meth c B.U B.locs B.cells B.slots ∧ PostX A a q B ∧
      Steps p.tables e below (doInvoke e (A.U.setTop g) [] mk a).1 ((B.U.setTop g).pushFrame (.throwing q)))
section Payer
variable {l : Launch} {R : Room} {p : Program} {e : Env} {below : List Frame} {s : State} {sargs : Array Value} {y : MethodName} {len W9 : Nat}
theorem vx_back {ws : List Cond} {rm : Room} {Pc : Array Value → State → Prop} {Qc : Array Value → State → Outcome → State → Prop} {XC : String → State → State → Prop} {mc ms : Nat} {free : Addr → Prop} {bytes : ByteArray} {maxL : Nat} {ret : Option FieldType}
    (hM : vx_Met l y ws rm Pc Qc XC mc ms free) (hblind : FrameBlind Pc) (hrc : rm.cells = mc) (hrs : rm.slots = ms)
    (hframes : rm.frames + 1 ≤ R.frames) (hlocals : W9 + (maxL + 11) + rm.locals ≤ R.locals)
    (hws : ∀ w ∈ ws, ∀ a' U, s.WarmedH U.vm → w.before a' U = true) (hcode : Cond.code y bytes maxL ret ∈ ws) (hinit : ∀ a' U, s.WarmedH U.vm → (Cond.initialized y.cls).before a' U = true) :
    vx_Back l R p e below s sargs y len W9 (PreOf R mc ms Pc) (PostOf Qc mc ms free) (vx_Post XC mc ms free) := by
  intro m meth c A g ig mk a X hg hsize hdg hW hn hp
  have h1 : (headSpec ws rm).pre.before a A.U = true := atoms_intro fun w hw => hws w hw _ _ X.warmed
  have h2 : (Cond.code y bytes maxL ret).before a A.U = true := hws _ hcode _ _ X.warmed
  have h3 : (Cond.initialized y.cls).before a A.U = true := hinit _ _ X.warmed
  have h4 : A.cells + (headSpec ws rm).room.cells ≤ R.cells := by rw [show (headSpec ws rm).room.cells = mc from hrc]; exact hp.1
  have h5 : A.slots + (headSpec ws rm).room.slots ≤ R.slots := by rw [show (headSpec ws rm).room.slots = ms from hrs]; exact hp.2.1
  have hPc : Pc a (A.U.calling g mk a) := hblind _ _ _ _ hp.2.2
  obtain ⟨U, Ls, c0, s0⟩ := A
  dsimp only [Pt.U, Pt.locs, Pt.cells, Pt.slots] at h1 h2 h3 h4 h5 X hn hPc ⊢
  obtain ⟨methY, cY, hmY, hcY, -, hlY, -, -, -, -⟩ := Cond.code_spec hn h2
  obtain ⟨kY, hkY, -⟩ := className_of_methodNamed hn
  have hinitY : kY.init = .initialized := Cond.initialized_spec (findClass_of_methodNamed hn) hkY h3
  have h : At U g.method c below := by rw [hg]; exact X.here
  have hlocals9 : W9 + (maxL + 11) + (headSpec ws rm).room.locals ≤ R.locals := hlocals
  have happ : (headSpec ws rm).appliesLoose y e.platform (U.calling g mk a) = true :=
    Spec.appliesLoose_calling (g := g) h hdg hn hkY hinitY
      (X.room_calling (g := g) (R' := (headSpec ws rm).room) hsize hmY hcY hframes (by rw [hlY]; omega) h4 h5) h1
  obtain ⟨mid, hmid⟩ := h.above
  have hfr : (U.setTop g).frames = (.java g :: mid) ++ below := by rw [State.frames_setTop' g h.top, hmid]; rfl
  obtain ⟨o, s₂, hsteps, -, hend, hq⟩ := Steps.callFree hM p X.admits X.cas X.clock (acts := []) hfr happ hPc trivial
  have hq' : vx_Q Qc XC mc ms free a (U.calling g mk a) o s₂ := hq
  rw [State.frames_setTop' g h.top] at hend
  obtain ⟨g₀, hg0⟩ := Option.isSome_iff_exists.mp h.top
  obtain ⟨r, hr⟩ := State.topJava?_eq_some.mp hg0
  have hr' : (({ U with heap := s₂.heap, slotsUsed := s₂.slotsUsed } : State).setVm s₂.vm).frames = .java g₀ :: r := hr
  rcases hq' with ⟨hqc, L, hfe, hL⟩ | ⟨q, rfl, E, ce, L, hx, hce, hcv, hcl, hW₂, hsm, hL⟩
  · obtain ⟨⟨v, rfl⟩, hW₂, e2, q2, q3, q4, q5, q6⟩ := id hfe
    have e3 : s₂ = ({ (U.calling g mk a).setFrames s₂.frames with heap := s₂.heap, slotsUsed := s₂.slotsUsed } : State).setVm s₂.vm := by
      have : s₂ = ({ s₂ with vm := (U.calling g mk a).vm } : State).setVm s₂.vm := rfl
      rw [e2] at this
      exact this
    obtain ⟨c₂, i₂, len₂, hc₂, hd₂, hf₂⟩ := hend
    have hW' : U.WarmedH s₂.vm := hW₂
    have hcc : c₂ = c := by
      have h1 : s₂.code? g.method = U.code? g.method := by
        rw [State.code?_eq, State.code?_eq, hW'.alike.method?]
      exact Option.some.inj (hc₂.symm.trans (h1.trans h.code))
    subst hcc
    have hlen : len₂ = len := by rw [hdg] at hd₂; cases hd₂; rfl
    subst hlen
    have hs₂ : s₂ = (({ U with heap := s₂.heap, slotsUsed := s₂.slotsUsed } : State).setVm s₂.vm).setTop { g with pc := g.pc + len₂, stack := v.toList ++ g.stack } := by
      refine e3.trans ?_
      rw [hf₂, State.calling_eq h.top, State.setFrames_setFrames, State.setTop_of_frames _ hr', hr]
      rfl
    have hsame : U.sameButNew ({ U with heap := s₂.heap, slotsUsed := s₂.slotsUsed } : State) L mc ms := by
      refine ⟨?_, q2, q3, q4, q5, q6⟩
      obtain ⟨t, ht, -⟩ := State.frames_cons hr
      show ({ U with heap := s₂.heap, slotsUsed := s₂.slotsUsed } : State) = { U.setFrames U.frames with heap := s₂.heap, slotsUsed := s₂.slotsUsed }
      rw [State.setFrames_self ht]
    subst hg
    refine Or.inl ⟨v, ⟨(({ U with heap := s₂.heap, slotsUsed := s₂.slotsUsed } : State).setVm s₂.vm), Ls ++ L, c0 + mc, s0 + ms⟩,
      ⟨X.admits, X.cas, X.clock, X.frames, X.room, X.hears, X.method, X.code, (X.here.setHeapUsed s₂.heap s₂.slotsUsed).setVm hW'.alike, X.tail, State.WarmedH.trans X.warmed hW', X.limits, X.bytes, X.same.trans (hsame.setVm s.vm)⟩,
      ⟨g, mk, s₂, L, rfl, rfl, hqc, rfl, hL, rfl, rfl⟩, ?_⟩
    show Steps p.tables e below _ ((({ U with heap := s₂.heap, slotsUsed := s₂.slotsUsed } : State).setVm s₂.vm).setTop { g with pc := g.pc + len₂, stack := v.toList ++ g.stack })
    rw [← hs₂]
    exact hsteps
  · obtain ⟨e2, q2, q3, q4, q5, q6⟩ := id hsm
    have e3 : s₂ = ({ (U.calling g mk a).setFrames s₂.frames with heap := s₂.heap, slotsUsed := s₂.slotsUsed } : State).setVm s₂.vm := by
      have : s₂ = ({ s₂ with vm := (U.calling g mk a).vm } : State).setVm s₂.vm := rfl
      rw [e2] at this
      exact this
    have hf₂ : s₂.frames = .throwing q :: .java g :: U.frames.tail := hend
    have hW' : U.WarmedH s₂.vm := hW₂
    have hs₂ : s₂ = ((({ U with heap := s₂.heap, slotsUsed := s₂.slotsUsed } : State).setVm s₂.vm).setTop g).pushFrame (.throwing q) := by
      refine e3.trans ?_
      rw [hf₂, State.calling_eq h.top, State.setFrames_setFrames, State.pushFrame, State.frames_setTop _ hr', State.setTop_of_frames _ hr', State.setFrames_setFrames, hr]
      rfl
    have hsame : U.sameButNew ({ U with heap := s₂.heap, slotsUsed := s₂.slotsUsed } : State) L mc ms := by
      refine ⟨?_, q2, q3, q4, q5, q6⟩
      obtain ⟨t, ht, -⟩ := State.frames_cons hr
      show ({ U with heap := s₂.heap, slotsUsed := s₂.slotsUsed } : State) = { U.setFrames U.frames with heap := s₂.heap, slotsUsed := s₂.slotsUsed }
      rw [State.setFrames_self ht]
    subst hg
    refine Or.inr ⟨q, ⟨(({ U with heap := s₂.heap, slotsUsed := s₂.slotsUsed } : State).setVm s₂.vm), Ls ++ L, c0 + mc, s0 + ms⟩,
      ⟨X.admits, X.cas, X.clock, X.frames, X.room, X.hears, X.method, X.code, (X.here.setHeapUsed s₂.heap s₂.slotsUsed).setVm hW'.alike, X.tail, State.WarmedH.trans X.warmed hW', X.limits, X.bytes, X.same.trans (hsame.setVm s.vm)⟩,
      ⟨g, mk, s₂, L, E, ce, rfl, rfl, hx, hce, hcv, hcl, rfl, hL, rfl, rfl⟩, ?_⟩
    show Steps p.tables e below _ (((({ U with heap := s₂.heap, slotsUsed := s₂.slotsUsed } : State).setVm s₂.vm).setTop g).pushFrame (.throwing q))
    rw [← hs₂]
    exact hsteps
end Payer
section Calls
variable {p : Program} {l : Launch} {e : Env} {R : Room} {s : State} {m : MethodId} {args : Array Value} {below : List Frame} {meth : Method} {c : Code} {T : State} {locs : List Loc} {cells slots : Nat}
theorem vx_callV (X : Stand p l e R s m args below meth c T locs cells slots) (hexec : p.tables.exec = Jvm.exec) {own C : String} {index : Nat} {y : MethodName} {bytes : ByteArray} {maxL : Nat} {ret : Option FieldType}
    (hown : s.vm.findClass own = some m.cls) (hlink : (Cond.methodLink own index y).before args s = true) (hinst : (Cond.instanceMethod y).before args s = true) (hsel : (Cond.selects C y y).before args s = true)
    (hcode : (Cond.code y bytes maxL ret).before args s = true) (hy : y.cls ≠ "java/lang/invoke/MethodHandle" ∧ y.cls ≠ "java/lang/invoke/VarHandle")
    {W9 : Nat} {Pre : Pt → Array Value → Prop} {Post : Pt → Array Value → Option Value → Pt → Prop} {PostX : Pt → Array Value → Addr → Pt → Prop} (hK : vx_Back l R p e below s args y 3 W9 Pre Post PostX)
    {b : Addr} {cellB : Cell} (hcell : T.heap[b]? = some cellB) (hobj : cellB.vm.isStatics = false) (hcls : s.vm.findClass C = some cellB.cls)
    {g : JFrame} (hg : g.method = m) (hsize : g.locals.size = c.maxLocals) {argsL rest : List Value} (hlen : ∀ sig, parseMethodDescriptor y.desc = some sig → argsL.length = sig.parameters.length)
    (hstack : g.stack = argsL.reverse ++ .ref b :: rest) (hW : 2 * g.monitorRoom + (rest.map fun v => v.category).sum ≤ W9) (hdg : decode c.code g.pc = .ok (.invokevirtual index, 3))
    (hpre : ∀ vm₁, s.WarmedH vm₁ → Pre ⟨T.setVm vm₁, locs, cells, slots⟩ (Value.ref b :: argsL).toArray) :
    (∃ (v : Option Value) (vm₁ : Vm) (B : Pt), s.WarmedH vm₁ ∧ Stand p l e R s m args below meth c B.U B.locs B.cells B.slots ∧ Post ⟨T.setVm vm₁, locs, cells, slots⟩ (Value.ref b :: argsL).toArray v B ∧
      ∀ target, Steps p.tables e below (B.U.setTop { g with pc := g.pc + 3, stack := v.toList ++ rest }) target → Steps p.tables e below (T.setTop g) target) ∨
    (∃ (q : Addr) (vm₁ : Vm) (B : Pt), s.WarmedH vm₁ ∧ Stand p l e R s m args below meth c B.U B.locs B.cells B.slots ∧ PostX ⟨T.setVm vm₁, locs, cells, slots⟩ (Value.ref b :: argsL).toArray q B ∧
      Steps p.tables e below (T.setTop g) ((B.U.setTop { g with stack := rest }).pushFrame (.throwing q))) := by
  obtain ⟨mk, methM, hnamed, hmethM, hstM, habM⟩ := Cond.instanceMethod_spec hinst
  obtain ⟨methM', cM, hmethM', -, -, -, -, -, -, hsigM⟩ := Cond.code_spec hnamed hcode
  cases hmethM.symm.trans hmethM'
  obtain ⟨c2, r2, m2, q1, q2, q3, q4, kP, hkP, hkPi⟩ := Cond.selects_spec hsel
  cases hcls.symm.trans q1
  cases (State.methodFound?_of_named hnamed hy).symm.trans q2
  cases hnamed.symm.trans q3
  have hselP : selectMethod e.platform s.vm cellB.cls mk = .method mk := by rw [Launch.admits_selectMethod X.admits]; exact q4
  obtain ⟨vm₁, X₁, hstep₁⟩ := X.invokevirtual hexec hown hlink hnamed hmethM hstM hkP hkPi hy (a := b) (cell := cellB) hcell
    (fun z h => by rw [h] at hobj; cases hobj) hselP hmethM habM hkP hkPi (g := g) hg (argsL := argsL) (rest := rest) (hlen _ hsigM) hstack hdg
  rcases hK m meth c ⟨T.setVm vm₁, locs, cells, slots⟩ { g with stack := rest } (.invokevirtual index) mk (Value.ref b :: argsL).toArray X₁ hg hsize hdg hW (X₁.named hnamed) (hpre vm₁ X₁.warmed) with ⟨v, B, X', hpost, hsteps⟩ | ⟨q, B, X', hpost, hsteps⟩
  · exact Or.inl ⟨v, vm₁, B, X₁.warmed, X', hpost, fun target h => hstep₁ _ fun acts => by rw [doInvoke_state]; exact hsteps.trans h⟩
  · exact Or.inr ⟨q, vm₁, B, X₁.warmed, X', hpost, hstep₁ _ fun acts => by rw [doInvoke_state]; exact hsteps⟩
theorem vx_callS (X : Stand p l e R s m args below meth c T locs cells slots) (hexec : p.tables.exec = Jvm.exec) {own : String} {index : Nat} {y : MethodName} {bytes : ByteArray} {maxL : Nat} {ret : Option FieldType}
    (hown : s.vm.findClass own = some m.cls) (hlink : (Cond.methodLink own index y).before args s = true) (hstat : (Cond.static y).before args s = true) (hinit : (Cond.initialized y.cls).before args s = true)
    (hcode : (Cond.code y bytes maxL ret).before args s = true) (hy : y.cls ≠ "java/lang/invoke/MethodHandle" ∧ y.cls ≠ "java/lang/invoke/VarHandle")
    {W9 : Nat} {Pre : Pt → Array Value → Prop} {Post : Pt → Array Value → Option Value → Pt → Prop} {PostX : Pt → Array Value → Addr → Pt → Prop} (hK : vx_Back l R p e below s args y 3 W9 Pre Post PostX)
    {g : JFrame} (hg : g.method = m) (hsize : g.locals.size = c.maxLocals) {argsL rest : List Value} (hlen : ∀ sig, parseMethodDescriptor y.desc = some sig → argsL.length = sig.parameters.length)
    (hstack : g.stack = argsL.reverse ++ rest) (hW : 2 * g.monitorRoom + (rest.map fun v => v.category).sum ≤ W9) (hdg : decode c.code g.pc = .ok (.invokestatic index, 3))
    (hpre : ∀ vm₁, s.WarmedH vm₁ → Pre ⟨T.setVm vm₁, locs, cells, slots⟩ argsL.toArray) :
    (∃ (v : Option Value) (vm₁ : Vm) (B : Pt), s.WarmedH vm₁ ∧ Stand p l e R s m args below meth c B.U B.locs B.cells B.slots ∧ Post ⟨T.setVm vm₁, locs, cells, slots⟩ argsL.toArray v B ∧
      ∀ target, Steps p.tables e below (B.U.setTop { g with pc := g.pc + 3, stack := v.toList ++ rest }) target → Steps p.tables e below (T.setTop g) target) ∨
    (∃ (q : Addr) (vm₁ : Vm) (B : Pt), s.WarmedH vm₁ ∧ Stand p l e R s m args below meth c B.U B.locs B.cells B.slots ∧ PostX ⟨T.setVm vm₁, locs, cells, slots⟩ argsL.toArray q B ∧
      Steps p.tables e below (T.setTop g) ((B.U.setTop { g with stack := rest }).pushFrame (.throwing q))) := by
  obtain ⟨mk, hnamed⟩ := Cond.code_named hcode
  obtain ⟨methM, cM, hmethM, -, -, -, -, -, -, hsigM⟩ := Cond.code_spec hnamed hcode
  have hstatic : methM.isStatic = true := Cond.static_spec hnamed hmethM hstat
  obtain ⟨kP, hkP, -⟩ := className_of_methodNamed hnamed
  have hinitP : kP.init = .initialized := Cond.initialized_spec (findClass_of_methodNamed hnamed) hkP hinit
  obtain ⟨vm₁, X₁, hstep₁⟩ := X.invokestatic hexec hown hlink hnamed hmethM hstatic hkP hinitP hy (g := g) hg (argsL := argsL) (rest := rest) (hlen _ hsigM) hstack hdg
  rcases hK m meth c ⟨T.setVm vm₁, locs, cells, slots⟩ { g with stack := rest } (.invokestatic index) mk argsL.toArray X₁ hg hsize hdg hW (X₁.named hnamed) (hpre vm₁ X₁.warmed) with ⟨v, B, X', hpost, hsteps⟩ | ⟨q, B, X', hpost, hsteps⟩
  · exact Or.inl ⟨v, vm₁, B, X₁.warmed, X', hpost, fun target h => hstep₁ _ fun acts => by rw [doInvoke_state]; exact hsteps.trans h⟩
  · exact Or.inr ⟨q, vm₁, B, X₁.warmed, X', hpost, hstep₁ _ fun acts => by rw [doInvoke_state]; exact hsteps⟩
end Calls
theorem vx_cls {s : State} {T : State} {vm₁ : Vm} {E : String} {k : ClassId} (hW : s.WarmedH vm₁) (h : (T.setVm vm₁).vm.findClass E = some k) : s.vm.findClass E = some k := by
  have h1 : vm₁.findClass E = some k := h
  rw [hW.alike.findClass] at h1
  exact h1
/-- the method's frame g, with q thrown over it -/
def vx_W (p : Program) (l : Launch) (e : Env) (R : Room) (s : State) (m : MethodId) (args : Array Value) (below : List Frame) (meth : Method) (c : Code) (H : Heap) (locs : List Loc) (cells slots : Nat) (Q : State → Prop) (g : JFrame) (q : Addr) : Prop :=
  ∀ T : State, T.heap = H → Stand p l e R s m args below meth c T locs cells slots → ∃ t, Steps p.tables e below ((T.setTop g).pushFrame (.throwing q)) t ∧ Q t
def vx_Run (p : Program) (l : Launch) (e : Env) (R : Room) (s : State) (m : MethodId) (args : Array Value) (below : List Frame) (meth : Method) (c : Code) (H : Heap) (locs : List Loc) (cells slots mc ms : Nat) (g : JFrame) (rest : List Value) (Qa : State → Outcome → State → Prop) (XC : String → State → State → Prop) (free : Addr → Prop) : Prop :=
  ∀ T : State, T.heap = H → Stand p l e R s m args below meth c T locs cells slots →
    (∃ (v : Option Value) (st₀ t T' : State) (L : List Loc), st₀.heap = H ∧ Stand p l e R s m args below meth c T' (locs ++ L) (cells + mc) (slots + ms) ∧ (∀ q ∈ L, free q.base) ∧ T'.heap = t.heap ∧ T'.vm = t.vm ∧ Qa st₀ (.returned v) t ∧
      Goes p e below T g T' { g with pc := g.pc + 3, stack := v.toList ++ rest }) ∨
    (∃ (q : Addr) (st₀ t T' : State) (L : List Loc) (E : String) (ce : Cell), st₀.heap = H ∧ Stand p l e R s m args below meth c T' (locs ++ L) (cells + mc) (slots + ms) ∧ (∀ z ∈ L, free z.base) ∧ T'.heap = t.heap ∧ T'.vm = t.vm ∧ XC E st₀ t ∧ t.heap[q]? = some ce ∧ ce.vm = .none ∧ s.vm.findClass E = some ce.cls ∧
      Steps p.tables e below (T.setTop g) ((T'.setTop { g with stack := rest }).pushFrame (.throwing q)))
def vx_X {S : Type} (px : S → Prop) (B : String → S → State → Prop) (A : Nat → Prop) : String → State → State → Prop := fun E st t => ∃ u : S, px u ∧ B E u t ∧ va_F A st t
section Runs
variable {p : Program} {l : Launch} {e : Env} {R : Room} {s : State} {m : MethodId} {args : Array Value} {below : List Frame} {meth : Method} {c : Code} {H : Heap} {locs : List Loc} {cells slots : Nat}
variable {y : MethodName} {bytes cc : ByteArray} {maxL nL mc ms n index : Nat} {ret : Option FieldType} {ws : List Cond} {rm : Room} {Pc : Array Value → State → Prop} {Qc : Array Value → State → Outcome → State → Prop} {XC : String → State → State → Prop} {free : Addr → Prop} {Ts : List Cond} {own C : String} {b : Addr} {As rest : List Value} {g : JFrame}
theorem vx_callBack (cb : CallB R s args own index y bytes maxL ret ws rm mc ms n) (hM : vx_Met l y ws rm Pc Qc XC mc ms free) (hbl : FrameBlind Pc) : vx_Back l R p e below s args y 3 8 (PreOf R mc ms Pc) (PostOf Qc mc ms free) (vx_Post XC mc ms free) := by
  obtain ⟨hrc, hrs, hfr, hlo, hws, hcw, -, hini, -⟩ := cb
  exact vx_back (bytes := bytes) (maxL := maxL) (ret := ret) hM hbl hrc hrs hfr hlo hws hcw (fun a' U hW => word_at hW (Or.inl (by first | rfl | simp [Cond.onTables, Cond.keeps, Cond.steady])) hini)
theorem vx_runV (S : CallFix p m c cc nL s args Ts own) (hM : vx_Met l y ws rm Pc Qc XC mc ms free) (cw : CallW R s args own C index y bytes maxL ret ws rm mc ms n) (hp : PreV s H C b Pc As)
    (hg : g.method = m) (hn : As.length = n) (hsize : g.locals.size = nL) (hstack : g.stack = As.reverse ++ .ref b :: rest) (hW : 2 * g.monitorRoom + (rest.map fun v => v.category).sum ≤ 8) (hdg : decode cc g.pc = .ok (.invokevirtual index, 3)) (hf : cells + mc ≤ R.cells ∧ slots + ms ≤ R.slots) :
    vx_Run p l e R s m args below meth c H locs cells slots mc ms g rest (Qc (Value.ref b :: As).toArray) XC free := by
  have hK : vx_Back l R p e below s args y 3 8 (PreOf R mc ms Pc) (PostOf Qc mc ms free) (vx_Post XC mc ms free) := vx_callBack cw.1 hM hp.1
  obtain ⟨⟨-, -, -, -, -, -, hcode, -, hy, hlen, hl⟩, hin, hse⟩ := cw
  obtain ⟨hx, hb, hml, ho, -⟩ := S
  obtain ⟨-, ⟨cellB, hcB, hoB, hclB⟩, hPc⟩ := hp
  intro T hT X
  rcases vx_callV X hx (C := C) (bytes := bytes) (maxL := maxL) (ret := ret) ho hl hin hse hcode hy hK (by rw [hT]; exact hcB) hoB hclB hg (hsize.trans hml.symm) (argsL := As) (rest := rest) (fun sig h => hn.trans (hlen sig h)) hstack hW (by rw [hb]; exact hdg)
    (fun vm₁ hW₁ => ⟨hf.1, hf.2, hPc (T.setVm vm₁) hT hW₁⟩) with ⟨v, vm₁, ⟨U', l2, c2, s2⟩, hW₁, X', ⟨g', mk, t, L, e1, e2, hq, h1, hL, h2, h3⟩, st⟩ | ⟨q, vm₁, ⟨U', l2, c2, s2⟩, hW₁, X', ⟨g', mk, t, L, E, ce, e1, e2, hq, hce, hcv, hcl, h1, hL, h2, h3⟩, st⟩
  · dsimp only [Pt.U, Pt.locs, Pt.cells, Pt.slots] at X' e1 e2 h1 h2 h3 st
    subst h1; subst h2; subst h3
    exact Or.inl ⟨v, (T.setVm vm₁).calling g' mk (Value.ref b :: As).toArray, t, U', L, hT, X', hL, e1, e2, hq, st⟩
  · dsimp only [Pt.U, Pt.locs, Pt.cells, Pt.slots] at X' e1 e2 h1 h2 h3 st hcl
    subst h1; subst h2; subst h3
    exact Or.inr ⟨q, (T.setVm vm₁).calling g' mk (Value.ref b :: As).toArray, t, U', L, E, ce, hT, X', hL, e1, e2, hq, hce, hcv, vx_cls hW₁ hcl, st⟩
theorem vx_runS (S : CallFix p m c cc nL s args Ts own) (hM : vx_Met l y ws rm Pc Qc XC mc ms free) (cw : CallB R s args own index y bytes maxL ret ws rm mc ms n ∧ (Cond.static y).before args s = true) (hp : PreS s H Pc As)
    (hg : g.method = m) (hn : As.length = n) (hsize : g.locals.size = nL) (hstack : g.stack = As.reverse ++ rest) (hW : 2 * g.monitorRoom + (rest.map fun v => v.category).sum ≤ 8) (hdg : decode cc g.pc = .ok (.invokestatic index, 3)) (hf : cells + mc ≤ R.cells ∧ slots + ms ≤ R.slots) :
    vx_Run p l e R s m args below meth c H locs cells slots mc ms g rest (Qc As.toArray) XC free := by
  have hK : vx_Back l R p e below s args y 3 8 (PreOf R mc ms Pc) (PostOf Qc mc ms free) (vx_Post XC mc ms free) := vx_callBack cw.1 hM hp.1
  obtain ⟨⟨-, -, -, -, -, -, hcode, hini, hy, hlen, hl⟩, hstt⟩ := cw
  obtain ⟨hx, hb, hml, ho, -⟩ := S
  intro T hT X
  rcases vx_callS X hx (bytes := bytes) (maxL := maxL) (ret := ret) ho hl hstt hini hcode hy hK hg (hsize.trans hml.symm) (argsL := As) (rest := rest) (fun sig h => hn.trans (hlen sig h)) hstack hW (by rw [hb]; exact hdg)
    (fun vm₁ hW₁ => ⟨hf.1, hf.2, hp.2 (T.setVm vm₁) hT hW₁⟩) with ⟨v, vm₁, ⟨U', l2, c2, s2⟩, hW₁, X', ⟨g', mk, t, L, e1, e2, hq, h1, hL, h2, h3⟩, st⟩ | ⟨q, vm₁, ⟨U', l2, c2, s2⟩, hW₁, X', ⟨g', mk, t, L, E, ce, e1, e2, hq, hce, hcv, hcl, h1, hL, h2, h3⟩, st⟩
  · dsimp only [Pt.U, Pt.locs, Pt.cells, Pt.slots] at X' e1 e2 h1 h2 h3 st
    subst h1; subst h2; subst h3
    exact Or.inl ⟨v, (T.setVm vm₁).calling g' mk As.toArray, t, U', L, hT, X', hL, e1, e2, hq, st⟩
  · dsimp only [Pt.U, Pt.locs, Pt.cells, Pt.slots] at X' e1 e2 h1 h2 h3 st hcl
    subst h1; subst h2; subst h3
    exact Or.inr ⟨q, (T.setVm vm₁).calling g' mk As.toArray, t, U', L, E, ce, hT, X', hL, e1, e2, hq, hce, hcv, vx_cls hW₁ hcl, st⟩
end Runs
section Rows
variable {p : Program} {l : Launch} {e : Env} {R : Room} {s : State} {m : MethodId} {args : Array Value} {below : List Frame} {meth : Method} {c : Code} {H : Heap} {locs : List Loc} {cells slots : Nat} {Q : State → Prop}
variable {mc ms : Nat} {free : Addr → Prop} {A0 A1 : Nat → Prop} {H0 : Heap} {a : Array Value} {pc : Nat} {ls : Array Slot} {st0 rest : List Value}
theorem vx_keep {st₀ t T' : State} {L : List Loc} (h0 : st₀.heap = H) (e1 : T'.heap = t.heap) (hS : va_S A0 H0 H locs) (hA : ∀ q, q < H.size → A1 q → A0 q) (hf : ∀ q, free q → A0 q) (hL : ∀ q ∈ L, free q.base) (hF : va_F A1 st₀ t) :
    H.size ≤ T'.heap.size ∧ (∀ q : Nat, q < H.size → ¬ A1 q → T'.heap[q]? = H[q]?) ∧ va_S A0 H0 T'.heap (locs ++ L) := by
  obtain ⟨hz, hk⟩ := hF
  rw [h0] at hz hk
  exact ⟨by rw [e1]; exact hz, fun q h1 h2 => by rw [e1]; exact hk q h1 h2,
    ⟨Nat.le_trans hS.1 (by rw [e1]; exact hz), fun q h1 h2 => by rw [e1, hk q (Nat.lt_of_lt_of_le h1 hS.1) (fun z => h2 (hA q (Nat.lt_of_lt_of_le h1 hS.1) z))]; exact hS.2.1 q h1 h2, fun q hq => by
      rcases List.mem_append.mp hq with h | h
      · exact hS.2.2 q h
      · exact hf _ (hL q h)⟩⟩
theorem vx_calli {S SX : Type} {post : Int32 → S → Prop} {px : SX → Prop} {B : S → State → Prop} {BX : String → SX → State → Prop} {AX : Nat → Prop} (hr : vx_Run p l e R s m args below meth c H locs cells slots mc ms (F0 m pc ls st0) rest (va_Qi post B A1 a) (vx_X px BX AX) free) (hS : va_S A0 H0 H locs) (hA : ∀ q, q < H.size → A1 q → A0 q) (hf : ∀ q, free q → A0 q) (hAX : ∀ q, q < H.size → AX q → A0 q)
    (kx : ∀ (E : String) (ce : Cell) (q9 : Addr) (u : SX) (t : State) (H1 : Heap) (locs1 : List Loc), t.heap = H1 → s.vm.Alike t.vm → px u → BX E u t → H.size ≤ H1.size → (∀ q : Nat, q < H.size → ¬ AX q → H1[q]? = H[q]?) → va_S A0 H0 H1 locs1 → H1[q9]? = some ce → ce.vm = .none → s.vm.findClass E = some ce.cls → vx_W p l e R s m args below meth c H1 locs1 (cells + mc) (slots + ms) Q (F0 m pc ls rest) q9)
    (kk : ∀ (r : Int32) (u : S) (t : State) (H1 : Heap) (locs1 : List Loc), t.heap = H1 → s.vm.Alike t.vm → post r u → B u t → H.size ≤ H1.size → (∀ q : Nat, q < H.size → ¬ A1 q → H1[q]? = H[q]?) → va_S A0 H0 H1 locs1 → W p l e R s m args below meth c H1 locs1 (cells + mc) (slots + ms) Q (F0 m (pc + 3) ls (.int r :: rest))) : W p l e R s m args below meth c H locs cells slots Q (F0 m pc ls st0) := by
  intro T hT X
  rcases hr T hT X with ⟨v, st₀, t, T', L, h0, X', hL, e1, e2, ⟨⟨r, u, hv, hp, hb⟩, hF⟩, st⟩ | ⟨q, st₀, t, T', L, E, ce, h0, X', hL, e1, e2, ⟨u, hp, hb, hF⟩, hce, hcv, hcl, st⟩
  · cases hv
    obtain ⟨k1, k2, k3⟩ := vx_keep h0 e1 hS hA hf hL hF
    obtain ⟨t2, a1, b1⟩ := kk r u t T'.heap (locs ++ L) e1.symm (by rw [← e2]; exact X'.warmed.alike) hp hb k1 k2 k3 T' rfl X'
    exact ⟨t2, st t2 a1, b1⟩
  · obtain ⟨k1, k2, k3⟩ := vx_keep h0 e1 hS hAX hf hL hF
    obtain ⟨t2, a1, b1⟩ := kx E ce q u t T'.heap (locs ++ L) e1.symm (by rw [← e2]; exact X'.warmed.alike) hp hb k1 k2 k3 (by rw [e1]; exact hce) hcv hcl T' rfl X'
    exact ⟨t2, st.trans a1, b1⟩
theorem vx_calll {S SX : Type} {post : Int64 → S → Prop} {px : SX → Prop} {B : S → State → Prop} {BX : String → SX → State → Prop} {AX : Nat → Prop} (hr : vx_Run p l e R s m args below meth c H locs cells slots mc ms (F0 m pc ls st0) rest (va_Ql post B A1 a) (vx_X px BX AX) free) (hS : va_S A0 H0 H locs) (hA : ∀ q, q < H.size → A1 q → A0 q) (hf : ∀ q, free q → A0 q) (hAX : ∀ q, q < H.size → AX q → A0 q)
    (kx : ∀ (E : String) (ce : Cell) (q9 : Addr) (u : SX) (t : State) (H1 : Heap) (locs1 : List Loc), t.heap = H1 → s.vm.Alike t.vm → px u → BX E u t → H.size ≤ H1.size → (∀ q : Nat, q < H.size → ¬ AX q → H1[q]? = H[q]?) → va_S A0 H0 H1 locs1 → H1[q9]? = some ce → ce.vm = .none → s.vm.findClass E = some ce.cls → vx_W p l e R s m args below meth c H1 locs1 (cells + mc) (slots + ms) Q (F0 m pc ls rest) q9)
    (kk : ∀ (r : Int64) (u : S) (t : State) (H1 : Heap) (locs1 : List Loc), t.heap = H1 → s.vm.Alike t.vm → post r u → B u t → H.size ≤ H1.size → (∀ q : Nat, q < H.size → ¬ A1 q → H1[q]? = H[q]?) → va_S A0 H0 H1 locs1 → W p l e R s m args below meth c H1 locs1 (cells + mc) (slots + ms) Q (F0 m (pc + 3) ls (.long r :: rest))) : W p l e R s m args below meth c H locs cells slots Q (F0 m pc ls st0) := by
  intro T hT X
  rcases hr T hT X with ⟨v, st₀, t, T', L, h0, X', hL, e1, e2, ⟨⟨r, u, hv, hp, hb⟩, hF⟩, st⟩ | ⟨q, st₀, t, T', L, E, ce, h0, X', hL, e1, e2, ⟨u, hp, hb, hF⟩, hce, hcv, hcl, st⟩
  · cases hv
    obtain ⟨k1, k2, k3⟩ := vx_keep h0 e1 hS hA hf hL hF
    obtain ⟨t2, a1, b1⟩ := kk r u t T'.heap (locs ++ L) e1.symm (by rw [← e2]; exact X'.warmed.alike) hp hb k1 k2 k3 T' rfl X'
    exact ⟨t2, st t2 a1, b1⟩
  · obtain ⟨k1, k2, k3⟩ := vx_keep h0 e1 hS hAX hf hL hF
    obtain ⟨t2, a1, b1⟩ := kx E ce q u t T'.heap (locs ++ L) e1.symm (by rw [← e2]; exact X'.warmed.alike) hp hb k1 k2 k3 (by rw [e1]; exact hce) hcv hcl T' rfl X'
    exact ⟨t2, st.trans a1, b1⟩
theorem vx_callf {S SX : Type} {post : UInt32 → S → Prop} {px : SX → Prop} {B : S → State → Prop} {BX : String → SX → State → Prop} {AX : Nat → Prop} (hr : vx_Run p l e R s m args below meth c H locs cells slots mc ms (F0 m pc ls st0) rest (va_Qf post B A1 a) (vx_X px BX AX) free) (hS : va_S A0 H0 H locs) (hA : ∀ q, q < H.size → A1 q → A0 q) (hf : ∀ q, free q → A0 q) (hAX : ∀ q, q < H.size → AX q → A0 q)
    (kx : ∀ (E : String) (ce : Cell) (q9 : Addr) (u : SX) (t : State) (H1 : Heap) (locs1 : List Loc), t.heap = H1 → s.vm.Alike t.vm → px u → BX E u t → H.size ≤ H1.size → (∀ q : Nat, q < H.size → ¬ AX q → H1[q]? = H[q]?) → va_S A0 H0 H1 locs1 → H1[q9]? = some ce → ce.vm = .none → s.vm.findClass E = some ce.cls → vx_W p l e R s m args below meth c H1 locs1 (cells + mc) (slots + ms) Q (F0 m pc ls rest) q9)
    (kk : ∀ (r : UInt32) (u : S) (t : State) (H1 : Heap) (locs1 : List Loc), t.heap = H1 → s.vm.Alike t.vm → post r u → B u t → H.size ≤ H1.size → (∀ q : Nat, q < H.size → ¬ A1 q → H1[q]? = H[q]?) → va_S A0 H0 H1 locs1 → W p l e R s m args below meth c H1 locs1 (cells + mc) (slots + ms) Q (F0 m (pc + 3) ls (.float r :: rest))) : W p l e R s m args below meth c H locs cells slots Q (F0 m pc ls st0) := by
  intro T hT X
  rcases hr T hT X with ⟨v, st₀, t, T', L, h0, X', hL, e1, e2, ⟨⟨r, u, hv, hp, hb⟩, hF⟩, st⟩ | ⟨q, st₀, t, T', L, E, ce, h0, X', hL, e1, e2, ⟨u, hp, hb, hF⟩, hce, hcv, hcl, st⟩
  · cases hv
    obtain ⟨k1, k2, k3⟩ := vx_keep h0 e1 hS hA hf hL hF
    obtain ⟨t2, a1, b1⟩ := kk r u t T'.heap (locs ++ L) e1.symm (by rw [← e2]; exact X'.warmed.alike) hp hb k1 k2 k3 T' rfl X'
    exact ⟨t2, st t2 a1, b1⟩
  · obtain ⟨k1, k2, k3⟩ := vx_keep h0 e1 hS hAX hf hL hF
    obtain ⟨t2, a1, b1⟩ := kx E ce q u t T'.heap (locs ++ L) e1.symm (by rw [← e2]; exact X'.warmed.alike) hp hb k1 k2 k3 (by rw [e1]; exact hce) hcv hcl T' rfl X'
    exact ⟨t2, st.trans a1, b1⟩
theorem vx_calld {S SX : Type} {post : UInt64 → S → Prop} {px : SX → Prop} {B : S → State → Prop} {BX : String → SX → State → Prop} {AX : Nat → Prop} (hr : vx_Run p l e R s m args below meth c H locs cells slots mc ms (F0 m pc ls st0) rest (va_Qd post B A1 a) (vx_X px BX AX) free) (hS : va_S A0 H0 H locs) (hA : ∀ q, q < H.size → A1 q → A0 q) (hf : ∀ q, free q → A0 q) (hAX : ∀ q, q < H.size → AX q → A0 q)
    (kx : ∀ (E : String) (ce : Cell) (q9 : Addr) (u : SX) (t : State) (H1 : Heap) (locs1 : List Loc), t.heap = H1 → s.vm.Alike t.vm → px u → BX E u t → H.size ≤ H1.size → (∀ q : Nat, q < H.size → ¬ AX q → H1[q]? = H[q]?) → va_S A0 H0 H1 locs1 → H1[q9]? = some ce → ce.vm = .none → s.vm.findClass E = some ce.cls → vx_W p l e R s m args below meth c H1 locs1 (cells + mc) (slots + ms) Q (F0 m pc ls rest) q9)
    (kk : ∀ (r : UInt64) (u : S) (t : State) (H1 : Heap) (locs1 : List Loc), t.heap = H1 → s.vm.Alike t.vm → post r u → B u t → H.size ≤ H1.size → (∀ q : Nat, q < H.size → ¬ A1 q → H1[q]? = H[q]?) → va_S A0 H0 H1 locs1 → W p l e R s m args below meth c H1 locs1 (cells + mc) (slots + ms) Q (F0 m (pc + 3) ls (.double r :: rest))) : W p l e R s m args below meth c H locs cells slots Q (F0 m pc ls st0) := by
  intro T hT X
  rcases hr T hT X with ⟨v, st₀, t, T', L, h0, X', hL, e1, e2, ⟨⟨r, u, hv, hp, hb⟩, hF⟩, st⟩ | ⟨q, st₀, t, T', L, E, ce, h0, X', hL, e1, e2, ⟨u, hp, hb, hF⟩, hce, hcv, hcl, st⟩
  · cases hv
    obtain ⟨k1, k2, k3⟩ := vx_keep h0 e1 hS hA hf hL hF
    obtain ⟨t2, a1, b1⟩ := kk r u t T'.heap (locs ++ L) e1.symm (by rw [← e2]; exact X'.warmed.alike) hp hb k1 k2 k3 T' rfl X'
    exact ⟨t2, st t2 a1, b1⟩
  · obtain ⟨k1, k2, k3⟩ := vx_keep h0 e1 hS hAX hf hL hF
    obtain ⟨t2, a1, b1⟩ := kx E ce q u t T'.heap (locs ++ L) e1.symm (by rw [← e2]; exact X'.warmed.alike) hp hb k1 k2 k3 (by rw [e1]; exact hce) hcv hcl T' rfl X'
    exact ⟨t2, st.trans a1, b1⟩
theorem vx_callv {S SX : Type} {post : S → Prop} {px : SX → Prop} {B : S → State → Prop} {BX : String → SX → State → Prop} {AX : Nat → Prop} (hr : vx_Run p l e R s m args below meth c H locs cells slots mc ms (F0 m pc ls st0) rest (va_Qv post B A1 a) (vx_X px BX AX) free) (hS : va_S A0 H0 H locs) (hA : ∀ q, q < H.size → A1 q → A0 q) (hf : ∀ q, free q → A0 q) (hAX : ∀ q, q < H.size → AX q → A0 q)
    (kx : ∀ (E : String) (ce : Cell) (q9 : Addr) (u : SX) (t : State) (H1 : Heap) (locs1 : List Loc), t.heap = H1 → s.vm.Alike t.vm → px u → BX E u t → H.size ≤ H1.size → (∀ q : Nat, q < H.size → ¬ AX q → H1[q]? = H[q]?) → va_S A0 H0 H1 locs1 → H1[q9]? = some ce → ce.vm = .none → s.vm.findClass E = some ce.cls → vx_W p l e R s m args below meth c H1 locs1 (cells + mc) (slots + ms) Q (F0 m pc ls rest) q9)
    (kk : ∀ (u : S) (t : State) (H1 : Heap) (locs1 : List Loc), t.heap = H1 → s.vm.Alike t.vm → post u → B u t → H.size ≤ H1.size → (∀ q : Nat, q < H.size → ¬ A1 q → H1[q]? = H[q]?) → va_S A0 H0 H1 locs1 → W p l e R s m args below meth c H1 locs1 (cells + mc) (slots + ms) Q (F0 m (pc + 3) ls (rest))) : W p l e R s m args below meth c H locs cells slots Q (F0 m pc ls st0) := by
  intro T hT X
  rcases hr T hT X with ⟨v, st₀, t, T', L, h0, X', hL, e1, e2, ⟨⟨u, hv, hp, hb⟩, hF⟩, st⟩ | ⟨q, st₀, t, T', L, E, ce, h0, X', hL, e1, e2, ⟨u, hp, hb, hF⟩, hce, hcv, hcl, st⟩
  · cases hv
    obtain ⟨k1, k2, k3⟩ := vx_keep h0 e1 hS hA hf hL hF
    obtain ⟨t2, a1, b1⟩ := kk u t T'.heap (locs ++ L) e1.symm (by rw [← e2]; exact X'.warmed.alike) hp hb k1 k2 k3 T' rfl X'
    exact ⟨t2, st t2 a1, b1⟩
  · obtain ⟨k1, k2, k3⟩ := vx_keep h0 e1 hS hAX hf hL hF
    obtain ⟨t2, a1, b1⟩ := kx E ce q u t T'.heap (locs ++ L) e1.symm (by rw [← e2]; exact X'.warmed.alike) hp hb k1 k2 k3 (by rw [e1]; exact hce) hcv hcl T' rfl X'
    exact ⟨t2, st.trans a1, b1⟩
/-- caught by the row x of this method's table; the rows ahead don't take it -/
theorem vx_catch {own name : String} {E : String} {ce : Cell} {q : Addr} (hown : s.vm.findClass own = some m.cls) (pre : List ExceptionTableEntry) (x : ExceptionTableEntry) (suf : List ExceptionTableEntry) (hsplit : c.exceptionTable.toList = pre ++ x :: suf)
    (hpass : ∀ z ∈ pre, covers z pc = false ∨ (z.catchType ≠ 0 ∧ ∃ nm : String, (Cond.classLink own z.catchType nm).before args s = true ∧ va_Nc E nm s)) (hx : covers x pc = true) (h0 : x.catchType ≠ 0)
    (hlink : (Cond.classLink own x.catchType name).before args s = true) (hcast : (Cond.castable E name).before args s = true) (hcell : H[q]? = some ce) (hv : ce.vm = .none) (hcl : s.vm.findClass E = some ce.cls)
    (kk : W p l e R s m args below meth c H locs cells slots Q (F0 m x.handlerPc ls [.ref q])) : vx_W p l e R s m args below meth c H locs cells slots Q (F0 m pc ls rest) q := by
  intro T hT X
  have hpl : e.platform.magicAccessors = ({} : Platform).magicAccessors := by rw [X.admits.platform]
  obtain ⟨c3, c4, hc3, hc4, hasg⟩ := Cond.castable_spec hcast
  cases Option.some.inj (hc3.symm.trans hcl)
  obtain ⟨c5, hc5, hcl5⟩ := Cond.classLink_spec hown hlink e.platform hpl
  cases Option.some.inj (hc4.symm.trans hc5)
  obtain ⟨vm', X', st⟩ := X.thenCaughtThrough q (g := F0 m pc ls rest) rfl (Steps.refl _) (by rw [hT]; exact hcell) (by rw [hv]; rfl) (by obtain ⟨k9, h9, -⟩ := Vm.findClass_spec hcl; exact ⟨k9, h9⟩) pre x suf hsplit
    (fun z hz => by
      rcases hpass z hz with h | ⟨hz0, nm, hl1, hn1⟩
      · exact Or.inl h
      · obtain ⟨c6, hc6, hcl6⟩ := Cond.classLink_spec hown hl1 e.platform hpl
        obtain ⟨a8, b8, h1, h2, h3⟩ := hn1
        cases Option.some.inj (h1.symm.trans hcl)
        cases Option.some.inj (h2.symm.trans hc6)
        exact Or.inr ⟨hz0, _, hcl6, h3⟩) hx (Or.inr ⟨h0, c4, hcl5, hasg⟩)
  obtain ⟨t, a1, b1⟩ := kk (T.setVm vm') hT X'
  exact ⟨t, st.trans a1, b1⟩
end Rows
section Ends
variable {p : Program} {l : Launch} {e : Env} {R : Room} {s : State} {m : MethodId} {args : Array Value} {below : List Frame} {meth : Method} {c : Code} {H : Heap} {locs : List Loc} {cells slots : Nat} {Q : State → Prop}
variable {mc ms : Nat} {free : Addr → Prop} {A0 A1 : Nat → Prop} {H0 : Heap} {a : Array Value} {ls : Array Slot} {st0 rest : List Value}
variable {Qc : Array Value → State → Outcome → State → Prop} {XC : String → State → State → Prop}
/-- what a body that may throw owes at its end -/
def vx_MQ (below : List Frame) (Qc : Array Value → State → Outcome → State → Prop) (XC : String → State → State → Prop) (a : Array Value) (s : State) (mc ms : Nat) (free : Addr → Prop) : State → Prop := fun t =>
  ∃ o, t.status = .running ∧ Ended t below o ∧ vx_Q Qc XC mc ms free a s o t
theorem vx_ret {g : JFrame} {mc ms : Nat} (k : W p l e R s m args below meth c H locs cells slots (MQ below Qc args s mc ms free) g) : W p l e R s m args below meth c H locs cells slots (vx_MQ below Qc XC args s mc ms free) g := by
  intro T hT X
  obtain ⟨t, a1, o, b1, b2, b3, b4⟩ := k T hT X
  exact ⟨t, a1, o, b1, b2, Or.inl ⟨b3, b4⟩⟩
/-- not caught here: it goes on to the caller -/
theorem vx_widen {g : JFrame} {q : Addr} {k n : Nat} (h1 : cells ≤ k) (h2 : slots ≤ n) (kk : vx_W p l e R s m args below meth c H locs k n Q g q) : vx_W p l e R s m args below meth c H locs cells slots Q g q := fun T hT X => kk T hT (stand_widen X h1 h2)
theorem vx_out {pc : Nat} {E : String} {ce : Cell} {q : Addr} {mc ms : Nat} (hout : ∀ x ∈ c.exceptionTable.toList, covers x pc = false) (hlocks : meth.locks = false) (hcell : H[q]? = some ce) (hv : ce.vm = .none) (hcl : s.vm.findClass E = some ce.cls)
    (hx : ∀ t : State, t.heap = H → s.vm.Alike t.vm → XC E s t) (hf : ∀ z ∈ locs, free z.base) (hc : cells ≤ mc) (hs : slots ≤ ms) :
    vx_W p l e R s m args below meth c H locs cells slots (vx_MQ below Qc XC args s mc ms free) (F0 m pc ls rest) q := by
  intro T hT X
  obtain ⟨st1, hrun, hend, hW, hsm⟩ := X.leaveThrown q (g := F0 m pc ls rest) rfl rfl rfl hout hlocks
  have hcell9 : (T.setFrames (.throwing q :: below)).heap[q]? = some ce := by
    show T.heap[q]? = some ce
    rw [hT]; exact hcell
  exact ⟨_, st1, .threw q, hrun, hend, Or.inr ⟨q, rfl, E, ce, locs, hx _ hT hW.alike, hcell9, hv, hcl, hW, hsm.mono hc hs, hf⟩⟩
theorem vx_frame {U : State} {k n : Nat} (h : s.sameButNew ({ U with vm := s.vm } : State) locs k n) : s.heap.size ≤ U.heap.size ∧ ∀ q : Nat, q < s.heap.size → (∀ z ∈ locs, z.base ≠ q) → U.heap[q]? = s.heap[q]? := by
  obtain ⟨-, h2, -, -, -, h6⟩ := h
  refine ⟨h2, fun q hq hz => ?_⟩
  obtain ⟨c9, e1, e2, e3, e4⟩ := h6 q _ (Array.getElem?_eq_getElem hq)
  have hs : c9.slots = (s.heap[q]).slots := Array.ext_getElem? fun i => e4 i fun hm => hz _ hm rfl
  have h9 : c9 = s.heap[q] := by
    rw [hs] at e2
    exact e2
  have e5 : U.heap[q]? = some c9 := e1
  rw [e5, h9, Array.getElem?_eq_getElem hq]
/-- the words of a throw but the four that speak of the heap -/
def vx_no (w : Cond) : Bool := decide (w ≠ .isRef (.static Bundle.tN "UNASSIGNED_STACK" Bundle.steD)) && decide (w ≠ .isRef (.static Bundle.tN "SUPPRESSED_SENTINEL" Bundle.listD)) && decide (w ≠ .laysStatic Bundle.tN "UNASSIGNED_STACK" Bundle.steD) && decide (w ≠ .laysStatic Bundle.tN "SUPPRESSED_SENTINEL" Bundle.listD)
def vx_at0 (own : String) (ic : Nat) (X : String) (names : List String) : List Cond := (Bundle.ownAtoms0 own ic X names).filter vx_no
def vx_atS (own : String) (ic : Nat) (X : String) (names : List String) : List Cond := (Bundle.ownAtoms own ic X names).filter vx_no
/-- a word that the tables alone decide, or a good one -/
def vx_ot (w : Cond) : Bool := w.onTables || goodWord w
theorem vx_ot_at {args a' : Array Value} {s U : State} {w : Cond} (hW : s.WarmedH U.vm) (hvm : s.vm = U.vm) (hg : vx_ot w = true) (h : w.before args s = true) : w.before a' U = true := by
  simp only [vx_ot, Bool.or_eq_true] at hg
  rcases hg with hg | hg
  · exact va_tabs hg hvm h
  · exact word_at hW (good_of_word hg) h
/-- a list's words: the good ones out of the method's own list, the others by premises of their own -/
theorem vx_hat {args : Array Value} {s : State} {L B : List Cond} (h1 : ∀ w ∈ L.filter goodWord, w.before args s = true) (h2 : ∀ w ∈ L.filter (fun w => !goodWord w), w ∈ B) (h3 : ∀ w ∈ B, w.before args s = true) : ∀ w ∈ L, w.before args s = true := by
  intro w hw
  by_cases g : goodWord w = true
  · exact h1 w (List.mem_filter.mpr ⟨hw, g⟩)
  · refine h3 w (h2 w (List.mem_filter.mpr ⟨hw, ?_⟩))
    show (!goodWord w) = true
    cases hgw : goodWord w
    · rfl
    · exact absurd hgw g
theorem vx_c {args : Array Value} {s : State} {w : Cond} {B : List Cond} (h : w.before args s = true) (t : ∀ w ∈ B, w.before args s = true) : ∀ w' ∈ w :: B, w'.before args s = true := fun w' h' => (List.mem_cons.mp h').elim (fun e => by rw [e]; exact h) (t w')
theorem vx_n {args : Array Value} {s : State} : ∀ w ∈ ([] : List Cond), w.before args s = true := fun _ h => nomatch h
theorem vx_own {args : Array Value} {s : State} {L : List Cond} (h1 : ∀ w ∈ L.filter vx_no, w.before args s = true)
    (hU : (Cond.isRef (.static Bundle.tN "UNASSIGNED_STACK" Bundle.steD)).before args s = true) (hN : (Cond.isRef (.static Bundle.tN "SUPPRESSED_SENTINEL" Bundle.listD)).before args s = true)
    (lU : (Cond.laysStatic Bundle.tN "UNASSIGNED_STACK" Bundle.steD).before args s = true) (lN : (Cond.laysStatic Bundle.tN "SUPPRESSED_SENTINEL" Bundle.listD).before args s = true) : ∀ w ∈ L, w.before args s = true := by
  intro w hw
  by_cases e1 : w = .isRef (.static Bundle.tN "UNASSIGNED_STACK" Bundle.steD)
  · rw [e1]; exact hU
  · by_cases e2 : w = .isRef (.static Bundle.tN "SUPPRESSED_SENTINEL" Bundle.listD)
    · rw [e2]; exact hN
    · by_cases e3 : w = .laysStatic Bundle.tN "UNASSIGNED_STACK" Bundle.steD
      · rw [e3]; exact lU
      · by_cases e4 : w = .laysStatic Bundle.tN "SUPPRESSED_SENTINEL" Bundle.listD
        · rw [e4]; exact lN
        · exact h1 w (List.mem_filter.mpr ⟨hw, by unfold vx_no; rw [decide_eq_true e1, decide_eq_true e2, decide_eq_true e3, decide_eq_true e4]; rfl⟩)
/-- where a static field lies, its class's statics cell in H -/
def vx_L (C n d : String) (A : Nat → Prop) (U : State) (H : Heap) : Prop := ∃ (c : ClassId) (k : Class) (i : Nat) (f : Field) (a : Nat) (cell : Cell), U.vm.findClass C = some c ∧ U.fieldFound? C n d = some (c, k, i, f) ∧ f.isStatic = true ∧ k.statics = some a ∧ H[a]? = some cell ∧ cell.vm.isStatics = true ∧ cell.cls = c ∧ f.slot < cell.slots.size ∧ k.staticTypes[f.slot]? = some f.type ∧ ¬ A a
theorem vx_L.moved {C n d : String} {A : Nat → Prop} {u U : State} {H : Heap} (hvm : u.vm.Alike U.vm) (h : vx_L C n d A u H) : vx_L C n d A U H := by
  obtain ⟨c, k, i, f, a, cell, h1, h2, h3, h4, h5, h6, h7, h8, h9, h10⟩ := h
  obtain ⟨k', hi', he⟩ := State.fieldFound?_setVm hvm h2
  exact ⟨c, k', i, f, a, cell, by rw [hvm.findClass]; exact h1, hi', h3, by rw [he]; exact h4, h5, h6, h7, h8, by rw [he]; exact h9, h10⟩
theorem vx_L.kept {C n d : String} {A : Nat → Prop} {U : State} {H H1 : Heap} (h : vx_L C n d A U H) (hq : ∀ a : Nat, a < H.size → ¬ A a → H1[a]? = H[a]?) : vx_L C n d A U H1 := by
  obtain ⟨c, k, i, f, a, cell, h1, h2, h3, h4, h5, h6, h7, h8, h9, h10⟩ := h
  exact ⟨c, k, i, f, a, cell, h1, h2, h3, h4, by rw [hq a (Array.getElem?_eq_some_iff.mp h5).1 h10]; exact h5, h6, h7, h8, h9, h10⟩
theorem vx_L.narrow {C n d : String} {A B : Nat → Prop} {U : State} {H : Heap} (h : vx_L C n d A U H) (hAB : ∀ q, B q → A q) : vx_L C n d B U H := by
  obtain ⟨c, k, i, f, a, cell, h1, h2, h3, h4, h5, h6, h7, h8, h9, h10⟩ := h
  exact ⟨c, k, i, f, a, cell, h1, h2, h3, h4, h5, h6, h7, h8, h9, fun z => h10 (hAB _ z)⟩
theorem vx_L.word {C n d : String} {A : Nat → Prop} {s : State} {args : Array Value} (h : vx_L C n d A s s.heap) : (Cond.laysStatic C n d).before args s = true := by
  obtain ⟨c, k, i, f, a, cell, h1, h2, h3, h4, h5, h6, h7, h8, h9, -⟩ := h
  show (Cond.laysStatic C n d).holds args s none s [] = true
  exact Cond.laysStatic_of h1 h2 h3 h4 h5 h6 h7 h8 h9
/-- .. and what it holds: null or some reference -/
def vx_Zq (C n d : String) (A : Nat → Prop) (U : State) (H : Heap) : Prop := va_Zq C n d A U H ∧ vx_L C n d A U H
theorem vx_Zq.moved {C n d : String} {A : Nat → Prop} {u U : State} {H : Heap} (hvm : u.vm.Alike U.vm) (h : vx_Zq C n d A u H) : vx_Zq C n d A U H := ⟨va_Zq.moved hvm h.1, vx_L.moved hvm h.2⟩
theorem vx_Zq.kept {C n d : String} {A : Nat → Prop} {U : State} {H H1 : Heap} (h : vx_Zq C n d A U H) (hq : ∀ a : Nat, a < H.size → ¬ A a → H1[a]? = H[a]?) : vx_Zq C n d A U H1 := ⟨va_Zq.kept h.1 hq, vx_L.kept h.2 hq⟩
theorem vx_Zq.narrow {C n d : String} {A B : Nat → Prop} {U : State} {H : Heap} (h : vx_Zq C n d A U H) (hAB : ∀ q, B q → A q) : vx_Zq C n d B U H := ⟨va_Zq.narrow h.1 hAB, vx_L.narrow h.2 hAB⟩
theorem vx_Zqof {args : Array Value} {s : State} {C n d : String} {A : Nat → Prop} (hl : (Cond.laysStatic C n d).before args s = true) (hini : (Cond.initialized C).before args s = true) (h : (Cond.isRef (.static C n d)).before args s = true) (hA : ∀ a : Nat, a < s.heap.size → ¬ A a) : vx_Zq C n d A s s.heap := by
  refine ⟨va_Zqof hl hini h hA, ?_⟩
  obtain ⟨c, k, i, f, a, cell, h1, h2, h3, h4, h5, h6, h7, h8, h9⟩ := Cond.laysStatic_spec hl
  exact ⟨c, k, i, f, a, cell, h1, h2, h3, h4, h5, h6, h7, h8, h9, hA a (Array.getElem?_eq_some_iff.mp h5).1⟩
theorem vx_isRef {C n d : String} {v : Value} {A : Nat → Prop} {s : State} {args : Array Value} (h : va_Z C n d v A s s.heap) (hv : v.isRef = true) : (Cond.isRef (.static C n d)).before args s = true := by
  obtain ⟨cf, kf, fi, f, a, cell, h1, h2, h3, h4, h5, h6, h7, -⟩ := h
  have he : (Term.static C n d).eval args s none [] s = some v := by
    simp [Term.eval, State.fieldNamed?, h1, h2, h4, h5, h6, h7]
  simp only [Cond.before, Cond.holds, Cond.value, he]
  cases v <;> simp_all [Value.isRef]
theorem vx_isRefq {C n d : String} {A : Nat → Prop} {s : State} {args : Array Value} (h : va_Zq C n d A s s.heap) : (Cond.isRef (.static C n d)).before args s = true := by
  rcases h with h | ⟨t, h⟩
  · exact vx_isRef h rfl
  · exact vx_isRef h rfl
/-- the same frame, seen from here: as if the method were called anew in this heap -/
theorem vx_rebase {T : State} (X : Stand p l e R s m args below meth c T locs cells slots) {R' : Room} (hf : R'.frames ≤ R.frames) (hl : R'.locals ≤ R.locals) (hc : cells + R'.cells ≤ R.cells) (hs : slots + R'.slots ≤ R.slots) :
    Stand p l e R' ((T.setVm s.vm).setFrames (.invoking m args :: below)) m args below meth c T [] 0 0 := by
  have htop : (T.setVm s.vm).topJava?.isSome := X.here.top
  have hF : ((T.setVm s.vm).setFrames (.invoking m args :: below)).frames = .invoking m args :: below := State.frames_setFrames _ (State.cur_lt_of_top htop)
  obtain ⟨g₀, hg0⟩ := Option.isSome_iff_exists.mp htop
  obtain ⟨r, hr⟩ := State.topJava?_eq_some.mp hg0
  have hl9 : e.platform.stackLimits (T.setVm s.vm).me = e.platform.stackLimits s.me := X.limits
  have hb9 : (T.setVm s.vm).me.stackBytes = s.me.stackBytes := X.bytes
  refine ⟨X.admits, X.cas, X.clock, hF, ?_, X.hears, X.method, X.code, X.here, X.tail, X.warmed, ?_, ?_, ?_⟩
  · have h := X.room
    have hU : ((T.setVm s.vm).setFrames (.invoking m args :: below)).localsInUse = s.localsInUse := by
      rw [State.localsInUse_invoking hF (meth := meth) (c := c) X.method X.code, State.localsInUse_invoking X.frames X.method X.code]
    simp only [State.hasRoom, Bool.and_eq_true, decide_eq_true_eq] at h ⊢
    obtain ⟨⟨⟨⟨h1, h2, h3, h4, h5, h6⟩, h7⟩, h8⟩, h9⟩ := h
    rw [X.frames, List.length_cons] at h2 h3
    have q1 := X.heapSize
    have q2 := X.used
    simp only [hF, hU, List.length_cons, State.stackLimits_setFrames, State.stackBytes_setFrames, hl9, hb9]
    refine ⟨⟨⟨⟨by omega, by omega, by omega, by omega, by omega, h6⟩, ?_⟩, ?_⟩, X.book⟩
    · show T.heap.size + R'.cells ≤ e.platform.maxCells
      omega
    · show T.slotsUsed + R'.slots ≤ e.platform.maxSlots
      omega
  · rw [State.stackLimits_setFrames]; rfl
  · rw [State.stackBytes_setFrames]; rfl
  · refine ⟨?_, Nat.le_refl _, Nat.le_refl _, ?_, ?_, fun a c9 h9 => ⟨c9, h9, rfl, rfl, fun _ _ => rfl⟩⟩
    · obtain ⟨t, ht, -⟩ := State.frames_cons hr
      show T.setVm s.vm = { ((T.setVm s.vm).setFrames (.invoking m args :: below)).setFrames (T.setVm s.vm).frames with heap := T.heap, slotsUsed := T.slotsUsed }
      rw [State.setFrames_setFrames, State.setFrames_self ht]
      rfl
    · show T.slotsUsed = T.slotsUsed + ((T.heap.toList.drop T.heap.size).map (·.slots.size)).sum
      rw [List.drop_eq_nil_of_le (Nat.le_of_eq Array.length_toList)]
      rfl
    · show ((T.heap.toList.drop T.heap.size).map (·.slots.size)).sum ≤ 0
      rw [List.drop_eq_nil_of_le (Nat.le_of_eq Array.length_toList)]
      exact Nat.le_refl _
/-- 'throw new E()': new; dup; invokespecial; athrow -/
theorem vx_throw0 {cc : ByteArray} {pc : Nat} (hexec : p.tables.exec = Jvm.exec) (hb : c.code = cc) (hl : l.stackTraces = false) {own cls : String} {names : List String} {ik ic mc ms : Nat} {A : Nat → Prop}
    (hown : s.vm.findClass own = some m.cls) (hcls : Bundle.fit cls = true) (hnames : ∀ n ∈ names, Bundle.fit n = true)
    (hk : (Cond.classLink own ik cls).before args s = true) (hini : (Cond.initialized cls).before args s = true) (hat : ∀ w ∈ vx_at0 own ic cls names, w.before args s = true)
    (hgood : ∀ w ∈ Cond.classLink own ik cls :: Cond.initialized cls :: vx_at0 own ic cls names, vx_ot w = true)
    (hU : vx_Zq Bundle.tN "UNASSIGNED_STACK" Bundle.steD A s s.heap) (hN : vx_Zq Bundle.tN "SUPPRESSED_SENTINEL" Bundle.listD A s s.heap) (hS : va_S A s.heap H locs) (hsize : ls.size = c.maxLocals)
    (d0 : decode cc pc = .ok (.new ik, 3)) (d3 : decode cc (pc + 3) = .ok (.dup, 1)) (d4 : decode cc (pc + 4) = .ok (.invokespecial ic, 3)) (d7 : decode cc (pc + 7) = .ok (.athrow, 1))
    (hout : ∀ x ∈ c.exceptionTable.toList, covers x (pc + 7) = false)
    (hRframes : names.length + 3 < R.frames) (hRlocals : (rest.map fun v => v.category).sum + (13 * (names.length + 1) + 42) ≤ R.locals) (hRcells : cells + 1 ≤ R.cells) (hRslots : slots + 6 ≤ R.slots) (hlocks : meth.locks = false)
    (hx : ∀ t : State, s.vm.Alike t.vm → H.size ≤ t.heap.size → (∀ q : Nat, q < H.size → t.heap[q]? = H[q]?) → XC cls s t)
    (hf : ∀ z ∈ locs, free z.base) (hc : cells + 1 ≤ mc) (hs : slots + 6 ≤ ms) :
    W p l e R s m args below meth c H locs cells slots (vx_MQ below Qc XC args s mc ms free) (F0 m pc ls rest) := by
  intro T hT X
  have htr : e.platform.stackTraces = false := (show e.platform.stackTraces = l.stackTraces by rw [X.admits.platform]).trans hl
  have Y := vx_rebase X (R' := { frames := R.frames, locals := R.locals, cells := 1, slots := 6 }) (Nat.le_refl _) (Nat.le_refl _) hRcells hRslots
  obtain ⟨s', hA⟩ : ∃ z, z = (T.setVm s.vm).setFrames (.invoking m args :: below) := ⟨_, rfl⟩
  rw [← hA] at Y
  have hvm : s'.vm = s.vm := by rw [hA]; rfl
  have hhp : s'.heap = H := by rw [hA]; exact hT
  have hW0 : s.WarmedH s'.vm := by rw [hvm]; exact State.WarmedH.refl s
  have hat' : ∀ w ∈ vx_at0 own ic cls names, w.before args s' = true := fun w hw => vx_ot_at hW0 hvm.symm (hgood w (List.mem_cons_of_mem _ (List.mem_cons_of_mem _ hw))) (hat w hw)
  have hk' : (Cond.classLink own ik cls).before args s' = true := vx_ot_at hW0 hvm.symm (hgood _ List.mem_cons_self) hk
  have hini' : (Cond.initialized cls).before args s' = true := vx_ot_at hW0 hvm.symm (hgood _ (List.mem_cons_of_mem _ List.mem_cons_self)) hini
  have hU' : vx_Zq Bundle.tN "UNASSIGNED_STACK" Bundle.steD A s' s'.heap := by rw [hhp]; exact vx_Zq.moved hW0.alike (hU.kept hS.2.1)
  have hN' : vx_Zq Bundle.tN "SUPPRESSED_SENTINEL" Bundle.listD A s' s'.heap := by rw [hhp]; exact vx_Zq.moved hW0.alike (hN.kept hS.2.1)
  have h : ∀ w ∈ Bundle.ownAtoms0 own ic cls names, w.before args s' = true := vx_own hat' (vx_isRefq hU'.1) (vx_isRefq hN'.1) hU'.2.word hN'.2.word
  have hown' : s'.vm.findClass own = some m.cls := by rw [hvm]; exact hown
  have hins : (Cond.instantiable cls 6).before args s' = true := h _ (by simp [Bundle.ownAtoms0])
  obtain ⟨vm₁, cX, kX, hfX, hkX, -, -, X₁, st1⟩ := Y.newCold hexec (own := own) (C := cls) (index := ik) (n := 6) hown' hk' hins hini'
    (g := F0 m pc ls rest) rfl (by rw [hb]; exact d0) (Nat.le_refl _) (Nat.le_refl _)
  generalize hT1 : (T.setVm vm₁).pushCell { cls := cX, slots := kX.instanceTypes.map defaultValue, vm := .none } = T1 at X₁ st1
  have hcat : (Value.ref T.heap.size).category = 1 := rfl
  have hcellA : T1.heap[T.heap.size]? = some (freshCell cX kX) := by rw [← hT1]; exact State.heap_pushCell_size _ _
  have d3' : decode c.code (pc + 3) = .ok (.dup, 1) := by rw [hb]; exact d3
  obtain ⟨U, hsteps, hrun, hend, hW, hsame, ce, hce, hO⟩ := X₁.ctorThrow0 hexec htr (own := own) (cls := cls) (names := names) (ic := ic) hown' hcls hnames h (fun x hx => nomatch hx) hfX hkX hcellA (by rw [hhp, hT]; exact Nat.le_refl _)
    (g := { method := m, pc := pc + 4, locals := ls, stack := .ref T.heap.size :: .ref T.heap.size :: rest, locked := none }) rfl hsize rfl rfl (rest := rest) rfl
    (by rw [hb]; exact d4) (by rw [hb]; exact d7) hout hRframes (by simp only [List.map_cons, List.sum_cons, hcat]; omega) hlocks
  obtain ⟨f1, f2⟩ := vx_frame hsame
  rw [hhp] at f1 f2
  have hWs : s.WarmedH U.vm := State.WarmedH.trans hW0 hW
  have hcl : s.vm.findClass cls = some ce.cls := by
    have h9 := hO.cls
    rw [hvm] at h9
    exact h9
  have hall : s.sameButNew ({ U with vm := s.vm } : State) locs mc ms := by
    subst hA
    obtain ⟨e1, e2⟩ := hsame
    rw [State.setFrames_setFrames] at e1
    have h2 : (T.setVm s.vm).sameButNew ({ U with vm := s.vm } : State) [] (0 + 1) (0 + 6) := ⟨e1, e2⟩
    have h3 := X.same.trans h2
    rw [List.append_nil] at h3
    exact h3.mono hc hs
  refine ⟨U, ?_, .threw T.heap.size, hrun, hend, Or.inr ⟨T.heap.size, rfl, cls, ce, locs, hx U hWs.alike f1 (fun q hq => f2 q hq (fun z hz => nomatch hz)), hce, hO.vm, hcl, hWs, hall, hf⟩⟩
  refine st1 _ ?_
  show Steps p.tables e below (T1.setTop { method := m, pc := pc + 3, locals := ls, stack := .ref T.heap.size :: rest, locked := none }) _
  jvm_step X₁.here [X₁.here.top, hexec, d3', Value.category]
  exact hsteps
/-- 'throw new E("text")': new; dup; ldc; invokespecial; athrow -/
theorem vx_throwS {cc : ByteArray} {pc : Nat} (hexec : p.tables.exec = Jvm.exec) (hb : c.code = cc) (hl : l.stackTraces = false) {own cls text : String} {names : List String} {ik is ic mc ms sa : Nat} {A : Nat → Prop}
    (hown : s.vm.findClass own = some m.cls) (hcls : Bundle.fit cls = true) (hnames : ∀ n ∈ names, Bundle.fit n = true)
    (hk : (Cond.classLink own ik cls).before args s = true) (hini : (Cond.initialized cls).before args s = true) (hstr : vk_R own is text sa s) (hat : ∀ w ∈ vx_atS own ic cls names, w.before args s = true)
    (hgood : ∀ w ∈ Cond.classLink own ik cls :: Cond.initialized cls :: vx_atS own ic cls names, vx_ot w = true)
    (hU : vx_Zq Bundle.tN "UNASSIGNED_STACK" Bundle.steD A s s.heap) (hN : vx_Zq Bundle.tN "SUPPRESSED_SENTINEL" Bundle.listD A s s.heap) (hS : va_S A s.heap H locs) (hsize : ls.size = c.maxLocals)
    (d0 : decode cc pc = .ok (.new ik, 3)) (d3 : decode cc (pc + 3) = .ok (.dup, 1)) (d4 : decode cc (pc + 4) = .ok (.ldc is, 2)) (d6 : decode cc (pc + 6) = .ok (.invokespecial ic, 3)) (d9 : decode cc (pc + 9) = .ok (.athrow, 1))
    (hout : ∀ x ∈ c.exceptionTable.toList, covers x (pc + 9) = false)
    (hRframes : names.length + 3 < R.frames) (hRlocals : (rest.map fun v => v.category).sum + (13 * (names.length + 1) + 43) ≤ R.locals) (hRcells : cells + 1 ≤ R.cells) (hRslots : slots + 6 ≤ R.slots) (hlocks : meth.locks = false)
    (hx : ∀ t : State, s.vm.Alike t.vm → H.size ≤ t.heap.size → (∀ q : Nat, q < H.size → t.heap[q]? = H[q]?) → XC cls s t)
    (hf : ∀ z ∈ locs, free z.base) (hc : cells + 1 ≤ mc) (hs : slots + 6 ≤ ms) :
    W p l e R s m args below meth c H locs cells slots (vx_MQ below Qc XC args s mc ms free) (F0 m pc ls rest) := by
  intro T hT X
  have htr : e.platform.stackTraces = false := (show e.platform.stackTraces = l.stackTraces by rw [X.admits.platform]).trans hl
  have Y := vx_rebase X (R' := { frames := R.frames, locals := R.locals, cells := 1, slots := 6 }) (Nat.le_refl _) (Nat.le_refl _) hRcells hRslots
  obtain ⟨s', hA⟩ : ∃ z, z = (T.setVm s.vm).setFrames (.invoking m args :: below) := ⟨_, rfl⟩
  rw [← hA] at Y
  have hvm : s'.vm = s.vm := by rw [hA]; rfl
  have hhp : s'.heap = H := by rw [hA]; exact hT
  have hW0 : s.WarmedH s'.vm := by rw [hvm]; exact State.WarmedH.refl s
  have hat' : ∀ w ∈ vx_atS own ic cls names, w.before args s' = true := fun w hw => vx_ot_at hW0 hvm.symm (hgood w (List.mem_cons_of_mem _ (List.mem_cons_of_mem _ hw))) (hat w hw)
  have hk' : (Cond.classLink own ik cls).before args s' = true := vx_ot_at hW0 hvm.symm (hgood _ List.mem_cons_self) hk
  have hini' : (Cond.initialized cls).before args s' = true := vx_ot_at hW0 hvm.symm (hgood _ (List.mem_cons_of_mem _ List.mem_cons_self)) hini
  have hU' : vx_Zq Bundle.tN "UNASSIGNED_STACK" Bundle.steD A s' s'.heap := by rw [hhp]; exact vx_Zq.moved hW0.alike (hU.kept hS.2.1)
  have hN' : vx_Zq Bundle.tN "SUPPRESSED_SENTINEL" Bundle.listD A s' s'.heap := by rw [hhp]; exact vx_Zq.moved hW0.alike (hN.kept hS.2.1)
  have h : ∀ w ∈ Bundle.ownAtoms own ic cls names, w.before args s' = true := vx_own hat' (vx_isRefq hU'.1) (vx_isRefq hN'.1) hU'.2.word hN'.2.word
  have hown' : s'.vm.findClass own = some m.cls := by rw [hvm]; exact hown
  have hins : (Cond.instantiable cls 6).before args s' = true := h _ (by simp [Bundle.ownAtoms])
  obtain ⟨vm₁, cX, kX, hfX, hkX, -, -, X₁, st1⟩ := Y.newCold hexec (own := own) (C := cls) (index := ik) (n := 6) hown' hk' hins hini'
    (g := F0 m pc ls rest) rfl (by rw [hb]; exact d0) (Nat.le_refl _) (Nat.le_refl _)
  generalize hT1 : (T.setVm vm₁).pushCell { cls := cX, slots := kX.instanceTypes.map defaultValue, vm := .none } = T1 at X₁ st1
  have hcat : (Value.ref T.heap.size).category = 1 := rfl
  have hcellA : T1.heap[T.heap.size]? = some (freshCell cX kX) := by rw [← hT1]; exact State.heap_pushCell_size _ _
  have d3' : decode c.code (pc + 3) = .ok (.dup, 1) := by rw [hb]; exact d3
  have d4' : decode c.code (pc + 4) = .ok (.ldc is, 2) := by rw [hb]; exact d4
  have hstr' : vk_R own is text sa s' := vk_R.warm hW0 hstr
  obtain ⟨U, hsteps, hrun, hend, hW, hsame, ce, hce, hO⟩ := X₁.ctorThrowS hexec htr (own := own) (cls := cls) (names := names) (ic := ic) hown' hcls hnames h (fun x hx => nomatch hx) hfX hkX hcellA (by rw [hhp, hT]; exact Nat.le_refl _) (msg := .ref sa) rfl
    (g := { method := m, pc := pc + 6, locals := ls, stack := .ref sa :: .ref T.heap.size :: .ref T.heap.size :: rest, locked := none }) rfl hsize rfl rfl (rest := rest) rfl
    (by rw [hb]; exact d6) (by rw [hb]; exact d9) hout hRframes (by simp only [List.map_cons, List.sum_cons, hcat]; omega) hlocks
  obtain ⟨f1, f2⟩ := vx_frame hsame
  rw [hhp] at f1 f2
  have hWs : s.WarmedH U.vm := State.WarmedH.trans hW0 hW
  have hcl : s.vm.findClass cls = some ce.cls := by
    have h9 := hO.cls
    rw [hvm] at h9
    exact h9
  have hall : s.sameButNew ({ U with vm := s.vm } : State) locs mc ms := by
    subst hA
    obtain ⟨e1, e2⟩ := hsame
    rw [State.setFrames_setFrames] at e1
    have h2 : (T.setVm s.vm).sameButNew ({ U with vm := s.vm } : State) [] (0 + 1) (0 + 6) := ⟨e1, e2⟩
    have h3 := X.same.trans h2
    rw [List.append_nil] at h3
    exact h3.mono hc hs
  refine ⟨U, ?_, .threw T.heap.size, hrun, hend, Or.inr ⟨T.heap.size, rfl, cls, ce, locs, hx U hWs.alike f1 (fun q hq => f2 q hq (fun z hz => nomatch hz)), hce, hO.vm, hcl, hWs, hall, hf⟩⟩
  refine st1 _ ?_
  show Steps p.tables e below (T1.setTop { method := m, pc := pc + 3, locals := ls, stack := .ref T.heap.size :: rest, locked := none }) _
  jvm_step X₁.here [X₁.here.top, hexec, d3', Value.category]
  exact X₁.ldcString hexec (own := own) (text := text) (index := is) (a := sa) hown' hstr'.1 hstr'.2
    (g := { method := m, pc := pc + 4, locals := ls, stack := .ref T.heap.size :: .ref T.heap.size :: rest, locked := none }) rfl d4' _ hsteps
/-- 'throw new E("text")', the text by a wide index -/
theorem vx_throwSW {cc : ByteArray} {pc : Nat} (hexec : p.tables.exec = Jvm.exec) (hb : c.code = cc) (hl : l.stackTraces = false) {own cls text : String} {names : List String} {ik is ic mc ms sa : Nat} {A : Nat → Prop}
    (hown : s.vm.findClass own = some m.cls) (hcls : Bundle.fit cls = true) (hnames : ∀ n ∈ names, Bundle.fit n = true)
    (hk : (Cond.classLink own ik cls).before args s = true) (hini : (Cond.initialized cls).before args s = true) (hstr : vk_R own is text sa s) (hat : ∀ w ∈ vx_atS own ic cls names, w.before args s = true)
    (hgood : ∀ w ∈ Cond.classLink own ik cls :: Cond.initialized cls :: vx_atS own ic cls names, vx_ot w = true)
    (hU : vx_Zq Bundle.tN "UNASSIGNED_STACK" Bundle.steD A s s.heap) (hN : vx_Zq Bundle.tN "SUPPRESSED_SENTINEL" Bundle.listD A s s.heap) (hS : va_S A s.heap H locs) (hsize : ls.size = c.maxLocals)
    (d0 : decode cc pc = .ok (.new ik, 3)) (d3 : decode cc (pc + 3) = .ok (.dup, 1)) (d4 : decode cc (pc + 4) = .ok (.ldc_w is, 3)) (d7 : decode cc (pc + 7) = .ok (.invokespecial ic, 3)) (d10 : decode cc (pc + 10) = .ok (.athrow, 1))
    (hout : ∀ x ∈ c.exceptionTable.toList, covers x (pc + 10) = false)
    (hRframes : names.length + 3 < R.frames) (hRlocals : (rest.map fun v => v.category).sum + (13 * (names.length + 1) + 43) ≤ R.locals) (hRcells : cells + 1 ≤ R.cells) (hRslots : slots + 6 ≤ R.slots) (hlocks : meth.locks = false)
    (hx : ∀ t : State, s.vm.Alike t.vm → H.size ≤ t.heap.size → (∀ q : Nat, q < H.size → t.heap[q]? = H[q]?) → XC cls s t)
    (hf : ∀ z ∈ locs, free z.base) (hc : cells + 1 ≤ mc) (hs : slots + 6 ≤ ms) :
    W p l e R s m args below meth c H locs cells slots (vx_MQ below Qc XC args s mc ms free) (F0 m pc ls rest) := by
  intro T hT X
  have htr : e.platform.stackTraces = false := (show e.platform.stackTraces = l.stackTraces by rw [X.admits.platform]).trans hl
  have Y := vx_rebase X (R' := { frames := R.frames, locals := R.locals, cells := 1, slots := 6 }) (Nat.le_refl _) (Nat.le_refl _) hRcells hRslots
  obtain ⟨s', hA⟩ : ∃ z, z = (T.setVm s.vm).setFrames (.invoking m args :: below) := ⟨_, rfl⟩
  rw [← hA] at Y
  have hvm : s'.vm = s.vm := by rw [hA]; rfl
  have hhp : s'.heap = H := by rw [hA]; exact hT
  have hW0 : s.WarmedH s'.vm := by rw [hvm]; exact State.WarmedH.refl s
  have hat' : ∀ w ∈ vx_atS own ic cls names, w.before args s' = true := fun w hw => vx_ot_at hW0 hvm.symm (hgood w (List.mem_cons_of_mem _ (List.mem_cons_of_mem _ hw))) (hat w hw)
  have hk' : (Cond.classLink own ik cls).before args s' = true := vx_ot_at hW0 hvm.symm (hgood _ List.mem_cons_self) hk
  have hini' : (Cond.initialized cls).before args s' = true := vx_ot_at hW0 hvm.symm (hgood _ (List.mem_cons_of_mem _ List.mem_cons_self)) hini
  have hU' : vx_Zq Bundle.tN "UNASSIGNED_STACK" Bundle.steD A s' s'.heap := by rw [hhp]; exact vx_Zq.moved hW0.alike (hU.kept hS.2.1)
  have hN' : vx_Zq Bundle.tN "SUPPRESSED_SENTINEL" Bundle.listD A s' s'.heap := by rw [hhp]; exact vx_Zq.moved hW0.alike (hN.kept hS.2.1)
  have h : ∀ w ∈ Bundle.ownAtoms own ic cls names, w.before args s' = true := vx_own hat' (vx_isRefq hU'.1) (vx_isRefq hN'.1) hU'.2.word hN'.2.word
  have hown' : s'.vm.findClass own = some m.cls := by rw [hvm]; exact hown
  have hins : (Cond.instantiable cls 6).before args s' = true := h _ (by simp [Bundle.ownAtoms])
  obtain ⟨vm₁, cX, kX, hfX, hkX, -, -, X₁, st1⟩ := Y.newCold hexec (own := own) (C := cls) (index := ik) (n := 6) hown' hk' hins hini'
    (g := F0 m pc ls rest) rfl (by rw [hb]; exact d0) (Nat.le_refl _) (Nat.le_refl _)
  generalize hT1 : (T.setVm vm₁).pushCell { cls := cX, slots := kX.instanceTypes.map defaultValue, vm := .none } = T1 at X₁ st1
  have hcat : (Value.ref T.heap.size).category = 1 := rfl
  have hcellA : T1.heap[T.heap.size]? = some (freshCell cX kX) := by rw [← hT1]; exact State.heap_pushCell_size _ _
  have d3' : decode c.code (pc + 3) = .ok (.dup, 1) := by rw [hb]; exact d3
  have d4' : decode c.code (pc + 4) = .ok (.ldc_w is, 3) := by rw [hb]; exact d4
  have hstr' : vk_R own is text sa s' := vk_R.warm hW0 hstr
  obtain ⟨U, hsteps, hrun, hend, hW, hsame, ce, hce, hO⟩ := X₁.ctorThrowS hexec htr (own := own) (cls := cls) (names := names) (ic := ic) hown' hcls hnames h (fun x hx => nomatch hx) hfX hkX hcellA (by rw [hhp, hT]; exact Nat.le_refl _) (msg := .ref sa) rfl
    (g := { method := m, pc := pc + 7, locals := ls, stack := .ref sa :: .ref T.heap.size :: .ref T.heap.size :: rest, locked := none }) rfl hsize rfl rfl (rest := rest) rfl
    (by rw [hb]; exact d7) (by rw [hb]; exact d10) hout hRframes (by simp only [List.map_cons, List.sum_cons, hcat]; omega) hlocks
  obtain ⟨f1, f2⟩ := vx_frame hsame
  rw [hhp] at f1 f2
  have hWs : s.WarmedH U.vm := State.WarmedH.trans hW0 hW
  have hcl : s.vm.findClass cls = some ce.cls := by
    have h9 := hO.cls
    rw [hvm] at h9
    exact h9
  have hall : s.sameButNew ({ U with vm := s.vm } : State) locs mc ms := by
    subst hA
    obtain ⟨e1, e2⟩ := hsame
    rw [State.setFrames_setFrames] at e1
    have h2 : (T.setVm s.vm).sameButNew ({ U with vm := s.vm } : State) [] (0 + 1) (0 + 6) := ⟨e1, e2⟩
    have h3 := X.same.trans h2
    rw [List.append_nil] at h3
    exact h3.mono hc hs
  refine ⟨U, ?_, .threw T.heap.size, hrun, hend, Or.inr ⟨T.heap.size, rfl, cls, ce, locs, hx U hWs.alike f1 (fun q hq => f2 q hq (fun z hz => nomatch hz)), hce, hO.vm, hcl, hWs, hall, hf⟩⟩
  refine st1 _ ?_
  show Steps p.tables e below (T1.setTop { method := m, pc := pc + 3, locals := ls, stack := .ref T.heap.size :: rest, locked := none }) _
  jvm_step X₁.here [X₁.here.top, hexec, d3', Value.category]
  exact X₁.ldcStringW hexec (own := own) (text := text) (index := is) (a := sa) hown' hstr'.1 hstr'.2
    (g := { method := m, pc := pc + 4, locals := ls, stack := .ref T.heap.size :: .ref T.heap.size :: rest, locked := none }) rfl d4' _ hsteps
end Ends
section Bodies
variable {l : Launch}
theorem vx_ofW {y : MethodName} {ws ws' : List Cond} {rm : Room} {Pc : Array Value → State → Prop} {Qc : Array Value → State → Outcome → State → Prop} {XC : String → State → State → Prop} {mc ms : Nat} {free : Addr → Prop} {cc : ByteArray} {maxL : Nat} {ret : Option FieldType}
    (hy : plainName y.cls = true) (hw : ws = Cond.code y cc maxL ret :: ws')
    (body : ∀ p e s m args below meth c s₁, BodyLoose p l y (headSpec ws rm) cc maxL ret e s m args below meth c s₁ → c.maxLocals = maxL → (∀ x ∈ c.exceptionTable.toList, False) → Pc args s →
      W p l e (headSpec ws rm).room s m args below meth c s.heap [] 0 0 (vx_MQ below Qc XC args s mc ms free) (entryFrame m args maxL)) : vx_Met l y ws rm Pc Qc XC mc ms free := by
  refine MetFree.of_bodyS (code := cc) (maxLocals := maxL) (ret := ret) hy ?_ ?_
  · intro args s m h hn
    obtain ⟨meth, c, h1, h2, h3, h4, h5, h6, -, -⟩ := Cond.code_spec hn (atoms_spec (ws := ws) h _ (by rw [hw]; exact List.mem_cons_self))
    exact ⟨meth, c, h1, h2, h3, h4, h5, h6⟩
  · intro p e s m args below meth c s₁ B hml hP _
    have hh0 : s₁.heap = s.heap := by rw [B.state]; rfl
    have ht : ∀ x ∈ c.exceptionTable.toList, False := by
      obtain ⟨meth9, c9, h1, h2, -, -, -, -, h7, -⟩ := Cond.code_spec B.named (atoms_spec (ws := ws) B.pre _ (by rw [hw]; exact List.mem_cons_self))
      cases Option.some.inj (h1.symm.trans B.method)
      cases Option.some.inj (h2.symm.trans (Stand.of_body B).code)
      intro x hx
      rw [Array.isEmpty_iff.mp h7] at hx
      cases hx
    obtain ⟨t, a1, o, b1, b2, b3⟩ := body p e s m args below meth c s₁ B hml ht hP s₁ hh0 (Stand.of_body B)
    exact ⟨t, o, a1, b1, b2, b3⟩
/-- the table of a body with handlers -/
theorem vx_table {p : Program} {x y : MethodName} {S : Spec} {cc bytes : ByteArray} {maxL maxL' : Nat} {ret ret' : Option FieldType} {e : Env} {s s₁ : State} {m : MethodId} {args : Array Value} {below : List Frame} {meth : Method} {c : Code} {hh : List (Nat × Nat × Nat × Nat)}
    (B : BodyLoose p l y S cc maxL ret e s m args below meth c s₁) (h : (Cond.codeWith y bytes maxL' ret' hh).before args s = true) : c.exceptionTable.toList = tableOf hh := by
  obtain ⟨m9, meth9, c9, hn9, h1, h2, -, -, h6, -⟩ := Cond.codeWith_spec h
  cases Option.some.inj (hn9.symm.trans B.named)
  cases Option.some.inj (h1.symm.trans B.method)
  cases Option.some.inj (h2.symm.trans (Stand.of_body B).code)
  rw [← h6, table_eq]
end Bodies
end VXA
/-! ===== END ===== -/
/-! ===== BEGIN a static call of a method with an exception table ===== -/
section VXS
variable {p : Program} {l : Launch} {e : Env} {R : Room} {s : State} {m : MethodId} {args : Array Value} {below : List Frame} {meth : Method} {c : Code} {T : State} {H : Heap} {locs : List Loc} {cells slots : Nat}
abbrev vx_CSW (R : Room) (s : State) (args : Array Value) (own : String) (index : Nat) (y : MethodName) (bytes : ByteArray) (maxL : Nat) (ret : Option FieldType) (hh : List (Nat × Nat × Nat × Nat)) (ws : List Cond) (rm : Room) (mc ms n : Nat) : Prop :=
  (rm.cells = mc ∧ rm.slots = ms ∧ rm.frames + 1 ≤ R.frames ∧ 8 + (maxL + 11) + rm.locals ≤ R.locals ∧ (∀ w ∈ ws, ∀ (a' : Array Value) (U : State), s.WarmedH U.vm → w.before a' U = true) ∧ Cond.codeWith y bytes maxL ret hh ∈ ws) ∧
  (Cond.codeWith y bytes maxL ret hh).before args s = true ∧ (Cond.initialized y.cls).before args s = true ∧ (y.cls ≠ "java/lang/invoke/MethodHandle" ∧ y.cls ≠ "java/lang/invoke/VarHandle") ∧
  (∀ sig, parseMethodDescriptor y.desc = some sig → n = sig.parameters.length) ∧ (Cond.methodLink own index y).before args s = true ∧ (Cond.static y).before args s = true
theorem vx_cwSW {own : String} {index maxL mc ms : Nat} {y : MethodName} {bytes : ByteArray} {ret : Option FieldType} {hh : List (Nat × Nat × Nat × Nat)} {Ts ws ws' : List Cond} {rm : Room} (n : Nat) (ht : ∀ w ∈ Ts, w.before args s = true) (hT : GoodIn Ts (va_wsS own index y ws)) (hw : ws = Cond.codeWith y bytes maxL ret hh :: ws') (hrc : rm.cells = mc) (hrs : rm.slots = ms)
    (hd : y.cls ≠ "java/lang/invoke/MethodHandle" ∧ y.cls ≠ "java/lang/invoke/VarHandle" ∧ (parseMethodDescriptor y.desc).map (fun d => d.parameters.length) = some n) (hR : rm.frames + 1 ≤ R.frames ∧ 8 + (maxL + 11) + rm.locals ≤ R.locals) :
    vx_CSW R s args own index y bytes maxL ret hh ws rm mc ms n := by
  have ok : ∀ w ∈ va_wsS own index y ws, w.before args s = true := fun w h => ht w (hT w h).1
  have hG : GoodIn Ts ws := fun w h => hT w (by unfold va_wsS; exact List.mem_append_right _ h)
  have hc : Cond.codeWith y bytes maxL ret hh ∈ ws := by rw [hw]; exact List.mem_cons_self
  refine ⟨⟨hrc, hrs, hR.1, hR.2, pay_in ht hG, hc⟩, ht _ (hG _ hc).1, ok _ (by simp [va_wsS]), ⟨hd.1, hd.2.1⟩, fun sig h => ?_, ok _ (by simp [va_wsS]), ok _ (by simp [va_wsS])⟩
  have h2 := hd.2.2
  rw [h] at h2
  exact (Option.some.inj h2).symm
theorem vx_callSW (X : Stand p l e R s m args below meth c T locs cells slots) (hexec : p.tables.exec = Jvm.exec) {own : String} {index : Nat} {y : MethodName} {bytes : ByteArray} {maxL : Nat} {ret : Option FieldType} {hh : List (Nat × Nat × Nat × Nat)}
    (hown : s.vm.findClass own = some m.cls) (hlink : (Cond.methodLink own index y).before args s = true) (hstat : (Cond.static y).before args s = true) (hinit : (Cond.initialized y.cls).before args s = true)
    (hcode : (Cond.codeWith y bytes maxL ret hh).before args s = true) (hy : y.cls ≠ "java/lang/invoke/MethodHandle" ∧ y.cls ≠ "java/lang/invoke/VarHandle")
    {W9 : Nat} {Pre : Pt → Array Value → Prop} {Post : Pt → Array Value → Option Value → Pt → Prop} (hK : Back l R p e below s args y 3 W9 Pre Post)
    {g : JFrame} (hg : g.method = m) (hsize : g.locals.size = c.maxLocals) {argsL rest : List Value} (hlen : ∀ sig, parseMethodDescriptor y.desc = some sig → argsL.length = sig.parameters.length)
    (hstack : g.stack = argsL.reverse ++ rest) (hW : 2 * g.monitorRoom + (rest.map fun v => v.category).sum ≤ W9) (hdg : decode c.code g.pc = .ok (.invokestatic index, 3))
    (hpre : ∀ vm₁, s.WarmedH vm₁ → Pre ⟨T.setVm vm₁, locs, cells, slots⟩ argsL.toArray) :
    ∃ (v : Option Value) (vm₁ : Vm) (B : Pt), s.WarmedH vm₁ ∧ Stand p l e R s m args below meth c B.U B.locs B.cells B.slots ∧ Post ⟨T.setVm vm₁, locs, cells, slots⟩ argsL.toArray v B ∧
      ∀ target, Steps p.tables e below (B.U.setTop { g with pc := g.pc + 3, stack := v.toList ++ rest }) target → Steps p.tables e below (T.setTop g) target := by
  obtain ⟨mk, methM, cM, hnamed, hmethM, -, -, -, -, -, -, hsigM⟩ := Cond.codeWith_spec hcode
  have hstatic : methM.isStatic = true := Cond.static_spec hnamed hmethM hstat
  obtain ⟨kP, hkP, -⟩ := className_of_methodNamed hnamed
  have hinitP : kP.init = .initialized := Cond.initialized_spec (findClass_of_methodNamed hnamed) hkP hinit
  obtain ⟨vm₁, X₁, hstep₁⟩ := X.invokestatic hexec hown hlink hnamed hmethM hstatic hkP hinitP hy (g := g) hg (argsL := argsL) (rest := rest) (hlen _ hsigM) hstack hdg
  obtain ⟨v, B, X', hpost, hsteps⟩ := hK m meth c ⟨T.setVm vm₁, locs, cells, slots⟩ { g with stack := rest } (.invokestatic index) mk argsL.toArray X₁ hg hsize hdg hW (X₁.named hnamed) (hpre vm₁ X₁.warmed)
  exact ⟨v, vm₁, B, X₁.warmed, X', hpost, fun target h => hstep₁ _ fun acts => by rw [doInvoke_state]; exact hsteps.trans h⟩
theorem vx_runSW {y : MethodName} {bytes cc : ByteArray} {maxL nL mc ms n index : Nat} {ret : Option FieldType} {hh : List (Nat × Nat × Nat × Nat)} {ws : List Cond} {rm : Room} {Pc : Array Value → State → Prop} {Qc : Array Value → State → Outcome → State → Prop} {free : Addr → Prop} {Ts : List Cond} {own : String} {As rest : List Value} {g : JFrame}
    (S : CallFix p m c cc nL s args Ts own) (hM : Met l y ws rm Pc Qc mc ms free) (cw : vx_CSW R s args own index y bytes maxL ret hh ws rm mc ms n) (hp : PreS s H Pc As)
    (hg : g.method = m) (hn : As.length = n) (hsize : g.locals.size = nL) (hstack : g.stack = As.reverse ++ rest) (hW : 2 * g.monitorRoom + (rest.map fun v => v.category).sum ≤ 8) (hdg : decode cc g.pc = .ok (.invokestatic index, 3)) (hf : cells + mc ≤ R.cells ∧ slots + ms ≤ R.slots) :
    va_Run p l e R s m args below meth c H locs cells slots mc ms g rest (Qc As.toArray) (free) := by
  obtain ⟨⟨hrc, hrs, hfr, hlo, hws, hcw⟩, hcode, hini, hy, hlen, hl, hstt⟩ := cw
  have hK : Back l R p e below s args y 3 8 (PreOf R mc ms Pc) (PostOf Qc mc ms free) := va_backW (hh := hh) (bytes := bytes) (maxL := maxL) (ret := ret) hM hp.1 hrc hrs hfr hlo hws hcw (fun a' U hW => word_at hW (Or.inl (by first | rfl | simp [Cond.onTables, Cond.keeps, Cond.steady])) hini)
  obtain ⟨hx, hb, hml, ho, -⟩ := S
  intro T hT X
  obtain ⟨v, vm₁, ⟨U', l2, c2, s2⟩, hW₁, X', ⟨g', mk, t, L, e1, e2, hq, h1, hL, h2, h3⟩, st⟩ := vx_callSW X hx (hh := hh) (bytes := bytes) (maxL := maxL) (ret := ret) ho hl hstt hini hcode hy hK hg (hsize.trans hml.symm) (argsL := As) (rest := rest) (fun sig h => hn.trans (hlen sig h)) hstack hW (by rw [hb]; exact hdg)
    (fun vm₁ hW₁ => ⟨hf.1, hf.2, hp.2 (T.setVm vm₁) hT hW₁⟩)
  dsimp only [Pt.U, Pt.locs, Pt.cells, Pt.slots] at X' e1 e2 h1 h2 h3 st
  subst h1; subst h2; subst h3
  exact ⟨v, (T.setVm vm₁).calling g' mk As.toArray, t, U', L, hT, X', hL, e1, e2, hq, st⟩
/-- not caught here, past rows that name other classes: it goes on to the caller -/
theorem vx_outP {p : Program} {l : Launch} {e : Env} {R : Room} {s : State} {m : MethodId} {args : Array Value} {below : List Frame} {meth : Method} {c : Code} {H : Heap} {locs : List Loc} {cells slots : Nat} {free : Addr → Prop} {ls : Array Slot} {rest : List Value} {Qc : Array Value → State → Outcome → State → Prop} {XC : String → State → State → Prop}
    {pc : Nat} {own E : String} {ce : Cell} {q : Addr} {mc ms : Nat} (hown : s.vm.findClass own = some m.cls) (hlocks : meth.locks = false)
    (hpass : ∀ z ∈ c.exceptionTable.toList, covers z pc = false ∨ (z.catchType ≠ 0 ∧ ∃ nm : String, (Cond.classLink own z.catchType nm).before args s = true ∧ va_Nc E nm s)) (hcell : H[q]? = some ce) (hv : ce.vm = .none) (hcl : s.vm.findClass E = some ce.cls)
    (hx : ∀ t : State, t.heap = H → s.vm.Alike t.vm → XC E s t) (hf : ∀ z ∈ locs, free z.base) (hc : cells ≤ mc) (hs : slots ≤ ms) :
    vx_W p l e R s m args below meth c H locs cells slots (vx_MQ below Qc XC args s mc ms free) (F0 m pc ls rest) q := by
  intro T hT X
  have hpl : e.platform.magicAccessors = ({} : Platform).magicAccessors := by rw [X.admits.platform]
  obtain ⟨vm', hW', X', st⟩ := X.outThrough hlocks q (g := F0 m pc ls rest) rfl rfl rfl (cell := ce) (by rw [hT]; exact hcell) (by rw [hv]; rfl)
    (by obtain ⟨k9, h9, -⟩ := Vm.findClass_spec hcl; exact ⟨k9, h9⟩) (fun z hz => by
      rcases hpass z hz with h | ⟨hz0, nm, hl1, hn1⟩
      · exact Or.inl h
      · obtain ⟨c6, hc6, hcl6⟩ := Cond.classLink_spec hown hl1 e.platform hpl
        obtain ⟨a8, b8, h1, h2, h3⟩ := hn1
        cases Option.some.inj (h1.symm.trans hcl)
        cases Option.some.inj (h2.symm.trans hc6)
        exact Or.inr ⟨hz0, _, hcl6, h3⟩)
  obtain ⟨g₀, hfr⟩ := X'.frames_eq
  have hcell9 : ((T.setVm vm').setFrames (.throwing q :: below)).heap[q]? = some ce := by
    show T.heap[q]? = some ce
    rw [hT]; exact hcell
  have hend : Ended ((T.setVm vm').setFrames (.throwing q :: below)) below (.threw q) := State.frames_setFrames _ (State.cur_lt_of_frames hfr)
  refine ⟨(T.setVm vm').setFrames (.throwing q :: below), ?_, .threw q, X'.here.running, hend, Or.inr ⟨q, rfl, E, ce, locs, hx _ hT (X'.ends _).1.alike, hcell9, hv, hcl, (X'.ends _).1, (X'.ends _).2.mono hc hs, hf⟩⟩
  rw [X.pushThrowing_eq]
  exact st
/-- a thing of a world lies in the heap -/
theorem vx_lt {D : va_G} {cl : List vw_C} {ws : va_W} {H1 : Heap} (h : va_P D cl ws H1) {k : Nat} {q : Nat × va_E} (hk : ws[k]? = some q) : q.1 < H1.size := (h k q hk).lt
end VXS
/-! ===== END ===== -/
/-! ===== BEGIN methods with a table of their own: called by a name, returning or throwing ===== -/
section VXH
/-! vx_backW, vx_callVX, vx_callSX, vx_callVW, vx_runVW, vx_runVX, vx_runSX, vx_ofWH follow the same proofs as their sisters above (Free/Laws.lean, Shelf42/LK1.lean); vx_outP calls Shelf42/NT130.lean (outThrough). -/
section
variable {l : Launch} {R : Room} {p : Program} {e : Env} {below : List Frame} {s : State} {sargs : Array Value} {y : MethodName} {len W9 : Nat}
theorem vx_backW {ws : List Cond} {rm : Room} {Pc : Array Value → State → Prop} {Qc : Array Value → State → Outcome → State → Prop} {XC : String → State → State → Prop} {mc ms : Nat} {free : Addr → Prop} {bytes : ByteArray} {maxL : Nat} {ret : Option FieldType} {hh : List (Nat × Nat × Nat × Nat)}
    (hM : vx_Met l y ws rm Pc Qc XC mc ms free) (hblind : FrameBlind Pc) (hrc : rm.cells = mc) (hrs : rm.slots = ms)
    (hframes : rm.frames + 1 ≤ R.frames) (hlocals : W9 + (maxL + 11) + rm.locals ≤ R.locals)
    (hws : ∀ w ∈ ws, ∀ a' U, s.WarmedH U.vm → w.before a' U = true) (hcode : Cond.codeWith y bytes maxL ret hh ∈ ws) (hinit : ∀ a' U, s.WarmedH U.vm → (Cond.initialized y.cls).before a' U = true) :
    vx_Back l R p e below s sargs y len W9 (PreOf R mc ms Pc) (PostOf Qc mc ms free) (vx_Post XC mc ms free) := by
  intro m meth c A g ig mk a X hg hsize hdg hW hn hp
  have h1 : (headSpec ws rm).pre.before a A.U = true := atoms_intro fun w hw => hws w hw _ _ X.warmed
  have h2 : (Cond.codeWith y bytes maxL ret hh).before a A.U = true := hws _ hcode _ _ X.warmed
  have h3 : (Cond.initialized y.cls).before a A.U = true := hinit _ _ X.warmed
  have h4 : A.cells + (headSpec ws rm).room.cells ≤ R.cells := by rw [show (headSpec ws rm).room.cells = mc from hrc]; exact hp.1
  have h5 : A.slots + (headSpec ws rm).room.slots ≤ R.slots := by rw [show (headSpec ws rm).room.slots = ms from hrs]; exact hp.2.1
  have hPc : Pc a (A.U.calling g mk a) := hblind _ _ _ _ hp.2.2
  obtain ⟨U, Ls, c0, s0⟩ := A
  dsimp only [Pt.U, Pt.locs, Pt.cells, Pt.slots] at h1 h2 h3 h4 h5 X hn hPc ⊢
  obtain ⟨m9, methY, cY, hn9, hmY, hcY, -, hlY, -⟩ := Cond.codeWith_spec h2
  cases Option.some.inj (hn9.symm.trans hn)
  obtain ⟨kY, hkY, -⟩ := className_of_methodNamed hn
  have hinitY : kY.init = .initialized := Cond.initialized_spec (findClass_of_methodNamed hn) hkY h3
  have h : At U g.method c below := by rw [hg]; exact X.here
  have hlocals9 : W9 + (maxL + 11) + (headSpec ws rm).room.locals ≤ R.locals := hlocals
  have happ : (headSpec ws rm).appliesLoose y e.platform (U.calling g mk a) = true :=
    Spec.appliesLoose_calling (g := g) h hdg hn hkY hinitY
      (X.room_calling (g := g) (R' := (headSpec ws rm).room) hsize hmY hcY hframes (by rw [hlY]; omega) h4 h5) h1
  obtain ⟨mid, hmid⟩ := h.above
  have hfr : (U.setTop g).frames = (.java g :: mid) ++ below := by rw [State.frames_setTop' g h.top, hmid]; rfl
  obtain ⟨o, s₂, hsteps, -, hend, hq⟩ := Steps.callFree hM p X.admits X.cas X.clock (acts := []) hfr happ hPc trivial
  have hq' : vx_Q Qc XC mc ms free a (U.calling g mk a) o s₂ := hq
  rw [State.frames_setTop' g h.top] at hend
  obtain ⟨g₀, hg0⟩ := Option.isSome_iff_exists.mp h.top
  obtain ⟨r, hr⟩ := State.topJava?_eq_some.mp hg0
  have hr' : (({ U with heap := s₂.heap, slotsUsed := s₂.slotsUsed } : State).setVm s₂.vm).frames = .java g₀ :: r := hr
  rcases hq' with ⟨hqc, L, hfe, hL⟩ | ⟨q, rfl, E, ce, L, hx, hce, hcv, hcl, hW₂, hsm, hL⟩
  · obtain ⟨⟨v, rfl⟩, hW₂, e2, q2, q3, q4, q5, q6⟩ := id hfe
    have e3 : s₂ = ({ (U.calling g mk a).setFrames s₂.frames with heap := s₂.heap, slotsUsed := s₂.slotsUsed } : State).setVm s₂.vm := by
      have : s₂ = ({ s₂ with vm := (U.calling g mk a).vm } : State).setVm s₂.vm := rfl
      rw [e2] at this
      exact this
    obtain ⟨c₂, i₂, len₂, hc₂, hd₂, hf₂⟩ := hend
    have hW' : U.WarmedH s₂.vm := hW₂
    have hcc : c₂ = c := by
      have h1 : s₂.code? g.method = U.code? g.method := by
        rw [State.code?_eq, State.code?_eq, hW'.alike.method?]
      exact Option.some.inj (hc₂.symm.trans (h1.trans h.code))
    subst hcc
    have hlen : len₂ = len := by rw [hdg] at hd₂; cases hd₂; rfl
    subst hlen
    have hs₂ : s₂ = (({ U with heap := s₂.heap, slotsUsed := s₂.slotsUsed } : State).setVm s₂.vm).setTop { g with pc := g.pc + len₂, stack := v.toList ++ g.stack } := by
      refine e3.trans ?_
      rw [hf₂, State.calling_eq h.top, State.setFrames_setFrames, State.setTop_of_frames _ hr', hr]
      rfl
    have hsame : U.sameButNew ({ U with heap := s₂.heap, slotsUsed := s₂.slotsUsed } : State) L mc ms := by
      refine ⟨?_, q2, q3, q4, q5, q6⟩
      obtain ⟨t, ht, -⟩ := State.frames_cons hr
      show ({ U with heap := s₂.heap, slotsUsed := s₂.slotsUsed } : State) = { U.setFrames U.frames with heap := s₂.heap, slotsUsed := s₂.slotsUsed }
      rw [State.setFrames_self ht]
    subst hg
    refine Or.inl ⟨v, ⟨(({ U with heap := s₂.heap, slotsUsed := s₂.slotsUsed } : State).setVm s₂.vm), Ls ++ L, c0 + mc, s0 + ms⟩,
      ⟨X.admits, X.cas, X.clock, X.frames, X.room, X.hears, X.method, X.code, (X.here.setHeapUsed s₂.heap s₂.slotsUsed).setVm hW'.alike, X.tail, State.WarmedH.trans X.warmed hW', X.limits, X.bytes, X.same.trans (hsame.setVm s.vm)⟩,
      ⟨g, mk, s₂, L, rfl, rfl, hqc, rfl, hL, rfl, rfl⟩, ?_⟩
    show Steps p.tables e below _ ((({ U with heap := s₂.heap, slotsUsed := s₂.slotsUsed } : State).setVm s₂.vm).setTop { g with pc := g.pc + len₂, stack := v.toList ++ g.stack })
    rw [← hs₂]
    exact hsteps
  · obtain ⟨e2, q2, q3, q4, q5, q6⟩ := id hsm
    have e3 : s₂ = ({ (U.calling g mk a).setFrames s₂.frames with heap := s₂.heap, slotsUsed := s₂.slotsUsed } : State).setVm s₂.vm := by
      have : s₂ = ({ s₂ with vm := (U.calling g mk a).vm } : State).setVm s₂.vm := rfl
      rw [e2] at this
      exact this
    have hf₂ : s₂.frames = .throwing q :: .java g :: U.frames.tail := hend
    have hW' : U.WarmedH s₂.vm := hW₂
    have hs₂ : s₂ = ((({ U with heap := s₂.heap, slotsUsed := s₂.slotsUsed } : State).setVm s₂.vm).setTop g).pushFrame (.throwing q) := by
      refine e3.trans ?_
      rw [hf₂, State.calling_eq h.top, State.setFrames_setFrames, State.pushFrame, State.frames_setTop _ hr', State.setTop_of_frames _ hr', State.setFrames_setFrames, hr]
      rfl
    have hsame : U.sameButNew ({ U with heap := s₂.heap, slotsUsed := s₂.slotsUsed } : State) L mc ms := by
      refine ⟨?_, q2, q3, q4, q5, q6⟩
      obtain ⟨t, ht, -⟩ := State.frames_cons hr
      show ({ U with heap := s₂.heap, slotsUsed := s₂.slotsUsed } : State) = { U.setFrames U.frames with heap := s₂.heap, slotsUsed := s₂.slotsUsed }
      rw [State.setFrames_self ht]
    subst hg
    refine Or.inr ⟨q, ⟨(({ U with heap := s₂.heap, slotsUsed := s₂.slotsUsed } : State).setVm s₂.vm), Ls ++ L, c0 + mc, s0 + ms⟩,
      ⟨X.admits, X.cas, X.clock, X.frames, X.room, X.hears, X.method, X.code, (X.here.setHeapUsed s₂.heap s₂.slotsUsed).setVm hW'.alike, X.tail, State.WarmedH.trans X.warmed hW', X.limits, X.bytes, X.same.trans (hsame.setVm s.vm)⟩,
      ⟨g, mk, s₂, L, E, ce, rfl, rfl, hx, hce, hcv, hcl, rfl, hL, rfl, rfl⟩, ?_⟩
    show Steps p.tables e below _ (((({ U with heap := s₂.heap, slotsUsed := s₂.slotsUsed } : State).setVm s₂.vm).setTop g).pushFrame (.throwing q))
    rw [← hs₂]
    exact hsteps
end
variable {p : Program} {l : Launch} {e : Env} {R : Room} {s : State} {m : MethodId} {args : Array Value} {below : List Frame} {meth : Method} {c : Code} {T : State} {H : Heap} {locs : List Loc} {cells slots : Nat}
theorem vx_callVX (X : Stand p l e R s m args below meth c T locs cells slots) (hexec : p.tables.exec = Jvm.exec) {own C : String} {index : Nat} {y : MethodName} {bytes : ByteArray} {maxL : Nat} {ret : Option FieldType} {hh : List (Nat × Nat × Nat × Nat)}
    (hown : s.vm.findClass own = some m.cls) (hlink : (Cond.methodLink own index y).before args s = true) (hinst : (Cond.instanceMethod y).before args s = true) (hsel : (Cond.selects C y y).before args s = true)
    (hcode : (Cond.codeWith y bytes maxL ret hh).before args s = true) (hy : y.cls ≠ "java/lang/invoke/MethodHandle" ∧ y.cls ≠ "java/lang/invoke/VarHandle")
    {W9 : Nat} {Pre : Pt → Array Value → Prop} {Post : Pt → Array Value → Option Value → Pt → Prop} {PostX : Pt → Array Value → Addr → Pt → Prop} (hK : vx_Back l R p e below s args y 3 W9 Pre Post PostX)
    {b : Addr} {cellB : Cell} (hcell : T.heap[b]? = some cellB) (hobj : cellB.vm.isStatics = false) (hcls : s.vm.findClass C = some cellB.cls)
    {g : JFrame} (hg : g.method = m) (hsize : g.locals.size = c.maxLocals) {argsL rest : List Value} (hlen : ∀ sig, parseMethodDescriptor y.desc = some sig → argsL.length = sig.parameters.length)
    (hstack : g.stack = argsL.reverse ++ .ref b :: rest) (hW : 2 * g.monitorRoom + (rest.map fun v => v.category).sum ≤ W9) (hdg : decode c.code g.pc = .ok (.invokevirtual index, 3))
    (hpre : ∀ vm₁, s.WarmedH vm₁ → Pre ⟨T.setVm vm₁, locs, cells, slots⟩ (Value.ref b :: argsL).toArray) :
    (∃ (v : Option Value) (vm₁ : Vm) (B : Pt), s.WarmedH vm₁ ∧ Stand p l e R s m args below meth c B.U B.locs B.cells B.slots ∧ Post ⟨T.setVm vm₁, locs, cells, slots⟩ (Value.ref b :: argsL).toArray v B ∧
      ∀ target, Steps p.tables e below (B.U.setTop { g with pc := g.pc + 3, stack := v.toList ++ rest }) target → Steps p.tables e below (T.setTop g) target) ∨
    (∃ (q : Addr) (vm₁ : Vm) (B : Pt), s.WarmedH vm₁ ∧ Stand p l e R s m args below meth c B.U B.locs B.cells B.slots ∧ PostX ⟨T.setVm vm₁, locs, cells, slots⟩ (Value.ref b :: argsL).toArray q B ∧
      Steps p.tables e below (T.setTop g) ((B.U.setTop { g with stack := rest }).pushFrame (.throwing q))) := by
  obtain ⟨mk, methM, hnamed, hmethM, hstM, habM⟩ := Cond.instanceMethod_spec hinst
  obtain ⟨m8, methM', cM, hn8, hmethM', -, -, -, -, -, -, hsigM⟩ := Cond.codeWith_spec hcode
  cases Option.some.inj (hn8.symm.trans hnamed)
  cases hmethM.symm.trans hmethM'
  obtain ⟨c2, r2, m2, q1, q2, q3, q4, kP, hkP, hkPi⟩ := Cond.selects_spec hsel
  cases hcls.symm.trans q1
  cases (State.methodFound?_of_named hnamed hy).symm.trans q2
  cases hnamed.symm.trans q3
  have hselP : selectMethod e.platform s.vm cellB.cls mk = .method mk := by rw [Launch.admits_selectMethod X.admits]; exact q4
  obtain ⟨vm₁, X₁, hstep₁⟩ := X.invokevirtual hexec hown hlink hnamed hmethM hstM hkP hkPi hy (a := b) (cell := cellB) hcell
    (fun z h => by rw [h] at hobj; cases hobj) hselP hmethM habM hkP hkPi (g := g) hg (argsL := argsL) (rest := rest) (hlen _ hsigM) hstack hdg
  rcases hK m meth c ⟨T.setVm vm₁, locs, cells, slots⟩ { g with stack := rest } (.invokevirtual index) mk (Value.ref b :: argsL).toArray X₁ hg hsize hdg hW (X₁.named hnamed) (hpre vm₁ X₁.warmed) with ⟨v, B, X', hpost, hsteps⟩ | ⟨q, B, X', hpost, hsteps⟩
  · exact Or.inl ⟨v, vm₁, B, X₁.warmed, X', hpost, fun target h => hstep₁ _ fun acts => by rw [doInvoke_state]; exact hsteps.trans h⟩
  · exact Or.inr ⟨q, vm₁, B, X₁.warmed, X', hpost, hstep₁ _ fun acts => by rw [doInvoke_state]; exact hsteps⟩
theorem vx_callSX (X : Stand p l e R s m args below meth c T locs cells slots) (hexec : p.tables.exec = Jvm.exec) {own : String} {index : Nat} {y : MethodName} {bytes : ByteArray} {maxL : Nat} {ret : Option FieldType} {hh : List (Nat × Nat × Nat × Nat)}
    (hown : s.vm.findClass own = some m.cls) (hlink : (Cond.methodLink own index y).before args s = true) (hstat : (Cond.static y).before args s = true) (hinit : (Cond.initialized y.cls).before args s = true)
    (hcode : (Cond.codeWith y bytes maxL ret hh).before args s = true) (hy : y.cls ≠ "java/lang/invoke/MethodHandle" ∧ y.cls ≠ "java/lang/invoke/VarHandle")
    {W9 : Nat} {Pre : Pt → Array Value → Prop} {Post : Pt → Array Value → Option Value → Pt → Prop} {PostX : Pt → Array Value → Addr → Pt → Prop} (hK : vx_Back l R p e below s args y 3 W9 Pre Post PostX)
    {g : JFrame} (hg : g.method = m) (hsize : g.locals.size = c.maxLocals) {argsL rest : List Value} (hlen : ∀ sig, parseMethodDescriptor y.desc = some sig → argsL.length = sig.parameters.length)
    (hstack : g.stack = argsL.reverse ++ rest) (hW : 2 * g.monitorRoom + (rest.map fun v => v.category).sum ≤ W9) (hdg : decode c.code g.pc = .ok (.invokestatic index, 3))
    (hpre : ∀ vm₁, s.WarmedH vm₁ → Pre ⟨T.setVm vm₁, locs, cells, slots⟩ argsL.toArray) :
    (∃ (v : Option Value) (vm₁ : Vm) (B : Pt), s.WarmedH vm₁ ∧ Stand p l e R s m args below meth c B.U B.locs B.cells B.slots ∧ Post ⟨T.setVm vm₁, locs, cells, slots⟩ argsL.toArray v B ∧
      ∀ target, Steps p.tables e below (B.U.setTop { g with pc := g.pc + 3, stack := v.toList ++ rest }) target → Steps p.tables e below (T.setTop g) target) ∨
    (∃ (q : Addr) (vm₁ : Vm) (B : Pt), s.WarmedH vm₁ ∧ Stand p l e R s m args below meth c B.U B.locs B.cells B.slots ∧ PostX ⟨T.setVm vm₁, locs, cells, slots⟩ argsL.toArray q B ∧
      Steps p.tables e below (T.setTop g) ((B.U.setTop { g with stack := rest }).pushFrame (.throwing q))) := by
  obtain ⟨mk, methM, cM, hnamed, hmethM, -, -, -, -, -, -, hsigM⟩ := Cond.codeWith_spec hcode
  have hstatic : methM.isStatic = true := Cond.static_spec hnamed hmethM hstat
  obtain ⟨kP, hkP, -⟩ := className_of_methodNamed hnamed
  have hinitP : kP.init = .initialized := Cond.initialized_spec (findClass_of_methodNamed hnamed) hkP hinit
  obtain ⟨vm₁, X₁, hstep₁⟩ := X.invokestatic hexec hown hlink hnamed hmethM hstatic hkP hinitP hy (g := g) hg (argsL := argsL) (rest := rest) (hlen _ hsigM) hstack hdg
  rcases hK m meth c ⟨T.setVm vm₁, locs, cells, slots⟩ { g with stack := rest } (.invokestatic index) mk argsL.toArray X₁ hg hsize hdg hW (X₁.named hnamed) (hpre vm₁ X₁.warmed) with ⟨v, B, X', hpost, hsteps⟩ | ⟨q, B, X', hpost, hsteps⟩
  · exact Or.inl ⟨v, vm₁, B, X₁.warmed, X', hpost, fun target h => hstep₁ _ fun acts => by rw [doInvoke_state]; exact hsteps.trans h⟩
  · exact Or.inr ⟨q, vm₁, B, X₁.warmed, X', hpost, hstep₁ _ fun acts => by rw [doInvoke_state]; exact hsteps⟩
theorem vx_callVW (X : Stand p l e R s m args below meth c T locs cells slots) (hexec : p.tables.exec = Jvm.exec) {own C : String} {index : Nat} {y : MethodName} {bytes : ByteArray} {maxL : Nat} {ret : Option FieldType} {hh : List (Nat × Nat × Nat × Nat)}
    (hown : s.vm.findClass own = some m.cls) (hlink : (Cond.methodLink own index y).before args s = true) (hinst : (Cond.instanceMethod y).before args s = true) (hsel : (Cond.selects C y y).before args s = true)
    (hcode : (Cond.codeWith y bytes maxL ret hh).before args s = true) (hy : y.cls ≠ "java/lang/invoke/MethodHandle" ∧ y.cls ≠ "java/lang/invoke/VarHandle")
    {W9 : Nat} {Pre : Pt → Array Value → Prop} {Post : Pt → Array Value → Option Value → Pt → Prop} (hK : Back l R p e below s args y 3 W9 Pre Post)
    {b : Addr} {cellB : Cell} (hcell : T.heap[b]? = some cellB) (hobj : cellB.vm.isStatics = false) (hcls : s.vm.findClass C = some cellB.cls)
    {g : JFrame} (hg : g.method = m) (hsize : g.locals.size = c.maxLocals) {argsL rest : List Value} (hlen : ∀ sig, parseMethodDescriptor y.desc = some sig → argsL.length = sig.parameters.length)
    (hstack : g.stack = argsL.reverse ++ .ref b :: rest) (hW : 2 * g.monitorRoom + (rest.map fun v => v.category).sum ≤ W9) (hdg : decode c.code g.pc = .ok (.invokevirtual index, 3))
    (hpre : ∀ vm₁, s.WarmedH vm₁ → Pre ⟨T.setVm vm₁, locs, cells, slots⟩ (Value.ref b :: argsL).toArray) :
    ∃ (v : Option Value) (vm₁ : Vm) (B : Pt), s.WarmedH vm₁ ∧ Stand p l e R s m args below meth c B.U B.locs B.cells B.slots ∧ Post ⟨T.setVm vm₁, locs, cells, slots⟩ (Value.ref b :: argsL).toArray v B ∧
      ∀ target, Steps p.tables e below (B.U.setTop { g with pc := g.pc + 3, stack := v.toList ++ rest }) target → Steps p.tables e below (T.setTop g) target := by
  obtain ⟨mk, methM, hnamed, hmethM, hstM, habM⟩ := Cond.instanceMethod_spec hinst
  obtain ⟨m8, methM', cM, hn8, hmethM', -, -, -, -, -, -, hsigM⟩ := Cond.codeWith_spec hcode
  cases Option.some.inj (hn8.symm.trans hnamed)
  cases hmethM.symm.trans hmethM'
  obtain ⟨c2, r2, m2, q1, q2, q3, q4, kP, hkP, hkPi⟩ := Cond.selects_spec hsel
  cases hcls.symm.trans q1
  cases (State.methodFound?_of_named hnamed hy).symm.trans q2
  cases hnamed.symm.trans q3
  have hselP : selectMethod e.platform s.vm cellB.cls mk = .method mk := by rw [Launch.admits_selectMethod X.admits]; exact q4
  obtain ⟨vm₁, X₁, hstep₁⟩ := X.invokevirtual hexec hown hlink hnamed hmethM hstM hkP hkPi hy (a := b) (cell := cellB) hcell
    (fun z h => by rw [h] at hobj; cases hobj) hselP hmethM habM hkP hkPi (g := g) hg (argsL := argsL) (rest := rest) (hlen _ hsigM) hstack hdg
  obtain ⟨v, B, X', hpost, hsteps⟩ := hK m meth c ⟨T.setVm vm₁, locs, cells, slots⟩ { g with stack := rest } (.invokevirtual index) mk (Value.ref b :: argsL).toArray X₁ hg hsize hdg hW (X₁.named hnamed) (hpre vm₁ X₁.warmed)
  exact ⟨v, vm₁, B, X₁.warmed, X', hpost, fun target h => hstep₁ _ fun acts => by rw [doInvoke_state]; exact hsteps.trans h⟩
abbrev vx_CVW (R : Room) (s : State) (args : Array Value) (own C : String) (index : Nat) (y : MethodName) (bytes : ByteArray) (maxL : Nat) (ret : Option FieldType) (hh : List (Nat × Nat × Nat × Nat)) (ws : List Cond) (rm : Room) (mc ms n : Nat) : Prop :=
  (rm.cells = mc ∧ rm.slots = ms ∧ rm.frames + 1 ≤ R.frames ∧ 8 + (maxL + 11) + rm.locals ≤ R.locals ∧ (∀ w ∈ ws, ∀ (a' : Array Value) (U : State), s.WarmedH U.vm → w.before a' U = true) ∧ Cond.codeWith y bytes maxL ret hh ∈ ws) ∧
  (Cond.codeWith y bytes maxL ret hh).before args s = true ∧ (Cond.initialized y.cls).before args s = true ∧ (y.cls ≠ "java/lang/invoke/MethodHandle" ∧ y.cls ≠ "java/lang/invoke/VarHandle") ∧
  (∀ sig, parseMethodDescriptor y.desc = some sig → n = sig.parameters.length) ∧ (Cond.methodLink own index y).before args s = true ∧ (Cond.instanceMethod y).before args s = true ∧ (Cond.selects C y y).before args s = true
theorem vx_cwVW {own C : String} {index maxL mc ms : Nat} {y : MethodName} {bytes : ByteArray} {ret : Option FieldType} {hh : List (Nat × Nat × Nat × Nat)} {Ts ws ws' : List Cond} {rm : Room} (n : Nat) (ht : ∀ w ∈ Ts, w.before args s = true) (hT : GoodIn Ts (wsV own index C y ws)) (hw : ws = Cond.codeWith y bytes maxL ret hh :: ws') (hrc : rm.cells = mc) (hrs : rm.slots = ms)
    (hd : y.cls = C ∧ y.cls ≠ "java/lang/invoke/MethodHandle" ∧ y.cls ≠ "java/lang/invoke/VarHandle" ∧ (parseMethodDescriptor y.desc).map (fun d => d.parameters.length) = some n) (hR : rm.frames + 1 ≤ R.frames ∧ 8 + (maxL + 11) + rm.locals ≤ R.locals) :
    vx_CVW R s args own C index y bytes maxL ret hh ws rm mc ms n := by
  obtain ⟨hC, hd⟩ := hd
  subst hC
  have ok : ∀ w ∈ wsV own index y.cls y ws, w.before args s = true := fun w h => ht w (hT w h).1
  have hG : GoodIn Ts ws := fun w h => hT w (by unfold wsV; exact List.mem_append_right _ h)
  have hc : Cond.codeWith y bytes maxL ret hh ∈ ws := by rw [hw]; exact List.mem_cons_self
  refine ⟨⟨hrc, hrs, hR.1, hR.2, pay_in ht hG, hc⟩, ht _ (hG _ hc).1, ok _ (by simp [wsV]), ⟨hd.1, hd.2.1⟩, fun sig h => ?_, ok _ (by simp [wsV]), ok _ (by simp [wsV]), ok _ (by simp [wsV])⟩
  have h2 := hd.2.2
  rw [h] at h2
  exact (Option.some.inj h2).symm
theorem vx_runVW {y : MethodName} {bytes cc : ByteArray} {maxL nL mc ms n index : Nat} {ret : Option FieldType} {hh : List (Nat × Nat × Nat × Nat)} {ws : List Cond} {rm : Room} {Pc : Array Value → State → Prop} {Qc : Array Value → State → Outcome → State → Prop} {free : Addr → Prop} {Ts : List Cond} {own C : String} {b : Addr} {As rest : List Value} {g : JFrame}
    (S : CallFix p m c cc nL s args Ts own) (hM : Met l y ws rm Pc Qc mc ms free) (cw : vx_CVW R s args own C index y bytes maxL ret hh ws rm mc ms n) (hp : PreV s H C b Pc As)
    (hg : g.method = m) (hn : As.length = n) (hsize : g.locals.size = nL) (hstack : g.stack = As.reverse ++ .ref b :: rest) (hW : 2 * g.monitorRoom + (rest.map fun v => v.category).sum ≤ 8) (hdg : decode cc g.pc = .ok (.invokevirtual index, 3)) (hf : cells + mc ≤ R.cells ∧ slots + ms ≤ R.slots) :
    va_Run p l e R s m args below meth c H locs cells slots mc ms g rest (Qc (Value.ref b :: As).toArray) free := by
  obtain ⟨⟨hrc, hrs, hfr, hlo, hws, hcw⟩, hcode, hini, hy, hlen, hl, hin, hse⟩ := cw
  have hK : Back l R p e below s args y 3 8 (PreOf R mc ms Pc) (PostOf Qc mc ms free) := va_backW (hh := hh) (bytes := bytes) (maxL := maxL) (ret := ret) hM hp.1 hrc hrs hfr hlo hws hcw (fun a' U hW => word_at hW (Or.inl (by first | rfl | simp [Cond.onTables, Cond.keeps, Cond.steady])) hini)
  obtain ⟨hx, hb, hml, ho, -⟩ := S
  obtain ⟨-, ⟨cellB, hcB, hoB, hclB⟩, hPc⟩ := hp
  intro T hT X
  obtain ⟨v, vm₁, ⟨U', l2, c2, s2⟩, hW₁, X', ⟨g', mk, t, L, e1, e2, hq, h1, hL, h2, h3⟩, st⟩ := vx_callVW X hx (C := C) (hh := hh) (bytes := bytes) (maxL := maxL) (ret := ret) ho hl hin hse hcode hy hK (by rw [hT]; exact hcB) hoB hclB hg (hsize.trans hml.symm) (argsL := As) (rest := rest) (fun sig h => hn.trans (hlen sig h)) hstack hW (by rw [hb]; exact hdg)
    (fun vm₁ hW₁ => ⟨hf.1, hf.2, hPc (T.setVm vm₁) hT hW₁⟩)
  dsimp only [Pt.U, Pt.locs, Pt.cells, Pt.slots] at X' e1 e2 h1 h2 h3 st
  subst h1; subst h2; subst h3
  exact ⟨v, (T.setVm vm₁).calling g' mk (Value.ref b :: As).toArray, t, U', L, hT, X', hL, e1, e2, hq, st⟩
section
variable {y : MethodName} {bytes cc : ByteArray} {maxL nL mc ms n index : Nat} {ret : Option FieldType} {ws : List Cond} {rm : Room} {Pc : Array Value → State → Prop} {Qc : Array Value → State → Outcome → State → Prop} {XC : String → State → State → Prop} {free : Addr → Prop} {Ts : List Cond} {own C : String} {b : Addr} {As rest : List Value} {g : JFrame}
theorem vx_runVX {hh : List (Nat × Nat × Nat × Nat)} (S : CallFix p m c cc nL s args Ts own) (hM : vx_Met l y ws rm Pc Qc XC mc ms free) (cw : vx_CVW R s args own C index y bytes maxL ret hh ws rm mc ms n) (hp : PreV s H C b Pc As)
    (hg : g.method = m) (hn : As.length = n) (hsize : g.locals.size = nL) (hstack : g.stack = As.reverse ++ .ref b :: rest) (hW : 2 * g.monitorRoom + (rest.map fun v => v.category).sum ≤ 8) (hdg : decode cc g.pc = .ok (.invokevirtual index, 3)) (hf : cells + mc ≤ R.cells ∧ slots + ms ≤ R.slots) :
    vx_Run p l e R s m args below meth c H locs cells slots mc ms g rest (Qc (Value.ref b :: As).toArray) XC free := by
  obtain ⟨⟨hrc, hrs, hfr, hlo, hws, hcw⟩, hcode, hini, hy, hlen, hl, hin, hse⟩ := cw
  have hK : vx_Back l R p e below s args y 3 8 (PreOf R mc ms Pc) (PostOf Qc mc ms free) (vx_Post XC mc ms free) := vx_backW (hh := hh) (bytes := bytes) (maxL := maxL) (ret := ret) hM hp.1 hrc hrs hfr hlo hws hcw (fun a' U hW => word_at hW (Or.inl (by first | rfl | simp [Cond.onTables, Cond.keeps, Cond.steady])) hini)
  obtain ⟨hx, hb, hml, ho, -⟩ := S
  obtain ⟨-, ⟨cellB, hcB, hoB, hclB⟩, hPc⟩ := hp
  intro T hT X
  rcases vx_callVX X hx (C := C) (hh := hh) (bytes := bytes) (maxL := maxL) (ret := ret) ho hl hin hse hcode hy hK (by rw [hT]; exact hcB) hoB hclB hg (hsize.trans hml.symm) (argsL := As) (rest := rest) (fun sig h => hn.trans (hlen sig h)) hstack hW (by rw [hb]; exact hdg)
    (fun vm₁ hW₁ => ⟨hf.1, hf.2, hPc (T.setVm vm₁) hT hW₁⟩) with ⟨v, vm₁, ⟨U', l2, c2, s2⟩, hW₁, X', ⟨g', mk, t, L, e1, e2, hq, h1, hL, h2, h3⟩, st⟩ | ⟨q, vm₁, ⟨U', l2, c2, s2⟩, hW₁, X', ⟨g', mk, t, L, E, ce, e1, e2, hq, hce, hcv, hcl, h1, hL, h2, h3⟩, st⟩
  · dsimp only [Pt.U, Pt.locs, Pt.cells, Pt.slots] at X' e1 e2 h1 h2 h3 st
    subst h1; subst h2; subst h3
    exact Or.inl ⟨v, (T.setVm vm₁).calling g' mk (Value.ref b :: As).toArray, t, U', L, hT, X', hL, e1, e2, hq, st⟩
  · dsimp only [Pt.U, Pt.locs, Pt.cells, Pt.slots] at X' e1 e2 h1 h2 h3 st hcl
    subst h1; subst h2; subst h3
    exact Or.inr ⟨q, (T.setVm vm₁).calling g' mk (Value.ref b :: As).toArray, t, U', L, E, ce, hT, X', hL, e1, e2, hq, hce, hcv, vx_cls hW₁ hcl, st⟩
theorem vx_runSX {hh : List (Nat × Nat × Nat × Nat)} (S : CallFix p m c cc nL s args Ts own) (hM : vx_Met l y ws rm Pc Qc XC mc ms free) (cw : vx_CSW R s args own index y bytes maxL ret hh ws rm mc ms n) (hp : PreS s H Pc As)
    (hg : g.method = m) (hn : As.length = n) (hsize : g.locals.size = nL) (hstack : g.stack = As.reverse ++ rest) (hW : 2 * g.monitorRoom + (rest.map fun v => v.category).sum ≤ 8) (hdg : decode cc g.pc = .ok (.invokestatic index, 3)) (hf : cells + mc ≤ R.cells ∧ slots + ms ≤ R.slots) :
    vx_Run p l e R s m args below meth c H locs cells slots mc ms g rest (Qc As.toArray) XC free := by
  obtain ⟨⟨hrc, hrs, hfr, hlo, hws, hcw⟩, hcode, hini, hy, hlen, hl, hstt⟩ := cw
  have hK : vx_Back l R p e below s args y 3 8 (PreOf R mc ms Pc) (PostOf Qc mc ms free) (vx_Post XC mc ms free) := vx_backW (hh := hh) (bytes := bytes) (maxL := maxL) (ret := ret) hM hp.1 hrc hrs hfr hlo hws hcw (fun a' U hW => word_at hW (Or.inl (by first | rfl | simp [Cond.onTables, Cond.keeps, Cond.steady])) hini)
  obtain ⟨hx, hb, hml, ho, -⟩ := S
  intro T hT X
  rcases vx_callSX X hx (hh := hh) (bytes := bytes) (maxL := maxL) (ret := ret) ho hl hstt hini hcode hy hK hg (hsize.trans hml.symm) (argsL := As) (rest := rest) (fun sig h => hn.trans (hlen sig h)) hstack hW (by rw [hb]; exact hdg)
    (fun vm₁ hW₁ => ⟨hf.1, hf.2, hp.2 (T.setVm vm₁) hT hW₁⟩) with ⟨v, vm₁, ⟨U', l2, c2, s2⟩, hW₁, X', ⟨g', mk, t, L, e1, e2, hq, h1, hL, h2, h3⟩, st⟩ | ⟨q, vm₁, ⟨U', l2, c2, s2⟩, hW₁, X', ⟨g', mk, t, L, E, ce, e1, e2, hq, hce, hcv, hcl, h1, hL, h2, h3⟩, st⟩
  · dsimp only [Pt.U, Pt.locs, Pt.cells, Pt.slots] at X' e1 e2 h1 h2 h3 st
    subst h1; subst h2; subst h3
    exact Or.inl ⟨v, (T.setVm vm₁).calling g' mk As.toArray, t, U', L, hT, X', hL, e1, e2, hq, st⟩
  · dsimp only [Pt.U, Pt.locs, Pt.cells, Pt.slots] at X' e1 e2 h1 h2 h3 st hcl
    subst h1; subst h2; subst h3
    exact Or.inr ⟨q, (T.setVm vm₁).calling g' mk As.toArray, t, U', L, E, ce, hT, X', hL, e1, e2, hq, hce, hcv, vx_cls hW₁ hcl, st⟩
end
end VXH
theorem vx_ofWH {l : Launch} {y : MethodName} {ws ws' : List Cond} {rm : Room} {Pc : Array Value → State → Prop} {Qc : Array Value → State → Outcome → State → Prop} {XC : String → State → State → Prop} {mc ms : Nat} {free : Addr → Prop} {cc : ByteArray} {maxL : Nat} {ret : Option FieldType} {hh : List (Nat × Nat × Nat × Nat)}
    (hy : plainName y.cls = true) (hw : ws = Cond.codeWith y cc maxL ret hh :: ws')
    (body : ∀ p e s m args below meth c s₁, BodyLoose p l y (headSpec ws rm) cc maxL ret e s m args below meth c s₁ → c.maxLocals = maxL → Pc args s →
      W p l e (headSpec ws rm).room s m args below meth c s.heap [] 0 0 (vx_MQ below Qc XC args s mc ms free) (entryFrame m args maxL)) : vx_Met l y ws rm Pc Qc XC mc ms free := by
  refine MetFree.of_bodyS (code := cc) (maxLocals := maxL) (ret := ret) hy ?_ ?_
  · intro args s m h hn
    obtain ⟨m9, meth, c, hn9, h1, h2, h3, h4, -, h5, h6, -⟩ := Cond.codeWith_spec (atoms_spec (ws := ws) h _ (by rw [hw]; exact List.mem_cons_self))
    cases hn.symm.trans hn9
    exact ⟨meth, c, h1, h2, h3, h4, h5, h6⟩
  · intro p e s m args below meth c s₁ B hml hP _
    have hh0 : s₁.heap = s.heap := by rw [B.state]; rfl
    obtain ⟨t, a1, o, b1, b2, b3⟩ := body p e s m args below meth c s₁ B hml hP s₁ hh0 (Stand.of_body B)
    exact ⟨t, o, a1, b1, b2, b3⟩
/-! ===== END ===== -/

/-! ===== BEGIN printed: names, fields, word lists, decode rows ===== -/
def RX0 : String := "MeridianSeries$Buckets"
def TX0 : u_T := fun k => match k with
  | 0 => ("MeridianSeries$Items", "amount", "I", false)
  | _ => ("MeridianSeries$Buckets", "cells", "[I", true)
def tyX0 : Nat → FieldType := fun k => match k with
  | 0 => .int
  | _ => .array .int
abbrev wsX00 : List Cond := u_ws RX0 TX0 2
theorem nmX0 : ∀ a, a < 2 → ∀ b, b < 2 → a ≠ b → (TX0 a).2.1 ≠ (TX0 b).2.1 := by decide +kernel
theorem tyX0_ok : ∀ k, k < 2 → parseFieldDescriptor (TX0 k).2.2.1 = some (tyX0 k) := by decide +kernel
abbrev cX0_init : ByteArray := prog_2_method_1_code
def yX0_init : MethodName := ⟨RX0, "<init>", "()V"⟩
abbrev cX0_number : ByteArray := prog_2_method_2_code
def yX0_number : MethodName := ⟨RX0, "number", "(II)I"⟩
abbrev cX0_isFull : ByteArray := prog_2_method_3_code
def yX0_isFull : MethodName := ⟨RX0, "isFull", "()Z"⟩
abbrev cX0_take : ByteArray := prog_2_method_4_code
def yX0_take : MethodName := ⟨RX0, "take", "(ILMeridianSeries$Items;I)V"⟩
abbrev cX0_dropFirst : ByteArray := prog_2_method_5_code
def yX0_dropFirst : MethodName := ⟨RX0, "dropFirst", "()V"⟩
abbrev cX0_copyFrom : ByteArray := prog_2_method_6_code
def yX0_copyFrom : MethodName := ⟨RX0, "copyFrom", "(LMeridianSeries$Buckets;)V"⟩
abbrev cX0_write : ByteArray := prog_2_method_7_code
def yX0_write : MethodName := ⟨RX0, "write", "(III)V"⟩
def RX1 : String := "MeridianSeries$EventLog"
def TX1 : u_T := fun k => match k with
  | 0 => ("MeridianSeries$EventLog", "cells", "[I", true)
  | 1 => ("MeridianSeries$EventLog", "total", "I", false)
  | _ => ("MeridianSeries$EventLog", "firings", "I", false)
def tyX1 : Nat → FieldType := fun k => match k with
  | 0 => .array .int
  | 1 => .int
  | _ => .int
abbrev wsX10 : List Cond := u_ws RX1 TX1 3
theorem nmX1 : ∀ a, a < 3 → ∀ b, b < 3 → a ≠ b → (TX1 a).2.1 ≠ (TX1 b).2.1 := by decide +kernel
theorem tyX1_ok : ∀ k, k < 3 → parseFieldDescriptor (TX1 k).2.2.1 = some (tyX1 k) := by decide +kernel
abbrev cX1_init : ByteArray := prog_3_method_1_code
def yX1_init : MethodName := ⟨RX1, "<init>", "()V"⟩
abbrev cX1_add : ByteArray := prog_3_method_2_code
def yX1_add : MethodName := ⟨RX1, "add", "(III)V"⟩
abbrev cX1_number : ByteArray := prog_3_method_3_code
def yX1_number : MethodName := ⟨RX1, "number", "(II)I"⟩
def RX2 : String := "MeridianSeries$Items"
def TX2 : u_T := fun k => match k with
  | _ => ("", "", "", false)
def tyX2 : Nat → FieldType := fun k => match k with
  | _ => .int
abbrev wsX20 : List Cond := u_ws RX2 TX2 0
theorem nmX2 : ∀ a, a < 0 → ∀ b, b < 0 → a ≠ b → (TX2 a).2.1 ≠ (TX2 b).2.1 := by decide +kernel
theorem tyX2_ok : ∀ k, k < 0 → parseFieldDescriptor (TX2 k).2.2.1 = some (tyX2 k) := by decide +kernel
abbrev cX2_init : ByteArray := prog_4_method_1_code
def yX2_init : MethodName := ⟨RX2, "<init>", "()V"⟩
def RX3 : String := "MeridianSeries$Packer"
def TX3 : u_T := fun k => match k with
  | 0 => ("MeridianSeries$Packer", "words", "[I", true)
  | 1 => ("MeridianSeries$Packer", "length", "I", false)
  | 2 => ("MeridianSeries$Packer", "packed", "I", false)
  | 3 => ("MeridianSeries$Packer", "lastTime", "I", false)
  | 4 => ("MeridianSeries$Packer", "lastStep", "I", false)
  | _ => ("MeridianSeries$Packer", "lastValue", "I", false)
def tyX3 : Nat → FieldType := fun k => match k with
  | 0 => .array .int
  | 1 => .int
  | 2 => .int
  | 3 => .int
  | 4 => .int
  | _ => .int
abbrev wsX30 : List Cond := u_ws RX3 TX3 6
theorem nmX3 : ∀ a, a < 6 → ∀ b, b < 6 → a ≠ b → (TX3 a).2.1 ≠ (TX3 b).2.1 := by decide +kernel
theorem tyX3_ok : ∀ k, k < 6 → parseFieldDescriptor (TX3 k).2.2.1 = some (tyX3 k) := by decide +kernel
abbrev cX3_init : ByteArray := prog_5_method_1_code
def yX3_init : MethodName := ⟨RX3, "<init>", "()V"⟩
abbrev cX3_pack : ByteArray := prog_5_method_2_code
def yX3_pack : MethodName := ⟨RX3, "pack", "(LMeridianSeries$Points;I)I"⟩
abbrev cX3_packOpenWith : ByteArray := prog_5_method_3_code
def yX3_packOpenWith : MethodName := ⟨RX3, "packOpenWith", "(LMeridianSeries$Points;II)I"⟩
abbrev cX3_begin : ByteArray := prog_5_method_6_code
def yX3_begin : MethodName := ⟨RX3, "begin", "(I)V"⟩
abbrev cX3_add : ByteArray := prog_5_method_7_code
def yX3_add : MethodName := ⟨RX3, "add", "(II)V"⟩
abbrev cX3_addTime : ByteArray := prog_5_method_8_code
def yX3_addTime : MethodName := ⟨RX3, "addTime", "(I)V"⟩
abbrev cX3_addValue : ByteArray := prog_5_method_9_code
def yX3_addValue : MethodName := ⟨RX3, "addValue", "(I)V"⟩
abbrev cX3_write : ByteArray := prog_5_method_10_code
def yX3_write : MethodName := ⟨RX3, "write", "(II)V"⟩
def RX4 : String := "MeridianSeries$Points"
def TX4 : u_T := fun k => match k with
  | 0 => ("MeridianSeries$Items", "amount", "I", false)
  | 1 => ("MeridianSeries$Points", "times", "[I", true)
  | 2 => ("MeridianSeries$Points", "values", "[I", true)
  | 3 => ("MeridianSeries$Points", "sizes", "[I", true)
  | 4 => ("MeridianSeries$Points", "sealedBlocks", "I", false)
  | 5 => ("MeridianSeries$Points", "sealedPoints", "I", false)
  | _ => ("MeridianSeries$Points", "greatestSealedTime", "I", false)
def tyX4 : Nat → FieldType := fun k => match k with
  | 0 => .int
  | 1 => .array .int
  | 2 => .array .int
  | 3 => .array .int
  | 4 => .int
  | 5 => .int
  | _ => .int
abbrev wsX40 : List Cond := u_ws RX4 TX4 7
theorem nmX4 : ∀ a, a < 7 → ∀ b, b < 7 → a ≠ b → (TX4 a).2.1 ≠ (TX4 b).2.1 := by decide +kernel
theorem tyX4_ok : ∀ k, k < 7 → parseFieldDescriptor (TX4 k).2.2.1 = some (tyX4 k) := by decide +kernel
abbrev cX4_init : ByteArray := prog_6_method_1_code
def yX4_init : MethodName := ⟨RX4, "<init>", "()V"⟩
abbrev cX4_number : ByteArray := prog_6_method_2_code
def yX4_number : MethodName := ⟨RX4, "number", "(II)I"⟩
abbrev cX4_blockCount : ByteArray := prog_6_method_3_code
def yX4_blockCount : MethodName := ⟨RX4, "blockCount", "()I"⟩
abbrev cX4_openSize : ByteArray := prog_6_method_4_code
def yX4_openSize : MethodName := ⟨RX4, "openSize", "()I"⟩
abbrev cX4_sizeOf : ByteArray := prog_6_method_5_code
def yX4_sizeOf : MethodName := ⟨RX4, "sizeOf", "(I)I"⟩
abbrev cX4_startOf : ByteArray := prog_6_method_6_code
def yX4_startOf : MethodName := ⟨RX4, "startOf", "(I)I"⟩
abbrev cX4_isLate : ByteArray := prog_6_method_7_code
def yX4_isLate : MethodName := ⟨RX4, "isLate", "(I)Z"⟩
abbrev cX4_placeOf : ByteArray := prog_6_method_8_code
def yX4_placeOf : MethodName := ⟨RX4, "placeOf", "(I)I"⟩
abbrev cX4_isTakenAt : ByteArray := prog_6_method_9_code
def yX4_isTakenAt : MethodName := ⟨RX4, "isTakenAt", "(II)Z"⟩
abbrev cX4_add : ByteArray := prog_6_method_10_code
def yX4_add : MethodName := ⟨RX4, "add", "(II)V"⟩
abbrev cX4_hasTooManySealed : ByteArray := prog_6_method_11_code
def yX4_hasTooManySealed : MethodName := ⟨RX4, "hasTooManySealed", "()Z"⟩
abbrev cX4_seal : ByteArray := prog_6_method_12_code
def yX4_seal : MethodName := ⟨RX4, "seal", "()V"⟩
abbrev cX4_dropFirstBlock : ByteArray := prog_6_method_13_code
def yX4_dropFirstBlock : MethodName := ⟨RX4, "dropFirstBlock", "()V"⟩
abbrev cX4_blocksBelow : ByteArray := prog_6_method_14_code
def yX4_blocksBelow : MethodName := ⟨RX4, "blocksBelow", "(I)I"⟩
abbrev cX4_copyFrom : ByteArray := prog_6_method_15_code
def yX4_copyFrom : MethodName := ⟨RX4, "copyFrom", "(LMeridianSeries$Points;)V"⟩
abbrev cX4_copyPoint : ByteArray := prog_6_method_16_code
def yX4_copyPoint : MethodName := ⟨RX4, "copyPoint", "(II)V"⟩
abbrev cX4_write : ByteArray := prog_6_method_17_code
def yX4_write : MethodName := ⟨RX4, "write", "(III)V"⟩
def RX5 : String := "MeridianSeries$Rule"
def TX5 : u_T := fun k => match k with
  | 0 => ("MeridianSeries$Rule", "chain", "LMeridianSeries$Series;", true)
  | 1 => ("MeridianSeries$Rule", "what", "I", true)
  | 2 => ("MeridianSeries$Rule", "length", "I", true)
  | 3 => ("MeridianSeries$Rule", "every", "I", true)
  | 4 => ("MeridianSeries$Rule", "isAbove", "Z", true)
  | 5 => ("MeridianSeries$Rule", "limit", "I", true)
  | 6 => ("MeridianSeries$Rule", "times", "I", true)
  | 7 => ("MeridianSeries$Rule", "state", "I", false)
  | _ => ("MeridianSeries$Rule", "timesInRow", "I", false)
def tyX5 : Nat → FieldType := fun k => match k with
  | 0 => .object "MeridianSeries$Series"
  | 1 => .int
  | 2 => .int
  | 3 => .int
  | 4 => .boolean
  | 5 => .int
  | 6 => .int
  | 7 => .int
  | _ => .int
abbrev wsX50 : List Cond := u_ws RX5 TX5 9
theorem nmX5 : ∀ a, a < 9 → ∀ b, b < 9 → a ≠ b → (TX5 a).2.1 ≠ (TX5 b).2.1 := by decide +kernel
theorem tyX5_ok : ∀ k, k < 9 → parseFieldDescriptor (TX5 k).2.2.1 = some (tyX5 k) := by decide +kernel
abbrev cX5_init : ByteArray := prog_7_method_1_code
def yX5_init : MethodName := ⟨RX5, "<init>", "(LMeridianSeries$Series;IIIZII)V"⟩
abbrev cX5_isDueAt : ByteArray := prog_7_method_2_code
def yX5_isDueAt : MethodName := ⟨RX5, "isDueAt", "(I)Z"⟩
abbrev cX5_told : ByteArray := prog_7_method_3_code
def yX5_told : MethodName := ⟨RX5, "told", "(I)I"⟩
abbrev cX5_changesBy : ByteArray := prog_7_method_4_code
def yX5_changesBy : MethodName := ⟨RX5, "changesBy", "(I)Z"⟩
abbrev cX5_ceases : ByteArray := prog_7_method_5_code
def yX5_ceases : MethodName := ⟨RX5, "ceases", "(Z)Z"⟩
abbrev cX5_begins : ByteArray := prog_7_method_6_code
def yX5_begins : MethodName := ⟨RX5, "begins", "(Z)Z"⟩
abbrev cX5_become : ByteArray := prog_7_method_7_code
def yX5_become : MethodName := ⟨RX5, "become", "(I)V"⟩
abbrev cX5_copyFrom : ByteArray := prog_7_method_8_code
def yX5_copyFrom : MethodName := ⟨RX5, "copyFrom", "(LMeridianSeries$Rule;)V"⟩
def RX6 : String := "MeridianSeries$Series"
def TX6 : u_T := fun k => match k with
  | 0 => ("MeridianSeries$Series", "one", "I", true)
  | 1 => ("MeridianSeries$Series", "other", "I", true)
  | 2 => ("MeridianSeries$Series", "points", "LMeridianSeries$Points;", true)
  | 3 => ("MeridianSeries$Series", "fine", "LMeridianSeries$Buckets;", true)
  | _ => ("MeridianSeries$Series", "coarse", "LMeridianSeries$Buckets;", true)
def tyX6 : Nat → FieldType := fun k => match k with
  | 0 => .int
  | 1 => .int
  | 2 => .object "MeridianSeries$Points"
  | 3 => .object "MeridianSeries$Buckets"
  | _ => .object "MeridianSeries$Buckets"
abbrev wsX60 : List Cond := u_ws RX6 TX6 5
theorem nmX6 : ∀ a, a < 5 → ∀ b, b < 5 → a ≠ b → (TX6 a).2.1 ≠ (TX6 b).2.1 := by decide +kernel
theorem tyX6_ok : ∀ k, k < 5 → parseFieldDescriptor (TX6 k).2.2.1 = some (tyX6 k) := by decide +kernel
abbrev cX6_init : ByteArray := prog_8_method_1_code
def yX6_init : MethodName := ⟨RX6, "<init>", "(II)V"⟩
abbrev cX6_bucketsOf : ByteArray := prog_8_method_3_code
def yX6_bucketsOf : MethodName := ⟨RX6, "bucketsOf", "(Z)LMeridianSeries$Buckets;"⟩
abbrev cX6_take : ByteArray := prog_8_method_4_code
def yX6_take : MethodName := ⟨RX6, "take", "(IILMeridianSeries$Settings;)V"⟩
abbrev cX6_rollUpBy : ByteArray := prog_8_method_5_code
def yX6_rollUpBy : MethodName := ⟨RX6, "rollUpBy", "(ILMeridianSeries$Settings;)V"⟩
abbrev cX6_fineEndingBy : ByteArray := prog_8_method_6_code
def yX6_fineEndingBy : MethodName := ⟨RX6, "fineEndingBy", "(II)I"⟩
abbrev cX6_rollUpFirstBlock : ByteArray := prog_8_method_7_code
def yX6_rollUpFirstBlock : MethodName := ⟨RX6, "rollUpFirstBlock", "(LMeridianSeries$Settings;)V"⟩
abbrev cX6_rollUpFirstFine : ByteArray := prog_8_method_8_code
def yX6_rollUpFirstFine : MethodName := ⟨RX6, "rollUpFirstFine", "(LMeridianSeries$Settings;)V"⟩
abbrev cX6_startFor : ByteArray := prog_8_method_9_code
def yX6_startFor : MethodName := ⟨RX6, "startFor", "(II)I"⟩
abbrev cX6_itemCount : ByteArray := prog_8_method_10_code
def yX6_itemCount : MethodName := ⟨RX6, "itemCount", "()I"⟩
abbrev cX6_ofItem : ByteArray := prog_8_method_11_code
def yX6_ofItem : MethodName := ⟨RX6, "ofItem", "(II)I"⟩
abbrev cX6_firstItemFrom : ByteArray := prog_8_method_12_code
def yX6_firstItemFrom : MethodName := ⟨RX6, "firstItemFrom", "(I)I"⟩
abbrev cX6_tell : ByteArray := prog_8_method_13_code
def yX6_tell : MethodName := ⟨RX6, "tell", "(IIII)I"⟩
abbrev cX6_toldOfGap : ByteArray := prog_8_method_14_code
def yX6_toldOfGap : MethodName := ⟨RX6, "toldOfGap", "(III)I"⟩
abbrev cX6_onLine : ByteArray := prog_8_method_15_code
def yX6_onLine : MethodName := ⟨RX6, "onLine", "(III)I"⟩
abbrev cX6_total : ByteArray := prog_8_method_16_code
def yX6_total : MethodName := ⟨RX6, "total", "(III)I"⟩
abbrev cX6_quotient : ByteArray := prog_8_method_17_code
def yX6_quotient : MethodName := ⟨RX6, "quotient", "(II)I"⟩
abbrev cX6_least : ByteArray := prog_8_method_18_code
def yX6_least : MethodName := ⟨RX6, "least", "(II)I"⟩
abbrev cX6_greatest : ByteArray := prog_8_method_19_code
def yX6_greatest : MethodName := ⟨RX6, "greatest", "(II)I"⟩
abbrev cX6_copyFrom : ByteArray := prog_8_method_20_code
def yX6_copyFrom : MethodName := ⟨RX6, "copyFrom", "(LMeridianSeries$Series;)V"⟩
def RX7 : String := "MeridianSeries$Settings"
def TX7 : u_T := fun k => match k with
  | 0 => ("MeridianSeries$Settings", "span", "I", false)
  | 1 => ("MeridianSeries$Settings", "width", "I", false)
  | 2 => ("MeridianSeries$Settings", "fold", "I", false)
  | 3 => ("MeridianSeries$Settings", "keep", "I", false)
  | _ => ("MeridianSeries$Settings", "longKeep", "I", false)
def tyX7 : Nat → FieldType := fun k => match k with
  | 0 => .int
  | 1 => .int
  | 2 => .int
  | 3 => .int
  | _ => .int
abbrev wsX70 : List Cond := u_ws RX7 TX7 5
theorem nmX7 : ∀ a, a < 5 → ∀ b, b < 5 → a ≠ b → (TX7 a).2.1 ≠ (TX7 b).2.1 := by decide +kernel
theorem tyX7_ok : ∀ k, k < 5 → parseFieldDescriptor (TX7 k).2.2.1 = some (tyX7 k) := by decide +kernel
abbrev cX7_init : ByteArray := prog_9_method_1_code
def yX7_init : MethodName := ⟨RX7, "<init>", "()V"⟩
def RX8 : String := "MeridianSeries$Store"
def TX8 : u_T := fun k => match k with
  | 0 => ("MeridianSeries$Store", "settings", "LMeridianSeries$Settings;", true)
  | 1 => ("MeridianSeries$Store", "chains", "Ljava/util/ArrayList;", true)
  | 2 => ("MeridianSeries$Store", "rules", "Ljava/util/ArrayList;", true)
  | 3 => ("MeridianSeries$Store", "log", "LMeridianSeries$EventLog;", true)
  | _ => ("MeridianSeries$Store", "now", "I", false)
def tyX8 : Nat → FieldType := fun k => match k with
  | 0 => .object "MeridianSeries$Settings"
  | 1 => .object "java/util/ArrayList"
  | 2 => .object "java/util/ArrayList"
  | 3 => .object "MeridianSeries$EventLog"
  | _ => .int
abbrev wsX80 : List Cond := u_ws RX8 TX8 5
theorem nmX8 : ∀ a, a < 5 → ∀ b, b < 5 → a ≠ b → (TX8 a).2.1 ≠ (TX8 b).2.1 := by decide +kernel
theorem tyX8_ok : ∀ k, k < 5 → parseFieldDescriptor (TX8 k).2.2.1 = some (tyX8 k) := by decide +kernel
abbrev cX8_init : ByteArray := prog_10_method_1_code
def yX8_init : MethodName := ⟨RX8, "<init>", "(LMeridianSeries$Settings;)V"⟩
abbrev cX8_hasBucket : ByteArray := prog_10_method_2_code
def yX8_hasBucket : MethodName := ⟨RX8, "hasBucket", "()Z"⟩
abbrev cX8_goOnByOne : ByteArray := prog_10_method_3_code
def yX8_goOnByOne : MethodName := ⟨RX8, "goOnByOne", "()V"⟩
abbrev cX8_copyFrom : ByteArray := prog_10_method_4_code
def yX8_copyFrom : MethodName := ⟨RX8, "copyFrom", "(LMeridianSeries$Store;)V"⟩
def RX9 : String := "MeridianSeries"
def TX9 : u_T := fun k => match k with
  | 0 => ("MeridianSeries", "settings", "LMeridianSeries$Settings;", true)
  | 1 => ("MeridianSeries", "store", "LMeridianSeries$Store;", true)
  | 2 => ("MeridianSeries", "trial", "LMeridianSeries$Store;", true)
  | 3 => ("MeridianSeries", "packer", "LMeridianSeries$Packer;", true)
  | 4 => ("MeridianSeries", "queryFrom", "I", false)
  | 5 => ("MeridianSeries", "queryStep", "I", false)
  | 6 => ("MeridianSeries", "queryWhat", "I", false)
  | 7 => ("MeridianSeries", "queryFill", "I", false)
  | _ => ("MeridianSeries", "lateCount", "I", false)
def tyX9 : Nat → FieldType := fun k => match k with
  | 0 => .object "MeridianSeries$Settings"
  | 1 => .object "MeridianSeries$Store"
  | 2 => .object "MeridianSeries$Store"
  | 3 => .object "MeridianSeries$Packer"
  | 4 => .int
  | 5 => .int
  | 6 => .int
  | 7 => .int
  | _ => .int
abbrev wsX90 : List Cond := u_ws RX9 TX9 9
theorem nmX9 : ∀ a, a < 9 → ∀ b, b < 9 → a ≠ b → (TX9 a).2.1 ≠ (TX9 b).2.1 := by decide +kernel
theorem tyX9_ok : ∀ k, k < 9 → parseFieldDescriptor (TX9 k).2.2.1 = some (tyX9 k) := by decide +kernel
abbrev cX9_init : ByteArray := prog_1_method_1_code
def yX9_init : MethodName := ⟨RX9, "<init>", "()V"⟩
abbrev cX9_addSeries : ByteArray := prog_1_method_2_code
def yX9_addSeries : MethodName := ⟨RX9, "addSeries", "(II)I"⟩
abbrev cX9_setSpan : ByteArray := prog_1_method_3_code
def yX9_setSpan : MethodName := ⟨RX9, "setSpan", "(I)I"⟩
abbrev cX9_setWidths : ByteArray := prog_1_method_4_code
def yX9_setWidths : MethodName := ⟨RX9, "setWidths", "(II)I"⟩
abbrev cX9_setKeep : ByteArray := prog_1_method_5_code
def yX9_setKeep : MethodName := ⟨RX9, "setKeep", "(II)I"⟩
abbrev cX9_setQuery : ByteArray := prog_1_method_6_code
def yX9_setQuery : MethodName := ⟨RX9, "setQuery", "(IIII)I"⟩
abbrev cX9_put : ByteArray := prog_1_method_7_code
def yX9_put : MethodName := ⟨RX9, "put", "(III)I"⟩
abbrev cX9_goOn : ByteArray := prog_1_method_9_code
def yX9_goOn : MethodName := ⟨RX9, "goOn", "(I)I"⟩
abbrev cX9_now : ByteArray := prog_1_method_10_code
def yX9_now : MethodName := ⟨RX9, "now", "()I"⟩
abbrev cX9_late : ByteArray := prog_1_method_12_code
def yX9_late : MethodName := ⟨RX9, "late", "()I"⟩
abbrev cX9_blocks : ByteArray := prog_1_method_13_code
def yX9_blocks : MethodName := ⟨RX9, "blocks", "(I)I"⟩
abbrev cX9_size : ByteArray := prog_1_method_14_code
def yX9_size : MethodName := ⟨RX9, "size", "(II)I"⟩
abbrev cX9_point : ByteArray := prog_1_method_15_code
def yX9_point : MethodName := ⟨RX9, "point", "(IIIZ)I"⟩
abbrev cX9_bits : ByteArray := prog_1_method_16_code
def yX9_bits : MethodName := ⟨RX9, "bits", "(II)I"⟩
abbrev cX9_buckets : ByteArray := prog_1_method_18_code
def yX9_buckets : MethodName := ⟨RX9, "buckets", "(IZ)I"⟩
abbrev cX9_ofBucket : ByteArray := prog_1_method_19_code
def yX9_ofBucket : MethodName := ⟨RX9, "ofBucket", "(IZII)I"⟩
abbrev cX9_items : ByteArray := prog_1_method_20_code
def yX9_items : MethodName := ⟨RX9, "items", "(I)I"⟩
abbrev cX9_ask : ByteArray := prog_1_method_22_code
def yX9_ask : MethodName := ⟨RX9, "ask", "(II)I"⟩
abbrev cX9_lastAt : ByteArray := prog_1_method_25_code
def yX9_lastAt : MethodName := ⟨RX9, "lastAt", "(II)I"⟩
abbrev cX9_addRule : ByteArray := prog_1_method_26_code
def yX9_addRule : MethodName := ⟨RX9, "addRule", "(IIIIZII)I"⟩
abbrev cX9_events : ByteArray := prog_1_method_30_code
def yX9_events : MethodName := ⟨RX9, "events", "()I"⟩
abbrev cX9_event : ByteArray := prog_1_method_31_code
def yX9_event : MethodName := ⟨RX9, "event", "(II)I"⟩
abbrev cX9_bitsWith : ByteArray := prog_1_method_32_code
def yX9_bitsWith : MethodName := ⟨RX9, "bitsWith", "(III)I"⟩
abbrev cX9_firesIn : ByteArray := prog_1_method_33_code
def yX9_firesIn : MethodName := ⟨RX9, "firesIn", "(I)I"⟩
abbrev cX9_wouldRoll : ByteArray := prog_1_method_34_code
def yX9_wouldRoll : MethodName := ⟨RX9, "wouldRoll", "(I)I"⟩
abbrev cX9_digest : ByteArray := prog_1_method_35_code
def yX9_digest : MethodName := ⟨RX9, "digest", "()J"⟩
abbrev cX9_withBlocks : ByteArray := prog_1_method_36_code
def yX9_withBlocks : MethodName := ⟨RX9, "withBlocks", "(JLMeridianSeries$Points;)J"⟩
abbrev cX9_withBuckets : ByteArray := prog_1_method_37_code
def yX9_withBuckets : MethodName := ⟨RX9, "withBuckets", "(JLMeridianSeries$Buckets;)J"⟩
abbrev cX9_withWindows : ByteArray := prog_1_method_38_code
def yX9_withWindows : MethodName := ⟨RX9, "withWindows", "(JLMeridianSeries$Series;)J"⟩
abbrev cX9_isIn : ByteArray := prog_1_method_39_code
def yX9_isIn : MethodName := ⟨RX9, "isIn", "(JII)Z"⟩
abbrev cX9_isValue : ByteArray := prog_1_method_40_code
def yX9_isValue : MethodName := ⟨RX9, "isValue", "(J)Z"⟩
abbrev cX9_isTimeUpToNow : ByteArray := prog_1_method_41_code
def yX9_isTimeUpToNow : MethodName := ⟨RX9, "isTimeUpToNow", "(J)Z"⟩
abbrev cX9_canGoOn : ByteArray := prog_1_method_42_code
def yX9_canGoOn : MethodName := ⟨RX9, "canGoOn", "(I)Z"⟩
abbrev cX9_needArgument : ByteArray := prog_1_method_43_code
def yX9_needArgument : MethodName := ⟨RX9, "needArgument", "(Z)V"⟩
abbrev cX9_needIndex : ByteArray := prog_1_method_44_code
def yX9_needIndex : MethodName := ⟨RX9, "needIndex", "(Z)V"⟩
abbrev cX9_needState : ByteArray := prog_1_method_45_code
def yX9_needState : MethodName := ⟨RX9, "needState", "(Z)V"⟩
abbrev cX9_chainAt : ByteArray := prog_1_method_46_code
def yX9_chainAt : MethodName := ⟨RX9, "chainAt", "(I)LMeridianSeries$Series;"⟩
abbrev cX9_putOrCountLate : ByteArray := prog_1_method_48_code
def yX9_putOrCountLate : MethodName := ⟨RX9, "putOrCountLate", "(LMeridianSeries$Series;II)Z"⟩
abbrev cX9_toldByQuery : ByteArray := prog_1_method_49_code
def yX9_toldByQuery : MethodName := ⟨RX9, "toldByQuery", "(LMeridianSeries$Series;I)I"⟩
def RX10 : String := "MeridianSeriesModel$Bits"
def TX10 : u_T := fun k => match k with
  | _ => ("", "", "", false)
def tyX10 : Nat → FieldType := fun k => match k with
  | _ => .int
abbrev wsX100 : List Cond := u_ws RX10 TX10 0
theorem nmX10 : ∀ a, a < 0 → ∀ b, b < 0 → a ≠ b → (TX10 a).2.1 ≠ (TX10 b).2.1 := by decide +kernel
theorem tyX10_ok : ∀ k, k < 0 → parseFieldDescriptor (TX10 k).2.2.1 = some (tyX10 k) := by decide +kernel
def RX11 : String := "MeridianSeriesModel$Item"
def TX11 : u_T := fun k => match k with
  | _ => ("", "", "", false)
def tyX11 : Nat → FieldType := fun k => match k with
  | _ => .int
abbrev wsX110 : List Cond := u_ws RX11 TX11 0
theorem nmX11 : ∀ a, a < 0 → ∀ b, b < 0 → a ≠ b → (TX11 a).2.1 ≠ (TX11 b).2.1 := by decide +kernel
theorem tyX11_ok : ∀ k, k < 0 → parseFieldDescriptor (TX11 k).2.2.1 = some (tyX11 k) := by decide +kernel
def RX12 : String := "MeridianSeriesModel$Rule"
def TX12 : u_T := fun k => match k with
  | _ => ("", "", "", false)
def tyX12 : Nat → FieldType := fun k => match k with
  | _ => .int
abbrev wsX120 : List Cond := u_ws RX12 TX12 0
theorem nmX12 : ∀ a, a < 0 → ∀ b, b < 0 → a ≠ b → (TX12 a).2.1 ≠ (TX12 b).2.1 := by decide +kernel
theorem tyX12_ok : ∀ k, k < 0 → parseFieldDescriptor (TX12 k).2.2.1 = some (tyX12 k) := by decide +kernel
def RX13 : String := "MeridianSeriesModel$Series"
def TX13 : u_T := fun k => match k with
  | _ => ("", "", "", false)
def tyX13 : Nat → FieldType := fun k => match k with
  | _ => .int
abbrev wsX130 : List Cond := u_ws RX13 TX13 0
theorem nmX13 : ∀ a, a < 0 → ∀ b, b < 0 → a ≠ b → (TX13 a).2.1 ≠ (TX13 b).2.1 := by decide +kernel
theorem tyX13_ok : ∀ k, k < 0 → parseFieldDescriptor (TX13 k).2.2.1 = some (tyX13 k) := by decide +kernel
def RX14 : String := "MeridianSeriesModel$Store"
def TX14 : u_T := fun k => match k with
  | _ => ("", "", "", false)
def tyX14 : Nat → FieldType := fun k => match k with
  | _ => .int
abbrev wsX140 : List Cond := u_ws RX14 TX14 0
theorem nmX14 : ∀ a, a < 0 → ∀ b, b < 0 → a ≠ b → (TX14 a).2.1 ≠ (TX14 b).2.1 := by decide +kernel
theorem tyX14_ok : ∀ k, k < 0 → parseFieldDescriptor (TX14 k).2.2.1 = some (tyX14 k) := by decide +kernel
def RX15 : String := "MeridianSeriesModel"
def TX15 : u_T := fun k => match k with
  | _ => ("", "", "", false)
def tyX15 : Nat → FieldType := fun k => match k with
  | _ => .int
abbrev wsX150 : List Cond := u_ws RX15 TX15 0
theorem nmX15 : ∀ a, a < 0 → ∀ b, b < 0 → a ≠ b → (TX15 a).2.1 ≠ (TX15 b).2.1 := by decide +kernel
theorem tyX15_ok : ∀ k, k < 0 → parseFieldDescriptor (TX15 k).2.2.1 = some (tyX15 k) := by decide +kernel
def RJx145de : String := "java/io/Serializable"
def TJx145de : u_T := fun k => match k with
  | _ => ("", "", "", false)
def tyJx145de : Nat → FieldType := fun k => match k with
  | _ => .int
abbrev wsJx145de0 : List Cond := u_ws RJx145de TJx145de 0
theorem nmJx145de : ∀ a, a < 0 → ∀ b, b < 0 → a ≠ b → (TJx145de a).2.1 ≠ (TJx145de b).2.1 := by decide +kernel
theorem tyJx145de_ok : ∀ k, k < 0 → parseFieldDescriptor (TJx145de k).2.2.1 = some (tyJx145de k) := by decide +kernel
def RJx8e188 : String := "java/lang/Cloneable"
def TJx8e188 : u_T := fun k => match k with
  | _ => ("", "", "", false)
def tyJx8e188 : Nat → FieldType := fun k => match k with
  | _ => .int
abbrev wsJx8e1880 : List Cond := u_ws RJx8e188 TJx8e188 0
theorem nmJx8e188 : ∀ a, a < 0 → ∀ b, b < 0 → a ≠ b → (TJx8e188 a).2.1 ≠ (TJx8e188 b).2.1 := by decide +kernel
theorem tyJx8e188_ok : ∀ k, k < 0 → parseFieldDescriptor (TJx8e188 k).2.2.1 = some (tyJx8e188 k) := by decide +kernel
def RJxab1ab : String := "java/lang/Iterable"
def TJxab1ab : u_T := fun k => match k with
  | _ => ("", "", "", false)
def tyJxab1ab : Nat → FieldType := fun k => match k with
  | _ => .int
abbrev wsJxab1ab0 : List Cond := u_ws RJxab1ab TJxab1ab 0
theorem nmJxab1ab : ∀ a, a < 0 → ∀ b, b < 0 → a ≠ b → (TJxab1ab a).2.1 ≠ (TJxab1ab b).2.1 := by decide +kernel
theorem tyJxab1ab_ok : ∀ k, k < 0 → parseFieldDescriptor (TJxab1ab k).2.2.1 = some (tyJxab1ab k) := by decide +kernel
def RJ9 : String := "java/lang/Math"
def TJ9 : u_T := fun k => match k with
  | _ => ("", "", "", false)
def tyJ9 : Nat → FieldType := fun k => match k with
  | _ => .int
abbrev wsJ90 : List Cond := u_ws RJ9 TJ9 0
theorem nmJ9 : ∀ a, a < 0 → ∀ b, b < 0 → a ≠ b → (TJ9 a).2.1 ≠ (TJ9 b).2.1 := by decide +kernel
theorem tyJ9_ok : ∀ k, k < 0 → parseFieldDescriptor (TJ9 k).2.2.1 = some (tyJ9 k) := by decide +kernel
abbrev cJ9_max_7cf53 : ByteArray := prog_25_method_65_code
def yJ9_max_7cf53 : MethodName := ⟨RJ9, "max", "(II)I"⟩
abbrev cJ9_min_7cf53 : ByteArray := prog_25_method_69_code
def yJ9_min_7cf53 : MethodName := ⟨RJ9, "min", "(II)I"⟩
def RJ0 : String := "java/lang/String"
def TJ0 : u_T := fun k => match k with
  | _ => ("", "", "", false)
def tyJ0 : Nat → FieldType := fun k => match k with
  | _ => .int
abbrev wsJ00 : List Cond := u_ws RJ0 TJ0 0
theorem nmJ0 : ∀ a, a < 0 → ∀ b, b < 0 → a ≠ b → (TJ0 a).2.1 ≠ (TJ0 b).2.1 := by decide +kernel
theorem tyJ0_ok : ∀ k, k < 0 → parseFieldDescriptor (TJ0 k).2.2.1 = some (tyJ0 k) := by decide +kernel
def RJ10 : String := "java/lang/System"
def TJ10 : u_T := fun k => match k with
  | _ => ("", "", "", false)
def tyJ10 : Nat → FieldType := fun k => match k with
  | _ => .int
abbrev wsJ100 : List Cond := u_ws RJ10 TJ10 0
theorem nmJ10 : ∀ a, a < 0 → ∀ b, b < 0 → a ≠ b → (TJ10 a).2.1 ≠ (TJ10 b).2.1 := by decide +kernel
theorem tyJ10_ok : ∀ k, k < 0 → parseFieldDescriptor (TJ10 k).2.2.1 = some (tyJ10 k) := by decide +kernel
def RJxa1e45 : String := "java/util/AbstractCollection"
def TJxa1e45 : u_T := fun k => match k with
  | _ => ("", "", "", false)
def tyJxa1e45 : Nat → FieldType := fun k => match k with
  | _ => .int
abbrev wsJxa1e450 : List Cond := u_ws RJxa1e45 TJxa1e45 0
theorem nmJxa1e45 : ∀ a, a < 0 → ∀ b, b < 0 → a ≠ b → (TJxa1e45 a).2.1 ≠ (TJxa1e45 b).2.1 := by decide +kernel
theorem tyJxa1e45_ok : ∀ k, k < 0 → parseFieldDescriptor (TJxa1e45 k).2.2.1 = some (tyJxa1e45 k) := by decide +kernel
abbrev cJxa1e45_init_da8c8 : ByteArray := prog_30_method_1_code
def yJxa1e45_init_da8c8 : MethodName := ⟨RJxa1e45, "<init>", "()V"⟩
def RJxc12de : String := "java/util/AbstractList"
def TJxc12de : u_T := fun k => match k with
  | _ => ("", "", "", false)
def tyJxc12de : Nat → FieldType := fun k => match k with
  | _ => .int
abbrev wsJxc12de0 : List Cond := u_ws RJxc12de TJxc12de 0
theorem nmJxc12de : ∀ a, a < 0 → ∀ b, b < 0 → a ≠ b → (TJxc12de a).2.1 ≠ (TJxc12de b).2.1 := by decide +kernel
theorem tyJxc12de_ok : ∀ k, k < 0 → parseFieldDescriptor (TJxc12de k).2.2.1 = some (tyJxc12de k) := by decide +kernel
abbrev cJxc12de_init_da8c8 : ByteArray := prog_31_method_1_code
def yJxc12de_init_da8c8 : MethodName := ⟨RJxc12de, "<init>", "()V"⟩
def RJx4a65c : String := "java/util/ArrayList"
def TJx4a65c : u_T := fun k => match k with
  | 0 => ("java/util/AbstractList", "modCount", "I", false)
  | 1 => ("java/util/ArrayList", "elementData", "[Ljava/lang/Object;", false)
  | _ => ("java/util/ArrayList", "size", "I", false)
def tyJx4a65c : Nat → FieldType := fun k => match k with
  | 0 => .int
  | 1 => .array (.object "java/lang/Object")
  | _ => .int
abbrev wsJx4a65c0 : List Cond := u_ws RJx4a65c TJx4a65c 3
theorem nmJx4a65c : ∀ a, a < 3 → ∀ b, b < 3 → a ≠ b → (TJx4a65c a).2.1 ≠ (TJx4a65c b).2.1 := by decide +kernel
theorem tyJx4a65c_ok : ∀ k, k < 3 → parseFieldDescriptor (TJx4a65c k).2.2.1 = some (tyJx4a65c k) := by decide +kernel
abbrev cJx4a65c_init_da8c8 : ByteArray := prog_32_method_2_code
def yJx4a65c_init_da8c8 : MethodName := ⟨RJx4a65c, "<init>", "()V"⟩
abbrev cJx4a65c_grow_92f84 : ByteArray := prog_32_method_6_code
def yJx4a65c_grow_92f84 : MethodName := ⟨RJx4a65c, "grow", "(I)[Ljava/lang/Object;"⟩
abbrev cJx4a65c_grow_d5877 : ByteArray := prog_32_method_7_code
def yJx4a65c_grow_d5877 : MethodName := ⟨RJx4a65c, "grow", "()[Ljava/lang/Object;"⟩
abbrev cJx4a65c_size_8abf5 : ByteArray := prog_32_method_8_code
def yJx4a65c_size_8abf5 : MethodName := ⟨RJx4a65c, "size", "()I"⟩
abbrev cJx4a65c_elementData_915e3 : ByteArray := prog_32_method_18_code
def yJx4a65c_elementData_915e3 : MethodName := ⟨RJx4a65c, "elementData", "(I)Ljava/lang/Object;"⟩
abbrev cJx4a65c_get_915e3 : ByteArray := prog_32_method_20_code
def yJx4a65c_get_915e3 : MethodName := ⟨RJx4a65c, "get", "(I)Ljava/lang/Object;"⟩
abbrev cJx4a65c_add_72be8 : ByteArray := prog_32_method_24_code
def yJx4a65c_add_72be8 : MethodName := ⟨RJx4a65c, "add", "(Ljava/lang/Object;[Ljava/lang/Object;I)V"⟩
abbrev cJx4a65c_add_9ea2d : ByteArray := prog_32_method_25_code
def yJx4a65c_add_9ea2d : MethodName := ⟨RJx4a65c, "add", "(Ljava/lang/Object;)Z"⟩
def RJ7 : String := "java/util/Arrays"
def TJ7 : u_T := fun k => match k with
  | _ => ("", "", "", false)
def tyJ7 : Nat → FieldType := fun k => match k with
  | _ => .int
abbrev wsJ70 : List Cond := u_ws RJ7 TJ7 0
theorem nmJ7 : ∀ a, a < 0 → ∀ b, b < 0 → a ≠ b → (TJ7 a).2.1 ≠ (TJ7 b).2.1 := by decide +kernel
theorem tyJ7_ok : ∀ k, k < 0 → parseFieldDescriptor (TJ7 k).2.2.1 = some (tyJ7 k) := by decide +kernel
abbrev cJ7_fill_53178 : ByteArray := prog_33_method_103_code
def yJ7_fill_53178 : MethodName := ⟨RJ7, "fill", "([II)V"⟩
abbrev cJ7_copyOf_1904c : ByteArray := prog_33_method_119_code
def yJ7_copyOf_1904c : MethodName := ⟨RJ7, "copyOf", "([Ljava/lang/Object;I)[Ljava/lang/Object;"⟩
abbrev cJ7_copyOf_6403c : ByteArray := prog_33_method_120_code
def yJ7_copyOf_6403c : MethodName := ⟨RJ7, "copyOf", "([Ljava/lang/Object;ILjava/lang/Class;)[Ljava/lang/Object;"⟩
def RJx5ef63 : String := "java/util/Collection"
def TJx5ef63 : u_T := fun k => match k with
  | _ => ("", "", "", false)
def tyJx5ef63 : Nat → FieldType := fun k => match k with
  | _ => .int
abbrev wsJx5ef630 : List Cond := u_ws RJx5ef63 TJx5ef63 0
theorem nmJx5ef63 : ∀ a, a < 0 → ∀ b, b < 0 → a ≠ b → (TJx5ef63 a).2.1 ≠ (TJx5ef63 b).2.1 := by decide +kernel
theorem tyJx5ef63_ok : ∀ k, k < 0 → parseFieldDescriptor (TJx5ef63 k).2.2.1 = some (tyJx5ef63 k) := by decide +kernel
def RJxbd725 : String := "java/util/List"
def TJxbd725 : u_T := fun k => match k with
  | _ => ("", "", "", false)
def tyJxbd725 : Nat → FieldType := fun k => match k with
  | _ => .int
abbrev wsJxbd7250 : List Cond := u_ws RJxbd725 TJxbd725 0
theorem nmJxbd725 : ∀ a, a < 0 → ∀ b, b < 0 → a ≠ b → (TJxbd725 a).2.1 ≠ (TJxbd725 b).2.1 := by decide +kernel
theorem tyJxbd725_ok : ∀ k, k < 0 → parseFieldDescriptor (TJxbd725 k).2.2.1 = some (tyJxbd725 k) := by decide +kernel
def RJ15 : String := "java/util/Objects"
def TJ15 : u_T := fun k => match k with
  | _ => ("", "", "", false)
def tyJ15 : Nat → FieldType := fun k => match k with
  | _ => .int
abbrev wsJ150 : List Cond := u_ws RJ15 TJ15 0
theorem nmJ15 : ∀ a, a < 0 → ∀ b, b < 0 → a ≠ b → (TJ15 a).2.1 ≠ (TJ15 b).2.1 := by decide +kernel
theorem tyJ15_ok : ∀ k, k < 0 → parseFieldDescriptor (TJ15 k).2.2.1 = some (tyJ15 k) := by decide +kernel
abbrev cJ15_checkIndex_7cf53 : ByteArray := prog_36_method_17_code
def yJ15_checkIndex_7cf53 : MethodName := ⟨RJ15, "checkIndex", "(II)I"⟩
def RJxf0a74 : String := "java/util/RandomAccess"
def TJxf0a74 : u_T := fun k => match k with
  | _ => ("", "", "", false)
def tyJxf0a74 : Nat → FieldType := fun k => match k with
  | _ => .int
abbrev wsJxf0a740 : List Cond := u_ws RJxf0a74 TJxf0a74 0
theorem nmJxf0a74 : ∀ a, a < 0 → ∀ b, b < 0 → a ≠ b → (TJxf0a74 a).2.1 ≠ (TJxf0a74 b).2.1 := by decide +kernel
theorem tyJxf0a74_ok : ∀ k, k < 0 → parseFieldDescriptor (TJxf0a74 k).2.2.1 = some (tyJxf0a74 k) := by decide +kernel
def RJxa66e6 : String := "java/util/SequencedCollection"
def TJxa66e6 : u_T := fun k => match k with
  | _ => ("", "", "", false)
def tyJxa66e6 : Nat → FieldType := fun k => match k with
  | _ => .int
abbrev wsJxa66e60 : List Cond := u_ws RJxa66e6 TJxa66e6 0
theorem nmJxa66e6 : ∀ a, a < 0 → ∀ b, b < 0 → a ≠ b → (TJxa66e6 a).2.1 ≠ (TJxa66e6 b).2.1 := by decide +kernel
theorem tyJxa66e6_ok : ∀ k, k < 0 → parseFieldDescriptor (TJxa66e6 k).2.2.1 = some (tyJxa66e6 k) := by decide +kernel
def RJ8 : String := "jdk/internal/util/ArraysSupport"
def TJ8 : u_T := fun k => match k with
  | _ => ("", "", "", false)
def tyJ8 : Nat → FieldType := fun k => match k with
  | _ => .int
abbrev wsJ80 : List Cond := u_ws RJ8 TJ8 0
theorem nmJ8 : ∀ a, a < 0 → ∀ b, b < 0 → a ≠ b → (TJ8 a).2.1 ≠ (TJ8 b).2.1 := by decide +kernel
theorem tyJ8_ok : ∀ k, k < 0 → parseFieldDescriptor (TJ8 k).2.2.1 = some (tyJ8 k) := by decide +kernel
abbrev cJ8_newLength_cabcc : ByteArray := prog_39_method_27_code
def yJ8_newLength_cabcc : MethodName := ⟨RJ8, "newLength", "(III)I"⟩
abbrev cJ8_hugeLength_7cf53 : ByteArray := prog_39_method_28_code
def yJ8_hugeLength_7cf53 : MethodName := ⟨RJ8, "hugeLength", "(II)I"⟩
def RJ3 : String := "jdk/internal/util/Preconditions"
def TJ3 : u_T := fun k => match k with
  | _ => ("", "", "", false)
def tyJ3 : Nat → FieldType := fun k => match k with
  | _ => .int
abbrev wsJ30 : List Cond := u_ws RJ3 TJ3 0
theorem nmJ3 : ∀ a, a < 0 → ∀ b, b < 0 → a ≠ b → (TJ3 a).2.1 ≠ (TJ3 b).2.1 := by decide +kernel
theorem tyJ3_ok : ∀ k, k < 0 → parseFieldDescriptor (TJ3 k).2.2.1 = some (tyJ3 k) := by decide +kernel
abbrev cJ3_checkIndex_8e157 : ByteArray := prog_40_method_11_code
def yJ3_checkIndex_8e157 : MethodName := ⟨RJ3, "checkIndex", "(IILjava/util/function/BiFunction;)I"⟩
def RL : String := "MeridianSeriesLaw"
abbrev cL_below : ByteArray := method_2_code
def yL_below : MethodName := ⟨RL, "below", "(II)I"⟩
abbrev cL_cell : ByteArray := method_3_code
def yL_cell : MethodName := ⟨RL, "cell", "([II)I"⟩
abbrev cL_isSound : ByteArray := method_4_code
def yL_isSound : MethodName := ⟨RL, "isSound", "(LMeridianSeries;I)Z"⟩
abbrev cL_law : ByteArray := code
def yL_law : MethodName := ⟨RL, "law", "([I)Z"⟩
def wsX2_init : List Cond := .code yX2_init cX2_init 1 none :: ([.methodLink RX2 1 objectInit, .instanceMethod objectInit, .code objectInit ⟨#[0xb1]⟩ 1 none, .fieldLink RX2 7 "MeridianSeries$Items" "amount" "I"] ++ wsX00 ++ wsX40)
def wsX0_init : List Cond := .code yX0_init cX0_init 1 none :: ([.arrayClass .int, .fieldLink RX0 11 "MeridianSeries$Buckets" "cells" "[I", .instanceMethod yX2_init, .initialized RX2, .code yX2_init cX2_init 1 none, .methodLink RX2 1 objectInit, .instanceMethod objectInit, .code objectInit ⟨#[0xb1]⟩ 1 none, .fieldLink RX2 7 "MeridianSeries$Items" "amount" "I"] ++ wsX00 ++ wsX40)
def wsX0_number : List Cond := .code yX0_number cX0_number 4 (some .int) :: ([.fieldLink RX0 11 "MeridianSeries$Buckets" "cells" "[I"] ++ wsX00)
def wsX0_isFull : List Cond := .code yX0_isFull cX0_isFull 1 (some .boolean) :: ([.fieldLink RX0 15 "MeridianSeries$Buckets" "amount" "I", .sameField "MeridianSeries$Buckets" "MeridianSeries$Items" "amount" "I"] ++ wsX00 ++ wsX40)
def wsX4_number : List Cond := .code yX4_number cX4_number 3 (some .int) :: ([.fieldLink RX4 11 "MeridianSeries$Points" "times" "[I", .fieldLink RX4 15 "MeridianSeries$Points" "values" "[I"] ++ wsX40)
def wsX0_write : List Cond := .code yX0_write cX0_write 5 none :: ([.fieldLink RX0 11 "MeridianSeries$Buckets" "cells" "[I"] ++ wsX00)
def wsX0_take_r1 : List Cond := [Cond.fieldLink RX0 15 "MeridianSeries$Buckets" "amount" "I", Cond.sameField "MeridianSeries$Buckets" "MeridianSeries$Items" "amount" "I", Cond.methodLink RX0 28 Lib.Math.min.name, Cond.static Lib.Math.min.name, Cond.initialized "java/lang/Math", Cond.code Lib.Math.min.name Lib.Math.min.code 2 (some .int), Cond.methodLink RX0 33 Lib.Math.max.name, Cond.static Lib.Math.max.name, Cond.code Lib.Math.max.name Lib.Math.max.code 2 (some .int), Cond.methodLink RX0 19 yX0_number, Cond.instanceMethod yX0_number, Cond.selects RX0 yX0_number yX0_number, Cond.initialized RX0, Cond.code yX0_number cX0_number 4 (some .int), Cond.fieldLink RX0 11 "MeridianSeries$Buckets" "cells" "[I", Cond.methodLink RX0 23 ⟨"MeridianSeries$Items", "number", "(II)I"⟩, Cond.sameMethod "MeridianSeries$Items" "MeridianSeries$Items" "number" "(II)I", Cond.selects RX0 ⟨"MeridianSeries$Items", "number", "(II)I"⟩ yX0_number, Cond.selects RX4 ⟨"MeridianSeries$Items", "number", "(II)I"⟩ yX4_number, Cond.instanceMethod yX4_number, Cond.initialized RX4, Cond.code yX4_number cX4_number 3 (some .int), Cond.fieldLink RX4 11 "MeridianSeries$Points" "times" "[I", Cond.fieldLink RX4 15 "MeridianSeries$Points" "values" "[I"]
def wsX0_take_r2 : List Cond := [Cond.methodLink RX0 24 yX0_write, Cond.instanceMethod yX0_write, Cond.selects RX0 yX0_write yX0_write, Cond.code yX0_write cX0_write 5 none]
def wsX0_take : List Cond := .code yX0_take cX0_take 6 none :: ((wsX0_take_r1 ++ wsX0_take_r2) ++ wsX00 ++ wsX40)
def wsX0_dropFirst : List Cond := .code yX0_dropFirst cX0_dropFirst 2 none :: ([.fieldLink RX0 15 "MeridianSeries$Buckets" "amount" "I", .sameField "MeridianSeries$Buckets" "MeridianSeries$Items" "amount" "I", .fieldLink RX0 11 "MeridianSeries$Buckets" "cells" "[I"] ++ wsX00 ++ wsX40)
def wsX0_copyFrom : List Cond := .code yX0_copyFrom cX0_copyFrom 4 none :: ([.fieldLink RX0 15 "MeridianSeries$Buckets" "amount" "I", .sameField "MeridianSeries$Buckets" "MeridianSeries$Items" "amount" "I", .methodLink RX0 19 yX0_number, .instanceMethod yX0_number, .selects RX0 yX0_number yX0_number, .initialized RX0, .code yX0_number cX0_number 4 (some .int), .fieldLink RX0 11 "MeridianSeries$Buckets" "cells" "[I", .methodLink RX0 24 yX0_write, .instanceMethod yX0_write, .selects RX0 yX0_write yX0_write, .code yX0_write cX0_write 5 none] ++ wsX00 ++ wsX40)
def wsX1_init : List Cond := .code yX1_init cX1_init 1 none :: ([.methodLink RX1 3 objectInit, .instanceMethod objectInit, .code objectInit ⟨#[0xb1]⟩ 1 none, .arrayClass .int, .fieldLink RX1 9 "MeridianSeries$EventLog" "cells" "[I", .fieldLink RX1 15 "MeridianSeries$EventLog" "total" "I", .fieldLink RX1 19 "MeridianSeries$EventLog" "firings" "I"] ++ wsX10)
def wsX1_add : List Cond := .code yX1_add cX1_add 5 none :: ([.fieldLink RX1 15 "MeridianSeries$EventLog" "total" "I", .fieldLink RX1 9 "MeridianSeries$EventLog" "cells" "[I", .fieldLink RX1 19 "MeridianSeries$EventLog" "firings" "I"] ++ wsX10)
def wsX1_number : List Cond := .code yX1_number cX1_number 4 (some .int) :: ([.fieldLink RX1 15 "MeridianSeries$EventLog" "total" "I", .fieldLink RX1 9 "MeridianSeries$EventLog" "cells" "[I"] ++ wsX10)
def wsX3_init : List Cond := .code yX3_init cX3_init 1 none :: ([.methodLink RX3 3 objectInit, .instanceMethod objectInit, .code objectInit ⟨#[0xb1]⟩ 1 none, .arrayClass .int, .fieldLink RX3 11 "MeridianSeries$Packer" "words" "[I", .fieldLink RX3 15 "MeridianSeries$Packer" "length" "I", .fieldLink RX3 19 "MeridianSeries$Packer" "packed" "I", .fieldLink RX3 22 "MeridianSeries$Packer" "lastTime" "I", .fieldLink RX3 25 "MeridianSeries$Packer" "lastStep" "I", .fieldLink RX3 28 "MeridianSeries$Packer" "lastValue" "I"] ++ wsX30)
def wsX4_openSize : List Cond := .code yX4_openSize cX4_openSize 1 (some .int) :: ([.fieldLink RX4 31 "MeridianSeries$Points" "amount" "I", .sameField "MeridianSeries$Points" "MeridianSeries$Items" "amount" "I", .fieldLink RX4 25 "MeridianSeries$Points" "sealedPoints" "I"] ++ wsX00 ++ wsX40)
def wsX4_sizeOf : List Cond := .code yX4_sizeOf cX4_sizeOf 2 (some .int) :: ([.fieldLink RX4 21 "MeridianSeries$Points" "sealedBlocks" "I", .fieldLink RX4 18 "MeridianSeries$Points" "sizes" "[I", .methodLink RX4 34 yX4_openSize, .instanceMethod yX4_openSize, .selects RX4 yX4_openSize yX4_openSize, .initialized RX4, .code yX4_openSize cX4_openSize 1 (some .int), .fieldLink RX4 31 "MeridianSeries$Points" "amount" "I", .sameField "MeridianSeries$Points" "MeridianSeries$Items" "amount" "I", .fieldLink RX4 25 "MeridianSeries$Points" "sealedPoints" "I"] ++ wsX40 ++ wsX00)
def wsX4_startOf : List Cond := .code yX4_startOf cX4_startOf 4 (some .int) :: ([.fieldLink RX4 21 "MeridianSeries$Points" "sealedBlocks" "I", .methodLink RX4 38 yX4_sizeOf, .instanceMethod yX4_sizeOf, .selects RX4 yX4_sizeOf yX4_sizeOf, .initialized RX4, .code yX4_sizeOf cX4_sizeOf 2 (some .int), .fieldLink RX4 18 "MeridianSeries$Points" "sizes" "[I", .methodLink RX4 34 yX4_openSize, .instanceMethod yX4_openSize, .selects RX4 yX4_openSize yX4_openSize, .code yX4_openSize cX4_openSize 1 (some .int), .fieldLink RX4 31 "MeridianSeries$Points" "amount" "I", .sameField "MeridianSeries$Points" "MeridianSeries$Items" "amount" "I", .fieldLink RX4 25 "MeridianSeries$Points" "sealedPoints" "I"] ++ wsX40 ++ wsX00)
def wsJ7_fill_53178 : List Cond := .code yJ7_fill_53178 cJ7_fill_53178 4 none :: ([])
def wsX3_write : List Cond := .code yX3_write cX3_write 5 none :: ([.fieldLink RX3 15 "MeridianSeries$Packer" "length" "I", .fieldLink RX3 11 "MeridianSeries$Packer" "words" "[I"] ++ wsX30)
def wsX3_begin : List Cond := .code yX3_begin cX3_begin 2 none :: ([.fieldLink RX3 11 "MeridianSeries$Packer" "words" "[I", .fieldLink RX3 15 "MeridianSeries$Packer" "length" "I", .fieldLink RX3 19 "MeridianSeries$Packer" "packed" "I", .methodLink RX3 72 yJ7_fill_53178, .static yJ7_fill_53178, .initialized RJ7, .code yJ7_fill_53178 cJ7_fill_53178 4 none, .methodLink RX3 78 yX3_write, .instanceMethod yX3_write, .selects RX3 yX3_write yX3_write, .initialized RX3, .code yX3_write cX3_write 5 none] ++ wsX30)
def wsX9_isIn : List Cond := .code yX9_isIn cX9_isIn 4 (some .boolean) :: ([])
def wsX3_addTime : List Cond := .code yX3_addTime cX3_addTime 2 none :: ([.constant RX3 81 (1048576), .methodLink RX3 78 yX3_write, .instanceMethod yX3_write, .selects RX3 yX3_write yX3_write, .initialized RX3, .code yX3_write cX3_write 5 none, .fieldLink RX3 15 "MeridianSeries$Packer" "length" "I", .fieldLink RX3 11 "MeridianSeries$Packer" "words" "[I", .static yX9_isIn, .initialized RX9, .code yX9_isIn cX9_isIn 4 (some .boolean)] ++ wsX30)
def wsX3_addValue : List Cond := .code yX3_addValue cX3_addValue 2 none :: ([.constant RX3 92 (262144), .methodLink RX3 78 yX3_write, .instanceMethod yX3_write, .selects RX3 yX3_write yX3_write, .initialized RX3, .code yX3_write cX3_write 5 none, .fieldLink RX3 15 "MeridianSeries$Packer" "length" "I", .fieldLink RX3 11 "MeridianSeries$Packer" "words" "[I", .static yX9_isIn, .initialized RX9, .code yX9_isIn cX9_isIn 4 (some .boolean)] ++ wsX30)
def wsX3_add : List Cond := .code yX3_add cX3_add 4 none :: ([.fieldLink RX3 19 "MeridianSeries$Packer" "packed" "I", .constant RX3 81 (1048576), .fieldLink RX3 25 "MeridianSeries$Packer" "lastStep" "I", .fieldLink RX3 22 "MeridianSeries$Packer" "lastTime" "I", .fieldLink RX3 28 "MeridianSeries$Packer" "lastValue" "I", .methodLink RX3 78 yX3_write, .instanceMethod yX3_write, .selects RX3 yX3_write yX3_write, .initialized RX3, .code yX3_write cX3_write 5 none, .fieldLink RX3 15 "MeridianSeries$Packer" "length" "I", .fieldLink RX3 11 "MeridianSeries$Packer" "words" "[I", .methodLink RX3 82 yX3_addTime, .instanceMethod yX3_addTime, .selects RX3 yX3_addTime yX3_addTime, .code yX3_addTime cX3_addTime 2 none, .static yX9_isIn, .initialized RX9, .code yX9_isIn cX9_isIn 4 (some .boolean), .methodLink RX3 85 yX3_addValue, .instanceMethod yX3_addValue, .selects RX3 yX3_addValue yX3_addValue, .code yX3_addValue cX3_addValue 2 none, .constant RX3 92 (262144)] ++ wsX30)
def wsX3_pack_r1 : List Cond := [Cond.fieldLink RX3 31 "MeridianSeries$Points" "sealedBlocks" "I", Cond.fieldLink RX3 15 "MeridianSeries$Packer" "length" "I", Cond.methodLink RX3 36 yX4_startOf, Cond.instanceMethod yX4_startOf, Cond.selects RX4 yX4_startOf yX4_startOf, Cond.initialized RX4, Cond.code yX4_startOf cX4_startOf 4 (some .int), Cond.fieldLink RX4 21 "MeridianSeries$Points" "sealedBlocks" "I", Cond.methodLink RX4 38 yX4_sizeOf, Cond.instanceMethod yX4_sizeOf, Cond.selects RX4 yX4_sizeOf yX4_sizeOf, Cond.code yX4_sizeOf cX4_sizeOf 2 (some .int), Cond.fieldLink RX4 18 "MeridianSeries$Points" "sizes" "[I", Cond.methodLink RX4 34 yX4_openSize, Cond.instanceMethod yX4_openSize, Cond.selects RX4 yX4_openSize yX4_openSize, Cond.code yX4_openSize cX4_openSize 1 (some .int), Cond.fieldLink RX4 31 "MeridianSeries$Points" "amount" "I", Cond.sameField "MeridianSeries$Points" "MeridianSeries$Items" "amount" "I", Cond.fieldLink RX4 25 "MeridianSeries$Points" "sealedPoints" "I", Cond.methodLink RX3 40 yX4_sizeOf, Cond.methodLink RX3 43 yX3_begin, Cond.instanceMethod yX3_begin, Cond.selects RX3 yX3_begin yX3_begin]
def wsX3_pack_r2 : List Cond := [Cond.initialized RX3, Cond.code yX3_begin cX3_begin 2 none, Cond.fieldLink RX3 11 "MeridianSeries$Packer" "words" "[I", Cond.fieldLink RX3 19 "MeridianSeries$Packer" "packed" "I", Cond.methodLink RX3 72 yJ7_fill_53178, Cond.static yJ7_fill_53178, Cond.initialized RJ7, Cond.code yJ7_fill_53178 cJ7_fill_53178 4 none, Cond.methodLink RX3 78 yX3_write, Cond.instanceMethod yX3_write, Cond.selects RX3 yX3_write yX3_write, Cond.code yX3_write cX3_write 5 none, Cond.methodLink RX3 47 yX4_number, Cond.instanceMethod yX4_number, Cond.selects RX4 yX4_number yX4_number, Cond.code yX4_number cX4_number 3 (some .int), Cond.fieldLink RX4 11 "MeridianSeries$Points" "times" "[I", Cond.fieldLink RX4 15 "MeridianSeries$Points" "values" "[I", Cond.methodLink RX3 51 yX3_add, Cond.instanceMethod yX3_add, Cond.selects RX3 yX3_add yX3_add, Cond.code yX3_add cX3_add 4 none, Cond.constant RX3 81 (1048576), Cond.fieldLink RX3 25 "MeridianSeries$Packer" "lastStep" "I"]
def wsX3_pack_r3 : List Cond := [Cond.fieldLink RX3 22 "MeridianSeries$Packer" "lastTime" "I", Cond.fieldLink RX3 28 "MeridianSeries$Packer" "lastValue" "I", Cond.methodLink RX3 82 yX3_addTime, Cond.instanceMethod yX3_addTime, Cond.selects RX3 yX3_addTime yX3_addTime, Cond.code yX3_addTime cX3_addTime 2 none, Cond.static yX9_isIn, Cond.initialized RX9, Cond.code yX9_isIn cX9_isIn 4 (some .boolean), Cond.methodLink RX3 85 yX3_addValue, Cond.instanceMethod yX3_addValue, Cond.selects RX3 yX3_addValue yX3_addValue, Cond.code yX3_addValue cX3_addValue 2 none, Cond.constant RX3 92 (262144)]
def wsX3_pack : List Cond := .code yX3_pack cX3_pack 6 (some .int) :: ((wsX3_pack_r1 ++ (wsX3_pack_r2 ++ wsX3_pack_r3)) ++ wsX40 ++ wsX30 ++ wsX00)
def wsX4_placeOf : List Cond := .code yX4_placeOf cX4_placeOf 3 (some .int) :: ([.fieldLink RX4 25 "MeridianSeries$Points" "sealedPoints" "I", .fieldLink RX4 31 "MeridianSeries$Points" "amount" "I", .sameField "MeridianSeries$Points" "MeridianSeries$Items" "amount" "I", .methodLink RX4 42 yX4_number, .instanceMethod yX4_number, .selects RX4 yX4_number yX4_number, .initialized RX4, .code yX4_number cX4_number 3 (some .int), .fieldLink RX4 11 "MeridianSeries$Points" "times" "[I", .fieldLink RX4 15 "MeridianSeries$Points" "values" "[I"] ++ wsX40 ++ wsX00)
def wsX4_isTakenAt : List Cond := .code yX4_isTakenAt cX4_isTakenAt 3 (some .boolean) :: ([.fieldLink RX4 31 "MeridianSeries$Points" "amount" "I", .sameField "MeridianSeries$Points" "MeridianSeries$Items" "amount" "I", .methodLink RX4 42 yX4_number, .instanceMethod yX4_number, .selects RX4 yX4_number yX4_number, .initialized RX4, .code yX4_number cX4_number 3 (some .int), .fieldLink RX4 11 "MeridianSeries$Points" "times" "[I", .fieldLink RX4 15 "MeridianSeries$Points" "values" "[I"] ++ wsX00 ++ wsX40)
def wsX3_packOpenWith_r1 : List Cond := [Cond.fieldLink RX3 66 "MeridianSeries$Points" "sealedPoints" "I", Cond.fieldLink RX3 69 "MeridianSeries$Points" "amount" "I", Cond.sameField "MeridianSeries$Points" "MeridianSeries$Items" "amount" "I", Cond.fieldLink RX3 15 "MeridianSeries$Packer" "length" "I", Cond.methodLink RX3 55 yX4_placeOf, Cond.instanceMethod yX4_placeOf, Cond.selects RX4 yX4_placeOf yX4_placeOf, Cond.initialized RX4, Cond.code yX4_placeOf cX4_placeOf 3 (some .int), Cond.fieldLink RX4 25 "MeridianSeries$Points" "sealedPoints" "I", Cond.fieldLink RX4 31 "MeridianSeries$Points" "amount" "I", Cond.methodLink RX4 42 yX4_number, Cond.instanceMethod yX4_number, Cond.selects RX4 yX4_number yX4_number, Cond.code yX4_number cX4_number 3 (some .int), Cond.fieldLink RX4 11 "MeridianSeries$Points" "times" "[I", Cond.fieldLink RX4 15 "MeridianSeries$Points" "values" "[I", Cond.methodLink RX3 58 yX4_isTakenAt, Cond.instanceMethod yX4_isTakenAt, Cond.selects RX4 yX4_isTakenAt yX4_isTakenAt, Cond.code yX4_isTakenAt cX4_isTakenAt 3 (some .boolean), Cond.methodLink RX3 62 yX4_openSize, Cond.instanceMethod yX4_openSize, Cond.selects RX4 yX4_openSize yX4_openSize]
def wsX3_packOpenWith_r2 : List Cond := [Cond.code yX4_openSize cX4_openSize 1 (some .int), Cond.methodLink RX3 43 yX3_begin, Cond.instanceMethod yX3_begin, Cond.selects RX3 yX3_begin yX3_begin, Cond.initialized RX3, Cond.code yX3_begin cX3_begin 2 none, Cond.fieldLink RX3 11 "MeridianSeries$Packer" "words" "[I", Cond.fieldLink RX3 19 "MeridianSeries$Packer" "packed" "I", Cond.methodLink RX3 72 yJ7_fill_53178, Cond.static yJ7_fill_53178, Cond.initialized RJ7, Cond.code yJ7_fill_53178 cJ7_fill_53178 4 none, Cond.methodLink RX3 78 yX3_write, Cond.instanceMethod yX3_write, Cond.selects RX3 yX3_write yX3_write, Cond.code yX3_write cX3_write 5 none, Cond.methodLink RX3 47 yX4_number, Cond.methodLink RX3 51 yX3_add, Cond.instanceMethod yX3_add, Cond.selects RX3 yX3_add yX3_add, Cond.code yX3_add cX3_add 4 none, Cond.constant RX3 81 (1048576), Cond.fieldLink RX3 25 "MeridianSeries$Packer" "lastStep" "I", Cond.fieldLink RX3 22 "MeridianSeries$Packer" "lastTime" "I"]
def wsX3_packOpenWith_r3 : List Cond := [Cond.fieldLink RX3 28 "MeridianSeries$Packer" "lastValue" "I", Cond.methodLink RX3 82 yX3_addTime, Cond.instanceMethod yX3_addTime, Cond.selects RX3 yX3_addTime yX3_addTime, Cond.code yX3_addTime cX3_addTime 2 none, Cond.static yX9_isIn, Cond.initialized RX9, Cond.code yX9_isIn cX9_isIn 4 (some .boolean), Cond.methodLink RX3 85 yX3_addValue, Cond.instanceMethod yX3_addValue, Cond.selects RX3 yX3_addValue yX3_addValue, Cond.code yX3_addValue cX3_addValue 2 none, Cond.constant RX3 92 (262144)]
def wsX3_packOpenWith : List Cond := .code yX3_packOpenWith cX3_packOpenWith 7 (some .int) :: ((wsX3_packOpenWith_r1 ++ (wsX3_packOpenWith_r2 ++ wsX3_packOpenWith_r3)) ++ wsX40 ++ wsX00 ++ wsX30)
def wsX4_init : List Cond := .code yX4_init cX4_init 1 none :: ([.arrayClass .int, .fieldLink RX4 11 "MeridianSeries$Points" "times" "[I", .fieldLink RX4 15 "MeridianSeries$Points" "values" "[I", .fieldLink RX4 18 "MeridianSeries$Points" "sizes" "[I", .fieldLink RX4 21 "MeridianSeries$Points" "sealedBlocks" "I", .fieldLink RX4 25 "MeridianSeries$Points" "sealedPoints" "I", .fieldLink RX4 28 "MeridianSeries$Points" "greatestSealedTime" "I", .instanceMethod yX2_init, .initialized RX2, .code yX2_init cX2_init 1 none, .methodLink RX2 1 objectInit, .instanceMethod objectInit, .code objectInit ⟨#[0xb1]⟩ 1 none, .fieldLink RX2 7 "MeridianSeries$Items" "amount" "I"] ++ wsX40 ++ wsX00)
def wsX4_blockCount : List Cond := .code yX4_blockCount cX4_blockCount 1 (some .int) :: ([.fieldLink RX4 21 "MeridianSeries$Points" "sealedBlocks" "I"] ++ wsX40)
def wsX4_isLate : List Cond := .code yX4_isLate cX4_isLate 2 (some .boolean) :: ([.fieldLink RX4 28 "MeridianSeries$Points" "greatestSealedTime" "I"] ++ wsX40)
def wsX4_write : List Cond := .code yX4_write cX4_write 4 none :: ([.fieldLink RX4 11 "MeridianSeries$Points" "times" "[I", .fieldLink RX4 15 "MeridianSeries$Points" "values" "[I"] ++ wsX40)
def wsX4_copyPoint : List Cond := .code yX4_copyPoint cX4_copyPoint 3 none :: ([.methodLink RX4 42 yX4_number, .instanceMethod yX4_number, .selects RX4 yX4_number yX4_number, .initialized RX4, .code yX4_number cX4_number 3 (some .int), .fieldLink RX4 11 "MeridianSeries$Points" "times" "[I", .fieldLink RX4 15 "MeridianSeries$Points" "values" "[I", .methodLink RX4 57 yX4_write, .instanceMethod yX4_write, .selects RX4 yX4_write yX4_write, .code yX4_write cX4_write 4 none] ++ wsX40)
def wsX4_add_r1 : List Cond := [Cond.fieldLink RX4 31 "MeridianSeries$Points" "amount" "I", Cond.sameField "MeridianSeries$Points" "MeridianSeries$Items" "amount" "I", Cond.methodLink RX4 46 yX4_placeOf, Cond.instanceMethod yX4_placeOf, Cond.selects RX4 yX4_placeOf yX4_placeOf, Cond.initialized RX4, Cond.code yX4_placeOf cX4_placeOf 3 (some .int), Cond.fieldLink RX4 25 "MeridianSeries$Points" "sealedPoints" "I", Cond.methodLink RX4 42 yX4_number, Cond.instanceMethod yX4_number, Cond.selects RX4 yX4_number yX4_number, Cond.code yX4_number cX4_number 3 (some .int), Cond.fieldLink RX4 11 "MeridianSeries$Points" "times" "[I", Cond.fieldLink RX4 15 "MeridianSeries$Points" "values" "[I", Cond.methodLink RX4 49 yX4_isTakenAt, Cond.instanceMethod yX4_isTakenAt, Cond.selects RX4 yX4_isTakenAt yX4_isTakenAt, Cond.code yX4_isTakenAt cX4_isTakenAt 3 (some .boolean), Cond.methodLink RX4 53 yX4_copyPoint, Cond.instanceMethod yX4_copyPoint, Cond.selects RX4 yX4_copyPoint yX4_copyPoint, Cond.code yX4_copyPoint cX4_copyPoint 3 none, Cond.methodLink RX4 57 yX4_write, Cond.instanceMethod yX4_write]
def wsX4_add_r2 : List Cond := [Cond.selects RX4 yX4_write yX4_write, Cond.code yX4_write cX4_write 4 none]
def wsX4_add : List Cond := .code yX4_add cX4_add 5 none :: ((wsX4_add_r1 ++ wsX4_add_r2) ++ wsX00 ++ wsX40)
def wsX4_hasTooManySealed : List Cond := .code yX4_hasTooManySealed cX4_hasTooManySealed 1 (some .boolean) :: ([.fieldLink RX4 21 "MeridianSeries$Points" "sealedBlocks" "I"] ++ wsX40)
def wsX4_seal : List Cond := .code yX4_seal cX4_seal 1 none :: ([.fieldLink RX4 21 "MeridianSeries$Points" "sealedBlocks" "I", .fieldLink RX4 18 "MeridianSeries$Points" "sizes" "[I", .fieldLink RX4 31 "MeridianSeries$Points" "amount" "I", .sameField "MeridianSeries$Points" "MeridianSeries$Items" "amount" "I", .fieldLink RX4 25 "MeridianSeries$Points" "sealedPoints" "I", .fieldLink RX4 28 "MeridianSeries$Points" "greatestSealedTime" "I", .methodLink RX4 34 yX4_openSize, .instanceMethod yX4_openSize, .selects RX4 yX4_openSize yX4_openSize, .initialized RX4, .code yX4_openSize cX4_openSize 1 (some .int), .methodLink RX4 42 yX4_number, .instanceMethod yX4_number, .selects RX4 yX4_number yX4_number, .code yX4_number cX4_number 3 (some .int), .fieldLink RX4 11 "MeridianSeries$Points" "times" "[I", .fieldLink RX4 15 "MeridianSeries$Points" "values" "[I"] ++ wsX40 ++ wsX00)
def wsX4_dropFirstBlock_r1 : List Cond := [Cond.fieldLink RX4 21 "MeridianSeries$Points" "sealedBlocks" "I", Cond.fieldLink RX4 31 "MeridianSeries$Points" "amount" "I", Cond.sameField "MeridianSeries$Points" "MeridianSeries$Items" "amount" "I", Cond.fieldLink RX4 18 "MeridianSeries$Points" "sizes" "[I", Cond.fieldLink RX4 25 "MeridianSeries$Points" "sealedPoints" "I", Cond.methodLink RX4 38 yX4_sizeOf, Cond.instanceMethod yX4_sizeOf, Cond.selects RX4 yX4_sizeOf yX4_sizeOf, Cond.initialized RX4, Cond.code yX4_sizeOf cX4_sizeOf 2 (some .int), Cond.methodLink RX4 34 yX4_openSize, Cond.instanceMethod yX4_openSize, Cond.selects RX4 yX4_openSize yX4_openSize, Cond.code yX4_openSize cX4_openSize 1 (some .int), Cond.methodLink RX4 53 yX4_copyPoint, Cond.instanceMethod yX4_copyPoint, Cond.selects RX4 yX4_copyPoint yX4_copyPoint, Cond.code yX4_copyPoint cX4_copyPoint 3 none, Cond.methodLink RX4 42 yX4_number, Cond.instanceMethod yX4_number, Cond.selects RX4 yX4_number yX4_number, Cond.code yX4_number cX4_number 3 (some .int), Cond.fieldLink RX4 11 "MeridianSeries$Points" "times" "[I", Cond.fieldLink RX4 15 "MeridianSeries$Points" "values" "[I"]
def wsX4_dropFirstBlock_r2 : List Cond := [Cond.methodLink RX4 57 yX4_write, Cond.instanceMethod yX4_write, Cond.selects RX4 yX4_write yX4_write, Cond.code yX4_write cX4_write 4 none]
def wsX4_dropFirstBlock : List Cond := .code yX4_dropFirstBlock cX4_dropFirstBlock 3 none :: ((wsX4_dropFirstBlock_r1 ++ wsX4_dropFirstBlock_r2) ++ wsX40 ++ wsX00)
def wsX4_blocksBelow : List Cond := .code yX4_blocksBelow cX4_blocksBelow 4 (some .int) :: ([.fieldLink RX4 21 "MeridianSeries$Points" "sealedBlocks" "I", .methodLink RX4 38 yX4_sizeOf, .instanceMethod yX4_sizeOf, .selects RX4 yX4_sizeOf yX4_sizeOf, .initialized RX4, .code yX4_sizeOf cX4_sizeOf 2 (some .int), .fieldLink RX4 18 "MeridianSeries$Points" "sizes" "[I", .methodLink RX4 34 yX4_openSize, .instanceMethod yX4_openSize, .selects RX4 yX4_openSize yX4_openSize, .code yX4_openSize cX4_openSize 1 (some .int), .fieldLink RX4 31 "MeridianSeries$Points" "amount" "I", .sameField "MeridianSeries$Points" "MeridianSeries$Items" "amount" "I", .fieldLink RX4 25 "MeridianSeries$Points" "sealedPoints" "I", .methodLink RX4 42 yX4_number, .instanceMethod yX4_number, .selects RX4 yX4_number yX4_number, .code yX4_number cX4_number 3 (some .int), .fieldLink RX4 11 "MeridianSeries$Points" "times" "[I", .fieldLink RX4 15 "MeridianSeries$Points" "values" "[I"] ++ wsX40 ++ wsX00)
def wsX4_copyFrom_r1 : List Cond := [Cond.fieldLink RX4 31 "MeridianSeries$Points" "amount" "I", Cond.sameField "MeridianSeries$Points" "MeridianSeries$Items" "amount" "I", Cond.fieldLink RX4 21 "MeridianSeries$Points" "sealedBlocks" "I", Cond.fieldLink RX4 18 "MeridianSeries$Points" "sizes" "[I", Cond.fieldLink RX4 25 "MeridianSeries$Points" "sealedPoints" "I", Cond.fieldLink RX4 28 "MeridianSeries$Points" "greatestSealedTime" "I", Cond.methodLink RX4 42 yX4_number, Cond.instanceMethod yX4_number, Cond.selects RX4 yX4_number yX4_number, Cond.initialized RX4, Cond.code yX4_number cX4_number 3 (some .int), Cond.fieldLink RX4 11 "MeridianSeries$Points" "times" "[I", Cond.fieldLink RX4 15 "MeridianSeries$Points" "values" "[I", Cond.methodLink RX4 57 yX4_write, Cond.instanceMethod yX4_write, Cond.selects RX4 yX4_write yX4_write, Cond.code yX4_write cX4_write 4 none, Cond.methodLink RX4 38 yX4_sizeOf, Cond.instanceMethod yX4_sizeOf, Cond.selects RX4 yX4_sizeOf yX4_sizeOf, Cond.code yX4_sizeOf cX4_sizeOf 2 (some .int), Cond.methodLink RX4 34 yX4_openSize, Cond.instanceMethod yX4_openSize, Cond.selects RX4 yX4_openSize yX4_openSize]
def wsX4_copyFrom_r2 : List Cond := [Cond.code yX4_openSize cX4_openSize 1 (some .int)]
def wsX4_copyFrom : List Cond := .code yX4_copyFrom cX4_copyFrom 3 none :: ((wsX4_copyFrom_r1 ++ wsX4_copyFrom_r2) ++ wsX00 ++ wsX40)
def wsX5_init : List Cond := .code yX5_init cX5_init 8 none :: ([.methodLink RX5 3 objectInit, .instanceMethod objectInit, .code objectInit ⟨#[0xb1]⟩ 1 none, .fieldLink RX5 9 "MeridianSeries$Rule" "state" "I", .fieldLink RX5 15 "MeridianSeries$Rule" "timesInRow" "I", .fieldLink RX5 18 "MeridianSeries$Rule" "chain" "LMeridianSeries$Series;", .fieldLink RX5 22 "MeridianSeries$Rule" "what" "I", .fieldLink RX5 25 "MeridianSeries$Rule" "length" "I", .fieldLink RX5 28 "MeridianSeries$Rule" "every" "I", .fieldLink RX5 31 "MeridianSeries$Rule" "isAbove" "Z", .fieldLink RX5 35 "MeridianSeries$Rule" "limit" "I", .fieldLink RX5 38 "MeridianSeries$Rule" "times" "I"] ++ wsX50)
def wsX5_isDueAt : List Cond := .code yX5_isDueAt cX5_isDueAt 2 (some .boolean) :: ([.fieldLink RX5 28 "MeridianSeries$Rule" "every" "I"] ++ wsX50)
def wsX6_itemCount : List Cond := .code yX6_itemCount cX6_itemCount 1 (some .int) :: ([.fieldLink RX6 25 "MeridianSeries$Series" "coarse" "LMeridianSeries$Buckets;", .fieldLink RX6 79 "MeridianSeries$Buckets" "amount" "I", .sameField "MeridianSeries$Buckets" "MeridianSeries$Items" "amount" "I", .fieldLink RX6 21 "MeridianSeries$Series" "fine" "LMeridianSeries$Buckets;", .fieldLink RX6 12 "MeridianSeries$Series" "points" "LMeridianSeries$Points;", .fieldLink RX6 108 "MeridianSeries$Points" "amount" "I", .sameField "MeridianSeries$Points" "MeridianSeries$Items" "amount" "I"] ++ wsX60 ++ wsX00 ++ wsX40)
def wsX6_ofItem : List Cond := .code yX6_ofItem cX6_ofItem 4 (some .int) :: ([.fieldLink RX6 25 "MeridianSeries$Series" "coarse" "LMeridianSeries$Buckets;", .fieldLink RX6 79 "MeridianSeries$Buckets" "amount" "I", .sameField "MeridianSeries$Buckets" "MeridianSeries$Items" "amount" "I", .fieldLink RX6 21 "MeridianSeries$Series" "fine" "LMeridianSeries$Buckets;", .fieldLink RX6 12 "MeridianSeries$Series" "points" "LMeridianSeries$Points;", .methodLink RX6 82 yX0_number, .instanceMethod yX0_number, .selects RX0 yX0_number yX0_number, .initialized RX0, .code yX0_number cX0_number 4 (some .int), .fieldLink RX0 11 "MeridianSeries$Buckets" "cells" "[I", .methodLink RX6 88 yX4_number, .instanceMethod yX4_number, .selects RX4 yX4_number yX4_number, .initialized RX4, .code yX4_number cX4_number 3 (some .int), .fieldLink RX4 11 "MeridianSeries$Points" "times" "[I", .fieldLink RX4 15 "MeridianSeries$Points" "values" "[I"] ++ wsX60 ++ wsX00 ++ wsX40)
def wsX6_firstItemFrom_r1 : List Cond := [Cond.methodLink RX6 109 yX6_itemCount, Cond.instanceMethod yX6_itemCount, Cond.selects RX6 yX6_itemCount yX6_itemCount, Cond.initialized RX6, Cond.code yX6_itemCount cX6_itemCount 1 (some .int), Cond.fieldLink RX6 25 "MeridianSeries$Series" "coarse" "LMeridianSeries$Buckets;", Cond.fieldLink RX6 79 "MeridianSeries$Buckets" "amount" "I", Cond.sameField "MeridianSeries$Buckets" "MeridianSeries$Items" "amount" "I", Cond.fieldLink RX6 21 "MeridianSeries$Series" "fine" "LMeridianSeries$Buckets;", Cond.fieldLink RX6 12 "MeridianSeries$Series" "points" "LMeridianSeries$Points;", Cond.fieldLink RX6 108 "MeridianSeries$Points" "amount" "I", Cond.sameField "MeridianSeries$Points" "MeridianSeries$Items" "amount" "I", Cond.methodLink RX6 112 yX6_ofItem, Cond.instanceMethod yX6_ofItem, Cond.selects RX6 yX6_ofItem yX6_ofItem, Cond.code yX6_ofItem cX6_ofItem 4 (some .int), Cond.methodLink RX6 82 yX0_number, Cond.instanceMethod yX0_number, Cond.selects RX0 yX0_number yX0_number, Cond.initialized RX0, Cond.code yX0_number cX0_number 4 (some .int), Cond.fieldLink RX0 11 "MeridianSeries$Buckets" "cells" "[I", Cond.methodLink RX6 88 yX4_number, Cond.instanceMethod yX4_number]
def wsX6_firstItemFrom_r2 : List Cond := [Cond.selects RX4 yX4_number yX4_number, Cond.initialized RX4, Cond.code yX4_number cX4_number 3 (some .int), Cond.fieldLink RX4 11 "MeridianSeries$Points" "times" "[I", Cond.fieldLink RX4 15 "MeridianSeries$Points" "values" "[I"]
def wsX6_firstItemFrom : List Cond := .code yX6_firstItemFrom cX6_firstItemFrom 6 (some .int) :: ((wsX6_firstItemFrom_r1 ++ wsX6_firstItemFrom_r2) ++ wsX60 ++ wsX00 ++ wsX40)
def wsX6_onLine : List Cond := .code yX6_onLine cX6_onLine 9 (some .int) :: ([.constant RX6 134 (-1000000), .methodLink RX6 112 yX6_ofItem, .instanceMethod yX6_ofItem, .selects RX6 yX6_ofItem yX6_ofItem, .initialized RX6, .code yX6_ofItem cX6_ofItem 4 (some .int), .fieldLink RX6 25 "MeridianSeries$Series" "coarse" "LMeridianSeries$Buckets;", .fieldLink RX6 79 "MeridianSeries$Buckets" "amount" "I", .sameField "MeridianSeries$Buckets" "MeridianSeries$Items" "amount" "I", .fieldLink RX6 21 "MeridianSeries$Series" "fine" "LMeridianSeries$Buckets;", .fieldLink RX6 12 "MeridianSeries$Series" "points" "LMeridianSeries$Points;", .methodLink RX6 82 yX0_number, .instanceMethod yX0_number, .selects RX0 yX0_number yX0_number, .initialized RX0, .code yX0_number cX0_number 4 (some .int), .fieldLink RX0 11 "MeridianSeries$Buckets" "cells" "[I", .methodLink RX6 88 yX4_number, .instanceMethod yX4_number, .selects RX4 yX4_number yX4_number, .initialized RX4, .code yX4_number cX4_number 3 (some .int), .fieldLink RX4 11 "MeridianSeries$Points" "times" "[I", .fieldLink RX4 15 "MeridianSeries$Points" "values" "[I"] ++ wsX60 ++ wsX00 ++ wsX40)
def wsX6_toldOfGap_r1 : List Cond := [Cond.constant RX6 134 (-1000000), Cond.methodLink RX6 112 yX6_ofItem, Cond.instanceMethod yX6_ofItem, Cond.selects RX6 yX6_ofItem yX6_ofItem, Cond.initialized RX6, Cond.code yX6_ofItem cX6_ofItem 4 (some .int), Cond.fieldLink RX6 25 "MeridianSeries$Series" "coarse" "LMeridianSeries$Buckets;", Cond.fieldLink RX6 79 "MeridianSeries$Buckets" "amount" "I", Cond.sameField "MeridianSeries$Buckets" "MeridianSeries$Items" "amount" "I", Cond.fieldLink RX6 21 "MeridianSeries$Series" "fine" "LMeridianSeries$Buckets;", Cond.fieldLink RX6 12 "MeridianSeries$Series" "points" "LMeridianSeries$Points;", Cond.methodLink RX6 82 yX0_number, Cond.instanceMethod yX0_number, Cond.selects RX0 yX0_number yX0_number, Cond.initialized RX0, Cond.code yX0_number cX0_number 4 (some .int), Cond.fieldLink RX0 11 "MeridianSeries$Buckets" "cells" "[I", Cond.methodLink RX6 88 yX4_number, Cond.instanceMethod yX4_number, Cond.selects RX4 yX4_number yX4_number, Cond.initialized RX4, Cond.code yX4_number cX4_number 3 (some .int), Cond.fieldLink RX4 11 "MeridianSeries$Points" "times" "[I", Cond.fieldLink RX4 15 "MeridianSeries$Points" "values" "[I"]
def wsX6_toldOfGap_r2 : List Cond := [Cond.methodLink RX6 109 yX6_itemCount, Cond.instanceMethod yX6_itemCount, Cond.selects RX6 yX6_itemCount yX6_itemCount, Cond.code yX6_itemCount cX6_itemCount 1 (some .int), Cond.fieldLink RX6 108 "MeridianSeries$Points" "amount" "I", Cond.sameField "MeridianSeries$Points" "MeridianSeries$Items" "amount" "I", Cond.methodLink RX6 135 yX6_onLine, Cond.instanceMethod yX6_onLine, Cond.selects RX6 yX6_onLine yX6_onLine, Cond.code yX6_onLine cX6_onLine 9 (some .int)]
def wsX6_toldOfGap : List Cond := .code yX6_toldOfGap cX6_toldOfGap 5 (some .int) :: ((wsX6_toldOfGap_r1 ++ wsX6_toldOfGap_r2) ++ wsX60 ++ wsX00 ++ wsX40)
def wsX6_total : List Cond := .code yX6_total cX6_total 6 (some .int) :: ([.methodLink RX6 112 yX6_ofItem, .instanceMethod yX6_ofItem, .selects RX6 yX6_ofItem yX6_ofItem, .initialized RX6, .code yX6_ofItem cX6_ofItem 4 (some .int), .fieldLink RX6 25 "MeridianSeries$Series" "coarse" "LMeridianSeries$Buckets;", .fieldLink RX6 79 "MeridianSeries$Buckets" "amount" "I", .sameField "MeridianSeries$Buckets" "MeridianSeries$Items" "amount" "I", .fieldLink RX6 21 "MeridianSeries$Series" "fine" "LMeridianSeries$Buckets;", .fieldLink RX6 12 "MeridianSeries$Series" "points" "LMeridianSeries$Points;", .methodLink RX6 82 yX0_number, .instanceMethod yX0_number, .selects RX0 yX0_number yX0_number, .initialized RX0, .code yX0_number cX0_number 4 (some .int), .fieldLink RX0 11 "MeridianSeries$Buckets" "cells" "[I", .methodLink RX6 88 yX4_number, .instanceMethod yX4_number, .selects RX4 yX4_number yX4_number, .initialized RX4, .code yX4_number cX4_number 3 (some .int), .fieldLink RX4 11 "MeridianSeries$Points" "times" "[I", .fieldLink RX4 15 "MeridianSeries$Points" "values" "[I"] ++ wsX60 ++ wsX00 ++ wsX40)
def wsX6_least_r1 : List Cond := [Cond.methodLink RX6 138 Lib.Math.min.name, Cond.static Lib.Math.min.name, Cond.initialized "java/lang/Math", Cond.code Lib.Math.min.name Lib.Math.min.code 2 (some .int), Cond.methodLink RX6 112 yX6_ofItem, Cond.instanceMethod yX6_ofItem, Cond.selects RX6 yX6_ofItem yX6_ofItem, Cond.initialized RX6, Cond.code yX6_ofItem cX6_ofItem 4 (some .int), Cond.fieldLink RX6 25 "MeridianSeries$Series" "coarse" "LMeridianSeries$Buckets;", Cond.fieldLink RX6 79 "MeridianSeries$Buckets" "amount" "I", Cond.sameField "MeridianSeries$Buckets" "MeridianSeries$Items" "amount" "I", Cond.fieldLink RX6 21 "MeridianSeries$Series" "fine" "LMeridianSeries$Buckets;", Cond.fieldLink RX6 12 "MeridianSeries$Series" "points" "LMeridianSeries$Points;", Cond.methodLink RX6 82 yX0_number, Cond.instanceMethod yX0_number, Cond.selects RX0 yX0_number yX0_number, Cond.initialized RX0, Cond.code yX0_number cX0_number 4 (some .int), Cond.fieldLink RX0 11 "MeridianSeries$Buckets" "cells" "[I", Cond.methodLink RX6 88 yX4_number, Cond.instanceMethod yX4_number, Cond.selects RX4 yX4_number yX4_number, Cond.initialized RX4]
def wsX6_least_r2 : List Cond := [Cond.code yX4_number cX4_number 3 (some .int), Cond.fieldLink RX4 11 "MeridianSeries$Points" "times" "[I", Cond.fieldLink RX4 15 "MeridianSeries$Points" "values" "[I"]
def wsX6_least : List Cond := .code yX6_least cX6_least 5 (some .int) :: ((wsX6_least_r1 ++ wsX6_least_r2) ++ wsX60 ++ wsX00 ++ wsX40)
def wsX6_greatest_r1 : List Cond := [Cond.methodLink RX6 143 Lib.Math.max.name, Cond.static Lib.Math.max.name, Cond.initialized "java/lang/Math", Cond.code Lib.Math.max.name Lib.Math.max.code 2 (some .int), Cond.methodLink RX6 112 yX6_ofItem, Cond.instanceMethod yX6_ofItem, Cond.selects RX6 yX6_ofItem yX6_ofItem, Cond.initialized RX6, Cond.code yX6_ofItem cX6_ofItem 4 (some .int), Cond.fieldLink RX6 25 "MeridianSeries$Series" "coarse" "LMeridianSeries$Buckets;", Cond.fieldLink RX6 79 "MeridianSeries$Buckets" "amount" "I", Cond.sameField "MeridianSeries$Buckets" "MeridianSeries$Items" "amount" "I", Cond.fieldLink RX6 21 "MeridianSeries$Series" "fine" "LMeridianSeries$Buckets;", Cond.fieldLink RX6 12 "MeridianSeries$Series" "points" "LMeridianSeries$Points;", Cond.methodLink RX6 82 yX0_number, Cond.instanceMethod yX0_number, Cond.selects RX0 yX0_number yX0_number, Cond.initialized RX0, Cond.code yX0_number cX0_number 4 (some .int), Cond.fieldLink RX0 11 "MeridianSeries$Buckets" "cells" "[I", Cond.methodLink RX6 88 yX4_number, Cond.instanceMethod yX4_number, Cond.selects RX4 yX4_number yX4_number, Cond.initialized RX4]
def wsX6_greatest_r2 : List Cond := [Cond.code yX4_number cX4_number 3 (some .int), Cond.fieldLink RX4 11 "MeridianSeries$Points" "times" "[I", Cond.fieldLink RX4 15 "MeridianSeries$Points" "values" "[I"]
def wsX6_greatest : List Cond := .code yX6_greatest cX6_greatest 5 (some .int) :: ((wsX6_greatest_r1 ++ wsX6_greatest_r2) ++ wsX60 ++ wsX00 ++ wsX40)
def wsX6_quotient : List Cond := .code yX6_quotient cX6_quotient 2 (some .int) :: ([.constant RX6 134 (-1000000)])
def wsX6_tell_r1 : List Cond := [Cond.methodLink RX6 115 yX6_firstItemFrom, Cond.instanceMethod yX6_firstItemFrom, Cond.selects RX6 yX6_firstItemFrom yX6_firstItemFrom, Cond.initialized RX6, Cond.code yX6_firstItemFrom cX6_firstItemFrom 6 (some .int), Cond.methodLink RX6 109 yX6_itemCount, Cond.instanceMethod yX6_itemCount, Cond.selects RX6 yX6_itemCount yX6_itemCount, Cond.code yX6_itemCount cX6_itemCount 1 (some .int), Cond.fieldLink RX6 25 "MeridianSeries$Series" "coarse" "LMeridianSeries$Buckets;", Cond.fieldLink RX6 79 "MeridianSeries$Buckets" "amount" "I", Cond.sameField "MeridianSeries$Buckets" "MeridianSeries$Items" "amount" "I", Cond.fieldLink RX6 21 "MeridianSeries$Series" "fine" "LMeridianSeries$Buckets;", Cond.fieldLink RX6 12 "MeridianSeries$Series" "points" "LMeridianSeries$Points;", Cond.fieldLink RX6 108 "MeridianSeries$Points" "amount" "I", Cond.sameField "MeridianSeries$Points" "MeridianSeries$Items" "amount" "I", Cond.methodLink RX6 112 yX6_ofItem, Cond.instanceMethod yX6_ofItem, Cond.selects RX6 yX6_ofItem yX6_ofItem, Cond.code yX6_ofItem cX6_ofItem 4 (some .int), Cond.methodLink RX6 82 yX0_number, Cond.instanceMethod yX0_number, Cond.selects RX0 yX0_number yX0_number, Cond.initialized RX0]
def wsX6_tell_r2 : List Cond := [Cond.code yX0_number cX0_number 4 (some .int), Cond.fieldLink RX0 11 "MeridianSeries$Buckets" "cells" "[I", Cond.methodLink RX6 88 yX4_number, Cond.instanceMethod yX4_number, Cond.selects RX4 yX4_number yX4_number, Cond.initialized RX4, Cond.code yX4_number cX4_number 3 (some .int), Cond.fieldLink RX4 11 "MeridianSeries$Points" "times" "[I", Cond.fieldLink RX4 15 "MeridianSeries$Points" "values" "[I", Cond.methodLink RX6 118 yX6_toldOfGap, Cond.instanceMethod yX6_toldOfGap, Cond.selects RX6 yX6_toldOfGap yX6_toldOfGap, Cond.code yX6_toldOfGap cX6_toldOfGap 5 (some .int), Cond.constant RX6 134 (-1000000), Cond.methodLink RX6 135 yX6_onLine, Cond.instanceMethod yX6_onLine, Cond.selects RX6 yX6_onLine yX6_onLine, Cond.code yX6_onLine cX6_onLine 9 (some .int), Cond.methodLink RX6 122 yX6_total, Cond.instanceMethod yX6_total, Cond.selects RX6 yX6_total yX6_total, Cond.code yX6_total cX6_total 6 (some .int), Cond.methodLink RX6 125 yX6_least, Cond.instanceMethod yX6_least]
def wsX6_tell_r3 : List Cond := [Cond.selects RX6 yX6_least yX6_least, Cond.code yX6_least cX6_least 5 (some .int), Cond.methodLink RX6 138 Lib.Math.min.name, Cond.static Lib.Math.min.name, Cond.initialized "java/lang/Math", Cond.code Lib.Math.min.name Lib.Math.min.code 2 (some .int), Cond.methodLink RX6 128 yX6_greatest, Cond.instanceMethod yX6_greatest, Cond.selects RX6 yX6_greatest yX6_greatest, Cond.code yX6_greatest cX6_greatest 5 (some .int), Cond.methodLink RX6 143 Lib.Math.max.name, Cond.static Lib.Math.max.name, Cond.code Lib.Math.max.name Lib.Math.max.code 2 (some .int), Cond.methodLink RX6 131 yX6_quotient, Cond.static yX6_quotient, Cond.code yX6_quotient cX6_quotient 2 (some .int)]
def wsX6_tell : List Cond := .code yX6_tell cX6_tell 7 (some .int) :: ((wsX6_tell_r1 ++ (wsX6_tell_r2 ++ wsX6_tell_r3)) ++ wsX60 ++ wsX00 ++ wsX40)
def wsX5_told_r1 : List Cond := [Cond.fieldLink RX5 18 "MeridianSeries$Rule" "chain" "LMeridianSeries$Series;", Cond.fieldLink RX5 25 "MeridianSeries$Rule" "length" "I", Cond.fieldLink RX5 22 "MeridianSeries$Rule" "what" "I", Cond.methodLink RX5 41 yX6_tell, Cond.instanceMethod yX6_tell, Cond.selects RX6 yX6_tell yX6_tell, Cond.initialized RX6, Cond.code yX6_tell cX6_tell 7 (some .int), Cond.methodLink RX6 115 yX6_firstItemFrom, Cond.instanceMethod yX6_firstItemFrom, Cond.selects RX6 yX6_firstItemFrom yX6_firstItemFrom, Cond.code yX6_firstItemFrom cX6_firstItemFrom 6 (some .int), Cond.methodLink RX6 109 yX6_itemCount, Cond.instanceMethod yX6_itemCount, Cond.selects RX6 yX6_itemCount yX6_itemCount, Cond.code yX6_itemCount cX6_itemCount 1 (some .int), Cond.fieldLink RX6 25 "MeridianSeries$Series" "coarse" "LMeridianSeries$Buckets;", Cond.fieldLink RX6 79 "MeridianSeries$Buckets" "amount" "I", Cond.sameField "MeridianSeries$Buckets" "MeridianSeries$Items" "amount" "I", Cond.fieldLink RX6 21 "MeridianSeries$Series" "fine" "LMeridianSeries$Buckets;", Cond.fieldLink RX6 12 "MeridianSeries$Series" "points" "LMeridianSeries$Points;", Cond.fieldLink RX6 108 "MeridianSeries$Points" "amount" "I", Cond.sameField "MeridianSeries$Points" "MeridianSeries$Items" "amount" "I", Cond.methodLink RX6 112 yX6_ofItem]
def wsX5_told_r2 : List Cond := [Cond.instanceMethod yX6_ofItem, Cond.selects RX6 yX6_ofItem yX6_ofItem, Cond.code yX6_ofItem cX6_ofItem 4 (some .int), Cond.methodLink RX6 82 yX0_number, Cond.instanceMethod yX0_number, Cond.selects RX0 yX0_number yX0_number, Cond.initialized RX0, Cond.code yX0_number cX0_number 4 (some .int), Cond.fieldLink RX0 11 "MeridianSeries$Buckets" "cells" "[I", Cond.methodLink RX6 88 yX4_number, Cond.instanceMethod yX4_number, Cond.selects RX4 yX4_number yX4_number, Cond.initialized RX4, Cond.code yX4_number cX4_number 3 (some .int), Cond.fieldLink RX4 11 "MeridianSeries$Points" "times" "[I", Cond.fieldLink RX4 15 "MeridianSeries$Points" "values" "[I", Cond.methodLink RX6 118 yX6_toldOfGap, Cond.instanceMethod yX6_toldOfGap, Cond.selects RX6 yX6_toldOfGap yX6_toldOfGap, Cond.code yX6_toldOfGap cX6_toldOfGap 5 (some .int), Cond.constant RX6 134 (-1000000), Cond.methodLink RX6 135 yX6_onLine, Cond.instanceMethod yX6_onLine, Cond.selects RX6 yX6_onLine yX6_onLine]
def wsX5_told_r3 : List Cond := [Cond.code yX6_onLine cX6_onLine 9 (some .int), Cond.methodLink RX6 122 yX6_total, Cond.instanceMethod yX6_total, Cond.selects RX6 yX6_total yX6_total, Cond.code yX6_total cX6_total 6 (some .int), Cond.methodLink RX6 125 yX6_least, Cond.instanceMethod yX6_least, Cond.selects RX6 yX6_least yX6_least, Cond.code yX6_least cX6_least 5 (some .int), Cond.methodLink RX6 138 Lib.Math.min.name, Cond.static Lib.Math.min.name, Cond.initialized "java/lang/Math", Cond.code Lib.Math.min.name Lib.Math.min.code 2 (some .int), Cond.methodLink RX6 128 yX6_greatest, Cond.instanceMethod yX6_greatest, Cond.selects RX6 yX6_greatest yX6_greatest, Cond.code yX6_greatest cX6_greatest 5 (some .int), Cond.methodLink RX6 143 Lib.Math.max.name, Cond.static Lib.Math.max.name, Cond.code Lib.Math.max.name Lib.Math.max.code 2 (some .int), Cond.methodLink RX6 131 yX6_quotient, Cond.static yX6_quotient, Cond.code yX6_quotient cX6_quotient 2 (some .int)]
def wsX5_told : List Cond := .code yX5_told cX5_told 2 (some .int) :: ((wsX5_told_r1 ++ (wsX5_told_r2 ++ wsX5_told_r3)) ++ wsX50 ++ wsX60 ++ wsX00 ++ wsX40)
def wsX5_become : List Cond := .code yX5_become cX5_become 2 none :: ([.fieldLink RX5 9 "MeridianSeries$Rule" "state" "I", .fieldLink RX5 15 "MeridianSeries$Rule" "timesInRow" "I"] ++ wsX50)
def wsX5_ceases : List Cond := .code yX5_ceases cX5_ceases 2 (some .boolean) :: ([.fieldLink RX5 15 "MeridianSeries$Rule" "timesInRow" "I", .fieldLink RX5 38 "MeridianSeries$Rule" "times" "I", .methodLink RX5 55 yX5_become, .instanceMethod yX5_become, .selects RX5 yX5_become yX5_become, .initialized RX5, .code yX5_become cX5_become 2 none, .fieldLink RX5 9 "MeridianSeries$Rule" "state" "I"] ++ wsX50)
def wsX5_begins : List Cond := .code yX5_begins cX5_begins 2 (some .boolean) :: ([.fieldLink RX5 9 "MeridianSeries$Rule" "state" "I", .fieldLink RX5 15 "MeridianSeries$Rule" "timesInRow" "I", .fieldLink RX5 38 "MeridianSeries$Rule" "times" "I", .methodLink RX5 55 yX5_become, .instanceMethod yX5_become, .selects RX5 yX5_become yX5_become, .initialized RX5, .code yX5_become cX5_become 2 none] ++ wsX50)
def wsX5_changesBy : List Cond := .code yX5_changesBy cX5_changesBy 3 (some .boolean) :: ([.constant RX5 47 (-1000000), .fieldLink RX5 31 "MeridianSeries$Rule" "isAbove" "Z", .fieldLink RX5 35 "MeridianSeries$Rule" "limit" "I", .fieldLink RX5 9 "MeridianSeries$Rule" "state" "I", .methodLink RX5 48 yX5_ceases, .instanceMethod yX5_ceases, .selects RX5 yX5_ceases yX5_ceases, .initialized RX5, .code yX5_ceases cX5_ceases 2 (some .boolean), .fieldLink RX5 15 "MeridianSeries$Rule" "timesInRow" "I", .fieldLink RX5 38 "MeridianSeries$Rule" "times" "I", .methodLink RX5 55 yX5_become, .instanceMethod yX5_become, .selects RX5 yX5_become yX5_become, .code yX5_become cX5_become 2 none, .methodLink RX5 52 yX5_begins, .instanceMethod yX5_begins, .selects RX5 yX5_begins yX5_begins, .code yX5_begins cX5_begins 2 (some .boolean)] ++ wsX50)
def wsX5_copyFrom : List Cond := .code yX5_copyFrom cX5_copyFrom 2 none :: ([.fieldLink RX5 9 "MeridianSeries$Rule" "state" "I", .fieldLink RX5 15 "MeridianSeries$Rule" "timesInRow" "I"] ++ wsX50)
def wsX6_init_r1 : List Cond := [Cond.methodLink RX6 3 objectInit, Cond.instanceMethod objectInit, Cond.code objectInit ⟨#[0xb1]⟩ 1 none, Cond.classLink RX6 9 RX4, Cond.instantiable RX4 7, Cond.initialized RX4, Cond.fieldLink RX6 12 "MeridianSeries$Series" "points" "LMeridianSeries$Points;", Cond.classLink RX6 18 RX0, Cond.instantiable RX0 2, Cond.initialized RX0, Cond.fieldLink RX6 21 "MeridianSeries$Series" "fine" "LMeridianSeries$Buckets;", Cond.fieldLink RX6 25 "MeridianSeries$Series" "coarse" "LMeridianSeries$Buckets;", Cond.fieldLink RX6 28 "MeridianSeries$Series" "one" "I", Cond.fieldLink RX6 32 "MeridianSeries$Series" "other" "I", Cond.instanceMethod yX4_init, Cond.code yX4_init cX4_init 1 none, Cond.arrayClass .int, Cond.fieldLink RX4 11 "MeridianSeries$Points" "times" "[I", Cond.fieldLink RX4 15 "MeridianSeries$Points" "values" "[I", Cond.fieldLink RX4 18 "MeridianSeries$Points" "sizes" "[I", Cond.fieldLink RX4 21 "MeridianSeries$Points" "sealedBlocks" "I", Cond.fieldLink RX4 25 "MeridianSeries$Points" "sealedPoints" "I", Cond.fieldLink RX4 28 "MeridianSeries$Points" "greatestSealedTime" "I", Cond.instanceMethod yX2_init]
def wsX6_init_r2 : List Cond := [Cond.initialized RX2, Cond.code yX2_init cX2_init 1 none, Cond.methodLink RX2 1 objectInit, Cond.fieldLink RX2 7 "MeridianSeries$Items" "amount" "I", Cond.instanceMethod yX0_init, Cond.code yX0_init cX0_init 1 none, Cond.fieldLink RX0 11 "MeridianSeries$Buckets" "cells" "[I"]
def wsX6_init : List Cond := .code yX6_init cX6_init 3 none :: ((wsX6_init_r1 ++ wsX6_init_r2) ++ wsX40 ++ wsX60 ++ wsX00)
def wsX6_bucketsOf : List Cond := .code yX6_bucketsOf cX6_bucketsOf 2 (some (.object "MeridianSeries$Buckets")) :: ([.fieldLink RX6 25 "MeridianSeries$Series" "coarse" "LMeridianSeries$Buckets;", .fieldLink RX6 21 "MeridianSeries$Series" "fine" "LMeridianSeries$Buckets;"] ++ wsX60)
def wsX6_startFor : List Cond := .code yX6_startFor cX6_startFor 2 (some .int) :: ([])
def wsX6_rollUpFirstFine_r1 : List Cond := [Cond.fieldLink RX6 21 "MeridianSeries$Series" "fine" "LMeridianSeries$Buckets;", Cond.fieldLink RX6 69 "MeridianSeries$Settings" "width" "I", Cond.fieldLink RX6 102 "MeridianSeries$Settings" "fold" "I", Cond.fieldLink RX6 25 "MeridianSeries$Series" "coarse" "LMeridianSeries$Buckets;", Cond.methodLink RX6 82 yX0_number, Cond.instanceMethod yX0_number, Cond.selects RX0 yX0_number yX0_number, Cond.initialized RX0, Cond.code yX0_number cX0_number 4 (some .int), Cond.fieldLink RX0 11 "MeridianSeries$Buckets" "cells" "[I", Cond.methodLink RX6 89 yX6_startFor, Cond.static yX6_startFor, Cond.initialized RX6, Cond.code yX6_startFor cX6_startFor 2 (some .int), Cond.methodLink RX6 92 yX0_take, Cond.instanceMethod yX0_take, Cond.selects RX0 yX0_take yX0_take, Cond.code yX0_take cX0_take 6 none, Cond.fieldLink RX0 15 "MeridianSeries$Buckets" "amount" "I", Cond.sameField "MeridianSeries$Buckets" "MeridianSeries$Items" "amount" "I", Cond.methodLink RX0 28 Lib.Math.min.name, Cond.static Lib.Math.min.name, Cond.initialized "java/lang/Math", Cond.code Lib.Math.min.name Lib.Math.min.code 2 (some .int)]
def wsX6_rollUpFirstFine_r2 : List Cond := [Cond.methodLink RX0 33 Lib.Math.max.name, Cond.static Lib.Math.max.name, Cond.code Lib.Math.max.name Lib.Math.max.code 2 (some .int), Cond.methodLink RX0 19 yX0_number, Cond.methodLink RX0 23 ⟨"MeridianSeries$Items", "number", "(II)I"⟩, Cond.sameMethod "MeridianSeries$Items" "MeridianSeries$Items" "number" "(II)I", Cond.selects RX0 ⟨"MeridianSeries$Items", "number", "(II)I"⟩ yX0_number, Cond.selects RX4 ⟨"MeridianSeries$Items", "number", "(II)I"⟩ yX4_number, Cond.instanceMethod yX4_number, Cond.initialized RX4, Cond.code yX4_number cX4_number 3 (some .int), Cond.fieldLink RX4 11 "MeridianSeries$Points" "times" "[I", Cond.fieldLink RX4 15 "MeridianSeries$Points" "values" "[I", Cond.methodLink RX0 24 yX0_write, Cond.instanceMethod yX0_write, Cond.selects RX0 yX0_write yX0_write, Cond.code yX0_write cX0_write 5 none, Cond.methodLink RX6 105 yX0_dropFirst, Cond.instanceMethod yX0_dropFirst, Cond.selects RX0 yX0_dropFirst yX0_dropFirst, Cond.code yX0_dropFirst cX0_dropFirst 2 none, Cond.methodLink RX6 96 yX0_isFull, Cond.instanceMethod yX0_isFull, Cond.selects RX0 yX0_isFull yX0_isFull]
def wsX6_rollUpFirstFine_r3 : List Cond := [Cond.code yX0_isFull cX0_isFull 1 (some .boolean)]
def wsX6_rollUpFirstFine : List Cond := .code yX6_rollUpFirstFine cX6_rollUpFirstFine 3 none :: ((wsX6_rollUpFirstFine_r1 ++ (wsX6_rollUpFirstFine_r2 ++ wsX6_rollUpFirstFine_r3)) ++ wsX60 ++ wsX70 ++ wsX00 ++ wsX40)
def wsX6_rollUpFirstBlock_r1 : List Cond := [Cond.fieldLink RX6 12 "MeridianSeries$Series" "points" "LMeridianSeries$Points;", Cond.fieldLink RX6 21 "MeridianSeries$Series" "fine" "LMeridianSeries$Buckets;", Cond.fieldLink RX6 69 "MeridianSeries$Settings" "width" "I", Cond.methodLink RX6 85 yX4_sizeOf, Cond.instanceMethod yX4_sizeOf, Cond.selects RX4 yX4_sizeOf yX4_sizeOf, Cond.initialized RX4, Cond.code yX4_sizeOf cX4_sizeOf 2 (some .int), Cond.fieldLink RX4 21 "MeridianSeries$Points" "sealedBlocks" "I", Cond.fieldLink RX4 18 "MeridianSeries$Points" "sizes" "[I", Cond.methodLink RX4 34 yX4_openSize, Cond.instanceMethod yX4_openSize, Cond.selects RX4 yX4_openSize yX4_openSize, Cond.code yX4_openSize cX4_openSize 1 (some .int), Cond.fieldLink RX4 31 "MeridianSeries$Points" "amount" "I", Cond.sameField "MeridianSeries$Points" "MeridianSeries$Items" "amount" "I", Cond.fieldLink RX4 25 "MeridianSeries$Points" "sealedPoints" "I", Cond.methodLink RX6 88 yX4_number, Cond.instanceMethod yX4_number, Cond.selects RX4 yX4_number yX4_number, Cond.code yX4_number cX4_number 3 (some .int), Cond.fieldLink RX4 11 "MeridianSeries$Points" "times" "[I", Cond.fieldLink RX4 15 "MeridianSeries$Points" "values" "[I", Cond.methodLink RX6 89 yX6_startFor]
def wsX6_rollUpFirstBlock_r2 : List Cond := [Cond.static yX6_startFor, Cond.initialized RX6, Cond.code yX6_startFor cX6_startFor 2 (some .int), Cond.methodLink RX6 92 yX0_take, Cond.instanceMethod yX0_take, Cond.selects RX0 yX0_take yX0_take, Cond.initialized RX0, Cond.code yX0_take cX0_take 6 none, Cond.fieldLink RX0 15 "MeridianSeries$Buckets" "amount" "I", Cond.sameField "MeridianSeries$Buckets" "MeridianSeries$Items" "amount" "I", Cond.methodLink RX0 28 Lib.Math.min.name, Cond.static Lib.Math.min.name, Cond.initialized "java/lang/Math", Cond.code Lib.Math.min.name Lib.Math.min.code 2 (some .int), Cond.methodLink RX0 33 Lib.Math.max.name, Cond.static Lib.Math.max.name, Cond.code Lib.Math.max.name Lib.Math.max.code 2 (some .int), Cond.methodLink RX0 19 yX0_number, Cond.instanceMethod yX0_number, Cond.selects RX0 yX0_number yX0_number, Cond.code yX0_number cX0_number 4 (some .int), Cond.fieldLink RX0 11 "MeridianSeries$Buckets" "cells" "[I", Cond.methodLink RX0 23 ⟨"MeridianSeries$Items", "number", "(II)I"⟩, Cond.sameMethod "MeridianSeries$Items" "MeridianSeries$Items" "number" "(II)I"]
def wsX6_rollUpFirstBlock_r3 : List Cond := [Cond.selects RX0 ⟨"MeridianSeries$Items", "number", "(II)I"⟩ yX0_number, Cond.selects RX4 ⟨"MeridianSeries$Items", "number", "(II)I"⟩ yX4_number, Cond.methodLink RX0 24 yX0_write, Cond.instanceMethod yX0_write, Cond.selects RX0 yX0_write yX0_write, Cond.code yX0_write cX0_write 5 none, Cond.methodLink RX6 96 yX0_isFull, Cond.instanceMethod yX0_isFull, Cond.selects RX0 yX0_isFull yX0_isFull, Cond.code yX0_isFull cX0_isFull 1 (some .boolean), Cond.methodLink RX6 76 yX6_rollUpFirstFine, Cond.instanceMethod yX6_rollUpFirstFine, Cond.selects RX6 yX6_rollUpFirstFine yX6_rollUpFirstFine, Cond.code yX6_rollUpFirstFine cX6_rollUpFirstFine 3 none, Cond.fieldLink RX6 102 "MeridianSeries$Settings" "fold" "I", Cond.fieldLink RX6 25 "MeridianSeries$Series" "coarse" "LMeridianSeries$Buckets;", Cond.methodLink RX6 82 yX0_number, Cond.methodLink RX6 105 yX0_dropFirst, Cond.instanceMethod yX0_dropFirst, Cond.selects RX0 yX0_dropFirst yX0_dropFirst, Cond.code yX0_dropFirst cX0_dropFirst 2 none, Cond.methodLink RX6 99 yX4_dropFirstBlock, Cond.instanceMethod yX4_dropFirstBlock, Cond.selects RX4 yX4_dropFirstBlock yX4_dropFirstBlock]
def wsX6_rollUpFirstBlock_r4 : List Cond := [Cond.code yX4_dropFirstBlock cX4_dropFirstBlock 3 none, Cond.methodLink RX4 38 yX4_sizeOf, Cond.methodLink RX4 53 yX4_copyPoint, Cond.instanceMethod yX4_copyPoint, Cond.selects RX4 yX4_copyPoint yX4_copyPoint, Cond.code yX4_copyPoint cX4_copyPoint 3 none, Cond.methodLink RX4 42 yX4_number, Cond.methodLink RX4 57 yX4_write, Cond.instanceMethod yX4_write, Cond.selects RX4 yX4_write yX4_write, Cond.code yX4_write cX4_write 4 none]
def wsX6_rollUpFirstBlock : List Cond := .code yX6_rollUpFirstBlock cX6_rollUpFirstBlock 4 none :: ((wsX6_rollUpFirstBlock_r1 ++ (wsX6_rollUpFirstBlock_r2 ++ (wsX6_rollUpFirstBlock_r3 ++ wsX6_rollUpFirstBlock_r4))) ++ wsX60 ++ wsX70 ++ wsX40 ++ wsX00)
def wsX6_take_r1 : List Cond := [Cond.fieldLink RX6 12 "MeridianSeries$Series" "points" "LMeridianSeries$Points;", Cond.fieldLink RX6 43 "MeridianSeries$Settings" "span" "I", Cond.methodLink RX6 35 yX4_add, Cond.instanceMethod yX4_add, Cond.selects RX4 yX4_add yX4_add, Cond.initialized RX4, Cond.code yX4_add cX4_add 5 none, Cond.fieldLink RX4 31 "MeridianSeries$Points" "amount" "I", Cond.sameField "MeridianSeries$Points" "MeridianSeries$Items" "amount" "I", Cond.methodLink RX4 46 yX4_placeOf, Cond.instanceMethod yX4_placeOf, Cond.selects RX4 yX4_placeOf yX4_placeOf, Cond.code yX4_placeOf cX4_placeOf 3 (some .int), Cond.fieldLink RX4 25 "MeridianSeries$Points" "sealedPoints" "I", Cond.methodLink RX4 42 yX4_number, Cond.instanceMethod yX4_number, Cond.selects RX4 yX4_number yX4_number, Cond.code yX4_number cX4_number 3 (some .int), Cond.fieldLink RX4 11 "MeridianSeries$Points" "times" "[I", Cond.fieldLink RX4 15 "MeridianSeries$Points" "values" "[I", Cond.methodLink RX4 49 yX4_isTakenAt, Cond.instanceMethod yX4_isTakenAt, Cond.selects RX4 yX4_isTakenAt yX4_isTakenAt, Cond.code yX4_isTakenAt cX4_isTakenAt 3 (some .boolean)]
def wsX6_take_r2 : List Cond := [Cond.methodLink RX4 53 yX4_copyPoint, Cond.instanceMethod yX4_copyPoint, Cond.selects RX4 yX4_copyPoint yX4_copyPoint, Cond.code yX4_copyPoint cX4_copyPoint 3 none, Cond.methodLink RX4 57 yX4_write, Cond.instanceMethod yX4_write, Cond.selects RX4 yX4_write yX4_write, Cond.code yX4_write cX4_write 4 none, Cond.methodLink RX6 39 yX4_openSize, Cond.instanceMethod yX4_openSize, Cond.selects RX4 yX4_openSize yX4_openSize, Cond.code yX4_openSize cX4_openSize 1 (some .int), Cond.methodLink RX6 48 yX4_seal, Cond.instanceMethod yX4_seal, Cond.selects RX4 yX4_seal yX4_seal, Cond.code yX4_seal cX4_seal 1 none, Cond.fieldLink RX4 21 "MeridianSeries$Points" "sealedBlocks" "I", Cond.fieldLink RX4 18 "MeridianSeries$Points" "sizes" "[I", Cond.fieldLink RX4 28 "MeridianSeries$Points" "greatestSealedTime" "I", Cond.methodLink RX4 34 yX4_openSize, Cond.methodLink RX6 51 yX4_hasTooManySealed, Cond.instanceMethod yX4_hasTooManySealed, Cond.selects RX4 yX4_hasTooManySealed yX4_hasTooManySealed, Cond.code yX4_hasTooManySealed cX4_hasTooManySealed 1 (some .boolean)]
def wsX6_take_r3 : List Cond := [Cond.methodLink RX6 55 yX6_rollUpFirstBlock, Cond.instanceMethod yX6_rollUpFirstBlock, Cond.selects RX6 yX6_rollUpFirstBlock yX6_rollUpFirstBlock, Cond.initialized RX6, Cond.code yX6_rollUpFirstBlock cX6_rollUpFirstBlock 4 none, Cond.fieldLink RX6 21 "MeridianSeries$Series" "fine" "LMeridianSeries$Buckets;", Cond.fieldLink RX6 69 "MeridianSeries$Settings" "width" "I", Cond.methodLink RX6 85 yX4_sizeOf, Cond.instanceMethod yX4_sizeOf, Cond.selects RX4 yX4_sizeOf yX4_sizeOf, Cond.code yX4_sizeOf cX4_sizeOf 2 (some .int), Cond.methodLink RX6 88 yX4_number, Cond.methodLink RX6 89 yX6_startFor, Cond.static yX6_startFor, Cond.code yX6_startFor cX6_startFor 2 (some .int), Cond.methodLink RX6 92 yX0_take, Cond.instanceMethod yX0_take, Cond.selects RX0 yX0_take yX0_take, Cond.initialized RX0, Cond.code yX0_take cX0_take 6 none, Cond.fieldLink RX0 15 "MeridianSeries$Buckets" "amount" "I", Cond.sameField "MeridianSeries$Buckets" "MeridianSeries$Items" "amount" "I", Cond.methodLink RX0 28 Lib.Math.min.name, Cond.static Lib.Math.min.name]
def wsX6_take_r4 : List Cond := [Cond.initialized "java/lang/Math", Cond.code Lib.Math.min.name Lib.Math.min.code 2 (some .int), Cond.methodLink RX0 33 Lib.Math.max.name, Cond.static Lib.Math.max.name, Cond.code Lib.Math.max.name Lib.Math.max.code 2 (some .int), Cond.methodLink RX0 19 yX0_number, Cond.instanceMethod yX0_number, Cond.selects RX0 yX0_number yX0_number, Cond.code yX0_number cX0_number 4 (some .int), Cond.fieldLink RX0 11 "MeridianSeries$Buckets" "cells" "[I", Cond.methodLink RX0 23 ⟨"MeridianSeries$Items", "number", "(II)I"⟩, Cond.sameMethod "MeridianSeries$Items" "MeridianSeries$Items" "number" "(II)I", Cond.selects RX0 ⟨"MeridianSeries$Items", "number", "(II)I"⟩ yX0_number, Cond.selects RX4 ⟨"MeridianSeries$Items", "number", "(II)I"⟩ yX4_number, Cond.methodLink RX0 24 yX0_write, Cond.instanceMethod yX0_write, Cond.selects RX0 yX0_write yX0_write, Cond.code yX0_write cX0_write 5 none, Cond.methodLink RX6 96 yX0_isFull, Cond.instanceMethod yX0_isFull, Cond.selects RX0 yX0_isFull yX0_isFull, Cond.code yX0_isFull cX0_isFull 1 (some .boolean), Cond.methodLink RX6 76 yX6_rollUpFirstFine, Cond.instanceMethod yX6_rollUpFirstFine]
def wsX6_take_r5 : List Cond := [Cond.selects RX6 yX6_rollUpFirstFine yX6_rollUpFirstFine, Cond.code yX6_rollUpFirstFine cX6_rollUpFirstFine 3 none, Cond.fieldLink RX6 102 "MeridianSeries$Settings" "fold" "I", Cond.fieldLink RX6 25 "MeridianSeries$Series" "coarse" "LMeridianSeries$Buckets;", Cond.methodLink RX6 82 yX0_number, Cond.methodLink RX6 105 yX0_dropFirst, Cond.instanceMethod yX0_dropFirst, Cond.selects RX0 yX0_dropFirst yX0_dropFirst, Cond.code yX0_dropFirst cX0_dropFirst 2 none, Cond.methodLink RX6 99 yX4_dropFirstBlock, Cond.instanceMethod yX4_dropFirstBlock, Cond.selects RX4 yX4_dropFirstBlock yX4_dropFirstBlock, Cond.code yX4_dropFirstBlock cX4_dropFirstBlock 3 none, Cond.methodLink RX4 38 yX4_sizeOf]
def wsX6_take : List Cond := .code yX6_take cX6_take 4 none :: ((wsX6_take_r1 ++ (wsX6_take_r2 ++ (wsX6_take_r3 ++ (wsX6_take_r4 ++ wsX6_take_r5)))) ++ wsX60 ++ wsX70 ++ wsX00 ++ wsX40)
def wsX6_fineEndingBy : List Cond := .code yX6_fineEndingBy cX6_fineEndingBy 4 (some .int) :: ([.fieldLink RX6 21 "MeridianSeries$Series" "fine" "LMeridianSeries$Buckets;", .fieldLink RX6 79 "MeridianSeries$Buckets" "amount" "I", .sameField "MeridianSeries$Buckets" "MeridianSeries$Items" "amount" "I", .methodLink RX6 82 yX0_number, .instanceMethod yX0_number, .selects RX0 yX0_number yX0_number, .initialized RX0, .code yX0_number cX0_number 4 (some .int), .fieldLink RX0 11 "MeridianSeries$Buckets" "cells" "[I"] ++ wsX60 ++ wsX00 ++ wsX40)
def wsX6_rollUpBy_r1 : List Cond := [Cond.fieldLink RX6 59 "MeridianSeries$Settings" "keep" "I", Cond.fieldLink RX6 12 "MeridianSeries$Series" "points" "LMeridianSeries$Points;", Cond.fieldLink RX6 66 "MeridianSeries$Settings" "longKeep" "I", Cond.fieldLink RX6 69 "MeridianSeries$Settings" "width" "I", Cond.methodLink RX6 62 yX4_blocksBelow, Cond.instanceMethod yX4_blocksBelow, Cond.selects RX4 yX4_blocksBelow yX4_blocksBelow, Cond.initialized RX4, Cond.code yX4_blocksBelow cX4_blocksBelow 4 (some .int), Cond.fieldLink RX4 21 "MeridianSeries$Points" "sealedBlocks" "I", Cond.methodLink RX4 38 yX4_sizeOf, Cond.instanceMethod yX4_sizeOf, Cond.selects RX4 yX4_sizeOf yX4_sizeOf, Cond.code yX4_sizeOf cX4_sizeOf 2 (some .int), Cond.fieldLink RX4 18 "MeridianSeries$Points" "sizes" "[I", Cond.methodLink RX4 34 yX4_openSize, Cond.instanceMethod yX4_openSize, Cond.selects RX4 yX4_openSize yX4_openSize, Cond.code yX4_openSize cX4_openSize 1 (some .int), Cond.fieldLink RX4 31 "MeridianSeries$Points" "amount" "I", Cond.sameField "MeridianSeries$Points" "MeridianSeries$Items" "amount" "I", Cond.fieldLink RX4 25 "MeridianSeries$Points" "sealedPoints" "I", Cond.methodLink RX4 42 yX4_number, Cond.instanceMethod yX4_number]
def wsX6_rollUpBy_r2 : List Cond := [Cond.selects RX4 yX4_number yX4_number, Cond.code yX4_number cX4_number 3 (some .int), Cond.fieldLink RX4 11 "MeridianSeries$Points" "times" "[I", Cond.fieldLink RX4 15 "MeridianSeries$Points" "values" "[I", Cond.methodLink RX6 55 yX6_rollUpFirstBlock, Cond.instanceMethod yX6_rollUpFirstBlock, Cond.selects RX6 yX6_rollUpFirstBlock yX6_rollUpFirstBlock, Cond.initialized RX6, Cond.code yX6_rollUpFirstBlock cX6_rollUpFirstBlock 4 none, Cond.fieldLink RX6 21 "MeridianSeries$Series" "fine" "LMeridianSeries$Buckets;", Cond.methodLink RX6 85 yX4_sizeOf, Cond.methodLink RX6 88 yX4_number, Cond.methodLink RX6 89 yX6_startFor, Cond.static yX6_startFor, Cond.code yX6_startFor cX6_startFor 2 (some .int), Cond.methodLink RX6 92 yX0_take, Cond.instanceMethod yX0_take, Cond.selects RX0 yX0_take yX0_take, Cond.initialized RX0, Cond.code yX0_take cX0_take 6 none, Cond.fieldLink RX0 15 "MeridianSeries$Buckets" "amount" "I", Cond.sameField "MeridianSeries$Buckets" "MeridianSeries$Items" "amount" "I", Cond.methodLink RX0 28 Lib.Math.min.name, Cond.static Lib.Math.min.name]
def wsX6_rollUpBy_r3 : List Cond := [Cond.initialized "java/lang/Math", Cond.code Lib.Math.min.name Lib.Math.min.code 2 (some .int), Cond.methodLink RX0 33 Lib.Math.max.name, Cond.static Lib.Math.max.name, Cond.code Lib.Math.max.name Lib.Math.max.code 2 (some .int), Cond.methodLink RX0 19 yX0_number, Cond.instanceMethod yX0_number, Cond.selects RX0 yX0_number yX0_number, Cond.code yX0_number cX0_number 4 (some .int), Cond.fieldLink RX0 11 "MeridianSeries$Buckets" "cells" "[I", Cond.methodLink RX0 23 ⟨"MeridianSeries$Items", "number", "(II)I"⟩, Cond.sameMethod "MeridianSeries$Items" "MeridianSeries$Items" "number" "(II)I", Cond.selects RX0 ⟨"MeridianSeries$Items", "number", "(II)I"⟩ yX0_number, Cond.selects RX4 ⟨"MeridianSeries$Items", "number", "(II)I"⟩ yX4_number, Cond.methodLink RX0 24 yX0_write, Cond.instanceMethod yX0_write, Cond.selects RX0 yX0_write yX0_write, Cond.code yX0_write cX0_write 5 none, Cond.methodLink RX6 96 yX0_isFull, Cond.instanceMethod yX0_isFull, Cond.selects RX0 yX0_isFull yX0_isFull, Cond.code yX0_isFull cX0_isFull 1 (some .boolean), Cond.methodLink RX6 76 yX6_rollUpFirstFine, Cond.instanceMethod yX6_rollUpFirstFine]
def wsX6_rollUpBy_r4 : List Cond := [Cond.selects RX6 yX6_rollUpFirstFine yX6_rollUpFirstFine, Cond.code yX6_rollUpFirstFine cX6_rollUpFirstFine 3 none, Cond.fieldLink RX6 102 "MeridianSeries$Settings" "fold" "I", Cond.fieldLink RX6 25 "MeridianSeries$Series" "coarse" "LMeridianSeries$Buckets;", Cond.methodLink RX6 82 yX0_number, Cond.methodLink RX6 105 yX0_dropFirst, Cond.instanceMethod yX0_dropFirst, Cond.selects RX0 yX0_dropFirst yX0_dropFirst, Cond.code yX0_dropFirst cX0_dropFirst 2 none, Cond.methodLink RX6 99 yX4_dropFirstBlock, Cond.instanceMethod yX4_dropFirstBlock, Cond.selects RX4 yX4_dropFirstBlock yX4_dropFirstBlock, Cond.code yX4_dropFirstBlock cX4_dropFirstBlock 3 none, Cond.methodLink RX4 53 yX4_copyPoint, Cond.instanceMethod yX4_copyPoint, Cond.selects RX4 yX4_copyPoint yX4_copyPoint, Cond.code yX4_copyPoint cX4_copyPoint 3 none, Cond.methodLink RX4 57 yX4_write, Cond.instanceMethod yX4_write, Cond.selects RX4 yX4_write yX4_write, Cond.code yX4_write cX4_write 4 none, Cond.methodLink RX6 72 yX6_fineEndingBy, Cond.instanceMethod yX6_fineEndingBy, Cond.selects RX6 yX6_fineEndingBy yX6_fineEndingBy]
def wsX6_rollUpBy_r5 : List Cond := [Cond.code yX6_fineEndingBy cX6_fineEndingBy 4 (some .int), Cond.fieldLink RX6 79 "MeridianSeries$Buckets" "amount" "I"]
def wsX6_rollUpBy : List Cond := .code yX6_rollUpBy cX6_rollUpBy 7 none :: ((wsX6_rollUpBy_r1 ++ (wsX6_rollUpBy_r2 ++ (wsX6_rollUpBy_r3 ++ (wsX6_rollUpBy_r4 ++ wsX6_rollUpBy_r5)))) ++ wsX70 ++ wsX60 ++ wsX40 ++ wsX00)
def wsX6_copyFrom_r1 : List Cond := [Cond.fieldLink RX6 12 "MeridianSeries$Series" "points" "LMeridianSeries$Points;", Cond.fieldLink RX6 21 "MeridianSeries$Series" "fine" "LMeridianSeries$Buckets;", Cond.fieldLink RX6 25 "MeridianSeries$Series" "coarse" "LMeridianSeries$Buckets;", Cond.methodLink RX6 146 yX4_copyFrom, Cond.instanceMethod yX4_copyFrom, Cond.selects RX4 yX4_copyFrom yX4_copyFrom, Cond.initialized RX4, Cond.code yX4_copyFrom cX4_copyFrom 3 none, Cond.fieldLink RX4 31 "MeridianSeries$Points" "amount" "I", Cond.sameField "MeridianSeries$Points" "MeridianSeries$Items" "amount" "I", Cond.fieldLink RX4 21 "MeridianSeries$Points" "sealedBlocks" "I", Cond.fieldLink RX4 18 "MeridianSeries$Points" "sizes" "[I", Cond.fieldLink RX4 25 "MeridianSeries$Points" "sealedPoints" "I", Cond.fieldLink RX4 28 "MeridianSeries$Points" "greatestSealedTime" "I", Cond.methodLink RX4 42 yX4_number, Cond.instanceMethod yX4_number, Cond.selects RX4 yX4_number yX4_number, Cond.code yX4_number cX4_number 3 (some .int), Cond.fieldLink RX4 11 "MeridianSeries$Points" "times" "[I", Cond.fieldLink RX4 15 "MeridianSeries$Points" "values" "[I", Cond.methodLink RX4 57 yX4_write, Cond.instanceMethod yX4_write, Cond.selects RX4 yX4_write yX4_write, Cond.code yX4_write cX4_write 4 none]
def wsX6_copyFrom_r2 : List Cond := [Cond.methodLink RX4 38 yX4_sizeOf, Cond.instanceMethod yX4_sizeOf, Cond.selects RX4 yX4_sizeOf yX4_sizeOf, Cond.code yX4_sizeOf cX4_sizeOf 2 (some .int), Cond.methodLink RX4 34 yX4_openSize, Cond.instanceMethod yX4_openSize, Cond.selects RX4 yX4_openSize yX4_openSize, Cond.code yX4_openSize cX4_openSize 1 (some .int), Cond.methodLink RX6 150 yX0_copyFrom, Cond.instanceMethod yX0_copyFrom, Cond.selects RX0 yX0_copyFrom yX0_copyFrom, Cond.initialized RX0, Cond.code yX0_copyFrom cX0_copyFrom 4 none, Cond.fieldLink RX0 15 "MeridianSeries$Buckets" "amount" "I", Cond.sameField "MeridianSeries$Buckets" "MeridianSeries$Items" "amount" "I", Cond.methodLink RX0 19 yX0_number, Cond.instanceMethod yX0_number, Cond.selects RX0 yX0_number yX0_number, Cond.code yX0_number cX0_number 4 (some .int), Cond.fieldLink RX0 11 "MeridianSeries$Buckets" "cells" "[I", Cond.methodLink RX0 24 yX0_write, Cond.instanceMethod yX0_write, Cond.selects RX0 yX0_write yX0_write, Cond.code yX0_write cX0_write 5 none]
def wsX6_copyFrom : List Cond := .code yX6_copyFrom cX6_copyFrom 2 none :: ((wsX6_copyFrom_r1 ++ wsX6_copyFrom_r2) ++ wsX60 ++ wsX00 ++ wsX40)
def wsX7_init : List Cond := .code yX7_init cX7_init 1 none :: ([.methodLink RX7 1 objectInit, .instanceMethod objectInit, .code objectInit ⟨#[0xb1]⟩ 1 none, .fieldLink RX7 7 "MeridianSeries$Settings" "span" "I", .fieldLink RX7 13 "MeridianSeries$Settings" "width" "I", .fieldLink RX7 16 "MeridianSeries$Settings" "fold" "I", .fieldLink RX7 19 "MeridianSeries$Settings" "keep" "I", .fieldLink RX7 22 "MeridianSeries$Settings" "longKeep" "I"] ++ wsX70)
def wsJxa1e45_init_da8c8 : List Cond := .code yJxa1e45_init_da8c8 cJxa1e45_init_da8c8 1 none :: ([.methodLink RJxa1e45 1 objectInit, .instanceMethod objectInit, .code objectInit ⟨#[0xb1]⟩ 1 none])
def wsJxc12de_init_da8c8 : List Cond := .code yJxc12de_init_da8c8 cJxc12de_init_da8c8 1 none :: ([.fieldLink RJxc12de 7 "java/util/AbstractList" "modCount" "I", .methodLink RJxc12de 1 yJxa1e45_init_da8c8, .instanceMethod yJxa1e45_init_da8c8, .initialized RJxa1e45, .code yJxa1e45_init_da8c8 cJxa1e45_init_da8c8 1 none, .methodLink RJxa1e45 1 objectInit, .instanceMethod objectInit, .code objectInit ⟨#[0xb1]⟩ 1 none] ++ wsJx4a65c0)
def wsJx4a65c_init_da8c8 : List Cond := .code yJx4a65c_init_da8c8 cJx4a65c_init_da8c8 1 none :: ([.fieldLink RJx4a65c 39 "java/util/ArrayList" "DEFAULTCAPACITY_EMPTY_ELEMENTDATA" "[Ljava/lang/Object;", .fieldLink RJx4a65c 9 "java/util/ArrayList" "elementData" "[Ljava/lang/Object;", .methodLink RJx4a65c 1 yJxc12de_init_da8c8, .instanceMethod yJxc12de_init_da8c8, .initialized RJxc12de, .code yJxc12de_init_da8c8 cJxc12de_init_da8c8 1 none, .fieldLink RJxc12de 7 "java/util/AbstractList" "modCount" "I", .methodLink RJxc12de 1 yJxa1e45_init_da8c8, .instanceMethod yJxa1e45_init_da8c8, .initialized RJxa1e45, .code yJxa1e45_init_da8c8 cJxa1e45_init_da8c8 1 none, .methodLink RJxa1e45 1 objectInit, .instanceMethod objectInit, .code objectInit ⟨#[0xb1]⟩ 1 none] ++ wsJx4a65c0)
def wsX8_init_r1 : List Cond := [Cond.methodLink RX8 1 objectInit, Cond.instanceMethod objectInit, Cond.code objectInit ⟨#[0xb1]⟩ 1 none, Cond.classLink RX8 7 RJx4a65c, Cond.instantiable RJx4a65c 3, Cond.initialized RJx4a65c, Cond.fieldLink RX8 10 "MeridianSeries$Store" "chains" "Ljava/util/ArrayList;", Cond.fieldLink RX8 16 "MeridianSeries$Store" "rules" "Ljava/util/ArrayList;", Cond.classLink RX8 19 RX1, Cond.instantiable RX1 3, Cond.initialized RX1, Cond.fieldLink RX8 22 "MeridianSeries$Store" "log" "LMeridianSeries$EventLog;", Cond.fieldLink RX8 26 "MeridianSeries$Store" "now" "I", Cond.fieldLink RX8 30 "MeridianSeries$Store" "settings" "LMeridianSeries$Settings;", Cond.methodLink RX8 9 yJx4a65c_init_da8c8, Cond.instanceMethod yJx4a65c_init_da8c8, Cond.code yJx4a65c_init_da8c8 cJx4a65c_init_da8c8 1 none, Cond.fieldLink RJx4a65c 39 "java/util/ArrayList" "DEFAULTCAPACITY_EMPTY_ELEMENTDATA" "[Ljava/lang/Object;", Cond.fieldLink RJx4a65c 9 "java/util/ArrayList" "elementData" "[Ljava/lang/Object;", Cond.methodLink RJx4a65c 1 yJxc12de_init_da8c8, Cond.instanceMethod yJxc12de_init_da8c8, Cond.initialized RJxc12de, Cond.code yJxc12de_init_da8c8 cJxc12de_init_da8c8 1 none, Cond.fieldLink RJxc12de 7 "java/util/AbstractList" "modCount" "I"]
def wsX8_init_r2 : List Cond := [Cond.methodLink RJxc12de 1 yJxa1e45_init_da8c8, Cond.instanceMethod yJxa1e45_init_da8c8, Cond.initialized RJxa1e45, Cond.code yJxa1e45_init_da8c8 cJxa1e45_init_da8c8 1 none, Cond.methodLink RJxa1e45 1 objectInit, Cond.instanceMethod yX1_init, Cond.code yX1_init cX1_init 1 none, Cond.methodLink RX1 3 objectInit, Cond.arrayClass .int, Cond.fieldLink RX1 9 "MeridianSeries$EventLog" "cells" "[I", Cond.fieldLink RX1 15 "MeridianSeries$EventLog" "total" "I", Cond.fieldLink RX1 19 "MeridianSeries$EventLog" "firings" "I"]
def wsX8_init : List Cond := .code yX8_init cX8_init 2 none :: ((wsX8_init_r1 ++ wsX8_init_r2) ++ wsJx4a65c0 ++ wsX80 ++ wsX10)
def wsJx4a65c_size_8abf5 : List Cond := .code yJx4a65c_size_8abf5 cJx4a65c_size_8abf5 1 (some .int) :: ([.fieldLink RJx4a65c 48 "java/util/ArrayList" "size" "I"] ++ wsJx4a65c0)
def wsJ3_checkIndex_8e157 : List Cond := .code yJ3_checkIndex_8e157 cJ3_checkIndex_8e157 3 (some .int) :: ([])
def wsJ15_checkIndex_7cf53 : List Cond := .code yJ15_checkIndex_7cf53 cJ15_checkIndex_7cf53 2 (some .int) :: ([.methodLink RJ15 105 yJ3_checkIndex_8e157, .static yJ3_checkIndex_8e157, .initialized RJ3, .code yJ3_checkIndex_8e157 cJ3_checkIndex_8e157 3 (some .int)])
def wsJx4a65c_elementData_915e3 : List Cond := .code yJx4a65c_elementData_915e3 cJx4a65c_elementData_915e3 2 (some (.object "java/lang/Object")) :: ([.fieldLink RJx4a65c 9 "java/util/ArrayList" "elementData" "[Ljava/lang/Object;"] ++ wsJx4a65c0)
def wsJx4a65c_get_915e3 : List Cond := .code yJx4a65c_get_915e3 cJx4a65c_get_915e3 2 (some (.object "java/lang/Object")) :: ([.fieldLink RJx4a65c 48 "java/util/ArrayList" "size" "I", .methodLink RJx4a65c 118 yJ15_checkIndex_7cf53, .static yJ15_checkIndex_7cf53, .initialized RJ15, .code yJ15_checkIndex_7cf53 cJ15_checkIndex_7cf53 2 (some .int), .methodLink RJ15 105 yJ3_checkIndex_8e157, .static yJ3_checkIndex_8e157, .initialized RJ3, .code yJ3_checkIndex_8e157 cJ3_checkIndex_8e157 3 (some .int), .methodLink RJx4a65c 123 yJx4a65c_elementData_915e3, .instanceMethod yJx4a65c_elementData_915e3, .selects RJx4a65c yJx4a65c_elementData_915e3 yJx4a65c_elementData_915e3, .initialized RJx4a65c, .code yJx4a65c_elementData_915e3 cJx4a65c_elementData_915e3 2 (some (.object "java/lang/Object")), .fieldLink RJx4a65c 9 "java/util/ArrayList" "elementData" "[Ljava/lang/Object;"] ++ wsJx4a65c0)
def wsX8_hasBucket_r1 : List Cond := [Cond.fieldLink RX8 10 "MeridianSeries$Store" "chains" "Ljava/util/ArrayList;", Cond.classLink RX8 42 "MeridianSeries$Series", Cond.fieldLink RX8 44 "MeridianSeries$Series" "fine" "LMeridianSeries$Buckets;", Cond.fieldLink RX8 48 "MeridianSeries$Buckets" "amount" "I", Cond.sameField "MeridianSeries$Buckets" "MeridianSeries$Items" "amount" "I", Cond.fieldLink RX8 53 "MeridianSeries$Series" "coarse" "LMeridianSeries$Buckets;", Cond.methodLink RX8 34 yJx4a65c_size_8abf5, Cond.instanceMethod yJx4a65c_size_8abf5, Cond.selects RJx4a65c yJx4a65c_size_8abf5 yJx4a65c_size_8abf5, Cond.initialized RJx4a65c, Cond.code yJx4a65c_size_8abf5 cJx4a65c_size_8abf5 1 (some .int), Cond.fieldLink RJx4a65c 48 "java/util/ArrayList" "size" "I", Cond.methodLink RX8 38 yJx4a65c_get_915e3, Cond.instanceMethod yJx4a65c_get_915e3, Cond.selects RJx4a65c yJx4a65c_get_915e3 yJx4a65c_get_915e3, Cond.code yJx4a65c_get_915e3 cJx4a65c_get_915e3 2 (some (.object "java/lang/Object")), Cond.methodLink RJx4a65c 118 yJ15_checkIndex_7cf53, Cond.static yJ15_checkIndex_7cf53, Cond.initialized RJ15, Cond.code yJ15_checkIndex_7cf53 cJ15_checkIndex_7cf53 2 (some .int), Cond.methodLink RJ15 105 yJ3_checkIndex_8e157, Cond.static yJ3_checkIndex_8e157, Cond.initialized RJ3, Cond.code yJ3_checkIndex_8e157 cJ3_checkIndex_8e157 3 (some .int)]
def wsX8_hasBucket_r2 : List Cond := [Cond.methodLink RJx4a65c 123 yJx4a65c_elementData_915e3, Cond.instanceMethod yJx4a65c_elementData_915e3, Cond.selects RJx4a65c yJx4a65c_elementData_915e3 yJx4a65c_elementData_915e3, Cond.code yJx4a65c_elementData_915e3 cJx4a65c_elementData_915e3 2 (some (.object "java/lang/Object")), Cond.fieldLink RJx4a65c 9 "java/util/ArrayList" "elementData" "[Ljava/lang/Object;"]
def wsX8_hasBucket : List Cond := .code yX8_hasBucket cX8_hasBucket 2 (some .boolean) :: ((wsX8_hasBucket_r1 ++ wsX8_hasBucket_r2) ++ wsX80 ++ wsX60 ++ wsX00 ++ wsX40 ++ wsJx4a65c0)
def wsX8_goOnByOne_r1 : List Cond := [Cond.fieldLink RX8 26 "MeridianSeries$Store" "now" "I", Cond.fieldLink RX8 10 "MeridianSeries$Store" "chains" "Ljava/util/ArrayList;", Cond.classLink RX8 42 "MeridianSeries$Series", Cond.fieldLink RX8 30 "MeridianSeries$Store" "settings" "LMeridianSeries$Settings;", Cond.fieldLink RX8 16 "MeridianSeries$Store" "rules" "Ljava/util/ArrayList;", Cond.classLink RX8 60 "MeridianSeries$Rule", Cond.fieldLink RX8 22 "MeridianSeries$Store" "log" "LMeridianSeries$EventLog;", Cond.fieldLink RX8 73 "MeridianSeries$Rule" "state" "I", Cond.methodLink RX8 34 yJx4a65c_size_8abf5, Cond.instanceMethod yJx4a65c_size_8abf5, Cond.selects RJx4a65c yJx4a65c_size_8abf5 yJx4a65c_size_8abf5, Cond.initialized RJx4a65c, Cond.code yJx4a65c_size_8abf5 cJx4a65c_size_8abf5 1 (some .int), Cond.fieldLink RJx4a65c 48 "java/util/ArrayList" "size" "I", Cond.methodLink RX8 38 yJx4a65c_get_915e3, Cond.instanceMethod yJx4a65c_get_915e3, Cond.selects RJx4a65c yJx4a65c_get_915e3 yJx4a65c_get_915e3, Cond.code yJx4a65c_get_915e3 cJx4a65c_get_915e3 2 (some (.object "java/lang/Object")), Cond.methodLink RJx4a65c 118 yJ15_checkIndex_7cf53, Cond.static yJ15_checkIndex_7cf53, Cond.initialized RJ15, Cond.code yJ15_checkIndex_7cf53 cJ15_checkIndex_7cf53 2 (some .int), Cond.methodLink RJ15 105 yJ3_checkIndex_8e157, Cond.static yJ3_checkIndex_8e157]
def wsX8_goOnByOne_r2 : List Cond := [Cond.initialized RJ3, Cond.code yJ3_checkIndex_8e157 cJ3_checkIndex_8e157 3 (some .int), Cond.methodLink RJx4a65c 123 yJx4a65c_elementData_915e3, Cond.instanceMethod yJx4a65c_elementData_915e3, Cond.selects RJx4a65c yJx4a65c_elementData_915e3 yJx4a65c_elementData_915e3, Cond.code yJx4a65c_elementData_915e3 cJx4a65c_elementData_915e3 2 (some (.object "java/lang/Object")), Cond.fieldLink RJx4a65c 9 "java/util/ArrayList" "elementData" "[Ljava/lang/Object;", Cond.methodLink RX8 56 yX6_rollUpBy, Cond.instanceMethod yX6_rollUpBy, Cond.selects RX6 yX6_rollUpBy yX6_rollUpBy, Cond.initialized RX6, Cond.code yX6_rollUpBy cX6_rollUpBy 7 none, Cond.fieldLink RX6 59 "MeridianSeries$Settings" "keep" "I", Cond.fieldLink RX6 12 "MeridianSeries$Series" "points" "LMeridianSeries$Points;", Cond.fieldLink RX6 66 "MeridianSeries$Settings" "longKeep" "I", Cond.fieldLink RX6 69 "MeridianSeries$Settings" "width" "I", Cond.methodLink RX6 62 yX4_blocksBelow, Cond.instanceMethod yX4_blocksBelow, Cond.selects RX4 yX4_blocksBelow yX4_blocksBelow, Cond.initialized RX4, Cond.code yX4_blocksBelow cX4_blocksBelow 4 (some .int), Cond.fieldLink RX4 21 "MeridianSeries$Points" "sealedBlocks" "I", Cond.methodLink RX4 38 yX4_sizeOf, Cond.instanceMethod yX4_sizeOf]
def wsX8_goOnByOne_r3 : List Cond := [Cond.selects RX4 yX4_sizeOf yX4_sizeOf, Cond.code yX4_sizeOf cX4_sizeOf 2 (some .int), Cond.fieldLink RX4 18 "MeridianSeries$Points" "sizes" "[I", Cond.methodLink RX4 34 yX4_openSize, Cond.instanceMethod yX4_openSize, Cond.selects RX4 yX4_openSize yX4_openSize, Cond.code yX4_openSize cX4_openSize 1 (some .int), Cond.fieldLink RX4 31 "MeridianSeries$Points" "amount" "I", Cond.sameField "MeridianSeries$Points" "MeridianSeries$Items" "amount" "I", Cond.fieldLink RX4 25 "MeridianSeries$Points" "sealedPoints" "I", Cond.methodLink RX4 42 yX4_number, Cond.instanceMethod yX4_number, Cond.selects RX4 yX4_number yX4_number, Cond.code yX4_number cX4_number 3 (some .int), Cond.fieldLink RX4 11 "MeridianSeries$Points" "times" "[I", Cond.fieldLink RX4 15 "MeridianSeries$Points" "values" "[I", Cond.methodLink RX6 55 yX6_rollUpFirstBlock, Cond.instanceMethod yX6_rollUpFirstBlock, Cond.selects RX6 yX6_rollUpFirstBlock yX6_rollUpFirstBlock, Cond.code yX6_rollUpFirstBlock cX6_rollUpFirstBlock 4 none, Cond.fieldLink RX6 21 "MeridianSeries$Series" "fine" "LMeridianSeries$Buckets;", Cond.methodLink RX6 85 yX4_sizeOf, Cond.methodLink RX6 88 yX4_number, Cond.methodLink RX6 89 yX6_startFor]
def wsX8_goOnByOne_r4 : List Cond := [Cond.static yX6_startFor, Cond.code yX6_startFor cX6_startFor 2 (some .int), Cond.methodLink RX6 92 yX0_take, Cond.instanceMethod yX0_take, Cond.selects RX0 yX0_take yX0_take, Cond.initialized RX0, Cond.code yX0_take cX0_take 6 none, Cond.fieldLink RX0 15 "MeridianSeries$Buckets" "amount" "I", Cond.sameField "MeridianSeries$Buckets" "MeridianSeries$Items" "amount" "I", Cond.methodLink RX0 28 Lib.Math.min.name, Cond.static Lib.Math.min.name, Cond.initialized "java/lang/Math", Cond.code Lib.Math.min.name Lib.Math.min.code 2 (some .int), Cond.methodLink RX0 33 Lib.Math.max.name, Cond.static Lib.Math.max.name, Cond.code Lib.Math.max.name Lib.Math.max.code 2 (some .int), Cond.methodLink RX0 19 yX0_number, Cond.instanceMethod yX0_number, Cond.selects RX0 yX0_number yX0_number, Cond.code yX0_number cX0_number 4 (some .int), Cond.fieldLink RX0 11 "MeridianSeries$Buckets" "cells" "[I", Cond.methodLink RX0 23 ⟨"MeridianSeries$Items", "number", "(II)I"⟩, Cond.sameMethod "MeridianSeries$Items" "MeridianSeries$Items" "number" "(II)I", Cond.selects RX0 ⟨"MeridianSeries$Items", "number", "(II)I"⟩ yX0_number]
def wsX8_goOnByOne_r5 : List Cond := [Cond.selects RX4 ⟨"MeridianSeries$Items", "number", "(II)I"⟩ yX4_number, Cond.methodLink RX0 24 yX0_write, Cond.instanceMethod yX0_write, Cond.selects RX0 yX0_write yX0_write, Cond.code yX0_write cX0_write 5 none, Cond.methodLink RX6 96 yX0_isFull, Cond.instanceMethod yX0_isFull, Cond.selects RX0 yX0_isFull yX0_isFull, Cond.code yX0_isFull cX0_isFull 1 (some .boolean), Cond.methodLink RX6 76 yX6_rollUpFirstFine, Cond.instanceMethod yX6_rollUpFirstFine, Cond.selects RX6 yX6_rollUpFirstFine yX6_rollUpFirstFine, Cond.code yX6_rollUpFirstFine cX6_rollUpFirstFine 3 none, Cond.fieldLink RX6 102 "MeridianSeries$Settings" "fold" "I", Cond.fieldLink RX6 25 "MeridianSeries$Series" "coarse" "LMeridianSeries$Buckets;", Cond.methodLink RX6 82 yX0_number, Cond.methodLink RX6 105 yX0_dropFirst, Cond.instanceMethod yX0_dropFirst, Cond.selects RX0 yX0_dropFirst yX0_dropFirst, Cond.code yX0_dropFirst cX0_dropFirst 2 none, Cond.methodLink RX6 99 yX4_dropFirstBlock, Cond.instanceMethod yX4_dropFirstBlock, Cond.selects RX4 yX4_dropFirstBlock yX4_dropFirstBlock, Cond.code yX4_dropFirstBlock cX4_dropFirstBlock 3 none]
def wsX8_goOnByOne_r6 : List Cond := [Cond.methodLink RX4 53 yX4_copyPoint, Cond.instanceMethod yX4_copyPoint, Cond.selects RX4 yX4_copyPoint yX4_copyPoint, Cond.code yX4_copyPoint cX4_copyPoint 3 none, Cond.methodLink RX4 57 yX4_write, Cond.instanceMethod yX4_write, Cond.selects RX4 yX4_write yX4_write, Cond.code yX4_write cX4_write 4 none, Cond.methodLink RX6 72 yX6_fineEndingBy, Cond.instanceMethod yX6_fineEndingBy, Cond.selects RX6 yX6_fineEndingBy yX6_fineEndingBy, Cond.code yX6_fineEndingBy cX6_fineEndingBy 4 (some .int), Cond.fieldLink RX6 79 "MeridianSeries$Buckets" "amount" "I", Cond.methodLink RX8 62 yX5_isDueAt, Cond.instanceMethod yX5_isDueAt, Cond.selects RX5 yX5_isDueAt yX5_isDueAt, Cond.initialized RX5, Cond.code yX5_isDueAt cX5_isDueAt 2 (some .boolean), Cond.fieldLink RX5 28 "MeridianSeries$Rule" "every" "I", Cond.methodLink RX8 66 yX5_told, Cond.instanceMethod yX5_told, Cond.selects RX5 yX5_told yX5_told, Cond.code yX5_told cX5_told 2 (some .int), Cond.fieldLink RX5 18 "MeridianSeries$Rule" "chain" "LMeridianSeries$Series;"]
def wsX8_goOnByOne_r7 : List Cond := [Cond.fieldLink RX5 25 "MeridianSeries$Rule" "length" "I", Cond.fieldLink RX5 22 "MeridianSeries$Rule" "what" "I", Cond.methodLink RX5 41 yX6_tell, Cond.instanceMethod yX6_tell, Cond.selects RX6 yX6_tell yX6_tell, Cond.code yX6_tell cX6_tell 7 (some .int), Cond.methodLink RX6 115 yX6_firstItemFrom, Cond.instanceMethod yX6_firstItemFrom, Cond.selects RX6 yX6_firstItemFrom yX6_firstItemFrom, Cond.code yX6_firstItemFrom cX6_firstItemFrom 6 (some .int), Cond.methodLink RX6 109 yX6_itemCount, Cond.instanceMethod yX6_itemCount, Cond.selects RX6 yX6_itemCount yX6_itemCount, Cond.code yX6_itemCount cX6_itemCount 1 (some .int), Cond.fieldLink RX6 108 "MeridianSeries$Points" "amount" "I", Cond.methodLink RX6 112 yX6_ofItem, Cond.instanceMethod yX6_ofItem, Cond.selects RX6 yX6_ofItem yX6_ofItem, Cond.code yX6_ofItem cX6_ofItem 4 (some .int), Cond.methodLink RX6 118 yX6_toldOfGap, Cond.instanceMethod yX6_toldOfGap, Cond.selects RX6 yX6_toldOfGap yX6_toldOfGap, Cond.code yX6_toldOfGap cX6_toldOfGap 5 (some .int), Cond.constant RX6 134 (-1000000)]
def wsX8_goOnByOne_r8 : List Cond := [Cond.methodLink RX6 135 yX6_onLine, Cond.instanceMethod yX6_onLine, Cond.selects RX6 yX6_onLine yX6_onLine, Cond.code yX6_onLine cX6_onLine 9 (some .int), Cond.methodLink RX6 122 yX6_total, Cond.instanceMethod yX6_total, Cond.selects RX6 yX6_total yX6_total, Cond.code yX6_total cX6_total 6 (some .int), Cond.methodLink RX6 125 yX6_least, Cond.instanceMethod yX6_least, Cond.selects RX6 yX6_least yX6_least, Cond.code yX6_least cX6_least 5 (some .int), Cond.methodLink RX6 138 Lib.Math.min.name, Cond.methodLink RX6 128 yX6_greatest, Cond.instanceMethod yX6_greatest, Cond.selects RX6 yX6_greatest yX6_greatest, Cond.code yX6_greatest cX6_greatest 5 (some .int), Cond.methodLink RX6 143 Lib.Math.max.name, Cond.methodLink RX6 131 yX6_quotient, Cond.static yX6_quotient, Cond.code yX6_quotient cX6_quotient 2 (some .int), Cond.methodLink RX8 70 yX5_changesBy, Cond.instanceMethod yX5_changesBy, Cond.selects RX5 yX5_changesBy yX5_changesBy]
def wsX8_goOnByOne_r9 : List Cond := [Cond.code yX5_changesBy cX5_changesBy 3 (some .boolean), Cond.constant RX5 47 (-1000000), Cond.fieldLink RX5 31 "MeridianSeries$Rule" "isAbove" "Z", Cond.fieldLink RX5 35 "MeridianSeries$Rule" "limit" "I", Cond.fieldLink RX5 9 "MeridianSeries$Rule" "state" "I", Cond.methodLink RX5 48 yX5_ceases, Cond.instanceMethod yX5_ceases, Cond.selects RX5 yX5_ceases yX5_ceases, Cond.code yX5_ceases cX5_ceases 2 (some .boolean), Cond.fieldLink RX5 15 "MeridianSeries$Rule" "timesInRow" "I", Cond.fieldLink RX5 38 "MeridianSeries$Rule" "times" "I", Cond.methodLink RX5 55 yX5_become, Cond.instanceMethod yX5_become, Cond.selects RX5 yX5_become yX5_become, Cond.code yX5_become cX5_become 2 none, Cond.methodLink RX5 52 yX5_begins, Cond.instanceMethod yX5_begins, Cond.selects RX5 yX5_begins yX5_begins, Cond.code yX5_begins cX5_begins 2 (some .boolean), Cond.methodLink RX8 76 yX1_add, Cond.instanceMethod yX1_add, Cond.selects RX1 yX1_add yX1_add, Cond.initialized RX1, Cond.code yX1_add cX1_add 5 none]
def wsX8_goOnByOne_r10 : List Cond := [Cond.fieldLink RX1 15 "MeridianSeries$EventLog" "total" "I", Cond.fieldLink RX1 9 "MeridianSeries$EventLog" "cells" "[I", Cond.fieldLink RX1 19 "MeridianSeries$EventLog" "firings" "I"]
def wsX8_goOnByOne : List Cond := .code yX8_goOnByOne cX8_goOnByOne 3 none :: ((wsX8_goOnByOne_r1 ++ (wsX8_goOnByOne_r2 ++ (wsX8_goOnByOne_r3 ++ (wsX8_goOnByOne_r4 ++ (wsX8_goOnByOne_r5 ++ (wsX8_goOnByOne_r6 ++ (wsX8_goOnByOne_r7 ++ (wsX8_goOnByOne_r8 ++ (wsX8_goOnByOne_r9 ++ wsX8_goOnByOne_r10))))))))) ++ wsX80 ++ wsX50 ++ wsJx4a65c0 ++ wsX70 ++ wsX60 ++ wsX40 ++ wsX00 ++ wsX10)
def wsX8_copyFrom_r1 : List Cond := [Cond.fieldLink RX8 26 "MeridianSeries$Store" "now" "I", Cond.fieldLink RX8 10 "MeridianSeries$Store" "chains" "Ljava/util/ArrayList;", Cond.classLink RX8 42 "MeridianSeries$Series", Cond.fieldLink RX8 16 "MeridianSeries$Store" "rules" "Ljava/util/ArrayList;", Cond.classLink RX8 60 "MeridianSeries$Rule", Cond.methodLink RX8 34 yJx4a65c_size_8abf5, Cond.instanceMethod yJx4a65c_size_8abf5, Cond.selects RJx4a65c yJx4a65c_size_8abf5 yJx4a65c_size_8abf5, Cond.initialized RJx4a65c, Cond.code yJx4a65c_size_8abf5 cJx4a65c_size_8abf5 1 (some .int), Cond.fieldLink RJx4a65c 48 "java/util/ArrayList" "size" "I", Cond.methodLink RX8 38 yJx4a65c_get_915e3, Cond.instanceMethod yJx4a65c_get_915e3, Cond.selects RJx4a65c yJx4a65c_get_915e3 yJx4a65c_get_915e3, Cond.code yJx4a65c_get_915e3 cJx4a65c_get_915e3 2 (some (.object "java/lang/Object")), Cond.methodLink RJx4a65c 118 yJ15_checkIndex_7cf53, Cond.static yJ15_checkIndex_7cf53, Cond.initialized RJ15, Cond.code yJ15_checkIndex_7cf53 cJ15_checkIndex_7cf53 2 (some .int), Cond.methodLink RJ15 105 yJ3_checkIndex_8e157, Cond.static yJ3_checkIndex_8e157, Cond.initialized RJ3, Cond.code yJ3_checkIndex_8e157 cJ3_checkIndex_8e157 3 (some .int), Cond.methodLink RJx4a65c 123 yJx4a65c_elementData_915e3]
def wsX8_copyFrom_r2 : List Cond := [Cond.instanceMethod yJx4a65c_elementData_915e3, Cond.selects RJx4a65c yJx4a65c_elementData_915e3 yJx4a65c_elementData_915e3, Cond.code yJx4a65c_elementData_915e3 cJx4a65c_elementData_915e3 2 (some (.object "java/lang/Object")), Cond.fieldLink RJx4a65c 9 "java/util/ArrayList" "elementData" "[Ljava/lang/Object;", Cond.methodLink RX8 80 yX6_copyFrom, Cond.instanceMethod yX6_copyFrom, Cond.selects RX6 yX6_copyFrom yX6_copyFrom, Cond.initialized RX6, Cond.code yX6_copyFrom cX6_copyFrom 2 none, Cond.fieldLink RX6 12 "MeridianSeries$Series" "points" "LMeridianSeries$Points;", Cond.fieldLink RX6 21 "MeridianSeries$Series" "fine" "LMeridianSeries$Buckets;", Cond.fieldLink RX6 25 "MeridianSeries$Series" "coarse" "LMeridianSeries$Buckets;", Cond.methodLink RX6 146 yX4_copyFrom, Cond.instanceMethod yX4_copyFrom, Cond.selects RX4 yX4_copyFrom yX4_copyFrom, Cond.initialized RX4, Cond.code yX4_copyFrom cX4_copyFrom 3 none, Cond.fieldLink RX4 31 "MeridianSeries$Points" "amount" "I", Cond.sameField "MeridianSeries$Points" "MeridianSeries$Items" "amount" "I", Cond.fieldLink RX4 21 "MeridianSeries$Points" "sealedBlocks" "I", Cond.fieldLink RX4 18 "MeridianSeries$Points" "sizes" "[I", Cond.fieldLink RX4 25 "MeridianSeries$Points" "sealedPoints" "I", Cond.fieldLink RX4 28 "MeridianSeries$Points" "greatestSealedTime" "I", Cond.methodLink RX4 42 yX4_number]
def wsX8_copyFrom_r3 : List Cond := [Cond.instanceMethod yX4_number, Cond.selects RX4 yX4_number yX4_number, Cond.code yX4_number cX4_number 3 (some .int), Cond.fieldLink RX4 11 "MeridianSeries$Points" "times" "[I", Cond.fieldLink RX4 15 "MeridianSeries$Points" "values" "[I", Cond.methodLink RX4 57 yX4_write, Cond.instanceMethod yX4_write, Cond.selects RX4 yX4_write yX4_write, Cond.code yX4_write cX4_write 4 none, Cond.methodLink RX4 38 yX4_sizeOf, Cond.instanceMethod yX4_sizeOf, Cond.selects RX4 yX4_sizeOf yX4_sizeOf, Cond.code yX4_sizeOf cX4_sizeOf 2 (some .int), Cond.methodLink RX4 34 yX4_openSize, Cond.instanceMethod yX4_openSize, Cond.selects RX4 yX4_openSize yX4_openSize, Cond.code yX4_openSize cX4_openSize 1 (some .int), Cond.methodLink RX6 150 yX0_copyFrom, Cond.instanceMethod yX0_copyFrom, Cond.selects RX0 yX0_copyFrom yX0_copyFrom, Cond.initialized RX0, Cond.code yX0_copyFrom cX0_copyFrom 4 none, Cond.fieldLink RX0 15 "MeridianSeries$Buckets" "amount" "I", Cond.sameField "MeridianSeries$Buckets" "MeridianSeries$Items" "amount" "I"]
def wsX8_copyFrom_r4 : List Cond := [Cond.methodLink RX0 19 yX0_number, Cond.instanceMethod yX0_number, Cond.selects RX0 yX0_number yX0_number, Cond.code yX0_number cX0_number 4 (some .int), Cond.fieldLink RX0 11 "MeridianSeries$Buckets" "cells" "[I", Cond.methodLink RX0 24 yX0_write, Cond.instanceMethod yX0_write, Cond.selects RX0 yX0_write yX0_write, Cond.code yX0_write cX0_write 5 none, Cond.methodLink RX8 84 yX5_copyFrom, Cond.instanceMethod yX5_copyFrom, Cond.selects RX5 yX5_copyFrom yX5_copyFrom, Cond.initialized RX5, Cond.code yX5_copyFrom cX5_copyFrom 2 none, Cond.fieldLink RX5 9 "MeridianSeries$Rule" "state" "I", Cond.fieldLink RX5 15 "MeridianSeries$Rule" "timesInRow" "I"]
def wsX8_copyFrom : List Cond := .code yX8_copyFrom cX8_copyFrom 3 none :: ((wsX8_copyFrom_r1 ++ (wsX8_copyFrom_r2 ++ (wsX8_copyFrom_r3 ++ wsX8_copyFrom_r4))) ++ wsX80 ++ wsJx4a65c0 ++ wsX60 ++ wsX00 ++ wsX40 ++ wsX50)
def wsX9_init_r1 : List Cond := [Cond.methodLink RX9 1 objectInit, Cond.instanceMethod objectInit, Cond.code objectInit ⟨#[0xb1]⟩ 1 none, Cond.classLink RX9 7 RX7, Cond.instantiable RX7 5, Cond.initialized RX7, Cond.fieldLink RX9 10 "MeridianSeries" "settings" "LMeridianSeries$Settings;", Cond.classLink RX9 16 RX8, Cond.instantiable RX8 5, Cond.initialized RX8, Cond.fieldLink RX9 21 "MeridianSeries" "store" "LMeridianSeries$Store;", Cond.fieldLink RX9 25 "MeridianSeries" "trial" "LMeridianSeries$Store;", Cond.classLink RX9 28 RX3, Cond.instantiable RX3 6, Cond.initialized RX3, Cond.fieldLink RX9 31 "MeridianSeries" "packer" "LMeridianSeries$Packer;", Cond.fieldLink RX9 35 "MeridianSeries" "queryFrom" "I", Cond.fieldLink RX9 39 "MeridianSeries" "queryStep" "I", Cond.fieldLink RX9 42 "MeridianSeries" "queryWhat" "I", Cond.fieldLink RX9 45 "MeridianSeries" "queryFill" "I", Cond.fieldLink RX9 48 "MeridianSeries" "lateCount" "I", Cond.instanceMethod yX7_init, Cond.code yX7_init cX7_init 1 none, Cond.methodLink RX7 1 objectInit]
def wsX9_init_r2 : List Cond := [Cond.fieldLink RX7 7 "MeridianSeries$Settings" "span" "I", Cond.fieldLink RX7 13 "MeridianSeries$Settings" "width" "I", Cond.fieldLink RX7 16 "MeridianSeries$Settings" "fold" "I", Cond.fieldLink RX7 19 "MeridianSeries$Settings" "keep" "I", Cond.fieldLink RX7 22 "MeridianSeries$Settings" "longKeep" "I", Cond.methodLink RX9 18 yX8_init, Cond.instanceMethod yX8_init, Cond.code yX8_init cX8_init 2 none, Cond.methodLink RX8 1 objectInit, Cond.classLink RX8 7 RJx4a65c, Cond.instantiable RJx4a65c 3, Cond.initialized RJx4a65c, Cond.fieldLink RX8 10 "MeridianSeries$Store" "chains" "Ljava/util/ArrayList;", Cond.fieldLink RX8 16 "MeridianSeries$Store" "rules" "Ljava/util/ArrayList;", Cond.classLink RX8 19 RX1, Cond.instantiable RX1 3, Cond.initialized RX1, Cond.fieldLink RX8 22 "MeridianSeries$Store" "log" "LMeridianSeries$EventLog;", Cond.fieldLink RX8 26 "MeridianSeries$Store" "now" "I", Cond.fieldLink RX8 30 "MeridianSeries$Store" "settings" "LMeridianSeries$Settings;", Cond.methodLink RX8 9 yJx4a65c_init_da8c8, Cond.instanceMethod yJx4a65c_init_da8c8, Cond.code yJx4a65c_init_da8c8 cJx4a65c_init_da8c8 1 none, Cond.fieldLink RJx4a65c 39 "java/util/ArrayList" "DEFAULTCAPACITY_EMPTY_ELEMENTDATA" "[Ljava/lang/Object;"]
def wsX9_init_r3 : List Cond := [Cond.fieldLink RJx4a65c 9 "java/util/ArrayList" "elementData" "[Ljava/lang/Object;", Cond.methodLink RJx4a65c 1 yJxc12de_init_da8c8, Cond.instanceMethod yJxc12de_init_da8c8, Cond.initialized RJxc12de, Cond.code yJxc12de_init_da8c8 cJxc12de_init_da8c8 1 none, Cond.fieldLink RJxc12de 7 "java/util/AbstractList" "modCount" "I", Cond.methodLink RJxc12de 1 yJxa1e45_init_da8c8, Cond.instanceMethod yJxa1e45_init_da8c8, Cond.initialized RJxa1e45, Cond.code yJxa1e45_init_da8c8 cJxa1e45_init_da8c8 1 none, Cond.methodLink RJxa1e45 1 objectInit, Cond.instanceMethod yX1_init, Cond.code yX1_init cX1_init 1 none, Cond.methodLink RX1 3 objectInit, Cond.arrayClass .int, Cond.fieldLink RX1 9 "MeridianSeries$EventLog" "cells" "[I", Cond.fieldLink RX1 15 "MeridianSeries$EventLog" "total" "I", Cond.fieldLink RX1 19 "MeridianSeries$EventLog" "firings" "I", Cond.instanceMethod yX3_init, Cond.code yX3_init cX3_init 1 none, Cond.methodLink RX3 3 objectInit, Cond.fieldLink RX3 11 "MeridianSeries$Packer" "words" "[I", Cond.fieldLink RX3 15 "MeridianSeries$Packer" "length" "I", Cond.fieldLink RX3 19 "MeridianSeries$Packer" "packed" "I"]
def wsX9_init_r4 : List Cond := [Cond.fieldLink RX3 22 "MeridianSeries$Packer" "lastTime" "I", Cond.fieldLink RX3 25 "MeridianSeries$Packer" "lastStep" "I", Cond.fieldLink RX3 28 "MeridianSeries$Packer" "lastValue" "I"]
def wsX9_init : List Cond := .code yX9_init cX9_init 1 none :: ((wsX9_init_r1 ++ (wsX9_init_r2 ++ (wsX9_init_r3 ++ wsX9_init_r4))) ++ wsX70 ++ wsX90 ++ wsX80 ++ wsX30 ++ wsJx4a65c0 ++ wsX10)
def wsX9_needArgument : List Cond := .code yX9_needArgument cX9_needArgument 1 none :: ([.classLink RX9 280 "java/lang/IllegalArgumentException", .initialized "java/lang/IllegalArgumentException"] ++ (vx_atS RX9 284 "java/lang/IllegalArgumentException" ["java/lang/RuntimeException", "java/lang/Exception"]).filter goodWord)
def wsX9_needState : List Cond := .code yX9_needState cX9_needState 1 none :: ([.classLink RX9 292 "java/lang/IllegalStateException", .initialized "java/lang/IllegalStateException"] ++ (vx_atS RX9 296 "java/lang/IllegalStateException" ["java/lang/RuntimeException", "java/lang/Exception"]).filter goodWord)
def wsJ8_hugeLength_7cf53 : List Cond := .code yJ8_hugeLength_7cf53 cJ8_hugeLength_7cf53 3 (some .int) :: ([.constant RJ8 200 (2147483639)])
def wsJ8_newLength_cabcc : List Cond := .code yJ8_newLength_cabcc cJ8_newLength_cabcc 4 (some .int) :: ([.methodLink RJ8 194 Lib.Math.max.name, .static Lib.Math.max.name, .initialized "java/lang/Math", .code Lib.Math.max.name Lib.Math.max.code 2 (some .int), .constant RJ8 200 (2147483639), .methodLink RJ8 201 yJ8_hugeLength_7cf53, .static yJ8_hugeLength_7cf53, .initialized RJ8, .code yJ8_hugeLength_7cf53 cJ8_hugeLength_7cf53 3 (some .int)])
def wsJ7_copyOf_6403c : List Cond := .code yJ7_copyOf_6403c cJ7_copyOf_6403c 4 (some (.array (.object "java/lang/Object"))) :: ([.classLink RJ7 110 "[Ljava/lang/Object;", .classLink RJ7 2 "java/lang/Object", .methodLink RJ7 304 Lib.Math.min.name, .static Lib.Math.min.name, .initialized "java/lang/Math", .code Lib.Math.min.name Lib.Math.min.code 2 (some .int), .methodLink RJ7 150 arraycopyName, .native arraycopyName, .static arraycopyName, .initialized "java/lang/System"])
def wsJ7_copyOf_1904c : List Cond := .code yJ7_copyOf_1904c cJ7_copyOf_1904c 2 (some (.array (.object "java/lang/Object"))) :: ([.methodLink RJ7 86 ⟨"java/lang/Object", "getClass", "()Ljava/lang/Class;"⟩, .selects "[Ljava/lang/Object;" ⟨"java/lang/Object", "getClass", "()Ljava/lang/Class;"⟩ ⟨"java/lang/Object", "getClass", "()Ljava/lang/Class;"⟩, .instanceMethod ⟨"java/lang/Object", "getClass", "()Ljava/lang/Class;"⟩, .native ⟨"java/lang/Object", "getClass", "()Ljava/lang/Class;"⟩, .methodLink RJ7 300 yJ7_copyOf_6403c, .static yJ7_copyOf_6403c, .initialized RJ7, .code yJ7_copyOf_6403c cJ7_copyOf_6403c 4 (some (.array (.object "java/lang/Object"))), .classLink RJ7 110 "[Ljava/lang/Object;", .classLink RJ7 2 "java/lang/Object", .methodLink RJ7 304 Lib.Math.min.name, .static Lib.Math.min.name, .initialized "java/lang/Math", .code Lib.Math.min.name Lib.Math.min.code 2 (some .int), .methodLink RJ7 150 arraycopyName, .native arraycopyName, .static arraycopyName, .initialized "java/lang/System"])
def wsJx4a65c_grow_92f84_r1 : List Cond := [Cond.fieldLink RJx4a65c 9 "java/util/ArrayList" "elementData" "[Ljava/lang/Object;", Cond.fieldLink RJx4a65c 39 "java/util/ArrayList" "DEFAULTCAPACITY_EMPTY_ELEMENTDATA" "[Ljava/lang/Object;", Cond.methodLink RJx4a65c 79 Lib.Math.max.name, Cond.static Lib.Math.max.name, Cond.initialized "java/lang/Math", Cond.code Lib.Math.max.name Lib.Math.max.code 2 (some .int), Cond.classLink RJx4a65c 7 "java/lang/Object", Cond.methodLink RJx4a65c 73 yJ8_newLength_cabcc, Cond.static yJ8_newLength_cabcc, Cond.initialized RJ8, Cond.code yJ8_newLength_cabcc cJ8_newLength_cabcc 4 (some .int), Cond.methodLink RJ8 194 Lib.Math.max.name, Cond.constant RJ8 200 (2147483639), Cond.methodLink RJ8 201 yJ8_hugeLength_7cf53, Cond.static yJ8_hugeLength_7cf53, Cond.code yJ8_hugeLength_7cf53 cJ8_hugeLength_7cf53 3 (some .int), Cond.methodLink RJx4a65c 66 yJ7_copyOf_1904c, Cond.static yJ7_copyOf_1904c, Cond.initialized RJ7, Cond.code yJ7_copyOf_1904c cJ7_copyOf_1904c 2 (some (.array (.object "java/lang/Object"))), Cond.methodLink RJ7 86 ⟨"java/lang/Object", "getClass", "()Ljava/lang/Class;"⟩, Cond.selects "[Ljava/lang/Object;" ⟨"java/lang/Object", "getClass", "()Ljava/lang/Class;"⟩ ⟨"java/lang/Object", "getClass", "()Ljava/lang/Class;"⟩, Cond.instanceMethod ⟨"java/lang/Object", "getClass", "()Ljava/lang/Class;"⟩, Cond.native ⟨"java/lang/Object", "getClass", "()Ljava/lang/Class;"⟩]
def wsJx4a65c_grow_92f84_r2 : List Cond := [Cond.methodLink RJ7 300 yJ7_copyOf_6403c, Cond.static yJ7_copyOf_6403c, Cond.code yJ7_copyOf_6403c cJ7_copyOf_6403c 4 (some (.array (.object "java/lang/Object"))), Cond.classLink RJ7 110 "[Ljava/lang/Object;", Cond.classLink RJ7 2 "java/lang/Object", Cond.methodLink RJ7 304 Lib.Math.min.name, Cond.static Lib.Math.min.name, Cond.code Lib.Math.min.name Lib.Math.min.code 2 (some .int), Cond.methodLink RJ7 150 arraycopyName, Cond.native arraycopyName, Cond.static arraycopyName, Cond.initialized "java/lang/System"]
def wsJx4a65c_grow_92f84 : List Cond := .code yJx4a65c_grow_92f84 cJx4a65c_grow_92f84 4 (some (.array (.object "java/lang/Object"))) :: ((wsJx4a65c_grow_92f84_r1 ++ wsJx4a65c_grow_92f84_r2) ++ wsJx4a65c0)
def wsJx4a65c_grow_d5877_r1 : List Cond := [Cond.fieldLink RJx4a65c 48 "java/util/ArrayList" "size" "I", Cond.methodLink RJx4a65c 69 yJx4a65c_grow_92f84, Cond.instanceMethod yJx4a65c_grow_92f84, Cond.selects RJx4a65c yJx4a65c_grow_92f84 yJx4a65c_grow_92f84, Cond.initialized RJx4a65c, Cond.code yJx4a65c_grow_92f84 cJx4a65c_grow_92f84 4 (some (.array (.object "java/lang/Object"))), Cond.fieldLink RJx4a65c 9 "java/util/ArrayList" "elementData" "[Ljava/lang/Object;", Cond.fieldLink RJx4a65c 39 "java/util/ArrayList" "DEFAULTCAPACITY_EMPTY_ELEMENTDATA" "[Ljava/lang/Object;", Cond.methodLink RJx4a65c 79 Lib.Math.max.name, Cond.static Lib.Math.max.name, Cond.initialized "java/lang/Math", Cond.code Lib.Math.max.name Lib.Math.max.code 2 (some .int), Cond.classLink RJx4a65c 7 "java/lang/Object", Cond.methodLink RJx4a65c 73 yJ8_newLength_cabcc, Cond.static yJ8_newLength_cabcc, Cond.initialized RJ8, Cond.code yJ8_newLength_cabcc cJ8_newLength_cabcc 4 (some .int), Cond.methodLink RJ8 194 Lib.Math.max.name, Cond.constant RJ8 200 (2147483639), Cond.methodLink RJ8 201 yJ8_hugeLength_7cf53, Cond.static yJ8_hugeLength_7cf53, Cond.code yJ8_hugeLength_7cf53 cJ8_hugeLength_7cf53 3 (some .int), Cond.methodLink RJx4a65c 66 yJ7_copyOf_1904c, Cond.static yJ7_copyOf_1904c]
def wsJx4a65c_grow_d5877_r2 : List Cond := [Cond.initialized RJ7, Cond.code yJ7_copyOf_1904c cJ7_copyOf_1904c 2 (some (.array (.object "java/lang/Object"))), Cond.methodLink RJ7 86 ⟨"java/lang/Object", "getClass", "()Ljava/lang/Class;"⟩, Cond.selects "[Ljava/lang/Object;" ⟨"java/lang/Object", "getClass", "()Ljava/lang/Class;"⟩ ⟨"java/lang/Object", "getClass", "()Ljava/lang/Class;"⟩, Cond.instanceMethod ⟨"java/lang/Object", "getClass", "()Ljava/lang/Class;"⟩, Cond.native ⟨"java/lang/Object", "getClass", "()Ljava/lang/Class;"⟩, Cond.methodLink RJ7 300 yJ7_copyOf_6403c, Cond.static yJ7_copyOf_6403c, Cond.code yJ7_copyOf_6403c cJ7_copyOf_6403c 4 (some (.array (.object "java/lang/Object"))), Cond.classLink RJ7 110 "[Ljava/lang/Object;", Cond.classLink RJ7 2 "java/lang/Object", Cond.methodLink RJ7 304 Lib.Math.min.name, Cond.static Lib.Math.min.name, Cond.code Lib.Math.min.name Lib.Math.min.code 2 (some .int), Cond.methodLink RJ7 150 arraycopyName, Cond.native arraycopyName, Cond.static arraycopyName, Cond.initialized "java/lang/System"]
def wsJx4a65c_grow_d5877 : List Cond := .code yJx4a65c_grow_d5877 cJx4a65c_grow_d5877 1 (some (.array (.object "java/lang/Object"))) :: ((wsJx4a65c_grow_d5877_r1 ++ wsJx4a65c_grow_d5877_r2) ++ wsJx4a65c0)
def wsJx4a65c_add_72be8_r1 : List Cond := [Cond.fieldLink RJx4a65c 48 "java/util/ArrayList" "size" "I", Cond.methodLink RJx4a65c 129 yJx4a65c_grow_d5877, Cond.instanceMethod yJx4a65c_grow_d5877, Cond.selects RJx4a65c yJx4a65c_grow_d5877 yJx4a65c_grow_d5877, Cond.initialized RJx4a65c, Cond.code yJx4a65c_grow_d5877 cJx4a65c_grow_d5877 1 (some (.array (.object "java/lang/Object"))), Cond.methodLink RJx4a65c 69 yJx4a65c_grow_92f84, Cond.instanceMethod yJx4a65c_grow_92f84, Cond.selects RJx4a65c yJx4a65c_grow_92f84 yJx4a65c_grow_92f84, Cond.code yJx4a65c_grow_92f84 cJx4a65c_grow_92f84 4 (some (.array (.object "java/lang/Object"))), Cond.fieldLink RJx4a65c 9 "java/util/ArrayList" "elementData" "[Ljava/lang/Object;", Cond.fieldLink RJx4a65c 39 "java/util/ArrayList" "DEFAULTCAPACITY_EMPTY_ELEMENTDATA" "[Ljava/lang/Object;", Cond.methodLink RJx4a65c 79 Lib.Math.max.name, Cond.static Lib.Math.max.name, Cond.initialized "java/lang/Math", Cond.code Lib.Math.max.name Lib.Math.max.code 2 (some .int), Cond.classLink RJx4a65c 7 "java/lang/Object", Cond.methodLink RJx4a65c 73 yJ8_newLength_cabcc, Cond.static yJ8_newLength_cabcc, Cond.initialized RJ8, Cond.code yJ8_newLength_cabcc cJ8_newLength_cabcc 4 (some .int), Cond.methodLink RJ8 194 Lib.Math.max.name, Cond.constant RJ8 200 (2147483639), Cond.methodLink RJ8 201 yJ8_hugeLength_7cf53]
def wsJx4a65c_add_72be8_r2 : List Cond := [Cond.static yJ8_hugeLength_7cf53, Cond.code yJ8_hugeLength_7cf53 cJ8_hugeLength_7cf53 3 (some .int), Cond.methodLink RJx4a65c 66 yJ7_copyOf_1904c, Cond.static yJ7_copyOf_1904c, Cond.initialized RJ7, Cond.code yJ7_copyOf_1904c cJ7_copyOf_1904c 2 (some (.array (.object "java/lang/Object"))), Cond.methodLink RJ7 86 ⟨"java/lang/Object", "getClass", "()Ljava/lang/Class;"⟩, Cond.selects "[Ljava/lang/Object;" ⟨"java/lang/Object", "getClass", "()Ljava/lang/Class;"⟩ ⟨"java/lang/Object", "getClass", "()Ljava/lang/Class;"⟩, Cond.instanceMethod ⟨"java/lang/Object", "getClass", "()Ljava/lang/Class;"⟩, Cond.native ⟨"java/lang/Object", "getClass", "()Ljava/lang/Class;"⟩, Cond.methodLink RJ7 300 yJ7_copyOf_6403c, Cond.static yJ7_copyOf_6403c, Cond.code yJ7_copyOf_6403c cJ7_copyOf_6403c 4 (some (.array (.object "java/lang/Object"))), Cond.classLink RJ7 110 "[Ljava/lang/Object;", Cond.classLink RJ7 2 "java/lang/Object", Cond.methodLink RJ7 304 Lib.Math.min.name, Cond.static Lib.Math.min.name, Cond.code Lib.Math.min.name Lib.Math.min.code 2 (some .int), Cond.methodLink RJ7 150 arraycopyName, Cond.native arraycopyName, Cond.static arraycopyName, Cond.initialized "java/lang/System"]
def wsJx4a65c_add_72be8 : List Cond := .code yJx4a65c_add_72be8 cJx4a65c_add_72be8 4 none :: ((wsJx4a65c_add_72be8_r1 ++ wsJx4a65c_add_72be8_r2) ++ wsJx4a65c0)
def wsJx4a65c_add_9ea2d_r1 : List Cond := [Cond.fieldLink RJx4a65c 63 "java/util/ArrayList" "modCount" "I", Cond.sameField "java/util/ArrayList" "java/util/AbstractList" "modCount" "I", Cond.fieldLink RJx4a65c 9 "java/util/ArrayList" "elementData" "[Ljava/lang/Object;", Cond.fieldLink RJx4a65c 48 "java/util/ArrayList" "size" "I", Cond.methodLink RJx4a65c 131 yJx4a65c_add_72be8, Cond.instanceMethod yJx4a65c_add_72be8, Cond.selects RJx4a65c yJx4a65c_add_72be8 yJx4a65c_add_72be8, Cond.initialized RJx4a65c, Cond.code yJx4a65c_add_72be8 cJx4a65c_add_72be8 4 none, Cond.methodLink RJx4a65c 129 yJx4a65c_grow_d5877, Cond.instanceMethod yJx4a65c_grow_d5877, Cond.selects RJx4a65c yJx4a65c_grow_d5877 yJx4a65c_grow_d5877, Cond.code yJx4a65c_grow_d5877 cJx4a65c_grow_d5877 1 (some (.array (.object "java/lang/Object"))), Cond.methodLink RJx4a65c 69 yJx4a65c_grow_92f84, Cond.instanceMethod yJx4a65c_grow_92f84, Cond.selects RJx4a65c yJx4a65c_grow_92f84 yJx4a65c_grow_92f84, Cond.code yJx4a65c_grow_92f84 cJx4a65c_grow_92f84 4 (some (.array (.object "java/lang/Object"))), Cond.fieldLink RJx4a65c 39 "java/util/ArrayList" "DEFAULTCAPACITY_EMPTY_ELEMENTDATA" "[Ljava/lang/Object;", Cond.methodLink RJx4a65c 79 Lib.Math.max.name, Cond.static Lib.Math.max.name, Cond.initialized "java/lang/Math", Cond.code Lib.Math.max.name Lib.Math.max.code 2 (some .int), Cond.classLink RJx4a65c 7 "java/lang/Object", Cond.methodLink RJx4a65c 73 yJ8_newLength_cabcc]
def wsJx4a65c_add_9ea2d_r2 : List Cond := [Cond.static yJ8_newLength_cabcc, Cond.initialized RJ8, Cond.code yJ8_newLength_cabcc cJ8_newLength_cabcc 4 (some .int), Cond.methodLink RJ8 194 Lib.Math.max.name, Cond.constant RJ8 200 (2147483639), Cond.methodLink RJ8 201 yJ8_hugeLength_7cf53, Cond.static yJ8_hugeLength_7cf53, Cond.code yJ8_hugeLength_7cf53 cJ8_hugeLength_7cf53 3 (some .int), Cond.methodLink RJx4a65c 66 yJ7_copyOf_1904c, Cond.static yJ7_copyOf_1904c, Cond.initialized RJ7, Cond.code yJ7_copyOf_1904c cJ7_copyOf_1904c 2 (some (.array (.object "java/lang/Object"))), Cond.methodLink RJ7 86 ⟨"java/lang/Object", "getClass", "()Ljava/lang/Class;"⟩, Cond.selects "[Ljava/lang/Object;" ⟨"java/lang/Object", "getClass", "()Ljava/lang/Class;"⟩ ⟨"java/lang/Object", "getClass", "()Ljava/lang/Class;"⟩, Cond.instanceMethod ⟨"java/lang/Object", "getClass", "()Ljava/lang/Class;"⟩, Cond.native ⟨"java/lang/Object", "getClass", "()Ljava/lang/Class;"⟩, Cond.methodLink RJ7 300 yJ7_copyOf_6403c, Cond.static yJ7_copyOf_6403c, Cond.code yJ7_copyOf_6403c cJ7_copyOf_6403c 4 (some (.array (.object "java/lang/Object"))), Cond.classLink RJ7 110 "[Ljava/lang/Object;", Cond.classLink RJ7 2 "java/lang/Object", Cond.methodLink RJ7 304 Lib.Math.min.name, Cond.static Lib.Math.min.name, Cond.code Lib.Math.min.name Lib.Math.min.code 2 (some .int)]
def wsJx4a65c_add_9ea2d_r3 : List Cond := [Cond.methodLink RJ7 150 arraycopyName, Cond.native arraycopyName, Cond.static arraycopyName, Cond.initialized "java/lang/System"]
def wsJx4a65c_add_9ea2d : List Cond := .code yJx4a65c_add_9ea2d cJx4a65c_add_9ea2d 2 (some .boolean) :: ((wsJx4a65c_add_9ea2d_r1 ++ (wsJx4a65c_add_9ea2d_r2 ++ wsJx4a65c_add_9ea2d_r3)) ++ wsJx4a65c0)
def wsX9_addSeries_r1 : List Cond := [Cond.fieldLink RX9 21 "MeridianSeries" "store" "LMeridianSeries$Store;", Cond.fieldLink RX9 59 "MeridianSeries$Store" "chains" "Ljava/util/ArrayList;", Cond.classLink RX9 72 RX6, Cond.instantiable RX6 5, Cond.initialized RX6, Cond.fieldLink RX9 25 "MeridianSeries" "trial" "LMeridianSeries$Store;", Cond.methodLink RX9 51 yX9_isIn, Cond.static yX9_isIn, Cond.initialized RX9, Cond.code yX9_isIn cX9_isIn 4 (some .boolean), Cond.methodLink RX9 55 yX9_needArgument, Cond.static yX9_needArgument, Cond.code yX9_needArgument cX9_needArgument 1 none, Cond.classLink RX9 280 "java/lang/IllegalArgumentException", Cond.initialized "java/lang/IllegalArgumentException", Cond.methodLink RX9 63 yJx4a65c_size_8abf5, Cond.instanceMethod yJx4a65c_size_8abf5, Cond.selects RJx4a65c yJx4a65c_size_8abf5 yJx4a65c_size_8abf5, Cond.initialized RJx4a65c, Cond.code yJx4a65c_size_8abf5 cJx4a65c_size_8abf5 1 (some .int), Cond.fieldLink RJx4a65c 48 "java/util/ArrayList" "size" "I", Cond.methodLink RX9 69 yX9_needState, Cond.static yX9_needState, Cond.code yX9_needState cX9_needState 1 none]
def wsX9_addSeries_r2 : List Cond := [Cond.classLink RX9 292 "java/lang/IllegalStateException", Cond.initialized "java/lang/IllegalStateException", Cond.methodLink RX9 74 yX6_init, Cond.instanceMethod yX6_init, Cond.code yX6_init cX6_init 3 none, Cond.methodLink RX6 3 objectInit, Cond.instanceMethod objectInit, Cond.code objectInit ⟨#[0xb1]⟩ 1 none, Cond.classLink RX6 9 RX4, Cond.instantiable RX4 7, Cond.initialized RX4, Cond.fieldLink RX6 12 "MeridianSeries$Series" "points" "LMeridianSeries$Points;", Cond.classLink RX6 18 RX0, Cond.instantiable RX0 2, Cond.initialized RX0, Cond.fieldLink RX6 21 "MeridianSeries$Series" "fine" "LMeridianSeries$Buckets;", Cond.fieldLink RX6 25 "MeridianSeries$Series" "coarse" "LMeridianSeries$Buckets;", Cond.fieldLink RX6 28 "MeridianSeries$Series" "one" "I", Cond.fieldLink RX6 32 "MeridianSeries$Series" "other" "I", Cond.instanceMethod yX4_init, Cond.code yX4_init cX4_init 1 none, Cond.arrayClass .int, Cond.fieldLink RX4 11 "MeridianSeries$Points" "times" "[I", Cond.fieldLink RX4 15 "MeridianSeries$Points" "values" "[I"]
def wsX9_addSeries_r3 : List Cond := [Cond.fieldLink RX4 18 "MeridianSeries$Points" "sizes" "[I", Cond.fieldLink RX4 21 "MeridianSeries$Points" "sealedBlocks" "I", Cond.fieldLink RX4 25 "MeridianSeries$Points" "sealedPoints" "I", Cond.fieldLink RX4 28 "MeridianSeries$Points" "greatestSealedTime" "I", Cond.instanceMethod yX2_init, Cond.initialized RX2, Cond.code yX2_init cX2_init 1 none, Cond.methodLink RX2 1 objectInit, Cond.fieldLink RX2 7 "MeridianSeries$Items" "amount" "I", Cond.instanceMethod yX0_init, Cond.code yX0_init cX0_init 1 none, Cond.fieldLink RX0 11 "MeridianSeries$Buckets" "cells" "[I", Cond.methodLink RX9 77 yJx4a65c_add_9ea2d, Cond.instanceMethod yJx4a65c_add_9ea2d, Cond.selects RJx4a65c yJx4a65c_add_9ea2d yJx4a65c_add_9ea2d, Cond.code yJx4a65c_add_9ea2d cJx4a65c_add_9ea2d 2 (some .boolean), Cond.fieldLink RJx4a65c 63 "java/util/ArrayList" "modCount" "I", Cond.sameField "java/util/ArrayList" "java/util/AbstractList" "modCount" "I", Cond.fieldLink RJx4a65c 9 "java/util/ArrayList" "elementData" "[Ljava/lang/Object;", Cond.methodLink RJx4a65c 131 yJx4a65c_add_72be8, Cond.instanceMethod yJx4a65c_add_72be8, Cond.selects RJx4a65c yJx4a65c_add_72be8 yJx4a65c_add_72be8, Cond.code yJx4a65c_add_72be8 cJx4a65c_add_72be8 4 none, Cond.methodLink RJx4a65c 129 yJx4a65c_grow_d5877]
def wsX9_addSeries_r4 : List Cond := [Cond.instanceMethod yJx4a65c_grow_d5877, Cond.selects RJx4a65c yJx4a65c_grow_d5877 yJx4a65c_grow_d5877, Cond.code yJx4a65c_grow_d5877 cJx4a65c_grow_d5877 1 (some (.array (.object "java/lang/Object"))), Cond.methodLink RJx4a65c 69 yJx4a65c_grow_92f84, Cond.instanceMethod yJx4a65c_grow_92f84, Cond.selects RJx4a65c yJx4a65c_grow_92f84 yJx4a65c_grow_92f84, Cond.code yJx4a65c_grow_92f84 cJx4a65c_grow_92f84 4 (some (.array (.object "java/lang/Object"))), Cond.fieldLink RJx4a65c 39 "java/util/ArrayList" "DEFAULTCAPACITY_EMPTY_ELEMENTDATA" "[Ljava/lang/Object;", Cond.methodLink RJx4a65c 79 Lib.Math.max.name, Cond.static Lib.Math.max.name, Cond.initialized "java/lang/Math", Cond.code Lib.Math.max.name Lib.Math.max.code 2 (some .int), Cond.classLink RJx4a65c 7 "java/lang/Object", Cond.methodLink RJx4a65c 73 yJ8_newLength_cabcc, Cond.static yJ8_newLength_cabcc, Cond.initialized RJ8, Cond.code yJ8_newLength_cabcc cJ8_newLength_cabcc 4 (some .int), Cond.methodLink RJ8 194 Lib.Math.max.name, Cond.constant RJ8 200 (2147483639), Cond.methodLink RJ8 201 yJ8_hugeLength_7cf53, Cond.static yJ8_hugeLength_7cf53, Cond.code yJ8_hugeLength_7cf53 cJ8_hugeLength_7cf53 3 (some .int), Cond.methodLink RJx4a65c 66 yJ7_copyOf_1904c, Cond.static yJ7_copyOf_1904c]
def wsX9_addSeries_r5 : List Cond := [Cond.initialized RJ7, Cond.code yJ7_copyOf_1904c cJ7_copyOf_1904c 2 (some (.array (.object "java/lang/Object"))), Cond.methodLink RJ7 86 ⟨"java/lang/Object", "getClass", "()Ljava/lang/Class;"⟩, Cond.selects "[Ljava/lang/Object;" ⟨"java/lang/Object", "getClass", "()Ljava/lang/Class;"⟩ ⟨"java/lang/Object", "getClass", "()Ljava/lang/Class;"⟩, Cond.instanceMethod ⟨"java/lang/Object", "getClass", "()Ljava/lang/Class;"⟩, Cond.native ⟨"java/lang/Object", "getClass", "()Ljava/lang/Class;"⟩, Cond.methodLink RJ7 300 yJ7_copyOf_6403c, Cond.static yJ7_copyOf_6403c, Cond.code yJ7_copyOf_6403c cJ7_copyOf_6403c 4 (some (.array (.object "java/lang/Object"))), Cond.classLink RJ7 110 "[Ljava/lang/Object;", Cond.classLink RJ7 2 "java/lang/Object", Cond.methodLink RJ7 304 Lib.Math.min.name, Cond.static Lib.Math.min.name, Cond.code Lib.Math.min.name Lib.Math.min.code 2 (some .int), Cond.methodLink RJ7 150 arraycopyName, Cond.native arraycopyName, Cond.static arraycopyName, Cond.initialized "java/lang/System"]
def wsX9_addSeries : List Cond := .code yX9_addSeries cX9_addSeries 4 (some .int) :: ((wsX9_addSeries_r1 ++ (wsX9_addSeries_r2 ++ (wsX9_addSeries_r3 ++ (wsX9_addSeries_r4 ++ wsX9_addSeries_r5)))) ++ wsX90 ++ wsX80 ++ wsX60 ++ wsJx4a65c0 ++ wsX40 ++ wsX00 ++ (vx_atS RX9 284 "java/lang/IllegalArgumentException" ["java/lang/RuntimeException", "java/lang/Exception"]).filter goodWord ++ (vx_atS RX9 296 "java/lang/IllegalStateException" ["java/lang/RuntimeException", "java/lang/Exception"]).filter goodWord)
def wsX9_setSpan : List Cond := .code yX9_setSpan cX9_setSpan 3 (some .int) :: ([.fieldLink RX9 10 "MeridianSeries" "settings" "LMeridianSeries$Settings;", .fieldLink RX9 81 "MeridianSeries$Settings" "span" "I", .methodLink RX9 51 yX9_isIn, .static yX9_isIn, .initialized RX9, .code yX9_isIn cX9_isIn 4 (some .boolean), .methodLink RX9 55 yX9_needArgument, .static yX9_needArgument, .code yX9_needArgument cX9_needArgument 1 none, .classLink RX9 280 "java/lang/IllegalArgumentException", .initialized "java/lang/IllegalArgumentException"] ++ wsX90 ++ wsX70 ++ (vx_atS RX9 284 "java/lang/IllegalArgumentException" ["java/lang/RuntimeException", "java/lang/Exception"]).filter goodWord)
def wsX9_setWidths_r1 : List Cond := [Cond.fieldLink RX9 21 "MeridianSeries" "store" "LMeridianSeries$Store;", Cond.fieldLink RX9 10 "MeridianSeries" "settings" "LMeridianSeries$Settings;", Cond.fieldLink RX9 88 "MeridianSeries$Settings" "width" "I", Cond.fieldLink RX9 91 "MeridianSeries$Settings" "fold" "I", Cond.methodLink RX9 51 yX9_isIn, Cond.static yX9_isIn, Cond.initialized RX9, Cond.code yX9_isIn cX9_isIn 4 (some .boolean), Cond.methodLink RX9 55 yX9_needArgument, Cond.static yX9_needArgument, Cond.code yX9_needArgument cX9_needArgument 1 none, Cond.classLink RX9 280 "java/lang/IllegalArgumentException", Cond.initialized "java/lang/IllegalArgumentException", Cond.methodLink RX9 84 yX8_hasBucket, Cond.instanceMethod yX8_hasBucket, Cond.selects RX8 yX8_hasBucket yX8_hasBucket, Cond.initialized RX8, Cond.code yX8_hasBucket cX8_hasBucket 2 (some .boolean), Cond.fieldLink RX8 10 "MeridianSeries$Store" "chains" "Ljava/util/ArrayList;", Cond.classLink RX8 42 "MeridianSeries$Series", Cond.fieldLink RX8 44 "MeridianSeries$Series" "fine" "LMeridianSeries$Buckets;", Cond.fieldLink RX8 48 "MeridianSeries$Buckets" "amount" "I", Cond.sameField "MeridianSeries$Buckets" "MeridianSeries$Items" "amount" "I", Cond.fieldLink RX8 53 "MeridianSeries$Series" "coarse" "LMeridianSeries$Buckets;"]
def wsX9_setWidths_r2 : List Cond := [Cond.methodLink RX8 34 yJx4a65c_size_8abf5, Cond.instanceMethod yJx4a65c_size_8abf5, Cond.selects RJx4a65c yJx4a65c_size_8abf5 yJx4a65c_size_8abf5, Cond.initialized RJx4a65c, Cond.code yJx4a65c_size_8abf5 cJx4a65c_size_8abf5 1 (some .int), Cond.fieldLink RJx4a65c 48 "java/util/ArrayList" "size" "I", Cond.methodLink RX8 38 yJx4a65c_get_915e3, Cond.instanceMethod yJx4a65c_get_915e3, Cond.selects RJx4a65c yJx4a65c_get_915e3 yJx4a65c_get_915e3, Cond.code yJx4a65c_get_915e3 cJx4a65c_get_915e3 2 (some (.object "java/lang/Object")), Cond.methodLink RJx4a65c 118 yJ15_checkIndex_7cf53, Cond.static yJ15_checkIndex_7cf53, Cond.initialized RJ15, Cond.code yJ15_checkIndex_7cf53 cJ15_checkIndex_7cf53 2 (some .int), Cond.methodLink RJ15 105 yJ3_checkIndex_8e157, Cond.static yJ3_checkIndex_8e157, Cond.initialized RJ3, Cond.code yJ3_checkIndex_8e157 cJ3_checkIndex_8e157 3 (some .int), Cond.methodLink RJx4a65c 123 yJx4a65c_elementData_915e3, Cond.instanceMethod yJx4a65c_elementData_915e3, Cond.selects RJx4a65c yJx4a65c_elementData_915e3 yJx4a65c_elementData_915e3, Cond.code yJx4a65c_elementData_915e3 cJx4a65c_elementData_915e3 2 (some (.object "java/lang/Object")), Cond.fieldLink RJx4a65c 9 "java/util/ArrayList" "elementData" "[Ljava/lang/Object;", Cond.methodLink RX9 69 yX9_needState]
def wsX9_setWidths_r3 : List Cond := [Cond.static yX9_needState, Cond.code yX9_needState cX9_needState 1 none, Cond.classLink RX9 292 "java/lang/IllegalStateException", Cond.initialized "java/lang/IllegalStateException"]
def wsX9_setWidths : List Cond := .code yX9_setWidths cX9_setWidths 4 (some .int) :: ((wsX9_setWidths_r1 ++ (wsX9_setWidths_r2 ++ wsX9_setWidths_r3)) ++ wsX90 ++ wsX70 ++ wsX80 ++ wsX60 ++ wsX00 ++ wsX40 ++ wsJx4a65c0 ++ (vx_atS RX9 284 "java/lang/IllegalArgumentException" ["java/lang/RuntimeException", "java/lang/Exception"]).filter goodWord ++ (vx_atS RX9 296 "java/lang/IllegalStateException" ["java/lang/RuntimeException", "java/lang/Exception"]).filter goodWord)
def wsX9_setKeep : List Cond := .code yX9_setKeep cX9_setKeep 4 (some .int) :: ([.fieldLink RX9 10 "MeridianSeries" "settings" "LMeridianSeries$Settings;", .fieldLink RX9 94 "MeridianSeries$Settings" "keep" "I", .fieldLink RX9 97 "MeridianSeries$Settings" "longKeep" "I", .methodLink RX9 51 yX9_isIn, .static yX9_isIn, .initialized RX9, .code yX9_isIn cX9_isIn 4 (some .boolean), .methodLink RX9 55 yX9_needArgument, .static yX9_needArgument, .code yX9_needArgument cX9_needArgument 1 none, .classLink RX9 280 "java/lang/IllegalArgumentException", .initialized "java/lang/IllegalArgumentException"] ++ wsX90 ++ wsX70 ++ (vx_atS RX9 284 "java/lang/IllegalArgumentException" ["java/lang/RuntimeException", "java/lang/Exception"]).filter goodWord)
def wsX9_setQuery : List Cond := .code yX9_setQuery cX9_setQuery 6 (some .int) :: ([.constant RX9 100 (99999), .fieldLink RX9 39 "MeridianSeries" "queryStep" "I", .fieldLink RX9 35 "MeridianSeries" "queryFrom" "I", .fieldLink RX9 42 "MeridianSeries" "queryWhat" "I", .fieldLink RX9 45 "MeridianSeries" "queryFill" "I", .methodLink RX9 51 yX9_isIn, .static yX9_isIn, .initialized RX9, .code yX9_isIn cX9_isIn 4 (some .boolean), .methodLink RX9 55 yX9_needArgument, .static yX9_needArgument, .code yX9_needArgument cX9_needArgument 1 none, .classLink RX9 280 "java/lang/IllegalArgumentException", .initialized "java/lang/IllegalArgumentException"] ++ wsX90 ++ (vx_atS RX9 284 "java/lang/IllegalArgumentException" ["java/lang/RuntimeException", "java/lang/Exception"]).filter goodWord)
def wsX9_chainAt_r1 : List Cond := [Cond.classLink RX9 287 "java/lang/IndexOutOfBoundsException", Cond.initialized "java/lang/IndexOutOfBoundsException", Cond.fieldLink RX9 21 "MeridianSeries" "store" "LMeridianSeries$Store;", Cond.fieldLink RX9 59 "MeridianSeries$Store" "chains" "Ljava/util/ArrayList;", Cond.classLink RX9 72 "MeridianSeries$Series", Cond.methodLink RX9 63 yJx4a65c_size_8abf5, Cond.instanceMethod yJx4a65c_size_8abf5, Cond.selects RJx4a65c yJx4a65c_size_8abf5 yJx4a65c_size_8abf5, Cond.initialized RJx4a65c, Cond.code yJx4a65c_size_8abf5 cJx4a65c_size_8abf5 1 (some .int), Cond.fieldLink RJx4a65c 48 "java/util/ArrayList" "size" "I", Cond.methodLink RX9 187 yJx4a65c_get_915e3, Cond.instanceMethod yJx4a65c_get_915e3, Cond.selects RJx4a65c yJx4a65c_get_915e3 yJx4a65c_get_915e3, Cond.code yJx4a65c_get_915e3 cJx4a65c_get_915e3 2 (some (.object "java/lang/Object")), Cond.methodLink RJx4a65c 118 yJ15_checkIndex_7cf53, Cond.static yJ15_checkIndex_7cf53, Cond.initialized RJ15, Cond.code yJ15_checkIndex_7cf53 cJ15_checkIndex_7cf53 2 (some .int), Cond.methodLink RJ15 105 yJ3_checkIndex_8e157, Cond.static yJ3_checkIndex_8e157, Cond.initialized RJ3, Cond.code yJ3_checkIndex_8e157 cJ3_checkIndex_8e157 3 (some .int), Cond.methodLink RJx4a65c 123 yJx4a65c_elementData_915e3]
def wsX9_chainAt_r2 : List Cond := [Cond.instanceMethod yJx4a65c_elementData_915e3, Cond.selects RJx4a65c yJx4a65c_elementData_915e3 yJx4a65c_elementData_915e3, Cond.code yJx4a65c_elementData_915e3 cJx4a65c_elementData_915e3 2 (some (.object "java/lang/Object")), Cond.fieldLink RJx4a65c 9 "java/util/ArrayList" "elementData" "[Ljava/lang/Object;"]
def wsX9_chainAt : List Cond := .code yX9_chainAt cX9_chainAt 2 (some (.object "MeridianSeries$Series")) :: ((wsX9_chainAt_r1 ++ wsX9_chainAt_r2) ++ wsX90 ++ wsX80 ++ wsJx4a65c0 ++ (vx_atS RX9 291 "java/lang/IndexOutOfBoundsException" ["java/lang/RuntimeException", "java/lang/Exception"]).filter goodWord)
def wsX9_isTimeUpToNow : List Cond := .code yX9_isTimeUpToNow cX9_isTimeUpToNow 3 (some .boolean) :: ([.fieldLink RX9 21 "MeridianSeries" "store" "LMeridianSeries$Store;", .fieldLink RX9 141 "MeridianSeries$Store" "now" "I", .methodLink RX9 51 yX9_isIn, .static yX9_isIn, .initialized RX9, .code yX9_isIn cX9_isIn 4 (some .boolean)] ++ wsX90 ++ wsX80)
def wsX9_isValue : List Cond := .code yX9_isValue cX9_isValue 2 (some .boolean) :: ([.constant RX9 278 (-100000), .constant RX9 279 (100000), .methodLink RX9 51 yX9_isIn, .static yX9_isIn, .initialized RX9, .code yX9_isIn cX9_isIn 4 (some .boolean)])
def wsX9_putOrCountLate_r1 : List Cond := [Cond.fieldLink RX9 116 "MeridianSeries$Series" "points" "LMeridianSeries$Points;", Cond.fieldLink RX9 48 "MeridianSeries" "lateCount" "I", Cond.fieldLink RX9 10 "MeridianSeries" "settings" "LMeridianSeries$Settings;", Cond.methodLink RX9 238 yX4_isLate, Cond.instanceMethod yX4_isLate, Cond.selects RX4 yX4_isLate yX4_isLate, Cond.initialized RX4, Cond.code yX4_isLate cX4_isLate 2 (some .boolean), Cond.fieldLink RX4 28 "MeridianSeries$Points" "greatestSealedTime" "I", Cond.methodLink RX9 301 yX6_take, Cond.instanceMethod yX6_take, Cond.selects RX6 yX6_take yX6_take, Cond.initialized RX6, Cond.code yX6_take cX6_take 4 none, Cond.fieldLink RX6 12 "MeridianSeries$Series" "points" "LMeridianSeries$Points;", Cond.fieldLink RX6 43 "MeridianSeries$Settings" "span" "I", Cond.methodLink RX6 35 yX4_add, Cond.instanceMethod yX4_add, Cond.selects RX4 yX4_add yX4_add, Cond.code yX4_add cX4_add 5 none, Cond.fieldLink RX4 31 "MeridianSeries$Points" "amount" "I", Cond.sameField "MeridianSeries$Points" "MeridianSeries$Items" "amount" "I", Cond.methodLink RX4 46 yX4_placeOf, Cond.instanceMethod yX4_placeOf]
def wsX9_putOrCountLate_r2 : List Cond := [Cond.selects RX4 yX4_placeOf yX4_placeOf, Cond.code yX4_placeOf cX4_placeOf 3 (some .int), Cond.fieldLink RX4 25 "MeridianSeries$Points" "sealedPoints" "I", Cond.methodLink RX4 42 yX4_number, Cond.instanceMethod yX4_number, Cond.selects RX4 yX4_number yX4_number, Cond.code yX4_number cX4_number 3 (some .int), Cond.fieldLink RX4 11 "MeridianSeries$Points" "times" "[I", Cond.fieldLink RX4 15 "MeridianSeries$Points" "values" "[I", Cond.methodLink RX4 49 yX4_isTakenAt, Cond.instanceMethod yX4_isTakenAt, Cond.selects RX4 yX4_isTakenAt yX4_isTakenAt, Cond.code yX4_isTakenAt cX4_isTakenAt 3 (some .boolean), Cond.methodLink RX4 53 yX4_copyPoint, Cond.instanceMethod yX4_copyPoint, Cond.selects RX4 yX4_copyPoint yX4_copyPoint, Cond.code yX4_copyPoint cX4_copyPoint 3 none, Cond.methodLink RX4 57 yX4_write, Cond.instanceMethod yX4_write, Cond.selects RX4 yX4_write yX4_write, Cond.code yX4_write cX4_write 4 none, Cond.methodLink RX6 39 yX4_openSize, Cond.instanceMethod yX4_openSize, Cond.selects RX4 yX4_openSize yX4_openSize]
def wsX9_putOrCountLate_r3 : List Cond := [Cond.code yX4_openSize cX4_openSize 1 (some .int), Cond.methodLink RX6 48 yX4_seal, Cond.instanceMethod yX4_seal, Cond.selects RX4 yX4_seal yX4_seal, Cond.code yX4_seal cX4_seal 1 none, Cond.fieldLink RX4 21 "MeridianSeries$Points" "sealedBlocks" "I", Cond.fieldLink RX4 18 "MeridianSeries$Points" "sizes" "[I", Cond.methodLink RX4 34 yX4_openSize, Cond.methodLink RX6 51 yX4_hasTooManySealed, Cond.instanceMethod yX4_hasTooManySealed, Cond.selects RX4 yX4_hasTooManySealed yX4_hasTooManySealed, Cond.code yX4_hasTooManySealed cX4_hasTooManySealed 1 (some .boolean), Cond.methodLink RX6 55 yX6_rollUpFirstBlock, Cond.instanceMethod yX6_rollUpFirstBlock, Cond.selects RX6 yX6_rollUpFirstBlock yX6_rollUpFirstBlock, Cond.code yX6_rollUpFirstBlock cX6_rollUpFirstBlock 4 none, Cond.fieldLink RX6 21 "MeridianSeries$Series" "fine" "LMeridianSeries$Buckets;", Cond.fieldLink RX6 69 "MeridianSeries$Settings" "width" "I", Cond.methodLink RX6 85 yX4_sizeOf, Cond.instanceMethod yX4_sizeOf, Cond.selects RX4 yX4_sizeOf yX4_sizeOf, Cond.code yX4_sizeOf cX4_sizeOf 2 (some .int), Cond.methodLink RX6 88 yX4_number, Cond.methodLink RX6 89 yX6_startFor]
def wsX9_putOrCountLate_r4 : List Cond := [Cond.static yX6_startFor, Cond.code yX6_startFor cX6_startFor 2 (some .int), Cond.methodLink RX6 92 yX0_take, Cond.instanceMethod yX0_take, Cond.selects RX0 yX0_take yX0_take, Cond.initialized RX0, Cond.code yX0_take cX0_take 6 none, Cond.fieldLink RX0 15 "MeridianSeries$Buckets" "amount" "I", Cond.sameField "MeridianSeries$Buckets" "MeridianSeries$Items" "amount" "I", Cond.methodLink RX0 28 Lib.Math.min.name, Cond.static Lib.Math.min.name, Cond.initialized "java/lang/Math", Cond.code Lib.Math.min.name Lib.Math.min.code 2 (some .int), Cond.methodLink RX0 33 Lib.Math.max.name, Cond.static Lib.Math.max.name, Cond.code Lib.Math.max.name Lib.Math.max.code 2 (some .int), Cond.methodLink RX0 19 yX0_number, Cond.instanceMethod yX0_number, Cond.selects RX0 yX0_number yX0_number, Cond.code yX0_number cX0_number 4 (some .int), Cond.fieldLink RX0 11 "MeridianSeries$Buckets" "cells" "[I", Cond.methodLink RX0 23 ⟨"MeridianSeries$Items", "number", "(II)I"⟩, Cond.sameMethod "MeridianSeries$Items" "MeridianSeries$Items" "number" "(II)I", Cond.selects RX0 ⟨"MeridianSeries$Items", "number", "(II)I"⟩ yX0_number]
def wsX9_putOrCountLate_r5 : List Cond := [Cond.selects RX4 ⟨"MeridianSeries$Items", "number", "(II)I"⟩ yX4_number, Cond.methodLink RX0 24 yX0_write, Cond.instanceMethod yX0_write, Cond.selects RX0 yX0_write yX0_write, Cond.code yX0_write cX0_write 5 none, Cond.methodLink RX6 96 yX0_isFull, Cond.instanceMethod yX0_isFull, Cond.selects RX0 yX0_isFull yX0_isFull, Cond.code yX0_isFull cX0_isFull 1 (some .boolean), Cond.methodLink RX6 76 yX6_rollUpFirstFine, Cond.instanceMethod yX6_rollUpFirstFine, Cond.selects RX6 yX6_rollUpFirstFine yX6_rollUpFirstFine, Cond.code yX6_rollUpFirstFine cX6_rollUpFirstFine 3 none, Cond.fieldLink RX6 102 "MeridianSeries$Settings" "fold" "I", Cond.fieldLink RX6 25 "MeridianSeries$Series" "coarse" "LMeridianSeries$Buckets;", Cond.methodLink RX6 82 yX0_number, Cond.methodLink RX6 105 yX0_dropFirst, Cond.instanceMethod yX0_dropFirst, Cond.selects RX0 yX0_dropFirst yX0_dropFirst, Cond.code yX0_dropFirst cX0_dropFirst 2 none, Cond.methodLink RX6 99 yX4_dropFirstBlock, Cond.instanceMethod yX4_dropFirstBlock, Cond.selects RX4 yX4_dropFirstBlock yX4_dropFirstBlock, Cond.code yX4_dropFirstBlock cX4_dropFirstBlock 3 none]
def wsX9_putOrCountLate_r6 : List Cond := [Cond.methodLink RX4 38 yX4_sizeOf]
def wsX9_putOrCountLate : List Cond := .code yX9_putOrCountLate cX9_putOrCountLate 4 (some .boolean) :: ((wsX9_putOrCountLate_r1 ++ (wsX9_putOrCountLate_r2 ++ (wsX9_putOrCountLate_r3 ++ (wsX9_putOrCountLate_r4 ++ (wsX9_putOrCountLate_r5 ++ wsX9_putOrCountLate_r6))))) ++ wsX60 ++ wsX90 ++ wsX40 ++ wsX70 ++ wsX00)
def wsX9_put_r1 : List Cond := [Cond.fieldLink RX9 116 "MeridianSeries$Series" "points" "LMeridianSeries$Points;", Cond.methodLink RX9 101 yX9_chainAt, Cond.instanceMethod yX9_chainAt, Cond.selects RX9 yX9_chainAt yX9_chainAt, Cond.initialized RX9, Cond.code yX9_chainAt cX9_chainAt 2 (some (.object "MeridianSeries$Series")), Cond.classLink RX9 287 "java/lang/IndexOutOfBoundsException", Cond.initialized "java/lang/IndexOutOfBoundsException", Cond.fieldLink RX9 21 "MeridianSeries" "store" "LMeridianSeries$Store;", Cond.fieldLink RX9 59 "MeridianSeries$Store" "chains" "Ljava/util/ArrayList;", Cond.classLink RX9 72 "MeridianSeries$Series", Cond.methodLink RX9 63 yJx4a65c_size_8abf5, Cond.instanceMethod yJx4a65c_size_8abf5, Cond.selects RJx4a65c yJx4a65c_size_8abf5 yJx4a65c_size_8abf5, Cond.initialized RJx4a65c, Cond.code yJx4a65c_size_8abf5 cJx4a65c_size_8abf5 1 (some .int), Cond.fieldLink RJx4a65c 48 "java/util/ArrayList" "size" "I", Cond.methodLink RX9 187 yJx4a65c_get_915e3, Cond.instanceMethod yJx4a65c_get_915e3, Cond.selects RJx4a65c yJx4a65c_get_915e3 yJx4a65c_get_915e3, Cond.code yJx4a65c_get_915e3 cJx4a65c_get_915e3 2 (some (.object "java/lang/Object")), Cond.methodLink RJx4a65c 118 yJ15_checkIndex_7cf53, Cond.static yJ15_checkIndex_7cf53, Cond.initialized RJ15]
def wsX9_put_r2 : List Cond := [Cond.code yJ15_checkIndex_7cf53 cJ15_checkIndex_7cf53 2 (some .int), Cond.methodLink RJ15 105 yJ3_checkIndex_8e157, Cond.static yJ3_checkIndex_8e157, Cond.initialized RJ3, Cond.code yJ3_checkIndex_8e157 cJ3_checkIndex_8e157 3 (some .int), Cond.methodLink RJx4a65c 123 yJx4a65c_elementData_915e3, Cond.instanceMethod yJx4a65c_elementData_915e3, Cond.selects RJx4a65c yJx4a65c_elementData_915e3 yJx4a65c_elementData_915e3, Cond.code yJx4a65c_elementData_915e3 cJx4a65c_elementData_915e3 2 (some (.object "java/lang/Object")), Cond.fieldLink RJx4a65c 9 "java/util/ArrayList" "elementData" "[Ljava/lang/Object;", Cond.methodLink RX9 105 yX9_isTimeUpToNow, Cond.instanceMethod yX9_isTimeUpToNow, Cond.selects RX9 yX9_isTimeUpToNow yX9_isTimeUpToNow, Cond.code yX9_isTimeUpToNow cX9_isTimeUpToNow 3 (some .boolean), Cond.fieldLink RX9 141 "MeridianSeries$Store" "now" "I", Cond.methodLink RX9 51 yX9_isIn, Cond.static yX9_isIn, Cond.code yX9_isIn cX9_isIn 4 (some .boolean), Cond.methodLink RX9 109 yX9_isValue, Cond.static yX9_isValue, Cond.code yX9_isValue cX9_isValue 2 (some .boolean), Cond.constant RX9 278 (-100000), Cond.constant RX9 279 (100000), Cond.methodLink RX9 55 yX9_needArgument]
def wsX9_put_r3 : List Cond := [Cond.static yX9_needArgument, Cond.code yX9_needArgument cX9_needArgument 1 none, Cond.classLink RX9 280 "java/lang/IllegalArgumentException", Cond.initialized "java/lang/IllegalArgumentException", Cond.methodLink RX9 112 yX9_putOrCountLate, Cond.instanceMethod yX9_putOrCountLate, Cond.selects RX9 yX9_putOrCountLate yX9_putOrCountLate, Cond.code yX9_putOrCountLate cX9_putOrCountLate 4 (some .boolean), Cond.fieldLink RX9 48 "MeridianSeries" "lateCount" "I", Cond.fieldLink RX9 10 "MeridianSeries" "settings" "LMeridianSeries$Settings;", Cond.methodLink RX9 238 yX4_isLate, Cond.instanceMethod yX4_isLate, Cond.selects RX4 yX4_isLate yX4_isLate, Cond.initialized RX4, Cond.code yX4_isLate cX4_isLate 2 (some .boolean), Cond.fieldLink RX4 28 "MeridianSeries$Points" "greatestSealedTime" "I", Cond.methodLink RX9 301 yX6_take, Cond.instanceMethod yX6_take, Cond.selects RX6 yX6_take yX6_take, Cond.initialized RX6, Cond.code yX6_take cX6_take 4 none, Cond.fieldLink RX6 12 "MeridianSeries$Series" "points" "LMeridianSeries$Points;", Cond.fieldLink RX6 43 "MeridianSeries$Settings" "span" "I", Cond.methodLink RX6 35 yX4_add]
def wsX9_put_r4 : List Cond := [Cond.instanceMethod yX4_add, Cond.selects RX4 yX4_add yX4_add, Cond.code yX4_add cX4_add 5 none, Cond.fieldLink RX4 31 "MeridianSeries$Points" "amount" "I", Cond.sameField "MeridianSeries$Points" "MeridianSeries$Items" "amount" "I", Cond.methodLink RX4 46 yX4_placeOf, Cond.instanceMethod yX4_placeOf, Cond.selects RX4 yX4_placeOf yX4_placeOf, Cond.code yX4_placeOf cX4_placeOf 3 (some .int), Cond.fieldLink RX4 25 "MeridianSeries$Points" "sealedPoints" "I", Cond.methodLink RX4 42 yX4_number, Cond.instanceMethod yX4_number, Cond.selects RX4 yX4_number yX4_number, Cond.code yX4_number cX4_number 3 (some .int), Cond.fieldLink RX4 11 "MeridianSeries$Points" "times" "[I", Cond.fieldLink RX4 15 "MeridianSeries$Points" "values" "[I", Cond.methodLink RX4 49 yX4_isTakenAt, Cond.instanceMethod yX4_isTakenAt, Cond.selects RX4 yX4_isTakenAt yX4_isTakenAt, Cond.code yX4_isTakenAt cX4_isTakenAt 3 (some .boolean), Cond.methodLink RX4 53 yX4_copyPoint, Cond.instanceMethod yX4_copyPoint, Cond.selects RX4 yX4_copyPoint yX4_copyPoint, Cond.code yX4_copyPoint cX4_copyPoint 3 none]
def wsX9_put_r5 : List Cond := [Cond.methodLink RX4 57 yX4_write, Cond.instanceMethod yX4_write, Cond.selects RX4 yX4_write yX4_write, Cond.code yX4_write cX4_write 4 none, Cond.methodLink RX6 39 yX4_openSize, Cond.instanceMethod yX4_openSize, Cond.selects RX4 yX4_openSize yX4_openSize, Cond.code yX4_openSize cX4_openSize 1 (some .int), Cond.methodLink RX6 48 yX4_seal, Cond.instanceMethod yX4_seal, Cond.selects RX4 yX4_seal yX4_seal, Cond.code yX4_seal cX4_seal 1 none, Cond.fieldLink RX4 21 "MeridianSeries$Points" "sealedBlocks" "I", Cond.fieldLink RX4 18 "MeridianSeries$Points" "sizes" "[I", Cond.methodLink RX4 34 yX4_openSize, Cond.methodLink RX6 51 yX4_hasTooManySealed, Cond.instanceMethod yX4_hasTooManySealed, Cond.selects RX4 yX4_hasTooManySealed yX4_hasTooManySealed, Cond.code yX4_hasTooManySealed cX4_hasTooManySealed 1 (some .boolean), Cond.methodLink RX6 55 yX6_rollUpFirstBlock, Cond.instanceMethod yX6_rollUpFirstBlock, Cond.selects RX6 yX6_rollUpFirstBlock yX6_rollUpFirstBlock, Cond.code yX6_rollUpFirstBlock cX6_rollUpFirstBlock 4 none, Cond.fieldLink RX6 21 "MeridianSeries$Series" "fine" "LMeridianSeries$Buckets;"]
def wsX9_put_r6 : List Cond := [Cond.fieldLink RX6 69 "MeridianSeries$Settings" "width" "I", Cond.methodLink RX6 85 yX4_sizeOf, Cond.instanceMethod yX4_sizeOf, Cond.selects RX4 yX4_sizeOf yX4_sizeOf, Cond.code yX4_sizeOf cX4_sizeOf 2 (some .int), Cond.methodLink RX6 88 yX4_number, Cond.methodLink RX6 89 yX6_startFor, Cond.static yX6_startFor, Cond.code yX6_startFor cX6_startFor 2 (some .int), Cond.methodLink RX6 92 yX0_take, Cond.instanceMethod yX0_take, Cond.selects RX0 yX0_take yX0_take, Cond.initialized RX0, Cond.code yX0_take cX0_take 6 none, Cond.fieldLink RX0 15 "MeridianSeries$Buckets" "amount" "I", Cond.sameField "MeridianSeries$Buckets" "MeridianSeries$Items" "amount" "I", Cond.methodLink RX0 28 Lib.Math.min.name, Cond.static Lib.Math.min.name, Cond.initialized "java/lang/Math", Cond.code Lib.Math.min.name Lib.Math.min.code 2 (some .int), Cond.methodLink RX0 33 Lib.Math.max.name, Cond.static Lib.Math.max.name, Cond.code Lib.Math.max.name Lib.Math.max.code 2 (some .int), Cond.methodLink RX0 19 yX0_number]
def wsX9_put_r7 : List Cond := [Cond.instanceMethod yX0_number, Cond.selects RX0 yX0_number yX0_number, Cond.code yX0_number cX0_number 4 (some .int), Cond.fieldLink RX0 11 "MeridianSeries$Buckets" "cells" "[I", Cond.methodLink RX0 23 ⟨"MeridianSeries$Items", "number", "(II)I"⟩, Cond.sameMethod "MeridianSeries$Items" "MeridianSeries$Items" "number" "(II)I", Cond.selects RX0 ⟨"MeridianSeries$Items", "number", "(II)I"⟩ yX0_number, Cond.selects RX4 ⟨"MeridianSeries$Items", "number", "(II)I"⟩ yX4_number, Cond.methodLink RX0 24 yX0_write, Cond.instanceMethod yX0_write, Cond.selects RX0 yX0_write yX0_write, Cond.code yX0_write cX0_write 5 none, Cond.methodLink RX6 96 yX0_isFull, Cond.instanceMethod yX0_isFull, Cond.selects RX0 yX0_isFull yX0_isFull, Cond.code yX0_isFull cX0_isFull 1 (some .boolean), Cond.methodLink RX6 76 yX6_rollUpFirstFine, Cond.instanceMethod yX6_rollUpFirstFine, Cond.selects RX6 yX6_rollUpFirstFine yX6_rollUpFirstFine, Cond.code yX6_rollUpFirstFine cX6_rollUpFirstFine 3 none, Cond.fieldLink RX6 102 "MeridianSeries$Settings" "fold" "I", Cond.fieldLink RX6 25 "MeridianSeries$Series" "coarse" "LMeridianSeries$Buckets;", Cond.methodLink RX6 82 yX0_number, Cond.methodLink RX6 105 yX0_dropFirst]
def wsX9_put_r8 : List Cond := [Cond.instanceMethod yX0_dropFirst, Cond.selects RX0 yX0_dropFirst yX0_dropFirst, Cond.code yX0_dropFirst cX0_dropFirst 2 none, Cond.methodLink RX6 99 yX4_dropFirstBlock, Cond.instanceMethod yX4_dropFirstBlock, Cond.selects RX4 yX4_dropFirstBlock yX4_dropFirstBlock, Cond.code yX4_dropFirstBlock cX4_dropFirstBlock 3 none, Cond.methodLink RX4 38 yX4_sizeOf, Cond.methodLink RX9 120 yX4_openSize]
def wsX9_put : List Cond := .code yX9_put cX9_put 5 (some .int) :: ((wsX9_put_r1 ++ (wsX9_put_r2 ++ (wsX9_put_r3 ++ (wsX9_put_r4 ++ (wsX9_put_r5 ++ (wsX9_put_r6 ++ (wsX9_put_r7 ++ wsX9_put_r8))))))) ++ wsX60 ++ wsX90 ++ wsX80 ++ wsJx4a65c0 ++ wsX40 ++ wsX70 ++ wsX00 ++ (vx_atS RX9 291 "java/lang/IndexOutOfBoundsException" ["java/lang/RuntimeException", "java/lang/Exception"]).filter goodWord ++ (vx_atS RX9 284 "java/lang/IllegalArgumentException" ["java/lang/RuntimeException", "java/lang/Exception"]).filter goodWord)
def wsX9_canGoOn : List Cond := .code yX9_canGoOn cX9_canGoOn 2 (some .boolean) :: ([.fieldLink RX9 21 "MeridianSeries" "store" "LMeridianSeries$Store;", .fieldLink RX9 141 "MeridianSeries$Store" "now" "I", .constant RX9 100 (99999), .methodLink RX9 51 yX9_isIn, .static yX9_isIn, .initialized RX9, .code yX9_isIn cX9_isIn 4 (some .boolean)] ++ wsX90 ++ wsX80)
def wsX9_goOn_r1 : List Cond := [Cond.fieldLink RX9 21 "MeridianSeries" "store" "LMeridianSeries$Store;", Cond.fieldLink RX9 129 "MeridianSeries$Store" "log" "LMeridianSeries$EventLog;", Cond.fieldLink RX9 133 "MeridianSeries$EventLog" "total" "I", Cond.methodLink RX9 125 yX9_canGoOn, Cond.instanceMethod yX9_canGoOn, Cond.selects RX9 yX9_canGoOn yX9_canGoOn, Cond.initialized RX9, Cond.code yX9_canGoOn cX9_canGoOn 2 (some .boolean), Cond.fieldLink RX9 141 "MeridianSeries$Store" "now" "I", Cond.constant RX9 100 (99999), Cond.methodLink RX9 51 yX9_isIn, Cond.static yX9_isIn, Cond.code yX9_isIn cX9_isIn 4 (some .boolean), Cond.methodLink RX9 55 yX9_needArgument, Cond.static yX9_needArgument, Cond.code yX9_needArgument cX9_needArgument 1 none, Cond.classLink RX9 280 "java/lang/IllegalArgumentException", Cond.initialized "java/lang/IllegalArgumentException", Cond.methodLink RX9 138 yX8_goOnByOne, Cond.instanceMethod yX8_goOnByOne, Cond.selects RX8 yX8_goOnByOne yX8_goOnByOne, Cond.initialized RX8, Cond.code yX8_goOnByOne cX8_goOnByOne 3 none, Cond.fieldLink RX8 26 "MeridianSeries$Store" "now" "I"]
def wsX9_goOn_r2 : List Cond := [Cond.fieldLink RX8 10 "MeridianSeries$Store" "chains" "Ljava/util/ArrayList;", Cond.classLink RX8 42 "MeridianSeries$Series", Cond.fieldLink RX8 30 "MeridianSeries$Store" "settings" "LMeridianSeries$Settings;", Cond.fieldLink RX8 16 "MeridianSeries$Store" "rules" "Ljava/util/ArrayList;", Cond.classLink RX8 60 "MeridianSeries$Rule", Cond.fieldLink RX8 22 "MeridianSeries$Store" "log" "LMeridianSeries$EventLog;", Cond.fieldLink RX8 73 "MeridianSeries$Rule" "state" "I", Cond.methodLink RX8 34 yJx4a65c_size_8abf5, Cond.instanceMethod yJx4a65c_size_8abf5, Cond.selects RJx4a65c yJx4a65c_size_8abf5 yJx4a65c_size_8abf5, Cond.initialized RJx4a65c, Cond.code yJx4a65c_size_8abf5 cJx4a65c_size_8abf5 1 (some .int), Cond.fieldLink RJx4a65c 48 "java/util/ArrayList" "size" "I", Cond.methodLink RX8 38 yJx4a65c_get_915e3, Cond.instanceMethod yJx4a65c_get_915e3, Cond.selects RJx4a65c yJx4a65c_get_915e3 yJx4a65c_get_915e3, Cond.code yJx4a65c_get_915e3 cJx4a65c_get_915e3 2 (some (.object "java/lang/Object")), Cond.methodLink RJx4a65c 118 yJ15_checkIndex_7cf53, Cond.static yJ15_checkIndex_7cf53, Cond.initialized RJ15, Cond.code yJ15_checkIndex_7cf53 cJ15_checkIndex_7cf53 2 (some .int), Cond.methodLink RJ15 105 yJ3_checkIndex_8e157, Cond.static yJ3_checkIndex_8e157, Cond.initialized RJ3]
def wsX9_goOn_r3 : List Cond := [Cond.code yJ3_checkIndex_8e157 cJ3_checkIndex_8e157 3 (some .int), Cond.methodLink RJx4a65c 123 yJx4a65c_elementData_915e3, Cond.instanceMethod yJx4a65c_elementData_915e3, Cond.selects RJx4a65c yJx4a65c_elementData_915e3 yJx4a65c_elementData_915e3, Cond.code yJx4a65c_elementData_915e3 cJx4a65c_elementData_915e3 2 (some (.object "java/lang/Object")), Cond.fieldLink RJx4a65c 9 "java/util/ArrayList" "elementData" "[Ljava/lang/Object;", Cond.methodLink RX8 56 yX6_rollUpBy, Cond.instanceMethod yX6_rollUpBy, Cond.selects RX6 yX6_rollUpBy yX6_rollUpBy, Cond.initialized RX6, Cond.code yX6_rollUpBy cX6_rollUpBy 7 none, Cond.fieldLink RX6 59 "MeridianSeries$Settings" "keep" "I", Cond.fieldLink RX6 12 "MeridianSeries$Series" "points" "LMeridianSeries$Points;", Cond.fieldLink RX6 66 "MeridianSeries$Settings" "longKeep" "I", Cond.fieldLink RX6 69 "MeridianSeries$Settings" "width" "I", Cond.methodLink RX6 62 yX4_blocksBelow, Cond.instanceMethod yX4_blocksBelow, Cond.selects RX4 yX4_blocksBelow yX4_blocksBelow, Cond.initialized RX4, Cond.code yX4_blocksBelow cX4_blocksBelow 4 (some .int), Cond.fieldLink RX4 21 "MeridianSeries$Points" "sealedBlocks" "I", Cond.methodLink RX4 38 yX4_sizeOf, Cond.instanceMethod yX4_sizeOf, Cond.selects RX4 yX4_sizeOf yX4_sizeOf]
def wsX9_goOn_r4 : List Cond := [Cond.code yX4_sizeOf cX4_sizeOf 2 (some .int), Cond.fieldLink RX4 18 "MeridianSeries$Points" "sizes" "[I", Cond.methodLink RX4 34 yX4_openSize, Cond.instanceMethod yX4_openSize, Cond.selects RX4 yX4_openSize yX4_openSize, Cond.code yX4_openSize cX4_openSize 1 (some .int), Cond.fieldLink RX4 31 "MeridianSeries$Points" "amount" "I", Cond.sameField "MeridianSeries$Points" "MeridianSeries$Items" "amount" "I", Cond.fieldLink RX4 25 "MeridianSeries$Points" "sealedPoints" "I", Cond.methodLink RX4 42 yX4_number, Cond.instanceMethod yX4_number, Cond.selects RX4 yX4_number yX4_number, Cond.code yX4_number cX4_number 3 (some .int), Cond.fieldLink RX4 11 "MeridianSeries$Points" "times" "[I", Cond.fieldLink RX4 15 "MeridianSeries$Points" "values" "[I", Cond.methodLink RX6 55 yX6_rollUpFirstBlock, Cond.instanceMethod yX6_rollUpFirstBlock, Cond.selects RX6 yX6_rollUpFirstBlock yX6_rollUpFirstBlock, Cond.code yX6_rollUpFirstBlock cX6_rollUpFirstBlock 4 none, Cond.fieldLink RX6 21 "MeridianSeries$Series" "fine" "LMeridianSeries$Buckets;", Cond.methodLink RX6 85 yX4_sizeOf, Cond.methodLink RX6 88 yX4_number, Cond.methodLink RX6 89 yX6_startFor, Cond.static yX6_startFor]
def wsX9_goOn_r5 : List Cond := [Cond.code yX6_startFor cX6_startFor 2 (some .int), Cond.methodLink RX6 92 yX0_take, Cond.instanceMethod yX0_take, Cond.selects RX0 yX0_take yX0_take, Cond.initialized RX0, Cond.code yX0_take cX0_take 6 none, Cond.fieldLink RX0 15 "MeridianSeries$Buckets" "amount" "I", Cond.sameField "MeridianSeries$Buckets" "MeridianSeries$Items" "amount" "I", Cond.methodLink RX0 28 Lib.Math.min.name, Cond.static Lib.Math.min.name, Cond.initialized "java/lang/Math", Cond.code Lib.Math.min.name Lib.Math.min.code 2 (some .int), Cond.methodLink RX0 33 Lib.Math.max.name, Cond.static Lib.Math.max.name, Cond.code Lib.Math.max.name Lib.Math.max.code 2 (some .int), Cond.methodLink RX0 19 yX0_number, Cond.instanceMethod yX0_number, Cond.selects RX0 yX0_number yX0_number, Cond.code yX0_number cX0_number 4 (some .int), Cond.fieldLink RX0 11 "MeridianSeries$Buckets" "cells" "[I", Cond.methodLink RX0 23 ⟨"MeridianSeries$Items", "number", "(II)I"⟩, Cond.sameMethod "MeridianSeries$Items" "MeridianSeries$Items" "number" "(II)I", Cond.selects RX0 ⟨"MeridianSeries$Items", "number", "(II)I"⟩ yX0_number, Cond.selects RX4 ⟨"MeridianSeries$Items", "number", "(II)I"⟩ yX4_number]
def wsX9_goOn_r6 : List Cond := [Cond.methodLink RX0 24 yX0_write, Cond.instanceMethod yX0_write, Cond.selects RX0 yX0_write yX0_write, Cond.code yX0_write cX0_write 5 none, Cond.methodLink RX6 96 yX0_isFull, Cond.instanceMethod yX0_isFull, Cond.selects RX0 yX0_isFull yX0_isFull, Cond.code yX0_isFull cX0_isFull 1 (some .boolean), Cond.methodLink RX6 76 yX6_rollUpFirstFine, Cond.instanceMethod yX6_rollUpFirstFine, Cond.selects RX6 yX6_rollUpFirstFine yX6_rollUpFirstFine, Cond.code yX6_rollUpFirstFine cX6_rollUpFirstFine 3 none, Cond.fieldLink RX6 102 "MeridianSeries$Settings" "fold" "I", Cond.fieldLink RX6 25 "MeridianSeries$Series" "coarse" "LMeridianSeries$Buckets;", Cond.methodLink RX6 82 yX0_number, Cond.methodLink RX6 105 yX0_dropFirst, Cond.instanceMethod yX0_dropFirst, Cond.selects RX0 yX0_dropFirst yX0_dropFirst, Cond.code yX0_dropFirst cX0_dropFirst 2 none, Cond.methodLink RX6 99 yX4_dropFirstBlock, Cond.instanceMethod yX4_dropFirstBlock, Cond.selects RX4 yX4_dropFirstBlock yX4_dropFirstBlock, Cond.code yX4_dropFirstBlock cX4_dropFirstBlock 3 none, Cond.methodLink RX4 53 yX4_copyPoint]
def wsX9_goOn_r7 : List Cond := [Cond.instanceMethod yX4_copyPoint, Cond.selects RX4 yX4_copyPoint yX4_copyPoint, Cond.code yX4_copyPoint cX4_copyPoint 3 none, Cond.methodLink RX4 57 yX4_write, Cond.instanceMethod yX4_write, Cond.selects RX4 yX4_write yX4_write, Cond.code yX4_write cX4_write 4 none, Cond.methodLink RX6 72 yX6_fineEndingBy, Cond.instanceMethod yX6_fineEndingBy, Cond.selects RX6 yX6_fineEndingBy yX6_fineEndingBy, Cond.code yX6_fineEndingBy cX6_fineEndingBy 4 (some .int), Cond.fieldLink RX6 79 "MeridianSeries$Buckets" "amount" "I", Cond.methodLink RX8 62 yX5_isDueAt, Cond.instanceMethod yX5_isDueAt, Cond.selects RX5 yX5_isDueAt yX5_isDueAt, Cond.initialized RX5, Cond.code yX5_isDueAt cX5_isDueAt 2 (some .boolean), Cond.fieldLink RX5 28 "MeridianSeries$Rule" "every" "I", Cond.methodLink RX8 66 yX5_told, Cond.instanceMethod yX5_told, Cond.selects RX5 yX5_told yX5_told, Cond.code yX5_told cX5_told 2 (some .int), Cond.fieldLink RX5 18 "MeridianSeries$Rule" "chain" "LMeridianSeries$Series;", Cond.fieldLink RX5 25 "MeridianSeries$Rule" "length" "I"]
def wsX9_goOn_r8 : List Cond := [Cond.fieldLink RX5 22 "MeridianSeries$Rule" "what" "I", Cond.methodLink RX5 41 yX6_tell, Cond.instanceMethod yX6_tell, Cond.selects RX6 yX6_tell yX6_tell, Cond.code yX6_tell cX6_tell 7 (some .int), Cond.methodLink RX6 115 yX6_firstItemFrom, Cond.instanceMethod yX6_firstItemFrom, Cond.selects RX6 yX6_firstItemFrom yX6_firstItemFrom, Cond.code yX6_firstItemFrom cX6_firstItemFrom 6 (some .int), Cond.methodLink RX6 109 yX6_itemCount, Cond.instanceMethod yX6_itemCount, Cond.selects RX6 yX6_itemCount yX6_itemCount, Cond.code yX6_itemCount cX6_itemCount 1 (some .int), Cond.fieldLink RX6 108 "MeridianSeries$Points" "amount" "I", Cond.methodLink RX6 112 yX6_ofItem, Cond.instanceMethod yX6_ofItem, Cond.selects RX6 yX6_ofItem yX6_ofItem, Cond.code yX6_ofItem cX6_ofItem 4 (some .int), Cond.methodLink RX6 118 yX6_toldOfGap, Cond.instanceMethod yX6_toldOfGap, Cond.selects RX6 yX6_toldOfGap yX6_toldOfGap, Cond.code yX6_toldOfGap cX6_toldOfGap 5 (some .int), Cond.constant RX6 134 (-1000000), Cond.methodLink RX6 135 yX6_onLine]
def wsX9_goOn_r9 : List Cond := [Cond.instanceMethod yX6_onLine, Cond.selects RX6 yX6_onLine yX6_onLine, Cond.code yX6_onLine cX6_onLine 9 (some .int), Cond.methodLink RX6 122 yX6_total, Cond.instanceMethod yX6_total, Cond.selects RX6 yX6_total yX6_total, Cond.code yX6_total cX6_total 6 (some .int), Cond.methodLink RX6 125 yX6_least, Cond.instanceMethod yX6_least, Cond.selects RX6 yX6_least yX6_least, Cond.code yX6_least cX6_least 5 (some .int), Cond.methodLink RX6 138 Lib.Math.min.name, Cond.methodLink RX6 128 yX6_greatest, Cond.instanceMethod yX6_greatest, Cond.selects RX6 yX6_greatest yX6_greatest, Cond.code yX6_greatest cX6_greatest 5 (some .int), Cond.methodLink RX6 143 Lib.Math.max.name, Cond.methodLink RX6 131 yX6_quotient, Cond.static yX6_quotient, Cond.code yX6_quotient cX6_quotient 2 (some .int), Cond.methodLink RX8 70 yX5_changesBy, Cond.instanceMethod yX5_changesBy, Cond.selects RX5 yX5_changesBy yX5_changesBy, Cond.code yX5_changesBy cX5_changesBy 3 (some .boolean)]
def wsX9_goOn_r10 : List Cond := [Cond.constant RX5 47 (-1000000), Cond.fieldLink RX5 31 "MeridianSeries$Rule" "isAbove" "Z", Cond.fieldLink RX5 35 "MeridianSeries$Rule" "limit" "I", Cond.fieldLink RX5 9 "MeridianSeries$Rule" "state" "I", Cond.methodLink RX5 48 yX5_ceases, Cond.instanceMethod yX5_ceases, Cond.selects RX5 yX5_ceases yX5_ceases, Cond.code yX5_ceases cX5_ceases 2 (some .boolean), Cond.fieldLink RX5 15 "MeridianSeries$Rule" "timesInRow" "I", Cond.fieldLink RX5 38 "MeridianSeries$Rule" "times" "I", Cond.methodLink RX5 55 yX5_become, Cond.instanceMethod yX5_become, Cond.selects RX5 yX5_become yX5_become, Cond.code yX5_become cX5_become 2 none, Cond.methodLink RX5 52 yX5_begins, Cond.instanceMethod yX5_begins, Cond.selects RX5 yX5_begins yX5_begins, Cond.code yX5_begins cX5_begins 2 (some .boolean), Cond.methodLink RX8 76 yX1_add, Cond.instanceMethod yX1_add, Cond.selects RX1 yX1_add yX1_add, Cond.initialized RX1, Cond.code yX1_add cX1_add 5 none, Cond.fieldLink RX1 15 "MeridianSeries$EventLog" "total" "I"]
def wsX9_goOn_r11 : List Cond := [Cond.fieldLink RX1 9 "MeridianSeries$EventLog" "cells" "[I", Cond.fieldLink RX1 19 "MeridianSeries$EventLog" "firings" "I"]
def wsX9_goOn : List Cond := .code yX9_goOn cX9_goOn 4 (some .int) :: ((wsX9_goOn_r1 ++ (wsX9_goOn_r2 ++ (wsX9_goOn_r3 ++ (wsX9_goOn_r4 ++ (wsX9_goOn_r5 ++ (wsX9_goOn_r6 ++ (wsX9_goOn_r7 ++ (wsX9_goOn_r8 ++ (wsX9_goOn_r9 ++ (wsX9_goOn_r10 ++ wsX9_goOn_r11)))))))))) ++ wsX90 ++ wsX80 ++ wsX10 ++ wsX50 ++ wsJx4a65c0 ++ wsX70 ++ wsX60 ++ wsX40 ++ wsX00 ++ (vx_atS RX9 284 "java/lang/IllegalArgumentException" ["java/lang/RuntimeException", "java/lang/Exception"]).filter goodWord)
def wsX9_now : List Cond := .code yX9_now cX9_now 1 (some .int) :: ([.fieldLink RX9 21 "MeridianSeries" "store" "LMeridianSeries$Store;", .fieldLink RX9 141 "MeridianSeries$Store" "now" "I"] ++ wsX90 ++ wsX80)
def wsX9_late : List Cond := .code yX9_late cX9_late 1 (some .int) :: ([.fieldLink RX9 48 "MeridianSeries" "lateCount" "I"] ++ wsX90)
def wsX9_blocks_r1 : List Cond := [Cond.fieldLink RX9 116 "MeridianSeries$Series" "points" "LMeridianSeries$Points;", Cond.methodLink RX9 101 yX9_chainAt, Cond.instanceMethod yX9_chainAt, Cond.selects RX9 yX9_chainAt yX9_chainAt, Cond.initialized RX9, Cond.code yX9_chainAt cX9_chainAt 2 (some (.object "MeridianSeries$Series")), Cond.classLink RX9 287 "java/lang/IndexOutOfBoundsException", Cond.initialized "java/lang/IndexOutOfBoundsException", Cond.fieldLink RX9 21 "MeridianSeries" "store" "LMeridianSeries$Store;", Cond.fieldLink RX9 59 "MeridianSeries$Store" "chains" "Ljava/util/ArrayList;", Cond.classLink RX9 72 "MeridianSeries$Series", Cond.methodLink RX9 63 yJx4a65c_size_8abf5, Cond.instanceMethod yJx4a65c_size_8abf5, Cond.selects RJx4a65c yJx4a65c_size_8abf5 yJx4a65c_size_8abf5, Cond.initialized RJx4a65c, Cond.code yJx4a65c_size_8abf5 cJx4a65c_size_8abf5 1 (some .int), Cond.fieldLink RJx4a65c 48 "java/util/ArrayList" "size" "I", Cond.methodLink RX9 187 yJx4a65c_get_915e3, Cond.instanceMethod yJx4a65c_get_915e3, Cond.selects RJx4a65c yJx4a65c_get_915e3 yJx4a65c_get_915e3, Cond.code yJx4a65c_get_915e3 cJx4a65c_get_915e3 2 (some (.object "java/lang/Object")), Cond.methodLink RJx4a65c 118 yJ15_checkIndex_7cf53, Cond.static yJ15_checkIndex_7cf53, Cond.initialized RJ15]
def wsX9_blocks_r2 : List Cond := [Cond.code yJ15_checkIndex_7cf53 cJ15_checkIndex_7cf53 2 (some .int), Cond.methodLink RJ15 105 yJ3_checkIndex_8e157, Cond.static yJ3_checkIndex_8e157, Cond.initialized RJ3, Cond.code yJ3_checkIndex_8e157 cJ3_checkIndex_8e157 3 (some .int), Cond.methodLink RJx4a65c 123 yJx4a65c_elementData_915e3, Cond.instanceMethod yJx4a65c_elementData_915e3, Cond.selects RJx4a65c yJx4a65c_elementData_915e3 yJx4a65c_elementData_915e3, Cond.code yJx4a65c_elementData_915e3 cJx4a65c_elementData_915e3 2 (some (.object "java/lang/Object")), Cond.fieldLink RJx4a65c 9 "java/util/ArrayList" "elementData" "[Ljava/lang/Object;", Cond.methodLink RX9 144 yX4_blockCount, Cond.instanceMethod yX4_blockCount, Cond.selects RX4 yX4_blockCount yX4_blockCount, Cond.initialized RX4, Cond.code yX4_blockCount cX4_blockCount 1 (some .int), Cond.fieldLink RX4 21 "MeridianSeries$Points" "sealedBlocks" "I"]
def wsX9_blocks : List Cond := .code yX9_blocks cX9_blocks 2 (some .int) :: ((wsX9_blocks_r1 ++ wsX9_blocks_r2) ++ wsX60 ++ wsX90 ++ wsX80 ++ wsJx4a65c0 ++ wsX40 ++ (vx_atS RX9 291 "java/lang/IndexOutOfBoundsException" ["java/lang/RuntimeException", "java/lang/Exception"]).filter goodWord)
def wsX9_needIndex : List Cond := .code yX9_needIndex cX9_needIndex 1 none :: ([.classLink RX9 287 "java/lang/IndexOutOfBoundsException", .initialized "java/lang/IndexOutOfBoundsException"] ++ (vx_atS RX9 291 "java/lang/IndexOutOfBoundsException" ["java/lang/RuntimeException", "java/lang/Exception"]).filter goodWord)
def wsX9_size_r1 : List Cond := [Cond.fieldLink RX9 116 "MeridianSeries$Series" "points" "LMeridianSeries$Points;", Cond.fieldLink RX9 147 "MeridianSeries$Points" "sealedBlocks" "I", Cond.methodLink RX9 101 yX9_chainAt, Cond.instanceMethod yX9_chainAt, Cond.selects RX9 yX9_chainAt yX9_chainAt, Cond.initialized RX9, Cond.code yX9_chainAt cX9_chainAt 2 (some (.object "MeridianSeries$Series")), Cond.classLink RX9 287 "java/lang/IndexOutOfBoundsException", Cond.initialized "java/lang/IndexOutOfBoundsException", Cond.fieldLink RX9 21 "MeridianSeries" "store" "LMeridianSeries$Store;", Cond.fieldLink RX9 59 "MeridianSeries$Store" "chains" "Ljava/util/ArrayList;", Cond.classLink RX9 72 "MeridianSeries$Series", Cond.methodLink RX9 63 yJx4a65c_size_8abf5, Cond.instanceMethod yJx4a65c_size_8abf5, Cond.selects RJx4a65c yJx4a65c_size_8abf5 yJx4a65c_size_8abf5, Cond.initialized RJx4a65c, Cond.code yJx4a65c_size_8abf5 cJx4a65c_size_8abf5 1 (some .int), Cond.fieldLink RJx4a65c 48 "java/util/ArrayList" "size" "I", Cond.methodLink RX9 187 yJx4a65c_get_915e3, Cond.instanceMethod yJx4a65c_get_915e3, Cond.selects RJx4a65c yJx4a65c_get_915e3 yJx4a65c_get_915e3, Cond.code yJx4a65c_get_915e3 cJx4a65c_get_915e3 2 (some (.object "java/lang/Object")), Cond.methodLink RJx4a65c 118 yJ15_checkIndex_7cf53, Cond.static yJ15_checkIndex_7cf53]
def wsX9_size_r2 : List Cond := [Cond.initialized RJ15, Cond.code yJ15_checkIndex_7cf53 cJ15_checkIndex_7cf53 2 (some .int), Cond.methodLink RJ15 105 yJ3_checkIndex_8e157, Cond.static yJ3_checkIndex_8e157, Cond.initialized RJ3, Cond.code yJ3_checkIndex_8e157 cJ3_checkIndex_8e157 3 (some .int), Cond.methodLink RJx4a65c 123 yJx4a65c_elementData_915e3, Cond.instanceMethod yJx4a65c_elementData_915e3, Cond.selects RJx4a65c yJx4a65c_elementData_915e3 yJx4a65c_elementData_915e3, Cond.code yJx4a65c_elementData_915e3 cJx4a65c_elementData_915e3 2 (some (.object "java/lang/Object")), Cond.fieldLink RJx4a65c 9 "java/util/ArrayList" "elementData" "[Ljava/lang/Object;", Cond.methodLink RX9 51 yX9_isIn, Cond.static yX9_isIn, Cond.code yX9_isIn cX9_isIn 4 (some .boolean), Cond.methodLink RX9 150 yX9_needIndex, Cond.static yX9_needIndex, Cond.code yX9_needIndex cX9_needIndex 1 none, Cond.methodLink RX9 153 yX4_sizeOf, Cond.instanceMethod yX4_sizeOf, Cond.selects RX4 yX4_sizeOf yX4_sizeOf, Cond.initialized RX4, Cond.code yX4_sizeOf cX4_sizeOf 2 (some .int), Cond.fieldLink RX4 21 "MeridianSeries$Points" "sealedBlocks" "I", Cond.fieldLink RX4 18 "MeridianSeries$Points" "sizes" "[I"]
def wsX9_size_r3 : List Cond := [Cond.methodLink RX4 34 yX4_openSize, Cond.instanceMethod yX4_openSize, Cond.selects RX4 yX4_openSize yX4_openSize, Cond.code yX4_openSize cX4_openSize 1 (some .int), Cond.fieldLink RX4 31 "MeridianSeries$Points" "amount" "I", Cond.sameField "MeridianSeries$Points" "MeridianSeries$Items" "amount" "I", Cond.fieldLink RX4 25 "MeridianSeries$Points" "sealedPoints" "I"]
def wsX9_size : List Cond := .code yX9_size cX9_size 4 (some .int) :: ((wsX9_size_r1 ++ (wsX9_size_r2 ++ wsX9_size_r3)) ++ wsX60 ++ wsX40 ++ wsX90 ++ wsX80 ++ wsJx4a65c0 ++ wsX00 ++ (vx_atS RX9 291 "java/lang/IndexOutOfBoundsException" ["java/lang/RuntimeException", "java/lang/Exception"]).filter goodWord)
def wsX9_point_r1 : List Cond := [Cond.fieldLink RX9 116 "MeridianSeries$Series" "points" "LMeridianSeries$Points;", Cond.fieldLink RX9 147 "MeridianSeries$Points" "sealedBlocks" "I", Cond.methodLink RX9 101 yX9_chainAt, Cond.instanceMethod yX9_chainAt, Cond.selects RX9 yX9_chainAt yX9_chainAt, Cond.initialized RX9, Cond.code yX9_chainAt cX9_chainAt 2 (some (.object "MeridianSeries$Series")), Cond.classLink RX9 287 "java/lang/IndexOutOfBoundsException", Cond.initialized "java/lang/IndexOutOfBoundsException", Cond.fieldLink RX9 21 "MeridianSeries" "store" "LMeridianSeries$Store;", Cond.fieldLink RX9 59 "MeridianSeries$Store" "chains" "Ljava/util/ArrayList;", Cond.classLink RX9 72 "MeridianSeries$Series", Cond.methodLink RX9 63 yJx4a65c_size_8abf5, Cond.instanceMethod yJx4a65c_size_8abf5, Cond.selects RJx4a65c yJx4a65c_size_8abf5 yJx4a65c_size_8abf5, Cond.initialized RJx4a65c, Cond.code yJx4a65c_size_8abf5 cJx4a65c_size_8abf5 1 (some .int), Cond.fieldLink RJx4a65c 48 "java/util/ArrayList" "size" "I", Cond.methodLink RX9 187 yJx4a65c_get_915e3, Cond.instanceMethod yJx4a65c_get_915e3, Cond.selects RJx4a65c yJx4a65c_get_915e3 yJx4a65c_get_915e3, Cond.code yJx4a65c_get_915e3 cJx4a65c_get_915e3 2 (some (.object "java/lang/Object")), Cond.methodLink RJx4a65c 118 yJ15_checkIndex_7cf53, Cond.static yJ15_checkIndex_7cf53]
def wsX9_point_r2 : List Cond := [Cond.initialized RJ15, Cond.code yJ15_checkIndex_7cf53 cJ15_checkIndex_7cf53 2 (some .int), Cond.methodLink RJ15 105 yJ3_checkIndex_8e157, Cond.static yJ3_checkIndex_8e157, Cond.initialized RJ3, Cond.code yJ3_checkIndex_8e157 cJ3_checkIndex_8e157 3 (some .int), Cond.methodLink RJx4a65c 123 yJx4a65c_elementData_915e3, Cond.instanceMethod yJx4a65c_elementData_915e3, Cond.selects RJx4a65c yJx4a65c_elementData_915e3 yJx4a65c_elementData_915e3, Cond.code yJx4a65c_elementData_915e3 cJx4a65c_elementData_915e3 2 (some (.object "java/lang/Object")), Cond.fieldLink RJx4a65c 9 "java/util/ArrayList" "elementData" "[Ljava/lang/Object;", Cond.methodLink RX9 51 yX9_isIn, Cond.static yX9_isIn, Cond.code yX9_isIn cX9_isIn 4 (some .boolean), Cond.methodLink RX9 150 yX9_needIndex, Cond.static yX9_needIndex, Cond.code yX9_needIndex cX9_needIndex 1 none, Cond.methodLink RX9 153 yX4_sizeOf, Cond.instanceMethod yX4_sizeOf, Cond.selects RX4 yX4_sizeOf yX4_sizeOf, Cond.initialized RX4, Cond.code yX4_sizeOf cX4_sizeOf 2 (some .int), Cond.fieldLink RX4 21 "MeridianSeries$Points" "sealedBlocks" "I", Cond.fieldLink RX4 18 "MeridianSeries$Points" "sizes" "[I"]
def wsX9_point_r3 : List Cond := [Cond.methodLink RX4 34 yX4_openSize, Cond.instanceMethod yX4_openSize, Cond.selects RX4 yX4_openSize yX4_openSize, Cond.code yX4_openSize cX4_openSize 1 (some .int), Cond.fieldLink RX4 31 "MeridianSeries$Points" "amount" "I", Cond.sameField "MeridianSeries$Points" "MeridianSeries$Items" "amount" "I", Cond.fieldLink RX4 25 "MeridianSeries$Points" "sealedPoints" "I", Cond.methodLink RX9 157 yX4_startOf, Cond.instanceMethod yX4_startOf, Cond.selects RX4 yX4_startOf yX4_startOf, Cond.code yX4_startOf cX4_startOf 4 (some .int), Cond.methodLink RX4 38 yX4_sizeOf, Cond.methodLink RX9 160 yX4_number, Cond.instanceMethod yX4_number, Cond.selects RX4 yX4_number yX4_number, Cond.code yX4_number cX4_number 3 (some .int), Cond.fieldLink RX4 11 "MeridianSeries$Points" "times" "[I", Cond.fieldLink RX4 15 "MeridianSeries$Points" "values" "[I"]
def wsX9_point : List Cond := .code yX9_point cX9_point 6 (some .int) :: ((wsX9_point_r1 ++ (wsX9_point_r2 ++ wsX9_point_r3)) ++ wsX60 ++ wsX40 ++ wsX90 ++ wsX80 ++ wsJx4a65c0 ++ wsX00 ++ (vx_atS RX9 291 "java/lang/IndexOutOfBoundsException" ["java/lang/RuntimeException", "java/lang/Exception"]).filter goodWord)
def wsX9_bits_r1 : List Cond := [Cond.fieldLink RX9 116 "MeridianSeries$Series" "points" "LMeridianSeries$Points;", Cond.fieldLink RX9 147 "MeridianSeries$Points" "sealedBlocks" "I", Cond.fieldLink RX9 31 "MeridianSeries" "packer" "LMeridianSeries$Packer;", Cond.methodLink RX9 101 yX9_chainAt, Cond.instanceMethod yX9_chainAt, Cond.selects RX9 yX9_chainAt yX9_chainAt, Cond.initialized RX9, Cond.code yX9_chainAt cX9_chainAt 2 (some (.object "MeridianSeries$Series")), Cond.classLink RX9 287 "java/lang/IndexOutOfBoundsException", Cond.initialized "java/lang/IndexOutOfBoundsException", Cond.fieldLink RX9 21 "MeridianSeries" "store" "LMeridianSeries$Store;", Cond.fieldLink RX9 59 "MeridianSeries$Store" "chains" "Ljava/util/ArrayList;", Cond.classLink RX9 72 "MeridianSeries$Series", Cond.methodLink RX9 63 yJx4a65c_size_8abf5, Cond.instanceMethod yJx4a65c_size_8abf5, Cond.selects RJx4a65c yJx4a65c_size_8abf5 yJx4a65c_size_8abf5, Cond.initialized RJx4a65c, Cond.code yJx4a65c_size_8abf5 cJx4a65c_size_8abf5 1 (some .int), Cond.fieldLink RJx4a65c 48 "java/util/ArrayList" "size" "I", Cond.methodLink RX9 187 yJx4a65c_get_915e3, Cond.instanceMethod yJx4a65c_get_915e3, Cond.selects RJx4a65c yJx4a65c_get_915e3 yJx4a65c_get_915e3, Cond.code yJx4a65c_get_915e3 cJx4a65c_get_915e3 2 (some (.object "java/lang/Object")), Cond.methodLink RJx4a65c 118 yJ15_checkIndex_7cf53]
def wsX9_bits_r2 : List Cond := [Cond.static yJ15_checkIndex_7cf53, Cond.initialized RJ15, Cond.code yJ15_checkIndex_7cf53 cJ15_checkIndex_7cf53 2 (some .int), Cond.methodLink RJ15 105 yJ3_checkIndex_8e157, Cond.static yJ3_checkIndex_8e157, Cond.initialized RJ3, Cond.code yJ3_checkIndex_8e157 cJ3_checkIndex_8e157 3 (some .int), Cond.methodLink RJx4a65c 123 yJx4a65c_elementData_915e3, Cond.instanceMethod yJx4a65c_elementData_915e3, Cond.selects RJx4a65c yJx4a65c_elementData_915e3 yJx4a65c_elementData_915e3, Cond.code yJx4a65c_elementData_915e3 cJx4a65c_elementData_915e3 2 (some (.object "java/lang/Object")), Cond.fieldLink RJx4a65c 9 "java/util/ArrayList" "elementData" "[Ljava/lang/Object;", Cond.methodLink RX9 51 yX9_isIn, Cond.static yX9_isIn, Cond.code yX9_isIn cX9_isIn 4 (some .boolean), Cond.methodLink RX9 150 yX9_needIndex, Cond.static yX9_needIndex, Cond.code yX9_needIndex cX9_needIndex 1 none, Cond.methodLink RX9 164 yX3_pack, Cond.instanceMethod yX3_pack, Cond.selects RX3 yX3_pack yX3_pack, Cond.initialized RX3, Cond.code yX3_pack cX3_pack 6 (some .int), Cond.fieldLink RX3 31 "MeridianSeries$Points" "sealedBlocks" "I"]
def wsX9_bits_r3 : List Cond := [Cond.fieldLink RX3 15 "MeridianSeries$Packer" "length" "I", Cond.methodLink RX3 36 yX4_startOf, Cond.instanceMethod yX4_startOf, Cond.selects RX4 yX4_startOf yX4_startOf, Cond.initialized RX4, Cond.code yX4_startOf cX4_startOf 4 (some .int), Cond.fieldLink RX4 21 "MeridianSeries$Points" "sealedBlocks" "I", Cond.methodLink RX4 38 yX4_sizeOf, Cond.instanceMethod yX4_sizeOf, Cond.selects RX4 yX4_sizeOf yX4_sizeOf, Cond.code yX4_sizeOf cX4_sizeOf 2 (some .int), Cond.fieldLink RX4 18 "MeridianSeries$Points" "sizes" "[I", Cond.methodLink RX4 34 yX4_openSize, Cond.instanceMethod yX4_openSize, Cond.selects RX4 yX4_openSize yX4_openSize, Cond.code yX4_openSize cX4_openSize 1 (some .int), Cond.fieldLink RX4 31 "MeridianSeries$Points" "amount" "I", Cond.sameField "MeridianSeries$Points" "MeridianSeries$Items" "amount" "I", Cond.fieldLink RX4 25 "MeridianSeries$Points" "sealedPoints" "I", Cond.methodLink RX3 40 yX4_sizeOf, Cond.methodLink RX3 43 yX3_begin, Cond.instanceMethod yX3_begin, Cond.selects RX3 yX3_begin yX3_begin, Cond.code yX3_begin cX3_begin 2 none]
def wsX9_bits_r4 : List Cond := [Cond.fieldLink RX3 11 "MeridianSeries$Packer" "words" "[I", Cond.fieldLink RX3 19 "MeridianSeries$Packer" "packed" "I", Cond.methodLink RX3 72 yJ7_fill_53178, Cond.static yJ7_fill_53178, Cond.initialized RJ7, Cond.code yJ7_fill_53178 cJ7_fill_53178 4 none, Cond.methodLink RX3 78 yX3_write, Cond.instanceMethod yX3_write, Cond.selects RX3 yX3_write yX3_write, Cond.code yX3_write cX3_write 5 none, Cond.methodLink RX3 47 yX4_number, Cond.instanceMethod yX4_number, Cond.selects RX4 yX4_number yX4_number, Cond.code yX4_number cX4_number 3 (some .int), Cond.fieldLink RX4 11 "MeridianSeries$Points" "times" "[I", Cond.fieldLink RX4 15 "MeridianSeries$Points" "values" "[I", Cond.methodLink RX3 51 yX3_add, Cond.instanceMethod yX3_add, Cond.selects RX3 yX3_add yX3_add, Cond.code yX3_add cX3_add 4 none, Cond.constant RX3 81 (1048576), Cond.fieldLink RX3 25 "MeridianSeries$Packer" "lastStep" "I", Cond.fieldLink RX3 22 "MeridianSeries$Packer" "lastTime" "I", Cond.fieldLink RX3 28 "MeridianSeries$Packer" "lastValue" "I"]
def wsX9_bits_r5 : List Cond := [Cond.methodLink RX3 82 yX3_addTime, Cond.instanceMethod yX3_addTime, Cond.selects RX3 yX3_addTime yX3_addTime, Cond.code yX3_addTime cX3_addTime 2 none, Cond.methodLink RX3 85 yX3_addValue, Cond.instanceMethod yX3_addValue, Cond.selects RX3 yX3_addValue yX3_addValue, Cond.code yX3_addValue cX3_addValue 2 none, Cond.constant RX3 92 (262144)]
def wsX9_bits : List Cond := .code yX9_bits cX9_bits 4 (some .int) :: ((wsX9_bits_r1 ++ (wsX9_bits_r2 ++ (wsX9_bits_r3 ++ (wsX9_bits_r4 ++ wsX9_bits_r5)))) ++ wsX60 ++ wsX40 ++ wsX90 ++ wsX80 ++ wsJx4a65c0 ++ wsX30 ++ wsX00 ++ (vx_atS RX9 291 "java/lang/IndexOutOfBoundsException" ["java/lang/RuntimeException", "java/lang/Exception"]).filter goodWord)
def wsX9_buckets_r1 : List Cond := [Cond.fieldLink RX9 178 "MeridianSeries$Buckets" "amount" "I", Cond.sameField "MeridianSeries$Buckets" "MeridianSeries$Items" "amount" "I", Cond.methodLink RX9 101 yX9_chainAt, Cond.instanceMethod yX9_chainAt, Cond.selects RX9 yX9_chainAt yX9_chainAt, Cond.initialized RX9, Cond.code yX9_chainAt cX9_chainAt 2 (some (.object "MeridianSeries$Series")), Cond.classLink RX9 287 "java/lang/IndexOutOfBoundsException", Cond.initialized "java/lang/IndexOutOfBoundsException", Cond.fieldLink RX9 21 "MeridianSeries" "store" "LMeridianSeries$Store;", Cond.fieldLink RX9 59 "MeridianSeries$Store" "chains" "Ljava/util/ArrayList;", Cond.classLink RX9 72 "MeridianSeries$Series", Cond.methodLink RX9 63 yJx4a65c_size_8abf5, Cond.instanceMethod yJx4a65c_size_8abf5, Cond.selects RJx4a65c yJx4a65c_size_8abf5 yJx4a65c_size_8abf5, Cond.initialized RJx4a65c, Cond.code yJx4a65c_size_8abf5 cJx4a65c_size_8abf5 1 (some .int), Cond.fieldLink RJx4a65c 48 "java/util/ArrayList" "size" "I", Cond.methodLink RX9 187 yJx4a65c_get_915e3, Cond.instanceMethod yJx4a65c_get_915e3, Cond.selects RJx4a65c yJx4a65c_get_915e3 yJx4a65c_get_915e3, Cond.code yJx4a65c_get_915e3 cJx4a65c_get_915e3 2 (some (.object "java/lang/Object")), Cond.methodLink RJx4a65c 118 yJ15_checkIndex_7cf53, Cond.static yJ15_checkIndex_7cf53]
def wsX9_buckets_r2 : List Cond := [Cond.initialized RJ15, Cond.code yJ15_checkIndex_7cf53 cJ15_checkIndex_7cf53 2 (some .int), Cond.methodLink RJ15 105 yJ3_checkIndex_8e157, Cond.static yJ3_checkIndex_8e157, Cond.initialized RJ3, Cond.code yJ3_checkIndex_8e157 cJ3_checkIndex_8e157 3 (some .int), Cond.methodLink RJx4a65c 123 yJx4a65c_elementData_915e3, Cond.instanceMethod yJx4a65c_elementData_915e3, Cond.selects RJx4a65c yJx4a65c_elementData_915e3 yJx4a65c_elementData_915e3, Cond.code yJx4a65c_elementData_915e3 cJx4a65c_elementData_915e3 2 (some (.object "java/lang/Object")), Cond.fieldLink RJx4a65c 9 "java/util/ArrayList" "elementData" "[Ljava/lang/Object;", Cond.methodLink RX9 174 yX6_bucketsOf, Cond.instanceMethod yX6_bucketsOf, Cond.selects RX6 yX6_bucketsOf yX6_bucketsOf, Cond.initialized RX6, Cond.code yX6_bucketsOf cX6_bucketsOf 2 (some (.object "MeridianSeries$Buckets")), Cond.fieldLink RX6 25 "MeridianSeries$Series" "coarse" "LMeridianSeries$Buckets;", Cond.fieldLink RX6 21 "MeridianSeries$Series" "fine" "LMeridianSeries$Buckets;"]
def wsX9_buckets : List Cond := .code yX9_buckets cX9_buckets 3 (some .int) :: ((wsX9_buckets_r1 ++ wsX9_buckets_r2) ++ wsX00 ++ wsX40 ++ wsX90 ++ wsX80 ++ wsJx4a65c0 ++ wsX60 ++ (vx_atS RX9 291 "java/lang/IndexOutOfBoundsException" ["java/lang/RuntimeException", "java/lang/Exception"]).filter goodWord)
def wsX9_ofBucket_r1 : List Cond := [Cond.fieldLink RX9 178 "MeridianSeries$Buckets" "amount" "I", Cond.sameField "MeridianSeries$Buckets" "MeridianSeries$Items" "amount" "I", Cond.methodLink RX9 101 yX9_chainAt, Cond.instanceMethod yX9_chainAt, Cond.selects RX9 yX9_chainAt yX9_chainAt, Cond.initialized RX9, Cond.code yX9_chainAt cX9_chainAt 2 (some (.object "MeridianSeries$Series")), Cond.classLink RX9 287 "java/lang/IndexOutOfBoundsException", Cond.initialized "java/lang/IndexOutOfBoundsException", Cond.fieldLink RX9 21 "MeridianSeries" "store" "LMeridianSeries$Store;", Cond.fieldLink RX9 59 "MeridianSeries$Store" "chains" "Ljava/util/ArrayList;", Cond.classLink RX9 72 "MeridianSeries$Series", Cond.methodLink RX9 63 yJx4a65c_size_8abf5, Cond.instanceMethod yJx4a65c_size_8abf5, Cond.selects RJx4a65c yJx4a65c_size_8abf5 yJx4a65c_size_8abf5, Cond.initialized RJx4a65c, Cond.code yJx4a65c_size_8abf5 cJx4a65c_size_8abf5 1 (some .int), Cond.fieldLink RJx4a65c 48 "java/util/ArrayList" "size" "I", Cond.methodLink RX9 187 yJx4a65c_get_915e3, Cond.instanceMethod yJx4a65c_get_915e3, Cond.selects RJx4a65c yJx4a65c_get_915e3 yJx4a65c_get_915e3, Cond.code yJx4a65c_get_915e3 cJx4a65c_get_915e3 2 (some (.object "java/lang/Object")), Cond.methodLink RJx4a65c 118 yJ15_checkIndex_7cf53, Cond.static yJ15_checkIndex_7cf53]
def wsX9_ofBucket_r2 : List Cond := [Cond.initialized RJ15, Cond.code yJ15_checkIndex_7cf53 cJ15_checkIndex_7cf53 2 (some .int), Cond.methodLink RJ15 105 yJ3_checkIndex_8e157, Cond.static yJ3_checkIndex_8e157, Cond.initialized RJ3, Cond.code yJ3_checkIndex_8e157 cJ3_checkIndex_8e157 3 (some .int), Cond.methodLink RJx4a65c 123 yJx4a65c_elementData_915e3, Cond.instanceMethod yJx4a65c_elementData_915e3, Cond.selects RJx4a65c yJx4a65c_elementData_915e3 yJx4a65c_elementData_915e3, Cond.code yJx4a65c_elementData_915e3 cJx4a65c_elementData_915e3 2 (some (.object "java/lang/Object")), Cond.fieldLink RJx4a65c 9 "java/util/ArrayList" "elementData" "[Ljava/lang/Object;", Cond.methodLink RX9 174 yX6_bucketsOf, Cond.instanceMethod yX6_bucketsOf, Cond.selects RX6 yX6_bucketsOf yX6_bucketsOf, Cond.initialized RX6, Cond.code yX6_bucketsOf cX6_bucketsOf 2 (some (.object "MeridianSeries$Buckets")), Cond.fieldLink RX6 25 "MeridianSeries$Series" "coarse" "LMeridianSeries$Buckets;", Cond.fieldLink RX6 21 "MeridianSeries$Series" "fine" "LMeridianSeries$Buckets;", Cond.methodLink RX9 51 yX9_isIn, Cond.static yX9_isIn, Cond.code yX9_isIn cX9_isIn 4 (some .boolean), Cond.methodLink RX9 150 yX9_needIndex, Cond.static yX9_needIndex, Cond.code yX9_needIndex cX9_needIndex 1 none]
def wsX9_ofBucket_r3 : List Cond := [Cond.methodLink RX9 55 yX9_needArgument, Cond.static yX9_needArgument, Cond.code yX9_needArgument cX9_needArgument 1 none, Cond.classLink RX9 280 "java/lang/IllegalArgumentException", Cond.initialized "java/lang/IllegalArgumentException", Cond.methodLink RX9 183 yX0_number, Cond.instanceMethod yX0_number, Cond.selects RX0 yX0_number yX0_number, Cond.initialized RX0, Cond.code yX0_number cX0_number 4 (some .int), Cond.fieldLink RX0 11 "MeridianSeries$Buckets" "cells" "[I"]
def wsX9_ofBucket : List Cond := .code yX9_ofBucket cX9_ofBucket 6 (some .int) :: ((wsX9_ofBucket_r1 ++ (wsX9_ofBucket_r2 ++ wsX9_ofBucket_r3)) ++ wsX00 ++ wsX40 ++ wsX90 ++ wsX80 ++ wsJx4a65c0 ++ wsX60 ++ (vx_atS RX9 291 "java/lang/IndexOutOfBoundsException" ["java/lang/RuntimeException", "java/lang/Exception"]).filter goodWord ++ (vx_atS RX9 284 "java/lang/IllegalArgumentException" ["java/lang/RuntimeException", "java/lang/Exception"]).filter goodWord)
def wsX9_items_r1 : List Cond := [Cond.methodLink RX9 101 yX9_chainAt, Cond.instanceMethod yX9_chainAt, Cond.selects RX9 yX9_chainAt yX9_chainAt, Cond.initialized RX9, Cond.code yX9_chainAt cX9_chainAt 2 (some (.object "MeridianSeries$Series")), Cond.classLink RX9 287 "java/lang/IndexOutOfBoundsException", Cond.initialized "java/lang/IndexOutOfBoundsException", Cond.fieldLink RX9 21 "MeridianSeries" "store" "LMeridianSeries$Store;", Cond.fieldLink RX9 59 "MeridianSeries$Store" "chains" "Ljava/util/ArrayList;", Cond.classLink RX9 72 "MeridianSeries$Series", Cond.methodLink RX9 63 yJx4a65c_size_8abf5, Cond.instanceMethod yJx4a65c_size_8abf5, Cond.selects RJx4a65c yJx4a65c_size_8abf5 yJx4a65c_size_8abf5, Cond.initialized RJx4a65c, Cond.code yJx4a65c_size_8abf5 cJx4a65c_size_8abf5 1 (some .int), Cond.fieldLink RJx4a65c 48 "java/util/ArrayList" "size" "I", Cond.methodLink RX9 187 yJx4a65c_get_915e3, Cond.instanceMethod yJx4a65c_get_915e3, Cond.selects RJx4a65c yJx4a65c_get_915e3 yJx4a65c_get_915e3, Cond.code yJx4a65c_get_915e3 cJx4a65c_get_915e3 2 (some (.object "java/lang/Object")), Cond.methodLink RJx4a65c 118 yJ15_checkIndex_7cf53, Cond.static yJ15_checkIndex_7cf53, Cond.initialized RJ15, Cond.code yJ15_checkIndex_7cf53 cJ15_checkIndex_7cf53 2 (some .int)]
def wsX9_items_r2 : List Cond := [Cond.methodLink RJ15 105 yJ3_checkIndex_8e157, Cond.static yJ3_checkIndex_8e157, Cond.initialized RJ3, Cond.code yJ3_checkIndex_8e157 cJ3_checkIndex_8e157 3 (some .int), Cond.methodLink RJx4a65c 123 yJx4a65c_elementData_915e3, Cond.instanceMethod yJx4a65c_elementData_915e3, Cond.selects RJx4a65c yJx4a65c_elementData_915e3 yJx4a65c_elementData_915e3, Cond.code yJx4a65c_elementData_915e3 cJx4a65c_elementData_915e3 2 (some (.object "java/lang/Object")), Cond.fieldLink RJx4a65c 9 "java/util/ArrayList" "elementData" "[Ljava/lang/Object;", Cond.methodLink RX9 184 yX6_itemCount, Cond.instanceMethod yX6_itemCount, Cond.selects RX6 yX6_itemCount yX6_itemCount, Cond.initialized RX6, Cond.code yX6_itemCount cX6_itemCount 1 (some .int), Cond.fieldLink RX6 25 "MeridianSeries$Series" "coarse" "LMeridianSeries$Buckets;", Cond.fieldLink RX6 79 "MeridianSeries$Buckets" "amount" "I", Cond.sameField "MeridianSeries$Buckets" "MeridianSeries$Items" "amount" "I", Cond.fieldLink RX6 21 "MeridianSeries$Series" "fine" "LMeridianSeries$Buckets;", Cond.fieldLink RX6 12 "MeridianSeries$Series" "points" "LMeridianSeries$Points;", Cond.fieldLink RX6 108 "MeridianSeries$Points" "amount" "I", Cond.sameField "MeridianSeries$Points" "MeridianSeries$Items" "amount" "I"]
def wsX9_items : List Cond := .code yX9_items cX9_items 2 (some .int) :: ((wsX9_items_r1 ++ wsX9_items_r2) ++ wsX90 ++ wsX80 ++ wsJx4a65c0 ++ wsX60 ++ wsX00 ++ wsX40 ++ (vx_atS RX9 291 "java/lang/IndexOutOfBoundsException" ["java/lang/RuntimeException", "java/lang/Exception"]).filter goodWord)
def wsX9_toldByQuery_r1 : List Cond := [Cond.fieldLink RX9 35 "MeridianSeries" "queryFrom" "I", Cond.fieldLink RX9 39 "MeridianSeries" "queryStep" "I", Cond.fieldLink RX9 42 "MeridianSeries" "queryWhat" "I", Cond.fieldLink RX9 45 "MeridianSeries" "queryFill" "I", Cond.methodLink RX9 305 yX6_tell, Cond.instanceMethod yX6_tell, Cond.selects RX6 yX6_tell yX6_tell, Cond.initialized RX6, Cond.code yX6_tell cX6_tell 7 (some .int), Cond.methodLink RX6 115 yX6_firstItemFrom, Cond.instanceMethod yX6_firstItemFrom, Cond.selects RX6 yX6_firstItemFrom yX6_firstItemFrom, Cond.code yX6_firstItemFrom cX6_firstItemFrom 6 (some .int), Cond.methodLink RX6 109 yX6_itemCount, Cond.instanceMethod yX6_itemCount, Cond.selects RX6 yX6_itemCount yX6_itemCount, Cond.code yX6_itemCount cX6_itemCount 1 (some .int), Cond.fieldLink RX6 25 "MeridianSeries$Series" "coarse" "LMeridianSeries$Buckets;", Cond.fieldLink RX6 79 "MeridianSeries$Buckets" "amount" "I", Cond.sameField "MeridianSeries$Buckets" "MeridianSeries$Items" "amount" "I", Cond.fieldLink RX6 21 "MeridianSeries$Series" "fine" "LMeridianSeries$Buckets;", Cond.fieldLink RX6 12 "MeridianSeries$Series" "points" "LMeridianSeries$Points;", Cond.fieldLink RX6 108 "MeridianSeries$Points" "amount" "I", Cond.sameField "MeridianSeries$Points" "MeridianSeries$Items" "amount" "I"]
def wsX9_toldByQuery_r2 : List Cond := [Cond.methodLink RX6 112 yX6_ofItem, Cond.instanceMethod yX6_ofItem, Cond.selects RX6 yX6_ofItem yX6_ofItem, Cond.code yX6_ofItem cX6_ofItem 4 (some .int), Cond.methodLink RX6 82 yX0_number, Cond.instanceMethod yX0_number, Cond.selects RX0 yX0_number yX0_number, Cond.initialized RX0, Cond.code yX0_number cX0_number 4 (some .int), Cond.fieldLink RX0 11 "MeridianSeries$Buckets" "cells" "[I", Cond.methodLink RX6 88 yX4_number, Cond.instanceMethod yX4_number, Cond.selects RX4 yX4_number yX4_number, Cond.initialized RX4, Cond.code yX4_number cX4_number 3 (some .int), Cond.fieldLink RX4 11 "MeridianSeries$Points" "times" "[I", Cond.fieldLink RX4 15 "MeridianSeries$Points" "values" "[I", Cond.methodLink RX6 118 yX6_toldOfGap, Cond.instanceMethod yX6_toldOfGap, Cond.selects RX6 yX6_toldOfGap yX6_toldOfGap, Cond.code yX6_toldOfGap cX6_toldOfGap 5 (some .int), Cond.constant RX6 134 (-1000000), Cond.methodLink RX6 135 yX6_onLine, Cond.instanceMethod yX6_onLine]
def wsX9_toldByQuery_r3 : List Cond := [Cond.selects RX6 yX6_onLine yX6_onLine, Cond.code yX6_onLine cX6_onLine 9 (some .int), Cond.methodLink RX6 122 yX6_total, Cond.instanceMethod yX6_total, Cond.selects RX6 yX6_total yX6_total, Cond.code yX6_total cX6_total 6 (some .int), Cond.methodLink RX6 125 yX6_least, Cond.instanceMethod yX6_least, Cond.selects RX6 yX6_least yX6_least, Cond.code yX6_least cX6_least 5 (some .int), Cond.methodLink RX6 138 Lib.Math.min.name, Cond.static Lib.Math.min.name, Cond.initialized "java/lang/Math", Cond.code Lib.Math.min.name Lib.Math.min.code 2 (some .int), Cond.methodLink RX6 128 yX6_greatest, Cond.instanceMethod yX6_greatest, Cond.selects RX6 yX6_greatest yX6_greatest, Cond.code yX6_greatest cX6_greatest 5 (some .int), Cond.methodLink RX6 143 Lib.Math.max.name, Cond.static Lib.Math.max.name, Cond.code Lib.Math.max.name Lib.Math.max.code 2 (some .int), Cond.methodLink RX6 131 yX6_quotient, Cond.static yX6_quotient, Cond.code yX6_quotient cX6_quotient 2 (some .int)]
def wsX9_toldByQuery : List Cond := .code yX9_toldByQuery cX9_toldByQuery 4 (some .int) :: ((wsX9_toldByQuery_r1 ++ (wsX9_toldByQuery_r2 ++ wsX9_toldByQuery_r3)) ++ wsX90 ++ wsX60 ++ wsX00 ++ wsX40)
def wsX9_ask_r1 : List Cond := [Cond.methodLink RX9 101 yX9_chainAt, Cond.instanceMethod yX9_chainAt, Cond.selects RX9 yX9_chainAt yX9_chainAt, Cond.initialized RX9, Cond.code yX9_chainAt cX9_chainAt 2 (some (.object "MeridianSeries$Series")), Cond.classLink RX9 287 "java/lang/IndexOutOfBoundsException", Cond.initialized "java/lang/IndexOutOfBoundsException", Cond.fieldLink RX9 21 "MeridianSeries" "store" "LMeridianSeries$Store;", Cond.fieldLink RX9 59 "MeridianSeries$Store" "chains" "Ljava/util/ArrayList;", Cond.classLink RX9 72 "MeridianSeries$Series", Cond.methodLink RX9 63 yJx4a65c_size_8abf5, Cond.instanceMethod yJx4a65c_size_8abf5, Cond.selects RJx4a65c yJx4a65c_size_8abf5 yJx4a65c_size_8abf5, Cond.initialized RJx4a65c, Cond.code yJx4a65c_size_8abf5 cJx4a65c_size_8abf5 1 (some .int), Cond.fieldLink RJx4a65c 48 "java/util/ArrayList" "size" "I", Cond.methodLink RX9 187 yJx4a65c_get_915e3, Cond.instanceMethod yJx4a65c_get_915e3, Cond.selects RJx4a65c yJx4a65c_get_915e3 yJx4a65c_get_915e3, Cond.code yJx4a65c_get_915e3 cJx4a65c_get_915e3 2 (some (.object "java/lang/Object")), Cond.methodLink RJx4a65c 118 yJ15_checkIndex_7cf53, Cond.static yJ15_checkIndex_7cf53, Cond.initialized RJ15, Cond.code yJ15_checkIndex_7cf53 cJ15_checkIndex_7cf53 2 (some .int)]
def wsX9_ask_r2 : List Cond := [Cond.methodLink RJ15 105 yJ3_checkIndex_8e157, Cond.static yJ3_checkIndex_8e157, Cond.initialized RJ3, Cond.code yJ3_checkIndex_8e157 cJ3_checkIndex_8e157 3 (some .int), Cond.methodLink RJx4a65c 123 yJx4a65c_elementData_915e3, Cond.instanceMethod yJx4a65c_elementData_915e3, Cond.selects RJx4a65c yJx4a65c_elementData_915e3 yJx4a65c_elementData_915e3, Cond.code yJx4a65c_elementData_915e3 cJx4a65c_elementData_915e3 2 (some (.object "java/lang/Object")), Cond.fieldLink RJx4a65c 9 "java/util/ArrayList" "elementData" "[Ljava/lang/Object;", Cond.methodLink RX9 51 yX9_isIn, Cond.static yX9_isIn, Cond.code yX9_isIn cX9_isIn 4 (some .boolean), Cond.methodLink RX9 55 yX9_needArgument, Cond.static yX9_needArgument, Cond.code yX9_needArgument cX9_needArgument 1 none, Cond.classLink RX9 280 "java/lang/IllegalArgumentException", Cond.initialized "java/lang/IllegalArgumentException", Cond.methodLink RX9 196 yX9_toldByQuery, Cond.instanceMethod yX9_toldByQuery, Cond.selects RX9 yX9_toldByQuery yX9_toldByQuery, Cond.code yX9_toldByQuery cX9_toldByQuery 4 (some .int), Cond.fieldLink RX9 35 "MeridianSeries" "queryFrom" "I", Cond.fieldLink RX9 39 "MeridianSeries" "queryStep" "I", Cond.fieldLink RX9 42 "MeridianSeries" "queryWhat" "I"]
def wsX9_ask_r3 : List Cond := [Cond.fieldLink RX9 45 "MeridianSeries" "queryFill" "I", Cond.methodLink RX9 305 yX6_tell, Cond.instanceMethod yX6_tell, Cond.selects RX6 yX6_tell yX6_tell, Cond.initialized RX6, Cond.code yX6_tell cX6_tell 7 (some .int), Cond.methodLink RX6 115 yX6_firstItemFrom, Cond.instanceMethod yX6_firstItemFrom, Cond.selects RX6 yX6_firstItemFrom yX6_firstItemFrom, Cond.code yX6_firstItemFrom cX6_firstItemFrom 6 (some .int), Cond.methodLink RX6 109 yX6_itemCount, Cond.instanceMethod yX6_itemCount, Cond.selects RX6 yX6_itemCount yX6_itemCount, Cond.code yX6_itemCount cX6_itemCount 1 (some .int), Cond.fieldLink RX6 25 "MeridianSeries$Series" "coarse" "LMeridianSeries$Buckets;", Cond.fieldLink RX6 79 "MeridianSeries$Buckets" "amount" "I", Cond.sameField "MeridianSeries$Buckets" "MeridianSeries$Items" "amount" "I", Cond.fieldLink RX6 21 "MeridianSeries$Series" "fine" "LMeridianSeries$Buckets;", Cond.fieldLink RX6 12 "MeridianSeries$Series" "points" "LMeridianSeries$Points;", Cond.fieldLink RX6 108 "MeridianSeries$Points" "amount" "I", Cond.sameField "MeridianSeries$Points" "MeridianSeries$Items" "amount" "I", Cond.methodLink RX6 112 yX6_ofItem, Cond.instanceMethod yX6_ofItem, Cond.selects RX6 yX6_ofItem yX6_ofItem]
def wsX9_ask_r4 : List Cond := [Cond.code yX6_ofItem cX6_ofItem 4 (some .int), Cond.methodLink RX6 82 yX0_number, Cond.instanceMethod yX0_number, Cond.selects RX0 yX0_number yX0_number, Cond.initialized RX0, Cond.code yX0_number cX0_number 4 (some .int), Cond.fieldLink RX0 11 "MeridianSeries$Buckets" "cells" "[I", Cond.methodLink RX6 88 yX4_number, Cond.instanceMethod yX4_number, Cond.selects RX4 yX4_number yX4_number, Cond.initialized RX4, Cond.code yX4_number cX4_number 3 (some .int), Cond.fieldLink RX4 11 "MeridianSeries$Points" "times" "[I", Cond.fieldLink RX4 15 "MeridianSeries$Points" "values" "[I", Cond.methodLink RX6 118 yX6_toldOfGap, Cond.instanceMethod yX6_toldOfGap, Cond.selects RX6 yX6_toldOfGap yX6_toldOfGap, Cond.code yX6_toldOfGap cX6_toldOfGap 5 (some .int), Cond.constant RX6 134 (-1000000), Cond.methodLink RX6 135 yX6_onLine, Cond.instanceMethod yX6_onLine, Cond.selects RX6 yX6_onLine yX6_onLine, Cond.code yX6_onLine cX6_onLine 9 (some .int), Cond.methodLink RX6 122 yX6_total]
def wsX9_ask_r5 : List Cond := [Cond.instanceMethod yX6_total, Cond.selects RX6 yX6_total yX6_total, Cond.code yX6_total cX6_total 6 (some .int), Cond.methodLink RX6 125 yX6_least, Cond.instanceMethod yX6_least, Cond.selects RX6 yX6_least yX6_least, Cond.code yX6_least cX6_least 5 (some .int), Cond.methodLink RX6 138 Lib.Math.min.name, Cond.static Lib.Math.min.name, Cond.initialized "java/lang/Math", Cond.code Lib.Math.min.name Lib.Math.min.code 2 (some .int), Cond.methodLink RX6 128 yX6_greatest, Cond.instanceMethod yX6_greatest, Cond.selects RX6 yX6_greatest yX6_greatest, Cond.code yX6_greatest cX6_greatest 5 (some .int), Cond.methodLink RX6 143 Lib.Math.max.name, Cond.static Lib.Math.max.name, Cond.code Lib.Math.max.name Lib.Math.max.code 2 (some .int), Cond.methodLink RX6 131 yX6_quotient, Cond.static yX6_quotient, Cond.code yX6_quotient cX6_quotient 2 (some .int)]
def wsX9_ask : List Cond := .code yX9_ask cX9_ask 4 (some .int) :: ((wsX9_ask_r1 ++ (wsX9_ask_r2 ++ (wsX9_ask_r3 ++ (wsX9_ask_r4 ++ wsX9_ask_r5)))) ++ wsX90 ++ wsX80 ++ wsJx4a65c0 ++ wsX60 ++ wsX00 ++ wsX40 ++ (vx_atS RX9 291 "java/lang/IndexOutOfBoundsException" ["java/lang/RuntimeException", "java/lang/Exception"]).filter goodWord ++ (vx_atS RX9 284 "java/lang/IllegalArgumentException" ["java/lang/RuntimeException", "java/lang/Exception"]).filter goodWord)
def wsX9_lastAt_r1 : List Cond := [Cond.constant RX9 100 (99999), Cond.methodLink RX9 101 yX9_chainAt, Cond.instanceMethod yX9_chainAt, Cond.selects RX9 yX9_chainAt yX9_chainAt, Cond.initialized RX9, Cond.code yX9_chainAt cX9_chainAt 2 (some (.object "MeridianSeries$Series")), Cond.classLink RX9 287 "java/lang/IndexOutOfBoundsException", Cond.initialized "java/lang/IndexOutOfBoundsException", Cond.fieldLink RX9 21 "MeridianSeries" "store" "LMeridianSeries$Store;", Cond.fieldLink RX9 59 "MeridianSeries$Store" "chains" "Ljava/util/ArrayList;", Cond.classLink RX9 72 "MeridianSeries$Series", Cond.methodLink RX9 63 yJx4a65c_size_8abf5, Cond.instanceMethod yJx4a65c_size_8abf5, Cond.selects RJx4a65c yJx4a65c_size_8abf5 yJx4a65c_size_8abf5, Cond.initialized RJx4a65c, Cond.code yJx4a65c_size_8abf5 cJx4a65c_size_8abf5 1 (some .int), Cond.fieldLink RJx4a65c 48 "java/util/ArrayList" "size" "I", Cond.methodLink RX9 187 yJx4a65c_get_915e3, Cond.instanceMethod yJx4a65c_get_915e3, Cond.selects RJx4a65c yJx4a65c_get_915e3 yJx4a65c_get_915e3, Cond.code yJx4a65c_get_915e3 cJx4a65c_get_915e3 2 (some (.object "java/lang/Object")), Cond.methodLink RJx4a65c 118 yJ15_checkIndex_7cf53, Cond.static yJ15_checkIndex_7cf53, Cond.initialized RJ15]
def wsX9_lastAt_r2 : List Cond := [Cond.code yJ15_checkIndex_7cf53 cJ15_checkIndex_7cf53 2 (some .int), Cond.methodLink RJ15 105 yJ3_checkIndex_8e157, Cond.static yJ3_checkIndex_8e157, Cond.initialized RJ3, Cond.code yJ3_checkIndex_8e157 cJ3_checkIndex_8e157 3 (some .int), Cond.methodLink RJx4a65c 123 yJx4a65c_elementData_915e3, Cond.instanceMethod yJx4a65c_elementData_915e3, Cond.selects RJx4a65c yJx4a65c_elementData_915e3 yJx4a65c_elementData_915e3, Cond.code yJx4a65c_elementData_915e3 cJx4a65c_elementData_915e3 2 (some (.object "java/lang/Object")), Cond.fieldLink RJx4a65c 9 "java/util/ArrayList" "elementData" "[Ljava/lang/Object;", Cond.methodLink RX9 51 yX9_isIn, Cond.static yX9_isIn, Cond.code yX9_isIn cX9_isIn 4 (some .boolean), Cond.methodLink RX9 55 yX9_needArgument, Cond.static yX9_needArgument, Cond.code yX9_needArgument cX9_needArgument 1 none, Cond.classLink RX9 280 "java/lang/IllegalArgumentException", Cond.initialized "java/lang/IllegalArgumentException", Cond.methodLink RX9 209 yX6_firstItemFrom, Cond.instanceMethod yX6_firstItemFrom, Cond.selects RX6 yX6_firstItemFrom yX6_firstItemFrom, Cond.initialized RX6, Cond.code yX6_firstItemFrom cX6_firstItemFrom 6 (some .int), Cond.methodLink RX6 109 yX6_itemCount]
def wsX9_lastAt_r3 : List Cond := [Cond.instanceMethod yX6_itemCount, Cond.selects RX6 yX6_itemCount yX6_itemCount, Cond.code yX6_itemCount cX6_itemCount 1 (some .int), Cond.fieldLink RX6 25 "MeridianSeries$Series" "coarse" "LMeridianSeries$Buckets;", Cond.fieldLink RX6 79 "MeridianSeries$Buckets" "amount" "I", Cond.sameField "MeridianSeries$Buckets" "MeridianSeries$Items" "amount" "I", Cond.fieldLink RX6 21 "MeridianSeries$Series" "fine" "LMeridianSeries$Buckets;", Cond.fieldLink RX6 12 "MeridianSeries$Series" "points" "LMeridianSeries$Points;", Cond.fieldLink RX6 108 "MeridianSeries$Points" "amount" "I", Cond.sameField "MeridianSeries$Points" "MeridianSeries$Items" "amount" "I", Cond.methodLink RX6 112 yX6_ofItem, Cond.instanceMethod yX6_ofItem, Cond.selects RX6 yX6_ofItem yX6_ofItem, Cond.code yX6_ofItem cX6_ofItem 4 (some .int), Cond.methodLink RX6 82 yX0_number, Cond.instanceMethod yX0_number, Cond.selects RX0 yX0_number yX0_number, Cond.initialized RX0, Cond.code yX0_number cX0_number 4 (some .int), Cond.fieldLink RX0 11 "MeridianSeries$Buckets" "cells" "[I", Cond.methodLink RX6 88 yX4_number, Cond.instanceMethod yX4_number, Cond.selects RX4 yX4_number yX4_number, Cond.initialized RX4]
def wsX9_lastAt_r4 : List Cond := [Cond.code yX4_number cX4_number 3 (some .int), Cond.fieldLink RX4 11 "MeridianSeries$Points" "times" "[I", Cond.fieldLink RX4 15 "MeridianSeries$Points" "values" "[I", Cond.methodLink RX9 212 yX6_ofItem]
def wsX9_lastAt : List Cond := .code yX9_lastAt cX9_lastAt 5 (some .int) :: ((wsX9_lastAt_r1 ++ (wsX9_lastAt_r2 ++ (wsX9_lastAt_r3 ++ wsX9_lastAt_r4))) ++ wsX90 ++ wsX80 ++ wsJx4a65c0 ++ wsX60 ++ wsX00 ++ wsX40 ++ (vx_atS RX9 291 "java/lang/IndexOutOfBoundsException" ["java/lang/RuntimeException", "java/lang/Exception"]).filter goodWord ++ (vx_atS RX9 284 "java/lang/IllegalArgumentException" ["java/lang/RuntimeException", "java/lang/Exception"]).filter goodWord)
def wsX9_addRule_r1 : List Cond := [Cond.constant RX9 200 (-1000000), Cond.constant RX9 215 (1000000), Cond.fieldLink RX9 21 "MeridianSeries" "store" "LMeridianSeries$Store;", Cond.fieldLink RX9 216 "MeridianSeries$Store" "rules" "Ljava/util/ArrayList;", Cond.classLink RX9 219 RX5, Cond.instantiable RX5 9, Cond.initialized RX5, Cond.fieldLink RX9 25 "MeridianSeries" "trial" "LMeridianSeries$Store;", Cond.fieldLink RX9 59 "MeridianSeries$Store" "chains" "Ljava/util/ArrayList;", Cond.classLink RX9 72 "MeridianSeries$Series", Cond.methodLink RX9 101 yX9_chainAt, Cond.instanceMethod yX9_chainAt, Cond.selects RX9 yX9_chainAt yX9_chainAt, Cond.initialized RX9, Cond.code yX9_chainAt cX9_chainAt 2 (some (.object "MeridianSeries$Series")), Cond.classLink RX9 287 "java/lang/IndexOutOfBoundsException", Cond.initialized "java/lang/IndexOutOfBoundsException", Cond.methodLink RX9 63 yJx4a65c_size_8abf5, Cond.instanceMethod yJx4a65c_size_8abf5, Cond.selects RJx4a65c yJx4a65c_size_8abf5 yJx4a65c_size_8abf5, Cond.initialized RJx4a65c, Cond.code yJx4a65c_size_8abf5 cJx4a65c_size_8abf5 1 (some .int), Cond.fieldLink RJx4a65c 48 "java/util/ArrayList" "size" "I", Cond.methodLink RX9 187 yJx4a65c_get_915e3]
def wsX9_addRule_r2 : List Cond := [Cond.instanceMethod yJx4a65c_get_915e3, Cond.selects RJx4a65c yJx4a65c_get_915e3 yJx4a65c_get_915e3, Cond.code yJx4a65c_get_915e3 cJx4a65c_get_915e3 2 (some (.object "java/lang/Object")), Cond.methodLink RJx4a65c 118 yJ15_checkIndex_7cf53, Cond.static yJ15_checkIndex_7cf53, Cond.initialized RJ15, Cond.code yJ15_checkIndex_7cf53 cJ15_checkIndex_7cf53 2 (some .int), Cond.methodLink RJ15 105 yJ3_checkIndex_8e157, Cond.static yJ3_checkIndex_8e157, Cond.initialized RJ3, Cond.code yJ3_checkIndex_8e157 cJ3_checkIndex_8e157 3 (some .int), Cond.methodLink RJx4a65c 123 yJx4a65c_elementData_915e3, Cond.instanceMethod yJx4a65c_elementData_915e3, Cond.selects RJx4a65c yJx4a65c_elementData_915e3 yJx4a65c_elementData_915e3, Cond.code yJx4a65c_elementData_915e3 cJx4a65c_elementData_915e3 2 (some (.object "java/lang/Object")), Cond.fieldLink RJx4a65c 9 "java/util/ArrayList" "elementData" "[Ljava/lang/Object;", Cond.methodLink RX9 51 yX9_isIn, Cond.static yX9_isIn, Cond.code yX9_isIn cX9_isIn 4 (some .boolean), Cond.methodLink RX9 55 yX9_needArgument, Cond.static yX9_needArgument, Cond.code yX9_needArgument cX9_needArgument 1 none, Cond.classLink RX9 280 "java/lang/IllegalArgumentException", Cond.initialized "java/lang/IllegalArgumentException"]
def wsX9_addRule_r3 : List Cond := [Cond.methodLink RX9 69 yX9_needState, Cond.static yX9_needState, Cond.code yX9_needState cX9_needState 1 none, Cond.classLink RX9 292 "java/lang/IllegalStateException", Cond.initialized "java/lang/IllegalStateException", Cond.methodLink RX9 221 yX5_init, Cond.instanceMethod yX5_init, Cond.code yX5_init cX5_init 8 none, Cond.methodLink RX5 3 objectInit, Cond.instanceMethod objectInit, Cond.code objectInit ⟨#[0xb1]⟩ 1 none, Cond.fieldLink RX5 9 "MeridianSeries$Rule" "state" "I", Cond.fieldLink RX5 15 "MeridianSeries$Rule" "timesInRow" "I", Cond.fieldLink RX5 18 "MeridianSeries$Rule" "chain" "LMeridianSeries$Series;", Cond.fieldLink RX5 22 "MeridianSeries$Rule" "what" "I", Cond.fieldLink RX5 25 "MeridianSeries$Rule" "length" "I", Cond.fieldLink RX5 28 "MeridianSeries$Rule" "every" "I", Cond.fieldLink RX5 31 "MeridianSeries$Rule" "isAbove" "Z", Cond.fieldLink RX5 35 "MeridianSeries$Rule" "limit" "I", Cond.fieldLink RX5 38 "MeridianSeries$Rule" "times" "I", Cond.methodLink RX9 77 yJx4a65c_add_9ea2d, Cond.instanceMethod yJx4a65c_add_9ea2d, Cond.selects RJx4a65c yJx4a65c_add_9ea2d yJx4a65c_add_9ea2d, Cond.code yJx4a65c_add_9ea2d cJx4a65c_add_9ea2d 2 (some .boolean)]
def wsX9_addRule_r4 : List Cond := [Cond.fieldLink RJx4a65c 63 "java/util/ArrayList" "modCount" "I", Cond.sameField "java/util/ArrayList" "java/util/AbstractList" "modCount" "I", Cond.methodLink RJx4a65c 131 yJx4a65c_add_72be8, Cond.instanceMethod yJx4a65c_add_72be8, Cond.selects RJx4a65c yJx4a65c_add_72be8 yJx4a65c_add_72be8, Cond.code yJx4a65c_add_72be8 cJx4a65c_add_72be8 4 none, Cond.methodLink RJx4a65c 129 yJx4a65c_grow_d5877, Cond.instanceMethod yJx4a65c_grow_d5877, Cond.selects RJx4a65c yJx4a65c_grow_d5877 yJx4a65c_grow_d5877, Cond.code yJx4a65c_grow_d5877 cJx4a65c_grow_d5877 1 (some (.array (.object "java/lang/Object"))), Cond.methodLink RJx4a65c 69 yJx4a65c_grow_92f84, Cond.instanceMethod yJx4a65c_grow_92f84, Cond.selects RJx4a65c yJx4a65c_grow_92f84 yJx4a65c_grow_92f84, Cond.code yJx4a65c_grow_92f84 cJx4a65c_grow_92f84 4 (some (.array (.object "java/lang/Object"))), Cond.fieldLink RJx4a65c 39 "java/util/ArrayList" "DEFAULTCAPACITY_EMPTY_ELEMENTDATA" "[Ljava/lang/Object;", Cond.methodLink RJx4a65c 79 Lib.Math.max.name, Cond.static Lib.Math.max.name, Cond.initialized "java/lang/Math", Cond.code Lib.Math.max.name Lib.Math.max.code 2 (some .int), Cond.classLink RJx4a65c 7 "java/lang/Object", Cond.methodLink RJx4a65c 73 yJ8_newLength_cabcc, Cond.static yJ8_newLength_cabcc, Cond.initialized RJ8, Cond.code yJ8_newLength_cabcc cJ8_newLength_cabcc 4 (some .int)]
def wsX9_addRule_r5 : List Cond := [Cond.methodLink RJ8 194 Lib.Math.max.name, Cond.constant RJ8 200 (2147483639), Cond.methodLink RJ8 201 yJ8_hugeLength_7cf53, Cond.static yJ8_hugeLength_7cf53, Cond.code yJ8_hugeLength_7cf53 cJ8_hugeLength_7cf53 3 (some .int), Cond.methodLink RJx4a65c 66 yJ7_copyOf_1904c, Cond.static yJ7_copyOf_1904c, Cond.initialized RJ7, Cond.code yJ7_copyOf_1904c cJ7_copyOf_1904c 2 (some (.array (.object "java/lang/Object"))), Cond.methodLink RJ7 86 ⟨"java/lang/Object", "getClass", "()Ljava/lang/Class;"⟩, Cond.selects "[Ljava/lang/Object;" ⟨"java/lang/Object", "getClass", "()Ljava/lang/Class;"⟩ ⟨"java/lang/Object", "getClass", "()Ljava/lang/Class;"⟩, Cond.instanceMethod ⟨"java/lang/Object", "getClass", "()Ljava/lang/Class;"⟩, Cond.native ⟨"java/lang/Object", "getClass", "()Ljava/lang/Class;"⟩, Cond.methodLink RJ7 300 yJ7_copyOf_6403c, Cond.static yJ7_copyOf_6403c, Cond.code yJ7_copyOf_6403c cJ7_copyOf_6403c 4 (some (.array (.object "java/lang/Object"))), Cond.classLink RJ7 110 "[Ljava/lang/Object;", Cond.classLink RJ7 2 "java/lang/Object", Cond.methodLink RJ7 304 Lib.Math.min.name, Cond.static Lib.Math.min.name, Cond.code Lib.Math.min.name Lib.Math.min.code 2 (some .int), Cond.methodLink RJ7 150 arraycopyName, Cond.native arraycopyName, Cond.static arraycopyName]
def wsX9_addRule_r6 : List Cond := [Cond.initialized "java/lang/System"]
def wsX9_addRule : List Cond := .code yX9_addRule cX9_addRule 11 (some .int) :: ((wsX9_addRule_r1 ++ (wsX9_addRule_r2 ++ (wsX9_addRule_r3 ++ (wsX9_addRule_r4 ++ (wsX9_addRule_r5 ++ wsX9_addRule_r6))))) ++ wsX90 ++ wsX80 ++ wsX50 ++ wsJx4a65c0 ++ (vx_atS RX9 291 "java/lang/IndexOutOfBoundsException" ["java/lang/RuntimeException", "java/lang/Exception"]).filter goodWord ++ (vx_atS RX9 284 "java/lang/IllegalArgumentException" ["java/lang/RuntimeException", "java/lang/Exception"]).filter goodWord ++ (vx_atS RX9 296 "java/lang/IllegalStateException" ["java/lang/RuntimeException", "java/lang/Exception"]).filter goodWord)
def wsX9_events : List Cond := .code yX9_events cX9_events 1 (some .int) :: ([.fieldLink RX9 21 "MeridianSeries" "store" "LMeridianSeries$Store;", .fieldLink RX9 129 "MeridianSeries$Store" "log" "LMeridianSeries$EventLog;", .fieldLink RX9 133 "MeridianSeries$EventLog" "total" "I"] ++ wsX90 ++ wsX80 ++ wsX10)
def wsX9_event : List Cond := .code yX9_event cX9_event 3 (some .int) :: ([.fieldLink RX9 21 "MeridianSeries" "store" "LMeridianSeries$Store;", .fieldLink RX9 129 "MeridianSeries$Store" "log" "LMeridianSeries$EventLog;", .fieldLink RX9 133 "MeridianSeries$EventLog" "total" "I", .methodLink RX9 51 yX9_isIn, .static yX9_isIn, .initialized RX9, .code yX9_isIn cX9_isIn 4 (some .boolean), .methodLink RX9 150 yX9_needIndex, .static yX9_needIndex, .code yX9_needIndex cX9_needIndex 1 none, .classLink RX9 287 "java/lang/IndexOutOfBoundsException", .initialized "java/lang/IndexOutOfBoundsException", .methodLink RX9 55 yX9_needArgument, .static yX9_needArgument, .code yX9_needArgument cX9_needArgument 1 none, .classLink RX9 280 "java/lang/IllegalArgumentException", .initialized "java/lang/IllegalArgumentException", .methodLink RX9 237 yX1_number, .instanceMethod yX1_number, .selects RX1 yX1_number yX1_number, .initialized RX1, .code yX1_number cX1_number 4 (some .int), .fieldLink RX1 15 "MeridianSeries$EventLog" "total" "I", .fieldLink RX1 9 "MeridianSeries$EventLog" "cells" "[I"] ++ wsX90 ++ wsX80 ++ wsX10 ++ (vx_atS RX9 291 "java/lang/IndexOutOfBoundsException" ["java/lang/RuntimeException", "java/lang/Exception"]).filter goodWord ++ (vx_atS RX9 284 "java/lang/IllegalArgumentException" ["java/lang/RuntimeException", "java/lang/Exception"]).filter goodWord)
def wsX9_bitsWith_r1 : List Cond := [Cond.fieldLink RX9 116 "MeridianSeries$Series" "points" "LMeridianSeries$Points;", Cond.fieldLink RX9 31 "MeridianSeries" "packer" "LMeridianSeries$Packer;", Cond.methodLink RX9 101 yX9_chainAt, Cond.instanceMethod yX9_chainAt, Cond.selects RX9 yX9_chainAt yX9_chainAt, Cond.initialized RX9, Cond.code yX9_chainAt cX9_chainAt 2 (some (.object "MeridianSeries$Series")), Cond.classLink RX9 287 "java/lang/IndexOutOfBoundsException", Cond.initialized "java/lang/IndexOutOfBoundsException", Cond.fieldLink RX9 21 "MeridianSeries" "store" "LMeridianSeries$Store;", Cond.fieldLink RX9 59 "MeridianSeries$Store" "chains" "Ljava/util/ArrayList;", Cond.classLink RX9 72 "MeridianSeries$Series", Cond.methodLink RX9 63 yJx4a65c_size_8abf5, Cond.instanceMethod yJx4a65c_size_8abf5, Cond.selects RJx4a65c yJx4a65c_size_8abf5 yJx4a65c_size_8abf5, Cond.initialized RJx4a65c, Cond.code yJx4a65c_size_8abf5 cJx4a65c_size_8abf5 1 (some .int), Cond.fieldLink RJx4a65c 48 "java/util/ArrayList" "size" "I", Cond.methodLink RX9 187 yJx4a65c_get_915e3, Cond.instanceMethod yJx4a65c_get_915e3, Cond.selects RJx4a65c yJx4a65c_get_915e3 yJx4a65c_get_915e3, Cond.code yJx4a65c_get_915e3 cJx4a65c_get_915e3 2 (some (.object "java/lang/Object")), Cond.methodLink RJx4a65c 118 yJ15_checkIndex_7cf53, Cond.static yJ15_checkIndex_7cf53]
def wsX9_bitsWith_r2 : List Cond := [Cond.initialized RJ15, Cond.code yJ15_checkIndex_7cf53 cJ15_checkIndex_7cf53 2 (some .int), Cond.methodLink RJ15 105 yJ3_checkIndex_8e157, Cond.static yJ3_checkIndex_8e157, Cond.initialized RJ3, Cond.code yJ3_checkIndex_8e157 cJ3_checkIndex_8e157 3 (some .int), Cond.methodLink RJx4a65c 123 yJx4a65c_elementData_915e3, Cond.instanceMethod yJx4a65c_elementData_915e3, Cond.selects RJx4a65c yJx4a65c_elementData_915e3 yJx4a65c_elementData_915e3, Cond.code yJx4a65c_elementData_915e3 cJx4a65c_elementData_915e3 2 (some (.object "java/lang/Object")), Cond.fieldLink RJx4a65c 9 "java/util/ArrayList" "elementData" "[Ljava/lang/Object;", Cond.methodLink RX9 105 yX9_isTimeUpToNow, Cond.instanceMethod yX9_isTimeUpToNow, Cond.selects RX9 yX9_isTimeUpToNow yX9_isTimeUpToNow, Cond.code yX9_isTimeUpToNow cX9_isTimeUpToNow 3 (some .boolean), Cond.fieldLink RX9 141 "MeridianSeries$Store" "now" "I", Cond.methodLink RX9 51 yX9_isIn, Cond.static yX9_isIn, Cond.code yX9_isIn cX9_isIn 4 (some .boolean), Cond.methodLink RX9 109 yX9_isValue, Cond.static yX9_isValue, Cond.code yX9_isValue cX9_isValue 2 (some .boolean), Cond.constant RX9 278 (-100000), Cond.constant RX9 279 (100000)]
def wsX9_bitsWith_r3 : List Cond := [Cond.methodLink RX9 55 yX9_needArgument, Cond.static yX9_needArgument, Cond.code yX9_needArgument cX9_needArgument 1 none, Cond.classLink RX9 280 "java/lang/IllegalArgumentException", Cond.initialized "java/lang/IllegalArgumentException", Cond.methodLink RX9 238 yX4_isLate, Cond.instanceMethod yX4_isLate, Cond.selects RX4 yX4_isLate yX4_isLate, Cond.initialized RX4, Cond.code yX4_isLate cX4_isLate 2 (some .boolean), Cond.fieldLink RX4 28 "MeridianSeries$Points" "greatestSealedTime" "I", Cond.methodLink RX9 241 yX3_packOpenWith, Cond.instanceMethod yX3_packOpenWith, Cond.selects RX3 yX3_packOpenWith yX3_packOpenWith, Cond.initialized RX3, Cond.code yX3_packOpenWith cX3_packOpenWith 7 (some .int), Cond.fieldLink RX3 66 "MeridianSeries$Points" "sealedPoints" "I", Cond.fieldLink RX3 69 "MeridianSeries$Points" "amount" "I", Cond.sameField "MeridianSeries$Points" "MeridianSeries$Items" "amount" "I", Cond.fieldLink RX3 15 "MeridianSeries$Packer" "length" "I", Cond.methodLink RX3 55 yX4_placeOf, Cond.instanceMethod yX4_placeOf, Cond.selects RX4 yX4_placeOf yX4_placeOf, Cond.code yX4_placeOf cX4_placeOf 3 (some .int)]
def wsX9_bitsWith_r4 : List Cond := [Cond.fieldLink RX4 25 "MeridianSeries$Points" "sealedPoints" "I", Cond.fieldLink RX4 31 "MeridianSeries$Points" "amount" "I", Cond.methodLink RX4 42 yX4_number, Cond.instanceMethod yX4_number, Cond.selects RX4 yX4_number yX4_number, Cond.code yX4_number cX4_number 3 (some .int), Cond.fieldLink RX4 11 "MeridianSeries$Points" "times" "[I", Cond.fieldLink RX4 15 "MeridianSeries$Points" "values" "[I", Cond.methodLink RX3 58 yX4_isTakenAt, Cond.instanceMethod yX4_isTakenAt, Cond.selects RX4 yX4_isTakenAt yX4_isTakenAt, Cond.code yX4_isTakenAt cX4_isTakenAt 3 (some .boolean), Cond.methodLink RX3 62 yX4_openSize, Cond.instanceMethod yX4_openSize, Cond.selects RX4 yX4_openSize yX4_openSize, Cond.code yX4_openSize cX4_openSize 1 (some .int), Cond.methodLink RX3 43 yX3_begin, Cond.instanceMethod yX3_begin, Cond.selects RX3 yX3_begin yX3_begin, Cond.code yX3_begin cX3_begin 2 none, Cond.fieldLink RX3 11 "MeridianSeries$Packer" "words" "[I", Cond.fieldLink RX3 19 "MeridianSeries$Packer" "packed" "I", Cond.methodLink RX3 72 yJ7_fill_53178, Cond.static yJ7_fill_53178]
def wsX9_bitsWith_r5 : List Cond := [Cond.initialized RJ7, Cond.code yJ7_fill_53178 cJ7_fill_53178 4 none, Cond.methodLink RX3 78 yX3_write, Cond.instanceMethod yX3_write, Cond.selects RX3 yX3_write yX3_write, Cond.code yX3_write cX3_write 5 none, Cond.methodLink RX3 47 yX4_number, Cond.methodLink RX3 51 yX3_add, Cond.instanceMethod yX3_add, Cond.selects RX3 yX3_add yX3_add, Cond.code yX3_add cX3_add 4 none, Cond.constant RX3 81 (1048576), Cond.fieldLink RX3 25 "MeridianSeries$Packer" "lastStep" "I", Cond.fieldLink RX3 22 "MeridianSeries$Packer" "lastTime" "I", Cond.fieldLink RX3 28 "MeridianSeries$Packer" "lastValue" "I", Cond.methodLink RX3 82 yX3_addTime, Cond.instanceMethod yX3_addTime, Cond.selects RX3 yX3_addTime yX3_addTime, Cond.code yX3_addTime cX3_addTime 2 none, Cond.methodLink RX3 85 yX3_addValue, Cond.instanceMethod yX3_addValue, Cond.selects RX3 yX3_addValue yX3_addValue, Cond.code yX3_addValue cX3_addValue 2 none, Cond.constant RX3 92 (262144)]
def wsX9_bitsWith : List Cond := .code yX9_bitsWith cX9_bitsWith 5 (some .int) :: ((wsX9_bitsWith_r1 ++ (wsX9_bitsWith_r2 ++ (wsX9_bitsWith_r3 ++ (wsX9_bitsWith_r4 ++ wsX9_bitsWith_r5)))) ++ wsX60 ++ wsX90 ++ wsX80 ++ wsJx4a65c0 ++ wsX40 ++ wsX00 ++ wsX30 ++ (vx_atS RX9 291 "java/lang/IndexOutOfBoundsException" ["java/lang/RuntimeException", "java/lang/Exception"]).filter goodWord ++ (vx_atS RX9 284 "java/lang/IllegalArgumentException" ["java/lang/RuntimeException", "java/lang/Exception"]).filter goodWord)
def wsX9_firesIn_r1 : List Cond := [Cond.fieldLink RX9 25 "MeridianSeries" "trial" "LMeridianSeries$Store;", Cond.fieldLink RX9 21 "MeridianSeries" "store" "LMeridianSeries$Store;", Cond.fieldLink RX9 129 "MeridianSeries$Store" "log" "LMeridianSeries$EventLog;", Cond.fieldLink RX9 249 "MeridianSeries$EventLog" "firings" "I", Cond.methodLink RX9 125 yX9_canGoOn, Cond.instanceMethod yX9_canGoOn, Cond.selects RX9 yX9_canGoOn yX9_canGoOn, Cond.initialized RX9, Cond.code yX9_canGoOn cX9_canGoOn 2 (some .boolean), Cond.fieldLink RX9 141 "MeridianSeries$Store" "now" "I", Cond.constant RX9 100 (99999), Cond.methodLink RX9 51 yX9_isIn, Cond.static yX9_isIn, Cond.code yX9_isIn cX9_isIn 4 (some .boolean), Cond.methodLink RX9 55 yX9_needArgument, Cond.static yX9_needArgument, Cond.code yX9_needArgument cX9_needArgument 1 none, Cond.classLink RX9 280 "java/lang/IllegalArgumentException", Cond.initialized "java/lang/IllegalArgumentException", Cond.methodLink RX9 245 yX8_copyFrom, Cond.instanceMethod yX8_copyFrom, Cond.selects RX8 yX8_copyFrom yX8_copyFrom, Cond.initialized RX8, Cond.code yX8_copyFrom cX8_copyFrom 3 none]
def wsX9_firesIn_r2 : List Cond := [Cond.fieldLink RX8 26 "MeridianSeries$Store" "now" "I", Cond.fieldLink RX8 10 "MeridianSeries$Store" "chains" "Ljava/util/ArrayList;", Cond.classLink RX8 42 "MeridianSeries$Series", Cond.fieldLink RX8 16 "MeridianSeries$Store" "rules" "Ljava/util/ArrayList;", Cond.classLink RX8 60 "MeridianSeries$Rule", Cond.methodLink RX8 34 yJx4a65c_size_8abf5, Cond.instanceMethod yJx4a65c_size_8abf5, Cond.selects RJx4a65c yJx4a65c_size_8abf5 yJx4a65c_size_8abf5, Cond.initialized RJx4a65c, Cond.code yJx4a65c_size_8abf5 cJx4a65c_size_8abf5 1 (some .int), Cond.fieldLink RJx4a65c 48 "java/util/ArrayList" "size" "I", Cond.methodLink RX8 38 yJx4a65c_get_915e3, Cond.instanceMethod yJx4a65c_get_915e3, Cond.selects RJx4a65c yJx4a65c_get_915e3 yJx4a65c_get_915e3, Cond.code yJx4a65c_get_915e3 cJx4a65c_get_915e3 2 (some (.object "java/lang/Object")), Cond.methodLink RJx4a65c 118 yJ15_checkIndex_7cf53, Cond.static yJ15_checkIndex_7cf53, Cond.initialized RJ15, Cond.code yJ15_checkIndex_7cf53 cJ15_checkIndex_7cf53 2 (some .int), Cond.methodLink RJ15 105 yJ3_checkIndex_8e157, Cond.static yJ3_checkIndex_8e157, Cond.initialized RJ3, Cond.code yJ3_checkIndex_8e157 cJ3_checkIndex_8e157 3 (some .int), Cond.methodLink RJx4a65c 123 yJx4a65c_elementData_915e3]
def wsX9_firesIn_r3 : List Cond := [Cond.instanceMethod yJx4a65c_elementData_915e3, Cond.selects RJx4a65c yJx4a65c_elementData_915e3 yJx4a65c_elementData_915e3, Cond.code yJx4a65c_elementData_915e3 cJx4a65c_elementData_915e3 2 (some (.object "java/lang/Object")), Cond.fieldLink RJx4a65c 9 "java/util/ArrayList" "elementData" "[Ljava/lang/Object;", Cond.methodLink RX8 80 yX6_copyFrom, Cond.instanceMethod yX6_copyFrom, Cond.selects RX6 yX6_copyFrom yX6_copyFrom, Cond.initialized RX6, Cond.code yX6_copyFrom cX6_copyFrom 2 none, Cond.fieldLink RX6 12 "MeridianSeries$Series" "points" "LMeridianSeries$Points;", Cond.fieldLink RX6 21 "MeridianSeries$Series" "fine" "LMeridianSeries$Buckets;", Cond.fieldLink RX6 25 "MeridianSeries$Series" "coarse" "LMeridianSeries$Buckets;", Cond.methodLink RX6 146 yX4_copyFrom, Cond.instanceMethod yX4_copyFrom, Cond.selects RX4 yX4_copyFrom yX4_copyFrom, Cond.initialized RX4, Cond.code yX4_copyFrom cX4_copyFrom 3 none, Cond.fieldLink RX4 31 "MeridianSeries$Points" "amount" "I", Cond.sameField "MeridianSeries$Points" "MeridianSeries$Items" "amount" "I", Cond.fieldLink RX4 21 "MeridianSeries$Points" "sealedBlocks" "I", Cond.fieldLink RX4 18 "MeridianSeries$Points" "sizes" "[I", Cond.fieldLink RX4 25 "MeridianSeries$Points" "sealedPoints" "I", Cond.fieldLink RX4 28 "MeridianSeries$Points" "greatestSealedTime" "I", Cond.methodLink RX4 42 yX4_number]
def wsX9_firesIn_r4 : List Cond := [Cond.instanceMethod yX4_number, Cond.selects RX4 yX4_number yX4_number, Cond.code yX4_number cX4_number 3 (some .int), Cond.fieldLink RX4 11 "MeridianSeries$Points" "times" "[I", Cond.fieldLink RX4 15 "MeridianSeries$Points" "values" "[I", Cond.methodLink RX4 57 yX4_write, Cond.instanceMethod yX4_write, Cond.selects RX4 yX4_write yX4_write, Cond.code yX4_write cX4_write 4 none, Cond.methodLink RX4 38 yX4_sizeOf, Cond.instanceMethod yX4_sizeOf, Cond.selects RX4 yX4_sizeOf yX4_sizeOf, Cond.code yX4_sizeOf cX4_sizeOf 2 (some .int), Cond.methodLink RX4 34 yX4_openSize, Cond.instanceMethod yX4_openSize, Cond.selects RX4 yX4_openSize yX4_openSize, Cond.code yX4_openSize cX4_openSize 1 (some .int), Cond.methodLink RX6 150 yX0_copyFrom, Cond.instanceMethod yX0_copyFrom, Cond.selects RX0 yX0_copyFrom yX0_copyFrom, Cond.initialized RX0, Cond.code yX0_copyFrom cX0_copyFrom 4 none, Cond.fieldLink RX0 15 "MeridianSeries$Buckets" "amount" "I", Cond.sameField "MeridianSeries$Buckets" "MeridianSeries$Items" "amount" "I"]
def wsX9_firesIn_r5 : List Cond := [Cond.methodLink RX0 19 yX0_number, Cond.instanceMethod yX0_number, Cond.selects RX0 yX0_number yX0_number, Cond.code yX0_number cX0_number 4 (some .int), Cond.fieldLink RX0 11 "MeridianSeries$Buckets" "cells" "[I", Cond.methodLink RX0 24 yX0_write, Cond.instanceMethod yX0_write, Cond.selects RX0 yX0_write yX0_write, Cond.code yX0_write cX0_write 5 none, Cond.methodLink RX8 84 yX5_copyFrom, Cond.instanceMethod yX5_copyFrom, Cond.selects RX5 yX5_copyFrom yX5_copyFrom, Cond.initialized RX5, Cond.code yX5_copyFrom cX5_copyFrom 2 none, Cond.fieldLink RX5 9 "MeridianSeries$Rule" "state" "I", Cond.fieldLink RX5 15 "MeridianSeries$Rule" "timesInRow" "I", Cond.methodLink RX9 138 yX8_goOnByOne, Cond.instanceMethod yX8_goOnByOne, Cond.selects RX8 yX8_goOnByOne yX8_goOnByOne, Cond.code yX8_goOnByOne cX8_goOnByOne 3 none, Cond.fieldLink RX8 30 "MeridianSeries$Store" "settings" "LMeridianSeries$Settings;", Cond.fieldLink RX8 22 "MeridianSeries$Store" "log" "LMeridianSeries$EventLog;", Cond.fieldLink RX8 73 "MeridianSeries$Rule" "state" "I", Cond.methodLink RX8 56 yX6_rollUpBy]
def wsX9_firesIn_r6 : List Cond := [Cond.instanceMethod yX6_rollUpBy, Cond.selects RX6 yX6_rollUpBy yX6_rollUpBy, Cond.code yX6_rollUpBy cX6_rollUpBy 7 none, Cond.fieldLink RX6 59 "MeridianSeries$Settings" "keep" "I", Cond.fieldLink RX6 66 "MeridianSeries$Settings" "longKeep" "I", Cond.fieldLink RX6 69 "MeridianSeries$Settings" "width" "I", Cond.methodLink RX6 62 yX4_blocksBelow, Cond.instanceMethod yX4_blocksBelow, Cond.selects RX4 yX4_blocksBelow yX4_blocksBelow, Cond.code yX4_blocksBelow cX4_blocksBelow 4 (some .int), Cond.methodLink RX6 55 yX6_rollUpFirstBlock, Cond.instanceMethod yX6_rollUpFirstBlock, Cond.selects RX6 yX6_rollUpFirstBlock yX6_rollUpFirstBlock, Cond.code yX6_rollUpFirstBlock cX6_rollUpFirstBlock 4 none, Cond.methodLink RX6 85 yX4_sizeOf, Cond.methodLink RX6 88 yX4_number, Cond.methodLink RX6 89 yX6_startFor, Cond.static yX6_startFor, Cond.code yX6_startFor cX6_startFor 2 (some .int), Cond.methodLink RX6 92 yX0_take, Cond.instanceMethod yX0_take, Cond.selects RX0 yX0_take yX0_take, Cond.code yX0_take cX0_take 6 none, Cond.methodLink RX0 28 Lib.Math.min.name]
def wsX9_firesIn_r7 : List Cond := [Cond.static Lib.Math.min.name, Cond.initialized "java/lang/Math", Cond.code Lib.Math.min.name Lib.Math.min.code 2 (some .int), Cond.methodLink RX0 33 Lib.Math.max.name, Cond.static Lib.Math.max.name, Cond.code Lib.Math.max.name Lib.Math.max.code 2 (some .int), Cond.methodLink RX0 23 ⟨"MeridianSeries$Items", "number", "(II)I"⟩, Cond.sameMethod "MeridianSeries$Items" "MeridianSeries$Items" "number" "(II)I", Cond.selects RX0 ⟨"MeridianSeries$Items", "number", "(II)I"⟩ yX0_number, Cond.selects RX4 ⟨"MeridianSeries$Items", "number", "(II)I"⟩ yX4_number, Cond.methodLink RX6 96 yX0_isFull, Cond.instanceMethod yX0_isFull, Cond.selects RX0 yX0_isFull yX0_isFull, Cond.code yX0_isFull cX0_isFull 1 (some .boolean), Cond.methodLink RX6 76 yX6_rollUpFirstFine, Cond.instanceMethod yX6_rollUpFirstFine, Cond.selects RX6 yX6_rollUpFirstFine yX6_rollUpFirstFine, Cond.code yX6_rollUpFirstFine cX6_rollUpFirstFine 3 none, Cond.fieldLink RX6 102 "MeridianSeries$Settings" "fold" "I", Cond.methodLink RX6 82 yX0_number, Cond.methodLink RX6 105 yX0_dropFirst, Cond.instanceMethod yX0_dropFirst, Cond.selects RX0 yX0_dropFirst yX0_dropFirst, Cond.code yX0_dropFirst cX0_dropFirst 2 none]
def wsX9_firesIn_r8 : List Cond := [Cond.methodLink RX6 99 yX4_dropFirstBlock, Cond.instanceMethod yX4_dropFirstBlock, Cond.selects RX4 yX4_dropFirstBlock yX4_dropFirstBlock, Cond.code yX4_dropFirstBlock cX4_dropFirstBlock 3 none, Cond.methodLink RX4 53 yX4_copyPoint, Cond.instanceMethod yX4_copyPoint, Cond.selects RX4 yX4_copyPoint yX4_copyPoint, Cond.code yX4_copyPoint cX4_copyPoint 3 none, Cond.methodLink RX6 72 yX6_fineEndingBy, Cond.instanceMethod yX6_fineEndingBy, Cond.selects RX6 yX6_fineEndingBy yX6_fineEndingBy, Cond.code yX6_fineEndingBy cX6_fineEndingBy 4 (some .int), Cond.fieldLink RX6 79 "MeridianSeries$Buckets" "amount" "I", Cond.methodLink RX8 62 yX5_isDueAt, Cond.instanceMethod yX5_isDueAt, Cond.selects RX5 yX5_isDueAt yX5_isDueAt, Cond.code yX5_isDueAt cX5_isDueAt 2 (some .boolean), Cond.fieldLink RX5 28 "MeridianSeries$Rule" "every" "I", Cond.methodLink RX8 66 yX5_told, Cond.instanceMethod yX5_told, Cond.selects RX5 yX5_told yX5_told, Cond.code yX5_told cX5_told 2 (some .int), Cond.fieldLink RX5 18 "MeridianSeries$Rule" "chain" "LMeridianSeries$Series;", Cond.fieldLink RX5 25 "MeridianSeries$Rule" "length" "I"]
def wsX9_firesIn_r9 : List Cond := [Cond.fieldLink RX5 22 "MeridianSeries$Rule" "what" "I", Cond.methodLink RX5 41 yX6_tell, Cond.instanceMethod yX6_tell, Cond.selects RX6 yX6_tell yX6_tell, Cond.code yX6_tell cX6_tell 7 (some .int), Cond.methodLink RX6 115 yX6_firstItemFrom, Cond.instanceMethod yX6_firstItemFrom, Cond.selects RX6 yX6_firstItemFrom yX6_firstItemFrom, Cond.code yX6_firstItemFrom cX6_firstItemFrom 6 (some .int), Cond.methodLink RX6 109 yX6_itemCount, Cond.instanceMethod yX6_itemCount, Cond.selects RX6 yX6_itemCount yX6_itemCount, Cond.code yX6_itemCount cX6_itemCount 1 (some .int), Cond.fieldLink RX6 108 "MeridianSeries$Points" "amount" "I", Cond.methodLink RX6 112 yX6_ofItem, Cond.instanceMethod yX6_ofItem, Cond.selects RX6 yX6_ofItem yX6_ofItem, Cond.code yX6_ofItem cX6_ofItem 4 (some .int), Cond.methodLink RX6 118 yX6_toldOfGap, Cond.instanceMethod yX6_toldOfGap, Cond.selects RX6 yX6_toldOfGap yX6_toldOfGap, Cond.code yX6_toldOfGap cX6_toldOfGap 5 (some .int), Cond.constant RX6 134 (-1000000), Cond.methodLink RX6 135 yX6_onLine]
def wsX9_firesIn_r10 : List Cond := [Cond.instanceMethod yX6_onLine, Cond.selects RX6 yX6_onLine yX6_onLine, Cond.code yX6_onLine cX6_onLine 9 (some .int), Cond.methodLink RX6 122 yX6_total, Cond.instanceMethod yX6_total, Cond.selects RX6 yX6_total yX6_total, Cond.code yX6_total cX6_total 6 (some .int), Cond.methodLink RX6 125 yX6_least, Cond.instanceMethod yX6_least, Cond.selects RX6 yX6_least yX6_least, Cond.code yX6_least cX6_least 5 (some .int), Cond.methodLink RX6 138 Lib.Math.min.name, Cond.methodLink RX6 128 yX6_greatest, Cond.instanceMethod yX6_greatest, Cond.selects RX6 yX6_greatest yX6_greatest, Cond.code yX6_greatest cX6_greatest 5 (some .int), Cond.methodLink RX6 143 Lib.Math.max.name, Cond.methodLink RX6 131 yX6_quotient, Cond.static yX6_quotient, Cond.code yX6_quotient cX6_quotient 2 (some .int), Cond.methodLink RX8 70 yX5_changesBy, Cond.instanceMethod yX5_changesBy, Cond.selects RX5 yX5_changesBy yX5_changesBy, Cond.code yX5_changesBy cX5_changesBy 3 (some .boolean)]
def wsX9_firesIn_r11 : List Cond := [Cond.constant RX5 47 (-1000000), Cond.fieldLink RX5 31 "MeridianSeries$Rule" "isAbove" "Z", Cond.fieldLink RX5 35 "MeridianSeries$Rule" "limit" "I", Cond.methodLink RX5 48 yX5_ceases, Cond.instanceMethod yX5_ceases, Cond.selects RX5 yX5_ceases yX5_ceases, Cond.code yX5_ceases cX5_ceases 2 (some .boolean), Cond.fieldLink RX5 38 "MeridianSeries$Rule" "times" "I", Cond.methodLink RX5 55 yX5_become, Cond.instanceMethod yX5_become, Cond.selects RX5 yX5_become yX5_become, Cond.code yX5_become cX5_become 2 none, Cond.methodLink RX5 52 yX5_begins, Cond.instanceMethod yX5_begins, Cond.selects RX5 yX5_begins yX5_begins, Cond.code yX5_begins cX5_begins 2 (some .boolean), Cond.methodLink RX8 76 yX1_add, Cond.instanceMethod yX1_add, Cond.selects RX1 yX1_add yX1_add, Cond.initialized RX1, Cond.code yX1_add cX1_add 5 none, Cond.fieldLink RX1 15 "MeridianSeries$EventLog" "total" "I", Cond.fieldLink RX1 9 "MeridianSeries$EventLog" "cells" "[I", Cond.fieldLink RX1 19 "MeridianSeries$EventLog" "firings" "I"]
def wsX9_firesIn : List Cond := .code yX9_firesIn cX9_firesIn 4 (some .int) :: ((wsX9_firesIn_r1 ++ (wsX9_firesIn_r2 ++ (wsX9_firesIn_r3 ++ (wsX9_firesIn_r4 ++ (wsX9_firesIn_r5 ++ (wsX9_firesIn_r6 ++ (wsX9_firesIn_r7 ++ (wsX9_firesIn_r8 ++ (wsX9_firesIn_r9 ++ (wsX9_firesIn_r10 ++ wsX9_firesIn_r11)))))))))) ++ wsX90 ++ wsX80 ++ wsX10 ++ wsJx4a65c0 ++ wsX60 ++ wsX00 ++ wsX40 ++ wsX50 ++ wsX70 ++ (vx_atS RX9 284 "java/lang/IllegalArgumentException" ["java/lang/RuntimeException", "java/lang/Exception"]).filter goodWord)
def wsX9_wouldRoll_r1 : List Cond := [Cond.fieldLink RX9 21 "MeridianSeries" "store" "LMeridianSeries$Store;", Cond.fieldLink RX9 141 "MeridianSeries$Store" "now" "I", Cond.constant RX9 100 (99999), Cond.fieldLink RX9 59 "MeridianSeries$Store" "chains" "Ljava/util/ArrayList;", Cond.classLink RX9 72 "MeridianSeries$Series", Cond.fieldLink RX9 116 "MeridianSeries$Series" "points" "LMeridianSeries$Points;", Cond.methodLink RX9 51 yX9_isIn, Cond.static yX9_isIn, Cond.initialized RX9, Cond.code yX9_isIn cX9_isIn 4 (some .boolean), Cond.methodLink RX9 55 yX9_needArgument, Cond.static yX9_needArgument, Cond.code yX9_needArgument cX9_needArgument 1 none, Cond.classLink RX9 280 "java/lang/IllegalArgumentException", Cond.initialized "java/lang/IllegalArgumentException", Cond.methodLink RX9 63 yJx4a65c_size_8abf5, Cond.instanceMethod yJx4a65c_size_8abf5, Cond.selects RJx4a65c yJx4a65c_size_8abf5 yJx4a65c_size_8abf5, Cond.initialized RJx4a65c, Cond.code yJx4a65c_size_8abf5 cJx4a65c_size_8abf5 1 (some .int), Cond.fieldLink RJx4a65c 48 "java/util/ArrayList" "size" "I", Cond.methodLink RX9 187 yJx4a65c_get_915e3, Cond.instanceMethod yJx4a65c_get_915e3, Cond.selects RJx4a65c yJx4a65c_get_915e3 yJx4a65c_get_915e3]
def wsX9_wouldRoll_r2 : List Cond := [Cond.code yJx4a65c_get_915e3 cJx4a65c_get_915e3 2 (some (.object "java/lang/Object")), Cond.methodLink RJx4a65c 118 yJ15_checkIndex_7cf53, Cond.static yJ15_checkIndex_7cf53, Cond.initialized RJ15, Cond.code yJ15_checkIndex_7cf53 cJ15_checkIndex_7cf53 2 (some .int), Cond.methodLink RJ15 105 yJ3_checkIndex_8e157, Cond.static yJ3_checkIndex_8e157, Cond.initialized RJ3, Cond.code yJ3_checkIndex_8e157 cJ3_checkIndex_8e157 3 (some .int), Cond.methodLink RJx4a65c 123 yJx4a65c_elementData_915e3, Cond.instanceMethod yJx4a65c_elementData_915e3, Cond.selects RJx4a65c yJx4a65c_elementData_915e3 yJx4a65c_elementData_915e3, Cond.code yJx4a65c_elementData_915e3 cJx4a65c_elementData_915e3 2 (some (.object "java/lang/Object")), Cond.fieldLink RJx4a65c 9 "java/util/ArrayList" "elementData" "[Ljava/lang/Object;", Cond.methodLink RX9 252 yX4_blocksBelow, Cond.instanceMethod yX4_blocksBelow, Cond.selects RX4 yX4_blocksBelow yX4_blocksBelow, Cond.initialized RX4, Cond.code yX4_blocksBelow cX4_blocksBelow 4 (some .int), Cond.fieldLink RX4 21 "MeridianSeries$Points" "sealedBlocks" "I", Cond.methodLink RX4 38 yX4_sizeOf, Cond.instanceMethod yX4_sizeOf, Cond.selects RX4 yX4_sizeOf yX4_sizeOf, Cond.code yX4_sizeOf cX4_sizeOf 2 (some .int)]
def wsX9_wouldRoll_r3 : List Cond := [Cond.fieldLink RX4 18 "MeridianSeries$Points" "sizes" "[I", Cond.methodLink RX4 34 yX4_openSize, Cond.instanceMethod yX4_openSize, Cond.selects RX4 yX4_openSize yX4_openSize, Cond.code yX4_openSize cX4_openSize 1 (some .int), Cond.fieldLink RX4 31 "MeridianSeries$Points" "amount" "I", Cond.sameField "MeridianSeries$Points" "MeridianSeries$Items" "amount" "I", Cond.fieldLink RX4 25 "MeridianSeries$Points" "sealedPoints" "I", Cond.methodLink RX4 42 yX4_number, Cond.instanceMethod yX4_number, Cond.selects RX4 yX4_number yX4_number, Cond.code yX4_number cX4_number 3 (some .int), Cond.fieldLink RX4 11 "MeridianSeries$Points" "times" "[I", Cond.fieldLink RX4 15 "MeridianSeries$Points" "values" "[I"]
def wsX9_wouldRoll : List Cond := .code yX9_wouldRoll cX9_wouldRoll 4 (some .int) :: ((wsX9_wouldRoll_r1 ++ (wsX9_wouldRoll_r2 ++ wsX9_wouldRoll_r3)) ++ wsX90 ++ wsX80 ++ wsX60 ++ wsJx4a65c0 ++ wsX40 ++ wsX00 ++ (vx_atS RX9 284 "java/lang/IllegalArgumentException" ["java/lang/RuntimeException", "java/lang/Exception"]).filter goodWord)
def wsX9_withBlocks_r1 : List Cond := [Cond.constantLong RX9 257 (31), Cond.fieldLink RX9 31 "MeridianSeries" "packer" "LMeridianSeries$Packer;", Cond.methodLink RX9 144 yX4_blockCount, Cond.instanceMethod yX4_blockCount, Cond.selects RX4 yX4_blockCount yX4_blockCount, Cond.initialized RX4, Cond.code yX4_blockCount cX4_blockCount 1 (some .int), Cond.fieldLink RX4 21 "MeridianSeries$Points" "sealedBlocks" "I", Cond.methodLink RX9 153 yX4_sizeOf, Cond.instanceMethod yX4_sizeOf, Cond.selects RX4 yX4_sizeOf yX4_sizeOf, Cond.code yX4_sizeOf cX4_sizeOf 2 (some .int), Cond.fieldLink RX4 18 "MeridianSeries$Points" "sizes" "[I", Cond.methodLink RX4 34 yX4_openSize, Cond.instanceMethod yX4_openSize, Cond.selects RX4 yX4_openSize yX4_openSize, Cond.code yX4_openSize cX4_openSize 1 (some .int), Cond.fieldLink RX4 31 "MeridianSeries$Points" "amount" "I", Cond.sameField "MeridianSeries$Points" "MeridianSeries$Items" "amount" "I", Cond.fieldLink RX4 25 "MeridianSeries$Points" "sealedPoints" "I", Cond.methodLink RX9 164 yX3_pack, Cond.instanceMethod yX3_pack, Cond.selects RX3 yX3_pack yX3_pack, Cond.initialized RX3]
def wsX9_withBlocks_r2 : List Cond := [Cond.code yX3_pack cX3_pack 6 (some .int), Cond.fieldLink RX3 31 "MeridianSeries$Points" "sealedBlocks" "I", Cond.fieldLink RX3 15 "MeridianSeries$Packer" "length" "I", Cond.methodLink RX3 36 yX4_startOf, Cond.instanceMethod yX4_startOf, Cond.selects RX4 yX4_startOf yX4_startOf, Cond.code yX4_startOf cX4_startOf 4 (some .int), Cond.methodLink RX4 38 yX4_sizeOf, Cond.methodLink RX3 40 yX4_sizeOf, Cond.methodLink RX3 43 yX3_begin, Cond.instanceMethod yX3_begin, Cond.selects RX3 yX3_begin yX3_begin, Cond.code yX3_begin cX3_begin 2 none, Cond.fieldLink RX3 11 "MeridianSeries$Packer" "words" "[I", Cond.fieldLink RX3 19 "MeridianSeries$Packer" "packed" "I", Cond.methodLink RX3 72 yJ7_fill_53178, Cond.static yJ7_fill_53178, Cond.initialized RJ7, Cond.code yJ7_fill_53178 cJ7_fill_53178 4 none, Cond.methodLink RX3 78 yX3_write, Cond.instanceMethod yX3_write, Cond.selects RX3 yX3_write yX3_write, Cond.code yX3_write cX3_write 5 none, Cond.methodLink RX3 47 yX4_number]
def wsX9_withBlocks_r3 : List Cond := [Cond.instanceMethod yX4_number, Cond.selects RX4 yX4_number yX4_number, Cond.code yX4_number cX4_number 3 (some .int), Cond.fieldLink RX4 11 "MeridianSeries$Points" "times" "[I", Cond.fieldLink RX4 15 "MeridianSeries$Points" "values" "[I", Cond.methodLink RX3 51 yX3_add, Cond.instanceMethod yX3_add, Cond.selects RX3 yX3_add yX3_add, Cond.code yX3_add cX3_add 4 none, Cond.constant RX3 81 (1048576), Cond.fieldLink RX3 25 "MeridianSeries$Packer" "lastStep" "I", Cond.fieldLink RX3 22 "MeridianSeries$Packer" "lastTime" "I", Cond.fieldLink RX3 28 "MeridianSeries$Packer" "lastValue" "I", Cond.methodLink RX3 82 yX3_addTime, Cond.instanceMethod yX3_addTime, Cond.selects RX3 yX3_addTime yX3_addTime, Cond.code yX3_addTime cX3_addTime 2 none, Cond.static yX9_isIn, Cond.initialized RX9, Cond.code yX9_isIn cX9_isIn 4 (some .boolean), Cond.methodLink RX3 85 yX3_addValue, Cond.instanceMethod yX3_addValue, Cond.selects RX3 yX3_addValue yX3_addValue, Cond.code yX3_addValue cX3_addValue 2 none]
def wsX9_withBlocks_r4 : List Cond := [Cond.constant RX3 92 (262144), Cond.methodLink RX9 160 yX4_number]
def wsX9_withBlocks : List Cond := .code yX9_withBlocks cX9_withBlocks 10 (some .long) :: ((wsX9_withBlocks_r1 ++ (wsX9_withBlocks_r2 ++ (wsX9_withBlocks_r3 ++ wsX9_withBlocks_r4))) ++ wsX90 ++ wsX40 ++ wsX00 ++ wsX30)
def wsX9_withBuckets : List Cond := .code yX9_withBuckets cX9_withBuckets 7 (some .long) :: ([.constantLong RX9 257 (31), .fieldLink RX9 178 "MeridianSeries$Buckets" "amount" "I", .sameField "MeridianSeries$Buckets" "MeridianSeries$Items" "amount" "I", .methodLink RX9 183 yX0_number, .instanceMethod yX0_number, .selects RX0 yX0_number yX0_number, .initialized RX0, .code yX0_number cX0_number 4 (some .int), .fieldLink RX0 11 "MeridianSeries$Buckets" "cells" "[I"] ++ wsX00 ++ wsX40)
def wsX9_withWindows_r1 : List Cond := [Cond.constantLong RX9 257 (31), Cond.methodLink RX9 196 yX9_toldByQuery, Cond.instanceMethod yX9_toldByQuery, Cond.selects RX9 yX9_toldByQuery yX9_toldByQuery, Cond.initialized RX9, Cond.code yX9_toldByQuery cX9_toldByQuery 4 (some .int), Cond.fieldLink RX9 35 "MeridianSeries" "queryFrom" "I", Cond.fieldLink RX9 39 "MeridianSeries" "queryStep" "I", Cond.fieldLink RX9 42 "MeridianSeries" "queryWhat" "I", Cond.fieldLink RX9 45 "MeridianSeries" "queryFill" "I", Cond.methodLink RX9 305 yX6_tell, Cond.instanceMethod yX6_tell, Cond.selects RX6 yX6_tell yX6_tell, Cond.initialized RX6, Cond.code yX6_tell cX6_tell 7 (some .int), Cond.methodLink RX6 115 yX6_firstItemFrom, Cond.instanceMethod yX6_firstItemFrom, Cond.selects RX6 yX6_firstItemFrom yX6_firstItemFrom, Cond.code yX6_firstItemFrom cX6_firstItemFrom 6 (some .int), Cond.methodLink RX6 109 yX6_itemCount, Cond.instanceMethod yX6_itemCount, Cond.selects RX6 yX6_itemCount yX6_itemCount, Cond.code yX6_itemCount cX6_itemCount 1 (some .int), Cond.fieldLink RX6 25 "MeridianSeries$Series" "coarse" "LMeridianSeries$Buckets;"]
def wsX9_withWindows_r2 : List Cond := [Cond.fieldLink RX6 79 "MeridianSeries$Buckets" "amount" "I", Cond.sameField "MeridianSeries$Buckets" "MeridianSeries$Items" "amount" "I", Cond.fieldLink RX6 21 "MeridianSeries$Series" "fine" "LMeridianSeries$Buckets;", Cond.fieldLink RX6 12 "MeridianSeries$Series" "points" "LMeridianSeries$Points;", Cond.fieldLink RX6 108 "MeridianSeries$Points" "amount" "I", Cond.sameField "MeridianSeries$Points" "MeridianSeries$Items" "amount" "I", Cond.methodLink RX6 112 yX6_ofItem, Cond.instanceMethod yX6_ofItem, Cond.selects RX6 yX6_ofItem yX6_ofItem, Cond.code yX6_ofItem cX6_ofItem 4 (some .int), Cond.methodLink RX6 82 yX0_number, Cond.instanceMethod yX0_number, Cond.selects RX0 yX0_number yX0_number, Cond.initialized RX0, Cond.code yX0_number cX0_number 4 (some .int), Cond.fieldLink RX0 11 "MeridianSeries$Buckets" "cells" "[I", Cond.methodLink RX6 88 yX4_number, Cond.instanceMethod yX4_number, Cond.selects RX4 yX4_number yX4_number, Cond.initialized RX4, Cond.code yX4_number cX4_number 3 (some .int), Cond.fieldLink RX4 11 "MeridianSeries$Points" "times" "[I", Cond.fieldLink RX4 15 "MeridianSeries$Points" "values" "[I", Cond.methodLink RX6 118 yX6_toldOfGap]
def wsX9_withWindows_r3 : List Cond := [Cond.instanceMethod yX6_toldOfGap, Cond.selects RX6 yX6_toldOfGap yX6_toldOfGap, Cond.code yX6_toldOfGap cX6_toldOfGap 5 (some .int), Cond.constant RX6 134 (-1000000), Cond.methodLink RX6 135 yX6_onLine, Cond.instanceMethod yX6_onLine, Cond.selects RX6 yX6_onLine yX6_onLine, Cond.code yX6_onLine cX6_onLine 9 (some .int), Cond.methodLink RX6 122 yX6_total, Cond.instanceMethod yX6_total, Cond.selects RX6 yX6_total yX6_total, Cond.code yX6_total cX6_total 6 (some .int), Cond.methodLink RX6 125 yX6_least, Cond.instanceMethod yX6_least, Cond.selects RX6 yX6_least yX6_least, Cond.code yX6_least cX6_least 5 (some .int), Cond.methodLink RX6 138 Lib.Math.min.name, Cond.static Lib.Math.min.name, Cond.initialized "java/lang/Math", Cond.code Lib.Math.min.name Lib.Math.min.code 2 (some .int), Cond.methodLink RX6 128 yX6_greatest, Cond.instanceMethod yX6_greatest, Cond.selects RX6 yX6_greatest yX6_greatest, Cond.code yX6_greatest cX6_greatest 5 (some .int)]
def wsX9_withWindows_r4 : List Cond := [Cond.methodLink RX6 143 Lib.Math.max.name, Cond.static Lib.Math.max.name, Cond.code Lib.Math.max.name Lib.Math.max.code 2 (some .int), Cond.methodLink RX6 131 yX6_quotient, Cond.static yX6_quotient, Cond.code yX6_quotient cX6_quotient 2 (some .int)]
def wsX9_withWindows : List Cond := .code yX9_withWindows cX9_withWindows 7 (some .long) :: ((wsX9_withWindows_r1 ++ (wsX9_withWindows_r2 ++ (wsX9_withWindows_r3 ++ wsX9_withWindows_r4))) ++ wsX90 ++ wsX60 ++ wsX00 ++ wsX40)
def wsX9_digest_r1 : List Cond := [Cond.constantLong RX9 255 (58058), Cond.constantLong RX9 257 (31), Cond.fieldLink RX9 21 "MeridianSeries" "store" "LMeridianSeries$Store;", Cond.fieldLink RX9 141 "MeridianSeries$Store" "now" "I", Cond.fieldLink RX9 59 "MeridianSeries$Store" "chains" "Ljava/util/ArrayList;", Cond.fieldLink RX9 48 "MeridianSeries" "lateCount" "I", Cond.fieldLink RX9 129 "MeridianSeries$Store" "log" "LMeridianSeries$EventLog;", Cond.fieldLink RX9 133 "MeridianSeries$EventLog" "total" "I", Cond.classLink RX9 72 "MeridianSeries$Series", Cond.fieldLink RX9 116 "MeridianSeries$Series" "points" "LMeridianSeries$Points;", Cond.fieldLink RX9 263 "MeridianSeries$Series" "fine" "LMeridianSeries$Buckets;", Cond.fieldLink RX9 271 "MeridianSeries$Series" "coarse" "LMeridianSeries$Buckets;", Cond.fieldLink RX9 216 "MeridianSeries$Store" "rules" "Ljava/util/ArrayList;", Cond.classLink RX9 219 "MeridianSeries$Rule", Cond.fieldLink RX9 228 "MeridianSeries$Rule" "state" "I", Cond.fieldLink RX9 231 "MeridianSeries$Rule" "timesInRow" "I", Cond.methodLink RX9 63 yJx4a65c_size_8abf5, Cond.instanceMethod yJx4a65c_size_8abf5, Cond.selects RJx4a65c yJx4a65c_size_8abf5 yJx4a65c_size_8abf5, Cond.initialized RJx4a65c, Cond.code yJx4a65c_size_8abf5 cJx4a65c_size_8abf5 1 (some .int), Cond.fieldLink RJx4a65c 48 "java/util/ArrayList" "size" "I", Cond.methodLink RX9 187 yJx4a65c_get_915e3, Cond.instanceMethod yJx4a65c_get_915e3]
def wsX9_digest_r2 : List Cond := [Cond.selects RJx4a65c yJx4a65c_get_915e3 yJx4a65c_get_915e3, Cond.code yJx4a65c_get_915e3 cJx4a65c_get_915e3 2 (some (.object "java/lang/Object")), Cond.methodLink RJx4a65c 118 yJ15_checkIndex_7cf53, Cond.static yJ15_checkIndex_7cf53, Cond.initialized RJ15, Cond.code yJ15_checkIndex_7cf53 cJ15_checkIndex_7cf53 2 (some .int), Cond.methodLink RJ15 105 yJ3_checkIndex_8e157, Cond.static yJ3_checkIndex_8e157, Cond.initialized RJ3, Cond.code yJ3_checkIndex_8e157 cJ3_checkIndex_8e157 3 (some .int), Cond.methodLink RJx4a65c 123 yJx4a65c_elementData_915e3, Cond.instanceMethod yJx4a65c_elementData_915e3, Cond.selects RJx4a65c yJx4a65c_elementData_915e3 yJx4a65c_elementData_915e3, Cond.code yJx4a65c_elementData_915e3 cJx4a65c_elementData_915e3 2 (some (.object "java/lang/Object")), Cond.fieldLink RJx4a65c 9 "java/util/ArrayList" "elementData" "[Ljava/lang/Object;", Cond.methodLink RX9 259 yX9_withBlocks, Cond.instanceMethod yX9_withBlocks, Cond.selects RX9 yX9_withBlocks yX9_withBlocks, Cond.initialized RX9, Cond.code yX9_withBlocks cX9_withBlocks 10 (some .long), Cond.fieldLink RX9 31 "MeridianSeries" "packer" "LMeridianSeries$Packer;", Cond.methodLink RX9 144 yX4_blockCount, Cond.instanceMethod yX4_blockCount, Cond.selects RX4 yX4_blockCount yX4_blockCount]
def wsX9_digest_r3 : List Cond := [Cond.initialized RX4, Cond.code yX4_blockCount cX4_blockCount 1 (some .int), Cond.fieldLink RX4 21 "MeridianSeries$Points" "sealedBlocks" "I", Cond.methodLink RX9 153 yX4_sizeOf, Cond.instanceMethod yX4_sizeOf, Cond.selects RX4 yX4_sizeOf yX4_sizeOf, Cond.code yX4_sizeOf cX4_sizeOf 2 (some .int), Cond.fieldLink RX4 18 "MeridianSeries$Points" "sizes" "[I", Cond.methodLink RX4 34 yX4_openSize, Cond.instanceMethod yX4_openSize, Cond.selects RX4 yX4_openSize yX4_openSize, Cond.code yX4_openSize cX4_openSize 1 (some .int), Cond.fieldLink RX4 31 "MeridianSeries$Points" "amount" "I", Cond.sameField "MeridianSeries$Points" "MeridianSeries$Items" "amount" "I", Cond.fieldLink RX4 25 "MeridianSeries$Points" "sealedPoints" "I", Cond.methodLink RX9 164 yX3_pack, Cond.instanceMethod yX3_pack, Cond.selects RX3 yX3_pack yX3_pack, Cond.initialized RX3, Cond.code yX3_pack cX3_pack 6 (some .int), Cond.fieldLink RX3 31 "MeridianSeries$Points" "sealedBlocks" "I", Cond.fieldLink RX3 15 "MeridianSeries$Packer" "length" "I", Cond.methodLink RX3 36 yX4_startOf, Cond.instanceMethod yX4_startOf]
def wsX9_digest_r4 : List Cond := [Cond.selects RX4 yX4_startOf yX4_startOf, Cond.code yX4_startOf cX4_startOf 4 (some .int), Cond.methodLink RX4 38 yX4_sizeOf, Cond.methodLink RX3 40 yX4_sizeOf, Cond.methodLink RX3 43 yX3_begin, Cond.instanceMethod yX3_begin, Cond.selects RX3 yX3_begin yX3_begin, Cond.code yX3_begin cX3_begin 2 none, Cond.fieldLink RX3 11 "MeridianSeries$Packer" "words" "[I", Cond.fieldLink RX3 19 "MeridianSeries$Packer" "packed" "I", Cond.methodLink RX3 72 yJ7_fill_53178, Cond.static yJ7_fill_53178, Cond.initialized RJ7, Cond.code yJ7_fill_53178 cJ7_fill_53178 4 none, Cond.methodLink RX3 78 yX3_write, Cond.instanceMethod yX3_write, Cond.selects RX3 yX3_write yX3_write, Cond.code yX3_write cX3_write 5 none, Cond.methodLink RX3 47 yX4_number, Cond.instanceMethod yX4_number, Cond.selects RX4 yX4_number yX4_number, Cond.code yX4_number cX4_number 3 (some .int), Cond.fieldLink RX4 11 "MeridianSeries$Points" "times" "[I", Cond.fieldLink RX4 15 "MeridianSeries$Points" "values" "[I"]
def wsX9_digest_r5 : List Cond := [Cond.methodLink RX3 51 yX3_add, Cond.instanceMethod yX3_add, Cond.selects RX3 yX3_add yX3_add, Cond.code yX3_add cX3_add 4 none, Cond.constant RX3 81 (1048576), Cond.fieldLink RX3 25 "MeridianSeries$Packer" "lastStep" "I", Cond.fieldLink RX3 22 "MeridianSeries$Packer" "lastTime" "I", Cond.fieldLink RX3 28 "MeridianSeries$Packer" "lastValue" "I", Cond.methodLink RX3 82 yX3_addTime, Cond.instanceMethod yX3_addTime, Cond.selects RX3 yX3_addTime yX3_addTime, Cond.code yX3_addTime cX3_addTime 2 none, Cond.static yX9_isIn, Cond.code yX9_isIn cX9_isIn 4 (some .boolean), Cond.methodLink RX3 85 yX3_addValue, Cond.instanceMethod yX3_addValue, Cond.selects RX3 yX3_addValue yX3_addValue, Cond.code yX3_addValue cX3_addValue 2 none, Cond.constant RX3 92 (262144), Cond.methodLink RX9 160 yX4_number, Cond.methodLink RX9 267 yX9_withBuckets, Cond.static yX9_withBuckets, Cond.code yX9_withBuckets cX9_withBuckets 7 (some .long), Cond.fieldLink RX9 178 "MeridianSeries$Buckets" "amount" "I"]
def wsX9_digest_r6 : List Cond := [Cond.sameField "MeridianSeries$Buckets" "MeridianSeries$Items" "amount" "I", Cond.methodLink RX9 183 yX0_number, Cond.instanceMethod yX0_number, Cond.selects RX0 yX0_number yX0_number, Cond.initialized RX0, Cond.code yX0_number cX0_number 4 (some .int), Cond.fieldLink RX0 11 "MeridianSeries$Buckets" "cells" "[I", Cond.methodLink RX9 274 yX9_withWindows, Cond.instanceMethod yX9_withWindows, Cond.selects RX9 yX9_withWindows yX9_withWindows, Cond.code yX9_withWindows cX9_withWindows 7 (some .long), Cond.methodLink RX9 196 yX9_toldByQuery, Cond.instanceMethod yX9_toldByQuery, Cond.selects RX9 yX9_toldByQuery yX9_toldByQuery, Cond.code yX9_toldByQuery cX9_toldByQuery 4 (some .int), Cond.fieldLink RX9 35 "MeridianSeries" "queryFrom" "I", Cond.fieldLink RX9 39 "MeridianSeries" "queryStep" "I", Cond.fieldLink RX9 42 "MeridianSeries" "queryWhat" "I", Cond.fieldLink RX9 45 "MeridianSeries" "queryFill" "I", Cond.methodLink RX9 305 yX6_tell, Cond.instanceMethod yX6_tell, Cond.selects RX6 yX6_tell yX6_tell, Cond.initialized RX6, Cond.code yX6_tell cX6_tell 7 (some .int)]
def wsX9_digest_r7 : List Cond := [Cond.methodLink RX6 115 yX6_firstItemFrom, Cond.instanceMethod yX6_firstItemFrom, Cond.selects RX6 yX6_firstItemFrom yX6_firstItemFrom, Cond.code yX6_firstItemFrom cX6_firstItemFrom 6 (some .int), Cond.methodLink RX6 109 yX6_itemCount, Cond.instanceMethod yX6_itemCount, Cond.selects RX6 yX6_itemCount yX6_itemCount, Cond.code yX6_itemCount cX6_itemCount 1 (some .int), Cond.fieldLink RX6 25 "MeridianSeries$Series" "coarse" "LMeridianSeries$Buckets;", Cond.fieldLink RX6 79 "MeridianSeries$Buckets" "amount" "I", Cond.fieldLink RX6 21 "MeridianSeries$Series" "fine" "LMeridianSeries$Buckets;", Cond.fieldLink RX6 12 "MeridianSeries$Series" "points" "LMeridianSeries$Points;", Cond.fieldLink RX6 108 "MeridianSeries$Points" "amount" "I", Cond.methodLink RX6 112 yX6_ofItem, Cond.instanceMethod yX6_ofItem, Cond.selects RX6 yX6_ofItem yX6_ofItem, Cond.code yX6_ofItem cX6_ofItem 4 (some .int), Cond.methodLink RX6 82 yX0_number, Cond.methodLink RX6 88 yX4_number, Cond.methodLink RX6 118 yX6_toldOfGap, Cond.instanceMethod yX6_toldOfGap, Cond.selects RX6 yX6_toldOfGap yX6_toldOfGap, Cond.code yX6_toldOfGap cX6_toldOfGap 5 (some .int), Cond.constant RX6 134 (-1000000)]
def wsX9_digest_r8 : List Cond := [Cond.methodLink RX6 135 yX6_onLine, Cond.instanceMethod yX6_onLine, Cond.selects RX6 yX6_onLine yX6_onLine, Cond.code yX6_onLine cX6_onLine 9 (some .int), Cond.methodLink RX6 122 yX6_total, Cond.instanceMethod yX6_total, Cond.selects RX6 yX6_total yX6_total, Cond.code yX6_total cX6_total 6 (some .int), Cond.methodLink RX6 125 yX6_least, Cond.instanceMethod yX6_least, Cond.selects RX6 yX6_least yX6_least, Cond.code yX6_least cX6_least 5 (some .int), Cond.methodLink RX6 138 Lib.Math.min.name, Cond.static Lib.Math.min.name, Cond.initialized "java/lang/Math", Cond.code Lib.Math.min.name Lib.Math.min.code 2 (some .int), Cond.methodLink RX6 128 yX6_greatest, Cond.instanceMethod yX6_greatest, Cond.selects RX6 yX6_greatest yX6_greatest, Cond.code yX6_greatest cX6_greatest 5 (some .int), Cond.methodLink RX6 143 Lib.Math.max.name, Cond.static Lib.Math.max.name, Cond.code Lib.Math.max.name Lib.Math.max.code 2 (some .int), Cond.methodLink RX6 131 yX6_quotient]
def wsX9_digest_r9 : List Cond := [Cond.static yX6_quotient, Cond.code yX6_quotient cX6_quotient 2 (some .int), Cond.methodLink RX9 234 yX5_told, Cond.instanceMethod yX5_told, Cond.selects RX5 yX5_told yX5_told, Cond.initialized RX5, Cond.code yX5_told cX5_told 2 (some .int), Cond.fieldLink RX5 18 "MeridianSeries$Rule" "chain" "LMeridianSeries$Series;", Cond.fieldLink RX5 25 "MeridianSeries$Rule" "length" "I", Cond.fieldLink RX5 22 "MeridianSeries$Rule" "what" "I", Cond.methodLink RX5 41 yX6_tell, Cond.methodLink RX9 237 yX1_number, Cond.instanceMethod yX1_number, Cond.selects RX1 yX1_number yX1_number, Cond.initialized RX1, Cond.code yX1_number cX1_number 4 (some .int), Cond.fieldLink RX1 15 "MeridianSeries$EventLog" "total" "I", Cond.fieldLink RX1 9 "MeridianSeries$EventLog" "cells" "[I"]
def wsX9_digest : List Cond := .code yX9_digest cX9_digest 5 (some .long) :: ((wsX9_digest_r1 ++ (wsX9_digest_r2 ++ (wsX9_digest_r3 ++ (wsX9_digest_r4 ++ (wsX9_digest_r5 ++ (wsX9_digest_r6 ++ (wsX9_digest_r7 ++ (wsX9_digest_r8 ++ wsX9_digest_r9)))))))) ++ wsX90 ++ wsX80 ++ wsX10 ++ wsX60 ++ wsX50 ++ wsJx4a65c0 ++ wsX40 ++ wsX00 ++ wsX30)
def wsJ9_max_7cf53 : List Cond := .code yJ9_max_7cf53 cJ9_max_7cf53 2 (some .int) :: ([])
def wsJ9_min_7cf53 : List Cond := .code yJ9_min_7cf53 cJ9_min_7cf53 2 (some .int) :: ([])
def wsL_below : List Cond := .code yL_below cL_below 2 (some .int) :: ([.constant RL 7 (2147483647)])
def wsL_cell : List Cond := .code yL_cell cL_cell 2 (some .int) :: ([.constant RL 8 (790386105)])
def wsL_isSound_r1 : List Cond := [Cond.arrayClass .int, Cond.methodLink RL 9 yX9_blocks, Cond.instanceMethod yX9_blocks, Cond.selects RX9 yX9_blocks yX9_blocks, Cond.initialized RX9, Cond.code yX9_blocks cX9_blocks 2 (some .int), Cond.fieldLink RX9 116 "MeridianSeries$Series" "points" "LMeridianSeries$Points;", Cond.methodLink RX9 101 yX9_chainAt, Cond.instanceMethod yX9_chainAt, Cond.selects RX9 yX9_chainAt yX9_chainAt, Cond.code yX9_chainAt cX9_chainAt 2 (some (.object "MeridianSeries$Series")), Cond.classLink RX9 287 "java/lang/IndexOutOfBoundsException", Cond.initialized "java/lang/IndexOutOfBoundsException", Cond.fieldLink RX9 21 "MeridianSeries" "store" "LMeridianSeries$Store;", Cond.fieldLink RX9 59 "MeridianSeries$Store" "chains" "Ljava/util/ArrayList;", Cond.classLink RX9 72 "MeridianSeries$Series", Cond.methodLink RX9 63 yJx4a65c_size_8abf5, Cond.instanceMethod yJx4a65c_size_8abf5, Cond.selects RJx4a65c yJx4a65c_size_8abf5 yJx4a65c_size_8abf5, Cond.initialized RJx4a65c, Cond.code yJx4a65c_size_8abf5 cJx4a65c_size_8abf5 1 (some .int), Cond.fieldLink RJx4a65c 48 "java/util/ArrayList" "size" "I", Cond.methodLink RX9 187 yJx4a65c_get_915e3, Cond.instanceMethod yJx4a65c_get_915e3]
def wsL_isSound_r2 : List Cond := [Cond.selects RJx4a65c yJx4a65c_get_915e3 yJx4a65c_get_915e3, Cond.code yJx4a65c_get_915e3 cJx4a65c_get_915e3 2 (some (.object "java/lang/Object")), Cond.methodLink RJx4a65c 118 yJ15_checkIndex_7cf53, Cond.static yJ15_checkIndex_7cf53, Cond.initialized RJ15, Cond.code yJ15_checkIndex_7cf53 cJ15_checkIndex_7cf53 2 (some .int), Cond.methodLink RJ15 105 yJ3_checkIndex_8e157, Cond.static yJ3_checkIndex_8e157, Cond.initialized RJ3, Cond.code yJ3_checkIndex_8e157 cJ3_checkIndex_8e157 3 (some .int), Cond.methodLink RJx4a65c 123 yJx4a65c_elementData_915e3, Cond.instanceMethod yJx4a65c_elementData_915e3, Cond.selects RJx4a65c yJx4a65c_elementData_915e3 yJx4a65c_elementData_915e3, Cond.code yJx4a65c_elementData_915e3 cJx4a65c_elementData_915e3 2 (some (.object "java/lang/Object")), Cond.fieldLink RJx4a65c 9 "java/util/ArrayList" "elementData" "[Ljava/lang/Object;", Cond.methodLink RX9 144 yX4_blockCount, Cond.instanceMethod yX4_blockCount, Cond.selects RX4 yX4_blockCount yX4_blockCount, Cond.initialized RX4, Cond.code yX4_blockCount cX4_blockCount 1 (some .int), Cond.fieldLink RX4 21 "MeridianSeries$Points" "sealedBlocks" "I", Cond.methodLink RL 15 yX9_buckets, Cond.instanceMethod yX9_buckets, Cond.selects RX9 yX9_buckets yX9_buckets]
def wsL_isSound_r3 : List Cond := [Cond.code yX9_buckets cX9_buckets 3 (some .int), Cond.fieldLink RX9 178 "MeridianSeries$Buckets" "amount" "I", Cond.sameField "MeridianSeries$Buckets" "MeridianSeries$Items" "amount" "I", Cond.methodLink RX9 174 yX6_bucketsOf, Cond.instanceMethod yX6_bucketsOf, Cond.selects RX6 yX6_bucketsOf yX6_bucketsOf, Cond.initialized RX6, Cond.code yX6_bucketsOf cX6_bucketsOf 2 (some (.object "MeridianSeries$Buckets")), Cond.fieldLink RX6 25 "MeridianSeries$Series" "coarse" "LMeridianSeries$Buckets;", Cond.fieldLink RX6 21 "MeridianSeries$Series" "fine" "LMeridianSeries$Buckets;", Cond.methodLink RL 19 yX9_size, Cond.instanceMethod yX9_size, Cond.selects RX9 yX9_size yX9_size, Cond.code yX9_size cX9_size 4 (some .int), Cond.fieldLink RX9 147 "MeridianSeries$Points" "sealedBlocks" "I", Cond.methodLink RX9 51 yX9_isIn, Cond.static yX9_isIn, Cond.code yX9_isIn cX9_isIn 4 (some .boolean), Cond.methodLink RX9 150 yX9_needIndex, Cond.static yX9_needIndex, Cond.code yX9_needIndex cX9_needIndex 1 none, Cond.methodLink RX9 153 yX4_sizeOf, Cond.instanceMethod yX4_sizeOf, Cond.selects RX4 yX4_sizeOf yX4_sizeOf]
def wsL_isSound_r4 : List Cond := [Cond.code yX4_sizeOf cX4_sizeOf 2 (some .int), Cond.fieldLink RX4 18 "MeridianSeries$Points" "sizes" "[I", Cond.methodLink RX4 34 yX4_openSize, Cond.instanceMethod yX4_openSize, Cond.selects RX4 yX4_openSize yX4_openSize, Cond.code yX4_openSize cX4_openSize 1 (some .int), Cond.fieldLink RX4 31 "MeridianSeries$Points" "amount" "I", Cond.sameField "MeridianSeries$Points" "MeridianSeries$Items" "amount" "I", Cond.fieldLink RX4 25 "MeridianSeries$Points" "sealedPoints" "I", Cond.methodLink RL 23 yX9_bits, Cond.instanceMethod yX9_bits, Cond.selects RX9 yX9_bits yX9_bits, Cond.code yX9_bits cX9_bits 4 (some .int), Cond.fieldLink RX9 31 "MeridianSeries" "packer" "LMeridianSeries$Packer;", Cond.methodLink RX9 164 yX3_pack, Cond.instanceMethod yX3_pack, Cond.selects RX3 yX3_pack yX3_pack, Cond.initialized RX3, Cond.code yX3_pack cX3_pack 6 (some .int), Cond.fieldLink RX3 31 "MeridianSeries$Points" "sealedBlocks" "I", Cond.fieldLink RX3 15 "MeridianSeries$Packer" "length" "I", Cond.methodLink RX3 36 yX4_startOf, Cond.instanceMethod yX4_startOf, Cond.selects RX4 yX4_startOf yX4_startOf]
def wsL_isSound_r5 : List Cond := [Cond.code yX4_startOf cX4_startOf 4 (some .int), Cond.methodLink RX4 38 yX4_sizeOf, Cond.methodLink RX3 40 yX4_sizeOf, Cond.methodLink RX3 43 yX3_begin, Cond.instanceMethod yX3_begin, Cond.selects RX3 yX3_begin yX3_begin, Cond.code yX3_begin cX3_begin 2 none, Cond.fieldLink RX3 11 "MeridianSeries$Packer" "words" "[I", Cond.fieldLink RX3 19 "MeridianSeries$Packer" "packed" "I", Cond.methodLink RX3 72 yJ7_fill_53178, Cond.static yJ7_fill_53178, Cond.initialized RJ7, Cond.code yJ7_fill_53178 cJ7_fill_53178 4 none, Cond.methodLink RX3 78 yX3_write, Cond.instanceMethod yX3_write, Cond.selects RX3 yX3_write yX3_write, Cond.code yX3_write cX3_write 5 none, Cond.methodLink RX3 47 yX4_number, Cond.instanceMethod yX4_number, Cond.selects RX4 yX4_number yX4_number, Cond.code yX4_number cX4_number 3 (some .int), Cond.fieldLink RX4 11 "MeridianSeries$Points" "times" "[I", Cond.fieldLink RX4 15 "MeridianSeries$Points" "values" "[I", Cond.methodLink RX3 51 yX3_add]
def wsL_isSound_r6 : List Cond := [Cond.instanceMethod yX3_add, Cond.selects RX3 yX3_add yX3_add, Cond.code yX3_add cX3_add 4 none, Cond.constant RX3 81 (1048576), Cond.fieldLink RX3 25 "MeridianSeries$Packer" "lastStep" "I", Cond.fieldLink RX3 22 "MeridianSeries$Packer" "lastTime" "I", Cond.fieldLink RX3 28 "MeridianSeries$Packer" "lastValue" "I", Cond.methodLink RX3 82 yX3_addTime, Cond.instanceMethod yX3_addTime, Cond.selects RX3 yX3_addTime yX3_addTime, Cond.code yX3_addTime cX3_addTime 2 none, Cond.methodLink RX3 85 yX3_addValue, Cond.instanceMethod yX3_addValue, Cond.selects RX3 yX3_addValue yX3_addValue, Cond.code yX3_addValue cX3_addValue 2 none, Cond.constant RX3 92 (262144), Cond.methodLink RL 26 yX9_point, Cond.instanceMethod yX9_point, Cond.selects RX9 yX9_point yX9_point, Cond.code yX9_point cX9_point 6 (some .int), Cond.methodLink RX9 157 yX4_startOf, Cond.methodLink RX9 160 yX4_number, Cond.methodLink RL 30 yX9_now, Cond.instanceMethod yX9_now]
def wsL_isSound_r7 : List Cond := [Cond.selects RX9 yX9_now yX9_now, Cond.code yX9_now cX9_now 1 (some .int), Cond.fieldLink RX9 141 "MeridianSeries$Store" "now" "I", Cond.methodLink RL 34 yX9_ofBucket, Cond.instanceMethod yX9_ofBucket, Cond.selects RX9 yX9_ofBucket yX9_ofBucket, Cond.code yX9_ofBucket cX9_ofBucket 6 (some .int), Cond.methodLink RX9 55 yX9_needArgument, Cond.static yX9_needArgument, Cond.code yX9_needArgument cX9_needArgument 1 none, Cond.classLink RX9 280 "java/lang/IllegalArgumentException", Cond.initialized "java/lang/IllegalArgumentException", Cond.methodLink RX9 183 yX0_number, Cond.instanceMethod yX0_number, Cond.selects RX0 yX0_number yX0_number, Cond.initialized RX0, Cond.code yX0_number cX0_number 4 (some .int), Cond.fieldLink RX0 11 "MeridianSeries$Buckets" "cells" "[I", Cond.methodLink RL 38 yX9_items, Cond.instanceMethod yX9_items, Cond.selects RX9 yX9_items yX9_items, Cond.code yX9_items cX9_items 2 (some .int), Cond.methodLink RX9 184 yX6_itemCount, Cond.instanceMethod yX6_itemCount]
def wsL_isSound_r8 : List Cond := [Cond.selects RX6 yX6_itemCount yX6_itemCount, Cond.code yX6_itemCount cX6_itemCount 1 (some .int), Cond.fieldLink RX6 79 "MeridianSeries$Buckets" "amount" "I", Cond.fieldLink RX6 12 "MeridianSeries$Series" "points" "LMeridianSeries$Points;", Cond.fieldLink RX6 108 "MeridianSeries$Points" "amount" "I"]
def wsL_isSound : List Cond := .code yL_isSound cL_isSound 10 (some .boolean) :: ((wsL_isSound_r1 ++ (wsL_isSound_r2 ++ (wsL_isSound_r3 ++ (wsL_isSound_r4 ++ (wsL_isSound_r5 ++ (wsL_isSound_r6 ++ (wsL_isSound_r7 ++ wsL_isSound_r8))))))) ++ wsX60 ++ wsX90 ++ wsX80 ++ wsJx4a65c0 ++ wsX40 ++ wsX00 ++ wsX30 ++ (vx_atS RX9 291 "java/lang/IndexOutOfBoundsException" ["java/lang/RuntimeException", "java/lang/Exception"]).filter goodWord ++ (vx_atS RX9 284 "java/lang/IllegalArgumentException" ["java/lang/RuntimeException", "java/lang/Exception"]).filter goodWord)
def wsL_law0_r1 : List Cond := [Cond.classLink RL 10 RX9, Cond.instantiable RX9 9, Cond.initialized RX9, Cond.methodLink RL 64 Lib.Math.max.name, Cond.static Lib.Math.max.name, Cond.initialized "java/lang/Math", Cond.code Lib.Math.max.name Lib.Math.max.code 2 (some .int), Cond.methodLink RL 105 Lib.Math.min.name, Cond.static Lib.Math.min.name, Cond.code Lib.Math.min.name Lib.Math.min.code 2 (some .int), Cond.methodLink RL 41 yX9_init, Cond.instanceMethod yX9_init, Cond.code yX9_init cX9_init 1 none, Cond.methodLink RX9 1 objectInit, Cond.instanceMethod objectInit, Cond.code objectInit ⟨#[0xb1]⟩ 1 none, Cond.classLink RX9 7 RX7, Cond.instantiable RX7 5, Cond.initialized RX7, Cond.fieldLink RX9 10 "MeridianSeries" "settings" "LMeridianSeries$Settings;", Cond.classLink RX9 16 RX8, Cond.instantiable RX8 5, Cond.initialized RX8, Cond.fieldLink RX9 21 "MeridianSeries" "store" "LMeridianSeries$Store;"]
def wsL_law0_r2 : List Cond := [Cond.fieldLink RX9 25 "MeridianSeries" "trial" "LMeridianSeries$Store;", Cond.classLink RX9 28 RX3, Cond.instantiable RX3 6, Cond.initialized RX3, Cond.fieldLink RX9 31 "MeridianSeries" "packer" "LMeridianSeries$Packer;", Cond.fieldLink RX9 35 "MeridianSeries" "queryFrom" "I", Cond.fieldLink RX9 39 "MeridianSeries" "queryStep" "I", Cond.fieldLink RX9 42 "MeridianSeries" "queryWhat" "I", Cond.fieldLink RX9 45 "MeridianSeries" "queryFill" "I", Cond.fieldLink RX9 48 "MeridianSeries" "lateCount" "I", Cond.instanceMethod yX7_init, Cond.code yX7_init cX7_init 1 none, Cond.methodLink RX7 1 objectInit, Cond.fieldLink RX7 7 "MeridianSeries$Settings" "span" "I", Cond.fieldLink RX7 13 "MeridianSeries$Settings" "width" "I", Cond.fieldLink RX7 16 "MeridianSeries$Settings" "fold" "I", Cond.fieldLink RX7 19 "MeridianSeries$Settings" "keep" "I", Cond.fieldLink RX7 22 "MeridianSeries$Settings" "longKeep" "I", Cond.methodLink RX9 18 yX8_init, Cond.instanceMethod yX8_init, Cond.code yX8_init cX8_init 2 none, Cond.methodLink RX8 1 objectInit, Cond.classLink RX8 7 RJx4a65c, Cond.instantiable RJx4a65c 3]
def wsL_law0_r3 : List Cond := [Cond.initialized RJx4a65c, Cond.fieldLink RX8 10 "MeridianSeries$Store" "chains" "Ljava/util/ArrayList;", Cond.fieldLink RX8 16 "MeridianSeries$Store" "rules" "Ljava/util/ArrayList;", Cond.classLink RX8 19 RX1, Cond.instantiable RX1 3, Cond.initialized RX1, Cond.fieldLink RX8 22 "MeridianSeries$Store" "log" "LMeridianSeries$EventLog;", Cond.fieldLink RX8 26 "MeridianSeries$Store" "now" "I", Cond.fieldLink RX8 30 "MeridianSeries$Store" "settings" "LMeridianSeries$Settings;", Cond.methodLink RX8 9 yJx4a65c_init_da8c8, Cond.instanceMethod yJx4a65c_init_da8c8, Cond.code yJx4a65c_init_da8c8 cJx4a65c_init_da8c8 1 none, Cond.fieldLink RJx4a65c 39 "java/util/ArrayList" "DEFAULTCAPACITY_EMPTY_ELEMENTDATA" "[Ljava/lang/Object;", Cond.fieldLink RJx4a65c 9 "java/util/ArrayList" "elementData" "[Ljava/lang/Object;", Cond.methodLink RJx4a65c 1 yJxc12de_init_da8c8, Cond.instanceMethod yJxc12de_init_da8c8, Cond.initialized RJxc12de, Cond.code yJxc12de_init_da8c8 cJxc12de_init_da8c8 1 none, Cond.fieldLink RJxc12de 7 "java/util/AbstractList" "modCount" "I", Cond.methodLink RJxc12de 1 yJxa1e45_init_da8c8, Cond.instanceMethod yJxa1e45_init_da8c8, Cond.initialized RJxa1e45, Cond.code yJxa1e45_init_da8c8 cJxa1e45_init_da8c8 1 none, Cond.methodLink RJxa1e45 1 objectInit]
def wsL_law0_r4 : List Cond := [Cond.instanceMethod yX1_init, Cond.code yX1_init cX1_init 1 none, Cond.methodLink RX1 3 objectInit, Cond.arrayClass .int, Cond.fieldLink RX1 9 "MeridianSeries$EventLog" "cells" "[I", Cond.fieldLink RX1 15 "MeridianSeries$EventLog" "total" "I", Cond.fieldLink RX1 19 "MeridianSeries$EventLog" "firings" "I", Cond.instanceMethod yX3_init, Cond.code yX3_init cX3_init 1 none, Cond.methodLink RX3 3 objectInit, Cond.fieldLink RX3 11 "MeridianSeries$Packer" "words" "[I", Cond.fieldLink RX3 15 "MeridianSeries$Packer" "length" "I", Cond.fieldLink RX3 19 "MeridianSeries$Packer" "packed" "I", Cond.fieldLink RX3 22 "MeridianSeries$Packer" "lastTime" "I", Cond.fieldLink RX3 25 "MeridianSeries$Packer" "lastStep" "I", Cond.fieldLink RX3 28 "MeridianSeries$Packer" "lastValue" "I", Cond.methodLink RL 42 yL_cell, Cond.static yL_cell, Cond.initialized RL, Cond.code yL_cell cL_cell 2 (some .int), Cond.constant RL 8 (790386105), Cond.methodLink RL 48 yL_below, Cond.static yL_below, Cond.code yL_below cL_below 2 (some .int)]
def wsL_law0_r5 : List Cond := [Cond.constant RL 7 (2147483647), Cond.methodLink RL 51 yX9_setSpan, Cond.instanceMethod yX9_setSpan, Cond.selects RX9 yX9_setSpan yX9_setSpan, Cond.code yX9_setSpan cX9_setSpan 3 (some .int), Cond.fieldLink RX9 81 "MeridianSeries$Settings" "span" "I", Cond.methodLink RX9 51 yX9_isIn, Cond.static yX9_isIn, Cond.code yX9_isIn cX9_isIn 4 (some .boolean), Cond.methodLink RX9 55 yX9_needArgument, Cond.static yX9_needArgument, Cond.code yX9_needArgument cX9_needArgument 1 none, Cond.classLink RX9 280 "java/lang/IllegalArgumentException", Cond.initialized "java/lang/IllegalArgumentException", Cond.methodLink RL 54 yX9_setWidths, Cond.instanceMethod yX9_setWidths, Cond.selects RX9 yX9_setWidths yX9_setWidths, Cond.code yX9_setWidths cX9_setWidths 4 (some .int), Cond.fieldLink RX9 88 "MeridianSeries$Settings" "width" "I", Cond.fieldLink RX9 91 "MeridianSeries$Settings" "fold" "I", Cond.methodLink RX9 84 yX8_hasBucket, Cond.instanceMethod yX8_hasBucket, Cond.selects RX8 yX8_hasBucket yX8_hasBucket, Cond.code yX8_hasBucket cX8_hasBucket 2 (some .boolean)]
def wsL_law0_r6 : List Cond := [Cond.classLink RX8 42 "MeridianSeries$Series", Cond.fieldLink RX8 44 "MeridianSeries$Series" "fine" "LMeridianSeries$Buckets;", Cond.fieldLink RX8 48 "MeridianSeries$Buckets" "amount" "I", Cond.sameField "MeridianSeries$Buckets" "MeridianSeries$Items" "amount" "I", Cond.fieldLink RX8 53 "MeridianSeries$Series" "coarse" "LMeridianSeries$Buckets;", Cond.methodLink RX8 34 yJx4a65c_size_8abf5, Cond.instanceMethod yJx4a65c_size_8abf5, Cond.selects RJx4a65c yJx4a65c_size_8abf5 yJx4a65c_size_8abf5, Cond.code yJx4a65c_size_8abf5 cJx4a65c_size_8abf5 1 (some .int), Cond.fieldLink RJx4a65c 48 "java/util/ArrayList" "size" "I", Cond.methodLink RX8 38 yJx4a65c_get_915e3, Cond.instanceMethod yJx4a65c_get_915e3, Cond.selects RJx4a65c yJx4a65c_get_915e3 yJx4a65c_get_915e3, Cond.code yJx4a65c_get_915e3 cJx4a65c_get_915e3 2 (some (.object "java/lang/Object")), Cond.methodLink RJx4a65c 118 yJ15_checkIndex_7cf53, Cond.static yJ15_checkIndex_7cf53, Cond.initialized RJ15, Cond.code yJ15_checkIndex_7cf53 cJ15_checkIndex_7cf53 2 (some .int), Cond.methodLink RJ15 105 yJ3_checkIndex_8e157, Cond.static yJ3_checkIndex_8e157, Cond.initialized RJ3, Cond.code yJ3_checkIndex_8e157 cJ3_checkIndex_8e157 3 (some .int), Cond.methodLink RJx4a65c 123 yJx4a65c_elementData_915e3, Cond.instanceMethod yJx4a65c_elementData_915e3]
def wsL_law0_r7 : List Cond := [Cond.selects RJx4a65c yJx4a65c_elementData_915e3 yJx4a65c_elementData_915e3, Cond.code yJx4a65c_elementData_915e3 cJx4a65c_elementData_915e3 2 (some (.object "java/lang/Object")), Cond.methodLink RX9 69 yX9_needState, Cond.static yX9_needState, Cond.code yX9_needState cX9_needState 1 none, Cond.classLink RX9 292 "java/lang/IllegalStateException", Cond.initialized "java/lang/IllegalStateException", Cond.methodLink RL 57 yX9_addSeries, Cond.instanceMethod yX9_addSeries, Cond.selects RX9 yX9_addSeries yX9_addSeries, Cond.code yX9_addSeries cX9_addSeries 4 (some .int), Cond.fieldLink RX9 59 "MeridianSeries$Store" "chains" "Ljava/util/ArrayList;", Cond.classLink RX9 72 RX6, Cond.instantiable RX6 5, Cond.initialized RX6, Cond.methodLink RX9 63 yJx4a65c_size_8abf5, Cond.methodLink RX9 74 yX6_init, Cond.instanceMethod yX6_init, Cond.code yX6_init cX6_init 3 none, Cond.methodLink RX6 3 objectInit, Cond.classLink RX6 9 RX4, Cond.instantiable RX4 7, Cond.initialized RX4, Cond.fieldLink RX6 12 "MeridianSeries$Series" "points" "LMeridianSeries$Points;"]
def wsL_law0_r8 : List Cond := [Cond.classLink RX6 18 RX0, Cond.instantiable RX0 2, Cond.initialized RX0, Cond.fieldLink RX6 21 "MeridianSeries$Series" "fine" "LMeridianSeries$Buckets;", Cond.fieldLink RX6 25 "MeridianSeries$Series" "coarse" "LMeridianSeries$Buckets;", Cond.fieldLink RX6 28 "MeridianSeries$Series" "one" "I", Cond.fieldLink RX6 32 "MeridianSeries$Series" "other" "I", Cond.instanceMethod yX4_init, Cond.code yX4_init cX4_init 1 none, Cond.fieldLink RX4 11 "MeridianSeries$Points" "times" "[I", Cond.fieldLink RX4 15 "MeridianSeries$Points" "values" "[I", Cond.fieldLink RX4 18 "MeridianSeries$Points" "sizes" "[I", Cond.fieldLink RX4 21 "MeridianSeries$Points" "sealedBlocks" "I", Cond.fieldLink RX4 25 "MeridianSeries$Points" "sealedPoints" "I", Cond.fieldLink RX4 28 "MeridianSeries$Points" "greatestSealedTime" "I", Cond.instanceMethod yX2_init, Cond.initialized RX2, Cond.code yX2_init cX2_init 1 none, Cond.methodLink RX2 1 objectInit, Cond.fieldLink RX2 7 "MeridianSeries$Items" "amount" "I", Cond.instanceMethod yX0_init, Cond.code yX0_init cX0_init 1 none, Cond.fieldLink RX0 11 "MeridianSeries$Buckets" "cells" "[I", Cond.methodLink RX9 77 yJx4a65c_add_9ea2d]
def wsL_law0_r9 : List Cond := [Cond.instanceMethod yJx4a65c_add_9ea2d, Cond.selects RJx4a65c yJx4a65c_add_9ea2d yJx4a65c_add_9ea2d, Cond.code yJx4a65c_add_9ea2d cJx4a65c_add_9ea2d 2 (some .boolean), Cond.fieldLink RJx4a65c 63 "java/util/ArrayList" "modCount" "I", Cond.sameField "java/util/ArrayList" "java/util/AbstractList" "modCount" "I", Cond.methodLink RJx4a65c 131 yJx4a65c_add_72be8, Cond.instanceMethod yJx4a65c_add_72be8, Cond.selects RJx4a65c yJx4a65c_add_72be8 yJx4a65c_add_72be8, Cond.code yJx4a65c_add_72be8 cJx4a65c_add_72be8 4 none, Cond.methodLink RJx4a65c 129 yJx4a65c_grow_d5877, Cond.instanceMethod yJx4a65c_grow_d5877, Cond.selects RJx4a65c yJx4a65c_grow_d5877 yJx4a65c_grow_d5877, Cond.code yJx4a65c_grow_d5877 cJx4a65c_grow_d5877 1 (some (.array (.object "java/lang/Object"))), Cond.methodLink RJx4a65c 69 yJx4a65c_grow_92f84, Cond.instanceMethod yJx4a65c_grow_92f84, Cond.selects RJx4a65c yJx4a65c_grow_92f84 yJx4a65c_grow_92f84, Cond.code yJx4a65c_grow_92f84 cJx4a65c_grow_92f84 4 (some (.array (.object "java/lang/Object"))), Cond.methodLink RJx4a65c 79 Lib.Math.max.name, Cond.classLink RJx4a65c 7 "java/lang/Object", Cond.methodLink RJx4a65c 73 yJ8_newLength_cabcc, Cond.static yJ8_newLength_cabcc, Cond.initialized RJ8, Cond.code yJ8_newLength_cabcc cJ8_newLength_cabcc 4 (some .int), Cond.methodLink RJ8 194 Lib.Math.max.name]
def wsL_law0_r10 : List Cond := [Cond.constant RJ8 200 (2147483639), Cond.methodLink RJ8 201 yJ8_hugeLength_7cf53, Cond.static yJ8_hugeLength_7cf53, Cond.code yJ8_hugeLength_7cf53 cJ8_hugeLength_7cf53 3 (some .int), Cond.methodLink RJx4a65c 66 yJ7_copyOf_1904c, Cond.static yJ7_copyOf_1904c, Cond.initialized RJ7, Cond.code yJ7_copyOf_1904c cJ7_copyOf_1904c 2 (some (.array (.object "java/lang/Object"))), Cond.methodLink RJ7 86 ⟨"java/lang/Object", "getClass", "()Ljava/lang/Class;"⟩, Cond.selects "[Ljava/lang/Object;" ⟨"java/lang/Object", "getClass", "()Ljava/lang/Class;"⟩ ⟨"java/lang/Object", "getClass", "()Ljava/lang/Class;"⟩, Cond.instanceMethod ⟨"java/lang/Object", "getClass", "()Ljava/lang/Class;"⟩, Cond.native ⟨"java/lang/Object", "getClass", "()Ljava/lang/Class;"⟩, Cond.methodLink RJ7 300 yJ7_copyOf_6403c, Cond.static yJ7_copyOf_6403c, Cond.code yJ7_copyOf_6403c cJ7_copyOf_6403c 4 (some (.array (.object "java/lang/Object"))), Cond.classLink RJ7 110 "[Ljava/lang/Object;", Cond.classLink RJ7 2 "java/lang/Object", Cond.methodLink RJ7 304 Lib.Math.min.name, Cond.methodLink RJ7 150 arraycopyName, Cond.native arraycopyName, Cond.static arraycopyName, Cond.initialized "java/lang/System", Cond.methodLink RL 60 yX9_addRule, Cond.instanceMethod yX9_addRule]
def wsL_law0_r11 : List Cond := [Cond.selects RX9 yX9_addRule yX9_addRule, Cond.code yX9_addRule cX9_addRule 11 (some .int), Cond.constant RX9 200 (-1000000), Cond.constant RX9 215 (1000000), Cond.fieldLink RX9 216 "MeridianSeries$Store" "rules" "Ljava/util/ArrayList;", Cond.classLink RX9 219 RX5, Cond.instantiable RX5 9, Cond.initialized RX5, Cond.classLink RX9 72 "MeridianSeries$Series", Cond.methodLink RX9 101 yX9_chainAt, Cond.instanceMethod yX9_chainAt, Cond.selects RX9 yX9_chainAt yX9_chainAt, Cond.code yX9_chainAt cX9_chainAt 2 (some (.object "MeridianSeries$Series")), Cond.classLink RX9 287 "java/lang/IndexOutOfBoundsException", Cond.initialized "java/lang/IndexOutOfBoundsException", Cond.methodLink RX9 187 yJx4a65c_get_915e3, Cond.methodLink RX9 221 yX5_init, Cond.instanceMethod yX5_init, Cond.code yX5_init cX5_init 8 none, Cond.methodLink RX5 3 objectInit, Cond.fieldLink RX5 9 "MeridianSeries$Rule" "state" "I", Cond.fieldLink RX5 15 "MeridianSeries$Rule" "timesInRow" "I", Cond.fieldLink RX5 18 "MeridianSeries$Rule" "chain" "LMeridianSeries$Series;", Cond.fieldLink RX5 22 "MeridianSeries$Rule" "what" "I"]
def wsL_law0_r12 : List Cond := [Cond.fieldLink RX5 25 "MeridianSeries$Rule" "length" "I", Cond.fieldLink RX5 28 "MeridianSeries$Rule" "every" "I", Cond.fieldLink RX5 31 "MeridianSeries$Rule" "isAbove" "Z", Cond.fieldLink RX5 35 "MeridianSeries$Rule" "limit" "I", Cond.fieldLink RX5 38 "MeridianSeries$Rule" "times" "I", Cond.methodLink RL 30 yX9_now, Cond.instanceMethod yX9_now, Cond.selects RX9 yX9_now yX9_now, Cond.code yX9_now cX9_now 1 (some .int), Cond.fieldLink RX9 141 "MeridianSeries$Store" "now" "I", Cond.methodLink RL 69 yX9_bitsWith, Cond.instanceMethod yX9_bitsWith, Cond.selects RX9 yX9_bitsWith yX9_bitsWith, Cond.code yX9_bitsWith cX9_bitsWith 5 (some .int), Cond.fieldLink RX9 116 "MeridianSeries$Series" "points" "LMeridianSeries$Points;", Cond.methodLink RX9 105 yX9_isTimeUpToNow, Cond.instanceMethod yX9_isTimeUpToNow, Cond.selects RX9 yX9_isTimeUpToNow yX9_isTimeUpToNow, Cond.code yX9_isTimeUpToNow cX9_isTimeUpToNow 3 (some .boolean), Cond.methodLink RX9 109 yX9_isValue, Cond.static yX9_isValue, Cond.code yX9_isValue cX9_isValue 2 (some .boolean), Cond.constant RX9 278 (-100000), Cond.constant RX9 279 (100000)]
def wsL_law0_r13 : List Cond := [Cond.methodLink RX9 238 yX4_isLate, Cond.instanceMethod yX4_isLate, Cond.selects RX4 yX4_isLate yX4_isLate, Cond.code yX4_isLate cX4_isLate 2 (some .boolean), Cond.methodLink RX9 241 yX3_packOpenWith, Cond.instanceMethod yX3_packOpenWith, Cond.selects RX3 yX3_packOpenWith yX3_packOpenWith, Cond.code yX3_packOpenWith cX3_packOpenWith 7 (some .int), Cond.fieldLink RX3 66 "MeridianSeries$Points" "sealedPoints" "I", Cond.fieldLink RX3 69 "MeridianSeries$Points" "amount" "I", Cond.sameField "MeridianSeries$Points" "MeridianSeries$Items" "amount" "I", Cond.methodLink RX3 55 yX4_placeOf, Cond.instanceMethod yX4_placeOf, Cond.selects RX4 yX4_placeOf yX4_placeOf, Cond.code yX4_placeOf cX4_placeOf 3 (some .int), Cond.fieldLink RX4 31 "MeridianSeries$Points" "amount" "I", Cond.methodLink RX4 42 yX4_number, Cond.instanceMethod yX4_number, Cond.selects RX4 yX4_number yX4_number, Cond.code yX4_number cX4_number 3 (some .int), Cond.methodLink RX3 58 yX4_isTakenAt, Cond.instanceMethod yX4_isTakenAt, Cond.selects RX4 yX4_isTakenAt yX4_isTakenAt, Cond.code yX4_isTakenAt cX4_isTakenAt 3 (some .boolean)]
def wsL_law0_r14 : List Cond := [Cond.methodLink RX3 62 yX4_openSize, Cond.instanceMethod yX4_openSize, Cond.selects RX4 yX4_openSize yX4_openSize, Cond.code yX4_openSize cX4_openSize 1 (some .int), Cond.methodLink RX3 43 yX3_begin, Cond.instanceMethod yX3_begin, Cond.selects RX3 yX3_begin yX3_begin, Cond.code yX3_begin cX3_begin 2 none, Cond.methodLink RX3 72 yJ7_fill_53178, Cond.static yJ7_fill_53178, Cond.code yJ7_fill_53178 cJ7_fill_53178 4 none, Cond.methodLink RX3 78 yX3_write, Cond.instanceMethod yX3_write, Cond.selects RX3 yX3_write yX3_write, Cond.code yX3_write cX3_write 5 none, Cond.methodLink RX3 47 yX4_number, Cond.methodLink RX3 51 yX3_add, Cond.instanceMethod yX3_add, Cond.selects RX3 yX3_add yX3_add, Cond.code yX3_add cX3_add 4 none, Cond.constant RX3 81 (1048576), Cond.methodLink RX3 82 yX3_addTime, Cond.instanceMethod yX3_addTime, Cond.selects RX3 yX3_addTime yX3_addTime]
def wsL_law0_r15 : List Cond := [Cond.code yX3_addTime cX3_addTime 2 none, Cond.methodLink RX3 85 yX3_addValue, Cond.instanceMethod yX3_addValue, Cond.selects RX3 yX3_addValue yX3_addValue, Cond.code yX3_addValue cX3_addValue 2 none, Cond.constant RX3 92 (262144), Cond.methodLink RL 9 yX9_blocks, Cond.instanceMethod yX9_blocks, Cond.selects RX9 yX9_blocks yX9_blocks, Cond.code yX9_blocks cX9_blocks 2 (some .int), Cond.methodLink RX9 144 yX4_blockCount, Cond.instanceMethod yX4_blockCount, Cond.selects RX4 yX4_blockCount yX4_blockCount, Cond.code yX4_blockCount cX4_blockCount 1 (some .int), Cond.methodLink RL 73 yX9_late, Cond.instanceMethod yX9_late, Cond.selects RX9 yX9_late yX9_late, Cond.code yX9_late cX9_late 1 (some .int), Cond.methodLink RL 76 yX9_put, Cond.instanceMethod yX9_put, Cond.selects RX9 yX9_put yX9_put, Cond.code yX9_put cX9_put 5 (some .int), Cond.methodLink RX9 112 yX9_putOrCountLate, Cond.instanceMethod yX9_putOrCountLate]
def wsL_law0_r16 : List Cond := [Cond.selects RX9 yX9_putOrCountLate yX9_putOrCountLate, Cond.code yX9_putOrCountLate cX9_putOrCountLate 4 (some .boolean), Cond.methodLink RX9 301 yX6_take, Cond.instanceMethod yX6_take, Cond.selects RX6 yX6_take yX6_take, Cond.code yX6_take cX6_take 4 none, Cond.fieldLink RX6 43 "MeridianSeries$Settings" "span" "I", Cond.methodLink RX6 35 yX4_add, Cond.instanceMethod yX4_add, Cond.selects RX4 yX4_add yX4_add, Cond.code yX4_add cX4_add 5 none, Cond.methodLink RX4 46 yX4_placeOf, Cond.methodLink RX4 49 yX4_isTakenAt, Cond.methodLink RX4 53 yX4_copyPoint, Cond.instanceMethod yX4_copyPoint, Cond.selects RX4 yX4_copyPoint yX4_copyPoint, Cond.code yX4_copyPoint cX4_copyPoint 3 none, Cond.methodLink RX4 57 yX4_write, Cond.instanceMethod yX4_write, Cond.selects RX4 yX4_write yX4_write, Cond.code yX4_write cX4_write 4 none, Cond.methodLink RX6 39 yX4_openSize, Cond.methodLink RX6 48 yX4_seal, Cond.instanceMethod yX4_seal]
def wsL_law0_r17 : List Cond := [Cond.selects RX4 yX4_seal yX4_seal, Cond.code yX4_seal cX4_seal 1 none, Cond.methodLink RX4 34 yX4_openSize, Cond.methodLink RX6 51 yX4_hasTooManySealed, Cond.instanceMethod yX4_hasTooManySealed, Cond.selects RX4 yX4_hasTooManySealed yX4_hasTooManySealed, Cond.code yX4_hasTooManySealed cX4_hasTooManySealed 1 (some .boolean), Cond.methodLink RX6 55 yX6_rollUpFirstBlock, Cond.instanceMethod yX6_rollUpFirstBlock, Cond.selects RX6 yX6_rollUpFirstBlock yX6_rollUpFirstBlock, Cond.code yX6_rollUpFirstBlock cX6_rollUpFirstBlock 4 none, Cond.fieldLink RX6 69 "MeridianSeries$Settings" "width" "I", Cond.methodLink RX6 85 yX4_sizeOf, Cond.instanceMethod yX4_sizeOf, Cond.selects RX4 yX4_sizeOf yX4_sizeOf, Cond.code yX4_sizeOf cX4_sizeOf 2 (some .int), Cond.methodLink RX6 88 yX4_number, Cond.methodLink RX6 89 yX6_startFor, Cond.static yX6_startFor, Cond.code yX6_startFor cX6_startFor 2 (some .int), Cond.methodLink RX6 92 yX0_take, Cond.instanceMethod yX0_take, Cond.selects RX0 yX0_take yX0_take, Cond.code yX0_take cX0_take 6 none]
def wsL_law0_r18 : List Cond := [Cond.fieldLink RX0 15 "MeridianSeries$Buckets" "amount" "I", Cond.methodLink RX0 28 Lib.Math.min.name, Cond.methodLink RX0 33 Lib.Math.max.name, Cond.methodLink RX0 19 yX0_number, Cond.instanceMethod yX0_number, Cond.selects RX0 yX0_number yX0_number, Cond.code yX0_number cX0_number 4 (some .int), Cond.methodLink RX0 23 ⟨"MeridianSeries$Items", "number", "(II)I"⟩, Cond.sameMethod "MeridianSeries$Items" "MeridianSeries$Items" "number" "(II)I", Cond.selects RX0 ⟨"MeridianSeries$Items", "number", "(II)I"⟩ yX0_number, Cond.selects RX4 ⟨"MeridianSeries$Items", "number", "(II)I"⟩ yX4_number, Cond.methodLink RX0 24 yX0_write, Cond.instanceMethod yX0_write, Cond.selects RX0 yX0_write yX0_write, Cond.code yX0_write cX0_write 5 none, Cond.methodLink RX6 96 yX0_isFull, Cond.instanceMethod yX0_isFull, Cond.selects RX0 yX0_isFull yX0_isFull, Cond.code yX0_isFull cX0_isFull 1 (some .boolean), Cond.methodLink RX6 76 yX6_rollUpFirstFine, Cond.instanceMethod yX6_rollUpFirstFine, Cond.selects RX6 yX6_rollUpFirstFine yX6_rollUpFirstFine, Cond.code yX6_rollUpFirstFine cX6_rollUpFirstFine 3 none, Cond.fieldLink RX6 102 "MeridianSeries$Settings" "fold" "I"]
def wsL_law0_r19 : List Cond := [Cond.methodLink RX6 82 yX0_number, Cond.methodLink RX6 105 yX0_dropFirst, Cond.instanceMethod yX0_dropFirst, Cond.selects RX0 yX0_dropFirst yX0_dropFirst, Cond.code yX0_dropFirst cX0_dropFirst 2 none, Cond.methodLink RX6 99 yX4_dropFirstBlock, Cond.instanceMethod yX4_dropFirstBlock, Cond.selects RX4 yX4_dropFirstBlock yX4_dropFirstBlock, Cond.code yX4_dropFirstBlock cX4_dropFirstBlock 3 none, Cond.methodLink RX4 38 yX4_sizeOf, Cond.methodLink RX9 120 yX4_openSize, Cond.methodLink RL 23 yX9_bits, Cond.instanceMethod yX9_bits, Cond.selects RX9 yX9_bits yX9_bits, Cond.code yX9_bits cX9_bits 4 (some .int), Cond.fieldLink RX9 147 "MeridianSeries$Points" "sealedBlocks" "I", Cond.methodLink RX9 150 yX9_needIndex, Cond.static yX9_needIndex, Cond.code yX9_needIndex cX9_needIndex 1 none, Cond.methodLink RX9 164 yX3_pack, Cond.instanceMethod yX3_pack, Cond.selects RX3 yX3_pack yX3_pack, Cond.code yX3_pack cX3_pack 6 (some .int), Cond.fieldLink RX3 31 "MeridianSeries$Points" "sealedBlocks" "I"]
def wsL_law0_r20 : List Cond := [Cond.methodLink RX3 36 yX4_startOf, Cond.instanceMethod yX4_startOf, Cond.selects RX4 yX4_startOf yX4_startOf, Cond.code yX4_startOf cX4_startOf 4 (some .int), Cond.methodLink RX3 40 yX4_sizeOf, Cond.methodLink RL 79 yX9_setKeep, Cond.instanceMethod yX9_setKeep, Cond.selects RX9 yX9_setKeep yX9_setKeep, Cond.code yX9_setKeep cX9_setKeep 4 (some .int), Cond.fieldLink RX9 94 "MeridianSeries$Settings" "keep" "I", Cond.fieldLink RX9 97 "MeridianSeries$Settings" "longKeep" "I", Cond.methodLink RL 82 yX9_wouldRoll, Cond.instanceMethod yX9_wouldRoll, Cond.selects RX9 yX9_wouldRoll yX9_wouldRoll, Cond.code yX9_wouldRoll cX9_wouldRoll 4 (some .int), Cond.constant RX9 100 (99999), Cond.methodLink RX9 252 yX4_blocksBelow, Cond.instanceMethod yX4_blocksBelow, Cond.selects RX4 yX4_blocksBelow yX4_blocksBelow, Cond.code yX4_blocksBelow cX4_blocksBelow 4 (some .int), Cond.methodLink RL 85 yX9_events, Cond.instanceMethod yX9_events, Cond.selects RX9 yX9_events yX9_events, Cond.code yX9_events cX9_events 1 (some .int)]
def wsL_law0_r21 : List Cond := [Cond.fieldLink RX9 129 "MeridianSeries$Store" "log" "LMeridianSeries$EventLog;", Cond.fieldLink RX9 133 "MeridianSeries$EventLog" "total" "I", Cond.methodLink RL 88 yX9_firesIn, Cond.instanceMethod yX9_firesIn, Cond.selects RX9 yX9_firesIn yX9_firesIn, Cond.code yX9_firesIn cX9_firesIn 4 (some .int), Cond.fieldLink RX9 249 "MeridianSeries$EventLog" "firings" "I", Cond.methodLink RX9 125 yX9_canGoOn, Cond.instanceMethod yX9_canGoOn, Cond.selects RX9 yX9_canGoOn yX9_canGoOn, Cond.code yX9_canGoOn cX9_canGoOn 2 (some .boolean), Cond.methodLink RX9 245 yX8_copyFrom, Cond.instanceMethod yX8_copyFrom, Cond.selects RX8 yX8_copyFrom yX8_copyFrom, Cond.code yX8_copyFrom cX8_copyFrom 3 none, Cond.classLink RX8 60 "MeridianSeries$Rule", Cond.methodLink RX8 80 yX6_copyFrom, Cond.instanceMethod yX6_copyFrom, Cond.selects RX6 yX6_copyFrom yX6_copyFrom, Cond.code yX6_copyFrom cX6_copyFrom 2 none, Cond.methodLink RX6 146 yX4_copyFrom, Cond.instanceMethod yX4_copyFrom, Cond.selects RX4 yX4_copyFrom yX4_copyFrom, Cond.code yX4_copyFrom cX4_copyFrom 3 none]
def wsL_law0_r22 : List Cond := [Cond.methodLink RX6 150 yX0_copyFrom, Cond.instanceMethod yX0_copyFrom, Cond.selects RX0 yX0_copyFrom yX0_copyFrom, Cond.code yX0_copyFrom cX0_copyFrom 4 none, Cond.methodLink RX8 84 yX5_copyFrom, Cond.instanceMethod yX5_copyFrom, Cond.selects RX5 yX5_copyFrom yX5_copyFrom, Cond.code yX5_copyFrom cX5_copyFrom 2 none, Cond.methodLink RX9 138 yX8_goOnByOne, Cond.instanceMethod yX8_goOnByOne, Cond.selects RX8 yX8_goOnByOne yX8_goOnByOne, Cond.code yX8_goOnByOne cX8_goOnByOne 3 none, Cond.fieldLink RX8 73 "MeridianSeries$Rule" "state" "I", Cond.methodLink RX8 56 yX6_rollUpBy, Cond.instanceMethod yX6_rollUpBy, Cond.selects RX6 yX6_rollUpBy yX6_rollUpBy, Cond.code yX6_rollUpBy cX6_rollUpBy 7 none, Cond.fieldLink RX6 59 "MeridianSeries$Settings" "keep" "I", Cond.fieldLink RX6 66 "MeridianSeries$Settings" "longKeep" "I", Cond.methodLink RX6 62 yX4_blocksBelow, Cond.methodLink RX6 72 yX6_fineEndingBy, Cond.instanceMethod yX6_fineEndingBy, Cond.selects RX6 yX6_fineEndingBy yX6_fineEndingBy, Cond.code yX6_fineEndingBy cX6_fineEndingBy 4 (some .int)]
def wsL_law0_r23 : List Cond := [Cond.fieldLink RX6 79 "MeridianSeries$Buckets" "amount" "I", Cond.methodLink RX8 62 yX5_isDueAt, Cond.instanceMethod yX5_isDueAt, Cond.selects RX5 yX5_isDueAt yX5_isDueAt, Cond.code yX5_isDueAt cX5_isDueAt 2 (some .boolean), Cond.methodLink RX8 66 yX5_told, Cond.instanceMethod yX5_told, Cond.selects RX5 yX5_told yX5_told, Cond.code yX5_told cX5_told 2 (some .int), Cond.methodLink RX5 41 yX6_tell, Cond.instanceMethod yX6_tell, Cond.selects RX6 yX6_tell yX6_tell, Cond.code yX6_tell cX6_tell 7 (some .int), Cond.methodLink RX6 115 yX6_firstItemFrom, Cond.instanceMethod yX6_firstItemFrom, Cond.selects RX6 yX6_firstItemFrom yX6_firstItemFrom, Cond.code yX6_firstItemFrom cX6_firstItemFrom 6 (some .int), Cond.methodLink RX6 109 yX6_itemCount, Cond.instanceMethod yX6_itemCount, Cond.selects RX6 yX6_itemCount yX6_itemCount, Cond.code yX6_itemCount cX6_itemCount 1 (some .int), Cond.fieldLink RX6 108 "MeridianSeries$Points" "amount" "I", Cond.methodLink RX6 112 yX6_ofItem, Cond.instanceMethod yX6_ofItem]
def wsL_law0_r24 : List Cond := [Cond.selects RX6 yX6_ofItem yX6_ofItem, Cond.code yX6_ofItem cX6_ofItem 4 (some .int), Cond.methodLink RX6 118 yX6_toldOfGap, Cond.instanceMethod yX6_toldOfGap, Cond.selects RX6 yX6_toldOfGap yX6_toldOfGap, Cond.code yX6_toldOfGap cX6_toldOfGap 5 (some .int), Cond.constant RX6 134 (-1000000), Cond.methodLink RX6 135 yX6_onLine, Cond.instanceMethod yX6_onLine, Cond.selects RX6 yX6_onLine yX6_onLine, Cond.code yX6_onLine cX6_onLine 9 (some .int), Cond.methodLink RX6 122 yX6_total, Cond.instanceMethod yX6_total, Cond.selects RX6 yX6_total yX6_total, Cond.code yX6_total cX6_total 6 (some .int), Cond.methodLink RX6 125 yX6_least, Cond.instanceMethod yX6_least, Cond.selects RX6 yX6_least yX6_least, Cond.code yX6_least cX6_least 5 (some .int), Cond.methodLink RX6 138 Lib.Math.min.name, Cond.methodLink RX6 128 yX6_greatest, Cond.instanceMethod yX6_greatest, Cond.selects RX6 yX6_greatest yX6_greatest, Cond.code yX6_greatest cX6_greatest 5 (some .int)]
def wsL_law0_r25 : List Cond := [Cond.methodLink RX6 143 Lib.Math.max.name, Cond.methodLink RX6 131 yX6_quotient, Cond.static yX6_quotient, Cond.code yX6_quotient cX6_quotient 2 (some .int), Cond.methodLink RX8 70 yX5_changesBy, Cond.instanceMethod yX5_changesBy, Cond.selects RX5 yX5_changesBy yX5_changesBy, Cond.code yX5_changesBy cX5_changesBy 3 (some .boolean), Cond.constant RX5 47 (-1000000), Cond.methodLink RX5 48 yX5_ceases, Cond.instanceMethod yX5_ceases, Cond.selects RX5 yX5_ceases yX5_ceases, Cond.code yX5_ceases cX5_ceases 2 (some .boolean), Cond.methodLink RX5 55 yX5_become, Cond.instanceMethod yX5_become, Cond.selects RX5 yX5_become yX5_become, Cond.code yX5_become cX5_become 2 none, Cond.methodLink RX5 52 yX5_begins, Cond.instanceMethod yX5_begins, Cond.selects RX5 yX5_begins yX5_begins, Cond.code yX5_begins cX5_begins 2 (some .boolean), Cond.methodLink RX8 76 yX1_add, Cond.instanceMethod yX1_add, Cond.selects RX1 yX1_add yX1_add]
def wsL_law0_r26 : List Cond := [Cond.code yX1_add cX1_add 5 none, Cond.methodLink RL 91 yX9_goOn, Cond.instanceMethod yX9_goOn, Cond.selects RX9 yX9_goOn yX9_goOn, Cond.code yX9_goOn cX9_goOn 4 (some .int), Cond.methodLink RL 94 yX9_event, Cond.instanceMethod yX9_event, Cond.selects RX9 yX9_event yX9_event, Cond.code yX9_event cX9_event 3 (some .int), Cond.methodLink RX9 237 yX1_number, Cond.instanceMethod yX1_number, Cond.selects RX1 yX1_number yX1_number, Cond.code yX1_number cX1_number 4 (some .int), Cond.methodLink RL 97 yX9_digest, Cond.instanceMethod yX9_digest, Cond.selects RX9 yX9_digest yX9_digest, Cond.code yX9_digest cX9_digest 5 (some .long), Cond.constantLong RX9 255 (58058), Cond.constantLong RX9 257 (31), Cond.fieldLink RX9 263 "MeridianSeries$Series" "fine" "LMeridianSeries$Buckets;", Cond.fieldLink RX9 271 "MeridianSeries$Series" "coarse" "LMeridianSeries$Buckets;", Cond.classLink RX9 219 "MeridianSeries$Rule", Cond.fieldLink RX9 228 "MeridianSeries$Rule" "state" "I", Cond.fieldLink RX9 231 "MeridianSeries$Rule" "timesInRow" "I"]
def wsL_law0_r27 : List Cond := [Cond.methodLink RX9 259 yX9_withBlocks, Cond.instanceMethod yX9_withBlocks, Cond.selects RX9 yX9_withBlocks yX9_withBlocks, Cond.code yX9_withBlocks cX9_withBlocks 10 (some .long), Cond.methodLink RX9 153 yX4_sizeOf, Cond.methodLink RX9 160 yX4_number, Cond.methodLink RX9 267 yX9_withBuckets, Cond.static yX9_withBuckets, Cond.code yX9_withBuckets cX9_withBuckets 7 (some .long), Cond.fieldLink RX9 178 "MeridianSeries$Buckets" "amount" "I", Cond.methodLink RX9 183 yX0_number, Cond.methodLink RX9 274 yX9_withWindows, Cond.instanceMethod yX9_withWindows, Cond.selects RX9 yX9_withWindows yX9_withWindows, Cond.code yX9_withWindows cX9_withWindows 7 (some .long), Cond.methodLink RX9 196 yX9_toldByQuery, Cond.instanceMethod yX9_toldByQuery, Cond.selects RX9 yX9_toldByQuery yX9_toldByQuery, Cond.code yX9_toldByQuery cX9_toldByQuery 4 (some .int), Cond.methodLink RX9 305 yX6_tell, Cond.methodLink RX9 234 yX5_told, Cond.methodLink RL 101 yX9_setQuery, Cond.instanceMethod yX9_setQuery, Cond.selects RX9 yX9_setQuery yX9_setQuery]
def wsL_law0_r28 : List Cond := [Cond.code yX9_setQuery cX9_setQuery 6 (some .int), Cond.methodLink RL 108 yX9_ask, Cond.instanceMethod yX9_ask, Cond.selects RX9 yX9_ask yX9_ask, Cond.code yX9_ask cX9_ask 4 (some .int), Cond.methodLink RL 15 yX9_buckets, Cond.instanceMethod yX9_buckets, Cond.selects RX9 yX9_buckets yX9_buckets, Cond.code yX9_buckets cX9_buckets 3 (some .int), Cond.methodLink RX9 174 yX6_bucketsOf, Cond.instanceMethod yX6_bucketsOf, Cond.selects RX6 yX6_bucketsOf yX6_bucketsOf, Cond.code yX6_bucketsOf cX6_bucketsOf 2 (some (.object "MeridianSeries$Buckets")), Cond.methodLink RL 34 yX9_ofBucket, Cond.instanceMethod yX9_ofBucket, Cond.selects RX9 yX9_ofBucket yX9_ofBucket, Cond.code yX9_ofBucket cX9_ofBucket 6 (some .int), Cond.methodLink RL 19 yX9_size, Cond.instanceMethod yX9_size, Cond.selects RX9 yX9_size yX9_size, Cond.code yX9_size cX9_size 4 (some .int), Cond.methodLink RL 26 yX9_point, Cond.instanceMethod yX9_point, Cond.selects RX9 yX9_point yX9_point]
def wsL_law0_r29 : List Cond := [Cond.code yX9_point cX9_point 6 (some .int), Cond.methodLink RX9 157 yX4_startOf, Cond.methodLink RL 111 yX9_lastAt, Cond.instanceMethod yX9_lastAt, Cond.selects RX9 yX9_lastAt yX9_lastAt, Cond.code yX9_lastAt cX9_lastAt 5 (some .int), Cond.methodLink RX9 209 yX6_firstItemFrom, Cond.methodLink RX9 212 yX6_ofItem, Cond.methodLink RL 114 yL_isSound, Cond.static yL_isSound, Cond.code yL_isSound cL_isSound 10 (some .boolean), Cond.methodLink RL 38 yX9_items, Cond.instanceMethod yX9_items, Cond.selects RX9 yX9_items yX9_items, Cond.code yX9_items cX9_items 2 (some .int), Cond.methodLink RX9 184 yX6_itemCount]
def wsL_law0 : List Cond := (wsL_law0_r1 ++ (wsL_law0_r2 ++ (wsL_law0_r3 ++ (wsL_law0_r4 ++ (wsL_law0_r5 ++ (wsL_law0_r6 ++ (wsL_law0_r7 ++ (wsL_law0_r8 ++ (wsL_law0_r9 ++ (wsL_law0_r10 ++ (wsL_law0_r11 ++ (wsL_law0_r12 ++ (wsL_law0_r13 ++ (wsL_law0_r14 ++ (wsL_law0_r15 ++ (wsL_law0_r16 ++ (wsL_law0_r17 ++ (wsL_law0_r18 ++ (wsL_law0_r19 ++ (wsL_law0_r20 ++ (wsL_law0_r21 ++ (wsL_law0_r22 ++ (wsL_law0_r23 ++ (wsL_law0_r24 ++ (wsL_law0_r25 ++ (wsL_law0_r26 ++ (wsL_law0_r27 ++ (wsL_law0_r28 ++ wsL_law0_r29)))))))))))))))))))))))))))) ++ wsX90 ++ wsX70 ++ wsX80 ++ wsX30 ++ wsJx4a65c0 ++ wsX10 ++ wsX60 ++ wsX00 ++ wsX40 ++ wsX50 ++ ([] : List Cond)
def wsL_law : List Cond := wsL_law0 ++ (vx_atS RX9 284 "java/lang/IllegalArgumentException" ["java/lang/RuntimeException", "java/lang/Exception"]).filter goodWord ++ (vx_atS RX9 296 "java/lang/IllegalStateException" ["java/lang/RuntimeException", "java/lang/Exception"]).filter goodWord ++ (vx_atS RX9 291 "java/lang/IndexOutOfBoundsException" ["java/lang/RuntimeException", "java/lang/Exception"]).filter goodWord
set_option maxRecDepth 20000 in
theorem wsL_law_in0 : ∀ w ∈ wsL_law0, w ∈ lw_tbl := fun w h => (goodIn_p wsL_law0 [423, 456, 60, 63, 68, 100, 106, 109, 112, 132, 171, 946, 942, 465, 226, 229, 469, 473, 301, 478, 481, 484, 488, 304, 223, 325, 331, 334, 374, 405, 409, 413, 417, 420, 427, 430, 450, 831, 506, 837, 732, 885, 527, 530, 540, 889, 552, 556, 560, 572, 776, 779, 783, 788, 793, 798, 740, 744, 736, 502, 536, 544, 548, 564, 568, 576, 581, 585, 589, 593, 597, 601, 610, 616, 620, 625, 629, 766, 751, 770, 761, 493, 920, 651, 873, 896, 639, 900, 904, 908, 912, 916, 643, 647, 655, 660, 664, 668, 672, 676, 680, 684, 689, 693, 697, 702, 706, 710, 716, 720, 724, 728, 635, 877, 881, 925, 931, 934, 938, 820, 497, 816, 803, 807, 811, 748, 757, 825, 950, 954] (by decide +kernel) (by decide +kernel) w h).1
theorem wsL_law_x0 : ∀ w ∈ (vx_atS RX9 284 "java/lang/IllegalArgumentException" ["java/lang/RuntimeException", "java/lang/Exception"]).filter goodWord, w ∈ lw_tbl := by decide +kernel
theorem wsL_law_x1 : ∀ w ∈ (vx_atS RX9 296 "java/lang/IllegalStateException" ["java/lang/RuntimeException", "java/lang/Exception"]).filter goodWord, w ∈ lw_tbl := by decide +kernel
theorem wsL_law_x2 : ∀ w ∈ (vx_atS RX9 291 "java/lang/IndexOutOfBoundsException" ["java/lang/RuntimeException", "java/lang/Exception"]).filter goodWord, w ∈ lw_tbl := by decide +kernel
theorem wsL_law_in : ∀ w ∈ wsL_law, w ∈ lw_tbl := fun w h => (List.mem_append.mp h).elim (fun h => (List.mem_append.mp h).elim (fun h => (List.mem_append.mp h).elim (fun h => wsL_law_in0 w h) (fun h => wsL_law_x0 w h)) (fun h => wsL_law_x1 w h)) (fun h => wsL_law_x2 w h)
theorem inlX0 : ∀ w ∈ wsX00, w ∈ wsL_law := fun _ h => List.mem_append_left _ (List.mem_append_left _ (List.mem_append_left _ (List.mem_append_left _ (List.mem_append_left _ (List.mem_append_left _ (List.mem_append_right _ h))))))
theorem inX0 : ∀ w ∈ wsX00, w ∈ lw_tbl := fun w h => wsL_law_in w (inlX0 w h)
theorem inlX1 : ∀ w ∈ wsX10, w ∈ wsL_law := fun _ h => List.mem_append_left _ (List.mem_append_left _ (List.mem_append_left _ (List.mem_append_left _ (List.mem_append_left _ (List.mem_append_left _ (List.mem_append_left _ (List.mem_append_left _ (List.mem_append_right _ h))))))))
theorem inX1 : ∀ w ∈ wsX10, w ∈ lw_tbl := fun w h => wsL_law_in w (inlX1 w h)
theorem inX2 : ∀ w ∈ wsX20, w ∈ lw_tbl := by decide +kernel
theorem inlX3 : ∀ w ∈ wsX30, w ∈ wsL_law := fun _ h => List.mem_append_left _ (List.mem_append_left _ (List.mem_append_left _ (List.mem_append_left _ (List.mem_append_left _ (List.mem_append_left _ (List.mem_append_left _ (List.mem_append_left _ (List.mem_append_left _ (List.mem_append_left _ (List.mem_append_right _ h))))))))))
theorem inX3 : ∀ w ∈ wsX30, w ∈ lw_tbl := fun w h => wsL_law_in w (inlX3 w h)
theorem inlX4 : ∀ w ∈ wsX40, w ∈ wsL_law := fun _ h => List.mem_append_left _ (List.mem_append_left _ (List.mem_append_left _ (List.mem_append_left _ (List.mem_append_left _ (List.mem_append_right _ h)))))
theorem inX4 : ∀ w ∈ wsX40, w ∈ lw_tbl := fun w h => wsL_law_in w (inlX4 w h)
theorem inlX5 : ∀ w ∈ wsX50, w ∈ wsL_law := fun _ h => List.mem_append_left _ (List.mem_append_left _ (List.mem_append_left _ (List.mem_append_left _ (List.mem_append_right _ h))))
theorem inX5 : ∀ w ∈ wsX50, w ∈ lw_tbl := fun w h => wsL_law_in w (inlX5 w h)
theorem inlX6 : ∀ w ∈ wsX60, w ∈ wsL_law := fun _ h => List.mem_append_left _ (List.mem_append_left _ (List.mem_append_left _ (List.mem_append_left _ (List.mem_append_left _ (List.mem_append_left _ (List.mem_append_left _ (List.mem_append_right _ h)))))))
theorem inX6 : ∀ w ∈ wsX60, w ∈ lw_tbl := fun w h => wsL_law_in w (inlX6 w h)
theorem inlX7 : ∀ w ∈ wsX70, w ∈ wsL_law := fun _ h => List.mem_append_left _ (List.mem_append_left _ (List.mem_append_left _ (List.mem_append_left _ (List.mem_append_left _ (List.mem_append_left _ (List.mem_append_left _ (List.mem_append_left _ (List.mem_append_left _ (List.mem_append_left _ (List.mem_append_left _ (List.mem_append_left _ (List.mem_append_right _ h))))))))))))
theorem inX7 : ∀ w ∈ wsX70, w ∈ lw_tbl := fun w h => wsL_law_in w (inlX7 w h)
theorem inlX8 : ∀ w ∈ wsX80, w ∈ wsL_law := fun _ h => List.mem_append_left _ (List.mem_append_left _ (List.mem_append_left _ (List.mem_append_left _ (List.mem_append_left _ (List.mem_append_left _ (List.mem_append_left _ (List.mem_append_left _ (List.mem_append_left _ (List.mem_append_left _ (List.mem_append_left _ (List.mem_append_right _ h)))))))))))
theorem inX8 : ∀ w ∈ wsX80, w ∈ lw_tbl := fun w h => wsL_law_in w (inlX8 w h)
theorem inlX9 : ∀ w ∈ wsX90, w ∈ wsL_law := fun _ h => List.mem_append_left _ (List.mem_append_left _ (List.mem_append_left _ (List.mem_append_left _ (List.mem_append_left _ (List.mem_append_left _ (List.mem_append_left _ (List.mem_append_left _ (List.mem_append_left _ (List.mem_append_left _ (List.mem_append_left _ (List.mem_append_left _ (List.mem_append_left _ (List.mem_append_right _ h)))))))))))))
theorem inX9 : ∀ w ∈ wsX90, w ∈ lw_tbl := fun w h => wsL_law_in w (inlX9 w h)
theorem inX10 : ∀ w ∈ wsX100, w ∈ lw_tbl := by decide +kernel
theorem inX11 : ∀ w ∈ wsX110, w ∈ lw_tbl := by decide +kernel
theorem inX12 : ∀ w ∈ wsX120, w ∈ lw_tbl := by decide +kernel
theorem inX13 : ∀ w ∈ wsX130, w ∈ lw_tbl := by decide +kernel
theorem inX14 : ∀ w ∈ wsX140, w ∈ lw_tbl := by decide +kernel
theorem inX15 : ∀ w ∈ wsX150, w ∈ lw_tbl := by decide +kernel
theorem inJx145de : ∀ w ∈ wsJx145de0, w ∈ lw_tbl := by decide +kernel
theorem inJx8e188 : ∀ w ∈ wsJx8e1880, w ∈ lw_tbl := by decide +kernel
theorem inJxab1ab : ∀ w ∈ wsJxab1ab0, w ∈ lw_tbl := by decide +kernel
theorem inJ9 : ∀ w ∈ wsJ90, w ∈ lw_tbl := by decide +kernel
theorem inJ0 : ∀ w ∈ wsJ00, w ∈ lw_tbl := by decide +kernel
theorem inJ10 : ∀ w ∈ wsJ100, w ∈ lw_tbl := by decide +kernel
theorem inJxa1e45 : ∀ w ∈ wsJxa1e450, w ∈ lw_tbl := by decide +kernel
theorem inJxc12de : ∀ w ∈ wsJxc12de0, w ∈ lw_tbl := by decide +kernel
theorem inlJx4a65c : ∀ w ∈ wsJx4a65c0, w ∈ wsL_law := fun _ h => List.mem_append_left _ (List.mem_append_left _ (List.mem_append_left _ (List.mem_append_left _ (List.mem_append_left _ (List.mem_append_left _ (List.mem_append_left _ (List.mem_append_left _ (List.mem_append_left _ (List.mem_append_right _ h)))))))))
theorem inJx4a65c : ∀ w ∈ wsJx4a65c0, w ∈ lw_tbl := fun w h => wsL_law_in w (inlJx4a65c w h)
theorem inJ7 : ∀ w ∈ wsJ70, w ∈ lw_tbl := by decide +kernel
theorem inJx5ef63 : ∀ w ∈ wsJx5ef630, w ∈ lw_tbl := by decide +kernel
theorem inJxbd725 : ∀ w ∈ wsJxbd7250, w ∈ lw_tbl := by decide +kernel
theorem inJ15 : ∀ w ∈ wsJ150, w ∈ lw_tbl := by decide +kernel
theorem inJxf0a74 : ∀ w ∈ wsJxf0a740, w ∈ lw_tbl := by decide +kernel
theorem inJxa66e6 : ∀ w ∈ wsJxa66e60, w ∈ lw_tbl := by decide +kernel
theorem inJ8 : ∀ w ∈ wsJ80, w ∈ lw_tbl := by decide +kernel
theorem inJ3 : ∀ w ∈ wsJ30, w ∈ lw_tbl := by decide +kernel
set_option maxRecDepth 20000 in
theorem ggX0_init_X2_init : GoodIn wsX0_init wsX2_init := goodIn_r _ [5, 6, 7, 8, 9, 10, 11, 12, 13, 14, 15, 16, 17, 18] (by decide +kernel) (by decide +kernel)
set_option maxRecDepth 20000 in
theorem gX0_init_X2_init_n3 : GoodIn wsX0_init (wsX2_init) := ggX0_init_X2_init
theorem dX0_init_0 : decode cX0_init 0 = .ok (.aload_n 0, 1) := by decide +kernel
theorem dX0_init_1 : decode cX0_init 1 = .ok (.invokespecial 3, 3) := by decide +kernel
theorem dX0_init_4 : decode cX0_init 4 = .ok (.aload_n 0, 1) := by decide +kernel
theorem dX0_init_5 : decode cX0_init 5 = .ok (.sipush 175, 3) := by decide +kernel
theorem dX0_init_8 : decode cX0_init 8 = .ok (.newarray .int, 2) := by decide +kernel
theorem dX0_init_10 : decode cX0_init 10 = .ok (.putfield 11, 3) := by decide +kernel
theorem dX0_init_13 : decode cX0_init 13 = .ok (.return_, 1) := by decide +kernel
theorem dX0_number_0 : decode cX0_number 0 = .ok (.iload_n 1, 1) := by decide +kernel
theorem dX0_number_1 : decode cX0_number 1 = .ok (.bipush 7, 2) := by decide +kernel
theorem dX0_number_3 : decode cX0_number 3 = .ok (.imul, 1) := by decide +kernel
theorem dX0_number_4 : decode cX0_number 4 = .ok (.iload_n 2, 1) := by decide +kernel
theorem dX0_number_5 : decode cX0_number 5 = .ok (.iadd, 1) := by decide +kernel
theorem dX0_number_6 : decode cX0_number 6 = .ok (.istore_n 3, 1) := by decide +kernel
theorem dX0_number_7 : decode cX0_number 7 = .ok (.iload_n 3, 1) := by decide +kernel
theorem dX0_number_8 : decode cX0_number 8 = .ok (.ifCond .lt 21, 3) := by decide +kernel
theorem dX0_number_11 : decode cX0_number 11 = .ok (.iload_n 3, 1) := by decide +kernel
theorem dX0_number_12 : decode cX0_number 12 = .ok (.aload_n 0, 1) := by decide +kernel
theorem dX0_number_13 : decode cX0_number 13 = .ok (.getfield 11, 3) := by decide +kernel
theorem dX0_number_16 : decode cX0_number 16 = .ok (.arraylength, 1) := by decide +kernel
theorem dX0_number_17 : decode cX0_number 17 = .ok (.if_icmp .ge 12, 3) := by decide +kernel
theorem dX0_number_20 : decode cX0_number 20 = .ok (.aload_n 0, 1) := by decide +kernel
theorem dX0_number_21 : decode cX0_number 21 = .ok (.getfield 11, 3) := by decide +kernel
theorem dX0_number_24 : decode cX0_number 24 = .ok (.iload_n 3, 1) := by decide +kernel
theorem dX0_number_25 : decode cX0_number 25 = .ok (.iaload, 1) := by decide +kernel
theorem dX0_number_26 : decode cX0_number 26 = .ok (.goto 4, 3) := by decide +kernel
theorem dX0_number_29 : decode cX0_number 29 = .ok (.iconst 0, 1) := by decide +kernel
theorem dX0_number_30 : decode cX0_number 30 = .ok (.ireturn, 1) := by decide +kernel
theorem dX0_isFull_0 : decode cX0_isFull 0 = .ok (.aload_n 0, 1) := by decide +kernel
theorem dX0_isFull_1 : decode cX0_isFull 1 = .ok (.getfield 15, 3) := by decide +kernel
theorem dX0_isFull_4 : decode cX0_isFull 4 = .ok (.bipush 25, 2) := by decide +kernel
theorem dX0_isFull_6 : decode cX0_isFull 6 = .ok (.if_icmp .lt 7, 3) := by decide +kernel
theorem dX0_isFull_9 : decode cX0_isFull 9 = .ok (.iconst 1, 1) := by decide +kernel
theorem dX0_isFull_10 : decode cX0_isFull 10 = .ok (.goto 4, 3) := by decide +kernel
theorem dX0_isFull_13 : decode cX0_isFull 13 = .ok (.iconst 0, 1) := by decide +kernel
theorem dX0_isFull_14 : decode cX0_isFull 14 = .ok (.ireturn, 1) := by decide +kernel
set_option maxRecDepth 20000 in
theorem ggX0_take_X0_number : GoodIn wsX0_take wsX0_number := goodIn_r _ [14, 15, 29, 30] (by decide +kernel) (by decide +kernel)
set_option maxRecDepth 20000 in
theorem gX0_take_X0_number : GoodIn wsX0_take (wsV RX0 19 RX0 yX0_number wsX0_number) := goodIn_app (goodIn_of _ (by decide +kernel)) ggX0_take_X0_number
set_option maxRecDepth 20000 in
theorem gX0_take_X0_number_u23X0 : GoodIn wsX0_take (va_wsU RX0 23 RX0 "MeridianSeries$Items" ⟨"MeridianSeries$Items", "number", "(II)I"⟩ yX0_number wsX0_number) := goodIn_app (goodIn_of _ (by decide +kernel)) ggX0_take_X0_number
set_option maxRecDepth 20000 in
theorem ggX0_take_X4_number : GoodIn wsX0_take wsX4_number := goodIn_r _ [22, 23, 24, 31, 32, 33, 34, 35, 36, 37] (by decide +kernel) (by decide +kernel)
set_option maxRecDepth 20000 in
theorem gX0_take_X4_number_u23X4 : GoodIn wsX0_take (va_wsU RX0 23 RX4 "MeridianSeries$Items" ⟨"MeridianSeries$Items", "number", "(II)I"⟩ yX4_number wsX4_number) := goodIn_app (goodIn_of _ (by decide +kernel)) ggX0_take_X4_number
set_option maxRecDepth 20000 in
theorem ggX0_take_X0_write : GoodIn wsX0_take wsX0_write := goodIn_r _ [28, 15, 29, 30] (by decide +kernel) (by decide +kernel)
set_option maxRecDepth 20000 in
theorem gX0_take_X0_write : GoodIn wsX0_take (wsV RX0 24 RX0 yX0_write wsX0_write) := goodIn_app (goodIn_of _ (by decide +kernel)) ggX0_take_X0_write
theorem dX0_take_0 : decode cX0_take 0 = .ok (.aload_n 0, 1) := by decide +kernel
theorem dX0_take_1 : decode cX0_take 1 = .ok (.getfield 15, 3) := by decide +kernel
theorem dX0_take_4 : decode cX0_take 4 = .ok (.iconst 1, 1) := by decide +kernel
theorem dX0_take_5 : decode cX0_take 5 = .ok (.isub, 1) := by decide +kernel
theorem dX0_take_6 : decode cX0_take 6 = .ok (.istore 4, 2) := by decide +kernel
theorem dX0_take_8 : decode cX0_take 8 = .ok (.iload 4, 2) := by decide +kernel
theorem dX0_take_10 : decode cX0_take 10 = .ok (.ifCond .lt 120, 3) := by decide +kernel
theorem dX0_take_13 : decode cX0_take 13 = .ok (.aload_n 0, 1) := by decide +kernel
theorem dX0_take_14 : decode cX0_take 14 = .ok (.iload 4, 2) := by decide +kernel
theorem dX0_take_16 : decode cX0_take 16 = .ok (.iconst 0, 1) := by decide +kernel
theorem dX0_take_17 : decode cX0_take 17 = .ok (.invokevirtual 19, 3) := by decide +kernel
theorem dX0_take_20 : decode cX0_take 20 = .ok (.iload_n 1, 1) := by decide +kernel
theorem dX0_take_21 : decode cX0_take 21 = .ok (.if_icmp .ne 109, 3) := by decide +kernel
theorem dX0_take_24 : decode cX0_take 24 = .ok (.aload_n 0, 1) := by decide +kernel
theorem dX0_take_25 : decode cX0_take 25 = .ok (.iload 4, 2) := by decide +kernel
theorem dX0_take_27 : decode cX0_take 27 = .ok (.iconst 1, 1) := by decide +kernel
theorem dX0_take_28 : decode cX0_take 28 = .ok (.aload_n 0, 1) := by decide +kernel
theorem dX0_take_29 : decode cX0_take 29 = .ok (.iload 4, 2) := by decide +kernel
theorem dX0_take_31 : decode cX0_take 31 = .ok (.iconst 1, 1) := by decide +kernel
theorem dX0_take_32 : decode cX0_take 32 = .ok (.invokevirtual 19, 3) := by decide +kernel
theorem dX0_take_35 : decode cX0_take 35 = .ok (.aload_n 2, 1) := by decide +kernel
theorem dX0_take_36 : decode cX0_take 36 = .ok (.iload_n 3, 1) := by decide +kernel
theorem dX0_take_37 : decode cX0_take 37 = .ok (.iconst 1, 1) := by decide +kernel
theorem dX0_take_38 : decode cX0_take 38 = .ok (.invokevirtual 23, 3) := by decide +kernel
theorem dX0_take_41 : decode cX0_take 41 = .ok (.iadd, 1) := by decide +kernel
theorem dX0_take_42 : decode cX0_take 42 = .ok (.invokevirtual 24, 3) := by decide +kernel
theorem dX0_take_45 : decode cX0_take 45 = .ok (.aload_n 0, 1) := by decide +kernel
theorem dX0_take_46 : decode cX0_take 46 = .ok (.iload 4, 2) := by decide +kernel
theorem dX0_take_48 : decode cX0_take 48 = .ok (.iconst 2, 1) := by decide +kernel
theorem dX0_take_49 : decode cX0_take 49 = .ok (.aload_n 0, 1) := by decide +kernel
theorem dX0_take_50 : decode cX0_take 50 = .ok (.iload 4, 2) := by decide +kernel
theorem dX0_take_52 : decode cX0_take 52 = .ok (.iconst 2, 1) := by decide +kernel
theorem dX0_take_53 : decode cX0_take 53 = .ok (.invokevirtual 19, 3) := by decide +kernel
theorem dX0_take_56 : decode cX0_take 56 = .ok (.aload_n 2, 1) := by decide +kernel
theorem dX0_take_57 : decode cX0_take 57 = .ok (.iload_n 3, 1) := by decide +kernel
theorem dX0_take_58 : decode cX0_take 58 = .ok (.iconst 2, 1) := by decide +kernel
theorem dX0_take_59 : decode cX0_take 59 = .ok (.invokevirtual 23, 3) := by decide +kernel
theorem dX0_take_62 : decode cX0_take 62 = .ok (.iadd, 1) := by decide +kernel
theorem dX0_take_63 : decode cX0_take 63 = .ok (.invokevirtual 24, 3) := by decide +kernel
theorem dX0_take_66 : decode cX0_take 66 = .ok (.aload_n 0, 1) := by decide +kernel
theorem dX0_take_67 : decode cX0_take 67 = .ok (.iload 4, 2) := by decide +kernel
theorem dX0_take_69 : decode cX0_take 69 = .ok (.iconst 3, 1) := by decide +kernel
theorem dX0_take_70 : decode cX0_take 70 = .ok (.aload_n 0, 1) := by decide +kernel
theorem dX0_take_71 : decode cX0_take 71 = .ok (.iload 4, 2) := by decide +kernel
theorem dX0_take_73 : decode cX0_take 73 = .ok (.iconst 3, 1) := by decide +kernel
theorem dX0_take_74 : decode cX0_take 74 = .ok (.invokevirtual 19, 3) := by decide +kernel
theorem dX0_take_77 : decode cX0_take 77 = .ok (.aload_n 2, 1) := by decide +kernel
theorem dX0_take_78 : decode cX0_take 78 = .ok (.iload_n 3, 1) := by decide +kernel
theorem dX0_take_79 : decode cX0_take 79 = .ok (.iconst 3, 1) := by decide +kernel
theorem dX0_take_80 : decode cX0_take 80 = .ok (.invokevirtual 23, 3) := by decide +kernel
theorem dX0_take_83 : decode cX0_take 83 = .ok (.invokestatic 28, 3) := by decide +kernel
theorem dX0_take_86 : decode cX0_take 86 = .ok (.invokevirtual 24, 3) := by decide +kernel
theorem dX0_take_89 : decode cX0_take 89 = .ok (.aload_n 0, 1) := by decide +kernel
theorem dX0_take_90 : decode cX0_take 90 = .ok (.iload 4, 2) := by decide +kernel
theorem dX0_take_92 : decode cX0_take 92 = .ok (.iconst 4, 1) := by decide +kernel
theorem dX0_take_93 : decode cX0_take 93 = .ok (.aload_n 0, 1) := by decide +kernel
theorem dX0_take_94 : decode cX0_take 94 = .ok (.iload 4, 2) := by decide +kernel
theorem dX0_take_96 : decode cX0_take 96 = .ok (.iconst 4, 1) := by decide +kernel
theorem dX0_take_97 : decode cX0_take 97 = .ok (.invokevirtual 19, 3) := by decide +kernel
theorem dX0_take_100 : decode cX0_take 100 = .ok (.aload_n 2, 1) := by decide +kernel
theorem dX0_take_101 : decode cX0_take 101 = .ok (.iload_n 3, 1) := by decide +kernel
theorem dX0_take_102 : decode cX0_take 102 = .ok (.iconst 4, 1) := by decide +kernel
theorem dX0_take_103 : decode cX0_take 103 = .ok (.invokevirtual 23, 3) := by decide +kernel
theorem dX0_take_106 : decode cX0_take 106 = .ok (.invokestatic 33, 3) := by decide +kernel
theorem dX0_take_109 : decode cX0_take 109 = .ok (.invokevirtual 24, 3) := by decide +kernel
theorem dX0_take_112 : decode cX0_take 112 = .ok (.aload_n 0, 1) := by decide +kernel
theorem dX0_take_113 : decode cX0_take 113 = .ok (.iload 4, 2) := by decide +kernel
theorem dX0_take_115 : decode cX0_take 115 = .ok (.bipush 6, 2) := by decide +kernel
theorem dX0_take_117 : decode cX0_take 117 = .ok (.aload_n 2, 1) := by decide +kernel
theorem dX0_take_118 : decode cX0_take 118 = .ok (.iload_n 3, 1) := by decide +kernel
theorem dX0_take_119 : decode cX0_take 119 = .ok (.bipush 6, 2) := by decide +kernel
theorem dX0_take_121 : decode cX0_take 121 = .ok (.invokevirtual 23, 3) := by decide +kernel
theorem dX0_take_124 : decode cX0_take 124 = .ok (.invokevirtual 24, 3) := by decide +kernel
theorem dX0_take_127 : decode cX0_take 127 = .ok (.goto 65, 3) := by decide +kernel
theorem dX0_take_130 : decode cX0_take 130 = .ok (.aload_n 0, 1) := by decide +kernel
theorem dX0_take_131 : decode cX0_take 131 = .ok (.getfield 15, 3) := by decide +kernel
theorem dX0_take_134 : decode cX0_take 134 = .ok (.bipush 25, 2) := by decide +kernel
theorem dX0_take_136 : decode cX0_take 136 = .ok (.if_icmp .ge 56, 3) := by decide +kernel
theorem dX0_take_139 : decode cX0_take 139 = .ok (.aload_n 0, 1) := by decide +kernel
theorem dX0_take_140 : decode cX0_take 140 = .ok (.aload_n 0, 1) := by decide +kernel
theorem dX0_take_141 : decode cX0_take 141 = .ok (.getfield 15, 3) := by decide +kernel
theorem dX0_take_144 : decode cX0_take 144 = .ok (.iconst 0, 1) := by decide +kernel
theorem dX0_take_145 : decode cX0_take 145 = .ok (.iload_n 1, 1) := by decide +kernel
theorem dX0_take_146 : decode cX0_take 146 = .ok (.invokevirtual 24, 3) := by decide +kernel
theorem dX0_take_149 : decode cX0_take 149 = .ok (.iconst 1, 1) := by decide +kernel
theorem dX0_take_150 : decode cX0_take 150 = .ok (.istore 5, 2) := by decide +kernel
theorem dX0_take_152 : decode cX0_take 152 = .ok (.iload 5, 2) := by decide +kernel
theorem dX0_take_154 : decode cX0_take 154 = .ok (.bipush 6, 2) := by decide +kernel
theorem dX0_take_156 : decode cX0_take 156 = .ok (.if_icmp .gt 26, 3) := by decide +kernel
theorem dX0_take_159 : decode cX0_take 159 = .ok (.aload_n 0, 1) := by decide +kernel
theorem dX0_take_160 : decode cX0_take 160 = .ok (.aload_n 0, 1) := by decide +kernel
theorem dX0_take_161 : decode cX0_take 161 = .ok (.getfield 15, 3) := by decide +kernel
theorem dX0_take_164 : decode cX0_take 164 = .ok (.iload 5, 2) := by decide +kernel
theorem dX0_take_166 : decode cX0_take 166 = .ok (.aload_n 2, 1) := by decide +kernel
theorem dX0_take_167 : decode cX0_take 167 = .ok (.iload_n 3, 1) := by decide +kernel
theorem dX0_take_168 : decode cX0_take 168 = .ok (.iload 5, 2) := by decide +kernel
theorem dX0_take_170 : decode cX0_take 170 = .ok (.invokevirtual 23, 3) := by decide +kernel
theorem dX0_take_173 : decode cX0_take 173 = .ok (.invokevirtual 24, 3) := by decide +kernel
theorem dX0_take_176 : decode cX0_take 176 = .ok (.iinc 5 1, 3) := by decide +kernel
theorem dX0_take_179 : decode cX0_take 179 = .ok (.goto (-27), 3) := by decide +kernel
theorem dX0_take_182 : decode cX0_take 182 = .ok (.aload_n 0, 1) := by decide +kernel
theorem dX0_take_183 : decode cX0_take 183 = .ok (.dup, 1) := by decide +kernel
theorem dX0_take_184 : decode cX0_take 184 = .ok (.getfield 15, 3) := by decide +kernel
theorem dX0_take_187 : decode cX0_take 187 = .ok (.iconst 1, 1) := by decide +kernel
theorem dX0_take_188 : decode cX0_take 188 = .ok (.iadd, 1) := by decide +kernel
theorem dX0_take_189 : decode cX0_take 189 = .ok (.putfield 15, 3) := by decide +kernel
theorem dX0_take_192 : decode cX0_take 192 = .ok (.return_, 1) := by decide +kernel
theorem dX0_dropFirst_0 : decode cX0_dropFirst 0 = .ok (.aload_n 0, 1) := by decide +kernel
theorem dX0_dropFirst_1 : decode cX0_dropFirst 1 = .ok (.getfield 15, 3) := by decide +kernel
theorem dX0_dropFirst_4 : decode cX0_dropFirst 4 = .ok (.ifCond .gt 4, 3) := by decide +kernel
theorem dX0_dropFirst_7 : decode cX0_dropFirst 7 = .ok (.return_, 1) := by decide +kernel
theorem dX0_dropFirst_8 : decode cX0_dropFirst 8 = .ok (.bipush 7, 2) := by decide +kernel
theorem dX0_dropFirst_10 : decode cX0_dropFirst 10 = .ok (.istore_n 1, 1) := by decide +kernel
theorem dX0_dropFirst_11 : decode cX0_dropFirst 11 = .ok (.iload_n 1, 1) := by decide +kernel
theorem dX0_dropFirst_12 : decode cX0_dropFirst 12 = .ok (.aload_n 0, 1) := by decide +kernel
theorem dX0_dropFirst_13 : decode cX0_dropFirst 13 = .ok (.getfield 15, 3) := by decide +kernel
theorem dX0_dropFirst_16 : decode cX0_dropFirst 16 = .ok (.bipush 7, 2) := by decide +kernel
theorem dX0_dropFirst_18 : decode cX0_dropFirst 18 = .ok (.imul, 1) := by decide +kernel
theorem dX0_dropFirst_19 : decode cX0_dropFirst 19 = .ok (.if_icmp .ge 33, 3) := by decide +kernel
theorem dX0_dropFirst_22 : decode cX0_dropFirst 22 = .ok (.iload_n 1, 1) := by decide +kernel
theorem dX0_dropFirst_23 : decode cX0_dropFirst 23 = .ok (.aload_n 0, 1) := by decide +kernel
theorem dX0_dropFirst_24 : decode cX0_dropFirst 24 = .ok (.getfield 11, 3) := by decide +kernel
theorem dX0_dropFirst_27 : decode cX0_dropFirst 27 = .ok (.arraylength, 1) := by decide +kernel
theorem dX0_dropFirst_28 : decode cX0_dropFirst 28 = .ok (.if_icmp .ge 24, 3) := by decide +kernel
theorem dX0_dropFirst_31 : decode cX0_dropFirst 31 = .ok (.aload_n 0, 1) := by decide +kernel
theorem dX0_dropFirst_32 : decode cX0_dropFirst 32 = .ok (.getfield 11, 3) := by decide +kernel
theorem dX0_dropFirst_35 : decode cX0_dropFirst 35 = .ok (.iload_n 1, 1) := by decide +kernel
theorem dX0_dropFirst_36 : decode cX0_dropFirst 36 = .ok (.bipush 7, 2) := by decide +kernel
theorem dX0_dropFirst_38 : decode cX0_dropFirst 38 = .ok (.isub, 1) := by decide +kernel
theorem dX0_dropFirst_39 : decode cX0_dropFirst 39 = .ok (.aload_n 0, 1) := by decide +kernel
theorem dX0_dropFirst_40 : decode cX0_dropFirst 40 = .ok (.getfield 11, 3) := by decide +kernel
theorem dX0_dropFirst_43 : decode cX0_dropFirst 43 = .ok (.iload_n 1, 1) := by decide +kernel
theorem dX0_dropFirst_44 : decode cX0_dropFirst 44 = .ok (.iaload, 1) := by decide +kernel
theorem dX0_dropFirst_45 : decode cX0_dropFirst 45 = .ok (.iastore, 1) := by decide +kernel
theorem dX0_dropFirst_46 : decode cX0_dropFirst 46 = .ok (.iinc 1 1, 3) := by decide +kernel
theorem dX0_dropFirst_49 : decode cX0_dropFirst 49 = .ok (.goto (-38), 3) := by decide +kernel
theorem dX0_dropFirst_52 : decode cX0_dropFirst 52 = .ok (.aload_n 0, 1) := by decide +kernel
theorem dX0_dropFirst_53 : decode cX0_dropFirst 53 = .ok (.dup, 1) := by decide +kernel
theorem dX0_dropFirst_54 : decode cX0_dropFirst 54 = .ok (.getfield 15, 3) := by decide +kernel
theorem dX0_dropFirst_57 : decode cX0_dropFirst 57 = .ok (.iconst 1, 1) := by decide +kernel
theorem dX0_dropFirst_58 : decode cX0_dropFirst 58 = .ok (.isub, 1) := by decide +kernel
theorem dX0_dropFirst_59 : decode cX0_dropFirst 59 = .ok (.putfield 15, 3) := by decide +kernel
theorem dX0_dropFirst_62 : decode cX0_dropFirst 62 = .ok (.return_, 1) := by decide +kernel
set_option maxRecDepth 20000 in
theorem ggX0_copyFrom_X0_number : GoodIn wsX0_copyFrom wsX0_number := goodIn_r _ [7, 8, 13, 14] (by decide +kernel) (by decide +kernel)
set_option maxRecDepth 20000 in
theorem gX0_copyFrom_X0_number : GoodIn wsX0_copyFrom (wsV RX0 19 RX0 yX0_number wsX0_number) := goodIn_app (goodIn_of _ (by decide +kernel)) ggX0_copyFrom_X0_number
set_option maxRecDepth 20000 in
theorem ggX0_copyFrom_X0_write : GoodIn wsX0_copyFrom wsX0_write := goodIn_r _ [12, 8, 13, 14] (by decide +kernel) (by decide +kernel)
set_option maxRecDepth 20000 in
theorem gX0_copyFrom_X0_write : GoodIn wsX0_copyFrom (wsV RX0 24 RX0 yX0_write wsX0_write) := goodIn_app (goodIn_of _ (by decide +kernel)) ggX0_copyFrom_X0_write
theorem dX0_copyFrom_0 : decode cX0_copyFrom 0 = .ok (.iconst 0, 1) := by decide +kernel
theorem dX0_copyFrom_1 : decode cX0_copyFrom 1 = .ok (.istore_n 2, 1) := by decide +kernel
theorem dX0_copyFrom_2 : decode cX0_copyFrom 2 = .ok (.iload_n 2, 1) := by decide +kernel
theorem dX0_copyFrom_3 : decode cX0_copyFrom 3 = .ok (.aload_n 1, 1) := by decide +kernel
theorem dX0_copyFrom_4 : decode cX0_copyFrom 4 = .ok (.getfield 15, 3) := by decide +kernel
theorem dX0_copyFrom_7 : decode cX0_copyFrom 7 = .ok (.if_icmp .ge 35, 3) := by decide +kernel
theorem dX0_copyFrom_10 : decode cX0_copyFrom 10 = .ok (.iconst 0, 1) := by decide +kernel
theorem dX0_copyFrom_11 : decode cX0_copyFrom 11 = .ok (.istore_n 3, 1) := by decide +kernel
theorem dX0_copyFrom_12 : decode cX0_copyFrom 12 = .ok (.iload_n 3, 1) := by decide +kernel
theorem dX0_copyFrom_13 : decode cX0_copyFrom 13 = .ok (.bipush 6, 2) := by decide +kernel
theorem dX0_copyFrom_15 : decode cX0_copyFrom 15 = .ok (.if_icmp .gt 21, 3) := by decide +kernel
theorem dX0_copyFrom_18 : decode cX0_copyFrom 18 = .ok (.aload_n 0, 1) := by decide +kernel
theorem dX0_copyFrom_19 : decode cX0_copyFrom 19 = .ok (.iload_n 2, 1) := by decide +kernel
theorem dX0_copyFrom_20 : decode cX0_copyFrom 20 = .ok (.iload_n 3, 1) := by decide +kernel
theorem dX0_copyFrom_21 : decode cX0_copyFrom 21 = .ok (.aload_n 1, 1) := by decide +kernel
theorem dX0_copyFrom_22 : decode cX0_copyFrom 22 = .ok (.iload_n 2, 1) := by decide +kernel
theorem dX0_copyFrom_23 : decode cX0_copyFrom 23 = .ok (.iload_n 3, 1) := by decide +kernel
theorem dX0_copyFrom_24 : decode cX0_copyFrom 24 = .ok (.invokevirtual 19, 3) := by decide +kernel
theorem dX0_copyFrom_27 : decode cX0_copyFrom 27 = .ok (.invokevirtual 24, 3) := by decide +kernel
theorem dX0_copyFrom_30 : decode cX0_copyFrom 30 = .ok (.iinc 3 1, 3) := by decide +kernel
theorem dX0_copyFrom_33 : decode cX0_copyFrom 33 = .ok (.goto (-21), 3) := by decide +kernel
theorem dX0_copyFrom_36 : decode cX0_copyFrom 36 = .ok (.iinc 2 1, 3) := by decide +kernel
theorem dX0_copyFrom_39 : decode cX0_copyFrom 39 = .ok (.goto (-37), 3) := by decide +kernel
theorem dX0_copyFrom_42 : decode cX0_copyFrom 42 = .ok (.aload_n 0, 1) := by decide +kernel
theorem dX0_copyFrom_43 : decode cX0_copyFrom 43 = .ok (.aload_n 1, 1) := by decide +kernel
theorem dX0_copyFrom_44 : decode cX0_copyFrom 44 = .ok (.getfield 15, 3) := by decide +kernel
theorem dX0_copyFrom_47 : decode cX0_copyFrom 47 = .ok (.putfield 15, 3) := by decide +kernel
theorem dX0_copyFrom_50 : decode cX0_copyFrom 50 = .ok (.return_, 1) := by decide +kernel
theorem dX0_write_0 : decode cX0_write 0 = .ok (.iload_n 1, 1) := by decide +kernel
theorem dX0_write_1 : decode cX0_write 1 = .ok (.bipush 7, 2) := by decide +kernel
theorem dX0_write_3 : decode cX0_write 3 = .ok (.imul, 1) := by decide +kernel
theorem dX0_write_4 : decode cX0_write 4 = .ok (.iload_n 2, 1) := by decide +kernel
theorem dX0_write_5 : decode cX0_write 5 = .ok (.iadd, 1) := by decide +kernel
theorem dX0_write_6 : decode cX0_write 6 = .ok (.istore 4, 2) := by decide +kernel
theorem dX0_write_8 : decode cX0_write 8 = .ok (.iload 4, 2) := by decide +kernel
theorem dX0_write_10 : decode cX0_write 10 = .ok (.ifCond .lt 21, 3) := by decide +kernel
theorem dX0_write_13 : decode cX0_write 13 = .ok (.iload 4, 2) := by decide +kernel
theorem dX0_write_15 : decode cX0_write 15 = .ok (.aload_n 0, 1) := by decide +kernel
theorem dX0_write_16 : decode cX0_write 16 = .ok (.getfield 11, 3) := by decide +kernel
theorem dX0_write_19 : decode cX0_write 19 = .ok (.arraylength, 1) := by decide +kernel
theorem dX0_write_20 : decode cX0_write 20 = .ok (.if_icmp .ge 11, 3) := by decide +kernel
theorem dX0_write_23 : decode cX0_write 23 = .ok (.aload_n 0, 1) := by decide +kernel
theorem dX0_write_24 : decode cX0_write 24 = .ok (.getfield 11, 3) := by decide +kernel
theorem dX0_write_27 : decode cX0_write 27 = .ok (.iload 4, 2) := by decide +kernel
theorem dX0_write_29 : decode cX0_write 29 = .ok (.iload_n 3, 1) := by decide +kernel
theorem dX0_write_30 : decode cX0_write 30 = .ok (.iastore, 1) := by decide +kernel
theorem dX0_write_31 : decode cX0_write 31 = .ok (.return_, 1) := by decide +kernel
theorem dX1_init_0 : decode cX1_init 0 = .ok (.aload_n 0, 1) := by decide +kernel
theorem dX1_init_1 : decode cX1_init 1 = .ok (.invokespecial 3, 3) := by decide +kernel
theorem dX1_init_4 : decode cX1_init 4 = .ok (.aload_n 0, 1) := by decide +kernel
theorem dX1_init_5 : decode cX1_init 5 = .ok (.bipush 60, 2) := by decide +kernel
theorem dX1_init_7 : decode cX1_init 7 = .ok (.newarray .int, 2) := by decide +kernel
theorem dX1_init_9 : decode cX1_init 9 = .ok (.putfield 9, 3) := by decide +kernel
theorem dX1_init_12 : decode cX1_init 12 = .ok (.aload_n 0, 1) := by decide +kernel
theorem dX1_init_13 : decode cX1_init 13 = .ok (.iconst 0, 1) := by decide +kernel
theorem dX1_init_14 : decode cX1_init 14 = .ok (.putfield 15, 3) := by decide +kernel
theorem dX1_init_17 : decode cX1_init 17 = .ok (.aload_n 0, 1) := by decide +kernel
theorem dX1_init_18 : decode cX1_init 18 = .ok (.iconst 0, 1) := by decide +kernel
theorem dX1_init_19 : decode cX1_init 19 = .ok (.putfield 19, 3) := by decide +kernel
theorem dX1_init_22 : decode cX1_init 22 = .ok (.return_, 1) := by decide +kernel
theorem dX1_add_0 : decode cX1_add 0 = .ok (.aload_n 0, 1) := by decide +kernel
theorem dX1_add_1 : decode cX1_add 1 = .ok (.getfield 15, 3) := by decide +kernel
theorem dX1_add_4 : decode cX1_add 4 = .ok (.bipush 20, 2) := by decide +kernel
theorem dX1_add_6 : decode cX1_add 6 = .ok (.irem, 1) := by decide +kernel
theorem dX1_add_7 : decode cX1_add 7 = .ok (.iconst 3, 1) := by decide +kernel
theorem dX1_add_8 : decode cX1_add 8 = .ok (.imul, 1) := by decide +kernel
theorem dX1_add_9 : decode cX1_add 9 = .ok (.istore 4, 2) := by decide +kernel
theorem dX1_add_11 : decode cX1_add 11 = .ok (.iload 4, 2) := by decide +kernel
theorem dX1_add_13 : decode cX1_add 13 = .ok (.ifCond .lt 43, 3) := by decide +kernel
theorem dX1_add_16 : decode cX1_add 16 = .ok (.iload 4, 2) := by decide +kernel
theorem dX1_add_18 : decode cX1_add 18 = .ok (.iconst 2, 1) := by decide +kernel
theorem dX1_add_19 : decode cX1_add 19 = .ok (.iadd, 1) := by decide +kernel
theorem dX1_add_20 : decode cX1_add 20 = .ok (.aload_n 0, 1) := by decide +kernel
theorem dX1_add_21 : decode cX1_add 21 = .ok (.getfield 9, 3) := by decide +kernel
theorem dX1_add_24 : decode cX1_add 24 = .ok (.arraylength, 1) := by decide +kernel
theorem dX1_add_25 : decode cX1_add 25 = .ok (.if_icmp .ge 31, 3) := by decide +kernel
theorem dX1_add_28 : decode cX1_add 28 = .ok (.aload_n 0, 1) := by decide +kernel
theorem dX1_add_29 : decode cX1_add 29 = .ok (.getfield 9, 3) := by decide +kernel
theorem dX1_add_32 : decode cX1_add 32 = .ok (.iload 4, 2) := by decide +kernel
theorem dX1_add_34 : decode cX1_add 34 = .ok (.iload_n 1, 1) := by decide +kernel
theorem dX1_add_35 : decode cX1_add 35 = .ok (.iastore, 1) := by decide +kernel
theorem dX1_add_36 : decode cX1_add 36 = .ok (.aload_n 0, 1) := by decide +kernel
theorem dX1_add_37 : decode cX1_add 37 = .ok (.getfield 9, 3) := by decide +kernel
theorem dX1_add_40 : decode cX1_add 40 = .ok (.iload 4, 2) := by decide +kernel
theorem dX1_add_42 : decode cX1_add 42 = .ok (.iconst 1, 1) := by decide +kernel
theorem dX1_add_43 : decode cX1_add 43 = .ok (.iadd, 1) := by decide +kernel
theorem dX1_add_44 : decode cX1_add 44 = .ok (.iload_n 2, 1) := by decide +kernel
theorem dX1_add_45 : decode cX1_add 45 = .ok (.iastore, 1) := by decide +kernel
theorem dX1_add_46 : decode cX1_add 46 = .ok (.aload_n 0, 1) := by decide +kernel
theorem dX1_add_47 : decode cX1_add 47 = .ok (.getfield 9, 3) := by decide +kernel
theorem dX1_add_50 : decode cX1_add 50 = .ok (.iload 4, 2) := by decide +kernel
theorem dX1_add_52 : decode cX1_add 52 = .ok (.iconst 2, 1) := by decide +kernel
theorem dX1_add_53 : decode cX1_add 53 = .ok (.iadd, 1) := by decide +kernel
theorem dX1_add_54 : decode cX1_add 54 = .ok (.iload_n 3, 1) := by decide +kernel
theorem dX1_add_55 : decode cX1_add 55 = .ok (.iastore, 1) := by decide +kernel
theorem dX1_add_56 : decode cX1_add 56 = .ok (.aload_n 0, 1) := by decide +kernel
theorem dX1_add_57 : decode cX1_add 57 = .ok (.dup, 1) := by decide +kernel
theorem dX1_add_58 : decode cX1_add 58 = .ok (.getfield 15, 3) := by decide +kernel
theorem dX1_add_61 : decode cX1_add 61 = .ok (.iconst 1, 1) := by decide +kernel
theorem dX1_add_62 : decode cX1_add 62 = .ok (.iadd, 1) := by decide +kernel
theorem dX1_add_63 : decode cX1_add 63 = .ok (.putfield 15, 3) := by decide +kernel
theorem dX1_add_66 : decode cX1_add 66 = .ok (.iload_n 3, 1) := by decide +kernel
theorem dX1_add_67 : decode cX1_add 67 = .ok (.iconst 2, 1) := by decide +kernel
theorem dX1_add_68 : decode cX1_add 68 = .ok (.if_icmp .ne 13, 3) := by decide +kernel
theorem dX1_add_71 : decode cX1_add 71 = .ok (.aload_n 0, 1) := by decide +kernel
theorem dX1_add_72 : decode cX1_add 72 = .ok (.dup, 1) := by decide +kernel
theorem dX1_add_73 : decode cX1_add 73 = .ok (.getfield 19, 3) := by decide +kernel
theorem dX1_add_76 : decode cX1_add 76 = .ok (.iconst 1, 1) := by decide +kernel
theorem dX1_add_77 : decode cX1_add 77 = .ok (.iadd, 1) := by decide +kernel
theorem dX1_add_78 : decode cX1_add 78 = .ok (.putfield 19, 3) := by decide +kernel
theorem dX1_add_81 : decode cX1_add 81 = .ok (.return_, 1) := by decide +kernel
theorem dX1_number_0 : decode cX1_number 0 = .ok (.aload_n 0, 1) := by decide +kernel
theorem dX1_number_1 : decode cX1_number 1 = .ok (.getfield 15, 3) := by decide +kernel
theorem dX1_number_4 : decode cX1_number 4 = .ok (.iconst 1, 1) := by decide +kernel
theorem dX1_number_5 : decode cX1_number 5 = .ok (.isub, 1) := by decide +kernel
theorem dX1_number_6 : decode cX1_number 6 = .ok (.iload_n 1, 1) := by decide +kernel
theorem dX1_number_7 : decode cX1_number 7 = .ok (.isub, 1) := by decide +kernel
theorem dX1_number_8 : decode cX1_number 8 = .ok (.bipush 20, 2) := by decide +kernel
theorem dX1_number_10 : decode cX1_number 10 = .ok (.irem, 1) := by decide +kernel
theorem dX1_number_11 : decode cX1_number 11 = .ok (.iconst 3, 1) := by decide +kernel
theorem dX1_number_12 : decode cX1_number 12 = .ok (.imul, 1) := by decide +kernel
theorem dX1_number_13 : decode cX1_number 13 = .ok (.iload_n 2, 1) := by decide +kernel
theorem dX1_number_14 : decode cX1_number 14 = .ok (.iadd, 1) := by decide +kernel
theorem dX1_number_15 : decode cX1_number 15 = .ok (.istore_n 3, 1) := by decide +kernel
theorem dX1_number_16 : decode cX1_number 16 = .ok (.iload_n 3, 1) := by decide +kernel
theorem dX1_number_17 : decode cX1_number 17 = .ok (.ifCond .lt 21, 3) := by decide +kernel
theorem dX1_number_20 : decode cX1_number 20 = .ok (.iload_n 3, 1) := by decide +kernel
theorem dX1_number_21 : decode cX1_number 21 = .ok (.aload_n 0, 1) := by decide +kernel
theorem dX1_number_22 : decode cX1_number 22 = .ok (.getfield 9, 3) := by decide +kernel
theorem dX1_number_25 : decode cX1_number 25 = .ok (.arraylength, 1) := by decide +kernel
theorem dX1_number_26 : decode cX1_number 26 = .ok (.if_icmp .ge 12, 3) := by decide +kernel
theorem dX1_number_29 : decode cX1_number 29 = .ok (.aload_n 0, 1) := by decide +kernel
theorem dX1_number_30 : decode cX1_number 30 = .ok (.getfield 9, 3) := by decide +kernel
theorem dX1_number_33 : decode cX1_number 33 = .ok (.iload_n 3, 1) := by decide +kernel
theorem dX1_number_34 : decode cX1_number 34 = .ok (.iaload, 1) := by decide +kernel
theorem dX1_number_35 : decode cX1_number 35 = .ok (.goto 4, 3) := by decide +kernel
theorem dX1_number_38 : decode cX1_number 38 = .ok (.iconst 0, 1) := by decide +kernel
theorem dX1_number_39 : decode cX1_number 39 = .ok (.ireturn, 1) := by decide +kernel
theorem dX2_init_0 : decode cX2_init 0 = .ok (.aload_n 0, 1) := by decide +kernel
theorem dX2_init_1 : decode cX2_init 1 = .ok (.invokespecial 1, 3) := by decide +kernel
theorem dX2_init_4 : decode cX2_init 4 = .ok (.aload_n 0, 1) := by decide +kernel
theorem dX2_init_5 : decode cX2_init 5 = .ok (.iconst 0, 1) := by decide +kernel
theorem dX2_init_6 : decode cX2_init 6 = .ok (.putfield 7, 3) := by decide +kernel
theorem dX2_init_9 : decode cX2_init 9 = .ok (.return_, 1) := by decide +kernel
theorem dX3_init_0 : decode cX3_init 0 = .ok (.aload_n 0, 1) := by decide +kernel
theorem dX3_init_1 : decode cX3_init 1 = .ok (.invokespecial 3, 3) := by decide +kernel
theorem dX3_init_4 : decode cX3_init 4 = .ok (.aload_n 0, 1) := by decide +kernel
theorem dX3_init_5 : decode cX3_init 5 = .ok (.bipush 48, 2) := by decide +kernel
theorem dX3_init_7 : decode cX3_init 7 = .ok (.newarray .int, 2) := by decide +kernel
theorem dX3_init_9 : decode cX3_init 9 = .ok (.putfield 11, 3) := by decide +kernel
theorem dX3_init_12 : decode cX3_init 12 = .ok (.aload_n 0, 1) := by decide +kernel
theorem dX3_init_13 : decode cX3_init 13 = .ok (.iconst 0, 1) := by decide +kernel
theorem dX3_init_14 : decode cX3_init 14 = .ok (.putfield 15, 3) := by decide +kernel
theorem dX3_init_17 : decode cX3_init 17 = .ok (.aload_n 0, 1) := by decide +kernel
theorem dX3_init_18 : decode cX3_init 18 = .ok (.iconst 0, 1) := by decide +kernel
theorem dX3_init_19 : decode cX3_init 19 = .ok (.putfield 19, 3) := by decide +kernel
theorem dX3_init_22 : decode cX3_init 22 = .ok (.aload_n 0, 1) := by decide +kernel
theorem dX3_init_23 : decode cX3_init 23 = .ok (.iconst 0, 1) := by decide +kernel
theorem dX3_init_24 : decode cX3_init 24 = .ok (.putfield 22, 3) := by decide +kernel
theorem dX3_init_27 : decode cX3_init 27 = .ok (.aload_n 0, 1) := by decide +kernel
theorem dX3_init_28 : decode cX3_init 28 = .ok (.iconst 0, 1) := by decide +kernel
theorem dX3_init_29 : decode cX3_init 29 = .ok (.putfield 25, 3) := by decide +kernel
theorem dX3_init_32 : decode cX3_init 32 = .ok (.aload_n 0, 1) := by decide +kernel
theorem dX3_init_33 : decode cX3_init 33 = .ok (.iconst 0, 1) := by decide +kernel
theorem dX3_init_34 : decode cX3_init 34 = .ok (.putfield 28, 3) := by decide +kernel
theorem dX3_init_37 : decode cX3_init 37 = .ok (.return_, 1) := by decide +kernel
set_option maxRecDepth 20000 in
theorem ggX3_pack_X4_startOf : GoodIn wsX3_pack wsX4_startOf := goodIn_r _ [7, 8, 9, 10, 11, 6, 12, 13, 14, 15, 16, 17, 18, 19, 20, 63, 64, 65, 66, 67, 68, 69, 76, 77] (by decide +kernel) (by decide +kernel)
set_option maxRecDepth 20000 in
theorem gX3_pack_X4_startOf : GoodIn wsX3_pack (wsV RX3 36 RX4 yX4_startOf wsX4_startOf) := goodIn_app (goodIn_of _ (by decide +kernel)) ggX3_pack_X4_startOf
set_option maxRecDepth 20000 in
theorem ggX3_pack_X4_sizeOf : GoodIn wsX3_pack wsX4_sizeOf := goodIn_r _ [12, 8, 13, 14, 15, 16, 6, 17, 18, 19, 20, 63, 64, 65, 66, 67, 68, 69, 76, 77] (by decide +kernel) (by decide +kernel)
set_option maxRecDepth 20000 in
theorem gX3_pack_X4_sizeOf : GoodIn wsX3_pack (wsV RX3 40 RX4 yX4_sizeOf wsX4_sizeOf) := goodIn_app (goodIn_of _ (by decide +kernel)) ggX3_pack_X4_sizeOf
set_option maxRecDepth 20000 in
theorem ggX3_pack_X3_begin : GoodIn wsX3_pack wsX3_begin := goodIn_r _ [26, 27, 2, 28, 29, 30, 31, 32, 33, 34, 35, 25, 36, 70, 71, 72, 73, 74, 75] (by decide +kernel) (by decide +kernel)
set_option maxRecDepth 20000 in
theorem gX3_pack_X3_begin : GoodIn wsX3_pack (wsV RX3 43 RX3 yX3_begin wsX3_begin) := goodIn_app (goodIn_of _ (by decide +kernel)) ggX3_pack_X3_begin
set_option maxRecDepth 20000 in
theorem ggX3_pack_X4_number : GoodIn wsX3_pack wsX4_number := goodIn_r _ [40, 41, 42, 63, 64, 65, 66, 67, 68, 69] (by decide +kernel) (by decide +kernel)
set_option maxRecDepth 20000 in
theorem gX3_pack_X4_number : GoodIn wsX3_pack (wsV RX3 47 RX4 yX4_number wsX4_number) := goodIn_app (goodIn_of _ (by decide +kernel)) ggX3_pack_X4_number
set_option maxRecDepth 20000 in
theorem ggX3_pack_X3_add : GoodIn wsX3_pack wsX3_add := goodIn_r _ [46, 28, 47, 48, 49, 50, 33, 34, 35, 25, 36, 2, 27, 51, 52, 53, 54, 55, 56, 57, 58, 59, 60, 61, 62, 70, 71, 72, 73, 74, 75] (by decide +kernel) (by decide +kernel)
set_option maxRecDepth 20000 in
theorem gX3_pack_X3_add : GoodIn wsX3_pack (wsV RX3 51 RX3 yX3_add wsX3_add) := goodIn_app (goodIn_of _ (by decide +kernel)) ggX3_pack_X3_add
theorem dX3_pack_0 : decode cX3_pack 0 = .ok (.iload_n 2, 1) := by decide +kernel
theorem dX3_pack_1 : decode cX3_pack 1 = .ok (.aload_n 1, 1) := by decide +kernel
theorem dX3_pack_2 : decode cX3_pack 2 = .ok (.getfield 31, 3) := by decide +kernel
theorem dX3_pack_5 : decode cX3_pack 5 = .ok (.if_icmp .lt 5, 3) := by decide +kernel
theorem dX3_pack_8 : decode cX3_pack 8 = .ok (.iconst 0, 1) := by decide +kernel
theorem dX3_pack_9 : decode cX3_pack 9 = .ok (.ireturn, 1) := by decide +kernel
theorem dX3_pack_10 : decode cX3_pack 10 = .ok (.aload_n 1, 1) := by decide +kernel
theorem dX3_pack_11 : decode cX3_pack 11 = .ok (.iload_n 2, 1) := by decide +kernel
theorem dX3_pack_12 : decode cX3_pack 12 = .ok (.invokevirtual 36, 3) := by decide +kernel
theorem dX3_pack_15 : decode cX3_pack 15 = .ok (.istore_n 3, 1) := by decide +kernel
theorem dX3_pack_16 : decode cX3_pack 16 = .ok (.aload_n 1, 1) := by decide +kernel
theorem dX3_pack_17 : decode cX3_pack 17 = .ok (.iload_n 2, 1) := by decide +kernel
theorem dX3_pack_18 : decode cX3_pack 18 = .ok (.invokevirtual 40, 3) := by decide +kernel
theorem dX3_pack_21 : decode cX3_pack 21 = .ok (.istore 4, 2) := by decide +kernel
theorem dX3_pack_23 : decode cX3_pack 23 = .ok (.aload_n 0, 1) := by decide +kernel
theorem dX3_pack_24 : decode cX3_pack 24 = .ok (.iload 4, 2) := by decide +kernel
theorem dX3_pack_26 : decode cX3_pack 26 = .ok (.invokevirtual 43, 3) := by decide +kernel
theorem dX3_pack_29 : decode cX3_pack 29 = .ok (.iload_n 3, 1) := by decide +kernel
theorem dX3_pack_30 : decode cX3_pack 30 = .ok (.istore 5, 2) := by decide +kernel
theorem dX3_pack_32 : decode cX3_pack 32 = .ok (.iload 5, 2) := by decide +kernel
theorem dX3_pack_34 : decode cX3_pack 34 = .ok (.iload_n 3, 1) := by decide +kernel
theorem dX3_pack_35 : decode cX3_pack 35 = .ok (.iload 4, 2) := by decide +kernel
theorem dX3_pack_37 : decode cX3_pack 37 = .ok (.iadd, 1) := by decide +kernel
theorem dX3_pack_38 : decode cX3_pack 38 = .ok (.if_icmp .ge 27, 3) := by decide +kernel
theorem dX3_pack_41 : decode cX3_pack 41 = .ok (.aload_n 0, 1) := by decide +kernel
theorem dX3_pack_42 : decode cX3_pack 42 = .ok (.aload_n 1, 1) := by decide +kernel
theorem dX3_pack_43 : decode cX3_pack 43 = .ok (.iload 5, 2) := by decide +kernel
theorem dX3_pack_45 : decode cX3_pack 45 = .ok (.iconst 0, 1) := by decide +kernel
theorem dX3_pack_46 : decode cX3_pack 46 = .ok (.invokevirtual 47, 3) := by decide +kernel
theorem dX3_pack_49 : decode cX3_pack 49 = .ok (.aload_n 1, 1) := by decide +kernel
theorem dX3_pack_50 : decode cX3_pack 50 = .ok (.iload 5, 2) := by decide +kernel
theorem dX3_pack_52 : decode cX3_pack 52 = .ok (.iconst 5, 1) := by decide +kernel
theorem dX3_pack_53 : decode cX3_pack 53 = .ok (.invokevirtual 47, 3) := by decide +kernel
theorem dX3_pack_56 : decode cX3_pack 56 = .ok (.invokevirtual 51, 3) := by decide +kernel
theorem dX3_pack_59 : decode cX3_pack 59 = .ok (.iinc 5 1, 3) := by decide +kernel
theorem dX3_pack_62 : decode cX3_pack 62 = .ok (.goto (-30), 3) := by decide +kernel
theorem dX3_pack_65 : decode cX3_pack 65 = .ok (.aload_n 0, 1) := by decide +kernel
theorem dX3_pack_66 : decode cX3_pack 66 = .ok (.getfield 15, 3) := by decide +kernel
theorem dX3_pack_69 : decode cX3_pack 69 = .ok (.ireturn, 1) := by decide +kernel
set_option maxRecDepth 20000 in
theorem ggX3_packOpenWith_X4_placeOf : GoodIn wsX3_packOpenWith wsX4_placeOf := goodIn_r _ [9, 10, 11, 3, 12, 13, 14, 8, 15, 16, 17, 62, 63, 64, 65, 66, 67, 68, 69, 70] (by decide +kernel) (by decide +kernel)
set_option maxRecDepth 20000 in
theorem gX3_packOpenWith_X4_placeOf : GoodIn wsX3_packOpenWith (wsV RX3 55 RX4 yX4_placeOf wsX4_placeOf) := goodIn_app (goodIn_of _ (by decide +kernel)) ggX3_packOpenWith_X4_placeOf
set_option maxRecDepth 20000 in
theorem ggX3_packOpenWith_X4_isTakenAt : GoodIn wsX3_packOpenWith wsX4_isTakenAt := goodIn_r _ [21, 11, 3, 12, 13, 14, 8, 15, 16, 17, 69, 70, 62, 63, 64, 65, 66, 67, 68] (by decide +kernel) (by decide +kernel)
set_option maxRecDepth 20000 in
theorem gX3_packOpenWith_X4_isTakenAt : GoodIn wsX3_packOpenWith (wsV RX3 58 RX4 yX4_isTakenAt wsX4_isTakenAt) := goodIn_app (goodIn_of _ (by decide +kernel)) ggX3_packOpenWith_X4_isTakenAt
set_option maxRecDepth 20000 in
theorem ggX3_packOpenWith_X4_openSize : GoodIn wsX3_packOpenWith wsX4_openSize := goodIn_r _ [25, 11, 3, 10, 69, 70, 62, 63, 64, 65, 66, 67, 68] (by decide +kernel) (by decide +kernel)
set_option maxRecDepth 20000 in
theorem gX3_packOpenWith_X4_openSize : GoodIn wsX3_packOpenWith (wsV RX3 62 RX4 yX4_openSize wsX4_openSize) := goodIn_app (goodIn_of _ (by decide +kernel)) ggX3_packOpenWith_X4_openSize
set_option maxRecDepth 20000 in
theorem ggX3_packOpenWith_X3_begin : GoodIn wsX3_packOpenWith wsX3_begin := goodIn_r _ [30, 31, 4, 32, 33, 34, 35, 36, 37, 38, 39, 29, 40, 71, 72, 73, 74, 75, 76] (by decide +kernel) (by decide +kernel)
set_option maxRecDepth 20000 in
theorem gX3_packOpenWith_X3_begin : GoodIn wsX3_packOpenWith (wsV RX3 43 RX3 yX3_begin wsX3_begin) := goodIn_app (goodIn_of _ (by decide +kernel)) ggX3_packOpenWith_X3_begin
set_option maxRecDepth 20000 in
theorem ggX3_packOpenWith_X4_number : GoodIn wsX3_packOpenWith wsX4_number := goodIn_r _ [15, 16, 17, 62, 63, 64, 65, 66, 67, 68] (by decide +kernel) (by decide +kernel)
set_option maxRecDepth 20000 in
theorem gX3_packOpenWith_X4_number : GoodIn wsX3_packOpenWith (wsV RX3 47 RX4 yX4_number wsX4_number) := goodIn_app (goodIn_of _ (by decide +kernel)) ggX3_packOpenWith_X4_number
set_option maxRecDepth 20000 in
theorem ggX3_packOpenWith_X3_add : GoodIn wsX3_packOpenWith wsX3_add := goodIn_r _ [45, 32, 46, 47, 48, 49, 37, 38, 39, 29, 40, 4, 31, 50, 51, 52, 53, 54, 55, 56, 57, 58, 59, 60, 61, 71, 72, 73, 74, 75, 76] (by decide +kernel) (by decide +kernel)
set_option maxRecDepth 20000 in
theorem gX3_packOpenWith_X3_add : GoodIn wsX3_packOpenWith (wsV RX3 51 RX3 yX3_add wsX3_add) := goodIn_app (goodIn_of _ (by decide +kernel)) ggX3_packOpenWith_X3_add
theorem dX3_packOpenWith_0 : decode cX3_packOpenWith 0 = .ok (.aload_n 1, 1) := by decide +kernel
theorem dX3_packOpenWith_1 : decode cX3_packOpenWith 1 = .ok (.iload_n 2, 1) := by decide +kernel
theorem dX3_packOpenWith_2 : decode cX3_packOpenWith 2 = .ok (.invokevirtual 55, 3) := by decide +kernel
theorem dX3_packOpenWith_5 : decode cX3_packOpenWith 5 = .ok (.istore 4, 2) := by decide +kernel
theorem dX3_packOpenWith_7 : decode cX3_packOpenWith 7 = .ok (.aload_n 1, 1) := by decide +kernel
theorem dX3_packOpenWith_8 : decode cX3_packOpenWith 8 = .ok (.iload 4, 2) := by decide +kernel
theorem dX3_packOpenWith_10 : decode cX3_packOpenWith 10 = .ok (.iload_n 2, 1) := by decide +kernel
theorem dX3_packOpenWith_11 : decode cX3_packOpenWith 11 = .ok (.invokevirtual 58, 3) := by decide +kernel
theorem dX3_packOpenWith_14 : decode cX3_packOpenWith 14 = .ok (.istore 5, 2) := by decide +kernel
theorem dX3_packOpenWith_16 : decode cX3_packOpenWith 16 = .ok (.aload_n 0, 1) := by decide +kernel
theorem dX3_packOpenWith_17 : decode cX3_packOpenWith 17 = .ok (.aload_n 1, 1) := by decide +kernel
theorem dX3_packOpenWith_18 : decode cX3_packOpenWith 18 = .ok (.invokevirtual 62, 3) := by decide +kernel
theorem dX3_packOpenWith_21 : decode cX3_packOpenWith 21 = .ok (.iload 5, 2) := by decide +kernel
theorem dX3_packOpenWith_23 : decode cX3_packOpenWith 23 = .ok (.ifCond .eq 7, 3) := by decide +kernel
theorem dX3_packOpenWith_26 : decode cX3_packOpenWith 26 = .ok (.iconst 0, 1) := by decide +kernel
theorem dX3_packOpenWith_27 : decode cX3_packOpenWith 27 = .ok (.goto 4, 3) := by decide +kernel
theorem dX3_packOpenWith_30 : decode cX3_packOpenWith 30 = .ok (.iconst 1, 1) := by decide +kernel
theorem dX3_packOpenWith_31 : decode cX3_packOpenWith 31 = .ok (.iadd, 1) := by decide +kernel
theorem dX3_packOpenWith_32 : decode cX3_packOpenWith 32 = .ok (.invokevirtual 43, 3) := by decide +kernel
theorem dX3_packOpenWith_35 : decode cX3_packOpenWith 35 = .ok (.aload_n 1, 1) := by decide +kernel
theorem dX3_packOpenWith_36 : decode cX3_packOpenWith 36 = .ok (.getfield 66, 3) := by decide +kernel
theorem dX3_packOpenWith_39 : decode cX3_packOpenWith 39 = .ok (.istore 6, 2) := by decide +kernel
theorem dX3_packOpenWith_41 : decode cX3_packOpenWith 41 = .ok (.iload 6, 2) := by decide +kernel
theorem dX3_packOpenWith_43 : decode cX3_packOpenWith 43 = .ok (.iload 4, 2) := by decide +kernel
theorem dX3_packOpenWith_45 : decode cX3_packOpenWith 45 = .ok (.if_icmp .ge 27, 3) := by decide +kernel
theorem dX3_packOpenWith_48 : decode cX3_packOpenWith 48 = .ok (.aload_n 0, 1) := by decide +kernel
theorem dX3_packOpenWith_49 : decode cX3_packOpenWith 49 = .ok (.aload_n 1, 1) := by decide +kernel
theorem dX3_packOpenWith_50 : decode cX3_packOpenWith 50 = .ok (.iload 6, 2) := by decide +kernel
theorem dX3_packOpenWith_52 : decode cX3_packOpenWith 52 = .ok (.iconst 0, 1) := by decide +kernel
theorem dX3_packOpenWith_53 : decode cX3_packOpenWith 53 = .ok (.invokevirtual 47, 3) := by decide +kernel
theorem dX3_packOpenWith_56 : decode cX3_packOpenWith 56 = .ok (.aload_n 1, 1) := by decide +kernel
theorem dX3_packOpenWith_57 : decode cX3_packOpenWith 57 = .ok (.iload 6, 2) := by decide +kernel
theorem dX3_packOpenWith_59 : decode cX3_packOpenWith 59 = .ok (.iconst 5, 1) := by decide +kernel
theorem dX3_packOpenWith_60 : decode cX3_packOpenWith 60 = .ok (.invokevirtual 47, 3) := by decide +kernel
theorem dX3_packOpenWith_63 : decode cX3_packOpenWith 63 = .ok (.invokevirtual 51, 3) := by decide +kernel
theorem dX3_packOpenWith_66 : decode cX3_packOpenWith 66 = .ok (.iinc 6 1, 3) := by decide +kernel
theorem dX3_packOpenWith_69 : decode cX3_packOpenWith 69 = .ok (.goto (-28), 3) := by decide +kernel
theorem dX3_packOpenWith_72 : decode cX3_packOpenWith 72 = .ok (.aload_n 0, 1) := by decide +kernel
theorem dX3_packOpenWith_73 : decode cX3_packOpenWith 73 = .ok (.iload_n 2, 1) := by decide +kernel
theorem dX3_packOpenWith_74 : decode cX3_packOpenWith 74 = .ok (.iload_n 3, 1) := by decide +kernel
theorem dX3_packOpenWith_75 : decode cX3_packOpenWith 75 = .ok (.invokevirtual 51, 3) := by decide +kernel
theorem dX3_packOpenWith_78 : decode cX3_packOpenWith 78 = .ok (.iload 5, 2) := by decide +kernel
theorem dX3_packOpenWith_80 : decode cX3_packOpenWith 80 = .ok (.ifCond .eq 10, 3) := by decide +kernel
theorem dX3_packOpenWith_83 : decode cX3_packOpenWith 83 = .ok (.iload 4, 2) := by decide +kernel
theorem dX3_packOpenWith_85 : decode cX3_packOpenWith 85 = .ok (.iconst 1, 1) := by decide +kernel
theorem dX3_packOpenWith_86 : decode cX3_packOpenWith 86 = .ok (.iadd, 1) := by decide +kernel
theorem dX3_packOpenWith_87 : decode cX3_packOpenWith 87 = .ok (.goto 5, 3) := by decide +kernel
theorem dX3_packOpenWith_90 : decode cX3_packOpenWith 90 = .ok (.iload 4, 2) := by decide +kernel
theorem dX3_packOpenWith_92 : decode cX3_packOpenWith 92 = .ok (.istore 6, 2) := by decide +kernel
theorem dX3_packOpenWith_94 : decode cX3_packOpenWith 94 = .ok (.iload 6, 2) := by decide +kernel
theorem dX3_packOpenWith_96 : decode cX3_packOpenWith 96 = .ok (.aload_n 1, 1) := by decide +kernel
theorem dX3_packOpenWith_97 : decode cX3_packOpenWith 97 = .ok (.getfield 69, 3) := by decide +kernel
theorem dX3_packOpenWith_100 : decode cX3_packOpenWith 100 = .ok (.if_icmp .ge 27, 3) := by decide +kernel
theorem dX3_packOpenWith_103 : decode cX3_packOpenWith 103 = .ok (.aload_n 0, 1) := by decide +kernel
theorem dX3_packOpenWith_104 : decode cX3_packOpenWith 104 = .ok (.aload_n 1, 1) := by decide +kernel
theorem dX3_packOpenWith_105 : decode cX3_packOpenWith 105 = .ok (.iload 6, 2) := by decide +kernel
theorem dX3_packOpenWith_107 : decode cX3_packOpenWith 107 = .ok (.iconst 0, 1) := by decide +kernel
theorem dX3_packOpenWith_108 : decode cX3_packOpenWith 108 = .ok (.invokevirtual 47, 3) := by decide +kernel
theorem dX3_packOpenWith_111 : decode cX3_packOpenWith 111 = .ok (.aload_n 1, 1) := by decide +kernel
theorem dX3_packOpenWith_112 : decode cX3_packOpenWith 112 = .ok (.iload 6, 2) := by decide +kernel
theorem dX3_packOpenWith_114 : decode cX3_packOpenWith 114 = .ok (.iconst 5, 1) := by decide +kernel
theorem dX3_packOpenWith_115 : decode cX3_packOpenWith 115 = .ok (.invokevirtual 47, 3) := by decide +kernel
theorem dX3_packOpenWith_118 : decode cX3_packOpenWith 118 = .ok (.invokevirtual 51, 3) := by decide +kernel
theorem dX3_packOpenWith_121 : decode cX3_packOpenWith 121 = .ok (.iinc 6 1, 3) := by decide +kernel
theorem dX3_packOpenWith_124 : decode cX3_packOpenWith 124 = .ok (.goto (-30), 3) := by decide +kernel
theorem dX3_packOpenWith_127 : decode cX3_packOpenWith 127 = .ok (.aload_n 0, 1) := by decide +kernel
theorem dX3_packOpenWith_128 : decode cX3_packOpenWith 128 = .ok (.getfield 15, 3) := by decide +kernel
theorem dX3_packOpenWith_131 : decode cX3_packOpenWith 131 = .ok (.ireturn, 1) := by decide +kernel
set_option maxRecDepth 20000 in
theorem ggX3_begin_J7_fill_53178 : GoodIn wsX3_begin wsJ7_fill_53178 := goodIn_r _ [7] (by decide +kernel) (by decide +kernel)
set_option maxRecDepth 20000 in
theorem gX3_begin_J7_fill_53178 : GoodIn wsX3_begin (va_wsS RX3 72 yJ7_fill_53178 wsJ7_fill_53178) := goodIn_app (goodIn_of _ (by decide +kernel)) ggX3_begin_J7_fill_53178
set_option maxRecDepth 20000 in
theorem ggX3_begin_X3_write : GoodIn wsX3_begin wsX3_write := goodIn_r _ [12, 2, 1, 13, 14, 15, 16, 17, 18] (by decide +kernel) (by decide +kernel)
set_option maxRecDepth 20000 in
theorem gX3_begin_X3_write : GoodIn wsX3_begin (wsV RX3 78 RX3 yX3_write wsX3_write) := goodIn_app (goodIn_of _ (by decide +kernel)) ggX3_begin_X3_write
theorem dX3_begin_0 : decode cX3_begin 0 = .ok (.aload_n 0, 1) := by decide +kernel
theorem dX3_begin_1 : decode cX3_begin 1 = .ok (.getfield 11, 3) := by decide +kernel
theorem dX3_begin_4 : decode cX3_begin 4 = .ok (.iconst 0, 1) := by decide +kernel
theorem dX3_begin_5 : decode cX3_begin 5 = .ok (.invokestatic 72, 3) := by decide +kernel
theorem dX3_begin_8 : decode cX3_begin 8 = .ok (.aload_n 0, 1) := by decide +kernel
theorem dX3_begin_9 : decode cX3_begin 9 = .ok (.iconst 0, 1) := by decide +kernel
theorem dX3_begin_10 : decode cX3_begin 10 = .ok (.putfield 15, 3) := by decide +kernel
theorem dX3_begin_13 : decode cX3_begin 13 = .ok (.aload_n 0, 1) := by decide +kernel
theorem dX3_begin_14 : decode cX3_begin 14 = .ok (.iconst 0, 1) := by decide +kernel
theorem dX3_begin_15 : decode cX3_begin 15 = .ok (.putfield 19, 3) := by decide +kernel
theorem dX3_begin_18 : decode cX3_begin 18 = .ok (.aload_n 0, 1) := by decide +kernel
theorem dX3_begin_19 : decode cX3_begin 19 = .ok (.iload_n 1, 1) := by decide +kernel
theorem dX3_begin_20 : decode cX3_begin 20 = .ok (.bipush 6, 2) := by decide +kernel
theorem dX3_begin_22 : decode cX3_begin 22 = .ok (.invokevirtual 78, 3) := by decide +kernel
theorem dX3_begin_25 : decode cX3_begin 25 = .ok (.return_, 1) := by decide +kernel
set_option maxRecDepth 20000 in
theorem ggX3_add_X3_write : GoodIn wsX3_add wsX3_write := goodIn_r _ [10, 11, 12, 25, 26, 27, 28, 29, 30] (by decide +kernel) (by decide +kernel)
set_option maxRecDepth 20000 in
theorem gX3_add_X3_write : GoodIn wsX3_add (wsV RX3 78 RX3 yX3_write wsX3_write) := goodIn_app (goodIn_of _ (by decide +kernel)) ggX3_add_X3_write
set_option maxRecDepth 20000 in
theorem ggX3_add_X3_addTime : GoodIn wsX3_add wsX3_addTime := goodIn_r _ [16, 2, 6, 7, 8, 9, 10, 11, 12, 17, 18, 19, 25, 26, 27, 28, 29, 30] (by decide +kernel) (by decide +kernel)
set_option maxRecDepth 20000 in
theorem gX3_add_X3_addTime : GoodIn wsX3_add (wsV RX3 82 RX3 yX3_addTime wsX3_addTime) := goodIn_app (goodIn_of _ (by decide +kernel)) ggX3_add_X3_addTime
set_option maxRecDepth 20000 in
theorem ggX3_add_X3_addValue : GoodIn wsX3_add wsX3_addValue := goodIn_r _ [23, 24, 6, 7, 8, 9, 10, 11, 12, 17, 18, 19, 25, 26, 27, 28, 29, 30] (by decide +kernel) (by decide +kernel)
set_option maxRecDepth 20000 in
theorem gX3_add_X3_addValue : GoodIn wsX3_add (wsV RX3 85 RX3 yX3_addValue wsX3_addValue) := goodIn_app (goodIn_of _ (by decide +kernel)) ggX3_add_X3_addValue
theorem dX3_add_0 : decode cX3_add 0 = .ok (.aload_n 0, 1) := by decide +kernel
theorem dX3_add_1 : decode cX3_add 1 = .ok (.getfield 19, 3) := by decide +kernel
theorem dX3_add_4 : decode cX3_add 4 = .ok (.ifCond .ne 28, 3) := by decide +kernel
theorem dX3_add_7 : decode cX3_add 7 = .ok (.aload_n 0, 1) := by decide +kernel
theorem dX3_add_8 : decode cX3_add 8 = .ok (.iload_n 1, 1) := by decide +kernel
theorem dX3_add_9 : decode cX3_add 9 = .ok (.bipush 20, 2) := by decide +kernel
theorem dX3_add_11 : decode cX3_add 11 = .ok (.invokevirtual 78, 3) := by decide +kernel
theorem dX3_add_14 : decode cX3_add 14 = .ok (.aload_n 0, 1) := by decide +kernel
theorem dX3_add_15 : decode cX3_add 15 = .ok (.iload_n 2, 1) := by decide +kernel
theorem dX3_add_16 : decode cX3_add 16 = .ok (.ldc 81, 2) := by decide +kernel
theorem dX3_add_18 : decode cX3_add 18 = .ok (.iadd, 1) := by decide +kernel
theorem dX3_add_19 : decode cX3_add 19 = .ok (.bipush 21, 2) := by decide +kernel
theorem dX3_add_21 : decode cX3_add 21 = .ok (.invokevirtual 78, 3) := by decide +kernel
theorem dX3_add_24 : decode cX3_add 24 = .ok (.aload_n 0, 1) := by decide +kernel
theorem dX3_add_25 : decode cX3_add 25 = .ok (.iconst 0, 1) := by decide +kernel
theorem dX3_add_26 : decode cX3_add 26 = .ok (.putfield 25, 3) := by decide +kernel
theorem dX3_add_29 : decode cX3_add 29 = .ok (.goto 35, 3) := by decide +kernel
theorem dX3_add_32 : decode cX3_add 32 = .ok (.iload_n 1, 1) := by decide +kernel
theorem dX3_add_33 : decode cX3_add 33 = .ok (.aload_n 0, 1) := by decide +kernel
theorem dX3_add_34 : decode cX3_add 34 = .ok (.getfield 22, 3) := by decide +kernel
theorem dX3_add_37 : decode cX3_add 37 = .ok (.isub, 1) := by decide +kernel
theorem dX3_add_38 : decode cX3_add 38 = .ok (.istore_n 3, 1) := by decide +kernel
theorem dX3_add_39 : decode cX3_add 39 = .ok (.aload_n 0, 1) := by decide +kernel
theorem dX3_add_40 : decode cX3_add 40 = .ok (.iload_n 3, 1) := by decide +kernel
theorem dX3_add_41 : decode cX3_add 41 = .ok (.aload_n 0, 1) := by decide +kernel
theorem dX3_add_42 : decode cX3_add 42 = .ok (.getfield 25, 3) := by decide +kernel
theorem dX3_add_45 : decode cX3_add 45 = .ok (.isub, 1) := by decide +kernel
theorem dX3_add_46 : decode cX3_add 46 = .ok (.invokevirtual 82, 3) := by decide +kernel
theorem dX3_add_49 : decode cX3_add 49 = .ok (.aload_n 0, 1) := by decide +kernel
theorem dX3_add_50 : decode cX3_add 50 = .ok (.iload_n 2, 1) := by decide +kernel
theorem dX3_add_51 : decode cX3_add 51 = .ok (.aload_n 0, 1) := by decide +kernel
theorem dX3_add_52 : decode cX3_add 52 = .ok (.getfield 28, 3) := by decide +kernel
theorem dX3_add_55 : decode cX3_add 55 = .ok (.isub, 1) := by decide +kernel
theorem dX3_add_56 : decode cX3_add 56 = .ok (.invokevirtual 85, 3) := by decide +kernel
theorem dX3_add_59 : decode cX3_add 59 = .ok (.aload_n 0, 1) := by decide +kernel
theorem dX3_add_60 : decode cX3_add 60 = .ok (.iload_n 3, 1) := by decide +kernel
theorem dX3_add_61 : decode cX3_add 61 = .ok (.putfield 25, 3) := by decide +kernel
theorem dX3_add_64 : decode cX3_add 64 = .ok (.aload_n 0, 1) := by decide +kernel
theorem dX3_add_65 : decode cX3_add 65 = .ok (.iload_n 1, 1) := by decide +kernel
theorem dX3_add_66 : decode cX3_add 66 = .ok (.putfield 22, 3) := by decide +kernel
theorem dX3_add_69 : decode cX3_add 69 = .ok (.aload_n 0, 1) := by decide +kernel
theorem dX3_add_70 : decode cX3_add 70 = .ok (.iload_n 2, 1) := by decide +kernel
theorem dX3_add_71 : decode cX3_add 71 = .ok (.putfield 28, 3) := by decide +kernel
theorem dX3_add_74 : decode cX3_add 74 = .ok (.aload_n 0, 1) := by decide +kernel
theorem dX3_add_75 : decode cX3_add 75 = .ok (.dup, 1) := by decide +kernel
theorem dX3_add_76 : decode cX3_add 76 = .ok (.getfield 19, 3) := by decide +kernel
theorem dX3_add_79 : decode cX3_add 79 = .ok (.iconst 1, 1) := by decide +kernel
theorem dX3_add_80 : decode cX3_add 80 = .ok (.iadd, 1) := by decide +kernel
theorem dX3_add_81 : decode cX3_add 81 = .ok (.putfield 19, 3) := by decide +kernel
theorem dX3_add_84 : decode cX3_add 84 = .ok (.return_, 1) := by decide +kernel
set_option maxRecDepth 20000 in
theorem ggX3_addTime_X3_write : GoodIn wsX3_addTime wsX3_write := goodIn_r _ [6, 7, 8, 12, 13, 14, 15, 16, 17] (by decide +kernel) (by decide +kernel)
set_option maxRecDepth 20000 in
theorem gX3_addTime_X3_write : GoodIn wsX3_addTime (wsV RX3 78 RX3 yX3_write wsX3_write) := goodIn_app (goodIn_of _ (by decide +kernel)) ggX3_addTime_X3_write
set_option maxRecDepth 20000 in
theorem ggX3_addTime_X9_isIn : GoodIn wsX3_addTime wsX9_isIn := goodIn_r _ [11] (by decide +kernel) (by decide +kernel)
set_option maxRecDepth 20000 in
theorem gX3_addTime_X9_isIn_n88 : GoodIn wsX3_addTime (wsX9_isIn) := ggX3_addTime_X9_isIn
theorem dX3_addTime_0 : decode cX3_addTime 0 = .ok (.iload_n 1, 1) := by decide +kernel
theorem dX3_addTime_1 : decode cX3_addTime 1 = .ok (.ifCond .ne 12, 3) := by decide +kernel
theorem dX3_addTime_4 : decode cX3_addTime 4 = .ok (.aload_n 0, 1) := by decide +kernel
theorem dX3_addTime_5 : decode cX3_addTime 5 = .ok (.iconst 0, 1) := by decide +kernel
theorem dX3_addTime_6 : decode cX3_addTime 6 = .ok (.iconst 1, 1) := by decide +kernel
theorem dX3_addTime_7 : decode cX3_addTime 7 = .ok (.invokevirtual 78, 3) := by decide +kernel
theorem dX3_addTime_10 : decode cX3_addTime 10 = .ok (.goto 90, 3) := by decide +kernel
theorem dX3_addTime_13 : decode cX3_addTime 13 = .ok (.iload_n 1, 1) := by decide +kernel
theorem dX3_addTime_14 : decode cX3_addTime 14 = .ok (.bipush 31, 2) := by decide +kernel
theorem dX3_addTime_16 : decode cX3_addTime 16 = .ok (.iadd, 1) := by decide +kernel
theorem dX3_addTime_17 : decode cX3_addTime 17 = .ok (.i2l, 1) := by decide +kernel
theorem dX3_addTime_18 : decode cX3_addTime 18 = .ok (.iconst 0, 1) := by decide +kernel
theorem dX3_addTime_19 : decode cX3_addTime 19 = .ok (.bipush 63, 2) := by decide +kernel
theorem dX3_addTime_21 : decode cX3_addTime 21 = .ok (.invokestatic 88, 3) := by decide +kernel
theorem dX3_addTime_24 : decode cX3_addTime 24 = .ok (.ifCond .eq 22, 3) := by decide +kernel
theorem dX3_addTime_27 : decode cX3_addTime 27 = .ok (.aload_n 0, 1) := by decide +kernel
theorem dX3_addTime_28 : decode cX3_addTime 28 = .ok (.iconst 2, 1) := by decide +kernel
theorem dX3_addTime_29 : decode cX3_addTime 29 = .ok (.iconst 2, 1) := by decide +kernel
theorem dX3_addTime_30 : decode cX3_addTime 30 = .ok (.invokevirtual 78, 3) := by decide +kernel
theorem dX3_addTime_33 : decode cX3_addTime 33 = .ok (.aload_n 0, 1) := by decide +kernel
theorem dX3_addTime_34 : decode cX3_addTime 34 = .ok (.iload_n 1, 1) := by decide +kernel
theorem dX3_addTime_35 : decode cX3_addTime 35 = .ok (.bipush 31, 2) := by decide +kernel
theorem dX3_addTime_37 : decode cX3_addTime 37 = .ok (.iadd, 1) := by decide +kernel
theorem dX3_addTime_38 : decode cX3_addTime 38 = .ok (.bipush 6, 2) := by decide +kernel
theorem dX3_addTime_40 : decode cX3_addTime 40 = .ok (.invokevirtual 78, 3) := by decide +kernel
theorem dX3_addTime_43 : decode cX3_addTime 43 = .ok (.goto 57, 3) := by decide +kernel
theorem dX3_addTime_46 : decode cX3_addTime 46 = .ok (.iload_n 1, 1) := by decide +kernel
theorem dX3_addTime_47 : decode cX3_addTime 47 = .ok (.sipush 255, 3) := by decide +kernel
theorem dX3_addTime_50 : decode cX3_addTime 50 = .ok (.iadd, 1) := by decide +kernel
theorem dX3_addTime_51 : decode cX3_addTime 51 = .ok (.i2l, 1) := by decide +kernel
theorem dX3_addTime_52 : decode cX3_addTime 52 = .ok (.iconst 0, 1) := by decide +kernel
theorem dX3_addTime_53 : decode cX3_addTime 53 = .ok (.sipush 511, 3) := by decide +kernel
theorem dX3_addTime_56 : decode cX3_addTime 56 = .ok (.invokestatic 88, 3) := by decide +kernel
theorem dX3_addTime_59 : decode cX3_addTime 59 = .ok (.ifCond .eq 24, 3) := by decide +kernel
theorem dX3_addTime_62 : decode cX3_addTime 62 = .ok (.aload_n 0, 1) := by decide +kernel
theorem dX3_addTime_63 : decode cX3_addTime 63 = .ok (.bipush 6, 2) := by decide +kernel
theorem dX3_addTime_65 : decode cX3_addTime 65 = .ok (.iconst 3, 1) := by decide +kernel
theorem dX3_addTime_66 : decode cX3_addTime 66 = .ok (.invokevirtual 78, 3) := by decide +kernel
theorem dX3_addTime_69 : decode cX3_addTime 69 = .ok (.aload_n 0, 1) := by decide +kernel
theorem dX3_addTime_70 : decode cX3_addTime 70 = .ok (.iload_n 1, 1) := by decide +kernel
theorem dX3_addTime_71 : decode cX3_addTime 71 = .ok (.sipush 255, 3) := by decide +kernel
theorem dX3_addTime_74 : decode cX3_addTime 74 = .ok (.iadd, 1) := by decide +kernel
theorem dX3_addTime_75 : decode cX3_addTime 75 = .ok (.bipush 9, 2) := by decide +kernel
theorem dX3_addTime_77 : decode cX3_addTime 77 = .ok (.invokevirtual 78, 3) := by decide +kernel
theorem dX3_addTime_80 : decode cX3_addTime 80 = .ok (.goto 20, 3) := by decide +kernel
theorem dX3_addTime_83 : decode cX3_addTime 83 = .ok (.aload_n 0, 1) := by decide +kernel
theorem dX3_addTime_84 : decode cX3_addTime 84 = .ok (.bipush 7, 2) := by decide +kernel
theorem dX3_addTime_86 : decode cX3_addTime 86 = .ok (.iconst 3, 1) := by decide +kernel
theorem dX3_addTime_87 : decode cX3_addTime 87 = .ok (.invokevirtual 78, 3) := by decide +kernel
theorem dX3_addTime_90 : decode cX3_addTime 90 = .ok (.aload_n 0, 1) := by decide +kernel
theorem dX3_addTime_91 : decode cX3_addTime 91 = .ok (.iload_n 1, 1) := by decide +kernel
theorem dX3_addTime_92 : decode cX3_addTime 92 = .ok (.ldc 81, 2) := by decide +kernel
theorem dX3_addTime_94 : decode cX3_addTime 94 = .ok (.iadd, 1) := by decide +kernel
theorem dX3_addTime_95 : decode cX3_addTime 95 = .ok (.bipush 21, 2) := by decide +kernel
theorem dX3_addTime_97 : decode cX3_addTime 97 = .ok (.invokevirtual 78, 3) := by decide +kernel
theorem dX3_addTime_100 : decode cX3_addTime 100 = .ok (.return_, 1) := by decide +kernel
set_option maxRecDepth 20000 in
theorem ggX3_addValue_X3_write : GoodIn wsX3_addValue wsX3_write := goodIn_r _ [6, 7, 8, 12, 13, 14, 15, 16, 17] (by decide +kernel) (by decide +kernel)
set_option maxRecDepth 20000 in
theorem gX3_addValue_X3_write : GoodIn wsX3_addValue (wsV RX3 78 RX3 yX3_write wsX3_write) := goodIn_app (goodIn_of _ (by decide +kernel)) ggX3_addValue_X3_write
set_option maxRecDepth 20000 in
theorem ggX3_addValue_X9_isIn : GoodIn wsX3_addValue wsX9_isIn := goodIn_r _ [11] (by decide +kernel) (by decide +kernel)
set_option maxRecDepth 20000 in
theorem gX3_addValue_X9_isIn_n88 : GoodIn wsX3_addValue (wsX9_isIn) := ggX3_addValue_X9_isIn
theorem dX3_addValue_0 : decode cX3_addValue 0 = .ok (.iload_n 1, 1) := by decide +kernel
theorem dX3_addValue_1 : decode cX3_addValue 1 = .ok (.ifCond .ne 12, 3) := by decide +kernel
theorem dX3_addValue_4 : decode cX3_addValue 4 = .ok (.aload_n 0, 1) := by decide +kernel
theorem dX3_addValue_5 : decode cX3_addValue 5 = .ok (.iconst 0, 1) := by decide +kernel
theorem dX3_addValue_6 : decode cX3_addValue 6 = .ok (.iconst 1, 1) := by decide +kernel
theorem dX3_addValue_7 : decode cX3_addValue 7 = .ok (.invokevirtual 78, 3) := by decide +kernel
theorem dX3_addValue_10 : decode cX3_addValue 10 = .ok (.goto 89, 3) := by decide +kernel
theorem dX3_addValue_13 : decode cX3_addValue 13 = .ok (.iload_n 1, 1) := by decide +kernel
theorem dX3_addValue_14 : decode cX3_addValue 14 = .ok (.bipush 15, 2) := by decide +kernel
theorem dX3_addValue_16 : decode cX3_addValue 16 = .ok (.iadd, 1) := by decide +kernel
theorem dX3_addValue_17 : decode cX3_addValue 17 = .ok (.i2l, 1) := by decide +kernel
theorem dX3_addValue_18 : decode cX3_addValue 18 = .ok (.iconst 0, 1) := by decide +kernel
theorem dX3_addValue_19 : decode cX3_addValue 19 = .ok (.bipush 31, 2) := by decide +kernel
theorem dX3_addValue_21 : decode cX3_addValue 21 = .ok (.invokestatic 88, 3) := by decide +kernel
theorem dX3_addValue_24 : decode cX3_addValue 24 = .ok (.ifCond .eq 21, 3) := by decide +kernel
theorem dX3_addValue_27 : decode cX3_addValue 27 = .ok (.aload_n 0, 1) := by decide +kernel
theorem dX3_addValue_28 : decode cX3_addValue 28 = .ok (.iconst 2, 1) := by decide +kernel
theorem dX3_addValue_29 : decode cX3_addValue 29 = .ok (.iconst 2, 1) := by decide +kernel
theorem dX3_addValue_30 : decode cX3_addValue 30 = .ok (.invokevirtual 78, 3) := by decide +kernel
theorem dX3_addValue_33 : decode cX3_addValue 33 = .ok (.aload_n 0, 1) := by decide +kernel
theorem dX3_addValue_34 : decode cX3_addValue 34 = .ok (.iload_n 1, 1) := by decide +kernel
theorem dX3_addValue_35 : decode cX3_addValue 35 = .ok (.bipush 15, 2) := by decide +kernel
theorem dX3_addValue_37 : decode cX3_addValue 37 = .ok (.iadd, 1) := by decide +kernel
theorem dX3_addValue_38 : decode cX3_addValue 38 = .ok (.iconst 5, 1) := by decide +kernel
theorem dX3_addValue_39 : decode cX3_addValue 39 = .ok (.invokevirtual 78, 3) := by decide +kernel
theorem dX3_addValue_42 : decode cX3_addValue 42 = .ok (.goto 57, 3) := by decide +kernel
theorem dX3_addValue_45 : decode cX3_addValue 45 = .ok (.iload_n 1, 1) := by decide +kernel
theorem dX3_addValue_46 : decode cX3_addValue 46 = .ok (.sipush 511, 3) := by decide +kernel
theorem dX3_addValue_49 : decode cX3_addValue 49 = .ok (.iadd, 1) := by decide +kernel
theorem dX3_addValue_50 : decode cX3_addValue 50 = .ok (.i2l, 1) := by decide +kernel
theorem dX3_addValue_51 : decode cX3_addValue 51 = .ok (.iconst 0, 1) := by decide +kernel
theorem dX3_addValue_52 : decode cX3_addValue 52 = .ok (.sipush 1023, 3) := by decide +kernel
theorem dX3_addValue_55 : decode cX3_addValue 55 = .ok (.invokestatic 88, 3) := by decide +kernel
theorem dX3_addValue_58 : decode cX3_addValue 58 = .ok (.ifCond .eq 24, 3) := by decide +kernel
theorem dX3_addValue_61 : decode cX3_addValue 61 = .ok (.aload_n 0, 1) := by decide +kernel
theorem dX3_addValue_62 : decode cX3_addValue 62 = .ok (.bipush 6, 2) := by decide +kernel
theorem dX3_addValue_64 : decode cX3_addValue 64 = .ok (.iconst 3, 1) := by decide +kernel
theorem dX3_addValue_65 : decode cX3_addValue 65 = .ok (.invokevirtual 78, 3) := by decide +kernel
theorem dX3_addValue_68 : decode cX3_addValue 68 = .ok (.aload_n 0, 1) := by decide +kernel
theorem dX3_addValue_69 : decode cX3_addValue 69 = .ok (.iload_n 1, 1) := by decide +kernel
theorem dX3_addValue_70 : decode cX3_addValue 70 = .ok (.sipush 511, 3) := by decide +kernel
theorem dX3_addValue_73 : decode cX3_addValue 73 = .ok (.iadd, 1) := by decide +kernel
theorem dX3_addValue_74 : decode cX3_addValue 74 = .ok (.bipush 10, 2) := by decide +kernel
theorem dX3_addValue_76 : decode cX3_addValue 76 = .ok (.invokevirtual 78, 3) := by decide +kernel
theorem dX3_addValue_79 : decode cX3_addValue 79 = .ok (.goto 20, 3) := by decide +kernel
theorem dX3_addValue_82 : decode cX3_addValue 82 = .ok (.aload_n 0, 1) := by decide +kernel
theorem dX3_addValue_83 : decode cX3_addValue 83 = .ok (.bipush 7, 2) := by decide +kernel
theorem dX3_addValue_85 : decode cX3_addValue 85 = .ok (.iconst 3, 1) := by decide +kernel
theorem dX3_addValue_86 : decode cX3_addValue 86 = .ok (.invokevirtual 78, 3) := by decide +kernel
theorem dX3_addValue_89 : decode cX3_addValue 89 = .ok (.aload_n 0, 1) := by decide +kernel
theorem dX3_addValue_90 : decode cX3_addValue 90 = .ok (.iload_n 1, 1) := by decide +kernel
theorem dX3_addValue_91 : decode cX3_addValue 91 = .ok (.ldc 92, 2) := by decide +kernel
theorem dX3_addValue_93 : decode cX3_addValue 93 = .ok (.iadd, 1) := by decide +kernel
theorem dX3_addValue_94 : decode cX3_addValue 94 = .ok (.bipush 19, 2) := by decide +kernel
theorem dX3_addValue_96 : decode cX3_addValue 96 = .ok (.invokevirtual 78, 3) := by decide +kernel
theorem dX3_addValue_99 : decode cX3_addValue 99 = .ok (.return_, 1) := by decide +kernel
theorem dX3_write_0 : decode cX3_write 0 = .ok (.iload_n 2, 1) := by decide +kernel
theorem dX3_write_1 : decode cX3_write 1 = .ok (.iconst 1, 1) := by decide +kernel
theorem dX3_write_2 : decode cX3_write 2 = .ok (.isub, 1) := by decide +kernel
theorem dX3_write_3 : decode cX3_write 3 = .ok (.istore_n 3, 1) := by decide +kernel
theorem dX3_write_4 : decode cX3_write 4 = .ok (.iload_n 3, 1) := by decide +kernel
theorem dX3_write_5 : decode cX3_write 5 = .ok (.ifCond .lt 64, 3) := by decide +kernel
theorem dX3_write_8 : decode cX3_write 8 = .ok (.aload_n 0, 1) := by decide +kernel
theorem dX3_write_9 : decode cX3_write 9 = .ok (.getfield 15, 3) := by decide +kernel
theorem dX3_write_12 : decode cX3_write 12 = .ok (.bipush 16, 2) := by decide +kernel
theorem dX3_write_14 : decode cX3_write 14 = .ok (.idiv, 1) := by decide +kernel
theorem dX3_write_15 : decode cX3_write 15 = .ok (.istore 4, 2) := by decide +kernel
theorem dX3_write_17 : decode cX3_write 17 = .ok (.iload 4, 2) := by decide +kernel
theorem dX3_write_19 : decode cX3_write 19 = .ok (.aload_n 0, 1) := by decide +kernel
theorem dX3_write_20 : decode cX3_write 20 = .ok (.getfield 11, 3) := by decide +kernel
theorem dX3_write_23 : decode cX3_write 23 = .ok (.arraylength, 1) := by decide +kernel
theorem dX3_write_24 : decode cX3_write 24 = .ok (.if_icmp .ge 29, 3) := by decide +kernel
theorem dX3_write_27 : decode cX3_write 27 = .ok (.aload_n 0, 1) := by decide +kernel
theorem dX3_write_28 : decode cX3_write 28 = .ok (.getfield 11, 3) := by decide +kernel
theorem dX3_write_31 : decode cX3_write 31 = .ok (.iload 4, 2) := by decide +kernel
theorem dX3_write_33 : decode cX3_write 33 = .ok (.dup2, 1) := by decide +kernel
theorem dX3_write_34 : decode cX3_write 34 = .ok (.iaload, 1) := by decide +kernel
theorem dX3_write_35 : decode cX3_write 35 = .ok (.iload_n 1, 1) := by decide +kernel
theorem dX3_write_36 : decode cX3_write 36 = .ok (.iload_n 3, 1) := by decide +kernel
theorem dX3_write_37 : decode cX3_write 37 = .ok (.ishr, 1) := by decide +kernel
theorem dX3_write_38 : decode cX3_write 38 = .ok (.iconst 1, 1) := by decide +kernel
theorem dX3_write_39 : decode cX3_write 39 = .ok (.iand, 1) := by decide +kernel
theorem dX3_write_40 : decode cX3_write 40 = .ok (.bipush 15, 2) := by decide +kernel
theorem dX3_write_42 : decode cX3_write 42 = .ok (.aload_n 0, 1) := by decide +kernel
theorem dX3_write_43 : decode cX3_write 43 = .ok (.getfield 15, 3) := by decide +kernel
theorem dX3_write_46 : decode cX3_write 46 = .ok (.bipush 16, 2) := by decide +kernel
theorem dX3_write_48 : decode cX3_write 48 = .ok (.irem, 1) := by decide +kernel
theorem dX3_write_49 : decode cX3_write 49 = .ok (.isub, 1) := by decide +kernel
theorem dX3_write_50 : decode cX3_write 50 = .ok (.ishl, 1) := by decide +kernel
theorem dX3_write_51 : decode cX3_write 51 = .ok (.ior, 1) := by decide +kernel
theorem dX3_write_52 : decode cX3_write 52 = .ok (.iastore, 1) := by decide +kernel
theorem dX3_write_53 : decode cX3_write 53 = .ok (.aload_n 0, 1) := by decide +kernel
theorem dX3_write_54 : decode cX3_write 54 = .ok (.dup, 1) := by decide +kernel
theorem dX3_write_55 : decode cX3_write 55 = .ok (.getfield 15, 3) := by decide +kernel
theorem dX3_write_58 : decode cX3_write 58 = .ok (.iconst 1, 1) := by decide +kernel
theorem dX3_write_59 : decode cX3_write 59 = .ok (.iadd, 1) := by decide +kernel
theorem dX3_write_60 : decode cX3_write 60 = .ok (.putfield 15, 3) := by decide +kernel
theorem dX3_write_63 : decode cX3_write 63 = .ok (.iinc 3 (-1), 3) := by decide +kernel
theorem dX3_write_66 : decode cX3_write 66 = .ok (.goto (-62), 3) := by decide +kernel
theorem dX3_write_69 : decode cX3_write 69 = .ok (.return_, 1) := by decide +kernel
set_option maxRecDepth 20000 in
theorem ggX4_init_X2_init : GoodIn wsX4_init wsX2_init := goodIn_r _ [10, 11, 12, 13, 14, 22, 23, 15, 16, 17, 18, 19, 20, 21] (by decide +kernel) (by decide +kernel)
set_option maxRecDepth 20000 in
theorem gX4_init_X2_init_n5 : GoodIn wsX4_init (wsX2_init) := ggX4_init_X2_init
theorem dX4_init_0 : decode cX4_init 0 = .ok (.aload_n 0, 1) := by decide +kernel
theorem dX4_init_1 : decode cX4_init 1 = .ok (.invokespecial 5, 3) := by decide +kernel
theorem dX4_init_4 : decode cX4_init 4 = .ok (.aload_n 0, 1) := by decide +kernel
theorem dX4_init_5 : decode cX4_init 5 = .ok (.sipush 160, 3) := by decide +kernel
theorem dX4_init_8 : decode cX4_init 8 = .ok (.newarray .int, 2) := by decide +kernel
theorem dX4_init_10 : decode cX4_init 10 = .ok (.putfield 11, 3) := by decide +kernel
theorem dX4_init_13 : decode cX4_init 13 = .ok (.aload_n 0, 1) := by decide +kernel
theorem dX4_init_14 : decode cX4_init 14 = .ok (.sipush 160, 3) := by decide +kernel
theorem dX4_init_17 : decode cX4_init 17 = .ok (.newarray .int, 2) := by decide +kernel
theorem dX4_init_19 : decode cX4_init 19 = .ok (.putfield 15, 3) := by decide +kernel
theorem dX4_init_22 : decode cX4_init 22 = .ok (.aload_n 0, 1) := by decide +kernel
theorem dX4_init_23 : decode cX4_init 23 = .ok (.bipush 9, 2) := by decide +kernel
theorem dX4_init_25 : decode cX4_init 25 = .ok (.newarray .int, 2) := by decide +kernel
theorem dX4_init_27 : decode cX4_init 27 = .ok (.putfield 18, 3) := by decide +kernel
theorem dX4_init_30 : decode cX4_init 30 = .ok (.aload_n 0, 1) := by decide +kernel
theorem dX4_init_31 : decode cX4_init 31 = .ok (.iconst 0, 1) := by decide +kernel
theorem dX4_init_32 : decode cX4_init 32 = .ok (.putfield 21, 3) := by decide +kernel
theorem dX4_init_35 : decode cX4_init 35 = .ok (.aload_n 0, 1) := by decide +kernel
theorem dX4_init_36 : decode cX4_init 36 = .ok (.iconst 0, 1) := by decide +kernel
theorem dX4_init_37 : decode cX4_init 37 = .ok (.putfield 25, 3) := by decide +kernel
theorem dX4_init_40 : decode cX4_init 40 = .ok (.aload_n 0, 1) := by decide +kernel
theorem dX4_init_41 : decode cX4_init 41 = .ok (.iconst (-1), 1) := by decide +kernel
theorem dX4_init_42 : decode cX4_init 42 = .ok (.putfield 28, 3) := by decide +kernel
theorem dX4_init_45 : decode cX4_init 45 = .ok (.return_, 1) := by decide +kernel
theorem dX4_number_0 : decode cX4_number 0 = .ok (.iload_n 1, 1) := by decide +kernel
theorem dX4_number_1 : decode cX4_number 1 = .ok (.ifCond .lt 21, 3) := by decide +kernel
theorem dX4_number_4 : decode cX4_number 4 = .ok (.iload_n 1, 1) := by decide +kernel
theorem dX4_number_5 : decode cX4_number 5 = .ok (.aload_n 0, 1) := by decide +kernel
theorem dX4_number_6 : decode cX4_number 6 = .ok (.getfield 11, 3) := by decide +kernel
theorem dX4_number_9 : decode cX4_number 9 = .ok (.arraylength, 1) := by decide +kernel
theorem dX4_number_10 : decode cX4_number 10 = .ok (.if_icmp .ge 12, 3) := by decide +kernel
theorem dX4_number_13 : decode cX4_number 13 = .ok (.iload_n 1, 1) := by decide +kernel
theorem dX4_number_14 : decode cX4_number 14 = .ok (.aload_n 0, 1) := by decide +kernel
theorem dX4_number_15 : decode cX4_number 15 = .ok (.getfield 15, 3) := by decide +kernel
theorem dX4_number_18 : decode cX4_number 18 = .ok (.arraylength, 1) := by decide +kernel
theorem dX4_number_19 : decode cX4_number 19 = .ok (.if_icmp .lt 5, 3) := by decide +kernel
theorem dX4_number_22 : decode cX4_number 22 = .ok (.iconst 0, 1) := by decide +kernel
theorem dX4_number_23 : decode cX4_number 23 = .ok (.ireturn, 1) := by decide +kernel
theorem dX4_number_24 : decode cX4_number 24 = .ok (.iload_n 2, 1) := by decide +kernel
theorem dX4_number_25 : decode cX4_number 25 = .ok (.lookupswitch 36 #[(0, 27), (1, 34)], 27) := by decide +kernel
theorem dX4_number_52 : decode cX4_number 52 = .ok (.aload_n 0, 1) := by decide +kernel
theorem dX4_number_53 : decode cX4_number 53 = .ok (.getfield 11, 3) := by decide +kernel
theorem dX4_number_56 : decode cX4_number 56 = .ok (.iload_n 1, 1) := by decide +kernel
theorem dX4_number_57 : decode cX4_number 57 = .ok (.iaload, 1) := by decide +kernel
theorem dX4_number_58 : decode cX4_number 58 = .ok (.ireturn, 1) := by decide +kernel
theorem dX4_number_59 : decode cX4_number 59 = .ok (.iconst 1, 1) := by decide +kernel
theorem dX4_number_60 : decode cX4_number 60 = .ok (.ireturn, 1) := by decide +kernel
theorem dX4_number_61 : decode cX4_number 61 = .ok (.aload_n 0, 1) := by decide +kernel
theorem dX4_number_62 : decode cX4_number 62 = .ok (.getfield 15, 3) := by decide +kernel
theorem dX4_number_65 : decode cX4_number 65 = .ok (.iload_n 1, 1) := by decide +kernel
theorem dX4_number_66 : decode cX4_number 66 = .ok (.iaload, 1) := by decide +kernel
theorem dX4_number_67 : decode cX4_number 67 = .ok (.ireturn, 1) := by decide +kernel
theorem dX4_blockCount_0 : decode cX4_blockCount 0 = .ok (.aload_n 0, 1) := by decide +kernel
theorem dX4_blockCount_1 : decode cX4_blockCount 1 = .ok (.getfield 21, 3) := by decide +kernel
theorem dX4_blockCount_4 : decode cX4_blockCount 4 = .ok (.iconst 1, 1) := by decide +kernel
theorem dX4_blockCount_5 : decode cX4_blockCount 5 = .ok (.iadd, 1) := by decide +kernel
theorem dX4_blockCount_6 : decode cX4_blockCount 6 = .ok (.ireturn, 1) := by decide +kernel
theorem dX4_openSize_0 : decode cX4_openSize 0 = .ok (.aload_n 0, 1) := by decide +kernel
theorem dX4_openSize_1 : decode cX4_openSize 1 = .ok (.getfield 31, 3) := by decide +kernel
theorem dX4_openSize_4 : decode cX4_openSize 4 = .ok (.aload_n 0, 1) := by decide +kernel
theorem dX4_openSize_5 : decode cX4_openSize 5 = .ok (.getfield 25, 3) := by decide +kernel
theorem dX4_openSize_8 : decode cX4_openSize 8 = .ok (.isub, 1) := by decide +kernel
theorem dX4_openSize_9 : decode cX4_openSize 9 = .ok (.ireturn, 1) := by decide +kernel
set_option maxRecDepth 20000 in
theorem ggX4_sizeOf_X4_openSize : GoodIn wsX4_sizeOf wsX4_openSize := goodIn_r _ [7, 8, 9, 10, 18, 19, 11, 12, 13, 14, 15, 16, 17] (by decide +kernel) (by decide +kernel)
set_option maxRecDepth 20000 in
theorem gX4_sizeOf_X4_openSize : GoodIn wsX4_sizeOf (wsV RX4 34 RX4 yX4_openSize wsX4_openSize) := goodIn_app (goodIn_of _ (by decide +kernel)) ggX4_sizeOf_X4_openSize
theorem dX4_sizeOf_0 : decode cX4_sizeOf 0 = .ok (.iload_n 1, 1) := by decide +kernel
theorem dX4_sizeOf_1 : decode cX4_sizeOf 1 = .ok (.ifCond .lt 29, 3) := by decide +kernel
theorem dX4_sizeOf_4 : decode cX4_sizeOf 4 = .ok (.iload_n 1, 1) := by decide +kernel
theorem dX4_sizeOf_5 : decode cX4_sizeOf 5 = .ok (.aload_n 0, 1) := by decide +kernel
theorem dX4_sizeOf_6 : decode cX4_sizeOf 6 = .ok (.getfield 21, 3) := by decide +kernel
theorem dX4_sizeOf_9 : decode cX4_sizeOf 9 = .ok (.if_icmp .ge 21, 3) := by decide +kernel
theorem dX4_sizeOf_12 : decode cX4_sizeOf 12 = .ok (.iload_n 1, 1) := by decide +kernel
theorem dX4_sizeOf_13 : decode cX4_sizeOf 13 = .ok (.aload_n 0, 1) := by decide +kernel
theorem dX4_sizeOf_14 : decode cX4_sizeOf 14 = .ok (.getfield 18, 3) := by decide +kernel
theorem dX4_sizeOf_17 : decode cX4_sizeOf 17 = .ok (.arraylength, 1) := by decide +kernel
theorem dX4_sizeOf_18 : decode cX4_sizeOf 18 = .ok (.if_icmp .ge 12, 3) := by decide +kernel
theorem dX4_sizeOf_21 : decode cX4_sizeOf 21 = .ok (.aload_n 0, 1) := by decide +kernel
theorem dX4_sizeOf_22 : decode cX4_sizeOf 22 = .ok (.getfield 18, 3) := by decide +kernel
theorem dX4_sizeOf_25 : decode cX4_sizeOf 25 = .ok (.iload_n 1, 1) := by decide +kernel
theorem dX4_sizeOf_26 : decode cX4_sizeOf 26 = .ok (.iaload, 1) := by decide +kernel
theorem dX4_sizeOf_27 : decode cX4_sizeOf 27 = .ok (.goto 7, 3) := by decide +kernel
theorem dX4_sizeOf_30 : decode cX4_sizeOf 30 = .ok (.aload_n 0, 1) := by decide +kernel
theorem dX4_sizeOf_31 : decode cX4_sizeOf 31 = .ok (.invokevirtual 34, 3) := by decide +kernel
theorem dX4_sizeOf_34 : decode cX4_sizeOf 34 = .ok (.ireturn, 1) := by decide +kernel
set_option maxRecDepth 20000 in
theorem ggX4_startOf_X4_sizeOf : GoodIn wsX4_startOf wsX4_sizeOf := goodIn_r _ [6, 1, 7, 8, 9, 10, 5, 11, 12, 13, 14, 15, 16, 17, 18, 19, 20, 21, 22, 23] (by decide +kernel) (by decide +kernel)
set_option maxRecDepth 20000 in
theorem gX4_startOf_X4_sizeOf : GoodIn wsX4_startOf (wsV RX4 38 RX4 yX4_sizeOf wsX4_sizeOf) := goodIn_app (goodIn_of _ (by decide +kernel)) ggX4_startOf_X4_sizeOf
theorem dX4_startOf_0 : decode cX4_startOf 0 = .ok (.iconst 0, 1) := by decide +kernel
theorem dX4_startOf_1 : decode cX4_startOf 1 = .ok (.istore_n 2, 1) := by decide +kernel
theorem dX4_startOf_2 : decode cX4_startOf 2 = .ok (.iconst 0, 1) := by decide +kernel
theorem dX4_startOf_3 : decode cX4_startOf 3 = .ok (.istore_n 3, 1) := by decide +kernel
theorem dX4_startOf_4 : decode cX4_startOf 4 = .ok (.iload_n 3, 1) := by decide +kernel
theorem dX4_startOf_5 : decode cX4_startOf 5 = .ok (.iload_n 1, 1) := by decide +kernel
theorem dX4_startOf_6 : decode cX4_startOf 6 = .ok (.if_icmp .ge 25, 3) := by decide +kernel
theorem dX4_startOf_9 : decode cX4_startOf 9 = .ok (.iload_n 3, 1) := by decide +kernel
theorem dX4_startOf_10 : decode cX4_startOf 10 = .ok (.aload_n 0, 1) := by decide +kernel
theorem dX4_startOf_11 : decode cX4_startOf 11 = .ok (.getfield 21, 3) := by decide +kernel
theorem dX4_startOf_14 : decode cX4_startOf 14 = .ok (.if_icmp .ge 17, 3) := by decide +kernel
theorem dX4_startOf_17 : decode cX4_startOf 17 = .ok (.iload_n 2, 1) := by decide +kernel
theorem dX4_startOf_18 : decode cX4_startOf 18 = .ok (.aload_n 0, 1) := by decide +kernel
theorem dX4_startOf_19 : decode cX4_startOf 19 = .ok (.iload_n 3, 1) := by decide +kernel
theorem dX4_startOf_20 : decode cX4_startOf 20 = .ok (.invokevirtual 38, 3) := by decide +kernel
theorem dX4_startOf_23 : decode cX4_startOf 23 = .ok (.iadd, 1) := by decide +kernel
theorem dX4_startOf_24 : decode cX4_startOf 24 = .ok (.istore_n 2, 1) := by decide +kernel
theorem dX4_startOf_25 : decode cX4_startOf 25 = .ok (.iinc 3 1, 3) := by decide +kernel
theorem dX4_startOf_28 : decode cX4_startOf 28 = .ok (.goto (-24), 3) := by decide +kernel
theorem dX4_startOf_31 : decode cX4_startOf 31 = .ok (.iload_n 2, 1) := by decide +kernel
theorem dX4_startOf_32 : decode cX4_startOf 32 = .ok (.ireturn, 1) := by decide +kernel
theorem dX4_isLate_0 : decode cX4_isLate 0 = .ok (.iload_n 1, 1) := by decide +kernel
theorem dX4_isLate_1 : decode cX4_isLate 1 = .ok (.aload_n 0, 1) := by decide +kernel
theorem dX4_isLate_2 : decode cX4_isLate 2 = .ok (.getfield 28, 3) := by decide +kernel
theorem dX4_isLate_5 : decode cX4_isLate 5 = .ok (.if_icmp .gt 7, 3) := by decide +kernel
theorem dX4_isLate_8 : decode cX4_isLate 8 = .ok (.iconst 1, 1) := by decide +kernel
theorem dX4_isLate_9 : decode cX4_isLate 9 = .ok (.goto 4, 3) := by decide +kernel
theorem dX4_isLate_12 : decode cX4_isLate 12 = .ok (.iconst 0, 1) := by decide +kernel
theorem dX4_isLate_13 : decode cX4_isLate 13 = .ok (.ireturn, 1) := by decide +kernel
set_option maxRecDepth 20000 in
theorem ggX4_placeOf_X4_number : GoodIn wsX4_placeOf wsX4_number := goodIn_r _ [8, 9, 10, 11, 12, 13, 14, 15, 16, 17] (by decide +kernel) (by decide +kernel)
set_option maxRecDepth 20000 in
theorem gX4_placeOf_X4_number : GoodIn wsX4_placeOf (wsV RX4 42 RX4 yX4_number wsX4_number) := goodIn_app (goodIn_of _ (by decide +kernel)) ggX4_placeOf_X4_number
theorem dX4_placeOf_0 : decode cX4_placeOf 0 = .ok (.aload_n 0, 1) := by decide +kernel
theorem dX4_placeOf_1 : decode cX4_placeOf 1 = .ok (.getfield 25, 3) := by decide +kernel
theorem dX4_placeOf_4 : decode cX4_placeOf 4 = .ok (.istore_n 2, 1) := by decide +kernel
theorem dX4_placeOf_5 : decode cX4_placeOf 5 = .ok (.iload_n 2, 1) := by decide +kernel
theorem dX4_placeOf_6 : decode cX4_placeOf 6 = .ok (.aload_n 0, 1) := by decide +kernel
theorem dX4_placeOf_7 : decode cX4_placeOf 7 = .ok (.getfield 31, 3) := by decide +kernel
theorem dX4_placeOf_10 : decode cX4_placeOf 10 = .ok (.if_icmp .ge 21, 3) := by decide +kernel
theorem dX4_placeOf_13 : decode cX4_placeOf 13 = .ok (.aload_n 0, 1) := by decide +kernel
theorem dX4_placeOf_14 : decode cX4_placeOf 14 = .ok (.iload_n 2, 1) := by decide +kernel
theorem dX4_placeOf_15 : decode cX4_placeOf 15 = .ok (.iconst 0, 1) := by decide +kernel
theorem dX4_placeOf_16 : decode cX4_placeOf 16 = .ok (.invokevirtual 42, 3) := by decide +kernel
theorem dX4_placeOf_19 : decode cX4_placeOf 19 = .ok (.iload_n 1, 1) := by decide +kernel
theorem dX4_placeOf_20 : decode cX4_placeOf 20 = .ok (.if_icmp .lt 5, 3) := by decide +kernel
theorem dX4_placeOf_23 : decode cX4_placeOf 23 = .ok (.iload_n 2, 1) := by decide +kernel
theorem dX4_placeOf_24 : decode cX4_placeOf 24 = .ok (.ireturn, 1) := by decide +kernel
theorem dX4_placeOf_25 : decode cX4_placeOf 25 = .ok (.iinc 2 1, 3) := by decide +kernel
theorem dX4_placeOf_28 : decode cX4_placeOf 28 = .ok (.goto (-23), 3) := by decide +kernel
theorem dX4_placeOf_31 : decode cX4_placeOf 31 = .ok (.aload_n 0, 1) := by decide +kernel
theorem dX4_placeOf_32 : decode cX4_placeOf 32 = .ok (.getfield 31, 3) := by decide +kernel
theorem dX4_placeOf_35 : decode cX4_placeOf 35 = .ok (.ireturn, 1) := by decide +kernel
set_option maxRecDepth 20000 in
theorem ggX4_isTakenAt_X4_number : GoodIn wsX4_isTakenAt wsX4_number := goodIn_r _ [7, 8, 9, 12, 13, 14, 15, 16, 17, 18] (by decide +kernel) (by decide +kernel)
set_option maxRecDepth 20000 in
theorem gX4_isTakenAt_X4_number : GoodIn wsX4_isTakenAt (wsV RX4 42 RX4 yX4_number wsX4_number) := goodIn_app (goodIn_of _ (by decide +kernel)) ggX4_isTakenAt_X4_number
theorem dX4_isTakenAt_0 : decode cX4_isTakenAt 0 = .ok (.iload_n 1, 1) := by decide +kernel
theorem dX4_isTakenAt_1 : decode cX4_isTakenAt 1 = .ok (.aload_n 0, 1) := by decide +kernel
theorem dX4_isTakenAt_2 : decode cX4_isTakenAt 2 = .ok (.getfield 31, 3) := by decide +kernel
theorem dX4_isTakenAt_5 : decode cX4_isTakenAt 5 = .ok (.if_icmp .ge 17, 3) := by decide +kernel
theorem dX4_isTakenAt_8 : decode cX4_isTakenAt 8 = .ok (.aload_n 0, 1) := by decide +kernel
theorem dX4_isTakenAt_9 : decode cX4_isTakenAt 9 = .ok (.iload_n 1, 1) := by decide +kernel
theorem dX4_isTakenAt_10 : decode cX4_isTakenAt 10 = .ok (.iconst 0, 1) := by decide +kernel
theorem dX4_isTakenAt_11 : decode cX4_isTakenAt 11 = .ok (.invokevirtual 42, 3) := by decide +kernel
theorem dX4_isTakenAt_14 : decode cX4_isTakenAt 14 = .ok (.iload_n 2, 1) := by decide +kernel
theorem dX4_isTakenAt_15 : decode cX4_isTakenAt 15 = .ok (.if_icmp .ne 7, 3) := by decide +kernel
theorem dX4_isTakenAt_18 : decode cX4_isTakenAt 18 = .ok (.iconst 1, 1) := by decide +kernel
theorem dX4_isTakenAt_19 : decode cX4_isTakenAt 19 = .ok (.goto 4, 3) := by decide +kernel
theorem dX4_isTakenAt_22 : decode cX4_isTakenAt 22 = .ok (.iconst 0, 1) := by decide +kernel
theorem dX4_isTakenAt_23 : decode cX4_isTakenAt 23 = .ok (.ireturn, 1) := by decide +kernel
set_option maxRecDepth 20000 in
theorem ggX4_add_X4_placeOf : GoodIn wsX4_add wsX4_placeOf := goodIn_r _ [7, 8, 1, 2, 9, 10, 11, 6, 12, 13, 14, 29, 30, 31, 32, 33, 34, 35, 27, 28] (by decide +kernel) (by decide +kernel)
set_option maxRecDepth 20000 in
theorem gX4_add_X4_placeOf : GoodIn wsX4_add (wsV RX4 46 RX4 yX4_placeOf wsX4_placeOf) := goodIn_app (goodIn_of _ (by decide +kernel)) ggX4_add_X4_placeOf
set_option maxRecDepth 20000 in
theorem ggX4_add_X4_isTakenAt : GoodIn wsX4_add wsX4_isTakenAt := goodIn_r _ [18, 1, 2, 9, 10, 11, 6, 12, 13, 14, 27, 28, 29, 30, 31, 32, 33, 34, 35] (by decide +kernel) (by decide +kernel)
set_option maxRecDepth 20000 in
theorem gX4_add_X4_isTakenAt : GoodIn wsX4_add (wsV RX4 49 RX4 yX4_isTakenAt wsX4_isTakenAt) := goodIn_app (goodIn_of _ (by decide +kernel)) ggX4_add_X4_isTakenAt
set_option maxRecDepth 20000 in
theorem ggX4_add_X4_copyPoint : GoodIn wsX4_add wsX4_copyPoint := goodIn_r _ [22, 9, 10, 11, 6, 12, 13, 14, 23, 24, 25, 26, 29, 30, 31, 32, 33, 34, 35] (by decide +kernel) (by decide +kernel)
set_option maxRecDepth 20000 in
theorem gX4_add_X4_copyPoint : GoodIn wsX4_add (wsV RX4 53 RX4 yX4_copyPoint wsX4_copyPoint) := goodIn_app (goodIn_of _ (by decide +kernel)) ggX4_add_X4_copyPoint
set_option maxRecDepth 20000 in
theorem ggX4_add_X4_write : GoodIn wsX4_add wsX4_write := goodIn_r _ [26, 13, 14, 29, 30, 31, 32, 33, 34, 35] (by decide +kernel) (by decide +kernel)
set_option maxRecDepth 20000 in
theorem gX4_add_X4_write : GoodIn wsX4_add (wsV RX4 57 RX4 yX4_write wsX4_write) := goodIn_app (goodIn_of _ (by decide +kernel)) ggX4_add_X4_write
theorem dX4_add_0 : decode cX4_add 0 = .ok (.aload_n 0, 1) := by decide +kernel
theorem dX4_add_1 : decode cX4_add 1 = .ok (.iload_n 1, 1) := by decide +kernel
theorem dX4_add_2 : decode cX4_add 2 = .ok (.invokevirtual 46, 3) := by decide +kernel
theorem dX4_add_5 : decode cX4_add 5 = .ok (.istore_n 3, 1) := by decide +kernel
theorem dX4_add_6 : decode cX4_add 6 = .ok (.aload_n 0, 1) := by decide +kernel
theorem dX4_add_7 : decode cX4_add 7 = .ok (.iload_n 3, 1) := by decide +kernel
theorem dX4_add_8 : decode cX4_add 8 = .ok (.iload_n 1, 1) := by decide +kernel
theorem dX4_add_9 : decode cX4_add 9 = .ok (.invokevirtual 49, 3) := by decide +kernel
theorem dX4_add_12 : decode cX4_add 12 = .ok (.ifCond .ne 41, 3) := by decide +kernel
theorem dX4_add_15 : decode cX4_add 15 = .ok (.aload_n 0, 1) := by decide +kernel
theorem dX4_add_16 : decode cX4_add 16 = .ok (.getfield 31, 3) := by decide +kernel
theorem dX4_add_19 : decode cX4_add 19 = .ok (.istore 4, 2) := by decide +kernel
theorem dX4_add_21 : decode cX4_add 21 = .ok (.iload 4, 2) := by decide +kernel
theorem dX4_add_23 : decode cX4_add 23 = .ok (.iload_n 3, 1) := by decide +kernel
theorem dX4_add_24 : decode cX4_add 24 = .ok (.if_icmp .le 19, 3) := by decide +kernel
theorem dX4_add_27 : decode cX4_add 27 = .ok (.aload_n 0, 1) := by decide +kernel
theorem dX4_add_28 : decode cX4_add 28 = .ok (.iload 4, 2) := by decide +kernel
theorem dX4_add_30 : decode cX4_add 30 = .ok (.iconst 1, 1) := by decide +kernel
theorem dX4_add_31 : decode cX4_add 31 = .ok (.isub, 1) := by decide +kernel
theorem dX4_add_32 : decode cX4_add 32 = .ok (.iload 4, 2) := by decide +kernel
theorem dX4_add_34 : decode cX4_add 34 = .ok (.invokevirtual 53, 3) := by decide +kernel
theorem dX4_add_37 : decode cX4_add 37 = .ok (.iinc 4 (-1), 3) := by decide +kernel
theorem dX4_add_40 : decode cX4_add 40 = .ok (.goto (-19), 3) := by decide +kernel
theorem dX4_add_43 : decode cX4_add 43 = .ok (.aload_n 0, 1) := by decide +kernel
theorem dX4_add_44 : decode cX4_add 44 = .ok (.dup, 1) := by decide +kernel
theorem dX4_add_45 : decode cX4_add 45 = .ok (.getfield 31, 3) := by decide +kernel
theorem dX4_add_48 : decode cX4_add 48 = .ok (.iconst 1, 1) := by decide +kernel
theorem dX4_add_49 : decode cX4_add 49 = .ok (.iadd, 1) := by decide +kernel
theorem dX4_add_50 : decode cX4_add 50 = .ok (.putfield 31, 3) := by decide +kernel
theorem dX4_add_53 : decode cX4_add 53 = .ok (.aload_n 0, 1) := by decide +kernel
theorem dX4_add_54 : decode cX4_add 54 = .ok (.iload_n 3, 1) := by decide +kernel
theorem dX4_add_55 : decode cX4_add 55 = .ok (.iload_n 1, 1) := by decide +kernel
theorem dX4_add_56 : decode cX4_add 56 = .ok (.iload_n 2, 1) := by decide +kernel
theorem dX4_add_57 : decode cX4_add 57 = .ok (.invokevirtual 57, 3) := by decide +kernel
theorem dX4_add_60 : decode cX4_add 60 = .ok (.return_, 1) := by decide +kernel
theorem dX4_hasTooManySealed_0 : decode cX4_hasTooManySealed 0 = .ok (.aload_n 0, 1) := by decide +kernel
theorem dX4_hasTooManySealed_1 : decode cX4_hasTooManySealed 1 = .ok (.getfield 21, 3) := by decide +kernel
theorem dX4_hasTooManySealed_4 : decode cX4_hasTooManySealed 4 = .ok (.bipush 8, 2) := by decide +kernel
theorem dX4_hasTooManySealed_6 : decode cX4_hasTooManySealed 6 = .ok (.if_icmp .le 7, 3) := by decide +kernel
theorem dX4_hasTooManySealed_9 : decode cX4_hasTooManySealed 9 = .ok (.iconst 1, 1) := by decide +kernel
theorem dX4_hasTooManySealed_10 : decode cX4_hasTooManySealed 10 = .ok (.goto 4, 3) := by decide +kernel
theorem dX4_hasTooManySealed_13 : decode cX4_hasTooManySealed 13 = .ok (.iconst 0, 1) := by decide +kernel
theorem dX4_hasTooManySealed_14 : decode cX4_hasTooManySealed 14 = .ok (.ireturn, 1) := by decide +kernel
set_option maxRecDepth 20000 in
theorem ggX4_seal_X4_openSize : GoodIn wsX4_seal wsX4_openSize := goodIn_r _ [11, 3, 4, 5, 25, 26, 18, 19, 20, 21, 22, 23, 24] (by decide +kernel) (by decide +kernel)
set_option maxRecDepth 20000 in
theorem gX4_seal_X4_openSize : GoodIn wsX4_seal (wsV RX4 34 RX4 yX4_openSize wsX4_openSize) := goodIn_app (goodIn_of _ (by decide +kernel)) ggX4_seal_X4_openSize
set_option maxRecDepth 20000 in
theorem ggX4_seal_X4_number : GoodIn wsX4_seal wsX4_number := goodIn_r _ [15, 16, 17, 18, 19, 20, 21, 22, 23, 24] (by decide +kernel) (by decide +kernel)
set_option maxRecDepth 20000 in
theorem gX4_seal_X4_number : GoodIn wsX4_seal (wsV RX4 42 RX4 yX4_number wsX4_number) := goodIn_app (goodIn_of _ (by decide +kernel)) ggX4_seal_X4_number
theorem dX4_seal_0 : decode cX4_seal 0 = .ok (.aload_n 0, 1) := by decide +kernel
theorem dX4_seal_1 : decode cX4_seal 1 = .ok (.getfield 21, 3) := by decide +kernel
theorem dX4_seal_4 : decode cX4_seal 4 = .ok (.aload_n 0, 1) := by decide +kernel
theorem dX4_seal_5 : decode cX4_seal 5 = .ok (.getfield 18, 3) := by decide +kernel
theorem dX4_seal_8 : decode cX4_seal 8 = .ok (.arraylength, 1) := by decide +kernel
theorem dX4_seal_9 : decode cX4_seal 9 = .ok (.if_icmp .ge 56, 3) := by decide +kernel
theorem dX4_seal_12 : decode cX4_seal 12 = .ok (.aload_n 0, 1) := by decide +kernel
theorem dX4_seal_13 : decode cX4_seal 13 = .ok (.invokevirtual 34, 3) := by decide +kernel
theorem dX4_seal_16 : decode cX4_seal 16 = .ok (.ifCond .le 49, 3) := by decide +kernel
theorem dX4_seal_19 : decode cX4_seal 19 = .ok (.aload_n 0, 1) := by decide +kernel
theorem dX4_seal_20 : decode cX4_seal 20 = .ok (.getfield 18, 3) := by decide +kernel
theorem dX4_seal_23 : decode cX4_seal 23 = .ok (.aload_n 0, 1) := by decide +kernel
theorem dX4_seal_24 : decode cX4_seal 24 = .ok (.getfield 21, 3) := by decide +kernel
theorem dX4_seal_27 : decode cX4_seal 27 = .ok (.aload_n 0, 1) := by decide +kernel
theorem dX4_seal_28 : decode cX4_seal 28 = .ok (.invokevirtual 34, 3) := by decide +kernel
theorem dX4_seal_31 : decode cX4_seal 31 = .ok (.iastore, 1) := by decide +kernel
theorem dX4_seal_32 : decode cX4_seal 32 = .ok (.aload_n 0, 1) := by decide +kernel
theorem dX4_seal_33 : decode cX4_seal 33 = .ok (.dup, 1) := by decide +kernel
theorem dX4_seal_34 : decode cX4_seal 34 = .ok (.getfield 21, 3) := by decide +kernel
theorem dX4_seal_37 : decode cX4_seal 37 = .ok (.iconst 1, 1) := by decide +kernel
theorem dX4_seal_38 : decode cX4_seal 38 = .ok (.iadd, 1) := by decide +kernel
theorem dX4_seal_39 : decode cX4_seal 39 = .ok (.putfield 21, 3) := by decide +kernel
theorem dX4_seal_42 : decode cX4_seal 42 = .ok (.aload_n 0, 1) := by decide +kernel
theorem dX4_seal_43 : decode cX4_seal 43 = .ok (.aload_n 0, 1) := by decide +kernel
theorem dX4_seal_44 : decode cX4_seal 44 = .ok (.getfield 31, 3) := by decide +kernel
theorem dX4_seal_47 : decode cX4_seal 47 = .ok (.putfield 25, 3) := by decide +kernel
theorem dX4_seal_50 : decode cX4_seal 50 = .ok (.aload_n 0, 1) := by decide +kernel
theorem dX4_seal_51 : decode cX4_seal 51 = .ok (.aload_n 0, 1) := by decide +kernel
theorem dX4_seal_52 : decode cX4_seal 52 = .ok (.aload_n 0, 1) := by decide +kernel
theorem dX4_seal_53 : decode cX4_seal 53 = .ok (.getfield 31, 3) := by decide +kernel
theorem dX4_seal_56 : decode cX4_seal 56 = .ok (.iconst 1, 1) := by decide +kernel
theorem dX4_seal_57 : decode cX4_seal 57 = .ok (.isub, 1) := by decide +kernel
theorem dX4_seal_58 : decode cX4_seal 58 = .ok (.iconst 0, 1) := by decide +kernel
theorem dX4_seal_59 : decode cX4_seal 59 = .ok (.invokevirtual 42, 3) := by decide +kernel
theorem dX4_seal_62 : decode cX4_seal 62 = .ok (.putfield 28, 3) := by decide +kernel
theorem dX4_seal_65 : decode cX4_seal 65 = .ok (.return_, 1) := by decide +kernel
set_option maxRecDepth 20000 in
theorem ggX4_dropFirstBlock_X4_sizeOf : GoodIn wsX4_dropFirstBlock wsX4_sizeOf := goodIn_r _ [10, 1, 4, 11, 12, 13, 9, 14, 2, 3, 5, 29, 30, 31, 32, 33, 34, 35, 36, 37] (by decide +kernel) (by decide +kernel)
set_option maxRecDepth 20000 in
theorem gX4_dropFirstBlock_X4_sizeOf : GoodIn wsX4_dropFirstBlock (wsV RX4 38 RX4 yX4_sizeOf wsX4_sizeOf) := goodIn_app (goodIn_of _ (by decide +kernel)) ggX4_dropFirstBlock_X4_sizeOf
set_option maxRecDepth 20000 in
theorem ggX4_dropFirstBlock_X4_copyPoint : GoodIn wsX4_dropFirstBlock wsX4_copyPoint := goodIn_r _ [18, 19, 20, 21, 9, 22, 23, 24, 25, 26, 27, 28, 29, 30, 31, 32, 33, 34, 35] (by decide +kernel) (by decide +kernel)
set_option maxRecDepth 20000 in
theorem gX4_dropFirstBlock_X4_copyPoint : GoodIn wsX4_dropFirstBlock (wsV RX4 53 RX4 yX4_copyPoint wsX4_copyPoint) := goodIn_app (goodIn_of _ (by decide +kernel)) ggX4_dropFirstBlock_X4_copyPoint
theorem dX4_dropFirstBlock_0 : decode cX4_dropFirstBlock 0 = .ok (.aload_n 0, 1) := by decide +kernel
theorem dX4_dropFirstBlock_1 : decode cX4_dropFirstBlock 1 = .ok (.getfield 21, 3) := by decide +kernel
theorem dX4_dropFirstBlock_4 : decode cX4_dropFirstBlock 4 = .ok (.ifCond .gt 4, 3) := by decide +kernel
theorem dX4_dropFirstBlock_7 : decode cX4_dropFirstBlock 7 = .ok (.return_, 1) := by decide +kernel
theorem dX4_dropFirstBlock_8 : decode cX4_dropFirstBlock 8 = .ok (.aload_n 0, 1) := by decide +kernel
theorem dX4_dropFirstBlock_9 : decode cX4_dropFirstBlock 9 = .ok (.iconst 0, 1) := by decide +kernel
theorem dX4_dropFirstBlock_10 : decode cX4_dropFirstBlock 10 = .ok (.invokevirtual 38, 3) := by decide +kernel
theorem dX4_dropFirstBlock_13 : decode cX4_dropFirstBlock 13 = .ok (.istore_n 1, 1) := by decide +kernel
theorem dX4_dropFirstBlock_14 : decode cX4_dropFirstBlock 14 = .ok (.iload_n 1, 1) := by decide +kernel
theorem dX4_dropFirstBlock_15 : decode cX4_dropFirstBlock 15 = .ok (.istore_n 2, 1) := by decide +kernel
theorem dX4_dropFirstBlock_16 : decode cX4_dropFirstBlock 16 = .ok (.iload_n 2, 1) := by decide +kernel
theorem dX4_dropFirstBlock_17 : decode cX4_dropFirstBlock 17 = .ok (.aload_n 0, 1) := by decide +kernel
theorem dX4_dropFirstBlock_18 : decode cX4_dropFirstBlock 18 = .ok (.getfield 31, 3) := by decide +kernel
theorem dX4_dropFirstBlock_21 : decode cX4_dropFirstBlock 21 = .ok (.if_icmp .ge 17, 3) := by decide +kernel
theorem dX4_dropFirstBlock_24 : decode cX4_dropFirstBlock 24 = .ok (.aload_n 0, 1) := by decide +kernel
theorem dX4_dropFirstBlock_25 : decode cX4_dropFirstBlock 25 = .ok (.iload_n 2, 1) := by decide +kernel
theorem dX4_dropFirstBlock_26 : decode cX4_dropFirstBlock 26 = .ok (.iload_n 2, 1) := by decide +kernel
theorem dX4_dropFirstBlock_27 : decode cX4_dropFirstBlock 27 = .ok (.iload_n 1, 1) := by decide +kernel
theorem dX4_dropFirstBlock_28 : decode cX4_dropFirstBlock 28 = .ok (.isub, 1) := by decide +kernel
theorem dX4_dropFirstBlock_29 : decode cX4_dropFirstBlock 29 = .ok (.invokevirtual 53, 3) := by decide +kernel
theorem dX4_dropFirstBlock_32 : decode cX4_dropFirstBlock 32 = .ok (.iinc 2 1, 3) := by decide +kernel
theorem dX4_dropFirstBlock_35 : decode cX4_dropFirstBlock 35 = .ok (.goto (-19), 3) := by decide +kernel
theorem dX4_dropFirstBlock_38 : decode cX4_dropFirstBlock 38 = .ok (.iconst 1, 1) := by decide +kernel
theorem dX4_dropFirstBlock_39 : decode cX4_dropFirstBlock 39 = .ok (.istore_n 2, 1) := by decide +kernel
theorem dX4_dropFirstBlock_40 : decode cX4_dropFirstBlock 40 = .ok (.iload_n 2, 1) := by decide +kernel
theorem dX4_dropFirstBlock_41 : decode cX4_dropFirstBlock 41 = .ok (.aload_n 0, 1) := by decide +kernel
theorem dX4_dropFirstBlock_42 : decode cX4_dropFirstBlock 42 = .ok (.getfield 21, 3) := by decide +kernel
theorem dX4_dropFirstBlock_45 : decode cX4_dropFirstBlock 45 = .ok (.if_icmp .ge 32, 3) := by decide +kernel
theorem dX4_dropFirstBlock_48 : decode cX4_dropFirstBlock 48 = .ok (.iload_n 2, 1) := by decide +kernel
theorem dX4_dropFirstBlock_49 : decode cX4_dropFirstBlock 49 = .ok (.aload_n 0, 1) := by decide +kernel
theorem dX4_dropFirstBlock_50 : decode cX4_dropFirstBlock 50 = .ok (.getfield 18, 3) := by decide +kernel
theorem dX4_dropFirstBlock_53 : decode cX4_dropFirstBlock 53 = .ok (.arraylength, 1) := by decide +kernel
theorem dX4_dropFirstBlock_54 : decode cX4_dropFirstBlock 54 = .ok (.if_icmp .ge 23, 3) := by decide +kernel
theorem dX4_dropFirstBlock_57 : decode cX4_dropFirstBlock 57 = .ok (.aload_n 0, 1) := by decide +kernel
theorem dX4_dropFirstBlock_58 : decode cX4_dropFirstBlock 58 = .ok (.getfield 18, 3) := by decide +kernel
theorem dX4_dropFirstBlock_61 : decode cX4_dropFirstBlock 61 = .ok (.iload_n 2, 1) := by decide +kernel
theorem dX4_dropFirstBlock_62 : decode cX4_dropFirstBlock 62 = .ok (.iconst 1, 1) := by decide +kernel
theorem dX4_dropFirstBlock_63 : decode cX4_dropFirstBlock 63 = .ok (.isub, 1) := by decide +kernel
theorem dX4_dropFirstBlock_64 : decode cX4_dropFirstBlock 64 = .ok (.aload_n 0, 1) := by decide +kernel
theorem dX4_dropFirstBlock_65 : decode cX4_dropFirstBlock 65 = .ok (.getfield 18, 3) := by decide +kernel
theorem dX4_dropFirstBlock_68 : decode cX4_dropFirstBlock 68 = .ok (.iload_n 2, 1) := by decide +kernel
theorem dX4_dropFirstBlock_69 : decode cX4_dropFirstBlock 69 = .ok (.iaload, 1) := by decide +kernel
theorem dX4_dropFirstBlock_70 : decode cX4_dropFirstBlock 70 = .ok (.iastore, 1) := by decide +kernel
theorem dX4_dropFirstBlock_71 : decode cX4_dropFirstBlock 71 = .ok (.iinc 2 1, 3) := by decide +kernel
theorem dX4_dropFirstBlock_74 : decode cX4_dropFirstBlock 74 = .ok (.goto (-34), 3) := by decide +kernel
theorem dX4_dropFirstBlock_77 : decode cX4_dropFirstBlock 77 = .ok (.aload_n 0, 1) := by decide +kernel
theorem dX4_dropFirstBlock_78 : decode cX4_dropFirstBlock 78 = .ok (.dup, 1) := by decide +kernel
theorem dX4_dropFirstBlock_79 : decode cX4_dropFirstBlock 79 = .ok (.getfield 31, 3) := by decide +kernel
theorem dX4_dropFirstBlock_82 : decode cX4_dropFirstBlock 82 = .ok (.iload_n 1, 1) := by decide +kernel
theorem dX4_dropFirstBlock_83 : decode cX4_dropFirstBlock 83 = .ok (.isub, 1) := by decide +kernel
theorem dX4_dropFirstBlock_84 : decode cX4_dropFirstBlock 84 = .ok (.putfield 31, 3) := by decide +kernel
theorem dX4_dropFirstBlock_87 : decode cX4_dropFirstBlock 87 = .ok (.aload_n 0, 1) := by decide +kernel
theorem dX4_dropFirstBlock_88 : decode cX4_dropFirstBlock 88 = .ok (.dup, 1) := by decide +kernel
theorem dX4_dropFirstBlock_89 : decode cX4_dropFirstBlock 89 = .ok (.getfield 25, 3) := by decide +kernel
theorem dX4_dropFirstBlock_92 : decode cX4_dropFirstBlock 92 = .ok (.iload_n 1, 1) := by decide +kernel
theorem dX4_dropFirstBlock_93 : decode cX4_dropFirstBlock 93 = .ok (.isub, 1) := by decide +kernel
theorem dX4_dropFirstBlock_94 : decode cX4_dropFirstBlock 94 = .ok (.putfield 25, 3) := by decide +kernel
theorem dX4_dropFirstBlock_97 : decode cX4_dropFirstBlock 97 = .ok (.aload_n 0, 1) := by decide +kernel
theorem dX4_dropFirstBlock_98 : decode cX4_dropFirstBlock 98 = .ok (.dup, 1) := by decide +kernel
theorem dX4_dropFirstBlock_99 : decode cX4_dropFirstBlock 99 = .ok (.getfield 21, 3) := by decide +kernel
theorem dX4_dropFirstBlock_102 : decode cX4_dropFirstBlock 102 = .ok (.iconst 1, 1) := by decide +kernel
theorem dX4_dropFirstBlock_103 : decode cX4_dropFirstBlock 103 = .ok (.isub, 1) := by decide +kernel
theorem dX4_dropFirstBlock_104 : decode cX4_dropFirstBlock 104 = .ok (.putfield 21, 3) := by decide +kernel
theorem dX4_dropFirstBlock_107 : decode cX4_dropFirstBlock 107 = .ok (.return_, 1) := by decide +kernel
set_option maxRecDepth 20000 in
theorem ggX4_blocksBelow_X4_sizeOf : GoodIn wsX4_blocksBelow wsX4_sizeOf := goodIn_r _ [6, 1, 7, 8, 9, 10, 5, 11, 12, 13, 14, 21, 22, 23, 24, 25, 26, 27, 28, 29] (by decide +kernel) (by decide +kernel)
set_option maxRecDepth 20000 in
theorem gX4_blocksBelow_X4_sizeOf : GoodIn wsX4_blocksBelow (wsV RX4 38 RX4 yX4_sizeOf wsX4_sizeOf) := goodIn_app (goodIn_of _ (by decide +kernel)) ggX4_blocksBelow_X4_sizeOf
set_option maxRecDepth 20000 in
theorem ggX4_blocksBelow_X4_number : GoodIn wsX4_blocksBelow wsX4_number := goodIn_r _ [18, 19, 20, 21, 22, 23, 24, 25, 26, 27] (by decide +kernel) (by decide +kernel)
set_option maxRecDepth 20000 in
theorem gX4_blocksBelow_X4_number : GoodIn wsX4_blocksBelow (wsV RX4 42 RX4 yX4_number wsX4_number) := goodIn_app (goodIn_of _ (by decide +kernel)) ggX4_blocksBelow_X4_number
theorem dX4_blocksBelow_0 : decode cX4_blocksBelow 0 = .ok (.iconst 0, 1) := by decide +kernel
theorem dX4_blocksBelow_1 : decode cX4_blocksBelow 1 = .ok (.istore_n 2, 1) := by decide +kernel
theorem dX4_blocksBelow_2 : decode cX4_blocksBelow 2 = .ok (.iconst 0, 1) := by decide +kernel
theorem dX4_blocksBelow_3 : decode cX4_blocksBelow 3 = .ok (.istore_n 3, 1) := by decide +kernel
theorem dX4_blocksBelow_4 : decode cX4_blocksBelow 4 = .ok (.iload_n 3, 1) := by decide +kernel
theorem dX4_blocksBelow_5 : decode cX4_blocksBelow 5 = .ok (.aload_n 0, 1) := by decide +kernel
theorem dX4_blocksBelow_6 : decode cX4_blocksBelow 6 = .ok (.getfield 21, 3) := by decide +kernel
theorem dX4_blocksBelow_9 : decode cX4_blocksBelow 9 = .ok (.if_icmp .ge 31, 3) := by decide +kernel
theorem dX4_blocksBelow_12 : decode cX4_blocksBelow 12 = .ok (.iload_n 2, 1) := by decide +kernel
theorem dX4_blocksBelow_13 : decode cX4_blocksBelow 13 = .ok (.aload_n 0, 1) := by decide +kernel
theorem dX4_blocksBelow_14 : decode cX4_blocksBelow 14 = .ok (.iload_n 3, 1) := by decide +kernel
theorem dX4_blocksBelow_15 : decode cX4_blocksBelow 15 = .ok (.invokevirtual 38, 3) := by decide +kernel
theorem dX4_blocksBelow_18 : decode cX4_blocksBelow 18 = .ok (.iadd, 1) := by decide +kernel
theorem dX4_blocksBelow_19 : decode cX4_blocksBelow 19 = .ok (.istore_n 2, 1) := by decide +kernel
theorem dX4_blocksBelow_20 : decode cX4_blocksBelow 20 = .ok (.aload_n 0, 1) := by decide +kernel
theorem dX4_blocksBelow_21 : decode cX4_blocksBelow 21 = .ok (.iload_n 2, 1) := by decide +kernel
theorem dX4_blocksBelow_22 : decode cX4_blocksBelow 22 = .ok (.iconst 1, 1) := by decide +kernel
theorem dX4_blocksBelow_23 : decode cX4_blocksBelow 23 = .ok (.isub, 1) := by decide +kernel
theorem dX4_blocksBelow_24 : decode cX4_blocksBelow 24 = .ok (.iconst 0, 1) := by decide +kernel
theorem dX4_blocksBelow_25 : decode cX4_blocksBelow 25 = .ok (.invokevirtual 42, 3) := by decide +kernel
theorem dX4_blocksBelow_28 : decode cX4_blocksBelow 28 = .ok (.iload_n 1, 1) := by decide +kernel
theorem dX4_blocksBelow_29 : decode cX4_blocksBelow 29 = .ok (.if_icmp .lt 5, 3) := by decide +kernel
theorem dX4_blocksBelow_32 : decode cX4_blocksBelow 32 = .ok (.iload_n 3, 1) := by decide +kernel
theorem dX4_blocksBelow_33 : decode cX4_blocksBelow 33 = .ok (.ireturn, 1) := by decide +kernel
theorem dX4_blocksBelow_34 : decode cX4_blocksBelow 34 = .ok (.iinc 3 1, 3) := by decide +kernel
theorem dX4_blocksBelow_37 : decode cX4_blocksBelow 37 = .ok (.goto (-33), 3) := by decide +kernel
theorem dX4_blocksBelow_40 : decode cX4_blocksBelow 40 = .ok (.aload_n 0, 1) := by decide +kernel
theorem dX4_blocksBelow_41 : decode cX4_blocksBelow 41 = .ok (.getfield 21, 3) := by decide +kernel
theorem dX4_blocksBelow_44 : decode cX4_blocksBelow 44 = .ok (.ireturn, 1) := by decide +kernel
set_option maxRecDepth 20000 in
theorem ggX4_copyFrom_X4_number : GoodIn wsX4_copyFrom wsX4_number := goodIn_r _ [11, 12, 13, 28, 29, 30, 31, 32, 33, 34] (by decide +kernel) (by decide +kernel)
set_option maxRecDepth 20000 in
theorem gX4_copyFrom_X4_number : GoodIn wsX4_copyFrom (wsV RX4 42 RX4 yX4_number wsX4_number) := goodIn_app (goodIn_of _ (by decide +kernel)) ggX4_copyFrom_X4_number
set_option maxRecDepth 20000 in
theorem ggX4_copyFrom_X4_write : GoodIn wsX4_copyFrom wsX4_write := goodIn_r _ [17, 12, 13, 28, 29, 30, 31, 32, 33, 34] (by decide +kernel) (by decide +kernel)
set_option maxRecDepth 20000 in
theorem gX4_copyFrom_X4_write : GoodIn wsX4_copyFrom (wsV RX4 57 RX4 yX4_write wsX4_write) := goodIn_app (goodIn_of _ (by decide +kernel)) ggX4_copyFrom_X4_write
set_option maxRecDepth 20000 in
theorem ggX4_copyFrom_X4_sizeOf : GoodIn wsX4_copyFrom wsX4_sizeOf := goodIn_r _ [21, 3, 4, 22, 23, 24, 10, 25, 1, 2, 5, 28, 29, 30, 31, 32, 33, 34, 26, 27] (by decide +kernel) (by decide +kernel)
set_option maxRecDepth 20000 in
theorem gX4_copyFrom_X4_sizeOf : GoodIn wsX4_copyFrom (wsV RX4 38 RX4 yX4_sizeOf wsX4_sizeOf) := goodIn_app (goodIn_of _ (by decide +kernel)) ggX4_copyFrom_X4_sizeOf
theorem dX4_copyFrom_0 : decode cX4_copyFrom 0 = .ok (.iconst 0, 1) := by decide +kernel
theorem dX4_copyFrom_1 : decode cX4_copyFrom 1 = .ok (.istore_n 2, 1) := by decide +kernel
theorem dX4_copyFrom_2 : decode cX4_copyFrom 2 = .ok (.iload_n 2, 1) := by decide +kernel
theorem dX4_copyFrom_3 : decode cX4_copyFrom 3 = .ok (.aload_n 1, 1) := by decide +kernel
theorem dX4_copyFrom_4 : decode cX4_copyFrom 4 = .ok (.getfield 31, 3) := by decide +kernel
theorem dX4_copyFrom_7 : decode cX4_copyFrom 7 = .ok (.if_icmp .ge 26, 3) := by decide +kernel
theorem dX4_copyFrom_10 : decode cX4_copyFrom 10 = .ok (.aload_n 0, 1) := by decide +kernel
theorem dX4_copyFrom_11 : decode cX4_copyFrom 11 = .ok (.iload_n 2, 1) := by decide +kernel
theorem dX4_copyFrom_12 : decode cX4_copyFrom 12 = .ok (.aload_n 1, 1) := by decide +kernel
theorem dX4_copyFrom_13 : decode cX4_copyFrom 13 = .ok (.iload_n 2, 1) := by decide +kernel
theorem dX4_copyFrom_14 : decode cX4_copyFrom 14 = .ok (.iconst 0, 1) := by decide +kernel
theorem dX4_copyFrom_15 : decode cX4_copyFrom 15 = .ok (.invokevirtual 42, 3) := by decide +kernel
theorem dX4_copyFrom_18 : decode cX4_copyFrom 18 = .ok (.aload_n 1, 1) := by decide +kernel
theorem dX4_copyFrom_19 : decode cX4_copyFrom 19 = .ok (.iload_n 2, 1) := by decide +kernel
theorem dX4_copyFrom_20 : decode cX4_copyFrom 20 = .ok (.iconst 5, 1) := by decide +kernel
theorem dX4_copyFrom_21 : decode cX4_copyFrom 21 = .ok (.invokevirtual 42, 3) := by decide +kernel
theorem dX4_copyFrom_24 : decode cX4_copyFrom 24 = .ok (.invokevirtual 57, 3) := by decide +kernel
theorem dX4_copyFrom_27 : decode cX4_copyFrom 27 = .ok (.iinc 2 1, 3) := by decide +kernel
theorem dX4_copyFrom_30 : decode cX4_copyFrom 30 = .ok (.goto (-28), 3) := by decide +kernel
theorem dX4_copyFrom_33 : decode cX4_copyFrom 33 = .ok (.iconst 0, 1) := by decide +kernel
theorem dX4_copyFrom_34 : decode cX4_copyFrom 34 = .ok (.istore_n 2, 1) := by decide +kernel
theorem dX4_copyFrom_35 : decode cX4_copyFrom 35 = .ok (.iload_n 2, 1) := by decide +kernel
theorem dX4_copyFrom_36 : decode cX4_copyFrom 36 = .ok (.aload_n 1, 1) := by decide +kernel
theorem dX4_copyFrom_37 : decode cX4_copyFrom 37 = .ok (.getfield 21, 3) := by decide +kernel
theorem dX4_copyFrom_40 : decode cX4_copyFrom 40 = .ok (.if_icmp .ge 29, 3) := by decide +kernel
theorem dX4_copyFrom_43 : decode cX4_copyFrom 43 = .ok (.iload_n 2, 1) := by decide +kernel
theorem dX4_copyFrom_44 : decode cX4_copyFrom 44 = .ok (.aload_n 0, 1) := by decide +kernel
theorem dX4_copyFrom_45 : decode cX4_copyFrom 45 = .ok (.getfield 18, 3) := by decide +kernel
theorem dX4_copyFrom_48 : decode cX4_copyFrom 48 = .ok (.arraylength, 1) := by decide +kernel
theorem dX4_copyFrom_49 : decode cX4_copyFrom 49 = .ok (.if_icmp .ge 20, 3) := by decide +kernel
theorem dX4_copyFrom_52 : decode cX4_copyFrom 52 = .ok (.aload_n 0, 1) := by decide +kernel
theorem dX4_copyFrom_53 : decode cX4_copyFrom 53 = .ok (.getfield 18, 3) := by decide +kernel
theorem dX4_copyFrom_56 : decode cX4_copyFrom 56 = .ok (.iload_n 2, 1) := by decide +kernel
theorem dX4_copyFrom_57 : decode cX4_copyFrom 57 = .ok (.aload_n 1, 1) := by decide +kernel
theorem dX4_copyFrom_58 : decode cX4_copyFrom 58 = .ok (.iload_n 2, 1) := by decide +kernel
theorem dX4_copyFrom_59 : decode cX4_copyFrom 59 = .ok (.invokevirtual 38, 3) := by decide +kernel
theorem dX4_copyFrom_62 : decode cX4_copyFrom 62 = .ok (.iastore, 1) := by decide +kernel
theorem dX4_copyFrom_63 : decode cX4_copyFrom 63 = .ok (.iinc 2 1, 3) := by decide +kernel
theorem dX4_copyFrom_66 : decode cX4_copyFrom 66 = .ok (.goto (-31), 3) := by decide +kernel
theorem dX4_copyFrom_69 : decode cX4_copyFrom 69 = .ok (.aload_n 0, 1) := by decide +kernel
theorem dX4_copyFrom_70 : decode cX4_copyFrom 70 = .ok (.aload_n 1, 1) := by decide +kernel
theorem dX4_copyFrom_71 : decode cX4_copyFrom 71 = .ok (.getfield 31, 3) := by decide +kernel
theorem dX4_copyFrom_74 : decode cX4_copyFrom 74 = .ok (.putfield 31, 3) := by decide +kernel
theorem dX4_copyFrom_77 : decode cX4_copyFrom 77 = .ok (.aload_n 0, 1) := by decide +kernel
theorem dX4_copyFrom_78 : decode cX4_copyFrom 78 = .ok (.aload_n 1, 1) := by decide +kernel
theorem dX4_copyFrom_79 : decode cX4_copyFrom 79 = .ok (.getfield 21, 3) := by decide +kernel
theorem dX4_copyFrom_82 : decode cX4_copyFrom 82 = .ok (.putfield 21, 3) := by decide +kernel
theorem dX4_copyFrom_85 : decode cX4_copyFrom 85 = .ok (.aload_n 0, 1) := by decide +kernel
theorem dX4_copyFrom_86 : decode cX4_copyFrom 86 = .ok (.aload_n 1, 1) := by decide +kernel
theorem dX4_copyFrom_87 : decode cX4_copyFrom 87 = .ok (.getfield 25, 3) := by decide +kernel
theorem dX4_copyFrom_90 : decode cX4_copyFrom 90 = .ok (.putfield 25, 3) := by decide +kernel
theorem dX4_copyFrom_93 : decode cX4_copyFrom 93 = .ok (.aload_n 0, 1) := by decide +kernel
theorem dX4_copyFrom_94 : decode cX4_copyFrom 94 = .ok (.aload_n 1, 1) := by decide +kernel
theorem dX4_copyFrom_95 : decode cX4_copyFrom 95 = .ok (.getfield 28, 3) := by decide +kernel
theorem dX4_copyFrom_98 : decode cX4_copyFrom 98 = .ok (.putfield 28, 3) := by decide +kernel
theorem dX4_copyFrom_101 : decode cX4_copyFrom 101 = .ok (.return_, 1) := by decide +kernel
set_option maxRecDepth 20000 in
theorem ggX4_copyPoint_X4_number : GoodIn wsX4_copyPoint wsX4_number := goodIn_r _ [5, 6, 7, 12, 13, 14, 15, 16, 17, 18] (by decide +kernel) (by decide +kernel)
set_option maxRecDepth 20000 in
theorem gX4_copyPoint_X4_number : GoodIn wsX4_copyPoint (wsV RX4 42 RX4 yX4_number wsX4_number) := goodIn_app (goodIn_of _ (by decide +kernel)) ggX4_copyPoint_X4_number
set_option maxRecDepth 20000 in
theorem ggX4_copyPoint_X4_write : GoodIn wsX4_copyPoint wsX4_write := goodIn_r _ [11, 6, 7, 12, 13, 14, 15, 16, 17, 18] (by decide +kernel) (by decide +kernel)
set_option maxRecDepth 20000 in
theorem gX4_copyPoint_X4_write : GoodIn wsX4_copyPoint (wsV RX4 57 RX4 yX4_write wsX4_write) := goodIn_app (goodIn_of _ (by decide +kernel)) ggX4_copyPoint_X4_write
theorem dX4_copyPoint_0 : decode cX4_copyPoint 0 = .ok (.aload_n 0, 1) := by decide +kernel
theorem dX4_copyPoint_1 : decode cX4_copyPoint 1 = .ok (.iload_n 2, 1) := by decide +kernel
theorem dX4_copyPoint_2 : decode cX4_copyPoint 2 = .ok (.aload_n 0, 1) := by decide +kernel
theorem dX4_copyPoint_3 : decode cX4_copyPoint 3 = .ok (.iload_n 1, 1) := by decide +kernel
theorem dX4_copyPoint_4 : decode cX4_copyPoint 4 = .ok (.iconst 0, 1) := by decide +kernel
theorem dX4_copyPoint_5 : decode cX4_copyPoint 5 = .ok (.invokevirtual 42, 3) := by decide +kernel
theorem dX4_copyPoint_8 : decode cX4_copyPoint 8 = .ok (.aload_n 0, 1) := by decide +kernel
theorem dX4_copyPoint_9 : decode cX4_copyPoint 9 = .ok (.iload_n 1, 1) := by decide +kernel
theorem dX4_copyPoint_10 : decode cX4_copyPoint 10 = .ok (.iconst 5, 1) := by decide +kernel
theorem dX4_copyPoint_11 : decode cX4_copyPoint 11 = .ok (.invokevirtual 42, 3) := by decide +kernel
theorem dX4_copyPoint_14 : decode cX4_copyPoint 14 = .ok (.invokevirtual 57, 3) := by decide +kernel
theorem dX4_copyPoint_17 : decode cX4_copyPoint 17 = .ok (.return_, 1) := by decide +kernel
theorem dX4_write_0 : decode cX4_write 0 = .ok (.iload_n 1, 1) := by decide +kernel
theorem dX4_write_1 : decode cX4_write 1 = .ok (.ifCond .lt 35, 3) := by decide +kernel
theorem dX4_write_4 : decode cX4_write 4 = .ok (.iload_n 1, 1) := by decide +kernel
theorem dX4_write_5 : decode cX4_write 5 = .ok (.aload_n 0, 1) := by decide +kernel
theorem dX4_write_6 : decode cX4_write 6 = .ok (.getfield 11, 3) := by decide +kernel
theorem dX4_write_9 : decode cX4_write 9 = .ok (.arraylength, 1) := by decide +kernel
theorem dX4_write_10 : decode cX4_write 10 = .ok (.if_icmp .ge 26, 3) := by decide +kernel
theorem dX4_write_13 : decode cX4_write 13 = .ok (.iload_n 1, 1) := by decide +kernel
theorem dX4_write_14 : decode cX4_write 14 = .ok (.aload_n 0, 1) := by decide +kernel
theorem dX4_write_15 : decode cX4_write 15 = .ok (.getfield 15, 3) := by decide +kernel
theorem dX4_write_18 : decode cX4_write 18 = .ok (.arraylength, 1) := by decide +kernel
theorem dX4_write_19 : decode cX4_write 19 = .ok (.if_icmp .ge 17, 3) := by decide +kernel
theorem dX4_write_22 : decode cX4_write 22 = .ok (.aload_n 0, 1) := by decide +kernel
theorem dX4_write_23 : decode cX4_write 23 = .ok (.getfield 11, 3) := by decide +kernel
theorem dX4_write_26 : decode cX4_write 26 = .ok (.iload_n 1, 1) := by decide +kernel
theorem dX4_write_27 : decode cX4_write 27 = .ok (.iload_n 2, 1) := by decide +kernel
theorem dX4_write_28 : decode cX4_write 28 = .ok (.iastore, 1) := by decide +kernel
theorem dX4_write_29 : decode cX4_write 29 = .ok (.aload_n 0, 1) := by decide +kernel
theorem dX4_write_30 : decode cX4_write 30 = .ok (.getfield 15, 3) := by decide +kernel
theorem dX4_write_33 : decode cX4_write 33 = .ok (.iload_n 1, 1) := by decide +kernel
theorem dX4_write_34 : decode cX4_write 34 = .ok (.iload_n 3, 1) := by decide +kernel
theorem dX4_write_35 : decode cX4_write 35 = .ok (.iastore, 1) := by decide +kernel
theorem dX4_write_36 : decode cX4_write 36 = .ok (.return_, 1) := by decide +kernel
theorem dX5_init_0 : decode cX5_init 0 = .ok (.aload_n 0, 1) := by decide +kernel
theorem dX5_init_1 : decode cX5_init 1 = .ok (.invokespecial 3, 3) := by decide +kernel
theorem dX5_init_4 : decode cX5_init 4 = .ok (.aload_n 0, 1) := by decide +kernel
theorem dX5_init_5 : decode cX5_init 5 = .ok (.iconst 0, 1) := by decide +kernel
theorem dX5_init_6 : decode cX5_init 6 = .ok (.putfield 9, 3) := by decide +kernel
theorem dX5_init_9 : decode cX5_init 9 = .ok (.aload_n 0, 1) := by decide +kernel
theorem dX5_init_10 : decode cX5_init 10 = .ok (.iconst 0, 1) := by decide +kernel
theorem dX5_init_11 : decode cX5_init 11 = .ok (.putfield 15, 3) := by decide +kernel
theorem dX5_init_14 : decode cX5_init 14 = .ok (.aload_n 0, 1) := by decide +kernel
theorem dX5_init_15 : decode cX5_init 15 = .ok (.aload_n 1, 1) := by decide +kernel
theorem dX5_init_16 : decode cX5_init 16 = .ok (.putfield 18, 3) := by decide +kernel
theorem dX5_init_19 : decode cX5_init 19 = .ok (.aload_n 0, 1) := by decide +kernel
theorem dX5_init_20 : decode cX5_init 20 = .ok (.iload_n 2, 1) := by decide +kernel
theorem dX5_init_21 : decode cX5_init 21 = .ok (.putfield 22, 3) := by decide +kernel
theorem dX5_init_24 : decode cX5_init 24 = .ok (.aload_n 0, 1) := by decide +kernel
theorem dX5_init_25 : decode cX5_init 25 = .ok (.iload_n 3, 1) := by decide +kernel
theorem dX5_init_26 : decode cX5_init 26 = .ok (.putfield 25, 3) := by decide +kernel
theorem dX5_init_29 : decode cX5_init 29 = .ok (.aload_n 0, 1) := by decide +kernel
theorem dX5_init_30 : decode cX5_init 30 = .ok (.iload 4, 2) := by decide +kernel
theorem dX5_init_32 : decode cX5_init 32 = .ok (.putfield 28, 3) := by decide +kernel
theorem dX5_init_35 : decode cX5_init 35 = .ok (.aload_n 0, 1) := by decide +kernel
theorem dX5_init_36 : decode cX5_init 36 = .ok (.iload 5, 2) := by decide +kernel
theorem dX5_init_38 : decode cX5_init 38 = .ok (.putfield 31, 3) := by decide +kernel
theorem dX5_init_41 : decode cX5_init 41 = .ok (.aload_n 0, 1) := by decide +kernel
theorem dX5_init_42 : decode cX5_init 42 = .ok (.iload 6, 2) := by decide +kernel
theorem dX5_init_44 : decode cX5_init 44 = .ok (.putfield 35, 3) := by decide +kernel
theorem dX5_init_47 : decode cX5_init 47 = .ok (.aload_n 0, 1) := by decide +kernel
theorem dX5_init_48 : decode cX5_init 48 = .ok (.iload 7, 2) := by decide +kernel
theorem dX5_init_50 : decode cX5_init 50 = .ok (.putfield 38, 3) := by decide +kernel
theorem dX5_init_53 : decode cX5_init 53 = .ok (.return_, 1) := by decide +kernel
theorem dX5_isDueAt_0 : decode cX5_isDueAt 0 = .ok (.aload_n 0, 1) := by decide +kernel
theorem dX5_isDueAt_1 : decode cX5_isDueAt 1 = .ok (.getfield 28, 3) := by decide +kernel
theorem dX5_isDueAt_4 : decode cX5_isDueAt 4 = .ok (.ifCond .le 16, 3) := by decide +kernel
theorem dX5_isDueAt_7 : decode cX5_isDueAt 7 = .ok (.iload_n 1, 1) := by decide +kernel
theorem dX5_isDueAt_8 : decode cX5_isDueAt 8 = .ok (.aload_n 0, 1) := by decide +kernel
theorem dX5_isDueAt_9 : decode cX5_isDueAt 9 = .ok (.getfield 28, 3) := by decide +kernel
theorem dX5_isDueAt_12 : decode cX5_isDueAt 12 = .ok (.irem, 1) := by decide +kernel
theorem dX5_isDueAt_13 : decode cX5_isDueAt 13 = .ok (.ifCond .ne 7, 3) := by decide +kernel
theorem dX5_isDueAt_16 : decode cX5_isDueAt 16 = .ok (.iconst 1, 1) := by decide +kernel
theorem dX5_isDueAt_17 : decode cX5_isDueAt 17 = .ok (.goto 4, 3) := by decide +kernel
theorem dX5_isDueAt_20 : decode cX5_isDueAt 20 = .ok (.iconst 0, 1) := by decide +kernel
theorem dX5_isDueAt_21 : decode cX5_isDueAt 21 = .ok (.ireturn, 1) := by decide +kernel
set_option maxRecDepth 20000 in
theorem ggX5_told_X6_tell : GoodIn wsX5_told wsX6_tell := goodIn_r _ [8, 9, 10, 11, 7, 12, 13, 14, 15, 16, 17, 18, 19, 20, 21, 22, 23, 24, 25, 26, 27, 28, 29, 30, 31, 32, 33, 34, 35, 36, 37, 38, 39, 40, 41, 42, 43, 44, 45, 46, 47, 48, 49, 50, 51, 52, 53, 54, 55, 56, 57, 58, 59, 60, 61, 62, 63, 64, 65, 66, 67, 68, 69, 70, 71, 81, 82, 83, 84, 85, 86, 87, 88, 89, 90, 91, 92, 93, 94] (by decide +kernel) (by decide +kernel)
set_option maxRecDepth 20000 in
theorem gX5_told_X6_tell : GoodIn wsX5_told (wsV RX5 41 RX6 yX6_tell wsX6_tell) := goodIn_app (goodIn_of _ (by decide +kernel)) ggX5_told_X6_tell
theorem dX5_told_0 : decode cX5_told 0 = .ok (.aload_n 0, 1) := by decide +kernel
theorem dX5_told_1 : decode cX5_told 1 = .ok (.getfield 18, 3) := by decide +kernel
theorem dX5_told_4 : decode cX5_told 4 = .ok (.iload_n 1, 1) := by decide +kernel
theorem dX5_told_5 : decode cX5_told 5 = .ok (.aload_n 0, 1) := by decide +kernel
theorem dX5_told_6 : decode cX5_told 6 = .ok (.getfield 25, 3) := by decide +kernel
theorem dX5_told_9 : decode cX5_told 9 = .ok (.isub, 1) := by decide +kernel
theorem dX5_told_10 : decode cX5_told 10 = .ok (.iload_n 1, 1) := by decide +kernel
theorem dX5_told_11 : decode cX5_told 11 = .ok (.aload_n 0, 1) := by decide +kernel
theorem dX5_told_12 : decode cX5_told 12 = .ok (.getfield 22, 3) := by decide +kernel
theorem dX5_told_15 : decode cX5_told 15 = .ok (.iconst 0, 1) := by decide +kernel
theorem dX5_told_16 : decode cX5_told 16 = .ok (.invokevirtual 41, 3) := by decide +kernel
theorem dX5_told_19 : decode cX5_told 19 = .ok (.ireturn, 1) := by decide +kernel
set_option maxRecDepth 20000 in
theorem ggX5_changesBy_X5_ceases : GoodIn wsX5_changesBy wsX5_ceases := goodIn_r _ [9, 10, 11, 12, 13, 14, 8, 15, 4, 20, 21, 22, 23, 24, 25, 26, 27, 28] (by decide +kernel) (by decide +kernel)
set_option maxRecDepth 20000 in
theorem gX5_changesBy_X5_ceases : GoodIn wsX5_changesBy (wsV RX5 48 RX5 yX5_ceases wsX5_ceases) := goodIn_app (goodIn_of _ (by decide +kernel)) ggX5_changesBy_X5_ceases
set_option maxRecDepth 20000 in
theorem ggX5_changesBy_X5_begins : GoodIn wsX5_changesBy wsX5_begins := goodIn_r _ [19, 4, 10, 11, 12, 13, 14, 8, 15, 20, 21, 22, 23, 24, 25, 26, 27, 28] (by decide +kernel) (by decide +kernel)
set_option maxRecDepth 20000 in
theorem gX5_changesBy_X5_begins : GoodIn wsX5_changesBy (wsV RX5 52 RX5 yX5_begins wsX5_begins) := goodIn_app (goodIn_of _ (by decide +kernel)) ggX5_changesBy_X5_begins
theorem dX5_changesBy_0 : decode cX5_changesBy 0 = .ok (.iload_n 1, 1) := by decide +kernel
theorem dX5_changesBy_1 : decode cX5_changesBy 1 = .ok (.ldc 47, 2) := by decide +kernel
theorem dX5_changesBy_3 : decode cX5_changesBy 3 = .ok (.if_icmp .eq 33, 3) := by decide +kernel
theorem dX5_changesBy_6 : decode cX5_changesBy 6 = .ok (.aload_n 0, 1) := by decide +kernel
theorem dX5_changesBy_7 : decode cX5_changesBy 7 = .ok (.getfield 31, 3) := by decide +kernel
theorem dX5_changesBy_10 : decode cX5_changesBy 10 = .ok (.ifCond .eq 14, 3) := by decide +kernel
theorem dX5_changesBy_13 : decode cX5_changesBy 13 = .ok (.iload_n 1, 1) := by decide +kernel
theorem dX5_changesBy_14 : decode cX5_changesBy 14 = .ok (.aload_n 0, 1) := by decide +kernel
theorem dX5_changesBy_15 : decode cX5_changesBy 15 = .ok (.getfield 35, 3) := by decide +kernel
theorem dX5_changesBy_18 : decode cX5_changesBy 18 = .ok (.if_icmp .le 18, 3) := by decide +kernel
theorem dX5_changesBy_21 : decode cX5_changesBy 21 = .ok (.goto 11, 3) := by decide +kernel
theorem dX5_changesBy_24 : decode cX5_changesBy 24 = .ok (.iload_n 1, 1) := by decide +kernel
theorem dX5_changesBy_25 : decode cX5_changesBy 25 = .ok (.aload_n 0, 1) := by decide +kernel
theorem dX5_changesBy_26 : decode cX5_changesBy 26 = .ok (.getfield 35, 3) := by decide +kernel
theorem dX5_changesBy_29 : decode cX5_changesBy 29 = .ok (.if_icmp .ge 7, 3) := by decide +kernel
theorem dX5_changesBy_32 : decode cX5_changesBy 32 = .ok (.iconst 1, 1) := by decide +kernel
theorem dX5_changesBy_33 : decode cX5_changesBy 33 = .ok (.goto 4, 3) := by decide +kernel
theorem dX5_changesBy_36 : decode cX5_changesBy 36 = .ok (.iconst 0, 1) := by decide +kernel
theorem dX5_changesBy_37 : decode cX5_changesBy 37 = .ok (.istore_n 2, 1) := by decide +kernel
theorem dX5_changesBy_38 : decode cX5_changesBy 38 = .ok (.aload_n 0, 1) := by decide +kernel
theorem dX5_changesBy_39 : decode cX5_changesBy 39 = .ok (.getfield 9, 3) := by decide +kernel
theorem dX5_changesBy_42 : decode cX5_changesBy 42 = .ok (.iconst 2, 1) := by decide +kernel
theorem dX5_changesBy_43 : decode cX5_changesBy 43 = .ok (.if_icmp .ne 9, 3) := by decide +kernel
theorem dX5_changesBy_46 : decode cX5_changesBy 46 = .ok (.aload_n 0, 1) := by decide +kernel
theorem dX5_changesBy_47 : decode cX5_changesBy 47 = .ok (.iload_n 2, 1) := by decide +kernel
theorem dX5_changesBy_48 : decode cX5_changesBy 48 = .ok (.invokevirtual 48, 3) := by decide +kernel
theorem dX5_changesBy_51 : decode cX5_changesBy 51 = .ok (.ireturn, 1) := by decide +kernel
theorem dX5_changesBy_52 : decode cX5_changesBy 52 = .ok (.aload_n 0, 1) := by decide +kernel
theorem dX5_changesBy_53 : decode cX5_changesBy 53 = .ok (.iload_n 2, 1) := by decide +kernel
theorem dX5_changesBy_54 : decode cX5_changesBy 54 = .ok (.invokevirtual 52, 3) := by decide +kernel
theorem dX5_changesBy_57 : decode cX5_changesBy 57 = .ok (.ireturn, 1) := by decide +kernel
set_option maxRecDepth 20000 in
theorem ggX5_ceases_X5_become : GoodIn wsX5_ceases wsX5_become := goodIn_r _ [7, 8, 1, 9, 10, 11, 12, 13, 14, 15, 16, 17] (by decide +kernel) (by decide +kernel)
set_option maxRecDepth 20000 in
theorem gX5_ceases_X5_become : GoodIn wsX5_ceases (wsV RX5 55 RX5 yX5_become wsX5_become) := goodIn_app (goodIn_of _ (by decide +kernel)) ggX5_ceases_X5_become
theorem dX5_ceases_0 : decode cX5_ceases 0 = .ok (.aload_n 0, 1) := by decide +kernel
theorem dX5_ceases_1 : decode cX5_ceases 1 = .ok (.iload_n 1, 1) := by decide +kernel
theorem dX5_ceases_2 : decode cX5_ceases 2 = .ok (.ifCond .eq 7, 3) := by decide +kernel
theorem dX5_ceases_5 : decode cX5_ceases 5 = .ok (.iconst 0, 1) := by decide +kernel
theorem dX5_ceases_6 : decode cX5_ceases 6 = .ok (.goto 9, 3) := by decide +kernel
theorem dX5_ceases_9 : decode cX5_ceases 9 = .ok (.aload_n 0, 1) := by decide +kernel
theorem dX5_ceases_10 : decode cX5_ceases 10 = .ok (.getfield 15, 3) := by decide +kernel
theorem dX5_ceases_13 : decode cX5_ceases 13 = .ok (.iconst 1, 1) := by decide +kernel
theorem dX5_ceases_14 : decode cX5_ceases 14 = .ok (.iadd, 1) := by decide +kernel
theorem dX5_ceases_15 : decode cX5_ceases 15 = .ok (.putfield 15, 3) := by decide +kernel
theorem dX5_ceases_18 : decode cX5_ceases 18 = .ok (.aload_n 0, 1) := by decide +kernel
theorem dX5_ceases_19 : decode cX5_ceases 19 = .ok (.getfield 15, 3) := by decide +kernel
theorem dX5_ceases_22 : decode cX5_ceases 22 = .ok (.aload_n 0, 1) := by decide +kernel
theorem dX5_ceases_23 : decode cX5_ceases 23 = .ok (.getfield 38, 3) := by decide +kernel
theorem dX5_ceases_26 : decode cX5_ceases 26 = .ok (.if_icmp .ge 5, 3) := by decide +kernel
theorem dX5_ceases_29 : decode cX5_ceases 29 = .ok (.iconst 0, 1) := by decide +kernel
theorem dX5_ceases_30 : decode cX5_ceases 30 = .ok (.ireturn, 1) := by decide +kernel
theorem dX5_ceases_31 : decode cX5_ceases 31 = .ok (.aload_n 0, 1) := by decide +kernel
theorem dX5_ceases_32 : decode cX5_ceases 32 = .ok (.iconst 0, 1) := by decide +kernel
theorem dX5_ceases_33 : decode cX5_ceases 33 = .ok (.invokevirtual 55, 3) := by decide +kernel
theorem dX5_ceases_36 : decode cX5_ceases 36 = .ok (.iconst 1, 1) := by decide +kernel
theorem dX5_ceases_37 : decode cX5_ceases 37 = .ok (.ireturn, 1) := by decide +kernel
set_option maxRecDepth 20000 in
theorem ggX5_begins_X5_become : GoodIn wsX5_begins wsX5_become := goodIn_r _ [8, 1, 2, 9, 10, 11, 12, 13, 14, 15, 16, 17] (by decide +kernel) (by decide +kernel)
set_option maxRecDepth 20000 in
theorem gX5_begins_X5_become : GoodIn wsX5_begins (wsV RX5 55 RX5 yX5_become wsX5_become) := goodIn_app (goodIn_of _ (by decide +kernel)) ggX5_begins_X5_become
theorem dX5_begins_0 : decode cX5_begins 0 = .ok (.iload_n 1, 1) := by decide +kernel
theorem dX5_begins_1 : decode cX5_begins 1 = .ok (.ifCond .ne 10, 3) := by decide +kernel
theorem dX5_begins_4 : decode cX5_begins 4 = .ok (.aload_n 0, 1) := by decide +kernel
theorem dX5_begins_5 : decode cX5_begins 5 = .ok (.iconst 0, 1) := by decide +kernel
theorem dX5_begins_6 : decode cX5_begins 6 = .ok (.invokevirtual 55, 3) := by decide +kernel
theorem dX5_begins_9 : decode cX5_begins 9 = .ok (.iconst 0, 1) := by decide +kernel
theorem dX5_begins_10 : decode cX5_begins 10 = .ok (.ireturn, 1) := by decide +kernel
theorem dX5_begins_11 : decode cX5_begins 11 = .ok (.aload_n 0, 1) := by decide +kernel
theorem dX5_begins_12 : decode cX5_begins 12 = .ok (.iconst 1, 1) := by decide +kernel
theorem dX5_begins_13 : decode cX5_begins 13 = .ok (.putfield 9, 3) := by decide +kernel
theorem dX5_begins_16 : decode cX5_begins 16 = .ok (.aload_n 0, 1) := by decide +kernel
theorem dX5_begins_17 : decode cX5_begins 17 = .ok (.dup, 1) := by decide +kernel
theorem dX5_begins_18 : decode cX5_begins 18 = .ok (.getfield 15, 3) := by decide +kernel
theorem dX5_begins_21 : decode cX5_begins 21 = .ok (.iconst 1, 1) := by decide +kernel
theorem dX5_begins_22 : decode cX5_begins 22 = .ok (.iadd, 1) := by decide +kernel
theorem dX5_begins_23 : decode cX5_begins 23 = .ok (.putfield 15, 3) := by decide +kernel
theorem dX5_begins_26 : decode cX5_begins 26 = .ok (.aload_n 0, 1) := by decide +kernel
theorem dX5_begins_27 : decode cX5_begins 27 = .ok (.getfield 15, 3) := by decide +kernel
theorem dX5_begins_30 : decode cX5_begins 30 = .ok (.aload_n 0, 1) := by decide +kernel
theorem dX5_begins_31 : decode cX5_begins 31 = .ok (.getfield 38, 3) := by decide +kernel
theorem dX5_begins_34 : decode cX5_begins 34 = .ok (.if_icmp .ge 5, 3) := by decide +kernel
theorem dX5_begins_37 : decode cX5_begins 37 = .ok (.iconst 0, 1) := by decide +kernel
theorem dX5_begins_38 : decode cX5_begins 38 = .ok (.ireturn, 1) := by decide +kernel
theorem dX5_begins_39 : decode cX5_begins 39 = .ok (.aload_n 0, 1) := by decide +kernel
theorem dX5_begins_40 : decode cX5_begins 40 = .ok (.iconst 2, 1) := by decide +kernel
theorem dX5_begins_41 : decode cX5_begins 41 = .ok (.invokevirtual 55, 3) := by decide +kernel
theorem dX5_begins_44 : decode cX5_begins 44 = .ok (.iconst 1, 1) := by decide +kernel
theorem dX5_begins_45 : decode cX5_begins 45 = .ok (.ireturn, 1) := by decide +kernel
theorem dX5_become_0 : decode cX5_become 0 = .ok (.aload_n 0, 1) := by decide +kernel
theorem dX5_become_1 : decode cX5_become 1 = .ok (.iload_n 1, 1) := by decide +kernel
theorem dX5_become_2 : decode cX5_become 2 = .ok (.putfield 9, 3) := by decide +kernel
theorem dX5_become_5 : decode cX5_become 5 = .ok (.aload_n 0, 1) := by decide +kernel
theorem dX5_become_6 : decode cX5_become 6 = .ok (.iconst 0, 1) := by decide +kernel
theorem dX5_become_7 : decode cX5_become 7 = .ok (.putfield 15, 3) := by decide +kernel
theorem dX5_become_10 : decode cX5_become 10 = .ok (.return_, 1) := by decide +kernel
theorem dX5_copyFrom_0 : decode cX5_copyFrom 0 = .ok (.aload_n 0, 1) := by decide +kernel
theorem dX5_copyFrom_1 : decode cX5_copyFrom 1 = .ok (.aload_n 1, 1) := by decide +kernel
theorem dX5_copyFrom_2 : decode cX5_copyFrom 2 = .ok (.getfield 9, 3) := by decide +kernel
theorem dX5_copyFrom_5 : decode cX5_copyFrom 5 = .ok (.putfield 9, 3) := by decide +kernel
theorem dX5_copyFrom_8 : decode cX5_copyFrom 8 = .ok (.aload_n 0, 1) := by decide +kernel
theorem dX5_copyFrom_9 : decode cX5_copyFrom 9 = .ok (.aload_n 1, 1) := by decide +kernel
theorem dX5_copyFrom_10 : decode cX5_copyFrom 10 = .ok (.getfield 15, 3) := by decide +kernel
theorem dX5_copyFrom_13 : decode cX5_copyFrom 13 = .ok (.putfield 15, 3) := by decide +kernel
theorem dX5_copyFrom_16 : decode cX5_copyFrom 16 = .ok (.return_, 1) := by decide +kernel
set_option maxRecDepth 20000 in
theorem ggX6_init_X4_init : GoodIn wsX6_init wsX4_init := goodIn_r _ [16, 17, 18, 19, 20, 21, 22, 23, 24, 25, 26, 27, 2, 3, 28, 32, 33, 34, 35, 36, 37, 38, 44, 45] (by decide +kernel) (by decide +kernel)
set_option maxRecDepth 20000 in
theorem gX6_init_X4_init_n11 : GoodIn wsX6_init (wsX4_init) := ggX6_init_X4_init
set_option maxRecDepth 20000 in
theorem ggX6_init_X0_init : GoodIn wsX6_init wsX0_init := goodIn_r _ [30, 17, 31, 24, 25, 26, 27, 2, 3, 28, 44, 45, 32, 33, 34, 35, 36, 37, 38] (by decide +kernel) (by decide +kernel)
set_option maxRecDepth 20000 in
theorem gX6_init_X0_init_n20 : GoodIn wsX6_init (wsX0_init) := ggX6_init_X0_init
theorem dX6_init_0 : decode cX6_init 0 = .ok (.aload_n 0, 1) := by decide +kernel
theorem dX6_init_1 : decode cX6_init 1 = .ok (.invokespecial 3, 3) := by decide +kernel
theorem dX6_init_4 : decode cX6_init 4 = .ok (.aload_n 0, 1) := by decide +kernel
theorem dX6_init_5 : decode cX6_init 5 = .ok (.new 9, 3) := by decide +kernel
theorem dX6_init_8 : decode cX6_init 8 = .ok (.dup, 1) := by decide +kernel
theorem dX6_init_9 : decode cX6_init 9 = .ok (.invokespecial 11, 3) := by decide +kernel
theorem dX6_init_12 : decode cX6_init 12 = .ok (.putfield 12, 3) := by decide +kernel
theorem dX6_init_15 : decode cX6_init 15 = .ok (.aload_n 0, 1) := by decide +kernel
theorem dX6_init_16 : decode cX6_init 16 = .ok (.new 18, 3) := by decide +kernel
theorem dX6_init_19 : decode cX6_init 19 = .ok (.dup, 1) := by decide +kernel
theorem dX6_init_20 : decode cX6_init 20 = .ok (.invokespecial 20, 3) := by decide +kernel
theorem dX6_init_23 : decode cX6_init 23 = .ok (.putfield 21, 3) := by decide +kernel
theorem dX6_init_26 : decode cX6_init 26 = .ok (.aload_n 0, 1) := by decide +kernel
theorem dX6_init_27 : decode cX6_init 27 = .ok (.new 18, 3) := by decide +kernel
theorem dX6_init_30 : decode cX6_init 30 = .ok (.dup, 1) := by decide +kernel
theorem dX6_init_31 : decode cX6_init 31 = .ok (.invokespecial 20, 3) := by decide +kernel
theorem dX6_init_34 : decode cX6_init 34 = .ok (.putfield 25, 3) := by decide +kernel
theorem dX6_init_37 : decode cX6_init 37 = .ok (.aload_n 0, 1) := by decide +kernel
theorem dX6_init_38 : decode cX6_init 38 = .ok (.iload_n 1, 1) := by decide +kernel
theorem dX6_init_39 : decode cX6_init 39 = .ok (.putfield 28, 3) := by decide +kernel
theorem dX6_init_42 : decode cX6_init 42 = .ok (.aload_n 0, 1) := by decide +kernel
theorem dX6_init_43 : decode cX6_init 43 = .ok (.iload_n 2, 1) := by decide +kernel
theorem dX6_init_44 : decode cX6_init 44 = .ok (.putfield 32, 3) := by decide +kernel
theorem dX6_init_47 : decode cX6_init 47 = .ok (.return_, 1) := by decide +kernel
theorem dX6_bucketsOf_0 : decode cX6_bucketsOf 0 = .ok (.iload_n 1, 1) := by decide +kernel
theorem dX6_bucketsOf_1 : decode cX6_bucketsOf 1 = .ok (.ifCond .eq 10, 3) := by decide +kernel
theorem dX6_bucketsOf_4 : decode cX6_bucketsOf 4 = .ok (.aload_n 0, 1) := by decide +kernel
theorem dX6_bucketsOf_5 : decode cX6_bucketsOf 5 = .ok (.getfield 25, 3) := by decide +kernel
theorem dX6_bucketsOf_8 : decode cX6_bucketsOf 8 = .ok (.goto 7, 3) := by decide +kernel
theorem dX6_bucketsOf_11 : decode cX6_bucketsOf 11 = .ok (.aload_n 0, 1) := by decide +kernel
theorem dX6_bucketsOf_12 : decode cX6_bucketsOf 12 = .ok (.getfield 21, 3) := by decide +kernel
theorem dX6_bucketsOf_15 : decode cX6_bucketsOf 15 = .ok (.areturn, 1) := by decide +kernel
set_option maxRecDepth 20000 in
theorem ggX6_take_X4_add : GoodIn wsX6_take wsX4_add := goodIn_r _ [7, 8, 9, 10, 11, 12, 6, 13, 14, 15, 16, 17, 18, 19, 20, 21, 22, 23, 24, 25, 26, 27, 28, 29, 30, 31, 32, 121, 122, 123, 124, 125, 126, 127, 128, 129] (by decide +kernel) (by decide +kernel)
set_option maxRecDepth 20000 in
theorem gX6_take_X4_add : GoodIn wsX6_take (wsV RX6 35 RX4 yX4_add wsX4_add) := goodIn_app (goodIn_of _ (by decide +kernel)) ggX6_take_X4_add
set_option maxRecDepth 20000 in
theorem ggX6_take_X4_openSize : GoodIn wsX6_take wsX4_openSize := goodIn_r _ [36, 8, 9, 14, 121, 122, 123, 124, 125, 126, 127, 128, 129] (by decide +kernel) (by decide +kernel)
set_option maxRecDepth 20000 in
theorem gX6_take_X4_openSize : GoodIn wsX6_take (wsV RX6 39 RX4 yX4_openSize wsX4_openSize) := goodIn_app (goodIn_of _ (by decide +kernel)) ggX6_take_X4_openSize
set_option maxRecDepth 20000 in
theorem ggX6_take_X4_seal : GoodIn wsX6_take wsX4_seal := goodIn_r _ [40, 41, 42, 8, 9, 14, 43, 44, 34, 35, 6, 36, 15, 16, 17, 18, 19, 20, 123, 124, 125, 126, 127, 128, 129, 121, 122] (by decide +kernel) (by decide +kernel)
set_option maxRecDepth 20000 in
theorem gX6_take_X4_seal : GoodIn wsX6_take (wsV RX6 48 RX4 yX4_seal wsX4_seal) := goodIn_app (goodIn_of _ (by decide +kernel)) ggX6_take_X4_seal
set_option maxRecDepth 20000 in
theorem ggX6_take_X4_hasTooManySealed : GoodIn wsX6_take wsX4_hasTooManySealed := goodIn_r _ [48, 41, 123, 124, 125, 126, 127, 128, 129] (by decide +kernel) (by decide +kernel)
set_option maxRecDepth 20000 in
theorem gX6_take_X4_hasTooManySealed : GoodIn wsX6_take (wsV RX6 51 RX4 yX4_hasTooManySealed wsX4_hasTooManySealed) := goodIn_app (goodIn_of _ (by decide +kernel)) ggX6_take_X4_hasTooManySealed
set_option maxRecDepth 20000 in
theorem ggX6_take_X6_rollUpFirstBlock : GoodIn wsX6_take wsX6_rollUpFirstBlock := goodIn_r _ [53, 1, 54, 55, 56, 57, 58, 6, 59, 41, 42, 44, 34, 35, 36, 8, 9, 14, 60, 16, 17, 18, 19, 20, 61, 62, 52, 63, 64, 65, 66, 67, 68, 69, 70, 71, 72, 73, 74, 75, 76, 77, 78, 79, 80, 81, 82, 83, 84, 85, 86, 87, 88, 89, 90, 91, 92, 93, 94, 95, 96, 97, 98, 99, 100, 101, 102, 103, 104, 105, 106, 107, 108, 109, 110, 25, 26, 27, 28, 15, 29, 30, 31, 32, 111, 112, 113, 114, 115, 116, 117, 118, 119, 120, 123, 124, 125, 126, 127, 128, 129, 121, 122] (by decide +kernel) (by decide +kernel)
set_option maxRecDepth 20000 in
theorem gX6_take_X6_rollUpFirstBlock : GoodIn wsX6_take (wsV RX6 55 RX6 yX6_rollUpFirstBlock wsX6_rollUpFirstBlock) := goodIn_app (goodIn_of _ (by decide +kernel)) ggX6_take_X6_rollUpFirstBlock
theorem dX6_take_0 : decode cX6_take 0 = .ok (.aload_n 0, 1) := by decide +kernel
theorem dX6_take_1 : decode cX6_take 1 = .ok (.getfield 12, 3) := by decide +kernel
theorem dX6_take_4 : decode cX6_take 4 = .ok (.iload_n 1, 1) := by decide +kernel
theorem dX6_take_5 : decode cX6_take 5 = .ok (.iload_n 2, 1) := by decide +kernel
theorem dX6_take_6 : decode cX6_take 6 = .ok (.invokevirtual 35, 3) := by decide +kernel
theorem dX6_take_9 : decode cX6_take 9 = .ok (.aload_n 0, 1) := by decide +kernel
theorem dX6_take_10 : decode cX6_take 10 = .ok (.getfield 12, 3) := by decide +kernel
theorem dX6_take_13 : decode cX6_take 13 = .ok (.invokevirtual 39, 3) := by decide +kernel
theorem dX6_take_16 : decode cX6_take 16 = .ok (.aload_n 3, 1) := by decide +kernel
theorem dX6_take_17 : decode cX6_take 17 = .ok (.getfield 43, 3) := by decide +kernel
theorem dX6_take_20 : decode cX6_take 20 = .ok (.if_icmp .lt 25, 3) := by decide +kernel
theorem dX6_take_23 : decode cX6_take 23 = .ok (.aload_n 0, 1) := by decide +kernel
theorem dX6_take_24 : decode cX6_take 24 = .ok (.getfield 12, 3) := by decide +kernel
theorem dX6_take_27 : decode cX6_take 27 = .ok (.invokevirtual 48, 3) := by decide +kernel
theorem dX6_take_30 : decode cX6_take 30 = .ok (.aload_n 0, 1) := by decide +kernel
theorem dX6_take_31 : decode cX6_take 31 = .ok (.getfield 12, 3) := by decide +kernel
theorem dX6_take_34 : decode cX6_take 34 = .ok (.invokevirtual 51, 3) := by decide +kernel
theorem dX6_take_37 : decode cX6_take 37 = .ok (.ifCond .eq 8, 3) := by decide +kernel
theorem dX6_take_40 : decode cX6_take 40 = .ok (.aload_n 0, 1) := by decide +kernel
theorem dX6_take_41 : decode cX6_take 41 = .ok (.aload_n 3, 1) := by decide +kernel
theorem dX6_take_42 : decode cX6_take 42 = .ok (.invokevirtual 55, 3) := by decide +kernel
theorem dX6_take_45 : decode cX6_take 45 = .ok (.return_, 1) := by decide +kernel
set_option maxRecDepth 20000 in
theorem ggX6_rollUpBy_X4_blocksBelow : GoodIn wsX6_rollUpBy wsX4_blocksBelow := goodIn_r _ [9, 10, 11, 12, 13, 8, 14, 15, 16, 17, 18, 19, 20, 21, 22, 23, 24, 25, 26, 27, 28, 109, 110, 111, 112, 113, 114, 115, 116, 117] (by decide +kernel) (by decide +kernel)
set_option maxRecDepth 20000 in
theorem gX6_rollUpBy_X4_blocksBelow : GoodIn wsX6_rollUpBy (wsV RX6 62 RX4 yX4_blocksBelow wsX4_blocksBelow) := goodIn_app (goodIn_of _ (by decide +kernel)) ggX6_rollUpBy_X4_blocksBelow
set_option maxRecDepth 20000 in
theorem ggX6_rollUpBy_X6_rollUpFirstBlock : GoodIn wsX6_rollUpBy wsX6_rollUpFirstBlock := goodIn_r _ [33, 2, 34, 4, 35, 12, 13, 8, 14, 10, 15, 16, 17, 18, 19, 20, 21, 22, 36, 24, 25, 26, 27, 28, 37, 38, 32, 39, 40, 41, 42, 43, 44, 45, 46, 47, 48, 49, 50, 51, 52, 53, 54, 55, 56, 57, 58, 59, 60, 61, 62, 63, 64, 65, 66, 67, 68, 69, 70, 71, 72, 73, 74, 75, 76, 77, 78, 79, 80, 81, 82, 83, 84, 85, 11, 86, 87, 88, 89, 23, 90, 91, 92, 93, 104, 105, 106, 107, 108, 99, 100, 101, 102, 103, 109, 110, 111, 112, 113, 114, 115, 116, 117] (by decide +kernel) (by decide +kernel)
set_option maxRecDepth 20000 in
theorem gX6_rollUpBy_X6_rollUpFirstBlock : GoodIn wsX6_rollUpBy (wsV RX6 55 RX6 yX6_rollUpFirstBlock wsX6_rollUpFirstBlock) := goodIn_app (goodIn_of _ (by decide +kernel)) ggX6_rollUpBy_X6_rollUpFirstBlock
set_option maxRecDepth 20000 in
theorem ggX6_rollUpBy_X6_fineEndingBy : GoodIn wsX6_rollUpBy wsX6_fineEndingBy := goodIn_r _ [97, 34, 98, 46, 77, 55, 56, 43, 57, 58, 104, 105, 106, 107, 108, 116, 117, 109, 110, 111, 112, 113, 114, 115] (by decide +kernel) (by decide +kernel)
set_option maxRecDepth 20000 in
theorem gX6_rollUpBy_X6_fineEndingBy : GoodIn wsX6_rollUpBy (wsV RX6 72 RX6 yX6_fineEndingBy wsX6_fineEndingBy) := goodIn_app (goodIn_of _ (by decide +kernel)) ggX6_rollUpBy_X6_fineEndingBy
set_option maxRecDepth 20000 in
theorem ggX6_rollUpBy_X6_rollUpFirstFine : GoodIn wsX6_rollUpBy wsX6_rollUpFirstFine := goodIn_r _ [74, 34, 4, 75, 76, 77, 55, 56, 43, 57, 58, 37, 38, 32, 39, 40, 41, 42, 44, 45, 46, 47, 48, 49, 50, 51, 52, 53, 54, 59, 60, 61, 62, 24, 8, 26, 27, 28, 63, 64, 65, 66, 78, 79, 80, 81, 67, 68, 69, 70, 104, 105, 106, 107, 108, 99, 100, 101, 102, 103, 116, 117, 109, 110, 111, 112, 113, 114, 115] (by decide +kernel) (by decide +kernel)
set_option maxRecDepth 20000 in
theorem gX6_rollUpBy_X6_rollUpFirstFine : GoodIn wsX6_rollUpBy (wsV RX6 76 RX6 yX6_rollUpFirstFine wsX6_rollUpFirstFine) := goodIn_app (goodIn_of _ (by decide +kernel)) ggX6_rollUpBy_X6_rollUpFirstFine
theorem dX6_rollUpBy_0 : decode cX6_rollUpBy 0 = .ok (.aload_n 2, 1) := by decide +kernel
theorem dX6_rollUpBy_1 : decode cX6_rollUpBy 1 = .ok (.getfield 59, 3) := by decide +kernel
theorem dX6_rollUpBy_4 : decode cX6_rollUpBy 4 = .ok (.ifCond .ne 7, 3) := by decide +kernel
theorem dX6_rollUpBy_7 : decode cX6_rollUpBy 7 = .ok (.iconst 0, 1) := by decide +kernel
theorem dX6_rollUpBy_8 : decode cX6_rollUpBy 8 = .ok (.goto 16, 3) := by decide +kernel
theorem dX6_rollUpBy_11 : decode cX6_rollUpBy 11 = .ok (.aload_n 0, 1) := by decide +kernel
theorem dX6_rollUpBy_12 : decode cX6_rollUpBy 12 = .ok (.getfield 12, 3) := by decide +kernel
theorem dX6_rollUpBy_15 : decode cX6_rollUpBy 15 = .ok (.iload_n 1, 1) := by decide +kernel
theorem dX6_rollUpBy_16 : decode cX6_rollUpBy 16 = .ok (.aload_n 2, 1) := by decide +kernel
theorem dX6_rollUpBy_17 : decode cX6_rollUpBy 17 = .ok (.getfield 59, 3) := by decide +kernel
theorem dX6_rollUpBy_20 : decode cX6_rollUpBy 20 = .ok (.isub, 1) := by decide +kernel
theorem dX6_rollUpBy_21 : decode cX6_rollUpBy 21 = .ok (.invokevirtual 62, 3) := by decide +kernel
theorem dX6_rollUpBy_24 : decode cX6_rollUpBy 24 = .ok (.istore_n 3, 1) := by decide +kernel
theorem dX6_rollUpBy_25 : decode cX6_rollUpBy 25 = .ok (.iconst 0, 1) := by decide +kernel
theorem dX6_rollUpBy_26 : decode cX6_rollUpBy 26 = .ok (.istore 4, 2) := by decide +kernel
theorem dX6_rollUpBy_28 : decode cX6_rollUpBy 28 = .ok (.iload 4, 2) := by decide +kernel
theorem dX6_rollUpBy_30 : decode cX6_rollUpBy 30 = .ok (.iload_n 3, 1) := by decide +kernel
theorem dX6_rollUpBy_31 : decode cX6_rollUpBy 31 = .ok (.if_icmp .ge 14, 3) := by decide +kernel
theorem dX6_rollUpBy_34 : decode cX6_rollUpBy 34 = .ok (.aload_n 0, 1) := by decide +kernel
theorem dX6_rollUpBy_35 : decode cX6_rollUpBy 35 = .ok (.aload_n 2, 1) := by decide +kernel
theorem dX6_rollUpBy_36 : decode cX6_rollUpBy 36 = .ok (.invokevirtual 55, 3) := by decide +kernel
theorem dX6_rollUpBy_39 : decode cX6_rollUpBy 39 = .ok (.iinc 4 1, 3) := by decide +kernel
theorem dX6_rollUpBy_42 : decode cX6_rollUpBy 42 = .ok (.goto (-14), 3) := by decide +kernel
theorem dX6_rollUpBy_45 : decode cX6_rollUpBy 45 = .ok (.aload_n 2, 1) := by decide +kernel
theorem dX6_rollUpBy_46 : decode cX6_rollUpBy 46 = .ok (.getfield 66, 3) := by decide +kernel
theorem dX6_rollUpBy_49 : decode cX6_rollUpBy 49 = .ok (.istore 4, 2) := by decide +kernel
theorem dX6_rollUpBy_51 : decode cX6_rollUpBy 51 = .ok (.iload 4, 2) := by decide +kernel
theorem dX6_rollUpBy_53 : decode cX6_rollUpBy 53 = .ok (.ifCond .ne 7, 3) := by decide +kernel
theorem dX6_rollUpBy_56 : decode cX6_rollUpBy 56 = .ok (.iconst 0, 1) := by decide +kernel
theorem dX6_rollUpBy_57 : decode cX6_rollUpBy 57 = .ok (.goto 15, 3) := by decide +kernel
theorem dX6_rollUpBy_60 : decode cX6_rollUpBy 60 = .ok (.aload_n 0, 1) := by decide +kernel
theorem dX6_rollUpBy_61 : decode cX6_rollUpBy 61 = .ok (.iload_n 1, 1) := by decide +kernel
theorem dX6_rollUpBy_62 : decode cX6_rollUpBy 62 = .ok (.iload 4, 2) := by decide +kernel
theorem dX6_rollUpBy_64 : decode cX6_rollUpBy 64 = .ok (.isub, 1) := by decide +kernel
theorem dX6_rollUpBy_65 : decode cX6_rollUpBy 65 = .ok (.aload_n 2, 1) := by decide +kernel
theorem dX6_rollUpBy_66 : decode cX6_rollUpBy 66 = .ok (.getfield 69, 3) := by decide +kernel
theorem dX6_rollUpBy_69 : decode cX6_rollUpBy 69 = .ok (.invokevirtual 72, 3) := by decide +kernel
theorem dX6_rollUpBy_72 : decode cX6_rollUpBy 72 = .ok (.istore 5, 2) := by decide +kernel
theorem dX6_rollUpBy_74 : decode cX6_rollUpBy 74 = .ok (.iconst 0, 1) := by decide +kernel
theorem dX6_rollUpBy_75 : decode cX6_rollUpBy 75 = .ok (.istore 6, 2) := by decide +kernel
theorem dX6_rollUpBy_77 : decode cX6_rollUpBy 77 = .ok (.iload 6, 2) := by decide +kernel
theorem dX6_rollUpBy_79 : decode cX6_rollUpBy 79 = .ok (.iload 5, 2) := by decide +kernel
theorem dX6_rollUpBy_81 : decode cX6_rollUpBy 81 = .ok (.if_icmp .ge 14, 3) := by decide +kernel
theorem dX6_rollUpBy_84 : decode cX6_rollUpBy 84 = .ok (.aload_n 0, 1) := by decide +kernel
theorem dX6_rollUpBy_85 : decode cX6_rollUpBy 85 = .ok (.aload_n 2, 1) := by decide +kernel
theorem dX6_rollUpBy_86 : decode cX6_rollUpBy 86 = .ok (.invokevirtual 76, 3) := by decide +kernel
theorem dX6_rollUpBy_89 : decode cX6_rollUpBy 89 = .ok (.iinc 6 1, 3) := by decide +kernel
theorem dX6_rollUpBy_92 : decode cX6_rollUpBy 92 = .ok (.goto (-15), 3) := by decide +kernel
theorem dX6_rollUpBy_95 : decode cX6_rollUpBy 95 = .ok (.return_, 1) := by decide +kernel
set_option maxRecDepth 20000 in
theorem ggX6_fineEndingBy_X0_number : GoodIn wsX6_fineEndingBy wsX0_number := goodIn_r _ [8, 9, 15, 16] (by decide +kernel) (by decide +kernel)
set_option maxRecDepth 20000 in
theorem gX6_fineEndingBy_X0_number : GoodIn wsX6_fineEndingBy (wsV RX6 82 RX0 yX0_number wsX0_number) := goodIn_app (goodIn_of _ (by decide +kernel)) ggX6_fineEndingBy_X0_number
theorem dX6_fineEndingBy_0 : decode cX6_fineEndingBy 0 = .ok (.iconst 0, 1) := by decide +kernel
theorem dX6_fineEndingBy_1 : decode cX6_fineEndingBy 1 = .ok (.istore_n 3, 1) := by decide +kernel
theorem dX6_fineEndingBy_2 : decode cX6_fineEndingBy 2 = .ok (.iload_n 3, 1) := by decide +kernel
theorem dX6_fineEndingBy_3 : decode cX6_fineEndingBy 3 = .ok (.aload_n 0, 1) := by decide +kernel
theorem dX6_fineEndingBy_4 : decode cX6_fineEndingBy 4 = .ok (.getfield 21, 3) := by decide +kernel
theorem dX6_fineEndingBy_7 : decode cX6_fineEndingBy 7 = .ok (.getfield 79, 3) := by decide +kernel
theorem dX6_fineEndingBy_10 : decode cX6_fineEndingBy 10 = .ok (.if_icmp .ge 26, 3) := by decide +kernel
theorem dX6_fineEndingBy_13 : decode cX6_fineEndingBy 13 = .ok (.aload_n 0, 1) := by decide +kernel
theorem dX6_fineEndingBy_14 : decode cX6_fineEndingBy 14 = .ok (.getfield 21, 3) := by decide +kernel
theorem dX6_fineEndingBy_17 : decode cX6_fineEndingBy 17 = .ok (.iload_n 3, 1) := by decide +kernel
theorem dX6_fineEndingBy_18 : decode cX6_fineEndingBy 18 = .ok (.iconst 0, 1) := by decide +kernel
theorem dX6_fineEndingBy_19 : decode cX6_fineEndingBy 19 = .ok (.invokevirtual 82, 3) := by decide +kernel
theorem dX6_fineEndingBy_22 : decode cX6_fineEndingBy 22 = .ok (.iload_n 2, 1) := by decide +kernel
theorem dX6_fineEndingBy_23 : decode cX6_fineEndingBy 23 = .ok (.iadd, 1) := by decide +kernel
theorem dX6_fineEndingBy_24 : decode cX6_fineEndingBy 24 = .ok (.iload_n 1, 1) := by decide +kernel
theorem dX6_fineEndingBy_25 : decode cX6_fineEndingBy 25 = .ok (.if_icmp .le 5, 3) := by decide +kernel
theorem dX6_fineEndingBy_28 : decode cX6_fineEndingBy 28 = .ok (.iload_n 3, 1) := by decide +kernel
theorem dX6_fineEndingBy_29 : decode cX6_fineEndingBy 29 = .ok (.ireturn, 1) := by decide +kernel
theorem dX6_fineEndingBy_30 : decode cX6_fineEndingBy 30 = .ok (.iinc 3 1, 3) := by decide +kernel
theorem dX6_fineEndingBy_33 : decode cX6_fineEndingBy 33 = .ok (.goto (-31), 3) := by decide +kernel
theorem dX6_fineEndingBy_36 : decode cX6_fineEndingBy 36 = .ok (.aload_n 0, 1) := by decide +kernel
theorem dX6_fineEndingBy_37 : decode cX6_fineEndingBy 37 = .ok (.getfield 21, 3) := by decide +kernel
theorem dX6_fineEndingBy_40 : decode cX6_fineEndingBy 40 = .ok (.getfield 79, 3) := by decide +kernel
theorem dX6_fineEndingBy_43 : decode cX6_fineEndingBy 43 = .ok (.ireturn, 1) := by decide +kernel
set_option maxRecDepth 20000 in
theorem ggX6_rollUpFirstBlock_X4_sizeOf : GoodIn wsX6_rollUpFirstBlock wsX4_sizeOf := goodIn_r _ [8, 9, 10, 11, 12, 13, 7, 14, 15, 16, 17, 94, 95, 96, 97, 98, 99, 100, 101, 102] (by decide +kernel) (by decide +kernel)
set_option maxRecDepth 20000 in
theorem gX6_rollUpFirstBlock_X4_sizeOf : GoodIn wsX6_rollUpFirstBlock (wsV RX6 85 RX4 yX4_sizeOf wsX4_sizeOf) := goodIn_app (goodIn_of _ (by decide +kernel)) ggX6_rollUpFirstBlock_X4_sizeOf
set_option maxRecDepth 20000 in
theorem ggX6_rollUpFirstBlock_X4_number : GoodIn wsX6_rollUpFirstBlock wsX4_number := goodIn_r _ [21, 22, 23, 94, 95, 96, 97, 98, 99, 100] (by decide +kernel) (by decide +kernel)
set_option maxRecDepth 20000 in
theorem gX6_rollUpFirstBlock_X4_number : GoodIn wsX6_rollUpFirstBlock (wsV RX6 88 RX4 yX4_number wsX4_number) := goodIn_app (goodIn_of _ (by decide +kernel)) ggX6_rollUpFirstBlock_X4_number
set_option maxRecDepth 20000 in
theorem ggX6_rollUpFirstBlock_X6_startFor : GoodIn wsX6_rollUpFirstBlock wsX6_startFor := goodIn_r _ [27] (by decide +kernel) (by decide +kernel)
set_option maxRecDepth 20000 in
theorem gX6_rollUpFirstBlock_X6_startFor : GoodIn wsX6_rollUpFirstBlock (va_wsS RX6 89 yX6_startFor wsX6_startFor) := goodIn_app (goodIn_of _ (by decide +kernel)) ggX6_rollUpFirstBlock_X6_startFor
set_option maxRecDepth 20000 in
theorem ggX6_rollUpFirstBlock_X0_take : GoodIn wsX6_rollUpFirstBlock wsX0_take := goodIn_r _ [32, 33, 34, 35, 36, 37, 38, 39, 40, 41, 42, 43, 44, 31, 45, 46, 47, 48, 49, 50, 19, 7, 21, 22, 23, 51, 52, 53, 54, 101, 102, 94, 95, 96, 97, 98, 99, 100] (by decide +kernel) (by decide +kernel)
set_option maxRecDepth 20000 in
theorem gX6_rollUpFirstBlock_X0_take : GoodIn wsX6_rollUpFirstBlock (wsV RX6 92 RX0 yX0_take wsX0_take) := goodIn_app (goodIn_of _ (by decide +kernel)) ggX6_rollUpFirstBlock_X0_take
set_option maxRecDepth 20000 in
theorem ggX6_rollUpFirstBlock_X0_isFull : GoodIn wsX6_rollUpFirstBlock wsX0_isFull := goodIn_r _ [58, 33, 34, 101, 102, 94, 95, 96, 97, 98, 99, 100] (by decide +kernel) (by decide +kernel)
set_option maxRecDepth 20000 in
theorem gX6_rollUpFirstBlock_X0_isFull : GoodIn wsX6_rollUpFirstBlock (wsV RX6 96 RX0 yX0_isFull wsX0_isFull) := goodIn_app (goodIn_of _ (by decide +kernel)) ggX6_rollUpFirstBlock_X0_isFull
set_option maxRecDepth 20000 in
theorem ggX6_rollUpFirstBlock_X6_rollUpFirstFine : GoodIn wsX6_rollUpFirstBlock wsX6_rollUpFirstFine := goodIn_r _ [62, 2, 3, 63, 64, 65, 43, 44, 31, 45, 46, 24, 25, 26, 27, 28, 29, 30, 32, 33, 34, 35, 36, 37, 38, 39, 40, 41, 42, 47, 48, 49, 50, 19, 7, 21, 22, 23, 51, 52, 53, 54, 66, 67, 68, 69, 55, 56, 57, 58, 84, 85, 86, 87, 88, 89, 90, 91, 92, 93, 101, 102, 94, 95, 96, 97, 98, 99, 100] (by decide +kernel) (by decide +kernel)
set_option maxRecDepth 20000 in
theorem gX6_rollUpFirstBlock_X6_rollUpFirstFine : GoodIn wsX6_rollUpFirstBlock (wsV RX6 76 RX6 yX6_rollUpFirstFine wsX6_rollUpFirstFine) := goodIn_app (goodIn_of _ (by decide +kernel)) ggX6_rollUpFirstBlock_X6_rollUpFirstFine
set_option maxRecDepth 20000 in
theorem ggX6_rollUpFirstBlock_X4_dropFirstBlock : GoodIn wsX6_rollUpFirstBlock wsX4_dropFirstBlock := goodIn_r _ [73, 9, 15, 16, 10, 17, 74, 5, 6, 7, 8, 11, 12, 13, 14, 75, 76, 77, 78, 79, 19, 20, 21, 22, 23, 80, 81, 82, 83, 94, 95, 96, 97, 98, 99, 100, 101, 102] (by decide +kernel) (by decide +kernel)
set_option maxRecDepth 20000 in
theorem gX6_rollUpFirstBlock_X4_dropFirstBlock : GoodIn wsX6_rollUpFirstBlock (wsV RX6 99 RX4 yX4_dropFirstBlock wsX4_dropFirstBlock) := goodIn_app (goodIn_of _ (by decide +kernel)) ggX6_rollUpFirstBlock_X4_dropFirstBlock
theorem dX6_rollUpFirstBlock_0 : decode cX6_rollUpFirstBlock 0 = .ok (.aload_n 0, 1) := by decide +kernel
theorem dX6_rollUpFirstBlock_1 : decode cX6_rollUpFirstBlock 1 = .ok (.getfield 12, 3) := by decide +kernel
theorem dX6_rollUpFirstBlock_4 : decode cX6_rollUpFirstBlock 4 = .ok (.iconst 0, 1) := by decide +kernel
theorem dX6_rollUpFirstBlock_5 : decode cX6_rollUpFirstBlock 5 = .ok (.invokevirtual 85, 3) := by decide +kernel
theorem dX6_rollUpFirstBlock_8 : decode cX6_rollUpFirstBlock 8 = .ok (.istore_n 2, 1) := by decide +kernel
theorem dX6_rollUpFirstBlock_9 : decode cX6_rollUpFirstBlock 9 = .ok (.iconst 0, 1) := by decide +kernel
theorem dX6_rollUpFirstBlock_10 : decode cX6_rollUpFirstBlock 10 = .ok (.istore_n 3, 1) := by decide +kernel
theorem dX6_rollUpFirstBlock_11 : decode cX6_rollUpFirstBlock 11 = .ok (.iload_n 3, 1) := by decide +kernel
theorem dX6_rollUpFirstBlock_12 : decode cX6_rollUpFirstBlock 12 = .ok (.iload_n 2, 1) := by decide +kernel
theorem dX6_rollUpFirstBlock_13 : decode cX6_rollUpFirstBlock 13 = .ok (.if_icmp .ge 52, 3) := by decide +kernel
theorem dX6_rollUpFirstBlock_16 : decode cX6_rollUpFirstBlock 16 = .ok (.aload_n 0, 1) := by decide +kernel
theorem dX6_rollUpFirstBlock_17 : decode cX6_rollUpFirstBlock 17 = .ok (.getfield 21, 3) := by decide +kernel
theorem dX6_rollUpFirstBlock_20 : decode cX6_rollUpFirstBlock 20 = .ok (.aload_n 0, 1) := by decide +kernel
theorem dX6_rollUpFirstBlock_21 : decode cX6_rollUpFirstBlock 21 = .ok (.getfield 12, 3) := by decide +kernel
theorem dX6_rollUpFirstBlock_24 : decode cX6_rollUpFirstBlock 24 = .ok (.iload_n 3, 1) := by decide +kernel
theorem dX6_rollUpFirstBlock_25 : decode cX6_rollUpFirstBlock 25 = .ok (.iconst 0, 1) := by decide +kernel
theorem dX6_rollUpFirstBlock_26 : decode cX6_rollUpFirstBlock 26 = .ok (.invokevirtual 88, 3) := by decide +kernel
theorem dX6_rollUpFirstBlock_29 : decode cX6_rollUpFirstBlock 29 = .ok (.aload_n 1, 1) := by decide +kernel
theorem dX6_rollUpFirstBlock_30 : decode cX6_rollUpFirstBlock 30 = .ok (.getfield 69, 3) := by decide +kernel
theorem dX6_rollUpFirstBlock_33 : decode cX6_rollUpFirstBlock 33 = .ok (.invokestatic 89, 3) := by decide +kernel
theorem dX6_rollUpFirstBlock_36 : decode cX6_rollUpFirstBlock 36 = .ok (.aload_n 0, 1) := by decide +kernel
theorem dX6_rollUpFirstBlock_37 : decode cX6_rollUpFirstBlock 37 = .ok (.getfield 12, 3) := by decide +kernel
theorem dX6_rollUpFirstBlock_40 : decode cX6_rollUpFirstBlock 40 = .ok (.iload_n 3, 1) := by decide +kernel
theorem dX6_rollUpFirstBlock_41 : decode cX6_rollUpFirstBlock 41 = .ok (.invokevirtual 92, 3) := by decide +kernel
theorem dX6_rollUpFirstBlock_44 : decode cX6_rollUpFirstBlock 44 = .ok (.aload_n 0, 1) := by decide +kernel
theorem dX6_rollUpFirstBlock_45 : decode cX6_rollUpFirstBlock 45 = .ok (.getfield 21, 3) := by decide +kernel
theorem dX6_rollUpFirstBlock_48 : decode cX6_rollUpFirstBlock 48 = .ok (.invokevirtual 96, 3) := by decide +kernel
theorem dX6_rollUpFirstBlock_51 : decode cX6_rollUpFirstBlock 51 = .ok (.ifCond .eq 8, 3) := by decide +kernel
theorem dX6_rollUpFirstBlock_54 : decode cX6_rollUpFirstBlock 54 = .ok (.aload_n 0, 1) := by decide +kernel
theorem dX6_rollUpFirstBlock_55 : decode cX6_rollUpFirstBlock 55 = .ok (.aload_n 1, 1) := by decide +kernel
theorem dX6_rollUpFirstBlock_56 : decode cX6_rollUpFirstBlock 56 = .ok (.invokevirtual 76, 3) := by decide +kernel
theorem dX6_rollUpFirstBlock_59 : decode cX6_rollUpFirstBlock 59 = .ok (.iinc 3 1, 3) := by decide +kernel
theorem dX6_rollUpFirstBlock_62 : decode cX6_rollUpFirstBlock 62 = .ok (.goto (-51), 3) := by decide +kernel
theorem dX6_rollUpFirstBlock_65 : decode cX6_rollUpFirstBlock 65 = .ok (.aload_n 0, 1) := by decide +kernel
theorem dX6_rollUpFirstBlock_66 : decode cX6_rollUpFirstBlock 66 = .ok (.getfield 12, 3) := by decide +kernel
theorem dX6_rollUpFirstBlock_69 : decode cX6_rollUpFirstBlock 69 = .ok (.invokevirtual 99, 3) := by decide +kernel
theorem dX6_rollUpFirstBlock_72 : decode cX6_rollUpFirstBlock 72 = .ok (.return_, 1) := by decide +kernel
set_option maxRecDepth 20000 in
theorem ggX6_rollUpFirstFine_X0_number : GoodIn wsX6_rollUpFirstFine wsX0_number := goodIn_r _ [9, 10, 60, 61] (by decide +kernel) (by decide +kernel)
set_option maxRecDepth 20000 in
theorem gX6_rollUpFirstFine_X0_number : GoodIn wsX6_rollUpFirstFine (wsV RX6 82 RX0 yX0_number wsX0_number) := goodIn_app (goodIn_of _ (by decide +kernel)) ggX6_rollUpFirstFine_X0_number
set_option maxRecDepth 20000 in
theorem ggX6_rollUpFirstFine_X6_startFor : GoodIn wsX6_rollUpFirstFine wsX6_startFor := goodIn_r _ [14] (by decide +kernel) (by decide +kernel)
set_option maxRecDepth 20000 in
theorem gX6_rollUpFirstFine_X6_startFor : GoodIn wsX6_rollUpFirstFine (va_wsS RX6 89 yX6_startFor wsX6_startFor) := goodIn_app (goodIn_of _ (by decide +kernel)) ggX6_rollUpFirstFine_X6_startFor
set_option maxRecDepth 20000 in
theorem ggX6_rollUpFirstFine_X0_take : GoodIn wsX6_rollUpFirstFine wsX0_take := goodIn_r _ [18, 19, 20, 21, 22, 23, 24, 25, 26, 27, 28, 6, 7, 8, 9, 10, 29, 30, 31, 32, 33, 34, 35, 36, 37, 38, 39, 40, 41, 60, 61, 62, 63, 64, 65, 66, 67, 68] (by decide +kernel) (by decide +kernel)
set_option maxRecDepth 20000 in
theorem gX6_rollUpFirstFine_X0_take : GoodIn wsX6_rollUpFirstFine (wsV RX6 92 RX0 yX0_take wsX0_take) := goodIn_app (goodIn_of _ (by decide +kernel)) ggX6_rollUpFirstFine_X0_take
set_option maxRecDepth 20000 in
theorem ggX6_rollUpFirstFine_X0_dropFirst : GoodIn wsX6_rollUpFirstFine wsX0_dropFirst := goodIn_r _ [45, 19, 20, 10, 60, 61, 62, 63, 64, 65, 66, 67, 68] (by decide +kernel) (by decide +kernel)
set_option maxRecDepth 20000 in
theorem gX6_rollUpFirstFine_X0_dropFirst : GoodIn wsX6_rollUpFirstFine (wsV RX6 105 RX0 yX0_dropFirst wsX0_dropFirst) := goodIn_app (goodIn_of _ (by decide +kernel)) ggX6_rollUpFirstFine_X0_dropFirst
set_option maxRecDepth 20000 in
theorem ggX6_rollUpFirstFine_X0_isFull : GoodIn wsX6_rollUpFirstFine wsX0_isFull := goodIn_r _ [49, 19, 20, 60, 61, 62, 63, 64, 65, 66, 67, 68] (by decide +kernel) (by decide +kernel)
set_option maxRecDepth 20000 in
theorem gX6_rollUpFirstFine_X0_isFull : GoodIn wsX6_rollUpFirstFine (wsV RX6 96 RX0 yX0_isFull wsX0_isFull) := goodIn_app (goodIn_of _ (by decide +kernel)) ggX6_rollUpFirstFine_X0_isFull
theorem dX6_rollUpFirstFine_0 : decode cX6_rollUpFirstFine 0 = .ok (.aload_n 0, 1) := by decide +kernel
theorem dX6_rollUpFirstFine_1 : decode cX6_rollUpFirstFine 1 = .ok (.getfield 21, 3) := by decide +kernel
theorem dX6_rollUpFirstFine_4 : decode cX6_rollUpFirstFine 4 = .ok (.iconst 0, 1) := by decide +kernel
theorem dX6_rollUpFirstFine_5 : decode cX6_rollUpFirstFine 5 = .ok (.iconst 0, 1) := by decide +kernel
theorem dX6_rollUpFirstFine_6 : decode cX6_rollUpFirstFine 6 = .ok (.invokevirtual 82, 3) := by decide +kernel
theorem dX6_rollUpFirstFine_9 : decode cX6_rollUpFirstFine 9 = .ok (.aload_n 1, 1) := by decide +kernel
theorem dX6_rollUpFirstFine_10 : decode cX6_rollUpFirstFine 10 = .ok (.getfield 69, 3) := by decide +kernel
theorem dX6_rollUpFirstFine_13 : decode cX6_rollUpFirstFine 13 = .ok (.aload_n 1, 1) := by decide +kernel
theorem dX6_rollUpFirstFine_14 : decode cX6_rollUpFirstFine 14 = .ok (.getfield 102, 3) := by decide +kernel
theorem dX6_rollUpFirstFine_17 : decode cX6_rollUpFirstFine 17 = .ok (.imul, 1) := by decide +kernel
theorem dX6_rollUpFirstFine_18 : decode cX6_rollUpFirstFine 18 = .ok (.invokestatic 89, 3) := by decide +kernel
theorem dX6_rollUpFirstFine_21 : decode cX6_rollUpFirstFine 21 = .ok (.istore_n 2, 1) := by decide +kernel
theorem dX6_rollUpFirstFine_22 : decode cX6_rollUpFirstFine 22 = .ok (.aload_n 0, 1) := by decide +kernel
theorem dX6_rollUpFirstFine_23 : decode cX6_rollUpFirstFine 23 = .ok (.getfield 25, 3) := by decide +kernel
theorem dX6_rollUpFirstFine_26 : decode cX6_rollUpFirstFine 26 = .ok (.iload_n 2, 1) := by decide +kernel
theorem dX6_rollUpFirstFine_27 : decode cX6_rollUpFirstFine 27 = .ok (.aload_n 0, 1) := by decide +kernel
theorem dX6_rollUpFirstFine_28 : decode cX6_rollUpFirstFine 28 = .ok (.getfield 21, 3) := by decide +kernel
theorem dX6_rollUpFirstFine_31 : decode cX6_rollUpFirstFine 31 = .ok (.iconst 0, 1) := by decide +kernel
theorem dX6_rollUpFirstFine_32 : decode cX6_rollUpFirstFine 32 = .ok (.invokevirtual 92, 3) := by decide +kernel
theorem dX6_rollUpFirstFine_35 : decode cX6_rollUpFirstFine 35 = .ok (.aload_n 0, 1) := by decide +kernel
theorem dX6_rollUpFirstFine_36 : decode cX6_rollUpFirstFine 36 = .ok (.getfield 21, 3) := by decide +kernel
theorem dX6_rollUpFirstFine_39 : decode cX6_rollUpFirstFine 39 = .ok (.invokevirtual 105, 3) := by decide +kernel
theorem dX6_rollUpFirstFine_42 : decode cX6_rollUpFirstFine 42 = .ok (.aload_n 0, 1) := by decide +kernel
theorem dX6_rollUpFirstFine_43 : decode cX6_rollUpFirstFine 43 = .ok (.getfield 25, 3) := by decide +kernel
theorem dX6_rollUpFirstFine_46 : decode cX6_rollUpFirstFine 46 = .ok (.invokevirtual 96, 3) := by decide +kernel
theorem dX6_rollUpFirstFine_49 : decode cX6_rollUpFirstFine 49 = .ok (.ifCond .eq 10, 3) := by decide +kernel
theorem dX6_rollUpFirstFine_52 : decode cX6_rollUpFirstFine 52 = .ok (.aload_n 0, 1) := by decide +kernel
theorem dX6_rollUpFirstFine_53 : decode cX6_rollUpFirstFine 53 = .ok (.getfield 25, 3) := by decide +kernel
theorem dX6_rollUpFirstFine_56 : decode cX6_rollUpFirstFine 56 = .ok (.invokevirtual 105, 3) := by decide +kernel
theorem dX6_rollUpFirstFine_59 : decode cX6_rollUpFirstFine 59 = .ok (.return_, 1) := by decide +kernel
theorem dX6_startFor_0 : decode cX6_startFor 0 = .ok (.iload_n 1, 1) := by decide +kernel
theorem dX6_startFor_1 : decode cX6_startFor 1 = .ok (.ifCond .le 11, 3) := by decide +kernel
theorem dX6_startFor_4 : decode cX6_startFor 4 = .ok (.iload_n 0, 1) := by decide +kernel
theorem dX6_startFor_5 : decode cX6_startFor 5 = .ok (.iload_n 0, 1) := by decide +kernel
theorem dX6_startFor_6 : decode cX6_startFor 6 = .ok (.iload_n 1, 1) := by decide +kernel
theorem dX6_startFor_7 : decode cX6_startFor 7 = .ok (.irem, 1) := by decide +kernel
theorem dX6_startFor_8 : decode cX6_startFor 8 = .ok (.isub, 1) := by decide +kernel
theorem dX6_startFor_9 : decode cX6_startFor 9 = .ok (.goto 4, 3) := by decide +kernel
theorem dX6_startFor_12 : decode cX6_startFor 12 = .ok (.iload_n 0, 1) := by decide +kernel
theorem dX6_startFor_13 : decode cX6_startFor 13 = .ok (.ireturn, 1) := by decide +kernel
theorem dX6_itemCount_0 : decode cX6_itemCount 0 = .ok (.aload_n 0, 1) := by decide +kernel
theorem dX6_itemCount_1 : decode cX6_itemCount 1 = .ok (.getfield 25, 3) := by decide +kernel
theorem dX6_itemCount_4 : decode cX6_itemCount 4 = .ok (.getfield 79, 3) := by decide +kernel
theorem dX6_itemCount_7 : decode cX6_itemCount 7 = .ok (.aload_n 0, 1) := by decide +kernel
theorem dX6_itemCount_8 : decode cX6_itemCount 8 = .ok (.getfield 21, 3) := by decide +kernel
theorem dX6_itemCount_11 : decode cX6_itemCount 11 = .ok (.getfield 79, 3) := by decide +kernel
theorem dX6_itemCount_14 : decode cX6_itemCount 14 = .ok (.iadd, 1) := by decide +kernel
theorem dX6_itemCount_15 : decode cX6_itemCount 15 = .ok (.aload_n 0, 1) := by decide +kernel
theorem dX6_itemCount_16 : decode cX6_itemCount 16 = .ok (.getfield 12, 3) := by decide +kernel
theorem dX6_itemCount_19 : decode cX6_itemCount 19 = .ok (.getfield 108, 3) := by decide +kernel
theorem dX6_itemCount_22 : decode cX6_itemCount 22 = .ok (.iadd, 1) := by decide +kernel
theorem dX6_itemCount_23 : decode cX6_itemCount 23 = .ok (.ireturn, 1) := by decide +kernel
set_option maxRecDepth 20000 in
theorem ggX6_ofItem_X0_number : GoodIn wsX6_ofItem wsX0_number := goodIn_r _ [10, 11, 24, 25] (by decide +kernel) (by decide +kernel)
set_option maxRecDepth 20000 in
theorem gX6_ofItem_X0_number : GoodIn wsX6_ofItem (wsV RX6 82 RX0 yX0_number wsX0_number) := goodIn_app (goodIn_of _ (by decide +kernel)) ggX6_ofItem_X0_number
set_option maxRecDepth 20000 in
theorem ggX6_ofItem_X4_number : GoodIn wsX6_ofItem wsX4_number := goodIn_r _ [16, 17, 18, 26, 27, 28, 29, 30, 31, 32] (by decide +kernel) (by decide +kernel)
set_option maxRecDepth 20000 in
theorem gX6_ofItem_X4_number : GoodIn wsX6_ofItem (wsV RX6 88 RX4 yX4_number wsX4_number) := goodIn_app (goodIn_of _ (by decide +kernel)) ggX6_ofItem_X4_number
theorem dX6_ofItem_0 : decode cX6_ofItem 0 = .ok (.iload_n 1, 1) := by decide +kernel
theorem dX6_ofItem_1 : decode cX6_ofItem 1 = .ok (.aload_n 0, 1) := by decide +kernel
theorem dX6_ofItem_2 : decode cX6_ofItem 2 = .ok (.getfield 25, 3) := by decide +kernel
theorem dX6_ofItem_5 : decode cX6_ofItem 5 = .ok (.getfield 79, 3) := by decide +kernel
theorem dX6_ofItem_8 : decode cX6_ofItem 8 = .ok (.if_icmp .ge 13, 3) := by decide +kernel
theorem dX6_ofItem_11 : decode cX6_ofItem 11 = .ok (.aload_n 0, 1) := by decide +kernel
theorem dX6_ofItem_12 : decode cX6_ofItem 12 = .ok (.getfield 25, 3) := by decide +kernel
theorem dX6_ofItem_15 : decode cX6_ofItem 15 = .ok (.iload_n 1, 1) := by decide +kernel
theorem dX6_ofItem_16 : decode cX6_ofItem 16 = .ok (.iload_n 2, 1) := by decide +kernel
theorem dX6_ofItem_17 : decode cX6_ofItem 17 = .ok (.invokevirtual 82, 3) := by decide +kernel
theorem dX6_ofItem_20 : decode cX6_ofItem 20 = .ok (.ireturn, 1) := by decide +kernel
theorem dX6_ofItem_21 : decode cX6_ofItem 21 = .ok (.iload_n 1, 1) := by decide +kernel
theorem dX6_ofItem_22 : decode cX6_ofItem 22 = .ok (.aload_n 0, 1) := by decide +kernel
theorem dX6_ofItem_23 : decode cX6_ofItem 23 = .ok (.getfield 25, 3) := by decide +kernel
theorem dX6_ofItem_26 : decode cX6_ofItem 26 = .ok (.getfield 79, 3) := by decide +kernel
theorem dX6_ofItem_29 : decode cX6_ofItem 29 = .ok (.isub, 1) := by decide +kernel
theorem dX6_ofItem_30 : decode cX6_ofItem 30 = .ok (.istore_n 3, 1) := by decide +kernel
theorem dX6_ofItem_31 : decode cX6_ofItem 31 = .ok (.iload_n 3, 1) := by decide +kernel
theorem dX6_ofItem_32 : decode cX6_ofItem 32 = .ok (.aload_n 0, 1) := by decide +kernel
theorem dX6_ofItem_33 : decode cX6_ofItem 33 = .ok (.getfield 21, 3) := by decide +kernel
theorem dX6_ofItem_36 : decode cX6_ofItem 36 = .ok (.getfield 79, 3) := by decide +kernel
theorem dX6_ofItem_39 : decode cX6_ofItem 39 = .ok (.if_icmp .ge 13, 3) := by decide +kernel
theorem dX6_ofItem_42 : decode cX6_ofItem 42 = .ok (.aload_n 0, 1) := by decide +kernel
theorem dX6_ofItem_43 : decode cX6_ofItem 43 = .ok (.getfield 21, 3) := by decide +kernel
theorem dX6_ofItem_46 : decode cX6_ofItem 46 = .ok (.iload_n 3, 1) := by decide +kernel
theorem dX6_ofItem_47 : decode cX6_ofItem 47 = .ok (.iload_n 2, 1) := by decide +kernel
theorem dX6_ofItem_48 : decode cX6_ofItem 48 = .ok (.invokevirtual 82, 3) := by decide +kernel
theorem dX6_ofItem_51 : decode cX6_ofItem 51 = .ok (.ireturn, 1) := by decide +kernel
theorem dX6_ofItem_52 : decode cX6_ofItem 52 = .ok (.aload_n 0, 1) := by decide +kernel
theorem dX6_ofItem_53 : decode cX6_ofItem 53 = .ok (.getfield 12, 3) := by decide +kernel
theorem dX6_ofItem_56 : decode cX6_ofItem 56 = .ok (.iload_n 3, 1) := by decide +kernel
theorem dX6_ofItem_57 : decode cX6_ofItem 57 = .ok (.aload_n 0, 1) := by decide +kernel
theorem dX6_ofItem_58 : decode cX6_ofItem 58 = .ok (.getfield 21, 3) := by decide +kernel
theorem dX6_ofItem_61 : decode cX6_ofItem 61 = .ok (.getfield 79, 3) := by decide +kernel
theorem dX6_ofItem_64 : decode cX6_ofItem 64 = .ok (.isub, 1) := by decide +kernel
theorem dX6_ofItem_65 : decode cX6_ofItem 65 = .ok (.iload_n 2, 1) := by decide +kernel
theorem dX6_ofItem_66 : decode cX6_ofItem 66 = .ok (.invokevirtual 88, 3) := by decide +kernel
theorem dX6_ofItem_69 : decode cX6_ofItem 69 = .ok (.ireturn, 1) := by decide +kernel
set_option maxRecDepth 20000 in
theorem ggX6_firstItemFrom_X6_itemCount : GoodIn wsX6_firstItemFrom wsX6_itemCount := goodIn_r _ [5, 6, 7, 8, 9, 10, 11, 12, 30, 31, 32, 33, 34, 35, 36, 37, 38, 39, 40, 41, 42, 43] (by decide +kernel) (by decide +kernel)
set_option maxRecDepth 20000 in
theorem gX6_firstItemFrom_X6_itemCount : GoodIn wsX6_firstItemFrom (wsV RX6 109 RX6 yX6_itemCount wsX6_itemCount) := goodIn_app (goodIn_of _ (by decide +kernel)) ggX6_firstItemFrom_X6_itemCount
set_option maxRecDepth 20000 in
theorem ggX6_firstItemFrom_X6_ofItem : GoodIn wsX6_firstItemFrom wsX6_ofItem := goodIn_r _ [16, 6, 7, 8, 9, 10, 17, 18, 19, 20, 21, 22, 23, 24, 25, 26, 27, 28, 29, 30, 31, 32, 33, 34, 35, 36, 37, 38, 39, 40, 41, 42, 43] (by decide +kernel) (by decide +kernel)
set_option maxRecDepth 20000 in
theorem gX6_firstItemFrom_X6_ofItem : GoodIn wsX6_firstItemFrom (wsV RX6 112 RX6 yX6_ofItem wsX6_ofItem) := goodIn_app (goodIn_of _ (by decide +kernel)) ggX6_firstItemFrom_X6_ofItem
theorem dX6_firstItemFrom_0 : decode cX6_firstItemFrom 0 = .ok (.iconst 0, 1) := by decide +kernel
theorem dX6_firstItemFrom_1 : decode cX6_firstItemFrom 1 = .ok (.istore_n 2, 1) := by decide +kernel
theorem dX6_firstItemFrom_2 : decode cX6_firstItemFrom 2 = .ok (.aload_n 0, 1) := by decide +kernel
theorem dX6_firstItemFrom_3 : decode cX6_firstItemFrom 3 = .ok (.invokevirtual 109, 3) := by decide +kernel
theorem dX6_firstItemFrom_6 : decode cX6_firstItemFrom 6 = .ok (.istore_n 3, 1) := by decide +kernel
theorem dX6_firstItemFrom_7 : decode cX6_firstItemFrom 7 = .ok (.iconst 0, 1) := by decide +kernel
theorem dX6_firstItemFrom_8 : decode cX6_firstItemFrom 8 = .ok (.istore 4, 2) := by decide +kernel
theorem dX6_firstItemFrom_10 : decode cX6_firstItemFrom 10 = .ok (.iload 4, 2) := by decide +kernel
theorem dX6_firstItemFrom_12 : decode cX6_firstItemFrom 12 = .ok (.bipush 32, 2) := by decide +kernel
theorem dX6_firstItemFrom_14 : decode cX6_firstItemFrom 14 = .ok (.if_icmp .ge 43, 3) := by decide +kernel
theorem dX6_firstItemFrom_17 : decode cX6_firstItemFrom 17 = .ok (.iload_n 2, 1) := by decide +kernel
theorem dX6_firstItemFrom_18 : decode cX6_firstItemFrom 18 = .ok (.iload_n 3, 1) := by decide +kernel
theorem dX6_firstItemFrom_19 : decode cX6_firstItemFrom 19 = .ok (.if_icmp .ge 38, 3) := by decide +kernel
theorem dX6_firstItemFrom_22 : decode cX6_firstItemFrom 22 = .ok (.iload_n 2, 1) := by decide +kernel
theorem dX6_firstItemFrom_23 : decode cX6_firstItemFrom 23 = .ok (.iload_n 3, 1) := by decide +kernel
theorem dX6_firstItemFrom_24 : decode cX6_firstItemFrom 24 = .ok (.iadd, 1) := by decide +kernel
theorem dX6_firstItemFrom_25 : decode cX6_firstItemFrom 25 = .ok (.iconst 2, 1) := by decide +kernel
theorem dX6_firstItemFrom_26 : decode cX6_firstItemFrom 26 = .ok (.idiv, 1) := by decide +kernel
theorem dX6_firstItemFrom_27 : decode cX6_firstItemFrom 27 = .ok (.istore 5, 2) := by decide +kernel
theorem dX6_firstItemFrom_29 : decode cX6_firstItemFrom 29 = .ok (.aload_n 0, 1) := by decide +kernel
theorem dX6_firstItemFrom_30 : decode cX6_firstItemFrom 30 = .ok (.iload 5, 2) := by decide +kernel
theorem dX6_firstItemFrom_32 : decode cX6_firstItemFrom 32 = .ok (.iconst 0, 1) := by decide +kernel
theorem dX6_firstItemFrom_33 : decode cX6_firstItemFrom 33 = .ok (.invokevirtual 112, 3) := by decide +kernel
theorem dX6_firstItemFrom_36 : decode cX6_firstItemFrom 36 = .ok (.iload_n 1, 1) := by decide +kernel
theorem dX6_firstItemFrom_37 : decode cX6_firstItemFrom 37 = .ok (.if_icmp .ge 11, 3) := by decide +kernel
theorem dX6_firstItemFrom_40 : decode cX6_firstItemFrom 40 = .ok (.iload 5, 2) := by decide +kernel
theorem dX6_firstItemFrom_42 : decode cX6_firstItemFrom 42 = .ok (.iconst 1, 1) := by decide +kernel
theorem dX6_firstItemFrom_43 : decode cX6_firstItemFrom 43 = .ok (.iadd, 1) := by decide +kernel
theorem dX6_firstItemFrom_44 : decode cX6_firstItemFrom 44 = .ok (.istore_n 2, 1) := by decide +kernel
theorem dX6_firstItemFrom_45 : decode cX6_firstItemFrom 45 = .ok (.goto 6, 3) := by decide +kernel
theorem dX6_firstItemFrom_48 : decode cX6_firstItemFrom 48 = .ok (.iload 5, 2) := by decide +kernel
theorem dX6_firstItemFrom_50 : decode cX6_firstItemFrom 50 = .ok (.istore_n 3, 1) := by decide +kernel
theorem dX6_firstItemFrom_51 : decode cX6_firstItemFrom 51 = .ok (.iinc 4 1, 3) := by decide +kernel
theorem dX6_firstItemFrom_54 : decode cX6_firstItemFrom 54 = .ok (.goto (-44), 3) := by decide +kernel
theorem dX6_firstItemFrom_57 : decode cX6_firstItemFrom 57 = .ok (.iload_n 2, 1) := by decide +kernel
theorem dX6_firstItemFrom_58 : decode cX6_firstItemFrom 58 = .ok (.ireturn, 1) := by decide +kernel
set_option maxRecDepth 20000 in
theorem ggX6_tell_X6_firstItemFrom : GoodIn wsX6_tell wsX6_firstItemFrom := goodIn_r _ [5, 6, 7, 8, 4, 9, 10, 11, 12, 13, 14, 15, 16, 17, 18, 19, 20, 21, 22, 23, 24, 25, 26, 27, 28, 29, 30, 31, 32, 33, 65, 66, 67, 68, 69, 70, 71, 72, 73, 74, 75, 76, 77, 78] (by decide +kernel) (by decide +kernel)
set_option maxRecDepth 20000 in
theorem gX6_tell_X6_firstItemFrom : GoodIn wsX6_tell (wsV RX6 115 RX6 yX6_firstItemFrom wsX6_firstItemFrom) := goodIn_app (goodIn_of _ (by decide +kernel)) ggX6_tell_X6_firstItemFrom
set_option maxRecDepth 20000 in
theorem ggX6_tell_X6_toldOfGap : GoodIn wsX6_tell wsX6_toldOfGap := goodIn_r _ [37, 38, 17, 18, 19, 4, 20, 10, 11, 12, 13, 14, 21, 22, 23, 24, 25, 26, 27, 28, 29, 30, 31, 32, 33, 6, 7, 8, 9, 15, 16, 39, 40, 41, 42, 65, 66, 67, 68, 69, 70, 71, 72, 73, 74, 75, 76, 77, 78] (by decide +kernel) (by decide +kernel)
set_option maxRecDepth 20000 in
theorem gX6_tell_X6_toldOfGap : GoodIn wsX6_tell (wsV RX6 118 RX6 yX6_toldOfGap wsX6_toldOfGap) := goodIn_app (goodIn_of _ (by decide +kernel)) ggX6_tell_X6_toldOfGap
set_option maxRecDepth 20000 in
theorem ggX6_tell_X6_total : GoodIn wsX6_tell wsX6_total := goodIn_r _ [46, 17, 18, 19, 4, 20, 10, 11, 12, 13, 14, 21, 22, 23, 24, 25, 26, 27, 28, 29, 30, 31, 32, 33, 65, 66, 67, 68, 69, 70, 71, 72, 73, 74, 75, 76, 77, 78] (by decide +kernel) (by decide +kernel)
set_option maxRecDepth 20000 in
theorem gX6_tell_X6_total : GoodIn wsX6_tell (wsV RX6 122 RX6 yX6_total wsX6_total) := goodIn_app (goodIn_of _ (by decide +kernel)) ggX6_tell_X6_total
set_option maxRecDepth 20000 in
theorem ggX6_tell_X6_least : GoodIn wsX6_tell wsX6_least := goodIn_r _ [50, 51, 52, 53, 54, 17, 18, 19, 4, 20, 10, 11, 12, 13, 14, 21, 22, 23, 24, 25, 26, 27, 28, 29, 30, 31, 32, 33, 65, 66, 67, 68, 69, 70, 71, 72, 73, 74, 75, 76, 77, 78] (by decide +kernel) (by decide +kernel)
set_option maxRecDepth 20000 in
theorem gX6_tell_X6_least : GoodIn wsX6_tell (wsV RX6 125 RX6 yX6_least wsX6_least) := goodIn_app (goodIn_of _ (by decide +kernel)) ggX6_tell_X6_least
set_option maxRecDepth 20000 in
theorem ggX6_tell_X6_greatest : GoodIn wsX6_tell wsX6_greatest := goodIn_r _ [58, 59, 60, 53, 61, 17, 18, 19, 4, 20, 10, 11, 12, 13, 14, 21, 22, 23, 24, 25, 26, 27, 28, 29, 30, 31, 32, 33, 65, 66, 67, 68, 69, 70, 71, 72, 73, 74, 75, 76, 77, 78] (by decide +kernel) (by decide +kernel)
set_option maxRecDepth 20000 in
theorem gX6_tell_X6_greatest : GoodIn wsX6_tell (wsV RX6 128 RX6 yX6_greatest wsX6_greatest) := goodIn_app (goodIn_of _ (by decide +kernel)) ggX6_tell_X6_greatest
set_option maxRecDepth 20000 in
theorem ggX6_tell_X6_ofItem : GoodIn wsX6_tell wsX6_ofItem := goodIn_r _ [20, 10, 11, 12, 13, 14, 21, 22, 23, 24, 25, 26, 27, 28, 29, 30, 31, 32, 33, 65, 66, 67, 68, 69, 70, 71, 72, 73, 74, 75, 76, 77, 78] (by decide +kernel) (by decide +kernel)
set_option maxRecDepth 20000 in
theorem gX6_tell_X6_ofItem : GoodIn wsX6_tell (wsV RX6 112 RX6 yX6_ofItem wsX6_ofItem) := goodIn_app (goodIn_of _ (by decide +kernel)) ggX6_tell_X6_ofItem
set_option maxRecDepth 20000 in
theorem ggX6_tell_X6_quotient : GoodIn wsX6_tell wsX6_quotient := goodIn_r _ [64, 38] (by decide +kernel) (by decide +kernel)
set_option maxRecDepth 20000 in
theorem gX6_tell_X6_quotient : GoodIn wsX6_tell (va_wsS RX6 131 yX6_quotient wsX6_quotient) := goodIn_app (goodIn_of _ (by decide +kernel)) ggX6_tell_X6_quotient
theorem dX6_tell_0 : decode cX6_tell 0 = .ok (.aload_n 0, 1) := by decide +kernel
theorem dX6_tell_1 : decode cX6_tell 1 = .ok (.iload_n 1, 1) := by decide +kernel
theorem dX6_tell_2 : decode cX6_tell 2 = .ok (.invokevirtual 115, 3) := by decide +kernel
theorem dX6_tell_5 : decode cX6_tell 5 = .ok (.istore 5, 2) := by decide +kernel
theorem dX6_tell_7 : decode cX6_tell 7 = .ok (.aload_n 0, 1) := by decide +kernel
theorem dX6_tell_8 : decode cX6_tell 8 = .ok (.iload_n 2, 1) := by decide +kernel
theorem dX6_tell_9 : decode cX6_tell 9 = .ok (.invokevirtual 115, 3) := by decide +kernel
theorem dX6_tell_12 : decode cX6_tell 12 = .ok (.istore 6, 2) := by decide +kernel
theorem dX6_tell_14 : decode cX6_tell 14 = .ok (.iload 5, 2) := by decide +kernel
theorem dX6_tell_16 : decode cX6_tell 16 = .ok (.iload 6, 2) := by decide +kernel
theorem dX6_tell_18 : decode cX6_tell 18 = .ok (.if_icmp .lt 21, 3) := by decide +kernel
theorem dX6_tell_21 : decode cX6_tell 21 = .ok (.iload_n 3, 1) := by decide +kernel
theorem dX6_tell_22 : decode cX6_tell 22 = .ok (.ifCond .ne 7, 3) := by decide +kernel
theorem dX6_tell_25 : decode cX6_tell 25 = .ok (.iconst 0, 1) := by decide +kernel
theorem dX6_tell_26 : decode cX6_tell 26 = .ok (.goto 12, 3) := by decide +kernel
theorem dX6_tell_29 : decode cX6_tell 29 = .ok (.aload_n 0, 1) := by decide +kernel
theorem dX6_tell_30 : decode cX6_tell 30 = .ok (.iload_n 1, 1) := by decide +kernel
theorem dX6_tell_31 : decode cX6_tell 31 = .ok (.iload 5, 2) := by decide +kernel
theorem dX6_tell_33 : decode cX6_tell 33 = .ok (.iload 4, 2) := by decide +kernel
theorem dX6_tell_35 : decode cX6_tell 35 = .ok (.invokevirtual 118, 3) := by decide +kernel
theorem dX6_tell_38 : decode cX6_tell 38 = .ok (.ireturn, 1) := by decide +kernel
theorem dX6_tell_39 : decode cX6_tell 39 = .ok (.iload_n 3, 1) := by decide +kernel
theorem dX6_tell_40 : decode cX6_tell 40 = .ok (.tableswitch 123 0 6 #[44, 54, 64, 73, 82, 90, 101], 44) := by decide +kernel
theorem dX6_tell_84 : decode cX6_tell 84 = .ok (.aload_n 0, 1) := by decide +kernel
theorem dX6_tell_85 : decode cX6_tell 85 = .ok (.iload 5, 2) := by decide +kernel
theorem dX6_tell_87 : decode cX6_tell 87 = .ok (.iload 6, 2) := by decide +kernel
theorem dX6_tell_89 : decode cX6_tell 89 = .ok (.iconst 1, 1) := by decide +kernel
theorem dX6_tell_90 : decode cX6_tell 90 = .ok (.invokevirtual 122, 3) := by decide +kernel
theorem dX6_tell_93 : decode cX6_tell 93 = .ok (.ireturn, 1) := by decide +kernel
theorem dX6_tell_94 : decode cX6_tell 94 = .ok (.aload_n 0, 1) := by decide +kernel
theorem dX6_tell_95 : decode cX6_tell 95 = .ok (.iload 5, 2) := by decide +kernel
theorem dX6_tell_97 : decode cX6_tell 97 = .ok (.iload 6, 2) := by decide +kernel
theorem dX6_tell_99 : decode cX6_tell 99 = .ok (.iconst 2, 1) := by decide +kernel
theorem dX6_tell_100 : decode cX6_tell 100 = .ok (.invokevirtual 122, 3) := by decide +kernel
theorem dX6_tell_103 : decode cX6_tell 103 = .ok (.ireturn, 1) := by decide +kernel
theorem dX6_tell_104 : decode cX6_tell 104 = .ok (.aload_n 0, 1) := by decide +kernel
theorem dX6_tell_105 : decode cX6_tell 105 = .ok (.iload 5, 2) := by decide +kernel
theorem dX6_tell_107 : decode cX6_tell 107 = .ok (.iload 6, 2) := by decide +kernel
theorem dX6_tell_109 : decode cX6_tell 109 = .ok (.invokevirtual 125, 3) := by decide +kernel
theorem dX6_tell_112 : decode cX6_tell 112 = .ok (.ireturn, 1) := by decide +kernel
theorem dX6_tell_113 : decode cX6_tell 113 = .ok (.aload_n 0, 1) := by decide +kernel
theorem dX6_tell_114 : decode cX6_tell 114 = .ok (.iload 5, 2) := by decide +kernel
theorem dX6_tell_116 : decode cX6_tell 116 = .ok (.iload 6, 2) := by decide +kernel
theorem dX6_tell_118 : decode cX6_tell 118 = .ok (.invokevirtual 128, 3) := by decide +kernel
theorem dX6_tell_121 : decode cX6_tell 121 = .ok (.ireturn, 1) := by decide +kernel
theorem dX6_tell_122 : decode cX6_tell 122 = .ok (.aload_n 0, 1) := by decide +kernel
theorem dX6_tell_123 : decode cX6_tell 123 = .ok (.iload 5, 2) := by decide +kernel
theorem dX6_tell_125 : decode cX6_tell 125 = .ok (.iconst 5, 1) := by decide +kernel
theorem dX6_tell_126 : decode cX6_tell 126 = .ok (.invokevirtual 112, 3) := by decide +kernel
theorem dX6_tell_129 : decode cX6_tell 129 = .ok (.ireturn, 1) := by decide +kernel
theorem dX6_tell_130 : decode cX6_tell 130 = .ok (.aload_n 0, 1) := by decide +kernel
theorem dX6_tell_131 : decode cX6_tell 131 = .ok (.iload 6, 2) := by decide +kernel
theorem dX6_tell_133 : decode cX6_tell 133 = .ok (.iconst 1, 1) := by decide +kernel
theorem dX6_tell_134 : decode cX6_tell 134 = .ok (.isub, 1) := by decide +kernel
theorem dX6_tell_135 : decode cX6_tell 135 = .ok (.bipush 6, 2) := by decide +kernel
theorem dX6_tell_137 : decode cX6_tell 137 = .ok (.invokevirtual 112, 3) := by decide +kernel
theorem dX6_tell_140 : decode cX6_tell 140 = .ok (.ireturn, 1) := by decide +kernel
theorem dX6_tell_141 : decode cX6_tell 141 = .ok (.aload_n 0, 1) := by decide +kernel
theorem dX6_tell_142 : decode cX6_tell 142 = .ok (.iload 5, 2) := by decide +kernel
theorem dX6_tell_144 : decode cX6_tell 144 = .ok (.iload 6, 2) := by decide +kernel
theorem dX6_tell_146 : decode cX6_tell 146 = .ok (.iconst 2, 1) := by decide +kernel
theorem dX6_tell_147 : decode cX6_tell 147 = .ok (.invokevirtual 122, 3) := by decide +kernel
theorem dX6_tell_150 : decode cX6_tell 150 = .ok (.aload_n 0, 1) := by decide +kernel
theorem dX6_tell_151 : decode cX6_tell 151 = .ok (.iload 5, 2) := by decide +kernel
theorem dX6_tell_153 : decode cX6_tell 153 = .ok (.iload 6, 2) := by decide +kernel
theorem dX6_tell_155 : decode cX6_tell 155 = .ok (.iconst 1, 1) := by decide +kernel
theorem dX6_tell_156 : decode cX6_tell 156 = .ok (.invokevirtual 122, 3) := by decide +kernel
theorem dX6_tell_159 : decode cX6_tell 159 = .ok (.invokestatic 131, 3) := by decide +kernel
theorem dX6_tell_162 : decode cX6_tell 162 = .ok (.ireturn, 1) := by decide +kernel
theorem dX6_tell_163 : decode cX6_tell 163 = .ok (.aload_n 0, 1) := by decide +kernel
theorem dX6_tell_164 : decode cX6_tell 164 = .ok (.iload 5, 2) := by decide +kernel
theorem dX6_tell_166 : decode cX6_tell 166 = .ok (.iload 6, 2) := by decide +kernel
theorem dX6_tell_168 : decode cX6_tell 168 = .ok (.invokevirtual 128, 3) := by decide +kernel
theorem dX6_tell_171 : decode cX6_tell 171 = .ok (.aload_n 0, 1) := by decide +kernel
theorem dX6_tell_172 : decode cX6_tell 172 = .ok (.iload 5, 2) := by decide +kernel
theorem dX6_tell_174 : decode cX6_tell 174 = .ok (.iload 6, 2) := by decide +kernel
theorem dX6_tell_176 : decode cX6_tell 176 = .ok (.invokevirtual 125, 3) := by decide +kernel
theorem dX6_tell_179 : decode cX6_tell 179 = .ok (.isub, 1) := by decide +kernel
theorem dX6_tell_180 : decode cX6_tell 180 = .ok (.ireturn, 1) := by decide +kernel
set_option maxRecDepth 20000 in
theorem ggX6_toldOfGap_X6_ofItem : GoodIn wsX6_toldOfGap wsX6_ofItem := goodIn_r _ [6, 7, 8, 9, 10, 11, 12, 13, 14, 15, 16, 17, 18, 19, 20, 21, 22, 23, 24, 35, 36, 37, 38, 39, 40, 41, 42, 43, 44, 45, 46, 47, 48] (by decide +kernel) (by decide +kernel)
set_option maxRecDepth 20000 in
theorem gX6_toldOfGap_X6_ofItem : GoodIn wsX6_toldOfGap (wsV RX6 112 RX6 yX6_ofItem wsX6_ofItem) := goodIn_app (goodIn_of _ (by decide +kernel)) ggX6_toldOfGap_X6_ofItem
set_option maxRecDepth 20000 in
theorem ggX6_toldOfGap_X6_itemCount : GoodIn wsX6_toldOfGap wsX6_itemCount := goodIn_r _ [28, 7, 8, 9, 10, 11, 29, 30, 35, 36, 37, 38, 39, 40, 41, 42, 43, 44, 45, 46, 47, 48] (by decide +kernel) (by decide +kernel)
set_option maxRecDepth 20000 in
theorem gX6_toldOfGap_X6_itemCount : GoodIn wsX6_toldOfGap (wsV RX6 109 RX6 yX6_itemCount wsX6_itemCount) := goodIn_app (goodIn_of _ (by decide +kernel)) ggX6_toldOfGap_X6_itemCount
set_option maxRecDepth 20000 in
theorem ggX6_toldOfGap_X6_onLine : GoodIn wsX6_toldOfGap wsX6_onLine := goodIn_r _ [34, 1, 2, 3, 4, 5, 6, 7, 8, 9, 10, 11, 12, 13, 14, 15, 16, 17, 18, 19, 20, 21, 22, 23, 24, 35, 36, 37, 38, 39, 40, 41, 42, 43, 44, 45, 46, 47, 48] (by decide +kernel) (by decide +kernel)
set_option maxRecDepth 20000 in
theorem gX6_toldOfGap_X6_onLine : GoodIn wsX6_toldOfGap (wsV RX6 135 RX6 yX6_onLine wsX6_onLine) := goodIn_app (goodIn_of _ (by decide +kernel)) ggX6_toldOfGap_X6_onLine
theorem dX6_toldOfGap_0 : decode cX6_toldOfGap 0 = .ok (.iload_n 2, 1) := by decide +kernel
theorem dX6_toldOfGap_1 : decode cX6_toldOfGap 1 = .ok (.iconst 1, 1) := by decide +kernel
theorem dX6_toldOfGap_2 : decode cX6_toldOfGap 2 = .ok (.isub, 1) := by decide +kernel
theorem dX6_toldOfGap_3 : decode cX6_toldOfGap 3 = .ok (.istore 4, 2) := by decide +kernel
theorem dX6_toldOfGap_5 : decode cX6_toldOfGap 5 = .ok (.iload_n 3, 1) := by decide +kernel
theorem dX6_toldOfGap_6 : decode cX6_toldOfGap 6 = .ok (.tableswitch 74 1 3 #[26, 28, 47], 26) := by decide +kernel
theorem dX6_toldOfGap_32 : decode cX6_toldOfGap 32 = .ok (.iconst 0, 1) := by decide +kernel
theorem dX6_toldOfGap_33 : decode cX6_toldOfGap 33 = .ok (.ireturn, 1) := by decide +kernel
theorem dX6_toldOfGap_34 : decode cX6_toldOfGap 34 = .ok (.iload 4, 2) := by decide +kernel
theorem dX6_toldOfGap_36 : decode cX6_toldOfGap 36 = .ok (.ifCond .lt 14, 3) := by decide +kernel
theorem dX6_toldOfGap_39 : decode cX6_toldOfGap 39 = .ok (.aload_n 0, 1) := by decide +kernel
theorem dX6_toldOfGap_40 : decode cX6_toldOfGap 40 = .ok (.iload 4, 2) := by decide +kernel
theorem dX6_toldOfGap_42 : decode cX6_toldOfGap 42 = .ok (.bipush 6, 2) := by decide +kernel
theorem dX6_toldOfGap_44 : decode cX6_toldOfGap 44 = .ok (.invokevirtual 112, 3) := by decide +kernel
theorem dX6_toldOfGap_47 : decode cX6_toldOfGap 47 = .ok (.goto 5, 3) := by decide +kernel
theorem dX6_toldOfGap_50 : decode cX6_toldOfGap 50 = .ok (.ldc 134, 2) := by decide +kernel
theorem dX6_toldOfGap_52 : decode cX6_toldOfGap 52 = .ok (.ireturn, 1) := by decide +kernel
theorem dX6_toldOfGap_53 : decode cX6_toldOfGap 53 = .ok (.iload 4, 2) := by decide +kernel
theorem dX6_toldOfGap_55 : decode cX6_toldOfGap 55 = .ok (.ifCond .lt 22, 3) := by decide +kernel
theorem dX6_toldOfGap_58 : decode cX6_toldOfGap 58 = .ok (.iload_n 2, 1) := by decide +kernel
theorem dX6_toldOfGap_59 : decode cX6_toldOfGap 59 = .ok (.aload_n 0, 1) := by decide +kernel
theorem dX6_toldOfGap_60 : decode cX6_toldOfGap 60 = .ok (.invokevirtual 109, 3) := by decide +kernel
theorem dX6_toldOfGap_63 : decode cX6_toldOfGap 63 = .ok (.if_icmp .ge 14, 3) := by decide +kernel
theorem dX6_toldOfGap_66 : decode cX6_toldOfGap 66 = .ok (.aload_n 0, 1) := by decide +kernel
theorem dX6_toldOfGap_67 : decode cX6_toldOfGap 67 = .ok (.iload 4, 2) := by decide +kernel
theorem dX6_toldOfGap_69 : decode cX6_toldOfGap 69 = .ok (.iload_n 2, 1) := by decide +kernel
theorem dX6_toldOfGap_70 : decode cX6_toldOfGap 70 = .ok (.iload_n 1, 1) := by decide +kernel
theorem dX6_toldOfGap_71 : decode cX6_toldOfGap 71 = .ok (.invokevirtual 135, 3) := by decide +kernel
theorem dX6_toldOfGap_74 : decode cX6_toldOfGap 74 = .ok (.goto 5, 3) := by decide +kernel
theorem dX6_toldOfGap_77 : decode cX6_toldOfGap 77 = .ok (.ldc 134, 2) := by decide +kernel
theorem dX6_toldOfGap_79 : decode cX6_toldOfGap 79 = .ok (.ireturn, 1) := by decide +kernel
theorem dX6_toldOfGap_80 : decode cX6_toldOfGap 80 = .ok (.ldc 134, 2) := by decide +kernel
theorem dX6_toldOfGap_82 : decode cX6_toldOfGap 82 = .ok (.ireturn, 1) := by decide +kernel
set_option maxRecDepth 20000 in
theorem ggX6_onLine_X6_ofItem : GoodIn wsX6_onLine wsX6_ofItem := goodIn_r _ [6, 7, 8, 9, 10, 11, 12, 13, 14, 15, 16, 17, 18, 19, 20, 21, 22, 23, 24, 25, 26, 27, 28, 29, 30, 31, 32, 33, 34, 35, 36, 37, 38] (by decide +kernel) (by decide +kernel)
set_option maxRecDepth 20000 in
theorem gX6_onLine_X6_ofItem : GoodIn wsX6_onLine (wsV RX6 112 RX6 yX6_ofItem wsX6_ofItem) := goodIn_app (goodIn_of _ (by decide +kernel)) ggX6_onLine_X6_ofItem
theorem dX6_onLine_0 : decode cX6_onLine 0 = .ok (.aload_n 0, 1) := by decide +kernel
theorem dX6_onLine_1 : decode cX6_onLine 1 = .ok (.iload_n 1, 1) := by decide +kernel
theorem dX6_onLine_2 : decode cX6_onLine 2 = .ok (.bipush 6, 2) := by decide +kernel
theorem dX6_onLine_4 : decode cX6_onLine 4 = .ok (.invokevirtual 112, 3) := by decide +kernel
theorem dX6_onLine_7 : decode cX6_onLine 7 = .ok (.istore 4, 2) := by decide +kernel
theorem dX6_onLine_9 : decode cX6_onLine 9 = .ok (.aload_n 0, 1) := by decide +kernel
theorem dX6_onLine_10 : decode cX6_onLine 10 = .ok (.iload_n 2, 1) := by decide +kernel
theorem dX6_onLine_11 : decode cX6_onLine 11 = .ok (.iconst 5, 1) := by decide +kernel
theorem dX6_onLine_12 : decode cX6_onLine 12 = .ok (.invokevirtual 112, 3) := by decide +kernel
theorem dX6_onLine_15 : decode cX6_onLine 15 = .ok (.iload 4, 2) := by decide +kernel
theorem dX6_onLine_17 : decode cX6_onLine 17 = .ok (.isub, 1) := by decide +kernel
theorem dX6_onLine_18 : decode cX6_onLine 18 = .ok (.i2l, 1) := by decide +kernel
theorem dX6_onLine_19 : decode cX6_onLine 19 = .ok (.lstore 5, 2) := by decide +kernel
theorem dX6_onLine_21 : decode cX6_onLine 21 = .ok (.aload_n 0, 1) := by decide +kernel
theorem dX6_onLine_22 : decode cX6_onLine 22 = .ok (.iload_n 1, 1) := by decide +kernel
theorem dX6_onLine_23 : decode cX6_onLine 23 = .ok (.iconst 0, 1) := by decide +kernel
theorem dX6_onLine_24 : decode cX6_onLine 24 = .ok (.invokevirtual 112, 3) := by decide +kernel
theorem dX6_onLine_27 : decode cX6_onLine 27 = .ok (.istore 7, 2) := by decide +kernel
theorem dX6_onLine_29 : decode cX6_onLine 29 = .ok (.aload_n 0, 1) := by decide +kernel
theorem dX6_onLine_30 : decode cX6_onLine 30 = .ok (.iload_n 2, 1) := by decide +kernel
theorem dX6_onLine_31 : decode cX6_onLine 31 = .ok (.iconst 0, 1) := by decide +kernel
theorem dX6_onLine_32 : decode cX6_onLine 32 = .ok (.invokevirtual 112, 3) := by decide +kernel
theorem dX6_onLine_35 : decode cX6_onLine 35 = .ok (.iload 7, 2) := by decide +kernel
theorem dX6_onLine_37 : decode cX6_onLine 37 = .ok (.isub, 1) := by decide +kernel
theorem dX6_onLine_38 : decode cX6_onLine 38 = .ok (.istore 8, 2) := by decide +kernel
theorem dX6_onLine_40 : decode cX6_onLine 40 = .ok (.iload 8, 2) := by decide +kernel
theorem dX6_onLine_42 : decode cX6_onLine 42 = .ok (.ifCond .le 23, 3) := by decide +kernel
theorem dX6_onLine_45 : decode cX6_onLine 45 = .ok (.iload 4, 2) := by decide +kernel
theorem dX6_onLine_47 : decode cX6_onLine 47 = .ok (.i2l, 1) := by decide +kernel
theorem dX6_onLine_48 : decode cX6_onLine 48 = .ok (.lload 5, 2) := by decide +kernel
theorem dX6_onLine_50 : decode cX6_onLine 50 = .ok (.iload_n 3, 1) := by decide +kernel
theorem dX6_onLine_51 : decode cX6_onLine 51 = .ok (.iload 7, 2) := by decide +kernel
theorem dX6_onLine_53 : decode cX6_onLine 53 = .ok (.isub, 1) := by decide +kernel
theorem dX6_onLine_54 : decode cX6_onLine 54 = .ok (.i2l, 1) := by decide +kernel
theorem dX6_onLine_55 : decode cX6_onLine 55 = .ok (.lmul, 1) := by decide +kernel
theorem dX6_onLine_56 : decode cX6_onLine 56 = .ok (.iload 8, 2) := by decide +kernel
theorem dX6_onLine_58 : decode cX6_onLine 58 = .ok (.i2l, 1) := by decide +kernel
theorem dX6_onLine_59 : decode cX6_onLine 59 = .ok (.ldiv, 1) := by decide +kernel
theorem dX6_onLine_60 : decode cX6_onLine 60 = .ok (.ladd, 1) := by decide +kernel
theorem dX6_onLine_61 : decode cX6_onLine 61 = .ok (.l2i, 1) := by decide +kernel
theorem dX6_onLine_62 : decode cX6_onLine 62 = .ok (.goto 5, 3) := by decide +kernel
theorem dX6_onLine_65 : decode cX6_onLine 65 = .ok (.ldc 134, 2) := by decide +kernel
theorem dX6_onLine_67 : decode cX6_onLine 67 = .ok (.ireturn, 1) := by decide +kernel
set_option maxRecDepth 20000 in
theorem ggX6_total_X6_ofItem : GoodIn wsX6_total wsX6_ofItem := goodIn_r _ [5, 6, 7, 8, 9, 10, 11, 12, 13, 14, 15, 16, 17, 18, 19, 20, 21, 22, 23, 24, 25, 26, 27, 28, 29, 30, 31, 32, 33, 34, 35, 36, 37] (by decide +kernel) (by decide +kernel)
set_option maxRecDepth 20000 in
theorem gX6_total_X6_ofItem : GoodIn wsX6_total (wsV RX6 112 RX6 yX6_ofItem wsX6_ofItem) := goodIn_app (goodIn_of _ (by decide +kernel)) ggX6_total_X6_ofItem
theorem dX6_total_0 : decode cX6_total 0 = .ok (.iconst 0, 1) := by decide +kernel
theorem dX6_total_1 : decode cX6_total 1 = .ok (.istore 4, 2) := by decide +kernel
theorem dX6_total_3 : decode cX6_total 3 = .ok (.iload_n 1, 1) := by decide +kernel
theorem dX6_total_4 : decode cX6_total 4 = .ok (.istore 5, 2) := by decide +kernel
theorem dX6_total_6 : decode cX6_total 6 = .ok (.iload 5, 2) := by decide +kernel
theorem dX6_total_8 : decode cX6_total 8 = .ok (.iload_n 2, 1) := by decide +kernel
theorem dX6_total_9 : decode cX6_total 9 = .ok (.if_icmp .ge 21, 3) := by decide +kernel
theorem dX6_total_12 : decode cX6_total 12 = .ok (.iload 4, 2) := by decide +kernel
theorem dX6_total_14 : decode cX6_total 14 = .ok (.aload_n 0, 1) := by decide +kernel
theorem dX6_total_15 : decode cX6_total 15 = .ok (.iload 5, 2) := by decide +kernel
theorem dX6_total_17 : decode cX6_total 17 = .ok (.iload_n 3, 1) := by decide +kernel
theorem dX6_total_18 : decode cX6_total 18 = .ok (.invokevirtual 112, 3) := by decide +kernel
theorem dX6_total_21 : decode cX6_total 21 = .ok (.iadd, 1) := by decide +kernel
theorem dX6_total_22 : decode cX6_total 22 = .ok (.istore 4, 2) := by decide +kernel
theorem dX6_total_24 : decode cX6_total 24 = .ok (.iinc 5 1, 3) := by decide +kernel
theorem dX6_total_27 : decode cX6_total 27 = .ok (.goto (-21), 3) := by decide +kernel
theorem dX6_total_30 : decode cX6_total 30 = .ok (.iload 4, 2) := by decide +kernel
theorem dX6_total_32 : decode cX6_total 32 = .ok (.ireturn, 1) := by decide +kernel
theorem dX6_quotient_0 : decode cX6_quotient 0 = .ok (.iload_n 1, 1) := by decide +kernel
theorem dX6_quotient_1 : decode cX6_quotient 1 = .ok (.ifCond .le 9, 3) := by decide +kernel
theorem dX6_quotient_4 : decode cX6_quotient 4 = .ok (.iload_n 0, 1) := by decide +kernel
theorem dX6_quotient_5 : decode cX6_quotient 5 = .ok (.iload_n 1, 1) := by decide +kernel
theorem dX6_quotient_6 : decode cX6_quotient 6 = .ok (.idiv, 1) := by decide +kernel
theorem dX6_quotient_7 : decode cX6_quotient 7 = .ok (.goto 5, 3) := by decide +kernel
theorem dX6_quotient_10 : decode cX6_quotient 10 = .ok (.ldc 134, 2) := by decide +kernel
theorem dX6_quotient_12 : decode cX6_quotient 12 = .ok (.ireturn, 1) := by decide +kernel
set_option maxRecDepth 20000 in
theorem ggX6_least_X6_ofItem : GoodIn wsX6_least wsX6_ofItem := goodIn_r _ [9, 10, 11, 12, 13, 14, 15, 16, 17, 18, 19, 20, 21, 22, 23, 24, 25, 26, 27, 28, 29, 30, 31, 32, 33, 34, 35, 36, 37, 38, 39, 40, 41] (by decide +kernel) (by decide +kernel)
set_option maxRecDepth 20000 in
theorem gX6_least_X6_ofItem : GoodIn wsX6_least (wsV RX6 112 RX6 yX6_ofItem wsX6_ofItem) := goodIn_app (goodIn_of _ (by decide +kernel)) ggX6_least_X6_ofItem
theorem dX6_least_0 : decode cX6_least 0 = .ok (.aload_n 0, 1) := by decide +kernel
theorem dX6_least_1 : decode cX6_least 1 = .ok (.iload_n 1, 1) := by decide +kernel
theorem dX6_least_2 : decode cX6_least 2 = .ok (.iconst 3, 1) := by decide +kernel
theorem dX6_least_3 : decode cX6_least 3 = .ok (.invokevirtual 112, 3) := by decide +kernel
theorem dX6_least_6 : decode cX6_least 6 = .ok (.istore_n 3, 1) := by decide +kernel
theorem dX6_least_7 : decode cX6_least 7 = .ok (.iload_n 1, 1) := by decide +kernel
theorem dX6_least_8 : decode cX6_least 8 = .ok (.iconst 1, 1) := by decide +kernel
theorem dX6_least_9 : decode cX6_least 9 = .ok (.iadd, 1) := by decide +kernel
theorem dX6_least_10 : decode cX6_least 10 = .ok (.istore 4, 2) := by decide +kernel
theorem dX6_least_12 : decode cX6_least 12 = .ok (.iload 4, 2) := by decide +kernel
theorem dX6_least_14 : decode cX6_least 14 = .ok (.iload_n 2, 1) := by decide +kernel
theorem dX6_least_15 : decode cX6_least 15 = .ok (.if_icmp .ge 21, 3) := by decide +kernel
theorem dX6_least_18 : decode cX6_least 18 = .ok (.iload_n 3, 1) := by decide +kernel
theorem dX6_least_19 : decode cX6_least 19 = .ok (.aload_n 0, 1) := by decide +kernel
theorem dX6_least_20 : decode cX6_least 20 = .ok (.iload 4, 2) := by decide +kernel
theorem dX6_least_22 : decode cX6_least 22 = .ok (.iconst 3, 1) := by decide +kernel
theorem dX6_least_23 : decode cX6_least 23 = .ok (.invokevirtual 112, 3) := by decide +kernel
theorem dX6_least_26 : decode cX6_least 26 = .ok (.invokestatic 138, 3) := by decide +kernel
theorem dX6_least_29 : decode cX6_least 29 = .ok (.istore_n 3, 1) := by decide +kernel
theorem dX6_least_30 : decode cX6_least 30 = .ok (.iinc 4 1, 3) := by decide +kernel
theorem dX6_least_33 : decode cX6_least 33 = .ok (.goto (-21), 3) := by decide +kernel
theorem dX6_least_36 : decode cX6_least 36 = .ok (.iload_n 3, 1) := by decide +kernel
theorem dX6_least_37 : decode cX6_least 37 = .ok (.ireturn, 1) := by decide +kernel
set_option maxRecDepth 20000 in
theorem ggX6_greatest_X6_ofItem : GoodIn wsX6_greatest wsX6_ofItem := goodIn_r _ [9, 10, 11, 12, 13, 14, 15, 16, 17, 18, 19, 20, 21, 22, 23, 24, 25, 26, 27, 28, 29, 30, 31, 32, 33, 34, 35, 36, 37, 38, 39, 40, 41] (by decide +kernel) (by decide +kernel)
set_option maxRecDepth 20000 in
theorem gX6_greatest_X6_ofItem : GoodIn wsX6_greatest (wsV RX6 112 RX6 yX6_ofItem wsX6_ofItem) := goodIn_app (goodIn_of _ (by decide +kernel)) ggX6_greatest_X6_ofItem
theorem dX6_greatest_0 : decode cX6_greatest 0 = .ok (.aload_n 0, 1) := by decide +kernel
theorem dX6_greatest_1 : decode cX6_greatest 1 = .ok (.iload_n 1, 1) := by decide +kernel
theorem dX6_greatest_2 : decode cX6_greatest 2 = .ok (.iconst 4, 1) := by decide +kernel
theorem dX6_greatest_3 : decode cX6_greatest 3 = .ok (.invokevirtual 112, 3) := by decide +kernel
theorem dX6_greatest_6 : decode cX6_greatest 6 = .ok (.istore_n 3, 1) := by decide +kernel
theorem dX6_greatest_7 : decode cX6_greatest 7 = .ok (.iload_n 1, 1) := by decide +kernel
theorem dX6_greatest_8 : decode cX6_greatest 8 = .ok (.iconst 1, 1) := by decide +kernel
theorem dX6_greatest_9 : decode cX6_greatest 9 = .ok (.iadd, 1) := by decide +kernel
theorem dX6_greatest_10 : decode cX6_greatest 10 = .ok (.istore 4, 2) := by decide +kernel
theorem dX6_greatest_12 : decode cX6_greatest 12 = .ok (.iload 4, 2) := by decide +kernel
theorem dX6_greatest_14 : decode cX6_greatest 14 = .ok (.iload_n 2, 1) := by decide +kernel
theorem dX6_greatest_15 : decode cX6_greatest 15 = .ok (.if_icmp .ge 21, 3) := by decide +kernel
theorem dX6_greatest_18 : decode cX6_greatest 18 = .ok (.iload_n 3, 1) := by decide +kernel
theorem dX6_greatest_19 : decode cX6_greatest 19 = .ok (.aload_n 0, 1) := by decide +kernel
theorem dX6_greatest_20 : decode cX6_greatest 20 = .ok (.iload 4, 2) := by decide +kernel
theorem dX6_greatest_22 : decode cX6_greatest 22 = .ok (.iconst 4, 1) := by decide +kernel
theorem dX6_greatest_23 : decode cX6_greatest 23 = .ok (.invokevirtual 112, 3) := by decide +kernel
theorem dX6_greatest_26 : decode cX6_greatest 26 = .ok (.invokestatic 143, 3) := by decide +kernel
theorem dX6_greatest_29 : decode cX6_greatest 29 = .ok (.istore_n 3, 1) := by decide +kernel
theorem dX6_greatest_30 : decode cX6_greatest 30 = .ok (.iinc 4 1, 3) := by decide +kernel
theorem dX6_greatest_33 : decode cX6_greatest 33 = .ok (.goto (-21), 3) := by decide +kernel
theorem dX6_greatest_36 : decode cX6_greatest 36 = .ok (.iload_n 3, 1) := by decide +kernel
theorem dX6_greatest_37 : decode cX6_greatest 37 = .ok (.ireturn, 1) := by decide +kernel
set_option maxRecDepth 20000 in
theorem ggX6_copyFrom_X4_copyFrom : GoodIn wsX6_copyFrom wsX4_copyFrom := goodIn_r _ [8, 9, 10, 11, 12, 13, 14, 15, 16, 17, 7, 18, 19, 20, 21, 22, 23, 24, 25, 26, 27, 28, 29, 30, 31, 32, 54, 55, 56, 57, 58, 59, 60, 61, 62] (by decide +kernel) (by decide +kernel)
set_option maxRecDepth 20000 in
theorem gX6_copyFrom_X4_copyFrom : GoodIn wsX6_copyFrom (wsV RX6 146 RX4 yX4_copyFrom wsX4_copyFrom) := goodIn_app (goodIn_of _ (by decide +kernel)) ggX6_copyFrom_X4_copyFrom
set_option maxRecDepth 20000 in
theorem ggX6_copyFrom_X0_copyFrom : GoodIn wsX6_copyFrom wsX0_copyFrom := goodIn_r _ [37, 38, 39, 40, 41, 42, 36, 43, 44, 45, 46, 47, 48, 54, 55, 56, 57, 58, 59, 60, 61, 62] (by decide +kernel) (by decide +kernel)
set_option maxRecDepth 20000 in
theorem gX6_copyFrom_X0_copyFrom : GoodIn wsX6_copyFrom (wsV RX6 150 RX0 yX0_copyFrom wsX0_copyFrom) := goodIn_app (goodIn_of _ (by decide +kernel)) ggX6_copyFrom_X0_copyFrom
theorem dX6_copyFrom_0 : decode cX6_copyFrom 0 = .ok (.aload_n 0, 1) := by decide +kernel
theorem dX6_copyFrom_1 : decode cX6_copyFrom 1 = .ok (.getfield 12, 3) := by decide +kernel
theorem dX6_copyFrom_4 : decode cX6_copyFrom 4 = .ok (.aload_n 1, 1) := by decide +kernel
theorem dX6_copyFrom_5 : decode cX6_copyFrom 5 = .ok (.getfield 12, 3) := by decide +kernel
theorem dX6_copyFrom_8 : decode cX6_copyFrom 8 = .ok (.invokevirtual 146, 3) := by decide +kernel
theorem dX6_copyFrom_11 : decode cX6_copyFrom 11 = .ok (.aload_n 0, 1) := by decide +kernel
theorem dX6_copyFrom_12 : decode cX6_copyFrom 12 = .ok (.getfield 21, 3) := by decide +kernel
theorem dX6_copyFrom_15 : decode cX6_copyFrom 15 = .ok (.aload_n 1, 1) := by decide +kernel
theorem dX6_copyFrom_16 : decode cX6_copyFrom 16 = .ok (.getfield 21, 3) := by decide +kernel
theorem dX6_copyFrom_19 : decode cX6_copyFrom 19 = .ok (.invokevirtual 150, 3) := by decide +kernel
theorem dX6_copyFrom_22 : decode cX6_copyFrom 22 = .ok (.aload_n 0, 1) := by decide +kernel
theorem dX6_copyFrom_23 : decode cX6_copyFrom 23 = .ok (.getfield 25, 3) := by decide +kernel
theorem dX6_copyFrom_26 : decode cX6_copyFrom 26 = .ok (.aload_n 1, 1) := by decide +kernel
theorem dX6_copyFrom_27 : decode cX6_copyFrom 27 = .ok (.getfield 25, 3) := by decide +kernel
theorem dX6_copyFrom_30 : decode cX6_copyFrom 30 = .ok (.invokevirtual 150, 3) := by decide +kernel
theorem dX6_copyFrom_33 : decode cX6_copyFrom 33 = .ok (.return_, 1) := by decide +kernel
theorem dX7_init_0 : decode cX7_init 0 = .ok (.aload_n 0, 1) := by decide +kernel
theorem dX7_init_1 : decode cX7_init 1 = .ok (.invokespecial 1, 3) := by decide +kernel
theorem dX7_init_4 : decode cX7_init 4 = .ok (.aload_n 0, 1) := by decide +kernel
theorem dX7_init_5 : decode cX7_init 5 = .ok (.bipush 8, 2) := by decide +kernel
theorem dX7_init_7 : decode cX7_init 7 = .ok (.putfield 7, 3) := by decide +kernel
theorem dX7_init_10 : decode cX7_init 10 = .ok (.aload_n 0, 1) := by decide +kernel
theorem dX7_init_11 : decode cX7_init 11 = .ok (.bipush 10, 2) := by decide +kernel
theorem dX7_init_13 : decode cX7_init 13 = .ok (.putfield 13, 3) := by decide +kernel
theorem dX7_init_16 : decode cX7_init 16 = .ok (.aload_n 0, 1) := by decide +kernel
theorem dX7_init_17 : decode cX7_init 17 = .ok (.bipush 6, 2) := by decide +kernel
theorem dX7_init_19 : decode cX7_init 19 = .ok (.putfield 16, 3) := by decide +kernel
theorem dX7_init_22 : decode cX7_init 22 = .ok (.aload_n 0, 1) := by decide +kernel
theorem dX7_init_23 : decode cX7_init 23 = .ok (.iconst 0, 1) := by decide +kernel
theorem dX7_init_24 : decode cX7_init 24 = .ok (.putfield 19, 3) := by decide +kernel
theorem dX7_init_27 : decode cX7_init 27 = .ok (.aload_n 0, 1) := by decide +kernel
theorem dX7_init_28 : decode cX7_init 28 = .ok (.iconst 0, 1) := by decide +kernel
theorem dX7_init_29 : decode cX7_init 29 = .ok (.putfield 22, 3) := by decide +kernel
theorem dX7_init_32 : decode cX7_init 32 = .ok (.return_, 1) := by decide +kernel
set_option maxRecDepth 20000 in
theorem ggX8_init_Jx4a65c_init_da8c8 : GoodIn wsX8_init wsJx4a65c_init_da8c8 := goodIn_r _ [17, 18, 19, 20, 21, 22, 23, 24, 25, 26, 27, 28, 29, 2, 3, 37, 38, 39] (by decide +kernel) (by decide +kernel)
set_option maxRecDepth 20000 in
theorem gX8_init_Jx4a65c_init_da8c8 : GoodIn wsX8_init (wsJx4a65c_init_da8c8) := ggX8_init_Jx4a65c_init_da8c8
set_option maxRecDepth 20000 in
theorem ggX8_init_X1_init : GoodIn wsX8_init wsX1_init := goodIn_r _ [31, 32, 2, 3, 33, 34, 35, 36, 45, 46, 47] (by decide +kernel) (by decide +kernel)
set_option maxRecDepth 20000 in
theorem gX8_init_X1_init_n21 : GoodIn wsX8_init (wsX1_init) := ggX8_init_X1_init
theorem dX8_init_0 : decode cX8_init 0 = .ok (.aload_n 0, 1) := by decide +kernel
theorem dX8_init_1 : decode cX8_init 1 = .ok (.invokespecial 1, 3) := by decide +kernel
theorem dX8_init_4 : decode cX8_init 4 = .ok (.aload_n 0, 1) := by decide +kernel
theorem dX8_init_5 : decode cX8_init 5 = .ok (.new 7, 3) := by decide +kernel
theorem dX8_init_8 : decode cX8_init 8 = .ok (.dup, 1) := by decide +kernel
theorem dX8_init_9 : decode cX8_init 9 = .ok (.invokespecial 9, 3) := by decide +kernel
theorem dX8_init_12 : decode cX8_init 12 = .ok (.putfield 10, 3) := by decide +kernel
theorem dX8_init_15 : decode cX8_init 15 = .ok (.aload_n 0, 1) := by decide +kernel
theorem dX8_init_16 : decode cX8_init 16 = .ok (.new 7, 3) := by decide +kernel
theorem dX8_init_19 : decode cX8_init 19 = .ok (.dup, 1) := by decide +kernel
theorem dX8_init_20 : decode cX8_init 20 = .ok (.invokespecial 9, 3) := by decide +kernel
theorem dX8_init_23 : decode cX8_init 23 = .ok (.putfield 16, 3) := by decide +kernel
theorem dX8_init_26 : decode cX8_init 26 = .ok (.aload_n 0, 1) := by decide +kernel
theorem dX8_init_27 : decode cX8_init 27 = .ok (.new 19, 3) := by decide +kernel
theorem dX8_init_30 : decode cX8_init 30 = .ok (.dup, 1) := by decide +kernel
theorem dX8_init_31 : decode cX8_init 31 = .ok (.invokespecial 21, 3) := by decide +kernel
theorem dX8_init_34 : decode cX8_init 34 = .ok (.putfield 22, 3) := by decide +kernel
theorem dX8_init_37 : decode cX8_init 37 = .ok (.aload_n 0, 1) := by decide +kernel
theorem dX8_init_38 : decode cX8_init 38 = .ok (.iconst 0, 1) := by decide +kernel
theorem dX8_init_39 : decode cX8_init 39 = .ok (.putfield 26, 3) := by decide +kernel
theorem dX8_init_42 : decode cX8_init 42 = .ok (.aload_n 0, 1) := by decide +kernel
theorem dX8_init_43 : decode cX8_init 43 = .ok (.aload_n 1, 1) := by decide +kernel
theorem dX8_init_44 : decode cX8_init 44 = .ok (.putfield 30, 3) := by decide +kernel
theorem dX8_init_47 : decode cX8_init 47 = .ok (.return_, 1) := by decide +kernel
set_option maxRecDepth 20000 in
theorem ggX8_hasBucket_Jx4a65c_size_8abf5 : GoodIn wsX8_hasBucket wsJx4a65c_size_8abf5 := goodIn_r _ [11, 12, 49, 50, 51] (by decide +kernel) (by decide +kernel)
set_option maxRecDepth 20000 in
theorem gX8_hasBucket_Jx4a65c_size_8abf5 : GoodIn wsX8_hasBucket (wsV RX8 34 RJx4a65c yJx4a65c_size_8abf5 wsJx4a65c_size_8abf5) := goodIn_app (goodIn_of _ (by decide +kernel)) ggX8_hasBucket_Jx4a65c_size_8abf5
set_option maxRecDepth 20000 in
theorem ggX8_hasBucket_Jx4a65c_get_915e3 : GoodIn wsX8_hasBucket wsJx4a65c_get_915e3 := goodIn_r _ [16, 12, 17, 18, 19, 20, 21, 22, 23, 24, 25, 26, 27, 10, 28, 29, 49, 50, 51] (by decide +kernel) (by decide +kernel)
set_option maxRecDepth 20000 in
theorem gX8_hasBucket_Jx4a65c_get_915e3 : GoodIn wsX8_hasBucket (wsV RX8 38 RJx4a65c yJx4a65c_get_915e3 wsJx4a65c_get_915e3) := goodIn_app (goodIn_of _ (by decide +kernel)) ggX8_hasBucket_Jx4a65c_get_915e3
theorem dX8_hasBucket_0 : decode cX8_hasBucket 0 = .ok (.iconst 0, 1) := by decide +kernel
theorem dX8_hasBucket_1 : decode cX8_hasBucket 1 = .ok (.istore_n 1, 1) := by decide +kernel
theorem dX8_hasBucket_2 : decode cX8_hasBucket 2 = .ok (.iload_n 1, 1) := by decide +kernel
theorem dX8_hasBucket_3 : decode cX8_hasBucket 3 = .ok (.aload_n 0, 1) := by decide +kernel
theorem dX8_hasBucket_4 : decode cX8_hasBucket 4 = .ok (.getfield 10, 3) := by decide +kernel
theorem dX8_hasBucket_7 : decode cX8_hasBucket 7 = .ok (.invokevirtual 34, 3) := by decide +kernel
theorem dX8_hasBucket_10 : decode cX8_hasBucket 10 = .ok (.if_icmp .ge 49, 3) := by decide +kernel
theorem dX8_hasBucket_13 : decode cX8_hasBucket 13 = .ok (.aload_n 0, 1) := by decide +kernel
theorem dX8_hasBucket_14 : decode cX8_hasBucket 14 = .ok (.getfield 10, 3) := by decide +kernel
theorem dX8_hasBucket_17 : decode cX8_hasBucket 17 = .ok (.iload_n 1, 1) := by decide +kernel
theorem dX8_hasBucket_18 : decode cX8_hasBucket 18 = .ok (.invokevirtual 38, 3) := by decide +kernel
theorem dX8_hasBucket_21 : decode cX8_hasBucket 21 = .ok (.checkcast 42, 3) := by decide +kernel
theorem dX8_hasBucket_24 : decode cX8_hasBucket 24 = .ok (.getfield 44, 3) := by decide +kernel
theorem dX8_hasBucket_27 : decode cX8_hasBucket 27 = .ok (.getfield 48, 3) := by decide +kernel
theorem dX8_hasBucket_30 : decode cX8_hasBucket 30 = .ok (.aload_n 0, 1) := by decide +kernel
theorem dX8_hasBucket_31 : decode cX8_hasBucket 31 = .ok (.getfield 10, 3) := by decide +kernel
theorem dX8_hasBucket_34 : decode cX8_hasBucket 34 = .ok (.iload_n 1, 1) := by decide +kernel
theorem dX8_hasBucket_35 : decode cX8_hasBucket 35 = .ok (.invokevirtual 38, 3) := by decide +kernel
theorem dX8_hasBucket_38 : decode cX8_hasBucket 38 = .ok (.checkcast 42, 3) := by decide +kernel
theorem dX8_hasBucket_41 : decode cX8_hasBucket 41 = .ok (.getfield 53, 3) := by decide +kernel
theorem dX8_hasBucket_44 : decode cX8_hasBucket 44 = .ok (.getfield 48, 3) := by decide +kernel
theorem dX8_hasBucket_47 : decode cX8_hasBucket 47 = .ok (.iadd, 1) := by decide +kernel
theorem dX8_hasBucket_48 : decode cX8_hasBucket 48 = .ok (.ifCond .le 5, 3) := by decide +kernel
theorem dX8_hasBucket_51 : decode cX8_hasBucket 51 = .ok (.iconst 1, 1) := by decide +kernel
theorem dX8_hasBucket_52 : decode cX8_hasBucket 52 = .ok (.ireturn, 1) := by decide +kernel
theorem dX8_hasBucket_53 : decode cX8_hasBucket 53 = .ok (.iinc 1 1, 3) := by decide +kernel
theorem dX8_hasBucket_56 : decode cX8_hasBucket 56 = .ok (.goto (-54), 3) := by decide +kernel
theorem dX8_hasBucket_59 : decode cX8_hasBucket 59 = .ok (.iconst 0, 1) := by decide +kernel
theorem dX8_hasBucket_60 : decode cX8_hasBucket 60 = .ok (.ireturn, 1) := by decide +kernel
set_option maxRecDepth 20000 in
theorem ggX8_goOnByOne_Jx4a65c_size_8abf5 : GoodIn wsX8_goOnByOne wsJx4a65c_size_8abf5 := goodIn_r _ [13, 14, 234, 235, 236] (by decide +kernel) (by decide +kernel)
set_option maxRecDepth 20000 in
theorem gX8_goOnByOne_Jx4a65c_size_8abf5 : GoodIn wsX8_goOnByOne (wsV RX8 34 RJx4a65c yJx4a65c_size_8abf5 wsJx4a65c_size_8abf5) := goodIn_app (goodIn_of _ (by decide +kernel)) ggX8_goOnByOne_Jx4a65c_size_8abf5
set_option maxRecDepth 20000 in
theorem ggX8_goOnByOne_Jx4a65c_get_915e3 : GoodIn wsX8_goOnByOne wsJx4a65c_get_915e3 := goodIn_r _ [18, 14, 19, 20, 21, 22, 23, 24, 25, 26, 27, 28, 29, 12, 30, 31, 234, 235, 236] (by decide +kernel) (by decide +kernel)
set_option maxRecDepth 20000 in
theorem gX8_goOnByOne_Jx4a65c_get_915e3 : GoodIn wsX8_goOnByOne (wsV RX8 38 RJx4a65c yJx4a65c_get_915e3 wsJx4a65c_get_915e3) := goodIn_app (goodIn_of _ (by decide +kernel)) ggX8_goOnByOne_Jx4a65c_get_915e3
set_option maxRecDepth 20000 in
theorem ggX8_goOnByOne_X6_rollUpBy : GoodIn wsX8_goOnByOne wsX6_rollUpBy := goodIn_r _ [36, 37, 38, 39, 40, 41, 42, 43, 44, 45, 46, 47, 48, 49, 50, 51, 52, 53, 54, 55, 56, 57, 58, 59, 60, 61, 62, 63, 64, 65, 66, 67, 35, 68, 69, 70, 71, 72, 73, 74, 75, 76, 77, 78, 79, 80, 81, 82, 83, 84, 85, 86, 87, 88, 89, 90, 91, 92, 93, 94, 95, 96, 97, 98, 99, 100, 101, 102, 103, 104, 105, 106, 107, 108, 109, 110, 111, 112, 113, 114, 115, 116, 117, 118, 119, 120, 121, 122, 123, 124, 125, 126, 127, 128, 129, 130, 131, 132, 133, 237, 238, 239, 240, 241, 242, 243, 244, 245, 246, 247, 248, 249, 250, 251, 252, 253, 254, 255] (by decide +kernel) (by decide +kernel)
set_option maxRecDepth 20000 in
theorem gX8_goOnByOne_X6_rollUpBy : GoodIn wsX8_goOnByOne (wsV RX8 56 RX6 yX6_rollUpBy wsX6_rollUpBy) := goodIn_app (goodIn_of _ (by decide +kernel)) ggX8_goOnByOne_X6_rollUpBy
set_option maxRecDepth 20000 in
theorem ggX8_goOnByOne_X5_isDueAt : GoodIn wsX8_goOnByOne wsX5_isDueAt := goodIn_r _ [138, 139, 225, 226, 227, 228, 229, 230, 231, 232, 233] (by decide +kernel) (by decide +kernel)
set_option maxRecDepth 20000 in
theorem gX8_goOnByOne_X5_isDueAt : GoodIn wsX8_goOnByOne (wsV RX8 62 RX5 yX5_isDueAt wsX5_isDueAt) := goodIn_app (goodIn_of _ (by decide +kernel)) ggX8_goOnByOne_X5_isDueAt
set_option maxRecDepth 20000 in
theorem ggX8_goOnByOne_X5_told : GoodIn wsX8_goOnByOne wsX5_told := goodIn_r _ [143, 144, 145, 146, 147, 148, 149, 35, 150, 151, 152, 153, 154, 155, 156, 157, 158, 111, 133, 81, 69, 38, 159, 57, 160, 161, 162, 163, 112, 90, 91, 78, 92, 93, 71, 60, 61, 44, 62, 63, 64, 164, 165, 166, 167, 168, 169, 170, 171, 172, 173, 174, 175, 176, 177, 178, 179, 180, 181, 83, 84, 85, 182, 183, 184, 185, 186, 87, 88, 187, 188, 189, 225, 226, 227, 228, 229, 230, 231, 232, 233, 242, 243, 244, 245, 246, 254, 255, 247, 248, 249, 250, 251, 252, 253] (by decide +kernel) (by decide +kernel)
set_option maxRecDepth 20000 in
theorem gX8_goOnByOne_X5_told : GoodIn wsX8_goOnByOne (wsV RX8 66 RX5 yX5_told wsX5_told) := goodIn_app (goodIn_of _ (by decide +kernel)) ggX8_goOnByOne_X5_told
set_option maxRecDepth 20000 in
theorem ggX8_goOnByOne_X5_changesBy : GoodIn wsX8_goOnByOne wsX5_changesBy := goodIn_r _ [193, 194, 195, 196, 197, 198, 199, 200, 137, 201, 202, 203, 204, 205, 206, 207, 208, 209, 210, 211, 225, 226, 227, 228, 229, 230, 231, 232, 233] (by decide +kernel) (by decide +kernel)
set_option maxRecDepth 20000 in
theorem gX8_goOnByOne_X5_changesBy : GoodIn wsX8_goOnByOne (wsV RX8 70 RX5 yX5_changesBy wsX5_changesBy) := goodIn_app (goodIn_of _ (by decide +kernel)) ggX8_goOnByOne_X5_changesBy
set_option maxRecDepth 20000 in
theorem ggX8_goOnByOne_X1_add : GoodIn wsX8_goOnByOne wsX1_add := goodIn_r _ [216, 217, 218, 219, 256, 257, 258] (by decide +kernel) (by decide +kernel)
set_option maxRecDepth 20000 in
theorem gX8_goOnByOne_X1_add : GoodIn wsX8_goOnByOne (wsV RX8 76 RX1 yX1_add wsX1_add) := goodIn_app (goodIn_of _ (by decide +kernel)) ggX8_goOnByOne_X1_add
theorem dX8_goOnByOne_0 : decode cX8_goOnByOne 0 = .ok (.aload_n 0, 1) := by decide +kernel
theorem dX8_goOnByOne_1 : decode cX8_goOnByOne 1 = .ok (.dup, 1) := by decide +kernel
theorem dX8_goOnByOne_2 : decode cX8_goOnByOne 2 = .ok (.getfield 26, 3) := by decide +kernel
theorem dX8_goOnByOne_5 : decode cX8_goOnByOne 5 = .ok (.iconst 1, 1) := by decide +kernel
theorem dX8_goOnByOne_6 : decode cX8_goOnByOne 6 = .ok (.iadd, 1) := by decide +kernel
theorem dX8_goOnByOne_7 : decode cX8_goOnByOne 7 = .ok (.putfield 26, 3) := by decide +kernel
theorem dX8_goOnByOne_10 : decode cX8_goOnByOne 10 = .ok (.iconst 0, 1) := by decide +kernel
theorem dX8_goOnByOne_11 : decode cX8_goOnByOne 11 = .ok (.istore_n 1, 1) := by decide +kernel
theorem dX8_goOnByOne_12 : decode cX8_goOnByOne 12 = .ok (.iload_n 1, 1) := by decide +kernel
theorem dX8_goOnByOne_13 : decode cX8_goOnByOne 13 = .ok (.aload_n 0, 1) := by decide +kernel
theorem dX8_goOnByOne_14 : decode cX8_goOnByOne 14 = .ok (.getfield 10, 3) := by decide +kernel
theorem dX8_goOnByOne_17 : decode cX8_goOnByOne 17 = .ok (.invokevirtual 34, 3) := by decide +kernel
theorem dX8_goOnByOne_20 : decode cX8_goOnByOne 20 = .ok (.if_icmp .ge 31, 3) := by decide +kernel
theorem dX8_goOnByOne_23 : decode cX8_goOnByOne 23 = .ok (.aload_n 0, 1) := by decide +kernel
theorem dX8_goOnByOne_24 : decode cX8_goOnByOne 24 = .ok (.getfield 10, 3) := by decide +kernel
theorem dX8_goOnByOne_27 : decode cX8_goOnByOne 27 = .ok (.iload_n 1, 1) := by decide +kernel
theorem dX8_goOnByOne_28 : decode cX8_goOnByOne 28 = .ok (.invokevirtual 38, 3) := by decide +kernel
theorem dX8_goOnByOne_31 : decode cX8_goOnByOne 31 = .ok (.checkcast 42, 3) := by decide +kernel
theorem dX8_goOnByOne_34 : decode cX8_goOnByOne 34 = .ok (.aload_n 0, 1) := by decide +kernel
theorem dX8_goOnByOne_35 : decode cX8_goOnByOne 35 = .ok (.getfield 26, 3) := by decide +kernel
theorem dX8_goOnByOne_38 : decode cX8_goOnByOne 38 = .ok (.aload_n 0, 1) := by decide +kernel
theorem dX8_goOnByOne_39 : decode cX8_goOnByOne 39 = .ok (.getfield 30, 3) := by decide +kernel
theorem dX8_goOnByOne_42 : decode cX8_goOnByOne 42 = .ok (.invokevirtual 56, 3) := by decide +kernel
theorem dX8_goOnByOne_45 : decode cX8_goOnByOne 45 = .ok (.iinc 1 1, 3) := by decide +kernel
theorem dX8_goOnByOne_48 : decode cX8_goOnByOne 48 = .ok (.goto (-36), 3) := by decide +kernel
theorem dX8_goOnByOne_51 : decode cX8_goOnByOne 51 = .ok (.iconst 0, 1) := by decide +kernel
theorem dX8_goOnByOne_52 : decode cX8_goOnByOne 52 = .ok (.istore_n 1, 1) := by decide +kernel
theorem dX8_goOnByOne_53 : decode cX8_goOnByOne 53 = .ok (.iload_n 1, 1) := by decide +kernel
theorem dX8_goOnByOne_54 : decode cX8_goOnByOne 54 = .ok (.aload_n 0, 1) := by decide +kernel
theorem dX8_goOnByOne_55 : decode cX8_goOnByOne 55 = .ok (.getfield 16, 3) := by decide +kernel
theorem dX8_goOnByOne_58 : decode cX8_goOnByOne 58 = .ok (.invokevirtual 34, 3) := by decide +kernel
theorem dX8_goOnByOne_61 : decode cX8_goOnByOne 61 = .ok (.if_icmp .ge 63, 3) := by decide +kernel
theorem dX8_goOnByOne_64 : decode cX8_goOnByOne 64 = .ok (.aload_n 0, 1) := by decide +kernel
theorem dX8_goOnByOne_65 : decode cX8_goOnByOne 65 = .ok (.getfield 16, 3) := by decide +kernel
theorem dX8_goOnByOne_68 : decode cX8_goOnByOne 68 = .ok (.iload_n 1, 1) := by decide +kernel
theorem dX8_goOnByOne_69 : decode cX8_goOnByOne 69 = .ok (.invokevirtual 38, 3) := by decide +kernel
theorem dX8_goOnByOne_72 : decode cX8_goOnByOne 72 = .ok (.checkcast 60, 3) := by decide +kernel
theorem dX8_goOnByOne_75 : decode cX8_goOnByOne 75 = .ok (.astore_n 2, 1) := by decide +kernel
theorem dX8_goOnByOne_76 : decode cX8_goOnByOne 76 = .ok (.aload_n 2, 1) := by decide +kernel
theorem dX8_goOnByOne_77 : decode cX8_goOnByOne 77 = .ok (.aload_n 0, 1) := by decide +kernel
theorem dX8_goOnByOne_78 : decode cX8_goOnByOne 78 = .ok (.getfield 26, 3) := by decide +kernel
theorem dX8_goOnByOne_81 : decode cX8_goOnByOne 81 = .ok (.invokevirtual 62, 3) := by decide +kernel
theorem dX8_goOnByOne_84 : decode cX8_goOnByOne 84 = .ok (.ifCond .eq 34, 3) := by decide +kernel
theorem dX8_goOnByOne_87 : decode cX8_goOnByOne 87 = .ok (.aload_n 2, 1) := by decide +kernel
theorem dX8_goOnByOne_88 : decode cX8_goOnByOne 88 = .ok (.aload_n 2, 1) := by decide +kernel
theorem dX8_goOnByOne_89 : decode cX8_goOnByOne 89 = .ok (.aload_n 0, 1) := by decide +kernel
theorem dX8_goOnByOne_90 : decode cX8_goOnByOne 90 = .ok (.getfield 26, 3) := by decide +kernel
theorem dX8_goOnByOne_93 : decode cX8_goOnByOne 93 = .ok (.invokevirtual 66, 3) := by decide +kernel
theorem dX8_goOnByOne_96 : decode cX8_goOnByOne 96 = .ok (.invokevirtual 70, 3) := by decide +kernel
theorem dX8_goOnByOne_99 : decode cX8_goOnByOne 99 = .ok (.ifCond .eq 19, 3) := by decide +kernel
theorem dX8_goOnByOne_102 : decode cX8_goOnByOne 102 = .ok (.aload_n 0, 1) := by decide +kernel
theorem dX8_goOnByOne_103 : decode cX8_goOnByOne 103 = .ok (.getfield 22, 3) := by decide +kernel
theorem dX8_goOnByOne_106 : decode cX8_goOnByOne 106 = .ok (.aload_n 0, 1) := by decide +kernel
theorem dX8_goOnByOne_107 : decode cX8_goOnByOne 107 = .ok (.getfield 26, 3) := by decide +kernel
theorem dX8_goOnByOne_110 : decode cX8_goOnByOne 110 = .ok (.iload_n 1, 1) := by decide +kernel
theorem dX8_goOnByOne_111 : decode cX8_goOnByOne 111 = .ok (.aload_n 2, 1) := by decide +kernel
theorem dX8_goOnByOne_112 : decode cX8_goOnByOne 112 = .ok (.getfield 73, 3) := by decide +kernel
theorem dX8_goOnByOne_115 : decode cX8_goOnByOne 115 = .ok (.invokevirtual 76, 3) := by decide +kernel
theorem dX8_goOnByOne_118 : decode cX8_goOnByOne 118 = .ok (.iinc 1 1, 3) := by decide +kernel
theorem dX8_goOnByOne_121 : decode cX8_goOnByOne 121 = .ok (.goto (-68), 3) := by decide +kernel
theorem dX8_goOnByOne_124 : decode cX8_goOnByOne 124 = .ok (.return_, 1) := by decide +kernel
set_option maxRecDepth 20000 in
theorem ggX8_copyFrom_Jx4a65c_size_8abf5 : GoodIn wsX8_copyFrom wsJx4a65c_size_8abf5 := goodIn_r _ [10, 11, 94, 95, 96] (by decide +kernel) (by decide +kernel)
set_option maxRecDepth 20000 in
theorem gX8_copyFrom_Jx4a65c_size_8abf5 : GoodIn wsX8_copyFrom (wsV RX8 34 RJx4a65c yJx4a65c_size_8abf5 wsJx4a65c_size_8abf5) := goodIn_app (goodIn_of _ (by decide +kernel)) ggX8_copyFrom_Jx4a65c_size_8abf5
set_option maxRecDepth 20000 in
theorem ggX8_copyFrom_Jx4a65c_get_915e3 : GoodIn wsX8_copyFrom wsJx4a65c_get_915e3 := goodIn_r _ [15, 11, 16, 17, 18, 19, 20, 21, 22, 23, 24, 25, 26, 9, 27, 28, 94, 95, 96] (by decide +kernel) (by decide +kernel)
set_option maxRecDepth 20000 in
theorem gX8_copyFrom_Jx4a65c_get_915e3 : GoodIn wsX8_copyFrom (wsV RX8 38 RJx4a65c yJx4a65c_get_915e3 wsJx4a65c_get_915e3) := goodIn_app (goodIn_of _ (by decide +kernel)) ggX8_copyFrom_Jx4a65c_get_915e3
set_option maxRecDepth 20000 in
theorem ggX8_copyFrom_X6_copyFrom : GoodIn wsX8_copyFrom wsX6_copyFrom := goodIn_r _ [33, 34, 35, 36, 37, 38, 39, 40, 41, 42, 43, 44, 45, 46, 47, 48, 49, 50, 51, 52, 53, 54, 55, 56, 57, 58, 59, 60, 61, 62, 63, 64, 65, 66, 67, 68, 69, 70, 71, 72, 73, 74, 75, 76, 77, 78, 79, 80, 81, 97, 98, 99, 100, 101, 102, 103, 104, 105, 106, 107, 108, 109, 110] (by decide +kernel) (by decide +kernel)
set_option maxRecDepth 20000 in
theorem gX8_copyFrom_X6_copyFrom : GoodIn wsX8_copyFrom (wsV RX8 80 RX6 yX6_copyFrom wsX6_copyFrom) := goodIn_app (goodIn_of _ (by decide +kernel)) ggX8_copyFrom_X6_copyFrom
set_option maxRecDepth 20000 in
theorem ggX8_copyFrom_X5_copyFrom : GoodIn wsX8_copyFrom wsX5_copyFrom := goodIn_r _ [86, 87, 88, 111, 112, 113, 114, 115, 116, 117, 118, 119] (by decide +kernel) (by decide +kernel)
set_option maxRecDepth 20000 in
theorem gX8_copyFrom_X5_copyFrom : GoodIn wsX8_copyFrom (wsV RX8 84 RX5 yX5_copyFrom wsX5_copyFrom) := goodIn_app (goodIn_of _ (by decide +kernel)) ggX8_copyFrom_X5_copyFrom
theorem dX8_copyFrom_0 : decode cX8_copyFrom 0 = .ok (.aload_n 0, 1) := by decide +kernel
theorem dX8_copyFrom_1 : decode cX8_copyFrom 1 = .ok (.aload_n 1, 1) := by decide +kernel
theorem dX8_copyFrom_2 : decode cX8_copyFrom 2 = .ok (.getfield 26, 3) := by decide +kernel
theorem dX8_copyFrom_5 : decode cX8_copyFrom 5 = .ok (.putfield 26, 3) := by decide +kernel
theorem dX8_copyFrom_8 : decode cX8_copyFrom 8 = .ok (.iconst 0, 1) := by decide +kernel
theorem dX8_copyFrom_9 : decode cX8_copyFrom 9 = .ok (.istore_n 2, 1) := by decide +kernel
theorem dX8_copyFrom_10 : decode cX8_copyFrom 10 = .ok (.iload_n 2, 1) := by decide +kernel
theorem dX8_copyFrom_11 : decode cX8_copyFrom 11 = .ok (.aload_n 0, 1) := by decide +kernel
theorem dX8_copyFrom_12 : decode cX8_copyFrom 12 = .ok (.getfield 10, 3) := by decide +kernel
theorem dX8_copyFrom_15 : decode cX8_copyFrom 15 = .ok (.invokevirtual 34, 3) := by decide +kernel
theorem dX8_copyFrom_18 : decode cX8_copyFrom 18 = .ok (.if_icmp .ge 45, 3) := by decide +kernel
theorem dX8_copyFrom_21 : decode cX8_copyFrom 21 = .ok (.iload_n 2, 1) := by decide +kernel
theorem dX8_copyFrom_22 : decode cX8_copyFrom 22 = .ok (.aload_n 1, 1) := by decide +kernel
theorem dX8_copyFrom_23 : decode cX8_copyFrom 23 = .ok (.getfield 10, 3) := by decide +kernel
theorem dX8_copyFrom_26 : decode cX8_copyFrom 26 = .ok (.invokevirtual 34, 3) := by decide +kernel
theorem dX8_copyFrom_29 : decode cX8_copyFrom 29 = .ok (.if_icmp .ge 34, 3) := by decide +kernel
theorem dX8_copyFrom_32 : decode cX8_copyFrom 32 = .ok (.aload_n 0, 1) := by decide +kernel
theorem dX8_copyFrom_33 : decode cX8_copyFrom 33 = .ok (.getfield 10, 3) := by decide +kernel
theorem dX8_copyFrom_36 : decode cX8_copyFrom 36 = .ok (.iload_n 2, 1) := by decide +kernel
theorem dX8_copyFrom_37 : decode cX8_copyFrom 37 = .ok (.invokevirtual 38, 3) := by decide +kernel
theorem dX8_copyFrom_40 : decode cX8_copyFrom 40 = .ok (.checkcast 42, 3) := by decide +kernel
theorem dX8_copyFrom_43 : decode cX8_copyFrom 43 = .ok (.aload_n 1, 1) := by decide +kernel
theorem dX8_copyFrom_44 : decode cX8_copyFrom 44 = .ok (.getfield 10, 3) := by decide +kernel
theorem dX8_copyFrom_47 : decode cX8_copyFrom 47 = .ok (.iload_n 2, 1) := by decide +kernel
theorem dX8_copyFrom_48 : decode cX8_copyFrom 48 = .ok (.invokevirtual 38, 3) := by decide +kernel
theorem dX8_copyFrom_51 : decode cX8_copyFrom 51 = .ok (.checkcast 42, 3) := by decide +kernel
theorem dX8_copyFrom_54 : decode cX8_copyFrom 54 = .ok (.invokevirtual 80, 3) := by decide +kernel
theorem dX8_copyFrom_57 : decode cX8_copyFrom 57 = .ok (.iinc 2 1, 3) := by decide +kernel
theorem dX8_copyFrom_60 : decode cX8_copyFrom 60 = .ok (.goto (-50), 3) := by decide +kernel
theorem dX8_copyFrom_63 : decode cX8_copyFrom 63 = .ok (.iconst 0, 1) := by decide +kernel
theorem dX8_copyFrom_64 : decode cX8_copyFrom 64 = .ok (.istore_n 2, 1) := by decide +kernel
theorem dX8_copyFrom_65 : decode cX8_copyFrom 65 = .ok (.iload_n 2, 1) := by decide +kernel
theorem dX8_copyFrom_66 : decode cX8_copyFrom 66 = .ok (.aload_n 0, 1) := by decide +kernel
theorem dX8_copyFrom_67 : decode cX8_copyFrom 67 = .ok (.getfield 16, 3) := by decide +kernel
theorem dX8_copyFrom_70 : decode cX8_copyFrom 70 = .ok (.invokevirtual 34, 3) := by decide +kernel
theorem dX8_copyFrom_73 : decode cX8_copyFrom 73 = .ok (.if_icmp .ge 45, 3) := by decide +kernel
theorem dX8_copyFrom_76 : decode cX8_copyFrom 76 = .ok (.iload_n 2, 1) := by decide +kernel
theorem dX8_copyFrom_77 : decode cX8_copyFrom 77 = .ok (.aload_n 1, 1) := by decide +kernel
theorem dX8_copyFrom_78 : decode cX8_copyFrom 78 = .ok (.getfield 16, 3) := by decide +kernel
theorem dX8_copyFrom_81 : decode cX8_copyFrom 81 = .ok (.invokevirtual 34, 3) := by decide +kernel
theorem dX8_copyFrom_84 : decode cX8_copyFrom 84 = .ok (.if_icmp .ge 34, 3) := by decide +kernel
theorem dX8_copyFrom_87 : decode cX8_copyFrom 87 = .ok (.aload_n 0, 1) := by decide +kernel
theorem dX8_copyFrom_88 : decode cX8_copyFrom 88 = .ok (.getfield 16, 3) := by decide +kernel
theorem dX8_copyFrom_91 : decode cX8_copyFrom 91 = .ok (.iload_n 2, 1) := by decide +kernel
theorem dX8_copyFrom_92 : decode cX8_copyFrom 92 = .ok (.invokevirtual 38, 3) := by decide +kernel
theorem dX8_copyFrom_95 : decode cX8_copyFrom 95 = .ok (.checkcast 60, 3) := by decide +kernel
theorem dX8_copyFrom_98 : decode cX8_copyFrom 98 = .ok (.aload_n 1, 1) := by decide +kernel
theorem dX8_copyFrom_99 : decode cX8_copyFrom 99 = .ok (.getfield 16, 3) := by decide +kernel
theorem dX8_copyFrom_102 : decode cX8_copyFrom 102 = .ok (.iload_n 2, 1) := by decide +kernel
theorem dX8_copyFrom_103 : decode cX8_copyFrom 103 = .ok (.invokevirtual 38, 3) := by decide +kernel
theorem dX8_copyFrom_106 : decode cX8_copyFrom 106 = .ok (.checkcast 60, 3) := by decide +kernel
theorem dX8_copyFrom_109 : decode cX8_copyFrom 109 = .ok (.invokevirtual 84, 3) := by decide +kernel
theorem dX8_copyFrom_112 : decode cX8_copyFrom 112 = .ok (.iinc 2 1, 3) := by decide +kernel
theorem dX8_copyFrom_115 : decode cX8_copyFrom 115 = .ok (.goto (-50), 3) := by decide +kernel
theorem dX8_copyFrom_118 : decode cX8_copyFrom 118 = .ok (.return_, 1) := by decide +kernel
set_option maxRecDepth 20000 in
theorem ggX9_init_X7_init : GoodIn wsX9_init wsX7_init := goodIn_r _ [23, 24, 2, 3, 25, 26, 27, 28, 29, 76, 77, 78, 79, 80] (by decide +kernel) (by decide +kernel)
set_option maxRecDepth 20000 in
theorem gX9_init_X7_init_n9 : GoodIn wsX9_init (wsX7_init) := ggX9_init_X7_init
set_option maxRecDepth 20000 in
theorem ggX9_init_X8_init : GoodIn wsX9_init wsX8_init := goodIn_r _ [32, 33, 2, 3, 34, 35, 36, 37, 38, 39, 40, 41, 42, 43, 44, 45, 46, 47, 48, 49, 50, 51, 52, 53, 54, 55, 56, 57, 58, 59, 60, 61, 62, 63, 64, 65, 66, 101, 102, 103, 90, 91, 92, 93, 94, 104, 105, 106] (by decide +kernel) (by decide +kernel)
set_option maxRecDepth 20000 in
theorem gX9_init_X8_init : GoodIn wsX9_init (wsX8_init) := ggX9_init_X8_init
set_option maxRecDepth 20000 in
theorem ggX9_init_X3_init : GoodIn wsX9_init wsX3_init := goodIn_r _ [68, 69, 2, 3, 63, 70, 71, 72, 73, 74, 75, 95, 96, 97, 98, 99, 100] (by decide +kernel) (by decide +kernel)
set_option maxRecDepth 20000 in
theorem gX9_init_X3_init_n30 : GoodIn wsX9_init (wsX3_init) := ggX9_init_X3_init
theorem dX9_init_0 : decode cX9_init 0 = .ok (.aload_n 0, 1) := by decide +kernel
theorem dX9_init_1 : decode cX9_init 1 = .ok (.invokespecial 1, 3) := by decide +kernel
theorem dX9_init_4 : decode cX9_init 4 = .ok (.aload_n 0, 1) := by decide +kernel
theorem dX9_init_5 : decode cX9_init 5 = .ok (.new 7, 3) := by decide +kernel
theorem dX9_init_8 : decode cX9_init 8 = .ok (.dup, 1) := by decide +kernel
theorem dX9_init_9 : decode cX9_init 9 = .ok (.invokespecial 9, 3) := by decide +kernel
theorem dX9_init_12 : decode cX9_init 12 = .ok (.putfield 10, 3) := by decide +kernel
theorem dX9_init_15 : decode cX9_init 15 = .ok (.aload_n 0, 1) := by decide +kernel
theorem dX9_init_16 : decode cX9_init 16 = .ok (.new 16, 3) := by decide +kernel
theorem dX9_init_19 : decode cX9_init 19 = .ok (.dup, 1) := by decide +kernel
theorem dX9_init_20 : decode cX9_init 20 = .ok (.aload_n 0, 1) := by decide +kernel
theorem dX9_init_21 : decode cX9_init 21 = .ok (.getfield 10, 3) := by decide +kernel
theorem dX9_init_24 : decode cX9_init 24 = .ok (.invokespecial 18, 3) := by decide +kernel
theorem dX9_init_27 : decode cX9_init 27 = .ok (.putfield 21, 3) := by decide +kernel
theorem dX9_init_30 : decode cX9_init 30 = .ok (.aload_n 0, 1) := by decide +kernel
theorem dX9_init_31 : decode cX9_init 31 = .ok (.new 16, 3) := by decide +kernel
theorem dX9_init_34 : decode cX9_init 34 = .ok (.dup, 1) := by decide +kernel
theorem dX9_init_35 : decode cX9_init 35 = .ok (.aload_n 0, 1) := by decide +kernel
theorem dX9_init_36 : decode cX9_init 36 = .ok (.getfield 10, 3) := by decide +kernel
theorem dX9_init_39 : decode cX9_init 39 = .ok (.invokespecial 18, 3) := by decide +kernel
theorem dX9_init_42 : decode cX9_init 42 = .ok (.putfield 25, 3) := by decide +kernel
theorem dX9_init_45 : decode cX9_init 45 = .ok (.aload_n 0, 1) := by decide +kernel
theorem dX9_init_46 : decode cX9_init 46 = .ok (.new 28, 3) := by decide +kernel
theorem dX9_init_49 : decode cX9_init 49 = .ok (.dup, 1) := by decide +kernel
theorem dX9_init_50 : decode cX9_init 50 = .ok (.invokespecial 30, 3) := by decide +kernel
theorem dX9_init_53 : decode cX9_init 53 = .ok (.putfield 31, 3) := by decide +kernel
theorem dX9_init_56 : decode cX9_init 56 = .ok (.aload_n 0, 1) := by decide +kernel
theorem dX9_init_57 : decode cX9_init 57 = .ok (.iconst 0, 1) := by decide +kernel
theorem dX9_init_58 : decode cX9_init 58 = .ok (.putfield 35, 3) := by decide +kernel
theorem dX9_init_61 : decode cX9_init 61 = .ok (.aload_n 0, 1) := by decide +kernel
theorem dX9_init_62 : decode cX9_init 62 = .ok (.bipush 10, 2) := by decide +kernel
theorem dX9_init_64 : decode cX9_init 64 = .ok (.putfield 39, 3) := by decide +kernel
theorem dX9_init_67 : decode cX9_init 67 = .ok (.aload_n 0, 1) := by decide +kernel
theorem dX9_init_68 : decode cX9_init 68 = .ok (.iconst 1, 1) := by decide +kernel
theorem dX9_init_69 : decode cX9_init 69 = .ok (.putfield 42, 3) := by decide +kernel
theorem dX9_init_72 : decode cX9_init 72 = .ok (.aload_n 0, 1) := by decide +kernel
theorem dX9_init_73 : decode cX9_init 73 = .ok (.iconst 0, 1) := by decide +kernel
theorem dX9_init_74 : decode cX9_init 74 = .ok (.putfield 45, 3) := by decide +kernel
theorem dX9_init_77 : decode cX9_init 77 = .ok (.aload_n 0, 1) := by decide +kernel
theorem dX9_init_78 : decode cX9_init 78 = .ok (.iconst 0, 1) := by decide +kernel
theorem dX9_init_79 : decode cX9_init 79 = .ok (.putfield 48, 3) := by decide +kernel
theorem dX9_init_82 : decode cX9_init 82 = .ok (.return_, 1) := by decide +kernel
set_option maxRecDepth 20000 in
theorem ggX9_addSeries_X9_isIn : GoodIn wsX9_addSeries wsX9_isIn := goodIn_r _ [10] (by decide +kernel) (by decide +kernel)
set_option maxRecDepth 20000 in
theorem gX9_addSeries_X9_isIn : GoodIn wsX9_addSeries (va_wsS RX9 51 yX9_isIn wsX9_isIn) := goodIn_app (goodIn_of _ (by decide +kernel)) ggX9_addSeries_X9_isIn
set_option maxRecDepth 20000 in
theorem ggX9_addSeries_X9_needArgument : GoodIn wsX9_addSeries wsX9_needArgument := goodIn_ca (goodIn_r _ [13, 14, 15] (by decide +kernel) (by decide +kernel)) (goodIn_sub (fun _ h => List.mem_cons_of_mem _ (List.mem_append_left _ (List.mem_append_right _ h))) (by decide +kernel))
set_option maxRecDepth 20000 in
theorem gX9_addSeries_X9_needArgument : GoodIn wsX9_addSeries (va_wsS RX9 55 yX9_needArgument wsX9_needArgument) := goodIn_app (goodIn_of _ (by decide +kernel)) ggX9_addSeries_X9_needArgument
set_option maxRecDepth 20000 in
theorem ggX9_addSeries_Jx4a65c_size_8abf5 : GoodIn wsX9_addSeries wsJx4a65c_size_8abf5 := goodIn_r _ [20, 21, 134, 135, 136] (by decide +kernel) (by decide +kernel)
set_option maxRecDepth 20000 in
theorem gX9_addSeries_Jx4a65c_size_8abf5 : GoodIn wsX9_addSeries (wsV RX9 63 RJx4a65c yJx4a65c_size_8abf5 wsJx4a65c_size_8abf5) := goodIn_app (goodIn_of _ (by decide +kernel)) ggX9_addSeries_Jx4a65c_size_8abf5
set_option maxRecDepth 20000 in
theorem ggX9_addSeries_X9_needState : GoodIn wsX9_addSeries wsX9_needState := goodIn_ca (goodIn_r _ [24, 25, 26] (by decide +kernel) (by decide +kernel)) (goodIn_sub (fun _ h => List.mem_cons_of_mem _ (List.mem_append_right _ h)) (by decide +kernel))
set_option maxRecDepth 20000 in
theorem gX9_addSeries_X9_needState : GoodIn wsX9_addSeries (va_wsS RX9 69 yX9_needState wsX9_needState) := goodIn_app (goodIn_of _ (by decide +kernel)) ggX9_addSeries_X9_needState
set_option maxRecDepth 20000 in
theorem ggX9_addSeries_X6_init : GoodIn wsX9_addSeries wsX6_init := goodIn_r _ [29, 30, 31, 32, 33, 34, 35, 36, 37, 38, 39, 40, 41, 42, 43, 44, 45, 46, 47, 48, 49, 50, 51, 52, 53, 54, 55, 56, 57, 58, 59, 60, 137, 138, 139, 140, 141, 142, 143, 129, 130, 131, 132, 133, 144, 145] (by decide +kernel) (by decide +kernel)
set_option maxRecDepth 20000 in
theorem gX9_addSeries_X6_init : GoodIn wsX9_addSeries (wsX6_init) := ggX9_addSeries_X6_init
set_option maxRecDepth 20000 in
theorem ggX9_addSeries_Jx4a65c_add_9ea2d : GoodIn wsX9_addSeries wsJx4a65c_add_9ea2d := goodIn_r _ [64, 65, 66, 67, 21, 68, 69, 70, 19, 71, 72, 73, 74, 75, 76, 77, 78, 79, 80, 81, 82, 83, 84, 85, 86, 87, 88, 89, 90, 91, 92, 93, 94, 95, 96, 97, 98, 99, 100, 101, 102, 103, 104, 105, 106, 107, 108, 109, 110, 111, 112, 113, 114, 134, 135, 136] (by decide +kernel) (by decide +kernel)
set_option maxRecDepth 20000 in
theorem gX9_addSeries_Jx4a65c_add_9ea2d : GoodIn wsX9_addSeries (wsV RX9 77 RJx4a65c yJx4a65c_add_9ea2d wsJx4a65c_add_9ea2d) := goodIn_app (goodIn_of _ (by decide +kernel)) ggX9_addSeries_Jx4a65c_add_9ea2d
theorem dX9_addSeries_0 : decode cX9_addSeries 0 = .ok (.iload_n 1, 1) := by decide +kernel
theorem dX9_addSeries_1 : decode cX9_addSeries 1 = .ok (.i2l, 1) := by decide +kernel
theorem dX9_addSeries_2 : decode cX9_addSeries 2 = .ok (.iconst 0, 1) := by decide +kernel
theorem dX9_addSeries_3 : decode cX9_addSeries 3 = .ok (.bipush 9, 2) := by decide +kernel
theorem dX9_addSeries_5 : decode cX9_addSeries 5 = .ok (.invokestatic 51, 3) := by decide +kernel
theorem dX9_addSeries_8 : decode cX9_addSeries 8 = .ok (.ifCond .eq 18, 3) := by decide +kernel
theorem dX9_addSeries_11 : decode cX9_addSeries 11 = .ok (.iload_n 2, 1) := by decide +kernel
theorem dX9_addSeries_12 : decode cX9_addSeries 12 = .ok (.i2l, 1) := by decide +kernel
theorem dX9_addSeries_13 : decode cX9_addSeries 13 = .ok (.iconst 0, 1) := by decide +kernel
theorem dX9_addSeries_14 : decode cX9_addSeries 14 = .ok (.bipush 9, 2) := by decide +kernel
theorem dX9_addSeries_16 : decode cX9_addSeries 16 = .ok (.invokestatic 51, 3) := by decide +kernel
theorem dX9_addSeries_19 : decode cX9_addSeries 19 = .ok (.ifCond .eq 7, 3) := by decide +kernel
theorem dX9_addSeries_22 : decode cX9_addSeries 22 = .ok (.iconst 1, 1) := by decide +kernel
theorem dX9_addSeries_23 : decode cX9_addSeries 23 = .ok (.goto 4, 3) := by decide +kernel
theorem dX9_addSeries_26 : decode cX9_addSeries 26 = .ok (.iconst 0, 1) := by decide +kernel
theorem dX9_addSeries_27 : decode cX9_addSeries 27 = .ok (.invokestatic 55, 3) := by decide +kernel
theorem dX9_addSeries_30 : decode cX9_addSeries 30 = .ok (.aload_n 0, 1) := by decide +kernel
theorem dX9_addSeries_31 : decode cX9_addSeries 31 = .ok (.getfield 21, 3) := by decide +kernel
theorem dX9_addSeries_34 : decode cX9_addSeries 34 = .ok (.getfield 59, 3) := by decide +kernel
theorem dX9_addSeries_37 : decode cX9_addSeries 37 = .ok (.invokevirtual 63, 3) := by decide +kernel
theorem dX9_addSeries_40 : decode cX9_addSeries 40 = .ok (.istore_n 3, 1) := by decide +kernel
theorem dX9_addSeries_41 : decode cX9_addSeries 41 = .ok (.iload_n 3, 1) := by decide +kernel
theorem dX9_addSeries_42 : decode cX9_addSeries 42 = .ok (.bipush 6, 2) := by decide +kernel
theorem dX9_addSeries_44 : decode cX9_addSeries 44 = .ok (.if_icmp .ge 7, 3) := by decide +kernel
theorem dX9_addSeries_47 : decode cX9_addSeries 47 = .ok (.iconst 1, 1) := by decide +kernel
theorem dX9_addSeries_48 : decode cX9_addSeries 48 = .ok (.goto 4, 3) := by decide +kernel
theorem dX9_addSeries_51 : decode cX9_addSeries 51 = .ok (.iconst 0, 1) := by decide +kernel
theorem dX9_addSeries_52 : decode cX9_addSeries 52 = .ok (.invokestatic 69, 3) := by decide +kernel
theorem dX9_addSeries_55 : decode cX9_addSeries 55 = .ok (.aload_n 0, 1) := by decide +kernel
theorem dX9_addSeries_56 : decode cX9_addSeries 56 = .ok (.getfield 21, 3) := by decide +kernel
theorem dX9_addSeries_59 : decode cX9_addSeries 59 = .ok (.getfield 59, 3) := by decide +kernel
theorem dX9_addSeries_62 : decode cX9_addSeries 62 = .ok (.new 72, 3) := by decide +kernel
theorem dX9_addSeries_65 : decode cX9_addSeries 65 = .ok (.dup, 1) := by decide +kernel
theorem dX9_addSeries_66 : decode cX9_addSeries 66 = .ok (.iload_n 1, 1) := by decide +kernel
theorem dX9_addSeries_67 : decode cX9_addSeries 67 = .ok (.iload_n 2, 1) := by decide +kernel
theorem dX9_addSeries_68 : decode cX9_addSeries 68 = .ok (.invokespecial 74, 3) := by decide +kernel
theorem dX9_addSeries_71 : decode cX9_addSeries 71 = .ok (.invokevirtual 77, 3) := by decide +kernel
theorem dX9_addSeries_74 : decode cX9_addSeries 74 = .ok (.pop, 1) := by decide +kernel
theorem dX9_addSeries_75 : decode cX9_addSeries 75 = .ok (.aload_n 0, 1) := by decide +kernel
theorem dX9_addSeries_76 : decode cX9_addSeries 76 = .ok (.getfield 25, 3) := by decide +kernel
theorem dX9_addSeries_79 : decode cX9_addSeries 79 = .ok (.getfield 59, 3) := by decide +kernel
theorem dX9_addSeries_82 : decode cX9_addSeries 82 = .ok (.new 72, 3) := by decide +kernel
theorem dX9_addSeries_85 : decode cX9_addSeries 85 = .ok (.dup, 1) := by decide +kernel
theorem dX9_addSeries_86 : decode cX9_addSeries 86 = .ok (.iload_n 1, 1) := by decide +kernel
theorem dX9_addSeries_87 : decode cX9_addSeries 87 = .ok (.iload_n 2, 1) := by decide +kernel
theorem dX9_addSeries_88 : decode cX9_addSeries 88 = .ok (.invokespecial 74, 3) := by decide +kernel
theorem dX9_addSeries_91 : decode cX9_addSeries 91 = .ok (.invokevirtual 77, 3) := by decide +kernel
theorem dX9_addSeries_94 : decode cX9_addSeries 94 = .ok (.pop, 1) := by decide +kernel
theorem dX9_addSeries_95 : decode cX9_addSeries 95 = .ok (.iload_n 3, 1) := by decide +kernel
theorem dX9_addSeries_96 : decode cX9_addSeries 96 = .ok (.ireturn, 1) := by decide +kernel
set_option maxRecDepth 20000 in
theorem ggX9_setSpan_X9_isIn : GoodIn wsX9_setSpan wsX9_isIn := goodIn_r _ [6] (by decide +kernel) (by decide +kernel)
set_option maxRecDepth 20000 in
theorem gX9_setSpan_X9_isIn : GoodIn wsX9_setSpan (va_wsS RX9 51 yX9_isIn wsX9_isIn) := goodIn_app (goodIn_of _ (by decide +kernel)) ggX9_setSpan_X9_isIn
set_option maxRecDepth 20000 in
theorem ggX9_setSpan_X9_needArgument : GoodIn wsX9_setSpan wsX9_needArgument := goodIn_ca (goodIn_r _ [9, 10, 11] (by decide +kernel) (by decide +kernel)) (goodIn_sub (fun _ h => List.mem_cons_of_mem _ (List.mem_append_right _ h)) (by decide +kernel))
set_option maxRecDepth 20000 in
theorem gX9_setSpan_X9_needArgument : GoodIn wsX9_setSpan (va_wsS RX9 55 yX9_needArgument wsX9_needArgument) := goodIn_app (goodIn_of _ (by decide +kernel)) ggX9_setSpan_X9_needArgument
theorem dX9_setSpan_0 : decode cX9_setSpan 0 = .ok (.iload_n 1, 1) := by decide +kernel
theorem dX9_setSpan_1 : decode cX9_setSpan 1 = .ok (.i2l, 1) := by decide +kernel
theorem dX9_setSpan_2 : decode cX9_setSpan 2 = .ok (.iconst 2, 1) := by decide +kernel
theorem dX9_setSpan_3 : decode cX9_setSpan 3 = .ok (.bipush 16, 2) := by decide +kernel
theorem dX9_setSpan_5 : decode cX9_setSpan 5 = .ok (.invokestatic 51, 3) := by decide +kernel
theorem dX9_setSpan_8 : decode cX9_setSpan 8 = .ok (.invokestatic 55, 3) := by decide +kernel
theorem dX9_setSpan_11 : decode cX9_setSpan 11 = .ok (.aload_n 0, 1) := by decide +kernel
theorem dX9_setSpan_12 : decode cX9_setSpan 12 = .ok (.getfield 10, 3) := by decide +kernel
theorem dX9_setSpan_15 : decode cX9_setSpan 15 = .ok (.getfield 81, 3) := by decide +kernel
theorem dX9_setSpan_18 : decode cX9_setSpan 18 = .ok (.istore_n 2, 1) := by decide +kernel
theorem dX9_setSpan_19 : decode cX9_setSpan 19 = .ok (.aload_n 0, 1) := by decide +kernel
theorem dX9_setSpan_20 : decode cX9_setSpan 20 = .ok (.getfield 10, 3) := by decide +kernel
theorem dX9_setSpan_23 : decode cX9_setSpan 23 = .ok (.iload_n 1, 1) := by decide +kernel
theorem dX9_setSpan_24 : decode cX9_setSpan 24 = .ok (.putfield 81, 3) := by decide +kernel
theorem dX9_setSpan_27 : decode cX9_setSpan 27 = .ok (.iload_n 2, 1) := by decide +kernel
theorem dX9_setSpan_28 : decode cX9_setSpan 28 = .ok (.ireturn, 1) := by decide +kernel
set_option maxRecDepth 20000 in
theorem ggX9_setWidths_X9_isIn : GoodIn wsX9_setWidths wsX9_isIn := goodIn_r _ [8] (by decide +kernel) (by decide +kernel)
set_option maxRecDepth 20000 in
theorem gX9_setWidths_X9_isIn : GoodIn wsX9_setWidths (va_wsS RX9 51 yX9_isIn wsX9_isIn) := goodIn_app (goodIn_of _ (by decide +kernel)) ggX9_setWidths_X9_isIn
set_option maxRecDepth 20000 in
theorem ggX9_setWidths_X9_needArgument : GoodIn wsX9_setWidths wsX9_needArgument := goodIn_ca (goodIn_r _ [11, 12, 13] (by decide +kernel) (by decide +kernel)) (goodIn_sub (fun _ h => List.mem_cons_of_mem _ (List.mem_append_left _ (List.mem_append_right _ h))) (by decide +kernel))
set_option maxRecDepth 20000 in
theorem gX9_setWidths_X9_needArgument : GoodIn wsX9_setWidths (va_wsS RX9 55 yX9_needArgument wsX9_needArgument) := goodIn_app (goodIn_of _ (by decide +kernel)) ggX9_setWidths_X9_needArgument
set_option maxRecDepth 20000 in
theorem ggX9_setWidths_X8_hasBucket : GoodIn wsX9_setWidths wsX8_hasBucket := goodIn_r _ [18, 19, 20, 21, 22, 23, 24, 25, 26, 27, 28, 29, 30, 31, 32, 33, 34, 35, 36, 37, 38, 39, 40, 41, 42, 43, 44, 45, 46, 47, 67, 68, 69, 70, 71, 72, 73, 74, 75, 76, 77, 78, 79, 80, 81, 82, 83, 84, 85, 86, 87, 88] (by decide +kernel) (by decide +kernel)
set_option maxRecDepth 20000 in
theorem gX9_setWidths_X8_hasBucket : GoodIn wsX9_setWidths (wsV RX9 84 RX8 yX8_hasBucket wsX8_hasBucket) := goodIn_app (goodIn_of _ (by decide +kernel)) ggX9_setWidths_X8_hasBucket
set_option maxRecDepth 20000 in
theorem ggX9_setWidths_X9_needState : GoodIn wsX9_setWidths wsX9_needState := goodIn_ca (goodIn_r _ [50, 51, 52] (by decide +kernel) (by decide +kernel)) (goodIn_sub (fun _ h => List.mem_cons_of_mem _ (List.mem_append_right _ h)) (by decide +kernel))
set_option maxRecDepth 20000 in
theorem gX9_setWidths_X9_needState : GoodIn wsX9_setWidths (va_wsS RX9 69 yX9_needState wsX9_needState) := goodIn_app (goodIn_of _ (by decide +kernel)) ggX9_setWidths_X9_needState
theorem dX9_setWidths_0 : decode cX9_setWidths 0 = .ok (.iload_n 1, 1) := by decide +kernel
theorem dX9_setWidths_1 : decode cX9_setWidths 1 = .ok (.i2l, 1) := by decide +kernel
theorem dX9_setWidths_2 : decode cX9_setWidths 2 = .ok (.iconst 2, 1) := by decide +kernel
theorem dX9_setWidths_3 : decode cX9_setWidths 3 = .ok (.bipush 100, 2) := by decide +kernel
theorem dX9_setWidths_5 : decode cX9_setWidths 5 = .ok (.invokestatic 51, 3) := by decide +kernel
theorem dX9_setWidths_8 : decode cX9_setWidths 8 = .ok (.ifCond .eq 18, 3) := by decide +kernel
theorem dX9_setWidths_11 : decode cX9_setWidths 11 = .ok (.iload_n 2, 1) := by decide +kernel
theorem dX9_setWidths_12 : decode cX9_setWidths 12 = .ok (.i2l, 1) := by decide +kernel
theorem dX9_setWidths_13 : decode cX9_setWidths 13 = .ok (.iconst 2, 1) := by decide +kernel
theorem dX9_setWidths_14 : decode cX9_setWidths 14 = .ok (.bipush 20, 2) := by decide +kernel
theorem dX9_setWidths_16 : decode cX9_setWidths 16 = .ok (.invokestatic 51, 3) := by decide +kernel
theorem dX9_setWidths_19 : decode cX9_setWidths 19 = .ok (.ifCond .eq 7, 3) := by decide +kernel
theorem dX9_setWidths_22 : decode cX9_setWidths 22 = .ok (.iconst 1, 1) := by decide +kernel
theorem dX9_setWidths_23 : decode cX9_setWidths 23 = .ok (.goto 4, 3) := by decide +kernel
theorem dX9_setWidths_26 : decode cX9_setWidths 26 = .ok (.iconst 0, 1) := by decide +kernel
theorem dX9_setWidths_27 : decode cX9_setWidths 27 = .ok (.invokestatic 55, 3) := by decide +kernel
theorem dX9_setWidths_30 : decode cX9_setWidths 30 = .ok (.aload_n 0, 1) := by decide +kernel
theorem dX9_setWidths_31 : decode cX9_setWidths 31 = .ok (.getfield 21, 3) := by decide +kernel
theorem dX9_setWidths_34 : decode cX9_setWidths 34 = .ok (.invokevirtual 84, 3) := by decide +kernel
theorem dX9_setWidths_37 : decode cX9_setWidths 37 = .ok (.ifCond .ne 7, 3) := by decide +kernel
theorem dX9_setWidths_40 : decode cX9_setWidths 40 = .ok (.iconst 1, 1) := by decide +kernel
theorem dX9_setWidths_41 : decode cX9_setWidths 41 = .ok (.goto 4, 3) := by decide +kernel
theorem dX9_setWidths_44 : decode cX9_setWidths 44 = .ok (.iconst 0, 1) := by decide +kernel
theorem dX9_setWidths_45 : decode cX9_setWidths 45 = .ok (.invokestatic 69, 3) := by decide +kernel
theorem dX9_setWidths_48 : decode cX9_setWidths 48 = .ok (.aload_n 0, 1) := by decide +kernel
theorem dX9_setWidths_49 : decode cX9_setWidths 49 = .ok (.getfield 10, 3) := by decide +kernel
theorem dX9_setWidths_52 : decode cX9_setWidths 52 = .ok (.getfield 88, 3) := by decide +kernel
theorem dX9_setWidths_55 : decode cX9_setWidths 55 = .ok (.istore_n 3, 1) := by decide +kernel
theorem dX9_setWidths_56 : decode cX9_setWidths 56 = .ok (.aload_n 0, 1) := by decide +kernel
theorem dX9_setWidths_57 : decode cX9_setWidths 57 = .ok (.getfield 10, 3) := by decide +kernel
theorem dX9_setWidths_60 : decode cX9_setWidths 60 = .ok (.iload_n 1, 1) := by decide +kernel
theorem dX9_setWidths_61 : decode cX9_setWidths 61 = .ok (.putfield 88, 3) := by decide +kernel
theorem dX9_setWidths_64 : decode cX9_setWidths 64 = .ok (.aload_n 0, 1) := by decide +kernel
theorem dX9_setWidths_65 : decode cX9_setWidths 65 = .ok (.getfield 10, 3) := by decide +kernel
theorem dX9_setWidths_68 : decode cX9_setWidths 68 = .ok (.iload_n 2, 1) := by decide +kernel
theorem dX9_setWidths_69 : decode cX9_setWidths 69 = .ok (.putfield 91, 3) := by decide +kernel
theorem dX9_setWidths_72 : decode cX9_setWidths 72 = .ok (.iload_n 3, 1) := by decide +kernel
theorem dX9_setWidths_73 : decode cX9_setWidths 73 = .ok (.ireturn, 1) := by decide +kernel
set_option maxRecDepth 20000 in
theorem ggX9_setKeep_X9_isIn : GoodIn wsX9_setKeep wsX9_isIn := goodIn_r _ [7] (by decide +kernel) (by decide +kernel)
set_option maxRecDepth 20000 in
theorem gX9_setKeep_X9_isIn : GoodIn wsX9_setKeep (va_wsS RX9 51 yX9_isIn wsX9_isIn) := goodIn_app (goodIn_of _ (by decide +kernel)) ggX9_setKeep_X9_isIn
set_option maxRecDepth 20000 in
theorem ggX9_setKeep_X9_needArgument : GoodIn wsX9_setKeep wsX9_needArgument := goodIn_ca (goodIn_r _ [10, 11, 12] (by decide +kernel) (by decide +kernel)) (goodIn_sub (fun _ h => List.mem_cons_of_mem _ (List.mem_append_right _ h)) (by decide +kernel))
set_option maxRecDepth 20000 in
theorem gX9_setKeep_X9_needArgument : GoodIn wsX9_setKeep (va_wsS RX9 55 yX9_needArgument wsX9_needArgument) := goodIn_app (goodIn_of _ (by decide +kernel)) ggX9_setKeep_X9_needArgument
theorem dX9_setKeep_0 : decode cX9_setKeep 0 = .ok (.iload_n 1, 1) := by decide +kernel
theorem dX9_setKeep_1 : decode cX9_setKeep 1 = .ok (.i2l, 1) := by decide +kernel
theorem dX9_setKeep_2 : decode cX9_setKeep 2 = .ok (.iconst 0, 1) := by decide +kernel
theorem dX9_setKeep_3 : decode cX9_setKeep 3 = .ok (.sipush 10000, 3) := by decide +kernel
theorem dX9_setKeep_6 : decode cX9_setKeep 6 = .ok (.invokestatic 51, 3) := by decide +kernel
theorem dX9_setKeep_9 : decode cX9_setKeep 9 = .ok (.ifCond .eq 19, 3) := by decide +kernel
theorem dX9_setKeep_12 : decode cX9_setKeep 12 = .ok (.iload_n 2, 1) := by decide +kernel
theorem dX9_setKeep_13 : decode cX9_setKeep 13 = .ok (.i2l, 1) := by decide +kernel
theorem dX9_setKeep_14 : decode cX9_setKeep 14 = .ok (.iconst 0, 1) := by decide +kernel
theorem dX9_setKeep_15 : decode cX9_setKeep 15 = .ok (.sipush 10000, 3) := by decide +kernel
theorem dX9_setKeep_18 : decode cX9_setKeep 18 = .ok (.invokestatic 51, 3) := by decide +kernel
theorem dX9_setKeep_21 : decode cX9_setKeep 21 = .ok (.ifCond .eq 7, 3) := by decide +kernel
theorem dX9_setKeep_24 : decode cX9_setKeep 24 = .ok (.iconst 1, 1) := by decide +kernel
theorem dX9_setKeep_25 : decode cX9_setKeep 25 = .ok (.goto 4, 3) := by decide +kernel
theorem dX9_setKeep_28 : decode cX9_setKeep 28 = .ok (.iconst 0, 1) := by decide +kernel
theorem dX9_setKeep_29 : decode cX9_setKeep 29 = .ok (.invokestatic 55, 3) := by decide +kernel
theorem dX9_setKeep_32 : decode cX9_setKeep 32 = .ok (.aload_n 0, 1) := by decide +kernel
theorem dX9_setKeep_33 : decode cX9_setKeep 33 = .ok (.getfield 10, 3) := by decide +kernel
theorem dX9_setKeep_36 : decode cX9_setKeep 36 = .ok (.getfield 94, 3) := by decide +kernel
theorem dX9_setKeep_39 : decode cX9_setKeep 39 = .ok (.istore_n 3, 1) := by decide +kernel
theorem dX9_setKeep_40 : decode cX9_setKeep 40 = .ok (.aload_n 0, 1) := by decide +kernel
theorem dX9_setKeep_41 : decode cX9_setKeep 41 = .ok (.getfield 10, 3) := by decide +kernel
theorem dX9_setKeep_44 : decode cX9_setKeep 44 = .ok (.iload_n 1, 1) := by decide +kernel
theorem dX9_setKeep_45 : decode cX9_setKeep 45 = .ok (.putfield 94, 3) := by decide +kernel
theorem dX9_setKeep_48 : decode cX9_setKeep 48 = .ok (.aload_n 0, 1) := by decide +kernel
theorem dX9_setKeep_49 : decode cX9_setKeep 49 = .ok (.getfield 10, 3) := by decide +kernel
theorem dX9_setKeep_52 : decode cX9_setKeep 52 = .ok (.iload_n 2, 1) := by decide +kernel
theorem dX9_setKeep_53 : decode cX9_setKeep 53 = .ok (.putfield 97, 3) := by decide +kernel
theorem dX9_setKeep_56 : decode cX9_setKeep 56 = .ok (.iload_n 3, 1) := by decide +kernel
theorem dX9_setKeep_57 : decode cX9_setKeep 57 = .ok (.ireturn, 1) := by decide +kernel
set_option maxRecDepth 20000 in
theorem ggX9_setQuery_X9_isIn : GoodIn wsX9_setQuery wsX9_isIn := goodIn_r _ [9] (by decide +kernel) (by decide +kernel)
set_option maxRecDepth 20000 in
theorem gX9_setQuery_X9_isIn : GoodIn wsX9_setQuery (va_wsS RX9 51 yX9_isIn wsX9_isIn) := goodIn_app (goodIn_of _ (by decide +kernel)) ggX9_setQuery_X9_isIn
set_option maxRecDepth 20000 in
theorem ggX9_setQuery_X9_needArgument : GoodIn wsX9_setQuery wsX9_needArgument := goodIn_ca (goodIn_r _ [12, 13, 14] (by decide +kernel) (by decide +kernel)) (goodIn_sub (fun _ h => List.mem_cons_of_mem _ (List.mem_append_right _ h)) (by decide +kernel))
set_option maxRecDepth 20000 in
theorem gX9_setQuery_X9_needArgument : GoodIn wsX9_setQuery (va_wsS RX9 55 yX9_needArgument wsX9_needArgument) := goodIn_app (goodIn_of _ (by decide +kernel)) ggX9_setQuery_X9_needArgument
theorem dX9_setQuery_0 : decode cX9_setQuery 0 = .ok (.iload_n 1, 1) := by decide +kernel
theorem dX9_setQuery_1 : decode cX9_setQuery 1 = .ok (.i2l, 1) := by decide +kernel
theorem dX9_setQuery_2 : decode cX9_setQuery 2 = .ok (.iconst 0, 1) := by decide +kernel
theorem dX9_setQuery_3 : decode cX9_setQuery 3 = .ok (.ldc 100, 2) := by decide +kernel
theorem dX9_setQuery_5 : decode cX9_setQuery 5 = .ok (.invokestatic 51, 3) := by decide +kernel
theorem dX9_setQuery_8 : decode cX9_setQuery 8 = .ok (.ifCond .eq 19, 3) := by decide +kernel
theorem dX9_setQuery_11 : decode cX9_setQuery 11 = .ok (.iload_n 2, 1) := by decide +kernel
theorem dX9_setQuery_12 : decode cX9_setQuery 12 = .ok (.i2l, 1) := by decide +kernel
theorem dX9_setQuery_13 : decode cX9_setQuery 13 = .ok (.iconst 1, 1) := by decide +kernel
theorem dX9_setQuery_14 : decode cX9_setQuery 14 = .ok (.sipush 10000, 3) := by decide +kernel
theorem dX9_setQuery_17 : decode cX9_setQuery 17 = .ok (.invokestatic 51, 3) := by decide +kernel
theorem dX9_setQuery_20 : decode cX9_setQuery 20 = .ok (.ifCond .eq 7, 3) := by decide +kernel
theorem dX9_setQuery_23 : decode cX9_setQuery 23 = .ok (.iconst 1, 1) := by decide +kernel
theorem dX9_setQuery_24 : decode cX9_setQuery 24 = .ok (.goto 4, 3) := by decide +kernel
theorem dX9_setQuery_27 : decode cX9_setQuery 27 = .ok (.iconst 0, 1) := by decide +kernel
theorem dX9_setQuery_28 : decode cX9_setQuery 28 = .ok (.invokestatic 55, 3) := by decide +kernel
theorem dX9_setQuery_31 : decode cX9_setQuery 31 = .ok (.iload_n 3, 1) := by decide +kernel
theorem dX9_setQuery_32 : decode cX9_setQuery 32 = .ok (.i2l, 1) := by decide +kernel
theorem dX9_setQuery_33 : decode cX9_setQuery 33 = .ok (.iconst 0, 1) := by decide +kernel
theorem dX9_setQuery_34 : decode cX9_setQuery 34 = .ok (.bipush 7, 2) := by decide +kernel
theorem dX9_setQuery_36 : decode cX9_setQuery 36 = .ok (.invokestatic 51, 3) := by decide +kernel
theorem dX9_setQuery_39 : decode cX9_setQuery 39 = .ok (.ifCond .eq 18, 3) := by decide +kernel
theorem dX9_setQuery_42 : decode cX9_setQuery 42 = .ok (.iload 4, 2) := by decide +kernel
theorem dX9_setQuery_44 : decode cX9_setQuery 44 = .ok (.i2l, 1) := by decide +kernel
theorem dX9_setQuery_45 : decode cX9_setQuery 45 = .ok (.iconst 0, 1) := by decide +kernel
theorem dX9_setQuery_46 : decode cX9_setQuery 46 = .ok (.iconst 3, 1) := by decide +kernel
theorem dX9_setQuery_47 : decode cX9_setQuery 47 = .ok (.invokestatic 51, 3) := by decide +kernel
theorem dX9_setQuery_50 : decode cX9_setQuery 50 = .ok (.ifCond .eq 7, 3) := by decide +kernel
theorem dX9_setQuery_53 : decode cX9_setQuery 53 = .ok (.iconst 1, 1) := by decide +kernel
theorem dX9_setQuery_54 : decode cX9_setQuery 54 = .ok (.goto 4, 3) := by decide +kernel
theorem dX9_setQuery_57 : decode cX9_setQuery 57 = .ok (.iconst 0, 1) := by decide +kernel
theorem dX9_setQuery_58 : decode cX9_setQuery 58 = .ok (.invokestatic 55, 3) := by decide +kernel
theorem dX9_setQuery_61 : decode cX9_setQuery 61 = .ok (.aload_n 0, 1) := by decide +kernel
theorem dX9_setQuery_62 : decode cX9_setQuery 62 = .ok (.getfield 39, 3) := by decide +kernel
theorem dX9_setQuery_65 : decode cX9_setQuery 65 = .ok (.istore 5, 2) := by decide +kernel
theorem dX9_setQuery_67 : decode cX9_setQuery 67 = .ok (.aload_n 0, 1) := by decide +kernel
theorem dX9_setQuery_68 : decode cX9_setQuery 68 = .ok (.iload_n 1, 1) := by decide +kernel
theorem dX9_setQuery_69 : decode cX9_setQuery 69 = .ok (.putfield 35, 3) := by decide +kernel
theorem dX9_setQuery_72 : decode cX9_setQuery 72 = .ok (.aload_n 0, 1) := by decide +kernel
theorem dX9_setQuery_73 : decode cX9_setQuery 73 = .ok (.iload_n 2, 1) := by decide +kernel
theorem dX9_setQuery_74 : decode cX9_setQuery 74 = .ok (.putfield 39, 3) := by decide +kernel
theorem dX9_setQuery_77 : decode cX9_setQuery 77 = .ok (.aload_n 0, 1) := by decide +kernel
theorem dX9_setQuery_78 : decode cX9_setQuery 78 = .ok (.iload_n 3, 1) := by decide +kernel
theorem dX9_setQuery_79 : decode cX9_setQuery 79 = .ok (.putfield 42, 3) := by decide +kernel
theorem dX9_setQuery_82 : decode cX9_setQuery 82 = .ok (.aload_n 0, 1) := by decide +kernel
theorem dX9_setQuery_83 : decode cX9_setQuery 83 = .ok (.iload 4, 2) := by decide +kernel
theorem dX9_setQuery_85 : decode cX9_setQuery 85 = .ok (.putfield 45, 3) := by decide +kernel
theorem dX9_setQuery_88 : decode cX9_setQuery 88 = .ok (.iload 5, 2) := by decide +kernel
theorem dX9_setQuery_90 : decode cX9_setQuery 90 = .ok (.ireturn, 1) := by decide +kernel
set_option maxRecDepth 20000 in
theorem ggX9_put_X9_chainAt : GoodIn wsX9_put wsX9_chainAt := goodIn_ca (goodIn_r _ [6, 7, 8, 9, 10, 11, 12, 13, 14, 15, 16, 17, 18, 19, 20, 21, 22, 23, 24, 25, 26, 27, 28, 29, 30, 31, 32, 33, 34, 183, 184, 185, 186, 187, 188, 189, 190, 191, 192, 193, 194, 195, 196, 197, 198, 199] (by decide +kernel) (by decide +kernel)) (goodIn_sub (fun _ h => List.mem_cons_of_mem _ (List.mem_append_left _ (List.mem_append_right _ h))) (by decide +kernel))
set_option maxRecDepth 20000 in
theorem gX9_put_X9_chainAt : GoodIn wsX9_put (wsV RX9 101 RX9 yX9_chainAt wsX9_chainAt) := goodIn_app (goodIn_of _ (by decide +kernel)) ggX9_put_X9_chainAt
set_option maxRecDepth 20000 in
theorem ggX9_put_X9_isTimeUpToNow : GoodIn wsX9_put wsX9_isTimeUpToNow := goodIn_r _ [38, 9, 39, 40, 41, 5, 42, 183, 184, 185, 186, 187, 188, 189, 190, 191, 192, 193, 194, 195, 196] (by decide +kernel) (by decide +kernel)
set_option maxRecDepth 20000 in
theorem gX9_put_X9_isTimeUpToNow : GoodIn wsX9_put (wsV RX9 105 RX9 yX9_isTimeUpToNow wsX9_isTimeUpToNow) := goodIn_app (goodIn_of _ (by decide +kernel)) ggX9_put_X9_isTimeUpToNow
set_option maxRecDepth 20000 in
theorem ggX9_put_X9_isValue : GoodIn wsX9_put wsX9_isValue := goodIn_r _ [45, 46, 47, 40, 41, 5, 42] (by decide +kernel) (by decide +kernel)
set_option maxRecDepth 20000 in
theorem gX9_put_X9_isValue : GoodIn wsX9_put (va_wsS RX9 109 yX9_isValue wsX9_isValue) := goodIn_app (goodIn_of _ (by decide +kernel)) ggX9_put_X9_isValue
set_option maxRecDepth 20000 in
theorem ggX9_put_X9_needArgument : GoodIn wsX9_put wsX9_needArgument := goodIn_ca (goodIn_r _ [50, 51, 52] (by decide +kernel) (by decide +kernel)) (goodIn_sub (fun _ h => List.mem_cons_of_mem _ (List.mem_append_right _ h)) (by decide +kernel))
set_option maxRecDepth 20000 in
theorem gX9_put_X9_needArgument : GoodIn wsX9_put (va_wsS RX9 55 yX9_needArgument wsX9_needArgument) := goodIn_app (goodIn_of _ (by decide +kernel)) ggX9_put_X9_needArgument
set_option maxRecDepth 20000 in
theorem ggX9_put_X9_putOrCountLate : GoodIn wsX9_put wsX9_putOrCountLate := goodIn_r _ [56, 1, 57, 58, 59, 60, 61, 62, 63, 64, 65, 66, 67, 68, 69, 70, 71, 72, 73, 74, 75, 76, 77, 78, 79, 80, 81, 82, 83, 84, 85, 86, 87, 88, 89, 90, 91, 92, 93, 94, 95, 96, 97, 98, 99, 100, 101, 102, 103, 104, 105, 106, 107, 108, 109, 110, 111, 112, 113, 114, 115, 116, 117, 118, 119, 120, 121, 122, 123, 124, 125, 126, 127, 128, 129, 130, 131, 132, 133, 134, 135, 136, 137, 138, 139, 140, 141, 142, 143, 144, 145, 146, 147, 148, 149, 150, 151, 152, 153, 154, 155, 156, 157, 158, 159, 160, 161, 162, 163, 164, 165, 166, 167, 168, 169, 170, 171, 172, 173, 174, 175, 176, 178, 179, 180, 181, 182, 183, 184, 185, 186, 187, 188, 189, 190, 191, 200, 201, 202, 203, 204, 205, 206, 207, 208, 209, 210, 211, 212, 213] (by decide +kernel) (by decide +kernel)
set_option maxRecDepth 20000 in
theorem gX9_put_X9_putOrCountLate : GoodIn wsX9_put (wsV RX9 112 RX9 yX9_putOrCountLate wsX9_putOrCountLate) := goodIn_app (goodIn_of _ (by decide +kernel)) ggX9_put_X9_putOrCountLate
set_option maxRecDepth 20000 in
theorem ggX9_put_X4_openSize : GoodIn wsX9_put wsX4_openSize := goodIn_r _ [104, 76, 77, 82, 212, 213, 200, 201, 202, 203, 204, 205, 206] (by decide +kernel) (by decide +kernel)
set_option maxRecDepth 20000 in
theorem gX9_put_X4_openSize : GoodIn wsX9_put (wsV RX9 120 RX4 yX4_openSize wsX4_openSize) := goodIn_app (goodIn_of _ (by decide +kernel)) ggX9_put_X4_openSize
theorem dX9_put_0 : decode cX9_put 0 = .ok (.aload_n 0, 1) := by decide +kernel
theorem dX9_put_1 : decode cX9_put 1 = .ok (.iload_n 1, 1) := by decide +kernel
theorem dX9_put_2 : decode cX9_put 2 = .ok (.invokevirtual 101, 3) := by decide +kernel
theorem dX9_put_5 : decode cX9_put 5 = .ok (.astore 4, 2) := by decide +kernel
theorem dX9_put_7 : decode cX9_put 7 = .ok (.aload_n 0, 1) := by decide +kernel
theorem dX9_put_8 : decode cX9_put 8 = .ok (.iload_n 2, 1) := by decide +kernel
theorem dX9_put_9 : decode cX9_put 9 = .ok (.i2l, 1) := by decide +kernel
theorem dX9_put_10 : decode cX9_put 10 = .ok (.invokevirtual 105, 3) := by decide +kernel
theorem dX9_put_13 : decode cX9_put 13 = .ok (.ifCond .eq 15, 3) := by decide +kernel
theorem dX9_put_16 : decode cX9_put 16 = .ok (.iload_n 3, 1) := by decide +kernel
theorem dX9_put_17 : decode cX9_put 17 = .ok (.i2l, 1) := by decide +kernel
theorem dX9_put_18 : decode cX9_put 18 = .ok (.invokestatic 109, 3) := by decide +kernel
theorem dX9_put_21 : decode cX9_put 21 = .ok (.ifCond .eq 7, 3) := by decide +kernel
theorem dX9_put_24 : decode cX9_put 24 = .ok (.iconst 1, 1) := by decide +kernel
theorem dX9_put_25 : decode cX9_put 25 = .ok (.goto 4, 3) := by decide +kernel
theorem dX9_put_28 : decode cX9_put 28 = .ok (.iconst 0, 1) := by decide +kernel
theorem dX9_put_29 : decode cX9_put 29 = .ok (.invokestatic 55, 3) := by decide +kernel
theorem dX9_put_32 : decode cX9_put 32 = .ok (.aload_n 0, 1) := by decide +kernel
theorem dX9_put_33 : decode cX9_put 33 = .ok (.aload 4, 2) := by decide +kernel
theorem dX9_put_35 : decode cX9_put 35 = .ok (.iload_n 2, 1) := by decide +kernel
theorem dX9_put_36 : decode cX9_put 36 = .ok (.iload_n 3, 1) := by decide +kernel
theorem dX9_put_37 : decode cX9_put 37 = .ok (.invokevirtual 112, 3) := by decide +kernel
theorem dX9_put_40 : decode cX9_put 40 = .ok (.ifCond .ne 5, 3) := by decide +kernel
theorem dX9_put_43 : decode cX9_put 43 = .ok (.iconst (-1), 1) := by decide +kernel
theorem dX9_put_44 : decode cX9_put 44 = .ok (.ireturn, 1) := by decide +kernel
theorem dX9_put_45 : decode cX9_put 45 = .ok (.aload 4, 2) := by decide +kernel
theorem dX9_put_47 : decode cX9_put 47 = .ok (.getfield 116, 3) := by decide +kernel
theorem dX9_put_50 : decode cX9_put 50 = .ok (.invokevirtual 120, 3) := by decide +kernel
theorem dX9_put_53 : decode cX9_put 53 = .ok (.ireturn, 1) := by decide +kernel
set_option maxRecDepth 20000 in
theorem ggX9_goOn_X9_canGoOn : GoodIn wsX9_goOn wsX9_canGoOn := goodIn_r _ [8, 1, 9, 10, 11, 12, 7, 13, 243, 244, 245, 246, 247, 248, 249, 250, 251, 252, 253, 254, 255, 256] (by decide +kernel) (by decide +kernel)
set_option maxRecDepth 20000 in
theorem gX9_goOn_X9_canGoOn : GoodIn wsX9_goOn (wsV RX9 125 RX9 yX9_canGoOn wsX9_canGoOn) := goodIn_app (goodIn_of _ (by decide +kernel)) ggX9_goOn_X9_canGoOn
set_option maxRecDepth 20000 in
theorem ggX9_goOn_X9_needArgument : GoodIn wsX9_goOn wsX9_needArgument := goodIn_ca (goodIn_r _ [16, 17, 18] (by decide +kernel) (by decide +kernel)) (goodIn_sub (fun _ h => List.mem_cons_of_mem _ (List.mem_append_right _ h)) (by decide +kernel))
set_option maxRecDepth 20000 in
theorem gX9_goOn_X9_needArgument : GoodIn wsX9_goOn (va_wsS RX9 55 yX9_needArgument wsX9_needArgument) := goodIn_app (goodIn_of _ (by decide +kernel)) ggX9_goOn_X9_needArgument
set_option maxRecDepth 20000 in
theorem ggX9_goOn_X8_goOnByOne : GoodIn wsX9_goOn wsX8_goOnByOne := goodIn_r _ [23, 24, 25, 26, 27, 28, 29, 30, 31, 32, 33, 34, 35, 36, 37, 38, 39, 40, 41, 42, 43, 44, 45, 46, 47, 48, 49, 50, 51, 52, 53, 54, 55, 56, 57, 58, 59, 60, 61, 62, 63, 64, 65, 66, 67, 68, 69, 70, 71, 72, 73, 74, 75, 76, 77, 78, 79, 80, 81, 82, 83, 84, 85, 86, 87, 88, 89, 90, 91, 92, 93, 94, 95, 96, 97, 98, 99, 100, 101, 102, 103, 104, 105, 106, 107, 108, 109, 110, 111, 112, 113, 114, 115, 116, 117, 118, 119, 120, 121, 122, 123, 124, 125, 126, 127, 128, 129, 130, 131, 132, 133, 134, 135, 136, 137, 138, 139, 140, 141, 142, 143, 144, 145, 146, 147, 148, 149, 150, 151, 152, 153, 154, 155, 156, 157, 158, 159, 160, 161, 162, 163, 164, 165, 166, 167, 168, 169, 170, 171, 172, 173, 174, 175, 176, 177, 178, 179, 180, 181, 182, 183, 184, 185, 186, 187, 188, 189, 190, 191, 192, 193, 194, 195, 196, 197, 198, 199, 200, 201, 202, 203, 204, 205, 206, 207, 208, 209, 210, 211, 212, 213, 214, 215, 216, 217, 218, 219, 220, 221, 222, 223, 224, 225, 226, 227, 228, 229, 230, 231, 232, 233, 234, 235, 236, 237, 238, 239, 240, 241, 242, 252, 253, 254, 255, 256, 260, 261, 262, 263, 264, 265, 266, 267, 268, 269, 270, 271, 272, 273, 274, 275, 276, 277, 278, 279, 280, 281, 282, 283, 284, 285, 286, 287, 288, 289, 290, 257, 258, 259] (by decide +kernel) (by decide +kernel)
set_option maxRecDepth 20000 in
theorem gX9_goOn_X8_goOnByOne : GoodIn wsX9_goOn (wsV RX9 138 RX8 yX8_goOnByOne wsX8_goOnByOne) := goodIn_app (goodIn_of _ (by decide +kernel)) ggX9_goOn_X8_goOnByOne
theorem dX9_goOn_0 : decode cX9_goOn 0 = .ok (.aload_n 0, 1) := by decide +kernel
theorem dX9_goOn_1 : decode cX9_goOn 1 = .ok (.iload_n 1, 1) := by decide +kernel
theorem dX9_goOn_2 : decode cX9_goOn 2 = .ok (.invokevirtual 125, 3) := by decide +kernel
theorem dX9_goOn_5 : decode cX9_goOn 5 = .ok (.invokestatic 55, 3) := by decide +kernel
theorem dX9_goOn_8 : decode cX9_goOn 8 = .ok (.aload_n 0, 1) := by decide +kernel
theorem dX9_goOn_9 : decode cX9_goOn 9 = .ok (.getfield 21, 3) := by decide +kernel
theorem dX9_goOn_12 : decode cX9_goOn 12 = .ok (.getfield 129, 3) := by decide +kernel
theorem dX9_goOn_15 : decode cX9_goOn 15 = .ok (.getfield 133, 3) := by decide +kernel
theorem dX9_goOn_18 : decode cX9_goOn 18 = .ok (.istore_n 2, 1) := by decide +kernel
theorem dX9_goOn_19 : decode cX9_goOn 19 = .ok (.iconst 0, 1) := by decide +kernel
theorem dX9_goOn_20 : decode cX9_goOn 20 = .ok (.istore_n 3, 1) := by decide +kernel
theorem dX9_goOn_21 : decode cX9_goOn 21 = .ok (.iload_n 3, 1) := by decide +kernel
theorem dX9_goOn_22 : decode cX9_goOn 22 = .ok (.iload_n 1, 1) := by decide +kernel
theorem dX9_goOn_23 : decode cX9_goOn 23 = .ok (.if_icmp .ge 16, 3) := by decide +kernel
theorem dX9_goOn_26 : decode cX9_goOn 26 = .ok (.aload_n 0, 1) := by decide +kernel
theorem dX9_goOn_27 : decode cX9_goOn 27 = .ok (.getfield 21, 3) := by decide +kernel
theorem dX9_goOn_30 : decode cX9_goOn 30 = .ok (.invokevirtual 138, 3) := by decide +kernel
theorem dX9_goOn_33 : decode cX9_goOn 33 = .ok (.iinc 3 1, 3) := by decide +kernel
theorem dX9_goOn_36 : decode cX9_goOn 36 = .ok (.goto (-15), 3) := by decide +kernel
theorem dX9_goOn_39 : decode cX9_goOn 39 = .ok (.aload_n 0, 1) := by decide +kernel
theorem dX9_goOn_40 : decode cX9_goOn 40 = .ok (.getfield 21, 3) := by decide +kernel
theorem dX9_goOn_43 : decode cX9_goOn 43 = .ok (.getfield 129, 3) := by decide +kernel
theorem dX9_goOn_46 : decode cX9_goOn 46 = .ok (.getfield 133, 3) := by decide +kernel
theorem dX9_goOn_49 : decode cX9_goOn 49 = .ok (.iload_n 2, 1) := by decide +kernel
theorem dX9_goOn_50 : decode cX9_goOn 50 = .ok (.isub, 1) := by decide +kernel
theorem dX9_goOn_51 : decode cX9_goOn 51 = .ok (.ireturn, 1) := by decide +kernel
theorem dX9_now_0 : decode cX9_now 0 = .ok (.aload_n 0, 1) := by decide +kernel
theorem dX9_now_1 : decode cX9_now 1 = .ok (.getfield 21, 3) := by decide +kernel
theorem dX9_now_4 : decode cX9_now 4 = .ok (.getfield 141, 3) := by decide +kernel
theorem dX9_now_7 : decode cX9_now 7 = .ok (.ireturn, 1) := by decide +kernel
theorem dX9_late_0 : decode cX9_late 0 = .ok (.aload_n 0, 1) := by decide +kernel
theorem dX9_late_1 : decode cX9_late 1 = .ok (.getfield 48, 3) := by decide +kernel
theorem dX9_late_4 : decode cX9_late 4 = .ok (.ireturn, 1) := by decide +kernel
set_option maxRecDepth 20000 in
theorem ggX9_blocks_X9_chainAt : GoodIn wsX9_blocks wsX9_chainAt := goodIn_ca (goodIn_r _ [6, 7, 8, 9, 10, 11, 12, 13, 14, 15, 16, 17, 18, 19, 20, 21, 22, 23, 24, 25, 26, 27, 28, 29, 30, 31, 32, 33, 34, 46, 47, 48, 49, 50, 51, 52, 53, 54, 55, 56, 57, 58, 59, 60, 61, 62] (by decide +kernel) (by decide +kernel)) (goodIn_sub (fun _ h => List.mem_cons_of_mem _ (List.mem_append_right _ h)) (by decide +kernel))
set_option maxRecDepth 20000 in
theorem gX9_blocks_X9_chainAt : GoodIn wsX9_blocks (wsV RX9 101 RX9 yX9_chainAt wsX9_chainAt) := goodIn_app (goodIn_of _ (by decide +kernel)) ggX9_blocks_X9_chainAt
set_option maxRecDepth 20000 in
theorem ggX9_blocks_X4_blockCount : GoodIn wsX9_blocks wsX4_blockCount := goodIn_r _ [39, 40, 63, 64, 65, 66, 67, 68, 69] (by decide +kernel) (by decide +kernel)
set_option maxRecDepth 20000 in
theorem gX9_blocks_X4_blockCount : GoodIn wsX9_blocks (wsV RX9 144 RX4 yX4_blockCount wsX4_blockCount) := goodIn_app (goodIn_of _ (by decide +kernel)) ggX9_blocks_X4_blockCount
theorem dX9_blocks_0 : decode cX9_blocks 0 = .ok (.aload_n 0, 1) := by decide +kernel
theorem dX9_blocks_1 : decode cX9_blocks 1 = .ok (.iload_n 1, 1) := by decide +kernel
theorem dX9_blocks_2 : decode cX9_blocks 2 = .ok (.invokevirtual 101, 3) := by decide +kernel
theorem dX9_blocks_5 : decode cX9_blocks 5 = .ok (.getfield 116, 3) := by decide +kernel
theorem dX9_blocks_8 : decode cX9_blocks 8 = .ok (.invokevirtual 144, 3) := by decide +kernel
theorem dX9_blocks_11 : decode cX9_blocks 11 = .ok (.ireturn, 1) := by decide +kernel
set_option maxRecDepth 20000 in
theorem ggX9_size_X9_chainAt : GoodIn wsX9_size wsX9_chainAt := goodIn_ca (goodIn_r _ [7, 8, 9, 10, 11, 12, 13, 14, 15, 16, 17, 18, 19, 20, 21, 22, 23, 24, 25, 26, 27, 28, 29, 30, 31, 32, 33, 34, 35, 68, 69, 70, 71, 72, 73, 74, 75, 76, 77, 78, 79, 80, 81, 82, 83, 84] (by decide +kernel) (by decide +kernel)) (goodIn_sub (fun _ h => List.mem_cons_of_mem _ (List.mem_append_right _ h)) (by decide +kernel))
set_option maxRecDepth 20000 in
theorem gX9_size_X9_chainAt : GoodIn wsX9_size (wsV RX9 101 RX9 yX9_chainAt wsX9_chainAt) := goodIn_app (goodIn_of _ (by decide +kernel)) ggX9_size_X9_chainAt
set_option maxRecDepth 20000 in
theorem ggX9_size_X9_isIn : GoodIn wsX9_size wsX9_isIn := goodIn_r _ [38] (by decide +kernel) (by decide +kernel)
set_option maxRecDepth 20000 in
theorem gX9_size_X9_isIn : GoodIn wsX9_size (va_wsS RX9 51 yX9_isIn wsX9_isIn) := goodIn_app (goodIn_of _ (by decide +kernel)) ggX9_size_X9_isIn
set_option maxRecDepth 20000 in
theorem ggX9_size_X9_needIndex : GoodIn wsX9_size wsX9_needIndex := goodIn_ca (goodIn_r _ [41, 8, 9] (by decide +kernel) (by decide +kernel)) (goodIn_sub (fun _ h => List.mem_cons_of_mem _ (List.mem_append_right _ h)) (by decide +kernel))
set_option maxRecDepth 20000 in
theorem gX9_size_X9_needIndex : GoodIn wsX9_size (va_wsS RX9 150 yX9_needIndex wsX9_needIndex) := goodIn_app (goodIn_of _ (by decide +kernel)) ggX9_size_X9_needIndex
set_option maxRecDepth 20000 in
theorem ggX9_size_X4_sizeOf : GoodIn wsX9_size wsX4_sizeOf := goodIn_r _ [46, 47, 48, 49, 50, 51, 45, 52, 53, 54, 55, 61, 62, 63, 64, 65, 66, 67, 85, 86] (by decide +kernel) (by decide +kernel)
set_option maxRecDepth 20000 in
theorem gX9_size_X4_sizeOf : GoodIn wsX9_size (wsV RX9 153 RX4 yX4_sizeOf wsX4_sizeOf) := goodIn_app (goodIn_of _ (by decide +kernel)) ggX9_size_X4_sizeOf
theorem dX9_size_0 : decode cX9_size 0 = .ok (.aload_n 0, 1) := by decide +kernel
theorem dX9_size_1 : decode cX9_size 1 = .ok (.iload_n 1, 1) := by decide +kernel
theorem dX9_size_2 : decode cX9_size 2 = .ok (.invokevirtual 101, 3) := by decide +kernel
theorem dX9_size_5 : decode cX9_size 5 = .ok (.getfield 116, 3) := by decide +kernel
theorem dX9_size_8 : decode cX9_size 8 = .ok (.astore_n 3, 1) := by decide +kernel
theorem dX9_size_9 : decode cX9_size 9 = .ok (.iload_n 2, 1) := by decide +kernel
theorem dX9_size_10 : decode cX9_size 10 = .ok (.i2l, 1) := by decide +kernel
theorem dX9_size_11 : decode cX9_size 11 = .ok (.iconst 0, 1) := by decide +kernel
theorem dX9_size_12 : decode cX9_size 12 = .ok (.aload_n 3, 1) := by decide +kernel
theorem dX9_size_13 : decode cX9_size 13 = .ok (.getfield 147, 3) := by decide +kernel
theorem dX9_size_16 : decode cX9_size 16 = .ok (.invokestatic 51, 3) := by decide +kernel
theorem dX9_size_19 : decode cX9_size 19 = .ok (.invokestatic 150, 3) := by decide +kernel
theorem dX9_size_22 : decode cX9_size 22 = .ok (.aload_n 3, 1) := by decide +kernel
theorem dX9_size_23 : decode cX9_size 23 = .ok (.iload_n 2, 1) := by decide +kernel
theorem dX9_size_24 : decode cX9_size 24 = .ok (.invokevirtual 153, 3) := by decide +kernel
theorem dX9_size_27 : decode cX9_size 27 = .ok (.ireturn, 1) := by decide +kernel
set_option maxRecDepth 20000 in
theorem ggX9_point_X9_chainAt : GoodIn wsX9_point wsX9_chainAt := goodIn_ca (goodIn_r _ [7, 8, 9, 10, 11, 12, 13, 14, 15, 16, 17, 18, 19, 20, 21, 22, 23, 24, 25, 26, 27, 28, 29, 30, 31, 32, 33, 34, 35, 79, 80, 81, 82, 83, 84, 85, 86, 87, 88, 89, 90, 91, 92, 93, 94, 95] (by decide +kernel) (by decide +kernel)) (goodIn_sub (fun _ h => List.mem_cons_of_mem _ (List.mem_append_right _ h)) (by decide +kernel))
set_option maxRecDepth 20000 in
theorem gX9_point_X9_chainAt : GoodIn wsX9_point (wsV RX9 101 RX9 yX9_chainAt wsX9_chainAt) := goodIn_app (goodIn_of _ (by decide +kernel)) ggX9_point_X9_chainAt
set_option maxRecDepth 20000 in
theorem ggX9_point_X9_isIn : GoodIn wsX9_point wsX9_isIn := goodIn_r _ [38] (by decide +kernel) (by decide +kernel)
set_option maxRecDepth 20000 in
theorem gX9_point_X9_isIn : GoodIn wsX9_point (va_wsS RX9 51 yX9_isIn wsX9_isIn) := goodIn_app (goodIn_of _ (by decide +kernel)) ggX9_point_X9_isIn
set_option maxRecDepth 20000 in
theorem ggX9_point_X9_needIndex : GoodIn wsX9_point wsX9_needIndex := goodIn_ca (goodIn_r _ [41, 8, 9] (by decide +kernel) (by decide +kernel)) (goodIn_sub (fun _ h => List.mem_cons_of_mem _ (List.mem_append_right _ h)) (by decide +kernel))
set_option maxRecDepth 20000 in
theorem gX9_point_X9_needIndex : GoodIn wsX9_point (va_wsS RX9 150 yX9_needIndex wsX9_needIndex) := goodIn_app (goodIn_of _ (by decide +kernel)) ggX9_point_X9_needIndex
set_option maxRecDepth 20000 in
theorem ggX9_point_X4_sizeOf : GoodIn wsX9_point wsX4_sizeOf := goodIn_r _ [46, 47, 48, 49, 50, 51, 45, 52, 53, 54, 55, 72, 73, 74, 75, 76, 77, 78, 96, 97] (by decide +kernel) (by decide +kernel)
set_option maxRecDepth 20000 in
theorem gX9_point_X4_sizeOf : GoodIn wsX9_point (wsV RX9 153 RX4 yX4_sizeOf wsX4_sizeOf) := goodIn_app (goodIn_of _ (by decide +kernel)) ggX9_point_X4_sizeOf
set_option maxRecDepth 20000 in
theorem ggX9_point_X4_startOf : GoodIn wsX9_point wsX4_startOf := goodIn_r _ [59, 47, 60, 43, 44, 45, 46, 48, 49, 50, 51, 52, 53, 54, 55, 72, 73, 74, 75, 76, 77, 78, 96, 97] (by decide +kernel) (by decide +kernel)
set_option maxRecDepth 20000 in
theorem gX9_point_X4_startOf : GoodIn wsX9_point (wsV RX9 157 RX4 yX4_startOf wsX4_startOf) := goodIn_app (goodIn_of _ (by decide +kernel)) ggX9_point_X4_startOf
set_option maxRecDepth 20000 in
theorem ggX9_point_X4_number : GoodIn wsX9_point wsX4_number := goodIn_r _ [64, 65, 66, 72, 73, 74, 75, 76, 77, 78] (by decide +kernel) (by decide +kernel)
set_option maxRecDepth 20000 in
theorem gX9_point_X4_number : GoodIn wsX9_point (wsV RX9 160 RX4 yX4_number wsX4_number) := goodIn_app (goodIn_of _ (by decide +kernel)) ggX9_point_X4_number
theorem dX9_point_0 : decode cX9_point 0 = .ok (.aload_n 0, 1) := by decide +kernel
theorem dX9_point_1 : decode cX9_point 1 = .ok (.iload_n 1, 1) := by decide +kernel
theorem dX9_point_2 : decode cX9_point 2 = .ok (.invokevirtual 101, 3) := by decide +kernel
theorem dX9_point_5 : decode cX9_point 5 = .ok (.getfield 116, 3) := by decide +kernel
theorem dX9_point_8 : decode cX9_point 8 = .ok (.astore 5, 2) := by decide +kernel
theorem dX9_point_10 : decode cX9_point 10 = .ok (.iload_n 2, 1) := by decide +kernel
theorem dX9_point_11 : decode cX9_point 11 = .ok (.i2l, 1) := by decide +kernel
theorem dX9_point_12 : decode cX9_point 12 = .ok (.iconst 0, 1) := by decide +kernel
theorem dX9_point_13 : decode cX9_point 13 = .ok (.aload 5, 2) := by decide +kernel
theorem dX9_point_15 : decode cX9_point 15 = .ok (.getfield 147, 3) := by decide +kernel
theorem dX9_point_18 : decode cX9_point 18 = .ok (.invokestatic 51, 3) := by decide +kernel
theorem dX9_point_21 : decode cX9_point 21 = .ok (.invokestatic 150, 3) := by decide +kernel
theorem dX9_point_24 : decode cX9_point 24 = .ok (.iload_n 3, 1) := by decide +kernel
theorem dX9_point_25 : decode cX9_point 25 = .ok (.i2l, 1) := by decide +kernel
theorem dX9_point_26 : decode cX9_point 26 = .ok (.iconst 0, 1) := by decide +kernel
theorem dX9_point_27 : decode cX9_point 27 = .ok (.aload 5, 2) := by decide +kernel
theorem dX9_point_29 : decode cX9_point 29 = .ok (.iload_n 2, 1) := by decide +kernel
theorem dX9_point_30 : decode cX9_point 30 = .ok (.invokevirtual 153, 3) := by decide +kernel
theorem dX9_point_33 : decode cX9_point 33 = .ok (.iconst 1, 1) := by decide +kernel
theorem dX9_point_34 : decode cX9_point 34 = .ok (.isub, 1) := by decide +kernel
theorem dX9_point_35 : decode cX9_point 35 = .ok (.invokestatic 51, 3) := by decide +kernel
theorem dX9_point_38 : decode cX9_point 38 = .ok (.invokestatic 150, 3) := by decide +kernel
theorem dX9_point_41 : decode cX9_point 41 = .ok (.aload 5, 2) := by decide +kernel
theorem dX9_point_43 : decode cX9_point 43 = .ok (.aload 5, 2) := by decide +kernel
theorem dX9_point_45 : decode cX9_point 45 = .ok (.iload_n 2, 1) := by decide +kernel
theorem dX9_point_46 : decode cX9_point 46 = .ok (.invokevirtual 157, 3) := by decide +kernel
theorem dX9_point_49 : decode cX9_point 49 = .ok (.iload_n 3, 1) := by decide +kernel
theorem dX9_point_50 : decode cX9_point 50 = .ok (.iadd, 1) := by decide +kernel
theorem dX9_point_51 : decode cX9_point 51 = .ok (.iload 4, 2) := by decide +kernel
theorem dX9_point_53 : decode cX9_point 53 = .ok (.ifCond .eq 7, 3) := by decide +kernel
theorem dX9_point_56 : decode cX9_point 56 = .ok (.iconst 5, 1) := by decide +kernel
theorem dX9_point_57 : decode cX9_point 57 = .ok (.goto 4, 3) := by decide +kernel
theorem dX9_point_60 : decode cX9_point 60 = .ok (.iconst 0, 1) := by decide +kernel
theorem dX9_point_61 : decode cX9_point 61 = .ok (.invokevirtual 160, 3) := by decide +kernel
theorem dX9_point_64 : decode cX9_point 64 = .ok (.ireturn, 1) := by decide +kernel
set_option maxRecDepth 20000 in
theorem ggX9_bits_X9_chainAt : GoodIn wsX9_bits wsX9_chainAt := goodIn_ca (goodIn_r _ [8, 9, 10, 11, 12, 13, 14, 15, 16, 17, 18, 19, 20, 21, 22, 23, 24, 25, 26, 27, 28, 29, 30, 31, 32, 33, 34, 35, 36, 118, 119, 120, 121, 122, 123, 124, 125, 126, 127, 128, 129, 130, 131, 132, 133, 134] (by decide +kernel) (by decide +kernel)) (goodIn_sub (fun _ h => List.mem_cons_of_mem _ (List.mem_append_right _ h)) (by decide +kernel))
set_option maxRecDepth 20000 in
theorem gX9_bits_X9_chainAt : GoodIn wsX9_bits (wsV RX9 101 RX9 yX9_chainAt wsX9_chainAt) := goodIn_app (goodIn_of _ (by decide +kernel)) ggX9_bits_X9_chainAt
set_option maxRecDepth 20000 in
theorem ggX9_bits_X9_isIn : GoodIn wsX9_bits wsX9_isIn := goodIn_r _ [39] (by decide +kernel) (by decide +kernel)
set_option maxRecDepth 20000 in
theorem gX9_bits_X9_isIn : GoodIn wsX9_bits (va_wsS RX9 51 yX9_isIn wsX9_isIn) := goodIn_app (goodIn_of _ (by decide +kernel)) ggX9_bits_X9_isIn
set_option maxRecDepth 20000 in
theorem ggX9_bits_X9_needIndex : GoodIn wsX9_bits wsX9_needIndex := goodIn_ca (goodIn_r _ [42, 9, 10] (by decide +kernel) (by decide +kernel)) (goodIn_sub (fun _ h => List.mem_cons_of_mem _ (List.mem_append_right _ h)) (by decide +kernel))
set_option maxRecDepth 20000 in
theorem gX9_bits_X9_needIndex : GoodIn wsX9_bits (va_wsS RX9 150 yX9_needIndex wsX9_needIndex) := goodIn_app (goodIn_of _ (by decide +kernel)) ggX9_bits_X9_needIndex
set_option maxRecDepth 20000 in
theorem ggX9_bits_X3_pack : GoodIn wsX9_bits wsX3_pack := goodIn_r _ [47, 48, 49, 50, 51, 52, 53, 54, 55, 56, 57, 58, 59, 60, 61, 62, 63, 64, 65, 66, 67, 68, 69, 70, 71, 46, 72, 73, 74, 75, 76, 77, 78, 79, 80, 81, 82, 83, 84, 85, 86, 87, 88, 89, 90, 91, 92, 93, 94, 95, 96, 97, 98, 99, 100, 38, 7, 39, 101, 102, 103, 104, 105, 111, 112, 113, 114, 115, 116, 117, 135, 136, 137, 138, 139, 140, 141, 142] (by decide +kernel) (by decide +kernel)
set_option maxRecDepth 20000 in
theorem gX9_bits_X3_pack : GoodIn wsX9_bits (wsV RX9 164 RX3 yX3_pack wsX3_pack) := goodIn_app (goodIn_of _ (by decide +kernel)) ggX9_bits_X3_pack
theorem dX9_bits_0 : decode cX9_bits 0 = .ok (.aload_n 0, 1) := by decide +kernel
theorem dX9_bits_1 : decode cX9_bits 1 = .ok (.iload_n 1, 1) := by decide +kernel
theorem dX9_bits_2 : decode cX9_bits 2 = .ok (.invokevirtual 101, 3) := by decide +kernel
theorem dX9_bits_5 : decode cX9_bits 5 = .ok (.getfield 116, 3) := by decide +kernel
theorem dX9_bits_8 : decode cX9_bits 8 = .ok (.astore_n 3, 1) := by decide +kernel
theorem dX9_bits_9 : decode cX9_bits 9 = .ok (.iload_n 2, 1) := by decide +kernel
theorem dX9_bits_10 : decode cX9_bits 10 = .ok (.i2l, 1) := by decide +kernel
theorem dX9_bits_11 : decode cX9_bits 11 = .ok (.iconst 0, 1) := by decide +kernel
theorem dX9_bits_12 : decode cX9_bits 12 = .ok (.aload_n 3, 1) := by decide +kernel
theorem dX9_bits_13 : decode cX9_bits 13 = .ok (.getfield 147, 3) := by decide +kernel
theorem dX9_bits_16 : decode cX9_bits 16 = .ok (.invokestatic 51, 3) := by decide +kernel
theorem dX9_bits_19 : decode cX9_bits 19 = .ok (.invokestatic 150, 3) := by decide +kernel
theorem dX9_bits_22 : decode cX9_bits 22 = .ok (.aload_n 0, 1) := by decide +kernel
theorem dX9_bits_23 : decode cX9_bits 23 = .ok (.getfield 31, 3) := by decide +kernel
theorem dX9_bits_26 : decode cX9_bits 26 = .ok (.aload_n 3, 1) := by decide +kernel
theorem dX9_bits_27 : decode cX9_bits 27 = .ok (.iload_n 2, 1) := by decide +kernel
theorem dX9_bits_28 : decode cX9_bits 28 = .ok (.invokevirtual 164, 3) := by decide +kernel
theorem dX9_bits_31 : decode cX9_bits 31 = .ok (.ireturn, 1) := by decide +kernel
set_option maxRecDepth 20000 in
theorem ggX9_buckets_X9_chainAt : GoodIn wsX9_buckets wsX9_chainAt := goodIn_ca (goodIn_r _ [7, 8, 9, 10, 11, 12, 13, 14, 15, 16, 17, 18, 19, 20, 21, 22, 23, 24, 25, 26, 27, 28, 29, 30, 31, 32, 33, 34, 35, 52, 53, 54, 55, 56, 57, 58, 59, 60, 61, 62, 63, 64, 65, 66, 67, 68] (by decide +kernel) (by decide +kernel)) (goodIn_sub (fun _ h => List.mem_cons_of_mem _ (List.mem_append_right _ h)) (by decide +kernel))
set_option maxRecDepth 20000 in
theorem gX9_buckets_X9_chainAt : GoodIn wsX9_buckets (wsV RX9 101 RX9 yX9_chainAt wsX9_chainAt) := goodIn_app (goodIn_of _ (by decide +kernel)) ggX9_buckets_X9_chainAt
set_option maxRecDepth 20000 in
theorem ggX9_buckets_X6_bucketsOf : GoodIn wsX9_buckets wsX6_bucketsOf := goodIn_r _ [40, 41, 42, 69, 70, 71, 72, 73] (by decide +kernel) (by decide +kernel)
set_option maxRecDepth 20000 in
theorem gX9_buckets_X6_bucketsOf : GoodIn wsX9_buckets (wsV RX9 174 RX6 yX6_bucketsOf wsX6_bucketsOf) := goodIn_app (goodIn_of _ (by decide +kernel)) ggX9_buckets_X6_bucketsOf
theorem dX9_buckets_0 : decode cX9_buckets 0 = .ok (.aload_n 0, 1) := by decide +kernel
theorem dX9_buckets_1 : decode cX9_buckets 1 = .ok (.iload_n 1, 1) := by decide +kernel
theorem dX9_buckets_2 : decode cX9_buckets 2 = .ok (.invokevirtual 101, 3) := by decide +kernel
theorem dX9_buckets_5 : decode cX9_buckets 5 = .ok (.iload_n 2, 1) := by decide +kernel
theorem dX9_buckets_6 : decode cX9_buckets 6 = .ok (.invokevirtual 174, 3) := by decide +kernel
theorem dX9_buckets_9 : decode cX9_buckets 9 = .ok (.getfield 178, 3) := by decide +kernel
theorem dX9_buckets_12 : decode cX9_buckets 12 = .ok (.ireturn, 1) := by decide +kernel
set_option maxRecDepth 20000 in
theorem ggX9_ofBucket_X9_chainAt : GoodIn wsX9_ofBucket wsX9_chainAt := goodIn_ca (goodIn_r _ [7, 8, 9, 10, 11, 12, 13, 14, 15, 16, 17, 18, 19, 20, 21, 22, 23, 24, 25, 26, 27, 28, 29, 30, 31, 32, 33, 34, 35, 69, 70, 71, 72, 73, 74, 75, 76, 77, 78, 79, 80, 81, 82, 83, 84, 85] (by decide +kernel) (by decide +kernel)) (goodIn_sub (fun _ h => List.mem_cons_of_mem _ (List.mem_append_left _ (List.mem_append_right _ h))) (by decide +kernel))
set_option maxRecDepth 20000 in
theorem gX9_ofBucket_X9_chainAt : GoodIn wsX9_ofBucket (wsV RX9 101 RX9 yX9_chainAt wsX9_chainAt) := goodIn_app (goodIn_of _ (by decide +kernel)) ggX9_ofBucket_X9_chainAt
set_option maxRecDepth 20000 in
theorem ggX9_ofBucket_X6_bucketsOf : GoodIn wsX9_ofBucket wsX6_bucketsOf := goodIn_r _ [40, 41, 42, 86, 87, 88, 89, 90] (by decide +kernel) (by decide +kernel)
set_option maxRecDepth 20000 in
theorem gX9_ofBucket_X6_bucketsOf : GoodIn wsX9_ofBucket (wsV RX9 174 RX6 yX6_bucketsOf wsX6_bucketsOf) := goodIn_app (goodIn_of _ (by decide +kernel)) ggX9_ofBucket_X6_bucketsOf
set_option maxRecDepth 20000 in
theorem ggX9_ofBucket_X9_isIn : GoodIn wsX9_ofBucket wsX9_isIn := goodIn_r _ [45] (by decide +kernel) (by decide +kernel)
set_option maxRecDepth 20000 in
theorem gX9_ofBucket_X9_isIn : GoodIn wsX9_ofBucket (va_wsS RX9 51 yX9_isIn wsX9_isIn) := goodIn_app (goodIn_of _ (by decide +kernel)) ggX9_ofBucket_X9_isIn
set_option maxRecDepth 20000 in
theorem ggX9_ofBucket_X9_needIndex : GoodIn wsX9_ofBucket wsX9_needIndex := goodIn_ca (goodIn_r _ [48, 8, 9] (by decide +kernel) (by decide +kernel)) (goodIn_sub (fun _ h => List.mem_cons_of_mem _ (List.mem_append_left _ (List.mem_append_right _ h))) (by decide +kernel))
set_option maxRecDepth 20000 in
theorem gX9_ofBucket_X9_needIndex : GoodIn wsX9_ofBucket (va_wsS RX9 150 yX9_needIndex wsX9_needIndex) := goodIn_app (goodIn_of _ (by decide +kernel)) ggX9_ofBucket_X9_needIndex
set_option maxRecDepth 20000 in
theorem ggX9_ofBucket_X9_needArgument : GoodIn wsX9_ofBucket wsX9_needArgument := goodIn_ca (goodIn_r _ [51, 52, 53] (by decide +kernel) (by decide +kernel)) (goodIn_sub (fun _ h => List.mem_cons_of_mem _ (List.mem_append_right _ h)) (by decide +kernel))
set_option maxRecDepth 20000 in
theorem gX9_ofBucket_X9_needArgument : GoodIn wsX9_ofBucket (va_wsS RX9 55 yX9_needArgument wsX9_needArgument) := goodIn_app (goodIn_of _ (by decide +kernel)) ggX9_ofBucket_X9_needArgument
set_option maxRecDepth 20000 in
theorem ggX9_ofBucket_X0_number : GoodIn wsX9_ofBucket wsX0_number := goodIn_r _ [58, 59, 60, 61] (by decide +kernel) (by decide +kernel)
set_option maxRecDepth 20000 in
theorem gX9_ofBucket_X0_number : GoodIn wsX9_ofBucket (wsV RX9 183 RX0 yX0_number wsX0_number) := goodIn_app (goodIn_of _ (by decide +kernel)) ggX9_ofBucket_X0_number
theorem dX9_ofBucket_0 : decode cX9_ofBucket 0 = .ok (.aload_n 0, 1) := by decide +kernel
theorem dX9_ofBucket_1 : decode cX9_ofBucket 1 = .ok (.iload_n 1, 1) := by decide +kernel
theorem dX9_ofBucket_2 : decode cX9_ofBucket 2 = .ok (.invokevirtual 101, 3) := by decide +kernel
theorem dX9_ofBucket_5 : decode cX9_ofBucket 5 = .ok (.iload_n 2, 1) := by decide +kernel
theorem dX9_ofBucket_6 : decode cX9_ofBucket 6 = .ok (.invokevirtual 174, 3) := by decide +kernel
theorem dX9_ofBucket_9 : decode cX9_ofBucket 9 = .ok (.astore 5, 2) := by decide +kernel
theorem dX9_ofBucket_11 : decode cX9_ofBucket 11 = .ok (.iload_n 3, 1) := by decide +kernel
theorem dX9_ofBucket_12 : decode cX9_ofBucket 12 = .ok (.i2l, 1) := by decide +kernel
theorem dX9_ofBucket_13 : decode cX9_ofBucket 13 = .ok (.iconst 0, 1) := by decide +kernel
theorem dX9_ofBucket_14 : decode cX9_ofBucket 14 = .ok (.aload 5, 2) := by decide +kernel
theorem dX9_ofBucket_16 : decode cX9_ofBucket 16 = .ok (.getfield 178, 3) := by decide +kernel
theorem dX9_ofBucket_19 : decode cX9_ofBucket 19 = .ok (.iconst 1, 1) := by decide +kernel
theorem dX9_ofBucket_20 : decode cX9_ofBucket 20 = .ok (.isub, 1) := by decide +kernel
theorem dX9_ofBucket_21 : decode cX9_ofBucket 21 = .ok (.invokestatic 51, 3) := by decide +kernel
theorem dX9_ofBucket_24 : decode cX9_ofBucket 24 = .ok (.invokestatic 150, 3) := by decide +kernel
theorem dX9_ofBucket_27 : decode cX9_ofBucket 27 = .ok (.iload 4, 2) := by decide +kernel
theorem dX9_ofBucket_29 : decode cX9_ofBucket 29 = .ok (.i2l, 1) := by decide +kernel
theorem dX9_ofBucket_30 : decode cX9_ofBucket 30 = .ok (.iconst 0, 1) := by decide +kernel
theorem dX9_ofBucket_31 : decode cX9_ofBucket 31 = .ok (.bipush 6, 2) := by decide +kernel
theorem dX9_ofBucket_33 : decode cX9_ofBucket 33 = .ok (.invokestatic 51, 3) := by decide +kernel
theorem dX9_ofBucket_36 : decode cX9_ofBucket 36 = .ok (.invokestatic 55, 3) := by decide +kernel
theorem dX9_ofBucket_39 : decode cX9_ofBucket 39 = .ok (.aload 5, 2) := by decide +kernel
theorem dX9_ofBucket_41 : decode cX9_ofBucket 41 = .ok (.iload_n 3, 1) := by decide +kernel
theorem dX9_ofBucket_42 : decode cX9_ofBucket 42 = .ok (.iload 4, 2) := by decide +kernel
theorem dX9_ofBucket_44 : decode cX9_ofBucket 44 = .ok (.invokevirtual 183, 3) := by decide +kernel
theorem dX9_ofBucket_47 : decode cX9_ofBucket 47 = .ok (.ireturn, 1) := by decide +kernel
set_option maxRecDepth 20000 in
theorem ggX9_items_X9_chainAt : GoodIn wsX9_items wsX9_chainAt := goodIn_ca (goodIn_r _ [5, 6, 7, 8, 9, 10, 11, 12, 13, 14, 15, 16, 17, 18, 19, 20, 21, 22, 23, 24, 25, 26, 27, 28, 29, 30, 31, 32, 33, 46, 47, 48, 49, 50, 51, 52, 53, 54, 55, 56, 57, 58, 59, 60, 61, 62] (by decide +kernel) (by decide +kernel)) (goodIn_sub (fun _ h => List.mem_cons_of_mem _ (List.mem_append_right _ h)) (by decide +kernel))
set_option maxRecDepth 20000 in
theorem gX9_items_X9_chainAt : GoodIn wsX9_items (wsV RX9 101 RX9 yX9_chainAt wsX9_chainAt) := goodIn_app (goodIn_of _ (by decide +kernel)) ggX9_items_X9_chainAt
set_option maxRecDepth 20000 in
theorem ggX9_items_X6_itemCount : GoodIn wsX9_items wsX6_itemCount := goodIn_r _ [38, 39, 40, 41, 42, 43, 44, 45, 63, 64, 65, 66, 67, 68, 69, 70, 71, 72, 73, 74, 75, 76] (by decide +kernel) (by decide +kernel)
set_option maxRecDepth 20000 in
theorem gX9_items_X6_itemCount : GoodIn wsX9_items (wsV RX9 184 RX6 yX6_itemCount wsX6_itemCount) := goodIn_app (goodIn_of _ (by decide +kernel)) ggX9_items_X6_itemCount
theorem dX9_items_0 : decode cX9_items 0 = .ok (.aload_n 0, 1) := by decide +kernel
theorem dX9_items_1 : decode cX9_items 1 = .ok (.iload_n 1, 1) := by decide +kernel
theorem dX9_items_2 : decode cX9_items 2 = .ok (.invokevirtual 101, 3) := by decide +kernel
theorem dX9_items_5 : decode cX9_items 5 = .ok (.invokevirtual 184, 3) := by decide +kernel
theorem dX9_items_8 : decode cX9_items 8 = .ok (.ireturn, 1) := by decide +kernel
set_option maxRecDepth 20000 in
theorem ggX9_ask_X9_chainAt : GoodIn wsX9_ask wsX9_chainAt := goodIn_ca (goodIn_r _ [5, 6, 7, 8, 9, 10, 11, 12, 13, 14, 15, 16, 17, 18, 19, 20, 21, 22, 23, 24, 25, 26, 27, 28, 29, 30, 31, 32, 33, 118, 119, 120, 121, 122, 123, 124, 125, 126, 127, 128, 129, 130, 131, 132, 133, 134] (by decide +kernel) (by decide +kernel)) (goodIn_sub (fun _ h => List.mem_cons_of_mem _ (List.mem_append_left _ (List.mem_append_right _ h))) (by decide +kernel))
set_option maxRecDepth 20000 in
theorem gX9_ask_X9_chainAt : GoodIn wsX9_ask (wsV RX9 101 RX9 yX9_chainAt wsX9_chainAt) := goodIn_app (goodIn_of _ (by decide +kernel)) ggX9_ask_X9_chainAt
set_option maxRecDepth 20000 in
theorem ggX9_ask_X9_isIn : GoodIn wsX9_ask wsX9_isIn := goodIn_r _ [36] (by decide +kernel) (by decide +kernel)
set_option maxRecDepth 20000 in
theorem gX9_ask_X9_isIn : GoodIn wsX9_ask (va_wsS RX9 51 yX9_isIn wsX9_isIn) := goodIn_app (goodIn_of _ (by decide +kernel)) ggX9_ask_X9_isIn
set_option maxRecDepth 20000 in
theorem ggX9_ask_X9_needArgument : GoodIn wsX9_ask wsX9_needArgument := goodIn_ca (goodIn_r _ [39, 40, 41] (by decide +kernel) (by decide +kernel)) (goodIn_sub (fun _ h => List.mem_cons_of_mem _ (List.mem_append_right _ h)) (by decide +kernel))
set_option maxRecDepth 20000 in
theorem gX9_ask_X9_needArgument : GoodIn wsX9_ask (va_wsS RX9 55 yX9_needArgument wsX9_needArgument) := goodIn_app (goodIn_of _ (by decide +kernel)) ggX9_ask_X9_needArgument
set_option maxRecDepth 20000 in
theorem ggX9_ask_X9_toldByQuery : GoodIn wsX9_ask wsX9_toldByQuery := goodIn_r _ [45, 46, 47, 48, 49, 50, 51, 52, 53, 54, 55, 56, 57, 58, 59, 60, 61, 62, 63, 64, 65, 66, 67, 68, 69, 70, 71, 72, 73, 74, 75, 76, 77, 78, 79, 80, 81, 82, 83, 84, 85, 86, 87, 88, 89, 90, 91, 92, 93, 94, 95, 96, 97, 98, 99, 100, 101, 102, 103, 104, 105, 106, 107, 108, 109, 110, 111, 112, 113, 114, 115, 116, 117, 118, 119, 120, 121, 122, 123, 124, 125, 126, 135, 136, 137, 138, 139, 140, 141, 142, 143, 144, 145, 146, 147, 148] (by decide +kernel) (by decide +kernel)
set_option maxRecDepth 20000 in
theorem gX9_ask_X9_toldByQuery : GoodIn wsX9_ask (wsV RX9 196 RX9 yX9_toldByQuery wsX9_toldByQuery) := goodIn_app (goodIn_of _ (by decide +kernel)) ggX9_ask_X9_toldByQuery
theorem dX9_ask_0 : decode cX9_ask 0 = .ok (.aload_n 0, 1) := by decide +kernel
theorem dX9_ask_1 : decode cX9_ask 1 = .ok (.iload_n 1, 1) := by decide +kernel
theorem dX9_ask_2 : decode cX9_ask 2 = .ok (.invokevirtual 101, 3) := by decide +kernel
theorem dX9_ask_5 : decode cX9_ask 5 = .ok (.astore_n 3, 1) := by decide +kernel
theorem dX9_ask_6 : decode cX9_ask 6 = .ok (.iload_n 2, 1) := by decide +kernel
theorem dX9_ask_7 : decode cX9_ask 7 = .ok (.i2l, 1) := by decide +kernel
theorem dX9_ask_8 : decode cX9_ask 8 = .ok (.iconst 0, 1) := by decide +kernel
theorem dX9_ask_9 : decode cX9_ask 9 = .ok (.sipush 1000, 3) := by decide +kernel
theorem dX9_ask_12 : decode cX9_ask 12 = .ok (.invokestatic 51, 3) := by decide +kernel
theorem dX9_ask_15 : decode cX9_ask 15 = .ok (.invokestatic 55, 3) := by decide +kernel
theorem dX9_ask_18 : decode cX9_ask 18 = .ok (.aload_n 0, 1) := by decide +kernel
theorem dX9_ask_19 : decode cX9_ask 19 = .ok (.aload_n 3, 1) := by decide +kernel
theorem dX9_ask_20 : decode cX9_ask 20 = .ok (.iload_n 2, 1) := by decide +kernel
theorem dX9_ask_21 : decode cX9_ask 21 = .ok (.invokevirtual 196, 3) := by decide +kernel
theorem dX9_ask_24 : decode cX9_ask 24 = .ok (.ireturn, 1) := by decide +kernel
set_option maxRecDepth 20000 in
theorem ggX9_lastAt_X9_chainAt : GoodIn wsX9_lastAt wsX9_chainAt := goodIn_ca (goodIn_r _ [6, 7, 8, 9, 10, 11, 12, 13, 14, 15, 16, 17, 18, 19, 20, 21, 22, 23, 24, 25, 26, 27, 28, 29, 30, 31, 32, 33, 34, 77, 78, 79, 80, 81, 82, 83, 84, 85, 86, 87, 88, 89, 90, 91, 92, 93] (by decide +kernel) (by decide +kernel)) (goodIn_sub (fun _ h => List.mem_cons_of_mem _ (List.mem_append_left _ (List.mem_append_right _ h))) (by decide +kernel))
set_option maxRecDepth 20000 in
theorem gX9_lastAt_X9_chainAt : GoodIn wsX9_lastAt (wsV RX9 101 RX9 yX9_chainAt wsX9_chainAt) := goodIn_app (goodIn_of _ (by decide +kernel)) ggX9_lastAt_X9_chainAt
set_option maxRecDepth 20000 in
theorem ggX9_lastAt_X9_isIn : GoodIn wsX9_lastAt wsX9_isIn := goodIn_r _ [37] (by decide +kernel) (by decide +kernel)
set_option maxRecDepth 20000 in
theorem gX9_lastAt_X9_isIn : GoodIn wsX9_lastAt (va_wsS RX9 51 yX9_isIn wsX9_isIn) := goodIn_app (goodIn_of _ (by decide +kernel)) ggX9_lastAt_X9_isIn
set_option maxRecDepth 20000 in
theorem ggX9_lastAt_X9_needArgument : GoodIn wsX9_lastAt wsX9_needArgument := goodIn_ca (goodIn_r _ [40, 41, 42] (by decide +kernel) (by decide +kernel)) (goodIn_sub (fun _ h => List.mem_cons_of_mem _ (List.mem_append_right _ h)) (by decide +kernel))
set_option maxRecDepth 20000 in
theorem gX9_lastAt_X9_needArgument : GoodIn wsX9_lastAt (va_wsS RX9 55 yX9_needArgument wsX9_needArgument) := goodIn_app (goodIn_of _ (by decide +kernel)) ggX9_lastAt_X9_needArgument
set_option maxRecDepth 20000 in
theorem ggX9_lastAt_X6_firstItemFrom : GoodIn wsX9_lastAt wsX6_firstItemFrom := goodIn_r _ [47, 48, 49, 50, 46, 51, 52, 53, 54, 55, 56, 57, 58, 59, 60, 61, 62, 63, 64, 65, 66, 67, 68, 69, 70, 71, 72, 73, 74, 75, 94, 95, 96, 97, 98, 99, 100, 101, 102, 103, 104, 105, 106, 107] (by decide +kernel) (by decide +kernel)
set_option maxRecDepth 20000 in
theorem gX9_lastAt_X6_firstItemFrom : GoodIn wsX9_lastAt (wsV RX9 209 RX6 yX6_firstItemFrom wsX6_firstItemFrom) := goodIn_app (goodIn_of _ (by decide +kernel)) ggX9_lastAt_X6_firstItemFrom
set_option maxRecDepth 20000 in
theorem ggX9_lastAt_X6_ofItem : GoodIn wsX9_lastAt wsX6_ofItem := goodIn_r _ [62, 52, 53, 54, 55, 56, 63, 64, 65, 66, 67, 68, 69, 70, 71, 72, 73, 74, 75, 94, 95, 96, 97, 98, 99, 100, 101, 102, 103, 104, 105, 106, 107] (by decide +kernel) (by decide +kernel)
set_option maxRecDepth 20000 in
theorem gX9_lastAt_X6_ofItem : GoodIn wsX9_lastAt (wsV RX9 212 RX6 yX6_ofItem wsX6_ofItem) := goodIn_app (goodIn_of _ (by decide +kernel)) ggX9_lastAt_X6_ofItem
theorem dX9_lastAt_0 : decode cX9_lastAt 0 = .ok (.aload_n 0, 1) := by decide +kernel
theorem dX9_lastAt_1 : decode cX9_lastAt 1 = .ok (.iload_n 1, 1) := by decide +kernel
theorem dX9_lastAt_2 : decode cX9_lastAt 2 = .ok (.invokevirtual 101, 3) := by decide +kernel
theorem dX9_lastAt_5 : decode cX9_lastAt 5 = .ok (.astore_n 3, 1) := by decide +kernel
theorem dX9_lastAt_6 : decode cX9_lastAt 6 = .ok (.iload_n 2, 1) := by decide +kernel
theorem dX9_lastAt_7 : decode cX9_lastAt 7 = .ok (.i2l, 1) := by decide +kernel
theorem dX9_lastAt_8 : decode cX9_lastAt 8 = .ok (.iconst 0, 1) := by decide +kernel
theorem dX9_lastAt_9 : decode cX9_lastAt 9 = .ok (.ldc 100, 2) := by decide +kernel
theorem dX9_lastAt_11 : decode cX9_lastAt 11 = .ok (.invokestatic 51, 3) := by decide +kernel
theorem dX9_lastAt_14 : decode cX9_lastAt 14 = .ok (.invokestatic 55, 3) := by decide +kernel
theorem dX9_lastAt_17 : decode cX9_lastAt 17 = .ok (.aload_n 3, 1) := by decide +kernel
theorem dX9_lastAt_18 : decode cX9_lastAt 18 = .ok (.iload_n 2, 1) := by decide +kernel
theorem dX9_lastAt_19 : decode cX9_lastAt 19 = .ok (.iconst 1, 1) := by decide +kernel
theorem dX9_lastAt_20 : decode cX9_lastAt 20 = .ok (.iadd, 1) := by decide +kernel
theorem dX9_lastAt_21 : decode cX9_lastAt 21 = .ok (.invokevirtual 209, 3) := by decide +kernel
theorem dX9_lastAt_24 : decode cX9_lastAt 24 = .ok (.iconst 1, 1) := by decide +kernel
theorem dX9_lastAt_25 : decode cX9_lastAt 25 = .ok (.isub, 1) := by decide +kernel
theorem dX9_lastAt_26 : decode cX9_lastAt 26 = .ok (.istore 4, 2) := by decide +kernel
theorem dX9_lastAt_28 : decode cX9_lastAt 28 = .ok (.iload 4, 2) := by decide +kernel
theorem dX9_lastAt_30 : decode cX9_lastAt 30 = .ok (.ifCond .ge 7, 3) := by decide +kernel
theorem dX9_lastAt_33 : decode cX9_lastAt 33 = .ok (.iconst (-1), 1) := by decide +kernel
theorem dX9_lastAt_34 : decode cX9_lastAt 34 = .ok (.goto 10, 3) := by decide +kernel
theorem dX9_lastAt_37 : decode cX9_lastAt 37 = .ok (.aload_n 3, 1) := by decide +kernel
theorem dX9_lastAt_38 : decode cX9_lastAt 38 = .ok (.iload 4, 2) := by decide +kernel
theorem dX9_lastAt_40 : decode cX9_lastAt 40 = .ok (.iconst 0, 1) := by decide +kernel
theorem dX9_lastAt_41 : decode cX9_lastAt 41 = .ok (.invokevirtual 212, 3) := by decide +kernel
theorem dX9_lastAt_44 : decode cX9_lastAt 44 = .ok (.ireturn, 1) := by decide +kernel
set_option maxRecDepth 20000 in
theorem ggX9_addRule_X9_chainAt : GoodIn wsX9_addRule wsX9_chainAt := goodIn_ca (goodIn_r _ [15, 16, 17, 3, 9, 10, 18, 19, 20, 21, 22, 23, 24, 25, 26, 27, 28, 29, 30, 31, 32, 33, 34, 35, 36, 37, 38, 39, 40, 122, 123, 124, 125, 126, 127, 128, 129, 130, 131, 132, 133, 134, 135, 145, 146, 147] (by decide +kernel) (by decide +kernel)) (goodIn_sub (fun _ h => List.mem_cons_of_mem _ (List.mem_append_left _ (List.mem_append_left _ (List.mem_append_right _ h)))) (by decide +kernel))
set_option maxRecDepth 20000 in
theorem gX9_addRule_X9_chainAt : GoodIn wsX9_addRule (wsV RX9 101 RX9 yX9_chainAt wsX9_chainAt) := goodIn_app (goodIn_of _ (by decide +kernel)) ggX9_addRule_X9_chainAt
set_option maxRecDepth 20000 in
theorem ggX9_addRule_X9_isIn : GoodIn wsX9_addRule wsX9_isIn := goodIn_r _ [43] (by decide +kernel) (by decide +kernel)
set_option maxRecDepth 20000 in
theorem gX9_addRule_X9_isIn : GoodIn wsX9_addRule (va_wsS RX9 51 yX9_isIn wsX9_isIn) := goodIn_app (goodIn_of _ (by decide +kernel)) ggX9_addRule_X9_isIn
set_option maxRecDepth 20000 in
theorem ggX9_addRule_X9_needArgument : GoodIn wsX9_addRule wsX9_needArgument := goodIn_ca (goodIn_r _ [46, 47, 48] (by decide +kernel) (by decide +kernel)) (goodIn_sub (fun _ h => List.mem_cons_of_mem _ (List.mem_append_left _ (List.mem_append_right _ h))) (by decide +kernel))
set_option maxRecDepth 20000 in
theorem gX9_addRule_X9_needArgument : GoodIn wsX9_addRule (va_wsS RX9 55 yX9_needArgument wsX9_needArgument) := goodIn_app (goodIn_of _ (by decide +kernel)) ggX9_addRule_X9_needArgument
set_option maxRecDepth 20000 in
theorem ggX9_addRule_Jx4a65c_size_8abf5 : GoodIn wsX9_addRule wsJx4a65c_size_8abf5 := goodIn_r _ [22, 23, 145, 146, 147] (by decide +kernel) (by decide +kernel)
set_option maxRecDepth 20000 in
theorem gX9_addRule_Jx4a65c_size_8abf5 : GoodIn wsX9_addRule (wsV RX9 63 RJx4a65c yJx4a65c_size_8abf5 wsJx4a65c_size_8abf5) := goodIn_app (goodIn_of _ (by decide +kernel)) ggX9_addRule_Jx4a65c_size_8abf5
set_option maxRecDepth 20000 in
theorem ggX9_addRule_X9_needState : GoodIn wsX9_addRule wsX9_needState := goodIn_ca (goodIn_r _ [51, 52, 53] (by decide +kernel) (by decide +kernel)) (goodIn_sub (fun _ h => List.mem_cons_of_mem _ (List.mem_append_right _ h)) (by decide +kernel))
set_option maxRecDepth 20000 in
theorem gX9_addRule_X9_needState : GoodIn wsX9_addRule (va_wsS RX9 69 yX9_needState wsX9_needState) := goodIn_app (goodIn_of _ (by decide +kernel)) ggX9_addRule_X9_needState
set_option maxRecDepth 20000 in
theorem ggX9_addRule_X5_init : GoodIn wsX9_addRule wsX5_init := goodIn_r _ [56, 57, 58, 59, 60, 61, 62, 63, 64, 65, 66, 67, 68, 136, 137, 138, 139, 140, 141, 142, 143, 144] (by decide +kernel) (by decide +kernel)
set_option maxRecDepth 20000 in
theorem gX9_addRule_X5_init : GoodIn wsX9_addRule (wsX5_init) := ggX9_addRule_X5_init
set_option maxRecDepth 20000 in
theorem ggX9_addRule_Jx4a65c_add_9ea2d : GoodIn wsX9_addRule wsJx4a65c_add_9ea2d := goodIn_r _ [72, 73, 74, 40, 23, 75, 76, 77, 21, 78, 79, 80, 81, 82, 83, 84, 85, 86, 87, 88, 89, 90, 91, 92, 93, 94, 95, 96, 97, 98, 99, 100, 101, 102, 103, 104, 105, 106, 107, 108, 109, 110, 111, 112, 113, 114, 115, 116, 117, 118, 119, 120, 121, 145, 146, 147] (by decide +kernel) (by decide +kernel)
set_option maxRecDepth 20000 in
theorem gX9_addRule_Jx4a65c_add_9ea2d : GoodIn wsX9_addRule (wsV RX9 77 RJx4a65c yJx4a65c_add_9ea2d wsJx4a65c_add_9ea2d) := goodIn_app (goodIn_of _ (by decide +kernel)) ggX9_addRule_Jx4a65c_add_9ea2d
set_option maxRecDepth 20000 in
theorem ggX9_addRule_Jx4a65c_get_915e3 : GoodIn wsX9_addRule wsJx4a65c_get_915e3 := goodIn_r _ [27, 23, 28, 29, 30, 31, 32, 33, 34, 35, 36, 37, 38, 21, 39, 40, 145, 146, 147] (by decide +kernel) (by decide +kernel)
set_option maxRecDepth 20000 in
theorem gX9_addRule_Jx4a65c_get_915e3 : GoodIn wsX9_addRule (wsV RX9 187 RJx4a65c yJx4a65c_get_915e3 wsJx4a65c_get_915e3) := goodIn_app (goodIn_of _ (by decide +kernel)) ggX9_addRule_Jx4a65c_get_915e3
theorem dX9_addRule_0 : decode cX9_addRule 0 = .ok (.aload_n 0, 1) := by decide +kernel
theorem dX9_addRule_1 : decode cX9_addRule 1 = .ok (.iload_n 1, 1) := by decide +kernel
theorem dX9_addRule_2 : decode cX9_addRule 2 = .ok (.invokevirtual 101, 3) := by decide +kernel
theorem dX9_addRule_5 : decode cX9_addRule 5 = .ok (.astore 8, 2) := by decide +kernel
theorem dX9_addRule_7 : decode cX9_addRule 7 = .ok (.iload_n 2, 1) := by decide +kernel
theorem dX9_addRule_8 : decode cX9_addRule 8 = .ok (.i2l, 1) := by decide +kernel
theorem dX9_addRule_9 : decode cX9_addRule 9 = .ok (.iconst 0, 1) := by decide +kernel
theorem dX9_addRule_10 : decode cX9_addRule 10 = .ok (.bipush 7, 2) := by decide +kernel
theorem dX9_addRule_12 : decode cX9_addRule 12 = .ok (.invokestatic 51, 3) := by decide +kernel
theorem dX9_addRule_15 : decode cX9_addRule 15 = .ok (.ifCond .eq 19, 3) := by decide +kernel
theorem dX9_addRule_18 : decode cX9_addRule 18 = .ok (.iload_n 3, 1) := by decide +kernel
theorem dX9_addRule_19 : decode cX9_addRule 19 = .ok (.i2l, 1) := by decide +kernel
theorem dX9_addRule_20 : decode cX9_addRule 20 = .ok (.iconst 1, 1) := by decide +kernel
theorem dX9_addRule_21 : decode cX9_addRule 21 = .ok (.sipush 500, 3) := by decide +kernel
theorem dX9_addRule_24 : decode cX9_addRule 24 = .ok (.invokestatic 51, 3) := by decide +kernel
theorem dX9_addRule_27 : decode cX9_addRule 27 = .ok (.ifCond .eq 7, 3) := by decide +kernel
theorem dX9_addRule_30 : decode cX9_addRule 30 = .ok (.iconst 1, 1) := by decide +kernel
theorem dX9_addRule_31 : decode cX9_addRule 31 = .ok (.goto 4, 3) := by decide +kernel
theorem dX9_addRule_34 : decode cX9_addRule 34 = .ok (.iconst 0, 1) := by decide +kernel
theorem dX9_addRule_35 : decode cX9_addRule 35 = .ok (.invokestatic 55, 3) := by decide +kernel
theorem dX9_addRule_38 : decode cX9_addRule 38 = .ok (.iload 4, 2) := by decide +kernel
theorem dX9_addRule_40 : decode cX9_addRule 40 = .ok (.i2l, 1) := by decide +kernel
theorem dX9_addRule_41 : decode cX9_addRule 41 = .ok (.iconst 1, 1) := by decide +kernel
theorem dX9_addRule_42 : decode cX9_addRule 42 = .ok (.bipush 60, 2) := by decide +kernel
theorem dX9_addRule_44 : decode cX9_addRule 44 = .ok (.invokestatic 51, 3) := by decide +kernel
theorem dX9_addRule_47 : decode cX9_addRule 47 = .ok (.ifCond .eq 31, 3) := by decide +kernel
theorem dX9_addRule_50 : decode cX9_addRule 50 = .ok (.iload 6, 2) := by decide +kernel
theorem dX9_addRule_52 : decode cX9_addRule 52 = .ok (.i2l, 1) := by decide +kernel
theorem dX9_addRule_53 : decode cX9_addRule 53 = .ok (.ldc 200, 2) := by decide +kernel
theorem dX9_addRule_55 : decode cX9_addRule 55 = .ok (.ldc 215, 2) := by decide +kernel
theorem dX9_addRule_57 : decode cX9_addRule 57 = .ok (.invokestatic 51, 3) := by decide +kernel
theorem dX9_addRule_60 : decode cX9_addRule 60 = .ok (.ifCond .eq 18, 3) := by decide +kernel
theorem dX9_addRule_63 : decode cX9_addRule 63 = .ok (.iload 7, 2) := by decide +kernel
theorem dX9_addRule_65 : decode cX9_addRule 65 = .ok (.i2l, 1) := by decide +kernel
theorem dX9_addRule_66 : decode cX9_addRule 66 = .ok (.iconst 1, 1) := by decide +kernel
theorem dX9_addRule_67 : decode cX9_addRule 67 = .ok (.iconst 5, 1) := by decide +kernel
theorem dX9_addRule_68 : decode cX9_addRule 68 = .ok (.invokestatic 51, 3) := by decide +kernel
theorem dX9_addRule_71 : decode cX9_addRule 71 = .ok (.ifCond .eq 7, 3) := by decide +kernel
theorem dX9_addRule_74 : decode cX9_addRule 74 = .ok (.iconst 1, 1) := by decide +kernel
theorem dX9_addRule_75 : decode cX9_addRule 75 = .ok (.goto 4, 3) := by decide +kernel
theorem dX9_addRule_78 : decode cX9_addRule 78 = .ok (.iconst 0, 1) := by decide +kernel
theorem dX9_addRule_79 : decode cX9_addRule 79 = .ok (.invokestatic 55, 3) := by decide +kernel
theorem dX9_addRule_82 : decode cX9_addRule 82 = .ok (.aload_n 0, 1) := by decide +kernel
theorem dX9_addRule_83 : decode cX9_addRule 83 = .ok (.getfield 21, 3) := by decide +kernel
theorem dX9_addRule_86 : decode cX9_addRule 86 = .ok (.getfield 216, 3) := by decide +kernel
theorem dX9_addRule_89 : decode cX9_addRule 89 = .ok (.invokevirtual 63, 3) := by decide +kernel
theorem dX9_addRule_92 : decode cX9_addRule 92 = .ok (.istore 9, 2) := by decide +kernel
theorem dX9_addRule_94 : decode cX9_addRule 94 = .ok (.iload 9, 2) := by decide +kernel
theorem dX9_addRule_96 : decode cX9_addRule 96 = .ok (.bipush 8, 2) := by decide +kernel
theorem dX9_addRule_98 : decode cX9_addRule 98 = .ok (.if_icmp .ge 7, 3) := by decide +kernel
theorem dX9_addRule_101 : decode cX9_addRule 101 = .ok (.iconst 1, 1) := by decide +kernel
theorem dX9_addRule_102 : decode cX9_addRule 102 = .ok (.goto 4, 3) := by decide +kernel
theorem dX9_addRule_105 : decode cX9_addRule 105 = .ok (.iconst 0, 1) := by decide +kernel
theorem dX9_addRule_106 : decode cX9_addRule 106 = .ok (.invokestatic 69, 3) := by decide +kernel
theorem dX9_addRule_109 : decode cX9_addRule 109 = .ok (.aload_n 0, 1) := by decide +kernel
theorem dX9_addRule_110 : decode cX9_addRule 110 = .ok (.getfield 21, 3) := by decide +kernel
theorem dX9_addRule_113 : decode cX9_addRule 113 = .ok (.getfield 216, 3) := by decide +kernel
theorem dX9_addRule_116 : decode cX9_addRule 116 = .ok (.new 219, 3) := by decide +kernel
theorem dX9_addRule_119 : decode cX9_addRule 119 = .ok (.dup, 1) := by decide +kernel
theorem dX9_addRule_120 : decode cX9_addRule 120 = .ok (.aload 8, 2) := by decide +kernel
theorem dX9_addRule_122 : decode cX9_addRule 122 = .ok (.iload_n 2, 1) := by decide +kernel
theorem dX9_addRule_123 : decode cX9_addRule 123 = .ok (.iload_n 3, 1) := by decide +kernel
theorem dX9_addRule_124 : decode cX9_addRule 124 = .ok (.iload 4, 2) := by decide +kernel
theorem dX9_addRule_126 : decode cX9_addRule 126 = .ok (.iload 5, 2) := by decide +kernel
theorem dX9_addRule_128 : decode cX9_addRule 128 = .ok (.iload 6, 2) := by decide +kernel
theorem dX9_addRule_130 : decode cX9_addRule 130 = .ok (.iload 7, 2) := by decide +kernel
theorem dX9_addRule_132 : decode cX9_addRule 132 = .ok (.invokespecial 221, 3) := by decide +kernel
theorem dX9_addRule_135 : decode cX9_addRule 135 = .ok (.invokevirtual 77, 3) := by decide +kernel
theorem dX9_addRule_138 : decode cX9_addRule 138 = .ok (.pop, 1) := by decide +kernel
theorem dX9_addRule_139 : decode cX9_addRule 139 = .ok (.iload_n 1, 1) := by decide +kernel
theorem dX9_addRule_140 : decode cX9_addRule 140 = .ok (.aload_n 0, 1) := by decide +kernel
theorem dX9_addRule_141 : decode cX9_addRule 141 = .ok (.getfield 25, 3) := by decide +kernel
theorem dX9_addRule_144 : decode cX9_addRule 144 = .ok (.getfield 59, 3) := by decide +kernel
theorem dX9_addRule_147 : decode cX9_addRule 147 = .ok (.invokevirtual 63, 3) := by decide +kernel
theorem dX9_addRule_150 : decode cX9_addRule 150 = .ok (.if_icmp .ge 49, 3) := by decide +kernel
theorem dX9_addRule_153 : decode cX9_addRule 153 = .ok (.aload_n 0, 1) := by decide +kernel
theorem dX9_addRule_154 : decode cX9_addRule 154 = .ok (.getfield 25, 3) := by decide +kernel
theorem dX9_addRule_157 : decode cX9_addRule 157 = .ok (.getfield 59, 3) := by decide +kernel
theorem dX9_addRule_160 : decode cX9_addRule 160 = .ok (.iload_n 1, 1) := by decide +kernel
theorem dX9_addRule_161 : decode cX9_addRule 161 = .ok (.invokevirtual 187, 3) := by decide +kernel
theorem dX9_addRule_164 : decode cX9_addRule 164 = .ok (.checkcast 72, 3) := by decide +kernel
theorem dX9_addRule_167 : decode cX9_addRule 167 = .ok (.astore 10, 2) := by decide +kernel
theorem dX9_addRule_169 : decode cX9_addRule 169 = .ok (.aload_n 0, 1) := by decide +kernel
theorem dX9_addRule_170 : decode cX9_addRule 170 = .ok (.getfield 25, 3) := by decide +kernel
theorem dX9_addRule_173 : decode cX9_addRule 173 = .ok (.getfield 216, 3) := by decide +kernel
theorem dX9_addRule_176 : decode cX9_addRule 176 = .ok (.new 219, 3) := by decide +kernel
theorem dX9_addRule_179 : decode cX9_addRule 179 = .ok (.dup, 1) := by decide +kernel
theorem dX9_addRule_180 : decode cX9_addRule 180 = .ok (.aload 10, 2) := by decide +kernel
theorem dX9_addRule_182 : decode cX9_addRule 182 = .ok (.iload_n 2, 1) := by decide +kernel
theorem dX9_addRule_183 : decode cX9_addRule 183 = .ok (.iload_n 3, 1) := by decide +kernel
theorem dX9_addRule_184 : decode cX9_addRule 184 = .ok (.iload 4, 2) := by decide +kernel
theorem dX9_addRule_186 : decode cX9_addRule 186 = .ok (.iload 5, 2) := by decide +kernel
theorem dX9_addRule_188 : decode cX9_addRule 188 = .ok (.iload 6, 2) := by decide +kernel
theorem dX9_addRule_190 : decode cX9_addRule 190 = .ok (.iload 7, 2) := by decide +kernel
theorem dX9_addRule_192 : decode cX9_addRule 192 = .ok (.invokespecial 221, 3) := by decide +kernel
theorem dX9_addRule_195 : decode cX9_addRule 195 = .ok (.invokevirtual 77, 3) := by decide +kernel
theorem dX9_addRule_198 : decode cX9_addRule 198 = .ok (.pop, 1) := by decide +kernel
theorem dX9_addRule_199 : decode cX9_addRule 199 = .ok (.iload 9, 2) := by decide +kernel
theorem dX9_addRule_201 : decode cX9_addRule 201 = .ok (.ireturn, 1) := by decide +kernel
theorem dX9_events_0 : decode cX9_events 0 = .ok (.aload_n 0, 1) := by decide +kernel
theorem dX9_events_1 : decode cX9_events 1 = .ok (.getfield 21, 3) := by decide +kernel
theorem dX9_events_4 : decode cX9_events 4 = .ok (.getfield 129, 3) := by decide +kernel
theorem dX9_events_7 : decode cX9_events 7 = .ok (.getfield 133, 3) := by decide +kernel
theorem dX9_events_10 : decode cX9_events 10 = .ok (.ireturn, 1) := by decide +kernel
set_option maxRecDepth 20000 in
theorem ggX9_event_X9_isIn : GoodIn wsX9_event wsX9_isIn := goodIn_r _ [7] (by decide +kernel) (by decide +kernel)
set_option maxRecDepth 20000 in
theorem gX9_event_X9_isIn : GoodIn wsX9_event (va_wsS RX9 51 yX9_isIn wsX9_isIn) := goodIn_app (goodIn_of _ (by decide +kernel)) ggX9_event_X9_isIn
set_option maxRecDepth 20000 in
theorem ggX9_event_X9_needIndex : GoodIn wsX9_event wsX9_needIndex := goodIn_ca (goodIn_r _ [10, 11, 12] (by decide +kernel) (by decide +kernel)) (goodIn_sub (fun _ h => List.mem_cons_of_mem _ (List.mem_append_left _ (List.mem_append_right _ h))) (by decide +kernel))
set_option maxRecDepth 20000 in
theorem gX9_event_X9_needIndex : GoodIn wsX9_event (va_wsS RX9 150 yX9_needIndex wsX9_needIndex) := goodIn_app (goodIn_of _ (by decide +kernel)) ggX9_event_X9_needIndex
set_option maxRecDepth 20000 in
theorem ggX9_event_X9_needArgument : GoodIn wsX9_event wsX9_needArgument := goodIn_ca (goodIn_r _ [15, 16, 17] (by decide +kernel) (by decide +kernel)) (goodIn_sub (fun _ h => List.mem_cons_of_mem _ (List.mem_append_right _ h)) (by decide +kernel))
set_option maxRecDepth 20000 in
theorem gX9_event_X9_needArgument : GoodIn wsX9_event (va_wsS RX9 55 yX9_needArgument wsX9_needArgument) := goodIn_app (goodIn_of _ (by decide +kernel)) ggX9_event_X9_needArgument
set_option maxRecDepth 20000 in
theorem ggX9_event_X1_number : GoodIn wsX9_event wsX1_number := goodIn_r _ [22, 23, 24, 39, 40, 41] (by decide +kernel) (by decide +kernel)
set_option maxRecDepth 20000 in
theorem gX9_event_X1_number : GoodIn wsX9_event (wsV RX9 237 RX1 yX1_number wsX1_number) := goodIn_app (goodIn_of _ (by decide +kernel)) ggX9_event_X1_number
theorem dX9_event_0 : decode cX9_event 0 = .ok (.iload_n 1, 1) := by decide +kernel
theorem dX9_event_1 : decode cX9_event 1 = .ok (.i2l, 1) := by decide +kernel
theorem dX9_event_2 : decode cX9_event 2 = .ok (.iconst 0, 1) := by decide +kernel
theorem dX9_event_3 : decode cX9_event 3 = .ok (.bipush 19, 2) := by decide +kernel
theorem dX9_event_5 : decode cX9_event 5 = .ok (.invokestatic 51, 3) := by decide +kernel
theorem dX9_event_8 : decode cX9_event 8 = .ok (.ifCond .eq 21, 3) := by decide +kernel
theorem dX9_event_11 : decode cX9_event 11 = .ok (.iload_n 1, 1) := by decide +kernel
theorem dX9_event_12 : decode cX9_event 12 = .ok (.aload_n 0, 1) := by decide +kernel
theorem dX9_event_13 : decode cX9_event 13 = .ok (.getfield 21, 3) := by decide +kernel
theorem dX9_event_16 : decode cX9_event 16 = .ok (.getfield 129, 3) := by decide +kernel
theorem dX9_event_19 : decode cX9_event 19 = .ok (.getfield 133, 3) := by decide +kernel
theorem dX9_event_22 : decode cX9_event 22 = .ok (.if_icmp .ge 7, 3) := by decide +kernel
theorem dX9_event_25 : decode cX9_event 25 = .ok (.iconst 1, 1) := by decide +kernel
theorem dX9_event_26 : decode cX9_event 26 = .ok (.goto 4, 3) := by decide +kernel
theorem dX9_event_29 : decode cX9_event 29 = .ok (.iconst 0, 1) := by decide +kernel
theorem dX9_event_30 : decode cX9_event 30 = .ok (.invokestatic 150, 3) := by decide +kernel
theorem dX9_event_33 : decode cX9_event 33 = .ok (.iload_n 2, 1) := by decide +kernel
theorem dX9_event_34 : decode cX9_event 34 = .ok (.i2l, 1) := by decide +kernel
theorem dX9_event_35 : decode cX9_event 35 = .ok (.iconst 0, 1) := by decide +kernel
theorem dX9_event_36 : decode cX9_event 36 = .ok (.iconst 2, 1) := by decide +kernel
theorem dX9_event_37 : decode cX9_event 37 = .ok (.invokestatic 51, 3) := by decide +kernel
theorem dX9_event_40 : decode cX9_event 40 = .ok (.invokestatic 55, 3) := by decide +kernel
theorem dX9_event_43 : decode cX9_event 43 = .ok (.aload_n 0, 1) := by decide +kernel
theorem dX9_event_44 : decode cX9_event 44 = .ok (.getfield 21, 3) := by decide +kernel
theorem dX9_event_47 : decode cX9_event 47 = .ok (.getfield 129, 3) := by decide +kernel
theorem dX9_event_50 : decode cX9_event 50 = .ok (.iload_n 1, 1) := by decide +kernel
theorem dX9_event_51 : decode cX9_event 51 = .ok (.iload_n 2, 1) := by decide +kernel
theorem dX9_event_52 : decode cX9_event 52 = .ok (.invokevirtual 237, 3) := by decide +kernel
theorem dX9_event_55 : decode cX9_event 55 = .ok (.ireturn, 1) := by decide +kernel
set_option maxRecDepth 20000 in
theorem ggX9_bitsWith_X9_chainAt : GoodIn wsX9_bitsWith wsX9_chainAt := goodIn_ca (goodIn_r _ [7, 8, 9, 10, 11, 12, 13, 14, 15, 16, 17, 18, 19, 20, 21, 22, 23, 24, 25, 26, 27, 28, 29, 30, 31, 32, 33, 34, 35, 126, 127, 128, 129, 130, 131, 132, 133, 134, 135, 136, 137, 138, 139, 140, 141, 142] (by decide +kernel) (by decide +kernel)) (goodIn_sub (fun _ h => List.mem_cons_of_mem _ (List.mem_append_left _ (List.mem_append_right _ h))) (by decide +kernel))
set_option maxRecDepth 20000 in
theorem gX9_bitsWith_X9_chainAt : GoodIn wsX9_bitsWith (wsV RX9 101 RX9 yX9_chainAt wsX9_chainAt) := goodIn_app (goodIn_of _ (by decide +kernel)) ggX9_bitsWith_X9_chainAt
set_option maxRecDepth 20000 in
theorem ggX9_bitsWith_X9_isTimeUpToNow : GoodIn wsX9_bitsWith wsX9_isTimeUpToNow := goodIn_r _ [39, 10, 40, 41, 42, 6, 43, 126, 127, 128, 129, 130, 131, 132, 133, 134, 135, 136, 137, 138, 139] (by decide +kernel) (by decide +kernel)
set_option maxRecDepth 20000 in
theorem gX9_bitsWith_X9_isTimeUpToNow : GoodIn wsX9_bitsWith (wsV RX9 105 RX9 yX9_isTimeUpToNow wsX9_isTimeUpToNow) := goodIn_app (goodIn_of _ (by decide +kernel)) ggX9_bitsWith_X9_isTimeUpToNow
set_option maxRecDepth 20000 in
theorem ggX9_bitsWith_X9_isValue : GoodIn wsX9_bitsWith wsX9_isValue := goodIn_r _ [46, 47, 48, 41, 42, 6, 43] (by decide +kernel) (by decide +kernel)
set_option maxRecDepth 20000 in
theorem gX9_bitsWith_X9_isValue : GoodIn wsX9_bitsWith (va_wsS RX9 109 yX9_isValue wsX9_isValue) := goodIn_app (goodIn_of _ (by decide +kernel)) ggX9_bitsWith_X9_isValue
set_option maxRecDepth 20000 in
theorem ggX9_bitsWith_X9_needArgument : GoodIn wsX9_bitsWith wsX9_needArgument := goodIn_ca (goodIn_r _ [51, 52, 53] (by decide +kernel) (by decide +kernel)) (goodIn_sub (fun _ h => List.mem_cons_of_mem _ (List.mem_append_right _ h)) (by decide +kernel))
set_option maxRecDepth 20000 in
theorem gX9_bitsWith_X9_needArgument : GoodIn wsX9_bitsWith (va_wsS RX9 55 yX9_needArgument wsX9_needArgument) := goodIn_app (goodIn_of _ (by decide +kernel)) ggX9_bitsWith_X9_needArgument
set_option maxRecDepth 20000 in
theorem ggX9_bitsWith_X4_isLate : GoodIn wsX9_bitsWith wsX4_isLate := goodIn_r _ [58, 59, 143, 144, 145, 146, 147, 148, 149] (by decide +kernel) (by decide +kernel)
set_option maxRecDepth 20000 in
theorem gX9_bitsWith_X4_isLate : GoodIn wsX9_bitsWith (wsV RX9 238 RX4 yX4_isLate wsX4_isLate) := goodIn_app (goodIn_of _ (by decide +kernel)) ggX9_bitsWith_X4_isLate
set_option maxRecDepth 20000 in
theorem ggX9_bitsWith_X3_packOpenWith : GoodIn wsX9_bitsWith wsX3_packOpenWith := goodIn_r _ [64, 65, 66, 67, 68, 69, 70, 71, 57, 72, 73, 74, 75, 76, 77, 78, 79, 80, 81, 82, 83, 84, 85, 86, 87, 88, 89, 90, 91, 63, 92, 93, 94, 95, 96, 97, 98, 99, 100, 101, 102, 103, 104, 105, 106, 107, 108, 109, 110, 111, 112, 113, 114, 115, 42, 6, 43, 116, 117, 118, 119, 120, 143, 144, 145, 146, 147, 148, 149, 150, 151, 152, 153, 154, 155, 156, 157] (by decide +kernel) (by decide +kernel)
set_option maxRecDepth 20000 in
theorem gX9_bitsWith_X3_packOpenWith : GoodIn wsX9_bitsWith (wsV RX9 241 RX3 yX3_packOpenWith wsX3_packOpenWith) := goodIn_app (goodIn_of _ (by decide +kernel)) ggX9_bitsWith_X3_packOpenWith
theorem dX9_bitsWith_0 : decode cX9_bitsWith 0 = .ok (.aload_n 0, 1) := by decide +kernel
theorem dX9_bitsWith_1 : decode cX9_bitsWith 1 = .ok (.iload_n 1, 1) := by decide +kernel
theorem dX9_bitsWith_2 : decode cX9_bitsWith 2 = .ok (.invokevirtual 101, 3) := by decide +kernel
theorem dX9_bitsWith_5 : decode cX9_bitsWith 5 = .ok (.astore 4, 2) := by decide +kernel
theorem dX9_bitsWith_7 : decode cX9_bitsWith 7 = .ok (.aload_n 0, 1) := by decide +kernel
theorem dX9_bitsWith_8 : decode cX9_bitsWith 8 = .ok (.iload_n 2, 1) := by decide +kernel
theorem dX9_bitsWith_9 : decode cX9_bitsWith 9 = .ok (.i2l, 1) := by decide +kernel
theorem dX9_bitsWith_10 : decode cX9_bitsWith 10 = .ok (.invokevirtual 105, 3) := by decide +kernel
theorem dX9_bitsWith_13 : decode cX9_bitsWith 13 = .ok (.ifCond .eq 15, 3) := by decide +kernel
theorem dX9_bitsWith_16 : decode cX9_bitsWith 16 = .ok (.iload_n 3, 1) := by decide +kernel
theorem dX9_bitsWith_17 : decode cX9_bitsWith 17 = .ok (.i2l, 1) := by decide +kernel
theorem dX9_bitsWith_18 : decode cX9_bitsWith 18 = .ok (.invokestatic 109, 3) := by decide +kernel
theorem dX9_bitsWith_21 : decode cX9_bitsWith 21 = .ok (.ifCond .eq 7, 3) := by decide +kernel
theorem dX9_bitsWith_24 : decode cX9_bitsWith 24 = .ok (.iconst 1, 1) := by decide +kernel
theorem dX9_bitsWith_25 : decode cX9_bitsWith 25 = .ok (.goto 4, 3) := by decide +kernel
theorem dX9_bitsWith_28 : decode cX9_bitsWith 28 = .ok (.iconst 0, 1) := by decide +kernel
theorem dX9_bitsWith_29 : decode cX9_bitsWith 29 = .ok (.invokestatic 55, 3) := by decide +kernel
theorem dX9_bitsWith_32 : decode cX9_bitsWith 32 = .ok (.aload 4, 2) := by decide +kernel
theorem dX9_bitsWith_34 : decode cX9_bitsWith 34 = .ok (.getfield 116, 3) := by decide +kernel
theorem dX9_bitsWith_37 : decode cX9_bitsWith 37 = .ok (.iload_n 2, 1) := by decide +kernel
theorem dX9_bitsWith_38 : decode cX9_bitsWith 38 = .ok (.invokevirtual 238, 3) := by decide +kernel
theorem dX9_bitsWith_41 : decode cX9_bitsWith 41 = .ok (.ifCond .eq 5, 3) := by decide +kernel
theorem dX9_bitsWith_44 : decode cX9_bitsWith 44 = .ok (.iconst (-1), 1) := by decide +kernel
theorem dX9_bitsWith_45 : decode cX9_bitsWith 45 = .ok (.ireturn, 1) := by decide +kernel
theorem dX9_bitsWith_46 : decode cX9_bitsWith 46 = .ok (.aload_n 0, 1) := by decide +kernel
theorem dX9_bitsWith_47 : decode cX9_bitsWith 47 = .ok (.getfield 31, 3) := by decide +kernel
theorem dX9_bitsWith_50 : decode cX9_bitsWith 50 = .ok (.aload 4, 2) := by decide +kernel
theorem dX9_bitsWith_52 : decode cX9_bitsWith 52 = .ok (.getfield 116, 3) := by decide +kernel
theorem dX9_bitsWith_55 : decode cX9_bitsWith 55 = .ok (.iload_n 2, 1) := by decide +kernel
theorem dX9_bitsWith_56 : decode cX9_bitsWith 56 = .ok (.iload_n 3, 1) := by decide +kernel
theorem dX9_bitsWith_57 : decode cX9_bitsWith 57 = .ok (.invokevirtual 241, 3) := by decide +kernel
theorem dX9_bitsWith_60 : decode cX9_bitsWith 60 = .ok (.ireturn, 1) := by decide +kernel
set_option maxRecDepth 20000 in
theorem ggX9_firesIn_X9_canGoOn : GoodIn wsX9_firesIn wsX9_canGoOn := goodIn_r _ [9, 2, 10, 11, 12, 13, 8, 14, 265, 266, 267, 268, 269, 270, 271, 272, 273, 274, 275, 276, 277, 278] (by decide +kernel) (by decide +kernel)
set_option maxRecDepth 20000 in
theorem gX9_firesIn_X9_canGoOn : GoodIn wsX9_firesIn (wsV RX9 125 RX9 yX9_canGoOn wsX9_canGoOn) := goodIn_app (goodIn_of _ (by decide +kernel)) ggX9_firesIn_X9_canGoOn
set_option maxRecDepth 20000 in
theorem ggX9_firesIn_X9_needArgument : GoodIn wsX9_firesIn wsX9_needArgument := goodIn_ca (goodIn_r _ [17, 18, 19] (by decide +kernel) (by decide +kernel)) (goodIn_sub (fun _ h => List.mem_cons_of_mem _ (List.mem_append_right _ h)) (by decide +kernel))
set_option maxRecDepth 20000 in
theorem gX9_firesIn_X9_needArgument : GoodIn wsX9_firesIn (va_wsS RX9 55 yX9_needArgument wsX9_needArgument) := goodIn_app (goodIn_of _ (by decide +kernel)) ggX9_firesIn_X9_needArgument
set_option maxRecDepth 20000 in
theorem ggX9_firesIn_X8_copyFrom : GoodIn wsX9_firesIn wsX8_copyFrom := goodIn_r _ [24, 25, 26, 27, 28, 29, 30, 31, 32, 33, 34, 35, 36, 37, 38, 39, 40, 41, 42, 43, 44, 45, 46, 47, 48, 49, 50, 51, 52, 53, 54, 55, 56, 57, 58, 59, 60, 61, 62, 63, 64, 65, 66, 67, 68, 69, 70, 71, 72, 73, 74, 75, 76, 77, 78, 79, 80, 81, 82, 83, 84, 85, 86, 87, 88, 89, 90, 91, 92, 93, 94, 95, 96, 97, 98, 99, 100, 101, 102, 103, 104, 105, 106, 107, 108, 109, 110, 111, 112, 274, 275, 276, 277, 278, 282, 283, 284, 285, 286, 287, 288, 289, 290, 291, 292, 293, 294, 295, 296, 297, 298, 299, 300, 301, 302, 303, 304, 305, 306, 307] (by decide +kernel) (by decide +kernel)
set_option maxRecDepth 20000 in
theorem gX9_firesIn_X8_copyFrom : GoodIn wsX9_firesIn (wsV RX9 245 RX8 yX8_copyFrom wsX8_copyFrom) := goodIn_app (goodIn_of _ (by decide +kernel)) ggX9_firesIn_X8_copyFrom
set_option maxRecDepth 20000 in
theorem ggX9_firesIn_X8_goOnByOne : GoodIn wsX9_firesIn wsX8_goOnByOne := goodIn_r _ [116, 25, 26, 27, 117, 28, 29, 118, 119, 30, 31, 32, 33, 34, 35, 36, 37, 38, 39, 40, 41, 42, 43, 44, 45, 46, 47, 48, 49, 50, 51, 52, 120, 121, 122, 56, 123, 124, 58, 125, 126, 127, 128, 129, 64, 130, 68, 82, 83, 84, 85, 69, 86, 87, 88, 89, 66, 67, 70, 72, 73, 74, 75, 76, 77, 131, 132, 133, 134, 59, 135, 136, 137, 138, 139, 140, 141, 142, 93, 143, 95, 96, 144, 145, 146, 147, 148, 149, 150, 97, 98, 99, 100, 101, 151, 152, 153, 154, 102, 103, 104, 105, 155, 156, 157, 158, 159, 160, 161, 162, 163, 60, 164, 165, 166, 167, 168, 169, 170, 171, 172, 173, 174, 175, 176, 78, 79, 80, 81, 177, 178, 179, 180, 181, 182, 183, 184, 109, 185, 186, 187, 188, 189, 190, 191, 192, 193, 194, 195, 196, 197, 198, 199, 200, 201, 202, 203, 204, 205, 206, 207, 208, 209, 210, 211, 212, 213, 214, 215, 216, 217, 218, 219, 220, 221, 222, 223, 224, 225, 226, 227, 228, 229, 230, 231, 232, 233, 234, 235, 236, 237, 238, 239, 240, 241, 242, 243, 111, 244, 245, 246, 247, 112, 248, 249, 250, 251, 252, 253, 254, 255, 256, 257, 258, 259, 260, 261, 262, 263, 264, 274, 275, 276, 277, 278, 299, 300, 301, 302, 303, 304, 305, 306, 307, 282, 283, 284, 308, 309, 310, 311, 312, 285, 286, 287, 288, 289, 292, 293, 294, 295, 296, 297, 298, 290, 291, 279, 280, 281] (by decide +kernel) (by decide +kernel)
set_option maxRecDepth 20000 in
theorem gX9_firesIn_X8_goOnByOne : GoodIn wsX9_firesIn (wsV RX9 138 RX8 yX8_goOnByOne wsX8_goOnByOne) := goodIn_app (goodIn_of _ (by decide +kernel)) ggX9_firesIn_X8_goOnByOne
theorem dX9_firesIn_0 : decode cX9_firesIn 0 = .ok (.aload_n 0, 1) := by decide +kernel
theorem dX9_firesIn_1 : decode cX9_firesIn 1 = .ok (.iload_n 1, 1) := by decide +kernel
theorem dX9_firesIn_2 : decode cX9_firesIn 2 = .ok (.invokevirtual 125, 3) := by decide +kernel
theorem dX9_firesIn_5 : decode cX9_firesIn 5 = .ok (.invokestatic 55, 3) := by decide +kernel
theorem dX9_firesIn_8 : decode cX9_firesIn 8 = .ok (.aload_n 0, 1) := by decide +kernel
theorem dX9_firesIn_9 : decode cX9_firesIn 9 = .ok (.getfield 25, 3) := by decide +kernel
theorem dX9_firesIn_12 : decode cX9_firesIn 12 = .ok (.aload_n 0, 1) := by decide +kernel
theorem dX9_firesIn_13 : decode cX9_firesIn 13 = .ok (.getfield 21, 3) := by decide +kernel
theorem dX9_firesIn_16 : decode cX9_firesIn 16 = .ok (.invokevirtual 245, 3) := by decide +kernel
theorem dX9_firesIn_19 : decode cX9_firesIn 19 = .ok (.aload_n 0, 1) := by decide +kernel
theorem dX9_firesIn_20 : decode cX9_firesIn 20 = .ok (.getfield 25, 3) := by decide +kernel
theorem dX9_firesIn_23 : decode cX9_firesIn 23 = .ok (.getfield 129, 3) := by decide +kernel
theorem dX9_firesIn_26 : decode cX9_firesIn 26 = .ok (.getfield 249, 3) := by decide +kernel
theorem dX9_firesIn_29 : decode cX9_firesIn 29 = .ok (.istore_n 2, 1) := by decide +kernel
theorem dX9_firesIn_30 : decode cX9_firesIn 30 = .ok (.iconst 1, 1) := by decide +kernel
theorem dX9_firesIn_31 : decode cX9_firesIn 31 = .ok (.istore_n 3, 1) := by decide +kernel
theorem dX9_firesIn_32 : decode cX9_firesIn 32 = .ok (.iload_n 3, 1) := by decide +kernel
theorem dX9_firesIn_33 : decode cX9_firesIn 33 = .ok (.iload_n 1, 1) := by decide +kernel
theorem dX9_firesIn_34 : decode cX9_firesIn 34 = .ok (.if_icmp .gt 32, 3) := by decide +kernel
theorem dX9_firesIn_37 : decode cX9_firesIn 37 = .ok (.aload_n 0, 1) := by decide +kernel
theorem dX9_firesIn_38 : decode cX9_firesIn 38 = .ok (.getfield 25, 3) := by decide +kernel
theorem dX9_firesIn_41 : decode cX9_firesIn 41 = .ok (.invokevirtual 138, 3) := by decide +kernel
theorem dX9_firesIn_44 : decode cX9_firesIn 44 = .ok (.aload_n 0, 1) := by decide +kernel
theorem dX9_firesIn_45 : decode cX9_firesIn 45 = .ok (.getfield 25, 3) := by decide +kernel
theorem dX9_firesIn_48 : decode cX9_firesIn 48 = .ok (.getfield 129, 3) := by decide +kernel
theorem dX9_firesIn_51 : decode cX9_firesIn 51 = .ok (.getfield 249, 3) := by decide +kernel
theorem dX9_firesIn_54 : decode cX9_firesIn 54 = .ok (.iload_n 2, 1) := by decide +kernel
theorem dX9_firesIn_55 : decode cX9_firesIn 55 = .ok (.if_icmp .le 5, 3) := by decide +kernel
theorem dX9_firesIn_58 : decode cX9_firesIn 58 = .ok (.iload_n 3, 1) := by decide +kernel
theorem dX9_firesIn_59 : decode cX9_firesIn 59 = .ok (.ireturn, 1) := by decide +kernel
theorem dX9_firesIn_60 : decode cX9_firesIn 60 = .ok (.iinc 3 1, 3) := by decide +kernel
theorem dX9_firesIn_63 : decode cX9_firesIn 63 = .ok (.goto (-31), 3) := by decide +kernel
theorem dX9_firesIn_66 : decode cX9_firesIn 66 = .ok (.iconst (-1), 1) := by decide +kernel
theorem dX9_firesIn_67 : decode cX9_firesIn 67 = .ok (.ireturn, 1) := by decide +kernel
set_option maxRecDepth 20000 in
theorem ggX9_wouldRoll_X9_isIn : GoodIn wsX9_wouldRoll wsX9_isIn := goodIn_r _ [10] (by decide +kernel) (by decide +kernel)
set_option maxRecDepth 20000 in
theorem gX9_wouldRoll_X9_isIn : GoodIn wsX9_wouldRoll (va_wsS RX9 51 yX9_isIn wsX9_isIn) := goodIn_app (goodIn_of _ (by decide +kernel)) ggX9_wouldRoll_X9_isIn
set_option maxRecDepth 20000 in
theorem ggX9_wouldRoll_X9_needArgument : GoodIn wsX9_wouldRoll wsX9_needArgument := goodIn_ca (goodIn_r _ [13, 14, 15] (by decide +kernel) (by decide +kernel)) (goodIn_sub (fun _ h => List.mem_cons_of_mem _ (List.mem_append_right _ h)) (by decide +kernel))
set_option maxRecDepth 20000 in
theorem gX9_wouldRoll_X9_needArgument : GoodIn wsX9_wouldRoll (va_wsS RX9 55 yX9_needArgument wsX9_needArgument) := goodIn_app (goodIn_of _ (by decide +kernel)) ggX9_wouldRoll_X9_needArgument
set_option maxRecDepth 20000 in
theorem ggX9_wouldRoll_Jx4a65c_size_8abf5 : GoodIn wsX9_wouldRoll wsJx4a65c_size_8abf5 := goodIn_r _ [20, 21, 82, 83, 84] (by decide +kernel) (by decide +kernel)
set_option maxRecDepth 20000 in
theorem gX9_wouldRoll_Jx4a65c_size_8abf5 : GoodIn wsX9_wouldRoll (wsV RX9 63 RJx4a65c yJx4a65c_size_8abf5 wsJx4a65c_size_8abf5) := goodIn_app (goodIn_of _ (by decide +kernel)) ggX9_wouldRoll_Jx4a65c_size_8abf5
set_option maxRecDepth 20000 in
theorem ggX9_wouldRoll_Jx4a65c_get_915e3 : GoodIn wsX9_wouldRoll wsJx4a65c_get_915e3 := goodIn_r _ [25, 21, 26, 27, 28, 29, 30, 31, 32, 33, 34, 35, 36, 19, 37, 38, 82, 83, 84] (by decide +kernel) (by decide +kernel)
set_option maxRecDepth 20000 in
theorem gX9_wouldRoll_Jx4a65c_get_915e3 : GoodIn wsX9_wouldRoll (wsV RX9 187 RJx4a65c yJx4a65c_get_915e3 wsJx4a65c_get_915e3) := goodIn_app (goodIn_of _ (by decide +kernel)) ggX9_wouldRoll_Jx4a65c_get_915e3
set_option maxRecDepth 20000 in
theorem ggX9_wouldRoll_X4_blocksBelow : GoodIn wsX9_wouldRoll wsX4_blocksBelow := goodIn_r _ [43, 44, 45, 46, 47, 42, 48, 49, 50, 51, 52, 53, 54, 55, 56, 57, 58, 59, 60, 61, 62, 85, 86, 87, 88, 89, 90, 91, 92, 93] (by decide +kernel) (by decide +kernel)
set_option maxRecDepth 20000 in
theorem gX9_wouldRoll_X4_blocksBelow : GoodIn wsX9_wouldRoll (wsV RX9 252 RX4 yX4_blocksBelow wsX4_blocksBelow) := goodIn_app (goodIn_of _ (by decide +kernel)) ggX9_wouldRoll_X4_blocksBelow
theorem dX9_wouldRoll_0 : decode cX9_wouldRoll 0 = .ok (.iload_n 1, 1) := by decide +kernel
theorem dX9_wouldRoll_1 : decode cX9_wouldRoll 1 = .ok (.i2l, 1) := by decide +kernel
theorem dX9_wouldRoll_2 : decode cX9_wouldRoll 2 = .ok (.iconst 0, 1) := by decide +kernel
theorem dX9_wouldRoll_3 : decode cX9_wouldRoll 3 = .ok (.sipush 10000, 3) := by decide +kernel
theorem dX9_wouldRoll_6 : decode cX9_wouldRoll 6 = .ok (.invokestatic 51, 3) := by decide +kernel
theorem dX9_wouldRoll_9 : decode cX9_wouldRoll 9 = .ok (.invokestatic 55, 3) := by decide +kernel
theorem dX9_wouldRoll_12 : decode cX9_wouldRoll 12 = .ok (.iload_n 1, 1) := by decide +kernel
theorem dX9_wouldRoll_13 : decode cX9_wouldRoll 13 = .ok (.ifCond .eq 15, 3) := by decide +kernel
theorem dX9_wouldRoll_16 : decode cX9_wouldRoll 16 = .ok (.aload_n 0, 1) := by decide +kernel
theorem dX9_wouldRoll_17 : decode cX9_wouldRoll 17 = .ok (.getfield 21, 3) := by decide +kernel
theorem dX9_wouldRoll_20 : decode cX9_wouldRoll 20 = .ok (.getfield 141, 3) := by decide +kernel
theorem dX9_wouldRoll_23 : decode cX9_wouldRoll 23 = .ok (.ldc 100, 2) := by decide +kernel
theorem dX9_wouldRoll_25 : decode cX9_wouldRoll 25 = .ok (.if_icmp .lt 5, 3) := by decide +kernel
theorem dX9_wouldRoll_28 : decode cX9_wouldRoll 28 = .ok (.iconst 0, 1) := by decide +kernel
theorem dX9_wouldRoll_29 : decode cX9_wouldRoll 29 = .ok (.ireturn, 1) := by decide +kernel
theorem dX9_wouldRoll_30 : decode cX9_wouldRoll 30 = .ok (.iconst 0, 1) := by decide +kernel
theorem dX9_wouldRoll_31 : decode cX9_wouldRoll 31 = .ok (.istore_n 2, 1) := by decide +kernel
theorem dX9_wouldRoll_32 : decode cX9_wouldRoll 32 = .ok (.iconst 0, 1) := by decide +kernel
theorem dX9_wouldRoll_33 : decode cX9_wouldRoll 33 = .ok (.istore_n 3, 1) := by decide +kernel
theorem dX9_wouldRoll_34 : decode cX9_wouldRoll 34 = .ok (.iload_n 3, 1) := by decide +kernel
theorem dX9_wouldRoll_35 : decode cX9_wouldRoll 35 = .ok (.aload_n 0, 1) := by decide +kernel
theorem dX9_wouldRoll_36 : decode cX9_wouldRoll 36 = .ok (.getfield 21, 3) := by decide +kernel
theorem dX9_wouldRoll_39 : decode cX9_wouldRoll 39 = .ok (.getfield 59, 3) := by decide +kernel
theorem dX9_wouldRoll_42 : decode cX9_wouldRoll 42 = .ok (.invokevirtual 63, 3) := by decide +kernel
theorem dX9_wouldRoll_45 : decode cX9_wouldRoll 45 = .ok (.if_icmp .ge 43, 3) := by decide +kernel
theorem dX9_wouldRoll_48 : decode cX9_wouldRoll 48 = .ok (.iload_n 2, 1) := by decide +kernel
theorem dX9_wouldRoll_49 : decode cX9_wouldRoll 49 = .ok (.aload_n 0, 1) := by decide +kernel
theorem dX9_wouldRoll_50 : decode cX9_wouldRoll 50 = .ok (.getfield 21, 3) := by decide +kernel
theorem dX9_wouldRoll_53 : decode cX9_wouldRoll 53 = .ok (.getfield 59, 3) := by decide +kernel
theorem dX9_wouldRoll_56 : decode cX9_wouldRoll 56 = .ok (.iload_n 3, 1) := by decide +kernel
theorem dX9_wouldRoll_57 : decode cX9_wouldRoll 57 = .ok (.invokevirtual 187, 3) := by decide +kernel
theorem dX9_wouldRoll_60 : decode cX9_wouldRoll 60 = .ok (.checkcast 72, 3) := by decide +kernel
theorem dX9_wouldRoll_63 : decode cX9_wouldRoll 63 = .ok (.getfield 116, 3) := by decide +kernel
theorem dX9_wouldRoll_66 : decode cX9_wouldRoll 66 = .ok (.aload_n 0, 1) := by decide +kernel
theorem dX9_wouldRoll_67 : decode cX9_wouldRoll 67 = .ok (.getfield 21, 3) := by decide +kernel
theorem dX9_wouldRoll_70 : decode cX9_wouldRoll 70 = .ok (.getfield 141, 3) := by decide +kernel
theorem dX9_wouldRoll_73 : decode cX9_wouldRoll 73 = .ok (.iconst 1, 1) := by decide +kernel
theorem dX9_wouldRoll_74 : decode cX9_wouldRoll 74 = .ok (.iadd, 1) := by decide +kernel
theorem dX9_wouldRoll_75 : decode cX9_wouldRoll 75 = .ok (.iload_n 1, 1) := by decide +kernel
theorem dX9_wouldRoll_76 : decode cX9_wouldRoll 76 = .ok (.isub, 1) := by decide +kernel
theorem dX9_wouldRoll_77 : decode cX9_wouldRoll 77 = .ok (.invokevirtual 252, 3) := by decide +kernel
theorem dX9_wouldRoll_80 : decode cX9_wouldRoll 80 = .ok (.iadd, 1) := by decide +kernel
theorem dX9_wouldRoll_81 : decode cX9_wouldRoll 81 = .ok (.istore_n 2, 1) := by decide +kernel
theorem dX9_wouldRoll_82 : decode cX9_wouldRoll 82 = .ok (.iinc 3 1, 3) := by decide +kernel
theorem dX9_wouldRoll_85 : decode cX9_wouldRoll 85 = .ok (.goto (-51), 3) := by decide +kernel
theorem dX9_wouldRoll_88 : decode cX9_wouldRoll 88 = .ok (.iload_n 2, 1) := by decide +kernel
theorem dX9_wouldRoll_89 : decode cX9_wouldRoll 89 = .ok (.ireturn, 1) := by decide +kernel
set_option maxRecDepth 20000 in
theorem ggX9_digest_Jx4a65c_size_8abf5 : GoodIn wsX9_digest wsJx4a65c_size_8abf5 := goodIn_r _ [21, 22, 242, 243, 244] (by decide +kernel) (by decide +kernel)
set_option maxRecDepth 20000 in
theorem gX9_digest_Jx4a65c_size_8abf5 : GoodIn wsX9_digest (wsV RX9 63 RJx4a65c yJx4a65c_size_8abf5 wsJx4a65c_size_8abf5) := goodIn_app (goodIn_of _ (by decide +kernel)) ggX9_digest_Jx4a65c_size_8abf5
set_option maxRecDepth 20000 in
theorem ggX9_digest_Jx4a65c_get_915e3 : GoodIn wsX9_digest wsJx4a65c_get_915e3 := goodIn_r _ [26, 22, 27, 28, 29, 30, 31, 32, 33, 34, 35, 36, 37, 20, 38, 39, 242, 243, 244] (by decide +kernel) (by decide +kernel)
set_option maxRecDepth 20000 in
theorem gX9_digest_Jx4a65c_get_915e3 : GoodIn wsX9_digest (wsV RX9 187 RJx4a65c yJx4a65c_get_915e3 wsJx4a65c_get_915e3) := goodIn_app (goodIn_of _ (by decide +kernel)) ggX9_digest_Jx4a65c_get_915e3
set_option maxRecDepth 20000 in
theorem ggX9_digest_X9_withBlocks : GoodIn wsX9_digest wsX9_withBlocks := goodIn_r _ [44, 2, 45, 46, 47, 48, 49, 50, 51, 52, 53, 54, 55, 56, 57, 58, 59, 60, 61, 62, 63, 64, 65, 66, 67, 68, 69, 70, 71, 72, 73, 74, 75, 76, 77, 78, 79, 80, 81, 82, 83, 84, 85, 86, 87, 88, 89, 90, 91, 92, 93, 94, 95, 96, 97, 98, 99, 100, 101, 102, 103, 104, 105, 106, 107, 108, 109, 43, 110, 111, 112, 113, 114, 115, 116, 211, 212, 213, 214, 215, 216, 217, 218, 219, 245, 246, 247, 248, 249, 250, 251, 252, 253, 254, 255, 256, 257, 258, 259] (by decide +kernel) (by decide +kernel)
set_option maxRecDepth 20000 in
theorem gX9_digest_X9_withBlocks : GoodIn wsX9_digest (wsV RX9 259 RX9 yX9_withBlocks wsX9_withBlocks) := goodIn_app (goodIn_of _ (by decide +kernel)) ggX9_digest_X9_withBlocks
set_option maxRecDepth 20000 in
theorem ggX9_digest_X9_withBuckets : GoodIn wsX9_digest wsX9_withBuckets := goodIn_r _ [119, 2, 120, 121, 122, 123, 124, 125, 126, 127, 252, 253, 245, 246, 247, 248, 249, 250, 251] (by decide +kernel) (by decide +kernel)
set_option maxRecDepth 20000 in
theorem gX9_digest_X9_withBuckets : GoodIn wsX9_digest (va_wsS RX9 267 yX9_withBuckets wsX9_withBuckets) := goodIn_app (goodIn_of _ (by decide +kernel)) ggX9_digest_X9_withBuckets
set_option maxRecDepth 20000 in
theorem ggX9_digest_X9_withWindows : GoodIn wsX9_digest wsX9_withWindows := goodIn_r _ [131, 2, 132, 133, 134, 43, 135, 136, 137, 138, 139, 140, 141, 142, 143, 144, 145, 146, 147, 148, 149, 150, 151, 152, 153, 154, 121, 155, 156, 157, 62, 158, 159, 160, 161, 162, 123, 124, 125, 126, 127, 163, 92, 93, 49, 94, 95, 96, 164, 165, 166, 167, 168, 169, 170, 171, 172, 173, 174, 175, 176, 177, 178, 179, 180, 181, 182, 183, 184, 185, 186, 187, 188, 189, 190, 191, 192, 193, 194, 211, 212, 213, 214, 215, 216, 217, 218, 219, 228, 229, 230, 231, 232, 252, 253, 245, 246, 247, 248, 249, 250, 251] (by decide +kernel) (by decide +kernel)
set_option maxRecDepth 20000 in
theorem gX9_digest_X9_withWindows : GoodIn wsX9_digest (wsV RX9 274 RX9 yX9_withWindows wsX9_withWindows) := goodIn_app (goodIn_of _ (by decide +kernel)) ggX9_digest_X9_withWindows
set_option maxRecDepth 20000 in
theorem ggX9_digest_X5_told : GoodIn wsX9_digest wsX5_told := goodIn_r _ [199, 200, 201, 202, 203, 141, 142, 143, 144, 145, 146, 147, 148, 149, 150, 151, 152, 153, 154, 121, 155, 156, 157, 62, 158, 159, 160, 161, 162, 123, 124, 125, 126, 127, 163, 92, 93, 49, 94, 95, 96, 164, 165, 166, 167, 168, 169, 170, 171, 172, 173, 174, 175, 176, 177, 178, 179, 180, 181, 182, 183, 184, 185, 186, 187, 188, 189, 190, 191, 192, 193, 194, 233, 234, 235, 236, 237, 238, 239, 240, 241, 228, 229, 230, 231, 232, 252, 253, 245, 246, 247, 248, 249, 250, 251] (by decide +kernel) (by decide +kernel)
set_option maxRecDepth 20000 in
theorem gX9_digest_X5_told : GoodIn wsX9_digest (wsV RX9 234 RX5 yX5_told wsX5_told) := goodIn_app (goodIn_of _ (by decide +kernel)) ggX9_digest_X5_told
set_option maxRecDepth 20000 in
theorem ggX9_digest_X1_number : GoodIn wsX9_digest wsX1_number := goodIn_r _ [208, 209, 210, 225, 226, 227] (by decide +kernel) (by decide +kernel)
set_option maxRecDepth 20000 in
theorem gX9_digest_X1_number : GoodIn wsX9_digest (wsV RX9 237 RX1 yX1_number wsX1_number) := goodIn_app (goodIn_of _ (by decide +kernel)) ggX9_digest_X1_number
theorem dX9_digest_0 : decode cX9_digest 0 = .ok (.ldc2_w 255, 3) := by decide +kernel
theorem dX9_digest_3 : decode cX9_digest 3 = .ok (.lstore_n 1, 1) := by decide +kernel
theorem dX9_digest_4 : decode cX9_digest 4 = .ok (.lload_n 1, 1) := by decide +kernel
theorem dX9_digest_5 : decode cX9_digest 5 = .ok (.ldc2_w 257, 3) := by decide +kernel
theorem dX9_digest_8 : decode cX9_digest 8 = .ok (.lmul, 1) := by decide +kernel
theorem dX9_digest_9 : decode cX9_digest 9 = .ok (.aload_n 0, 1) := by decide +kernel
theorem dX9_digest_10 : decode cX9_digest 10 = .ok (.getfield 21, 3) := by decide +kernel
theorem dX9_digest_13 : decode cX9_digest 13 = .ok (.getfield 141, 3) := by decide +kernel
theorem dX9_digest_16 : decode cX9_digest 16 = .ok (.i2l, 1) := by decide +kernel
theorem dX9_digest_17 : decode cX9_digest 17 = .ok (.ladd, 1) := by decide +kernel
theorem dX9_digest_18 : decode cX9_digest 18 = .ok (.lstore_n 1, 1) := by decide +kernel
theorem dX9_digest_19 : decode cX9_digest 19 = .ok (.lload_n 1, 1) := by decide +kernel
theorem dX9_digest_20 : decode cX9_digest 20 = .ok (.ldc2_w 257, 3) := by decide +kernel
theorem dX9_digest_23 : decode cX9_digest 23 = .ok (.lmul, 1) := by decide +kernel
theorem dX9_digest_24 : decode cX9_digest 24 = .ok (.aload_n 0, 1) := by decide +kernel
theorem dX9_digest_25 : decode cX9_digest 25 = .ok (.getfield 21, 3) := by decide +kernel
theorem dX9_digest_28 : decode cX9_digest 28 = .ok (.getfield 59, 3) := by decide +kernel
theorem dX9_digest_31 : decode cX9_digest 31 = .ok (.invokevirtual 63, 3) := by decide +kernel
theorem dX9_digest_34 : decode cX9_digest 34 = .ok (.i2l, 1) := by decide +kernel
theorem dX9_digest_35 : decode cX9_digest 35 = .ok (.ladd, 1) := by decide +kernel
theorem dX9_digest_36 : decode cX9_digest 36 = .ok (.lstore_n 1, 1) := by decide +kernel
theorem dX9_digest_37 : decode cX9_digest 37 = .ok (.lload_n 1, 1) := by decide +kernel
theorem dX9_digest_38 : decode cX9_digest 38 = .ok (.ldc2_w 257, 3) := by decide +kernel
theorem dX9_digest_41 : decode cX9_digest 41 = .ok (.lmul, 1) := by decide +kernel
theorem dX9_digest_42 : decode cX9_digest 42 = .ok (.aload_n 0, 1) := by decide +kernel
theorem dX9_digest_43 : decode cX9_digest 43 = .ok (.getfield 48, 3) := by decide +kernel
theorem dX9_digest_46 : decode cX9_digest 46 = .ok (.i2l, 1) := by decide +kernel
theorem dX9_digest_47 : decode cX9_digest 47 = .ok (.ladd, 1) := by decide +kernel
theorem dX9_digest_48 : decode cX9_digest 48 = .ok (.lstore_n 1, 1) := by decide +kernel
theorem dX9_digest_49 : decode cX9_digest 49 = .ok (.lload_n 1, 1) := by decide +kernel
theorem dX9_digest_50 : decode cX9_digest 50 = .ok (.ldc2_w 257, 3) := by decide +kernel
theorem dX9_digest_53 : decode cX9_digest 53 = .ok (.lmul, 1) := by decide +kernel
theorem dX9_digest_54 : decode cX9_digest 54 = .ok (.aload_n 0, 1) := by decide +kernel
theorem dX9_digest_55 : decode cX9_digest 55 = .ok (.getfield 21, 3) := by decide +kernel
theorem dX9_digest_58 : decode cX9_digest 58 = .ok (.getfield 129, 3) := by decide +kernel
theorem dX9_digest_61 : decode cX9_digest 61 = .ok (.getfield 133, 3) := by decide +kernel
theorem dX9_digest_64 : decode cX9_digest 64 = .ok (.i2l, 1) := by decide +kernel
theorem dX9_digest_65 : decode cX9_digest 65 = .ok (.ladd, 1) := by decide +kernel
theorem dX9_digest_66 : decode cX9_digest 66 = .ok (.lstore_n 1, 1) := by decide +kernel
theorem dX9_digest_67 : decode cX9_digest 67 = .ok (.iconst 0, 1) := by decide +kernel
theorem dX9_digest_68 : decode cX9_digest 68 = .ok (.istore_n 3, 1) := by decide +kernel
theorem dX9_digest_69 : decode cX9_digest 69 = .ok (.iload_n 3, 1) := by decide +kernel
theorem dX9_digest_70 : decode cX9_digest 70 = .ok (.aload_n 0, 1) := by decide +kernel
theorem dX9_digest_71 : decode cX9_digest 71 = .ok (.getfield 21, 3) := by decide +kernel
theorem dX9_digest_74 : decode cX9_digest 74 = .ok (.getfield 59, 3) := by decide +kernel
theorem dX9_digest_77 : decode cX9_digest 77 = .ok (.invokevirtual 63, 3) := by decide +kernel
theorem dX9_digest_80 : decode cX9_digest 80 = .ok (.if_icmp .ge 64, 3) := by decide +kernel
theorem dX9_digest_83 : decode cX9_digest 83 = .ok (.aload_n 0, 1) := by decide +kernel
theorem dX9_digest_84 : decode cX9_digest 84 = .ok (.getfield 21, 3) := by decide +kernel
theorem dX9_digest_87 : decode cX9_digest 87 = .ok (.getfield 59, 3) := by decide +kernel
theorem dX9_digest_90 : decode cX9_digest 90 = .ok (.iload_n 3, 1) := by decide +kernel
theorem dX9_digest_91 : decode cX9_digest 91 = .ok (.invokevirtual 187, 3) := by decide +kernel
theorem dX9_digest_94 : decode cX9_digest 94 = .ok (.checkcast 72, 3) := by decide +kernel
theorem dX9_digest_97 : decode cX9_digest 97 = .ok (.astore 4, 2) := by decide +kernel
theorem dX9_digest_99 : decode cX9_digest 99 = .ok (.aload_n 0, 1) := by decide +kernel
theorem dX9_digest_100 : decode cX9_digest 100 = .ok (.lload_n 1, 1) := by decide +kernel
theorem dX9_digest_101 : decode cX9_digest 101 = .ok (.aload 4, 2) := by decide +kernel
theorem dX9_digest_103 : decode cX9_digest 103 = .ok (.getfield 116, 3) := by decide +kernel
theorem dX9_digest_106 : decode cX9_digest 106 = .ok (.invokevirtual 259, 3) := by decide +kernel
theorem dX9_digest_109 : decode cX9_digest 109 = .ok (.lstore_n 1, 1) := by decide +kernel
theorem dX9_digest_110 : decode cX9_digest 110 = .ok (.lload_n 1, 1) := by decide +kernel
theorem dX9_digest_111 : decode cX9_digest 111 = .ok (.aload 4, 2) := by decide +kernel
theorem dX9_digest_113 : decode cX9_digest 113 = .ok (.getfield 263, 3) := by decide +kernel
theorem dX9_digest_116 : decode cX9_digest 116 = .ok (.invokestatic 267, 3) := by decide +kernel
theorem dX9_digest_119 : decode cX9_digest 119 = .ok (.lstore_n 1, 1) := by decide +kernel
theorem dX9_digest_120 : decode cX9_digest 120 = .ok (.lload_n 1, 1) := by decide +kernel
theorem dX9_digest_121 : decode cX9_digest 121 = .ok (.aload 4, 2) := by decide +kernel
theorem dX9_digest_123 : decode cX9_digest 123 = .ok (.getfield 271, 3) := by decide +kernel
theorem dX9_digest_126 : decode cX9_digest 126 = .ok (.invokestatic 267, 3) := by decide +kernel
theorem dX9_digest_129 : decode cX9_digest 129 = .ok (.lstore_n 1, 1) := by decide +kernel
theorem dX9_digest_130 : decode cX9_digest 130 = .ok (.aload_n 0, 1) := by decide +kernel
theorem dX9_digest_131 : decode cX9_digest 131 = .ok (.lload_n 1, 1) := by decide +kernel
theorem dX9_digest_132 : decode cX9_digest 132 = .ok (.aload 4, 2) := by decide +kernel
theorem dX9_digest_134 : decode cX9_digest 134 = .ok (.invokevirtual 274, 3) := by decide +kernel
theorem dX9_digest_137 : decode cX9_digest 137 = .ok (.lstore_n 1, 1) := by decide +kernel
theorem dX9_digest_138 : decode cX9_digest 138 = .ok (.iinc 3 1, 3) := by decide +kernel
theorem dX9_digest_141 : decode cX9_digest 141 = .ok (.goto (-72), 3) := by decide +kernel
theorem dX9_digest_144 : decode cX9_digest 144 = .ok (.iconst 0, 1) := by decide +kernel
theorem dX9_digest_145 : decode cX9_digest 145 = .ok (.istore_n 3, 1) := by decide +kernel
theorem dX9_digest_146 : decode cX9_digest 146 = .ok (.iload_n 3, 1) := by decide +kernel
theorem dX9_digest_147 : decode cX9_digest 147 = .ok (.aload_n 0, 1) := by decide +kernel
theorem dX9_digest_148 : decode cX9_digest 148 = .ok (.getfield 21, 3) := by decide +kernel
theorem dX9_digest_151 : decode cX9_digest 151 = .ok (.getfield 216, 3) := by decide +kernel
theorem dX9_digest_154 : decode cX9_digest 154 = .ok (.invokevirtual 63, 3) := by decide +kernel
theorem dX9_digest_157 : decode cX9_digest 157 = .ok (.if_icmp .ge 71, 3) := by decide +kernel
theorem dX9_digest_160 : decode cX9_digest 160 = .ok (.aload_n 0, 1) := by decide +kernel
theorem dX9_digest_161 : decode cX9_digest 161 = .ok (.getfield 21, 3) := by decide +kernel
theorem dX9_digest_164 : decode cX9_digest 164 = .ok (.getfield 216, 3) := by decide +kernel
theorem dX9_digest_167 : decode cX9_digest 167 = .ok (.iload_n 3, 1) := by decide +kernel
theorem dX9_digest_168 : decode cX9_digest 168 = .ok (.invokevirtual 187, 3) := by decide +kernel
theorem dX9_digest_171 : decode cX9_digest 171 = .ok (.checkcast 219, 3) := by decide +kernel
theorem dX9_digest_174 : decode cX9_digest 174 = .ok (.astore 4, 2) := by decide +kernel
theorem dX9_digest_176 : decode cX9_digest 176 = .ok (.lload_n 1, 1) := by decide +kernel
theorem dX9_digest_177 : decode cX9_digest 177 = .ok (.ldc2_w 257, 3) := by decide +kernel
theorem dX9_digest_180 : decode cX9_digest 180 = .ok (.lmul, 1) := by decide +kernel
theorem dX9_digest_181 : decode cX9_digest 181 = .ok (.aload 4, 2) := by decide +kernel
theorem dX9_digest_183 : decode cX9_digest 183 = .ok (.getfield 228, 3) := by decide +kernel
theorem dX9_digest_186 : decode cX9_digest 186 = .ok (.i2l, 1) := by decide +kernel
theorem dX9_digest_187 : decode cX9_digest 187 = .ok (.ladd, 1) := by decide +kernel
theorem dX9_digest_188 : decode cX9_digest 188 = .ok (.lstore_n 1, 1) := by decide +kernel
theorem dX9_digest_189 : decode cX9_digest 189 = .ok (.lload_n 1, 1) := by decide +kernel
theorem dX9_digest_190 : decode cX9_digest 190 = .ok (.ldc2_w 257, 3) := by decide +kernel
theorem dX9_digest_193 : decode cX9_digest 193 = .ok (.lmul, 1) := by decide +kernel
theorem dX9_digest_194 : decode cX9_digest 194 = .ok (.aload 4, 2) := by decide +kernel
theorem dX9_digest_196 : decode cX9_digest 196 = .ok (.getfield 231, 3) := by decide +kernel
theorem dX9_digest_199 : decode cX9_digest 199 = .ok (.i2l, 1) := by decide +kernel
theorem dX9_digest_200 : decode cX9_digest 200 = .ok (.ladd, 1) := by decide +kernel
theorem dX9_digest_201 : decode cX9_digest 201 = .ok (.lstore_n 1, 1) := by decide +kernel
theorem dX9_digest_202 : decode cX9_digest 202 = .ok (.lload_n 1, 1) := by decide +kernel
theorem dX9_digest_203 : decode cX9_digest 203 = .ok (.ldc2_w 257, 3) := by decide +kernel
theorem dX9_digest_206 : decode cX9_digest 206 = .ok (.lmul, 1) := by decide +kernel
theorem dX9_digest_207 : decode cX9_digest 207 = .ok (.aload 4, 2) := by decide +kernel
theorem dX9_digest_209 : decode cX9_digest 209 = .ok (.aload_n 0, 1) := by decide +kernel
theorem dX9_digest_210 : decode cX9_digest 210 = .ok (.getfield 21, 3) := by decide +kernel
theorem dX9_digest_213 : decode cX9_digest 213 = .ok (.getfield 141, 3) := by decide +kernel
theorem dX9_digest_216 : decode cX9_digest 216 = .ok (.invokevirtual 234, 3) := by decide +kernel
theorem dX9_digest_219 : decode cX9_digest 219 = .ok (.i2l, 1) := by decide +kernel
theorem dX9_digest_220 : decode cX9_digest 220 = .ok (.ladd, 1) := by decide +kernel
theorem dX9_digest_221 : decode cX9_digest 221 = .ok (.lstore_n 1, 1) := by decide +kernel
theorem dX9_digest_222 : decode cX9_digest 222 = .ok (.iinc 3 1, 3) := by decide +kernel
theorem dX9_digest_225 : decode cX9_digest 225 = .ok (.goto (-79), 3) := by decide +kernel
theorem dX9_digest_228 : decode cX9_digest 228 = .ok (.iconst 0, 1) := by decide +kernel
theorem dX9_digest_229 : decode cX9_digest 229 = .ok (.istore_n 3, 1) := by decide +kernel
theorem dX9_digest_230 : decode cX9_digest 230 = .ok (.iload_n 3, 1) := by decide +kernel
theorem dX9_digest_231 : decode cX9_digest 231 = .ok (.iconst 5, 1) := by decide +kernel
theorem dX9_digest_232 : decode cX9_digest 232 = .ok (.if_icmp .ge 59, 3) := by decide +kernel
theorem dX9_digest_235 : decode cX9_digest 235 = .ok (.iload_n 3, 1) := by decide +kernel
theorem dX9_digest_236 : decode cX9_digest 236 = .ok (.aload_n 0, 1) := by decide +kernel
theorem dX9_digest_237 : decode cX9_digest 237 = .ok (.getfield 21, 3) := by decide +kernel
theorem dX9_digest_240 : decode cX9_digest 240 = .ok (.getfield 129, 3) := by decide +kernel
theorem dX9_digest_243 : decode cX9_digest 243 = .ok (.getfield 133, 3) := by decide +kernel
theorem dX9_digest_246 : decode cX9_digest 246 = .ok (.if_icmp .ge 45, 3) := by decide +kernel
theorem dX9_digest_249 : decode cX9_digest 249 = .ok (.iconst 0, 1) := by decide +kernel
theorem dX9_digest_250 : decode cX9_digest 250 = .ok (.istore 4, 2) := by decide +kernel
theorem dX9_digest_252 : decode cX9_digest 252 = .ok (.iload 4, 2) := by decide +kernel
theorem dX9_digest_254 : decode cX9_digest 254 = .ok (.iconst 3, 1) := by decide +kernel
theorem dX9_digest_255 : decode cX9_digest 255 = .ok (.if_icmp .ge 30, 3) := by decide +kernel
theorem dX9_digest_258 : decode cX9_digest 258 = .ok (.lload_n 1, 1) := by decide +kernel
theorem dX9_digest_259 : decode cX9_digest 259 = .ok (.ldc2_w 257, 3) := by decide +kernel
theorem dX9_digest_262 : decode cX9_digest 262 = .ok (.lmul, 1) := by decide +kernel
theorem dX9_digest_263 : decode cX9_digest 263 = .ok (.aload_n 0, 1) := by decide +kernel
theorem dX9_digest_264 : decode cX9_digest 264 = .ok (.getfield 21, 3) := by decide +kernel
theorem dX9_digest_267 : decode cX9_digest 267 = .ok (.getfield 129, 3) := by decide +kernel
theorem dX9_digest_270 : decode cX9_digest 270 = .ok (.iload_n 3, 1) := by decide +kernel
theorem dX9_digest_271 : decode cX9_digest 271 = .ok (.iload 4, 2) := by decide +kernel
theorem dX9_digest_273 : decode cX9_digest 273 = .ok (.invokevirtual 237, 3) := by decide +kernel
theorem dX9_digest_276 : decode cX9_digest 276 = .ok (.i2l, 1) := by decide +kernel
theorem dX9_digest_277 : decode cX9_digest 277 = .ok (.ladd, 1) := by decide +kernel
theorem dX9_digest_278 : decode cX9_digest 278 = .ok (.lstore_n 1, 1) := by decide +kernel
theorem dX9_digest_279 : decode cX9_digest 279 = .ok (.iinc 4 1, 3) := by decide +kernel
theorem dX9_digest_282 : decode cX9_digest 282 = .ok (.goto (-30), 3) := by decide +kernel
theorem dX9_digest_285 : decode cX9_digest 285 = .ok (.iinc 3 1, 3) := by decide +kernel
theorem dX9_digest_288 : decode cX9_digest 288 = .ok (.goto (-58), 3) := by decide +kernel
theorem dX9_digest_291 : decode cX9_digest 291 = .ok (.lload_n 1, 1) := by decide +kernel
theorem dX9_digest_292 : decode cX9_digest 292 = .ok (.lreturn, 1) := by decide +kernel
set_option maxRecDepth 20000 in
theorem ggX9_withBlocks_X4_blockCount : GoodIn wsX9_withBlocks wsX4_blockCount := goodIn_r _ [7, 8, 84, 85, 86, 87, 88, 89, 90] (by decide +kernel) (by decide +kernel)
set_option maxRecDepth 20000 in
theorem gX9_withBlocks_X4_blockCount : GoodIn wsX9_withBlocks (wsV RX9 144 RX4 yX4_blockCount wsX4_blockCount) := goodIn_app (goodIn_of _ (by decide +kernel)) ggX9_withBlocks_X4_blockCount
set_option maxRecDepth 20000 in
theorem ggX9_withBlocks_X4_sizeOf : GoodIn wsX9_withBlocks wsX4_sizeOf := goodIn_r _ [12, 8, 13, 14, 15, 16, 6, 17, 18, 19, 20, 84, 85, 86, 87, 88, 89, 90, 91, 92] (by decide +kernel) (by decide +kernel)
set_option maxRecDepth 20000 in
theorem gX9_withBlocks_X4_sizeOf : GoodIn wsX9_withBlocks (wsV RX9 153 RX4 yX4_sizeOf wsX4_sizeOf) := goodIn_app (goodIn_of _ (by decide +kernel)) ggX9_withBlocks_X4_sizeOf
set_option maxRecDepth 20000 in
theorem ggX9_withBlocks_X3_pack : GoodIn wsX9_withBlocks wsX3_pack := goodIn_r _ [25, 26, 27, 28, 29, 30, 6, 31, 8, 32, 10, 11, 12, 13, 14, 15, 16, 17, 18, 19, 20, 33, 34, 35, 36, 24, 37, 38, 39, 40, 41, 42, 43, 44, 45, 46, 47, 48, 49, 50, 51, 52, 53, 54, 55, 56, 57, 58, 59, 60, 61, 62, 63, 64, 65, 66, 67, 68, 69, 70, 71, 72, 73, 84, 85, 86, 87, 88, 89, 90, 93, 94, 95, 96, 97, 98, 91, 92] (by decide +kernel) (by decide +kernel)
set_option maxRecDepth 20000 in
theorem gX9_withBlocks_X3_pack : GoodIn wsX9_withBlocks (wsV RX9 164 RX3 yX3_pack wsX3_pack) := goodIn_app (goodIn_of _ (by decide +kernel)) ggX9_withBlocks_X3_pack
set_option maxRecDepth 20000 in
theorem ggX9_withBlocks_X4_number : GoodIn wsX9_withBlocks wsX4_number := goodIn_r _ [51, 52, 53, 84, 85, 86, 87, 88, 89, 90] (by decide +kernel) (by decide +kernel)
set_option maxRecDepth 20000 in
theorem gX9_withBlocks_X4_number : GoodIn wsX9_withBlocks (wsV RX9 160 RX4 yX4_number wsX4_number) := goodIn_app (goodIn_of _ (by decide +kernel)) ggX9_withBlocks_X4_number
theorem dX9_withBlocks_0 : decode cX9_withBlocks 0 = .ok (.lload_n 1, 1) := by decide +kernel
theorem dX9_withBlocks_1 : decode cX9_withBlocks 1 = .ok (.ldc2_w 257, 3) := by decide +kernel
theorem dX9_withBlocks_4 : decode cX9_withBlocks 4 = .ok (.lmul, 1) := by decide +kernel
theorem dX9_withBlocks_5 : decode cX9_withBlocks 5 = .ok (.aload_n 3, 1) := by decide +kernel
theorem dX9_withBlocks_6 : decode cX9_withBlocks 6 = .ok (.invokevirtual 144, 3) := by decide +kernel
theorem dX9_withBlocks_9 : decode cX9_withBlocks 9 = .ok (.i2l, 1) := by decide +kernel
theorem dX9_withBlocks_10 : decode cX9_withBlocks 10 = .ok (.ladd, 1) := by decide +kernel
theorem dX9_withBlocks_11 : decode cX9_withBlocks 11 = .ok (.lstore 4, 2) := by decide +kernel
theorem dX9_withBlocks_13 : decode cX9_withBlocks 13 = .ok (.iconst 0, 1) := by decide +kernel
theorem dX9_withBlocks_14 : decode cX9_withBlocks 14 = .ok (.istore 6, 2) := by decide +kernel
theorem dX9_withBlocks_16 : decode cX9_withBlocks 16 = .ok (.iconst 0, 1) := by decide +kernel
theorem dX9_withBlocks_17 : decode cX9_withBlocks 17 = .ok (.istore 7, 2) := by decide +kernel
theorem dX9_withBlocks_19 : decode cX9_withBlocks 19 = .ok (.iload 7, 2) := by decide +kernel
theorem dX9_withBlocks_21 : decode cX9_withBlocks 21 = .ok (.aload_n 3, 1) := by decide +kernel
theorem dX9_withBlocks_22 : decode cX9_withBlocks 22 = .ok (.invokevirtual 144, 3) := by decide +kernel
theorem dX9_withBlocks_25 : decode cX9_withBlocks 25 = .ok (.if_icmp .ge 102, 3) := by decide +kernel
theorem dX9_withBlocks_28 : decode cX9_withBlocks 28 = .ok (.aload_n 3, 1) := by decide +kernel
theorem dX9_withBlocks_29 : decode cX9_withBlocks 29 = .ok (.iload 7, 2) := by decide +kernel
theorem dX9_withBlocks_31 : decode cX9_withBlocks 31 = .ok (.invokevirtual 153, 3) := by decide +kernel
theorem dX9_withBlocks_34 : decode cX9_withBlocks 34 = .ok (.istore 8, 2) := by decide +kernel
theorem dX9_withBlocks_36 : decode cX9_withBlocks 36 = .ok (.lload 4, 2) := by decide +kernel
theorem dX9_withBlocks_38 : decode cX9_withBlocks 38 = .ok (.ldc2_w 257, 3) := by decide +kernel
theorem dX9_withBlocks_41 : decode cX9_withBlocks 41 = .ok (.lmul, 1) := by decide +kernel
theorem dX9_withBlocks_42 : decode cX9_withBlocks 42 = .ok (.iload 8, 2) := by decide +kernel
theorem dX9_withBlocks_44 : decode cX9_withBlocks 44 = .ok (.i2l, 1) := by decide +kernel
theorem dX9_withBlocks_45 : decode cX9_withBlocks 45 = .ok (.ladd, 1) := by decide +kernel
theorem dX9_withBlocks_46 : decode cX9_withBlocks 46 = .ok (.lstore 4, 2) := by decide +kernel
theorem dX9_withBlocks_48 : decode cX9_withBlocks 48 = .ok (.lload 4, 2) := by decide +kernel
theorem dX9_withBlocks_50 : decode cX9_withBlocks 50 = .ok (.ldc2_w 257, 3) := by decide +kernel
theorem dX9_withBlocks_53 : decode cX9_withBlocks 53 = .ok (.lmul, 1) := by decide +kernel
theorem dX9_withBlocks_54 : decode cX9_withBlocks 54 = .ok (.aload_n 0, 1) := by decide +kernel
theorem dX9_withBlocks_55 : decode cX9_withBlocks 55 = .ok (.getfield 31, 3) := by decide +kernel
theorem dX9_withBlocks_58 : decode cX9_withBlocks 58 = .ok (.aload_n 3, 1) := by decide +kernel
theorem dX9_withBlocks_59 : decode cX9_withBlocks 59 = .ok (.iload 7, 2) := by decide +kernel
theorem dX9_withBlocks_61 : decode cX9_withBlocks 61 = .ok (.invokevirtual 164, 3) := by decide +kernel
theorem dX9_withBlocks_64 : decode cX9_withBlocks 64 = .ok (.i2l, 1) := by decide +kernel
theorem dX9_withBlocks_65 : decode cX9_withBlocks 65 = .ok (.ladd, 1) := by decide +kernel
theorem dX9_withBlocks_66 : decode cX9_withBlocks 66 = .ok (.lstore 4, 2) := by decide +kernel
theorem dX9_withBlocks_68 : decode cX9_withBlocks 68 = .ok (.iconst 0, 1) := by decide +kernel
theorem dX9_withBlocks_69 : decode cX9_withBlocks 69 = .ok (.istore 9, 2) := by decide +kernel
theorem dX9_withBlocks_71 : decode cX9_withBlocks 71 = .ok (.iload 9, 2) := by decide +kernel
theorem dX9_withBlocks_73 : decode cX9_withBlocks 73 = .ok (.iload 8, 2) := by decide +kernel
theorem dX9_withBlocks_75 : decode cX9_withBlocks 75 = .ok (.if_icmp .ge 46, 3) := by decide +kernel
theorem dX9_withBlocks_78 : decode cX9_withBlocks 78 = .ok (.lload 4, 2) := by decide +kernel
theorem dX9_withBlocks_80 : decode cX9_withBlocks 80 = .ok (.ldc2_w 257, 3) := by decide +kernel
theorem dX9_withBlocks_83 : decode cX9_withBlocks 83 = .ok (.lmul, 1) := by decide +kernel
theorem dX9_withBlocks_84 : decode cX9_withBlocks 84 = .ok (.aload_n 3, 1) := by decide +kernel
theorem dX9_withBlocks_85 : decode cX9_withBlocks 85 = .ok (.iload 6, 2) := by decide +kernel
theorem dX9_withBlocks_87 : decode cX9_withBlocks 87 = .ok (.iconst 0, 1) := by decide +kernel
theorem dX9_withBlocks_88 : decode cX9_withBlocks 88 = .ok (.invokevirtual 160, 3) := by decide +kernel
theorem dX9_withBlocks_91 : decode cX9_withBlocks 91 = .ok (.i2l, 1) := by decide +kernel
theorem dX9_withBlocks_92 : decode cX9_withBlocks 92 = .ok (.ladd, 1) := by decide +kernel
theorem dX9_withBlocks_93 : decode cX9_withBlocks 93 = .ok (.lstore 4, 2) := by decide +kernel
theorem dX9_withBlocks_95 : decode cX9_withBlocks 95 = .ok (.lload 4, 2) := by decide +kernel
theorem dX9_withBlocks_97 : decode cX9_withBlocks 97 = .ok (.ldc2_w 257, 3) := by decide +kernel
theorem dX9_withBlocks_100 : decode cX9_withBlocks 100 = .ok (.lmul, 1) := by decide +kernel
theorem dX9_withBlocks_101 : decode cX9_withBlocks 101 = .ok (.aload_n 3, 1) := by decide +kernel
theorem dX9_withBlocks_102 : decode cX9_withBlocks 102 = .ok (.iload 6, 2) := by decide +kernel
theorem dX9_withBlocks_104 : decode cX9_withBlocks 104 = .ok (.iconst 5, 1) := by decide +kernel
theorem dX9_withBlocks_105 : decode cX9_withBlocks 105 = .ok (.invokevirtual 160, 3) := by decide +kernel
theorem dX9_withBlocks_108 : decode cX9_withBlocks 108 = .ok (.i2l, 1) := by decide +kernel
theorem dX9_withBlocks_109 : decode cX9_withBlocks 109 = .ok (.ladd, 1) := by decide +kernel
theorem dX9_withBlocks_110 : decode cX9_withBlocks 110 = .ok (.lstore 4, 2) := by decide +kernel
theorem dX9_withBlocks_112 : decode cX9_withBlocks 112 = .ok (.iinc 6 1, 3) := by decide +kernel
theorem dX9_withBlocks_115 : decode cX9_withBlocks 115 = .ok (.iinc 9 1, 3) := by decide +kernel
theorem dX9_withBlocks_118 : decode cX9_withBlocks 118 = .ok (.goto (-47), 3) := by decide +kernel
theorem dX9_withBlocks_121 : decode cX9_withBlocks 121 = .ok (.iinc 7 1, 3) := by decide +kernel
theorem dX9_withBlocks_124 : decode cX9_withBlocks 124 = .ok (.goto (-105), 3) := by decide +kernel
theorem dX9_withBlocks_127 : decode cX9_withBlocks 127 = .ok (.lload 4, 2) := by decide +kernel
theorem dX9_withBlocks_129 : decode cX9_withBlocks 129 = .ok (.lreturn, 1) := by decide +kernel
set_option maxRecDepth 20000 in
theorem ggX9_withBuckets_X0_number : GoodIn wsX9_withBuckets wsX0_number := goodIn_r _ [8, 9, 10, 11] (by decide +kernel) (by decide +kernel)
set_option maxRecDepth 20000 in
theorem gX9_withBuckets_X0_number : GoodIn wsX9_withBuckets (wsV RX9 183 RX0 yX0_number wsX0_number) := goodIn_app (goodIn_of _ (by decide +kernel)) ggX9_withBuckets_X0_number
theorem dX9_withBuckets_0 : decode cX9_withBuckets 0 = .ok (.lload_n 0, 1) := by decide +kernel
theorem dX9_withBuckets_1 : decode cX9_withBuckets 1 = .ok (.ldc2_w 257, 3) := by decide +kernel
theorem dX9_withBuckets_4 : decode cX9_withBuckets 4 = .ok (.lmul, 1) := by decide +kernel
theorem dX9_withBuckets_5 : decode cX9_withBuckets 5 = .ok (.aload_n 2, 1) := by decide +kernel
theorem dX9_withBuckets_6 : decode cX9_withBuckets 6 = .ok (.getfield 178, 3) := by decide +kernel
theorem dX9_withBuckets_9 : decode cX9_withBuckets 9 = .ok (.i2l, 1) := by decide +kernel
theorem dX9_withBuckets_10 : decode cX9_withBuckets 10 = .ok (.ladd, 1) := by decide +kernel
theorem dX9_withBuckets_11 : decode cX9_withBuckets 11 = .ok (.lstore_n 3, 1) := by decide +kernel
theorem dX9_withBuckets_12 : decode cX9_withBuckets 12 = .ok (.iconst 0, 1) := by decide +kernel
theorem dX9_withBuckets_13 : decode cX9_withBuckets 13 = .ok (.istore 5, 2) := by decide +kernel
theorem dX9_withBuckets_15 : decode cX9_withBuckets 15 = .ok (.iload 5, 2) := by decide +kernel
theorem dX9_withBuckets_17 : decode cX9_withBuckets 17 = .ok (.aload_n 2, 1) := by decide +kernel
theorem dX9_withBuckets_18 : decode cX9_withBuckets 18 = .ok (.getfield 178, 3) := by decide +kernel
theorem dX9_withBuckets_21 : decode cX9_withBuckets 21 = .ok (.if_icmp .ge 41, 3) := by decide +kernel
theorem dX9_withBuckets_24 : decode cX9_withBuckets 24 = .ok (.iconst 0, 1) := by decide +kernel
theorem dX9_withBuckets_25 : decode cX9_withBuckets 25 = .ok (.istore 6, 2) := by decide +kernel
theorem dX9_withBuckets_27 : decode cX9_withBuckets 27 = .ok (.iload 6, 2) := by decide +kernel
theorem dX9_withBuckets_29 : decode cX9_withBuckets 29 = .ok (.bipush 6, 2) := by decide +kernel
theorem dX9_withBuckets_31 : decode cX9_withBuckets 31 = .ok (.if_icmp .gt 25, 3) := by decide +kernel
theorem dX9_withBuckets_34 : decode cX9_withBuckets 34 = .ok (.lload_n 3, 1) := by decide +kernel
theorem dX9_withBuckets_35 : decode cX9_withBuckets 35 = .ok (.ldc2_w 257, 3) := by decide +kernel
theorem dX9_withBuckets_38 : decode cX9_withBuckets 38 = .ok (.lmul, 1) := by decide +kernel
theorem dX9_withBuckets_39 : decode cX9_withBuckets 39 = .ok (.aload_n 2, 1) := by decide +kernel
theorem dX9_withBuckets_40 : decode cX9_withBuckets 40 = .ok (.iload 5, 2) := by decide +kernel
theorem dX9_withBuckets_42 : decode cX9_withBuckets 42 = .ok (.iload 6, 2) := by decide +kernel
theorem dX9_withBuckets_44 : decode cX9_withBuckets 44 = .ok (.invokevirtual 183, 3) := by decide +kernel
theorem dX9_withBuckets_47 : decode cX9_withBuckets 47 = .ok (.i2l, 1) := by decide +kernel
theorem dX9_withBuckets_48 : decode cX9_withBuckets 48 = .ok (.ladd, 1) := by decide +kernel
theorem dX9_withBuckets_49 : decode cX9_withBuckets 49 = .ok (.lstore_n 3, 1) := by decide +kernel
theorem dX9_withBuckets_50 : decode cX9_withBuckets 50 = .ok (.iinc 6 1, 3) := by decide +kernel
theorem dX9_withBuckets_53 : decode cX9_withBuckets 53 = .ok (.goto (-26), 3) := by decide +kernel
theorem dX9_withBuckets_56 : decode cX9_withBuckets 56 = .ok (.iinc 5 1, 3) := by decide +kernel
theorem dX9_withBuckets_59 : decode cX9_withBuckets 59 = .ok (.goto (-44), 3) := by decide +kernel
theorem dX9_withBuckets_62 : decode cX9_withBuckets 62 = .ok (.lload_n 3, 1) := by decide +kernel
theorem dX9_withBuckets_63 : decode cX9_withBuckets 63 = .ok (.lreturn, 1) := by decide +kernel
set_option maxRecDepth 20000 in
theorem ggX9_withWindows_X9_toldByQuery : GoodIn wsX9_withWindows wsX9_toldByQuery := goodIn_r _ [6, 7, 8, 9, 10, 11, 12, 13, 14, 15, 16, 17, 18, 19, 20, 21, 22, 23, 24, 25, 26, 27, 28, 29, 30, 31, 32, 33, 34, 35, 36, 37, 38, 39, 40, 41, 42, 43, 44, 45, 46, 47, 48, 49, 50, 51, 52, 53, 54, 55, 56, 57, 58, 59, 60, 61, 62, 63, 64, 65, 66, 67, 68, 69, 70, 71, 72, 73, 74, 75, 76, 77, 78, 79, 80, 81, 82, 83, 84, 85, 86, 87, 88, 89, 90, 91, 92, 93, 94, 95, 96, 97, 98, 99, 100, 101] (by decide +kernel) (by decide +kernel)
set_option maxRecDepth 20000 in
theorem gX9_withWindows_X9_toldByQuery : GoodIn wsX9_withWindows (wsV RX9 196 RX9 yX9_toldByQuery wsX9_toldByQuery) := goodIn_app (goodIn_of _ (by decide +kernel)) ggX9_withWindows_X9_toldByQuery
theorem dX9_withWindows_0 : decode cX9_withWindows 0 = .ok (.lload_n 1, 1) := by decide +kernel
theorem dX9_withWindows_1 : decode cX9_withWindows 1 = .ok (.lstore 4, 2) := by decide +kernel
theorem dX9_withWindows_3 : decode cX9_withWindows 3 = .ok (.iconst 0, 1) := by decide +kernel
theorem dX9_withWindows_4 : decode cX9_withWindows 4 = .ok (.istore 6, 2) := by decide +kernel
theorem dX9_withWindows_6 : decode cX9_withWindows 6 = .ok (.iload 6, 2) := by decide +kernel
theorem dX9_withWindows_8 : decode cX9_withWindows 8 = .ok (.iconst 5, 1) := by decide +kernel
theorem dX9_withWindows_9 : decode cX9_withWindows 9 = .ok (.if_icmp .gt 26, 3) := by decide +kernel
theorem dX9_withWindows_12 : decode cX9_withWindows 12 = .ok (.lload 4, 2) := by decide +kernel
theorem dX9_withWindows_14 : decode cX9_withWindows 14 = .ok (.ldc2_w 257, 3) := by decide +kernel
theorem dX9_withWindows_17 : decode cX9_withWindows 17 = .ok (.lmul, 1) := by decide +kernel
theorem dX9_withWindows_18 : decode cX9_withWindows 18 = .ok (.aload_n 0, 1) := by decide +kernel
theorem dX9_withWindows_19 : decode cX9_withWindows 19 = .ok (.aload_n 3, 1) := by decide +kernel
theorem dX9_withWindows_20 : decode cX9_withWindows 20 = .ok (.iload 6, 2) := by decide +kernel
theorem dX9_withWindows_22 : decode cX9_withWindows 22 = .ok (.invokevirtual 196, 3) := by decide +kernel
theorem dX9_withWindows_25 : decode cX9_withWindows 25 = .ok (.i2l, 1) := by decide +kernel
theorem dX9_withWindows_26 : decode cX9_withWindows 26 = .ok (.ladd, 1) := by decide +kernel
theorem dX9_withWindows_27 : decode cX9_withWindows 27 = .ok (.lstore 4, 2) := by decide +kernel
theorem dX9_withWindows_29 : decode cX9_withWindows 29 = .ok (.iinc 6 1, 3) := by decide +kernel
theorem dX9_withWindows_32 : decode cX9_withWindows 32 = .ok (.goto (-26), 3) := by decide +kernel
theorem dX9_withWindows_35 : decode cX9_withWindows 35 = .ok (.lload 4, 2) := by decide +kernel
theorem dX9_withWindows_37 : decode cX9_withWindows 37 = .ok (.lreturn, 1) := by decide +kernel
theorem dX9_isIn_0 : decode cX9_isIn 0 = .ok (.lload_n 0, 1) := by decide +kernel
theorem dX9_isIn_1 : decode cX9_isIn 1 = .ok (.iload_n 2, 1) := by decide +kernel
theorem dX9_isIn_2 : decode cX9_isIn 2 = .ok (.i2l, 1) := by decide +kernel
theorem dX9_isIn_3 : decode cX9_isIn 3 = .ok (.lcmp, 1) := by decide +kernel
theorem dX9_isIn_4 : decode cX9_isIn 4 = .ok (.ifCond .lt 14, 3) := by decide +kernel
theorem dX9_isIn_7 : decode cX9_isIn 7 = .ok (.lload_n 0, 1) := by decide +kernel
theorem dX9_isIn_8 : decode cX9_isIn 8 = .ok (.iload_n 3, 1) := by decide +kernel
theorem dX9_isIn_9 : decode cX9_isIn 9 = .ok (.i2l, 1) := by decide +kernel
theorem dX9_isIn_10 : decode cX9_isIn 10 = .ok (.lcmp, 1) := by decide +kernel
theorem dX9_isIn_11 : decode cX9_isIn 11 = .ok (.ifCond .gt 7, 3) := by decide +kernel
theorem dX9_isIn_14 : decode cX9_isIn 14 = .ok (.iconst 1, 1) := by decide +kernel
theorem dX9_isIn_15 : decode cX9_isIn 15 = .ok (.goto 4, 3) := by decide +kernel
theorem dX9_isIn_18 : decode cX9_isIn 18 = .ok (.iconst 0, 1) := by decide +kernel
theorem dX9_isIn_19 : decode cX9_isIn 19 = .ok (.ireturn, 1) := by decide +kernel
set_option maxRecDepth 20000 in
theorem ggX9_isValue_X9_isIn : GoodIn wsX9_isValue wsX9_isIn := goodIn_r _ [6] (by decide +kernel) (by decide +kernel)
set_option maxRecDepth 20000 in
theorem gX9_isValue_X9_isIn : GoodIn wsX9_isValue (va_wsS RX9 51 yX9_isIn wsX9_isIn) := goodIn_app (goodIn_of _ (by decide +kernel)) ggX9_isValue_X9_isIn
theorem dX9_isValue_0 : decode cX9_isValue 0 = .ok (.lload_n 0, 1) := by decide +kernel
theorem dX9_isValue_1 : decode cX9_isValue 1 = .ok (.ldc_w 278, 3) := by decide +kernel
theorem dX9_isValue_4 : decode cX9_isValue 4 = .ok (.ldc_w 279, 3) := by decide +kernel
theorem dX9_isValue_7 : decode cX9_isValue 7 = .ok (.invokestatic 51, 3) := by decide +kernel
theorem dX9_isValue_10 : decode cX9_isValue 10 = .ok (.ireturn, 1) := by decide +kernel
set_option maxRecDepth 20000 in
theorem ggX9_isTimeUpToNow_X9_isIn : GoodIn wsX9_isTimeUpToNow wsX9_isIn := goodIn_r _ [6] (by decide +kernel) (by decide +kernel)
set_option maxRecDepth 20000 in
theorem gX9_isTimeUpToNow_X9_isIn : GoodIn wsX9_isTimeUpToNow (va_wsS RX9 51 yX9_isIn wsX9_isIn) := goodIn_app (goodIn_of _ (by decide +kernel)) ggX9_isTimeUpToNow_X9_isIn
theorem dX9_isTimeUpToNow_0 : decode cX9_isTimeUpToNow 0 = .ok (.lload_n 1, 1) := by decide +kernel
theorem dX9_isTimeUpToNow_1 : decode cX9_isTimeUpToNow 1 = .ok (.iconst 0, 1) := by decide +kernel
theorem dX9_isTimeUpToNow_2 : decode cX9_isTimeUpToNow 2 = .ok (.aload_n 0, 1) := by decide +kernel
theorem dX9_isTimeUpToNow_3 : decode cX9_isTimeUpToNow 3 = .ok (.getfield 21, 3) := by decide +kernel
theorem dX9_isTimeUpToNow_6 : decode cX9_isTimeUpToNow 6 = .ok (.getfield 141, 3) := by decide +kernel
theorem dX9_isTimeUpToNow_9 : decode cX9_isTimeUpToNow 9 = .ok (.invokestatic 51, 3) := by decide +kernel
theorem dX9_isTimeUpToNow_12 : decode cX9_isTimeUpToNow 12 = .ok (.ireturn, 1) := by decide +kernel
set_option maxRecDepth 20000 in
theorem ggX9_canGoOn_X9_isIn : GoodIn wsX9_canGoOn wsX9_isIn := goodIn_r _ [7] (by decide +kernel) (by decide +kernel)
set_option maxRecDepth 20000 in
theorem gX9_canGoOn_X9_isIn : GoodIn wsX9_canGoOn (va_wsS RX9 51 yX9_isIn wsX9_isIn) := goodIn_app (goodIn_of _ (by decide +kernel)) ggX9_canGoOn_X9_isIn
theorem dX9_canGoOn_0 : decode cX9_canGoOn 0 = .ok (.iload_n 1, 1) := by decide +kernel
theorem dX9_canGoOn_1 : decode cX9_canGoOn 1 = .ok (.i2l, 1) := by decide +kernel
theorem dX9_canGoOn_2 : decode cX9_canGoOn 2 = .ok (.iconst 1, 1) := by decide +kernel
theorem dX9_canGoOn_3 : decode cX9_canGoOn 3 = .ok (.bipush 100, 2) := by decide +kernel
theorem dX9_canGoOn_5 : decode cX9_canGoOn 5 = .ok (.invokestatic 51, 3) := by decide +kernel
theorem dX9_canGoOn_8 : decode cX9_canGoOn 8 = .ok (.ifCond .eq 21, 3) := by decide +kernel
theorem dX9_canGoOn_11 : decode cX9_canGoOn 11 = .ok (.aload_n 0, 1) := by decide +kernel
theorem dX9_canGoOn_12 : decode cX9_canGoOn 12 = .ok (.getfield 21, 3) := by decide +kernel
theorem dX9_canGoOn_15 : decode cX9_canGoOn 15 = .ok (.getfield 141, 3) := by decide +kernel
theorem dX9_canGoOn_18 : decode cX9_canGoOn 18 = .ok (.iload_n 1, 1) := by decide +kernel
theorem dX9_canGoOn_19 : decode cX9_canGoOn 19 = .ok (.iadd, 1) := by decide +kernel
theorem dX9_canGoOn_20 : decode cX9_canGoOn 20 = .ok (.ldc 100, 2) := by decide +kernel
theorem dX9_canGoOn_22 : decode cX9_canGoOn 22 = .ok (.if_icmp .gt 7, 3) := by decide +kernel
theorem dX9_canGoOn_25 : decode cX9_canGoOn 25 = .ok (.iconst 1, 1) := by decide +kernel
theorem dX9_canGoOn_26 : decode cX9_canGoOn 26 = .ok (.goto 4, 3) := by decide +kernel
theorem dX9_canGoOn_29 : decode cX9_canGoOn 29 = .ok (.iconst 0, 1) := by decide +kernel
theorem dX9_canGoOn_30 : decode cX9_canGoOn 30 = .ok (.ireturn, 1) := by decide +kernel
theorem dX9_needArgument_0 : decode cX9_needArgument 0 = .ok (.iload_n 0, 1) := by decide +kernel
theorem dX9_needArgument_1 : decode cX9_needArgument 1 = .ok (.ifCond .ne 14, 3) := by decide +kernel
theorem dX9_needArgument_4 : decode cX9_needArgument 4 = .ok (.new 280, 3) := by decide +kernel
theorem dX9_needArgument_7 : decode cX9_needArgument 7 = .ok (.dup, 1) := by decide +kernel
theorem dX9_needArgument_8 : decode cX9_needArgument 8 = .ok (.ldc_w 282, 3) := by decide +kernel
theorem dX9_needArgument_11 : decode cX9_needArgument 11 = .ok (.invokespecial 284, 3) := by decide +kernel
theorem dX9_needArgument_14 : decode cX9_needArgument 14 = .ok (.athrow, 1) := by decide +kernel
theorem dX9_needArgument_15 : decode cX9_needArgument 15 = .ok (.return_, 1) := by decide +kernel
theorem dX9_needIndex_0 : decode cX9_needIndex 0 = .ok (.iload_n 0, 1) := by decide +kernel
theorem dX9_needIndex_1 : decode cX9_needIndex 1 = .ok (.ifCond .ne 14, 3) := by decide +kernel
theorem dX9_needIndex_4 : decode cX9_needIndex 4 = .ok (.new 287, 3) := by decide +kernel
theorem dX9_needIndex_7 : decode cX9_needIndex 7 = .ok (.dup, 1) := by decide +kernel
theorem dX9_needIndex_8 : decode cX9_needIndex 8 = .ok (.ldc_w 289, 3) := by decide +kernel
theorem dX9_needIndex_11 : decode cX9_needIndex 11 = .ok (.invokespecial 291, 3) := by decide +kernel
theorem dX9_needIndex_14 : decode cX9_needIndex 14 = .ok (.athrow, 1) := by decide +kernel
theorem dX9_needIndex_15 : decode cX9_needIndex 15 = .ok (.return_, 1) := by decide +kernel
theorem dX9_needState_0 : decode cX9_needState 0 = .ok (.iload_n 0, 1) := by decide +kernel
theorem dX9_needState_1 : decode cX9_needState 1 = .ok (.ifCond .ne 14, 3) := by decide +kernel
theorem dX9_needState_4 : decode cX9_needState 4 = .ok (.new 292, 3) := by decide +kernel
theorem dX9_needState_7 : decode cX9_needState 7 = .ok (.dup, 1) := by decide +kernel
theorem dX9_needState_8 : decode cX9_needState 8 = .ok (.ldc_w 294, 3) := by decide +kernel
theorem dX9_needState_11 : decode cX9_needState 11 = .ok (.invokespecial 296, 3) := by decide +kernel
theorem dX9_needState_14 : decode cX9_needState 14 = .ok (.athrow, 1) := by decide +kernel
theorem dX9_needState_15 : decode cX9_needState 15 = .ok (.return_, 1) := by decide +kernel
set_option maxRecDepth 20000 in
theorem ggX9_chainAt_Jx4a65c_size_8abf5 : GoodIn wsX9_chainAt wsJx4a65c_size_8abf5 := goodIn_r _ [10, 11, 43, 44, 45] (by decide +kernel) (by decide +kernel)
set_option maxRecDepth 20000 in
theorem gX9_chainAt_Jx4a65c_size_8abf5 : GoodIn wsX9_chainAt (wsV RX9 63 RJx4a65c yJx4a65c_size_8abf5 wsJx4a65c_size_8abf5) := goodIn_app (goodIn_of _ (by decide +kernel)) ggX9_chainAt_Jx4a65c_size_8abf5
set_option maxRecDepth 20000 in
theorem ggX9_chainAt_Jx4a65c_get_915e3 : GoodIn wsX9_chainAt wsJx4a65c_get_915e3 := goodIn_r _ [15, 11, 16, 17, 18, 19, 20, 21, 22, 23, 24, 25, 26, 9, 27, 28, 43, 44, 45] (by decide +kernel) (by decide +kernel)
set_option maxRecDepth 20000 in
theorem gX9_chainAt_Jx4a65c_get_915e3 : GoodIn wsX9_chainAt (wsV RX9 187 RJx4a65c yJx4a65c_get_915e3 wsJx4a65c_get_915e3) := goodIn_app (goodIn_of _ (by decide +kernel)) ggX9_chainAt_Jx4a65c_get_915e3
theorem dX9_chainAt_0 : decode cX9_chainAt 0 = .ok (.iload_n 1, 1) := by decide +kernel
theorem dX9_chainAt_1 : decode cX9_chainAt 1 = .ok (.ifCond .lt 17, 3) := by decide +kernel
theorem dX9_chainAt_4 : decode cX9_chainAt 4 = .ok (.iload_n 1, 1) := by decide +kernel
theorem dX9_chainAt_5 : decode cX9_chainAt 5 = .ok (.aload_n 0, 1) := by decide +kernel
theorem dX9_chainAt_6 : decode cX9_chainAt 6 = .ok (.getfield 21, 3) := by decide +kernel
theorem dX9_chainAt_9 : decode cX9_chainAt 9 = .ok (.getfield 59, 3) := by decide +kernel
theorem dX9_chainAt_12 : decode cX9_chainAt 12 = .ok (.invokevirtual 63, 3) := by decide +kernel
theorem dX9_chainAt_15 : decode cX9_chainAt 15 = .ok (.if_icmp .lt 14, 3) := by decide +kernel
theorem dX9_chainAt_18 : decode cX9_chainAt 18 = .ok (.new 287, 3) := by decide +kernel
theorem dX9_chainAt_21 : decode cX9_chainAt 21 = .ok (.dup, 1) := by decide +kernel
theorem dX9_chainAt_22 : decode cX9_chainAt 22 = .ok (.ldc_w 297, 3) := by decide +kernel
theorem dX9_chainAt_25 : decode cX9_chainAt 25 = .ok (.invokespecial 291, 3) := by decide +kernel
theorem dX9_chainAt_28 : decode cX9_chainAt 28 = .ok (.athrow, 1) := by decide +kernel
theorem dX9_chainAt_29 : decode cX9_chainAt 29 = .ok (.aload_n 0, 1) := by decide +kernel
theorem dX9_chainAt_30 : decode cX9_chainAt 30 = .ok (.getfield 21, 3) := by decide +kernel
theorem dX9_chainAt_33 : decode cX9_chainAt 33 = .ok (.getfield 59, 3) := by decide +kernel
theorem dX9_chainAt_36 : decode cX9_chainAt 36 = .ok (.iload_n 1, 1) := by decide +kernel
theorem dX9_chainAt_37 : decode cX9_chainAt 37 = .ok (.invokevirtual 187, 3) := by decide +kernel
theorem dX9_chainAt_40 : decode cX9_chainAt 40 = .ok (.checkcast 72, 3) := by decide +kernel
theorem dX9_chainAt_43 : decode cX9_chainAt 43 = .ok (.areturn, 1) := by decide +kernel
set_option maxRecDepth 20000 in
theorem ggX9_putOrCountLate_X4_isLate : GoodIn wsX9_putOrCountLate wsX4_isLate := goodIn_r _ [8, 9, 136, 137, 138, 139, 140, 141, 142] (by decide +kernel) (by decide +kernel)
set_option maxRecDepth 20000 in
theorem gX9_putOrCountLate_X4_isLate : GoodIn wsX9_putOrCountLate (wsV RX9 238 RX4 yX4_isLate wsX4_isLate) := goodIn_app (goodIn_of _ (by decide +kernel)) ggX9_putOrCountLate_X4_isLate
set_option maxRecDepth 20000 in
theorem ggX9_putOrCountLate_X6_take : GoodIn wsX9_putOrCountLate wsX6_take := goodIn_r _ [14, 15, 16, 17, 18, 19, 7, 20, 21, 22, 23, 24, 25, 26, 27, 28, 29, 30, 31, 32, 33, 34, 35, 36, 37, 38, 39, 40, 41, 42, 43, 44, 45, 46, 47, 48, 49, 50, 51, 52, 53, 54, 55, 9, 56, 57, 58, 59, 60, 61, 62, 63, 13, 64, 65, 66, 67, 68, 69, 70, 71, 72, 73, 74, 75, 76, 77, 78, 79, 80, 81, 82, 83, 84, 85, 86, 87, 88, 89, 90, 91, 92, 93, 94, 95, 96, 97, 98, 99, 100, 101, 102, 103, 104, 105, 106, 107, 108, 109, 110, 111, 112, 113, 114, 115, 116, 117, 118, 119, 120, 121, 122, 123, 124, 125, 126, 143, 144, 145, 146, 147, 148, 149, 136, 137, 138, 139, 140, 141, 142] (by decide +kernel) (by decide +kernel)
set_option maxRecDepth 20000 in
theorem gX9_putOrCountLate_X6_take : GoodIn wsX9_putOrCountLate (wsV RX9 301 RX6 yX6_take wsX6_take) := goodIn_app (goodIn_of _ (by decide +kernel)) ggX9_putOrCountLate_X6_take
theorem dX9_putOrCountLate_0 : decode cX9_putOrCountLate 0 = .ok (.aload_n 1, 1) := by decide +kernel
theorem dX9_putOrCountLate_1 : decode cX9_putOrCountLate 1 = .ok (.getfield 116, 3) := by decide +kernel
theorem dX9_putOrCountLate_4 : decode cX9_putOrCountLate 4 = .ok (.iload_n 2, 1) := by decide +kernel
theorem dX9_putOrCountLate_5 : decode cX9_putOrCountLate 5 = .ok (.invokevirtual 238, 3) := by decide +kernel
theorem dX9_putOrCountLate_8 : decode cX9_putOrCountLate 8 = .ok (.ifCond .eq 15, 3) := by decide +kernel
theorem dX9_putOrCountLate_11 : decode cX9_putOrCountLate 11 = .ok (.aload_n 0, 1) := by decide +kernel
theorem dX9_putOrCountLate_12 : decode cX9_putOrCountLate 12 = .ok (.dup, 1) := by decide +kernel
theorem dX9_putOrCountLate_13 : decode cX9_putOrCountLate 13 = .ok (.getfield 48, 3) := by decide +kernel
theorem dX9_putOrCountLate_16 : decode cX9_putOrCountLate 16 = .ok (.iconst 1, 1) := by decide +kernel
theorem dX9_putOrCountLate_17 : decode cX9_putOrCountLate 17 = .ok (.iadd, 1) := by decide +kernel
theorem dX9_putOrCountLate_18 : decode cX9_putOrCountLate 18 = .ok (.putfield 48, 3) := by decide +kernel
theorem dX9_putOrCountLate_21 : decode cX9_putOrCountLate 21 = .ok (.iconst 0, 1) := by decide +kernel
theorem dX9_putOrCountLate_22 : decode cX9_putOrCountLate 22 = .ok (.ireturn, 1) := by decide +kernel
theorem dX9_putOrCountLate_23 : decode cX9_putOrCountLate 23 = .ok (.aload_n 1, 1) := by decide +kernel
theorem dX9_putOrCountLate_24 : decode cX9_putOrCountLate 24 = .ok (.iload_n 2, 1) := by decide +kernel
theorem dX9_putOrCountLate_25 : decode cX9_putOrCountLate 25 = .ok (.iload_n 3, 1) := by decide +kernel
theorem dX9_putOrCountLate_26 : decode cX9_putOrCountLate 26 = .ok (.aload_n 0, 1) := by decide +kernel
theorem dX9_putOrCountLate_27 : decode cX9_putOrCountLate 27 = .ok (.getfield 10, 3) := by decide +kernel
theorem dX9_putOrCountLate_30 : decode cX9_putOrCountLate 30 = .ok (.invokevirtual 301, 3) := by decide +kernel
theorem dX9_putOrCountLate_33 : decode cX9_putOrCountLate 33 = .ok (.iconst 1, 1) := by decide +kernel
theorem dX9_putOrCountLate_34 : decode cX9_putOrCountLate 34 = .ok (.ireturn, 1) := by decide +kernel
set_option maxRecDepth 20000 in
theorem ggX9_toldByQuery_X6_tell : GoodIn wsX9_toldByQuery wsX6_tell := goodIn_r _ [9, 10, 11, 12, 8, 13, 14, 15, 16, 17, 18, 19, 20, 21, 22, 23, 24, 25, 26, 27, 28, 29, 30, 31, 32, 33, 34, 35, 36, 37, 38, 39, 40, 41, 42, 43, 44, 45, 46, 47, 48, 49, 50, 51, 52, 53, 54, 55, 56, 57, 58, 59, 60, 61, 62, 63, 64, 65, 66, 67, 68, 69, 70, 71, 72, 82, 83, 84, 85, 86, 87, 88, 89, 90, 91, 92, 93, 94, 95] (by decide +kernel) (by decide +kernel)
set_option maxRecDepth 20000 in
theorem gX9_toldByQuery_X6_tell : GoodIn wsX9_toldByQuery (wsV RX9 305 RX6 yX6_tell wsX6_tell) := goodIn_app (goodIn_of _ (by decide +kernel)) ggX9_toldByQuery_X6_tell
theorem dX9_toldByQuery_0 : decode cX9_toldByQuery 0 = .ok (.aload_n 0, 1) := by decide +kernel
theorem dX9_toldByQuery_1 : decode cX9_toldByQuery 1 = .ok (.getfield 35, 3) := by decide +kernel
theorem dX9_toldByQuery_4 : decode cX9_toldByQuery 4 = .ok (.iload_n 2, 1) := by decide +kernel
theorem dX9_toldByQuery_5 : decode cX9_toldByQuery 5 = .ok (.aload_n 0, 1) := by decide +kernel
theorem dX9_toldByQuery_6 : decode cX9_toldByQuery 6 = .ok (.getfield 39, 3) := by decide +kernel
theorem dX9_toldByQuery_9 : decode cX9_toldByQuery 9 = .ok (.imul, 1) := by decide +kernel
theorem dX9_toldByQuery_10 : decode cX9_toldByQuery 10 = .ok (.iadd, 1) := by decide +kernel
theorem dX9_toldByQuery_11 : decode cX9_toldByQuery 11 = .ok (.istore_n 3, 1) := by decide +kernel
theorem dX9_toldByQuery_12 : decode cX9_toldByQuery 12 = .ok (.aload_n 1, 1) := by decide +kernel
theorem dX9_toldByQuery_13 : decode cX9_toldByQuery 13 = .ok (.iload_n 3, 1) := by decide +kernel
theorem dX9_toldByQuery_14 : decode cX9_toldByQuery 14 = .ok (.iload_n 3, 1) := by decide +kernel
theorem dX9_toldByQuery_15 : decode cX9_toldByQuery 15 = .ok (.aload_n 0, 1) := by decide +kernel
theorem dX9_toldByQuery_16 : decode cX9_toldByQuery 16 = .ok (.getfield 39, 3) := by decide +kernel
theorem dX9_toldByQuery_19 : decode cX9_toldByQuery 19 = .ok (.iadd, 1) := by decide +kernel
theorem dX9_toldByQuery_20 : decode cX9_toldByQuery 20 = .ok (.aload_n 0, 1) := by decide +kernel
theorem dX9_toldByQuery_21 : decode cX9_toldByQuery 21 = .ok (.getfield 42, 3) := by decide +kernel
theorem dX9_toldByQuery_24 : decode cX9_toldByQuery 24 = .ok (.aload_n 0, 1) := by decide +kernel
theorem dX9_toldByQuery_25 : decode cX9_toldByQuery 25 = .ok (.getfield 45, 3) := by decide +kernel
theorem dX9_toldByQuery_28 : decode cX9_toldByQuery 28 = .ok (.invokevirtual 305, 3) := by decide +kernel
theorem dX9_toldByQuery_31 : decode cX9_toldByQuery 31 = .ok (.ireturn, 1) := by decide +kernel
theorem dJ9_max_7cf53_0 : decode cJ9_max_7cf53 0 = .ok (.iload_n 0, 1) := by decide +kernel
theorem dJ9_max_7cf53_1 : decode cJ9_max_7cf53 1 = .ok (.iload_n 1, 1) := by decide +kernel
theorem dJ9_max_7cf53_2 : decode cJ9_max_7cf53 2 = .ok (.if_icmp .lt 7, 3) := by decide +kernel
theorem dJ9_max_7cf53_5 : decode cJ9_max_7cf53 5 = .ok (.iload_n 0, 1) := by decide +kernel
theorem dJ9_max_7cf53_6 : decode cJ9_max_7cf53 6 = .ok (.goto 4, 3) := by decide +kernel
theorem dJ9_max_7cf53_9 : decode cJ9_max_7cf53 9 = .ok (.iload_n 1, 1) := by decide +kernel
theorem dJ9_max_7cf53_10 : decode cJ9_max_7cf53 10 = .ok (.ireturn, 1) := by decide +kernel
theorem dJ9_min_7cf53_0 : decode cJ9_min_7cf53 0 = .ok (.iload_n 0, 1) := by decide +kernel
theorem dJ9_min_7cf53_1 : decode cJ9_min_7cf53 1 = .ok (.iload_n 1, 1) := by decide +kernel
theorem dJ9_min_7cf53_2 : decode cJ9_min_7cf53 2 = .ok (.if_icmp .gt 7, 3) := by decide +kernel
theorem dJ9_min_7cf53_5 : decode cJ9_min_7cf53 5 = .ok (.iload_n 0, 1) := by decide +kernel
theorem dJ9_min_7cf53_6 : decode cJ9_min_7cf53 6 = .ok (.goto 4, 3) := by decide +kernel
theorem dJ9_min_7cf53_9 : decode cJ9_min_7cf53 9 = .ok (.iload_n 1, 1) := by decide +kernel
theorem dJ9_min_7cf53_10 : decode cJ9_min_7cf53 10 = .ok (.ireturn, 1) := by decide +kernel
theorem dJxa1e45_init_da8c8_0 : decode cJxa1e45_init_da8c8 0 = .ok (.aload_n 0, 1) := by decide +kernel
theorem dJxa1e45_init_da8c8_1 : decode cJxa1e45_init_da8c8 1 = .ok (.invokespecial 1, 3) := by decide +kernel
theorem dJxa1e45_init_da8c8_4 : decode cJxa1e45_init_da8c8 4 = .ok (.return_, 1) := by decide +kernel
set_option maxRecDepth 20000 in
theorem ggJxc12de_init_da8c8_Jxa1e45_init_da8c8 : GoodIn wsJxc12de_init_da8c8 wsJxa1e45_init_da8c8 := goodIn_r _ [5, 6, 7, 8] (by decide +kernel) (by decide +kernel)
set_option maxRecDepth 20000 in
theorem gJxc12de_init_da8c8_Jxa1e45_init_da8c8 : GoodIn wsJxc12de_init_da8c8 (wsJxa1e45_init_da8c8) := ggJxc12de_init_da8c8_Jxa1e45_init_da8c8
theorem dJxc12de_init_da8c8_0 : decode cJxc12de_init_da8c8 0 = .ok (.aload_n 0, 1) := by decide +kernel
theorem dJxc12de_init_da8c8_1 : decode cJxc12de_init_da8c8 1 = .ok (.invokespecial 1, 3) := by decide +kernel
theorem dJxc12de_init_da8c8_4 : decode cJxc12de_init_da8c8 4 = .ok (.aload_n 0, 1) := by decide +kernel
theorem dJxc12de_init_da8c8_5 : decode cJxc12de_init_da8c8 5 = .ok (.iconst 0, 1) := by decide +kernel
theorem dJxc12de_init_da8c8_6 : decode cJxc12de_init_da8c8 6 = .ok (.putfield 7, 3) := by decide +kernel
theorem dJxc12de_init_da8c8_9 : decode cJxc12de_init_da8c8 9 = .ok (.return_, 1) := by decide +kernel
set_option maxRecDepth 20000 in
theorem ggJx4a65c_init_da8c8_Jxc12de_init_da8c8 : GoodIn wsJx4a65c_init_da8c8 wsJxc12de_init_da8c8 := goodIn_r _ [6, 7, 8, 9, 10, 11, 12, 13, 14, 15, 16, 17] (by decide +kernel) (by decide +kernel)
set_option maxRecDepth 20000 in
theorem gJx4a65c_init_da8c8_Jxc12de_init_da8c8 : GoodIn wsJx4a65c_init_da8c8 (wsJxc12de_init_da8c8) := ggJx4a65c_init_da8c8_Jxc12de_init_da8c8
theorem dJx4a65c_init_da8c8_0 : decode cJx4a65c_init_da8c8 0 = .ok (.aload_n 0, 1) := by decide +kernel
theorem dJx4a65c_init_da8c8_1 : decode cJx4a65c_init_da8c8 1 = .ok (.invokespecial 1, 3) := by decide +kernel
theorem dJx4a65c_init_da8c8_4 : decode cJx4a65c_init_da8c8 4 = .ok (.aload_n 0, 1) := by decide +kernel
theorem dJx4a65c_init_da8c8_5 : decode cJx4a65c_init_da8c8 5 = .ok (.getstatic 39, 3) := by decide +kernel
theorem dJx4a65c_init_da8c8_8 : decode cJx4a65c_init_da8c8 8 = .ok (.putfield 9, 3) := by decide +kernel
theorem dJx4a65c_init_da8c8_11 : decode cJx4a65c_init_da8c8 11 = .ok (.return_, 1) := by decide +kernel
set_option maxRecDepth 20000 in
theorem ggJx4a65c_grow_92f84_J8_newLength_cabcc : GoodIn wsJx4a65c_grow_92f84 wsJ8_newLength_cabcc := goodIn_r _ [11, 12, 4, 5, 6, 13, 14, 15, 10, 16] (by decide +kernel) (by decide +kernel)
set_option maxRecDepth 20000 in
theorem gJx4a65c_grow_92f84_J8_newLength_cabcc : GoodIn wsJx4a65c_grow_92f84 (va_wsS RJx4a65c 73 yJ8_newLength_cabcc wsJ8_newLength_cabcc) := goodIn_app (goodIn_of _ (by decide +kernel)) ggJx4a65c_grow_92f84_J8_newLength_cabcc
set_option maxRecDepth 20000 in
theorem ggJx4a65c_grow_92f84_J7_copyOf_1904c : GoodIn wsJx4a65c_grow_92f84 wsJ7_copyOf_1904c := goodIn_r _ [20, 21, 22, 23, 24, 25, 26, 19, 27, 28, 29, 30, 31, 5, 32, 33, 34, 35, 36] (by decide +kernel) (by decide +kernel)
set_option maxRecDepth 20000 in
theorem gJx4a65c_grow_92f84_J7_copyOf_1904c : GoodIn wsJx4a65c_grow_92f84 (va_wsS RJx4a65c 66 yJ7_copyOf_1904c wsJ7_copyOf_1904c) := goodIn_app (goodIn_of _ (by decide +kernel)) ggJx4a65c_grow_92f84_J7_copyOf_1904c
theorem dJx4a65c_grow_92f84_0 : decode cJx4a65c_grow_92f84 0 = .ok (.aload_n 0, 1) := by decide +kernel
theorem dJx4a65c_grow_92f84_1 : decode cJx4a65c_grow_92f84 1 = .ok (.getfield 9, 3) := by decide +kernel
theorem dJx4a65c_grow_92f84_4 : decode cJx4a65c_grow_92f84 4 = .ok (.arraylength, 1) := by decide +kernel
theorem dJx4a65c_grow_92f84_5 : decode cJx4a65c_grow_92f84 5 = .ok (.istore_n 2, 1) := by decide +kernel
theorem dJx4a65c_grow_92f84_6 : decode cJx4a65c_grow_92f84 6 = .ok (.iload_n 2, 1) := by decide +kernel
theorem dJx4a65c_grow_92f84_7 : decode cJx4a65c_grow_92f84 7 = .ok (.ifCond .gt 13, 3) := by decide +kernel
theorem dJx4a65c_grow_92f84_10 : decode cJx4a65c_grow_92f84 10 = .ok (.aload_n 0, 1) := by decide +kernel
theorem dJx4a65c_grow_92f84_11 : decode cJx4a65c_grow_92f84 11 = .ok (.getfield 9, 3) := by decide +kernel
theorem dJx4a65c_grow_92f84_14 : decode cJx4a65c_grow_92f84 14 = .ok (.getstatic 39, 3) := by decide +kernel
theorem dJx4a65c_grow_92f84_17 : decode cJx4a65c_grow_92f84 17 = .ok (.if_acmp .eq 28, 3) := by decide +kernel
theorem dJx4a65c_grow_92f84_20 : decode cJx4a65c_grow_92f84 20 = .ok (.iload_n 2, 1) := by decide +kernel
theorem dJx4a65c_grow_92f84_21 : decode cJx4a65c_grow_92f84 21 = .ok (.iload_n 1, 1) := by decide +kernel
theorem dJx4a65c_grow_92f84_22 : decode cJx4a65c_grow_92f84 22 = .ok (.iload_n 2, 1) := by decide +kernel
theorem dJx4a65c_grow_92f84_23 : decode cJx4a65c_grow_92f84 23 = .ok (.isub, 1) := by decide +kernel
theorem dJx4a65c_grow_92f84_24 : decode cJx4a65c_grow_92f84 24 = .ok (.iload_n 2, 1) := by decide +kernel
theorem dJx4a65c_grow_92f84_25 : decode cJx4a65c_grow_92f84 25 = .ok (.iconst 1, 1) := by decide +kernel
theorem dJx4a65c_grow_92f84_26 : decode cJx4a65c_grow_92f84 26 = .ok (.ishr, 1) := by decide +kernel
theorem dJx4a65c_grow_92f84_27 : decode cJx4a65c_grow_92f84 27 = .ok (.invokestatic 73, 3) := by decide +kernel
theorem dJx4a65c_grow_92f84_30 : decode cJx4a65c_grow_92f84 30 = .ok (.istore_n 3, 1) := by decide +kernel
theorem dJx4a65c_grow_92f84_31 : decode cJx4a65c_grow_92f84 31 = .ok (.aload_n 0, 1) := by decide +kernel
theorem dJx4a65c_grow_92f84_32 : decode cJx4a65c_grow_92f84 32 = .ok (.aload_n 0, 1) := by decide +kernel
theorem dJx4a65c_grow_92f84_33 : decode cJx4a65c_grow_92f84 33 = .ok (.getfield 9, 3) := by decide +kernel
theorem dJx4a65c_grow_92f84_36 : decode cJx4a65c_grow_92f84 36 = .ok (.iload_n 3, 1) := by decide +kernel
theorem dJx4a65c_grow_92f84_37 : decode cJx4a65c_grow_92f84 37 = .ok (.invokestatic 66, 3) := by decide +kernel
theorem dJx4a65c_grow_92f84_40 : decode cJx4a65c_grow_92f84 40 = .ok (.dup_x1, 1) := by decide +kernel
theorem dJx4a65c_grow_92f84_41 : decode cJx4a65c_grow_92f84 41 = .ok (.putfield 9, 3) := by decide +kernel
theorem dJx4a65c_grow_92f84_44 : decode cJx4a65c_grow_92f84 44 = .ok (.areturn, 1) := by decide +kernel
theorem dJx4a65c_grow_92f84_45 : decode cJx4a65c_grow_92f84 45 = .ok (.aload_n 0, 1) := by decide +kernel
theorem dJx4a65c_grow_92f84_46 : decode cJx4a65c_grow_92f84 46 = .ok (.bipush 10, 2) := by decide +kernel
theorem dJx4a65c_grow_92f84_48 : decode cJx4a65c_grow_92f84 48 = .ok (.iload_n 1, 1) := by decide +kernel
theorem dJx4a65c_grow_92f84_49 : decode cJx4a65c_grow_92f84 49 = .ok (.invokestatic 79, 3) := by decide +kernel
theorem dJx4a65c_grow_92f84_52 : decode cJx4a65c_grow_92f84 52 = .ok (.anewarray 7, 3) := by decide +kernel
theorem dJx4a65c_grow_92f84_55 : decode cJx4a65c_grow_92f84 55 = .ok (.dup_x1, 1) := by decide +kernel
theorem dJx4a65c_grow_92f84_56 : decode cJx4a65c_grow_92f84 56 = .ok (.putfield 9, 3) := by decide +kernel
theorem dJx4a65c_grow_92f84_59 : decode cJx4a65c_grow_92f84 59 = .ok (.areturn, 1) := by decide +kernel
set_option maxRecDepth 20000 in
theorem ggJx4a65c_grow_d5877_Jx4a65c_grow_92f84 : GoodIn wsJx4a65c_grow_d5877 wsJx4a65c_grow_92f84 := goodIn_r _ [6, 7, 8, 9, 10, 11, 12, 13, 14, 15, 16, 17, 18, 19, 20, 21, 22, 23, 24, 25, 26, 27, 28, 29, 30, 31, 32, 33, 34, 35, 36, 37, 38, 39, 40, 41, 42, 43, 44, 45] (by decide +kernel) (by decide +kernel)
set_option maxRecDepth 20000 in
theorem gJx4a65c_grow_d5877_Jx4a65c_grow_92f84 : GoodIn wsJx4a65c_grow_d5877 (wsV RJx4a65c 69 RJx4a65c yJx4a65c_grow_92f84 wsJx4a65c_grow_92f84) := goodIn_app (goodIn_of _ (by decide +kernel)) ggJx4a65c_grow_d5877_Jx4a65c_grow_92f84
theorem dJx4a65c_grow_d5877_0 : decode cJx4a65c_grow_d5877 0 = .ok (.aload_n 0, 1) := by decide +kernel
theorem dJx4a65c_grow_d5877_1 : decode cJx4a65c_grow_d5877 1 = .ok (.aload_n 0, 1) := by decide +kernel
theorem dJx4a65c_grow_d5877_2 : decode cJx4a65c_grow_d5877 2 = .ok (.getfield 48, 3) := by decide +kernel
theorem dJx4a65c_grow_d5877_5 : decode cJx4a65c_grow_d5877 5 = .ok (.iconst 1, 1) := by decide +kernel
theorem dJx4a65c_grow_d5877_6 : decode cJx4a65c_grow_d5877 6 = .ok (.iadd, 1) := by decide +kernel
theorem dJx4a65c_grow_d5877_7 : decode cJx4a65c_grow_d5877 7 = .ok (.invokevirtual 69, 3) := by decide +kernel
theorem dJx4a65c_grow_d5877_10 : decode cJx4a65c_grow_d5877 10 = .ok (.areturn, 1) := by decide +kernel
theorem dJx4a65c_size_8abf5_0 : decode cJx4a65c_size_8abf5 0 = .ok (.aload_n 0, 1) := by decide +kernel
theorem dJx4a65c_size_8abf5_1 : decode cJx4a65c_size_8abf5 1 = .ok (.getfield 48, 3) := by decide +kernel
theorem dJx4a65c_size_8abf5_4 : decode cJx4a65c_size_8abf5 4 = .ok (.ireturn, 1) := by decide +kernel
theorem dJx4a65c_elementData_915e3_0 : decode cJx4a65c_elementData_915e3 0 = .ok (.aload_n 0, 1) := by decide +kernel
theorem dJx4a65c_elementData_915e3_1 : decode cJx4a65c_elementData_915e3 1 = .ok (.getfield 9, 3) := by decide +kernel
theorem dJx4a65c_elementData_915e3_4 : decode cJx4a65c_elementData_915e3 4 = .ok (.iload_n 1, 1) := by decide +kernel
theorem dJx4a65c_elementData_915e3_5 : decode cJx4a65c_elementData_915e3 5 = .ok (.aaload, 1) := by decide +kernel
theorem dJx4a65c_elementData_915e3_6 : decode cJx4a65c_elementData_915e3 6 = .ok (.areturn, 1) := by decide +kernel
set_option maxRecDepth 20000 in
theorem ggJx4a65c_get_915e3_J15_checkIndex_7cf53 : GoodIn wsJx4a65c_get_915e3 wsJ15_checkIndex_7cf53 := goodIn_r _ [5, 6, 7, 8, 9] (by decide +kernel) (by decide +kernel)
set_option maxRecDepth 20000 in
theorem gJx4a65c_get_915e3_J15_checkIndex_7cf53 : GoodIn wsJx4a65c_get_915e3 (va_wsS RJx4a65c 118 yJ15_checkIndex_7cf53 wsJ15_checkIndex_7cf53) := goodIn_app (goodIn_of _ (by decide +kernel)) ggJx4a65c_get_915e3_J15_checkIndex_7cf53
set_option maxRecDepth 20000 in
theorem ggJx4a65c_get_915e3_Jx4a65c_elementData_915e3 : GoodIn wsJx4a65c_get_915e3 wsJx4a65c_elementData_915e3 := goodIn_r _ [14, 15, 16, 17, 18] (by decide +kernel) (by decide +kernel)
set_option maxRecDepth 20000 in
theorem gJx4a65c_get_915e3_Jx4a65c_elementData_915e3 : GoodIn wsJx4a65c_get_915e3 (wsV RJx4a65c 123 RJx4a65c yJx4a65c_elementData_915e3 wsJx4a65c_elementData_915e3) := goodIn_app (goodIn_of _ (by decide +kernel)) ggJx4a65c_get_915e3_Jx4a65c_elementData_915e3
theorem dJx4a65c_get_915e3_0 : decode cJx4a65c_get_915e3 0 = .ok (.iload_n 1, 1) := by decide +kernel
theorem dJx4a65c_get_915e3_1 : decode cJx4a65c_get_915e3 1 = .ok (.aload_n 0, 1) := by decide +kernel
theorem dJx4a65c_get_915e3_2 : decode cJx4a65c_get_915e3 2 = .ok (.getfield 48, 3) := by decide +kernel
theorem dJx4a65c_get_915e3_5 : decode cJx4a65c_get_915e3 5 = .ok (.invokestatic 118, 3) := by decide +kernel
theorem dJx4a65c_get_915e3_8 : decode cJx4a65c_get_915e3 8 = .ok (.pop, 1) := by decide +kernel
theorem dJx4a65c_get_915e3_9 : decode cJx4a65c_get_915e3 9 = .ok (.aload_n 0, 1) := by decide +kernel
theorem dJx4a65c_get_915e3_10 : decode cJx4a65c_get_915e3 10 = .ok (.iload_n 1, 1) := by decide +kernel
theorem dJx4a65c_get_915e3_11 : decode cJx4a65c_get_915e3 11 = .ok (.invokevirtual 123, 3) := by decide +kernel
theorem dJx4a65c_get_915e3_14 : decode cJx4a65c_get_915e3 14 = .ok (.areturn, 1) := by decide +kernel
set_option maxRecDepth 20000 in
theorem ggJx4a65c_add_72be8_Jx4a65c_grow_d5877 : GoodIn wsJx4a65c_add_72be8 wsJx4a65c_grow_d5877 := goodIn_r _ [6, 1, 7, 8, 9, 5, 10, 11, 12, 13, 14, 15, 16, 17, 18, 19, 20, 21, 22, 23, 24, 25, 26, 27, 28, 29, 30, 31, 32, 33, 34, 35, 36, 37, 38, 39, 40, 41, 42, 43, 44, 45, 46, 47, 48, 49] (by decide +kernel) (by decide +kernel)
set_option maxRecDepth 20000 in
theorem gJx4a65c_add_72be8_Jx4a65c_grow_d5877 : GoodIn wsJx4a65c_add_72be8 (wsV RJx4a65c 129 RJx4a65c yJx4a65c_grow_d5877 wsJx4a65c_grow_d5877) := goodIn_app (goodIn_of _ (by decide +kernel)) ggJx4a65c_add_72be8_Jx4a65c_grow_d5877
theorem dJx4a65c_add_72be8_0 : decode cJx4a65c_add_72be8 0 = .ok (.iload_n 3, 1) := by decide +kernel
theorem dJx4a65c_add_72be8_1 : decode cJx4a65c_add_72be8 1 = .ok (.aload_n 2, 1) := by decide +kernel
theorem dJx4a65c_add_72be8_2 : decode cJx4a65c_add_72be8 2 = .ok (.arraylength, 1) := by decide +kernel
theorem dJx4a65c_add_72be8_3 : decode cJx4a65c_add_72be8 3 = .ok (.if_icmp .ne 8, 3) := by decide +kernel
theorem dJx4a65c_add_72be8_6 : decode cJx4a65c_add_72be8 6 = .ok (.aload_n 0, 1) := by decide +kernel
theorem dJx4a65c_add_72be8_7 : decode cJx4a65c_add_72be8 7 = .ok (.invokevirtual 129, 3) := by decide +kernel
theorem dJx4a65c_add_72be8_10 : decode cJx4a65c_add_72be8 10 = .ok (.astore_n 2, 1) := by decide +kernel
theorem dJx4a65c_add_72be8_11 : decode cJx4a65c_add_72be8 11 = .ok (.aload_n 2, 1) := by decide +kernel
theorem dJx4a65c_add_72be8_12 : decode cJx4a65c_add_72be8 12 = .ok (.iload_n 3, 1) := by decide +kernel
theorem dJx4a65c_add_72be8_13 : decode cJx4a65c_add_72be8 13 = .ok (.aload_n 1, 1) := by decide +kernel
theorem dJx4a65c_add_72be8_14 : decode cJx4a65c_add_72be8 14 = .ok (.aastore, 1) := by decide +kernel
theorem dJx4a65c_add_72be8_15 : decode cJx4a65c_add_72be8 15 = .ok (.aload_n 0, 1) := by decide +kernel
theorem dJx4a65c_add_72be8_16 : decode cJx4a65c_add_72be8 16 = .ok (.iload_n 3, 1) := by decide +kernel
theorem dJx4a65c_add_72be8_17 : decode cJx4a65c_add_72be8 17 = .ok (.iconst 1, 1) := by decide +kernel
theorem dJx4a65c_add_72be8_18 : decode cJx4a65c_add_72be8 18 = .ok (.iadd, 1) := by decide +kernel
theorem dJx4a65c_add_72be8_19 : decode cJx4a65c_add_72be8 19 = .ok (.putfield 48, 3) := by decide +kernel
theorem dJx4a65c_add_72be8_22 : decode cJx4a65c_add_72be8 22 = .ok (.return_, 1) := by decide +kernel
set_option maxRecDepth 20000 in
theorem ggJx4a65c_add_9ea2d_Jx4a65c_add_72be8 : GoodIn wsJx4a65c_add_9ea2d wsJx4a65c_add_72be8 := goodIn_r _ [9, 4, 10, 11, 12, 8, 13, 14, 15, 16, 17, 3, 18, 19, 20, 21, 22, 23, 24, 25, 26, 27, 28, 29, 30, 31, 32, 33, 34, 35, 36, 37, 38, 39, 40, 41, 42, 43, 44, 45, 46, 47, 48, 49, 50, 51, 52, 53, 54, 55] (by decide +kernel) (by decide +kernel)
set_option maxRecDepth 20000 in
theorem gJx4a65c_add_9ea2d_Jx4a65c_add_72be8 : GoodIn wsJx4a65c_add_9ea2d (wsV RJx4a65c 131 RJx4a65c yJx4a65c_add_72be8 wsJx4a65c_add_72be8) := goodIn_app (goodIn_of _ (by decide +kernel)) ggJx4a65c_add_9ea2d_Jx4a65c_add_72be8
theorem dJx4a65c_add_9ea2d_0 : decode cJx4a65c_add_9ea2d 0 = .ok (.aload_n 0, 1) := by decide +kernel
theorem dJx4a65c_add_9ea2d_1 : decode cJx4a65c_add_9ea2d 1 = .ok (.dup, 1) := by decide +kernel
theorem dJx4a65c_add_9ea2d_2 : decode cJx4a65c_add_9ea2d 2 = .ok (.getfield 63, 3) := by decide +kernel
theorem dJx4a65c_add_9ea2d_5 : decode cJx4a65c_add_9ea2d 5 = .ok (.iconst 1, 1) := by decide +kernel
theorem dJx4a65c_add_9ea2d_6 : decode cJx4a65c_add_9ea2d 6 = .ok (.iadd, 1) := by decide +kernel
theorem dJx4a65c_add_9ea2d_7 : decode cJx4a65c_add_9ea2d 7 = .ok (.putfield 63, 3) := by decide +kernel
theorem dJx4a65c_add_9ea2d_10 : decode cJx4a65c_add_9ea2d 10 = .ok (.aload_n 0, 1) := by decide +kernel
theorem dJx4a65c_add_9ea2d_11 : decode cJx4a65c_add_9ea2d 11 = .ok (.aload_n 1, 1) := by decide +kernel
theorem dJx4a65c_add_9ea2d_12 : decode cJx4a65c_add_9ea2d 12 = .ok (.aload_n 0, 1) := by decide +kernel
theorem dJx4a65c_add_9ea2d_13 : decode cJx4a65c_add_9ea2d 13 = .ok (.getfield 9, 3) := by decide +kernel
theorem dJx4a65c_add_9ea2d_16 : decode cJx4a65c_add_9ea2d 16 = .ok (.aload_n 0, 1) := by decide +kernel
theorem dJx4a65c_add_9ea2d_17 : decode cJx4a65c_add_9ea2d 17 = .ok (.getfield 48, 3) := by decide +kernel
theorem dJx4a65c_add_9ea2d_20 : decode cJx4a65c_add_9ea2d 20 = .ok (.invokevirtual 131, 3) := by decide +kernel
theorem dJx4a65c_add_9ea2d_23 : decode cJx4a65c_add_9ea2d 23 = .ok (.iconst 1, 1) := by decide +kernel
theorem dJx4a65c_add_9ea2d_24 : decode cJx4a65c_add_9ea2d 24 = .ok (.ireturn, 1) := by decide +kernel
theorem dJ7_fill_53178_0 : decode cJ7_fill_53178 0 = .ok (.iconst 0, 1) := by decide +kernel
theorem dJ7_fill_53178_1 : decode cJ7_fill_53178 1 = .ok (.istore_n 2, 1) := by decide +kernel
theorem dJ7_fill_53178_2 : decode cJ7_fill_53178 2 = .ok (.aload_n 0, 1) := by decide +kernel
theorem dJ7_fill_53178_3 : decode cJ7_fill_53178 3 = .ok (.arraylength, 1) := by decide +kernel
theorem dJ7_fill_53178_4 : decode cJ7_fill_53178 4 = .ok (.istore_n 3, 1) := by decide +kernel
theorem dJ7_fill_53178_5 : decode cJ7_fill_53178 5 = .ok (.iload_n 2, 1) := by decide +kernel
theorem dJ7_fill_53178_6 : decode cJ7_fill_53178 6 = .ok (.iload_n 3, 1) := by decide +kernel
theorem dJ7_fill_53178_7 : decode cJ7_fill_53178 7 = .ok (.if_icmp .ge 13, 3) := by decide +kernel
theorem dJ7_fill_53178_10 : decode cJ7_fill_53178 10 = .ok (.aload_n 0, 1) := by decide +kernel
theorem dJ7_fill_53178_11 : decode cJ7_fill_53178 11 = .ok (.iload_n 2, 1) := by decide +kernel
theorem dJ7_fill_53178_12 : decode cJ7_fill_53178 12 = .ok (.iload_n 1, 1) := by decide +kernel
theorem dJ7_fill_53178_13 : decode cJ7_fill_53178 13 = .ok (.iastore, 1) := by decide +kernel
theorem dJ7_fill_53178_14 : decode cJ7_fill_53178 14 = .ok (.iinc 2 1, 3) := by decide +kernel
theorem dJ7_fill_53178_17 : decode cJ7_fill_53178 17 = .ok (.goto (-12), 3) := by decide +kernel
theorem dJ7_fill_53178_20 : decode cJ7_fill_53178 20 = .ok (.return_, 1) := by decide +kernel
set_option maxRecDepth 20000 in
theorem ggJ7_copyOf_1904c_J7_copyOf_6403c : GoodIn wsJ7_copyOf_1904c wsJ7_copyOf_6403c := goodIn_r _ [8, 9, 10, 11, 12, 13, 14, 15, 16, 17, 18] (by decide +kernel) (by decide +kernel)
set_option maxRecDepth 20000 in
theorem gJ7_copyOf_1904c_J7_copyOf_6403c : GoodIn wsJ7_copyOf_1904c (va_wsS RJ7 300 yJ7_copyOf_6403c wsJ7_copyOf_6403c) := goodIn_app (goodIn_of _ (by decide +kernel)) ggJ7_copyOf_1904c_J7_copyOf_6403c
theorem dJ7_copyOf_1904c_0 : decode cJ7_copyOf_1904c 0 = .ok (.aload_n 0, 1) := by decide +kernel
theorem dJ7_copyOf_1904c_1 : decode cJ7_copyOf_1904c 1 = .ok (.iload_n 1, 1) := by decide +kernel
theorem dJ7_copyOf_1904c_2 : decode cJ7_copyOf_1904c 2 = .ok (.aload_n 0, 1) := by decide +kernel
theorem dJ7_copyOf_1904c_3 : decode cJ7_copyOf_1904c 3 = .ok (.invokevirtual 86, 3) := by decide +kernel
theorem dJ7_copyOf_1904c_6 : decode cJ7_copyOf_1904c 6 = .ok (.invokestatic 300, 3) := by decide +kernel
theorem dJ7_copyOf_1904c_9 : decode cJ7_copyOf_1904c 9 = .ok (.areturn, 1) := by decide +kernel
theorem dJ7_copyOf_6403c_0 : decode cJ7_copyOf_6403c 0 = .ok (.aload_n 2, 1) := by decide +kernel
theorem dJ7_copyOf_6403c_1 : decode cJ7_copyOf_6403c 1 = .ok (.ldc 110, 2) := by decide +kernel
theorem dJ7_copyOf_6403c_3 : decode cJ7_copyOf_6403c 3 = .ok (.if_acmp .ne 10, 3) := by decide +kernel
theorem dJ7_copyOf_6403c_6 : decode cJ7_copyOf_6403c 6 = .ok (.iload_n 1, 1) := by decide +kernel
theorem dJ7_copyOf_6403c_7 : decode cJ7_copyOf_6403c 7 = .ok (.anewarray 2, 3) := by decide +kernel
theorem dJ7_copyOf_6403c_10 : decode cJ7_copyOf_6403c 10 = .ok (.goto 14, 3) := by decide +kernel
theorem dJ7_copyOf_6403c_13 : decode cJ7_copyOf_6403c 13 = .ok (.aload_n 2, 1) := by decide +kernel
theorem dJ7_copyOf_6403c_14 : decode cJ7_copyOf_6403c 14 = .ok (.invokevirtual 90, 3) := by decide +kernel
theorem dJ7_copyOf_6403c_17 : decode cJ7_copyOf_6403c 17 = .ok (.iload_n 1, 1) := by decide +kernel
theorem dJ7_copyOf_6403c_18 : decode cJ7_copyOf_6403c 18 = .ok (.invokestatic 95, 3) := by decide +kernel
theorem dJ7_copyOf_6403c_21 : decode cJ7_copyOf_6403c 21 = .ok (.checkcast 110, 3) := by decide +kernel
theorem dJ7_copyOf_6403c_24 : decode cJ7_copyOf_6403c 24 = .ok (.astore_n 3, 1) := by decide +kernel
theorem dJ7_copyOf_6403c_25 : decode cJ7_copyOf_6403c 25 = .ok (.aload_n 0, 1) := by decide +kernel
theorem dJ7_copyOf_6403c_26 : decode cJ7_copyOf_6403c 26 = .ok (.iconst 0, 1) := by decide +kernel
theorem dJ7_copyOf_6403c_27 : decode cJ7_copyOf_6403c 27 = .ok (.aload_n 3, 1) := by decide +kernel
theorem dJ7_copyOf_6403c_28 : decode cJ7_copyOf_6403c 28 = .ok (.iconst 0, 1) := by decide +kernel
theorem dJ7_copyOf_6403c_29 : decode cJ7_copyOf_6403c 29 = .ok (.aload_n 0, 1) := by decide +kernel
theorem dJ7_copyOf_6403c_30 : decode cJ7_copyOf_6403c 30 = .ok (.arraylength, 1) := by decide +kernel
theorem dJ7_copyOf_6403c_31 : decode cJ7_copyOf_6403c 31 = .ok (.iload_n 1, 1) := by decide +kernel
theorem dJ7_copyOf_6403c_32 : decode cJ7_copyOf_6403c 32 = .ok (.invokestatic 304, 3) := by decide +kernel
theorem dJ7_copyOf_6403c_35 : decode cJ7_copyOf_6403c 35 = .ok (.invokestatic 150, 3) := by decide +kernel
theorem dJ7_copyOf_6403c_38 : decode cJ7_copyOf_6403c 38 = .ok (.aload_n 3, 1) := by decide +kernel
theorem dJ7_copyOf_6403c_39 : decode cJ7_copyOf_6403c 39 = .ok (.areturn, 1) := by decide +kernel
set_option maxRecDepth 20000 in
theorem ggJ15_checkIndex_7cf53_J3_checkIndex_8e157 : GoodIn wsJ15_checkIndex_7cf53 wsJ3_checkIndex_8e157 := goodIn_r _ [4] (by decide +kernel) (by decide +kernel)
set_option maxRecDepth 20000 in
theorem gJ15_checkIndex_7cf53_J3_checkIndex_8e157 : GoodIn wsJ15_checkIndex_7cf53 (va_wsS RJ15 105 yJ3_checkIndex_8e157 wsJ3_checkIndex_8e157) := goodIn_app (goodIn_of _ (by decide +kernel)) ggJ15_checkIndex_7cf53_J3_checkIndex_8e157
theorem dJ15_checkIndex_7cf53_0 : decode cJ15_checkIndex_7cf53 0 = .ok (.iload_n 0, 1) := by decide +kernel
theorem dJ15_checkIndex_7cf53_1 : decode cJ15_checkIndex_7cf53 1 = .ok (.iload_n 1, 1) := by decide +kernel
theorem dJ15_checkIndex_7cf53_2 : decode cJ15_checkIndex_7cf53 2 = .ok (.aconst_null, 1) := by decide +kernel
theorem dJ15_checkIndex_7cf53_3 : decode cJ15_checkIndex_7cf53 3 = .ok (.invokestatic 105, 3) := by decide +kernel
theorem dJ15_checkIndex_7cf53_6 : decode cJ15_checkIndex_7cf53 6 = .ok (.ireturn, 1) := by decide +kernel
set_option maxRecDepth 20000 in
theorem ggJ8_newLength_cabcc_J8_hugeLength_7cf53 : GoodIn wsJ8_newLength_cabcc wsJ8_hugeLength_7cf53 := goodIn_r _ [9, 5] (by decide +kernel) (by decide +kernel)
set_option maxRecDepth 20000 in
theorem gJ8_newLength_cabcc_J8_hugeLength_7cf53 : GoodIn wsJ8_newLength_cabcc (va_wsS RJ8 201 yJ8_hugeLength_7cf53 wsJ8_hugeLength_7cf53) := goodIn_app (goodIn_of _ (by decide +kernel)) ggJ8_newLength_cabcc_J8_hugeLength_7cf53
theorem dJ8_newLength_cabcc_0 : decode cJ8_newLength_cabcc 0 = .ok (.iload_n 0, 1) := by decide +kernel
theorem dJ8_newLength_cabcc_1 : decode cJ8_newLength_cabcc 1 = .ok (.iload_n 1, 1) := by decide +kernel
theorem dJ8_newLength_cabcc_2 : decode cJ8_newLength_cabcc 2 = .ok (.iload_n 2, 1) := by decide +kernel
theorem dJ8_newLength_cabcc_3 : decode cJ8_newLength_cabcc 3 = .ok (.invokestatic 194, 3) := by decide +kernel
theorem dJ8_newLength_cabcc_6 : decode cJ8_newLength_cabcc 6 = .ok (.iadd, 1) := by decide +kernel
theorem dJ8_newLength_cabcc_7 : decode cJ8_newLength_cabcc 7 = .ok (.istore_n 3, 1) := by decide +kernel
theorem dJ8_newLength_cabcc_8 : decode cJ8_newLength_cabcc 8 = .ok (.iconst 0, 1) := by decide +kernel
theorem dJ8_newLength_cabcc_9 : decode cJ8_newLength_cabcc 9 = .ok (.iload_n 3, 1) := by decide +kernel
theorem dJ8_newLength_cabcc_10 : decode cJ8_newLength_cabcc 10 = .ok (.if_icmp .ge 11, 3) := by decide +kernel
theorem dJ8_newLength_cabcc_13 : decode cJ8_newLength_cabcc 13 = .ok (.iload_n 3, 1) := by decide +kernel
theorem dJ8_newLength_cabcc_14 : decode cJ8_newLength_cabcc 14 = .ok (.ldc 200, 2) := by decide +kernel
theorem dJ8_newLength_cabcc_16 : decode cJ8_newLength_cabcc 16 = .ok (.if_icmp .gt 5, 3) := by decide +kernel
theorem dJ8_newLength_cabcc_19 : decode cJ8_newLength_cabcc 19 = .ok (.iload_n 3, 1) := by decide +kernel
theorem dJ8_newLength_cabcc_20 : decode cJ8_newLength_cabcc 20 = .ok (.ireturn, 1) := by decide +kernel
theorem dJ8_newLength_cabcc_21 : decode cJ8_newLength_cabcc 21 = .ok (.iload_n 0, 1) := by decide +kernel
theorem dJ8_newLength_cabcc_22 : decode cJ8_newLength_cabcc 22 = .ok (.iload_n 1, 1) := by decide +kernel
theorem dJ8_newLength_cabcc_23 : decode cJ8_newLength_cabcc 23 = .ok (.invokestatic 201, 3) := by decide +kernel
theorem dJ8_newLength_cabcc_26 : decode cJ8_newLength_cabcc 26 = .ok (.ireturn, 1) := by decide +kernel
theorem dJ8_hugeLength_7cf53_0 : decode cJ8_hugeLength_7cf53 0 = .ok (.iload_n 0, 1) := by decide +kernel
theorem dJ8_hugeLength_7cf53_1 : decode cJ8_hugeLength_7cf53 1 = .ok (.iload_n 1, 1) := by decide +kernel
theorem dJ8_hugeLength_7cf53_2 : decode cJ8_hugeLength_7cf53 2 = .ok (.iadd, 1) := by decide +kernel
theorem dJ8_hugeLength_7cf53_3 : decode cJ8_hugeLength_7cf53 3 = .ok (.istore_n 2, 1) := by decide +kernel
theorem dJ8_hugeLength_7cf53_4 : decode cJ8_hugeLength_7cf53 4 = .ok (.iload_n 2, 1) := by decide +kernel
theorem dJ8_hugeLength_7cf53_5 : decode cJ8_hugeLength_7cf53 5 = .ok (.ifCond .ge 44, 3) := by decide +kernel
theorem dJ8_hugeLength_7cf53_8 : decode cJ8_hugeLength_7cf53 8 = .ok (.new 204, 3) := by decide +kernel
theorem dJ8_hugeLength_7cf53_11 : decode cJ8_hugeLength_7cf53 11 = .ok (.dup, 1) := by decide +kernel
theorem dJ8_hugeLength_7cf53_12 : decode cJ8_hugeLength_7cf53 12 = .ok (.new 89, 3) := by decide +kernel
theorem dJ8_hugeLength_7cf53_15 : decode cJ8_hugeLength_7cf53 15 = .ok (.dup, 1) := by decide +kernel
theorem dJ8_hugeLength_7cf53_16 : decode cJ8_hugeLength_7cf53 16 = .ok (.invokespecial 91, 3) := by decide +kernel
theorem dJ8_hugeLength_7cf53_19 : decode cJ8_hugeLength_7cf53 19 = .ok (.ldc 206, 2) := by decide +kernel
theorem dJ8_hugeLength_7cf53_21 : decode cJ8_hugeLength_7cf53 21 = .ok (.invokevirtual 94, 3) := by decide +kernel
theorem dJ8_hugeLength_7cf53_24 : decode cJ8_hugeLength_7cf53 24 = .ok (.iload_n 0, 1) := by decide +kernel
theorem dJ8_hugeLength_7cf53_25 : decode cJ8_hugeLength_7cf53 25 = .ok (.invokevirtual 98, 3) := by decide +kernel
theorem dJ8_hugeLength_7cf53_28 : decode cJ8_hugeLength_7cf53 28 = .ok (.ldc 208, 2) := by decide +kernel
theorem dJ8_hugeLength_7cf53_30 : decode cJ8_hugeLength_7cf53 30 = .ok (.invokevirtual 94, 3) := by decide +kernel
theorem dJ8_hugeLength_7cf53_33 : decode cJ8_hugeLength_7cf53 33 = .ok (.iload_n 1, 1) := by decide +kernel
theorem dJ8_hugeLength_7cf53_34 : decode cJ8_hugeLength_7cf53 34 = .ok (.invokevirtual 98, 3) := by decide +kernel
theorem dJ8_hugeLength_7cf53_37 : decode cJ8_hugeLength_7cf53 37 = .ok (.ldc 210, 2) := by decide +kernel
theorem dJ8_hugeLength_7cf53_39 : decode cJ8_hugeLength_7cf53 39 = .ok (.invokevirtual 94, 3) := by decide +kernel
theorem dJ8_hugeLength_7cf53_42 : decode cJ8_hugeLength_7cf53 42 = .ok (.invokevirtual 101, 3) := by decide +kernel
theorem dJ8_hugeLength_7cf53_45 : decode cJ8_hugeLength_7cf53 45 = .ok (.invokespecial 212, 3) := by decide +kernel
theorem dJ8_hugeLength_7cf53_48 : decode cJ8_hugeLength_7cf53 48 = .ok (.athrow, 1) := by decide +kernel
theorem dJ8_hugeLength_7cf53_49 : decode cJ8_hugeLength_7cf53 49 = .ok (.iload_n 2, 1) := by decide +kernel
theorem dJ8_hugeLength_7cf53_50 : decode cJ8_hugeLength_7cf53 50 = .ok (.ldc 200, 2) := by decide +kernel
theorem dJ8_hugeLength_7cf53_52 : decode cJ8_hugeLength_7cf53 52 = .ok (.if_icmp .gt 6, 3) := by decide +kernel
theorem dJ8_hugeLength_7cf53_55 : decode cJ8_hugeLength_7cf53 55 = .ok (.ldc 200, 2) := by decide +kernel
theorem dJ8_hugeLength_7cf53_57 : decode cJ8_hugeLength_7cf53 57 = .ok (.ireturn, 1) := by decide +kernel
theorem dJ8_hugeLength_7cf53_58 : decode cJ8_hugeLength_7cf53 58 = .ok (.iload_n 2, 1) := by decide +kernel
theorem dJ8_hugeLength_7cf53_59 : decode cJ8_hugeLength_7cf53 59 = .ok (.ireturn, 1) := by decide +kernel
theorem dJ3_checkIndex_8e157_0 : decode cJ3_checkIndex_8e157 0 = .ok (.iload_n 0, 1) := by decide +kernel
theorem dJ3_checkIndex_8e157_1 : decode cJ3_checkIndex_8e157 1 = .ok (.ifCond .lt 8, 3) := by decide +kernel
theorem dJ3_checkIndex_8e157_4 : decode cJ3_checkIndex_8e157 4 = .ok (.iload_n 0, 1) := by decide +kernel
theorem dJ3_checkIndex_8e157_5 : decode cJ3_checkIndex_8e157 5 = .ok (.iload_n 1, 1) := by decide +kernel
theorem dJ3_checkIndex_8e157_6 : decode cJ3_checkIndex_8e157 6 = .ok (.if_icmp .lt 10, 3) := by decide +kernel
theorem dJ3_checkIndex_8e157_9 : decode cJ3_checkIndex_8e157 9 = .ok (.aload_n 2, 1) := by decide +kernel
theorem dJ3_checkIndex_8e157_10 : decode cJ3_checkIndex_8e157 10 = .ok (.iload_n 0, 1) := by decide +kernel
theorem dJ3_checkIndex_8e157_11 : decode cJ3_checkIndex_8e157 11 = .ok (.iload_n 1, 1) := by decide +kernel
theorem dJ3_checkIndex_8e157_12 : decode cJ3_checkIndex_8e157 12 = .ok (.invokestatic 95, 3) := by decide +kernel
theorem dJ3_checkIndex_8e157_15 : decode cJ3_checkIndex_8e157 15 = .ok (.athrow, 1) := by decide +kernel
theorem dJ3_checkIndex_8e157_16 : decode cJ3_checkIndex_8e157 16 = .ok (.iload_n 0, 1) := by decide +kernel
theorem dJ3_checkIndex_8e157_17 : decode cJ3_checkIndex_8e157 17 = .ok (.ireturn, 1) := by decide +kernel
theorem dL_below_0 : decode cL_below 0 = .ok (.iload_n 0, 1) := by decide +kernel
theorem dL_below_1 : decode cL_below 1 = .ok (.ldc 7, 2) := by decide +kernel
theorem dL_below_3 : decode cL_below 3 = .ok (.iand, 1) := by decide +kernel
theorem dL_below_4 : decode cL_below 4 = .ok (.iload_n 1, 1) := by decide +kernel
theorem dL_below_5 : decode cL_below 5 = .ok (.irem, 1) := by decide +kernel
theorem dL_below_6 : decode cL_below 6 = .ok (.ireturn, 1) := by decide +kernel
theorem dL_cell_0 : decode cL_cell 0 = .ok (.iload_n 1, 1) := by decide +kernel
theorem dL_cell_1 : decode cL_cell 1 = .ok (.aload_n 0, 1) := by decide +kernel
theorem dL_cell_2 : decode cL_cell 2 = .ok (.arraylength, 1) := by decide +kernel
theorem dL_cell_3 : decode cL_cell 3 = .ok (.if_icmp .ge 9, 3) := by decide +kernel
theorem dL_cell_6 : decode cL_cell 6 = .ok (.aload_n 0, 1) := by decide +kernel
theorem dL_cell_7 : decode cL_cell 7 = .ok (.iload_n 1, 1) := by decide +kernel
theorem dL_cell_8 : decode cL_cell 8 = .ok (.iaload, 1) := by decide +kernel
theorem dL_cell_9 : decode cL_cell 9 = .ok (.goto 9, 3) := by decide +kernel
theorem dL_cell_12 : decode cL_cell 12 = .ok (.ldc 8, 2) := by decide +kernel
theorem dL_cell_14 : decode cL_cell 14 = .ok (.iload_n 1, 1) := by decide +kernel
theorem dL_cell_15 : decode cL_cell 15 = .ok (.iconst 3, 1) := by decide +kernel
theorem dL_cell_16 : decode cL_cell 16 = .ok (.iadd, 1) := by decide +kernel
theorem dL_cell_17 : decode cL_cell 17 = .ok (.imul, 1) := by decide +kernel
theorem dL_cell_18 : decode cL_cell 18 = .ok (.ireturn, 1) := by decide +kernel
set_option maxRecDepth 20000 in
theorem ggL_isSound_X9_blocks : GoodIn wsL_isSound wsX9_blocks := goodIn_ca (goodIn_r _ [6, 7, 8, 9, 10, 5, 11, 12, 13, 14, 15, 16, 17, 18, 19, 20, 21, 22, 23, 24, 25, 26, 27, 28, 29, 30, 31, 32, 33, 34, 35, 36, 37, 38, 39, 40, 41, 42, 43, 44, 45, 174, 175, 176, 177, 178, 179, 180, 181, 182, 183, 184, 185, 186, 187, 188, 189, 190, 191, 192, 193, 194, 195, 196, 197, 198, 199, 200, 201, 202] (by decide +kernel) (by decide +kernel)) (goodIn_sub (fun _ h => List.mem_cons_of_mem _ (List.mem_append_left _ (List.mem_append_right _ h))) (by decide +kernel))
set_option maxRecDepth 20000 in
theorem gL_isSound_X9_blocks : GoodIn wsL_isSound (wsV RL 9 RX9 yX9_blocks wsX9_blocks) := goodIn_app (goodIn_of _ (by decide +kernel)) ggL_isSound_X9_blocks
set_option maxRecDepth 20000 in
theorem ggL_isSound_X9_buckets : GoodIn wsL_isSound wsX9_buckets := goodIn_ca (goodIn_r _ [49, 50, 51, 8, 9, 10, 5, 11, 12, 13, 14, 15, 16, 17, 18, 19, 20, 21, 22, 23, 24, 25, 26, 27, 28, 29, 30, 31, 32, 33, 34, 35, 36, 37, 38, 39, 52, 53, 54, 55, 56, 57, 58, 203, 204, 196, 197, 198, 199, 200, 201, 202, 179, 180, 181, 182, 183, 184, 185, 186, 187, 188, 189, 190, 191, 192, 193, 194, 195, 174, 175, 176, 177, 178] (by decide +kernel) (by decide +kernel)) (goodIn_sub (fun _ h => List.mem_cons_of_mem _ (List.mem_append_left _ (List.mem_append_right _ h))) (by decide +kernel))
set_option maxRecDepth 20000 in
theorem gL_isSound_X9_buckets : GoodIn wsL_isSound (wsV RL 15 RX9 yX9_buckets wsX9_buckets) := goodIn_app (goodIn_of _ (by decide +kernel)) ggL_isSound_X9_buckets
set_option maxRecDepth 20000 in
theorem ggL_isSound_X9_size : GoodIn wsL_isSound wsX9_size := goodIn_ca (goodIn_r _ [62, 7, 63, 8, 9, 10, 5, 11, 12, 13, 14, 15, 16, 17, 18, 19, 20, 21, 22, 23, 24, 25, 26, 27, 28, 29, 30, 31, 32, 33, 34, 35, 36, 37, 38, 39, 64, 65, 66, 67, 68, 69, 70, 71, 72, 43, 73, 45, 74, 75, 76, 77, 78, 79, 80, 81, 174, 175, 176, 177, 178, 196, 197, 198, 199, 200, 201, 202, 179, 180, 181, 182, 183, 184, 185, 186, 187, 188, 189, 190, 191, 192, 193, 194, 195, 203, 204] (by decide +kernel) (by decide +kernel)) (goodIn_sub (fun _ h => List.mem_cons_of_mem _ (List.mem_append_left _ (List.mem_append_right _ h))) (by decide +kernel))
set_option maxRecDepth 20000 in
theorem gL_isSound_X9_size : GoodIn wsL_isSound (wsV RL 19 RX9 yX9_size wsX9_size) := goodIn_app (goodIn_of _ (by decide +kernel)) ggL_isSound_X9_size
set_option maxRecDepth 20000 in
theorem ggL_isSound_X9_bits : GoodIn wsL_isSound wsX9_bits := goodIn_ca (goodIn_r _ [85, 7, 63, 86, 8, 9, 10, 5, 11, 12, 13, 14, 15, 16, 17, 18, 19, 20, 21, 22, 23, 24, 25, 26, 27, 28, 29, 30, 31, 32, 33, 34, 35, 36, 37, 38, 39, 64, 65, 66, 67, 68, 69, 87, 88, 89, 90, 91, 92, 93, 94, 95, 96, 43, 97, 45, 98, 71, 72, 73, 74, 75, 76, 77, 78, 79, 80, 81, 99, 100, 101, 102, 103, 104, 105, 106, 107, 108, 109, 110, 111, 112, 113, 114, 115, 116, 117, 118, 119, 120, 121, 122, 123, 124, 125, 126, 127, 128, 129, 130, 131, 132, 133, 134, 135, 136, 174, 175, 176, 177, 178, 196, 197, 198, 199, 200, 201, 202, 179, 180, 181, 182, 183, 184, 185, 186, 187, 188, 189, 190, 191, 192, 193, 194, 195, 205, 206, 207, 208, 209, 210, 203, 204] (by decide +kernel) (by decide +kernel)) (goodIn_sub (fun _ h => List.mem_cons_of_mem _ (List.mem_append_left _ (List.mem_append_right _ h))) (by decide +kernel))
set_option maxRecDepth 20000 in
theorem gL_isSound_X9_bits : GoodIn wsL_isSound (wsV RL 23 RX9 yX9_bits wsX9_bits) := goodIn_app (goodIn_of _ (by decide +kernel)) ggL_isSound_X9_bits
set_option maxRecDepth 20000 in
theorem ggL_isSound_X9_point : GoodIn wsL_isSound wsX9_point := goodIn_ca (goodIn_r _ [140, 7, 63, 8, 9, 10, 5, 11, 12, 13, 14, 15, 16, 17, 18, 19, 20, 21, 22, 23, 24, 25, 26, 27, 28, 29, 30, 31, 32, 33, 34, 35, 36, 37, 38, 39, 64, 65, 66, 67, 68, 69, 70, 71, 72, 43, 73, 45, 74, 75, 76, 77, 78, 79, 80, 81, 141, 95, 96, 97, 98, 142, 115, 116, 117, 118, 119, 174, 175, 176, 177, 178, 196, 197, 198, 199, 200, 201, 202, 179, 180, 181, 182, 183, 184, 185, 186, 187, 188, 189, 190, 191, 192, 193, 194, 195, 203, 204] (by decide +kernel) (by decide +kernel)) (goodIn_sub (fun _ h => List.mem_cons_of_mem _ (List.mem_append_left _ (List.mem_append_right _ h))) (by decide +kernel))
set_option maxRecDepth 20000 in
theorem gL_isSound_X9_point : GoodIn wsL_isSound (wsV RL 26 RX9 yX9_point wsX9_point) := goodIn_app (goodIn_of _ (by decide +kernel)) ggL_isSound_X9_point
set_option maxRecDepth 20000 in
theorem ggL_isSound_X9_now : GoodIn wsL_isSound wsX9_now := goodIn_r _ [146, 14, 147, 179, 180, 181, 182, 183, 184, 185, 186, 187, 188, 189, 190, 191, 192] (by decide +kernel) (by decide +kernel)
set_option maxRecDepth 20000 in
theorem gL_isSound_X9_now : GoodIn wsL_isSound (wsV RL 30 RX9 yX9_now wsX9_now) := goodIn_app (goodIn_of _ (by decide +kernel)) ggL_isSound_X9_now
set_option maxRecDepth 20000 in
theorem ggL_isSound_X9_ofBucket : GoodIn wsL_isSound wsX9_ofBucket := goodIn_ca (goodIn_ca (goodIn_r _ [151, 50, 51, 8, 9, 10, 5, 11, 12, 13, 14, 15, 16, 17, 18, 19, 20, 21, 22, 23, 24, 25, 26, 27, 28, 29, 30, 31, 32, 33, 34, 35, 36, 37, 38, 39, 52, 53, 54, 55, 56, 57, 58, 64, 65, 66, 67, 68, 69, 152, 153, 154, 155, 156, 157, 158, 159, 160, 161, 162, 203, 204, 196, 197, 198, 199, 200, 201, 202, 179, 180, 181, 182, 183, 184, 185, 186, 187, 188, 189, 190, 191, 192, 193, 194, 195, 174, 175, 176, 177, 178] (by decide +kernel) (by decide +kernel)) (goodIn_sub (fun _ h => List.mem_cons_of_mem _ (List.mem_append_left _ (List.mem_append_right _ h))) (by decide +kernel))) (goodIn_sub (fun _ h => List.mem_cons_of_mem _ (List.mem_append_right _ h)) (by decide +kernel))
set_option maxRecDepth 20000 in
theorem gL_isSound_X9_ofBucket : GoodIn wsL_isSound (wsV RL 34 RX9 yX9_ofBucket wsX9_ofBucket) := goodIn_app (goodIn_of _ (by decide +kernel)) ggL_isSound_X9_ofBucket
set_option maxRecDepth 20000 in
theorem ggL_isSound_X9_items : GoodIn wsL_isSound wsX9_items := goodIn_ca (goodIn_r _ [166, 8, 9, 10, 5, 11, 12, 13, 14, 15, 16, 17, 18, 19, 20, 21, 22, 23, 24, 25, 26, 27, 28, 29, 30, 31, 32, 33, 34, 35, 36, 37, 38, 39, 167, 168, 169, 55, 170, 57, 171, 51, 58, 172, 173, 80, 179, 180, 181, 182, 183, 184, 185, 186, 187, 188, 189, 190, 191, 192, 193, 194, 195, 174, 175, 176, 177, 178, 203, 204, 196, 197, 198, 199, 200, 201, 202] (by decide +kernel) (by decide +kernel)) (goodIn_sub (fun _ h => List.mem_cons_of_mem _ (List.mem_append_left _ (List.mem_append_right _ h))) (by decide +kernel))
set_option maxRecDepth 20000 in
theorem gL_isSound_X9_items : GoodIn wsL_isSound (wsV RL 38 RX9 yX9_items wsX9_items) := goodIn_app (goodIn_of _ (by decide +kernel)) ggL_isSound_X9_items
theorem dL_isSound_0 : decode cL_isSound 0 = .ok (.aload_n 0, 1) := by decide +kernel
theorem dL_isSound_1 : decode cL_isSound 1 = .ok (.iload_n 1, 1) := by decide +kernel
theorem dL_isSound_2 : decode cL_isSound 2 = .ok (.invokevirtual 9, 3) := by decide +kernel
theorem dL_isSound_5 : decode cL_isSound 5 = .ok (.istore_n 2, 1) := by decide +kernel
theorem dL_isSound_6 : decode cL_isSound 6 = .ok (.aload_n 0, 1) := by decide +kernel
theorem dL_isSound_7 : decode cL_isSound 7 = .ok (.iload_n 1, 1) := by decide +kernel
theorem dL_isSound_8 : decode cL_isSound 8 = .ok (.iconst 0, 1) := by decide +kernel
theorem dL_isSound_9 : decode cL_isSound 9 = .ok (.invokevirtual 15, 3) := by decide +kernel
theorem dL_isSound_12 : decode cL_isSound 12 = .ok (.aload_n 0, 1) := by decide +kernel
theorem dL_isSound_13 : decode cL_isSound 13 = .ok (.iload_n 1, 1) := by decide +kernel
theorem dL_isSound_14 : decode cL_isSound 14 = .ok (.iconst 1, 1) := by decide +kernel
theorem dL_isSound_15 : decode cL_isSound 15 = .ok (.invokevirtual 15, 3) := by decide +kernel
theorem dL_isSound_18 : decode cL_isSound 18 = .ok (.iadd, 1) := by decide +kernel
theorem dL_isSound_19 : decode cL_isSound 19 = .ok (.istore_n 3, 1) := by decide +kernel
theorem dL_isSound_20 : decode cL_isSound 20 = .ok (.iconst (-1), 1) := by decide +kernel
theorem dL_isSound_21 : decode cL_isSound 21 = .ok (.istore 4, 2) := by decide +kernel
theorem dL_isSound_23 : decode cL_isSound 23 = .ok (.iload_n 2, 1) := by decide +kernel
theorem dL_isSound_24 : decode cL_isSound 24 = .ok (.iconst 1, 1) := by decide +kernel
theorem dL_isSound_25 : decode cL_isSound 25 = .ok (.if_icmp .lt 31, 3) := by decide +kernel
theorem dL_isSound_28 : decode cL_isSound 28 = .ok (.iload_n 2, 1) := by decide +kernel
theorem dL_isSound_29 : decode cL_isSound 29 = .ok (.bipush 9, 2) := by decide +kernel
theorem dL_isSound_31 : decode cL_isSound 31 = .ok (.if_icmp .gt 25, 3) := by decide +kernel
theorem dL_isSound_34 : decode cL_isSound 34 = .ok (.aload_n 0, 1) := by decide +kernel
theorem dL_isSound_35 : decode cL_isSound 35 = .ok (.iload_n 1, 1) := by decide +kernel
theorem dL_isSound_36 : decode cL_isSound 36 = .ok (.iconst 0, 1) := by decide +kernel
theorem dL_isSound_37 : decode cL_isSound 37 = .ok (.invokevirtual 15, 3) := by decide +kernel
theorem dL_isSound_40 : decode cL_isSound 40 = .ok (.bipush 24, 2) := by decide +kernel
theorem dL_isSound_42 : decode cL_isSound 42 = .ok (.if_icmp .gt 14, 3) := by decide +kernel
theorem dL_isSound_45 : decode cL_isSound 45 = .ok (.aload_n 0, 1) := by decide +kernel
theorem dL_isSound_46 : decode cL_isSound 46 = .ok (.iload_n 1, 1) := by decide +kernel
theorem dL_isSound_47 : decode cL_isSound 47 = .ok (.iconst 1, 1) := by decide +kernel
theorem dL_isSound_48 : decode cL_isSound 48 = .ok (.invokevirtual 15, 3) := by decide +kernel
theorem dL_isSound_51 : decode cL_isSound 51 = .ok (.bipush 24, 2) := by decide +kernel
theorem dL_isSound_53 : decode cL_isSound 53 = .ok (.if_icmp .le 5, 3) := by decide +kernel
theorem dL_isSound_56 : decode cL_isSound 56 = .ok (.iconst 0, 1) := by decide +kernel
theorem dL_isSound_57 : decode cL_isSound 57 = .ok (.ireturn, 1) := by decide +kernel
theorem dL_isSound_58 : decode cL_isSound 58 = .ok (.iconst 0, 1) := by decide +kernel
theorem dL_isSound_59 : decode cL_isSound 59 = .ok (.istore 5, 2) := by decide +kernel
theorem dL_isSound_61 : decode cL_isSound 61 = .ok (.iload 5, 2) := by decide +kernel
theorem dL_isSound_63 : decode cL_isSound 63 = .ok (.iload_n 2, 1) := by decide +kernel
theorem dL_isSound_64 : decode cL_isSound 64 = .ok (.if_icmp .ge 120, 3) := by decide +kernel
theorem dL_isSound_67 : decode cL_isSound 67 = .ok (.aload_n 0, 1) := by decide +kernel
theorem dL_isSound_68 : decode cL_isSound 68 = .ok (.iload_n 1, 1) := by decide +kernel
theorem dL_isSound_69 : decode cL_isSound 69 = .ok (.iload 5, 2) := by decide +kernel
theorem dL_isSound_71 : decode cL_isSound 71 = .ok (.invokevirtual 19, 3) := by decide +kernel
theorem dL_isSound_74 : decode cL_isSound 74 = .ok (.istore 6, 2) := by decide +kernel
theorem dL_isSound_76 : decode cL_isSound 76 = .ok (.iload_n 3, 1) := by decide +kernel
theorem dL_isSound_77 : decode cL_isSound 77 = .ok (.iload 6, 2) := by decide +kernel
theorem dL_isSound_79 : decode cL_isSound 79 = .ok (.iadd, 1) := by decide +kernel
theorem dL_isSound_80 : decode cL_isSound 80 = .ok (.istore_n 3, 1) := by decide +kernel
theorem dL_isSound_81 : decode cL_isSound 81 = .ok (.aload_n 0, 1) := by decide +kernel
theorem dL_isSound_82 : decode cL_isSound 82 = .ok (.iload_n 1, 1) := by decide +kernel
theorem dL_isSound_83 : decode cL_isSound 83 = .ok (.iload 5, 2) := by decide +kernel
theorem dL_isSound_85 : decode cL_isSound 85 = .ok (.invokevirtual 23, 3) := by decide +kernel
theorem dL_isSound_88 : decode cL_isSound 88 = .ok (.ifCond .le 7, 3) := by decide +kernel
theorem dL_isSound_91 : decode cL_isSound 91 = .ok (.iconst 1, 1) := by decide +kernel
theorem dL_isSound_92 : decode cL_isSound 92 = .ok (.goto 4, 3) := by decide +kernel
theorem dL_isSound_95 : decode cL_isSound 95 = .ok (.iconst 0, 1) := by decide +kernel
theorem dL_isSound_96 : decode cL_isSound 96 = .ok (.iload 5, 2) := by decide +kernel
theorem dL_isSound_98 : decode cL_isSound 98 = .ok (.iload_n 2, 1) := by decide +kernel
theorem dL_isSound_99 : decode cL_isSound 99 = .ok (.iconst 1, 1) := by decide +kernel
theorem dL_isSound_100 : decode cL_isSound 100 = .ok (.isub, 1) := by decide +kernel
theorem dL_isSound_101 : decode cL_isSound 101 = .ok (.if_icmp .ge 7, 3) := by decide +kernel
theorem dL_isSound_104 : decode cL_isSound 104 = .ok (.iconst 1, 1) := by decide +kernel
theorem dL_isSound_105 : decode cL_isSound 105 = .ok (.goto 4, 3) := by decide +kernel
theorem dL_isSound_108 : decode cL_isSound 108 = .ok (.iconst 0, 1) := by decide +kernel
theorem dL_isSound_109 : decode cL_isSound 109 = .ok (.if_icmp .ne 17, 3) := by decide +kernel
theorem dL_isSound_112 : decode cL_isSound 112 = .ok (.iload 5, 2) := by decide +kernel
theorem dL_isSound_114 : decode cL_isSound 114 = .ok (.iload_n 2, 1) := by decide +kernel
theorem dL_isSound_115 : decode cL_isSound 115 = .ok (.iconst 1, 1) := by decide +kernel
theorem dL_isSound_116 : decode cL_isSound 116 = .ok (.isub, 1) := by decide +kernel
theorem dL_isSound_117 : decode cL_isSound 117 = .ok (.if_icmp .ge 11, 3) := by decide +kernel
theorem dL_isSound_120 : decode cL_isSound 120 = .ok (.iload 6, 2) := by decide +kernel
theorem dL_isSound_122 : decode cL_isSound 122 = .ok (.iconst 2, 1) := by decide +kernel
theorem dL_isSound_123 : decode cL_isSound 123 = .ok (.if_icmp .ge 5, 3) := by decide +kernel
theorem dL_isSound_126 : decode cL_isSound 126 = .ok (.iconst 0, 1) := by decide +kernel
theorem dL_isSound_127 : decode cL_isSound 127 = .ok (.ireturn, 1) := by decide +kernel
theorem dL_isSound_128 : decode cL_isSound 128 = .ok (.iconst 0, 1) := by decide +kernel
theorem dL_isSound_129 : decode cL_isSound 129 = .ok (.istore 7, 2) := by decide +kernel
theorem dL_isSound_131 : decode cL_isSound 131 = .ok (.iload 7, 2) := by decide +kernel
theorem dL_isSound_133 : decode cL_isSound 133 = .ok (.iload 6, 2) := by decide +kernel
theorem dL_isSound_135 : decode cL_isSound 135 = .ok (.if_icmp .ge 43, 3) := by decide +kernel
theorem dL_isSound_138 : decode cL_isSound 138 = .ok (.aload_n 0, 1) := by decide +kernel
theorem dL_isSound_139 : decode cL_isSound 139 = .ok (.iload_n 1, 1) := by decide +kernel
theorem dL_isSound_140 : decode cL_isSound 140 = .ok (.iload 5, 2) := by decide +kernel
theorem dL_isSound_142 : decode cL_isSound 142 = .ok (.iload 7, 2) := by decide +kernel
theorem dL_isSound_144 : decode cL_isSound 144 = .ok (.iconst 0, 1) := by decide +kernel
theorem dL_isSound_145 : decode cL_isSound 145 = .ok (.invokevirtual 26, 3) := by decide +kernel
theorem dL_isSound_148 : decode cL_isSound 148 = .ok (.istore 8, 2) := by decide +kernel
theorem dL_isSound_150 : decode cL_isSound 150 = .ok (.iload 8, 2) := by decide +kernel
theorem dL_isSound_152 : decode cL_isSound 152 = .ok (.iload 4, 2) := by decide +kernel
theorem dL_isSound_154 : decode cL_isSound 154 = .ok (.if_icmp .le 12, 3) := by decide +kernel
theorem dL_isSound_157 : decode cL_isSound 157 = .ok (.iload 8, 2) := by decide +kernel
theorem dL_isSound_159 : decode cL_isSound 159 = .ok (.aload_n 0, 1) := by decide +kernel
theorem dL_isSound_160 : decode cL_isSound 160 = .ok (.invokevirtual 30, 3) := by decide +kernel
theorem dL_isSound_163 : decode cL_isSound 163 = .ok (.if_icmp .le 5, 3) := by decide +kernel
theorem dL_isSound_166 : decode cL_isSound 166 = .ok (.iconst 0, 1) := by decide +kernel
theorem dL_isSound_167 : decode cL_isSound 167 = .ok (.ireturn, 1) := by decide +kernel
theorem dL_isSound_168 : decode cL_isSound 168 = .ok (.iload 8, 2) := by decide +kernel
theorem dL_isSound_170 : decode cL_isSound 170 = .ok (.istore 4, 2) := by decide +kernel
theorem dL_isSound_172 : decode cL_isSound 172 = .ok (.iinc 7 1, 3) := by decide +kernel
theorem dL_isSound_175 : decode cL_isSound 175 = .ok (.goto (-44), 3) := by decide +kernel
theorem dL_isSound_178 : decode cL_isSound 178 = .ok (.iinc 5 1, 3) := by decide +kernel
theorem dL_isSound_181 : decode cL_isSound 181 = .ok (.goto (-120), 3) := by decide +kernel
theorem dL_isSound_184 : decode cL_isSound 184 = .ok (.iconst 0, 1) := by decide +kernel
theorem dL_isSound_185 : decode cL_isSound 185 = .ok (.istore 5, 2) := by decide +kernel
theorem dL_isSound_187 : decode cL_isSound 187 = .ok (.iload 5, 2) := by decide +kernel
theorem dL_isSound_189 : decode cL_isSound 189 = .ok (.iconst 2, 1) := by decide +kernel
theorem dL_isSound_190 : decode cL_isSound 190 = .ok (.if_icmp .ge 211, 3) := by decide +kernel
theorem dL_isSound_193 : decode cL_isSound 193 = .ok (.iconst (-1), 1) := by decide +kernel
theorem dL_isSound_194 : decode cL_isSound 194 = .ok (.istore 6, 2) := by decide +kernel
theorem dL_isSound_196 : decode cL_isSound 196 = .ok (.iconst 0, 1) := by decide +kernel
theorem dL_isSound_197 : decode cL_isSound 197 = .ok (.istore 7, 2) := by decide +kernel
theorem dL_isSound_199 : decode cL_isSound 199 = .ok (.iload 7, 2) := by decide +kernel
theorem dL_isSound_201 : decode cL_isSound 201 = .ok (.aload_n 0, 1) := by decide +kernel
theorem dL_isSound_202 : decode cL_isSound 202 = .ok (.iload_n 1, 1) := by decide +kernel
theorem dL_isSound_203 : decode cL_isSound 203 = .ok (.iload 5, 2) := by decide +kernel
theorem dL_isSound_205 : decode cL_isSound 205 = .ok (.iconst 1, 1) := by decide +kernel
theorem dL_isSound_206 : decode cL_isSound 206 = .ok (.if_icmp .ne 7, 3) := by decide +kernel
theorem dL_isSound_209 : decode cL_isSound 209 = .ok (.iconst 1, 1) := by decide +kernel
theorem dL_isSound_210 : decode cL_isSound 210 = .ok (.goto 4, 3) := by decide +kernel
theorem dL_isSound_213 : decode cL_isSound 213 = .ok (.iconst 0, 1) := by decide +kernel
theorem dL_isSound_214 : decode cL_isSound 214 = .ok (.invokevirtual 15, 3) := by decide +kernel
theorem dL_isSound_217 : decode cL_isSound 217 = .ok (.if_icmp .ge 178, 3) := by decide +kernel
theorem dL_isSound_220 : decode cL_isSound 220 = .ok (.bipush 7, 2) := by decide +kernel
theorem dL_isSound_222 : decode cL_isSound 222 = .ok (.newarray .int, 2) := by decide +kernel
theorem dL_isSound_224 : decode cL_isSound 224 = .ok (.astore 8, 2) := by decide +kernel
theorem dL_isSound_226 : decode cL_isSound 226 = .ok (.iconst 0, 1) := by decide +kernel
theorem dL_isSound_227 : decode cL_isSound 227 = .ok (.istore 9, 2) := by decide +kernel
theorem dL_isSound_229 : decode cL_isSound 229 = .ok (.iload 9, 2) := by decide +kernel
theorem dL_isSound_231 : decode cL_isSound 231 = .ok (.bipush 7, 2) := by decide +kernel
theorem dL_isSound_233 : decode cL_isSound 233 = .ok (.if_icmp .ge 34, 3) := by decide +kernel
theorem dL_isSound_236 : decode cL_isSound 236 = .ok (.aload 8, 2) := by decide +kernel
theorem dL_isSound_238 : decode cL_isSound 238 = .ok (.iload 9, 2) := by decide +kernel
theorem dL_isSound_240 : decode cL_isSound 240 = .ok (.aload_n 0, 1) := by decide +kernel
theorem dL_isSound_241 : decode cL_isSound 241 = .ok (.iload_n 1, 1) := by decide +kernel
theorem dL_isSound_242 : decode cL_isSound 242 = .ok (.iload 5, 2) := by decide +kernel
theorem dL_isSound_244 : decode cL_isSound 244 = .ok (.iconst 1, 1) := by decide +kernel
theorem dL_isSound_245 : decode cL_isSound 245 = .ok (.if_icmp .ne 7, 3) := by decide +kernel
theorem dL_isSound_248 : decode cL_isSound 248 = .ok (.iconst 1, 1) := by decide +kernel
theorem dL_isSound_249 : decode cL_isSound 249 = .ok (.goto 4, 3) := by decide +kernel
theorem dL_isSound_252 : decode cL_isSound 252 = .ok (.iconst 0, 1) := by decide +kernel
theorem dL_isSound_253 : decode cL_isSound 253 = .ok (.iload 7, 2) := by decide +kernel
theorem dL_isSound_255 : decode cL_isSound 255 = .ok (.iload 9, 2) := by decide +kernel
theorem dL_isSound_257 : decode cL_isSound 257 = .ok (.invokevirtual 34, 3) := by decide +kernel
theorem dL_isSound_260 : decode cL_isSound 260 = .ok (.iastore, 1) := by decide +kernel
theorem dL_isSound_261 : decode cL_isSound 261 = .ok (.iinc 9 1, 3) := by decide +kernel
theorem dL_isSound_264 : decode cL_isSound 264 = .ok (.goto (-35), 3) := by decide +kernel
theorem dL_isSound_267 : decode cL_isSound 267 = .ok (.aload 8, 2) := by decide +kernel
theorem dL_isSound_269 : decode cL_isSound 269 = .ok (.iconst 0, 1) := by decide +kernel
theorem dL_isSound_270 : decode cL_isSound 270 = .ok (.iaload, 1) := by decide +kernel
theorem dL_isSound_271 : decode cL_isSound 271 = .ok (.iload 6, 2) := by decide +kernel
theorem dL_isSound_273 : decode cL_isSound 273 = .ok (.if_icmp .le 108, 3) := by decide +kernel
theorem dL_isSound_276 : decode cL_isSound 276 = .ok (.aload 8, 2) := by decide +kernel
theorem dL_isSound_278 : decode cL_isSound 278 = .ok (.iconst 1, 1) := by decide +kernel
theorem dL_isSound_279 : decode cL_isSound 279 = .ok (.iaload, 1) := by decide +kernel
theorem dL_isSound_280 : decode cL_isSound 280 = .ok (.iconst 1, 1) := by decide +kernel
theorem dL_isSound_281 : decode cL_isSound 281 = .ok (.if_icmp .lt 100, 3) := by decide +kernel
theorem dL_isSound_284 : decode cL_isSound 284 = .ok (.aload 8, 2) := by decide +kernel
theorem dL_isSound_286 : decode cL_isSound 286 = .ok (.iconst 3, 1) := by decide +kernel
theorem dL_isSound_287 : decode cL_isSound 287 = .ok (.iaload, 1) := by decide +kernel
theorem dL_isSound_288 : decode cL_isSound 288 = .ok (.aload 8, 2) := by decide +kernel
theorem dL_isSound_290 : decode cL_isSound 290 = .ok (.iconst 4, 1) := by decide +kernel
theorem dL_isSound_291 : decode cL_isSound 291 = .ok (.iaload, 1) := by decide +kernel
theorem dL_isSound_292 : decode cL_isSound 292 = .ok (.if_icmp .gt 89, 3) := by decide +kernel
theorem dL_isSound_295 : decode cL_isSound 295 = .ok (.aload 8, 2) := by decide +kernel
theorem dL_isSound_297 : decode cL_isSound 297 = .ok (.iconst 5, 1) := by decide +kernel
theorem dL_isSound_298 : decode cL_isSound 298 = .ok (.iaload, 1) := by decide +kernel
theorem dL_isSound_299 : decode cL_isSound 299 = .ok (.aload 8, 2) := by decide +kernel
theorem dL_isSound_301 : decode cL_isSound 301 = .ok (.iconst 3, 1) := by decide +kernel
theorem dL_isSound_302 : decode cL_isSound 302 = .ok (.iaload, 1) := by decide +kernel
theorem dL_isSound_303 : decode cL_isSound 303 = .ok (.if_icmp .lt 78, 3) := by decide +kernel
theorem dL_isSound_306 : decode cL_isSound 306 = .ok (.aload 8, 2) := by decide +kernel
theorem dL_isSound_308 : decode cL_isSound 308 = .ok (.iconst 5, 1) := by decide +kernel
theorem dL_isSound_309 : decode cL_isSound 309 = .ok (.iaload, 1) := by decide +kernel
theorem dL_isSound_310 : decode cL_isSound 310 = .ok (.aload 8, 2) := by decide +kernel
theorem dL_isSound_312 : decode cL_isSound 312 = .ok (.iconst 4, 1) := by decide +kernel
theorem dL_isSound_313 : decode cL_isSound 313 = .ok (.iaload, 1) := by decide +kernel
theorem dL_isSound_314 : decode cL_isSound 314 = .ok (.if_icmp .gt 67, 3) := by decide +kernel
theorem dL_isSound_317 : decode cL_isSound 317 = .ok (.aload 8, 2) := by decide +kernel
theorem dL_isSound_319 : decode cL_isSound 319 = .ok (.bipush 6, 2) := by decide +kernel
theorem dL_isSound_321 : decode cL_isSound 321 = .ok (.iaload, 1) := by decide +kernel
theorem dL_isSound_322 : decode cL_isSound 322 = .ok (.aload 8, 2) := by decide +kernel
theorem dL_isSound_324 : decode cL_isSound 324 = .ok (.iconst 3, 1) := by decide +kernel
theorem dL_isSound_325 : decode cL_isSound 325 = .ok (.iaload, 1) := by decide +kernel
theorem dL_isSound_326 : decode cL_isSound 326 = .ok (.if_icmp .lt 55, 3) := by decide +kernel
theorem dL_isSound_329 : decode cL_isSound 329 = .ok (.aload 8, 2) := by decide +kernel
theorem dL_isSound_331 : decode cL_isSound 331 = .ok (.bipush 6, 2) := by decide +kernel
theorem dL_isSound_333 : decode cL_isSound 333 = .ok (.iaload, 1) := by decide +kernel
theorem dL_isSound_334 : decode cL_isSound 334 = .ok (.aload 8, 2) := by decide +kernel
theorem dL_isSound_336 : decode cL_isSound 336 = .ok (.iconst 4, 1) := by decide +kernel
theorem dL_isSound_337 : decode cL_isSound 337 = .ok (.iaload, 1) := by decide +kernel
theorem dL_isSound_338 : decode cL_isSound 338 = .ok (.if_icmp .gt 43, 3) := by decide +kernel
theorem dL_isSound_341 : decode cL_isSound 341 = .ok (.aload 8, 2) := by decide +kernel
theorem dL_isSound_343 : decode cL_isSound 343 = .ok (.iconst 2, 1) := by decide +kernel
theorem dL_isSound_344 : decode cL_isSound 344 = .ok (.iaload, 1) := by decide +kernel
theorem dL_isSound_345 : decode cL_isSound 345 = .ok (.i2l, 1) := by decide +kernel
theorem dL_isSound_346 : decode cL_isSound 346 = .ok (.aload 8, 2) := by decide +kernel
theorem dL_isSound_348 : decode cL_isSound 348 = .ok (.iconst 1, 1) := by decide +kernel
theorem dL_isSound_349 : decode cL_isSound 349 = .ok (.iaload, 1) := by decide +kernel
theorem dL_isSound_350 : decode cL_isSound 350 = .ok (.i2l, 1) := by decide +kernel
theorem dL_isSound_351 : decode cL_isSound 351 = .ok (.aload 8, 2) := by decide +kernel
theorem dL_isSound_353 : decode cL_isSound 353 = .ok (.iconst 3, 1) := by decide +kernel
theorem dL_isSound_354 : decode cL_isSound 354 = .ok (.iaload, 1) := by decide +kernel
theorem dL_isSound_355 : decode cL_isSound 355 = .ok (.i2l, 1) := by decide +kernel
theorem dL_isSound_356 : decode cL_isSound 356 = .ok (.lmul, 1) := by decide +kernel
theorem dL_isSound_357 : decode cL_isSound 357 = .ok (.lcmp, 1) := by decide +kernel
theorem dL_isSound_358 : decode cL_isSound 358 = .ok (.ifCond .lt 23, 3) := by decide +kernel
theorem dL_isSound_361 : decode cL_isSound 361 = .ok (.aload 8, 2) := by decide +kernel
theorem dL_isSound_363 : decode cL_isSound 363 = .ok (.iconst 2, 1) := by decide +kernel
theorem dL_isSound_364 : decode cL_isSound 364 = .ok (.iaload, 1) := by decide +kernel
theorem dL_isSound_365 : decode cL_isSound 365 = .ok (.i2l, 1) := by decide +kernel
theorem dL_isSound_366 : decode cL_isSound 366 = .ok (.aload 8, 2) := by decide +kernel
theorem dL_isSound_368 : decode cL_isSound 368 = .ok (.iconst 1, 1) := by decide +kernel
theorem dL_isSound_369 : decode cL_isSound 369 = .ok (.iaload, 1) := by decide +kernel
theorem dL_isSound_370 : decode cL_isSound 370 = .ok (.i2l, 1) := by decide +kernel
theorem dL_isSound_371 : decode cL_isSound 371 = .ok (.aload 8, 2) := by decide +kernel
theorem dL_isSound_373 : decode cL_isSound 373 = .ok (.iconst 4, 1) := by decide +kernel
theorem dL_isSound_374 : decode cL_isSound 374 = .ok (.iaload, 1) := by decide +kernel
theorem dL_isSound_375 : decode cL_isSound 375 = .ok (.i2l, 1) := by decide +kernel
theorem dL_isSound_376 : decode cL_isSound 376 = .ok (.lmul, 1) := by decide +kernel
theorem dL_isSound_377 : decode cL_isSound 377 = .ok (.lcmp, 1) := by decide +kernel
theorem dL_isSound_378 : decode cL_isSound 378 = .ok (.ifCond .le 5, 3) := by decide +kernel
theorem dL_isSound_381 : decode cL_isSound 381 = .ok (.iconst 0, 1) := by decide +kernel
theorem dL_isSound_382 : decode cL_isSound 382 = .ok (.ireturn, 1) := by decide +kernel
theorem dL_isSound_383 : decode cL_isSound 383 = .ok (.aload 8, 2) := by decide +kernel
theorem dL_isSound_385 : decode cL_isSound 385 = .ok (.iconst 0, 1) := by decide +kernel
theorem dL_isSound_386 : decode cL_isSound 386 = .ok (.iaload, 1) := by decide +kernel
theorem dL_isSound_387 : decode cL_isSound 387 = .ok (.istore 6, 2) := by decide +kernel
theorem dL_isSound_389 : decode cL_isSound 389 = .ok (.iinc 7 1, 3) := by decide +kernel
theorem dL_isSound_392 : decode cL_isSound 392 = .ok (.goto (-193), 3) := by decide +kernel
theorem dL_isSound_395 : decode cL_isSound 395 = .ok (.iinc 5 1, 3) := by decide +kernel
theorem dL_isSound_398 : decode cL_isSound 398 = .ok (.goto (-211), 3) := by decide +kernel
theorem dL_isSound_401 : decode cL_isSound 401 = .ok (.iload_n 3, 1) := by decide +kernel
theorem dL_isSound_402 : decode cL_isSound 402 = .ok (.aload_n 0, 1) := by decide +kernel
theorem dL_isSound_403 : decode cL_isSound 403 = .ok (.iload_n 1, 1) := by decide +kernel
theorem dL_isSound_404 : decode cL_isSound 404 = .ok (.invokevirtual 38, 3) := by decide +kernel
theorem dL_isSound_407 : decode cL_isSound 407 = .ok (.if_icmp .ne 7, 3) := by decide +kernel
theorem dL_isSound_410 : decode cL_isSound 410 = .ok (.iconst 1, 1) := by decide +kernel
theorem dL_isSound_411 : decode cL_isSound 411 = .ok (.goto 4, 3) := by decide +kernel
theorem dL_isSound_414 : decode cL_isSound 414 = .ok (.iconst 0, 1) := by decide +kernel
theorem dL_isSound_415 : decode cL_isSound 415 = .ok (.ireturn, 1) := by decide +kernel
set_option maxRecDepth 20000 in
theorem ggL_law_X9_init : GoodIn wsL_law wsX9_init := goodIn_r _ [12, 13, 14, 15, 16, 17, 18, 19, 20, 21, 22, 23, 24, 25, 26, 27, 28, 29, 30, 31, 32, 33, 34, 35, 36, 37, 38, 39, 40, 41, 42, 43, 44, 45, 46, 47, 48, 49, 50, 51, 52, 53, 54, 55, 56, 57, 58, 59, 60, 61, 62, 63, 64, 65, 66, 67, 68, 69, 70, 71, 72, 73, 74, 75, 76, 77, 78, 79, 80, 81, 82, 83, 84, 85, 86, 87, 697, 698, 699, 700, 701, 688, 689, 690, 691, 692, 693, 694, 695, 696, 702, 703, 704, 705, 706, 707, 708, 709, 710, 711, 712, 713, 714, 715, 716, 717, 718] (by decide +kernel) (by decide +kernel)
set_option maxRecDepth 20000 in
theorem gL_law_X9_init : GoodIn wsL_law (wsX9_init) := ggL_law_X9_init
set_option maxRecDepth 20000 in
theorem ggL_law_L_cell : GoodIn wsL_law wsL_cell := goodIn_r _ [91, 92] (by decide +kernel) (by decide +kernel)
set_option maxRecDepth 20000 in
theorem gL_law_L_cell : GoodIn wsL_law (va_wsS RL 42 yL_cell wsL_cell) := goodIn_app (goodIn_of _ (by decide +kernel)) ggL_law_L_cell
set_option maxRecDepth 20000 in
theorem ggL_law_L_below : GoodIn wsL_law wsL_below := goodIn_r _ [95, 96] (by decide +kernel) (by decide +kernel)
set_option maxRecDepth 20000 in
theorem gL_law_L_below : GoodIn wsL_law (va_wsS RL 48 yL_below wsL_below) := goodIn_app (goodIn_of _ (by decide +kernel)) ggL_law_L_below
set_option maxRecDepth 20000 in
theorem ggL_law_X9_setSpan : GoodIn wsL_law wsX9_setSpan := goodIn_ca (goodIn_r _ [100, 19, 101, 102, 103, 2, 104, 105, 106, 107, 108, 109, 688, 689, 690, 691, 692, 693, 694, 695, 696, 697, 698, 699, 700, 701] (by decide +kernel) (by decide +kernel)) (goodIn_sub (fun _ h => List.mem_append_left _ (List.mem_append_left _ (List.mem_append_right _ h))) (by decide +kernel))
set_option maxRecDepth 20000 in
theorem gL_law_X9_setSpan : GoodIn wsL_law (wsV RL 51 RX9 yX9_setSpan wsX9_setSpan) := goodIn_app (goodIn_of _ (by decide +kernel)) ggL_law_X9_setSpan
set_option maxRecDepth 20000 in
theorem ggL_law_X9_setWidths : GoodIn wsL_law wsX9_setWidths := goodIn_ca (goodIn_ca (goodIn_r _ [113, 23, 19, 114, 115, 102, 103, 2, 104, 105, 106, 107, 108, 109, 116, 117, 118, 22, 119, 49, 120, 121, 122, 123, 124, 125, 126, 127, 48, 128, 129, 130, 131, 132, 133, 134, 135, 136, 137, 138, 139, 140, 141, 142, 143, 144, 145, 61, 146, 147, 148, 149, 150, 688, 689, 690, 691, 692, 693, 694, 695, 696, 697, 698, 699, 700, 701, 702, 703, 704, 705, 706, 719, 720, 721, 722, 723, 724, 725, 726, 727, 728, 729, 730, 731, 732, 713, 714, 715] (by decide +kernel) (by decide +kernel)) (goodIn_sub (fun _ h => List.mem_append_left _ (List.mem_append_left _ (List.mem_append_right _ h))) (by decide +kernel))) (goodIn_sub (fun _ h => List.mem_append_left _ (List.mem_append_right _ h)) (by decide +kernel))
set_option maxRecDepth 20000 in
theorem gL_law_X9_setWidths : GoodIn wsL_law (wsV RL 54 RX9 yX9_setWidths wsX9_setWidths) := goodIn_app (goodIn_of _ (by decide +kernel)) ggL_law_X9_setWidths
set_option maxRecDepth 20000 in
theorem ggL_law_X9_addSeries : GoodIn wsL_law wsX9_addSeries := goodIn_ca (goodIn_ca (goodIn_r _ [154, 23, 155, 156, 157, 158, 24, 102, 103, 2, 104, 105, 106, 107, 108, 109, 159, 126, 127, 48, 128, 129, 146, 147, 148, 149, 150, 160, 161, 162, 163, 14, 15, 164, 165, 166, 167, 168, 169, 170, 171, 172, 173, 174, 175, 176, 75, 177, 178, 179, 180, 181, 182, 183, 184, 185, 186, 187, 188, 189, 190, 191, 192, 193, 194, 195, 196, 61, 197, 198, 199, 200, 201, 202, 203, 204, 205, 206, 207, 208, 60, 209, 4, 5, 6, 210, 211, 212, 213, 214, 215, 216, 217, 218, 219, 220, 221, 222, 223, 224, 225, 226, 227, 228, 229, 230, 231, 232, 233, 8, 9, 234, 235, 236, 237, 688, 689, 690, 691, 692, 693, 694, 695, 696, 702, 703, 704, 705, 706, 719, 720, 721, 722, 723, 713, 714, 715, 726, 727, 728, 729, 730, 731, 732, 724, 725] (by decide +kernel) (by decide +kernel)) (goodIn_sub (fun _ h => List.mem_append_left _ (List.mem_append_left _ (List.mem_append_right _ h))) (by decide +kernel))) (goodIn_sub (fun _ h => List.mem_append_left _ (List.mem_append_right _ h)) (by decide +kernel))
set_option maxRecDepth 20000 in
theorem gL_law_X9_addSeries : GoodIn wsL_law (wsV RL 57 RX9 yX9_addSeries wsX9_addSeries) := goodIn_app (goodIn_of _ (by decide +kernel)) ggL_law_X9_addSeries
set_option maxRecDepth 20000 in
theorem ggL_law_X9_addRule : GoodIn wsL_law wsX9_addRule := goodIn_ca (goodIn_ca (goodIn_ca (goodIn_r _ [241, 242, 243, 23, 244, 245, 246, 247, 24, 155, 248, 249, 250, 251, 2, 252, 253, 254, 159, 126, 127, 48, 128, 129, 255, 131, 132, 133, 134, 135, 136, 137, 138, 139, 140, 141, 142, 143, 144, 145, 61, 102, 103, 104, 105, 106, 107, 108, 109, 146, 147, 148, 149, 150, 256, 257, 258, 259, 14, 15, 260, 261, 262, 263, 264, 265, 266, 267, 268, 191, 192, 193, 194, 195, 196, 197, 198, 199, 200, 201, 202, 203, 204, 205, 206, 207, 208, 60, 209, 4, 5, 6, 210, 211, 212, 213, 214, 215, 216, 217, 218, 219, 220, 221, 222, 223, 224, 225, 226, 227, 228, 229, 230, 231, 232, 233, 8, 9, 234, 235, 236, 237, 688, 689, 690, 691, 692, 693, 694, 695, 696, 702, 703, 704, 705, 706, 733, 734, 735, 736, 737, 738, 739, 740, 741, 713, 714, 715] (by decide +kernel) (by decide +kernel)) (goodIn_sub (fun _ h => List.mem_append_right _ h) (by decide +kernel))) (goodIn_sub (fun _ h => List.mem_append_left _ (List.mem_append_left _ (List.mem_append_right _ h))) (by decide +kernel))) (goodIn_sub (fun _ h => List.mem_append_left _ (List.mem_append_right _ h)) (by decide +kernel))
set_option maxRecDepth 20000 in
theorem gL_law_X9_addRule : GoodIn wsL_law (wsV RL 60 RX9 yX9_addRule wsX9_addRule) := goodIn_app (goodIn_of _ (by decide +kernel)) ggL_law_X9_addRule
set_option maxRecDepth 20000 in
theorem ggL_law_X9_now : GoodIn wsL_law wsX9_now := goodIn_r _ [272, 23, 273, 688, 689, 690, 691, 692, 693, 694, 695, 696, 702, 703, 704, 705, 706] (by decide +kernel) (by decide +kernel)
set_option maxRecDepth 20000 in
theorem gL_law_X9_now : GoodIn wsL_law (wsV RL 30 RX9 yX9_now wsX9_now) := goodIn_app (goodIn_of _ (by decide +kernel)) ggL_law_X9_now
set_option maxRecDepth 20000 in
theorem ggL_law_X9_bitsWith : GoodIn wsL_law wsX9_bitsWith := goodIn_ca (goodIn_ca (goodIn_r _ [277, 278, 28, 249, 250, 251, 2, 252, 253, 254, 23, 155, 248, 159, 126, 127, 48, 128, 129, 255, 131, 132, 133, 134, 135, 136, 137, 138, 139, 140, 141, 142, 143, 144, 145, 61, 279, 280, 281, 282, 273, 102, 103, 104, 283, 284, 285, 286, 287, 105, 106, 107, 108, 109, 288, 289, 290, 166, 291, 182, 292, 293, 294, 27, 295, 296, 297, 298, 83, 299, 300, 301, 302, 181, 303, 304, 305, 306, 307, 177, 178, 308, 309, 310, 311, 312, 313, 314, 315, 316, 317, 318, 319, 82, 84, 320, 321, 222, 322, 323, 324, 325, 326, 327, 328, 329, 330, 331, 332, 86, 85, 87, 333, 334, 335, 336, 337, 338, 339, 340, 341, 719, 720, 721, 722, 723, 688, 689, 690, 691, 692, 693, 694, 695, 696, 702, 703, 704, 705, 706, 713, 714, 715, 726, 727, 728, 729, 730, 731, 732, 724, 725, 707, 708, 709, 710, 711, 712] (by decide +kernel) (by decide +kernel)) (goodIn_sub (fun _ h => List.mem_append_right _ h) (by decide +kernel))) (goodIn_sub (fun _ h => List.mem_append_left _ (List.mem_append_left _ (List.mem_append_right _ h))) (by decide +kernel))
set_option maxRecDepth 20000 in
theorem gL_law_X9_bitsWith : GoodIn wsL_law (wsV RL 69 RX9 yX9_bitsWith wsX9_bitsWith) := goodIn_app (goodIn_of _ (by decide +kernel)) ggL_law_X9_bitsWith
set_option maxRecDepth 20000 in
theorem ggL_law_X9_blocks : GoodIn wsL_law wsX9_blocks := goodIn_ca (goodIn_r _ [345, 278, 249, 250, 251, 2, 252, 253, 254, 23, 155, 248, 159, 126, 127, 48, 128, 129, 255, 131, 132, 133, 134, 135, 136, 137, 138, 139, 140, 141, 142, 143, 144, 145, 61, 346, 347, 348, 166, 349, 180, 719, 720, 721, 722, 723, 688, 689, 690, 691, 692, 693, 694, 695, 696, 702, 703, 704, 705, 706, 713, 714, 715, 726, 727, 728, 729, 730, 731, 732] (by decide +kernel) (by decide +kernel)) (goodIn_sub (fun _ h => List.mem_append_right _ h) (by decide +kernel))
set_option maxRecDepth 20000 in
theorem gL_law_X9_blocks : GoodIn wsL_law (wsV RL 9 RX9 yX9_blocks wsX9_blocks) := goodIn_app (goodIn_of _ (by decide +kernel)) ggL_law_X9_blocks
set_option maxRecDepth 20000 in
theorem ggL_law_X9_late : GoodIn wsL_law wsX9_late := goodIn_r _ [353, 33, 688, 689, 690, 691, 692, 693, 694, 695, 696] (by decide +kernel) (by decide +kernel)
set_option maxRecDepth 20000 in
theorem gL_law_X9_late : GoodIn wsL_law (wsV RL 73 RX9 yX9_late wsX9_late) := goodIn_app (goodIn_of _ (by decide +kernel)) ggL_law_X9_late
set_option maxRecDepth 20000 in
theorem ggL_law_X9_put : GoodIn wsL_law wsX9_put := goodIn_ca (goodIn_ca (goodIn_r _ [357, 278, 249, 250, 251, 2, 252, 253, 254, 23, 155, 248, 159, 126, 127, 48, 128, 129, 255, 131, 132, 133, 134, 135, 136, 137, 138, 139, 140, 141, 142, 143, 144, 145, 61, 279, 280, 281, 282, 273, 102, 103, 104, 283, 284, 285, 286, 287, 105, 106, 107, 108, 109, 358, 359, 360, 361, 33, 19, 288, 289, 290, 166, 291, 182, 362, 363, 364, 158, 365, 167, 366, 367, 368, 369, 370, 303, 298, 371, 300, 301, 302, 181, 304, 305, 306, 307, 177, 178, 372, 309, 310, 311, 373, 374, 375, 376, 377, 378, 379, 380, 381, 313, 314, 315, 382, 383, 384, 385, 180, 179, 386, 387, 388, 389, 390, 391, 392, 393, 394, 171, 395, 396, 397, 398, 399, 400, 401, 402, 403, 404, 405, 406, 170, 407, 408, 123, 409, 8, 5, 9, 410, 4, 6, 411, 412, 413, 414, 190, 415, 416, 417, 418, 419, 420, 421, 422, 423, 424, 425, 426, 427, 428, 429, 430, 431, 172, 432, 433, 434, 435, 436, 437, 438, 439, 440, 441, 442, 719, 720, 721, 722, 723, 688, 689, 690, 691, 692, 693, 694, 695, 696, 702, 703, 704, 705, 706, 713, 714, 715, 726, 727, 728, 729, 730, 731, 732, 697, 698, 699, 700, 701, 724, 725] (by decide +kernel) (by decide +kernel)) (goodIn_sub (fun _ h => List.mem_append_right _ h) (by decide +kernel))) (goodIn_sub (fun _ h => List.mem_append_left _ (List.mem_append_left _ (List.mem_append_right _ h))) (by decide +kernel))
set_option maxRecDepth 20000 in
theorem gL_law_X9_put : GoodIn wsL_law (wsV RL 76 RX9 yX9_put wsX9_put) := goodIn_app (goodIn_of _ (by decide +kernel)) ggL_law_X9_put
set_option maxRecDepth 20000 in
theorem ggL_law_X9_bits : GoodIn wsL_law wsX9_bits := goodIn_ca (goodIn_r _ [446, 278, 447, 28, 249, 250, 251, 2, 252, 253, 254, 23, 155, 248, 159, 126, 127, 48, 128, 129, 255, 131, 132, 133, 134, 135, 136, 137, 138, 139, 140, 141, 142, 143, 144, 145, 61, 102, 103, 104, 448, 449, 450, 451, 452, 453, 27, 454, 455, 83, 456, 457, 458, 166, 459, 180, 441, 397, 398, 399, 179, 386, 313, 314, 315, 303, 298, 181, 460, 316, 317, 318, 319, 82, 84, 320, 321, 222, 322, 323, 324, 325, 326, 327, 305, 306, 307, 177, 178, 328, 329, 330, 331, 332, 86, 85, 87, 333, 334, 335, 336, 337, 338, 339, 340, 341, 719, 720, 721, 722, 723, 726, 727, 728, 729, 730, 731, 732, 688, 689, 690, 691, 692, 693, 694, 695, 696, 702, 703, 704, 705, 706, 713, 714, 715, 707, 708, 709, 710, 711, 712, 724, 725] (by decide +kernel) (by decide +kernel)) (goodIn_sub (fun _ h => List.mem_append_right _ h) (by decide +kernel))
set_option maxRecDepth 20000 in
theorem gL_law_X9_bits : GoodIn wsL_law (wsV RL 23 RX9 yX9_bits wsX9_bits) := goodIn_app (goodIn_of _ (by decide +kernel)) ggL_law_X9_bits
set_option maxRecDepth 20000 in
theorem ggL_law_X9_setKeep : GoodIn wsL_law wsX9_setKeep := goodIn_ca (goodIn_r _ [464, 19, 465, 466, 102, 103, 2, 104, 105, 106, 107, 108, 109, 688, 689, 690, 691, 692, 693, 694, 695, 696, 697, 698, 699, 700, 701] (by decide +kernel) (by decide +kernel)) (goodIn_sub (fun _ h => List.mem_append_left _ (List.mem_append_left _ (List.mem_append_right _ h))) (by decide +kernel))
set_option maxRecDepth 20000 in
theorem gL_law_X9_setKeep : GoodIn wsL_law (wsV RL 79 RX9 yX9_setKeep wsX9_setKeep) := goodIn_app (goodIn_of _ (by decide +kernel)) ggL_law_X9_setKeep
set_option maxRecDepth 20000 in
theorem ggL_law_X9_wouldRoll : GoodIn wsL_law wsX9_wouldRoll := goodIn_ca (goodIn_r _ [470, 23, 273, 471, 155, 248, 278, 102, 103, 2, 104, 105, 106, 107, 108, 109, 159, 126, 127, 48, 128, 129, 255, 131, 132, 133, 134, 135, 136, 137, 138, 139, 140, 141, 142, 143, 144, 145, 61, 472, 473, 474, 166, 475, 180, 441, 397, 398, 399, 179, 386, 313, 314, 315, 303, 298, 181, 304, 305, 306, 307, 177, 178, 688, 689, 690, 691, 692, 693, 694, 695, 696, 702, 703, 704, 705, 706, 719, 720, 721, 722, 723, 713, 714, 715, 726, 727, 728, 729, 730, 731, 732, 724, 725] (by decide +kernel) (by decide +kernel)) (goodIn_sub (fun _ h => List.mem_append_left _ (List.mem_append_left _ (List.mem_append_right _ h))) (by decide +kernel))
set_option maxRecDepth 20000 in
theorem gL_law_X9_wouldRoll : GoodIn wsL_law (wsV RL 82 RX9 yX9_wouldRoll wsX9_wouldRoll) := goodIn_app (goodIn_of _ (by decide +kernel)) ggL_law_X9_wouldRoll
set_option maxRecDepth 20000 in
theorem ggL_law_X9_events : GoodIn wsL_law wsX9_events := goodIn_r _ [479, 23, 480, 481, 688, 689, 690, 691, 692, 693, 694, 695, 696, 702, 703, 704, 705, 706, 716, 717, 718] (by decide +kernel) (by decide +kernel)
set_option maxRecDepth 20000 in
theorem gL_law_X9_events : GoodIn wsL_law (wsV RL 85 RX9 yX9_events wsX9_events) := goodIn_app (goodIn_of _ (by decide +kernel)) ggL_law_X9_events
set_option maxRecDepth 20000 in
theorem ggL_law_X9_firesIn : GoodIn wsL_law wsX9_firesIn := goodIn_ca (goodIn_r _ [485, 24, 23, 480, 486, 487, 488, 489, 2, 490, 273, 471, 102, 103, 104, 105, 106, 107, 108, 109, 491, 492, 493, 22, 494, 55, 49, 120, 50, 495, 125, 126, 127, 48, 128, 129, 130, 131, 132, 133, 134, 135, 136, 137, 138, 139, 140, 141, 142, 143, 144, 145, 61, 496, 497, 498, 158, 499, 167, 171, 172, 500, 501, 502, 166, 503, 303, 298, 180, 179, 181, 182, 304, 305, 306, 307, 177, 178, 377, 378, 379, 380, 441, 397, 398, 399, 386, 313, 314, 315, 504, 505, 506, 170, 507, 408, 123, 411, 412, 413, 414, 190, 419, 420, 421, 422, 508, 509, 510, 247, 511, 260, 261, 512, 513, 514, 515, 56, 54, 516, 517, 518, 519, 520, 521, 522, 395, 523, 473, 474, 475, 391, 392, 393, 394, 396, 400, 401, 402, 403, 404, 405, 406, 407, 409, 8, 5, 9, 410, 4, 6, 415, 416, 417, 418, 423, 424, 425, 426, 427, 428, 429, 430, 431, 432, 433, 434, 435, 436, 437, 438, 439, 440, 373, 374, 375, 376, 524, 525, 526, 527, 528, 529, 530, 531, 532, 265, 533, 534, 535, 536, 262, 264, 263, 537, 538, 539, 540, 541, 542, 543, 544, 545, 546, 547, 548, 549, 550, 551, 552, 553, 554, 555, 556, 557, 558, 559, 560, 561, 562, 563, 564, 565, 566, 567, 568, 569, 570, 571, 572, 573, 574, 575, 576, 577, 578, 579, 580, 581, 582, 583, 584, 266, 267, 585, 586, 587, 588, 268, 589, 590, 591, 592, 593, 594, 595, 596, 597, 598, 599, 53, 600, 77, 76, 78, 688, 689, 690, 691, 692, 693, 694, 695, 696, 702, 703, 704, 705, 706, 716, 717, 718, 713, 714, 715, 719, 720, 721, 722, 723, 724, 725, 726, 727, 728, 729, 730, 731, 732, 733, 734, 735, 736, 737, 738, 739, 740, 741, 697, 698, 699, 700, 701] (by decide +kernel) (by decide +kernel)) (goodIn_sub (fun _ h => List.mem_append_left _ (List.mem_append_left _ (List.mem_append_right _ h))) (by decide +kernel))
set_option maxRecDepth 20000 in
theorem gL_law_X9_firesIn : GoodIn wsL_law (wsV RL 88 RX9 yX9_firesIn wsX9_firesIn) := goodIn_app (goodIn_of _ (by decide +kernel)) ggL_law_X9_firesIn
set_option maxRecDepth 20000 in
theorem ggL_law_X9_goOn : GoodIn wsL_law wsX9_goOn := goodIn_ca (goodIn_r _ [604, 23, 480, 481, 487, 488, 489, 2, 490, 273, 471, 102, 103, 104, 105, 106, 107, 108, 109, 512, 513, 514, 22, 515, 55, 49, 120, 56, 50, 495, 54, 516, 125, 126, 127, 48, 128, 129, 130, 131, 132, 133, 134, 135, 136, 137, 138, 139, 140, 141, 142, 143, 144, 145, 61, 517, 518, 519, 158, 520, 521, 167, 522, 395, 523, 473, 474, 166, 475, 180, 441, 397, 398, 399, 179, 386, 313, 314, 315, 303, 298, 181, 304, 305, 306, 307, 177, 178, 391, 392, 393, 394, 171, 396, 400, 401, 402, 403, 404, 405, 406, 170, 407, 408, 123, 409, 8, 5, 9, 410, 4, 6, 411, 412, 413, 414, 190, 415, 416, 417, 418, 419, 420, 421, 422, 423, 424, 425, 426, 427, 428, 429, 430, 431, 172, 432, 433, 434, 435, 436, 437, 438, 439, 440, 373, 374, 375, 376, 377, 378, 379, 380, 524, 525, 526, 527, 528, 529, 530, 531, 247, 532, 265, 533, 534, 535, 536, 262, 264, 263, 537, 538, 539, 540, 541, 542, 543, 544, 545, 546, 547, 548, 549, 550, 551, 552, 553, 554, 555, 556, 557, 558, 559, 560, 561, 562, 563, 564, 565, 566, 567, 568, 569, 570, 571, 572, 573, 574, 575, 576, 577, 578, 579, 580, 581, 582, 583, 584, 266, 267, 260, 585, 586, 587, 588, 261, 268, 589, 590, 591, 592, 593, 594, 595, 596, 597, 598, 599, 53, 600, 77, 76, 78, 688, 689, 690, 691, 692, 693, 694, 695, 696, 702, 703, 704, 705, 706, 716, 717, 718, 733, 734, 735, 736, 737, 738, 739, 740, 741, 713, 714, 715, 697, 698, 699, 700, 701, 719, 720, 721, 722, 723, 726, 727, 728, 729, 730, 731, 732, 724, 725] (by decide +kernel) (by decide +kernel)) (goodIn_sub (fun _ h => List.mem_append_left _ (List.mem_append_left _ (List.mem_append_right _ h))) (by decide +kernel))
set_option maxRecDepth 20000 in
theorem gL_law_X9_goOn : GoodIn wsL_law (wsV RL 91 RX9 yX9_goOn wsX9_goOn) := goodIn_app (goodIn_of _ (by decide +kernel)) ggL_law_X9_goOn
set_option maxRecDepth 20000 in
theorem ggL_law_X9_event : GoodIn wsL_law wsX9_event := goodIn_ca (goodIn_ca (goodIn_r _ [608, 23, 480, 481, 102, 103, 2, 104, 448, 449, 450, 253, 254, 105, 106, 107, 108, 109, 609, 610, 611, 53, 612, 77, 76, 688, 689, 690, 691, 692, 693, 694, 695, 696, 702, 703, 704, 705, 706, 716, 717, 718] (by decide +kernel) (by decide +kernel)) (goodIn_sub (fun _ h => List.mem_append_right _ h) (by decide +kernel))) (goodIn_sub (fun _ h => List.mem_append_left _ (List.mem_append_left _ (List.mem_append_right _ h))) (by decide +kernel))
set_option maxRecDepth 20000 in
theorem gL_law_X9_event : GoodIn wsL_law (wsV RL 94 RX9 yX9_event wsX9_event) := goodIn_app (goodIn_of _ (by decide +kernel)) ggL_law_X9_event
set_option maxRecDepth 20000 in
theorem ggL_law_X9_digest : GoodIn wsL_law wsX9_digest := goodIn_r _ [616, 617, 618, 23, 273, 155, 33, 480, 481, 248, 278, 619, 620, 244, 621, 622, 623, 159, 126, 127, 48, 128, 129, 255, 131, 132, 133, 134, 135, 136, 137, 138, 139, 140, 141, 142, 143, 144, 145, 61, 624, 625, 626, 2, 627, 28, 346, 347, 348, 166, 349, 180, 628, 397, 398, 399, 179, 386, 313, 314, 315, 303, 298, 181, 451, 452, 453, 27, 454, 455, 83, 456, 457, 458, 459, 441, 460, 316, 317, 318, 319, 82, 84, 320, 321, 222, 322, 323, 324, 325, 326, 327, 305, 306, 307, 177, 178, 328, 329, 330, 331, 332, 86, 85, 87, 333, 334, 335, 336, 103, 104, 337, 338, 339, 340, 341, 629, 630, 631, 632, 633, 123, 634, 412, 413, 170, 414, 190, 635, 636, 637, 638, 639, 640, 641, 642, 29, 30, 31, 32, 643, 538, 539, 158, 540, 541, 542, 543, 544, 545, 546, 547, 548, 172, 528, 171, 167, 549, 550, 551, 552, 553, 432, 400, 554, 555, 556, 557, 558, 559, 560, 561, 562, 563, 564, 565, 566, 567, 568, 569, 570, 571, 8, 5, 9, 572, 573, 574, 575, 576, 4, 6, 577, 578, 579, 644, 534, 535, 247, 536, 262, 264, 263, 537, 609, 610, 611, 53, 612, 77, 76, 688, 689, 690, 691, 692, 693, 694, 695, 696, 702, 703, 704, 705, 706, 716, 717, 718, 719, 720, 721, 722, 723, 733, 734, 735, 736, 737, 738, 739, 740, 741, 713, 714, 715, 726, 727, 728, 729, 730, 731, 732, 724, 725, 707, 708, 709, 710, 711, 712] (by decide +kernel) (by decide +kernel)
set_option maxRecDepth 20000 in
theorem gL_law_X9_digest : GoodIn wsL_law (wsV RL 97 RX9 yX9_digest wsX9_digest) := goodIn_app (goodIn_of _ (by decide +kernel)) ggL_law_X9_digest
set_option maxRecDepth 20000 in
theorem ggL_law_X9_setQuery : GoodIn wsL_law wsX9_setQuery := goodIn_ca (goodIn_r _ [648, 471, 30, 29, 31, 32, 102, 103, 2, 104, 105, 106, 107, 108, 109, 688, 689, 690, 691, 692, 693, 694, 695, 696] (by decide +kernel) (by decide +kernel)) (goodIn_sub (fun _ h => List.mem_append_left _ (List.mem_append_left _ (List.mem_append_right _ h))) (by decide +kernel))
set_option maxRecDepth 20000 in
theorem gL_law_X9_setQuery : GoodIn wsL_law (wsV RL 101 RX9 yX9_setQuery wsX9_setQuery) := goodIn_app (goodIn_of _ (by decide +kernel)) ggL_law_X9_setQuery
set_option maxRecDepth 20000 in
theorem ggL_law_X9_ask : GoodIn wsL_law wsX9_ask := goodIn_ca (goodIn_ca (goodIn_r _ [652, 249, 250, 251, 2, 252, 253, 254, 23, 155, 248, 159, 126, 127, 48, 128, 129, 255, 131, 132, 133, 134, 135, 136, 137, 138, 139, 140, 141, 142, 143, 144, 145, 61, 102, 103, 104, 105, 106, 107, 108, 109, 639, 640, 641, 642, 29, 30, 31, 32, 643, 538, 539, 158, 540, 541, 542, 543, 544, 545, 546, 547, 548, 172, 528, 123, 171, 167, 549, 298, 550, 551, 552, 553, 432, 412, 413, 170, 414, 190, 400, 305, 306, 166, 307, 177, 178, 554, 555, 556, 557, 558, 559, 560, 561, 562, 563, 564, 565, 566, 567, 568, 569, 570, 571, 8, 5, 9, 572, 573, 574, 575, 576, 4, 6, 577, 578, 579, 688, 689, 690, 691, 692, 693, 694, 695, 696, 702, 703, 704, 705, 706, 713, 714, 715, 719, 720, 721, 722, 723, 724, 725, 726, 727, 728, 729, 730, 731, 732] (by decide +kernel) (by decide +kernel)) (goodIn_sub (fun _ h => List.mem_append_right _ h) (by decide +kernel))) (goodIn_sub (fun _ h => List.mem_append_left _ (List.mem_append_left _ (List.mem_append_right _ h))) (by decide +kernel))
set_option maxRecDepth 20000 in
theorem gL_law_X9_ask : GoodIn wsL_law (wsV RL 108 RX9 yX9_ask wsX9_ask) := goodIn_app (goodIn_of _ (by decide +kernel)) ggL_law_X9_ask
set_option maxRecDepth 20000 in
theorem ggL_law_X9_buckets : GoodIn wsL_law wsX9_buckets := goodIn_ca (goodIn_r _ [656, 633, 123, 249, 250, 251, 2, 252, 253, 254, 23, 155, 248, 159, 126, 127, 48, 128, 129, 255, 131, 132, 133, 134, 135, 136, 137, 138, 139, 140, 141, 142, 143, 144, 145, 61, 657, 658, 659, 158, 660, 172, 171, 724, 725, 726, 727, 728, 729, 730, 731, 732, 688, 689, 690, 691, 692, 693, 694, 695, 696, 702, 703, 704, 705, 706, 713, 714, 715, 719, 720, 721, 722, 723] (by decide +kernel) (by decide +kernel)) (goodIn_sub (fun _ h => List.mem_append_right _ h) (by decide +kernel))
set_option maxRecDepth 20000 in
theorem gL_law_X9_buckets : GoodIn wsL_law (wsV RL 15 RX9 yX9_buckets wsX9_buckets) := goodIn_app (goodIn_of _ (by decide +kernel)) ggL_law_X9_buckets
set_option maxRecDepth 20000 in
theorem ggL_law_X9_ofBucket : GoodIn wsL_law wsX9_ofBucket := goodIn_ca (goodIn_ca (goodIn_r _ [664, 633, 123, 249, 250, 251, 2, 252, 253, 254, 23, 155, 248, 159, 126, 127, 48, 128, 129, 255, 131, 132, 133, 134, 135, 136, 137, 138, 139, 140, 141, 142, 143, 144, 145, 61, 657, 658, 659, 158, 660, 172, 171, 102, 103, 104, 448, 449, 450, 105, 106, 107, 108, 109, 634, 412, 413, 170, 414, 190, 724, 725, 726, 727, 728, 729, 730, 731, 732, 688, 689, 690, 691, 692, 693, 694, 695, 696, 702, 703, 704, 705, 706, 713, 714, 715, 719, 720, 721, 722, 723] (by decide +kernel) (by decide +kernel)) (goodIn_sub (fun _ h => List.mem_append_right _ h) (by decide +kernel))) (goodIn_sub (fun _ h => List.mem_append_left _ (List.mem_append_left _ (List.mem_append_right _ h))) (by decide +kernel))
set_option maxRecDepth 20000 in
theorem gL_law_X9_ofBucket : GoodIn wsL_law (wsV RL 34 RX9 yX9_ofBucket wsX9_ofBucket) := goodIn_app (goodIn_of _ (by decide +kernel)) ggL_law_X9_ofBucket
set_option maxRecDepth 20000 in
theorem ggL_law_X9_size : GoodIn wsL_law wsX9_size := goodIn_ca (goodIn_r _ [668, 278, 447, 249, 250, 251, 2, 252, 253, 254, 23, 155, 248, 159, 126, 127, 48, 128, 129, 255, 131, 132, 133, 134, 135, 136, 137, 138, 139, 140, 141, 142, 143, 144, 145, 61, 102, 103, 104, 448, 449, 450, 628, 397, 398, 166, 399, 180, 179, 386, 313, 314, 315, 303, 298, 181, 719, 720, 721, 722, 723, 726, 727, 728, 729, 730, 731, 732, 688, 689, 690, 691, 692, 693, 694, 695, 696, 702, 703, 704, 705, 706, 713, 714, 715, 724, 725] (by decide +kernel) (by decide +kernel)) (goodIn_sub (fun _ h => List.mem_append_right _ h) (by decide +kernel))
set_option maxRecDepth 20000 in
theorem gL_law_X9_size : GoodIn wsL_law (wsV RL 19 RX9 yX9_size wsX9_size) := goodIn_app (goodIn_of _ (by decide +kernel)) ggL_law_X9_size
set_option maxRecDepth 20000 in
theorem ggL_law_X9_point : GoodIn wsL_law wsX9_point := goodIn_ca (goodIn_r _ [672, 278, 447, 249, 250, 251, 2, 252, 253, 254, 23, 155, 248, 159, 126, 127, 48, 128, 129, 255, 131, 132, 133, 134, 135, 136, 137, 138, 139, 140, 141, 142, 143, 144, 145, 61, 102, 103, 104, 448, 449, 450, 628, 397, 398, 166, 399, 180, 179, 386, 313, 314, 315, 303, 298, 181, 673, 457, 458, 459, 441, 629, 305, 306, 307, 177, 178, 719, 720, 721, 722, 723, 726, 727, 728, 729, 730, 731, 732, 688, 689, 690, 691, 692, 693, 694, 695, 696, 702, 703, 704, 705, 706, 713, 714, 715, 724, 725] (by decide +kernel) (by decide +kernel)) (goodIn_sub (fun _ h => List.mem_append_right _ h) (by decide +kernel))
set_option maxRecDepth 20000 in
theorem gL_law_X9_point : GoodIn wsL_law (wsV RL 26 RX9 yX9_point wsX9_point) := goodIn_app (goodIn_of _ (by decide +kernel)) ggL_law_X9_point
set_option maxRecDepth 20000 in
theorem ggL_law_X9_lastAt : GoodIn wsL_law wsX9_lastAt := goodIn_ca (goodIn_ca (goodIn_r _ [677, 471, 249, 250, 251, 2, 252, 253, 254, 23, 155, 248, 159, 126, 127, 48, 128, 129, 255, 131, 132, 133, 134, 135, 136, 137, 138, 139, 140, 141, 142, 143, 144, 145, 61, 102, 103, 104, 105, 106, 107, 108, 109, 678, 542, 543, 158, 544, 545, 546, 547, 548, 172, 528, 123, 171, 167, 549, 298, 550, 551, 552, 553, 432, 412, 413, 170, 414, 190, 400, 305, 306, 166, 307, 177, 178, 679, 688, 689, 690, 691, 692, 693, 694, 695, 696, 702, 703, 704, 705, 706, 713, 714, 715, 719, 720, 721, 722, 723, 724, 725, 726, 727, 728, 729, 730, 731, 732] (by decide +kernel) (by decide +kernel)) (goodIn_sub (fun _ h => List.mem_append_right _ h) (by decide +kernel))) (goodIn_sub (fun _ h => List.mem_append_left _ (List.mem_append_left _ (List.mem_append_right _ h))) (by decide +kernel))
set_option maxRecDepth 20000 in
theorem gL_law_X9_lastAt : GoodIn wsL_law (wsV RL 111 RX9 yX9_lastAt wsX9_lastAt) := goodIn_app (goodIn_of _ (by decide +kernel)) ggL_law_X9_lastAt
set_option maxRecDepth 20000 in
theorem ggL_law_L_isSound : GoodIn wsL_law wsL_isSound := goodIn_ca (goodIn_ca (goodIn_r _ [682, 75, 342, 343, 344, 2, 345, 278, 249, 250, 251, 252, 253, 254, 23, 155, 248, 159, 126, 127, 48, 128, 129, 255, 131, 132, 133, 134, 135, 136, 137, 138, 139, 140, 141, 142, 143, 144, 145, 61, 346, 347, 348, 166, 349, 180, 653, 654, 655, 656, 633, 123, 657, 658, 659, 158, 660, 172, 171, 665, 666, 667, 668, 447, 102, 103, 104, 448, 449, 450, 628, 397, 398, 399, 179, 386, 313, 314, 315, 303, 298, 181, 443, 444, 445, 446, 28, 451, 452, 453, 27, 454, 455, 83, 456, 457, 458, 459, 441, 460, 316, 317, 318, 319, 82, 84, 320, 321, 222, 322, 323, 324, 325, 326, 327, 305, 306, 307, 177, 178, 328, 329, 330, 331, 332, 86, 85, 87, 333, 334, 335, 336, 337, 338, 339, 340, 341, 669, 670, 671, 672, 673, 629, 269, 270, 271, 272, 273, 661, 662, 663, 664, 105, 106, 107, 108, 109, 634, 412, 413, 170, 414, 190, 683, 684, 685, 686, 687, 546, 547, 548, 528, 167, 549, 719, 720, 721, 722, 723, 688, 689, 690, 691, 692, 693, 694, 695, 696, 702, 703, 704, 705, 706, 713, 714, 715, 726, 727, 728, 729, 730, 731, 732, 724, 725, 707, 708, 709, 710, 711, 712] (by decide +kernel) (by decide +kernel)) (goodIn_sub (fun _ h => List.mem_append_right _ h) (by decide +kernel))) (goodIn_sub (fun _ h => List.mem_append_left _ (List.mem_append_left _ (List.mem_append_right _ h))) (by decide +kernel))
set_option maxRecDepth 20000 in
theorem gL_law_L_isSound : GoodIn wsL_law (va_wsS RL 114 yL_isSound wsL_isSound) := goodIn_app (goodIn_of _ (by decide +kernel)) ggL_law_L_isSound
theorem dL_law_0 : decode cL_law 0 = .ok (.new 10, 3) := by decide +kernel
theorem dL_law_3 : decode cL_law 3 = .ok (.dup, 1) := by decide +kernel
theorem dL_law_4 : decode cL_law 4 = .ok (.invokespecial 41, 3) := by decide +kernel
theorem dL_law_7 : decode cL_law 7 = .ok (.astore_n 1, 1) := by decide +kernel
theorem dL_law_8 : decode cL_law 8 = .ok (.aload_n 1, 1) := by decide +kernel
theorem dL_law_9 : decode cL_law 9 = .ok (.iconst 2, 1) := by decide +kernel
theorem dL_law_10 : decode cL_law 10 = .ok (.aload_n 0, 1) := by decide +kernel
theorem dL_law_11 : decode cL_law 11 = .ok (.iconst 0, 1) := by decide +kernel
theorem dL_law_12 : decode cL_law 12 = .ok (.invokestatic 42, 3) := by decide +kernel
theorem dL_law_15 : decode cL_law 15 = .ok (.iconst 5, 1) := by decide +kernel
theorem dL_law_16 : decode cL_law 16 = .ok (.invokestatic 48, 3) := by decide +kernel
theorem dL_law_19 : decode cL_law 19 = .ok (.iadd, 1) := by decide +kernel
theorem dL_law_20 : decode cL_law 20 = .ok (.invokevirtual 51, 3) := by decide +kernel
theorem dL_law_23 : decode cL_law 23 = .ok (.pop, 1) := by decide +kernel
theorem dL_law_24 : decode cL_law 24 = .ok (.aload_n 1, 1) := by decide +kernel
theorem dL_law_25 : decode cL_law 25 = .ok (.iconst 2, 1) := by decide +kernel
theorem dL_law_26 : decode cL_law 26 = .ok (.aload_n 0, 1) := by decide +kernel
theorem dL_law_27 : decode cL_law 27 = .ok (.iconst 1, 1) := by decide +kernel
theorem dL_law_28 : decode cL_law 28 = .ok (.invokestatic 42, 3) := by decide +kernel
theorem dL_law_31 : decode cL_law 31 = .ok (.bipush 9, 2) := by decide +kernel
theorem dL_law_33 : decode cL_law 33 = .ok (.invokestatic 48, 3) := by decide +kernel
theorem dL_law_36 : decode cL_law 36 = .ok (.iadd, 1) := by decide +kernel
theorem dL_law_37 : decode cL_law 37 = .ok (.iconst 2, 1) := by decide +kernel
theorem dL_law_38 : decode cL_law 38 = .ok (.aload_n 0, 1) := by decide +kernel
theorem dL_law_39 : decode cL_law 39 = .ok (.iconst 1, 1) := by decide +kernel
theorem dL_law_40 : decode cL_law 40 = .ok (.invokestatic 42, 3) := by decide +kernel
theorem dL_law_43 : decode cL_law 43 = .ok (.iconst 4, 1) := by decide +kernel
theorem dL_law_44 : decode cL_law 44 = .ok (.ishr, 1) := by decide +kernel
theorem dL_law_45 : decode cL_law 45 = .ok (.iconst 4, 1) := by decide +kernel
theorem dL_law_46 : decode cL_law 46 = .ok (.invokestatic 48, 3) := by decide +kernel
theorem dL_law_49 : decode cL_law 49 = .ok (.iadd, 1) := by decide +kernel
theorem dL_law_50 : decode cL_law 50 = .ok (.invokevirtual 54, 3) := by decide +kernel
theorem dL_law_53 : decode cL_law 53 = .ok (.pop, 1) := by decide +kernel
theorem dL_law_54 : decode cL_law 54 = .ok (.aload_n 1, 1) := by decide +kernel
theorem dL_law_55 : decode cL_law 55 = .ok (.iconst 0, 1) := by decide +kernel
theorem dL_law_56 : decode cL_law 56 = .ok (.iconst 1, 1) := by decide +kernel
theorem dL_law_57 : decode cL_law 57 = .ok (.invokevirtual 57, 3) := by decide +kernel
theorem dL_law_60 : decode cL_law 60 = .ok (.pop, 1) := by decide +kernel
theorem dL_law_61 : decode cL_law 61 = .ok (.aload_n 1, 1) := by decide +kernel
theorem dL_law_62 : decode cL_law 62 = .ok (.iconst 0, 1) := by decide +kernel
theorem dL_law_63 : decode cL_law 63 = .ok (.iconst 2, 1) := by decide +kernel
theorem dL_law_64 : decode cL_law 64 = .ok (.invokevirtual 57, 3) := by decide +kernel
theorem dL_law_67 : decode cL_law 67 = .ok (.pop, 1) := by decide +kernel
theorem dL_law_68 : decode cL_law 68 = .ok (.aload_n 1, 1) := by decide +kernel
theorem dL_law_69 : decode cL_law 69 = .ok (.iconst 0, 1) := by decide +kernel
theorem dL_law_70 : decode cL_law 70 = .ok (.aload_n 0, 1) := by decide +kernel
theorem dL_law_71 : decode cL_law 71 = .ok (.iconst 2, 1) := by decide +kernel
theorem dL_law_72 : decode cL_law 72 = .ok (.invokestatic 42, 3) := by decide +kernel
theorem dL_law_75 : decode cL_law 75 = .ok (.bipush 8, 2) := by decide +kernel
theorem dL_law_77 : decode cL_law 77 = .ok (.invokestatic 48, 3) := by decide +kernel
theorem dL_law_80 : decode cL_law 80 = .ok (.iconst 1, 1) := by decide +kernel
theorem dL_law_81 : decode cL_law 81 = .ok (.aload_n 0, 1) := by decide +kernel
theorem dL_law_82 : decode cL_law 82 = .ok (.iconst 2, 1) := by decide +kernel
theorem dL_law_83 : decode cL_law 83 = .ok (.invokestatic 42, 3) := by decide +kernel
theorem dL_law_86 : decode cL_law 86 = .ok (.iconst 3, 1) := by decide +kernel
theorem dL_law_87 : decode cL_law 87 = .ok (.ishr, 1) := by decide +kernel
theorem dL_law_88 : decode cL_law 88 = .ok (.bipush 30, 2) := by decide +kernel
theorem dL_law_90 : decode cL_law 90 = .ok (.invokestatic 48, 3) := by decide +kernel
theorem dL_law_93 : decode cL_law 93 = .ok (.iadd, 1) := by decide +kernel
theorem dL_law_94 : decode cL_law 94 = .ok (.iconst 1, 1) := by decide +kernel
theorem dL_law_95 : decode cL_law 95 = .ok (.aload_n 0, 1) := by decide +kernel
theorem dL_law_96 : decode cL_law 96 = .ok (.iconst 2, 1) := by decide +kernel
theorem dL_law_97 : decode cL_law 97 = .ok (.invokestatic 42, 3) := by decide +kernel
theorem dL_law_100 : decode cL_law 100 = .ok (.bipush 6, 2) := by decide +kernel
theorem dL_law_102 : decode cL_law 102 = .ok (.ishr, 1) := by decide +kernel
theorem dL_law_103 : decode cL_law 103 = .ok (.iconst 5, 1) := by decide +kernel
theorem dL_law_104 : decode cL_law 104 = .ok (.invokestatic 48, 3) := by decide +kernel
theorem dL_law_107 : decode cL_law 107 = .ok (.iadd, 1) := by decide +kernel
theorem dL_law_108 : decode cL_law 108 = .ok (.aload_n 0, 1) := by decide +kernel
theorem dL_law_109 : decode cL_law 109 = .ok (.iconst 2, 1) := by decide +kernel
theorem dL_law_110 : decode cL_law 110 = .ok (.invokestatic 42, 3) := by decide +kernel
theorem dL_law_113 : decode cL_law 113 = .ok (.iconst 2, 1) := by decide +kernel
theorem dL_law_114 : decode cL_law 114 = .ok (.invokestatic 48, 3) := by decide +kernel
theorem dL_law_117 : decode cL_law 117 = .ok (.ifCond .ne 7, 3) := by decide +kernel
theorem dL_law_120 : decode cL_law 120 = .ok (.iconst 1, 1) := by decide +kernel
theorem dL_law_121 : decode cL_law 121 = .ok (.goto 4, 3) := by decide +kernel
theorem dL_law_124 : decode cL_law 124 = .ok (.iconst 0, 1) := by decide +kernel
theorem dL_law_125 : decode cL_law 125 = .ok (.aload_n 0, 1) := by decide +kernel
theorem dL_law_126 : decode cL_law 126 = .ok (.iconst 2, 1) := by decide +kernel
theorem dL_law_127 : decode cL_law 127 = .ok (.invokestatic 42, 3) := by decide +kernel
theorem dL_law_130 : decode cL_law 130 = .ok (.iconst 5, 1) := by decide +kernel
theorem dL_law_131 : decode cL_law 131 = .ok (.ishr, 1) := by decide +kernel
theorem dL_law_132 : decode cL_law 132 = .ok (.bipush 40, 2) := by decide +kernel
theorem dL_law_134 : decode cL_law 134 = .ok (.invokestatic 48, 3) := by decide +kernel
theorem dL_law_137 : decode cL_law 137 = .ok (.bipush 20, 2) := by decide +kernel
theorem dL_law_139 : decode cL_law 139 = .ok (.isub, 1) := by decide +kernel
theorem dL_law_140 : decode cL_law 140 = .ok (.iconst 1, 1) := by decide +kernel
theorem dL_law_141 : decode cL_law 141 = .ok (.aload_n 0, 1) := by decide +kernel
theorem dL_law_142 : decode cL_law 142 = .ok (.iconst 2, 1) := by decide +kernel
theorem dL_law_143 : decode cL_law 143 = .ok (.invokestatic 42, 3) := by decide +kernel
theorem dL_law_146 : decode cL_law 146 = .ok (.iconst 4, 1) := by decide +kernel
theorem dL_law_147 : decode cL_law 147 = .ok (.ishr, 1) := by decide +kernel
theorem dL_law_148 : decode cL_law 148 = .ok (.iconst 3, 1) := by decide +kernel
theorem dL_law_149 : decode cL_law 149 = .ok (.invokestatic 48, 3) := by decide +kernel
theorem dL_law_152 : decode cL_law 152 = .ok (.iadd, 1) := by decide +kernel
theorem dL_law_153 : decode cL_law 153 = .ok (.invokevirtual 60, 3) := by decide +kernel
theorem dL_law_156 : decode cL_law 156 = .ok (.pop, 1) := by decide +kernel
theorem dL_law_157 : decode cL_law 157 = .ok (.iconst 0, 1) := by decide +kernel
theorem dL_law_158 : decode cL_law 158 = .ok (.istore_n 2, 1) := by decide +kernel
theorem dL_law_159 : decode cL_law 159 = .ok (.iload_n 2, 1) := by decide +kernel
theorem dL_law_160 : decode cL_law 160 = .ok (.bipush 40, 2) := by decide +kernel
theorem dL_law_162 : decode cL_law 162 = .ok (.if_icmp .ge 709, 3) := by decide +kernel
theorem dL_law_165 : decode cL_law 165 = .ok (.aload_n 0, 1) := by decide +kernel
theorem dL_law_166 : decode cL_law 166 = .ok (.iload_n 2, 1) := by decide +kernel
theorem dL_law_167 : decode cL_law 167 = .ok (.bipush 16, 2) := by decide +kernel
theorem dL_law_169 : decode cL_law 169 = .ok (.irem, 1) := by decide +kernel
theorem dL_law_170 : decode cL_law 170 = .ok (.invokestatic 42, 3) := by decide +kernel
theorem dL_law_173 : decode cL_law 173 = .ok (.iload_n 2, 1) := by decide +kernel
theorem dL_law_174 : decode cL_law 174 = .ok (.bipush 16, 2) := by decide +kernel
theorem dL_law_176 : decode cL_law 176 = .ok (.idiv, 1) := by decide +kernel
theorem dL_law_177 : decode cL_law 177 = .ok (.iconst 4, 1) := by decide +kernel
theorem dL_law_178 : decode cL_law 178 = .ok (.imul, 1) := by decide +kernel
theorem dL_law_179 : decode cL_law 179 = .ok (.ishr, 1) := by decide +kernel
theorem dL_law_180 : decode cL_law 180 = .ok (.iconst 3, 1) := by decide +kernel
theorem dL_law_181 : decode cL_law 181 = .ok (.iload_n 2, 1) := by decide +kernel
theorem dL_law_182 : decode cL_law 182 = .ok (.imul, 1) := by decide +kernel
theorem dL_law_183 : decode cL_law 183 = .ok (.iadd, 1) := by decide +kernel
theorem dL_law_184 : decode cL_law 184 = .ok (.istore_n 3, 1) := by decide +kernel
theorem dL_law_185 : decode cL_law 185 = .ok (.iload_n 3, 1) := by decide +kernel
theorem dL_law_186 : decode cL_law 186 = .ok (.iconst 1, 1) := by decide +kernel
theorem dL_law_187 : decode cL_law 187 = .ok (.ishr, 1) := by decide +kernel
theorem dL_law_188 : decode cL_law 188 = .ok (.iconst 2, 1) := by decide +kernel
theorem dL_law_189 : decode cL_law 189 = .ok (.invokestatic 48, 3) := by decide +kernel
theorem dL_law_192 : decode cL_law 192 = .ok (.istore 4, 2) := by decide +kernel
theorem dL_law_194 : decode cL_law 194 = .ok (.iload_n 3, 1) := by decide +kernel
theorem dL_law_195 : decode cL_law 195 = .ok (.iconst 5, 1) := by decide +kernel
theorem dL_law_196 : decode cL_law 196 = .ok (.invokestatic 48, 3) := by decide +kernel
theorem dL_law_199 : decode cL_law 199 = .ok (.istore 5, 2) := by decide +kernel
theorem dL_law_201 : decode cL_law 201 = .ok (.iload 5, 2) := by decide +kernel
theorem dL_law_203 : decode cL_law 203 = .ok (.iconst 2, 1) := by decide +kernel
theorem dL_law_204 : decode cL_law 204 = .ok (.if_icmp .ge 164, 3) := by decide +kernel
theorem dL_law_207 : decode cL_law 207 = .ok (.iconst 0, 1) := by decide +kernel
theorem dL_law_208 : decode cL_law 208 = .ok (.aload_n 1, 1) := by decide +kernel
theorem dL_law_209 : decode cL_law 209 = .ok (.invokevirtual 30, 3) := by decide +kernel
theorem dL_law_212 : decode cL_law 212 = .ok (.iload_n 3, 1) := by decide +kernel
theorem dL_law_213 : decode cL_law 213 = .ok (.iconst 3, 1) := by decide +kernel
theorem dL_law_214 : decode cL_law 214 = .ok (.ishr, 1) := by decide +kernel
theorem dL_law_215 : decode cL_law 215 = .ok (.bipush 9, 2) := by decide +kernel
theorem dL_law_217 : decode cL_law 217 = .ok (.invokestatic 48, 3) := by decide +kernel
theorem dL_law_220 : decode cL_law 220 = .ok (.isub, 1) := by decide +kernel
theorem dL_law_221 : decode cL_law 221 = .ok (.invokestatic 64, 3) := by decide +kernel
theorem dL_law_224 : decode cL_law 224 = .ok (.istore 6, 2) := by decide +kernel
theorem dL_law_226 : decode cL_law 226 = .ok (.iload_n 3, 1) := by decide +kernel
theorem dL_law_227 : decode cL_law 227 = .ok (.iconst 2, 1) := by decide +kernel
theorem dL_law_228 : decode cL_law 228 = .ok (.ishr, 1) := by decide +kernel
theorem dL_law_229 : decode cL_law 229 = .ok (.bipush 60, 2) := by decide +kernel
theorem dL_law_231 : decode cL_law 231 = .ok (.invokestatic 48, 3) := by decide +kernel
theorem dL_law_234 : decode cL_law 234 = .ok (.bipush 30, 2) := by decide +kernel
theorem dL_law_236 : decode cL_law 236 = .ok (.isub, 1) := by decide +kernel
theorem dL_law_237 : decode cL_law 237 = .ok (.istore 7, 2) := by decide +kernel
theorem dL_law_239 : decode cL_law 239 = .ok (.aload_n 1, 1) := by decide +kernel
theorem dL_law_240 : decode cL_law 240 = .ok (.iload 4, 2) := by decide +kernel
theorem dL_law_242 : decode cL_law 242 = .ok (.iload 6, 2) := by decide +kernel
theorem dL_law_244 : decode cL_law 244 = .ok (.iload 7, 2) := by decide +kernel
theorem dL_law_246 : decode cL_law 246 = .ok (.invokevirtual 69, 3) := by decide +kernel
theorem dL_law_249 : decode cL_law 249 = .ok (.istore 8, 2) := by decide +kernel
theorem dL_law_251 : decode cL_law 251 = .ok (.aload_n 1, 1) := by decide +kernel
theorem dL_law_252 : decode cL_law 252 = .ok (.iload 4, 2) := by decide +kernel
theorem dL_law_254 : decode cL_law 254 = .ok (.invokevirtual 9, 3) := by decide +kernel
theorem dL_law_257 : decode cL_law 257 = .ok (.istore 9, 2) := by decide +kernel
theorem dL_law_259 : decode cL_law 259 = .ok (.aload_n 1, 1) := by decide +kernel
theorem dL_law_260 : decode cL_law 260 = .ok (.invokevirtual 73, 3) := by decide +kernel
theorem dL_law_263 : decode cL_law 263 = .ok (.istore 10, 2) := by decide +kernel
theorem dL_law_265 : decode cL_law 265 = .ok (.aload_n 1, 1) := by decide +kernel
theorem dL_law_266 : decode cL_law 266 = .ok (.iload 4, 2) := by decide +kernel
theorem dL_law_268 : decode cL_law 268 = .ok (.iload 6, 2) := by decide +kernel
theorem dL_law_270 : decode cL_law 270 = .ok (.iload 7, 2) := by decide +kernel
theorem dL_law_272 : decode cL_law 272 = .ok (.invokevirtual 76, 3) := by decide +kernel
theorem dL_law_275 : decode cL_law 275 = .ok (.istore 11, 2) := by decide +kernel
theorem dL_law_277 : decode cL_law 277 = .ok (.iload 11, 2) := by decide +kernel
theorem dL_law_279 : decode cL_law 279 = .ok (.iconst (-1), 1) := by decide +kernel
theorem dL_law_280 : decode cL_law 280 = .ok (.if_icmp .ne 7, 3) := by decide +kernel
theorem dL_law_283 : decode cL_law 283 = .ok (.iconst 1, 1) := by decide +kernel
theorem dL_law_284 : decode cL_law 284 = .ok (.goto 4, 3) := by decide +kernel
theorem dL_law_287 : decode cL_law 287 = .ok (.iconst 0, 1) := by decide +kernel
theorem dL_law_288 : decode cL_law 288 = .ok (.iload 8, 2) := by decide +kernel
theorem dL_law_290 : decode cL_law 290 = .ok (.iconst (-1), 1) := by decide +kernel
theorem dL_law_291 : decode cL_law 291 = .ok (.if_icmp .ne 7, 3) := by decide +kernel
theorem dL_law_294 : decode cL_law 294 = .ok (.iconst 1, 1) := by decide +kernel
theorem dL_law_295 : decode cL_law 295 = .ok (.goto 4, 3) := by decide +kernel
theorem dL_law_298 : decode cL_law 298 = .ok (.iconst 0, 1) := by decide +kernel
theorem dL_law_299 : decode cL_law 299 = .ok (.if_icmp .ne 64, 3) := by decide +kernel
theorem dL_law_302 : decode cL_law 302 = .ok (.aload_n 1, 1) := by decide +kernel
theorem dL_law_303 : decode cL_law 303 = .ok (.invokevirtual 73, 3) := by decide +kernel
theorem dL_law_306 : decode cL_law 306 = .ok (.iload 10, 2) := by decide +kernel
theorem dL_law_308 : decode cL_law 308 = .ok (.iload 11, 2) := by decide +kernel
theorem dL_law_310 : decode cL_law 310 = .ok (.iconst (-1), 1) := by decide +kernel
theorem dL_law_311 : decode cL_law 311 = .ok (.if_icmp .ne 7, 3) := by decide +kernel
theorem dL_law_314 : decode cL_law 314 = .ok (.iconst 1, 1) := by decide +kernel
theorem dL_law_315 : decode cL_law 315 = .ok (.goto 4, 3) := by decide +kernel
theorem dL_law_318 : decode cL_law 318 = .ok (.iconst 0, 1) := by decide +kernel
theorem dL_law_319 : decode cL_law 319 = .ok (.iadd, 1) := by decide +kernel
theorem dL_law_320 : decode cL_law 320 = .ok (.if_icmp .ne 43, 3) := by decide +kernel
theorem dL_law_323 : decode cL_law 323 = .ok (.iload 11, 2) := by decide +kernel
theorem dL_law_325 : decode cL_law 325 = .ok (.ifCond .ne 22, 3) := by decide +kernel
theorem dL_law_328 : decode cL_law 328 = .ok (.aload_n 1, 1) := by decide +kernel
theorem dL_law_329 : decode cL_law 329 = .ok (.iload 4, 2) := by decide +kernel
theorem dL_law_331 : decode cL_law 331 = .ok (.aload_n 1, 1) := by decide +kernel
theorem dL_law_332 : decode cL_law 332 = .ok (.iload 4, 2) := by decide +kernel
theorem dL_law_334 : decode cL_law 334 = .ok (.invokevirtual 9, 3) := by decide +kernel
theorem dL_law_337 : decode cL_law 337 = .ok (.iconst 2, 1) := by decide +kernel
theorem dL_law_338 : decode cL_law 338 = .ok (.isub, 1) := by decide +kernel
theorem dL_law_339 : decode cL_law 339 = .ok (.invokevirtual 23, 3) := by decide +kernel
theorem dL_law_342 : decode cL_law 342 = .ok (.iload 8, 2) := by decide +kernel
theorem dL_law_344 : decode cL_law 344 = .ok (.if_icmp .ne 19, 3) := by decide +kernel
theorem dL_law_347 : decode cL_law 347 = .ok (.iload 11, 2) := by decide +kernel
theorem dL_law_349 : decode cL_law 349 = .ok (.ifCond .le 16, 3) := by decide +kernel
theorem dL_law_352 : decode cL_law 352 = .ok (.aload_n 1, 1) := by decide +kernel
theorem dL_law_353 : decode cL_law 353 = .ok (.iload 4, 2) := by decide +kernel
theorem dL_law_355 : decode cL_law 355 = .ok (.invokevirtual 9, 3) := by decide +kernel
theorem dL_law_358 : decode cL_law 358 = .ok (.iload 9, 2) := by decide +kernel
theorem dL_law_360 : decode cL_law 360 = .ok (.if_icmp .eq 5, 3) := by decide +kernel
theorem dL_law_363 : decode cL_law 363 = .ok (.iconst 0, 1) := by decide +kernel
theorem dL_law_364 : decode cL_law 364 = .ok (.ireturn, 1) := by decide +kernel
theorem dL_law_365 : decode cL_law 365 = .ok (.goto 180, 3) := by decide +kernel
theorem dL_law_368 : decode cL_law 368 = .ok (.iload 5, 2) := by decide +kernel
theorem dL_law_370 : decode cL_law 370 = .ok (.iconst 2, 1) := by decide +kernel
theorem dL_law_371 : decode cL_law 371 = .ok (.if_icmp .ne 27, 3) := by decide +kernel
theorem dL_law_374 : decode cL_law 374 = .ok (.aload_n 1, 1) := by decide +kernel
theorem dL_law_375 : decode cL_law 375 = .ok (.iload_n 3, 1) := by decide +kernel
theorem dL_law_376 : decode cL_law 376 = .ok (.iconst 3, 1) := by decide +kernel
theorem dL_law_377 : decode cL_law 377 = .ok (.ishr, 1) := by decide +kernel
theorem dL_law_378 : decode cL_law 378 = .ok (.bipush 60, 2) := by decide +kernel
theorem dL_law_380 : decode cL_law 380 = .ok (.invokestatic 48, 3) := by decide +kernel
theorem dL_law_383 : decode cL_law 383 = .ok (.iload_n 3, 1) := by decide +kernel
theorem dL_law_384 : decode cL_law 384 = .ok (.iconst 5, 1) := by decide +kernel
theorem dL_law_385 : decode cL_law 385 = .ok (.ishr, 1) := by decide +kernel
theorem dL_law_386 : decode cL_law 386 = .ok (.bipush 90, 2) := by decide +kernel
theorem dL_law_388 : decode cL_law 388 = .ok (.invokestatic 48, 3) := by decide +kernel
theorem dL_law_391 : decode cL_law 391 = .ok (.invokevirtual 79, 3) := by decide +kernel
theorem dL_law_394 : decode cL_law 394 = .ok (.pop, 1) := by decide +kernel
theorem dL_law_395 : decode cL_law 395 = .ok (.goto 150, 3) := by decide +kernel
theorem dL_law_398 : decode cL_law 398 = .ok (.iload_n 3, 1) := by decide +kernel
theorem dL_law_399 : decode cL_law 399 = .ok (.iconst 4, 1) := by decide +kernel
theorem dL_law_400 : decode cL_law 400 = .ok (.ishr, 1) := by decide +kernel
theorem dL_law_401 : decode cL_law 401 = .ok (.bipush 60, 2) := by decide +kernel
theorem dL_law_403 : decode cL_law 403 = .ok (.invokestatic 48, 3) := by decide +kernel
theorem dL_law_406 : decode cL_law 406 = .ok (.istore 6, 2) := by decide +kernel
theorem dL_law_408 : decode cL_law 408 = .ok (.aload_n 1, 1) := by decide +kernel
theorem dL_law_409 : decode cL_law 409 = .ok (.iload 6, 2) := by decide +kernel
theorem dL_law_411 : decode cL_law 411 = .ok (.invokevirtual 82, 3) := by decide +kernel
theorem dL_law_414 : decode cL_law 414 = .ok (.istore 7, 2) := by decide +kernel
theorem dL_law_416 : decode cL_law 416 = .ok (.aload_n 1, 1) := by decide +kernel
theorem dL_law_417 : decode cL_law 417 = .ok (.invokevirtual 85, 3) := by decide +kernel
theorem dL_law_420 : decode cL_law 420 = .ok (.istore 8, 2) := by decide +kernel
theorem dL_law_422 : decode cL_law 422 = .ok (.aload_n 1, 1) := by decide +kernel
theorem dL_law_423 : decode cL_law 423 = .ok (.iload 6, 2) := by decide +kernel
theorem dL_law_425 : decode cL_law 425 = .ok (.iconst 0, 1) := by decide +kernel
theorem dL_law_426 : decode cL_law 426 = .ok (.invokevirtual 79, 3) := by decide +kernel
theorem dL_law_429 : decode cL_law 429 = .ok (.pop, 1) := by decide +kernel
theorem dL_law_430 : decode cL_law 430 = .ok (.aload_n 1, 1) := by decide +kernel
theorem dL_law_431 : decode cL_law 431 = .ok (.iconst 1, 1) := by decide +kernel
theorem dL_law_432 : decode cL_law 432 = .ok (.invokevirtual 88, 3) := by decide +kernel
theorem dL_law_435 : decode cL_law 435 = .ok (.istore 9, 2) := by decide +kernel
theorem dL_law_437 : decode cL_law 437 = .ok (.aload_n 1, 1) := by decide +kernel
theorem dL_law_438 : decode cL_law 438 = .ok (.iconst 0, 1) := by decide +kernel
theorem dL_law_439 : decode cL_law 439 = .ok (.invokevirtual 9, 3) := by decide +kernel
theorem dL_law_442 : decode cL_law 442 = .ok (.aload_n 1, 1) := by decide +kernel
theorem dL_law_443 : decode cL_law 443 = .ok (.iconst 1, 1) := by decide +kernel
theorem dL_law_444 : decode cL_law 444 = .ok (.invokevirtual 9, 3) := by decide +kernel
theorem dL_law_447 : decode cL_law 447 = .ok (.iadd, 1) := by decide +kernel
theorem dL_law_448 : decode cL_law 448 = .ok (.istore 10, 2) := by decide +kernel
theorem dL_law_450 : decode cL_law 450 = .ok (.aload_n 1, 1) := by decide +kernel
theorem dL_law_451 : decode cL_law 451 = .ok (.iconst 1, 1) := by decide +kernel
theorem dL_law_452 : decode cL_law 452 = .ok (.invokevirtual 91, 3) := by decide +kernel
theorem dL_law_455 : decode cL_law 455 = .ok (.istore 11, 2) := by decide +kernel
theorem dL_law_457 : decode cL_law 457 = .ok (.aload_n 1, 1) := by decide +kernel
theorem dL_law_458 : decode cL_law 458 = .ok (.iconst 0, 1) := by decide +kernel
theorem dL_law_459 : decode cL_law 459 = .ok (.invokevirtual 9, 3) := by decide +kernel
theorem dL_law_462 : decode cL_law 462 = .ok (.aload_n 1, 1) := by decide +kernel
theorem dL_law_463 : decode cL_law 463 = .ok (.iconst 1, 1) := by decide +kernel
theorem dL_law_464 : decode cL_law 464 = .ok (.invokevirtual 9, 3) := by decide +kernel
theorem dL_law_467 : decode cL_law 467 = .ok (.iadd, 1) := by decide +kernel
theorem dL_law_468 : decode cL_law 468 = .ok (.iload 10, 2) := by decide +kernel
theorem dL_law_470 : decode cL_law 470 = .ok (.iload 7, 2) := by decide +kernel
theorem dL_law_472 : decode cL_law 472 = .ok (.isub, 1) := by decide +kernel
theorem dL_law_473 : decode cL_law 473 = .ok (.if_icmp .ne 49, 3) := by decide +kernel
theorem dL_law_476 : decode cL_law 476 = .ok (.aload_n 1, 1) := by decide +kernel
theorem dL_law_477 : decode cL_law 477 = .ok (.invokevirtual 85, 3) := by decide +kernel
theorem dL_law_480 : decode cL_law 480 = .ok (.iload 8, 2) := by decide +kernel
theorem dL_law_482 : decode cL_law 482 = .ok (.iload 11, 2) := by decide +kernel
theorem dL_law_484 : decode cL_law 484 = .ok (.iadd, 1) := by decide +kernel
theorem dL_law_485 : decode cL_law 485 = .ok (.if_icmp .ne 37, 3) := by decide +kernel
theorem dL_law_488 : decode cL_law 488 = .ok (.iload 9, 2) := by decide +kernel
theorem dL_law_490 : decode cL_law 490 = .ok (.iconst 1, 1) := by decide +kernel
theorem dL_law_491 : decode cL_law 491 = .ok (.if_icmp .ne 7, 3) := by decide +kernel
theorem dL_law_494 : decode cL_law 494 = .ok (.iconst 1, 1) := by decide +kernel
theorem dL_law_495 : decode cL_law 495 = .ok (.goto 4, 3) := by decide +kernel
theorem dL_law_498 : decode cL_law 498 = .ok (.iconst 0, 1) := by decide +kernel
theorem dL_law_499 : decode cL_law 499 = .ok (.iload 11, 2) := by decide +kernel
theorem dL_law_501 : decode cL_law 501 = .ok (.ifCond .le 17, 3) := by decide +kernel
theorem dL_law_504 : decode cL_law 504 = .ok (.aload_n 1, 1) := by decide +kernel
theorem dL_law_505 : decode cL_law 505 = .ok (.iconst 0, 1) := by decide +kernel
theorem dL_law_506 : decode cL_law 506 = .ok (.iconst 2, 1) := by decide +kernel
theorem dL_law_507 : decode cL_law 507 = .ok (.invokevirtual 94, 3) := by decide +kernel
theorem dL_law_510 : decode cL_law 510 = .ok (.iconst 2, 1) := by decide +kernel
theorem dL_law_511 : decode cL_law 511 = .ok (.if_icmp .ne 7, 3) := by decide +kernel
theorem dL_law_514 : decode cL_law 514 = .ok (.iconst 1, 1) := by decide +kernel
theorem dL_law_515 : decode cL_law 515 = .ok (.goto 4, 3) := by decide +kernel
theorem dL_law_518 : decode cL_law 518 = .ok (.iconst 0, 1) := by decide +kernel
theorem dL_law_519 : decode cL_law 519 = .ok (.if_icmp .eq 5, 3) := by decide +kernel
theorem dL_law_522 : decode cL_law 522 = .ok (.iconst 0, 1) := by decide +kernel
theorem dL_law_523 : decode cL_law 523 = .ok (.ireturn, 1) := by decide +kernel
theorem dL_law_524 : decode cL_law 524 = .ok (.iload 5, 2) := by decide +kernel
theorem dL_law_526 : decode cL_law 526 = .ok (.iconst 4, 1) := by decide +kernel
theorem dL_law_527 : decode cL_law 527 = .ok (.if_icmp .ne 18, 3) := by decide +kernel
theorem dL_law_530 : decode cL_law 530 = .ok (.aload_n 1, 1) := by decide +kernel
theorem dL_law_531 : decode cL_law 531 = .ok (.iconst 1, 1) := by decide +kernel
theorem dL_law_532 : decode cL_law 532 = .ok (.iload_n 3, 1) := by decide +kernel
theorem dL_law_533 : decode cL_law 533 = .ok (.iconst 3, 1) := by decide +kernel
theorem dL_law_534 : decode cL_law 534 = .ok (.ishr, 1) := by decide +kernel
theorem dL_law_535 : decode cL_law 535 = .ok (.bipush 12, 2) := by decide +kernel
theorem dL_law_537 : decode cL_law 537 = .ok (.invokestatic 48, 3) := by decide +kernel
theorem dL_law_540 : decode cL_law 540 = .ok (.iadd, 1) := by decide +kernel
theorem dL_law_541 : decode cL_law 541 = .ok (.invokevirtual 91, 3) := by decide +kernel
theorem dL_law_544 : decode cL_law 544 = .ok (.pop, 1) := by decide +kernel
theorem dL_law_545 : decode cL_law 545 = .ok (.aload_n 1, 1) := by decide +kernel
theorem dL_law_546 : decode cL_law 546 = .ok (.invokevirtual 97, 3) := by decide +kernel
theorem dL_law_549 : decode cL_law 549 = .ok (.lstore 6, 2) := by decide +kernel
theorem dL_law_551 : decode cL_law 551 = .ok (.iconst 0, 1) := by decide +kernel
theorem dL_law_552 : decode cL_law 552 = .ok (.istore 8, 2) := by decide +kernel
theorem dL_law_554 : decode cL_law 554 = .ok (.iconst 1, 1) := by decide +kernel
theorem dL_law_555 : decode cL_law 555 = .ok (.iload_n 3, 1) := by decide +kernel
theorem dL_law_556 : decode cL_law 556 = .ok (.iconst 4, 1) := by decide +kernel
theorem dL_law_557 : decode cL_law 557 = .ok (.ishr, 1) := by decide +kernel
theorem dL_law_558 : decode cL_law 558 = .ok (.bipush 40, 2) := by decide +kernel
theorem dL_law_560 : decode cL_law 560 = .ok (.invokestatic 48, 3) := by decide +kernel
theorem dL_law_563 : decode cL_law 563 = .ok (.iadd, 1) := by decide +kernel
theorem dL_law_564 : decode cL_law 564 = .ok (.istore 9, 2) := by decide +kernel
theorem dL_law_566 : decode cL_law 566 = .ok (.aload_n 1, 1) := by decide +kernel
theorem dL_law_567 : decode cL_law 567 = .ok (.invokevirtual 30, 3) := by decide +kernel
theorem dL_law_570 : decode cL_law 570 = .ok (.iload 9, 2) := by decide +kernel
theorem dL_law_572 : decode cL_law 572 = .ok (.idiv, 1) := by decide +kernel
theorem dL_law_573 : decode cL_law 573 = .ok (.istore 10, 2) := by decide +kernel
theorem dL_law_575 : decode cL_law 575 = .ok (.aload_n 1, 1) := by decide +kernel
theorem dL_law_576 : decode cL_law 576 = .ok (.iconst 0, 1) := by decide +kernel
theorem dL_law_577 : decode cL_law 577 = .ok (.iload 9, 2) := by decide +kernel
theorem dL_law_579 : decode cL_law 579 = .ok (.iconst 0, 1) := by decide +kernel
theorem dL_law_580 : decode cL_law 580 = .ok (.iconst 0, 1) := by decide +kernel
theorem dL_law_581 : decode cL_law 581 = .ok (.invokevirtual 101, 3) := by decide +kernel
theorem dL_law_584 : decode cL_law 584 = .ok (.pop, 1) := by decide +kernel
theorem dL_law_585 : decode cL_law 585 = .ok (.iconst 0, 1) := by decide +kernel
theorem dL_law_586 : decode cL_law 586 = .ok (.istore 11, 2) := by decide +kernel
theorem dL_law_588 : decode cL_law 588 = .ok (.iload 11, 2) := by decide +kernel
theorem dL_law_590 : decode cL_law 590 = .ok (.iload 10, 2) := by decide +kernel
theorem dL_law_592 : decode cL_law 592 = .ok (.bipush 60, 2) := by decide +kernel
theorem dL_law_594 : decode cL_law 594 = .ok (.invokestatic 105, 3) := by decide +kernel
theorem dL_law_597 : decode cL_law 597 = .ok (.if_icmp .gt 22, 3) := by decide +kernel
theorem dL_law_600 : decode cL_law 600 = .ok (.iload 8, 2) := by decide +kernel
theorem dL_law_602 : decode cL_law 602 = .ok (.aload_n 1, 1) := by decide +kernel
theorem dL_law_603 : decode cL_law 603 = .ok (.iload 4, 2) := by decide +kernel
theorem dL_law_605 : decode cL_law 605 = .ok (.iload 11, 2) := by decide +kernel
theorem dL_law_607 : decode cL_law 607 = .ok (.invokevirtual 108, 3) := by decide +kernel
theorem dL_law_610 : decode cL_law 610 = .ok (.iadd, 1) := by decide +kernel
theorem dL_law_611 : decode cL_law 611 = .ok (.istore 8, 2) := by decide +kernel
theorem dL_law_613 : decode cL_law 613 = .ok (.iinc 11 1, 3) := by decide +kernel
theorem dL_law_616 : decode cL_law 616 = .ok (.goto (-28), 3) := by decide +kernel
theorem dL_law_619 : decode cL_law 619 = .ok (.iconst 0, 1) := by decide +kernel
theorem dL_law_620 : decode cL_law 620 = .ok (.istore 11, 2) := by decide +kernel
theorem dL_law_622 : decode cL_law 622 = .ok (.iconst 0, 1) := by decide +kernel
theorem dL_law_623 : decode cL_law 623 = .ok (.istore 12, 2) := by decide +kernel
theorem dL_law_625 : decode cL_law 625 = .ok (.iload 12, 2) := by decide +kernel
theorem dL_law_627 : decode cL_law 627 = .ok (.iconst 2, 1) := by decide +kernel
theorem dL_law_628 : decode cL_law 628 = .ok (.if_icmp .ge 104, 3) := by decide +kernel
theorem dL_law_631 : decode cL_law 631 = .ok (.iconst 0, 1) := by decide +kernel
theorem dL_law_632 : decode cL_law 632 = .ok (.istore 13, 2) := by decide +kernel
theorem dL_law_634 : decode cL_law 634 = .ok (.iload 13, 2) := by decide +kernel
theorem dL_law_636 : decode cL_law 636 = .ok (.aload_n 1, 1) := by decide +kernel
theorem dL_law_637 : decode cL_law 637 = .ok (.iload 4, 2) := by decide +kernel
theorem dL_law_639 : decode cL_law 639 = .ok (.iload 12, 2) := by decide +kernel
theorem dL_law_641 : decode cL_law 641 = .ok (.iconst 1, 1) := by decide +kernel
theorem dL_law_642 : decode cL_law 642 = .ok (.if_icmp .ne 7, 3) := by decide +kernel
theorem dL_law_645 : decode cL_law 645 = .ok (.iconst 1, 1) := by decide +kernel
theorem dL_law_646 : decode cL_law 646 = .ok (.goto 4, 3) := by decide +kernel
theorem dL_law_649 : decode cL_law 649 = .ok (.iconst 0, 1) := by decide +kernel
theorem dL_law_650 : decode cL_law 650 = .ok (.invokevirtual 15, 3) := by decide +kernel
theorem dL_law_653 : decode cL_law 653 = .ok (.if_icmp .ge 73, 3) := by decide +kernel
theorem dL_law_656 : decode cL_law 656 = .ok (.iload 11, 2) := by decide +kernel
theorem dL_law_658 : decode cL_law 658 = .ok (.aload_n 1, 1) := by decide +kernel
theorem dL_law_659 : decode cL_law 659 = .ok (.iload 4, 2) := by decide +kernel
theorem dL_law_661 : decode cL_law 661 = .ok (.iload 12, 2) := by decide +kernel
theorem dL_law_663 : decode cL_law 663 = .ok (.iconst 1, 1) := by decide +kernel
theorem dL_law_664 : decode cL_law 664 = .ok (.if_icmp .ne 7, 3) := by decide +kernel
theorem dL_law_667 : decode cL_law 667 = .ok (.iconst 1, 1) := by decide +kernel
theorem dL_law_668 : decode cL_law 668 = .ok (.goto 4, 3) := by decide +kernel
theorem dL_law_671 : decode cL_law 671 = .ok (.iconst 0, 1) := by decide +kernel
theorem dL_law_672 : decode cL_law 672 = .ok (.iload 13, 2) := by decide +kernel
theorem dL_law_674 : decode cL_law 674 = .ok (.iconst 0, 1) := by decide +kernel
theorem dL_law_675 : decode cL_law 675 = .ok (.invokevirtual 34, 3) := by decide +kernel
theorem dL_law_678 : decode cL_law 678 = .ok (.iload 10, 2) := by decide +kernel
theorem dL_law_680 : decode cL_law 680 = .ok (.bipush 60, 2) := by decide +kernel
theorem dL_law_682 : decode cL_law 682 = .ok (.invokestatic 105, 3) := by decide +kernel
theorem dL_law_685 : decode cL_law 685 = .ok (.iconst 1, 1) := by decide +kernel
theorem dL_law_686 : decode cL_law 686 = .ok (.iadd, 1) := by decide +kernel
theorem dL_law_687 : decode cL_law 687 = .ok (.iload 9, 2) := by decide +kernel
theorem dL_law_689 : decode cL_law 689 = .ok (.imul, 1) := by decide +kernel
theorem dL_law_690 : decode cL_law 690 = .ok (.if_icmp .ge 26, 3) := by decide +kernel
theorem dL_law_693 : decode cL_law 693 = .ok (.aload_n 1, 1) := by decide +kernel
theorem dL_law_694 : decode cL_law 694 = .ok (.iload 4, 2) := by decide +kernel
theorem dL_law_696 : decode cL_law 696 = .ok (.iload 12, 2) := by decide +kernel
theorem dL_law_698 : decode cL_law 698 = .ok (.iconst 1, 1) := by decide +kernel
theorem dL_law_699 : decode cL_law 699 = .ok (.if_icmp .ne 7, 3) := by decide +kernel
theorem dL_law_702 : decode cL_law 702 = .ok (.iconst 1, 1) := by decide +kernel
theorem dL_law_703 : decode cL_law 703 = .ok (.goto 4, 3) := by decide +kernel
theorem dL_law_706 : decode cL_law 706 = .ok (.iconst 0, 1) := by decide +kernel
theorem dL_law_707 : decode cL_law 707 = .ok (.iload 13, 2) := by decide +kernel
theorem dL_law_709 : decode cL_law 709 = .ok (.iconst 1, 1) := by decide +kernel
theorem dL_law_710 : decode cL_law 710 = .ok (.invokevirtual 34, 3) := by decide +kernel
theorem dL_law_713 : decode cL_law 713 = .ok (.goto 4, 3) := by decide +kernel
theorem dL_law_716 : decode cL_law 716 = .ok (.iconst 0, 1) := by decide +kernel
theorem dL_law_717 : decode cL_law 717 = .ok (.iadd, 1) := by decide +kernel
theorem dL_law_718 : decode cL_law 718 = .ok (.istore 11, 2) := by decide +kernel
theorem dL_law_720 : decode cL_law 720 = .ok (.iinc 13 1, 3) := by decide +kernel
theorem dL_law_723 : decode cL_law 723 = .ok (.goto (-89), 3) := by decide +kernel
theorem dL_law_726 : decode cL_law 726 = .ok (.iinc 12 1, 3) := by decide +kernel
theorem dL_law_729 : decode cL_law 729 = .ok (.goto (-104), 3) := by decide +kernel
theorem dL_law_732 : decode cL_law 732 = .ok (.iconst 0, 1) := by decide +kernel
theorem dL_law_733 : decode cL_law 733 = .ok (.istore 12, 2) := by decide +kernel
theorem dL_law_735 : decode cL_law 735 = .ok (.iload 12, 2) := by decide +kernel
theorem dL_law_737 : decode cL_law 737 = .ok (.aload_n 1, 1) := by decide +kernel
theorem dL_law_738 : decode cL_law 738 = .ok (.iload 4, 2) := by decide +kernel
theorem dL_law_740 : decode cL_law 740 = .ok (.invokevirtual 9, 3) := by decide +kernel
theorem dL_law_743 : decode cL_law 743 = .ok (.if_icmp .ge 67, 3) := by decide +kernel
theorem dL_law_746 : decode cL_law 746 = .ok (.iconst 0, 1) := by decide +kernel
theorem dL_law_747 : decode cL_law 747 = .ok (.istore 13, 2) := by decide +kernel
theorem dL_law_749 : decode cL_law 749 = .ok (.iload 13, 2) := by decide +kernel
theorem dL_law_751 : decode cL_law 751 = .ok (.aload_n 1, 1) := by decide +kernel
theorem dL_law_752 : decode cL_law 752 = .ok (.iload 4, 2) := by decide +kernel
theorem dL_law_754 : decode cL_law 754 = .ok (.iload 12, 2) := by decide +kernel
theorem dL_law_756 : decode cL_law 756 = .ok (.invokevirtual 19, 3) := by decide +kernel
theorem dL_law_759 : decode cL_law 759 = .ok (.if_icmp .ge 45, 3) := by decide +kernel
theorem dL_law_762 : decode cL_law 762 = .ok (.iload 11, 2) := by decide +kernel
theorem dL_law_764 : decode cL_law 764 = .ok (.aload_n 1, 1) := by decide +kernel
theorem dL_law_765 : decode cL_law 765 = .ok (.iload 4, 2) := by decide +kernel
theorem dL_law_767 : decode cL_law 767 = .ok (.iload 12, 2) := by decide +kernel
theorem dL_law_769 : decode cL_law 769 = .ok (.iload 13, 2) := by decide +kernel
theorem dL_law_771 : decode cL_law 771 = .ok (.iconst 0, 1) := by decide +kernel
theorem dL_law_772 : decode cL_law 772 = .ok (.invokevirtual 26, 3) := by decide +kernel
theorem dL_law_775 : decode cL_law 775 = .ok (.iload 10, 2) := by decide +kernel
theorem dL_law_777 : decode cL_law 777 = .ok (.bipush 60, 2) := by decide +kernel
theorem dL_law_779 : decode cL_law 779 = .ok (.invokestatic 105, 3) := by decide +kernel
theorem dL_law_782 : decode cL_law 782 = .ok (.iconst 1, 1) := by decide +kernel
theorem dL_law_783 : decode cL_law 783 = .ok (.iadd, 1) := by decide +kernel
theorem dL_law_784 : decode cL_law 784 = .ok (.iload 9, 2) := by decide +kernel
theorem dL_law_786 : decode cL_law 786 = .ok (.imul, 1) := by decide +kernel
theorem dL_law_787 : decode cL_law 787 = .ok (.if_icmp .ge 7, 3) := by decide +kernel
theorem dL_law_790 : decode cL_law 790 = .ok (.iconst 1, 1) := by decide +kernel
theorem dL_law_791 : decode cL_law 791 = .ok (.goto 4, 3) := by decide +kernel
theorem dL_law_794 : decode cL_law 794 = .ok (.iconst 0, 1) := by decide +kernel
theorem dL_law_795 : decode cL_law 795 = .ok (.iadd, 1) := by decide +kernel
theorem dL_law_796 : decode cL_law 796 = .ok (.istore 11, 2) := by decide +kernel
theorem dL_law_798 : decode cL_law 798 = .ok (.iinc 13 1, 3) := by decide +kernel
theorem dL_law_801 : decode cL_law 801 = .ok (.goto (-52), 3) := by decide +kernel
theorem dL_law_804 : decode cL_law 804 = .ok (.iinc 12 1, 3) := by decide +kernel
theorem dL_law_807 : decode cL_law 807 = .ok (.goto (-72), 3) := by decide +kernel
theorem dL_law_810 : decode cL_law 810 = .ok (.aload_n 1, 1) := by decide +kernel
theorem dL_law_811 : decode cL_law 811 = .ok (.iconst 0, 1) := by decide +kernel
theorem dL_law_812 : decode cL_law 812 = .ok (.bipush 10, 2) := by decide +kernel
theorem dL_law_814 : decode cL_law 814 = .ok (.iconst 1, 1) := by decide +kernel
theorem dL_law_815 : decode cL_law 815 = .ok (.iconst 0, 1) := by decide +kernel
theorem dL_law_816 : decode cL_law 816 = .ok (.invokevirtual 101, 3) := by decide +kernel
theorem dL_law_819 : decode cL_law 819 = .ok (.pop, 1) := by decide +kernel
theorem dL_law_820 : decode cL_law 820 = .ok (.iload 8, 2) := by decide +kernel
theorem dL_law_822 : decode cL_law 822 = .ok (.iload 11, 2) := by decide +kernel
theorem dL_law_824 : decode cL_law 824 = .ok (.if_icmp .ne 39, 3) := by decide +kernel
theorem dL_law_827 : decode cL_law 827 = .ok (.aload_n 1, 1) := by decide +kernel
theorem dL_law_828 : decode cL_law 828 = .ok (.iload 4, 2) := by decide +kernel
theorem dL_law_830 : decode cL_law 830 = .ok (.aload_n 1, 1) := by decide +kernel
theorem dL_law_831 : decode cL_law 831 = .ok (.invokevirtual 30, 3) := by decide +kernel
theorem dL_law_834 : decode cL_law 834 = .ok (.invokevirtual 111, 3) := by decide +kernel
theorem dL_law_837 : decode cL_law 837 = .ok (.aload_n 1, 1) := by decide +kernel
theorem dL_law_838 : decode cL_law 838 = .ok (.invokevirtual 30, 3) := by decide +kernel
theorem dL_law_841 : decode cL_law 841 = .ok (.if_icmp .gt 22, 3) := by decide +kernel
theorem dL_law_844 : decode cL_law 844 = .ok (.aload_n 1, 1) := by decide +kernel
theorem dL_law_845 : decode cL_law 845 = .ok (.invokevirtual 97, 3) := by decide +kernel
theorem dL_law_848 : decode cL_law 848 = .ok (.lload 6, 2) := by decide +kernel
theorem dL_law_850 : decode cL_law 850 = .ok (.lcmp, 1) := by decide +kernel
theorem dL_law_851 : decode cL_law 851 = .ok (.ifCond .ne 12, 3) := by decide +kernel
theorem dL_law_854 : decode cL_law 854 = .ok (.aload_n 1, 1) := by decide +kernel
theorem dL_law_855 : decode cL_law 855 = .ok (.iload 4, 2) := by decide +kernel
theorem dL_law_857 : decode cL_law 857 = .ok (.invokestatic 114, 3) := by decide +kernel
theorem dL_law_860 : decode cL_law 860 = .ok (.ifCond .ne 5, 3) := by decide +kernel
theorem dL_law_863 : decode cL_law 863 = .ok (.iconst 0, 1) := by decide +kernel
theorem dL_law_864 : decode cL_law 864 = .ok (.ireturn, 1) := by decide +kernel
theorem dL_law_865 : decode cL_law 865 = .ok (.iinc 2 1, 3) := by decide +kernel
theorem dL_law_868 : decode cL_law 868 = .ok (.goto (-709), 3) := by decide +kernel
theorem dL_law_871 : decode cL_law 871 = .ok (.iconst 1, 1) := by decide +kernel
theorem dL_law_872 : decode cL_law 872 = .ok (.ireturn, 1) := by decide +kernel
abbrev vwCl : List vw_C := [(RJx4a65c, TJx4a65c, 3), (RX0, TX0, 2), (RX1, TX1, 3), (RX3, TX3, 6), (RX4, TX4, 7), (RX5, TX5, 9), (RX6, TX6, 5), (RX7, TX7, 5), (RX8, TX8, 5), (RX9, TX9, 9)]
