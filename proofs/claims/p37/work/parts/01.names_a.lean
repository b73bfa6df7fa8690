-- ===== PART A: goes FIRST, ahead of the names: the tables' words, and 'selects' of the private methods out of them =====
/-- a private method of a class that the tables say can be made, by its rows of tables_1 -/
def lw_okq (q : MethodName × Nat) : Prop := (q.1.cls ≠ "java/lang/invoke/MethodHandle" ∧ q.1.cls ≠ "java/lang/invoke/VarHandle") ∧ Cond.instantiable q.1.cls q.2 ∈ tables_1 ∧ Cond.privateMethod q.1 ∈ tables_1 ∧ Cond.instanceMethod q.1 ∈ tables_1
theorem lw_p0 : lw_okq (⟨"java/lang/Throwable", "fillInStackTrace", "(I)Ljava/lang/Throwable;"⟩, 6) := ⟨⟨by decide +kernel, by decide +kernel⟩, List.mem_of_getElem? (i := 239) (by decide +kernel), List.mem_of_getElem? (i := 237) (by decide +kernel), List.mem_of_getElem? (i := 238) (by decide +kernel)⟩
theorem lw_p1 : lw_okq (⟨"java/util/ArrayList", "add", "(Ljava/lang/Object;[Ljava/lang/Object;I)V"⟩, 3) := ⟨⟨by decide +kernel, by decide +kernel⟩, List.mem_of_getElem? (i := 73) (by decide +kernel), List.mem_of_getElem? (i := 377) (by decide +kernel), List.mem_of_getElem? (i := 378) (by decide +kernel)⟩
theorem lw_p2 : lw_okq (⟨"java/util/ArrayList", "grow", "()[Ljava/lang/Object;"⟩, 3) := ⟨⟨by decide +kernel, by decide +kernel⟩, List.mem_of_getElem? (i := 73) (by decide +kernel), List.mem_of_getElem? (i := 381) (by decide +kernel), List.mem_of_getElem? (i := 382) (by decide +kernel)⟩
theorem lw_p3 : lw_okq (⟨"java/util/ArrayList", "grow", "(I)[Ljava/lang/Object;"⟩, 3) := ⟨⟨by decide +kernel, by decide +kernel⟩, List.mem_of_getElem? (i := 73) (by decide +kernel), List.mem_of_getElem? (i := 385) (by decide +kernel), List.mem_of_getElem? (i := 386) (by decide +kernel)⟩
theorem lw_p4 : lw_okq (⟨"MeridianSeries", "chainAt", "(I)LMeridianSeries$Series;"⟩, 9) := ⟨⟨by decide +kernel, by decide +kernel⟩, List.mem_of_getElem? (i := 27) (by decide +kernel), List.mem_of_getElem? (i := 474) (by decide +kernel), List.mem_of_getElem? (i := 475) (by decide +kernel)⟩
theorem lw_p5 : lw_okq (⟨"MeridianSeries", "isTimeUpToNow", "(J)Z"⟩, 9) := ⟨⟨by decide +kernel, by decide +kernel⟩, List.mem_of_getElem? (i := 27) (by decide +kernel), List.mem_of_getElem? (i := 495) (by decide +kernel), List.mem_of_getElem? (i := 496) (by decide +kernel)⟩
theorem lw_p6 : lw_okq (⟨"MeridianSeries", "putOrCountLate", "(LMeridianSeries$Series;II)Z"⟩, 9) := ⟨⟨by decide +kernel, by decide +kernel⟩, List.mem_of_getElem? (i := 27) (by decide +kernel), List.mem_of_getElem? (i := 504) (by decide +kernel), List.mem_of_getElem? (i := 505) (by decide +kernel)⟩
theorem lw_p7 : lw_okq (⟨"MeridianSeries$Points", "copyPoint", "(II)V"⟩, 7) := ⟨⟨by decide +kernel, by decide +kernel⟩, List.mem_of_getElem? (i := 298) (by decide +kernel), List.mem_of_getElem? (i := 532) (by decide +kernel), List.mem_of_getElem? (i := 533) (by decide +kernel)⟩
theorem lw_p8 : lw_okq (⟨"MeridianSeries$Points", "write", "(III)V"⟩, 7) := ⟨⟨by decide +kernel, by decide +kernel⟩, List.mem_of_getElem? (i := 298) (by decide +kernel), List.mem_of_getElem? (i := 536) (by decide +kernel), List.mem_of_getElem? (i := 537) (by decide +kernel)⟩
theorem lw_p9 : lw_okq (⟨"MeridianSeries$Series", "rollUpFirstBlock", "(LMeridianSeries$Settings;)V"⟩, 5) := ⟨⟨by decide +kernel, by decide +kernel⟩, List.mem_of_getElem? (i := 292) (by decide +kernel), List.mem_of_getElem? (i := 553) (by decide +kernel), List.mem_of_getElem? (i := 554) (by decide +kernel)⟩
theorem lw_p10 : lw_okq (⟨"MeridianSeries$Buckets", "write", "(III)V"⟩, 2) := ⟨⟨by decide +kernel, by decide +kernel⟩, List.mem_of_getElem? (i := 341) (by decide +kernel), List.mem_of_getElem? (i := 578) (by decide +kernel), List.mem_of_getElem? (i := 579) (by decide +kernel)⟩
theorem lw_p11 : lw_okq (⟨"MeridianSeries$Series", "rollUpFirstFine", "(LMeridianSeries$Settings;)V"⟩, 5) := ⟨⟨by decide +kernel, by decide +kernel⟩, List.mem_of_getElem? (i := 292) (by decide +kernel), List.mem_of_getElem? (i := 588) (by decide +kernel), List.mem_of_getElem? (i := 589) (by decide +kernel)⟩
theorem lw_p12 : lw_okq (⟨"MeridianSeries", "canGoOn", "(I)Z"⟩, 9) := ⟨⟨by decide +kernel, by decide +kernel⟩, List.mem_of_getElem? (i := 27) (by decide +kernel), List.mem_of_getElem? (i := 607) (by decide +kernel), List.mem_of_getElem? (i := 608) (by decide +kernel)⟩
theorem lw_p13 : lw_okq (⟨"MeridianSeries$Series", "fineEndingBy", "(II)I"⟩, 5) := ⟨⟨by decide +kernel, by decide +kernel⟩, List.mem_of_getElem? (i := 292) (by decide +kernel), List.mem_of_getElem? (i := 623) (by decide +kernel), List.mem_of_getElem? (i := 624) (by decide +kernel)⟩
theorem lw_p14 : lw_okq (⟨"MeridianSeries$Series", "toldOfGap", "(III)I"⟩, 5) := ⟨⟨by decide +kernel, by decide +kernel⟩, List.mem_of_getElem? (i := 292) (by decide +kernel), List.mem_of_getElem? (i := 652) (by decide +kernel), List.mem_of_getElem? (i := 653) (by decide +kernel)⟩
theorem lw_p15 : lw_okq (⟨"MeridianSeries$Series", "onLine", "(III)I"⟩, 5) := ⟨⟨by decide +kernel, by decide +kernel⟩, List.mem_of_getElem? (i := 292) (by decide +kernel), List.mem_of_getElem? (i := 657) (by decide +kernel), List.mem_of_getElem? (i := 658) (by decide +kernel)⟩
def lw_privs_1 : List (MethodName × Nat) := [(⟨"java/lang/Throwable", "fillInStackTrace", "(I)Ljava/lang/Throwable;"⟩, 6), (⟨"java/util/ArrayList", "add", "(Ljava/lang/Object;[Ljava/lang/Object;I)V"⟩, 3), (⟨"java/util/ArrayList", "grow", "()[Ljava/lang/Object;"⟩, 3), (⟨"java/util/ArrayList", "grow", "(I)[Ljava/lang/Object;"⟩, 3), (⟨"MeridianSeries", "chainAt", "(I)LMeridianSeries$Series;"⟩, 9), (⟨"MeridianSeries", "isTimeUpToNow", "(J)Z"⟩, 9), (⟨"MeridianSeries", "putOrCountLate", "(LMeridianSeries$Series;II)Z"⟩, 9), (⟨"MeridianSeries$Points", "copyPoint", "(II)V"⟩, 7), (⟨"MeridianSeries$Points", "write", "(III)V"⟩, 7), (⟨"MeridianSeries$Series", "rollUpFirstBlock", "(LMeridianSeries$Settings;)V"⟩, 5), (⟨"MeridianSeries$Buckets", "write", "(III)V"⟩, 2), (⟨"MeridianSeries$Series", "rollUpFirstFine", "(LMeridianSeries$Settings;)V"⟩, 5), (⟨"MeridianSeries", "canGoOn", "(I)Z"⟩, 9), (⟨"MeridianSeries$Series", "fineEndingBy", "(II)I"⟩, 5), (⟨"MeridianSeries$Series", "toldOfGap", "(III)I"⟩, 5), (⟨"MeridianSeries$Series", "onLine", "(III)I"⟩, 5)]
theorem lw_r1 : ∀ q ∈ lw_privs_1, lw_okq q := List.forall_mem_cons.mpr ⟨lw_p0, List.forall_mem_cons.mpr ⟨lw_p1, List.forall_mem_cons.mpr ⟨lw_p2, List.forall_mem_cons.mpr ⟨lw_p3, List.forall_mem_cons.mpr ⟨lw_p4, List.forall_mem_cons.mpr ⟨lw_p5, List.forall_mem_cons.mpr ⟨lw_p6, List.forall_mem_cons.mpr ⟨lw_p7, List.forall_mem_cons.mpr ⟨lw_p8, List.forall_mem_cons.mpr ⟨lw_p9, List.forall_mem_cons.mpr ⟨lw_p10, List.forall_mem_cons.mpr ⟨lw_p11, List.forall_mem_cons.mpr ⟨lw_p12, List.forall_mem_cons.mpr ⟨lw_p13, List.forall_mem_cons.mpr ⟨lw_p14, List.forall_mem_cons.mpr ⟨lw_p15, fun _ h => absurd h List.not_mem_nil⟩⟩⟩⟩⟩⟩⟩⟩⟩⟩⟩⟩⟩⟩⟩⟩
theorem lw_p16 : lw_okq (⟨"MeridianSeries$Series", "total", "(III)I"⟩, 5) := ⟨⟨by decide +kernel, by decide +kernel⟩, List.mem_of_getElem? (i := 292) (by decide +kernel), List.mem_of_getElem? (i := 661) (by decide +kernel), List.mem_of_getElem? (i := 662) (by decide +kernel)⟩
theorem lw_p17 : lw_okq (⟨"MeridianSeries$Series", "least", "(II)I"⟩, 5) := ⟨⟨by decide +kernel, by decide +kernel⟩, List.mem_of_getElem? (i := 292) (by decide +kernel), List.mem_of_getElem? (i := 665) (by decide +kernel), List.mem_of_getElem? (i := 666) (by decide +kernel)⟩
theorem lw_p18 : lw_okq (⟨"MeridianSeries$Series", "greatest", "(II)I"⟩, 5) := ⟨⟨by decide +kernel, by decide +kernel⟩, List.mem_of_getElem? (i := 292) (by decide +kernel), List.mem_of_getElem? (i := 670) (by decide +kernel), List.mem_of_getElem? (i := 671) (by decide +kernel)⟩
theorem lw_p19 : lw_okq (⟨"MeridianSeries$Rule", "ceases", "(Z)Z"⟩, 9) := ⟨⟨by decide +kernel, by decide +kernel⟩, List.mem_of_getElem? (i := 685) (by decide +kernel), List.mem_of_getElem? (i := 683) (by decide +kernel), List.mem_of_getElem? (i := 684) (by decide +kernel)⟩
theorem lw_p20 : lw_okq (⟨"MeridianSeries$Rule", "become", "(I)V"⟩, 9) := ⟨⟨by decide +kernel, by decide +kernel⟩, List.mem_of_getElem? (i := 685) (by decide +kernel), List.mem_of_getElem? (i := 688) (by decide +kernel), List.mem_of_getElem? (i := 689) (by decide +kernel)⟩
theorem lw_p21 : lw_okq (⟨"MeridianSeries$Rule", "begins", "(Z)Z"⟩, 9) := ⟨⟨by decide +kernel, by decide +kernel⟩, List.mem_of_getElem? (i := 685) (by decide +kernel), List.mem_of_getElem? (i := 692) (by decide +kernel), List.mem_of_getElem? (i := 693) (by decide +kernel)⟩
theorem lw_p22 : lw_okq (⟨"MeridianSeries$Packer", "begin", "(I)V"⟩, 6) := ⟨⟨by decide +kernel, by decide +kernel⟩, List.mem_of_getElem? (i := 138) (by decide +kernel), List.mem_of_getElem? (i := 744) (by decide +kernel), List.mem_of_getElem? (i := 745) (by decide +kernel)⟩
theorem lw_p23 : lw_okq (⟨"MeridianSeries$Packer", "write", "(II)V"⟩, 6) := ⟨⟨by decide +kernel, by decide +kernel⟩, List.mem_of_getElem? (i := 138) (by decide +kernel), List.mem_of_getElem? (i := 751) (by decide +kernel), List.mem_of_getElem? (i := 752) (by decide +kernel)⟩
theorem lw_p24 : lw_okq (⟨"MeridianSeries$Packer", "add", "(II)V"⟩, 6) := ⟨⟨by decide +kernel, by decide +kernel⟩, List.mem_of_getElem? (i := 138) (by decide +kernel), List.mem_of_getElem? (i := 756) (by decide +kernel), List.mem_of_getElem? (i := 757) (by decide +kernel)⟩
theorem lw_p25 : lw_okq (⟨"MeridianSeries$Packer", "addTime", "(I)V"⟩, 6) := ⟨⟨by decide +kernel, by decide +kernel⟩, List.mem_of_getElem? (i := 138) (by decide +kernel), List.mem_of_getElem? (i := 761) (by decide +kernel), List.mem_of_getElem? (i := 762) (by decide +kernel)⟩
theorem lw_p26 : lw_okq (⟨"MeridianSeries$Packer", "addValue", "(I)V"⟩, 6) := ⟨⟨by decide +kernel, by decide +kernel⟩, List.mem_of_getElem? (i := 138) (by decide +kernel), List.mem_of_getElem? (i := 766) (by decide +kernel), List.mem_of_getElem? (i := 767) (by decide +kernel)⟩
theorem lw_p27 : lw_okq (⟨"MeridianSeries", "toldByQuery", "(LMeridianSeries$Series;I)I"⟩, 9) := ⟨⟨by decide +kernel, by decide +kernel⟩, List.mem_of_getElem? (i := 27) (by decide +kernel), List.mem_of_getElem? (i := 788) (by decide +kernel), List.mem_of_getElem? (i := 789) (by decide +kernel)⟩
theorem lw_p28 : lw_okq (⟨"MeridianSeries", "withBlocks", "(JLMeridianSeries$Points;)J"⟩, 9) := ⟨⟨by decide +kernel, by decide +kernel⟩, List.mem_of_getElem? (i := 27) (by decide +kernel), List.mem_of_getElem? (i := 899) (by decide +kernel), List.mem_of_getElem? (i := 900) (by decide +kernel)⟩
theorem lw_p29 : lw_okq (⟨"MeridianSeries", "withWindows", "(JLMeridianSeries$Series;)J"⟩, 9) := ⟨⟨by decide +kernel, by decide +kernel⟩, List.mem_of_getElem? (i := 27) (by decide +kernel), List.mem_of_getElem? (i := 906) (by decide +kernel), List.mem_of_getElem? (i := 907) (by decide +kernel)⟩
def lw_privs_2 : List (MethodName × Nat) := [(⟨"MeridianSeries$Series", "total", "(III)I"⟩, 5), (⟨"MeridianSeries$Series", "least", "(II)I"⟩, 5), (⟨"MeridianSeries$Series", "greatest", "(II)I"⟩, 5), (⟨"MeridianSeries$Rule", "ceases", "(Z)Z"⟩, 9), (⟨"MeridianSeries$Rule", "become", "(I)V"⟩, 9), (⟨"MeridianSeries$Rule", "begins", "(Z)Z"⟩, 9), (⟨"MeridianSeries$Packer", "begin", "(I)V"⟩, 6), (⟨"MeridianSeries$Packer", "write", "(II)V"⟩, 6), (⟨"MeridianSeries$Packer", "add", "(II)V"⟩, 6), (⟨"MeridianSeries$Packer", "addTime", "(I)V"⟩, 6), (⟨"MeridianSeries$Packer", "addValue", "(I)V"⟩, 6), (⟨"MeridianSeries", "toldByQuery", "(LMeridianSeries$Series;I)I"⟩, 9), (⟨"MeridianSeries", "withBlocks", "(JLMeridianSeries$Points;)J"⟩, 9), (⟨"MeridianSeries", "withWindows", "(JLMeridianSeries$Series;)J"⟩, 9)]
theorem lw_r2 : ∀ q ∈ lw_privs_2, lw_okq q := List.forall_mem_cons.mpr ⟨lw_p16, List.forall_mem_cons.mpr ⟨lw_p17, List.forall_mem_cons.mpr ⟨lw_p18, List.forall_mem_cons.mpr ⟨lw_p19, List.forall_mem_cons.mpr ⟨lw_p20, List.forall_mem_cons.mpr ⟨lw_p21, List.forall_mem_cons.mpr ⟨lw_p22, List.forall_mem_cons.mpr ⟨lw_p23, List.forall_mem_cons.mpr ⟨lw_p24, List.forall_mem_cons.mpr ⟨lw_p25, List.forall_mem_cons.mpr ⟨lw_p26, List.forall_mem_cons.mpr ⟨lw_p27, List.forall_mem_cons.mpr ⟨lw_p28, List.forall_mem_cons.mpr ⟨lw_p29, fun _ h => absurd h List.not_mem_nil⟩⟩⟩⟩⟩⟩⟩⟩⟩⟩⟩⟩⟩⟩
def lw_privs : List (MethodName × Nat) := lw_privs_1 ++ (lw_privs_2)
def lw_tbl : List Cond := k2_sels lw_privs ++ tables_1
theorem lw_privs_ok : ∀ q ∈ lw_privs, lw_okq q := by
  show ∀ q ∈ lw_privs_1 ++ (lw_privs_2), lw_okq q
  exact List.forall_mem_append.mpr ⟨lw_r1, lw_r2⟩

/-! ===== BEGIN words of one list among another's, by their places ===== -/
theorem goodIn_r {big : List Cond} (ws : List Cond) (ps : List Nat) (hp : ws = ps.filterMap (fun i => big[i]?)) (h : ws.all goodWord = true) : GoodIn big ws := by
  intro w hw
  have h1 := List.all_eq_true.mp h w hw
  rw [hp] at hw
  obtain ⟨i, -, hi⟩ := List.mem_filterMap.mp hw
  have hm : w ∈ big := by first | exact List.mem_of_getElem? hi | exact List.getElem?_mem hi
  exact ⟨hm, good_of_word h1⟩
theorem goodIn_app {big a b : List Cond} (ha : GoodIn big a) (hb : GoodIn big b) : GoodIn big (a ++ b) := fun w h => (List.mem_append.mp h).elim (ha w) (hb w)
theorem goodIn_ca {big a b : List Cond} {c : Cond} (ha : GoodIn big (c :: a)) (hb : GoodIn big b) : GoodIn big (c :: (a ++ b)) := fun w h => (List.mem_cons.mp h).elim (fun e => ha w (List.mem_cons.mpr (Or.inl e))) (fun h => (List.mem_append.mp h).elim (fun h => ha w (List.mem_cons.mpr (Or.inr h))) (hb w))
theorem goodIn_sub {big ws : List Cond} (hm : ∀ w ∈ ws, w ∈ big) (h : ws.all goodWord = true) : GoodIn big ws := fun w hw => ⟨hm w hw, good_of_word (List.all_eq_true.mp h w hw)⟩
/-! ===== END ===== -/

/-! ===== BEGIN exceptions that leave a method, and their catching by the caller (launches without stack traces) ===== -/
section VXA
/-! The laws vx_back, vx_callV, vx_callS, vx_callSW, vx_throw0, vx_throwS follow proofs of the library, with one case more: JvmDerived/Free/Laws.lean (Back.of_free), Shelf42/LK1.lean (callV, callS), Shelf/KitTraced.lean (throwNew0V, throwNewS). -/
/-- where a method has thrown q: the class by its name, the cell, what was written, the world -/
def vx_T (XC : String → State → State → Prop) (st : State) (q : Addr) (t : State) (mc ms : Nat) (free : Addr → Prop) : Prop :=
  ∃ (E : String) (ce : Cell) (L : List Loc), XC E st t ∧ t.heap[q]? = some ce ∧ ce.vm = .none ∧ st.vm.findClass E = some ce.cls ∧ st.WarmedH t.vm ∧ st.sameButNew ({ t with vm := st.vm } : State) L mc ms ∧ ∀ z ∈ L, free z.base
def vx_Q (Qc : Array Value → State → Outcome → State → Prop) (XC : String → State → State → Prop) (mc ms : Nat) (free : Addr → Prop) : Array Value → State → Outcome → State → Prop := fun a st o t =>
  (Qc a st o t ∧ ∃ L, FrameEnd st o t L mc ms ∧ ∀ q ∈ L, free q.base) ∨ ∃ q, o = .threw q ∧ vx_T XC st q t mc ms free
/-- a callee that returns or throws -/
def vx_Met (l : Launch) (y : MethodName) (ws : List Cond) (rm : Room) (Pc : Array Value → State → Prop) (Qc : Array Value → State → Outcome → State → Prop) (XC : String → State → State → Prop) (mc ms : Nat) (free : Addr → Prop) : Prop :=
  MetFree l y (headSpec ws rm) Pc (fun _ _ _ _ _ => True) (vx_Q Qc XC mc ms free)
def vx_Post (XC : String → State → State → Prop) (mc ms : Nat) (free : Addr → Prop) : Pt → Array Value → Addr → Pt → Prop := fun A a q B =>
  ∃ (g : JFrame) (mk : MethodId) (t : State) (L : List Loc) (E : String) (ce : Cell), B.U.heap = t.heap ∧ B.U.vm = t.vm ∧ XC E (A.U.calling g mk a) t ∧ t.heap[q]? = some ce ∧ ce.vm = .none ∧ A.U.vm.findClass E = some ce.cls ∧ B.locs = A.locs ++ L ∧ (∀ z ∈ L, free z.base) ∧ B.cells = A.cells + mc ∧ B.slots = A.slots + ms
def vx_Back (l : Launch) (R : Room) (p : Program) (e : Env) (below : List Frame) (s : State) (sargs : Array Value) (y : MethodName) (len W9 : Nat)
    (Pre : Pt → Array Value → Prop) (Post : Pt → Array Value → Option Value → Pt → Prop) (PostX : Pt → Array Value → Addr → Pt → Prop) : Prop :=
  ∀ (m : MethodId) (meth : Method) (c : Code) (A : Pt) (g : JFrame) (ig : Instr) (mk : MethodId) (a : Array Value),
    Stand p l e R s m sargs below meth c A.U A.locs A.cells A.slots → g.method = m → g.locals.size = c.maxLocals → decode c.code g.pc = .ok (ig, len) →
    2 * g.monitorRoom + (g.stack.map fun v => v.category).sum ≤ W9 → A.U.methodNamed? y = some mk → Pre A a →
    (∃ (v : Option Value) (B : Pt), Stand p l e R s m sargs below meth c B.U B.locs B.cells B.slots ∧ Post A a v B ∧
      Steps p.tables e below (doInvoke e (A.U.setTop g) [] mk a).1 (B.U.setTop { g with pc := g.pc + len, stack := v.toList ++ g.stack })) ∨
    (∃ (q : Addr) (B : Pt), Stand p l e R s m sargs below meth c B.U B.locs B.cells B.slots ∧ PostX A a q B ∧
      Steps p.tables e below (doInvoke e (A.U.setTop g) [] mk a).1 ((B.U.setTop g).pushFrame (.throwing q)))
section Payer
variable {l : Launch} {R : Room} {p : Program} {e : Env} {below : List Frame} {s : State} {sargs : Array Value} {y : MethodName} {len W9 : Nat}
theorem vx_back {ws : List Cond} {rm : Room} {Pc : Array Value → State → Prop} {Qc : Array Value → State → Outcome → State → Prop} {XC : String → State → State → Prop} {mc ms : Nat} {free : Addr → Prop} {bytes : ByteArray} {maxL : Nat} {ret : Option FieldType}
    (hM : vx_Met l y ws rm Pc Qc XC mc ms free) (hblind : FrameBlind Pc) (hrc : rm.cells = mc) (hrs : rm.slots = ms)
    (hframes : rm.frames + 1 ≤ R.frames) (hlocals : W9 + (maxL + 11) + rm.locals ≤ R.locals)
    (hws : ∀ w ∈ ws, ∀ a' U, s.WarmedH U.vm → w.before a' U = true) (hcode : Cond.code y bytes maxL ret ∈ ws) (hinit : ∀ a' U, s.WarmedH U.vm → (Cond.initialized y.cls).before a' U = true) :
    vx_Back l R p e below s sargs y len W9 (PreOf R mc ms Pc) (PostOf Qc mc ms free) (vx_Post XC mc ms free) := by
  intro m meth c A g ig mk a X hg hsize hdg hW hn hp
  have h1 : (headSpec ws rm).pre.before a A.U = true := atoms_intro fun w hw => hws w hw _ _ X.warmed
  have h2 : (Cond.code y bytes maxL ret).before a A.U = true := hws _ hcode _ _ X.warmed
  have h3 : (Cond.initialized y.cls).before a A.U = true := hinit _ _ X.warmed
  have h4 : A.cells + (headSpec ws rm).room.cells ≤ R.cells := by rw [show (headSpec ws rm).room.cells = mc from hrc]; exact hp.1
  have h5 : A.slots + (headSpec ws rm).room.slots ≤ R.slots := by rw [show (headSpec ws rm).room.slots = ms from hrs]; exact hp.2.1
  have hPc : Pc a (A.U.calling g mk a) := hblind _ _ _ _ hp.2.2
  obtain ⟨U, Ls, c0, s0⟩ := A
  dsimp only [Pt.U, Pt.locs, Pt.cells, Pt.slots] at h1 h2 h3 h4 h5 X hn hPc ⊢
  obtain ⟨methY, cY, hmY, hcY, -, hlY, -, -, -, -⟩ := Cond.code_spec hn h2
  obtain ⟨kY, hkY, -⟩ := className_of_methodNamed hn
  have hinitY : kY.init = .initialized := Cond.initialized_spec (findClass_of_methodNamed hn) hkY h3
  have h : At U g.method c below := by rw [hg]; exact X.here
  have hlocals9 : W9 + (maxL + 11) + (headSpec ws rm).room.locals ≤ R.locals := hlocals
  have happ : (headSpec ws rm).appliesLoose y e.platform (U.calling g mk a) = true :=
    Spec.appliesLoose_calling (g := g) h hdg hn hkY hinitY
      (X.room_calling (g := g) (R' := (headSpec ws rm).room) hsize hmY hcY hframes (by rw [hlY]; omega) h4 h5) h1
  obtain ⟨mid, hmid⟩ := h.above
  have hfr : (U.setTop g).frames = (.java g :: mid) ++ below := by rw [State.frames_setTop' g h.top, hmid]; rfl
  obtain ⟨o, s₂, hsteps, -, hend, hq⟩ := Steps.callFree hM p X.admits X.cas X.clock (acts := []) hfr happ hPc trivial
  have hq' : vx_Q Qc XC mc ms free a (U.calling g mk a) o s₂ := hq
  rw [State.frames_setTop' g h.top] at hend
  obtain ⟨g₀, hg0⟩ := Option.isSome_iff_exists.mp h.top
  obtain ⟨r, hr⟩ := State.topJava?_eq_some.mp hg0
  have hr' : (({ U with heap := s₂.heap, slotsUsed := s₂.slotsUsed } : State).setVm s₂.vm).frames = .java g₀ :: r := hr
  rcases hq' with ⟨hqc, L, hfe, hL⟩ | ⟨q, rfl, E, ce, L, hx, hce, hcv, hcl, hW₂, hsm, hL⟩
  · obtain ⟨⟨v, rfl⟩, hW₂, e2, q2, q3, q4, q5, q6⟩ := id hfe
    have e3 : s₂ = ({ (U.calling g mk a).setFrames s₂.frames with heap := s₂.heap, slotsUsed := s₂.slotsUsed } : State).setVm s₂.vm := by
      have : s₂ = ({ s₂ with vm := (U.calling g mk a).vm } : State).setVm s₂.vm := rfl
      rw [e2] at this
      exact this
    obtain ⟨c₂, i₂, len₂, hc₂, hd₂, hf₂⟩ := hend
    have hW' : U.WarmedH s₂.vm := hW₂
    have hcc : c₂ = c := by
      have h1 : s₂.code? g.method = U.code? g.method := by
        rw [State.code?_eq, State.code?_eq, hW'.alike.method?]
      exact Option.some.inj (hc₂.symm.trans (h1.trans h.code))
    subst hcc
    have hlen : len₂ = len := by rw [hdg] at hd₂; cases hd₂; rfl
    subst hlen
    have hs₂ : s₂ = (({ U with heap := s₂.heap, slotsUsed := s₂.slotsUsed } : State).setVm s₂.vm).setTop { g with pc := g.pc + len₂, stack := v.toList ++ g.stack } := by
      refine e3.trans ?_
      rw [hf₂, State.calling_eq h.top, State.setFrames_setFrames, State.setTop_of_frames _ hr', hr]
      rfl
    have hsame : U.sameButNew ({ U with heap := s₂.heap, slotsUsed := s₂.slotsUsed } : State) L mc ms := by
      refine ⟨?_, q2, q3, q4, q5, q6⟩
      obtain ⟨t, ht, -⟩ := State.frames_cons hr
      show ({ U with heap := s₂.heap, slotsUsed := s₂.slotsUsed } : State) = { U.setFrames U.frames with heap := s₂.heap, slotsUsed := s₂.slotsUsed }
      rw [State.setFrames_self ht]
    subst hg
    refine Or.inl ⟨v, ⟨(({ U with heap := s₂.heap, slotsUsed := s₂.slotsUsed } : State).setVm s₂.vm), Ls ++ L, c0 + mc, s0 + ms⟩,
      ⟨X.admits, X.cas, X.clock, X.frames, X.room, X.hears, X.method, X.code, (X.here.setHeapUsed s₂.heap s₂.slotsUsed).setVm hW'.alike, X.tail, State.WarmedH.trans X.warmed hW', X.limits, X.bytes, X.same.trans (hsame.setVm s.vm)⟩,
      ⟨g, mk, s₂, L, rfl, rfl, hqc, rfl, hL, rfl, rfl⟩, ?_⟩
    show Steps p.tables e below _ ((({ U with heap := s₂.heap, slotsUsed := s₂.slotsUsed } : State).setVm s₂.vm).setTop { g with pc := g.pc + len₂, stack := v.toList ++ g.stack })
    rw [← hs₂]
    exact hsteps
  · obtain ⟨e2, q2, q3, q4, q5, q6⟩ := id hsm
    have e3 : s₂ = ({ (U.calling g mk a).setFrames s₂.frames with heap := s₂.heap, slotsUsed := s₂.slotsUsed } : State).setVm s₂.vm := by
      have : s₂ = ({ s₂ with vm := (U.calling g mk a).vm } : State).setVm s₂.vm := rfl
      rw [e2] at this
      exact this
    have hf₂ : s₂.frames = .throwing q :: .java g :: U.frames.tail := hend
    have hW' : U.WarmedH s₂.vm := hW₂
    have hs₂ : s₂ = ((({ U with heap := s₂.heap, slotsUsed := s₂.slotsUsed } : State).setVm s₂.vm).setTop g).pushFrame (.throwing q) := by
      refine e3.trans ?_
      rw [hf₂, State.calling_eq h.top, State.setFrames_setFrames, State.pushFrame, State.frames_setTop _ hr', State.setTop_of_frames _ hr', State.setFrames_setFrames, hr]
      rfl
    have hsame : U.sameButNew ({ U with heap := s₂.heap, slotsUsed := s₂.slotsUsed } : State) L mc ms := by
      refine ⟨?_, q2, q3, q4, q5, q6⟩
      obtain ⟨t, ht, -⟩ := State.frames_cons hr
      show ({ U with heap := s₂.heap, slotsUsed := s₂.slotsUsed } : State) = { U.setFrames U.frames with heap := s₂.heap, slotsUsed := s₂.slotsUsed }
      rw [State.setFrames_self ht]
    subst hg
    refine Or.inr ⟨q, ⟨(({ U with heap := s₂.heap, slotsUsed := s₂.slotsUsed } : State).setVm s₂.vm), Ls ++ L, c0 + mc, s0 + ms⟩,
      ⟨X.admits, X.cas, X.clock, X.frames, X.room, X.hears, X.method, X.code, (X.here.setHeapUsed s₂.heap s₂.slotsUsed).setVm hW'.alike, X.tail, State.WarmedH.trans X.warmed hW', X.limits, X.bytes, X.same.trans (hsame.setVm s.vm)⟩,
      ⟨g, mk, s₂, L, E, ce, rfl, rfl, hx, hce, hcv, hcl, rfl, hL, rfl, rfl⟩, ?_⟩
    show Steps p.tables e below _ (((({ U with heap := s₂.heap, slotsUsed := s₂.slotsUsed } : State).setVm s₂.vm).setTop g).pushFrame (.throwing q))
    rw [← hs₂]
    exact hsteps
end Payer
section Calls
variable {p : Program} {l : Launch} {e : Env} {R : Room} {s : State} {m : MethodId} {args : Array Value} {below : List Frame} {meth : Method} {c : Code} {T : State} {locs : List Loc} {cells slots : Nat}
theorem vx_callV (X : Stand p l e R s m args below meth c T locs cells slots) (hexec : p.tables.exec = Jvm.exec) {own C : String} {index : Nat} {y : MethodName} {bytes : ByteArray} {maxL : Nat} {ret : Option FieldType}
    (hown : s.vm.findClass own = some m.cls) (hlink : (Cond.methodLink own index y).before args s = true) (hinst : (Cond.instanceMethod y).before args s = true) (hsel : (Cond.selects C y y).before args s = true)
    (hcode : (Cond.code y bytes maxL ret).before args s = true) (hy : y.cls ≠ "java/lang/invoke/MethodHandle" ∧ y.cls ≠ "java/lang/invoke/VarHandle")
    {W9 : Nat} {Pre : Pt → Array Value → Prop} {Post : Pt → Array Value → Option Value → Pt → Prop} {PostX : Pt → Array Value → Addr → Pt → Prop} (hK : vx_Back l R p e below s args y 3 W9 Pre Post PostX)
    {b : Addr} {cellB : Cell} (hcell : T.heap[b]? = some cellB) (hobj : cellB.vm.isStatics = false) (hcls : s.vm.findClass C = some cellB.cls)
    {g : JFrame} (hg : g.method = m) (hsize : g.locals.size = c.maxLocals) {argsL rest : List Value} (hlen : ∀ sig, parseMethodDescriptor y.desc = some sig → argsL.length = sig.parameters.length)
    (hstack : g.stack = argsL.reverse ++ .ref b :: rest) (hW : 2 * g.monitorRoom + (rest.map fun v => v.category).sum ≤ W9) (hdg : decode c.code g.pc = .ok (.invokevirtual index, 3))
    (hpre : ∀ vm₁, s.WarmedH vm₁ → Pre ⟨T.setVm vm₁, locs, cells, slots⟩ (Value.ref b :: argsL).toArray) :
    (∃ (v : Option Value) (vm₁ : Vm) (B : Pt), s.WarmedH vm₁ ∧ Stand p l e R s m args below meth c B.U B.locs B.cells B.slots ∧ Post ⟨T.setVm vm₁, locs, cells, slots⟩ (Value.ref b :: argsL).toArray v B ∧
      ∀ target, Steps p.tables e below (B.U.setTop { g with pc := g.pc + 3, stack := v.toList ++ rest }) target → Steps p.tables e below (T.setTop g) target) ∨
    (∃ (q : Addr) (vm₁ : Vm) (B : Pt), s.WarmedH vm₁ ∧ Stand p l e R s m args below meth c B.U B.locs B.cells B.slots ∧ PostX ⟨T.setVm vm₁, locs, cells, slots⟩ (Value.ref b :: argsL).toArray q B ∧
      Steps p.tables e below (T.setTop g) ((B.U.setTop { g with stack := rest }).pushFrame (.throwing q))) := by
  obtain ⟨mk, methM, hnamed, hmethM, hstM, habM⟩ := Cond.instanceMethod_spec hinst
  obtain ⟨methM', cM, hmethM', -, -, -, -, -, -, hsigM⟩ := Cond.code_spec hnamed hcode
  cases hmethM.symm.trans hmethM'
  obtain ⟨c2, r2, m2, q1, q2, q3, q4, kP, hkP, hkPi⟩ := Cond.selects_spec hsel
  cases hcls.symm.trans q1
  cases (State.methodFound?_of_named hnamed hy).symm.trans q2
  cases hnamed.symm.trans q3
  have hselP : selectMethod e.platform s.vm cellB.cls mk = .method mk := by rw [Launch.admits_selectMethod X.admits]; exact q4
  obtain ⟨vm₁, X₁, hstep₁⟩ := X.invokevirtual hexec hown hlink hnamed hmethM hstM hkP hkPi hy (a := b) (cell := cellB) hcell
    (fun z h => by rw [h] at hobj; cases hobj) hselP hmethM habM hkP hkPi (g := g) hg (argsL := argsL) (rest := rest) (hlen _ hsigM) hstack hdg
  rcases hK m meth c ⟨T.setVm vm₁, locs, cells, slots⟩ { g with stack := rest } (.invokevirtual index) mk (Value.ref b :: argsL).toArray X₁ hg hsize hdg hW (X₁.named hnamed) (hpre vm₁ X₁.warmed) with ⟨v, B, X', hpost, hsteps⟩ | ⟨q, B, X', hpost, hsteps⟩
  · exact Or.inl ⟨v, vm₁, B, X₁.warmed, X', hpost, fun target h => hstep₁ _ fun acts => by rw [doInvoke_state]; exact hsteps.trans h⟩
  · exact Or.inr ⟨q, vm₁, B, X₁.warmed, X', hpost, hstep₁ _ fun acts => by rw [doInvoke_state]; exact hsteps⟩
theorem vx_callS (X : Stand p l e R s m args below meth c T locs cells slots) (hexec : p.tables.exec = Jvm.exec) {own : String} {index : Nat} {y : MethodName} {bytes : ByteArray} {maxL : Nat} {ret : Option FieldType}
    (hown : s.vm.findClass own = some m.cls) (hlink : (Cond.methodLink own index y).before args s = true) (hstat : (Cond.static y).before args s = true) (hinit : (Cond.initialized y.cls).before args s = true)
    (hcode : (Cond.code y bytes maxL ret).before args s = true) (hy : y.cls ≠ "java/lang/invoke/MethodHandle" ∧ y.cls ≠ "java/lang/invoke/VarHandle")
    {W9 : Nat} {Pre : Pt → Array Value → Prop} {Post : Pt → Array Value → Option Value → Pt → Prop} {PostX : Pt → Array Value → Addr → Pt → Prop} (hK : vx_Back l R p e below s args y 3 W9 Pre Post PostX)
    {g : JFrame} (hg : g.method = m) (hsize : g.locals.size = c.maxLocals) {argsL rest : List Value} (hlen : ∀ sig, parseMethodDescriptor y.desc = some sig → argsL.length = sig.parameters.length)
    (hstack : g.stack = argsL.reverse ++ rest) (hW : 2 * g.monitorRoom + (rest.map fun v => v.category).sum ≤ W9) (hdg : decode c.code g.pc = .ok (.invokestatic index, 3))
    (hpre : ∀ vm₁, s.WarmedH vm₁ → Pre ⟨T.setVm vm₁, locs, cells, slots⟩ argsL.toArray) :
    (∃ (v : Option Value) (vm₁ : Vm) (B : Pt), s.WarmedH vm₁ ∧ Stand p l e R s m args below meth c B.U B.locs B.cells B.slots ∧ Post ⟨T.setVm vm₁, locs, cells, slots⟩ argsL.toArray v B ∧
      ∀ target, Steps p.tables e below (B.U.setTop { g with pc := g.pc + 3, stack := v.toList ++ rest }) target → Steps p.tables e below (T.setTop g) target) ∨
    (∃ (q : Addr) (vm₁ : Vm) (B : Pt), s.WarmedH vm₁ ∧ Stand p l e R s m args below meth c B.U B.locs B.cells B.slots ∧ PostX ⟨T.setVm vm₁, locs, cells, slots⟩ argsL.toArray q B ∧
      Steps p.tables e below (T.setTop g) ((B.U.setTop { g with stack := rest }).pushFrame (.throwing q))) := by
  obtain ⟨mk, hnamed⟩ := Cond.code_named hcode
  obtain ⟨methM, cM, hmethM, -, -, -, -, -, -, hsigM⟩ := Cond.code_spec hnamed hcode
  have hstatic : methM.isStatic = true := Cond.static_spec hnamed hmethM hstat
  obtain ⟨kP, hkP, -⟩ := className_of_methodNamed hnamed
  have hinitP : kP.init = .initialized := Cond.initialized_spec (findClass_of_methodNamed hnamed) hkP hinit
  obtain ⟨vm₁, X₁, hstep₁⟩ := X.invokestatic hexec hown hlink hnamed hmethM hstatic hkP hinitP hy (g := g) hg (argsL := argsL) (rest := rest) (hlen _ hsigM) hstack hdg
  rcases hK m meth c ⟨T.setVm vm₁, locs, cells, slots⟩ { g with stack := rest } (.invokestatic index) mk argsL.toArray X₁ hg hsize hdg hW (X₁.named hnamed) (hpre vm₁ X₁.warmed) with ⟨v, B, X', hpost, hsteps⟩ | ⟨q, B, X', hpost, hsteps⟩
  · exact Or.inl ⟨v, vm₁, B, X₁.warmed, X', hpost, fun target h => hstep₁ _ fun acts => by rw [doInvoke_state]; exact hsteps.trans h⟩
  · exact Or.inr ⟨q, vm₁, B, X₁.warmed, X', hpost, hstep₁ _ fun acts => by rw [doInvoke_state]; exact hsteps⟩
end Calls
theorem vx_cls {s : State} {T : State} {vm₁ : Vm} {E : String} {k : ClassId} (hW : s.WarmedH vm₁) (h : (T.setVm vm₁).vm.findClass E = some k) : s.vm.findClass E = some k := by
  have h1 : vm₁.findClass E = some k := h
  rw [hW.alike.findClass] at h1
  exact h1
/-- the method's frame g, with q thrown over it -/
def vx_W (p : Program) (l : Launch) (e : Env) (R : Room) (s : State) (m : MethodId) (args : Array Value) (below : List Frame) (meth : Method) (c : Code) (H : Heap) (locs : List Loc) (cells slots : Nat) (Q : State → Prop) (g : JFrame) (q : Addr) : Prop :=
  ∀ T : State, T.heap = H → Stand p l e R s m args below meth c T locs cells slots → ∃ t, Steps p.tables e below ((T.setTop g).pushFrame (.throwing q)) t ∧ Q t
def vx_Run (p : Program) (l : Launch) (e : Env) (R : Room) (s : State) (m : MethodId) (args : Array Value) (below : List Frame) (meth : Method) (c : Code) (H : Heap) (locs : List Loc) (cells slots mc ms : Nat) (g : JFrame) (rest : List Value) (Qa : State → Outcome → State → Prop) (XC : String → State → State → Prop) (free : Addr → Prop) : Prop :=
  ∀ T : State, T.heap = H → Stand p l e R s m args below meth c T locs cells slots →
    (∃ (v : Option Value) (st₀ t T' : State) (L : List Loc), st₀.heap = H ∧ Stand p l e R s m args below meth c T' (locs ++ L) (cells + mc) (slots + ms) ∧ (∀ q ∈ L, free q.base) ∧ T'.heap = t.heap ∧ T'.vm = t.vm ∧ Qa st₀ (.returned v) t ∧
      Goes p e below T g T' { g with pc := g.pc + 3, stack := v.toList ++ rest }) ∨
    (∃ (q : Addr) (st₀ t T' : State) (L : List Loc) (E : String) (ce : Cell), st₀.heap = H ∧ Stand p l e R s m args below meth c T' (locs ++ L) (cells + mc) (slots + ms) ∧ (∀ z ∈ L, free z.base) ∧ T'.heap = t.heap ∧ T'.vm = t.vm ∧ XC E st₀ t ∧ t.heap[q]? = some ce ∧ ce.vm = .none ∧ s.vm.findClass E = some ce.cls ∧
      Steps p.tables e below (T.setTop g) ((T'.setTop { g with stack := rest }).pushFrame (.throwing q)))
def vx_X {S : Type} (px : S → Prop) (B : String → S → State → Prop) (A : Nat → Prop) : String → State → State → Prop := fun E st t => ∃ u : S, px u ∧ B E u t ∧ va_F A st t
section Runs
variable {p : Program} {l : Launch} {e : Env} {R : Room} {s : State} {m : MethodId} {args : Array Value} {below : List Frame} {meth : Method} {c : Code} {H : Heap} {locs : List Loc} {cells slots : Nat}
variable {y : MethodName} {bytes cc : ByteArray} {maxL nL mc ms n index : Nat} {ret : Option FieldType} {ws : List Cond} {rm : Room} {Pc : Array Value → State → Prop} {Qc : Array Value → State → Outcome → State → Prop} {XC : String → State → State → Prop} {free : Addr → Prop} {Ts : List Cond} {own C : String} {b : Addr} {As rest : List Value} {g : JFrame}
theorem vx_callBack (cb : CallB R s args own index y bytes maxL ret ws rm mc ms n) (hM : vx_Met l y ws rm Pc Qc XC mc ms free) (hbl : FrameBlind Pc) : vx_Back l R p e below s args y 3 8 (PreOf R mc ms Pc) (PostOf Qc mc ms free) (vx_Post XC mc ms free) := by
  obtain ⟨hrc, hrs, hfr, hlo, hws, hcw, -, hini, -⟩ := cb
  exact vx_back (bytes := bytes) (maxL := maxL) (ret := ret) hM hbl hrc hrs hfr hlo hws hcw (fun a' U hW => word_at hW (Or.inl (by first | rfl | simp [Cond.onTables, Cond.keeps, Cond.steady])) hini)
theorem vx_runV (S : CallFix p m c cc nL s args Ts own) (hM : vx_Met l y ws rm Pc Qc XC mc ms free) (cw : CallW R s args own C index y bytes maxL ret ws rm mc ms n) (hp : PreV s H C b Pc As)
    (hg : g.method = m) (hn : As.length = n) (hsize : g.locals.size = nL) (hstack : g.stack = As.reverse ++ .ref b :: rest) (hW : 2 * g.monitorRoom + (rest.map fun v => v.category).sum ≤ 8) (hdg : decode cc g.pc = .ok (.invokevirtual index, 3)) (hf : cells + mc ≤ R.cells ∧ slots + ms ≤ R.slots) :
    vx_Run p l e R s m args below meth c H locs cells slots mc ms g rest (Qc (Value.ref b :: As).toArray) XC free := by
  have hK : vx_Back l R p e below s args y 3 8 (PreOf R mc ms Pc) (PostOf Qc mc ms free) (vx_Post XC mc ms free) := vx_callBack cw.1 hM hp.1
  obtain ⟨⟨-, -, -, -, -, -, hcode, -, hy, hlen, hl⟩, hin, hse⟩ := cw
  obtain ⟨hx, hb, hml, ho, -⟩ := S
  obtain ⟨-, ⟨cellB, hcB, hoB, hclB⟩, hPc⟩ := hp
  intro T hT X
  rcases vx_callV X hx (C := C) (bytes := bytes) (maxL := maxL) (ret := ret) ho hl hin hse hcode hy hK (by rw [hT]; exact hcB) hoB hclB hg (hsize.trans hml.symm) (argsL := As) (rest := rest) (fun sig h => hn.trans (hlen sig h)) hstack hW (by rw [hb]; exact hdg)
    (fun vm₁ hW₁ => ⟨hf.1, hf.2, hPc (T.setVm vm₁) hT hW₁⟩) with ⟨v, vm₁, ⟨U', l2, c2, s2⟩, hW₁, X', ⟨g', mk, t, L, e1, e2, hq, h1, hL, h2, h3⟩, st⟩ | ⟨q, vm₁, ⟨U', l2, c2, s2⟩, hW₁, X', ⟨g', mk, t, L, E, ce, e1, e2, hq, hce, hcv, hcl, h1, hL, h2, h3⟩, st⟩
  · dsimp only [Pt.U, Pt.locs, Pt.cells, Pt.slots] at X' e1 e2 h1 h2 h3 st
    subst h1; subst h2; subst h3
    exact Or.inl ⟨v, (T.setVm vm₁).calling g' mk (Value.ref b :: As).toArray, t, U', L, hT, X', hL, e1, e2, hq, st⟩
  · dsimp only [Pt.U, Pt.locs, Pt.cells, Pt.slots] at X' e1 e2 h1 h2 h3 st hcl
    subst h1; subst h2; subst h3
    exact Or.inr ⟨q, (T.setVm vm₁).calling g' mk (Value.ref b :: As).toArray, t, U', L, E, ce, hT, X', hL, e1, e2, hq, hce, hcv, vx_cls hW₁ hcl, st⟩
theorem vx_runS (S : CallFix p m c cc nL s args Ts own) (hM : vx_Met l y ws rm Pc Qc XC mc ms free) (cw : CallB R s args own index y bytes maxL ret ws rm mc ms n ∧ (Cond.static y).before args s = true) (hp : PreS s H Pc As)
    (hg : g.method = m) (hn : As.length = n) (hsize : g.locals.size = nL) (hstack : g.stack = As.reverse ++ rest) (hW : 2 * g.monitorRoom + (rest.map fun v => v.category).sum ≤ 8) (hdg : decode cc g.pc = .ok (.invokestatic index, 3)) (hf : cells + mc ≤ R.cells ∧ slots + ms ≤ R.slots) :
    vx_Run p l e R s m args below meth c H locs cells slots mc ms g rest (Qc As.toArray) XC free := by
  have hK : vx_Back l R p e below s args y 3 8 (PreOf R mc ms Pc) (PostOf Qc mc ms free) (vx_Post XC mc ms free) := vx_callBack cw.1 hM hp.1
  obtain ⟨⟨-, -, -, -, -, -, hcode, hini, hy, hlen, hl⟩, hstt⟩ := cw
  obtain ⟨hx, hb, hml, ho, -⟩ := S
  intro T hT X
  rcases vx_callS X hx (bytes := bytes) (maxL := maxL) (ret := ret) ho hl hstt hini hcode hy hK hg (hsize.trans hml.symm) (argsL := As) (rest := rest) (fun sig h => hn.trans (hlen sig h)) hstack hW (by rw [hb]; exact hdg)
    (fun vm₁ hW₁ => ⟨hf.1, hf.2, hp.2 (T.setVm vm₁) hT hW₁⟩) with ⟨v, vm₁, ⟨U', l2, c2, s2⟩, hW₁, X', ⟨g', mk, t, L, e1, e2, hq, h1, hL, h2, h3⟩, st⟩ | ⟨q, vm₁, ⟨U', l2, c2, s2⟩, hW₁, X', ⟨g', mk, t, L, E, ce, e1, e2, hq, hce, hcv, hcl, h1, hL, h2, h3⟩, st⟩
  · dsimp only [Pt.U, Pt.locs, Pt.cells, Pt.slots] at X' e1 e2 h1 h2 h3 st
    subst h1; subst h2; subst h3
    exact Or.inl ⟨v, (T.setVm vm₁).calling g' mk As.toArray, t, U', L, hT, X', hL, e1, e2, hq, st⟩
  · dsimp only [Pt.U, Pt.locs, Pt.cells, Pt.slots] at X' e1 e2 h1 h2 h3 st hcl
    subst h1; subst h2; subst h3
    exact Or.inr ⟨q, (T.setVm vm₁).calling g' mk As.toArray, t, U', L, E, ce, hT, X', hL, e1, e2, hq, hce, hcv, vx_cls hW₁ hcl, st⟩
end Runs
section Rows
variable {p : Program} {l : Launch} {e : Env} {R : Room} {s : State} {m : MethodId} {args : Array Value} {below : List Frame} {meth : Method} {c : Code} {H : Heap} {locs : List Loc} {cells slots : Nat} {Q : State → Prop}
variable {mc ms : Nat} {free : Addr → Prop} {A0 A1 : Nat → Prop} {H0 : Heap} {a : Array Value} {pc : Nat} {ls : Array Slot} {st0 rest : List Value}
theorem vx_keep {st₀ t T' : State} {L : List Loc} (h0 : st₀.heap = H) (e1 : T'.heap = t.heap) (hS : va_S A0 H0 H locs) (hA : ∀ q, q < H.size → A1 q → A0 q) (hf : ∀ q, free q → A0 q) (hL : ∀ q ∈ L, free q.base) (hF : va_F A1 st₀ t) :
    H.size ≤ T'.heap.size ∧ (∀ q : Nat, q < H.size → ¬ A1 q → T'.heap[q]? = H[q]?) ∧ va_S A0 H0 T'.heap (locs ++ L) := by
  obtain ⟨hz, hk⟩ := hF
  rw [h0] at hz hk
  exact ⟨by rw [e1]; exact hz, fun q h1 h2 => by rw [e1]; exact hk q h1 h2,
    ⟨Nat.le_trans hS.1 (by rw [e1]; exact hz), fun q h1 h2 => by rw [e1, hk q (Nat.lt_of_lt_of_le h1 hS.1) (fun z => h2 (hA q (Nat.lt_of_lt_of_le h1 hS.1) z))]; exact hS.2.1 q h1 h2, fun q hq => by
      rcases List.mem_append.mp hq with h | h
      · exact hS.2.2 q h
      · exact hf _ (hL q h)⟩⟩
theorem vx_calli {S SX : Type} {post : Int32 → S → Prop} {px : SX → Prop} {B : S → State → Prop} {BX : String → SX → State → Prop} {AX : Nat → Prop} (hr : vx_Run p l e R s m args below meth c H locs cells slots mc ms (F0 m pc ls st0) rest (va_Qi post B A1 a) (vx_X px BX AX) free) (hS : va_S A0 H0 H locs) (hA : ∀ q, q < H.size → A1 q → A0 q) (hf : ∀ q, free q → A0 q) (hAX : ∀ q, q < H.size → AX q → A0 q)
    (kx : ∀ (E : String) (ce : Cell) (q9 : Addr) (u : SX) (t : State) (H1 : Heap) (locs1 : List Loc), t.heap = H1 → s.vm.Alike t.vm → px u → BX E u t → H.size ≤ H1.size → (∀ q : Nat, q < H.size → ¬ AX q → H1[q]? = H[q]?) → va_S A0 H0 H1 locs1 → H1[q9]? = some ce → ce.vm = .none → s.vm.findClass E = some ce.cls → vx_W p l e R s m args below meth c H1 locs1 (cells + mc) (slots + ms) Q (F0 m pc ls rest) q9)
    (kk : ∀ (r : Int32) (u : S) (t : State) (H1 : Heap) (locs1 : List Loc), t.heap = H1 → s.vm.Alike t.vm → post r u → B u t → H.size ≤ H1.size → (∀ q : Nat, q < H.size → ¬ A1 q → H1[q]? = H[q]?) → va_S A0 H0 H1 locs1 → W p l e R s m args below meth c H1 locs1 (cells + mc) (slots + ms) Q (F0 m (pc + 3) ls (.int r :: rest))) : W p l e R s m args below meth c H locs cells slots Q (F0 m pc ls st0) := by
  intro T hT X
  rcases hr T hT X with ⟨v, st₀, t, T', L, h0, X', hL, e1, e2, ⟨⟨r, u, hv, hp, hb⟩, hF⟩, st⟩ | ⟨q, st₀, t, T', L, E, ce, h0, X', hL, e1, e2, ⟨u, hp, hb, hF⟩, hce, hcv, hcl, st⟩
  · cases hv
    obtain ⟨k1, k2, k3⟩ := vx_keep h0 e1 hS hA hf hL hF
    obtain ⟨t2, a1, b1⟩ := kk r u t T'.heap (locs ++ L) e1.symm (by rw [← e2]; exact X'.warmed.alike) hp hb k1 k2 k3 T' rfl X'
    exact ⟨t2, st t2 a1, b1⟩
  · obtain ⟨k1, k2, k3⟩ := vx_keep h0 e1 hS hAX hf hL hF
    obtain ⟨t2, a1, b1⟩ := kx E ce q u t T'.heap (locs ++ L) e1.symm (by rw [← e2]; exact X'.warmed.alike) hp hb k1 k2 k3 (by rw [e1]; exact hce) hcv hcl T' rfl X'
    exact ⟨t2, st.trans a1, b1⟩
theorem vx_calll {S SX : Type} {post : Int64 → S → Prop} {px : SX → Prop} {B : S → State → Prop} {BX : String → SX → State → Prop} {AX : Nat → Prop} (hr : vx_Run p l e R s m args below meth c H locs cells slots mc ms (F0 m pc ls st0) rest (va_Ql post B A1 a) (vx_X px BX AX) free) (hS : va_S A0 H0 H locs) (hA : ∀ q, q < H.size → A1 q → A0 q) (hf : ∀ q, free q → A0 q) (hAX : ∀ q, q < H.size → AX q → A0 q)
    (kx : ∀ (E : String) (ce : Cell) (q9 : Addr) (u : SX) (t : State) (H1 : Heap) (locs1 : List Loc), t.heap = H1 → s.vm.Alike t.vm → px u → BX E u t → H.size ≤ H1.size → (∀ q : Nat, q < H.size → ¬ AX q → H1[q]? = H[q]?) → va_S A0 H0 H1 locs1 → H1[q9]? = some ce → ce.vm = .none → s.vm.findClass E = some ce.cls → vx_W p l e R s m args below meth c H1 locs1 (cells + mc) (slots + ms) Q (F0 m pc ls rest) q9)
    (kk : ∀ (r : Int64) (u : S) (t : State) (H1 : Heap) (locs1 : List Loc), t.heap = H1 → s.vm.Alike t.vm → post r u → B u t → H.size ≤ H1.size → (∀ q : Nat, q < H.size → ¬ A1 q → H1[q]? = H[q]?) → va_S A0 H0 H1 locs1 → W p l e R s m args below meth c H1 locs1 (cells + mc) (slots + ms) Q (F0 m (pc + 3) ls (.long r :: rest))) : W p l e R s m args below meth c H locs cells slots Q (F0 m pc ls st0) := by
  intro T hT X
  rcases hr T hT X with ⟨v, st₀, t, T', L, h0, X', hL, e1, e2, ⟨⟨r, u, hv, hp, hb⟩, hF⟩, st⟩ | ⟨q, st₀, t, T', L, E, ce, h0, X', hL, e1, e2, ⟨u, hp, hb, hF⟩, hce, hcv, hcl, st⟩
  · cases hv
    obtain ⟨k1, k2, k3⟩ := vx_keep h0 e1 hS hA hf hL hF
    obtain ⟨t2, a1, b1⟩ := kk r u t T'.heap (locs ++ L) e1.symm (by rw [← e2]; exact X'.warmed.alike) hp hb k1 k2 k3 T' rfl X'
    exact ⟨t2, st t2 a1, b1⟩
  · obtain ⟨k1, k2, k3⟩ := vx_keep h0 e1 hS hAX hf hL hF
    obtain ⟨t2, a1, b1⟩ := kx E ce q u t T'.heap (locs ++ L) e1.symm (by rw [← e2]; exact X'.warmed.alike) hp hb k1 k2 k3 (by rw [e1]; exact hce) hcv hcl T' rfl X'
    exact ⟨t2, st.trans a1, b1⟩
theorem vx_callf {S SX : Type} {post : UInt32 → S → Prop} {px : SX → Prop} {B : S → State → Prop} {BX : String → SX → State → Prop} {AX : Nat → Prop} (hr : vx_Run p l e R s m args below meth c H locs cells slots mc ms (F0 m pc ls st0) rest (va_Qf post B A1 a) (vx_X px BX AX) free) (hS : va_S A0 H0 H locs) (hA : ∀ q, q < H.size → A1 q → A0 q) (hf : ∀ q, free q → A0 q) (hAX : ∀ q, q < H.size → AX q → A0 q)
    (kx : ∀ (E : String) (ce : Cell) (q9 : Addr) (u : SX) (t : State) (H1 : Heap) (locs1 : List Loc), t.heap = H1 → s.vm.Alike t.vm → px u → BX E u t → H.size ≤ H1.size → (∀ q : Nat, q < H.size → ¬ AX q → H1[q]? = H[q]?) → va_S A0 H0 H1 locs1 → H1[q9]? = some ce → ce.vm = .none → s.vm.findClass E = some ce.cls → vx_W p l e R s m args below meth c H1 locs1 (cells + mc) (slots + ms) Q (F0 m pc ls rest) q9)
    (kk : ∀ (r : UInt32) (u : S) (t : State) (H1 : Heap) (locs1 : List Loc), t.heap = H1 → s.vm.Alike t.vm → post r u → B u t → H.size ≤ H1.size → (∀ q : Nat, q < H.size → ¬ A1 q → H1[q]? = H[q]?) → va_S A0 H0 H1 locs1 → W p l e R s m args below meth c H1 locs1 (cells + mc) (slots + ms) Q (F0 m (pc + 3) ls (.float r :: rest))) : W p l e R s m args below meth c H locs cells slots Q (F0 m pc ls st0) := by
  intro T hT X
  rcases hr T hT X with ⟨v, st₀, t, T', L, h0, X', hL, e1, e2, ⟨⟨r, u, hv, hp, hb⟩, hF⟩, st⟩ | ⟨q, st₀, t, T', L, E, ce, h0, X', hL, e1, e2, ⟨u, hp, hb, hF⟩, hce, hcv, hcl, st⟩
  · cases hv
    obtain ⟨k1, k2, k3⟩ := vx_keep h0 e1 hS hA hf hL hF
    obtain ⟨t2, a1, b1⟩ := kk r u t T'.heap (locs ++ L) e1.symm (by rw [← e2]; exact X'.warmed.alike) hp hb k1 k2 k3 T' rfl X'
    exact ⟨t2, st t2 a1, b1⟩
  · obtain ⟨k1, k2, k3⟩ := vx_keep h0 e1 hS hAX hf hL hF
    obtain ⟨t2, a1, b1⟩ := kx E ce q u t T'.heap (locs ++ L) e1.symm (by rw [← e2]; exact X'.warmed.alike) hp hb k1 k2 k3 (by rw [e1]; exact hce) hcv hcl T' rfl X'
    exact ⟨t2, st.trans a1, b1⟩
theorem vx_calld {S SX : Type} {post : UInt64 → S → Prop} {px : SX → Prop} {B : S → State → Prop} {BX : String → SX → State → Prop} {AX : Nat → Prop} (hr : vx_Run p l e R s m args below meth c H locs cells slots mc ms (F0 m pc ls st0) rest (va_Qd post B A1 a) (vx_X px BX AX) free) (hS : va_S A0 H0 H locs) (hA : ∀ q, q < H.size → A1 q → A0 q) (hf : ∀ q, free q → A0 q) (hAX : ∀ q, q < H.size → AX q → A0 q)
    (kx : ∀ (E : String) (ce : Cell) (q9 : Addr) (u : SX) (t : State) (H1 : Heap) (locs1 : List Loc), t.heap = H1 → s.vm.Alike t.vm → px u → BX E u t → H.size ≤ H1.size → (∀ q : Nat, q < H.size → ¬ AX q → H1[q]? = H[q]?) → va_S A0 H0 H1 locs1 → H1[q9]? = some ce → ce.vm = .none → s.vm.findClass E = some ce.cls → vx_W p l e R s m args below meth c H1 locs1 (cells + mc) (slots + ms) Q (F0 m pc ls rest) q9)
    (kk : ∀ (r : UInt64) (u : S) (t : State) (H1 : Heap) (locs1 : List Loc), t.heap = H1 → s.vm.Alike t.vm → post r u → B u t → H.size ≤ H1.size → (∀ q : Nat, q < H.size → ¬ A1 q → H1[q]? = H[q]?) → va_S A0 H0 H1 locs1 → W p l e R s m args below meth c H1 locs1 (cells + mc) (slots + ms) Q (F0 m (pc + 3) ls (.double r :: rest))) : W p l e R s m args below meth c H locs cells slots Q (F0 m pc ls st0) := by
  intro T hT X
  rcases hr T hT X with ⟨v, st₀, t, T', L, h0, X', hL, e1, e2, ⟨⟨r, u, hv, hp, hb⟩, hF⟩, st⟩ | ⟨q, st₀, t, T', L, E, ce, h0, X', hL, e1, e2, ⟨u, hp, hb, hF⟩, hce, hcv, hcl, st⟩
  · cases hv
    obtain ⟨k1, k2, k3⟩ := vx_keep h0 e1 hS hA hf hL hF
    obtain ⟨t2, a1, b1⟩ := kk r u t T'.heap (locs ++ L) e1.symm (by rw [← e2]; exact X'.warmed.alike) hp hb k1 k2 k3 T' rfl X'
    exact ⟨t2, st t2 a1, b1⟩
  · obtain ⟨k1, k2, k3⟩ := vx_keep h0 e1 hS hAX hf hL hF
    obtain ⟨t2, a1, b1⟩ := kx E ce q u t T'.heap (locs ++ L) e1.symm (by rw [← e2]; exact X'.warmed.alike) hp hb k1 k2 k3 (by rw [e1]; exact hce) hcv hcl T' rfl X'
    exact ⟨t2, st.trans a1, b1⟩
theorem vx_callv {S SX : Type} {post : S → Prop} {px : SX → Prop} {B : S → State → Prop} {BX : String → SX → State → Prop} {AX : Nat → Prop} (hr : vx_Run p l e R s m args below meth c H locs cells slots mc ms (F0 m pc ls st0) rest (va_Qv post B A1 a) (vx_X px BX AX) free) (hS : va_S A0 H0 H locs) (hA : ∀ q, q < H.size → A1 q → A0 q) (hf : ∀ q, free q → A0 q) (hAX : ∀ q, q < H.size → AX q → A0 q)
    (kx : ∀ (E : String) (ce : Cell) (q9 : Addr) (u : SX) (t : State) (H1 : Heap) (locs1 : List Loc), t.heap = H1 → s.vm.Alike t.vm → px u → BX E u t → H.size ≤ H1.size → (∀ q : Nat, q < H.size → ¬ AX q → H1[q]? = H[q]?) → va_S A0 H0 H1 locs1 → H1[q9]? = some ce → ce.vm = .none → s.vm.findClass E = some ce.cls → vx_W p l e R s m args below meth c H1 locs1 (cells + mc) (slots + ms) Q (F0 m pc ls rest) q9)
    (kk : ∀ (u : S) (t : State) (H1 : Heap) (locs1 : List Loc), t.heap = H1 → s.vm.Alike t.vm → post u → B u t → H.size ≤ H1.size → (∀ q : Nat, q < H.size → ¬ A1 q → H1[q]? = H[q]?) → va_S A0 H0 H1 locs1 → W p l e R s m args below meth c H1 locs1 (cells + mc) (slots + ms) Q (F0 m (pc + 3) ls (rest))) : W p l e R s m args below meth c H locs cells slots Q (F0 m pc ls st0) := by
  intro T hT X
  rcases hr T hT X with ⟨v, st₀, t, T', L, h0, X', hL, e1, e2, ⟨⟨u, hv, hp, hb⟩, hF⟩, st⟩ | ⟨q, st₀, t, T', L, E, ce, h0, X', hL, e1, e2, ⟨u, hp, hb, hF⟩, hce, hcv, hcl, st⟩
  · cases hv
    obtain ⟨k1, k2, k3⟩ := vx_keep h0 e1 hS hA hf hL hF
    obtain ⟨t2, a1, b1⟩ := kk u t T'.heap (locs ++ L) e1.symm (by rw [← e2]; exact X'.warmed.alike) hp hb k1 k2 k3 T' rfl X'
    exact ⟨t2, st t2 a1, b1⟩
  · obtain ⟨k1, k2, k3⟩ := vx_keep h0 e1 hS hAX hf hL hF
    obtain ⟨t2, a1, b1⟩ := kx E ce q u t T'.heap (locs ++ L) e1.symm (by rw [← e2]; exact X'.warmed.alike) hp hb k1 k2 k3 (by rw [e1]; exact hce) hcv hcl T' rfl X'
    exact ⟨t2, st.trans a1, b1⟩
/-- caught by the row x of this method's table; the rows ahead don't take it -/
theorem vx_catch {own name : String} {E : String} {ce : Cell} {q : Addr} (hown : s.vm.findClass own = some m.cls) (pre : List ExceptionTableEntry) (x : ExceptionTableEntry) (suf : List ExceptionTableEntry) (hsplit : c.exceptionTable.toList = pre ++ x :: suf)
    (hpass : ∀ z ∈ pre, covers z pc = false ∨ (z.catchType ≠ 0 ∧ ∃ nm : String, (Cond.classLink own z.catchType nm).before args s = true ∧ va_Nc E nm s)) (hx : covers x pc = true) (h0 : x.catchType ≠ 0)
    (hlink : (Cond.classLink own x.catchType name).before args s = true) (hcast : (Cond.castable E name).before args s = true) (hcell : H[q]? = some ce) (hv : ce.vm = .none) (hcl : s.vm.findClass E = some ce.cls)
    (kk : W p l e R s m args below meth c H locs cells slots Q (F0 m x.handlerPc ls [.ref q])) : vx_W p l e R s m args below meth c H locs cells slots Q (F0 m pc ls rest) q := by
  intro T hT X
  have hpl : e.platform.magicAccessors = ({} : Platform).magicAccessors := by rw [X.admits.platform]
  obtain ⟨c3, c4, hc3, hc4, hasg⟩ := Cond.castable_spec hcast
  cases Option.some.inj (hc3.symm.trans hcl)
  obtain ⟨c5, hc5, hcl5⟩ := Cond.classLink_spec hown hlink e.platform hpl
  cases Option.some.inj (hc4.symm.trans hc5)
  obtain ⟨vm', X', st⟩ := X.thenCaughtThrough q (g := F0 m pc ls rest) rfl (Steps.refl _) (by rw [hT]; exact hcell) (by rw [hv]; rfl) (by obtain ⟨k9, h9, -⟩ := Vm.findClass_spec hcl; exact ⟨k9, h9⟩) pre x suf hsplit
    (fun z hz => by
      rcases hpass z hz with h | ⟨hz0, nm, hl1, hn1⟩
      · exact Or.inl h
      · obtain ⟨c6, hc6, hcl6⟩ := Cond.classLink_spec hown hl1 e.platform hpl
        obtain ⟨a8, b8, h1, h2, h3⟩ := hn1
        cases Option.some.inj (h1.symm.trans hcl)
        cases Option.some.inj (h2.symm.trans hc6)
        exact Or.inr ⟨hz0, _, hcl6, h3⟩) hx (Or.inr ⟨h0, c4, hcl5, hasg⟩)
  obtain ⟨t, a1, b1⟩ := kk (T.setVm vm') hT X'
  exact ⟨t, st.trans a1, b1⟩
end Rows
section Ends
variable {p : Program} {l : Launch} {e : Env} {R : Room} {s : State} {m : MethodId} {args : Array Value} {below : List Frame} {meth : Method} {c : Code} {H : Heap} {locs : List Loc} {cells slots : Nat} {Q : State → Prop}
variable {mc ms : Nat} {free : Addr → Prop} {A0 A1 : Nat → Prop} {H0 : Heap} {a : Array Value} {ls : Array Slot} {st0 rest : List Value}
variable {Qc : Array Value → State → Outcome → State → Prop} {XC : String → State → State → Prop}
/-- what a body that may throw owes at its end -/
def vx_MQ (below : List Frame) (Qc : Array Value → State → Outcome → State → Prop) (XC : String → State → State → Prop) (a : Array Value) (s : State) (mc ms : Nat) (free : Addr → Prop) : State → Prop := fun t =>
  ∃ o, t.status = .running ∧ Ended t below o ∧ vx_Q Qc XC mc ms free a s o t
theorem vx_ret {g : JFrame} {mc ms : Nat} (k : W p l e R s m args below meth c H locs cells slots (MQ below Qc args s mc ms free) g) : W p l e R s m args below meth c H locs cells slots (vx_MQ below Qc XC args s mc ms free) g := by
  intro T hT X
  obtain ⟨t, a1, o, b1, b2, b3, b4⟩ := k T hT X
  exact ⟨t, a1, o, b1, b2, Or.inl ⟨b3, b4⟩⟩
/-- not caught here: it goes on to the caller -/
theorem vx_widen {g : JFrame} {q : Addr} {k n : Nat} (h1 : cells ≤ k) (h2 : slots ≤ n) (kk : vx_W p l e R s m args below meth c H locs k n Q g q) : vx_W p l e R s m args below meth c H locs cells slots Q g q := fun T hT X => kk T hT (stand_widen X h1 h2)
theorem vx_out {pc : Nat} {E : String} {ce : Cell} {q : Addr} {mc ms : Nat} (hout : ∀ x ∈ c.exceptionTable.toList, covers x pc = false) (hlocks : meth.locks = false) (hcell : H[q]? = some ce) (hv : ce.vm = .none) (hcl : s.vm.findClass E = some ce.cls)
    (hx : ∀ t : State, t.heap = H → s.vm.Alike t.vm → XC E s t) (hf : ∀ z ∈ locs, free z.base) (hc : cells ≤ mc) (hs : slots ≤ ms) :
    vx_W p l e R s m args below meth c H locs cells slots (vx_MQ below Qc XC args s mc ms free) (F0 m pc ls rest) q := by
  intro T hT X
  obtain ⟨st1, hrun, hend, hW, hsm⟩ := X.leaveThrown q (g := F0 m pc ls rest) rfl rfl rfl hout hlocks
  have hcell9 : (T.setFrames (.throwing q :: below)).heap[q]? = some ce := by
    show T.heap[q]? = some ce
    rw [hT]; exact hcell
  exact ⟨_, st1, .threw q, hrun, hend, Or.inr ⟨q, rfl, E, ce, locs, hx _ hT hW.alike, hcell9, hv, hcl, hW, hsm.mono hc hs, hf⟩⟩
theorem vx_frame {U : State} {k n : Nat} (h : s.sameButNew ({ U with vm := s.vm } : State) locs k n) : s.heap.size ≤ U.heap.size ∧ ∀ q : Nat, q < s.heap.size → (∀ z ∈ locs, z.base ≠ q) → U.heap[q]? = s.heap[q]? := by
  obtain ⟨-, h2, -, -, -, h6⟩ := h
  refine ⟨h2, fun q hq hz => ?_⟩
  obtain ⟨c9, e1, e2, e3, e4⟩ := h6 q _ (Array.getElem?_eq_getElem hq)
  have hs : c9.slots = (s.heap[q]).slots := Array.ext_getElem? fun i => e4 i fun hm => hz _ hm rfl
  have h9 : c9 = s.heap[q] := by
    rw [hs] at e2
    exact e2
  have e5 : U.heap[q]? = some c9 := e1
  rw [e5, h9, Array.getElem?_eq_getElem hq]
/-- the words of a throw but the four that speak of the heap -/
def vx_no (w : Cond) : Bool := decide (w ≠ .isRef (.static Bundle.tN "UNASSIGNED_STACK" Bundle.steD)) && decide (w ≠ .isRef (.static Bundle.tN "SUPPRESSED_SENTINEL" Bundle.listD)) && decide (w ≠ .laysStatic Bundle.tN "UNASSIGNED_STACK" Bundle.steD) && decide (w ≠ .laysStatic Bundle.tN "SUPPRESSED_SENTINEL" Bundle.listD)
def vx_at0 (own : String) (ic : Nat) (X : String) (names : List String) : List Cond := (Bundle.ownAtoms0 own ic X names).filter vx_no
def vx_atS (own : String) (ic : Nat) (X : String) (names : List String) : List Cond := (Bundle.ownAtoms own ic X names).filter vx_no
/-- a word that the tables alone decide, or a good one -/
def vx_ot (w : Cond) : Bool := w.onTables || goodWord w
theorem vx_ot_at {args a' : Array Value} {s U : State} {w : Cond} (hW : s.WarmedH U.vm) (hvm : s.vm = U.vm) (hg : vx_ot w = true) (h : w.before args s = true) : w.before a' U = true := by
  simp only [vx_ot, Bool.or_eq_true] at hg
  rcases hg with hg | hg
  · exact va_tabs hg hvm h
  · exact word_at hW (good_of_word hg) h
/-- a list's words: the good ones out of the method's own list, the others by premises of their own -/
theorem vx_hat {args : Array Value} {s : State} {L B : List Cond} (h1 : ∀ w ∈ L.filter goodWord, w.before args s = true) (h2 : ∀ w ∈ L.filter (fun w => !goodWord w), w ∈ B) (h3 : ∀ w ∈ B, w.before args s = true) : ∀ w ∈ L, w.before args s = true := by
  intro w hw
  by_cases g : goodWord w = true
  · exact h1 w (List.mem_filter.mpr ⟨hw, g⟩)
  · refine h3 w (h2 w (List.mem_filter.mpr ⟨hw, ?_⟩))
    show (!goodWord w) = true
    cases hgw : goodWord w
    · rfl
    · exact absurd hgw g
theorem vx_c {args : Array Value} {s : State} {w : Cond} {B : List Cond} (h : w.before args s = true) (t : ∀ w ∈ B, w.before args s = true) : ∀ w' ∈ w :: B, w'.before args s = true := fun w' h' => (List.mem_cons.mp h').elim (fun e => by rw [e]; exact h) (t w')
theorem vx_n {args : Array Value} {s : State} : ∀ w ∈ ([] : List Cond), w.before args s = true := fun _ h => nomatch h
theorem vx_own {args : Array Value} {s : State} {L : List Cond} (h1 : ∀ w ∈ L.filter vx_no, w.before args s = true)
    (hU : (Cond.isRef (.static Bundle.tN "UNASSIGNED_STACK" Bundle.steD)).before args s = true) (hN : (Cond.isRef (.static Bundle.tN "SUPPRESSED_SENTINEL" Bundle.listD)).before args s = true)
    (lU : (Cond.laysStatic Bundle.tN "UNASSIGNED_STACK" Bundle.steD).before args s = true) (lN : (Cond.laysStatic Bundle.tN "SUPPRESSED_SENTINEL" Bundle.listD).before args s = true) : ∀ w ∈ L, w.before args s = true := by
  intro w hw
  by_cases e1 : w = .isRef (.static Bundle.tN "UNASSIGNED_STACK" Bundle.steD)
  · rw [e1]; exact hU
  · by_cases e2 : w = .isRef (.static Bundle.tN "SUPPRESSED_SENTINEL" Bundle.listD)
    · rw [e2]; exact hN
    · by_cases e3 : w = .laysStatic Bundle.tN "UNASSIGNED_STACK" Bundle.steD
      · rw [e3]; exact lU
      · by_cases e4 : w = .laysStatic Bundle.tN "SUPPRESSED_SENTINEL" Bundle.listD
        · rw [e4]; exact lN
        · exact h1 w (List.mem_filter.mpr ⟨hw, by unfold vx_no; rw [decide_eq_true e1, decide_eq_true e2, decide_eq_true e3, decide_eq_true e4]; rfl⟩)
/-- where a static field lies, its class's statics cell in H -/
def vx_L (C n d : String) (A : Nat → Prop) (U : State) (H : Heap) : Prop := ∃ (c : ClassId) (k : Class) (i : Nat) (f : Field) (a : Nat) (cell : Cell), U.vm.findClass C = some c ∧ U.fieldFound? C n d = some (c, k, i, f) ∧ f.isStatic = true ∧ k.statics = some a ∧ H[a]? = some cell ∧ cell.vm.isStatics = true ∧ cell.cls = c ∧ f.slot < cell.slots.size ∧ k.staticTypes[f.slot]? = some f.type ∧ ¬ A a
theorem vx_L.moved {C n d : String} {A : Nat → Prop} {u U : State} {H : Heap} (hvm : u.vm.Alike U.vm) (h : vx_L C n d A u H) : vx_L C n d A U H := by
  obtain ⟨c, k, i, f, a, cell, h1, h2, h3, h4, h5, h6, h7, h8, h9, h10⟩ := h
  obtain ⟨k', hi', he⟩ := State.fieldFound?_setVm hvm h2
  exact ⟨c, k', i, f, a, cell, by rw [hvm.findClass]; exact h1, hi', h3, by rw [he]; exact h4, h5, h6, h7, h8, by rw [he]; exact h9, h10⟩
theorem vx_L.kept {C n d : String} {A : Nat → Prop} {U : State} {H H1 : Heap} (h : vx_L C n d A U H) (hq : ∀ a : Nat, a < H.size → ¬ A a → H1[a]? = H[a]?) : vx_L C n d A U H1 := by
  obtain ⟨c, k, i, f, a, cell, h1, h2, h3, h4, h5, h6, h7, h8, h9, h10⟩ := h
  exact ⟨c, k, i, f, a, cell, h1, h2, h3, h4, by rw [hq a (Array.getElem?_eq_some_iff.mp h5).1 h10]; exact h5, h6, h7, h8, h9, h10⟩
theorem vx_L.narrow {C n d : String} {A B : Nat → Prop} {U : State} {H : Heap} (h : vx_L C n d A U H) (hAB : ∀ q, B q → A q) : vx_L C n d B U H := by
  obtain ⟨c, k, i, f, a, cell, h1, h2, h3, h4, h5, h6, h7, h8, h9, h10⟩ := h
  exact ⟨c, k, i, f, a, cell, h1, h2, h3, h4, h5, h6, h7, h8, h9, fun z => h10 (hAB _ z)⟩
theorem vx_L.word {C n d : String} {A : Nat → Prop} {s : State} {args : Array Value} (h : vx_L C n d A s s.heap) : (Cond.laysStatic C n d).before args s = true := by
  obtain ⟨c, k, i, f, a, cell, h1, h2, h3, h4, h5, h6, h7, h8, h9, -⟩ := h
  show (Cond.laysStatic C n d).holds args s none s [] = true
  exact Cond.laysStatic_of h1 h2 h3 h4 h5 h6 h7 h8 h9
/-- .. and what it holds: null or some reference -/
def vx_Zq (C n d : String) (A : Nat → Prop) (U : State) (H : Heap) : Prop := va_Zq C n d A U H ∧ vx_L C n d A U H
theorem vx_Zq.moved {C n d : String} {A : Nat → Prop} {u U : State} {H : Heap} (hvm : u.vm.Alike U.vm) (h : vx_Zq C n d A u H) : vx_Zq C n d A U H := ⟨va_Zq.moved hvm h.1, vx_L.moved hvm h.2⟩
theorem vx_Zq.kept {C n d : String} {A : Nat → Prop} {U : State} {H H1 : Heap} (h : vx_Zq C n d A U H) (hq : ∀ a : Nat, a < H.size → ¬ A a → H1[a]? = H[a]?) : vx_Zq C n d A U H1 := ⟨va_Zq.kept h.1 hq, vx_L.kept h.2 hq⟩
theorem vx_Zq.narrow {C n d : String} {A B : Nat → Prop} {U : State} {H : Heap} (h : vx_Zq C n d A U H) (hAB : ∀ q, B q → A q) : vx_Zq C n d B U H := ⟨va_Zq.narrow h.1 hAB, vx_L.narrow h.2 hAB⟩
theorem vx_Zqof {args : Array Value} {s : State} {C n d : String} {A : Nat → Prop} (hl : (Cond.laysStatic C n d).before args s = true) (hini : (Cond.initialized C).before args s = true) (h : (Cond.isRef (.static C n d)).before args s = true) (hA : ∀ a : Nat, a < s.heap.size → ¬ A a) : vx_Zq C n d A s s.heap := by
  refine ⟨va_Zqof hl hini h hA, ?_⟩
  obtain ⟨c, k, i, f, a, cell, h1, h2, h3, h4, h5, h6, h7, h8, h9⟩ := Cond.laysStatic_spec hl
  exact ⟨c, k, i, f, a, cell, h1, h2, h3, h4, h5, h6, h7, h8, h9, hA a (Array.getElem?_eq_some_iff.mp h5).1⟩
theorem vx_isRef {C n d : String} {v : Value} {A : Nat → Prop} {s : State} {args : Array Value} (h : va_Z C n d v A s s.heap) (hv : v.isRef = true) : (Cond.isRef (.static C n d)).before args s = true := by
  obtain ⟨cf, kf, fi, f, a, cell, h1, h2, h3, h4, h5, h6, h7, -⟩ := h
  have he : (Term.static C n d).eval args s none [] s = some v := by
    simp [Term.eval, State.fieldNamed?, h1, h2, h4, h5, h6, h7]
  simp only [Cond.before, Cond.holds, Cond.value, he]
  cases v <;> simp_all [Value.isRef]
theorem vx_isRefq {C n d : String} {A : Nat → Prop} {s : State} {args : Array Value} (h : va_Zq C n d A s s.heap) : (Cond.isRef (.static C n d)).before args s = true := by
  rcases h with h | ⟨t, h⟩
  · exact vx_isRef h rfl
  · exact vx_isRef h rfl
/-- the same frame, seen from here: as if the method were called anew in this heap -/
theorem vx_rebase {T : State} (X : Stand p l e R s m args below meth c T locs cells slots) {R' : Room} (hf : R'.frames ≤ R.frames) (hl : R'.locals ≤ R.locals) (hc : cells + R'.cells ≤ R.cells) (hs : slots + R'.slots ≤ R.slots) :
    Stand p l e R' ((T.setVm s.vm).setFrames (.invoking m args :: below)) m args below meth c T [] 0 0 := by
  have htop : (T.setVm s.vm).topJava?.isSome := X.here.top
  have hF : ((T.setVm s.vm).setFrames (.invoking m args :: below)).frames = .invoking m args :: below := State.frames_setFrames _ (State.cur_lt_of_top htop)
  obtain ⟨g₀, hg0⟩ := Option.isSome_iff_exists.mp htop
  obtain ⟨r, hr⟩ := State.topJava?_eq_some.mp hg0
  have hl9 : e.platform.stackLimits (T.setVm s.vm).me = e.platform.stackLimits s.me := X.limits
  have hb9 : (T.setVm s.vm).me.stackBytes = s.me.stackBytes := X.bytes
  refine ⟨X.admits, X.cas, X.clock, hF, ?_, X.hears, X.method, X.code, X.here, X.tail, X.warmed, ?_, ?_, ?_⟩
  · have h := X.room
    have hU : ((T.setVm s.vm).setFrames (.invoking m args :: below)).localsInUse = s.localsInUse := by
      rw [State.localsInUse_invoking hF (meth := meth) (c := c) X.method X.code, State.localsInUse_invoking X.frames X.method X.code]
    simp only [State.hasRoom, Bool.and_eq_true, decide_eq_true_eq] at h ⊢
    obtain ⟨⟨⟨⟨h1, h2, h3, h4, h5, h6⟩, h7⟩, h8⟩, h9⟩ := h
    rw [X.frames, List.length_cons] at h2 h3
    have q1 := X.heapSize
    have q2 := X.used
    simp only [hF, hU, List.length_cons, State.stackLimits_setFrames, State.stackBytes_setFrames, hl9, hb9]
    refine ⟨⟨⟨⟨by omega, by omega, by omega, by omega, by omega, h6⟩, ?_⟩, ?_⟩, X.book⟩
    · show T.heap.size + R'.cells ≤ e.platform.maxCells
      omega
    · show T.slotsUsed + R'.slots ≤ e.platform.maxSlots
      omega
  · rw [State.stackLimits_setFrames]; rfl
  · rw [State.stackBytes_setFrames]; rfl
  · refine ⟨?_, Nat.le_refl _, Nat.le_refl _, ?_, ?_, fun a c9 h9 => ⟨c9, h9, rfl, rfl, fun _ _ => rfl⟩⟩
    · obtain ⟨t, ht, -⟩ := State.frames_cons hr
      show T.setVm s.vm = { ((T.setVm s.vm).setFrames (.invoking m args :: below)).setFrames (T.setVm s.vm).frames with heap := T.heap, slotsUsed := T.slotsUsed }
      rw [State.setFrames_setFrames, State.setFrames_self ht]
      rfl
    · show T.slotsUsed = T.slotsUsed + ((T.heap.toList.drop T.heap.size).map (·.slots.size)).sum
      rw [List.drop_eq_nil_of_le (Nat.le_of_eq Array.length_toList)]
      rfl
    · show ((T.heap.toList.drop T.heap.size).map (·.slots.size)).sum ≤ 0
      rw [List.drop_eq_nil_of_le (Nat.le_of_eq Array.length_toList)]
      exact Nat.le_refl _
/-- 'throw new E()': new; dup; invokespecial; athrow -/
theorem vx_throw0 {cc : ByteArray} {pc : Nat} (hexec : p.tables.exec = Jvm.exec) (hb : c.code = cc) (hl : l.stackTraces = false) {own cls : String} {names : List String} {ik ic mc ms : Nat} {A : Nat → Prop}
    (hown : s.vm.findClass own = some m.cls) (hcls : Bundle.fit cls = true) (hnames : ∀ n ∈ names, Bundle.fit n = true)
    (hk : (Cond.classLink own ik cls).before args s = true) (hini : (Cond.initialized cls).before args s = true) (hat : ∀ w ∈ vx_at0 own ic cls names, w.before args s = true)
    (hgood : ∀ w ∈ Cond.classLink own ik cls :: Cond.initialized cls :: vx_at0 own ic cls names, vx_ot w = true)
    (hU : vx_Zq Bundle.tN "UNASSIGNED_STACK" Bundle.steD A s s.heap) (hN : vx_Zq Bundle.tN "SUPPRESSED_SENTINEL" Bundle.listD A s s.heap) (hS : va_S A s.heap H locs) (hsize : ls.size = c.maxLocals)
    (d0 : decode cc pc = .ok (.new ik, 3)) (d3 : decode cc (pc + 3) = .ok (.dup, 1)) (d4 : decode cc (pc + 4) = .ok (.invokespecial ic, 3)) (d7 : decode cc (pc + 7) = .ok (.athrow, 1))
    (hout : ∀ x ∈ c.exceptionTable.toList, covers x (pc + 7) = false)
    (hRframes : names.length + 3 < R.frames) (hRlocals : (rest.map fun v => v.category).sum + (13 * (names.length + 1) + 42) ≤ R.locals) (hRcells : cells + 1 ≤ R.cells) (hRslots : slots + 6 ≤ R.slots) (hlocks : meth.locks = false)
    (hx : ∀ t : State, s.vm.Alike t.vm → H.size ≤ t.heap.size → (∀ q : Nat, q < H.size → t.heap[q]? = H[q]?) → XC cls s t)
    (hf : ∀ z ∈ locs, free z.base) (hc : cells + 1 ≤ mc) (hs : slots + 6 ≤ ms) :
    W p l e R s m args below meth c H locs cells slots (vx_MQ below Qc XC args s mc ms free) (F0 m pc ls rest) := by
  intro T hT X
  have htr : e.platform.stackTraces = false := (show e.platform.stackTraces = l.stackTraces by rw [X.admits.platform]).trans hl
  have Y := vx_rebase X (R' := { frames := R.frames, locals := R.locals, cells := 1, slots := 6 }) (Nat.le_refl _) (Nat.le_refl _) hRcells hRslots
  obtain ⟨s', hA⟩ : ∃ z, z = (T.setVm s.vm).setFrames (.invoking m args :: below) := ⟨_, rfl⟩
  rw [← hA] at Y
  have hvm : s'.vm = s.vm := by rw [hA]; rfl
  have hhp : s'.heap = H := by rw [hA]; exact hT
  have hW0 : s.WarmedH s'.vm := by rw [hvm]; exact State.WarmedH.refl s
  have hat' : ∀ w ∈ vx_at0 own ic cls names, w.before args s' = true := fun w hw => vx_ot_at hW0 hvm.symm (hgood w (List.mem_cons_of_mem _ (List.mem_cons_of_mem _ hw))) (hat w hw)
  have hk' : (Cond.classLink own ik cls).before args s' = true := vx_ot_at hW0 hvm.symm (hgood _ List.mem_cons_self) hk
  have hini' : (Cond.initialized cls).before args s' = true := vx_ot_at hW0 hvm.symm (hgood _ (List.mem_cons_of_mem _ List.mem_cons_self)) hini
  have hU' : vx_Zq Bundle.tN "UNASSIGNED_STACK" Bundle.steD A s' s'.heap := by rw [hhp]; exact vx_Zq.moved hW0.alike (hU.kept hS.2.1)
  have hN' : vx_Zq Bundle.tN "SUPPRESSED_SENTINEL" Bundle.listD A s' s'.heap := by rw [hhp]; exact vx_Zq.moved hW0.alike (hN.kept hS.2.1)
  have h : ∀ w ∈ Bundle.ownAtoms0 own ic cls names, w.before args s' = true := vx_own hat' (vx_isRefq hU'.1) (vx_isRefq hN'.1) hU'.2.word hN'.2.word
  have hown' : s'.vm.findClass own = some m.cls := by rw [hvm]; exact hown
  have hins : (Cond.instantiable cls 6).before args s' = true := h _ (by simp [Bundle.ownAtoms0])
  obtain ⟨vm₁, cX, kX, hfX, hkX, -, -, X₁, st1⟩ := Y.newCold hexec (own := own) (C := cls) (index := ik) (n := 6) hown' hk' hins hini'
    (g := F0 m pc ls rest) rfl (by rw [hb]; exact d0) (Nat.le_refl _) (Nat.le_refl _)
  generalize hT1 : (T.setVm vm₁).pushCell { cls := cX, slots := kX.instanceTypes.map defaultValue, vm := .none } = T1 at X₁ st1
  have hcat : (Value.ref T.heap.size).category = 1 := rfl
  have hcellA : T1.heap[T.heap.size]? = some (freshCell cX kX) := by rw [← hT1]; exact State.heap_pushCell_size _ _
  have d3' : decode c.code (pc + 3) = .ok (.dup, 1) := by rw [hb]; exact d3
  obtain ⟨U, hsteps, hrun, hend, hW, hsame, ce, hce, hO⟩ := X₁.ctorThrow0 hexec htr (own := own) (cls := cls) (names := names) (ic := ic) hown' hcls hnames h (fun x hx => nomatch hx) hfX hkX hcellA (by rw [hhp, hT]; exact Nat.le_refl _)
    (g := { method := m, pc := pc + 4, locals := ls, stack := .ref T.heap.size :: .ref T.heap.size :: rest, locked := none }) rfl hsize rfl rfl (rest := rest) rfl
    (by rw [hb]; exact d4) (by rw [hb]; exact d7) hout hRframes (by simp only [List.map_cons, List.sum_cons, hcat]; omega) hlocks
  obtain ⟨f1, f2⟩ := vx_frame hsame
  rw [hhp] at f1 f2
  have hWs : s.WarmedH U.vm := State.WarmedH.trans hW0 hW
  have hcl : s.vm.findClass cls = some ce.cls := by
    have h9 := hO.cls
    rw [hvm] at h9
    exact h9
  have hall : s.sameButNew ({ U with vm := s.vm } : State) locs mc ms := by
    subst hA
    obtain ⟨e1, e2⟩ := hsame
    rw [State.setFrames_setFrames] at e1
    have h2 : (T.setVm s.vm).sameButNew ({ U with vm := s.vm } : State) [] (0 + 1) (0 + 6) := ⟨e1, e2⟩
    have h3 := X.same.trans h2
    rw [List.append_nil] at h3
    exact h3.mono hc hs
  refine ⟨U, ?_, .threw T.heap.size, hrun, hend, Or.inr ⟨T.heap.size, rfl, cls, ce, locs, hx U hWs.alike f1 (fun q hq => f2 q hq (fun z hz => nomatch hz)), hce, hO.vm, hcl, hWs, hall, hf⟩⟩
  refine st1 _ ?_
  show Steps p.tables e below (T1.setTop { method := m, pc := pc + 3, locals := ls, stack := .ref T.heap.size :: rest, locked := none }) _
  jvm_step X₁.here [X₁.here.top, hexec, d3', Value.category]
  exact hsteps
/-- 'throw new E("text")': new; dup; ldc; invokespecial; athrow -/
theorem vx_throwS {cc : ByteArray} {pc : Nat} (hexec : p.tables.exec = Jvm.exec) (hb : c.code = cc) (hl : l.stackTraces = false) {own cls text : String} {names : List String} {ik is ic mc ms sa : Nat} {A : Nat → Prop}
    (hown : s.vm.findClass own = some m.cls) (hcls : Bundle.fit cls = true) (hnames : ∀ n ∈ names, Bundle.fit n = true)
    (hk : (Cond.classLink own ik cls).before args s = true) (hini : (Cond.initialized cls).before args s = true) (hstr : vk_R own is text sa s) (hat : ∀ w ∈ vx_atS own ic cls names, w.before args s = true)
    (hgood : ∀ w ∈ Cond.classLink own ik cls :: Cond.initialized cls :: vx_atS own ic cls names, vx_ot w = true)
    (hU : vx_Zq Bundle.tN "UNASSIGNED_STACK" Bundle.steD A s s.heap) (hN : vx_Zq Bundle.tN "SUPPRESSED_SENTINEL" Bundle.listD A s s.heap) (hS : va_S A s.heap H locs) (hsize : ls.size = c.maxLocals)
    (d0 : decode cc pc = .ok (.new ik, 3)) (d3 : decode cc (pc + 3) = .ok (.dup, 1)) (d4 : decode cc (pc + 4) = .ok (.ldc is, 2)) (d6 : decode cc (pc + 6) = .ok (.invokespecial ic, 3)) (d9 : decode cc (pc + 9) = .ok (.athrow, 1))
    (hout : ∀ x ∈ c.exceptionTable.toList, covers x (pc + 9) = false)
    (hRframes : names.length + 3 < R.frames) (hRlocals : (rest.map fun v => v.category).sum + (13 * (names.length + 1) + 43) ≤ R.locals) (hRcells : cells + 1 ≤ R.cells) (hRslots : slots + 6 ≤ R.slots) (hlocks : meth.locks = false)
    (hx : ∀ t : State, s.vm.Alike t.vm → H.size ≤ t.heap.size → (∀ q : Nat, q < H.size → t.heap[q]? = H[q]?) → XC cls s t)
    (hf : ∀ z ∈ locs, free z.base) (hc : cells + 1 ≤ mc) (hs : slots + 6 ≤ ms) :
    W p l e R s m args below meth c H locs cells slots (vx_MQ below Qc XC args s mc ms free) (F0 m pc ls rest) := by
  intro T hT X
  have htr : e.platform.stackTraces = false := (show e.platform.stackTraces = l.stackTraces by rw [X.admits.platform]).trans hl
  have Y := vx_rebase X (R' := { frames := R.frames, locals := R.locals, cells := 1, slots := 6 }) (Nat.le_refl _) (Nat.le_refl _) hRcells hRslots
  obtain ⟨s', hA⟩ : ∃ z, z = (T.setVm s.vm).setFrames (.invoking m args :: below) := ⟨_, rfl⟩
  rw [← hA] at Y
  have hvm : s'.vm = s.vm := by rw [hA]; rfl
  have hhp : s'.heap = H := by rw [hA]; exact hT
  have hW0 : s.WarmedH s'.vm := by rw [hvm]; exact State.WarmedH.refl s
  have hat' : ∀ w ∈ vx_atS own ic cls names, w.before args s' = true := fun w hw => vx_ot_at hW0 hvm.symm (hgood w (List.mem_cons_of_mem _ (List.mem_cons_of_mem _ hw))) (hat w hw)
  have hk' : (Cond.classLink own ik cls).before args s' = true := vx_ot_at hW0 hvm.symm (hgood _ List.mem_cons_self) hk
  have hini' : (Cond.initialized cls).before args s' = true := vx_ot_at hW0 hvm.symm (hgood _ (List.mem_cons_of_mem _ List.mem_cons_self)) hini
  have hU' : vx_Zq Bundle.tN "UNASSIGNED_STACK" Bundle.steD A s' s'.heap := by rw [hhp]; exact vx_Zq.moved hW0.alike (hU.kept hS.2.1)
  have hN' : vx_Zq Bundle.tN "SUPPRESSED_SENTINEL" Bundle.listD A s' s'.heap := by rw [hhp]; exact vx_Zq.moved hW0.alike (hN.kept hS.2.1)
  have h : ∀ w ∈ Bundle.ownAtoms own ic cls names, w.before args s' = true := vx_own hat' (vx_isRefq hU'.1) (vx_isRefq hN'.1) hU'.2.word hN'.2.word
  have hown' : s'.vm.findClass own = some m.cls := by rw [hvm]; exact hown
  have hins : (Cond.instantiable cls 6).before args s' = true := h _ (by simp [Bundle.ownAtoms])
  obtain ⟨vm₁, cX, kX, hfX, hkX, -, -, X₁, st1⟩ := Y.newCold hexec (own := own) (C := cls) (index := ik) (n := 6) hown' hk' hins hini'
    (g := F0 m pc ls rest) rfl (by rw [hb]; exact d0) (Nat.le_refl _) (Nat.le_refl _)
  generalize hT1 : (T.setVm vm₁).pushCell { cls := cX, slots := kX.instanceTypes.map defaultValue, vm := .none } = T1 at X₁ st1
  have hcat : (Value.ref T.heap.size).category = 1 := rfl
  have hcellA : T1.heap[T.heap.size]? = some (freshCell cX kX) := by rw [← hT1]; exact State.heap_pushCell_size _ _
  have d3' : decode c.code (pc + 3) = .ok (.dup, 1) := by rw [hb]; exact d3
  have d4' : decode c.code (pc + 4) = .ok (.ldc is, 2) := by rw [hb]; exact d4
  have hstr' : vk_R own is text sa s' := vk_R.warm hW0 hstr
  obtain ⟨U, hsteps, hrun, hend, hW, hsame, ce, hce, hO⟩ := X₁.ctorThrowS hexec htr (own := own) (cls := cls) (names := names) (ic := ic) hown' hcls hnames h (fun x hx => nomatch hx) hfX hkX hcellA (by rw [hhp, hT]; exact Nat.le_refl _) (msg := .ref sa) rfl
    (g := { method := m, pc := pc + 6, locals := ls, stack := .ref sa :: .ref T.heap.size :: .ref T.heap.size :: rest, locked := none }) rfl hsize rfl rfl (rest := rest) rfl
    (by rw [hb]; exact d6) (by rw [hb]; exact d9) hout hRframes (by simp only [List.map_cons, List.sum_cons, hcat]; omega) hlocks
  obtain ⟨f1, f2⟩ := vx_frame hsame
  rw [hhp] at f1 f2
  have hWs : s.WarmedH U.vm := State.WarmedH.trans hW0 hW
  have hcl : s.vm.findClass cls = some ce.cls := by
    have h9 := hO.cls
    rw [hvm] at h9
    exact h9
  have hall : s.sameButNew ({ U with vm := s.vm } : State) locs mc ms := by
    subst hA
    obtain ⟨e1, e2⟩ := hsame
    rw [State.setFrames_setFrames] at e1
    have h2 : (T.setVm s.vm).sameButNew ({ U with vm := s.vm } : State) [] (0 + 1) (0 + 6) := ⟨e1, e2⟩
    have h3 := X.same.trans h2
    rw [List.append_nil] at h3
    exact h3.mono hc hs
  refine ⟨U, ?_, .threw T.heap.size, hrun, hend, Or.inr ⟨T.heap.size, rfl, cls, ce, locs, hx U hWs.alike f1 (fun q hq => f2 q hq (fun z hz => nomatch hz)), hce, hO.vm, hcl, hWs, hall, hf⟩⟩
  refine st1 _ ?_
  show Steps p.tables e below (T1.setTop { method := m, pc := pc + 3, locals := ls, stack := .ref T.heap.size :: rest, locked := none }) _
  jvm_step X₁.here [X₁.here.top, hexec, d3', Value.category]
  exact X₁.ldcString hexec (own := own) (text := text) (index := is) (a := sa) hown' hstr'.1 hstr'.2
    (g := { method := m, pc := pc + 4, locals := ls, stack := .ref T.heap.size :: .ref T.heap.size :: rest, locked := none }) rfl d4' _ hsteps
/-- 'throw new E("text")', the text by a wide index -/
theorem vx_throwSW {cc : ByteArray} {pc : Nat} (hexec : p.tables.exec = Jvm.exec) (hb : c.code = cc) (hl : l.stackTraces = false) {own cls text : String} {names : List String} {ik is ic mc ms sa : Nat} {A : Nat → Prop}
    (hown : s.vm.findClass own = some m.cls) (hcls : Bundle.fit cls = true) (hnames : ∀ n ∈ names, Bundle.fit n = true)
    (hk : (Cond.classLink own ik cls).before args s = true) (hini : (Cond.initialized cls).before args s = true) (hstr : vk_R own is text sa s) (hat : ∀ w ∈ vx_atS own ic cls names, w.before args s = true)
    (hgood : ∀ w ∈ Cond.classLink own ik cls :: Cond.initialized cls :: vx_atS own ic cls names, vx_ot w = true)
    (hU : vx_Zq Bundle.tN "UNASSIGNED_STACK" Bundle.steD A s s.heap) (hN : vx_Zq Bundle.tN "SUPPRESSED_SENTINEL" Bundle.listD A s s.heap) (hS : va_S A s.heap H locs) (hsize : ls.size = c.maxLocals)
    (d0 : decode cc pc = .ok (.new ik, 3)) (d3 : decode cc (pc + 3) = .ok (.dup, 1)) (d4 : decode cc (pc + 4) = .ok (.ldc_w is, 3)) (d7 : decode cc (pc + 7) = .ok (.invokespecial ic, 3)) (d10 : decode cc (pc + 10) = .ok (.athrow, 1))
    (hout : ∀ x ∈ c.exceptionTable.toList, covers x (pc + 10) = false)
    (hRframes : names.length + 3 < R.frames) (hRlocals : (rest.map fun v => v.category).sum + (13 * (names.length + 1) + 43) ≤ R.locals) (hRcells : cells + 1 ≤ R.cells) (hRslots : slots + 6 ≤ R.slots) (hlocks : meth.locks = false)
    (hx : ∀ t : State, s.vm.Alike t.vm → H.size ≤ t.heap.size → (∀ q : Nat, q < H.size → t.heap[q]? = H[q]?) → XC cls s t)
    (hf : ∀ z ∈ locs, free z.base) (hc : cells + 1 ≤ mc) (hs : slots + 6 ≤ ms) :
    W p l e R s m args below meth c H locs cells slots (vx_MQ below Qc XC args s mc ms free) (F0 m pc ls rest) := by
  intro T hT X
  have htr : e.platform.stackTraces = false := (show e.platform.stackTraces = l.stackTraces by rw [X.admits.platform]).trans hl
  have Y := vx_rebase X (R' := { frames := R.frames, locals := R.locals, cells := 1, slots := 6 }) (Nat.le_refl _) (Nat.le_refl _) hRcells hRslots
  obtain ⟨s', hA⟩ : ∃ z, z = (T.setVm s.vm).setFrames (.invoking m args :: below) := ⟨_, rfl⟩
  rw [← hA] at Y
  have hvm : s'.vm = s.vm := by rw [hA]; rfl
  have hhp : s'.heap = H := by rw [hA]; exact hT
  have hW0 : s.WarmedH s'.vm := by rw [hvm]; exact State.WarmedH.refl s
  have hat' : ∀ w ∈ vx_atS own ic cls names, w.before args s' = true := fun w hw => vx_ot_at hW0 hvm.symm (hgood w (List.mem_cons_of_mem _ (List.mem_cons_of_mem _ hw))) (hat w hw)
  have hk' : (Cond.classLink own ik cls).before args s' = true := vx_ot_at hW0 hvm.symm (hgood _ List.mem_cons_self) hk
  have hini' : (Cond.initialized cls).before args s' = true := vx_ot_at hW0 hvm.symm (hgood _ (List.mem_cons_of_mem _ List.mem_cons_self)) hini
  have hU' : vx_Zq Bundle.tN "UNASSIGNED_STACK" Bundle.steD A s' s'.heap := by rw [hhp]; exact vx_Zq.moved hW0.alike (hU.kept hS.2.1)
  have hN' : vx_Zq Bundle.tN "SUPPRESSED_SENTINEL" Bundle.listD A s' s'.heap := by rw [hhp]; exact vx_Zq.moved hW0.alike (hN.kept hS.2.1)
  have h : ∀ w ∈ Bundle.ownAtoms own ic cls names, w.before args s' = true := vx_own hat' (vx_isRefq hU'.1) (vx_isRefq hN'.1) hU'.2.word hN'.2.word
  have hown' : s'.vm.findClass own = some m.cls := by rw [hvm]; exact hown
  have hins : (Cond.instantiable cls 6).before args s' = true := h _ (by simp [Bundle.ownAtoms])
  obtain ⟨vm₁, cX, kX, hfX, hkX, -, -, X₁, st1⟩ := Y.newCold hexec (own := own) (C := cls) (index := ik) (n := 6) hown' hk' hins hini'
    (g := F0 m pc ls rest) rfl (by rw [hb]; exact d0) (Nat.le_refl _) (Nat.le_refl _)
  generalize hT1 : (T.setVm vm₁).pushCell { cls := cX, slots := kX.instanceTypes.map defaultValue, vm := .none } = T1 at X₁ st1
  have hcat : (Value.ref T.heap.size).category = 1 := rfl
  have hcellA : T1.heap[T.heap.size]? = some (freshCell cX kX) := by rw [← hT1]; exact State.heap_pushCell_size _ _
  have d3' : decode c.code (pc + 3) = .ok (.dup, 1) := by rw [hb]; exact d3
  have d4' : decode c.code (pc + 4) = .ok (.ldc_w is, 3) := by rw [hb]; exact d4
  have hstr' : vk_R own is text sa s' := vk_R.warm hW0 hstr
  obtain ⟨U, hsteps, hrun, hend, hW, hsame, ce, hce, hO⟩ := X₁.ctorThrowS hexec htr (own := own) (cls := cls) (names := names) (ic := ic) hown' hcls hnames h (fun x hx => nomatch hx) hfX hkX hcellA (by rw [hhp, hT]; exact Nat.le_refl _) (msg := .ref sa) rfl
    (g := { method := m, pc := pc + 7, locals := ls, stack := .ref sa :: .ref T.heap.size :: .ref T.heap.size :: rest, locked := none }) rfl hsize rfl rfl (rest := rest) rfl
    (by rw [hb]; exact d7) (by rw [hb]; exact d10) hout hRframes (by simp only [List.map_cons, List.sum_cons, hcat]; omega) hlocks
  obtain ⟨f1, f2⟩ := vx_frame hsame
  rw [hhp] at f1 f2
  have hWs : s.WarmedH U.vm := State.WarmedH.trans hW0 hW
  have hcl : s.vm.findClass cls = some ce.cls := by
    have h9 := hO.cls
    rw [hvm] at h9
    exact h9
  have hall : s.sameButNew ({ U with vm := s.vm } : State) locs mc ms := by
    subst hA
    obtain ⟨e1, e2⟩ := hsame
    rw [State.setFrames_setFrames] at e1
    have h2 : (T.setVm s.vm).sameButNew ({ U with vm := s.vm } : State) [] (0 + 1) (0 + 6) := ⟨e1, e2⟩
    have h3 := X.same.trans h2
    rw [List.append_nil] at h3
    exact h3.mono hc hs
  refine ⟨U, ?_, .threw T.heap.size, hrun, hend, Or.inr ⟨T.heap.size, rfl, cls, ce, locs, hx U hWs.alike f1 (fun q hq => f2 q hq (fun z hz => nomatch hz)), hce, hO.vm, hcl, hWs, hall, hf⟩⟩
  refine st1 _ ?_
  show Steps p.tables e below (T1.setTop { method := m, pc := pc + 3, locals := ls, stack := .ref T.heap.size :: rest, locked := none }) _
  jvm_step X₁.here [X₁.here.top, hexec, d3', Value.category]
  exact X₁.ldcStringW hexec (own := own) (text := text) (index := is) (a := sa) hown' hstr'.1 hstr'.2
    (g := { method := m, pc := pc + 4, locals := ls, stack := .ref T.heap.size :: .ref T.heap.size :: rest, locked := none }) rfl d4' _ hsteps
end Ends
section Bodies
variable {l : Launch}
theorem vx_ofW {y : MethodName} {ws ws' : List Cond} {rm : Room} {Pc : Array Value → State → Prop} {Qc : Array Value → State → Outcome → State → Prop} {XC : String → State → State → Prop} {mc ms : Nat} {free : Addr → Prop} {cc : ByteArray} {maxL : Nat} {ret : Option FieldType}
    (hy : plainName y.cls = true) (hw : ws = Cond.code y cc maxL ret :: ws')
    (body : ∀ p e s m args below meth c s₁, BodyLoose p l y (headSpec ws rm) cc maxL ret e s m args below meth c s₁ → c.maxLocals = maxL → (∀ x ∈ c.exceptionTable.toList, False) → Pc args s →
      W p l e (headSpec ws rm).room s m args below meth c s.heap [] 0 0 (vx_MQ below Qc XC args s mc ms free) (entryFrame m args maxL)) : vx_Met l y ws rm Pc Qc XC mc ms free := by
  refine MetFree.of_bodyS (code := cc) (maxLocals := maxL) (ret := ret) hy ?_ ?_
  · intro args s m h hn
    obtain ⟨meth, c, h1, h2, h3, h4, h5, h6, -, -⟩ := Cond.code_spec hn (atoms_spec (ws := ws) h _ (by rw [hw]; exact List.mem_cons_self))
    exact ⟨meth, c, h1, h2, h3, h4, h5, h6⟩
  · intro p e s m args below meth c s₁ B hml hP _
    have hh0 : s₁.heap = s.heap := by rw [B.state]; rfl
    have ht : ∀ x ∈ c.exceptionTable.toList, False := by
      obtain ⟨meth9, c9, h1, h2, -, -, -, -, h7, -⟩ := Cond.code_spec B.named (atoms_spec (ws := ws) B.pre _ (by rw [hw]; exact List.mem_cons_self))
      cases Option.some.inj (h1.symm.trans B.method)
      cases Option.some.inj (h2.symm.trans (Stand.of_body B).code)
      intro x hx
      rw [Array.isEmpty_iff.mp h7] at hx
      cases hx
    obtain ⟨t, a1, o, b1, b2, b3⟩ := body p e s m args below meth c s₁ B hml ht hP s₁ hh0 (Stand.of_body B)
    exact ⟨t, o, a1, b1, b2, b3⟩
/-- the table of a body with handlers -/
theorem vx_table {p : Program} {x y : MethodName} {S : Spec} {cc bytes : ByteArray} {maxL maxL' : Nat} {ret ret' : Option FieldType} {e : Env} {s s₁ : State} {m : MethodId} {args : Array Value} {below : List Frame} {meth : Method} {c : Code} {hh : List (Nat × Nat × Nat × Nat)}
    (B : BodyLoose p l y S cc maxL ret e s m args below meth c s₁) (h : (Cond.codeWith y bytes maxL' ret' hh).before args s = true) : c.exceptionTable.toList = tableOf hh := by
  obtain ⟨m9, meth9, c9, hn9, h1, h2, -, -, h6, -⟩ := Cond.codeWith_spec h
  cases Option.some.inj (hn9.symm.trans B.named)
  cases Option.some.inj (h1.symm.trans B.method)
  cases Option.some.inj (h2.symm.trans (Stand.of_body B).code)
  rw [← h6, table_eq]
end Bodies
end VXA
/-! ===== END ===== -/
/-! ===== BEGIN a static call of a method with an exception table ===== -/
section VXS
variable {p : Program} {l : Launch} {e : Env} {R : Room} {s : State} {m : MethodId} {args : Array Value} {below : List Frame} {meth : Method} {c : Code} {T : State} {H : Heap} {locs : List Loc} {cells slots : Nat}
abbrev vx_CSW (R : Room) (s : State) (args : Array Value) (own : String) (index : Nat) (y : MethodName) (bytes : ByteArray) (maxL : Nat) (ret : Option FieldType) (hh : List (Nat × Nat × Nat × Nat)) (ws : List Cond) (rm : Room) (mc ms n : Nat) : Prop :=
  (rm.cells = mc ∧ rm.slots = ms ∧ rm.frames + 1 ≤ R.frames ∧ 8 + (maxL + 11) + rm.locals ≤ R.locals ∧ (∀ w ∈ ws, ∀ (a' : Array Value) (U : State), s.WarmedH U.vm → w.before a' U = true) ∧ Cond.codeWith y bytes maxL ret hh ∈ ws) ∧
  (Cond.codeWith y bytes maxL ret hh).before args s = true ∧ (Cond.initialized y.cls).before args s = true ∧ (y.cls ≠ "java/lang/invoke/MethodHandle" ∧ y.cls ≠ "java/lang/invoke/VarHandle") ∧
  (∀ sig, parseMethodDescriptor y.desc = some sig → n = sig.parameters.length) ∧ (Cond.methodLink own index y).before args s = true ∧ (Cond.static y).before args s = true
theorem vx_cwSW {own : String} {index maxL mc ms : Nat} {y : MethodName} {bytes : ByteArray} {ret : Option FieldType} {hh : List (Nat × Nat × Nat × Nat)} {Ts ws ws' : List Cond} {rm : Room} (n : Nat) (ht : ∀ w ∈ Ts, w.before args s = true) (hT : GoodIn Ts (va_wsS own index y ws)) (hw : ws = Cond.codeWith y bytes maxL ret hh :: ws') (hrc : rm.cells = mc) (hrs : rm.slots = ms)
    (hd : y.cls ≠ "java/lang/invoke/MethodHandle" ∧ y.cls ≠ "java/lang/invoke/VarHandle" ∧ (parseMethodDescriptor y.desc).map (fun d => d.parameters.length) = some n) (hR : rm.frames + 1 ≤ R.frames ∧ 8 + (maxL + 11) + rm.locals ≤ R.locals) :
    vx_CSW R s args own index y bytes maxL ret hh ws rm mc ms n := by
  have ok : ∀ w ∈ va_wsS own index y ws, w.before args s = true := fun w h => ht w (hT w h).1
  have hG : GoodIn Ts ws := fun w h => hT w (by unfold va_wsS; exact List.mem_append_right _ h)
  have hc : Cond.codeWith y bytes maxL ret hh ∈ ws := by rw [hw]; exact List.mem_cons_self
  refine ⟨⟨hrc, hrs, hR.1, hR.2, pay_in ht hG, hc⟩, ht _ (hG _ hc).1, ok _ (by simp [va_wsS]), ⟨hd.1, hd.2.1⟩, fun sig h => ?_, ok _ (by simp [va_wsS]), ok _ (by simp [va_wsS])⟩
  have h2 := hd.2.2
  rw [h] at h2
  exact (Option.some.inj h2).symm
theorem vx_callSW (X : Stand p l e R s m args below meth c T locs cells slots) (hexec : p.tables.exec = Jvm.exec) {own : String} {index : Nat} {y : MethodName} {bytes : ByteArray} {maxL : Nat} {ret : Option FieldType} {hh : List (Nat × Nat × Nat × Nat)}
    (hown : s.vm.findClass own = some m.cls) (hlink : (Cond.methodLink own index y).before args s = true) (hstat : (Cond.static y).before args s = true) (hinit : (Cond.initialized y.cls).before args s = true)
    (hcode : (Cond.codeWith y bytes maxL ret hh).before args s = true) (hy : y.cls ≠ "java/lang/invoke/MethodHandle" ∧ y.cls ≠ "java/lang/invoke/VarHandle")
    {W9 : Nat} {Pre : Pt → Array Value → Prop} {Post : Pt → Array Value → Option Value → Pt → Prop} (hK : Back l R p e below s args y 3 W9 Pre Post)
    {g : JFrame} (hg : g.method = m) (hsize : g.locals.size = c.maxLocals) {argsL rest : List Value} (hlen : ∀ sig, parseMethodDescriptor y.desc = some sig → argsL.length = sig.parameters.length)
    (hstack : g.stack = argsL.reverse ++ rest) (hW : 2 * g.monitorRoom + (rest.map fun v => v.category).sum ≤ W9) (hdg : decode c.code g.pc = .ok (.invokestatic index, 3))
    (hpre : ∀ vm₁, s.WarmedH vm₁ → Pre ⟨T.setVm vm₁, locs, cells, slots⟩ argsL.toArray) :
    ∃ (v : Option Value) (vm₁ : Vm) (B : Pt), s.WarmedH vm₁ ∧ Stand p l e R s m args below meth c B.U B.locs B.cells B.slots ∧ Post ⟨T.setVm vm₁, locs, cells, slots⟩ argsL.toArray v B ∧
      ∀ target, Steps p.tables e below (B.U.setTop { g with pc := g.pc + 3, stack := v.toList ++ rest }) target → Steps p.tables e below (T.setTop g) target := by
  obtain ⟨mk, methM, cM, hnamed, hmethM, -, -, -, -, -, -, hsigM⟩ := Cond.codeWith_spec hcode
  have hstatic : methM.isStatic = true := Cond.static_spec hnamed hmethM hstat
  obtain ⟨kP, hkP, -⟩ := className_of_methodNamed hnamed
  have hinitP : kP.init = .initialized := Cond.initialized_spec (findClass_of_methodNamed hnamed) hkP hinit
  obtain ⟨vm₁, X₁, hstep₁⟩ := X.invokestatic hexec hown hlink hnamed hmethM hstatic hkP hinitP hy (g := g) hg (argsL := argsL) (rest := rest) (hlen _ hsigM) hstack hdg
  obtain ⟨v, B, X', hpost, hsteps⟩ := hK m meth c ⟨T.setVm vm₁, locs, cells, slots⟩ { g with stack := rest } (.invokestatic index) mk argsL.toArray X₁ hg hsize hdg hW (X₁.named hnamed) (hpre vm₁ X₁.warmed)
  exact ⟨v, vm₁, B, X₁.warmed, X', hpost, fun target h => hstep₁ _ fun acts => by rw [doInvoke_state]; exact hsteps.trans h⟩
theorem vx_runSW {y : MethodName} {bytes cc : ByteArray} {maxL nL mc ms n index : Nat} {ret : Option FieldType} {hh : List (Nat × Nat × Nat × Nat)} {ws : List Cond} {rm : Room} {Pc : Array Value → State → Prop} {Qc : Array Value → State → Outcome → State → Prop} {free : Addr → Prop} {Ts : List Cond} {own : String} {As rest : List Value} {g : JFrame}
    (S : CallFix p m c cc nL s args Ts own) (hM : Met l y ws rm Pc Qc mc ms free) (cw : vx_CSW R s args own index y bytes maxL ret hh ws rm mc ms n) (hp : PreS s H Pc As)
    (hg : g.method = m) (hn : As.length = n) (hsize : g.locals.size = nL) (hstack : g.stack = As.reverse ++ rest) (hW : 2 * g.monitorRoom + (rest.map fun v => v.category).sum ≤ 8) (hdg : decode cc g.pc = .ok (.invokestatic index, 3)) (hf : cells + mc ≤ R.cells ∧ slots + ms ≤ R.slots) :
    va_Run p l e R s m args below meth c H locs cells slots mc ms g rest (Qc As.toArray) (free) := by
  obtain ⟨⟨hrc, hrs, hfr, hlo, hws, hcw⟩, hcode, hini, hy, hlen, hl, hstt⟩ := cw
  have hK : Back l R p e below s args y 3 8 (PreOf R mc ms Pc) (PostOf Qc mc ms free) := va_backW (hh := hh) (bytes := bytes) (maxL := maxL) (ret := ret) hM hp.1 hrc hrs hfr hlo hws hcw (fun a' U hW => word_at hW (Or.inl (by first | rfl | simp [Cond.onTables, Cond.keeps, Cond.steady])) hini)
  obtain ⟨hx, hb, hml, ho, -⟩ := S
  intro T hT X
  obtain ⟨v, vm₁, ⟨U', l2, c2, s2⟩, hW₁, X', ⟨g', mk, t, L, e1, e2, hq, h1, hL, h2, h3⟩, st⟩ := vx_callSW X hx (hh := hh) (bytes := bytes) (maxL := maxL) (ret := ret) ho hl hstt hini hcode hy hK hg (hsize.trans hml.symm) (argsL := As) (rest := rest) (fun sig h => hn.trans (hlen sig h)) hstack hW (by rw [hb]; exact hdg)
    (fun vm₁ hW₁ => ⟨hf.1, hf.2, hp.2 (T.setVm vm₁) hT hW₁⟩)
  dsimp only [Pt.U, Pt.locs, Pt.cells, Pt.slots] at X' e1 e2 h1 h2 h3 st
  subst h1; subst h2; subst h3
  exact ⟨v, (T.setVm vm₁).calling g' mk As.toArray, t, U', L, hT, X', hL, e1, e2, hq, st⟩
/-- not caught here, past rows that name other classes: it goes on to the caller -/
theorem vx_outP {p : Program} {l : Launch} {e : Env} {R : Room} {s : State} {m : MethodId} {args : Array Value} {below : List Frame} {meth : Method} {c : Code} {H : Heap} {locs : List Loc} {cells slots : Nat} {free : Addr → Prop} {ls : Array Slot} {rest : List Value} {Qc : Array Value → State → Outcome → State → Prop} {XC : String → State → State → Prop}
    {pc : Nat} {own E : String} {ce : Cell} {q : Addr} {mc ms : Nat} (hown : s.vm.findClass own = some m.cls) (hlocks : meth.locks = false)
    (hpass : ∀ z ∈ c.exceptionTable.toList, covers z pc = false ∨ (z.catchType ≠ 0 ∧ ∃ nm : String, (Cond.classLink own z.catchType nm).before args s = true ∧ va_Nc E nm s)) (hcell : H[q]? = some ce) (hv : ce.vm = .none) (hcl : s.vm.findClass E = some ce.cls)
    (hx : ∀ t : State, t.heap = H → s.vm.Alike t.vm → XC E s t) (hf : ∀ z ∈ locs, free z.base) (hc : cells ≤ mc) (hs : slots ≤ ms) :
    vx_W p l e R s m args below meth c H locs cells slots (vx_MQ below Qc XC args s mc ms free) (F0 m pc ls rest) q := by
  intro T hT X
  have hpl : e.platform.magicAccessors = ({} : Platform).magicAccessors := by rw [X.admits.platform]
  obtain ⟨vm', hW', X', st⟩ := X.outThrough hlocks q (g := F0 m pc ls rest) rfl rfl rfl (cell := ce) (by rw [hT]; exact hcell) (by rw [hv]; rfl)
    (by obtain ⟨k9, h9, -⟩ := Vm.findClass_spec hcl; exact ⟨k9, h9⟩) (fun z hz => by
      rcases hpass z hz with h | ⟨hz0, nm, hl1, hn1⟩
      · exact Or.inl h
      · obtain ⟨c6, hc6, hcl6⟩ := Cond.classLink_spec hown hl1 e.platform hpl
        obtain ⟨a8, b8, h1, h2, h3⟩ := hn1
        cases Option.some.inj (h1.symm.trans hcl)
        cases Option.some.inj (h2.symm.trans hc6)
        exact Or.inr ⟨hz0, _, hcl6, h3⟩)
  obtain ⟨g₀, hfr⟩ := X'.frames_eq
  have hcell9 : ((T.setVm vm').setFrames (.throwing q :: below)).heap[q]? = some ce := by
    show T.heap[q]? = some ce
    rw [hT]; exact hcell
  have hend : Ended ((T.setVm vm').setFrames (.throwing q :: below)) below (.threw q) := State.frames_setFrames _ (State.cur_lt_of_frames hfr)
  refine ⟨(T.setVm vm').setFrames (.throwing q :: below), ?_, .threw q, X'.here.running, hend, Or.inr ⟨q, rfl, E, ce, locs, hx _ hT (X'.ends _).1.alike, hcell9, hv, hcl, (X'.ends _).1, (X'.ends _).2.mono hc hs, hf⟩⟩
  rw [X.pushThrowing_eq]
  exact st
/-- a thing of a world lies in the heap -/
theorem vx_lt {D : va_G} {cl : List vw_C} {ws : va_W} {H1 : Heap} (h : va_P D cl ws H1) {k : Nat} {q : Nat × va_E} (hk : ws[k]? = some q) : q.1 < H1.size := (h k q hk).lt
end VXS
/-! ===== END ===== -/
/-! ===== BEGIN methods with a table of their own: called by a name, returning or throwing ===== -/
section VXH
/-! vx_backW, vx_callVX, vx_callSX, vx_callVW, vx_runVW, vx_runVX, vx_runSX, vx_ofWH follow the same proofs as their sisters above (Free/Laws.lean, Shelf42/LK1.lean); vx_outP calls Shelf42/NT130.lean (outThrough). -/
section
variable {l : Launch} {R : Room} {p : Program} {e : Env} {below : List Frame} {s : State} {sargs : Array Value} {y : MethodName} {len W9 : Nat}
theorem vx_backW {ws : List Cond} {rm : Room} {Pc : Array Value → State → Prop} {Qc : Array Value → State → Outcome → State → Prop} {XC : String → State → State → Prop} {mc ms : Nat} {free : Addr → Prop} {bytes : ByteArray} {maxL : Nat} {ret : Option FieldType} {hh : List (Nat × Nat × Nat × Nat)}
    (hM : vx_Met l y ws rm Pc Qc XC mc ms free) (hblind : FrameBlind Pc) (hrc : rm.cells = mc) (hrs : rm.slots = ms)
    (hframes : rm.frames + 1 ≤ R.frames) (hlocals : W9 + (maxL + 11) + rm.locals ≤ R.locals)
    (hws : ∀ w ∈ ws, ∀ a' U, s.WarmedH U.vm → w.before a' U = true) (hcode : Cond.codeWith y bytes maxL ret hh ∈ ws) (hinit : ∀ a' U, s.WarmedH U.vm → (Cond.initialized y.cls).before a' U = true) :
    vx_Back l R p e below s sargs y len W9 (PreOf R mc ms Pc) (PostOf Qc mc ms free) (vx_Post XC mc ms free) := by
  intro m meth c A g ig mk a X hg hsize hdg hW hn hp
  have h1 : (headSpec ws rm).pre.before a A.U = true := atoms_intro fun w hw => hws w hw _ _ X.warmed
  have h2 : (Cond.codeWith y bytes maxL ret hh).before a A.U = true := hws _ hcode _ _ X.warmed
  have h3 : (Cond.initialized y.cls).before a A.U = true := hinit _ _ X.warmed
  have h4 : A.cells + (headSpec ws rm).room.cells ≤ R.cells := by rw [show (headSpec ws rm).room.cells = mc from hrc]; exact hp.1
  have h5 : A.slots + (headSpec ws rm).room.slots ≤ R.slots := by rw [show (headSpec ws rm).room.slots = ms from hrs]; exact hp.2.1
  have hPc : Pc a (A.U.calling g mk a) := hblind _ _ _ _ hp.2.2
  obtain ⟨U, Ls, c0, s0⟩ := A
  dsimp only [Pt.U, Pt.locs, Pt.cells, Pt.slots] at h1 h2 h3 h4 h5 X hn hPc ⊢
  obtain ⟨m9, methY, cY, hn9, hmY, hcY, -, hlY, -⟩ := Cond.codeWith_spec h2
  cases Option.some.inj (hn9.symm.trans hn)
  obtain ⟨kY, hkY, -⟩ := className_of_methodNamed hn
  have hinitY : kY.init = .initialized := Cond.initialized_spec (findClass_of_methodNamed hn) hkY h3
  have h : At U g.method c below := by rw [hg]; exact X.here
  have hlocals9 : W9 + (maxL + 11) + (headSpec ws rm).room.locals ≤ R.locals := hlocals
  have happ : (headSpec ws rm).appliesLoose y e.platform (U.calling g mk a) = true :=
    Spec.appliesLoose_calling (g := g) h hdg hn hkY hinitY
      (X.room_calling (g := g) (R' := (headSpec ws rm).room) hsize hmY hcY hframes (by rw [hlY]; omega) h4 h5) h1
  obtain ⟨mid, hmid⟩ := h.above
  have hfr : (U.setTop g).frames = (.java g :: mid) ++ below := by rw [State.frames_setTop' g h.top, hmid]; rfl
  obtain ⟨o, s₂, hsteps, -, hend, hq⟩ := Steps.callFree hM p X.admits X.cas X.clock (acts := []) hfr happ hPc trivial
  have hq' : vx_Q Qc XC mc ms free a (U.calling g mk a) o s₂ := hq
  rw [State.frames_setTop' g h.top] at hend
  obtain ⟨g₀, hg0⟩ := Option.isSome_iff_exists.mp h.top
  obtain ⟨r, hr⟩ := State.topJava?_eq_some.mp hg0
  have hr' : (({ U with heap := s₂.heap, slotsUsed := s₂.slotsUsed } : State).setVm s₂.vm).frames = .java g₀ :: r := hr
  rcases hq' with ⟨hqc, L, hfe, hL⟩ | ⟨q, rfl, E, ce, L, hx, hce, hcv, hcl, hW₂, hsm, hL⟩
  · obtain ⟨⟨v, rfl⟩, hW₂, e2, q2, q3, q4, q5, q6⟩ := id hfe
    have e3 : s₂ = ({ (U.calling g mk a).setFrames s₂.frames with heap := s₂.heap, slotsUsed := s₂.slotsUsed } : State).setVm s₂.vm := by
      have : s₂ = ({ s₂ with vm := (U.calling g mk a).vm } : State).setVm s₂.vm := rfl
      rw [e2] at this
      exact this
    obtain ⟨c₂, i₂, len₂, hc₂, hd₂, hf₂⟩ := hend
    have hW' : U.WarmedH s₂.vm := hW₂
    have hcc : c₂ = c := by
      have h1 : s₂.code? g.method = U.code? g.method := by
        rw [State.code?_eq, State.code?_eq, hW'.alike.method?]
      exact Option.some.inj (hc₂.symm.trans (h1.trans h.code))
    subst hcc
    have hlen : len₂ = len := by rw [hdg] at hd₂; cases hd₂; rfl
    subst hlen
    have hs₂ : s₂ = (({ U with heap := s₂.heap, slotsUsed := s₂.slotsUsed } : State).setVm s₂.vm).setTop { g with pc := g.pc + len₂, stack := v.toList ++ g.stack } := by
      refine e3.trans ?_
      rw [hf₂, State.calling_eq h.top, State.setFrames_setFrames, State.setTop_of_frames _ hr', hr]
      rfl
    have hsame : U.sameButNew ({ U with heap := s₂.heap, slotsUsed := s₂.slotsUsed } : State) L mc ms := by
      refine ⟨?_, q2, q3, q4, q5, q6⟩
      obtain ⟨t, ht, -⟩ := State.frames_cons hr
      show ({ U with heap := s₂.heap, slotsUsed := s₂.slotsUsed } : State) = { U.setFrames U.frames with heap := s₂.heap, slotsUsed := s₂.slotsUsed }
      rw [State.setFrames_self ht]
    subst hg
    refine Or.inl ⟨v, ⟨(({ U with heap := s₂.heap, slotsUsed := s₂.slotsUsed } : State).setVm s₂.vm), Ls ++ L, c0 + mc, s0 + ms⟩,
      ⟨X.admits, X.cas, X.clock, X.frames, X.room, X.hears, X.method, X.code, (X.here.setHeapUsed s₂.heap s₂.slotsUsed).setVm hW'.alike, X.tail, State.WarmedH.trans X.warmed hW', X.limits, X.bytes, X.same.trans (hsame.setVm s.vm)⟩,
      ⟨g, mk, s₂, L, rfl, rfl, hqc, rfl, hL, rfl, rfl⟩, ?_⟩
    show Steps p.tables e below _ ((({ U with heap := s₂.heap, slotsUsed := s₂.slotsUsed } : State).setVm s₂.vm).setTop { g with pc := g.pc + len₂, stack := v.toList ++ g.stack })
    rw [← hs₂]
    exact hsteps
  · obtain ⟨e2, q2, q3, q4, q5, q6⟩ := id hsm
    have e3 : s₂ = ({ (U.calling g mk a).setFrames s₂.frames with heap := s₂.heap, slotsUsed := s₂.slotsUsed } : State).setVm s₂.vm := by
      have : s₂ = ({ s₂ with vm := (U.calling g mk a).vm } : State).setVm s₂.vm := rfl
      rw [e2] at this
      exact this
    have hf₂ : s₂.frames = .throwing q :: .java g :: U.frames.tail := hend
    have hW' : U.WarmedH s₂.vm := hW₂
    have hs₂ : s₂ = ((({ U with heap := s₂.heap, slotsUsed := s₂.slotsUsed } : State).setVm s₂.vm).setTop g).pushFrame (.throwing q) := by
      refine e3.trans ?_
      rw [hf₂, State.calling_eq h.top, State.setFrames_setFrames, State.pushFrame, State.frames_setTop _ hr', State.setTop_of_frames _ hr', State.setFrames_setFrames, hr]
      rfl
    have hsame : U.sameButNew ({ U with heap := s₂.heap, slotsUsed := s₂.slotsUsed } : State) L mc ms := by
      refine ⟨?_, q2, q3, q4, q5, q6⟩
      obtain ⟨t, ht, -⟩ := State.frames_cons hr
      show ({ U with heap := s₂.heap, slotsUsed := s₂.slotsUsed } : State) = { U.setFrames U.frames with heap := s₂.heap, slotsUsed := s₂.slotsUsed }
      rw [State.setFrames_self ht]
    subst hg
    refine Or.inr ⟨q, ⟨(({ U with heap := s₂.heap, slotsUsed := s₂.slotsUsed } : State).setVm s₂.vm), Ls ++ L, c0 + mc, s0 + ms⟩,
      ⟨X.admits, X.cas, X.clock, X.frames, X.room, X.hears, X.method, X.code, (X.here.setHeapUsed s₂.heap s₂.slotsUsed).setVm hW'.alike, X.tail, State.WarmedH.trans X.warmed hW', X.limits, X.bytes, X.same.trans (hsame.setVm s.vm)⟩,
      ⟨g, mk, s₂, L, E, ce, rfl, rfl, hx, hce, hcv, hcl, rfl, hL, rfl, rfl⟩, ?_⟩
    show Steps p.tables e below _ (((({ U with heap := s₂.heap, slotsUsed := s₂.slotsUsed } : State).setVm s₂.vm).setTop g).pushFrame (.throwing q))
    rw [← hs₂]
    exact hsteps
end
variable {p : Program} {l : Launch} {e : Env} {R : Room} {s : State} {m : MethodId} {args : Array Value} {below : List Frame} {meth : Method} {c : Code} {T : State} {H : Heap} {locs : List Loc} {cells slots : Nat}
theorem vx_callVX (X : Stand p l e R s m args below meth c T locs cells slots) (hexec : p.tables.exec = Jvm.exec) {own C : String} {index : Nat} {y : MethodName} {bytes : ByteArray} {maxL : Nat} {ret : Option FieldType} {hh : List (Nat × Nat × Nat × Nat)}
    (hown : s.vm.findClass own = some m.cls) (hlink : (Cond.methodLink own index y).before args s = true) (hinst : (Cond.instanceMethod y).before args s = true) (hsel : (Cond.selects C y y).before args s = true)
    (hcode : (Cond.codeWith y bytes maxL ret hh).before args s = true) (hy : y.cls ≠ "java/lang/invoke/MethodHandle" ∧ y.cls ≠ "java/lang/invoke/VarHandle")
    {W9 : Nat} {Pre : Pt → Array Value → Prop} {Post : Pt → Array Value → Option Value → Pt → Prop} {PostX : Pt → Array Value → Addr → Pt → Prop} (hK : vx_Back l R p e below s args y 3 W9 Pre Post PostX)
    {b : Addr} {cellB : Cell} (hcell : T.heap[b]? = some cellB) (hobj : cellB.vm.isStatics = false) (hcls : s.vm.findClass C = some cellB.cls)
    {g : JFrame} (hg : g.method = m) (hsize : g.locals.size = c.maxLocals) {argsL rest : List Value} (hlen : ∀ sig, parseMethodDescriptor y.desc = some sig → argsL.length = sig.parameters.length)
    (hstack : g.stack = argsL.reverse ++ .ref b :: rest) (hW : 2 * g.monitorRoom + (rest.map fun v => v.category).sum ≤ W9) (hdg : decode c.code g.pc = .ok (.invokevirtual index, 3))
    (hpre : ∀ vm₁, s.WarmedH vm₁ → Pre ⟨T.setVm vm₁, locs, cells, slots⟩ (Value.ref b :: argsL).toArray) :
    (∃ (v : Option Value) (vm₁ : Vm) (B : Pt), s.WarmedH vm₁ ∧ Stand p l e R s m args below meth c B.U B.locs B.cells B.slots ∧ Post ⟨T.setVm vm₁, locs, cells, slots⟩ (Value.ref b :: argsL).toArray v B ∧
      ∀ target, Steps p.tables e below (B.U.setTop { g with pc := g.pc + 3, stack := v.toList ++ rest }) target → Steps p.tables e below (T.setTop g) target) ∨
    (∃ (q : Addr) (vm₁ : Vm) (B : Pt), s.WarmedH vm₁ ∧ Stand p l e R s m args below meth c B.U B.locs B.cells B.slots ∧ PostX ⟨T.setVm vm₁, locs, cells, slots⟩ (Value.ref b :: argsL).toArray q B ∧
      Steps p.tables e below (T.setTop g) ((B.U.setTop { g with stack := rest }).pushFrame (.throwing q))) := by
  obtain ⟨mk, methM, hnamed, hmethM, hstM, habM⟩ := Cond.instanceMethod_spec hinst
  obtain ⟨m8, methM', cM, hn8, hmethM', -, -, -, -, -, -, hsigM⟩ := Cond.codeWith_spec hcode
  cases Option.some.inj (hn8.symm.trans hnamed)
  cases hmethM.symm.trans hmethM'
  obtain ⟨c2, r2, m2, q1, q2, q3, q4, kP, hkP, hkPi⟩ := Cond.selects_spec hsel
  cases hcls.symm.trans q1
  cases (State.methodFound?_of_named hnamed hy).symm.trans q2
  cases hnamed.symm.trans q3
  have hselP : selectMethod e.platform s.vm cellB.cls mk = .method mk := by rw [Launch.admits_selectMethod X.admits]; exact q4
  obtain ⟨vm₁, X₁, hstep₁⟩ := X.invokevirtual hexec hown hlink hnamed hmethM hstM hkP hkPi hy (a := b) (cell := cellB) hcell
    (fun z h => by rw [h] at hobj; cases hobj) hselP hmethM habM hkP hkPi (g := g) hg (argsL := argsL) (rest := rest) (hlen _ hsigM) hstack hdg
  rcases hK m meth c ⟨T.setVm vm₁, locs, cells, slots⟩ { g with stack := rest } (.invokevirtual index) mk (Value.ref b :: argsL).toArray X₁ hg hsize hdg hW (X₁.named hnamed) (hpre vm₁ X₁.warmed) with ⟨v, B, X', hpost, hsteps⟩ | ⟨q, B, X', hpost, hsteps⟩
  · exact Or.inl ⟨v, vm₁, B, X₁.warmed, X', hpost, fun target h => hstep₁ _ fun acts => by rw [doInvoke_state]; exact hsteps.trans h⟩
  · exact Or.inr ⟨q, vm₁, B, X₁.warmed, X', hpost, hstep₁ _ fun acts => by rw [doInvoke_state]; exact hsteps⟩
theorem vx_callSX (X : Stand p l e R s m args below meth c T locs cells slots) (hexec : p.tables.exec = Jvm.exec) {own : String} {index : Nat} {y : MethodName} {bytes : ByteArray} {maxL : Nat} {ret : Option FieldType} {hh : List (Nat × Nat × Nat × Nat)}
    (hown : s.vm.findClass own = some m.cls) (hlink : (Cond.methodLink own index y).before args s = true) (hstat : (Cond.static y).before args s = true) (hinit : (Cond.initialized y.cls).before args s = true)
    (hcode : (Cond.codeWith y bytes maxL ret hh).before args s = true) (hy : y.cls ≠ "java/lang/invoke/MethodHandle" ∧ y.cls ≠ "java/lang/invoke/VarHandle")
    {W9 : Nat} {Pre : Pt → Array Value → Prop} {Post : Pt → Array Value → Option Value → Pt → Prop} {PostX : Pt → Array Value → Addr → Pt → Prop} (hK : vx_Back l R p e below s args y 3 W9 Pre Post PostX)
    {g : JFrame} (hg : g.method = m) (hsize : g.locals.size = c.maxLocals) {argsL rest : List Value} (hlen : ∀ sig, parseMethodDescriptor y.desc = some sig → argsL.length = sig.parameters.length)
    (hstack : g.stack = argsL.reverse ++ rest) (hW : 2 * g.monitorRoom + (rest.map fun v => v.category).sum ≤ W9) (hdg : decode c.code g.pc = .ok (.invokestatic index, 3))
    (hpre : ∀ vm₁, s.WarmedH vm₁ → Pre ⟨T.setVm vm₁, locs, cells, slots⟩ argsL.toArray) :
    (∃ (v : Option Value) (vm₁ : Vm) (B : Pt), s.WarmedH vm₁ ∧ Stand p l e R s m args below meth c B.U B.locs B.cells B.slots ∧ Post ⟨T.setVm vm₁, locs, cells, slots⟩ argsL.toArray v B ∧
      ∀ target, Steps p.tables e below (B.U.setTop { g with pc := g.pc + 3, stack := v.toList ++ rest }) target → Steps p.tables e below (T.setTop g) target) ∨
    (∃ (q : Addr) (vm₁ : Vm) (B : Pt), s.WarmedH vm₁ ∧ Stand p l e R s m args below meth c B.U B.locs B.cells B.slots ∧ PostX ⟨T.setVm vm₁, locs, cells, slots⟩ argsL.toArray q B ∧
      Steps p.tables e below (T.setTop g) ((B.U.setTop { g with stack := rest }).pushFrame (.throwing q))) := by
  obtain ⟨mk, methM, cM, hnamed, hmethM, -, -, -, -, -, -, hsigM⟩ := Cond.codeWith_spec hcode
  have hstatic : methM.isStatic = true := Cond.static_spec hnamed hmethM hstat
  obtain ⟨kP, hkP, -⟩ := className_of_methodNamed hnamed
  have hinitP : kP.init = .initialized := Cond.initialized_spec (findClass_of_methodNamed hnamed) hkP hinit
  obtain ⟨vm₁, X₁, hstep₁⟩ := X.invokestatic hexec hown hlink hnamed hmethM hstatic hkP hinitP hy (g := g) hg (argsL := argsL) (rest := rest) (hlen _ hsigM) hstack hdg
  rcases hK m meth c ⟨T.setVm vm₁, locs, cells, slots⟩ { g with stack := rest } (.invokestatic index) mk argsL.toArray X₁ hg hsize hdg hW (X₁.named hnamed) (hpre vm₁ X₁.warmed) with ⟨v, B, X', hpost, hsteps⟩ | ⟨q, B, X', hpost, hsteps⟩
  · exact Or.inl ⟨v, vm₁, B, X₁.warmed, X', hpost, fun target h => hstep₁ _ fun acts => by rw [doInvoke_state]; exact hsteps.trans h⟩
  · exact Or.inr ⟨q, vm₁, B, X₁.warmed, X', hpost, hstep₁ _ fun acts => by rw [doInvoke_state]; exact hsteps⟩
theorem vx_callVW (X : Stand p l e R s m args below meth c T locs cells slots) (hexec : p.tables.exec = Jvm.exec) {own C : String} {index : Nat} {y : MethodName} {bytes : ByteArray} {maxL : Nat} {ret : Option FieldType} {hh : List (Nat × Nat × Nat × Nat)}
    (hown : s.vm.findClass own = some m.cls) (hlink : (Cond.methodLink own index y).before args s = true) (hinst : (Cond.instanceMethod y).before args s = true) (hsel : (Cond.selects C y y).before args s = true)
    (hcode : (Cond.codeWith y bytes maxL ret hh).before args s = true) (hy : y.cls ≠ "java/lang/invoke/MethodHandle" ∧ y.cls ≠ "java/lang/invoke/VarHandle")
    {W9 : Nat} {Pre : Pt → Array Value → Prop} {Post : Pt → Array Value → Option Value → Pt → Prop} (hK : Back l R p e below s args y 3 W9 Pre Post)
    {b : Addr} {cellB : Cell} (hcell : T.heap[b]? = some cellB) (hobj : cellB.vm.isStatics = false) (hcls : s.vm.findClass C = some cellB.cls)
    {g : JFrame} (hg : g.method = m) (hsize : g.locals.size = c.maxLocals) {argsL rest : List Value} (hlen : ∀ sig, parseMethodDescriptor y.desc = some sig → argsL.length = sig.parameters.length)
    (hstack : g.stack = argsL.reverse ++ .ref b :: rest) (hW : 2 * g.monitorRoom + (rest.map fun v => v.category).sum ≤ W9) (hdg : decode c.code g.pc = .ok (.invokevirtual index, 3))
    (hpre : ∀ vm₁, s.WarmedH vm₁ → Pre ⟨T.setVm vm₁, locs, cells, slots⟩ (Value.ref b :: argsL).toArray) :
    ∃ (v : Option Value) (vm₁ : Vm) (B : Pt), s.WarmedH vm₁ ∧ Stand p l e R s m args below meth c B.U B.locs B.cells B.slots ∧ Post ⟨T.setVm vm₁, locs, cells, slots⟩ (Value.ref b :: argsL).toArray v B ∧
      ∀ target, Steps p.tables e below (B.U.setTop { g with pc := g.pc + 3, stack := v.toList ++ rest }) target → Steps p.tables e below (T.setTop g) target := by
  obtain ⟨mk, methM, hnamed, hmethM, hstM, habM⟩ := Cond.instanceMethod_spec hinst
  obtain ⟨m8, methM', cM, hn8, hmethM', -, -, -, -, -, -, hsigM⟩ := Cond.codeWith_spec hcode
  cases Option.some.inj (hn8.symm.trans hnamed)
  cases hmethM.symm.trans hmethM'
  obtain ⟨c2, r2, m2, q1, q2, q3, q4, kP, hkP, hkPi⟩ := Cond.selects_spec hsel
  cases hcls.symm.trans q1
  cases (State.methodFound?_of_named hnamed hy).symm.trans q2
  cases hnamed.symm.trans q3
  have hselP : selectMethod e.platform s.vm cellB.cls mk = .method mk := by rw [Launch.admits_selectMethod X.admits]; exact q4
  obtain ⟨vm₁, X₁, hstep₁⟩ := X.invokevirtual hexec hown hlink hnamed hmethM hstM hkP hkPi hy (a := b) (cell := cellB) hcell
    (fun z h => by rw [h] at hobj; cases hobj) hselP hmethM habM hkP hkPi (g := g) hg (argsL := argsL) (rest := rest) (hlen _ hsigM) hstack hdg
  obtain ⟨v, B, X', hpost, hsteps⟩ := hK m meth c ⟨T.setVm vm₁, locs, cells, slots⟩ { g with stack := rest } (.invokevirtual index) mk (Value.ref b :: argsL).toArray X₁ hg hsize hdg hW (X₁.named hnamed) (hpre vm₁ X₁.warmed)
  exact ⟨v, vm₁, B, X₁.warmed, X', hpost, fun target h => hstep₁ _ fun acts => by rw [doInvoke_state]; exact hsteps.trans h⟩
abbrev vx_CVW (R : Room) (s : State) (args : Array Value) (own C : String) (index : Nat) (y : MethodName) (bytes : ByteArray) (maxL : Nat) (ret : Option FieldType) (hh : List (Nat × Nat × Nat × Nat)) (ws : List Cond) (rm : Room) (mc ms n : Nat) : Prop :=
  (rm.cells = mc ∧ rm.slots = ms ∧ rm.frames + 1 ≤ R.frames ∧ 8 + (maxL + 11) + rm.locals ≤ R.locals ∧ (∀ w ∈ ws, ∀ (a' : Array Value) (U : State), s.WarmedH U.vm → w.before a' U = true) ∧ Cond.codeWith y bytes maxL ret hh ∈ ws) ∧
  (Cond.codeWith y bytes maxL ret hh).before args s = true ∧ (Cond.initialized y.cls).before args s = true ∧ (y.cls ≠ "java/lang/invoke/MethodHandle" ∧ y.cls ≠ "java/lang/invoke/VarHandle") ∧
  (∀ sig, parseMethodDescriptor y.desc = some sig → n = sig.parameters.length) ∧ (Cond.methodLink own index y).before args s = true ∧ (Cond.instanceMethod y).before args s = true ∧ (Cond.selects C y y).before args s = true
theorem vx_cwVW {own C : String} {index maxL mc ms : Nat} {y : MethodName} {bytes : ByteArray} {ret : Option FieldType} {hh : List (Nat × Nat × Nat × Nat)} {Ts ws ws' : List Cond} {rm : Room} (n : Nat) (ht : ∀ w ∈ Ts, w.before args s = true) (hT : GoodIn Ts (wsV own index C y ws)) (hw : ws = Cond.codeWith y bytes maxL ret hh :: ws') (hrc : rm.cells = mc) (hrs : rm.slots = ms)
    (hd : y.cls = C ∧ y.cls ≠ "java/lang/invoke/MethodHandle" ∧ y.cls ≠ "java/lang/invoke/VarHandle" ∧ (parseMethodDescriptor y.desc).map (fun d => d.parameters.length) = some n) (hR : rm.frames + 1 ≤ R.frames ∧ 8 + (maxL + 11) + rm.locals ≤ R.locals) :
    vx_CVW R s args own C index y bytes maxL ret hh ws rm mc ms n := by
  obtain ⟨hC, hd⟩ := hd
  subst hC
  have ok : ∀ w ∈ wsV own index y.cls y ws, w.before args s = true := fun w h => ht w (hT w h).1
  have hG : GoodIn Ts ws := fun w h => hT w (by unfold wsV; exact List.mem_append_right _ h)
  have hc : Cond.codeWith y bytes maxL ret hh ∈ ws := by rw [hw]; exact List.mem_cons_self
  refine ⟨⟨hrc, hrs, hR.1, hR.2, pay_in ht hG, hc⟩, ht _ (hG _ hc).1, ok _ (by simp [wsV]), ⟨hd.1, hd.2.1⟩, fun sig h => ?_, ok _ (by simp [wsV]), ok _ (by simp [wsV]), ok _ (by simp [wsV])⟩
  have h2 := hd.2.2
  rw [h] at h2
  exact (Option.some.inj h2).symm
theorem vx_runVW {y : MethodName} {bytes cc : ByteArray} {maxL nL mc ms n index : Nat} {ret : Option FieldType} {hh : List (Nat × Nat × Nat × Nat)} {ws : List Cond} {rm : Room} {Pc : Array Value → State → Prop} {Qc : Array Value → State → Outcome → State → Prop} {free : Addr → Prop} {Ts : List Cond} {own C : String} {b : Addr} {As rest : List Value} {g : JFrame}
    (S : CallFix p m c cc nL s args Ts own) (hM : Met l y ws rm Pc Qc mc ms free) (cw : vx_CVW R s args own C index y bytes maxL ret hh ws rm mc ms n) (hp : PreV s H C b Pc As)
    (hg : g.method = m) (hn : As.length = n) (hsize : g.locals.size = nL) (hstack : g.stack = As.reverse ++ .ref b :: rest) (hW : 2 * g.monitorRoom + (rest.map fun v => v.category).sum ≤ 8) (hdg : decode cc g.pc = .ok (.invokevirtual index, 3)) (hf : cells + mc ≤ R.cells ∧ slots + ms ≤ R.slots) :
    va_Run p l e R s m args below meth c H locs cells slots mc ms g rest (Qc (Value.ref b :: As).toArray) free := by
  obtain ⟨⟨hrc, hrs, hfr, hlo, hws, hcw⟩, hcode, hini, hy, hlen, hl, hin, hse⟩ := cw
  have hK : Back l R p e below s args y 3 8 (PreOf R mc ms Pc) (PostOf Qc mc ms free) := va_backW (hh := hh) (bytes := bytes) (maxL := maxL) (ret := ret) hM hp.1 hrc hrs hfr hlo hws hcw (fun a' U hW => word_at hW (Or.inl (by first | rfl | simp [Cond.onTables, Cond.keeps, Cond.steady])) hini)
  obtain ⟨hx, hb, hml, ho, -⟩ := S
  obtain ⟨-, ⟨cellB, hcB, hoB, hclB⟩, hPc⟩ := hp
  intro T hT X
  obtain ⟨v, vm₁, ⟨U', l2, c2, s2⟩, hW₁, X', ⟨g', mk, t, L, e1, e2, hq, h1, hL, h2, h3⟩, st⟩ := vx_callVW X hx (C := C) (hh := hh) (bytes := bytes) (maxL := maxL) (ret := ret) ho hl hin hse hcode hy hK (by rw [hT]; exact hcB) hoB hclB hg (hsize.trans hml.symm) (argsL := As) (rest := rest) (fun sig h => hn.trans (hlen sig h)) hstack hW (by rw [hb]; exact hdg)
    (fun vm₁ hW₁ => ⟨hf.1, hf.2, hPc (T.setVm vm₁) hT hW₁⟩)
  dsimp only [Pt.U, Pt.locs, Pt.cells, Pt.slots] at X' e1 e2 h1 h2 h3 st
  subst h1; subst h2; subst h3
  exact ⟨v, (T.setVm vm₁).calling g' mk (Value.ref b :: As).toArray, t, U', L, hT, X', hL, e1, e2, hq, st⟩
section
variable {y : MethodName} {bytes cc : ByteArray} {maxL nL mc ms n index : Nat} {ret : Option FieldType} {ws : List Cond} {rm : Room} {Pc : Array Value → State → Prop} {Qc : Array Value → State → Outcome → State → Prop} {XC : String → State → State → Prop} {free : Addr → Prop} {Ts : List Cond} {own C : String} {b : Addr} {As rest : List Value} {g : JFrame}
theorem vx_runVX {hh : List (Nat × Nat × Nat × Nat)} (S : CallFix p m c cc nL s args Ts own) (hM : vx_Met l y ws rm Pc Qc XC mc ms free) (cw : vx_CVW R s args own C index y bytes maxL ret hh ws rm mc ms n) (hp : PreV s H C b Pc As)
    (hg : g.method = m) (hn : As.length = n) (hsize : g.locals.size = nL) (hstack : g.stack = As.reverse ++ .ref b :: rest) (hW : 2 * g.monitorRoom + (rest.map fun v => v.category).sum ≤ 8) (hdg : decode cc g.pc = .ok (.invokevirtual index, 3)) (hf : cells + mc ≤ R.cells ∧ slots + ms ≤ R.slots) :
    vx_Run p l e R s m args below meth c H locs cells slots mc ms g rest (Qc (Value.ref b :: As).toArray) XC free := by
  obtain ⟨⟨hrc, hrs, hfr, hlo, hws, hcw⟩, hcode, hini, hy, hlen, hl, hin, hse⟩ := cw
  have hK : vx_Back l R p e below s args y 3 8 (PreOf R mc ms Pc) (PostOf Qc mc ms free) (vx_Post XC mc ms free) := vx_backW (hh := hh) (bytes := bytes) (maxL := maxL) (ret := ret) hM hp.1 hrc hrs hfr hlo hws hcw (fun a' U hW => word_at hW (Or.inl (by first | rfl | simp [Cond.onTables, Cond.keeps, Cond.steady])) hini)
  obtain ⟨hx, hb, hml, ho, -⟩ := S
  obtain ⟨-, ⟨cellB, hcB, hoB, hclB⟩, hPc⟩ := hp
  intro T hT X
  rcases vx_callVX X hx (C := C) (hh := hh) (bytes := bytes) (maxL := maxL) (ret := ret) ho hl hin hse hcode hy hK (by rw [hT]; exact hcB) hoB hclB hg (hsize.trans hml.symm) (argsL := As) (rest := rest) (fun sig h => hn.trans (hlen sig h)) hstack hW (by rw [hb]; exact hdg)
    (fun vm₁ hW₁ => ⟨hf.1, hf.2, hPc (T.setVm vm₁) hT hW₁⟩) with ⟨v, vm₁, ⟨U', l2, c2, s2⟩, hW₁, X', ⟨g', mk, t, L, e1, e2, hq, h1, hL, h2, h3⟩, st⟩ | ⟨q, vm₁, ⟨U', l2, c2, s2⟩, hW₁, X', ⟨g', mk, t, L, E, ce, e1, e2, hq, hce, hcv, hcl, h1, hL, h2, h3⟩, st⟩
  · dsimp only [Pt.U, Pt.locs, Pt.cells, Pt.slots] at X' e1 e2 h1 h2 h3 st
    subst h1; subst h2; subst h3
    exact Or.inl ⟨v, (T.setVm vm₁).calling g' mk (Value.ref b :: As).toArray, t, U', L, hT, X', hL, e1, e2, hq, st⟩
  · dsimp only [Pt.U, Pt.locs, Pt.cells, Pt.slots] at X' e1 e2 h1 h2 h3 st hcl
    subst h1; subst h2; subst h3
    exact Or.inr ⟨q, (T.setVm vm₁).calling g' mk (Value.ref b :: As).toArray, t, U', L, E, ce, hT, X', hL, e1, e2, hq, hce, hcv, vx_cls hW₁ hcl, st⟩
theorem vx_runSX {hh : List (Nat × Nat × Nat × Nat)} (S : CallFix p m c cc nL s args Ts own) (hM : vx_Met l y ws rm Pc Qc XC mc ms free) (cw : vx_CSW R s args own index y bytes maxL ret hh ws rm mc ms n) (hp : PreS s H Pc As)
    (hg : g.method = m) (hn : As.length = n) (hsize : g.locals.size = nL) (hstack : g.stack = As.reverse ++ rest) (hW : 2 * g.monitorRoom + (rest.map fun v => v.category).sum ≤ 8) (hdg : decode cc g.pc = .ok (.invokestatic index, 3)) (hf : cells + mc ≤ R.cells ∧ slots + ms ≤ R.slots) :
    vx_Run p l e R s m args below meth c H locs cells slots mc ms g rest (Qc As.toArray) XC free := by
  obtain ⟨⟨hrc, hrs, hfr, hlo, hws, hcw⟩, hcode, hini, hy, hlen, hl, hstt⟩ := cw
  have hK : vx_Back l R p e below s args y 3 8 (PreOf R mc ms Pc) (PostOf Qc mc ms free) (vx_Post XC mc ms free) := vx_backW (hh := hh) (bytes := bytes) (maxL := maxL) (ret := ret) hM hp.1 hrc hrs hfr hlo hws hcw (fun a' U hW => word_at hW (Or.inl (by first | rfl | simp [Cond.onTables, Cond.keeps, Cond.steady])) hini)
  obtain ⟨hx, hb, hml, ho, -⟩ := S
  intro T hT X
  rcases vx_callSX X hx (hh := hh) (bytes := bytes) (maxL := maxL) (ret := ret) ho hl hstt hini hcode hy hK hg (hsize.trans hml.symm) (argsL := As) (rest := rest) (fun sig h => hn.trans (hlen sig h)) hstack hW (by rw [hb]; exact hdg)
    (fun vm₁ hW₁ => ⟨hf.1, hf.2, hp.2 (T.setVm vm₁) hT hW₁⟩) with ⟨v, vm₁, ⟨U', l2, c2, s2⟩, hW₁, X', ⟨g', mk, t, L, e1, e2, hq, h1, hL, h2, h3⟩, st⟩ | ⟨q, vm₁, ⟨U', l2, c2, s2⟩, hW₁, X', ⟨g', mk, t, L, E, ce, e1, e2, hq, hce, hcv, hcl, h1, hL, h2, h3⟩, st⟩
  · dsimp only [Pt.U, Pt.locs, Pt.cells, Pt.slots] at X' e1 e2 h1 h2 h3 st
    subst h1; subst h2; subst h3
    exact Or.inl ⟨v, (T.setVm vm₁).calling g' mk As.toArray, t, U', L, hT, X', hL, e1, e2, hq, st⟩
  · dsimp only [Pt.U, Pt.locs, Pt.cells, Pt.slots] at X' e1 e2 h1 h2 h3 st hcl
    subst h1; subst h2; subst h3
    exact Or.inr ⟨q, (T.setVm vm₁).calling g' mk As.toArray, t, U', L, E, ce, hT, X', hL, e1, e2, hq, hce, hcv, vx_cls hW₁ hcl, st⟩
end
end VXH
theorem vx_ofWH {l : Launch} {y : MethodName} {ws ws' : List Cond} {rm : Room} {Pc : Array Value → State → Prop} {Qc : Array Value → State → Outcome → State → Prop} {XC : String → State → State → Prop} {mc ms : Nat} {free : Addr → Prop} {cc : ByteArray} {maxL : Nat} {ret : Option FieldType} {hh : List (Nat × Nat × Nat × Nat)}
    (hy : plainName y.cls = true) (hw : ws = Cond.codeWith y cc maxL ret hh :: ws')
    (body : ∀ p e s m args below meth c s₁, BodyLoose p l y (headSpec ws rm) cc maxL ret e s m args below meth c s₁ → c.maxLocals = maxL → Pc args s →
      W p l e (headSpec ws rm).room s m args below meth c s.heap [] 0 0 (vx_MQ below Qc XC args s mc ms free) (entryFrame m args maxL)) : vx_Met l y ws rm Pc Qc XC mc ms free := by
  refine MetFree.of_bodyS (code := cc) (maxLocals := maxL) (ret := ret) hy ?_ ?_
  · intro args s m h hn
    obtain ⟨m9, meth, c, hn9, h1, h2, h3, h4, -, h5, h6, -⟩ := Cond.codeWith_spec (atoms_spec (ws := ws) h _ (by rw [hw]; exact List.mem_cons_self))
    cases hn.symm.trans hn9
    exact ⟨meth, c, h1, h2, h3, h4, h5, h6⟩
  · intro p e s m args below meth c s₁ B hml hP _
    have hh0 : s₁.heap = s.heap := by rw [B.state]; rfl
    obtain ⟨t, a1, o, b1, b2, b3⟩ := body p e s m args below meth c s₁ B hml hP s₁ hh0 (Stand.of_body B)
    exact ⟨t, o, a1, b1, b2, b3⟩
/-! ===== END ===== -/

/-! ===== BEGIN printed: names, fields, word lists, decode rows ===== -/
def RX0 : String := "MeridianSeries$Buckets"
def TX0 : u_T := fun k => match k with
  | 0 => ("MeridianSeries$Items", "amount", "I", false)
  | _ => ("MeridianSeries$Buckets", "cells", "[I", true)
def tyX0 : Nat → FieldType := fun k => match k with
  | 0 => .int
  | _ => .array .int
abbrev wsX00 : List Cond := u_ws RX0 TX0 2
theorem nmX0 : ∀ a, a < 2 → ∀ b, b < 2 → a ≠ b → (TX0 a).2.1 ≠ (TX0 b).2.1 := by decide +kernel
theorem tyX0_ok : ∀ k, k < 2 → parseFieldDescriptor (TX0 k).2.2.1 = some (tyX0 k) := by decide +kernel
abbrev cX0_init : ByteArray := prog_2_method_1_code
def yX0_init : MethodName := ⟨RX0, "<init>", "()V"⟩
abbrev cX0_number : ByteArray := prog_2_method_2_code
def yX0_number : MethodName := ⟨RX0, "number", "(II)I"⟩
abbrev cX0_isFull : ByteArray := prog_2_method_3_code
def yX0_isFull : MethodName := ⟨RX0, "isFull", "()Z"⟩
abbrev cX0_take : ByteArray := prog_2_method_4_code
def yX0_take : MethodName := ⟨RX0, "take", "(ILMeridianSeries$Items;I)V"⟩
abbrev cX0_dropFirst : ByteArray := prog_2_method_5_code
def yX0_dropFirst : MethodName := ⟨RX0, "dropFirst", "()V"⟩
abbrev cX0_copyFrom : ByteArray := prog_2_method_6_code
def yX0_copyFrom : MethodName := ⟨RX0, "copyFrom", "(LMeridianSeries$Buckets;)V"⟩
abbrev cX0_write : ByteArray := prog_2_method_7_code
def yX0_write : MethodName := ⟨RX0, "write", "(III)V"⟩
def RX1 : String := "MeridianSeries$EventLog"
def TX1 : u_T := fun k => match k with
  | 0 => ("MeridianSeries$EventLog", "cells", "[I", true)
  | 1 => ("MeridianSeries$EventLog", "total", "I", false)
  | _ => ("MeridianSeries$EventLog", "firings", "I", false)
def tyX1 : Nat → FieldType := fun k => match k with
  | 0 => .array .int
  | 1 => .int
  | _ => .int
abbrev wsX10 : List Cond := u_ws RX1 TX1 3
theorem nmX1 : ∀ a, a < 3 → ∀ b, b < 3 → a ≠ b → (TX1 a).2.1 ≠ (TX1 b).2.1 := by decide +kernel
theorem tyX1_ok : ∀ k, k < 3 → parseFieldDescriptor (TX1 k).2.2.1 = some (tyX1 k) := by decide +kernel
abbrev cX1_init : ByteArray := prog_3_method_1_code
def yX1_init : MethodName := ⟨RX1, "<init>", "()V"⟩
abbrev cX1_add : ByteArray := prog_3_method_2_code
def yX1_add : MethodName := ⟨RX1, "add", "(III)V"⟩
abbrev cX1_number : ByteArray := prog_3_method_3_code
def yX1_number : MethodName := ⟨RX1, "number", "(II)I"⟩
def RX2 : String := "MeridianSeries$Items"
def TX2 : u_T := fun k => match k with
  | _ => ("", "", "", false)
def tyX2 : Nat → FieldType := fun k => match k with
  | _ => .int
abbrev wsX20 : List Cond := u_ws RX2 TX2 0
theorem nmX2 : ∀ a, a < 0 → ∀ b, b < 0 → a ≠ b → (TX2 a).2.1 ≠ (TX2 b).2.1 := by decide +kernel
theorem tyX2_ok : ∀ k, k < 0 → parseFieldDescriptor (TX2 k).2.2.1 = some (tyX2 k) := by decide +kernel
abbrev cX2_init : ByteArray := prog_4_method_1_code
def yX2_init : MethodName := ⟨RX2, "<init>", "()V"⟩
def RX3 : String := "MeridianSeries$Packer"
def TX3 : u_T := fun k => match k with
  | 0 => ("MeridianSeries$Packer", "words", "[I", true)
  | 1 => ("MeridianSeries$Packer", "length", "I", false)
  | 2 => ("MeridianSeries$Packer", "packed", "I", false)
  | 3 => ("MeridianSeries$Packer", "lastTime", "I", false)
  | 4 => ("MeridianSeries$Packer", "lastStep", "I", false)
  | _ => ("MeridianSeries$Packer", "lastValue", "I", false)
def tyX3 : Nat → FieldType := fun k => match k with
  | 0 => .array .int
  | 1 => .int
  | 2 => .int
  | 3 => .int
  | 4 => .int
  | _ => .int
abbrev wsX30 : List Cond := u_ws RX3 TX3 6
theorem nmX3 : ∀ a, a < 6 → ∀ b, b < 6 → a ≠ b → (TX3 a).2.1 ≠ (TX3 b).2.1 := by decide +kernel
theorem tyX3_ok : ∀ k, k < 6 → parseFieldDescriptor (TX3 k).2.2.1 = some (tyX3 k) := by decide +kernel
abbrev cX3_init : ByteArray := prog_5_method_1_code
def yX3_init : MethodName := ⟨RX3, "<init>", "()V"⟩
abbrev cX3_pack : ByteArray := prog_5_method_2_code
def yX3_pack : MethodName := ⟨RX3, "pack", "(LMeridianSeries$Points;I)I"⟩
abbrev cX3_packOpenWith : ByteArray := prog_5_method_3_code
def yX3_packOpenWith : MethodName := ⟨RX3, "packOpenWith", "(LMeridianSeries$Points;II)I"⟩
abbrev cX3_begin : ByteArray := prog_5_method_6_code
def yX3_begin : MethodName := ⟨RX3, "begin", "(I)V"⟩
abbrev cX3_add : ByteArray := prog_5_method_7_code
def yX3_add : MethodName := ⟨RX3, "add", "(II)V"⟩
abbrev cX3_addTime : ByteArray := prog_5_method_8_code
def yX3_addTime : MethodName := ⟨RX3, "addTime", "(I)V"⟩
abbrev cX3_addValue : ByteArray := prog_5_method_9_code
def yX3_addValue : MethodName := ⟨RX3, "addValue", "(I)V"⟩
abbrev cX3_write : ByteArray := prog_5_method_10_code
def yX3_write : MethodName := ⟨RX3, "write", "(II)V"⟩
def RX4 : String := "MeridianSeries$Points"
def TX4 : u_T := fun k => match k with
  | 0 => ("MeridianSeries$Items", "amount", "I", false)
  | 1 => ("MeridianSeries$Points", "times", "[I", true)
  | 2 => ("MeridianSeries$Points", "values", "[I", true)
  | 3 => ("MeridianSeries$Points", "sizes", "[I", true)
  | 4 => ("MeridianSeries$Points", "sealedBlocks", "I", false)
  | 5 => ("MeridianSeries$Points", "sealedPoints", "I", false)
  | _ => ("MeridianSeries$Points", "greatestSealedTime", "I", false)
def tyX4 : Nat → FieldType := fun k => match k with
  | 0 => .int
  | 1 => .array .int
  | 2 => .array .int
  | 3 => .array .int
  | 4 => .int
  | 5 => .int
  | _ => .int
abbrev wsX40 : List Cond := u_ws RX4 TX4 7
theorem nmX4 : ∀ a, a < 7 → ∀ b, b < 7 → a ≠ b → (TX4 a).2.1 ≠ (TX4 b).2.1 := by decide +kernel
theorem tyX4_ok : ∀ k, k < 7 → parseFieldDescriptor (TX4 k).2.2.1 = some (tyX4 k) := by decide +kernel
abbrev cX4_init : ByteArray := prog_6_method_1_code
def yX4_init : MethodName := ⟨RX4, "<init>", "()V"⟩
abbrev cX4_number : ByteArray := prog_6_method_2_code
def yX4_number : MethodName := ⟨RX4, "number", "(II)I"⟩
abbrev cX4_blockCount : ByteArray := prog_6_method_3_code
def yX4_blockCount : MethodName := ⟨RX4, "blockCount", "()I"⟩
abbrev cX4_openSize : ByteArray := prog_6_method_4_code
def yX4_openSize : MethodName := ⟨RX4, "openSize", "()I"⟩
abbrev cX4_sizeOf : ByteArray := prog_6_method_5_code
def yX4_sizeOf : MethodName := ⟨RX4, "sizeOf", "(I)I"⟩
abbrev cX4_startOf : ByteArray := prog_6_method_6_code
def yX4_startOf : MethodName := ⟨RX4, "startOf", "(I)I"⟩
abbrev cX4_isLate : ByteArray := prog_6_method_7_code
def yX4_isLate : MethodName := ⟨RX4, "isLate", "(I)Z"⟩
abbrev cX4_placeOf : ByteArray := prog_6_method_8_code
def yX4_placeOf : MethodName := ⟨RX4, "placeOf", "(I)I"⟩
abbrev cX4_isTakenAt : ByteArray := prog_6_method_9_code
def yX4_isTakenAt : MethodName := ⟨RX4, "isTakenAt", "(II)Z"⟩
abbrev cX4_add : ByteArray := prog_6_method_10_code
def yX4_add : MethodName := ⟨RX4, "add", "(II)V"⟩
abbrev cX4_hasTooManySealed : ByteArray := prog_6_method_11_code
def yX4_hasTooManySealed : MethodName := ⟨RX4, "hasTooManySealed", "()Z"⟩
abbrev cX4_seal : ByteArray := prog_6_method_12_code
def yX4_seal : MethodName := ⟨RX4, "seal", "()V"⟩
abbrev cX4_dropFirstBlock : ByteArray := prog_6_method_13_code
def yX4_dropFirstBlock : MethodName := ⟨RX4, "dropFirstBlock", "()V"⟩
abbrev cX4_blocksBelow : ByteArray := prog_6_method_14_code
def yX4_blocksBelow : MethodName := ⟨RX4, "blocksBelow", "(I)I"⟩
abbrev cX4_copyFrom : ByteArray := prog_6_method_15_code
def yX4_copyFrom : MethodName := ⟨RX4, "copyFrom", "(LMeridianSeries$Points;)V"⟩
abbrev cX4_copyPoint : ByteArray := prog_6_method_16_code
def yX4_copyPoint : MethodName := ⟨RX4, "copyPoint", "(II)V"⟩
abbrev cX4_write : ByteArray := prog_6_method_17_code
def yX4_write : MethodName := ⟨RX4, "write", "(III)V"⟩
def RX5 : String := "MeridianSeries$Rule"
def TX5 : u_T := fun k => match k with
  | 0 => ("MeridianSeries$Rule", "chain", "LMeridianSeries$Series;", true)
  | 1 => ("MeridianSeries$Rule", "what", "I", true)
  | 2 => ("MeridianSeries$Rule", "length", "I", true)
  | 3 => ("MeridianSeries$Rule", "every", "I", true)
  | 4 => ("MeridianSeries$Rule", "isAbove", "Z", true)
  | 5 => ("MeridianSeries$Rule", "limit", "I", true)
  | 6 => ("MeridianSeries$Rule", "times", "I", true)
  | 7 => ("MeridianSeries$Rule", "state", "I", false)
  | _ => ("MeridianSeries$Rule", "timesInRow", "I", false)
def tyX5 : Nat → FieldType := fun k => match k with
  | 0 => .object "MeridianSeries$Series"
  | 1 => .int
  | 2 => .int
  | 3 => .int
  | 4 => .boolean
  | 5 => .int
  | 6 => .int
  | 7 => .int
  | _ => .int
abbrev wsX50 : List Cond := u_ws RX5 TX5 9
theorem nmX5 : ∀ a, a < 9 → ∀ b, b < 9 → a ≠ b → (TX5 a).2.1 ≠ (TX5 b).2.1 := by decide +kernel
theorem tyX5_ok : ∀ k, k < 9 → parseFieldDescriptor (TX5 k).2.2.1 = some (tyX5 k) := by decide +kernel
abbrev cX5_init : ByteArray := prog_7_method_1_code
def yX5_init : MethodName := ⟨RX5, "<init>", "(LMeridianSeries$Series;IIIZII)V"⟩
abbrev cX5_isDueAt : ByteArray := prog_7_method_2_code
def yX5_isDueAt : MethodName := ⟨RX5, "isDueAt", "(I)Z"⟩
abbrev cX5_told : ByteArray := prog_7_method_3_code
def yX5_told : MethodName := ⟨RX5, "told", "(I)I"⟩
abbrev cX5_changesBy : ByteArray := prog_7_method_4_code
def yX5_changesBy : MethodName := ⟨RX5, "changesBy", "(I)Z"⟩
abbrev cX5_ceases : ByteArray := prog_7_method_5_code
def yX5_ceases : MethodName := ⟨RX5, "ceases", "(Z)Z"⟩
abbrev cX5_begins : ByteArray := prog_7_method_6_code
def yX5_begins : MethodName := ⟨RX5, "begins", "(Z)Z"⟩
abbrev cX5_become : ByteArray := prog_7_method_7_code
def yX5_become : MethodName := ⟨RX5, "become", "(I)V"⟩
abbrev cX5_copyFrom : ByteArray := prog_7_method_8_code
def yX5_copyFrom : MethodName := ⟨RX5, "copyFrom", "(LMeridianSeries$Rule;)V"⟩
def RX6 : String := "MeridianSeries$Series"
def TX6 : u_T := fun k => match k with
  | 0 => ("MeridianSeries$Series", "one", "I", true)
  | 1 => ("MeridianSeries$Series", "other", "I", true)
  | 2 => ("MeridianSeries$Series", "points", "LMeridianSeries$Points;", true)
  | 3 => ("MeridianSeries$Series", "fine", "LMeridianSeries$Buckets;", true)
  | _ => ("MeridianSeries$Series", "coarse", "LMeridianSeries$Buckets;", true)
def tyX6 : Nat → FieldType := fun k => match k with
  | 0 => .int
  | 1 => .int
  | 2 => .object "MeridianSeries$Points"
  | 3 => .object "MeridianSeries$Buckets"
  | _ => .object "MeridianSeries$Buckets"
abbrev wsX60 : List Cond := u_ws RX6 TX6 5
theorem nmX6 : ∀ a, a < 5 → ∀ b, b < 5 → a ≠ b → (TX6 a).2.1 ≠ (TX6 b).2.1 := by decide +kernel
theorem tyX6_ok : ∀ k, k < 5 → parseFieldDescriptor (TX6 k).2.2.1 = some (tyX6 k) := by decide +kernel
abbrev cX6_init : ByteArray := prog_8_method_1_code
def yX6_init : MethodName := ⟨RX6, "<init>", "(II)V"⟩
abbrev cX6_bucketsOf : ByteArray := prog_8_method_3_code
def yX6_bucketsOf : MethodName := ⟨RX6, "bucketsOf", "(Z)LMeridianSeries$Buckets;"⟩
abbrev cX6_take : ByteArray := prog_8_method_4_code
def yX6_take : MethodName := ⟨RX6, "take", "(IILMeridianSeries$Settings;)V"⟩
abbrev cX6_rollUpBy : ByteArray := prog_8_method_5_code
def yX6_rollUpBy : MethodName := ⟨RX6, "rollUpBy", "(ILMeridianSeries$Settings;)V"⟩
abbrev cX6_fineEndingBy : ByteArray := prog_8_method_6_code
def yX6_fineEndingBy : MethodName := ⟨RX6, "fineEndingBy", "(II)I"⟩
abbrev cX6_rollUpFirstBlock : ByteArray := prog_8_method_7_code
def yX6_rollUpFirstBlock : MethodName := ⟨RX6, "rollUpFirstBlock", "(LMeridianSeries$Settings;)V"⟩
abbrev cX6_rollUpFirstFine : ByteArray := prog_8_method_8_code
def yX6_rollUpFirstFine : MethodName := ⟨RX6, "rollUpFirstFine", "(LMeridianSeries$Settings;)V"⟩
abbrev cX6_startFor : ByteArray := prog_8_method_9_code
def yX6_startFor : MethodName := ⟨RX6, "startFor", "(II)I"⟩
abbrev cX6_itemCount : ByteArray := prog_8_method_10_code
def yX6_itemCount : MethodName := ⟨RX6, "itemCount", "()I"⟩
abbrev cX6_ofItem : ByteArray := prog_8_method_11_code
def yX6_ofItem : MethodName := ⟨RX6, "ofItem", "(II)I"⟩
abbrev cX6_firstItemFrom : ByteArray := prog_8_method_12_code
def yX6_firstItemFrom : MethodName := ⟨RX6, "firstItemFrom", "(I)I"⟩
abbrev cX6_tell : ByteArray := prog_8_method_13_code
def yX6_tell : MethodName := ⟨RX6, "tell", "(IIII)I"⟩
abbrev cX6_toldOfGap : ByteArray := prog_8_method_14_code
def yX6_toldOfGap : MethodName := ⟨RX6, "toldOfGap", "(III)I"⟩
abbrev cX6_onLine : ByteArray := prog_8_method_15_code
def yX6_onLine : MethodName := ⟨RX6, "onLine", "(III)I"⟩
abbrev cX6_total : ByteArray := prog_8_method_16_code
def yX6_total : MethodName := ⟨RX6, "total", "(III)I"⟩
abbrev cX6_quotient : ByteArray := prog_8_method_17_code
def yX6_quotient : MethodName := ⟨RX6, "quotient", "(II)I"⟩
abbrev cX6_least : ByteArray := prog_8_method_18_code
def yX6_least : MethodName := ⟨RX6, "least", "(II)I"⟩
abbrev cX6_greatest : ByteArray := prog_8_method_19_code
def yX6_greatest : MethodName := ⟨RX6, "greatest", "(II)I"⟩
abbrev cX6_copyFrom : ByteArray := prog_8_method_20_code
def yX6_copyFrom : MethodName := ⟨RX6, "copyFrom", "(LMeridianSeries$Series;)V"⟩
def RX7 : String := "MeridianSeries$Settings"
def TX7 : u_T := fun k => match k with
  | 0 => ("MeridianSeries$Settings", "span", "I", false)
  | 1 => ("MeridianSeries$Settings", "width", "I", false)
  | 2 => ("MeridianSeries$Settings", "fold", "I", false)
  | 3 => ("MeridianSeries$Settings", "keep", "I", false)
  | _ => ("MeridianSeries$Settings", "longKeep", "I", false)
def tyX7 : Nat → FieldType := fun k => match k with
  | 0 => .int
  | 1 => .int
  | 2 => .int
  | 3 => .int
  | _ => .int
abbrev wsX70 : List Cond := u_ws RX7 TX7 5
theorem nmX7 : ∀ a, a < 5 → ∀ b, b < 5 → a ≠ b → (TX7 a).2.1 ≠ (TX7 b).2.1 := by decide +kernel
theorem tyX7_ok : ∀ k, k < 5 → parseFieldDescriptor (TX7 k).2.2.1 = some (tyX7 k) := by decide +kernel
abbrev cX7_init : ByteArray := prog_9_method_1_code
def yX7_init : MethodName := ⟨RX7, "<init>", "()V"⟩
def RX8 : String := "MeridianSeries$Store"
def TX8 : u_T := fun k => match k with
  | 0 => ("MeridianSeries$Store", "settings", "LMeridianSeries$Settings;", true)
  | 1 => ("MeridianSeries$Store", "chains", "Ljava/util/ArrayList;", true)
  | 2 => ("MeridianSeries$Store", "rules", "Ljava/util/ArrayList;", true)
  | 3 => ("MeridianSeries$Store", "log", "LMeridianSeries$EventLog;", true)
  | _ => ("MeridianSeries$Store", "now", "I", false)
def tyX8 : Nat → FieldType := fun k => match k with
  | 0 => .object "MeridianSeries$Settings"
  | 1 => .object "java/util/ArrayList"
  | 2 => .object "java/util/ArrayList"
  | 3 => .object "MeridianSeries$EventLog"
  | _ => .int
abbrev wsX80 : List Cond := u_ws RX8 TX8 5
theorem nmX8 : ∀ a, a < 5 → ∀ b, b < 5 → a ≠ b → (TX8 a).2.1 ≠ (TX8 b).2.1 := by decide +kernel
theorem tyX8_ok : ∀ k, k < 5 → parseFieldDescriptor (TX8 k).2.2.1 = some (tyX8 k) := by decide +kernel
abbrev cX8_init : ByteArray := prog_10_method_1_code
def yX8_init : MethodName := ⟨RX8, "<init>", "(LMeridianSeries$Settings;)V"⟩
abbrev cX8_hasBucket : ByteArray := prog_10_method_2_code
def yX8_hasBucket : MethodName := ⟨RX8, "hasBucket", "()Z"⟩
abbrev cX8_goOnByOne : ByteArray := prog_10_method_3_code
def yX8_goOnByOne : MethodName := ⟨RX8, "goOnByOne", "()V"⟩
abbrev cX8_copyFrom : ByteArray := prog_10_method_4_code
def yX8_copyFrom : MethodName := ⟨RX8, "copyFrom", "(LMeridianSeries$Store;)V"⟩
def RX9 : String := "MeridianSeries"
def TX9 : u_T := fun k => match k with
  | 0 => ("MeridianSeries", "settings", "LMeridianSeries$Settings;", true)
  | 1 => ("MeridianSeries", "store", "LMeridianSeries$Store;", true)
  | 2 => ("MeridianSeries", "trial", "LMeridianSeries$Store;", true)
  | 3 => ("MeridianSeries", "packer", "LMeridianSeries$Packer;", true)
  | 4 => ("MeridianSeries", "queryFrom", "I", false)
  | 5 => ("MeridianSeries", "queryStep", "I", false)
  | 6 => ("MeridianSeries", "queryWhat", "I", false)
  | 7 => ("MeridianSeries", "queryFill", "I", false)
  | _ => ("MeridianSeries", "lateCount", "I", false)
def tyX9 : Nat → FieldType := fun k => match k with
  | 0 => .object "MeridianSeries$Settings"
  | 1 => .object "MeridianSeries$Store"
  | 2 => .object "MeridianSeries$Store"
  | 3 => .object "MeridianSeries$Packer"
  | 4 => .int
  | 5 => .int
  | 6 => .int
  | 7 => .int
  | _ => .int
abbrev wsX90 : List Cond := u_ws RX9 TX9 9
theorem nmX9 : ∀ a, a < 9 → ∀ b, b < 9 → a ≠ b → (TX9 a).2.1 ≠ (TX9 b).2.1 := by decide +kernel
theorem tyX9_ok : ∀ k, k < 9 → parseFieldDescriptor (TX9 k).2.2.1 = some (tyX9 k) := by decide +kernel
abbrev cX9_init : ByteArray := prog_1_method_1_code
def yX9_init : MethodName := ⟨RX9, "<init>", "()V"⟩
abbrev cX9_addSeries : ByteArray := prog_1_method_2_code
def yX9_addSeries : MethodName := ⟨RX9, "addSeries", "(II)I"⟩
abbrev cX9_setSpan : ByteArray := prog_1_method_3_code
def yX9_setSpan : MethodName := ⟨RX9, "setSpan", "(I)I"⟩
abbrev cX9_setWidths : ByteArray := prog_1_method_4_code
def yX9_setWidths : MethodName := ⟨RX9, "setWidths", "(II)I"⟩
abbrev cX9_setKeep : ByteArray := prog_1_method_5_code
def yX9_setKeep : MethodName := ⟨RX9, "setKeep", "(II)I"⟩
abbrev cX9_setQuery : ByteArray := prog_1_method_6_code
def yX9_setQuery : MethodName := ⟨RX9, "setQuery", "(IIII)I"⟩
abbrev cX9_put : ByteArray := prog_1_method_7_code
def yX9_put : MethodName := ⟨RX9, "put", "(III)I"⟩
abbrev cX9_goOn : ByteArray := prog_1_method_9_code
def yX9_goOn : MethodName := ⟨RX9, "goOn", "(I)I"⟩
abbrev cX9_now : ByteArray := prog_1_method_10_code
def yX9_now : MethodName := ⟨RX9, "now", "()I"⟩
abbrev cX9_late : ByteArray := prog_1_method_12_code
def yX9_late : MethodName := ⟨RX9, "late", "()I"⟩
abbrev cX9_blocks : ByteArray := prog_1_method_13_code
def yX9_blocks : MethodName := ⟨RX9, "blocks", "(I)I"⟩
abbrev cX9_size : ByteArray := prog_1_method_14_code
def yX9_size : MethodName := ⟨RX9, "size", "(II)I"⟩
abbrev cX9_point : ByteArray := prog_1_method_15_code
def yX9_point : MethodName := ⟨RX9, "point", "(IIIZ)I"⟩
abbrev cX9_bits : ByteArray := prog_1_method_16_code
def yX9_bits : MethodName := ⟨RX9, "bits", "(II)I"⟩
abbrev cX9_buckets : ByteArray := prog_1_method_18_code
def yX9_buckets : MethodName := ⟨RX9, "buckets", "(IZ)I"⟩
abbrev cX9_ofBucket : ByteArray := prog_1_method_19_code
def yX9_ofBucket : MethodName := ⟨RX9, "ofBucket", "(IZII)I"⟩
abbrev cX9_items : ByteArray := prog_1_method_20_code
def yX9_items : MethodName := ⟨RX9, "items", "(I)I"⟩
abbrev cX9_ask : ByteArray := prog_1_method_22_code
def yX9_ask : MethodName := ⟨RX9, "ask", "(II)I"⟩
abbrev cX9_lastAt : ByteArray := prog_1_method_25_code
def yX9_lastAt : MethodName := ⟨RX9, "lastAt", "(II)I"⟩
abbrev cX9_addRule : ByteArray := prog_1_method_26_code
def yX9_addRule : MethodName := ⟨RX9, "addRule", "(IIIIZII)I"⟩
abbrev cX9_events : ByteArray := prog_1_method_30_code
def yX9_events : MethodName := ⟨RX9, "events", "()I"⟩
abbrev cX9_event : ByteArray := prog_1_method_31_code
def yX9_event : MethodName := ⟨RX9, "event", "(II)I"⟩
abbrev cX9_bitsWith : ByteArray := prog_1_method_32_code
def yX9_bitsWith : MethodName := ⟨RX9, "bitsWith", "(III)I"⟩
abbrev cX9_firesIn : ByteArray := prog_1_method_33_code
def yX9_firesIn : MethodName := ⟨RX9, "firesIn", "(I)I"⟩
abbrev cX9_wouldRoll : ByteArray := prog_1_method_34_code
def yX9_wouldRoll : MethodName := ⟨RX9, "wouldRoll", "(I)I"⟩
abbrev cX9_digest : ByteArray := prog_1_method_35_code
def yX9_digest : MethodName := ⟨RX9, "digest", "()J"⟩
abbrev cX9_withBlocks : ByteArray := prog_1_method_36_code
def yX9_withBlocks : MethodName := ⟨RX9, "withBlocks", "(JLMeridianSeries$Points;)J"⟩
abbrev cX9_withBuckets : ByteArray := prog_1_method_37_code
def yX9_withBuckets : MethodName := ⟨RX9, "withBuckets", "(JLMeridianSeries$Buckets;)J"⟩
abbrev cX9_withWindows : ByteArray := prog_1_method_38_code
def yX9_withWindows : MethodName := ⟨RX9, "withWindows", "(JLMeridianSeries$Series;)J"⟩
abbrev cX9_isIn : ByteArray := prog_1_method_39_code
def yX9_isIn : MethodName := ⟨RX9, "isIn", "(JII)Z"⟩
abbrev cX9_isValue : ByteArray := prog_1_method_40_code
def yX9_isValue : MethodName := ⟨RX9, "isValue", "(J)Z"⟩
abbrev cX9_isTimeUpToNow : ByteArray := prog_1_method_41_code
def yX9_isTimeUpToNow : MethodName := ⟨RX9, "isTimeUpToNow", "(J)Z"⟩
abbrev cX9_canGoOn : ByteArray := prog_1_method_42_code
def yX9_canGoOn : MethodName := ⟨RX9, "canGoOn", "(I)Z"⟩
abbrev cX9_needArgument : ByteArray := prog_1_method_43_code
def yX9_needArgument : MethodName := ⟨RX9, "needArgument", "(Z)V"⟩
abbrev cX9_needIndex : ByteArray := prog_1_method_44_code
def yX9_needIndex : MethodName := ⟨RX9, "needIndex", "(Z)V"⟩
abbrev cX9_needState : ByteArray := prog_1_method_45_code
def yX9_needState : MethodName := ⟨RX9, "needState", "(Z)V"⟩
abbrev cX9_chainAt : ByteArray := prog_1_method_46_code
def yX9_chainAt : MethodName := ⟨RX9, "chainAt", "(I)LMeridianSeries$Series;"⟩
abbrev cX9_putOrCountLate : ByteArray := prog_1_method_48_code
def yX9_putOrCountLate : MethodName := ⟨RX9, "putOrCountLate", "(LMeridianSeries$Series;II)Z"⟩
abbrev cX9_toldByQuery : ByteArray := prog_1_method_49_code
def yX9_toldByQuery : MethodName := ⟨RX9, "toldByQuery", "(LMeridianSeries$Series;I)I"⟩
def RX10 : String := "MeridianSeriesModel$Bits"
def TX10 : u_T := fun k => match k with
  | _ => ("", "", "", false)
def tyX10 : Nat → FieldType := fun k => match k with
  | _ => .int
abbrev wsX100 : List Cond := u_ws RX10 TX10 0
theorem nmX10 : ∀ a, a < 0 → ∀ b, b < 0 → a ≠ b → (TX10 a).2.1 ≠ (TX10 b).2.1 := by decide +kernel
theorem tyX10_ok : ∀ k, k < 0 → parseFieldDescriptor (TX10 k).2.2.1 = some (tyX10 k) := by decide +kernel
def RX11 : String := "MeridianSeriesModel$Item"
def TX11 : u_T := fun k => match k with
  | _ => ("", "", "", false)
def tyX11 : Nat → FieldType := fun k => match k with
  | _ => .int
abbrev wsX110 : List Cond := u_ws RX11 TX11 0
theorem nmX11 : ∀ a, a < 0 → ∀ b, b < 0 → a ≠ b → (TX11 a).2.1 ≠ (TX11 b).2.1 := by decide +kernel
theorem tyX11_ok : ∀ k, k < 0 → parseFieldDescriptor (TX11 k).2.2.1 = some (tyX11 k) := by decide +kernel
def RX12 : String := "MeridianSeriesModel$Rule"
def TX12 : u_T := fun k => match k with
  | _ => ("", "", "", false)
def tyX12 : Nat → FieldType := fun k => match k with
  | _ => .int
abbrev wsX120 : List Cond := u_ws RX12 TX12 0
theorem nmX12 : ∀ a, a < 0 → ∀ b, b < 0 → a ≠ b → (TX12 a).2.1 ≠ (TX12 b).2.1 := by decide +kernel
theorem tyX12_ok : ∀ k, k < 0 → parseFieldDescriptor (TX12 k).2.2.1 = some (tyX12 k) := by decide +kernel
def RX13 : String := "MeridianSeriesModel$Series"
def TX13 : u_T := fun k => match k with
  | _ => ("", "", "", false)
def tyX13 : Nat → FieldType := fun k => match k with
  | _ => .int
abbrev wsX130 : List Cond := u_ws RX13 TX13 0
theorem nmX13 : ∀ a, a < 0 → ∀ b, b < 0 → a ≠ b → (TX13 a).2.1 ≠ (TX13 b).2.1 := by decide +kernel
theorem tyX13_ok : ∀ k, k < 0 → parseFieldDescriptor (TX13 k).2.2.1 = some (tyX13 k) := by decide +kernel
def RX14 : String := "MeridianSeriesModel$Store"
def TX14 : u_T := fun k => match k with
  | _ => ("", "", "", false)
def tyX14 : Nat → FieldType := fun k => match k with
  | _ => .int
abbrev wsX140 : List Cond := u_ws RX14 TX14 0
theorem nmX14 : ∀ a, a < 0 → ∀ b, b < 0 → a ≠ b → (TX14 a).2.1 ≠ (TX14 b).2.1 := by decide +kernel
theorem tyX14_ok : ∀ k, k < 0 → parseFieldDescriptor (TX14 k).2.2.1 = some (tyX14 k) := by decide +kernel
def RX15 : String := "MeridianSeriesModel"
def TX15 : u_T := fun k => match k with
  | _ => ("", "", "", false)
def tyX15 : Nat → FieldType := fun k => match k with
  | _ => .int
abbrev wsX150 : List Cond := u_ws RX15 TX15 0
theorem nmX15 : ∀ a, a < 0 → ∀ b, b < 0 → a ≠ b → (TX15 a).2.1 ≠ (TX15 b).2.1 := by decide +kernel
theorem tyX15_ok : ∀ k, k < 0 → parseFieldDescriptor (TX15 k).2.2.1 = some (tyX15 k) := by decide +kernel
def RJx145de : String := "java/io/Serializable"
def TJx145de : u_T := fun k => match k with
  | _ => ("", "", "", false)
def tyJx145de : Nat → FieldType := fun k => match k with
  | _ => .int
abbrev wsJx145de0 : List Cond := u_ws RJx145de TJx145de 0
theorem nmJx145de : ∀ a, a < 0 → ∀ b, b < 0 → a ≠ b → (TJx145de a).2.1 ≠ (TJx145de b).2.1 := by decide +kernel
theorem tyJx145de_ok : ∀ k, k < 0 → parseFieldDescriptor (TJx145de k).2.2.1 = some (tyJx145de k) := by decide +kernel
def RJx8e188 : String := "java/lang/Cloneable"
def TJx8e188 : u_T := fun k => match k with
  | _ => ("", "", "", false)
def tyJx8e188 : Nat → FieldType := fun k => match k with
  | _ => .int
abbrev wsJx8e1880 : List Cond := u_ws RJx8e188 TJx8e188 0
theorem nmJx8e188 : ∀ a, a < 0 → ∀ b, b < 0 → a ≠ b → (TJx8e188 a).2.1 ≠ (TJx8e188 b).2.1 := by decide +kernel
theorem tyJx8e188_ok : ∀ k, k < 0 → parseFieldDescriptor (TJx8e188 k).2.2.1 = some (tyJx8e188 k) := by decide +kernel
def RJxab1ab : String := "java/lang/Iterable"
def TJxab1ab : u_T := fun k => match k with
  | _ => ("", "", "", false)
def tyJxab1ab : Nat → FieldType := fun k => match k with
  | _ => .int
abbrev wsJxab1ab0 : List Cond := u_ws RJxab1ab TJxab1ab 0
theorem nmJxab1ab : ∀ a, a < 0 → ∀ b, b < 0 → a ≠ b → (TJxab1ab a).2.1 ≠ (TJxab1ab b).2.1 := by decide +kernel
theorem tyJxab1ab_ok : ∀ k, k < 0 → parseFieldDescriptor (TJxab1ab k).2.2.1 = some (tyJxab1ab k) := by decide +kernel
def RJ9 : String := "java/lang/Math"
def TJ9 : u_T := fun k => match k with
  | _ => ("", "", "", false)
def tyJ9 : Nat → FieldType := fun k => match k with
  | _ => .int
abbrev wsJ90 : List Cond := u_ws RJ9 TJ9 0
theorem nmJ9 : ∀ a, a < 0 → ∀ b, b < 0 → a ≠ b → (TJ9 a).2.1 ≠ (TJ9 b).2.1 := by decide +kernel
theorem tyJ9_ok : ∀ k, k < 0 → parseFieldDescriptor (TJ9 k).2.2.1 = some (tyJ9 k) := by decide +kernel
abbrev cJ9_max_7cf53 : ByteArray := prog_25_method_65_code
def yJ9_max_7cf53 : MethodName := ⟨RJ9, "max", "(II)I"⟩
abbrev cJ9_min_7cf53 : ByteArray := prog_25_method_69_code
def yJ9_min_7cf53 : MethodName := ⟨RJ9, "min", "(II)I"⟩
def RJ0 : String := "java/lang/String"
def TJ0 : u_T := fun k => match k with
  | _ => ("", "", "", false)
def tyJ0 : Nat → FieldType := fun k => match k with
  | _ => .int
abbrev wsJ00 : List Cond := u_ws RJ0 TJ0 0
theorem nmJ0 : ∀ a, a < 0 → ∀ b, b < 0 → a ≠ b → (TJ0 a).2.1 ≠ (TJ0 b).2.1 := by decide +kernel
theorem tyJ0_ok : ∀ k, k < 0 → parseFieldDescriptor (TJ0 k).2.2.1 = some (tyJ0 k) := by decide +kernel
def RJ10 : String := "java/lang/System"
def TJ10 : u_T := fun k => match k with
  | _ => ("", "", "", false)
def tyJ10 : Nat → FieldType := fun k => match k with
  | _ => .int
abbrev wsJ100 : List Cond := u_ws RJ10 TJ10 0
theorem nmJ10 : ∀ a, a < 0 → ∀ b, b < 0 → a ≠ b → (TJ10 a).2.1 ≠ (TJ10 b).2.1 := by decide +kernel
theorem tyJ10_ok : ∀ k, k < 0 → parseFieldDescriptor (TJ10 k).2.2.1 = some (tyJ10 k) := by decide +kernel
def RJxa1e45 : String := "java/util/AbstractCollection"
def TJxa1e45 : u_T := fun k => match k with
  | _ => ("", "", "", false)
def tyJxa1e45 : Nat → FieldType := fun k => match k with
  | _ => .int
abbrev wsJxa1e450 : List Cond := u_ws RJxa1e45 TJxa1e45 0
theorem nmJxa1e45 : ∀ a, a < 0 → ∀ b, b < 0 → a ≠ b → (TJxa1e45 a).2.1 ≠ (TJxa1e45 b).2.1 := by decide +kernel
theorem tyJxa1e45_ok : ∀ k, k < 0 → parseFieldDescriptor (TJxa1e45 k).2.2.1 = some (tyJxa1e45 k) := by decide +kernel
abbrev cJxa1e45_init_da8c8 : ByteArray := prog_30_method_1_code
def yJxa1e45_init_da8c8 : MethodName := ⟨RJxa1e45, "<init>", "()V"⟩
def RJxc12de : String := "java/util/AbstractList"
def TJxc12de : u_T := fun k => match k with
  | _ => ("", "", "", false)
def tyJxc12de : Nat → FieldType := fun k => match k with
  | _ => .int
abbrev wsJxc12de0 : List Cond := u_ws RJxc12de TJxc12de 0
theorem nmJxc12de : ∀ a, a < 0 → ∀ b, b < 0 → a ≠ b → (TJxc12de a).2.1 ≠ (TJxc12de b).2.1 := by decide +kernel
theorem tyJxc12de_ok : ∀ k, k < 0 → parseFieldDescriptor (TJxc12de k).2.2.1 = some (tyJxc12de k) := by decide +kernel
abbrev cJxc12de_init_da8c8 : ByteArray := prog_31_method_1_code
def yJxc12de_init_da8c8 : MethodName := ⟨RJxc12de, "<init>", "()V"⟩
def RJx4a65c : String := "java/util/ArrayList"
def TJx4a65c : u_T := fun k => match k with
  | 0 => ("java/util/AbstractList", "modCount", "I", false)
  | 1 => ("java/util/ArrayList", "elementData", "[Ljava/lang/Object;", false)
  | _ => ("java/util/ArrayList", "size", "I", false)
def tyJx4a65c : Nat → FieldType := fun k => match k with
  | 0 => .int
  | 1 => .array (.object "java/lang/Object")
  | _ => .int
abbrev wsJx4a65c0 : List Cond := u_ws RJx4a65c TJx4a65c 3
theorem nmJx4a65c : ∀ a, a < 3 → ∀ b, b < 3 → a ≠ b → (TJx4a65c a).2.1 ≠ (TJx4a65c b).2.1 := by decide +kernel
theorem tyJx4a65c_ok : ∀ k, k < 3 → parseFieldDescriptor (TJx4a65c k).2.2.1 = some (tyJx4a65c k) := by decide +kernel
abbrev cJx4a65c_init_da8c8 : ByteArray := prog_32_method_2_code
def yJx4a65c_init_da8c8 : MethodName := ⟨RJx4a65c, "<init>", "()V"⟩
abbrev cJx4a65c_grow_92f84 : ByteArray := prog_32_method_6_code
def yJx4a65c_grow_92f84 : MethodName := ⟨RJx4a65c, "grow", "(I)[Ljava/lang/Object;"⟩
abbrev cJx4a65c_grow_d5877 : ByteArray := prog_32_method_7_code
def yJx4a65c_grow_d5877 : MethodName := ⟨RJx4a65c, "grow", "()[Ljava/lang/Object;"⟩
abbrev cJx4a65c_size_8abf5 : ByteArray := prog_32_method_8_code
def yJx4a65c_size_8abf5 : MethodName := ⟨RJx4a65c, "size", "()I"⟩
abbrev cJx4a65c_elementData_915e3 : ByteArray := prog_32_method_18_code
def yJx4a65c_elementData_915e3 : MethodName := ⟨RJx4a65c, "elementData", "(I)Ljava/lang/Object;"⟩
abbrev cJx4a65c_get_915e3 : ByteArray := prog_32_method_20_code
def yJx4a65c_get_915e3 : MethodName := ⟨RJx4a65c, "get", "(I)Ljava/lang/Object;"⟩
abbrev cJx4a65c_add_72be8 : ByteArray := prog_32_method_24_code
def yJx4a65c_add_72be8 : MethodName := ⟨RJx4a65c, "add", "(Ljava/lang/Object;[Ljava/lang/Object;I)V"⟩
abbrev cJx4a65c_add_9ea2d : ByteArray := prog_32_method_25_code
def yJx4a65c_add_9ea2d : MethodName := ⟨RJx4a65c, "add", "(Ljava/lang/Object;)Z"⟩
def RJ7 : String := "java/util/Arrays"
def TJ7 : u_T := fun k => match k with
  | _ => ("", "", "", false)
def tyJ7 : Nat → FieldType := fun k => match k with
  | _ => .int
abbrev wsJ70 : List Cond := u_ws RJ7 TJ7 0
theorem nmJ7 : ∀ a, a < 0 → ∀ b, b < 0 → a ≠ b → (TJ7 a).2.1 ≠ (TJ7 b).2.1 := by decide +kernel
theorem tyJ7_ok : ∀ k, k < 0 → parseFieldDescriptor (TJ7 k).2.2.1 = some (tyJ7 k) := by decide +kernel
abbrev cJ7_fill_53178 : ByteArray := prog_33_method_103_code
def yJ7_fill_53178 : MethodName := ⟨RJ7, "fill", "([II)V"⟩
abbrev cJ7_copyOf_1904c : ByteArray := prog_33_method_119_code
def yJ7_copyOf_1904c : MethodName := ⟨RJ7, "copyOf", "([Ljava/lang/Object;I)[Ljava/lang/Object;"⟩
abbrev cJ7_copyOf_6403c : ByteArray := prog_33_method_120_code
def yJ7_copyOf_6403c : MethodName := ⟨RJ7, "copyOf", "([Ljava/lang/Object;ILjava/lang/Class;)[Ljava/lang/Object;"⟩
def RJx5ef63 : String := "java/util/Collection"
def TJx5ef63 : u_T := fun k => match k with
  | _ => ("", "", "", false)
def tyJx5ef63 : Nat → FieldType := fun k => match k with
  | _ => .int
abbrev wsJx5ef630 : List Cond := u_ws RJx5ef63 TJx5ef63 0
theorem nmJx5ef63 : ∀ a, a < 0 → ∀ b, b < 0 → a ≠ b → (TJx5ef63 a).2.1 ≠ (TJx5ef63 b).2.1 := by decide +kernel
theorem tyJx5ef63_ok : ∀ k, k < 0 → parseFieldDescriptor (TJx5ef63 k).2.2.1 = some (tyJx5ef63 k) := by decide +kernel
def RJxbd725 : String := "java/util/List"
def TJxbd725 : u_T := fun k => match k with
  | _ => ("", "", "", false)
def tyJxbd725 : Nat → FieldType := fun k => match k with
  | _ => .int
abbrev wsJxbd7250 : List Cond := u_ws RJxbd725 TJxbd725 0
theorem nmJxbd725 : ∀ a, a < 0 → ∀ b, b < 0 → a ≠ b → (TJxbd725 a).2.1 ≠ (TJxbd725 b).2.1 := by decide +kernel
theorem tyJxbd725_ok : ∀ k, k < 0 → parseFieldDescriptor (TJxbd725 k).2.2.1 = some (tyJxbd725 k) := by decide +kernel
def RJ15 : String := "java/util/Objects"
def TJ15 : u_T := fun k => match k with
  | _ => ("", "", "", false)
def tyJ15 : Nat → FieldType := fun k => match k with
  | _ => .int
abbrev wsJ150 : List Cond := u_ws RJ15 TJ15 0
theorem nmJ15 : ∀ a, a < 0 → ∀ b, b < 0 → a ≠ b → (TJ15 a).2.1 ≠ (TJ15 b).2.1 := by decide +kernel
theorem tyJ15_ok : ∀ k, k < 0 → parseFieldDescriptor (TJ15 k).2.2.1 = some (tyJ15 k) := by decide +kernel
abbrev cJ15_checkIndex_7cf53 : ByteArray := prog_36_method_17_code
def yJ15_checkIndex_7cf53 : MethodName := ⟨RJ15, "checkIndex", "(II)I"⟩
def RJxf0a74 : String := "java/util/RandomAccess"
def TJxf0a74 : u_T := fun k => match k with
  | _ => ("", "", "", false)
def tyJxf0a74 : Nat → FieldType := fun k => match k with
  | _ => .int
abbrev wsJxf0a740 : List Cond := u_ws RJxf0a74 TJxf0a74 0
theorem nmJxf0a74 : ∀ a, a < 0 → ∀ b, b < 0 → a ≠ b → (TJxf0a74 a).2.1 ≠ (TJxf0a74 b).2.1 := by decide +kernel
theorem tyJxf0a74_ok : ∀ k, k < 0 → parseFieldDescriptor (TJxf0a74 k).2.2.1 = some (tyJxf0a74 k) := by decide +kernel
def RJxa66e6 : String := "java/util/SequencedCollection"
def TJxa66e6 : u_T := fun k => match k with
  | _ => ("", "", "", false)
def tyJxa66e6 : Nat → FieldType := fun k => match k with
  | _ => .int
abbrev wsJxa66e60 : List Cond := u_ws RJxa66e6 TJxa66e6 0
theorem nmJxa66e6 : ∀ a, a < 0 → ∀ b, b < 0 → a ≠ b → (TJxa66e6 a).2.1 ≠ (TJxa66e6 b).2.1 := by decide +kernel
theorem tyJxa66e6_ok : ∀ k, k < 0 → parseFieldDescriptor (TJxa66e6 k).2.2.1 = some (tyJxa66e6 k) := by decide +kernel
def RJ8 : String := "jdk/internal/util/ArraysSupport"
def TJ8 : u_T := fun k => match k with
  | _ => ("", "", "", false)
def tyJ8 : Nat → FieldType := fun k => match k with
  | _ => .int
abbrev wsJ80 : List Cond := u_ws RJ8 TJ8 0
theorem nmJ8 : ∀ a, a < 0 → ∀ b, b < 0 → a ≠ b → (TJ8 a).2.1 ≠ (TJ8 b).2.1 := by decide +kernel
theorem tyJ8_ok : ∀ k, k < 0 → parseFieldDescriptor (TJ8 k).2.2.1 = some (tyJ8 k) := by decide +kernel
abbrev cJ8_newLength_cabcc : ByteArray := prog_39_method_27_code
def yJ8_newLength_cabcc : MethodName := ⟨RJ8, "newLength", "(III)I"⟩
abbrev cJ8_hugeLength_7cf53 : ByteArray := prog_39_method_28_code
def yJ8_hugeLength_7cf53 : MethodName := ⟨RJ8, "hugeLength", "(II)I"⟩
def RJ3 : String := "jdk/internal/util/Preconditions"
def TJ3 : u_T := fun k => match k with
  | _ => ("", "", "", false)
def tyJ3 : Nat → FieldType := fun k => match k with
  | _ => .int
abbrev wsJ30 : List Cond := u_ws RJ3 TJ3 0
theorem nmJ3 : ∀ a, a < 0 → ∀ b, b < 0 → a ≠ b → (TJ3 a).2.1 ≠ (TJ3 b).2.1 := by decide +kernel
theorem tyJ3_ok : ∀ k, k < 0 → parseFieldDescriptor (TJ3 k).2.2.1 = some (tyJ3 k) := by decide +kernel
abbrev cJ3_checkIndex_8e157 : ByteArray := prog_40_method_11_code
def yJ3_checkIndex_8e157 : MethodName := ⟨RJ3, "checkIndex", "(IILjava/util/function/BiFunction;)I"⟩
def RL : String := "MeridianSeriesLaw"
abbrev cL_below : ByteArray := method_2_code
def yL_below : MethodName := ⟨RL, "below", "(II)I"⟩
abbrev cL_cell : ByteArray := method_3_code
def yL_cell : MethodName := ⟨RL, "cell", "([II)I"⟩
abbrev cL_isSound : ByteArray := method_4_code
def yL_isSound : MethodName := ⟨RL, "isSound", "(LMeridianSeries;I)Z"⟩
abbrev cL_law : ByteArray := code
def yL_law : MethodName := ⟨RL, "law", "([I)Z"⟩
def wsX2_init : List Cond := .code yX2_init cX2_init 1 none :: ([.methodLink RX2 1 objectInit, .instanceMethod objectInit, .code objectInit ⟨#[0xb1]⟩ 1 none, .fieldLink RX2 7 "MeridianSeries$Items" "amount" "I"] ++ wsX00 ++ wsX40)
def wsX0_init : List Cond := .code yX0_init cX0_init 1 none :: ([.arrayClass .int, .fieldLink RX0 11 "MeridianSeries$Buckets" "cells" "[I", .instanceMethod yX2_init, .initialized RX2, .code yX2_init cX2_init 1 none, .methodLink RX2 1 objectInit, .instanceMethod objectInit, .code objectInit ⟨#[0xb1]⟩ 1 none, .fieldLink RX2 7 "MeridianSeries$Items" "amount" "I"] ++ wsX00 ++ wsX40)
def wsX0_number : List Cond := .code yX0_number cX0_number 4 (some .int) :: ([.fieldLink RX0 11 "MeridianSeries$Buckets" "cells" "[I"] ++ wsX00)
def wsX0_isFull : List Cond := .code yX0_isFull cX0_isFull 1 (some .boolean) :: ([.fieldLink RX0 15 "MeridianSeries$Buckets" "amount" "I", .sameField "MeridianSeries$Buckets" "MeridianSeries$Items" "amount" "I"] ++ wsX00 ++ wsX40)
def wsX4_number : List Cond := .code yX4_number cX4_number 3 (some .int) :: ([.fieldLink RX4 11 "MeridianSeries$Points" "times" "[I", .fieldLink RX4 15 "MeridianSeries$Points" "values" "[I"] ++ wsX40)
def wsX0_write : List Cond := .code yX0_write cX0_write 5 none :: ([.fieldLink RX0 11 "MeridianSeries$Buckets" "cells" "[I"] ++ wsX00)
def wsX0_take_r1 : List Cond := [Cond.fieldLink RX0 15 "MeridianSeries$Buckets" "amount" "I", Cond.sameField "MeridianSeries$Buckets" "MeridianSeries$Items" "amount" "I", Cond.methodLink RX0 28 Lib.Math.min.name, Cond.static Lib.Math.min.name, Cond.initialized "java/lang/Math", Cond.code Lib.Math.min.name Lib.Math.min.code 2 (some .int), Cond.methodLink RX0 33 Lib.Math.max.name, Cond.static Lib.Math.max.name, Cond.code Lib.Math.max.name Lib.Math.max.code 2 (some .int), Cond.methodLink RX0 19 yX0_number, Cond.instanceMethod yX0_number, Cond.selects RX0 yX0_number yX0_number, Cond.initialized RX0, Cond.code yX0_number cX0_number 4 (some .int), Cond.fieldLink RX0 11 "MeridianSeries$Buckets" "cells" "[I", Cond.methodLink RX0 23 ⟨"MeridianSeries$Items", "number", "(II)I"⟩, Cond.sameMethod "MeridianSeries$Items" "MeridianSeries$Items" "number" "(II)I", Cond.selects RX0 ⟨"MeridianSeries$Items", "number", "(II)I"⟩ yX0_number, Cond.selects RX4 ⟨"MeridianSeries$Items", "number", "(II)I"⟩ yX4_number, Cond.instanceMethod yX4_number, Cond.initialized RX4, Cond.code yX4_number cX4_number 3 (some .int), Cond.fieldLink RX4 11 "MeridianSeries$Points" "times" "[I", Cond.fieldLink RX4 15 "MeridianSeries$Points" "values" "[I"]
def wsX0_take_r2 : List Cond := [Cond.methodLink RX0 24 yX0_write, Cond.instanceMethod yX0_write, Cond.selects RX0 yX0_write yX0_write, Cond.code yX0_write cX0_write 5 none]
def wsX0_take : List Cond := .code yX0_take cX0_take 6 none :: ((wsX0_take_r1 ++ wsX0_take_r2) ++ wsX00 ++ wsX40)
def wsX0_dropFirst : List Cond := .code yX0_dropFirst cX0_dropFirst 2 none :: ([.fieldLink RX0 15 "MeridianSeries$Buckets" "amount" "I", .sameField "MeridianSeries$Buckets" "MeridianSeries$Items" "amount" "I", .fieldLink RX0 11 "MeridianSeries$Buckets" "cells" "[I"] ++ wsX00 ++ wsX40)
def wsX0_copyFrom : List Cond := .code yX0_copyFrom cX0_copyFrom 4 none :: ([.fieldLink RX0 15 "MeridianSeries$Buckets" "amount" "I", .sameField "MeridianSeries$Buckets" "MeridianSeries$Items" "amount" "I", .methodLink RX0 19 yX0_number, .instanceMethod yX0_number, .selects RX0 yX0_number yX0_number, .initialized RX0, .code yX0_number cX0_number 4 (some .int), .fieldLink RX0 11 "MeridianSeries$Buckets" "cells" "[I", .methodLink RX0 24 yX0_write, .instanceMethod yX0_write, .selects RX0 yX0_write yX0_write, .code yX0_write cX0_write 5 none] ++ wsX00 ++ wsX40)
def wsX1_init : List Cond := .code yX1_init cX1_init 1 none :: ([.methodLink RX1 3 objectInit, .instanceMethod objectInit, .code objectInit ⟨#[0xb1]⟩ 1 none, .arrayClass .int, .fieldLink RX1 9 "MeridianSeries$EventLog" "cells" "[I", .fieldLink RX1 15 "MeridianSeries$EventLog" "total" "I", .fieldLink RX1 19 "MeridianSeries$EventLog" "firings" "I"] ++ wsX10)
def wsX1_add : List Cond := .code yX1_add cX1_add 5 none :: ([.fieldLink RX1 15 "MeridianSeries$EventLog" "total" "I", .fieldLink RX1 9 "MeridianSeries$EventLog" "cells" "[I", .fieldLink RX1 19 "MeridianSeries$EventLog" "firings" "I"] ++ wsX10)
def wsX1_number : List Cond := .code yX1_number cX1_number 4 (some .int) :: ([.fieldLink RX1 15 "MeridianSeries$EventLog" "total" "I", .fieldLink RX1 9 "MeridianSeries$EventLog" "cells" "[I"] ++ wsX10)
def wsX3_init : List Cond := .code yX3_init cX3_init 1 none :: ([.methodLink RX3 3 objectInit, .instanceMethod objectInit, .code objectInit ⟨#[0xb1]⟩ 1 none, .arrayClass .int, .fieldLink RX3 11 "MeridianSeries$Packer" "words" "[I", .fieldLink RX3 15 "MeridianSeries$Packer" "length" "I", .fieldLink RX3 19 "MeridianSeries$Packer" "packed" "I", .fieldLink RX3 22 "MeridianSeries$Packer" "lastTime" "I", .fieldLink RX3 25 "MeridianSeries$Packer" "lastStep" "I", .fieldLink RX3 28 "MeridianSeries$Packer" "lastValue" "I"] ++ wsX30)
def wsX4_openSize : List Cond := .code yX4_openSize cX4_openSize 1 (some .int) :: ([.fieldLink RX4 31 "MeridianSeries$Points" "amount" "I", .sameField "MeridianSeries$Points" "MeridianSeries$Items" "amount" "I", .fieldLink RX4 25 "MeridianSeries$Points" "sealedPoints" "I"] ++ wsX00 ++ wsX40)
def wsX4_sizeOf : List Cond := .code yX4_sizeOf cX4_sizeOf 2 (some .int) :: ([.fieldLink RX4 21 "MeridianSeries$Points" "sealedBlocks" "I", .fieldLink RX4 18 "MeridianSeries$Points" "sizes" "[I", .methodLink RX4 34 yX4_openSize, .instanceMethod yX4_openSize, .selects RX4 yX4_openSize yX4_openSize, .initialized RX4, .code yX4_openSize cX4_openSize 1 (some .int), .fieldLink RX4 31 "MeridianSeries$Points" "amount" "I", .sameField "MeridianSeries$Points" "MeridianSeries$Items" "amount" "I", .fieldLink RX4 25 "MeridianSeries$Points" "sealedPoints" "I"] ++ wsX40 ++ wsX00)
def wsX4_startOf : List Cond := .code yX4_startOf cX4_startOf 4 (some .int) :: ([.fieldLink RX4 21 "MeridianSeries$Points" "sealedBlocks" "I", .methodLink RX4 38 yX4_sizeOf, .instanceMethod yX4_sizeOf, .selects RX4 yX4_sizeOf yX4_sizeOf, .initialized RX4, .code yX4_sizeOf cX4_sizeOf 2 (some .int), .fieldLink RX4 18 "MeridianSeries$Points" "sizes" "[I", .methodLink RX4 34 yX4_openSize, .instanceMethod yX4_openSize, .selects RX4 yX4_openSize yX4_openSize, .code yX4_openSize cX4_openSize 1 (some .int), .fieldLink RX4 31 "MeridianSeries$Points" "amount" "I", .sameField "MeridianSeries$Points" "MeridianSeries$Items" "amount" "I", .fieldLink RX4 25 "MeridianSeries$Points" "sealedPoints" "I"] ++ wsX40 ++ wsX00)
def wsJ7_fill_53178 : List Cond := .code yJ7_fill_53178 cJ7_fill_53178 4 none :: ([])
def wsX3_write : List Cond := .code yX3_write cX3_write 5 none :: ([.fieldLink RX3 15 "MeridianSeries$Packer" "length" "I", .fieldLink RX3 11 "MeridianSeries$Packer" "words" "[I"] ++ wsX30)
def wsX3_begin : List Cond := .code yX3_begin cX3_begin 2 none :: ([.fieldLink RX3 11 "MeridianSeries$Packer" "words" "[I", .fieldLink RX3 15 "MeridianSeries$Packer" "length" "I", .fieldLink RX3 19 "MeridianSeries$Packer" "packed" "I", .methodLink RX3 72 yJ7_fill_53178, .static yJ7_fill_53178, .initialized RJ7, .code yJ7_fill_53178 cJ7_fill_53178 4 none, .methodLink RX3 78 yX3_write, .instanceMethod yX3_write, .selects RX3 yX3_write yX3_write, .initialized RX3, .code yX3_write cX3_write 5 none] ++ wsX30)
def wsX9_isIn : List Cond := .code yX9_isIn cX9_isIn 4 (some .boolean) :: ([])
def wsX3_addTime : List Cond := .code yX3_addTime cX3_addTime 2 none :: ([.constant RX3 81 (1048576), .methodLink RX3 78 yX3_write, .instanceMethod yX3_write, .selects RX3 yX3_write yX3_write, .initialized RX3, .code yX3_write cX3_write 5 none, .fieldLink RX3 15 "MeridianSeries$Packer" "length" "I", .fieldLink RX3 11 "MeridianSeries$Packer" "words" "[I", .static yX9_isIn, .initialized RX9, .code yX9_isIn cX9_isIn 4 (some .boolean)] ++ wsX30)
def wsX3_addValue : List Cond := .code yX3_addValue cX3_addValue 2 none :: ([.constant RX3 92 (262144), .methodLink RX3 78 yX3_write, .instanceMethod yX3_write, .selects RX3 yX3_write yX3_write, .initialized RX3, .code yX3_write cX3_write 5 none, .fieldLink RX3 15 "MeridianSeries$Packer" "length" "I", .fieldLink RX3 11 "MeridianSeries$Packer" "words" "[I", .static yX9_isIn, .initialized RX9, .code yX9_isIn cX9_isIn 4 (some .boolean)] ++ wsX30)
def wsX3_add : List Cond := .code yX3_add cX3_add 4 none :: ([.fieldLink RX3 19 "MeridianSeries$Packer" "packed" "I", .constant RX3 81 (1048576), .fieldLink RX3 25 "MeridianSeries$Packer" "lastStep" "I", .fieldLink RX3 22 "MeridianSeries$Packer" "lastTime" "I", .fieldLink RX3 28 "MeridianSeries$Packer" "lastValue" "I", .methodLink RX3 78 yX3_write, .instanceMethod yX3_write, .selects RX3 yX3_write yX3_write, .initialized RX3, .code yX3_write cX3_write 5 none, .fieldLink RX3 15 "MeridianSeries$Packer" "length" "I", .fieldLink RX3 11 "MeridianSeries$Packer" "words" "[I", .methodLink RX3 82 yX3_addTime, .instanceMethod yX3_addTime, .selects RX3 yX3_addTime yX3_addTime, .code yX3_addTime cX3_addTime 2 none, .static yX9_isIn, .initialized RX9, .code yX9_isIn cX9_isIn 4 (some .boolean), .methodLink RX3 85 yX3_addValue, .instanceMethod yX3_addValue, .selects RX3 yX3_addValue yX3_addValue, .code yX3_addValue cX3_addValue 2 none, .constant RX3 92 (262144)] ++ wsX30)
def wsX3_pack_r1 : List Cond := [Cond.fieldLink RX3 31 "MeridianSeries$Points" "sealedBlocks" "I", Cond.fieldLink RX3 15 "MeridianSeries$Packer" "length" "I", Cond.methodLink RX3 36 yX4_startOf, Cond.instanceMethod yX4_startOf, Cond.selects RX4 yX4_startOf yX4_startOf, Cond.initialized RX4, Cond.code yX4_startOf cX4_startOf 4 (some .int), Cond.fieldLink RX4 21 "MeridianSeries$Points" "sealedBlocks" "I", Cond.methodLink RX4 38 yX4_sizeOf, Cond.instanceMethod yX4_sizeOf, Cond.selects RX4 yX4_sizeOf yX4_sizeOf, Cond.code yX4_sizeOf cX4_sizeOf 2 (some .int), Cond.fieldLink RX4 18 "MeridianSeries$Points" "sizes" "[I", Cond.methodLink RX4 34 yX4_openSize, Cond.instanceMethod yX4_openSize, Cond.selects RX4 yX4_openSize yX4_openSize, Cond.code yX4_openSize cX4_openSize 1 (some .int), Cond.fieldLink RX4 31 "MeridianSeries$Points" "amount" "I", Cond.sameField "MeridianSeries$Points" "MeridianSeries$Items" "amount" "I", Cond.fieldLink RX4 25 "MeridianSeries$Points" "sealedPoints" "I", Cond.methodLink RX3 40 yX4_sizeOf, Cond.methodLink RX3 43 yX3_begin, Cond.instanceMethod yX3_begin, Cond.selects RX3 yX3_begin yX3_begin]
def wsX3_pack_r2 : List Cond := [Cond.initialized RX3, Cond.code yX3_begin cX3_begin 2 none, Cond.fieldLink RX3 11 "MeridianSeries$Packer" "words" "[I", Cond.fieldLink RX3 19 "MeridianSeries$Packer" "packed" "I", Cond.methodLink RX3 72 yJ7_fill_53178, Cond.static yJ7_fill_53178, Cond.initialized RJ7, Cond.code yJ7_fill_53178 cJ7_fill_53178 4 none, Cond.methodLink RX3 78 yX3_write, Cond.instanceMethod yX3_write, Cond.selects RX3 yX3_write yX3_write, Cond.code yX3_write cX3_write 5 none, Cond.methodLink RX3 47 yX4_number, Cond.instanceMethod yX4_number, Cond.selects RX4 yX4_number yX4_number, Cond.code yX4_number cX4_number 3 (some .int), Cond.fieldLink RX4 11 "MeridianSeries$Points" "times" "[I", Cond.fieldLink RX4 15 "MeridianSeries$Points" "values" "[I", Cond.methodLink RX3 51 yX3_add, Cond.instanceMethod yX3_add, Cond.selects RX3 yX3_add yX3_add, Cond.code yX3_add cX3_add 4 none, Cond.constant RX3 81 (1048576), Cond.fieldLink RX3 25 "MeridianSeries$Packer" "lastStep" "I"]
def wsX3_pack_r3 : List Cond := [Cond.fieldLink RX3 22 "MeridianSeries$Packer" "lastTime" "I", Cond.fieldLink RX3 28 "MeridianSeries$Packer" "lastValue" "I", Cond.methodLink RX3 82 yX3_addTime, Cond.instanceMethod yX3_addTime, Cond.selects RX3 yX3_addTime yX3_addTime, Cond.code yX3_addTime cX3_addTime 2 none, Cond.static yX9_isIn, Cond.initialized RX9, Cond.code yX9_isIn cX9_isIn 4 (some .boolean), Cond.methodLink RX3 85 yX3_addValue, Cond.instanceMethod yX3_addValue, Cond.selects RX3 yX3_addValue yX3_addValue, Cond.code yX3_addValue cX3_addValue 2 none, Cond.constant RX3 92 (262144)]
def wsX3_pack : List Cond := .code yX3_pack cX3_pack 6 (some .int) :: ((wsX3_pack_r1 ++ (wsX3_pack_r2 ++ wsX3_pack_r3)) ++ wsX40 ++ wsX30 ++ wsX00)
def wsX4_placeOf : List Cond := .code yX4_placeOf cX4_placeOf 3 (some .int) :: ([.fieldLink RX4 25 "MeridianSeries$Points" "sealedPoints" "I", .fieldLink RX4 31 "MeridianSeries$Points" "amount" "I", .sameField "MeridianSeries$Points" "MeridianSeries$Items" "amount" "I", .methodLink RX4 42 yX4_number, .instanceMethod yX4_number, .selects RX4 yX4_number yX4_number, .initialized RX4, .code yX4_number cX4_number 3 (some .int), .fieldLink RX4 11 "MeridianSeries$Points" "times" "[I", .fieldLink RX4 15 "MeridianSeries$Points" "values" "[I"] ++ wsX40 ++ wsX00)
def wsX4_isTakenAt : List Cond := .code yX4_isTakenAt cX4_isTakenAt 3 (some .boolean) :: ([.fieldLink RX4 31 "MeridianSeries$Points" "amount" "I", .sameField "MeridianSeries$Points" "MeridianSeries$Items" "amount" "I", .methodLink RX4 42 yX4_number, .instanceMethod yX4_number, .selects RX4 yX4_number yX4_number, .initialized RX4, .code yX4_number cX4_number 3 (some .int), .fieldLink RX4 11 "MeridianSeries$Points" "times" "[I", .fieldLink RX4 15 "MeridianSeries$Points" "values" "[I"] ++ wsX00 ++ wsX40)
def wsX3_packOpenWith_r1 : List Cond := [Cond.fieldLink RX3 66 "MeridianSeries$Points" "sealedPoints" "I", Cond.fieldLink RX3 69 "MeridianSeries$Points" "amount" "I", Cond.sameField "MeridianSeries$Points" "MeridianSeries$Items" "amount" "I", Cond.fieldLink RX3 15 "MeridianSeries$Packer" "length" "I", Cond.methodLink RX3 55 yX4_placeOf, Cond.instanceMethod yX4_placeOf, Cond.selects RX4 yX4_placeOf yX4_placeOf, Cond.initialized RX4, Cond.code yX4_placeOf cX4_placeOf 3 (some .int), Cond.fieldLink RX4 25 "MeridianSeries$Points" "sealedPoints" "I", Cond.fieldLink RX4 31 "MeridianSeries$Points" "amount" "I", Cond.methodLink RX4 42 yX4_number, Cond.instanceMethod yX4_number, Cond.selects RX4 yX4_number yX4_number, Cond.code yX4_number cX4_number 3 (some .int), Cond.fieldLink RX4 11 "MeridianSeries$Points" "times" "[I", Cond.fieldLink RX4 15 "MeridianSeries$Points" "values" "[I", Cond.methodLink RX3 58 yX4_isTakenAt, Cond.instanceMethod yX4_isTakenAt, Cond.selects RX4 yX4_isTakenAt yX4_isTakenAt, Cond.code yX4_isTakenAt cX4_isTakenAt 3 (some .boolean), Cond.methodLink RX3 62 yX4_openSize, Cond.instanceMethod yX4_openSize, Cond.selects RX4 yX4_openSize yX4_openSize]
def wsX3_packOpenWith_r2 : List Cond := [Cond.code yX4_openSize cX4_openSize 1 (some .int), Cond.methodLink RX3 43 yX3_begin, Cond.instanceMethod yX3_begin, Cond.selects RX3 yX3_begin yX3_begin, Cond.initialized RX3, Cond.code yX3_begin cX3_begin 2 none, Cond.fieldLink RX3 11 "MeridianSeries$Packer" "words" "[I", Cond.fieldLink RX3 19 "MeridianSeries$Packer" "packed" "I", Cond.methodLink RX3 72 yJ7_fill_53178, Cond.static yJ7_fill_53178, Cond.initialized RJ7, Cond.code yJ7_fill_53178 cJ7_fill_53178 4 none, Cond.methodLink RX3 78 yX3_write, Cond.instanceMethod yX3_write, Cond.selects RX3 yX3_write yX3_write, Cond.code yX3_write cX3_write 5 none, Cond.methodLink RX3 47 yX4_number, Cond.methodLink RX3 51 yX3_add, Cond.instanceMethod yX3_add, Cond.selects RX3 yX3_add yX3_add, Cond.code yX3_add cX3_add 4 none, Cond.constant RX3 81 (1048576), Cond.fieldLink RX3 25 "MeridianSeries$Packer" "lastStep" "I", Cond.fieldLink RX3 22 "MeridianSeries$Packer" "lastTime" "I"]
def wsX3_packOpenWith_r3 : List Cond := [Cond.fieldLink RX3 28 "MeridianSeries$Packer" "lastValue" "I", Cond.methodLink RX3 82 yX3_addTime, Cond.instanceMethod yX3_addTime, Cond.selects RX3 yX3_addTime yX3_addTime, Cond.code yX3_addTime cX3_addTime 2 none, Cond.static yX9_isIn, Cond.initialized RX9, Cond.code yX9_isIn cX9_isIn 4 (some .boolean), Cond.methodLink RX3 85 yX3_addValue, Cond.instanceMethod yX3_addValue, Cond.selects RX3 yX3_addValue yX3_addValue, Cond.code yX3_addValue cX3_addValue 2 none, Cond.constant RX3 92 (262144)]
def wsX3_packOpenWith : List Cond := .code yX3_packOpenWith cX3_packOpenWith 7 (some .int) :: ((wsX3_packOpenWith_r1 ++ (wsX3_packOpenWith_r2 ++ wsX3_packOpenWith_r3)) ++ wsX40 ++ wsX00 ++ wsX30)
def wsX4_init : List Cond := .code yX4_init cX4_init 1 none :: ([.arrayClass .int, .fieldLink RX4 11 "MeridianSeries$Points" "times" "[I", .fieldLink RX4 15 "MeridianSeries$Points" "values" "[I", .fieldLink RX4 18 "MeridianSeries$Points" "sizes" "[I", .fieldLink RX4 21 "MeridianSeries$Points" "sealedBlocks" "I", .fieldLink RX4 25 "MeridianSeries$Points" "sealedPoints" "I", .fieldLink RX4 28 "MeridianSeries$Points" "greatestSealedTime" "I", .instanceMethod yX2_init, .initialized RX2, .code yX2_init cX2_init 1 none, .methodLink RX2 1 objectInit, .instanceMethod objectInit, .code objectInit ⟨#[0xb1]⟩ 1 none, .fieldLink RX2 7 "MeridianSeries$Items" "amount" "I"] ++ wsX40 ++ wsX00)
def wsX4_blockCount : List Cond := .code yX4_blockCount cX4_blockCount 1 (some .int) :: ([.fieldLink RX4 21 "MeridianSeries$Points" "sealedBlocks" "I"] ++ wsX40)
def wsX4_isLate : List Cond := .code yX4_isLate cX4_isLate 2 (some .boolean) :: ([.fieldLink RX4 28 "MeridianSeries$Points" "greatestSealedTime" "I"] ++ wsX40)
def wsX4_write : List Cond := .code yX4_write cX4_write 4 none :: ([.fieldLink RX4 11 "MeridianSeries$Points" "times" "[I", .fieldLink RX4 15 "MeridianSeries$Points" "values" "[I"] ++ wsX40)
def wsX4_copyPoint : List Cond := .code yX4_copyPoint cX4_copyPoint 3 none :: ([.methodLink RX4 42 yX4_number, .instanceMethod yX4_number, .selects RX4 yX4_number yX4_number, .initialized RX4, .code yX4_number cX4_number 3 (some .int), .fieldLink RX4 11 "MeridianSeries$Points" "times" "[I", .fieldLink RX4 15 "MeridianSeries$Points" "values" "[I", .methodLink RX4 57 yX4_write, .instanceMethod yX4_write, .selects RX4 yX4_write yX4_write, .code yX4_write cX4_write 4 none] ++ wsX40)
def wsX4_add_r1 : List Cond := [Cond.fieldLink RX4 31 "MeridianSeries$Points" "amount" "I", Cond.sameField "MeridianSeries$Points" "MeridianSeries$Items" "amount" "I", Cond.methodLink RX4 46 yX4_placeOf, Cond.instanceMethod yX4_placeOf, Cond.selects RX4 yX4_placeOf yX4_placeOf, Cond.initialized RX4, Cond.code yX4_placeOf cX4_placeOf 3 (some .int), Cond.fieldLink RX4 25 "MeridianSeries$Points" "sealedPoints" "I", Cond.methodLink RX4 42 yX4_number, Cond.instanceMethod yX4_number, Cond.selects RX4 yX4_number yX4_number, Cond.code yX4_number cX4_number 3 (some .int), Cond.fieldLink RX4 11 "MeridianSeries$Points" "times" "[I", Cond.fieldLink RX4 15 "MeridianSeries$Points" "values" "[I", Cond.methodLink RX4 49 yX4_isTakenAt, Cond.instanceMethod yX4_isTakenAt, Cond.selects RX4 yX4_isTakenAt yX4_isTakenAt, Cond.code yX4_isTakenAt cX4_isTakenAt 3 (some .boolean), Cond.methodLink RX4 53 yX4_copyPoint, Cond.instanceMethod yX4_copyPoint, Cond.selects RX4 yX4_copyPoint yX4_copyPoint, Cond.code yX4_copyPoint cX4_copyPoint 3 none, Cond.methodLink RX4 57 yX4_write, Cond.instanceMethod yX4_write]
def wsX4_add_r2 : List Cond := [Cond.selects RX4 yX4_write yX4_write, Cond.code yX4_write cX4_write 4 none]
def wsX4_add : List Cond := .code yX4_add cX4_add 5 none :: ((wsX4_add_r1 ++ wsX4_add_r2) ++ wsX00 ++ wsX40)
def wsX4_hasTooManySealed : List Cond := .code yX4_hasTooManySealed cX4_hasTooManySealed 1 (some .boolean) :: ([.fieldLink RX4 21 "MeridianSeries$Points" "sealedBlocks" "I"] ++ wsX40)
def wsX4_seal : List Cond := .code yX4_seal cX4_seal 1 none :: ([.fieldLink RX4 21 "MeridianSeries$Points" "sealedBlocks" "I", .fieldLink RX4 18 "MeridianSeries$Points" "sizes" "[I", .fieldLink RX4 31 "MeridianSeries$Points" "amount" "I", .sameField "MeridianSeries$Points" "MeridianSeries$Items" "amount" "I", .fieldLink RX4 25 "MeridianSeries$Points" "sealedPoints" "I", .fieldLink RX4 28 "MeridianSeries$Points" "greatestSealedTime" "I", .methodLink RX4 34 yX4_openSize, .instanceMethod yX4_openSize, .selects RX4 yX4_openSize yX4_openSize, .initialized RX4, .code yX4_openSize cX4_openSize 1 (some .int), .methodLink RX4 42 yX4_number, .instanceMethod yX4_number, .selects RX4 yX4_number yX4_number, .code yX4_number cX4_number 3 (some .int), .fieldLink RX4 11 "MeridianSeries$Points" "times" "[I", .fieldLink RX4 15 "MeridianSeries$Points" "values" "[I"] ++ wsX40 ++ wsX00)
def wsX4_dropFirstBlock_r1 : List Cond := [Cond.fieldLink RX4 21 "MeridianSeries$Points" "sealedBlocks" "I", Cond.fieldLink RX4 31 "MeridianSeries$Points" "amount" "I", Cond.sameField "MeridianSeries$Points" "MeridianSeries$Items" "amount" "I", Cond.fieldLink RX4 18 "MeridianSeries$Points" "sizes" "[I", Cond.fieldLink RX4 25 "MeridianSeries$Points" "sealedPoints" "I", Cond.methodLink RX4 38 yX4_sizeOf, Cond.instanceMethod yX4_sizeOf, Cond.selects RX4 yX4_sizeOf yX4_sizeOf, Cond.initialized RX4, Cond.code yX4_sizeOf cX4_sizeOf 2 (some .int), Cond.methodLink RX4 34 yX4_openSize, Cond.instanceMethod yX4_openSize, Cond.selects RX4 yX4_openSize yX4_openSize, Cond.code yX4_openSize cX4_openSize 1 (some .int), Cond.methodLink RX4 53 yX4_copyPoint, Cond.instanceMethod yX4_copyPoint, Cond.selects RX4 yX4_copyPoint yX4_copyPoint, Cond.code yX4_copyPoint cX4_copyPoint 3 none, Cond.methodLink RX4 42 yX4_number, Cond.instanceMethod yX4_number, Cond.selects RX4 yX4_number yX4_number, Cond.code yX4_number cX4_number 3 (some .int), Cond.fieldLink RX4 11 "MeridianSeries$Points" "times" "[I", Cond.fieldLink RX4 15 "MeridianSeries$Points" "values" "[I"]
def wsX4_dropFirstBlock_r2 : List Cond := [Cond.methodLink RX4 57 yX4_write, Cond.instanceMethod yX4_write, Cond.selects RX4 yX4_write yX4_write, Cond.code yX4_write cX4_write 4 none]
def wsX4_dropFirstBlock : List Cond := .code yX4_dropFirstBlock cX4_dropFirstBlock 3 none :: ((wsX4_dropFirstBlock_r1 ++ wsX4_dropFirstBlock_r2) ++ wsX40 ++ wsX00)
def wsX4_blocksBelow : List Cond := .code yX4_blocksBelow cX4_blocksBelow 4 (some .int) :: ([.fieldLink RX4 21 "MeridianSeries$Points" "sealedBlocks" "I", .methodLink RX4 38 yX4_sizeOf, .instanceMethod yX4_sizeOf, .selects RX4 yX4_sizeOf yX4_sizeOf, .initialized RX4, .code yX4_sizeOf cX4_sizeOf 2 (some .int), .fieldLink RX4 18 "MeridianSeries$Points" "sizes" "[I", .methodLink RX4 34 yX4_openSize, .instanceMethod yX4_openSize, .selects RX4 yX4_openSize yX4_openSize, .code yX4_openSize cX4_openSize 1 (some .int), .fieldLink RX4 31 "MeridianSeries$Points" "amount" "I", .sameField "MeridianSeries$Points" "MeridianSeries$Items" "amount" "I", .fieldLink RX4 25 "MeridianSeries$Points" "sealedPoints" "I", .methodLink RX4 42 yX4_number, .instanceMethod yX4_number, .selects RX4 yX4_number yX4_number, .code yX4_number cX4_number 3 (some .int), .fieldLink RX4 11 "MeridianSeries$Points" "times" "[I", .fieldLink RX4 15 "MeridianSeries$Points" "values" "[I"] ++ wsX40 ++ wsX00)
def wsX4_copyFrom_r1 : List Cond := [Cond.fieldLink RX4 31 "MeridianSeries$Points" "amount" "I", Cond.sameField "MeridianSeries$Points" "MeridianSeries$Items" "amount" "I", Cond.fieldLink RX4 21 "MeridianSeries$Points" "sealedBlocks" "I", Cond.fieldLink RX4 18 "MeridianSeries$Points" "sizes" "[I", Cond.fieldLink RX4 25 "MeridianSeries$Points" "sealedPoints" "I", Cond.fieldLink RX4 28 "MeridianSeries$Points" "greatestSealedTime" "I", Cond.methodLink RX4 42 yX4_number, Cond.instanceMethod yX4_number, Cond.selects RX4 yX4_number yX4_number, Cond.initialized RX4, Cond.code yX4_number cX4_number 3 (some .int), Cond.fieldLink RX4 11 "MeridianSeries$Points" "times" "[I", Cond.fieldLink RX4 15 "MeridianSeries$Points" "values" "[I", Cond.methodLink RX4 57 yX4_write, Cond.instanceMethod yX4_write, Cond.selects RX4 yX4_write yX4_write, Cond.code yX4_write cX4_write 4 none, Cond.methodLink RX4 38 yX4_sizeOf, Cond.instanceMethod yX4_sizeOf, Cond.selects RX4 yX4_sizeOf yX4_sizeOf, Cond.code yX4_sizeOf cX4_sizeOf 2 (some .int), Cond.methodLink RX4 34 yX4_openSize, Cond.instanceMethod yX4_openSize, Cond.selects RX4 yX4_openSize yX4_openSize]
def wsX4_copyFrom_r2 : List Cond := [Cond.code yX4_openSize cX4_openSize 1 (some .int)]
def wsX4_copyFrom : List Cond := .code yX4_copyFrom cX4_copyFrom 3 none :: ((wsX4_copyFrom_r1 ++ wsX4_copyFrom_r2) ++ wsX00 ++ wsX40)
def wsX5_init : List Cond := .code yX5_init cX5_init 8 none :: ([.methodLink RX5 3 objectInit, .instanceMethod objectInit, .code objectInit ⟨#[0xb1]⟩ 1 none, .fieldLink RX5 9 "MeridianSeries$Rule" "state" "I", .fieldLink RX5 15 "MeridianSeries$Rule" "timesInRow" "I", .fieldLink RX5 18 "MeridianSeries$Rule" "chain" "LMeridianSeries$Series;", .fieldLink RX5 22 "MeridianSeries$Rule" "what" "I", .fieldLink RX5 25 "MeridianSeries$Rule" "length" "I", .fieldLink RX5 28 "MeridianSeries$Rule" "every" "I", .fieldLink RX5 31 "MeridianSeries$Rule" "isAbove" "Z", .fieldLink RX5 35 "MeridianSeries$Rule" "limit" "I", .fieldLink RX5 38 "MeridianSeries$Rule" "times" "I"] ++ wsX50)
def wsX5_isDueAt : List Cond := .code yX5_isDueAt cX5_isDueAt 2 (some .boolean) :: ([.fieldLink RX5 28 "MeridianSeries$Rule" "every" "I"] ++ wsX50)
def wsX6_itemCount : List Cond := .code yX6_itemCount cX6_itemCount 1 (some .int) :: ([.fieldLink RX6 25 "MeridianSeries$Series" "coarse" "LMeridianSeries$Buckets;", .fieldLink RX6 79 "MeridianSeries$Buckets" "amount" "I", .sameField "MeridianSeries$Buckets" "MeridianSeries$Items" "amount" "I", .fieldLink RX6 21 "MeridianSeries$Series" "fine" "LMeridianSeries$Buckets;", .fieldLink RX6 12 "MeridianSeries$Series" "points" "LMeridianSeries$Points;", .fieldLink RX6 108 "MeridianSeries$Points" "amount" "I", .sameField "MeridianSeries$Points" "MeridianSeries$Items" "amount" "I"] ++ wsX60 ++ wsX00 ++ wsX40)
def wsX6_ofItem : List Cond := .code yX6_ofItem cX6_ofItem 4 (some .int) :: ([.fieldLink RX6 25 "MeridianSeries$Series" "coarse" "LMeridianSeries$Buckets;", .fieldLink RX6 79 "MeridianSeries$Buckets" "amount" "I", .sameField "MeridianSeries$Buckets" "MeridianSeries$Items" "amount" "I", .fieldLink RX6 21 "MeridianSeries$Series" "fine" "LMeridianSeries$Buckets;", .fieldLink RX6 12 "MeridianSeries$Series" "points" "LMeridianSeries$Points;", .methodLink RX6 82 yX0_number, .instanceMethod yX0_number, .selects RX0 yX0_number yX0_number, .initialized RX0, .code yX0_number cX0_number 4 (some .int), .fieldLink RX0 11 "MeridianSeries$Buckets" "cells" "[I", .methodLink RX6 88 yX4_number, .instanceMethod yX4_number, .selects RX4 yX4_number yX4_number, .initialized RX4, .code yX4_number cX4_number 3 (some .int), .fieldLink RX4 11 "MeridianSeries$Points" "times" "[I", .fieldLink RX4 15 "MeridianSeries$Points" "values" "[I"] ++ wsX60 ++ wsX00 ++ wsX40)
def wsX6_firstItemFrom_r1 : List Cond := [Cond.methodLink RX6 109 yX6_itemCount, Cond.instanceMethod yX6_itemCount, Cond.selects RX6 yX6_itemCount yX6_itemCount, Cond.initialized RX6, Cond.code yX6_itemCount cX6_itemCount 1 (some .int), Cond.fieldLink RX6 25 "MeridianSeries$Series" "coarse" "LMeridianSeries$Buckets;", Cond.fieldLink RX6 79 "MeridianSeries$Buckets" "amount" "I", Cond.sameField "MeridianSeries$Buckets" "MeridianSeries$Items" "amount" "I", Cond.fieldLink RX6 21 "MeridianSeries$Series" "fine" "LMeridianSeries$Buckets;", Cond.fieldLink RX6 12 "MeridianSeries$Series" "points" "LMeridianSeries$Points;", Cond.fieldLink RX6 108 "MeridianSeries$Points" "amount" "I", Cond.sameField "MeridianSeries$Points" "MeridianSeries$Items" "amount" "I", Cond.methodLink RX6 112 yX6_ofItem, Cond.instanceMethod yX6_ofItem, Cond.selects RX6 yX6_ofItem yX6_ofItem, Cond.code yX6_ofItem cX6_ofItem 4 (some .int), Cond.methodLink RX6 82 yX0_number, Cond.instanceMethod yX0_number, Cond.selects RX0 yX0_number yX0_number, Cond.initialized RX0, Cond.code yX0_number cX0_number 4 (some .int), Cond.fieldLink RX0 11 "MeridianSeries$Buckets" "cells" "[I", Cond.methodLink RX6 88 yX4_number, Cond.instanceMethod yX4_number]
def wsX6_firstItemFrom_r2 : List Cond := [Cond.selects RX4 yX4_number yX4_number, Cond.initialized RX4, Cond.code yX4_number cX4_number 3 (some .int), Cond.fieldLink RX4 11 "MeridianSeries$Points" "times" "[I", Cond.fieldLink RX4 15 "MeridianSeries$Points" "values" "[I"]
def wsX6_firstItemFrom : List Cond := .code yX6_firstItemFrom cX6_firstItemFrom 6 (some .int) :: ((wsX6_firstItemFrom_r1 ++ wsX6_firstItemFrom_r2) ++ wsX60 ++ wsX00 ++ wsX40)
def wsX6_onLine : List Cond := .code yX6_onLine cX6_onLine 9 (some .int) :: ([.constant RX6 134 (-1000000), .methodLink RX6 112 yX6_ofItem, .instanceMethod yX6_ofItem, .selects RX6 yX6_ofItem yX6_ofItem, .initialized RX6, .code yX6_ofItem cX6_ofItem 4 (some .int), .fieldLink RX6 25 "MeridianSeries$Series" "coarse" "LMeridianSeries$Buckets;", .fieldLink RX6 79 "MeridianSeries$Buckets" "amount" "I", .sameField "MeridianSeries$Buckets" "MeridianSeries$Items" "amount" "I", .fieldLink RX6 21 "MeridianSeries$Series" "fine" "LMeridianSeries$Buckets;", .fieldLink RX6 12 "MeridianSeries$Series" "points" "LMeridianSeries$Points;", .methodLink RX6 82 yX0_number, .instanceMethod yX0_number, .selects RX0 yX0_number yX0_number, .initialized RX0, .code yX0_number cX0_number 4 (some .int), .fieldLink RX0 11 "MeridianSeries$Buckets" "cells" "[I", .methodLink RX6 88 yX4_number, .instanceMethod yX4_number, .selects RX4 yX4_number yX4_number, .initialized RX4, .code yX4_number cX4_number 3 (some .int), .fieldLink RX4 11 "MeridianSeries$Points" "times" "[I", .fieldLink RX4 15 "MeridianSeries$Points" "values" "[I"] ++ wsX60 ++ wsX00 ++ wsX40)
def wsX6_toldOfGap_r1 : List Cond := [Cond.constant RX6 134 (-1000000), Cond.methodLink RX6 112 yX6_ofItem, Cond.instanceMethod yX6_ofItem, Cond.selects RX6 yX6_ofItem yX6_ofItem, Cond.initialized RX6, Cond.code yX6_ofItem cX6_ofItem 4 (some .int), Cond.fieldLink RX6 25 "MeridianSeries$Series" "coarse" "LMeridianSeries$Buckets;", Cond.fieldLink RX6 79 "MeridianSeries$Buckets" "amount" "I", Cond.sameField "MeridianSeries$Buckets" "MeridianSeries$Items" "amount" "I", Cond.fieldLink RX6 21 "MeridianSeries$Series" "fine" "LMeridianSeries$Buckets;", Cond.fieldLink RX6 12 "MeridianSeries$Series" "points" "LMeridianSeries$Points;", Cond.methodLink RX6 82 yX0_number, Cond.instanceMethod yX0_number, Cond.selects RX0 yX0_number yX0_number, Cond.initialized RX0, Cond.code yX0_number cX0_number 4 (some .int), Cond.fieldLink RX0 11 "MeridianSeries$Buckets" "cells" "[I", Cond.methodLink RX6 88 yX4_number, Cond.instanceMethod yX4_number, Cond.selects RX4 yX4_number yX4_number, Cond.initialized RX4, Cond.code yX4_number cX4_number 3 (some .int), Cond.fieldLink RX4 11 "MeridianSeries$Points" "times" "[I", Cond.fieldLink RX4 15 "MeridianSeries$Points" "values" "[I"]
def wsX6_toldOfGap_r2 : List Cond := [Cond.methodLink RX6 109 yX6_itemCount, Cond.instanceMethod yX6_itemCount, Cond.selects RX6 yX6_itemCount yX6_itemCount, Cond.code yX6_itemCount cX6_itemCount 1 (some .int), Cond.fieldLink RX6 108 "MeridianSeries$Points" "amount" "I", Cond.sameField "MeridianSeries$Points" "MeridianSeries$Items" "amount" "I", Cond.methodLink RX6 135 yX6_onLine, Cond.instanceMethod yX6_onLine, Cond.selects RX6 yX6_onLine yX6_onLine, Cond.code yX6_onLine cX6_onLine 9 (some .int)]
def wsX6_toldOfGap : List Cond := .code yX6_toldOfGap cX6_toldOfGap 5 (some .int) :: ((wsX6_toldOfGap_r1 ++ wsX6_toldOfGap_r2) ++ wsX60 ++ wsX00 ++ wsX40)
def wsX6_total : List Cond := .code yX6_total cX6_total 6 (some .int) :: ([.methodLink RX6 112 yX6_ofItem, .instanceMethod yX6_ofItem, .selects RX6 yX6_ofItem yX6_ofItem, .initialized RX6, .code yX6_ofItem cX6_ofItem 4 (some .int), .fieldLink RX6 25 "MeridianSeries$Series" "coarse" "LMeridianSeries$Buckets;", .fieldLink RX6 79 "MeridianSeries$Buckets" "amount" "I", .sameField "MeridianSeries$Buckets" "MeridianSeries$Items" "amount" "I", .fieldLink RX6 21 "MeridianSeries$Series" "fine" "LMeridianSeries$Buckets;", .fieldLink RX6 12 "MeridianSeries$Series" "points" "LMeridianSeries$Points;", .methodLink RX6 82 yX0_number, .instanceMethod yX0_number, .selects RX0 yX0_number yX0_number, .initialized RX0, .code yX0_number cX0_number 4 (some .int), .fieldLink RX0 11 "MeridianSeries$Buckets" "cells" "[I", .methodLink RX6 88 yX4_number, .instanceMethod yX4_number, .selects RX4 yX4_number yX4_number, .initialized RX4, .code yX4_number cX4_number 3 (some .int), .fieldLink RX4 11 "MeridianSeries$Points" "times" "[I", .fieldLink RX4 15 "MeridianSeries$Points" "values" "[I"] ++ wsX60 ++ wsX00 ++ wsX40)
def wsX6_least_r1 : List Cond := [Cond.methodLink RX6 138 Lib.Math.min.name, Cond.static Lib.Math.min.name, Cond.initialized "java/lang/Math", Cond.code Lib.Math.min.name Lib.Math.min.code 2 (some .int), Cond.methodLink RX6 112 yX6_ofItem, Cond.instanceMethod yX6_ofItem, Cond.selects RX6 yX6_ofItem yX6_ofItem, Cond.initialized RX6, Cond.code yX6_ofItem cX6_ofItem 4 (some .int), Cond.fieldLink RX6 25 "MeridianSeries$Series" "coarse" "LMeridianSeries$Buckets;", Cond.fieldLink RX6 79 "MeridianSeries$Buckets" "amount" "I", Cond.sameField "MeridianSeries$Buckets" "MeridianSeries$Items" "amount" "I", Cond.fieldLink RX6 21 "MeridianSeries$Series" "fine" "LMeridianSeries$Buckets;", Cond.fieldLink RX6 12 "MeridianSeries$Series" "points" "LMeridianSeries$Points;", Cond.methodLink RX6 82 yX0_number, Cond.instanceMethod yX0_number, Cond.selects RX0 yX0_number yX0_number, Cond.initialized RX0, Cond.code yX0_number cX0_number 4 (some .int), Cond.fieldLink RX0 11 "MeridianSeries$Buckets" "cells" "[I", Cond.methodLink RX6 88 yX4_number, Cond.instanceMethod yX4_number, Cond.selects RX4 yX4_number yX4_number, Cond.initialized RX4]
def wsX6_least_r2 : List Cond := [Cond.code yX4_number cX4_number 3 (some .int), Cond.fieldLink RX4 11 "MeridianSeries$Points" "times" "[I", Cond.fieldLink RX4 15 "MeridianSeries$Points" "values" "[I"]
def wsX6_least : List Cond := .code yX6_least cX6_least 5 (some .int) :: ((wsX6_least_r1 ++ wsX6_least_r2) ++ wsX60 ++ wsX00 ++ wsX40)
def wsX6_greatest_r1 : List Cond := [Cond.methodLink RX6 143 Lib.Math.max.name, Cond.static Lib.Math.max.name, Cond.initialized "java/lang/Math", Cond.code Lib.Math.max.name Lib.Math.max.code 2 (some .int), Cond.methodLink RX6 112 yX6_ofItem, Cond.instanceMethod yX6_ofItem, Cond.selects RX6 yX6_ofItem yX6_ofItem, Cond.initialized RX6, Cond.code yX6_ofItem cX6_ofItem 4 (some .int), Cond.fieldLink RX6 25 "MeridianSeries$Series" "coarse" "LMeridianSeries$Buckets;", Cond.fieldLink RX6 79 "MeridianSeries$Buckets" "amount" "I", Cond.sameField "MeridianSeries$Buckets" "MeridianSeries$Items" "amount" "I", Cond.fieldLink RX6 21 "MeridianSeries$Series" "fine" "LMeridianSeries$Buckets;", Cond.fieldLink RX6 12 "MeridianSeries$Series" "points" "LMeridianSeries$Points;", Cond.methodLink RX6 82 yX0_number, Cond.instanceMethod yX0_number, Cond.selects RX0 yX0_number yX0_number, Cond.initialized RX0, Cond.code yX0_number cX0_number 4 (some .int), Cond.fieldLink RX0 11 "MeridianSeries$Buckets" "cells" "[I", Cond.methodLink RX6 88 yX4_number, Cond.instanceMethod yX4_number, Cond.selects RX4 yX4_number yX4_number, Cond.initialized RX4]
def wsX6_greatest_r2 : List Cond := [Cond.code yX4_number cX4_number 3 (some .int), Cond.fieldLink RX4 11 "MeridianSeries$Points" "times" "[I", Cond.fieldLink RX4 15 "MeridianSeries$Points" "values" "[I"]
def wsX6_greatest : List Cond := .code yX6_greatest cX6_greatest 5 (some .int) :: ((wsX6_greatest_r1 ++ wsX6_greatest_r2) ++ wsX60 ++ wsX00 ++ wsX40)
def wsX6_quotient : List Cond := .code yX6_quotient cX6_quotient 2 (some .int) :: ([.constant RX6 134 (-1000000)])
def wsX6_tell_r1 : List Cond := [Cond.methodLink RX6 115 yX6_firstItemFrom, Cond.instanceMethod yX6_firstItemFrom, Cond.selects RX6 yX6_firstItemFrom yX6_firstItemFrom, Cond.initialized RX6, Cond.code yX6_firstItemFrom cX6_firstItemFrom 6 (some .int), Cond.methodLink RX6 109 yX6_itemCount, Cond.instanceMethod yX6_itemCount, Cond.selects RX6 yX6_itemCount yX6_itemCount, Cond.code yX6_itemCount cX6_itemCount 1 (some .int), Cond.fieldLink RX6 25 "MeridianSeries$Series" "coarse" "LMeridianSeries$Buckets;", Cond.fieldLink RX6 79 "MeridianSeries$Buckets" "amount" "I", Cond.sameField "MeridianSeries$Buckets" "MeridianSeries$Items" "amount" "I", Cond.fieldLink RX6 21 "MeridianSeries$Series" "fine" "LMeridianSeries$Buckets;", Cond.fieldLink RX6 12 "MeridianSeries$Series" "points" "LMeridianSeries$Points;", Cond.fieldLink RX6 108 "MeridianSeries$Points" "amount" "I", Cond.sameField "MeridianSeries$Points" "MeridianSeries$Items" "amount" "I", Cond.methodLink RX6 112 yX6_ofItem, Cond.instanceMethod yX6_ofItem, Cond.selects RX6 yX6_ofItem yX6_ofItem, Cond.code yX6_ofItem cX6_ofItem 4 (some .int), Cond.methodLink RX6 82 yX0_number, Cond.instanceMethod yX0_number, Cond.selects RX0 yX0_number yX0_number, Cond.initialized RX0]
def wsX6_tell_r2 : List Cond := [Cond.code yX0_number cX0_number 4 (some .int), Cond.fieldLink RX0 11 "MeridianSeries$Buckets" "cells" "[I", Cond.methodLink RX6 88 yX4_number, Cond.instanceMethod yX4_number, Cond.selects RX4 yX4_number yX4_number, Cond.initialized RX4, Cond.code yX4_number cX4_number 3 (some .int), Cond.fieldLink RX4 11 "MeridianSeries$Points" "times" "[I", Cond.fieldLink RX4 15 "MeridianSeries$Points" "values" "[I", Cond.methodLink RX6 118 yX6_toldOfGap, Cond.instanceMethod yX6_toldOfGap, Cond.selects RX6 yX6_toldOfGap yX6_toldOfGap, Cond.code yX6_toldOfGap cX6_toldOfGap 5 (some .int), Cond.constant RX6 134 (-1000000), Cond.methodLink RX6 135 yX6_onLine, Cond.instanceMethod yX6_onLine, Cond.selects RX6 yX6_onLine yX6_onLine, Cond.code yX6_onLine cX6_onLine 9 (some .int), Cond.methodLink RX6 122 yX6_total, Cond.instanceMethod yX6_total, Cond.selects RX6 yX6_total yX6_total, Cond.code yX6_total cX6_total 6 (some .int), Cond.methodLink RX6 125 yX6_least, Cond.instanceMethod yX6_least]
def wsX6_tell_r3 : List Cond := [Cond.selects RX6 yX6_least yX6_least, Cond.code yX6_least cX6_least 5 (some .int), Cond.methodLink RX6 138 Lib.Math.min.name, Cond.static Lib.Math.min.name, Cond.initialized "java/lang/Math", Cond.code Lib.Math.min.name Lib.Math.min.code 2 (some .int), Cond.methodLink RX6 128 yX6_greatest, Cond.instanceMethod yX6_greatest, Cond.selects RX6 yX6_greatest yX6_greatest, Cond.code yX6_greatest cX6_greatest 5 (some .int), Cond.methodLink RX6 143 Lib.Math.max.name, Cond.static Lib.Math.max.name, Cond.code Lib.Math.max.name Lib.Math.max.code 2 (some .int), Cond.methodLink RX6 131 yX6_quotient, Cond.static yX6_quotient, Cond.code yX6_quotient cX6_quotient 2 (some .int)]
def wsX6_tell : List Cond := .code yX6_tell cX6_tell 7 (some .int) :: ((wsX6_tell_r1 ++ (wsX6_tell_r2 ++ wsX6_tell_r3)) ++ wsX60 ++ wsX00 ++ wsX40)
def wsX5_told_r1 : List Cond := [Cond.fieldLink RX5 18 "MeridianSeries$Rule" "chain" "LMeridianSeries$Series;", Cond.fieldLink RX5 25 "MeridianSeries$Rule" "length" "I", Cond.fieldLink RX5 22 "MeridianSeries$Rule" "what" "I", Cond.methodLink RX5 41 yX6_tell, Cond.instanceMethod yX6_tell, Cond.selects RX6 yX6_tell yX6_tell, Cond.initialized RX6, Cond.code yX6_tell cX6_tell 7 (some .int), Cond.methodLink RX6 115 yX6_firstItemFrom, Cond.instanceMethod yX6_firstItemFrom, Cond.selects RX6 yX6_firstItemFrom yX6_firstItemFrom, Cond.code yX6_firstItemFrom cX6_firstItemFrom 6 (some .int), Cond.methodLink RX6 109 yX6_itemCount, Cond.instanceMethod yX6_itemCount, Cond.selects RX6 yX6_itemCount yX6_itemCount, Cond.code yX6_itemCount cX6_itemCount 1 (some .int), Cond.fieldLink RX6 25 "MeridianSeries$Series" "coarse" "LMeridianSeries$Buckets;", Cond.fieldLink RX6 79 "MeridianSeries$Buckets" "amount" "I", Cond.sameField "MeridianSeries$Buckets" "MeridianSeries$Items" "amount" "I", Cond.fieldLink RX6 21 "MeridianSeries$Series" "fine" "LMeridianSeries$Buckets;", Cond.fieldLink RX6 12 "MeridianSeries$Series" "points" "LMeridianSeries$Points;", Cond.fieldLink RX6 108 "MeridianSeries$Points" "amount" "I", Cond.sameField "MeridianSeries$Points" "MeridianSeries$Items" "amount" "I", Cond.methodLink RX6 112 yX6_ofItem]
def wsX5_told_r2 : List Cond := [Cond.instanceMethod yX6_ofItem, Cond.selects RX6 yX6_ofItem yX6_ofItem, Cond.code yX6_ofItem cX6_ofItem 4 (some .int), Cond.methodLink RX6 82 yX0_number, Cond.instanceMethod yX0_number, Cond.selects RX0 yX0_number yX0_number, Cond.initialized RX0, Cond.code yX0_number cX0_number 4 (some .int), Cond.fieldLink RX0 11 "MeridianSeries$Buckets" "cells" "[I", Cond.methodLink RX6 88 yX4_number, Cond.instanceMethod yX4_number, Cond.selects RX4 yX4_number yX4_number, Cond.initialized RX4, Cond.code yX4_number cX4_number 3 (some .int), Cond.fieldLink RX4 11 "MeridianSeries$Points" "times" "[I", Cond.fieldLink RX4 15 "MeridianSeries$Points" "values" "[I", Cond.methodLink RX6 118 yX6_toldOfGap, Cond.instanceMethod yX6_toldOfGap, Cond.selects RX6 yX6_toldOfGap yX6_toldOfGap, Cond.code yX6_toldOfGap cX6_toldOfGap 5 (some .int), Cond.constant RX6 134 (-1000000), Cond.methodLink RX6 135 yX6_onLine, Cond.instanceMethod yX6_onLine, Cond.selects RX6 yX6_onLine yX6_onLine]
def wsX5_told_r3 : List Cond := [Cond.code yX6_onLine cX6_onLine 9 (some .int), Cond.methodLink RX6 122 yX6_total, Cond.instanceMethod yX6_total, Cond.selects RX6 yX6_total yX6_total, Cond.code yX6_total cX6_total 6 (some .int), Cond.methodLink RX6 125 yX6_least, Cond.instanceMethod yX6_least, Cond.selects RX6 yX6_least yX6_least, Cond.code yX6_least cX6_least 5 (some .int), Cond.methodLink RX6 138 Lib.Math.min.name, Cond.static Lib.Math.min.name, Cond.initialized "java/lang/Math", Cond.code Lib.Math.min.name Lib.Math.min.code 2 (some .int), Cond.methodLink RX6 128 yX6_greatest, Cond.instanceMethod yX6_greatest, Cond.selects RX6 yX6_greatest yX6_greatest, Cond.code yX6_greatest cX6_greatest 5 (some .int), Cond.methodLink RX6 143 Lib.Math.max.name, Cond.static Lib.Math.max.name, Cond.code Lib.Math.max.name Lib.Math.max.code 2 (some .int), Cond.methodLink RX6 131 yX6_quotient, Cond.static yX6_quotient, Cond.code yX6_quotient cX6_quotient 2 (some .int)]
def wsX5_told : List Cond := .code yX5_told cX5_told 2 (some .int) :: ((wsX5_told_r1 ++ (wsX5_told_r2 ++ wsX5_told_r3)) ++ wsX50 ++ wsX60 ++ wsX00 ++ wsX40)
def wsX5_become : List Cond := .code yX5_become cX5_become 2 none :: ([.fieldLink RX5 9 "MeridianSeries$Rule" "state" "I", .fieldLink RX5 15 "MeridianSeries$Rule" "timesInRow" "I"] ++ wsX50)
def wsX5_ceases : List Cond := .code yX5_ceases cX5_ceases 2 (some .boolean) :: ([.fieldLink RX5 15 "MeridianSeries$Rule" "timesInRow" "I", .fieldLink RX5 38 "MeridianSeries$Rule" "times" "I", .methodLink RX5 55 yX5_become, .instanceMethod yX5_become, .selects RX5 yX5_become yX5_become, .initialized RX5, .code yX5_become cX5_become 2 none, .fieldLink RX5 9 "MeridianSeries$Rule" "state" "I"] ++ wsX50)
def wsX5_begins : List Cond := .code yX5_begins cX5_begins 2 (some .boolean) :: ([.fieldLink RX5 9 "MeridianSeries$Rule" "state" "I", .fieldLink RX5 15 "MeridianSeries$Rule" "timesInRow" "I", .fieldLink RX5 38 "MeridianSeries$Rule" "times" "I", .methodLink RX5 55 yX5_become, .instanceMethod yX5_become, .selects RX5 yX5_become yX5_become, .initialized RX5, .code yX5_become cX5_become 2 none] ++ wsX50)
def wsX5_changesBy : List Cond := .code yX5_changesBy cX5_changesBy 3 (some .boolean) :: ([.constant RX5 47 (-1000000), .fieldLink RX5 31 "MeridianSeries$Rule" "isAbove" "Z", .fieldLink RX5 35 "MeridianSeries$Rule" "limit" "I", .fieldLink RX5 9 "MeridianSeries$Rule" "state" "I", .methodLink RX5 48 yX5_ceases, .instanceMethod yX5_ceases, .selects RX5 yX5_ceases yX5_ceases, .initialized RX5, .code yX5_ceases cX5_ceases 2 (some .boolean), .fieldLink RX5 15 "MeridianSeries$Rule" "timesInRow" "I", .fieldLink RX5 38 "MeridianSeries$Rule" "times" "I", .methodLink RX5 55 yX5_become, .instanceMethod yX5_become, .selects RX5 yX5_become yX5_become, .code yX5_become cX5_become 2 none, .methodLink RX5 52 yX5_begins, .instanceMethod yX5_begins, .selects RX5 yX5_begins yX5_begins, .code yX5_begins cX5_begins 2 (some .boolean)] ++ wsX50)
def wsX5_copyFrom : List Cond := .code yX5_copyFrom cX5_copyFrom 2 none :: ([.fieldLink RX5 9 "MeridianSeries$Rule" "state" "I", .fieldLink RX5 15 "MeridianSeries$Rule" "timesInRow" "I"] ++ wsX50)
def wsX6_init_r1 : List Cond := [Cond.methodLink RX6 3 objectInit, Cond.instanceMethod objectInit, Cond.code objectInit ⟨#[0xb1]⟩ 1 none, Cond.classLink RX6 9 RX4, Cond.instantiable RX4 7, Cond.initialized RX4, Cond.fieldLink RX6 12 "MeridianSeries$Series" "points" "LMeridianSeries$Points;", Cond.classLink RX6 18 RX0, Cond.instantiable RX0 2, Cond.initialized RX0, Cond.fieldLink RX6 21 "MeridianSeries$Series" "fine" "LMeridianSeries$Buckets;", Cond.fieldLink RX6 25 "MeridianSeries$Series" "coarse" "LMeridianSeries$Buckets;", Cond.fieldLink RX6 28 "MeridianSeries$Series" "one" "I", Cond.fieldLink RX6 32 "MeridianSeries$Series" "other" "I", Cond.instanceMethod yX4_init, Cond.code yX4_init cX4_init 1 none, Cond.arrayClass .int, Cond.fieldLink RX4 11 "MeridianSeries$Points" "times" "[I", Cond.fieldLink RX4 15 "MeridianSeries$Points" "values" "[I", Cond.fieldLink RX4 18 "MeridianSeries$Points" "sizes" "[I", Cond.fieldLink RX4 21 "MeridianSeries$Points" "sealedBlocks" "I", Cond.fieldLink RX4 25 "MeridianSeries$Points" "sealedPoints" "I", Cond.fieldLink RX4 28 "MeridianSeries$Points" "greatestSealedTime" "I", Cond.instanceMethod yX2_init]
def wsX6_init_r2 : List Cond := [Cond.initialized RX2, Cond.code yX2_init cX2_init 1 none, Cond.methodLink RX2 1 objectInit, Cond.fieldLink RX2 7 "MeridianSeries$Items" "amount" "I", Cond.instanceMethod yX0_init, Cond.code yX0_init cX0_init 1 none, Cond.fieldLink RX0 11 "MeridianSeries$Buckets" "cells" "[I"]
def wsX6_init : List Cond := .code yX6_init cX6_init 3 none :: ((wsX6_init_r1 ++ wsX6_init_r2) ++ wsX40 ++ wsX60 ++ wsX00)
def wsX6_bucketsOf : List Cond := .code yX6_bucketsOf cX6_bucketsOf 2 (some (.object "MeridianSeries$Buckets")) :: ([.fieldLink RX6 25 "MeridianSeries$Series" "coarse" "LMeridianSeries$Buckets;", .fieldLink RX6 21 "MeridianSeries$Series" "fine" "LMeridianSeries$Buckets;"] ++ wsX60)
def wsX6_startFor : List Cond := .code yX6_startFor cX6_startFor 2 (some .int) :: ([])
def wsX6_rollUpFirstFine_r1 : List Cond := [Cond.fieldLink RX6 21 "MeridianSeries$Series" "fine" "LMeridianSeries$Buckets;", Cond.fieldLink RX6 69 "MeridianSeries$Settings" "width" "I", Cond.fieldLink RX6 102 "MeridianSeries$Settings" "fold" "I", Cond.fieldLink RX6 25 "MeridianSeries$Series" "coarse" "LMeridianSeries$Buckets;", Cond.methodLink RX6 82 yX0_number, Cond.instanceMethod yX0_number, Cond.selects RX0 yX0_number yX0_number, Cond.initialized RX0, Cond.code yX0_number cX0_number 4 (some .int), Cond.fieldLink RX0 11 "MeridianSeries$Buckets" "cells" "[I", Cond.methodLink RX6 89 yX6_startFor, Cond.static yX6_startFor, Cond.initialized RX6, Cond.code yX6_startFor cX6_startFor 2 (some .int), Cond.methodLink RX6 92 yX0_take, Cond.instanceMethod yX0_take, Cond.selects RX0 yX0_take yX0_take, Cond.code yX0_take cX0_take 6 none, Cond.fieldLink RX0 15 "MeridianSeries$Buckets" "amount" "I", Cond.sameField "MeridianSeries$Buckets" "MeridianSeries$Items" "amount" "I", Cond.methodLink RX0 28 Lib.Math.min.name, Cond.static Lib.Math.min.name, Cond.initialized "java/lang/Math", Cond.code Lib.Math.min.name Lib.Math.min.code 2 (some .int)]
def wsX6_rollUpFirstFine_r2 : List Cond := [Cond.methodLink RX0 33 Lib.Math.max.name, Cond.static Lib.Math.max.name, Cond.code Lib.Math.max.name Lib.Math.max.code 2 (some .int), Cond.methodLink RX0 19 yX0_number, Cond.methodLink RX0 23 ⟨"MeridianSeries$Items", "number", "(II)I"⟩, Cond.sameMethod "MeridianSeries$Items" "MeridianSeries$Items" "number" "(II)I", Cond.selects RX0 ⟨"MeridianSeries$Items", "number", "(II)I"⟩ yX0_number, Cond.selects RX4 ⟨"MeridianSeries$Items", "number", "(II)I"⟩ yX4_number, Cond.instanceMethod yX4_number, Cond.initialized RX4, Cond.code yX4_number cX4_number 3 (some .int), Cond.fieldLink RX4 11 "MeridianSeries$Points" "times" "[I", Cond.fieldLink RX4 15 "MeridianSeries$Points" "values" "[I", Cond.methodLink RX0 24 yX0_write, Cond.instanceMethod yX0_write, Cond.selects RX0 yX0_write yX0_write, Cond.code yX0_write cX0_write 5 none, Cond.methodLink RX6 105 yX0_dropFirst, Cond.instanceMethod yX0_dropFirst, Cond.selects RX0 yX0_dropFirst yX0_dropFirst, Cond.code yX0_dropFirst cX0_dropFirst 2 none, Cond.methodLink RX6 96 yX0_isFull, Cond.instanceMethod yX0_isFull, Cond.selects RX0 yX0_isFull yX0_isFull]
def wsX6_rollUpFirstFine_r3 : List Cond := [Cond.code yX0_isFull cX0_isFull 1 (some .boolean)]
def wsX6_rollUpFirstFine : List Cond := .code yX6_rollUpFirstFine cX6_rollUpFirstFine 3 none :: ((wsX6_rollUpFirstFine_r1 ++ (wsX6_rollUpFirstFine_r2 ++ wsX6_rollUpFirstFine_r3)) ++ wsX60 ++ wsX70 ++ wsX00 ++ wsX40)
def wsX6_rollUpFirstBlock_r1 : List Cond := [Cond.fieldLink RX6 12 "MeridianSeries$Series" "points" "LMeridianSeries$Points;", Cond.fieldLink RX6 21 "MeridianSeries$Series" "fine" "LMeridianSeries$Buckets;", Cond.fieldLink RX6 69 "MeridianSeries$Settings" "width" "I", Cond.methodLink RX6 85 yX4_sizeOf, Cond.instanceMethod yX4_sizeOf, Cond.selects RX4 yX4_sizeOf yX4_sizeOf, Cond.initialized RX4, Cond.code yX4_sizeOf cX4_sizeOf 2 (some .int), Cond.fieldLink RX4 21 "MeridianSeries$Points" "sealedBlocks" "I", Cond.fieldLink RX4 18 "MeridianSeries$Points" "sizes" "[I", Cond.methodLink RX4 34 yX4_openSize, Cond.instanceMethod yX4_openSize, Cond.selects RX4 yX4_openSize yX4_openSize, Cond.code yX4_openSize cX4_openSize 1 (some .int), Cond.fieldLink RX4 31 "MeridianSeries$Points" "amount" "I", Cond.sameField "MeridianSeries$Points" "MeridianSeries$Items" "amount" "I", Cond.fieldLink RX4 25 "MeridianSeries$Points" "sealedPoints" "I", Cond.methodLink RX6 88 yX4_number, Cond.instanceMethod yX4_number, Cond.selects RX4 yX4_number yX4_number, Cond.code yX4_number cX4_number 3 (some .int), Cond.fieldLink RX4 11 "MeridianSeries$Points" "times" "[I", Cond.fieldLink RX4 15 "MeridianSeries$Points" "values" "[I", Cond.methodLink RX6 89 yX6_startFor]
def wsX6_rollUpFirstBlock_r2 : List Cond := [Cond.static yX6_startFor, Cond.initialized RX6, Cond.code yX6_startFor cX6_startFor 2 (some .int), Cond.methodLink RX6 92 yX0_take, Cond.instanceMethod yX0_take, Cond.selects RX0 yX0_take yX0_take, Cond.initialized RX0, Cond.code yX0_take cX0_take 6 none, Cond.fieldLink RX0 15 "MeridianSeries$Buckets" "amount" "I", Cond.sameField "MeridianSeries$Buckets" "MeridianSeries$Items" "amount" "I", Cond.methodLink RX0 28 Lib.Math.min.name, Cond.static Lib.Math.min.name, Cond.initialized "java/lang/Math", Cond.code Lib.Math.min.name Lib.Math.min.code 2 (some .int), Cond.methodLink RX0 33 Lib.Math.max.name, Cond.static Lib.Math.max.name, Cond.code Lib.Math.max.name Lib.Math.max.code 2 (some .int), Cond.methodLink RX0 19 yX0_number, Cond.instanceMethod yX0_number, Cond.selects RX0 yX0_number yX0_number, Cond.code yX0_number cX0_number 4 (some .int), Cond.fieldLink RX0 11 "MeridianSeries$Buckets" "cells" "[I", Cond.methodLink RX0 23 ⟨"MeridianSeries$Items", "number", "(II)I"⟩, Cond.sameMethod "MeridianSeries$Items" "MeridianSeries$Items" "number" "(II)I"]
def wsX6_rollUpFirstBlock_r3 : List Cond := [Cond.selects RX0 ⟨"MeridianSeries$Items", "number", "(II)I"⟩ yX0_number, Cond.selects RX4 ⟨"MeridianSeries$Items", "number", "(II)I"⟩ yX4_number, Cond.methodLink RX0 24 yX0_write, Cond.instanceMethod yX0_write, Cond.selects RX0 yX0_write yX0_write, Cond.code yX0_write cX0_write 5 none, Cond.methodLink RX6 96 yX0_isFull, Cond.instanceMethod yX0_isFull, Cond.selects RX0 yX0_isFull yX0_isFull, Cond.code yX0_isFull cX0_isFull 1 (some .boolean), Cond.methodLink RX6 76 yX6_rollUpFirstFine, Cond.instanceMethod yX6_rollUpFirstFine, Cond.selects RX6 yX6_rollUpFirstFine yX6_rollUpFirstFine, Cond.code yX6_rollUpFirstFine cX6_rollUpFirstFine 3 none, Cond.fieldLink RX6 102 "MeridianSeries$Settings" "fold" "I", Cond.fieldLink RX6 25 "MeridianSeries$Series" "coarse" "LMeridianSeries$Buckets;", Cond.methodLink RX6 82 yX0_number, Cond.methodLink RX6 105 yX0_dropFirst, Cond.instanceMethod yX0_dropFirst, Cond.selects RX0 yX0_dropFirst yX0_dropFirst, Cond.code yX0_dropFirst cX0_dropFirst 2 none, Cond.methodLink RX6 99 yX4_dropFirstBlock, Cond.instanceMethod yX4_dropFirstBlock, Cond.selects RX4 yX4_dropFirstBlock yX4_dropFirstBlock]
def wsX6_rollUpFirstBlock_r4 : List Cond := [Cond.code yX4_dropFirstBlock cX4_dropFirstBlock 3 none, Cond.methodLink RX4 38 yX4_sizeOf, Cond.methodLink RX4 53 yX4_copyPoint, Cond.instanceMethod yX4_copyPoint, Cond.selects RX4 yX4_copyPoint yX4_copyPoint, Cond.code yX4_copyPoint cX4_copyPoint 3 none, Cond.methodLink RX4 42 yX4_number, Cond.methodLink RX4 57 yX4_write, Cond.instanceMethod yX4_write, Cond.selects RX4 yX4_write yX4_write, Cond.code yX4_write cX4_write 4 none]
def wsX6_rollUpFirstBlock : List Cond := .code yX6_rollUpFirstBlock cX6_rollUpFirstBlock 4 none :: ((wsX6_rollUpFirstBlock_r1 ++ (wsX6_rollUpFirstBlock_r2 ++ (wsX6_rollUpFirstBlock_r3 ++ wsX6_rollUpFirstBlock_r4))) ++ wsX60 ++ wsX70 ++ wsX40 ++ wsX00)
def wsX6_take_r1 : List Cond := [Cond.fieldLink RX6 12 "MeridianSeries$Series" "points" "LMeridianSeries$Points;", Cond.fieldLink RX6 43 "MeridianSeries$Settings" "span" "I", Cond.methodLink RX6 35 yX4_add, Cond.instanceMethod yX4_add, Cond.selects RX4 yX4_add yX4_add, Cond.initialized RX4, Cond.code yX4_add cX4_add 5 none, Cond.fieldLink RX4 31 "MeridianSeries$Points" "amount" "I", Cond.sameField "MeridianSeries$Points" "MeridianSeries$Items" "amount" "I", Cond.methodLink RX4 46 yX4_placeOf, Cond.instanceMethod yX4_placeOf, Cond.selects RX4 yX4_placeOf yX4_placeOf, Cond.code yX4_placeOf cX4_placeOf 3 (some .int), Cond.fieldLink RX4 25 "MeridianSeries$Points" "sealedPoints" "I", Cond.methodLink RX4 42 yX4_number, Cond.instanceMethod yX4_number, Cond.selects RX4 yX4_number yX4_number, Cond.code yX4_number cX4_number 3 (some .int), Cond.fieldLink RX4 11 "MeridianSeries$Points" "times" "[I", Cond.fieldLink RX4 15 "MeridianSeries$Points" "values" "[I", Cond.methodLink RX4 49 yX4_isTakenAt, Cond.instanceMethod yX4_isTakenAt, Cond.selects RX4 yX4_isTakenAt yX4_isTakenAt, Cond.code yX4_isTakenAt cX4_isTakenAt 3 (some .boolean)]
def wsX6_take_r2 : List Cond := [Cond.methodLink RX4 53 yX4_copyPoint, Cond.instanceMethod yX4_copyPoint, Cond.selects RX4 yX4_copyPoint yX4_copyPoint, Cond.code yX4_copyPoint cX4_copyPoint 3 none, Cond.methodLink RX4 57 yX4_write, Cond.instanceMethod yX4_write, Cond.selects RX4 yX4_write yX4_write, Cond.code yX4_write cX4_write 4 none, Cond.methodLink RX6 39 yX4_openSize, Cond.instanceMethod yX4_openSize, Cond.selects RX4 yX4_openSize yX4_openSize, Cond.code yX4_openSize cX4_openSize 1 (some .int), Cond.methodLink RX6 48 yX4_seal, Cond.instanceMethod yX4_seal, Cond.selects RX4 yX4_seal yX4_seal, Cond.code yX4_seal cX4_seal 1 none, Cond.fieldLink RX4 21 "MeridianSeries$Points" "sealedBlocks" "I", Cond.fieldLink RX4 18 "MeridianSeries$Points" "sizes" "[I", Cond.fieldLink RX4 28 "MeridianSeries$Points" "greatestSealedTime" "I", Cond.methodLink RX4 34 yX4_openSize, Cond.methodLink RX6 51 yX4_hasTooManySealed, Cond.instanceMethod yX4_hasTooManySealed, Cond.selects RX4 yX4_hasTooManySealed yX4_hasTooManySealed, Cond.code yX4_hasTooManySealed cX4_hasTooManySealed 1 (some .boolean)]
def wsX6_take_r3 : List Cond := [Cond.methodLink RX6 55 yX6_rollUpFirstBlock, Cond.instanceMethod yX6_rollUpFirstBlock, Cond.selects RX6 yX6_rollUpFirstBlock yX6_rollUpFirstBlock, Cond.initialized RX6, Cond.code yX6_rollUpFirstBlock cX6_rollUpFirstBlock 4 none, Cond.fieldLink RX6 21 "MeridianSeries$Series" "fine" "LMeridianSeries$Buckets;", Cond.fieldLink RX6 69 "MeridianSeries$Settings" "width" "I", Cond.methodLink RX6 85 yX4_sizeOf, Cond.instanceMethod yX4_sizeOf, Cond.selects RX4 yX4_sizeOf yX4_sizeOf, Cond.code yX4_sizeOf cX4_sizeOf 2 (some .int), Cond.methodLink RX6 88 yX4_number, Cond.methodLink RX6 89 yX6_startFor, Cond.static yX6_startFor, Cond.code yX6_startFor cX6_startFor 2 (some .int), Cond.methodLink RX6 92 yX0_take, Cond.instanceMethod yX0_take, Cond.selects RX0 yX0_take yX0_take, Cond.initialized RX0, Cond.code yX0_take cX0_take 6 none, Cond.fieldLink RX0 15 "MeridianSeries$Buckets" "amount" "I", Cond.sameField "MeridianSeries$Buckets" "MeridianSeries$Items" "amount" "I", Cond.methodLink RX0 28 Lib.Math.min.name, Cond.static Lib.Math.min.name]
def wsX6_take_r4 : List Cond := [Cond.initialized "java/lang/Math", Cond.code Lib.Math.min.name Lib.Math.min.code 2 (some .int), Cond.methodLink RX0 33 Lib.Math.max.name, Cond.static Lib.Math.max.name, Cond.code Lib.Math.max.name Lib.Math.max.code 2 (some .int), Cond.methodLink RX0 19 yX0_number, Cond.instanceMethod yX0_number, Cond.selects RX0 yX0_number yX0_number, Cond.code yX0_number cX0_number 4 (some .int), Cond.fieldLink RX0 11 "MeridianSeries$Buckets" "cells" "[I", Cond.methodLink RX0 23 ⟨"MeridianSeries$Items", "number", "(II)I"⟩, Cond.sameMethod "MeridianSeries$Items" "MeridianSeries$Items" "number" "(II)I", Cond.selects RX0 ⟨"MeridianSeries$Items", "number", "(II)I"⟩ yX0_number, Cond.selects RX4 ⟨"MeridianSeries$Items", "number", "(II)I"⟩ yX4_number, Cond.methodLink RX0 24 yX0_write, Cond.instanceMethod yX0_write, Cond.selects RX0 yX0_write yX0_write, Cond.code yX0_write cX0_write 5 none, Cond.methodLink RX6 96 yX0_isFull, Cond.instanceMethod yX0_isFull, Cond.selects RX0 yX0_isFull yX0_isFull, Cond.code yX0_isFull cX0_isFull 1 (some .boolean), Cond.methodLink RX6 76 yX6_rollUpFirstFine, Cond.instanceMethod yX6_rollUpFirstFine]
def wsX6_take_r5 : List Cond := [Cond.selects RX6 yX6_rollUpFirstFine yX6_rollUpFirstFine, Cond.code yX6_rollUpFirstFine cX6_rollUpFirstFine 3 none, Cond.fieldLink RX6 102 "MeridianSeries$Settings" "fold" "I", Cond.fieldLink RX6 25 "MeridianSeries$Series" "coarse" "LMeridianSeries$Buckets;", Cond.methodLink RX6 82 yX0_number, Cond.methodLink RX6 105 yX0_dropFirst, Cond.instanceMethod yX0_dropFirst, Cond.selects RX0 yX0_dropFirst yX0_dropFirst, Cond.code yX0_dropFirst cX0_dropFirst 2 none, Cond.methodLink RX6 99 yX4_dropFirstBlock, Cond.instanceMethod yX4_dropFirstBlock, Cond.selects RX4 yX4_dropFirstBlock yX4_dropFirstBlock, Cond.code yX4_dropFirstBlock cX4_dropFirstBlock 3 none, Cond.methodLink RX4 38 yX4_sizeOf]
def wsX6_take : List Cond := .code yX6_take cX6_take 4 none :: ((wsX6_take_r1 ++ (wsX6_take_r2 ++ (wsX6_take_r3 ++ (wsX6_take_r4 ++ wsX6_take_r5)))) ++ wsX60 ++ wsX70 ++ wsX00 ++ wsX40)
def wsX6_fineEndingBy : List Cond := .code yX6_fineEndingBy cX6_fineEndingBy 4 (some .int) :: ([.fieldLink RX6 21 "MeridianSeries$Series" "fine" "LMeridianSeries$Buckets;", .fieldLink RX6 79 "MeridianSeries$Buckets" "amount" "I", .sameField "MeridianSeries$Buckets" "MeridianSeries$Items" "amount" "I", .methodLink RX6 82 yX0_number, .instanceMethod yX0_number, .selects RX0 yX0_number yX0_number, .initialized RX0, .code yX0_number cX0_number 4 (some .int), .fieldLink RX0 11 "MeridianSeries$Buckets" "cells" "[I"] ++ wsX60 ++ wsX00 ++ wsX40)
def wsX6_rollUpBy_r1 : List Cond := [Cond.fieldLink RX6 59 "MeridianSeries$Settings" "keep" "I", Cond.fieldLink RX6 12 "MeridianSeries$Series" "points" "LMeridianSeries$Points;", Cond.fieldLink RX6 66 "MeridianSeries$Settings" "longKeep" "I", Cond.fieldLink RX6 69 "MeridianSeries$Settings" "width" "I", Cond.methodLink RX6 62 yX4_blocksBelow, Cond.instanceMethod yX4_blocksBelow, Cond.selects RX4 yX4_blocksBelow yX4_blocksBelow, Cond.initialized RX4, Cond.code yX4_blocksBelow cX4_blocksBelow 4 (some .int), Cond.fieldLink RX4 21 "MeridianSeries$Points" "sealedBlocks" "I", Cond.methodLink RX4 38 yX4_sizeOf, Cond.instanceMethod yX4_sizeOf, Cond.selects RX4 yX4_sizeOf yX4_sizeOf, Cond.code yX4_sizeOf cX4_sizeOf 2 (some .int), Cond.fieldLink RX4 18 "MeridianSeries$Points" "sizes" "[I", Cond.methodLink RX4 34 yX4_openSize, Cond.instanceMethod yX4_openSize, Cond.selects RX4 yX4_openSize yX4_openSize, Cond.code yX4_openSize cX4_openSize 1 (some .int), Cond.fieldLink RX4 31 "MeridianSeries$Points" "amount" "I", Cond.sameField "MeridianSeries$Points" "MeridianSeries$Items" "amount" "I", Cond.fieldLink RX4 25 "MeridianSeries$Points" "sealedPoints" "I", Cond.methodLink RX4 42 yX4_number, Cond.instanceMethod yX4_number]
def wsX6_rollUpBy_r2 : List Cond := [Cond.selects RX4 yX4_number yX4_number, Cond.code yX4_number cX4_number 3 (some .int), Cond.fieldLink RX4 11 "MeridianSeries$Points" "times" "[I", Cond.fieldLink RX4 15 "MeridianSeries$Points" "values" "[I", Cond.methodLink RX6 55 yX6_rollUpFirstBlock, Cond.instanceMethod yX6_rollUpFirstBlock, Cond.selects RX6 yX6_rollUpFirstBlock yX6_rollUpFirstBlock, Cond.initialized RX6, Cond.code yX6_rollUpFirstBlock cX6_rollUpFirstBlock 4 none, Cond.fieldLink RX6 21 "MeridianSeries$Series" "fine" "LMeridianSeries$Buckets;", Cond.methodLink RX6 85 yX4_sizeOf, Cond.methodLink RX6 88 yX4_number, Cond.methodLink RX6 89 yX6_startFor, Cond.static yX6_startFor, Cond.code yX6_startFor cX6_startFor 2 (some .int), Cond.methodLink RX6 92 yX0_take, Cond.instanceMethod yX0_take, Cond.selects RX0 yX0_take yX0_take, Cond.initialized RX0, Cond.code yX0_take cX0_take 6 none, Cond.fieldLink RX0 15 "MeridianSeries$Buckets" "amount" "I", Cond.sameField "MeridianSeries$Buckets" "MeridianSeries$Items" "amount" "I", Cond.methodLink RX0 28 Lib.Math.min.name, Cond.static Lib.Math.min.name]
def wsX6_rollUpBy_r3 : List Cond := [Cond.initialized "java/lang/Math", Cond.code Lib.Math.min.name Lib.Math.min.code 2 (some .int), Cond.methodLink RX0 33 Lib.Math.max.name, Cond.static Lib.Math.max.name, Cond.code Lib.Math.max.name Lib.Math.max.code 2 (some .int), Cond.methodLink RX0 19 yX0_number, Cond.instanceMethod yX0_number, Cond.selects RX0 yX0_number yX0_number, Cond.code yX0_number cX0_number 4 (some .int), Cond.fieldLink RX0 11 "MeridianSeries$Buckets" "cells" "[I", Cond.methodLink RX0 23 ⟨"MeridianSeries$Items", "number", "(II)I"⟩, Cond.sameMethod "MeridianSeries$Items" "MeridianSeries$Items" "number" "(II)I", Cond.selects RX0 ⟨"MeridianSeries$Items", "number", "(II)I"⟩ yX0_number, Cond.selects RX4 ⟨"MeridianSeries$Items", "number", "(II)I"⟩ yX4_number, Cond.methodLink RX0 24 yX0_write, Cond.instanceMethod yX0_write, Cond.selects RX0 yX0_write yX0_write, Cond.code yX0_write cX0_write 5 none, Cond.methodLink RX6 96 yX0_isFull, Cond.instanceMethod yX0_isFull, Cond.selects RX0 yX0_isFull yX0_isFull, Cond.code yX0_isFull cX0_isFull 1 (some .boolean), Cond.methodLink RX6 76 yX6_rollUpFirstFine, Cond.instanceMethod yX6_rollUpFirstFine]
def wsX6_rollUpBy_r4 : List Cond := [Cond.selects RX6 yX6_rollUpFirstFine yX6_rollUpFirstFine, Cond.code yX6_rollUpFirstFine cX6_rollUpFirstFine 3 none, Cond.fieldLink RX6 102 "MeridianSeries$Settings" "fold" "I", Cond.fieldLink RX6 25 "MeridianSeries$Series" "coarse" "LMeridianSeries$Buckets;", Cond.methodLink RX6 82 yX0_number, Cond.methodLink RX6 105 yX0_dropFirst, Cond.instanceMethod yX0_dropFirst, Cond.selects RX0 yX0_dropFirst yX0_dropFirst, Cond.code yX0_dropFirst cX0_dropFirst 2 none, Cond.methodLink RX6 99 yX4_dropFirstBlock, Cond.instanceMethod yX4_dropFirstBlock, Cond.selects RX4 yX4_dropFirstBlock yX4_dropFirstBlock, Cond.code yX4_dropFirstBlock cX4_dropFirstBlock 3 none, Cond.methodLink RX4 53 yX4_copyPoint, Cond.instanceMethod yX4_copyPoint, Cond.selects RX4 yX4_copyPoint yX4_copyPoint, Cond.code yX4_copyPoint cX4_copyPoint 3 none, Cond.methodLink RX4 57 yX4_write, Cond.instanceMethod yX4_write, Cond.selects RX4 yX4_write yX4_write, Cond.code yX4_write cX4_write 4 none, Cond.methodLink RX6 72 yX6_fineEndingBy, Cond.instanceMethod yX6_fineEndingBy, Cond.selects RX6 yX6_fineEndingBy yX6_fineEndingBy]
def wsX6_rollUpBy_r5 : List Cond := [Cond.code yX6_fineEndingBy cX6_fineEndingBy 4 (some .int), Cond.fieldLink RX6 79 "MeridianSeries$Buckets" "amount" "I"]
def wsX6_rollUpBy : List Cond := .code yX6_rollUpBy cX6_rollUpBy 7 none :: ((wsX6_rollUpBy_r1 ++ (wsX6_rollUpBy_r2 ++ (wsX6_rollUpBy_r3 ++ (wsX6_rollUpBy_r4 ++ wsX6_rollUpBy_r5)))) ++ wsX70 ++ wsX60 ++ wsX40 ++ wsX00)
def wsX6_copyFrom_r1 : List Cond := [Cond.fieldLink RX6 12 "MeridianSeries$Series" "points" "LMeridianSeries$Points;", Cond.fieldLink RX6 21 "MeridianSeries$Series" "fine" "LMeridianSeries$Buckets;", Cond.fieldLink RX6 25 "MeridianSeries$Series" "coarse" "LMeridianSeries$Buckets;", Cond.methodLink RX6 146 yX4_copyFrom, Cond.instanceMethod yX4_copyFrom, Cond.selects RX4 yX4_copyFrom yX4_copyFrom, Cond.initialized RX4, Cond.code yX4_copyFrom cX4_copyFrom 3 none, Cond.fieldLink RX4 31 "MeridianSeries$Points" "amount" "I", Cond.sameField "MeridianSeries$Points" "MeridianSeries$Items" "amount" "I", Cond.fieldLink RX4 21 "MeridianSeries$Points" "sealedBlocks" "I", Cond.fieldLink RX4 18 "MeridianSeries$Points" "sizes" "[I", Cond.fieldLink RX4 25 "MeridianSeries$Points" "sealedPoints" "I", Cond.fieldLink RX4 28 "MeridianSeries$Points" "greatestSealedTime" "I", Cond.methodLink RX4 42 yX4_number, Cond.instanceMethod yX4_number, Cond.selects RX4 yX4_number yX4_number, Cond.code yX4_number cX4_number 3 (some .int), Cond.fieldLink RX4 11 "MeridianSeries$Points" "times" "[I", Cond.fieldLink RX4 15 "MeridianSeries$Points" "values" "[I", Cond.methodLink RX4 57 yX4_write, Cond.instanceMethod yX4_write, Cond.selects RX4 yX4_write yX4_write, Cond.code yX4_write cX4_write 4 none]
def wsX6_copyFrom_r2 : List Cond := [Cond.methodLink RX4 38 yX4_sizeOf, Cond.instanceMethod yX4_sizeOf, Cond.selects RX4 yX4_sizeOf yX4_sizeOf, Cond.code yX4_sizeOf cX4_sizeOf 2 (some .int), Cond.methodLink RX4 34 yX4_openSize, Cond.instanceMethod yX4_openSize, Cond.selects RX4 yX4_openSize yX4_openSize, Cond.code yX4_openSize cX4_openSize 1 (some .int), Cond.methodLink RX6 150 yX0_copyFrom, Cond.instanceMethod yX0_copyFrom, Cond.selects RX0 yX0_copyFrom yX0_copyFrom, Cond.initialized RX0, Cond.code yX0_copyFrom cX0_copyFrom 4 none, Cond.fieldLink RX0 15 "MeridianSeries$Buckets" "amount" "I", Cond.sameField "MeridianSeries$Buckets" "MeridianSeries$Items" "amount" "I", Cond.methodLink RX0 19 yX0_number, Cond.instanceMethod yX0_number, Cond.selects RX0 yX0_number yX0_number, Cond.code yX0_number cX0_number 4 (some .int), Cond.fieldLink RX0 11 "MeridianSeries$Buckets" "cells" "[I", Cond.methodLink RX0 24 yX0_write, Cond.instanceMethod yX0_write, Cond.selects RX0 yX0_write yX0_write, Cond.code yX0_write cX0_write 5 none]
def wsX6_copyFrom : List Cond := .code yX6_copyFrom cX6_copyFrom 2 none :: ((wsX6_copyFrom_r1 ++ wsX6_copyFrom_r2) ++ wsX60 ++ wsX00 ++ wsX40)
def wsX7_init : List Cond := .code yX7_init cX7_init 1 none :: ([.methodLink RX7 1 objectInit, .instanceMethod objectInit, .code objectInit ⟨#[0xb1]⟩ 1 none, .fieldLink RX7 7 "MeridianSeries$Settings" "span" "I", .fieldLink RX7 13 "MeridianSeries$Settings" "width" "I", .fieldLink RX7 16 "MeridianSeries$Settings" "fold" "I", .fieldLink RX7 19 "MeridianSeries$Settings" "keep" "I", .fieldLink RX7 22 "MeridianSeries$Settings" "longKeep" "I"] ++ wsX70)
def wsJxa1e45_init_da8c8 : List Cond := .code yJxa1e45_init_da8c8 cJxa1e45_init_da8c8 1 none :: ([.methodLink RJxa1e45 1 objectInit, .instanceMethod objectInit, .code objectInit ⟨#[0xb1]⟩ 1 none])
def wsJxc12de_init_da8c8 : List Cond := .code yJxc12de_init_da8c8 cJxc12de_init_da8c8 1 none :: ([.fieldLink RJxc12de 7 "java/util/AbstractList" "modCount" "I", .methodLink RJxc12de 1 yJxa1e45_init_da8c8, .instanceMethod yJxa1e45_init_da8c8, .initialized RJxa1e45, .code yJxa1e45_init_da8c8 cJxa1e45_init_da8c8 1 none, .methodLink RJxa1e45 1 objectInit, .instanceMethod objectInit, .code objectInit ⟨#[0xb1]⟩ 1 none] ++ wsJx4a65c0)
def wsJx4a65c_init_da8c8 : List Cond := .code yJx4a65c_init_da8c8 cJx4a65c_init_da8c8 1 none :: ([.fieldLink RJx4a65c 39 "java/util/ArrayList" "DEFAULTCAPACITY_EMPTY_ELEMENTDATA" "[Ljava/lang/Object;", .fieldLink RJx4a65c 9 "java/util/ArrayList" "elementData" "[Ljava/lang/Object;", .methodLink RJx4a65c 1 yJxc12de_init_da8c8, .instanceMethod yJxc12de_init_da8c8, .initialized RJxc12de, .code yJxc12de_init_da8c8 cJxc12de_init_da8c8 1 none, .fieldLink RJxc12de 7 "java/util/AbstractList" "modCount" "I", .methodLink RJxc12de 1 yJxa1e45_init_da8c8, .instanceMethod yJxa1e45_init_da8c8, .initialized RJxa1e45, .code yJxa1e45_init_da8c8 cJxa1e45_init_da8c8 1 none, .methodLink RJxa1e45 1 objectInit, .instanceMethod objectInit, .code objectInit ⟨#[0xb1]⟩ 1 none] ++ wsJx4a65c0)
def wsX8_init_r1 : List Cond := [Cond.methodLink RX8 1 objectInit, Cond.instanceMethod objectInit, Cond.code objectInit ⟨#[0xb1]⟩ 1 none, Cond.classLink RX8 7 RJx4a65c, Cond.instantiable RJx4a65c 3, Cond.initialized RJx4a65c, Cond.fieldLink RX8 10 "MeridianSeries$Store" "chains" "Ljava/util/ArrayList;", Cond.fieldLink RX8 16 "MeridianSeries$Store" "rules" "Ljava/util/ArrayList;", Cond.classLink RX8 19 RX1, Cond.instantiable RX1 3, Cond.initialized RX1, Cond.fieldLink RX8 22 "MeridianSeries$Store" "log" "LMeridianSeries$EventLog;", Cond.fieldLink RX8 26 "MeridianSeries$Store" "now" "I", Cond.fieldLink RX8 30 "MeridianSeries$Store" "settings" "LMeridianSeries$Settings;", Cond.methodLink RX8 9 yJx4a65c_init_da8c8, Cond.instanceMethod yJx4a65c_init_da8c8, Cond.code yJx4a65c_init_da8c8 cJx4a65c_init_da8c8 1 none, Cond.fieldLink RJx4a65c 39 "java/util/ArrayList" "DEFAULTCAPACITY_EMPTY_ELEMENTDATA" "[Ljava/lang/Object;", Cond.fieldLink RJx4a65c 9 "java/util/ArrayList" "elementData" "[Ljava/lang/Object;", Cond.methodLink RJx4a65c 1 yJxc12de_init_da8c8, Cond.instanceMethod yJxc12de_init_da8c8, Cond.initialized RJxc12de, Cond.code yJxc12de_init_da8c8 cJxc12de_init_da8c8 1 none, Cond.fieldLink RJxc12de 7 "java/util/AbstractList" "modCount" "I"]
def wsX8_init_r2 : List Cond := [Cond.methodLink RJxc12de 1 yJxa1e45_init_da8c8, Cond.instanceMethod yJxa1e45_init_da8c8, Cond.initialized RJxa1e45, Cond.code yJxa1e45_init_da8c8 cJxa1e45_init_da8c8 1 none, Cond.methodLink RJxa1e45 1 objectInit, Cond.instanceMethod yX1_init, Cond.code yX1_init cX1_init 1 none, Cond.methodLink RX1 3 objectInit, Cond.arrayClass .int, Cond.fieldLink RX1 9 "MeridianSeries$EventLog" "cells" "[I", Cond.fieldLink RX1 15 "MeridianSeries$EventLog" "total" "I", Cond.fieldLink RX1 19 "MeridianSeries$EventLog" "firings" "I"]
def wsX8_init : List Cond := .code yX8_init cX8_init 2 none :: ((wsX8_init_r1 ++ wsX8_init_r2) ++ wsJx4a65c0 ++ wsX80 ++ wsX10)
def wsJx4a65c_size_8abf5 : List Cond := .code yJx4a65c_size_8abf5 cJx4a65c_size_8abf5 1 (some .int) :: ([.fieldLink RJx4a65c 48 "java/util/ArrayList" "size" "I"] ++ wsJx4a65c0)
def wsJ3_checkIndex_8e157 : List Cond := .code yJ3_checkIndex_8e157 cJ3_checkIndex_8e157 3 (some .int) :: ([])
def wsJ15_checkIndex_7cf53 : List Cond := .code yJ15_checkIndex_7cf53 cJ15_checkIndex_7cf53 2 (some .int) :: ([.methodLink RJ15 105 yJ3_checkIndex_8e157, .static yJ3_checkIndex_8e157, .initialized RJ3, .code yJ3_checkIndex_8e157 cJ3_checkIndex_8e157 3 (some .int)])
def wsJx4a65c_elementData_915e3 : List Cond := .code yJx4a65c_elementData_915e3 cJx4a65c_elementData_915e3 2 (some (.object "java/lang/Object")) :: ([.fieldLink RJx4a65c 9 "java/util/ArrayList" "elementData" "[Ljava/lang/Object;"] ++ wsJx4a65c0)
def wsJx4a65c_get_915e3 : List Cond := .code yJx4a65c_get_915e3 cJx4a65c_get_915e3 2 (some (.object "java/lang/Object")) :: ([.fieldLink RJx4a65c 48 "java/util/ArrayList" "size" "I", .methodLink RJx4a65c 118 yJ15_checkIndex_7cf53, .static yJ15_checkIndex_7cf53, .initialized RJ15, .code yJ15_checkIndex_7cf53 cJ15_checkIndex_7cf53 2 (some .int), .methodLink RJ15 105 yJ3_checkIndex_8e157, .static yJ3_checkIndex_8e157, .initialized RJ3, .code yJ3_checkIndex_8e157 cJ3_checkIndex_8e157 3 (some .int), .methodLink RJx4a65c 123 yJx4a65c_elementData_915e3, .instanceMethod yJx4a65c_elementData_915e3, .selects RJx4a65c yJx4a65c_elementData_915e3 yJx4a65c_elementData_915e3, .initialized RJx4a65c, .code yJx4a65c_elementData_915e3 cJx4a65c_elementData_915e3 2 (some (.object "java/lang/Object")), .fieldLink RJx4a65c 9 "java/util/ArrayList" "elementData" "[Ljava/lang/Object;"] ++ wsJx4a65c0)
def wsX8_hasBucket_r1 : List Cond := [Cond.fieldLink RX8 10 "MeridianSeries$Store" "chains" "Ljava/util/ArrayList;", Cond.classLink RX8 42 "MeridianSeries$Series", Cond.fieldLink RX8 44 "MeridianSeries$Series" "fine" "LMeridianSeries$Buckets;", Cond.fieldLink RX8 48 "MeridianSeries$Buckets" "amount" "I", Cond.sameField "MeridianSeries$Buckets" "MeridianSeries$Items" "amount" "I", Cond.fieldLink RX8 53 "MeridianSeries$Series" "coarse" "LMeridianSeries$Buckets;", Cond.methodLink RX8 34 yJx4a65c_size_8abf5, Cond.instanceMethod yJx4a65c_size_8abf5, Cond.selects RJx4a65c yJx4a65c_size_8abf5 yJx4a65c_size_8abf5, Cond.initialized RJx4a65c, Cond.code yJx4a65c_size_8abf5 cJx4a65c_size_8abf5 1 (some .int), Cond.fieldLink RJx4a65c 48 "java/util/ArrayList" "size" "I", Cond.methodLink RX8 38 yJx4a65c_get_915e3, Cond.instanceMethod yJx4a65c_get_915e3, Cond.selects RJx4a65c yJx4a65c_get_915e3 yJx4a65c_get_915e3, Cond.code yJx4a65c_get_915e3 cJx4a65c_get_915e3 2 (some (.object "java/lang/Object")), Cond.methodLink RJx4a65c 118 yJ15_checkIndex_7cf53, Cond.static yJ15_checkIndex_7cf53, Cond.initialized RJ15, Cond.code yJ15_checkIndex_7cf53 cJ15_checkIndex_7cf53 2 (some .int), Cond.methodLink RJ15 105 yJ3_checkIndex_8e157, Cond.static yJ3_checkIndex_8e157, Cond.initialized RJ3, Cond.code yJ3_checkIndex_8e157 cJ3_checkIndex_8e157 3 (some .int)]
def wsX8_hasBucket_r2 : List Cond := [Cond.methodLink RJx4a65c 123 yJx4a65c_elementData_915e3, Cond.instanceMethod yJx4a65c_elementData_915e3, Cond.selects RJx4a65c yJx4a65c_elementData_915e3 yJx4a65c_elementData_915e3, Cond.code yJx4a65c_elementData_915e3 cJx4a65c_elementData_915e3 2 (some (.object "java/lang/Object")), Cond.fieldLink RJx4a65c 9 "java/util/ArrayList" "elementData" "[Ljava/lang/Object;"]
def wsX8_hasBucket : List Cond := .code yX8_hasBucket cX8_hasBucket 2 (some .boolean) :: ((wsX8_hasBucket_r1 ++ wsX8_hasBucket_r2) ++ wsX80 ++ wsX60 ++ wsX00 ++ wsX40 ++ wsJx4a65c0)
def wsX8_goOnByOne_r1 : List Cond := [Cond.fieldLink RX8 26 "MeridianSeries$Store" "now" "I", Cond.fieldLink RX8 10 "MeridianSeries$Store" "chains" "Ljava/util/ArrayList;", Cond.classLink RX8 42 "MeridianSeries$Series", Cond.fieldLink RX8 30 "MeridianSeries$Store" "settings" "LMeridianSeries$Settings;", Cond.fieldLink RX8 16 "MeridianSeries$Store" "rules" "Ljava/util/ArrayList;", Cond.classLink RX8 60 "MeridianSeries$Rule", Cond.fieldLink RX8 22 "MeridianSeries$Store" "log" "LMeridianSeries$EventLog;", Cond.fieldLink RX8 73 "MeridianSeries$Rule" "state" "I", Cond.methodLink RX8 34 yJx4a65c_size_8abf5, Cond.instanceMethod yJx4a65c_size_8abf5, Cond.selects RJx4a65c yJx4a65c_size_8abf5 yJx4a65c_size_8abf5, Cond.initialized RJx4a65c, Cond.code yJx4a65c_size_8abf5 cJx4a65c_size_8abf5 1 (some .int), Cond.fieldLink RJx4a65c 48 "java/util/ArrayList" "size" "I", Cond.methodLink RX8 38 yJx4a65c_get_915e3, Cond.instanceMethod yJx4a65c_get_915e3, Cond.selects RJx4a65c yJx4a65c_get_915e3 yJx4a65c_get_915e3, Cond.code yJx4a65c_get_915e3 cJx4a65c_get_915e3 2 (some (.object "java/lang/Object")), Cond.methodLink RJx4a65c 118 yJ15_checkIndex_7cf53, Cond.static yJ15_checkIndex_7cf53, Cond.initialized RJ15, Cond.code yJ15_checkIndex_7cf53 cJ15_checkIndex_7cf53 2 (some .int), Cond.methodLink RJ15 105 yJ3_checkIndex_8e157, Cond.static yJ3_checkIndex_8e157]
def wsX8_goOnByOne_r2 : List Cond := [Cond.initialized RJ3, Cond.code yJ3_checkIndex_8e157 cJ3_checkIndex_8e157 3 (some .int), Cond.methodLink RJx4a65c 123 yJx4a65c_elementData_915e3, Cond.instanceMethod yJx4a65c_elementData_915e3, Cond.selects RJx4a65c yJx4a65c_elementData_915e3 yJx4a65c_elementData_915e3, Cond.code yJx4a65c_elementData_915e3 cJx4a65c_elementData_915e3 2 (some (.object "java/lang/Object")), Cond.fieldLink RJx4a65c 9 "java/util/ArrayList" "elementData" "[Ljava/lang/Object;", Cond.methodLink RX8 56 yX6_rollUpBy, Cond.instanceMethod yX6_rollUpBy, Cond.selects RX6 yX6_rollUpBy yX6_rollUpBy, Cond.initialized RX6, Cond.code yX6_rollUpBy cX6_rollUpBy 7 none, Cond.fieldLink RX6 59 "MeridianSeries$Settings" "keep" "I", Cond.fieldLink RX6 12 "MeridianSeries$Series" "points" "LMeridianSeries$Points;", Cond.fieldLink RX6 66 "MeridianSeries$Settings" "longKeep" "I", Cond.fieldLink RX6 69 "MeridianSeries$Settings" "width" "I", Cond.methodLink RX6 62 yX4_blocksBelow, Cond.instanceMethod yX4_blocksBelow, Cond.selects RX4 yX4_blocksBelow yX4_blocksBelow, Cond.initialized RX4, Cond.code yX4_blocksBelow cX4_blocksBelow 4 (some .int), Cond.fieldLink RX4 21 "MeridianSeries$Points" "sealedBlocks" "I", Cond.methodLink RX4 38 yX4_sizeOf, Cond.instanceMethod yX4_sizeOf]
def wsX8_goOnByOne_r3 : List Cond := [Cond.selects RX4 yX4_sizeOf yX4_sizeOf, Cond.code yX4_sizeOf cX4_sizeOf 2 (some .int), Cond.fieldLink RX4 18 "MeridianSeries$Points" "sizes" "[I", Cond.methodLink RX4 34 yX4_openSize, Cond.instanceMethod yX4_openSize, Cond.selects RX4 yX4_openSize yX4_openSize, Cond.code yX4_openSize cX4_openSize 1 (some .int), Cond.fieldLink RX4 31 "MeridianSeries$Points" "amount" "I", Cond.sameField "MeridianSeries$Points" "MeridianSeries$Items" "amount" "I", Cond.fieldLink RX4 25 "MeridianSeries$Points" "sealedPoints" "I", Cond.methodLink RX4 42 yX4_number, Cond.instanceMethod yX4_number, Cond.selects RX4 yX4_number yX4_number, Cond.code yX4_number cX4_number 3 (some .int), Cond.fieldLink RX4 11 "MeridianSeries$Points" "times" "[I", Cond.fieldLink RX4 15 "MeridianSeries$Points" "values" "[I", Cond.methodLink RX6 55 yX6_rollUpFirstBlock, Cond.instanceMethod yX6_rollUpFirstBlock, Cond.selects RX6 yX6_rollUpFirstBlock yX6_rollUpFirstBlock, Cond.code yX6_rollUpFirstBlock cX6_rollUpFirstBlock 4 none, Cond.fieldLink RX6 21 "MeridianSeries$Series" "fine" "LMeridianSeries$Buckets;", Cond.methodLink RX6 85 yX4_sizeOf, Cond.methodLink RX6 88 yX4_number, Cond.methodLink RX6 89 yX6_startFor]
def wsX8_goOnByOne_r4 : List Cond := [Cond.static yX6_startFor, Cond.code yX6_startFor cX6_startFor 2 (some .int), Cond.methodLink RX6 92 yX0_take, Cond.instanceMethod yX0_take, Cond.selects RX0 yX0_take yX0_take, Cond.initialized RX0, Cond.code yX0_take cX0_take 6 none, Cond.fieldLink RX0 15 "MeridianSeries$Buckets" "amount" "I", Cond.sameField "MeridianSeries$Buckets" "MeridianSeries$Items" "amount" "I", Cond.methodLink RX0 28 Lib.Math.min.name, Cond.static Lib.Math.min.name, Cond.initialized "java/lang/Math", Cond.code Lib.Math.min.name Lib.Math.min.code 2 (some .int), Cond.methodLink RX0 33 Lib.Math.max.name, Cond.static Lib.Math.max.name, Cond.code Lib.Math.max.name Lib.Math.max.code 2 (some .int), Cond.methodLink RX0 19 yX0_number, Cond.instanceMethod yX0_number, Cond.selects RX0 yX0_number yX0_number, Cond.code yX0_number cX0_number 4 (some .int), Cond.fieldLink RX0 11 "MeridianSeries$Buckets" "cells" "[I", Cond.methodLink RX0 23 ⟨"MeridianSeries$Items", "number", "(II)I"⟩, Cond.sameMethod "MeridianSeries$Items" "MeridianSeries$Items" "number" "(II)I", Cond.selects RX0 ⟨"MeridianSeries$Items", "number", "(II)I"⟩ yX0_number]
def wsX8_goOnByOne_r5 : List Cond := [Cond.selects RX4 ⟨"MeridianSeries$Items", "number", "(II)I"⟩ yX4_number, Cond.methodLink RX0 24 yX0_write, Cond.instanceMethod yX0_write, Cond.selects RX0 yX0_write yX0_write, Cond.code yX0_write cX0_write 5 none, Cond.methodLink RX6 96 yX0_isFull, Cond.instanceMethod yX0_isFull, Cond.selects RX0 yX0_isFull yX0_isFull, Cond.code yX0_isFull cX0_isFull 1 (some .boolean), Cond.methodLink RX6 76 yX6_rollUpFirstFine, Cond.instanceMethod yX6_rollUpFirstFine, Cond.selects RX6 yX6_rollUpFirstFine yX6_rollUpFirstFine, Cond.code yX6_rollUpFirstFine cX6_rollUpFirstFine 3 none, Cond.fieldLink RX6 102 "MeridianSeries$Settings" "fold" "I", Cond.fieldLink RX6 25 "MeridianSeries$Series" "coarse" "LMeridianSeries$Buckets;", Cond.methodLink RX6 82 yX0_number, Cond.methodLink RX6 105 yX0_dropFirst, Cond.instanceMethod yX0_dropFirst, Cond.selects RX0 yX0_dropFirst yX0_dropFirst, Cond.code yX0_dropFirst cX0_dropFirst 2 none, Cond.methodLink RX6 99 yX4_dropFirstBlock, Cond.instanceMethod yX4_dropFirstBlock, Cond.selects RX4 yX4_dropFirstBlock yX4_dropFirstBlock, Cond.code yX4_dropFirstBlock cX4_dropFirstBlock 3 none]
def wsX8_goOnByOne_r6 : List Cond := [Cond.methodLink RX4 53 yX4_copyPoint, Cond.instanceMethod yX4_copyPoint, Cond.selects RX4 yX4_copyPoint yX4_copyPoint, Cond.code yX4_copyPoint cX4_copyPoint 3 none, Cond.methodLink RX4 57 yX4_write, Cond.instanceMethod yX4_write, Cond.selects RX4 yX4_write yX4_write, Cond.code yX4_write cX4_write 4 none, Cond.methodLink RX6 72 yX6_fineEndingBy, Cond.instanceMethod yX6_fineEndingBy, Cond.selects RX6 yX6_fineEndingBy yX6_fineEndingBy, Cond.code yX6_fineEndingBy cX6_fineEndingBy 4 (some .int), Cond.fieldLink RX6 79 "MeridianSeries$Buckets" "amount" "I", Cond.methodLink RX8 62 yX5_isDueAt, Cond.instanceMethod yX5_isDueAt, Cond.selects RX5 yX5_isDueAt yX5_isDueAt, Cond.initialized RX5, Cond.code yX5_isDueAt cX5_isDueAt 2 (some .boolean), Cond.fieldLink RX5 28 "MeridianSeries$Rule" "every" "I", Cond.methodLink RX8 66 yX5_told, Cond.instanceMethod yX5_told, Cond.selects RX5 yX5_told yX5_told, Cond.code yX5_told cX5_told 2 (some .int), Cond.fieldLink RX5 18 "MeridianSeries$Rule" "chain" "LMeridianSeries$Series;"]
def wsX8_goOnByOne_r7 : List Cond := [Cond.fieldLink RX5 25 "MeridianSeries$Rule" "length" "I", Cond.fieldLink RX5 22 "MeridianSeries$Rule" "what" "I", Cond.methodLink RX5 41 yX6_tell, Cond.instanceMethod yX6_tell, Cond.selects RX6 yX6_tell yX6_tell, Cond.code yX6_tell cX6_tell 7 (some .int), Cond.methodLink RX6 115 yX6_firstItemFrom, Cond.instanceMethod yX6_firstItemFrom, Cond.selects RX6 yX6_firstItemFrom yX6_firstItemFrom, Cond.code yX6_firstItemFrom cX6_firstItemFrom 6 (some .int), Cond.methodLink RX6 109 yX6_itemCount, Cond.instanceMethod yX6_itemCount, Cond.selects RX6 yX6_itemCount yX6_itemCount, Cond.code yX6_itemCount cX6_itemCount 1 (some .int), Cond.fieldLink RX6 108 "MeridianSeries$Points" "amount" "I", Cond.methodLink RX6 112 yX6_ofItem, Cond.instanceMethod yX6_ofItem, Cond.selects RX6 yX6_ofItem yX6_ofItem, Cond.code yX6_ofItem cX6_ofItem 4 (some .int), Cond.methodLink RX6 118 yX6_toldOfGap, Cond.instanceMethod yX6_toldOfGap, Cond.selects RX6 yX6_toldOfGap yX6_toldOfGap, Cond.code yX6_toldOfGap cX6_toldOfGap 5 (some .int), Cond.constant RX6 134 (-1000000)]
def wsX8_goOnByOne_r8 : List Cond := [Cond.methodLink RX6 135 yX6_onLine, Cond.instanceMethod yX6_onLine, Cond.selects RX6 yX6_onLine yX6_onLine, Cond.code yX6_onLine cX6_onLine 9 (some .int), Cond.methodLink RX6 122 yX6_total, Cond.instanceMethod yX6_total, Cond.selects RX6 yX6_total yX6_total, Cond.code yX6_total cX6_total 6 (some .int), Cond.methodLink RX6 125 yX6_least, Cond.instanceMethod yX6_least, Cond.selects RX6 yX6_least yX6_least, Cond.code yX6_least cX6_least 5 (some .int), Cond.methodLink RX6 138 Lib.Math.min.name, Cond.methodLink RX6 128 yX6_greatest, Cond.instanceMethod yX6_greatest, Cond.selects RX6 yX6_greatest yX6_greatest, Cond.code yX6_greatest cX6_greatest 5 (some .int), Cond.methodLink RX6 143 Lib.Math.max.name, Cond.methodLink RX6 131 yX6_quotient, Cond.static yX6_quotient, Cond.code yX6_quotient cX6_quotient 2 (some .int), Cond.methodLink RX8 70 yX5_changesBy, Cond.instanceMethod yX5_changesBy, Cond.selects RX5 yX5_changesBy yX5_changesBy]
def wsX8_goOnByOne_r9 : List Cond := [Cond.code yX5_changesBy cX5_changesBy 3 (some .boolean), Cond.constant RX5 47 (-1000000), Cond.fieldLink RX5 31 "MeridianSeries$Rule" "isAbove" "Z", Cond.fieldLink RX5 35 "MeridianSeries$Rule" "limit" "I", Cond.fieldLink RX5 9 "MeridianSeries$Rule" "state" "I", Cond.methodLink RX5 48 yX5_ceases, Cond.instanceMethod yX5_ceases, Cond.selects RX5 yX5_ceases yX5_ceases, Cond.code yX5_ceases cX5_ceases 2 (some .boolean), Cond.fieldLink RX5 15 "MeridianSeries$Rule" "timesInRow" "I", Cond.fieldLink RX5 38 "MeridianSeries$Rule" "times" "I", Cond.methodLink RX5 55 yX5_become, Cond.instanceMethod yX5_become, Cond.selects RX5 yX5_become yX5_become, Cond.code yX5_become cX5_become 2 none, Cond.methodLink RX5 52 yX5_begins, Cond.instanceMethod yX5_begins, Cond.selects RX5 yX5_begins yX5_begins, Cond.code yX5_begins cX5_begins 2 (some .boolean), Cond.methodLink RX8 76 yX1_add, Cond.instanceMethod yX1_add, Cond.selects RX1 yX1_add yX1_add, Cond.initialized RX1, Cond.code yX1_add cX1_add 5 none]
def wsX8_goOnByOne_r10 : List Cond := [Cond.fieldLink RX1 15 "MeridianSeries$EventLog" "total" "I", Cond.fieldLink RX1 9 "MeridianSeries$EventLog" "cells" "[I", Cond.fieldLink RX1 19 "MeridianSeries$EventLog" "firings" "I"]
def wsX8_goOnByOne : List Cond := .code yX8_goOnByOne cX8_goOnByOne 3 none :: ((wsX8_goOnByOne_r1 ++ (wsX8_goOnByOne_r2 ++ (wsX8_goOnByOne_r3 ++ (wsX8_goOnByOne_r4 ++ (wsX8_goOnByOne_r5 ++ (wsX8_goOnByOne_r6 ++ (wsX8_goOnByOne_r7 ++ (wsX8_goOnByOne_r8 ++ (wsX8_goOnByOne_r9 ++ wsX8_goOnByOne_r10))))))))) ++ wsX80 ++ wsX50 ++ wsJx4a65c0 ++ wsX70 ++ wsX60 ++ wsX40 ++ wsX00 ++ wsX10)
def wsX8_copyFrom_r1 : List Cond := [Cond.fieldLink RX8 26 "MeridianSeries$Store" "now" "I", Cond.fieldLink RX8 10 "MeridianSeries$Store" "chains" "Ljava/util/ArrayList;", Cond.classLink RX8 42 "MeridianSeries$Series", Cond.fieldLink RX8 16 "MeridianSeries$Store" "rules" "Ljava/util/ArrayList;", Cond.classLink RX8 60 "MeridianSeries$Rule", Cond.methodLink RX8 34 yJx4a65c_size_8abf5, Cond.instanceMethod yJx4a65c_size_8abf5, Cond.selects RJx4a65c yJx4a65c_size_8abf5 yJx4a65c_size_8abf5, Cond.initialized RJx4a65c, Cond.code yJx4a65c_size_8abf5 cJx4a65c_size_8abf5 1 (some .int), Cond.fieldLink RJx4a65c 48 "java/util/ArrayList" "size" "I", Cond.methodLink RX8 38 yJx4a65c_get_915e3, Cond.instanceMethod yJx4a65c_get_915e3, Cond.selects RJx4a65c yJx4a65c_get_915e3 yJx4a65c_get_915e3, Cond.code yJx4a65c_get_915e3 cJx4a65c_get_915e3 2 (some (.object "java/lang/Object")), Cond.methodLink RJx4a65c 118 yJ15_checkIndex_7cf53, Cond.static yJ15_checkIndex_7cf53, Cond.initialized RJ15, Cond.code yJ15_checkIndex_7cf53 cJ15_checkIndex_7cf53 2 (some .int), Cond.methodLink RJ15 105 yJ3_checkIndex_8e157, Cond.static yJ3_checkIndex_8e157, Cond.initialized RJ3, Cond.code yJ3_checkIndex_8e157 cJ3_checkIndex_8e157 3 (some .int), Cond.methodLink RJx4a65c 123 yJx4a65c_elementData_915e3]
def wsX8_copyFrom_r2 : List Cond := [Cond.instanceMethod yJx4a65c_elementData_915e3, Cond.selects RJx4a65c yJx4a65c_elementData_915e3 yJx4a65c_elementData_915e3, Cond.code yJx4a65c_elementData_915e3 cJx4a65c_elementData_915e3 2 (some (.object "java/lang/Object")), Cond.fieldLink RJx4a65c 9 "java/util/ArrayList" "elementData" "[Ljava/lang/Object;", Cond.methodLink RX8 80 yX6_copyFrom, Cond.instanceMethod yX6_copyFrom, Cond.selects RX6 yX6_copyFrom yX6_copyFrom, Cond.initialized RX6, Cond.code yX6_copyFrom cX6_copyFrom 2 none, Cond.fieldLink RX6 12 "MeridianSeries$Series" "points" "LMeridianSeries$Points;", Cond.fieldLink RX6 21 "MeridianSeries$Series" "fine" "LMeridianSeries$Buckets;", Cond.fieldLink RX6 25 "MeridianSeries$Series" "coarse" "LMeridianSeries$Buckets;", Cond.methodLink RX6 146 yX4_copyFrom, Cond.instanceMethod yX4_copyFrom, Cond.selects RX4 yX4_copyFrom yX4_copyFrom, Cond.initialized RX4, Cond.code yX4_copyFrom cX4_copyFrom 3 none, Cond.fieldLink RX4 31 "MeridianSeries$Points" "amount" "I", Cond.sameField "MeridianSeries$Points" "MeridianSeries$Items" "amount" "I", Cond.fieldLink RX4 21 "MeridianSeries$Points" "sealedBlocks" "I", Cond.fieldLink RX4 18 "MeridianSeries$Points" "sizes" "[I", Cond.fieldLink RX4 25 "MeridianSeries$Points" "sealedPoints" "I", Cond.fieldLink RX4 28 "MeridianSeries$Points" "greatestSealedTime" "I", Cond.methodLink RX4 42 yX4_number]
def wsX8_copyFrom_r3 : List Cond := [Cond.instanceMethod yX4_number, Cond.selects RX4 yX4_number yX4_number, Cond.code yX4_number cX4_number 3 (some .int), Cond.fieldLink RX4 11 "MeridianSeries$Points" "times" "[I", Cond.fieldLink RX4 15 "MeridianSeries$Points" "values" "[I", Cond.methodLink RX4 57 yX4_write, Cond.instanceMethod yX4_write, Cond.selects RX4 yX4_write yX4_write, Cond.code yX4_write cX4_write 4 none, Cond.methodLink RX4 38 yX4_sizeOf, Cond.instanceMethod yX4_sizeOf, Cond.selects RX4 yX4_sizeOf yX4_sizeOf, Cond.code yX4_sizeOf cX4_sizeOf 2 (some .int), Cond.methodLink RX4 34 yX4_openSize, Cond.instanceMethod yX4_openSize, Cond.selects RX4 yX4_openSize yX4_openSize, Cond.code yX4_openSize cX4_openSize 1 (some .int), Cond.methodLink RX6 150 yX0_copyFrom, Cond.instanceMethod yX0_copyFrom, Cond.selects RX0 yX0_copyFrom yX0_copyFrom, Cond.initialized RX0, Cond.code yX0_copyFrom cX0_copyFrom 4 none, Cond.fieldLink RX0 15 "MeridianSeries$Buckets" "amount" "I", Cond.sameField "MeridianSeries$Buckets" "MeridianSeries$Items" "amount" "I"]
def wsX8_copyFrom_r4 : List Cond := [Cond.methodLink RX0 19 yX0_number, Cond.instanceMethod yX0_number, Cond.selects RX0 yX0_number yX0_number, Cond.code yX0_number cX0_number 4 (some .int), Cond.fieldLink RX0 11 "MeridianSeries$Buckets" "cells" "[I", Cond.methodLink RX0 24 yX0_write, Cond.instanceMethod yX0_write, Cond.selects RX0 yX0_write yX0_write, Cond.code yX0_write cX0_write 5 none, Cond.methodLink RX8 84 yX5_copyFrom, Cond.instanceMethod yX5_copyFrom, Cond.selects RX5 yX5_copyFrom yX5_copyFrom, Cond.initialized RX5, Cond.code yX5_copyFrom cX5_copyFrom 2 none, Cond.fieldLink RX5 9 "MeridianSeries$Rule" "state" "I", Cond.fieldLink RX5 15 "MeridianSeries$Rule" "timesInRow" "I"]
def wsX8_copyFrom : List Cond := .code yX8_copyFrom cX8_copyFrom 3 none :: ((wsX8_copyFrom_r1 ++ (wsX8_copyFrom_r2 ++ (wsX8_copyFrom_r3 ++ wsX8_copyFrom_r4))) ++ wsX80 ++ wsJx4a65c0 ++ wsX60 ++ wsX00 ++ wsX40 ++ wsX50)
def wsX9_init_r1 : List Cond := [Cond.methodLink RX9 1 objectInit, Cond.instanceMethod objectInit, Cond.code objectInit ⟨#[0xb1]⟩ 1 none, Cond.classLink RX9 7 RX7, Cond.instantiable RX7 5, Cond.initialized RX7, Cond.fieldLink RX9 10 "MeridianSeries" "settings" "LMeridianSeries$Settings;", Cond.classLink RX9 16 RX8, Cond.instantiable RX8 5, Cond.initialized RX8, Cond.fieldLink RX9 21 "MeridianSeries" "store" "LMeridianSeries$Store;", Cond.fieldLink RX9 25 "MeridianSeries" "trial" "LMeridianSeries$Store;", Cond.classLink RX9 28 RX3, Cond.instantiable RX3 6, Cond.initialized RX3, Cond.fieldLink RX9 31 "MeridianSeries" "packer" "LMeridianSeries$Packer;", Cond.fieldLink RX9 35 "MeridianSeries" "queryFrom" "I", Cond.fieldLink RX9 39 "MeridianSeries" "queryStep" "I", Cond.fieldLink RX9 42 "MeridianSeries" "queryWhat" "I", Cond.fieldLink RX9 45 "MeridianSeries" "queryFill" "I", Cond.fieldLink RX9 48 "MeridianSeries" "lateCount" "I", Cond.instanceMethod yX7_init, Cond.code yX7_init cX7_init 1 none, Cond.methodLink RX7 1 objectInit]
def wsX9_init_r2 : List Cond := [Cond.fieldLink RX7 7 "MeridianSeries$Settings" "span" "I", Cond.fieldLink RX7 13 "MeridianSeries$Settings" "width" "I", Cond.fieldLink RX7 16 "MeridianSeries$Settings" "fold" "I", Cond.fieldLink RX7 19 "MeridianSeries$Settings" "keep" "I", Cond.fieldLink RX7 22 "MeridianSeries$Settings" "longKeep" "I", Cond.methodLink RX9 18 yX8_init, Cond.instanceMethod yX8_init, Cond.code yX8_init cX8_init 2 none, Cond.methodLink RX8 1 objectInit, Cond.classLink RX8 7 RJx4a65c, Cond.instantiable RJx4a65c 3, Cond.initialized RJx4a65c, Cond.fieldLink RX8 10 "MeridianSeries$Store" "chains" "Ljava/util/ArrayList;", Cond.fieldLink RX8 16 "MeridianSeries$Store" "rules" "Ljava/util/ArrayList;", Cond.classLink RX8 19 RX1, Cond.instantiable RX1 3, Cond.initialized RX1, Cond.fieldLink RX8 22 "MeridianSeries$Store" "log" "LMeridianSeries$EventLog;", Cond.fieldLink RX8 26 "MeridianSeries$Store" "now" "I", Cond.fieldLink RX8 30 "MeridianSeries$Store" "settings" "LMeridianSeries$Settings;", Cond.methodLink RX8 9 yJx4a65c_init_da8c8, Cond.instanceMethod yJx4a65c_init_da8c8, Cond.code yJx4a65c_init_da8c8 cJx4a65c_init_da8c8 1 none, Cond.fieldLink RJx4a65c 39 "java/util/ArrayList" "DEFAULTCAPACITY_EMPTY_ELEMENTDATA" "[Ljava/lang/Object;"]
def wsX9_init_r3 : List Cond := [Cond.fieldLink RJx4a65c 9 "java/util/ArrayList" "elementData" "[Ljava/lang/Object;", Cond.methodLink RJx4a65c 1 yJxc12de_init_da8c8, Cond.instanceMethod yJxc12de_init_da8c8, Cond.initialized RJxc12de, Cond.code yJxc12de_init_da8c8 cJxc12de_init_da8c8 1 none, Cond.fieldLink RJxc12de 7 "java/util/AbstractList" "modCount" "I", Cond.methodLink RJxc12de 1 yJxa1e45_init_da8c8, Cond.instanceMethod yJxa1e45_init_da8c8, Cond.initialized RJxa1e45, Cond.code yJxa1e45_init_da8c8 cJxa1e45_init_da8c8 1 none, Cond.methodLink RJxa1e45 1 objectInit, Cond.instanceMethod yX1_init, Cond.code yX1_init cX1_init 1 none, Cond.methodLink RX1 3 objectInit, Cond.arrayClass .int, Cond.fieldLink RX1 9 "MeridianSeries$EventLog" "cells" "[I", Cond.fieldLink RX1 15 "MeridianSeries$EventLog" "total" "I", Cond.fieldLink RX1 19 "MeridianSeries$EventLog" "firings" "I", Cond.instanceMethod yX3_init, Cond.code yX3_init cX3_init 1 none, Cond.methodLink RX3 3 objectInit, Cond.fieldLink RX3 11 "MeridianSeries$Packer" "words" "[I", Cond.fieldLink RX3 15 "MeridianSeries$Packer" "length" "I", Cond.fieldLink RX3 19 "MeridianSeries$Packer" "packed" "I"]
def wsX9_init_r4 : List Cond := [Cond.fieldLink RX3 22 "MeridianSeries$Packer" "lastTime" "I", Cond.fieldLink RX3 25 "MeridianSeries$Packer" "lastStep" "I", Cond.fieldLink RX3 28 "MeridianSeries$Packer" "lastValue" "I"]
def wsX9_init : List Cond := .code yX9_init cX9_init 1 none :: ((wsX9_init_r1 ++ (wsX9_init_r2 ++ (wsX9_init_r3 ++ wsX9_init_r4))) ++ wsX70 ++ wsX90 ++ wsX80 ++ wsX30 ++ wsJx4a65c0 ++ wsX10)
def wsX9_needArgument : List Cond := .code yX9_needArgument cX9_needArgument 1 none :: ([.classLink RX9 280 "java/lang/IllegalArgumentException", .initialized "java/lang/IllegalArgumentException"] ++ (vx_atS RX9 284 "java/lang/IllegalArgumentException" ["java/lang/RuntimeException", "java/lang/Exception"]).filter goodWord)
def wsX9_needState : List Cond := .code yX9_needState cX9_needState 1 none :: ([.classLink RX9 292 "java/lang/IllegalStateException", .initialized "java/lang/IllegalStateException"] ++ (vx_atS RX9 296 "java/lang/IllegalStateException" ["java/lang/RuntimeException", "java/lang/Exception"]).filter goodWord)
def wsJ8_hugeLength_7cf53 : List Cond := .code yJ8_hugeLength_7cf53 cJ8_hugeLength_7cf53 3 (some .int) :: ([.constant RJ8 200 (2147483639)])
def wsJ8_newLength_cabcc : List Cond := .code yJ8_newLength_cabcc cJ8_newLength_cabcc 4 (some .int) :: ([.methodLink RJ8 194 Lib.Math.max.name, .static Lib.Math.max.name, .initialized "java/lang/Math", .code Lib.Math.max.name Lib.Math.max.code 2 (some .int), .constant RJ8 200 (2147483639), .methodLink RJ8 201 yJ8_hugeLength_7cf53, .static yJ8_hugeLength_7cf53, .initialized RJ8, .code yJ8_hugeLength_7cf53 cJ8_hugeLength_7cf53 3 (some .int)])
def wsJ7_copyOf_6403c : List Cond := .code yJ7_copyOf_6403c cJ7_copyOf_6403c 4 (some (.array (.object "java/lang/Object"))) :: ([.classLink RJ7 110 "[Ljava/lang/Object;", .classLink RJ7 2 "java/lang/Object", .methodLink RJ7 304 Lib.Math.min.name, .static Lib.Math.min.name, .initialized "java/lang/Math", .code Lib.Math.min.name Lib.Math.min.code 2 (some .int), .methodLink RJ7 150 arraycopyName, .native arraycopyName, .static arraycopyName, .initialized "java/lang/System"])
def wsJ7_copyOf_1904c : List Cond := .code yJ7_copyOf_1904c cJ7_copyOf_1904c 2 (some (.array (.object "java/lang/Object"))) :: ([.methodLink RJ7 86 ⟨"java/lang/Object", "getClass", "()Ljava/lang/Class;"⟩, .selects "[Ljava/lang/Object;" ⟨"java/lang/Object", "getClass", "()Ljava/lang/Class;"⟩ ⟨"java/lang/Object", "getClass", "()Ljava/lang/Class;"⟩, .instanceMethod ⟨"java/lang/Object", "getClass", "()Ljava/lang/Class;"⟩, .native ⟨"java/lang/Object", "getClass", "()Ljava/lang/Class;"⟩, .methodLink RJ7 300 yJ7_copyOf_6403c, .static yJ7_copyOf_6403c, .initialized RJ7, .code yJ7_copyOf_6403c cJ7_copyOf_6403c 4 (some (.array (.object "java/lang/Object"))), .classLink RJ7 110 "[Ljava/lang/Object;", .classLink RJ7 2 "java/lang/Object", .methodLink RJ7 304 Lib.Math.min.name, .static Lib.Math.min.name, .initialized "java/lang/Math", .code Lib.Math.min.name Lib.Math.min.code 2 (some .int), .methodLink RJ7 150 arraycopyName, .native arraycopyName, .static arraycopyName, .initialized "java/lang/System"])
def wsJx4a65c_grow_92f84_r1 : List Cond := [Cond.fieldLink RJx4a65c 9 "java/util/ArrayList" "elementData" "[Ljava/lang/Object;", Cond.fieldLink RJx4a65c 39 "java/util/ArrayList" "DEFAULTCAPACITY_EMPTY_ELEMENTDATA" "[Ljava/lang/Object;", Cond.methodLink RJx4a65c 79 Lib.Math.max.name, Cond.static Lib.Math.max.name, Cond.initialized "java/lang/Math", Cond.code Lib.Math.max.name Lib.Math.max.code 2 (some .int), Cond.classLink RJx4a65c 7 "java/lang/Object", Cond.methodLink RJx4a65c 73 yJ8_newLength_cabcc, Cond.static yJ8_newLength_cabcc, Cond.initialized RJ8, Cond.code yJ8_newLength_cabcc cJ8_newLength_cabcc 4 (some .int), Cond.methodLink RJ8 194 Lib.Math.max.name, Cond.constant RJ8 200 (2147483639), Cond.methodLink RJ8 201 yJ8_hugeLength_7cf53, Cond.static yJ8_hugeLength_7cf53, Cond.code yJ8_hugeLength_7cf53 cJ8_hugeLength_7cf53 3 (some .int), Cond.methodLink RJx4a65c 66 yJ7_copyOf_1904c, Cond.static yJ7_copyOf_1904c, Cond.initialized RJ7, Cond.code yJ7_copyOf_1904c cJ7_copyOf_1904c 2 (some (.array (.object "java/lang/Object"))), Cond.methodLink RJ7 86 ⟨"java/lang/Object", "getClass", "()Ljava/lang/Class;"⟩, Cond.selects "[Ljava/lang/Object;" ⟨"java/lang/Object", "getClass", "()Ljava/lang/Class;"⟩ ⟨"java/lang/Object", "getClass", "()Ljava/lang/Class;"⟩, Cond.instanceMethod ⟨"java/lang/Object", "getClass", "()Ljava/lang/Class;"⟩, Cond.native ⟨"java/lang/Object", "getClass", "()Ljava/lang/Class;"⟩]
def wsJx4a65c_grow_92f84_r2 : List Cond := [Cond.methodLink RJ7 300 yJ7_copyOf_6403c, Cond.static yJ7_copyOf_6403c, Cond.code yJ7_copyOf_6403c cJ7_copyOf_6403c 4 (some (.array (.object "java/lang/Object"))), Cond.classLink RJ7 110 "[Ljava/lang/Object;", Cond.classLink RJ7 2 "java/lang/Object", Cond.methodLink RJ7 304 Lib.Math.min.name, Cond.static Lib.Math.min.name, Cond.code Lib.Math.min.name Lib.Math.min.code 2 (some .int), Cond.methodLink RJ7 150 arraycopyName, Cond.native arraycopyName, Cond.static arraycopyName, Cond.initialized "java/lang/System"]
def wsJx4a65c_grow_92f84 : List Cond := .code yJx4a65c_grow_92f84 cJx4a65c_grow_92f84 4 (some (.array (.object "java/lang/Object"))) :: ((wsJx4a65c_grow_92f84_r1 ++ wsJx4a65c_grow_92f84_r2) ++ wsJx4a65c0)
def wsJx4a65c_grow_d5877_r1 : List Cond := [Cond.fieldLink RJx4a65c 48 "java/util/ArrayList" "size" "I", Cond.methodLink RJx4a65c 69 yJx4a65c_grow_92f84, Cond.instanceMethod yJx4a65c_grow_92f84, Cond.selects RJx4a65c yJx4a65c_grow_92f84 yJx4a65c_grow_92f84, Cond.initialized RJx4a65c, Cond.code yJx4a65c_grow_92f84 cJx4a65c_grow_92f84 4 (some (.array (.object "java/lang/Object"))), Cond.fieldLink RJx4a65c 9 "java/util/ArrayList" "elementData" "[Ljava/lang/Object;", Cond.fieldLink RJx4a65c 39 "java/util/ArrayList" "DEFAULTCAPACITY_EMPTY_ELEMENTDATA" "[Ljava/lang/Object;", Cond.methodLink RJx4a65c 79 Lib.Math.max.name, Cond.static Lib.Math.max.name, Cond.initialized "java/lang/Math", Cond.code Lib.Math.max.name Lib.Math.max.code 2 (some .int), Cond.classLink RJx4a65c 7 "java/lang/Object", Cond.methodLink RJx4a65c 73 yJ8_newLength_cabcc, Cond.static yJ8_newLength_cabcc, Cond.initialized RJ8, Cond.code yJ8_newLength_cabcc cJ8_newLength_cabcc 4 (some .int), Cond.methodLink RJ8 194 Lib.Math.max.name, Cond.constant RJ8 200 (2147483639), Cond.methodLink RJ8 201 yJ8_hugeLength_7cf53, Cond.static yJ8_hugeLength_7cf53, Cond.code yJ8_hugeLength_7cf53 cJ8_hugeLength_7cf53 3 (some .int), Cond.methodLink RJx4a65c 66 yJ7_copyOf_1904c, Cond.static yJ7_copyOf_1904c]
def wsJx4a65c_grow_d5877_r2 : List Cond := [Cond.initialized RJ7, Cond.code yJ7_copyOf_1904c cJ7_copyOf_1904c 2 (some (.array (.object "java/lang/Object"))), Cond.methodLink RJ7 86 ⟨"java/lang/Object", "getClass", "()Ljava/lang/Class;"⟩, Cond.selects "[Ljava/lang/Object;" ⟨"java/lang/Object", "getClass", "()Ljava/lang/Class;"⟩ ⟨"java/lang/Object", "getClass", "()Ljava/lang/Class;"⟩, Cond.instanceMethod ⟨"java/lang/Object", "getClass", "()Ljava/lang/Class;"⟩, Cond.native ⟨"java/lang/Object", "getClass", "()Ljava/lang/Class;"⟩, Cond.methodLink RJ7 300 yJ7_copyOf_6403c, Cond.static yJ7_copyOf_6403c, Cond.code yJ7_copyOf_6403c cJ7_copyOf_6403c 4 (some (.array (.object "java/lang/Object"))), Cond.classLink RJ7 110 "[Ljava/lang/Object;", Cond.classLink RJ7 2 "java/lang/Object", Cond.methodLink RJ7 304 Lib.Math.min.name, Cond.static Lib.Math.min.name, Cond.code Lib.Math.min.name Lib.Math.min.code 2 (some .int), Cond.methodLink RJ7 150 arraycopyName, Cond.native arraycopyName, Cond.static arraycopyName, Cond.initialized "java/lang/System"]
def wsJx4a65c_grow_d5877 : List Cond := .code yJx4a65c_grow_d5877 cJx4a65c_grow_d5877 1 (some (.array (.object "java/lang/Object"))) :: ((wsJx4a65c_grow_d5877_r1 ++ wsJx4a65c_grow_d5877_r2) ++ wsJx4a65c0)
def wsJx4a65c_add_72be8_r1 : List Cond := [Cond.fieldLink RJx4a65c 48 "java/util/ArrayList" "size" "I", Cond.methodLink RJx4a65c 129 yJx4a65c_grow_d5877, Cond.instanceMethod yJx4a65c_grow_d5877, Cond.selects RJx4a65c yJx4a65c_grow_d5877 yJx4a65c_grow_d5877, Cond.initialized RJx4a65c, Cond.code yJx4a65c_grow_d5877 cJx4a65c_grow_d5877 1 (some (.array (.object "java/lang/Object"))), Cond.methodLink RJx4a65c 69 yJx4a65c_grow_92f84, Cond.instanceMethod yJx4a65c_grow_92f84, Cond.selects RJx4a65c yJx4a65c_grow_92f84 yJx4a65c_grow_92f84, Cond.code yJx4a65c_grow_92f84 cJx4a65c_grow_92f84 4 (some (.array (.object "java/lang/Object"))), Cond.fieldLink RJx4a65c 9 "java/util/ArrayList" "elementData" "[Ljava/lang/Object;", Cond.fieldLink RJx4a65c 39 "java/util/ArrayList" "DEFAULTCAPACITY_EMPTY_ELEMENTDATA" "[Ljava/lang/Object;", Cond.methodLink RJx4a65c 79 Lib.Math.max.name, Cond.static Lib.Math.max.name, Cond.initialized "java/lang/Math", Cond.code Lib.Math.max.name Lib.Math.max.code 2 (some .int), Cond.classLink RJx4a65c 7 "java/lang/Object", Cond.methodLink RJx4a65c 73 yJ8_newLength_cabcc, Cond.static yJ8_newLength_cabcc, Cond.initialized RJ8, Cond.code yJ8_newLength_cabcc cJ8_newLength_cabcc 4 (some .int), Cond.methodLink RJ8 194 Lib.Math.max.name, Cond.constant RJ8 200 (2147483639), Cond.methodLink RJ8 201 yJ8_hugeLength_7cf53]
def wsJx4a65c_add_72be8_r2 : List Cond := [Cond.static yJ8_hugeLength_7cf53, Cond.code yJ8_hugeLength_7cf53 cJ8_hugeLength_7cf53 3 (some .int), Cond.methodLink RJx4a65c 66 yJ7_copyOf_1904c, Cond.static yJ7_copyOf_1904c, Cond.initialized RJ7, Cond.code yJ7_copyOf_1904c cJ7_copyOf_1904c 2 (some (.array (.object "java/lang/Object"))), Cond.methodLink RJ7 86 ⟨"java/lang/Object", "getClass", "()Ljava/lang/Class;"⟩, Cond.selects "[Ljava/lang/Object;" ⟨"java/lang/Object", "getClass", "()Ljava/lang/Class;"⟩ ⟨"java/lang/Object", "getClass", "()Ljava/lang/Class;"⟩, Cond.instanceMethod ⟨"java/lang/Object", "getClass", "()Ljava/lang/Class;"⟩, Cond.native ⟨"java/lang/Object", "getClass", "()Ljava/lang/Class;"⟩, Cond.methodLink RJ7 300 yJ7_copyOf_6403c, Cond.static yJ7_copyOf_6403c, Cond.code yJ7_copyOf_6403c cJ7_copyOf_6403c 4 (some (.array (.object "java/lang/Object"))), Cond.classLink RJ7 110 "[Ljava/lang/Object;", Cond.classLink RJ7 2 "java/lang/Object", Cond.methodLink RJ7 304 Lib.Math.min.name, Cond.static Lib.Math.min.name, Cond.code Lib.Math.min.name Lib.Math.min.code 2 (some .int), Cond.methodLink RJ7 150 arraycopyName, Cond.native arraycopyName, Cond.static arraycopyName, Cond.initialized "java/lang/System"]
def wsJx4a65c_add_72be8 : List Cond := .code yJx4a65c_add_72be8 cJx4a65c_add_72be8 4 none :: ((wsJx4a65c_add_72be8_r1 ++ wsJx4a65c_add_72be8_r2) ++ wsJx4a65c0)
def wsJx4a65c_add_9ea2d_r1 : List Cond := [Cond.fieldLink RJx4a65c 63 "java/util/ArrayList" "modCount" "I", Cond.sameField "java/util/ArrayList" "java/util/AbstractList" "modCount" "I", Cond.fieldLink RJx4a65c 9 "java/util/ArrayList" "elementData" "[Ljava/lang/Object;", Cond.fieldLink RJx4a65c 48 "java/util/ArrayList" "size" "I", Cond.methodLink RJx4a65c 131 yJx4a65c_add_72be8, Cond.instanceMethod yJx4a65c_add_72be8, Cond.selects RJx4a65c yJx4a65c_add_72be8 yJx4a65c_add_72be8, Cond.initialized RJx4a65c, Cond.code yJx4a65c_add_72be8 cJx4a65c_add_72be8 4 none, Cond.methodLink RJx4a65c 129 yJx4a65c_grow_d5877, Cond.instanceMethod yJx4a65c_grow_d5877, Cond.selects RJx4a65c yJx4a65c_grow_d5877 yJx4a65c_grow_d5877, Cond.code yJx4a65c_grow_d5877 cJx4a65c_grow_d5877 1 (some (.array (.object "java/lang/Object"))), Cond.methodLink RJx4a65c 69 yJx4a65c_grow_92f84, Cond.instanceMethod yJx4a65c_grow_92f84, Cond.selects RJx4a65c yJx4a65c_grow_92f84 yJx4a65c_grow_92f84, Cond.code yJx4a65c_grow_92f84 cJx4a65c_grow_92f84 4 (some (.array (.object "java/lang/Object"))), Cond.fieldLink RJx4a65c 39 "java/util/ArrayList" "DEFAULTCAPACITY_EMPTY_ELEMENTDATA" "[Ljava/lang/Object;", Cond.methodLink RJx4a65c 79 Lib.Math.max.name, Cond.static Lib.Math.max.name, Cond.initialized "java/lang/Math", Cond.code Lib.Math.max.name Lib.Math.max.code 2 (some .int), Cond.classLink RJx4a65c 7 "java/lang/Object", Cond.methodLink RJx4a65c 73 yJ8_newLength_cabcc]
def wsJx4a65c_add_9ea2d_r2 : List Cond := [Cond.static yJ8_newLength_cabcc, Cond.initialized RJ8, Cond.code yJ8_newLength_cabcc cJ8_newLength_cabcc 4 (some .int), Cond.methodLink RJ8 194 Lib.Math.max.name, Cond.constant RJ8 200 (2147483639), Cond.methodLink RJ8 201 yJ8_hugeLength_7cf53, Cond.static yJ8_hugeLength_7cf53, Cond.code yJ8_hugeLength_7cf53 cJ8_hugeLength_7cf53 3 (some .int), Cond.methodLink RJx4a65c 66 yJ7_copyOf_1904c, Cond.static yJ7_copyOf_1904c, Cond.initialized RJ7, Cond.code yJ7_copyOf_1904c cJ7_copyOf_1904c 2 (some (.array (.object "java/lang/Object"))), Cond.methodLink RJ7 86 ⟨"java/lang/Object", "getClass", "()Ljava/lang/Class;"⟩, Cond.selects "[Ljava/lang/Object;" ⟨"java/lang/Object", "getClass", "()Ljava/lang/Class;"⟩ ⟨"java/lang/Object", "getClass", "()Ljava/lang/Class;"⟩, Cond.instanceMethod ⟨"java/lang/Object", "getClass", "()Ljava/lang/Class;"⟩, Cond.native ⟨"java/lang/Object", "getClass", "()Ljava/lang/Class;"⟩, Cond.methodLink RJ7 300 yJ7_copyOf_6403c, Cond.static yJ7_copyOf_6403c, Cond.code yJ7_copyOf_6403c cJ7_copyOf_6403c 4 (some (.array (.object "java/lang/Object"))), Cond.classLink RJ7 110 "[Ljava/lang/Object;", Cond.classLink RJ7 2 "java/lang/Object", Cond.methodLink RJ7 304 Lib.Math.min.name, Cond.static Lib.Math.min.name, Cond.code Lib.Math.min.name Lib.Math.min.code 2 (some .int)]
def wsJx4a65c_add_9ea2d_r3 : List Cond := [Cond.methodLink RJ7 150 arraycopyName, Cond.native arraycopyName, Cond.static arraycopyName, Cond.initialized "java/lang/System"]
def wsJx4a65c_add_9ea2d : List Cond := .code yJx4a65c_add_9ea2d cJx4a65c_add_9ea2d 2 (some .boolean) :: ((wsJx4a65c_add_9ea2d_r1 ++ (wsJx4a65c_add_9ea2d_r2 ++ wsJx4a65c_add_9ea2d_r3)) ++ wsJx4a65c0)
def wsX9_addSeries_r1 : List Cond := [Cond.fieldLink RX9 21 "MeridianSeries" "store" "LMeridianSeries$Store;", Cond.fieldLink RX9 59 "MeridianSeries$Store" "chains" "Ljava/util/ArrayList;", Cond.classLink RX9 72 RX6, Cond.instantiable RX6 5, Cond.initialized RX6, Cond.fieldLink RX9 25 "MeridianSeries" "trial" "LMeridianSeries$Store;", Cond.methodLink RX9 51 yX9_isIn, Cond.static yX9_isIn, Cond.initialized RX9, Cond.code yX9_isIn cX9_isIn 4 (some .boolean), Cond.methodLink RX9 55 yX9_needArgument, Cond.static yX9_needArgument, Cond.code yX9_needArgument cX9_needArgument 1 none, Cond.classLink RX9 280 "java/lang/IllegalArgumentException", Cond.initialized "java/lang/IllegalArgumentException", Cond.methodLink RX9 63 yJx4a65c_size_8abf5, Cond.instanceMethod yJx4a65c_size_8abf5, Cond.selects RJx4a65c yJx4a65c_size_8abf5 yJx4a65c_size_8abf5, Cond.initialized RJx4a65c, Cond.code yJx4a65c_size_8abf5 cJx4a65c_size_8abf5 1 (some .int), Cond.fieldLink RJx4a65c 48 "java/util/ArrayList" "size" "I", Cond.methodLink RX9 69 yX9_needState, Cond.static yX9_needState, Cond.code yX9_needState cX9_needState 1 none]
def wsX9_addSeries_r2 : List Cond := [Cond.classLink RX9 292 "java/lang/IllegalStateException", Cond.initialized "java/lang/IllegalStateException", Cond.methodLink RX9 74 yX6_init, Cond.instanceMethod yX6_init, Cond.code yX6_init cX6_init 3 none, Cond.methodLink RX6 3 objectInit, Cond.instanceMethod objectInit, Cond.code objectInit ⟨#[0xb1]⟩ 1 none, Cond.classLink RX6 9 RX4, Cond.instantiable RX4 7, Cond.initialized RX4, Cond.fieldLink RX6 12 "MeridianSeries$Series" "points" "LMeridianSeries$Points;", Cond.classLink RX6 18 RX0, Cond.instantiable RX0 2, Cond.initialized RX0, Cond.fieldLink RX6 21 "MeridianSeries$Series" "fine" "LMeridianSeries$Buckets;", Cond.fieldLink RX6 25 "MeridianSeries$Series" "coarse" "LMeridianSeries$Buckets;", Cond.fieldLink RX6 28 "MeridianSeries$Series" "one" "I", Cond.fieldLink RX6 32 "MeridianSeries$Series" "other" "I", Cond.instanceMethod yX4_init, Cond.code yX4_init cX4_init 1 none, Cond.arrayClass .int, Cond.fieldLink RX4 11 "MeridianSeries$Points" "times" "[I", Cond.fieldLink RX4 15 "MeridianSeries$Points" "values" "[I"]
def wsX9_addSeries_r3 : List Cond := [Cond.fieldLink RX4 18 "MeridianSeries$Points" "sizes" "[I", Cond.fieldLink RX4 21 "MeridianSeries$Points" "sealedBlocks" "I", Cond.fieldLink RX4 25 "MeridianSeries$Points" "sealedPoints" "I", Cond.fieldLink RX4 28 "MeridianSeries$Points" "greatestSealedTime" "I", Cond.instanceMethod yX2_init, Cond.initialized RX2, Cond.code yX2_init cX2_init 1 none, Cond.methodLink RX2 1 objectInit, Cond.fieldLink RX2 7 "MeridianSeries$Items" "amount" "I", Cond.instanceMethod yX0_init, Cond.code yX0_init cX0_init 1 none, Cond.fieldLink RX0 11 "MeridianSeries$Buckets" "cells" "[I", Cond.methodLink RX9 77 yJx4a65c_add_9ea2d, Cond.instanceMethod yJx4a65c_add_9ea2d, Cond.selects RJx4a65c yJx4a65c_add_9ea2d yJx4a65c_add_9ea2d, Cond.code yJx4a65c_add_9ea2d cJx4a65c_add_9ea2d 2 (some .boolean), Cond.fieldLink RJx4a65c 63 "java/util/ArrayList" "modCount" "I", Cond.sameField "java/util/ArrayList" "java/util/AbstractList" "modCount" "I", Cond.fieldLink RJx4a65c 9 "java/util/ArrayList" "elementData" "[Ljava/lang/Object;", Cond.methodLink RJx4a65c 131 yJx4a65c_add_72be8, Cond.instanceMethod yJx4a65c_add_72be8, Cond.selects RJx4a65c yJx4a65c_add_72be8 yJx4a65c_add_72be8, Cond.code yJx4a65c_add_72be8 cJx4a65c_add_72be8 4 none, Cond.methodLink RJx4a65c 129 yJx4a65c_grow_d5877]
def wsX9_addSeries_r4 : List Cond := [Cond.instanceMethod yJx4a65c_grow_d5877, Cond.selects RJx4a65c yJx4a65c_grow_d5877 yJx4a65c_grow_d5877, Cond.code yJx4a65c_grow_d5877 cJx4a65c_grow_d5877 1 (some (.array (.object "java/lang/Object"))), Cond.methodLink RJx4a65c 69 yJx4a65c_grow_92f84, Cond.instanceMethod yJx4a65c_grow_92f84, Cond.selects RJx4a65c yJx4a65c_grow_92f84 yJx4a65c_grow_92f84, Cond.code yJx4a65c_grow_92f84 cJx4a65c_grow_92f84 4 (some (.array (.object "java/lang/Object"))), Cond.fieldLink RJx4a65c 39 "java/util/ArrayList" "DEFAULTCAPACITY_EMPTY_ELEMENTDATA" "[Ljava/lang/Object;", Cond.methodLink RJx4a65c 79 Lib.Math.max.name, Cond.static Lib.Math.max.name, Cond.initialized "java/lang/Math", Cond.code Lib.Math.max.name Lib.Math.max.code 2 (some .int), Cond.classLink RJx4a65c 7 "java/lang/Object", Cond.methodLink RJx4a65c 73 yJ8_newLength_cabcc, Cond.static yJ8_newLength_cabcc, Cond.initialized RJ8, Cond.code yJ8_newLength_cabcc cJ8_newLength_cabcc 4 (some .int), Cond.methodLink RJ8 194 Lib.Math.max.name, Cond.constant RJ8 200 (2147483639), Cond.methodLink RJ8 201 yJ8_hugeLength_7cf53, Cond.static yJ8_hugeLength_7cf53, Cond.code yJ8_hugeLength_7cf53 cJ8_hugeLength_7cf53 3 (some .int), Cond.methodLink RJx4a65c 66 yJ7_copyOf_1904c, Cond.static yJ7_copyOf_1904c]
def wsX9_addSeries_r5 : List Cond := [Cond.initialized RJ7, Cond.code yJ7_copyOf_1904c cJ7_copyOf_1904c 2 (some (.array (.object "java/lang/Object"))), Cond.methodLink RJ7 86 ⟨"java/lang/Object", "getClass", "()Ljava/lang/Class;"⟩, Cond.selects "[Ljava/lang/Object;" ⟨"java/lang/Object", "getClass", "()Ljava/lang/Class;"⟩ ⟨"java/lang/Object", "getClass", "()Ljava/lang/Class;"⟩, Cond.instanceMethod ⟨"java/lang/Object", "getClass", "()Ljava/lang/Class;"⟩, Cond.native ⟨"java/lang/Object", "getClass", "()Ljava/lang/Class;"⟩, Cond.methodLink RJ7 300 yJ7_copyOf_6403c, Cond.static yJ7_copyOf_6403c, Cond.code yJ7_copyOf_6403c cJ7_copyOf_6403c 4 (some (.array (.object "java/lang/Object"))), Cond.classLink RJ7 110 "[Ljava/lang/Object;", Cond.classLink RJ7 2 "java/lang/Object", Cond.methodLink RJ7 304 Lib.Math.min.name, Cond.static Lib.Math.min.name, Cond.code Lib.Math.min.name Lib.Math.min.code 2 (some .int), Cond.methodLink RJ7 150 arraycopyName, Cond.native arraycopyName, Cond.static arraycopyName, Cond.initialized "java/lang/System"]
def wsX9_addSeries : List Cond := .code yX9_addSeries cX9_addSeries 4 (some .int) :: ((wsX9_addSeries_r1 ++ (wsX9_addSeries_r2 ++ (wsX9_addSeries_r3 ++ (wsX9_addSeries_r4 ++ wsX9_addSeries_r5)))) ++ wsX90 ++ wsX80 ++ wsX60 ++ wsJx4a65c0 ++ wsX40 ++ wsX00 ++ (vx_atS RX9 284 "java/lang/IllegalArgumentException" ["java/lang/RuntimeException", "java/lang/Exception"]).filter goodWord ++ (vx_atS RX9 296 "java/lang/IllegalStateException" ["java/lang/RuntimeException", "java/lang/Exception"]).filter goodWord)
def wsX9_setSpan : List Cond := .code yX9_setSpan cX9_setSpan 3 (some .int) :: ([.fieldLink RX9 10 "MeridianSeries" "settings" "LMeridianSeries$Settings;", .fieldLink RX9 81 "MeridianSeries$Settings" "span" "I", .methodLink RX9 51 yX9_isIn, .static yX9_isIn, .initialized RX9, .code yX9_isIn cX9_isIn 4 (some .boolean), .methodLink RX9 55 yX9_needArgument, .static yX9_needArgument, .code yX9_needArgument cX9_needArgument 1 none, .classLink RX9 280 "java/lang/IllegalArgumentException", .initialized "java/lang/IllegalArgumentException"] ++ wsX90 ++ wsX70 ++ (vx_atS RX9 284 "java/lang/IllegalArgumentException" ["java/lang/RuntimeException", "java/lang/Exception"]).filter goodWord)
def wsX9_setWidths_r1 : List Cond := [Cond.fieldLink RX9 21 "MeridianSeries" "store" "LMeridianSeries$Store;", Cond.fieldLink RX9 10 "MeridianSeries" "settings" "LMeridianSeries$Settings;", Cond.fieldLink RX9 88 "MeridianSeries$Settings" "width" "I", Cond.fieldLink RX9 91 "MeridianSeries$Settings" "fold" "I", Cond.methodLink RX9 51 yX9_isIn, Cond.static yX9_isIn, Cond.initialized RX9, Cond.code yX9_isIn cX9_isIn 4 (some .boolean), Cond.methodLink RX9 55 yX9_needArgument, Cond.static yX9_needArgument, Cond.code yX9_needArgument cX9_needArgument 1 none, Cond.classLink RX9 280 "java/lang/IllegalArgumentException", Cond.initialized "java/lang/IllegalArgumentException", Cond.methodLink RX9 84 yX8_hasBucket, Cond.instanceMethod yX8_hasBucket, Cond.selects RX8 yX8_hasBucket yX8_hasBucket, Cond.initialized RX8, Cond.code yX8_hasBucket cX8_hasBucket 2 (some .boolean), Cond.fieldLink RX8 10 "MeridianSeries$Store" "chains" "Ljava/util/ArrayList;", Cond.classLink RX8 42 "MeridianSeries$Series", Cond.fieldLink RX8 44 "MeridianSeries$Series" "fine" "LMeridianSeries$Buckets;", Cond.fieldLink RX8 48 "MeridianSeries$Buckets" "amount" "I", Cond.sameField "MeridianSeries$Buckets" "MeridianSeries$Items" "amount" "I", Cond.fieldLink RX8 53 "MeridianSeries$Series" "coarse" "LMeridianSeries$Buckets;"]
def wsX9_setWidths_r2 : List Cond := [Cond.methodLink RX8 34 yJx4a65c_size_8abf5, Cond.instanceMethod yJx4a65c_size_8abf5, Cond.selects RJx4a65c yJx4a65c_size_8abf5 yJx4a65c_size_8abf5, Cond.initialized RJx4a65c, Cond.code yJx4a65c_size_8abf5 cJx4a65c_size_8abf5 1 (some .int), Cond.fieldLink RJx4a65c 48 "java/util/ArrayList" "size" "I", Cond.methodLink RX8 38 yJx4a65c_get_915e3, Cond.instanceMethod yJx4a65c_get_915e3, Cond.selects RJx4a65c yJx4a65c_get_915e3 yJx4a65c_get_915e3, Cond.code yJx4a65c_get_915e3 cJx4a65c_get_915e3 2 (some (.object "java/lang/Object")), Cond.methodLink RJx4a65c 118 yJ15_checkIndex_7cf53, Cond.static yJ15_checkIndex_7cf53, Cond.initialized RJ15, Cond.code yJ15_checkIndex_7cf53 cJ15_checkIndex_7cf53 2 (some .int), Cond.methodLink RJ15 105 yJ3_checkIndex_8e157, Cond.static yJ3_checkIndex_8e157, Cond.initialized RJ3, Cond.code yJ3_checkIndex_8e157 cJ3_checkIndex_8e157 3 (some .int), Cond.methodLink RJx4a65c 123 yJx4a65c_elementData_915e3, Cond.instanceMethod yJx4a65c_elementData_915e3, Cond.selects RJx4a65c yJx4a65c_elementData_915e3 yJx4a65c_elementData_915e3, Cond.code yJx4a65c_elementData_915e3 cJx4a65c_elementData_915e3 2 (some (.object "java/lang/Object")), Cond.fieldLink RJx4a65c 9 "java/util/ArrayList" "elementData" "[Ljava/lang/Object;", Cond.methodLink RX9 69 yX9_needState]
def wsX9_setWidths_r3 : List Cond := [Cond.static yX9_needState, Cond.code yX9_needState cX9_needState 1 none, Cond.classLink RX9 292 "java/lang/IllegalStateException", Cond.initialized "java/lang/IllegalStateException"]
def wsX9_setWidths : List Cond := .code yX9_setWidths cX9_setWidths 4 (some .int) :: ((wsX9_setWidths_r1 ++ (wsX9_setWidths_r2 ++ wsX9_setWidths_r3)) ++ wsX90 ++ wsX70 ++ wsX80 ++ wsX60 ++ wsX00 ++ wsX40 ++ wsJx4a65c0 ++ (vx_atS RX9 284 "java/lang/IllegalArgumentException" ["java/lang/RuntimeException", "java/lang/Exception"]).filter goodWord ++ (vx_atS RX9 296 "java/lang/IllegalStateException" ["java/lang/RuntimeException", "java/lang/Exception"]).filter goodWord)
def wsX9_setKeep : List Cond := .code yX9_setKeep cX9_setKeep 4 (some .int) :: ([.fieldLink RX9 10 "MeridianSeries" "settings" "LMeridianSeries$Settings;", .fieldLink RX9 94 "MeridianSeries$Settings" "keep" "I", .fieldLink RX9 97 "MeridianSeries$Settings" "longKeep" "I", .methodLink RX9 51 yX9_isIn, .static yX9_isIn, .initialized RX9, .code yX9_isIn cX9_isIn 4 (some .boolean), .methodLink RX9 55 yX9_needArgument, .static yX9_needArgument, .code yX9_needArgument cX9_needArgument 1 none, .classLink RX9 280 "java/lang/IllegalArgumentException", .initialized "java/lang/IllegalArgumentException"] ++ wsX90 ++ wsX70 ++ (vx_atS RX9 284 "java/lang/IllegalArgumentException" ["java/lang/RuntimeException", "java/lang/Exception"]).filter goodWord)
def wsX9_setQuery : List Cond := .code yX9_setQuery cX9_setQuery 6 (some .int) :: ([.constant RX9 100 (99999), .fieldLink RX9 39 "MeridianSeries" "queryStep" "I", .fieldLink RX9 35 "MeridianSeries" "queryFrom" "I", .fieldLink RX9 42 "MeridianSeries" "queryWhat" "I", .fieldLink RX9 45 "MeridianSeries" "queryFill" "I", .methodLink RX9 51 yX9_isIn, .static yX9_isIn, .initialized RX9, .code yX9_isIn cX9_isIn 4 (some .boolean), .methodLink RX9 55 yX9_needArgument, .static yX9_needArgument, .code yX9_needArgument cX9_needArgument 1 none, .classLink RX9 280 "java/lang/IllegalArgumentException", .initialized "java/lang/IllegalArgumentException"] ++ wsX90 ++ (vx_atS RX9 284 "java/lang/IllegalArgumentException" ["java/lang/RuntimeException", "java/lang/Exception"]).filter goodWord)
def wsX9_chainAt_r1 : List Cond := [Cond.classLink RX9 287 "java/lang/IndexOutOfBoundsException", Cond.initialized "java/lang/IndexOutOfBoundsException", Cond.fieldLink RX9 21 "MeridianSeries" "store" "LMeridianSeries$Store;", Cond.fieldLink RX9 59 "MeridianSeries$Store" "chains" "Ljava/util/ArrayList;", Cond.classLink RX9 72 "MeridianSeries$Series", Cond.methodLink RX9 63 yJx4a65c_size_8abf5, Cond.instanceMethod yJx4a65c_size_8abf5, Cond.selects RJx4a65c yJx4a65c_size_8abf5 yJx4a65c_size_8abf5, Cond.initialized RJx4a65c, Cond.code yJx4a65c_size_8abf5 cJx4a65c_size_8abf5 1 (some .int), Cond.fieldLink RJx4a65c 48 "java/util/ArrayList" "size" "I", Cond.methodLink RX9 187 yJx4a65c_get_915e3, Cond.instanceMethod yJx4a65c_get_915e3, Cond.selects RJx4a65c yJx4a65c_get_915e3 yJx4a65c_get_915e3, Cond.code yJx4a65c_get_915e3 cJx4a65c_get_915e3 2 (some (.object "java/lang/Object")), Cond.methodLink RJx4a65c 118 yJ15_checkIndex_7cf53, Cond.static yJ15_checkIndex_7cf53, Cond.initialized RJ15, Cond.code yJ15_checkIndex_7cf53 cJ15_checkIndex_7cf53 2 (some .int), Cond.methodLink RJ15 105 yJ3_checkIndex_8e157, Cond.static yJ3_checkIndex_8e157, Cond.initialized RJ3, Cond.code yJ3_checkIndex_8e157 cJ3_checkIndex_8e157 3 (some .int), Cond.methodLink RJx4a65c 123 yJx4a65c_elementData_915e3]
def wsX9_chainAt_r2 : List Cond := [Cond.instanceMethod yJx4a65c_elementData_915e3, Cond.selects RJx4a65c yJx4a65c_elementData_915e3 yJx4a65c_elementData_915e3, Cond.code yJx4a65c_elementData_915e3 cJx4a65c_elementData_915e3 2 (some (.object "java/lang/Object")), Cond.fieldLink RJx4a65c 9 "java/util/ArrayList" "elementData" "[Ljava/lang/Object;"]
def wsX9_chainAt : List Cond := .code yX9_chainAt cX9_chainAt 2 (some (.object "MeridianSeries$Series")) :: ((wsX9_chainAt_r1 ++ wsX9_chainAt_r2) ++ wsX90 ++ wsX80 ++ wsJx4a65c0 ++ (vx_atS RX9 291 "java/lang/IndexOutOfBoundsException" ["java/lang/RuntimeException", "java/lang/Exception"]).filter goodWord)
def wsX9_isTimeUpToNow : List Cond := .code yX9_isTimeUpToNow cX9_isTimeUpToNow 3 (some .boolean) :: ([.fieldLink RX9 21 "MeridianSeries" "store" "LMeridianSeries$Store;", .fieldLink RX9 141 "MeridianSeries$Store" "now" "I", .methodLink RX9 51 yX9_isIn, .static yX9_isIn, .initialized RX9, .code yX9_isIn cX9_isIn 4 (some .boolean)] ++ wsX90 ++ wsX80)
def wsX9_isValue : List Cond := .code yX9_isValue cX9_isValue 2 (some .boolean) :: ([.constant RX9 278 (-100000), .constant RX9 279 (100000), .methodLink RX9 51 yX9_isIn, .static yX9_isIn, .initialized RX9, .code yX9_isIn cX9_isIn 4 (some .boolean)])
def wsX9_putOrCountLate_r1 : List Cond := [Cond.fieldLink RX9 116 "MeridianSeries$Series" "points" "LMeridianSeries$Points;", Cond.fieldLink RX9 48 "MeridianSeries" "lateCount" "I", Cond.fieldLink RX9 10 "MeridianSeries" "settings" "LMeridianSeries$Settings;", Cond.methodLink RX9 238 yX4_isLate, Cond.instanceMethod yX4_isLate, Cond.selects RX4 yX4_isLate yX4_isLate, Cond.initialized RX4, Cond.code yX4_isLate cX4_isLate 2 (some .boolean), Cond.fieldLink RX4 28 "MeridianSeries$Points" "greatestSealedTime" "I", Cond.methodLink RX9 301 yX6_take, Cond.instanceMethod yX6_take, Cond.selects RX6 yX6_take yX6_take, Cond.initialized RX6, Cond.code yX6_take cX6_take 4 none, Cond.fieldLink RX6 12 "MeridianSeries$Series" "points" "LMeridianSeries$Points;", Cond.fieldLink RX6 43 "MeridianSeries$Settings" "span" "I", Cond.methodLink RX6 35 yX4_add, Cond.instanceMethod yX4_add, Cond.selects RX4 yX4_add yX4_add, Cond.code yX4_add cX4_add 5 none, Cond.fieldLink RX4 31 "MeridianSeries$Points" "amount" "I", Cond.sameField "MeridianSeries$Points" "MeridianSeries$Items" "amount" "I", Cond.methodLink RX4 46 yX4_placeOf, Cond.instanceMethod yX4_placeOf]
def wsX9_putOrCountLate_r2 : List Cond := [Cond.selects RX4 yX4_placeOf yX4_placeOf, Cond.code yX4_placeOf cX4_placeOf 3 (some .int), Cond.fieldLink RX4 25 "MeridianSeries$Points" "sealedPoints" "I", Cond.methodLink RX4 42 yX4_number, Cond.instanceMethod yX4_number, Cond.selects RX4 yX4_number yX4_number, Cond.code yX4_number cX4_number 3 (some .int), Cond.fieldLink RX4 11 "MeridianSeries$Points" "times" "[I", Cond.fieldLink RX4 15 "MeridianSeries$Points" "values" "[I", Cond.methodLink RX4 49 yX4_isTakenAt, Cond.instanceMethod yX4_isTakenAt, Cond.selects RX4 yX4_isTakenAt yX4_isTakenAt, Cond.code yX4_isTakenAt cX4_isTakenAt 3 (some .boolean), Cond.methodLink RX4 53 yX4_copyPoint, Cond.instanceMethod yX4_copyPoint, Cond.selects RX4 yX4_copyPoint yX4_copyPoint, Cond.code yX4_copyPoint cX4_copyPoint 3 none, Cond.methodLink RX4 57 yX4_write, Cond.instanceMethod yX4_write, Cond.selects RX4 yX4_write yX4_write, Cond.code yX4_write cX4_write 4 none, Cond.methodLink RX6 39 yX4_openSize, Cond.instanceMethod yX4_openSize, Cond.selects RX4 yX4_openSize yX4_openSize]
def wsX9_putOrCountLate_r3 : List Cond := [Cond.code yX4_openSize cX4_openSize 1 (some .int), Cond.methodLink RX6 48 yX4_seal, Cond.instanceMethod yX4_seal, Cond.selects RX4 yX4_seal yX4_seal, Cond.code yX4_seal cX4_seal 1 none, Cond.fieldLink RX4 21 "MeridianSeries$Points" "sealedBlocks" "I", Cond.fieldLink RX4 18 "MeridianSeries$Points" "sizes" "[I", Cond.methodLink RX4 34 yX4_openSize, Cond.methodLink RX6 51 yX4_hasTooManySealed, Cond.instanceMethod yX4_hasTooManySealed, Cond.selects RX4 yX4_hasTooManySealed yX4_hasTooManySealed, Cond.code yX4_hasTooManySealed cX4_hasTooManySealed 1 (some .boolean), Cond.methodLink RX6 55 yX6_rollUpFirstBlock, Cond.instanceMethod yX6_rollUpFirstBlock, Cond.selects RX6 yX6_rollUpFirstBlock yX6_rollUpFirstBlock, Cond.code yX6_rollUpFirstBlock cX6_rollUpFirstBlock 4 none, Cond.fieldLink RX6 21 "MeridianSeries$Series" "fine" "LMeridianSeries$Buckets;", Cond.fieldLink RX6 69 "MeridianSeries$Settings" "width" "I", Cond.methodLink RX6 85 yX4_sizeOf, Cond.instanceMethod yX4_sizeOf, Cond.selects RX4 yX4_sizeOf yX4_sizeOf, Cond.code yX4_sizeOf cX4_sizeOf 2 (some .int), Cond.methodLink RX6 88 yX4_number, Cond.methodLink RX6 89 yX6_startFor]
def wsX9_putOrCountLate_r4 : List Cond := [Cond.static yX6_startFor, Cond.code yX6_startFor cX6_startFor 2 (some .int), Cond.methodLink RX6 92 yX0_take, Cond.instanceMethod yX0_take, Cond.selects RX0 yX0_take yX0_take, Cond.initialized RX0, Cond.code yX0_take cX0_take 6 none, Cond.fieldLink RX0 15 "MeridianSeries$Buckets" "amount" "I", Cond.sameField "MeridianSeries$Buckets" "MeridianSeries$Items" "amount" "I", Cond.methodLink RX0 28 Lib.Math.min.name, Cond.static Lib.Math.min.name, Cond.initialized "java/lang/Math", Cond.code Lib.Math.min.name Lib.Math.min.code 2 (some .int), Cond.methodLink RX0 33 Lib.Math.max.name, Cond.static Lib.Math.max.name, Cond.code Lib.Math.max.name Lib.Math.max.code 2 (some .int), Cond.methodLink RX0 19 yX0_number, Cond.instanceMethod yX0_number, Cond.selects RX0 yX0_number yX0_number, Cond.code yX0_number cX0_number 4 (some .int), Cond.fieldLink RX0 11 "MeridianSeries$Buckets" "cells" "[I", Cond.methodLink RX0 23 ⟨"MeridianSeries$Items", "number", "(II)I"⟩, Cond.sameMethod "MeridianSeries$Items" "MeridianSeries$Items" "number" "(II)I", Cond.selects RX0 ⟨"MeridianSeries$Items", "number", "(II)I"⟩ yX0_number]
def wsX9_putOrCountLate_r5 : List Cond := [Cond.selects RX4 ⟨"MeridianSeries$Items", "number", "(II)I"⟩ yX4_number, Cond.methodLink RX0 24 yX0_write, Cond.instanceMethod yX0_write, Cond.selects RX0 yX0_write yX0_write, Cond.code yX0_write cX0_write 5 none, Cond.methodLink RX6 96 yX0_isFull, Cond.instanceMethod yX0_isFull, Cond.selects RX0 yX0_isFull yX0_isFull, Cond.code yX0_isFull cX0_isFull 1 (some .boolean), Cond.methodLink RX6 76 yX6_rollUpFirstFine, Cond.instanceMethod yX6_rollUpFirstFine, Cond.selects RX6 yX6_rollUpFirstFine yX6_rollUpFirstFine, Cond.code yX6_rollUpFirstFine cX6_rollUpFirstFine 3 none, Cond.fieldLink RX6 102 "MeridianSeries$Settings" "fold" "I", Cond.fieldLink RX6 25 "MeridianSeries$Series" "coarse" "LMeridianSeries$Buckets;", Cond.methodLink RX6 82 yX0_number, Cond.methodLink RX6 105 yX0_dropFirst, Cond.instanceMethod yX0_dropFirst, Cond.selects RX0 yX0_dropFirst yX0_dropFirst, Cond.code yX0_dropFirst cX0_dropFirst 2 none, Cond.methodLink RX6 99 yX4_dropFirstBlock, Cond.instanceMethod yX4_dropFirstBlock, Cond.selects RX4 yX4_dropFirstBlock yX4_dropFirstBlock, Cond.code yX4_dropFirstBlock cX4_dropFirstBlock 3 none]
def wsX9_putOrCountLate_r6 : List Cond := [Cond.methodLink RX4 38 yX4_sizeOf]
def wsX9_putOrCountLate : List Cond := .code yX9_putOrCountLate cX9_putOrCountLate 4 (some .boolean) :: ((wsX9_putOrCountLate_r1 ++ (wsX9_putOrCountLate_r2 ++ (wsX9_putOrCountLate_r3 ++ (wsX9_putOrCountLate_r4 ++ (wsX9_putOrCountLate_r5 ++ wsX9_putOrCountLate_r6))))) ++ wsX60 ++ wsX90 ++ wsX40 ++ wsX70 ++ wsX00)
def wsX9_put_r1 : List Cond := [Cond.fieldLink RX9 116 "MeridianSeries$Series" "points" "LMeridianSeries$Points;", Cond.methodLink RX9 101 yX9_chainAt, Cond.instanceMethod yX9_chainAt, Cond.selects RX9 yX9_chainAt yX9_chainAt, Cond.initialized RX9, Cond.code yX9_chainAt cX9_chainAt 2 (some (.object "MeridianSeries$Series")), Cond.classLink RX9 287 "java/lang/IndexOutOfBoundsException", Cond.initialized "java/lang/IndexOutOfBoundsException", Cond.fieldLink RX9 21 "MeridianSeries" "store" "LMeridianSeries$Store;", Cond.fieldLink RX9 59 "MeridianSeries$Store" "chains" "Ljava/util/ArrayList;", Cond.classLink RX9 72 "MeridianSeries$Series", Cond.methodLink RX9 63 yJx4a65c_size_8abf5, Cond.instanceMethod yJx4a65c_size_8abf5, Cond.selects RJx4a65c yJx4a65c_size_8abf5 yJx4a65c_size_8abf5, Cond.initialized RJx4a65c, Cond.code yJx4a65c_size_8abf5 cJx4a65c_size_8abf5 1 (some .int), Cond.fieldLink RJx4a65c 48 "java/util/ArrayList" "size" "I", Cond.methodLink RX9 187 yJx4a65c_get_915e3, Cond.instanceMethod yJx4a65c_get_915e3, Cond.selects RJx4a65c yJx4a65c_get_915e3 yJx4a65c_get_915e3, Cond.code yJx4a65c_get_915e3 cJx4a65c_get_915e3 2 (some (.object "java/lang/Object")), Cond.methodLink RJx4a65c 118 yJ15_checkIndex_7cf53, Cond.static yJ15_checkIndex_7cf53, Cond.initialized RJ15]
def wsX9_put_r2 : List Cond := [Cond.code yJ15_checkIndex_7cf53 cJ15_checkIndex_7cf53 2 (some .int), Cond.methodLink RJ15 105 yJ3_checkIndex_8e157, Cond.static yJ3_checkIndex_8e157, Cond.initialized RJ3, Cond.code yJ3_checkIndex_8e157 cJ3_checkIndex_8e157 3 (some .int), Cond.methodLink RJx4a65c 123 yJx4a65c_elementData_915e3, Cond.instanceMethod yJx4a65c_elementData_915e3, Cond.selects RJx4a65c yJx4a65c_elementData_915e3 yJx4a65c_elementData_915e3, Cond.code yJx4a65c_elementData_915e3 cJx4a65c_elementData_915e3 2 (some (.object "java/lang/Object")), Cond.fieldLink RJx4a65c 9 "java/util/ArrayList" "elementData" "[Ljava/lang/Object;", Cond.methodLink RX9 105 yX9_isTimeUpToNow, Cond.instanceMethod yX9_isTimeUpToNow, Cond.selects RX9 yX9_isTimeUpToNow yX9_isTimeUpToNow, Cond.code yX9_isTimeUpToNow cX9_isTimeUpToNow 3 (some .boolean), Cond.fieldLink RX9 141 "MeridianSeries$Store" "now" "I", Cond.methodLink RX9 51 yX9_isIn, Cond.static yX9_isIn, Cond.code yX9_isIn cX9_isIn 4 (some .boolean), Cond.methodLink RX9 109 yX9_isValue, Cond.static yX9_isValue, Cond.code yX9_isValue cX9_isValue 2 (some .boolean), Cond.constant RX9 278 (-100000), Cond.constant RX9 279 (100000), Cond.methodLink RX9 55 yX9_needArgument]
def wsX9_put_r3 : List Cond := [Cond.static yX9_needArgument, Cond.code yX9_needArgument cX9_needArgument 1 none, Cond.classLink RX9 280 "java/lang/IllegalArgumentException", Cond.initialized "java/lang/IllegalArgumentException", Cond.methodLink RX9 112 yX9_putOrCountLate, Cond.instanceMethod yX9_putOrCountLate, Cond.selects RX9 yX9_putOrCountLate yX9_putOrCountLate, Cond.code yX9_putOrCountLate cX9_putOrCountLate 4 (some .boolean), Cond.fieldLink RX9 48 "MeridianSeries" "lateCount" "I", Cond.fieldLink RX9 10 "MeridianSeries" "settings" "LMeridianSeries$Settings;", Cond.methodLink RX9 238 yX4_isLate, Cond.instanceMethod yX4_isLate, Cond.selects RX4 yX4_isLate yX4_isLate, Cond.initialized RX4, Cond.code yX4_isLate cX4_isLate 2 (some .boolean), Cond.fieldLink RX4 28 "MeridianSeries$Points" "greatestSealedTime" "I", Cond.methodLink RX9 301 yX6_take, Cond.instanceMethod yX6_take, Cond.selects RX6 yX6_take yX6_take, Cond.initialized RX6, Cond.code yX6_take cX6_take 4 none, Cond.fieldLink RX6 12 "MeridianSeries$Series" "points" "LMeridianSeries$Points;", Cond.fieldLink RX6 43 "MeridianSeries$Settings" "span" "I", Cond.methodLink RX6 35 yX4_add]
def wsX9_put_r4 : List Cond := [Cond.instanceMethod yX4_add, Cond.selects RX4 yX4_add yX4_add, Cond.code yX4_add cX4_add 5 none, Cond.fieldLink RX4 31 "MeridianSeries$Points" "amount" "I", Cond.sameField "MeridianSeries$Points" "MeridianSeries$Items" "amount" "I", Cond.methodLink RX4 46 yX4_placeOf, Cond.instanceMethod yX4_placeOf, Cond.selects RX4 yX4_placeOf yX4_placeOf, Cond.code yX4_placeOf cX4_placeOf 3 (some .int), Cond.fieldLink RX4 25 "MeridianSeries$Points" "sealedPoints" "I", Cond.methodLink RX4 42 yX4_number, Cond.instanceMethod yX4_number, Cond.selects RX4 yX4_number yX4_number, Cond.code yX4_number cX4_number 3 (some .int), Cond.fieldLink RX4 11 "MeridianSeries$Points" "times" "[I", Cond.fieldLink RX4 15 "MeridianSeries$Points" "values" "[I", Cond.methodLink RX4 49 yX4_isTakenAt, Cond.instanceMethod yX4_isTakenAt, Cond.selects RX4 yX4_isTakenAt yX4_isTakenAt, Cond.code yX4_isTakenAt cX4_isTakenAt 3 (some .boolean), Cond.methodLink RX4 53 yX4_copyPoint, Cond.instanceMethod yX4_copyPoint, Cond.selects RX4 yX4_copyPoint yX4_copyPoint, Cond.code yX4_copyPoint cX4_copyPoint 3 none]
def wsX9_put_r5 : List Cond := [Cond.methodLink RX4 57 yX4_write, Cond.instanceMethod yX4_write, Cond.selects RX4 yX4_write yX4_write, Cond.code yX4_write cX4_write 4 none, Cond.methodLink RX6 39 yX4_openSize, Cond.instanceMethod yX4_openSize, Cond.selects RX4 yX4_openSize yX4_openSize, Cond.code yX4_openSize cX4_openSize 1 (some .int), Cond.methodLink RX6 48 yX4_seal, Cond.instanceMethod yX4_seal, Cond.selects RX4 yX4_seal yX4_seal, Cond.code yX4_seal cX4_seal 1 none, Cond.fieldLink RX4 21 "MeridianSeries$Points" "sealedBlocks" "I", Cond.fieldLink RX4 18 "MeridianSeries$Points" "sizes" "[I", Cond.methodLink RX4 34 yX4_openSize, Cond.methodLink RX6 51 yX4_hasTooManySealed, Cond.instanceMethod yX4_hasTooManySealed, Cond.selects RX4 yX4_hasTooManySealed yX4_hasTooManySealed, Cond.code yX4_hasTooManySealed cX4_hasTooManySealed 1 (some .boolean), Cond.methodLink RX6 55 yX6_rollUpFirstBlock, Cond.instanceMethod yX6_rollUpFirstBlock, Cond.selects RX6 yX6_rollUpFirstBlock yX6_rollUpFirstBlock, Cond.code yX6_rollUpFirstBlock cX6_rollUpFirstBlock 4 none, Cond.fieldLink RX6 21 "MeridianSeries$Series" "fine" "LMeridianSeries$Buckets;"]
def wsX9_put_r6 : List Cond := [Cond.fieldLink RX6 69 "MeridianSeries$Settings" "width" "I", Cond.methodLink RX6 85 yX4_sizeOf, Cond.instanceMethod yX4_sizeOf, Cond.selects RX4 yX4_sizeOf yX4_sizeOf, Cond.code yX4_sizeOf cX4_sizeOf 2 (some .int), Cond.methodLink RX6 88 yX4_number, Cond.methodLink RX6 89 yX6_startFor, Cond.static yX6_startFor, Cond.code yX6_startFor cX6_startFor 2 (some .int), Cond.methodLink RX6 92 yX0_take, Cond.instanceMethod yX0_take, Cond.selects RX0 yX0_take yX0_take, Cond.initialized RX0, Cond.code yX0_take cX0_take 6 none, Cond.fieldLink RX0 15 "MeridianSeries$Buckets" "amount" "I", Cond.sameField "MeridianSeries$Buckets" "MeridianSeries$Items" "amount" "I", Cond.methodLink RX0 28 Lib.Math.min.name, Cond.static Lib.Math.min.name, Cond.initialized "java/lang/Math", Cond.code Lib.Math.min.name Lib.Math.min.code 2 (some .int), Cond.methodLink RX0 33 Lib.Math.max.name, Cond.static Lib.Math.max.name, Cond.code Lib.Math.max.name Lib.Math.max.code 2 (some .int), Cond.methodLink RX0 19 yX0_number]
def wsX9_put_r7 : List Cond := [Cond.instanceMethod yX0_number, Cond.selects RX0 yX0_number yX0_number, Cond.code yX0_number cX0_number 4 (some .int), Cond.fieldLink RX0 11 "MeridianSeries$Buckets" "cells" "[I", Cond.methodLink RX0 23 ⟨"MeridianSeries$Items", "number", "(II)I"⟩, Cond.sameMethod "MeridianSeries$Items" "MeridianSeries$Items" "number" "(II)I", Cond.selects RX0 ⟨"MeridianSeries$Items", "number", "(II)I"⟩ yX0_number, Cond.selects RX4 ⟨"MeridianSeries$Items", "number", "(II)I"⟩ yX4_number, Cond.methodLink RX0 24 yX0_write, Cond.instanceMethod yX0_write, Cond.selects RX0 yX0_write yX0_write, Cond.code yX0_write cX0_write 5 none, Cond.methodLink RX6 96 yX0_isFull, Cond.instanceMethod yX0_isFull, Cond.selects RX0 yX0_isFull yX0_isFull, Cond.code yX0_isFull cX0_isFull 1 (some .boolean), Cond.methodLink RX6 76 yX6_rollUpFirstFine, Cond.instanceMethod yX6_rollUpFirstFine, Cond.selects RX6 yX6_rollUpFirstFine yX6_rollUpFirstFine, Cond.code yX6_rollUpFirstFine cX6_rollUpFirstFine 3 none, Cond.fieldLink RX6 102 "MeridianSeries$Settings" "fold" "I", Cond.fieldLink RX6 25 "MeridianSeries$Series" "coarse" "LMeridianSeries$Buckets;", Cond.methodLink RX6 82 yX0_number, Cond.methodLink RX6 105 yX0_dropFirst]
def wsX9_put_r8 : List Cond := [Cond.instanceMethod yX0_dropFirst, Cond.selects RX0 yX0_dropFirst yX0_dropFirst, Cond.code yX0_dropFirst cX0_dropFirst 2 none, Cond.methodLink RX6 99 yX4_dropFirstBlock, Cond.instanceMethod yX4_dropFirstBlock, Cond.selects RX4 yX4_dropFirstBlock yX4_dropFirstBlock, Cond.code yX4_dropFirstBlock cX4_dropFirstBlock 3 none, Cond.methodLink RX4 38 yX4_sizeOf, Cond.methodLink RX9 120 yX4_openSize]
def wsX9_put : List Cond := .code yX9_put cX9_put 5 (some .int) :: ((wsX9_put_r1 ++ (wsX9_put_r2 ++ (wsX9_put_r3 ++ (wsX9_put_r4 ++ (wsX9_put_r5 ++ (wsX9_put_r6 ++ (wsX9_put_r7 ++ wsX9_put_r8))))))) ++ wsX60 ++ wsX90 ++ wsX80 ++ wsJx4a65c0 ++ wsX40 ++ wsX70 ++ wsX00 ++ (vx_atS RX9 291 "java/lang/IndexOutOfBoundsException" ["java/lang/RuntimeException", "java/lang/Exception"]).filter goodWord ++ (vx_atS RX9 284 "java/lang/IllegalArgumentException" ["java/lang/RuntimeException", "java/lang/Exception"]).filter goodWord)
def wsX9_canGoOn : List Cond := .code yX9_canGoOn cX9_canGoOn 2 (some .boolean) :: ([.fieldLink RX9 21 "MeridianSeries" "store" "LMeridianSeries$Store;", .fieldLink RX9 141 "MeridianSeries$Store" "now" "I", .constant RX9 100 (99999), .methodLink RX9 51 yX9_isIn, .static yX9_isIn, .initialized RX9, .code yX9_isIn cX9_isIn 4 (some .boolean)] ++ wsX90 ++ wsX80)
def wsX9_goOn_r1 : List Cond := [Cond.fieldLink RX9 21 "MeridianSeries" "store" "LMeridianSeries$Store;", Cond.fieldLink RX9 129 "MeridianSeries$Store" "log" "LMeridianSeries$EventLog;", Cond.fieldLink RX9 133 "MeridianSeries$EventLog" "total" "I", Cond.methodLink RX9 125 yX9_canGoOn, Cond.instanceMethod yX9_canGoOn, Cond.selects RX9 yX9_canGoOn yX9_canGoOn, Cond.initialized RX9, Cond.code yX9_canGoOn cX9_canGoOn 2 (some .boolean), Cond.fieldLink RX9 141 "MeridianSeries$Store" "now" "I", Cond.constant RX9 100 (99999), Cond.methodLink RX9 51 yX9_isIn, Cond.static yX9_isIn, Cond.code yX9_isIn cX9_isIn 4 (some .boolean), Cond.methodLink RX9 55 yX9_needArgument, Cond.static yX9_needArgument, Cond.code yX9_needArgument cX9_needArgument 1 none, Cond.classLink RX9 280 "java/lang/IllegalArgumentException", Cond.initialized "java/lang/IllegalArgumentException", Cond.methodLink RX9 138 yX8_goOnByOne, Cond.instanceMethod yX8_goOnByOne, Cond.selects RX8 yX8_goOnByOne yX8_goOnByOne, Cond.initialized RX8, Cond.code yX8_goOnByOne cX8_goOnByOne 3 none, Cond.fieldLink RX8 26 "MeridianSeries$Store" "now" "I"]
def wsX9_goOn_r2 : List Cond := [Cond.fieldLink RX8 10 "MeridianSeries$Store" "chains" "Ljava/util/ArrayList;", Cond.classLink RX8 42 "MeridianSeries$Series", Cond.fieldLink RX8 30 "MeridianSeries$Store" "settings" "LMeridianSeries$Settings;", Cond.fieldLink RX8 16 "MeridianSeries$Store" "rules" "Ljava/util/ArrayList;", Cond.classLink RX8 60 "MeridianSeries$Rule", Cond.fieldLink RX8 22 "MeridianSeries$Store" "log" "LMeridianSeries$EventLog;", Cond.fieldLink RX8 73 "MeridianSeries$Rule" "state" "I", Cond.methodLink RX8 34 yJx4a65c_size_8abf5, Cond.instanceMethod yJx4a65c_size_8abf5, Cond.selects RJx4a65c yJx4a65c_size_8abf5 yJx4a65c_size_8abf5, Cond.initialized RJx4a65c, Cond.code yJx4a65c_size_8abf5 cJx4a65c_size_8abf5 1 (some .int), Cond.fieldLink RJx4a65c 48 "java/util/ArrayList" "size" "I", Cond.methodLink RX8 38 yJx4a65c_get_915e3, Cond.instanceMethod yJx4a65c_get_915e3, Cond.selects RJx4a65c yJx4a65c_get_915e3 yJx4a65c_get_915e3, Cond.code yJx4a65c_get_915e3 cJx4a65c_get_915e3 2 (some (.object "java/lang/Object")), Cond.methodLink RJx4a65c 118 yJ15_checkIndex_7cf53, Cond.static yJ15_checkIndex_7cf53, Cond.initialized RJ15, Cond.code yJ15_checkIndex_7cf53 cJ15_checkIndex_7cf53 2 (some .int), Cond.methodLink RJ15 105 yJ3_checkIndex_8e157, Cond.static yJ3_checkIndex_8e157, Cond.initialized RJ3]
def wsX9_goOn_r3 : List Cond := [Cond.code yJ3_checkIndex_8e157 cJ3_checkIndex_8e157 3 (some .int), Cond.methodLink RJx4a65c 123 yJx4a65c_elementData_915e3, Cond.instanceMethod yJx4a65c_elementData_915e3, Cond.selects RJx4a65c yJx4a65c_elementData_915e3 yJx4a65c_elementData_915e3, Cond.code yJx4a65c_elementData_915e3 cJx4a65c_elementData_915e3 2 (some (.object "java/lang/Object")), Cond.fieldLink RJx4a65c 9 "java/util/ArrayList" "elementData" "[Ljava/lang/Object;", Cond.methodLink RX8 56 yX6_rollUpBy, Cond.instanceMethod yX6_rollUpBy, Cond.selects RX6 yX6_rollUpBy yX6_rollUpBy, Cond.initialized RX6, Cond.code yX6_rollUpBy cX6_rollUpBy 7 none, Cond.fieldLink RX6 59 "MeridianSeries$Settings" "keep" "I", Cond.fieldLink RX6 12 "MeridianSeries$Series" "points" "LMeridianSeries$Points;", Cond.fieldLink RX6 66 "MeridianSeries$Settings" "longKeep" "I", Cond.fieldLink RX6 69 "MeridianSeries$Settings" "width" "I", Cond.methodLink RX6 62 yX4_blocksBelow, Cond.instanceMethod yX4_blocksBelow, Cond.selects RX4 yX4_blocksBelow yX4_blocksBelow, Cond.initialized RX4, Cond.code yX4_blocksBelow cX4_blocksBelow 4 (some .int), Cond.fieldLink RX4 21 "MeridianSeries$Points" "sealedBlocks" "I", Cond.methodLink RX4 38 yX4_sizeOf, Cond.instanceMethod yX4_sizeOf, Cond.selects RX4 yX4_sizeOf yX4_sizeOf]
def wsX9_goOn_r4 : List Cond := [Cond.code yX4_sizeOf cX4_sizeOf 2 (some .int), Cond.fieldLink RX4 18 "MeridianSeries$Points" "sizes" "[I", Cond.methodLink RX4 34 yX4_openSize, Cond.instanceMethod yX4_openSize, Cond.selects RX4 yX4_openSize yX4_openSize, Cond.code yX4_openSize cX4_openSize 1 (some .int), Cond.fieldLink RX4 31 "MeridianSeries$Points" "amount" "I", Cond.sameField "MeridianSeries$Points" "MeridianSeries$Items" "amount" "I", Cond.fieldLink RX4 25 "MeridianSeries$Points" "sealedPoints" "I", Cond.methodLink RX4 42 yX4_number, Cond.instanceMethod yX4_number, Cond.selects RX4 yX4_number yX4_number, Cond.code yX4_number cX4_number 3 (some .int), Cond.fieldLink RX4 11 "MeridianSeries$Points" "times" "[I", Cond.fieldLink RX4 15 "MeridianSeries$Points" "values" "[I", Cond.methodLink RX6 55 yX6_rollUpFirstBlock, Cond.instanceMethod yX6_rollUpFirstBlock, Cond.selects RX6 yX6_rollUpFirstBlock yX6_rollUpFirstBlock, Cond.code yX6_rollUpFirstBlock cX6_rollUpFirstBlock 4 none, Cond.fieldLink RX6 21 "MeridianSeries$Series" "fine" "LMeridianSeries$Buckets;", Cond.methodLink RX6 85 yX4_sizeOf, Cond.methodLink RX6 88 yX4_number, Cond.methodLink RX6 89 yX6_startFor, Cond.static yX6_startFor]
def wsX9_goOn_r5 : List Cond := [Cond.code yX6_startFor cX6_startFor 2 (some .int), Cond.methodLink RX6 92 yX0_take, Cond.instanceMethod yX0_take, Cond.selects RX0 yX0_take yX0_take, Cond.initialized RX0, Cond.code yX0_take cX0_take 6 none, Cond.fieldLink RX0 15 "MeridianSeries$Buckets" "amount" "I", Cond.sameField "MeridianSeries$Buckets" "MeridianSeries$Items" "amount" "I", Cond.methodLink RX0 28 Lib.Math.min.name, Cond.static Lib.Math.min.name, Cond.initialized "java/lang/Math", Cond.code Lib.Math.min.name Lib.Math.min.code 2 (some .int), Cond.methodLink RX0 33 Lib.Math.max.name, Cond.static Lib.Math.max.name, Cond.code Lib.Math.max.name Lib.Math.max.code 2 (some .int), Cond.methodLink RX0 19 yX0_number, Cond.instanceMethod yX0_number, Cond.selects RX0 yX0_number yX0_number, Cond.code yX0_number cX0_number 4 (some .int), Cond.fieldLink RX0 11 "MeridianSeries$Buckets" "cells" "[I", Cond.methodLink RX0 23 ⟨"MeridianSeries$Items", "number", "(II)I"⟩, Cond.sameMethod "MeridianSeries$Items" "MeridianSeries$Items" "number" "(II)I", Cond.selects RX0 ⟨"MeridianSeries$Items", "number", "(II)I"⟩ yX0_number, Cond.selects RX4 ⟨"MeridianSeries$Items", "number", "(II)I"⟩ yX4_number]
def wsX9_goOn_r6 : List Cond := [Cond.methodLink RX0 24 yX0_write, Cond.instanceMethod yX0_write, Cond.selects RX0 yX0_write yX0_write, Cond.code yX0_write cX0_write 5 none, Cond.methodLink RX6 96 yX0_isFull, Cond.instanceMethod yX0_isFull, Cond.selects RX0 yX0_isFull yX0_isFull, Cond.code yX0_isFull cX0_isFull 1 (some .boolean), Cond.methodLink RX6 76 yX6_rollUpFirstFine, Cond.instanceMethod yX6_rollUpFirstFine, Cond.selects RX6 yX6_rollUpFirstFine yX6_rollUpFirstFine, Cond.code yX6_rollUpFirstFine cX6_rollUpFirstFine 3 none, Cond.fieldLink RX6 102 "MeridianSeries$Settings" "fold" "I", Cond.fieldLink RX6 25 "MeridianSeries$Series" "coarse" "LMeridianSeries$Buckets;", Cond.methodLink RX6 82 yX0_number, Cond.methodLink RX6 105 yX0_dropFirst, Cond.instanceMethod yX0_dropFirst, Cond.selects RX0 yX0_dropFirst yX0_dropFirst, Cond.code yX0_dropFirst cX0_dropFirst 2 none, Cond.methodLink RX6 99 yX4_dropFirstBlock, Cond.instanceMethod yX4_dropFirstBlock, Cond.selects RX4 yX4_dropFirstBlock yX4_dropFirstBlock, Cond.code yX4_dropFirstBlock cX4_dropFirstBlock 3 none, Cond.methodLink RX4 53 yX4_copyPoint]
def wsX9_goOn_r7 : List Cond := [Cond.instanceMethod yX4_copyPoint, Cond.selects RX4 yX4_copyPoint yX4_copyPoint, Cond.code yX4_copyPoint cX4_copyPoint 3 none, Cond.methodLink RX4 57 yX4_write, Cond.instanceMethod yX4_write, Cond.selects RX4 yX4_write yX4_write, Cond.code yX4_write cX4_write 4 none, Cond.methodLink RX6 72 yX6_fineEndingBy, Cond.instanceMethod yX6_fineEndingBy, Cond.selects RX6 yX6_fineEndingBy yX6_fineEndingBy, Cond.code yX6_fineEndingBy cX6_fineEndingBy 4 (some .int), Cond.fieldLink RX6 79 "MeridianSeries$Buckets" "amount" "I", Cond.methodLink RX8 62 yX5_isDueAt, Cond.instanceMethod yX5_isDueAt, Cond.selects RX5 yX5_isDueAt yX5_isDueAt, Cond.initialized RX5, Cond.code yX5_isDueAt cX5_isDueAt 2 (some .boolean), Cond.fieldLink RX5 28 "MeridianSeries$Rule" "every" "I", Cond.methodLink RX8 66 yX5_told, Cond.instanceMethod yX5_told, Cond.selects RX5 yX5_told yX5_told, Cond.code yX5_told cX5_told 2 (some .int), Cond.fieldLink RX5 18 "MeridianSeries$Rule" "chain" "LMeridianSeries$Series;", Cond.fieldLink RX5 25 "MeridianSeries$Rule" "length" "I"]
def wsX9_goOn_r8 : List Cond := [Cond.fieldLink RX5 22 "MeridianSeries$Rule" "what" "I", Cond.methodLink RX5 41 yX6_tell, Cond.instanceMethod yX6_tell, Cond.selects RX6 yX6_tell yX6_tell, Cond.code yX6_tell cX6_tell 7 (some .int), Cond.methodLink RX6 115 yX6_firstItemFrom, Cond.instanceMethod yX6_firstItemFrom, Cond.selects RX6 yX6_firstItemFrom yX6_firstItemFrom, Cond.code yX6_firstItemFrom cX6_firstItemFrom 6 (some .int), Cond.methodLink RX6 109 yX6_itemCount, Cond.instanceMethod yX6_itemCount, Cond.selects RX6 yX6_itemCount yX6_itemCount, Cond.code yX6_itemCount cX6_itemCount 1 (some .int), Cond.fieldLink RX6 108 "MeridianSeries$Points" "amount" "I", Cond.methodLink RX6 112 yX6_ofItem, Cond.instanceMethod yX6_ofItem, Cond.selects RX6 yX6_ofItem yX6_ofItem, Cond.code yX6_ofItem cX6_ofItem 4 (some .int), Cond.methodLink RX6 118 yX6_toldOfGap, Cond.instanceMethod yX6_toldOfGap, Cond.selects RX6 yX6_toldOfGap yX6_toldOfGap, Cond.code yX6_toldOfGap cX6_toldOfGap 5 (some .int), Cond.constant RX6 134 (-1000000), Cond.methodLink RX6 135 yX6_onLine]
def wsX9_goOn_r9 : List Cond := [Cond.instanceMethod yX6_onLine, Cond.selects RX6 yX6_onLine yX6_onLine, Cond.code yX6_onLine cX6_onLine 9 (some .int), Cond.methodLink RX6 122 yX6_total, Cond.instanceMethod yX6_total, Cond.selects RX6 yX6_total yX6_total, Cond.code yX6_total cX6_total 6 (some .int), Cond.methodLink RX6 125 yX6_least, Cond.instanceMethod yX6_least, Cond.selects RX6 yX6_least yX6_least, Cond.code yX6_least cX6_least 5 (some .int), Cond.methodLink RX6 138 Lib.Math.min.name, Cond.methodLink RX6 128 yX6_greatest, Cond.instanceMethod yX6_greatest, Cond.selects RX6 yX6_greatest yX6_greatest, Cond.code yX6_greatest cX6_greatest 5 (some .int), Cond.methodLink RX6 143 Lib.Math.max.name, Cond.methodLink RX6 131 yX6_quotient, Cond.static yX6_quotient, Cond.code yX6_quotient cX6_quotient 2 (some .int), Cond.methodLink RX8 70 yX5_changesBy, Cond.instanceMethod yX5_changesBy, Cond.selects RX5 yX5_changesBy yX5_changesBy, Cond.code yX5_changesBy cX5_changesBy 3 (some .boolean)]
def wsX9_goOn_r10 : List Cond := [Cond.constant RX5 47 (-1000000), Cond.fieldLink RX5 31 "MeridianSeries$Rule" "isAbove" "Z", Cond.fieldLink RX5 35 "MeridianSeries$Rule" "limit" "I", Cond.fieldLink RX5 9 "MeridianSeries$Rule" "state" "I", Cond.methodLink RX5 48 yX5_ceases, Cond.instanceMethod yX5_ceases, Cond.selects RX5 yX5_ceases yX5_ceases, Cond.code yX5_ceases cX5_ceases 2 (some .boolean), Cond.fieldLink RX5 15 "MeridianSeries$Rule" "timesInRow" "I", Cond.fieldLink RX5 38 "MeridianSeries$Rule" "times" "I", Cond.methodLink RX5 55 yX5_become, Cond.instanceMethod yX5_become, Cond.selects RX5 yX5_become yX5_become, Cond.code yX5_become cX5_become 2 none, Cond.methodLink RX5 52 yX5_begins, Cond.instanceMethod yX5_begins, Cond.selects RX5 yX5_begins yX5_begins, Cond.code yX5_begins cX5_begins 2 (some .boolean), Cond.methodLink RX8 76 yX1_add, Cond.instanceMethod yX1_add, Cond.selects RX1 yX1_add yX1_add, Cond.initialized RX1, Cond.code yX1_add cX1_add 5 none, Cond.fieldLink RX1 15 "MeridianSeries$EventLog" "total" "I"]
def wsX9_goOn_r11 : List Cond := [Cond.fieldLink RX1 9 "MeridianSeries$EventLog" "cells" "[I", Cond.fieldLink RX1 19 "MeridianSeries$EventLog" "firings" "I"]
def wsX9_goOn : List Cond := .code yX9_goOn cX9_goOn 4 (some .int) :: ((wsX9_goOn_r1 ++ (wsX9_goOn_r2 ++ (wsX9_goOn_r3 ++ (wsX9_goOn_r4 ++ (wsX9_goOn_r5 ++ (wsX9_goOn_r6 ++ (wsX9_goOn_r7 ++ (wsX9_goOn_r8 ++ (wsX9_goOn_r9 ++ (wsX9_goOn_r10 ++ wsX9_goOn_r11)))))))))) ++ wsX90 ++ wsX80 ++ wsX10 ++ wsX50 ++ wsJx4a65c0 ++ wsX70 ++ wsX60 ++ wsX40 ++ wsX00 ++ (vx_atS RX9 284 "java/lang/IllegalArgumentException" ["java/lang/RuntimeException", "java/lang/Exception"]).filter goodWord)
def wsX9_now : List Cond := .code yX9_now cX9_now 1 (some .int) :: ([.fieldLink RX9 21 "MeridianSeries" "store" "LMeridianSeries$Store;", .fieldLink RX9 141 "MeridianSeries$Store" "now" "I"] ++ wsX90 ++ wsX80)
def wsX9_late : List Cond := .code yX9_late cX9_late 1 (some .int) :: ([.fieldLink RX9 48 "MeridianSeries" "lateCount" "I"] ++ wsX90)
def wsX9_blocks_r1 : List Cond := [Cond.fieldLink RX9 116 "MeridianSeries$Series" "points" "LMeridianSeries$Points;", Cond.methodLink RX9 101 yX9_chainAt, Cond.instanceMethod yX9_chainAt, Cond.selects RX9 yX9_chainAt yX9_chainAt, Cond.initialized RX9, Cond.code yX9_chainAt cX9_chainAt 2 (some (.object "MeridianSeries$Series")), Cond.classLink RX9 287 "java/lang/IndexOutOfBoundsException", Cond.initialized "java/lang/IndexOutOfBoundsException", Cond.fieldLink RX9 21 "MeridianSeries" "store" "LMeridianSeries$Store;", Cond.fieldLink RX9 59 "MeridianSeries$Store" "chains" "Ljava/util/ArrayList;", Cond.classLink RX9 72 "MeridianSeries$Series", Cond.methodLink RX9 63 yJx4a65c_size_8abf5, Cond.instanceMethod yJx4a65c_size_8abf5, Cond.selects RJx4a65c yJx4a65c_size_8abf5 yJx4a65c_size_8abf5, Cond.initialized RJx4a65c, Cond.code yJx4a65c_size_8abf5 cJx4a65c_size_8abf5 1 (some .int), Cond.fieldLink RJx4a65c 48 "java/util/ArrayList" "size" "I", Cond.methodLink RX9 187 yJx4a65c_get_915e3, Cond.instanceMethod yJx4a65c_get_915e3, Cond.selects RJx4a65c yJx4a65c_get_915e3 yJx4a65c_get_915e3, Cond.code yJx4a65c_get_915e3 cJx4a65c_get_915e3 2 (some (.object "java/lang/Object")), Cond.methodLink RJx4a65c 118 yJ15_checkIndex_7cf53, Cond.static yJ15_checkIndex_7cf53, Cond.initialized RJ15]
def wsX9_blocks_r2 : List Cond := [Cond.code yJ15_checkIndex_7cf53 cJ15_checkIndex_7cf53 2 (some .int), Cond.methodLink RJ15 105 yJ3_checkIndex_8e157, Cond.static yJ3_checkIndex_8e157, Cond.initialized RJ3, Cond.code yJ3_checkIndex_8e157 cJ3_checkIndex_8e157 3 (some .int), Cond.methodLink RJx4a65c 123 yJx4a65c_elementData_915e3, Cond.instanceMethod yJx4a65c_elementData_915e3, Cond.selects RJx4a65c yJx4a65c_elementData_915e3 yJx4a65c_elementData_915e3, Cond.code yJx4a65c_elementData_915e3 cJx4a65c_elementData_915e3 2 (some (.object "java/lang/Object")), Cond.fieldLink RJx4a65c 9 "java/util/ArrayList" "elementData" "[Ljava/lang/Object;", Cond.methodLink RX9 144 yX4_blockCount, Cond.instanceMethod yX4_blockCount, Cond.selects RX4 yX4_blockCount yX4_blockCount, Cond.initialized RX4, Cond.code yX4_blockCount cX4_blockCount 1 (some .int), Cond.fieldLink RX4 21 "MeridianSeries$Points" "sealedBlocks" "I"]
def wsX9_blocks : List Cond := .code yX9_blocks cX9_blocks 2 (some .int) :: ((wsX9_blocks_r1 ++ wsX9_blocks_r2) ++ wsX60 ++ wsX90 ++ wsX80 ++ wsJx4a65c0 ++ wsX40 ++ (vx_atS RX9 291 "java/lang/IndexOutOfBoundsException" ["java/lang/RuntimeException", "java/lang/Exception"]).filter goodWord)
def wsX9_needIndex : List Cond := .code yX9_needIndex cX9_needIndex 1 none :: ([.classLink RX9 287 "java/lang/IndexOutOfBoundsException", .initialized "java/lang/IndexOutOfBoundsException"] ++ (vx_atS RX9 291 "java/lang/IndexOutOfBoundsException" ["java/lang/RuntimeException", "java/lang/Exception"]).filter goodWord)
def wsX9_size_r1 : List Cond := [Cond.fieldLink RX9 116 "MeridianSeries$Series" "points" "LMeridianSeries$Points;", Cond.fieldLink RX9 147 "MeridianSeries$Points" "sealedBlocks" "I", Cond.methodLink RX9 101 yX9_chainAt, Cond.instanceMethod yX9_chainAt, Cond.selects RX9 yX9_chainAt yX9_chainAt, Cond.initialized RX9, Cond.code yX9_chainAt cX9_chainAt 2 (some (.object "MeridianSeries$Series")), Cond.classLink RX9 287 "java/lang/IndexOutOfBoundsException", Cond.initialized "java/lang/IndexOutOfBoundsException", Cond.fieldLink RX9 21 "MeridianSeries" "store" "LMeridianSeries$Store;", Cond.fieldLink RX9 59 "MeridianSeries$Store" "chains" "Ljava/util/ArrayList;", Cond.classLink RX9 72 "MeridianSeries$Series", Cond.methodLink RX9 63 yJx4a65c_size_8abf5, Cond.instanceMethod yJx4a65c_size_8abf5, Cond.selects RJx4a65c yJx4a65c_size_8abf5 yJx4a65c_size_8abf5, Cond.initialized RJx4a65c, Cond.code yJx4a65c_size_8abf5 cJx4a65c_size_8abf5 1 (some .int), Cond.fieldLink RJx4a65c 48 "java/util/ArrayList" "size" "I", Cond.methodLink RX9 187 yJx4a65c_get_915e3, Cond.instanceMethod yJx4a65c_get_915e3, Cond.selects RJx4a65c yJx4a65c_get_915e3 yJx4a65c_get_915e3, Cond.code yJx4a65c_get_915e3 cJx4a65c_get_915e3 2 (some (.object "java/lang/Object")), Cond.methodLink RJx4a65c 118 yJ15_checkIndex_7cf53, Cond.static yJ15_checkIndex_7cf53]
def wsX9_size_r2 : List Cond := [Cond.initialized RJ15, Cond.code yJ15_checkIndex_7cf53 cJ15_checkIndex_7cf53 2 (some .int), Cond.methodLink RJ15 105 yJ3_checkIndex_8e157, Cond.static yJ3_checkIndex_8e157, Cond.initialized RJ3, Cond.code yJ3_checkIndex_8e157 cJ3_checkIndex_8e157 3 (some .int), Cond.methodLink RJx4a65c 123 yJx4a65c_elementData_915e3, Cond.instanceMethod yJx4a65c_elementData_915e3, Cond.selects RJx4a65c yJx4a65c_elementData_915e3 yJx4a65c_elementData_915e3, Cond.code yJx4a65c_elementData_915e3 cJx4a65c_elementData_915e3 2 (some (.object "java/lang/Object")), Cond.fieldLink RJx4a65c 9 "java/util/ArrayList" "elementData" "[Ljava/lang/Object;", Cond.methodLink RX9 51 yX9_isIn, Cond.static yX9_isIn, Cond.code yX9_isIn cX9_isIn 4 (some .boolean), Cond.methodLink RX9 150 yX9_needIndex, Cond.static yX9_needIndex, Cond.code yX9_needIndex cX9_needIndex 1 none, Cond.methodLink RX9 153 yX4_sizeOf, Cond.instanceMethod yX4_sizeOf, Cond.selects RX4 yX4_sizeOf yX4_sizeOf, Cond.initialized RX4, Cond.code yX4_sizeOf cX4_sizeOf 2 (some .int), Cond.fieldLink RX4 21 "MeridianSeries$Points" "sealedBlocks" "I", Cond.fieldLink RX4 18 "MeridianSeries$Points" "sizes" "[I"]
def wsX9_size_r3 : List Cond := [Cond.methodLink RX4 34 yX4_openSize, Cond.instanceMethod yX4_openSize, Cond.selects RX4 yX4_openSize yX4_openSize, Cond.code yX4_openSize cX4_openSize 1 (some .int), Cond.fieldLink RX4 31 "MeridianSeries$Points" "amount" "I", Cond.sameField "MeridianSeries$Points" "MeridianSeries$Items" "amount" "I", Cond.fieldLink RX4 25 "MeridianSeries$Points" "sealedPoints" "I"]
def wsX9_size : List Cond := .code yX9_size cX9_size 4 (some .int) :: ((wsX9_size_r1 ++ (wsX9_size_r2 ++ wsX9_size_r3)) ++ wsX60 ++ wsX40 ++ wsX90 ++ wsX80 ++ wsJx4a65c0 ++ wsX00 ++ (vx_atS RX9 291 "java/lang/IndexOutOfBoundsException" ["java/lang/RuntimeException", "java/lang/Exception"]).filter goodWord)
def wsX9_point_r1 : List Cond := [Cond.fieldLink RX9 116 "MeridianSeries$Series" "points" "LMeridianSeries$Points;", Cond.fieldLink RX9 147 "MeridianSeries$Points" "sealedBlocks" "I", Cond.methodLink RX9 101 yX9_chainAt, Cond.instanceMethod yX9_chainAt, Cond.selects RX9 yX9_chainAt yX9_chainAt, Cond.initialized RX9, Cond.code yX9_chainAt cX9_chainAt 2 (some (.object "MeridianSeries$Series")), Cond.classLink RX9 287 "java/lang/IndexOutOfBoundsException", Cond.initialized "java/lang/IndexOutOfBoundsException", Cond.fieldLink RX9 21 "MeridianSeries" "store" "LMeridianSeries$Store;", Cond.fieldLink RX9 59 "MeridianSeries$Store" "chains" "Ljava/util/ArrayList;", Cond.classLink RX9 72 "MeridianSeries$Series", Cond.methodLink RX9 63 yJx4a65c_size_8abf5, Cond.instanceMethod yJx4a65c_size_8abf5, Cond.selects RJx4a65c yJx4a65c_size_8abf5 yJx4a65c_size_8abf5, Cond.initialized RJx4a65c, Cond.code yJx4a65c_size_8abf5 cJx4a65c_size_8abf5 1 (some .int), Cond.fieldLink RJx4a65c 48 "java/util/ArrayList" "size" "I", Cond.methodLink RX9 187 yJx4a65c_get_915e3, Cond.instanceMethod yJx4a65c_get_915e3, Cond.selects RJx4a65c yJx4a65c_get_915e3 yJx4a65c_get_915e3, Cond.code yJx4a65c_get_915e3 cJx4a65c_get_915e3 2 (some (.object "java/lang/Object")), Cond.methodLink RJx4a65c 118 yJ15_checkIndex_7cf53, Cond.static yJ15_checkIndex_7cf53]
def wsX9_point_r2 : List Cond := [Cond.initialized RJ15, Cond.code yJ15_checkIndex_7cf53 cJ15_checkIndex_7cf53 2 (some .int), Cond.methodLink RJ15 105 yJ3_checkIndex_8e157, Cond.static yJ3_checkIndex_8e157, Cond.initialized RJ3, Cond.code yJ3_checkIndex_8e157 cJ3_checkIndex_8e157 3 (some .int), Cond.methodLink RJx4a65c 123 yJx4a65c_elementData_915e3, Cond.instanceMethod yJx4a65c_elementData_915e3, Cond.selects RJx4a65c yJx4a65c_elementData_915e3 yJx4a65c_elementData_915e3, Cond.code yJx4a65c_elementData_915e3 cJx4a65c_elementData_915e3 2 (some (.object "java/lang/Object")), Cond.fieldLink RJx4a65c 9 "java/util/ArrayList" "elementData" "[Ljava/lang/Object;", Cond.methodLink RX9 51 yX9_isIn, Cond.static yX9_isIn, Cond.code yX9_isIn cX9_isIn 4 (some .boolean), Cond.methodLink RX9 150 yX9_needIndex, Cond.static yX9_needIndex, Cond.code yX9_needIndex cX9_needIndex 1 none, Cond.methodLink RX9 153 yX4_sizeOf, Cond.instanceMethod yX4_sizeOf, Cond.selects RX4 yX4_sizeOf yX4_sizeOf, Cond.initialized RX4, Cond.code yX4_sizeOf cX4_sizeOf 2 (some .int), Cond.fieldLink RX4 21 "MeridianSeries$Points" "sealedBlocks" "I", Cond.fieldLink RX4 18 "MeridianSeries$Points" "sizes" "[I"]
def wsX9_point_r3 : List Cond := [Cond.methodLink RX4 34 yX4_openSize, Cond.instanceMethod yX4_openSize, Cond.selects RX4 yX4_openSize yX4_openSize, Cond.code yX4_openSize cX4_openSize 1 (some .int), Cond.fieldLink RX4 31 "MeridianSeries$Points" "amount" "I", Cond.sameField "MeridianSeries$Points" "MeridianSeries$Items" "amount" "I", Cond.fieldLink RX4 25 "MeridianSeries$Points" "sealedPoints" "I", Cond.methodLink RX9 157 yX4_startOf, Cond.instanceMethod yX4_startOf, Cond.selects RX4 yX4_startOf yX4_startOf, Cond.code yX4_startOf cX4_startOf 4 (some .int), Cond.methodLink RX4 38 yX4_sizeOf, Cond.methodLink RX9 160 yX4_number, Cond.instanceMethod yX4_number, Cond.selects RX4 yX4_number yX4_number, Cond.code yX4_number cX4_number 3 (some .int), Cond.fieldLink RX4 11 "MeridianSeries$Points" "times" "[I", Cond.fieldLink RX4 15 "MeridianSeries$Points" "values" "[I"]
def wsX9_point : List Cond := .code yX9_point cX9_point 6 (some .int) :: ((wsX9_point_r1 ++ (wsX9_point_r2 ++ wsX9_point_r3)) ++ wsX60 ++ wsX40 ++ wsX90 ++ wsX80 ++ wsJx4a65c0 ++ wsX00 ++ (vx_atS RX9 291 "java/lang/IndexOutOfBoundsException" ["java/lang/RuntimeException", "java/lang/Exception"]).filter goodWord)
def wsX9_bits_r1 : List Cond := [Cond.fieldLink RX9 116 "MeridianSeries$Series" "points" "LMeridianSeries$Points;", Cond.fieldLink RX9 147 "MeridianSeries$Points" "sealedBlocks" "I", Cond.fieldLink RX9 31 "MeridianSeries" "packer" "LMeridianSeries$Packer;", Cond.methodLink RX9 101 yX9_chainAt, Cond.instanceMethod yX9_chainAt, Cond.selects RX9 yX9_chainAt yX9_chainAt, Cond.initialized RX9, Cond.code yX9_chainAt cX9_chainAt 2 (some (.object "MeridianSeries$Series")), Cond.classLink RX9 287 "java/lang/IndexOutOfBoundsException", Cond.initialized "java/lang/IndexOutOfBoundsException", Cond.fieldLink RX9 21 "MeridianSeries" "store" "LMeridianSeries$Store;", Cond.fieldLink RX9 59 "MeridianSeries$Store" "chains" "Ljava/util/ArrayList;", Cond.classLink RX9 72 "MeridianSeries$Series", Cond.methodLink RX9 63 yJx4a65c_size_8abf5, Cond.instanceMethod yJx4a65c_size_8abf5, Cond.selects RJx4a65c yJx4a65c_size_8abf5 yJx4a65c_size_8abf5, Cond.initialized RJx4a65c, Cond.code yJx4a65c_size_8abf5 cJx4a65c_size_8abf5 1 (some .int), Cond.fieldLink RJx4a65c 48 "java/util/ArrayList" "size" "I", Cond.methodLink RX9 187 yJx4a65c_get_915e3, Cond.instanceMethod yJx4a65c_get_915e3, Cond.selects RJx4a65c yJx4a65c_get_915e3 yJx4a65c_get_915e3, Cond.code yJx4a65c_get_915e3 cJx4a65c_get_915e3 2 (some (.object "java/lang/Object")), Cond.methodLink RJx4a65c 118 yJ15_checkIndex_7cf53]
def wsX9_bits_r2 : List Cond := [Cond.static yJ15_checkIndex_7cf53, Cond.initialized RJ15, Cond.code yJ15_checkIndex_7cf53 cJ15_checkIndex_7cf53 2 (some .int), Cond.methodLink RJ15 105 yJ3_checkIndex_8e157, Cond.static yJ3_checkIndex_8e157, Cond.initialized RJ3, Cond.code yJ3_checkIndex_8e157 cJ3_checkIndex_8e157 3 (some .int), Cond.methodLink RJx4a65c 123 yJx4a65c_elementData_915e3, Cond.instanceMethod yJx4a65c_elementData_915e3, Cond.selects RJx4a65c yJx4a65c_elementData_915e3 yJx4a65c_elementData_915e3, Cond.code yJx4a65c_elementData_915e3 cJx4a65c_elementData_915e3 2 (some (.object "java/lang/Object")), Cond.fieldLink RJx4a65c 9 "java/util/ArrayList" "elementData" "[Ljava/lang/Object;", Cond.methodLink RX9 51 yX9_isIn, Cond.static yX9_isIn, Cond.code yX9_isIn cX9_isIn 4 (some .boolean), Cond.methodLink RX9 150 yX9_needIndex, Cond.static yX9_needIndex, Cond.code yX9_needIndex cX9_needIndex 1 none, Cond.methodLink RX9 164 yX3_pack, Cond.instanceMethod yX3_pack, Cond.selects RX3 yX3_pack yX3_pack, Cond.initialized RX3, Cond.code yX3_pack cX3_pack 6 (some .int), Cond.fieldLink RX3 31 "MeridianSeries$Points" "sealedBlocks" "I"]
def wsX9_bits_r3 : List Cond := [Cond.fieldLink RX3 15 "MeridianSeries$Packer" "length" "I", Cond.methodLink RX3 36 yX4_startOf, Cond.instanceMethod yX4_startOf, Cond.selects RX4 yX4_startOf yX4_startOf, Cond.initialized RX4, Cond.code yX4_startOf cX4_startOf 4 (some .int), Cond.fieldLink RX4 21 "MeridianSeries$Points" "sealedBlocks" "I", Cond.methodLink RX4 38 yX4_sizeOf, Cond.instanceMethod yX4_sizeOf, Cond.selects RX4 yX4_sizeOf yX4_sizeOf, Cond.code yX4_sizeOf cX4_sizeOf 2 (some .int), Cond.fieldLink RX4 18 "MeridianSeries$Points" "sizes" "[I", Cond.methodLink RX4 34 yX4_openSize, Cond.instanceMethod yX4_openSize, Cond.selects RX4 yX4_openSize yX4_openSize, Cond.code yX4_openSize cX4_openSize 1 (some .int), Cond.fieldLink RX4 31 "MeridianSeries$Points" "amount" "I", Cond.sameField "MeridianSeries$Points" "MeridianSeries$Items" "amount" "I", Cond.fieldLink RX4 25 "MeridianSeries$Points" "sealedPoints" "I", Cond.methodLink RX3 40 yX4_sizeOf, Cond.methodLink RX3 43 yX3_begin, Cond.instanceMethod yX3_begin, Cond.selects RX3 yX3_begin yX3_begin, Cond.code yX3_begin cX3_begin 2 none]
def wsX9_bits_r4 : List Cond := [Cond.fieldLink RX3 11 "MeridianSeries$Packer" "words" "[I", Cond.fieldLink RX3 19 "MeridianSeries$Packer" "packed" "I", Cond.methodLink RX3 72 yJ7_fill_53178, Cond.static yJ7_fill_53178, Cond.initialized RJ7, Cond.code yJ7_fill_53178 cJ7_fill_53178 4 none, Cond.methodLink RX3 78 yX3_write, Cond.instanceMethod yX3_write, Cond.selects RX3 yX3_write yX3_write, Cond.code yX3_write cX3_write 5 none, Cond.methodLink RX3 47 yX4_number, Cond.instanceMethod yX4_number, Cond.selects RX4 yX4_number yX4_number, Cond.code yX4_number cX4_number 3 (some .int), Cond.fieldLink RX4 11 "MeridianSeries$Points" "times" "[I", Cond.fieldLink RX4 15 "MeridianSeries$Points" "values" "[I", Cond.methodLink RX3 51 yX3_add, Cond.instanceMethod yX3_add, Cond.selects RX3 yX3_add yX3_add, Cond.code yX3_add cX3_add 4 none, Cond.constant RX3 81 (1048576), Cond.fieldLink RX3 25 "MeridianSeries$Packer" "lastStep" "I", Cond.fieldLink RX3 22 "MeridianSeries$Packer" "lastTime" "I", Cond.fieldLink RX3 28 "MeridianSeries$Packer" "lastValue" "I"]
def wsX9_bits_r5 : List Cond := [Cond.methodLink RX3 82 yX3_addTime, Cond.instanceMethod yX3_addTime, Cond.selects RX3 yX3_addTime yX3_addTime, Cond.code yX3_addTime cX3_addTime 2 none, Cond.methodLink RX3 85 yX3_addValue, Cond.instanceMethod yX3_addValue, Cond.selects RX3 yX3_addValue yX3_addValue, Cond.code yX3_addValue cX3_addValue 2 none, Cond.constant RX3 92 (262144)]
def wsX9_bits : List Cond := .code yX9_bits cX9_bits 4 (some .int) :: ((wsX9_bits_r1 ++ (wsX9_bits_r2 ++ (wsX9_bits_r3 ++ (wsX9_bits_r4 ++ wsX9_bits_r5)))) ++ wsX60 ++ wsX40 ++ wsX90 ++ wsX80 ++ wsJx4a65c0 ++ wsX30 ++ wsX00 ++ (vx_atS RX9 291 "java/lang/IndexOutOfBoundsException" ["java/lang/RuntimeException", "java/lang/Exception"]).filter goodWord)
def wsX9_buckets_r1 : List Cond := [Cond.fieldLink RX9 178 "MeridianSeries$Buckets" "amount" "I", Cond.sameField "MeridianSeries$Buckets" "MeridianSeries$Items" "amount" "I", Cond.methodLink RX9 101 yX9_chainAt, Cond.instanceMethod yX9_chainAt, Cond.selects RX9 yX9_chainAt yX9_chainAt, Cond.initialized RX9, Cond.code yX9_chainAt cX9_chainAt 2 (some (.object "MeridianSeries$Series")), Cond.classLink RX9 287 "java/lang/IndexOutOfBoundsException", Cond.initialized "java/lang/IndexOutOfBoundsException", Cond.fieldLink RX9 21 "MeridianSeries" "store" "LMeridianSeries$Store;", Cond.fieldLink RX9 59 "MeridianSeries$Store" "chains" "Ljava/util/ArrayList;", Cond.classLink RX9 72 "MeridianSeries$Series", Cond.methodLink RX9 63 yJx4a65c_size_8abf5, Cond.instanceMethod yJx4a65c_size_8abf5, Cond.selects RJx4a65c yJx4a65c_size_8abf5 yJx4a65c_size_8abf5, Cond.initialized RJx4a65c, Cond.code yJx4a65c_size_8abf5 cJx4a65c_size_8abf5 1 (some .int), Cond.fieldLink RJx4a65c 48 "java/util/ArrayList" "size" "I", Cond.methodLink RX9 187 yJx4a65c_get_915e3, Cond.instanceMethod yJx4a65c_get_915e3, Cond.selects RJx4a65c yJx4a65c_get_915e3 yJx4a65c_get_915e3, Cond.code yJx4a65c_get_915e3 cJx4a65c_get_915e3 2 (some (.object "java/lang/Object")), Cond.methodLink RJx4a65c 118 yJ15_checkIndex_7cf53, Cond.static yJ15_checkIndex_7cf53]
def wsX9_buckets_r2 : List Cond := [Cond.initialized RJ15, Cond.code yJ15_checkIndex_7cf53 cJ15_checkIndex_7cf53 2 (some .int), Cond.methodLink RJ15 105 yJ3_checkIndex_8e157, Cond.static yJ3_checkIndex_8e157, Cond.initialized RJ3, Cond.code yJ3_checkIndex_8e157 cJ3_checkIndex_8e157 3 (some .int), Cond.methodLink RJx4a65c 123 yJx4a65c_elementData_915e3, Cond.instanceMethod yJx4a65c_elementData_915e3, Cond.selects RJx4a65c yJx4a65c_elementData_915e3 yJx4a65c_elementData_915e3, Cond.code yJx4a65c_elementData_915e3 cJx4a65c_elementData_915e3 2 (some (.object "java/lang/Object")), Cond.fieldLink RJx4a65c 9 "java/util/ArrayList" "elementData" "[Ljava/lang/Object;", Cond.methodLink RX9 174 yX6_bucketsOf, Cond.instanceMethod yX6_bucketsOf, Cond.selects RX6 yX6_bucketsOf yX6_bucketsOf, Cond.initialized RX6, Cond.code yX6_bucketsOf cX6_bucketsOf 2 (some (.object "MeridianSeries$Buckets")), Cond.fieldLink RX6 25 "MeridianSeries$Series" "coarse" "LMeridianSeries$Buckets;", Cond.fieldLink RX6 21 "MeridianSeries$Series" "fine" "LMeridianSeries$Buckets;"]
def wsX9_buckets : List Cond := .code yX9_buckets cX9_buckets 3 (some .int) :: ((wsX9_buckets_r1 ++ wsX9_buckets_r2) ++ wsX00 ++ wsX40 ++ wsX90 ++ wsX80 ++ wsJx4a65c0 ++ wsX60 ++ (vx_atS RX9 291 "java/lang/IndexOutOfBoundsException" ["java/lang/RuntimeException", "java/lang/Exception"]).filter goodWord)
def wsX9_ofBucket_r1 : List Cond := [Cond.fieldLink RX9 178 "MeridianSeries$Buckets" "amount" "I", Cond.sameField "MeridianSeries$Buckets" "MeridianSeries$Items" "amount" "I", Cond.methodLink RX9 101 yX9_chainAt, Cond.instanceMethod yX9_chainAt, Cond.selects RX9 yX9_chainAt yX9_chainAt, Cond.initialized RX9, Cond.code yX9_chainAt cX9_chainAt 2 (some (.object "MeridianSeries$Series")), Cond.classLink RX9 287 "java/lang/IndexOutOfBoundsException", Cond.initialized "java/lang/IndexOutOfBoundsException", Cond.fieldLink RX9 21 "MeridianSeries" "store" "LMeridianSeries$Store;", Cond.fieldLink RX9 59 "MeridianSeries$Store" "chains" "Ljava/util/ArrayList;", Cond.classLink RX9 72 "MeridianSeries$Series", Cond.methodLink RX9 63 yJx4a65c_size_8abf5, Cond.instanceMethod yJx4a65c_size_8abf5, Cond.selects RJx4a65c yJx4a65c_size_8abf5 yJx4a65c_size_8abf5, Cond.initialized RJx4a65c, Cond.code yJx4a65c_size_8abf5 cJx4a65c_size_8abf5 1 (some .int), Cond.fieldLink RJx4a65c 48 "java/util/ArrayList" "size" "I", Cond.methodLink RX9 187 yJx4a65c_get_915e3, Cond.instanceMethod yJx4a65c_get_915e3, Cond.selects RJx4a65c yJx4a65c_get_915e3 yJx4a65c_get_915e3, Cond.code yJx4a65c_get_915e3 cJx4a65c_get_915e3 2 (some (.object "java/lang/Object")), Cond.methodLink RJx4a65c 118 yJ15_checkIndex_7cf53, Cond.static yJ15_checkIndex_7cf53]
def wsX9_ofBucket_r2 : List Cond := [Cond.initialized RJ15, Cond.code yJ15_checkIndex_7cf53 cJ15_checkIndex_7cf53 2 (some .int), Cond.methodLink RJ15 105 yJ3_checkIndex_8e157, Cond.static yJ3_checkIndex_8e157, Cond.initialized RJ3, Cond.code yJ3_checkIndex_8e157 cJ3_checkIndex_8e157 3 (some .int), Cond.methodLink RJx4a65c 123 yJx4a65c_elementData_915e3, Cond.instanceMethod yJx4a65c_elementData_915e3, Cond.selects RJx4a65c yJx4a65c_elementData_915e3 yJx4a65c_elementData_915e3, Cond.code yJx4a65c_elementData_915e3 cJx4a65c_elementData_915e3 2 (some (.object "java/lang/Object")), Cond.fieldLink RJx4a65c 9 "java/util/ArrayList" "elementData" "[Ljava/lang/Object;", Cond.methodLink RX9 174 yX6_bucketsOf, Cond.instanceMethod yX6_bucketsOf, Cond.selects RX6 yX6_bucketsOf yX6_bucketsOf, Cond.initialized RX6, Cond.code yX6_bucketsOf cX6_bucketsOf 2 (some (.object "MeridianSeries$Buckets")), Cond.fieldLink RX6 25 "MeridianSeries$Series" "coarse" "LMeridianSeries$Buckets;", Cond.fieldLink RX6 21 "MeridianSeries$Series" "fine" "LMeridianSeries$Buckets;", Cond.methodLink RX9 51 yX9_isIn, Cond.static yX9_isIn, Cond.code yX9_isIn cX9_isIn 4 (some .boolean), Cond.methodLink RX9 150 yX9_needIndex, Cond.static yX9_needIndex, Cond.code yX9_needIndex cX9_needIndex 1 none]
def wsX9_ofBucket_r3 : List Cond := [Cond.methodLink RX9 55 yX9_needArgument, Cond.static yX9_needArgument, Cond.code yX9_needArgument cX9_needArgument 1 none, Cond.classLink RX9 280 "java/lang/IllegalArgumentException", Cond.initialized "java/lang/IllegalArgumentException", Cond.methodLink RX9 183 yX0_number, Cond.instanceMethod yX0_number, Cond.selects RX0 yX0_number yX0_number, Cond.initialized RX0, Cond.code yX0_number cX0_number 4 (some .int), Cond.fieldLink RX0 11 "MeridianSeries$Buckets" "cells" "[I"]
def wsX9_ofBucket : List Cond := .code yX9_ofBucket cX9_ofBucket 6 (some .int) :: ((wsX9_ofBucket_r1 ++ (wsX9_ofBucket_r2 ++ wsX9_ofBucket_r3)) ++ wsX00 ++ wsX40 ++ wsX90 ++ wsX80 ++ wsJx4a65c0 ++ wsX60 ++ (vx_atS RX9 291 "java/lang/IndexOutOfBoundsException" ["java/lang/RuntimeException", "java/lang/Exception"]).filter goodWord ++ (vx_atS RX9 284 "java/lang/IllegalArgumentException" ["java/lang/RuntimeException", "java/lang/Exception"]).filter goodWord)
def wsX9_items_r1 : List Cond := [Cond.methodLink RX9 101 yX9_chainAt, Cond.instanceMethod yX9_chainAt, Cond.selects RX9 yX9_chainAt yX9_chainAt, Cond.initialized RX9, Cond.code yX9_chainAt cX9_chainAt 2 (some (.object "MeridianSeries$Series")), Cond.classLink RX9 287 "java/lang/IndexOutOfBoundsException", Cond.initialized "java/lang/IndexOutOfBoundsException", Cond.fieldLink RX9 21 "MeridianSeries" "store" "LMeridianSeries$Store;", Cond.fieldLink RX9 59 "MeridianSeries$Store" "chains" "Ljava/util/ArrayList;", Cond.classLink RX9 72 "MeridianSeries$Series", Cond.methodLink RX9 63 yJx4a65c_size_8abf5, Cond.instanceMethod yJx4a65c_size_8abf5, Cond.selects RJx4a65c yJx4a65c_size_8abf5 yJx4a65c_size_8abf5, Cond.initialized RJx4a65c, Cond.code yJx4a65c_size_8abf5 cJx4a65c_size_8abf5 1 (some .int), Cond.fieldLink RJx4a65c 48 "java/util/ArrayList" "size" "I", Cond.methodLink RX9 187 yJx4a65c_get_915e3, Cond.instanceMethod yJx4a65c_get_915e3, Cond.selects RJx4a65c yJx4a65c_get_915e3 yJx4a65c_get_915e3, Cond.code yJx4a65c_get_915e3 cJx4a65c_get_915e3 2 (some (.object "java/lang/Object")), Cond.methodLink RJx4a65c 118 yJ15_checkIndex_7cf53, Cond.static yJ15_checkIndex_7cf53, Cond.initialized RJ15, Cond.code yJ15_checkIndex_7cf53 cJ15_checkIndex_7cf53 2 (some .int)]
def wsX9_items_r2 : List Cond := [Cond.methodLink RJ15 105 yJ3_checkIndex_8e157, Cond.static yJ3_checkIndex_8e157, Cond.initialized RJ3, Cond.code yJ3_checkIndex_8e157 cJ3_checkIndex_8e157 3 (some .int), Cond.methodLink RJx4a65c 123 yJx4a65c_elementData_915e3, Cond.instanceMethod yJx4a65c_elementData_915e3, Cond.selects RJx4a65c yJx4a65c_elementData_915e3 yJx4a65c_elementData_915e3, Cond.code yJx4a65c_elementData_915e3 cJx4a65c_elementData_915e3 2 (some (.object "java/lang/Object")), Cond.fieldLink RJx4a65c 9 "java/util/ArrayList" "elementData" "[Ljava/lang/Object;", Cond.methodLink RX9 184 yX6_itemCount, Cond.instanceMethod yX6_itemCount, Cond.selects RX6 yX6_itemCount yX6_itemCount, Cond.initialized RX6, Cond.code yX6_itemCount cX6_itemCount 1 (some .int), Cond.fieldLink RX6 25 "MeridianSeries$Series" "coarse" "LMeridianSeries$Buckets;", Cond.fieldLink RX6 79 "MeridianSeries$Buckets" "amount" "I", Cond.sameField "MeridianSeries$Buckets" "MeridianSeries$Items" "amount" "I", Cond.fieldLink RX6 21 "MeridianSeries$Series" "fine" "LMeridianSeries$Buckets;", Cond.fieldLink RX6 12 "MeridianSeries$Series" "points" "LMeridianSeries$Points;", Cond.fieldLink RX6 108 "MeridianSeries$Points" "amount" "I", Cond.sameField "MeridianSeries$Points" "MeridianSeries$Items" "amount" "I"]
def wsX9_items : List Cond := .code yX9_items cX9_items 2 (some .int) :: ((wsX9_items_r1 ++ wsX9_items_r2) ++ wsX90 ++ wsX80 ++ wsJx4a65c0 ++ wsX60 ++ wsX00 ++ wsX40 ++ (vx_atS RX9 291 "java/lang/IndexOutOfBoundsException" ["java/lang/RuntimeException", "java/lang/Exception"]).filter goodWord)
def wsX9_toldByQuery_r1 : List Cond := [Cond.fieldLink RX9 35 "MeridianSeries" "queryFrom" "I", Cond.fieldLink RX9 39 "MeridianSeries" "queryStep" "I", Cond.fieldLink RX9 42 "MeridianSeries" "queryWhat" "I", Cond.fieldLink RX9 45 "MeridianSeries" "queryFill" "I", Cond.methodLink RX9 305 yX6_tell, Cond.instanceMethod yX6_tell, Cond.selects RX6 yX6_tell yX6_tell, Cond.initialized RX6, Cond.code yX6_tell cX6_tell 7 (some .int), Cond.methodLink RX6 115 yX6_firstItemFrom, Cond.instanceMethod yX6_firstItemFrom, Cond.selects RX6 yX6_firstItemFrom yX6_firstItemFrom, Cond.code yX6_firstItemFrom cX6_firstItemFrom 6 (some .int), Cond.methodLink RX6 109 yX6_itemCount, Cond.instanceMethod yX6_itemCount, Cond.selects RX6 yX6_itemCount yX6_itemCount, Cond.code yX6_itemCount cX6_itemCount 1 (some .int), Cond.fieldLink RX6 25 "MeridianSeries$Series" "coarse" "LMeridianSeries$Buckets;", Cond.fieldLink RX6 79 "MeridianSeries$Buckets" "amount" "I", Cond.sameField "MeridianSeries$Buckets" "MeridianSeries$Items" "amount" "I", Cond.fieldLink RX6 21 "MeridianSeries$Series" "fine" "LMeridianSeries$Buckets;", Cond.fieldLink RX6 12 "MeridianSeries$Series" "points" "LMeridianSeries$Points;", Cond.fieldLink RX6 108 "MeridianSeries$Points" "amount" "I", Cond.sameField "MeridianSeries$Points" "MeridianSeries$Items" "amount" "I"]
def wsX9_toldByQuery_r2 : List Cond := [Cond.methodLink RX6 112 yX6_ofItem, Cond.instanceMethod yX6_ofItem, Cond.selects RX6 yX6_ofItem yX6_ofItem, Cond.code yX6_ofItem cX6_ofItem 4 (some .int), Cond.methodLink RX6 82 yX0_number, Cond.instanceMethod yX0_number, Cond.selects RX0 yX0_number yX0_number, Cond.initialized RX0, Cond.code yX0_number cX0_number 4 (some .int), Cond.fieldLink RX0 11 "MeridianSeries$Buckets" "cells" "[I", Cond.methodLink RX6 88 yX4_number, Cond.instanceMethod yX4_number, Cond.selects RX4 yX4_number yX4_number, Cond.initialized RX4, Cond.code yX4_number cX4_number 3 (some .int), Cond.fieldLink RX4 11 "MeridianSeries$Points" "times" "[I", Cond.fieldLink RX4 15 "MeridianSeries$Points" "values" "[I", Cond.methodLink RX6 118 yX6_toldOfGap, Cond.instanceMethod yX6_toldOfGap, Cond.selects RX6 yX6_toldOfGap yX6_toldOfGap, Cond.code yX6_toldOfGap cX6_toldOfGap 5 (some .int), Cond.constant RX6 134 (-1000000), Cond.methodLink RX6 135 yX6_onLine, Cond.instanceMethod yX6_onLine]
def wsX9_toldByQuery_r3 : List Cond := [Cond.selects RX6 yX6_onLine yX6_onLine, Cond.code yX6_onLine cX6_onLine 9 (some .int), Cond.methodLink RX6 122 yX6_total, Cond.instanceMethod yX6_total, Cond.selects RX6 yX6_total yX6_total, Cond.code yX6_total cX6_total 6 (some .int), Cond.methodLink RX6 125 yX6_least, Cond.instanceMethod yX6_least, Cond.selects RX6 yX6_least yX6_least, Cond.code yX6_least cX6_least 5 (some .int), Cond.methodLink RX6 138 Lib.Math.min.name, Cond.static Lib.Math.min.name, Cond.initialized "java/lang/Math", Cond.code Lib.Math.min.name Lib.Math.min.code 2 (some .int), Cond.methodLink RX6 128 yX6_greatest, Cond.instanceMethod yX6_greatest, Cond.selects RX6 yX6_greatest yX6_greatest, Cond.code yX6_greatest cX6_greatest 5 (some .int), Cond.methodLink RX6 143 Lib.Math.max.name, Cond.static Lib.Math.max.name, Cond.code Lib.Math.max.name Lib.Math.max.code 2 (some .int), Cond.methodLink RX6 131 yX6_quotient, Cond.static yX6_quotient, Cond.code yX6_quotient cX6_quotient 2 (some .int)]
def wsX9_toldByQuery : List Cond := .code yX9_toldByQuery cX9_toldByQuery 4 (some .int) :: ((wsX9_toldByQuery_r1 ++ (wsX9_toldByQuery_r2 ++ wsX9_toldByQuery_r3)) ++ wsX90 ++ wsX60 ++ wsX00 ++ wsX40)
def wsX9_ask_r1 : List Cond := [Cond.methodLink RX9 101 yX9_chainAt, Cond.instanceMethod yX9_chainAt, Cond.selects RX9 yX9_chainAt yX9_chainAt, Cond.initialized RX9, Cond.code yX9_chainAt cX9_chainAt 2 (some (.object "MeridianSeries$Series")), Cond.classLink RX9 287 "java/lang/IndexOutOfBoundsException", Cond.initialized "java/lang/IndexOutOfBoundsException", Cond.fieldLink RX9 21 "MeridianSeries" "store" "LMeridianSeries$Store;", Cond.fieldLink RX9 59 "MeridianSeries$Store" "chains" "Ljava/util/ArrayList;", Cond.classLink RX9 72 "MeridianSeries$Series", Cond.methodLink RX9 63 yJx4a65c_size_8abf5, Cond.instanceMethod yJx4a65c_size_8abf5, Cond.selects RJx4a65c yJx4a65c_size_8abf5 yJx4a65c_size_8abf5, Cond.initialized RJx4a65c, Cond.code yJx4a65c_size_8abf5 cJx4a65c_size_8abf5 1 (some .int), Cond.fieldLink RJx4a65c 48 "java/util/ArrayList" "size" "I", Cond.methodLink RX9 187 yJx4a65c_get_915e3, Cond.instanceMethod yJx4a65c_get_915e3, Cond.selects RJx4a65c yJx4a65c_get_915e3 yJx4a65c_get_915e3, Cond.code yJx4a65c_get_915e3 cJx4a65c_get_915e3 2 (some (.object "java/lang/Object")), Cond.methodLink RJx4a65c 118 yJ15_checkIndex_7cf53, Cond.static yJ15_checkIndex_7cf53, Cond.initialized RJ15, Cond.code yJ15_checkIndex_7cf53 cJ15_checkIndex_7cf53 2 (some .int)]
def wsX9_ask_r2 : List Cond := [Cond.methodLink RJ15 105 yJ3_checkIndex_8e157, Cond.static yJ3_checkIndex_8e157, Cond.initialized RJ3, Cond.code yJ3_checkIndex_8e157 cJ3_checkIndex_8e157 3 (some .int), Cond.methodLink RJx4a65c 123 yJx4a65c_elementData_915e3, Cond.instanceMethod yJx4a65c_elementData_915e3, Cond.selects RJx4a65c yJx4a65c_elementData_915e3 yJx4a65c_elementData_915e3, Cond.code yJx4a65c_elementData_915e3 cJx4a65c_elementData_915e3 2 (some (.object "java/lang/Object")), Cond.fieldLink RJx4a65c 9 "java/util/ArrayList" "elementData" "[Ljava/lang/Object;", Cond.methodLink RX9 51 yX9_isIn, Cond.static yX9_isIn, Cond.code yX9_isIn cX9_isIn 4 (some .boolean), Cond.methodLink RX9 55 yX9_needArgument, Cond.static yX9_needArgument, Cond.code yX9_needArgument cX9_needArgument 1 none, Cond.classLink RX9 280 "java/lang/IllegalArgumentException", Cond.initialized "java/lang/IllegalArgumentException", Cond.methodLink RX9 196 yX9_toldByQuery, Cond.instanceMethod yX9_toldByQuery, Cond.selects RX9 yX9_toldByQuery yX9_toldByQuery, Cond.code yX9_toldByQuery cX9_toldByQuery 4 (some .int), Cond.fieldLink RX9 35 "MeridianSeries" "queryFrom" "I", Cond.fieldLink RX9 39 "MeridianSeries" "queryStep" "I", Cond.fieldLink RX9 42 "MeridianSeries" "queryWhat" "I"]
def wsX9_ask_r3 : List Cond := [Cond.fieldLink RX9 45 "MeridianSeries" "queryFill" "I", Cond.methodLink RX9 305 yX6_tell, Cond.instanceMethod yX6_tell, Cond.selects RX6 yX6_tell yX6_tell, Cond.initialized RX6, Cond.code yX6_tell cX6_tell 7 (some .int), Cond.methodLink RX6 115 yX6_firstItemFrom, Cond.instanceMethod yX6_firstItemFrom, Cond.selects RX6 yX6_firstItemFrom yX6_firstItemFrom, Cond.code yX6_firstItemFrom cX6_firstItemFrom 6 (some .int), Cond.methodLink RX6 109 yX6_itemCount, Cond.instanceMethod yX6_itemCount, Cond.selects RX6 yX6_itemCount yX6_itemCount, Cond.code yX6_itemCount cX6_itemCount 1 (some .int), Cond.fieldLink RX6 25 "MeridianSeries$Series" "coarse" "LMeridianSeries$Buckets;", Cond.fieldLink RX6 79 "MeridianSeries$Buckets" "amount" "I", Cond.sameField "MeridianSeries$Buckets" "MeridianSeries$Items" "amount" "I", Cond.fieldLink RX6 21 "MeridianSeries$Series" "fine" "LMeridianSeries$Buckets;", Cond.fieldLink RX6 12 "MeridianSeries$Series" "points" "LMeridianSeries$Points;", Cond.fieldLink RX6 108 "MeridianSeries$Points" "amount" "I", Cond.sameField "MeridianSeries$Points" "MeridianSeries$Items" "amount" "I", Cond.methodLink RX6 112 yX6_ofItem, Cond.instanceMethod yX6_ofItem, Cond.selects RX6 yX6_ofItem yX6_ofItem]
def wsX9_ask_r4 : List Cond := [Cond.code yX6_ofItem cX6_ofItem 4 (some .int), Cond.methodLink RX6 82 yX0_number, Cond.instanceMethod yX0_number, Cond.selects RX0 yX0_number yX0_number, Cond.initialized RX0, Cond.code yX0_number cX0_number 4 (some .int), Cond.fieldLink RX0 11 "MeridianSeries$Buckets" "cells" "[I", Cond.methodLink RX6 88 yX4_number, Cond.instanceMethod yX4_number, Cond.selects RX4 yX4_number yX4_number, Cond.initialized RX4, Cond.code yX4_number cX4_number 3 (some .int), Cond.fieldLink RX4 11 "MeridianSeries$Points" "times" "[I", Cond.fieldLink RX4 15 "MeridianSeries$Points" "values" "[I", Cond.methodLink RX6 118 yX6_toldOfGap, Cond.instanceMethod yX6_toldOfGap, Cond.selects RX6 yX6_toldOfGap yX6_toldOfGap, Cond.code yX6_toldOfGap cX6_toldOfGap 5 (some .int), Cond.constant RX6 134 (-1000000), Cond.methodLink RX6 135 yX6_onLine, Cond.instanceMethod yX6_onLine, Cond.selects RX6 yX6_onLine yX6_onLine, Cond.code yX6_onLine cX6_onLine 9 (some .int), Cond.methodLink RX6 122 yX6_total]
def wsX9_ask_r5 : List Cond := [Cond.instanceMethod yX6_total, Cond.selects RX6 yX6_total yX6_total, Cond.code yX6_total cX6_total 6 (some .int), Cond.methodLink RX6 125 yX6_least, Cond.instanceMethod yX6_least, Cond.selects RX6 yX6_least yX6_least, Cond.code yX6_least cX6_least 5 (some .int), Cond.methodLink RX6 138 Lib.Math.min.name, Cond.static Lib.Math.min.name, Cond.initialized "java/lang/Math", Cond.code Lib.Math.min.name Lib.Math.min.code 2 (some .int), Cond.methodLink RX6 128 yX6_greatest, Cond.instanceMethod yX6_greatest, Cond.selects RX6 yX6_greatest yX6_greatest, Cond.code yX6_greatest cX6_greatest 5 (some .int), Cond.methodLink RX6 143 Lib.Math.max.name, Cond.static Lib.Math.max.name, Cond.code Lib.Math.max.name Lib.Math.max.code 2 (some .int), Cond.methodLink RX6 131 yX6_quotient, Cond.static yX6_quotient, Cond.code yX6_quotient cX6_quotient 2 (some .int)]
def wsX9_ask : List Cond := .code yX9_ask cX9_ask 4 (some .int) :: ((wsX9_ask_r1 ++ (wsX9_ask_r2 ++ (wsX9_ask_r3 ++ (wsX9_ask_r4 ++ wsX9_ask_r5)))) ++ wsX90 ++ wsX80 ++ wsJx4a65c0 ++ wsX60 ++ wsX00 ++ wsX40 ++ (vx_atS RX9 291 "java/lang/IndexOutOfBoundsException" ["java/lang/RuntimeException", "java/lang/Exception"]).filter goodWord ++ (vx_atS RX9 284 "java/lang/IllegalArgumentException" ["java/lang/RuntimeException", "java/lang/Exception"]).filter goodWord)
def wsX9_lastAt_r1 : List Cond := [Cond.constant RX9 100 (99999), Cond.methodLink RX9 101 yX9_chainAt, Cond.instanceMethod yX9_chainAt, Cond.selects RX9 yX9_chainAt yX9_chainAt, Cond.initialized RX9, Cond.code yX9_chainAt cX9_chainAt 2 (some (.object "MeridianSeries$Series")), Cond.classLink RX9 287 "java/lang/IndexOutOfBoundsException", Cond.initialized "java/lang/IndexOutOfBoundsException", Cond.fieldLink RX9 21 "MeridianSeries" "store" "LMeridianSeries$Store;", Cond.fieldLink RX9 59 "MeridianSeries$Store" "chains" "Ljava/util/ArrayList;", Cond.classLink RX9 72 "MeridianSeries$Series", Cond.methodLink RX9 63 yJx4a65c_size_8abf5, Cond.instanceMethod yJx4a65c_size_8abf5, Cond.selects RJx4a65c yJx4a65c_size_8abf5 yJx4a65c_size_8abf5, Cond.initialized RJx4a65c, Cond.code yJx4a65c_size_8abf5 cJx4a65c_size_8abf5 1 (some .int), Cond.fieldLink RJx4a65c 48 "java/util/ArrayList" "size" "I", Cond.methodLink RX9 187 yJx4a65c_get_915e3, Cond.instanceMethod yJx4a65c_get_915e3, Cond.selects RJx4a65c yJx4a65c_get_915e3 yJx4a65c_get_915e3, Cond.code yJx4a65c_get_915e3 cJx4a65c_get_915e3 2 (some (.object "java/lang/Object")), Cond.methodLink RJx4a65c 118 yJ15_checkIndex_7cf53, Cond.static yJ15_checkIndex_7cf53, Cond.initialized RJ15]
def wsX9_lastAt_r2 : List Cond := [Cond.code yJ15_checkIndex_7cf53 cJ15_checkIndex_7cf53 2 (some .int), Cond.methodLink RJ15 105 yJ3_checkIndex_8e157, Cond.static yJ3_checkIndex_8e157, Cond.initialized RJ3, Cond.code yJ3_checkIndex_8e157 cJ3_checkIndex_8e157 3 (some .int), Cond.methodLink RJx4a65c 123 yJx4a65c_elementData_915e3, Cond.instanceMethod yJx4a65c_elementData_915e3, Cond.selects RJx4a65c yJx4a65c_elementData_915e3 yJx4a65c_elementData_915e3, Cond.code yJx4a65c_elementData_915e3 cJx4a65c_elementData_915e3 2 (some (.object "java/lang/Object")), Cond.fieldLink RJx4a65c 9 "java/util/ArrayList" "elementData" "[Ljava/lang/Object;", Cond.methodLink RX9 51 yX9_isIn, Cond.static yX9_isIn, Cond.code yX9_isIn cX9_isIn 4 (some .boolean), Cond.methodLink RX9 55 yX9_needArgument, Cond.static yX9_needArgument, Cond.code yX9_needArgument cX9_needArgument 1 none, Cond.classLink RX9 280 "java/lang/IllegalArgumentException", Cond.initialized "java/lang/IllegalArgumentException", Cond.methodLink RX9 209 yX6_firstItemFrom, Cond.instanceMethod yX6_firstItemFrom, Cond.selects RX6 yX6_firstItemFrom yX6_firstItemFrom, Cond.initialized RX6, Cond.code yX6_firstItemFrom cX6_firstItemFrom 6 (some .int), Cond.methodLink RX6 109 yX6_itemCount]
def wsX9_lastAt_r3 : List Cond := [Cond.instanceMethod yX6_itemCount, Cond.selects RX6 yX6_itemCount yX6_itemCount, Cond.code yX6_itemCount cX6_itemCount 1 (some .int), Cond.fieldLink RX6 25 "MeridianSeries$Series" "coarse" "LMeridianSeries$Buckets;", Cond.fieldLink RX6 79 "MeridianSeries$Buckets" "amount" "I", Cond.sameField "MeridianSeries$Buckets" "MeridianSeries$Items" "amount" "I", Cond.fieldLink RX6 21 "MeridianSeries$Series" "fine" "LMeridianSeries$Buckets;", Cond.fieldLink RX6 12 "MeridianSeries$Series" "points" "LMeridianSeries$Points;", Cond.fieldLink RX6 108 "MeridianSeries$Points" "amount" "I", Cond.sameField "MeridianSeries$Points" "MeridianSeries$Items" "amount" "I", Cond.methodLink RX6 112 yX6_ofItem, Cond.instanceMethod yX6_ofItem, Cond.selects RX6 yX6_ofItem yX6_ofItem, Cond.code yX6_ofItem cX6_ofItem 4 (some .int), Cond.methodLink RX6 82 yX0_number, Cond.instanceMethod yX0_number, Cond.selects RX0 yX0_number yX0_number, Cond.initialized RX0, Cond.code yX0_number cX0_number 4 (some .int), Cond.fieldLink RX0 11 "MeridianSeries$Buckets" "cells" "[I", Cond.methodLink RX6 88 yX4_number, Cond.instanceMethod yX4_number, Cond.selects RX4 yX4_number yX4_number, Cond.initialized RX4]
def wsX9_lastAt_r4 : List Cond := [Cond.code yX4_number cX4_number 3 (some .int), Cond.fieldLink RX4 11 "MeridianSeries$Points" "times" "[I", Cond.fieldLink RX4 15 "MeridianSeries$Points" "values" "[I", Cond.methodLink RX9 212 yX6_ofItem]
def wsX9_lastAt : List Cond := .code yX9_lastAt cX9_lastAt 5 (some .int) :: ((wsX9_lastAt_r1 ++ (wsX9_lastAt_r2 ++ (wsX9_lastAt_r3 ++ wsX9_lastAt_r4))) ++ wsX90 ++ wsX80 ++ wsJx4a65c0 ++ wsX60 ++ wsX00 ++ wsX40 ++ (vx_atS RX9 291 "java/lang/IndexOutOfBoundsException" ["java/lang/RuntimeException", "java/lang/Exception"]).filter goodWord ++ (vx_atS RX9 284 "java/lang/IllegalArgumentException" ["java/lang/RuntimeException", "java/lang/Exception"]).filter goodWord)
def wsX9_addRule_r1 : List Cond := [Cond.constant RX9 200 (-1000000), Cond.constant RX9 215 (1000000), Cond.fieldLink RX9 21 "MeridianSeries" "store" "LMeridianSeries$Store;", Cond.fieldLink RX9 216 "MeridianSeries$Store" "rules" "Ljava/util/ArrayList;", Cond.classLink RX9 219 RX5, Cond.instantiable RX5 9, Cond.initialized RX5, Cond.fieldLink RX9 25 "MeridianSeries" "trial" "LMeridianSeries$Store;", Cond.fieldLink RX9 59 "MeridianSeries$Store" "chains" "Ljava/util/ArrayList;", Cond.classLink RX9 72 "MeridianSeries$Series", Cond.methodLink RX9 101 yX9_chainAt, Cond.instanceMethod yX9_chainAt, Cond.selects RX9 yX9_chainAt yX9_chainAt, Cond.initialized RX9, Cond.code yX9_chainAt cX9_chainAt 2 (some (.object "MeridianSeries$Series")), Cond.classLink RX9 287 "java/lang/IndexOutOfBoundsException", Cond.initialized "java/lang/IndexOutOfBoundsException", Cond.methodLink RX9 63 yJx4a65c_size_8abf5, Cond.instanceMethod yJx4a65c_size_8abf5, Cond.selects RJx4a65c yJx4a65c_size_8abf5 yJx4a65c_size_8abf5, Cond.initialized RJx4a65c, Cond.code yJx4a65c_size_8abf5 cJx4a65c_size_8abf5 1 (some .int), Cond.fieldLink RJx4a65c 48 "java/util/ArrayList" "size" "I", Cond.methodLink RX9 187 yJx4a65c_get_915e3]
def wsX9_addRule_r2 : List Cond := [Cond.instanceMethod yJx4a65c_get_915e3, Cond.selects RJx4a65c yJx4a65c_get_915e3 yJx4a65c_get_915e3, Cond.code yJx4a65c_get_915e3 cJx4a65c_get_915e3 2 (some (.object "java/lang/Object")), Cond.methodLink RJx4a65c 118 yJ15_checkIndex_7cf53, Cond.static yJ15_checkIndex_7cf53, Cond.initialized RJ15, Cond.code yJ15_checkIndex_7cf53 cJ15_checkIndex_7cf53 2 (some .int), Cond.methodLink RJ15 105 yJ3_checkIndex_8e157, Cond.static yJ3_checkIndex_8e157, Cond.initialized RJ3, Cond.code yJ3_checkIndex_8e157 cJ3_checkIndex_8e157 3 (some .int), Cond.methodLink RJx4a65c 123 yJx4a65c_elementData_915e3, Cond.instanceMethod yJx4a65c_elementData_915e3, Cond.selects RJx4a65c yJx4a65c_elementData_915e3 yJx4a65c_elementData_915e3, Cond.code yJx4a65c_elementData_915e3 cJx4a65c_elementData_915e3 2 (some (.object "java/lang/Object")), Cond.fieldLink RJx4a65c 9 "java/util/ArrayList" "elementData" "[Ljava/lang/Object;", Cond.methodLink RX9 51 yX9_isIn, Cond.static yX9_isIn, Cond.code yX9_isIn cX9_isIn 4 (some .boolean), Cond.methodLink RX9 55 yX9_needArgument, Cond.static yX9_needArgument, Cond.code yX9_needArgument cX9_needArgument 1 none, Cond.classLink RX9 280 "java/lang/IllegalArgumentException", Cond.initialized "java/lang/IllegalArgumentException"]
def wsX9_addRule_r3 : List Cond := [Cond.methodLink RX9 69 yX9_needState, Cond.static yX9_needState, Cond.code yX9_needState cX9_needState 1 none, Cond.classLink RX9 292 "java/lang/IllegalStateException", Cond.initialized "java/lang/IllegalStateException", Cond.methodLink RX9 221 yX5_init, Cond.instanceMethod yX5_init, Cond.code yX5_init cX5_init 8 none, Cond.methodLink RX5 3 objectInit, Cond.instanceMethod objectInit, Cond.code objectInit ⟨#[0xb1]⟩ 1 none, Cond.fieldLink RX5 9 "MeridianSeries$Rule" "state" "I", Cond.fieldLink RX5 15 "MeridianSeries$Rule" "timesInRow" "I", Cond.fieldLink RX5 18 "MeridianSeries$Rule" "chain" "LMeridianSeries$Series;", Cond.fieldLink RX5 22 "MeridianSeries$Rule" "what" "I", Cond.fieldLink RX5 25 "MeridianSeries$Rule" "length" "I", Cond.fieldLink RX5 28 "MeridianSeries$Rule" "every" "I", Cond.fieldLink RX5 31 "MeridianSeries$Rule" "isAbove" "Z", Cond.fieldLink RX5 35 "MeridianSeries$Rule" "limit" "I", Cond.fieldLink RX5 38 "MeridianSeries$Rule" "times" "I", Cond.methodLink RX9 77 yJx4a65c_add_9ea2d, Cond.instanceMethod yJx4a65c_add_9ea2d, Cond.selects RJx4a65c yJx4a65c_add_9ea2d yJx4a65c_add_9ea2d, Cond.code yJx4a65c_add_9ea2d cJx4a65c_add_9ea2d 2 (some .boolean)]
def wsX9_addRule_r4 : List Cond := [Cond.fieldLink RJx4a65c 63 "java/util/ArrayList" "modCount" "I", Cond.sameField "java/util/ArrayList" "java/util/AbstractList" "modCount" "I", Cond.methodLink RJx4a65c 131 yJx4a65c_add_72be8, Cond.instanceMethod yJx4a65c_add_72be8, Cond.selects RJx4a65c yJx4a65c_add_72be8 yJx4a65c_add_72be8, Cond.code yJx4a65c_add_72be8 cJx4a65c_add_72be8 4 none, Cond.methodLink RJx4a65c 129 yJx4a65c_grow_d5877, Cond.instanceMethod yJx4a65c_grow_d5877, Cond.selects RJx4a65c yJx4a65c_grow_d5877 yJx4a65c_grow_d5877, Cond.code yJx4a65c_grow_d5877 cJx4a65c_grow_d5877 1 (some (.array (.object "java/lang/Object"))), Cond.methodLink RJx4a65c 69 yJx4a65c_grow_92f84, Cond.instanceMethod yJx4a65c_grow_92f84, Cond.selects RJx4a65c yJx4a65c_grow_92f84 yJx4a65c_grow_92f84, Cond.code yJx4a65c_grow_92f84 cJx4a65c_grow_92f84 4 (some (.array (.object "java/lang/Object"))), Cond.fieldLink RJx4a65c 39 "java/util/ArrayList" "DEFAULTCAPACITY_EMPTY_ELEMENTDATA" "[Ljava/lang/Object;", Cond.methodLink RJx4a65c 79 Lib.Math.max.name, Cond.static Lib.Math.max.name, Cond.initialized "java/lang/Math", Cond.code Lib.Math.max.name Lib.Math.max.code 2 (some .int), Cond.classLink RJx4a65c 7 "java/lang/Object", Cond.methodLink RJx4a65c 73 yJ8_newLength_cabcc, Cond.static yJ8_newLength_cabcc, Cond.initialized RJ8, Cond.code yJ8_newLength_cabcc cJ8_newLength_cabcc 4 (some .int)]
def wsX9_addRule_r5 : List Cond := [Cond.methodLink RJ8 194 Lib.Math.max.name, Cond.constant RJ8 200 (2147483639), Cond.methodLink RJ8 201 yJ8_hugeLength_7cf53, Cond.static yJ8_hugeLength_7cf53, Cond.code yJ8_hugeLength_7cf53 cJ8_hugeLength_7cf53 3 (some .int), Cond.methodLink RJx4a65c 66 yJ7_copyOf_1904c, Cond.static yJ7_copyOf_1904c, Cond.initialized RJ7, Cond.code yJ7_copyOf_1904c cJ7_copyOf_1904c 2 (some (.array (.object "java/lang/Object"))), Cond.methodLink RJ7 86 ⟨"java/lang/Object", "getClass", "()Ljava/lang/Class;"⟩, Cond.selects "[Ljava/lang/Object;" ⟨"java/lang/Object", "getClass", "()Ljava/lang/Class;"⟩ ⟨"java/lang/Object", "getClass", "()Ljava/lang/Class;"⟩, Cond.instanceMethod ⟨"java/lang/Object", "getClass", "()Ljava/lang/Class;"⟩, Cond.native ⟨"java/lang/Object", "getClass", "()Ljava/lang/Class;"⟩, Cond.methodLink RJ7 300 yJ7_copyOf_6403c, Cond.static yJ7_copyOf_6403c, Cond.code yJ7_copyOf_6403c cJ7_copyOf_6403c 4 (some (.array (.object "java/lang/Object"))), Cond.classLink RJ7 110 "[Ljava/lang/Object;", Cond.classLink RJ7 2 "java/lang/Object", Cond.methodLink RJ7 304 Lib.Math.min.name, Cond.static Lib.Math.min.name, Cond.code Lib.Math.min.name Lib.Math.min.code 2 (some .int), Cond.methodLink RJ7 150 arraycopyName, Cond.native arraycopyName, Cond.static arraycopyName]
def wsX9_addRule_r6 : List Cond := [Cond.initialized "java/lang/System"]
def wsX9_addRule : List Cond := .code yX9_addRule cX9_addRule 11 (some .int) :: ((wsX9_addRule_r1 ++ (wsX9_addRule_r2 ++ (wsX9_addRule_r3 ++ (wsX9_addRule_r4 ++ (wsX9_addRule_r5 ++ wsX9_addRule_r6))))) ++ wsX90 ++ wsX80 ++ wsX50 ++ wsJx4a65c0 ++ (vx_atS RX9 291 "java/lang/IndexOutOfBoundsException" ["java/lang/RuntimeException", "java/lang/Exception"]).filter goodWord ++ (vx_atS RX9 284 "java/lang/IllegalArgumentException" ["java/lang/RuntimeException", "java/lang/Exception"]).filter goodWord ++ (vx_atS RX9 296 "java/lang/IllegalStateException" ["java/lang/RuntimeException", "java/lang/Exception"]).filter goodWord)
def wsX9_events : List Cond := .code yX9_events cX9_events 1 (some .int) :: ([.fieldLink RX9 21 "MeridianSeries" "store" "LMeridianSeries$Store;", .fieldLink RX9 129 "MeridianSeries$Store" "log" "LMeridianSeries$EventLog;", .fieldLink RX9 133 "MeridianSeries$EventLog" "total" "I"] ++ wsX90 ++ wsX80 ++ wsX10)
def wsX9_event : List Cond := .code yX9_event cX9_event 3 (some .int) :: ([.fieldLink RX9 21 "MeridianSeries" "store" "LMeridianSeries$Store;", .fieldLink RX9 129 "MeridianSeries$Store" "log" "LMeridianSeries$EventLog;", .fieldLink RX9 133 "MeridianSeries$EventLog" "total" "I", .methodLink RX9 51 yX9_isIn, .static yX9_isIn, .initialized RX9, .code yX9_isIn cX9_isIn 4 (some .boolean), .methodLink RX9 150 yX9_needIndex, .static yX9_needIndex, .code yX9_needIndex cX9_needIndex 1 none, .classLink RX9 287 "java/lang/IndexOutOfBoundsException", .initialized "java/lang/IndexOutOfBoundsException", .methodLink RX9 55 yX9_needArgument, .static yX9_needArgument, .code yX9_needArgument cX9_needArgument 1 none, .classLink RX9 280 "java/lang/IllegalArgumentException", .initialized "java/lang/IllegalArgumentException", .methodLink RX9 237 yX1_number, .instanceMethod yX1_number, .selects RX1 yX1_number yX1_number, .initialized RX1, .code yX1_number cX1_number 4 (some .int), .fieldLink RX1 15 "MeridianSeries$EventLog" "total" "I", .fieldLink RX1 9 "MeridianSeries$EventLog" "cells" "[I"] ++ wsX90 ++ wsX80 ++ wsX10 ++ (vx_atS RX9 291 "java/lang/IndexOutOfBoundsException" ["java/lang/RuntimeException", "java/lang/Exception"]).filter goodWord ++ (vx_atS RX9 284 "java/lang/IllegalArgumentException" ["java/lang/RuntimeException", "java/lang/Exception"]).filter goodWord)
def wsX9_bitsWith_r1 : List Cond := [Cond.fieldLink RX9 116 "MeridianSeries$Series" "points" "LMeridianSeries$Points;", Cond.fieldLink RX9 31 "MeridianSeries" "packer" "LMeridianSeries$Packer;", Cond.methodLink RX9 101 yX9_chainAt, Cond.instanceMethod yX9_chainAt, Cond.selects RX9 yX9_chainAt yX9_chainAt, Cond.initialized RX9, Cond.code yX9_chainAt cX9_chainAt 2 (some (.object "MeridianSeries$Series")), Cond.classLink RX9 287 "java/lang/IndexOutOfBoundsException", Cond.initialized "java/lang/IndexOutOfBoundsException", Cond.fieldLink RX9 21 "MeridianSeries" "store" "LMeridianSeries$Store;", Cond.fieldLink RX9 59 "MeridianSeries$Store" "chains" "Ljava/util/ArrayList;", Cond.classLink RX9 72 "MeridianSeries$Series", Cond.methodLink RX9 63 yJx4a65c_size_8abf5, Cond.instanceMethod yJx4a65c_size_8abf5, Cond.selects RJx4a65c yJx4a65c_size_8abf5 yJx4a65c_size_8abf5, Cond.initialized RJx4a65c, Cond.code yJx4a65c_size_8abf5 cJx4a65c_size_8abf5 1 (some .int), Cond.fieldLink RJx4a65c 48 "java/util/ArrayList" "size" "I", Cond.methodLink RX9 187 yJx4a65c_get_915e3, Cond.instanceMethod yJx4a65c_get_915e3, Cond.selects RJx4a65c yJx4a65c_get_915e3 yJx4a65c_get_915e3, Cond.code yJx4a65c_get_915e3 cJx4a65c_get_915e3 2 (some (.object "java/lang/Object")), Cond.methodLink RJx4a65c 118 yJ15_checkIndex_7cf53, Cond.static yJ15_checkIndex_7cf53]
def wsX9_bitsWith_r2 : List Cond := [Cond.initialized RJ15, Cond.code yJ15_checkIndex_7cf53 cJ15_checkIndex_7cf53 2 (some .int), Cond.methodLink RJ15 105 yJ3_checkIndex_8e157, Cond.static yJ3_checkIndex_8e157, Cond.initialized RJ3, Cond.code yJ3_checkIndex_8e157 cJ3_checkIndex_8e157 3 (some .int), Cond.methodLink RJx4a65c 123 yJx4a65c_elementData_915e3, Cond.instanceMethod yJx4a65c_elementData_915e3, Cond.selects RJx4a65c yJx4a65c_elementData_915e3 yJx4a65c_elementData_915e3, Cond.code yJx4a65c_elementData_915e3 cJx4a65c_elementData_915e3 2 (some (.object "java/lang/Object")), Cond.fieldLink RJx4a65c 9 "java/util/ArrayList" "elementData" "[Ljava/lang/Object;", Cond.methodLink RX9 105 yX9_isTimeUpToNow, Cond.instanceMethod yX9_isTimeUpToNow, Cond.selects RX9 yX9_isTimeUpToNow yX9_isTimeUpToNow, Cond.code yX9_isTimeUpToNow cX9_isTimeUpToNow 3 (some .boolean), Cond.fieldLink RX9 141 "MeridianSeries$Store" "now" "I", Cond.methodLink RX9 51 yX9_isIn, Cond.static yX9_isIn, Cond.code yX9_isIn cX9_isIn 4 (some .boolean), Cond.methodLink RX9 109 yX9_isValue, Cond.static yX9_isValue, Cond.code yX9_isValue cX9_isValue 2 (some .boolean), Cond.constant RX9 278 (-100000), Cond.constant RX9 279 (100000)]
def wsX9_bitsWith_r3 : List Cond := [Cond.methodLink RX9 55 yX9_needArgument, Cond.static yX9_needArgument, Cond.code yX9_needArgument cX9_needArgument 1 none, Cond.classLink RX9 280 "java/lang/IllegalArgumentException", Cond.initialized "java/lang/IllegalArgumentException", Cond.methodLink RX9 238 yX4_isLate, Cond.instanceMethod yX4_isLate, Cond.selects RX4 yX4_isLate yX4_isLate, Cond.initialized RX4, Cond.code yX4_isLate cX4_isLate 2 (some .boolean), Cond.fieldLink RX4 28 "MeridianSeries$Points" "greatestSealedTime" "I", Cond.methodLink RX9 241 yX3_packOpenWith, Cond.instanceMethod yX3_packOpenWith, Cond.selects RX3 yX3_packOpenWith yX3_packOpenWith, Cond.initialized RX3, Cond.code yX3_packOpenWith cX3_packOpenWith 7 (some .int), Cond.fieldLink RX3 66 "MeridianSeries$Points" "sealedPoints" "I", Cond.fieldLink RX3 69 "MeridianSeries$Points" "amount" "I", Cond.sameField "MeridianSeries$Points" "MeridianSeries$Items" "amount" "I", Cond.fieldLink RX3 15 "MeridianSeries$Packer" "length" "I", Cond.methodLink RX3 55 yX4_placeOf, Cond.instanceMethod yX4_placeOf, Cond.selects RX4 yX4_placeOf yX4_placeOf, Cond.code yX4_placeOf cX4_placeOf 3 (some .int)]
def wsX9_bitsWith_r4 : List Cond := [Cond.fieldLink RX4 25 "MeridianSeries$Points" "sealedPoints" "I", Cond.fieldLink RX4 31 "MeridianSeries$Points" "amount" "I", Cond.methodLink RX4 42 yX4_number, Cond.instanceMethod yX4_number, Cond.selects RX4 yX4_number yX4_number, Cond.code yX4_number cX4_number 3 (some .int), Cond.fieldLink RX4 11 "MeridianSeries$Points" "times" "[I", Cond.fieldLink RX4 15 "MeridianSeries$Points" "values" "[I", Cond.methodLink RX3 58 yX4_isTakenAt, Cond.instanceMethod yX4_isTakenAt, Cond.selects RX4 yX4_isTakenAt yX4_isTakenAt, Cond.code yX4_isTakenAt cX4_isTakenAt 3 (some .boolean), Cond.methodLink RX3 62 yX4_openSize, Cond.instanceMethod yX4_openSize, Cond.selects RX4 yX4_openSize yX4_openSize, Cond.code yX4_openSize cX4_openSize 1 (some .int), Cond.methodLink RX3 43 yX3_begin, Cond.instanceMethod yX3_begin, Cond.selects RX3 yX3_begin yX3_begin, Cond.code yX3_begin cX3_begin 2 none, Cond.fieldLink RX3 11 "MeridianSeries$Packer" "words" "[I", Cond.fieldLink RX3 19 "MeridianSeries$Packer" "packed" "I", Cond.methodLink RX3 72 yJ7_fill_53178, Cond.static yJ7_fill_53178]
def wsX9_bitsWith_r5 : List Cond := [Cond.initialized RJ7, Cond.code yJ7_fill_53178 cJ7_fill_53178 4 none, Cond.methodLink RX3 78 yX3_write, Cond.instanceMethod yX3_write, Cond.selects RX3 yX3_write yX3_write, Cond.code yX3_write cX3_write 5 none, Cond.methodLink RX3 47 yX4_number, Cond.methodLink RX3 51 yX3_add, Cond.instanceMethod yX3_add, Cond.selects RX3 yX3_add yX3_add, Cond.code yX3_add cX3_add 4 none, Cond.constant RX3 81 (1048576), Cond.fieldLink RX3 25 "MeridianSeries$Packer" "lastStep" "I", Cond.fieldLink RX3 22 "MeridianSeries$Packer" "lastTime" "I", Cond.fieldLink RX3 28 "MeridianSeries$Packer" "lastValue" "I", Cond.methodLink RX3 82 yX3_addTime, Cond.instanceMethod yX3_addTime, Cond.selects RX3 yX3_addTime yX3_addTime, Cond.code yX3_addTime cX3_addTime 2 none, Cond.methodLink RX3 85 yX3_addValue, Cond.instanceMethod yX3_addValue, Cond.selects RX3 yX3_addValue yX3_addValue, Cond.code yX3_addValue cX3_addValue 2 none, Cond.constant RX3 92 (262144)]
def wsX9_bitsWith : List Cond := .code yX9_bitsWith cX9_bitsWith 5 (some .int) :: ((wsX9_bitsWith_r1 ++ (wsX9_bitsWith_r2 ++ (wsX9_bitsWith_r3 ++ (wsX9_bitsWith_r4 ++ wsX9_bitsWith_r5)))) ++ wsX60 ++ wsX90 ++ wsX80 ++ wsJx4a65c0 ++ wsX40 ++ wsX00 ++ wsX30 ++ (vx_atS RX9 291 "java/lang/IndexOutOfBoundsException" ["java/lang/RuntimeException", "java/lang/Exception"]).filter goodWord ++ (vx_atS RX9 284 "java/lang/IllegalArgumentException" ["java/lang/RuntimeException", "java/lang/Exception"]).filter goodWord)
def wsX9_firesIn_r1 : List Cond := [Cond.fieldLink RX9 25 "MeridianSeries" "trial" "LMeridianSeries$Store;", Cond.fieldLink RX9 21 "MeridianSeries" "store" "LMeridianSeries$Store;", Cond.fieldLink RX9 129 "MeridianSeries$Store" "log" "LMeridianSeries$EventLog;", Cond.fieldLink RX9 249 "MeridianSeries$EventLog" "firings" "I", Cond.methodLink RX9 125 yX9_canGoOn, Cond.instanceMethod yX9_canGoOn, Cond.selects RX9 yX9_canGoOn yX9_canGoOn, Cond.initialized RX9, Cond.code yX9_canGoOn cX9_canGoOn 2 (some .boolean), Cond.fieldLink RX9 141 "MeridianSeries$Store" "now" "I", Cond.constant RX9 100 (99999), Cond.methodLink RX9 51 yX9_isIn, Cond.static yX9_isIn, Cond.code yX9_isIn cX9_isIn 4 (some .boolean), Cond.methodLink RX9 55 yX9_needArgument, Cond.static yX9_needArgument, Cond.code yX9_needArgument cX9_needArgument 1 none, Cond.classLink RX9 280 "java/lang/IllegalArgumentException", Cond.initialized "java/lang/IllegalArgumentException", Cond.methodLink RX9 245 yX8_copyFrom, Cond.instanceMethod yX8_copyFrom, Cond.selects RX8 yX8_copyFrom yX8_copyFrom, Cond.initialized RX8, Cond.code yX8_copyFrom cX8_copyFrom 3 none]
def wsX9_firesIn_r2 : List Cond := [Cond.fieldLink RX8 26 "MeridianSeries$Store" "now" "I", Cond.fieldLink RX8 10 "MeridianSeries$Store" "chains" "Ljava/util/ArrayList;", Cond.classLink RX8 42 "MeridianSeries$Series", Cond.fieldLink RX8 16 "MeridianSeries$Store" "rules" "Ljava/util/ArrayList;", Cond.classLink RX8 60 "MeridianSeries$Rule", Cond.methodLink RX8 34 yJx4a65c_size_8abf5, Cond.instanceMethod yJx4a65c_size_8abf5, Cond.selects RJx4a65c yJx4a65c_size_8abf5 yJx4a65c_size_8abf5, Cond.initialized RJx4a65c, Cond.code yJx4a65c_size_8abf5 cJx4a65c_size_8abf5 1 (some .int), Cond.fieldLink RJx4a65c 48 "java/util/ArrayList" "size" "I", Cond.methodLink RX8 38 yJx4a65c_get_915e3, Cond.instanceMethod yJx4a65c_get_915e3, Cond.selects RJx4a65c yJx4a65c_get_915e3 yJx4a65c_get_915e3, Cond.code yJx4a65c_get_915e3 cJx4a65c_get_915e3 2 (some (.object "java/lang/Object")), Cond.methodLink RJx4a65c 118 yJ15_checkIndex_7cf53, Cond.static yJ15_checkIndex_7cf53, Cond.initialized RJ15, Cond.code yJ15_checkIndex_7cf53 cJ15_checkIndex_7cf53 2 (some .int), Cond.methodLink RJ15 105 yJ3_checkIndex_8e157, Cond.static yJ3_checkIndex_8e157, Cond.initialized RJ3, Cond.code yJ3_checkIndex_8e157 cJ3_checkIndex_8e157 3 (some .int), Cond.methodLink RJx4a65c 123 yJx4a65c_elementData_915e3]
def wsX9_firesIn_r3 : List Cond := [Cond.instanceMethod yJx4a65c_elementData_915e3, Cond.selects RJx4a65c yJx4a65c_elementData_915e3 yJx4a65c_elementData_915e3, Cond.code yJx4a65c_elementData_915e3 cJx4a65c_elementData_915e3 2 (some (.object "java/lang/Object")), Cond.fieldLink RJx4a65c 9 "java/util/ArrayList" "elementData" "[Ljava/lang/Object;", Cond.methodLink RX8 80 yX6_copyFrom, Cond.instanceMethod yX6_copyFrom, Cond.selects RX6 yX6_copyFrom yX6_copyFrom, Cond.initialized RX6, Cond.code yX6_copyFrom cX6_copyFrom 2 none, Cond.fieldLink RX6 12 "MeridianSeries$Series" "points" "LMeridianSeries$Points;", Cond.fieldLink RX6 21 "MeridianSeries$Series" "fine" "LMeridianSeries$Buckets;", Cond.fieldLink RX6 25 "MeridianSeries$Series" "coarse" "LMeridianSeries$Buckets;", Cond.methodLink RX6 146 yX4_copyFrom, Cond.instanceMethod yX4_copyFrom, Cond.selects RX4 yX4_copyFrom yX4_copyFrom, Cond.initialized RX4, Cond.code yX4_copyFrom cX4_copyFrom 3 none, Cond.fieldLink RX4 31 "MeridianSeries$Points" "amount" "I", Cond.sameField "MeridianSeries$Points" "MeridianSeries$Items" "amount" "I", Cond.fieldLink RX4 21 "MeridianSeries$Points" "sealedBlocks" "I", Cond.fieldLink RX4 18 "MeridianSeries$Points" "sizes" "[I", Cond.fieldLink RX4 25 "MeridianSeries$Points" "sealedPoints" "I", Cond.fieldLink RX4 28 "MeridianSeries$Points" "greatestSealedTime" "I", Cond.methodLink RX4 42 yX4_number]
def wsX9_firesIn_r4 : List Cond := [Cond.instanceMethod yX4_number, Cond.selects RX4 yX4_number yX4_number, Cond.code yX4_number cX4_number 3 (some .int), Cond.fieldLink RX4 11 "MeridianSeries$Points" "times" "[I", Cond.fieldLink RX4 15 "MeridianSeries$Points" "values" "[I", Cond.methodLink RX4 57 yX4_write, Cond.instanceMethod yX4_write, Cond.selects RX4 yX4_write yX4_write, Cond.code yX4_write cX4_write 4 none, Cond.methodLink RX4 38 yX4_sizeOf, Cond.instanceMethod yX4_sizeOf, Cond.selects RX4 yX4_sizeOf yX4_sizeOf, Cond.code yX4_sizeOf cX4_sizeOf 2 (some .int), Cond.methodLink RX4 34 yX4_openSize, Cond.instanceMethod yX4_openSize, Cond.selects RX4 yX4_openSize yX4_openSize, Cond.code yX4_openSize cX4_openSize 1 (some .int), Cond.methodLink RX6 150 yX0_copyFrom, Cond.instanceMethod yX0_copyFrom, Cond.selects RX0 yX0_copyFrom yX0_copyFrom, Cond.initialized RX0, Cond.code yX0_copyFrom cX0_copyFrom 4 none, Cond.fieldLink RX0 15 "MeridianSeries$Buckets" "amount" "I", Cond.sameField "MeridianSeries$Buckets" "MeridianSeries$Items" "amount" "I"]
def wsX9_firesIn_r5 : List Cond := [Cond.methodLink RX0 19 yX0_number, Cond.instanceMethod yX0_number, Cond.selects RX0 yX0_number yX0_number, Cond.code yX0_number cX0_number 4 (some .int), Cond.fieldLink RX0 11 "MeridianSeries$Buckets" "cells" "[I", Cond.methodLink RX0 24 yX0_write, Cond.instanceMethod yX0_write, Cond.selects RX0 yX0_write yX0_write, Cond.code yX0_write cX0_write 5 none, Cond.methodLink RX8 84 yX5_copyFrom, Cond.instanceMethod yX5_copyFrom, Cond.selects RX5 yX5_copyFrom yX5_copyFrom, Cond.initialized RX5, Cond.code yX5_copyFrom cX5_copyFrom 2 none, Cond.fieldLink RX5 9 "MeridianSeries$Rule" "state" "I", Cond.fieldLink RX5 15 "MeridianSeries$Rule" "timesInRow" "I", Cond.methodLink RX9 138 yX8_goOnByOne, Cond.instanceMethod yX8_goOnByOne, Cond.selects RX8 yX8_goOnByOne yX8_goOnByOne, Cond.code yX8_goOnByOne cX8_goOnByOne 3 none, Cond.fieldLink RX8 30 "MeridianSeries$Store" "settings" "LMeridianSeries$Settings;", Cond.fieldLink RX8 22 "MeridianSeries$Store" "log" "LMeridianSeries$EventLog;", Cond.fieldLink RX8 73 "MeridianSeries$Rule" "state" "I", Cond.methodLink RX8 56 yX6_rollUpBy]
def wsX9_firesIn_r6 : List Cond := [Cond.instanceMethod yX6_rollUpBy, Cond.selects RX6 yX6_rollUpBy yX6_rollUpBy, Cond.code yX6_rollUpBy cX6_rollUpBy 7 none, Cond.fieldLink RX6 59 "MeridianSeries$Settings" "keep" "I", Cond.fieldLink RX6 66 "MeridianSeries$Settings" "longKeep" "I", Cond.fieldLink RX6 69 "MeridianSeries$Settings" "width" "I", Cond.methodLink RX6 62 yX4_blocksBelow, Cond.instanceMethod yX4_blocksBelow, Cond.selects RX4 yX4_blocksBelow yX4_blocksBelow, Cond.code yX4_blocksBelow cX4_blocksBelow 4 (some .int), Cond.methodLink RX6 55 yX6_rollUpFirstBlock, Cond.instanceMethod yX6_rollUpFirstBlock, Cond.selects RX6 yX6_rollUpFirstBlock yX6_rollUpFirstBlock, Cond.code yX6_rollUpFirstBlock cX6_rollUpFirstBlock 4 none, Cond.methodLink RX6 85 yX4_sizeOf, Cond.methodLink RX6 88 yX4_number, Cond.methodLink RX6 89 yX6_startFor, Cond.static yX6_startFor, Cond.code yX6_startFor cX6_startFor 2 (some .int), Cond.methodLink RX6 92 yX0_take, Cond.instanceMethod yX0_take, Cond.selects RX0 yX0_take yX0_take, Cond.code yX0_take cX0_take 6 none, Cond.methodLink RX0 28 Lib.Math.min.name]
def wsX9_firesIn_r7 : List Cond := [Cond.static Lib.Math.min.name, Cond.initialized "java/lang/Math", Cond.code Lib.Math.min.name Lib.Math.min.code 2 (some .int), Cond.methodLink RX0 33 Lib.Math.max.name, Cond.static Lib.Math.max.name, Cond.code Lib.Math.max.name Lib.Math.max.code 2 (some .int), Cond.methodLink RX0 23 ⟨"MeridianSeries$Items", "number", "(II)I"⟩, Cond.sameMethod "MeridianSeries$Items" "MeridianSeries$Items" "number" "(II)I", Cond.selects RX0 ⟨"MeridianSeries$Items", "number", "(II)I"⟩ yX0_number, Cond.selects RX4 ⟨"MeridianSeries$Items", "number", "(II)I"⟩ yX4_number, Cond.methodLink RX6 96 yX0_isFull, Cond.instanceMethod yX0_isFull, Cond.selects RX0 yX0_isFull yX0_isFull, Cond.code yX0_isFull cX0_isFull 1 (some .boolean), Cond.methodLink RX6 76 yX6_rollUpFirstFine, Cond.instanceMethod yX6_rollUpFirstFine, Cond.selects RX6 yX6_rollUpFirstFine yX6_rollUpFirstFine, Cond.code yX6_rollUpFirstFine cX6_rollUpFirstFine 3 none, Cond.fieldLink RX6 102 "MeridianSeries$Settings" "fold" "I", Cond.methodLink RX6 82 yX0_number, Cond.methodLink RX6 105 yX0_dropFirst, Cond.instanceMethod yX0_dropFirst, Cond.selects RX0 yX0_dropFirst yX0_dropFirst, Cond.code yX0_dropFirst cX0_dropFirst 2 none]
def wsX9_firesIn_r8 : List Cond := [Cond.methodLink RX6 99 yX4_dropFirstBlock, Cond.instanceMethod yX4_dropFirstBlock, Cond.selects RX4 yX4_dropFirstBlock yX4_dropFirstBlock, Cond.code yX4_dropFirstBlock cX4_dropFirstBlock 3 none, Cond.methodLink RX4 53 yX4_copyPoint, Cond.instanceMethod yX4_copyPoint, Cond.selects RX4 yX4_copyPoint yX4_copyPoint, Cond.code yX4_copyPoint cX4_copyPoint 3 none, Cond.methodLink RX6 72 yX6_fineEndingBy, Cond.instanceMethod yX6_fineEndingBy, Cond.selects RX6 yX6_fineEndingBy yX6_fineEndingBy, Cond.code yX6_fineEndingBy cX6_fineEndingBy 4 (some .int), Cond.fieldLink RX6 79 "MeridianSeries$Buckets" "amount" "I", Cond.methodLink RX8 62 yX5_isDueAt, Cond.instanceMethod yX5_isDueAt, Cond.selects RX5 yX5_isDueAt yX5_isDueAt, Cond.code yX5_isDueAt cX5_isDueAt 2 (some .boolean), Cond.fieldLink RX5 28 "MeridianSeries$Rule" "every" "I", Cond.methodLink RX8 66 yX5_told, Cond.instanceMethod yX5_told, Cond.selects RX5 yX5_told yX5_told, Cond.code yX5_told cX5_told 2 (some .int), Cond.fieldLink RX5 18 "MeridianSeries$Rule" "chain" "LMeridianSeries$Series;", Cond.fieldLink RX5 25 "MeridianSeries$Rule" "length" "I"]
def wsX9_firesIn_r9 : List Cond := [Cond.fieldLink RX5 22 "MeridianSeries$Rule" "what" "I", Cond.methodLink RX5 41 yX6_tell, Cond.instanceMethod yX6_tell, Cond.selects RX6 yX6_tell yX6_tell, Cond.code yX6_tell cX6_tell 7 (some .int), Cond.methodLink RX6 115 yX6_firstItemFrom, Cond.instanceMethod yX6_firstItemFrom, Cond.selects RX6 yX6_firstItemFrom yX6_firstItemFrom, Cond.code yX6_firstItemFrom cX6_firstItemFrom 6 (some .int), Cond.methodLink RX6 109 yX6_itemCount, Cond.instanceMethod yX6_itemCount, Cond.selects RX6 yX6_itemCount yX6_itemCount, Cond.code yX6_itemCount cX6_itemCount 1 (some .int), Cond.fieldLink RX6 108 "MeridianSeries$Points" "amount" "I", Cond.methodLink RX6 112 yX6_ofItem, Cond.instanceMethod yX6_ofItem, Cond.selects RX6 yX6_ofItem yX6_ofItem, Cond.code yX6_ofItem cX6_ofItem 4 (some .int), Cond.methodLink RX6 118 yX6_toldOfGap, Cond.instanceMethod yX6_toldOfGap, Cond.selects RX6 yX6_toldOfGap yX6_toldOfGap, Cond.code yX6_toldOfGap cX6_toldOfGap 5 (some .int), Cond.constant RX6 134 (-1000000), Cond.methodLink RX6 135 yX6_onLine]
def wsX9_firesIn_r10 : List Cond := [Cond.instanceMethod yX6_onLine, Cond.selects RX6 yX6_onLine yX6_onLine, Cond.code yX6_onLine cX6_onLine 9 (some .int), Cond.methodLink RX6 122 yX6_total, Cond.instanceMethod yX6_total, Cond.selects RX6 yX6_total yX6_total, Cond.code yX6_total cX6_total 6 (some .int), Cond.methodLink RX6 125 yX6_least, Cond.instanceMethod yX6_least, Cond.selects RX6 yX6_least yX6_least, Cond.code yX6_least cX6_least 5 (some .int), Cond.methodLink RX6 138 Lib.Math.min.name, Cond.methodLink RX6 128 yX6_greatest, Cond.instanceMethod yX6_greatest, Cond.selects RX6 yX6_greatest yX6_greatest, Cond.code yX6_greatest cX6_greatest 5 (some .int), Cond.methodLink RX6 143 Lib.Math.max.name, Cond.methodLink RX6 131 yX6_quotient, Cond.static yX6_quotient, Cond.code yX6_quotient cX6_quotient 2 (some .int), Cond.methodLink RX8 70 yX5_changesBy, Cond.instanceMethod yX5_changesBy, Cond.selects RX5 yX5_changesBy yX5_changesBy, Cond.code yX5_changesBy cX5_changesBy 3 (some .boolean)]
def wsX9_firesIn_r11 : List Cond := [Cond.constant RX5 47 (-1000000), Cond.fieldLink RX5 31 "MeridianSeries$Rule" "isAbove" "Z", Cond.fieldLink RX5 35 "MeridianSeries$Rule" "limit" "I", Cond.methodLink RX5 48 yX5_ceases, Cond.instanceMethod yX5_ceases, Cond.selects RX5 yX5_ceases yX5_ceases, Cond.code yX5_ceases cX5_ceases 2 (some .boolean), Cond.fieldLink RX5 38 "MeridianSeries$Rule" "times" "I", Cond.methodLink RX5 55 yX5_become, Cond.instanceMethod yX5_become, Cond.selects RX5 yX5_become yX5_become, Cond.code yX5_become cX5_become 2 none, Cond.methodLink RX5 52 yX5_begins, Cond.instanceMethod yX5_begins, Cond.selects RX5 yX5_begins yX5_begins, Cond.code yX5_begins cX5_begins 2 (some .boolean), Cond.methodLink RX8 76 yX1_add, Cond.instanceMethod yX1_add, Cond.selects RX1 yX1_add yX1_add, Cond.initialized RX1, Cond.code yX1_add cX1_add 5 none, Cond.fieldLink RX1 15 "MeridianSeries$EventLog" "total" "I", Cond.fieldLink RX1 9 "MeridianSeries$EventLog" "cells" "[I", Cond.fieldLink RX1 19 "MeridianSeries$EventLog" "firings" "I"]
def wsX9_firesIn : List Cond := .code yX9_firesIn cX9_firesIn 4 (some .int) :: ((wsX9_firesIn_r1 ++ (wsX9_firesIn_r2 ++ (wsX9_firesIn_r3 ++ (wsX9_firesIn_r4 ++ (wsX9_firesIn_r5 ++ (wsX9_firesIn_r6 ++ (wsX9_firesIn_r7 ++ (wsX9_firesIn_r8 ++ (wsX9_firesIn_r9 ++ (wsX9_firesIn_r10 ++ wsX9_firesIn_r11)))))))))) ++ wsX90 ++ wsX80 ++ wsX10 ++ wsJx4a65c0 ++ wsX60 ++ wsX00 ++ wsX40 ++ wsX50 ++ wsX70 ++ (vx_atS RX9 284 "java/lang/IllegalArgumentException" ["java/lang/RuntimeException", "java/lang/Exception"]).filter goodWord)
def wsX9_wouldRoll_r1 : List Cond := [Cond.fieldLink RX9 21 "MeridianSeries" "store" "LMeridianSeries$Store;", Cond.fieldLink RX9 141 "MeridianSeries$Store" "now" "I", Cond.constant RX9 100 (99999), Cond.fieldLink RX9 59 "MeridianSeries$Store" "chains" "Ljava/util/ArrayList;", Cond.classLink RX9 72 "MeridianSeries$Series", Cond.fieldLink RX9 116 "MeridianSeries$Series" "points" "LMeridianSeries$Points;", Cond.methodLink RX9 51 yX9_isIn, Cond.static yX9_isIn, Cond.initialized RX9, Cond.code yX9_isIn cX9_isIn 4 (some .boolean), Cond.methodLink RX9 55 yX9_needArgument, Cond.static yX9_needArgument, Cond.code yX9_needArgument cX9_needArgument 1 none, Cond.classLink RX9 280 "java/lang/IllegalArgumentException", Cond.initialized "java/lang/IllegalArgumentException", Cond.methodLink RX9 63 yJx4a65c_size_8abf5, Cond.instanceMethod yJx4a65c_size_8abf5, Cond.selects RJx4a65c yJx4a65c_size_8abf5 yJx4a65c_size_8abf5, Cond.initialized RJx4a65c, Cond.code yJx4a65c_size_8abf5 cJx4a65c_size_8abf5 1 (some .int), Cond.fieldLink RJx4a65c 48 "java/util/ArrayList" "size" "I", Cond.methodLink RX9 187 yJx4a65c_get_915e3, Cond.instanceMethod yJx4a65c_get_915e3, Cond.selects RJx4a65c yJx4a65c_get_915e3 yJx4a65c_get_915e3]
def wsX9_wouldRoll_r2 : List Cond := [Cond.code yJx4a65c_get_915e3 cJx4a65c_get_915e3 2 (some (.object "java/lang/Object")), Cond.methodLink RJx4a65c 118 yJ15_checkIndex_7cf53, Cond.static yJ15_checkIndex_7cf53, Cond.initialized RJ15, Cond.code yJ15_checkIndex_7cf53 cJ15_checkIndex_7cf53 2 (some .int), Cond.methodLink RJ15 105 yJ3_checkIndex_8e157, Cond.static yJ3_checkIndex_8e157, Cond.initialized RJ3, Cond.code yJ3_checkIndex_8e157 cJ3_checkIndex_8e157 3 (some .int), Cond.methodLink RJx4a65c 123 yJx4a65c_elementData_915e3, Cond.instanceMethod yJx4a65c_elementData_915e3, Cond.selects RJx4a65c yJx4a65c_elementData_915e3 yJx4a65c_elementData_915e3, Cond.code yJx4a65c_elementData_915e3 cJx4a65c_elementData_915e3 2 (some (.object "java/lang/Object")), Cond.fieldLink RJx4a65c 9 "java/util/ArrayList" "elementData" "[Ljava/lang/Object;", Cond.methodLink RX9 252 yX4_blocksBelow, Cond.instanceMethod yX4_blocksBelow, Cond.selects RX4 yX4_blocksBelow yX4_blocksBelow, Cond.initialized RX4, Cond.code yX4_blocksBelow cX4_blocksBelow 4 (some .int), Cond.fieldLink RX4 21 "MeridianSeries$Points" "sealedBlocks" "I", Cond.methodLink RX4 38 yX4_sizeOf, Cond.instanceMethod yX4_sizeOf, Cond.selects RX4 yX4_sizeOf yX4_sizeOf, Cond.code yX4_sizeOf cX4_sizeOf 2 (some .int)]
def wsX9_wouldRoll_r3 : List Cond := [Cond.fieldLink RX4 18 "MeridianSeries$Points" "sizes" "[I", Cond.methodLink RX4 34 yX4_openSize, Cond.instanceMethod yX4_openSize, Cond.selects RX4 yX4_openSize yX4_openSize, Cond.code yX4_openSize cX4_openSize 1 (some .int), Cond.fieldLink RX4 31 "MeridianSeries$Points" "amount" "I", Cond.sameField "MeridianSeries$Points" "MeridianSeries$Items" "amount" "I", Cond.fieldLink RX4 25 "MeridianSeries$Points" "sealedPoints" "I", Cond.methodLink RX4 42 yX4_number, Cond.instanceMethod yX4_number, Cond.selects RX4 yX4_number yX4_number, Cond.code yX4_number cX4_number 3 (some .int), Cond.fieldLink RX4 11 "MeridianSeries$Points" "times" "[I", Cond.fieldLink RX4 15 "MeridianSeries$Points" "values" "[I"]
def wsX9_wouldRoll : List Cond := .code yX9_wouldRoll cX9_wouldRoll 4 (some .int) :: ((wsX9_wouldRoll_r1 ++ (wsX9_wouldRoll_r2 ++ wsX9_wouldRoll_r3)) ++ wsX90 ++ wsX80 ++ wsX60 ++ wsJx4a65c0 ++ wsX40 ++ wsX00 ++ (vx_atS RX9 284 "java/lang/IllegalArgumentException" ["java/lang/RuntimeException", "java/lang/Exception"]).filter goodWord)
def wsX9_withBlocks_r1 : List Cond := [Cond.constantLong RX9 257 (31), Cond.fieldLink RX9 31 "MeridianSeries" "packer" "LMeridianSeries$Packer;", Cond.methodLink RX9 144 yX4_blockCount, Cond.instanceMethod yX4_blockCount, Cond.selects RX4 yX4_blockCount yX4_blockCount, Cond.initialized RX4, Cond.code yX4_blockCount cX4_blockCount 1 (some .int), Cond.fieldLink RX4 21 "MeridianSeries$Points" "sealedBlocks" "I", Cond.methodLink RX9 153 yX4_sizeOf, Cond.instanceMethod yX4_sizeOf, Cond.selects RX4 yX4_sizeOf yX4_sizeOf, Cond.code yX4_sizeOf cX4_sizeOf 2 (some .int), Cond.fieldLink RX4 18 "MeridianSeries$Points" "sizes" "[I", Cond.methodLink RX4 34 yX4_openSize, Cond.instanceMethod yX4_openSize, Cond.selects RX4 yX4_openSize yX4_openSize, Cond.code yX4_openSize cX4_openSize 1 (some .int), Cond.fieldLink RX4 31 "MeridianSeries$Points" "amount" "I", Cond.sameField "MeridianSeries$Points" "MeridianSeries$Items" "amount" "I", Cond.fieldLink RX4 25 "MeridianSeries$Points" "sealedPoints" "I", Cond.methodLink RX9 164 yX3_pack, Cond.instanceMethod yX3_pack, Cond.selects RX3 yX3_pack yX3_pack, Cond.initialized RX3]
def wsX9_withBlocks_r2 : List Cond := [Cond.code yX3_pack cX3_pack 6 (some .int), Cond.fieldLink RX3 31 "MeridianSeries$Points" "sealedBlocks" "I", Cond.fieldLink RX3 15 "MeridianSeries$Packer" "length" "I", Cond.methodLink RX3 36 yX4_startOf, Cond.instanceMethod yX4_startOf, Cond.selects RX4 yX4_startOf yX4_startOf, Cond.code yX4_startOf cX4_startOf 4 (some .int), Cond.methodLink RX4 38 yX4_sizeOf, Cond.methodLink RX3 40 yX4_sizeOf, Cond.methodLink RX3 43 yX3_begin, Cond.instanceMethod yX3_begin, Cond.selects RX3 yX3_begin yX3_begin, Cond.code yX3_begin cX3_begin 2 none, Cond.fieldLink RX3 11 "MeridianSeries$Packer" "words" "[I", Cond.fieldLink RX3 19 "MeridianSeries$Packer" "packed" "I", Cond.methodLink RX3 72 yJ7_fill_53178, Cond.static yJ7_fill_53178, Cond.initialized RJ7, Cond.code yJ7_fill_53178 cJ7_fill_53178 4 none, Cond.methodLink RX3 78 yX3_write, Cond.instanceMethod yX3_write, Cond.selects RX3 yX3_write yX3_write, Cond.code yX3_write cX3_write 5 none, Cond.methodLink RX3 47 yX4_number]
def wsX9_withBlocks_r3 : List Cond := [Cond.instanceMethod yX4_number, Cond.selects RX4 yX4_number yX4_number, Cond.code yX4_number cX4_number 3 (some .int), Cond.fieldLink RX4 11 "MeridianSeries$Points" "times" "[I", Cond.fieldLink RX4 15 "MeridianSeries$Points" "values" "[I", Cond.methodLink RX3 51 yX3_add, Cond.instanceMethod yX3_add, Cond.selects RX3 yX3_add yX3_add, Cond.code yX3_add cX3_add 4 none, Cond.constant RX3 81 (1048576), Cond.fieldLink RX3 25 "MeridianSeries$Packer" "lastStep" "I", Cond.fieldLink RX3 22 "MeridianSeries$Packer" "lastTime" "I", Cond.fieldLink RX3 28 "MeridianSeries$Packer" "lastValue" "I", Cond.methodLink RX3 82 yX3_addTime, Cond.instanceMethod yX3_addTime, Cond.selects RX3 yX3_addTime yX3_addTime, Cond.code yX3_addTime cX3_addTime 2 none, Cond.static yX9_isIn, Cond.initialized RX9, Cond.code yX9_isIn cX9_isIn 4 (some .boolean), Cond.methodLink RX3 85 yX3_addValue, Cond.instanceMethod yX3_addValue, Cond.selects RX3 yX3_addValue yX3_addValue, Cond.code yX3_addValue cX3_addValue 2 none]
def wsX9_withBlocks_r4 : List Cond := [Cond.constant RX3 92 (262144), Cond.methodLink RX9 160 yX4_number]
def wsX9_withBlocks : List Cond := .code yX9_withBlocks cX9_withBlocks 10 (some .long) :: ((wsX9_withBlocks_r1 ++ (wsX9_withBlocks_r2 ++ (wsX9_withBlocks_r3 ++ wsX9_withBlocks_r4))) ++ wsX90 ++ wsX40 ++ wsX00 ++ wsX30)
def wsX9_withBuckets : List Cond := .code yX9_withBuckets cX9_withBuckets 7 (some .long) :: ([.constantLong RX9 257 (31), .fieldLink RX9 178 "MeridianSeries$Buckets" "amount" "I", .sameField "MeridianSeries$Buckets" "MeridianSeries$Items" "amount" "I", .methodLink RX9 183 yX0_number, .instanceMethod yX0_number, .selects RX0 yX0_number yX0_number, .initialized RX0, .code yX0_number cX0_number 4 (some .int), .fieldLink RX0 11 "MeridianSeries$Buckets" "cells" "[I"] ++ wsX00 ++ wsX40)
def wsX9_withWindows_r1 : List Cond := [Cond.constantLong RX9 257 (31), Cond.methodLink RX9 196 yX9_toldByQuery, Cond.instanceMethod yX9_toldByQuery, Cond.selects RX9 yX9_toldByQuery yX9_toldByQuery, Cond.initialized RX9, Cond.code yX9_toldByQuery cX9_toldByQuery 4 (some .int), Cond.fieldLink RX9 35 "MeridianSeries" "queryFrom" "I", Cond.fieldLink RX9 39 "MeridianSeries" "queryStep" "I", Cond.fieldLink RX9 42 "MeridianSeries" "queryWhat" "I", Cond.fieldLink RX9 45 "MeridianSeries" "queryFill" "I", Cond.methodLink RX9 305 yX6_tell, Cond.instanceMethod yX6_tell, Cond.selects RX6 yX6_tell yX6_tell, Cond.initialized RX6, Cond.code yX6_tell cX6_tell 7 (some .int), Cond.methodLink RX6 115 yX6_firstItemFrom, Cond.instanceMethod yX6_firstItemFrom, Cond.selects RX6 yX6_firstItemFrom yX6_firstItemFrom, Cond.code yX6_firstItemFrom cX6_firstItemFrom 6 (some .int), Cond.methodLink RX6 109 yX6_itemCount, Cond.instanceMethod yX6_itemCount, Cond.selects RX6 yX6_itemCount yX6_itemCount, Cond.code yX6_itemCount cX6_itemCount 1 (some .int), Cond.fieldLink RX6 25 "MeridianSeries$Series" "coarse" "LMeridianSeries$Buckets;"]
def wsX9_withWindows_r2 : List Cond := [Cond.fieldLink RX6 79 "MeridianSeries$Buckets" "amount" "I", Cond.sameField "MeridianSeries$Buckets" "MeridianSeries$Items" "amount" "I", Cond.fieldLink RX6 21 "MeridianSeries$Series" "fine" "LMeridianSeries$Buckets;", Cond.fieldLink RX6 12 "MeridianSeries$Series" "points" "LMeridianSeries$Points;", Cond.fieldLink RX6 108 "MeridianSeries$Points" "amount" "I", Cond.sameField "MeridianSeries$Points" "MeridianSeries$Items" "amount" "I", Cond.methodLink RX6 112 yX6_ofItem, Cond.instanceMethod yX6_ofItem, Cond.selects RX6 yX6_ofItem yX6_ofItem, Cond.code yX6_ofItem cX6_ofItem 4 (some .int), Cond.methodLink RX6 82 yX0_number, Cond.instanceMethod yX0_number, Cond.selects RX0 yX0_number yX0_number, Cond.initialized RX0, Cond.code yX0_number cX0_number 4 (some .int), Cond.fieldLink RX0 11 "MeridianSeries$Buckets" "cells" "[I", Cond.methodLink RX6 88 yX4_number, Cond.instanceMethod yX4_number, Cond.selects RX4 yX4_number yX4_number, Cond.initialized RX4, Cond.code yX4_number cX4_number 3 (some .int), Cond.fieldLink RX4 11 "MeridianSeries$Points" "times" "[I", Cond.fieldLink RX4 15 "MeridianSeries$Points" "values" "[I", Cond.methodLink RX6 118 yX6_toldOfGap]
def wsX9_withWindows_r3 : List Cond := [Cond.instanceMethod yX6_toldOfGap, Cond.selects RX6 yX6_toldOfGap yX6_toldOfGap, Cond.code yX6_toldOfGap cX6_toldOfGap 5 (some .int), Cond.constant RX6 134 (-1000000), Cond.methodLink RX6 135 yX6_onLine, Cond.instanceMethod yX6_onLine, Cond.selects RX6 yX6_onLine yX6_onLine, Cond.code yX6_onLine cX6_onLine 9 (some .int), Cond.methodLink RX6 122 yX6_total, Cond.instanceMethod yX6_total, Cond.selects RX6 yX6_total yX6_total, Cond.code yX6_total cX6_total 6 (some .int), Cond.methodLink RX6 125 yX6_least, Cond.instanceMethod yX6_least, Cond.selects RX6 yX6_least yX6_least, Cond.code yX6_least cX6_least 5 (some .int), Cond.methodLink RX6 138 Lib.Math.min.name, Cond.static Lib.Math.min.name, Cond.initialized "java/lang/Math", Cond.code Lib.Math.min.name Lib.Math.min.code 2 (some .int), Cond.methodLink RX6 128 yX6_greatest, Cond.instanceMethod yX6_greatest, Cond.selects RX6 yX6_greatest yX6_greatest, Cond.code yX6_greatest cX6_greatest 5 (some .int)]
def wsX9_withWindows_r4 : List Cond := [Cond.methodLink RX6 143 Lib.Math.max.name, Cond.static Lib.Math.max.name, Cond.code Lib.Math.max.name Lib.Math.max.code 2 (some .int), Cond.methodLink RX6 131 yX6_quotient, Cond.static yX6_quotient, Cond.code yX6_quotient cX6_quotient 2 (some .int)]
def wsX9_withWindows : List Cond := .code yX9_withWindows cX9_withWindows 7 (some .long) :: ((wsX9_withWindows_r1 ++ (wsX9_withWindows_r2 ++ (wsX9_withWindows_r3 ++ wsX9_withWindows_r4))) ++ wsX90 ++ wsX60 ++ wsX00 ++ wsX40)
def wsX9_digest_r1 : List Cond := [Cond.constantLong RX9 255 (58058), Cond.constantLong RX9 257 (31), Cond.fieldLink RX9 21 "MeridianSeries" "store" "LMeridianSeries$Store;", Cond.fieldLink RX9 141 "MeridianSeries$Store" "now" "I", Cond.fieldLink RX9 59 "MeridianSeries$Store" "chains" "Ljava/util/ArrayList;", Cond.fieldLink RX9 48 "MeridianSeries" "lateCount" "I", Cond.fieldLink RX9 129 "MeridianSeries$Store" "log" "LMeridianSeries$EventLog;", Cond.fieldLink RX9 133 "MeridianSeries$EventLog" "total" "I", Cond.classLink RX9 72 "MeridianSeries$Series", Cond.fieldLink RX9 116 "MeridianSeries$Series" "points" "LMeridianSeries$Points;", Cond.fieldLink RX9 263 "MeridianSeries$Series" "fine" "LMeridianSeries$Buckets;", Cond.fieldLink RX9 271 "MeridianSeries$Series" "coarse" "LMeridianSeries$Buckets;", Cond.fieldLink RX9 216 "MeridianSeries$Store" "rules" "Ljava/util/ArrayList;", Cond.classLink RX9 219 "MeridianSeries$Rule", Cond.fieldLink RX9 228 "MeridianSeries$Rule" "state" "I", Cond.fieldLink RX9 231 "MeridianSeries$Rule" "timesInRow" "I", Cond.methodLink RX9 63 yJx4a65c_size_8abf5, Cond.instanceMethod yJx4a65c_size_8abf5, Cond.selects RJx4a65c yJx4a65c_size_8abf5 yJx4a65c_size_8abf5, Cond.initialized RJx4a65c, Cond.code yJx4a65c_size_8abf5 cJx4a65c_size_8abf5 1 (some .int), Cond.fieldLink RJx4a65c 48 "java/util/ArrayList" "size" "I", Cond.methodLink RX9 187 yJx4a65c_get_915e3, Cond.instanceMethod yJx4a65c_get_915e3]
def wsX9_digest_r2 : List Cond := [Cond.selects RJx4a65c yJx4a65c_get_915e3 yJx4a65c_get_915e3, Cond.code yJx4a65c_get_915e3 cJx4a65c_get_915e3 2 (some (.object "java/lang/Object")), Cond.methodLink RJx4a65c 118 yJ15_checkIndex_7cf53, Cond.static yJ15_checkIndex_7cf53, Cond.initialized RJ15, Cond.code yJ15_checkIndex_7cf53 cJ15_checkIndex_7cf53 2 (some .int), Cond.methodLink RJ15 105 yJ3_checkIndex_8e157, Cond.static yJ3_checkIndex_8e157, Cond.initialized RJ3, Cond.code yJ3_checkIndex_8e157 cJ3_checkIndex_8e157 3 (some .int), Cond.methodLink RJx4a65c 123 yJx4a65c_elementData_915e3, Cond.instanceMethod yJx4a65c_elementData_915e3, Cond.selects RJx4a65c yJx4a65c_elementData_915e3 yJx4a65c_elementData_915e3, Cond.code yJx4a65c_elementData_915e3 cJx4a65c_elementData_915e3 2 (some (.object "java/lang/Object")), Cond.fieldLink RJx4a65c 9 "java/util/ArrayList" "elementData" "[Ljava/lang/Object;", Cond.methodLink RX9 259 yX9_withBlocks, Cond.instanceMethod yX9_withBlocks, Cond.selects RX9 yX9_withBlocks yX9_withBlocks, Cond.initialized RX9, Cond.code yX9_withBlocks cX9_withBlocks 10 (some .long), Cond.fieldLink RX9 31 "MeridianSeries" "packer" "LMeridianSeries$Packer;", Cond.methodLink RX9 144 yX4_blockCount, Cond.instanceMethod yX4_blockCount, Cond.selects RX4 yX4_blockCount yX4_blockCount]
def wsX9_digest_r3 : List Cond := [Cond.initialized RX4, Cond.code yX4_blockCount cX4_blockCount 1 (some .int), Cond.fieldLink RX4 21 "MeridianSeries$Points" "sealedBlocks" "I", Cond.methodLink RX9 153 yX4_sizeOf, Cond.instanceMethod yX4_sizeOf, Cond.selects RX4 yX4_sizeOf yX4_sizeOf, Cond.code yX4_sizeOf cX4_sizeOf 2 (some .int), Cond.fieldLink RX4 18 "MeridianSeries$Points" "sizes" "[I", Cond.methodLink RX4 34 yX4_openSize, Cond.instanceMethod yX4_openSize, Cond.selects RX4 yX4_openSize yX4_openSize, Cond.code yX4_openSize cX4_openSize 1 (some .int), Cond.fieldLink RX4 31 "MeridianSeries$Points" "amount" "I", Cond.sameField "MeridianSeries$Points" "MeridianSeries$Items" "amount" "I", Cond.fieldLink RX4 25 "MeridianSeries$Points" "sealedPoints" "I", Cond.methodLink RX9 164 yX3_pack, Cond.instanceMethod yX3_pack, Cond.selects RX3 yX3_pack yX3_pack, Cond.initialized RX3, Cond.code yX3_pack cX3_pack 6 (some .int), Cond.fieldLink RX3 31 "MeridianSeries$Points" "sealedBlocks" "I", Cond.fieldLink RX3 15 "MeridianSeries$Packer" "length" "I", Cond.methodLink RX3 36 yX4_startOf, Cond.instanceMethod yX4_startOf]
def wsX9_digest_r4 : List Cond := [Cond.selects RX4 yX4_startOf yX4_startOf, Cond.code yX4_startOf cX4_startOf 4 (some .int), Cond.methodLink RX4 38 yX4_sizeOf, Cond.methodLink RX3 40 yX4_sizeOf, Cond.methodLink RX3 43 yX3_begin, Cond.instanceMethod yX3_begin, Cond.selects RX3 yX3_begin yX3_begin, Cond.code yX3_begin cX3_begin 2 none, Cond.fieldLink RX3 11 "MeridianSeries$Packer" "words" "[I", Cond.fieldLink RX3 19 "MeridianSeries$Packer" "packed" "I", Cond.methodLink RX3 72 yJ7_fill_53178, Cond.static yJ7_fill_53178, Cond.initialized RJ7, Cond.code yJ7_fill_53178 cJ7_fill_53178 4 none, Cond.methodLink RX3 78 yX3_write, Cond.instanceMethod yX3_write, Cond.selects RX3 yX3_write yX3_write, Cond.code yX3_write cX3_write 5 none, Cond.methodLink RX3 47 yX4_number, Cond.instanceMethod yX4_number, Cond.selects RX4 yX4_number yX4_number, Cond.code yX4_number cX4_number 3 (some .int), Cond.fieldLink RX4 11 "MeridianSeries$Points" "times" "[I", Cond.fieldLink RX4 15 "MeridianSeries$Points" "values" "[I"]
def wsX9_digest_r5 : List Cond := [Cond.methodLink RX3 51 yX3_add, Cond.instanceMethod yX3_add, Cond.selects RX3 yX3_add yX3_add, Cond.code yX3_add cX3_add 4 none, Cond.constant RX3 81 (1048576), Cond.fieldLink RX3 25 "MeridianSeries$Packer" "lastStep" "I", Cond.fieldLink RX3 22 "MeridianSeries$Packer" "lastTime" "I", Cond.fieldLink RX3 28 "MeridianSeries$Packer" "lastValue" "I", Cond.methodLink RX3 82 yX3_addTime, Cond.instanceMethod yX3_addTime, Cond.selects RX3 yX3_addTime yX3_addTime, Cond.code yX3_addTime cX3_addTime 2 none, Cond.static yX9_isIn, Cond.code yX9_isIn cX9_isIn 4 (some .boolean), Cond.methodLink RX3 85 yX3_addValue, Cond.instanceMethod yX3_addValue, Cond.selects RX3 yX3_addValue yX3_addValue, Cond.code yX3_addValue cX3_addValue 2 none, Cond.constant RX3 92 (262144), Cond.methodLink RX9 160 yX4_number, Cond.methodLink RX9 267 yX9_withBuckets, Cond.static yX9_withBuckets, Cond.code yX9_withBuckets cX9_withBuckets 7 (some .long), Cond.fieldLink RX9 178 "MeridianSeries$Buckets" "amount" "I"]
def wsX9_digest_r6 : List Cond := [Cond.sameField "MeridianSeries$Buckets" "MeridianSeries$Items" "amount" "I", Cond.methodLink RX9 183 yX0_number, Cond.instanceMethod yX0_number, Cond.selects RX0 yX0_number yX0_number, Cond.initialized RX0, Cond.code yX0_number cX0_number 4 (some .int), Cond.fieldLink RX0 11 "MeridianSeries$Buckets" "cells" "[I", Cond.methodLink RX9 274 yX9_withWindows, Cond.instanceMethod yX9_withWindows, Cond.selects RX9 yX9_withWindows yX9_withWindows, Cond.code yX9_withWindows cX9_withWindows 7 (some .long), Cond.methodLink RX9 196 yX9_toldByQuery, Cond.instanceMethod yX9_toldByQuery, Cond.selects RX9 yX9_toldByQuery yX9_toldByQuery, Cond.code yX9_toldByQuery cX9_toldByQuery 4 (some .int), Cond.fieldLink RX9 35 "MeridianSeries" "queryFrom" "I", Cond.fieldLink RX9 39 "MeridianSeries" "queryStep" "I", Cond.fieldLink RX9 42 "MeridianSeries" "queryWhat" "I", Cond.fieldLink RX9 45 "MeridianSeries" "queryFill" "I", Cond.methodLink RX9 305 yX6_tell, Cond.instanceMethod yX6_tell, Cond.selects RX6 yX6_tell yX6_tell, Cond.initialized RX6, Cond.code yX6_tell cX6_tell 7 (some .int)]
def wsX9_digest_r7 : List Cond := [Cond.methodLink RX6 115 yX6_firstItemFrom, Cond.instanceMethod yX6_firstItemFrom, Cond.selects RX6 yX6_firstItemFrom yX6_firstItemFrom, Cond.code yX6_firstItemFrom cX6_firstItemFrom 6 (some .int), Cond.methodLink RX6 109 yX6_itemCount, Cond.instanceMethod yX6_itemCount, Cond.selects RX6 yX6_itemCount yX6_itemCount, Cond.code yX6_itemCount cX6_itemCount 1 (some .int), Cond.fieldLink RX6 25 "MeridianSeries$Series" "coarse" "LMeridianSeries$Buckets;", Cond.fieldLink RX6 79 "MeridianSeries$Buckets" "amount" "I", Cond.fieldLink RX6 21 "MeridianSeries$Series" "fine" "LMeridianSeries$Buckets;", Cond.fieldLink RX6 12 "MeridianSeries$Series" "points" "LMeridianSeries$Points;", Cond.fieldLink RX6 108 "MeridianSeries$Points" "amount" "I", Cond.methodLink RX6 112 yX6_ofItem, Cond.instanceMethod yX6_ofItem, Cond.selects RX6 yX6_ofItem yX6_ofItem, Cond.code yX6_ofItem cX6_ofItem 4 (some .int), Cond.methodLink RX6 82 yX0_number, Cond.methodLink RX6 88 yX4_number, Cond.methodLink RX6 118 yX6_toldOfGap, Cond.instanceMethod yX6_toldOfGap, Cond.selects RX6 yX6_toldOfGap yX6_toldOfGap, Cond.code yX6_toldOfGap cX6_toldOfGap 5 (some .int), Cond.constant RX6 134 (-1000000)]
def wsX9_digest_r8 : List Cond := [Cond.methodLink RX6 135 yX6_onLine, Cond.instanceMethod yX6_onLine, Cond.selects RX6 yX6_onLine yX6_onLine, Cond.code yX6_onLine cX6_onLine 9 (some .int), Cond.methodLink RX6 122 yX6_total, Cond.instanceMethod yX6_total, Cond.selects RX6 yX6_total yX6_total, Cond.code yX6_total cX6_total 6 (some .int), Cond.methodLink RX6 125 yX6_least, Cond.instanceMethod yX6_least, Cond.selects RX6 yX6_least yX6_least, Cond.code yX6_least cX6_least 5 (some .int), Cond.methodLink RX6 138 Lib.Math.min.name, Cond.static Lib.Math.min.name, Cond.initialized "java/lang/Math", Cond.code Lib.Math.min.name Lib.Math.min.code 2 (some .int), Cond.methodLink RX6 128 yX6_greatest, Cond.instanceMethod yX6_greatest, Cond.selects RX6 yX6_greatest yX6_greatest, Cond.code yX6_greatest cX6_greatest 5 (some .int), Cond.methodLink RX6 143 Lib.Math.max.name, Cond.static Lib.Math.max.name, Cond.code Lib.Math.max.name Lib.Math.max.code 2 (some .int), Cond.methodLink RX6 131 yX6_quotient]
def wsX9_digest_r9 : List Cond := [Cond.static yX6_quotient, Cond.code yX6_quotient cX6_quotient 2 (some .int), Cond.methodLink RX9 234 yX5_told, Cond.instanceMethod yX5_told, Cond.selects RX5 yX5_told yX5_told, Cond.initialized RX5, Cond.code yX5_told cX5_told 2 (some .int), Cond.fieldLink RX5 18 "MeridianSeries$Rule" "chain" "LMeridianSeries$Series;", Cond.fieldLink RX5 25 "MeridianSeries$Rule" "length" "I", Cond.fieldLink RX5 22 "MeridianSeries$Rule" "what" "I", Cond.methodLink RX5 41 yX6_tell, Cond.methodLink RX9 237 yX1_number, Cond.instanceMethod yX1_number, Cond.selects RX1 yX1_number yX1_number, Cond.initialized RX1, Cond.code yX1_number cX1_number 4 (some .int), Cond.fieldLink RX1 15 "MeridianSeries$EventLog" "total" "I", Cond.fieldLink RX1 9 "MeridianSeries$EventLog" "cells" "[I"]
def wsX9_digest : List Cond := .code yX9_digest cX9_digest 5 (some .long) :: ((wsX9_digest_r1 ++ (wsX9_digest_r2 ++ (wsX9_digest_r3 ++ (wsX9_digest_r4 ++ (wsX9_digest_r5 ++ (wsX9_digest_r6 ++ (wsX9_digest_r7 ++ (wsX9_digest_r8 ++ wsX9_digest_r9)))))))) ++ wsX90 ++ wsX80 ++ wsX10 ++ wsX60 ++ wsX50 ++ wsJx4a65c0 ++ wsX40 ++ wsX00 ++ wsX30)
def wsJ9_max_7cf53 : List Cond := .code yJ9_max_7cf53 cJ9_max_7cf53 2 (some .int) :: ([])
def wsJ9_min_7cf53 : List Cond := .code yJ9_min_7cf53 cJ9_min_7cf53 2 (some .int) :: ([])
set_option maxRecDepth 20000 in
set_option maxRecDepth 20000 in
set_option maxRecDepth 20000 in
set_option maxRecDepth 20000 in
set_option maxRecDepth 20000 in
set_option maxRecDepth 20000 in
set_option maxRecDepth 20000 in
set_option maxRecDepth 20000 in
set_option maxRecDepth 20000 in
set_option maxRecDepth 20000 in
set_option maxRecDepth 20000 in
set_option maxRecDepth 20000 in
set_option maxRecDepth 20000 in
set_option maxRecDepth 20000 in
set_option maxRecDepth 20000 in
set_option maxRecDepth 20000 in
set_option maxRecDepth 20000 in
set_option maxRecDepth 20000 in
set_option maxRecDepth 20000 in
set_option maxRecDepth 20000 in
set_option maxRecDepth 20000 in
set_option maxRecDepth 20000 in
set_option maxRecDepth 20000 in
set_option maxRecDepth 20000 in
set_option maxRecDepth 20000 in
set_option maxRecDepth 20000 in
set_option maxRecDepth 20000 in
set_option maxRecDepth 20000 in
set_option maxRecDepth 20000 in
set_option maxRecDepth 20000 in
set_option maxRecDepth 20000 in
set_option maxRecDepth 20000 in
set_option maxRecDepth 20000 in
set_option maxRecDepth 20000 in
set_option maxRecDepth 20000 in
set_option maxRecDepth 20000 in
set_option maxRecDepth 20000 in
set_option maxRecDepth 20000 in
set_option maxRecDepth 20000 in
set_option maxRecDepth 20000 in
set_option maxRecDepth 20000 in
set_option maxRecDepth 20000 in
set_option maxRecDepth 20000 in
set_option maxRecDepth 20000 in
set_option maxRecDepth 20000 in
set_option maxRecDepth 20000 in
set_option maxRecDepth 20000 in
set_option maxRecDepth 20000 in
set_option maxRecDepth 20000 in
set_option maxRecDepth 20000 in
set_option maxRecDepth 20000 in
set_option maxRecDepth 20000 in
set_option maxRecDepth 20000 in
set_option maxRecDepth 20000 in
set_option maxRecDepth 20000 in
set_option maxRecDepth 20000 in
set_option maxRecDepth 20000 in
set_option maxRecDepth 20000 in
set_option maxRecDepth 20000 in
set_option maxRecDepth 20000 in
set_option maxRecDepth 20000 in
set_option maxRecDepth 20000 in
set_option maxRecDepth 20000 in
set_option maxRecDepth 20000 in
set_option maxRecDepth 20000 in
set_option maxRecDepth 20000 in
set_option maxRecDepth 20000 in
set_option maxRecDepth 20000 in
set_option maxRecDepth 20000 in
set_option maxRecDepth 20000 in
set_option maxRecDepth 20000 in
set_option maxRecDepth 20000 in
set_option maxRecDepth 20000 in
set_option maxRecDepth 20000 in
set_option maxRecDepth 20000 in
set_option maxRecDepth 20000 in
set_option maxRecDepth 20000 in
set_option maxRecDepth 20000 in
set_option maxRecDepth 20000 in
set_option maxRecDepth 20000 in
set_option maxRecDepth 20000 in
set_option maxRecDepth 20000 in
set_option maxRecDepth 20000 in
set_option maxRecDepth 20000 in
set_option maxRecDepth 20000 in
set_option maxRecDepth 20000 in
set_option maxRecDepth 20000 in
set_option maxRecDepth 20000 in
set_option maxRecDepth 20000 in
set_option maxRecDepth 20000 in
set_option maxRecDepth 20000 in
set_option maxRecDepth 20000 in
set_option maxRecDepth 20000 in
set_option maxRecDepth 20000 in
set_option maxRecDepth 20000 in
set_option maxRecDepth 20000 in
set_option maxRecDepth 20000 in
set_option maxRecDepth 20000 in
set_option maxRecDepth 20000 in
set_option maxRecDepth 20000 in
set_option maxRecDepth 20000 in
set_option maxRecDepth 20000 in
set_option maxRecDepth 20000 in
set_option maxRecDepth 20000 in
set_option maxRecDepth 20000 in
set_option maxRecDepth 20000 in
set_option maxRecDepth 20000 in
set_option maxRecDepth 20000 in
set_option maxRecDepth 20000 in
set_option maxRecDepth 20000 in
set_option maxRecDepth 20000 in
set_option maxRecDepth 20000 in
set_option maxRecDepth 20000 in
set_option maxRecDepth 20000 in
set_option maxRecDepth 20000 in
set_option maxRecDepth 20000 in
set_option maxRecDepth 20000 in
set_option maxRecDepth 20000 in
set_option maxRecDepth 20000 in
set_option maxRecDepth 20000 in
set_option maxRecDepth 20000 in
set_option maxRecDepth 20000 in
set_option maxRecDepth 20000 in
set_option maxRecDepth 20000 in
set_option maxRecDepth 20000 in
set_option maxRecDepth 20000 in
set_option maxRecDepth 20000 in
set_option maxRecDepth 20000 in
set_option maxRecDepth 20000 in
set_option maxRecDepth 20000 in
set_option maxRecDepth 20000 in
set_option maxRecDepth 20000 in
set_option maxRecDepth 20000 in
set_option maxRecDepth 20000 in
set_option maxRecDepth 20000 in
set_option maxRecDepth 20000 in
set_option maxRecDepth 20000 in
set_option maxRecDepth 20000 in
set_option maxRecDepth 20000 in
set_option maxRecDepth 20000 in
set_option maxRecDepth 20000 in
set_option maxRecDepth 20000 in
set_option maxRecDepth 20000 in
set_option maxRecDepth 20000 in
set_option maxRecDepth 20000 in
set_option maxRecDepth 20000 in
set_option maxRecDepth 20000 in
set_option maxRecDepth 20000 in
set_option maxRecDepth 20000 in
set_option maxRecDepth 20000 in
set_option maxRecDepth 20000 in
set_option maxRecDepth 20000 in
set_option maxRecDepth 20000 in
set_option maxRecDepth 20000 in
set_option maxRecDepth 20000 in
set_option maxRecDepth 20000 in
set_option maxRecDepth 20000 in
set_option maxRecDepth 20000 in
set_option maxRecDepth 20000 in
set_option maxRecDepth 20000 in
set_option maxRecDepth 20000 in
set_option maxRecDepth 20000 in
set_option maxRecDepth 20000 in
set_option maxRecDepth 20000 in
set_option maxRecDepth 20000 in
set_option maxRecDepth 20000 in
set_option maxRecDepth 20000 in
set_option maxRecDepth 20000 in
set_option maxRecDepth 20000 in
set_option maxRecDepth 20000 in
set_option maxRecDepth 20000 in
set_option maxRecDepth 20000 in
set_option maxRecDepth 20000 in
set_option maxRecDepth 20000 in
set_option maxRecDepth 20000 in
set_option maxRecDepth 20000 in
set_option maxRecDepth 20000 in
set_option maxRecDepth 20000 in
set_option maxRecDepth 20000 in
set_option maxRecDepth 20000 in
set_option maxRecDepth 20000 in
set_option maxRecDepth 20000 in
set_option maxRecDepth 20000 in
set_option maxRecDepth 20000 in
set_option maxRecDepth 20000 in
set_option maxRecDepth 20000 in
set_option maxRecDepth 20000 in
set_option maxRecDepth 20000 in
set_option maxRecDepth 20000 in
set_option maxRecDepth 20000 in
set_option maxRecDepth 20000 in
set_option maxRecDepth 20000 in
set_option maxRecDepth 20000 in
set_option maxRecDepth 20000 in
set_option maxRecDepth 20000 in
set_option maxRecDepth 20000 in
set_option maxRecDepth 20000 in
set_option maxRecDepth 20000 in
set_option maxRecDepth 20000 in
set_option maxRecDepth 20000 in
set_option maxRecDepth 20000 in
set_option maxRecDepth 20000 in
set_option maxRecDepth 20000 in
set_option maxRecDepth 20000 in
set_option maxRecDepth 20000 in
set_option maxRecDepth 20000 in
set_option maxRecDepth 20000 in
set_option maxRecDepth 20000 in
set_option maxRecDepth 20000 in
set_option maxRecDepth 20000 in
set_option maxRecDepth 20000 in
set_option maxRecDepth 20000 in
set_option maxRecDepth 20000 in
set_option maxRecDepth 20000 in
set_option maxRecDepth 20000 in
set_option maxRecDepth 20000 in
set_option maxRecDepth 20000 in
set_option maxRecDepth 20000 in
set_option maxRecDepth 20000 in
set_option maxRecDepth 20000 in
set_option maxRecDepth 20000 in
set_option maxRecDepth 20000 in
set_option maxRecDepth 20000 in
set_option maxRecDepth 20000 in
set_option maxRecDepth 20000 in
set_option maxRecDepth 20000 in
set_option maxRecDepth 20000 in
set_option maxRecDepth 20000 in
set_option maxRecDepth 20000 in
set_option maxRecDepth 20000 in
set_option maxRecDepth 20000 in
set_option maxRecDepth 20000 in
set_option maxRecDepth 20000 in
set_option maxRecDepth 20000 in
set_option maxRecDepth 20000 in
set_option maxRecDepth 20000 in
set_option maxRecDepth 20000 in
set_option maxRecDepth 20000 in
set_option maxRecDepth 20000 in
set_option maxRecDepth 20000 in
set_option maxRecDepth 20000 in
set_option maxRecDepth 20000 in
set_option maxRecDepth 20000 in
set_option maxRecDepth 20000 in
set_option maxRecDepth 20000 in
set_option maxRecDepth 20000 in
set_option maxRecDepth 20000 in
set_option maxRecDepth 20000 in
set_option maxRecDepth 20000 in
set_option maxRecDepth 20000 in
set_option maxRecDepth 20000 in
set_option maxRecDepth 20000 in
set_option maxRecDepth 20000 in
set_option maxRecDepth 20000 in
set_option maxRecDepth 20000 in
set_option maxRecDepth 20000 in
set_option maxRecDepth 20000 in
set_option maxRecDepth 20000 in
set_option maxRecDepth 20000 in
set_option maxRecDepth 20000 in
set_option maxRecDepth 20000 in
set_option maxRecDepth 20000 in
set_option maxRecDepth 20000 in
set_option maxRecDepth 20000 in
set_option maxRecDepth 20000 in
set_option maxRecDepth 20000 in
set_option maxRecDepth 20000 in
set_option maxRecDepth 20000 in
set_option maxRecDepth 20000 in
set_option maxRecDepth 20000 in
set_option maxRecDepth 20000 in
set_option maxRecDepth 20000 in
set_option maxRecDepth 20000 in
set_option maxRecDepth 20000 in
set_option maxRecDepth 20000 in
set_option maxRecDepth 20000 in
set_option maxRecDepth 20000 in
set_option maxRecDepth 20000 in
set_option maxRecDepth 20000 in
set_option maxRecDepth 20000 in
set_option maxRecDepth 20000 in
set_option maxRecDepth 20000 in
set_option maxRecDepth 20000 in
set_option maxRecDepth 20000 in
set_option maxRecDepth 20000 in
set_option maxRecDepth 20000 in
set_option maxRecDepth 20000 in
set_option maxRecDepth 20000 in
set_option maxRecDepth 20000 in
set_option maxRecDepth 20000 in
set_option maxRecDepth 20000 in
set_option maxRecDepth 20000 in
set_option maxRecDepth 20000 in
set_option maxRecDepth 20000 in
set_option maxRecDepth 20000 in
set_option maxRecDepth 20000 in
set_option maxRecDepth 20000 in
set_option maxRecDepth 20000 in
set_option maxRecDepth 20000 in
set_option maxRecDepth 20000 in
set_option maxRecDepth 20000 in
set_option maxRecDepth 20000 in
set_option maxRecDepth 20000 in
set_option maxRecDepth 20000 in
set_option maxRecDepth 20000 in
set_option maxRecDepth 20000 in
set_option maxRecDepth 20000 in
set_option maxRecDepth 20000 in
set_option maxRecDepth 20000 in
set_option maxRecDepth 20000 in
set_option maxRecDepth 20000 in
set_option maxRecDepth 20000 in
set_option maxRecDepth 20000 in
set_option maxRecDepth 20000 in
set_option maxRecDepth 20000 in
set_option maxRecDepth 20000 in
set_option maxRecDepth 20000 in
set_option maxRecDepth 20000 in
set_option maxRecDepth 20000 in
set_option maxRecDepth 20000 in
set_option maxRecDepth 20000 in
set_option maxRecDepth 20000 in
set_option maxRecDepth 20000 in
set_option maxRecDepth 20000 in
set_option maxRecDepth 20000 in
set_option maxRecDepth 20000 in
set_option maxRecDepth 20000 in
set_option maxRecDepth 20000 in
set_option maxRecDepth 20000 in
set_option maxRecDepth 20000 in
set_option maxRecDepth 20000 in
set_option maxRecDepth 20000 in
set_option maxRecDepth 20000 in
set_option maxRecDepth 20000 in
set_option maxRecDepth 20000 in
set_option maxRecDepth 20000 in
set_option maxRecDepth 20000 in
set_option maxRecDepth 20000 in
set_option maxRecDepth 20000 in
set_option maxRecDepth 20000 in
set_option maxRecDepth 20000 in
set_option maxRecDepth 20000 in
set_option maxRecDepth 20000 in
set_option maxRecDepth 20000 in
set_option maxRecDepth 20000 in
set_option maxRecDepth 20000 in
set_option maxRecDepth 20000 in
set_option maxRecDepth 20000 in
set_option maxRecDepth 20000 in
set_option maxRecDepth 20000 in
set_option maxRecDepth 20000 in
set_option maxRecDepth 20000 in
set_option maxRecDepth 20000 in
set_option maxRecDepth 20000 in
set_option maxRecDepth 20000 in
set_option maxRecDepth 20000 in
set_option maxRecDepth 20000 in
set_option maxRecDepth 20000 in
set_option maxRecDepth 20000 in
set_option maxRecDepth 20000 in
set_option maxRecDepth 20000 in
set_option maxRecDepth 20000 in
set_option maxRecDepth 20000 in
set_option maxRecDepth 20000 in
set_option maxRecDepth 20000 in
set_option maxRecDepth 20000 in
set_option maxRecDepth 20000 in
set_option maxRecDepth 20000 in
set_option maxRecDepth 20000 in
set_option maxRecDepth 20000 in
set_option maxRecDepth 20000 in
set_option maxRecDepth 20000 in
set_option maxRecDepth 20000 in
set_option maxRecDepth 20000 in
set_option maxRecDepth 20000 in
set_option maxRecDepth 20000 in
set_option maxRecDepth 20000 in
set_option maxRecDepth 20000 in
set_option maxRecDepth 20000 in
set_option maxRecDepth 20000 in
set_option maxRecDepth 20000 in
set_option maxRecDepth 20000 in
set_option maxRecDepth 20000 in
set_option maxRecDepth 20000 in
set_option maxRecDepth 20000 in
set_option maxRecDepth 20000 in
set_option maxRecDepth 20000 in
set_option maxRecDepth 20000 in
set_option maxRecDepth 20000 in
set_option maxRecDepth 20000 in
set_option maxRecDepth 20000 in
set_option maxRecDepth 20000 in
set_option maxRecDepth 20000 in
set_option maxRecDepth 20000 in
set_option maxRecDepth 20000 in
set_option maxRecDepth 20000 in
set_option maxRecDepth 20000 in
set_option maxRecDepth 20000 in
set_option maxRecDepth 20000 in
set_option maxRecDepth 20000 in
set_option maxRecDepth 20000 in
set_option maxRecDepth 20000 in
set_option maxRecDepth 20000 in
set_option maxRecDepth 20000 in
set_option maxRecDepth 20000 in
set_option maxRecDepth 20000 in
set_option maxRecDepth 20000 in
set_option maxRecDepth 20000 in
set_option maxRecDepth 20000 in
set_option maxRecDepth 20000 in
set_option maxRecDepth 20000 in
set_option maxRecDepth 20000 in
set_option maxRecDepth 20000 in
set_option maxRecDepth 20000 in
set_option maxRecDepth 20000 in
set_option maxRecDepth 20000 in
set_option maxRecDepth 20000 in
set_option maxRecDepth 20000 in
set_option maxRecDepth 20000 in
set_option maxRecDepth 20000 in
set_option maxRecDepth 20000 in
set_option maxRecDepth 20000 in
set_option maxRecDepth 20000 in
set_option maxRecDepth 20000 in
set_option maxRecDepth 20000 in
set_option maxRecDepth 20000 in
set_option maxRecDepth 20000 in
set_option maxRecDepth 20000 in
set_option maxRecDepth 20000 in
set_option maxRecDepth 20000 in
set_option maxRecDepth 20000 in
set_option maxRecDepth 20000 in
set_option maxRecDepth 20000 in
set_option maxRecDepth 20000 in
set_option maxRecDepth 20000 in
set_option maxRecDepth 20000 in
set_option maxRecDepth 20000 in
set_option maxRecDepth 20000 in
set_option maxRecDepth 20000 in
set_option maxRecDepth 20000 in
set_option maxRecDepth 20000 in
set_option maxRecDepth 20000 in
set_option maxRecDepth 20000 in
set_option maxRecDepth 20000 in
set_option maxRecDepth 20000 in
set_option maxRecDepth 20000 in
set_option maxRecDepth 20000 in
set_option maxRecDepth 20000 in
set_option maxRecDepth 20000 in
set_option maxRecDepth 20000 in
set_option maxRecDepth 20000 in
set_option maxRecDepth 20000 in
set_option maxRecDepth 20000 in
set_option maxRecDepth 20000 in
set_option maxRecDepth 20000 in
set_option maxRecDepth 20000 in
set_option maxRecDepth 20000 in
set_option maxRecDepth 20000 in
set_option maxRecDepth 20000 in
set_option maxRecDepth 20000 in
set_option maxRecDepth 20000 in
set_option maxRecDepth 20000 in
set_option maxRecDepth 20000 in
set_option maxRecDepth 20000 in
set_option maxRecDepth 20000 in
set_option maxRecDepth 20000 in
set_option maxRecDepth 20000 in
set_option maxRecDepth 20000 in
set_option maxRecDepth 20000 in
set_option maxRecDepth 20000 in
set_option maxRecDepth 20000 in
set_option maxRecDepth 20000 in
set_option maxRecDepth 20000 in
set_option maxRecDepth 20000 in
set_option maxRecDepth 20000 in
set_option maxRecDepth 20000 in
set_option maxRecDepth 20000 in
set_option maxRecDepth 20000 in
set_option maxRecDepth 20000 in
set_option maxRecDepth 20000 in
set_option maxRecDepth 20000 in
set_option maxRecDepth 20000 in
set_option maxRecDepth 20000 in
set_option maxRecDepth 20000 in
set_option maxRecDepth 20000 in
set_option maxRecDepth 20000 in
set_option maxRecDepth 20000 in
set_option maxRecDepth 20000 in
set_option maxRecDepth 20000 in
set_option maxRecDepth 20000 in
set_option maxRecDepth 20000 in
set_option maxRecDepth 20000 in
set_option maxRecDepth 20000 in
set_option maxRecDepth 20000 in
set_option maxRecDepth 20000 in
set_option maxRecDepth 20000 in
set_option maxRecDepth 20000 in
set_option maxRecDepth 20000 in
set_option maxRecDepth 20000 in
set_option maxRecDepth 20000 in
set_option maxRecDepth 20000 in
set_option maxRecDepth 20000 in
set_option maxRecDepth 20000 in
set_option maxRecDepth 20000 in
set_option maxRecDepth 20000 in
set_option maxRecDepth 20000 in
set_option maxRecDepth 20000 in
set_option maxRecDepth 20000 in
set_option maxRecDepth 20000 in
set_option maxRecDepth 20000 in
set_option maxRecDepth 20000 in
set_option maxRecDepth 20000 in
set_option maxRecDepth 20000 in
set_option maxRecDepth 20000 in
set_option maxRecDepth 20000 in
set_option maxRecDepth 20000 in
set_option maxRecDepth 20000 in
set_option maxRecDepth 20000 in
set_option maxRecDepth 20000 in
set_option maxRecDepth 20000 in
set_option maxRecDepth 20000 in
set_option maxRecDepth 20000 in
set_option maxRecDepth 20000 in
set_option maxRecDepth 20000 in
set_option maxRecDepth 20000 in
set_option maxRecDepth 20000 in
set_option maxRecDepth 20000 in
set_option maxRecDepth 20000 in
set_option maxRecDepth 20000 in
set_option maxRecDepth 20000 in
set_option maxRecDepth 20000 in
set_option maxRecDepth 20000 in
set_option maxRecDepth 20000 in
set_option maxRecDepth 20000 in
set_option maxRecDepth 20000 in
set_option maxRecDepth 20000 in
set_option maxRecDepth 20000 in
set_option maxRecDepth 20000 in
set_option maxRecDepth 20000 in
set_option maxRecDepth 20000 in
abbrev vwCl : List vw_C := [(RJx4a65c, TJx4a65c, 3), (RX0, TX0, 2), (RX1, TX1, 3), (RX3, TX3, 6), (RX4, TX4, 7), (RX5, TX5, 9), (RX6, TX6, 5), (RX7, TX7, 5), (RX8, TX8, 5), (RX9, TX9, 9)]

