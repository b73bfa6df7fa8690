/-! ===== BEGIN words of one list among another's, by their places ===== -/
theorem goodIn_r {big : List Cond} (ws : List Cond) (ps : List Nat) (hp : ws = ps.filterMap (fun i => big[i]?)) (h : ws.all goodWord = true) : GoodIn big ws := by
  intro w hw
  have h1 := List.all_eq_true.mp h w hw
  rw [hp] at hw
  obtain ⟨i, -, hi⟩ := List.mem_filterMap.mp hw
  have hm : w ∈ big := by first | exact List.mem_of_getElem? hi | exact List.getElem?_mem hi
  exact ⟨hm, good_of_word h1⟩
theorem goodIn_app {big a b : List Cond} (ha : GoodIn big a) (hb : GoodIn big b) : GoodIn big (a ++ b) := fun w h => (List.mem_append.mp h).elim (ha w) (hb w)
theorem goodIn_ca {big a b : List Cond} {c : Cond} (ha : GoodIn big (c :: a)) (hb : GoodIn big b) : GoodIn big (c :: (a ++ b)) := fun w h => (List.mem_cons.mp h).elim (fun e => ha w (List.mem_cons.mpr (Or.inl e))) (fun h => (List.mem_append.mp h).elim (fun h => ha w (List.mem_cons.mpr (Or.inr h))) (hb w))
theorem goodIn_sub {big ws : List Cond} (hm : ∀ w ∈ ws, w ∈ big) (h : ws.all goodWord = true) : GoodIn big ws := fun w hw => ⟨hm w hw, good_of_word (List.all_eq_true.mp h w hw)⟩
/-! ===== END ===== -/

/-! ===== BEGIN exceptions that leave a method, and their catching by the caller (launches without stack traces) ===== -/
section VXA
/-! The laws vx_back, vx_callV, vx_callS, vx_callSW, vx_throw0, vx_throwS follow proofs of the library, with one case more: JvmDerived/Free/Laws.lean (Back.of_free), Shelf42/LK1.lean (callV, callS), Shelf/KitTraced.lean (throwNew0V, throwNewS). -/
/-- where a method has thrown q: the class by its name, the cell, what was written, the world -/
def vx_T (XC : String → State → State → Prop) (st : State) (q : Addr) (t : State) (mc ms : Nat) (free : Addr → Prop) : Prop :=
  ∃ (E : String) (ce : Cell) (L : List Loc), XC E st t ∧ t.heap[q]? = some ce ∧ ce.vm = .none ∧ st.vm.findClass E = some ce.cls ∧ st.WarmedH t.vm ∧ st.sameButNew ({ t with vm := st.vm } : State) L mc ms ∧ ∀ z ∈ L, free z.base
def vx_Q (Qc : Array Value → State → Outcome → State → Prop) (XC : String → State → State → Prop) (mc ms : Nat) (free : Addr → Prop) : Array Value → State → Outcome → State → Prop := fun a st o t =>
  (Qc a st o t ∧ ∃ L, FrameEnd st o t L mc ms ∧ ∀ q ∈ L, free q.base) ∨ ∃ q, o = .threw q ∧ vx_T XC st q t mc ms free
/-- a callee that returns or throws -/
def vx_Met (l : Launch) (y : MethodName) (ws : List Cond) (rm : Room) (Pc : Array Value → State → Prop) (Qc : Array Value → State → Outcome → State → Prop) (XC : String → State → State → Prop) (mc ms : Nat) (free : Addr → Prop) : Prop :=
  MetFree l y (headSpec ws rm) Pc (fun _ _ _ _ _ => True) (vx_Q Qc XC mc ms free)
def vx_Post (XC : String → State → State → Prop) (mc ms : Nat) (free : Addr → Prop) : Pt → Array Value → Addr → Pt → Prop := fun A a q B =>
  ∃ (g : JFrame) (mk : MethodId) (t : State) (L : List Loc) (E : String) (ce : Cell), B.U.heap = t.heap ∧ B.U.vm = t.vm ∧ XC E (A.U.calling g mk a) t ∧ t.heap[q]? = some ce ∧ ce.vm = .none ∧ A.U.vm.findClass E = some ce.cls ∧ B.locs = A.locs ++ L ∧ (∀ z ∈ L, free z.base) ∧ B.cells = A.cells + mc ∧ B.slots = A.slots + ms
def vx_Back (l : Launch) (R : Room) (p : Program) (e : Env) (below : List Frame) (s : State) (sargs : Array Value) (y : MethodName) (len W9 : Nat)
    (Pre : Pt → Array Value → Prop) (Post : Pt → Array Value → Option Value → Pt → Prop) (PostX : Pt → Array Value → Addr → Pt → Prop) : Prop :=
  ∀ (m : MethodId) (meth : Method) (c : Code) (A : Pt) (g : JFrame) (ig : Instr) (mk : MethodId) (a : Array Value),
    Stand p l e R s m sargs below meth c A.U A.locs A.cells A.slots → g.method = m → g.locals.size = c.maxLocals → decode c.code g.pc = .ok (ig, len) →
    2 * g.monitorRoom + (g.stack.map fun v => v.category).sum ≤ W9 → A.U.methodNamed? y = some mk → Pre A a →
    (∃ (v : Option Value) (B : Pt), Stand p l e R s m sargs below meth c B.U B.locs B.cells B.slots ∧ Post A a v B ∧
      Steps p.tables e below (doInvoke e (A.U.setTop g) [] mk a).1 (B.U.setTop { g with pc := g.pc + len, stack := v.toList ++ g.stack })) ∨
    (∃ (q : Addr) (B : Pt), Stand p l e R s m sargs below meth c B.U B.locs B.cells B.slots ∧ PostX A a q B ∧
      Steps p.tables e below (doInvoke e (A.U.setTop g) [] mk a).1 ((B.U.setTop g).pushFrame (.throwing q)))
section Payer
variable {l : Launch} {R : Room} {p : Program} {e : Env} {below : List Frame} {s : State} {sargs : Array Value} {y : MethodName} {len W9 : Nat}
theorem vx_back {ws : List Cond} {rm : Room} {Pc : Array Value → State → Prop} {Qc : Array Value → State → Outcome → State → Prop} {XC : String → State → State → Prop} {mc ms : Nat} {free : Addr → Prop} {bytes : ByteArray} {maxL : Nat} {ret : Option FieldType}
    (hM : vx_Met l y ws rm Pc Qc XC mc ms free) (hblind : FrameBlind Pc) (hrc : rm.cells = mc) (hrs : rm.slots = ms)
    (hframes : rm.frames + 1 ≤ R.frames) (hlocals : W9 + (maxL + 11) + rm.locals ≤ R.locals)
    (hws : ∀ w ∈ ws, ∀ a' U, s.WarmedH U.vm → w.before a' U = true) (hcode : Cond.code y bytes maxL ret ∈ ws) (hinit : ∀ a' U, s.WarmedH U.vm → (Cond.initialized y.cls).before a' U = true) :
    vx_Back l R p e below s sargs y len W9 (PreOf R mc ms Pc) (PostOf Qc mc ms free) (vx_Post XC mc ms free) := by
  intro m meth c A g ig mk a X hg hsize hdg hW hn hp
  have h1 : (headSpec ws rm).pre.before a A.U = true := atoms_intro fun w hw => hws w hw _ _ X.warmed
  have h2 : (Cond.code y bytes maxL ret).before a A.U = true := hws _ hcode _ _ X.warmed
  have h3 : (Cond.initialized y.cls).before a A.U = true := hinit _ _ X.warmed
  have h4 : A.cells + (headSpec ws rm).room.cells ≤ R.cells := by rw [show (headSpec ws rm).room.cells = mc from hrc]; exact hp.1
  have h5 : A.slots + (headSpec ws rm).room.slots ≤ R.slots := by rw [show (headSpec ws rm).room.slots = ms from hrs]; exact hp.2.1
  have hPc : Pc a (A.U.calling g mk a) := hblind _ _ _ _ hp.2.2
  obtain ⟨U, Ls, c0, s0⟩ := A
  dsimp only [Pt.U, Pt.locs, Pt.cells, Pt.slots] at h1 h2 h3 h4 h5 X hn hPc ⊢
  obtain ⟨methY, cY, hmY, hcY, -, hlY, -, -, -, -⟩ := Cond.code_spec hn h2
  obtain ⟨kY, hkY, -⟩ := className_of_methodNamed hn
  have hinitY : kY.init = .initialized := Cond.initialized_spec (findClass_of_methodNamed hn) hkY h3
  have h : At U g.method c below := by rw [hg]; exact X.here
  have hlocals9 : W9 + (maxL + 11) + (headSpec ws rm).room.locals ≤ R.locals := hlocals
  have happ : (headSpec ws rm).appliesLoose y e.platform (U.calling g mk a) = true :=
    Spec.appliesLoose_calling (g := g) h hdg hn hkY hinitY
      (X.room_calling (g := g) (R' := (headSpec ws rm).room) hsize hmY hcY hframes (by rw [hlY]; omega) h4 h5) h1
  obtain ⟨mid, hmid⟩ := h.above
  have hfr : (U.setTop g).frames = (.java g :: mid) ++ below := by rw [State.frames_setTop' g h.top, hmid]; rfl
  obtain ⟨o, s₂, hsteps, -, hend, hq⟩ := Steps.callFree hM p X.admits X.cas X.clock (acts := []) hfr happ hPc trivial
  have hq' : vx_Q Qc XC mc ms free a (U.calling g mk a) o s₂ := hq
  rw [State.frames_setTop' g h.top] at hend
  obtain ⟨g₀, hg0⟩ := Option.isSome_iff_exists.mp h.top
  obtain ⟨r, hr⟩ := State.topJava?_eq_some.mp hg0
  have hr' : (({ U with heap := s₂.heap, slotsUsed := s₂.slotsUsed } : State).setVm s₂.vm).frames = .java g₀ :: r := hr
  rcases hq' with ⟨hqc, L, hfe, hL⟩ | ⟨q, rfl, E, ce, L, hx, hce, hcv, hcl, hW₂, hsm, hL⟩
  · obtain ⟨⟨v, rfl⟩, hW₂, e2, q2, q3, q4, q5, q6⟩ := id hfe
    have e3 : s₂ = ({ (U.calling g mk a).setFrames s₂.frames with heap := s₂.heap, slotsUsed := s₂.slotsUsed } : State).setVm s₂.vm := by
      have : s₂ = ({ s₂ with vm := (U.calling g mk a).vm } : State).setVm s₂.vm := rfl
      rw [e2] at this
      exact this
    obtain ⟨c₂, i₂, len₂, hc₂, hd₂, hf₂⟩ := hend
    have hW' : U.WarmedH s₂.vm := hW₂
    have hcc : c₂ = c := by
      have h1 : s₂.code? g.method = U.code? g.method := by
        rw [State.code?_eq, State.code?_eq, hW'.alike.method?]
      exact Option.some.inj (hc₂.symm.trans (h1.trans h.code))
    subst hcc
    have hlen : len₂ = len := by rw [hdg] at hd₂; cases hd₂; rfl
    subst hlen
    have hs₂ : s₂ = (({ U with heap := s₂.heap, slotsUsed := s₂.slotsUsed } : State).setVm s₂.vm).setTop { g with pc := g.pc + len₂, stack := v.toList ++ g.stack } := by
      refine e3.trans ?_
      rw [hf₂, State.calling_eq h.top, State.setFrames_setFrames, State.setTop_of_frames _ hr', hr]
      rfl
    have hsame : U.sameButNew ({ U with heap := s₂.heap, slotsUsed := s₂.slotsUsed } : State) L mc ms := by
      refine ⟨?_, q2, q3, q4, q5, q6⟩
      obtain ⟨t, ht, -⟩ := State.frames_cons hr
      show ({ U with heap := s₂.heap, slotsUsed := s₂.slotsUsed } : State) = { U.setFrames U.frames with heap := s₂.heap, slotsUsed := s₂.slotsUsed }
      rw [State.setFrames_self ht]
    subst hg
    refine Or.inl ⟨v, ⟨(({ U with heap := s₂.heap, slotsUsed := s₂.slotsUsed } : State).setVm s₂.vm), Ls ++ L, c0 + mc, s0 + ms⟩,
      ⟨X.admits, X.cas, X.clock, X.frames, X.room, X.hears, X.method, X.code, (X.here.setHeapUsed s₂.heap s₂.slotsUsed).setVm hW'.alike, X.tail, State.WarmedH.trans X.warmed hW', X.limits, X.bytes, X.same.trans (hsame.setVm s.vm)⟩,
      ⟨g, mk, s₂, L, rfl, rfl, hqc, rfl, hL, rfl, rfl⟩, ?_⟩
    show Steps p.tables e below _ ((({ U with heap := s₂.heap, slotsUsed := s₂.slotsUsed } : State).setVm s₂.vm).setTop { g with pc := g.pc + len₂, stack := v.toList ++ g.stack })
    rw [← hs₂]
    exact hsteps
  · obtain ⟨e2, q2, q3, q4, q5, q6⟩ := id hsm
    have e3 : s₂ = ({ (U.calling g mk a).setFrames s₂.frames with heap := s₂.heap, slotsUsed := s₂.slotsUsed } : State).setVm s₂.vm := by
      have : s₂ = ({ s₂ with vm := (U.calling g mk a).vm } : State).setVm s₂.vm := rfl
      rw [e2] at this
      exact this
    have hf₂ : s₂.frames = .throwing q :: .java g :: U.frames.tail := hend
    have hW' : U.WarmedH s₂.vm := hW₂
    have hs₂ : s₂ = ((({ U with heap := s₂.heap, slotsUsed := s₂.slotsUsed } : State).setVm s₂.vm).setTop g).pushFrame (.throwing q) := by
      refine e3.trans ?_
      rw [hf₂, State.calling_eq h.top, State.setFrames_setFrames, State.pushFrame, State.frames_setTop _ hr', State.setTop_of_frames _ hr', State.setFrames_setFrames, hr]
      rfl
    have hsame : U.sameButNew ({ U with heap := s₂.heap, slotsUsed := s₂.slotsUsed } : State) L mc ms := by
      refine ⟨?_, q2, q3, q4, q5, q6⟩
      obtain ⟨t, ht, -⟩ := State.frames_cons hr
      show ({ U with heap := s₂.heap, slotsUsed := s₂.slotsUsed } : State) = { U.setFrames U.frames with heap := s₂.heap, slotsUsed := s₂.slotsUsed }
      rw [State.setFrames_self ht]
    subst hg
    refine Or.inr ⟨q, ⟨(({ U with heap := s₂.heap, slotsUsed := s₂.slotsUsed } : State).setVm s₂.vm), Ls ++ L, c0 + mc, s0 + ms⟩,
      ⟨X.admits, X.cas, X.clock, X.frames, X.room, X.hears, X.method, X.code, (X.here.setHeapUsed s₂.heap s₂.slotsUsed).setVm hW'.alike, X.tail, State.WarmedH.trans X.warmed hW', X.limits, X.bytes, X.same.trans (hsame.setVm s.vm)⟩,
      ⟨g, mk, s₂, L, E, ce, rfl, rfl, hx, hce, hcv, hcl, rfl, hL, rfl, rfl⟩, ?_⟩
    show Steps p.tables e below _ (((({ U with heap := s₂.heap, slotsUsed := s₂.slotsUsed } : State).setVm s₂.vm).setTop g).pushFrame (.throwing q))
    rw [← hs₂]
    exact hsteps
end Payer
section Calls
variable {p : Program} {l : Launch} {e : Env} {R : Room} {s : State} {m : MethodId} {args : Array Value} {below : List Frame} {meth : Method} {c : Code} {T : State} {locs : List Loc} {cells slots : Nat}
theorem vx_callV (X : Stand p l e R s m args below meth c T locs cells slots) (hexec : p.tables.exec = Jvm.exec) {own C : String} {index : Nat} {y : MethodName} {bytes : ByteArray} {maxL : Nat} {ret : Option FieldType}
    (hown : s.vm.findClass own = some m.cls) (hlink : (Cond.methodLink own index y).before args s = true) (hinst : (Cond.instanceMethod y).before args s = true) (hsel : (Cond.selects C y y).before args s = true)
    (hcode : (Cond.code y bytes maxL ret).before args s = true) (hy : y.cls ≠ "java/lang/invoke/MethodHandle" ∧ y.cls ≠ "java/lang/invoke/VarHandle")
    {W9 : Nat} {Pre : Pt → Array Value → Prop} {Post : Pt → Array Value → Option Value → Pt → Prop} {PostX : Pt → Array Value → Addr → Pt → Prop} (hK : vx_Back l R p e below s args y 3 W9 Pre Post PostX)
    {b : Addr} {cellB : Cell} (hcell : T.heap[b]? = some cellB) (hobj : cellB.vm.isStatics = false) (hcls : s.vm.findClass C = some cellB.cls)
    {g : JFrame} (hg : g.method = m) (hsize : g.locals.size = c.maxLocals) {argsL rest : List Value} (hlen : ∀ sig, parseMethodDescriptor y.desc = some sig → argsL.length = sig.parameters.length)
    (hstack : g.stack = argsL.reverse ++ .ref b :: rest) (hW : 2 * g.monitorRoom + (rest.map fun v => v.category).sum ≤ W9) (hdg : decode c.code g.pc = .ok (.invokevirtual index, 3))
    (hpre : ∀ vm₁, s.WarmedH vm₁ → Pre ⟨T.setVm vm₁, locs, cells, slots⟩ (Value.ref b :: argsL).toArray) :
    (∃ (v : Option Value) (vm₁ : Vm) (B : Pt), s.WarmedH vm₁ ∧ Stand p l e R s m args below meth c B.U B.locs B.cells B.slots ∧ Post ⟨T.setVm vm₁, locs, cells, slots⟩ (Value.ref b :: argsL).toArray v B ∧
      ∀ target, Steps p.tables e below (B.U.setTop { g with pc := g.pc + 3, stack := v.toList ++ rest }) target → Steps p.tables e below (T.setTop g) target) ∨
    (∃ (q : Addr) (vm₁ : Vm) (B : Pt), s.WarmedH vm₁ ∧ Stand p l e R s m args below meth c B.U B.locs B.cells B.slots ∧ PostX ⟨T.setVm vm₁, locs, cells, slots⟩ (Value.ref b :: argsL).toArray q B ∧
      Steps p.tables e below (T.setTop g) ((B.U.setTop { g with stack := rest }).pushFrame (.throwing q))) := by
  obtain ⟨mk, methM, hnamed, hmethM, hstM, habM⟩ := Cond.instanceMethod_spec hinst
  obtain ⟨methM', cM, hmethM', -, -, -, -, -, -, hsigM⟩ := Cond.code_spec hnamed hcode
  cases hmethM.symm.trans hmethM'
  obtain ⟨c2, r2, m2, q1, q2, q3, q4, kP, hkP, hkPi⟩ := Cond.selects_spec hsel
  cases hcls.symm.trans q1
  cases (State.methodFound?_of_named hnamed hy).symm.trans q2
  cases hnamed.symm.trans q3
  have hselP : selectMethod e.platform s.vm cellB.cls mk = .method mk := by rw [Launch.admits_selectMethod X.admits]; exact q4
  obtain ⟨vm₁, X₁, hstep₁⟩ := X.invokevirtual hexec hown hlink hnamed hmethM hstM hkP hkPi hy (a := b) (cell := cellB) hcell
    (fun z h => by rw [h] at hobj; cases hobj) hselP hmethM habM hkP hkPi (g := g) hg (argsL := argsL) (rest := rest) (hlen _ hsigM) hstack hdg
  rcases hK m meth c ⟨T.setVm vm₁, locs, cells, slots⟩ { g with stack := rest } (.invokevirtual index) mk (Value.ref b :: argsL).toArray X₁ hg hsize hdg hW (X₁.named hnamed) (hpre vm₁ X₁.warmed) with ⟨v, B, X', hpost, hsteps⟩ | ⟨q, B, X', hpost, hsteps⟩
  · exact Or.inl ⟨v, vm₁, B, X₁.warmed, X', hpost, fun target h => hstep₁ _ fun acts => by rw [doInvoke_state]; exact hsteps.trans h⟩
  · exact Or.inr ⟨q, vm₁, B, X₁.warmed, X', hpost, hstep₁ _ fun acts => by rw [doInvoke_state]; exact hsteps⟩
theorem vx_callS (X : Stand p l e R s m args below meth c T locs cells slots) (hexec : p.tables.exec = Jvm.exec) {own : String} {index : Nat} {y : MethodName} {bytes : ByteArray} {maxL : Nat} {ret : Option FieldType}
    (hown : s.vm.findClass own = some m.cls) (hlink : (Cond.methodLink own index y).before args s = true) (hstat : (Cond.static y).before args s = true) (hinit : (Cond.initialized y.cls).before args s = true)
    (hcode : (Cond.code y bytes maxL ret).before args s = true) (hy : y.cls ≠ "java/lang/invoke/MethodHandle" ∧ y.cls ≠ "java/lang/invoke/VarHandle")
    {W9 : Nat} {Pre : Pt → Array Value → Prop} {Post : Pt → Array Value → Option Value → Pt → Prop} {PostX : Pt → Array Value → Addr → Pt → Prop} (hK : vx_Back l R p e below s args y 3 W9 Pre Post PostX)
    {g : JFrame} (hg : g.method = m) (hsize : g.locals.size = c.maxLocals) {argsL rest : List Value} (hlen : ∀ sig, parseMethodDescriptor y.desc = some sig → argsL.length = sig.parameters.length)
    (hstack : g.stack = argsL.reverse ++ rest) (hW : 2 * g.monitorRoom + (rest.map fun v => v.category).sum ≤ W9) (hdg : decode c.code g.pc = .ok (.invokestatic index, 3))
    (hpre : ∀ vm₁, s.WarmedH vm₁ → Pre ⟨T.setVm vm₁, locs, cells, slots⟩ argsL.toArray) :
    (∃ (v : Option Value) (vm₁ : Vm) (B : Pt), s.WarmedH vm₁ ∧ Stand p l e R s m args below meth c B.U B.locs B.cells B.slots ∧ Post ⟨T.setVm vm₁, locs, cells, slots⟩ argsL.toArray v B ∧
      ∀ target, Steps p.tables e below (B.U.setTop { g with pc := g.pc + 3, stack := v.toList ++ rest }) target → Steps p.tables e below (T.setTop g) target) ∨
    (∃ (q : Addr) (vm₁ : Vm) (B : Pt), s.WarmedH vm₁ ∧ Stand p l e R s m args below meth c B.U B.locs B.cells B.slots ∧ PostX ⟨T.setVm vm₁, locs, cells, slots⟩ argsL.toArray q B ∧
      Steps p.tables e below (T.setTop g) ((B.U.setTop { g with stack := rest }).pushFrame (.throwing q))) := by
  obtain ⟨mk, hnamed⟩ := Cond.code_named hcode
  obtain ⟨methM, cM, hmethM, -, -, -, -, -, -, hsigM⟩ := Cond.code_spec hnamed hcode
  have hstatic : methM.isStatic = true := Cond.static_spec hnamed hmethM hstat
  obtain ⟨kP, hkP, -⟩ := className_of_methodNamed hnamed
  have hinitP : kP.init = .initialized := Cond.initialized_spec (findClass_of_methodNamed hnamed) hkP hinit
  obtain ⟨vm₁, X₁, hstep₁⟩ := X.invokestatic hexec hown hlink hnamed hmethM hstatic hkP hinitP hy (g := g) hg (argsL := argsL) (rest := rest) (hlen _ hsigM) hstack hdg
  rcases hK m meth c ⟨T.setVm vm₁, locs, cells, slots⟩ { g with stack := rest } (.invokestatic index) mk argsL.toArray X₁ hg hsize hdg hW (X₁.named hnamed) (hpre vm₁ X₁.warmed) with ⟨v, B, X', hpost, hsteps⟩ | ⟨q, B, X', hpost, hsteps⟩
  · exact Or.inl ⟨v, vm₁, B, X₁.warmed, X', hpost, fun target h => hstep₁ _ fun acts => by rw [doInvoke_state]; exact hsteps.trans h⟩
  · exact Or.inr ⟨q, vm₁, B, X₁.warmed, X', hpost, hstep₁ _ fun acts => by rw [doInvoke_state]; exact hsteps⟩
end Calls
theorem vx_cls {s : State} {T : State} {vm₁ : Vm} {E : String} {k : ClassId} (hW : s.WarmedH vm₁) (h : (T.setVm vm₁).vm.findClass E = some k) : s.vm.findClass E = some k := by
  have h1 : vm₁.findClass E = some k := h
  rw [hW.alike.findClass] at h1
  exact h1
/-- the method's frame g, with q thrown over it -/
def vx_W (p : Program) (l : Launch) (e : Env) (R : Room) (s : State) (m : MethodId) (args : Array Value) (below : List Frame) (meth : Method) (c : Code) (H : Heap) (locs : List Loc) (cells slots : Nat) (Q : State → Prop) (g : JFrame) (q : Addr) : Prop :=
  ∀ T : State, T.heap = H → Stand p l e R s m args below meth c T locs cells slots → ∃ t, Steps p.tables e below ((T.setTop g).pushFrame (.throwing q)) t ∧ Q t
def vx_Run (p : Program) (l : Launch) (e : Env) (R : Room) (s : State) (m : MethodId) (args : Array Value) (below : List Frame) (meth : Method) (c : Code) (H : Heap) (locs : List Loc) (cells slots mc ms : Nat) (g : JFrame) (rest : List Value) (Qa : State → Outcome → State → Prop) (XC : String → State → State → Prop) (free : Addr → Prop) : Prop :=
  ∀ T : State, T.heap = H → Stand p l e R s m args below meth c T locs cells slots →
    (∃ (v : Option Value) (st₀ t T' : State) (L : List Loc), st₀.heap = H ∧ Stand p l e R s m args below meth c T' (locs ++ L) (cells + mc) (slots + ms) ∧ (∀ q ∈ L, free q.base) ∧ T'.heap = t.heap ∧ T'.vm = t.vm ∧ Qa st₀ (.returned v) t ∧
      Goes p e below T g T' { g with pc := g.pc + 3, stack := v.toList ++ rest }) ∨
    (∃ (q : Addr) (st₀ t T' : State) (L : List Loc) (E : String) (ce : Cell), st₀.heap = H ∧ Stand p l e R s m args below meth c T' (locs ++ L) (cells + mc) (slots + ms) ∧ (∀ z ∈ L, free z.base) ∧ T'.heap = t.heap ∧ T'.vm = t.vm ∧ XC E st₀ t ∧ t.heap[q]? = some ce ∧ ce.vm = .none ∧ s.vm.findClass E = some ce.cls ∧
      Steps p.tables e below (T.setTop g) ((T'.setTop { g with stack := rest }).pushFrame (.throwing q)))
def vx_X {S : Type} (px : S → Prop) (B : String → S → State → Prop) (A : Nat → Prop) : String → State → State → Prop := fun E st t => ∃ u : S, px u ∧ B E u t ∧ va_F A st t
section Runs
variable {p : Program} {l : Launch} {e : Env} {R : Room} {s : State} {m : MethodId} {args : Array Value} {below : List Frame} {meth : Method} {c : Code} {H : Heap} {locs : List Loc} {cells slots : Nat}
variable {y : MethodName} {bytes cc : ByteArray} {maxL nL mc ms n index : Nat} {ret : Option FieldType} {ws : List Cond} {rm : Room} {Pc : Array Value → State → Prop} {Qc : Array Value → State → Outcome → State → Prop} {XC : String → State → State → Prop} {free : Addr → Prop} {Ts : List Cond} {own C : String} {b : Addr} {As rest : List Value} {g : JFrame}
theorem vx_callBack (cb : CallB R s args own index y bytes maxL ret ws rm mc ms n) (hM : vx_Met l y ws rm Pc Qc XC mc ms free) (hbl : FrameBlind Pc) : vx_Back l R p e below s args y 3 8 (PreOf R mc ms Pc) (PostOf Qc mc ms free) (vx_Post XC mc ms free) := by
  obtain ⟨hrc, hrs, hfr, hlo, hws, hcw, -, hini, -⟩ := cb
  exact vx_back (bytes := bytes) (maxL := maxL) (ret := ret) hM hbl hrc hrs hfr hlo hws hcw (fun a' U hW => word_at hW (Or.inl (by first | rfl | simp [Cond.onTables, Cond.keeps, Cond.steady])) hini)
theorem vx_runV (S : CallFix p m c cc nL s args Ts own) (hM : vx_Met l y ws rm Pc Qc XC mc ms free) (cw : CallW R s args own C index y bytes maxL ret ws rm mc ms n) (hp : PreV s H C b Pc As)
    (hg : g.method = m) (hn : As.length = n) (hsize : g.locals.size = nL) (hstack : g.stack = As.reverse ++ .ref b :: rest) (hW : 2 * g.monitorRoom + (rest.map fun v => v.category).sum ≤ 8) (hdg : decode cc g.pc = .ok (.invokevirtual index, 3)) (hf : cells + mc ≤ R.cells ∧ slots + ms ≤ R.slots) :
    vx_Run p l e R s m args below meth c H locs cells slots mc ms g rest (Qc (Value.ref b :: As).toArray) XC free := by
  have hK : vx_Back l R p e below s args y 3 8 (PreOf R mc ms Pc) (PostOf Qc mc ms free) (vx_Post XC mc ms free) := vx_callBack cw.1 hM hp.1
  obtain ⟨⟨-, -, -, -, -, -, hcode, -, hy, hlen, hl⟩, hin, hse⟩ := cw
  obtain ⟨hx, hb, hml, ho, -⟩ := S
  obtain ⟨-, ⟨cellB, hcB, hoB, hclB⟩, hPc⟩ := hp
  intro T hT X
  rcases vx_callV X hx (C := C) (bytes := bytes) (maxL := maxL) (ret := ret) ho hl hin hse hcode hy hK (by rw [hT]; exact hcB) hoB hclB hg (hsize.trans hml.symm) (argsL := As) (rest := rest) (fun sig h => hn.trans (hlen sig h)) hstack hW (by rw [hb]; exact hdg)
    (fun vm₁ hW₁ => ⟨hf.1, hf.2, hPc (T.setVm vm₁) hT hW₁⟩) with ⟨v, vm₁, ⟨U', l2, c2, s2⟩, hW₁, X', ⟨g', mk, t, L, e1, e2, hq, h1, hL, h2, h3⟩, st⟩ | ⟨q, vm₁, ⟨U', l2, c2, s2⟩, hW₁, X', ⟨g', mk, t, L, E, ce, e1, e2, hq, hce, hcv, hcl, h1, hL, h2, h3⟩, st⟩
  · dsimp only [Pt.U, Pt.locs, Pt.cells, Pt.slots] at X' e1 e2 h1 h2 h3 st
    subst h1; subst h2; subst h3
    exact Or.inl ⟨v, (T.setVm vm₁).calling g' mk (Value.ref b :: As).toArray, t, U', L, hT, X', hL, e1, e2, hq, st⟩
  · dsimp only [Pt.U, Pt.locs, Pt.cells, Pt.slots] at X' e1 e2 h1 h2 h3 st hcl
    subst h1; subst h2; subst h3
    exact Or.inr ⟨q, (T.setVm vm₁).calling g' mk (Value.ref b :: As).toArray, t, U', L, E, ce, hT, X', hL, e1, e2, hq, hce, hcv, vx_cls hW₁ hcl, st⟩
theorem vx_runS (S : CallFix p m c cc nL s args Ts own) (hM : vx_Met l y ws rm Pc Qc XC mc ms free) (cw : CallB R s args own index y bytes maxL ret ws rm mc ms n ∧ (Cond.static y).before args s = true) (hp : PreS s H Pc As)
    (hg : g.method = m) (hn : As.length = n) (hsize : g.locals.size = nL) (hstack : g.stack = As.reverse ++ rest) (hW : 2 * g.monitorRoom + (rest.map fun v => v.category).sum ≤ 8) (hdg : decode cc g.pc = .ok (.invokestatic index, 3)) (hf : cells + mc ≤ R.cells ∧ slots + ms ≤ R.slots) :
    vx_Run p l e R s m args below meth c H locs cells slots mc ms g rest (Qc As.toArray) XC free := by
  have hK : vx_Back l R p e below s args y 3 8 (PreOf R mc ms Pc) (PostOf Qc mc ms free) (vx_Post XC mc ms free) := vx_callBack cw.1 hM hp.1
  obtain ⟨⟨-, -, -, -, -, -, hcode, hini, hy, hlen, hl⟩, hstt⟩ := cw
  obtain ⟨hx, hb, hml, ho, -⟩ := S
  intro T hT X
  rcases vx_callS X hx (bytes := bytes) (maxL := maxL) (ret := ret) ho hl hstt hini hcode hy hK hg (hsize.trans hml.symm) (argsL := As) (rest := rest) (fun sig h => hn.trans (hlen sig h)) hstack hW (by rw [hb]; exact hdg)
    (fun vm₁ hW₁ => ⟨hf.1, hf.2, hp.2 (T.setVm vm₁) hT hW₁⟩) with ⟨v, vm₁, ⟨U', l2, c2, s2⟩, hW₁, X', ⟨g', mk, t, L, e1, e2, hq, h1, hL, h2, h3⟩, st⟩ | ⟨q, vm₁, ⟨U', l2, c2, s2⟩, hW₁, X', ⟨g', mk, t, L, E, ce, e1, e2, hq, hce, hcv, hcl, h1, hL, h2, h3⟩, st⟩
  · dsimp only [Pt.U, Pt.locs, Pt.cells, Pt.slots] at X' e1 e2 h1 h2 h3 st
    subst h1; subst h2; subst h3
    exact Or.inl ⟨v, (T.setVm vm₁).calling g' mk As.toArray, t, U', L, hT, X', hL, e1, e2, hq, st⟩
  · dsimp only [Pt.U, Pt.locs, Pt.cells, Pt.slots] at X' e1 e2 h1 h2 h3 st hcl
    subst h1; subst h2; subst h3
    exact Or.inr ⟨q, (T.setVm vm₁).calling g' mk As.toArray, t, U', L, E, ce, hT, X', hL, e1, e2, hq, hce, hcv, vx_cls hW₁ hcl, st⟩
end Runs
section Rows
variable {p : Program} {l : Launch} {e : Env} {R : Room} {s : State} {m : MethodId} {args : Array Value} {below : List Frame} {meth : Method} {c : Code} {H : Heap} {locs : List Loc} {cells slots : Nat} {Q : State → Prop}
variable {mc ms : Nat} {free : Addr → Prop} {A0 A1 : Nat → Prop} {H0 : Heap} {a : Array Value} {pc : Nat} {ls : Array Slot} {st0 rest : List Value}
theorem vx_keep {st₀ t T' : State} {L : List Loc} (h0 : st₀.heap = H) (e1 : T'.heap = t.heap) (hS : va_S A0 H0 H locs) (hA : ∀ q, q < H.size → A1 q → A0 q) (hf : ∀ q, free q → A0 q) (hL : ∀ q ∈ L, free q.base) (hF : va_F A1 st₀ t) :
    H.size ≤ T'.heap.size ∧ (∀ q : Nat, q < H.size → ¬ A1 q → T'.heap[q]? = H[q]?) ∧ va_S A0 H0 T'.heap (locs ++ L) := by
  obtain ⟨hz, hk⟩ := hF
  rw [h0] at hz hk
  exact ⟨by rw [e1]; exact hz, fun q h1 h2 => by rw [e1]; exact hk q h1 h2,
    ⟨Nat.le_trans hS.1 (by rw [e1]; exact hz), fun q h1 h2 => by rw [e1, hk q (Nat.lt_of_lt_of_le h1 hS.1) (fun z => h2 (hA q (Nat.lt_of_lt_of_le h1 hS.1) z))]; exact hS.2.1 q h1 h2, fun q hq => by
      rcases List.mem_append.mp hq with h | h
      · exact hS.2.2 q h
      · exact hf _ (hL q h)⟩⟩
theorem vx_calli {S SX : Type} {post : Int32 → S → Prop} {px : SX → Prop} {B : S → State → Prop} {BX : String → SX → State → Prop} {AX : Nat → Prop} (hr : vx_Run p l e R s m args below meth c H locs cells slots mc ms (F0 m pc ls st0) rest (va_Qi post B A1 a) (vx_X px BX AX) free) (hS : va_S A0 H0 H locs) (hA : ∀ q, q < H.size → A1 q → A0 q) (hf : ∀ q, free q → A0 q) (hAX : ∀ q, q < H.size → AX q → A0 q)
    (kx : ∀ (E : String) (ce : Cell) (q9 : Addr) (u : SX) (t : State) (H1 : Heap) (locs1 : List Loc), t.heap = H1 → s.vm.Alike t.vm → px u → BX E u t → H.size ≤ H1.size → (∀ q : Nat, q < H.size → ¬ AX q → H1[q]? = H[q]?) → va_S A0 H0 H1 locs1 → H1[q9]? = some ce → ce.vm = .none → s.vm.findClass E = some ce.cls → vx_W p l e R s m args below meth c H1 locs1 (cells + mc) (slots + ms) Q (F0 m pc ls rest) q9)
    (kk : ∀ (r : Int32) (u : S) (t : State) (H1 : Heap) (locs1 : List Loc), t.heap = H1 → s.vm.Alike t.vm → post r u → B u t → H.size ≤ H1.size → (∀ q : Nat, q < H.size → ¬ A1 q → H1[q]? = H[q]?) → va_S A0 H0 H1 locs1 → W p l e R s m args below meth c H1 locs1 (cells + mc) (slots + ms) Q (F0 m (pc + 3) ls (.int r :: rest))) : W p l e R s m args below meth c H locs cells slots Q (F0 m pc ls st0) := by
  intro T hT X
  rcases hr T hT X with ⟨v, st₀, t, T', L, h0, X', hL, e1, e2, ⟨⟨r, u, hv, hp, hb⟩, hF⟩, st⟩ | ⟨q, st₀, t, T', L, E, ce, h0, X', hL, e1, e2, ⟨u, hp, hb, hF⟩, hce, hcv, hcl, st⟩
  · cases hv
    obtain ⟨k1, k2, k3⟩ := vx_keep h0 e1 hS hA hf hL hF
    obtain ⟨t2, a1, b1⟩ := kk r u t T'.heap (locs ++ L) e1.symm (by rw [← e2]; exact X'.warmed.alike) hp hb k1 k2 k3 T' rfl X'
    exact ⟨t2, st t2 a1, b1⟩
  · obtain ⟨k1, k2, k3⟩ := vx_keep h0 e1 hS hAX hf hL hF
    obtain ⟨t2, a1, b1⟩ := kx E ce q u t T'.heap (locs ++ L) e1.symm (by rw [← e2]; exact X'.warmed.alike) hp hb k1 k2 k3 (by rw [e1]; exact hce) hcv hcl T' rfl X'
    exact ⟨t2, st.trans a1, b1⟩
theorem vx_calll {S SX : Type} {post : Int64 → S → Prop} {px : SX → Prop} {B : S → State → Prop} {BX : String → SX → State → Prop} {AX : Nat → Prop} (hr : vx_Run p l e R s m args below meth c H locs cells slots mc ms (F0 m pc ls st0) rest (va_Ql post B A1 a) (vx_X px BX AX) free) (hS : va_S A0 H0 H locs) (hA : ∀ q, q < H.size → A1 q → A0 q) (hf : ∀ q, free q → A0 q) (hAX : ∀ q, q < H.size → AX q → A0 q)
    (kx : ∀ (E : String) (ce : Cell) (q9 : Addr) (u : SX) (t : State) (H1 : Heap) (locs1 : List Loc), t.heap = H1 → s.vm.Alike t.vm → px u → BX E u t → H.size ≤ H1.size → (∀ q : Nat, q < H.size → ¬ AX q → H1[q]? = H[q]?) → va_S A0 H0 H1 locs1 → H1[q9]? = some ce → ce.vm = .none → s.vm.findClass E = some ce.cls → vx_W p l e R s m args below meth c H1 locs1 (cells + mc) (slots + ms) Q (F0 m pc ls rest) q9)
    (kk : ∀ (r : Int64) (u : S) (t : State) (H1 : Heap) (locs1 : List Loc), t.heap = H1 → s.vm.Alike t.vm → post r u → B u t → H.size ≤ H1.size → (∀ q : Nat, q < H.size → ¬ A1 q → H1[q]? = H[q]?) → va_S A0 H0 H1 locs1 → W p l e R s m args below meth c H1 locs1 (cells + mc) (slots + ms) Q (F0 m (pc + 3) ls (.long r :: rest))) : W p l e R s m args below meth c H locs cells slots Q (F0 m pc ls st0) := by
  intro T hT X
  rcases hr T hT X with ⟨v, st₀, t, T', L, h0, X', hL, e1, e2, ⟨⟨r, u, hv, hp, hb⟩, hF⟩, st⟩ | ⟨q, st₀, t, T', L, E, ce, h0, X', hL, e1, e2, ⟨u, hp, hb, hF⟩, hce, hcv, hcl, st⟩
  · cases hv
    obtain ⟨k1, k2, k3⟩ := vx_keep h0 e1 hS hA hf hL hF
    obtain ⟨t2, a1, b1⟩ := kk r u t T'.heap (locs ++ L) e1.symm (by rw [← e2]; exact X'.warmed.alike) hp hb k1 k2 k3 T' rfl X'
    exact ⟨t2, st t2 a1, b1⟩
  · obtain ⟨k1, k2, k3⟩ := vx_keep h0 e1 hS hAX hf hL hF
    obtain ⟨t2, a1, b1⟩ := kx E ce q u t T'.heap (locs ++ L) e1.symm (by rw [← e2]; exact X'.warmed.alike) hp hb k1 k2 k3 (by rw [e1]; exact hce) hcv hcl T' rfl X'
    exact ⟨t2, st.trans a1, b1⟩
theorem vx_callf {S SX : Type} {post : UInt32 → S → Prop} {px : SX → Prop} {B : S → State → Prop} {BX : String → SX → State → Prop} {AX : Nat → Prop} (hr : vx_Run p l e R s m args below meth c H locs cells slots mc ms (F0 m pc ls st0) rest (va_Qf post B A1 a) (vx_X px BX AX) free) (hS : va_S A0 H0 H locs) (hA : ∀ q, q < H.size → A1 q → A0 q) (hf : ∀ q, free q → A0 q) (hAX : ∀ q, q < H.size → AX q → A0 q)
    (kx : ∀ (E : String) (ce : Cell) (q9 : Addr) (u : SX) (t : State) (H1 : Heap) (locs1 : List Loc), t.heap = H1 → s.vm.Alike t.vm → px u → BX E u t → H.size ≤ H1.size → (∀ q : Nat, q < H.size → ¬ AX q → H1[q]? = H[q]?) → va_S A0 H0 H1 locs1 → H1[q9]? = some ce → ce.vm = .none → s.vm.findClass E = some ce.cls → vx_W p l e R s m args below meth c H1 locs1 (cells + mc) (slots + ms) Q (F0 m pc ls rest) q9)
    (kk : ∀ (r : UInt32) (u : S) (t : State) (H1 : Heap) (locs1 : List Loc), t.heap = H1 → s.vm.Alike t.vm → post r u → B u t → H.size ≤ H1.size → (∀ q : Nat, q < H.size → ¬ A1 q → H1[q]? = H[q]?) → va_S A0 H0 H1 locs1 → W p l e R s m args below meth c H1 locs1 (cells + mc) (slots + ms) Q (F0 m (pc + 3) ls (.float r :: rest))) : W p l e R s m args below meth c H locs cells slots Q (F0 m pc ls st0) := by
  intro T hT X
  rcases hr T hT X with ⟨v, st₀, t, T', L, h0, X', hL, e1, e2, ⟨⟨r, u, hv, hp, hb⟩, hF⟩, st⟩ | ⟨q, st₀, t, T', L, E, ce, h0, X', hL, e1, e2, ⟨u, hp, hb, hF⟩, hce, hcv, hcl, st⟩
  · cases hv
    obtain ⟨k1, k2, k3⟩ := vx_keep h0 e1 hS hA hf hL hF
    obtain ⟨t2, a1, b1⟩ := kk r u t T'.heap (locs ++ L) e1.symm (by rw [← e2]; exact X'.warmed.alike) hp hb k1 k2 k3 T' rfl X'
    exact ⟨t2, st t2 a1, b1⟩
  · obtain ⟨k1, k2, k3⟩ := vx_keep h0 e1 hS hAX hf hL hF
    obtain ⟨t2, a1, b1⟩ := kx E ce q u t T'.heap (locs ++ L) e1.symm (by rw [← e2]; exact X'.warmed.alike) hp hb k1 k2 k3 (by rw [e1]; exact hce) hcv hcl T' rfl X'
    exact ⟨t2, st.trans a1, b1⟩
theorem vx_calld {S SX : Type} {post : UInt64 → S → Prop} {px : SX → Prop} {B : S → State → Prop} {BX : String → SX → State → Prop} {AX : Nat → Prop} (hr : vx_Run p l e R s m args below meth c H locs cells slots mc ms (F0 m pc ls st0) rest (va_Qd post B A1 a) (vx_X px BX AX) free) (hS : va_S A0 H0 H locs) (hA : ∀ q, q < H.size → A1 q → A0 q) (hf : ∀ q, free q → A0 q) (hAX : ∀ q, q < H.size → AX q → A0 q)
    (kx : ∀ (E : String) (ce : Cell) (q9 : Addr) (u : SX) (t : State) (H1 : Heap) (locs1 : List Loc), t.heap = H1 → s.vm.Alike t.vm → px u → BX E u t → H.size ≤ H1.size → (∀ q : Nat, q < H.size → ¬ AX q → H1[q]? = H[q]?) → va_S A0 H0 H1 locs1 → H1[q9]? = some ce → ce.vm = .none → s.vm.findClass E = some ce.cls → vx_W p l e R s m args below meth c H1 locs1 (cells + mc) (slots + ms) Q (F0 m pc ls rest) q9)
    (kk : ∀ (r : UInt64) (u : S) (t : State) (H1 : Heap) (locs1 : List Loc), t.heap = H1 → s.vm.Alike t.vm → post r u → B u t → H.size ≤ H1.size → (∀ q : Nat, q < H.size → ¬ A1 q → H1[q]? = H[q]?) → va_S A0 H0 H1 locs1 → W p l e R s m args below meth c H1 locs1 (cells + mc) (slots + ms) Q (F0 m (pc + 3) ls (.double r :: rest))) : W p l e R s m args below meth c H locs cells slots Q (F0 m pc ls st0) := by
  intro T hT X
  rcases hr T hT X with ⟨v, st₀, t, T', L, h0, X', hL, e1, e2, ⟨⟨r, u, hv, hp, hb⟩, hF⟩, st⟩ | ⟨q, st₀, t, T', L, E, ce, h0, X', hL, e1, e2, ⟨u, hp, hb, hF⟩, hce, hcv, hcl, st⟩
  · cases hv
    obtain ⟨k1, k2, k3⟩ := vx_keep h0 e1 hS hA hf hL hF
    obtain ⟨t2, a1, b1⟩ := kk r u t T'.heap (locs ++ L) e1.symm (by rw [← e2]; exact X'.warmed.alike) hp hb k1 k2 k3 T' rfl X'
    exact ⟨t2, st t2 a1, b1⟩
  · obtain ⟨k1, k2, k3⟩ := vx_keep h0 e1 hS hAX hf hL hF
    obtain ⟨t2, a1, b1⟩ := kx E ce q u t T'.heap (locs ++ L) e1.symm (by rw [← e2]; exact X'.warmed.alike) hp hb k1 k2 k3 (by rw [e1]; exact hce) hcv hcl T' rfl X'
    exact ⟨t2, st.trans a1, b1⟩
theorem vx_callv {S SX : Type} {post : S → Prop} {px : SX → Prop} {B : S → State → Prop} {BX : String → SX → State → Prop} {AX : Nat → Prop} (hr : vx_Run p l e R s m args below meth c H locs cells slots mc ms (F0 m pc ls st0) rest (va_Qv post B A1 a) (vx_X px BX AX) free) (hS : va_S A0 H0 H locs) (hA : ∀ q, q < H.size → A1 q → A0 q) (hf : ∀ q, free q → A0 q) (hAX : ∀ q, q < H.size → AX q → A0 q)
    (kx : ∀ (E : String) (ce : Cell) (q9 : Addr) (u : SX) (t : State) (H1 : Heap) (locs1 : List Loc), t.heap = H1 → s.vm.Alike t.vm → px u → BX E u t → H.size ≤ H1.size → (∀ q : Nat, q < H.size → ¬ AX q → H1[q]? = H[q]?) → va_S A0 H0 H1 locs1 → H1[q9]? = some ce → ce.vm = .none → s.vm.findClass E = some ce.cls → vx_W p l e R s m args below meth c H1 locs1 (cells + mc) (slots + ms) Q (F0 m pc ls rest) q9)
    (kk : ∀ (u : S) (t : State) (H1 : Heap) (locs1 : List Loc), t.heap = H1 → s.vm.Alike t.vm → post u → B u t → H.size ≤ H1.size → (∀ q : Nat, q < H.size → ¬ A1 q → H1[q]? = H[q]?) → va_S A0 H0 H1 locs1 → W p l e R s m args below meth c H1 locs1 (cells + mc) (slots + ms) Q (F0 m (pc + 3) ls (rest))) : W p l e R s m args below meth c H locs cells slots Q (F0 m pc ls st0) := by
  intro T hT X
  rcases hr T hT X with ⟨v, st₀, t, T', L, h0, X', hL, e1, e2, ⟨⟨u, hv, hp, hb⟩, hF⟩, st⟩ | ⟨q, st₀, t, T', L, E, ce, h0, X', hL, e1, e2, ⟨u, hp, hb, hF⟩, hce, hcv, hcl, st⟩
  · cases hv
    obtain ⟨k1, k2, k3⟩ := vx_keep h0 e1 hS hA hf hL hF
    obtain ⟨t2, a1, b1⟩ := kk u t T'.heap (locs ++ L) e1.symm (by rw [← e2]; exact X'.warmed.alike) hp hb k1 k2 k3 T' rfl X'
    exact ⟨t2, st t2 a1, b1⟩
  · obtain ⟨k1, k2, k3⟩ := vx_keep h0 e1 hS hAX hf hL hF
    obtain ⟨t2, a1, b1⟩ := kx E ce q u t T'.heap (locs ++ L) e1.symm (by rw [← e2]; exact X'.warmed.alike) hp hb k1 k2 k3 (by rw [e1]; exact hce) hcv hcl T' rfl X'
    exact ⟨t2, st.trans a1, b1⟩
/-- caught by the row x of this method's table; the rows ahead don't take it -/
theorem vx_catch {own name : String} {E : String} {ce : Cell} {q : Addr} (hown : s.vm.findClass own = some m.cls) (pre : List ExceptionTableEntry) (x : ExceptionTableEntry) (suf : List ExceptionTableEntry) (hsplit : c.exceptionTable.toList = pre ++ x :: suf)
    (hpass : ∀ z ∈ pre, covers z pc = false ∨ (z.catchType ≠ 0 ∧ ∃ nm : String, (Cond.classLink own z.catchType nm).before args s = true ∧ va_Nc E nm s)) (hx : covers x pc = true) (h0 : x.catchType ≠ 0)
    (hlink : (Cond.classLink own x.catchType name).before args s = true) (hcast : (Cond.castable E name).before args s = true) (hcell : H[q]? = some ce) (hv : ce.vm = .none) (hcl : s.vm.findClass E = some ce.cls)
    (kk : W p l e R s m args below meth c H locs cells slots Q (F0 m x.handlerPc ls [.ref q])) : vx_W p l e R s m args below meth c H locs cells slots Q (F0 m pc ls rest) q := by
  intro T hT X
  have hpl : e.platform.magicAccessors = ({} : Platform).magicAccessors := by rw [X.admits.platform]
  obtain ⟨c3, c4, hc3, hc4, hasg⟩ := Cond.castable_spec hcast
  cases Option.some.inj (hc3.symm.trans hcl)
  obtain ⟨c5, hc5, hcl5⟩ := Cond.classLink_spec hown hlink e.platform hpl
  cases Option.some.inj (hc4.symm.trans hc5)
  obtain ⟨vm', X', st⟩ := X.thenCaughtThrough q (g := F0 m pc ls rest) rfl (Steps.refl _) (by rw [hT]; exact hcell) (by rw [hv]; rfl) (by obtain ⟨k9, h9, -⟩ := Vm.findClass_spec hcl; exact ⟨k9, h9⟩) pre x suf hsplit
    (fun z hz => by
      rcases hpass z hz with h | ⟨hz0, nm, hl1, hn1⟩
      · exact Or.inl h
      · obtain ⟨c6, hc6, hcl6⟩ := Cond.classLink_spec hown hl1 e.platform hpl
        obtain ⟨a8, b8, h1, h2, h3⟩ := hn1
        cases Option.some.inj (h1.symm.trans hcl)
        cases Option.some.inj (h2.symm.trans hc6)
        exact Or.inr ⟨hz0, _, hcl6, h3⟩) hx (Or.inr ⟨h0, c4, hcl5, hasg⟩)
  obtain ⟨t, a1, b1⟩ := kk (T.setVm vm') hT X'
  exact ⟨t, st.trans a1, b1⟩
end Rows
section Ends
variable {p : Program} {l : Launch} {e : Env} {R : Room} {s : State} {m : MethodId} {args : Array Value} {below : List Frame} {meth : Method} {c : Code} {H : Heap} {locs : List Loc} {cells slots : Nat} {Q : State → Prop}
variable {mc ms : Nat} {free : Addr → Prop} {A0 A1 : Nat → Prop} {H0 : Heap} {a : Array Value} {ls : Array Slot} {st0 rest : List Value}
variable {Qc : Array Value → State → Outcome → State → Prop} {XC : String → State → State → Prop}
/-- what a body that may throw owes at its end -/
def vx_MQ (below : List Frame) (Qc : Array Value → State → Outcome → State → Prop) (XC : String → State → State → Prop) (a : Array Value) (s : State) (mc ms : Nat) (free : Addr → Prop) : State → Prop := fun t =>
  ∃ o, t.status = .running ∧ Ended t below o ∧ vx_Q Qc XC mc ms free a s o t
theorem vx_ret {g : JFrame} {mc ms : Nat} (k : W p l e R s m args below meth c H locs cells slots (MQ below Qc args s mc ms free) g) : W p l e R s m args below meth c H locs cells slots (vx_MQ below Qc XC args s mc ms free) g := by
  intro T hT X
  obtain ⟨t, a1, o, b1, b2, b3, b4⟩ := k T hT X
  exact ⟨t, a1, o, b1, b2, Or.inl ⟨b3, b4⟩⟩
/-- not caught here: it goes on to the caller -/
theorem vx_widen {g : JFrame} {q : Addr} {k n : Nat} (h1 : cells ≤ k) (h2 : slots ≤ n) (kk : vx_W p l e R s m args below meth c H locs k n Q g q) : vx_W p l e R s m args below meth c H locs cells slots Q g q := fun T hT X => kk T hT (stand_widen X h1 h2)
theorem vx_out {pc : Nat} {E : String} {ce : Cell} {q : Addr} {mc ms : Nat} (hout : ∀ x ∈ c.exceptionTable.toList, covers x pc = false) (hlocks : meth.locks = false) (hcell : H[q]? = some ce) (hv : ce.vm = .none) (hcl : s.vm.findClass E = some ce.cls)
    (hx : ∀ t : State, t.heap = H → s.vm.Alike t.vm → XC E s t) (hf : ∀ z ∈ locs, free z.base) (hc : cells ≤ mc) (hs : slots ≤ ms) :
    vx_W p l e R s m args below meth c H locs cells slots (vx_MQ below Qc XC args s mc ms free) (F0 m pc ls rest) q := by
  intro T hT X
  obtain ⟨st1, hrun, hend, hW, hsm⟩ := X.leaveThrown q (g := F0 m pc ls rest) rfl rfl rfl hout hlocks
  have hcell9 : (T.setFrames (.throwing q :: below)).heap[q]? = some ce := by
    show T.heap[q]? = some ce
    rw [hT]; exact hcell
  exact ⟨_, st1, .threw q, hrun, hend, Or.inr ⟨q, rfl, E, ce, locs, hx _ hT hW.alike, hcell9, hv, hcl, hW, hsm.mono hc hs, hf⟩⟩
theorem vx_frame {U : State} {k n : Nat} (h : s.sameButNew ({ U with vm := s.vm } : State) locs k n) : s.heap.size ≤ U.heap.size ∧ ∀ q : Nat, q < s.heap.size → (∀ z ∈ locs, z.base ≠ q) → U.heap[q]? = s.heap[q]? := by
  obtain ⟨-, h2, -, -, -, h6⟩ := h
  refine ⟨h2, fun q hq hz => ?_⟩
  obtain ⟨c9, e1, e2, e3, e4⟩ := h6 q _ (Array.getElem?_eq_getElem hq)
  have hs : c9.slots = (s.heap[q]).slots := Array.ext_getElem? fun i => e4 i fun hm => hz _ hm rfl
  have h9 : c9 = s.heap[q] := by
    rw [hs] at e2
    exact e2
  have e5 : U.heap[q]? = some c9 := e1
  rw [e5, h9, Array.getElem?_eq_getElem hq]
/-- the words of a throw but the four that speak of the heap -/
def vx_no (w : Cond) : Bool := decide (w ≠ .isRef (.static Bundle.tN "UNASSIGNED_STACK" Bundle.steD)) && decide (w ≠ .isRef (.static Bundle.tN "SUPPRESSED_SENTINEL" Bundle.listD)) && decide (w ≠ .laysStatic Bundle.tN "UNASSIGNED_STACK" Bundle.steD) && decide (w ≠ .laysStatic Bundle.tN "SUPPRESSED_SENTINEL" Bundle.listD)
def vx_at0 (own : String) (ic : Nat) (X : String) (names : List String) : List Cond := (Bundle.ownAtoms0 own ic X names).filter vx_no
def vx_atS (own : String) (ic : Nat) (X : String) (names : List String) : List Cond := (Bundle.ownAtoms own ic X names).filter vx_no
/-- a word that the tables alone decide, or a good one -/
def vx_ot (w : Cond) : Bool := w.onTables || goodWord w
theorem vx_ot_at {args a' : Array Value} {s U : State} {w : Cond} (hW : s.WarmedH U.vm) (hvm : s.vm = U.vm) (hg : vx_ot w = true) (h : w.before args s = true) : w.before a' U = true := by
  simp only [vx_ot, Bool.or_eq_true] at hg
  rcases hg with hg | hg
  · exact va_tabs hg hvm h
  · exact word_at hW (good_of_word hg) h
/-- a list's words: the good ones out of the method's own list, the others by premises of their own -/
theorem vx_hat {args : Array Value} {s : State} {L B : List Cond} (h1 : ∀ w ∈ L.filter goodWord, w.before args s = true) (h2 : ∀ w ∈ L.filter (fun w => !goodWord w), w ∈ B) (h3 : ∀ w ∈ B, w.before args s = true) : ∀ w ∈ L, w.before args s = true := by
  intro w hw
  by_cases g : goodWord w = true
  · exact h1 w (List.mem_filter.mpr ⟨hw, g⟩)
  · refine h3 w (h2 w (List.mem_filter.mpr ⟨hw, ?_⟩))
    show (!goodWord w) = true
    cases hgw : goodWord w
    · rfl
    · exact absurd hgw g
theorem vx_c {args : Array Value} {s : State} {w : Cond} {B : List Cond} (h : w.before args s = true) (t : ∀ w ∈ B, w.before args s = true) : ∀ w' ∈ w :: B, w'.before args s = true := fun w' h' => (List.mem_cons.mp h').elim (fun e => by rw [e]; exact h) (t w')
theorem vx_n {args : Array Value} {s : State} : ∀ w ∈ ([] : List Cond), w.before args s = true := fun _ h => nomatch h
theorem vx_own {args : Array Value} {s : State} {L : List Cond} (h1 : ∀ w ∈ L.filter vx_no, w.before args s = true)
    (hU : (Cond.isRef (.static Bundle.tN "UNASSIGNED_STACK" Bundle.steD)).before args s = true) (hN : (Cond.isRef (.static Bundle.tN "SUPPRESSED_SENTINEL" Bundle.listD)).before args s = true)
    (lU : (Cond.laysStatic Bundle.tN "UNASSIGNED_STACK" Bundle.steD).before args s = true) (lN : (Cond.laysStatic Bundle.tN "SUPPRESSED_SENTINEL" Bundle.listD).before args s = true) : ∀ w ∈ L, w.before args s = true := by
  intro w hw
  by_cases e1 : w = .isRef (.static Bundle.tN "UNASSIGNED_STACK" Bundle.steD)
  · rw [e1]; exact hU
  · by_cases e2 : w = .isRef (.static Bundle.tN "SUPPRESSED_SENTINEL" Bundle.listD)
    · rw [e2]; exact hN
    · by_cases e3 : w = .laysStatic Bundle.tN "UNASSIGNED_STACK" Bundle.steD
      · rw [e3]; exact lU
      · by_cases e4 : w = .laysStatic Bundle.tN "SUPPRESSED_SENTINEL" Bundle.listD
        · rw [e4]; exact lN
        · exact h1 w (List.mem_filter.mpr ⟨hw, by unfold vx_no; rw [decide_eq_true e1, decide_eq_true e2, decide_eq_true e3, decide_eq_true e4]; rfl⟩)
/-- where a static field lies, its class's statics cell in H -/
def vx_L (C n d : String) (A : Nat → Prop) (U : State) (H : Heap) : Prop := ∃ (c : ClassId) (k : Class) (i : Nat) (f : Field) (a : Nat) (cell : Cell), U.vm.findClass C = some c ∧ U.fieldFound? C n d = some (c, k, i, f) ∧ f.isStatic = true ∧ k.statics = some a ∧ H[a]? = some cell ∧ cell.vm.isStatics = true ∧ cell.cls = c ∧ f.slot < cell.slots.size ∧ k.staticTypes[f.slot]? = some f.type ∧ ¬ A a
theorem vx_L.moved {C n d : String} {A : Nat → Prop} {u U : State} {H : Heap} (hvm : u.vm.Alike U.vm) (h : vx_L C n d A u H) : vx_L C n d A U H := by
  obtain ⟨c, k, i, f, a, cell, h1, h2, h3, h4, h5, h6, h7, h8, h9, h10⟩ := h
  obtain ⟨k', hi', he⟩ := State.fieldFound?_setVm hvm h2
  exact ⟨c, k', i, f, a, cell, by rw [hvm.findClass]; exact h1, hi', h3, by rw [he]; exact h4, h5, h6, h7, h8, by rw [he]; exact h9, h10⟩
theorem vx_L.kept {C n d : String} {A : Nat → Prop} {U : State} {H H1 : Heap} (h : vx_L C n d A U H) (hq : ∀ a : Nat, a < H.size → ¬ A a → H1[a]? = H[a]?) : vx_L C n d A U H1 := by
  obtain ⟨c, k, i, f, a, cell, h1, h2, h3, h4, h5, h6, h7, h8, h9, h10⟩ := h
  exact ⟨c, k, i, f, a, cell, h1, h2, h3, h4, by rw [hq a (Array.getElem?_eq_some_iff.mp h5).1 h10]; exact h5, h6, h7, h8, h9, h10⟩
theorem vx_L.narrow {C n d : String} {A B : Nat → Prop} {U : State} {H : Heap} (h : vx_L C n d A U H) (hAB : ∀ q, B q → A q) : vx_L C n d B U H := by
  obtain ⟨c, k, i, f, a, cell, h1, h2, h3, h4, h5, h6, h7, h8, h9, h10⟩ := h
  exact ⟨c, k, i, f, a, cell, h1, h2, h3, h4, h5, h6, h7, h8, h9, fun z => h10 (hAB _ z)⟩
theorem vx_L.word {C n d : String} {A : Nat → Prop} {s : State} {args : Array Value} (h : vx_L C n d A s s.heap) : (Cond.laysStatic C n d).before args s = true := by
  obtain ⟨c, k, i, f, a, cell, h1, h2, h3, h4, h5, h6, h7, h8, h9, -⟩ := h
  show (Cond.laysStatic C n d).holds args s none s [] = true
  exact Cond.laysStatic_of h1 h2 h3 h4 h5 h6 h7 h8 h9
/-- .. and what it holds: null or some reference -/
def vx_Zq (C n d : String) (A : Nat → Prop) (U : State) (H : Heap) : Prop := va_Zq C n d A U H ∧ vx_L C n d A U H
theorem vx_Zq.moved {C n d : String} {A : Nat → Prop} {u U : State} {H : Heap} (hvm : u.vm.Alike U.vm) (h : vx_Zq C n d A u H) : vx_Zq C n d A U H := ⟨va_Zq.moved hvm h.1, vx_L.moved hvm h.2⟩
theorem vx_Zq.kept {C n d : String} {A : Nat → Prop} {U : State} {H H1 : Heap} (h : vx_Zq C n d A U H) (hq : ∀ a : Nat, a < H.size → ¬ A a → H1[a]? = H[a]?) : vx_Zq C n d A U H1 := ⟨va_Zq.kept h.1 hq, vx_L.kept h.2 hq⟩
theorem vx_Zq.narrow {C n d : String} {A B : Nat → Prop} {U : State} {H : Heap} (h : vx_Zq C n d A U H) (hAB : ∀ q, B q → A q) : vx_Zq C n d B U H := ⟨va_Zq.narrow h.1 hAB, vx_L.narrow h.2 hAB⟩
theorem vx_Zqof {args : Array Value} {s : State} {C n d : String} {A : Nat → Prop} (hl : (Cond.laysStatic C n d).before args s = true) (hini : (Cond.initialized C).before args s = true) (h : (Cond.isRef (.static C n d)).before args s = true) (hA : ∀ a : Nat, a < s.heap.size → ¬ A a) : vx_Zq C n d A s s.heap := by
  refine ⟨va_Zqof hl hini h hA, ?_⟩
  obtain ⟨c, k, i, f, a, cell, h1, h2, h3, h4, h5, h6, h7, h8, h9⟩ := Cond.laysStatic_spec hl
  exact ⟨c, k, i, f, a, cell, h1, h2, h3, h4, h5, h6, h7, h8, h9, hA a (Array.getElem?_eq_some_iff.mp h5).1⟩
theorem vx_isRef {C n d : String} {v : Value} {A : Nat → Prop} {s : State} {args : Array Value} (h : va_Z C n d v A s s.heap) (hv : v.isRef = true) : (Cond.isRef (.static C n d)).before args s = true := by
  obtain ⟨cf, kf, fi, f, a, cell, h1, h2, h3, h4, h5, h6, h7, -⟩ := h
  have he : (Term.static C n d).eval args s none [] s = some v := by
    simp [Term.eval, State.fieldNamed?, h1, h2, h4, h5, h6, h7]
  simp only [Cond.before, Cond.holds, Cond.value, he]
  cases v <;> simp_all [Value.isRef]
theorem vx_isRefq {C n d : String} {A : Nat → Prop} {s : State} {args : Array Value} (h : va_Zq C n d A s s.heap) : (Cond.isRef (.static C n d)).before args s = true := by
  rcases h with h | ⟨t, h⟩
  · exact vx_isRef h rfl
  · exact vx_isRef h rfl
/-- the same frame, seen from here: as if the method were called anew in this heap -/
theorem vx_rebase {T : State} (X : Stand p l e R s m args below meth c T locs cells slots) {R' : Room} (hf : R'.frames ≤ R.frames) (hl : R'.locals ≤ R.locals) (hc : cells + R'.cells ≤ R.cells) (hs : slots + R'.slots ≤ R.slots) :
    Stand p l e R' ((T.setVm s.vm).setFrames (.invoking m args :: below)) m args below meth c T [] 0 0 := by
  have htop : (T.setVm s.vm).topJava?.isSome := X.here.top
  have hF : ((T.setVm s.vm).setFrames (.invoking m args :: below)).frames = .invoking m args :: below := State.frames_setFrames _ (State.cur_lt_of_top htop)
  obtain ⟨g₀, hg0⟩ := Option.isSome_iff_exists.mp htop
  obtain ⟨r, hr⟩ := State.topJava?_eq_some.mp hg0
  have hl9 : e.platform.stackLimits (T.setVm s.vm).me = e.platform.stackLimits s.me := X.limits
  have hb9 : (T.setVm s.vm).me.stackBytes = s.me.stackBytes := X.bytes
  refine ⟨X.admits, X.cas, X.clock, hF, ?_, X.hears, X.method, X.code, X.here, X.tail, X.warmed, ?_, ?_, ?_⟩
  · have h := X.room
    have hU : ((T.setVm s.vm).setFrames (.invoking m args :: below)).localsInUse = s.localsInUse := by
      rw [State.localsInUse_invoking hF (meth := meth) (c := c) X.method X.code, State.localsInUse_invoking X.frames X.method X.code]
    simp only [State.hasRoom, Bool.and_eq_true, decide_eq_true_eq] at h ⊢
    obtain ⟨⟨⟨⟨h1, h2, h3, h4, h5, h6⟩, h7⟩, h8⟩, h9⟩ := h
    rw [X.frames, List.length_cons] at h2 h3
    have q1 := X.heapSize
    have q2 := X.used
    simp only [hF, hU, List.length_cons, State.stackLimits_setFrames, State.stackBytes_setFrames, hl9, hb9]
    refine ⟨⟨⟨⟨by omega, by omega, by omega, by omega, by omega, h6⟩, ?_⟩, ?_⟩, X.book⟩
    · show T.heap.size + R'.cells ≤ e.platform.maxCells
      omega
    · show T.slotsUsed + R'.slots ≤ e.platform.maxSlots
      omega
  · rw [State.stackLimits_setFrames]; rfl
  · rw [State.stackBytes_setFrames]; rfl
  · refine ⟨?_, Nat.le_refl _, Nat.le_refl _, ?_, ?_, fun a c9 h9 => ⟨c9, h9, rfl, rfl, fun _ _ => rfl⟩⟩
    · obtain ⟨t, ht, -⟩ := State.frames_cons hr
      show T.setVm s.vm = { ((T.setVm s.vm).setFrames (.invoking m args :: below)).setFrames (T.setVm s.vm).frames with heap := T.heap, slotsUsed := T.slotsUsed }
      rw [State.setFrames_setFrames, State.setFrames_self ht]
      rfl
    · show T.slotsUsed = T.slotsUsed + ((T.heap.toList.drop T.heap.size).map (·.slots.size)).sum
      rw [List.drop_eq_nil_of_le (Nat.le_of_eq Array.length_toList)]
      rfl
    · show ((T.heap.toList.drop T.heap.size).map (·.slots.size)).sum ≤ 0
      rw [List.drop_eq_nil_of_le (Nat.le_of_eq Array.length_toList)]
      exact Nat.le_refl _
/-- 'throw new E()': new; dup; invokespecial; athrow -/
theorem vx_throw0 {cc : ByteArray} {pc : Nat} (hexec : p.tables.exec = Jvm.exec) (hb : c.code = cc) (hl : l.stackTraces = false) {own cls : String} {names : List String} {ik ic mc ms : Nat} {A : Nat → Prop}
    (hown : s.vm.findClass own = some m.cls) (hcls : Bundle.fit cls = true) (hnames : ∀ n ∈ names, Bundle.fit n = true)
    (hk : (Cond.classLink own ik cls).before args s = true) (hini : (Cond.initialized cls).before args s = true) (hat : ∀ w ∈ vx_at0 own ic cls names, w.before args s = true)
    (hgood : ∀ w ∈ Cond.classLink own ik cls :: Cond.initialized cls :: vx_at0 own ic cls names, vx_ot w = true)
    (hU : vx_Zq Bundle.tN "UNASSIGNED_STACK" Bundle.steD A s s.heap) (hN : vx_Zq Bundle.tN "SUPPRESSED_SENTINEL" Bundle.listD A s s.heap) (hS : va_S A s.heap H locs) (hsize : ls.size = c.maxLocals)
    (d0 : decode cc pc = .ok (.new ik, 3)) (d3 : decode cc (pc + 3) = .ok (.dup, 1)) (d4 : decode cc (pc + 4) = .ok (.invokespecial ic, 3)) (d7 : decode cc (pc + 7) = .ok (.athrow, 1))
    (hout : ∀ x ∈ c.exceptionTable.toList, covers x (pc + 7) = false)
    (hRframes : names.length + 3 < R.frames) (hRlocals : (rest.map fun v => v.category).sum + (13 * (names.length + 1) + 42) ≤ R.locals) (hRcells : cells + 1 ≤ R.cells) (hRslots : slots + 6 ≤ R.slots) (hlocks : meth.locks = false)
    (hx : ∀ t : State, s.vm.Alike t.vm → H.size ≤ t.heap.size → (∀ q : Nat, q < H.size → t.heap[q]? = H[q]?) → XC cls s t)
    (hf : ∀ z ∈ locs, free z.base) (hc : cells + 1 ≤ mc) (hs : slots + 6 ≤ ms) :
    W p l e R s m args below meth c H locs cells slots (vx_MQ below Qc XC args s mc ms free) (F0 m pc ls rest) := by
  intro T hT X
  have htr : e.platform.stackTraces = false := (show e.platform.stackTraces = l.stackTraces by rw [X.admits.platform]).trans hl
  have Y := vx_rebase X (R' := { frames := R.frames, locals := R.locals, cells := 1, slots := 6 }) (Nat.le_refl _) (Nat.le_refl _) hRcells hRslots
  obtain ⟨s', hA⟩ : ∃ z, z = (T.setVm s.vm).setFrames (.invoking m args :: below) := ⟨_, rfl⟩
  rw [← hA] at Y
  have hvm : s'.vm = s.vm := by rw [hA]; rfl
  have hhp : s'.heap = H := by rw [hA]; exact hT
  have hW0 : s.WarmedH s'.vm := by rw [hvm]; exact State.WarmedH.refl s
  have hat' : ∀ w ∈ vx_at0 own ic cls names, w.before args s' = true := fun w hw => vx_ot_at hW0 hvm.symm (hgood w (List.mem_cons_of_mem _ (List.mem_cons_of_mem _ hw))) (hat w hw)
  have hk' : (Cond.classLink own ik cls).before args s' = true := vx_ot_at hW0 hvm.symm (hgood _ List.mem_cons_self) hk
  have hini' : (Cond.initialized cls).before args s' = true := vx_ot_at hW0 hvm.symm (hgood _ (List.mem_cons_of_mem _ List.mem_cons_self)) hini
  have hU' : vx_Zq Bundle.tN "UNASSIGNED_STACK" Bundle.steD A s' s'.heap := by rw [hhp]; exact vx_Zq.moved hW0.alike (hU.kept hS.2.1)
  have hN' : vx_Zq Bundle.tN "SUPPRESSED_SENTINEL" Bundle.listD A s' s'.heap := by rw [hhp]; exact vx_Zq.moved hW0.alike (hN.kept hS.2.1)
  have h : ∀ w ∈ Bundle.ownAtoms0 own ic cls names, w.before args s' = true := vx_own hat' (vx_isRefq hU'.1) (vx_isRefq hN'.1) hU'.2.word hN'.2.word
  have hown' : s'.vm.findClass own = some m.cls := by rw [hvm]; exact hown
  have hins : (Cond.instantiable cls 6).before args s' = true := h _ (by simp [Bundle.ownAtoms0])
  obtain ⟨vm₁, cX, kX, hfX, hkX, -, -, X₁, st1⟩ := Y.newCold hexec (own := own) (C := cls) (index := ik) (n := 6) hown' hk' hins hini'
    (g := F0 m pc ls rest) rfl (by rw [hb]; exact d0) (Nat.le_refl _) (Nat.le_refl _)
  generalize hT1 : (T.setVm vm₁).pushCell { cls := cX, slots := kX.instanceTypes.map defaultValue, vm := .none } = T1 at X₁ st1
  have hcat : (Value.ref T.heap.size).category = 1 := rfl
  have hcellA : T1.heap[T.heap.size]? = some (freshCell cX kX) := by rw [← hT1]; exact State.heap_pushCell_size _ _
  have d3' : decode c.code (pc + 3) = .ok (.dup, 1) := by rw [hb]; exact d3
  obtain ⟨U, hsteps, hrun, hend, hW, hsame, ce, hce, hO⟩ := X₁.ctorThrow0 hexec htr (own := own) (cls := cls) (names := names) (ic := ic) hown' hcls hnames h (fun x hx => nomatch hx) hfX hkX hcellA (by rw [hhp, hT]; exact Nat.le_refl _)
    (g := { method := m, pc := pc + 4, locals := ls, stack := .ref T.heap.size :: .ref T.heap.size :: rest, locked := none }) rfl hsize rfl rfl (rest := rest) rfl
    (by rw [hb]; exact d4) (by rw [hb]; exact d7) hout hRframes (by simp only [List.map_cons, List.sum_cons, hcat]; omega) hlocks
  obtain ⟨f1, f2⟩ := vx_frame hsame
  rw [hhp] at f1 f2
  have hWs : s.WarmedH U.vm := State.WarmedH.trans hW0 hW
  have hcl : s.vm.findClass cls = some ce.cls := by
    have h9 := hO.cls
    rw [hvm] at h9
    exact h9
  have hall : s.sameButNew ({ U with vm := s.vm } : State) locs mc ms := by
    subst hA
    obtain ⟨e1, e2⟩ := hsame
    rw [State.setFrames_setFrames] at e1
    have h2 : (T.setVm s.vm).sameButNew ({ U with vm := s.vm } : State) [] (0 + 1) (0 + 6) := ⟨e1, e2⟩
    have h3 := X.same.trans h2
    rw [List.append_nil] at h3
    exact h3.mono hc hs
  refine ⟨U, ?_, .threw T.heap.size, hrun, hend, Or.inr ⟨T.heap.size, rfl, cls, ce, locs, hx U hWs.alike f1 (fun q hq => f2 q hq (fun z hz => nomatch hz)), hce, hO.vm, hcl, hWs, hall, hf⟩⟩
  refine st1 _ ?_
  show Steps p.tables e below (T1.setTop { method := m, pc := pc + 3, locals := ls, stack := .ref T.heap.size :: rest, locked := none }) _
  jvm_step X₁.here [X₁.here.top, hexec, d3', Value.category]
  exact hsteps
/-- 'throw new E("text")': new; dup; ldc; invokespecial; athrow -/
theorem vx_throwS {cc : ByteArray} {pc : Nat} (hexec : p.tables.exec = Jvm.exec) (hb : c.code = cc) (hl : l.stackTraces = false) {own cls text : String} {names : List String} {ik is ic mc ms sa : Nat} {A : Nat → Prop}
    (hown : s.vm.findClass own = some m.cls) (hcls : Bundle.fit cls = true) (hnames : ∀ n ∈ names, Bundle.fit n = true)
    (hk : (Cond.classLink own ik cls).before args s = true) (hini : (Cond.initialized cls).before args s = true) (hstr : vk_R own is text sa s) (hat : ∀ w ∈ vx_atS own ic cls names, w.before args s = true)
    (hgood : ∀ w ∈ Cond.classLink own ik cls :: Cond.initialized cls :: vx_atS own ic cls names, vx_ot w = true)
    (hU : vx_Zq Bundle.tN "UNASSIGNED_STACK" Bundle.steD A s s.heap) (hN : vx_Zq Bundle.tN "SUPPRESSED_SENTINEL" Bundle.listD A s s.heap) (hS : va_S A s.heap H locs) (hsize : ls.size = c.maxLocals)
    (d0 : decode cc pc = .ok (.new ik, 3)) (d3 : decode cc (pc + 3) = .ok (.dup, 1)) (d4 : decode cc (pc + 4) = .ok (.ldc is, 2)) (d6 : decode cc (pc + 6) = .ok (.invokespecial ic, 3)) (d9 : decode cc (pc + 9) = .ok (.athrow, 1))
    (hout : ∀ x ∈ c.exceptionTable.toList, covers x (pc + 9) = false)
    (hRframes : names.length + 3 < R.frames) (hRlocals : (rest.map fun v => v.category).sum + (13 * (names.length + 1) + 43) ≤ R.locals) (hRcells : cells + 1 ≤ R.cells) (hRslots : slots + 6 ≤ R.slots) (hlocks : meth.locks = false)
    (hx : ∀ t : State, s.vm.Alike t.vm → H.size ≤ t.heap.size → (∀ q : Nat, q < H.size → t.heap[q]? = H[q]?) → XC cls s t)
    (hf : ∀ z ∈ locs, free z.base) (hc : cells + 1 ≤ mc) (hs : slots + 6 ≤ ms) :
    W p l e R s m args below meth c H locs cells slots (vx_MQ below Qc XC args s mc ms free) (F0 m pc ls rest) := by
  intro T hT X
  have htr : e.platform.stackTraces = false := (show e.platform.stackTraces = l.stackTraces by rw [X.admits.platform]).trans hl
  have Y := vx_rebase X (R' := { frames := R.frames, locals := R.locals, cells := 1, slots := 6 }) (Nat.le_refl _) (Nat.le_refl _) hRcells hRslots
  obtain ⟨s', hA⟩ : ∃ z, z = (T.setVm s.vm).setFrames (.invoking m args :: below) := ⟨_, rfl⟩
  rw [← hA] at Y
  have hvm : s'.vm = s.vm := by rw [hA]; rfl
  have hhp : s'.heap = H := by rw [hA]; exact hT
  have hW0 : s.WarmedH s'.vm := by rw [hvm]; exact State.WarmedH.refl s
  have hat' : ∀ w ∈ vx_atS own ic cls names, w.before args s' = true := fun w hw => vx_ot_at hW0 hvm.symm (hgood w (List.mem_cons_of_mem _ (List.mem_cons_of_mem _ hw))) (hat w hw)
  have hk' : (Cond.classLink own ik cls).before args s' = true := vx_ot_at hW0 hvm.symm (hgood _ List.mem_cons_self) hk
  have hini' : (Cond.initialized cls).before args s' = true := vx_ot_at hW0 hvm.symm (hgood _ (List.mem_cons_of_mem _ List.mem_cons_self)) hini
  have hU' : vx_Zq Bundle.tN "UNASSIGNED_STACK" Bundle.steD A s' s'.heap := by rw [hhp]; exact vx_Zq.moved hW0.alike (hU.kept hS.2.1)
  have hN' : vx_Zq Bundle.tN "SUPPRESSED_SENTINEL" Bundle.listD A s' s'.heap := by rw [hhp]; exact vx_Zq.moved hW0.alike (hN.kept hS.2.1)
  have h : ∀ w ∈ Bundle.ownAtoms own ic cls names, w.before args s' = true := vx_own hat' (vx_isRefq hU'.1) (vx_isRefq hN'.1) hU'.2.word hN'.2.word
  have hown' : s'.vm.findClass own = some m.cls := by rw [hvm]; exact hown
  have hins : (Cond.instantiable cls 6).before args s' = true := h _ (by simp [Bundle.ownAtoms])
  obtain ⟨vm₁, cX, kX, hfX, hkX, -, -, X₁, st1⟩ := Y.newCold hexec (own := own) (C := cls) (index := ik) (n := 6) hown' hk' hins hini'
    (g := F0 m pc ls rest) rfl (by rw [hb]; exact d0) (Nat.le_refl _) (Nat.le_refl _)
  generalize hT1 : (T.setVm vm₁).pushCell { cls := cX, slots := kX.instanceTypes.map defaultValue, vm := .none } = T1 at X₁ st1
  have hcat : (Value.ref T.heap.size).category = 1 := rfl
  have hcellA : T1.heap[T.heap.size]? = some (freshCell cX kX) := by rw [← hT1]; exact State.heap_pushCell_size _ _
  have d3' : decode c.code (pc + 3) = .ok (.dup, 1) := by rw [hb]; exact d3
  have d4' : decode c.code (pc + 4) = .ok (.ldc is, 2) := by rw [hb]; exact d4
  have hstr' : vk_R own is text sa s' := vk_R.warm hW0 hstr
  obtain ⟨U, hsteps, hrun, hend, hW, hsame, ce, hce, hO⟩ := X₁.ctorThrowS hexec htr (own := own) (cls := cls) (names := names) (ic := ic) hown' hcls hnames h (fun x hx => nomatch hx) hfX hkX hcellA (by rw [hhp, hT]; exact Nat.le_refl _) (msg := .ref sa) rfl
    (g := { method := m, pc := pc + 6, locals := ls, stack := .ref sa :: .ref T.heap.size :: .ref T.heap.size :: rest, locked := none }) rfl hsize rfl rfl (rest := rest) rfl
    (by rw [hb]; exact d6) (by rw [hb]; exact d9) hout hRframes (by simp only [List.map_cons, List.sum_cons, hcat]; omega) hlocks
  obtain ⟨f1, f2⟩ := vx_frame hsame
  rw [hhp] at f1 f2
  have hWs : s.WarmedH U.vm := State.WarmedH.trans hW0 hW
  have hcl : s.vm.findClass cls = some ce.cls := by
    have h9 := hO.cls
    rw [hvm] at h9
    exact h9
  have hall : s.sameButNew ({ U with vm := s.vm } : State) locs mc ms := by
    subst hA
    obtain ⟨e1, e2⟩ := hsame
    rw [State.setFrames_setFrames] at e1
    have h2 : (T.setVm s.vm).sameButNew ({ U with vm := s.vm } : State) [] (0 + 1) (0 + 6) := ⟨e1, e2⟩
    have h3 := X.same.trans h2
    rw [List.append_nil] at h3
    exact h3.mono hc hs
  refine ⟨U, ?_, .threw T.heap.size, hrun, hend, Or.inr ⟨T.heap.size, rfl, cls, ce, locs, hx U hWs.alike f1 (fun q hq => f2 q hq (fun z hz => nomatch hz)), hce, hO.vm, hcl, hWs, hall, hf⟩⟩
  refine st1 _ ?_
  show Steps p.tables e below (T1.setTop { method := m, pc := pc + 3, locals := ls, stack := .ref T.heap.size :: rest, locked := none }) _
  jvm_step X₁.here [X₁.here.top, hexec, d3', Value.category]
  exact X₁.ldcString hexec (own := own) (text := text) (index := is) (a := sa) hown' hstr'.1 hstr'.2
    (g := { method := m, pc := pc + 4, locals := ls, stack := .ref T.heap.size :: .ref T.heap.size :: rest, locked := none }) rfl d4' _ hsteps
/-- 'throw new E("text")', the text by a wide index -/
theorem vx_throwSW {cc : ByteArray} {pc : Nat} (hexec : p.tables.exec = Jvm.exec) (hb : c.code = cc) (hl : l.stackTraces = false) {own cls text : String} {names : List String} {ik is ic mc ms sa : Nat} {A : Nat → Prop}
    (hown : s.vm.findClass own = some m.cls) (hcls : Bundle.fit cls = true) (hnames : ∀ n ∈ names, Bundle.fit n = true)
    (hk : (Cond.classLink own ik cls).before args s = true) (hini : (Cond.initialized cls).before args s = true) (hstr : vk_R own is text sa s) (hat : ∀ w ∈ vx_atS own ic cls names, w.before args s = true)
    (hgood : ∀ w ∈ Cond.classLink own ik cls :: Cond.initialized cls :: vx_atS own ic cls names, vx_ot w = true)
    (hU : vx_Zq Bundle.tN "UNASSIGNED_STACK" Bundle.steD A s s.heap) (hN : vx_Zq Bundle.tN "SUPPRESSED_SENTINEL" Bundle.listD A s s.heap) (hS : va_S A s.heap H locs) (hsize : ls.size = c.maxLocals)
    (d0 : decode cc pc = .ok (.new ik, 3)) (d3 : decode cc (pc + 3) = .ok (.dup, 1)) (d4 : decode cc (pc + 4) = .ok (.ldc_w is, 3)) (d7 : decode cc (pc + 7) = .ok (.invokespecial ic, 3)) (d10 : decode cc (pc + 10) = .ok (.athrow, 1))
    (hout : ∀ x ∈ c.exceptionTable.toList, covers x (pc + 10) = false)
    (hRframes : names.length + 3 < R.frames) (hRlocals : (rest.map fun v => v.category).sum + (13 * (names.length + 1) + 43) ≤ R.locals) (hRcells : cells + 1 ≤ R.cells) (hRslots : slots + 6 ≤ R.slots) (hlocks : meth.locks = false)
    (hx : ∀ t : State, s.vm.Alike t.vm → H.size ≤ t.heap.size → (∀ q : Nat, q < H.size → t.heap[q]? = H[q]?) → XC cls s t)
    (hf : ∀ z ∈ locs, free z.base) (hc : cells + 1 ≤ mc) (hs : slots + 6 ≤ ms) :
    W p l e R s m args below meth c H locs cells slots (vx_MQ below Qc XC args s mc ms free) (F0 m pc ls rest) := by
  intro T hT X
  have htr : e.platform.stackTraces = false := (show e.platform.stackTraces = l.stackTraces by rw [X.admits.platform]).trans hl
  have Y := vx_rebase X (R' := { frames := R.frames, locals := R.locals, cells := 1, slots := 6 }) (Nat.le_refl _) (Nat.le_refl _) hRcells hRslots
  obtain ⟨s', hA⟩ : ∃ z, z = (T.setVm s.vm).setFrames (.invoking m args :: below) := ⟨_, rfl⟩
  rw [← hA] at Y
  have hvm : s'.vm = s.vm := by rw [hA]; rfl
  have hhp : s'.heap = H := by rw [hA]; exact hT
  have hW0 : s.WarmedH s'.vm := by rw [hvm]; exact State.WarmedH.refl s
  have hat' : ∀ w ∈ vx_atS own ic cls names, w.before args s' = true := fun w hw => vx_ot_at hW0 hvm.symm (hgood w (List.mem_cons_of_mem _ (List.mem_cons_of_mem _ hw))) (hat w hw)
  have hk' : (Cond.classLink own ik cls).before args s' = true := vx_ot_at hW0 hvm.symm (hgood _ List.mem_cons_self) hk
  have hini' : (Cond.initialized cls).before args s' = true := vx_ot_at hW0 hvm.symm (hgood _ (List.mem_cons_of_mem _ List.mem_cons_self)) hini
  have hU' : vx_Zq Bundle.tN "UNASSIGNED_STACK" Bundle.steD A s' s'.heap := by rw [hhp]; exact vx_Zq.moved hW0.alike (hU.kept hS.2.1)
  have hN' : vx_Zq Bundle.tN "SUPPRESSED_SENTINEL" Bundle.listD A s' s'.heap := by rw [hhp]; exact vx_Zq.moved hW0.alike (hN.kept hS.2.1)
  have h : ∀ w ∈ Bundle.ownAtoms own ic cls names, w.before args s' = true := vx_own hat' (vx_isRefq hU'.1) (vx_isRefq hN'.1) hU'.2.word hN'.2.word
  have hown' : s'.vm.findClass own = some m.cls := by rw [hvm]; exact hown
  have hins : (Cond.instantiable cls 6).before args s' = true := h _ (by simp [Bundle.ownAtoms])
  obtain ⟨vm₁, cX, kX, hfX, hkX, -, -, X₁, st1⟩ := Y.newCold hexec (own := own) (C := cls) (index := ik) (n := 6) hown' hk' hins hini'
    (g := F0 m pc ls rest) rfl (by rw [hb]; exact d0) (Nat.le_refl _) (Nat.le_refl _)
  generalize hT1 : (T.setVm vm₁).pushCell { cls := cX, slots := kX.instanceTypes.map defaultValue, vm := .none } = T1 at X₁ st1
  have hcat : (Value.ref T.heap.size).category = 1 := rfl
  have hcellA : T1.heap[T.heap.size]? = some (freshCell cX kX) := by rw [← hT1]; exact State.heap_pushCell_size _ _
  have d3' : decode c.code (pc + 3) = .ok (.dup, 1) := by rw [hb]; exact d3
  have d4' : decode c.code (pc + 4) = .ok (.ldc_w is, 3) := by rw [hb]; exact d4
  have hstr' : vk_R own is text sa s' := vk_R.warm hW0 hstr
  obtain ⟨U, hsteps, hrun, hend, hW, hsame, ce, hce, hO⟩ := X₁.ctorThrowS hexec htr (own := own) (cls := cls) (names := names) (ic := ic) hown' hcls hnames h (fun x hx => nomatch hx) hfX hkX hcellA (by rw [hhp, hT]; exact Nat.le_refl _) (msg := .ref sa) rfl
    (g := { method := m, pc := pc + 7, locals := ls, stack := .ref sa :: .ref T.heap.size :: .ref T.heap.size :: rest, locked := none }) rfl hsize rfl rfl (rest := rest) rfl
    (by rw [hb]; exact d7) (by rw [hb]; exact d10) hout hRframes (by simp only [List.map_cons, List.sum_cons, hcat]; omega) hlocks
  obtain ⟨f1, f2⟩ := vx_frame hsame
  rw [hhp] at f1 f2
  have hWs : s.WarmedH U.vm := State.WarmedH.trans hW0 hW
  have hcl : s.vm.findClass cls = some ce.cls := by
    have h9 := hO.cls
    rw [hvm] at h9
    exact h9
  have hall : s.sameButNew ({ U with vm := s.vm } : State) locs mc ms := by
    subst hA
    obtain ⟨e1, e2⟩ := hsame
    rw [State.setFrames_setFrames] at e1
    have h2 : (T.setVm s.vm).sameButNew ({ U with vm := s.vm } : State) [] (0 + 1) (0 + 6) := ⟨e1, e2⟩
    have h3 := X.same.trans h2
    rw [List.append_nil] at h3
    exact h3.mono hc hs
  refine ⟨U, ?_, .threw T.heap.size, hrun, hend, Or.inr ⟨T.heap.size, rfl, cls, ce, locs, hx U hWs.alike f1 (fun q hq => f2 q hq (fun z hz => nomatch hz)), hce, hO.vm, hcl, hWs, hall, hf⟩⟩
  refine st1 _ ?_
  show Steps p.tables e below (T1.setTop { method := m, pc := pc + 3, locals := ls, stack := .ref T.heap.size :: rest, locked := none }) _
  jvm_step X₁.here [X₁.here.top, hexec, d3', Value.category]
  exact X₁.ldcStringW hexec (own := own) (text := text) (index := is) (a := sa) hown' hstr'.1 hstr'.2
    (g := { method := m, pc := pc + 4, locals := ls, stack := .ref T.heap.size :: .ref T.heap.size :: rest, locked := none }) rfl d4' _ hsteps
end Ends
section Bodies
variable {l : Launch}
theorem vx_ofW {y : MethodName} {ws ws' : List Cond} {rm : Room} {Pc : Array Value → State → Prop} {Qc : Array Value → State → Outcome → State → Prop} {XC : String → State → State → Prop} {mc ms : Nat} {free : Addr → Prop} {cc : ByteArray} {maxL : Nat} {ret : Option FieldType}
    (hy : plainName y.cls = true) (hw : ws = Cond.code y cc maxL ret :: ws')
    (body : ∀ p e s m args below meth c s₁, BodyLoose p l y (headSpec ws rm) cc maxL ret e s m args below meth c s₁ → c.maxLocals = maxL → (∀ x ∈ c.exceptionTable.toList, False) → Pc args s →
      W p l e (headSpec ws rm).room s m args below meth c s.heap [] 0 0 (vx_MQ below Qc XC args s mc ms free) (entryFrame m args maxL)) : vx_Met l y ws rm Pc Qc XC mc ms free := by
  refine MetFree.of_bodyS (code := cc) (maxLocals := maxL) (ret := ret) hy ?_ ?_
  · intro args s m h hn
    obtain ⟨meth, c, h1, h2, h3, h4, h5, h6, -, -⟩ := Cond.code_spec hn (atoms_spec (ws := ws) h _ (by rw [hw]; exact List.mem_cons_self))
    exact ⟨meth, c, h1, h2, h3, h4, h5, h6⟩
  · intro p e s m args below meth c s₁ B hml hP _
    have hh0 : s₁.heap = s.heap := by rw [B.state]; rfl
    have ht : ∀ x ∈ c.exceptionTable.toList, False := by
      obtain ⟨meth9, c9, h1, h2, -, -, -, -, h7, -⟩ := Cond.code_spec B.named (atoms_spec (ws := ws) B.pre _ (by rw [hw]; exact List.mem_cons_self))
      cases Option.some.inj (h1.symm.trans B.method)
      cases Option.some.inj (h2.symm.trans (Stand.of_body B).code)
      intro x hx
      rw [Array.isEmpty_iff.mp h7] at hx
      cases hx
    obtain ⟨t, a1, o, b1, b2, b3⟩ := body p e s m args below meth c s₁ B hml ht hP s₁ hh0 (Stand.of_body B)
    exact ⟨t, o, a1, b1, b2, b3⟩
/-- the table of a body with handlers -/
theorem vx_table {p : Program} {x y : MethodName} {S : Spec} {cc bytes : ByteArray} {maxL maxL' : Nat} {ret ret' : Option FieldType} {e : Env} {s s₁ : State} {m : MethodId} {args : Array Value} {below : List Frame} {meth : Method} {c : Code} {hh : List (Nat × Nat × Nat × Nat)}
    (B : BodyLoose p l y S cc maxL ret e s m args below meth c s₁) (h : (Cond.codeWith y bytes maxL' ret' hh).before args s = true) : c.exceptionTable.toList = tableOf hh := by
  obtain ⟨m9, meth9, c9, hn9, h1, h2, -, -, h6, -⟩ := Cond.codeWith_spec h
  cases Option.some.inj (hn9.symm.trans B.named)
  cases Option.some.inj (h1.symm.trans B.method)
  cases Option.some.inj (h2.symm.trans (Stand.of_body B).code)
  rw [← h6, table_eq]
end Bodies
end VXA
/-! ===== END ===== -/
/-! ===== BEGIN a static call of a method with an exception table ===== -/
section VXS
variable {p : Program} {l : Launch} {e : Env} {R : Room} {s : State} {m : MethodId} {args : Array Value} {below : List Frame} {meth : Method} {c : Code} {T : State} {H : Heap} {locs : List Loc} {cells slots : Nat}
abbrev vx_CSW (R : Room) (s : State) (args : Array Value) (own : String) (index : Nat) (y : MethodName) (bytes : ByteArray) (maxL : Nat) (ret : Option FieldType) (hh : List (Nat × Nat × Nat × Nat)) (ws : List Cond) (rm : Room) (mc ms n : Nat) : Prop :=
  (rm.cells = mc ∧ rm.slots = ms ∧ rm.frames + 1 ≤ R.frames ∧ 8 + (maxL + 11) + rm.locals ≤ R.locals ∧ (∀ w ∈ ws, ∀ (a' : Array Value) (U : State), s.WarmedH U.vm → w.before a' U = true) ∧ Cond.codeWith y bytes maxL ret hh ∈ ws) ∧
  (Cond.codeWith y bytes maxL ret hh).before args s = true ∧ (Cond.initialized y.cls).before args s = true ∧ (y.cls ≠ "java/lang/invoke/MethodHandle" ∧ y.cls ≠ "java/lang/invoke/VarHandle") ∧
  (∀ sig, parseMethodDescriptor y.desc = some sig → n = sig.parameters.length) ∧ (Cond.methodLink own index y).before args s = true ∧ (Cond.static y).before args s = true
theorem vx_cwSW {own : String} {index maxL mc ms : Nat} {y : MethodName} {bytes : ByteArray} {ret : Option FieldType} {hh : List (Nat × Nat × Nat × Nat)} {Ts ws ws' : List Cond} {rm : Room} (n : Nat) (ht : ∀ w ∈ Ts, w.before args s = true) (hT : GoodIn Ts (va_wsS own index y ws)) (hw : ws = Cond.codeWith y bytes maxL ret hh :: ws') (hrc : rm.cells = mc) (hrs : rm.slots = ms)
    (hd : y.cls ≠ "java/lang/invoke/MethodHandle" ∧ y.cls ≠ "java/lang/invoke/VarHandle" ∧ (parseMethodDescriptor y.desc).map (fun d => d.parameters.length) = some n) (hR : rm.frames + 1 ≤ R.frames ∧ 8 + (maxL + 11) + rm.locals ≤ R.locals) :
    vx_CSW R s args own index y bytes maxL ret hh ws rm mc ms n := by
  have ok : ∀ w ∈ va_wsS own index y ws, w.before args s = true := fun w h => ht w (hT w h).1
  have hG : GoodIn Ts ws := fun w h => hT w (by unfold va_wsS; exact List.mem_append_right _ h)
  have hc : Cond.codeWith y bytes maxL ret hh ∈ ws := by rw [hw]; exact List.mem_cons_self
  refine ⟨⟨hrc, hrs, hR.1, hR.2, pay_in ht hG, hc⟩, ht _ (hG _ hc).1, ok _ (by simp [va_wsS]), ⟨hd.1, hd.2.1⟩, fun sig h => ?_, ok _ (by simp [va_wsS]), ok _ (by simp [va_wsS])⟩
  have h2 := hd.2.2
  rw [h] at h2
  exact (Option.some.inj h2).symm
theorem vx_callSW (X : Stand p l e R s m args below meth c T locs cells slots) (hexec : p.tables.exec = Jvm.exec) {own : String} {index : Nat} {y : MethodName} {bytes : ByteArray} {maxL : Nat} {ret : Option FieldType} {hh : List (Nat × Nat × Nat × Nat)}
    (hown : s.vm.findClass own = some m.cls) (hlink : (Cond.methodLink own index y).before args s = true) (hstat : (Cond.static y).before args s = true) (hinit : (Cond.initialized y.cls).before args s = true)
    (hcode : (Cond.codeWith y bytes maxL ret hh).before args s = true) (hy : y.cls ≠ "java/lang/invoke/MethodHandle" ∧ y.cls ≠ "java/lang/invoke/VarHandle")
    {W9 : Nat} {Pre : Pt → Array Value → Prop} {Post : Pt → Array Value → Option Value → Pt → Prop} (hK : Back l R p e below s args y 3 W9 Pre Post)
    {g : JFrame} (hg : g.method = m) (hsize : g.locals.size = c.maxLocals) {argsL rest : List Value} (hlen : ∀ sig, parseMethodDescriptor y.desc = some sig → argsL.length = sig.parameters.length)
    (hstack : g.stack = argsL.reverse ++ rest) (hW : 2 * g.monitorRoom + (rest.map fun v => v.category).sum ≤ W9) (hdg : decode c.code g.pc = .ok (.invokestatic index, 3))
    (hpre : ∀ vm₁, s.WarmedH vm₁ → Pre ⟨T.setVm vm₁, locs, cells, slots⟩ argsL.toArray) :
    ∃ (v : Option Value) (vm₁ : Vm) (B : Pt), s.WarmedH vm₁ ∧ Stand p l e R s m args below meth c B.U B.locs B.cells B.slots ∧ Post ⟨T.setVm vm₁, locs, cells, slots⟩ argsL.toArray v B ∧
      ∀ target, Steps p.tables e below (B.U.setTop { g with pc := g.pc + 3, stack := v.toList ++ rest }) target → Steps p.tables e below (T.setTop g) target := by
  obtain ⟨mk, methM, cM, hnamed, hmethM, -, -, -, -, -, -, hsigM⟩ := Cond.codeWith_spec hcode
  have hstatic : methM.isStatic = true := Cond.static_spec hnamed hmethM hstat
  obtain ⟨kP, hkP, -⟩ := className_of_methodNamed hnamed
  have hinitP : kP.init = .initialized := Cond.initialized_spec (findClass_of_methodNamed hnamed) hkP hinit
  obtain ⟨vm₁, X₁, hstep₁⟩ := X.invokestatic hexec hown hlink hnamed hmethM hstatic hkP hinitP hy (g := g) hg (argsL := argsL) (rest := rest) (hlen _ hsigM) hstack hdg
  obtain ⟨v, B, X', hpost, hsteps⟩ := hK m meth c ⟨T.setVm vm₁, locs, cells, slots⟩ { g with stack := rest } (.invokestatic index) mk argsL.toArray X₁ hg hsize hdg hW (X₁.named hnamed) (hpre vm₁ X₁.warmed)
  exact ⟨v, vm₁, B, X₁.warmed, X', hpost, fun target h => hstep₁ _ fun acts => by rw [doInvoke_state]; exact hsteps.trans h⟩
theorem vx_runSW {y : MethodName} {bytes cc : ByteArray} {maxL nL mc ms n index : Nat} {ret : Option FieldType} {hh : List (Nat × Nat × Nat × Nat)} {ws : List Cond} {rm : Room} {Pc : Array Value → State → Prop} {Qc : Array Value → State → Outcome → State → Prop} {free : Addr → Prop} {Ts : List Cond} {own : String} {As rest : List Value} {g : JFrame}
    (S : CallFix p m c cc nL s args Ts own) (hM : Met l y ws rm Pc Qc mc ms free) (cw : vx_CSW R s args own index y bytes maxL ret hh ws rm mc ms n) (hp : PreS s H Pc As)
    (hg : g.method = m) (hn : As.length = n) (hsize : g.locals.size = nL) (hstack : g.stack = As.reverse ++ rest) (hW : 2 * g.monitorRoom + (rest.map fun v => v.category).sum ≤ 8) (hdg : decode cc g.pc = .ok (.invokestatic index, 3)) (hf : cells + mc ≤ R.cells ∧ slots + ms ≤ R.slots) :
    va_Run p l e R s m args below meth c H locs cells slots mc ms g rest (Qc As.toArray) (free) := by
  obtain ⟨⟨hrc, hrs, hfr, hlo, hws, hcw⟩, hcode, hini, hy, hlen, hl, hstt⟩ := cw
  have hK : Back l R p e below s args y 3 8 (PreOf R mc ms Pc) (PostOf Qc mc ms free) := va_backW (hh := hh) (bytes := bytes) (maxL := maxL) (ret := ret) hM hp.1 hrc hrs hfr hlo hws hcw (fun a' U hW => word_at hW (Or.inl (by first | rfl | simp [Cond.onTables, Cond.keeps, Cond.steady])) hini)
  obtain ⟨hx, hb, hml, ho, -⟩ := S
  intro T hT X
  obtain ⟨v, vm₁, ⟨U', l2, c2, s2⟩, hW₁, X', ⟨g', mk, t, L, e1, e2, hq, h1, hL, h2, h3⟩, st⟩ := vx_callSW X hx (hh := hh) (bytes := bytes) (maxL := maxL) (ret := ret) ho hl hstt hini hcode hy hK hg (hsize.trans hml.symm) (argsL := As) (rest := rest) (fun sig h => hn.trans (hlen sig h)) hstack hW (by rw [hb]; exact hdg)
    (fun vm₁ hW₁ => ⟨hf.1, hf.2, hp.2 (T.setVm vm₁) hT hW₁⟩)
  dsimp only [Pt.U, Pt.locs, Pt.cells, Pt.slots] at X' e1 e2 h1 h2 h3 st
  subst h1; subst h2; subst h3
  exact ⟨v, (T.setVm vm₁).calling g' mk As.toArray, t, U', L, hT, X', hL, e1, e2, hq, st⟩
/-- not caught here, past rows that name other classes: it goes on to the caller -/
theorem vx_outP {p : Program} {l : Launch} {e : Env} {R : Room} {s : State} {m : MethodId} {args : Array Value} {below : List Frame} {meth : Method} {c : Code} {H : Heap} {locs : List Loc} {cells slots : Nat} {free : Addr → Prop} {ls : Array Slot} {rest : List Value} {Qc : Array Value → State → Outcome → State → Prop} {XC : String → State → State → Prop}
    {pc : Nat} {own E : String} {ce : Cell} {q : Addr} {mc ms : Nat} (hown : s.vm.findClass own = some m.cls) (hlocks : meth.locks = false)
    (hpass : ∀ z ∈ c.exceptionTable.toList, covers z pc = false ∨ (z.catchType ≠ 0 ∧ ∃ nm : String, (Cond.classLink own z.catchType nm).before args s = true ∧ va_Nc E nm s)) (hcell : H[q]? = some ce) (hv : ce.vm = .none) (hcl : s.vm.findClass E = some ce.cls)
    (hx : ∀ t : State, t.heap = H → s.vm.Alike t.vm → XC E s t) (hf : ∀ z ∈ locs, free z.base) (hc : cells ≤ mc) (hs : slots ≤ ms) :
    vx_W p l e R s m args below meth c H locs cells slots (vx_MQ below Qc XC args s mc ms free) (F0 m pc ls rest) q := by
  intro T hT X
  have hpl : e.platform.magicAccessors = ({} : Platform).magicAccessors := by rw [X.admits.platform]
  obtain ⟨vm', hW', X', st⟩ := X.outThrough hlocks q (g := F0 m pc ls rest) rfl rfl rfl (cell := ce) (by rw [hT]; exact hcell) (by rw [hv]; rfl)
    (by obtain ⟨k9, h9, -⟩ := Vm.findClass_spec hcl; exact ⟨k9, h9⟩) (fun z hz => by
      rcases hpass z hz with h | ⟨hz0, nm, hl1, hn1⟩
      · exact Or.inl h
      · obtain ⟨c6, hc6, hcl6⟩ := Cond.classLink_spec hown hl1 e.platform hpl
        obtain ⟨a8, b8, h1, h2, h3⟩ := hn1
        cases Option.some.inj (h1.symm.trans hcl)
        cases Option.some.inj (h2.symm.trans hc6)
        exact Or.inr ⟨hz0, _, hcl6, h3⟩)
  obtain ⟨g₀, hfr⟩ := X'.frames_eq
  have hcell9 : ((T.setVm vm').setFrames (.throwing q :: below)).heap[q]? = some ce := by
    show T.heap[q]? = some ce
    rw [hT]; exact hcell
  have hend : Ended ((T.setVm vm').setFrames (.throwing q :: below)) below (.threw q) := State.frames_setFrames _ (State.cur_lt_of_frames hfr)
  refine ⟨(T.setVm vm').setFrames (.throwing q :: below), ?_, .threw q, X'.here.running, hend, Or.inr ⟨q, rfl, E, ce, locs, hx _ hT (X'.ends _).1.alike, hcell9, hv, hcl, (X'.ends _).1, (X'.ends _).2.mono hc hs, hf⟩⟩
  rw [X.pushThrowing_eq]
  exact st
/-- a thing of a world lies in the heap -/
theorem vx_lt {D : va_G} {cl : List vw_C} {ws : va_W} {H1 : Heap} (h : va_P D cl ws H1) {k : Nat} {q : Nat × va_E} (hk : ws[k]? = some q) : q.1 < H1.size := (h k q hk).lt
end VXS
/-! ===== END ===== -/
/-! ===== BEGIN methods with a table of their own: called by a name, returning or throwing ===== -/
section VXH
/-! vx_backW, vx_callVX, vx_callSX, vx_callVW, vx_runVW, vx_runVX, vx_runSX, vx_ofWH follow the same proofs as their sisters above (Free/Laws.lean, Shelf42/LK1.lean); vx_outP calls Shelf42/NT130.lean (outThrough). -/
section
variable {l : Launch} {R : Room} {p : Program} {e : Env} {below : List Frame} {s : State} {sargs : Array Value} {y : MethodName} {len W9 : Nat}
theorem vx_backW {ws : List Cond} {rm : Room} {Pc : Array Value → State → Prop} {Qc : Array Value → State → Outcome → State → Prop} {XC : String → State → State → Prop} {mc ms : Nat} {free : Addr → Prop} {bytes : ByteArray} {maxL : Nat} {ret : Option FieldType} {hh : List (Nat × Nat × Nat × Nat)}
    (hM : vx_Met l y ws rm Pc Qc XC mc ms free) (hblind : FrameBlind Pc) (hrc : rm.cells = mc) (hrs : rm.slots = ms)
    (hframes : rm.frames + 1 ≤ R.frames) (hlocals : W9 + (maxL + 11) + rm.locals ≤ R.locals)
    (hws : ∀ w ∈ ws, ∀ a' U, s.WarmedH U.vm → w.before a' U = true) (hcode : Cond.codeWith y bytes maxL ret hh ∈ ws) (hinit : ∀ a' U, s.WarmedH U.vm → (Cond.initialized y.cls).before a' U = true) :
    vx_Back l R p e below s sargs y len W9 (PreOf R mc ms Pc) (PostOf Qc mc ms free) (vx_Post XC mc ms free) := by
  intro m meth c A g ig mk a X hg hsize hdg hW hn hp
  have h1 : (headSpec ws rm).pre.before a A.U = true := atoms_intro fun w hw => hws w hw _ _ X.warmed
  have h2 : (Cond.codeWith y bytes maxL ret hh).before a A.U = true := hws _ hcode _ _ X.warmed
  have h3 : (Cond.initialized y.cls).before a A.U = true := hinit _ _ X.warmed
  have h4 : A.cells + (headSpec ws rm).room.cells ≤ R.cells := by rw [show (headSpec ws rm).room.cells = mc from hrc]; exact hp.1
  have h5 : A.slots + (headSpec ws rm).room.slots ≤ R.slots := by rw [show (headSpec ws rm).room.slots = ms from hrs]; exact hp.2.1
  have hPc : Pc a (A.U.calling g mk a) := hblind _ _ _ _ hp.2.2
  obtain ⟨U, Ls, c0, s0⟩ := A
  dsimp only [Pt.U, Pt.locs, Pt.cells, Pt.slots] at h1 h2 h3 h4 h5 X hn hPc ⊢
  obtain ⟨m9, methY, cY, hn9, hmY, hcY, -, hlY, -⟩ := Cond.codeWith_spec h2
  cases Option.some.inj (hn9.symm.trans hn)
  obtain ⟨kY, hkY, -⟩ := className_of_methodNamed hn
  have hinitY : kY.init = .initialized := Cond.initialized_spec (findClass_of_methodNamed hn) hkY h3
  have h : At U g.method c below := by rw [hg]; exact X.here
  have hlocals9 : W9 + (maxL + 11) + (headSpec ws rm).room.locals ≤ R.locals := hlocals
  have happ : (headSpec ws rm).appliesLoose y e.platform (U.calling g mk a) = true :=
    Spec.appliesLoose_calling (g := g) h hdg hn hkY hinitY
      (X.room_calling (g := g) (R' := (headSpec ws rm).room) hsize hmY hcY hframes (by rw [hlY]; omega) h4 h5) h1
  obtain ⟨mid, hmid⟩ := h.above
  have hfr : (U.setTop g).frames = (.java g :: mid) ++ below := by rw [State.frames_setTop' g h.top, hmid]; rfl
  obtain ⟨o, s₂, hsteps, -, hend, hq⟩ := Steps.callFree hM p X.admits X.cas X.clock (acts := []) hfr happ hPc trivial
  have hq' : vx_Q Qc XC mc ms free a (U.calling g mk a) o s₂ := hq
  rw [State.frames_setTop' g h.top] at hend
  obtain ⟨g₀, hg0⟩ := Option.isSome_iff_exists.mp h.top
  obtain ⟨r, hr⟩ := State.topJava?_eq_some.mp hg0
  have hr' : (({ U with heap := s₂.heap, slotsUsed := s₂.slotsUsed } : State).setVm s₂.vm).frames = .java g₀ :: r := hr
  rcases hq' with ⟨hqc, L, hfe, hL⟩ | ⟨q, rfl, E, ce, L, hx, hce, hcv, hcl, hW₂, hsm, hL⟩
  · obtain ⟨⟨v, rfl⟩, hW₂, e2, q2, q3, q4, q5, q6⟩ := id hfe
    have e3 : s₂ = ({ (U.calling g mk a).setFrames s₂.frames with heap := s₂.heap, slotsUsed := s₂.slotsUsed } : State).setVm s₂.vm := by
      have : s₂ = ({ s₂ with vm := (U.calling g mk a).vm } : State).setVm s₂.vm := rfl
      rw [e2] at this
      exact this
    obtain ⟨c₂, i₂, len₂, hc₂, hd₂, hf₂⟩ := hend
    have hW' : U.WarmedH s₂.vm := hW₂
    have hcc : c₂ = c := by
      have h1 : s₂.code? g.method = U.code? g.method := by
        rw [State.code?_eq, State.code?_eq, hW'.alike.method?]
      exact Option.some.inj (hc₂.symm.trans (h1.trans h.code))
    subst hcc
    have hlen : len₂ = len := by rw [hdg] at hd₂; cases hd₂; rfl
    subst hlen
    have hs₂ : s₂ = (({ U with heap := s₂.heap, slotsUsed := s₂.slotsUsed } : State).setVm s₂.vm).setTop { g with pc := g.pc + len₂, stack := v.toList ++ g.stack } := by
      refine e3.trans ?_
      rw [hf₂, State.calling_eq h.top, State.setFrames_setFrames, State.setTop_of_frames _ hr', hr]
      rfl
    have hsame : U.sameButNew ({ U with heap := s₂.heap, slotsUsed := s₂.slotsUsed } : State) L mc ms := by
      refine ⟨?_, q2, q3, q4, q5, q6⟩
      obtain ⟨t, ht, -⟩ := State.frames_cons hr
      show ({ U with heap := s₂.heap, slotsUsed := s₂.slotsUsed } : State) = { U.setFrames U.frames with heap := s₂.heap, slotsUsed := s₂.slotsUsed }
      rw [State.setFrames_self ht]
    subst hg
    refine Or.inl ⟨v, ⟨(({ U with heap := s₂.heap, slotsUsed := s₂.slotsUsed } : State).setVm s₂.vm), Ls ++ L, c0 + mc, s0 + ms⟩,
      ⟨X.admits, X.cas, X.clock, X.frames, X.room, X.hears, X.method, X.code, (X.here.setHeapUsed s₂.heap s₂.slotsUsed).setVm hW'.alike, X.tail, State.WarmedH.trans X.warmed hW', X.limits, X.bytes, X.same.trans (hsame.setVm s.vm)⟩,
      ⟨g, mk, s₂, L, rfl, rfl, hqc, rfl, hL, rfl, rfl⟩, ?_⟩
    show Steps p.tables e below _ ((({ U with heap := s₂.heap, slotsUsed := s₂.slotsUsed } : State).setVm s₂.vm).setTop { g with pc := g.pc + len₂, stack := v.toList ++ g.stack })
    rw [← hs₂]
    exact hsteps
  · obtain ⟨e2, q2, q3, q4, q5, q6⟩ := id hsm
    have e3 : s₂ = ({ (U.calling g mk a).setFrames s₂.frames with heap := s₂.heap, slotsUsed := s₂.slotsUsed } : State).setVm s₂.vm := by
      have : s₂ = ({ s₂ with vm := (U.calling g mk a).vm } : State).setVm s₂.vm := rfl
      rw [e2] at this
      exact this
    have hf₂ : s₂.frames = .throwing q :: .java g :: U.frames.tail := hend
    have hW' : U.WarmedH s₂.vm := hW₂
    have hs₂ : s₂ = ((({ U with heap := s₂.heap, slotsUsed := s₂.slotsUsed } : State).setVm s₂.vm).setTop g).pushFrame (.throwing q) := by
      refine e3.trans ?_
      rw [hf₂, State.calling_eq h.top, State.setFrames_setFrames, State.pushFrame, State.frames_setTop _ hr', State.setTop_of_frames _ hr', State.setFrames_setFrames, hr]
      rfl
    have hsame : U.sameButNew ({ U with heap := s₂.heap, slotsUsed := s₂.slotsUsed } : State) L mc ms := by
      refine ⟨?_, q2, q3, q4, q5, q6⟩
      obtain ⟨t, ht, -⟩ := State.frames_cons hr
      show ({ U with heap := s₂.heap, slotsUsed := s₂.slotsUsed } : State) = { U.setFrames U.frames with heap := s₂.heap, slotsUsed := s₂.slotsUsed }
      rw [State.setFrames_self ht]
    subst hg
    refine Or.inr ⟨q, ⟨(({ U with heap := s₂.heap, slotsUsed := s₂.slotsUsed } : State).setVm s₂.vm), Ls ++ L, c0 + mc, s0 + ms⟩,
      ⟨X.admits, X.cas, X.clock, X.frames, X.room, X.hears, X.method, X.code, (X.here.setHeapUsed s₂.heap s₂.slotsUsed).setVm hW'.alike, X.tail, State.WarmedH.trans X.warmed hW', X.limits, X.bytes, X.same.trans (hsame.setVm s.vm)⟩,
      ⟨g, mk, s₂, L, E, ce, rfl, rfl, hx, hce, hcv, hcl, rfl, hL, rfl, rfl⟩, ?_⟩
    show Steps p.tables e below _ (((({ U with heap := s₂.heap, slotsUsed := s₂.slotsUsed } : State).setVm s₂.vm).setTop g).pushFrame (.throwing q))
    rw [← hs₂]
    exact hsteps
end
variable {p : Program} {l : Launch} {e : Env} {R : Room} {s : State} {m : MethodId} {args : Array Value} {below : List Frame} {meth : Method} {c : Code} {T : State} {H : Heap} {locs : List Loc} {cells slots : Nat}
theorem vx_callVX (X : Stand p l e R s m args below meth c T locs cells slots) (hexec : p.tables.exec = Jvm.exec) {own C : String} {index : Nat} {y : MethodName} {bytes : ByteArray} {maxL : Nat} {ret : Option FieldType} {hh : List (Nat × Nat × Nat × Nat)}
    (hown : s.vm.findClass own = some m.cls) (hlink : (Cond.methodLink own index y).before args s = true) (hinst : (Cond.instanceMethod y).before args s = true) (hsel : (Cond.selects C y y).before args s = true)
    (hcode : (Cond.codeWith y bytes maxL ret hh).before args s = true) (hy : y.cls ≠ "java/lang/invoke/MethodHandle" ∧ y.cls ≠ "java/lang/invoke/VarHandle")
    {W9 : Nat} {Pre : Pt → Array Value → Prop} {Post : Pt → Array Value → Option Value → Pt → Prop} {PostX : Pt → Array Value → Addr → Pt → Prop} (hK : vx_Back l R p e below s args y 3 W9 Pre Post PostX)
    {b : Addr} {cellB : Cell} (hcell : T.heap[b]? = some cellB) (hobj : cellB.vm.isStatics = false) (hcls : s.vm.findClass C = some cellB.cls)
    {g : JFrame} (hg : g.method = m) (hsize : g.locals.size = c.maxLocals) {argsL rest : List Value} (hlen : ∀ sig, parseMethodDescriptor y.desc = some sig → argsL.length = sig.parameters.length)
    (hstack : g.stack = argsL.reverse ++ .ref b :: rest) (hW : 2 * g.monitorRoom + (rest.map fun v => v.category).sum ≤ W9) (hdg : decode c.code g.pc = .ok (.invokevirtual index, 3))
    (hpre : ∀ vm₁, s.WarmedH vm₁ → Pre ⟨T.setVm vm₁, locs, cells, slots⟩ (Value.ref b :: argsL).toArray) :
    (∃ (v : Option Value) (vm₁ : Vm) (B : Pt), s.WarmedH vm₁ ∧ Stand p l e R s m args below meth c B.U B.locs B.cells B.slots ∧ Post ⟨T.setVm vm₁, locs, cells, slots⟩ (Value.ref b :: argsL).toArray v B ∧
      ∀ target, Steps p.tables e below (B.U.setTop { g with pc := g.pc + 3, stack := v.toList ++ rest }) target → Steps p.tables e below (T.setTop g) target) ∨
    (∃ (q : Addr) (vm₁ : Vm) (B : Pt), s.WarmedH vm₁ ∧ Stand p l e R s m args below meth c B.U B.locs B.cells B.slots ∧ PostX ⟨T.setVm vm₁, locs, cells, slots⟩ (Value.ref b :: argsL).toArray q B ∧
      Steps p.tables e below (T.setTop g) ((B.U.setTop { g with stack := rest }).pushFrame (.throwing q))) := by
  obtain ⟨mk, methM, hnamed, hmethM, hstM, habM⟩ := Cond.instanceMethod_spec hinst
  obtain ⟨m8, methM', cM, hn8, hmethM', -, -, -, -, -, -, hsigM⟩ := Cond.codeWith_spec hcode
  cases Option.some.inj (hn8.symm.trans hnamed)
  cases hmethM.symm.trans hmethM'
  obtain ⟨c2, r2, m2, q1, q2, q3, q4, kP, hkP, hkPi⟩ := Cond.selects_spec hsel
  cases hcls.symm.trans q1
  cases (State.methodFound?_of_named hnamed hy).symm.trans q2
  cases hnamed.symm.trans q3
  have hselP : selectMethod e.platform s.vm cellB.cls mk = .method mk := by rw [Launch.admits_selectMethod X.admits]; exact q4
  obtain ⟨vm₁, X₁, hstep₁⟩ := X.invokevirtual hexec hown hlink hnamed hmethM hstM hkP hkPi hy (a := b) (cell := cellB) hcell
    (fun z h => by rw [h] at hobj; cases hobj) hselP hmethM habM hkP hkPi (g := g) hg (argsL := argsL) (rest := rest) (hlen _ hsigM) hstack hdg
  rcases hK m meth c ⟨T.setVm vm₁, locs, cells, slots⟩ { g with stack := rest } (.invokevirtual index) mk (Value.ref b :: argsL).toArray X₁ hg hsize hdg hW (X₁.named hnamed) (hpre vm₁ X₁.warmed) with ⟨v, B, X', hpost, hsteps⟩ | ⟨q, B, X', hpost, hsteps⟩
  · exact Or.inl ⟨v, vm₁, B, X₁.warmed, X', hpost, fun target h => hstep₁ _ fun acts => by rw [doInvoke_state]; exact hsteps.trans h⟩
  · exact Or.inr ⟨q, vm₁, B, X₁.warmed, X', hpost, hstep₁ _ fun acts => by rw [doInvoke_state]; exact hsteps⟩
theorem vx_callSX (X : Stand p l e R s m args below meth c T locs cells slots) (hexec : p.tables.exec = Jvm.exec) {own : String} {index : Nat} {y : MethodName} {bytes : ByteArray} {maxL : Nat} {ret : Option FieldType} {hh : List (Nat × Nat × Nat × Nat)}
    (hown : s.vm.findClass own = some m.cls) (hlink : (Cond.methodLink own index y).before args s = true) (hstat : (Cond.static y).before args s = true) (hinit : (Cond.initialized y.cls).before args s = true)
    (hcode : (Cond.codeWith y bytes maxL ret hh).before args s = true) (hy : y.cls ≠ "java/lang/invoke/MethodHandle" ∧ y.cls ≠ "java/lang/invoke/VarHandle")
    {W9 : Nat} {Pre : Pt → Array Value → Prop} {Post : Pt → Array Value → Option Value → Pt → Prop} {PostX : Pt → Array Value → Addr → Pt → Prop} (hK : vx_Back l R p e below s args y 3 W9 Pre Post PostX)
    {g : JFrame} (hg : g.method = m) (hsize : g.locals.size = c.maxLocals) {argsL rest : List Value} (hlen : ∀ sig, parseMethodDescriptor y.desc = some sig → argsL.length = sig.parameters.length)
    (hstack : g.stack = argsL.reverse ++ rest) (hW : 2 * g.monitorRoom + (rest.map fun v => v.category).sum ≤ W9) (hdg : decode c.code g.pc = .ok (.invokestatic index, 3))
    (hpre : ∀ vm₁, s.WarmedH vm₁ → Pre ⟨T.setVm vm₁, locs, cells, slots⟩ argsL.toArray) :
    (∃ (v : Option Value) (vm₁ : Vm) (B : Pt), s.WarmedH vm₁ ∧ Stand p l e R s m args below meth c B.U B.locs B.cells B.slots ∧ Post ⟨T.setVm vm₁, locs, cells, slots⟩ argsL.toArray v B ∧
      ∀ target, Steps p.tables e below (B.U.setTop { g with pc := g.pc + 3, stack := v.toList ++ rest }) target → Steps p.tables e below (T.setTop g) target) ∨
    (∃ (q : Addr) (vm₁ : Vm) (B : Pt), s.WarmedH vm₁ ∧ Stand p l e R s m args below meth c B.U B.locs B.cells B.slots ∧ PostX ⟨T.setVm vm₁, locs, cells, slots⟩ argsL.toArray q B ∧
      Steps p.tables e below (T.setTop g) ((B.U.setTop { g with stack := rest }).pushFrame (.throwing q))) := by
  obtain ⟨mk, methM, cM, hnamed, hmethM, -, -, -, -, -, -, hsigM⟩ := Cond.codeWith_spec hcode
  have hstatic : methM.isStatic = true := Cond.static_spec hnamed hmethM hstat
  obtain ⟨kP, hkP, -⟩ := className_of_methodNamed hnamed
  have hinitP : kP.init = .initialized := Cond.initialized_spec (findClass_of_methodNamed hnamed) hkP hinit
  obtain ⟨vm₁, X₁, hstep₁⟩ := X.invokestatic hexec hown hlink hnamed hmethM hstatic hkP hinitP hy (g := g) hg (argsL := argsL) (rest := rest) (hlen _ hsigM) hstack hdg
  rcases hK m meth c ⟨T.setVm vm₁, locs, cells, slots⟩ { g with stack := rest } (.invokestatic index) mk argsL.toArray X₁ hg hsize hdg hW (X₁.named hnamed) (hpre vm₁ X₁.warmed) with ⟨v, B, X', hpost, hsteps⟩ | ⟨q, B, X', hpost, hsteps⟩
  · exact Or.inl ⟨v, vm₁, B, X₁.warmed, X', hpost, fun target h => hstep₁ _ fun acts => by rw [doInvoke_state]; exact hsteps.trans h⟩
  · exact Or.inr ⟨q, vm₁, B, X₁.warmed, X', hpost, hstep₁ _ fun acts => by rw [doInvoke_state]; exact hsteps⟩
theorem vx_callVW (X : Stand p l e R s m args below meth c T locs cells slots) (hexec : p.tables.exec = Jvm.exec) {own C : String} {index : Nat} {y : MethodName} {bytes : ByteArray} {maxL : Nat} {ret : Option FieldType} {hh : List (Nat × Nat × Nat × Nat)}
    (hown : s.vm.findClass own = some m.cls) (hlink : (Cond.methodLink own index y).before args s = true) (hinst : (Cond.instanceMethod y).before args s = true) (hsel : (Cond.selects C y y).before args s = true)
    (hcode : (Cond.codeWith y bytes maxL ret hh).before args s = true) (hy : y.cls ≠ "java/lang/invoke/MethodHandle" ∧ y.cls ≠ "java/lang/invoke/VarHandle")
    {W9 : Nat} {Pre : Pt → Array Value → Prop} {Post : Pt → Array Value → Option Value → Pt → Prop} (hK : Back l R p e below s args y 3 W9 Pre Post)
    {b : Addr} {cellB : Cell} (hcell : T.heap[b]? = some cellB) (hobj : cellB.vm.isStatics = false) (hcls : s.vm.findClass C = some cellB.cls)
    {g : JFrame} (hg : g.method = m) (hsize : g.locals.size = c.maxLocals) {argsL rest : List Value} (hlen : ∀ sig, parseMethodDescriptor y.desc = some sig → argsL.length = sig.parameters.length)
    (hstack : g.stack = argsL.reverse ++ .ref b :: rest) (hW : 2 * g.monitorRoom + (rest.map fun v => v.category).sum ≤ W9) (hdg : decode c.code g.pc = .ok (.invokevirtual index, 3))
    (hpre : ∀ vm₁, s.WarmedH vm₁ → Pre ⟨T.setVm vm₁, locs, cells, slots⟩ (Value.ref b :: argsL).toArray) :
    ∃ (v : Option Value) (vm₁ : Vm) (B : Pt), s.WarmedH vm₁ ∧ Stand p l e R s m args below meth c B.U B.locs B.cells B.slots ∧ Post ⟨T.setVm vm₁, locs, cells, slots⟩ (Value.ref b :: argsL).toArray v B ∧
      ∀ target, Steps p.tables e below (B.U.setTop { g with pc := g.pc + 3, stack := v.toList ++ rest }) target → Steps p.tables e below (T.setTop g) target := by
  obtain ⟨mk, methM, hnamed, hmethM, hstM, habM⟩ := Cond.instanceMethod_spec hinst
  obtain ⟨m8, methM', cM, hn8, hmethM', -, -, -, -, -, -, hsigM⟩ := Cond.codeWith_spec hcode
  cases Option.some.inj (hn8.symm.trans hnamed)
  cases hmethM.symm.trans hmethM'
  obtain ⟨c2, r2, m2, q1, q2, q3, q4, kP, hkP, hkPi⟩ := Cond.selects_spec hsel
  cases hcls.symm.trans q1
  cases (State.methodFound?_of_named hnamed hy).symm.trans q2
  cases hnamed.symm.trans q3
  have hselP : selectMethod e.platform s.vm cellB.cls mk = .method mk := by rw [Launch.admits_selectMethod X.admits]; exact q4
  obtain ⟨vm₁, X₁, hstep₁⟩ := X.invokevirtual hexec hown hlink hnamed hmethM hstM hkP hkPi hy (a := b) (cell := cellB) hcell
    (fun z h => by rw [h] at hobj; cases hobj) hselP hmethM habM hkP hkPi (g := g) hg (argsL := argsL) (rest := rest) (hlen _ hsigM) hstack hdg
  obtain ⟨v, B, X', hpost, hsteps⟩ := hK m meth c ⟨T.setVm vm₁, locs, cells, slots⟩ { g with stack := rest } (.invokevirtual index) mk (Value.ref b :: argsL).toArray X₁ hg hsize hdg hW (X₁.named hnamed) (hpre vm₁ X₁.warmed)
  exact ⟨v, vm₁, B, X₁.warmed, X', hpost, fun target h => hstep₁ _ fun acts => by rw [doInvoke_state]; exact hsteps.trans h⟩
abbrev vx_CVW (R : Room) (s : State) (args : Array Value) (own C : String) (index : Nat) (y : MethodName) (bytes : ByteArray) (maxL : Nat) (ret : Option FieldType) (hh : List (Nat × Nat × Nat × Nat)) (ws : List Cond) (rm : Room) (mc ms n : Nat) : Prop :=
  (rm.cells = mc ∧ rm.slots = ms ∧ rm.frames + 1 ≤ R.frames ∧ 8 + (maxL + 11) + rm.locals ≤ R.locals ∧ (∀ w ∈ ws, ∀ (a' : Array Value) (U : State), s.WarmedH U.vm → w.before a' U = true) ∧ Cond.codeWith y bytes maxL ret hh ∈ ws) ∧
  (Cond.codeWith y bytes maxL ret hh).before args s = true ∧ (Cond.initialized y.cls).before args s = true ∧ (y.cls ≠ "java/lang/invoke/MethodHandle" ∧ y.cls ≠ "java/lang/invoke/VarHandle") ∧
  (∀ sig, parseMethodDescriptor y.desc = some sig → n = sig.parameters.length) ∧ (Cond.methodLink own index y).before args s = true ∧ (Cond.instanceMethod y).before args s = true ∧ (Cond.selects C y y).before args s = true
theorem vx_cwVW {own C : String} {index maxL mc ms : Nat} {y : MethodName} {bytes : ByteArray} {ret : Option FieldType} {hh : List (Nat × Nat × Nat × Nat)} {Ts ws ws' : List Cond} {rm : Room} (n : Nat) (ht : ∀ w ∈ Ts, w.before args s = true) (hT : GoodIn Ts (wsV own index C y ws)) (hw : ws = Cond.codeWith y bytes maxL ret hh :: ws') (hrc : rm.cells = mc) (hrs : rm.slots = ms)
    (hd : y.cls = C ∧ y.cls ≠ "java/lang/invoke/MethodHandle" ∧ y.cls ≠ "java/lang/invoke/VarHandle" ∧ (parseMethodDescriptor y.desc).map (fun d => d.parameters.length) = some n) (hR : rm.frames + 1 ≤ R.frames ∧ 8 + (maxL + 11) + rm.locals ≤ R.locals) :
    vx_CVW R s args own C index y bytes maxL ret hh ws rm mc ms n := by
  obtain ⟨hC, hd⟩ := hd
  subst hC
  have ok : ∀ w ∈ wsV own index y.cls y ws, w.before args s = true := fun w h => ht w (hT w h).1
  have hG : GoodIn Ts ws := fun w h => hT w (by unfold wsV; exact List.mem_append_right _ h)
  have hc : Cond.codeWith y bytes maxL ret hh ∈ ws := by rw [hw]; exact List.mem_cons_self
  refine ⟨⟨hrc, hrs, hR.1, hR.2, pay_in ht hG, hc⟩, ht _ (hG _ hc).1, ok _ (by simp [wsV]), ⟨hd.1, hd.2.1⟩, fun sig h => ?_, ok _ (by simp [wsV]), ok _ (by simp [wsV]), ok _ (by simp [wsV])⟩
  have h2 := hd.2.2
  rw [h] at h2
  exact (Option.some.inj h2).symm
theorem vx_runVW {y : MethodName} {bytes cc : ByteArray} {maxL nL mc ms n index : Nat} {ret : Option FieldType} {hh : List (Nat × Nat × Nat × Nat)} {ws : List Cond} {rm : Room} {Pc : Array Value → State → Prop} {Qc : Array Value → State → Outcome → State → Prop} {free : Addr → Prop} {Ts : List Cond} {own C : String} {b : Addr} {As rest : List Value} {g : JFrame}
    (S : CallFix p m c cc nL s args Ts own) (hM : Met l y ws rm Pc Qc mc ms free) (cw : vx_CVW R s args own C index y bytes maxL ret hh ws rm mc ms n) (hp : PreV s H C b Pc As)
    (hg : g.method = m) (hn : As.length = n) (hsize : g.locals.size = nL) (hstack : g.stack = As.reverse ++ .ref b :: rest) (hW : 2 * g.monitorRoom + (rest.map fun v => v.category).sum ≤ 8) (hdg : decode cc g.pc = .ok (.invokevirtual index, 3)) (hf : cells + mc ≤ R.cells ∧ slots + ms ≤ R.slots) :
    va_Run p l e R s m args below meth c H locs cells slots mc ms g rest (Qc (Value.ref b :: As).toArray) free := by
  obtain ⟨⟨hrc, hrs, hfr, hlo, hws, hcw⟩, hcode, hini, hy, hlen, hl, hin, hse⟩ := cw
  have hK : Back l R p e below s args y 3 8 (PreOf R mc ms Pc) (PostOf Qc mc ms free) := va_backW (hh := hh) (bytes := bytes) (maxL := maxL) (ret := ret) hM hp.1 hrc hrs hfr hlo hws hcw (fun a' U hW => word_at hW (Or.inl (by first | rfl | simp [Cond.onTables, Cond.keeps, Cond.steady])) hini)
  obtain ⟨hx, hb, hml, ho, -⟩ := S
  obtain ⟨-, ⟨cellB, hcB, hoB, hclB⟩, hPc⟩ := hp
  intro T hT X
  obtain ⟨v, vm₁, ⟨U', l2, c2, s2⟩, hW₁, X', ⟨g', mk, t, L, e1, e2, hq, h1, hL, h2, h3⟩, st⟩ := vx_callVW X hx (C := C) (hh := hh) (bytes := bytes) (maxL := maxL) (ret := ret) ho hl hin hse hcode hy hK (by rw [hT]; exact hcB) hoB hclB hg (hsize.trans hml.symm) (argsL := As) (rest := rest) (fun sig h => hn.trans (hlen sig h)) hstack hW (by rw [hb]; exact hdg)
    (fun vm₁ hW₁ => ⟨hf.1, hf.2, hPc (T.setVm vm₁) hT hW₁⟩)
  dsimp only [Pt.U, Pt.locs, Pt.cells, Pt.slots] at X' e1 e2 h1 h2 h3 st
  subst h1; subst h2; subst h3
  exact ⟨v, (T.setVm vm₁).calling g' mk (Value.ref b :: As).toArray, t, U', L, hT, X', hL, e1, e2, hq, st⟩
section
variable {y : MethodName} {bytes cc : ByteArray} {maxL nL mc ms n index : Nat} {ret : Option FieldType} {ws : List Cond} {rm : Room} {Pc : Array Value → State → Prop} {Qc : Array Value → State → Outcome → State → Prop} {XC : String → State → State → Prop} {free : Addr → Prop} {Ts : List Cond} {own C : String} {b : Addr} {As rest : List Value} {g : JFrame}
theorem vx_runVX {hh : List (Nat × Nat × Nat × Nat)} (S : CallFix p m c cc nL s args Ts own) (hM : vx_Met l y ws rm Pc Qc XC mc ms free) (cw : vx_CVW R s args own C index y bytes maxL ret hh ws rm mc ms n) (hp : PreV s H C b Pc As)
    (hg : g.method = m) (hn : As.length = n) (hsize : g.locals.size = nL) (hstack : g.stack = As.reverse ++ .ref b :: rest) (hW : 2 * g.monitorRoom + (rest.map fun v => v.category).sum ≤ 8) (hdg : decode cc g.pc = .ok (.invokevirtual index, 3)) (hf : cells + mc ≤ R.cells ∧ slots + ms ≤ R.slots) :
    vx_Run p l e R s m args below meth c H locs cells slots mc ms g rest (Qc (Value.ref b :: As).toArray) XC free := by
  obtain ⟨⟨hrc, hrs, hfr, hlo, hws, hcw⟩, hcode, hini, hy, hlen, hl, hin, hse⟩ := cw
  have hK : vx_Back l R p e below s args y 3 8 (PreOf R mc ms Pc) (PostOf Qc mc ms free) (vx_Post XC mc ms free) := vx_backW (hh := hh) (bytes := bytes) (maxL := maxL) (ret := ret) hM hp.1 hrc hrs hfr hlo hws hcw (fun a' U hW => word_at hW (Or.inl (by first | rfl | simp [Cond.onTables, Cond.keeps, Cond.steady])) hini)
  obtain ⟨hx, hb, hml, ho, -⟩ := S
  obtain ⟨-, ⟨cellB, hcB, hoB, hclB⟩, hPc⟩ := hp
  intro T hT X
  rcases vx_callVX X hx (C := C) (hh := hh) (bytes := bytes) (maxL := maxL) (ret := ret) ho hl hin hse hcode hy hK (by rw [hT]; exact hcB) hoB hclB hg (hsize.trans hml.symm) (argsL := As) (rest := rest) (fun sig h => hn.trans (hlen sig h)) hstack hW (by rw [hb]; exact hdg)
    (fun vm₁ hW₁ => ⟨hf.1, hf.2, hPc (T.setVm vm₁) hT hW₁⟩) with ⟨v, vm₁, ⟨U', l2, c2, s2⟩, hW₁, X', ⟨g', mk, t, L, e1, e2, hq, h1, hL, h2, h3⟩, st⟩ | ⟨q, vm₁, ⟨U', l2, c2, s2⟩, hW₁, X', ⟨g', mk, t, L, E, ce, e1, e2, hq, hce, hcv, hcl, h1, hL, h2, h3⟩, st⟩
  · dsimp only [Pt.U, Pt.locs, Pt.cells, Pt.slots] at X' e1 e2 h1 h2 h3 st
    subst h1; subst h2; subst h3
    exact Or.inl ⟨v, (T.setVm vm₁).calling g' mk (Value.ref b :: As).toArray, t, U', L, hT, X', hL, e1, e2, hq, st⟩
  · dsimp only [Pt.U, Pt.locs, Pt.cells, Pt.slots] at X' e1 e2 h1 h2 h3 st hcl
    subst h1; subst h2; subst h3
    exact Or.inr ⟨q, (T.setVm vm₁).calling g' mk (Value.ref b :: As).toArray, t, U', L, E, ce, hT, X', hL, e1, e2, hq, hce, hcv, vx_cls hW₁ hcl, st⟩
theorem vx_runSX {hh : List (Nat × Nat × Nat × Nat)} (S : CallFix p m c cc nL s args Ts own) (hM : vx_Met l y ws rm Pc Qc XC mc ms free) (cw : vx_CSW R s args own index y bytes maxL ret hh ws rm mc ms n) (hp : PreS s H Pc As)
    (hg : g.method = m) (hn : As.length = n) (hsize : g.locals.size = nL) (hstack : g.stack = As.reverse ++ rest) (hW : 2 * g.monitorRoom + (rest.map fun v => v.category).sum ≤ 8) (hdg : decode cc g.pc = .ok (.invokestatic index, 3)) (hf : cells + mc ≤ R.cells ∧ slots + ms ≤ R.slots) :
    vx_Run p l e R s m args below meth c H locs cells slots mc ms g rest (Qc As.toArray) XC free := by
  obtain ⟨⟨hrc, hrs, hfr, hlo, hws, hcw⟩, hcode, hini, hy, hlen, hl, hstt⟩ := cw
  have hK : vx_Back l R p e below s args y 3 8 (PreOf R mc ms Pc) (PostOf Qc mc ms free) (vx_Post XC mc ms free) := vx_backW (hh := hh) (bytes := bytes) (maxL := maxL) (ret := ret) hM hp.1 hrc hrs hfr hlo hws hcw (fun a' U hW => word_at hW (Or.inl (by first | rfl | simp [Cond.onTables, Cond.keeps, Cond.steady])) hini)
  obtain ⟨hx, hb, hml, ho, -⟩ := S
  intro T hT X
  rcases vx_callSX X hx (hh := hh) (bytes := bytes) (maxL := maxL) (ret := ret) ho hl hstt hini hcode hy hK hg (hsize.trans hml.symm) (argsL := As) (rest := rest) (fun sig h => hn.trans (hlen sig h)) hstack hW (by rw [hb]; exact hdg)
    (fun vm₁ hW₁ => ⟨hf.1, hf.2, hp.2 (T.setVm vm₁) hT hW₁⟩) with ⟨v, vm₁, ⟨U', l2, c2, s2⟩, hW₁, X', ⟨g', mk, t, L, e1, e2, hq, h1, hL, h2, h3⟩, st⟩ | ⟨q, vm₁, ⟨U', l2, c2, s2⟩, hW₁, X', ⟨g', mk, t, L, E, ce, e1, e2, hq, hce, hcv, hcl, h1, hL, h2, h3⟩, st⟩
  · dsimp only [Pt.U, Pt.locs, Pt.cells, Pt.slots] at X' e1 e2 h1 h2 h3 st
    subst h1; subst h2; subst h3
    exact Or.inl ⟨v, (T.setVm vm₁).calling g' mk As.toArray, t, U', L, hT, X', hL, e1, e2, hq, st⟩
  · dsimp only [Pt.U, Pt.locs, Pt.cells, Pt.slots] at X' e1 e2 h1 h2 h3 st hcl
    subst h1; subst h2; subst h3
    exact Or.inr ⟨q, (T.setVm vm₁).calling g' mk As.toArray, t, U', L, E, ce, hT, X', hL, e1, e2, hq, hce, hcv, vx_cls hW₁ hcl, st⟩
end
end VXH
theorem vx_ofWH {l : Launch} {y : MethodName} {ws ws' : List Cond} {rm : Room} {Pc : Array Value → State → Prop} {Qc : Array Value → State → Outcome → State → Prop} {XC : String → State → State → Prop} {mc ms : Nat} {free : Addr → Prop} {cc : ByteArray} {maxL : Nat} {ret : Option FieldType} {hh : List (Nat × Nat × Nat × Nat)}
    (hy : plainName y.cls = true) (hw : ws = Cond.codeWith y cc maxL ret hh :: ws')
    (body : ∀ p e s m args below meth c s₁, BodyLoose p l y (headSpec ws rm) cc maxL ret e s m args below meth c s₁ → c.maxLocals = maxL → Pc args s →
      W p l e (headSpec ws rm).room s m args below meth c s.heap [] 0 0 (vx_MQ below Qc XC args s mc ms free) (entryFrame m args maxL)) : vx_Met l y ws rm Pc Qc XC mc ms free := by
  refine MetFree.of_bodyS (code := cc) (maxLocals := maxL) (ret := ret) hy ?_ ?_
  · intro args s m h hn
    obtain ⟨m9, meth, c, hn9, h1, h2, h3, h4, -, h5, h6, -⟩ := Cond.codeWith_spec (atoms_spec (ws := ws) h _ (by rw [hw]; exact List.mem_cons_self))
    cases hn.symm.trans hn9
    exact ⟨meth, c, h1, h2, h3, h4, h5, h6⟩
  · intro p e s m args below meth c s₁ B hml hP _
    have hh0 : s₁.heap = s.heap := by rw [B.state]; rfl
    obtain ⟨t, a1, o, b1, b2, b3⟩ := body p e s m args below meth c s₁ B hml hP s₁ hh0 (Stand.of_body B)
    exact ⟨t, o, a1, b1, b2, b3⟩
/-! ===== END ===== -/

/-! ===== BEGIN printed: names, fields, word lists, decode rows ===== -/
def RX0 : String := "MeridianSeries$Buckets"
def TX0 : u_T := fun k => match k with
  | 0 => ("MeridianSeries$Items", "amount", "I", false)
  | _ => ("MeridianSeries$Buckets", "cells", "[I", true)
def tyX0 : Nat → FieldType := fun k => match k with
  | 0 => .int
  | _ => .array .int
abbrev wsX00 : List Cond := u_ws RX0 TX0 2
theorem nmX0 : ∀ a, a < 2 → ∀ b, b < 2 → a ≠ b → (TX0 a).2.1 ≠ (TX0 b).2.1 := by decide +kernel
theorem tyX0_ok : ∀ k, k < 2 → parseFieldDescriptor (TX0 k).2.2.1 = some (tyX0 k) := by decide +kernel
abbrev cX0_init : ByteArray := prog_2_method_1_code
def yX0_init : MethodName := ⟨RX0, "<init>", "()V"⟩
abbrev cX0_number : ByteArray := prog_2_method_2_code
def yX0_number : MethodName := ⟨RX0, "number", "(II)I"⟩
abbrev cX0_isFull : ByteArray := prog_2_method_3_code
def yX0_isFull : MethodName := ⟨RX0, "isFull", "()Z"⟩
abbrev cX0_take : ByteArray := prog_2_method_4_code
def yX0_take : MethodName := ⟨RX0, "take", "(ILMeridianSeries$Items;I)V"⟩
abbrev cX0_dropFirst : ByteArray := prog_2_method_5_code
def yX0_dropFirst : MethodName := ⟨RX0, "dropFirst", "()V"⟩
abbrev cX0_copyFrom : ByteArray := prog_2_method_6_code
def yX0_copyFrom : MethodName := ⟨RX0, "copyFrom", "(LMeridianSeries$Buckets;)V"⟩
abbrev cX0_write : ByteArray := prog_2_method_7_code
def yX0_write : MethodName := ⟨RX0, "write", "(III)V"⟩
def RX1 : String := "MeridianSeries$EventLog"
def TX1 : u_T := fun k => match k with
  | 0 => ("MeridianSeries$EventLog", "cells", "[I", true)
  | 1 => ("MeridianSeries$EventLog", "total", "I", false)
  | _ => ("MeridianSeries$EventLog", "firings", "I", false)
def tyX1 : Nat → FieldType := fun k => match k with
  | 0 => .array .int
  | 1 => .int
  | _ => .int
abbrev wsX10 : List Cond := u_ws RX1 TX1 3
theorem nmX1 : ∀ a, a < 3 → ∀ b, b < 3 → a ≠ b → (TX1 a).2.1 ≠ (TX1 b).2.1 := by decide +kernel
theorem tyX1_ok : ∀ k, k < 3 → parseFieldDescriptor (TX1 k).2.2.1 = some (tyX1 k) := by decide +kernel
abbrev cX1_init : ByteArray := prog_3_method_1_code
def yX1_init : MethodName := ⟨RX1, "<init>", "()V"⟩
abbrev cX1_add : ByteArray := prog_3_method_2_code
def yX1_add : MethodName := ⟨RX1, "add", "(III)V"⟩
abbrev cX1_number : ByteArray := prog_3_method_3_code
def yX1_number : MethodName := ⟨RX1, "number", "(II)I"⟩
def RX2 : String := "MeridianSeries$Items"
def TX2 : u_T := fun k => match k with
  | _ => ("", "", "", false)
def tyX2 : Nat → FieldType := fun k => match k with
  | _ => .int
abbrev wsX20 : List Cond := u_ws RX2 TX2 0
theorem nmX2 : ∀ a, a < 0 → ∀ b, b < 0 → a ≠ b → (TX2 a).2.1 ≠ (TX2 b).2.1 := by decide +kernel
theorem tyX2_ok : ∀ k, k < 0 → parseFieldDescriptor (TX2 k).2.2.1 = some (tyX2 k) := by decide +kernel
abbrev cX2_init : ByteArray := prog_4_method_1_code
def yX2_init : MethodName := ⟨RX2, "<init>", "()V"⟩
def RX3 : String := "MeridianSeries$Packer"
def TX3 : u_T := fun k => match k with
  | 0 => ("MeridianSeries$Packer", "words", "[I", true)
  | 1 => ("MeridianSeries$Packer", "length", "I", false)
  | 2 => ("MeridianSeries$Packer", "packed", "I", false)
  | 3 => ("MeridianSeries$Packer", "lastTime", "I", false)
  | 4 => ("MeridianSeries$Packer", "lastStep", "I", false)
  | _ => ("MeridianSeries$Packer", "lastValue", "I", false)
def tyX3 : Nat → FieldType := fun k => match k with
  | 0 => .array .int
  | 1 => .int
  | 2 => .int
  | 3 => .int
  | 4 => .int
  | _ => .int
abbrev wsX30 : List Cond := u_ws RX3 TX3 6
theorem nmX3 : ∀ a, a < 6 → ∀ b, b < 6 → a ≠ b → (TX3 a).2.1 ≠ (TX3 b).2.1 := by decide +kernel
theorem tyX3_ok : ∀ k, k < 6 → parseFieldDescriptor (TX3 k).2.2.1 = some (tyX3 k) := by decide +kernel
abbrev cX3_init : ByteArray := prog_5_method_1_code
def yX3_init : MethodName := ⟨RX3, "<init>", "()V"⟩
abbrev cX3_pack : ByteArray := prog_5_method_2_code
def yX3_pack : MethodName := ⟨RX3, "pack", "(LMeridianSeries$Points;I)I"⟩
abbrev cX3_packOpenWith : ByteArray := prog_5_method_3_code
def yX3_packOpenWith : MethodName := ⟨RX3, "packOpenWith", "(LMeridianSeries$Points;II)I"⟩
abbrev cX3_wordCount : ByteArray := prog_5_method_4_code
def yX3_wordCount : MethodName := ⟨RX3, "wordCount", "()I"⟩
abbrev cX3_wordAt : ByteArray := prog_5_method_5_code
def yX3_wordAt : MethodName := ⟨RX3, "wordAt", "(I)I"⟩
abbrev cX3_begin : ByteArray := prog_5_method_6_code
def yX3_begin : MethodName := ⟨RX3, "begin", "(I)V"⟩
abbrev cX3_add : ByteArray := prog_5_method_7_code
def yX3_add : MethodName := ⟨RX3, "add", "(II)V"⟩
abbrev cX3_addTime : ByteArray := prog_5_method_8_code
def yX3_addTime : MethodName := ⟨RX3, "addTime", "(I)V"⟩
abbrev cX3_addValue : ByteArray := prog_5_method_9_code
def yX3_addValue : MethodName := ⟨RX3, "addValue", "(I)V"⟩
abbrev cX3_write : ByteArray := prog_5_method_10_code
def yX3_write : MethodName := ⟨RX3, "write", "(II)V"⟩
def RX4 : String := "MeridianSeries$Points"
def TX4 : u_T := fun k => match k with
  | 0 => ("MeridianSeries$Items", "amount", "I", false)
  | 1 => ("MeridianSeries$Points", "times", "[I", true)
  | 2 => ("MeridianSeries$Points", "values", "[I", true)
  | 3 => ("MeridianSeries$Points", "sizes", "[I", true)
  | 4 => ("MeridianSeries$Points", "sealedBlocks", "I", false)
  | 5 => ("MeridianSeries$Points", "sealedPoints", "I", false)
  | _ => ("MeridianSeries$Points", "greatestSealedTime", "I", false)
def tyX4 : Nat → FieldType := fun k => match k with
  | 0 => .int
  | 1 => .array .int
  | 2 => .array .int
  | 3 => .array .int
  | 4 => .int
  | 5 => .int
  | _ => .int
abbrev wsX40 : List Cond := u_ws RX4 TX4 7
theorem nmX4 : ∀ a, a < 7 → ∀ b, b < 7 → a ≠ b → (TX4 a).2.1 ≠ (TX4 b).2.1 := by decide +kernel
theorem tyX4_ok : ∀ k, k < 7 → parseFieldDescriptor (TX4 k).2.2.1 = some (tyX4 k) := by decide +kernel
abbrev cX4_init : ByteArray := prog_6_method_1_code
def yX4_init : MethodName := ⟨RX4, "<init>", "()V"⟩
abbrev cX4_number : ByteArray := prog_6_method_2_code
def yX4_number : MethodName := ⟨RX4, "number", "(II)I"⟩
abbrev cX4_blockCount : ByteArray := prog_6_method_3_code
def yX4_blockCount : MethodName := ⟨RX4, "blockCount", "()I"⟩
abbrev cX4_openSize : ByteArray := prog_6_method_4_code
def yX4_openSize : MethodName := ⟨RX4, "openSize", "()I"⟩
abbrev cX4_sizeOf : ByteArray := prog_6_method_5_code
def yX4_sizeOf : MethodName := ⟨RX4, "sizeOf", "(I)I"⟩
abbrev cX4_startOf : ByteArray := prog_6_method_6_code
def yX4_startOf : MethodName := ⟨RX4, "startOf", "(I)I"⟩
abbrev cX4_isLate : ByteArray := prog_6_method_7_code
def yX4_isLate : MethodName := ⟨RX4, "isLate", "(I)Z"⟩
abbrev cX4_placeOf : ByteArray := prog_6_method_8_code
def yX4_placeOf : MethodName := ⟨RX4, "placeOf", "(I)I"⟩
abbrev cX4_isTakenAt : ByteArray := prog_6_method_9_code
def yX4_isTakenAt : MethodName := ⟨RX4, "isTakenAt", "(II)Z"⟩
abbrev cX4_add : ByteArray := prog_6_method_10_code
def yX4_add : MethodName := ⟨RX4, "add", "(II)V"⟩
abbrev cX4_hasTooManySealed : ByteArray := prog_6_method_11_code
def yX4_hasTooManySealed : MethodName := ⟨RX4, "hasTooManySealed", "()Z"⟩
abbrev cX4_seal : ByteArray := prog_6_method_12_code
def yX4_seal : MethodName := ⟨RX4, "seal", "()V"⟩
abbrev cX4_dropFirstBlock : ByteArray := prog_6_method_13_code
def yX4_dropFirstBlock : MethodName := ⟨RX4, "dropFirstBlock", "()V"⟩
abbrev cX4_blocksBelow : ByteArray := prog_6_method_14_code
def yX4_blocksBelow : MethodName := ⟨RX4, "blocksBelow", "(I)I"⟩
abbrev cX4_copyFrom : ByteArray := prog_6_method_15_code
def yX4_copyFrom : MethodName := ⟨RX4, "copyFrom", "(LMeridianSeries$Points;)V"⟩
abbrev cX4_copyPoint : ByteArray := prog_6_method_16_code
def yX4_copyPoint : MethodName := ⟨RX4, "copyPoint", "(II)V"⟩
abbrev cX4_write : ByteArray := prog_6_method_17_code
def yX4_write : MethodName := ⟨RX4, "write", "(III)V"⟩
def RX5 : String := "MeridianSeries$Rule"
def TX5 : u_T := fun k => match k with
  | 0 => ("MeridianSeries$Rule", "chain", "LMeridianSeries$Series;", true)
  | 1 => ("MeridianSeries$Rule", "what", "I", true)
  | 2 => ("MeridianSeries$Rule", "length", "I", true)
  | 3 => ("MeridianSeries$Rule", "every", "I", true)
  | 4 => ("MeridianSeries$Rule", "isAbove", "Z", true)
  | 5 => ("MeridianSeries$Rule", "limit", "I", true)
  | 6 => ("MeridianSeries$Rule", "times", "I", true)
  | 7 => ("MeridianSeries$Rule", "state", "I", false)
  | _ => ("MeridianSeries$Rule", "timesInRow", "I", false)
def tyX5 : Nat → FieldType := fun k => match k with
  | 0 => .object "MeridianSeries$Series"
  | 1 => .int
  | 2 => .int
  | 3 => .int
  | 4 => .boolean
  | 5 => .int
  | 6 => .int
  | 7 => .int
  | _ => .int
abbrev wsX50 : List Cond := u_ws RX5 TX5 9
theorem nmX5 : ∀ a, a < 9 → ∀ b, b < 9 → a ≠ b → (TX5 a).2.1 ≠ (TX5 b).2.1 := by decide +kernel
theorem tyX5_ok : ∀ k, k < 9 → parseFieldDescriptor (TX5 k).2.2.1 = some (tyX5 k) := by decide +kernel
abbrev cX5_init : ByteArray := prog_7_method_1_code
def yX5_init : MethodName := ⟨RX5, "<init>", "(LMeridianSeries$Series;IIIZII)V"⟩
abbrev cX5_isDueAt : ByteArray := prog_7_method_2_code
def yX5_isDueAt : MethodName := ⟨RX5, "isDueAt", "(I)Z"⟩
abbrev cX5_told : ByteArray := prog_7_method_3_code
def yX5_told : MethodName := ⟨RX5, "told", "(I)I"⟩
abbrev cX5_changesBy : ByteArray := prog_7_method_4_code
def yX5_changesBy : MethodName := ⟨RX5, "changesBy", "(I)Z"⟩
abbrev cX5_ceases : ByteArray := prog_7_method_5_code
def yX5_ceases : MethodName := ⟨RX5, "ceases", "(Z)Z"⟩
abbrev cX5_begins : ByteArray := prog_7_method_6_code
def yX5_begins : MethodName := ⟨RX5, "begins", "(Z)Z"⟩
abbrev cX5_become : ByteArray := prog_7_method_7_code
def yX5_become : MethodName := ⟨RX5, "become", "(I)V"⟩
abbrev cX5_copyFrom : ByteArray := prog_7_method_8_code
def yX5_copyFrom : MethodName := ⟨RX5, "copyFrom", "(LMeridianSeries$Rule;)V"⟩
def RX6 : String := "MeridianSeries$Series"
def TX6 : u_T := fun k => match k with
  | 0 => ("MeridianSeries$Series", "one", "I", true)
  | 1 => ("MeridianSeries$Series", "other", "I", true)
  | 2 => ("MeridianSeries$Series", "points", "LMeridianSeries$Points;", true)
  | 3 => ("MeridianSeries$Series", "fine", "LMeridianSeries$Buckets;", true)
  | _ => ("MeridianSeries$Series", "coarse", "LMeridianSeries$Buckets;", true)
def tyX6 : Nat → FieldType := fun k => match k with
  | 0 => .int
  | 1 => .int
  | 2 => .object "MeridianSeries$Points"
  | 3 => .object "MeridianSeries$Buckets"
  | _ => .object "MeridianSeries$Buckets"
abbrev wsX60 : List Cond := u_ws RX6 TX6 5
theorem nmX6 : ∀ a, a < 5 → ∀ b, b < 5 → a ≠ b → (TX6 a).2.1 ≠ (TX6 b).2.1 := by decide +kernel
theorem tyX6_ok : ∀ k, k < 5 → parseFieldDescriptor (TX6 k).2.2.1 = some (tyX6 k) := by decide +kernel
abbrev cX6_init : ByteArray := prog_8_method_1_code
def yX6_init : MethodName := ⟨RX6, "<init>", "(II)V"⟩
abbrev cX6_hasLabel : ByteArray := prog_8_method_2_code
def yX6_hasLabel : MethodName := ⟨RX6, "hasLabel", "(ZI)Z"⟩
abbrev cX6_bucketsOf : ByteArray := prog_8_method_3_code
def yX6_bucketsOf : MethodName := ⟨RX6, "bucketsOf", "(Z)LMeridianSeries$Buckets;"⟩
abbrev cX6_take : ByteArray := prog_8_method_4_code
def yX6_take : MethodName := ⟨RX6, "take", "(IILMeridianSeries$Settings;)V"⟩
abbrev cX6_rollUpBy : ByteArray := prog_8_method_5_code
def yX6_rollUpBy : MethodName := ⟨RX6, "rollUpBy", "(ILMeridianSeries$Settings;)V"⟩
abbrev cX6_fineEndingBy : ByteArray := prog_8_method_6_code
def yX6_fineEndingBy : MethodName := ⟨RX6, "fineEndingBy", "(II)I"⟩
abbrev cX6_rollUpFirstBlock : ByteArray := prog_8_method_7_code
def yX6_rollUpFirstBlock : MethodName := ⟨RX6, "rollUpFirstBlock", "(LMeridianSeries$Settings;)V"⟩
abbrev cX6_rollUpFirstFine : ByteArray := prog_8_method_8_code
def yX6_rollUpFirstFine : MethodName := ⟨RX6, "rollUpFirstFine", "(LMeridianSeries$Settings;)V"⟩
abbrev cX6_startFor : ByteArray := prog_8_method_9_code
def yX6_startFor : MethodName := ⟨RX6, "startFor", "(II)I"⟩
abbrev cX6_itemCount : ByteArray := prog_8_method_10_code
def yX6_itemCount : MethodName := ⟨RX6, "itemCount", "()I"⟩
abbrev cX6_ofItem : ByteArray := prog_8_method_11_code
def yX6_ofItem : MethodName := ⟨RX6, "ofItem", "(II)I"⟩
abbrev cX6_firstItemFrom : ByteArray := prog_8_method_12_code
def yX6_firstItemFrom : MethodName := ⟨RX6, "firstItemFrom", "(I)I"⟩
abbrev cX6_tell : ByteArray := prog_8_method_13_code
def yX6_tell : MethodName := ⟨RX6, "tell", "(IIII)I"⟩
abbrev cX6_toldOfGap : ByteArray := prog_8_method_14_code
def yX6_toldOfGap : MethodName := ⟨RX6, "toldOfGap", "(III)I"⟩
abbrev cX6_onLine : ByteArray := prog_8_method_15_code
def yX6_onLine : MethodName := ⟨RX6, "onLine", "(III)I"⟩
abbrev cX6_total : ByteArray := prog_8_method_16_code
def yX6_total : MethodName := ⟨RX6, "total", "(III)I"⟩
abbrev cX6_quotient : ByteArray := prog_8_method_17_code
def yX6_quotient : MethodName := ⟨RX6, "quotient", "(II)I"⟩
abbrev cX6_least : ByteArray := prog_8_method_18_code
def yX6_least : MethodName := ⟨RX6, "least", "(II)I"⟩
abbrev cX6_greatest : ByteArray := prog_8_method_19_code
def yX6_greatest : MethodName := ⟨RX6, "greatest", "(II)I"⟩
abbrev cX6_copyFrom : ByteArray := prog_8_method_20_code
def yX6_copyFrom : MethodName := ⟨RX6, "copyFrom", "(LMeridianSeries$Series;)V"⟩
def RX7 : String := "MeridianSeries$Settings"
def TX7 : u_T := fun k => match k with
  | 0 => ("MeridianSeries$Settings", "span", "I", false)
  | 1 => ("MeridianSeries$Settings", "width", "I", false)
  | 2 => ("MeridianSeries$Settings", "fold", "I", false)
  | 3 => ("MeridianSeries$Settings", "keep", "I", false)
  | _ => ("MeridianSeries$Settings", "longKeep", "I", false)
def tyX7 : Nat → FieldType := fun k => match k with
  | 0 => .int
  | 1 => .int
  | 2 => .int
  | 3 => .int
  | _ => .int
abbrev wsX70 : List Cond := u_ws RX7 TX7 5
theorem nmX7 : ∀ a, a < 5 → ∀ b, b < 5 → a ≠ b → (TX7 a).2.1 ≠ (TX7 b).2.1 := by decide +kernel
theorem tyX7_ok : ∀ k, k < 5 → parseFieldDescriptor (TX7 k).2.2.1 = some (tyX7 k) := by decide +kernel
abbrev cX7_init : ByteArray := prog_9_method_1_code
def yX7_init : MethodName := ⟨RX7, "<init>", "()V"⟩
def RX8 : String := "MeridianSeries$Store"
def TX8 : u_T := fun k => match k with
  | 0 => ("MeridianSeries$Store", "settings", "LMeridianSeries$Settings;", true)
  | 1 => ("MeridianSeries$Store", "chains", "Ljava/util/ArrayList;", true)
  | 2 => ("MeridianSeries$Store", "rules", "Ljava/util/ArrayList;", true)
  | 3 => ("MeridianSeries$Store", "log", "LMeridianSeries$EventLog;", true)
  | _ => ("MeridianSeries$Store", "now", "I", false)
def tyX8 : Nat → FieldType := fun k => match k with
  | 0 => .object "MeridianSeries$Settings"
  | 1 => .object "java/util/ArrayList"
  | 2 => .object "java/util/ArrayList"
  | 3 => .object "MeridianSeries$EventLog"
  | _ => .int
abbrev wsX80 : List Cond := u_ws RX8 TX8 5
theorem nmX8 : ∀ a, a < 5 → ∀ b, b < 5 → a ≠ b → (TX8 a).2.1 ≠ (TX8 b).2.1 := by decide +kernel
theorem tyX8_ok : ∀ k, k < 5 → parseFieldDescriptor (TX8 k).2.2.1 = some (tyX8 k) := by decide +kernel
abbrev cX8_init : ByteArray := prog_10_method_1_code
def yX8_init : MethodName := ⟨RX8, "<init>", "(LMeridianSeries$Settings;)V"⟩
abbrev cX8_hasBucket : ByteArray := prog_10_method_2_code
def yX8_hasBucket : MethodName := ⟨RX8, "hasBucket", "()Z"⟩
abbrev cX8_goOnByOne : ByteArray := prog_10_method_3_code
def yX8_goOnByOne : MethodName := ⟨RX8, "goOnByOne", "()V"⟩
abbrev cX8_copyFrom : ByteArray := prog_10_method_4_code
def yX8_copyFrom : MethodName := ⟨RX8, "copyFrom", "(LMeridianSeries$Store;)V"⟩
def RX9 : String := "MeridianSeries"
def TX9 : u_T := fun k => match k with
  | 0 => ("MeridianSeries", "settings", "LMeridianSeries$Settings;", true)
  | 1 => ("MeridianSeries", "store", "LMeridianSeries$Store;", true)
  | 2 => ("MeridianSeries", "trial", "LMeridianSeries$Store;", true)
  | 3 => ("MeridianSeries", "packer", "LMeridianSeries$Packer;", true)
  | 4 => ("MeridianSeries", "queryFrom", "I", false)
  | 5 => ("MeridianSeries", "queryStep", "I", false)
  | 6 => ("MeridianSeries", "queryWhat", "I", false)
  | 7 => ("MeridianSeries", "queryFill", "I", false)
  | _ => ("MeridianSeries", "lateCount", "I", false)
def tyX9 : Nat → FieldType := fun k => match k with
  | 0 => .object "MeridianSeries$Settings"
  | 1 => .object "MeridianSeries$Store"
  | 2 => .object "MeridianSeries$Store"
  | 3 => .object "MeridianSeries$Packer"
  | 4 => .int
  | 5 => .int
  | 6 => .int
  | 7 => .int
  | _ => .int
abbrev wsX90 : List Cond := u_ws RX9 TX9 9
theorem nmX9 : ∀ a, a < 9 → ∀ b, b < 9 → a ≠ b → (TX9 a).2.1 ≠ (TX9 b).2.1 := by decide +kernel
theorem tyX9_ok : ∀ k, k < 9 → parseFieldDescriptor (TX9 k).2.2.1 = some (tyX9 k) := by decide +kernel
abbrev cX9_init : ByteArray := prog_1_method_1_code
def yX9_init : MethodName := ⟨RX9, "<init>", "()V"⟩
abbrev cX9_addSeries : ByteArray := prog_1_method_2_code
def yX9_addSeries : MethodName := ⟨RX9, "addSeries", "(II)I"⟩
abbrev cX9_setSpan : ByteArray := prog_1_method_3_code
def yX9_setSpan : MethodName := ⟨RX9, "setSpan", "(I)I"⟩
abbrev cX9_setWidths : ByteArray := prog_1_method_4_code
def yX9_setWidths : MethodName := ⟨RX9, "setWidths", "(II)I"⟩
abbrev cX9_setKeep : ByteArray := prog_1_method_5_code
def yX9_setKeep : MethodName := ⟨RX9, "setKeep", "(II)I"⟩
abbrev cX9_setQuery : ByteArray := prog_1_method_6_code
def yX9_setQuery : MethodName := ⟨RX9, "setQuery", "(IIII)I"⟩
abbrev cX9_put : ByteArray := prog_1_method_7_code
def yX9_put : MethodName := ⟨RX9, "put", "(III)I"⟩
abbrev cX9_putRow : ByteArray := prog_1_method_8_code
def yX9_putRow : MethodName := ⟨RX9, "putRow", "(IIIIII)I"⟩
abbrev cX9_goOn : ByteArray := prog_1_method_9_code
def yX9_goOn : MethodName := ⟨RX9, "goOn", "(I)I"⟩
abbrev cX9_now : ByteArray := prog_1_method_10_code
def yX9_now : MethodName := ⟨RX9, "now", "()I"⟩
abbrev cX9_series : ByteArray := prog_1_method_11_code
def yX9_series : MethodName := ⟨RX9, "series", "()I"⟩
abbrev cX9_late : ByteArray := prog_1_method_12_code
def yX9_late : MethodName := ⟨RX9, "late", "()I"⟩
abbrev cX9_blocks : ByteArray := prog_1_method_13_code
def yX9_blocks : MethodName := ⟨RX9, "blocks", "(I)I"⟩
abbrev cX9_size : ByteArray := prog_1_method_14_code
def yX9_size : MethodName := ⟨RX9, "size", "(II)I"⟩
abbrev cX9_point : ByteArray := prog_1_method_15_code
def yX9_point : MethodName := ⟨RX9, "point", "(IIIZ)I"⟩
abbrev cX9_bits : ByteArray := prog_1_method_16_code
def yX9_bits : MethodName := ⟨RX9, "bits", "(II)I"⟩
abbrev cX9_word : ByteArray := prog_1_method_17_code
def yX9_word : MethodName := ⟨RX9, "word", "(III)I"⟩
abbrev cX9_buckets : ByteArray := prog_1_method_18_code
def yX9_buckets : MethodName := ⟨RX9, "buckets", "(IZ)I"⟩
abbrev cX9_ofBucket : ByteArray := prog_1_method_19_code
def yX9_ofBucket : MethodName := ⟨RX9, "ofBucket", "(IZII)I"⟩
abbrev cX9_items : ByteArray := prog_1_method_20_code
def yX9_items : MethodName := ⟨RX9, "items", "(I)I"⟩
abbrev cX9_ratio : ByteArray := prog_1_method_21_code
def yX9_ratio : MethodName := ⟨RX9, "ratio", "()D"⟩
abbrev cX9_ask : ByteArray := prog_1_method_22_code
def yX9_ask : MethodName := ⟨RX9, "ask", "(II)I"⟩
abbrev cX9_over : ByteArray := prog_1_method_23_code
def yX9_over : MethodName := ⟨RX9, "over", "(ZIII)I"⟩
abbrev cX9_gaps : ByteArray := prog_1_method_24_code
def yX9_gaps : MethodName := ⟨RX9, "gaps", "(II)I"⟩
abbrev cX9_lastAt : ByteArray := prog_1_method_25_code
def yX9_lastAt : MethodName := ⟨RX9, "lastAt", "(II)I"⟩
abbrev cX9_addRule : ByteArray := prog_1_method_26_code
def yX9_addRule : MethodName := ⟨RX9, "addRule", "(IIIIZII)I"⟩
abbrev cX9_stateOf : ByteArray := prog_1_method_27_code
def yX9_stateOf : MethodName := ⟨RX9, "stateOf", "(I)I"⟩
abbrev cX9_inRow : ByteArray := prog_1_method_28_code
def yX9_inRow : MethodName := ⟨RX9, "inRow", "(I)I"⟩
abbrev cX9_seenBy : ByteArray := prog_1_method_29_code
def yX9_seenBy : MethodName := ⟨RX9, "seenBy", "(I)I"⟩
abbrev cX9_events : ByteArray := prog_1_method_30_code
def yX9_events : MethodName := ⟨RX9, "events", "()I"⟩
abbrev cX9_event : ByteArray := prog_1_method_31_code
def yX9_event : MethodName := ⟨RX9, "event", "(II)I"⟩
abbrev cX9_bitsWith : ByteArray := prog_1_method_32_code
def yX9_bitsWith : MethodName := ⟨RX9, "bitsWith", "(III)I"⟩
abbrev cX9_firesIn : ByteArray := prog_1_method_33_code
def yX9_firesIn : MethodName := ⟨RX9, "firesIn", "(I)I"⟩
abbrev cX9_wouldRoll : ByteArray := prog_1_method_34_code
def yX9_wouldRoll : MethodName := ⟨RX9, "wouldRoll", "(I)I"⟩
abbrev cX9_digest : ByteArray := prog_1_method_35_code
def yX9_digest : MethodName := ⟨RX9, "digest", "()J"⟩
abbrev cX9_withBlocks : ByteArray := prog_1_method_36_code
def yX9_withBlocks : MethodName := ⟨RX9, "withBlocks", "(JLMeridianSeries$Points;)J"⟩
abbrev cX9_withBuckets : ByteArray := prog_1_method_37_code
def yX9_withBuckets : MethodName := ⟨RX9, "withBuckets", "(JLMeridianSeries$Buckets;)J"⟩
abbrev cX9_withWindows : ByteArray := prog_1_method_38_code
def yX9_withWindows : MethodName := ⟨RX9, "withWindows", "(JLMeridianSeries$Series;)J"⟩
abbrev cX9_isIn : ByteArray := prog_1_method_39_code
def yX9_isIn : MethodName := ⟨RX9, "isIn", "(JII)Z"⟩
abbrev cX9_isValue : ByteArray := prog_1_method_40_code
def yX9_isValue : MethodName := ⟨RX9, "isValue", "(J)Z"⟩
abbrev cX9_isTimeUpToNow : ByteArray := prog_1_method_41_code
def yX9_isTimeUpToNow : MethodName := ⟨RX9, "isTimeUpToNow", "(J)Z"⟩
abbrev cX9_canGoOn : ByteArray := prog_1_method_42_code
def yX9_canGoOn : MethodName := ⟨RX9, "canGoOn", "(I)Z"⟩
abbrev cX9_needArgument : ByteArray := prog_1_method_43_code
def yX9_needArgument : MethodName := ⟨RX9, "needArgument", "(Z)V"⟩
abbrev cX9_needIndex : ByteArray := prog_1_method_44_code
def yX9_needIndex : MethodName := ⟨RX9, "needIndex", "(Z)V"⟩
abbrev cX9_needState : ByteArray := prog_1_method_45_code
def yX9_needState : MethodName := ⟨RX9, "needState", "(Z)V"⟩
abbrev cX9_chainAt : ByteArray := prog_1_method_46_code
def yX9_chainAt : MethodName := ⟨RX9, "chainAt", "(I)LMeridianSeries$Series;"⟩
abbrev cX9_ruleAt : ByteArray := prog_1_method_47_code
def yX9_ruleAt : MethodName := ⟨RX9, "ruleAt", "(I)LMeridianSeries$Rule;"⟩
abbrev cX9_putOrCountLate : ByteArray := prog_1_method_48_code
def yX9_putOrCountLate : MethodName := ⟨RX9, "putOrCountLate", "(LMeridianSeries$Series;II)Z"⟩
abbrev cX9_toldByQuery : ByteArray := prog_1_method_49_code
def yX9_toldByQuery : MethodName := ⟨RX9, "toldByQuery", "(LMeridianSeries$Series;I)I"⟩
abbrev cX9_joined : ByteArray := prog_1_method_50_code
def yX9_joined : MethodName := ⟨RX9, "joined", "(III)I"⟩
def RX10 : String := "MeridianSeriesModel$Bits"
def TX10 : u_T := fun k => match k with
  | _ => ("MeridianSeriesModel$Bits", "row", "Ljava/util/ArrayList;", true)
def tyX10 : Nat → FieldType := fun k => match k with
  | _ => .object "java/util/ArrayList"
abbrev wsX100 : List Cond := u_ws RX10 TX10 1
theorem nmX10 : ∀ a, a < 1 → ∀ b, b < 1 → a ≠ b → (TX10 a).2.1 ≠ (TX10 b).2.1 := by decide +kernel
theorem tyX10_ok : ∀ k, k < 1 → parseFieldDescriptor (TX10 k).2.2.1 = some (tyX10 k) := by decide +kernel
abbrev cX10_init : ByteArray := prog_13_method_1_code
def yX10_init : MethodName := ⟨RX10, "<init>", "()V"⟩
abbrev cX10_add : ByteArray := prog_13_method_2_code
def yX10_add : MethodName := ⟨RX10, "add", "(II)V"⟩
abbrev cX10_add_ : ByteArray := prog_13_method_3_code
def yX10_add_ : MethodName := ⟨RX10, "add", "(IIIIIII)V"⟩
def RX11 : String := "MeridianSeriesModel$Item"
def TX11 : u_T := fun k => match k with
  | 0 => ("MeridianSeriesModel$Item", "time", "I", true)
  | 1 => ("MeridianSeriesModel$Item", "count", "I", false)
  | 2 => ("MeridianSeriesModel$Item", "sum", "I", false)
  | 3 => ("MeridianSeriesModel$Item", "min", "I", false)
  | 4 => ("MeridianSeriesModel$Item", "max", "I", false)
  | 5 => ("MeridianSeriesModel$Item", "first", "I", false)
  | _ => ("MeridianSeriesModel$Item", "last", "I", false)
def tyX11 : Nat → FieldType := fun k => match k with
  | 0 => .int
  | 1 => .int
  | 2 => .int
  | 3 => .int
  | 4 => .int
  | 5 => .int
  | _ => .int
abbrev wsX110 : List Cond := u_ws RX11 TX11 7
theorem nmX11 : ∀ a, a < 7 → ∀ b, b < 7 → a ≠ b → (TX11 a).2.1 ≠ (TX11 b).2.1 := by decide +kernel
theorem tyX11_ok : ∀ k, k < 7 → parseFieldDescriptor (TX11 k).2.2.1 = some (tyX11 k) := by decide +kernel
abbrev cX11_init : ByteArray := prog_14_method_1_code
def yX11_init : MethodName := ⟨RX11, "<init>", "(I)V"⟩
abbrev cX11_point : ByteArray := prog_14_method_2_code
def yX11_point : MethodName := ⟨RX11, "point", "(II)LMeridianSeriesModel$Item;"⟩
abbrev cX11_copy : ByteArray := prog_14_method_3_code
def yX11_copy : MethodName := ⟨RX11, "copy", "()LMeridianSeriesModel$Item;"⟩
abbrev cX11_take : ByteArray := prog_14_method_4_code
def yX11_take : MethodName := ⟨RX11, "take", "(LMeridianSeriesModel$Item;)V"⟩
abbrev cX11_told : ByteArray := prog_14_method_5_code
def yX11_told : MethodName := ⟨RX11, "told", "(I)I"⟩
def RX12 : String := "MeridianSeriesModel$Rule"
def TX12 : u_T := fun k => match k with
  | 0 => ("MeridianSeriesModel$Rule", "series", "I", true)
  | 1 => ("MeridianSeriesModel$Rule", "what", "I", true)
  | 2 => ("MeridianSeriesModel$Rule", "length", "I", true)
  | 3 => ("MeridianSeriesModel$Rule", "every", "I", true)
  | 4 => ("MeridianSeriesModel$Rule", "isAbove", "Z", true)
  | 5 => ("MeridianSeriesModel$Rule", "limit", "I", true)
  | 6 => ("MeridianSeriesModel$Rule", "times", "I", true)
  | 7 => ("MeridianSeriesModel$Rule", "state", "I", false)
  | _ => ("MeridianSeriesModel$Rule", "row", "I", false)
def tyX12 : Nat → FieldType := fun k => match k with
  | 0 => .int
  | 1 => .int
  | 2 => .int
  | 3 => .int
  | 4 => .boolean
  | 5 => .int
  | 6 => .int
  | 7 => .int
  | _ => .int
abbrev wsX120 : List Cond := u_ws RX12 TX12 9
theorem nmX12 : ∀ a, a < 9 → ∀ b, b < 9 → a ≠ b → (TX12 a).2.1 ≠ (TX12 b).2.1 := by decide +kernel
theorem tyX12_ok : ∀ k, k < 9 → parseFieldDescriptor (TX12 k).2.2.1 = some (tyX12 k) := by decide +kernel
abbrev cX12_init : ByteArray := prog_15_method_1_code
def yX12_init : MethodName := ⟨RX12, "<init>", "(IIIIZII)V"⟩
abbrev cX12_copy : ByteArray := prog_15_method_2_code
def yX12_copy : MethodName := ⟨RX12, "copy", "()LMeridianSeriesModel$Rule;"⟩
abbrev cX12_become : ByteArray := prog_15_method_3_code
def yX12_become : MethodName := ⟨RX12, "become", "(II)V"⟩
abbrev cX12_look : ByteArray := prog_15_method_4_code
def yX12_look : MethodName := ⟨RX12, "look", "(I)I"⟩
def RX13 : String := "MeridianSeriesModel$Series"
def TX13 : u_T := fun k => match k with
  | 0 => ("MeridianSeriesModel$Series", "labels", "[I", true)
  | 1 => ("MeridianSeriesModel$Series", "blocks", "Ljava/util/ArrayList;", true)
  | 2 => ("MeridianSeriesModel$Series", "fine", "Ljava/util/ArrayList;", false)
  | 3 => ("MeridianSeriesModel$Series", "coarse", "Ljava/util/ArrayList;", false)
  | _ => ("MeridianSeriesModel$Series", "sealedTo", "I", false)
def tyX13 : Nat → FieldType := fun k => match k with
  | 0 => .array .int
  | 1 => .object "java/util/ArrayList"
  | 2 => .object "java/util/ArrayList"
  | 3 => .object "java/util/ArrayList"
  | _ => .int
abbrev wsX130 : List Cond := u_ws RX13 TX13 5
theorem nmX13 : ∀ a, a < 5 → ∀ b, b < 5 → a ≠ b → (TX13 a).2.1 ≠ (TX13 b).2.1 := by decide +kernel
theorem tyX13_ok : ∀ k, k < 5 → parseFieldDescriptor (TX13 k).2.2.1 = some (tyX13 k) := by decide +kernel
abbrev cX13_init : ByteArray := prog_16_method_1_code
def yX13_init : MethodName := ⟨RX13, "<init>", "(II)V"⟩
abbrev cX13_copy : ByteArray := prog_16_method_2_code
def yX13_copy : MethodName := ⟨RX13, "copy", "()LMeridianSeriesModel$Series;"⟩
abbrev cX13_open : ByteArray := prog_16_method_3_code
def yX13_open : MethodName := ⟨RX13, "open", "()Ljava/util/ArrayList;"⟩
abbrev cX13_set : ByteArray := prog_16_method_4_code
def yX13_set : MethodName := ⟨RX13, "set", "(Ljava/util/ArrayList;II)V"⟩
abbrev cX13_items : ByteArray := prog_16_method_5_code
def yX13_items : MethodName := ⟨RX13, "items", "()Ljava/util/ArrayList;"⟩
abbrev cX13_isOld : ByteArray := prog_16_method_6_code
def yX13_isOld : MethodName := ⟨RX13, "isOld", "(II)Z"⟩
abbrev cX13_lastOfFirst : ByteArray := prog_16_method_7_code
def yX13_lastOfFirst : MethodName := ⟨RX13, "lastOfFirst", "()I"⟩
abbrev cX13_rollBlock : ByteArray := prog_16_method_8_code
def yX13_rollBlock : MethodName := ⟨RX13, "rollBlock", "(II)V"⟩
abbrev cX13_rollFine : ByteArray := prog_16_method_9_code
def yX13_rollFine : MethodName := ⟨RX13, "rollFine", "(I)V"⟩
abbrev cX13_roll : ByteArray := prog_16_method_10_code
def yX13_roll : MethodName := ⟨RX13, "roll", "(IIIII)V"⟩
abbrev cX13_isIn : ByteArray := prog_16_method_11_code
def yX13_isIn : MethodName := ⟨RX13, "isIn", "(LMeridianSeriesModel$Item;II)Z"⟩
abbrev cX13_isGap : ByteArray := prog_16_method_12_code
def yX13_isGap : MethodName := ⟨RX13, "isGap", "(II)Z"⟩
abbrev cX13_told : ByteArray := prog_16_method_13_code
def yX13_told : MethodName := ⟨RX13, "told", "(IIII)I"⟩
abbrev cX13_lastBelow : ByteArray := prog_16_method_14_code
def yX13_lastBelow : MethodName := ⟨RX13, "lastBelow", "(Ljava/util/ArrayList;I)LMeridianSeriesModel$Item;"⟩
abbrev cX13_firstFrom : ByteArray := prog_16_method_15_code
def yX13_firstFrom : MethodName := ⟨RX13, "firstFrom", "(Ljava/util/ArrayList;I)LMeridianSeriesModel$Item;"⟩
abbrev cX13_filled : ByteArray := prog_16_method_16_code
def yX13_filled : MethodName := ⟨RX13, "filled", "(Ljava/util/ArrayList;III)I"⟩
def RX14 : String := "MeridianSeriesModel$Store"
def TX14 : u_T := fun k => match k with
  | 0 => ("MeridianSeriesModel$Store", "series", "Ljava/util/ArrayList;", true)
  | 1 => ("MeridianSeriesModel$Store", "rules", "Ljava/util/ArrayList;", true)
  | 2 => ("MeridianSeriesModel$Store", "events", "Ljava/util/ArrayList;", true)
  | 3 => ("MeridianSeriesModel$Store", "now", "I", false)
  | 4 => ("MeridianSeriesModel$Store", "span", "I", false)
  | 5 => ("MeridianSeriesModel$Store", "width", "I", false)
  | 6 => ("MeridianSeriesModel$Store", "fold", "I", false)
  | 7 => ("MeridianSeriesModel$Store", "keep", "I", false)
  | _ => ("MeridianSeriesModel$Store", "longKeep", "I", false)
def tyX14 : Nat → FieldType := fun k => match k with
  | 0 => .object "java/util/ArrayList"
  | 1 => .object "java/util/ArrayList"
  | 2 => .object "java/util/ArrayList"
  | 3 => .int
  | 4 => .int
  | 5 => .int
  | 6 => .int
  | 7 => .int
  | _ => .int
abbrev wsX140 : List Cond := u_ws RX14 TX14 9
theorem nmX14 : ∀ a, a < 9 → ∀ b, b < 9 → a ≠ b → (TX14 a).2.1 ≠ (TX14 b).2.1 := by decide +kernel
theorem tyX14_ok : ∀ k, k < 9 → parseFieldDescriptor (TX14 k).2.2.1 = some (tyX14 k) := by decide +kernel
abbrev cX14_init : ByteArray := prog_17_method_1_code
def yX14_init : MethodName := ⟨RX14, "<init>", "()V"⟩
abbrev cX14_copy : ByteArray := prog_17_method_2_code
def yX14_copy : MethodName := ⟨RX14, "copy", "()LMeridianSeriesModel$Store;"⟩
abbrev cX14_seen : ByteArray := prog_17_method_3_code
def yX14_seen : MethodName := ⟨RX14, "seen", "(LMeridianSeriesModel$Rule;)I"⟩
abbrev cX14_tick : ByteArray := prog_17_method_4_code
def yX14_tick : MethodName := ⟨RX14, "tick", "()V"⟩
def RX15 : String := "MeridianSeriesModel"
def TX15 : u_T := fun k => match k with
  | 0 => ("MeridianSeriesModel", "thrown", "I", false)
  | 1 => ("MeridianSeriesModel", "late", "I", false)
  | 2 => ("MeridianSeriesModel", "from", "I", false)
  | 3 => ("MeridianSeriesModel", "step", "I", false)
  | 4 => ("MeridianSeriesModel", "what", "I", false)
  | 5 => ("MeridianSeriesModel", "fill", "I", false)
  | _ => ("MeridianSeriesModel", "store", "LMeridianSeriesModel$Store;", true)
def tyX15 : Nat → FieldType := fun k => match k with
  | 0 => .int
  | 1 => .int
  | 2 => .int
  | 3 => .int
  | 4 => .int
  | 5 => .int
  | _ => .object "MeridianSeriesModel$Store"
abbrev wsX150 : List Cond := u_ws RX15 TX15 7
theorem nmX15 : ∀ a, a < 7 → ∀ b, b < 7 → a ≠ b → (TX15 a).2.1 ≠ (TX15 b).2.1 := by decide +kernel
theorem tyX15_ok : ∀ k, k < 7 → parseFieldDescriptor (TX15 k).2.2.1 = some (tyX15 k) := by decide +kernel
abbrev cX15_packed : ByteArray := prog_12_method_1_code
def yX15_packed : MethodName := ⟨RX15, "packed", "(Ljava/util/ArrayList;)LMeridianSeriesModel$Bits;"⟩
abbrev cX15_place : ByteArray := prog_12_method_2_code
def yX15_place : MethodName := ⟨RX15, "place", "(Ljava/util/ArrayList;I)I"⟩
abbrev cX15_isAt : ByteArray := prog_12_method_3_code
def yX15_isAt : MethodName := ⟨RX15, "isAt", "(Ljava/util/ArrayList;II)Z"⟩
abbrev cX15_pour : ByteArray := prog_12_method_4_code
def yX15_pour : MethodName := ⟨RX15, "pour", "(Ljava/util/ArrayList;ILMeridianSeriesModel$Item;)V"⟩
abbrev cX15_copies : ByteArray := prog_12_method_5_code
def yX15_copies : MethodName := ⟨RX15, "copies", "(Ljava/util/ArrayList;)Ljava/util/ArrayList;"⟩
abbrev cX15_init : ByteArray := prog_12_method_6_code
def yX15_init : MethodName := ⟨RX15, "<init>", "()V"⟩
abbrev cX15_thrown : ByteArray := prog_12_method_7_code
def yX15_thrown : MethodName := ⟨RX15, "thrown", "()I"⟩
abbrev cX15_isIn : ByteArray := prog_12_method_8_code
def yX15_isIn : MethodName := ⟨RX15, "isIn", "(III)Z"⟩
abbrev cX15_refuse : ByteArray := prog_12_method_9_code
def yX15_refuse : MethodName := ⟨RX15, "refuse", "(ZI)Z"⟩
abbrev cX15_start : ByteArray := prog_12_method_10_code
def yX15_start : MethodName := ⟨RX15, "start", "(ZI)Z"⟩
abbrev cX15_plain : ByteArray := prog_12_method_11_code
def yX15_plain : MethodName := ⟨RX15, "plain", "(I)I"⟩
abbrev cX15_addSeries : ByteArray := prog_12_method_12_code
def yX15_addSeries : MethodName := ⟨RX15, "addSeries", "(II)I"⟩
abbrev cX15_setSpan : ByteArray := prog_12_method_13_code
def yX15_setSpan : MethodName := ⟨RX15, "setSpan", "(I)I"⟩
abbrev cX15_hasBuckets : ByteArray := prog_12_method_14_code
def yX15_hasBuckets : MethodName := ⟨RX15, "hasBuckets", "()Z"⟩
abbrev cX15_setWidths : ByteArray := prog_12_method_15_code
def yX15_setWidths : MethodName := ⟨RX15, "setWidths", "(II)I"⟩
abbrev cX15_setKeep : ByteArray := prog_12_method_16_code
def yX15_setKeep : MethodName := ⟨RX15, "setKeep", "(II)I"⟩
abbrev cX15_setQuery : ByteArray := prog_12_method_17_code
def yX15_setQuery : MethodName := ⟨RX15, "setQuery", "(IIII)I"⟩
abbrev cX15_isNoSeries : ByteArray := prog_12_method_18_code
def yX15_isNoSeries : MethodName := ⟨RX15, "isNoSeries", "(I)Z"⟩
abbrev cX15_series : ByteArray := prog_12_method_19_code
def yX15_series : MethodName := ⟨RX15, "series", "(I)LMeridianSeriesModel$Series;"⟩
abbrev cX15_isNoPoint : ByteArray := prog_12_method_20_code
def yX15_isNoPoint : MethodName := ⟨RX15, "isNoPoint", "(JJ)Z"⟩
abbrev cX15_putNow : ByteArray := prog_12_method_21_code
def yX15_putNow : MethodName := ⟨RX15, "putNow", "(LMeridianSeriesModel$Series;II)I"⟩
abbrev cX15_put : ByteArray := prog_12_method_22_code
def yX15_put : MethodName := ⟨RX15, "put", "(III)I"⟩
abbrev cX15_putRow : ByteArray := prog_12_method_23_code
def yX15_putRow : MethodName := ⟨RX15, "putRow", "(IIIIII)I"⟩
abbrev cX15_goOn : ByteArray := prog_12_method_24_code
def yX15_goOn : MethodName := ⟨RX15, "goOn", "(I)I"⟩
abbrev cX15_now : ByteArray := prog_12_method_25_code
def yX15_now : MethodName := ⟨RX15, "now", "()I"⟩
abbrev cX15_series_ : ByteArray := prog_12_method_26_code
def yX15_series_ : MethodName := ⟨RX15, "series", "()I"⟩
abbrev cX15_late : ByteArray := prog_12_method_27_code
def yX15_late : MethodName := ⟨RX15, "late", "()I"⟩
abbrev cX15_blocks : ByteArray := prog_12_method_28_code
def yX15_blocks : MethodName := ⟨RX15, "blocks", "(I)I"⟩
abbrev cX15_isNoBlock : ByteArray := prog_12_method_29_code
def yX15_isNoBlock : MethodName := ⟨RX15, "isNoBlock", "(II)Z"⟩
abbrev cX15_block : ByteArray := prog_12_method_30_code
def yX15_block : MethodName := ⟨RX15, "block", "(II)Ljava/util/ArrayList;"⟩
abbrev cX15_size : ByteArray := prog_12_method_31_code
def yX15_size : MethodName := ⟨RX15, "size", "(II)I"⟩
abbrev cX15_point : ByteArray := prog_12_method_32_code
def yX15_point : MethodName := ⟨RX15, "point", "(IIIZ)I"⟩
abbrev cX15_bitsOf : ByteArray := prog_12_method_33_code
def yX15_bitsOf : MethodName := ⟨RX15, "bitsOf", "(LMeridianSeriesModel$Series;I)Ljava/util/ArrayList;"⟩
abbrev cX15_bits : ByteArray := prog_12_method_34_code
def yX15_bits : MethodName := ⟨RX15, "bits", "(II)I"⟩
abbrev cX15_word : ByteArray := prog_12_method_35_code
def yX15_word : MethodName := ⟨RX15, "word", "(III)I"⟩
abbrev cX15_buckets : ByteArray := prog_12_method_36_code
def yX15_buckets : MethodName := ⟨RX15, "buckets", "(LMeridianSeriesModel$Series;Z)Ljava/util/ArrayList;"⟩
abbrev cX15_buckets_ : ByteArray := prog_12_method_37_code
def yX15_buckets_ : MethodName := ⟨RX15, "buckets", "(IZ)I"⟩
abbrev cX15_ofBucket : ByteArray := prog_12_method_38_code
def yX15_ofBucket : MethodName := ⟨RX15, "ofBucket", "(IZII)I"⟩
abbrev cX15_items : ByteArray := prog_12_method_39_code
def yX15_items : MethodName := ⟨RX15, "items", "(I)I"⟩
abbrev cX15_ratio : ByteArray := prog_12_method_40_code
def yX15_ratio : MethodName := ⟨RX15, "ratio", "()D"⟩
abbrev cX15_asked : ByteArray := prog_12_method_41_code
def yX15_asked : MethodName := ⟨RX15, "asked", "(LMeridianSeriesModel$Series;I)I"⟩
abbrev cX15_ask : ByteArray := prog_12_method_42_code
def yX15_ask : MethodName := ⟨RX15, "ask", "(II)I"⟩
abbrev cX15_over : ByteArray := prog_12_method_43_code
def yX15_over : MethodName := ⟨RX15, "over", "(ZIII)I"⟩
abbrev cX15_gaps : ByteArray := prog_12_method_44_code
def yX15_gaps : MethodName := ⟨RX15, "gaps", "(II)I"⟩
abbrev cX15_lastAt : ByteArray := prog_12_method_45_code
def yX15_lastAt : MethodName := ⟨RX15, "lastAt", "(II)I"⟩
abbrev cX15_addRule : ByteArray := prog_12_method_46_code
def yX15_addRule : MethodName := ⟨RX15, "addRule", "(IIIIZII)I"⟩
abbrev cX15_isNoRule : ByteArray := prog_12_method_47_code
def yX15_isNoRule : MethodName := ⟨RX15, "isNoRule", "(I)Z"⟩
abbrev cX15_stateOf : ByteArray := prog_12_method_48_code
def yX15_stateOf : MethodName := ⟨RX15, "stateOf", "(I)I"⟩
abbrev cX15_inRow : ByteArray := prog_12_method_49_code
def yX15_inRow : MethodName := ⟨RX15, "inRow", "(I)I"⟩
abbrev cX15_seenBy : ByteArray := prog_12_method_50_code
def yX15_seenBy : MethodName := ⟨RX15, "seenBy", "(I)I"⟩
abbrev cX15_events : ByteArray := prog_12_method_51_code
def yX15_events : MethodName := ⟨RX15, "events", "()I"⟩
abbrev cX15_event : ByteArray := prog_12_method_52_code
def yX15_event : MethodName := ⟨RX15, "event", "(II)I"⟩
abbrev cX15_bitsWith : ByteArray := prog_12_method_53_code
def yX15_bitsWith : MethodName := ⟨RX15, "bitsWith", "(III)I"⟩
abbrev cX15_firesIn : ByteArray := prog_12_method_54_code
def yX15_firesIn : MethodName := ⟨RX15, "firesIn", "(I)I"⟩
abbrev cX15_wouldRoll : ByteArray := prog_12_method_55_code
def yX15_wouldRoll : MethodName := ⟨RX15, "wouldRoll", "(I)I"⟩
abbrev cX15_add : ByteArray := prog_12_method_56_code
def yX15_add : MethodName := ⟨RX15, "add", "(JJ)J"⟩
abbrev cX15_addBuckets : ByteArray := prog_12_method_57_code
def yX15_addBuckets : MethodName := ⟨RX15, "addBuckets", "(JLjava/util/ArrayList;)J"⟩
abbrev cX15_digest : ByteArray := prog_12_method_58_code
def yX15_digest : MethodName := ⟨RX15, "digest", "()J"⟩
def RJx145de : String := "java/io/Serializable"
def TJx145de : u_T := fun k => match k with
  | _ => ("", "", "", false)
def tyJx145de : Nat → FieldType := fun k => match k with
  | _ => .int
abbrev wsJx145de0 : List Cond := u_ws RJx145de TJx145de 0
theorem nmJx145de : ∀ a, a < 0 → ∀ b, b < 0 → a ≠ b → (TJx145de a).2.1 ≠ (TJx145de b).2.1 := by decide +kernel
theorem tyJx145de_ok : ∀ k, k < 0 → parseFieldDescriptor (TJx145de k).2.2.1 = some (tyJx145de k) := by decide +kernel
def RJ5 : String := "java/lang/AbstractStringBuilder"
def TJ5 : u_T := fun k => match k with
  | _ => ("", "", "", false)
def tyJ5 : Nat → FieldType := fun k => match k with
  | _ => .int
abbrev wsJ50 : List Cond := u_ws RJ5 TJ5 0
theorem nmJ5 : ∀ a, a < 0 → ∀ b, b < 0 → a ≠ b → (TJ5 a).2.1 ≠ (TJ5 b).2.1 := by decide +kernel
theorem tyJ5_ok : ∀ k, k < 0 → parseFieldDescriptor (TJ5 k).2.2.1 = some (tyJ5 k) := by decide +kernel
abbrev cJ5_init_d00df : ByteArray := prog_19_method_2_code
def yJ5_init_d00df : MethodName := ⟨RJ5, "<init>", "(I)V"⟩
abbrev cJ5_length_8abf5 : ByteArray := prog_19_method_6_code
def yJ5_length_8abf5 : MethodName := ⟨RJ5, "length", "()I"⟩
abbrev cJ5_ensureCapacityInternal_d00df : ByteArray := prog_19_method_9_code
def yJ5_ensureCapacityInternal_d00df : MethodName := ⟨RJ5, "ensureCapacityInternal", "(I)V"⟩
abbrev cJ5_newCapacity_0f7a4 : ByteArray := prog_19_method_10_code
def yJ5_newCapacity_0f7a4 : MethodName := ⟨RJ5, "newCapacity", "(I)I"⟩
abbrev cJ5_inflate_da8c8 : ByteArray := prog_19_method_11_code
def yJ5_inflate_da8c8 : MethodName := ⟨RJ5, "inflate", "()V"⟩
abbrev cJ5_append_cf1ce : ByteArray := prog_19_method_22_code
def yJ5_append_cf1ce : MethodName := ⟨RJ5, "append", "(Ljava/lang/String;)Ljava/lang/AbstractStringBuilder;"⟩
abbrev cJ5_appendNull_278bc : ByteArray := prog_19_method_26_code
def yJ5_appendNull_278bc : MethodName := ⟨RJ5, "appendNull", "()Ljava/lang/AbstractStringBuilder;"⟩
abbrev cJ5_append_c97b9 : ByteArray := prog_19_method_32_code
def yJ5_append_c97b9 : MethodName := ⟨RJ5, "append", "(I)Ljava/lang/AbstractStringBuilder;"⟩
abbrev cJ5_getValue_6d5f1 : ByteArray := prog_19_method_64_code
def yJ5_getValue_6d5f1 : MethodName := ⟨RJ5, "getValue", "()[B"⟩
abbrev cJ5_isLatin1_aae02 : ByteArray := prog_19_method_68_code
def yJ5_isLatin1_aae02 : MethodName := ⟨RJ5, "isLatin1", "()Z"⟩
abbrev cJ5_inflateIfNeededFor_a7421 : ByteArray := prog_19_method_71_code
def yJ5_inflateIfNeededFor_a7421 : MethodName := ⟨RJ5, "inflateIfNeededFor", "(Ljava/lang/String;)V"⟩
abbrev cJ5_putStringAt_47b60 : ByteArray := prog_19_method_73_code
def yJ5_putStringAt_47b60 : MethodName := ⟨RJ5, "putStringAt", "(ILjava/lang/String;)V"⟩
def RJx2cfe8 : String := "java/lang/Appendable"
def TJx2cfe8 : u_T := fun k => match k with
  | _ => ("", "", "", false)
def tyJx2cfe8 : Nat → FieldType := fun k => match k with
  | _ => .int
abbrev wsJx2cfe80 : List Cond := u_ws RJx2cfe8 TJx2cfe8 0
theorem nmJx2cfe8 : ∀ a, a < 0 → ∀ b, b < 0 → a ≠ b → (TJx2cfe8 a).2.1 ≠ (TJx2cfe8 b).2.1 := by decide +kernel
theorem tyJx2cfe8_ok : ∀ k, k < 0 → parseFieldDescriptor (TJx2cfe8 k).2.2.1 = some (tyJx2cfe8 k) := by decide +kernel
def RJ14 : String := "java/lang/Boolean"
def TJ14 : u_T := fun k => match k with
  | _ => ("", "", "", false)
def tyJ14 : Nat → FieldType := fun k => match k with
  | _ => .int
abbrev wsJ140 : List Cond := u_ws RJ14 TJ14 0
theorem nmJ14 : ∀ a, a < 0 → ∀ b, b < 0 → a ≠ b → (TJ14 a).2.1 ≠ (TJ14 b).2.1 := by decide +kernel
theorem tyJ14_ok : ∀ k, k < 0 → parseFieldDescriptor (TJ14 k).2.2.1 = some (tyJ14 k) := by decide +kernel
abbrev cJ14_booleanValue_aae02 : ByteArray := prog_21_method_4_code
def yJ14_booleanValue_aae02 : MethodName := ⟨RJ14, "booleanValue", "()Z"⟩
abbrev cJ14_valueOf_4531c : ByteArray := prog_21_method_5_code
def yJ14_valueOf_4531c : MethodName := ⟨RJ14, "valueOf", "(Z)Ljava/lang/Boolean;"⟩
def RJx9f9b0 : String := "java/lang/CharSequence"
def TJx9f9b0 : u_T := fun k => match k with
  | _ => ("", "", "", false)
def tyJx9f9b0 : Nat → FieldType := fun k => match k with
  | _ => .int
abbrev wsJx9f9b00 : List Cond := u_ws RJx9f9b0 TJx9f9b0 0
theorem nmJx9f9b0 : ∀ a, a < 0 → ∀ b, b < 0 → a ≠ b → (TJx9f9b0 a).2.1 ≠ (TJx9f9b0 b).2.1 := by decide +kernel
theorem tyJx9f9b0_ok : ∀ k, k < 0 → parseFieldDescriptor (TJx9f9b0 k).2.2.1 = some (tyJx9f9b0 k) := by decide +kernel
def RJx8e188 : String := "java/lang/Cloneable"
def TJx8e188 : u_T := fun k => match k with
  | _ => ("", "", "", false)
def tyJx8e188 : Nat → FieldType := fun k => match k with
  | _ => .int
abbrev wsJx8e1880 : List Cond := u_ws RJx8e188 TJx8e188 0
theorem nmJx8e188 : ∀ a, a < 0 → ∀ b, b < 0 → a ≠ b → (TJx8e188 a).2.1 ≠ (TJx8e188 b).2.1 := by decide +kernel
theorem tyJx8e188_ok : ∀ k, k < 0 → parseFieldDescriptor (TJx8e188 k).2.2.1 = some (tyJx8e188 k) := by decide +kernel
def RJxb160c : String := "java/lang/Comparable"
def TJxb160c : u_T := fun k => match k with
  | _ => ("", "", "", false)
def tyJxb160c : Nat → FieldType := fun k => match k with
  | _ => .int
abbrev wsJxb160c0 : List Cond := u_ws RJxb160c TJxb160c 0
theorem nmJxb160c : ∀ a, a < 0 → ∀ b, b < 0 → a ≠ b → (TJxb160c a).2.1 ≠ (TJxb160c b).2.1 := by decide +kernel
theorem tyJxb160c_ok : ∀ k, k < 0 → parseFieldDescriptor (TJxb160c k).2.2.1 = some (tyJxb160c k) := by decide +kernel
def RJ6 : String := "java/lang/Integer"
def TJ6 : u_T := fun k => match k with
  | _ => ("", "", "", false)
def tyJ6 : Nat → FieldType := fun k => match k with
  | _ => .int
abbrev wsJ60 : List Cond := u_ws RJ6 TJ6 0
theorem nmJ6 : ∀ a, a < 0 → ∀ b, b < 0 → a ≠ b → (TJ6 a).2.1 ≠ (TJ6 b).2.1 := by decide +kernel
theorem tyJ6_ok : ∀ k, k < 0 → parseFieldDescriptor (TJ6 k).2.2.1 = some (tyJ6 k) := by decide +kernel
abbrev cJ6_getChars_ba4f3 : ByteArray := prog_29_method_12_code
def yJ6_getChars_ba4f3 : MethodName := ⟨RJ6, "getChars", "(II[B)I"⟩
abbrev cJ6_stringSize_0f7a4 : ByteArray := prog_29_method_13_code
def yJ6_stringSize_0f7a4 : MethodName := ⟨RJ6, "stringSize", "(I)I"⟩
def RJxab1ab : String := "java/lang/Iterable"
def TJxab1ab : u_T := fun k => match k with
  | _ => ("", "", "", false)
def tyJxab1ab : Nat → FieldType := fun k => match k with
  | _ => .int
abbrev wsJxab1ab0 : List Cond := u_ws RJxab1ab TJxab1ab 0
theorem nmJxab1ab : ∀ a, a < 0 → ∀ b, b < 0 → a ≠ b → (TJxab1ab a).2.1 ≠ (TJxab1ab b).2.1 := by decide +kernel
theorem tyJxab1ab_ok : ∀ k, k < 0 → parseFieldDescriptor (TJxab1ab k).2.2.1 = some (tyJxab1ab k) := by decide +kernel
def RJ9 : String := "java/lang/Math"
def TJ9 : u_T := fun k => match k with
  | _ => ("", "", "", false)
def tyJ9 : Nat → FieldType := fun k => match k with
  | _ => .int
abbrev wsJ90 : List Cond := u_ws RJ9 TJ9 0
theorem nmJ9 : ∀ a, a < 0 → ∀ b, b < 0 → a ≠ b → (TJ9 a).2.1 ≠ (TJ9 b).2.1 := by decide +kernel
theorem tyJ9_ok : ∀ k, k < 0 → parseFieldDescriptor (TJ9 k).2.2.1 = some (tyJ9 k) := by decide +kernel
abbrev cJ9_max_7cf53 : ByteArray := prog_31_method_65_code
def yJ9_max_7cf53 : MethodName := ⟨RJ9, "max", "(II)I"⟩
abbrev cJ9_min_7cf53 : ByteArray := prog_31_method_69_code
def yJ9_min_7cf53 : MethodName := ⟨RJ9, "min", "(II)I"⟩
def RJxd2413 : String := "java/lang/Number"
def TJxd2413 : u_T := fun k => match k with
  | _ => ("", "", "", false)
def tyJxd2413 : Nat → FieldType := fun k => match k with
  | _ => .int
abbrev wsJxd24130 : List Cond := u_ws RJxd2413 TJxd2413 0
theorem nmJxd2413 : ∀ a, a < 0 → ∀ b, b < 0 → a ≠ b → (TJxd2413 a).2.1 ≠ (TJxd2413 b).2.1 := by decide +kernel
theorem tyJxd2413_ok : ∀ k, k < 0 → parseFieldDescriptor (TJxd2413 k).2.2.1 = some (tyJxd2413 k) := by decide +kernel
def RJ0 : String := "java/lang/String"
def TJ0 : u_T := fun k => match k with
  | 0 => ("java/lang/String", "value", "[B", true)
  | 1 => ("java/lang/String", "coder", "B", true)
  | 2 => ("java/lang/String", "hash", "I", false)
  | _ => ("java/lang/String", "hashIsZero", "Z", false)
def tyJ0 : Nat → FieldType := fun k => match k with
  | 0 => .array .byte
  | 1 => .byte
  | 2 => .int
  | _ => .boolean
abbrev wsJ00 : List Cond := u_ws RJ0 TJ0 4
theorem nmJ0 : ∀ a, a < 4 → ∀ b, b < 4 → a ≠ b → (TJ0 a).2.1 ≠ (TJ0 b).2.1 := by decide +kernel
theorem tyJ0_ok : ∀ k, k < 4 → parseFieldDescriptor (TJ0 k).2.2.1 = some (tyJ0 k) := by decide +kernel
abbrev cJ0_init_81219 : ByteArray := prog_34_method_53_code
def yJ0_init_81219 : MethodName := ⟨RJ0, "<init>", "(Ljava/lang/StringBuilder;)V"⟩
abbrev cJ0_length_8abf5 : ByteArray := prog_34_method_54_code
def yJ0_length_8abf5 : MethodName := ⟨RJ0, "length", "()I"⟩
abbrev cJ0_getBytes_840e7 : ByteArray := prog_34_method_147_code
def yJ0_getBytes_840e7 : MethodName := ⟨RJ0, "getBytes", "([BIB)V"⟩
abbrev cJ0_init_db425 : ByteArray := prog_34_method_150_code
def yJ0_init_db425 : MethodName := ⟨RJ0, "<init>", "(Ljava/lang/AbstractStringBuilder;Ljava/lang/Void;)V"⟩
abbrev cJ0_coder_7d493 : ByteArray := prog_34_method_152_code
def yJ0_coder_7d493 : MethodName := ⟨RJ0, "coder", "()B"⟩
abbrev cJ0_checkBoundsOffCount_cabcc : ByteArray := prog_34_method_157_code
def yJ0_checkBoundsOffCount_cabcc : MethodName := ⟨RJ0, "checkBoundsOffCount", "(III)I"⟩
abbrev cJ0_checkBoundsBeginEnd_23922 : ByteArray := prog_34_method_158_code
def yJ0_checkBoundsBeginEnd_23922 : MethodName := ⟨RJ0, "checkBoundsBeginEnd", "(III)V"⟩
def RJ4 : String := "java/lang/StringBuilder"
def TJ4 : u_T := fun k => match k with
  | 0 => ("java/lang/AbstractStringBuilder", "value", "[B", false)
  | 1 => ("java/lang/AbstractStringBuilder", "coder", "B", false)
  | 2 => ("java/lang/AbstractStringBuilder", "maybeLatin1", "Z", false)
  | _ => ("java/lang/AbstractStringBuilder", "count", "I", false)
def tyJ4 : Nat → FieldType := fun k => match k with
  | 0 => .array .byte
  | 1 => .byte
  | 2 => .boolean
  | _ => .int
abbrev wsJ40 : List Cond := u_ws RJ4 TJ4 4
theorem nmJ4 : ∀ a, a < 4 → ∀ b, b < 4 → a ≠ b → (TJ4 a).2.1 ≠ (TJ4 b).2.1 := by decide +kernel
theorem tyJ4_ok : ∀ k, k < 4 → parseFieldDescriptor (TJ4 k).2.2.1 = some (tyJ4 k) := by decide +kernel
abbrev cJ4_init_da8c8 : ByteArray := prog_35_method_1_code
def yJ4_init_da8c8 : MethodName := ⟨RJ4, "<init>", "()V"⟩
abbrev cJ4_append_15ec4 : ByteArray := prog_35_method_7_code
def yJ4_append_15ec4 : MethodName := ⟨RJ4, "append", "(Ljava/lang/String;)Ljava/lang/StringBuilder;"⟩
abbrev cJ4_append_bf812 : ByteArray := prog_35_method_15_code
def yJ4_append_bf812 : MethodName := ⟨RJ4, "append", "(I)Ljava/lang/StringBuilder;"⟩
abbrev cJ4_toString_0e30d : ByteArray := prog_35_method_42_code
def yJ4_toString_0e30d : MethodName := ⟨RJ4, "toString", "()Ljava/lang/String;"⟩
abbrev cJ4_length_8abf5 : ByteArray := prog_35_method_93_code
def yJ4_length_8abf5 : MethodName := ⟨RJ4, "length", "()I"⟩
def RJ1 : String := "java/lang/StringLatin1"
def TJ1 : u_T := fun k => match k with
  | _ => ("", "", "", false)
def tyJ1 : Nat → FieldType := fun k => match k with
  | _ => .int
abbrev wsJ10 : List Cond := u_ws RJ1 TJ1 0
theorem nmJ1 : ∀ a, a < 0 → ∀ b, b < 0 → a ≠ b → (TJ1 a).2.1 ≠ (TJ1 b).2.1 := by decide +kernel
theorem tyJ1_ok : ∀ k, k < 0 → parseFieldDescriptor (TJ1 k).2.2.1 = some (tyJ1 k) := by decide +kernel
abbrev cJ1_inflate_0e8fd : ByteArray := prog_36_method_50_code
def yJ1_inflate_0e8fd : MethodName := ⟨RJ1, "inflate", "([BI[BII)V"⟩
def RJ2 : String := "java/lang/StringUTF16"
def TJ2 : u_T := fun k => match k with
  | _ => ("", "", "", false)
def tyJ2 : Nat → FieldType := fun k => match k with
  | _ => .int
abbrev wsJ20 : List Cond := u_ws RJ2 TJ2 0
theorem nmJ2 : ∀ a, a < 0 → ∀ b, b < 0 → a ≠ b → (TJ2 a).2.1 ≠ (TJ2 b).2.1 := by decide +kernel
theorem tyJ2_ok : ∀ k, k < 0 → parseFieldDescriptor (TJ2 k).2.2.1 = some (tyJ2 k) := by decide +kernel
abbrev cJ2_newBytesFor_77867 : ByteArray := prog_37_method_2_code
def yJ2_newBytesFor_77867 : MethodName := ⟨RJ2, "newBytesFor", "(I)[B"⟩
abbrev cJ2_newBytesLength_0f7a4 : ByteArray := prog_37_method_3_code
def yJ2_newBytesLength_0f7a4 : MethodName := ⟨RJ2, "newBytesLength", "(I)I"⟩
abbrev cJ2_putChar_b72d1 : ByteArray := prog_37_method_4_code
def yJ2_putChar_b72d1 : MethodName := ⟨RJ2, "putChar", "([BII)V"⟩
abbrev cJ2_getChar_3b067 : ByteArray := prog_37_method_5_code
def yJ2_getChar_3b067 : MethodName := ⟨RJ2, "getChar", "([BI)C"⟩
abbrev cJ2_length_9d52b : ByteArray := prog_37_method_6_code
def yJ2_length_9d52b : MethodName := ⟨RJ2, "length", "([B)I"⟩
abbrev cJ2_coderFromArrayLen_85cad : ByteArray := prog_37_method_15_code
def yJ2_coderFromArrayLen_85cad : MethodName := ⟨RJ2, "coderFromArrayLen", "([BI)B"⟩
abbrev cJ2_compress_39247 : ByteArray := prog_37_method_17_code
def yJ2_compress_39247 : MethodName := ⟨RJ2, "compress", "([BII)[B"⟩
abbrev cJ2_compress_5af95 : ByteArray := prog_37_method_22_code
def yJ2_compress_5af95 : MethodName := ⟨RJ2, "compress", "([BI[BII)I"⟩
abbrev cJ2_getChars_46870 : ByteArray := prog_37_method_77_code
def yJ2_getChars_46870 : MethodName := ⟨RJ2, "getChars", "(III[B)I"⟩
abbrev cJ2_putCharsAt_cd4e5 : ByteArray := prog_37_method_81_code
def yJ2_putCharsAt_cd4e5 : MethodName := ⟨RJ2, "putCharsAt", "([BICCCC)I"⟩
abbrev cJ2_inflate_0e8fd : ByteArray := prog_37_method_86_code
def yJ2_inflate_0e8fd : MethodName := ⟨RJ2, "inflate", "([BI[BII)V"⟩
abbrev cJ2_getChars_ba4f3 : ByteArray := prog_37_method_89_code
def yJ2_getChars_ba4f3 : MethodName := ⟨RJ2, "getChars", "(II[B)I"⟩
abbrev cJ2_checkBoundsBeginEnd_d044e : ByteArray := prog_37_method_93_code
def yJ2_checkBoundsBeginEnd_d044e : MethodName := ⟨RJ2, "checkBoundsBeginEnd", "(II[B)V"⟩
abbrev cJ2_checkBoundsOffCount_d044e : ByteArray := prog_37_method_94_code
def yJ2_checkBoundsOffCount_d044e : MethodName := ⟨RJ2, "checkBoundsOffCount", "(II[B)V"⟩
def RJ10 : String := "java/lang/System"
def TJ10 : u_T := fun k => match k with
  | _ => ("", "", "", false)
def tyJ10 : Nat → FieldType := fun k => match k with
  | _ => .int
abbrev wsJ100 : List Cond := u_ws RJ10 TJ10 0
theorem nmJ10 : ∀ a, a < 0 → ∀ b, b < 0 → a ≠ b → (TJ10 a).2.1 ≠ (TJ10 b).2.1 := by decide +kernel
theorem tyJ10_ok : ∀ k, k < 0 → parseFieldDescriptor (TJ10 k).2.2.1 = some (tyJ10 k) := by decide +kernel
def RJxfd54e : String := "java/lang/constant/Constable"
def TJxfd54e : u_T := fun k => match k with
  | _ => ("", "", "", false)
def tyJxfd54e : Nat → FieldType := fun k => match k with
  | _ => .int
abbrev wsJxfd54e0 : List Cond := u_ws RJxfd54e TJxfd54e 0
theorem nmJxfd54e : ∀ a, a < 0 → ∀ b, b < 0 → a ≠ b → (TJxfd54e a).2.1 ≠ (TJxfd54e b).2.1 := by decide +kernel
theorem tyJxfd54e_ok : ∀ k, k < 0 → parseFieldDescriptor (TJxfd54e k).2.2.1 = some (tyJxfd54e k) := by decide +kernel
def RJx3cf43 : String := "java/lang/constant/ConstantDesc"
def TJx3cf43 : u_T := fun k => match k with
  | _ => ("", "", "", false)
def tyJx3cf43 : Nat → FieldType := fun k => match k with
  | _ => .int
abbrev wsJx3cf430 : List Cond := u_ws RJx3cf43 TJx3cf43 0
theorem nmJx3cf43 : ∀ a, a < 0 → ∀ b, b < 0 → a ≠ b → (TJx3cf43 a).2.1 ≠ (TJx3cf43 b).2.1 := by decide +kernel
theorem tyJx3cf43_ok : ∀ k, k < 0 → parseFieldDescriptor (TJx3cf43 k).2.2.1 = some (tyJx3cf43 k) := by decide +kernel
def RJxa1e45 : String := "java/util/AbstractCollection"
def TJxa1e45 : u_T := fun k => match k with
  | _ => ("", "", "", false)
def tyJxa1e45 : Nat → FieldType := fun k => match k with
  | _ => .int
abbrev wsJxa1e450 : List Cond := u_ws RJxa1e45 TJxa1e45 0
theorem nmJxa1e45 : ∀ a, a < 0 → ∀ b, b < 0 → a ≠ b → (TJxa1e45 a).2.1 ≠ (TJxa1e45 b).2.1 := by decide +kernel
theorem tyJxa1e45_ok : ∀ k, k < 0 → parseFieldDescriptor (TJxa1e45 k).2.2.1 = some (tyJxa1e45 k) := by decide +kernel
abbrev cJxa1e45_init_da8c8 : ByteArray := prog_42_method_1_code
def yJxa1e45_init_da8c8 : MethodName := ⟨RJxa1e45, "<init>", "()V"⟩
def RJxc12de : String := "java/util/AbstractList"
def TJxc12de : u_T := fun k => match k with
  | _ => ("", "", "", false)
def tyJxc12de : Nat → FieldType := fun k => match k with
  | _ => .int
abbrev wsJxc12de0 : List Cond := u_ws RJxc12de TJxc12de 0
theorem nmJxc12de : ∀ a, a < 0 → ∀ b, b < 0 → a ≠ b → (TJxc12de a).2.1 ≠ (TJxc12de b).2.1 := by decide +kernel
theorem tyJxc12de_ok : ∀ k, k < 0 → parseFieldDescriptor (TJxc12de k).2.2.1 = some (tyJxc12de k) := by decide +kernel
abbrev cJxc12de_init_da8c8 : ByteArray := prog_43_method_1_code
def yJxc12de_init_da8c8 : MethodName := ⟨RJxc12de, "<init>", "()V"⟩
def RJx4a65c : String := "java/util/ArrayList"
def TJx4a65c : u_T := fun k => match k with
  | 0 => ("java/util/AbstractList", "modCount", "I", false)
  | 1 => ("java/util/ArrayList", "elementData", "[Ljava/lang/Object;", false)
  | _ => ("java/util/ArrayList", "size", "I", false)
def tyJx4a65c : Nat → FieldType := fun k => match k with
  | 0 => .int
  | 1 => .array (.object "java/lang/Object")
  | _ => .int
abbrev wsJx4a65c0 : List Cond := u_ws RJx4a65c TJx4a65c 3
theorem nmJx4a65c : ∀ a, a < 3 → ∀ b, b < 3 → a ≠ b → (TJx4a65c a).2.1 ≠ (TJx4a65c b).2.1 := by decide +kernel
theorem tyJx4a65c_ok : ∀ k, k < 3 → parseFieldDescriptor (TJx4a65c k).2.2.1 = some (tyJx4a65c k) := by decide +kernel
abbrev cJx4a65c_init_da8c8 : ByteArray := prog_44_method_2_code
def yJx4a65c_init_da8c8 : MethodName := ⟨RJx4a65c, "<init>", "()V"⟩
abbrev cJx4a65c_init_4bcb3 : ByteArray := prog_44_method_3_code
def yJx4a65c_init_4bcb3 : MethodName := ⟨RJx4a65c, "<init>", "(Ljava/util/Collection;)V"⟩
abbrev cJx4a65c_grow_92f84 : ByteArray := prog_44_method_6_code
def yJx4a65c_grow_92f84 : MethodName := ⟨RJx4a65c, "grow", "(I)[Ljava/lang/Object;"⟩
abbrev cJx4a65c_grow_d5877 : ByteArray := prog_44_method_7_code
def yJx4a65c_grow_d5877 : MethodName := ⟨RJx4a65c, "grow", "()[Ljava/lang/Object;"⟩
abbrev cJx4a65c_size_8abf5 : ByteArray := prog_44_method_8_code
def yJx4a65c_size_8abf5 : MethodName := ⟨RJx4a65c, "size", "()I"⟩
abbrev cJx4a65c_isEmpty_aae02 : ByteArray := prog_44_method_9_code
def yJx4a65c_isEmpty_aae02 : MethodName := ⟨RJx4a65c, "isEmpty", "()Z"⟩
abbrev cJx4a65c_toArray_d5877 : ByteArray := prog_44_method_16_code
def yJx4a65c_toArray_d5877 : MethodName := ⟨RJx4a65c, "toArray", "()[Ljava/lang/Object;"⟩
abbrev cJx4a65c_elementData_915e3 : ByteArray := prog_44_method_18_code
def yJx4a65c_elementData_915e3 : MethodName := ⟨RJx4a65c, "elementData", "(I)Ljava/lang/Object;"⟩
abbrev cJx4a65c_get_915e3 : ByteArray := prog_44_method_20_code
def yJx4a65c_get_915e3 : MethodName := ⟨RJx4a65c, "get", "(I)Ljava/lang/Object;"⟩
abbrev cJx4a65c_add_72be8 : ByteArray := prog_44_method_24_code
def yJx4a65c_add_72be8 : MethodName := ⟨RJx4a65c, "add", "(Ljava/lang/Object;[Ljava/lang/Object;I)V"⟩
abbrev cJx4a65c_add_9ea2d : ByteArray := prog_44_method_25_code
def yJx4a65c_add_9ea2d : MethodName := ⟨RJx4a65c, "add", "(Ljava/lang/Object;)Z"⟩
abbrev cJx4a65c_add_7a177 : ByteArray := prog_44_method_26_code
def yJx4a65c_add_7a177 : MethodName := ⟨RJx4a65c, "add", "(ILjava/lang/Object;)V"⟩
abbrev cJx4a65c_remove_915e3 : ByteArray := prog_44_method_29_code
def yJx4a65c_remove_915e3 : MethodName := ⟨RJx4a65c, "remove", "(I)Ljava/lang/Object;"⟩
abbrev cJx4a65c_fastRemove_b59b0 : ByteArray := prog_44_method_39_code
def yJx4a65c_fastRemove_b59b0 : MethodName := ⟨RJx4a65c, "fastRemove", "([Ljava/lang/Object;I)V"⟩
abbrev cJx4a65c_clear_da8c8 : ByteArray := prog_44_method_40_code
def yJx4a65c_clear_da8c8 : MethodName := ⟨RJx4a65c, "clear", "()V"⟩
abbrev cJx4a65c_addAll_f0b43 : ByteArray := prog_44_method_41_code
def yJx4a65c_addAll_f0b43 : MethodName := ⟨RJx4a65c, "addAll", "(Ljava/util/Collection;)Z"⟩
abbrev cJx4a65c_rangeCheckForAdd_d00df : ByteArray := prog_44_method_45_code
def yJx4a65c_rangeCheckForAdd_d00df : MethodName := ⟨RJx4a65c, "rangeCheckForAdd", "(I)V"⟩
abbrev cJx4a65c_outOfBoundsMsg_b52d3 : ByteArray := prog_44_method_46_code
def yJx4a65c_outOfBoundsMsg_b52d3 : MethodName := ⟨RJx4a65c, "outOfBoundsMsg", "(I)Ljava/lang/String;"⟩
def RJ7 : String := "java/util/Arrays"
def TJ7 : u_T := fun k => match k with
  | _ => ("", "", "", false)
def tyJ7 : Nat → FieldType := fun k => match k with
  | _ => .int
abbrev wsJ70 : List Cond := u_ws RJ7 TJ7 0
theorem nmJ7 : ∀ a, a < 0 → ∀ b, b < 0 → a ≠ b → (TJ7 a).2.1 ≠ (TJ7 b).2.1 := by decide +kernel
theorem tyJ7_ok : ∀ k, k < 0 → parseFieldDescriptor (TJ7 k).2.2.1 = some (tyJ7 k) := by decide +kernel
abbrev cJ7_fill_53178 : ByteArray := prog_45_method_103_code
def yJ7_fill_53178 : MethodName := ⟨RJ7, "fill", "([II)V"⟩
abbrev cJ7_copyOf_1904c : ByteArray := prog_45_method_119_code
def yJ7_copyOf_1904c : MethodName := ⟨RJ7, "copyOf", "([Ljava/lang/Object;I)[Ljava/lang/Object;"⟩
abbrev cJ7_copyOf_6403c : ByteArray := prog_45_method_120_code
def yJ7_copyOf_6403c : MethodName := ⟨RJ7, "copyOf", "([Ljava/lang/Object;ILjava/lang/Class;)[Ljava/lang/Object;"⟩
abbrev cJ7_copyOf_9075b : ByteArray := prog_45_method_121_code
def yJ7_copyOf_9075b : MethodName := ⟨RJ7, "copyOf", "([BI)[B"⟩
abbrev cJ7_checkLength_df160 : ByteArray := prog_45_method_131_code
def yJ7_checkLength_df160 : MethodName := ⟨RJ7, "checkLength", "(II)V"⟩
abbrev cJ7_copyOfRange_39247 : ByteArray := prog_45_method_132_code
def yJ7_copyOfRange_39247 : MethodName := ⟨RJ7, "copyOfRange", "([BII)[B"⟩
abbrev cJ7_copyOfRangeByte_39247 : ByteArray := prog_45_method_133_code
def yJ7_copyOfRangeByte_39247 : MethodName := ⟨RJ7, "copyOfRangeByte", "([BII)[B"⟩
def RJx5ef63 : String := "java/util/Collection"
def TJx5ef63 : u_T := fun k => match k with
  | _ => ("", "", "", false)
def tyJx5ef63 : Nat → FieldType := fun k => match k with
  | _ => .int
abbrev wsJx5ef630 : List Cond := u_ws RJx5ef63 TJx5ef63 0
theorem nmJx5ef63 : ∀ a, a < 0 → ∀ b, b < 0 → a ≠ b → (TJx5ef63 a).2.1 ≠ (TJx5ef63 b).2.1 := by decide +kernel
theorem tyJx5ef63_ok : ∀ k, k < 0 → parseFieldDescriptor (TJx5ef63 k).2.2.1 = some (tyJx5ef63 k) := by decide +kernel
def RJxbd725 : String := "java/util/List"
def TJxbd725 : u_T := fun k => match k with
  | _ => ("", "", "", false)
def tyJxbd725 : Nat → FieldType := fun k => match k with
  | _ => .int
abbrev wsJxbd7250 : List Cond := u_ws RJxbd725 TJxbd725 0
theorem nmJxbd725 : ∀ a, a < 0 → ∀ b, b < 0 → a ≠ b → (TJxbd725 a).2.1 ≠ (TJxbd725 b).2.1 := by decide +kernel
theorem tyJxbd725_ok : ∀ k, k < 0 → parseFieldDescriptor (TJxbd725 k).2.2.1 = some (tyJxbd725 k) := by decide +kernel
def RJ15 : String := "java/util/Objects"
def TJ15 : u_T := fun k => match k with
  | _ => ("", "", "", false)
def tyJ15 : Nat → FieldType := fun k => match k with
  | _ => .int
abbrev wsJ150 : List Cond := u_ws RJ15 TJ15 0
theorem nmJ15 : ∀ a, a < 0 → ∀ b, b < 0 → a ≠ b → (TJ15 a).2.1 ≠ (TJ15 b).2.1 := by decide +kernel
theorem tyJ15_ok : ∀ k, k < 0 → parseFieldDescriptor (TJ15 k).2.2.1 = some (tyJ15 k) := by decide +kernel
abbrev cJ15_checkIndex_7cf53 : ByteArray := prog_48_method_17_code
def yJ15_checkIndex_7cf53 : MethodName := ⟨RJ15, "checkIndex", "(II)I"⟩
def RJxf0a74 : String := "java/util/RandomAccess"
def TJxf0a74 : u_T := fun k => match k with
  | _ => ("", "", "", false)
def tyJxf0a74 : Nat → FieldType := fun k => match k with
  | _ => .int
abbrev wsJxf0a740 : List Cond := u_ws RJxf0a74 TJxf0a74 0
theorem nmJxf0a74 : ∀ a, a < 0 → ∀ b, b < 0 → a ≠ b → (TJxf0a74 a).2.1 ≠ (TJxf0a74 b).2.1 := by decide +kernel
theorem tyJxf0a74_ok : ∀ k, k < 0 → parseFieldDescriptor (TJxf0a74 k).2.2.1 = some (tyJxf0a74 k) := by decide +kernel
def RJxa66e6 : String := "java/util/SequencedCollection"
def TJxa66e6 : u_T := fun k => match k with
  | _ => ("", "", "", false)
def tyJxa66e6 : Nat → FieldType := fun k => match k with
  | _ => .int
abbrev wsJxa66e60 : List Cond := u_ws RJxa66e6 TJxa66e6 0
theorem nmJxa66e6 : ∀ a, a < 0 → ∀ b, b < 0 → a ≠ b → (TJxa66e6 a).2.1 ≠ (TJxa66e6 b).2.1 := by decide +kernel
theorem tyJxa66e6_ok : ∀ k, k < 0 → parseFieldDescriptor (TJxa66e6 k).2.2.1 = some (tyJxa66e6 k) := by decide +kernel
def RJ8 : String := "jdk/internal/util/ArraysSupport"
def TJ8 : u_T := fun k => match k with
  | _ => ("", "", "", false)
def tyJ8 : Nat → FieldType := fun k => match k with
  | _ => .int
abbrev wsJ80 : List Cond := u_ws RJ8 TJ8 0
theorem nmJ8 : ∀ a, a < 0 → ∀ b, b < 0 → a ≠ b → (TJ8 a).2.1 ≠ (TJ8 b).2.1 := by decide +kernel
theorem tyJ8_ok : ∀ k, k < 0 → parseFieldDescriptor (TJ8 k).2.2.1 = some (tyJ8 k) := by decide +kernel
abbrev cJ8_newLength_cabcc : ByteArray := prog_51_method_27_code
def yJ8_newLength_cabcc : MethodName := ⟨RJ8, "newLength", "(III)I"⟩
abbrev cJ8_hugeLength_7cf53 : ByteArray := prog_51_method_28_code
def yJ8_hugeLength_7cf53 : MethodName := ⟨RJ8, "hugeLength", "(II)I"⟩
def RJ3 : String := "jdk/internal/util/Preconditions"
def TJ3 : u_T := fun k => match k with
  | _ => ("", "", "", false)
def tyJ3 : Nat → FieldType := fun k => match k with
  | _ => .int
abbrev wsJ30 : List Cond := u_ws RJ3 TJ3 0
theorem nmJ3 : ∀ a, a < 0 → ∀ b, b < 0 → a ≠ b → (TJ3 a).2.1 ≠ (TJ3 b).2.1 := by decide +kernel
theorem tyJ3_ok : ∀ k, k < 0 → parseFieldDescriptor (TJ3 k).2.2.1 = some (tyJ3 k) := by decide +kernel
abbrev cJ3_checkIndex_8e157 : ByteArray := prog_52_method_11_code
def yJ3_checkIndex_8e157 : MethodName := ⟨RJ3, "checkIndex", "(IILjava/util/function/BiFunction;)I"⟩
abbrev cJ3_checkFromToIndex_8c36e : ByteArray := prog_52_method_12_code
def yJ3_checkFromToIndex_8c36e : MethodName := ⟨RJ3, "checkFromToIndex", "(IIILjava/util/function/BiFunction;)I"⟩
abbrev cJ3_checkFromIndexSize_8c36e : ByteArray := prog_52_method_13_code
def yJ3_checkFromIndexSize_8c36e : MethodName := ⟨RJ3, "checkFromIndexSize", "(IIILjava/util/function/BiFunction;)I"⟩
def RL : String := "MeridianSeriesLaw"
abbrev cL_addSeries : ByteArray := method_3_code
def yL_addSeries : MethodName := ⟨RL, "addSeries", "(LMeridianSeries;II[J)I"⟩
abbrev cL_setSpan : ByteArray := method_4_code
def yL_setSpan : MethodName := ⟨RL, "setSpan", "(LMeridianSeries;I[J)I"⟩
abbrev cL_setWidths : ByteArray := method_5_code
def yL_setWidths : MethodName := ⟨RL, "setWidths", "(LMeridianSeries;II[J)I"⟩
abbrev cL_setKeep : ByteArray := method_6_code
def yL_setKeep : MethodName := ⟨RL, "setKeep", "(LMeridianSeries;II[J)I"⟩
abbrev cL_setQuery : ByteArray := method_7_code
def yL_setQuery : MethodName := ⟨RL, "setQuery", "(LMeridianSeries;IIII[J)I"⟩
abbrev cL_put : ByteArray := method_8_code
def yL_put : MethodName := ⟨RL, "put", "(LMeridianSeries;III[J)I"⟩
abbrev cL_putRow : ByteArray := method_9_code
def yL_putRow : MethodName := ⟨RL, "putRow", "(LMeridianSeries;IIIIII[J)I"⟩
abbrev cL_goOn : ByteArray := method_10_code
def yL_goOn : MethodName := ⟨RL, "goOn", "(LMeridianSeries;I[J)I"⟩
abbrev cL_blocks : ByteArray := method_11_code
def yL_blocks : MethodName := ⟨RL, "blocks", "(LMeridianSeries;I[J)I"⟩
abbrev cL_size : ByteArray := method_12_code
def yL_size : MethodName := ⟨RL, "size", "(LMeridianSeries;II[J)I"⟩
abbrev cL_point : ByteArray := method_13_code
def yL_point : MethodName := ⟨RL, "point", "(LMeridianSeries;IIIZ[J)I"⟩
abbrev cL_bits : ByteArray := method_14_code
def yL_bits : MethodName := ⟨RL, "bits", "(LMeridianSeries;II[J)I"⟩
abbrev cL_word : ByteArray := method_15_code
def yL_word : MethodName := ⟨RL, "word", "(LMeridianSeries;III[J)I"⟩
abbrev cL_buckets : ByteArray := method_16_code
def yL_buckets : MethodName := ⟨RL, "buckets", "(LMeridianSeries;IZ[J)I"⟩
abbrev cL_ofBucket : ByteArray := method_17_code
def yL_ofBucket : MethodName := ⟨RL, "ofBucket", "(LMeridianSeries;IZII[J)I"⟩
abbrev cL_items : ByteArray := method_18_code
def yL_items : MethodName := ⟨RL, "items", "(LMeridianSeries;I[J)I"⟩
abbrev cL_ask : ByteArray := method_19_code
def yL_ask : MethodName := ⟨RL, "ask", "(LMeridianSeries;II[J)I"⟩
abbrev cL_over : ByteArray := method_20_code
def yL_over : MethodName := ⟨RL, "over", "(LMeridianSeries;ZIII[J)I"⟩
abbrev cL_gaps : ByteArray := method_21_code
def yL_gaps : MethodName := ⟨RL, "gaps", "(LMeridianSeries;II[J)I"⟩
abbrev cL_lastAt : ByteArray := method_22_code
def yL_lastAt : MethodName := ⟨RL, "lastAt", "(LMeridianSeries;II[J)I"⟩
abbrev cL_addRule : ByteArray := method_23_code
def yL_addRule : MethodName := ⟨RL, "addRule", "(LMeridianSeries;IIIIZII[J)I"⟩
abbrev cL_stateOf : ByteArray := method_24_code
def yL_stateOf : MethodName := ⟨RL, "stateOf", "(LMeridianSeries;I[J)I"⟩
abbrev cL_inRow : ByteArray := method_25_code
def yL_inRow : MethodName := ⟨RL, "inRow", "(LMeridianSeries;I[J)I"⟩
abbrev cL_seenBy : ByteArray := method_26_code
def yL_seenBy : MethodName := ⟨RL, "seenBy", "(LMeridianSeries;I[J)I"⟩
abbrev cL_event : ByteArray := method_27_code
def yL_event : MethodName := ⟨RL, "event", "(LMeridianSeries;II[J)I"⟩
abbrev cL_bitsWith : ByteArray := method_28_code
def yL_bitsWith : MethodName := ⟨RL, "bitsWith", "(LMeridianSeries;III[J)I"⟩
abbrev cL_firesIn : ByteArray := method_29_code
def yL_firesIn : MethodName := ⟨RL, "firesIn", "(LMeridianSeries;I[J)I"⟩
abbrev cL_wouldRoll : ByteArray := method_30_code
def yL_wouldRoll : MethodName := ⟨RL, "wouldRoll", "(LMeridianSeries;I[J)I"⟩
abbrev cL_law : ByteArray := code
def yL_law : MethodName := ⟨RL, "law", "([I)Z"⟩
def wsX2_init : List Cond := .code yX2_init cX2_init 1 none :: ([.methodLink RX2 1 objectInit, .instanceMethod objectInit, .code objectInit ⟨#[0xb1]⟩ 1 none, .fieldLink RX2 7 "MeridianSeries$Items" "amount" "I"] ++ wsX00 ++ wsX40)
def wsX0_init : List Cond := .code yX0_init cX0_init 1 none :: ([.arrayClass .int, .fieldLink RX0 11 "MeridianSeries$Buckets" "cells" "[I", .instanceMethod yX2_init, .initialized RX2, .code yX2_init cX2_init 1 none, .methodLink RX2 1 objectInit, .instanceMethod objectInit, .code objectInit ⟨#[0xb1]⟩ 1 none, .fieldLink RX2 7 "MeridianSeries$Items" "amount" "I"] ++ wsX00 ++ wsX40)
def wsX0_number : List Cond := .code yX0_number cX0_number 4 (some .int) :: ([.fieldLink RX0 11 "MeridianSeries$Buckets" "cells" "[I"] ++ wsX00)
def wsX0_isFull : List Cond := .code yX0_isFull cX0_isFull 1 (some .boolean) :: ([.fieldLink RX0 15 "MeridianSeries$Buckets" "amount" "I", .sameField "MeridianSeries$Buckets" "MeridianSeries$Items" "amount" "I"] ++ wsX00 ++ wsX40)
def wsX4_number : List Cond := .code yX4_number cX4_number 3 (some .int) :: ([.fieldLink RX4 11 "MeridianSeries$Points" "times" "[I", .fieldLink RX4 15 "MeridianSeries$Points" "values" "[I"] ++ wsX40)
def wsX0_write : List Cond := .code yX0_write cX0_write 5 none :: ([.fieldLink RX0 11 "MeridianSeries$Buckets" "cells" "[I"] ++ wsX00)
def wsX0_take_r1 : List Cond := [Cond.fieldLink RX0 15 "MeridianSeries$Buckets" "amount" "I", Cond.sameField "MeridianSeries$Buckets" "MeridianSeries$Items" "amount" "I", Cond.methodLink RX0 28 Lib.Math.min.name, Cond.static Lib.Math.min.name, Cond.initialized "java/lang/Math", Cond.code Lib.Math.min.name Lib.Math.min.code 2 (some .int), Cond.methodLink RX0 33 Lib.Math.max.name, Cond.static Lib.Math.max.name, Cond.code Lib.Math.max.name Lib.Math.max.code 2 (some .int), Cond.methodLink RX0 19 yX0_number, Cond.instanceMethod yX0_number, Cond.selects RX0 yX0_number yX0_number, Cond.initialized RX0, Cond.code yX0_number cX0_number 4 (some .int), Cond.fieldLink RX0 11 "MeridianSeries$Buckets" "cells" "[I", Cond.methodLink RX0 23 ⟨"MeridianSeries$Items", "number", "(II)I"⟩, Cond.sameMethod "MeridianSeries$Items" "MeridianSeries$Items" "number" "(II)I", Cond.selects RX0 ⟨"MeridianSeries$Items", "number", "(II)I"⟩ yX0_number, Cond.selects RX4 ⟨"MeridianSeries$Items", "number", "(II)I"⟩ yX4_number, Cond.instanceMethod yX4_number, Cond.initialized RX4, Cond.code yX4_number cX4_number 3 (some .int), Cond.fieldLink RX4 11 "MeridianSeries$Points" "times" "[I", Cond.fieldLink RX4 15 "MeridianSeries$Points" "values" "[I"]
def wsX0_take_r2 : List Cond := [Cond.methodLink RX0 24 yX0_write, Cond.instanceMethod yX0_write, Cond.selects RX0 yX0_write yX0_write, Cond.code yX0_write cX0_write 5 none]
def wsX0_take : List Cond := .code yX0_take cX0_take 6 none :: ((wsX0_take_r1 ++ wsX0_take_r2) ++ wsX00 ++ wsX40)
def wsX0_dropFirst : List Cond := .code yX0_dropFirst cX0_dropFirst 2 none :: ([.fieldLink RX0 15 "MeridianSeries$Buckets" "amount" "I", .sameField "MeridianSeries$Buckets" "MeridianSeries$Items" "amount" "I", .fieldLink RX0 11 "MeridianSeries$Buckets" "cells" "[I"] ++ wsX00 ++ wsX40)
def wsX0_copyFrom : List Cond := .code yX0_copyFrom cX0_copyFrom 4 none :: ([.fieldLink RX0 15 "MeridianSeries$Buckets" "amount" "I", .sameField "MeridianSeries$Buckets" "MeridianSeries$Items" "amount" "I", .methodLink RX0 19 yX0_number, .instanceMethod yX0_number, .selects RX0 yX0_number yX0_number, .initialized RX0, .code yX0_number cX0_number 4 (some .int), .fieldLink RX0 11 "MeridianSeries$Buckets" "cells" "[I", .methodLink RX0 24 yX0_write, .instanceMethod yX0_write, .selects RX0 yX0_write yX0_write, .code yX0_write cX0_write 5 none] ++ wsX00 ++ wsX40)
def wsX1_init : List Cond := .code yX1_init cX1_init 1 none :: ([.methodLink RX1 3 objectInit, .instanceMethod objectInit, .code objectInit ⟨#[0xb1]⟩ 1 none, .arrayClass .int, .fieldLink RX1 9 "MeridianSeries$EventLog" "cells" "[I", .fieldLink RX1 15 "MeridianSeries$EventLog" "total" "I", .fieldLink RX1 19 "MeridianSeries$EventLog" "firings" "I"] ++ wsX10)
def wsX1_add : List Cond := .code yX1_add cX1_add 5 none :: ([.fieldLink RX1 15 "MeridianSeries$EventLog" "total" "I", .fieldLink RX1 9 "MeridianSeries$EventLog" "cells" "[I", .fieldLink RX1 19 "MeridianSeries$EventLog" "firings" "I"] ++ wsX10)
def wsX1_number : List Cond := .code yX1_number cX1_number 4 (some .int) :: ([.fieldLink RX1 15 "MeridianSeries$EventLog" "total" "I", .fieldLink RX1 9 "MeridianSeries$EventLog" "cells" "[I"] ++ wsX10)
def wsX3_init : List Cond := .code yX3_init cX3_init 1 none :: ([.methodLink RX3 3 objectInit, .instanceMethod objectInit, .code objectInit ⟨#[0xb1]⟩ 1 none, .arrayClass .int, .fieldLink RX3 11 "MeridianSeries$Packer" "words" "[I", .fieldLink RX3 15 "MeridianSeries$Packer" "length" "I", .fieldLink RX3 19 "MeridianSeries$Packer" "packed" "I", .fieldLink RX3 22 "MeridianSeries$Packer" "lastTime" "I", .fieldLink RX3 25 "MeridianSeries$Packer" "lastStep" "I", .fieldLink RX3 28 "MeridianSeries$Packer" "lastValue" "I"] ++ wsX30)
def wsX4_openSize : List Cond := .code yX4_openSize cX4_openSize 1 (some .int) :: ([.fieldLink RX4 31 "MeridianSeries$Points" "amount" "I", .sameField "MeridianSeries$Points" "MeridianSeries$Items" "amount" "I", .fieldLink RX4 25 "MeridianSeries$Points" "sealedPoints" "I"] ++ wsX00 ++ wsX40)
def wsX4_sizeOf : List Cond := .code yX4_sizeOf cX4_sizeOf 2 (some .int) :: ([.fieldLink RX4 21 "MeridianSeries$Points" "sealedBlocks" "I", .fieldLink RX4 18 "MeridianSeries$Points" "sizes" "[I", .methodLink RX4 34 yX4_openSize, .instanceMethod yX4_openSize, .selects RX4 yX4_openSize yX4_openSize, .initialized RX4, .code yX4_openSize cX4_openSize 1 (some .int), .fieldLink RX4 31 "MeridianSeries$Points" "amount" "I", .sameField "MeridianSeries$Points" "MeridianSeries$Items" "amount" "I", .fieldLink RX4 25 "MeridianSeries$Points" "sealedPoints" "I"] ++ wsX40 ++ wsX00)
def wsX4_startOf : List Cond := .code yX4_startOf cX4_startOf 4 (some .int) :: ([.fieldLink RX4 21 "MeridianSeries$Points" "sealedBlocks" "I", .methodLink RX4 38 yX4_sizeOf, .instanceMethod yX4_sizeOf, .selects RX4 yX4_sizeOf yX4_sizeOf, .initialized RX4, .code yX4_sizeOf cX4_sizeOf 2 (some .int), .fieldLink RX4 18 "MeridianSeries$Points" "sizes" "[I", .methodLink RX4 34 yX4_openSize, .instanceMethod yX4_openSize, .selects RX4 yX4_openSize yX4_openSize, .code yX4_openSize cX4_openSize 1 (some .int), .fieldLink RX4 31 "MeridianSeries$Points" "amount" "I", .sameField "MeridianSeries$Points" "MeridianSeries$Items" "amount" "I", .fieldLink RX4 25 "MeridianSeries$Points" "sealedPoints" "I"] ++ wsX40 ++ wsX00)
def wsX3_write : List Cond := .code yX3_write cX3_write 5 none :: ([.fieldLink RX3 15 "MeridianSeries$Packer" "length" "I", .fieldLink RX3 11 "MeridianSeries$Packer" "words" "[I"] ++ wsX30)
def wsX3_begin : List Cond := .code yX3_begin cX3_begin 2 none :: ([.fieldLink RX3 11 "MeridianSeries$Packer" "words" "[I", .fieldLink RX3 15 "MeridianSeries$Packer" "length" "I", .fieldLink RX3 19 "MeridianSeries$Packer" "packed" "I", .methodLink RX3 72 yJ7_fill_53178, .static yJ7_fill_53178, .initialized RJ7, .code yJ7_fill_53178 cJ7_fill_53178 4 none, .methodLink RX3 78 yX3_write, .instanceMethod yX3_write, .selects RX3 yX3_write yX3_write, .initialized RX3, .code yX3_write cX3_write 5 none] ++ wsX30)
def wsX9_isIn : List Cond := .code yX9_isIn cX9_isIn 4 (some .boolean) :: ([])
def wsX3_addTime : List Cond := .code yX3_addTime cX3_addTime 2 none :: ([.constant RX3 81 (1048576), .methodLink RX3 78 yX3_write, .instanceMethod yX3_write, .selects RX3 yX3_write yX3_write, .initialized RX3, .code yX3_write cX3_write 5 none, .fieldLink RX3 15 "MeridianSeries$Packer" "length" "I", .fieldLink RX3 11 "MeridianSeries$Packer" "words" "[I", .static yX9_isIn, .initialized RX9, .code yX9_isIn cX9_isIn 4 (some .boolean)] ++ wsX30)
def wsX3_addValue : List Cond := .code yX3_addValue cX3_addValue 2 none :: ([.constant RX3 92 (262144), .methodLink RX3 78 yX3_write, .instanceMethod yX3_write, .selects RX3 yX3_write yX3_write, .initialized RX3, .code yX3_write cX3_write 5 none, .fieldLink RX3 15 "MeridianSeries$Packer" "length" "I", .fieldLink RX3 11 "MeridianSeries$Packer" "words" "[I", .static yX9_isIn, .initialized RX9, .code yX9_isIn cX9_isIn 4 (some .boolean)] ++ wsX30)
def wsX3_add : List Cond := .code yX3_add cX3_add 4 none :: ([.fieldLink RX3 19 "MeridianSeries$Packer" "packed" "I", .constant RX3 81 (1048576), .fieldLink RX3 25 "MeridianSeries$Packer" "lastStep" "I", .fieldLink RX3 22 "MeridianSeries$Packer" "lastTime" "I", .fieldLink RX3 28 "MeridianSeries$Packer" "lastValue" "I", .methodLink RX3 78 yX3_write, .instanceMethod yX3_write, .selects RX3 yX3_write yX3_write, .initialized RX3, .code yX3_write cX3_write 5 none, .fieldLink RX3 15 "MeridianSeries$Packer" "length" "I", .fieldLink RX3 11 "MeridianSeries$Packer" "words" "[I", .methodLink RX3 82 yX3_addTime, .instanceMethod yX3_addTime, .selects RX3 yX3_addTime yX3_addTime, .code yX3_addTime cX3_addTime 2 none, .static yX9_isIn, .initialized RX9, .code yX9_isIn cX9_isIn 4 (some .boolean), .methodLink RX3 85 yX3_addValue, .instanceMethod yX3_addValue, .selects RX3 yX3_addValue yX3_addValue, .code yX3_addValue cX3_addValue 2 none, .constant RX3 92 (262144)] ++ wsX30)
def wsX3_pack_r1 : List Cond := [Cond.fieldLink RX3 31 "MeridianSeries$Points" "sealedBlocks" "I", Cond.fieldLink RX3 15 "MeridianSeries$Packer" "length" "I", Cond.methodLink RX3 36 yX4_startOf, Cond.instanceMethod yX4_startOf, Cond.selects RX4 yX4_startOf yX4_startOf, Cond.initialized RX4, Cond.code yX4_startOf cX4_startOf 4 (some .int), Cond.fieldLink RX4 21 "MeridianSeries$Points" "sealedBlocks" "I", Cond.methodLink RX4 38 yX4_sizeOf, Cond.instanceMethod yX4_sizeOf, Cond.selects RX4 yX4_sizeOf yX4_sizeOf, Cond.code yX4_sizeOf cX4_sizeOf 2 (some .int), Cond.fieldLink RX4 18 "MeridianSeries$Points" "sizes" "[I", Cond.methodLink RX4 34 yX4_openSize, Cond.instanceMethod yX4_openSize, Cond.selects RX4 yX4_openSize yX4_openSize, Cond.code yX4_openSize cX4_openSize 1 (some .int), Cond.fieldLink RX4 31 "MeridianSeries$Points" "amount" "I", Cond.sameField "MeridianSeries$Points" "MeridianSeries$Items" "amount" "I", Cond.fieldLink RX4 25 "MeridianSeries$Points" "sealedPoints" "I", Cond.methodLink RX3 40 yX4_sizeOf, Cond.methodLink RX3 43 yX3_begin, Cond.instanceMethod yX3_begin, Cond.selects RX3 yX3_begin yX3_begin]
def wsX3_pack_r2 : List Cond := [Cond.initialized RX3, Cond.code yX3_begin cX3_begin 2 none, Cond.fieldLink RX3 11 "MeridianSeries$Packer" "words" "[I", Cond.fieldLink RX3 19 "MeridianSeries$Packer" "packed" "I", Cond.methodLink RX3 72 yJ7_fill_53178, Cond.static yJ7_fill_53178, Cond.initialized RJ7, Cond.code yJ7_fill_53178 cJ7_fill_53178 4 none, Cond.methodLink RX3 78 yX3_write, Cond.instanceMethod yX3_write, Cond.selects RX3 yX3_write yX3_write, Cond.code yX3_write cX3_write 5 none, Cond.methodLink RX3 47 yX4_number, Cond.instanceMethod yX4_number, Cond.selects RX4 yX4_number yX4_number, Cond.code yX4_number cX4_number 3 (some .int), Cond.fieldLink RX4 11 "MeridianSeries$Points" "times" "[I", Cond.fieldLink RX4 15 "MeridianSeries$Points" "values" "[I", Cond.methodLink RX3 51 yX3_add, Cond.instanceMethod yX3_add, Cond.selects RX3 yX3_add yX3_add, Cond.code yX3_add cX3_add 4 none, Cond.constant RX3 81 (1048576), Cond.fieldLink RX3 25 "MeridianSeries$Packer" "lastStep" "I"]
def wsX3_pack_r3 : List Cond := [Cond.fieldLink RX3 22 "MeridianSeries$Packer" "lastTime" "I", Cond.fieldLink RX3 28 "MeridianSeries$Packer" "lastValue" "I", Cond.methodLink RX3 82 yX3_addTime, Cond.instanceMethod yX3_addTime, Cond.selects RX3 yX3_addTime yX3_addTime, Cond.code yX3_addTime cX3_addTime 2 none, Cond.static yX9_isIn, Cond.initialized RX9, Cond.code yX9_isIn cX9_isIn 4 (some .boolean), Cond.methodLink RX3 85 yX3_addValue, Cond.instanceMethod yX3_addValue, Cond.selects RX3 yX3_addValue yX3_addValue, Cond.code yX3_addValue cX3_addValue 2 none, Cond.constant RX3 92 (262144)]
def wsX3_pack : List Cond := .code yX3_pack cX3_pack 6 (some .int) :: ((wsX3_pack_r1 ++ (wsX3_pack_r2 ++ wsX3_pack_r3)) ++ wsX40 ++ wsX30 ++ wsX00)
def wsX4_placeOf : List Cond := .code yX4_placeOf cX4_placeOf 3 (some .int) :: ([.fieldLink RX4 25 "MeridianSeries$Points" "sealedPoints" "I", .fieldLink RX4 31 "MeridianSeries$Points" "amount" "I", .sameField "MeridianSeries$Points" "MeridianSeries$Items" "amount" "I", .methodLink RX4 42 yX4_number, .instanceMethod yX4_number, .selects RX4 yX4_number yX4_number, .initialized RX4, .code yX4_number cX4_number 3 (some .int), .fieldLink RX4 11 "MeridianSeries$Points" "times" "[I", .fieldLink RX4 15 "MeridianSeries$Points" "values" "[I"] ++ wsX40 ++ wsX00)
def wsX4_isTakenAt : List Cond := .code yX4_isTakenAt cX4_isTakenAt 3 (some .boolean) :: ([.fieldLink RX4 31 "MeridianSeries$Points" "amount" "I", .sameField "MeridianSeries$Points" "MeridianSeries$Items" "amount" "I", .methodLink RX4 42 yX4_number, .instanceMethod yX4_number, .selects RX4 yX4_number yX4_number, .initialized RX4, .code yX4_number cX4_number 3 (some .int), .fieldLink RX4 11 "MeridianSeries$Points" "times" "[I", .fieldLink RX4 15 "MeridianSeries$Points" "values" "[I"] ++ wsX00 ++ wsX40)
def wsX3_packOpenWith_r1 : List Cond := [Cond.fieldLink RX3 66 "MeridianSeries$Points" "sealedPoints" "I", Cond.fieldLink RX3 69 "MeridianSeries$Points" "amount" "I", Cond.sameField "MeridianSeries$Points" "MeridianSeries$Items" "amount" "I", Cond.fieldLink RX3 15 "MeridianSeries$Packer" "length" "I", Cond.methodLink RX3 55 yX4_placeOf, Cond.instanceMethod yX4_placeOf, Cond.selects RX4 yX4_placeOf yX4_placeOf, Cond.initialized RX4, Cond.code yX4_placeOf cX4_placeOf 3 (some .int), Cond.fieldLink RX4 25 "MeridianSeries$Points" "sealedPoints" "I", Cond.fieldLink RX4 31 "MeridianSeries$Points" "amount" "I", Cond.methodLink RX4 42 yX4_number, Cond.instanceMethod yX4_number, Cond.selects RX4 yX4_number yX4_number, Cond.code yX4_number cX4_number 3 (some .int), Cond.fieldLink RX4 11 "MeridianSeries$Points" "times" "[I", Cond.fieldLink RX4 15 "MeridianSeries$Points" "values" "[I", Cond.methodLink RX3 58 yX4_isTakenAt, Cond.instanceMethod yX4_isTakenAt, Cond.selects RX4 yX4_isTakenAt yX4_isTakenAt, Cond.code yX4_isTakenAt cX4_isTakenAt 3 (some .boolean), Cond.methodLink RX3 62 yX4_openSize, Cond.instanceMethod yX4_openSize, Cond.selects RX4 yX4_openSize yX4_openSize]
def wsX3_packOpenWith_r2 : List Cond := [Cond.code yX4_openSize cX4_openSize 1 (some .int), Cond.methodLink RX3 43 yX3_begin, Cond.instanceMethod yX3_begin, Cond.selects RX3 yX3_begin yX3_begin, Cond.initialized RX3, Cond.code yX3_begin cX3_begin 2 none, Cond.fieldLink RX3 11 "MeridianSeries$Packer" "words" "[I", Cond.fieldLink RX3 19 "MeridianSeries$Packer" "packed" "I", Cond.methodLink RX3 72 yJ7_fill_53178, Cond.static yJ7_fill_53178, Cond.initialized RJ7, Cond.code yJ7_fill_53178 cJ7_fill_53178 4 none, Cond.methodLink RX3 78 yX3_write, Cond.instanceMethod yX3_write, Cond.selects RX3 yX3_write yX3_write, Cond.code yX3_write cX3_write 5 none, Cond.methodLink RX3 47 yX4_number, Cond.methodLink RX3 51 yX3_add, Cond.instanceMethod yX3_add, Cond.selects RX3 yX3_add yX3_add, Cond.code yX3_add cX3_add 4 none, Cond.constant RX3 81 (1048576), Cond.fieldLink RX3 25 "MeridianSeries$Packer" "lastStep" "I", Cond.fieldLink RX3 22 "MeridianSeries$Packer" "lastTime" "I"]
def wsX3_packOpenWith_r3 : List Cond := [Cond.fieldLink RX3 28 "MeridianSeries$Packer" "lastValue" "I", Cond.methodLink RX3 82 yX3_addTime, Cond.instanceMethod yX3_addTime, Cond.selects RX3 yX3_addTime yX3_addTime, Cond.code yX3_addTime cX3_addTime 2 none, Cond.static yX9_isIn, Cond.initialized RX9, Cond.code yX9_isIn cX9_isIn 4 (some .boolean), Cond.methodLink RX3 85 yX3_addValue, Cond.instanceMethod yX3_addValue, Cond.selects RX3 yX3_addValue yX3_addValue, Cond.code yX3_addValue cX3_addValue 2 none, Cond.constant RX3 92 (262144)]
def wsX3_packOpenWith : List Cond := .code yX3_packOpenWith cX3_packOpenWith 7 (some .int) :: ((wsX3_packOpenWith_r1 ++ (wsX3_packOpenWith_r2 ++ wsX3_packOpenWith_r3)) ++ wsX40 ++ wsX00 ++ wsX30)
def wsX3_wordCount : List Cond := .code yX3_wordCount cX3_wordCount 1 (some .int) :: ([.fieldLink RX3 15 "MeridianSeries$Packer" "length" "I"] ++ wsX30)
def wsX3_wordAt : List Cond := .code yX3_wordAt cX3_wordAt 2 (some .int) :: ([.fieldLink RX3 11 "MeridianSeries$Packer" "words" "[I"] ++ wsX30)
def wsX4_init : List Cond := .code yX4_init cX4_init 1 none :: ([.arrayClass .int, .fieldLink RX4 11 "MeridianSeries$Points" "times" "[I", .fieldLink RX4 15 "MeridianSeries$Points" "values" "[I", .fieldLink RX4 18 "MeridianSeries$Points" "sizes" "[I", .fieldLink RX4 21 "MeridianSeries$Points" "sealedBlocks" "I", .fieldLink RX4 25 "MeridianSeries$Points" "sealedPoints" "I", .fieldLink RX4 28 "MeridianSeries$Points" "greatestSealedTime" "I", .instanceMethod yX2_init, .initialized RX2, .code yX2_init cX2_init 1 none, .methodLink RX2 1 objectInit, .instanceMethod objectInit, .code objectInit ⟨#[0xb1]⟩ 1 none, .fieldLink RX2 7 "MeridianSeries$Items" "amount" "I"] ++ wsX40 ++ wsX00)
def wsX4_blockCount : List Cond := .code yX4_blockCount cX4_blockCount 1 (some .int) :: ([.fieldLink RX4 21 "MeridianSeries$Points" "sealedBlocks" "I"] ++ wsX40)
def wsX4_isLate : List Cond := .code yX4_isLate cX4_isLate 2 (some .boolean) :: ([.fieldLink RX4 28 "MeridianSeries$Points" "greatestSealedTime" "I"] ++ wsX40)
def wsX4_write : List Cond := .code yX4_write cX4_write 4 none :: ([.fieldLink RX4 11 "MeridianSeries$Points" "times" "[I", .fieldLink RX4 15 "MeridianSeries$Points" "values" "[I"] ++ wsX40)
def wsX4_copyPoint : List Cond := .code yX4_copyPoint cX4_copyPoint 3 none :: ([.methodLink RX4 42 yX4_number, .instanceMethod yX4_number, .selects RX4 yX4_number yX4_number, .initialized RX4, .code yX4_number cX4_number 3 (some .int), .fieldLink RX4 11 "MeridianSeries$Points" "times" "[I", .fieldLink RX4 15 "MeridianSeries$Points" "values" "[I", .methodLink RX4 57 yX4_write, .instanceMethod yX4_write, .selects RX4 yX4_write yX4_write, .code yX4_write cX4_write 4 none] ++ wsX40)
def wsX4_add_r1 : List Cond := [Cond.fieldLink RX4 31 "MeridianSeries$Points" "amount" "I", Cond.sameField "MeridianSeries$Points" "MeridianSeries$Items" "amount" "I", Cond.methodLink RX4 46 yX4_placeOf, Cond.instanceMethod yX4_placeOf, Cond.selects RX4 yX4_placeOf yX4_placeOf, Cond.initialized RX4, Cond.code yX4_placeOf cX4_placeOf 3 (some .int), Cond.fieldLink RX4 25 "MeridianSeries$Points" "sealedPoints" "I", Cond.methodLink RX4 42 yX4_number, Cond.instanceMethod yX4_number, Cond.selects RX4 yX4_number yX4_number, Cond.code yX4_number cX4_number 3 (some .int), Cond.fieldLink RX4 11 "MeridianSeries$Points" "times" "[I", Cond.fieldLink RX4 15 "MeridianSeries$Points" "values" "[I", Cond.methodLink RX4 49 yX4_isTakenAt, Cond.instanceMethod yX4_isTakenAt, Cond.selects RX4 yX4_isTakenAt yX4_isTakenAt, Cond.code yX4_isTakenAt cX4_isTakenAt 3 (some .boolean), Cond.methodLink RX4 53 yX4_copyPoint, Cond.instanceMethod yX4_copyPoint, Cond.selects RX4 yX4_copyPoint yX4_copyPoint, Cond.code yX4_copyPoint cX4_copyPoint 3 none, Cond.methodLink RX4 57 yX4_write, Cond.instanceMethod yX4_write]
def wsX4_add_r2 : List Cond := [Cond.selects RX4 yX4_write yX4_write, Cond.code yX4_write cX4_write 4 none]
def wsX4_add : List Cond := .code yX4_add cX4_add 5 none :: ((wsX4_add_r1 ++ wsX4_add_r2) ++ wsX00 ++ wsX40)
def wsX4_hasTooManySealed : List Cond := .code yX4_hasTooManySealed cX4_hasTooManySealed 1 (some .boolean) :: ([.fieldLink RX4 21 "MeridianSeries$Points" "sealedBlocks" "I"] ++ wsX40)
def wsX4_seal : List Cond := .code yX4_seal cX4_seal 1 none :: ([.fieldLink RX4 21 "MeridianSeries$Points" "sealedBlocks" "I", .fieldLink RX4 18 "MeridianSeries$Points" "sizes" "[I", .fieldLink RX4 31 "MeridianSeries$Points" "amount" "I", .sameField "MeridianSeries$Points" "MeridianSeries$Items" "amount" "I", .fieldLink RX4 25 "MeridianSeries$Points" "sealedPoints" "I", .fieldLink RX4 28 "MeridianSeries$Points" "greatestSealedTime" "I", .methodLink RX4 34 yX4_openSize, .instanceMethod yX4_openSize, .selects RX4 yX4_openSize yX4_openSize, .initialized RX4, .code yX4_openSize cX4_openSize 1 (some .int), .methodLink RX4 42 yX4_number, .instanceMethod yX4_number, .selects RX4 yX4_number yX4_number, .code yX4_number cX4_number 3 (some .int), .fieldLink RX4 11 "MeridianSeries$Points" "times" "[I", .fieldLink RX4 15 "MeridianSeries$Points" "values" "[I"] ++ wsX40 ++ wsX00)
def wsX4_dropFirstBlock_r1 : List Cond := [Cond.fieldLink RX4 21 "MeridianSeries$Points" "sealedBlocks" "I", Cond.fieldLink RX4 31 "MeridianSeries$Points" "amount" "I", Cond.sameField "MeridianSeries$Points" "MeridianSeries$Items" "amount" "I", Cond.fieldLink RX4 18 "MeridianSeries$Points" "sizes" "[I", Cond.fieldLink RX4 25 "MeridianSeries$Points" "sealedPoints" "I", Cond.methodLink RX4 38 yX4_sizeOf, Cond.instanceMethod yX4_sizeOf, Cond.selects RX4 yX4_sizeOf yX4_sizeOf, Cond.initialized RX4, Cond.code yX4_sizeOf cX4_sizeOf 2 (some .int), Cond.methodLink RX4 34 yX4_openSize, Cond.instanceMethod yX4_openSize, Cond.selects RX4 yX4_openSize yX4_openSize, Cond.code yX4_openSize cX4_openSize 1 (some .int), Cond.methodLink RX4 53 yX4_copyPoint, Cond.instanceMethod yX4_copyPoint, Cond.selects RX4 yX4_copyPoint yX4_copyPoint, Cond.code yX4_copyPoint cX4_copyPoint 3 none, Cond.methodLink RX4 42 yX4_number, Cond.instanceMethod yX4_number, Cond.selects RX4 yX4_number yX4_number, Cond.code yX4_number cX4_number 3 (some .int), Cond.fieldLink RX4 11 "MeridianSeries$Points" "times" "[I", Cond.fieldLink RX4 15 "MeridianSeries$Points" "values" "[I"]
def wsX4_dropFirstBlock_r2 : List Cond := [Cond.methodLink RX4 57 yX4_write, Cond.instanceMethod yX4_write, Cond.selects RX4 yX4_write yX4_write, Cond.code yX4_write cX4_write 4 none]
def wsX4_dropFirstBlock : List Cond := .code yX4_dropFirstBlock cX4_dropFirstBlock 3 none :: ((wsX4_dropFirstBlock_r1 ++ wsX4_dropFirstBlock_r2) ++ wsX40 ++ wsX00)
def wsX4_blocksBelow : List Cond := .code yX4_blocksBelow cX4_blocksBelow 4 (some .int) :: ([.fieldLink RX4 21 "MeridianSeries$Points" "sealedBlocks" "I", .methodLink RX4 38 yX4_sizeOf, .instanceMethod yX4_sizeOf, .selects RX4 yX4_sizeOf yX4_sizeOf, .initialized RX4, .code yX4_sizeOf cX4_sizeOf 2 (some .int), .fieldLink RX4 18 "MeridianSeries$Points" "sizes" "[I", .methodLink RX4 34 yX4_openSize, .instanceMethod yX4_openSize, .selects RX4 yX4_openSize yX4_openSize, .code yX4_openSize cX4_openSize 1 (some .int), .fieldLink RX4 31 "MeridianSeries$Points" "amount" "I", .sameField "MeridianSeries$Points" "MeridianSeries$Items" "amount" "I", .fieldLink RX4 25 "MeridianSeries$Points" "sealedPoints" "I", .methodLink RX4 42 yX4_number, .instanceMethod yX4_number, .selects RX4 yX4_number yX4_number, .code yX4_number cX4_number 3 (some .int), .fieldLink RX4 11 "MeridianSeries$Points" "times" "[I", .fieldLink RX4 15 "MeridianSeries$Points" "values" "[I"] ++ wsX40 ++ wsX00)
def wsX4_copyFrom_r1 : List Cond := [Cond.fieldLink RX4 31 "MeridianSeries$Points" "amount" "I", Cond.sameField "MeridianSeries$Points" "MeridianSeries$Items" "amount" "I", Cond.fieldLink RX4 21 "MeridianSeries$Points" "sealedBlocks" "I", Cond.fieldLink RX4 18 "MeridianSeries$Points" "sizes" "[I", Cond.fieldLink RX4 25 "MeridianSeries$Points" "sealedPoints" "I", Cond.fieldLink RX4 28 "MeridianSeries$Points" "greatestSealedTime" "I", Cond.methodLink RX4 42 yX4_number, Cond.instanceMethod yX4_number, Cond.selects RX4 yX4_number yX4_number, Cond.initialized RX4, Cond.code yX4_number cX4_number 3 (some .int), Cond.fieldLink RX4 11 "MeridianSeries$Points" "times" "[I", Cond.fieldLink RX4 15 "MeridianSeries$Points" "values" "[I", Cond.methodLink RX4 57 yX4_write, Cond.instanceMethod yX4_write, Cond.selects RX4 yX4_write yX4_write, Cond.code yX4_write cX4_write 4 none, Cond.methodLink RX4 38 yX4_sizeOf, Cond.instanceMethod yX4_sizeOf, Cond.selects RX4 yX4_sizeOf yX4_sizeOf, Cond.code yX4_sizeOf cX4_sizeOf 2 (some .int), Cond.methodLink RX4 34 yX4_openSize, Cond.instanceMethod yX4_openSize, Cond.selects RX4 yX4_openSize yX4_openSize]
def wsX4_copyFrom_r2 : List Cond := [Cond.code yX4_openSize cX4_openSize 1 (some .int)]
def wsX4_copyFrom : List Cond := .code yX4_copyFrom cX4_copyFrom 3 none :: ((wsX4_copyFrom_r1 ++ wsX4_copyFrom_r2) ++ wsX00 ++ wsX40)
def wsX5_init : List Cond := .code yX5_init cX5_init 8 none :: ([.methodLink RX5 3 objectInit, .instanceMethod objectInit, .code objectInit ⟨#[0xb1]⟩ 1 none, .fieldLink RX5 9 "MeridianSeries$Rule" "state" "I", .fieldLink RX5 15 "MeridianSeries$Rule" "timesInRow" "I", .fieldLink RX5 18 "MeridianSeries$Rule" "chain" "LMeridianSeries$Series;", .fieldLink RX5 22 "MeridianSeries$Rule" "what" "I", .fieldLink RX5 25 "MeridianSeries$Rule" "length" "I", .fieldLink RX5 28 "MeridianSeries$Rule" "every" "I", .fieldLink RX5 31 "MeridianSeries$Rule" "isAbove" "Z", .fieldLink RX5 35 "MeridianSeries$Rule" "limit" "I", .fieldLink RX5 38 "MeridianSeries$Rule" "times" "I"] ++ wsX50)
def wsX5_isDueAt : List Cond := .code yX5_isDueAt cX5_isDueAt 2 (some .boolean) :: ([.fieldLink RX5 28 "MeridianSeries$Rule" "every" "I"] ++ wsX50)
def wsX6_itemCount : List Cond := .code yX6_itemCount cX6_itemCount 1 (some .int) :: ([.fieldLink RX6 25 "MeridianSeries$Series" "coarse" "LMeridianSeries$Buckets;", .fieldLink RX6 79 "MeridianSeries$Buckets" "amount" "I", .sameField "MeridianSeries$Buckets" "MeridianSeries$Items" "amount" "I", .fieldLink RX6 21 "MeridianSeries$Series" "fine" "LMeridianSeries$Buckets;", .fieldLink RX6 12 "MeridianSeries$Series" "points" "LMeridianSeries$Points;", .fieldLink RX6 108 "MeridianSeries$Points" "amount" "I", .sameField "MeridianSeries$Points" "MeridianSeries$Items" "amount" "I"] ++ wsX60 ++ wsX00 ++ wsX40)
def wsX6_ofItem : List Cond := .code yX6_ofItem cX6_ofItem 4 (some .int) :: ([.fieldLink RX6 25 "MeridianSeries$Series" "coarse" "LMeridianSeries$Buckets;", .fieldLink RX6 79 "MeridianSeries$Buckets" "amount" "I", .sameField "MeridianSeries$Buckets" "MeridianSeries$Items" "amount" "I", .fieldLink RX6 21 "MeridianSeries$Series" "fine" "LMeridianSeries$Buckets;", .fieldLink RX6 12 "MeridianSeries$Series" "points" "LMeridianSeries$Points;", .methodLink RX6 82 yX0_number, .instanceMethod yX0_number, .selects RX0 yX0_number yX0_number, .initialized RX0, .code yX0_number cX0_number 4 (some .int), .fieldLink RX0 11 "MeridianSeries$Buckets" "cells" "[I", .methodLink RX6 88 yX4_number, .instanceMethod yX4_number, .selects RX4 yX4_number yX4_number, .initialized RX4, .code yX4_number cX4_number 3 (some .int), .fieldLink RX4 11 "MeridianSeries$Points" "times" "[I", .fieldLink RX4 15 "MeridianSeries$Points" "values" "[I"] ++ wsX60 ++ wsX00 ++ wsX40)
def wsX6_firstItemFrom_r1 : List Cond := [Cond.methodLink RX6 109 yX6_itemCount, Cond.instanceMethod yX6_itemCount, Cond.selects RX6 yX6_itemCount yX6_itemCount, Cond.initialized RX6, Cond.code yX6_itemCount cX6_itemCount 1 (some .int), Cond.fieldLink RX6 25 "MeridianSeries$Series" "coarse" "LMeridianSeries$Buckets;", Cond.fieldLink RX6 79 "MeridianSeries$Buckets" "amount" "I", Cond.sameField "MeridianSeries$Buckets" "MeridianSeries$Items" "amount" "I", Cond.fieldLink RX6 21 "MeridianSeries$Series" "fine" "LMeridianSeries$Buckets;", Cond.fieldLink RX6 12 "MeridianSeries$Series" "points" "LMeridianSeries$Points;", Cond.fieldLink RX6 108 "MeridianSeries$Points" "amount" "I", Cond.sameField "MeridianSeries$Points" "MeridianSeries$Items" "amount" "I", Cond.methodLink RX6 112 yX6_ofItem, Cond.instanceMethod yX6_ofItem, Cond.selects RX6 yX6_ofItem yX6_ofItem, Cond.code yX6_ofItem cX6_ofItem 4 (some .int), Cond.methodLink RX6 82 yX0_number, Cond.instanceMethod yX0_number, Cond.selects RX0 yX0_number yX0_number, Cond.initialized RX0, Cond.code yX0_number cX0_number 4 (some .int), Cond.fieldLink RX0 11 "MeridianSeries$Buckets" "cells" "[I", Cond.methodLink RX6 88 yX4_number, Cond.instanceMethod yX4_number]
def wsX6_firstItemFrom_r2 : List Cond := [Cond.selects RX4 yX4_number yX4_number, Cond.initialized RX4, Cond.code yX4_number cX4_number 3 (some .int), Cond.fieldLink RX4 11 "MeridianSeries$Points" "times" "[I", Cond.fieldLink RX4 15 "MeridianSeries$Points" "values" "[I"]
def wsX6_firstItemFrom : List Cond := .code yX6_firstItemFrom cX6_firstItemFrom 6 (some .int) :: ((wsX6_firstItemFrom_r1 ++ wsX6_firstItemFrom_r2) ++ wsX60 ++ wsX00 ++ wsX40)
def wsX6_onLine : List Cond := .code yX6_onLine cX6_onLine 9 (some .int) :: ([.constant RX6 134 (-1000000), .methodLink RX6 112 yX6_ofItem, .instanceMethod yX6_ofItem, .selects RX6 yX6_ofItem yX6_ofItem, .initialized RX6, .code yX6_ofItem cX6_ofItem 4 (some .int), .fieldLink RX6 25 "MeridianSeries$Series" "coarse" "LMeridianSeries$Buckets;", .fieldLink RX6 79 "MeridianSeries$Buckets" "amount" "I", .sameField "MeridianSeries$Buckets" "MeridianSeries$Items" "amount" "I", .fieldLink RX6 21 "MeridianSeries$Series" "fine" "LMeridianSeries$Buckets;", .fieldLink RX6 12 "MeridianSeries$Series" "points" "LMeridianSeries$Points;", .methodLink RX6 82 yX0_number, .instanceMethod yX0_number, .selects RX0 yX0_number yX0_number, .initialized RX0, .code yX0_number cX0_number 4 (some .int), .fieldLink RX0 11 "MeridianSeries$Buckets" "cells" "[I", .methodLink RX6 88 yX4_number, .instanceMethod yX4_number, .selects RX4 yX4_number yX4_number, .initialized RX4, .code yX4_number cX4_number 3 (some .int), .fieldLink RX4 11 "MeridianSeries$Points" "times" "[I", .fieldLink RX4 15 "MeridianSeries$Points" "values" "[I"] ++ wsX60 ++ wsX00 ++ wsX40)
def wsX6_toldOfGap_r1 : List Cond := [Cond.constant RX6 134 (-1000000), Cond.methodLink RX6 112 yX6_ofItem, Cond.instanceMethod yX6_ofItem, Cond.selects RX6 yX6_ofItem yX6_ofItem, Cond.initialized RX6, Cond.code yX6_ofItem cX6_ofItem 4 (some .int), Cond.fieldLink RX6 25 "MeridianSeries$Series" "coarse" "LMeridianSeries$Buckets;", Cond.fieldLink RX6 79 "MeridianSeries$Buckets" "amount" "I", Cond.sameField "MeridianSeries$Buckets" "MeridianSeries$Items" "amount" "I", Cond.fieldLink RX6 21 "MeridianSeries$Series" "fine" "LMeridianSeries$Buckets;", Cond.fieldLink RX6 12 "MeridianSeries$Series" "points" "LMeridianSeries$Points;", Cond.methodLink RX6 82 yX0_number, Cond.instanceMethod yX0_number, Cond.selects RX0 yX0_number yX0_number, Cond.initialized RX0, Cond.code yX0_number cX0_number 4 (some .int), Cond.fieldLink RX0 11 "MeridianSeries$Buckets" "cells" "[I", Cond.methodLink RX6 88 yX4_number, Cond.instanceMethod yX4_number, Cond.selects RX4 yX4_number yX4_number, Cond.initialized RX4, Cond.code yX4_number cX4_number 3 (some .int), Cond.fieldLink RX4 11 "MeridianSeries$Points" "times" "[I", Cond.fieldLink RX4 15 "MeridianSeries$Points" "values" "[I"]
def wsX6_toldOfGap_r2 : List Cond := [Cond.methodLink RX6 109 yX6_itemCount, Cond.instanceMethod yX6_itemCount, Cond.selects RX6 yX6_itemCount yX6_itemCount, Cond.code yX6_itemCount cX6_itemCount 1 (some .int), Cond.fieldLink RX6 108 "MeridianSeries$Points" "amount" "I", Cond.sameField "MeridianSeries$Points" "MeridianSeries$Items" "amount" "I", Cond.methodLink RX6 135 yX6_onLine, Cond.instanceMethod yX6_onLine, Cond.selects RX6 yX6_onLine yX6_onLine, Cond.code yX6_onLine cX6_onLine 9 (some .int)]
def wsX6_toldOfGap : List Cond := .code yX6_toldOfGap cX6_toldOfGap 5 (some .int) :: ((wsX6_toldOfGap_r1 ++ wsX6_toldOfGap_r2) ++ wsX60 ++ wsX00 ++ wsX40)
def wsX6_total : List Cond := .code yX6_total cX6_total 6 (some .int) :: ([.methodLink RX6 112 yX6_ofItem, .instanceMethod yX6_ofItem, .selects RX6 yX6_ofItem yX6_ofItem, .initialized RX6, .code yX6_ofItem cX6_ofItem 4 (some .int), .fieldLink RX6 25 "MeridianSeries$Series" "coarse" "LMeridianSeries$Buckets;", .fieldLink RX6 79 "MeridianSeries$Buckets" "amount" "I", .sameField "MeridianSeries$Buckets" "MeridianSeries$Items" "amount" "I", .fieldLink RX6 21 "MeridianSeries$Series" "fine" "LMeridianSeries$Buckets;", .fieldLink RX6 12 "MeridianSeries$Series" "points" "LMeridianSeries$Points;", .methodLink RX6 82 yX0_number, .instanceMethod yX0_number, .selects RX0 yX0_number yX0_number, .initialized RX0, .code yX0_number cX0_number 4 (some .int), .fieldLink RX0 11 "MeridianSeries$Buckets" "cells" "[I", .methodLink RX6 88 yX4_number, .instanceMethod yX4_number, .selects RX4 yX4_number yX4_number, .initialized RX4, .code yX4_number cX4_number 3 (some .int), .fieldLink RX4 11 "MeridianSeries$Points" "times" "[I", .fieldLink RX4 15 "MeridianSeries$Points" "values" "[I"] ++ wsX60 ++ wsX00 ++ wsX40)
def wsX6_least_r1 : List Cond := [Cond.methodLink RX6 138 Lib.Math.min.name, Cond.static Lib.Math.min.name, Cond.initialized "java/lang/Math", Cond.code Lib.Math.min.name Lib.Math.min.code 2 (some .int), Cond.methodLink RX6 112 yX6_ofItem, Cond.instanceMethod yX6_ofItem, Cond.selects RX6 yX6_ofItem yX6_ofItem, Cond.initialized RX6, Cond.code yX6_ofItem cX6_ofItem 4 (some .int), Cond.fieldLink RX6 25 "MeridianSeries$Series" "coarse" "LMeridianSeries$Buckets;", Cond.fieldLink RX6 79 "MeridianSeries$Buckets" "amount" "I", Cond.sameField "MeridianSeries$Buckets" "MeridianSeries$Items" "amount" "I", Cond.fieldLink RX6 21 "MeridianSeries$Series" "fine" "LMeridianSeries$Buckets;", Cond.fieldLink RX6 12 "MeridianSeries$Series" "points" "LMeridianSeries$Points;", Cond.methodLink RX6 82 yX0_number, Cond.instanceMethod yX0_number, Cond.selects RX0 yX0_number yX0_number, Cond.initialized RX0, Cond.code yX0_number cX0_number 4 (some .int), Cond.fieldLink RX0 11 "MeridianSeries$Buckets" "cells" "[I", Cond.methodLink RX6 88 yX4_number, Cond.instanceMethod yX4_number, Cond.selects RX4 yX4_number yX4_number, Cond.initialized RX4]
def wsX6_least_r2 : List Cond := [Cond.code yX4_number cX4_number 3 (some .int), Cond.fieldLink RX4 11 "MeridianSeries$Points" "times" "[I", Cond.fieldLink RX4 15 "MeridianSeries$Points" "values" "[I"]
def wsX6_least : List Cond := .code yX6_least cX6_least 5 (some .int) :: ((wsX6_least_r1 ++ wsX6_least_r2) ++ wsX60 ++ wsX00 ++ wsX40)
def wsX6_greatest_r1 : List Cond := [Cond.methodLink RX6 143 Lib.Math.max.name, Cond.static Lib.Math.max.name, Cond.initialized "java/lang/Math", Cond.code Lib.Math.max.name Lib.Math.max.code 2 (some .int), Cond.methodLink RX6 112 yX6_ofItem, Cond.instanceMethod yX6_ofItem, Cond.selects RX6 yX6_ofItem yX6_ofItem, Cond.initialized RX6, Cond.code yX6_ofItem cX6_ofItem 4 (some .int), Cond.fieldLink RX6 25 "MeridianSeries$Series" "coarse" "LMeridianSeries$Buckets;", Cond.fieldLink RX6 79 "MeridianSeries$Buckets" "amount" "I", Cond.sameField "MeridianSeries$Buckets" "MeridianSeries$Items" "amount" "I", Cond.fieldLink RX6 21 "MeridianSeries$Series" "fine" "LMeridianSeries$Buckets;", Cond.fieldLink RX6 12 "MeridianSeries$Series" "points" "LMeridianSeries$Points;", Cond.methodLink RX6 82 yX0_number, Cond.instanceMethod yX0_number, Cond.selects RX0 yX0_number yX0_number, Cond.initialized RX0, Cond.code yX0_number cX0_number 4 (some .int), Cond.fieldLink RX0 11 "MeridianSeries$Buckets" "cells" "[I", Cond.methodLink RX6 88 yX4_number, Cond.instanceMethod yX4_number, Cond.selects RX4 yX4_number yX4_number, Cond.initialized RX4]
def wsX6_greatest_r2 : List Cond := [Cond.code yX4_number cX4_number 3 (some .int), Cond.fieldLink RX4 11 "MeridianSeries$Points" "times" "[I", Cond.fieldLink RX4 15 "MeridianSeries$Points" "values" "[I"]
def wsX6_greatest : List Cond := .code yX6_greatest cX6_greatest 5 (some .int) :: ((wsX6_greatest_r1 ++ wsX6_greatest_r2) ++ wsX60 ++ wsX00 ++ wsX40)
def wsX6_quotient : List Cond := .code yX6_quotient cX6_quotient 2 (some .int) :: ([.constant RX6 134 (-1000000)])
def wsX6_tell_r1 : List Cond := [Cond.methodLink RX6 115 yX6_firstItemFrom, Cond.instanceMethod yX6_firstItemFrom, Cond.selects RX6 yX6_firstItemFrom yX6_firstItemFrom, Cond.initialized RX6, Cond.code yX6_firstItemFrom cX6_firstItemFrom 6 (some .int), Cond.methodLink RX6 109 yX6_itemCount, Cond.instanceMethod yX6_itemCount, Cond.selects RX6 yX6_itemCount yX6_itemCount, Cond.code yX6_itemCount cX6_itemCount 1 (some .int), Cond.fieldLink RX6 25 "MeridianSeries$Series" "coarse" "LMeridianSeries$Buckets;", Cond.fieldLink RX6 79 "MeridianSeries$Buckets" "amount" "I", Cond.sameField "MeridianSeries$Buckets" "MeridianSeries$Items" "amount" "I", Cond.fieldLink RX6 21 "MeridianSeries$Series" "fine" "LMeridianSeries$Buckets;", Cond.fieldLink RX6 12 "MeridianSeries$Series" "points" "LMeridianSeries$Points;", Cond.fieldLink RX6 108 "MeridianSeries$Points" "amount" "I", Cond.sameField "MeridianSeries$Points" "MeridianSeries$Items" "amount" "I", Cond.methodLink RX6 112 yX6_ofItem, Cond.instanceMethod yX6_ofItem, Cond.selects RX6 yX6_ofItem yX6_ofItem, Cond.code yX6_ofItem cX6_ofItem 4 (some .int), Cond.methodLink RX6 82 yX0_number, Cond.instanceMethod yX0_number, Cond.selects RX0 yX0_number yX0_number, Cond.initialized RX0]
def wsX6_tell_r2 : List Cond := [Cond.code yX0_number cX0_number 4 (some .int), Cond.fieldLink RX0 11 "MeridianSeries$Buckets" "cells" "[I", Cond.methodLink RX6 88 yX4_number, Cond.instanceMethod yX4_number, Cond.selects RX4 yX4_number yX4_number, Cond.initialized RX4, Cond.code yX4_number cX4_number 3 (some .int), Cond.fieldLink RX4 11 "MeridianSeries$Points" "times" "[I", Cond.fieldLink RX4 15 "MeridianSeries$Points" "values" "[I", Cond.methodLink RX6 118 yX6_toldOfGap, Cond.instanceMethod yX6_toldOfGap, Cond.selects RX6 yX6_toldOfGap yX6_toldOfGap, Cond.code yX6_toldOfGap cX6_toldOfGap 5 (some .int), Cond.constant RX6 134 (-1000000), Cond.methodLink RX6 135 yX6_onLine, Cond.instanceMethod yX6_onLine, Cond.selects RX6 yX6_onLine yX6_onLine, Cond.code yX6_onLine cX6_onLine 9 (some .int), Cond.methodLink RX6 122 yX6_total, Cond.instanceMethod yX6_total, Cond.selects RX6 yX6_total yX6_total, Cond.code yX6_total cX6_total 6 (some .int), Cond.methodLink RX6 125 yX6_least, Cond.instanceMethod yX6_least]
def wsX6_tell_r3 : List Cond := [Cond.selects RX6 yX6_least yX6_least, Cond.code yX6_least cX6_least 5 (some .int), Cond.methodLink RX6 138 Lib.Math.min.name, Cond.static Lib.Math.min.name, Cond.initialized "java/lang/Math", Cond.code Lib.Math.min.name Lib.Math.min.code 2 (some .int), Cond.methodLink RX6 128 yX6_greatest, Cond.instanceMethod yX6_greatest, Cond.selects RX6 yX6_greatest yX6_greatest, Cond.code yX6_greatest cX6_greatest 5 (some .int), Cond.methodLink RX6 143 Lib.Math.max.name, Cond.static Lib.Math.max.name, Cond.code Lib.Math.max.name Lib.Math.max.code 2 (some .int), Cond.methodLink RX6 131 yX6_quotient, Cond.static yX6_quotient, Cond.code yX6_quotient cX6_quotient 2 (some .int)]
def wsX6_tell : List Cond := .code yX6_tell cX6_tell 7 (some .int) :: ((wsX6_tell_r1 ++ (wsX6_tell_r2 ++ wsX6_tell_r3)) ++ wsX60 ++ wsX00 ++ wsX40)
def wsX5_told_r1 : List Cond := [Cond.fieldLink RX5 18 "MeridianSeries$Rule" "chain" "LMeridianSeries$Series;", Cond.fieldLink RX5 25 "MeridianSeries$Rule" "length" "I", Cond.fieldLink RX5 22 "MeridianSeries$Rule" "what" "I", Cond.methodLink RX5 41 yX6_tell, Cond.instanceMethod yX6_tell, Cond.selects RX6 yX6_tell yX6_tell, Cond.initialized RX6, Cond.code yX6_tell cX6_tell 7 (some .int), Cond.methodLink RX6 115 yX6_firstItemFrom, Cond.instanceMethod yX6_firstItemFrom, Cond.selects RX6 yX6_firstItemFrom yX6_firstItemFrom, Cond.code yX6_firstItemFrom cX6_firstItemFrom 6 (some .int), Cond.methodLink RX6 109 yX6_itemCount, Cond.instanceMethod yX6_itemCount, Cond.selects RX6 yX6_itemCount yX6_itemCount, Cond.code yX6_itemCount cX6_itemCount 1 (some .int), Cond.fieldLink RX6 25 "MeridianSeries$Series" "coarse" "LMeridianSeries$Buckets;", Cond.fieldLink RX6 79 "MeridianSeries$Buckets" "amount" "I", Cond.sameField "MeridianSeries$Buckets" "MeridianSeries$Items" "amount" "I", Cond.fieldLink RX6 21 "MeridianSeries$Series" "fine" "LMeridianSeries$Buckets;", Cond.fieldLink RX6 12 "MeridianSeries$Series" "points" "LMeridianSeries$Points;", Cond.fieldLink RX6 108 "MeridianSeries$Points" "amount" "I", Cond.sameField "MeridianSeries$Points" "MeridianSeries$Items" "amount" "I", Cond.methodLink RX6 112 yX6_ofItem]
def wsX5_told_r2 : List Cond := [Cond.instanceMethod yX6_ofItem, Cond.selects RX6 yX6_ofItem yX6_ofItem, Cond.code yX6_ofItem cX6_ofItem 4 (some .int), Cond.methodLink RX6 82 yX0_number, Cond.instanceMethod yX0_number, Cond.selects RX0 yX0_number yX0_number, Cond.initialized RX0, Cond.code yX0_number cX0_number 4 (some .int), Cond.fieldLink RX0 11 "MeridianSeries$Buckets" "cells" "[I", Cond.methodLink RX6 88 yX4_number, Cond.instanceMethod yX4_number, Cond.selects RX4 yX4_number yX4_number, Cond.initialized RX4, Cond.code yX4_number cX4_number 3 (some .int), Cond.fieldLink RX4 11 "MeridianSeries$Points" "times" "[I", Cond.fieldLink RX4 15 "MeridianSeries$Points" "values" "[I", Cond.methodLink RX6 118 yX6_toldOfGap, Cond.instanceMethod yX6_toldOfGap, Cond.selects RX6 yX6_toldOfGap yX6_toldOfGap, Cond.code yX6_toldOfGap cX6_toldOfGap 5 (some .int), Cond.constant RX6 134 (-1000000), Cond.methodLink RX6 135 yX6_onLine, Cond.instanceMethod yX6_onLine, Cond.selects RX6 yX6_onLine yX6_onLine]
def wsX5_told_r3 : List Cond := [Cond.code yX6_onLine cX6_onLine 9 (some .int), Cond.methodLink RX6 122 yX6_total, Cond.instanceMethod yX6_total, Cond.selects RX6 yX6_total yX6_total, Cond.code yX6_total cX6_total 6 (some .int), Cond.methodLink RX6 125 yX6_least, Cond.instanceMethod yX6_least, Cond.selects RX6 yX6_least yX6_least, Cond.code yX6_least cX6_least 5 (some .int), Cond.methodLink RX6 138 Lib.Math.min.name, Cond.static Lib.Math.min.name, Cond.initialized "java/lang/Math", Cond.code Lib.Math.min.name Lib.Math.min.code 2 (some .int), Cond.methodLink RX6 128 yX6_greatest, Cond.instanceMethod yX6_greatest, Cond.selects RX6 yX6_greatest yX6_greatest, Cond.code yX6_greatest cX6_greatest 5 (some .int), Cond.methodLink RX6 143 Lib.Math.max.name, Cond.static Lib.Math.max.name, Cond.code Lib.Math.max.name Lib.Math.max.code 2 (some .int), Cond.methodLink RX6 131 yX6_quotient, Cond.static yX6_quotient, Cond.code yX6_quotient cX6_quotient 2 (some .int)]
def wsX5_told : List Cond := .code yX5_told cX5_told 2 (some .int) :: ((wsX5_told_r1 ++ (wsX5_told_r2 ++ wsX5_told_r3)) ++ wsX50 ++ wsX60 ++ wsX00 ++ wsX40)
def wsX5_become : List Cond := .code yX5_become cX5_become 2 none :: ([.fieldLink RX5 9 "MeridianSeries$Rule" "state" "I", .fieldLink RX5 15 "MeridianSeries$Rule" "timesInRow" "I"] ++ wsX50)
def wsX5_ceases : List Cond := .code yX5_ceases cX5_ceases 2 (some .boolean) :: ([.fieldLink RX5 15 "MeridianSeries$Rule" "timesInRow" "I", .fieldLink RX5 38 "MeridianSeries$Rule" "times" "I", .methodLink RX5 55 yX5_become, .instanceMethod yX5_become, .selects RX5 yX5_become yX5_become, .initialized RX5, .code yX5_become cX5_become 2 none, .fieldLink RX5 9 "MeridianSeries$Rule" "state" "I"] ++ wsX50)
def wsX5_begins : List Cond := .code yX5_begins cX5_begins 2 (some .boolean) :: ([.fieldLink RX5 9 "MeridianSeries$Rule" "state" "I", .fieldLink RX5 15 "MeridianSeries$Rule" "timesInRow" "I", .fieldLink RX5 38 "MeridianSeries$Rule" "times" "I", .methodLink RX5 55 yX5_become, .instanceMethod yX5_become, .selects RX5 yX5_become yX5_become, .initialized RX5, .code yX5_become cX5_become 2 none] ++ wsX50)
def wsX5_changesBy : List Cond := .code yX5_changesBy cX5_changesBy 3 (some .boolean) :: ([.constant RX5 47 (-1000000), .fieldLink RX5 31 "MeridianSeries$Rule" "isAbove" "Z", .fieldLink RX5 35 "MeridianSeries$Rule" "limit" "I", .fieldLink RX5 9 "MeridianSeries$Rule" "state" "I", .methodLink RX5 48 yX5_ceases, .instanceMethod yX5_ceases, .selects RX5 yX5_ceases yX5_ceases, .initialized RX5, .code yX5_ceases cX5_ceases 2 (some .boolean), .fieldLink RX5 15 "MeridianSeries$Rule" "timesInRow" "I", .fieldLink RX5 38 "MeridianSeries$Rule" "times" "I", .methodLink RX5 55 yX5_become, .instanceMethod yX5_become, .selects RX5 yX5_become yX5_become, .code yX5_become cX5_become 2 none, .methodLink RX5 52 yX5_begins, .instanceMethod yX5_begins, .selects RX5 yX5_begins yX5_begins, .code yX5_begins cX5_begins 2 (some .boolean)] ++ wsX50)
def wsX5_copyFrom : List Cond := .code yX5_copyFrom cX5_copyFrom 2 none :: ([.fieldLink RX5 9 "MeridianSeries$Rule" "state" "I", .fieldLink RX5 15 "MeridianSeries$Rule" "timesInRow" "I"] ++ wsX50)
def wsX6_init_r1 : List Cond := [Cond.methodLink RX6 3 objectInit, Cond.instanceMethod objectInit, Cond.code objectInit ⟨#[0xb1]⟩ 1 none, Cond.classLink RX6 9 RX4, Cond.instantiable RX4 7, Cond.initialized RX4, Cond.fieldLink RX6 12 "MeridianSeries$Series" "points" "LMeridianSeries$Points;", Cond.classLink RX6 18 RX0, Cond.instantiable RX0 2, Cond.initialized RX0, Cond.fieldLink RX6 21 "MeridianSeries$Series" "fine" "LMeridianSeries$Buckets;", Cond.fieldLink RX6 25 "MeridianSeries$Series" "coarse" "LMeridianSeries$Buckets;", Cond.fieldLink RX6 28 "MeridianSeries$Series" "one" "I", Cond.fieldLink RX6 32 "MeridianSeries$Series" "other" "I", Cond.instanceMethod yX4_init, Cond.code yX4_init cX4_init 1 none, Cond.arrayClass .int, Cond.fieldLink RX4 11 "MeridianSeries$Points" "times" "[I", Cond.fieldLink RX4 15 "MeridianSeries$Points" "values" "[I", Cond.fieldLink RX4 18 "MeridianSeries$Points" "sizes" "[I", Cond.fieldLink RX4 21 "MeridianSeries$Points" "sealedBlocks" "I", Cond.fieldLink RX4 25 "MeridianSeries$Points" "sealedPoints" "I", Cond.fieldLink RX4 28 "MeridianSeries$Points" "greatestSealedTime" "I", Cond.instanceMethod yX2_init]
def wsX6_init_r2 : List Cond := [Cond.initialized RX2, Cond.code yX2_init cX2_init 1 none, Cond.methodLink RX2 1 objectInit, Cond.fieldLink RX2 7 "MeridianSeries$Items" "amount" "I", Cond.instanceMethod yX0_init, Cond.code yX0_init cX0_init 1 none, Cond.fieldLink RX0 11 "MeridianSeries$Buckets" "cells" "[I"]
def wsX6_init : List Cond := .code yX6_init cX6_init 3 none :: ((wsX6_init_r1 ++ wsX6_init_r2) ++ wsX40 ++ wsX60 ++ wsX00)
def wsX6_hasLabel : List Cond := .code yX6_hasLabel cX6_hasLabel 3 (some .boolean) :: ([.fieldLink RX6 32 "MeridianSeries$Series" "other" "I", .fieldLink RX6 28 "MeridianSeries$Series" "one" "I"] ++ wsX60)
def wsX6_bucketsOf : List Cond := .code yX6_bucketsOf cX6_bucketsOf 2 (some (.object "MeridianSeries$Buckets")) :: ([.fieldLink RX6 25 "MeridianSeries$Series" "coarse" "LMeridianSeries$Buckets;", .fieldLink RX6 21 "MeridianSeries$Series" "fine" "LMeridianSeries$Buckets;"] ++ wsX60)
def wsX6_startFor : List Cond := .code yX6_startFor cX6_startFor 2 (some .int) :: ([])
def wsX6_rollUpFirstFine_r1 : List Cond := [Cond.fieldLink RX6 21 "MeridianSeries$Series" "fine" "LMeridianSeries$Buckets;", Cond.fieldLink RX6 69 "MeridianSeries$Settings" "width" "I", Cond.fieldLink RX6 102 "MeridianSeries$Settings" "fold" "I", Cond.fieldLink RX6 25 "MeridianSeries$Series" "coarse" "LMeridianSeries$Buckets;", Cond.methodLink RX6 82 yX0_number, Cond.instanceMethod yX0_number, Cond.selects RX0 yX0_number yX0_number, Cond.initialized RX0, Cond.code yX0_number cX0_number 4 (some .int), Cond.fieldLink RX0 11 "MeridianSeries$Buckets" "cells" "[I", Cond.methodLink RX6 89 yX6_startFor, Cond.static yX6_startFor, Cond.initialized RX6, Cond.code yX6_startFor cX6_startFor 2 (some .int), Cond.methodLink RX6 92 yX0_take, Cond.instanceMethod yX0_take, Cond.selects RX0 yX0_take yX0_take, Cond.code yX0_take cX0_take 6 none, Cond.fieldLink RX0 15 "MeridianSeries$Buckets" "amount" "I", Cond.sameField "MeridianSeries$Buckets" "MeridianSeries$Items" "amount" "I", Cond.methodLink RX0 28 Lib.Math.min.name, Cond.static Lib.Math.min.name, Cond.initialized "java/lang/Math", Cond.code Lib.Math.min.name Lib.Math.min.code 2 (some .int)]
def wsX6_rollUpFirstFine_r2 : List Cond := [Cond.methodLink RX0 33 Lib.Math.max.name, Cond.static Lib.Math.max.name, Cond.code Lib.Math.max.name Lib.Math.max.code 2 (some .int), Cond.methodLink RX0 19 yX0_number, Cond.methodLink RX0 23 ⟨"MeridianSeries$Items", "number", "(II)I"⟩, Cond.sameMethod "MeridianSeries$Items" "MeridianSeries$Items" "number" "(II)I", Cond.selects RX0 ⟨"MeridianSeries$Items", "number", "(II)I"⟩ yX0_number, Cond.selects RX4 ⟨"MeridianSeries$Items", "number", "(II)I"⟩ yX4_number, Cond.instanceMethod yX4_number, Cond.initialized RX4, Cond.code yX4_number cX4_number 3 (some .int), Cond.fieldLink RX4 11 "MeridianSeries$Points" "times" "[I", Cond.fieldLink RX4 15 "MeridianSeries$Points" "values" "[I", Cond.methodLink RX0 24 yX0_write, Cond.instanceMethod yX0_write, Cond.selects RX0 yX0_write yX0_write, Cond.code yX0_write cX0_write 5 none, Cond.methodLink RX6 105 yX0_dropFirst, Cond.instanceMethod yX0_dropFirst, Cond.selects RX0 yX0_dropFirst yX0_dropFirst, Cond.code yX0_dropFirst cX0_dropFirst 2 none, Cond.methodLink RX6 96 yX0_isFull, Cond.instanceMethod yX0_isFull, Cond.selects RX0 yX0_isFull yX0_isFull]
def wsX6_rollUpFirstFine_r3 : List Cond := [Cond.code yX0_isFull cX0_isFull 1 (some .boolean)]
def wsX6_rollUpFirstFine : List Cond := .code yX6_rollUpFirstFine cX6_rollUpFirstFine 3 none :: ((wsX6_rollUpFirstFine_r1 ++ (wsX6_rollUpFirstFine_r2 ++ wsX6_rollUpFirstFine_r3)) ++ wsX60 ++ wsX70 ++ wsX00 ++ wsX40)
def wsX6_rollUpFirstBlock_r1 : List Cond := [Cond.fieldLink RX6 12 "MeridianSeries$Series" "points" "LMeridianSeries$Points;", Cond.fieldLink RX6 21 "MeridianSeries$Series" "fine" "LMeridianSeries$Buckets;", Cond.fieldLink RX6 69 "MeridianSeries$Settings" "width" "I", Cond.methodLink RX6 85 yX4_sizeOf, Cond.instanceMethod yX4_sizeOf, Cond.selects RX4 yX4_sizeOf yX4_sizeOf, Cond.initialized RX4, Cond.code yX4_sizeOf cX4_sizeOf 2 (some .int), Cond.fieldLink RX4 21 "MeridianSeries$Points" "sealedBlocks" "I", Cond.fieldLink RX4 18 "MeridianSeries$Points" "sizes" "[I", Cond.methodLink RX4 34 yX4_openSize, Cond.instanceMethod yX4_openSize, Cond.selects RX4 yX4_openSize yX4_openSize, Cond.code yX4_openSize cX4_openSize 1 (some .int), Cond.fieldLink RX4 31 "MeridianSeries$Points" "amount" "I", Cond.sameField "MeridianSeries$Points" "MeridianSeries$Items" "amount" "I", Cond.fieldLink RX4 25 "MeridianSeries$Points" "sealedPoints" "I", Cond.methodLink RX6 88 yX4_number, Cond.instanceMethod yX4_number, Cond.selects RX4 yX4_number yX4_number, Cond.code yX4_number cX4_number 3 (some .int), Cond.fieldLink RX4 11 "MeridianSeries$Points" "times" "[I", Cond.fieldLink RX4 15 "MeridianSeries$Points" "values" "[I", Cond.methodLink RX6 89 yX6_startFor]
def wsX6_rollUpFirstBlock_r2 : List Cond := [Cond.static yX6_startFor, Cond.initialized RX6, Cond.code yX6_startFor cX6_startFor 2 (some .int), Cond.methodLink RX6 92 yX0_take, Cond.instanceMethod yX0_take, Cond.selects RX0 yX0_take yX0_take, Cond.initialized RX0, Cond.code yX0_take cX0_take 6 none, Cond.fieldLink RX0 15 "MeridianSeries$Buckets" "amount" "I", Cond.sameField "MeridianSeries$Buckets" "MeridianSeries$Items" "amount" "I", Cond.methodLink RX0 28 Lib.Math.min.name, Cond.static Lib.Math.min.name, Cond.initialized "java/lang/Math", Cond.code Lib.Math.min.name Lib.Math.min.code 2 (some .int), Cond.methodLink RX0 33 Lib.Math.max.name, Cond.static Lib.Math.max.name, Cond.code Lib.Math.max.name Lib.Math.max.code 2 (some .int), Cond.methodLink RX0 19 yX0_number, Cond.instanceMethod yX0_number, Cond.selects RX0 yX0_number yX0_number, Cond.code yX0_number cX0_number 4 (some .int), Cond.fieldLink RX0 11 "MeridianSeries$Buckets" "cells" "[I", Cond.methodLink RX0 23 ⟨"MeridianSeries$Items", "number", "(II)I"⟩, Cond.sameMethod "MeridianSeries$Items" "MeridianSeries$Items" "number" "(II)I"]
def wsX6_rollUpFirstBlock_r3 : List Cond := [Cond.selects RX0 ⟨"MeridianSeries$Items", "number", "(II)I"⟩ yX0_number, Cond.selects RX4 ⟨"MeridianSeries$Items", "number", "(II)I"⟩ yX4_number, Cond.methodLink RX0 24 yX0_write, Cond.instanceMethod yX0_write, Cond.selects RX0 yX0_write yX0_write, Cond.code yX0_write cX0_write 5 none, Cond.methodLink RX6 96 yX0_isFull, Cond.instanceMethod yX0_isFull, Cond.selects RX0 yX0_isFull yX0_isFull, Cond.code yX0_isFull cX0_isFull 1 (some .boolean), Cond.methodLink RX6 76 yX6_rollUpFirstFine, Cond.instanceMethod yX6_rollUpFirstFine, Cond.selects RX6 yX6_rollUpFirstFine yX6_rollUpFirstFine, Cond.code yX6_rollUpFirstFine cX6_rollUpFirstFine 3 none, Cond.fieldLink RX6 102 "MeridianSeries$Settings" "fold" "I", Cond.fieldLink RX6 25 "MeridianSeries$Series" "coarse" "LMeridianSeries$Buckets;", Cond.methodLink RX6 82 yX0_number, Cond.methodLink RX6 105 yX0_dropFirst, Cond.instanceMethod yX0_dropFirst, Cond.selects RX0 yX0_dropFirst yX0_dropFirst, Cond.code yX0_dropFirst cX0_dropFirst 2 none, Cond.methodLink RX6 99 yX4_dropFirstBlock, Cond.instanceMethod yX4_dropFirstBlock, Cond.selects RX4 yX4_dropFirstBlock yX4_dropFirstBlock]
def wsX6_rollUpFirstBlock_r4 : List Cond := [Cond.code yX4_dropFirstBlock cX4_dropFirstBlock 3 none, Cond.methodLink RX4 38 yX4_sizeOf, Cond.methodLink RX4 53 yX4_copyPoint, Cond.instanceMethod yX4_copyPoint, Cond.selects RX4 yX4_copyPoint yX4_copyPoint, Cond.code yX4_copyPoint cX4_copyPoint 3 none, Cond.methodLink RX4 42 yX4_number, Cond.methodLink RX4 57 yX4_write, Cond.instanceMethod yX4_write, Cond.selects RX4 yX4_write yX4_write, Cond.code yX4_write cX4_write 4 none]
def wsX6_rollUpFirstBlock : List Cond := .code yX6_rollUpFirstBlock cX6_rollUpFirstBlock 4 none :: ((wsX6_rollUpFirstBlock_r1 ++ (wsX6_rollUpFirstBlock_r2 ++ (wsX6_rollUpFirstBlock_r3 ++ wsX6_rollUpFirstBlock_r4))) ++ wsX60 ++ wsX70 ++ wsX40 ++ wsX00)
def wsX6_take_r1 : List Cond := [Cond.fieldLink RX6 12 "MeridianSeries$Series" "points" "LMeridianSeries$Points;", Cond.fieldLink RX6 43 "MeridianSeries$Settings" "span" "I", Cond.methodLink RX6 35 yX4_add, Cond.instanceMethod yX4_add, Cond.selects RX4 yX4_add yX4_add, Cond.initialized RX4, Cond.code yX4_add cX4_add 5 none, Cond.fieldLink RX4 31 "MeridianSeries$Points" "amount" "I", Cond.sameField "MeridianSeries$Points" "MeridianSeries$Items" "amount" "I", Cond.methodLink RX4 46 yX4_placeOf, Cond.instanceMethod yX4_placeOf, Cond.selects RX4 yX4_placeOf yX4_placeOf, Cond.code yX4_placeOf cX4_placeOf 3 (some .int), Cond.fieldLink RX4 25 "MeridianSeries$Points" "sealedPoints" "I", Cond.methodLink RX4 42 yX4_number, Cond.instanceMethod yX4_number, Cond.selects RX4 yX4_number yX4_number, Cond.code yX4_number cX4_number 3 (some .int), Cond.fieldLink RX4 11 "MeridianSeries$Points" "times" "[I", Cond.fieldLink RX4 15 "MeridianSeries$Points" "values" "[I", Cond.methodLink RX4 49 yX4_isTakenAt, Cond.instanceMethod yX4_isTakenAt, Cond.selects RX4 yX4_isTakenAt yX4_isTakenAt, Cond.code yX4_isTakenAt cX4_isTakenAt 3 (some .boolean)]
def wsX6_take_r2 : List Cond := [Cond.methodLink RX4 53 yX4_copyPoint, Cond.instanceMethod yX4_copyPoint, Cond.selects RX4 yX4_copyPoint yX4_copyPoint, Cond.code yX4_copyPoint cX4_copyPoint 3 none, Cond.methodLink RX4 57 yX4_write, Cond.instanceMethod yX4_write, Cond.selects RX4 yX4_write yX4_write, Cond.code yX4_write cX4_write 4 none, Cond.methodLink RX6 39 yX4_openSize, Cond.instanceMethod yX4_openSize, Cond.selects RX4 yX4_openSize yX4_openSize, Cond.code yX4_openSize cX4_openSize 1 (some .int), Cond.methodLink RX6 48 yX4_seal, Cond.instanceMethod yX4_seal, Cond.selects RX4 yX4_seal yX4_seal, Cond.code yX4_seal cX4_seal 1 none, Cond.fieldLink RX4 21 "MeridianSeries$Points" "sealedBlocks" "I", Cond.fieldLink RX4 18 "MeridianSeries$Points" "sizes" "[I", Cond.fieldLink RX4 28 "MeridianSeries$Points" "greatestSealedTime" "I", Cond.methodLink RX4 34 yX4_openSize, Cond.methodLink RX6 51 yX4_hasTooManySealed, Cond.instanceMethod yX4_hasTooManySealed, Cond.selects RX4 yX4_hasTooManySealed yX4_hasTooManySealed, Cond.code yX4_hasTooManySealed cX4_hasTooManySealed 1 (some .boolean)]
def wsX6_take_r3 : List Cond := [Cond.methodLink RX6 55 yX6_rollUpFirstBlock, Cond.instanceMethod yX6_rollUpFirstBlock, Cond.selects RX6 yX6_rollUpFirstBlock yX6_rollUpFirstBlock, Cond.initialized RX6, Cond.code yX6_rollUpFirstBlock cX6_rollUpFirstBlock 4 none, Cond.fieldLink RX6 21 "MeridianSeries$Series" "fine" "LMeridianSeries$Buckets;", Cond.fieldLink RX6 69 "MeridianSeries$Settings" "width" "I", Cond.methodLink RX6 85 yX4_sizeOf, Cond.instanceMethod yX4_sizeOf, Cond.selects RX4 yX4_sizeOf yX4_sizeOf, Cond.code yX4_sizeOf cX4_sizeOf 2 (some .int), Cond.methodLink RX6 88 yX4_number, Cond.methodLink RX6 89 yX6_startFor, Cond.static yX6_startFor, Cond.code yX6_startFor cX6_startFor 2 (some .int), Cond.methodLink RX6 92 yX0_take, Cond.instanceMethod yX0_take, Cond.selects RX0 yX0_take yX0_take, Cond.initialized RX0, Cond.code yX0_take cX0_take 6 none, Cond.fieldLink RX0 15 "MeridianSeries$Buckets" "amount" "I", Cond.sameField "MeridianSeries$Buckets" "MeridianSeries$Items" "amount" "I", Cond.methodLink RX0 28 Lib.Math.min.name, Cond.static Lib.Math.min.name]
def wsX6_take_r4 : List Cond := [Cond.initialized "java/lang/Math", Cond.code Lib.Math.min.name Lib.Math.min.code 2 (some .int), Cond.methodLink RX0 33 Lib.Math.max.name, Cond.static Lib.Math.max.name, Cond.code Lib.Math.max.name Lib.Math.max.code 2 (some .int), Cond.methodLink RX0 19 yX0_number, Cond.instanceMethod yX0_number, Cond.selects RX0 yX0_number yX0_number, Cond.code yX0_number cX0_number 4 (some .int), Cond.fieldLink RX0 11 "MeridianSeries$Buckets" "cells" "[I", Cond.methodLink RX0 23 ⟨"MeridianSeries$Items", "number", "(II)I"⟩, Cond.sameMethod "MeridianSeries$Items" "MeridianSeries$Items" "number" "(II)I", Cond.selects RX0 ⟨"MeridianSeries$Items", "number", "(II)I"⟩ yX0_number, Cond.selects RX4 ⟨"MeridianSeries$Items", "number", "(II)I"⟩ yX4_number, Cond.methodLink RX0 24 yX0_write, Cond.instanceMethod yX0_write, Cond.selects RX0 yX0_write yX0_write, Cond.code yX0_write cX0_write 5 none, Cond.methodLink RX6 96 yX0_isFull, Cond.instanceMethod yX0_isFull, Cond.selects RX0 yX0_isFull yX0_isFull, Cond.code yX0_isFull cX0_isFull 1 (some .boolean), Cond.methodLink RX6 76 yX6_rollUpFirstFine, Cond.instanceMethod yX6_rollUpFirstFine]
def wsX6_take_r5 : List Cond := [Cond.selects RX6 yX6_rollUpFirstFine yX6_rollUpFirstFine, Cond.code yX6_rollUpFirstFine cX6_rollUpFirstFine 3 none, Cond.fieldLink RX6 102 "MeridianSeries$Settings" "fold" "I", Cond.fieldLink RX6 25 "MeridianSeries$Series" "coarse" "LMeridianSeries$Buckets;", Cond.methodLink RX6 82 yX0_number, Cond.methodLink RX6 105 yX0_dropFirst, Cond.instanceMethod yX0_dropFirst, Cond.selects RX0 yX0_dropFirst yX0_dropFirst, Cond.code yX0_dropFirst cX0_dropFirst 2 none, Cond.methodLink RX6 99 yX4_dropFirstBlock, Cond.instanceMethod yX4_dropFirstBlock, Cond.selects RX4 yX4_dropFirstBlock yX4_dropFirstBlock, Cond.code yX4_dropFirstBlock cX4_dropFirstBlock 3 none, Cond.methodLink RX4 38 yX4_sizeOf]
def wsX6_take : List Cond := .code yX6_take cX6_take 4 none :: ((wsX6_take_r1 ++ (wsX6_take_r2 ++ (wsX6_take_r3 ++ (wsX6_take_r4 ++ wsX6_take_r5)))) ++ wsX60 ++ wsX70 ++ wsX00 ++ wsX40)
def wsX6_fineEndingBy : List Cond := .code yX6_fineEndingBy cX6_fineEndingBy 4 (some .int) :: ([.fieldLink RX6 21 "MeridianSeries$Series" "fine" "LMeridianSeries$Buckets;", .fieldLink RX6 79 "MeridianSeries$Buckets" "amount" "I", .sameField "MeridianSeries$Buckets" "MeridianSeries$Items" "amount" "I", .methodLink RX6 82 yX0_number, .instanceMethod yX0_number, .selects RX0 yX0_number yX0_number, .initialized RX0, .code yX0_number cX0_number 4 (some .int), .fieldLink RX0 11 "MeridianSeries$Buckets" "cells" "[I"] ++ wsX60 ++ wsX00 ++ wsX40)
def wsX6_rollUpBy_r1 : List Cond := [Cond.fieldLink RX6 59 "MeridianSeries$Settings" "keep" "I", Cond.fieldLink RX6 12 "MeridianSeries$Series" "points" "LMeridianSeries$Points;", Cond.fieldLink RX6 66 "MeridianSeries$Settings" "longKeep" "I", Cond.fieldLink RX6 69 "MeridianSeries$Settings" "width" "I", Cond.methodLink RX6 62 yX4_blocksBelow, Cond.instanceMethod yX4_blocksBelow, Cond.selects RX4 yX4_blocksBelow yX4_blocksBelow, Cond.initialized RX4, Cond.code yX4_blocksBelow cX4_blocksBelow 4 (some .int), Cond.fieldLink RX4 21 "MeridianSeries$Points" "sealedBlocks" "I", Cond.methodLink RX4 38 yX4_sizeOf, Cond.instanceMethod yX4_sizeOf, Cond.selects RX4 yX4_sizeOf yX4_sizeOf, Cond.code yX4_sizeOf cX4_sizeOf 2 (some .int), Cond.fieldLink RX4 18 "MeridianSeries$Points" "sizes" "[I", Cond.methodLink RX4 34 yX4_openSize, Cond.instanceMethod yX4_openSize, Cond.selects RX4 yX4_openSize yX4_openSize, Cond.code yX4_openSize cX4_openSize 1 (some .int), Cond.fieldLink RX4 31 "MeridianSeries$Points" "amount" "I", Cond.sameField "MeridianSeries$Points" "MeridianSeries$Items" "amount" "I", Cond.fieldLink RX4 25 "MeridianSeries$Points" "sealedPoints" "I", Cond.methodLink RX4 42 yX4_number, Cond.instanceMethod yX4_number]
def wsX6_rollUpBy_r2 : List Cond := [Cond.selects RX4 yX4_number yX4_number, Cond.code yX4_number cX4_number 3 (some .int), Cond.fieldLink RX4 11 "MeridianSeries$Points" "times" "[I", Cond.fieldLink RX4 15 "MeridianSeries$Points" "values" "[I", Cond.methodLink RX6 55 yX6_rollUpFirstBlock, Cond.instanceMethod yX6_rollUpFirstBlock, Cond.selects RX6 yX6_rollUpFirstBlock yX6_rollUpFirstBlock, Cond.initialized RX6, Cond.code yX6_rollUpFirstBlock cX6_rollUpFirstBlock 4 none, Cond.fieldLink RX6 21 "MeridianSeries$Series" "fine" "LMeridianSeries$Buckets;", Cond.methodLink RX6 85 yX4_sizeOf, Cond.methodLink RX6 88 yX4_number, Cond.methodLink RX6 89 yX6_startFor, Cond.static yX6_startFor, Cond.code yX6_startFor cX6_startFor 2 (some .int), Cond.methodLink RX6 92 yX0_take, Cond.instanceMethod yX0_take, Cond.selects RX0 yX0_take yX0_take, Cond.initialized RX0, Cond.code yX0_take cX0_take 6 none, Cond.fieldLink RX0 15 "MeridianSeries$Buckets" "amount" "I", Cond.sameField "MeridianSeries$Buckets" "MeridianSeries$Items" "amount" "I", Cond.methodLink RX0 28 Lib.Math.min.name, Cond.static Lib.Math.min.name]
def wsX6_rollUpBy_r3 : List Cond := [Cond.initialized "java/lang/Math", Cond.code Lib.Math.min.name Lib.Math.min.code 2 (some .int), Cond.methodLink RX0 33 Lib.Math.max.name, Cond.static Lib.Math.max.name, Cond.code Lib.Math.max.name Lib.Math.max.code 2 (some .int), Cond.methodLink RX0 19 yX0_number, Cond.instanceMethod yX0_number, Cond.selects RX0 yX0_number yX0_number, Cond.code yX0_number cX0_number 4 (some .int), Cond.fieldLink RX0 11 "MeridianSeries$Buckets" "cells" "[I", Cond.methodLink RX0 23 ⟨"MeridianSeries$Items", "number", "(II)I"⟩, Cond.sameMethod "MeridianSeries$Items" "MeridianSeries$Items" "number" "(II)I", Cond.selects RX0 ⟨"MeridianSeries$Items", "number", "(II)I"⟩ yX0_number, Cond.selects RX4 ⟨"MeridianSeries$Items", "number", "(II)I"⟩ yX4_number, Cond.methodLink RX0 24 yX0_write, Cond.instanceMethod yX0_write, Cond.selects RX0 yX0_write yX0_write, Cond.code yX0_write cX0_write 5 none, Cond.methodLink RX6 96 yX0_isFull, Cond.instanceMethod yX0_isFull, Cond.selects RX0 yX0_isFull yX0_isFull, Cond.code yX0_isFull cX0_isFull 1 (some .boolean), Cond.methodLink RX6 76 yX6_rollUpFirstFine, Cond.instanceMethod yX6_rollUpFirstFine]
def wsX6_rollUpBy_r4 : List Cond := [Cond.selects RX6 yX6_rollUpFirstFine yX6_rollUpFirstFine, Cond.code yX6_rollUpFirstFine cX6_rollUpFirstFine 3 none, Cond.fieldLink RX6 102 "MeridianSeries$Settings" "fold" "I", Cond.fieldLink RX6 25 "MeridianSeries$Series" "coarse" "LMeridianSeries$Buckets;", Cond.methodLink RX6 82 yX0_number, Cond.methodLink RX6 105 yX0_dropFirst, Cond.instanceMethod yX0_dropFirst, Cond.selects RX0 yX0_dropFirst yX0_dropFirst, Cond.code yX0_dropFirst cX0_dropFirst 2 none, Cond.methodLink RX6 99 yX4_dropFirstBlock, Cond.instanceMethod yX4_dropFirstBlock, Cond.selects RX4 yX4_dropFirstBlock yX4_dropFirstBlock, Cond.code yX4_dropFirstBlock cX4_dropFirstBlock 3 none, Cond.methodLink RX4 53 yX4_copyPoint, Cond.instanceMethod yX4_copyPoint, Cond.selects RX4 yX4_copyPoint yX4_copyPoint, Cond.code yX4_copyPoint cX4_copyPoint 3 none, Cond.methodLink RX4 57 yX4_write, Cond.instanceMethod yX4_write, Cond.selects RX4 yX4_write yX4_write, Cond.code yX4_write cX4_write 4 none, Cond.methodLink RX6 72 yX6_fineEndingBy, Cond.instanceMethod yX6_fineEndingBy, Cond.selects RX6 yX6_fineEndingBy yX6_fineEndingBy]
def wsX6_rollUpBy_r5 : List Cond := [Cond.code yX6_fineEndingBy cX6_fineEndingBy 4 (some .int), Cond.fieldLink RX6 79 "MeridianSeries$Buckets" "amount" "I"]
def wsX6_rollUpBy : List Cond := .code yX6_rollUpBy cX6_rollUpBy 7 none :: ((wsX6_rollUpBy_r1 ++ (wsX6_rollUpBy_r2 ++ (wsX6_rollUpBy_r3 ++ (wsX6_rollUpBy_r4 ++ wsX6_rollUpBy_r5)))) ++ wsX70 ++ wsX60 ++ wsX40 ++ wsX00)
def wsX6_copyFrom_r1 : List Cond := [Cond.fieldLink RX6 12 "MeridianSeries$Series" "points" "LMeridianSeries$Points;", Cond.fieldLink RX6 21 "MeridianSeries$Series" "fine" "LMeridianSeries$Buckets;", Cond.fieldLink RX6 25 "MeridianSeries$Series" "coarse" "LMeridianSeries$Buckets;", Cond.methodLink RX6 146 yX4_copyFrom, Cond.instanceMethod yX4_copyFrom, Cond.selects RX4 yX4_copyFrom yX4_copyFrom, Cond.initialized RX4, Cond.code yX4_copyFrom cX4_copyFrom 3 none, Cond.fieldLink RX4 31 "MeridianSeries$Points" "amount" "I", Cond.sameField "MeridianSeries$Points" "MeridianSeries$Items" "amount" "I", Cond.fieldLink RX4 21 "MeridianSeries$Points" "sealedBlocks" "I", Cond.fieldLink RX4 18 "MeridianSeries$Points" "sizes" "[I", Cond.fieldLink RX4 25 "MeridianSeries$Points" "sealedPoints" "I", Cond.fieldLink RX4 28 "MeridianSeries$Points" "greatestSealedTime" "I", Cond.methodLink RX4 42 yX4_number, Cond.instanceMethod yX4_number, Cond.selects RX4 yX4_number yX4_number, Cond.code yX4_number cX4_number 3 (some .int), Cond.fieldLink RX4 11 "MeridianSeries$Points" "times" "[I", Cond.fieldLink RX4 15 "MeridianSeries$Points" "values" "[I", Cond.methodLink RX4 57 yX4_write, Cond.instanceMethod yX4_write, Cond.selects RX4 yX4_write yX4_write, Cond.code yX4_write cX4_write 4 none]
def wsX6_copyFrom_r2 : List Cond := [Cond.methodLink RX4 38 yX4_sizeOf, Cond.instanceMethod yX4_sizeOf, Cond.selects RX4 yX4_sizeOf yX4_sizeOf, Cond.code yX4_sizeOf cX4_sizeOf 2 (some .int), Cond.methodLink RX4 34 yX4_openSize, Cond.instanceMethod yX4_openSize, Cond.selects RX4 yX4_openSize yX4_openSize, Cond.code yX4_openSize cX4_openSize 1 (some .int), Cond.methodLink RX6 150 yX0_copyFrom, Cond.instanceMethod yX0_copyFrom, Cond.selects RX0 yX0_copyFrom yX0_copyFrom, Cond.initialized RX0, Cond.code yX0_copyFrom cX0_copyFrom 4 none, Cond.fieldLink RX0 15 "MeridianSeries$Buckets" "amount" "I", Cond.sameField "MeridianSeries$Buckets" "MeridianSeries$Items" "amount" "I", Cond.methodLink RX0 19 yX0_number, Cond.instanceMethod yX0_number, Cond.selects RX0 yX0_number yX0_number, Cond.code yX0_number cX0_number 4 (some .int), Cond.fieldLink RX0 11 "MeridianSeries$Buckets" "cells" "[I", Cond.methodLink RX0 24 yX0_write, Cond.instanceMethod yX0_write, Cond.selects RX0 yX0_write yX0_write, Cond.code yX0_write cX0_write 5 none]
def wsX6_copyFrom : List Cond := .code yX6_copyFrom cX6_copyFrom 2 none :: ((wsX6_copyFrom_r1 ++ wsX6_copyFrom_r2) ++ wsX60 ++ wsX00 ++ wsX40)
def wsX7_init : List Cond := .code yX7_init cX7_init 1 none :: ([.methodLink RX7 1 objectInit, .instanceMethod objectInit, .code objectInit ⟨#[0xb1]⟩ 1 none, .fieldLink RX7 7 "MeridianSeries$Settings" "span" "I", .fieldLink RX7 13 "MeridianSeries$Settings" "width" "I", .fieldLink RX7 16 "MeridianSeries$Settings" "fold" "I", .fieldLink RX7 19 "MeridianSeries$Settings" "keep" "I", .fieldLink RX7 22 "MeridianSeries$Settings" "longKeep" "I"] ++ wsX70)
set_option maxRecDepth 20000 in
set_option maxRecDepth 20000 in
theorem ggX0_init_X2_init : GoodIn wsX0_init wsX2_init := goodIn_r _ [5, 6, 7, 8, 9, 10, 11, 12, 13, 14, 15, 16, 17, 18] (by decide +kernel) (by decide +kernel)
set_option maxRecDepth 20000 in
theorem gX0_init_X2_init_n3 : GoodIn wsX0_init (wsX2_init) := ggX0_init_X2_init
theorem dX0_init_0 : decode cX0_init 0 = .ok (.aload_n 0, 1) := by decide +kernel
theorem dX0_init_1 : decode cX0_init 1 = .ok (.invokespecial 3, 3) := by decide +kernel
theorem dX0_init_4 : decode cX0_init 4 = .ok (.aload_n 0, 1) := by decide +kernel
theorem dX0_init_5 : decode cX0_init 5 = .ok (.sipush 175, 3) := by decide +kernel
theorem dX0_init_8 : decode cX0_init 8 = .ok (.newarray .int, 2) := by decide +kernel
theorem dX0_init_10 : decode cX0_init 10 = .ok (.putfield 11, 3) := by decide +kernel
theorem dX0_init_13 : decode cX0_init 13 = .ok (.return_, 1) := by decide +kernel
theorem dX0_number_0 : decode cX0_number 0 = .ok (.iload_n 1, 1) := by decide +kernel
theorem dX0_number_1 : decode cX0_number 1 = .ok (.bipush 7, 2) := by decide +kernel
theorem dX0_number_3 : decode cX0_number 3 = .ok (.imul, 1) := by decide +kernel
theorem dX0_number_4 : decode cX0_number 4 = .ok (.iload_n 2, 1) := by decide +kernel
theorem dX0_number_5 : decode cX0_number 5 = .ok (.iadd, 1) := by decide +kernel
theorem dX0_number_6 : decode cX0_number 6 = .ok (.istore_n 3, 1) := by decide +kernel
theorem dX0_number_7 : decode cX0_number 7 = .ok (.iload_n 3, 1) := by decide +kernel
theorem dX0_number_8 : decode cX0_number 8 = .ok (.ifCond .lt 21, 3) := by decide +kernel
theorem dX0_number_11 : decode cX0_number 11 = .ok (.iload_n 3, 1) := by decide +kernel
theorem dX0_number_12 : decode cX0_number 12 = .ok (.aload_n 0, 1) := by decide +kernel
theorem dX0_number_13 : decode cX0_number 13 = .ok (.getfield 11, 3) := by decide +kernel
theorem dX0_number_16 : decode cX0_number 16 = .ok (.arraylength, 1) := by decide +kernel
theorem dX0_number_17 : decode cX0_number 17 = .ok (.if_icmp .ge 12, 3) := by decide +kernel
theorem dX0_number_20 : decode cX0_number 20 = .ok (.aload_n 0, 1) := by decide +kernel
theorem dX0_number_21 : decode cX0_number 21 = .ok (.getfield 11, 3) := by decide +kernel
theorem dX0_number_24 : decode cX0_number 24 = .ok (.iload_n 3, 1) := by decide +kernel
theorem dX0_number_25 : decode cX0_number 25 = .ok (.iaload, 1) := by decide +kernel
theorem dX0_number_26 : decode cX0_number 26 = .ok (.goto 4, 3) := by decide +kernel
theorem dX0_number_29 : decode cX0_number 29 = .ok (.iconst 0, 1) := by decide +kernel
theorem dX0_number_30 : decode cX0_number 30 = .ok (.ireturn, 1) := by decide +kernel
theorem dX0_isFull_0 : decode cX0_isFull 0 = .ok (.aload_n 0, 1) := by decide +kernel
theorem dX0_isFull_1 : decode cX0_isFull 1 = .ok (.getfield 15, 3) := by decide +kernel
theorem dX0_isFull_4 : decode cX0_isFull 4 = .ok (.bipush 25, 2) := by decide +kernel
theorem dX0_isFull_6 : decode cX0_isFull 6 = .ok (.if_icmp .lt 7, 3) := by decide +kernel
theorem dX0_isFull_9 : decode cX0_isFull 9 = .ok (.iconst 1, 1) := by decide +kernel
theorem dX0_isFull_10 : decode cX0_isFull 10 = .ok (.goto 4, 3) := by decide +kernel
theorem dX0_isFull_13 : decode cX0_isFull 13 = .ok (.iconst 0, 1) := by decide +kernel
theorem dX0_isFull_14 : decode cX0_isFull 14 = .ok (.ireturn, 1) := by decide +kernel
set_option maxRecDepth 20000 in
theorem ggX0_take_X0_number : GoodIn wsX0_take wsX0_number := goodIn_r _ [14, 15, 29, 30] (by decide +kernel) (by decide +kernel)
set_option maxRecDepth 20000 in
theorem gX0_take_X0_number : GoodIn wsX0_take (wsV RX0 19 RX0 yX0_number wsX0_number) := goodIn_app (goodIn_of _ (by decide +kernel)) ggX0_take_X0_number
set_option maxRecDepth 20000 in
theorem gX0_take_X0_number_u23X0 : GoodIn wsX0_take (va_wsU RX0 23 RX0 "MeridianSeries$Items" ⟨"MeridianSeries$Items", "number", "(II)I"⟩ yX0_number wsX0_number) := goodIn_app (goodIn_of _ (by decide +kernel)) ggX0_take_X0_number
set_option maxRecDepth 20000 in
theorem ggX0_take_X4_number : GoodIn wsX0_take wsX4_number := goodIn_r _ [22, 23, 24, 31, 32, 33, 34, 35, 36, 37] (by decide +kernel) (by decide +kernel)
set_option maxRecDepth 20000 in
theorem gX0_take_X4_number_u23X4 : GoodIn wsX0_take (va_wsU RX0 23 RX4 "MeridianSeries$Items" ⟨"MeridianSeries$Items", "number", "(II)I"⟩ yX4_number wsX4_number) := goodIn_app (goodIn_of _ (by decide +kernel)) ggX0_take_X4_number
set_option maxRecDepth 20000 in
theorem ggX0_take_X0_write : GoodIn wsX0_take wsX0_write := goodIn_r _ [28, 15, 29, 30] (by decide +kernel) (by decide +kernel)
set_option maxRecDepth 20000 in
theorem gX0_take_X0_write : GoodIn wsX0_take (wsV RX0 24 RX0 yX0_write wsX0_write) := goodIn_app (goodIn_of _ (by decide +kernel)) ggX0_take_X0_write
theorem dX0_take_0 : decode cX0_take 0 = .ok (.aload_n 0, 1) := by decide +kernel
theorem dX0_take_1 : decode cX0_take 1 = .ok (.getfield 15, 3) := by decide +kernel
theorem dX0_take_4 : decode cX0_take 4 = .ok (.iconst 1, 1) := by decide +kernel
theorem dX0_take_5 : decode cX0_take 5 = .ok (.isub, 1) := by decide +kernel
theorem dX0_take_6 : decode cX0_take 6 = .ok (.istore 4, 2) := by decide +kernel
theorem dX0_take_8 : decode cX0_take 8 = .ok (.iload 4, 2) := by decide +kernel
theorem dX0_take_10 : decode cX0_take 10 = .ok (.ifCond .lt 120, 3) := by decide +kernel
theorem dX0_take_13 : decode cX0_take 13 = .ok (.aload_n 0, 1) := by decide +kernel
theorem dX0_take_14 : decode cX0_take 14 = .ok (.iload 4, 2) := by decide +kernel
theorem dX0_take_16 : decode cX0_take 16 = .ok (.iconst 0, 1) := by decide +kernel
theorem dX0_take_17 : decode cX0_take 17 = .ok (.invokevirtual 19, 3) := by decide +kernel
theorem dX0_take_20 : decode cX0_take 20 = .ok (.iload_n 1, 1) := by decide +kernel
theorem dX0_take_21 : decode cX0_take 21 = .ok (.if_icmp .ne 109, 3) := by decide +kernel
theorem dX0_take_24 : decode cX0_take 24 = .ok (.aload_n 0, 1) := by decide +kernel
theorem dX0_take_25 : decode cX0_take 25 = .ok (.iload 4, 2) := by decide +kernel
theorem dX0_take_27 : decode cX0_take 27 = .ok (.iconst 1, 1) := by decide +kernel
theorem dX0_take_28 : decode cX0_take 28 = .ok (.aload_n 0, 1) := by decide +kernel
theorem dX0_take_29 : decode cX0_take 29 = .ok (.iload 4, 2) := by decide +kernel
theorem dX0_take_31 : decode cX0_take 31 = .ok (.iconst 1, 1) := by decide +kernel
theorem dX0_take_32 : decode cX0_take 32 = .ok (.invokevirtual 19, 3) := by decide +kernel
theorem dX0_take_35 : decode cX0_take 35 = .ok (.aload_n 2, 1) := by decide +kernel
theorem dX0_take_36 : decode cX0_take 36 = .ok (.iload_n 3, 1) := by decide +kernel
theorem dX0_take_37 : decode cX0_take 37 = .ok (.iconst 1, 1) := by decide +kernel
theorem dX0_take_38 : decode cX0_take 38 = .ok (.invokevirtual 23, 3) := by decide +kernel
theorem dX0_take_41 : decode cX0_take 41 = .ok (.iadd, 1) := by decide +kernel
theorem dX0_take_42 : decode cX0_take 42 = .ok (.invokevirtual 24, 3) := by decide +kernel
theorem dX0_take_45 : decode cX0_take 45 = .ok (.aload_n 0, 1) := by decide +kernel
theorem dX0_take_46 : decode cX0_take 46 = .ok (.iload 4, 2) := by decide +kernel
theorem dX0_take_48 : decode cX0_take 48 = .ok (.iconst 2, 1) := by decide +kernel
theorem dX0_take_49 : decode cX0_take 49 = .ok (.aload_n 0, 1) := by decide +kernel
theorem dX0_take_50 : decode cX0_take 50 = .ok (.iload 4, 2) := by decide +kernel
theorem dX0_take_52 : decode cX0_take 52 = .ok (.iconst 2, 1) := by decide +kernel
theorem dX0_take_53 : decode cX0_take 53 = .ok (.invokevirtual 19, 3) := by decide +kernel
theorem dX0_take_56 : decode cX0_take 56 = .ok (.aload_n 2, 1) := by decide +kernel
theorem dX0_take_57 : decode cX0_take 57 = .ok (.iload_n 3, 1) := by decide +kernel
theorem dX0_take_58 : decode cX0_take 58 = .ok (.iconst 2, 1) := by decide +kernel
theorem dX0_take_59 : decode cX0_take 59 = .ok (.invokevirtual 23, 3) := by decide +kernel
theorem dX0_take_62 : decode cX0_take 62 = .ok (.iadd, 1) := by decide +kernel
theorem dX0_take_63 : decode cX0_take 63 = .ok (.invokevirtual 24, 3) := by decide +kernel
theorem dX0_take_66 : decode cX0_take 66 = .ok (.aload_n 0, 1) := by decide +kernel
theorem dX0_take_67 : decode cX0_take 67 = .ok (.iload 4, 2) := by decide +kernel
theorem dX0_take_69 : decode cX0_take 69 = .ok (.iconst 3, 1) := by decide +kernel
theorem dX0_take_70 : decode cX0_take 70 = .ok (.aload_n 0, 1) := by decide +kernel
theorem dX0_take_71 : decode cX0_take 71 = .ok (.iload 4, 2) := by decide +kernel
theorem dX0_take_73 : decode cX0_take 73 = .ok (.iconst 3, 1) := by decide +kernel
theorem dX0_take_74 : decode cX0_take 74 = .ok (.invokevirtual 19, 3) := by decide +kernel
theorem dX0_take_77 : decode cX0_take 77 = .ok (.aload_n 2, 1) := by decide +kernel
theorem dX0_take_78 : decode cX0_take 78 = .ok (.iload_n 3, 1) := by decide +kernel
theorem dX0_take_79 : decode cX0_take 79 = .ok (.iconst 3, 1) := by decide +kernel
theorem dX0_take_80 : decode cX0_take 80 = .ok (.invokevirtual 23, 3) := by decide +kernel
theorem dX0_take_83 : decode cX0_take 83 = .ok (.invokestatic 28, 3) := by decide +kernel
theorem dX0_take_86 : decode cX0_take 86 = .ok (.invokevirtual 24, 3) := by decide +kernel
theorem dX0_take_89 : decode cX0_take 89 = .ok (.aload_n 0, 1) := by decide +kernel
theorem dX0_take_90 : decode cX0_take 90 = .ok (.iload 4, 2) := by decide +kernel
theorem dX0_take_92 : decode cX0_take 92 = .ok (.iconst 4, 1) := by decide +kernel
theorem dX0_take_93 : decode cX0_take 93 = .ok (.aload_n 0, 1) := by decide +kernel
theorem dX0_take_94 : decode cX0_take 94 = .ok (.iload 4, 2) := by decide +kernel
theorem dX0_take_96 : decode cX0_take 96 = .ok (.iconst 4, 1) := by decide +kernel
theorem dX0_take_97 : decode cX0_take 97 = .ok (.invokevirtual 19, 3) := by decide +kernel
theorem dX0_take_100 : decode cX0_take 100 = .ok (.aload_n 2, 1) := by decide +kernel
theorem dX0_take_101 : decode cX0_take 101 = .ok (.iload_n 3, 1) := by decide +kernel
theorem dX0_take_102 : decode cX0_take 102 = .ok (.iconst 4, 1) := by decide +kernel
theorem dX0_take_103 : decode cX0_take 103 = .ok (.invokevirtual 23, 3) := by decide +kernel
theorem dX0_take_106 : decode cX0_take 106 = .ok (.invokestatic 33, 3) := by decide +kernel
theorem dX0_take_109 : decode cX0_take 109 = .ok (.invokevirtual 24, 3) := by decide +kernel
theorem dX0_take_112 : decode cX0_take 112 = .ok (.aload_n 0, 1) := by decide +kernel
theorem dX0_take_113 : decode cX0_take 113 = .ok (.iload 4, 2) := by decide +kernel
theorem dX0_take_115 : decode cX0_take 115 = .ok (.bipush 6, 2) := by decide +kernel
theorem dX0_take_117 : decode cX0_take 117 = .ok (.aload_n 2, 1) := by decide +kernel
theorem dX0_take_118 : decode cX0_take 118 = .ok (.iload_n 3, 1) := by decide +kernel
theorem dX0_take_119 : decode cX0_take 119 = .ok (.bipush 6, 2) := by decide +kernel
theorem dX0_take_121 : decode cX0_take 121 = .ok (.invokevirtual 23, 3) := by decide +kernel
theorem dX0_take_124 : decode cX0_take 124 = .ok (.invokevirtual 24, 3) := by decide +kernel
theorem dX0_take_127 : decode cX0_take 127 = .ok (.goto 65, 3) := by decide +kernel
theorem dX0_take_130 : decode cX0_take 130 = .ok (.aload_n 0, 1) := by decide +kernel
theorem dX0_take_131 : decode cX0_take 131 = .ok (.getfield 15, 3) := by decide +kernel
theorem dX0_take_134 : decode cX0_take 134 = .ok (.bipush 25, 2) := by decide +kernel
theorem dX0_take_136 : decode cX0_take 136 = .ok (.if_icmp .ge 56, 3) := by decide +kernel
theorem dX0_take_139 : decode cX0_take 139 = .ok (.aload_n 0, 1) := by decide +kernel
theorem dX0_take_140 : decode cX0_take 140 = .ok (.aload_n 0, 1) := by decide +kernel
theorem dX0_take_141 : decode cX0_take 141 = .ok (.getfield 15, 3) := by decide +kernel
theorem dX0_take_144 : decode cX0_take 144 = .ok (.iconst 0, 1) := by decide +kernel
theorem dX0_take_145 : decode cX0_take 145 = .ok (.iload_n 1, 1) := by decide +kernel
theorem dX0_take_146 : decode cX0_take 146 = .ok (.invokevirtual 24, 3) := by decide +kernel
theorem dX0_take_149 : decode cX0_take 149 = .ok (.iconst 1, 1) := by decide +kernel
theorem dX0_take_150 : decode cX0_take 150 = .ok (.istore 5, 2) := by decide +kernel
theorem dX0_take_152 : decode cX0_take 152 = .ok (.iload 5, 2) := by decide +kernel
theorem dX0_take_154 : decode cX0_take 154 = .ok (.bipush 6, 2) := by decide +kernel
theorem dX0_take_156 : decode cX0_take 156 = .ok (.if_icmp .gt 26, 3) := by decide +kernel
theorem dX0_take_159 : decode cX0_take 159 = .ok (.aload_n 0, 1) := by decide +kernel
theorem dX0_take_160 : decode cX0_take 160 = .ok (.aload_n 0, 1) := by decide +kernel
theorem dX0_take_161 : decode cX0_take 161 = .ok (.getfield 15, 3) := by decide +kernel
theorem dX0_take_164 : decode cX0_take 164 = .ok (.iload 5, 2) := by decide +kernel
theorem dX0_take_166 : decode cX0_take 166 = .ok (.aload_n 2, 1) := by decide +kernel
theorem dX0_take_167 : decode cX0_take 167 = .ok (.iload_n 3, 1) := by decide +kernel
theorem dX0_take_168 : decode cX0_take 168 = .ok (.iload 5, 2) := by decide +kernel
theorem dX0_take_170 : decode cX0_take 170 = .ok (.invokevirtual 23, 3) := by decide +kernel
theorem dX0_take_173 : decode cX0_take 173 = .ok (.invokevirtual 24, 3) := by decide +kernel
theorem dX0_take_176 : decode cX0_take 176 = .ok (.iinc 5 1, 3) := by decide +kernel
theorem dX0_take_179 : decode cX0_take 179 = .ok (.goto (-27), 3) := by decide +kernel
theorem dX0_take_182 : decode cX0_take 182 = .ok (.aload_n 0, 1) := by decide +kernel
theorem dX0_take_183 : decode cX0_take 183 = .ok (.dup, 1) := by decide +kernel
theorem dX0_take_184 : decode cX0_take 184 = .ok (.getfield 15, 3) := by decide +kernel
theorem dX0_take_187 : decode cX0_take 187 = .ok (.iconst 1, 1) := by decide +kernel
theorem dX0_take_188 : decode cX0_take 188 = .ok (.iadd, 1) := by decide +kernel
theorem dX0_take_189 : decode cX0_take 189 = .ok (.putfield 15, 3) := by decide +kernel
theorem dX0_take_192 : decode cX0_take 192 = .ok (.return_, 1) := by decide +kernel
theorem dX0_dropFirst_0 : decode cX0_dropFirst 0 = .ok (.aload_n 0, 1) := by decide +kernel
theorem dX0_dropFirst_1 : decode cX0_dropFirst 1 = .ok (.getfield 15, 3) := by decide +kernel
theorem dX0_dropFirst_4 : decode cX0_dropFirst 4 = .ok (.ifCond .gt 4, 3) := by decide +kernel
theorem dX0_dropFirst_7 : decode cX0_dropFirst 7 = .ok (.return_, 1) := by decide +kernel
theorem dX0_dropFirst_8 : decode cX0_dropFirst 8 = .ok (.bipush 7, 2) := by decide +kernel
theorem dX0_dropFirst_10 : decode cX0_dropFirst 10 = .ok (.istore_n 1, 1) := by decide +kernel
theorem dX0_dropFirst_11 : decode cX0_dropFirst 11 = .ok (.iload_n 1, 1) := by decide +kernel
theorem dX0_dropFirst_12 : decode cX0_dropFirst 12 = .ok (.aload_n 0, 1) := by decide +kernel
theorem dX0_dropFirst_13 : decode cX0_dropFirst 13 = .ok (.getfield 15, 3) := by decide +kernel
theorem dX0_dropFirst_16 : decode cX0_dropFirst 16 = .ok (.bipush 7, 2) := by decide +kernel
theorem dX0_dropFirst_18 : decode cX0_dropFirst 18 = .ok (.imul, 1) := by decide +kernel
theorem dX0_dropFirst_19 : decode cX0_dropFirst 19 = .ok (.if_icmp .ge 33, 3) := by decide +kernel
theorem dX0_dropFirst_22 : decode cX0_dropFirst 22 = .ok (.iload_n 1, 1) := by decide +kernel
theorem dX0_dropFirst_23 : decode cX0_dropFirst 23 = .ok (.aload_n 0, 1) := by decide +kernel
theorem dX0_dropFirst_24 : decode cX0_dropFirst 24 = .ok (.getfield 11, 3) := by decide +kernel
theorem dX0_dropFirst_27 : decode cX0_dropFirst 27 = .ok (.arraylength, 1) := by decide +kernel
theorem dX0_dropFirst_28 : decode cX0_dropFirst 28 = .ok (.if_icmp .ge 24, 3) := by decide +kernel
theorem dX0_dropFirst_31 : decode cX0_dropFirst 31 = .ok (.aload_n 0, 1) := by decide +kernel
theorem dX0_dropFirst_32 : decode cX0_dropFirst 32 = .ok (.getfield 11, 3) := by decide +kernel
theorem dX0_dropFirst_35 : decode cX0_dropFirst 35 = .ok (.iload_n 1, 1) := by decide +kernel
theorem dX0_dropFirst_36 : decode cX0_dropFirst 36 = .ok (.bipush 7, 2) := by decide +kernel
theorem dX0_dropFirst_38 : decode cX0_dropFirst 38 = .ok (.isub, 1) := by decide +kernel
theorem dX0_dropFirst_39 : decode cX0_dropFirst 39 = .ok (.aload_n 0, 1) := by decide +kernel
theorem dX0_dropFirst_40 : decode cX0_dropFirst 40 = .ok (.getfield 11, 3) := by decide +kernel
theorem dX0_dropFirst_43 : decode cX0_dropFirst 43 = .ok (.iload_n 1, 1) := by decide +kernel
theorem dX0_dropFirst_44 : decode cX0_dropFirst 44 = .ok (.iaload, 1) := by decide +kernel
theorem dX0_dropFirst_45 : decode cX0_dropFirst 45 = .ok (.iastore, 1) := by decide +kernel
theorem dX0_dropFirst_46 : decode cX0_dropFirst 46 = .ok (.iinc 1 1, 3) := by decide +kernel
theorem dX0_dropFirst_49 : decode cX0_dropFirst 49 = .ok (.goto (-38), 3) := by decide +kernel
theorem dX0_dropFirst_52 : decode cX0_dropFirst 52 = .ok (.aload_n 0, 1) := by decide +kernel
theorem dX0_dropFirst_53 : decode cX0_dropFirst 53 = .ok (.dup, 1) := by decide +kernel
theorem dX0_dropFirst_54 : decode cX0_dropFirst 54 = .ok (.getfield 15, 3) := by decide +kernel
theorem dX0_dropFirst_57 : decode cX0_dropFirst 57 = .ok (.iconst 1, 1) := by decide +kernel
theorem dX0_dropFirst_58 : decode cX0_dropFirst 58 = .ok (.isub, 1) := by decide +kernel
theorem dX0_dropFirst_59 : decode cX0_dropFirst 59 = .ok (.putfield 15, 3) := by decide +kernel
theorem dX0_dropFirst_62 : decode cX0_dropFirst 62 = .ok (.return_, 1) := by decide +kernel
set_option maxRecDepth 20000 in
theorem ggX0_copyFrom_X0_number : GoodIn wsX0_copyFrom wsX0_number := goodIn_r _ [7, 8, 13, 14] (by decide +kernel) (by decide +kernel)
set_option maxRecDepth 20000 in
theorem gX0_copyFrom_X0_number : GoodIn wsX0_copyFrom (wsV RX0 19 RX0 yX0_number wsX0_number) := goodIn_app (goodIn_of _ (by decide +kernel)) ggX0_copyFrom_X0_number
set_option maxRecDepth 20000 in
theorem ggX0_copyFrom_X0_write : GoodIn wsX0_copyFrom wsX0_write := goodIn_r _ [12, 8, 13, 14] (by decide +kernel) (by decide +kernel)
set_option maxRecDepth 20000 in
theorem gX0_copyFrom_X0_write : GoodIn wsX0_copyFrom (wsV RX0 24 RX0 yX0_write wsX0_write) := goodIn_app (goodIn_of _ (by decide +kernel)) ggX0_copyFrom_X0_write
theorem dX0_copyFrom_0 : decode cX0_copyFrom 0 = .ok (.iconst 0, 1) := by decide +kernel
theorem dX0_copyFrom_1 : decode cX0_copyFrom 1 = .ok (.istore_n 2, 1) := by decide +kernel
theorem dX0_copyFrom_2 : decode cX0_copyFrom 2 = .ok (.iload_n 2, 1) := by decide +kernel
theorem dX0_copyFrom_3 : decode cX0_copyFrom 3 = .ok (.aload_n 1, 1) := by decide +kernel
theorem dX0_copyFrom_4 : decode cX0_copyFrom 4 = .ok (.getfield 15, 3) := by decide +kernel
theorem dX0_copyFrom_7 : decode cX0_copyFrom 7 = .ok (.if_icmp .ge 35, 3) := by decide +kernel
theorem dX0_copyFrom_10 : decode cX0_copyFrom 10 = .ok (.iconst 0, 1) := by decide +kernel
theorem dX0_copyFrom_11 : decode cX0_copyFrom 11 = .ok (.istore_n 3, 1) := by decide +kernel
theorem dX0_copyFrom_12 : decode cX0_copyFrom 12 = .ok (.iload_n 3, 1) := by decide +kernel
theorem dX0_copyFrom_13 : decode cX0_copyFrom 13 = .ok (.bipush 6, 2) := by decide +kernel
theorem dX0_copyFrom_15 : decode cX0_copyFrom 15 = .ok (.if_icmp .gt 21, 3) := by decide +kernel
theorem dX0_copyFrom_18 : decode cX0_copyFrom 18 = .ok (.aload_n 0, 1) := by decide +kernel
theorem dX0_copyFrom_19 : decode cX0_copyFrom 19 = .ok (.iload_n 2, 1) := by decide +kernel
theorem dX0_copyFrom_20 : decode cX0_copyFrom 20 = .ok (.iload_n 3, 1) := by decide +kernel
theorem dX0_copyFrom_21 : decode cX0_copyFrom 21 = .ok (.aload_n 1, 1) := by decide +kernel
theorem dX0_copyFrom_22 : decode cX0_copyFrom 22 = .ok (.iload_n 2, 1) := by decide +kernel
theorem dX0_copyFrom_23 : decode cX0_copyFrom 23 = .ok (.iload_n 3, 1) := by decide +kernel
theorem dX0_copyFrom_24 : decode cX0_copyFrom 24 = .ok (.invokevirtual 19, 3) := by decide +kernel
theorem dX0_copyFrom_27 : decode cX0_copyFrom 27 = .ok (.invokevirtual 24, 3) := by decide +kernel
theorem dX0_copyFrom_30 : decode cX0_copyFrom 30 = .ok (.iinc 3 1, 3) := by decide +kernel
theorem dX0_copyFrom_33 : decode cX0_copyFrom 33 = .ok (.goto (-21), 3) := by decide +kernel
theorem dX0_copyFrom_36 : decode cX0_copyFrom 36 = .ok (.iinc 2 1, 3) := by decide +kernel
theorem dX0_copyFrom_39 : decode cX0_copyFrom 39 = .ok (.goto (-37), 3) := by decide +kernel
theorem dX0_copyFrom_42 : decode cX0_copyFrom 42 = .ok (.aload_n 0, 1) := by decide +kernel
theorem dX0_copyFrom_43 : decode cX0_copyFrom 43 = .ok (.aload_n 1, 1) := by decide +kernel
theorem dX0_copyFrom_44 : decode cX0_copyFrom 44 = .ok (.getfield 15, 3) := by decide +kernel
theorem dX0_copyFrom_47 : decode cX0_copyFrom 47 = .ok (.putfield 15, 3) := by decide +kernel
theorem dX0_copyFrom_50 : decode cX0_copyFrom 50 = .ok (.return_, 1) := by decide +kernel
theorem dX0_write_0 : decode cX0_write 0 = .ok (.iload_n 1, 1) := by decide +kernel
theorem dX0_write_1 : decode cX0_write 1 = .ok (.bipush 7, 2) := by decide +kernel
theorem dX0_write_3 : decode cX0_write 3 = .ok (.imul, 1) := by decide +kernel
theorem dX0_write_4 : decode cX0_write 4 = .ok (.iload_n 2, 1) := by decide +kernel
theorem dX0_write_5 : decode cX0_write 5 = .ok (.iadd, 1) := by decide +kernel
theorem dX0_write_6 : decode cX0_write 6 = .ok (.istore 4, 2) := by decide +kernel
theorem dX0_write_8 : decode cX0_write 8 = .ok (.iload 4, 2) := by decide +kernel
theorem dX0_write_10 : decode cX0_write 10 = .ok (.ifCond .lt 21, 3) := by decide +kernel
theorem dX0_write_13 : decode cX0_write 13 = .ok (.iload 4, 2) := by decide +kernel
theorem dX0_write_15 : decode cX0_write 15 = .ok (.aload_n 0, 1) := by decide +kernel
theorem dX0_write_16 : decode cX0_write 16 = .ok (.getfield 11, 3) := by decide +kernel
theorem dX0_write_19 : decode cX0_write 19 = .ok (.arraylength, 1) := by decide +kernel
theorem dX0_write_20 : decode cX0_write 20 = .ok (.if_icmp .ge 11, 3) := by decide +kernel
theorem dX0_write_23 : decode cX0_write 23 = .ok (.aload_n 0, 1) := by decide +kernel
theorem dX0_write_24 : decode cX0_write 24 = .ok (.getfield 11, 3) := by decide +kernel
theorem dX0_write_27 : decode cX0_write 27 = .ok (.iload 4, 2) := by decide +kernel
theorem dX0_write_29 : decode cX0_write 29 = .ok (.iload_n 3, 1) := by decide +kernel
theorem dX0_write_30 : decode cX0_write 30 = .ok (.iastore, 1) := by decide +kernel
theorem dX0_write_31 : decode cX0_write 31 = .ok (.return_, 1) := by decide +kernel
theorem dX1_init_0 : decode cX1_init 0 = .ok (.aload_n 0, 1) := by decide +kernel
theorem dX1_init_1 : decode cX1_init 1 = .ok (.invokespecial 3, 3) := by decide +kernel
theorem dX1_init_4 : decode cX1_init 4 = .ok (.aload_n 0, 1) := by decide +kernel
theorem dX1_init_5 : decode cX1_init 5 = .ok (.bipush 60, 2) := by decide +kernel
theorem dX1_init_7 : decode cX1_init 7 = .ok (.newarray .int, 2) := by decide +kernel
theorem dX1_init_9 : decode cX1_init 9 = .ok (.putfield 9, 3) := by decide +kernel
theorem dX1_init_12 : decode cX1_init 12 = .ok (.aload_n 0, 1) := by decide +kernel
theorem dX1_init_13 : decode cX1_init 13 = .ok (.iconst 0, 1) := by decide +kernel
theorem dX1_init_14 : decode cX1_init 14 = .ok (.putfield 15, 3) := by decide +kernel
theorem dX1_init_17 : decode cX1_init 17 = .ok (.aload_n 0, 1) := by decide +kernel
theorem dX1_init_18 : decode cX1_init 18 = .ok (.iconst 0, 1) := by decide +kernel
theorem dX1_init_19 : decode cX1_init 19 = .ok (.putfield 19, 3) := by decide +kernel
theorem dX1_init_22 : decode cX1_init 22 = .ok (.return_, 1) := by decide +kernel
theorem dX1_add_0 : decode cX1_add 0 = .ok (.aload_n 0, 1) := by decide +kernel
theorem dX1_add_1 : decode cX1_add 1 = .ok (.getfield 15, 3) := by decide +kernel
theorem dX1_add_4 : decode cX1_add 4 = .ok (.bipush 20, 2) := by decide +kernel
theorem dX1_add_6 : decode cX1_add 6 = .ok (.irem, 1) := by decide +kernel
theorem dX1_add_7 : decode cX1_add 7 = .ok (.iconst 3, 1) := by decide +kernel
theorem dX1_add_8 : decode cX1_add 8 = .ok (.imul, 1) := by decide +kernel
theorem dX1_add_9 : decode cX1_add 9 = .ok (.istore 4, 2) := by decide +kernel
theorem dX1_add_11 : decode cX1_add 11 = .ok (.iload 4, 2) := by decide +kernel
theorem dX1_add_13 : decode cX1_add 13 = .ok (.ifCond .lt 43, 3) := by decide +kernel
theorem dX1_add_16 : decode cX1_add 16 = .ok (.iload 4, 2) := by decide +kernel
theorem dX1_add_18 : decode cX1_add 18 = .ok (.iconst 2, 1) := by decide +kernel
theorem dX1_add_19 : decode cX1_add 19 = .ok (.iadd, 1) := by decide +kernel
theorem dX1_add_20 : decode cX1_add 20 = .ok (.aload_n 0, 1) := by decide +kernel
theorem dX1_add_21 : decode cX1_add 21 = .ok (.getfield 9, 3) := by decide +kernel
theorem dX1_add_24 : decode cX1_add 24 = .ok (.arraylength, 1) := by decide +kernel
theorem dX1_add_25 : decode cX1_add 25 = .ok (.if_icmp .ge 31, 3) := by decide +kernel
theorem dX1_add_28 : decode cX1_add 28 = .ok (.aload_n 0, 1) := by decide +kernel
theorem dX1_add_29 : decode cX1_add 29 = .ok (.getfield 9, 3) := by decide +kernel
theorem dX1_add_32 : decode cX1_add 32 = .ok (.iload 4, 2) := by decide +kernel
theorem dX1_add_34 : decode cX1_add 34 = .ok (.iload_n 1, 1) := by decide +kernel
theorem dX1_add_35 : decode cX1_add 35 = .ok (.iastore, 1) := by decide +kernel
theorem dX1_add_36 : decode cX1_add 36 = .ok (.aload_n 0, 1) := by decide +kernel
theorem dX1_add_37 : decode cX1_add 37 = .ok (.getfield 9, 3) := by decide +kernel
theorem dX1_add_40 : decode cX1_add 40 = .ok (.iload 4, 2) := by decide +kernel
theorem dX1_add_42 : decode cX1_add 42 = .ok (.iconst 1, 1) := by decide +kernel
theorem dX1_add_43 : decode cX1_add 43 = .ok (.iadd, 1) := by decide +kernel
theorem dX1_add_44 : decode cX1_add 44 = .ok (.iload_n 2, 1) := by decide +kernel
theorem dX1_add_45 : decode cX1_add 45 = .ok (.iastore, 1) := by decide +kernel
theorem dX1_add_46 : decode cX1_add 46 = .ok (.aload_n 0, 1) := by decide +kernel
theorem dX1_add_47 : decode cX1_add 47 = .ok (.getfield 9, 3) := by decide +kernel
theorem dX1_add_50 : decode cX1_add 50 = .ok (.iload 4, 2) := by decide +kernel
theorem dX1_add_52 : decode cX1_add 52 = .ok (.iconst 2, 1) := by decide +kernel
theorem dX1_add_53 : decode cX1_add 53 = .ok (.iadd, 1) := by decide +kernel
theorem dX1_add_54 : decode cX1_add 54 = .ok (.iload_n 3, 1) := by decide +kernel
theorem dX1_add_55 : decode cX1_add 55 = .ok (.iastore, 1) := by decide +kernel
theorem dX1_add_56 : decode cX1_add 56 = .ok (.aload_n 0, 1) := by decide +kernel
theorem dX1_add_57 : decode cX1_add 57 = .ok (.dup, 1) := by decide +kernel
theorem dX1_add_58 : decode cX1_add 58 = .ok (.getfield 15, 3) := by decide +kernel
theorem dX1_add_61 : decode cX1_add 61 = .ok (.iconst 1, 1) := by decide +kernel
theorem dX1_add_62 : decode cX1_add 62 = .ok (.iadd, 1) := by decide +kernel
theorem dX1_add_63 : decode cX1_add 63 = .ok (.putfield 15, 3) := by decide +kernel
theorem dX1_add_66 : decode cX1_add 66 = .ok (.iload_n 3, 1) := by decide +kernel
theorem dX1_add_67 : decode cX1_add 67 = .ok (.iconst 2, 1) := by decide +kernel
theorem dX1_add_68 : decode cX1_add 68 = .ok (.if_icmp .ne 13, 3) := by decide +kernel
theorem dX1_add_71 : decode cX1_add 71 = .ok (.aload_n 0, 1) := by decide +kernel
theorem dX1_add_72 : decode cX1_add 72 = .ok (.dup, 1) := by decide +kernel
theorem dX1_add_73 : decode cX1_add 73 = .ok (.getfield 19, 3) := by decide +kernel
theorem dX1_add_76 : decode cX1_add 76 = .ok (.iconst 1, 1) := by decide +kernel
theorem dX1_add_77 : decode cX1_add 77 = .ok (.iadd, 1) := by decide +kernel
theorem dX1_add_78 : decode cX1_add 78 = .ok (.putfield 19, 3) := by decide +kernel
theorem dX1_add_81 : decode cX1_add 81 = .ok (.return_, 1) := by decide +kernel
theorem dX1_number_0 : decode cX1_number 0 = .ok (.aload_n 0, 1) := by decide +kernel
theorem dX1_number_1 : decode cX1_number 1 = .ok (.getfield 15, 3) := by decide +kernel
theorem dX1_number_4 : decode cX1_number 4 = .ok (.iconst 1, 1) := by decide +kernel
theorem dX1_number_5 : decode cX1_number 5 = .ok (.isub, 1) := by decide +kernel
theorem dX1_number_6 : decode cX1_number 6 = .ok (.iload_n 1, 1) := by decide +kernel
theorem dX1_number_7 : decode cX1_number 7 = .ok (.isub, 1) := by decide +kernel
theorem dX1_number_8 : decode cX1_number 8 = .ok (.bipush 20, 2) := by decide +kernel
theorem dX1_number_10 : decode cX1_number 10 = .ok (.irem, 1) := by decide +kernel
theorem dX1_number_11 : decode cX1_number 11 = .ok (.iconst 3, 1) := by decide +kernel
theorem dX1_number_12 : decode cX1_number 12 = .ok (.imul, 1) := by decide +kernel
theorem dX1_number_13 : decode cX1_number 13 = .ok (.iload_n 2, 1) := by decide +kernel
theorem dX1_number_14 : decode cX1_number 14 = .ok (.iadd, 1) := by decide +kernel
theorem dX1_number_15 : decode cX1_number 15 = .ok (.istore_n 3, 1) := by decide +kernel
theorem dX1_number_16 : decode cX1_number 16 = .ok (.iload_n 3, 1) := by decide +kernel
theorem dX1_number_17 : decode cX1_number 17 = .ok (.ifCond .lt 21, 3) := by decide +kernel
theorem dX1_number_20 : decode cX1_number 20 = .ok (.iload_n 3, 1) := by decide +kernel
theorem dX1_number_21 : decode cX1_number 21 = .ok (.aload_n 0, 1) := by decide +kernel
theorem dX1_number_22 : decode cX1_number 22 = .ok (.getfield 9, 3) := by decide +kernel
theorem dX1_number_25 : decode cX1_number 25 = .ok (.arraylength, 1) := by decide +kernel
theorem dX1_number_26 : decode cX1_number 26 = .ok (.if_icmp .ge 12, 3) := by decide +kernel
theorem dX1_number_29 : decode cX1_number 29 = .ok (.aload_n 0, 1) := by decide +kernel
theorem dX1_number_30 : decode cX1_number 30 = .ok (.getfield 9, 3) := by decide +kernel
theorem dX1_number_33 : decode cX1_number 33 = .ok (.iload_n 3, 1) := by decide +kernel
theorem dX1_number_34 : decode cX1_number 34 = .ok (.iaload, 1) := by decide +kernel
theorem dX1_number_35 : decode cX1_number 35 = .ok (.goto 4, 3) := by decide +kernel
theorem dX1_number_38 : decode cX1_number 38 = .ok (.iconst 0, 1) := by decide +kernel
theorem dX1_number_39 : decode cX1_number 39 = .ok (.ireturn, 1) := by decide +kernel
theorem dX3_init_0 : decode cX3_init 0 = .ok (.aload_n 0, 1) := by decide +kernel
theorem dX3_init_1 : decode cX3_init 1 = .ok (.invokespecial 3, 3) := by decide +kernel
theorem dX3_init_4 : decode cX3_init 4 = .ok (.aload_n 0, 1) := by decide +kernel
theorem dX3_init_5 : decode cX3_init 5 = .ok (.bipush 48, 2) := by decide +kernel
theorem dX3_init_7 : decode cX3_init 7 = .ok (.newarray .int, 2) := by decide +kernel
theorem dX3_init_9 : decode cX3_init 9 = .ok (.putfield 11, 3) := by decide +kernel
theorem dX3_init_12 : decode cX3_init 12 = .ok (.aload_n 0, 1) := by decide +kernel
theorem dX3_init_13 : decode cX3_init 13 = .ok (.iconst 0, 1) := by decide +kernel
theorem dX3_init_14 : decode cX3_init 14 = .ok (.putfield 15, 3) := by decide +kernel
theorem dX3_init_17 : decode cX3_init 17 = .ok (.aload_n 0, 1) := by decide +kernel
theorem dX3_init_18 : decode cX3_init 18 = .ok (.iconst 0, 1) := by decide +kernel
theorem dX3_init_19 : decode cX3_init 19 = .ok (.putfield 19, 3) := by decide +kernel
theorem dX3_init_22 : decode cX3_init 22 = .ok (.aload_n 0, 1) := by decide +kernel
theorem dX3_init_23 : decode cX3_init 23 = .ok (.iconst 0, 1) := by decide +kernel
theorem dX3_init_24 : decode cX3_init 24 = .ok (.putfield 22, 3) := by decide +kernel
theorem dX3_init_27 : decode cX3_init 27 = .ok (.aload_n 0, 1) := by decide +kernel
theorem dX3_init_28 : decode cX3_init 28 = .ok (.iconst 0, 1) := by decide +kernel
theorem dX3_init_29 : decode cX3_init 29 = .ok (.putfield 25, 3) := by decide +kernel
theorem dX3_init_32 : decode cX3_init 32 = .ok (.aload_n 0, 1) := by decide +kernel
theorem dX3_init_33 : decode cX3_init 33 = .ok (.iconst 0, 1) := by decide +kernel
theorem dX3_init_34 : decode cX3_init 34 = .ok (.putfield 28, 3) := by decide +kernel
theorem dX3_init_37 : decode cX3_init 37 = .ok (.return_, 1) := by decide +kernel
set_option maxRecDepth 20000 in
theorem ggX3_pack_X4_startOf : GoodIn wsX3_pack wsX4_startOf := goodIn_r _ [7, 8, 9, 10, 11, 6, 12, 13, 14, 15, 16, 17, 18, 19, 20, 63, 64, 65, 66, 67, 68, 69, 76, 77] (by decide +kernel) (by decide +kernel)
set_option maxRecDepth 20000 in
theorem gX3_pack_X4_startOf : GoodIn wsX3_pack (wsV RX3 36 RX4 yX4_startOf wsX4_startOf) := goodIn_app (goodIn_of _ (by decide +kernel)) ggX3_pack_X4_startOf
set_option maxRecDepth 20000 in
theorem ggX3_pack_X4_sizeOf : GoodIn wsX3_pack wsX4_sizeOf := goodIn_r _ [12, 8, 13, 14, 15, 16, 6, 17, 18, 19, 20, 63, 64, 65, 66, 67, 68, 69, 76, 77] (by decide +kernel) (by decide +kernel)
set_option maxRecDepth 20000 in
theorem gX3_pack_X4_sizeOf : GoodIn wsX3_pack (wsV RX3 40 RX4 yX4_sizeOf wsX4_sizeOf) := goodIn_app (goodIn_of _ (by decide +kernel)) ggX3_pack_X4_sizeOf
set_option maxRecDepth 20000 in
theorem ggX3_pack_X3_begin : GoodIn wsX3_pack wsX3_begin := goodIn_r _ [26, 27, 2, 28, 29, 30, 31, 32, 33, 34, 35, 25, 36, 70, 71, 72, 73, 74, 75] (by decide +kernel) (by decide +kernel)
set_option maxRecDepth 20000 in
theorem gX3_pack_X3_begin : GoodIn wsX3_pack (wsV RX3 43 RX3 yX3_begin wsX3_begin) := goodIn_app (goodIn_of _ (by decide +kernel)) ggX3_pack_X3_begin
set_option maxRecDepth 20000 in
theorem ggX3_pack_X4_number : GoodIn wsX3_pack wsX4_number := goodIn_r _ [40, 41, 42, 63, 64, 65, 66, 67, 68, 69] (by decide +kernel) (by decide +kernel)
set_option maxRecDepth 20000 in
theorem gX3_pack_X4_number : GoodIn wsX3_pack (wsV RX3 47 RX4 yX4_number wsX4_number) := goodIn_app (goodIn_of _ (by decide +kernel)) ggX3_pack_X4_number
set_option maxRecDepth 20000 in
theorem ggX3_pack_X3_add : GoodIn wsX3_pack wsX3_add := goodIn_r _ [46, 28, 47, 48, 49, 50, 33, 34, 35, 25, 36, 2, 27, 51, 52, 53, 54, 55, 56, 57, 58, 59, 60, 61, 62, 70, 71, 72, 73, 74, 75] (by decide +kernel) (by decide +kernel)
set_option maxRecDepth 20000 in
theorem gX3_pack_X3_add : GoodIn wsX3_pack (wsV RX3 51 RX3 yX3_add wsX3_add) := goodIn_app (goodIn_of _ (by decide +kernel)) ggX3_pack_X3_add
theorem dX3_pack_0 : decode cX3_pack 0 = .ok (.iload_n 2, 1) := by decide +kernel
theorem dX3_pack_1 : decode cX3_pack 1 = .ok (.aload_n 1, 1) := by decide +kernel
theorem dX3_pack_2 : decode cX3_pack 2 = .ok (.getfield 31, 3) := by decide +kernel
theorem dX3_pack_5 : decode cX3_pack 5 = .ok (.if_icmp .lt 5, 3) := by decide +kernel
theorem dX3_pack_8 : decode cX3_pack 8 = .ok (.iconst 0, 1) := by decide +kernel
theorem dX3_pack_9 : decode cX3_pack 9 = .ok (.ireturn, 1) := by decide +kernel
theorem dX3_pack_10 : decode cX3_pack 10 = .ok (.aload_n 1, 1) := by decide +kernel
theorem dX3_pack_11 : decode cX3_pack 11 = .ok (.iload_n 2, 1) := by decide +kernel
theorem dX3_pack_12 : decode cX3_pack 12 = .ok (.invokevirtual 36, 3) := by decide +kernel
theorem dX3_pack_15 : decode cX3_pack 15 = .ok (.istore_n 3, 1) := by decide +kernel
theorem dX3_pack_16 : decode cX3_pack 16 = .ok (.aload_n 1, 1) := by decide +kernel
theorem dX3_pack_17 : decode cX3_pack 17 = .ok (.iload_n 2, 1) := by decide +kernel
theorem dX3_pack_18 : decode cX3_pack 18 = .ok (.invokevirtual 40, 3) := by decide +kernel
theorem dX3_pack_21 : decode cX3_pack 21 = .ok (.istore 4, 2) := by decide +kernel
theorem dX3_pack_23 : decode cX3_pack 23 = .ok (.aload_n 0, 1) := by decide +kernel
theorem dX3_pack_24 : decode cX3_pack 24 = .ok (.iload 4, 2) := by decide +kernel
theorem dX3_pack_26 : decode cX3_pack 26 = .ok (.invokevirtual 43, 3) := by decide +kernel
theorem dX3_pack_29 : decode cX3_pack 29 = .ok (.iload_n 3, 1) := by decide +kernel
theorem dX3_pack_30 : decode cX3_pack 30 = .ok (.istore 5, 2) := by decide +kernel
theorem dX3_pack_32 : decode cX3_pack 32 = .ok (.iload 5, 2) := by decide +kernel
theorem dX3_pack_34 : decode cX3_pack 34 = .ok (.iload_n 3, 1) := by decide +kernel
theorem dX3_pack_35 : decode cX3_pack 35 = .ok (.iload 4, 2) := by decide +kernel
theorem dX3_pack_37 : decode cX3_pack 37 = .ok (.iadd, 1) := by decide +kernel
theorem dX3_pack_38 : decode cX3_pack 38 = .ok (.if_icmp .ge 27, 3) := by decide +kernel
theorem dX3_pack_41 : decode cX3_pack 41 = .ok (.aload_n 0, 1) := by decide +kernel
theorem dX3_pack_42 : decode cX3_pack 42 = .ok (.aload_n 1, 1) := by decide +kernel
theorem dX3_pack_43 : decode cX3_pack 43 = .ok (.iload 5, 2) := by decide +kernel
theorem dX3_pack_45 : decode cX3_pack 45 = .ok (.iconst 0, 1) := by decide +kernel
theorem dX3_pack_46 : decode cX3_pack 46 = .ok (.invokevirtual 47, 3) := by decide +kernel
theorem dX3_pack_49 : decode cX3_pack 49 = .ok (.aload_n 1, 1) := by decide +kernel
theorem dX3_pack_50 : decode cX3_pack 50 = .ok (.iload 5, 2) := by decide +kernel
theorem dX3_pack_52 : decode cX3_pack 52 = .ok (.iconst 5, 1) := by decide +kernel
theorem dX3_pack_53 : decode cX3_pack 53 = .ok (.invokevirtual 47, 3) := by decide +kernel
theorem dX3_pack_56 : decode cX3_pack 56 = .ok (.invokevirtual 51, 3) := by decide +kernel
theorem dX3_pack_59 : decode cX3_pack 59 = .ok (.iinc 5 1, 3) := by decide +kernel
theorem dX3_pack_62 : decode cX3_pack 62 = .ok (.goto (-30), 3) := by decide +kernel
theorem dX3_pack_65 : decode cX3_pack 65 = .ok (.aload_n 0, 1) := by decide +kernel
theorem dX3_pack_66 : decode cX3_pack 66 = .ok (.getfield 15, 3) := by decide +kernel
theorem dX3_pack_69 : decode cX3_pack 69 = .ok (.ireturn, 1) := by decide +kernel
set_option maxRecDepth 20000 in
theorem ggX3_packOpenWith_X4_placeOf : GoodIn wsX3_packOpenWith wsX4_placeOf := goodIn_r _ [9, 10, 11, 3, 12, 13, 14, 8, 15, 16, 17, 62, 63, 64, 65, 66, 67, 68, 69, 70] (by decide +kernel) (by decide +kernel)
set_option maxRecDepth 20000 in
theorem gX3_packOpenWith_X4_placeOf : GoodIn wsX3_packOpenWith (wsV RX3 55 RX4 yX4_placeOf wsX4_placeOf) := goodIn_app (goodIn_of _ (by decide +kernel)) ggX3_packOpenWith_X4_placeOf
set_option maxRecDepth 20000 in
theorem ggX3_packOpenWith_X4_isTakenAt : GoodIn wsX3_packOpenWith wsX4_isTakenAt := goodIn_r _ [21, 11, 3, 12, 13, 14, 8, 15, 16, 17, 69, 70, 62, 63, 64, 65, 66, 67, 68] (by decide +kernel) (by decide +kernel)
set_option maxRecDepth 20000 in
theorem gX3_packOpenWith_X4_isTakenAt : GoodIn wsX3_packOpenWith (wsV RX3 58 RX4 yX4_isTakenAt wsX4_isTakenAt) := goodIn_app (goodIn_of _ (by decide +kernel)) ggX3_packOpenWith_X4_isTakenAt
set_option maxRecDepth 20000 in
theorem ggX3_packOpenWith_X4_openSize : GoodIn wsX3_packOpenWith wsX4_openSize := goodIn_r _ [25, 11, 3, 10, 69, 70, 62, 63, 64, 65, 66, 67, 68] (by decide +kernel) (by decide +kernel)
set_option maxRecDepth 20000 in
theorem gX3_packOpenWith_X4_openSize : GoodIn wsX3_packOpenWith (wsV RX3 62 RX4 yX4_openSize wsX4_openSize) := goodIn_app (goodIn_of _ (by decide +kernel)) ggX3_packOpenWith_X4_openSize
set_option maxRecDepth 20000 in
theorem ggX3_packOpenWith_X3_begin : GoodIn wsX3_packOpenWith wsX3_begin := goodIn_r _ [30, 31, 4, 32, 33, 34, 35, 36, 37, 38, 39, 29, 40, 71, 72, 73, 74, 75, 76] (by decide +kernel) (by decide +kernel)
set_option maxRecDepth 20000 in
theorem gX3_packOpenWith_X3_begin : GoodIn wsX3_packOpenWith (wsV RX3 43 RX3 yX3_begin wsX3_begin) := goodIn_app (goodIn_of _ (by decide +kernel)) ggX3_packOpenWith_X3_begin
set_option maxRecDepth 20000 in
theorem ggX3_packOpenWith_X4_number : GoodIn wsX3_packOpenWith wsX4_number := goodIn_r _ [15, 16, 17, 62, 63, 64, 65, 66, 67, 68] (by decide +kernel) (by decide +kernel)
set_option maxRecDepth 20000 in
theorem gX3_packOpenWith_X4_number : GoodIn wsX3_packOpenWith (wsV RX3 47 RX4 yX4_number wsX4_number) := goodIn_app (goodIn_of _ (by decide +kernel)) ggX3_packOpenWith_X4_number
set_option maxRecDepth 20000 in
theorem ggX3_packOpenWith_X3_add : GoodIn wsX3_packOpenWith wsX3_add := goodIn_r _ [45, 32, 46, 47, 48, 49, 37, 38, 39, 29, 40, 4, 31, 50, 51, 52, 53, 54, 55, 56, 57, 58, 59, 60, 61, 71, 72, 73, 74, 75, 76] (by decide +kernel) (by decide +kernel)
set_option maxRecDepth 20000 in
theorem gX3_packOpenWith_X3_add : GoodIn wsX3_packOpenWith (wsV RX3 51 RX3 yX3_add wsX3_add) := goodIn_app (goodIn_of _ (by decide +kernel)) ggX3_packOpenWith_X3_add
theorem dX3_packOpenWith_0 : decode cX3_packOpenWith 0 = .ok (.aload_n 1, 1) := by decide +kernel
theorem dX3_packOpenWith_1 : decode cX3_packOpenWith 1 = .ok (.iload_n 2, 1) := by decide +kernel
theorem dX3_packOpenWith_2 : decode cX3_packOpenWith 2 = .ok (.invokevirtual 55, 3) := by decide +kernel
theorem dX3_packOpenWith_5 : decode cX3_packOpenWith 5 = .ok (.istore 4, 2) := by decide +kernel
theorem dX3_packOpenWith_7 : decode cX3_packOpenWith 7 = .ok (.aload_n 1, 1) := by decide +kernel
theorem dX3_packOpenWith_8 : decode cX3_packOpenWith 8 = .ok (.iload 4, 2) := by decide +kernel
theorem dX3_packOpenWith_10 : decode cX3_packOpenWith 10 = .ok (.iload_n 2, 1) := by decide +kernel
theorem dX3_packOpenWith_11 : decode cX3_packOpenWith 11 = .ok (.invokevirtual 58, 3) := by decide +kernel
theorem dX3_packOpenWith_14 : decode cX3_packOpenWith 14 = .ok (.istore 5, 2) := by decide +kernel
theorem dX3_packOpenWith_16 : decode cX3_packOpenWith 16 = .ok (.aload_n 0, 1) := by decide +kernel
theorem dX3_packOpenWith_17 : decode cX3_packOpenWith 17 = .ok (.aload_n 1, 1) := by decide +kernel
theorem dX3_packOpenWith_18 : decode cX3_packOpenWith 18 = .ok (.invokevirtual 62, 3) := by decide +kernel
theorem dX3_packOpenWith_21 : decode cX3_packOpenWith 21 = .ok (.iload 5, 2) := by decide +kernel
theorem dX3_packOpenWith_23 : decode cX3_packOpenWith 23 = .ok (.ifCond .eq 7, 3) := by decide +kernel
theorem dX3_packOpenWith_26 : decode cX3_packOpenWith 26 = .ok (.iconst 0, 1) := by decide +kernel
theorem dX3_packOpenWith_27 : decode cX3_packOpenWith 27 = .ok (.goto 4, 3) := by decide +kernel
theorem dX3_packOpenWith_30 : decode cX3_packOpenWith 30 = .ok (.iconst 1, 1) := by decide +kernel
theorem dX3_packOpenWith_31 : decode cX3_packOpenWith 31 = .ok (.iadd, 1) := by decide +kernel
theorem dX3_packOpenWith_32 : decode cX3_packOpenWith 32 = .ok (.invokevirtual 43, 3) := by decide +kernel
theorem dX3_packOpenWith_35 : decode cX3_packOpenWith 35 = .ok (.aload_n 1, 1) := by decide +kernel
theorem dX3_packOpenWith_36 : decode cX3_packOpenWith 36 = .ok (.getfield 66, 3) := by decide +kernel
theorem dX3_packOpenWith_39 : decode cX3_packOpenWith 39 = .ok (.istore 6, 2) := by decide +kernel
theorem dX3_packOpenWith_41 : decode cX3_packOpenWith 41 = .ok (.iload 6, 2) := by decide +kernel
theorem dX3_packOpenWith_43 : decode cX3_packOpenWith 43 = .ok (.iload 4, 2) := by decide +kernel
theorem dX3_packOpenWith_45 : decode cX3_packOpenWith 45 = .ok (.if_icmp .ge 27, 3) := by decide +kernel
theorem dX3_packOpenWith_48 : decode cX3_packOpenWith 48 = .ok (.aload_n 0, 1) := by decide +kernel
theorem dX3_packOpenWith_49 : decode cX3_packOpenWith 49 = .ok (.aload_n 1, 1) := by decide +kernel
theorem dX3_packOpenWith_50 : decode cX3_packOpenWith 50 = .ok (.iload 6, 2) := by decide +kernel
theorem dX3_packOpenWith_52 : decode cX3_packOpenWith 52 = .ok (.iconst 0, 1) := by decide +kernel
theorem dX3_packOpenWith_53 : decode cX3_packOpenWith 53 = .ok (.invokevirtual 47, 3) := by decide +kernel
theorem dX3_packOpenWith_56 : decode cX3_packOpenWith 56 = .ok (.aload_n 1, 1) := by decide +kernel
theorem dX3_packOpenWith_57 : decode cX3_packOpenWith 57 = .ok (.iload 6, 2) := by decide +kernel
theorem dX3_packOpenWith_59 : decode cX3_packOpenWith 59 = .ok (.iconst 5, 1) := by decide +kernel
theorem dX3_packOpenWith_60 : decode cX3_packOpenWith 60 = .ok (.invokevirtual 47, 3) := by decide +kernel
theorem dX3_packOpenWith_63 : decode cX3_packOpenWith 63 = .ok (.invokevirtual 51, 3) := by decide +kernel
theorem dX3_packOpenWith_66 : decode cX3_packOpenWith 66 = .ok (.iinc 6 1, 3) := by decide +kernel
theorem dX3_packOpenWith_69 : decode cX3_packOpenWith 69 = .ok (.goto (-28), 3) := by decide +kernel
theorem dX3_packOpenWith_72 : decode cX3_packOpenWith 72 = .ok (.aload_n 0, 1) := by decide +kernel
theorem dX3_packOpenWith_73 : decode cX3_packOpenWith 73 = .ok (.iload_n 2, 1) := by decide +kernel
theorem dX3_packOpenWith_74 : decode cX3_packOpenWith 74 = .ok (.iload_n 3, 1) := by decide +kernel
theorem dX3_packOpenWith_75 : decode cX3_packOpenWith 75 = .ok (.invokevirtual 51, 3) := by decide +kernel
theorem dX3_packOpenWith_78 : decode cX3_packOpenWith 78 = .ok (.iload 5, 2) := by decide +kernel
theorem dX3_packOpenWith_80 : decode cX3_packOpenWith 80 = .ok (.ifCond .eq 10, 3) := by decide +kernel
theorem dX3_packOpenWith_83 : decode cX3_packOpenWith 83 = .ok (.iload 4, 2) := by decide +kernel
theorem dX3_packOpenWith_85 : decode cX3_packOpenWith 85 = .ok (.iconst 1, 1) := by decide +kernel
theorem dX3_packOpenWith_86 : decode cX3_packOpenWith 86 = .ok (.iadd, 1) := by decide +kernel
theorem dX3_packOpenWith_87 : decode cX3_packOpenWith 87 = .ok (.goto 5, 3) := by decide +kernel
theorem dX3_packOpenWith_90 : decode cX3_packOpenWith 90 = .ok (.iload 4, 2) := by decide +kernel
theorem dX3_packOpenWith_92 : decode cX3_packOpenWith 92 = .ok (.istore 6, 2) := by decide +kernel
theorem dX3_packOpenWith_94 : decode cX3_packOpenWith 94 = .ok (.iload 6, 2) := by decide +kernel
theorem dX3_packOpenWith_96 : decode cX3_packOpenWith 96 = .ok (.aload_n 1, 1) := by decide +kernel
theorem dX3_packOpenWith_97 : decode cX3_packOpenWith 97 = .ok (.getfield 69, 3) := by decide +kernel
theorem dX3_packOpenWith_100 : decode cX3_packOpenWith 100 = .ok (.if_icmp .ge 27, 3) := by decide +kernel
theorem dX3_packOpenWith_103 : decode cX3_packOpenWith 103 = .ok (.aload_n 0, 1) := by decide +kernel
theorem dX3_packOpenWith_104 : decode cX3_packOpenWith 104 = .ok (.aload_n 1, 1) := by decide +kernel
theorem dX3_packOpenWith_105 : decode cX3_packOpenWith 105 = .ok (.iload 6, 2) := by decide +kernel
theorem dX3_packOpenWith_107 : decode cX3_packOpenWith 107 = .ok (.iconst 0, 1) := by decide +kernel
theorem dX3_packOpenWith_108 : decode cX3_packOpenWith 108 = .ok (.invokevirtual 47, 3) := by decide +kernel
theorem dX3_packOpenWith_111 : decode cX3_packOpenWith 111 = .ok (.aload_n 1, 1) := by decide +kernel
theorem dX3_packOpenWith_112 : decode cX3_packOpenWith 112 = .ok (.iload 6, 2) := by decide +kernel
theorem dX3_packOpenWith_114 : decode cX3_packOpenWith 114 = .ok (.iconst 5, 1) := by decide +kernel
theorem dX3_packOpenWith_115 : decode cX3_packOpenWith 115 = .ok (.invokevirtual 47, 3) := by decide +kernel
theorem dX3_packOpenWith_118 : decode cX3_packOpenWith 118 = .ok (.invokevirtual 51, 3) := by decide +kernel
theorem dX3_packOpenWith_121 : decode cX3_packOpenWith 121 = .ok (.iinc 6 1, 3) := by decide +kernel
theorem dX3_packOpenWith_124 : decode cX3_packOpenWith 124 = .ok (.goto (-30), 3) := by decide +kernel
theorem dX3_packOpenWith_127 : decode cX3_packOpenWith 127 = .ok (.aload_n 0, 1) := by decide +kernel
theorem dX3_packOpenWith_128 : decode cX3_packOpenWith 128 = .ok (.getfield 15, 3) := by decide +kernel
theorem dX3_packOpenWith_131 : decode cX3_packOpenWith 131 = .ok (.ireturn, 1) := by decide +kernel
theorem dX3_wordCount_0 : decode cX3_wordCount 0 = .ok (.aload_n 0, 1) := by decide +kernel
theorem dX3_wordCount_1 : decode cX3_wordCount 1 = .ok (.getfield 15, 3) := by decide +kernel
theorem dX3_wordCount_4 : decode cX3_wordCount 4 = .ok (.bipush 16, 2) := by decide +kernel
theorem dX3_wordCount_6 : decode cX3_wordCount 6 = .ok (.iadd, 1) := by decide +kernel
theorem dX3_wordCount_7 : decode cX3_wordCount 7 = .ok (.iconst 1, 1) := by decide +kernel
theorem dX3_wordCount_8 : decode cX3_wordCount 8 = .ok (.isub, 1) := by decide +kernel
theorem dX3_wordCount_9 : decode cX3_wordCount 9 = .ok (.bipush 16, 2) := by decide +kernel
theorem dX3_wordCount_11 : decode cX3_wordCount 11 = .ok (.idiv, 1) := by decide +kernel
theorem dX3_wordCount_12 : decode cX3_wordCount 12 = .ok (.ireturn, 1) := by decide +kernel
theorem dX3_wordAt_0 : decode cX3_wordAt 0 = .ok (.iload_n 1, 1) := by decide +kernel
theorem dX3_wordAt_1 : decode cX3_wordAt 1 = .ok (.ifCond .lt 21, 3) := by decide +kernel
theorem dX3_wordAt_4 : decode cX3_wordAt 4 = .ok (.iload_n 1, 1) := by decide +kernel
theorem dX3_wordAt_5 : decode cX3_wordAt 5 = .ok (.aload_n 0, 1) := by decide +kernel
theorem dX3_wordAt_6 : decode cX3_wordAt 6 = .ok (.getfield 11, 3) := by decide +kernel
theorem dX3_wordAt_9 : decode cX3_wordAt 9 = .ok (.arraylength, 1) := by decide +kernel
theorem dX3_wordAt_10 : decode cX3_wordAt 10 = .ok (.if_icmp .ge 12, 3) := by decide +kernel
theorem dX3_wordAt_13 : decode cX3_wordAt 13 = .ok (.aload_n 0, 1) := by decide +kernel
theorem dX3_wordAt_14 : decode cX3_wordAt 14 = .ok (.getfield 11, 3) := by decide +kernel
theorem dX3_wordAt_17 : decode cX3_wordAt 17 = .ok (.iload_n 1, 1) := by decide +kernel
theorem dX3_wordAt_18 : decode cX3_wordAt 18 = .ok (.iaload, 1) := by decide +kernel
theorem dX3_wordAt_19 : decode cX3_wordAt 19 = .ok (.goto 4, 3) := by decide +kernel
theorem dX3_wordAt_22 : decode cX3_wordAt 22 = .ok (.iconst 0, 1) := by decide +kernel
theorem dX3_wordAt_23 : decode cX3_wordAt 23 = .ok (.ireturn, 1) := by decide +kernel
set_option maxRecDepth 20000 in
theorem ggX3_begin_J7_fill_53178 : GoodIn wsX3_begin wsJ7_fill_53178 := goodIn_r _ [7] (by decide +kernel) (by decide +kernel)
set_option maxRecDepth 20000 in
theorem gX3_begin_J7_fill_53178 : GoodIn wsX3_begin (va_wsS RX3 72 yJ7_fill_53178 wsJ7_fill_53178) := goodIn_app (goodIn_of _ (by decide +kernel)) ggX3_begin_J7_fill_53178
set_option maxRecDepth 20000 in
theorem ggX3_begin_X3_write : GoodIn wsX3_begin wsX3_write := goodIn_r _ [12, 2, 1, 13, 14, 15, 16, 17, 18] (by decide +kernel) (by decide +kernel)
set_option maxRecDepth 20000 in
theorem gX3_begin_X3_write : GoodIn wsX3_begin (wsV RX3 78 RX3 yX3_write wsX3_write) := goodIn_app (goodIn_of _ (by decide +kernel)) ggX3_begin_X3_write
theorem dX3_begin_0 : decode cX3_begin 0 = .ok (.aload_n 0, 1) := by decide +kernel
theorem dX3_begin_1 : decode cX3_begin 1 = .ok (.getfield 11, 3) := by decide +kernel
theorem dX3_begin_4 : decode cX3_begin 4 = .ok (.iconst 0, 1) := by decide +kernel
theorem dX3_begin_5 : decode cX3_begin 5 = .ok (.invokestatic 72, 3) := by decide +kernel
theorem dX3_begin_8 : decode cX3_begin 8 = .ok (.aload_n 0, 1) := by decide +kernel
theorem dX3_begin_9 : decode cX3_begin 9 = .ok (.iconst 0, 1) := by decide +kernel
theorem dX3_begin_10 : decode cX3_begin 10 = .ok (.putfield 15, 3) := by decide +kernel
theorem dX3_begin_13 : decode cX3_begin 13 = .ok (.aload_n 0, 1) := by decide +kernel
theorem dX3_begin_14 : decode cX3_begin 14 = .ok (.iconst 0, 1) := by decide +kernel
theorem dX3_begin_15 : decode cX3_begin 15 = .ok (.putfield 19, 3) := by decide +kernel
theorem dX3_begin_18 : decode cX3_begin 18 = .ok (.aload_n 0, 1) := by decide +kernel
theorem dX3_begin_19 : decode cX3_begin 19 = .ok (.iload_n 1, 1) := by decide +kernel
theorem dX3_begin_20 : decode cX3_begin 20 = .ok (.bipush 6, 2) := by decide +kernel
theorem dX3_begin_22 : decode cX3_begin 22 = .ok (.invokevirtual 78, 3) := by decide +kernel
theorem dX3_begin_25 : decode cX3_begin 25 = .ok (.return_, 1) := by decide +kernel
set_option maxRecDepth 20000 in
theorem ggX3_add_X3_write : GoodIn wsX3_add wsX3_write := goodIn_r _ [10, 11, 12, 25, 26, 27, 28, 29, 30] (by decide +kernel) (by decide +kernel)
set_option maxRecDepth 20000 in
theorem gX3_add_X3_write : GoodIn wsX3_add (wsV RX3 78 RX3 yX3_write wsX3_write) := goodIn_app (goodIn_of _ (by decide +kernel)) ggX3_add_X3_write
set_option maxRecDepth 20000 in
theorem ggX3_add_X3_addTime : GoodIn wsX3_add wsX3_addTime := goodIn_r _ [16, 2, 6, 7, 8, 9, 10, 11, 12, 17, 18, 19, 25, 26, 27, 28, 29, 30] (by decide +kernel) (by decide +kernel)
set_option maxRecDepth 20000 in
theorem gX3_add_X3_addTime : GoodIn wsX3_add (wsV RX3 82 RX3 yX3_addTime wsX3_addTime) := goodIn_app (goodIn_of _ (by decide +kernel)) ggX3_add_X3_addTime
set_option maxRecDepth 20000 in
theorem ggX3_add_X3_addValue : GoodIn wsX3_add wsX3_addValue := goodIn_r _ [23, 24, 6, 7, 8, 9, 10, 11, 12, 17, 18, 19, 25, 26, 27, 28, 29, 30] (by decide +kernel) (by decide +kernel)
set_option maxRecDepth 20000 in
theorem gX3_add_X3_addValue : GoodIn wsX3_add (wsV RX3 85 RX3 yX3_addValue wsX3_addValue) := goodIn_app (goodIn_of _ (by decide +kernel)) ggX3_add_X3_addValue
theorem dX3_add_0 : decode cX3_add 0 = .ok (.aload_n 0, 1) := by decide +kernel
theorem dX3_add_1 : decode cX3_add 1 = .ok (.getfield 19, 3) := by decide +kernel
theorem dX3_add_4 : decode cX3_add 4 = .ok (.ifCond .ne 28, 3) := by decide +kernel
theorem dX3_add_7 : decode cX3_add 7 = .ok (.aload_n 0, 1) := by decide +kernel
theorem dX3_add_8 : decode cX3_add 8 = .ok (.iload_n 1, 1) := by decide +kernel
theorem dX3_add_9 : decode cX3_add 9 = .ok (.bipush 20, 2) := by decide +kernel
theorem dX3_add_11 : decode cX3_add 11 = .ok (.invokevirtual 78, 3) := by decide +kernel
theorem dX3_add_14 : decode cX3_add 14 = .ok (.aload_n 0, 1) := by decide +kernel
theorem dX3_add_15 : decode cX3_add 15 = .ok (.iload_n 2, 1) := by decide +kernel
theorem dX3_add_16 : decode cX3_add 16 = .ok (.ldc 81, 2) := by decide +kernel
theorem dX3_add_18 : decode cX3_add 18 = .ok (.iadd, 1) := by decide +kernel
theorem dX3_add_19 : decode cX3_add 19 = .ok (.bipush 21, 2) := by decide +kernel
theorem dX3_add_21 : decode cX3_add 21 = .ok (.invokevirtual 78, 3) := by decide +kernel
theorem dX3_add_24 : decode cX3_add 24 = .ok (.aload_n 0, 1) := by decide +kernel
theorem dX3_add_25 : decode cX3_add 25 = .ok (.iconst 0, 1) := by decide +kernel
theorem dX3_add_26 : decode cX3_add 26 = .ok (.putfield 25, 3) := by decide +kernel
theorem dX3_add_29 : decode cX3_add 29 = .ok (.goto 35, 3) := by decide +kernel
theorem dX3_add_32 : decode cX3_add 32 = .ok (.iload_n 1, 1) := by decide +kernel
theorem dX3_add_33 : decode cX3_add 33 = .ok (.aload_n 0, 1) := by decide +kernel
theorem dX3_add_34 : decode cX3_add 34 = .ok (.getfield 22, 3) := by decide +kernel
theorem dX3_add_37 : decode cX3_add 37 = .ok (.isub, 1) := by decide +kernel
theorem dX3_add_38 : decode cX3_add 38 = .ok (.istore_n 3, 1) := by decide +kernel
theorem dX3_add_39 : decode cX3_add 39 = .ok (.aload_n 0, 1) := by decide +kernel
theorem dX3_add_40 : decode cX3_add 40 = .ok (.iload_n 3, 1) := by decide +kernel
theorem dX3_add_41 : decode cX3_add 41 = .ok (.aload_n 0, 1) := by decide +kernel
theorem dX3_add_42 : decode cX3_add 42 = .ok (.getfield 25, 3) := by decide +kernel
theorem dX3_add_45 : decode cX3_add 45 = .ok (.isub, 1) := by decide +kernel
theorem dX3_add_46 : decode cX3_add 46 = .ok (.invokevirtual 82, 3) := by decide +kernel
theorem dX3_add_49 : decode cX3_add 49 = .ok (.aload_n 0, 1) := by decide +kernel
theorem dX3_add_50 : decode cX3_add 50 = .ok (.iload_n 2, 1) := by decide +kernel
theorem dX3_add_51 : decode cX3_add 51 = .ok (.aload_n 0, 1) := by decide +kernel
theorem dX3_add_52 : decode cX3_add 52 = .ok (.getfield 28, 3) := by decide +kernel
theorem dX3_add_55 : decode cX3_add 55 = .ok (.isub, 1) := by decide +kernel
theorem dX3_add_56 : decode cX3_add 56 = .ok (.invokevirtual 85, 3) := by decide +kernel
theorem dX3_add_59 : decode cX3_add 59 = .ok (.aload_n 0, 1) := by decide +kernel
theorem dX3_add_60 : decode cX3_add 60 = .ok (.iload_n 3, 1) := by decide +kernel
theorem dX3_add_61 : decode cX3_add 61 = .ok (.putfield 25, 3) := by decide +kernel
theorem dX3_add_64 : decode cX3_add 64 = .ok (.aload_n 0, 1) := by decide +kernel
theorem dX3_add_65 : decode cX3_add 65 = .ok (.iload_n 1, 1) := by decide +kernel
theorem dX3_add_66 : decode cX3_add 66 = .ok (.putfield 22, 3) := by decide +kernel
theorem dX3_add_69 : decode cX3_add 69 = .ok (.aload_n 0, 1) := by decide +kernel
theorem dX3_add_70 : decode cX3_add 70 = .ok (.iload_n 2, 1) := by decide +kernel
theorem dX3_add_71 : decode cX3_add 71 = .ok (.putfield 28, 3) := by decide +kernel
theorem dX3_add_74 : decode cX3_add 74 = .ok (.aload_n 0, 1) := by decide +kernel
theorem dX3_add_75 : decode cX3_add 75 = .ok (.dup, 1) := by decide +kernel
theorem dX3_add_76 : decode cX3_add 76 = .ok (.getfield 19, 3) := by decide +kernel
theorem dX3_add_79 : decode cX3_add 79 = .ok (.iconst 1, 1) := by decide +kernel
theorem dX3_add_80 : decode cX3_add 80 = .ok (.iadd, 1) := by decide +kernel
theorem dX3_add_81 : decode cX3_add 81 = .ok (.putfield 19, 3) := by decide +kernel
theorem dX3_add_84 : decode cX3_add 84 = .ok (.return_, 1) := by decide +kernel
set_option maxRecDepth 20000 in
theorem ggX3_addTime_X3_write : GoodIn wsX3_addTime wsX3_write := goodIn_r _ [6, 7, 8, 12, 13, 14, 15, 16, 17] (by decide +kernel) (by decide +kernel)
set_option maxRecDepth 20000 in
theorem gX3_addTime_X3_write : GoodIn wsX3_addTime (wsV RX3 78 RX3 yX3_write wsX3_write) := goodIn_app (goodIn_of _ (by decide +kernel)) ggX3_addTime_X3_write
set_option maxRecDepth 20000 in
theorem ggX3_addTime_X9_isIn : GoodIn wsX3_addTime wsX9_isIn := goodIn_r _ [11] (by decide +kernel) (by decide +kernel)
set_option maxRecDepth 20000 in
theorem gX3_addTime_X9_isIn_n88 : GoodIn wsX3_addTime (wsX9_isIn) := ggX3_addTime_X9_isIn
theorem dX3_addTime_0 : decode cX3_addTime 0 = .ok (.iload_n 1, 1) := by decide +kernel
theorem dX3_addTime_1 : decode cX3_addTime 1 = .ok (.ifCond .ne 12, 3) := by decide +kernel
theorem dX3_addTime_4 : decode cX3_addTime 4 = .ok (.aload_n 0, 1) := by decide +kernel
theorem dX3_addTime_5 : decode cX3_addTime 5 = .ok (.iconst 0, 1) := by decide +kernel
theorem dX3_addTime_6 : decode cX3_addTime 6 = .ok (.iconst 1, 1) := by decide +kernel
theorem dX3_addTime_7 : decode cX3_addTime 7 = .ok (.invokevirtual 78, 3) := by decide +kernel
theorem dX3_addTime_10 : decode cX3_addTime 10 = .ok (.goto 90, 3) := by decide +kernel
theorem dX3_addTime_13 : decode cX3_addTime 13 = .ok (.iload_n 1, 1) := by decide +kernel
theorem dX3_addTime_14 : decode cX3_addTime 14 = .ok (.bipush 31, 2) := by decide +kernel
theorem dX3_addTime_16 : decode cX3_addTime 16 = .ok (.iadd, 1) := by decide +kernel
theorem dX3_addTime_17 : decode cX3_addTime 17 = .ok (.i2l, 1) := by decide +kernel
theorem dX3_addTime_18 : decode cX3_addTime 18 = .ok (.iconst 0, 1) := by decide +kernel
theorem dX3_addTime_19 : decode cX3_addTime 19 = .ok (.bipush 63, 2) := by decide +kernel
theorem dX3_addTime_21 : decode cX3_addTime 21 = .ok (.invokestatic 88, 3) := by decide +kernel
theorem dX3_addTime_24 : decode cX3_addTime 24 = .ok (.ifCond .eq 22, 3) := by decide +kernel
theorem dX3_addTime_27 : decode cX3_addTime 27 = .ok (.aload_n 0, 1) := by decide +kernel
theorem dX3_addTime_28 : decode cX3_addTime 28 = .ok (.iconst 2, 1) := by decide +kernel
theorem dX3_addTime_29 : decode cX3_addTime 29 = .ok (.iconst 2, 1) := by decide +kernel
theorem dX3_addTime_30 : decode cX3_addTime 30 = .ok (.invokevirtual 78, 3) := by decide +kernel
theorem dX3_addTime_33 : decode cX3_addTime 33 = .ok (.aload_n 0, 1) := by decide +kernel
theorem dX3_addTime_34 : decode cX3_addTime 34 = .ok (.iload_n 1, 1) := by decide +kernel
theorem dX3_addTime_35 : decode cX3_addTime 35 = .ok (.bipush 31, 2) := by decide +kernel
theorem dX3_addTime_37 : decode cX3_addTime 37 = .ok (.iadd, 1) := by decide +kernel
theorem dX3_addTime_38 : decode cX3_addTime 38 = .ok (.bipush 6, 2) := by decide +kernel
theorem dX3_addTime_40 : decode cX3_addTime 40 = .ok (.invokevirtual 78, 3) := by decide +kernel
theorem dX3_addTime_43 : decode cX3_addTime 43 = .ok (.goto 57, 3) := by decide +kernel
theorem dX3_addTime_46 : decode cX3_addTime 46 = .ok (.iload_n 1, 1) := by decide +kernel
theorem dX3_addTime_47 : decode cX3_addTime 47 = .ok (.sipush 255, 3) := by decide +kernel
theorem dX3_addTime_50 : decode cX3_addTime 50 = .ok (.iadd, 1) := by decide +kernel
theorem dX3_addTime_51 : decode cX3_addTime 51 = .ok (.i2l, 1) := by decide +kernel
theorem dX3_addTime_52 : decode cX3_addTime 52 = .ok (.iconst 0, 1) := by decide +kernel
theorem dX3_addTime_53 : decode cX3_addTime 53 = .ok (.sipush 511, 3) := by decide +kernel
theorem dX3_addTime_56 : decode cX3_addTime 56 = .ok (.invokestatic 88, 3) := by decide +kernel
theorem dX3_addTime_59 : decode cX3_addTime 59 = .ok (.ifCond .eq 24, 3) := by decide +kernel
theorem dX3_addTime_62 : decode cX3_addTime 62 = .ok (.aload_n 0, 1) := by decide +kernel
theorem dX3_addTime_63 : decode cX3_addTime 63 = .ok (.bipush 6, 2) := by decide +kernel
theorem dX3_addTime_65 : decode cX3_addTime 65 = .ok (.iconst 3, 1) := by decide +kernel
theorem dX3_addTime_66 : decode cX3_addTime 66 = .ok (.invokevirtual 78, 3) := by decide +kernel
theorem dX3_addTime_69 : decode cX3_addTime 69 = .ok (.aload_n 0, 1) := by decide +kernel
theorem dX3_addTime_70 : decode cX3_addTime 70 = .ok (.iload_n 1, 1) := by decide +kernel
theorem dX3_addTime_71 : decode cX3_addTime 71 = .ok (.sipush 255, 3) := by decide +kernel
theorem dX3_addTime_74 : decode cX3_addTime 74 = .ok (.iadd, 1) := by decide +kernel
theorem dX3_addTime_75 : decode cX3_addTime 75 = .ok (.bipush 9, 2) := by decide +kernel
theorem dX3_addTime_77 : decode cX3_addTime 77 = .ok (.invokevirtual 78, 3) := by decide +kernel
theorem dX3_addTime_80 : decode cX3_addTime 80 = .ok (.goto 20, 3) := by decide +kernel
theorem dX3_addTime_83 : decode cX3_addTime 83 = .ok (.aload_n 0, 1) := by decide +kernel
theorem dX3_addTime_84 : decode cX3_addTime 84 = .ok (.bipush 7, 2) := by decide +kernel
theorem dX3_addTime_86 : decode cX3_addTime 86 = .ok (.iconst 3, 1) := by decide +kernel
theorem dX3_addTime_87 : decode cX3_addTime 87 = .ok (.invokevirtual 78, 3) := by decide +kernel
theorem dX3_addTime_90 : decode cX3_addTime 90 = .ok (.aload_n 0, 1) := by decide +kernel
theorem dX3_addTime_91 : decode cX3_addTime 91 = .ok (.iload_n 1, 1) := by decide +kernel
theorem dX3_addTime_92 : decode cX3_addTime 92 = .ok (.ldc 81, 2) := by decide +kernel
theorem dX3_addTime_94 : decode cX3_addTime 94 = .ok (.iadd, 1) := by decide +kernel
theorem dX3_addTime_95 : decode cX3_addTime 95 = .ok (.bipush 21, 2) := by decide +kernel
theorem dX3_addTime_97 : decode cX3_addTime 97 = .ok (.invokevirtual 78, 3) := by decide +kernel
theorem dX3_addTime_100 : decode cX3_addTime 100 = .ok (.return_, 1) := by decide +kernel
set_option maxRecDepth 20000 in
theorem ggX3_addValue_X3_write : GoodIn wsX3_addValue wsX3_write := goodIn_r _ [6, 7, 8, 12, 13, 14, 15, 16, 17] (by decide +kernel) (by decide +kernel)
set_option maxRecDepth 20000 in
theorem gX3_addValue_X3_write : GoodIn wsX3_addValue (wsV RX3 78 RX3 yX3_write wsX3_write) := goodIn_app (goodIn_of _ (by decide +kernel)) ggX3_addValue_X3_write
set_option maxRecDepth 20000 in
theorem ggX3_addValue_X9_isIn : GoodIn wsX3_addValue wsX9_isIn := goodIn_r _ [11] (by decide +kernel) (by decide +kernel)
set_option maxRecDepth 20000 in
theorem gX3_addValue_X9_isIn_n88 : GoodIn wsX3_addValue (wsX9_isIn) := ggX3_addValue_X9_isIn
theorem dX3_addValue_0 : decode cX3_addValue 0 = .ok (.iload_n 1, 1) := by decide +kernel
theorem dX3_addValue_1 : decode cX3_addValue 1 = .ok (.ifCond .ne 12, 3) := by decide +kernel
theorem dX3_addValue_4 : decode cX3_addValue 4 = .ok (.aload_n 0, 1) := by decide +kernel
theorem dX3_addValue_5 : decode cX3_addValue 5 = .ok (.iconst 0, 1) := by decide +kernel
theorem dX3_addValue_6 : decode cX3_addValue 6 = .ok (.iconst 1, 1) := by decide +kernel
theorem dX3_addValue_7 : decode cX3_addValue 7 = .ok (.invokevirtual 78, 3) := by decide +kernel
theorem dX3_addValue_10 : decode cX3_addValue 10 = .ok (.goto 89, 3) := by decide +kernel
theorem dX3_addValue_13 : decode cX3_addValue 13 = .ok (.iload_n 1, 1) := by decide +kernel
theorem dX3_addValue_14 : decode cX3_addValue 14 = .ok (.bipush 15, 2) := by decide +kernel
theorem dX3_addValue_16 : decode cX3_addValue 16 = .ok (.iadd, 1) := by decide +kernel
theorem dX3_addValue_17 : decode cX3_addValue 17 = .ok (.i2l, 1) := by decide +kernel
theorem dX3_addValue_18 : decode cX3_addValue 18 = .ok (.iconst 0, 1) := by decide +kernel
theorem dX3_addValue_19 : decode cX3_addValue 19 = .ok (.bipush 31, 2) := by decide +kernel
theorem dX3_addValue_21 : decode cX3_addValue 21 = .ok (.invokestatic 88, 3) := by decide +kernel
theorem dX3_addValue_24 : decode cX3_addValue 24 = .ok (.ifCond .eq 21, 3) := by decide +kernel
theorem dX3_addValue_27 : decode cX3_addValue 27 = .ok (.aload_n 0, 1) := by decide +kernel
theorem dX3_addValue_28 : decode cX3_addValue 28 = .ok (.iconst 2, 1) := by decide +kernel
theorem dX3_addValue_29 : decode cX3_addValue 29 = .ok (.iconst 2, 1) := by decide +kernel
theorem dX3_addValue_30 : decode cX3_addValue 30 = .ok (.invokevirtual 78, 3) := by decide +kernel
theorem dX3_addValue_33 : decode cX3_addValue 33 = .ok (.aload_n 0, 1) := by decide +kernel
theorem dX3_addValue_34 : decode cX3_addValue 34 = .ok (.iload_n 1, 1) := by decide +kernel
theorem dX3_addValue_35 : decode cX3_addValue 35 = .ok (.bipush 15, 2) := by decide +kernel
theorem dX3_addValue_37 : decode cX3_addValue 37 = .ok (.iadd, 1) := by decide +kernel
theorem dX3_addValue_38 : decode cX3_addValue 38 = .ok (.iconst 5, 1) := by decide +kernel
theorem dX3_addValue_39 : decode cX3_addValue 39 = .ok (.invokevirtual 78, 3) := by decide +kernel
theorem dX3_addValue_42 : decode cX3_addValue 42 = .ok (.goto 57, 3) := by decide +kernel
theorem dX3_addValue_45 : decode cX3_addValue 45 = .ok (.iload_n 1, 1) := by decide +kernel
theorem dX3_addValue_46 : decode cX3_addValue 46 = .ok (.sipush 511, 3) := by decide +kernel
theorem dX3_addValue_49 : decode cX3_addValue 49 = .ok (.iadd, 1) := by decide +kernel
theorem dX3_addValue_50 : decode cX3_addValue 50 = .ok (.i2l, 1) := by decide +kernel
theorem dX3_addValue_51 : decode cX3_addValue 51 = .ok (.iconst 0, 1) := by decide +kernel
theorem dX3_addValue_52 : decode cX3_addValue 52 = .ok (.sipush 1023, 3) := by decide +kernel
theorem dX3_addValue_55 : decode cX3_addValue 55 = .ok (.invokestatic 88, 3) := by decide +kernel
theorem dX3_addValue_58 : decode cX3_addValue 58 = .ok (.ifCond .eq 24, 3) := by decide +kernel
theorem dX3_addValue_61 : decode cX3_addValue 61 = .ok (.aload_n 0, 1) := by decide +kernel
theorem dX3_addValue_62 : decode cX3_addValue 62 = .ok (.bipush 6, 2) := by decide +kernel
theorem dX3_addValue_64 : decode cX3_addValue 64 = .ok (.iconst 3, 1) := by decide +kernel
theorem dX3_addValue_65 : decode cX3_addValue 65 = .ok (.invokevirtual 78, 3) := by decide +kernel
theorem dX3_addValue_68 : decode cX3_addValue 68 = .ok (.aload_n 0, 1) := by decide +kernel
theorem dX3_addValue_69 : decode cX3_addValue 69 = .ok (.iload_n 1, 1) := by decide +kernel
theorem dX3_addValue_70 : decode cX3_addValue 70 = .ok (.sipush 511, 3) := by decide +kernel
theorem dX3_addValue_73 : decode cX3_addValue 73 = .ok (.iadd, 1) := by decide +kernel
theorem dX3_addValue_74 : decode cX3_addValue 74 = .ok (.bipush 10, 2) := by decide +kernel
theorem dX3_addValue_76 : decode cX3_addValue 76 = .ok (.invokevirtual 78, 3) := by decide +kernel
theorem dX3_addValue_79 : decode cX3_addValue 79 = .ok (.goto 20, 3) := by decide +kernel
theorem dX3_addValue_82 : decode cX3_addValue 82 = .ok (.aload_n 0, 1) := by decide +kernel
theorem dX3_addValue_83 : decode cX3_addValue 83 = .ok (.bipush 7, 2) := by decide +kernel
theorem dX3_addValue_85 : decode cX3_addValue 85 = .ok (.iconst 3, 1) := by decide +kernel
theorem dX3_addValue_86 : decode cX3_addValue 86 = .ok (.invokevirtual 78, 3) := by decide +kernel
theorem dX3_addValue_89 : decode cX3_addValue 89 = .ok (.aload_n 0, 1) := by decide +kernel
theorem dX3_addValue_90 : decode cX3_addValue 90 = .ok (.iload_n 1, 1) := by decide +kernel
theorem dX3_addValue_91 : decode cX3_addValue 91 = .ok (.ldc 92, 2) := by decide +kernel
theorem dX3_addValue_93 : decode cX3_addValue 93 = .ok (.iadd, 1) := by decide +kernel
theorem dX3_addValue_94 : decode cX3_addValue 94 = .ok (.bipush 19, 2) := by decide +kernel
theorem dX3_addValue_96 : decode cX3_addValue 96 = .ok (.invokevirtual 78, 3) := by decide +kernel
theorem dX3_addValue_99 : decode cX3_addValue 99 = .ok (.return_, 1) := by decide +kernel
theorem dX3_write_0 : decode cX3_write 0 = .ok (.iload_n 2, 1) := by decide +kernel
theorem dX3_write_1 : decode cX3_write 1 = .ok (.iconst 1, 1) := by decide +kernel
theorem dX3_write_2 : decode cX3_write 2 = .ok (.isub, 1) := by decide +kernel
theorem dX3_write_3 : decode cX3_write 3 = .ok (.istore_n 3, 1) := by decide +kernel
theorem dX3_write_4 : decode cX3_write 4 = .ok (.iload_n 3, 1) := by decide +kernel
theorem dX3_write_5 : decode cX3_write 5 = .ok (.ifCond .lt 64, 3) := by decide +kernel
theorem dX3_write_8 : decode cX3_write 8 = .ok (.aload_n 0, 1) := by decide +kernel
theorem dX3_write_9 : decode cX3_write 9 = .ok (.getfield 15, 3) := by decide +kernel
theorem dX3_write_12 : decode cX3_write 12 = .ok (.bipush 16, 2) := by decide +kernel
theorem dX3_write_14 : decode cX3_write 14 = .ok (.idiv, 1) := by decide +kernel
theorem dX3_write_15 : decode cX3_write 15 = .ok (.istore 4, 2) := by decide +kernel
theorem dX3_write_17 : decode cX3_write 17 = .ok (.iload 4, 2) := by decide +kernel
theorem dX3_write_19 : decode cX3_write 19 = .ok (.aload_n 0, 1) := by decide +kernel
theorem dX3_write_20 : decode cX3_write 20 = .ok (.getfield 11, 3) := by decide +kernel
theorem dX3_write_23 : decode cX3_write 23 = .ok (.arraylength, 1) := by decide +kernel
theorem dX3_write_24 : decode cX3_write 24 = .ok (.if_icmp .ge 29, 3) := by decide +kernel
theorem dX3_write_27 : decode cX3_write 27 = .ok (.aload_n 0, 1) := by decide +kernel
theorem dX3_write_28 : decode cX3_write 28 = .ok (.getfield 11, 3) := by decide +kernel
theorem dX3_write_31 : decode cX3_write 31 = .ok (.iload 4, 2) := by decide +kernel
theorem dX3_write_33 : decode cX3_write 33 = .ok (.dup2, 1) := by decide +kernel
theorem dX3_write_34 : decode cX3_write 34 = .ok (.iaload, 1) := by decide +kernel
theorem dX3_write_35 : decode cX3_write 35 = .ok (.iload_n 1, 1) := by decide +kernel
theorem dX3_write_36 : decode cX3_write 36 = .ok (.iload_n 3, 1) := by decide +kernel
theorem dX3_write_37 : decode cX3_write 37 = .ok (.ishr, 1) := by decide +kernel
theorem dX3_write_38 : decode cX3_write 38 = .ok (.iconst 1, 1) := by decide +kernel
theorem dX3_write_39 : decode cX3_write 39 = .ok (.iand, 1) := by decide +kernel
theorem dX3_write_40 : decode cX3_write 40 = .ok (.bipush 15, 2) := by decide +kernel
theorem dX3_write_42 : decode cX3_write 42 = .ok (.aload_n 0, 1) := by decide +kernel
theorem dX3_write_43 : decode cX3_write 43 = .ok (.getfield 15, 3) := by decide +kernel
theorem dX3_write_46 : decode cX3_write 46 = .ok (.bipush 16, 2) := by decide +kernel
theorem dX3_write_48 : decode cX3_write 48 = .ok (.irem, 1) := by decide +kernel
theorem dX3_write_49 : decode cX3_write 49 = .ok (.isub, 1) := by decide +kernel
theorem dX3_write_50 : decode cX3_write 50 = .ok (.ishl, 1) := by decide +kernel
theorem dX3_write_51 : decode cX3_write 51 = .ok (.ior, 1) := by decide +kernel
theorem dX3_write_52 : decode cX3_write 52 = .ok (.iastore, 1) := by decide +kernel
theorem dX3_write_53 : decode cX3_write 53 = .ok (.aload_n 0, 1) := by decide +kernel
theorem dX3_write_54 : decode cX3_write 54 = .ok (.dup, 1) := by decide +kernel
theorem dX3_write_55 : decode cX3_write 55 = .ok (.getfield 15, 3) := by decide +kernel
theorem dX3_write_58 : decode cX3_write 58 = .ok (.iconst 1, 1) := by decide +kernel
theorem dX3_write_59 : decode cX3_write 59 = .ok (.iadd, 1) := by decide +kernel
theorem dX3_write_60 : decode cX3_write 60 = .ok (.putfield 15, 3) := by decide +kernel
theorem dX3_write_63 : decode cX3_write 63 = .ok (.iinc 3 (-1), 3) := by decide +kernel
theorem dX3_write_66 : decode cX3_write 66 = .ok (.goto (-62), 3) := by decide +kernel
theorem dX3_write_69 : decode cX3_write 69 = .ok (.return_, 1) := by decide +kernel
set_option maxRecDepth 20000 in
theorem ggX4_init_X2_init : GoodIn wsX4_init wsX2_init := goodIn_r _ [10, 11, 12, 13, 14, 22, 23, 15, 16, 17, 18, 19, 20, 21] (by decide +kernel) (by decide +kernel)
set_option maxRecDepth 20000 in
theorem gX4_init_X2_init_n5 : GoodIn wsX4_init (wsX2_init) := ggX4_init_X2_init
theorem dX4_init_0 : decode cX4_init 0 = .ok (.aload_n 0, 1) := by decide +kernel
theorem dX4_init_1 : decode cX4_init 1 = .ok (.invokespecial 5, 3) := by decide +kernel
theorem dX4_init_4 : decode cX4_init 4 = .ok (.aload_n 0, 1) := by decide +kernel
theorem dX4_init_5 : decode cX4_init 5 = .ok (.sipush 160, 3) := by decide +kernel
theorem dX4_init_8 : decode cX4_init 8 = .ok (.newarray .int, 2) := by decide +kernel
theorem dX4_init_10 : decode cX4_init 10 = .ok (.putfield 11, 3) := by decide +kernel
theorem dX4_init_13 : decode cX4_init 13 = .ok (.aload_n 0, 1) := by decide +kernel
theorem dX4_init_14 : decode cX4_init 14 = .ok (.sipush 160, 3) := by decide +kernel
theorem dX4_init_17 : decode cX4_init 17 = .ok (.newarray .int, 2) := by decide +kernel
theorem dX4_init_19 : decode cX4_init 19 = .ok (.putfield 15, 3) := by decide +kernel
theorem dX4_init_22 : decode cX4_init 22 = .ok (.aload_n 0, 1) := by decide +kernel
theorem dX4_init_23 : decode cX4_init 23 = .ok (.bipush 9, 2) := by decide +kernel
theorem dX4_init_25 : decode cX4_init 25 = .ok (.newarray .int, 2) := by decide +kernel
theorem dX4_init_27 : decode cX4_init 27 = .ok (.putfield 18, 3) := by decide +kernel
theorem dX4_init_30 : decode cX4_init 30 = .ok (.aload_n 0, 1) := by decide +kernel
theorem dX4_init_31 : decode cX4_init 31 = .ok (.iconst 0, 1) := by decide +kernel
theorem dX4_init_32 : decode cX4_init 32 = .ok (.putfield 21, 3) := by decide +kernel
theorem dX4_init_35 : decode cX4_init 35 = .ok (.aload_n 0, 1) := by decide +kernel
theorem dX4_init_36 : decode cX4_init 36 = .ok (.iconst 0, 1) := by decide +kernel
theorem dX4_init_37 : decode cX4_init 37 = .ok (.putfield 25, 3) := by decide +kernel
theorem dX4_init_40 : decode cX4_init 40 = .ok (.aload_n 0, 1) := by decide +kernel
theorem dX4_init_41 : decode cX4_init 41 = .ok (.iconst (-1), 1) := by decide +kernel
theorem dX4_init_42 : decode cX4_init 42 = .ok (.putfield 28, 3) := by decide +kernel
theorem dX4_init_45 : decode cX4_init 45 = .ok (.return_, 1) := by decide +kernel
theorem dX4_number_0 : decode cX4_number 0 = .ok (.iload_n 1, 1) := by decide +kernel
theorem dX4_number_1 : decode cX4_number 1 = .ok (.ifCond .lt 21, 3) := by decide +kernel
theorem dX4_number_4 : decode cX4_number 4 = .ok (.iload_n 1, 1) := by decide +kernel
theorem dX4_number_5 : decode cX4_number 5 = .ok (.aload_n 0, 1) := by decide +kernel
theorem dX4_number_6 : decode cX4_number 6 = .ok (.getfield 11, 3) := by decide +kernel
theorem dX4_number_9 : decode cX4_number 9 = .ok (.arraylength, 1) := by decide +kernel
theorem dX4_number_10 : decode cX4_number 10 = .ok (.if_icmp .ge 12, 3) := by decide +kernel
theorem dX4_number_13 : decode cX4_number 13 = .ok (.iload_n 1, 1) := by decide +kernel
theorem dX4_number_14 : decode cX4_number 14 = .ok (.aload_n 0, 1) := by decide +kernel
theorem dX4_number_15 : decode cX4_number 15 = .ok (.getfield 15, 3) := by decide +kernel
theorem dX4_number_18 : decode cX4_number 18 = .ok (.arraylength, 1) := by decide +kernel
theorem dX4_number_19 : decode cX4_number 19 = .ok (.if_icmp .lt 5, 3) := by decide +kernel
theorem dX4_number_22 : decode cX4_number 22 = .ok (.iconst 0, 1) := by decide +kernel
theorem dX4_number_23 : decode cX4_number 23 = .ok (.ireturn, 1) := by decide +kernel
theorem dX4_number_24 : decode cX4_number 24 = .ok (.iload_n 2, 1) := by decide +kernel
theorem dX4_number_25 : decode cX4_number 25 = .ok (.lookupswitch 36 #[(0, 27), (1, 34)], 27) := by decide +kernel
theorem dX4_number_52 : decode cX4_number 52 = .ok (.aload_n 0, 1) := by decide +kernel
theorem dX4_number_53 : decode cX4_number 53 = .ok (.getfield 11, 3) := by decide +kernel
theorem dX4_number_56 : decode cX4_number 56 = .ok (.iload_n 1, 1) := by decide +kernel
theorem dX4_number_57 : decode cX4_number 57 = .ok (.iaload, 1) := by decide +kernel
theorem dX4_number_58 : decode cX4_number 58 = .ok (.ireturn, 1) := by decide +kernel
theorem dX4_number_59 : decode cX4_number 59 = .ok (.iconst 1, 1) := by decide +kernel
theorem dX4_number_60 : decode cX4_number 60 = .ok (.ireturn, 1) := by decide +kernel
theorem dX4_number_61 : decode cX4_number 61 = .ok (.aload_n 0, 1) := by decide +kernel
theorem dX4_number_62 : decode cX4_number 62 = .ok (.getfield 15, 3) := by decide +kernel
theorem dX4_number_65 : decode cX4_number 65 = .ok (.iload_n 1, 1) := by decide +kernel
theorem dX4_number_66 : decode cX4_number 66 = .ok (.iaload, 1) := by decide +kernel
theorem dX4_number_67 : decode cX4_number 67 = .ok (.ireturn, 1) := by decide +kernel
theorem dX4_blockCount_0 : decode cX4_blockCount 0 = .ok (.aload_n 0, 1) := by decide +kernel
theorem dX4_blockCount_1 : decode cX4_blockCount 1 = .ok (.getfield 21, 3) := by decide +kernel
theorem dX4_blockCount_4 : decode cX4_blockCount 4 = .ok (.iconst 1, 1) := by decide +kernel
theorem dX4_blockCount_5 : decode cX4_blockCount 5 = .ok (.iadd, 1) := by decide +kernel
theorem dX4_blockCount_6 : decode cX4_blockCount 6 = .ok (.ireturn, 1) := by decide +kernel
theorem dX4_openSize_0 : decode cX4_openSize 0 = .ok (.aload_n 0, 1) := by decide +kernel
theorem dX4_openSize_1 : decode cX4_openSize 1 = .ok (.getfield 31, 3) := by decide +kernel
theorem dX4_openSize_4 : decode cX4_openSize 4 = .ok (.aload_n 0, 1) := by decide +kernel
theorem dX4_openSize_5 : decode cX4_openSize 5 = .ok (.getfield 25, 3) := by decide +kernel
theorem dX4_openSize_8 : decode cX4_openSize 8 = .ok (.isub, 1) := by decide +kernel
theorem dX4_openSize_9 : decode cX4_openSize 9 = .ok (.ireturn, 1) := by decide +kernel
set_option maxRecDepth 20000 in
theorem ggX4_sizeOf_X4_openSize : GoodIn wsX4_sizeOf wsX4_openSize := goodIn_r _ [7, 8, 9, 10, 18, 19, 11, 12, 13, 14, 15, 16, 17] (by decide +kernel) (by decide +kernel)
set_option maxRecDepth 20000 in
theorem gX4_sizeOf_X4_openSize : GoodIn wsX4_sizeOf (wsV RX4 34 RX4 yX4_openSize wsX4_openSize) := goodIn_app (goodIn_of _ (by decide +kernel)) ggX4_sizeOf_X4_openSize
theorem dX4_sizeOf_0 : decode cX4_sizeOf 0 = .ok (.iload_n 1, 1) := by decide +kernel
theorem dX4_sizeOf_1 : decode cX4_sizeOf 1 = .ok (.ifCond .lt 29, 3) := by decide +kernel
theorem dX4_sizeOf_4 : decode cX4_sizeOf 4 = .ok (.iload_n 1, 1) := by decide +kernel
theorem dX4_sizeOf_5 : decode cX4_sizeOf 5 = .ok (.aload_n 0, 1) := by decide +kernel
theorem dX4_sizeOf_6 : decode cX4_sizeOf 6 = .ok (.getfield 21, 3) := by decide +kernel
theorem dX4_sizeOf_9 : decode cX4_sizeOf 9 = .ok (.if_icmp .ge 21, 3) := by decide +kernel
theorem dX4_sizeOf_12 : decode cX4_sizeOf 12 = .ok (.iload_n 1, 1) := by decide +kernel
theorem dX4_sizeOf_13 : decode cX4_sizeOf 13 = .ok (.aload_n 0, 1) := by decide +kernel
theorem dX4_sizeOf_14 : decode cX4_sizeOf 14 = .ok (.getfield 18, 3) := by decide +kernel
theorem dX4_sizeOf_17 : decode cX4_sizeOf 17 = .ok (.arraylength, 1) := by decide +kernel
theorem dX4_sizeOf_18 : decode cX4_sizeOf 18 = .ok (.if_icmp .ge 12, 3) := by decide +kernel
theorem dX4_sizeOf_21 : decode cX4_sizeOf 21 = .ok (.aload_n 0, 1) := by decide +kernel
theorem dX4_sizeOf_22 : decode cX4_sizeOf 22 = .ok (.getfield 18, 3) := by decide +kernel
theorem dX4_sizeOf_25 : decode cX4_sizeOf 25 = .ok (.iload_n 1, 1) := by decide +kernel
theorem dX4_sizeOf_26 : decode cX4_sizeOf 26 = .ok (.iaload, 1) := by decide +kernel
theorem dX4_sizeOf_27 : decode cX4_sizeOf 27 = .ok (.goto 7, 3) := by decide +kernel
theorem dX4_sizeOf_30 : decode cX4_sizeOf 30 = .ok (.aload_n 0, 1) := by decide +kernel
theorem dX4_sizeOf_31 : decode cX4_sizeOf 31 = .ok (.invokevirtual 34, 3) := by decide +kernel
theorem dX4_sizeOf_34 : decode cX4_sizeOf 34 = .ok (.ireturn, 1) := by decide +kernel
set_option maxRecDepth 20000 in
theorem ggX4_startOf_X4_sizeOf : GoodIn wsX4_startOf wsX4_sizeOf := goodIn_r _ [6, 1, 7, 8, 9, 10, 5, 11, 12, 13, 14, 15, 16, 17, 18, 19, 20, 21, 22, 23] (by decide +kernel) (by decide +kernel)
set_option maxRecDepth 20000 in
theorem gX4_startOf_X4_sizeOf : GoodIn wsX4_startOf (wsV RX4 38 RX4 yX4_sizeOf wsX4_sizeOf) := goodIn_app (goodIn_of _ (by decide +kernel)) ggX4_startOf_X4_sizeOf
theorem dX4_startOf_0 : decode cX4_startOf 0 = .ok (.iconst 0, 1) := by decide +kernel
theorem dX4_startOf_1 : decode cX4_startOf 1 = .ok (.istore_n 2, 1) := by decide +kernel
theorem dX4_startOf_2 : decode cX4_startOf 2 = .ok (.iconst 0, 1) := by decide +kernel
theorem dX4_startOf_3 : decode cX4_startOf 3 = .ok (.istore_n 3, 1) := by decide +kernel
theorem dX4_startOf_4 : decode cX4_startOf 4 = .ok (.iload_n 3, 1) := by decide +kernel
theorem dX4_startOf_5 : decode cX4_startOf 5 = .ok (.iload_n 1, 1) := by decide +kernel
theorem dX4_startOf_6 : decode cX4_startOf 6 = .ok (.if_icmp .ge 25, 3) := by decide +kernel
theorem dX4_startOf_9 : decode cX4_startOf 9 = .ok (.iload_n 3, 1) := by decide +kernel
theorem dX4_startOf_10 : decode cX4_startOf 10 = .ok (.aload_n 0, 1) := by decide +kernel
theorem dX4_startOf_11 : decode cX4_startOf 11 = .ok (.getfield 21, 3) := by decide +kernel
theorem dX4_startOf_14 : decode cX4_startOf 14 = .ok (.if_icmp .ge 17, 3) := by decide +kernel
theorem dX4_startOf_17 : decode cX4_startOf 17 = .ok (.iload_n 2, 1) := by decide +kernel
theorem dX4_startOf_18 : decode cX4_startOf 18 = .ok (.aload_n 0, 1) := by decide +kernel
theorem dX4_startOf_19 : decode cX4_startOf 19 = .ok (.iload_n 3, 1) := by decide +kernel
theorem dX4_startOf_20 : decode cX4_startOf 20 = .ok (.invokevirtual 38, 3) := by decide +kernel
theorem dX4_startOf_23 : decode cX4_startOf 23 = .ok (.iadd, 1) := by decide +kernel
theorem dX4_startOf_24 : decode cX4_startOf 24 = .ok (.istore_n 2, 1) := by decide +kernel
theorem dX4_startOf_25 : decode cX4_startOf 25 = .ok (.iinc 3 1, 3) := by decide +kernel
theorem dX4_startOf_28 : decode cX4_startOf 28 = .ok (.goto (-24), 3) := by decide +kernel
theorem dX4_startOf_31 : decode cX4_startOf 31 = .ok (.iload_n 2, 1) := by decide +kernel
theorem dX4_startOf_32 : decode cX4_startOf 32 = .ok (.ireturn, 1) := by decide +kernel
theorem dX4_isLate_0 : decode cX4_isLate 0 = .ok (.iload_n 1, 1) := by decide +kernel
theorem dX4_isLate_1 : decode cX4_isLate 1 = .ok (.aload_n 0, 1) := by decide +kernel
theorem dX4_isLate_2 : decode cX4_isLate 2 = .ok (.getfield 28, 3) := by decide +kernel
theorem dX4_isLate_5 : decode cX4_isLate 5 = .ok (.if_icmp .gt 7, 3) := by decide +kernel
theorem dX4_isLate_8 : decode cX4_isLate 8 = .ok (.iconst 1, 1) := by decide +kernel
theorem dX4_isLate_9 : decode cX4_isLate 9 = .ok (.goto 4, 3) := by decide +kernel
theorem dX4_isLate_12 : decode cX4_isLate 12 = .ok (.iconst 0, 1) := by decide +kernel
theorem dX4_isLate_13 : decode cX4_isLate 13 = .ok (.ireturn, 1) := by decide +kernel
set_option maxRecDepth 20000 in
theorem ggX4_placeOf_X4_number : GoodIn wsX4_placeOf wsX4_number := goodIn_r _ [8, 9, 10, 11, 12, 13, 14, 15, 16, 17] (by decide +kernel) (by decide +kernel)
set_option maxRecDepth 20000 in
theorem gX4_placeOf_X4_number : GoodIn wsX4_placeOf (wsV RX4 42 RX4 yX4_number wsX4_number) := goodIn_app (goodIn_of _ (by decide +kernel)) ggX4_placeOf_X4_number
theorem dX4_placeOf_0 : decode cX4_placeOf 0 = .ok (.aload_n 0, 1) := by decide +kernel
theorem dX4_placeOf_1 : decode cX4_placeOf 1 = .ok (.getfield 25, 3) := by decide +kernel
theorem dX4_placeOf_4 : decode cX4_placeOf 4 = .ok (.istore_n 2, 1) := by decide +kernel
theorem dX4_placeOf_5 : decode cX4_placeOf 5 = .ok (.iload_n 2, 1) := by decide +kernel
theorem dX4_placeOf_6 : decode cX4_placeOf 6 = .ok (.aload_n 0, 1) := by decide +kernel
theorem dX4_placeOf_7 : decode cX4_placeOf 7 = .ok (.getfield 31, 3) := by decide +kernel
theorem dX4_placeOf_10 : decode cX4_placeOf 10 = .ok (.if_icmp .ge 21, 3) := by decide +kernel
theorem dX4_placeOf_13 : decode cX4_placeOf 13 = .ok (.aload_n 0, 1) := by decide +kernel
theorem dX4_placeOf_14 : decode cX4_placeOf 14 = .ok (.iload_n 2, 1) := by decide +kernel
theorem dX4_placeOf_15 : decode cX4_placeOf 15 = .ok (.iconst 0, 1) := by decide +kernel
theorem dX4_placeOf_16 : decode cX4_placeOf 16 = .ok (.invokevirtual 42, 3) := by decide +kernel
theorem dX4_placeOf_19 : decode cX4_placeOf 19 = .ok (.iload_n 1, 1) := by decide +kernel
theorem dX4_placeOf_20 : decode cX4_placeOf 20 = .ok (.if_icmp .lt 5, 3) := by decide +kernel
theorem dX4_placeOf_23 : decode cX4_placeOf 23 = .ok (.iload_n 2, 1) := by decide +kernel
theorem dX4_placeOf_24 : decode cX4_placeOf 24 = .ok (.ireturn, 1) := by decide +kernel
theorem dX4_placeOf_25 : decode cX4_placeOf 25 = .ok (.iinc 2 1, 3) := by decide +kernel
theorem dX4_placeOf_28 : decode cX4_placeOf 28 = .ok (.goto (-23), 3) := by decide +kernel
theorem dX4_placeOf_31 : decode cX4_placeOf 31 = .ok (.aload_n 0, 1) := by decide +kernel
theorem dX4_placeOf_32 : decode cX4_placeOf 32 = .ok (.getfield 31, 3) := by decide +kernel
theorem dX4_placeOf_35 : decode cX4_placeOf 35 = .ok (.ireturn, 1) := by decide +kernel
set_option maxRecDepth 20000 in
theorem ggX4_isTakenAt_X4_number : GoodIn wsX4_isTakenAt wsX4_number := goodIn_r _ [7, 8, 9, 12, 13, 14, 15, 16, 17, 18] (by decide +kernel) (by decide +kernel)
set_option maxRecDepth 20000 in
theorem gX4_isTakenAt_X4_number : GoodIn wsX4_isTakenAt (wsV RX4 42 RX4 yX4_number wsX4_number) := goodIn_app (goodIn_of _ (by decide +kernel)) ggX4_isTakenAt_X4_number
theorem dX4_isTakenAt_0 : decode cX4_isTakenAt 0 = .ok (.iload_n 1, 1) := by decide +kernel
theorem dX4_isTakenAt_1 : decode cX4_isTakenAt 1 = .ok (.aload_n 0, 1) := by decide +kernel
theorem dX4_isTakenAt_2 : decode cX4_isTakenAt 2 = .ok (.getfield 31, 3) := by decide +kernel
theorem dX4_isTakenAt_5 : decode cX4_isTakenAt 5 = .ok (.if_icmp .ge 17, 3) := by decide +kernel
theorem dX4_isTakenAt_8 : decode cX4_isTakenAt 8 = .ok (.aload_n 0, 1) := by decide +kernel
theorem dX4_isTakenAt_9 : decode cX4_isTakenAt 9 = .ok (.iload_n 1, 1) := by decide +kernel
theorem dX4_isTakenAt_10 : decode cX4_isTakenAt 10 = .ok (.iconst 0, 1) := by decide +kernel
theorem dX4_isTakenAt_11 : decode cX4_isTakenAt 11 = .ok (.invokevirtual 42, 3) := by decide +kernel
theorem dX4_isTakenAt_14 : decode cX4_isTakenAt 14 = .ok (.iload_n 2, 1) := by decide +kernel
theorem dX4_isTakenAt_15 : decode cX4_isTakenAt 15 = .ok (.if_icmp .ne 7, 3) := by decide +kernel
theorem dX4_isTakenAt_18 : decode cX4_isTakenAt 18 = .ok (.iconst 1, 1) := by decide +kernel
theorem dX4_isTakenAt_19 : decode cX4_isTakenAt 19 = .ok (.goto 4, 3) := by decide +kernel
theorem dX4_isTakenAt_22 : decode cX4_isTakenAt 22 = .ok (.iconst 0, 1) := by decide +kernel
theorem dX4_isTakenAt_23 : decode cX4_isTakenAt 23 = .ok (.ireturn, 1) := by decide +kernel
set_option maxRecDepth 20000 in
theorem ggX4_add_X4_placeOf : GoodIn wsX4_add wsX4_placeOf := goodIn_r _ [7, 8, 1, 2, 9, 10, 11, 6, 12, 13, 14, 29, 30, 31, 32, 33, 34, 35, 27, 28] (by decide +kernel) (by decide +kernel)
set_option maxRecDepth 20000 in
theorem gX4_add_X4_placeOf : GoodIn wsX4_add (wsV RX4 46 RX4 yX4_placeOf wsX4_placeOf) := goodIn_app (goodIn_of _ (by decide +kernel)) ggX4_add_X4_placeOf
set_option maxRecDepth 20000 in
theorem ggX4_add_X4_isTakenAt : GoodIn wsX4_add wsX4_isTakenAt := goodIn_r _ [18, 1, 2, 9, 10, 11, 6, 12, 13, 14, 27, 28, 29, 30, 31, 32, 33, 34, 35] (by decide +kernel) (by decide +kernel)
set_option maxRecDepth 20000 in
theorem gX4_add_X4_isTakenAt : GoodIn wsX4_add (wsV RX4 49 RX4 yX4_isTakenAt wsX4_isTakenAt) := goodIn_app (goodIn_of _ (by decide +kernel)) ggX4_add_X4_isTakenAt
set_option maxRecDepth 20000 in
theorem ggX4_add_X4_copyPoint : GoodIn wsX4_add wsX4_copyPoint := goodIn_r _ [22, 9, 10, 11, 6, 12, 13, 14, 23, 24, 25, 26, 29, 30, 31, 32, 33, 34, 35] (by decide +kernel) (by decide +kernel)
set_option maxRecDepth 20000 in
theorem gX4_add_X4_copyPoint : GoodIn wsX4_add (wsV RX4 53 RX4 yX4_copyPoint wsX4_copyPoint) := goodIn_app (goodIn_of _ (by decide +kernel)) ggX4_add_X4_copyPoint
set_option maxRecDepth 20000 in
theorem ggX4_add_X4_write : GoodIn wsX4_add wsX4_write := goodIn_r _ [26, 13, 14, 29, 30, 31, 32, 33, 34, 35] (by decide +kernel) (by decide +kernel)
set_option maxRecDepth 20000 in
theorem gX4_add_X4_write : GoodIn wsX4_add (wsV RX4 57 RX4 yX4_write wsX4_write) := goodIn_app (goodIn_of _ (by decide +kernel)) ggX4_add_X4_write
theorem dX4_add_0 : decode cX4_add 0 = .ok (.aload_n 0, 1) := by decide +kernel
theorem dX4_add_1 : decode cX4_add 1 = .ok (.iload_n 1, 1) := by decide +kernel
theorem dX4_add_2 : decode cX4_add 2 = .ok (.invokevirtual 46, 3) := by decide +kernel
theorem dX4_add_5 : decode cX4_add 5 = .ok (.istore_n 3, 1) := by decide +kernel
theorem dX4_add_6 : decode cX4_add 6 = .ok (.aload_n 0, 1) := by decide +kernel
theorem dX4_add_7 : decode cX4_add 7 = .ok (.iload_n 3, 1) := by decide +kernel
theorem dX4_add_8 : decode cX4_add 8 = .ok (.iload_n 1, 1) := by decide +kernel
theorem dX4_add_9 : decode cX4_add 9 = .ok (.invokevirtual 49, 3) := by decide +kernel
theorem dX4_add_12 : decode cX4_add 12 = .ok (.ifCond .ne 41, 3) := by decide +kernel
theorem dX4_add_15 : decode cX4_add 15 = .ok (.aload_n 0, 1) := by decide +kernel
theorem dX4_add_16 : decode cX4_add 16 = .ok (.getfield 31, 3) := by decide +kernel
theorem dX4_add_19 : decode cX4_add 19 = .ok (.istore 4, 2) := by decide +kernel
theorem dX4_add_21 : decode cX4_add 21 = .ok (.iload 4, 2) := by decide +kernel
theorem dX4_add_23 : decode cX4_add 23 = .ok (.iload_n 3, 1) := by decide +kernel
theorem dX4_add_24 : decode cX4_add 24 = .ok (.if_icmp .le 19, 3) := by decide +kernel
theorem dX4_add_27 : decode cX4_add 27 = .ok (.aload_n 0, 1) := by decide +kernel
theorem dX4_add_28 : decode cX4_add 28 = .ok (.iload 4, 2) := by decide +kernel
theorem dX4_add_30 : decode cX4_add 30 = .ok (.iconst 1, 1) := by decide +kernel
theorem dX4_add_31 : decode cX4_add 31 = .ok (.isub, 1) := by decide +kernel
theorem dX4_add_32 : decode cX4_add 32 = .ok (.iload 4, 2) := by decide +kernel
theorem dX4_add_34 : decode cX4_add 34 = .ok (.invokevirtual 53, 3) := by decide +kernel
theorem dX4_add_37 : decode cX4_add 37 = .ok (.iinc 4 (-1), 3) := by decide +kernel
theorem dX4_add_40 : decode cX4_add 40 = .ok (.goto (-19), 3) := by decide +kernel
theorem dX4_add_43 : decode cX4_add 43 = .ok (.aload_n 0, 1) := by decide +kernel
theorem dX4_add_44 : decode cX4_add 44 = .ok (.dup, 1) := by decide +kernel
theorem dX4_add_45 : decode cX4_add 45 = .ok (.getfield 31, 3) := by decide +kernel
theorem dX4_add_48 : decode cX4_add 48 = .ok (.iconst 1, 1) := by decide +kernel
theorem dX4_add_49 : decode cX4_add 49 = .ok (.iadd, 1) := by decide +kernel
theorem dX4_add_50 : decode cX4_add 50 = .ok (.putfield 31, 3) := by decide +kernel
theorem dX4_add_53 : decode cX4_add 53 = .ok (.aload_n 0, 1) := by decide +kernel
theorem dX4_add_54 : decode cX4_add 54 = .ok (.iload_n 3, 1) := by decide +kernel
theorem dX4_add_55 : decode cX4_add 55 = .ok (.iload_n 1, 1) := by decide +kernel
theorem dX4_add_56 : decode cX4_add 56 = .ok (.iload_n 2, 1) := by decide +kernel
theorem dX4_add_57 : decode cX4_add 57 = .ok (.invokevirtual 57, 3) := by decide +kernel
theorem dX4_add_60 : decode cX4_add 60 = .ok (.return_, 1) := by decide +kernel
theorem dX4_hasTooManySealed_0 : decode cX4_hasTooManySealed 0 = .ok (.aload_n 0, 1) := by decide +kernel
theorem dX4_hasTooManySealed_1 : decode cX4_hasTooManySealed 1 = .ok (.getfield 21, 3) := by decide +kernel
theorem dX4_hasTooManySealed_4 : decode cX4_hasTooManySealed 4 = .ok (.bipush 8, 2) := by decide +kernel
theorem dX4_hasTooManySealed_6 : decode cX4_hasTooManySealed 6 = .ok (.if_icmp .le 7, 3) := by decide +kernel
theorem dX4_hasTooManySealed_9 : decode cX4_hasTooManySealed 9 = .ok (.iconst 1, 1) := by decide +kernel
theorem dX4_hasTooManySealed_10 : decode cX4_hasTooManySealed 10 = .ok (.goto 4, 3) := by decide +kernel
theorem dX4_hasTooManySealed_13 : decode cX4_hasTooManySealed 13 = .ok (.iconst 0, 1) := by decide +kernel
theorem dX4_hasTooManySealed_14 : decode cX4_hasTooManySealed 14 = .ok (.ireturn, 1) := by decide +kernel
set_option maxRecDepth 20000 in
theorem ggX4_seal_X4_openSize : GoodIn wsX4_seal wsX4_openSize := goodIn_r _ [11, 3, 4, 5, 25, 26, 18, 19, 20, 21, 22, 23, 24] (by decide +kernel) (by decide +kernel)
set_option maxRecDepth 20000 in
theorem gX4_seal_X4_openSize : GoodIn wsX4_seal (wsV RX4 34 RX4 yX4_openSize wsX4_openSize) := goodIn_app (goodIn_of _ (by decide +kernel)) ggX4_seal_X4_openSize
set_option maxRecDepth 20000 in
theorem ggX4_seal_X4_number : GoodIn wsX4_seal wsX4_number := goodIn_r _ [15, 16, 17, 18, 19, 20, 21, 22, 23, 24] (by decide +kernel) (by decide +kernel)
set_option maxRecDepth 20000 in
theorem gX4_seal_X4_number : GoodIn wsX4_seal (wsV RX4 42 RX4 yX4_number wsX4_number) := goodIn_app (goodIn_of _ (by decide +kernel)) ggX4_seal_X4_number
theorem dX4_seal_0 : decode cX4_seal 0 = .ok (.aload_n 0, 1) := by decide +kernel
theorem dX4_seal_1 : decode cX4_seal 1 = .ok (.getfield 21, 3) := by decide +kernel
theorem dX4_seal_4 : decode cX4_seal 4 = .ok (.aload_n 0, 1) := by decide +kernel
theorem dX4_seal_5 : decode cX4_seal 5 = .ok (.getfield 18, 3) := by decide +kernel
theorem dX4_seal_8 : decode cX4_seal 8 = .ok (.arraylength, 1) := by decide +kernel
theorem dX4_seal_9 : decode cX4_seal 9 = .ok (.if_icmp .ge 56, 3) := by decide +kernel
theorem dX4_seal_12 : decode cX4_seal 12 = .ok (.aload_n 0, 1) := by decide +kernel
theorem dX4_seal_13 : decode cX4_seal 13 = .ok (.invokevirtual 34, 3) := by decide +kernel
theorem dX4_seal_16 : decode cX4_seal 16 = .ok (.ifCond .le 49, 3) := by decide +kernel
theorem dX4_seal_19 : decode cX4_seal 19 = .ok (.aload_n 0, 1) := by decide +kernel
theorem dX4_seal_20 : decode cX4_seal 20 = .ok (.getfield 18, 3) := by decide +kernel
theorem dX4_seal_23 : decode cX4_seal 23 = .ok (.aload_n 0, 1) := by decide +kernel
theorem dX4_seal_24 : decode cX4_seal 24 = .ok (.getfield 21, 3) := by decide +kernel
theorem dX4_seal_27 : decode cX4_seal 27 = .ok (.aload_n 0, 1) := by decide +kernel
theorem dX4_seal_28 : decode cX4_seal 28 = .ok (.invokevirtual 34, 3) := by decide +kernel
theorem dX4_seal_31 : decode cX4_seal 31 = .ok (.iastore, 1) := by decide +kernel
theorem dX4_seal_32 : decode cX4_seal 32 = .ok (.aload_n 0, 1) := by decide +kernel
theorem dX4_seal_33 : decode cX4_seal 33 = .ok (.dup, 1) := by decide +kernel
theorem dX4_seal_34 : decode cX4_seal 34 = .ok (.getfield 21, 3) := by decide +kernel
theorem dX4_seal_37 : decode cX4_seal 37 = .ok (.iconst 1, 1) := by decide +kernel
theorem dX4_seal_38 : decode cX4_seal 38 = .ok (.iadd, 1) := by decide +kernel
theorem dX4_seal_39 : decode cX4_seal 39 = .ok (.putfield 21, 3) := by decide +kernel
theorem dX4_seal_42 : decode cX4_seal 42 = .ok (.aload_n 0, 1) := by decide +kernel
theorem dX4_seal_43 : decode cX4_seal 43 = .ok (.aload_n 0, 1) := by decide +kernel
theorem dX4_seal_44 : decode cX4_seal 44 = .ok (.getfield 31, 3) := by decide +kernel
theorem dX4_seal_47 : decode cX4_seal 47 = .ok (.putfield 25, 3) := by decide +kernel
theorem dX4_seal_50 : decode cX4_seal 50 = .ok (.aload_n 0, 1) := by decide +kernel
theorem dX4_seal_51 : decode cX4_seal 51 = .ok (.aload_n 0, 1) := by decide +kernel
theorem dX4_seal_52 : decode cX4_seal 52 = .ok (.aload_n 0, 1) := by decide +kernel
theorem dX4_seal_53 : decode cX4_seal 53 = .ok (.getfield 31, 3) := by decide +kernel
theorem dX4_seal_56 : decode cX4_seal 56 = .ok (.iconst 1, 1) := by decide +kernel
theorem dX4_seal_57 : decode cX4_seal 57 = .ok (.isub, 1) := by decide +kernel
theorem dX4_seal_58 : decode cX4_seal 58 = .ok (.iconst 0, 1) := by decide +kernel
theorem dX4_seal_59 : decode cX4_seal 59 = .ok (.invokevirtual 42, 3) := by decide +kernel
theorem dX4_seal_62 : decode cX4_seal 62 = .ok (.putfield 28, 3) := by decide +kernel
theorem dX4_seal_65 : decode cX4_seal 65 = .ok (.return_, 1) := by decide +kernel
set_option maxRecDepth 20000 in
theorem ggX4_dropFirstBlock_X4_sizeOf : GoodIn wsX4_dropFirstBlock wsX4_sizeOf := goodIn_r _ [10, 1, 4, 11, 12, 13, 9, 14, 2, 3, 5, 29, 30, 31, 32, 33, 34, 35, 36, 37] (by decide +kernel) (by decide +kernel)
set_option maxRecDepth 20000 in
theorem gX4_dropFirstBlock_X4_sizeOf : GoodIn wsX4_dropFirstBlock (wsV RX4 38 RX4 yX4_sizeOf wsX4_sizeOf) := goodIn_app (goodIn_of _ (by decide +kernel)) ggX4_dropFirstBlock_X4_sizeOf
set_option maxRecDepth 20000 in
theorem ggX4_dropFirstBlock_X4_copyPoint : GoodIn wsX4_dropFirstBlock wsX4_copyPoint := goodIn_r _ [18, 19, 20, 21, 9, 22, 23, 24, 25, 26, 27, 28, 29, 30, 31, 32, 33, 34, 35] (by decide +kernel) (by decide +kernel)
set_option maxRecDepth 20000 in
theorem gX4_dropFirstBlock_X4_copyPoint : GoodIn wsX4_dropFirstBlock (wsV RX4 53 RX4 yX4_copyPoint wsX4_copyPoint) := goodIn_app (goodIn_of _ (by decide +kernel)) ggX4_dropFirstBlock_X4_copyPoint
theorem dX4_dropFirstBlock_0 : decode cX4_dropFirstBlock 0 = .ok (.aload_n 0, 1) := by decide +kernel
theorem dX4_dropFirstBlock_1 : decode cX4_dropFirstBlock 1 = .ok (.getfield 21, 3) := by decide +kernel
theorem dX4_dropFirstBlock_4 : decode cX4_dropFirstBlock 4 = .ok (.ifCond .gt 4, 3) := by decide +kernel
theorem dX4_dropFirstBlock_7 : decode cX4_dropFirstBlock 7 = .ok (.return_, 1) := by decide +kernel
theorem dX4_dropFirstBlock_8 : decode cX4_dropFirstBlock 8 = .ok (.aload_n 0, 1) := by decide +kernel
theorem dX4_dropFirstBlock_9 : decode cX4_dropFirstBlock 9 = .ok (.iconst 0, 1) := by decide +kernel
theorem dX4_dropFirstBlock_10 : decode cX4_dropFirstBlock 10 = .ok (.invokevirtual 38, 3) := by decide +kernel
theorem dX4_dropFirstBlock_13 : decode cX4_dropFirstBlock 13 = .ok (.istore_n 1, 1) := by decide +kernel
theorem dX4_dropFirstBlock_14 : decode cX4_dropFirstBlock 14 = .ok (.iload_n 1, 1) := by decide +kernel
theorem dX4_dropFirstBlock_15 : decode cX4_dropFirstBlock 15 = .ok (.istore_n 2, 1) := by decide +kernel
theorem dX4_dropFirstBlock_16 : decode cX4_dropFirstBlock 16 = .ok (.iload_n 2, 1) := by decide +kernel
theorem dX4_dropFirstBlock_17 : decode cX4_dropFirstBlock 17 = .ok (.aload_n 0, 1) := by decide +kernel
theorem dX4_dropFirstBlock_18 : decode cX4_dropFirstBlock 18 = .ok (.getfield 31, 3) := by decide +kernel
theorem dX4_dropFirstBlock_21 : decode cX4_dropFirstBlock 21 = .ok (.if_icmp .ge 17, 3) := by decide +kernel
theorem dX4_dropFirstBlock_24 : decode cX4_dropFirstBlock 24 = .ok (.aload_n 0, 1) := by decide +kernel
theorem dX4_dropFirstBlock_25 : decode cX4_dropFirstBlock 25 = .ok (.iload_n 2, 1) := by decide +kernel
theorem dX4_dropFirstBlock_26 : decode cX4_dropFirstBlock 26 = .ok (.iload_n 2, 1) := by decide +kernel
theorem dX4_dropFirstBlock_27 : decode cX4_dropFirstBlock 27 = .ok (.iload_n 1, 1) := by decide +kernel
theorem dX4_dropFirstBlock_28 : decode cX4_dropFirstBlock 28 = .ok (.isub, 1) := by decide +kernel
theorem dX4_dropFirstBlock_29 : decode cX4_dropFirstBlock 29 = .ok (.invokevirtual 53, 3) := by decide +kernel
theorem dX4_dropFirstBlock_32 : decode cX4_dropFirstBlock 32 = .ok (.iinc 2 1, 3) := by decide +kernel
theorem dX4_dropFirstBlock_35 : decode cX4_dropFirstBlock 35 = .ok (.goto (-19), 3) := by decide +kernel
theorem dX4_dropFirstBlock_38 : decode cX4_dropFirstBlock 38 = .ok (.iconst 1, 1) := by decide +kernel
theorem dX4_dropFirstBlock_39 : decode cX4_dropFirstBlock 39 = .ok (.istore_n 2, 1) := by decide +kernel
theorem dX4_dropFirstBlock_40 : decode cX4_dropFirstBlock 40 = .ok (.iload_n 2, 1) := by decide +kernel
theorem dX4_dropFirstBlock_41 : decode cX4_dropFirstBlock 41 = .ok (.aload_n 0, 1) := by decide +kernel
theorem dX4_dropFirstBlock_42 : decode cX4_dropFirstBlock 42 = .ok (.getfield 21, 3) := by decide +kernel
theorem dX4_dropFirstBlock_45 : decode cX4_dropFirstBlock 45 = .ok (.if_icmp .ge 32, 3) := by decide +kernel
theorem dX4_dropFirstBlock_48 : decode cX4_dropFirstBlock 48 = .ok (.iload_n 2, 1) := by decide +kernel
theorem dX4_dropFirstBlock_49 : decode cX4_dropFirstBlock 49 = .ok (.aload_n 0, 1) := by decide +kernel
theorem dX4_dropFirstBlock_50 : decode cX4_dropFirstBlock 50 = .ok (.getfield 18, 3) := by decide +kernel
theorem dX4_dropFirstBlock_53 : decode cX4_dropFirstBlock 53 = .ok (.arraylength, 1) := by decide +kernel
theorem dX4_dropFirstBlock_54 : decode cX4_dropFirstBlock 54 = .ok (.if_icmp .ge 23, 3) := by decide +kernel
theorem dX4_dropFirstBlock_57 : decode cX4_dropFirstBlock 57 = .ok (.aload_n 0, 1) := by decide +kernel
theorem dX4_dropFirstBlock_58 : decode cX4_dropFirstBlock 58 = .ok (.getfield 18, 3) := by decide +kernel
theorem dX4_dropFirstBlock_61 : decode cX4_dropFirstBlock 61 = .ok (.iload_n 2, 1) := by decide +kernel
theorem dX4_dropFirstBlock_62 : decode cX4_dropFirstBlock 62 = .ok (.iconst 1, 1) := by decide +kernel
theorem dX4_dropFirstBlock_63 : decode cX4_dropFirstBlock 63 = .ok (.isub, 1) := by decide +kernel
theorem dX4_dropFirstBlock_64 : decode cX4_dropFirstBlock 64 = .ok (.aload_n 0, 1) := by decide +kernel
theorem dX4_dropFirstBlock_65 : decode cX4_dropFirstBlock 65 = .ok (.getfield 18, 3) := by decide +kernel
theorem dX4_dropFirstBlock_68 : decode cX4_dropFirstBlock 68 = .ok (.iload_n 2, 1) := by decide +kernel
theorem dX4_dropFirstBlock_69 : decode cX4_dropFirstBlock 69 = .ok (.iaload, 1) := by decide +kernel
theorem dX4_dropFirstBlock_70 : decode cX4_dropFirstBlock 70 = .ok (.iastore, 1) := by decide +kernel
theorem dX4_dropFirstBlock_71 : decode cX4_dropFirstBlock 71 = .ok (.iinc 2 1, 3) := by decide +kernel
theorem dX4_dropFirstBlock_74 : decode cX4_dropFirstBlock 74 = .ok (.goto (-34), 3) := by decide +kernel
theorem dX4_dropFirstBlock_77 : decode cX4_dropFirstBlock 77 = .ok (.aload_n 0, 1) := by decide +kernel
theorem dX4_dropFirstBlock_78 : decode cX4_dropFirstBlock 78 = .ok (.dup, 1) := by decide +kernel
theorem dX4_dropFirstBlock_79 : decode cX4_dropFirstBlock 79 = .ok (.getfield 31, 3) := by decide +kernel
theorem dX4_dropFirstBlock_82 : decode cX4_dropFirstBlock 82 = .ok (.iload_n 1, 1) := by decide +kernel
theorem dX4_dropFirstBlock_83 : decode cX4_dropFirstBlock 83 = .ok (.isub, 1) := by decide +kernel
theorem dX4_dropFirstBlock_84 : decode cX4_dropFirstBlock 84 = .ok (.putfield 31, 3) := by decide +kernel
theorem dX4_dropFirstBlock_87 : decode cX4_dropFirstBlock 87 = .ok (.aload_n 0, 1) := by decide +kernel
theorem dX4_dropFirstBlock_88 : decode cX4_dropFirstBlock 88 = .ok (.dup, 1) := by decide +kernel
theorem dX4_dropFirstBlock_89 : decode cX4_dropFirstBlock 89 = .ok (.getfield 25, 3) := by decide +kernel
theorem dX4_dropFirstBlock_92 : decode cX4_dropFirstBlock 92 = .ok (.iload_n 1, 1) := by decide +kernel
theorem dX4_dropFirstBlock_93 : decode cX4_dropFirstBlock 93 = .ok (.isub, 1) := by decide +kernel
theorem dX4_dropFirstBlock_94 : decode cX4_dropFirstBlock 94 = .ok (.putfield 25, 3) := by decide +kernel
theorem dX4_dropFirstBlock_97 : decode cX4_dropFirstBlock 97 = .ok (.aload_n 0, 1) := by decide +kernel
theorem dX4_dropFirstBlock_98 : decode cX4_dropFirstBlock 98 = .ok (.dup, 1) := by decide +kernel
theorem dX4_dropFirstBlock_99 : decode cX4_dropFirstBlock 99 = .ok (.getfield 21, 3) := by decide +kernel
theorem dX4_dropFirstBlock_102 : decode cX4_dropFirstBlock 102 = .ok (.iconst 1, 1) := by decide +kernel
theorem dX4_dropFirstBlock_103 : decode cX4_dropFirstBlock 103 = .ok (.isub, 1) := by decide +kernel
theorem dX4_dropFirstBlock_104 : decode cX4_dropFirstBlock 104 = .ok (.putfield 21, 3) := by decide +kernel
theorem dX4_dropFirstBlock_107 : decode cX4_dropFirstBlock 107 = .ok (.return_, 1) := by decide +kernel
set_option maxRecDepth 20000 in
theorem ggX4_blocksBelow_X4_sizeOf : GoodIn wsX4_blocksBelow wsX4_sizeOf := goodIn_r _ [6, 1, 7, 8, 9, 10, 5, 11, 12, 13, 14, 21, 22, 23, 24, 25, 26, 27, 28, 29] (by decide +kernel) (by decide +kernel)
set_option maxRecDepth 20000 in
theorem gX4_blocksBelow_X4_sizeOf : GoodIn wsX4_blocksBelow (wsV RX4 38 RX4 yX4_sizeOf wsX4_sizeOf) := goodIn_app (goodIn_of _ (by decide +kernel)) ggX4_blocksBelow_X4_sizeOf
set_option maxRecDepth 20000 in
theorem ggX4_blocksBelow_X4_number : GoodIn wsX4_blocksBelow wsX4_number := goodIn_r _ [18, 19, 20, 21, 22, 23, 24, 25, 26, 27] (by decide +kernel) (by decide +kernel)
set_option maxRecDepth 20000 in
theorem gX4_blocksBelow_X4_number : GoodIn wsX4_blocksBelow (wsV RX4 42 RX4 yX4_number wsX4_number) := goodIn_app (goodIn_of _ (by decide +kernel)) ggX4_blocksBelow_X4_number
theorem dX4_blocksBelow_0 : decode cX4_blocksBelow 0 = .ok (.iconst 0, 1) := by decide +kernel
theorem dX4_blocksBelow_1 : decode cX4_blocksBelow 1 = .ok (.istore_n 2, 1) := by decide +kernel
theorem dX4_blocksBelow_2 : decode cX4_blocksBelow 2 = .ok (.iconst 0, 1) := by decide +kernel
theorem dX4_blocksBelow_3 : decode cX4_blocksBelow 3 = .ok (.istore_n 3, 1) := by decide +kernel
theorem dX4_blocksBelow_4 : decode cX4_blocksBelow 4 = .ok (.iload_n 3, 1) := by decide +kernel
theorem dX4_blocksBelow_5 : decode cX4_blocksBelow 5 = .ok (.aload_n 0, 1) := by decide +kernel
theorem dX4_blocksBelow_6 : decode cX4_blocksBelow 6 = .ok (.getfield 21, 3) := by decide +kernel
theorem dX4_blocksBelow_9 : decode cX4_blocksBelow 9 = .ok (.if_icmp .ge 31, 3) := by decide +kernel
theorem dX4_blocksBelow_12 : decode cX4_blocksBelow 12 = .ok (.iload_n 2, 1) := by decide +kernel
theorem dX4_blocksBelow_13 : decode cX4_blocksBelow 13 = .ok (.aload_n 0, 1) := by decide +kernel
theorem dX4_blocksBelow_14 : decode cX4_blocksBelow 14 = .ok (.iload_n 3, 1) := by decide +kernel
theorem dX4_blocksBelow_15 : decode cX4_blocksBelow 15 = .ok (.invokevirtual 38, 3) := by decide +kernel
theorem dX4_blocksBelow_18 : decode cX4_blocksBelow 18 = .ok (.iadd, 1) := by decide +kernel
theorem dX4_blocksBelow_19 : decode cX4_blocksBelow 19 = .ok (.istore_n 2, 1) := by decide +kernel
theorem dX4_blocksBelow_20 : decode cX4_blocksBelow 20 = .ok (.aload_n 0, 1) := by decide +kernel
theorem dX4_blocksBelow_21 : decode cX4_blocksBelow 21 = .ok (.iload_n 2, 1) := by decide +kernel
theorem dX4_blocksBelow_22 : decode cX4_blocksBelow 22 = .ok (.iconst 1, 1) := by decide +kernel
theorem dX4_blocksBelow_23 : decode cX4_blocksBelow 23 = .ok (.isub, 1) := by decide +kernel
theorem dX4_blocksBelow_24 : decode cX4_blocksBelow 24 = .ok (.iconst 0, 1) := by decide +kernel
theorem dX4_blocksBelow_25 : decode cX4_blocksBelow 25 = .ok (.invokevirtual 42, 3) := by decide +kernel
theorem dX4_blocksBelow_28 : decode cX4_blocksBelow 28 = .ok (.iload_n 1, 1) := by decide +kernel
theorem dX4_blocksBelow_29 : decode cX4_blocksBelow 29 = .ok (.if_icmp .lt 5, 3) := by decide +kernel
theorem dX4_blocksBelow_32 : decode cX4_blocksBelow 32 = .ok (.iload_n 3, 1) := by decide +kernel
theorem dX4_blocksBelow_33 : decode cX4_blocksBelow 33 = .ok (.ireturn, 1) := by decide +kernel
theorem dX4_blocksBelow_34 : decode cX4_blocksBelow 34 = .ok (.iinc 3 1, 3) := by decide +kernel
theorem dX4_blocksBelow_37 : decode cX4_blocksBelow 37 = .ok (.goto (-33), 3) := by decide +kernel
theorem dX4_blocksBelow_40 : decode cX4_blocksBelow 40 = .ok (.aload_n 0, 1) := by decide +kernel
theorem dX4_blocksBelow_41 : decode cX4_blocksBelow 41 = .ok (.getfield 21, 3) := by decide +kernel
theorem dX4_blocksBelow_44 : decode cX4_blocksBelow 44 = .ok (.ireturn, 1) := by decide +kernel
set_option maxRecDepth 20000 in
theorem ggX4_copyFrom_X4_number : GoodIn wsX4_copyFrom wsX4_number := goodIn_r _ [11, 12, 13, 28, 29, 30, 31, 32, 33, 34] (by decide +kernel) (by decide +kernel)
set_option maxRecDepth 20000 in
theorem gX4_copyFrom_X4_number : GoodIn wsX4_copyFrom (wsV RX4 42 RX4 yX4_number wsX4_number) := goodIn_app (goodIn_of _ (by decide +kernel)) ggX4_copyFrom_X4_number
set_option maxRecDepth 20000 in
theorem ggX4_copyFrom_X4_write : GoodIn wsX4_copyFrom wsX4_write := goodIn_r _ [17, 12, 13, 28, 29, 30, 31, 32, 33, 34] (by decide +kernel) (by decide +kernel)
set_option maxRecDepth 20000 in
theorem gX4_copyFrom_X4_write : GoodIn wsX4_copyFrom (wsV RX4 57 RX4 yX4_write wsX4_write) := goodIn_app (goodIn_of _ (by decide +kernel)) ggX4_copyFrom_X4_write
set_option maxRecDepth 20000 in
theorem ggX4_copyFrom_X4_sizeOf : GoodIn wsX4_copyFrom wsX4_sizeOf := goodIn_r _ [21, 3, 4, 22, 23, 24, 10, 25, 1, 2, 5, 28, 29, 30, 31, 32, 33, 34, 26, 27] (by decide +kernel) (by decide +kernel)
set_option maxRecDepth 20000 in
theorem gX4_copyFrom_X4_sizeOf : GoodIn wsX4_copyFrom (wsV RX4 38 RX4 yX4_sizeOf wsX4_sizeOf) := goodIn_app (goodIn_of _ (by decide +kernel)) ggX4_copyFrom_X4_sizeOf
theorem dX4_copyFrom_0 : decode cX4_copyFrom 0 = .ok (.iconst 0, 1) := by decide +kernel
theorem dX4_copyFrom_1 : decode cX4_copyFrom 1 = .ok (.istore_n 2, 1) := by decide +kernel
theorem dX4_copyFrom_2 : decode cX4_copyFrom 2 = .ok (.iload_n 2, 1) := by decide +kernel
theorem dX4_copyFrom_3 : decode cX4_copyFrom 3 = .ok (.aload_n 1, 1) := by decide +kernel
theorem dX4_copyFrom_4 : decode cX4_copyFrom 4 = .ok (.getfield 31, 3) := by decide +kernel
theorem dX4_copyFrom_7 : decode cX4_copyFrom 7 = .ok (.if_icmp .ge 26, 3) := by decide +kernel
theorem dX4_copyFrom_10 : decode cX4_copyFrom 10 = .ok (.aload_n 0, 1) := by decide +kernel
theorem dX4_copyFrom_11 : decode cX4_copyFrom 11 = .ok (.iload_n 2, 1) := by decide +kernel
theorem dX4_copyFrom_12 : decode cX4_copyFrom 12 = .ok (.aload_n 1, 1) := by decide +kernel
theorem dX4_copyFrom_13 : decode cX4_copyFrom 13 = .ok (.iload_n 2, 1) := by decide +kernel
theorem dX4_copyFrom_14 : decode cX4_copyFrom 14 = .ok (.iconst 0, 1) := by decide +kernel
theorem dX4_copyFrom_15 : decode cX4_copyFrom 15 = .ok (.invokevirtual 42, 3) := by decide +kernel
theorem dX4_copyFrom_18 : decode cX4_copyFrom 18 = .ok (.aload_n 1, 1) := by decide +kernel
theorem dX4_copyFrom_19 : decode cX4_copyFrom 19 = .ok (.iload_n 2, 1) := by decide +kernel
theorem dX4_copyFrom_20 : decode cX4_copyFrom 20 = .ok (.iconst 5, 1) := by decide +kernel
theorem dX4_copyFrom_21 : decode cX4_copyFrom 21 = .ok (.invokevirtual 42, 3) := by decide +kernel
theorem dX4_copyFrom_24 : decode cX4_copyFrom 24 = .ok (.invokevirtual 57, 3) := by decide +kernel
theorem dX4_copyFrom_27 : decode cX4_copyFrom 27 = .ok (.iinc 2 1, 3) := by decide +kernel
theorem dX4_copyFrom_30 : decode cX4_copyFrom 30 = .ok (.goto (-28), 3) := by decide +kernel
theorem dX4_copyFrom_33 : decode cX4_copyFrom 33 = .ok (.iconst 0, 1) := by decide +kernel
theorem dX4_copyFrom_34 : decode cX4_copyFrom 34 = .ok (.istore_n 2, 1) := by decide +kernel
theorem dX4_copyFrom_35 : decode cX4_copyFrom 35 = .ok (.iload_n 2, 1) := by decide +kernel
theorem dX4_copyFrom_36 : decode cX4_copyFrom 36 = .ok (.aload_n 1, 1) := by decide +kernel
theorem dX4_copyFrom_37 : decode cX4_copyFrom 37 = .ok (.getfield 21, 3) := by decide +kernel
theorem dX4_copyFrom_40 : decode cX4_copyFrom 40 = .ok (.if_icmp .ge 29, 3) := by decide +kernel
theorem dX4_copyFrom_43 : decode cX4_copyFrom 43 = .ok (.iload_n 2, 1) := by decide +kernel
theorem dX4_copyFrom_44 : decode cX4_copyFrom 44 = .ok (.aload_n 0, 1) := by decide +kernel
theorem dX4_copyFrom_45 : decode cX4_copyFrom 45 = .ok (.getfield 18, 3) := by decide +kernel
theorem dX4_copyFrom_48 : decode cX4_copyFrom 48 = .ok (.arraylength, 1) := by decide +kernel
theorem dX4_copyFrom_49 : decode cX4_copyFrom 49 = .ok (.if_icmp .ge 20, 3) := by decide +kernel
theorem dX4_copyFrom_52 : decode cX4_copyFrom 52 = .ok (.aload_n 0, 1) := by decide +kernel
theorem dX4_copyFrom_53 : decode cX4_copyFrom 53 = .ok (.getfield 18, 3) := by decide +kernel
theorem dX4_copyFrom_56 : decode cX4_copyFrom 56 = .ok (.iload_n 2, 1) := by decide +kernel
theorem dX4_copyFrom_57 : decode cX4_copyFrom 57 = .ok (.aload_n 1, 1) := by decide +kernel
theorem dX4_copyFrom_58 : decode cX4_copyFrom 58 = .ok (.iload_n 2, 1) := by decide +kernel
theorem dX4_copyFrom_59 : decode cX4_copyFrom 59 = .ok (.invokevirtual 38, 3) := by decide +kernel
theorem dX4_copyFrom_62 : decode cX4_copyFrom 62 = .ok (.iastore, 1) := by decide +kernel
theorem dX4_copyFrom_63 : decode cX4_copyFrom 63 = .ok (.iinc 2 1, 3) := by decide +kernel
theorem dX4_copyFrom_66 : decode cX4_copyFrom 66 = .ok (.goto (-31), 3) := by decide +kernel
theorem dX4_copyFrom_69 : decode cX4_copyFrom 69 = .ok (.aload_n 0, 1) := by decide +kernel
theorem dX4_copyFrom_70 : decode cX4_copyFrom 70 = .ok (.aload_n 1, 1) := by decide +kernel
theorem dX4_copyFrom_71 : decode cX4_copyFrom 71 = .ok (.getfield 31, 3) := by decide +kernel
theorem dX4_copyFrom_74 : decode cX4_copyFrom 74 = .ok (.putfield 31, 3) := by decide +kernel
theorem dX4_copyFrom_77 : decode cX4_copyFrom 77 = .ok (.aload_n 0, 1) := by decide +kernel
theorem dX4_copyFrom_78 : decode cX4_copyFrom 78 = .ok (.aload_n 1, 1) := by decide +kernel
theorem dX4_copyFrom_79 : decode cX4_copyFrom 79 = .ok (.getfield 21, 3) := by decide +kernel
theorem dX4_copyFrom_82 : decode cX4_copyFrom 82 = .ok (.putfield 21, 3) := by decide +kernel
theorem dX4_copyFrom_85 : decode cX4_copyFrom 85 = .ok (.aload_n 0, 1) := by decide +kernel
theorem dX4_copyFrom_86 : decode cX4_copyFrom 86 = .ok (.aload_n 1, 1) := by decide +kernel
theorem dX4_copyFrom_87 : decode cX4_copyFrom 87 = .ok (.getfield 25, 3) := by decide +kernel
theorem dX4_copyFrom_90 : decode cX4_copyFrom 90 = .ok (.putfield 25, 3) := by decide +kernel
theorem dX4_copyFrom_93 : decode cX4_copyFrom 93 = .ok (.aload_n 0, 1) := by decide +kernel
theorem dX4_copyFrom_94 : decode cX4_copyFrom 94 = .ok (.aload_n 1, 1) := by decide +kernel
theorem dX4_copyFrom_95 : decode cX4_copyFrom 95 = .ok (.getfield 28, 3) := by decide +kernel
theorem dX4_copyFrom_98 : decode cX4_copyFrom 98 = .ok (.putfield 28, 3) := by decide +kernel
theorem dX4_copyFrom_101 : decode cX4_copyFrom 101 = .ok (.return_, 1) := by decide +kernel
set_option maxRecDepth 20000 in
theorem ggX4_copyPoint_X4_number : GoodIn wsX4_copyPoint wsX4_number := goodIn_r _ [5, 6, 7, 12, 13, 14, 15, 16, 17, 18] (by decide +kernel) (by decide +kernel)
set_option maxRecDepth 20000 in
theorem gX4_copyPoint_X4_number : GoodIn wsX4_copyPoint (wsV RX4 42 RX4 yX4_number wsX4_number) := goodIn_app (goodIn_of _ (by decide +kernel)) ggX4_copyPoint_X4_number
set_option maxRecDepth 20000 in
theorem ggX4_copyPoint_X4_write : GoodIn wsX4_copyPoint wsX4_write := goodIn_r _ [11, 6, 7, 12, 13, 14, 15, 16, 17, 18] (by decide +kernel) (by decide +kernel)
set_option maxRecDepth 20000 in
theorem gX4_copyPoint_X4_write : GoodIn wsX4_copyPoint (wsV RX4 57 RX4 yX4_write wsX4_write) := goodIn_app (goodIn_of _ (by decide +kernel)) ggX4_copyPoint_X4_write
theorem dX4_copyPoint_0 : decode cX4_copyPoint 0 = .ok (.aload_n 0, 1) := by decide +kernel
theorem dX4_copyPoint_1 : decode cX4_copyPoint 1 = .ok (.iload_n 2, 1) := by decide +kernel
theorem dX4_copyPoint_2 : decode cX4_copyPoint 2 = .ok (.aload_n 0, 1) := by decide +kernel
theorem dX4_copyPoint_3 : decode cX4_copyPoint 3 = .ok (.iload_n 1, 1) := by decide +kernel
theorem dX4_copyPoint_4 : decode cX4_copyPoint 4 = .ok (.iconst 0, 1) := by decide +kernel
theorem dX4_copyPoint_5 : decode cX4_copyPoint 5 = .ok (.invokevirtual 42, 3) := by decide +kernel
theorem dX4_copyPoint_8 : decode cX4_copyPoint 8 = .ok (.aload_n 0, 1) := by decide +kernel
theorem dX4_copyPoint_9 : decode cX4_copyPoint 9 = .ok (.iload_n 1, 1) := by decide +kernel
theorem dX4_copyPoint_10 : decode cX4_copyPoint 10 = .ok (.iconst 5, 1) := by decide +kernel
theorem dX4_copyPoint_11 : decode cX4_copyPoint 11 = .ok (.invokevirtual 42, 3) := by decide +kernel
theorem dX4_copyPoint_14 : decode cX4_copyPoint 14 = .ok (.invokevirtual 57, 3) := by decide +kernel
theorem dX4_copyPoint_17 : decode cX4_copyPoint 17 = .ok (.return_, 1) := by decide +kernel
theorem dX4_write_0 : decode cX4_write 0 = .ok (.iload_n 1, 1) := by decide +kernel
theorem dX4_write_1 : decode cX4_write 1 = .ok (.ifCond .lt 35, 3) := by decide +kernel
theorem dX4_write_4 : decode cX4_write 4 = .ok (.iload_n 1, 1) := by decide +kernel
theorem dX4_write_5 : decode cX4_write 5 = .ok (.aload_n 0, 1) := by decide +kernel
theorem dX4_write_6 : decode cX4_write 6 = .ok (.getfield 11, 3) := by decide +kernel
theorem dX4_write_9 : decode cX4_write 9 = .ok (.arraylength, 1) := by decide +kernel
theorem dX4_write_10 : decode cX4_write 10 = .ok (.if_icmp .ge 26, 3) := by decide +kernel
theorem dX4_write_13 : decode cX4_write 13 = .ok (.iload_n 1, 1) := by decide +kernel
theorem dX4_write_14 : decode cX4_write 14 = .ok (.aload_n 0, 1) := by decide +kernel
theorem dX4_write_15 : decode cX4_write 15 = .ok (.getfield 15, 3) := by decide +kernel
theorem dX4_write_18 : decode cX4_write 18 = .ok (.arraylength, 1) := by decide +kernel
theorem dX4_write_19 : decode cX4_write 19 = .ok (.if_icmp .ge 17, 3) := by decide +kernel
theorem dX4_write_22 : decode cX4_write 22 = .ok (.aload_n 0, 1) := by decide +kernel
theorem dX4_write_23 : decode cX4_write 23 = .ok (.getfield 11, 3) := by decide +kernel
theorem dX4_write_26 : decode cX4_write 26 = .ok (.iload_n 1, 1) := by decide +kernel
theorem dX4_write_27 : decode cX4_write 27 = .ok (.iload_n 2, 1) := by decide +kernel
theorem dX4_write_28 : decode cX4_write 28 = .ok (.iastore, 1) := by decide +kernel
theorem dX4_write_29 : decode cX4_write 29 = .ok (.aload_n 0, 1) := by decide +kernel
theorem dX4_write_30 : decode cX4_write 30 = .ok (.getfield 15, 3) := by decide +kernel
theorem dX4_write_33 : decode cX4_write 33 = .ok (.iload_n 1, 1) := by decide +kernel
theorem dX4_write_34 : decode cX4_write 34 = .ok (.iload_n 3, 1) := by decide +kernel
theorem dX4_write_35 : decode cX4_write 35 = .ok (.iastore, 1) := by decide +kernel
theorem dX4_write_36 : decode cX4_write 36 = .ok (.return_, 1) := by decide +kernel
set_option maxRecDepth 20000 in
set_option maxRecDepth 20000 in
set_option maxRecDepth 20000 in
set_option maxRecDepth 20000 in
set_option maxRecDepth 20000 in
set_option maxRecDepth 20000 in
set_option maxRecDepth 20000 in
set_option maxRecDepth 20000 in
set_option maxRecDepth 20000 in
set_option maxRecDepth 20000 in
set_option maxRecDepth 20000 in
theorem ggX6_init_X4_init : GoodIn wsX6_init wsX4_init := goodIn_r _ [16, 17, 18, 19, 20, 21, 22, 23, 24, 25, 26, 27, 2, 3, 28, 32, 33, 34, 35, 36, 37, 38, 44, 45] (by decide +kernel) (by decide +kernel)
set_option maxRecDepth 20000 in
theorem gX6_init_X4_init_n11 : GoodIn wsX6_init (wsX4_init) := ggX6_init_X4_init
set_option maxRecDepth 20000 in
theorem ggX6_init_X0_init : GoodIn wsX6_init wsX0_init := goodIn_r _ [30, 17, 31, 24, 25, 26, 27, 2, 3, 28, 44, 45, 32, 33, 34, 35, 36, 37, 38] (by decide +kernel) (by decide +kernel)
set_option maxRecDepth 20000 in
theorem gX6_init_X0_init_n20 : GoodIn wsX6_init (wsX0_init) := ggX6_init_X0_init
theorem dX6_init_0 : decode cX6_init 0 = .ok (.aload_n 0, 1) := by decide +kernel
theorem dX6_init_1 : decode cX6_init 1 = .ok (.invokespecial 3, 3) := by decide +kernel
theorem dX6_init_4 : decode cX6_init 4 = .ok (.aload_n 0, 1) := by decide +kernel
theorem dX6_init_5 : decode cX6_init 5 = .ok (.new 9, 3) := by decide +kernel
theorem dX6_init_8 : decode cX6_init 8 = .ok (.dup, 1) := by decide +kernel
theorem dX6_init_9 : decode cX6_init 9 = .ok (.invokespecial 11, 3) := by decide +kernel
theorem dX6_init_12 : decode cX6_init 12 = .ok (.putfield 12, 3) := by decide +kernel
theorem dX6_init_15 : decode cX6_init 15 = .ok (.aload_n 0, 1) := by decide +kernel
theorem dX6_init_16 : decode cX6_init 16 = .ok (.new 18, 3) := by decide +kernel
theorem dX6_init_19 : decode cX6_init 19 = .ok (.dup, 1) := by decide +kernel
theorem dX6_init_20 : decode cX6_init 20 = .ok (.invokespecial 20, 3) := by decide +kernel
theorem dX6_init_23 : decode cX6_init 23 = .ok (.putfield 21, 3) := by decide +kernel
theorem dX6_init_26 : decode cX6_init 26 = .ok (.aload_n 0, 1) := by decide +kernel
theorem dX6_init_27 : decode cX6_init 27 = .ok (.new 18, 3) := by decide +kernel
theorem dX6_init_30 : decode cX6_init 30 = .ok (.dup, 1) := by decide +kernel
theorem dX6_init_31 : decode cX6_init 31 = .ok (.invokespecial 20, 3) := by decide +kernel
theorem dX6_init_34 : decode cX6_init 34 = .ok (.putfield 25, 3) := by decide +kernel
theorem dX6_init_37 : decode cX6_init 37 = .ok (.aload_n 0, 1) := by decide +kernel
theorem dX6_init_38 : decode cX6_init 38 = .ok (.iload_n 1, 1) := by decide +kernel
theorem dX6_init_39 : decode cX6_init 39 = .ok (.putfield 28, 3) := by decide +kernel
theorem dX6_init_42 : decode cX6_init 42 = .ok (.aload_n 0, 1) := by decide +kernel
theorem dX6_init_43 : decode cX6_init 43 = .ok (.iload_n 2, 1) := by decide +kernel
theorem dX6_init_44 : decode cX6_init 44 = .ok (.putfield 32, 3) := by decide +kernel
theorem dX6_init_47 : decode cX6_init 47 = .ok (.return_, 1) := by decide +kernel
theorem dX6_hasLabel_0 : decode cX6_hasLabel 0 = .ok (.iload_n 1, 1) := by decide +kernel
theorem dX6_hasLabel_1 : decode cX6_hasLabel 1 = .ok (.ifCond .eq 10, 3) := by decide +kernel
theorem dX6_hasLabel_4 : decode cX6_hasLabel 4 = .ok (.aload_n 0, 1) := by decide +kernel
theorem dX6_hasLabel_5 : decode cX6_hasLabel 5 = .ok (.getfield 32, 3) := by decide +kernel
theorem dX6_hasLabel_8 : decode cX6_hasLabel 8 = .ok (.goto 7, 3) := by decide +kernel
theorem dX6_hasLabel_11 : decode cX6_hasLabel 11 = .ok (.aload_n 0, 1) := by decide +kernel
theorem dX6_hasLabel_12 : decode cX6_hasLabel 12 = .ok (.getfield 28, 3) := by decide +kernel
theorem dX6_hasLabel_15 : decode cX6_hasLabel 15 = .ok (.iload_n 2, 1) := by decide +kernel
theorem dX6_hasLabel_16 : decode cX6_hasLabel 16 = .ok (.if_icmp .ne 7, 3) := by decide +kernel
theorem dX6_hasLabel_19 : decode cX6_hasLabel 19 = .ok (.iconst 1, 1) := by decide +kernel
theorem dX6_hasLabel_20 : decode cX6_hasLabel 20 = .ok (.goto 4, 3) := by decide +kernel
theorem dX6_hasLabel_23 : decode cX6_hasLabel 23 = .ok (.iconst 0, 1) := by decide +kernel
theorem dX6_hasLabel_24 : decode cX6_hasLabel 24 = .ok (.ireturn, 1) := by decide +kernel
theorem dX6_bucketsOf_0 : decode cX6_bucketsOf 0 = .ok (.iload_n 1, 1) := by decide +kernel
theorem dX6_bucketsOf_1 : decode cX6_bucketsOf 1 = .ok (.ifCond .eq 10, 3) := by decide +kernel
theorem dX6_bucketsOf_4 : decode cX6_bucketsOf 4 = .ok (.aload_n 0, 1) := by decide +kernel
theorem dX6_bucketsOf_5 : decode cX6_bucketsOf 5 = .ok (.getfield 25, 3) := by decide +kernel
theorem dX6_bucketsOf_8 : decode cX6_bucketsOf 8 = .ok (.goto 7, 3) := by decide +kernel
theorem dX6_bucketsOf_11 : decode cX6_bucketsOf 11 = .ok (.aload_n 0, 1) := by decide +kernel
theorem dX6_bucketsOf_12 : decode cX6_bucketsOf 12 = .ok (.getfield 21, 3) := by decide +kernel
theorem dX6_bucketsOf_15 : decode cX6_bucketsOf 15 = .ok (.areturn, 1) := by decide +kernel
set_option maxRecDepth 20000 in
theorem ggX6_take_X4_add : GoodIn wsX6_take wsX4_add := goodIn_r _ [7, 8, 9, 10, 11, 12, 6, 13, 14, 15, 16, 17, 18, 19, 20, 21, 22, 23, 24, 25, 26, 27, 28, 29, 30, 31, 32, 121, 122, 123, 124, 125, 126, 127, 128, 129] (by decide +kernel) (by decide +kernel)
set_option maxRecDepth 20000 in
theorem gX6_take_X4_add : GoodIn wsX6_take (wsV RX6 35 RX4 yX4_add wsX4_add) := goodIn_app (goodIn_of _ (by decide +kernel)) ggX6_take_X4_add
set_option maxRecDepth 20000 in
theorem ggX6_take_X4_openSize : GoodIn wsX6_take wsX4_openSize := goodIn_r _ [36, 8, 9, 14, 121, 122, 123, 124, 125, 126, 127, 128, 129] (by decide +kernel) (by decide +kernel)
set_option maxRecDepth 20000 in
theorem gX6_take_X4_openSize : GoodIn wsX6_take (wsV RX6 39 RX4 yX4_openSize wsX4_openSize) := goodIn_app (goodIn_of _ (by decide +kernel)) ggX6_take_X4_openSize
set_option maxRecDepth 20000 in
theorem ggX6_take_X4_seal : GoodIn wsX6_take wsX4_seal := goodIn_r _ [40, 41, 42, 8, 9, 14, 43, 44, 34, 35, 6, 36, 15, 16, 17, 18, 19, 20, 123, 124, 125, 126, 127, 128, 129, 121, 122] (by decide +kernel) (by decide +kernel)
set_option maxRecDepth 20000 in
theorem gX6_take_X4_seal : GoodIn wsX6_take (wsV RX6 48 RX4 yX4_seal wsX4_seal) := goodIn_app (goodIn_of _ (by decide +kernel)) ggX6_take_X4_seal
set_option maxRecDepth 20000 in
theorem ggX6_take_X4_hasTooManySealed : GoodIn wsX6_take wsX4_hasTooManySealed := goodIn_r _ [48, 41, 123, 124, 125, 126, 127, 128, 129] (by decide +kernel) (by decide +kernel)
set_option maxRecDepth 20000 in
theorem gX6_take_X4_hasTooManySealed : GoodIn wsX6_take (wsV RX6 51 RX4 yX4_hasTooManySealed wsX4_hasTooManySealed) := goodIn_app (goodIn_of _ (by decide +kernel)) ggX6_take_X4_hasTooManySealed
set_option maxRecDepth 20000 in
theorem ggX6_take_X6_rollUpFirstBlock : GoodIn wsX6_take wsX6_rollUpFirstBlock := goodIn_r _ [53, 1, 54, 55, 56, 57, 58, 6, 59, 41, 42, 44, 34, 35, 36, 8, 9, 14, 60, 16, 17, 18, 19, 20, 61, 62, 52, 63, 64, 65, 66, 67, 68, 69, 70, 71, 72, 73, 74, 75, 76, 77, 78, 79, 80, 81, 82, 83, 84, 85, 86, 87, 88, 89, 90, 91, 92, 93, 94, 95, 96, 97, 98, 99, 100, 101, 102, 103, 104, 105, 106, 107, 108, 109, 110, 25, 26, 27, 28, 15, 29, 30, 31, 32, 111, 112, 113, 114, 115, 116, 117, 118, 119, 120, 123, 124, 125, 126, 127, 128, 129, 121, 122] (by decide +kernel) (by decide +kernel)
set_option maxRecDepth 20000 in
theorem gX6_take_X6_rollUpFirstBlock : GoodIn wsX6_take (wsV RX6 55 RX6 yX6_rollUpFirstBlock wsX6_rollUpFirstBlock) := goodIn_app (goodIn_of _ (by decide +kernel)) ggX6_take_X6_rollUpFirstBlock
theorem dX6_take_0 : decode cX6_take 0 = .ok (.aload_n 0, 1) := by decide +kernel
theorem dX6_take_1 : decode cX6_take 1 = .ok (.getfield 12, 3) := by decide +kernel
theorem dX6_take_4 : decode cX6_take 4 = .ok (.iload_n 1, 1) := by decide +kernel
theorem dX6_take_5 : decode cX6_take 5 = .ok (.iload_n 2, 1) := by decide +kernel
theorem dX6_take_6 : decode cX6_take 6 = .ok (.invokevirtual 35, 3) := by decide +kernel
theorem dX6_take_9 : decode cX6_take 9 = .ok (.aload_n 0, 1) := by decide +kernel
theorem dX6_take_10 : decode cX6_take 10 = .ok (.getfield 12, 3) := by decide +kernel
theorem dX6_take_13 : decode cX6_take 13 = .ok (.invokevirtual 39, 3) := by decide +kernel
theorem dX6_take_16 : decode cX6_take 16 = .ok (.aload_n 3, 1) := by decide +kernel
theorem dX6_take_17 : decode cX6_take 17 = .ok (.getfield 43, 3) := by decide +kernel
theorem dX6_take_20 : decode cX6_take 20 = .ok (.if_icmp .lt 25, 3) := by decide +kernel
theorem dX6_take_23 : decode cX6_take 23 = .ok (.aload_n 0, 1) := by decide +kernel
theorem dX6_take_24 : decode cX6_take 24 = .ok (.getfield 12, 3) := by decide +kernel
theorem dX6_take_27 : decode cX6_take 27 = .ok (.invokevirtual 48, 3) := by decide +kernel
theorem dX6_take_30 : decode cX6_take 30 = .ok (.aload_n 0, 1) := by decide +kernel
theorem dX6_take_31 : decode cX6_take 31 = .ok (.getfield 12, 3) := by decide +kernel
theorem dX6_take_34 : decode cX6_take 34 = .ok (.invokevirtual 51, 3) := by decide +kernel
theorem dX6_take_37 : decode cX6_take 37 = .ok (.ifCond .eq 8, 3) := by decide +kernel
theorem dX6_take_40 : decode cX6_take 40 = .ok (.aload_n 0, 1) := by decide +kernel
theorem dX6_take_41 : decode cX6_take 41 = .ok (.aload_n 3, 1) := by decide +kernel
theorem dX6_take_42 : decode cX6_take 42 = .ok (.invokevirtual 55, 3) := by decide +kernel
theorem dX6_take_45 : decode cX6_take 45 = .ok (.return_, 1) := by decide +kernel
set_option maxRecDepth 20000 in
theorem ggX6_rollUpBy_X4_blocksBelow : GoodIn wsX6_rollUpBy wsX4_blocksBelow := goodIn_r _ [9, 10, 11, 12, 13, 8, 14, 15, 16, 17, 18, 19, 20, 21, 22, 23, 24, 25, 26, 27, 28, 109, 110, 111, 112, 113, 114, 115, 116, 117] (by decide +kernel) (by decide +kernel)
set_option maxRecDepth 20000 in
theorem gX6_rollUpBy_X4_blocksBelow : GoodIn wsX6_rollUpBy (wsV RX6 62 RX4 yX4_blocksBelow wsX4_blocksBelow) := goodIn_app (goodIn_of _ (by decide +kernel)) ggX6_rollUpBy_X4_blocksBelow
set_option maxRecDepth 20000 in
theorem ggX6_rollUpBy_X6_rollUpFirstBlock : GoodIn wsX6_rollUpBy wsX6_rollUpFirstBlock := goodIn_r _ [33, 2, 34, 4, 35, 12, 13, 8, 14, 10, 15, 16, 17, 18, 19, 20, 21, 22, 36, 24, 25, 26, 27, 28, 37, 38, 32, 39, 40, 41, 42, 43, 44, 45, 46, 47, 48, 49, 50, 51, 52, 53, 54, 55, 56, 57, 58, 59, 60, 61, 62, 63, 64, 65, 66, 67, 68, 69, 70, 71, 72, 73, 74, 75, 76, 77, 78, 79, 80, 81, 82, 83, 84, 85, 11, 86, 87, 88, 89, 23, 90, 91, 92, 93, 104, 105, 106, 107, 108, 99, 100, 101, 102, 103, 109, 110, 111, 112, 113, 114, 115, 116, 117] (by decide +kernel) (by decide +kernel)
set_option maxRecDepth 20000 in
theorem gX6_rollUpBy_X6_rollUpFirstBlock : GoodIn wsX6_rollUpBy (wsV RX6 55 RX6 yX6_rollUpFirstBlock wsX6_rollUpFirstBlock) := goodIn_app (goodIn_of _ (by decide +kernel)) ggX6_rollUpBy_X6_rollUpFirstBlock
set_option maxRecDepth 20000 in
theorem ggX6_rollUpBy_X6_fineEndingBy : GoodIn wsX6_rollUpBy wsX6_fineEndingBy := goodIn_r _ [97, 34, 98, 46, 77, 55, 56, 43, 57, 58, 104, 105, 106, 107, 108, 116, 117, 109, 110, 111, 112, 113, 114, 115] (by decide +kernel) (by decide +kernel)
set_option maxRecDepth 20000 in
theorem gX6_rollUpBy_X6_fineEndingBy : GoodIn wsX6_rollUpBy (wsV RX6 72 RX6 yX6_fineEndingBy wsX6_fineEndingBy) := goodIn_app (goodIn_of _ (by decide +kernel)) ggX6_rollUpBy_X6_fineEndingBy
set_option maxRecDepth 20000 in
theorem ggX6_rollUpBy_X6_rollUpFirstFine : GoodIn wsX6_rollUpBy wsX6_rollUpFirstFine := goodIn_r _ [74, 34, 4, 75, 76, 77, 55, 56, 43, 57, 58, 37, 38, 32, 39, 40, 41, 42, 44, 45, 46, 47, 48, 49, 50, 51, 52, 53, 54, 59, 60, 61, 62, 24, 8, 26, 27, 28, 63, 64, 65, 66, 78, 79, 80, 81, 67, 68, 69, 70, 104, 105, 106, 107, 108, 99, 100, 101, 102, 103, 116, 117, 109, 110, 111, 112, 113, 114, 115] (by decide +kernel) (by decide +kernel)
set_option maxRecDepth 20000 in
theorem gX6_rollUpBy_X6_rollUpFirstFine : GoodIn wsX6_rollUpBy (wsV RX6 76 RX6 yX6_rollUpFirstFine wsX6_rollUpFirstFine) := goodIn_app (goodIn_of _ (by decide +kernel)) ggX6_rollUpBy_X6_rollUpFirstFine
theorem dX6_rollUpBy_0 : decode cX6_rollUpBy 0 = .ok (.aload_n 2, 1) := by decide +kernel
theorem dX6_rollUpBy_1 : decode cX6_rollUpBy 1 = .ok (.getfield 59, 3) := by decide +kernel
theorem dX6_rollUpBy_4 : decode cX6_rollUpBy 4 = .ok (.ifCond .ne 7, 3) := by decide +kernel
theorem dX6_rollUpBy_7 : decode cX6_rollUpBy 7 = .ok (.iconst 0, 1) := by decide +kernel
theorem dX6_rollUpBy_8 : decode cX6_rollUpBy 8 = .ok (.goto 16, 3) := by decide +kernel
theorem dX6_rollUpBy_11 : decode cX6_rollUpBy 11 = .ok (.aload_n 0, 1) := by decide +kernel
theorem dX6_rollUpBy_12 : decode cX6_rollUpBy 12 = .ok (.getfield 12, 3) := by decide +kernel
theorem dX6_rollUpBy_15 : decode cX6_rollUpBy 15 = .ok (.iload_n 1, 1) := by decide +kernel
theorem dX6_rollUpBy_16 : decode cX6_rollUpBy 16 = .ok (.aload_n 2, 1) := by decide +kernel
theorem dX6_rollUpBy_17 : decode cX6_rollUpBy 17 = .ok (.getfield 59, 3) := by decide +kernel
theorem dX6_rollUpBy_20 : decode cX6_rollUpBy 20 = .ok (.isub, 1) := by decide +kernel
theorem dX6_rollUpBy_21 : decode cX6_rollUpBy 21 = .ok (.invokevirtual 62, 3) := by decide +kernel
theorem dX6_rollUpBy_24 : decode cX6_rollUpBy 24 = .ok (.istore_n 3, 1) := by decide +kernel
theorem dX6_rollUpBy_25 : decode cX6_rollUpBy 25 = .ok (.iconst 0, 1) := by decide +kernel
theorem dX6_rollUpBy_26 : decode cX6_rollUpBy 26 = .ok (.istore 4, 2) := by decide +kernel
theorem dX6_rollUpBy_28 : decode cX6_rollUpBy 28 = .ok (.iload 4, 2) := by decide +kernel
theorem dX6_rollUpBy_30 : decode cX6_rollUpBy 30 = .ok (.iload_n 3, 1) := by decide +kernel
theorem dX6_rollUpBy_31 : decode cX6_rollUpBy 31 = .ok (.if_icmp .ge 14, 3) := by decide +kernel
theorem dX6_rollUpBy_34 : decode cX6_rollUpBy 34 = .ok (.aload_n 0, 1) := by decide +kernel
theorem dX6_rollUpBy_35 : decode cX6_rollUpBy 35 = .ok (.aload_n 2, 1) := by decide +kernel
theorem dX6_rollUpBy_36 : decode cX6_rollUpBy 36 = .ok (.invokevirtual 55, 3) := by decide +kernel
theorem dX6_rollUpBy_39 : decode cX6_rollUpBy 39 = .ok (.iinc 4 1, 3) := by decide +kernel
theorem dX6_rollUpBy_42 : decode cX6_rollUpBy 42 = .ok (.goto (-14), 3) := by decide +kernel
theorem dX6_rollUpBy_45 : decode cX6_rollUpBy 45 = .ok (.aload_n 2, 1) := by decide +kernel
theorem dX6_rollUpBy_46 : decode cX6_rollUpBy 46 = .ok (.getfield 66, 3) := by decide +kernel
theorem dX6_rollUpBy_49 : decode cX6_rollUpBy 49 = .ok (.istore 4, 2) := by decide +kernel
theorem dX6_rollUpBy_51 : decode cX6_rollUpBy 51 = .ok (.iload 4, 2) := by decide +kernel
theorem dX6_rollUpBy_53 : decode cX6_rollUpBy 53 = .ok (.ifCond .ne 7, 3) := by decide +kernel
theorem dX6_rollUpBy_56 : decode cX6_rollUpBy 56 = .ok (.iconst 0, 1) := by decide +kernel
theorem dX6_rollUpBy_57 : decode cX6_rollUpBy 57 = .ok (.goto 15, 3) := by decide +kernel
theorem dX6_rollUpBy_60 : decode cX6_rollUpBy 60 = .ok (.aload_n 0, 1) := by decide +kernel
theorem dX6_rollUpBy_61 : decode cX6_rollUpBy 61 = .ok (.iload_n 1, 1) := by decide +kernel
theorem dX6_rollUpBy_62 : decode cX6_rollUpBy 62 = .ok (.iload 4, 2) := by decide +kernel
theorem dX6_rollUpBy_64 : decode cX6_rollUpBy 64 = .ok (.isub, 1) := by decide +kernel
theorem dX6_rollUpBy_65 : decode cX6_rollUpBy 65 = .ok (.aload_n 2, 1) := by decide +kernel
theorem dX6_rollUpBy_66 : decode cX6_rollUpBy 66 = .ok (.getfield 69, 3) := by decide +kernel
theorem dX6_rollUpBy_69 : decode cX6_rollUpBy 69 = .ok (.invokevirtual 72, 3) := by decide +kernel
theorem dX6_rollUpBy_72 : decode cX6_rollUpBy 72 = .ok (.istore 5, 2) := by decide +kernel
theorem dX6_rollUpBy_74 : decode cX6_rollUpBy 74 = .ok (.iconst 0, 1) := by decide +kernel
theorem dX6_rollUpBy_75 : decode cX6_rollUpBy 75 = .ok (.istore 6, 2) := by decide +kernel
theorem dX6_rollUpBy_77 : decode cX6_rollUpBy 77 = .ok (.iload 6, 2) := by decide +kernel
theorem dX6_rollUpBy_79 : decode cX6_rollUpBy 79 = .ok (.iload 5, 2) := by decide +kernel
theorem dX6_rollUpBy_81 : decode cX6_rollUpBy 81 = .ok (.if_icmp .ge 14, 3) := by decide +kernel
theorem dX6_rollUpBy_84 : decode cX6_rollUpBy 84 = .ok (.aload_n 0, 1) := by decide +kernel
theorem dX6_rollUpBy_85 : decode cX6_rollUpBy 85 = .ok (.aload_n 2, 1) := by decide +kernel
theorem dX6_rollUpBy_86 : decode cX6_rollUpBy 86 = .ok (.invokevirtual 76, 3) := by decide +kernel
theorem dX6_rollUpBy_89 : decode cX6_rollUpBy 89 = .ok (.iinc 6 1, 3) := by decide +kernel
theorem dX6_rollUpBy_92 : decode cX6_rollUpBy 92 = .ok (.goto (-15), 3) := by decide +kernel
theorem dX6_rollUpBy_95 : decode cX6_rollUpBy 95 = .ok (.return_, 1) := by decide +kernel
set_option maxRecDepth 20000 in
theorem ggX6_fineEndingBy_X0_number : GoodIn wsX6_fineEndingBy wsX0_number := goodIn_r _ [8, 9, 15, 16] (by decide +kernel) (by decide +kernel)
set_option maxRecDepth 20000 in
theorem gX6_fineEndingBy_X0_number : GoodIn wsX6_fineEndingBy (wsV RX6 82 RX0 yX0_number wsX0_number) := goodIn_app (goodIn_of _ (by decide +kernel)) ggX6_fineEndingBy_X0_number
theorem dX6_fineEndingBy_0 : decode cX6_fineEndingBy 0 = .ok (.iconst 0, 1) := by decide +kernel
theorem dX6_fineEndingBy_1 : decode cX6_fineEndingBy 1 = .ok (.istore_n 3, 1) := by decide +kernel
theorem dX6_fineEndingBy_2 : decode cX6_fineEndingBy 2 = .ok (.iload_n 3, 1) := by decide +kernel
theorem dX6_fineEndingBy_3 : decode cX6_fineEndingBy 3 = .ok (.aload_n 0, 1) := by decide +kernel
theorem dX6_fineEndingBy_4 : decode cX6_fineEndingBy 4 = .ok (.getfield 21, 3) := by decide +kernel
theorem dX6_fineEndingBy_7 : decode cX6_fineEndingBy 7 = .ok (.getfield 79, 3) := by decide +kernel
theorem dX6_fineEndingBy_10 : decode cX6_fineEndingBy 10 = .ok (.if_icmp .ge 26, 3) := by decide +kernel
theorem dX6_fineEndingBy_13 : decode cX6_fineEndingBy 13 = .ok (.aload_n 0, 1) := by decide +kernel
theorem dX6_fineEndingBy_14 : decode cX6_fineEndingBy 14 = .ok (.getfield 21, 3) := by decide +kernel
theorem dX6_fineEndingBy_17 : decode cX6_fineEndingBy 17 = .ok (.iload_n 3, 1) := by decide +kernel
theorem dX6_fineEndingBy_18 : decode cX6_fineEndingBy 18 = .ok (.iconst 0, 1) := by decide +kernel
theorem dX6_fineEndingBy_19 : decode cX6_fineEndingBy 19 = .ok (.invokevirtual 82, 3) := by decide +kernel
theorem dX6_fineEndingBy_22 : decode cX6_fineEndingBy 22 = .ok (.iload_n 2, 1) := by decide +kernel
theorem dX6_fineEndingBy_23 : decode cX6_fineEndingBy 23 = .ok (.iadd, 1) := by decide +kernel
theorem dX6_fineEndingBy_24 : decode cX6_fineEndingBy 24 = .ok (.iload_n 1, 1) := by decide +kernel
theorem dX6_fineEndingBy_25 : decode cX6_fineEndingBy 25 = .ok (.if_icmp .le 5, 3) := by decide +kernel
theorem dX6_fineEndingBy_28 : decode cX6_fineEndingBy 28 = .ok (.iload_n 3, 1) := by decide +kernel
theorem dX6_fineEndingBy_29 : decode cX6_fineEndingBy 29 = .ok (.ireturn, 1) := by decide +kernel
theorem dX6_fineEndingBy_30 : decode cX6_fineEndingBy 30 = .ok (.iinc 3 1, 3) := by decide +kernel
theorem dX6_fineEndingBy_33 : decode cX6_fineEndingBy 33 = .ok (.goto (-31), 3) := by decide +kernel
theorem dX6_fineEndingBy_36 : decode cX6_fineEndingBy 36 = .ok (.aload_n 0, 1) := by decide +kernel
theorem dX6_fineEndingBy_37 : decode cX6_fineEndingBy 37 = .ok (.getfield 21, 3) := by decide +kernel
theorem dX6_fineEndingBy_40 : decode cX6_fineEndingBy 40 = .ok (.getfield 79, 3) := by decide +kernel
theorem dX6_fineEndingBy_43 : decode cX6_fineEndingBy 43 = .ok (.ireturn, 1) := by decide +kernel
set_option maxRecDepth 20000 in
theorem ggX6_rollUpFirstBlock_X4_sizeOf : GoodIn wsX6_rollUpFirstBlock wsX4_sizeOf := goodIn_r _ [8, 9, 10, 11, 12, 13, 7, 14, 15, 16, 17, 94, 95, 96, 97, 98, 99, 100, 101, 102] (by decide +kernel) (by decide +kernel)
set_option maxRecDepth 20000 in
theorem gX6_rollUpFirstBlock_X4_sizeOf : GoodIn wsX6_rollUpFirstBlock (wsV RX6 85 RX4 yX4_sizeOf wsX4_sizeOf) := goodIn_app (goodIn_of _ (by decide +kernel)) ggX6_rollUpFirstBlock_X4_sizeOf
set_option maxRecDepth 20000 in
theorem ggX6_rollUpFirstBlock_X4_number : GoodIn wsX6_rollUpFirstBlock wsX4_number := goodIn_r _ [21, 22, 23, 94, 95, 96, 97, 98, 99, 100] (by decide +kernel) (by decide +kernel)
set_option maxRecDepth 20000 in
theorem gX6_rollUpFirstBlock_X4_number : GoodIn wsX6_rollUpFirstBlock (wsV RX6 88 RX4 yX4_number wsX4_number) := goodIn_app (goodIn_of _ (by decide +kernel)) ggX6_rollUpFirstBlock_X4_number
set_option maxRecDepth 20000 in
theorem ggX6_rollUpFirstBlock_X6_startFor : GoodIn wsX6_rollUpFirstBlock wsX6_startFor := goodIn_r _ [27] (by decide +kernel) (by decide +kernel)
set_option maxRecDepth 20000 in
theorem gX6_rollUpFirstBlock_X6_startFor : GoodIn wsX6_rollUpFirstBlock (va_wsS RX6 89 yX6_startFor wsX6_startFor) := goodIn_app (goodIn_of _ (by decide +kernel)) ggX6_rollUpFirstBlock_X6_startFor
set_option maxRecDepth 20000 in
theorem ggX6_rollUpFirstBlock_X0_take : GoodIn wsX6_rollUpFirstBlock wsX0_take := goodIn_r _ [32, 33, 34, 35, 36, 37, 38, 39, 40, 41, 42, 43, 44, 31, 45, 46, 47, 48, 49, 50, 19, 7, 21, 22, 23, 51, 52, 53, 54, 101, 102, 94, 95, 96, 97, 98, 99, 100] (by decide +kernel) (by decide +kernel)
set_option maxRecDepth 20000 in
theorem gX6_rollUpFirstBlock_X0_take : GoodIn wsX6_rollUpFirstBlock (wsV RX6 92 RX0 yX0_take wsX0_take) := goodIn_app (goodIn_of _ (by decide +kernel)) ggX6_rollUpFirstBlock_X0_take
set_option maxRecDepth 20000 in
theorem ggX6_rollUpFirstBlock_X0_isFull : GoodIn wsX6_rollUpFirstBlock wsX0_isFull := goodIn_r _ [58, 33, 34, 101, 102, 94, 95, 96, 97, 98, 99, 100] (by decide +kernel) (by decide +kernel)
set_option maxRecDepth 20000 in
theorem gX6_rollUpFirstBlock_X0_isFull : GoodIn wsX6_rollUpFirstBlock (wsV RX6 96 RX0 yX0_isFull wsX0_isFull) := goodIn_app (goodIn_of _ (by decide +kernel)) ggX6_rollUpFirstBlock_X0_isFull
set_option maxRecDepth 20000 in
theorem ggX6_rollUpFirstBlock_X6_rollUpFirstFine : GoodIn wsX6_rollUpFirstBlock wsX6_rollUpFirstFine := goodIn_r _ [62, 2, 3, 63, 64, 65, 43, 44, 31, 45, 46, 24, 25, 26, 27, 28, 29, 30, 32, 33, 34, 35, 36, 37, 38, 39, 40, 41, 42, 47, 48, 49, 50, 19, 7, 21, 22, 23, 51, 52, 53, 54, 66, 67, 68, 69, 55, 56, 57, 58, 84, 85, 86, 87, 88, 89, 90, 91, 92, 93, 101, 102, 94, 95, 96, 97, 98, 99, 100] (by decide +kernel) (by decide +kernel)
set_option maxRecDepth 20000 in
theorem gX6_rollUpFirstBlock_X6_rollUpFirstFine : GoodIn wsX6_rollUpFirstBlock (wsV RX6 76 RX6 yX6_rollUpFirstFine wsX6_rollUpFirstFine) := goodIn_app (goodIn_of _ (by decide +kernel)) ggX6_rollUpFirstBlock_X6_rollUpFirstFine
set_option maxRecDepth 20000 in
theorem ggX6_rollUpFirstBlock_X4_dropFirstBlock : GoodIn wsX6_rollUpFirstBlock wsX4_dropFirstBlock := goodIn_r _ [73, 9, 15, 16, 10, 17, 74, 5, 6, 7, 8, 11, 12, 13, 14, 75, 76, 77, 78, 79, 19, 20, 21, 22, 23, 80, 81, 82, 83, 94, 95, 96, 97, 98, 99, 100, 101, 102] (by decide +kernel) (by decide +kernel)
set_option maxRecDepth 20000 in
theorem gX6_rollUpFirstBlock_X4_dropFirstBlock : GoodIn wsX6_rollUpFirstBlock (wsV RX6 99 RX4 yX4_dropFirstBlock wsX4_dropFirstBlock) := goodIn_app (goodIn_of _ (by decide +kernel)) ggX6_rollUpFirstBlock_X4_dropFirstBlock
theorem dX6_rollUpFirstBlock_0 : decode cX6_rollUpFirstBlock 0 = .ok (.aload_n 0, 1) := by decide +kernel
theorem dX6_rollUpFirstBlock_1 : decode cX6_rollUpFirstBlock 1 = .ok (.getfield 12, 3) := by decide +kernel
theorem dX6_rollUpFirstBlock_4 : decode cX6_rollUpFirstBlock 4 = .ok (.iconst 0, 1) := by decide +kernel
theorem dX6_rollUpFirstBlock_5 : decode cX6_rollUpFirstBlock 5 = .ok (.invokevirtual 85, 3) := by decide +kernel
theorem dX6_rollUpFirstBlock_8 : decode cX6_rollUpFirstBlock 8 = .ok (.istore_n 2, 1) := by decide +kernel
theorem dX6_rollUpFirstBlock_9 : decode cX6_rollUpFirstBlock 9 = .ok (.iconst 0, 1) := by decide +kernel
theorem dX6_rollUpFirstBlock_10 : decode cX6_rollUpFirstBlock 10 = .ok (.istore_n 3, 1) := by decide +kernel
theorem dX6_rollUpFirstBlock_11 : decode cX6_rollUpFirstBlock 11 = .ok (.iload_n 3, 1) := by decide +kernel
theorem dX6_rollUpFirstBlock_12 : decode cX6_rollUpFirstBlock 12 = .ok (.iload_n 2, 1) := by decide +kernel
theorem dX6_rollUpFirstBlock_13 : decode cX6_rollUpFirstBlock 13 = .ok (.if_icmp .ge 52, 3) := by decide +kernel
theorem dX6_rollUpFirstBlock_16 : decode cX6_rollUpFirstBlock 16 = .ok (.aload_n 0, 1) := by decide +kernel
theorem dX6_rollUpFirstBlock_17 : decode cX6_rollUpFirstBlock 17 = .ok (.getfield 21, 3) := by decide +kernel
theorem dX6_rollUpFirstBlock_20 : decode cX6_rollUpFirstBlock 20 = .ok (.aload_n 0, 1) := by decide +kernel
theorem dX6_rollUpFirstBlock_21 : decode cX6_rollUpFirstBlock 21 = .ok (.getfield 12, 3) := by decide +kernel
theorem dX6_rollUpFirstBlock_24 : decode cX6_rollUpFirstBlock 24 = .ok (.iload_n 3, 1) := by decide +kernel
theorem dX6_rollUpFirstBlock_25 : decode cX6_rollUpFirstBlock 25 = .ok (.iconst 0, 1) := by decide +kernel
theorem dX6_rollUpFirstBlock_26 : decode cX6_rollUpFirstBlock 26 = .ok (.invokevirtual 88, 3) := by decide +kernel
theorem dX6_rollUpFirstBlock_29 : decode cX6_rollUpFirstBlock 29 = .ok (.aload_n 1, 1) := by decide +kernel
theorem dX6_rollUpFirstBlock_30 : decode cX6_rollUpFirstBlock 30 = .ok (.getfield 69, 3) := by decide +kernel
theorem dX6_rollUpFirstBlock_33 : decode cX6_rollUpFirstBlock 33 = .ok (.invokestatic 89, 3) := by decide +kernel
theorem dX6_rollUpFirstBlock_36 : decode cX6_rollUpFirstBlock 36 = .ok (.aload_n 0, 1) := by decide +kernel
theorem dX6_rollUpFirstBlock_37 : decode cX6_rollUpFirstBlock 37 = .ok (.getfield 12, 3) := by decide +kernel
theorem dX6_rollUpFirstBlock_40 : decode cX6_rollUpFirstBlock 40 = .ok (.iload_n 3, 1) := by decide +kernel
theorem dX6_rollUpFirstBlock_41 : decode cX6_rollUpFirstBlock 41 = .ok (.invokevirtual 92, 3) := by decide +kernel
theorem dX6_rollUpFirstBlock_44 : decode cX6_rollUpFirstBlock 44 = .ok (.aload_n 0, 1) := by decide +kernel
theorem dX6_rollUpFirstBlock_45 : decode cX6_rollUpFirstBlock 45 = .ok (.getfield 21, 3) := by decide +kernel
theorem dX6_rollUpFirstBlock_48 : decode cX6_rollUpFirstBlock 48 = .ok (.invokevirtual 96, 3) := by decide +kernel
theorem dX6_rollUpFirstBlock_51 : decode cX6_rollUpFirstBlock 51 = .ok (.ifCond .eq 8, 3) := by decide +kernel
theorem dX6_rollUpFirstBlock_54 : decode cX6_rollUpFirstBlock 54 = .ok (.aload_n 0, 1) := by decide +kernel
theorem dX6_rollUpFirstBlock_55 : decode cX6_rollUpFirstBlock 55 = .ok (.aload_n 1, 1) := by decide +kernel
theorem dX6_rollUpFirstBlock_56 : decode cX6_rollUpFirstBlock 56 = .ok (.invokevirtual 76, 3) := by decide +kernel
theorem dX6_rollUpFirstBlock_59 : decode cX6_rollUpFirstBlock 59 = .ok (.iinc 3 1, 3) := by decide +kernel
theorem dX6_rollUpFirstBlock_62 : decode cX6_rollUpFirstBlock 62 = .ok (.goto (-51), 3) := by decide +kernel
theorem dX6_rollUpFirstBlock_65 : decode cX6_rollUpFirstBlock 65 = .ok (.aload_n 0, 1) := by decide +kernel
theorem dX6_rollUpFirstBlock_66 : decode cX6_rollUpFirstBlock 66 = .ok (.getfield 12, 3) := by decide +kernel
theorem dX6_rollUpFirstBlock_69 : decode cX6_rollUpFirstBlock 69 = .ok (.invokevirtual 99, 3) := by decide +kernel
theorem dX6_rollUpFirstBlock_72 : decode cX6_rollUpFirstBlock 72 = .ok (.return_, 1) := by decide +kernel
set_option maxRecDepth 20000 in
theorem ggX6_rollUpFirstFine_X0_number : GoodIn wsX6_rollUpFirstFine wsX0_number := goodIn_r _ [9, 10, 60, 61] (by decide +kernel) (by decide +kernel)
set_option maxRecDepth 20000 in
theorem gX6_rollUpFirstFine_X0_number : GoodIn wsX6_rollUpFirstFine (wsV RX6 82 RX0 yX0_number wsX0_number) := goodIn_app (goodIn_of _ (by decide +kernel)) ggX6_rollUpFirstFine_X0_number
set_option maxRecDepth 20000 in
theorem ggX6_rollUpFirstFine_X6_startFor : GoodIn wsX6_rollUpFirstFine wsX6_startFor := goodIn_r _ [14] (by decide +kernel) (by decide +kernel)
set_option maxRecDepth 20000 in
theorem gX6_rollUpFirstFine_X6_startFor : GoodIn wsX6_rollUpFirstFine (va_wsS RX6 89 yX6_startFor wsX6_startFor) := goodIn_app (goodIn_of _ (by decide +kernel)) ggX6_rollUpFirstFine_X6_startFor
set_option maxRecDepth 20000 in
theorem ggX6_rollUpFirstFine_X0_take : GoodIn wsX6_rollUpFirstFine wsX0_take := goodIn_r _ [18, 19, 20, 21, 22, 23, 24, 25, 26, 27, 28, 6, 7, 8, 9, 10, 29, 30, 31, 32, 33, 34, 35, 36, 37, 38, 39, 40, 41, 60, 61, 62, 63, 64, 65, 66, 67, 68] (by decide +kernel) (by decide +kernel)
set_option maxRecDepth 20000 in
theorem gX6_rollUpFirstFine_X0_take : GoodIn wsX6_rollUpFirstFine (wsV RX6 92 RX0 yX0_take wsX0_take) := goodIn_app (goodIn_of _ (by decide +kernel)) ggX6_rollUpFirstFine_X0_take
set_option maxRecDepth 20000 in
theorem ggX6_rollUpFirstFine_X0_dropFirst : GoodIn wsX6_rollUpFirstFine wsX0_dropFirst := goodIn_r _ [45, 19, 20, 10, 60, 61, 62, 63, 64, 65, 66, 67, 68] (by decide +kernel) (by decide +kernel)
set_option maxRecDepth 20000 in
theorem gX6_rollUpFirstFine_X0_dropFirst : GoodIn wsX6_rollUpFirstFine (wsV RX6 105 RX0 yX0_dropFirst wsX0_dropFirst) := goodIn_app (goodIn_of _ (by decide +kernel)) ggX6_rollUpFirstFine_X0_dropFirst
set_option maxRecDepth 20000 in
theorem ggX6_rollUpFirstFine_X0_isFull : GoodIn wsX6_rollUpFirstFine wsX0_isFull := goodIn_r _ [49, 19, 20, 60, 61, 62, 63, 64, 65, 66, 67, 68] (by decide +kernel) (by decide +kernel)
set_option maxRecDepth 20000 in
theorem gX6_rollUpFirstFine_X0_isFull : GoodIn wsX6_rollUpFirstFine (wsV RX6 96 RX0 yX0_isFull wsX0_isFull) := goodIn_app (goodIn_of _ (by decide +kernel)) ggX6_rollUpFirstFine_X0_isFull
theorem dX6_rollUpFirstFine_0 : decode cX6_rollUpFirstFine 0 = .ok (.aload_n 0, 1) := by decide +kernel
theorem dX6_rollUpFirstFine_1 : decode cX6_rollUpFirstFine 1 = .ok (.getfield 21, 3) := by decide +kernel
theorem dX6_rollUpFirstFine_4 : decode cX6_rollUpFirstFine 4 = .ok (.iconst 0, 1) := by decide +kernel
theorem dX6_rollUpFirstFine_5 : decode cX6_rollUpFirstFine 5 = .ok (.iconst 0, 1) := by decide +kernel
theorem dX6_rollUpFirstFine_6 : decode cX6_rollUpFirstFine 6 = .ok (.invokevirtual 82, 3) := by decide +kernel
theorem dX6_rollUpFirstFine_9 : decode cX6_rollUpFirstFine 9 = .ok (.aload_n 1, 1) := by decide +kernel
theorem dX6_rollUpFirstFine_10 : decode cX6_rollUpFirstFine 10 = .ok (.getfield 69, 3) := by decide +kernel
theorem dX6_rollUpFirstFine_13 : decode cX6_rollUpFirstFine 13 = .ok (.aload_n 1, 1) := by decide +kernel
theorem dX6_rollUpFirstFine_14 : decode cX6_rollUpFirstFine 14 = .ok (.getfield 102, 3) := by decide +kernel
theorem dX6_rollUpFirstFine_17 : decode cX6_rollUpFirstFine 17 = .ok (.imul, 1) := by decide +kernel
theorem dX6_rollUpFirstFine_18 : decode cX6_rollUpFirstFine 18 = .ok (.invokestatic 89, 3) := by decide +kernel
theorem dX6_rollUpFirstFine_21 : decode cX6_rollUpFirstFine 21 = .ok (.istore_n 2, 1) := by decide +kernel
theorem dX6_rollUpFirstFine_22 : decode cX6_rollUpFirstFine 22 = .ok (.aload_n 0, 1) := by decide +kernel
theorem dX6_rollUpFirstFine_23 : decode cX6_rollUpFirstFine 23 = .ok (.getfield 25, 3) := by decide +kernel
theorem dX6_rollUpFirstFine_26 : decode cX6_rollUpFirstFine 26 = .ok (.iload_n 2, 1) := by decide +kernel
theorem dX6_rollUpFirstFine_27 : decode cX6_rollUpFirstFine 27 = .ok (.aload_n 0, 1) := by decide +kernel
theorem dX6_rollUpFirstFine_28 : decode cX6_rollUpFirstFine 28 = .ok (.getfield 21, 3) := by decide +kernel
theorem dX6_rollUpFirstFine_31 : decode cX6_rollUpFirstFine 31 = .ok (.iconst 0, 1) := by decide +kernel
theorem dX6_rollUpFirstFine_32 : decode cX6_rollUpFirstFine 32 = .ok (.invokevirtual 92, 3) := by decide +kernel
theorem dX6_rollUpFirstFine_35 : decode cX6_rollUpFirstFine 35 = .ok (.aload_n 0, 1) := by decide +kernel
theorem dX6_rollUpFirstFine_36 : decode cX6_rollUpFirstFine 36 = .ok (.getfield 21, 3) := by decide +kernel
theorem dX6_rollUpFirstFine_39 : decode cX6_rollUpFirstFine 39 = .ok (.invokevirtual 105, 3) := by decide +kernel
theorem dX6_rollUpFirstFine_42 : decode cX6_rollUpFirstFine 42 = .ok (.aload_n 0, 1) := by decide +kernel
theorem dX6_rollUpFirstFine_43 : decode cX6_rollUpFirstFine 43 = .ok (.getfield 25, 3) := by decide +kernel
theorem dX6_rollUpFirstFine_46 : decode cX6_rollUpFirstFine 46 = .ok (.invokevirtual 96, 3) := by decide +kernel
theorem dX6_rollUpFirstFine_49 : decode cX6_rollUpFirstFine 49 = .ok (.ifCond .eq 10, 3) := by decide +kernel
theorem dX6_rollUpFirstFine_52 : decode cX6_rollUpFirstFine 52 = .ok (.aload_n 0, 1) := by decide +kernel
theorem dX6_rollUpFirstFine_53 : decode cX6_rollUpFirstFine 53 = .ok (.getfield 25, 3) := by decide +kernel
theorem dX6_rollUpFirstFine_56 : decode cX6_rollUpFirstFine 56 = .ok (.invokevirtual 105, 3) := by decide +kernel
theorem dX6_rollUpFirstFine_59 : decode cX6_rollUpFirstFine 59 = .ok (.return_, 1) := by decide +kernel
theorem dX6_startFor_0 : decode cX6_startFor 0 = .ok (.iload_n 1, 1) := by decide +kernel
theorem dX6_startFor_1 : decode cX6_startFor 1 = .ok (.ifCond .le 11, 3) := by decide +kernel
theorem dX6_startFor_4 : decode cX6_startFor 4 = .ok (.iload_n 0, 1) := by decide +kernel
theorem dX6_startFor_5 : decode cX6_startFor 5 = .ok (.iload_n 0, 1) := by decide +kernel
theorem dX6_startFor_6 : decode cX6_startFor 6 = .ok (.iload_n 1, 1) := by decide +kernel
theorem dX6_startFor_7 : decode cX6_startFor 7 = .ok (.irem, 1) := by decide +kernel
theorem dX6_startFor_8 : decode cX6_startFor 8 = .ok (.isub, 1) := by decide +kernel
theorem dX6_startFor_9 : decode cX6_startFor 9 = .ok (.goto 4, 3) := by decide +kernel
theorem dX6_startFor_12 : decode cX6_startFor 12 = .ok (.iload_n 0, 1) := by decide +kernel
theorem dX6_startFor_13 : decode cX6_startFor 13 = .ok (.ireturn, 1) := by decide +kernel
theorem dX6_itemCount_0 : decode cX6_itemCount 0 = .ok (.aload_n 0, 1) := by decide +kernel
theorem dX6_itemCount_1 : decode cX6_itemCount 1 = .ok (.getfield 25, 3) := by decide +kernel
theorem dX6_itemCount_4 : decode cX6_itemCount 4 = .ok (.getfield 79, 3) := by decide +kernel
theorem dX6_itemCount_7 : decode cX6_itemCount 7 = .ok (.aload_n 0, 1) := by decide +kernel
theorem dX6_itemCount_8 : decode cX6_itemCount 8 = .ok (.getfield 21, 3) := by decide +kernel
theorem dX6_itemCount_11 : decode cX6_itemCount 11 = .ok (.getfield 79, 3) := by decide +kernel
theorem dX6_itemCount_14 : decode cX6_itemCount 14 = .ok (.iadd, 1) := by decide +kernel
theorem dX6_itemCount_15 : decode cX6_itemCount 15 = .ok (.aload_n 0, 1) := by decide +kernel
theorem dX6_itemCount_16 : decode cX6_itemCount 16 = .ok (.getfield 12, 3) := by decide +kernel
theorem dX6_itemCount_19 : decode cX6_itemCount 19 = .ok (.getfield 108, 3) := by decide +kernel
theorem dX6_itemCount_22 : decode cX6_itemCount 22 = .ok (.iadd, 1) := by decide +kernel
theorem dX6_itemCount_23 : decode cX6_itemCount 23 = .ok (.ireturn, 1) := by decide +kernel
set_option maxRecDepth 20000 in
theorem ggX6_ofItem_X0_number : GoodIn wsX6_ofItem wsX0_number := goodIn_r _ [10, 11, 24, 25] (by decide +kernel) (by decide +kernel)
set_option maxRecDepth 20000 in
theorem gX6_ofItem_X0_number : GoodIn wsX6_ofItem (wsV RX6 82 RX0 yX0_number wsX0_number) := goodIn_app (goodIn_of _ (by decide +kernel)) ggX6_ofItem_X0_number
set_option maxRecDepth 20000 in
theorem ggX6_ofItem_X4_number : GoodIn wsX6_ofItem wsX4_number := goodIn_r _ [16, 17, 18, 26, 27, 28, 29, 30, 31, 32] (by decide +kernel) (by decide +kernel)
set_option maxRecDepth 20000 in
theorem gX6_ofItem_X4_number : GoodIn wsX6_ofItem (wsV RX6 88 RX4 yX4_number wsX4_number) := goodIn_app (goodIn_of _ (by decide +kernel)) ggX6_ofItem_X4_number
theorem dX6_ofItem_0 : decode cX6_ofItem 0 = .ok (.iload_n 1, 1) := by decide +kernel
theorem dX6_ofItem_1 : decode cX6_ofItem 1 = .ok (.aload_n 0, 1) := by decide +kernel
theorem dX6_ofItem_2 : decode cX6_ofItem 2 = .ok (.getfield 25, 3) := by decide +kernel
theorem dX6_ofItem_5 : decode cX6_ofItem 5 = .ok (.getfield 79, 3) := by decide +kernel
theorem dX6_ofItem_8 : decode cX6_ofItem 8 = .ok (.if_icmp .ge 13, 3) := by decide +kernel
theorem dX6_ofItem_11 : decode cX6_ofItem 11 = .ok (.aload_n 0, 1) := by decide +kernel
theorem dX6_ofItem_12 : decode cX6_ofItem 12 = .ok (.getfield 25, 3) := by decide +kernel
theorem dX6_ofItem_15 : decode cX6_ofItem 15 = .ok (.iload_n 1, 1) := by decide +kernel
theorem dX6_ofItem_16 : decode cX6_ofItem 16 = .ok (.iload_n 2, 1) := by decide +kernel
theorem dX6_ofItem_17 : decode cX6_ofItem 17 = .ok (.invokevirtual 82, 3) := by decide +kernel
theorem dX6_ofItem_20 : decode cX6_ofItem 20 = .ok (.ireturn, 1) := by decide +kernel
theorem dX6_ofItem_21 : decode cX6_ofItem 21 = .ok (.iload_n 1, 1) := by decide +kernel
theorem dX6_ofItem_22 : decode cX6_ofItem 22 = .ok (.aload_n 0, 1) := by decide +kernel
theorem dX6_ofItem_23 : decode cX6_ofItem 23 = .ok (.getfield 25, 3) := by decide +kernel
theorem dX6_ofItem_26 : decode cX6_ofItem 26 = .ok (.getfield 79, 3) := by decide +kernel
theorem dX6_ofItem_29 : decode cX6_ofItem 29 = .ok (.isub, 1) := by decide +kernel
theorem dX6_ofItem_30 : decode cX6_ofItem 30 = .ok (.istore_n 3, 1) := by decide +kernel
theorem dX6_ofItem_31 : decode cX6_ofItem 31 = .ok (.iload_n 3, 1) := by decide +kernel
theorem dX6_ofItem_32 : decode cX6_ofItem 32 = .ok (.aload_n 0, 1) := by decide +kernel
theorem dX6_ofItem_33 : decode cX6_ofItem 33 = .ok (.getfield 21, 3) := by decide +kernel
theorem dX6_ofItem_36 : decode cX6_ofItem 36 = .ok (.getfield 79, 3) := by decide +kernel
theorem dX6_ofItem_39 : decode cX6_ofItem 39 = .ok (.if_icmp .ge 13, 3) := by decide +kernel
theorem dX6_ofItem_42 : decode cX6_ofItem 42 = .ok (.aload_n 0, 1) := by decide +kernel
theorem dX6_ofItem_43 : decode cX6_ofItem 43 = .ok (.getfield 21, 3) := by decide +kernel
theorem dX6_ofItem_46 : decode cX6_ofItem 46 = .ok (.iload_n 3, 1) := by decide +kernel
theorem dX6_ofItem_47 : decode cX6_ofItem 47 = .ok (.iload_n 2, 1) := by decide +kernel
theorem dX6_ofItem_48 : decode cX6_ofItem 48 = .ok (.invokevirtual 82, 3) := by decide +kernel
theorem dX6_ofItem_51 : decode cX6_ofItem 51 = .ok (.ireturn, 1) := by decide +kernel
theorem dX6_ofItem_52 : decode cX6_ofItem 52 = .ok (.aload_n 0, 1) := by decide +kernel
theorem dX6_ofItem_53 : decode cX6_ofItem 53 = .ok (.getfield 12, 3) := by decide +kernel
theorem dX6_ofItem_56 : decode cX6_ofItem 56 = .ok (.iload_n 3, 1) := by decide +kernel
theorem dX6_ofItem_57 : decode cX6_ofItem 57 = .ok (.aload_n 0, 1) := by decide +kernel
theorem dX6_ofItem_58 : decode cX6_ofItem 58 = .ok (.getfield 21, 3) := by decide +kernel
theorem dX6_ofItem_61 : decode cX6_ofItem 61 = .ok (.getfield 79, 3) := by decide +kernel
theorem dX6_ofItem_64 : decode cX6_ofItem 64 = .ok (.isub, 1) := by decide +kernel
theorem dX6_ofItem_65 : decode cX6_ofItem 65 = .ok (.iload_n 2, 1) := by decide +kernel
theorem dX6_ofItem_66 : decode cX6_ofItem 66 = .ok (.invokevirtual 88, 3) := by decide +kernel
theorem dX6_ofItem_69 : decode cX6_ofItem 69 = .ok (.ireturn, 1) := by decide +kernel
set_option maxRecDepth 20000 in
theorem ggX6_firstItemFrom_X6_itemCount : GoodIn wsX6_firstItemFrom wsX6_itemCount := goodIn_r _ [5, 6, 7, 8, 9, 10, 11, 12, 30, 31, 32, 33, 34, 35, 36, 37, 38, 39, 40, 41, 42, 43] (by decide +kernel) (by decide +kernel)
set_option maxRecDepth 20000 in
theorem gX6_firstItemFrom_X6_itemCount : GoodIn wsX6_firstItemFrom (wsV RX6 109 RX6 yX6_itemCount wsX6_itemCount) := goodIn_app (goodIn_of _ (by decide +kernel)) ggX6_firstItemFrom_X6_itemCount
set_option maxRecDepth 20000 in
theorem ggX6_firstItemFrom_X6_ofItem : GoodIn wsX6_firstItemFrom wsX6_ofItem := goodIn_r _ [16, 6, 7, 8, 9, 10, 17, 18, 19, 20, 21, 22, 23, 24, 25, 26, 27, 28, 29, 30, 31, 32, 33, 34, 35, 36, 37, 38, 39, 40, 41, 42, 43] (by decide +kernel) (by decide +kernel)
set_option maxRecDepth 20000 in
theorem gX6_firstItemFrom_X6_ofItem : GoodIn wsX6_firstItemFrom (wsV RX6 112 RX6 yX6_ofItem wsX6_ofItem) := goodIn_app (goodIn_of _ (by decide +kernel)) ggX6_firstItemFrom_X6_ofItem
theorem dX6_firstItemFrom_0 : decode cX6_firstItemFrom 0 = .ok (.iconst 0, 1) := by decide +kernel
theorem dX6_firstItemFrom_1 : decode cX6_firstItemFrom 1 = .ok (.istore_n 2, 1) := by decide +kernel
theorem dX6_firstItemFrom_2 : decode cX6_firstItemFrom 2 = .ok (.aload_n 0, 1) := by decide +kernel
theorem dX6_firstItemFrom_3 : decode cX6_firstItemFrom 3 = .ok (.invokevirtual 109, 3) := by decide +kernel
theorem dX6_firstItemFrom_6 : decode cX6_firstItemFrom 6 = .ok (.istore_n 3, 1) := by decide +kernel
theorem dX6_firstItemFrom_7 : decode cX6_firstItemFrom 7 = .ok (.iconst 0, 1) := by decide +kernel
theorem dX6_firstItemFrom_8 : decode cX6_firstItemFrom 8 = .ok (.istore 4, 2) := by decide +kernel
theorem dX6_firstItemFrom_10 : decode cX6_firstItemFrom 10 = .ok (.iload 4, 2) := by decide +kernel
theorem dX6_firstItemFrom_12 : decode cX6_firstItemFrom 12 = .ok (.bipush 32, 2) := by decide +kernel
theorem dX6_firstItemFrom_14 : decode cX6_firstItemFrom 14 = .ok (.if_icmp .ge 43, 3) := by decide +kernel
theorem dX6_firstItemFrom_17 : decode cX6_firstItemFrom 17 = .ok (.iload_n 2, 1) := by decide +kernel
theorem dX6_firstItemFrom_18 : decode cX6_firstItemFrom 18 = .ok (.iload_n 3, 1) := by decide +kernel
theorem dX6_firstItemFrom_19 : decode cX6_firstItemFrom 19 = .ok (.if_icmp .ge 38, 3) := by decide +kernel
theorem dX6_firstItemFrom_22 : decode cX6_firstItemFrom 22 = .ok (.iload_n 2, 1) := by decide +kernel
theorem dX6_firstItemFrom_23 : decode cX6_firstItemFrom 23 = .ok (.iload_n 3, 1) := by decide +kernel
theorem dX6_firstItemFrom_24 : decode cX6_firstItemFrom 24 = .ok (.iadd, 1) := by decide +kernel
theorem dX6_firstItemFrom_25 : decode cX6_firstItemFrom 25 = .ok (.iconst 2, 1) := by decide +kernel
theorem dX6_firstItemFrom_26 : decode cX6_firstItemFrom 26 = .ok (.idiv, 1) := by decide +kernel
theorem dX6_firstItemFrom_27 : decode cX6_firstItemFrom 27 = .ok (.istore 5, 2) := by decide +kernel
theorem dX6_firstItemFrom_29 : decode cX6_firstItemFrom 29 = .ok (.aload_n 0, 1) := by decide +kernel
theorem dX6_firstItemFrom_30 : decode cX6_firstItemFrom 30 = .ok (.iload 5, 2) := by decide +kernel
theorem dX6_firstItemFrom_32 : decode cX6_firstItemFrom 32 = .ok (.iconst 0, 1) := by decide +kernel
theorem dX6_firstItemFrom_33 : decode cX6_firstItemFrom 33 = .ok (.invokevirtual 112, 3) := by decide +kernel
theorem dX6_firstItemFrom_36 : decode cX6_firstItemFrom 36 = .ok (.iload_n 1, 1) := by decide +kernel
theorem dX6_firstItemFrom_37 : decode cX6_firstItemFrom 37 = .ok (.if_icmp .ge 11, 3) := by decide +kernel
theorem dX6_firstItemFrom_40 : decode cX6_firstItemFrom 40 = .ok (.iload 5, 2) := by decide +kernel
theorem dX6_firstItemFrom_42 : decode cX6_firstItemFrom 42 = .ok (.iconst 1, 1) := by decide +kernel
theorem dX6_firstItemFrom_43 : decode cX6_firstItemFrom 43 = .ok (.iadd, 1) := by decide +kernel
theorem dX6_firstItemFrom_44 : decode cX6_firstItemFrom 44 = .ok (.istore_n 2, 1) := by decide +kernel
theorem dX6_firstItemFrom_45 : decode cX6_firstItemFrom 45 = .ok (.goto 6, 3) := by decide +kernel
theorem dX6_firstItemFrom_48 : decode cX6_firstItemFrom 48 = .ok (.iload 5, 2) := by decide +kernel
theorem dX6_firstItemFrom_50 : decode cX6_firstItemFrom 50 = .ok (.istore_n 3, 1) := by decide +kernel
theorem dX6_firstItemFrom_51 : decode cX6_firstItemFrom 51 = .ok (.iinc 4 1, 3) := by decide +kernel
theorem dX6_firstItemFrom_54 : decode cX6_firstItemFrom 54 = .ok (.goto (-44), 3) := by decide +kernel
theorem dX6_firstItemFrom_57 : decode cX6_firstItemFrom 57 = .ok (.iload_n 2, 1) := by decide +kernel
theorem dX6_firstItemFrom_58 : decode cX6_firstItemFrom 58 = .ok (.ireturn, 1) := by decide +kernel
set_option maxRecDepth 20000 in
theorem ggX6_tell_X6_firstItemFrom : GoodIn wsX6_tell wsX6_firstItemFrom := goodIn_r _ [5, 6, 7, 8, 4, 9, 10, 11, 12, 13, 14, 15, 16, 17, 18, 19, 20, 21, 22, 23, 24, 25, 26, 27, 28, 29, 30, 31, 32, 33, 65, 66, 67, 68, 69, 70, 71, 72, 73, 74, 75, 76, 77, 78] (by decide +kernel) (by decide +kernel)
set_option maxRecDepth 20000 in
theorem gX6_tell_X6_firstItemFrom : GoodIn wsX6_tell (wsV RX6 115 RX6 yX6_firstItemFrom wsX6_firstItemFrom) := goodIn_app (goodIn_of _ (by decide +kernel)) ggX6_tell_X6_firstItemFrom
set_option maxRecDepth 20000 in
theorem ggX6_tell_X6_toldOfGap : GoodIn wsX6_tell wsX6_toldOfGap := goodIn_r _ [37, 38, 17, 18, 19, 4, 20, 10, 11, 12, 13, 14, 21, 22, 23, 24, 25, 26, 27, 28, 29, 30, 31, 32, 33, 6, 7, 8, 9, 15, 16, 39, 40, 41, 42, 65, 66, 67, 68, 69, 70, 71, 72, 73, 74, 75, 76, 77, 78] (by decide +kernel) (by decide +kernel)
set_option maxRecDepth 20000 in
theorem gX6_tell_X6_toldOfGap : GoodIn wsX6_tell (wsV RX6 118 RX6 yX6_toldOfGap wsX6_toldOfGap) := goodIn_app (goodIn_of _ (by decide +kernel)) ggX6_tell_X6_toldOfGap
set_option maxRecDepth 20000 in
theorem ggX6_tell_X6_total : GoodIn wsX6_tell wsX6_total := goodIn_r _ [46, 17, 18, 19, 4, 20, 10, 11, 12, 13, 14, 21, 22, 23, 24, 25, 26, 27, 28, 29, 30, 31, 32, 33, 65, 66, 67, 68, 69, 70, 71, 72, 73, 74, 75, 76, 77, 78] (by decide +kernel) (by decide +kernel)
set_option maxRecDepth 20000 in
theorem gX6_tell_X6_total : GoodIn wsX6_tell (wsV RX6 122 RX6 yX6_total wsX6_total) := goodIn_app (goodIn_of _ (by decide +kernel)) ggX6_tell_X6_total
set_option maxRecDepth 20000 in
theorem ggX6_tell_X6_least : GoodIn wsX6_tell wsX6_least := goodIn_r _ [50, 51, 52, 53, 54, 17, 18, 19, 4, 20, 10, 11, 12, 13, 14, 21, 22, 23, 24, 25, 26, 27, 28, 29, 30, 31, 32, 33, 65, 66, 67, 68, 69, 70, 71, 72, 73, 74, 75, 76, 77, 78] (by decide +kernel) (by decide +kernel)
set_option maxRecDepth 20000 in
theorem gX6_tell_X6_least : GoodIn wsX6_tell (wsV RX6 125 RX6 yX6_least wsX6_least) := goodIn_app (goodIn_of _ (by decide +kernel)) ggX6_tell_X6_least
set_option maxRecDepth 20000 in
theorem ggX6_tell_X6_greatest : GoodIn wsX6_tell wsX6_greatest := goodIn_r _ [58, 59, 60, 53, 61, 17, 18, 19, 4, 20, 10, 11, 12, 13, 14, 21, 22, 23, 24, 25, 26, 27, 28, 29, 30, 31, 32, 33, 65, 66, 67, 68, 69, 70, 71, 72, 73, 74, 75, 76, 77, 78] (by decide +kernel) (by decide +kernel)
set_option maxRecDepth 20000 in
theorem gX6_tell_X6_greatest : GoodIn wsX6_tell (wsV RX6 128 RX6 yX6_greatest wsX6_greatest) := goodIn_app (goodIn_of _ (by decide +kernel)) ggX6_tell_X6_greatest
set_option maxRecDepth 20000 in
theorem ggX6_tell_X6_ofItem : GoodIn wsX6_tell wsX6_ofItem := goodIn_r _ [20, 10, 11, 12, 13, 14, 21, 22, 23, 24, 25, 26, 27, 28, 29, 30, 31, 32, 33, 65, 66, 67, 68, 69, 70, 71, 72, 73, 74, 75, 76, 77, 78] (by decide +kernel) (by decide +kernel)
set_option maxRecDepth 20000 in
theorem gX6_tell_X6_ofItem : GoodIn wsX6_tell (wsV RX6 112 RX6 yX6_ofItem wsX6_ofItem) := goodIn_app (goodIn_of _ (by decide +kernel)) ggX6_tell_X6_ofItem
set_option maxRecDepth 20000 in
theorem ggX6_tell_X6_quotient : GoodIn wsX6_tell wsX6_quotient := goodIn_r _ [64, 38] (by decide +kernel) (by decide +kernel)
set_option maxRecDepth 20000 in
theorem gX6_tell_X6_quotient : GoodIn wsX6_tell (va_wsS RX6 131 yX6_quotient wsX6_quotient) := goodIn_app (goodIn_of _ (by decide +kernel)) ggX6_tell_X6_quotient
theorem dX6_tell_0 : decode cX6_tell 0 = .ok (.aload_n 0, 1) := by decide +kernel
theorem dX6_tell_1 : decode cX6_tell 1 = .ok (.iload_n 1, 1) := by decide +kernel
theorem dX6_tell_2 : decode cX6_tell 2 = .ok (.invokevirtual 115, 3) := by decide +kernel
theorem dX6_tell_5 : decode cX6_tell 5 = .ok (.istore 5, 2) := by decide +kernel
theorem dX6_tell_7 : decode cX6_tell 7 = .ok (.aload_n 0, 1) := by decide +kernel
theorem dX6_tell_8 : decode cX6_tell 8 = .ok (.iload_n 2, 1) := by decide +kernel
theorem dX6_tell_9 : decode cX6_tell 9 = .ok (.invokevirtual 115, 3) := by decide +kernel
theorem dX6_tell_12 : decode cX6_tell 12 = .ok (.istore 6, 2) := by decide +kernel
theorem dX6_tell_14 : decode cX6_tell 14 = .ok (.iload 5, 2) := by decide +kernel
theorem dX6_tell_16 : decode cX6_tell 16 = .ok (.iload 6, 2) := by decide +kernel
theorem dX6_tell_18 : decode cX6_tell 18 = .ok (.if_icmp .lt 21, 3) := by decide +kernel
theorem dX6_tell_21 : decode cX6_tell 21 = .ok (.iload_n 3, 1) := by decide +kernel
theorem dX6_tell_22 : decode cX6_tell 22 = .ok (.ifCond .ne 7, 3) := by decide +kernel
theorem dX6_tell_25 : decode cX6_tell 25 = .ok (.iconst 0, 1) := by decide +kernel
theorem dX6_tell_26 : decode cX6_tell 26 = .ok (.goto 12, 3) := by decide +kernel
theorem dX6_tell_29 : decode cX6_tell 29 = .ok (.aload_n 0, 1) := by decide +kernel
theorem dX6_tell_30 : decode cX6_tell 30 = .ok (.iload_n 1, 1) := by decide +kernel
theorem dX6_tell_31 : decode cX6_tell 31 = .ok (.iload 5, 2) := by decide +kernel
theorem dX6_tell_33 : decode cX6_tell 33 = .ok (.iload 4, 2) := by decide +kernel
theorem dX6_tell_35 : decode cX6_tell 35 = .ok (.invokevirtual 118, 3) := by decide +kernel
theorem dX6_tell_38 : decode cX6_tell 38 = .ok (.ireturn, 1) := by decide +kernel
theorem dX6_tell_39 : decode cX6_tell 39 = .ok (.iload_n 3, 1) := by decide +kernel
theorem dX6_tell_40 : decode cX6_tell 40 = .ok (.tableswitch 123 0 6 #[44, 54, 64, 73, 82, 90, 101], 44) := by decide +kernel
theorem dX6_tell_84 : decode cX6_tell 84 = .ok (.aload_n 0, 1) := by decide +kernel
theorem dX6_tell_85 : decode cX6_tell 85 = .ok (.iload 5, 2) := by decide +kernel
theorem dX6_tell_87 : decode cX6_tell 87 = .ok (.iload 6, 2) := by decide +kernel
theorem dX6_tell_89 : decode cX6_tell 89 = .ok (.iconst 1, 1) := by decide +kernel
theorem dX6_tell_90 : decode cX6_tell 90 = .ok (.invokevirtual 122, 3) := by decide +kernel
theorem dX6_tell_93 : decode cX6_tell 93 = .ok (.ireturn, 1) := by decide +kernel
theorem dX6_tell_94 : decode cX6_tell 94 = .ok (.aload_n 0, 1) := by decide +kernel
theorem dX6_tell_95 : decode cX6_tell 95 = .ok (.iload 5, 2) := by decide +kernel
theorem dX6_tell_97 : decode cX6_tell 97 = .ok (.iload 6, 2) := by decide +kernel
theorem dX6_tell_99 : decode cX6_tell 99 = .ok (.iconst 2, 1) := by decide +kernel
theorem dX6_tell_100 : decode cX6_tell 100 = .ok (.invokevirtual 122, 3) := by decide +kernel
theorem dX6_tell_103 : decode cX6_tell 103 = .ok (.ireturn, 1) := by decide +kernel
theorem dX6_tell_104 : decode cX6_tell 104 = .ok (.aload_n 0, 1) := by decide +kernel
theorem dX6_tell_105 : decode cX6_tell 105 = .ok (.iload 5, 2) := by decide +kernel
theorem dX6_tell_107 : decode cX6_tell 107 = .ok (.iload 6, 2) := by decide +kernel
theorem dX6_tell_109 : decode cX6_tell 109 = .ok (.invokevirtual 125, 3) := by decide +kernel
theorem dX6_tell_112 : decode cX6_tell 112 = .ok (.ireturn, 1) := by decide +kernel
theorem dX6_tell_113 : decode cX6_tell 113 = .ok (.aload_n 0, 1) := by decide +kernel
theorem dX6_tell_114 : decode cX6_tell 114 = .ok (.iload 5, 2) := by decide +kernel
theorem dX6_tell_116 : decode cX6_tell 116 = .ok (.iload 6, 2) := by decide +kernel
theorem dX6_tell_118 : decode cX6_tell 118 = .ok (.invokevirtual 128, 3) := by decide +kernel
theorem dX6_tell_121 : decode cX6_tell 121 = .ok (.ireturn, 1) := by decide +kernel
theorem dX6_tell_122 : decode cX6_tell 122 = .ok (.aload_n 0, 1) := by decide +kernel
theorem dX6_tell_123 : decode cX6_tell 123 = .ok (.iload 5, 2) := by decide +kernel
theorem dX6_tell_125 : decode cX6_tell 125 = .ok (.iconst 5, 1) := by decide +kernel
theorem dX6_tell_126 : decode cX6_tell 126 = .ok (.invokevirtual 112, 3) := by decide +kernel
theorem dX6_tell_129 : decode cX6_tell 129 = .ok (.ireturn, 1) := by decide +kernel
theorem dX6_tell_130 : decode cX6_tell 130 = .ok (.aload_n 0, 1) := by decide +kernel
theorem dX6_tell_131 : decode cX6_tell 131 = .ok (.iload 6, 2) := by decide +kernel
theorem dX6_tell_133 : decode cX6_tell 133 = .ok (.iconst 1, 1) := by decide +kernel
theorem dX6_tell_134 : decode cX6_tell 134 = .ok (.isub, 1) := by decide +kernel
theorem dX6_tell_135 : decode cX6_tell 135 = .ok (.bipush 6, 2) := by decide +kernel
theorem dX6_tell_137 : decode cX6_tell 137 = .ok (.invokevirtual 112, 3) := by decide +kernel
theorem dX6_tell_140 : decode cX6_tell 140 = .ok (.ireturn, 1) := by decide +kernel
theorem dX6_tell_141 : decode cX6_tell 141 = .ok (.aload_n 0, 1) := by decide +kernel
theorem dX6_tell_142 : decode cX6_tell 142 = .ok (.iload 5, 2) := by decide +kernel
theorem dX6_tell_144 : decode cX6_tell 144 = .ok (.iload 6, 2) := by decide +kernel
theorem dX6_tell_146 : decode cX6_tell 146 = .ok (.iconst 2, 1) := by decide +kernel
theorem dX6_tell_147 : decode cX6_tell 147 = .ok (.invokevirtual 122, 3) := by decide +kernel
theorem dX6_tell_150 : decode cX6_tell 150 = .ok (.aload_n 0, 1) := by decide +kernel
theorem dX6_tell_151 : decode cX6_tell 151 = .ok (.iload 5, 2) := by decide +kernel
theorem dX6_tell_153 : decode cX6_tell 153 = .ok (.iload 6, 2) := by decide +kernel
theorem dX6_tell_155 : decode cX6_tell 155 = .ok (.iconst 1, 1) := by decide +kernel
theorem dX6_tell_156 : decode cX6_tell 156 = .ok (.invokevirtual 122, 3) := by decide +kernel
theorem dX6_tell_159 : decode cX6_tell 159 = .ok (.invokestatic 131, 3) := by decide +kernel
theorem dX6_tell_162 : decode cX6_tell 162 = .ok (.ireturn, 1) := by decide +kernel
theorem dX6_tell_163 : decode cX6_tell 163 = .ok (.aload_n 0, 1) := by decide +kernel
theorem dX6_tell_164 : decode cX6_tell 164 = .ok (.iload 5, 2) := by decide +kernel
theorem dX6_tell_166 : decode cX6_tell 166 = .ok (.iload 6, 2) := by decide +kernel
theorem dX6_tell_168 : decode cX6_tell 168 = .ok (.invokevirtual 128, 3) := by decide +kernel
theorem dX6_tell_171 : decode cX6_tell 171 = .ok (.aload_n 0, 1) := by decide +kernel
theorem dX6_tell_172 : decode cX6_tell 172 = .ok (.iload 5, 2) := by decide +kernel
theorem dX6_tell_174 : decode cX6_tell 174 = .ok (.iload 6, 2) := by decide +kernel
theorem dX6_tell_176 : decode cX6_tell 176 = .ok (.invokevirtual 125, 3) := by decide +kernel
theorem dX6_tell_179 : decode cX6_tell 179 = .ok (.isub, 1) := by decide +kernel
theorem dX6_tell_180 : decode cX6_tell 180 = .ok (.ireturn, 1) := by decide +kernel
set_option maxRecDepth 20000 in
theorem ggX6_toldOfGap_X6_ofItem : GoodIn wsX6_toldOfGap wsX6_ofItem := goodIn_r _ [6, 7, 8, 9, 10, 11, 12, 13, 14, 15, 16, 17, 18, 19, 20, 21, 22, 23, 24, 35, 36, 37, 38, 39, 40, 41, 42, 43, 44, 45, 46, 47, 48] (by decide +kernel) (by decide +kernel)
set_option maxRecDepth 20000 in
theorem gX6_toldOfGap_X6_ofItem : GoodIn wsX6_toldOfGap (wsV RX6 112 RX6 yX6_ofItem wsX6_ofItem) := goodIn_app (goodIn_of _ (by decide +kernel)) ggX6_toldOfGap_X6_ofItem
set_option maxRecDepth 20000 in
theorem ggX6_toldOfGap_X6_itemCount : GoodIn wsX6_toldOfGap wsX6_itemCount := goodIn_r _ [28, 7, 8, 9, 10, 11, 29, 30, 35, 36, 37, 38, 39, 40, 41, 42, 43, 44, 45, 46, 47, 48] (by decide +kernel) (by decide +kernel)
set_option maxRecDepth 20000 in
theorem gX6_toldOfGap_X6_itemCount : GoodIn wsX6_toldOfGap (wsV RX6 109 RX6 yX6_itemCount wsX6_itemCount) := goodIn_app (goodIn_of _ (by decide +kernel)) ggX6_toldOfGap_X6_itemCount
set_option maxRecDepth 20000 in
theorem ggX6_toldOfGap_X6_onLine : GoodIn wsX6_toldOfGap wsX6_onLine := goodIn_r _ [34, 1, 2, 3, 4, 5, 6, 7, 8, 9, 10, 11, 12, 13, 14, 15, 16, 17, 18, 19, 20, 21, 22, 23, 24, 35, 36, 37, 38, 39, 40, 41, 42, 43, 44, 45, 46, 47, 48] (by decide +kernel) (by decide +kernel)
set_option maxRecDepth 20000 in
theorem gX6_toldOfGap_X6_onLine : GoodIn wsX6_toldOfGap (wsV RX6 135 RX6 yX6_onLine wsX6_onLine) := goodIn_app (goodIn_of _ (by decide +kernel)) ggX6_toldOfGap_X6_onLine
theorem dX6_toldOfGap_0 : decode cX6_toldOfGap 0 = .ok (.iload_n 2, 1) := by decide +kernel
theorem dX6_toldOfGap_1 : decode cX6_toldOfGap 1 = .ok (.iconst 1, 1) := by decide +kernel
theorem dX6_toldOfGap_2 : decode cX6_toldOfGap 2 = .ok (.isub, 1) := by decide +kernel
theorem dX6_toldOfGap_3 : decode cX6_toldOfGap 3 = .ok (.istore 4, 2) := by decide +kernel
theorem dX6_toldOfGap_5 : decode cX6_toldOfGap 5 = .ok (.iload_n 3, 1) := by decide +kernel
theorem dX6_toldOfGap_6 : decode cX6_toldOfGap 6 = .ok (.tableswitch 74 1 3 #[26, 28, 47], 26) := by decide +kernel
theorem dX6_toldOfGap_32 : decode cX6_toldOfGap 32 = .ok (.iconst 0, 1) := by decide +kernel
theorem dX6_toldOfGap_33 : decode cX6_toldOfGap 33 = .ok (.ireturn, 1) := by decide +kernel
theorem dX6_toldOfGap_34 : decode cX6_toldOfGap 34 = .ok (.iload 4, 2) := by decide +kernel
theorem dX6_toldOfGap_36 : decode cX6_toldOfGap 36 = .ok (.ifCond .lt 14, 3) := by decide +kernel
theorem dX6_toldOfGap_39 : decode cX6_toldOfGap 39 = .ok (.aload_n 0, 1) := by decide +kernel
theorem dX6_toldOfGap_40 : decode cX6_toldOfGap 40 = .ok (.iload 4, 2) := by decide +kernel
theorem dX6_toldOfGap_42 : decode cX6_toldOfGap 42 = .ok (.bipush 6, 2) := by decide +kernel
theorem dX6_toldOfGap_44 : decode cX6_toldOfGap 44 = .ok (.invokevirtual 112, 3) := by decide +kernel
theorem dX6_toldOfGap_47 : decode cX6_toldOfGap 47 = .ok (.goto 5, 3) := by decide +kernel
theorem dX6_toldOfGap_50 : decode cX6_toldOfGap 50 = .ok (.ldc 134, 2) := by decide +kernel
theorem dX6_toldOfGap_52 : decode cX6_toldOfGap 52 = .ok (.ireturn, 1) := by decide +kernel
theorem dX6_toldOfGap_53 : decode cX6_toldOfGap 53 = .ok (.iload 4, 2) := by decide +kernel
theorem dX6_toldOfGap_55 : decode cX6_toldOfGap 55 = .ok (.ifCond .lt 22, 3) := by decide +kernel
theorem dX6_toldOfGap_58 : decode cX6_toldOfGap 58 = .ok (.iload_n 2, 1) := by decide +kernel
theorem dX6_toldOfGap_59 : decode cX6_toldOfGap 59 = .ok (.aload_n 0, 1) := by decide +kernel
theorem dX6_toldOfGap_60 : decode cX6_toldOfGap 60 = .ok (.invokevirtual 109, 3) := by decide +kernel
theorem dX6_toldOfGap_63 : decode cX6_toldOfGap 63 = .ok (.if_icmp .ge 14, 3) := by decide +kernel
theorem dX6_toldOfGap_66 : decode cX6_toldOfGap 66 = .ok (.aload_n 0, 1) := by decide +kernel
theorem dX6_toldOfGap_67 : decode cX6_toldOfGap 67 = .ok (.iload 4, 2) := by decide +kernel
theorem dX6_toldOfGap_69 : decode cX6_toldOfGap 69 = .ok (.iload_n 2, 1) := by decide +kernel
theorem dX6_toldOfGap_70 : decode cX6_toldOfGap 70 = .ok (.iload_n 1, 1) := by decide +kernel
theorem dX6_toldOfGap_71 : decode cX6_toldOfGap 71 = .ok (.invokevirtual 135, 3) := by decide +kernel
theorem dX6_toldOfGap_74 : decode cX6_toldOfGap 74 = .ok (.goto 5, 3) := by decide +kernel
theorem dX6_toldOfGap_77 : decode cX6_toldOfGap 77 = .ok (.ldc 134, 2) := by decide +kernel
theorem dX6_toldOfGap_79 : decode cX6_toldOfGap 79 = .ok (.ireturn, 1) := by decide +kernel
theorem dX6_toldOfGap_80 : decode cX6_toldOfGap 80 = .ok (.ldc 134, 2) := by decide +kernel
theorem dX6_toldOfGap_82 : decode cX6_toldOfGap 82 = .ok (.ireturn, 1) := by decide +kernel
set_option maxRecDepth 20000 in
theorem ggX6_onLine_X6_ofItem : GoodIn wsX6_onLine wsX6_ofItem := goodIn_r _ [6, 7, 8, 9, 10, 11, 12, 13, 14, 15, 16, 17, 18, 19, 20, 21, 22, 23, 24, 25, 26, 27, 28, 29, 30, 31, 32, 33, 34, 35, 36, 37, 38] (by decide +kernel) (by decide +kernel)
set_option maxRecDepth 20000 in
theorem gX6_onLine_X6_ofItem : GoodIn wsX6_onLine (wsV RX6 112 RX6 yX6_ofItem wsX6_ofItem) := goodIn_app (goodIn_of _ (by decide +kernel)) ggX6_onLine_X6_ofItem
theorem dX6_onLine_0 : decode cX6_onLine 0 = .ok (.aload_n 0, 1) := by decide +kernel
theorem dX6_onLine_1 : decode cX6_onLine 1 = .ok (.iload_n 1, 1) := by decide +kernel
theorem dX6_onLine_2 : decode cX6_onLine 2 = .ok (.bipush 6, 2) := by decide +kernel
theorem dX6_onLine_4 : decode cX6_onLine 4 = .ok (.invokevirtual 112, 3) := by decide +kernel
theorem dX6_onLine_7 : decode cX6_onLine 7 = .ok (.istore 4, 2) := by decide +kernel
theorem dX6_onLine_9 : decode cX6_onLine 9 = .ok (.aload_n 0, 1) := by decide +kernel
theorem dX6_onLine_10 : decode cX6_onLine 10 = .ok (.iload_n 2, 1) := by decide +kernel
theorem dX6_onLine_11 : decode cX6_onLine 11 = .ok (.iconst 5, 1) := by decide +kernel
theorem dX6_onLine_12 : decode cX6_onLine 12 = .ok (.invokevirtual 112, 3) := by decide +kernel
theorem dX6_onLine_15 : decode cX6_onLine 15 = .ok (.iload 4, 2) := by decide +kernel
theorem dX6_onLine_17 : decode cX6_onLine 17 = .ok (.isub, 1) := by decide +kernel
theorem dX6_onLine_18 : decode cX6_onLine 18 = .ok (.i2l, 1) := by decide +kernel
theorem dX6_onLine_19 : decode cX6_onLine 19 = .ok (.lstore 5, 2) := by decide +kernel
theorem dX6_onLine_21 : decode cX6_onLine 21 = .ok (.aload_n 0, 1) := by decide +kernel
theorem dX6_onLine_22 : decode cX6_onLine 22 = .ok (.iload_n 1, 1) := by decide +kernel
theorem dX6_onLine_23 : decode cX6_onLine 23 = .ok (.iconst 0, 1) := by decide +kernel
theorem dX6_onLine_24 : decode cX6_onLine 24 = .ok (.invokevirtual 112, 3) := by decide +kernel
theorem dX6_onLine_27 : decode cX6_onLine 27 = .ok (.istore 7, 2) := by decide +kernel
theorem dX6_onLine_29 : decode cX6_onLine 29 = .ok (.aload_n 0, 1) := by decide +kernel
theorem dX6_onLine_30 : decode cX6_onLine 30 = .ok (.iload_n 2, 1) := by decide +kernel
theorem dX6_onLine_31 : decode cX6_onLine 31 = .ok (.iconst 0, 1) := by decide +kernel
theorem dX6_onLine_32 : decode cX6_onLine 32 = .ok (.invokevirtual 112, 3) := by decide +kernel
theorem dX6_onLine_35 : decode cX6_onLine 35 = .ok (.iload 7, 2) := by decide +kernel
theorem dX6_onLine_37 : decode cX6_onLine 37 = .ok (.isub, 1) := by decide +kernel
theorem dX6_onLine_38 : decode cX6_onLine 38 = .ok (.istore 8, 2) := by decide +kernel
theorem dX6_onLine_40 : decode cX6_onLine 40 = .ok (.iload 8, 2) := by decide +kernel
theorem dX6_onLine_42 : decode cX6_onLine 42 = .ok (.ifCond .le 23, 3) := by decide +kernel
theorem dX6_onLine_45 : decode cX6_onLine 45 = .ok (.iload 4, 2) := by decide +kernel
theorem dX6_onLine_47 : decode cX6_onLine 47 = .ok (.i2l, 1) := by decide +kernel
theorem dX6_onLine_48 : decode cX6_onLine 48 = .ok (.lload 5, 2) := by decide +kernel
theorem dX6_onLine_50 : decode cX6_onLine 50 = .ok (.iload_n 3, 1) := by decide +kernel
theorem dX6_onLine_51 : decode cX6_onLine 51 = .ok (.iload 7, 2) := by decide +kernel
theorem dX6_onLine_53 : decode cX6_onLine 53 = .ok (.isub, 1) := by decide +kernel
theorem dX6_onLine_54 : decode cX6_onLine 54 = .ok (.i2l, 1) := by decide +kernel
theorem dX6_onLine_55 : decode cX6_onLine 55 = .ok (.lmul, 1) := by decide +kernel
theorem dX6_onLine_56 : decode cX6_onLine 56 = .ok (.iload 8, 2) := by decide +kernel
theorem dX6_onLine_58 : decode cX6_onLine 58 = .ok (.i2l, 1) := by decide +kernel
theorem dX6_onLine_59 : decode cX6_onLine 59 = .ok (.ldiv, 1) := by decide +kernel
theorem dX6_onLine_60 : decode cX6_onLine 60 = .ok (.ladd, 1) := by decide +kernel
theorem dX6_onLine_61 : decode cX6_onLine 61 = .ok (.l2i, 1) := by decide +kernel
theorem dX6_onLine_62 : decode cX6_onLine 62 = .ok (.goto 5, 3) := by decide +kernel
theorem dX6_onLine_65 : decode cX6_onLine 65 = .ok (.ldc 134, 2) := by decide +kernel
theorem dX6_onLine_67 : decode cX6_onLine 67 = .ok (.ireturn, 1) := by decide +kernel
set_option maxRecDepth 20000 in
theorem ggX6_total_X6_ofItem : GoodIn wsX6_total wsX6_ofItem := goodIn_r _ [5, 6, 7, 8, 9, 10, 11, 12, 13, 14, 15, 16, 17, 18, 19, 20, 21, 22, 23, 24, 25, 26, 27, 28, 29, 30, 31, 32, 33, 34, 35, 36, 37] (by decide +kernel) (by decide +kernel)
set_option maxRecDepth 20000 in
theorem gX6_total_X6_ofItem : GoodIn wsX6_total (wsV RX6 112 RX6 yX6_ofItem wsX6_ofItem) := goodIn_app (goodIn_of _ (by decide +kernel)) ggX6_total_X6_ofItem
theorem dX6_total_0 : decode cX6_total 0 = .ok (.iconst 0, 1) := by decide +kernel
theorem dX6_total_1 : decode cX6_total 1 = .ok (.istore 4, 2) := by decide +kernel
theorem dX6_total_3 : decode cX6_total 3 = .ok (.iload_n 1, 1) := by decide +kernel
theorem dX6_total_4 : decode cX6_total 4 = .ok (.istore 5, 2) := by decide +kernel
theorem dX6_total_6 : decode cX6_total 6 = .ok (.iload 5, 2) := by decide +kernel
theorem dX6_total_8 : decode cX6_total 8 = .ok (.iload_n 2, 1) := by decide +kernel
theorem dX6_total_9 : decode cX6_total 9 = .ok (.if_icmp .ge 21, 3) := by decide +kernel
theorem dX6_total_12 : decode cX6_total 12 = .ok (.iload 4, 2) := by decide +kernel
theorem dX6_total_14 : decode cX6_total 14 = .ok (.aload_n 0, 1) := by decide +kernel
theorem dX6_total_15 : decode cX6_total 15 = .ok (.iload 5, 2) := by decide +kernel
theorem dX6_total_17 : decode cX6_total 17 = .ok (.iload_n 3, 1) := by decide +kernel
theorem dX6_total_18 : decode cX6_total 18 = .ok (.invokevirtual 112, 3) := by decide +kernel
theorem dX6_total_21 : decode cX6_total 21 = .ok (.iadd, 1) := by decide +kernel
theorem dX6_total_22 : decode cX6_total 22 = .ok (.istore 4, 2) := by decide +kernel
theorem dX6_total_24 : decode cX6_total 24 = .ok (.iinc 5 1, 3) := by decide +kernel
theorem dX6_total_27 : decode cX6_total 27 = .ok (.goto (-21), 3) := by decide +kernel
theorem dX6_total_30 : decode cX6_total 30 = .ok (.iload 4, 2) := by decide +kernel
theorem dX6_total_32 : decode cX6_total 32 = .ok (.ireturn, 1) := by decide +kernel
theorem dX6_quotient_0 : decode cX6_quotient 0 = .ok (.iload_n 1, 1) := by decide +kernel
theorem dX6_quotient_1 : decode cX6_quotient 1 = .ok (.ifCond .le 9, 3) := by decide +kernel
theorem dX6_quotient_4 : decode cX6_quotient 4 = .ok (.iload_n 0, 1) := by decide +kernel
theorem dX6_quotient_5 : decode cX6_quotient 5 = .ok (.iload_n 1, 1) := by decide +kernel
theorem dX6_quotient_6 : decode cX6_quotient 6 = .ok (.idiv, 1) := by decide +kernel
theorem dX6_quotient_7 : decode cX6_quotient 7 = .ok (.goto 5, 3) := by decide +kernel
theorem dX6_quotient_10 : decode cX6_quotient 10 = .ok (.ldc 134, 2) := by decide +kernel
theorem dX6_quotient_12 : decode cX6_quotient 12 = .ok (.ireturn, 1) := by decide +kernel
set_option maxRecDepth 20000 in
theorem ggX6_least_X6_ofItem : GoodIn wsX6_least wsX6_ofItem := goodIn_r _ [9, 10, 11, 12, 13, 14, 15, 16, 17, 18, 19, 20, 21, 22, 23, 24, 25, 26, 27, 28, 29, 30, 31, 32, 33, 34, 35, 36, 37, 38, 39, 40, 41] (by decide +kernel) (by decide +kernel)
set_option maxRecDepth 20000 in
theorem gX6_least_X6_ofItem : GoodIn wsX6_least (wsV RX6 112 RX6 yX6_ofItem wsX6_ofItem) := goodIn_app (goodIn_of _ (by decide +kernel)) ggX6_least_X6_ofItem
theorem dX6_least_0 : decode cX6_least 0 = .ok (.aload_n 0, 1) := by decide +kernel
theorem dX6_least_1 : decode cX6_least 1 = .ok (.iload_n 1, 1) := by decide +kernel
theorem dX6_least_2 : decode cX6_least 2 = .ok (.iconst 3, 1) := by decide +kernel
theorem dX6_least_3 : decode cX6_least 3 = .ok (.invokevirtual 112, 3) := by decide +kernel
theorem dX6_least_6 : decode cX6_least 6 = .ok (.istore_n 3, 1) := by decide +kernel
theorem dX6_least_7 : decode cX6_least 7 = .ok (.iload_n 1, 1) := by decide +kernel
theorem dX6_least_8 : decode cX6_least 8 = .ok (.iconst 1, 1) := by decide +kernel
theorem dX6_least_9 : decode cX6_least 9 = .ok (.iadd, 1) := by decide +kernel
theorem dX6_least_10 : decode cX6_least 10 = .ok (.istore 4, 2) := by decide +kernel
theorem dX6_least_12 : decode cX6_least 12 = .ok (.iload 4, 2) := by decide +kernel
theorem dX6_least_14 : decode cX6_least 14 = .ok (.iload_n 2, 1) := by decide +kernel
theorem dX6_least_15 : decode cX6_least 15 = .ok (.if_icmp .ge 21, 3) := by decide +kernel
theorem dX6_least_18 : decode cX6_least 18 = .ok (.iload_n 3, 1) := by decide +kernel
theorem dX6_least_19 : decode cX6_least 19 = .ok (.aload_n 0, 1) := by decide +kernel
theorem dX6_least_20 : decode cX6_least 20 = .ok (.iload 4, 2) := by decide +kernel
theorem dX6_least_22 : decode cX6_least 22 = .ok (.iconst 3, 1) := by decide +kernel
theorem dX6_least_23 : decode cX6_least 23 = .ok (.invokevirtual 112, 3) := by decide +kernel
theorem dX6_least_26 : decode cX6_least 26 = .ok (.invokestatic 138, 3) := by decide +kernel
theorem dX6_least_29 : decode cX6_least 29 = .ok (.istore_n 3, 1) := by decide +kernel
theorem dX6_least_30 : decode cX6_least 30 = .ok (.iinc 4 1, 3) := by decide +kernel
theorem dX6_least_33 : decode cX6_least 33 = .ok (.goto (-21), 3) := by decide +kernel
theorem dX6_least_36 : decode cX6_least 36 = .ok (.iload_n 3, 1) := by decide +kernel
theorem dX6_least_37 : decode cX6_least 37 = .ok (.ireturn, 1) := by decide +kernel
set_option maxRecDepth 20000 in
theorem ggX6_greatest_X6_ofItem : GoodIn wsX6_greatest wsX6_ofItem := goodIn_r _ [9, 10, 11, 12, 13, 14, 15, 16, 17, 18, 19, 20, 21, 22, 23, 24, 25, 26, 27, 28, 29, 30, 31, 32, 33, 34, 35, 36, 37, 38, 39, 40, 41] (by decide +kernel) (by decide +kernel)
set_option maxRecDepth 20000 in
theorem gX6_greatest_X6_ofItem : GoodIn wsX6_greatest (wsV RX6 112 RX6 yX6_ofItem wsX6_ofItem) := goodIn_app (goodIn_of _ (by decide +kernel)) ggX6_greatest_X6_ofItem
theorem dX6_greatest_0 : decode cX6_greatest 0 = .ok (.aload_n 0, 1) := by decide +kernel
theorem dX6_greatest_1 : decode cX6_greatest 1 = .ok (.iload_n 1, 1) := by decide +kernel
theorem dX6_greatest_2 : decode cX6_greatest 2 = .ok (.iconst 4, 1) := by decide +kernel
theorem dX6_greatest_3 : decode cX6_greatest 3 = .ok (.invokevirtual 112, 3) := by decide +kernel
theorem dX6_greatest_6 : decode cX6_greatest 6 = .ok (.istore_n 3, 1) := by decide +kernel
theorem dX6_greatest_7 : decode cX6_greatest 7 = .ok (.iload_n 1, 1) := by decide +kernel
theorem dX6_greatest_8 : decode cX6_greatest 8 = .ok (.iconst 1, 1) := by decide +kernel
theorem dX6_greatest_9 : decode cX6_greatest 9 = .ok (.iadd, 1) := by decide +kernel
theorem dX6_greatest_10 : decode cX6_greatest 10 = .ok (.istore 4, 2) := by decide +kernel
theorem dX6_greatest_12 : decode cX6_greatest 12 = .ok (.iload 4, 2) := by decide +kernel
theorem dX6_greatest_14 : decode cX6_greatest 14 = .ok (.iload_n 2, 1) := by decide +kernel
theorem dX6_greatest_15 : decode cX6_greatest 15 = .ok (.if_icmp .ge 21, 3) := by decide +kernel
theorem dX6_greatest_18 : decode cX6_greatest 18 = .ok (.iload_n 3, 1) := by decide +kernel
theorem dX6_greatest_19 : decode cX6_greatest 19 = .ok (.aload_n 0, 1) := by decide +kernel
theorem dX6_greatest_20 : decode cX6_greatest 20 = .ok (.iload 4, 2) := by decide +kernel
theorem dX6_greatest_22 : decode cX6_greatest 22 = .ok (.iconst 4, 1) := by decide +kernel
theorem dX6_greatest_23 : decode cX6_greatest 23 = .ok (.invokevirtual 112, 3) := by decide +kernel
theorem dX6_greatest_26 : decode cX6_greatest 26 = .ok (.invokestatic 143, 3) := by decide +kernel
theorem dX6_greatest_29 : decode cX6_greatest 29 = .ok (.istore_n 3, 1) := by decide +kernel
theorem dX6_greatest_30 : decode cX6_greatest 30 = .ok (.iinc 4 1, 3) := by decide +kernel
theorem dX6_greatest_33 : decode cX6_greatest 33 = .ok (.goto (-21), 3) := by decide +kernel
theorem dX6_greatest_36 : decode cX6_greatest 36 = .ok (.iload_n 3, 1) := by decide +kernel
theorem dX6_greatest_37 : decode cX6_greatest 37 = .ok (.ireturn, 1) := by decide +kernel
set_option maxRecDepth 20000 in
theorem ggX6_copyFrom_X4_copyFrom : GoodIn wsX6_copyFrom wsX4_copyFrom := goodIn_r _ [8, 9, 10, 11, 12, 13, 14, 15, 16, 17, 7, 18, 19, 20, 21, 22, 23, 24, 25, 26, 27, 28, 29, 30, 31, 32, 54, 55, 56, 57, 58, 59, 60, 61, 62] (by decide +kernel) (by decide +kernel)
set_option maxRecDepth 20000 in
theorem gX6_copyFrom_X4_copyFrom : GoodIn wsX6_copyFrom (wsV RX6 146 RX4 yX4_copyFrom wsX4_copyFrom) := goodIn_app (goodIn_of _ (by decide +kernel)) ggX6_copyFrom_X4_copyFrom
set_option maxRecDepth 20000 in
theorem ggX6_copyFrom_X0_copyFrom : GoodIn wsX6_copyFrom wsX0_copyFrom := goodIn_r _ [37, 38, 39, 40, 41, 42, 36, 43, 44, 45, 46, 47, 48, 54, 55, 56, 57, 58, 59, 60, 61, 62] (by decide +kernel) (by decide +kernel)
set_option maxRecDepth 20000 in
theorem gX6_copyFrom_X0_copyFrom : GoodIn wsX6_copyFrom (wsV RX6 150 RX0 yX0_copyFrom wsX0_copyFrom) := goodIn_app (goodIn_of _ (by decide +kernel)) ggX6_copyFrom_X0_copyFrom
theorem dX6_copyFrom_0 : decode cX6_copyFrom 0 = .ok (.aload_n 0, 1) := by decide +kernel
theorem dX6_copyFrom_1 : decode cX6_copyFrom 1 = .ok (.getfield 12, 3) := by decide +kernel
theorem dX6_copyFrom_4 : decode cX6_copyFrom 4 = .ok (.aload_n 1, 1) := by decide +kernel
theorem dX6_copyFrom_5 : decode cX6_copyFrom 5 = .ok (.getfield 12, 3) := by decide +kernel
theorem dX6_copyFrom_8 : decode cX6_copyFrom 8 = .ok (.invokevirtual 146, 3) := by decide +kernel
theorem dX6_copyFrom_11 : decode cX6_copyFrom 11 = .ok (.aload_n 0, 1) := by decide +kernel
theorem dX6_copyFrom_12 : decode cX6_copyFrom 12 = .ok (.getfield 21, 3) := by decide +kernel
theorem dX6_copyFrom_15 : decode cX6_copyFrom 15 = .ok (.aload_n 1, 1) := by decide +kernel
theorem dX6_copyFrom_16 : decode cX6_copyFrom 16 = .ok (.getfield 21, 3) := by decide +kernel
theorem dX6_copyFrom_19 : decode cX6_copyFrom 19 = .ok (.invokevirtual 150, 3) := by decide +kernel
theorem dX6_copyFrom_22 : decode cX6_copyFrom 22 = .ok (.aload_n 0, 1) := by decide +kernel
theorem dX6_copyFrom_23 : decode cX6_copyFrom 23 = .ok (.getfield 25, 3) := by decide +kernel
theorem dX6_copyFrom_26 : decode cX6_copyFrom 26 = .ok (.aload_n 1, 1) := by decide +kernel
theorem dX6_copyFrom_27 : decode cX6_copyFrom 27 = .ok (.getfield 25, 3) := by decide +kernel
theorem dX6_copyFrom_30 : decode cX6_copyFrom 30 = .ok (.invokevirtual 150, 3) := by decide +kernel
theorem dX6_copyFrom_33 : decode cX6_copyFrom 33 = .ok (.return_, 1) := by decide +kernel
set_option maxRecDepth 20000 in
set_option maxRecDepth 20000 in
set_option maxRecDepth 20000 in
set_option maxRecDepth 20000 in
set_option maxRecDepth 20000 in
set_option maxRecDepth 20000 in
set_option maxRecDepth 20000 in
set_option maxRecDepth 20000 in
set_option maxRecDepth 20000 in
set_option maxRecDepth 20000 in
set_option maxRecDepth 20000 in
set_option maxRecDepth 20000 in
set_option maxRecDepth 20000 in
set_option maxRecDepth 20000 in
set_option maxRecDepth 20000 in
set_option maxRecDepth 20000 in
set_option maxRecDepth 20000 in
set_option maxRecDepth 20000 in
set_option maxRecDepth 20000 in
set_option maxRecDepth 20000 in
set_option maxRecDepth 20000 in
set_option maxRecDepth 20000 in
set_option maxRecDepth 20000 in
set_option maxRecDepth 20000 in
set_option maxRecDepth 20000 in
set_option maxRecDepth 20000 in
set_option maxRecDepth 20000 in
set_option maxRecDepth 20000 in
set_option maxRecDepth 20000 in
set_option maxRecDepth 20000 in
set_option maxRecDepth 20000 in
set_option maxRecDepth 20000 in
set_option maxRecDepth 20000 in
set_option maxRecDepth 20000 in
set_option maxRecDepth 20000 in
set_option maxRecDepth 20000 in
set_option maxRecDepth 20000 in
set_option maxRecDepth 20000 in
set_option maxRecDepth 20000 in
set_option maxRecDepth 20000 in
set_option maxRecDepth 20000 in
set_option maxRecDepth 20000 in
set_option maxRecDepth 20000 in
set_option maxRecDepth 20000 in
set_option maxRecDepth 20000 in
set_option maxRecDepth 20000 in
set_option maxRecDepth 20000 in
set_option maxRecDepth 20000 in
set_option maxRecDepth 20000 in
set_option maxRecDepth 20000 in
set_option maxRecDepth 20000 in
set_option maxRecDepth 20000 in
set_option maxRecDepth 20000 in
set_option maxRecDepth 20000 in
set_option maxRecDepth 20000 in
set_option maxRecDepth 20000 in
set_option maxRecDepth 20000 in
set_option maxRecDepth 20000 in
set_option maxRecDepth 20000 in
set_option maxRecDepth 20000 in
set_option maxRecDepth 20000 in
set_option maxRecDepth 20000 in
set_option maxRecDepth 20000 in
set_option maxRecDepth 20000 in
set_option maxRecDepth 20000 in
set_option maxRecDepth 20000 in
set_option maxRecDepth 20000 in
set_option maxRecDepth 20000 in
set_option maxRecDepth 20000 in
set_option maxRecDepth 20000 in
set_option maxRecDepth 20000 in
set_option maxRecDepth 20000 in
set_option maxRecDepth 20000 in
set_option maxRecDepth 20000 in
set_option maxRecDepth 20000 in
set_option maxRecDepth 20000 in
set_option maxRecDepth 20000 in
set_option maxRecDepth 20000 in
set_option maxRecDepth 20000 in
set_option maxRecDepth 20000 in
set_option maxRecDepth 20000 in
set_option maxRecDepth 20000 in
set_option maxRecDepth 20000 in
set_option maxRecDepth 20000 in
set_option maxRecDepth 20000 in
set_option maxRecDepth 20000 in
set_option maxRecDepth 20000 in
set_option maxRecDepth 20000 in
set_option maxRecDepth 20000 in
set_option maxRecDepth 20000 in
set_option maxRecDepth 20000 in
set_option maxRecDepth 20000 in
set_option maxRecDepth 20000 in
set_option maxRecDepth 20000 in
set_option maxRecDepth 20000 in
set_option maxRecDepth 20000 in
set_option maxRecDepth 20000 in
set_option maxRecDepth 20000 in
set_option maxRecDepth 20000 in
set_option maxRecDepth 20000 in
set_option maxRecDepth 20000 in
set_option maxRecDepth 20000 in
set_option maxRecDepth 20000 in
set_option maxRecDepth 20000 in
set_option maxRecDepth 20000 in
set_option maxRecDepth 20000 in
set_option maxRecDepth 20000 in
set_option maxRecDepth 20000 in
set_option maxRecDepth 20000 in
set_option maxRecDepth 20000 in
set_option maxRecDepth 20000 in
set_option maxRecDepth 20000 in
set_option maxRecDepth 20000 in
set_option maxRecDepth 20000 in
set_option maxRecDepth 20000 in
set_option maxRecDepth 20000 in
set_option maxRecDepth 20000 in
set_option maxRecDepth 20000 in
set_option maxRecDepth 20000 in
set_option maxRecDepth 20000 in
set_option maxRecDepth 20000 in
set_option maxRecDepth 20000 in
set_option maxRecDepth 20000 in
set_option maxRecDepth 20000 in
set_option maxRecDepth 20000 in
set_option maxRecDepth 20000 in
set_option maxRecDepth 20000 in
set_option maxRecDepth 20000 in
set_option maxRecDepth 20000 in
set_option maxRecDepth 20000 in
set_option maxRecDepth 20000 in
set_option maxRecDepth 20000 in
set_option maxRecDepth 20000 in
set_option maxRecDepth 20000 in
set_option maxRecDepth 20000 in
set_option maxRecDepth 20000 in
set_option maxRecDepth 20000 in
set_option maxRecDepth 20000 in
set_option maxRecDepth 20000 in
set_option maxRecDepth 20000 in
set_option maxRecDepth 20000 in
set_option maxRecDepth 20000 in
set_option maxRecDepth 20000 in
set_option maxRecDepth 20000 in
set_option maxRecDepth 20000 in
set_option maxRecDepth 20000 in
set_option maxRecDepth 20000 in
set_option maxRecDepth 20000 in
set_option maxRecDepth 20000 in
set_option maxRecDepth 20000 in
set_option maxRecDepth 20000 in
set_option maxRecDepth 20000 in
set_option maxRecDepth 20000 in
set_option maxRecDepth 20000 in
set_option maxRecDepth 20000 in
set_option maxRecDepth 20000 in
set_option maxRecDepth 20000 in
set_option maxRecDepth 20000 in
set_option maxRecDepth 20000 in
set_option maxRecDepth 20000 in
set_option maxRecDepth 20000 in
set_option maxRecDepth 20000 in
set_option maxRecDepth 20000 in
set_option maxRecDepth 20000 in
set_option maxRecDepth 20000 in
set_option maxRecDepth 20000 in
set_option maxRecDepth 20000 in
set_option maxRecDepth 20000 in
set_option maxRecDepth 20000 in
set_option maxRecDepth 20000 in
set_option maxRecDepth 20000 in
set_option maxRecDepth 20000 in
set_option maxRecDepth 20000 in
set_option maxRecDepth 20000 in
set_option maxRecDepth 20000 in
set_option maxRecDepth 20000 in
set_option maxRecDepth 20000 in
set_option maxRecDepth 20000 in
set_option maxRecDepth 20000 in
set_option maxRecDepth 20000 in
set_option maxRecDepth 20000 in
set_option maxRecDepth 20000 in
set_option maxRecDepth 20000 in
set_option maxRecDepth 20000 in
set_option maxRecDepth 20000 in
set_option maxRecDepth 20000 in
set_option maxRecDepth 20000 in
set_option maxRecDepth 20000 in
set_option maxRecDepth 20000 in
set_option maxRecDepth 20000 in
set_option maxRecDepth 20000 in
set_option maxRecDepth 20000 in
set_option maxRecDepth 20000 in
set_option maxRecDepth 20000 in
set_option maxRecDepth 20000 in
set_option maxRecDepth 20000 in
set_option maxRecDepth 20000 in
set_option maxRecDepth 20000 in
set_option maxRecDepth 20000 in
set_option maxRecDepth 20000 in
set_option maxRecDepth 20000 in
set_option maxRecDepth 20000 in
set_option maxRecDepth 20000 in
set_option maxRecDepth 20000 in
set_option maxRecDepth 20000 in
set_option maxRecDepth 20000 in
set_option maxRecDepth 20000 in
set_option maxRecDepth 20000 in
set_option maxRecDepth 20000 in
set_option maxRecDepth 20000 in
set_option maxRecDepth 20000 in
set_option maxRecDepth 20000 in
set_option maxRecDepth 20000 in
set_option maxRecDepth 20000 in
set_option maxRecDepth 20000 in
set_option maxRecDepth 20000 in
set_option maxRecDepth 20000 in
set_option maxRecDepth 20000 in
set_option maxRecDepth 20000 in
set_option maxRecDepth 20000 in
set_option maxRecDepth 20000 in
set_option maxRecDepth 20000 in
set_option maxRecDepth 20000 in
set_option maxRecDepth 20000 in
set_option maxRecDepth 20000 in
set_option maxRecDepth 20000 in
set_option maxRecDepth 20000 in
set_option maxRecDepth 20000 in
set_option maxRecDepth 20000 in
set_option maxRecDepth 20000 in
set_option maxRecDepth 20000 in
set_option maxRecDepth 20000 in
set_option maxRecDepth 20000 in
set_option maxRecDepth 20000 in
set_option maxRecDepth 20000 in
set_option maxRecDepth 20000 in
set_option maxRecDepth 20000 in
set_option maxRecDepth 20000 in
set_option maxRecDepth 20000 in
set_option maxRecDepth 20000 in
set_option maxRecDepth 20000 in
set_option maxRecDepth 20000 in
set_option maxRecDepth 20000 in
set_option maxRecDepth 20000 in
set_option maxRecDepth 20000 in
set_option maxRecDepth 20000 in
set_option maxRecDepth 20000 in
set_option maxRecDepth 20000 in
set_option maxRecDepth 20000 in
set_option maxRecDepth 20000 in
set_option maxRecDepth 20000 in
set_option maxRecDepth 20000 in
set_option maxRecDepth 20000 in
set_option maxRecDepth 20000 in
set_option maxRecDepth 20000 in
set_option maxRecDepth 20000 in
set_option maxRecDepth 20000 in
set_option maxRecDepth 20000 in
set_option maxRecDepth 20000 in
set_option maxRecDepth 20000 in
set_option maxRecDepth 20000 in
set_option maxRecDepth 20000 in
set_option maxRecDepth 20000 in
set_option maxRecDepth 20000 in
set_option maxRecDepth 20000 in
set_option maxRecDepth 20000 in
set_option maxRecDepth 20000 in
set_option maxRecDepth 20000 in
set_option maxRecDepth 20000 in
set_option maxRecDepth 20000 in
set_option maxRecDepth 20000 in
set_option maxRecDepth 20000 in
set_option maxRecDepth 20000 in
set_option maxRecDepth 20000 in
set_option maxRecDepth 20000 in
set_option maxRecDepth 20000 in
set_option maxRecDepth 20000 in
set_option maxRecDepth 20000 in
set_option maxRecDepth 20000 in
set_option maxRecDepth 20000 in
set_option maxRecDepth 20000 in
set_option maxRecDepth 20000 in
set_option maxRecDepth 20000 in
set_option maxRecDepth 20000 in
set_option maxRecDepth 20000 in
set_option maxRecDepth 20000 in
set_option maxRecDepth 20000 in
set_option maxRecDepth 20000 in
set_option maxRecDepth 20000 in
set_option maxRecDepth 20000 in
set_option maxRecDepth 20000 in
set_option maxRecDepth 20000 in
set_option maxRecDepth 20000 in
set_option maxRecDepth 20000 in
set_option maxRecDepth 20000 in
set_option maxRecDepth 20000 in
set_option maxRecDepth 20000 in
set_option maxRecDepth 20000 in
set_option maxRecDepth 20000 in
set_option maxRecDepth 20000 in
set_option maxRecDepth 20000 in
set_option maxRecDepth 20000 in
set_option maxRecDepth 20000 in
set_option maxRecDepth 20000 in
set_option maxRecDepth 20000 in
set_option maxRecDepth 20000 in
set_option maxRecDepth 20000 in
set_option maxRecDepth 20000 in
set_option maxRecDepth 20000 in
set_option maxRecDepth 20000 in
set_option maxRecDepth 20000 in
set_option maxRecDepth 20000 in
set_option maxRecDepth 20000 in
set_option maxRecDepth 20000 in
set_option maxRecDepth 20000 in
set_option maxRecDepth 20000 in
set_option maxRecDepth 20000 in
set_option maxRecDepth 20000 in
set_option maxRecDepth 20000 in
set_option maxRecDepth 20000 in
set_option maxRecDepth 20000 in
set_option maxRecDepth 20000 in
set_option maxRecDepth 20000 in
set_option maxRecDepth 20000 in
set_option maxRecDepth 20000 in
set_option maxRecDepth 20000 in
set_option maxRecDepth 20000 in
set_option maxRecDepth 20000 in
set_option maxRecDepth 20000 in
set_option maxRecDepth 20000 in
set_option maxRecDepth 20000 in
set_option maxRecDepth 20000 in
set_option maxRecDepth 20000 in
set_option maxRecDepth 20000 in
set_option maxRecDepth 20000 in
set_option maxRecDepth 20000 in
set_option maxRecDepth 20000 in
set_option maxRecDepth 20000 in
set_option maxRecDepth 20000 in
set_option maxRecDepth 20000 in
set_option maxRecDepth 20000 in
set_option maxRecDepth 20000 in
set_option maxRecDepth 20000 in
set_option maxRecDepth 20000 in
set_option maxRecDepth 20000 in
set_option maxRecDepth 20000 in
set_option maxRecDepth 20000 in
set_option maxRecDepth 20000 in
set_option maxRecDepth 20000 in
set_option maxRecDepth 20000 in
set_option maxRecDepth 20000 in
set_option maxRecDepth 20000 in
set_option maxRecDepth 20000 in
set_option maxRecDepth 20000 in
set_option maxRecDepth 20000 in
set_option maxRecDepth 20000 in
set_option maxRecDepth 20000 in
set_option maxRecDepth 20000 in
set_option maxRecDepth 20000 in
set_option maxRecDepth 20000 in
set_option maxRecDepth 20000 in
set_option maxRecDepth 20000 in
set_option maxRecDepth 20000 in
set_option maxRecDepth 20000 in
set_option maxRecDepth 20000 in
set_option maxRecDepth 20000 in
set_option maxRecDepth 20000 in
set_option maxRecDepth 20000 in
set_option maxRecDepth 20000 in
set_option maxRecDepth 20000 in
set_option maxRecDepth 20000 in
set_option maxRecDepth 20000 in
set_option maxRecDepth 20000 in
set_option maxRecDepth 20000 in
set_option maxRecDepth 20000 in
set_option maxRecDepth 20000 in
set_option maxRecDepth 20000 in
set_option maxRecDepth 20000 in
set_option maxRecDepth 20000 in
set_option maxRecDepth 20000 in
set_option maxRecDepth 20000 in
set_option maxRecDepth 20000 in
set_option maxRecDepth 20000 in
set_option maxRecDepth 20000 in
set_option maxRecDepth 20000 in
set_option maxRecDepth 20000 in
set_option maxRecDepth 20000 in
set_option maxRecDepth 20000 in
set_option maxRecDepth 20000 in
set_option maxRecDepth 20000 in
set_option maxRecDepth 20000 in
set_option maxRecDepth 20000 in
set_option maxRecDepth 20000 in
set_option maxRecDepth 20000 in
set_option maxRecDepth 20000 in
set_option maxRecDepth 20000 in
set_option maxRecDepth 20000 in
set_option maxRecDepth 20000 in
set_option maxRecDepth 20000 in
set_option maxRecDepth 20000 in
set_option maxRecDepth 20000 in
set_option maxRecDepth 20000 in
set_option maxRecDepth 20000 in
set_option maxRecDepth 20000 in
set_option maxRecDepth 20000 in
set_option maxRecDepth 20000 in
set_option maxRecDepth 20000 in
set_option maxRecDepth 20000 in
set_option maxRecDepth 20000 in
set_option maxRecDepth 20000 in
set_option maxRecDepth 20000 in
set_option maxRecDepth 20000 in
set_option maxRecDepth 20000 in
set_option maxRecDepth 20000 in
set_option maxRecDepth 20000 in
set_option maxRecDepth 20000 in
set_option maxRecDepth 20000 in
set_option maxRecDepth 20000 in
set_option maxRecDepth 20000 in
set_option maxRecDepth 20000 in
set_option maxRecDepth 20000 in
set_option maxRecDepth 20000 in
set_option maxRecDepth 20000 in
set_option maxRecDepth 20000 in
set_option maxRecDepth 20000 in
set_option maxRecDepth 20000 in
set_option maxRecDepth 20000 in
set_option maxRecDepth 20000 in
set_option maxRecDepth 20000 in
set_option maxRecDepth 20000 in
set_option maxRecDepth 20000 in
set_option maxRecDepth 20000 in
set_option maxRecDepth 20000 in
set_option maxRecDepth 20000 in
set_option maxRecDepth 20000 in
set_option maxRecDepth 20000 in
set_option maxRecDepth 20000 in
set_option maxRecDepth 20000 in
set_option maxRecDepth 20000 in
set_option maxRecDepth 20000 in
set_option maxRecDepth 20000 in
set_option maxRecDepth 20000 in
set_option maxRecDepth 20000 in
set_option maxRecDepth 20000 in
set_option maxRecDepth 20000 in
set_option maxRecDepth 20000 in
set_option maxRecDepth 20000 in
set_option maxRecDepth 20000 in
set_option maxRecDepth 20000 in
set_option maxRecDepth 20000 in
set_option maxRecDepth 20000 in
set_option maxRecDepth 20000 in
set_option maxRecDepth 20000 in
set_option maxRecDepth 20000 in
set_option maxRecDepth 20000 in
set_option maxRecDepth 20000 in
set_option maxRecDepth 20000 in
set_option maxRecDepth 20000 in
set_option maxRecDepth 20000 in
set_option maxRecDepth 20000 in
set_option maxRecDepth 20000 in
set_option maxRecDepth 20000 in
set_option maxRecDepth 20000 in
set_option maxRecDepth 20000 in
set_option maxRecDepth 20000 in
set_option maxRecDepth 20000 in
set_option maxRecDepth 20000 in
set_option maxRecDepth 20000 in
set_option maxRecDepth 20000 in
set_option maxRecDepth 20000 in
set_option maxRecDepth 20000 in
set_option maxRecDepth 20000 in
set_option maxRecDepth 20000 in
set_option maxRecDepth 20000 in
set_option maxRecDepth 20000 in
set_option maxRecDepth 20000 in
set_option maxRecDepth 20000 in
set_option maxRecDepth 20000 in
set_option maxRecDepth 20000 in
set_option maxRecDepth 20000 in
set_option maxRecDepth 20000 in
set_option maxRecDepth 20000 in
set_option maxRecDepth 20000 in
set_option maxRecDepth 20000 in
set_option maxRecDepth 20000 in
set_option maxRecDepth 20000 in
set_option maxRecDepth 20000 in
set_option maxRecDepth 20000 in
set_option maxRecDepth 20000 in
set_option maxRecDepth 20000 in
set_option maxRecDepth 20000 in
set_option maxRecDepth 20000 in
set_option maxRecDepth 20000 in
set_option maxRecDepth 20000 in
set_option maxRecDepth 20000 in
set_option maxRecDepth 20000 in
set_option maxRecDepth 20000 in
set_option maxRecDepth 20000 in
set_option maxRecDepth 20000 in
set_option maxRecDepth 20000 in
set_option maxRecDepth 20000 in
set_option maxRecDepth 20000 in
set_option maxRecDepth 20000 in
set_option maxRecDepth 20000 in
set_option maxRecDepth 20000 in
set_option maxRecDepth 20000 in
set_option maxRecDepth 20000 in
set_option maxRecDepth 20000 in
set_option maxRecDepth 20000 in
set_option maxRecDepth 20000 in
set_option maxRecDepth 20000 in
set_option maxRecDepth 20000 in
set_option maxRecDepth 20000 in
set_option maxRecDepth 20000 in
set_option maxRecDepth 20000 in
set_option maxRecDepth 20000 in
set_option maxRecDepth 20000 in
set_option maxRecDepth 20000 in
set_option maxRecDepth 20000 in
set_option maxRecDepth 20000 in
set_option maxRecDepth 20000 in
set_option maxRecDepth 20000 in
set_option maxRecDepth 20000 in
set_option maxRecDepth 20000 in
set_option maxRecDepth 20000 in
set_option maxRecDepth 20000 in
set_option maxRecDepth 20000 in
set_option maxRecDepth 20000 in
set_option maxRecDepth 20000 in
set_option maxRecDepth 20000 in
set_option maxRecDepth 20000 in
set_option maxRecDepth 20000 in
set_option maxRecDepth 20000 in
set_option maxRecDepth 20000 in
set_option maxRecDepth 20000 in
set_option maxRecDepth 20000 in
set_option maxRecDepth 20000 in
set_option maxRecDepth 20000 in
set_option maxRecDepth 20000 in
set_option maxRecDepth 20000 in
set_option maxRecDepth 20000 in
set_option maxRecDepth 20000 in
set_option maxRecDepth 20000 in
set_option maxRecDepth 20000 in
set_option maxRecDepth 20000 in
set_option maxRecDepth 20000 in
set_option maxRecDepth 20000 in
set_option maxRecDepth 20000 in
set_option maxRecDepth 20000 in
set_option maxRecDepth 20000 in
set_option maxRecDepth 20000 in
set_option maxRecDepth 20000 in
set_option maxRecDepth 20000 in
set_option maxRecDepth 20000 in
set_option maxRecDepth 20000 in
set_option maxRecDepth 20000 in
set_option maxRecDepth 20000 in
set_option maxRecDepth 20000 in
set_option maxRecDepth 20000 in
set_option maxRecDepth 20000 in
set_option maxRecDepth 20000 in
set_option maxRecDepth 20000 in
set_option maxRecDepth 20000 in
set_option maxRecDepth 20000 in
set_option maxRecDepth 20000 in
set_option maxRecDepth 20000 in
set_option maxRecDepth 20000 in
set_option maxRecDepth 20000 in
set_option maxRecDepth 20000 in
set_option maxRecDepth 20000 in
set_option maxRecDepth 20000 in
set_option maxRecDepth 20000 in
set_option maxRecDepth 20000 in
set_option maxRecDepth 20000 in
set_option maxRecDepth 20000 in
set_option maxRecDepth 20000 in
set_option maxRecDepth 20000 in
set_option maxRecDepth 20000 in
set_option maxRecDepth 20000 in
set_option maxRecDepth 20000 in
set_option maxRecDepth 20000 in
set_option maxRecDepth 20000 in
set_option maxRecDepth 20000 in
set_option maxRecDepth 20000 in
set_option maxRecDepth 20000 in
set_option maxRecDepth 20000 in
set_option maxRecDepth 20000 in
set_option maxRecDepth 20000 in
set_option maxRecDepth 20000 in
set_option maxRecDepth 20000 in
set_option maxRecDepth 20000 in
set_option maxRecDepth 20000 in
set_option maxRecDepth 20000 in
set_option maxRecDepth 20000 in
set_option maxRecDepth 20000 in
set_option maxRecDepth 20000 in
set_option maxRecDepth 20000 in
set_option maxRecDepth 20000 in
set_option maxRecDepth 20000 in
set_option maxRecDepth 20000 in
set_option maxRecDepth 20000 in
set_option maxRecDepth 20000 in
set_option maxRecDepth 20000 in
set_option maxRecDepth 20000 in
set_option maxRecDepth 20000 in
set_option maxRecDepth 20000 in
set_option maxRecDepth 20000 in
set_option maxRecDepth 20000 in
set_option maxRecDepth 20000 in
set_option maxRecDepth 20000 in
set_option maxRecDepth 20000 in
set_option maxRecDepth 20000 in
set_option maxRecDepth 20000 in
set_option maxRecDepth 20000 in
set_option maxRecDepth 20000 in
set_option maxRecDepth 20000 in
set_option maxRecDepth 20000 in
set_option maxRecDepth 20000 in
set_option maxRecDepth 20000 in
set_option maxRecDepth 20000 in
set_option maxRecDepth 20000 in
set_option maxRecDepth 20000 in
set_option maxRecDepth 20000 in
set_option maxRecDepth 20000 in
set_option maxRecDepth 20000 in
set_option maxRecDepth 20000 in
set_option maxRecDepth 20000 in
set_option maxRecDepth 20000 in
set_option maxRecDepth 20000 in
set_option maxRecDepth 20000 in
set_option maxRecDepth 20000 in
set_option maxRecDepth 20000 in
set_option maxRecDepth 20000 in
set_option maxRecDepth 20000 in
set_option maxRecDepth 20000 in
set_option maxRecDepth 20000 in
set_option maxRecDepth 20000 in
set_option maxRecDepth 20000 in
set_option maxRecDepth 20000 in
set_option maxRecDepth 20000 in
set_option maxRecDepth 20000 in
set_option maxRecDepth 20000 in
set_option maxRecDepth 20000 in
set_option maxRecDepth 20000 in
set_option maxRecDepth 20000 in
set_option maxRecDepth 20000 in
set_option maxRecDepth 20000 in
set_option maxRecDepth 20000 in
set_option maxRecDepth 20000 in
set_option maxRecDepth 20000 in
set_option maxRecDepth 20000 in
set_option maxRecDepth 20000 in
set_option maxRecDepth 20000 in
set_option maxRecDepth 20000 in
set_option maxRecDepth 20000 in
set_option maxRecDepth 20000 in
set_option maxRecDepth 20000 in
set_option maxRecDepth 20000 in
set_option maxRecDepth 20000 in
set_option maxRecDepth 20000 in
set_option maxRecDepth 20000 in
set_option maxRecDepth 20000 in
set_option maxRecDepth 20000 in
set_option maxRecDepth 20000 in
set_option maxRecDepth 20000 in
set_option maxRecDepth 20000 in
set_option maxRecDepth 20000 in
set_option maxRecDepth 20000 in
set_option maxRecDepth 20000 in
set_option maxRecDepth 20000 in
set_option maxRecDepth 20000 in
set_option maxRecDepth 20000 in
set_option maxRecDepth 20000 in
set_option maxRecDepth 20000 in
set_option maxRecDepth 20000 in
set_option maxRecDepth 20000 in
set_option maxRecDepth 20000 in
set_option maxRecDepth 20000 in
set_option maxRecDepth 20000 in
set_option maxRecDepth 20000 in
set_option maxRecDepth 20000 in
set_option maxRecDepth 20000 in
set_option maxRecDepth 20000 in
set_option maxRecDepth 20000 in
set_option maxRecDepth 20000 in
set_option maxRecDepth 20000 in
set_option maxRecDepth 20000 in
set_option maxRecDepth 20000 in
set_option maxRecDepth 20000 in
set_option maxRecDepth 20000 in
set_option maxRecDepth 20000 in
set_option maxRecDepth 20000 in
set_option maxRecDepth 20000 in
set_option maxRecDepth 20000 in
set_option maxRecDepth 20000 in
set_option maxRecDepth 20000 in
set_option maxRecDepth 20000 in
set_option maxRecDepth 20000 in
set_option maxRecDepth 20000 in
set_option maxRecDepth 20000 in
set_option maxRecDepth 20000 in
set_option maxRecDepth 20000 in
set_option maxRecDepth 20000 in
set_option maxRecDepth 20000 in
set_option maxRecDepth 20000 in
set_option maxRecDepth 20000 in
set_option maxRecDepth 20000 in
set_option maxRecDepth 20000 in
set_option maxRecDepth 20000 in
set_option maxRecDepth 20000 in
set_option maxRecDepth 20000 in
set_option maxRecDepth 20000 in
set_option maxRecDepth 20000 in
set_option maxRecDepth 20000 in
set_option maxRecDepth 20000 in
set_option maxRecDepth 20000 in
set_option maxRecDepth 20000 in
set_option maxRecDepth 20000 in
set_option maxRecDepth 20000 in
set_option maxRecDepth 20000 in
set_option maxRecDepth 20000 in
set_option maxRecDepth 20000 in
set_option maxRecDepth 20000 in
set_option maxRecDepth 20000 in
set_option maxRecDepth 20000 in
set_option maxRecDepth 20000 in
set_option maxRecDepth 20000 in
set_option maxRecDepth 20000 in
set_option maxRecDepth 20000 in
set_option maxRecDepth 20000 in
set_option maxRecDepth 20000 in
set_option maxRecDepth 20000 in
set_option maxRecDepth 20000 in
set_option maxRecDepth 20000 in
set_option maxRecDepth 20000 in
set_option maxRecDepth 20000 in
set_option maxRecDepth 20000 in
set_option maxRecDepth 20000 in
set_option maxRecDepth 20000 in
set_option maxRecDepth 20000 in
set_option maxRecDepth 20000 in
set_option maxRecDepth 20000 in
set_option maxRecDepth 20000 in
set_option maxRecDepth 20000 in
set_option maxRecDepth 20000 in
set_option maxRecDepth 20000 in
set_option maxRecDepth 20000 in
set_option maxRecDepth 20000 in
set_option maxRecDepth 20000 in
set_option maxRecDepth 20000 in
set_option maxRecDepth 20000 in
set_option maxRecDepth 20000 in
set_option maxRecDepth 20000 in
set_option maxRecDepth 20000 in
set_option maxRecDepth 20000 in
set_option maxRecDepth 20000 in
set_option maxRecDepth 20000 in
set_option maxRecDepth 20000 in
set_option maxRecDepth 20000 in
set_option maxRecDepth 20000 in
set_option maxRecDepth 20000 in
set_option maxRecDepth 20000 in
set_option maxRecDepth 20000 in
set_option maxRecDepth 20000 in
set_option maxRecDepth 20000 in
set_option maxRecDepth 20000 in
set_option maxRecDepth 20000 in
set_option maxRecDepth 20000 in
set_option maxRecDepth 20000 in
set_option maxRecDepth 20000 in
set_option maxRecDepth 20000 in
set_option maxRecDepth 20000 in
set_option maxRecDepth 20000 in
set_option maxRecDepth 20000 in
set_option maxRecDepth 20000 in
set_option maxRecDepth 20000 in
set_option maxRecDepth 20000 in
set_option maxRecDepth 20000 in
set_option maxRecDepth 20000 in
set_option maxRecDepth 20000 in
set_option maxRecDepth 20000 in
set_option maxRecDepth 20000 in
set_option maxRecDepth 20000 in
set_option maxRecDepth 20000 in
set_option maxRecDepth 20000 in
set_option maxRecDepth 20000 in
set_option maxRecDepth 20000 in
set_option maxRecDepth 20000 in
set_option maxRecDepth 20000 in
set_option maxRecDepth 20000 in
set_option maxRecDepth 20000 in
set_option maxRecDepth 20000 in
set_option maxRecDepth 20000 in
set_option maxRecDepth 20000 in
set_option maxRecDepth 20000 in
set_option maxRecDepth 20000 in
set_option maxRecDepth 20000 in
set_option maxRecDepth 20000 in
set_option maxRecDepth 20000 in
set_option maxRecDepth 20000 in
set_option maxRecDepth 20000 in
set_option maxRecDepth 20000 in
set_option maxRecDepth 20000 in
set_option maxRecDepth 20000 in
set_option maxRecDepth 20000 in
set_option maxRecDepth 20000 in
set_option maxRecDepth 20000 in
set_option maxRecDepth 20000 in
set_option maxRecDepth 20000 in
set_option maxRecDepth 20000 in
set_option maxRecDepth 20000 in
set_option maxRecDepth 20000 in
set_option maxRecDepth 20000 in
set_option maxRecDepth 20000 in
set_option maxRecDepth 20000 in
set_option maxRecDepth 20000 in
set_option maxRecDepth 20000 in
set_option maxRecDepth 20000 in
set_option maxRecDepth 20000 in
set_option maxRecDepth 20000 in
set_option maxRecDepth 20000 in
set_option maxRecDepth 20000 in
set_option maxRecDepth 20000 in
set_option maxRecDepth 20000 in
set_option maxRecDepth 20000 in
set_option maxRecDepth 20000 in
set_option maxRecDepth 20000 in
set_option maxRecDepth 20000 in
set_option maxRecDepth 20000 in
set_option maxRecDepth 20000 in
set_option maxRecDepth 20000 in
set_option maxRecDepth 20000 in
set_option maxRecDepth 20000 in
set_option maxRecDepth 20000 in
set_option maxRecDepth 20000 in
set_option maxRecDepth 20000 in
set_option maxRecDepth 20000 in
set_option maxRecDepth 20000 in
set_option maxRecDepth 20000 in
set_option maxRecDepth 20000 in
set_option maxRecDepth 20000 in
set_option maxRecDepth 20000 in
set_option maxRecDepth 20000 in
set_option maxRecDepth 20000 in
set_option maxRecDepth 20000 in
set_option maxRecDepth 20000 in
set_option maxRecDepth 20000 in
set_option maxRecDepth 20000 in
set_option maxRecDepth 20000 in
set_option maxRecDepth 20000 in
set_option maxRecDepth 20000 in
set_option maxRecDepth 20000 in
set_option maxRecDepth 20000 in
set_option maxRecDepth 20000 in
set_option maxRecDepth 20000 in
set_option maxRecDepth 20000 in
set_option maxRecDepth 20000 in
set_option maxRecDepth 20000 in
set_option maxRecDepth 20000 in
set_option maxRecDepth 20000 in
set_option maxRecDepth 20000 in
set_option maxRecDepth 20000 in
set_option maxRecDepth 20000 in
set_option maxRecDepth 20000 in
set_option maxRecDepth 20000 in
set_option maxRecDepth 20000 in
set_option maxRecDepth 20000 in
set_option maxRecDepth 20000 in
set_option maxRecDepth 20000 in
set_option maxRecDepth 20000 in
set_option maxRecDepth 20000 in
set_option maxRecDepth 20000 in
set_option maxRecDepth 20000 in
set_option maxRecDepth 20000 in
set_option maxRecDepth 20000 in
set_option maxRecDepth 20000 in
set_option maxRecDepth 20000 in
set_option maxRecDepth 20000 in
set_option maxRecDepth 20000 in
set_option maxRecDepth 20000 in
set_option maxRecDepth 20000 in
set_option maxRecDepth 20000 in
set_option maxRecDepth 20000 in
set_option maxRecDepth 20000 in
set_option maxRecDepth 20000 in
set_option maxRecDepth 20000 in
set_option maxRecDepth 20000 in
set_option maxRecDepth 20000 in
set_option maxRecDepth 20000 in
set_option maxRecDepth 20000 in
set_option maxRecDepth 20000 in
set_option maxRecDepth 20000 in
set_option maxRecDepth 20000 in
set_option maxRecDepth 20000 in
set_option maxRecDepth 20000 in
set_option maxRecDepth 20000 in
set_option maxRecDepth 20000 in
set_option maxRecDepth 20000 in
set_option maxRecDepth 20000 in
set_option maxRecDepth 20000 in
set_option maxRecDepth 20000 in
set_option maxRecDepth 20000 in
set_option maxRecDepth 20000 in
set_option maxRecDepth 20000 in
set_option maxRecDepth 20000 in
set_option maxRecDepth 20000 in
set_option maxRecDepth 20000 in
set_option maxRecDepth 20000 in
set_option maxRecDepth 20000 in
set_option maxRecDepth 20000 in
set_option maxRecDepth 20000 in
set_option maxRecDepth 20000 in
set_option maxRecDepth 20000 in
set_option maxRecDepth 20000 in
set_option maxRecDepth 20000 in
set_option maxRecDepth 20000 in
set_option maxRecDepth 20000 in
set_option maxRecDepth 20000 in
set_option maxRecDepth 20000 in
set_option maxRecDepth 20000 in
set_option maxRecDepth 20000 in
set_option maxRecDepth 20000 in
set_option maxRecDepth 20000 in
set_option maxRecDepth 20000 in
set_option maxRecDepth 20000 in
set_option maxRecDepth 20000 in
set_option maxRecDepth 20000 in
set_option maxRecDepth 20000 in
set_option maxRecDepth 20000 in
set_option maxRecDepth 20000 in
set_option maxRecDepth 20000 in
set_option maxRecDepth 20000 in
set_option maxRecDepth 20000 in
set_option maxRecDepth 20000 in
set_option maxRecDepth 20000 in
set_option maxRecDepth 20000 in
set_option maxRecDepth 20000 in
set_option maxRecDepth 20000 in
set_option maxRecDepth 20000 in
set_option maxRecDepth 20000 in
set_option maxRecDepth 20000 in
set_option maxRecDepth 20000 in
set_option maxRecDepth 20000 in
set_option maxRecDepth 20000 in
set_option maxRecDepth 20000 in
set_option maxRecDepth 20000 in
set_option maxRecDepth 20000 in
set_option maxRecDepth 20000 in
set_option maxRecDepth 20000 in
set_option maxRecDepth 20000 in
set_option maxRecDepth 20000 in
set_option maxRecDepth 20000 in
set_option maxRecDepth 20000 in
set_option maxRecDepth 20000 in
set_option maxRecDepth 20000 in
set_option maxRecDepth 20000 in
set_option maxRecDepth 20000 in
set_option maxRecDepth 20000 in
set_option maxRecDepth 20000 in
set_option maxRecDepth 20000 in
set_option maxRecDepth 20000 in
set_option maxRecDepth 20000 in
set_option maxRecDepth 20000 in
set_option maxRecDepth 20000 in
set_option maxRecDepth 20000 in
set_option maxRecDepth 20000 in
set_option maxRecDepth 20000 in
set_option maxRecDepth 20000 in
set_option maxRecDepth 20000 in
set_option maxRecDepth 20000 in
set_option maxRecDepth 20000 in
set_option maxRecDepth 20000 in
set_option maxRecDepth 20000 in
set_option maxRecDepth 20000 in
set_option maxRecDepth 20000 in
set_option maxRecDepth 20000 in
set_option maxRecDepth 20000 in
set_option maxRecDepth 20000 in
set_option maxRecDepth 20000 in
set_option maxRecDepth 20000 in
set_option maxRecDepth 20000 in
set_option maxRecDepth 20000 in
set_option maxRecDepth 20000 in
set_option maxRecDepth 20000 in
set_option maxRecDepth 20000 in
set_option maxRecDepth 20000 in
set_option maxRecDepth 20000 in
set_option maxRecDepth 20000 in
set_option maxRecDepth 20000 in
set_option maxRecDepth 20000 in
set_option maxRecDepth 20000 in
set_option maxRecDepth 20000 in
set_option maxRecDepth 20000 in
set_option maxRecDepth 20000 in
set_option maxRecDepth 20000 in
set_option maxRecDepth 20000 in
set_option maxRecDepth 20000 in
set_option maxRecDepth 20000 in
set_option maxRecDepth 20000 in
set_option maxRecDepth 20000 in
set_option maxRecDepth 20000 in
set_option maxRecDepth 20000 in
set_option maxRecDepth 20000 in
set_option maxRecDepth 20000 in
set_option maxRecDepth 20000 in
set_option maxRecDepth 20000 in
set_option maxRecDepth 20000 in
set_option maxRecDepth 20000 in
set_option maxRecDepth 20000 in
set_option maxRecDepth 20000 in
set_option maxRecDepth 20000 in
set_option maxRecDepth 20000 in
set_option maxRecDepth 20000 in
set_option maxRecDepth 20000 in
set_option maxRecDepth 20000 in
set_option maxRecDepth 20000 in
set_option maxRecDepth 20000 in
set_option maxRecDepth 20000 in
set_option maxRecDepth 20000 in
set_option maxRecDepth 20000 in
set_option maxRecDepth 20000 in
set_option maxRecDepth 20000 in
set_option maxRecDepth 20000 in
set_option maxRecDepth 20000 in
set_option maxRecDepth 20000 in
set_option maxRecDepth 20000 in
set_option maxRecDepth 20000 in
set_option maxRecDepth 20000 in
set_option maxRecDepth 20000 in
set_option maxRecDepth 20000 in
set_option maxRecDepth 20000 in
set_option maxRecDepth 20000 in
set_option maxRecDepth 20000 in
set_option maxRecDepth 20000 in
set_option maxRecDepth 20000 in
set_option maxRecDepth 20000 in
set_option maxRecDepth 20000 in
set_option maxRecDepth 20000 in
set_option maxRecDepth 20000 in
set_option maxRecDepth 20000 in
set_option maxRecDepth 20000 in
set_option maxRecDepth 20000 in
set_option maxRecDepth 20000 in
set_option maxRecDepth 20000 in
set_option maxRecDepth 20000 in
set_option maxRecDepth 20000 in
set_option maxRecDepth 20000 in
set_option maxRecDepth 20000 in
set_option maxRecDepth 20000 in
set_option maxRecDepth 20000 in
set_option maxRecDepth 20000 in
set_option maxRecDepth 20000 in
set_option maxRecDepth 20000 in
set_option maxRecDepth 20000 in
set_option maxRecDepth 20000 in
set_option maxRecDepth 20000 in
set_option maxRecDepth 20000 in
set_option maxRecDepth 20000 in
set_option maxRecDepth 20000 in
set_option maxRecDepth 20000 in
set_option maxRecDepth 20000 in
set_option maxRecDepth 20000 in
set_option maxRecDepth 20000 in
set_option maxRecDepth 20000 in
set_option maxRecDepth 20000 in
set_option maxRecDepth 20000 in
set_option maxRecDepth 20000 in
set_option maxRecDepth 20000 in
set_option maxRecDepth 20000 in
set_option maxRecDepth 20000 in
set_option maxRecDepth 20000 in
set_option maxRecDepth 20000 in
set_option maxRecDepth 20000 in
set_option maxRecDepth 20000 in
set_option maxRecDepth 20000 in
set_option maxRecDepth 20000 in
set_option maxRecDepth 20000 in
set_option maxRecDepth 20000 in
set_option maxRecDepth 20000 in
set_option maxRecDepth 20000 in
set_option maxRecDepth 20000 in
set_option maxRecDepth 20000 in
set_option maxRecDepth 20000 in
set_option maxRecDepth 20000 in
set_option maxRecDepth 20000 in
set_option maxRecDepth 20000 in
set_option maxRecDepth 20000 in
set_option maxRecDepth 20000 in
set_option maxRecDepth 20000 in
set_option maxRecDepth 20000 in
set_option maxRecDepth 20000 in
set_option maxRecDepth 20000 in
set_option maxRecDepth 20000 in
set_option maxRecDepth 20000 in
set_option maxRecDepth 20000 in
set_option maxRecDepth 20000 in
set_option maxRecDepth 20000 in
set_option maxRecDepth 20000 in
set_option maxRecDepth 20000 in
set_option maxRecDepth 20000 in
set_option maxRecDepth 20000 in
set_option maxRecDepth 20000 in
set_option maxRecDepth 20000 in
set_option maxRecDepth 20000 in
set_option maxRecDepth 20000 in
set_option maxRecDepth 20000 in
set_option maxRecDepth 20000 in
set_option maxRecDepth 20000 in
set_option maxRecDepth 20000 in
set_option maxRecDepth 20000 in
set_option maxRecDepth 20000 in
set_option maxRecDepth 20000 in
set_option maxRecDepth 20000 in
set_option maxRecDepth 20000 in
set_option maxRecDepth 20000 in
set_option maxRecDepth 20000 in
set_option maxRecDepth 20000 in
set_option maxRecDepth 20000 in
set_option maxRecDepth 20000 in
set_option maxRecDepth 20000 in
set_option maxRecDepth 20000 in
set_option maxRecDepth 20000 in
set_option maxRecDepth 20000 in
set_option maxRecDepth 20000 in
set_option maxRecDepth 20000 in
set_option maxRecDepth 20000 in
set_option maxRecDepth 20000 in
set_option maxRecDepth 20000 in
set_option maxRecDepth 20000 in
set_option maxRecDepth 20000 in
set_option maxRecDepth 20000 in
set_option maxRecDepth 20000 in
set_option maxRecDepth 20000 in
set_option maxRecDepth 20000 in
set_option maxRecDepth 20000 in
set_option maxRecDepth 20000 in
set_option maxRecDepth 20000 in
set_option maxRecDepth 20000 in
set_option maxRecDepth 20000 in
set_option maxRecDepth 20000 in
set_option maxRecDepth 20000 in
set_option maxRecDepth 20000 in
set_option maxRecDepth 20000 in
set_option maxRecDepth 20000 in
set_option maxRecDepth 20000 in
set_option maxRecDepth 20000 in
set_option maxRecDepth 20000 in
set_option maxRecDepth 20000 in
set_option maxRecDepth 20000 in
set_option maxRecDepth 20000 in
set_option maxRecDepth 20000 in
set_option maxRecDepth 20000 in
set_option maxRecDepth 20000 in
set_option maxRecDepth 20000 in
set_option maxRecDepth 20000 in
set_option maxRecDepth 20000 in
set_option maxRecDepth 20000 in
set_option maxRecDepth 20000 in
set_option maxRecDepth 20000 in
set_option maxRecDepth 20000 in
set_option maxRecDepth 20000 in
set_option maxRecDepth 20000 in
set_option maxRecDepth 20000 in
set_option maxRecDepth 20000 in
set_option maxRecDepth 20000 in
set_option maxRecDepth 20000 in
set_option maxRecDepth 20000 in
set_option maxRecDepth 20000 in
set_option maxRecDepth 20000 in
set_option maxRecDepth 20000 in
set_option maxRecDepth 20000 in
set_option maxRecDepth 20000 in
set_option maxRecDepth 20000 in
set_option maxRecDepth 20000 in
set_option maxRecDepth 20000 in
set_option maxRecDepth 20000 in
set_option maxRecDepth 20000 in
set_option maxRecDepth 20000 in
set_option maxRecDepth 20000 in
set_option maxRecDepth 20000 in
set_option maxRecDepth 20000 in
set_option maxRecDepth 20000 in
set_option maxRecDepth 20000 in
set_option maxRecDepth 20000 in
set_option maxRecDepth 20000 in
set_option maxRecDepth 20000 in
set_option maxRecDepth 20000 in
set_option maxRecDepth 20000 in
set_option maxRecDepth 20000 in
set_option maxRecDepth 20000 in
set_option maxRecDepth 20000 in
set_option maxRecDepth 20000 in
set_option maxRecDepth 20000 in
set_option maxRecDepth 20000 in
set_option maxRecDepth 20000 in
set_option maxRecDepth 20000 in
set_option maxRecDepth 20000 in
set_option maxRecDepth 20000 in
set_option maxRecDepth 20000 in
set_option maxRecDepth 20000 in
set_option maxRecDepth 20000 in
set_option maxRecDepth 20000 in
set_option maxRecDepth 20000 in
set_option maxRecDepth 20000 in
set_option maxRecDepth 20000 in
set_option maxRecDepth 20000 in
set_option maxRecDepth 20000 in
set_option maxRecDepth 20000 in
set_option maxRecDepth 20000 in
set_option maxRecDepth 20000 in
set_option maxRecDepth 20000 in
set_option maxRecDepth 20000 in
set_option maxRecDepth 20000 in
set_option maxRecDepth 20000 in
set_option maxRecDepth 20000 in
set_option maxRecDepth 20000 in
set_option maxRecDepth 20000 in
set_option maxRecDepth 20000 in
set_option maxRecDepth 20000 in
set_option maxRecDepth 20000 in
set_option maxRecDepth 20000 in
set_option maxRecDepth 20000 in
set_option maxRecDepth 20000 in
set_option maxRecDepth 20000 in
set_option maxRecDepth 20000 in
set_option maxRecDepth 20000 in
set_option maxRecDepth 20000 in
set_option maxRecDepth 20000 in
set_option maxRecDepth 20000 in
set_option maxRecDepth 20000 in
set_option maxRecDepth 20000 in
set_option maxRecDepth 20000 in
set_option maxRecDepth 20000 in
set_option maxRecDepth 20000 in
set_option maxRecDepth 20000 in
set_option maxRecDepth 20000 in
set_option maxRecDepth 20000 in
set_option maxRecDepth 20000 in
set_option maxRecDepth 20000 in
set_option maxRecDepth 20000 in
set_option maxRecDepth 20000 in
set_option maxRecDepth 20000 in
set_option maxRecDepth 20000 in
set_option maxRecDepth 20000 in
set_option maxRecDepth 20000 in
set_option maxRecDepth 20000 in
set_option maxRecDepth 20000 in
set_option maxRecDepth 20000 in
set_option maxRecDepth 20000 in
set_option maxRecDepth 20000 in
set_option maxRecDepth 20000 in
set_option maxRecDepth 20000 in
set_option maxRecDepth 20000 in
set_option maxRecDepth 20000 in
set_option maxRecDepth 20000 in
set_option maxRecDepth 20000 in
set_option maxRecDepth 20000 in
set_option maxRecDepth 20000 in
abbrev vwCl : List vw_C := [(RJ0, TJ0, 4), (RJ4, TJ4, 4), (RJx4a65c, TJx4a65c, 3), (RX0, TX0, 2), (RX1, TX1, 3), (RX3, TX3, 6), (RX4, TX4, 7), (RX5, TX5, 9), (RX6, TX6, 5), (RX7, TX7, 5), (RX8, TX8, 5), (RX9, TX9, 9), (RX10, TX10, 1), (RX11, TX11, 7), (RX12, TX12, 9), (RX13, TX13, 5), (RX14, TX14, 9), (RX15, TX15, 7)]

