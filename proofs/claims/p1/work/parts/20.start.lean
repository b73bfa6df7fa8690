/-! THE CLAIM OUT OF ONE WALK OF THE LAW'S BODY. Your part is whole_start (and what it stands on); all else here is the same for every law, but numbers. -/
def R_law : String := "MeridianSeriesLaw"
def lw_P (b : Addr) (xs : List Int32) (args : Array Value) (s : State) : Prop := args = #[.ref b] ∧ s.IntsAt b xs ∧ xs.length ≤ 8 ∧ (Jvm.Cond.and given_1 narrow_1).before args s = true
/-- what a walk over the start with the record d0 says of its end, said of the start itself -/
theorem lw_closed {s t : State} {o : Outcome} {d0 : Drawn} {L : List Loc} {k n : Nat} (hd0 : s.drawn.sameBut d0 lw_cs) (hv : ∃ v, o = .returned v) (hW : (s.setDrawn d0).WarmedH t.vm) (hs : (s.setDrawn d0).sameButNew ({ t with vm := s.vm } : State) L k n) : State.butDraws s t lw_cs (fun t1 => Framed s o t1 L k n) := by
  have h2 : t.drawn = d0 := congrArg State.drawn hs.1
  refine ⟨⟨hv, hW, State.sameButNew.setDrawn hs s.drawn⟩, ?_, by decide⟩
  rw [h2]
  exact hd0
def lw_Q (_ : Array Value) (s : State) (o : Outcome) (t : State) : Prop := o = .returned (some (.int 1)) ∧ State.butDraws s t lw_cs (fun t1 => Framed s o t1 [] 600002 7302232)
def lw_Z (below : List Frame) (a : Array Value) (s : State) : State → Prop := fun t => ∃ o, t.status = .running ∧ Ended t below o ∧ lw_Q a s o t
/-- the law's own end, with 1 on the stack, nothing written that was there before, its room as the claim has it; d0: the record of draws at this point (at the entry s.drawn: begin with 'refine W.base ?_' and 'have hd0 := Drawn.sameBut.refl s.drawn lw_cs') -/
theorem lw_ret {p : Program} {l : Launch} {e : Env} {s : State} {m : MethodId} {below : List Frame} {meth : Method} {c : Code} {b : Nat} {d0 : Drawn} (hd0 : s.drawn.sameBut d0 lw_cs) (hx : p.tables.exec = Jvm.exec) (hb : c.code = code) (hr : meth.sig.returnType = ret) (hlocks : meth.locks = false) {pc : Nat} {H : Heap} {ls : Array Slot} (hdg : decode code pc = .ok (.ireturn, 1)) : W p l e room_1 (s.setDrawn d0) m #[Value.ref b] below meth c H [] 600002 7302232 (lw_Z below #[Value.ref b] s) (F0 m pc ls [.int 1]) := by
  intro T hT X
  obtain ⟨fs, hret, hrun, hended, hW, hframe⟩ := X.leave (v := some (.int 1)) (hlocks := hlocks) (fun h => by rw [hr] at h; cases h)
  have hmeth' : T.vm.method? m = some meth := X.method'
  refine ⟨T.setFrames fs, ?_, .returned (some (.int 1)), hrun, hended, rfl, lw_closed hd0 ⟨_, rfl⟩ hW hframe⟩
  jvm_step X.here [X.here.top, hx, hb, hdg, hmeth', hr, ret, narrow_b1]
  (try refine ⟨rfl, ?_⟩); (try refine ⟨rfl, ?_⟩)
  first | (intro acts; rw [hret _ acts rfl rfl rfl]) | rw [hret _ _ rfl rfl rfl]
  exact Steps.refl _
/-- what holds at the law's entry: the machine, the code, the tables' words (any of lw_tbl by 'hts w (by decide +kernel)'), the script of L ints xs at the cell b, what the Statement gives of the start (any of its parts by flat_of_before) -/
def lw_At (p : Program) (s : State) (m : MethodId) (meth : Method) (c : Code) (b L : Nat) (xs : Nat → Int32) : Prop :=
  p.tables.exec = Jvm.exec ∧ c.code = code ∧ meth.sig.returnType = ret ∧ c.maxLocals = 9 ∧ s.vm.findClass R_law = some m.cls ∧ (∀ w ∈ lw_tbl, w.before #[Value.ref b] s = true) ∧ va_X b L xs s s.heap ∧ b < s.heap.size ∧ meth.locks = false ∧ (Jvm.Cond.and given_1 narrow_1).before #[Value.ref b] s = true
set_option maxRecDepth 100000 in
set_option maxHeartbeats 4000000 in
theorem whole_start {p : Program} {e : Env} {s : State} {m : MethodId} {below : List Frame} {meth : Method} {c : Code} (l : Launch) (hflags : l.flags = flags0) {b L : Nat} {xs : Nat → Int32} (hL : L ≤ 8) (C0 : lw_At p s m meth c b L xs) : W p l e room_1 s m #[Value.ref b] below meth c s.heap [] 0 0 (lw_Z below #[Value.ref b] s) (entryFrame m ([Value.ref b] : List Value).toArray 9) := by
  obtain ⟨hx, hb, hr, hml, hown, hts, hX, hbl, hlocks, hgv⟩ := id C0
  have hAf : ∀ a : Nat, a < s.heap.size → ¬ (fun q : Nat => s.heap.size ≤ q) a := fun a h => Nat.not_le.mpr h
  have hlT : l.stackTraces = false := by
    unfold Launch.stackTraces
    rw [hflags]
    decide +kernel
  have hts0 : ∀ w ∈ wsG, w.before #[Value.ref b] s = true := fun w h => hts w (wsG_in w h)
  have hts1 : ∀ w ∈ gw (.arrayClass .int), w.before #[Value.ref b] s = true := fun w h => (List.mem_cons.mp h).elim (fun e => by rw [e]; exact hts (.arrayClass .int) (by decide +kernel)) (hts0 w)
  obtain ⟨c0, iS0, hKn0⟩ := u_known (C := RJ0) (T := TJ0) (N := 4) (n := 4) hts0 hg_J0 (hts (.instantiable RJ0 4) (by decide +kernel))
  obtain ⟨c1, iS1, hKn1⟩ := u_known (C := RJ4) (T := TJ4) (N := 4) (n := 4) hts0 hg_J4 (hts (.instantiable RJ4 4) (by decide +kernel))
  obtain ⟨c2, iS2, hKn2⟩ := u_known (C := RJx4a65c) (T := TJx4a65c) (N := 3) (n := 3) hts0 hg_Jx4a65c (hts (.instantiable RJx4a65c 3) (by decide +kernel))
  obtain ⟨c3, iS3, hKn3⟩ := u_known (C := RX0) (T := TX0) (N := 2) (n := 2) hts0 hg_X0 (hts (.instantiable RX0 2) (by decide +kernel))
  obtain ⟨c4, iS4, hKn4⟩ := u_known (C := RX1) (T := TX1) (N := 3) (n := 3) hts0 hg_X1 (hts (.instantiable RX1 3) (by decide +kernel))
  obtain ⟨c5, iS5, hKn5⟩ := u_known (C := RX3) (T := TX3) (N := 6) (n := 6) hts0 hg_X3 (hts (.instantiable RX3 6) (by decide +kernel))
  obtain ⟨c6, iS6, hKn6⟩ := u_known (C := RX4) (T := TX4) (N := 7) (n := 7) hts0 hg_X4 (hts (.instantiable RX4 7) (by decide +kernel))
  obtain ⟨c7, iS7, hKn7⟩ := u_known (C := RX5) (T := TX5) (N := 9) (n := 9) hts0 hg_X5 (hts (.instantiable RX5 9) (by decide +kernel))
  obtain ⟨c8, iS8, hKn8⟩ := u_known (C := RX6) (T := TX6) (N := 5) (n := 5) hts0 hg_X6 (hts (.instantiable RX6 5) (by decide +kernel))
  obtain ⟨c9, iS9, hKn9⟩ := u_known (C := RX7) (T := TX7) (N := 5) (n := 5) hts0 hg_X7 (hts (.instantiable RX7 5) (by decide +kernel))
  obtain ⟨c10, iS10, hKn10⟩ := u_known (C := RX8) (T := TX8) (N := 5) (n := 5) hts0 hg_X8 (hts (.instantiable RX8 5) (by decide +kernel))
  obtain ⟨c11, iS11, hKn11⟩ := u_known (C := RX9) (T := TX9) (N := 9) (n := 9) hts0 hg_X9 (hts (.instantiable RX9 9) (by decide +kernel))
  obtain ⟨c12, iS12, hKn12⟩ := u_known (C := RX10) (T := TX10) (N := 1) (n := 1) hts0 hg_X10 (hts (.instantiable RX10 1) (by decide +kernel))
  obtain ⟨c13, iS13, hKn13⟩ := u_known (C := RX11) (T := TX11) (N := 7) (n := 7) hts0 hg_X11 (hts (.instantiable RX11 7) (by decide +kernel))
  obtain ⟨c14, iS14, hKn14⟩ := u_known (C := RX12) (T := TX12) (N := 9) (n := 9) hts0 hg_X12 (hts (.instantiable RX12 9) (by decide +kernel))
  obtain ⟨c15, iS15, hKn15⟩ := u_known (C := RX13) (T := TX13) (N := 5) (n := 5) hts0 hg_X13 (hts (.instantiable RX13 5) (by decide +kernel))
  obtain ⟨c16, iS16, hKn16⟩ := u_known (C := RX14) (T := TX14) (N := 9) (n := 9) hts0 hg_X14 (hts (.instantiable RX14 9) (by decide +kernel))
  obtain ⟨c17, iS17, hKn17⟩ := u_known (C := RX15) (T := TX15) (N := 7) (n := 7) hts0 hg_X15 (hts (.instantiable RX15 7) (by decide +kernel))
  obtain ⟨dC, dI, hKc⟩ : ∃ (dC : Nat → ClassId) (dI : Nat → Nat → Nat), ∀ (k : Nat) (q : vw_C), vwCl[k]? = some q → u_Kn s q.1 q.2.1 q.2.2 (dC k) (dI k) := by
    refine ⟨fun k => match k with | 0 => c0 | 1 => c1 | 2 => c2 | 3 => c3 | 4 => c4 | 5 => c5 | 6 => c6 | 7 => c7 | 8 => c8 | 9 => c9 | 10 => c10 | 11 => c11 | 12 => c12 | 13 => c13 | 14 => c14 | 15 => c15 | 16 => c16 | _ => c17, fun k => match k with | 0 => iS0 | 1 => iS1 | 2 => iS2 | 3 => iS3 | 4 => iS4 | 5 => iS5 | 6 => iS6 | 7 => iS7 | 8 => iS8 | 9 => iS9 | 10 => iS10 | 11 => iS11 | 12 => iS12 | 13 => iS13 | 14 => iS14 | 15 => iS15 | 16 => iS16 | _ => iS17, ?_⟩
    intro k q hq
    match k, hq with
    | 0, hq => cases hq; exact hKn0
    | 1, hq => cases hq; exact hKn1
    | 2, hq => cases hq; exact hKn2
    | 3, hq => cases hq; exact hKn3
    | 4, hq => cases hq; exact hKn4
    | 5, hq => cases hq; exact hKn5
    | 6, hq => cases hq; exact hKn6
    | 7, hq => cases hq; exact hKn7
    | 8, hq => cases hq; exact hKn8
    | 9, hq => cases hq; exact hKn9
    | 10, hq => cases hq; exact hKn10
    | 11, hq => cases hq; exact hKn11
    | 12, hq => cases hq; exact hKn12
    | 13, hq => cases hq; exact hKn13
    | 14, hq => cases hq; exact hKn14
    | 15, hq => cases hq; exact hKn15
    | 16, hq => cases hq; exact hKn16
    | 17, hq => cases hq; exact hKn17
    | k + 18, hq => simp [vwCl] at hq
  obtain ⟨cI, kI, compI, f1, f2, f3⟩ := Cond.arrayClass_spec (hts (.arrayClass .int) (by decide +kernel))
  obtain ⟨cJ, kJ, compJ, j1, j2, j3⟩ := Cond.arrayClass_spec (hts (.arrayClass .long) (by decide +kernel))
  have hao := hts (.arrayOver (.object "java/lang/Object")) (by decide +kernel)
  obtain ⟨compO, cO, kO, g1, g2, g3, g4, g5⟩ := Cond.arrayOver_spec hao
  have hK : va_K (dC, dI) vwCl [(cI, .int), (cO, .object "java/lang/Object"), (cJ, .long)] s := by
    refine ⟨hKc, fun k q hq => ?_⟩
    match k, hq with
    | 0, hq => cases hq; exact ⟨fun n z => ⟨fun k h => (by cases h), kI, f2, compI, f3⟩, f1⟩
    | 1, hq => cases hq; exact ⟨fun n z => ⟨fun k h => (by cases h), kO, g3, compO, g4⟩, ⟨kO, compO, g3, g4, g1, g5⟩⟩
    | 2, hq => cases hq; exact ⟨fun n z => ⟨fun k h => (by cases h), kJ, j2, compJ, j3⟩, j1⟩
    | k + 3, hq => simp at hq
  have hs := flat_of_before _ hgv
  have harr : (Cond.arrayOf (.static "java/util/ArrayList" "DEFAULTCAPACITY_EMPTY_ELEMENTDATA" "[Ljava/lang/Object;") (.object "java/lang/Object")).before #[Value.ref b] s = true := hs _ (by decide +kernel)
  have hlen : (Cond.eq (.length (.static "java/util/ArrayList" "DEFAULTCAPACITY_EMPTY_ELEMENTDATA" "[Ljava/lang/Object;")) (.int 0)).before #[Value.ref b] s = true := hs _ (by decide +kernel)
  have hexa : (Cond.exactly (.static "java/util/ArrayList" "DEFAULTCAPACITY_EMPTY_ELEMENTDATA" "[Ljava/lang/Object;") "[Ljava/lang/Object;").before #[Value.ref b] s = true := hs _ (by decide +kernel)
  have hmr : (Cond.isRef (.mirror "[Ljava/lang/Object;")).before #[Value.ref b] s = true := hs _ (by decide +kernel)
  have hun : (Cond.isRef (.static Bundle.tN "UNASSIGNED_STACK" Bundle.steD)).before #[Value.ref b] s = true := hs _ (by decide +kernel)
  have hsu : (Cond.isRef (.static Bundle.tN "SUPPRESSED_SENTINEL" Bundle.listD)).before #[Value.ref b] s = true := hs _ (by decide +kernel)
  obtain ⟨z0, hte, hT⟩ := va_Tof (tm := .static "java/util/ArrayList" "DEFAULTCAPACITY_EMPTY_ELEMENTDATA" "[Ljava/lang/Object;") (ty := .object "java/lang/Object") (N := 0) (f := fun _ => .null) (A := fun q : Nat => s.heap.size ≤ q) (by decide) harr (va_eqt hlen) (fun j hj => absurd hj (Nat.not_lt_zero _)) hAf
  obtain ⟨z1, hmi⟩ := va_Mi.of hmr
  have hxo : mXo z0 (fun q : Nat => s.heap.size ≤ q) s s.heap := by
    obtain ⟨a, cc, cell, k, h1, h2, h3, h4, h5, h6, -⟩ := Cond.exactly_spec hexa
    have e9 : a = z0 := by
      have := h1.symm.trans hte
      simpa using this
    subst e9
    exact ⟨cell, h3, h5, by rw [h6]; exact h2, hAf _ (Array.getElem?_eq_some_iff.mp h3).1⟩
  have hCa : ∀ w ∈ mCast, va_Nw w s := by
    intro w hw
    simp only [mCast, List.mem_cons, List.not_mem_nil, or_false] at hw
    rcases hw with rfl | rfl | rfl | rfl | rfl | rfl | rfl | rfl | rfl
    all_goals exact va_Nw.of rfl (hts _ (by decide +kernel))
  have hTx : ∀ q ∈ mTx, ∃ sa : Nat, vk_R RX9 q.1 q.2 sa s := by
    intro q hm
    simp only [mTx, List.mem_cons, List.not_mem_nil, or_false] at hm
    rcases hm with rfl | rfl | rfl | rfl
    · obtain ⟨a, cc, cell, k, h1, -⟩ := Cond.exactly_spec (hs (.exactly (.string RX9 282) "java/lang/String") (by decide +kernel))
      exact ⟨a, vk_R.of (hts _ (by decide +kernel)) h1⟩
    · obtain ⟨a, cc, cell, k, h1, -⟩ := Cond.exactly_spec (hs (.exactly (.string RX9 289) "java/lang/String") (by decide +kernel))
      exact ⟨a, vk_R.of (hts _ (by decide +kernel)) h1⟩
    · obtain ⟨a, cc, cell, k, h1, -⟩ := Cond.exactly_spec (hs (.exactly (.string RX9 297) "java/lang/String") (by decide +kernel))
      exact ⟨a, vk_R.of (hts _ (by decide +kernel)) h1⟩
    · obtain ⟨a, cc, cell, k, h1, -⟩ := Cond.exactly_spec (hs (.exactly (.string RX9 299) "java/lang/String") (by decide +kernel))
      exact ⟨a, vk_R.of (hts _ (by decide +kernel)) h1⟩
  have hE : mE (z0, z1) (fun q : Nat => s.heap.size ≤ q) s s.heap := ⟨va_Zof (hts (.laysStatic "java/util/ArrayList" "DEFAULTCAPACITY_EMPTY_ELEMENTDATA" "[Ljava/lang/Object;") (by decide +kernel)) (hts (.initialized "java/util/ArrayList") (by decide +kernel)) hte hAf, hT, va_AO.of hao, hCa, vx_Zqof (hts (.laysStatic Bundle.tN "UNASSIGNED_STACK" Bundle.steD) (by decide +kernel)) (hts (.initialized Bundle.tN) (by decide +kernel)) hun hAf, vx_Zqof (hts (.laysStatic Bundle.tN "SUPPRESSED_SENTINEL" Bundle.listD) (by decide +kernel)) (hts (.initialized Bundle.tN) (by decide +kernel)) hsu hAf, hmi, va_Fw.of (hts (.declares yCol) (by decide +kernel)) (hts (.interfaceMethod yCol.cls yCol.cls yCol.name yCol.desc) (by decide +kernel)) (hts (.publicMethod yJx4a65c_toArray_d5877) (by decide +kernel)) (hts (.unhidden RJx4a65c yCol.name yCol.desc) (by decide +kernel)) (hts (.castable RJx4a65c yCol.cls) (by decide +kernel)), hxo, hTx⟩
  have hZ : mZ s := by
    intro w hw
    simp only [zWs, List.mem_cons, List.not_mem_nil, or_false] at hw
    rcases hw with rfl | rfl | rfl | rfl | rfl | rfl | rfl | rfl
    all_goals exact va_Nw.of rfl (hts _ (by decide +kernel))
  have hS : va_S (fun q : Nat => s.heap.size ≤ q) s.heap s.heap [] := va_S.rf
  have hP : va_P (dC, dI) vwCl [] s.heap := fun k q h => by simp at h
  have hD : va_D (fun q : Nat => s.heap.size ≤ q) [] := ⟨fun i j p q h => by simp at h, fun k q h => by simp at h⟩
  have hl := lv_entry ([.ref b]) (n := 9) (Nat.le_of_ble_eq_true rfl)
  rw [lg_entry_eq]
  generalize (lg_sl ([.ref b]) ++ List.replicate (9 - (lg_sl ([.ref b])).length) Slot.unset).toArray = ls at hl ⊢
  have hl : lv_has ls 9 [(0, .ref b)] := hl
  have hend : ∀ (H : Heap) (locs : List Loc) (ls : Array Slot), va_S (fun q : Nat => s.heap.size ≤ q) s.heap H locs → W p l e room_1 s m #[Value.ref b] below meth c H locs 100 10000 (lw_Z below #[Value.ref b] s) (F0 m 2427 ls []) := by
    intro H locs ls hS
    refine mi_iconst hx hb dL_law_2427 ?_
    rw [show iI 1 = (1 : Int32) by decide]
    refine va_forget hS.2.2 ?_
    refine W.widen (k := 600002) (n := 7302232) (by omega) (by omega) ?_
    refine W.base ?_
    exact lw_ret (Drawn.sameBut.refl s.drawn lw_cs) hx hb hr hlocks dL_law_2428
  refine lw_init ⟨hx, hb, hml, hts1, hown, hK, hZ, hE, (fun q h => h), hX, hbl, hAf b hbl, hlT⟩ ?_ s.heap [] ls hP hD hS hl
  intro m0 g h ht pq cl rl lg clt rlt lgt qe qet mm st sl ul vl qo H locs ls hP hD hS hl
  refine lv_iload hx hb dL_law_23 (lv_at hl 4 rfl) ?_
  refine lv_aload_n hx hb dL_law_25 rfl (lv_at hl 0 rfl) ?_
  refine va_slen hx hb hX hbl (hAf b hbl) hS dL_law_26 ?_
  rw [ofN8 L hL]
  refine mi_bipush hx hb dL_law_27 (by decide) ?_
  refine mi_isub hx hb dL_law_29 ?_
  refine mi_icmp_gt (tgt := 2427) hx hb (by decide) (by omega) dL_law_30 (by decide) (fun h1 => ?_) (fun h1 => ?_)
  · exact W.widen (k := 100) (n := 10000) (by omega) (by omega) (hend _ _ _ hS)
  · have hL8 : L = 8 := by omega
    subst hL8
    refine lv_aload_n hx hb dL_law_33 rfl (lv_at hl 0 rfl) ?_
    refine lv_iload hx hb dL_law_34 (lv_at hl 4 rfl) ?_
    refine mi_sld (k := 0) hx hb hX hbl (hAf b hbl) hS (by decide) (by decide) dL_law_36 ?_
    refine mi_bipush hx hb dL_law_37 (by decide) ?_
    refine lv_iand hx hb dL_law_39 ?_
    refine m_top (fun z hz => ?_)
    refine lw_cases ⟨hx, hb, hml, hts1, hown, hK, hZ, hE, (fun q h => h), hX, hbl, hAf b hbl, hlT⟩ m0 g h ht pq cl rl lg clt rlt lgt qe qet mm st sl ul vl qo z hz (fun H locs ls hS hl => ?_) H locs ls hP hD hS hl
    refine mi_iinc (b := 8) (lv' := [(4, .int (iI 8)), (0, .ref b)]) hx hb dL_law_2421 hl (k := 1) rfl (by decide) (by decide) rfl (fun ls hl => ?_)
    refine lv_goto (tgt := 23) hx hb dL_law_2424 (by decide) ?_
    refine lv_iload hx hb dL_law_23 (lv_at hl 0 rfl) ?_
    refine lv_aload_n hx hb dL_law_25 rfl (lv_at hl 1 rfl) ?_
    refine va_slen hx hb hX hbl (hAf b hbl) hS dL_law_26 ?_
    rw [ofN8 8 hL]
    refine mi_bipush hx hb dL_law_27 (by decide) ?_
    refine mi_isub hx hb dL_law_29 ?_
    refine mi_icmp_gt (tgt := 2427) hx hb (by decide) (by omega) dL_law_30 (by decide) (fun h1 => ?_) (fun h1 => ?_)
    · exact hend _ _ _ hS
    · exfalso; omega
