/-! contracts whose world has a part that is only known to be there -/
def mQvX {S : Type} (D : va_G) (ws : va_W) (f : S → va_W) (sz : Nat) : Array Value → State → Outcome → State → Prop := va_Qv (fun (_ : S) => True) (fun z t => mB D ws (f z) sz t) (va_A ws sz)
def mQiX {S : Type} (D : va_G) (ws : va_W) (f : S → va_W) (sz : Nat) (v : Int) : Array Value → State → Outcome → State → Prop := va_Qi (fun (r : Int32) (_ : S) => r = iI v) (fun z t => mB D ws (f z) sz t) (va_A ws sz)
def mQlX {S : Type} (D : va_G) (ws : va_W) (f : S → va_W) (sz : Nat) (v : Int) : Array Value → State → Outcome → State → Prop := va_Ql (fun (r : Int64) (_ : S) => r = jI v) (fun z t => mB D ws (f z) sz t) (va_A ws sz)
section MX
variable {p : Program} {l : Launch} {e : Env} {R : Room} {s : State} {m : MethodId} {args : Array Value} {below : List Frame} {meth : Method} {c : Code} {H : Heap} {locs : List Loc} {cells slots : Nat} {Q : State → Prop}
variable {cc : ByteArray} {pc : Nat} {ls : Array Slot} {rest : List Value} {D : va_G} {tys : List (ClassId × FieldType)} {ws : va_W} {A : Nat → Prop} {H0 : Heap}
/-- a number that is only known to be one -/
theorem m_top {x : Int32} (k : ∀ z : Int, rI z → W p l e R s m args below meth c H locs cells slots Q (F0 m pc ls (.int (iI z) :: rest))) : W p l e R s m args below meth c H locs cells slots Q (F0 m pc ls (.int x :: rest)) := by
  have h := k x.toInt ⟨by have := Int32.le_toInt x; omega, by have := Int32.toInt_lt x; omega⟩
  rw [show iI x.toInt = x from Int32.ofInt_toInt x] at h
  exact h
theorem mi_vretX {S : Type} {WS : va_W} {f : S → va_W} {sz : Nat} (z : S) (hx : p.tables.exec = Jvm.exec) (hb : c.code = cc) (hQ : Q = MQ below (mQvX D WS f sz) args s cells slots A) (hr : meth.sig.returnType = none) (hlocks : meth.locks = false) (hA : va_A WS s.heap.size = A) (hsz : s.heap.size = sz) (hP : va_P D vwCl ws H) (hD : va_D A ws) (hS : va_S A s.heap H locs) (hw : ws = f z) (hd : decode cc pc = .ok (.return_, 1)) : W p l e R s m args below meth c H locs cells slots Q (F0 m pc ls []) := by
  subst hw hA hsz hQ
  exact W.vret hx hb hr (fun t ht hW => ⟨⟨z, rfl, trivial, by rw [ht]; exact hP, hD⟩, hS.F ht⟩) hS.2.2 hd hlocks
theorem mi_iretX {S : Type} {WS : va_W} {f : S → va_W} {sz : Nat} {v r : Int} (z : S) (hx : p.tables.exec = Jvm.exec) (hb : c.code = cc) (hQ : Q = MQ below (mQiX D WS f sz r) args s cells slots A) (hr : meth.sig.returnType = some .int) (hlocks : meth.locks = false) (hA : va_A WS s.heap.size = A) (hsz : s.heap.size = sz) (hP : va_P D vwCl ws H) (hD : va_D A ws) (hS : va_S A s.heap H locs) (hv : v = r) (hw : ws = f z) (hd : decode cc pc = .ok (.ireturn, 1)) : W p l e R s m args below meth c H locs cells slots Q (F0 m pc ls [.int (iI v)]) := by
  subst hv hw hA hsz hQ
  exact W.iret hx hb hr (fun t ht hW => ⟨⟨_, z, rfl, rfl, by rw [ht]; exact hP, hD⟩, hS.F ht⟩) hS.2.2 hd hlocks
theorem mi_lretX {S : Type} {WS : va_W} {f : S → va_W} {sz : Nat} {v r : Int} (z : S) (hx : p.tables.exec = Jvm.exec) (hb : c.code = cc) (hQ : Q = MQ below (mQlX D WS f sz r) args s cells slots A) (hr : meth.sig.returnType = some .long) (hlocks : meth.locks = false) (hA : va_A WS s.heap.size = A) (hsz : s.heap.size = sz) (hP : va_P D vwCl ws H) (hD : va_D A ws) (hS : va_S A s.heap H locs) (hv : v = r) (hw : ws = f z) (hd : decode cc pc = .ok (.lreturn, 1)) : W p l e R s m args below meth c H locs cells slots Q (F0 m pc ls [.long (jI v)]) := by
  subst hv hw hA hsz hQ
  exact W.lret hx hb hr (fun t ht hW => ⟨⟨_, z, rfl, rfl, by rw [ht]; exact hP, hD⟩, hS.F ht⟩) hS.2.2 hd hlocks
theorem m_runvX {S : Type} {wc wr : va_W} {wf ws' : S → va_W} {rest st0 : List Value} {mc ms : Nat} {a : Array Value} (hr : va_Run p l e R s m args below meth c H locs cells slots mc ms (F0 m pc ls st0) rest (mQvX D wc wf H.size a) (va_A wc H.size)) (hP : va_P D vwCl ws H) (hD : va_D A ws) (hS : va_S A s.heap H locs) (hA : ∀ q : Nat, s.heap.size ≤ q → A q) (isC isR isB : List Nat) (hC : isC.map (fun i => ws[i]?) = wc.map some) (hR : isR.map (fun i => ws[i]?) = wr.map some) (hn : va_nd isR = true) (hdis : ∀ i ∈ isR, i ∉ isC) (hB : ∀ z, isB.map (fun i => (wr ++ wf z)[i]?) = (ws' z).map some) (hBn : va_nd isB = true)
    (kk : ∀ (z : S) (H1 : Heap) (locs1 : List Loc), va_P D vwCl (ws' z) H1 → va_D A (ws' z) → va_S A s.heap H1 locs1 → W p l e R s m args below meth c H1 locs1 (cells + mc) (slots + ms) Q (F0 m (pc + 3) ls rest)) : W p l e R s m args below meth c H locs cells slots Q (F0 m pc ls st0) := by
  have hF := va_free (wc := wc) hD hS hA isC hC
  refine va_callv hr hS (fun q _ h => hF q h) hF (fun u t H1 locs1 ht hvm hw hB1 hz1 hk1 hS1 => ?_)
  obtain ⟨hP1, hD1⟩ := hB1
  rw [ht] at hP1
  obtain ⟨h1, h2⟩ := m_back hP hD isC isR isB hC hR hn hdis (hB u) hBn hk1 hF hP1 hD1
  exact kk u H1 locs1 h1 h2 hS1
theorem m_runX {S : Type} {wc wr : va_W} {wf ws' : S → va_W} {rest st0 : List Value} {mc ms : Nat} {a : Array Value} {v : Int} (hr : va_Run p l e R s m args below meth c H locs cells slots mc ms (F0 m pc ls st0) rest (mQiX D wc wf H.size v a) (va_A wc H.size)) (hP : va_P D vwCl ws H) (hD : va_D A ws) (hS : va_S A s.heap H locs) (hA : ∀ q : Nat, s.heap.size ≤ q → A q) (isC isR isB : List Nat) (hC : isC.map (fun i => ws[i]?) = wc.map some) (hR : isR.map (fun i => ws[i]?) = wr.map some) (hn : va_nd isR = true) (hdis : ∀ i ∈ isR, i ∉ isC) (hB : ∀ z, isB.map (fun i => (wr ++ wf z)[i]?) = (ws' z).map some) (hBn : va_nd isB = true)
    (kk : ∀ (z : S) (H1 : Heap) (locs1 : List Loc), va_P D vwCl (ws' z) H1 → va_D A (ws' z) → va_S A s.heap H1 locs1 → W p l e R s m args below meth c H1 locs1 (cells + mc) (slots + ms) Q (F0 m (pc + 3) ls (.int (iI v) :: rest))) : W p l e R s m args below meth c H locs cells slots Q (F0 m pc ls st0) := by
  have hF := va_free (wc := wc) hD hS hA isC hC
  refine va_calli hr hS (fun q _ h => hF q h) hF (fun r u t H1 locs1 ht hvm hw hB1 hz1 hk1 hS1 => ?_)
  subst hw
  obtain ⟨hP1, hD1⟩ := hB1
  rw [ht] at hP1
  obtain ⟨h1, h2⟩ := m_back hP hD isC isR isB hC hR hn hdis (hB u) hBn hk1 hF hP1 hD1
  exact kk u H1 locs1 h1 h2 hS1
theorem m_runlX {S : Type} {wc wr : va_W} {wf ws' : S → va_W} {rest st0 : List Value} {mc ms : Nat} {a : Array Value} {v : Int} (hr : va_Run p l e R s m args below meth c H locs cells slots mc ms (F0 m pc ls st0) rest (mQlX D wc wf H.size v a) (va_A wc H.size)) (hP : va_P D vwCl ws H) (hD : va_D A ws) (hS : va_S A s.heap H locs) (hA : ∀ q : Nat, s.heap.size ≤ q → A q) (isC isR isB : List Nat) (hC : isC.map (fun i => ws[i]?) = wc.map some) (hR : isR.map (fun i => ws[i]?) = wr.map some) (hn : va_nd isR = true) (hdis : ∀ i ∈ isR, i ∉ isC) (hB : ∀ z, isB.map (fun i => (wr ++ wf z)[i]?) = (ws' z).map some) (hBn : va_nd isB = true)
    (kk : ∀ (z : S) (H1 : Heap) (locs1 : List Loc), va_P D vwCl (ws' z) H1 → va_D A (ws' z) → va_S A s.heap H1 locs1 → W p l e R s m args below meth c H1 locs1 (cells + mc) (slots + ms) Q (F0 m (pc + 3) ls (.long (jI v) :: rest))) : W p l e R s m args below meth c H locs cells slots Q (F0 m pc ls st0) := by
  have hF := va_free (wc := wc) hD hS hA isC hC
  refine va_calll hr hS (fun q _ h => hF q h) hF (fun r u t H1 locs1 ht hvm hw hB1 hz1 hk1 hS1 => ?_)
  subst hw
  obtain ⟨hP1, hD1⟩ := hB1
  rw [ht] at hP1
  obtain ⟨h1, h2⟩ := m_back hP hD isC isR isB hC hR hn hdis (hB u) hBn hk1 hF hP1 hD1
  exact kk u H1 locs1 h1 h2 hS1
end MX
/-! packing -/
def tbF (d : Int) : Int := if d = 0 then 1 else if 0 ≤ d + 31 ∧ d + 31 ≤ 63 then 8 else if 0 ≤ d + 255 ∧ d + 255 ≤ 511 then 12 else 24
def vbF (d : Int) : Int := if d = 0 then 1 else if 0 ≤ d + 15 ∧ d + 15 ≤ 31 then 7 else if 0 ≤ d + 511 ∧ d + 511 ≤ 1023 then 13 else 22
theorem tbF_r (d : Int) : 1 ≤ tbF d ∧ tbF d ≤ 24 := by unfold tbF; repeat' split; all_goals omega
theorem vbF_r (d : Int) : 1 ≤ vbF d ∧ vbF d ≤ 22 := by unfold vbF; repeat' split; all_goals omega

/-! a new array of int: its class is the one that stands in the tables already -/
section NEW
variable {p : Program} {l : Launch} {e : Env} {R : Room} {s : State} {m : MethodId} {args : Array Value} {below : List Frame} {meth : Method} {c : Code} {H : Heap} {locs : List Loc} {cells slots : Nat} {Q : State → Prop}
variable {cc : ByteArray} {pc : Nat} {ls : Array Slot} {rest : List Value} {D : va_G} {tys : List (ClassId × FieldType)} {ws : va_W} {A : Nat → Prop} {H0 : Heap}
theorem mi_newa (hx : p.tables.exec = Jvm.exec) (hb : c.code = cc) (harr : (Cond.arrayClass .int).before args s = true) {cI : ClassId} (hK : va_K D vwCl tys s) (ht : tys[0]? = some (cI, .int)) (hP : va_P D vwCl ws H) (hD : va_D A ws) (hS : va_S A H0 H locs) (hA : ∀ q, H0.size ≤ q → A q)
    {n : Int} {N : Nat} (hn : iI n = Int32.ofNat N) (hN : N < 1000) (hcells : cells + 1 ≤ R.cells) (hslots : slots + N ≤ R.slots) (hd : decode cc pc = .ok (.newarray .int, 2))
    (kk : ∀ (q : Nat) (H1 : Heap), va_P D vwCl (ws ++ [(q, .inl (cI, N, .inl (aI fun _ => 0)))]) H1 → va_D A (ws ++ [(q, .inl (cI, N, .inl (aI fun _ => 0)))]) → va_S A H0 H1 locs → W p l e R s m args below meth c H1 locs (cells + 1) (slots + N) Q (F0 m (pc + 2) ls (.ref q :: rest))) : W p l e R s m args below meth c H locs cells slots Q (F0 m pc ls (.int (iI n) :: rest)) := by
  rw [hn]
  have h1 : (Int32.ofNat N).toInt = N := Int32.toInt_ofNat_of_lt (by omega)
  have h2 : ∀ cA : ClassId, vp_cell cA (N, .inl (aI fun _ => 0)) = arrV cA N (fun _ => defaultValue .int) := fun cA => by
    rw [vp_cell_i, show (aI fun _ => 0) = (fun _ => (0 : Int32)) from funext fun _ => (by decide : iI 0 = (0 : Int32))]
    rfl
  refine va_newa (atype := .int) (n := Int32.ofNat N) (ty := .int) (a0 := (N, .inl (aI fun _ => 0))) hx hb harr rfl hK hP hD hS hA (N' := N) h2 (by rw [Int32.lt_iff_toInt_lt, h1]; show ¬ (N : Int) < 0; omega) (by rw [Int32.toNatClampNeg, h1]; rfl) (by show N * 4 ≤ _; omega) hcells hslots hd (fun q cA H1 hK1 hP1 hD1 hS1 => ?_)
  have e1 := (hK.2 0 _ ht).2
  have e2 := (hK1.2 tys.length (cA, .int) (by rw [List.getElem?_append_right (Nat.le_refl _)]; simp)).2
  have e3 : cA = cI := Option.some.inj (Eq.trans (Eq.symm e2) e1)
  subst e3
  exact kk q H1 hP1 hD1 hS1
end NEW
section MJ
variable {p : Program} {l : Launch} {e : Env} {R : Room} {s : State} {m : MethodId} {args : Array Value} {below : List Frame} {meth : Method} {c : Code} {H : Heap} {locs : List Loc} {cells slots : Nat} {Q : State → Prop}
variable {cc : ByteArray} {pc : Nat} {ls : Array Slot} {rest : List Value} {D : va_G} {tys : List (ClassId × FieldType)} {ws : va_W} {A : Nat → Prop} {H0 : Heap}
/-- a cast to the thing's own kind -/
theorem mi_cast (hx : p.tables.exec = Jvm.exec) (hb : c.code = cc) {own : String} {index a q0 ci : Nat} {r : vw_C} {fs : List Value} (hown : s.vm.findClass own = some m.cls) (hlink : (Cond.classLink own index r.1).before args s = true) (hK : va_K D vwCl tys s) (hP : va_P D vwCl ws H) (he : ws[q0]? = some (a, .inr (ci, fs))) (hc : vwCl[ci]? = some r) (hd : decode cc pc = .ok (.checkcast index, 3))
    (k : W p l e R s m args below meth c H locs cells slots Q (F0 m (pc + 3) ls (.ref a :: rest))) : W p l e R s m args below meth c H locs cells slots Q (F0 m pc ls (.ref a :: rest)) := va_castS hx hb hown hlink (hK.1 ci r hc).2 (va_recv hK hP hc he) hd k
/-- a reference out of a row of references, known by its place -/
theorem mi_aald (hx : p.tables.exec = Jvm.exec) (hb : c.code = cc) (hK : va_K D vwCl tys s) (hP : va_P D vwCl ws H) (q0 t0 : Nat) {cA : ClassId} {C : String} {n : Nat} {f : Nat → Option Nat} {a r : Nat} (ha : ws[q0]? = some (a, .inl (cA, n, .inr (.inr (.inr (.inr f)))))) (ht : tys[t0]? = some (cA, .object C)) {i : Int} (hi : 0 ≤ i ∧ i < n) (hn : n < 2147483648) (hr : f i.toNat = some r) (hd : decode cc pc = .ok (.aaload, 1))
    (kk : W p l e R s m args below meth c H locs cells slots Q (F0 m (pc + 1) ls (.ref r :: rest))) : W p l e R s m args below meth c H locs cells slots Q (F0 m pc ls (.int (iI i) :: .ref a :: rest)) := by
  refine va_aldq hx hb hK hP q0 t0 ha ht (iI_in hi hn) hd ?_
  rw [iI_cl hi.1 (by omega), hr]
  exact kk
end MJ
/-! what a list's first array is: a static that nobody writes -/
/-- what is cast to what: of the tables -/
def mCast : List Cond := [.castable RX6 "java/lang/Object", .castable RX13 "java/lang/Object", .castable RJx4a65c "java/lang/Object", .castable "java/lang/IllegalArgumentException" "java/lang/IllegalArgumentException", .castable "java/lang/IndexOutOfBoundsException" "java/lang/IndexOutOfBoundsException", .declares ⟨"java/lang/RuntimeException", "<init>", "(Ljava/lang/String;)V"⟩, .declares ⟨"java/lang/Exception", "<init>", "(Ljava/lang/String;)V"⟩, .declares ⟨"java/lang/Throwable", "<init>", "(Ljava/lang/String;)V"⟩, .declares ⟨"java/lang/Object", "getClass", "()Ljava/lang/Class;"⟩]
def mBad : List Cond := [.castable "java/lang/IllegalArgumentException" "java/lang/IllegalArgumentException", .castable "java/lang/IndexOutOfBoundsException" "java/lang/IndexOutOfBoundsException", .declares ⟨"java/lang/RuntimeException", "<init>", "(Ljava/lang/String;)V"⟩, .declares ⟨"java/lang/Exception", "<init>", "(Ljava/lang/String;)V"⟩, .declares ⟨"java/lang/Throwable", "<init>", "(Ljava/lang/String;)V"⟩]
def mTx : List (Nat × String) := [(282, "an argument is out of its range"), (289, "there is no such thing"), (297, "there is no such series"), (299, "there is no such rule")]
/-- what stands beside the worlds: a list's first array, what a throw reads, texts -/
abbrev yCol : MethodName := ⟨"java/util/Collection", "toArray", "()[Ljava/lang/Object;"⟩
abbrev yGC : MethodName := ⟨"java/lang/Object", "getClass", "()Ljava/lang/Class;"⟩
/-- an array of objects, of just that class -/
def mXo (a : Nat) (A : Nat → Prop) (U : State) (H : Heap) : Prop := ∃ cell : Cell, H[a]? = some cell ∧ cell.vm.isStatics = false ∧ U.vm.findClass "[Ljava/lang/Object;" = some cell.cls ∧ ¬ A a
theorem mXo.moved {a : Nat} {A : Nat → Prop} {u U : State} {H : Heap} (hvm : u.vm.Alike U.vm) (h : mXo a A u H) : mXo a A U H := by
  obtain ⟨cell, h1, h2, h3, h4⟩ := h
  exact ⟨cell, h1, h2, by rw [hvm.findClass]; exact h3, h4⟩
theorem mXo.kept {a : Nat} {A : Nat → Prop} {U : State} {H H1 : Heap} (h : mXo a A U H) (hq : ∀ a : Nat, a < H.size → ¬ A a → H1[a]? = H[a]?) : mXo a A U H1 := by
  obtain ⟨cell, h1, h2, h3, h4⟩ := h
  exact ⟨cell, by rw [hq a (Array.getElem?_eq_some_iff.mp h1).1 h4]; exact h1, h2, h3, h4⟩
theorem mXo.narrow {a : Nat} {A B : Nat → Prop} {U : State} {H : Heap} (h : mXo a A U H) (hAB : ∀ q, B q → A q) : mXo a B U H := by
  obtain ⟨cell, h1, h2, h3, h4⟩ := h
  exact ⟨cell, h1, h2, h3, fun z => h4 (hAB a z)⟩
def mE (eZ : Nat × Nat) (A : Nat → Prop) (U : State) (H : Heap) : Prop := va_Z "java/util/ArrayList" "DEFAULTCAPACITY_EMPTY_ELEMENTDATA" "[Ljava/lang/Object;" (.ref eZ.1) A U H ∧ va_T (.object "java/lang/Object") eZ.1 0 (fun _ => .null) A U H ∧ va_AO "java/lang/Object" U ∧ (∀ w ∈ mCast, va_Nw w U) ∧ vx_Zq Bundle.tN "UNASSIGNED_STACK" Bundle.steD A U H ∧ vx_Zq Bundle.tN "SUPPRESSED_SENTINEL" Bundle.listD A U H ∧ va_Mi "[Ljava/lang/Object;" eZ.2 U ∧ va_Fw RJx4a65c yCol yJx4a65c_toArray_d5877 U ∧ mXo eZ.1 A U H ∧ ∀ q ∈ mTx, ∃ sa : Nat, vk_R RX9 q.1 q.2 sa U
theorem mCast_w {s U : State} (hW : s.WarmedH U.vm) (h : ∀ w ∈ mCast, va_Nw w s) : ∀ w ∈ mCast, va_Nw w U := by
  intro w hw
  have hz := h w hw
  simp only [mCast, List.mem_cons, List.not_mem_nil, or_false] at hw
  rcases hw with rfl | rfl | rfl | rfl | rfl | rfl | rfl | rfl | rfl
  all_goals first | exact va_Nw.warmC hW hz | exact va_Nw.warmD hW hz
theorem mCast_s {u U : State} (hv : u.vm = U.vm) (h : ∀ w ∈ mCast, va_Nw w u) : ∀ w ∈ mCast, va_Nw w U := by
  intro w hw
  have hz := h w hw
  have ht : w.onTables = true := by
    simp only [mCast, List.mem_cons, List.not_mem_nil, or_false] at hw
    rcases hw with rfl | rfl | rfl | rfl | rfl | rfl | rfl | rfl | rfl <;> rfl
  exact va_Nw.same ht hv hz
theorem mE.to {eZ : Nat × Nat} {A B : Nat → Prop} {s U : State} {H H1 : Heap} (h : mE eZ A s H) (hW : s.WarmedH U.vm) (hq : ∀ a : Nat, a < H.size → ¬ A a → H1[a]? = H[a]?) (hAB : ∀ q, B q → A q) : mE eZ B U H1 := by
  obtain ⟨h1, h2, h3, h4, h5, h6, h8, h9, h10, h7⟩ := h
  exact ⟨((h1.kept hq).moved hW.alike).narrow hAB, ((h2.kept hq).moved hW.alike).narrow hAB, va_AO.moved hW.alike h3, mCast_w hW h4, ((h5.kept hq).moved hW.alike).narrow hAB, ((h6.kept hq).moved hW.alike).narrow hAB, h8.moved hW.alike, h9.moved (by decide) hW.alike, ((h10.kept hq).moved hW.alike).narrow hAB, fun q hm => by
    obtain ⟨sa, hs⟩ := h7 q hm
    exact ⟨sa, hs.warm hW⟩⟩
theorem mE.obj {eZ : Nat × Nat} {A : Nat → Prop} {U : State} {H : Heap} (h : mE eZ A U H) {C : String} (hm : Cond.castable C "java/lang/Object" ∈ mCast) : va_Nw (.castable C "java/lang/Object") U := h.2.2.2.1 _ hm
theorem mE.iae {eZ : Nat × Nat} {A : Nat → Prop} {U : State} {H : Heap} {args : Array Value} (h : mE eZ A U H) : (Cond.castable "java/lang/IllegalArgumentException" "java/lang/IllegalArgumentException").before args U = true := va_Nw.use rfl (h.2.2.2.1 _ (by decide +kernel))
theorem mE.ioob {eZ : Nat × Nat} {A : Nat → Prop} {U : State} {H : Heap} {args : Array Value} (h : mE eZ A U H) : (Cond.castable "java/lang/IndexOutOfBoundsException" "java/lang/IndexOutOfBoundsException").before args U = true := va_Nw.use rfl (h.2.2.2.1 _ (by decide +kernel))
theorem mE.bad {eZ : Nat × Nat} {A : Nat → Prop} {U : State} {H : Heap} {args : Array Value} (h : mE eZ A U H) : ∀ w ∈ mBad, w.before args U = true := by
  intro w hw
  simp only [mBad, List.mem_cons, List.not_mem_nil, or_false] at hw
  rcases hw with rfl | rfl | rfl | rfl | rfl
  · exact h.iae
  · exact h.ioob
  all_goals exact va_Nw.use rfl (h.2.2.2.1 _ (by decide +kernel))
theorem mE.un {eZ : Nat × Nat} {A : Nat → Prop} {U : State} {H : Heap} (h : mE eZ A U H) : vx_Zq Bundle.tN "UNASSIGNED_STACK" Bundle.steD A U H := h.2.2.2.2.1
theorem mE.su {eZ : Nat × Nat} {A : Nat → Prop} {U : State} {H : Heap} (h : mE eZ A U H) : vx_Zq Bundle.tN "SUPPRESSED_SENTINEL" Bundle.listD A U H := h.2.2.2.2.2.1
theorem mE.str282 {eZ : Nat × Nat} {A : Nat → Prop} {U : State} {H : Heap} (h : mE eZ A U H) : ∃ sa : Nat, vk_R RX9 282 "an argument is out of its range" sa U := h.2.2.2.2.2.2.2.2.2 (282, "an argument is out of its range") (by decide)
theorem mE.str289 {eZ : Nat × Nat} {A : Nat → Prop} {U : State} {H : Heap} (h : mE eZ A U H) : ∃ sa : Nat, vk_R RX9 289 "there is no such thing" sa U := h.2.2.2.2.2.2.2.2.2 (289, "there is no such thing") (by decide)
theorem mE.str297 {eZ : Nat × Nat} {A : Nat → Prop} {U : State} {H : Heap} (h : mE eZ A U H) : ∃ sa : Nat, vk_R RX9 297 "there is no such series" sa U := h.2.2.2.2.2.2.2.2.2 (297, "there is no such series") (by decide)
theorem mE.str299 {eZ : Nat × Nat} {A : Nat → Prop} {U : State} {H : Heap} (h : mE eZ A U H) : ∃ sa : Nat, vk_R RX9 299 "there is no such rule" sa U := h.2.2.2.2.2.2.2.2.2 (299, "there is no such rule") (by decide)
def mPcZ (D : va_G) (tys : List (ClassId × FieldType)) (eZ : Nat × Nat) (av : List Value) (sz : Nat) (ws : va_W) : Array Value → State → Prop := va_Pc av (fun U => (U.heap.size = sz ∧ va_P D vwCl ws U.heap ∧ va_K D vwCl tys U ∧ va_D (fun _ => True) ws ∧ mZ U) ∧ mE eZ (va_A ws sz) U U.heap)
theorem mPcZ_blind {D : va_G} {tys : List (ClassId × FieldType)} {eZ : Nat × Nat} {av : List Value} {sz : Nat} {ws : va_W} : FrameBlind (mPcZ D tys eZ av sz ws) := fun a U g mk q => by
  obtain ⟨q0, ⟨q1, qP, qK, qD, qZ⟩, qE⟩ := q
  refine ⟨q0, ⟨q1, qP, va_K.moved (u := U) (U := U.calling g mk a) (Vm.Alike.refl U.vm) qK, qD, mZ.same (u := U) (U := U.calling g mk a) rfl qZ⟩, ?_⟩
  obtain ⟨h1, h2, h3, h4, h5, h6, h8, h9, h10, h7⟩ := qE
  exact ⟨va_Z.moved (u := U) (U := U.calling g mk a) (Vm.Alike.refl U.vm) h1, va_T.moved (u := U) (U := U.calling g mk a) (Vm.Alike.refl U.vm) h2, va_AO.moved (u := U) (U := U.calling g mk a) (Vm.Alike.refl U.vm) h3, mCast_s (u := U) (U := U.calling g mk a) rfl h4, vx_Zq.moved (u := U) (U := U.calling g mk a) (Vm.Alike.refl U.vm) h5, vx_Zq.moved (u := U) (U := U.calling g mk a) (Vm.Alike.refl U.vm) h6, va_Mi.moved (u := U) (U := U.calling g mk a) (Vm.Alike.refl U.vm) h8, va_Fw.moved (by decide) (u := U) (U := U.calling g mk a) (Vm.Alike.refl U.vm) h9, mXo.moved (u := U) (U := U.calling g mk a) (Vm.Alike.refl U.vm) h10, fun q hm => by
    obtain ⟨sa, hs⟩ := h7 q hm
    exact ⟨sa, vk_R.same (u := U) (U := U.calling g mk a) rfl hs⟩⟩
theorem mMetZ {l : Launch} {y : MethodName} {ws ws' : List Cond} {rm : Room} {cc : ByteArray} {maxL : Nat} {ret : Option FieldType} {D : va_G} {tys : List (ClassId × FieldType)} {eZ : Nat × Nat} {WS : va_W} {sz : Nat} {av : List Value} {Qc : Array Value → State → Outcome → State → Prop} {mc ms : Nat}
    (hy : plainName y.cls = true) (hw : ws = Cond.code y cc maxL ret :: ws') (hn : (lg_sl av).length ≤ maxL)
    (body : ∀ p e s m args below meth c A ls, p.tables.exec = Jvm.exec → c.code = cc → meth.sig.returnType = ret → (∀ w ∈ ws, w.before args s = true) → s.vm.findClass y.cls = some m.cls → meth.locks = false → meth.name = y.name → c.maxLocals = maxL → va_A WS s.heap.size = A → s.heap.size = sz → (∀ q : Nat, s.heap.size ≤ q → A q) → va_D A WS → ∀ H : Heap, H = s.heap → va_P D vwCl WS H → va_K D vwCl tys s → mZ s → mE eZ A s s.heap → va_S A s.heap H [] → lv_has ls maxL (lv_args 0 av) →
      ∀ Q : State → Prop, Q = MQ below Qc args s mc ms A → W p l e rm s m args below meth c H [] 0 0 Q (F0 m 0 ls [])) :
    Met l y ws rm (mPcZ D tys eZ av sz WS) Qc mc ms (va_A WS sz) := by
  refine Met.ofW (cc := cc) (maxL := maxL) (ret := ret) hy hw ?_
  intro p e s m args below meth c s₁ B hml hv
  obtain ⟨rfl, ⟨hsz, hP, hK, hD0, hZ⟩, hE⟩ := hv
  subst hsz
  have hl := lv_entry av (n := maxL) hn
  rw [lg_entry_eq]
  refine body p e s m _ below meth c _ _ B.exec B.bytes B.returns (atoms_spec (ws := ws) B.pre) (findClass_of_methodNamed B.named) B.notSynchronized (name_of_methodNamed B.named B.method).1 hml rfl rfl (fun q h => Or.inr h) hD0.self _ rfl hP hK hZ hE va_S.rf hl _ rfl
section ZR
variable {p : Program} {l : Launch} {e : Env} {R : Room} {s : State} {m : MethodId} {args : Array Value} {below : List Frame} {meth : Method} {c : Code} {H : Heap} {locs : List Loc} {cells slots : Nat} {Q : State → Prop}
variable {cc : ByteArray} {pc : Nat} {ls : Array Slot} {rest : List Value} {D : va_G} {tys : List (ClassId × FieldType)} {ws : va_W} {A : Nat → Prop} {eZ : Nat × Nat}
theorem m_preVZ {wc : va_W} {b : Addr} {As : List Value} {C : String} (hE : mE eZ A s s.heap) (hS : va_S A s.heap H locs) (hA : ∀ q : Nat, s.heap.size ≤ q → A q) (hZ : mZ s) (hK : va_K D vwCl tys s) (hP : va_P D vwCl ws H) (hD : va_D A ws) (isC : List Nat) (hC : isC.map (fun i => ws[i]?) = wc.map some) (hn : va_nd isC = true) (hrecv : ∃ cell : Cell, H[b]? = some cell ∧ cell.vm.isStatics = false ∧ s.vm.findClass C = some cell.cls) : PreV s H C b (mPcZ D tys eZ (.ref b :: As) H.size wc) As := by
  have hPc : va_P D vwCl wc H := fun k q hk => by
    have h1 : (isC.map (fun i => ws[i]?))[k]? = some (some q) := by rw [hC, List.getElem?_map, hk]; rfl
    rw [List.getElem?_map] at h1
    cases hi : isC[k]? with
    | none => rw [hi] at h1; cases h1
    | some i => rw [hi] at h1; exact hP i q (Option.some.inj h1)
  have hF := va_free (wc := wc) hD hS hA isC hC
  exact ⟨mPcZ_blind, hrecv, fun U hU hW => ⟨rfl, ⟨by rw [hU], by rw [hU]; exact hPc, va_K.moved hW.alike hK, (hD.sub isC hn hC).weaken (fun _ _ _ _ => trivial), mZ.warm hW hZ⟩, by rw [hU]; exact hE.to hW hS.2.1 hF⟩⟩
theorem m_preSZ {wc : va_W} {As : List Value} (hE : mE eZ A s s.heap) (hS : va_S A s.heap H locs) (hA : ∀ q : Nat, s.heap.size ≤ q → A q) (hZ : mZ s) (hK : va_K D vwCl tys s) (hP : va_P D vwCl ws H) (hD : va_D A ws) (isC : List Nat) (hC : isC.map (fun i => ws[i]?) = wc.map some) (hn : va_nd isC = true) : PreS s H (mPcZ D tys eZ As H.size wc) As := by
  have hPc : va_P D vwCl wc H := fun k q hk => by
    have h1 : (isC.map (fun i => ws[i]?))[k]? = some (some q) := by rw [hC, List.getElem?_map, hk]; rfl
    rw [List.getElem?_map] at h1
    cases hi : isC[k]? with
    | none => rw [hi] at h1; cases h1
    | some i => rw [hi] at h1; exact hP i q (Option.some.inj h1)
  have hF := va_free (wc := wc) hD hS hA isC hC
  exact ⟨mPcZ_blind, fun U hU hW => ⟨rfl, ⟨by rw [hU], by rw [hU]; exact hPc, va_K.moved hW.alike hK, (hD.sub isC hn hC).weaken (fun _ _ _ _ => trivial), mZ.warm hW hZ⟩, by rw [hU]; exact hE.to hW hS.2.1 hF⟩⟩
theorem mi_getZ (hx : p.tables.exec = Jvm.exec) (hb : c.code = cc) (hE : mE eZ A s s.heap) (hS : va_S A s.heap H locs) {own : String} {index : Nat} (hown : s.vm.findClass own = some m.cls) (hlink : (Cond.fieldLink own index "java/util/ArrayList" "DEFAULTCAPACITY_EMPTY_ELEMENTDATA" "[Ljava/lang/Object;").before args s = true) (hd : decode cc pc = .ok (.getstatic index, 3)) (kk : W p l e R s m args below meth c H locs cells slots Q (F0 m (pc + 3) ls (.ref eZ.1 :: rest))) : W p l e R s m args below meth c H locs cells slots Q (F0 m pc ls rest) :=
  va_gets hx hb hE.1 hS hown hlink (fun _ h => h) hd kk
theorem mi_lenZ (hx : p.tables.exec = Jvm.exec) (hb : c.code = cc) (hE : mE eZ A s s.heap) (hS : va_S A s.heap H locs) (hd : decode cc pc = .ok (.arraylength, 1)) (kk : W p l e R s m args below meth c H locs cells slots Q (F0 m (pc + 1) ls (.int (iI 0) :: rest))) : W p l e R s m args below meth c H locs cells slots Q (F0 m pc ls (.ref eZ.1 :: rest)) :=
  va_tlen hx hb hE.2.1 hS (v := iI 0) (by decide) hd kk
theorem mi_acmpE (hx : p.tables.exec = Jvm.exec) (hb : c.code = cc) {x : Nat} {off : Int} {tgt : Nat} (hd : decode cc pc = .ok (.if_acmp .eq off, 3)) (ht : (pc : Int) + off = (tgt : Int)) (k : W p l e R s m args below meth c H locs cells slots Q (F0 m tgt ls rest)) : W p l e R s m args below meth c H locs cells slots Q (F0 m pc ls (.ref x :: .ref x :: rest)) :=
  lv_acmp_eq (rx := some x) (ry := some x) hx hb hd ht (fun _ => k) (fun q => absurd rfl q)
theorem mi_newq (hx : p.tables.exec = Jvm.exec) (hb : c.code = cc) (hE : mE eZ A s s.heap) {cI cO : ClassId} (hK : va_K D vwCl tys s) (ht : tys[1]? = some (cO, .object "java/lang/Object")) (hP : va_P D vwCl ws H) (hD : va_D A ws) (hS : va_S A s.heap H locs) (hA : ∀ q, s.heap.size ≤ q → A q)
    {own : String} {index : Nat} (hown : s.vm.findClass own = some m.cls) (hcl : (Cond.classLink own index "java/lang/Object").before args s = true) {n : Int} {N : Nat} (hn : iI n = Int32.ofNat N) (hN : N < 1000) (hcells : cells + 1 ≤ R.cells) (hslots : slots + N ≤ R.slots) (hd : decode cc pc = .ok (.anewarray index, 3))
    (kk : ∀ (q : Nat) (H1 : Heap), va_P D vwCl (ws ++ [(q, .inl (cO, N, .inr (.inr (.inr (.inr (fun _ => none))))))]) H1 → va_D A (ws ++ [(q, .inl (cO, N, .inr (.inr (.inr (.inr (fun _ => none))))))]) → va_S A s.heap H1 locs → W p l e R s m args below meth c H1 locs (cells + 1) (slots + N) Q (F0 m (pc + 3) ls (.ref q :: rest))) : W p l e R s m args below meth c H locs cells slots Q (F0 m pc ls (.int (iI n) :: rest)) := by
  rw [hn]
  have h1 : (Int32.ofNat N).toInt = N := Int32.toInt_ofNat_of_lt (by omega)
  refine va_newq (C := "java/lang/Object") (n := Int32.ofNat N) (N' := N) hx hb hown hcl hE.2.2.1 hK hP hD hS hA (by rw [Int32.lt_iff_toInt_lt, h1]; show ¬ (N : Int) < 0; omega) (by rw [Int32.toNatClampNeg, h1]; rfl) (by omega) hcells hslots hd (fun q cA H1 hK1 hP1 hD1 hS1 => ?_)
  have e1 := (hK.2 1 _ ht).2
  have e2 := (hK1.2 tys.length (cA, .object "java/lang/Object") (by rw [List.getElem?_append_right (Nat.le_refl _)]; simp)).2
  obtain ⟨_, _, _, _, _, f1⟩ := e1
  obtain ⟨_, _, _, _, _, f2⟩ := e2
  have e3 : cA = cO := Option.some.inj (Eq.trans (Eq.symm f2) f1)
  subst e3
  exact kk q H1 hP1 hD1 hS1
end ZR
/-- an address that is only known to be there comes back -/
def mQrX (D : va_G) (ws : va_W) (f : Nat → va_W) (sz : Nat) : Array Value → State → Outcome → State → Prop := va_Qr (fun (_ : Nat) => True) (fun z a t => a = z ∧ mB D ws (f z) sz t) (va_A ws sz)
section ZR2
variable {p : Program} {l : Launch} {e : Env} {R : Room} {s : State} {m : MethodId} {args : Array Value} {below : List Frame} {meth : Method} {c : Code} {H : Heap} {locs : List Loc} {cells slots : Nat} {Q : State → Prop}
variable {cc : ByteArray} {pc : Nat} {ls : Array Slot} {rest : List Value} {D : va_G} {tys : List (ClassId × FieldType)} {ws : va_W} {A : Nat → Prop} {H0 : Heap}
theorem mi_aretX {WS : va_W} {f : Nat → va_W} {sz : Nat} {v : Nat} {ty : FieldType} (hx : p.tables.exec = Jvm.exec) (hb : c.code = cc) (hQ : Q = MQ below (mQrX D WS f sz) args s cells slots A) (hr : meth.sig.returnType = some ty) (hty : (∃ n, ty = .object n) ∨ ∃ t, ty = .array t) (hlocks : meth.locks = false) (hA : va_A WS s.heap.size = A) (hsz : s.heap.size = sz) (hP : va_P D vwCl ws H) (hD : va_D A ws) (hS : va_S A s.heap H locs) (hw : ws = f v) (hd : decode cc pc = .ok (.areturn, 1)) : W p l e R s m args below meth c H locs cells slots Q (F0 m pc ls [.ref v]) := by
  subst hw hA hsz hQ
  exact W.aret hx hb hr hty (Or.inr ⟨_, rfl⟩) (fun t ht hW => ⟨⟨v, _, rfl, trivial, rfl, by rw [ht]; exact hP, hD⟩, hS.F ht⟩) hS.2.2 hd hlocks
theorem m_runrX {wc wr : va_W} {wf ws' : Nat → va_W} {rest st0 : List Value} {mc ms : Nat} {a : Array Value} (hr : va_Run p l e R s m args below meth c H locs cells slots mc ms (F0 m pc ls st0) rest (mQrX D wc wf H.size a) (va_A wc H.size)) (hP : va_P D vwCl ws H) (hD : va_D A ws) (hS : va_S A s.heap H locs) (hA : ∀ q : Nat, s.heap.size ≤ q → A q) (isC isR isB : List Nat) (hC : isC.map (fun i => ws[i]?) = wc.map some) (hR : isR.map (fun i => ws[i]?) = wr.map some) (hn : va_nd isR = true) (hdis : ∀ i ∈ isR, i ∉ isC) (hB : ∀ z, isB.map (fun i => (wr ++ wf z)[i]?) = (ws' z).map some) (hBn : va_nd isB = true)
    (kk : ∀ (z : Nat) (H1 : Heap) (locs1 : List Loc), va_P D vwCl (ws' z) H1 → va_D A (ws' z) → va_S A s.heap H1 locs1 → W p l e R s m args below meth c H1 locs1 (cells + mc) (slots + ms) Q (F0 m (pc + 3) ls (.ref z :: rest))) : W p l e R s m args below meth c H locs cells slots Q (F0 m pc ls st0) := by
  have hF := va_free (wc := wc) hD hS hA isC hC
  refine va_callr hr hS (fun q _ h => hF q h) hF (fun u ra t H1 locs1 ht hvm hw hB1 hz1 hk1 hS1 => ?_)
  obtain ⟨rfl, hP1, hD1⟩ := hB1
  rw [ht] at hP1
  obtain ⟨h1, h2⟩ := m_back hP hD isC isR isB hC hR hn hdis (hB ra) hBn hk1 hF hP1 hD1
  exact kk ra H1 locs1 h1 h2 hS1
theorem mi_astq (hx : p.tables.exec = Jvm.exec) (hb : c.code = cc) (hK : va_K D vwCl tys s) (hP : va_P D vwCl ws H) (hD : va_D A ws) (hS : va_S A H0 H locs) (q0 qk ci : Nat) {cO : ClassId} {r : vw_C} {n v a : Nat} {vs : List Value} {f : Nat → Option Nat} {ws' : va_W} (ha : ws[q0]? = some (a, .inl (cO, n, .inr (.inr (.inr (.inr f)))))) (ht : tys[1]? = some (cO, .object "java/lang/Object")) (hca : va_Nw (.castable r.1 "java/lang/Object") s) (hv : ws[qk]? = some (v, .inr (ci, vs))) (hc : vwCl[ci]? = some r) {i : Int} {k : Nat} (hik : i = (k : Int)) (hi : k < n) (hn : n < 2147483648)
    (hw : ws.set q0 (a, .inl (cO, n, .inr (.inr (.inr (.inr (va_up f k (some v))))))) = ws') (hd : decode cc pc = .ok (.aastore, 1))
    (kk : ∀ (H1 : Heap) (locs1 : List Loc), va_P D vwCl ws' H1 → va_D A ws' → va_S A H0 H1 locs1 → W p l e R s m args below meth c H1 locs1 cells slots Q (F0 m (pc + 1) ls rest)) : W p l e R s m args below meth c H locs cells slots Q (F0 m pc ls (.ref v :: .int (iI i) :: .ref a :: rest)) := by
  subst hw hik
  refine va_astqO hx hb hK hP hD hS q0 1 qk ci ha ht hca hv hc (iI_in (by omega) hn) hd ?_
  rw [iI_cl (by omega) (by omega), Int.toNat_natCast]
  exact kk
theorem mi_zretX {S : Type} {WS : va_W} {f : S → va_W} {sz : Nat} {v r : Int} (z : S) (hx : p.tables.exec = Jvm.exec) (hb : c.code = cc) (hQ : Q = MQ below (mQiX D WS f sz r) args s cells slots A) (hr : meth.sig.returnType = some .boolean) (hlocks : meth.locks = false) (hA : va_A WS s.heap.size = A) (hsz : s.heap.size = sz) (hP : va_P D vwCl ws H) (hD : va_D A ws) (hS : va_S A s.heap H locs) (h01 : 0 ≤ v ∧ v ≤ 1) (hv : v = r) (hw : ws = f z) (hd : decode cc pc = .ok (.ireturn, 1)) : W p l e R s m args below meth c H locs cells slots Q (F0 m pc ls [.int (iI v)]) := by
  subst hv hw hA hsz hQ
  refine W.zret hx hb hr ?_ (fun t ht hW => ⟨⟨_, z, rfl, rfl, by rw [ht]; exact hP, hD⟩, hS.F ht⟩) hS.2.2 hd hlocks
  rcases (show v = 0 ∨ v = 1 by omega) with rfl | rfl <;> decide
end ZR2
/-- a row of one long number -/
def lI (z : Int) : Nat → Int64 := fun j => if j = 0 then jI z else jI 0
theorem lI_upd (z z' : Int) : vp_updL (lI z) (iI 0).toNatClampNeg (jI z') = lI z' := by
  funext j
  rw [show (iI 0).toNatClampNeg = 0 by decide]
  unfold vp_updL lI
  by_cases h : j = 0
  · rw [if_pos h, if_pos h]
  · rw [if_neg h, if_neg h, if_neg h]
/-! what throws, what catches -/
abbrev mNo : Array Value → State → Outcome → State → Prop := fun _ _ _ _ => False
def mXC (E : String) (ws : va_W) (sz : Nat) : String → State → State → Prop := vx_X (fun (_ : Unit) => True) (fun E' _ _ => E' = E) (va_A ws sz)
def mXno (ws : va_W) (sz : Nat) : String → State → State → Prop := vx_X (fun (_ : Unit) => False) (fun _ _ _ => True) (va_A ws sz)
section TH
variable {p : Program} {l : Launch} {e : Env} {R : Room} {s : State} {m : MethodId} {args : Array Value} {below : List Frame} {meth : Method} {c : Code} {H : Heap} {locs : List Loc} {cells slots : Nat} {Q : State → Prop}
variable {cc : ByteArray} {pc : Nat} {ls : Array Slot} {rest st0 : List Value} {D : va_G} {tys : List (ClassId × FieldType)} {ws : va_W} {A : Nat → Prop} {eZ : Nat × Nat}
theorem mMetX {y : MethodName} {ws ws' : List Cond} {rm : Room} {cc : ByteArray} {maxL : Nat} {ret : Option FieldType} {WS : va_W} {sz : Nat} {av : List Value} {XC : String → State → State → Prop} {mc ms : Nat}
    (hy : plainName y.cls = true) (hw : ws = Cond.code y cc maxL ret :: ws') (hn : (lg_sl av).length ≤ maxL)
    (body : ∀ p e s m args below meth c A ls, p.tables.exec = Jvm.exec → c.code = cc → meth.sig.returnType = ret → (∀ w ∈ ws, w.before args s = true) → s.vm.findClass y.cls = some m.cls → meth.locks = false → meth.name = y.name → c.maxLocals = maxL → va_A WS s.heap.size = A → s.heap.size = sz → (∀ q : Nat, s.heap.size ≤ q → A q) → va_D A WS → ∀ H : Heap, H = s.heap → va_P D vwCl WS H → va_K D vwCl tys s → mZ s → mE eZ A s s.heap → va_S A s.heap H [] → lv_has ls maxL (lv_args 0 av) → (∀ x ∈ c.exceptionTable.toList, False) →
      ∀ Q : State → Prop, Q = vx_MQ below mNo XC args s mc ms A → W p l e rm s m args below meth c H [] 0 0 Q (F0 m 0 ls [])) :
    vx_Met l y ws rm (mPcZ D tys eZ av sz WS) mNo XC mc ms (va_A WS sz) := by
  refine vx_ofW (cc := cc) (maxL := maxL) (ret := ret) hy hw ?_
  intro p e s m args below meth c s₁ B hml hno hv
  obtain ⟨rfl, ⟨hsz, hP, hK, hD0, hZ⟩, hE⟩ := hv
  subst hsz
  have hl := lv_entry av (n := maxL) hn
  rw [lg_entry_eq]
  exact body p e s m _ below meth c _ _ B.exec B.bytes B.returns (atoms_spec (ws := ws) B.pre) (findClass_of_methodNamed B.named) B.notSynchronized (name_of_methodNamed B.named B.method).1 hml rfl rfl (fun q h => Or.inr h) hD0.self _ rfl hP hK hZ hE va_S.rf hl hno _ rfl
theorem mMetH {y : MethodName} {ws ws' : List Cond} {rm : Room} {cc : ByteArray} {maxL : Nat} {ret : Option FieldType} {hh : List (Nat × Nat × Nat × Nat)} {WS : va_W} {sz : Nat} {av : List Value} {Qc : Array Value → State → Outcome → State → Prop} {XC : String → State → State → Prop} {mc ms : Nat}
    (hy : plainName y.cls = true) (hw : ws = Cond.codeWith y cc maxL ret hh :: ws') (hn : (lg_sl av).length ≤ maxL)
    (body : ∀ p e s m args below meth c A ls, p.tables.exec = Jvm.exec → c.code = cc → meth.sig.returnType = ret → (∀ w ∈ ws, w.before args s = true) → s.vm.findClass y.cls = some m.cls → meth.locks = false → meth.name = y.name → c.maxLocals = maxL → va_A WS s.heap.size = A → s.heap.size = sz → (∀ q : Nat, s.heap.size ≤ q → A q) → va_D A WS → ∀ H : Heap, H = s.heap → va_P D vwCl WS H → va_K D vwCl tys s → mZ s → mE eZ A s s.heap → va_S A s.heap H [] → lv_has ls maxL (lv_args 0 av) → c.exceptionTable.toList = tableOf hh →
      ∀ Q : State → Prop, Q = MQ below Qc args s mc ms A → W p l e rm s m args below meth c H [] 0 0 Q (F0 m 0 ls [])) :
    vx_Met l y ws rm (mPcZ D tys eZ av sz WS) Qc XC mc ms (va_A WS sz) := by
  refine vx_ofWH (cc := cc) (maxL := maxL) (ret := ret) (hh := hh) hy hw ?_
  intro p e s m args below meth c s₁ B hml hv
  obtain ⟨rfl, ⟨hsz, hP, hK, hD0, hZ⟩, hE⟩ := hv
  subst hsz
  have hl := lv_entry av (n := maxL) hn
  rw [lg_entry_eq]
  have hw1 : (Cond.codeWith y cc maxL ret hh).before av.toArray s = true := atoms_spec (ws := ws) B.pre _ (by rw [hw]; exact List.mem_cons_self)
  exact vx_ret (body p e s m _ below meth c _ _ B.exec B.bytes B.returns (atoms_spec (ws := ws) B.pre) (findClass_of_methodNamed B.named) B.notSynchronized (name_of_methodNamed B.named B.method).1 hml rfl rfl (fun q h => Or.inr h) hD0.self _ rfl hP hK hZ hE va_S.rf hl (vx_table (x := y) B hw1) _ rfl)
/-- behind a call that throws -/
theorem m_callT {E : String} {wc wr : va_W} {mc ms : Nat} (hr : vx_Run p l e R s m args below meth c H locs cells slots mc ms (F0 m pc ls st0) rest (fun _ _ _ => False) (mXC E wc H.size) (va_A wc H.size)) (hP : va_P D vwCl ws H) (hD : va_D A ws) (hS : va_S A s.heap H locs) (hA : ∀ q : Nat, s.heap.size ≤ q → A q) (isC isR : List Nat) (hC : isC.map (fun i => ws[i]?) = wc.map some) (hR : isR.map (fun i => ws[i]?) = wr.map some) (hn : va_nd isR = true) (hdis : ∀ i ∈ isR, i ∉ isC)
    (kx : ∀ (ce : Cell) (q9 : Addr) (H1 : Heap) (locs1 : List Loc), va_P D vwCl wr H1 → va_D A wr → va_S A s.heap H1 locs1 → H1[q9]? = some ce → ce.vm = .none → s.vm.findClass E = some ce.cls → vx_W p l e R s m args below meth c H1 locs1 (cells + mc) (slots + ms) Q (F0 m pc ls rest) q9) : W p l e R s m args below meth c H locs cells slots Q (F0 m pc ls st0) := by
  have hF := va_free (wc := wc) hD hS hA isC hC
  intro T hT X
  rcases hr T hT X with ⟨v, st₀, t, T', L, h0, X', hL, e1, e2, h, st⟩ | ⟨q, st₀, t, T', L, E', ce, h0, X', hL, e1, e2, ⟨u, hp, hb, hFF⟩, hce, hcv, hcl, st⟩
  · exact h.elim
  · have hb : E' = E := hb
    subst hb
    obtain ⟨k1, k2, k3⟩ := vx_keep h0 e1 hS (fun q _ h => hF q h) hF hL hFF
    have hj := va_join (wr := wr) (w1 := []) hP hD isC isR hC hR hn hdis k2 hF (fun k q h => by simp at h) ⟨fun i j p q h => by simp at h, fun k q h => by simp at h⟩
    rw [List.append_nil] at hj
    obtain ⟨t2, a1, b1⟩ := kx ce q T'.heap (locs ++ L) hj.1 hj.2 k3 (by rw [e1]; exact hce) hcv hcl T' rfl X'
    exact ⟨t2, st.trans a1, b1⟩
/-- behind a call of a method that has handlers, and returns -/
theorem m_runH {wc wc' wr ws' : va_W} {mc ms : Nat} {a : Array Value} {v : Int} (hr : vx_Run p l e R s m args below meth c H locs cells slots mc ms (F0 m pc ls st0) rest (mQi D wc wc' H.size v a) (mXno wc H.size) (va_A wc H.size)) (hP : va_P D vwCl ws H) (hD : va_D A ws) (hS : va_S A s.heap H locs) (hA : ∀ q : Nat, s.heap.size ≤ q → A q) (isC isR isB : List Nat) (hC : isC.map (fun i => ws[i]?) = wc.map some) (hR : isR.map (fun i => ws[i]?) = wr.map some) (hn : va_nd isR = true) (hdis : ∀ i ∈ isR, i ∉ isC) (hB : isB.map (fun i => (wr ++ wc')[i]?) = ws'.map some) (hBn : va_nd isB = true)
    (kk : ∀ (H1 : Heap) (locs1 : List Loc), va_P D vwCl ws' H1 → va_D A ws' → va_S A s.heap H1 locs1 → W p l e R s m args below meth c H1 locs1 (cells + mc) (slots + ms) Q (F0 m (pc + 3) ls (.int (iI v) :: rest))) : W p l e R s m args below meth c H locs cells slots Q (F0 m pc ls st0) := by
  have hF := va_free (wc := wc) hD hS hA isC hC
  refine vx_calli hr hS (fun q _ h => hF q h) hF (fun q _ h => hF q h) (fun E ce q9 u t H1 locs1 ht hvm hp _ _ _ _ _ _ _ => hp.elim) (fun r u t H1 locs1 ht hvm hw hB1 hz1 hk1 hS1 => ?_)
  subst hw
  obtain ⟨hP1, hD1⟩ := hB1
  rw [ht] at hP1
  obtain ⟨h1, h2⟩ := m_back hP hD isC isR isB hC hR hn hdis hB hBn hk1 hF hP1 hD1
  exact kk H1 locs1 h1 h2 hS1
theorem m_thF {WS : va_W} {t : State} (hS : va_S (va_A WS s.heap.size) s.heap H locs) (hz : H.size ≤ t.heap.size) (hk : ∀ q : Nat, q < H.size → t.heap[q]? = H[q]?) : va_F (va_A WS s.heap.size) s t := ⟨Nat.le_trans hS.1 hz, fun q h1 h2 => by rw [hk q (Nat.lt_of_lt_of_le h1 hS.1)]; exact hS.2.1 q h1 h2⟩
theorem mi_lald (hx : p.tables.exec = Jvm.exec) (hb : c.code = cc) (hK : va_K D vwCl tys s) (hP : va_P D vwCl ws H) (q0 t0 : Nat) {cJ : ClassId} {z : Int} {a : Nat} (ha : ws[q0]? = some (a, .inl (cJ, 1, .inr (.inl (lI z))))) (ht : tys[t0]? = some (cJ, .long)) (hd : decode cc pc = .ok (.laload, 1))
    (kk : W p l e R s m args below meth c H locs cells slots Q (F0 m (pc + 1) ls (.long (jI z) :: rest))) : W p l e R s m args below meth c H locs cells slots Q (F0 m pc ls (.int (iI 0) :: .ref a :: rest)) := by
  refine va_lald hx hb hK hP q0 t0 ha ht (iI_in (i := 0) ⟨Int.le_refl _, by decide⟩ (by decide)) hd ?_
  exact kk
theorem mi_last (hx : p.tables.exec = Jvm.exec) (hb : c.code = cc) (hK : va_K D vwCl tys s) (hP : va_P D vwCl ws H) (hD : va_D A ws) {H0 : Heap} (hS : va_S A H0 H locs) (q0 t0 : Nat) {cJ : ClassId} {z z' : Int} {a : Nat} {ws' : va_W} (ha : ws[q0]? = some (a, .inl (cJ, 1, .inr (.inl (lI z))))) (ht : tys[t0]? = some (cJ, .long)) (hw : ws.set q0 (a, .inl (cJ, 1, .inr (.inl (lI z')))) = ws') (hd : decode cc pc = .ok (.lastore, 1))
    (kk : ∀ (H1 : Heap) (locs1 : List Loc), va_P D vwCl ws' H1 → va_D A ws' → va_S A H0 H1 locs1 → W p l e R s m args below meth c H1 locs1 cells slots Q (F0 m (pc + 1) ls rest)) : W p l e R s m args below meth c H locs cells slots Q (F0 m pc ls (.long (jI z') :: .int (iI 0) :: .ref a :: rest)) := by
  subst hw
  refine va_last hx hb hK hP hD hS q0 t0 ha ht (iI_in (i := 0) ⟨Int.le_refl _, by decide⟩ (by decide)) hd ?_
  rw [show vp_updL (lI z) (iI 0).toNatClampNeg (jI z') = lI z' from lI_upd z z']
  exact kk
end TH
/-! doubles, answers with more than one address, what a list's copy asks -/
def mQd (D : va_G) (ws ws' : va_W) (sz : Nat) (v : UInt64) : Array Value → State → Outcome → State → Prop := va_Qd (fun (r : UInt64) (_ : Unit) => r = v) (fun _ t => mB D ws ws' sz t) (va_A ws sz)
def mQrY {S : Type} (D : va_G) (ws : va_W) (f : S → va_W) (g : S → Nat) (sz : Nat) : Array Value → State → Outcome → State → Prop := va_Qr (fun (_ : S) => True) (fun z a t => a = g z ∧ mB D ws (f z) sz t) (va_A ws sz)
theorem mE.mi {eZ : Nat × Nat} {A : Nat → Prop} {U : State} {H : Heap} (h : mE eZ A U H) : va_Mi "[Ljava/lang/Object;" eZ.2 U := h.2.2.2.2.2.2.1
theorem mE.fw {eZ : Nat × Nat} {A : Nat → Prop} {U : State} {H : Heap} (h : mE eZ A U H) : va_Fw RJx4a65c yCol yJx4a65c_toArray_d5877 U := h.2.2.2.2.2.2.2.1
theorem mE.xo {eZ : Nat × Nat} {A : Nat → Prop} {U : State} {H : Heap} (h : mE eZ A U H) : mXo eZ.1 A U H := h.2.2.2.2.2.2.2.2.1
section MO
variable {p : Program} {l : Launch} {e : Env} {R : Room} {s : State} {m : MethodId} {args : Array Value} {below : List Frame} {meth : Method} {c : Code} {H : Heap} {locs : List Loc} {cells slots : Nat} {Q : State → Prop}
variable {cc : ByteArray} {pc : Nat} {ls : Array Slot} {rest st0 : List Value} {D : va_G} {tys : List (ClassId × FieldType)} {ws : va_W} {A : Nat → Prop} {eZ : Nat × Nat}
theorem mi_dret {WS WS' : va_W} {sz : Nat} {v r : UInt64} (hx : p.tables.exec = Jvm.exec) (hb : c.code = cc) (hQ : Q = MQ below (mQd D WS WS' sz r) args s cells slots A) (hr : meth.sig.returnType = some .double) (hlocks : meth.locks = false) (hA : va_A WS s.heap.size = A) (hsz : s.heap.size = sz) (hP : va_P D vwCl ws H) (hD : va_D A ws) (hS : va_S A s.heap H locs) (hv : v = r) (hw : ws = WS') (hd : decode cc pc = .ok (.dreturn, 1)) : W p l e R s m args below meth c H locs cells slots Q (F0 m pc ls [.double v]) := by
  subst hw hv hA hsz hQ
  exact W.dret hx hb hr (fun t ht hW => ⟨⟨_, (), rfl, rfl, by rw [ht]; exact hP, hD⟩, hS.F ht⟩) hS.2.2 hd hlocks
theorem m_rund {wc wc' wr ws' : va_W} {mc ms : Nat} {a : Array Value} {v : UInt64} (hr : va_Run p l e R s m args below meth c H locs cells slots mc ms (F0 m pc ls st0) rest (mQd D wc wc' H.size v a) (va_A wc H.size)) (hP : va_P D vwCl ws H) (hD : va_D A ws) (hS : va_S A s.heap H locs) (hA : ∀ q : Nat, s.heap.size ≤ q → A q) (isC isR isB : List Nat) (hC : isC.map (fun i => ws[i]?) = wc.map some) (hR : isR.map (fun i => ws[i]?) = wr.map some) (hn : va_nd isR = true) (hdis : ∀ i ∈ isR, i ∉ isC) (hB : isB.map (fun i => (wr ++ wc')[i]?) = ws'.map some) (hBn : va_nd isB = true)
    (kk : ∀ (H1 : Heap) (locs1 : List Loc), va_P D vwCl ws' H1 → va_D A ws' → va_S A s.heap H1 locs1 → W p l e R s m args below meth c H1 locs1 (cells + mc) (slots + ms) Q (F0 m (pc + 3) ls (.double v :: rest))) : W p l e R s m args below meth c H locs cells slots Q (F0 m pc ls st0) := by
  have hF := va_free (wc := wc) hD hS hA isC hC
  refine va_calld hr hS (fun q _ h => hF q h) hF (fun r u t H1 locs1 ht hvm hw hB1 hz1 hk1 hS1 => ?_)
  subst hw
  obtain ⟨hP1, hD1⟩ := hB1
  rw [ht] at hP1
  obtain ⟨h1, h2⟩ := m_back hP hD isC isR isB hC hR hn hdis hB hBn hk1 hF hP1 hD1
  exact kk H1 locs1 h1 h2 hS1
theorem d_cmp0 (op : CmpOp) : Op.cmpValue (FP.dcmp FP.dconst0 FP.dconst0) op = iI 0 := by
  rw [show FP.dcmp FP.dconst0 FP.dconst0 = some .eq by decide +kernel]
  rfl
theorem mi_dcmp0 (hx : p.tables.exec = Jvm.exec) (hb : c.code = cc) {op : CmpOp} (hd : decode cc pc = .ok (.dcmp op, 1)) (k : W p l e R s m args below meth c H locs cells slots Q (F0 m (pc + 1) ls (.int (iI 0) :: rest))) : W p l e R s m args below meth c H locs cells slots Q (F0 m pc ls (.double FP.dconst0 :: .double FP.dconst0 :: rest)) := lv_dcmp hx hb hd (by rw [d_cmp0]; exact k)
theorem mi_aretY {S : Type} {WS : va_W} {f : S → va_W} {g : S → Nat} {sz : Nat} {v : Nat} {ty : FieldType} (z : S) (hx : p.tables.exec = Jvm.exec) (hb : c.code = cc) (hQ : Q = MQ below (mQrY D WS f g sz) args s cells slots A) (hr : meth.sig.returnType = some ty) (hty : (∃ n, ty = .object n) ∨ ∃ t, ty = .array t) (hlocks : meth.locks = false) (hA : va_A WS s.heap.size = A) (hsz : s.heap.size = sz) (hP : va_P D vwCl ws H) (hD : va_D A ws) (hS : va_S A s.heap H locs) (hv : v = g z) (hw : ws = f z) (hd : decode cc pc = .ok (.areturn, 1)) : W p l e R s m args below meth c H locs cells slots Q (F0 m pc ls [.ref v]) := by
  subst hw hv hA hsz hQ
  exact W.aret hx hb hr hty (Or.inr ⟨_, rfl⟩) (fun t ht hW => ⟨⟨z, _, rfl, trivial, rfl, by rw [ht]; exact hP, hD⟩, hS.F ht⟩) hS.2.2 hd hlocks
theorem m_runrY {S : Type} {wc wr : va_W} {wf ws' : S → va_W} {g : S → Nat} {mc ms : Nat} {a : Array Value} (hr : va_Run p l e R s m args below meth c H locs cells slots mc ms (F0 m pc ls st0) rest (mQrY D wc wf g H.size a) (va_A wc H.size)) (hP : va_P D vwCl ws H) (hD : va_D A ws) (hS : va_S A s.heap H locs) (hA : ∀ q : Nat, s.heap.size ≤ q → A q) (isC isR isB : List Nat) (hC : isC.map (fun i => ws[i]?) = wc.map some) (hR : isR.map (fun i => ws[i]?) = wr.map some) (hn : va_nd isR = true) (hdis : ∀ i ∈ isR, i ∉ isC) (hB : ∀ z, isB.map (fun i => (wr ++ wf z)[i]?) = (ws' z).map some) (hBn : va_nd isB = true)
    (kk : ∀ (z : S) (H1 : Heap) (locs1 : List Loc), va_P D vwCl (ws' z) H1 → va_D A (ws' z) → va_S A s.heap H1 locs1 → W p l e R s m args below meth c H1 locs1 (cells + mc) (slots + ms) Q (F0 m (pc + 3) ls (.ref (g z) :: rest))) : W p l e R s m args below meth c H locs cells slots Q (F0 m pc ls st0) := by
  have hF := va_free (wc := wc) hD hS hA isC hC
  refine va_callr hr hS (fun q _ h => hF q h) hF (fun u ra t H1 locs1 ht hvm hw hB1 hz1 hk1 hS1 => ?_)
  obtain ⟨rfl, hP1, hD1⟩ := hB1
  rw [ht] at hP1
  obtain ⟨h1, h2⟩ := m_back hP hD isC isR isB hC hR hn hdis (hB u) hBn hk1 hF hP1 hD1
  exact kk u H1 locs1 h1 h2 hS1
theorem m_runrXF {wc wr : va_W} {wf ws' : Nat → va_W} {mc ms : Nat} {a : Array Value} (hr : va_Run5 p l e R s m args below meth c H locs cells slots mc ms (F0 m pc ls st0) rest (mQrX D wc wf H.size a) (va_A wc H.size)) (hP : va_P D vwCl ws H) (hD : va_D A ws) (hS : va_S A s.heap H locs) (hA : ∀ q : Nat, s.heap.size ≤ q → A q) (isC isR isB : List Nat) (hC : isC.map (fun i => ws[i]?) = wc.map some) (hR : isR.map (fun i => ws[i]?) = wr.map some) (hn : va_nd isR = true) (hdis : ∀ i ∈ isR, i ∉ isC) (hB : ∀ z, isB.map (fun i => (wr ++ wf z)[i]?) = (ws' z).map some) (hBn : va_nd isB = true)
    (kk : ∀ (z : Nat) (H1 : Heap) (locs1 : List Loc), va_P D vwCl (ws' z) H1 → va_D A (ws' z) → va_S A s.heap H1 locs1 → W p l e R s m args below meth c H1 locs1 (cells + mc) (slots + ms) Q (F0 m (pc + 5) ls (.ref z :: rest))) : W p l e R s m args below meth c H locs cells slots Q (F0 m pc ls st0) := by
  have hF := va_free (wc := wc) hD hS hA isC hC
  refine va_callFr hr hS (fun q _ h => hF q h) hF (fun u ra t H1 locs1 ht hvm hw hB1 hz1 hk1 hS1 => ?_)
  obtain ⟨rfl, hP1, hD1⟩ := hB1
  rw [ht] at hP1
  obtain ⟨h1, h2⟩ := m_back hP hD isC isR isB hC hR hn hdis (hB ra) hBn hk1 hF hP1 hD1
  exact kk ra H1 locs1 h1 h2 hS1
theorem mi_acmpNF (hx : p.tables.exec = Jvm.exec) (hb : c.code = cc) {x : Nat} {off : Int} {tgt : Nat} (hd : decode cc pc = .ok (.if_acmp .ne off, 3)) (ht : (pc : Int) + off = (tgt : Int)) (k : W p l e R s m args below meth c H locs cells slots Q (F0 m (pc + 3) ls rest)) : W p l e R s m args below meth c H locs cells slots Q (F0 m pc ls (.ref x :: .ref x :: rest)) :=
  lv_acmp_ne (rx := some x) (ry := some x) hx hb hd ht (fun q => absurd rfl q) (fun _ => k)
theorem mi_getCZ (hx : p.tables.exec = Jvm.exec) (hb : c.code = cc) (hml : c.maxLocals = ls.size) (hE : mE eZ A s s.heap) (hS : va_S A s.heap H locs) {own : String} {index : Nat} (hown : s.vm.findClass own = some m.cls) (hlink : (Cond.methodLink own index yGC).before args s = true) (hsel : (Cond.selects "[Ljava/lang/Object;" yGC yGC).before args s = true) (hinst : (Cond.instanceMethod yGC).before args s = true) (hnat : (Cond.native yGC).before args s = true) (hf : 1 ≤ R.frames) (hlo : (rest.map fun v => v.category).sum + 14 ≤ R.locals) (hd : decode cc pc = .ok (.invokevirtual index, 3))
    (k : W p l e R s m args below meth c H locs cells slots Q (F0 m (pc + 3) ls (.ref eZ.2 :: rest))) : W p l e R s m args below meth c H locs cells slots Q (F0 m pc ls (.ref eZ.1 :: rest)) := by
  obtain ⟨cell, h1, h2, h3, h4⟩ := hE.xo
  exact va_getC hx hb hml hown hlink (va_Nw.use rfl (hE.2.2.2.1 _ (by decide +kernel))) hsel hinst hnat hE.mi ⟨cell, by rw [hS.2.1 _ (Array.getElem?_eq_some_iff.mp h1).1 h4]; exact h1, h2, h3⟩ hf hlo hd k
theorem mi_ldcM (hx : p.tables.exec = Jvm.exec) (hb : c.code = cc) (hE : mE eZ A s s.heap) {own : String} {index : Nat} (hown : s.vm.findClass own = some m.cls) (hlink : (Cond.classLink own index "[Ljava/lang/Object;").before args s = true) (hd : decode cc pc = .ok (.ldc index, 2))
    (k : W p l e R s m args below meth c H locs cells slots Q (F0 m (pc + 2) ls (.ref eZ.2 :: rest))) : W p l e R s m args below meth c H locs cells slots Q (F0 m pc ls rest) := va_ldcM hx hb hown hlink hE.mi hd k
/-- nothing is copied -/
theorem mi_copyZ0 (hx : p.tables.exec = Jvm.exec) (hb : c.code = cc) (hml : c.maxLocals = ls.size) {own : String} {index : Nat} (hown : s.vm.findClass own = some m.cls) (hlink : (Cond.methodLink own index arraycopyName).before args s = true) (hnat : (Cond.native arraycopyName).before args s = true) (hstat : (Cond.static arraycopyName).before args s = true) (hini : (Cond.initialized "java/lang/System").before args s = true)
    (hE : mE eZ A s s.heap) (hK : va_K D vwCl tys s) (hP : va_P D vwCl ws H) (hS : va_S A s.heap H locs) (q1 : Nat) {a n1 : Nat} {cO : ClassId} {g : Nat → Option Nat} (ha1 : ws[q1]? = some (a, .inl (cO, n1, .inr (.inr (.inr (.inr g)))))) (ht1 : tys[1]? = some (cO, .object "java/lang/Object")) (hf : 1 ≤ R.frames) (hlo : (rest.map fun v => v.category).sum + (nativeFrameWords "java/lang/System" "arraycopy" 5 + 11) ≤ R.locals) (hd : decode cc pc = .ok (.invokestatic index, 3))
    (kk : W p l e R s m args below meth c H locs cells slots Q (F0 m (pc + 3) ls rest)) : W p l e R s m args below meth c H locs cells slots Q (F0 m pc ls (.int (iI 0) :: .int (iI 0) :: .ref a :: .int (iI 0) :: .ref eZ.1 :: rest)) := by
  intro T hT X
  obtain ⟨-, ⟨cell, h1, ⟨h2, k0, hk0, cm0, hkk0⟩, h3, -, -, -, h7⟩, -⟩ := hE
  have hc0 : H[eZ.1]? = some cell := by rw [hS.2.1 _ (Array.getElem?_eq_some_iff.mp h1).1 h7]; exact h1
  have hc1 : H[a]? = some (vp_cell cO (n1, .inr (.inr (.inr (.inr g))))) := hP q1 _ ha1
  obtain ⟨-, k1, hk1, cm1, hkk1⟩ := (hK.2 1 _ ht1).1 n1 (fun j => va_rf (g j))
  have e0 : (iI 0).toNatClampNeg = 0 := by decide
  have ez : (iI 0).toInt = 0 := by decide
  obtain ⟨vm', X', step⟩ := X.arraycopy hx hown hlink hnat hstat hini (src := eZ.1) (dst := a) (cs := cell) (cd := vp_cell cO (n1, .inr (.inr (.inr (.inr g))))) (srcPos := iI 0) (destPos := iI 0) (n := iI 0) (by rw [hT]; exact hc0) (by rw [hT]; exact hc1)
    h2 (fun _ h => by cases h) h3 (fun h => by cases h) hk0 hk1 hkk0 hkk1 rfl (by decide) (by decide) (by decide) (by rw [ez]; omega) (by rw [ez]; omega)
    (fun vm₁ hal i hi => absurd hi (by rw [e0]; exact Nat.not_lt_zero _))
    (g := F0 m pc ls (.int (iI 0) :: .int (iI 0) :: .ref a :: .int (iI 0) :: .ref eZ.1 :: rest)) rfl (by rw [hml]) (rest := rest) rfl (by rw [hb]; exact hd) hf (by show 2 * 0 + _ + _ ≤ _; omega)
  have e1 : copied cell (vp_cell cO (n1, .inr (.inr (.inr (.inr g))))) (iI 0) (iI 0) (iI 0) = vp_cell cO (n1, .inr (.inr (.inr (.inr g)))) := by
    unfold copied
    rw [e0]
    rfl
  have e2 : cell.stretch (iI 0).toNatClampNeg (iI 0).toNatClampNeg = [] := by rw [e0]; rfl
  rw [e1, e2] at X'
  rw [e1] at step
  have hl : a < H.size := (Array.getElem?_eq_some_iff.mp hc1).1
  have hheap : ((T.setVm vm').setCell a (vp_cell cO (n1, .inr (.inr (.inr (.inr g)))))).heap = H := by
    show T.heap.setIfInBounds a _ = H
    rw [hT]
    apply Array.ext_getElem?
    intro q
    by_cases hq : q = a
    · subst hq
      rw [hc1]
      simp [Array.getElem?_setIfInBounds, hl]
    · simp [Array.getElem?_setIfInBounds, Ne.symm hq]
  simp only [List.zipIdx_nil, List.map_nil, List.append_nil] at X'
  obtain ⟨t, a1, b1⟩ := kk _ hheap X'
  exact ⟨t, step t a1, b1⟩
end MO
