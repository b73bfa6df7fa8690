/-! what a list's first array is: a static that nobody writes -/
def mE (eZ : Nat) (A : Nat → Prop) (U : State) (H : Heap) : Prop := va_Z "java/util/ArrayList" "DEFAULTCAPACITY_EMPTY_ELEMENTDATA" "[Ljava/lang/Object;" (.ref eZ) A U H ∧ va_T (.object "java/lang/Object") eZ 0 (fun _ => .null) A U H ∧ va_AO "java/lang/Object" U ∧ va_Nw (.castable RX6 "java/lang/Object") U ∧ va_Nw (.castable RX5 "java/lang/Object") U
theorem mE.to {eZ : Nat} {A B : Nat → Prop} {s U : State} {H H1 : Heap} (h : mE eZ A s H) (hW : s.WarmedH U.vm) (hq : ∀ a : Nat, a < H.size → ¬ A a → H1[a]? = H[a]?) (hAB : ∀ q, B q → A q) : mE eZ B U H1 :=
  ⟨((h.1.kept hq).moved hW.alike).narrow hAB, ((h.2.1.kept hq).moved hW.alike).narrow hAB, va_AO.moved hW.alike h.2.2.1, va_Nw.warmC hW h.2.2.2.1, va_Nw.warmC hW h.2.2.2.2⟩
def mPcZ (D : va_G) (tys : List (ClassId × FieldType)) (eZ : Nat) (av : List Value) (sz : Nat) (ws : va_W) : Array Value → State → Prop := va_Pc av (fun U => (U.heap.size = sz ∧ va_P D vwCl ws U.heap ∧ va_K D vwCl tys U ∧ va_D (fun _ => True) ws ∧ mZ U) ∧ mE eZ (va_A ws sz) U U.heap)
theorem mPcZ_blind {D : va_G} {tys : List (ClassId × FieldType)} {eZ : Nat} {av : List Value} {sz : Nat} {ws : va_W} : FrameBlind (mPcZ D tys eZ av sz ws) := fun a U g mk q => by
  obtain ⟨q0, ⟨q1, qP, qK, qD, qZ⟩, qE⟩ := q
  refine ⟨q0, ⟨q1, qP, va_K.moved (u := U) (U := U.calling g mk a) (Vm.Alike.refl U.vm) qK, qD, mZ.same (u := U) (U := U.calling g mk a) rfl qZ⟩, ?_⟩
  exact ⟨va_Z.moved (u := U) (U := U.calling g mk a) (Vm.Alike.refl U.vm) qE.1, va_T.moved (u := U) (U := U.calling g mk a) (Vm.Alike.refl U.vm) qE.2.1, va_AO.moved (u := U) (U := U.calling g mk a) (Vm.Alike.refl U.vm) qE.2.2.1, va_Nw.same (u := U) (U := U.calling g mk a) rfl rfl qE.2.2.2.1, va_Nw.same (u := U) (U := U.calling g mk a) rfl rfl qE.2.2.2.2⟩
theorem mMetZ {l : Launch} {y : MethodName} {ws ws' : List Cond} {rm : Room} {cc : ByteArray} {maxL : Nat} {ret : Option FieldType} {D : va_G} {tys : List (ClassId × FieldType)} {eZ : Nat} {WS : va_W} {sz : Nat} {av : List Value} {Qc : Array Value → State → Outcome → State → Prop} {mc ms : Nat}
    (hy : plainName y.cls = true) (hw : ws = Cond.code y cc maxL ret :: ws') (hn : (lg_sl av).length ≤ maxL)
    (body : ∀ p e s m args below meth c A ls, p.tables.exec = Jvm.exec → c.code = cc → meth.sig.returnType = ret → (∀ w ∈ ws, w.before args s = true) → s.vm.findClass y.cls = some m.cls → meth.locks = false → meth.name = y.name → c.maxLocals = maxL → va_A WS s.heap.size = A → s.heap.size = sz → (∀ q : Nat, s.heap.size ≤ q → A q) → va_D A WS → ∀ H : Heap, H = s.heap → va_P D vwCl WS H → va_K D vwCl tys s → mZ s → mE eZ A s s.heap → va_S A s.heap H [] → lv_has ls maxL (lv_args 0 av) →
      ∀ Q : State → Prop, Q = MQ below Qc args s mc ms A → W p l e rm s m args below meth c H [] 0 0 Q (F0 m 0 ls [])) :
    Met l y ws rm (mPcZ D tys eZ av sz WS) Qc mc ms (va_A WS sz) := by
  refine Met.ofW (cc := cc) (maxL := maxL) (ret := ret) hy hw ?_
  intro p e s m args below meth c s₁ B hml hv
  obtain ⟨rfl, ⟨hsz, hP, hK, hD0, hZ⟩, hE⟩ := hv
  subst hsz
  have hl := lv_entry av (n := maxL) hn
  rw [lg_entry_eq]
  refine body p e s m _ below meth c _ _ B.exec B.bytes B.returns (atoms_spec (ws := ws) B.pre) (findClass_of_methodNamed B.named) B.notSynchronized (name_of_methodNamed B.named B.method).1 hml rfl rfl (fun q h => Or.inr h) hD0.self _ rfl hP hK hZ hE va_S.rf hl _ rfl
section ZR
variable {p : Program} {l : Launch} {e : Env} {R : Room} {s : State} {m : MethodId} {args : Array Value} {below : List Frame} {meth : Method} {c : Code} {H : Heap} {locs : List Loc} {cells slots : Nat} {Q : State → Prop}
variable {cc : ByteArray} {pc : Nat} {ls : Array Slot} {rest : List Value} {D : va_G} {tys : List (ClassId × FieldType)} {ws : va_W} {A : Nat → Prop} {eZ : Nat}
theorem m_preVZ {wc : va_W} {b : Addr} {As : List Value} {C : String} (hE : mE eZ A s s.heap) (hS : va_S A s.heap H locs) (hA : ∀ q : Nat, s.heap.size ≤ q → A q) (hZ : mZ s) (hK : va_K D vwCl tys s) (hP : va_P D vwCl ws H) (hD : va_D A ws) (isC : List Nat) (hC : isC.map (fun i => ws[i]?) = wc.map some) (hn : va_nd isC = true) (hrecv : ∃ cell : Cell, H[b]? = some cell ∧ cell.vm.isStatics = false ∧ s.vm.findClass C = some cell.cls) : PreV s H C b (mPcZ D tys eZ (.ref b :: As) H.size wc) As := by
  have hPc : va_P D vwCl wc H := fun k q hk => by
    have h1 : (isC.map (fun i => ws[i]?))[k]? = some (some q) := by rw [hC, List.getElem?_map, hk]; rfl
    rw [List.getElem?_map] at h1
    cases hi : isC[k]? with
    | none => rw [hi] at h1; cases h1
    | some i => rw [hi] at h1; exact hP i q (Option.some.inj h1)
  have hF := va_free (wc := wc) hD hS hA isC hC
  exact ⟨mPcZ_blind, hrecv, fun U hU hW => ⟨rfl, ⟨by rw [hU], by rw [hU]; exact hPc, va_K.moved hW.alike hK, (hD.sub isC hn hC).weaken (fun _ _ _ _ => trivial), mZ.warm hW hZ⟩, by rw [hU]; exact hE.to hW hS.2.1 hF⟩⟩
theorem m_preSZ {wc : va_W} {As : List Value} (hE : mE eZ A s s.heap) (hS : va_S A s.heap H locs) (hA : ∀ q : Nat, s.heap.size ≤ q → A q) (hZ : mZ s) (hK : va_K D vwCl tys s) (hP : va_P D vwCl ws H) (hD : va_D A ws) (isC : List Nat) (hC : isC.map (fun i => ws[i]?) = wc.map some) (hn : va_nd isC = true) : PreS s H (mPcZ D tys eZ As H.size wc) As := by
  have hPc : va_P D vwCl wc H := fun k q hk => by
    have h1 : (isC.map (fun i => ws[i]?))[k]? = some (some q) := by rw [hC, List.getElem?_map, hk]; rfl
    rw [List.getElem?_map] at h1
    cases hi : isC[k]? with
    | none => rw [hi] at h1; cases h1
    | some i => rw [hi] at h1; exact hP i q (Option.some.inj h1)
  have hF := va_free (wc := wc) hD hS hA isC hC
  exact ⟨mPcZ_blind, fun U hU hW => ⟨rfl, ⟨by rw [hU], by rw [hU]; exact hPc, va_K.moved hW.alike hK, (hD.sub isC hn hC).weaken (fun _ _ _ _ => trivial), mZ.warm hW hZ⟩, by rw [hU]; exact hE.to hW hS.2.1 hF⟩⟩
theorem mi_getZ (hx : p.tables.exec = Jvm.exec) (hb : c.code = cc) (hE : mE eZ A s s.heap) (hS : va_S A s.heap H locs) {own : String} {index : Nat} (hown : s.vm.findClass own = some m.cls) (hlink : (Cond.fieldLink own index "java/util/ArrayList" "DEFAULTCAPACITY_EMPTY_ELEMENTDATA" "[Ljava/lang/Object;").before args s = true) (hd : decode cc pc = .ok (.getstatic index, 3)) (kk : W p l e R s m args below meth c H locs cells slots Q (F0 m (pc + 3) ls (.ref eZ :: rest))) : W p l e R s m args below meth c H locs cells slots Q (F0 m pc ls rest) :=
  va_gets hx hb hE.1 hS hown hlink (fun _ h => h) hd kk
theorem mi_lenZ (hx : p.tables.exec = Jvm.exec) (hb : c.code = cc) (hE : mE eZ A s s.heap) (hS : va_S A s.heap H locs) (hd : decode cc pc = .ok (.arraylength, 1)) (kk : W p l e R s m args below meth c H locs cells slots Q (F0 m (pc + 1) ls (.int (iI 0) :: rest))) : W p l e R s m args below meth c H locs cells slots Q (F0 m pc ls (.ref eZ :: rest)) :=
  va_tlen hx hb hE.2.1 hS (v := iI 0) (by decide) hd kk
theorem mi_acmpE (hx : p.tables.exec = Jvm.exec) (hb : c.code = cc) {x : Nat} {off : Int} {tgt : Nat} (hd : decode cc pc = .ok (.if_acmp .eq off, 3)) (ht : (pc : Int) + off = (tgt : Int)) (k : W p l e R s m args below meth c H locs cells slots Q (F0 m tgt ls rest)) : W p l e R s m args below meth c H locs cells slots Q (F0 m pc ls (.ref x :: .ref x :: rest)) :=
  lv_acmp_eq (rx := some x) (ry := some x) hx hb hd ht (fun _ => k) (fun q => absurd rfl q)
theorem mi_newq (hx : p.tables.exec = Jvm.exec) (hb : c.code = cc) (hE : mE eZ A s s.heap) {cI cO : ClassId} (hK : va_K D vwCl tys s) (ht : tys[1]? = some (cO, .object "java/lang/Object")) (hP : va_P D vwCl ws H) (hD : va_D A ws) (hS : va_S A s.heap H locs) (hA : ∀ q, s.heap.size ≤ q → A q)
    {own : String} {index : Nat} (hown : s.vm.findClass own = some m.cls) (hcl : (Cond.classLink own index "java/lang/Object").before args s = true) {n : Int} {N : Nat} (hn : iI n = Int32.ofNat N) (hN : N < 1000) (hcells : cells + 1 ≤ R.cells) (hslots : slots + N ≤ R.slots) (hd : decode cc pc = .ok (.anewarray index, 3))
    (kk : ∀ (q : Nat) (H1 : Heap), va_P D vwCl (ws ++ [(q, .inl (cO, N, .inr (.inr (.inr (.inr (fun _ => none))))))]) H1 → va_D A (ws ++ [(q, .inl (cO, N, .inr (.inr (.inr (.inr (fun _ => none))))))]) → va_S A s.heap H1 locs → W p l e R s m args below meth c H1 locs (cells + 1) (slots + N) Q (F0 m (pc + 3) ls (.ref q :: rest))) : W p l e R s m args below meth c H locs cells slots Q (F0 m pc ls (.int (iI n) :: rest)) := by
  rw [hn]
  have h1 : (Int32.ofNat N).toInt = N := Int32.toInt_ofNat_of_lt (by omega)
  refine va_newq (C := "java/lang/Object") (n := Int32.ofNat N) (N' := N) hx hb hown hcl hE.2.2.1 hK hP hD hS hA (by rw [Int32.lt_iff_toInt_lt, h1]; show ¬ (N : Int) < 0; omega) (by rw [Int32.toNatClampNeg, h1]; rfl) (by omega) hcells hslots hd (fun q cA H1 hK1 hP1 hD1 hS1 => ?_)
  have e1 := (hK.2 1 _ ht).2
  have e2 := (hK1.2 tys.length (cA, .object "java/lang/Object") (by rw [List.getElem?_append_right (Nat.le_refl _)]; simp)).2
  obtain ⟨_, _, _, _, _, f1⟩ := e1
  obtain ⟨_, _, _, _, _, f2⟩ := e2
  have e3 : cA = cO := Option.some.inj (Eq.trans (Eq.symm f2) f1)
  subst e3
  exact kk q H1 hP1 hD1 hS1
end ZR
