/-! the law's small methods: below, cell; their calls -/
/-- a number without its sign -/
def aF (v : Int) : Int := (iI v &&& iI 2147483647).toInt
theorem aF_and (v : Int) : iI v &&& iI 2147483647 = iI (aF v) := (Int32.ofInt_toInt _).symm
theorem aF_r (v : Int) : 0 ≤ aF v ∧ aF v ≤ 2147483647 := by
  have h2 := Int32.toInt_lt (iI v &&& iI 2147483647)
  have h1 : (iI v &&& iI 2147483647).toBitVec.msb = false := by
    rw [Int32.toBitVec_and, BitVec.msb_and, show (iI 2147483647).toBitVec.msb = false by decide, Bool.and_false]
  have h3 : aF v = ((iI v &&& iI 2147483647).toBitVec.toNat : Int) := BitVec.toInt_eq_toNat_of_msb h1
  have h4 : aF v = (iI v &&& iI 2147483647).toInt := rfl
  constructor <;> omega
/-- what below answers -/
def bl (v n : Int) : Int := Int.tmod (aF v) n
theorem bl_r (v : Int) {n : Int} (h : 1 ≤ n) : 0 ≤ bl v n ∧ bl v n < n := by
  unfold bl
  rw [Int.tmod_eq_emod_of_nonneg (aF_r v).1]
  exact ⟨Int.emod_nonneg _ (by omega), Int.emod_lt_of_pos _ (by omega)⟩
set_option maxRecDepth 100000 in
theorem c_L_below (l : Launch) (dC : Nat → ClassId) (dI : Nat → Nat → Nat) (cI cO : ClassId) (v : Int) (n : Int) (sz : Nat) (hn : 1 ≤ n ∧ n ≤ 1000) : Met l yL_below wsL_below ({ frames := 0, cells := 0, slots := 0, locals := 0 }) (mPc (dC, dI) [(cI, .int), (cO, .object "java/lang/Object")] [.int (iI v), .int (iI n)] sz []) (mQi (dC, dI) [] [] sz (bl v n)) 0 0 (va_A [] sz) := by
  refine mMet (cc := cL_below) (maxL := 2) (ret := some .int) (by decide) rfl (Nat.le_of_ble_eq_true rfl) ?_
  intro p e s m args below meth c A ls hx hb hr hts hown hlocks hin hml hAe hsz hA hD H hHe hP hK hZ hS hl Q hQ
  have hl : lv_has ls 2 [(0, .int (iI v)), (1, .int (iI n))] := hl
  have hk7 := hts (.constant RL 7 (2147483647)) (by decide +kernel)
  have hr9 := aF_r v
  refine lv_iload_n hx hb dL_below_0 rfl (lv_at hl 0 rfl) ?_
  refine lv_ldc (v := iI 2147483647) hx hb hown (by rw [show iI 2147483647 = (2147483647 : Int32) by decide]; exact hk7) dL_below_1 ?_
  refine lv_iand hx hb dL_below_3 ?_
  rw [aF_and]
  refine lv_iload_n hx hb dL_below_4 rfl (lv_at hl 1 rfl) ?_
  refine mi_irem hx hb (by omega) (by omega) (by omega) dL_below_5 ?_
  exact mi_iret hx hb hQ hr hlocks hAe hsz hP hD hS rfl rfl dL_below_6
/-- a cell of the script: some number, nothing written -/
def cPc (b L : Nat) (xs : Nat → Int32) (k : Int) (sz : Nat) : Array Value → State → Prop := va_Pc [.ref b, .int (iI k)] (fun U => U.heap.size = sz ∧ va_X b L xs U U.heap ∧ b < U.heap.size)
def cQc (sz : Nat) : Array Value → State → Outcome → State → Prop := va_Qi (fun (_ : Int32) (_ : Unit) => True) (fun _ _ => True) (va_A [] sz)
theorem cPc_blind {b L : Nat} {xs : Nat → Int32} {k : Int} {sz : Nat} : FrameBlind (cPc b L xs k sz) := fun a U g mk q => by
  obtain ⟨q0, q1, qX, q2⟩ := q
  exact ⟨q0, q1, va_X.moved (u := U) (U := U.calling g mk a) (Vm.Alike.refl U.vm) qX, q2⟩
theorem ofN (L : Nat) (h : L ≤ 260) : Int32.ofNat L = iI (L : Int) := by
  have h1 : (Int32.ofNat L).toInt = L := Int32.toInt_ofNat_of_lt (by omega)
  rw [← Int32.toInt_inj, h1, iI_toInt (by omega)]
theorem cell_body {p : Program} {l : Launch} {e : Env} {R : Room} {s : State} {m : MethodId} {args : Array Value} {below : List Frame} {meth : Method} {c : Code} {ls : Array Slot} {b L : Nat} {xs : Nat → Int32} {k : Int} (hx : p.tables.exec = Jvm.exec) (hb : c.code = cL_cell) (hts : ∀ w ∈ wsL_cell, w.before args s = true) (hown : s.vm.findClass RL = some m.cls) (hr : meth.sig.returnType = some .int) (hlocks : meth.locks = false) (hX : va_X b L xs s s.heap) (hbl : b < s.heap.size) (hL : L ≤ 260) (hk : 0 ≤ k ∧ k ≤ 1000) (hl : lv_has ls 2 [(0, .ref b), (1, .int (iI k))]) : W p l e R s m args below meth c s.heap [] 0 0 (MQ below (cQc s.heap.size) args s 0 0 (va_A [] s.heap.size)) (F0 m 0 ls []) := by
  have hS : va_S (va_A [] s.heap.size) s.heap s.heap [] := va_S.rf
  have hbA : ¬ va_A [] s.heap.size b := fun q => by
    rcases q with ⟨k, e, q⟩ | q
    · cases k <;> cases q
    · omega
  have hend : ∀ (r : Int32) (ls : Array Slot), W p l e R s m args below meth c s.heap [] 0 0 (MQ below (cQc s.heap.size) args s 0 0 (va_A [] s.heap.size)) (F0 m 18 ls [.int r]) := fun r ls =>
    W.iret hx hb hr (fun t ht hW => ⟨⟨r, (), rfl, trivial, trivial⟩, hS.F ht⟩) hS.2.2 dL_cell_18 hlocks
  have hk8 := hts (.constant RL 8 (790386105)) (by decide +kernel)
  refine lv_iload_n hx hb dL_cell_0 rfl (lv_at hl 1 rfl) ?_
  refine lv_aload_n hx hb dL_cell_1 rfl (lv_at hl 0 rfl) ?_
  refine va_slen hx hb hX hbl hbA hS dL_cell_2 ?_
  rw [ofN L hL]
  refine mi_icmp_ge (tgt := 12) hx hb (by omega) (by omega) dL_cell_3 (by decide) (fun h1 => ?_) (fun h1 => ?_)
  · refine lv_ldc (v := iI 790386105) hx hb hown (by rw [show iI 790386105 = (790386105 : Int32) by decide]; exact hk8) dL_cell_12 ?_
    refine lv_iload_n hx hb dL_cell_14 rfl (lv_at hl 1 rfl) ?_
    refine mi_iconst hx hb dL_cell_15 ?_
    refine mi_iadd hx hb dL_cell_16 ?_
    refine mi_imul hx hb dL_cell_17 ?_
    exact hend _ _
  · refine lv_aload_n hx hb dL_cell_6 rfl (lv_at hl 0 rfl) ?_
    refine lv_iload_n hx hb dL_cell_7 rfl (lv_at hl 1 rfl) ?_
    refine va_sld hx hb hX hbl hbA hS (iI_in ⟨hk.1, by omega⟩ (by omega)) dL_cell_8 ?_
    refine lv_goto (tgt := 18) hx hb dL_cell_9 (by decide) ?_
    exact hend _ _
theorem c_L_cell (l : Launch) (b L : Nat) (xs : Nat → Int32) (k : Int) (sz : Nat) (hL : L ≤ 260) (hk : 0 ≤ k ∧ k ≤ 1000) : Met l yL_cell wsL_cell ({ frames := 0, cells := 0, slots := 0, locals := 0 }) (cPc b L xs k sz) (cQc sz) 0 0 (va_A [] sz) := by
  refine Met.ofW (cc := cL_cell) (maxL := 2) (ret := some .int) (by decide) rfl ?_
  intro p e s m args below meth c s₁ B hml hv
  obtain ⟨rfl, hsz, hX, hbl⟩ := hv
  subst hsz
  have hl := lv_entry [.ref b, .int (iI k)] (n := 2) (Nat.le_of_ble_eq_true rfl)
  rw [lg_entry_eq]
  exact cell_body B.exec B.bytes (atoms_spec (ws := wsL_cell) B.pre) (findClass_of_methodNamed B.named) B.returns B.notSynchronized hX hbl hL hk hl
section LC
variable {p : Program} {l : Launch} {e : Env} {R : Room} {s : State} {m : MethodId} {args : Array Value} {below : List Frame} {meth : Method} {c : Code} {H : Heap} {locs : List Loc} {cells slots : Nat} {Q : State → Prop}
variable {cc : ByteArray} {pc : Nat} {ls : Array Slot} {rest : List Value} {D : va_G} {ws : va_W} {A : Nat → Prop} {Ts : List Cond} {nL : Nat}
/-- the law reads a cell of its script -/
theorem mi_cell (S : CallFix p m c cc nL s args Ts RL) {b L : Nat} {xs : Nat → Int32} (hX : va_X b L xs s s.heap) (hbl : b < s.heap.size) (hbA : ¬ A b) (hL : L ≤ 260) {k : Int} (hk : 0 ≤ k ∧ k ≤ 1000) (hG : GoodIn Ts (va_wsS RL 42 yL_cell wsL_cell)) (hP : va_P D vwCl ws H) (hS : va_S A s.heap H locs) (hA : ∀ q : Nat, s.heap.size ≤ q → A q) (hsz : ls.size = nL) (hcat : (rest.map fun v => v.category).sum ≤ 8) (hR : 0 + 1 ≤ R.frames ∧ 8 + (2 + 11) + 0 ≤ R.locals) (hf : cells + 0 ≤ R.cells ∧ slots + 0 ≤ R.slots) (hd : decode cc pc = .ok (.invokestatic 42, 3))
    (kk : ∀ (z : Int) (H1 : Heap) (locs1 : List Loc), va_P D vwCl ws H1 → va_S A s.heap H1 locs1 → W p l e R s m args below meth c H1 locs1 cells slots Q (F0 m (pc + 3) ls (.int (iI z) :: rest))) : W p l e R s m args below meth c H locs cells slots Q (F0 m pc ls (.int (iI k) :: .ref b :: rest)) := by
  have hb1 : H[b]? = s.heap[b]? := hS.2.1 b hbl hbA
  have hbH : b < H.size := Nat.lt_of_lt_of_le hbl hS.1
  have hp : PreS s H (cPc b L xs k H.size) [.ref b, .int (iI k)] := ⟨cPc_blind, fun U hU hW => ⟨rfl, by rw [hU], by rw [hU]; exact (hX.kept hb1).moved hW.alike, by rw [hU]; exact hbH⟩⟩
  have hF : ∀ q, va_A [] H.size q → A q := fun q h => by
    rcases h with ⟨k, e, h⟩ | h
    · cases k <;> cases h
    · exact hA q (Nat.le_trans hS.1 h)
  refine va_calli (va_runS (As := [.ref b, .int (iI k)]) (rest := rest) S (c_L_cell l b L xs k H.size hL hk) (va_cwS 2 S.2.2.2.2 hG rfl rfl rfl (by decide +kernel) hR) hp rfl rfl hsz rfl (lv_room hcat) hd hf) hS (fun q _ h => hF q h) hF (fun r u t H1 locs1 ht hvm hw hB1 hz1 hk1 hS1 => ?_)
  have hP1 : va_P D vwCl ws H1 := hP.kept (fun k q h => hk1 q.1 (hP k q h).lt (fun g => by
    rcases g with ⟨k, e, g⟩ | g
    · cases k <;> cases g
    · have := (hP k q h).lt; omega))
  have h9 := kk r.toInt H1 locs1 hP1 hS1
  rw [show iI r.toInt = r from Int32.ofInt_toInt r] at h9
  exact h9
end LC
