/-! the law's own walk: what stands beside it -/
def zx (xs : Nat → Int32) (k : Nat) : Int := (xs k).toInt
theorem zx_r (xs : Nat → Int32) (k : Nat) : rI (zx xs k) := ⟨by have := Int32.le_toInt (xs k); unfold zx; omega, by have := Int32.toInt_lt (xs k); unfold zx; omega⟩
def LawC (p : Program) (l : Launch) (s : State) (m : MethodId) (args : Array Value) (c : Code) (A : Nat → Prop) (dC : Nat → ClassId) (dI : Nat → Nat → Nat) (cI cO cJ : ClassId) (b L : Nat) (xs : Nat → Int32) (eZ : Nat × Nat) : Prop :=
  p.tables.exec = Jvm.exec ∧ c.code = cL_law ∧ c.maxLocals = 9 ∧ (∀ w ∈ gw (.arrayClass .int), w.before args s = true) ∧ s.vm.findClass RL = some m.cls ∧ va_K (dC, dI) vwCl [(cI, .int), (cO, .object "java/lang/Object"), (cJ, .long)] s ∧ mZ s ∧ mE eZ A s s.heap ∧ (∀ q : Nat, s.heap.size ≤ q → A q) ∧ va_X b L xs s s.heap ∧ b < s.heap.size ∧ ¬ A b ∧ l.stackTraces = false
theorem lg_same (x : Int64) : lg_cmp x x = iI 0 := by
  unfold lg_cmp
  rw [if_neg (show ¬ x > x from fun q => absurd (Int64.lt_iff_toInt_lt.mp q) (Int.lt_irrefl _)), if_pos rfl]
  rfl
section LS
variable {p : Program} {l : Launch} {e : Env} {R : Room} {s : State} {m : MethodId} {args : Array Value} {below : List Frame} {meth : Method} {c : Code} {H : Heap} {locs : List Loc} {cells slots : Nat} {Q : State → Prop}
variable {cc : ByteArray} {pc : Nat} {ls : Array Slot} {rest : List Value} {A : Nat → Prop}
theorem mi_lsame (hx : p.tables.exec = Jvm.exec) (hb : c.code = cc) {a : Int} (hd : decode cc pc = .ok (.lcmp, 1)) (k : W p l e R s m args below meth c H locs cells slots Q (F0 m (pc + 1) ls (.int (iI 0) :: rest))) : W p l e R s m args below meth c H locs cells slots Q (F0 m pc ls (.long (jI a) :: .long (jI a) :: rest)) := W.lcmp hx hb hd (by rw [lg_same]; exact k)
/-- a cell of the script -/
theorem mi_sld (hx : p.tables.exec = Jvm.exec) (hb : c.code = cc) {b : Nat} {xs : Nat → Int32} (hX : va_X b 8 xs s s.heap) (hbl : b < s.heap.size) (hbA : ¬ A b) (hS : va_S A s.heap H locs) {i : Int} {k : Nat} (hi : i = k) (hk : k < 8) (hd : decode cc pc = .ok (.iaload, 1))
    (kk : W p l e R s m args below meth c H locs cells slots Q (F0 m (pc + 1) ls (.int (iI (zx xs k)) :: rest))) : W p l e R s m args below meth c H locs cells slots Q (F0 m pc ls (.int (iI i) :: .ref b :: rest)) := by
  subst hi
  refine va_sld hx hb hX hbl hbA hS (iI_in (i := (k : Int)) ⟨by omega, by omega⟩ (by decide)) hd ?_
  rw [iI_cl (by omega) (by omega), Int.toNat_natCast, show xs k = iI (zx xs k) from (Int32.ofInt_toInt _).symm]
  exact kk
theorem mi_newl (hx : p.tables.exec = Jvm.exec) (hb : c.code = cc) {D : va_G} {tys : List (ClassId × FieldType)} {ws : va_W} (harr : (Cond.arrayClass .long).before args s = true) {cJ : ClassId} (hK : va_K D vwCl tys s) (ht : tys[2]? = some (cJ, .long)) (hP : va_P D vwCl ws H) (hD : va_D A ws) (hS : va_S A s.heap H locs) (hA : ∀ q, s.heap.size ≤ q → A q)
    (hcells : cells + 1 ≤ R.cells) (hslots : slots + 1 ≤ R.slots) (hd : decode cc pc = .ok (.newarray .long, 2))
    (kk : ∀ (q : Nat) (H1 : Heap), va_P D vwCl (ws ++ [(q, .inl (cJ, 1, .inr (.inl (lI 0))))]) H1 → va_D A (ws ++ [(q, .inl (cJ, 1, .inr (.inl (lI 0))))]) → va_S A s.heap H1 locs → W p l e R s m args below meth c H1 locs (cells + 1) (slots + 1) Q (F0 m (pc + 2) ls (.ref q :: rest))) : W p l e R s m args below meth c H locs cells slots Q (F0 m pc ls (.int (iI 1) :: rest)) := by
  have h2 : ∀ cA : ClassId, vp_cell cA (1, .inr (.inl (lI 0))) = arrV cA 1 (fun _ => defaultValue .long) := fun cA => by
    rw [vp_cell_l, show lI 0 = (fun _ => (0 : Int64)) from funext fun j => by
      unfold lI
      by_cases h : j = 0
      · rw [if_pos h]; decide
      · rw [if_neg h]; decide]
    rfl
  refine va_newa (atype := .long) (n := iI 1) (ty := .long) (a0 := (1, .inr (.inl (lI 0)))) hx hb harr rfl hK hP hD hS hA (N' := 1) h2 (by decide) (by decide) (by decide) hcells hslots hd (fun q cA H1 hK1 hP1 hD1 hS1 => ?_)
  have e1 := (hK.2 2 _ ht).2
  have e2 := (hK1.2 tys.length (cA, .long) (by rw [List.getElem?_append_right (Nat.le_refl _)]; simp)).2
  have e3 : cA = cJ := Option.some.inj (Eq.trans (Eq.symm e2) e1)
  subst e3
  exact kk q H1 hP1 hD1 hS1
theorem ofN8 (L : Nat) (h : L ≤ 8) : Int32.ofNat L = iI (L : Int) := by
  have h1 : (Int32.ofNat L).toInt = L := Int32.toInt_ofNat_of_lt (by omega)
  rw [← Int32.toInt_inj, h1, iI_toInt (by omega)]
end LS
def lwW (cJ : ClassId) (m0 : Nat) (g : Nat) (h : Nat) (ht : Nat) (pq : Nat) (cl : Nat) (rl : Nat) (lg : Nat) (clt : Nat) (rlt : Nat) (lgt : Nat) (qe : Nat) (qet : Nat) (mm : Nat) (st : Nat) (sl : Nat) (ul : Nat) (vl : Nat) (qo : Nat) (eZ : Nat × Nat) : va_W := [(m0, .inr (11, [.ref g, .ref h, .ref ht, .ref pq, .int (iI 0), .int (iI 10), .int (iI 1), .int (iI 0), .int (iI 0)])), (g, .inr (9, [.int (iI 8), .int (iI 10), .int (iI 6), .int (iI 0), .int (iI 0)])), (h, .inr (10, [.ref g, .ref cl, .ref rl, .ref lg, .int (iI 0)])), (cl, .inr (2, [.int (iI 0), .ref eZ.1, .int (iI 0)])), (rl, .inr (2, [.int (iI 0), .ref eZ.1, .int (iI 0)])), (lg, .inr (4, [.ref qe, .int (iI 0), .int (iI 0)])), (ht, .inr (10, [.ref g, .ref clt, .ref rlt, .ref lgt, .int (iI 0)])), (clt, .inr (2, [.int (iI 0), .ref eZ.1, .int (iI 0)])), (rlt, .inr (2, [.int (iI 0), .ref eZ.1, .int (iI 0)])), (lgt, .inr (4, [.ref qet, .int (iI 0), .int (iI 0)])), (mm, .inr (17, [.int (iI 0), .int (iI 0), .int (iI 0), .int (iI 10), .int (iI 1), .int (iI 0), .ref st])), (st, .inr (16, [.ref sl, .ref ul, .ref vl, .int (iI 0), .int (iI 8), .int (iI 10), .int (iI 6), .int (iI 0), .int (iI 0)])), (sl, .inr (2, [.int (iI 0), .ref eZ.1, .int (iI 0)])), (ul, .inr (2, [.int (iI 0), .ref eZ.1, .int (iI 0)])), (vl, .inr (2, [.int (iI 0), .ref eZ.1, .int (iI 0)])), (qo, .inl (cJ, 1, .inr (.inl (lI 0))))]
