/-! a new array of int: its class is the one that stands in the tables already -/
section NEW
variable {p : Program} {l : Launch} {e : Env} {R : Room} {s : State} {m : MethodId} {args : Array Value} {below : List Frame} {meth : Method} {c : Code} {H : Heap} {locs : List Loc} {cells slots : Nat} {Q : State → Prop}
variable {cc : ByteArray} {pc : Nat} {ls : Array Slot} {rest : List Value} {D : va_G} {tys : List (ClassId × FieldType)} {ws : va_W} {A : Nat → Prop} {H0 : Heap}
theorem mi_newa (hx : p.tables.exec = Jvm.exec) (hb : c.code = cc) (harr : (Cond.arrayClass .int).before args s = true) {cI : ClassId} (hK : va_K D vwCl tys s) (ht : tys[0]? = some (cI, .int)) (hP : va_P D vwCl ws H) (hD : va_D A ws) (hS : va_S A H0 H locs) (hA : ∀ q, H0.size ≤ q → A q)
    {n : Int} {N : Nat} (hn : iI n = Int32.ofNat N) (hN : N < 1000) (hcells : cells + 1 ≤ R.cells) (hslots : slots + N ≤ R.slots) (hd : decode cc pc = .ok (.newarray .int, 2))
    (kk : ∀ (q : Nat) (H1 : Heap), va_P D vwCl (ws ++ [(q, .inl (cI, N, .inl (aI fun _ => 0)))]) H1 → va_D A (ws ++ [(q, .inl (cI, N, .inl (aI fun _ => 0)))]) → va_S A H0 H1 locs → W p l e R s m args below meth c H1 locs (cells + 1) (slots + N) Q (F0 m (pc + 2) ls (.ref q :: rest))) : W p l e R s m args below meth c H locs cells slots Q (F0 m pc ls (.int (iI n) :: rest)) := by
  rw [hn]
  have h1 : (Int32.ofNat N).toInt = N := Int32.toInt_ofNat_of_lt (by omega)
  have h2 : ∀ cA : ClassId, vp_cell cA (N, .inl (aI fun _ => 0)) = arrV cA N (fun _ => defaultValue .int) := fun cA => by
    rw [vp_cell_i, show (aI fun _ => 0) = (fun _ => (0 : Int32)) from funext fun _ => (by decide : iI 0 = (0 : Int32))]
    rfl
  refine va_newa (atype := .int) (n := Int32.ofNat N) (ty := .int) (a0 := (N, .inl (aI fun _ => 0))) hx hb harr rfl hK hP hD hS hA (N' := N) h2 (by rw [Int32.lt_iff_toInt_lt, h1]; show ¬ (N : Int) < 0; omega) (by rw [Int32.toNatClampNeg, h1]; rfl) (by show N * 4 ≤ _; omega) hcells hslots hd (fun q cA H1 hK1 hP1 hD1 hS1 => ?_)
  have e1 := (hK.2 0 _ ht).2
  have e2 := (hK1.2 tys.length (cA, .int) (by rw [List.getElem?_append_right (Nat.le_refl _)]; simp)).2
  have e3 : cA = cI := Option.some.inj (Eq.trans (Eq.symm e2) e1)
  subst e3
  exact kk q H1 hP1 hD1 hS1
end NEW
