/-! a store and its invariant -/
def tkN (wd fo kp lk wh le ev ab li ti : Int) (x : StS) : Nat → StS
  | 0 => x
  | k + 1 => tkS wd fo kp lk wh le ev ab li ti (tkN wd fo kp lk wh le ev ab li ti x k)
def cpT (y x : StS) : StS := (cpSr (sU1 y) (sU1 x), cpSr (sU2 y) (sU2 x), (sSt x, sRow x), (sTo y, sFi y, sEc y), sNow x)
theorem Srt_eq {u v : SrS} (h : SEq u v) (hs : Srt v) : Srt u := by
  intro i j h0 hij hj
  have hn := h.n
  rw [itm_eq h h0 (by omega) ⟨Int.le_refl _, by decide⟩, itm_eq h (by omega) hj ⟨Int.le_refl _, by decide⟩]
  exact hs i j h0 hij (by omega)
/-- the rule's numbers and the events -/
def RuI (x : StS) : Prop := (0 ≤ sSt x ∧ sSt x ≤ 2) ∧ (0 ≤ sRow x ∧ sRow x ≤ 5) ∧ 0 ≤ sTo x
def StI (wd fo K : Int) (x : StS) : Prop := SrOk (sU1 x) ∧ SrOk (sU2 x) ∧ SInv wd fo (sNow x) K (sU1 x) ∧ SInv wd fo (sNow x) K (sU2 x) ∧ RuI x ∧ sTo x ≤ sNow x ∧ 0 ≤ sNow x
theorem tkR_r {wh le ev ab li ti st row n : Int} {u : SrS} (hti : 1 ≤ ti ∧ ti ≤ 5) (hst : 0 ≤ st ∧ st ≤ 2) (hrow : 0 ≤ row ∧ row ≤ 5) : (0 ≤ (tkR wh le ev ab li ti st row n u).1 ∧ (tkR wh le ev ab li ti st row n u).1 ≤ 2) ∧ (0 ≤ (tkR wh le ev ab li ti st row n u).2.1 ∧ (tkR wh le ev ab li ti st row n u).2.1 ≤ 5) := by
  unfold tkR ruF
  split
  · exact ⟨(cbF_r _ _ _ _ _ _).2, cbF_row (by omega) hti.2⟩
  · exact ⟨hst, hrow⟩
theorem lgE_to (z : Int × Int × fI) (n s e : Int) : (lgE z n s e).1 = z.1 + (if e = 1 then 1 else 0) := by
  unfold lgE
  split
  · rfl
  · omega
theorem RuI_tk {wd fo kp lk wh le ev ab li ti : Int} (hti : 1 ≤ ti ∧ ti ≤ 5) {x : StS} (h : RuI x) : RuI (tkS wd fo kp lk wh le ev ab li ti x) ∧ sTo (tkS wd fo kp lk wh le ev ab li ti x) ≤ sTo x + 1 := by
  obtain ⟨h1, h2, h3⟩ := h
  have h4 := tkR_r (wh := wh) (le := le) (ev := ev) (ab := ab) (li := li) (n := sNow x + 1) (u := rollS wd fo kp lk (sNow x + 1) (sU1 x)) hti h1 h2
  have h5 : sTo (tkS wd fo kp lk wh le ev ab li ti x) = sTo x + (if (tkR wh le ev ab li ti (sSt x) (sRow x) (sNow x + 1) (rollS wd fo kp lk (sNow x + 1) (sU1 x))).2.2 = 1 then 1 else 0) := lgE_to _ _ _ _
  refine ⟨⟨h4.1, h4.2, ?_⟩, ?_⟩ <;> (rw [h5]; split <;> omega)
theorem tkS_inv {wd fo kp lk wh le ev ab li ti K : Int} (hwf : 1 ≤ wd * fo) (hw : 1 ≤ wd) (hti : 1 ≤ ti ∧ ti ≤ 5) (hK : K ≤ 20000) {x : StS} (h : StI wd fo K x) : StI wd fo K (tkS wd fo kp lk wh le ev ab li ti x) := by
  obtain ⟨h1, h2, h3, h4, h5, h6, h7⟩ := h
  have h8 := RuI_tk (wd := wd) (fo := fo) (kp := kp) (lk := lk) (wh := wh) (le := le) (ev := ev) (ab := ab) (li := li) hti h5
  refine ⟨rollS_ok hwf hw h1, rollS_ok hwf hw h2, (rollS_inv hwf hw h1 hK h3).mono ?_ (Int.le_refl _), (rollS_inv hwf hw h2 hK h4).mono ?_ (Int.le_refl _), h8.1, ?_, ?_⟩
  · show sNow x ≤ sNow x + 1; omega
  · show sNow x ≤ sNow x + 1; omega
  · show _ ≤ sNow x + 1; omega
  · show 0 ≤ sNow x + 1; omega
theorem tkN_inv {wd fo kp lk wh le ev ab li ti K : Int} (hwf : 1 ≤ wd * fo) (hw : 1 ≤ wd) (hti : 1 ≤ ti ∧ ti ≤ 5) (hK : K ≤ 20000) {x : StS} (h : StI wd fo K x) : ∀ k : Nat, StI wd fo K (tkN wd fo kp lk wh le ev ab li ti x k) ∧ sNow (tkN wd fo kp lk wh le ev ab li ti x k) = sNow x + k
  | 0 => ⟨h, by show sNow x = sNow x + ((0 : Nat) : Int); omega⟩
  | k + 1 => by
    obtain ⟨a, b⟩ := tkN_inv (kp := kp) (lk := lk) (wh := wh) (le := le) (ev := ev) (ab := ab) (li := li) hwf hw hti hK h k
    refine ⟨tkS_inv hwf hw hti hK a, ?_⟩
    show sNow (tkN wd fo kp lk wh le ev ab li ti x k) + 1 = _
    omega
