theorem adA_r (am : Int) (tt : fI) (pl t : Int) : (adA am tt pl t = am ∧ pl < am ∧ tt pl = t) ∨ (adA am tt pl t = am + 1 ∧ ¬ (pl < am ∧ tt pl = t)) := by
  unfold adA
  split
  · rename_i h; exact Or.inl ⟨rfl, h⟩
  · rename_i h; exact Or.inr ⟨rfl, h⟩
theorem adF_r {f : fI} {am : Int} {tt : fI} {pl t v lo hi : Int} (h : ∀ j, lo ≤ f j ∧ f j ≤ hi) (hv : lo ≤ v ∧ v ≤ hi) (j : Int) : lo ≤ adF f am tt pl t v j ∧ adF f am tt pl t v j ≤ hi := by
  unfold adF
  split
  · exact uI_r h hv j
  · exact uI_r (shK_r h) hv j
theorem ptAdd_ok {u : SrS} (h : SrOk u) {pl t v : Int} (ht : 0 ≤ t ∧ t ≤ 99999) (hv : -100000 ≤ v ∧ v ≤ 100000) (ho : uPa (ptAdd u pl t v) - uPs u ≤ 15) : SrOk (ptAdd u pl t v) := by
  obtain ⟨h1, h2, h3, h4, h5, h6, h7, h8, h9, h10⟩ := id h
  have hr := adA_r (uPa u) (uPt u) pl t
  have ho : adA (uPa u) (uPt u) pl t - uPs u ≤ 15 := ho
  refine ⟨h1, ?_, h3, h4, adF_r h5 ht, adF_r h6 hv, h7, h8, h9, h10⟩
  show 0 ≤ uPs u ∧ uPs u ≤ adA (uPa u) (uPt u) pl t ∧ adA (uPa u) (uPt u) pl t ≤ uPs u + 15 ∧ uPs u = sm (uPz u) (uPb u)
  omega
theorem sm_congr {f g : fI} : ∀ k : Nat, (∀ j, 0 ≤ j → j < k → f j = g j) → sm f k = sm g k
  | 0, _ => rfl
  | k + 1, h => by
    have ih := sm_congr (f := f) (g := g) k (fun j h0 h1 => h j h0 (by omega))
    rw [show ((k + 1 : Nat) : Int) = (k : Int) + 1 by omega, sm_s f (by omega), sm_s g (by omega), ih, h k (by omega) (by omega)]
theorem ptSeal_ok {u : SrS} (h : SrOk u) {pl t v : Int} (ht : 0 ≤ t ∧ t ≤ 99999) (hv : -100000 ≤ v ∧ v ≤ 100000) (ho : 1 ≤ uPa (ptAdd u pl t v) - uPs u) : SrO9 (ptSeal (ptAdd u pl t v)) := by
  obtain ⟨h1, h2, h3, h4, h5, h6, h7, h8, h9, h10⟩ := id h
  have hr := adA_r (uPa u) (uPt u) pl t
  have ho : 1 ≤ adA (uPa u) (uPt u) pl t - uPs u := ho
  have hs : sm (uI (uPz u) (uPb u) (adA (uPa u) (uPt u) pl t - uPs u)) (uPb u + 1) = adA (uPa u) (uPt u) pl t := by
    rw [sm_s _ h1.1, uI_s]
    have e := sm_congr (f := uI (uPz u) (uPb u) (adA (uPa u) (uPt u) pl t - uPs u)) (g := uPz u) (uPb u).toNat (fun j _ h => uI_n _ _ (by omega))
    rw [Int.toNat_of_nonneg h1.1] at e
    omega
  have h5' := adF_r (am := uPa u) (tt := uPt u) (pl := pl) (t := t) h5 ht
  refine ⟨?_, ?_, ?_, ?_, h5', adF_r h6 hv, h7, h8, h9, h10⟩
  · show 0 ≤ uPb u + 1 ∧ uPb u + 1 ≤ 9; omega
  · show 0 ≤ adA (uPa u) (uPt u) pl t ∧ adA (uPa u) (uPt u) pl t ≤ adA (uPa u) (uPt u) pl t ∧ adA (uPa u) (uPt u) pl t ≤ adA (uPa u) (uPt u) pl t + 15 ∧ adA (uPa u) (uPt u) pl t = sm (uI (uPz u) (uPb u) (adA (uPa u) (uPt u) pl t - uPs u)) (uPb u + 1)
    omega
  · show -1 ≤ adF (uPt u) (uPa u) (uPt u) pl t t (adA (uPa u) (uPt u) pl t - 1) ∧ adF (uPt u) (uPa u) (uPt u) pl t t (adA (uPa u) (uPt u) pl t - 1) ≤ 99999
    have := h5' (adA (uPa u) (uPt u) pl t - 1)
    omega
  · show ∀ b, 0 ≤ b → b < uPb u + 1 → 1 ≤ uI (uPz u) (uPb u) (adA (uPa u) (uPt u) pl t - uPs u) b ∧ uI (uPz u) (uPb u) (adA (uPa u) (uPt u) pl t - uPs u) b ≤ 16
    intro b b0 b1
    by_cases hb : b = uPb u
    · rw [hb, uI_s]; omega
    · rw [uI_n _ _ hb]; exact h4 b b0 (by omega)
theorem srTake_ok {wd fo span : Int} (hwf : 1 ≤ wd * fo) (hw : 1 ≤ wd) (hs : 1 ≤ span ∧ span ≤ 16) {u : SrS} (h : SrOk u) {pl t v : Int} (ht : 0 ≤ t ∧ t ≤ 99999) (hv : -100000 ≤ v ∧ v ≤ 100000) : SrOk (srTake wd fo span u pl t v) := by
  unfold srTake
  split
  · rename_i h1
    have h1 : span ≤ uPa (ptAdd u pl t v) - uPs u := h1
    have h9 := ptSeal_ok h (pl := pl) ht hv (by omega)
    split
    · rename_i h2
      exact rollBlk_ok hwf hw h9 (by omega)
    · rename_i h2
      exact h9.eight (by omega)
  · rename_i h1
    have h1 : ¬ span ≤ uPa (ptAdd u pl t v) - uPs u := h1
    exact ptAdd_ok h ht hv (by omega)
