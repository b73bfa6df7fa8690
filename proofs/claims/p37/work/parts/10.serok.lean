theorem stF_rI {t w : Int} (h : rI t) (hw : 1 ≤ w) : rI (stF t w) := by
  by_cases h0 : 0 ≤ t
  · have h1 := stF_r (t := t) (w := w) (by omega) hw
    omega
  · have h1 := stF_r (t := -t) (w := w)
    have h2 : stF (-t) w = -(stF t w) := by
      unfold stF
      rw [Int.neg_tmod]
      omega
    unfold stF at h1 h2 ⊢
    rw [Int.neg_tmod] at h1 h2
    have h3 : 0 ≤ -t := by omega
    have h4 := Int.tmod_eq_emod_of_nonneg (b := w) h3
    rw [Int.neg_tmod] at h4
    have h5 := Int.emod_nonneg (-t) (show w ≠ 0 by omega)
    have h6 := Int.emod_add_mul_ediv (-t) w
    have h7 := Int.mul_nonneg (show 0 ≤ w by omega) (Int.ediv_nonneg h3 (show 0 ≤ w by omega))
    omega
theorem rollFine_ok {wd fo : Int} (hwf : 1 ≤ wd * fo) {x : FC} (h1 : 1 ≤ x.1.1) (h2 : x.1.1 ≤ 25) (h3 : ∀ j, rI (x.1.2 j)) (h4 : bOk x.2) : bOk (rollFine wd fo x).1 ∧ bOk (rollFine wd fo x).2 := by
  refine ⟨bDrop_ok h1 h2 h3, ?_⟩
  obtain ⟨a1, a2, a3, a4⟩ := bTake_ok (st := stF (x.1.2 (0 * 7 + 0)) (wd * fo)) (src := srB x.1.2 0) h4 (fun w => h3 _) (stF_rI (h3 _) hwf)
  have h5 := h4.2.1
  exact bFull_ok a1 (by omega) a4
theorem fTake_ok {wd fo : Int} (hwf : 1 ≤ wd * fo) (hw : 1 ≤ wd) {tt vv : fI} {i : Int} (ht : rI (tt i)) (hv : rI (vv i)) {x : FC} (h1 : bOk x.1) (h2 : bOk x.2) : bOk (fTake wd fo tt vv i x).1 ∧ bOk (fTake wd fo tt vv i x).2 := by
  obtain ⟨a1, a2, a3, a4⟩ := bTake_ok (st := stF (tt i) wd) (src := srP (vv i)) h1 (srP_r hv) (stF_rI ht hw)
  have h3 := h1.2.1
  unfold fTake
  split
  · exact rollFine_ok hwf (x := (bTake x.1 (stF (tt i) wd) (srP (vv i)), x.2)) a1 (by show (bTake x.1 (stF (tt i) wd) (srP (vv i))).1 ≤ 25; omega) a4 h2
  · exact ⟨⟨by show 0 ≤ (bTake x.1 (stF (tt i) wd) (srP (vv i))).1; omega, by show (bTake x.1 (stF (tt i) wd) (srP (vv i))).1 ≤ 24; omega, a4⟩, h2⟩
theorem blkN_ok {wd fo : Int} (hwf : 1 ≤ wd * fo) (hw : 1 ≤ wd) {tt vv : fI} (ht : ∀ j, rI (tt j)) (hv : ∀ j, rI (vv j)) {x : FC} (h1 : bOk x.1) (h2 : bOk x.2) : ∀ n, bOk (blkN wd fo tt vv x n).1 ∧ bOk (blkN wd fo tt vv x n).2
  | 0 => ⟨h1, h2⟩
  | n + 1 => fTake_ok hwf hw (ht _) (hv _) (blkN_ok hwf hw ht hv h1 h2 n).1 (blkN_ok hwf hw ht hv h1 h2 n).2
/-- safe, with nine sealed blocks at the most -/
def SrO9 (u : SrS) : Prop := (0 ≤ uPb u ∧ uPb u ≤ 9) ∧ (0 ≤ uPs u ∧ uPs u ≤ uPa u ∧ uPa u ≤ uPs u + 15 ∧ uPs u = sm (uPz u) (uPb u)) ∧ (-1 ≤ uPg u ∧ uPg u ≤ 99999) ∧ (∀ b, 0 ≤ b → b < uPb u → 1 ≤ uPz u b ∧ uPz u b ≤ 16) ∧ (∀ j, 0 ≤ uPt u j ∧ uPt u j ≤ 99999) ∧ (∀ j, -100000 ≤ uPv u j ∧ uPv u j ≤ 100000) ∧ (0 ≤ uFa u ∧ uFa u ≤ 24) ∧ (0 ≤ uKa u ∧ uKa u ≤ 24) ∧ (∀ j, rI (uFf u j)) ∧ ∀ j, rI (uKf u j)
theorem SrOk.nine {u : SrS} (h : SrOk u) : SrO9 u := ⟨⟨h.1.1, by have := h.1.2; omega⟩, h.2⟩
theorem SrO9.eight {u : SrS} (h : SrO9 u) (h8 : uPb u ≤ 8) : SrOk u := ⟨⟨h.1.1, h8⟩, h.2⟩
theorem SrO9.am {u : SrS} (h : SrO9 u) : 0 ≤ uPa u ∧ uPa u ≤ 159 := by
  obtain ⟨h1, h2, -, h4, -⟩ := h
  have h3 := sm_leI h4 h1.1 (Int.le_refl _)
  omega
theorem SrO9.sz {u : SrS} (h : SrO9 u) : ∀ b, 0 ≤ b → b < uPb u → 1 ≤ sm (uPz u) (b + 1) ∧ sm (uPz u) (b + 1) ≤ 160 := by
  intro b h0 hb
  obtain ⟨h1, h2, -, h4, -⟩ := h
  have h3 := sm_leI h4 (b := b + 1) (by omega) (by omega)
  omega
theorem sm_mono {z : fI} {n : Int} (h : ∀ b, 0 ≤ b → b < n → 1 ≤ z b ∧ z b ≤ 16) {a : Int} (h0 : 0 ≤ a) : ∀ k : Nat, a + k ≤ n → sm z a ≤ sm z (a + k)
  | 0, _ => by rw [show a + ((0 : Nat) : Int) = a by omega]; omega
  | k + 1, hk => by
    have ih := sm_mono h h0 k (by omega)
    have h1 := h (a + k) (by omega) (by omega)
    rw [show a + ((k + 1 : Nat) : Int) = a + k + 1 by omega, sm_s z (by omega)]
    omega
/-- the first block isn't larger than all that is sealed -/
theorem SrO9.z0 {u : SrS} (h : SrO9 u) (hb : 1 ≤ uPb u) : 1 ≤ uPz u 0 ∧ uPz u 0 ≤ 16 ∧ uPz u 0 ≤ uPs u := by
  obtain ⟨h1, h2, -, h4, -⟩ := h
  have h3 := h4 0 (by omega) (by omega)
  have h5 := sm_mono h4 (a := 1) (by omega) (uPb u - 1).toNat (by omega)
  rw [show 1 + (((uPb u - 1).toNat : Nat) : Int) = uPb u by omega] at h5
  have h6 := sm_s (uPz u) (i := 0) (by omega)
  rw [sm_0, show (0 : Int) + 1 = 1 from rfl] at h6
  omega
theorem sm_dr (z : fI) (n : Int) : ∀ k : Nat, (k : Int) ≤ n - 1 → sm (drK z 1 n) k = sm z (k + 1) - z 0
  | 0, _ => by
    have h6 := sm_s z (i := 0) (by omega)
    rw [sm_0] at h6
    rw [show ((0 : Nat) : Int) = 0 from rfl, sm_0]
    omega
  | k + 1, hk => by
    have ih := sm_dr z n k (by omega)
    have h1 : drK z 1 n k = z (k + 1) := by unfold drK; rw [if_pos (by omega)]
    rw [show ((k + 1 : Nat) : Int) = (k : Int) + 1 by omega, sm_s (drK z 1 n) (by omega), sm_s z (i := (k : Int) + 1) (by omega), ih, h1]
    omega
theorem rollBlk_ok {wd fo : Int} (hwf : 1 ≤ wd * fo) (hw : 1 ≤ wd) {u : SrS} (h : SrO9 u) (hb : 1 ≤ uPb u) : SrOk (rollBlk wd fo u) := by
  have hz := h.z0 hb
  obtain ⟨h1, h2, h3, h4, h5, h6, h7, h8, h9, h10⟩ := id h
  have hc := blkN_ok hwf hw (tt := uPt u) (vv := uPv u) (x := u.2) (fun j => by have := h5 j; omega) (fun j => by have := h6 j; omega) ⟨h7.1, h7.2, h9⟩ ⟨h8.1, h8.2, h10⟩ (uPz u 0).toNat
  refine ⟨?_, ?_, h3, ?_, ?_, ?_, ⟨hc.1.1, hc.1.2.1⟩, ⟨hc.2.1, hc.2.2.1⟩, hc.1.2.2, hc.2.2.2⟩
  · show 0 ≤ uPb u - 1 ∧ uPb u - 1 ≤ 8; omega
  · show 0 ≤ uPs u - uPz u 0 ∧ uPs u - uPz u 0 ≤ uPa u - uPz u 0 ∧ uPa u - uPz u 0 ≤ uPs u - uPz u 0 + 15 ∧ uPs u - uPz u 0 = sm (drK (uPz u) 1 (uPb u)) (uPb u - 1)
    have hs := sm_dr (uPz u) (uPb u) (uPb u - 1).toNat (by omega)
    rw [show (((uPb u - 1).toNat : Nat) : Int) = uPb u - 1 by omega, show uPb u - 1 + 1 = uPb u by omega] at hs
    omega
  · show ∀ b, 0 ≤ b → b < uPb u - 1 → 1 ≤ drK (uPz u) 1 (uPb u) b ∧ drK (uPz u) 1 (uPb u) b ≤ 16
    intro b b0 b1
    have e : drK (uPz u) 1 (uPb u) b = uPz u (b + 1) := by unfold drK; rw [if_pos (by omega)]
    rw [e]
    exact h4 (b + 1) (by omega) (by omega)
  · exact drK_r h5
  · exact drK_r h6
theorem rbN_ok {wd fo : Int} (hwf : 1 ≤ wd * fo) (hw : 1 ≤ wd) {u : SrS} (h : SrOk u) : ∀ n : Nat, (n : Int) ≤ uPb u → SrOk (rbN wd fo u n) ∧ uPb (rbN wd fo u n) = uPb u - n
  | 0, _ => ⟨h, by show uPb u = uPb u - ((0 : Nat) : Int); omega⟩
  | n + 1, hn => by
    have ih := rbN_ok hwf hw h n (by omega)
    refine ⟨rollBlk_ok hwf hw ih.1.nine (by omega), ?_⟩
    show uPb (rbN wd fo u n) - 1 = uPb u - ((n + 1 : Nat) : Int)
    omega
theorem rfN_ok {wd fo : Int} (hwf : 1 ≤ wd * fo) {x : FC} (h1 : bOk x.1) (h2 : bOk x.2) : ∀ n : Nat, (n : Int) ≤ x.1.1 → bOk (rfN wd fo x n).1 ∧ bOk (rfN wd fo x n).2 ∧ (rfN wd fo x n).1.1 = x.1.1 - n
  | 0, _ => ⟨h1, h2, by show x.1.1 = x.1.1 - ((0 : Nat) : Int); omega⟩
  | n + 1, hn => by
    obtain ⟨a1, a2, a3⟩ := rfN_ok hwf h1 h2 n (by omega)
    have h3 := rollFine_ok (wd := wd) (fo := fo) hwf (x := rfN wd fo x n) (by omega) (by have := a1.2.1; omega) a1.2.2 a2
    refine ⟨h3.1, h3.2, ?_⟩
    show (rfN wd fo x n).1.1 - 1 = x.1.1 - ((n + 1 : Nat) : Int)
    omega
theorem rollBy_ok {wd fo : Int} (hwf : 1 ≤ wd * fo) (hw : 1 ≤ wd) {u : SrS} (h : SrOk u) {b e : Int} (h0 : 0 ≤ b ∧ b ≤ uPb u) (he : 0 ≤ e ∧ e ≤ uFa (rbN wd fo u b.toNat)) : SrOk (rollBy wd fo u b e) := by
  obtain ⟨a1, a2⟩ := rbN_ok hwf hw h b.toNat (by omega)
  obtain ⟨h1, h2, h3, h4, h5, h6, h7, h8, h9, h10⟩ := id a1
  obtain ⟨c1, c2, c3⟩ := rfN_ok hwf (x := (rbN wd fo u b.toNat).2) ⟨h7.1, h7.2, h9⟩ ⟨h8.1, h8.2, h10⟩ e.toNat (by show ((e.toNat : Nat) : Int) ≤ uFa (rbN wd fo u b.toNat); omega)
  exact ⟨h1, h2, h3, h4, h5, h6, ⟨c1.1, c1.2.1⟩, ⟨c2.1, c2.2.1⟩, c1.2.2, c2.2.2⟩
