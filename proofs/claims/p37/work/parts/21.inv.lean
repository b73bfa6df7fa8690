/-! rows of buckets: what holds of them -/
def csN (f : fI) : Nat → Int
  | 0 => 0
  | n + 1 => csN f n + f (n * 7 + 1)
/-- all counts -/
def cs (f : fI) (n : Int) : Int := csN f n.toNat
theorem cs_0 (f : fI) : cs f 0 = 0 := rfl
theorem cs_s (f : fI) {n : Int} (h : 0 ≤ n) : cs f (n + 1) = cs f n + f (n * 7 + 1) := by
  unfold cs
  rw [show (n + 1).toNat = n.toNat + 1 by omega]
  show csN f n.toNat + f ((n.toNat : Int) * 7 + 1) = _
  rw [Int.toNat_of_nonneg h]
theorem cs_congr {f g : fI} : ∀ k : Nat, (∀ i : Int, 0 ≤ i → i < k → f (i * 7 + 1) = g (i * 7 + 1)) → cs f k = cs g k
  | 0, _ => rfl
  | k + 1, h => by
    have ih := cs_congr (f := f) (g := g) k (fun i h0 h1 => h i h0 (by omega))
    rw [show ((k + 1 : Nat) : Int) = (k : Int) + 1 by omega, cs_s f (by omega), cs_s g (by omega), ih, h k (by omega) (by omega)]
theorem cs_congrI {f g : fI} {n : Int} (hn : 0 ≤ n) (h : ∀ i, 0 ≤ i → i < n → f (i * 7 + 1) = g (i * 7 + 1)) : cs f n = cs g n := by
  have e := cs_congr (f := f) (g := g) n.toNat (fun i a b => h i a (by omega))
  rw [Int.toNat_of_nonneg hn] at e
  exact e
theorem cs_ge {f : fI} : ∀ k : Nat, (∀ i : Int, 0 ≤ i → i < k → 1 ≤ f (i * 7 + 1)) → (k : Int) ≤ cs f k ∧ ∀ i : Int, 0 ≤ i → i < k → f (i * 7 + 1) ≤ cs f k
  | 0, _ => ⟨Int.le_refl _, fun i a b => by omega⟩
  | k + 1, h => by
    obtain ⟨a1, a2⟩ := cs_ge (f := f) k (fun i h0 h1 => h i h0 (by omega))
    have h1 := h k (by omega) (by omega)
    rw [show ((k + 1 : Nat) : Int) = (k : Int) + 1 by omega, cs_s f (by omega)]
    refine ⟨by omega, fun i b1 b2 => ?_⟩
    by_cases hi : i = k
    · rw [hi]; omega
    · have := a2 i b1 (by omega); omega
theorem cs_drop (f : fI) (n : Int) : ∀ k : Nat, (k : Int) ≤ n - 1 → cs (drK f 7 (n * 7)) k = cs f (k + 1) - f (0 * 7 + 1)
  | 0, _ => by
    have h6 := cs_s f (n := 0) (by omega)
    rw [cs_0] at h6
    rw [show ((0 : Nat) : Int) = 0 from rfl, cs_0]
    omega
  | k + 1, hk => by
    have ih := cs_drop f n k (by omega)
    have h1 : drK f 7 (n * 7) ((k : Int) * 7 + 1) = f (((k : Int) + 1) * 7 + 1) := by
      unfold drK; rw [if_pos (by omega), show (k : Int) * 7 + 1 + 7 = ((k : Int) + 1) * 7 + 1 by omega]
    rw [show ((k + 1 : Nat) : Int) = (k : Int) + 1 by omega, cs_s (drK f 7 (n * 7)) (by omega), cs_s f (n := (k : Int) + 1) (by omega), ih, h1]
    omega
/-- an item as a bucket has it -/
def srcOk (s : fI) : Prop := 1 ≤ s 1 ∧ (-100000 ≤ s 3 ∧ s 4 ≤ 100000) ∧ (s 3 ≤ s 5 ∧ s 5 ≤ s 4) ∧ (s 3 ≤ s 6 ∧ s 6 ≤ s 4) ∧ s 1 * s 3 ≤ s 2 ∧ s 2 ≤ s 1 * s 4
theorem srcOk_P {v : Int} (h : -100000 ≤ v ∧ v ≤ 100000) : srcOk (srP v) := by
  refine ⟨Int.le_refl 1, ⟨h.1, h.2⟩, ⟨Int.le_refl _, Int.le_refl _⟩, ⟨Int.le_refl _, Int.le_refl _⟩, ?_, ?_⟩
  · show 1 * v ≤ v; omega
  · show v ≤ 1 * v; omega
theorem srcOk_sum {s : fI} (h : srcOk s) (hc : s 1 ≤ 20000) : -2000000000 ≤ s 2 ∧ s 2 ≤ 2000000000 := by
  obtain ⟨h1, h2, h3, h4, h5, h6⟩ := h
  have a1 : s 1 * (-100000) ≤ s 1 * s 3 := Int.mul_le_mul_of_nonneg_left h2.1 (by omega)
  have a2 : s 1 * s 4 ≤ s 1 * 100000 := Int.mul_le_mul_of_nonneg_left h2.2 (by omega)
  omega
theorem tkM_out (f : fI) (l : Int) (src : fI) {j : Int} (h : j < l * 7 ∨ l * 7 + 6 < j) : tkM f l src j = f j := by
  unfold tkM tk6 tk4 tk3 tk2 tk1 uI
  rw [if_neg (by omega), if_neg (by omega), if_neg (by omega), if_neg (by omega), if_neg (by omega)]
theorem tkM_0 (f : fI) (l : Int) (src : fI) : tkM f l src (l * 7 + 0) = f (l * 7 + 0) := by
  unfold tkM tk6 tk4 tk3 tk2 tk1 uI
  rw [if_neg (by omega), if_neg (by omega), if_neg (by omega), if_neg (by omega), if_neg (by omega)]
theorem tkM_1 (f : fI) (l : Int) (src : fI) : tkM f l src (l * 7 + 1) = wr (f (l * 7 + 1) + src 1) := by
  unfold tkM tk6 tk4 tk3 tk2 tk1 uI
  rw [if_neg (by omega), if_neg (by omega), if_neg (by omega), if_neg (by omega), if_pos rfl]
theorem tkM_2 (f : fI) (l : Int) (src : fI) : tkM f l src (l * 7 + 2) = wr (f (l * 7 + 2) + src 2) := by
  unfold tkM tk6 tk4 tk3 tk2 tk1
  rw [uI_n _ _ (by omega), uI_n _ _ (by omega), uI_n _ _ (by omega), uI_s, uI_n _ _ (by omega)]
theorem tkM_3 (f : fI) (l : Int) (src : fI) : tkM f l src (l * 7 + 3) = min (f (l * 7 + 3)) (src 3) := by
  unfold tkM tk6 tk4 tk3 tk2 tk1
  rw [uI_n _ _ (by omega), uI_n _ _ (by omega), uI_s, uI_n _ _ (by omega), uI_n _ _ (by omega)]
theorem tkM_4 (f : fI) (l : Int) (src : fI) : tkM f l src (l * 7 + 4) = max (f (l * 7 + 4)) (src 4) := by
  unfold tkM tk6 tk4 tk3 tk2 tk1
  rw [uI_n _ _ (by omega), uI_s, uI_n _ _ (by omega), uI_n _ _ (by omega), uI_n _ _ (by omega)]
theorem tkM_5 (f : fI) (l : Int) (src : fI) : tkM f l src (l * 7 + 5) = f (l * 7 + 5) := by
  unfold tkM tk6 tk4 tk3 tk2 tk1 uI
  rw [if_neg (by omega), if_neg (by omega), if_neg (by omega), if_neg (by omega), if_neg (by omega)]
theorem tkM_6 (f : fI) (l : Int) (src : fI) : tkM f l src (l * 7 + 6) = src 6 := by
  unfold tkM tk6
  rw [uI_s]
/-- two items in one bucket are as a bucket has them -/
theorem tkM_ok {f : fI} {l : Int} {src : fI} (h1 : srcOk (srB f l)) (h2 : srcOk src) (hc : f (l * 7 + 1) + src 1 ≤ 20000) : srcOk (srB (tkM f l src) l) ∧ tkM f l src (l * 7 + 1) = f (l * 7 + 1) + src 1 := by
  have s1 := srcOk_sum h1 (by show f (l * 7 + 1) ≤ 20000; have := h2.1; omega)
  have s2 := srcOk_sum h2 (by have : 1 ≤ f (l * 7 + 1) := h1.1; omega)
  obtain ⟨a1, a2, a3, a4, a5, a6⟩ := h1
  obtain ⟨b1, b2, b3, b4, b5, b6⟩ := h2
  have a1 : 1 ≤ f (l * 7 + 1) := a1
  have a2 : -100000 ≤ f (l * 7 + 3) ∧ f (l * 7 + 4) ≤ 100000 := a2
  have a3 : f (l * 7 + 3) ≤ f (l * 7 + 5) ∧ f (l * 7 + 5) ≤ f (l * 7 + 4) := a3
  have a5 : f (l * 7 + 1) * f (l * 7 + 3) ≤ f (l * 7 + 2) := a5
  have a6 : f (l * 7 + 2) ≤ f (l * 7 + 1) * f (l * 7 + 4) := a6
  have s1 : -2000000000 ≤ f (l * 7 + 2) ∧ f (l * 7 + 2) ≤ 2000000000 := s1
  have e1 : tkM f l src (l * 7 + 1) = f (l * 7 + 1) + src 1 := by rw [tkM_1, wr_id (by omega)]
  have hm : f (l * 7 + 1) * min (f (l * 7 + 3)) (src 3) ≤ f (l * 7 + 1) * f (l * 7 + 3) := Int.mul_le_mul_of_nonneg_left (by omega) (by omega)
  have hm2 : src 1 * min (f (l * 7 + 3)) (src 3) ≤ src 1 * src 3 := Int.mul_le_mul_of_nonneg_left (by omega) (by omega)
  have hx : f (l * 7 + 1) * f (l * 7 + 4) ≤ f (l * 7 + 1) * max (f (l * 7 + 4)) (src 4) := Int.mul_le_mul_of_nonneg_left (by omega) (by omega)
  have hx2 : src 1 * src 4 ≤ src 1 * max (f (l * 7 + 4)) (src 4) := Int.mul_le_mul_of_nonneg_left (by omega) (by omega)
  have lo : (f (l * 7 + 1) + src 1) * min (f (l * 7 + 3)) (src 3) = f (l * 7 + 1) * min (f (l * 7 + 3)) (src 3) + src 1 * min (f (l * 7 + 3)) (src 3) := Int.add_mul _ _ _
  have hi : (f (l * 7 + 1) + src 1) * max (f (l * 7 + 4)) (src 4) = f (l * 7 + 1) * max (f (l * 7 + 4)) (src 4) + src 1 * max (f (l * 7 + 4)) (src 4) := Int.add_mul _ _ _
  have e2 : tkM f l src (l * 7 + 2) = f (l * 7 + 2) + src 2 := by
    rw [tkM_2]
    have g1 : (f (l * 7 + 1) + src 1) * (-100000) ≤ (f (l * 7 + 1) + src 1) * min (f (l * 7 + 3)) (src 3) := Int.mul_le_mul_of_nonneg_left (by omega) (by omega)
    have g2 : (f (l * 7 + 1) + src 1) * max (f (l * 7 + 4)) (src 4) ≤ (f (l * 7 + 1) + src 1) * 100000 := Int.mul_le_mul_of_nonneg_left (by omega) (by omega)
    rw [wr_id (by omega)]
  refine ⟨⟨?_, ?_, ?_, ?_, ?_, ?_⟩, e1⟩
  · show 1 ≤ tkM f l src (l * 7 + 1); omega
  · show -100000 ≤ tkM f l src (l * 7 + 3) ∧ tkM f l src (l * 7 + 4) ≤ 100000
    rw [tkM_3, tkM_4]; omega
  · show tkM f l src (l * 7 + 3) ≤ tkM f l src (l * 7 + 5) ∧ tkM f l src (l * 7 + 5) ≤ tkM f l src (l * 7 + 4)
    rw [tkM_3, tkM_4, tkM_5]; omega
  · show tkM f l src (l * 7 + 3) ≤ tkM f l src (l * 7 + 6) ∧ tkM f l src (l * 7 + 6) ≤ tkM f l src (l * 7 + 4)
    rw [tkM_3, tkM_4, tkM_6]; omega
  · show tkM f l src (l * 7 + 1) * tkM f l src (l * 7 + 3) ≤ tkM f l src (l * 7 + 2)
    rw [e1, e2, tkM_3]; omega
  · show tkM f l src (l * 7 + 2) ≤ tkM f l src (l * 7 + 1) * tkM f l src (l * 7 + 4)
    rw [e1, e2, tkM_4]; omega
/-- a multiple -/
def mul_of (w s : Int) : Prop := 0 ≤ s ∧ ∃ k, s = w * k
theorem stF_eq {t w : Int} (h : 0 ≤ t) (hw : 1 ≤ w) : stF t w = w * (t / w) := by
  unfold stF
  rw [Int.tmod_eq_emod_of_nonneg h]
  have h2 := Int.emod_add_mul_ediv t w
  omega
theorem stF_mul {t w : Int} (h : 0 ≤ t) (hw : 1 ≤ w) : mul_of w (stF t w) ∧ stF t w ≤ t := by
  have h1 := stF_eq h hw
  have h3 := Int.emod_nonneg t (show w ≠ 0 by omega)
  have h2 := Int.emod_add_mul_ediv t w
  have h4 := Int.mul_nonneg (show 0 ≤ w by omega) (Int.ediv_nonneg h (show 0 ≤ w by omega))
  exact ⟨⟨by omega, t / w, h1⟩, by omega⟩
theorem stF_ge {t w s : Int} (h : 0 ≤ t) (hw : 1 ≤ w) (hs : mul_of w s) (hle : s ≤ t) : s ≤ stF t w := by
  obtain ⟨h0, k, rfl⟩ := hs
  rw [stF_eq h hw]
  have h1 : k ≤ t / w := Int.le_ediv_of_mul_le (by omega) (by rw [Int.mul_comm]; exact hle)
  exact Int.mul_le_mul_of_nonneg_left h1 (by omega)
/-- a row of buckets of the width w -/
def rowOk (w : Int) (b : Int × fI) : Prop := (∀ i j, 0 ≤ i → i < j → j < b.1 → b.2 (i * 7 + 0) < b.2 (j * 7 + 0)) ∧ (∀ i, 0 ≤ i → i < b.1 → mul_of w (b.2 (i * 7 + 0))) ∧ ∀ i, 0 ≤ i → i < b.1 → srcOk (srB b.2 i)
theorem srcOk_of {s g : fI} (h : srcOk s) (e : ∀ w, 1 ≤ w → w ≤ 6 → g w = s w) : srcOk g := by
  unfold srcOk
  rw [e 1 (by omega) (by omega), e 2 (by omega) (by omega), e 3 (by omega) (by omega), e 4 (by omega) (by omega), e 5 (by omega) (by omega), e 6 (by omega) (by omega)]
  exact h
theorem nwB_old (f : fI) (b st : Int) (src : fI) {j : Int} (h : j < b * 7) : nwB f b st src 7 j = f j := by unfold nwB; rw [if_neg (by omega)]
theorem nwB_st (f : fI) (b st : Int) (src : fI) : nwB f b st src 7 (b * 7 + 0) = st := by unfold nwB; rw [if_pos (by omega), if_pos (by omega)]
theorem nwB_w (f : fI) (b st : Int) (src : fI) {w : Int} (h : 1 ≤ w ∧ w ≤ 6) : nwB f b st src 7 (b * 7 + w) = src w := by unfold nwB; rw [if_pos (by omega), if_neg (by omega), show b * 7 + w - b * 7 = w by omega]
/-- an item is taken in -/
theorem bTake_inv {w : Int} {b : Int × fI} {st : Int} {src : fI} (hb : rowOk w b) (hn : 0 ≤ b.1) (hm : mul_of w st) (hle : ∀ i, 0 ≤ i → i < b.1 → b.2 (i * 7 + 0) ≤ st) (hs : srcOk src) (hc : cs b.2 b.1 + src 1 ≤ 20000) :
    rowOk w (bTake b st src) ∧ cs (bTake b st src).2 (bTake b st src).1 = cs b.2 b.1 + src 1 ∧ (∀ m, st ≤ m → ∀ i, 0 ≤ i → i < (bTake b st src).1 → (bTake b st src).2 (i * 7 + 0) ≤ m) ∧ (∀ i, 0 ≤ i → i < (bTake b st src).1 → (bTake b st src).2 (i * 7 + 0) = st ∨ (i < b.1 ∧ (bTake b st src).2 (i * 7 + 0) = b.2 (i * 7 + 0))) := by
  obtain ⟨h1, h2, h3⟩ := hb
  by_cases h : 1 ≤ b.1 ∧ b.2 ((b.1 - 1) * 7 + 0) = st
  · have e : bTake b st src = (b.1, tkM b.2 (b.1 - 1) src) := if_pos h
    rw [e]
    dsimp only
    have hst : ∀ i, 0 ≤ i → i < b.1 → tkM b.2 (b.1 - 1) src (i * 7 + 0) = b.2 (i * 7 + 0) := fun i a1 a2 => by
      by_cases hi : i = b.1 - 1
      · rw [hi, tkM_0]
      · exact tkM_out _ _ _ (by omega)
    have hcs : cs b.2 b.1 = cs b.2 (b.1 - 1) + b.2 ((b.1 - 1) * 7 + 1) := by
      have := cs_s b.2 (n := b.1 - 1) (by omega)
      rw [show b.1 - 1 + 1 = b.1 by omega] at this
      exact this
    have hge := cs_ge (f := b.2) (b.1 - 1).toNat (fun i a1 a2 => (h3 i a1 (by omega)).1)
    rw [Int.toNat_of_nonneg (by omega)] at hge
    obtain ⟨k1, k2⟩ := tkM_ok (f := b.2) (l := b.1 - 1) (src := src) (h3 (b.1 - 1) (by omega) (by omega)) hs (by omega)
    refine ⟨⟨fun i j a1 a2 a3 => ?_, fun i a1 a2 => ?_, fun i a1 a2 => ?_⟩, ?_, fun m hm9 i a1 a2 => ?_, fun i a1 a2 => Or.inr ⟨a2, hst i a1 a2⟩⟩
    · dsimp only at a3 ⊢; rw [hst i a1 (by omega), hst j (by omega) a3]; exact h1 i j a1 a2 a3
    · dsimp only at a2 ⊢; rw [hst i a1 a2]; exact h2 i a1 a2
    · dsimp only at a2 ⊢
      by_cases hi : i = b.1 - 1
      · rw [hi]; exact k1
      · exact srcOk_of (h3 i a1 a2) (fun w b1 b2 => tkM_out _ _ _ (by omega))
    · have e2 : cs (tkM b.2 (b.1 - 1) src) b.1 = cs (tkM b.2 (b.1 - 1) src) (b.1 - 1) + tkM b.2 (b.1 - 1) src ((b.1 - 1) * 7 + 1) := by
        have := cs_s (tkM b.2 (b.1 - 1) src) (n := b.1 - 1) (by omega)
        rw [show b.1 - 1 + 1 = b.1 by omega] at this
        exact this
      rw [e2, k2, cs_congrI (g := b.2) (by omega) (fun i b1 b2 => tkM_out _ _ _ (by omega))]
      omega
    · rw [hst i a1 a2]; have := hle i a1 a2; omega
  · have e : bTake b st src = (b.1 + 1, nwB b.2 b.1 st src 7) := if_neg h
    rw [e]
    dsimp only
    have hst : ∀ i, 0 ≤ i → i < b.1 → nwB b.2 b.1 st src 7 (i * 7 + 0) = b.2 (i * 7 + 0) := fun i a1 a2 => nwB_old _ _ _ _ (by omega)
    have hne : ∀ i, 0 ≤ i → i < b.1 → b.2 (i * 7 + 0) < st := fun i a1 a2 => by
      have g1 := hle (b.1 - 1) (by omega) (by omega)
      have g2 : b.2 ((b.1 - 1) * 7 + 0) ≠ st := fun q => h ⟨by omega, q⟩
      by_cases hi : i = b.1 - 1
      · rw [hi]; omega
      · have := h1 i (b.1 - 1) a1 (by omega) (by omega); omega
    refine ⟨⟨fun i j a1 a2 a3 => ?_, fun i a1 a2 => ?_, fun i a1 a2 => ?_⟩, ?_, fun m hm9 i a1 a2 => ?_, fun i a1 a2 => ?_⟩
    · dsimp only at a3 ⊢
      by_cases hj : j = b.1
      · rw [hj, nwB_st, hst i a1 (by omega)]; exact hne i a1 (by omega)
      · rw [hst i a1 (by omega), hst j (by omega) (by omega)]; exact h1 i j a1 a2 (by omega)
    · dsimp only at a2 ⊢
      by_cases hi : i = b.1
      · rw [hi, nwB_st]; exact hm
      · rw [hst i a1 (by omega)]; exact h2 i a1 (by omega)
    · dsimp only at a2 ⊢
      by_cases hi : i = b.1
      · rw [hi]; exact srcOk_of hs (fun w b1 b2 => nwB_w _ _ _ _ ⟨b1, b2⟩)
      · exact srcOk_of (h3 i a1 (by omega)) (fun w b1 b2 => nwB_old _ _ _ _ (by omega))
    · rw [cs_s _ hn, nwB_w _ _ _ _ (by omega), cs_congrI (g := b.2) hn (fun i b1 b2 => nwB_old _ _ _ _ (by omega))]
    · by_cases hi : i = b.1
      · rw [hi, nwB_st]; exact hm9
      · rw [hst i a1 (by omega)]; have := hle i a1 (by omega); omega
    · by_cases hi : i = b.1
      · left; rw [hi, nwB_st]
      · right; exact ⟨by omega, hst i a1 (by omega)⟩
theorem drK_row (f : fI) {n i w : Int} (h0 : 0 ≤ i) (hi : i < n - 1) (hw : 0 ≤ w ∧ w ≤ 6) : drK f 7 (n * 7) (i * 7 + w) = f ((i + 1) * 7 + w) := by
  unfold drK; rw [if_pos (by omega), show i * 7 + w + 7 = (i + 1) * 7 + w by omega]
theorem bDrop_inv {w : Int} {b : Int × fI} (hb : rowOk w b) (hn : 1 ≤ b.1) : rowOk w (bDrop b) ∧ cs (bDrop b).2 (bDrop b).1 = cs b.2 b.1 - b.2 (0 * 7 + 1) ∧ ∀ i, 0 ≤ i → i < (bDrop b).1 → (bDrop b).2 (i * 7 + 0) = b.2 ((i + 1) * 7 + 0) := by
  obtain ⟨h1, h2, h3⟩ := hb
  have e0 : (bDrop b).1 = b.1 - 1 := rfl
  have hst : ∀ i, 0 ≤ i → i < b.1 - 1 → (bDrop b).2 (i * 7 + 0) = b.2 ((i + 1) * 7 + 0) := fun i a1 a2 => drK_row _ a1 a2 (by omega)
  refine ⟨⟨fun i j a1 a2 a3 => ?_, fun i a1 a2 => ?_, fun i a1 a2 => ?_⟩, ?_, fun i a1 a2 => hst i a1 (by omega)⟩
  · rw [hst i a1 (by omega), hst j (by omega) (by omega)]; exact h1 _ _ (by omega) (by omega) (by omega)
  · rw [hst i a1 (by omega)]; exact h2 _ (by omega) (by omega)
  · exact srcOk_of (h3 (i + 1) (by omega) (by omega)) (fun w b1 b2 => drK_row _ a1 (by omega) (by omega))
  · have h4 := cs_drop b.2 b.1 (b.1 - 1).toNat (by omega)
    rw [Int.toNat_of_nonneg (by omega), show b.1 - 1 + 1 = b.1 by omega] at h4
    exact h4
theorem bFull_inv {w : Int} {b : Int × fI} (hb : rowOk w b) (hn : 1 ≤ b.1) : rowOk w (bFull b) ∧ cs (bFull b).2 (bFull b).1 ≤ cs b.2 b.1 ∧ ∀ i, 0 ≤ i → i < (bFull b).1 → ∃ j, 0 ≤ j ∧ j < b.1 ∧ (bFull b).2 (i * 7 + 0) = b.2 (j * 7 + 0) := by
  unfold bFull
  split
  · obtain ⟨a1, a2, a3⟩ := bDrop_inv hb hn
    have h4 := (hb.2.2 0 (by omega) (by omega)).1
    have h4 : 1 ≤ b.2 (0 * 7 + 1) := h4
    exact ⟨a1, by omega, fun i b1 b2 => ⟨i + 1, by omega, by have : i < b.1 - 1 := b2; omega, a3 i b1 b2⟩⟩
  · exact ⟨hb, Int.le_refl _, fun i b1 b2 => ⟨i, b1, b2, rfl⟩⟩
