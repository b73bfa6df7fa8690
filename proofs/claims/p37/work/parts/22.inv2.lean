/-! both rows of a series -/
def fcInv (wd fo : Int) (x : FC) : Prop := rowOk wd x.1 ∧ rowOk (wd * fo) x.2 ∧ (0 ≤ x.1.1 ∧ 0 ≤ x.2.1) ∧ ∀ i j, 0 ≤ i → i < x.2.1 → 0 ≤ j → j < x.1.1 → x.2.2 (i * 7 + 0) ≤ x.1.2 (j * 7 + 0)
def fcLe (x : FC) (m : Int) : Prop := (∀ i, 0 ≤ i → i < x.1.1 → x.1.2 (i * 7 + 0) ≤ m) ∧ ∀ i, 0 ≤ i → i < x.2.1 → x.2.2 (i * 7 + 0) ≤ m
def fcC (x : FC) : Int := cs x.1.2 x.1.1 + cs x.2.2 x.2.1
theorem fcLe.mono {x : FC} {m n : Int} (h : fcLe x m) (hmn : m ≤ n) : fcLe x n := ⟨fun i a b => Int.le_trans (h.1 i a b) hmn, fun i a b => Int.le_trans (h.2 i a b) hmn⟩
theorem mul_of_mul {w v s : Int} (h : mul_of (w * v) s) : mul_of w s := by
  obtain ⟨h0, k, hk⟩ := h
  exact ⟨h0, v * k, by rw [hk, Int.mul_assoc]⟩
theorem rowOk_cs {w : Int} {b : Int × fI} (h : rowOk w b) (hn : 0 ≤ b.1) : b.1 ≤ cs b.2 b.1 ∧ ∀ i, 0 ≤ i → i < b.1 → b.2 (i * 7 + 1) ≤ cs b.2 b.1 := by
  have hge := cs_ge (f := b.2) b.1.toNat (fun i a1 a2 => (h.2.2 i a1 (by omega)).1)
  rw [Int.toNat_of_nonneg hn] at hge
  exact hge
theorem rollFine_inv {wd fo : Int} (hwf : 1 ≤ wd * fo) {x : FC} (h : fcInv wd fo x) (h1 : 1 ≤ x.1.1) (hc : fcC x ≤ 20000) :
    fcInv wd fo (rollFine wd fo x) ∧ fcC (rollFine wd fo x) ≤ fcC x ∧ ∀ m, fcLe x m → fcLe (rollFine wd fo x) m := by
  obtain ⟨hf, hk, h0, hcf⟩ := h
  obtain ⟨d1, d2, d3⟩ := bDrop_inv hf h1
  have hs0 := hf.2.1 0 (by omega) (by omega)
  have hst := stF_mul hs0.1 hwf
  have cf := rowOk_cs hf h0.1
  have ck := rowOk_cs hk h0.2
  have hc : cs x.1.2 x.1.1 + cs x.2.2 x.2.1 ≤ 20000 := hc
  have hc1 := cf.2 0 (by omega) (by omega)
  have hsrc := hf.2.2 0 (by omega) (by omega)
  obtain ⟨t1, t2, t3, t4⟩ := bTake_inv (st := stF (x.1.2 (0 * 7 + 0)) (wd * fo)) (src := srB x.1.2 0) hk h0.2 hst.1
    (fun i a1 a2 => stF_ge hs0.1 hwf (hk.2.1 i a1 a2) (hcf i 0 a1 a2 (by omega) (by omega))) hsrc (by show cs x.2.2 x.2.1 + x.1.2 (0 * 7 + 1) ≤ 20000; omega)
  have hb1 : 1 ≤ (bTake x.2 (stF (x.1.2 (0 * 7 + 0)) (wd * fo)) (srB x.1.2 0)).1 := by
    unfold bTake
    split
    · rename_i q; exact q.1
    · show 1 ≤ x.2.1 + 1; omega
  obtain ⟨f1, f2, f3⟩ := bFull_inv t1 hb1
  -- each coarse start is the new one, or an old one
  have key : ∀ i, 0 ≤ i → i < (rollFine wd fo x).2.1 → (rollFine wd fo x).2.2 (i * 7 + 0) ≤ x.1.2 (0 * 7 + 0) ∧ ((rollFine wd fo x).2.2 (i * 7 + 0) = stF (x.1.2 (0 * 7 + 0)) (wd * fo) ∨ ∃ j, 0 ≤ j ∧ j < x.2.1 ∧ (rollFine wd fo x).2.2 (i * 7 + 0) = x.2.2 (j * 7 + 0)) := fun i a1 a2 => by
    obtain ⟨j, j0, j1, j2⟩ := f3 i a1 a2
    have e : (rollFine wd fo x).2.2 (i * 7 + 0) = (bTake x.2 (stF (x.1.2 (0 * 7 + 0)) (wd * fo)) (srB x.1.2 0)).2 (j * 7 + 0) := j2
    rcases t4 j j0 j1 with q | ⟨q1, q2⟩
    · exact ⟨by rw [e, q]; exact hst.2, Or.inl (by rw [e, q])⟩
    · exact ⟨by rw [e, q2]; exact hcf j 0 j0 q1 (by omega) (by omega), Or.inr ⟨j, j0, q1, by rw [e, q2]⟩⟩
  refine ⟨⟨d1, f1, ⟨by show 0 ≤ x.1.1 - 1; omega, ?_⟩, fun i j a1 a2 b1 b2 => ?_⟩, ?_, fun m hm => ⟨fun i a1 a2 => ?_, fun i a1 a2 => ?_⟩⟩
  · show 0 ≤ (bFull (bTake x.2 (stF (x.1.2 (0 * 7 + 0)) (wd * fo)) (srB x.1.2 0))).1
    unfold bFull
    split
    · show 0 ≤ (bTake x.2 (stF (x.1.2 (0 * 7 + 0)) (wd * fo)) (srB x.1.2 0)).1 - 1; omega
    · omega
  · have e : (rollFine wd fo x).1.2 (j * 7 + 0) = x.1.2 ((j + 1) * 7 + 0) := d3 j b1 b2
    have b2 : j < x.1.1 - 1 := b2
    rw [e]
    have := (key i a1 a2).1
    have := hf.1 0 (j + 1) (by omega) (by omega) (by omega)
    omega
  · show cs (bDrop x.1).2 (bDrop x.1).1 + cs (bFull (bTake x.2 (stF (x.1.2 (0 * 7 + 0)) (wd * fo)) (srB x.1.2 0))).2 (bFull (bTake x.2 (stF (x.1.2 (0 * 7 + 0)) (wd * fo)) (srB x.1.2 0))).1 ≤ cs x.1.2 x.1.1 + cs x.2.2 x.2.1
    have t2 : cs (bTake x.2 (stF (x.1.2 (0 * 7 + 0)) (wd * fo)) (srB x.1.2 0)).2 (bTake x.2 (stF (x.1.2 (0 * 7 + 0)) (wd * fo)) (srB x.1.2 0)).1 = cs x.2.2 x.2.1 + x.1.2 (0 * 7 + 1) := t2
    omega
  · have e : (rollFine wd fo x).1.2 (i * 7 + 0) = x.1.2 ((i + 1) * 7 + 0) := d3 i a1 a2
    have a2 : i < x.1.1 - 1 := a2
    rw [e]; exact hm.1 (i + 1) (by omega) (by omega)
  · have := (key i a1 a2).1
    have := hm.1 0 (by omega) (by omega)
    omega
theorem fTake_inv {wd fo : Int} (hwf : 1 ≤ wd * fo) (hw : 1 ≤ wd) {tt vv : fI} {i : Int} (ht : 0 ≤ tt i) (hv : -100000 ≤ vv i ∧ vv i ≤ 100000) {x : FC} (h : fcInv wd fo x) (hle : fcLe x (tt i)) (hc : fcC x + 1 ≤ 20000) :
    fcInv wd fo (fTake wd fo tt vv i x) ∧ fcC (fTake wd fo tt vv i x) ≤ fcC x + 1 ∧ ∀ m, fcLe x m → tt i ≤ m → fcLe (fTake wd fo tt vv i x) m := by
  obtain ⟨hf, hk, h0, hcf⟩ := h
  have hst := stF_mul ht hw
  have hc : cs x.1.2 x.1.1 + cs x.2.2 x.2.1 + 1 ≤ 20000 := hc
  have cf := rowOk_cs hf h0.1
  have ck := rowOk_cs hk h0.2
  obtain ⟨t1, t2, t3, t4⟩ := bTake_inv (st := stF (tt i) wd) (src := srP (vv i)) hf h0.1 hst.1 (fun j a1 a2 => stF_ge ht hw (hf.2.1 j a1 a2) (hle.1 j a1 a2)) (srcOk_P hv) (by show cs x.1.2 x.1.1 + 1 ≤ 20000; omega)
  have t2 : cs (bTake x.1 (stF (tt i) wd) (srP (vv i))).2 (bTake x.1 (stF (tt i) wd) (srP (vv i))).1 = cs x.1.2 x.1.1 + 1 := t2
  have hb1 : 1 ≤ (bTake x.1 (stF (tt i) wd) (srP (vv i))).1 := by
    unfold bTake
    split
    · rename_i q; exact q.1
    · show 1 ≤ x.1.1 + 1; omega
  have hI : fcInv wd fo (bTake x.1 (stF (tt i) wd) (srP (vv i)), x.2) := by
    refine ⟨t1, hk, ⟨by show 0 ≤ (bTake x.1 (stF (tt i) wd) (srP (vv i))).1; omega, h0.2⟩, fun a b a1 a2 b1 b2 => ?_⟩
    have g1 : x.2.2 (a * 7 + 0) ≤ stF (tt i) wd := stF_ge ht hw (mul_of_mul (hk.2.1 a a1 a2)) (hle.2 a a1 a2)
    rcases t4 b b1 b2 with q | ⟨q1, q2⟩
    · show x.2.2 (a * 7 + 0) ≤ (bTake x.1 (stF (tt i) wd) (srP (vv i))).2 (b * 7 + 0)
      rw [q]; exact g1
    · show x.2.2 (a * 7 + 0) ≤ (bTake x.1 (stF (tt i) wd) (srP (vv i))).2 (b * 7 + 0)
      rw [q2]; exact hcf a b a1 a2 b1 q1
  have hL : ∀ m, fcLe x m → tt i ≤ m → fcLe (bTake x.1 (stF (tt i) wd) (srP (vv i)), x.2) m := fun m hm hi => ⟨fun b b1 b2 => by
    rcases t4 b b1 b2 with q | ⟨q1, q2⟩
    · show (bTake x.1 (stF (tt i) wd) (srP (vv i))).2 (b * 7 + 0) ≤ m
      rw [q]; have := hst.2; omega
    · show (bTake x.1 (stF (tt i) wd) (srP (vv i))).2 (b * 7 + 0) ≤ m
      rw [q2]; exact hm.1 b b1 q1, hm.2⟩
  have hC : fcC (bTake x.1 (stF (tt i) wd) (srP (vv i)), x.2) = fcC x + 1 := by
    show cs (bTake x.1 (stF (tt i) wd) (srP (vv i))).2 (bTake x.1 (stF (tt i) wd) (srP (vv i))).1 + cs x.2.2 x.2.1 = cs x.1.2 x.1.1 + cs x.2.2 x.2.1 + 1
    omega
  unfold fTake
  split
  · obtain ⟨r1, r2, r3⟩ := rollFine_inv hwf hI hb1 (by rw [hC]; show cs x.1.2 x.1.1 + cs x.2.2 x.2.1 + 1 ≤ 20000; omega)
    exact ⟨r1, by omega, fun m hm hi => r3 m (hL m hm hi)⟩
  · exact ⟨hI, by omega, hL⟩
/-- what holds of a series with NOW n and at most K points ever put, beside what is safe -/
def SInv (wd fo n K : Int) (u : SrS) : Prop :=
  ((∀ i j, 0 ≤ i → i < j → j < uPa u → uPt u i < uPt u j) ∧ (∀ i, 0 ≤ i → i < uPa u → uPt u i ≤ n) ∧ uPg u ≤ n) ∧
  ((∀ i, 0 ≤ i → i < uPs u → uPt u i ≤ uPg u) ∧ (∀ i, uPs u ≤ i → i < uPa u → uPg u < uPt u i)) ∧
  (∀ b, 0 ≤ b → b < uPb u → 2 ≤ uPz u b) ∧
  fcInv wd fo u.2 ∧ (∀ j, 0 ≤ j → j < uPa u → fcLe u.2 (uPt u j)) ∧ fcLe u.2 (uPg u) ∧ fcC u.2 + uPa u ≤ K
theorem SInv.mono {wd fo n m K L : Int} {u : SrS} (h : SInv wd fo n K u) (hn : n ≤ m) (hK : K ≤ L) : SInv wd fo m L u := by
  obtain ⟨⟨a1, a2, a3⟩, b, c, d, e, f, g⟩ := h
  exact ⟨⟨a1, fun i x y => Int.le_trans (a2 i x y) hn, Int.le_trans a3 hn⟩, b, c, d, e, f, Int.le_trans g hK⟩
theorem blkN_inv {wd fo : Int} (hwf : 1 ≤ wd * fo) (hw : 1 ≤ wd) {u : SrS} (h9 : SrO9 u) {n K : Int} (hK : K ≤ 20000) (h : SInv wd fo n K u) : ∀ k : Nat, (k : Int) ≤ uPs u →
    fcInv wd fo (blkN wd fo (uPt u) (uPv u) u.2 k) ∧ fcC (blkN wd fo (uPt u) (uPv u) u.2 k) ≤ fcC u.2 + k ∧ (∀ j, (k : Int) ≤ j → j < uPa u → fcLe (blkN wd fo (uPt u) (uPv u) u.2 k) (uPt u j)) ∧ fcLe (blkN wd fo (uPt u) (uPv u) u.2 k) (uPg u)
  | 0, _ => ⟨h.2.2.2.1, by show fcC u.2 ≤ fcC u.2 + ((0 : Nat) : Int); omega, fun j a b => h.2.2.2.2.1 j (by omega) b, h.2.2.2.2.2.1⟩
  | k + 1, hk => by
    obtain ⟨r1, r2, r3, r4⟩ := blkN_inv hwf hw h9 hK h k (by omega)
    have hps := h9.2.1
    have hC := h.2.2.2.2.2.2
    obtain ⟨q1, q2, q3⟩ := fTake_inv hwf hw (tt := uPt u) (vv := uPv u) (i := (k : Int)) ((h9.2.2.2.2.1 k).1) (h9.2.2.2.2.2.1 k) r1 (r3 k (by omega) (by omega)) (by omega)
    refine ⟨q1, ?_, fun j a b => ?_, ?_⟩
    · show fcC (fTake wd fo (uPt u) (uPv u) k (blkN wd fo (uPt u) (uPv u) u.2 k)) ≤ fcC u.2 + ((k + 1 : Nat) : Int)
      omega
    · exact q3 _ (r3 j (by omega) b) (Int.le_of_lt (h.1.1 k j (by omega) (by omega) b))
    · exact q3 _ r4 (h.2.1.1 k (by omega) (by omega))
theorem rollBlk_inv {wd fo : Int} (hwf : 1 ≤ wd * fo) (hw : 1 ≤ wd) {u : SrS} (h9 : SrO9 u) (hb : 1 ≤ uPb u) {n K : Int} (hK : K ≤ 20000) (h : SInv wd fo n K u) : SInv wd fo n K (rollBlk wd fo u) := by
  have hz := h9.z0 hb
  have hps := h9.2.1
  obtain ⟨r1, r2, r3, r4⟩ := blkN_inv hwf hw h9 hK h (uPz u 0).toNat (by omega)
  obtain ⟨⟨a1, a2, a3⟩, ⟨b1, b2⟩, c, d, e, f, g⟩ := h
  have ht : ∀ i, 0 ≤ i → i < uPa u - uPz u 0 → drK (uPt u) (uPz u 0) (uPa u) i = uPt u (i + uPz u 0) := fun i x y => by unfold drK; rw [if_pos (by omega)]
  refine ⟨⟨fun i j x y z => ?_, fun i x y => ?_, a3⟩, ⟨fun i x y => ?_, fun i x y => ?_⟩, fun b x y => ?_, r1, fun j x y => ?_, r4, ?_⟩
  · have z : j < uPa u - uPz u 0 := z
    show drK (uPt u) (uPz u 0) (uPa u) i < drK (uPt u) (uPz u 0) (uPa u) j
    rw [ht i x (by omega), ht j (by omega) z]; exact a1 _ _ (by omega) (by omega) (by omega)
  · have y : i < uPa u - uPz u 0 := y
    show drK (uPt u) (uPz u 0) (uPa u) i ≤ n
    rw [ht i x y]; exact a2 _ (by omega) (by omega)
  · have y : i < uPs u - uPz u 0 := y
    show drK (uPt u) (uPz u 0) (uPa u) i ≤ uPg u
    rw [ht i x (by omega)]; exact b1 _ (by omega) (by omega)
  · have x : uPs u - uPz u 0 ≤ i := x
    have y : i < uPa u - uPz u 0 := y
    show uPg u < drK (uPt u) (uPz u 0) (uPa u) i
    rw [ht i (by omega) y]; exact b2 _ (by omega) (by omega)
  · have y : b < uPb u - 1 := y
    show 2 ≤ drK (uPz u) 1 (uPb u) b
    have e1 : drK (uPz u) 1 (uPb u) b = uPz u (b + 1) := by unfold drK; rw [if_pos (by omega)]
    rw [e1]; exact c _ (by omega) (by omega)
  · have y : j < uPa u - uPz u 0 := y
    show fcLe (blkN wd fo (uPt u) (uPv u) u.2 (uPz u 0).toNat) (drK (uPt u) (uPz u 0) (uPa u) j)
    rw [ht j x y]; exact r3 _ (by omega) (by omega)
  · show fcC (blkN wd fo (uPt u) (uPv u) u.2 (uPz u 0).toNat) + (uPa u - uPz u 0) ≤ K
    omega
theorem rbN_inv {wd fo : Int} (hwf : 1 ≤ wd * fo) (hw : 1 ≤ wd) {u : SrS} (h : SrOk u) {n K : Int} (hK : K ≤ 20000) (hi : SInv wd fo n K u) : ∀ k : Nat, (k : Int) ≤ uPb u → SInv wd fo n K (rbN wd fo u k)
  | 0, _ => hi
  | k + 1, hk => by
    obtain ⟨a1, a2⟩ := rbN_ok hwf hw h k (by omega)
    exact rollBlk_inv hwf hw a1.nine (by omega) hK (rbN_inv hwf hw h hK hi k (by omega))
theorem rfN_inv {wd fo : Int} (hwf : 1 ≤ wd * fo) {x : FC} (hc : fcC x ≤ 20000) (h1 : bOk x.1) (h2 : bOk x.2) (h : fcInv wd fo x) : ∀ k : Nat, (k : Int) ≤ x.1.1 → fcInv wd fo (rfN wd fo x k) ∧ fcC (rfN wd fo x k) ≤ fcC x ∧ ∀ m, fcLe x m → fcLe (rfN wd fo x k) m
  | 0, _ => ⟨h, Int.le_refl _, fun _ q => q⟩
  | k + 1, hk => by
    obtain ⟨r1, r2, r3⟩ := rfN_inv hwf hc h1 h2 h k (by omega)
    obtain ⟨a1, a2, a3⟩ := rfN_ok (wd := wd) (fo := fo) hwf h1 h2 k (by omega)
    obtain ⟨q1, q2, q3⟩ := rollFine_inv hwf r1 (by omega) (by omega)
    exact ⟨q1, Int.le_trans q2 r2, fun m hm => q3 m (r3 m hm)⟩
theorem fcC_K {wd fo n K : Int} {u : SrS} (h : SInv wd fo n K u) (ha : 0 ≤ uPa u) : fcC u.2 ≤ K := by have := h.2.2.2.2.2.2; omega
/-- as time goes on -/
theorem rollS_inv {wd fo kp lk n m K : Int} (hwf : 1 ≤ wd * fo) (hw : 1 ≤ wd) {u : SrS} (h : SrOk u) (hK : K ≤ 20000) (hi : SInv wd fo n K u) : SInv wd fo n K (rollS wd fo kp lk m u) := by
  have hr := rollAt (kp := kp) (lk := lk) (n := m) hwf hw h
  have hb := rbN_inv hwf hw h hK hi (if kp = 0 then 0 else bbU u (m - kp)).toNat (by have := hr.1; omega)
  obtain ⟨a1, a2⟩ := rbN_ok hwf hw h (if kp = 0 then 0 else bbU u (m - kp)).toNat (by have := hr.1; omega)
  obtain ⟨o1, o2, o3, o4, o5, o6, o7, o8, o9, o10⟩ := id a1
  obtain ⟨⟨c1, c2, c3⟩, d, e, f, g, g2, g3⟩ := id hb
  have he := hr.2.2.2.1
  obtain ⟨q1, q2, q3⟩ := rfN_inv hwf (x := (rbN wd fo u (if kp = 0 then 0 else bbU u (m - kp)).toNat).2) (Int.le_trans (fcC_K hb (by have := a1.am; omega)) hK) ⟨o7.1, o7.2, o9⟩ ⟨o8.1, o8.2, o10⟩ f (if lk = 0 then 0 else feU (rbU wd fo kp m u) wd (m - lk)).toNat (by
    show (((if lk = 0 then 0 else feU (rbU wd fo kp m u) wd (m - lk)).toNat : Nat) : Int) ≤ uFa (rbN wd fo u (if kp = 0 then 0 else bbU u (m - kp)).toNat)
    omega)
  refine ⟨⟨c1, c2, c3⟩, d, e, q1, fun j x y => q3 _ (g j x y), q3 _ g2, ?_⟩
  show fcC (rfN wd fo (rbN wd fo u (if kp = 0 then 0 else bbU u (m - kp)).toNat).2 (if lk = 0 then 0 else feU (rbU wd fo kp m u) wd (m - lk)).toNat) + uPa (rbN wd fo u (if kp = 0 then 0 else bbU u (m - kp)).toNat) ≤ K
  omega
/-- no time falls -/
theorem SInv.srt {wd fo n K : Int} {u : SrS} (h : SInv wd fo n K u) : Srt u := by
  obtain ⟨⟨c1, c2, c3⟩, d, e, ⟨f1, f2, f3, f4⟩, g, g2, g3⟩ := h
  intro i j h0 hij hj
  by_cases he : i = j
  · rw [he]; omega
  have hlt : i < j := by omega
  unfold itm
  by_cases hi : i < uKa u
  · rw [if_pos hi]
    by_cases hj1 : j < uKa u
    · rw [if_pos hj1]; exact Int.le_of_lt (f2.1 i j h0 hlt hj1)
    · rw [if_neg hj1]
      by_cases hj2 : j - uKa u < uFa u
      · rw [if_pos hj2]; exact f4 i (j - uKa u) h0 hi (by omega) hj2
      · rw [if_neg hj2]; exact (g (j - uKa u - uFa u) (by omega) (by omega)).2 i h0 hi
  · rw [if_neg hi, if_neg (show ¬ j < uKa u by omega)]
    by_cases hi2 : i - uKa u < uFa u
    · rw [if_pos hi2]
      by_cases hj2 : j - uKa u < uFa u
      · rw [if_pos hj2]; exact Int.le_of_lt (f1.1 (i - uKa u) (j - uKa u) (by omega) (by omega) hj2)
      · rw [if_neg hj2]; exact (g (j - uKa u - uFa u) (by omega) (by omega)).1 (i - uKa u) (by omega) hi2
    · rw [if_neg hi2, if_neg (show ¬ j - uKa u < uFa u by omega)]
      exact Int.le_of_lt (c1 (i - uKa u - uFa u) (j - uKa u - uFa u) (by omega) (by omega) (by omega))
/-- behind a point that isn't late -/
theorem ptAdd_inv {wd fo n K : Int} {u : SrS} (hk : SrOk u) (h : SInv wd fo n K u) {pl t v : Int} (hg : uPg u < t) (htn : t ≤ n) (hp : (uPs u ≤ pl ∧ pl ≤ uPa u) ∧ (∀ j, uPs u ≤ j → j < pl → uPt u j < t) ∧ (pl < uPa u → t ≤ uPt u pl)) : SInv wd fo n (K + 1) (ptAdd u pl t v) ∧ uPg u < adF (uPt u) (uPa u) (uPt u) pl t t (adA (uPa u) (uPt u) pl t - 1) := by
  obtain ⟨⟨c1, c2, c3⟩, ⟨d1, d2⟩, e, f, g, g2, g3⟩ := h
  obtain ⟨hp1, hp2, hp3⟩ := hp
  have hps := hk.2.1
  have hlow : ∀ j, 0 ≤ j → j < pl → uPt u j < t := fun j x y => by
    by_cases hj : j < uPs u
    · have := d1 j x hj; omega
    · exact hp2 j (by omega) y
  by_cases h9 : pl < uPa u ∧ uPt u pl = t
  · have e1 : adA (uPa u) (uPt u) pl t = uPa u := if_pos h9
    have e2 : adF (uPt u) (uPa u) (uPt u) pl t t = uPt u := by
      have q : adF (uPt u) (uPa u) (uPt u) pl t t = uI (uPt u) pl t := if_pos h9
      rw [q]
      funext j
      unfold uI
      split
      · rename_i hj; rw [hj, h9.2]
      · rfl
    have eu : uPa (ptAdd u pl t v) = uPa u := e1
    have et : uPt (ptAdd u pl t v) = uPt u := e2
    refine ⟨⟨⟨?_, ?_, c3⟩, ⟨?_, ?_⟩, e, f, ?_, g2, ?_⟩, ?_⟩
    · rw [eu, et]; exact c1
    · rw [eu, et]; exact c2
    · rw [et]; exact d1
    · rw [eu, et]; exact d2
    · rw [eu, et]; exact g
    · rw [eu]; show fcC u.2 + uPa u ≤ K + 1; omega
    · rw [e1, e2]; exact d2 _ (by omega) (by omega)
  · have e1 : adA (uPa u) (uPt u) pl t = uPa u + 1 := if_neg h9
    have e2 : adF (uPt u) (uPa u) (uPt u) pl t t = uI (shK (uPt u) pl (uPa u)) pl t := if_neg h9
    have hhi : ∀ j, pl ≤ j → j < uPa u → t < uPt u j := fun j x y => by
      have q1 : t ≤ uPt u pl := hp3 (by omega)
      have q2 : uPt u pl ≠ t := fun q => h9 ⟨by omega, q⟩
      by_cases hj : j = pl
      · rw [hj]; omega
      · have := c1 pl j (by omega) (by omega) y; omega
    have T1 : ∀ j, 0 ≤ j → j < pl → uI (shK (uPt u) pl (uPa u)) pl t j = uPt u j := fun j x y => by rw [uI_n _ _ (by omega)]; unfold shK; rw [if_neg (by omega)]
    have T2 : uI (shK (uPt u) pl (uPa u)) pl t pl = t := uI_s _ _ _
    have T3 : ∀ j, pl < j → j ≤ uPa u → uI (shK (uPt u) pl (uPa u)) pl t j = uPt u (j - 1) := fun j x y => by rw [uI_n _ _ (by omega)]; unfold shK; rw [if_pos (by omega)]
    have eu : uPa (ptAdd u pl t v) = uPa u + 1 := e1
    have et : uPt (ptAdd u pl t v) = uI (shK (uPt u) pl (uPa u)) pl t := e2
    refine ⟨⟨⟨?_, ?_, c3⟩, ⟨?_, ?_⟩, e, f, ?_, g2, ?_⟩, ?_⟩
    · rw [eu, et]
      intro i j x y z
      by_cases hj : j < pl
      · rw [T1 i x (by omega), T1 j (by omega) hj]; exact c1 i j x y (by omega)
      · by_cases hj2 : j = pl
        · rw [hj2, T2, T1 i x (by omega)]; exact hlow i x (by omega)
        · rw [T3 j (by omega) (by omega)]
          by_cases hi : i < pl
          · rw [T1 i x hi]; exact c1 i (j - 1) x (by omega) (by omega)
          · by_cases hi2 : i = pl
            · rw [hi2, T2]; exact hhi (j - 1) (by omega) (by omega)
            · rw [T3 i (by omega) (by omega)]; exact c1 (i - 1) (j - 1) (by omega) (by omega) (by omega)
    · rw [eu, et]
      intro i x y
      by_cases hi : i < pl
      · rw [T1 i x hi]; exact c2 i x (by omega)
      · by_cases hi2 : i = pl
        · rw [hi2, T2]; exact htn
        · rw [T3 i (by omega) (by omega)]; exact c2 (i - 1) (by omega) (by omega)
    · rw [et]
      intro i x y
      have y : i < uPs u := y
      rw [T1 i x (by omega)]; exact d1 i x y
    · rw [eu, et]
      intro i x y
      have x : uPs u ≤ i := x
      by_cases hi : i < pl
      · rw [T1 i (by omega) hi]; exact d2 i x (by omega)
      · by_cases hi2 : i = pl
        · rw [hi2, T2]; exact hg
        · rw [T3 i (by omega) (by omega)]; exact d2 (i - 1) (by omega) (by omega)
    · rw [eu, et]
      intro j x y
      by_cases hj : j < pl
      · rw [T1 j x hj]; exact g j x (by omega)
      · by_cases hj2 : j = pl
        · rw [hj2, T2]; exact g2.mono (by omega)
        · rw [T3 j (by omega) (by omega)]; exact g (j - 1) (by omega) (by omega)
    · rw [eu]; show fcC u.2 + (uPa u + 1) ≤ K + 1; omega
    · rw [e1, e2, show uPa u + 1 - 1 = uPa u by omega]
      by_cases hq : uPa u = pl
      · rw [show uI (shK (uPt u) pl (uPa u)) pl t (uPa u) = t by unfold uI; rw [if_pos hq]]; exact hg
      · rw [T3 _ (by omega) (by omega)]; exact d2 _ (by omega) (by omega)
theorem ptSeal_inv {wd fo n K : Int} {u : SrS} (hps : 0 ≤ uPs u ∧ uPs u < uPa u) (hb : 0 ≤ uPb u) (h : SInv wd fo n K u) (h2 : 2 ≤ uPa u - uPs u) (hgt : uPg u < uPt u (uPa u - 1)) : SInv wd fo n K (ptSeal u) := by
  obtain ⟨⟨c1, c2, c3⟩, ⟨d1, d2⟩, e, f, g, g2, g3⟩ := h
  refine ⟨⟨c1, c2, c2 _ (by omega) (by omega)⟩, ⟨fun i x y => ?_, fun i x y => ?_⟩, fun b x y => ?_, f, g, g _ (by omega) (by omega), g3⟩
  · have y : i < uPa u := y
    show uPt u i ≤ uPt u (uPa u - 1)
    by_cases hi : i = uPa u - 1
    · rw [hi]; omega
    · exact Int.le_of_lt (c1 i (uPa u - 1) x (by omega) (by omega))
  · have x : uPa u ≤ i := x
    have y : i < uPa u := y
    omega
  · have y : b < uPb u + 1 := y
    show 2 ≤ uI (uPz u) (uPb u) (uPa u - uPs u) b
    by_cases hb2 : b = uPb u
    · rw [hb2, uI_s]; exact h2
    · rw [uI_n _ _ hb2]; exact e b x (by omega)
theorem srPut_inv {wd fo span n K : Int} (hwf : 1 ≤ wd * fo) (hw : 1 ≤ wd) (hs : 2 ≤ span ∧ span ≤ 16) {u : SrS} (hk : SrOk u) (hK : K + 1 ≤ 20000) (h : SInv wd fo n K u) {t v : Int} (hg : uPg u < t) (ht : 0 ≤ t ∧ t ≤ 99999) (htn : t ≤ n) (hv : -100000 ≤ v ∧ v ≤ 100000) : SInv wd fo n (K + 1) (srPut wd fo span u t v) := by
  have hp := plU_ok hk t
  obtain ⟨a1, a2⟩ := ptAdd_inv (v := v) hk h hg htn hp
  unfold srPut srTake
  split
  · rename_i q1
    have hra := adA_r (uPa u) (uPt u) (plU u t) t
    have hps := hk.2.1
    have q1 : span ≤ adA (uPa u) (uPt u) (plU u t) t - uPs u := q1
    have hq : SInv wd fo n (K + 1) (ptSeal (ptAdd u (plU u t) t v)) := ptSeal_inv (u := ptAdd u (plU u t) t v) ⟨hps.1, by show uPs u < adA (uPa u) (uPt u) (plU u t) t; omega⟩ hk.1.1 a1 (by show 2 ≤ adA (uPa u) (uPt u) (plU u t) t - uPs u; omega) a2
    split
    · rename_i q2
      exact rollBlk_inv hwf hw (ptSeal_ok hk ht hv (by show 1 ≤ adA (uPa u) (uPt u) (plU u t) t - uPs u; omega)) (by omega) hK hq
    · exact hq
  · exact a1
