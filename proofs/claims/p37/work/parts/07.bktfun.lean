/-! buckets -/
/-- a number as 32 bits hold it -/
def wr (z : Int) : Int := (iI z).toInt
theorem iI_wr (z : Int) : iI (wr z) = iI z := Int32.ofInt_toInt (iI z)
theorem wr_r (z : Int) : rI (wr z) := by
  have h1 := Int32.le_toInt (iI z)
  have h2 := Int32.toInt_lt (iI z)
  unfold wr
  constructor <;> omega
theorem wr_id {z : Int} (h : rI z) : wr z = z := iI_toInt h
def tk1 (f : fI) (l c : Int) : fI := uI f (l * 7 + 1) (wr (f (l * 7 + 1) + c))
def tk2 (f : fI) (l s : Int) : fI := uI f (l * 7 + 2) (wr (f (l * 7 + 2) + s))
def tk3 (f : fI) (l v : Int) : fI := uI f (l * 7 + 3) (min (f (l * 7 + 3)) v)
def tk4 (f : fI) (l v : Int) : fI := uI f (l * 7 + 4) (max (f (l * 7 + 4)) v)
def tk6 (f : fI) (l v : Int) : fI := uI f (l * 7 + 6) v
/-- the last bucket l takes an item in -/
def tkM (f : fI) (l : Int) (src : fI) : fI := tk6 (tk4 (tk3 (tk2 (tk1 f l (src 1)) l (src 2)) l (src 3)) l (src 4)) l (src 6)
/-- a point as an item -/
def srP (v : Int) : fI := fun w => if w = 1 then 1 else v
/-- a point's number w -/
def nmP (tt vv : fI) (i w : Int) : Int := if w = 0 then tt i else if w = 1 then 1 else vv i
theorem srP_1 (v : Int) : srP v 1 = 1 := rfl
/-- the bucket i of a row as an item -/
def srB (f : fI) (i : Int) : fI := fun w => f (i * 7 + w)
/-- a new bucket b, its first i numbers -/
def nwB (f : fI) (b st : Int) (src : fI) (i : Int) : fI := fun j => if b * 7 ≤ j ∧ j < b * 7 + i then (if j = b * 7 then st else src (j - b * 7)) else f j
theorem nwB_1 (f : fI) (b st : Int) (src : fI) : uI f (b * 7 + 0) st = nwB f b st src 1 := by
  funext j
  unfold uI nwB
  by_cases hj : j = b * 7 + 0
  · rw [if_pos hj, if_pos (by omega), if_pos (by omega)]
  · rw [if_neg hj, if_neg (by omega)]
theorem nwB_s (f : fI) (b st : Int) (src : fI) {i : Int} (h : 1 ≤ i) : uI (nwB f b st src i) (b * 7 + i) (src i) = nwB f b st src (i + 1) := by
  funext j
  unfold uI nwB
  by_cases hj : j = b * 7 + i
  · subst hj; rw [if_pos rfl, if_pos (by omega), if_neg (by omega), show b * 7 + i - b * 7 = i by omega]
  · rw [if_neg hj]
    by_cases h2 : b * 7 ≤ j ∧ j < b * 7 + i
    · rw [if_pos h2, if_pos (show b * 7 ≤ j ∧ j < b * 7 + (i + 1) by omega)]
    · rw [if_neg h2, if_neg (show ¬ (b * 7 ≤ j ∧ j < b * 7 + (i + 1)) by omega)]
/-- a bucket row takes an item in: into the last one, or into a new one -/
def bTake (b : Int × fI) (st : Int) (src : fI) : Int × fI := if 1 ≤ b.1 ∧ b.2 ((b.1 - 1) * 7 + 0) = st then (b.1, tkM b.2 (b.1 - 1) src) else (b.1 + 1, nwB b.2 b.1 st src 7)
def bDrop (b : Int × fI) : Int × fI := (b.1 - 1, drK b.2 7 (b.1 * 7))
def bFull (b : Int × fI) : Int × fI := if 25 ≤ b.1 then bDrop b else b
/-- where a bucket begins that has this time -/
def stF (t w : Int) : Int := t - Int.tmod t w
abbrev FC : Type := (Int × fI) × (Int × fI)
/-- the first fine bucket is rolled up -/
def rollFine (wd fo : Int) (x : FC) : FC := (bDrop x.1, bFull (bTake x.2 (stF (x.1.2 (0 * 7 + 0)) (wd * fo)) (srB x.1.2 0)))
/-- the point i goes into the fine buckets -/
def fTake (wd fo : Int) (tt vv : fI) (i : Int) (x : FC) : FC :=
  if 25 ≤ (bTake x.1 (stF (tt i) wd) (srP (vv i))).1 then rollFine wd fo (bTake x.1 (stF (tt i) wd) (srP (vv i)), x.2) else (bTake x.1 (stF (tt i) wd) (srP (vv i)), x.2)
def blkN (wd fo : Int) (tt vv : fI) (x : FC) : Nat → FC
  | 0 => x
  | n + 1 => fTake wd fo tt vv n (blkN wd fo tt vv x n)
theorem tk_r {f : fI} {l : Int} {src : fI} (h : ∀ j, rI (f j)) (hs : ∀ w, rI (src w)) (j : Int) : rI (tkM f l src j) := by
  unfold tkM tk6
  refine uI_r (fun j => ?_) (hs _) j
  unfold tk4
  refine uI_r (lo := -2147483648) (hi := 2147483647) (fun j => ?_) ?_ j
  · unfold tk3
    refine uI_r (lo := -2147483648) (hi := 2147483647) (fun j => ?_) ?_ j
    · unfold tk2
      refine uI_r (lo := -2147483648) (hi := 2147483647) (fun j => ?_) (wr_r _) j
      unfold tk1
      exact uI_r (lo := -2147483648) (hi := 2147483647) h (wr_r _) j
    · have h1 : rI (tk2 (tk1 f l (src 1)) l (src 2) (l * 7 + 3)) := by
        unfold tk2
        refine uI_r (lo := -2147483648) (hi := 2147483647) (fun j => ?_) (wr_r _) _
        unfold tk1
        exact uI_r (lo := -2147483648) (hi := 2147483647) h (wr_r _) j
      have h2 := hs 3
      omega
  · have h1 : rI (tk3 (tk2 (tk1 f l (src 1)) l (src 2)) l (src 3) (l * 7 + 4)) := by
      unfold tk3
      refine uI_r (lo := -2147483648) (hi := 2147483647) (fun j => ?_) ?_ _
      · unfold tk2
        refine uI_r (lo := -2147483648) (hi := 2147483647) (fun j => ?_) (wr_r _) j
        unfold tk1
        exact uI_r (lo := -2147483648) (hi := 2147483647) h (wr_r _) j
      · have h1 : rI (tk2 (tk1 f l (src 1)) l (src 2) (l * 7 + 3)) := by
          unfold tk2
          refine uI_r (lo := -2147483648) (hi := 2147483647) (fun j => ?_) (wr_r _) _
          unfold tk1
          exact uI_r (lo := -2147483648) (hi := 2147483647) h (wr_r _) j
        have h2 := hs 3
        omega
    have h2 := hs 4
    omega
theorem nw_r {f : fI} {b st : Int} {src : fI} {i : Int} (h : ∀ j, rI (f j)) (hs : ∀ w, rI (src w)) (ht : rI st) (j : Int) : rI (nwB f b st src i j) := by
  unfold nwB
  split
  · split
    · exact ht
    · exact hs _
  · exact h j
theorem srP_r {v : Int} (h : rI v) (w : Int) : rI (srP v w) := by
  unfold srP
  split
  · omega
  · exact h
/-- what safe rows of buckets are -/
def bOk (b : Int × fI) : Prop := 0 ≤ b.1 ∧ b.1 ≤ 24 ∧ ∀ j, rI (b.2 j)
theorem bTake_ok {b : Int × fI} {st : Int} {src : fI} (h : bOk b) (hs : ∀ w, rI (src w)) (ht : rI st) : 1 ≤ (bTake b st src).1 ∧ b.1 ≤ (bTake b st src).1 ∧ (bTake b st src).1 ≤ b.1 + 1 ∧ ∀ j, rI ((bTake b st src).2 j) := by
  obtain ⟨h1, h2, h3⟩ := h
  unfold bTake
  split
  · rename_i q
    exact ⟨q.1, Int.le_refl _, by omega, tk_r h3 hs⟩
  · exact ⟨by show 1 ≤ b.1 + 1; omega, by show b.1 ≤ b.1 + 1; omega, Int.le_refl _, nw_r h3 hs ht⟩
theorem bDrop_ok {b : Int × fI} (h1 : 1 ≤ b.1) (h2 : b.1 ≤ 25) (h3 : ∀ j, rI (b.2 j)) : bOk (bDrop b) := ⟨by show 0 ≤ b.1 - 1; omega, by show b.1 - 1 ≤ 24; omega, drK_r (lo := -2147483648) (hi := 2147483647) h3⟩
theorem bFull_ok {b : Int × fI} (h1 : 1 ≤ b.1) (h2 : b.1 ≤ 25) (h3 : ∀ j, rI (b.2 j)) : bOk (bFull b) := by
  unfold bFull
  split
  · exact bDrop_ok h1 h2 h3
  · exact ⟨by omega, by omega, h3⟩
theorem stF_r {t w : Int} (h : 0 ≤ t ∧ t ≤ 2147483647) (hw : 1 ≤ w) : 0 ≤ stF t w ∧ stF t w ≤ t := by
  unfold stF
  rw [Int.tmod_eq_emod_of_nonneg h.1]
  have h1 := Int.emod_nonneg t (show w ≠ 0 by omega)
  have h2 := Int.emod_add_mul_ediv t w
  have h3 := Int.mul_nonneg (show 0 ≤ w by omega) (Int.ediv_nonneg h.1 (show 0 ≤ w by omega))
  omega
