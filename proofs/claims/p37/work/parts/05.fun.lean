/-! closed forms of what the loops make of rows -/
def smN (f : fI) : Nat → Int
  | 0 => 0
  | n + 1 => smN f n + f n
/-- the sum of the first i numbers of a row -/
def sm (f : fI) (i : Int) : Int := smN f i.toNat
theorem sm_0 (f : fI) : sm f 0 = 0 := rfl
theorem sm_s (f : fI) {i : Int} (h : 0 ≤ i) : sm f (i + 1) = sm f i + f i := by
  unfold sm
  rw [show (i + 1).toNat = i.toNat + 1 by omega]
  show smN f i.toNat + f (i.toNat : Int) = _
  rw [Int.toNat_of_nonneg h]
/-- shifted up by one, from the end n down to above i -/
def shK (f : fI) (i n : Int) : fI := fun j => if i < j ∧ j ≤ n then f (j - 1) else f j
theorem shK_0 (f : fI) (n : Int) : shK f n n = f := by funext j; unfold shK; rw [if_neg (by omega)]
theorem shK_s (f : fI) {i n : Int} (h : i ≤ n) : uI (shK f i n) i (shK f i n (i - 1)) = shK f (i - 1) n := by
  funext j
  unfold uI shK
  by_cases hj : j = i
  · subst hj; rw [if_pos rfl, if_neg (by omega), if_pos (by omega)]
  · rw [if_neg hj]
    by_cases h2 : i < j ∧ j ≤ n
    · rw [if_pos h2, if_pos (by omega)]
    · rw [if_neg h2, if_neg (by omega)]
/-- shifted down by g, the places below i - g done -/
def drK (f : fI) (g i : Int) : fI := fun j => if 0 ≤ j ∧ j < i - g then f (j + g) else f j
theorem drK_0 (f : fI) (g : Int) : drK f g g = f := by funext j; unfold drK; rw [if_neg (by omega)]
theorem drK_s (f : fI) {g i : Int} (hg : 0 ≤ g) (h : g ≤ i) : uI (drK f g i) (i - g) (drK f g i i) = drK f g (i + 1) := by
  funext j
  unfold uI drK
  rw [if_neg (show ¬ (0 ≤ i ∧ i < i - g) by omega)]
  by_cases hj : j = i - g
  · subst hj; rw [if_pos rfl, if_pos (by omega), show i - g + g = i by omega]
  · rw [if_neg hj]
    by_cases h2 : 0 ≤ j ∧ j < i - g
    · rw [if_pos h2, if_pos (by omega)]
    · rw [if_neg h2, if_neg (by omega)]
/-- the first i numbers taken over from g -/
def cpK (f g : fI) (i : Int) : fI := fun j => if 0 ≤ j ∧ j < i then g j else f j
theorem cpK_0 (f g : fI) : cpK f g 0 = f := by funext j; unfold cpK; rw [if_neg (by omega)]
theorem cpK_s (f g : fI) {i : Int} (h : 0 ≤ i) : uI (cpK f g i) i (g i) = cpK f g (i + 1) := by
  funext j
  unfold uI cpK
  by_cases hj : j = i
  · subst hj; rw [if_pos rfl, if_pos (by omega)]
  · rw [if_neg hj]
    by_cases h2 : 0 ≤ j ∧ j < i
    · rw [if_pos h2, if_pos (by omega)]
    · rw [if_neg h2, if_neg (by omega)]
theorem cpK_r {f g : fI} {i lo hi : Int} (h1 : ∀ j, lo ≤ f j ∧ f j ≤ hi) (h2 : ∀ j, lo ≤ g j ∧ g j ≤ hi) (j : Int) : lo ≤ cpK f g i j ∧ cpK f g i j ≤ hi := by
  unfold cpK; split
  · exact h2 j
  · exact h1 j
theorem drK_r {f : fI} {g i lo hi : Int} (h1 : ∀ j, lo ≤ f j ∧ f j ≤ hi) (j : Int) : lo ≤ drK f g i j ∧ drK f g i j ≤ hi := by
  unfold drK; split
  · exact h1 _
  · exact h1 j
theorem shK_r {f : fI} {i n lo hi : Int} (h1 : ∀ j, lo ≤ f j ∧ f j ≤ hi) (j : Int) : lo ≤ shK f i n j ∧ shK f i n j ≤ hi := by
  unfold shK; split
  · exact h1 _
  · exact h1 j
theorem uI_r {f : fI} {i v lo hi : Int} (h1 : ∀ j, lo ≤ f j ∧ f j ≤ hi) (hv : lo ≤ v ∧ v ≤ hi) (j : Int) : lo ≤ uI f i v j ∧ uI f i v j ≤ hi := by
  unfold uI; split
  · exact hv
  · exact h1 j
/-- where a time has its place: the first one from lo on, below hi, whose number isn't below t -/
def Pl (tt : fI) (t lo hi pl : Int) : Prop := lo ≤ pl ∧ pl ≤ hi ∧ (∀ j, lo ≤ j → j < pl → tt j < t) ∧ (pl < hi → t ≤ tt pl)
theorem Pl_ex (tt : fI) (t lo : Int) : ∀ n : Nat, ∃ pl, Pl tt t lo (lo + n) pl := by
  intro n
  induction n with
  | zero => exact ⟨lo, by omega, by omega, fun j h1 h2 => by omega, fun h => by omega⟩
  | succ n ih =>
    obtain ⟨pl, h1, h2, h3, h4⟩ := ih
    by_cases h : pl < lo + n
    · exact ⟨pl, h1, by omega, h3, fun _ => h4 h⟩
    · by_cases h5 : t ≤ tt pl
      · exact ⟨pl, h1, by omega, h3, fun _ => h5⟩
      · refine ⟨pl + 1, by omega, by omega, fun j h6 h7 => ?_, fun h => by omega⟩
        by_cases h8 : j = pl
        · subst h8; omega
        · exact h3 j h6 (by omega)
/-- how many of the first blocks end below t: bb of sb -/
def Bb (tt zz : fI) (t sb bb : Int) : Prop := 0 ≤ bb ∧ bb ≤ sb ∧ (∀ b, 0 ≤ b → b < bb → tt (sm zz (b + 1) - 1) < t) ∧ (bb < sb → t ≤ tt (sm zz (bb + 1) - 1))
