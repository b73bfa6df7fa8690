/-! a series' state -/
abbrev PtS : Type := Int × fI × fI × fI × Int × Int × Int
abbrev SrS : Type := PtS × FC
abbrev uPa (u : SrS) : Int := u.1.1
abbrev uPt (u : SrS) : fI := u.1.2.1
abbrev uPv (u : SrS) : fI := u.1.2.2.1
abbrev uPz (u : SrS) : fI := u.1.2.2.2.1
abbrev uPb (u : SrS) : Int := u.1.2.2.2.2.1
abbrev uPs (u : SrS) : Int := u.1.2.2.2.2.2.1
abbrev uPg (u : SrS) : Int := u.1.2.2.2.2.2.2
abbrev uFa (u : SrS) : Int := u.2.1.1
abbrev uFf (u : SrS) : fI := u.2.1.2
abbrev uKa (u : SrS) : Int := u.2.2.1
abbrev uKf (u : SrS) : fI := u.2.2.2
/-- safe numbers -/
def SrOk (u : SrS) : Prop := (0 ≤ uPb u ∧ uPb u ≤ 8) ∧ (0 ≤ uPs u ∧ uPs u ≤ uPa u ∧ uPa u ≤ uPs u + 15 ∧ uPs u = sm (uPz u) (uPb u)) ∧ (-1 ≤ uPg u ∧ uPg u ≤ 99999) ∧ (∀ b, 0 ≤ b → b < uPb u → 1 ≤ uPz u b ∧ uPz u b ≤ 16) ∧ (∀ j, 0 ≤ uPt u j ∧ uPt u j ≤ 99999) ∧ (∀ j, -100000 ≤ uPv u j ∧ uPv u j ≤ 100000) ∧ (0 ≤ uFa u ∧ uFa u ≤ 24) ∧ (0 ≤ uKa u ∧ uKa u ≤ 24) ∧ (∀ j, rI (uFf u j)) ∧ ∀ j, rI (uKf u j)
theorem sm_le {z : fI} {n : Int} (h : ∀ b, 0 ≤ b → b < n → 1 ≤ z b ∧ z b ≤ 16) : ∀ k : Nat, (k : Int) ≤ n → (k : Int) ≤ sm z k ∧ sm z k ≤ 16 * k
  | 0, _ => by rw [show ((0 : Nat) : Int) = 0 from rfl, sm_0]; omega
  | k + 1, hk => by
    have ih := sm_le h k (by omega)
    have h1 := h k (by omega) (by omega)
    rw [show ((k + 1 : Nat) : Int) = (k : Int) + 1 by omega, sm_s z (by omega)]
    omega
theorem sm_leI {z : fI} {n : Int} (h : ∀ b, 0 ≤ b → b < n → 1 ≤ z b ∧ z b ≤ 16) {b : Int} (h0 : 0 ≤ b) (hb : b ≤ n) : b ≤ sm z b ∧ sm z b ≤ 16 * b := by
  have h1 := sm_le h b.toNat (by omega)
  rw [Int.toNat_of_nonneg h0] at h1
  exact h1
theorem SrOk.am {u : SrS} (h : SrOk u) : 0 ≤ uPa u ∧ uPa u ≤ 143 := by
  obtain ⟨h1, h2, -, h4, -⟩ := h
  have h3 := sm_leI h4 h1.1 (Int.le_refl _)
  omega
theorem SrOk.sz {u : SrS} (h : SrOk u) : ∀ b, 0 ≤ b → b < uPb u → 1 ≤ sm (uPz u) (b + 1) ∧ sm (uPz u) (b + 1) ≤ 160 := by
  intro b h0 hb
  obtain ⟨h1, h2, -, h4, -⟩ := h
  have h3 := sm_leI h4 (b := b + 1) (by omega) (by omega)
  omega
/-- how many items -/
abbrev uN (u : SrS) : Int := uKa u + uFa u + uPa u
/-- the item i's number w -/
def itm (u : SrS) (i w : Int) : Int := if i < uKa u then uKf u (i * 7 + w) else if i - uKa u < uFa u then uFf u ((i - uKa u) * 7 + w) else nmP (uPt u) (uPv u) (i - uKa u - uFa u) w
theorem itm_r {u : SrS} (h : SrOk u) (i w : Int) : rI (itm u i w) := by
  obtain ⟨-, -, -, -, h5, h6, -, -, h9, h10⟩ := h
  unfold itm
  split
  · exact h10 _
  · split
    · exact h9 _
    · unfold nmP
      have h7 := h5 (i - uKa u - uFa u)
      have h8 := h6 (i - uKa u - uFa u)
      split
      · omega
      · split <;> omega
/-- r is the place of the first item whose time isn't below t -/
def FI (u : SrS) (t r : Int) : Prop := (0 ≤ r ∧ r ≤ uKa u + uFa u + uPa u) ∧ (∀ j, 0 ≤ j → j < r → itm u j 0 < t) ∧ ∀ j, r ≤ j → j < uKa u + uFa u + uPa u → t ≤ itm u j 0
/-- how far apart the ends are behind i halvings, at the most -/
def hvB (i : Int) : Int := if i ≤ 0 then 255 else if i = 1 then 127 else if i = 2 then 63 else if i = 3 then 31 else if i = 4 then 15 else if i = 5 then 7 else if i = 6 then 3 else if i = 7 then 1 else 0
theorem hvB_s {i g : Int} (hi : 0 ≤ i) (h : g ≤ hvB i) (hg : 0 ≤ g) : g / 2 ≤ hvB (i + 1) := by
  unfold hvB at h ⊢
  split at h
  · rw [if_neg (by omega), if_pos (by omega)]; omega
  · split at h
    · rw [if_neg (by omega), if_neg (by omega), if_pos (by omega)]; omega
    · split at h
      · rw [if_neg (by omega), if_neg (by omega), if_neg (by omega), if_pos (by omega)]; omega
      · split at h
        · rw [if_neg (by omega), if_neg (by omega), if_neg (by omega), if_neg (by omega), if_pos (by omega)]; omega
        · split at h
          · rw [if_neg (by omega), if_neg (by omega), if_neg (by omega), if_neg (by omega), if_neg (by omega), if_pos (by omega)]; omega
          · split at h
            · rw [if_neg (by omega), if_neg (by omega), if_neg (by omega), if_neg (by omega), if_neg (by omega), if_neg (by omega), if_pos (by omega)]; omega
            · split at h
              · rw [if_neg (by omega), if_neg (by omega), if_neg (by omega), if_neg (by omega), if_neg (by omega), if_neg (by omega), if_neg (by omega), if_pos (by omega)]; omega
              · rw [if_neg (by omega), if_neg (by omega), if_neg (by omega), if_neg (by omega), if_neg (by omega), if_neg (by omega), if_neg (by omega), if_neg (by omega)]
                split at h <;> omega
theorem hvB_8 {i : Int} (h : 8 ≤ i) : hvB i = 0 := by
  unfold hvB
  rw [if_neg (by omega), if_neg (by omega), if_neg (by omega), if_neg (by omega), if_neg (by omega), if_neg (by omega), if_neg (by omega), if_neg (by omega)]
theorem hvB_0 : hvB 0 = 255 := rfl
/-- the sum of the numbers w of the items a .. -/
def totN (u : SrS) (w a : Int) : Nat → Int
  | 0 => 0
  | n + 1 => totN u w a n + itm u (a + n) w
def tot (u : SrS) (a b w : Int) : Int := totN u w a (b - a).toNat
theorem tot_0 (u : SrS) (a w : Int) : tot u a a w = 0 := by unfold tot; rw [show (a - a).toNat = 0 by omega]; rfl
theorem tot_s (u : SrS) {a i : Int} (w : Int) (h : a ≤ i) : tot u a i w + itm u i w = tot u a (i + 1) w := by
  unfold tot
  rw [show (i + 1 - a).toNat = (i - a).toNat + 1 by omega]
  show _ = totN u w a (i - a).toNat + itm u (a + ((i - a).toNat : Int)) w
  rw [show a + ((i - a).toNat : Int) = i by omega]
/-- the least number w, the greatest -/
def leaN (u : SrS) (a : Int) : Nat → Int
  | 0 => itm u a 3
  | n + 1 => min (leaN u a n) (itm u (a + 1 + n) 3)
def lea (u : SrS) (a b : Int) : Int := leaN u a (b - a - 1).toNat
def greN (u : SrS) (a : Int) : Nat → Int
  | 0 => itm u a 4
  | n + 1 => max (greN u a n) (itm u (a + 1 + n) 4)
def gre (u : SrS) (a b : Int) : Int := greN u a (b - a - 1).toNat
theorem lea_0 (u : SrS) (a : Int) : lea u a (a + 1) = itm u a 3 := by unfold lea; rw [show (a + 1 - a - 1).toNat = 0 by omega]; rfl
theorem gre_0 (u : SrS) (a : Int) : gre u a (a + 1) = itm u a 4 := by unfold gre; rw [show (a + 1 - a - 1).toNat = 0 by omega]; rfl
theorem lea_s (u : SrS) {a i : Int} (h : a + 1 ≤ i) : min (lea u a i) (itm u i 3) = lea u a (i + 1) := by
  unfold lea
  rw [show (i + 1 - a - 1).toNat = (i - a - 1).toNat + 1 by omega]
  show _ = min (leaN u a (i - a - 1).toNat) (itm u (a + 1 + ((i - a - 1).toNat : Int)) 3)
  rw [show a + 1 + ((i - a - 1).toNat : Int) = i by omega]
theorem gre_s (u : SrS) {a i : Int} (h : a + 1 ≤ i) : max (gre u a i) (itm u i 4) = gre u a (i + 1) := by
  unfold gre
  rw [show (i + 1 - a - 1).toNat = (i - a - 1).toNat + 1 by omega]
  show _ = max (greN u a (i - a - 1).toNat) (itm u (a + 1 + ((i - a - 1).toNat : Int)) 4)
  rw [show a + 1 + ((i - a - 1).toNat : Int) = i by omega]
theorem lea_r {u : SrS} (h : SrOk u) (a b : Int) : rI (lea u a b) := by
  unfold lea
  generalize (b - a - 1).toNat = n
  induction n with
  | zero => exact itm_r h _ _
  | succ n ih => have h2 := itm_r h (a + 1 + n) 3; show rI (min (leaN u a n) (itm u (a + 1 + n) 3)); omega
theorem gre_r {u : SrS} (h : SrOk u) (a b : Int) : rI (gre u a b) := by
  unfold gre
  generalize (b - a - 1).toNat = n
  induction n with
  | zero => exact itm_r h _ _
  | succ n ih => have h2 := itm_r h (a + 1 + n) 4; show rI (max (greN u a n) (itm u (a + 1 + n) 4)); omega
def quF (s c : Int) : Int := if 0 < c then s.tdiv c else -1000000
/-- what a window of the items a .. b tells, without filling -/
def tlF (u : SrS) (a b w : Int) : Int :=
  if b ≤ a then (if w = 0 then 0 else -1000000)
  else if w = 0 then tot u a b 1 else if w = 1 then tot u a b 2 else if w = 2 then lea u a b else if w = 3 then gre u a b
  else if w = 4 then itm u a 5 else if w = 5 then itm u (b - 1) 6 else if w = 6 then quF (wr (tot u a b 2)) (wr (tot u a b 1)) else gre u a b - lea u a b
/-- e is how many of the first fine buckets of width w end by t -/
def FE (f : fI) (n w t e : Int) : Prop := (0 ≤ e ∧ e ≤ n) ∧ (∀ j, 0 ≤ j → j < e → wr (f (j * 7 + 0) + w) ≤ t) ∧ (e < n → t < wr (f (e * 7 + 0) + w))
/-- the first block is rolled up -/
def rollBlk (wd fo : Int) (u : SrS) : SrS := ((uPa u - uPz u 0, drK (uPt u) (uPz u 0) (uPa u), drK (uPv u) (uPz u 0) (uPa u), drK (uPz u) 1 (uPb u), uPb u - 1, uPs u - uPz u 0, uPg u), blkN wd fo (uPt u) (uPv u) u.2 (uPz u 0).toNat)
def rbN (wd fo : Int) (u : SrS) : Nat → SrS
  | 0 => u
  | n + 1 => rollBlk wd fo (rbN wd fo u n)
def rfN (wd fo : Int) (x : FC) : Nat → FC
  | 0 => x
  | n + 1 => rollFine wd fo (rfN wd fo x n)
/-- as time has gone on: b blocks, then e fine buckets are rolled up -/
def rollBy (wd fo : Int) (u : SrS) (b e : Int) : SrS := ((rbN wd fo u b.toNat).1, rfN wd fo (rbN wd fo u b.toNat).2 e.toNat)
def adA (am : Int) (tt : fI) (pl t : Int) : Int := if pl < am ∧ tt pl = t then am else am + 1
def adF (f : fI) (am : Int) (tt : fI) (pl t v : Int) : fI := if pl < am ∧ tt pl = t then uI f pl v else uI (shK f pl am) pl v
def ptAdd (u : SrS) (pl t v : Int) : SrS := ((adA (uPa u) (uPt u) pl t, adF (uPt u) (uPa u) (uPt u) pl t t, adF (uPv u) (uPa u) (uPt u) pl t v, uPz u, uPb u, uPs u, uPg u), u.2)
def ptSeal (u : SrS) : SrS := ((uPa u, uPt u, uPv u, uI (uPz u) (uPb u) (uPa u - uPs u), uPb u + 1, uPa u, uPt u (uPa u - 1)), u.2)
/-- a point that isn't late is put -/
def srTake (wd fo span : Int) (u : SrS) (pl t v : Int) : SrS :=
  if span ≤ uPa (ptAdd u pl t v) - uPs (ptAdd u pl t v) then
    (if 8 < uPb (ptSeal (ptAdd u pl t v)) then rollBlk wd fo (ptSeal (ptAdd u pl t v)) else ptSeal (ptAdd u pl t v))
  else ptAdd u pl t v
def cpSr (u v : SrS) : SrS := ((uPa v, cpK (uPt u) (uPt v) (uPa v), cpK (uPv u) (uPv v) (uPa v), cpK (uPz u) (uPz v) (uPb v), uPb v, uPs v, uPg v), ((uFa v, cpK (uFf u) (uFf v) (uFa v * 7)), (uKa v, cpK (uKf u) (uKf v) (uKa v * 7))))
