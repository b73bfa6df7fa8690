/-! what the oracles answer, as functions -/
/-- the first index from lo on, n of them looked at, whose number isn't below t -/
def frs (f : fI) (t : Int) : Int → Nat → Int
  | lo, 0 => lo
  | lo, n + 1 => if t ≤ f lo then lo else frs f t (lo + 1) n
theorem frs_ok (f : fI) (t : Int) : ∀ (n : Nat) (lo : Int), lo ≤ frs f t lo n ∧ frs f t lo n ≤ lo + n ∧ (∀ j, lo ≤ j → j < frs f t lo n → f j < t) ∧ (frs f t lo n < lo + n → t ≤ f (frs f t lo n))
  | 0, lo => ⟨Int.le_refl _, by show lo ≤ lo + ((0 : Nat) : Int); omega, fun j h1 h2 => by have : j < lo := h2; omega, fun h => by have : lo < lo + ((0 : Nat) : Int) := h; omega⟩
  | n + 1, lo => by
    by_cases h : t ≤ f lo
    · have e : frs f t lo (n + 1) = lo := if_pos h
      rw [e]
      exact ⟨Int.le_refl _, by omega, fun j h1 h2 => by omega, fun _ => h⟩
    · have e : frs f t lo (n + 1) = frs f t (lo + 1) n := if_neg h
      obtain ⟨a1, a2, a3, a4⟩ := frs_ok f t n (lo + 1)
      rw [e]
      refine ⟨by omega, by omega, fun j h1 h2 => ?_, fun q => a4 (by omega)⟩
      by_cases hj : j = lo
      · rw [hj]; omega
      · exact a3 j (by omega) h2
theorem frs_congr {f g : fI} (t : Int) : ∀ (n : Nat) (lo : Int), (∀ j, lo ≤ j → j < lo + n → f j = g j) → frs f t lo n = frs g t lo n
  | 0, lo, _ => rfl
  | n + 1, lo, h => by
    have h1 := h lo (by omega) (by omega)
    have ih := frs_congr (f := f) (g := g) t n (lo + 1) (fun j a b => h j (by omega) (by omega))
    show (if t ≤ f lo then lo else frs f t (lo + 1) n) = (if t ≤ g lo then lo else frs g t (lo + 1) n)
    rw [h1, ih]
/-- the place of a time in the open block -/
def plU (u : SrS) (t : Int) : Int := frs (uPt u) t (uPs u) (uPa u - uPs u).toNat
theorem plU_ok {u : SrS} (h : SrOk u) (t : Int) : (uPs u ≤ plU u t ∧ plU u t ≤ uPa u) ∧ (∀ j, uPs u ≤ j → j < plU u t → uPt u j < t) ∧ (plU u t < uPa u → t ≤ uPt u (plU u t)) := by
  have h2 := h.2.1
  obtain ⟨a1, a2, a3, a4⟩ := frs_ok (uPt u) t (uPa u - uPs u).toNat (uPs u)
  rw [show uPs u + (((uPa u - uPs u).toNat : Nat) : Int) = uPa u by omega] at a2 a4
  exact ⟨⟨a1, a2⟩, a3, a4⟩
/-- how many of the first blocks end below t -/
def bbU (u : SrS) (t : Int) : Int := frs (fun b => uPt u (sm (uPz u) (b + 1) - 1)) t 0 (uPb u).toNat
theorem bbU_ok {u : SrS} (h : SrOk u) (t : Int) : Bb (uPt u) (uPz u) t (uPb u) (bbU u t) := by
  have h1 := h.1
  obtain ⟨a1, a2, a3, a4⟩ := frs_ok (fun b => uPt u (sm (uPz u) (b + 1) - 1)) t (uPb u).toNat 0
  rw [show (0 : Int) + (((uPb u).toNat : Nat) : Int) = uPb u by omega] at a2 a4
  exact ⟨a1, a2, a3, a4⟩
def feU (u : SrS) (w t : Int) : Int := frs (fun j => wr (uFf u (j * 7 + 0) + w)) (t + 1) 0 (uFa u).toNat
theorem feU_ok {u : SrS} (h : SrOk u) (w t : Int) : FE (uFf u) (uFa u) w t (feU u w t) := by
  have h1 : 0 ≤ uFa u ∧ uFa u ≤ 24 := h.2.2.2.2.2.2.1
  obtain ⟨a1, a2, a3, a4⟩ := frs_ok (fun j => wr (uFf u (j * 7 + 0) + w)) (t + 1) (uFa u).toNat 0
  rw [show (0 : Int) + (((uFa u).toNat : Nat) : Int) = uFa u by omega] at a2 a4
  exact ⟨⟨a1, a2⟩, fun j b1 b2 => by have h9 : wr (uFf u (j * 7 + 0) + w) < t + 1 := a3 j b1 b2; omega, fun b => by have h9 : t + 1 ≤ wr (uFf u (feU u w t * 7 + 0) + w) := a4 b; omega⟩
def rbU (wd fo kp n : Int) (u : SrS) : SrS := rbN wd fo u (if kp = 0 then 0 else bbU u (n - kp)).toNat
/-- a series as NOW is n -/
def rollS (wd fo kp lk n : Int) (u : SrS) : SrS := rollBy wd fo u (if kp = 0 then 0 else bbU u (n - kp)) (if lk = 0 then 0 else feU (rbU wd fo kp n u) wd (n - lk))
theorem rollAt {wd fo kp lk n : Int} (hwf : 1 ≤ wd * fo) (hw : 1 ≤ wd) {u : SrS} (h : SrOk u) : RollAt wd fo kp lk n u (if kp = 0 then 0 else bbU u (n - kp)) (if lk = 0 then 0 else feU (rbU wd fo kp n u) wd (n - lk)) := by
  have hb := bbU_ok h (n - kp)
  have h1 : 0 ≤ (if kp = 0 then 0 else bbU u (n - kp)) ∧ (if kp = 0 then 0 else bbU u (n - kp)) ≤ uPb u := by
    have h2 := h.1
    split
    · omega
    · exact ⟨hb.1, hb.2.1⟩
  obtain ⟨a1, a2⟩ := rbN_ok hwf hw h (if kp = 0 then 0 else bbU u (n - kp)).toNat (by omega)
  have hf := feU_ok a1 wd (n - lk)
  refine ⟨h1, fun e => if_pos e, fun e => by rw [if_neg e]; exact hb, ?_, fun e => if_pos e, fun e => by rw [if_neg e]; exact hf⟩
  split
  · have h3 : 0 ≤ uFa (rbN wd fo u (if kp = 0 then 0 else bbU u (n - kp)).toNat) := a1.2.2.2.2.2.2.1.1
    omega
  · exact hf.1
theorem rollS_ok {wd fo kp lk n : Int} (hwf : 1 ≤ wd * fo) (hw : 1 ≤ wd) {u : SrS} (h : SrOk u) : SrOk (rollS wd fo kp lk n u) :=
  rollBy_ok hwf hw h (rollAt (kp := kp) (lk := lk) (n := n) hwf hw h).1 (rollAt (kp := kp) (lk := lk) (n := n) hwf hw h).2.2.2.1
/-- the blocks that are left -/
theorem rollS_pb {wd fo kp lk n : Int} (hwf : 1 ≤ wd * fo) (hw : 1 ≤ wd) {u : SrS} (h : SrOk u) : uPb (rollS wd fo kp lk n u) = uPb u - (if kp = 0 then 0 else bbU u (n - kp)) := by
  have h1 := (rollAt (kp := kp) (lk := lk) (n := n) hwf hw h).1
  obtain ⟨a1, a2⟩ := rbN_ok hwf hw h (if kp = 0 then 0 else bbU u (n - kp)).toNat (by omega)
  show uPb (rbN wd fo u (if kp = 0 then 0 else bbU u (n - kp)).toNat) = _
  omega
def srPut (wd fo span : Int) (u : SrS) (t v : Int) : SrS := srTake wd fo span u (plU u t) t v
/-- the place of the first item that isn't below t, where no time falls -/
def fiN (u : SrS) (t : Int) : Nat → Int
  | 0 => 0
  | n + 1 => if itm u n 0 < t then (n : Int) + 1 else fiN u t n
def fi (u : SrS) (t : Int) : Int := fiN u t (uKa u + uFa u + uPa u).toNat
def Srt (u : SrS) : Prop := ∀ i j, 0 ≤ i → i ≤ j → j < uKa u + uFa u + uPa u → itm u i 0 ≤ itm u j 0
theorem fiN_ok {u : SrS} {t : Int} (hs : Srt u) : ∀ n : Nat, (n : Int) ≤ uKa u + uFa u + uPa u → (0 ≤ fiN u t n ∧ fiN u t n ≤ n) ∧ (∀ j, 0 ≤ j → j < fiN u t n → itm u j 0 < t) ∧ ∀ j, fiN u t n ≤ j → j < n → t ≤ itm u j 0
  | 0, _ => ⟨⟨Int.le_refl _, Int.le_refl _⟩, fun j h1 h2 => by have : j < 0 := h2; omega, fun j h1 h2 => by have : 0 ≤ j := h1; omega⟩
  | n + 1, hn => by
    obtain ⟨a1, a2, a3⟩ := fiN_ok (t := t) hs n (by omega)
    by_cases h : itm u n 0 < t
    · have e : fiN u t (n + 1) = (n : Int) + 1 := if_pos h
      rw [e]
      refine ⟨by omega, fun j h1 h2 => ?_, fun j h1 h2 => by omega⟩
      have := hs j n h1 (by omega) (by omega)
      omega
    · have e : fiN u t (n + 1) = fiN u t n := if_neg h
      rw [e]
      refine ⟨by omega, a2, fun j h1 h2 => ?_⟩
      by_cases hj : j = n
      · rw [hj]; omega
      · exact a3 j h1 (by omega)
theorem fi_ok {u : SrS} (h : SrOk u) (hs : Srt u) (t : Int) : FI u t (fi u t) := by
  have h7 : 0 ≤ uFa u ∧ uFa u ≤ 24 := h.2.2.2.2.2.2.1
  have h8 : 0 ≤ uKa u ∧ uKa u ≤ 24 := h.2.2.2.2.2.2.2.1
  have h2 := h.am
  obtain ⟨a1, a2, a3⟩ := fiN_ok (t := t) hs (uKa u + uFa u + uPa u).toNat (by omega)
  exact ⟨⟨a1.1, by have := a1.2; show fiN u t (uKa u + uFa u + uPa u).toNat ≤ _; omega⟩, a2, fun j h3 h4 => a3 j h3 (by omega)⟩
/-- one place alone is that -/
theorem FI_one {u : SrS} {t a b : Int} (ha : FI u t a) (hb : FI u t b) : a = b := by
  obtain ⟨a1, a2, a3⟩ := ha
  obtain ⟨b1, b2, b3⟩ := hb
  rcases Int.lt_trichotomy a b with q | q | q
  · have := b2 a (by omega) q
    have := a3 a (by omega) (by omega)
    omega
  · exact q
  · have := a2 b (by omega) q
    have := b3 b (by omega) (by omega)
    omega
/-- what a window tells of a series, without filling -/
def tlW (u : SrS) (t1 t2 w : Int) : Int := tlF u (fi u t1) (fi u t2) w
/-- a store's numbers: two series, the rule's state and number, events, NOW -/
abbrev StS : Type := SrS × SrS × (Int × Int) × (Int × Int × fI) × Int
abbrev sU1 (x : StS) : SrS := x.1
abbrev sU2 (x : StS) : SrS := x.2.1
abbrev sSt (x : StS) : Int := x.2.2.1.1
abbrev sRow (x : StS) : Int := x.2.2.1.2
abbrev sTo (x : StS) : Int := x.2.2.2.1.1
abbrev sFi (x : StS) : Int := x.2.2.2.1.2.1
abbrev sEc (x : StS) : fI := x.2.2.2.1.2.2
abbrev sNow (x : StS) : Int := x.2.2.2.2
/-- what is set: widths, keeps, the rule -/
abbrev CoS : Type := (Int × Int × Int × Int) × (Int × Int × Int × Int × Int × Int)
/-- what the rule comes to as NOW is n -/
def tkR (wh le ev ab li ti st row n : Int) (u : SrS) : Int × Int × Int := ruF ev ab li ti st row n (wr (tlF u (fi u (n - le)) (fi u n) wh))
def tkS (wd fo kp lk wh le ev ab li ti : Int) (x : StS) : StS :=
  (rollS wd fo kp lk (sNow x + 1) (sU1 x), rollS wd fo kp lk (sNow x + 1) (sU2 x),
   ((tkR wh le ev ab li ti (sSt x) (sRow x) (sNow x + 1) (rollS wd fo kp lk (sNow x + 1) (sU1 x))).1, (tkR wh le ev ab li ti (sSt x) (sRow x) (sNow x + 1) (rollS wd fo kp lk (sNow x + 1) (sU1 x))).2.1),
   lgE (sTo x, sFi x, sEc x) (sNow x + 1) (tkR wh le ev ab li ti (sSt x) (sRow x) (sNow x + 1) (rollS wd fo kp lk (sNow x + 1) (sU1 x))).1 (tkR wh le ev ab li ti (sSt x) (sRow x) (sNow x + 1) (rollS wd fo kp lk (sNow x + 1) (sU1 x))).2.2,
   sNow x + 1)
