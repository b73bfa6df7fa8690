/-! the checksum -/
theorem tkS_fi (wd fo kp lk wh le ev ab li ti : Int) (x : StS) : sFi x ≤ sFi (tkS wd fo kp lk wh le ev ab li ti x) ∧ sFi (tkS wd fo kp lk wh le ev ab li ti x) ≤ sFi x + 1 := by
  have h : ∀ (z : Int × Int × fI) (n s e : Int), z.2.1 ≤ (lgE z n s e).2.1 ∧ (lgE z n s e).2.1 ≤ z.2.1 + 1 := by
    intro z n s e
    unfold lgE
    split
    · dsimp only
      split <;> omega
    · omega
  exact h _ _ _ _
theorem btF_r {u : SrS} (h : SrOk u) {b : Int} (h0 : 0 ≤ b) : 0 ≤ btF u b ∧ btF u b ≤ 10000 := by
  unfold btF
  split
  · rename_i h1
    have h2 := bitF_6 (tt := uPt u) (vv := uPv u) h.2.2.2.2.1 h.2.2.2.2.2.1 (sm (uPz u) b) (uPz u b)
    have h3 := h.2.2.2.1 b h0 h1
    omega
  · omega
def dgV (ec : fI) (to d : Int) : Nat → Int
  | 0 => d
  | k + 1 => ((dgV ec to d k * 31 + wr (ec (Int.tmod (to - 1 - k) 20 * 3 + 0))) * 31 + wr (ec (Int.tmod (to - 1 - k) 20 * 3 + 1))) * 31 + wr (ec (Int.tmod (to - 1 - k) 20 * 3 + 2))
def dhW (u : SrS) (qa qb qc d : Int) : Int := dgN (fun k => wr (tlW u (qa + k * qb) (qa + k * qb + qb) qc)) d 6
def dhB (u : SrS) (d : Int) : Int := dgB u (d * 31 + (uPb u + 1)) (uPb u + 1).toNat
def dhR (fc : fI) (ba d : Int) : Int := dgN fc (d * 31 + ba) (ba * 7).toNat
def dhS (u : SrS) (qa qb qc d : Int) : Int := dhW u qa qb qc (dhR (uKf u) (uKa u) (dhR (uFf u) (uFa u) (dhB u d)))
def dhT (qa qb qc la wh le : Int) (x : StS) : Int := ((dhS (sU2 x) qa qb qc (dhS (sU1 x) qa qb qc ((((58058 * 31 + sNow x) * 31 + 2) * 31 + la) * 31 + sTo x)) * 31 + sSt x) * 31 + sRow x) * 31 + wr (tlF (sU1 x) (fi (sU1 x) (sNow x - le)) (fi (sU1 x) (sNow x)) wh)
def dhF (qa qb qc la wh le : Int) (x : StS) : Int := dgV (sEc x) (sTo x) (dhT qa qb qc la wh le x) (min 5 (sTo x)).toNat
