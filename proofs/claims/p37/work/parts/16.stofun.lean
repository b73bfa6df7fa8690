/-! a store -/
/-- how many blocks, how many fine buckets are rolled up as NOW is n -/
def RollAt (wd fo kp lk n : Int) (u : SrS) (b e : Int) : Prop := (0 ≤ b ∧ b ≤ uPb u) ∧ (kp = 0 → b = 0) ∧ (kp ≠ 0 → Bb (uPt u) (uPz u) (n - kp) (uPb u) b) ∧ (0 ≤ e ∧ e ≤ uFa (rbN wd fo u b.toNat)) ∧ (lk = 0 → e = 0) ∧ (lk ≠ 0 → FE (uFf (rbN wd fo u b.toNat)) (uFa (rbN wd fo u b.toNat)) wd (n - lk) e)
/-- a rule as NOW is n and it is told t -/
def ruF (ev ab li ti st row n t : Int) : Int × Int × Int := if Int.tmod n ev = 0 then cbF ab li ti st row t else (st, row, 0)
/-- the events behind that: how many, how many firings, the latest ones -/
def lgE (x : Int × Int × fI) (n s e : Int) : Int × Int × fI := if e = 1 then (x.1 + 1, (if s = 2 then x.2.1 + 1 else x.2.1), evF x.2.2 x.1 n 0 s) else x
