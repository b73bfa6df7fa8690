/-! more room, hidden parts, one of two series, checksums -/
theorem m_up {l : Launch} {y : MethodName} {ws : List Cond} {rm rm' : Room} {Pc : Array Value → State → Prop} {Qc : Array Value → State → Outcome → State → Prop} {mc ms : Nat} {free : Addr → Prop} (h : Met l y ws rm Pc Qc mc ms free) (hf : Nat.ble rm.frames rm'.frames = true) (hl : Nat.ble rm.locals rm'.locals = true) (hc : Nat.ble rm.cells rm'.cells = true) (hs : Nat.ble rm.slots rm'.slots = true) : Met l y ws rm' Pc Qc mc ms free :=
  MetFree.respec h (fun _ _ q => q) (Nat.le_of_ble_eq_true hf) (Nat.le_of_ble_eq_true hl) (Nat.le_of_ble_eq_true hc) (Nat.le_of_ble_eq_true hs)
theorem m_imp {l : Launch} {y : MethodName} {ws : List Cond} {rm : Room} {Pc : Array Value → State → Prop} {Qc Qd : Array Value → State → Outcome → State → Prop} {mc ms : Nat} {free : Addr → Prop} (h : Met l y ws rm Pc Qc mc ms free) (hq : ∀ a s o t, Qc a s o t → Qd a s o t) : Met l y ws rm Pc Qd mc ms free :=
  MetFree.imp h (fun a s o t q => ⟨hq a s o t q.1, q.2⟩)
theorem mQi_X {S : Type} {D : va_G} {ws w2 : va_W} {f : S → va_W} {sz : Nat} {v : Int} (z : S) (e : w2 = f z) : ∀ a s o t, mQi D ws w2 sz v a s o t → mQiX D ws f sz v a s o t := by
  subst e
  intro a s o t h
  obtain ⟨⟨r, u, h⟩, h2⟩ := h
  exact ⟨⟨r, z, h⟩, h2⟩
abbrev sl (n : Int) (a b : SrS) : SrS := if n = 0 then a else b
def dgN (f : fI) (d : Int) : Nat → Int
  | 0 => d
  | k + 1 => dgN f d k * 31 + f k
def dgP (tt vv : fI) (a d : Int) : Nat → Int
  | 0 => d
  | k + 1 => (dgP tt vv a d k * 31 + tt (a + k)) * 31 + vv (a + k)
def szF (u : SrS) (b : Int) : Int := if b < uPb u then uPz u b else uPa u - uPs u
def btF (u : SrS) (b : Int) : Int := if b < uPb u then bitF (uPt u) (uPv u) (sm (uPz u) b) (uPz u b) else 0
def dgB (u : SrS) (d : Int) : Nat → Int
  | 0 => d
  | k + 1 => dgP (uPt u) (uPv u) (sm (uPz u) k) ((dgB u d k * 31 + szF u k) * 31 + btF u k) (szF u k).toNat
def dgW (u : SrS) (qa qb qc d : Int) : Int := dgN (fun k => tlW u (qa + k * qb) (qa + k * qb + qb) qc) d 6
def dgE (ec : fI) (to d : Int) : Int := dgN (fun k => ec (Int.tmod (to - 1 - k / 3) 20 * 3 + k % 3)) d (min 5 to * 3).toNat
def dgS (u : SrS) (qa qb qc d : Int) : Int := dgW u qa qb qc (dgN (uKf u) (dgN (uFf u) (dgB u (d * 31 + (uPb u + 1)) (uPb u + 1).toNat * 31 + uFa u) (uFa u * 7).toNat * 31 + uKa u) (uKa u * 7).toNat)
theorem SrOk.blk {u : SrS} (h : SrOk u) {b : Int} (h0 : 0 ≤ b) (hb : b < uPb u) : 0 ≤ sm (uPz u) b ∧ sm (uPz u) b + uPz u b ≤ uPs u := by
  obtain ⟨h1, h2, -, h4, -⟩ := h
  have h3 := sm_leI h4 (b := b) h0 (by omega)
  have h5 := sm_mono h4 (a := b + 1) (by omega) (uPb u - (b + 1)).toNat (by omega)
  rw [show b + 1 + (((uPb u - (b + 1)).toNat : Nat) : Int) = uPb u by omega, sm_s _ h0] at h5
  omega
theorem szF_s {u : SrS} {b : Int} (h : b < uPb u) : szF u b = uPz u b := if_pos h
theorem szF_o {u : SrS} {b : Int} (h : ¬ b < uPb u) : szF u b = uPa u - uPs u := if_neg h
theorem SrOk.szr {u : SrS} (h : SrOk u) {b : Int} (h0 : 0 ≤ b) (hb : b ≤ uPb u) : 0 ≤ szF u b ∧ szF u b ≤ 16 ∧ 0 ≤ sm (uPz u) b ∧ sm (uPz u) b + szF u b ≤ uPa u := by
  by_cases h9 : b < uPb u
  · have h1 := h.blk h0 h9
    have h2 := h.2.2.2.1 b h0 h9
    have h3 := h.2.1
    rw [szF_s h9]
    omega
  · have h3 := h.2.1
    rw [szF_o h9, show b = uPb u by omega]
    omega
theorem bitF_6 {tt vv : fI} (ht : ∀ j, 0 ≤ tt j ∧ tt j ≤ 99999) (hv : ∀ j, -100000 ≤ vv j ∧ vv j ≤ 100000) (a n : Int) : 6 ≤ bitF tt vv a n ∧ bitF tt vv a n ≤ 6 + 46 * n.toNat := by
  have h := bsN_ok (x := (6, 0, 0, 0, 0)) ⟨rfl, (by show (6 : Int) ≤ 6 ∧ (6 : Int) ≤ 6 + 46 * 0; omega), (by decide), (by decide), (by decide), fun h => absurd rfl h⟩ ht hv a n.toNat
  exact h.2.1
