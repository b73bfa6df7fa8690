/-! contracts whose world has a part that is only known to be there -/
def mQvX {S : Type} (D : va_G) (ws : va_W) (f : S → va_W) (sz : Nat) : Array Value → State → Outcome → State → Prop := va_Qv (fun (_ : S) => True) (fun z t => mB D ws (f z) sz t) (va_A ws sz)
def mQiX {S : Type} (D : va_G) (ws : va_W) (f : S → va_W) (sz : Nat) (v : Int) : Array Value → State → Outcome → State → Prop := va_Qi (fun (r : Int32) (_ : S) => r = iI v) (fun z t => mB D ws (f z) sz t) (va_A ws sz)
def mQlX {S : Type} (D : va_G) (ws : va_W) (f : S → va_W) (sz : Nat) (v : Int) : Array Value → State → Outcome → State → Prop := va_Ql (fun (r : Int64) (_ : S) => r = jI v) (fun z t => mB D ws (f z) sz t) (va_A ws sz)
section MX
variable {p : Program} {l : Launch} {e : Env} {R : Room} {s : State} {m : MethodId} {args : Array Value} {below : List Frame} {meth : Method} {c : Code} {H : Heap} {locs : List Loc} {cells slots : Nat} {Q : State → Prop}
variable {cc : ByteArray} {pc : Nat} {ls : Array Slot} {rest : List Value} {D : va_G} {tys : List (ClassId × FieldType)} {ws : va_W} {A : Nat → Prop} {H0 : Heap}
/-- a number that is only known to be one -/
theorem m_top {x : Int32} (k : ∀ z : Int, rI z → W p l e R s m args below meth c H locs cells slots Q (F0 m pc ls (.int (iI z) :: rest))) : W p l e R s m args below meth c H locs cells slots Q (F0 m pc ls (.int x :: rest)) := by
  have h := k x.toInt ⟨by have := Int32.le_toInt x; omega, by have := Int32.toInt_lt x; omega⟩
  rw [show iI x.toInt = x from Int32.ofInt_toInt x] at h
  exact h
theorem mi_vretX {S : Type} {WS : va_W} {f : S → va_W} {sz : Nat} (z : S) (hx : p.tables.exec = Jvm.exec) (hb : c.code = cc) (hQ : Q = MQ below (mQvX D WS f sz) args s cells slots A) (hr : meth.sig.returnType = none) (hlocks : meth.locks = false) (hA : va_A WS s.heap.size = A) (hsz : s.heap.size = sz) (hP : va_P D vwCl ws H) (hD : va_D A ws) (hS : va_S A s.heap H locs) (hw : ws = f z) (hd : decode cc pc = .ok (.return_, 1)) : W p l e R s m args below meth c H locs cells slots Q (F0 m pc ls []) := by
  subst hw hA hsz hQ
  exact W.vret hx hb hr (fun t ht hW => ⟨⟨z, rfl, trivial, by rw [ht]; exact hP, hD⟩, hS.F ht⟩) hS.2.2 hd hlocks
theorem mi_iretX {S : Type} {WS : va_W} {f : S → va_W} {sz : Nat} {v r : Int} (z : S) (hx : p.tables.exec = Jvm.exec) (hb : c.code = cc) (hQ : Q = MQ below (mQiX D WS f sz r) args s cells slots A) (hr : meth.sig.returnType = some .int) (hlocks : meth.locks = false) (hA : va_A WS s.heap.size = A) (hsz : s.heap.size = sz) (hP : va_P D vwCl ws H) (hD : va_D A ws) (hS : va_S A s.heap H locs) (hv : v = r) (hw : ws = f z) (hd : decode cc pc = .ok (.ireturn, 1)) : W p l e R s m args below meth c H locs cells slots Q (F0 m pc ls [.int (iI v)]) := by
  subst hv hw hA hsz hQ
  exact W.iret hx hb hr (fun t ht hW => ⟨⟨_, z, rfl, rfl, by rw [ht]; exact hP, hD⟩, hS.F ht⟩) hS.2.2 hd hlocks
theorem mi_lretX {S : Type} {WS : va_W} {f : S → va_W} {sz : Nat} {v r : Int} (z : S) (hx : p.tables.exec = Jvm.exec) (hb : c.code = cc) (hQ : Q = MQ below (mQlX D WS f sz r) args s cells slots A) (hr : meth.sig.returnType = some .long) (hlocks : meth.locks = false) (hA : va_A WS s.heap.size = A) (hsz : s.heap.size = sz) (hP : va_P D vwCl ws H) (hD : va_D A ws) (hS : va_S A s.heap H locs) (hv : v = r) (hw : ws = f z) (hd : decode cc pc = .ok (.lreturn, 1)) : W p l e R s m args below meth c H locs cells slots Q (F0 m pc ls [.long (jI v)]) := by
  subst hv hw hA hsz hQ
  exact W.lret hx hb hr (fun t ht hW => ⟨⟨_, z, rfl, rfl, by rw [ht]; exact hP, hD⟩, hS.F ht⟩) hS.2.2 hd hlocks
theorem m_runvX {S : Type} {wc wr : va_W} {wf ws' : S → va_W} {rest st0 : List Value} {mc ms : Nat} {a : Array Value} (hr : va_Run p l e R s m args below meth c H locs cells slots mc ms (F0 m pc ls st0) rest (mQvX D wc wf H.size a) (va_A wc H.size)) (hP : va_P D vwCl ws H) (hD : va_D A ws) (hS : va_S A s.heap H locs) (hA : ∀ q : Nat, s.heap.size ≤ q → A q) (isC isR isB : List Nat) (hC : isC.map (fun i => ws[i]?) = wc.map some) (hR : isR.map (fun i => ws[i]?) = wr.map some) (hn : va_nd isR = true) (hdis : ∀ i ∈ isR, i ∉ isC) (hB : ∀ z, isB.map (fun i => (wr ++ wf z)[i]?) = (ws' z).map some) (hBn : va_nd isB = true)
    (kk : ∀ (z : S) (H1 : Heap) (locs1 : List Loc), va_P D vwCl (ws' z) H1 → va_D A (ws' z) → va_S A s.heap H1 locs1 → W p l e R s m args below meth c H1 locs1 (cells + mc) (slots + ms) Q (F0 m (pc + 3) ls rest)) : W p l e R s m args below meth c H locs cells slots Q (F0 m pc ls st0) := by
  have hF := va_free (wc := wc) hD hS hA isC hC
  refine va_callv hr hS (fun q _ h => hF q h) hF (fun u t H1 locs1 ht hvm hw hB1 hz1 hk1 hS1 => ?_)
  obtain ⟨hP1, hD1⟩ := hB1
  rw [ht] at hP1
  obtain ⟨h1, h2⟩ := m_back hP hD isC isR isB hC hR hn hdis (hB u) hBn hk1 hF hP1 hD1
  exact kk u H1 locs1 h1 h2 hS1
theorem m_runX {S : Type} {wc wr : va_W} {wf ws' : S → va_W} {rest st0 : List Value} {mc ms : Nat} {a : Array Value} {v : Int} (hr : va_Run p l e R s m args below meth c H locs cells slots mc ms (F0 m pc ls st0) rest (mQiX D wc wf H.size v a) (va_A wc H.size)) (hP : va_P D vwCl ws H) (hD : va_D A ws) (hS : va_S A s.heap H locs) (hA : ∀ q : Nat, s.heap.size ≤ q → A q) (isC isR isB : List Nat) (hC : isC.map (fun i => ws[i]?) = wc.map some) (hR : isR.map (fun i => ws[i]?) = wr.map some) (hn : va_nd isR = true) (hdis : ∀ i ∈ isR, i ∉ isC) (hB : ∀ z, isB.map (fun i => (wr ++ wf z)[i]?) = (ws' z).map some) (hBn : va_nd isB = true)
    (kk : ∀ (z : S) (H1 : Heap) (locs1 : List Loc), va_P D vwCl (ws' z) H1 → va_D A (ws' z) → va_S A s.heap H1 locs1 → W p l e R s m args below meth c H1 locs1 (cells + mc) (slots + ms) Q (F0 m (pc + 3) ls (.int (iI v) :: rest))) : W p l e R s m args below meth c H locs cells slots Q (F0 m pc ls st0) := by
  have hF := va_free (wc := wc) hD hS hA isC hC
  refine va_calli hr hS (fun q _ h => hF q h) hF (fun r u t H1 locs1 ht hvm hw hB1 hz1 hk1 hS1 => ?_)
  subst hw
  obtain ⟨hP1, hD1⟩ := hB1
  rw [ht] at hP1
  obtain ⟨h1, h2⟩ := m_back hP hD isC isR isB hC hR hn hdis (hB u) hBn hk1 hF hP1 hD1
  exact kk u H1 locs1 h1 h2 hS1
theorem m_runlX {S : Type} {wc wr : va_W} {wf ws' : S → va_W} {rest st0 : List Value} {mc ms : Nat} {a : Array Value} {v : Int} (hr : va_Run p l e R s m args below meth c H locs cells slots mc ms (F0 m pc ls st0) rest (mQlX D wc wf H.size v a) (va_A wc H.size)) (hP : va_P D vwCl ws H) (hD : va_D A ws) (hS : va_S A s.heap H locs) (hA : ∀ q : Nat, s.heap.size ≤ q → A q) (isC isR isB : List Nat) (hC : isC.map (fun i => ws[i]?) = wc.map some) (hR : isR.map (fun i => ws[i]?) = wr.map some) (hn : va_nd isR = true) (hdis : ∀ i ∈ isR, i ∉ isC) (hB : ∀ z, isB.map (fun i => (wr ++ wf z)[i]?) = (ws' z).map some) (hBn : va_nd isB = true)
    (kk : ∀ (z : S) (H1 : Heap) (locs1 : List Loc), va_P D vwCl (ws' z) H1 → va_D A (ws' z) → va_S A s.heap H1 locs1 → W p l e R s m args below meth c H1 locs1 (cells + mc) (slots + ms) Q (F0 m (pc + 3) ls (.long (jI v) :: rest))) : W p l e R s m args below meth c H locs cells slots Q (F0 m pc ls st0) := by
  have hF := va_free (wc := wc) hD hS hA isC hC
  refine va_calll hr hS (fun q _ h => hF q h) hF (fun r u t H1 locs1 ht hvm hw hB1 hz1 hk1 hS1 => ?_)
  subst hw
  obtain ⟨hP1, hD1⟩ := hB1
  rw [ht] at hP1
  obtain ⟨h1, h2⟩ := m_back hP hD isC isR isB hC hR hn hdis (hB u) hBn hk1 hF hP1 hD1
  exact kk u H1 locs1 h1 h2 hS1
end MX
/-! packing -/
def tbF (d : Int) : Int := if d = 0 then 1 else if 0 ≤ d + 31 ∧ d + 31 ≤ 63 then 8 else if 0 ≤ d + 255 ∧ d + 255 ≤ 511 then 12 else 24
def vbF (d : Int) : Int := if d = 0 then 1 else if 0 ≤ d + 15 ∧ d + 15 ≤ 31 then 7 else if 0 ≤ d + 511 ∧ d + 511 ≤ 1023 then 13 else 22
theorem tbF_r (d : Int) : 1 ≤ tbF d ∧ tbF d ≤ 24 := by unfold tbF; repeat' split; all_goals omega
theorem vbF_r (d : Int) : 1 ≤ vbF d ∧ vbF d ≤ 22 := by unfold vbF; repeat' split; all_goals omega
/-- bits, points, last time, last step, last value -/
abbrev BS : Type := Int × Int × Int × Int × Int
def bAd (x : BS) (t v : Int) : BS := if x.2.1 = 0 then (x.1 + 20 + 21, x.2.1 + 1, t, 0, v) else (x.1 + tbF (t - x.2.2.1 - x.2.2.2.1) + vbF (v - x.2.2.2.2), x.2.1 + 1, t, t - x.2.2.1, v)
def bsN (x : BS) (tt vv : fI) (a : Int) : Nat → BS
  | 0 => x
  | n + 1 => bAd (bsN x tt vv a n) (tt (a + n)) (vv (a + n))
/-- the bits of n points from a on -/
def bitF (tt vv : fI) (a n : Int) : Int := (bsN (6, 0, 0, 0, 0) tt vv a n.toNat).1
/-- what a packer's numbers are, safely -/
def bsOk (x : BS) (n : Int) : Prop := x.2.1 = n ∧ (6 ≤ x.1 ∧ x.1 ≤ 6 + 46 * n) ∧ rI x.2.2.1 ∧ rI x.2.2.2.1 ∧ rI x.2.2.2.2 ∧ (n ≠ 0 → (0 ≤ x.2.2.1 ∧ x.2.2.1 ≤ 99999) ∧ (-99999 ≤ x.2.2.2.1 ∧ x.2.2.2.1 ≤ 99999) ∧ (-100000 ≤ x.2.2.2.2 ∧ x.2.2.2.2 ≤ 100000))
theorem bAd_ok {x : BS} {n t v : Int} (h : bsOk x n) (hn : 0 ≤ n) (ht : 0 ≤ t ∧ t ≤ 99999) (hv : -100000 ≤ v ∧ v ≤ 100000) : bsOk (bAd x t v) (n + 1) := by
  obtain ⟨h1, h2, h3, h4, h5, h6⟩ := h
  have hb1 := tbF_r (t - x.2.2.1 - x.2.2.2.1)
  have hb2 := vbF_r (v - x.2.2.2.2)
  unfold bAd
  split
  · refine ⟨?_, ?_, ?_, ?_, ?_, fun _ => ⟨?_, ?_, ?_⟩⟩ <;> (try dsimp only) <;> omega
  · have h7 := h6 (by omega)
    refine ⟨?_, ?_, ?_, ?_, ?_, fun _ => ⟨?_, ?_, ?_⟩⟩ <;> (try dsimp only) <;> omega
theorem bsN_ok {x : BS} (h : bsOk x 0) {tt vv : fI} (ht : ∀ j, 0 ≤ tt j ∧ tt j ≤ 99999) (hv : ∀ j, -100000 ≤ vv j ∧ vv j ≤ 100000) (a : Int) : ∀ n : Nat, bsOk (bsN x tt vv a n) n
  | 0 => h
  | n + 1 => by
    have ih := bAd_ok (bsN_ok h ht hv a n) (by omega) (ht (a + n)) (hv (a + n))
    rw [show ((n + 1 : Nat) : Int) = (n : Int) + 1 by omega]
    exact ih
/-- what was packed ahead leaves no trace -/
theorem bsN_free (tt vv : fI) (a x1 x2 x3 : Int) : ∀ n : Nat, (bsN (6, 0, x1, x2, x3) tt vv a n).1 = (bsN (6, 0, 0, 0, 0) tt vv a n).1 ∧ (1 ≤ n → bsN (6, 0, x1, x2, x3) tt vv a n = bsN (6, 0, 0, 0, 0) tt vv a n)
  | 0 => ⟨rfl, fun h => absurd h (by omega)⟩
  | 1 => ⟨rfl, fun _ => rfl⟩
  | n + 2 => by
    have ih := (bsN_free tt vv a x1 x2 x3 (n + 1)).2 (by omega)
    have e : bsN (6, 0, x1, x2, x3) tt vv a (n + 2) = bsN (6, 0, 0, 0, 0) tt vv a (n + 2) := by
      show bAd (bsN (6, 0, x1, x2, x3) tt vv a (n + 1)) _ _ = bAd (bsN (6, 0, 0, 0, 0) tt vv a (n + 1)) _ _
      rw [ih]
    exact ⟨by rw [e], fun _ => e⟩
