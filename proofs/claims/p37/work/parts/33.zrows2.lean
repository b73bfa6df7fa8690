/-- an address that is only known to be there comes back -/
def mQrX (D : va_G) (ws : va_W) (f : Nat → va_W) (sz : Nat) : Array Value → State → Outcome → State → Prop := va_Qr (fun (_ : Nat) => True) (fun z a t => a = z ∧ mB D ws (f z) sz t) (va_A ws sz)
section ZR2
variable {p : Program} {l : Launch} {e : Env} {R : Room} {s : State} {m : MethodId} {args : Array Value} {below : List Frame} {meth : Method} {c : Code} {H : Heap} {locs : List Loc} {cells slots : Nat} {Q : State → Prop}
variable {cc : ByteArray} {pc : Nat} {ls : Array Slot} {rest : List Value} {D : va_G} {tys : List (ClassId × FieldType)} {ws : va_W} {A : Nat → Prop} {H0 : Heap}
theorem mi_aretX {WS : va_W} {f : Nat → va_W} {sz : Nat} {v : Nat} {ty : FieldType} (hx : p.tables.exec = Jvm.exec) (hb : c.code = cc) (hQ : Q = MQ below (mQrX D WS f sz) args s cells slots A) (hr : meth.sig.returnType = some ty) (hty : (∃ n, ty = .object n) ∨ ∃ t, ty = .array t) (hlocks : meth.locks = false) (hA : va_A WS s.heap.size = A) (hsz : s.heap.size = sz) (hP : va_P D vwCl ws H) (hD : va_D A ws) (hS : va_S A s.heap H locs) (hw : ws = f v) (hd : decode cc pc = .ok (.areturn, 1)) : W p l e R s m args below meth c H locs cells slots Q (F0 m pc ls [.ref v]) := by
  subst hw hA hsz hQ
  exact W.aret hx hb hr hty (Or.inr ⟨_, rfl⟩) (fun t ht hW => ⟨⟨v, _, rfl, trivial, rfl, by rw [ht]; exact hP, hD⟩, hS.F ht⟩) hS.2.2 hd hlocks
theorem m_runrX {wc wr : va_W} {wf ws' : Nat → va_W} {rest st0 : List Value} {mc ms : Nat} {a : Array Value} (hr : va_Run p l e R s m args below meth c H locs cells slots mc ms (F0 m pc ls st0) rest (mQrX D wc wf H.size a) (va_A wc H.size)) (hP : va_P D vwCl ws H) (hD : va_D A ws) (hS : va_S A s.heap H locs) (hA : ∀ q : Nat, s.heap.size ≤ q → A q) (isC isR isB : List Nat) (hC : isC.map (fun i => ws[i]?) = wc.map some) (hR : isR.map (fun i => ws[i]?) = wr.map some) (hn : va_nd isR = true) (hdis : ∀ i ∈ isR, i ∉ isC) (hB : ∀ z, isB.map (fun i => (wr ++ wf z)[i]?) = (ws' z).map some) (hBn : va_nd isB = true)
    (kk : ∀ (z : Nat) (H1 : Heap) (locs1 : List Loc), va_P D vwCl (ws' z) H1 → va_D A (ws' z) → va_S A s.heap H1 locs1 → W p l e R s m args below meth c H1 locs1 (cells + mc) (slots + ms) Q (F0 m (pc + 3) ls (.ref z :: rest))) : W p l e R s m args below meth c H locs cells slots Q (F0 m pc ls st0) := by
  have hF := va_free (wc := wc) hD hS hA isC hC
  refine va_callr hr hS (fun q _ h => hF q h) hF (fun u ra t H1 locs1 ht hvm hw hB1 hz1 hk1 hS1 => ?_)
  obtain ⟨rfl, hP1, hD1⟩ := hB1
  rw [ht] at hP1
  obtain ⟨h1, h2⟩ := m_back hP hD isC isR isB hC hR hn hdis (hB ra) hBn hk1 hF hP1 hD1
  exact kk ra H1 locs1 h1 h2 hS1
theorem mi_astq (hx : p.tables.exec = Jvm.exec) (hb : c.code = cc) (hK : va_K D vwCl tys s) (hP : va_P D vwCl ws H) (hD : va_D A ws) (hS : va_S A H0 H locs) (q0 qk ci : Nat) {cO : ClassId} {r : vw_C} {n v a : Nat} {vs : List Value} {f : Nat → Option Nat} {ws' : va_W} (ha : ws[q0]? = some (a, .inl (cO, n, .inr (.inr (.inr (.inr f)))))) (ht : tys[1]? = some (cO, .object "java/lang/Object")) (hca : va_Nw (.castable r.1 "java/lang/Object") s) (hv : ws[qk]? = some (v, .inr (ci, vs))) (hc : vwCl[ci]? = some r) {i : Int} {k : Nat} (hik : i = (k : Int)) (hi : k < n) (hn : n < 2147483648)
    (hw : ws.set q0 (a, .inl (cO, n, .inr (.inr (.inr (.inr (va_up f k (some v))))))) = ws') (hd : decode cc pc = .ok (.aastore, 1))
    (kk : ∀ (H1 : Heap) (locs1 : List Loc), va_P D vwCl ws' H1 → va_D A ws' → va_S A H0 H1 locs1 → W p l e R s m args below meth c H1 locs1 cells slots Q (F0 m (pc + 1) ls rest)) : W p l e R s m args below meth c H locs cells slots Q (F0 m pc ls (.ref v :: .int (iI i) :: .ref a :: rest)) := by
  subst hw hik
  refine va_astqO hx hb hK hP hD hS q0 1 qk ci ha ht hca hv hc (iI_in (by omega) hn) hd ?_
  rw [iI_cl (by omega) (by omega), Int.toNat_natCast]
  exact kk
theorem mi_zretX {S : Type} {WS : va_W} {f : S → va_W} {sz : Nat} {v r : Int} (z : S) (hx : p.tables.exec = Jvm.exec) (hb : c.code = cc) (hQ : Q = MQ below (mQiX D WS f sz r) args s cells slots A) (hr : meth.sig.returnType = some .boolean) (hlocks : meth.locks = false) (hA : va_A WS s.heap.size = A) (hsz : s.heap.size = sz) (hP : va_P D vwCl ws H) (hD : va_D A ws) (hS : va_S A s.heap H locs) (h01 : 0 ≤ v ∧ v ≤ 1) (hv : v = r) (hw : ws = f z) (hd : decode cc pc = .ok (.ireturn, 1)) : W p l e R s m args below meth c H locs cells slots Q (F0 m pc ls [.int (iI v)]) := by
  subst hv hw hA hsz hQ
  refine W.zret hx hb hr ?_ (fun t ht hW => ⟨⟨_, z, rfl, rfl, by rw [ht]; exact hP, hD⟩, hS.F ht⟩) hS.2.2 hd hlocks
  rcases (show v = 0 ∨ v = 1 by omega) with rfl | rfl <;> decide
end ZR2
