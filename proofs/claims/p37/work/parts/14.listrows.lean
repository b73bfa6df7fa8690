section MJ
variable {p : Program} {l : Launch} {e : Env} {R : Room} {s : State} {m : MethodId} {args : Array Value} {below : List Frame} {meth : Method} {c : Code} {H : Heap} {locs : List Loc} {cells slots : Nat} {Q : State → Prop}
variable {cc : ByteArray} {pc : Nat} {ls : Array Slot} {rest : List Value} {D : va_G} {tys : List (ClassId × FieldType)} {ws : va_W} {A : Nat → Prop} {H0 : Heap}
/-- a cast to the thing's own kind -/
theorem mi_cast (hx : p.tables.exec = Jvm.exec) (hb : c.code = cc) {own : String} {index a q0 ci : Nat} {r : vw_C} {fs : List Value} (hown : s.vm.findClass own = some m.cls) (hlink : (Cond.classLink own index r.1).before args s = true) (hK : va_K D vwCl tys s) (hP : va_P D vwCl ws H) (he : ws[q0]? = some (a, .inr (ci, fs))) (hc : vwCl[ci]? = some r) (hd : decode cc pc = .ok (.checkcast index, 3))
    (k : W p l e R s m args below meth c H locs cells slots Q (F0 m (pc + 3) ls (.ref a :: rest))) : W p l e R s m args below meth c H locs cells slots Q (F0 m pc ls (.ref a :: rest)) := va_castS hx hb hown hlink (hK.1 ci r hc).2 (va_recv hK hP hc he) hd k
/-- a reference out of a row of references, known by its place -/
theorem mi_aald (hx : p.tables.exec = Jvm.exec) (hb : c.code = cc) (hK : va_K D vwCl tys s) (hP : va_P D vwCl ws H) (q0 t0 : Nat) {cA : ClassId} {C : String} {n : Nat} {f : Nat → Option Nat} {a r : Nat} (ha : ws[q0]? = some (a, .inl (cA, n, .inr (.inr (.inr (.inr f)))))) (ht : tys[t0]? = some (cA, .object C)) {i : Int} (hi : 0 ≤ i ∧ i < n) (hn : n < 2147483648) (hr : f i.toNat = some r) (hd : decode cc pc = .ok (.aaload, 1))
    (kk : W p l e R s m args below meth c H locs cells slots Q (F0 m (pc + 1) ls (.ref r :: rest))) : W p l e R s m args below meth c H locs cells slots Q (F0 m pc ls (.int (iI i) :: .ref a :: rest)) := by
  refine va_aldq hx hb hK hP q0 t0 ha ht (iI_in hi hn) hd ?_
  rw [iI_cl hi.1 (by omega), hr]
  exact kk
end MJ
/-! rules, events -/
/-- does it hold -/
def hdF (ab li t : Int) : Int := if t = -1000000 then 0 else if ab = 0 then (if t < li then 1 else 0) else (if li < t then 1 else 0)
theorem hdF_r (ab li t : Int) : hdF ab li t = 0 ∨ hdF ab li t = 1 := by unfold hdF; repeat' split; all_goals omega
/-- the state, the number in a row, and whether that is an event -/
def ceF (ti row h : Int) : Int × Int × Int := if (if h = 0 then row + 1 else 0) < ti then (2, (if h = 0 then row + 1 else 0), 0) else (0, 0, 1)
def beF (ti row h : Int) : Int × Int × Int := if h = 0 then (0, 0, 0) else if row + 1 < ti then (1, row + 1, 0) else (2, 0, 1)
theorem ceF_e (ti row h : Int) : 0 ≤ (ceF ti row h).2.2 ∧ (ceF ti row h).2.2 ≤ 1 := by
  unfold ceF
  repeat' split
  all_goals (constructor <;> (try dsimp only) <;> omega)
theorem beF_e (ti row h : Int) : 0 ≤ (beF ti row h).2.2 ∧ (beF ti row h).2.2 ≤ 1 := by
  unfold beF
  repeat' split
  all_goals (constructor <;> (try dsimp only) <;> omega)
def cbF (ab li ti st row t : Int) : Int × Int × Int := if st = 2 then ceF ti row (hdF ab li t) else beF ti row (hdF ab li t)
theorem cbF_r (ab li ti st row t : Int) : ((cbF ab li ti st row t).2.2 = 0 ∨ (cbF ab li ti st row t).2.2 = 1) ∧ 0 ≤ (cbF ab li ti st row t).1 ∧ (cbF ab li ti st row t).1 ≤ 2 := by
  unfold cbF ceF beF
  repeat' split
  all_goals (refine ⟨?_, ?_, ?_⟩ <;> (try dsimp only) <;> omega)
theorem cbF_row {ab li ti st row t : Int} (h : 0 ≤ row ∧ row ≤ 1000000) (ht : ti ≤ 5) : 0 ≤ (cbF ab li ti st row t).2.1 ∧ (cbF ab li ti st row t).2.1 ≤ 4 + 1 := by
  unfold cbF ceF beF
  repeat' split
  all_goals (constructor <;> first | (show (0 : Int) ≤ 0; omega) | (show (0 : Int) ≤ row + 1; omega) | (show (0 : Int) ≤ 4 + 1; omega) | (show row + 1 ≤ 4 + 1; omega) | (show (0 : Int) ≤ _; omega) | (show _ ≤ (4 : Int) + 1; omega))
def evF (f : fI) (to n r s : Int) : fI := uI (uI (uI f (Int.tmod to 20 * 3) n) (Int.tmod to 20 * 3 + 1) r) (Int.tmod to 20 * 3 + 2) s
theorem tm20 {a : Int} (h : 0 ≤ a) : 0 ≤ Int.tmod a 20 ∧ Int.tmod a 20 < 20 := by
  rw [Int.tmod_eq_emod_of_nonneg h]
  omega
