/-! what the law asks, in numbers -/
theorem bsN_shift {tt vv tt' vv' : fI} {a a' : Int} (x : BS) : ∀ n : Nat, (∀ i : Int, 0 ≤ i → i < n → tt (a + i) = tt' (a' + i) ∧ vv (a + i) = vv' (a' + i)) → bsN x tt vv a n = bsN x tt' vv' a' n
  | 0, _ => rfl
  | n + 1, h => by
    have ih := bsN_shift x n (fun i h0 h1 => h i h0 (by omega))
    have h1 := h n (by omega) (by omega)
    show bAd (bsN x tt vv a n) (tt (a + n)) (vv (a + n)) = bAd (bsN x tt' vv' a' n) (tt' (a' + n)) (vv' (a' + n))
    rw [ih, h1.1, h1.2]
theorem bitF_shift {tt vv tt' vv' : fI} {a a' n : Int} (h : ∀ i : Int, 0 ≤ i → i < n → tt (a + i) = tt' (a' + i) ∧ vv (a + i) = vv' (a' + i)) : bitF tt vv a n = bitF tt' vv' a' n := by
  unfold bitF
  rw [bsN_shift (6, 0, 0, 0, 0) n.toNat (fun i h0 h1 => h i h0 (by omega))]
/-- the bits that the open block would have with one more point -/
def bwF (u : SrS) (t v : Int) : Int := bitF (adF (uPt u) (uPa u) (uPt u) (plU u t) t t) (adF (uPv u) (uPa u) (uPt u) (plU u t) t v) (uPs u) (adA (uPa u) (uPt u) (plU u t) t - uPs u)
theorem bwF_6 {u : SrS} (h : SrOk u) {t v : Int} (ht : 0 ≤ t ∧ t ≤ 99999) (hv : -100000 ≤ v ∧ v ≤ 100000) : 6 ≤ bwF u t v ∧ bwF u t v ≤ 1000 := by
  obtain ⟨h1, h2, h3, h4, h5, h6, h7⟩ := id h
  have hr := adA_r (uPa u) (uPt u) (plU u t) t
  have hq := bitF_6 (adF_r (am := uPa u) (tt := uPt u) (pl := plU u t) (t := t) h5 ht) (adF_r (am := uPa u) (tt := uPt u) (pl := plU u t) (t := t) h6 hv) (uPs u) (adA (uPa u) (uPt u) (plU u t) t - uPs u)
  unfold bwF
  omega
theorem put_ends {wd fo span : Int} {u : SrS} (h : SrOk u) (hs : 2 ≤ span ∧ span ≤ 16) {t v : Int} (ht : 0 ≤ t ∧ t ≤ 99999) (hv : -100000 ≤ v ∧ v ≤ 100000) :
    (0 < uPa (srPut wd fo span u t v) - uPs (srPut wd fo span u t v) ∧ uPb (srPut wd fo span u t v) = uPb u) ∨ (uPa (srPut wd fo span u t v) - uPs (srPut wd fo span u t v) = 0 ∧ 1 ≤ uPb (srPut wd fo span u t v) ∧ btF (srPut wd fo span u t v) (uPb (srPut wd fo span u t v) - 1) = bwF u t v) := by
  obtain ⟨h1, h2, h3, h4, h5, h6, h7⟩ := id h
  have hr := adA_r (uPa u) (uPt u) (plU u t) t
  have hp := (plU_ok h t).1
  unfold srPut srTake
  by_cases q1 : span ≤ uPa (ptAdd u (plU u t) t v) - uPs (ptAdd u (plU u t) t v)
  · rw [if_pos q1]
    have q1 : span ≤ adA (uPa u) (uPt u) (plU u t) t - uPs u := q1
    have hz : ∀ b, b ≠ uPb u → uI (uPz u) (uPb u) (adA (uPa u) (uPt u) (plU u t) t - uPs u) b = uPz u b := fun b hb => uI_n _ _ hb
    have hsm : ∀ k : Nat, (k : Int) ≤ uPb u → sm (uI (uPz u) (uPb u) (adA (uPa u) (uPt u) (plU u t) t - uPs u)) k = sm (uPz u) k := fun k hk => sm_congr k (fun j _ hj => hz j (by omega))
    have hsp := hsm (uPb u).toNat (by omega)
    rw [Int.toNat_of_nonneg h1.1] at hsp
    by_cases q2 : 8 < uPb (ptSeal (ptAdd u (plU u t) t v))
    · rw [if_pos q2]
      have q2 : 8 < uPb u + 1 := q2
      right
      have h0 := h.nine.z0 (by omega)
      have ez0 : uI (uPz u) (uPb u) (adA (uPa u) (uPt u) (plU u t) t - uPs u) 0 = uPz u 0 := hz 0 (by omega)
      have hd := sm_dr (uI (uPz u) (uPb u) (adA (uPa u) (uPt u) (plU u t) t - uPs u)) (uPb u + 1) (uPb u - 1).toNat (by omega)
      rw [show (((uPb u - 1).toNat : Nat) : Int) = uPb u - 1 by omega, show uPb u - 1 + 1 = uPb u by omega, ez0, hsp] at hd
      have hl : drK (uI (uPz u) (uPb u) (adA (uPa u) (uPt u) (plU u t) t - uPs u)) 1 (uPb u + 1) (uPb u - 1) = adA (uPa u) (uPt u) (plU u t) t - uPs u := by
        unfold drK
        rw [if_pos (by omega), show uPb u - 1 + 1 = uPb u by omega, uI_s]
      refine ⟨?_, ?_, ?_⟩
      · show adA (uPa u) (uPt u) (plU u t) t - uI (uPz u) (uPb u) (adA (uPa u) (uPt u) (plU u t) t - uPs u) 0 - (adA (uPa u) (uPt u) (plU u t) t - uI (uPz u) (uPb u) (adA (uPa u) (uPt u) (plU u t) t - uPs u) 0) = 0
        omega
      · show 1 ≤ uPb u + 1 - 1
        omega
      · show (if uPb u + 1 - 1 - 1 < uPb u + 1 - 1 then bitF (drK (adF (uPt u) (uPa u) (uPt u) (plU u t) t t) (uI (uPz u) (uPb u) (adA (uPa u) (uPt u) (plU u t) t - uPs u) 0) (adA (uPa u) (uPt u) (plU u t) t)) (drK (adF (uPv u) (uPa u) (uPt u) (plU u t) t v) (uI (uPz u) (uPb u) (adA (uPa u) (uPt u) (plU u t) t - uPs u) 0) (adA (uPa u) (uPt u) (plU u t) t)) (sm (drK (uI (uPz u) (uPb u) (adA (uPa u) (uPt u) (plU u t) t - uPs u)) 1 (uPb u + 1)) (uPb u + 1 - 1 - 1)) (drK (uI (uPz u) (uPb u) (adA (uPa u) (uPt u) (plU u t) t - uPs u)) 1 (uPb u + 1) (uPb u + 1 - 1 - 1)) else 0) = bwF u t v
        rw [if_pos (by omega), show uPb u + 1 - 1 - 1 = uPb u - 1 by omega, hd, hl, ez0]
        refine bitF_shift (fun i i0 i1 => ?_)
        have hq : ∀ f : fI, drK f (uPz u 0) (adA (uPa u) (uPt u) (plU u t) t) (sm (uPz u) (uPb u) - uPz u 0 + i) = f (uPs u + i) := fun f => by
          unfold drK
          rw [if_pos (by omega), show sm (uPz u) (uPb u) - uPz u 0 + i + uPz u 0 = uPs u + i by omega]
        exact ⟨hq _, hq _⟩
    · rw [if_neg q2]
      right
      refine ⟨?_, ?_, ?_⟩
      · show adA (uPa u) (uPt u) (plU u t) t - adA (uPa u) (uPt u) (plU u t) t = 0
        omega
      · show 1 ≤ uPb u + 1
        omega
      · show (if uPb u + 1 - 1 < uPb u + 1 then bitF (adF (uPt u) (uPa u) (uPt u) (plU u t) t t) (adF (uPv u) (uPa u) (uPt u) (plU u t) t v) (sm (uI (uPz u) (uPb u) (adA (uPa u) (uPt u) (plU u t) t - uPs u)) (uPb u + 1 - 1)) (uI (uPz u) (uPb u) (adA (uPa u) (uPt u) (plU u t) t - uPs u) (uPb u + 1 - 1)) else 0) = bwF u t v
        rw [if_pos (by omega), show uPb u + 1 - 1 = uPb u by omega, uI_s, hsp, ← h2.2.2.2]
        rfl
  · rw [if_neg q1]
    left
    refine ⟨?_, rfl⟩
    show 0 < adA (uPa u) (uPt u) (plU u t) t - uPs u
    omega
theorem srPut_r {wd fo span : Int} (hwf : 1 ≤ wd * fo) (hw : 1 ≤ wd) {u : SrS} (h : SrOk u) (hs : 2 ≤ span ∧ span ≤ 16) {t v : Int} (ht : 0 ≤ t ∧ t ≤ 99999) (hv : -100000 ≤ v ∧ v ≤ 100000) : SrOk (srPut wd fo span u t v) := srTake_ok hwf hw (by omega) h ht hv
/-- a store behind a put -/
def stP (wd fo span n t v : Int) (x : StS) : StS := (sl n (srTake wd fo span (sU1 x) (plU (sU1 x) t) t v) (sU1 x), sl n (sU2 x) (srTake wd fo span (sU2 x) (plU (sU2 x) t) t v), (sSt x, sRow x), (sTo x, sFi x, sEc x), sNow x)
theorem stP_inv {wd fo span n t v K : Int} (hwf : 1 ≤ wd * fo) (hw : 1 ≤ wd) (hs : 2 ≤ span ∧ span ≤ 16) {x : StS} (h : StI wd fo K x) (hK : K + 1 ≤ 20000) (hn : n = 0 ∨ n = 1) (hg : uPg (sl n (sU1 x) (sU2 x)) < t) (ht : 0 ≤ t ∧ t ≤ 99999) (htn : t ≤ sNow x) (hv : -100000 ≤ v ∧ v ≤ 100000) : StI wd fo (K + 1) (stP wd fo span n t v x) := by
  obtain ⟨h1, h2, h3, h4, h5, h6, h7⟩ := h
  rcases hn with q | q <;> subst q
  · exact ⟨srPut_r hwf hw h1 hs ht hv, h2, srPut_inv hwf hw hs h1 hK h3 hg ht htn hv, h4.mono (Int.le_refl _) (by omega), h5, h6, h7⟩
  · exact ⟨h1, srPut_r hwf hw h2 hs ht hv, h3.mono (Int.le_refl _) (by omega), srPut_inv hwf hw hs h2 hK h4 hg ht htn hv, h5, h6, h7⟩
theorem sl_ok {wd fo K n : Int} {x : StS} (h : StI wd fo K x) : SrOk (sl n (sU1 x) (sU2 x)) ∧ SInv wd fo (sNow x) K (sl n (sU1 x) (sU2 x)) := by
  obtain ⟨h1, h2, h3, h4, h5⟩ := h
  unfold sl
  split
  · exact ⟨h1, h3⟩
  · exact ⟨h2, h4⟩
theorem stP_sl {wd fo span n t v : Int} {x : StS} (hn : n = 0 ∨ n = 1) : sl n (sU1 (stP wd fo span n t v x)) (sU2 (stP wd fo span n t v x)) = srPut wd fo span (sl n (sU1 x) (sU2 x)) t v := by
  rcases hn with q | q <;> subst q <;> rfl
/-! the trial -/
def TrI (K : Int) (y : StS) : Prop := SrOk (sU1 y) ∧ SrOk (sU2 y) ∧ (0 ≤ sTo y ∧ sTo y ≤ K) ∧ (0 ≤ sFi y ∧ sFi y ≤ K)
theorem TrI.mono {K L : Int} {y : StS} (h : TrI K y) (hK : K ≤ L) : TrI L y := ⟨h.1, h.2.1, by have := h.2.2.1; omega, by have := h.2.2.2; omega⟩
theorem TrI_tk {wd fo kp lk wh le ev ab li ti K : Int} (hwf : 1 ≤ wd * fo) (hw : 1 ≤ wd) {x y : StS} (h : TrI K y) (hx1 : SrOk (sU1 x)) (hx2 : SrOk (sU2 x)) : TrI (K + 1) (tkS wd fo kp lk wh le ev ab li ti (cpT y x)) := by
  obtain ⟨h1, h2, h3, h4⟩ := h
  have h5 := tkS_fi wd fo kp lk wh le ev ab li ti (cpT y x)
  have e5 : sFi (cpT y x) = sFi y := rfl
  rw [e5] at h5
  have h6 : sTo (tkS wd fo kp lk wh le ev ab li ti (cpT y x)) = sTo y + (if (tkR wh le ev ab li ti (sSt x) (sRow x) (sNow x + 1) (rollS wd fo kp lk (sNow x + 1) (cpSr (sU1 y) (sU1 x)))).2.2 = 1 then 1 else 0) := lgE_to _ _ _ _
  refine ⟨rollS_ok hwf hw (cpSr_ok h1 hx1), rollS_ok hwf hw (cpSr_ok h2 hx2), ?_, by omega⟩
  rw [h6]
  split <;> omega
theorem tkR_eq {wh le ev ab li ti st row n : Int} {u v : SrS} (hu : SrOk u) (hsu : Srt u) (h : SEq u v) : tkR wh le ev ab li ti st row n u = tkR wh le ev ab li ti st row n v := by
  have hn : 0 ≤ uKa u + uFa u + uPa u := by
    have h7 : 0 ≤ uFa u ∧ uFa u ≤ 24 := hu.2.2.2.2.2.2.1
    have h8 : 0 ≤ uKa u ∧ uKa u ≤ 24 := hu.2.2.2.2.2.2.2.1
    have h2 := hu.am
    omega
  have f1 := fi_ok hu hsu (n - le)
  have f2 := fi_ok hu hsu n
  unfold tkR
  rw [← fi_eq h hn (n - le), ← fi_eq h hn n, tlF_eq h f1.1.1 f2.1.2]
theorem lgE_fi (z : Int × Int × fI) (n s e : Int) : (lgE z n s e).2.1 = if e = 1 ∧ s = 2 then z.2.1 + 1 else z.2.1 := by
  unfold lgE
  by_cases h : e = 1
  · rw [if_pos h]
    by_cases h2 : s = 2
    · rw [if_pos (show e = 1 ∧ s = 2 from ⟨h, h2⟩)]; exact if_pos h2
    · rw [if_neg (show ¬ (e = 1 ∧ s = 2) from fun q => h2 q.2)]; exact if_neg h2
  · rw [if_neg h, if_neg (fun q => h q.1)]
theorem lgE_ec (z : Int × Int × fI) (n s : Int) : (lgE z n s 1).2.2 (Int.tmod (z.1 + 1 - 1 - 0) 20 * 3 + 2) = s := by
  have e : (lgE z n s 1).2.2 = evF z.2.2 z.1 n 0 s := by unfold lgE; rw [if_pos rfl]
  rw [e, show z.1 + 1 - 1 - 0 = z.1 by omega]
  unfold evF
  exact uI_s _ _ _
/-- what the rule comes to -/
theorem go_rule {wd fo kp lk wh le ev ab li ti K : Int} (hwf : 1 ≤ wd * fo) (hw : 1 ≤ wd) (hti : 1 ≤ ti ∧ ti ≤ 5) (hK : K ≤ 20000) {x y : StS} (hx : StI wd fo K x) (hy1 : SrOk (sU1 y)) (hst : 0 ≤ sTo x) :
    (sFi y < sFi (tkS wd fo kp lk wh le ev ab li ti (cpT y x)) ↔ (0 < sTo (tkS wd fo kp lk wh le ev ab li ti x) - sTo x ∧ sEc (tkS wd fo kp lk wh le ev ab li ti x) (Int.tmod (sTo (tkS wd fo kp lk wh le ev ab li ti x) - 1 - 0) 20 * 3 + 2) = 2)) ∧
    (sTo x ≤ sTo (tkS wd fo kp lk wh le ev ab li ti x) ∧ sTo (tkS wd fo kp lk wh le ev ab li ti x) ≤ sTo x + 1) ∧
    (0 < sTo (tkS wd fo kp lk wh le ev ab li ti x) - sTo x → 0 ≤ sEc (tkS wd fo kp lk wh le ev ab li ti x) (Int.tmod (sTo (tkS wd fo kp lk wh le ev ab li ti x) - 1 - 0) 20 * 3 + 2) ∧ sEc (tkS wd fo kp lk wh le ev ab li ti x) (Int.tmod (sTo (tkS wd fo kp lk wh le ev ab li ti x) - 1 - 0) 20 * 3 + 2) ≤ 2) := by
  obtain ⟨h1, h2, h3, h4, ⟨h5, h6, h7⟩, h8⟩ := hx
  have hs : Srt (rollS wd fo kp lk (sNow x + 1) (sU1 x)) := (rollS_inv hwf hw h1 hK h3).srt
  have hq : SEq (rollS wd fo kp lk (sNow x + 1) (cpSr (sU1 y) (sU1 x))) (rollS wd fo kp lk (sNow x + 1) (sU1 x)) := rollS_eq hwf hw (cpSr_ok hy1 h1) (cpSr_eq _ _)
  have hR := tkR_eq (wh := wh) (le := le) (ev := ev) (ab := ab) (li := li) (ti := ti) (st := sSt x) (row := sRow x) (n := sNow x + 1) (rollS_ok hwf hw (cpSr_ok hy1 h1)) (Srt_eq hq hs) hq
  have hr := tkR_r (wh := wh) (le := le) (ev := ev) (ab := ab) (li := li) (n := sNow x + 1) (u := rollS wd fo kp lk (sNow x + 1) (sU1 x)) hti h5 h6
  have e1 : sFi (tkS wd fo kp lk wh le ev ab li ti (cpT y x)) = (lgE (sTo y, sFi y, sEc y) (sNow x + 1) (tkR wh le ev ab li ti (sSt x) (sRow x) (sNow x + 1) (rollS wd fo kp lk (sNow x + 1) (cpSr (sU1 y) (sU1 x)))).1 (tkR wh le ev ab li ti (sSt x) (sRow x) (sNow x + 1) (rollS wd fo kp lk (sNow x + 1) (cpSr (sU1 y) (sU1 x)))).2.2).2.1 := rfl
  have e2 : sTo (tkS wd fo kp lk wh le ev ab li ti x) = (lgE (sTo x, sFi x, sEc x) (sNow x + 1) (tkR wh le ev ab li ti (sSt x) (sRow x) (sNow x + 1) (rollS wd fo kp lk (sNow x + 1) (sU1 x))).1 (tkR wh le ev ab li ti (sSt x) (sRow x) (sNow x + 1) (rollS wd fo kp lk (sNow x + 1) (sU1 x))).2.2).1 := rfl
  have e3 : sEc (tkS wd fo kp lk wh le ev ab li ti x) = (lgE (sTo x, sFi x, sEc x) (sNow x + 1) (tkR wh le ev ab li ti (sSt x) (sRow x) (sNow x + 1) (rollS wd fo kp lk (sNow x + 1) (sU1 x))).1 (tkR wh le ev ab li ti (sSt x) (sRow x) (sNow x + 1) (rollS wd fo kp lk (sNow x + 1) (sU1 x))).2.2).2.2 := rfl
  rw [hR] at e1
  rw [e1, e2, e3]
  generalize tkR wh le ev ab li ti (sSt x) (sRow x) (sNow x + 1) (rollS wd fo kp lk (sNow x + 1) (sU1 x)) = r at hr
  obtain ⟨rs, rr, re⟩ := r
  dsimp only at hr ⊢
  rw [lgE_fi, lgE_to]
  dsimp only
  by_cases he : re = 1
  · subst he
    rw [if_pos rfl]
    have e4 := lgE_ec (sTo x, sFi x, sEc x) (sNow x + 1) rs
    dsimp only at e4
    rw [e4]
    refine ⟨?_, by omega, fun _ => by omega⟩
    by_cases h2 : rs = 2
    · rw [if_pos ⟨rfl, h2⟩]; constructor <;> intro _ <;> omega
    · rw [if_neg (fun q => h2 q.2)]; constructor <;> intro q <;> omega
  · rw [if_neg he, if_neg (fun q => he q.1)]
    refine ⟨?_, by omega, fun q => by omega⟩
    constructor <;> intro q <;> omega
/-! windows side by side -/
theorem itm_0 {wd fo n K : Int} {u : SrS} (hk : SrOk u) (h : SInv wd fo n K u) {i : Int} (h0 : 0 ≤ i) (hi : i < uKa u + uFa u + uPa u) : 0 ≤ itm u i 0 ∧ 1 ≤ itm u i 1 := by
  obtain ⟨-, -, -, ⟨f1, f2, f3, f4⟩, -⟩ := h
  unfold itm
  by_cases h1 : i < uKa u
  · rw [if_pos h1, if_pos h1]
    exact ⟨(f2.2.1 i h0 h1).1, (f2.2.2 i h0 h1).1⟩
  · rw [if_neg h1, if_neg h1]
    by_cases h2 : i - uKa u < uFa u
    · rw [if_pos h2, if_pos h2]
      exact ⟨(f1.2.1 _ (by omega) h2).1, (f1.2.2 _ (by omega) h2).1⟩
    · rw [if_neg h2, if_neg h2]
      exact ⟨(hk.2.2.2.2.1 _).1, Int.le_refl 1⟩
theorem tot_add (u : SrS) (w : Int) {a b : Int} (hab : a ≤ b) : ∀ n : Nat, tot u a b w + tot u b (b + n) w = tot u a (b + n) w
  | 0 => by rw [show b + ((0 : Nat) : Int) = b by omega, tot_0]; omega
  | n + 1 => by
    have ih := tot_add u w hab n
    rw [show b + ((n + 1 : Nat) : Int) = b + n + 1 by omega, ← tot_s u w (show b ≤ b + n by omega), ← tot_s u w (show a ≤ b + n by omega)]
    omega
theorem tot_addI (u : SrS) (w : Int) {a b c : Int} (hab : a ≤ b) (hbc : b ≤ c) : tot u a b w + tot u b c w = tot u a c w := by
  have h := tot_add u w hab (c - b).toNat
  rw [show b + (((c - b).toNat : Nat) : Int) = c by omega] at h
  exact h
theorem fi_mono {u : SrS} (h : SrOk u) (hs : Srt u) {t1 t2 : Int} (h12 : t1 ≤ t2) : fi u t1 ≤ fi u t2 := by
  obtain ⟨a1, a2, a3⟩ := fi_ok h hs t1
  obtain ⟨b1, b2, b3⟩ := fi_ok h hs t2
  by_cases q : fi u t1 ≤ fi u t2
  · exact q
  · have c1 := a2 (fi u t2) b1.1 (by omega)
    have c2 := b3 (fi u t2) (Int.le_refl _) (by omega)
    omega
theorem win_step {u : SrS} (h : SrOk u) (hs : Srt u) {t1 t2 : Int} (h12 : t1 ≤ t2) : tot u 0 (fi u t1) 1 + tlW u t1 t2 0 = tot u 0 (fi u t2) 1 := by
  have hm := fi_mono h hs h12
  have h0 := (fi_ok h hs t1).1
  unfold tlW tlF
  by_cases q : fi u t2 ≤ fi u t1
  · rw [if_pos q, if_pos rfl, show fi u t1 = fi u t2 by omega]; omega
  · rw [if_neg q, if_pos rfl]; exact tot_addI u 1 h0.1 hm
theorem fi_0 {wd fo n K : Int} {u : SrS} (hk : SrOk u) (h : SInv wd fo n K u) {t : Int} (ht : t ≤ 0) : fi u t = 0 := by
  obtain ⟨a1, a2, a3⟩ := fi_ok hk h.srt t
  by_cases q : fi u t = 0
  · exact q
  · have c1 := a2 0 (Int.le_refl _) (by omega)
    have c2 := (itm_0 hk h (i := 0) (Int.le_refl _) (by omega)).1
    omega
def gTN (u : SrS) (T : Int) : Nat → Int
  | 0 => 0
  | n + 1 => gTN u T n + (if itm u n 0 < T then itm u n 1 else 0)
/-- how many points the items before i have, of those that begin before T -/
def gS (u : SrS) (T i : Int) : Int := gTN u T i.toNat
theorem gS_0 (u : SrS) (T : Int) : gS u T 0 = 0 := rfl
theorem gS_s (u : SrS) (T : Int) {i : Int} (h : 0 ≤ i) : gS u T (i + 1) = gS u T i + (if itm u i 0 < T then itm u i 1 else 0) := by
  unfold gS
  rw [show (i + 1).toNat = i.toNat + 1 by omega]
  show gTN u T i.toNat + (if itm u (i.toNat : Int) 0 < T then itm u (i.toNat : Int) 1 else 0) = _
  rw [Int.toNat_of_nonneg h]
theorem gS_k (u : SrS) (T : Int) {b : Int} (h : 0 ≤ b) (hb : b < uKa u) : gS u T (b + 1) = gS u T b + (if uKf u (b * 7 + 0) < T then uKf u (b * 7 + 1) else 0) := by
  rw [gS_s u T h]
  unfold itm
  rw [if_pos hb, if_pos hb]
theorem gS_f (u : SrS) (T : Int) {b : Int} (hk : 0 ≤ uKa u) (h : 0 ≤ b) (hb : b < uFa u) : gS u T (uKa u + (b + 1)) = gS u T (uKa u + b) + (if uFf u (b * 7 + 0) < T then uFf u (b * 7 + 1) else 0) := by
  rw [show uKa u + (b + 1) = uKa u + b + 1 by omega, gS_s u T (by omega)]
  have e1 : ∀ w, itm u (uKa u + b) w = uFf u (b * 7 + w) := fun w => by
    unfold itm
    rw [if_neg (by omega), if_pos (by omega), show uKa u + b - uKa u = b by omega]
  rw [e1, e1]
theorem gS_p (u : SrS) (T : Int) {i : Int} (hk : 0 ≤ uKa u) (hf : 0 ≤ uFa u) (h : 0 ≤ i) : gS u T (uKa u + uFa u + (i + 1)) = gS u T (uKa u + uFa u + i) + (if uPt u i < T then 1 else 0) := by
  rw [show uKa u + uFa u + (i + 1) = uKa u + uFa u + i + 1 by omega, gS_s u T (by omega)]
  have e1 : ∀ w, itm u (uKa u + uFa u + i) w = nmP (uPt u) (uPv u) i w := fun w => by
    unfold itm
    rw [if_neg (by omega), if_neg (by omega), show uKa u + uFa u + i - uKa u - uFa u = i by omega]
  rw [e1, e1]
  rfl
theorem gS_lo {u : SrS} (h : SrOk u) (hs : Srt u) (T : Int) : ∀ n : Nat, (n : Int) ≤ fi u T → gS u T n = tot u 0 n 1
  | 0, _ => by rw [show ((0 : Nat) : Int) = 0 from rfl, gS_0, tot_0]
  | n + 1, hn => by
    have ih := gS_lo h hs T n (by omega)
    have hf := (fi_ok h hs T).2.1 n (by omega) (by omega)
    rw [show ((n + 1 : Nat) : Int) = (n : Int) + 1 by omega, gS_s u T (by omega), if_pos hf, ih]
    exact tot_s u 1 (by omega)
theorem gS_hi {u : SrS} (h : SrOk u) (hs : Srt u) (T : Int) : ∀ n : Nat, fi u T + n ≤ uKa u + uFa u + uPa u → gS u T (fi u T + n) = gS u T (fi u T)
  | 0, _ => by rw [show fi u T + ((0 : Nat) : Int) = fi u T by omega]
  | n + 1, hn => by
    have ih := gS_hi h hs T n (by omega)
    have h0 := (fi_ok h hs T).1
    have hf := (fi_ok h hs T).2.2 (fi u T + n) (by omega) (by omega)
    rw [show fi u T + ((n + 1 : Nat) : Int) = fi u T + n + 1 by omega, gS_s u T (by omega), if_neg (by omega), ih]
    omega
theorem gS_all {u : SrS} (h : SrOk u) (hs : Srt u) (T : Int) : gS u T (uKa u + uFa u + uPa u) = tot u 0 (fi u T) 1 := by
  have h0 := (fi_ok h hs T).1
  have h1 := gS_hi h hs T (uKa u + uFa u + uPa u - fi u T).toNat (by omega)
  have h2 := gS_lo h hs T (fi u T).toNat (by omega)
  rw [show fi u T + (((uKa u + uFa u + uPa u - fi u T).toNat : Nat) : Int) = uKa u + uFa u + uPa u by omega] at h1
  rw [Int.toNat_of_nonneg h0.1] at h2
  rw [h1, h2]
theorem gS_rk {wd fo n K : Int} {u : SrS} (h : SInv wd fo n K u) (T : Int) : ∀ k : Nat, (k : Int) ≤ uKa u → 0 ≤ gS u T k ∧ gS u T k ≤ cs (uKf u) k
  | 0, _ => by rw [show ((0 : Nat) : Int) = 0 from rfl, gS_0, cs_0]; omega
  | k + 1, hk => by
    have ih := gS_rk h T k (by omega)
    have h1 : 1 ≤ uKf u ((k : Int) * 7 + 1) := (h.2.2.2.1.2.1.2.2 k (by omega) (by show (k : Int) < uKa u; omega)).1
    rw [show ((k + 1 : Nat) : Int) = (k : Int) + 1 by omega, gS_k u T (by omega) (by omega), cs_s (uKf u) (by omega)]
    split <;> omega
theorem gS_rf {wd fo n K : Int} {u : SrS} (h : SInv wd fo n K u) (hk : 0 ≤ uKa u) (T : Int) : ∀ k : Nat, (k : Int) ≤ uFa u → gS u T (uKa u) ≤ gS u T (uKa u + k) ∧ gS u T (uKa u + k) ≤ gS u T (uKa u) + cs (uFf u) k
  | 0, _ => by rw [show ((0 : Nat) : Int) = 0 from rfl, show uKa u + (0 : Int) = uKa u by omega, cs_0]; omega
  | k + 1, hk2 => by
    have ih := gS_rf h hk T k (by omega)
    have h1 : 1 ≤ uFf u ((k : Int) * 7 + 1) := (h.2.2.2.1.1.2.2 k (by omega) (by show (k : Int) < uFa u; omega)).1
    rw [show ((k + 1 : Nat) : Int) = (k : Int) + 1 by omega, gS_f u T hk (by omega) (by omega), cs_s (uFf u) (by omega)]
    split <;> omega
theorem gS_rp (u : SrS) (T : Int) (hk : 0 ≤ uKa u) (hf : 0 ≤ uFa u) : ∀ k : Nat, gS u T (uKa u + uFa u) ≤ gS u T (uKa u + uFa u + k) ∧ gS u T (uKa u + uFa u + k) ≤ gS u T (uKa u + uFa u) + k
  | 0 => by rw [show ((0 : Nat) : Int) = 0 from rfl, show uKa u + uFa u + (0 : Int) = uKa u + uFa u by omega]; omega
  | k + 1 => by
    have ih := gS_rp u T hk hf k
    rw [show ((k + 1 : Nat) : Int) = (k : Int) + 1 by omega, gS_p u T hk hf (by omega)]
    split <;> omega
theorem tot_r {wd fo n K : Int} {u : SrS} (h : SrOk u) (hI : SInv wd fo n K u) (T : Int) : 0 ≤ tot u 0 (fi u T) 1 ∧ tot u 0 (fi u T) 1 ≤ K := by
  have h7 : 0 ≤ uFa u ∧ uFa u ≤ 24 := h.2.2.2.2.2.2.1
  have h8 : 0 ≤ uKa u ∧ uKa u ≤ 24 := h.2.2.2.2.2.2.2.1
  have h9 := h.am
  have a1 := gS_rk hI T (uKa u).toNat (by omega)
  have a2 := gS_rf hI h8.1 T (uFa u).toNat (by omega)
  have a3 := gS_rp u T h8.1 h7.1 (uPa u).toNat
  rw [Int.toNat_of_nonneg h8.1] at a1
  rw [Int.toNat_of_nonneg h7.1] at a2
  rw [Int.toNat_of_nonneg h9.1] at a3
  have a4 := gS_all h hI.srt T
  have a5 : cs (uFf u) (uFa u) + cs (uKf u) (uKa u) + uPa u ≤ K := hI.2.2.2.2.2.2
  omega
/-- the last item up to NOW -/
theorem last_r {wd fo n K : Int} {u : SrS} (h : SrOk u) (hI : SInv wd fo n K u) (hn : 0 ≤ n) : -1 ≤ (if fi u (n + 1) - 1 < 0 then -1 else itm u (fi u (n + 1) - 1) 0) ∧ (if fi u (n + 1) - 1 < 0 then -1 else itm u (fi u (n + 1) - 1) 0) ≤ n := by
  obtain ⟨a1, a2, a3⟩ := fi_ok h hI.srt (n + 1)
  split
  · omega
  · have c1 := a2 (fi u (n + 1) - 1) (by omega) (by omega)
    have c2 := (itm_0 h hI (i := fi u (n + 1) - 1) (by omega) (by omega)).1
    omega
/-- a comparison of a long number with itself -/
theorem lg_same (x : Int64) : lg_cmp x x = iI 0 := by
  unfold lg_cmp
  rw [if_neg (show ¬ x > x from fun q => absurd (Int64.lt_iff_toInt_lt.mp q) (Int.lt_irrefl _)), if_pos rfl]
  rfl
/-- what a bucket's numbers are -/
theorem srcB {f : fI} {i : Int} (h : srcOk (srB f i)) (hc : f (i * 7 + 1) ≤ 20000) : (1 ≤ f (i * 7 + 1) ∧ -100000 ≤ f (i * 7 + 3) ∧ f (i * 7 + 4) ≤ 100000) ∧ (f (i * 7 + 3) ≤ f (i * 7 + 5) ∧ f (i * 7 + 5) ≤ f (i * 7 + 4)) ∧ (f (i * 7 + 3) ≤ f (i * 7 + 6) ∧ f (i * 7 + 6) ≤ f (i * 7 + 4)) ∧ (f (i * 7 + 1) * f (i * 7 + 3) ≤ f (i * 7 + 2) ∧ f (i * 7 + 2) ≤ f (i * 7 + 1) * f (i * 7 + 4)) ∧ (-2000000000 ≤ f (i * 7 + 1) * f (i * 7 + 3) ∧ f (i * 7 + 1) * f (i * 7 + 4) ≤ 2000000000) := by
  obtain ⟨h1, h2, h3, h4, h5, h6⟩ := h
  have h1 : 1 ≤ f (i * 7 + 1) := h1
  have h2 : -100000 ≤ f (i * 7 + 3) ∧ f (i * 7 + 4) ≤ 100000 := h2
  have a1 : f (i * 7 + 1) * (-100000) ≤ f (i * 7 + 1) * f (i * 7 + 3) := Int.mul_le_mul_of_nonneg_left h2.1 (by omega)
  have a2 : f (i * 7 + 1) * f (i * 7 + 4) ≤ f (i * 7 + 1) * 100000 := Int.mul_le_mul_of_nonneg_left h2.2 (by omega)
  exact ⟨⟨h1, h2.1, h2.2⟩, h3, h4, ⟨h5, h6⟩, by omega, by omega⟩
theorem srcF {wd fo n K : Int} {u : SrS} (hk : SrOk u) (hK : K ≤ 20000) (h : SInv wd fo n K u) {i : Int} (h0 : 0 ≤ i) (hi : i < uFa u) : uFf u (i * 7 + 1) ≤ 20000 ∧ 0 ≤ uFf u (i * 7 + 0) ∧ srcOk (srB (uFf u) i) := by
  have h7 : 0 ≤ uFa u ∧ uFa u ≤ 24 := hk.2.2.2.2.2.2.1
  have h8 : 0 ≤ uKa u ∧ uKa u ≤ 24 := hk.2.2.2.2.2.2.2.1
  have h9 := hk.am
  obtain ⟨-, -, -, ⟨f1, f2, f3, f4⟩, -, -, g⟩ := h
  have a1 := (cs_ge (f := uFf u) (uFa u).toNat (fun i a b => (f1.2.2 i a (by show i < uFa u; omega)).1)).2 i h0 (by omega)
  have a2 := (cs_ge (f := uKf u) (uKa u).toNat (fun i a b => (f2.2.2 i a (by show i < uKa u; omega)).1)).1
  rw [Int.toNat_of_nonneg h7.1] at a1
  rw [Int.toNat_of_nonneg h8.1] at a2
  have a5 : cs (uFf u) (uFa u) + cs (uKf u) (uKa u) + uPa u ≤ K := g
  exact ⟨by omega, (f1.2.1 i h0 hi).1, f1.2.2 i h0 hi⟩
theorem srcK {wd fo n K : Int} {u : SrS} (hk : SrOk u) (hK : K ≤ 20000) (h : SInv wd fo n K u) {i : Int} (h0 : 0 ≤ i) (hi : i < uKa u) : uKf u (i * 7 + 1) ≤ 20000 ∧ 0 ≤ uKf u (i * 7 + 0) ∧ srcOk (srB (uKf u) i) := by
  have h7 : 0 ≤ uFa u ∧ uFa u ≤ 24 := hk.2.2.2.2.2.2.1
  have h8 : 0 ≤ uKa u ∧ uKa u ≤ 24 := hk.2.2.2.2.2.2.2.1
  have h9 := hk.am
  obtain ⟨-, -, -, ⟨f1, f2, f3, f4⟩, -, -, g⟩ := h
  have a1 := (cs_ge (f := uKf u) (uKa u).toNat (fun i a b => (f2.2.2 i a (by show i < uKa u; omega)).1)).2 i h0 (by omega)
  have a2 := (cs_ge (f := uFf u) (uFa u).toNat (fun i a b => (f1.2.2 i a (by show i < uFa u; omega)).1)).1
  rw [Int.toNat_of_nonneg h8.1] at a1
  rw [Int.toNat_of_nonneg h7.1] at a2
  have a5 : cs (uFf u) (uFa u) + cs (uKf u) (uKa u) + uPa u ≤ K := g
  exact ⟨by omega, (f2.2.1 i h0 hi).1, f2.2.2 i h0 hi⟩
section CS
variable {p : Program} {l : Launch} {e : Env} {R : Room} {s : State} {m : MethodId} {args : Array Value} {below : List Frame} {meth : Method} {c : Code} {H : Heap} {locs : List Loc} {cells slots : Nat} {Q : State → Prop}
theorem m_cs {g : JFrame} {c1 s1 : Nat} (hc : c1 = cells) (hs : s1 = slots) (k : W p l e R s m args below meth c H locs c1 s1 Q g) : W p l e R s m args below meth c H locs cells slots Q g := by
  subst hc hs
  exact k
end CS
/-- the points behind a block -/
theorem m_ix {u : SrS} (hu : SrOk u) {b z8 ix : Int} (hb : 0 ≤ b ∧ b ≤ uPb u + 1) (e8 : z8 = szF u b) (hix : ix = sm (uPz u) b) (hle : b ≤ uPb u) : (b + 1 ≤ uPb u → ix + z8 = sm (uPz u) (b + 1)) ∧ (uPb u < b + 1 → ix + z8 = uPa u) := by
  have h2 := hu.2.1
  refine ⟨fun q => ?_, fun q => ?_⟩
  · rw [sm_s _ hb.1, hix, e8, szF_s (by omega)]
  · have e7 : z8 = uPa u - uPs u := by rw [e8, szF_o (by omega)]
    have e9 : ix = sm (uPz u) (uPb u) := by rw [hix, show b = uPb u by omega]
    omega
