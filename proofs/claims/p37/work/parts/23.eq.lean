/-! two series that hold the same (what lies behind their ends may differ) -/
def REq (b c : Int × fI) : Prop := b.1 = c.1 ∧ ∀ j, 0 ≤ j → j < b.1 * 7 → b.2 j = c.2 j
def FEq (x y : FC) : Prop := REq x.1 y.1 ∧ REq x.2 y.2
theorem tkM_eq {f g : fI} {l : Int} {s s' : fI} (h : ∀ j, 0 ≤ j → j < (l + 1) * 7 → f j = g j) (hl : 0 ≤ l) (hs : ∀ w, 1 ≤ w → w ≤ 6 → s w = s' w) {j : Int} (h0 : 0 ≤ j) (h1 : j < (l + 1) * 7) : tkM f l s j = tkM g l s' j := by
  by_cases ho : j < l * 7
  · rw [tkM_out _ _ _ (Or.inl ho), tkM_out _ _ _ (Or.inl ho)]; exact h j h0 h1
  have hw : j = l * 7 + 0 ∨ j = l * 7 + 1 ∨ j = l * 7 + 2 ∨ j = l * 7 + 3 ∨ j = l * 7 + 4 ∨ j = l * 7 + 5 ∨ j = l * 7 + 6 := by omega
  rcases hw with q | q | q | q | q | q | q <;> rw [q] at h1 ⊢
  · rw [tkM_0, tkM_0]; exact h _ (by omega) (by omega)
  · rw [tkM_1, tkM_1, h _ (by omega) (by omega), hs 1 (by omega) (by omega)]
  · rw [tkM_2, tkM_2, h _ (by omega) (by omega), hs 2 (by omega) (by omega)]
  · rw [tkM_3, tkM_3, h _ (by omega) (by omega), hs 3 (by omega) (by omega)]
  · rw [tkM_4, tkM_4, h _ (by omega) (by omega), hs 4 (by omega) (by omega)]
  · rw [tkM_5, tkM_5]; exact h _ (by omega) (by omega)
  · rw [tkM_6, tkM_6, hs 6 (by omega) (by omega)]
theorem bTake_eq {b c : Int × fI} {st : Int} {s s' : fI} (h : REq b c) (hn : 0 ≤ b.1) (hs : ∀ w, 1 ≤ w → w ≤ 6 → s w = s' w) : REq (bTake b st s) (bTake c st s') := by
  obtain ⟨b1, b2⟩ := b
  obtain ⟨c1, c2⟩ := c
  obtain ⟨h1, h2⟩ := h
  dsimp only at h1 h2 hn
  subst h1
  by_cases q : 1 ≤ b1 ∧ b2 ((b1 - 1) * 7 + 0) = st
  · have e1 : bTake (b1, b2) st s = (b1, tkM b2 (b1 - 1) s) := if_pos q
    have e2 : bTake (b1, c2) st s' = (b1, tkM c2 (b1 - 1) s') := if_pos ⟨q.1, by show c2 ((b1 - 1) * 7 + 0) = st; rw [← h2 _ (by omega) (by omega)]; exact q.2⟩
    rw [e1, e2]
    exact ⟨rfl, fun j x y => tkM_eq (fun j x y => h2 j x (by omega)) (by omega) hs x (by have y : j < b1 * 7 := y; omega)⟩
  · have e1 : bTake (b1, b2) st s = (b1 + 1, nwB b2 b1 st s 7) := if_neg q
    have e2 : bTake (b1, c2) st s' = (b1 + 1, nwB c2 b1 st s' 7) := if_neg (fun p => q ⟨p.1, by rw [h2 _ (by have : 1 ≤ b1 := p.1; omega) (by omega)]; exact p.2⟩)
    rw [e1, e2]
    refine ⟨rfl, fun j x y => ?_⟩
    have y : j < (b1 + 1) * 7 := y
    show nwB b2 b1 st s 7 j = nwB c2 b1 st s' 7 j
    unfold nwB
    by_cases z : b1 * 7 ≤ j ∧ j < b1 * 7 + 7
    · rw [if_pos z, if_pos z]
      by_cases z2 : j = b1 * 7
      · rw [if_pos z2, if_pos z2]
      · rw [if_neg z2, if_neg z2]; exact hs _ (by omega) (by omega)
    · rw [if_neg z, if_neg z]; exact h2 j x (by omega)
theorem bDrop_eq {b c : Int × fI} (h : REq b c) : REq (bDrop b) (bDrop c) := by
  obtain ⟨h1, h2⟩ := h
  refine ⟨by show b.1 - 1 = c.1 - 1; omega, fun j x y => ?_⟩
  have y : j < (b.1 - 1) * 7 := y
  show drK b.2 7 (b.1 * 7) j = drK c.2 7 (c.1 * 7) j
  unfold drK
  rw [if_pos (by omega), if_pos (by omega)]
  exact h2 _ (by omega) (by omega)
theorem bFull_eq {b c : Int × fI} (h : REq b c) : REq (bFull b) (bFull c) := by
  unfold bFull
  rw [← h.1]
  split
  · exact bDrop_eq h
  · exact h
theorem rollFine_eq {wd fo : Int} {x y : FC} (h : FEq x y) (h1 : 1 ≤ x.1.1) (h2 : 0 ≤ x.2.1) : FEq (rollFine wd fo x) (rollFine wd fo y) := by
  refine ⟨bDrop_eq h.1, ?_⟩
  have e := h.1.2 (0 * 7 + 0) (by omega) (by omega)
  show REq (bFull (bTake x.2 (stF (x.1.2 (0 * 7 + 0)) (wd * fo)) (srB x.1.2 0))) (bFull (bTake y.2 (stF (y.1.2 (0 * 7 + 0)) (wd * fo)) (srB y.1.2 0)))
  rw [← e]
  exact bFull_eq (bTake_eq h.2 h2 (fun w a b => h.1.2 _ (by omega) (by omega)))
theorem fTake_eq {wd fo : Int} {tt vv tt' vv' : fI} {i : Int} {x y : FC} (h : FEq x y) (h1 : 0 ≤ x.1.1) (h2 : 0 ≤ x.2.1) (ht : tt i = tt' i) (hv : vv i = vv' i) : FEq (fTake wd fo tt vv i x) (fTake wd fo tt' vv' i y) := by
  unfold fTake
  rw [← ht, ← hv]
  have hb := bTake_eq (st := stF (tt i) wd) (s := srP (vv i)) (s' := srP (vv i)) h.1 h1 (fun _ _ _ => rfl)
  rw [← hb.1]
  have hn : 1 ≤ (bTake x.1 (stF (tt i) wd) (srP (vv i))).1 := by
    unfold bTake
    split
    · rename_i q; exact q.1
    · show 1 ≤ x.1.1 + 1; omega
  split
  · exact rollFine_eq (x := (bTake x.1 (stF (tt i) wd) (srP (vv i)), x.2)) (y := (bTake y.1 (stF (tt i) wd) (srP (vv i)), y.2)) ⟨hb, h.2⟩ hn h2
  · exact ⟨hb, h.2⟩
def SEq (u v : SrS) : Prop := (uPa u = uPa v ∧ uPb u = uPb v ∧ uPs u = uPs v ∧ uPg u = uPg v) ∧ (∀ j, 0 ≤ j → j < uPa u → uPt u j = uPt v j ∧ uPv u j = uPv v j) ∧ (∀ b, 0 ≤ b → b < uPb u → uPz u b = uPz v b) ∧ FEq u.2 v.2
theorem cpSr_eq (u v : SrS) : SEq (cpSr u v) v := by
  refine ⟨⟨rfl, rfl, rfl, rfl⟩, fun j x y => ⟨?_, ?_⟩, fun b x y => ?_, ⟨rfl, fun j x y => ?_⟩, ⟨rfl, fun j x y => ?_⟩⟩
  · show cpK (uPt u) (uPt v) (uPa v) j = uPt v j
    unfold cpK; exact if_pos ⟨x, y⟩
  · show cpK (uPv u) (uPv v) (uPa v) j = uPv v j
    unfold cpK; exact if_pos ⟨x, y⟩
  · show cpK (uPz u) (uPz v) (uPb v) b = uPz v b
    unfold cpK; exact if_pos ⟨x, y⟩
  · show cpK (uFf u) (uFf v) (uFa v * 7) j = uFf v j
    unfold cpK; exact if_pos ⟨x, y⟩
  · show cpK (uKf u) (uKf v) (uKa v * 7) j = uKf v j
    unfold cpK; exact if_pos ⟨x, y⟩
theorem cpSr_ok {u v : SrS} (hu : SrOk u) (hv : SrOk v) : SrOk (cpSr u v) := by
  obtain ⟨u1, u2, u3, u4, u5, u6, u7, u8, u9, u10⟩ := hu
  obtain ⟨v1, v2, v3, v4, v5, v6, v7, v8, v9, v10⟩ := hv
  have hz : ∀ b, 0 ≤ b → b < uPb v → cpK (uPz u) (uPz v) (uPb v) b = uPz v b := fun b x y => if_pos ⟨x, y⟩
  refine ⟨v1, ?_, v3, fun b x y => ?_, cpK_r u5 v5, cpK_r u6 v6, v7, v8, cpK_r (lo := -2147483648) (hi := 2147483647) u9 v9, cpK_r (lo := -2147483648) (hi := 2147483647) u10 v10⟩
  · show 0 ≤ uPs v ∧ uPs v ≤ uPa v ∧ uPa v ≤ uPs v + 15 ∧ uPs v = sm (cpK (uPz u) (uPz v) (uPb v)) (uPb v)
    have e := sm_congr (f := cpK (uPz u) (uPz v) (uPb v)) (g := uPz v) (uPb v).toNat (fun j a b => hz j (by omega) (by omega))
    rw [Int.toNat_of_nonneg v1.1] at e
    omega
  · show 1 ≤ cpK (uPz u) (uPz v) (uPb v) b ∧ cpK (uPz u) (uPz v) (uPb v) b ≤ 16
    rw [hz b x y]; exact v4 b x y
theorem blkN_eq {wd fo : Int} (hwf : 1 ≤ wd * fo) (hw : 1 ≤ wd) {u v : SrS} (hu : SrO9 u) (h : SEq u v) : ∀ k : Nat, (k : Int) ≤ uPa u → FEq (blkN wd fo (uPt u) (uPv u) u.2 k) (blkN wd fo (uPt v) (uPv v) v.2 k)
  | 0, _ => h.2.2.2
  | k + 1, hk => by
    have ih := blkN_eq hwf hw hu h k (by omega)
    obtain ⟨u1, u2, u3, u4, u5, u6, u7, u8, u9, u10⟩ := id hu
    have hc := blkN_ok hwf hw (tt := uPt u) (vv := uPv u) (x := u.2) (fun j => by have := u5 j; omega) (fun j => by have := u6 j; omega) ⟨u7.1, u7.2, u9⟩ ⟨u8.1, u8.2, u10⟩ k
    have hj := h.2.1 k (by omega) (by omega)
    exact fTake_eq ih hc.1.1 hc.2.1 hj.1 hj.2
theorem rollBlk_eq {wd fo : Int} (hwf : 1 ≤ wd * fo) (hw : 1 ≤ wd) {u v : SrS} (hu : SrO9 u) (hb : 1 ≤ uPb u) (h : SEq u v) : SEq (rollBlk wd fo u) (rollBlk wd fo v) := by
  have hz := hu.z0 hb
  have hps := hu.2.1
  obtain ⟨⟨a1, a2, a3, a4⟩, b, c, d⟩ := id h
  have ez := c 0 (by omega) (by omega)
  refine ⟨⟨?_, ?_, ?_, a4⟩, fun j x y => ?_, fun b' x y => ?_, ?_⟩
  · show uPa u - uPz u 0 = uPa v - uPz v 0; omega
  · show uPb u - 1 = uPb v - 1; omega
  · show uPs u - uPz u 0 = uPs v - uPz v 0; omega
  · have y : j < uPa u - uPz u 0 := y
    have q := b (j + uPz u 0) (by omega) (by omega)
    show drK (uPt u) (uPz u 0) (uPa u) j = drK (uPt v) (uPz v 0) (uPa v) j ∧ drK (uPv u) (uPz u 0) (uPa u) j = drK (uPv v) (uPz v 0) (uPa v) j
    rw [← ez, ← a1]
    unfold drK
    rw [if_pos (by omega), if_pos (by omega), if_pos (by omega), if_pos (by omega)]
    exact q
  · have y : b' < uPb u - 1 := y
    have q := c (b' + 1) (by omega) (by omega)
    show drK (uPz u) 1 (uPb u) b' = drK (uPz v) 1 (uPb v) b'
    rw [← a2]
    unfold drK
    rw [if_pos (by omega), if_pos (by omega)]
    exact q
  · show FEq (blkN wd fo (uPt u) (uPv u) u.2 (uPz u 0).toNat) (blkN wd fo (uPt v) (uPv v) v.2 (uPz v 0).toNat)
    rw [← ez]
    exact blkN_eq hwf hw hu h _ (by omega)
theorem rbN_eq {wd fo : Int} (hwf : 1 ≤ wd * fo) (hw : 1 ≤ wd) {u v : SrS} (hu : SrOk u) (h : SEq u v) : ∀ k : Nat, (k : Int) ≤ uPb u → SEq (rbN wd fo u k) (rbN wd fo v k)
  | 0, _ => h
  | k + 1, hk => by
    obtain ⟨a1, a2⟩ := rbN_ok hwf hw hu k (by omega)
    exact rollBlk_eq hwf hw a1.nine (by omega) (rbN_eq hwf hw hu h k (by omega))
theorem rfN_eq {wd fo : Int} (hwf : 1 ≤ wd * fo) {x y : FC} (h1 : bOk x.1) (h2 : bOk x.2) (h : FEq x y) : ∀ k : Nat, (k : Int) ≤ x.1.1 → FEq (rfN wd fo x k) (rfN wd fo y k)
  | 0, _ => h
  | k + 1, hk => by
    obtain ⟨a1, a2, a3⟩ := rfN_ok (wd := wd) (fo := fo) hwf h1 h2 k (by omega)
    exact rollFine_eq (rfN_eq hwf h1 h2 h k (by omega)) (by omega) a2.1
theorem bbU_eq {u v : SrS} (hu : SrOk u) (h : SEq u v) (t : Int) : bbU u t = bbU v t := by
  obtain ⟨⟨a1, a2, a3, a4⟩, b, c, d⟩ := id h
  have hps := hu.2.1
  unfold bbU
  rw [← a2]
  refine frs_congr t _ _ (fun j x y => ?_)
  have hj : j < uPb u := by have := hu.1; omega
  have e := sm_congr (f := uPz u) (g := uPz v) (j + 1).toNat (fun i p q => c i (by omega) (by omega))
  rw [Int.toNat_of_nonneg (by omega)] at e
  have g1 := sm_leI hu.2.2.2.1 (b := j + 1) (by omega) (by omega)
  have g2 := sm_mono hu.2.2.2.1 (a := j + 1) (by omega) (uPb u - (j + 1)).toNat (by omega)
  rw [show j + 1 + (((uPb u - (j + 1)).toNat : Nat) : Int) = uPb u by omega] at g2
  show uPt u (sm (uPz u) (j + 1) - 1) = uPt v (sm (uPz v) (j + 1) - 1)
  rw [← e]
  exact (b _ (by omega) (by omega)).1
theorem feU_eq {u v : SrS} (h : SEq u v) (w t : Int) : feU u w t = feU v w t := by
  have d := h.2.2.2.1
  unfold feU
  rw [show uFa v = uFa u from d.1.symm]
  refine frs_congr (t + 1) _ _ (fun j x y => ?_)
  show wr (uFf u (j * 7 + 0) + w) = wr (uFf v (j * 7 + 0) + w)
  rw [show uFf u (j * 7 + 0) = uFf v (j * 7 + 0) from d.2 _ (by omega) (by show j * 7 + 0 < uFa u * 7; omega)]
theorem rollS_eq {wd fo kp lk n : Int} (hwf : 1 ≤ wd * fo) (hw : 1 ≤ wd) {u v : SrS} (hu : SrOk u) (h : SEq u v) : SEq (rollS wd fo kp lk n u) (rollS wd fo kp lk n v) := by
  have hr := rollAt (kp := kp) (lk := lk) (n := n) hwf hw hu
  have eb := bbU_eq hu h (n - kp)
  have hb := rbN_eq hwf hw hu h (if kp = 0 then 0 else bbU u (n - kp)).toNat (by have := hr.1; omega)
  obtain ⟨a1, a2⟩ := rbN_ok hwf hw hu (if kp = 0 then 0 else bbU u (n - kp)).toNat (by have := hr.1; omega)
  obtain ⟨o1, o2, o3, o4, o5, o6, o7, o8, o9, o10⟩ := id a1
  have he := hr.2.2.2.1
  have ee : feU (rbU wd fo kp n u) wd (n - lk) = feU (rbU wd fo kp n v) wd (n - lk) := by
    unfold rbU
    rw [← eb]
    exact feU_eq hb _ _
  have hf := rfN_eq (wd := wd) (fo := fo) hwf (x := (rbN wd fo u (if kp = 0 then 0 else bbU u (n - kp)).toNat).2) ⟨o7.1, o7.2, o9⟩ ⟨o8.1, o8.2, o10⟩ hb.2.2.2 (if lk = 0 then 0 else feU (rbU wd fo kp n u) wd (n - lk)).toNat (by
    show (((if lk = 0 then 0 else feU (rbU wd fo kp n u) wd (n - lk)).toNat : Nat) : Int) ≤ uFa (rbN wd fo u (if kp = 0 then 0 else bbU u (n - kp)).toNat)
    omega)
  show SEq (rollBy wd fo u (if kp = 0 then 0 else bbU u (n - kp)) (if lk = 0 then 0 else feU (rbU wd fo kp n u) wd (n - lk))) (rollBy wd fo v (if kp = 0 then 0 else bbU v (n - kp)) (if lk = 0 then 0 else feU (rbU wd fo kp n v) wd (n - lk)))
  rw [← ee, ← eb]
  exact ⟨hb.1, hb.2.1, hb.2.2.1, hf⟩
theorem itm_eq {u v : SrS} (h : SEq u v) {i w : Int} (h0 : 0 ≤ i) (hi : i < uKa u + uFa u + uPa u) (hw : 0 ≤ w ∧ w ≤ 6) : itm u i w = itm v i w := by
  obtain ⟨⟨a1, a2, a3, a4⟩, b, c, ⟨d1, d2⟩, ⟨e1, e2⟩⟩ := h
  have d1 : uFa u = uFa v := d1
  have e1 : uKa u = uKa v := e1
  unfold itm
  rw [← e1, ← d1]
  split
  · exact e2 _ (by omega) (by show i * 7 + w < uKa u * 7; omega)
  · split
    · exact d2 _ (by omega) (by show (i - uKa u) * 7 + w < uFa u * 7; omega)
    · have q := b (i - uKa u - uFa u) (by omega) (by omega)
      unfold nmP
      rw [q.1, q.2]
theorem SEq.n {u v : SrS} (h : SEq u v) : uKa u + uFa u + uPa u = uKa v + uFa v + uPa v := by
  obtain ⟨⟨a1, a2, a3, a4⟩, b, c, ⟨d1, d2⟩, ⟨e1, e2⟩⟩ := h
  have d1 : uFa u = uFa v := d1
  have e1 : uKa u = uKa v := e1
  omega
theorem fiN_eq {u v : SrS} (h : SEq u v) (t : Int) : ∀ n : Nat, (n : Int) ≤ uKa u + uFa u + uPa u → fiN u t n = fiN v t n
  | 0, _ => rfl
  | n + 1, hn => by
    have ih := fiN_eq h t n (by omega)
    have e := itm_eq h (i := n) (w := 0) (by omega) (by omega) (by omega)
    show (if itm u n 0 < t then (n : Int) + 1 else fiN u t n) = (if itm v n 0 < t then (n : Int) + 1 else fiN v t n)
    rw [e, ih]
theorem fi_eq {u v : SrS} (h : SEq u v) (hn : 0 ≤ uKa u + uFa u + uPa u) (t : Int) : fi u t = fi v t := by
  unfold fi
  rw [← h.n]
  exact fiN_eq h t _ (by omega)
theorem tot_eq {u v : SrS} (h : SEq u v) {w a : Int} (hw : 0 ≤ w ∧ w ≤ 6) (ha : 0 ≤ a) : ∀ n : Nat, a + n ≤ uKa u + uFa u + uPa u → totN u w a n = totN v w a n
  | 0, _ => rfl
  | n + 1, hn => by
    have ih := tot_eq h hw ha n (by omega)
    show totN u w a n + itm u (a + n) w = totN v w a n + itm v (a + n) w
    rw [ih, itm_eq h (by omega) (by omega) hw]
theorem lea_eq {u v : SrS} (h : SEq u v) {a : Int} (ha : 0 ≤ a) : ∀ n : Nat, a + 1 + n ≤ uKa u + uFa u + uPa u → leaN u a n = leaN v a n
  | 0, hn => itm_eq h ha (by omega) (by omega)
  | n + 1, hn => by
    have ih := lea_eq h ha n (by omega)
    show min (leaN u a n) (itm u (a + 1 + n) 3) = min (leaN v a n) (itm v (a + 1 + n) 3)
    rw [ih, itm_eq h (by omega) (by omega) (by omega)]
theorem gre_eq {u v : SrS} (h : SEq u v) {a : Int} (ha : 0 ≤ a) : ∀ n : Nat, a + 1 + n ≤ uKa u + uFa u + uPa u → greN u a n = greN v a n
  | 0, hn => itm_eq h ha (by omega) (by omega)
  | n + 1, hn => by
    have ih := gre_eq h ha n (by omega)
    show max (greN u a n) (itm u (a + 1 + n) 4) = max (greN v a n) (itm v (a + 1 + n) 4)
    rw [ih, itm_eq h (by omega) (by omega) (by omega)]
theorem tlF_eq {u v : SrS} (h : SEq u v) {a b w : Int} (ha : 0 ≤ a) (hb : b ≤ uKa u + uFa u + uPa u) : tlF u a b w = tlF v a b w := by
  unfold tlF
  by_cases q : b ≤ a
  · rw [if_pos q, if_pos q]
  · rw [if_neg q, if_neg q]
    have t1 : tot u a b 1 = tot v a b 1 := tot_eq h (by omega) ha _ (by omega)
    have t2 : tot u a b 2 = tot v a b 2 := tot_eq h (by omega) ha _ (by omega)
    have t3 : lea u a b = lea v a b := lea_eq h ha _ (by omega)
    have t4 : gre u a b = gre v a b := gre_eq h ha _ (by omega)
    rw [t1, t2, t3, t4, itm_eq h (i := a) (w := 5) ha (by omega) (by omega), itm_eq h (i := b - 1) (w := 6) (by omega) (by omega) (by omega)]
