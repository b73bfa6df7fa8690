set_option maxRecDepth 100000 in
set_option maxHeartbeats 4000000 in
theorem c_Jx4a65c_size_8abf5 (l : Launch) (dC : Nat → ClassId) (dI : Nat → Nat → Nat) (cI cO : ClassId) (h : Nat) (ca : Nat) (md : Int) (n : Int) (sz : Nat) : Met l yJx4a65c_size_8abf5 wsJx4a65c_size_8abf5 ({ frames := 0, cells := 0, slots := 0, locals := 0 }) (mPc (dC, dI) [(cI, .int), (cO, .object "java/lang/Object")] [.ref h] sz [(h, .inr (0, [.int (iI md), .ref ca, .int (iI n)]))]) (mQi (dC, dI) [(h, .inr (0, [.int (iI md), .ref ca, .int (iI n)]))] [(h, .inr (0, [.int (iI md), .ref ca, .int (iI n)]))] sz n) 0 0 (va_A [(h, .inr (0, [.int (iI md), .ref ca, .int (iI n)]))] sz) := by
  refine mMet (cc := cJx4a65c_size_8abf5) (maxL := 1) (ret := (some .int)) (by decide) rfl (Nat.le_of_ble_eq_true rfl) ?_
  intro p e s m args below meth c A ls hx hb hr hts hown hlocks hin hml hAe hsz hA hD H hHe hP hK hZ hS hl Q hQ
  have hl : lv_has ls 1 [(0, .ref h)] := hl
  have hf48 := hts (.fieldLink RJx4a65c 48 "java/util/ArrayList" "size" "I") (by decide +kernel)
  have hi_Jx4a65c : ∀ w ∈ u_ws RJx4a65c TJx4a65c 3, w ∈ wsJx4a65c_size_8abf5 := by decide +kernel
  refine lv_aload_n hx hb dJx4a65c_size_8abf5_0 rfl (lv_at hl 0 rfl) ?_
  refine va_get (ci := 0) (v := .int (iI n)) (C := RJx4a65c) (T := TJx4a65c) (N := 3) hx hb hts hi_Jx4a65c hown hK hP 0 rfl rfl 2 (by decide) hf48 (fun _ h9 => h9) rfl dJx4a65c_size_8abf5_1 ?_
  exact mi_iret hx hb hQ hr hlocks hAe hsz hP hD hS (by first | rfl | omega | (split <;> omega)) rfl dJx4a65c_size_8abf5_4

set_option maxRecDepth 100000 in
set_option maxHeartbeats 4000000 in
theorem c_J3_checkIndex_8e157 (l : Launch) (dC : Nat → ClassId) (dI : Nat → Nat → Nat) (cI cO : ClassId) (i : Int) (n : Int) (sz : Nat) (hi : 0 ≤ i ∧ i < n) (hn : n ≤ 100) : Met l yJ3_checkIndex_8e157 wsJ3_checkIndex_8e157 ({ frames := 0, cells := 0, slots := 0, locals := 0 }) (mPc (dC, dI) [(cI, .int), (cO, .object "java/lang/Object")] [.int (iI i), .int (iI n), .null] sz []) (mQi (dC, dI) [] [] sz i) 0 0 (va_A [] sz) := by
  refine mMet (cc := cJ3_checkIndex_8e157) (maxL := 3) (ret := (some .int)) (by decide) rfl (Nat.le_of_ble_eq_true rfl) ?_
  intro p e s m args below meth c A ls hx hb hr hts hown hlocks hin hml hAe hsz hA hD H hHe hP hK hZ hS hl Q hQ
  have hl : lv_has ls 3 [(0, .int (iI i)), (1, .int (iI n)), (2, .null)] := hl
  refine lv_iload_n hx hb dJ3_checkIndex_8e157_0 rfl (lv_at hl 0 rfl) ?_
  refine mi_if_lt (tgt := 9) hx hb (by omega) dJ3_checkIndex_8e157_1 (by decide) (fun c_1 => ?_) (fun c_1 => ?_)
  · exfalso; omega
  · refine lv_iload_n hx hb dJ3_checkIndex_8e157_4 rfl (lv_at hl 0 rfl) ?_
    refine lv_iload_n hx hb dJ3_checkIndex_8e157_5 rfl (lv_at hl 1 rfl) ?_
    refine mi_icmp_lt (tgt := 16) hx hb (by omega) (by omega) dJ3_checkIndex_8e157_6 (by decide) (fun c_2 => ?_) (fun c_2 => ?_)
    · refine lv_iload_n hx hb dJ3_checkIndex_8e157_16 rfl (lv_at hl 0 rfl) ?_
      exact mi_iret hx hb hQ hr hlocks hAe hsz hP hD hS (by first | rfl | omega | (split <;> omega)) rfl dJ3_checkIndex_8e157_17
    · exfalso; omega

set_option maxRecDepth 100000 in
set_option maxHeartbeats 4000000 in
theorem c_J15_checkIndex_7cf53 (l : Launch) (dC : Nat → ClassId) (dI : Nat → Nat → Nat) (cI cO : ClassId) (i : Int) (n : Int) (sz : Nat) (hi : 0 ≤ i ∧ i < n) (hn : n ≤ 100) : Met l yJ15_checkIndex_7cf53 wsJ15_checkIndex_7cf53 ({ frames := 1, cells := 0, slots := 0, locals := 22 }) (mPc (dC, dI) [(cI, .int), (cO, .object "java/lang/Object")] [.int (iI i), .int (iI n)] sz []) (mQi (dC, dI) [] [] sz i) 0 0 (va_A [] sz) := by
  refine mMet (cc := cJ15_checkIndex_7cf53) (maxL := 2) (ret := (some .int)) (by decide) rfl (Nat.le_of_ble_eq_true rfl) ?_
  intro p e s m args below meth c A ls hx hb hr hts hown hlocks hin hml hAe hsz hA hD H hHe hP hK hZ hS hl Q hQ
  have hl : lv_has ls 2 [(0, .int (iI i)), (1, .int (iI n))] := hl
  refine lv_iload_n hx hb dJ15_checkIndex_7cf53_0 rfl (lv_at hl 0 rfl) ?_
  refine lv_iload_n hx hb dJ15_checkIndex_7cf53_1 rfl (lv_at hl 1 rfl) ?_
  refine lv_null hx hb dJ15_checkIndex_7cf53_2 ?_
  refine m_run (wc := []) (wc' := []) (wr := []) (ws' := []) (va_runS (As := [.int (iI i), .int (iI n), .null]) (rest := []) ⟨hx, hb, hml, hown, hts⟩ (c_J3_checkIndex_8e157 l dC dI cI cO i n H.size (by first | assumption | omega) (by first | assumption | omega)) (va_cwS 3 hts gJ15_checkIndex_7cf53_J3_checkIndex_8e157 rfl rfl rfl (by decide +kernel) ⟨Nat.le_of_ble_eq_true rfl, Nat.le_of_ble_eq_true rfl⟩) (m_preS hZ hK hP hD [] rfl (by decide)) rfl rfl hl.1 rfl (lv_room (Nat.le_of_ble_eq_true rfl)) dJ15_checkIndex_7cf53_3 ⟨Nat.le_of_ble_eq_true rfl, Nat.le_of_ble_eq_true rfl⟩) hP hD hS hA [] [] [] rfl rfl (by decide) (by decide) rfl (by decide) (fun H locs hP hD hS => ?_)
  exact mi_iret hx hb hQ hr hlocks hAe hsz hP hD hS (by first | rfl | omega | (split <;> omega)) rfl dJ15_checkIndex_7cf53_6

set_option maxRecDepth 100000 in
set_option maxHeartbeats 4000000 in
theorem c_Jx4a65c_elementData_915e3 (l : Launch) (dC : Nat → ClassId) (dI : Nat → Nat → Nat) (cI cO : ClassId) (h : Nat) (ca : Nat) (md : Int) (n : Int) (fq : Nat → Option Nat) (i : Int) (r : Nat) (sz : Nat) (hi : 0 ≤ i ∧ i < n) (hn : n ≤ 10) (hr9 : fq i.toNat = some r) : Met l yJx4a65c_elementData_915e3 wsJx4a65c_elementData_915e3 ({ frames := 0, cells := 0, slots := 0, locals := 0 }) (mPc (dC, dI) [(cI, .int), (cO, .object "java/lang/Object")] [.ref h, .int (iI i)] sz [(h, .inr (0, [.int (iI md), .ref ca, .int (iI n)])), (ca, .inl (cO, 10, .inr (.inr (.inr (.inr fq)))))]) (mQr (dC, dI) [(h, .inr (0, [.int (iI md), .ref ca, .int (iI n)])), (ca, .inl (cO, 10, .inr (.inr (.inr (.inr fq)))))] [(h, .inr (0, [.int (iI md), .ref ca, .int (iI n)])), (ca, .inl (cO, 10, .inr (.inr (.inr (.inr fq)))))] sz r) 0 0 (va_A [(h, .inr (0, [.int (iI md), .ref ca, .int (iI n)])), (ca, .inl (cO, 10, .inr (.inr (.inr (.inr fq)))))] sz) := by
  refine mMet (cc := cJx4a65c_elementData_915e3) (maxL := 2) (ret := (some (.object "java/lang/Object"))) (by decide) rfl (Nat.le_of_ble_eq_true rfl) ?_
  intro p e s m args below meth c A ls hx hb hr hts hown hlocks hin hml hAe hsz hA hD H hHe hP hK hZ hS hl Q hQ
  have hl : lv_has ls 2 [(0, .ref h), (1, .int (iI i))] := hl
  have hf9 := hts (.fieldLink RJx4a65c 9 "java/util/ArrayList" "elementData" "[Ljava/lang/Object;") (by decide +kernel)
  have hi_Jx4a65c : ∀ w ∈ u_ws RJx4a65c TJx4a65c 3, w ∈ wsJx4a65c_elementData_915e3 := by decide +kernel
  refine lv_aload_n hx hb dJx4a65c_elementData_915e3_0 rfl (lv_at hl 0 rfl) ?_
  refine va_get (ci := 0) (v := .ref ca) (C := RJx4a65c) (T := TJx4a65c) (N := 3) hx hb hts hi_Jx4a65c hown hK hP 0 rfl rfl 1 (by decide) hf9 (fun _ h9 => h9) rfl dJx4a65c_elementData_915e3_1 ?_
  refine lv_iload_n hx hb dJx4a65c_elementData_915e3_4 rfl (lv_at hl 1 rfl) ?_
  refine mi_aald hx hb hK hP 1 1 rfl rfl (i := i) (by omega) (by decide) (r := r) hr9 dJx4a65c_elementData_915e3_5 ?_
  exact mi_aret hx hb hQ hr (Or.inl ⟨_, rfl⟩) hlocks hAe hsz hP hD hS (by first | rfl | omega | (split <;> omega)) rfl dJx4a65c_elementData_915e3_6

set_option maxRecDepth 100000 in
set_option maxHeartbeats 4000000 in
theorem c_Jx4a65c_get_915e3 (l : Launch) (dC : Nat → ClassId) (dI : Nat → Nat → Nat) (cI cO : ClassId) (h : Nat) (ca : Nat) (md : Int) (n : Int) (fq : Nat → Option Nat) (i : Int) (r : Nat) (sz : Nat) (hi : 0 ≤ i ∧ i < n) (hn : n ≤ 10) (hr9 : fq i.toNat = some r) : Met l yJx4a65c_get_915e3 wsJx4a65c_get_915e3 ({ frames := 2, cells := 0, slots := 0, locals := 43 }) (mPc (dC, dI) [(cI, .int), (cO, .object "java/lang/Object")] [.ref h, .int (iI i)] sz [(h, .inr (0, [.int (iI md), .ref ca, .int (iI n)])), (ca, .inl (cO, 10, .inr (.inr (.inr (.inr fq)))))]) (mQr (dC, dI) [(h, .inr (0, [.int (iI md), .ref ca, .int (iI n)])), (ca, .inl (cO, 10, .inr (.inr (.inr (.inr fq)))))] [(h, .inr (0, [.int (iI md), .ref ca, .int (iI n)])), (ca, .inl (cO, 10, .inr (.inr (.inr (.inr fq)))))] sz r) 0 0 (va_A [(h, .inr (0, [.int (iI md), .ref ca, .int (iI n)])), (ca, .inl (cO, 10, .inr (.inr (.inr (.inr fq)))))] sz) := by
  refine mMet (cc := cJx4a65c_get_915e3) (maxL := 2) (ret := (some (.object "java/lang/Object"))) (by decide) rfl (Nat.le_of_ble_eq_true rfl) ?_
  intro p e s m args below meth c A ls hx hb hr hts hown hlocks hin hml hAe hsz hA hD H hHe hP hK hZ hS hl Q hQ
  have hl : lv_has ls 2 [(0, .ref h), (1, .int (iI i))] := hl
  have hf48 := hts (.fieldLink RJx4a65c 48 "java/util/ArrayList" "size" "I") (by decide +kernel)
  have hi_Jx4a65c : ∀ w ∈ u_ws RJx4a65c TJx4a65c 3, w ∈ wsJx4a65c_get_915e3 := by decide +kernel
  refine lv_iload_n hx hb dJx4a65c_get_915e3_0 rfl (lv_at hl 1 rfl) ?_
  refine lv_aload_n hx hb dJx4a65c_get_915e3_1 rfl (lv_at hl 0 rfl) ?_
  refine va_get (ci := 0) (v := .int (iI n)) (C := RJx4a65c) (T := TJx4a65c) (N := 3) hx hb hts hi_Jx4a65c hown hK hP 0 rfl rfl 2 (by decide) hf48 (fun _ h9 => h9) rfl dJx4a65c_get_915e3_2 ?_
  refine m_run (wc := []) (wc' := []) (wr := [(h, .inr (0, [.int (iI md), .ref ca, .int (iI n)])), (ca, .inl (cO, 10, .inr (.inr (.inr (.inr fq)))))]) (ws' := [(h, .inr (0, [.int (iI md), .ref ca, .int (iI n)])), (ca, .inl (cO, 10, .inr (.inr (.inr (.inr fq)))))]) (va_runS (As := [.int (iI i), .int (iI n)]) (rest := []) ⟨hx, hb, hml, hown, hts⟩ (c_J15_checkIndex_7cf53 l dC dI cI cO i n H.size (by first | assumption | omega) (by first | assumption | omega)) (va_cwS 2 hts gJx4a65c_get_915e3_J15_checkIndex_7cf53 rfl rfl rfl (by decide +kernel) ⟨Nat.le_of_ble_eq_true rfl, Nat.le_of_ble_eq_true rfl⟩) (m_preS hZ hK hP hD [] rfl (by decide)) rfl rfl hl.1 rfl (lv_room (Nat.le_of_ble_eq_true rfl)) dJx4a65c_get_915e3_5 ⟨Nat.le_of_ble_eq_true rfl, Nat.le_of_ble_eq_true rfl⟩) hP hD hS hA [] [0, 1] [0, 1] rfl rfl (by decide) (by decide) rfl (by decide) (fun H locs hP hD hS => ?_)
  refine lv_pop hx hb dJx4a65c_get_915e3_8 rfl ?_
  refine lv_aload_n hx hb dJx4a65c_get_915e3_9 rfl (lv_at hl 0 rfl) ?_
  refine lv_iload_n hx hb dJx4a65c_get_915e3_10 rfl (lv_at hl 1 rfl) ?_
  refine m_runr (wc := [(h, .inr (0, [.int (iI md), .ref ca, .int (iI n)])), (ca, .inl (cO, 10, .inr (.inr (.inr (.inr fq)))))]) (wc' := [(h, .inr (0, [.int (iI md), .ref ca, .int (iI n)])), (ca, .inl (cO, 10, .inr (.inr (.inr (.inr fq)))))]) (wr := []) (ws' := [(h, .inr (0, [.int (iI md), .ref ca, .int (iI n)])), (ca, .inl (cO, 10, .inr (.inr (.inr (.inr fq)))))]) (va_runV (As := [.int (iI i)]) (rest := []) ⟨hx, hb, hml, hown, hts⟩ (c_Jx4a65c_elementData_915e3 l dC dI cI cO h ca md n fq i r H.size (by first | assumption | omega) (by first | assumption | omega) (by first | assumption | omega)) (cwV 1 hts gJx4a65c_get_915e3_Jx4a65c_elementData_915e3 rfl rfl rfl (by decide +kernel) ⟨Nat.le_of_ble_eq_true rfl, Nat.le_of_ble_eq_true rfl⟩) (m_preV hZ hK hP hD [0, 1] rfl (by decide) (va_recv hK hP (ci := 0) (q0 := 0) rfl rfl)) rfl rfl hl.1 rfl (lv_room (Nat.le_of_ble_eq_true rfl)) dJx4a65c_get_915e3_11 ⟨Nat.le_of_ble_eq_true rfl, Nat.le_of_ble_eq_true rfl⟩) hP hD hS hA [0, 1] [] [0, 1] rfl rfl (by decide) (by decide) rfl (by decide) (fun H locs hP hD hS => ?_)
  exact mi_aret hx hb hQ hr (Or.inl ⟨_, rfl⟩) hlocks hAe hsz hP hD hS (by first | rfl | omega | (split <;> omega)) rfl dJx4a65c_get_915e3_14

set_option maxRecDepth 100000 in
set_option maxHeartbeats 4000000 in
theorem c_X5_isDueAt (l : Launch) (dC : Nat → ClassId) (dI : Nat → Nat → Nat) (cI cO : ClassId) (h : Nat) (ch : Nat) (wh : Int) (le : Int) (ev : Int) (ab : Int) (li : Int) (ti : Int) (st : Int) (row : Int) (n : Int) (sz : Nat) (hn : 0 ≤ n ∧ n ≤ 99999) (hev : 1 ≤ ev ∧ ev ≤ 60) : Met l yX5_isDueAt wsX5_isDueAt ({ frames := 0, cells := 0, slots := 0, locals := 0 }) (mPc (dC, dI) [(cI, .int), (cO, .object "java/lang/Object")] [.ref h, .int (iI n)] sz [(h, .inr (5, [.ref ch, .int (iI wh), .int (iI le), .int (iI ev), .int (iI ab), .int (iI li), .int (iI ti), .int (iI st), .int (iI row)]))]) (mQi (dC, dI) [(h, .inr (5, [.ref ch, .int (iI wh), .int (iI le), .int (iI ev), .int (iI ab), .int (iI li), .int (iI ti), .int (iI st), .int (iI row)]))] [(h, .inr (5, [.ref ch, .int (iI wh), .int (iI le), .int (iI ev), .int (iI ab), .int (iI li), .int (iI ti), .int (iI st), .int (iI row)]))] sz (if Int.tmod n ev = 0 then 1 else 0)) 0 0 (va_A [(h, .inr (5, [.ref ch, .int (iI wh), .int (iI le), .int (iI ev), .int (iI ab), .int (iI li), .int (iI ti), .int (iI st), .int (iI row)]))] sz) := by
  refine mMet (cc := cX5_isDueAt) (maxL := 2) (ret := (some .boolean)) (by decide) rfl (Nat.le_of_ble_eq_true rfl) ?_
  intro p e s m args below meth c A ls hx hb hr hts hown hlocks hin hml hAe hsz hA hD H hHe hP hK hZ hS hl Q hQ
  have hl : lv_has ls 2 [(0, .ref h), (1, .int (iI n))] := hl
  have hf28 := hts (.fieldLink RX5 28 "MeridianSeries$Rule" "every" "I") (by decide +kernel)
  have hi_X5 : ∀ w ∈ u_ws RX5 TX5 9, w ∈ wsX5_isDueAt := by decide +kernel
  have htm : 0 ≤ Int.tmod n ev ∧ Int.tmod n ev ≤ 99999 := by
    rw [Int.tmod_eq_emod_of_nonneg hn.1]
    have q1 := Int.emod_nonneg n (show ev ≠ 0 by omega)
    have q2 := Int.emod_lt_of_pos n (show 0 < ev by omega)
    omega
  refine lv_aload_n hx hb dX5_isDueAt_0 rfl (lv_at hl 0 rfl) ?_
  refine va_get (ci := 5) (v := .int (iI ev)) (C := RX5) (T := TX5) (N := 9) hx hb hts hi_X5 hown hK hP 0 rfl rfl 3 (by decide) hf28 (fun _ h9 => h9) rfl dX5_isDueAt_1 ?_
  refine mi_if_le (tgt := 20) hx hb (by omega) dX5_isDueAt_4 (by decide) (fun c_1 => ?_) (fun c_1 => ?_)
  · exfalso; omega
  · refine lv_iload_n hx hb dX5_isDueAt_7 rfl (lv_at hl 1 rfl) ?_
    refine lv_aload_n hx hb dX5_isDueAt_8 rfl (lv_at hl 0 rfl) ?_
    refine va_get (ci := 5) (v := .int (iI ev)) (C := RX5) (T := TX5) (N := 9) hx hb hts hi_X5 hown hK hP 0 rfl rfl 3 (by decide) hf28 (fun _ h9 => h9) rfl dX5_isDueAt_9 ?_
    refine mi_irem hx hb (by omega) (by omega) (by omega) dX5_isDueAt_12 ?_
    refine mi_if_ne (tgt := 20) hx hb (by omega) dX5_isDueAt_13 (by decide) (fun c_2 => ?_) (fun c_2 => ?_)
    · refine mi_iconst hx hb dX5_isDueAt_20 ?_
      exact mi_zret hx hb hQ hr hlocks hAe hsz hP hD hS (by decide) (by first | rfl | omega | (split <;> omega)) rfl dX5_isDueAt_21
    · refine mi_iconst hx hb dX5_isDueAt_16 ?_
      refine lv_goto (tgt := 21) hx hb dX5_isDueAt_17 (by decide) ?_
      exact mi_zret hx hb hQ hr hlocks hAe hsz hP hD hS (by decide) (by first | rfl | omega | (split <;> omega)) rfl dX5_isDueAt_21

set_option maxRecDepth 100000 in
set_option maxHeartbeats 4000000 in
theorem c_X5_become (l : Launch) (dC : Nat → ClassId) (dI : Nat → Nat → Nat) (cI cO : ClassId) (h : Nat) (ch : Nat) (wh : Int) (le : Int) (ev : Int) (ab : Int) (li : Int) (ti : Int) (st : Int) (row : Int) (to : Int) (sz : Nat) : Met l yX5_become wsX5_become ({ frames := 0, cells := 0, slots := 0, locals := 0 }) (mPc (dC, dI) [(cI, .int), (cO, .object "java/lang/Object")] [.ref h, .int (iI to)] sz [(h, .inr (5, [.ref ch, .int (iI wh), .int (iI le), .int (iI ev), .int (iI ab), .int (iI li), .int (iI ti), .int (iI st), .int (iI row)]))]) (mQv (dC, dI) [(h, .inr (5, [.ref ch, .int (iI wh), .int (iI le), .int (iI ev), .int (iI ab), .int (iI li), .int (iI ti), .int (iI st), .int (iI row)]))] [(h, .inr (5, [.ref ch, .int (iI wh), .int (iI le), .int (iI ev), .int (iI ab), .int (iI li), .int (iI ti), .int (iI to), .int (iI 0)]))] sz) 0 0 (va_A [(h, .inr (5, [.ref ch, .int (iI wh), .int (iI le), .int (iI ev), .int (iI ab), .int (iI li), .int (iI ti), .int (iI st), .int (iI row)]))] sz) := by
  refine mMet (cc := cX5_become) (maxL := 2) (ret := none) (by decide) rfl (Nat.le_of_ble_eq_true rfl) ?_
  intro p e s m args below meth c A ls hx hb hr hts hown hlocks hin hml hAe hsz hA hD H hHe hP hK hZ hS hl Q hQ
  have hl : lv_has ls 2 [(0, .ref h), (1, .int (iI to))] := hl
  have hf9 := hts (.fieldLink RX5 9 "MeridianSeries$Rule" "state" "I") (by decide +kernel)
  have hi_X5 : ∀ w ∈ u_ws RX5 TX5 9, w ∈ wsX5_become := by decide +kernel
  have hf15 := hts (.fieldLink RX5 15 "MeridianSeries$Rule" "timesInRow" "I") (by decide +kernel)
  refine lv_aload_n hx hb dX5_become_0 rfl (lv_at hl 0 rfl) ?_
  refine lv_iload_n hx hb dX5_become_1 rfl (lv_at hl 1 rfl) ?_
  refine va_put (D := (dC, dI)) (ci := 5) (v := .int (iI to)) (ty := .int) (C := RX5) (T := TX5) (N := 9) hx hb hts hi_X5 tyX5 tyX5_ok nmX5 hown hK hP hD hS 0 rfl rfl 7 (by decide) hf9 (fun _ h9 => h9) rfl (by decide +kernel) rfl rfl (Nat.le_of_ble_eq_true rfl) dX5_become_2 (fun H locs hP hD hS => ?_)
  have hP : va_P (dC, dI) vwCl [(h, .inr (5, [.ref ch, .int (iI wh), .int (iI le), .int (iI ev), .int (iI ab), .int (iI li), .int (iI ti), .int (iI to), .int (iI row)]))] H := hP
  have hD : va_D A [(h, .inr (5, [.ref ch, .int (iI wh), .int (iI le), .int (iI ev), .int (iI ab), .int (iI li), .int (iI ti), .int (iI to), .int (iI row)]))] := hD
  refine lv_aload_n hx hb dX5_become_5 rfl (lv_at hl 0 rfl) ?_
  refine mi_iconst hx hb dX5_become_6 ?_
  refine va_put (D := (dC, dI)) (ci := 5) (v := .int (iI 0)) (ty := .int) (C := RX5) (T := TX5) (N := 9) hx hb hts hi_X5 tyX5 tyX5_ok nmX5 hown hK hP hD hS 0 rfl rfl 8 (by decide) hf15 (fun _ h9 => h9) rfl (by decide +kernel) rfl rfl (Nat.le_of_ble_eq_true rfl) dX5_become_7 (fun H locs hP hD hS => ?_)
  have hP : va_P (dC, dI) vwCl [(h, .inr (5, [.ref ch, .int (iI wh), .int (iI le), .int (iI ev), .int (iI ab), .int (iI li), .int (iI ti), .int (iI to), .int (iI 0)]))] H := hP
  have hD : va_D A [(h, .inr (5, [.ref ch, .int (iI wh), .int (iI le), .int (iI ev), .int (iI ab), .int (iI li), .int (iI ti), .int (iI to), .int (iI 0)]))] := hD
  exact mi_vret hx hb hQ hr hlocks hAe hsz hP hD hS rfl dX5_become_10

set_option maxRecDepth 100000 in
set_option maxHeartbeats 4000000 in
theorem c_X5_copyFrom (l : Launch) (dC : Nat → ClassId) (dI : Nat → Nat → Nat) (cI cO : ClassId) (h : Nat) (ch : Nat) (wh : Int) (le : Int) (ev : Int) (ab : Int) (li : Int) (ti : Int) (st : Int) (row : Int) (o : Nat) (ch2 : Nat) (wh2 : Int) (le2 : Int) (ev2 : Int) (ab2 : Int) (li2 : Int) (ti2 : Int) (st2 : Int) (row2 : Int) (sz : Nat) : Met l yX5_copyFrom wsX5_copyFrom ({ frames := 0, cells := 0, slots := 0, locals := 0 }) (mPc (dC, dI) [(cI, .int), (cO, .object "java/lang/Object")] [.ref h, .ref o] sz [(h, .inr (5, [.ref ch, .int (iI wh), .int (iI le), .int (iI ev), .int (iI ab), .int (iI li), .int (iI ti), .int (iI st), .int (iI row)])), (o, .inr (5, [.ref ch2, .int (iI wh2), .int (iI le2), .int (iI ev2), .int (iI ab2), .int (iI li2), .int (iI ti2), .int (iI st2), .int (iI row2)]))]) (mQv (dC, dI) [(h, .inr (5, [.ref ch, .int (iI wh), .int (iI le), .int (iI ev), .int (iI ab), .int (iI li), .int (iI ti), .int (iI st), .int (iI row)])), (o, .inr (5, [.ref ch2, .int (iI wh2), .int (iI le2), .int (iI ev2), .int (iI ab2), .int (iI li2), .int (iI ti2), .int (iI st2), .int (iI row2)]))] [(h, .inr (5, [.ref ch, .int (iI wh), .int (iI le), .int (iI ev), .int (iI ab), .int (iI li), .int (iI ti), .int (iI st2), .int (iI row2)])), (o, .inr (5, [.ref ch2, .int (iI wh2), .int (iI le2), .int (iI ev2), .int (iI ab2), .int (iI li2), .int (iI ti2), .int (iI st2), .int (iI row2)]))] sz) 0 0 (va_A [(h, .inr (5, [.ref ch, .int (iI wh), .int (iI le), .int (iI ev), .int (iI ab), .int (iI li), .int (iI ti), .int (iI st), .int (iI row)])), (o, .inr (5, [.ref ch2, .int (iI wh2), .int (iI le2), .int (iI ev2), .int (iI ab2), .int (iI li2), .int (iI ti2), .int (iI st2), .int (iI row2)]))] sz) := by
  refine mMet (cc := cX5_copyFrom) (maxL := 2) (ret := none) (by decide) rfl (Nat.le_of_ble_eq_true rfl) ?_
  intro p e s m args below meth c A ls hx hb hr hts hown hlocks hin hml hAe hsz hA hD H hHe hP hK hZ hS hl Q hQ
  have hl : lv_has ls 2 [(0, .ref h), (1, .ref o)] := hl
  have hf9 := hts (.fieldLink RX5 9 "MeridianSeries$Rule" "state" "I") (by decide +kernel)
  have hi_X5 : ∀ w ∈ u_ws RX5 TX5 9, w ∈ wsX5_copyFrom := by decide +kernel
  have hf15 := hts (.fieldLink RX5 15 "MeridianSeries$Rule" "timesInRow" "I") (by decide +kernel)
  refine lv_aload_n hx hb dX5_copyFrom_0 rfl (lv_at hl 0 rfl) ?_
  refine lv_aload_n hx hb dX5_copyFrom_1 rfl (lv_at hl 1 rfl) ?_
  refine va_get (ci := 5) (v := .int (iI st2)) (C := RX5) (T := TX5) (N := 9) hx hb hts hi_X5 hown hK hP 1 rfl rfl 7 (by decide) hf9 (fun _ h9 => h9) rfl dX5_copyFrom_2 ?_
  refine va_put (D := (dC, dI)) (ci := 5) (v := .int (iI st2)) (ty := .int) (C := RX5) (T := TX5) (N := 9) hx hb hts hi_X5 tyX5 tyX5_ok nmX5 hown hK hP hD hS 0 rfl rfl 7 (by decide) hf9 (fun _ h9 => h9) rfl (by decide +kernel) rfl rfl (Nat.le_of_ble_eq_true rfl) dX5_copyFrom_5 (fun H locs hP hD hS => ?_)
  have hP : va_P (dC, dI) vwCl [(h, .inr (5, [.ref ch, .int (iI wh), .int (iI le), .int (iI ev), .int (iI ab), .int (iI li), .int (iI ti), .int (iI st2), .int (iI row)])), (o, .inr (5, [.ref ch2, .int (iI wh2), .int (iI le2), .int (iI ev2), .int (iI ab2), .int (iI li2), .int (iI ti2), .int (iI st2), .int (iI row2)]))] H := hP
  have hD : va_D A [(h, .inr (5, [.ref ch, .int (iI wh), .int (iI le), .int (iI ev), .int (iI ab), .int (iI li), .int (iI ti), .int (iI st2), .int (iI row)])), (o, .inr (5, [.ref ch2, .int (iI wh2), .int (iI le2), .int (iI ev2), .int (iI ab2), .int (iI li2), .int (iI ti2), .int (iI st2), .int (iI row2)]))] := hD
  refine lv_aload_n hx hb dX5_copyFrom_8 rfl (lv_at hl 0 rfl) ?_
  refine lv_aload_n hx hb dX5_copyFrom_9 rfl (lv_at hl 1 rfl) ?_
  refine va_get (ci := 5) (v := .int (iI row2)) (C := RX5) (T := TX5) (N := 9) hx hb hts hi_X5 hown hK hP 1 rfl rfl 8 (by decide) hf15 (fun _ h9 => h9) rfl dX5_copyFrom_10 ?_
  refine va_put (D := (dC, dI)) (ci := 5) (v := .int (iI row2)) (ty := .int) (C := RX5) (T := TX5) (N := 9) hx hb hts hi_X5 tyX5 tyX5_ok nmX5 hown hK hP hD hS 0 rfl rfl 8 (by decide) hf15 (fun _ h9 => h9) rfl (by decide +kernel) rfl rfl (Nat.le_of_ble_eq_true rfl) dX5_copyFrom_13 (fun H locs hP hD hS => ?_)
  have hP : va_P (dC, dI) vwCl [(h, .inr (5, [.ref ch, .int (iI wh), .int (iI le), .int (iI ev), .int (iI ab), .int (iI li), .int (iI ti), .int (iI st2), .int (iI row2)])), (o, .inr (5, [.ref ch2, .int (iI wh2), .int (iI le2), .int (iI ev2), .int (iI ab2), .int (iI li2), .int (iI ti2), .int (iI st2), .int (iI row2)]))] H := hP
  have hD : va_D A [(h, .inr (5, [.ref ch, .int (iI wh), .int (iI le), .int (iI ev), .int (iI ab), .int (iI li), .int (iI ti), .int (iI st2), .int (iI row2)])), (o, .inr (5, [.ref ch2, .int (iI wh2), .int (iI le2), .int (iI ev2), .int (iI ab2), .int (iI li2), .int (iI ti2), .int (iI st2), .int (iI row2)]))] := hD
  exact mi_vret hx hb hQ hr hlocks hAe hsz hP hD hS rfl dX5_copyFrom_16

set_option maxRecDepth 100000 in
set_option maxHeartbeats 4000000 in
theorem c_X5_ceases (l : Launch) (dC : Nat → ClassId) (dI : Nat → Nat → Nat) (cI cO : ClassId) (h : Nat) (ch : Nat) (wh : Int) (le : Int) (ev : Int) (ab : Int) (li : Int) (ti : Int) (row : Int) (hh : Int) (sz : Nat) (hhh : hh = 0 ∨ hh = 1) (hti : 1 ≤ ti ∧ ti ≤ 5) (hrow : 0 ≤ row ∧ row ≤ 1000000) : Met l yX5_ceases wsX5_ceases ({ frames := 1, cells := 0, slots := 0, locals := 21 }) (mPc (dC, dI) [(cI, .int), (cO, .object "java/lang/Object")] [.ref h, .int (iI hh)] sz [(h, .inr (5, [.ref ch, .int (iI wh), .int (iI le), .int (iI ev), .int (iI ab), .int (iI li), .int (iI ti), .int (iI 2), .int (iI row)]))]) (mQi (dC, dI) [(h, .inr (5, [.ref ch, .int (iI wh), .int (iI le), .int (iI ev), .int (iI ab), .int (iI li), .int (iI ti), .int (iI 2), .int (iI row)]))] [(h, .inr (5, [.ref ch, .int (iI wh), .int (iI le), .int (iI ev), .int (iI ab), .int (iI li), .int (iI ti), .int (iI ((ceF ti row hh).1)), .int (iI ((ceF ti row hh).2.1))]))] sz ((ceF ti row hh).2.2)) 0 0 (va_A [(h, .inr (5, [.ref ch, .int (iI wh), .int (iI le), .int (iI ev), .int (iI ab), .int (iI li), .int (iI ti), .int (iI 2), .int (iI row)]))] sz) := by
  refine mMet (cc := cX5_ceases) (maxL := 2) (ret := (some .boolean)) (by decide) rfl (Nat.le_of_ble_eq_true rfl) ?_
  intro p e s m args below meth c A ls hx hb hr hts hown hlocks hin hml hAe hsz hA hD H hHe hP hK hZ hS hl Q hQ
  have hl : lv_has ls 2 [(0, .ref h), (1, .int (iI hh))] := hl
  have hf15 := hts (.fieldLink RX5 15 "MeridianSeries$Rule" "timesInRow" "I") (by decide +kernel)
  have hi_X5 : ∀ w ∈ u_ws RX5 TX5 9, w ∈ wsX5_ceases := by decide +kernel
  have hf38 := hts (.fieldLink RX5 38 "MeridianSeries$Rule" "times" "I") (by decide +kernel)
  refine lv_aload_n hx hb dX5_ceases_0 rfl (lv_at hl 0 rfl) ?_
  refine lv_iload_n hx hb dX5_ceases_1 rfl (lv_at hl 1 rfl) ?_
  refine mi_if_eq (tgt := 9) hx hb (by omega) dX5_ceases_2 (by decide) (fun c_1 => ?_) (fun c_1 => ?_)
  · refine lv_aload_n hx hb dX5_ceases_9 rfl (lv_at hl 0 rfl) ?_
    refine va_get (ci := 5) (v := .int (iI row)) (C := RX5) (T := TX5) (N := 9) hx hb hts hi_X5 hown hK hP 0 rfl rfl 8 (by decide) hf15 (fun _ h9 => h9) rfl dX5_ceases_10 ?_
    refine mi_iconst hx hb dX5_ceases_13 ?_
    refine mi_iadd hx hb dX5_ceases_14 ?_
    refine va_put (D := (dC, dI)) (ci := 5) (v := .int (iI (row + 1))) (ty := .int) (C := RX5) (T := TX5) (N := 9) hx hb hts hi_X5 tyX5 tyX5_ok nmX5 hown hK hP hD hS 0 rfl rfl 8 (by decide) hf15 (fun _ h9 => h9) rfl (by decide +kernel) rfl rfl (Nat.le_of_ble_eq_true rfl) dX5_ceases_15 (fun H locs hP hD hS => ?_)
    have hP : va_P (dC, dI) vwCl [(h, .inr (5, [.ref ch, .int (iI wh), .int (iI le), .int (iI ev), .int (iI ab), .int (iI li), .int (iI ti), .int (iI 2), .int (iI (row + 1))]))] H := hP
    have hD : va_D A [(h, .inr (5, [.ref ch, .int (iI wh), .int (iI le), .int (iI ev), .int (iI ab), .int (iI li), .int (iI ti), .int (iI 2), .int (iI (row + 1))]))] := hD
    refine lv_aload_n hx hb dX5_ceases_18 rfl (lv_at hl 0 rfl) ?_
    refine va_get (ci := 5) (v := .int (iI (row + 1))) (C := RX5) (T := TX5) (N := 9) hx hb hts hi_X5 hown hK hP 0 rfl rfl 8 (by decide) hf15 (fun _ h9 => h9) rfl dX5_ceases_19 ?_
    refine lv_aload_n hx hb dX5_ceases_22 rfl (lv_at hl 0 rfl) ?_
    refine va_get (ci := 5) (v := .int (iI ti)) (C := RX5) (T := TX5) (N := 9) hx hb hts hi_X5 hown hK hP 0 rfl rfl 6 (by decide) hf38 (fun _ h9 => h9) rfl dX5_ceases_23 ?_
    refine mi_icmp_ge (tgt := 31) hx hb (by omega) (by omega) dX5_ceases_26 (by decide) (fun c_2 => ?_) (fun c_2 => ?_)
    · refine lv_aload_n hx hb dX5_ceases_31 rfl (lv_at hl 0 rfl) ?_
      refine mi_iconst hx hb dX5_ceases_32 ?_
      refine m_runv (wc := [(h, .inr (5, [.ref ch, .int (iI wh), .int (iI le), .int (iI ev), .int (iI ab), .int (iI li), .int (iI ti), .int (iI 2), .int (iI (row + 1))]))]) (wc' := [(h, .inr (5, [.ref ch, .int (iI wh), .int (iI le), .int (iI ev), .int (iI ab), .int (iI li), .int (iI ti), .int (iI 0), .int (iI 0)]))]) (wr := []) (ws' := [(h, .inr (5, [.ref ch, .int (iI wh), .int (iI le), .int (iI ev), .int (iI ab), .int (iI li), .int (iI ti), .int (iI 0), .int (iI 0)]))]) (va_runV (As := [.int (iI 0)]) (rest := []) ⟨hx, hb, hml, hown, hts⟩ (c_X5_become l dC dI cI cO h ch wh le ev ab li ti 2 (row + 1) 0 H.size ) (cwV 1 hts gX5_ceases_X5_become rfl rfl rfl (by decide +kernel) ⟨Nat.le_of_ble_eq_true rfl, Nat.le_of_ble_eq_true rfl⟩) (m_preV hZ hK hP hD [0] rfl (by decide) (va_recv hK hP (ci := 5) (q0 := 0) rfl rfl)) rfl rfl hl.1 rfl (lv_room (Nat.le_of_ble_eq_true rfl)) dX5_ceases_33 ⟨Nat.le_of_ble_eq_true rfl, Nat.le_of_ble_eq_true rfl⟩) hP hD hS hA [0] [] [0] rfl rfl (by decide) (by decide) rfl (by decide) (fun H locs hP hD hS => ?_)
      refine mi_iconst hx hb dX5_ceases_36 ?_
      exact mi_zret hx hb hQ hr hlocks hAe hsz hP hD hS (by decide) (by unfold ceF; rw [if_pos (show hh = 0 by assumption), if_neg (by omega)]) (by unfold ceF; rw [if_pos (show hh = 0 by assumption), if_neg (by omega)]) dX5_ceases_37
    · refine mi_iconst hx hb dX5_ceases_29 ?_
      exact mi_zret hx hb hQ hr hlocks hAe hsz hP hD hS (by decide) (by unfold ceF; rw [if_pos (show hh = 0 by assumption), if_pos (by omega)]) (by unfold ceF; rw [if_pos (show hh = 0 by assumption), if_pos (by omega)]) dX5_ceases_30
  · refine mi_iconst hx hb dX5_ceases_5 ?_
    refine lv_goto (tgt := 15) hx hb dX5_ceases_6 (by decide) ?_
    refine va_put (D := (dC, dI)) (ci := 5) (v := .int (iI 0)) (ty := .int) (C := RX5) (T := TX5) (N := 9) hx hb hts hi_X5 tyX5 tyX5_ok nmX5 hown hK hP hD hS 0 rfl rfl 8 (by decide) hf15 (fun _ h9 => h9) rfl (by decide +kernel) rfl rfl (Nat.le_of_ble_eq_true rfl) dX5_ceases_15 (fun H locs hP hD hS => ?_)
    have hP : va_P (dC, dI) vwCl [(h, .inr (5, [.ref ch, .int (iI wh), .int (iI le), .int (iI ev), .int (iI ab), .int (iI li), .int (iI ti), .int (iI 2), .int (iI 0)]))] H := hP
    have hD : va_D A [(h, .inr (5, [.ref ch, .int (iI wh), .int (iI le), .int (iI ev), .int (iI ab), .int (iI li), .int (iI ti), .int (iI 2), .int (iI 0)]))] := hD
    refine lv_aload_n hx hb dX5_ceases_18 rfl (lv_at hl 0 rfl) ?_
    refine va_get (ci := 5) (v := .int (iI 0)) (C := RX5) (T := TX5) (N := 9) hx hb hts hi_X5 hown hK hP 0 rfl rfl 8 (by decide) hf15 (fun _ h9 => h9) rfl dX5_ceases_19 ?_
    refine lv_aload_n hx hb dX5_ceases_22 rfl (lv_at hl 0 rfl) ?_
    refine va_get (ci := 5) (v := .int (iI ti)) (C := RX5) (T := TX5) (N := 9) hx hb hts hi_X5 hown hK hP 0 rfl rfl 6 (by decide) hf38 (fun _ h9 => h9) rfl dX5_ceases_23 ?_
    refine mi_icmp_ge (tgt := 31) hx hb (by decide) (by omega) dX5_ceases_26 (by decide) (fun c_3 => ?_) (fun c_3 => ?_)
    · exfalso; omega
    · refine mi_iconst hx hb dX5_ceases_29 ?_
      exact mi_zret hx hb hQ hr hlocks hAe hsz hP hD hS (by decide) (by unfold ceF; rw [if_neg (show ¬ hh = 0 by assumption), if_pos (by omega)]) (by unfold ceF; rw [if_neg (show ¬ hh = 0 by assumption), if_pos (by omega)]) dX5_ceases_30

set_option maxRecDepth 100000 in
set_option maxHeartbeats 4000000 in
theorem c_X5_begins (l : Launch) (dC : Nat → ClassId) (dI : Nat → Nat → Nat) (cI cO : ClassId) (h : Nat) (ch : Nat) (wh : Int) (le : Int) (ev : Int) (ab : Int) (li : Int) (ti : Int) (st : Int) (row : Int) (hh : Int) (sz : Nat) (hhh : hh = 0 ∨ hh = 1) (hti : 1 ≤ ti ∧ ti ≤ 5) (hrow : 0 ≤ row ∧ row ≤ 1000000) : Met l yX5_begins wsX5_begins ({ frames := 1, cells := 0, slots := 0, locals := 21 }) (mPc (dC, dI) [(cI, .int), (cO, .object "java/lang/Object")] [.ref h, .int (iI hh)] sz [(h, .inr (5, [.ref ch, .int (iI wh), .int (iI le), .int (iI ev), .int (iI ab), .int (iI li), .int (iI ti), .int (iI st), .int (iI row)]))]) (mQi (dC, dI) [(h, .inr (5, [.ref ch, .int (iI wh), .int (iI le), .int (iI ev), .int (iI ab), .int (iI li), .int (iI ti), .int (iI st), .int (iI row)]))] [(h, .inr (5, [.ref ch, .int (iI wh), .int (iI le), .int (iI ev), .int (iI ab), .int (iI li), .int (iI ti), .int (iI ((beF ti row hh).1)), .int (iI ((beF ti row hh).2.1))]))] sz ((beF ti row hh).2.2)) 0 0 (va_A [(h, .inr (5, [.ref ch, .int (iI wh), .int (iI le), .int (iI ev), .int (iI ab), .int (iI li), .int (iI ti), .int (iI st), .int (iI row)]))] sz) := by
  refine mMet (cc := cX5_begins) (maxL := 2) (ret := (some .boolean)) (by decide) rfl (Nat.le_of_ble_eq_true rfl) ?_
  intro p e s m args below meth c A ls hx hb hr hts hown hlocks hin hml hAe hsz hA hD H hHe hP hK hZ hS hl Q hQ
  have hl : lv_has ls 2 [(0, .ref h), (1, .int (iI hh))] := hl
  have hf9 := hts (.fieldLink RX5 9 "MeridianSeries$Rule" "state" "I") (by decide +kernel)
  have hi_X5 : ∀ w ∈ u_ws RX5 TX5 9, w ∈ wsX5_begins := by decide +kernel
  have hf15 := hts (.fieldLink RX5 15 "MeridianSeries$Rule" "timesInRow" "I") (by decide +kernel)
  have hf38 := hts (.fieldLink RX5 38 "MeridianSeries$Rule" "times" "I") (by decide +kernel)
  refine lv_iload_n hx hb dX5_begins_0 rfl (lv_at hl 1 rfl) ?_
  refine mi_if_ne (tgt := 11) hx hb (by omega) dX5_begins_1 (by decide) (fun c_1 => ?_) (fun c_1 => ?_)
  · refine lv_aload_n hx hb dX5_begins_11 rfl (lv_at hl 0 rfl) ?_
    refine mi_iconst hx hb dX5_begins_12 ?_
    refine va_put (D := (dC, dI)) (ci := 5) (v := .int (iI 1)) (ty := .int) (C := RX5) (T := TX5) (N := 9) hx hb hts hi_X5 tyX5 tyX5_ok nmX5 hown hK hP hD hS 0 rfl rfl 7 (by decide) hf9 (fun _ h9 => h9) rfl (by decide +kernel) rfl rfl (Nat.le_of_ble_eq_true rfl) dX5_begins_13 (fun H locs hP hD hS => ?_)
    have hP : va_P (dC, dI) vwCl [(h, .inr (5, [.ref ch, .int (iI wh), .int (iI le), .int (iI ev), .int (iI ab), .int (iI li), .int (iI ti), .int (iI 1), .int (iI row)]))] H := hP
    have hD : va_D A [(h, .inr (5, [.ref ch, .int (iI wh), .int (iI le), .int (iI ev), .int (iI ab), .int (iI li), .int (iI ti), .int (iI 1), .int (iI row)]))] := hD
    refine lv_aload_n hx hb dX5_begins_16 rfl (lv_at hl 0 rfl) ?_
    refine lv_dup hx hb dX5_begins_17 rfl ?_
    refine va_get (ci := 5) (v := .int (iI row)) (C := RX5) (T := TX5) (N := 9) hx hb hts hi_X5 hown hK hP 0 rfl rfl 8 (by decide) hf15 (fun _ h9 => h9) rfl dX5_begins_18 ?_
    refine mi_iconst hx hb dX5_begins_21 ?_
    refine mi_iadd hx hb dX5_begins_22 ?_
    refine va_put (D := (dC, dI)) (ci := 5) (v := .int (iI (row + 1))) (ty := .int) (C := RX5) (T := TX5) (N := 9) hx hb hts hi_X5 tyX5 tyX5_ok nmX5 hown hK hP hD hS 0 rfl rfl 8 (by decide) hf15 (fun _ h9 => h9) rfl (by decide +kernel) rfl rfl (Nat.le_of_ble_eq_true rfl) dX5_begins_23 (fun H locs hP hD hS => ?_)
    have hP : va_P (dC, dI) vwCl [(h, .inr (5, [.ref ch, .int (iI wh), .int (iI le), .int (iI ev), .int (iI ab), .int (iI li), .int (iI ti), .int (iI 1), .int (iI (row + 1))]))] H := hP
    have hD : va_D A [(h, .inr (5, [.ref ch, .int (iI wh), .int (iI le), .int (iI ev), .int (iI ab), .int (iI li), .int (iI ti), .int (iI 1), .int (iI (row + 1))]))] := hD
    refine lv_aload_n hx hb dX5_begins_26 rfl (lv_at hl 0 rfl) ?_
    refine va_get (ci := 5) (v := .int (iI (row + 1))) (C := RX5) (T := TX5) (N := 9) hx hb hts hi_X5 hown hK hP 0 rfl rfl 8 (by decide) hf15 (fun _ h9 => h9) rfl dX5_begins_27 ?_
    refine lv_aload_n hx hb dX5_begins_30 rfl (lv_at hl 0 rfl) ?_
    refine va_get (ci := 5) (v := .int (iI ti)) (C := RX5) (T := TX5) (N := 9) hx hb hts hi_X5 hown hK hP 0 rfl rfl 6 (by decide) hf38 (fun _ h9 => h9) rfl dX5_begins_31 ?_
    refine mi_icmp_ge (tgt := 39) hx hb (by omega) (by omega) dX5_begins_34 (by decide) (fun c_2 => ?_) (fun c_2 => ?_)
    · refine lv_aload_n hx hb dX5_begins_39 rfl (lv_at hl 0 rfl) ?_
      refine mi_iconst hx hb dX5_begins_40 ?_
      refine m_runv (wc := [(h, .inr (5, [.ref ch, .int (iI wh), .int (iI le), .int (iI ev), .int (iI ab), .int (iI li), .int (iI ti), .int (iI 1), .int (iI (row + 1))]))]) (wc' := [(h, .inr (5, [.ref ch, .int (iI wh), .int (iI le), .int (iI ev), .int (iI ab), .int (iI li), .int (iI ti), .int (iI 2), .int (iI 0)]))]) (wr := []) (ws' := [(h, .inr (5, [.ref ch, .int (iI wh), .int (iI le), .int (iI ev), .int (iI ab), .int (iI li), .int (iI ti), .int (iI 2), .int (iI 0)]))]) (va_runV (As := [.int (iI 2)]) (rest := []) ⟨hx, hb, hml, hown, hts⟩ (c_X5_become l dC dI cI cO h ch wh le ev ab li ti 1 (row + 1) 2 H.size ) (cwV 1 hts gX5_begins_X5_become rfl rfl rfl (by decide +kernel) ⟨Nat.le_of_ble_eq_true rfl, Nat.le_of_ble_eq_true rfl⟩) (m_preV hZ hK hP hD [0] rfl (by decide) (va_recv hK hP (ci := 5) (q0 := 0) rfl rfl)) rfl rfl hl.1 rfl (lv_room (Nat.le_of_ble_eq_true rfl)) dX5_begins_41 ⟨Nat.le_of_ble_eq_true rfl, Nat.le_of_ble_eq_true rfl⟩) hP hD hS hA [0] [] [0] rfl rfl (by decide) (by decide) rfl (by decide) (fun H locs hP hD hS => ?_)
      refine mi_iconst hx hb dX5_begins_44 ?_
      exact mi_zret hx hb hQ hr hlocks hAe hsz hP hD hS (by decide) (by unfold beF; rw [if_neg (show ¬ hh = 0 by assumption), if_neg (by omega)]) (by unfold beF; rw [if_neg (show ¬ hh = 0 by assumption), if_neg (by omega)]) dX5_begins_45
    · refine mi_iconst hx hb dX5_begins_37 ?_
      exact mi_zret hx hb hQ hr hlocks hAe hsz hP hD hS (by decide) (by unfold beF; rw [if_neg (show ¬ hh = 0 by assumption), if_pos (by omega)]) (by unfold beF; rw [if_neg (show ¬ hh = 0 by assumption), if_pos (by omega)]) dX5_begins_38
  · refine lv_aload_n hx hb dX5_begins_4 rfl (lv_at hl 0 rfl) ?_
    refine mi_iconst hx hb dX5_begins_5 ?_
    refine m_runv (wc := [(h, .inr (5, [.ref ch, .int (iI wh), .int (iI le), .int (iI ev), .int (iI ab), .int (iI li), .int (iI ti), .int (iI st), .int (iI row)]))]) (wc' := [(h, .inr (5, [.ref ch, .int (iI wh), .int (iI le), .int (iI ev), .int (iI ab), .int (iI li), .int (iI ti), .int (iI 0), .int (iI 0)]))]) (wr := []) (ws' := [(h, .inr (5, [.ref ch, .int (iI wh), .int (iI le), .int (iI ev), .int (iI ab), .int (iI li), .int (iI ti), .int (iI 0), .int (iI 0)]))]) (va_runV (As := [.int (iI 0)]) (rest := []) ⟨hx, hb, hml, hown, hts⟩ (c_X5_become l dC dI cI cO h ch wh le ev ab li ti st row 0 H.size ) (cwV 1 hts gX5_begins_X5_become rfl rfl rfl (by decide +kernel) ⟨Nat.le_of_ble_eq_true rfl, Nat.le_of_ble_eq_true rfl⟩) (m_preV hZ hK hP hD [0] rfl (by decide) (va_recv hK hP (ci := 5) (q0 := 0) rfl rfl)) rfl rfl hl.1 rfl (lv_room (Nat.le_of_ble_eq_true rfl)) dX5_begins_6 ⟨Nat.le_of_ble_eq_true rfl, Nat.le_of_ble_eq_true rfl⟩) hP hD hS hA [0] [] [0] rfl rfl (by decide) (by decide) rfl (by decide) (fun H locs hP hD hS => ?_)
    refine mi_iconst hx hb dX5_begins_9 ?_
    exact mi_zret hx hb hQ hr hlocks hAe hsz hP hD hS (by decide) (by unfold beF; rw [if_pos (show hh = 0 by assumption)]) (by unfold beF; rw [if_pos (show hh = 0 by assumption)]) dX5_begins_10

set_option maxRecDepth 100000 in
set_option maxHeartbeats 4000000 in
theorem c_X5_changesBy (l : Launch) (dC : Nat → ClassId) (dI : Nat → Nat → Nat) (cI cO : ClassId) (h : Nat) (ch : Nat) (wh : Int) (le : Int) (ev : Int) (ab : Int) (li : Int) (ti : Int) (st : Int) (row : Int) (t : Int) (sz : Nat) (hab : 0 ≤ ab ∧ ab ≤ 1) (hli : -1000000 ≤ li ∧ li ≤ 1000000) (hti : 1 ≤ ti ∧ ti ≤ 5) (hst : 0 ≤ st ∧ st ≤ 2) (hrow : 0 ≤ row ∧ row ≤ 1000000) (ht : rI t) : Met l yX5_changesBy wsX5_changesBy ({ frames := 2, cells := 0, slots := 0, locals := 42 }) (mPc (dC, dI) [(cI, .int), (cO, .object "java/lang/Object")] [.ref h, .int (iI t)] sz [(h, .inr (5, [.ref ch, .int (iI wh), .int (iI le), .int (iI ev), .int (iI ab), .int (iI li), .int (iI ti), .int (iI st), .int (iI row)]))]) (mQi (dC, dI) [(h, .inr (5, [.ref ch, .int (iI wh), .int (iI le), .int (iI ev), .int (iI ab), .int (iI li), .int (iI ti), .int (iI st), .int (iI row)]))] [(h, .inr (5, [.ref ch, .int (iI wh), .int (iI le), .int (iI ev), .int (iI ab), .int (iI li), .int (iI ti), .int (iI ((cbF ab li ti st row t).1)), .int (iI ((cbF ab li ti st row t).2.1))]))] sz ((cbF ab li ti st row t).2.2)) 0 0 (va_A [(h, .inr (5, [.ref ch, .int (iI wh), .int (iI le), .int (iI ev), .int (iI ab), .int (iI li), .int (iI ti), .int (iI st), .int (iI row)]))] sz) := by
  refine mMet (cc := cX5_changesBy) (maxL := 3) (ret := (some .boolean)) (by decide) rfl (Nat.le_of_ble_eq_true rfl) ?_
  intro p e s m args below meth c A ls hx hb hr hts hown hlocks hin hml hAe hsz hA hD H hHe hP hK hZ hS hl Q hQ
  have hl : lv_has ls 3 [(0, .ref h), (1, .int (iI t))] := hl
  have hf9 := hts (.fieldLink RX5 9 "MeridianSeries$Rule" "state" "I") (by decide +kernel)
  have hi_X5 : ∀ w ∈ u_ws RX5 TX5 9, w ∈ wsX5_changesBy := by decide +kernel
  have hk47 := hts (.constant RX5 47 (-1000000)) (by decide +kernel)
  have hf31 := hts (.fieldLink RX5 31 "MeridianSeries$Rule" "isAbove" "Z") (by decide +kernel)
  have hf35 := hts (.fieldLink RX5 35 "MeridianSeries$Rule" "limit" "I") (by decide +kernel)
  have jn37 : ∀ (hh : Int), hh = hdF ab li t → ∀ (H : Heap) (locs : List Loc) (ls : Array Slot), va_P (dC, dI) vwCl [(h, .inr (5, [.ref ch, .int (iI wh), .int (iI le), .int (iI ev), .int (iI ab), .int (iI li), .int (iI ti), .int (iI st), .int (iI row)]))] H → va_D A [(h, .inr (5, [.ref ch, .int (iI wh), .int (iI le), .int (iI ev), .int (iI ab), .int (iI li), .int (iI ti), .int (iI st), .int (iI row)]))] → va_S A s.heap H locs → lv_has ls 3 [(0, .ref h), (1, .int (iI t))] → W p l e { frames := 2, cells := 0, slots := 0, locals := 42 } s m args below meth c H locs 0 0 Q (F0 m 37 ls [.int (iI hh)]) := by
    intro hh hhh H locs ls hP hD hS hl
    have hh2 := hdF_r ab li t
    rw [← hhh] at hh2
    refine lv_istore_n (lv' := [(2, .int (iI hh)), (0, .ref h), (1, .int (iI t))]) hx hb dX5_changesBy_37 rfl hl (by decide) rfl (fun ls hl => ?_)
    refine lv_aload_n hx hb dX5_changesBy_38 rfl (lv_at hl 1 rfl) ?_
    refine va_get (ci := 5) (v := .int (iI st)) (C := RX5) (T := TX5) (N := 9) hx hb hts hi_X5 hown hK hP 0 rfl rfl 7 (by decide) hf9 (fun _ h9 => h9) rfl dX5_changesBy_39 ?_
    refine mi_iconst hx hb dX5_changesBy_42 ?_
    refine mi_icmp_ne (tgt := 52) hx hb (by omega) (by decide) dX5_changesBy_43 (by decide) (fun c_1 => ?_) (fun c_1 => ?_)
    · refine lv_aload_n hx hb dX5_changesBy_52 rfl (lv_at hl 1 rfl) ?_
      refine lv_iload_n hx hb dX5_changesBy_53 rfl (lv_at hl 0 rfl) ?_
      refine m_run (wc := [(h, .inr (5, [.ref ch, .int (iI wh), .int (iI le), .int (iI ev), .int (iI ab), .int (iI li), .int (iI ti), .int (iI st), .int (iI row)]))]) (wc' := [(h, .inr (5, [.ref ch, .int (iI wh), .int (iI le), .int (iI ev), .int (iI ab), .int (iI li), .int (iI ti), .int (iI ((beF ti row hh).1)), .int (iI ((beF ti row hh).2.1))]))]) (wr := []) (ws' := [(h, .inr (5, [.ref ch, .int (iI wh), .int (iI le), .int (iI ev), .int (iI ab), .int (iI li), .int (iI ti), .int (iI ((beF ti row hh).1)), .int (iI ((beF ti row hh).2.1))]))]) (va_runV (As := [.int (iI hh)]) (rest := []) ⟨hx, hb, hml, hown, hts⟩ (c_X5_begins l dC dI cI cO h ch wh le ev ab li ti st row hh H.size (by first | assumption | omega) (by first | assumption | omega) (by first | assumption | omega)) (cwV 1 hts gX5_changesBy_X5_begins rfl rfl rfl (by decide +kernel) ⟨Nat.le_of_ble_eq_true rfl, Nat.le_of_ble_eq_true rfl⟩) (m_preV hZ hK hP hD [0] rfl (by decide) (va_recv hK hP (ci := 5) (q0 := 0) rfl rfl)) rfl rfl hl.1 rfl (lv_room (Nat.le_of_ble_eq_true rfl)) dX5_changesBy_54 ⟨Nat.le_of_ble_eq_true rfl, Nat.le_of_ble_eq_true rfl⟩) hP hD hS hA [0] [] [0] rfl rfl (by decide) (by decide) rfl (by decide) (fun H locs hP hD hS => ?_)
      have q7 := beF_e ti row hh
      exact mi_zret hx hb hQ hr hlocks hAe hsz hP hD hS (by omega) (by unfold cbF; rw [if_neg (by assumption), hhh]) (by unfold cbF; rw [if_neg (by assumption), hhh]) dX5_changesBy_57
    · have e_2 : 2 = st := by omega
      subst e_2
      refine lv_aload_n hx hb dX5_changesBy_46 rfl (lv_at hl 1 rfl) ?_
      refine lv_iload_n hx hb dX5_changesBy_47 rfl (lv_at hl 0 rfl) ?_
      refine m_run (wc := [(h, .inr (5, [.ref ch, .int (iI wh), .int (iI le), .int (iI ev), .int (iI ab), .int (iI li), .int (iI ti), .int (iI 2), .int (iI row)]))]) (wc' := [(h, .inr (5, [.ref ch, .int (iI wh), .int (iI le), .int (iI ev), .int (iI ab), .int (iI li), .int (iI ti), .int (iI ((ceF ti row hh).1)), .int (iI ((ceF ti row hh).2.1))]))]) (wr := []) (ws' := [(h, .inr (5, [.ref ch, .int (iI wh), .int (iI le), .int (iI ev), .int (iI ab), .int (iI li), .int (iI ti), .int (iI ((ceF ti row hh).1)), .int (iI ((ceF ti row hh).2.1))]))]) (va_runV (As := [.int (iI hh)]) (rest := []) ⟨hx, hb, hml, hown, hts⟩ (c_X5_ceases l dC dI cI cO h ch wh le ev ab li ti row hh H.size (by first | assumption | omega) (by first | assumption | omega) (by first | assumption | omega)) (cwV 1 hts gX5_changesBy_X5_ceases rfl rfl rfl (by decide +kernel) ⟨Nat.le_of_ble_eq_true rfl, Nat.le_of_ble_eq_true rfl⟩) (m_preV hZ hK hP hD [0] rfl (by decide) (va_recv hK hP (ci := 5) (q0 := 0) rfl rfl)) rfl rfl hl.1 rfl (lv_room (Nat.le_of_ble_eq_true rfl)) dX5_changesBy_48 ⟨Nat.le_of_ble_eq_true rfl, Nat.le_of_ble_eq_true rfl⟩) hP hD hS hA [0] [] [0] rfl rfl (by decide) (by decide) rfl (by decide) (fun H locs hP hD hS => ?_)
      have q7 := ceF_e ti row hh
      exact mi_zret hx hb hQ hr hlocks hAe hsz hP hD hS (by omega) (by rw [hhh]; rfl) (by rw [hhh]; rfl) dX5_changesBy_51
  refine lv_iload_n hx hb dX5_changesBy_0 rfl (lv_at hl 1 rfl) ?_
  refine lv_ldc (v := iI (-1000000)) hx hb hown (by rw [show iI (-1000000) = (-1000000 : Int32) by decide]; exact hk47) dX5_changesBy_1 ?_
  refine mi_icmp_eq (tgt := 36) hx hb (by omega) (by decide) dX5_changesBy_3 (by decide) (fun c_3 => ?_) (fun c_3 => ?_)
  · refine mi_iconst hx hb dX5_changesBy_36 ?_
    exact jn37 0 (by unfold hdF; repeat' split; all_goals (first | rfl | omega | (exfalso; omega))) _ _ _ hP hD hS (lv_sub hl [0, 1] rfl)
  · refine lv_aload_n hx hb dX5_changesBy_6 rfl (lv_at hl 0 rfl) ?_
    refine va_get (ci := 5) (v := .int (iI ab)) (C := RX5) (T := TX5) (N := 9) hx hb hts hi_X5 hown hK hP 0 rfl rfl 4 (by decide) hf31 (fun _ h9 => h9) rfl dX5_changesBy_7 ?_
    refine mi_if_eq (tgt := 24) hx hb (by omega) dX5_changesBy_10 (by decide) (fun c_4 => ?_) (fun c_4 => ?_)
    · refine lv_iload_n hx hb dX5_changesBy_24 rfl (lv_at hl 1 rfl) ?_
      refine lv_aload_n hx hb dX5_changesBy_25 rfl (lv_at hl 0 rfl) ?_
      refine va_get (ci := 5) (v := .int (iI li)) (C := RX5) (T := TX5) (N := 9) hx hb hts hi_X5 hown hK hP 0 rfl rfl 5 (by decide) hf35 (fun _ h9 => h9) rfl dX5_changesBy_26 ?_
      refine mi_icmp_ge (tgt := 36) hx hb (by omega) (by omega) dX5_changesBy_29 (by decide) (fun c_5 => ?_) (fun c_5 => ?_)
      · refine mi_iconst hx hb dX5_changesBy_36 ?_
        exact jn37 0 (by unfold hdF; repeat' split; all_goals (first | rfl | omega | (exfalso; omega))) _ _ _ hP hD hS (lv_sub hl [0, 1] rfl)
      · refine mi_iconst hx hb dX5_changesBy_32 ?_
        refine lv_goto (tgt := 37) hx hb dX5_changesBy_33 (by decide) ?_
        exact jn37 1 (by unfold hdF; repeat' split; all_goals (first | rfl | omega | (exfalso; omega))) _ _ _ hP hD hS (lv_sub hl [0, 1] rfl)
    · refine lv_iload_n hx hb dX5_changesBy_13 rfl (lv_at hl 1 rfl) ?_
      refine lv_aload_n hx hb dX5_changesBy_14 rfl (lv_at hl 0 rfl) ?_
      refine va_get (ci := 5) (v := .int (iI li)) (C := RX5) (T := TX5) (N := 9) hx hb hts hi_X5 hown hK hP 0 rfl rfl 5 (by decide) hf35 (fun _ h9 => h9) rfl dX5_changesBy_15 ?_
      refine mi_icmp_le (tgt := 36) hx hb (by omega) (by omega) dX5_changesBy_18 (by decide) (fun c_6 => ?_) (fun c_6 => ?_)
      · refine mi_iconst hx hb dX5_changesBy_36 ?_
        exact jn37 0 (by unfold hdF; repeat' split; all_goals (first | rfl | omega | (exfalso; omega))) _ _ _ hP hD hS (lv_sub hl [0, 1] rfl)
      · refine lv_goto (tgt := 32) hx hb dX5_changesBy_21 (by decide) ?_
        refine mi_iconst hx hb dX5_changesBy_32 ?_
        refine lv_goto (tgt := 37) hx hb dX5_changesBy_33 (by decide) ?_
        exact jn37 1 (by unfold hdF; repeat' split; all_goals (first | rfl | omega | (exfalso; omega))) _ _ _ hP hD hS (lv_sub hl [0, 1] rfl)

set_option maxRecDepth 100000 in
set_option maxHeartbeats 4000000 in
theorem c_X1_add (l : Launch) (dC : Nat → ClassId) (dI : Nat → Nat → Nat) (cI cO : ClassId) (h : Nat) (qe : Nat) (to : Int) (fi : Int) (ec : fI) (n : Int) (ru : Int) (s9 : Int) (sz : Nat) (hto : 0 ≤ to ∧ to ≤ 1000000) (hs9 : 0 ≤ s9 ∧ s9 ≤ 2) : Met l yX1_add wsX1_add ({ frames := 0, cells := 0, slots := 0, locals := 0 }) (mPc (dC, dI) [(cI, .int), (cO, .object "java/lang/Object")] [.ref h, .int (iI n), .int (iI ru), .int (iI s9)] sz [(h, .inr (2, [.ref qe, .int (iI to), .int (iI fi)])), (qe, .inl (cI, 60, .inl (aI ec)))]) (mQv (dC, dI) [(h, .inr (2, [.ref qe, .int (iI to), .int (iI fi)])), (qe, .inl (cI, 60, .inl (aI ec)))] [(h, .inr (2, [.ref qe, .int (iI (to + 1)), .int (iI (if s9 = 2 then fi + 1 else fi))])), (qe, .inl (cI, 60, .inl (aI (evF ec to n ru s9))))] sz) 0 0 (va_A [(h, .inr (2, [.ref qe, .int (iI to), .int (iI fi)])), (qe, .inl (cI, 60, .inl (aI ec)))] sz) := by
  refine mMet (cc := cX1_add) (maxL := 5) (ret := none) (by decide) rfl (Nat.le_of_ble_eq_true rfl) ?_
  intro p e s m args below meth c A ls hx hb hr hts hown hlocks hin hml hAe hsz hA hD H hHe hP hK hZ hS hl Q hQ
  have hl : lv_has ls 5 [(0, .ref h), (1, .int (iI n)), (2, .int (iI ru)), (3, .int (iI s9))] := hl
  have hf15 := hts (.fieldLink RX1 15 "MeridianSeries$EventLog" "total" "I") (by decide +kernel)
  have hi_X1 : ∀ w ∈ u_ws RX1 TX1 3, w ∈ wsX1_add := by decide +kernel
  have hf9 := hts (.fieldLink RX1 9 "MeridianSeries$EventLog" "cells" "[I") (by decide +kernel)
  have hf19 := hts (.fieldLink RX1 19 "MeridianSeries$EventLog" "firings" "I") (by decide +kernel)
  have htm := tm20 hto.1
  refine lv_aload_n hx hb dX1_add_0 rfl (lv_at hl 0 rfl) ?_
  refine va_get (ci := 2) (v := .int (iI to)) (C := RX1) (T := TX1) (N := 3) hx hb hts hi_X1 hown hK hP 0 rfl rfl 1 (by decide) hf15 (fun _ h9 => h9) rfl dX1_add_1 ?_
  refine mi_bipush hx hb dX1_add_4 (by decide) ?_
  refine mi_irem hx hb (by omega) (by decide) (by decide) dX1_add_6 ?_
  refine mi_iconst hx hb dX1_add_7 ?_
  refine mi_imul hx hb dX1_add_8 ?_
  refine lv_istore (lv' := [(4, .int (iI ((Int.tmod to 20) * 3))), (0, .ref h), (1, .int (iI n)), (2, .int (iI ru)), (3, .int (iI s9))]) hx hb dX1_add_9 hl (by decide) rfl (fun ls hl => ?_)
  refine lv_iload hx hb dX1_add_11 (lv_at hl 0 rfl) ?_
  refine mi_if_lt (tgt := 56) hx hb (by omega) dX1_add_13 (by decide) (fun c_1 => ?_) (fun c_1 => ?_)
  · exfalso; omega
  · refine lv_iload hx hb dX1_add_16 (lv_at hl 0 rfl) ?_
    refine mi_iconst hx hb dX1_add_18 ?_
    refine mi_iadd hx hb dX1_add_19 ?_
    refine lv_aload_n hx hb dX1_add_20 rfl (lv_at hl 1 rfl) ?_
    refine va_get (ci := 2) (v := .ref qe) (C := RX1) (T := TX1) (N := 3) hx hb hts hi_X1 hown hK hP 0 rfl rfl 0 (by decide) hf9 (fun _ h9 => h9) rfl dX1_add_21 ?_
    refine mi_alen hx hb hK hP 1 0 rfl rfl dX1_add_24 ?_
    have eln : ((60 : Nat) : Int) = 60 := rfl
    rw [eln]
    refine mi_icmp_ge (tgt := 56) hx hb (by omega) (by decide) dX1_add_25 (by decide) (fun c_2 => ?_) (fun c_2 => ?_)
    · exfalso; omega
    · refine lv_aload_n hx hb dX1_add_28 rfl (lv_at hl 1 rfl) ?_
      refine va_get (ci := 2) (v := .ref qe) (C := RX1) (T := TX1) (N := 3) hx hb hts hi_X1 hown hK hP 0 rfl rfl 0 (by decide) hf9 (fun _ h9 => h9) rfl dX1_add_29 ?_
      refine lv_iload hx hb dX1_add_32 (lv_at hl 0 rfl) ?_
      refine lv_iload_n hx hb dX1_add_34 rfl (lv_at hl 2 rfl) ?_
      refine mi_iast (ws' := [(h, .inr (2, [.ref qe, .int (iI to), .int (iI fi)])), (qe, .inl (cI, 60, .inl (aI (uI ec ((Int.tmod to 20) * 3) n))))]) hx hb hK hP hD hS 1 0 rfl rfl (i := (Int.tmod to 20) * 3) (by omega) (by decide) rfl dX1_add_35 (fun H locs hP hD hS => ?_)
      refine lv_aload_n hx hb dX1_add_36 rfl (lv_at hl 1 rfl) ?_
      refine va_get (ci := 2) (v := .ref qe) (C := RX1) (T := TX1) (N := 3) hx hb hts hi_X1 hown hK hP 0 rfl rfl 0 (by decide) hf9 (fun _ h9 => h9) rfl dX1_add_37 ?_
      refine lv_iload hx hb dX1_add_40 (lv_at hl 0 rfl) ?_
      refine mi_iconst hx hb dX1_add_42 ?_
      refine mi_iadd hx hb dX1_add_43 ?_
      refine lv_iload_n hx hb dX1_add_44 rfl (lv_at hl 3 rfl) ?_
      refine mi_iast (ws' := [(h, .inr (2, [.ref qe, .int (iI to), .int (iI fi)])), (qe, .inl (cI, 60, .inl (aI (uI (uI ec ((Int.tmod to 20) * 3) n) (((Int.tmod to 20) * 3) + 1) ru))))]) hx hb hK hP hD hS 1 0 rfl rfl (i := ((Int.tmod to 20) * 3) + 1) (by omega) (by decide) rfl dX1_add_45 (fun H locs hP hD hS => ?_)
      refine lv_aload_n hx hb dX1_add_46 rfl (lv_at hl 1 rfl) ?_
      refine va_get (ci := 2) (v := .ref qe) (C := RX1) (T := TX1) (N := 3) hx hb hts hi_X1 hown hK hP 0 rfl rfl 0 (by decide) hf9 (fun _ h9 => h9) rfl dX1_add_47 ?_
      refine lv_iload hx hb dX1_add_50 (lv_at hl 0 rfl) ?_
      refine mi_iconst hx hb dX1_add_52 ?_
      refine mi_iadd hx hb dX1_add_53 ?_
      refine lv_iload_n hx hb dX1_add_54 rfl (lv_at hl 4 rfl) ?_
      refine mi_iast (ws' := [(h, .inr (2, [.ref qe, .int (iI to), .int (iI fi)])), (qe, .inl (cI, 60, .inl (aI (uI (uI (uI ec ((Int.tmod to 20) * 3) n) (((Int.tmod to 20) * 3) + 1) ru) (((Int.tmod to 20) * 3) + 2) s9))))]) hx hb hK hP hD hS 1 0 rfl rfl (i := ((Int.tmod to 20) * 3) + 2) (by omega) (by decide) rfl dX1_add_55 (fun H locs hP hD hS => ?_)
      refine lv_aload_n hx hb dX1_add_56 rfl (lv_at hl 1 rfl) ?_
      refine lv_dup hx hb dX1_add_57 rfl ?_
      refine va_get (ci := 2) (v := .int (iI to)) (C := RX1) (T := TX1) (N := 3) hx hb hts hi_X1 hown hK hP 0 rfl rfl 1 (by decide) hf15 (fun _ h9 => h9) rfl dX1_add_58 ?_
      refine mi_iconst hx hb dX1_add_61 ?_
      refine mi_iadd hx hb dX1_add_62 ?_
      refine va_put (D := (dC, dI)) (ci := 2) (v := .int (iI (to + 1))) (ty := .int) (C := RX1) (T := TX1) (N := 3) hx hb hts hi_X1 tyX1 tyX1_ok nmX1 hown hK hP hD hS 0 rfl rfl 1 (by decide) hf15 (fun _ h9 => h9) rfl (by decide +kernel) rfl rfl (Nat.le_of_ble_eq_true rfl) dX1_add_63 (fun H locs hP hD hS => ?_)
      have hP : va_P (dC, dI) vwCl [(h, .inr (2, [.ref qe, .int (iI (to + 1)), .int (iI fi)])), (qe, .inl (cI, 60, .inl (aI (uI (uI (uI ec ((Int.tmod to 20) * 3) n) (((Int.tmod to 20) * 3) + 1) ru) (((Int.tmod to 20) * 3) + 2) s9))))] H := hP
      have hD : va_D A [(h, .inr (2, [.ref qe, .int (iI (to + 1)), .int (iI fi)])), (qe, .inl (cI, 60, .inl (aI (uI (uI (uI ec ((Int.tmod to 20) * 3) n) (((Int.tmod to 20) * 3) + 1) ru) (((Int.tmod to 20) * 3) + 2) s9))))] := hD
      refine lv_iload_n hx hb dX1_add_66 rfl (lv_at hl 4 rfl) ?_
      refine mi_iconst hx hb dX1_add_67 ?_
      refine mi_icmp_ne (tgt := 81) hx hb (by omega) (by decide) dX1_add_68 (by decide) (fun c_3 => ?_) (fun c_3 => ?_)
      · exact mi_vret hx hb hQ hr hlocks hAe hsz hP hD hS (by rw [if_neg (by assumption)]; rfl) dX1_add_81
      · refine lv_aload_n hx hb dX1_add_71 rfl (lv_at hl 1 rfl) ?_
        refine lv_dup hx hb dX1_add_72 rfl ?_
        refine va_get (ci := 2) (v := .int (iI fi)) (C := RX1) (T := TX1) (N := 3) hx hb hts hi_X1 hown hK hP 0 rfl rfl 2 (by decide) hf19 (fun _ h9 => h9) rfl dX1_add_73 ?_
        refine mi_iconst hx hb dX1_add_76 ?_
        refine mi_iadd hx hb dX1_add_77 ?_
        refine va_put (D := (dC, dI)) (ci := 2) (v := .int (iI (fi + 1))) (ty := .int) (C := RX1) (T := TX1) (N := 3) hx hb hts hi_X1 tyX1 tyX1_ok nmX1 hown hK hP hD hS 0 rfl rfl 2 (by decide) hf19 (fun _ h9 => h9) rfl (by decide +kernel) rfl rfl (Nat.le_of_ble_eq_true rfl) dX1_add_78 (fun H locs hP hD hS => ?_)
        have hP : va_P (dC, dI) vwCl [(h, .inr (2, [.ref qe, .int (iI (to + 1)), .int (iI (fi + 1))])), (qe, .inl (cI, 60, .inl (aI (uI (uI (uI ec ((Int.tmod to 20) * 3) n) (((Int.tmod to 20) * 3) + 1) ru) (((Int.tmod to 20) * 3) + 2) s9))))] H := hP
        have hD : va_D A [(h, .inr (2, [.ref qe, .int (iI (to + 1)), .int (iI (fi + 1))])), (qe, .inl (cI, 60, .inl (aI (uI (uI (uI ec ((Int.tmod to 20) * 3) n) (((Int.tmod to 20) * 3) + 1) ru) (((Int.tmod to 20) * 3) + 2) s9))))] := hD
        exact mi_vret hx hb hQ hr hlocks hAe hsz hP hD hS (by rw [if_pos (by omega)]; rfl) dX1_add_81

set_option maxRecDepth 100000 in
set_option maxHeartbeats 4000000 in
theorem c_X1_number (l : Launch) (dC : Nat → ClassId) (dI : Nat → Nat → Nat) (cI cO : ClassId) (h : Nat) (qe : Nat) (to : Int) (fi : Int) (ec : fI) (bk : Int) (w : Int) (sz : Nat) (hto : 0 ≤ to ∧ to ≤ 1000000) (hbk : 0 ≤ bk ∧ bk < to) (hw : 0 ≤ w ∧ w ≤ 2) : Met l yX1_number wsX1_number ({ frames := 0, cells := 0, slots := 0, locals := 0 }) (mPc (dC, dI) [(cI, .int), (cO, .object "java/lang/Object")] [.ref h, .int (iI bk), .int (iI w)] sz [(h, .inr (2, [.ref qe, .int (iI to), .int (iI fi)])), (qe, .inl (cI, 60, .inl (aI ec)))]) (mQi (dC, dI) [(h, .inr (2, [.ref qe, .int (iI to), .int (iI fi)])), (qe, .inl (cI, 60, .inl (aI ec)))] [(h, .inr (2, [.ref qe, .int (iI to), .int (iI fi)])), (qe, .inl (cI, 60, .inl (aI ec)))] sz (ec (Int.tmod (to - 1 - bk) 20 * 3 + w))) 0 0 (va_A [(h, .inr (2, [.ref qe, .int (iI to), .int (iI fi)])), (qe, .inl (cI, 60, .inl (aI ec)))] sz) := by
  refine mMet (cc := cX1_number) (maxL := 4) (ret := (some .int)) (by decide) rfl (Nat.le_of_ble_eq_true rfl) ?_
  intro p e s m args below meth c A ls hx hb hr hts hown hlocks hin hml hAe hsz hA hD H hHe hP hK hZ hS hl Q hQ
  have hl : lv_has ls 4 [(0, .ref h), (1, .int (iI bk)), (2, .int (iI w))] := hl
  have hf15 := hts (.fieldLink RX1 15 "MeridianSeries$EventLog" "total" "I") (by decide +kernel)
  have hi_X1 : ∀ w ∈ u_ws RX1 TX1 3, w ∈ wsX1_number := by decide +kernel
  have hf9 := hts (.fieldLink RX1 9 "MeridianSeries$EventLog" "cells" "[I") (by decide +kernel)
  have htm := tm20 (a := to - 1 - bk) (by omega)
  refine lv_aload_n hx hb dX1_number_0 rfl (lv_at hl 0 rfl) ?_
  refine va_get (ci := 2) (v := .int (iI to)) (C := RX1) (T := TX1) (N := 3) hx hb hts hi_X1 hown hK hP 0 rfl rfl 1 (by decide) hf15 (fun _ h9 => h9) rfl dX1_number_1 ?_
  refine mi_iconst hx hb dX1_number_4 ?_
  refine mi_isub hx hb dX1_number_5 ?_
  refine lv_iload_n hx hb dX1_number_6 rfl (lv_at hl 1 rfl) ?_
  refine mi_isub hx hb dX1_number_7 ?_
  refine mi_bipush hx hb dX1_number_8 (by decide) ?_
  refine mi_irem hx hb (by omega) (by decide) (by decide) dX1_number_10 ?_
  refine mi_iconst hx hb dX1_number_11 ?_
  refine mi_imul hx hb dX1_number_12 ?_
  refine lv_iload_n hx hb dX1_number_13 rfl (lv_at hl 2 rfl) ?_
  refine mi_iadd hx hb dX1_number_14 ?_
  refine lv_istore_n (lv' := [(3, .int (iI (((Int.tmod ((to - 1) - bk) 20) * 3) + w))), (0, .ref h), (1, .int (iI bk)), (2, .int (iI w))]) hx hb dX1_number_15 rfl hl (by decide) rfl (fun ls hl => ?_)
  refine lv_iload_n hx hb dX1_number_16 rfl (lv_at hl 0 rfl) ?_
  refine mi_if_lt (tgt := 38) hx hb (by omega) dX1_number_17 (by decide) (fun c_1 => ?_) (fun c_1 => ?_)
  · exfalso; omega
  · refine lv_iload_n hx hb dX1_number_20 rfl (lv_at hl 0 rfl) ?_
    refine lv_aload_n hx hb dX1_number_21 rfl (lv_at hl 1 rfl) ?_
    refine va_get (ci := 2) (v := .ref qe) (C := RX1) (T := TX1) (N := 3) hx hb hts hi_X1 hown hK hP 0 rfl rfl 0 (by decide) hf9 (fun _ h9 => h9) rfl dX1_number_22 ?_
    refine mi_alen hx hb hK hP 1 0 rfl rfl dX1_number_25 ?_
    have eln : ((60 : Nat) : Int) = 60 := rfl
    rw [eln]
    refine mi_icmp_ge (tgt := 38) hx hb (by omega) (by decide) dX1_number_26 (by decide) (fun c_2 => ?_) (fun c_2 => ?_)
    · exfalso; omega
    · refine lv_aload_n hx hb dX1_number_29 rfl (lv_at hl 1 rfl) ?_
      refine va_get (ci := 2) (v := .ref qe) (C := RX1) (T := TX1) (N := 3) hx hb hts hi_X1 hown hK hP 0 rfl rfl 0 (by decide) hf9 (fun _ h9 => h9) rfl dX1_number_30 ?_
      refine lv_iload_n hx hb dX1_number_33 rfl (lv_at hl 0 rfl) ?_
      refine mi_iald hx hb hK hP 1 0 rfl rfl (i := ((Int.tmod ((to - 1) - bk) 20) * 3) + w) (by omega) (by decide) dX1_number_34 ?_
      refine lv_goto (tgt := 39) hx hb dX1_number_35 (by decide) ?_
      exact mi_iret hx hb hQ hr hlocks hAe hsz hP hD hS (by first | rfl | omega | (split <;> omega)) rfl dX1_number_39

set_option maxRecDepth 100000 in
set_option maxHeartbeats 4000000 in
theorem c_X5_told (l : Launch) (dC : Nat → ClassId) (dI : Nat → Nat → Nat) (cI cO : ClassId) (hr_ : Nat) (wh : Int) (le : Int) (ev : Int) (ab : Int) (li : Int) (ti : Int) (st : Int) (row : Int) (h : Nat) (qp : Nat) (qt : Nat) (qv : Nat) (qs : Nat) (qf : Nat) (qg : Nat) (qk : Nat) (ql : Nat) (one : Int) (oth : Int) (u : SrS) (n : Int) (a : Int) (b : Int) (sz : Nat) (hu : SrOk u) (hn : 0 ≤ n ∧ n ≤ 99999) (hwh : 0 ≤ wh ∧ wh ≤ 7) (hle : 1 ≤ le ∧ le ≤ 500) (hFa : FI u (n - le) a) (hFb : FI u n b) : Met l yX5_told wsX5_told ({ frames := 4, cells := 0, slots := 0, locals := 97 }) (mPc (dC, dI) [(cI, .int), (cO, .object "java/lang/Object")] [.ref hr_, .int (iI n)] sz [(hr_, .inr (5, [.ref h, .int (iI wh), .int (iI le), .int (iI ev), .int (iI ab), .int (iI li), .int (iI ti), .int (iI st), .int (iI row)])), (h, .inr (6, [.int (iI one), .int (iI oth), .ref qp, .ref qf, .ref qk])), (qp, .inr (4, [.int (iI (uPa u)), .ref qt, .ref qv, .ref qs, .int (iI (uPb u)), .int (iI (uPs u)), .int (iI (uPg u))])), (qt, .inl (cI, 160, .inl (aI (uPt u)))), (qv, .inl (cI, 160, .inl (aI (uPv u)))), (qs, .inl (cI, 9, .inl (aI (uPz u)))), (qf, .inr (1, [.int (iI (uFa u)), .ref qg])), (qg, .inl (cI, 175, .inl (aI (uFf u)))), (qk, .inr (1, [.int (iI (uKa u)), .ref ql])), (ql, .inl (cI, 175, .inl (aI (uKf u))))]) (mQi (dC, dI) [(hr_, .inr (5, [.ref h, .int (iI wh), .int (iI le), .int (iI ev), .int (iI ab), .int (iI li), .int (iI ti), .int (iI st), .int (iI row)])), (h, .inr (6, [.int (iI one), .int (iI oth), .ref qp, .ref qf, .ref qk])), (qp, .inr (4, [.int (iI (uPa u)), .ref qt, .ref qv, .ref qs, .int (iI (uPb u)), .int (iI (uPs u)), .int (iI (uPg u))])), (qt, .inl (cI, 160, .inl (aI (uPt u)))), (qv, .inl (cI, 160, .inl (aI (uPv u)))), (qs, .inl (cI, 9, .inl (aI (uPz u)))), (qf, .inr (1, [.int (iI (uFa u)), .ref qg])), (qg, .inl (cI, 175, .inl (aI (uFf u)))), (qk, .inr (1, [.int (iI (uKa u)), .ref ql])), (ql, .inl (cI, 175, .inl (aI (uKf u))))] [(hr_, .inr (5, [.ref h, .int (iI wh), .int (iI le), .int (iI ev), .int (iI ab), .int (iI li), .int (iI ti), .int (iI st), .int (iI row)])), (h, .inr (6, [.int (iI one), .int (iI oth), .ref qp, .ref qf, .ref qk])), (qp, .inr (4, [.int (iI (uPa u)), .ref qt, .ref qv, .ref qs, .int (iI (uPb u)), .int (iI (uPs u)), .int (iI (uPg u))])), (qt, .inl (cI, 160, .inl (aI (uPt u)))), (qv, .inl (cI, 160, .inl (aI (uPv u)))), (qs, .inl (cI, 9, .inl (aI (uPz u)))), (qf, .inr (1, [.int (iI (uFa u)), .ref qg])), (qg, .inl (cI, 175, .inl (aI (uFf u)))), (qk, .inr (1, [.int (iI (uKa u)), .ref ql])), (ql, .inl (cI, 175, .inl (aI (uKf u))))] sz (tlF u a b wh)) 0 0 (va_A [(hr_, .inr (5, [.ref h, .int (iI wh), .int (iI le), .int (iI ev), .int (iI ab), .int (iI li), .int (iI ti), .int (iI st), .int (iI row)])), (h, .inr (6, [.int (iI one), .int (iI oth), .ref qp, .ref qf, .ref qk])), (qp, .inr (4, [.int (iI (uPa u)), .ref qt, .ref qv, .ref qs, .int (iI (uPb u)), .int (iI (uPs u)), .int (iI (uPg u))])), (qt, .inl (cI, 160, .inl (aI (uPt u)))), (qv, .inl (cI, 160, .inl (aI (uPv u)))), (qs, .inl (cI, 9, .inl (aI (uPz u)))), (qf, .inr (1, [.int (iI (uFa u)), .ref qg])), (qg, .inl (cI, 175, .inl (aI (uFf u)))), (qk, .inr (1, [.int (iI (uKa u)), .ref ql])), (ql, .inl (cI, 175, .inl (aI (uKf u))))] sz) := by
  refine mMet (cc := cX5_told) (maxL := 2) (ret := (some .int)) (by decide) rfl (Nat.le_of_ble_eq_true rfl) ?_
  intro p e s m args below meth c A ls hx hb hr hts hown hlocks hin hml hAe hsz hA hD H hHe hP hK hZ hS hl Q hQ
  have hl : lv_has ls 2 [(0, .ref hr_), (1, .int (iI n))] := hl
  have hf18 := hts (.fieldLink RX5 18 "MeridianSeries$Rule" "chain" "LMeridianSeries$Series;") (by decide +kernel)
  have hi_X5 : ∀ w ∈ u_ws RX5 TX5 9, w ∈ wsX5_told := by decide +kernel
  have hf25 := hts (.fieldLink RX5 25 "MeridianSeries$Rule" "length" "I") (by decide +kernel)
  have hf22 := hts (.fieldLink RX5 22 "MeridianSeries$Rule" "what" "I") (by decide +kernel)
  refine lv_aload_n hx hb dX5_told_0 rfl (lv_at hl 0 rfl) ?_
  refine va_get (ci := 5) (v := .ref h) (C := RX5) (T := TX5) (N := 9) hx hb hts hi_X5 hown hK hP 0 rfl rfl 0 (by decide) hf18 (fun _ h9 => h9) rfl dX5_told_1 ?_
  refine lv_iload_n hx hb dX5_told_4 rfl (lv_at hl 1 rfl) ?_
  refine lv_aload_n hx hb dX5_told_5 rfl (lv_at hl 0 rfl) ?_
  refine va_get (ci := 5) (v := .int (iI le)) (C := RX5) (T := TX5) (N := 9) hx hb hts hi_X5 hown hK hP 0 rfl rfl 2 (by decide) hf25 (fun _ h9 => h9) rfl dX5_told_6 ?_
  refine mi_isub hx hb dX5_told_9 ?_
  refine lv_iload_n hx hb dX5_told_10 rfl (lv_at hl 1 rfl) ?_
  refine lv_aload_n hx hb dX5_told_11 rfl (lv_at hl 0 rfl) ?_
  refine va_get (ci := 5) (v := .int (iI wh)) (C := RX5) (T := TX5) (N := 9) hx hb hts hi_X5 hown hK hP 0 rfl rfl 1 (by decide) hf22 (fun _ h9 => h9) rfl dX5_told_12 ?_
  refine mi_iconst hx hb dX5_told_15 ?_
  refine m_run (wc := [(h, .inr (6, [.int (iI one), .int (iI oth), .ref qp, .ref qf, .ref qk])), (qp, .inr (4, [.int (iI (uPa u)), .ref qt, .ref qv, .ref qs, .int (iI (uPb u)), .int (iI (uPs u)), .int (iI (uPg u))])), (qt, .inl (cI, 160, .inl (aI (uPt u)))), (qv, .inl (cI, 160, .inl (aI (uPv u)))), (qs, .inl (cI, 9, .inl (aI (uPz u)))), (qf, .inr (1, [.int (iI (uFa u)), .ref qg])), (qg, .inl (cI, 175, .inl (aI (uFf u)))), (qk, .inr (1, [.int (iI (uKa u)), .ref ql])), (ql, .inl (cI, 175, .inl (aI (uKf u))))]) (wc' := [(h, .inr (6, [.int (iI one), .int (iI oth), .ref qp, .ref qf, .ref qk])), (qp, .inr (4, [.int (iI (uPa u)), .ref qt, .ref qv, .ref qs, .int (iI (uPb u)), .int (iI (uPs u)), .int (iI (uPg u))])), (qt, .inl (cI, 160, .inl (aI (uPt u)))), (qv, .inl (cI, 160, .inl (aI (uPv u)))), (qs, .inl (cI, 9, .inl (aI (uPz u)))), (qf, .inr (1, [.int (iI (uFa u)), .ref qg])), (qg, .inl (cI, 175, .inl (aI (uFf u)))), (qk, .inr (1, [.int (iI (uKa u)), .ref ql])), (ql, .inl (cI, 175, .inl (aI (uKf u))))]) (wr := [(hr_, .inr (5, [.ref h, .int (iI wh), .int (iI le), .int (iI ev), .int (iI ab), .int (iI li), .int (iI ti), .int (iI st), .int (iI row)]))]) (ws' := [(hr_, .inr (5, [.ref h, .int (iI wh), .int (iI le), .int (iI ev), .int (iI ab), .int (iI li), .int (iI ti), .int (iI st), .int (iI row)])), (h, .inr (6, [.int (iI one), .int (iI oth), .ref qp, .ref qf, .ref qk])), (qp, .inr (4, [.int (iI (uPa u)), .ref qt, .ref qv, .ref qs, .int (iI (uPb u)), .int (iI (uPs u)), .int (iI (uPg u))])), (qt, .inl (cI, 160, .inl (aI (uPt u)))), (qv, .inl (cI, 160, .inl (aI (uPv u)))), (qs, .inl (cI, 9, .inl (aI (uPz u)))), (qf, .inr (1, [.int (iI (uFa u)), .ref qg])), (qg, .inl (cI, 175, .inl (aI (uFf u)))), (qk, .inr (1, [.int (iI (uKa u)), .ref ql])), (ql, .inl (cI, 175, .inl (aI (uKf u))))]) (va_runV (As := [.int (iI (n - le)), .int (iI n), .int (iI wh), .int (iI 0)]) (rest := []) ⟨hx, hb, hml, hown, hts⟩ (c_X6_tell l dC dI cI cO h qp qt qv qs qf qg qk ql one oth u (n - le) n wh a b H.size (by first | assumption | omega) (by first | assumption | omega) (by first | assumption | omega) (by first | assumption | omega) (by first | assumption | omega) (by first | assumption | omega)) (cwV 4 hts gX5_told_X6_tell rfl rfl rfl (by decide +kernel) ⟨Nat.le_of_ble_eq_true rfl, Nat.le_of_ble_eq_true rfl⟩) (m_preV hZ hK hP hD [1, 2, 3, 4, 5, 6, 7, 8, 9] rfl (by decide) (va_recv hK hP (ci := 6) (q0 := 1) rfl rfl)) rfl rfl hl.1 rfl (lv_room (Nat.le_of_ble_eq_true rfl)) dX5_told_16 ⟨Nat.le_of_ble_eq_true rfl, Nat.le_of_ble_eq_true rfl⟩) hP hD hS hA [1, 2, 3, 4, 5, 6, 7, 8, 9] [0] [0, 1, 2, 3, 4, 5, 6, 7, 8, 9] rfl rfl (by decide) (by decide) rfl (by decide) (fun H locs hP hD hS => ?_)
  exact mi_iret hx hb hQ hr hlocks hAe hsz hP hD hS (by first | rfl | omega | (split <;> omega)) rfl dX5_told_19
