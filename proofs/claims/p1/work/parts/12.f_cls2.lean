set_option maxRecDepth 100000 in
set_option maxHeartbeats 4000000 in
theorem c_canGoOn_1 (l : Launch) (dC : Nat → ClassId) (dI : Nat → Nat → Nat) (cI cO cJ : ClassId) (m0 : Nat) (g : Nat) (h : Nat) (ht : Nat) (pq : Nat) (cl : Nat) (rl : Nat) (lg : Nat) (p0 : Int) (eZ : Nat × Nat) (sz : Nat) (hr_p0 : rI p0) (hgood : 1 ≤ p0 ∧ p0 ≤ 100) : Met l yX9_canGoOn (gw (.code yX9_canGoOn cX9_canGoOn 2 (some .boolean))) ({ frames := 1, cells := 0, slots := 0, locals := 23 }) (mPcZ (dC, dI) [(cI, .int), (cO, .object "java/lang/Object"), (cJ, .long)] eZ [.ref m0, .int (iI p0)] sz [(m0, .inr (11, [.ref g, .ref h, .ref ht, .ref pq, .int (iI 0), .int (iI 10), .int (iI 1), .int (iI 0), .int (iI 0)])), (h, .inr (10, [.ref g, .ref cl, .ref rl, .ref lg, .int (iI 0)]))]) (mQi (dC, dI) [(m0, .inr (11, [.ref g, .ref h, .ref ht, .ref pq, .int (iI 0), .int (iI 10), .int (iI 1), .int (iI 0), .int (iI 0)])), (h, .inr (10, [.ref g, .ref cl, .ref rl, .ref lg, .int (iI 0)]))] [(m0, .inr (11, [.ref g, .ref h, .ref ht, .ref pq, .int (iI 0), .int (iI 10), .int (iI 1), .int (iI 0), .int (iI 0)])), (h, .inr (10, [.ref g, .ref cl, .ref rl, .ref lg, .int (iI 0)]))] sz 1) 0 0 (va_A [(m0, .inr (11, [.ref g, .ref h, .ref ht, .ref pq, .int (iI 0), .int (iI 10), .int (iI 1), .int (iI 0), .int (iI 0)])), (h, .inr (10, [.ref g, .ref cl, .ref rl, .ref lg, .int (iI 0)]))] sz) := by
  refine mMetZ (cc := cX9_canGoOn) (maxL := 2) (ret := (some .boolean)) (by decide) rfl (Nat.le_of_ble_eq_true rfl) ?_
  intro p e s m args below meth c A ls hx hb hr hts hown hlocks hin hml hAe hsz hA hD H hHe hP hK hZ hE hS hl Q hQ
  have hl : lv_has ls 2 [(0, .ref m0), (1, .int (iI p0))] := hl
  have hf21 := hts (.fieldLink RX9 21 "MeridianSeries" "store" "LMeridianSeries$Store;") (gm wg_10)
  have hf141 := hts (.fieldLink RX9 141 "MeridianSeries$Store" "now" "I") (gm wg_77)
  have hk100 := hts (.constant RX9 100 (99999)) (gm wg_59)
  refine lv_iload_n hx hb dX9_canGoOn_0 rfl (lv_at hl 1 rfl) ?_
  refine mi_i2l hx hb (by omega) dX9_canGoOn_1 ?_
  refine mi_iconst hx hb dX9_canGoOn_2 ?_
  refine mi_bipush hx hb dX9_canGoOn_3 (by decide) ?_
  refine m_run (wc := []) (wc' := []) (wr := [(m0, .inr (11, [.ref g, .ref h, .ref ht, .ref pq, .int (iI 0), .int (iI 10), .int (iI 1), .int (iI 0), .int (iI 0)])), (h, .inr (10, [.ref g, .ref cl, .ref rl, .ref lg, .int (iI 0)]))]) (ws' := [(m0, .inr (11, [.ref g, .ref h, .ref ht, .ref pq, .int (iI 0), .int (iI 10), .int (iI 1), .int (iI 0), .int (iI 0)])), (h, .inr (10, [.ref g, .ref cl, .ref rl, .ref lg, .int (iI 0)]))]) (va_runS (As := [.long (jI p0), .int (iI 1), .int (iI 100)]) (rest := []) ⟨hx, hb, hml, hown, hts⟩ (c_X9_isIn l dC dI cI cO cJ p0 1 100 eZ H.size (by first | assumption | omega) (by first | assumption | omega) (by first | assumption | omega)) (va_cwS 3 hts (gS wg_44 wg_45 wg_22 wg_0) rfl rfl rfl (by decide +kernel) ⟨Nat.le_of_ble_eq_true rfl, Nat.le_of_ble_eq_true rfl⟩) (m_preSZ hE hS hA hZ hK hP hD [] rfl (by decide)) rfl rfl hl.1 rfl (lv_room (Nat.le_of_ble_eq_true rfl)) dX9_canGoOn_5 ⟨Nat.le_of_ble_eq_true rfl, Nat.le_of_ble_eq_true rfl⟩) hP hD hS hA [] [0, 1] [0, 1] rfl rfl (by decide) (by decide) rfl (by decide) (fun H locs hP hD hS => ?_)
  obtain ⟨r_1, hr_1⟩ : ∃ z : Int, z = if 1 ≤ p0 ∧ p0 ≤ 100 then 1 else 0 := ⟨_, rfl⟩
  rw [← hr_1]
  have q_2 : (r_1 = 1 ∧ 1 ≤ p0 ∧ p0 ≤ 100) ∨ (r_1 = 0 ∧ ¬ (1 ≤ p0 ∧ p0 ≤ 100)) := (by rw [hr_1]; split <;> omega)
  refine mi_if_eq (tgt := 29) hx hb (by omega) dX9_canGoOn_8 (by decide) (fun c_3 => ?_) (fun c_3 => ?_)
  · exfalso; omega
  · refine lv_aload_n hx hb dX9_canGoOn_11 rfl (lv_at hl 0 rfl) ?_
    refine va_get (ci := 11) (v := .ref h) (C := RX9) (T := TX9) (N := 9) hx hb hts (gh hg_X9) hown hK hP 0 rfl rfl 1 (by decide) hf21 (fun _ h9 => h9) rfl dX9_canGoOn_12 ?_
    refine va_get (ci := 10) (v := .int (iI 0)) (C := RX8) (T := TX8) (N := 5) hx hb hts (gh hg_X8) hown hK hP 1 rfl rfl 4 (by decide) hf141 (fun _ h9 => h9) rfl dX9_canGoOn_15 ?_
    refine lv_iload_n hx hb dX9_canGoOn_18 rfl (lv_at hl 1 rfl) ?_
    refine mi_iadd hx hb dX9_canGoOn_19 ?_
    refine lv_ldc (v := iI 99999) hx hb hown (by rw [show iI 99999 = (99999 : Int32) by decide]; exact hk100) dX9_canGoOn_20 ?_
    refine mi_icmp_gt (tgt := 29) hx hb (by omega) (by decide) dX9_canGoOn_22 (by decide) (fun c_4 => ?_) (fun c_4 => ?_)
    · exfalso; omega
    · refine mi_iconst hx hb dX9_canGoOn_25 ?_
      refine lv_goto (tgt := 30) hx hb dX9_canGoOn_26 (by decide) ?_
      exact mi_zret hx hb hQ hr hlocks hAe hsz hP hD hS (by decide) (by first | rfl | omega | (split <;> omega)) rfl dX9_canGoOn_30

set_option maxRecDepth 100000 in
set_option maxHeartbeats 4000000 in
theorem c_canGoOn_0 (l : Launch) (dC : Nat → ClassId) (dI : Nat → Nat → Nat) (cI cO cJ : ClassId) (m0 : Nat) (g : Nat) (h : Nat) (ht : Nat) (pq : Nat) (cl : Nat) (rl : Nat) (lg : Nat) (p0 : Int) (eZ : Nat × Nat) (sz : Nat) (hr_p0 : rI p0) (hbad : ¬ (1 ≤ p0 ∧ p0 ≤ 100)) : Met l yX9_canGoOn (gw (.code yX9_canGoOn cX9_canGoOn 2 (some .boolean))) ({ frames := 1, cells := 0, slots := 0, locals := 23 }) (mPcZ (dC, dI) [(cI, .int), (cO, .object "java/lang/Object"), (cJ, .long)] eZ [.ref m0, .int (iI p0)] sz [(m0, .inr (11, [.ref g, .ref h, .ref ht, .ref pq, .int (iI 0), .int (iI 10), .int (iI 1), .int (iI 0), .int (iI 0)])), (h, .inr (10, [.ref g, .ref cl, .ref rl, .ref lg, .int (iI 0)]))]) (mQi (dC, dI) [(m0, .inr (11, [.ref g, .ref h, .ref ht, .ref pq, .int (iI 0), .int (iI 10), .int (iI 1), .int (iI 0), .int (iI 0)])), (h, .inr (10, [.ref g, .ref cl, .ref rl, .ref lg, .int (iI 0)]))] [(m0, .inr (11, [.ref g, .ref h, .ref ht, .ref pq, .int (iI 0), .int (iI 10), .int (iI 1), .int (iI 0), .int (iI 0)])), (h, .inr (10, [.ref g, .ref cl, .ref rl, .ref lg, .int (iI 0)]))] sz 0) 0 0 (va_A [(m0, .inr (11, [.ref g, .ref h, .ref ht, .ref pq, .int (iI 0), .int (iI 10), .int (iI 1), .int (iI 0), .int (iI 0)])), (h, .inr (10, [.ref g, .ref cl, .ref rl, .ref lg, .int (iI 0)]))] sz) := by
  refine mMetZ (cc := cX9_canGoOn) (maxL := 2) (ret := (some .boolean)) (by decide) rfl (Nat.le_of_ble_eq_true rfl) ?_
  intro p e s m args below meth c A ls hx hb hr hts hown hlocks hin hml hAe hsz hA hD H hHe hP hK hZ hE hS hl Q hQ
  have hl : lv_has ls 2 [(0, .ref m0), (1, .int (iI p0))] := hl
  have hf21 := hts (.fieldLink RX9 21 "MeridianSeries" "store" "LMeridianSeries$Store;") (gm wg_10)
  have hf141 := hts (.fieldLink RX9 141 "MeridianSeries$Store" "now" "I") (gm wg_77)
  have hk100 := hts (.constant RX9 100 (99999)) (gm wg_59)
  refine lv_iload_n hx hb dX9_canGoOn_0 rfl (lv_at hl 1 rfl) ?_
  refine mi_i2l hx hb (by omega) dX9_canGoOn_1 ?_
  refine mi_iconst hx hb dX9_canGoOn_2 ?_
  refine mi_bipush hx hb dX9_canGoOn_3 (by decide) ?_
  refine m_run (wc := []) (wc' := []) (wr := [(m0, .inr (11, [.ref g, .ref h, .ref ht, .ref pq, .int (iI 0), .int (iI 10), .int (iI 1), .int (iI 0), .int (iI 0)])), (h, .inr (10, [.ref g, .ref cl, .ref rl, .ref lg, .int (iI 0)]))]) (ws' := [(m0, .inr (11, [.ref g, .ref h, .ref ht, .ref pq, .int (iI 0), .int (iI 10), .int (iI 1), .int (iI 0), .int (iI 0)])), (h, .inr (10, [.ref g, .ref cl, .ref rl, .ref lg, .int (iI 0)]))]) (va_runS (As := [.long (jI p0), .int (iI 1), .int (iI 100)]) (rest := []) ⟨hx, hb, hml, hown, hts⟩ (c_X9_isIn l dC dI cI cO cJ p0 1 100 eZ H.size (by first | assumption | omega) (by first | assumption | omega) (by first | assumption | omega)) (va_cwS 3 hts (gS wg_44 wg_45 wg_22 wg_0) rfl rfl rfl (by decide +kernel) ⟨Nat.le_of_ble_eq_true rfl, Nat.le_of_ble_eq_true rfl⟩) (m_preSZ hE hS hA hZ hK hP hD [] rfl (by decide)) rfl rfl hl.1 rfl (lv_room (Nat.le_of_ble_eq_true rfl)) dX9_canGoOn_5 ⟨Nat.le_of_ble_eq_true rfl, Nat.le_of_ble_eq_true rfl⟩) hP hD hS hA [] [0, 1] [0, 1] rfl rfl (by decide) (by decide) rfl (by decide) (fun H locs hP hD hS => ?_)
  obtain ⟨r_1, hr_1⟩ : ∃ z : Int, z = if 1 ≤ p0 ∧ p0 ≤ 100 then 1 else 0 := ⟨_, rfl⟩
  rw [← hr_1]
  have q_2 : (r_1 = 1 ∧ 1 ≤ p0 ∧ p0 ≤ 100) ∨ (r_1 = 0 ∧ ¬ (1 ≤ p0 ∧ p0 ≤ 100)) := (by rw [hr_1]; split <;> omega)
  refine mi_if_eq (tgt := 29) hx hb (by omega) dX9_canGoOn_8 (by decide) (fun c_3 => ?_) (fun c_3 => ?_)
  · refine mi_iconst hx hb dX9_canGoOn_29 ?_
    exact mi_zret hx hb hQ hr hlocks hAe hsz hP hD hS (by decide) (by first | rfl | omega | (split <;> omega)) rfl dX9_canGoOn_30
  · refine lv_aload_n hx hb dX9_canGoOn_11 rfl (lv_at hl 0 rfl) ?_
    refine va_get (ci := 11) (v := .ref h) (C := RX9) (T := TX9) (N := 9) hx hb hts (gh hg_X9) hown hK hP 0 rfl rfl 1 (by decide) hf21 (fun _ h9 => h9) rfl dX9_canGoOn_12 ?_
    refine va_get (ci := 10) (v := .int (iI 0)) (C := RX8) (T := TX8) (N := 5) hx hb hts (gh hg_X8) hown hK hP 1 rfl rfl 4 (by decide) hf141 (fun _ h9 => h9) rfl dX9_canGoOn_15 ?_
    refine lv_iload_n hx hb dX9_canGoOn_18 rfl (lv_at hl 1 rfl) ?_
    refine mi_iadd hx hb dX9_canGoOn_19 ?_
    refine lv_ldc (v := iI 99999) hx hb hown (by rw [show iI 99999 = (99999 : Int32) by decide]; exact hk100) dX9_canGoOn_20 ?_
    refine mi_icmp_gt (tgt := 29) hx hb (by omega) (by decide) dX9_canGoOn_22 (by decide) (fun c_4 => ?_) (fun c_4 => ?_)
    · refine mi_iconst hx hb dX9_canGoOn_29 ?_
      exact mi_zret hx hb hQ hr hlocks hAe hsz hP hD hS (by decide) (by first | rfl | omega | (split <;> omega)) rfl dX9_canGoOn_30
    · exfalso; omega

set_option maxRecDepth 100000 in
set_option maxHeartbeats 4000000 in
theorem c_X8_goOnByOne (l : Launch) (dC : Nat → ClassId) (dI : Nat → Nat → Nat) (cI cO cJ : ClassId) (h : Nat) (g : Nat) (cl : Nat) (rl : Nat) (lg : Nat) (now : Int) (eZ : Nat × Nat) (sz : Nat) (hnow : 0 ≤ now ∧ now ≤ 1000) : Met l yX8_goOnByOne (gw (.code yX8_goOnByOne cX8_goOnByOne 3 none)) ({ frames := 1, cells := 0, slots := 0, locals := 20 }) (mPcZ (dC, dI) [(cI, .int), (cO, .object "java/lang/Object"), (cJ, .long)] eZ [.ref h] sz [(h, .inr (10, [.ref g, .ref cl, .ref rl, .ref lg, .int (iI now)])), (cl, .inr (2, [.int (iI 0), .ref eZ.1, .int (iI 0)])), (rl, .inr (2, [.int (iI 0), .ref eZ.1, .int (iI 0)]))]) (mQv (dC, dI) [(h, .inr (10, [.ref g, .ref cl, .ref rl, .ref lg, .int (iI now)])), (cl, .inr (2, [.int (iI 0), .ref eZ.1, .int (iI 0)])), (rl, .inr (2, [.int (iI 0), .ref eZ.1, .int (iI 0)]))] [(h, .inr (10, [.ref g, .ref cl, .ref rl, .ref lg, .int (iI (now + 1))])), (cl, .inr (2, [.int (iI 0), .ref eZ.1, .int (iI 0)])), (rl, .inr (2, [.int (iI 0), .ref eZ.1, .int (iI 0)]))] sz) 0 0 (va_A [(h, .inr (10, [.ref g, .ref cl, .ref rl, .ref lg, .int (iI now)])), (cl, .inr (2, [.int (iI 0), .ref eZ.1, .int (iI 0)])), (rl, .inr (2, [.int (iI 0), .ref eZ.1, .int (iI 0)]))] sz) := by
  refine mMetZ (cc := cX8_goOnByOne) (maxL := 3) (ret := none) (by decide) rfl (Nat.le_of_ble_eq_true rfl) ?_
  intro p e s m args below meth c A ls hx hb hr hts hown hlocks hin hml hAe hsz hA hD H hHe hP hK hZ hE hS hl Q hQ
  have hl : lv_has ls 3 [(0, .ref h)] := hl
  have hf26 := hts (.fieldLink RX8 26 "MeridianSeries$Store" "now" "I") (gm wg_186)
  have hf10 := hts (.fieldLink RX8 10 "MeridianSeries$Store" "chains" "Ljava/util/ArrayList;") (gm wg_65)
  have hf16 := hts (.fieldLink RX8 16 "MeridianSeries$Store" "rules" "Ljava/util/ArrayList;") (gm wg_187)
  refine lv_aload_n hx hb dX8_goOnByOne_0 rfl (lv_at hl 0 rfl) ?_
  refine lv_dup hx hb dX8_goOnByOne_1 rfl ?_
  refine va_get (ci := 10) (v := .int (iI now)) (C := RX8) (T := TX8) (N := 5) hx hb hts (gh hg_X8) hown hK hP 0 rfl rfl 4 (by decide) hf26 (fun _ h9 => h9) rfl dX8_goOnByOne_2 ?_
  refine mi_iconst hx hb dX8_goOnByOne_5 ?_
  refine mi_iadd hx hb dX8_goOnByOne_6 ?_
  refine va_put (D := (dC, dI)) (ci := 10) (v := .int (iI (now + 1))) (ty := .int) (C := RX8) (T := TX8) (N := 5) hx hb hts (gh hg_X8) tyX8 tyX8_ok nmX8 hown hK hP hD hS 0 rfl rfl 4 (by decide) hf26 (fun _ h9 => h9) rfl (by decide +kernel) rfl rfl (Nat.le_of_ble_eq_true rfl) dX8_goOnByOne_7 (fun H locs hP hD hS => ?_)
  have hP : va_P (dC, dI) vwCl [(h, .inr (10, [.ref g, .ref cl, .ref rl, .ref lg, .int (iI (now + 1))])), (cl, .inr (2, [.int (iI 0), .ref eZ.1, .int (iI 0)])), (rl, .inr (2, [.int (iI 0), .ref eZ.1, .int (iI 0)]))] H := hP
  have hD : va_D A [(h, .inr (10, [.ref g, .ref cl, .ref rl, .ref lg, .int (iI (now + 1))])), (cl, .inr (2, [.int (iI 0), .ref eZ.1, .int (iI 0)])), (rl, .inr (2, [.int (iI 0), .ref eZ.1, .int (iI 0)]))] := hD
  refine mi_iconst hx hb dX8_goOnByOne_10 ?_
  refine lv_istore_n (lv' := [(1, .int (iI 0)), (0, .ref h)]) hx hb dX8_goOnByOne_11 rfl hl (by decide) rfl (fun ls hl => ?_)
  refine lv_iload_n hx hb dX8_goOnByOne_12 rfl (lv_at hl 0 rfl) ?_
  refine lv_aload_n hx hb dX8_goOnByOne_13 rfl (lv_at hl 1 rfl) ?_
  refine va_get (ci := 10) (v := .ref cl) (C := RX8) (T := TX8) (N := 5) hx hb hts (gh hg_X8) hown hK hP 0 rfl rfl 1 (by decide) hf10 (fun _ h9 => h9) rfl dX8_goOnByOne_14 ?_
  refine m_run (wc := [(cl, .inr (2, [.int (iI 0), .ref eZ.1, .int (iI 0)]))]) (wc' := [(cl, .inr (2, [.int (iI 0), .ref eZ.1, .int (iI 0)]))]) (wr := [(h, .inr (10, [.ref g, .ref cl, .ref rl, .ref lg, .int (iI (now + 1))])), (rl, .inr (2, [.int (iI 0), .ref eZ.1, .int (iI 0)]))]) (ws' := [(h, .inr (10, [.ref g, .ref cl, .ref rl, .ref lg, .int (iI (now + 1))])), (cl, .inr (2, [.int (iI 0), .ref eZ.1, .int (iI 0)])), (rl, .inr (2, [.int (iI 0), .ref eZ.1, .int (iI 0)]))]) (va_runV (As := []) (rest := [.int (iI 0)]) ⟨hx, hb, hml, hown, hts⟩ (c_Jx4a65c_size_8abf5 l dC dI cI cO cJ cl eZ.1 0 0 eZ H.size ) (cwV 0 hts (gV wg_66 wg_13 wg_14 wg_15 wg_9) rfl rfl rfl (by decide +kernel) ⟨Nat.le_of_ble_eq_true rfl, Nat.le_of_ble_eq_true rfl⟩) (m_preVZ hE hS hA hZ hK hP hD [1] rfl (by decide) (va_recv hK hP (ci := 2) (q0 := 1) rfl rfl)) rfl rfl hl.1 rfl (lv_room (Nat.le_of_ble_eq_true rfl)) dX8_goOnByOne_17 ⟨Nat.le_of_ble_eq_true rfl, Nat.le_of_ble_eq_true rfl⟩) hP hD hS hA [1] [0, 2] [0, 2, 1] rfl rfl (by decide) (by decide) rfl (by decide) (fun H locs hP hD hS => ?_)
  refine mi_icmp_ge (tgt := 51) hx hb (by decide) (by decide) dX8_goOnByOne_20 (by decide) (fun c_1 => ?_) (fun c_1 => ?_)
  · refine mi_iconst hx hb dX8_goOnByOne_51 ?_
    refine lv_istore_n (lv' := [(1, .int (iI 0)), (0, .ref h)]) hx hb dX8_goOnByOne_52 rfl hl (by decide) rfl (fun ls hl => ?_)
    refine lv_iload_n hx hb dX8_goOnByOne_53 rfl (lv_at hl 0 rfl) ?_
    refine lv_aload_n hx hb dX8_goOnByOne_54 rfl (lv_at hl 1 rfl) ?_
    refine va_get (ci := 10) (v := .ref rl) (C := RX8) (T := TX8) (N := 5) hx hb hts (gh hg_X8) hown hK hP 0 rfl rfl 2 (by decide) hf16 (fun _ h9 => h9) rfl dX8_goOnByOne_55 ?_
    refine m_run (wc := [(rl, .inr (2, [.int (iI 0), .ref eZ.1, .int (iI 0)]))]) (wc' := [(rl, .inr (2, [.int (iI 0), .ref eZ.1, .int (iI 0)]))]) (wr := [(h, .inr (10, [.ref g, .ref cl, .ref rl, .ref lg, .int (iI (now + 1))])), (cl, .inr (2, [.int (iI 0), .ref eZ.1, .int (iI 0)]))]) (ws' := [(h, .inr (10, [.ref g, .ref cl, .ref rl, .ref lg, .int (iI (now + 1))])), (cl, .inr (2, [.int (iI 0), .ref eZ.1, .int (iI 0)])), (rl, .inr (2, [.int (iI 0), .ref eZ.1, .int (iI 0)]))]) (va_runV (As := []) (rest := [.int (iI 0)]) ⟨hx, hb, hml, hown, hts⟩ (c_Jx4a65c_size_8abf5 l dC dI cI cO cJ rl eZ.1 0 0 eZ H.size ) (cwV 0 hts (gV wg_66 wg_13 wg_14 wg_15 wg_9) rfl rfl rfl (by decide +kernel) ⟨Nat.le_of_ble_eq_true rfl, Nat.le_of_ble_eq_true rfl⟩) (m_preVZ hE hS hA hZ hK hP hD [2] rfl (by decide) (va_recv hK hP (ci := 2) (q0 := 2) rfl rfl)) rfl rfl hl.1 rfl (lv_room (Nat.le_of_ble_eq_true rfl)) dX8_goOnByOne_58 ⟨Nat.le_of_ble_eq_true rfl, Nat.le_of_ble_eq_true rfl⟩) hP hD hS hA [2] [0, 1] [0, 1, 2] rfl rfl (by decide) (by decide) rfl (by decide) (fun H locs hP hD hS => ?_)
    refine mi_icmp_ge (tgt := 124) hx hb (by decide) (by decide) dX8_goOnByOne_61 (by decide) (fun c_2 => ?_) (fun c_2 => ?_)
    · exact mi_vret hx hb hQ hr hlocks hAe hsz hP hD hS rfl dX8_goOnByOne_124
    · exfalso; omega
  · exfalso; omega

set_option maxRecDepth 100000 in
set_option maxHeartbeats 4000000 in
theorem x_goOn (l : Launch) (dC : Nat → ClassId) (dI : Nat → Nat → Nat) (cI cO cJ : ClassId) (m0 : Nat) (g : Nat) (h : Nat) (ht : Nat) (pq : Nat) (cl : Nat) (rl : Nat) (lg : Nat) (qe : Nat) (p0 : Int) (eZ : Nat × Nat) (sz : Nat) (hlT : l.stackTraces = false) (hr_p0 : rI p0) (hbad : ¬ (1 ≤ p0 ∧ p0 ≤ 100)) : vx_Met l yX9_goOn (gw (.code yX9_goOn cX9_goOn 4 (some .int))) ({ frames := 7, cells := 1, slots := 6, locals := 120 }) (mPcZ (dC, dI) [(cI, .int), (cO, .object "java/lang/Object"), (cJ, .long)] eZ [.ref m0, .int (iI p0)] sz [(m0, .inr (11, [.ref g, .ref h, .ref ht, .ref pq, .int (iI 0), .int (iI 10), .int (iI 1), .int (iI 0), .int (iI 0)])), (h, .inr (10, [.ref g, .ref cl, .ref rl, .ref lg, .int (iI 0)])), (cl, .inr (2, [.int (iI 0), .ref eZ.1, .int (iI 0)])), (rl, .inr (2, [.int (iI 0), .ref eZ.1, .int (iI 0)])), (lg, .inr (4, [.ref qe, .int (iI 0), .int (iI 0)]))]) mNo (mXC "java/lang/IllegalArgumentException" [(m0, .inr (11, [.ref g, .ref h, .ref ht, .ref pq, .int (iI 0), .int (iI 10), .int (iI 1), .int (iI 0), .int (iI 0)])), (h, .inr (10, [.ref g, .ref cl, .ref rl, .ref lg, .int (iI 0)])), (cl, .inr (2, [.int (iI 0), .ref eZ.1, .int (iI 0)])), (rl, .inr (2, [.int (iI 0), .ref eZ.1, .int (iI 0)])), (lg, .inr (4, [.ref qe, .int (iI 0), .int (iI 0)]))] sz) 1 6 (va_A [(m0, .inr (11, [.ref g, .ref h, .ref ht, .ref pq, .int (iI 0), .int (iI 10), .int (iI 1), .int (iI 0), .int (iI 0)])), (h, .inr (10, [.ref g, .ref cl, .ref rl, .ref lg, .int (iI 0)])), (cl, .inr (2, [.int (iI 0), .ref eZ.1, .int (iI 0)])), (rl, .inr (2, [.int (iI 0), .ref eZ.1, .int (iI 0)])), (lg, .inr (4, [.ref qe, .int (iI 0), .int (iI 0)]))] sz) := by
  refine mMetX (cc := cX9_goOn) (maxL := 4) (ret := (some .int)) (by decide) rfl (Nat.le_of_ble_eq_true rfl) ?_
  intro p e s m args below meth c A ls hx hb hr hts hown hlocks hin hml hAe hsz hA hD H hHe hP hK hZ hE hS hl hno Q hQ
  have hl : lv_has ls 4 [(0, .ref m0), (1, .int (iI p0))] := hl
  refine lv_aload_n hx hb dX9_goOn_0 rfl (lv_at hl 0 rfl) ?_
  refine lv_iload_n hx hb dX9_goOn_1 rfl (lv_at hl 1 rfl) ?_
  refine m_run (wc := [(m0, .inr (11, [.ref g, .ref h, .ref ht, .ref pq, .int (iI 0), .int (iI 10), .int (iI 1), .int (iI 0), .int (iI 0)])), (h, .inr (10, [.ref g, .ref cl, .ref rl, .ref lg, .int (iI 0)]))]) (wc' := [(m0, .inr (11, [.ref g, .ref h, .ref ht, .ref pq, .int (iI 0), .int (iI 10), .int (iI 1), .int (iI 0), .int (iI 0)])), (h, .inr (10, [.ref g, .ref cl, .ref rl, .ref lg, .int (iI 0)]))]) (wr := [(cl, .inr (2, [.int (iI 0), .ref eZ.1, .int (iI 0)])), (rl, .inr (2, [.int (iI 0), .ref eZ.1, .int (iI 0)])), (lg, .inr (4, [.ref qe, .int (iI 0), .int (iI 0)]))]) (ws' := [(m0, .inr (11, [.ref g, .ref h, .ref ht, .ref pq, .int (iI 0), .int (iI 10), .int (iI 1), .int (iI 0), .int (iI 0)])), (h, .inr (10, [.ref g, .ref cl, .ref rl, .ref lg, .int (iI 0)])), (cl, .inr (2, [.int (iI 0), .ref eZ.1, .int (iI 0)])), (rl, .inr (2, [.int (iI 0), .ref eZ.1, .int (iI 0)])), (lg, .inr (4, [.ref qe, .int (iI 0), .int (iI 0)]))]) (va_runV (As := [.int (iI p0)]) (rest := []) ⟨hx, hb, hml, hown, hts⟩ (c_canGoOn_0 l dC dI cI cO cJ m0 g h ht pq cl rl lg p0 eZ H.size (by first | assumption | omega) (by first | assumption | omega)) (cwV 1 hts (gV wg_189 wg_190 wg_191 wg_22 wg_185) rfl rfl rfl (by decide +kernel) ⟨Nat.le_of_ble_eq_true rfl, Nat.le_of_ble_eq_true rfl⟩) (m_preVZ hE hS hA hZ hK hP hD [0, 1] rfl (by decide) (va_recv hK hP (ci := 11) (q0 := 0) rfl rfl)) rfl rfl hl.1 rfl (lv_room (Nat.le_of_ble_eq_true rfl)) dX9_goOn_2 ⟨Nat.le_of_ble_eq_true rfl, Nat.le_of_ble_eq_true rfl⟩) hP hD hS hA [0, 1] [2, 3, 4] [3, 4, 0, 1, 2] rfl rfl (by decide) (by decide) rfl (by decide) (fun H locs hP hD hS => ?_)
  refine m_callT (E := "java/lang/IllegalArgumentException") (wc := []) (wr := [(m0, .inr (11, [.ref g, .ref h, .ref ht, .ref pq, .int (iI 0), .int (iI 10), .int (iI 1), .int (iI 0), .int (iI 0)])), (h, .inr (10, [.ref g, .ref cl, .ref rl, .ref lg, .int (iI 0)])), (cl, .inr (2, [.int (iI 0), .ref eZ.1, .int (iI 0)])), (rl, .inr (2, [.int (iI 0), .ref eZ.1, .int (iI 0)])), (lg, .inr (4, [.ref qe, .int (iI 0), .int (iI 0)]))]) (vx_runS (As := [.int (iI 0)]) (rest := []) ⟨hx, hb, hml, hown, hts⟩ (x_needArgument l dC dI cI cO cJ eZ H.size hlT ) (va_cwS 1 hts (gS wg_51 wg_52 wg_22 wg_1) rfl rfl rfl (by decide +kernel) ⟨Nat.le_of_ble_eq_true rfl, Nat.le_of_ble_eq_true rfl⟩) (m_preSZ hE hS hA hZ hK hP hD [] rfl (by decide)) rfl rfl hl.1 rfl (lv_room (Nat.le_of_ble_eq_true rfl)) dX9_goOn_5 ⟨Nat.le_of_ble_eq_true rfl, Nat.le_of_ble_eq_true rfl⟩) hP hD hS hA [] [0, 1, 2, 3, 4] rfl rfl (by decide) (by decide) (fun ce_3 q_2 H locs hP hD hS hc_1 hcvhc_1 hclhc_1 => ?_)
  rw [hQ]
  exact vx_out (fun x h => (hno x h).elim) hlocks hc_1 hcvhc_1 hclhc_1 (fun t ht hW => ⟨(), trivial, rfl, by subst hsz; subst hAe; exact hS.F ht⟩) (by subst hAe; exact hS.2.2) (by omega) (by omega)

set_option maxRecDepth 100000 in
set_option maxHeartbeats 4000000 in
theorem c_goOn (l : Launch) (dC : Nat → ClassId) (dI : Nat → Nat → Nat) (cI cO cJ : ClassId) (m0 : Nat) (g : Nat) (h : Nat) (ht : Nat) (pq : Nat) (cl : Nat) (rl : Nat) (lg : Nat) (qe : Nat) (p0 : Int) (eZ : Nat × Nat) (sz : Nat) (hr_p0 : rI p0) (hgood : 1 ≤ p0 ∧ p0 ≤ 100) : Met l yX9_goOn (gw (.code yX9_goOn cX9_goOn 4 (some .int))) ({ frames := 2, cells := 0, slots := 0, locals := 44 }) (mPcZ (dC, dI) [(cI, .int), (cO, .object "java/lang/Object"), (cJ, .long)] eZ [.ref m0, .int (iI p0)] sz [(m0, .inr (11, [.ref g, .ref h, .ref ht, .ref pq, .int (iI 0), .int (iI 10), .int (iI 1), .int (iI 0), .int (iI 0)])), (h, .inr (10, [.ref g, .ref cl, .ref rl, .ref lg, .int (iI 0)])), (cl, .inr (2, [.int (iI 0), .ref eZ.1, .int (iI 0)])), (rl, .inr (2, [.int (iI 0), .ref eZ.1, .int (iI 0)])), (lg, .inr (4, [.ref qe, .int (iI 0), .int (iI 0)]))]) (mQi (dC, dI) [(m0, .inr (11, [.ref g, .ref h, .ref ht, .ref pq, .int (iI 0), .int (iI 10), .int (iI 1), .int (iI 0), .int (iI 0)])), (h, .inr (10, [.ref g, .ref cl, .ref rl, .ref lg, .int (iI 0)])), (cl, .inr (2, [.int (iI 0), .ref eZ.1, .int (iI 0)])), (rl, .inr (2, [.int (iI 0), .ref eZ.1, .int (iI 0)])), (lg, .inr (4, [.ref qe, .int (iI 0), .int (iI 0)]))] [] sz (0 - 0)) 0 0 (va_A [(m0, .inr (11, [.ref g, .ref h, .ref ht, .ref pq, .int (iI 0), .int (iI 10), .int (iI 1), .int (iI 0), .int (iI 0)])), (h, .inr (10, [.ref g, .ref cl, .ref rl, .ref lg, .int (iI 0)])), (cl, .inr (2, [.int (iI 0), .ref eZ.1, .int (iI 0)])), (rl, .inr (2, [.int (iI 0), .ref eZ.1, .int (iI 0)])), (lg, .inr (4, [.ref qe, .int (iI 0), .int (iI 0)]))] sz) := by
  refine mMetZ (cc := cX9_goOn) (maxL := 4) (ret := (some .int)) (by decide) rfl (Nat.le_of_ble_eq_true rfl) ?_
  intro p e s m args below meth c A ls hx hb hr hts hown hlocks hin hml hAe hsz hA hD H hHe hP hK hZ hE hS hl Q hQ
  have hl : lv_has ls 4 [(0, .ref m0), (1, .int (iI p0))] := hl
  have hf21 := hts (.fieldLink RX9 21 "MeridianSeries" "store" "LMeridianSeries$Store;") (gm wg_10)
  have hf129 := hts (.fieldLink RX9 129 "MeridianSeries$Store" "log" "LMeridianSeries$EventLog;") (gm wg_48)
  have hf133 := hts (.fieldLink RX9 133 "MeridianSeries$EventLog" "total" "I") (gm wg_49)
  refine lv_aload_n hx hb dX9_goOn_0 rfl (lv_at hl 0 rfl) ?_
  refine lv_iload_n hx hb dX9_goOn_1 rfl (lv_at hl 1 rfl) ?_
  refine m_run (wc := [(m0, .inr (11, [.ref g, .ref h, .ref ht, .ref pq, .int (iI 0), .int (iI 10), .int (iI 1), .int (iI 0), .int (iI 0)])), (h, .inr (10, [.ref g, .ref cl, .ref rl, .ref lg, .int (iI 0)]))]) (wc' := [(m0, .inr (11, [.ref g, .ref h, .ref ht, .ref pq, .int (iI 0), .int (iI 10), .int (iI 1), .int (iI 0), .int (iI 0)])), (h, .inr (10, [.ref g, .ref cl, .ref rl, .ref lg, .int (iI 0)]))]) (wr := [(cl, .inr (2, [.int (iI 0), .ref eZ.1, .int (iI 0)])), (rl, .inr (2, [.int (iI 0), .ref eZ.1, .int (iI 0)])), (lg, .inr (4, [.ref qe, .int (iI 0), .int (iI 0)]))]) (ws' := [(m0, .inr (11, [.ref g, .ref h, .ref ht, .ref pq, .int (iI 0), .int (iI 10), .int (iI 1), .int (iI 0), .int (iI 0)])), (h, .inr (10, [.ref g, .ref cl, .ref rl, .ref lg, .int (iI 0)])), (cl, .inr (2, [.int (iI 0), .ref eZ.1, .int (iI 0)])), (rl, .inr (2, [.int (iI 0), .ref eZ.1, .int (iI 0)])), (lg, .inr (4, [.ref qe, .int (iI 0), .int (iI 0)]))]) (va_runV (As := [.int (iI p0)]) (rest := []) ⟨hx, hb, hml, hown, hts⟩ (c_canGoOn_1 l dC dI cI cO cJ m0 g h ht pq cl rl lg p0 eZ H.size (by first | assumption | omega) (by first | assumption | omega)) (cwV 1 hts (gV wg_189 wg_190 wg_191 wg_22 wg_185) rfl rfl rfl (by decide +kernel) ⟨Nat.le_of_ble_eq_true rfl, Nat.le_of_ble_eq_true rfl⟩) (m_preVZ hE hS hA hZ hK hP hD [0, 1] rfl (by decide) (va_recv hK hP (ci := 11) (q0 := 0) rfl rfl)) rfl rfl hl.1 rfl (lv_room (Nat.le_of_ble_eq_true rfl)) dX9_goOn_2 ⟨Nat.le_of_ble_eq_true rfl, Nat.le_of_ble_eq_true rfl⟩) hP hD hS hA [0, 1] [2, 3, 4] [3, 4, 0, 1, 2] rfl rfl (by decide) (by decide) rfl (by decide) (fun H locs hP hD hS => ?_)
  refine m_runv (wc := []) (wc' := []) (wr := [(m0, .inr (11, [.ref g, .ref h, .ref ht, .ref pq, .int (iI 0), .int (iI 10), .int (iI 1), .int (iI 0), .int (iI 0)])), (h, .inr (10, [.ref g, .ref cl, .ref rl, .ref lg, .int (iI 0)])), (cl, .inr (2, [.int (iI 0), .ref eZ.1, .int (iI 0)])), (rl, .inr (2, [.int (iI 0), .ref eZ.1, .int (iI 0)])), (lg, .inr (4, [.ref qe, .int (iI 0), .int (iI 0)]))]) (ws' := [(m0, .inr (11, [.ref g, .ref h, .ref ht, .ref pq, .int (iI 0), .int (iI 10), .int (iI 1), .int (iI 0), .int (iI 0)])), (h, .inr (10, [.ref g, .ref cl, .ref rl, .ref lg, .int (iI 0)])), (cl, .inr (2, [.int (iI 0), .ref eZ.1, .int (iI 0)])), (rl, .inr (2, [.int (iI 0), .ref eZ.1, .int (iI 0)])), (lg, .inr (4, [.ref qe, .int (iI 0), .int (iI 0)]))]) (va_runS (As := [.int (iI 1)]) (rest := []) ⟨hx, hb, hml, hown, hts⟩ (c_X9_needArgument l dC dI cI cO cJ eZ H.size ) (va_cwS 1 hts (gS wg_51 wg_52 wg_22 wg_1) rfl rfl rfl (by decide +kernel) ⟨Nat.le_of_ble_eq_true rfl, Nat.le_of_ble_eq_true rfl⟩) (m_preSZ hE hS hA hZ hK hP hD [] rfl (by decide)) rfl rfl hl.1 rfl (lv_room (Nat.le_of_ble_eq_true rfl)) dX9_goOn_5 ⟨Nat.le_of_ble_eq_true rfl, Nat.le_of_ble_eq_true rfl⟩) hP hD hS hA [] [0, 1, 2, 3, 4] [0, 1, 2, 3, 4] rfl rfl (by decide) (by decide) rfl (by decide) (fun H locs hP hD hS => ?_)
  refine lv_aload_n hx hb dX9_goOn_8 rfl (lv_at hl 0 rfl) ?_
  refine va_get (ci := 11) (v := .ref h) (C := RX9) (T := TX9) (N := 9) hx hb hts (gh hg_X9) hown hK hP 0 rfl rfl 1 (by decide) hf21 (fun _ h9 => h9) rfl dX9_goOn_9 ?_
  refine va_get (ci := 10) (v := .ref lg) (C := RX8) (T := TX8) (N := 5) hx hb hts (gh hg_X8) hown hK hP 1 rfl rfl 3 (by decide) hf129 (fun _ h9 => h9) rfl dX9_goOn_12 ?_
  refine va_get (ci := 4) (v := .int (iI 0)) (C := RX1) (T := TX1) (N := 3) hx hb hts (gh hg_X1) hown hK hP 4 rfl rfl 1 (by decide) hf133 (fun _ h9 => h9) rfl dX9_goOn_15 ?_
  refine lv_istore_n (lv' := [(2, .int (iI 0)), (0, .ref m0), (1, .int (iI p0))]) hx hb dX9_goOn_18 rfl hl (by decide) rfl (fun ls hl => ?_)
  refine mi_iconst hx hb dX9_goOn_19 ?_
  refine lv_istore_n (lv' := [(3, .int (iI 0)), (2, .int (iI 0)), (0, .ref m0), (1, .int (iI p0))]) hx hb dX9_goOn_20 rfl hl (by decide) rfl (fun ls hl => ?_)
  have lp21 : ∀ (k : Nat) (i : Int), (p0 - i).toNat < k → 0 ≤ i ∧ i ≤ p0 → ∀ (H : Heap) (locs : List Loc) (ls : Array Slot), va_P (dC, dI) vwCl [(m0, .inr (11, [.ref g, .ref h, .ref ht, .ref pq, .int (iI 0), .int (iI 10), .int (iI 1), .int (iI 0), .int (iI 0)])), (h, .inr (10, [.ref g, .ref cl, .ref rl, .ref lg, .int (iI i)])), (cl, .inr (2, [.int (iI 0), .ref eZ.1, .int (iI 0)])), (rl, .inr (2, [.int (iI 0), .ref eZ.1, .int (iI 0)])), (lg, .inr (4, [.ref qe, .int (iI 0), .int (iI 0)]))] H → va_D A [(m0, .inr (11, [.ref g, .ref h, .ref ht, .ref pq, .int (iI 0), .int (iI 10), .int (iI 1), .int (iI 0), .int (iI 0)])), (h, .inr (10, [.ref g, .ref cl, .ref rl, .ref lg, .int (iI i)])), (cl, .inr (2, [.int (iI 0), .ref eZ.1, .int (iI 0)])), (rl, .inr (2, [.int (iI 0), .ref eZ.1, .int (iI 0)])), (lg, .inr (4, [.ref qe, .int (iI 0), .int (iI 0)]))] → va_S A s.heap H locs → lv_has ls 4 [(0, .ref m0), (1, .int (iI p0)), (2, .int (iI 0)), (3, .int (iI i))] → W p l e { frames := 2, cells := 0, slots := 0, locals := 44 } s m args below meth c H locs 0 0 Q (F0 m 21 ls []) := by
    intro k
    induction k with
    | zero => intro i hm; exact absurd hm (Nat.not_lt_zero _)
    | succ k ih21 =>
      intro i hm hi H locs ls hP hD hS hl
      refine lv_iload_n hx hb dX9_goOn_21 rfl (lv_at hl 3 rfl) ?_
      refine lv_iload_n hx hb dX9_goOn_22 rfl (lv_at hl 1 rfl) ?_
      refine mi_icmp_ge (tgt := 39) hx hb (by omega) (by omega) dX9_goOn_23 (by decide) (fun c_1 => ?_) (fun c_1 => ?_)
      · refine lv_aload_n hx hb dX9_goOn_39 rfl (lv_at hl 0 rfl) ?_
        refine va_get (ci := 11) (v := .ref h) (C := RX9) (T := TX9) (N := 9) hx hb hts (gh hg_X9) hown hK hP 0 rfl rfl 1 (by decide) hf21 (fun _ h9 => h9) rfl dX9_goOn_40 ?_
        refine va_get (ci := 10) (v := .ref lg) (C := RX8) (T := TX8) (N := 5) hx hb hts (gh hg_X8) hown hK hP 1 rfl rfl 3 (by decide) hf129 (fun _ h9 => h9) rfl dX9_goOn_43 ?_
        refine va_get (ci := 4) (v := .int (iI 0)) (C := RX1) (T := TX1) (N := 3) hx hb hts (gh hg_X1) hown hK hP 4 rfl rfl 1 (by decide) hf133 (fun _ h9 => h9) rfl dX9_goOn_46 ?_
        refine lv_iload_n hx hb dX9_goOn_49 rfl (lv_at hl 2 rfl) ?_
        refine mi_isub hx hb dX9_goOn_50 ?_
        have hP : va_P (dC, dI) vwCl [] H := hP.sub [] rfl
        have hD : va_D A [] := hD.sub [] (by decide) rfl
        exact mi_iret hx hb hQ hr hlocks hAe hsz hP hD hS (by first | rfl | omega | (split <;> omega)) rfl dX9_goOn_51
      · refine lv_aload_n hx hb dX9_goOn_26 rfl (lv_at hl 0 rfl) ?_
        refine va_get (ci := 11) (v := .ref h) (C := RX9) (T := TX9) (N := 9) hx hb hts (gh hg_X9) hown hK hP 0 rfl rfl 1 (by decide) hf21 (fun _ h9 => h9) rfl dX9_goOn_27 ?_
        refine m_runv (wc := [(h, .inr (10, [.ref g, .ref cl, .ref rl, .ref lg, .int (iI i)])), (cl, .inr (2, [.int (iI 0), .ref eZ.1, .int (iI 0)])), (rl, .inr (2, [.int (iI 0), .ref eZ.1, .int (iI 0)]))]) (wc' := [(h, .inr (10, [.ref g, .ref cl, .ref rl, .ref lg, .int (iI (i + 1))])), (cl, .inr (2, [.int (iI 0), .ref eZ.1, .int (iI 0)])), (rl, .inr (2, [.int (iI 0), .ref eZ.1, .int (iI 0)]))]) (wr := [(m0, .inr (11, [.ref g, .ref h, .ref ht, .ref pq, .int (iI 0), .int (iI 10), .int (iI 1), .int (iI 0), .int (iI 0)])), (lg, .inr (4, [.ref qe, .int (iI 0), .int (iI 0)]))]) (ws' := [(m0, .inr (11, [.ref g, .ref h, .ref ht, .ref pq, .int (iI 0), .int (iI 10), .int (iI 1), .int (iI 0), .int (iI 0)])), (h, .inr (10, [.ref g, .ref cl, .ref rl, .ref lg, .int (iI (i + 1))])), (cl, .inr (2, [.int (iI 0), .ref eZ.1, .int (iI 0)])), (rl, .inr (2, [.int (iI 0), .ref eZ.1, .int (iI 0)])), (lg, .inr (4, [.ref qe, .int (iI 0), .int (iI 0)]))]) (va_runV (As := []) (rest := []) ⟨hx, hb, hml, hown, hts⟩ (c_X8_goOnByOne l dC dI cI cO cJ h g cl rl lg i eZ H.size (by first | assumption | omega)) (cwV 0 hts (gV wg_193 wg_194 wg_195 wg_72 wg_188) rfl rfl rfl (by decide +kernel) ⟨Nat.le_of_ble_eq_true rfl, Nat.le_of_ble_eq_true rfl⟩) (m_preVZ hE hS hA hZ hK hP hD [1, 2, 3] rfl (by decide) (va_recv hK hP (ci := 10) (q0 := 1) rfl rfl)) rfl rfl hl.1 rfl (lv_room (Nat.le_of_ble_eq_true rfl)) dX9_goOn_30 ⟨Nat.le_of_ble_eq_true rfl, Nat.le_of_ble_eq_true rfl⟩) hP hD hS hA [1, 2, 3] [0, 4] [0, 2, 3, 4, 1] rfl rfl (by decide) (by decide) rfl (by decide) (fun H locs hP hD hS => ?_)
        refine mi_iinc (b := i + 1) (lv' := [(3, .int (iI (i + 1))), (0, .ref m0), (1, .int (iI p0)), (2, .int (iI 0))]) hx hb dX9_goOn_33 hl (k := 3) rfl (by decide) (by omega) rfl (fun ls hl => ?_)
        refine lv_goto (tgt := 21) hx hb dX9_goOn_36 (by decide) ?_
        exact ih21 (i + 1) (by omega) (by first | assumption | omega) _ _ _ hP hD hS (lv_sub hl [1, 2, 3, 0] rfl)
  exact lp21 _ 0 (Nat.lt_succ_self _) (by first | assumption | omega) _ _ _ hP hD hS (lv_sub hl [2, 3, 1, 0] rfl)

set_option maxRecDepth 100000 in
set_option maxHeartbeats 4000000 in
theorem c_X8_copyFrom (l : Launch) (dC : Nat → ClassId) (dI : Nat → Nat → Nat) (cI cO cJ : ClassId) (h : Nat) (ht : Nat) (g : Nat) (cl : Nat) (rl : Nat) (lg : Nat) (clt : Nat) (rlt : Nat) (lgt : Nat) (eZ : Nat × Nat) (sz : Nat) : Met l yX8_copyFrom (gw (.code yX8_copyFrom cX8_copyFrom 3 none)) ({ frames := 1, cells := 0, slots := 0, locals := 20 }) (mPcZ (dC, dI) [(cI, .int), (cO, .object "java/lang/Object"), (cJ, .long)] eZ [.ref ht, .ref h] sz [(ht, .inr (10, [.ref g, .ref clt, .ref rlt, .ref lgt, .int (iI 0)])), (clt, .inr (2, [.int (iI 0), .ref eZ.1, .int (iI 0)])), (rlt, .inr (2, [.int (iI 0), .ref eZ.1, .int (iI 0)])), (h, .inr (10, [.ref g, .ref cl, .ref rl, .ref lg, .int (iI 0)])), (cl, .inr (2, [.int (iI 0), .ref eZ.1, .int (iI 0)])), (rl, .inr (2, [.int (iI 0), .ref eZ.1, .int (iI 0)]))]) (mQv (dC, dI) [(ht, .inr (10, [.ref g, .ref clt, .ref rlt, .ref lgt, .int (iI 0)])), (clt, .inr (2, [.int (iI 0), .ref eZ.1, .int (iI 0)])), (rlt, .inr (2, [.int (iI 0), .ref eZ.1, .int (iI 0)])), (h, .inr (10, [.ref g, .ref cl, .ref rl, .ref lg, .int (iI 0)])), (cl, .inr (2, [.int (iI 0), .ref eZ.1, .int (iI 0)])), (rl, .inr (2, [.int (iI 0), .ref eZ.1, .int (iI 0)]))] [(ht, .inr (10, [.ref g, .ref clt, .ref rlt, .ref lgt, .int (iI 0)])), (clt, .inr (2, [.int (iI 0), .ref eZ.1, .int (iI 0)])), (rlt, .inr (2, [.int (iI 0), .ref eZ.1, .int (iI 0)])), (h, .inr (10, [.ref g, .ref cl, .ref rl, .ref lg, .int (iI 0)])), (cl, .inr (2, [.int (iI 0), .ref eZ.1, .int (iI 0)])), (rl, .inr (2, [.int (iI 0), .ref eZ.1, .int (iI 0)]))] sz) 0 0 (va_A [(ht, .inr (10, [.ref g, .ref clt, .ref rlt, .ref lgt, .int (iI 0)])), (clt, .inr (2, [.int (iI 0), .ref eZ.1, .int (iI 0)])), (rlt, .inr (2, [.int (iI 0), .ref eZ.1, .int (iI 0)])), (h, .inr (10, [.ref g, .ref cl, .ref rl, .ref lg, .int (iI 0)])), (cl, .inr (2, [.int (iI 0), .ref eZ.1, .int (iI 0)])), (rl, .inr (2, [.int (iI 0), .ref eZ.1, .int (iI 0)]))] sz) := by
  refine mMetZ (cc := cX8_copyFrom) (maxL := 3) (ret := none) (by decide) rfl (Nat.le_of_ble_eq_true rfl) ?_
  intro p e s m args below meth c A ls hx hb hr hts hown hlocks hin hml hAe hsz hA hD H hHe hP hK hZ hE hS hl Q hQ
  have hl : lv_has ls 3 [(0, .ref ht), (1, .ref h)] := hl
  have hf26 := hts (.fieldLink RX8 26 "MeridianSeries$Store" "now" "I") (gm wg_186)
  have hf10 := hts (.fieldLink RX8 10 "MeridianSeries$Store" "chains" "Ljava/util/ArrayList;") (gm wg_65)
  have hf16 := hts (.fieldLink RX8 16 "MeridianSeries$Store" "rules" "Ljava/util/ArrayList;") (gm wg_187)
  refine lv_aload_n hx hb dX8_copyFrom_0 rfl (lv_at hl 0 rfl) ?_
  refine lv_aload_n hx hb dX8_copyFrom_1 rfl (lv_at hl 1 rfl) ?_
  refine va_get (ci := 10) (v := .int (iI 0)) (C := RX8) (T := TX8) (N := 5) hx hb hts (gh hg_X8) hown hK hP 3 rfl rfl 4 (by decide) hf26 (fun _ h9 => h9) rfl dX8_copyFrom_2 ?_
  refine va_put (D := (dC, dI)) (ci := 10) (v := .int (iI 0)) (ty := .int) (C := RX8) (T := TX8) (N := 5) hx hb hts (gh hg_X8) tyX8 tyX8_ok nmX8 hown hK hP hD hS 0 rfl rfl 4 (by decide) hf26 (fun _ h9 => h9) rfl (by decide +kernel) rfl rfl (Nat.le_of_ble_eq_true rfl) dX8_copyFrom_5 (fun H locs hP hD hS => ?_)
  have hP : va_P (dC, dI) vwCl [(ht, .inr (10, [.ref g, .ref clt, .ref rlt, .ref lgt, .int (iI 0)])), (clt, .inr (2, [.int (iI 0), .ref eZ.1, .int (iI 0)])), (rlt, .inr (2, [.int (iI 0), .ref eZ.1, .int (iI 0)])), (h, .inr (10, [.ref g, .ref cl, .ref rl, .ref lg, .int (iI 0)])), (cl, .inr (2, [.int (iI 0), .ref eZ.1, .int (iI 0)])), (rl, .inr (2, [.int (iI 0), .ref eZ.1, .int (iI 0)]))] H := hP
  have hD : va_D A [(ht, .inr (10, [.ref g, .ref clt, .ref rlt, .ref lgt, .int (iI 0)])), (clt, .inr (2, [.int (iI 0), .ref eZ.1, .int (iI 0)])), (rlt, .inr (2, [.int (iI 0), .ref eZ.1, .int (iI 0)])), (h, .inr (10, [.ref g, .ref cl, .ref rl, .ref lg, .int (iI 0)])), (cl, .inr (2, [.int (iI 0), .ref eZ.1, .int (iI 0)])), (rl, .inr (2, [.int (iI 0), .ref eZ.1, .int (iI 0)]))] := hD
  refine mi_iconst hx hb dX8_copyFrom_8 ?_
  refine lv_istore_n (lv' := [(2, .int (iI 0)), (0, .ref ht), (1, .ref h)]) hx hb dX8_copyFrom_9 rfl hl (by decide) rfl (fun ls hl => ?_)
  refine lv_iload_n hx hb dX8_copyFrom_10 rfl (lv_at hl 0 rfl) ?_
  refine lv_aload_n hx hb dX8_copyFrom_11 rfl (lv_at hl 1 rfl) ?_
  refine va_get (ci := 10) (v := .ref clt) (C := RX8) (T := TX8) (N := 5) hx hb hts (gh hg_X8) hown hK hP 0 rfl rfl 1 (by decide) hf10 (fun _ h9 => h9) rfl dX8_copyFrom_12 ?_
  refine m_run (wc := [(clt, .inr (2, [.int (iI 0), .ref eZ.1, .int (iI 0)]))]) (wc' := [(clt, .inr (2, [.int (iI 0), .ref eZ.1, .int (iI 0)]))]) (wr := [(ht, .inr (10, [.ref g, .ref clt, .ref rlt, .ref lgt, .int (iI 0)])), (rlt, .inr (2, [.int (iI 0), .ref eZ.1, .int (iI 0)])), (h, .inr (10, [.ref g, .ref cl, .ref rl, .ref lg, .int (iI 0)])), (cl, .inr (2, [.int (iI 0), .ref eZ.1, .int (iI 0)])), (rl, .inr (2, [.int (iI 0), .ref eZ.1, .int (iI 0)]))]) (ws' := [(ht, .inr (10, [.ref g, .ref clt, .ref rlt, .ref lgt, .int (iI 0)])), (clt, .inr (2, [.int (iI 0), .ref eZ.1, .int (iI 0)])), (rlt, .inr (2, [.int (iI 0), .ref eZ.1, .int (iI 0)])), (h, .inr (10, [.ref g, .ref cl, .ref rl, .ref lg, .int (iI 0)])), (cl, .inr (2, [.int (iI 0), .ref eZ.1, .int (iI 0)])), (rl, .inr (2, [.int (iI 0), .ref eZ.1, .int (iI 0)]))]) (va_runV (As := []) (rest := [.int (iI 0)]) ⟨hx, hb, hml, hown, hts⟩ (c_Jx4a65c_size_8abf5 l dC dI cI cO cJ clt eZ.1 0 0 eZ H.size ) (cwV 0 hts (gV wg_66 wg_13 wg_14 wg_15 wg_9) rfl rfl rfl (by decide +kernel) ⟨Nat.le_of_ble_eq_true rfl, Nat.le_of_ble_eq_true rfl⟩) (m_preVZ hE hS hA hZ hK hP hD [1] rfl (by decide) (va_recv hK hP (ci := 2) (q0 := 1) rfl rfl)) rfl rfl hl.1 rfl (lv_room (Nat.le_of_ble_eq_true rfl)) dX8_copyFrom_15 ⟨Nat.le_of_ble_eq_true rfl, Nat.le_of_ble_eq_true rfl⟩) hP hD hS hA [1] [0, 2, 3, 4, 5] [0, 5, 1, 2, 3, 4] rfl rfl (by decide) (by decide) rfl (by decide) (fun H locs hP hD hS => ?_)
  refine mi_icmp_ge (tgt := 63) hx hb (by decide) (by decide) dX8_copyFrom_18 (by decide) (fun c_1 => ?_) (fun c_1 => ?_)
  · refine mi_iconst hx hb dX8_copyFrom_63 ?_
    refine lv_istore_n (lv' := [(2, .int (iI 0)), (0, .ref ht), (1, .ref h)]) hx hb dX8_copyFrom_64 rfl hl (by decide) rfl (fun ls hl => ?_)
    refine lv_iload_n hx hb dX8_copyFrom_65 rfl (lv_at hl 0 rfl) ?_
    refine lv_aload_n hx hb dX8_copyFrom_66 rfl (lv_at hl 1 rfl) ?_
    refine va_get (ci := 10) (v := .ref rlt) (C := RX8) (T := TX8) (N := 5) hx hb hts (gh hg_X8) hown hK hP 0 rfl rfl 2 (by decide) hf16 (fun _ h9 => h9) rfl dX8_copyFrom_67 ?_
    refine m_run (wc := [(rlt, .inr (2, [.int (iI 0), .ref eZ.1, .int (iI 0)]))]) (wc' := [(rlt, .inr (2, [.int (iI 0), .ref eZ.1, .int (iI 0)]))]) (wr := [(ht, .inr (10, [.ref g, .ref clt, .ref rlt, .ref lgt, .int (iI 0)])), (clt, .inr (2, [.int (iI 0), .ref eZ.1, .int (iI 0)])), (h, .inr (10, [.ref g, .ref cl, .ref rl, .ref lg, .int (iI 0)])), (cl, .inr (2, [.int (iI 0), .ref eZ.1, .int (iI 0)])), (rl, .inr (2, [.int (iI 0), .ref eZ.1, .int (iI 0)]))]) (ws' := [(ht, .inr (10, [.ref g, .ref clt, .ref rlt, .ref lgt, .int (iI 0)])), (clt, .inr (2, [.int (iI 0), .ref eZ.1, .int (iI 0)])), (rlt, .inr (2, [.int (iI 0), .ref eZ.1, .int (iI 0)])), (h, .inr (10, [.ref g, .ref cl, .ref rl, .ref lg, .int (iI 0)])), (cl, .inr (2, [.int (iI 0), .ref eZ.1, .int (iI 0)])), (rl, .inr (2, [.int (iI 0), .ref eZ.1, .int (iI 0)]))]) (va_runV (As := []) (rest := [.int (iI 0)]) ⟨hx, hb, hml, hown, hts⟩ (c_Jx4a65c_size_8abf5 l dC dI cI cO cJ rlt eZ.1 0 0 eZ H.size ) (cwV 0 hts (gV wg_66 wg_13 wg_14 wg_15 wg_9) rfl rfl rfl (by decide +kernel) ⟨Nat.le_of_ble_eq_true rfl, Nat.le_of_ble_eq_true rfl⟩) (m_preVZ hE hS hA hZ hK hP hD [2] rfl (by decide) (va_recv hK hP (ci := 2) (q0 := 2) rfl rfl)) rfl rfl hl.1 rfl (lv_room (Nat.le_of_ble_eq_true rfl)) dX8_copyFrom_70 ⟨Nat.le_of_ble_eq_true rfl, Nat.le_of_ble_eq_true rfl⟩) hP hD hS hA [2] [0, 1, 3, 4, 5] [0, 1, 5, 2, 3, 4] rfl rfl (by decide) (by decide) rfl (by decide) (fun H locs hP hD hS => ?_)
    refine mi_icmp_ge (tgt := 118) hx hb (by decide) (by decide) dX8_copyFrom_73 (by decide) (fun c_2 => ?_) (fun c_2 => ?_)
    · exact mi_vret hx hb hQ hr hlocks hAe hsz hP hD hS rfl dX8_copyFrom_118
    · exfalso; omega
  · exfalso; omega

set_option maxRecDepth 100000 in
set_option maxHeartbeats 4000000 in
theorem x_firesIn (l : Launch) (dC : Nat → ClassId) (dI : Nat → Nat → Nat) (cI cO cJ : ClassId) (m0 : Nat) (g : Nat) (h : Nat) (ht : Nat) (pq : Nat) (cl : Nat) (rl : Nat) (lg : Nat) (clt : Nat) (rlt : Nat) (lgt : Nat) (qet : Nat) (p0 : Int) (eZ : Nat × Nat) (sz : Nat) (hlT : l.stackTraces = false) (hr_p0 : rI p0) (hbad : ¬ (1 ≤ p0 ∧ p0 ≤ 100)) : vx_Met l yX9_firesIn (gw (.code yX9_firesIn cX9_firesIn 4 (some .int))) ({ frames := 7, cells := 1, slots := 6, locals := 120 }) (mPcZ (dC, dI) [(cI, .int), (cO, .object "java/lang/Object"), (cJ, .long)] eZ [.ref m0, .int (iI p0)] sz [(m0, .inr (11, [.ref g, .ref h, .ref ht, .ref pq, .int (iI 0), .int (iI 10), .int (iI 1), .int (iI 0), .int (iI 0)])), (h, .inr (10, [.ref g, .ref cl, .ref rl, .ref lg, .int (iI 0)])), (cl, .inr (2, [.int (iI 0), .ref eZ.1, .int (iI 0)])), (rl, .inr (2, [.int (iI 0), .ref eZ.1, .int (iI 0)])), (ht, .inr (10, [.ref g, .ref clt, .ref rlt, .ref lgt, .int (iI 0)])), (clt, .inr (2, [.int (iI 0), .ref eZ.1, .int (iI 0)])), (rlt, .inr (2, [.int (iI 0), .ref eZ.1, .int (iI 0)])), (lgt, .inr (4, [.ref qet, .int (iI 0), .int (iI 0)]))]) mNo (mXC "java/lang/IllegalArgumentException" [(m0, .inr (11, [.ref g, .ref h, .ref ht, .ref pq, .int (iI 0), .int (iI 10), .int (iI 1), .int (iI 0), .int (iI 0)])), (h, .inr (10, [.ref g, .ref cl, .ref rl, .ref lg, .int (iI 0)])), (cl, .inr (2, [.int (iI 0), .ref eZ.1, .int (iI 0)])), (rl, .inr (2, [.int (iI 0), .ref eZ.1, .int (iI 0)])), (ht, .inr (10, [.ref g, .ref clt, .ref rlt, .ref lgt, .int (iI 0)])), (clt, .inr (2, [.int (iI 0), .ref eZ.1, .int (iI 0)])), (rlt, .inr (2, [.int (iI 0), .ref eZ.1, .int (iI 0)])), (lgt, .inr (4, [.ref qet, .int (iI 0), .int (iI 0)]))] sz) 1 6 (va_A [(m0, .inr (11, [.ref g, .ref h, .ref ht, .ref pq, .int (iI 0), .int (iI 10), .int (iI 1), .int (iI 0), .int (iI 0)])), (h, .inr (10, [.ref g, .ref cl, .ref rl, .ref lg, .int (iI 0)])), (cl, .inr (2, [.int (iI 0), .ref eZ.1, .int (iI 0)])), (rl, .inr (2, [.int (iI 0), .ref eZ.1, .int (iI 0)])), (ht, .inr (10, [.ref g, .ref clt, .ref rlt, .ref lgt, .int (iI 0)])), (clt, .inr (2, [.int (iI 0), .ref eZ.1, .int (iI 0)])), (rlt, .inr (2, [.int (iI 0), .ref eZ.1, .int (iI 0)])), (lgt, .inr (4, [.ref qet, .int (iI 0), .int (iI 0)]))] sz) := by
  refine mMetX (cc := cX9_firesIn) (maxL := 4) (ret := (some .int)) (by decide) rfl (Nat.le_of_ble_eq_true rfl) ?_
  intro p e s m args below meth c A ls hx hb hr hts hown hlocks hin hml hAe hsz hA hD H hHe hP hK hZ hE hS hl hno Q hQ
  have hl : lv_has ls 4 [(0, .ref m0), (1, .int (iI p0))] := hl
  refine lv_aload_n hx hb dX9_firesIn_0 rfl (lv_at hl 0 rfl) ?_
  refine lv_iload_n hx hb dX9_firesIn_1 rfl (lv_at hl 1 rfl) ?_
  refine m_run (wc := [(m0, .inr (11, [.ref g, .ref h, .ref ht, .ref pq, .int (iI 0), .int (iI 10), .int (iI 1), .int (iI 0), .int (iI 0)])), (h, .inr (10, [.ref g, .ref cl, .ref rl, .ref lg, .int (iI 0)]))]) (wc' := [(m0, .inr (11, [.ref g, .ref h, .ref ht, .ref pq, .int (iI 0), .int (iI 10), .int (iI 1), .int (iI 0), .int (iI 0)])), (h, .inr (10, [.ref g, .ref cl, .ref rl, .ref lg, .int (iI 0)]))]) (wr := [(cl, .inr (2, [.int (iI 0), .ref eZ.1, .int (iI 0)])), (rl, .inr (2, [.int (iI 0), .ref eZ.1, .int (iI 0)])), (ht, .inr (10, [.ref g, .ref clt, .ref rlt, .ref lgt, .int (iI 0)])), (clt, .inr (2, [.int (iI 0), .ref eZ.1, .int (iI 0)])), (rlt, .inr (2, [.int (iI 0), .ref eZ.1, .int (iI 0)])), (lgt, .inr (4, [.ref qet, .int (iI 0), .int (iI 0)]))]) (ws' := [(m0, .inr (11, [.ref g, .ref h, .ref ht, .ref pq, .int (iI 0), .int (iI 10), .int (iI 1), .int (iI 0), .int (iI 0)])), (h, .inr (10, [.ref g, .ref cl, .ref rl, .ref lg, .int (iI 0)])), (cl, .inr (2, [.int (iI 0), .ref eZ.1, .int (iI 0)])), (rl, .inr (2, [.int (iI 0), .ref eZ.1, .int (iI 0)])), (ht, .inr (10, [.ref g, .ref clt, .ref rlt, .ref lgt, .int (iI 0)])), (clt, .inr (2, [.int (iI 0), .ref eZ.1, .int (iI 0)])), (rlt, .inr (2, [.int (iI 0), .ref eZ.1, .int (iI 0)])), (lgt, .inr (4, [.ref qet, .int (iI 0), .int (iI 0)]))]) (va_runV (As := [.int (iI p0)]) (rest := []) ⟨hx, hb, hml, hown, hts⟩ (c_canGoOn_0 l dC dI cI cO cJ m0 g h ht pq cl rl lg p0 eZ H.size (by first | assumption | omega) (by first | assumption | omega)) (cwV 1 hts (gV wg_189 wg_190 wg_191 wg_22 wg_185) rfl rfl rfl (by decide +kernel) ⟨Nat.le_of_ble_eq_true rfl, Nat.le_of_ble_eq_true rfl⟩) (m_preVZ hE hS hA hZ hK hP hD [0, 1] rfl (by decide) (va_recv hK hP (ci := 11) (q0 := 0) rfl rfl)) rfl rfl hl.1 rfl (lv_room (Nat.le_of_ble_eq_true rfl)) dX9_firesIn_2 ⟨Nat.le_of_ble_eq_true rfl, Nat.le_of_ble_eq_true rfl⟩) hP hD hS hA [0, 1] [2, 3, 4, 5, 6, 7] [6, 7, 0, 1, 2, 3, 4, 5] rfl rfl (by decide) (by decide) rfl (by decide) (fun H locs hP hD hS => ?_)
  refine m_callT (E := "java/lang/IllegalArgumentException") (wc := []) (wr := [(m0, .inr (11, [.ref g, .ref h, .ref ht, .ref pq, .int (iI 0), .int (iI 10), .int (iI 1), .int (iI 0), .int (iI 0)])), (h, .inr (10, [.ref g, .ref cl, .ref rl, .ref lg, .int (iI 0)])), (cl, .inr (2, [.int (iI 0), .ref eZ.1, .int (iI 0)])), (rl, .inr (2, [.int (iI 0), .ref eZ.1, .int (iI 0)])), (ht, .inr (10, [.ref g, .ref clt, .ref rlt, .ref lgt, .int (iI 0)])), (clt, .inr (2, [.int (iI 0), .ref eZ.1, .int (iI 0)])), (rlt, .inr (2, [.int (iI 0), .ref eZ.1, .int (iI 0)])), (lgt, .inr (4, [.ref qet, .int (iI 0), .int (iI 0)]))]) (vx_runS (As := [.int (iI 0)]) (rest := []) ⟨hx, hb, hml, hown, hts⟩ (x_needArgument l dC dI cI cO cJ eZ H.size hlT ) (va_cwS 1 hts (gS wg_51 wg_52 wg_22 wg_1) rfl rfl rfl (by decide +kernel) ⟨Nat.le_of_ble_eq_true rfl, Nat.le_of_ble_eq_true rfl⟩) (m_preSZ hE hS hA hZ hK hP hD [] rfl (by decide)) rfl rfl hl.1 rfl (lv_room (Nat.le_of_ble_eq_true rfl)) dX9_firesIn_5 ⟨Nat.le_of_ble_eq_true rfl, Nat.le_of_ble_eq_true rfl⟩) hP hD hS hA [] [0, 1, 2, 3, 4, 5, 6, 7] rfl rfl (by decide) (by decide) (fun ce_3 q_2 H locs hP hD hS hc_1 hcvhc_1 hclhc_1 => ?_)
  rw [hQ]
  exact vx_out (fun x h => (hno x h).elim) hlocks hc_1 hcvhc_1 hclhc_1 (fun t ht hW => ⟨(), trivial, rfl, by subst hsz; subst hAe; exact hS.F ht⟩) (by subst hAe; exact hS.2.2) (by omega) (by omega)

set_option maxRecDepth 100000 in
set_option maxHeartbeats 4000000 in
theorem c_firesIn (l : Launch) (dC : Nat → ClassId) (dI : Nat → Nat → Nat) (cI cO cJ : ClassId) (m0 : Nat) (g : Nat) (h : Nat) (ht : Nat) (pq : Nat) (cl : Nat) (rl : Nat) (lg : Nat) (clt : Nat) (rlt : Nat) (lgt : Nat) (qet : Nat) (p0 : Int) (eZ : Nat × Nat) (sz : Nat) (hr_p0 : rI p0) (hgood : 1 ≤ p0 ∧ p0 ≤ 100) : Met l yX9_firesIn (gw (.code yX9_firesIn cX9_firesIn 4 (some .int))) ({ frames := 2, cells := 0, slots := 0, locals := 44 }) (mPcZ (dC, dI) [(cI, .int), (cO, .object "java/lang/Object"), (cJ, .long)] eZ [.ref m0, .int (iI p0)] sz [(m0, .inr (11, [.ref g, .ref h, .ref ht, .ref pq, .int (iI 0), .int (iI 10), .int (iI 1), .int (iI 0), .int (iI 0)])), (h, .inr (10, [.ref g, .ref cl, .ref rl, .ref lg, .int (iI 0)])), (cl, .inr (2, [.int (iI 0), .ref eZ.1, .int (iI 0)])), (rl, .inr (2, [.int (iI 0), .ref eZ.1, .int (iI 0)])), (ht, .inr (10, [.ref g, .ref clt, .ref rlt, .ref lgt, .int (iI 0)])), (clt, .inr (2, [.int (iI 0), .ref eZ.1, .int (iI 0)])), (rlt, .inr (2, [.int (iI 0), .ref eZ.1, .int (iI 0)])), (lgt, .inr (4, [.ref qet, .int (iI 0), .int (iI 0)]))]) (mQi (dC, dI) [(m0, .inr (11, [.ref g, .ref h, .ref ht, .ref pq, .int (iI 0), .int (iI 10), .int (iI 1), .int (iI 0), .int (iI 0)])), (h, .inr (10, [.ref g, .ref cl, .ref rl, .ref lg, .int (iI 0)])), (cl, .inr (2, [.int (iI 0), .ref eZ.1, .int (iI 0)])), (rl, .inr (2, [.int (iI 0), .ref eZ.1, .int (iI 0)])), (ht, .inr (10, [.ref g, .ref clt, .ref rlt, .ref lgt, .int (iI 0)])), (clt, .inr (2, [.int (iI 0), .ref eZ.1, .int (iI 0)])), (rlt, .inr (2, [.int (iI 0), .ref eZ.1, .int (iI 0)])), (lgt, .inr (4, [.ref qet, .int (iI 0), .int (iI 0)]))] [] sz (-1)) 0 0 (va_A [(m0, .inr (11, [.ref g, .ref h, .ref ht, .ref pq, .int (iI 0), .int (iI 10), .int (iI 1), .int (iI 0), .int (iI 0)])), (h, .inr (10, [.ref g, .ref cl, .ref rl, .ref lg, .int (iI 0)])), (cl, .inr (2, [.int (iI 0), .ref eZ.1, .int (iI 0)])), (rl, .inr (2, [.int (iI 0), .ref eZ.1, .int (iI 0)])), (ht, .inr (10, [.ref g, .ref clt, .ref rlt, .ref lgt, .int (iI 0)])), (clt, .inr (2, [.int (iI 0), .ref eZ.1, .int (iI 0)])), (rlt, .inr (2, [.int (iI 0), .ref eZ.1, .int (iI 0)])), (lgt, .inr (4, [.ref qet, .int (iI 0), .int (iI 0)]))] sz) := by
  refine mMetZ (cc := cX9_firesIn) (maxL := 4) (ret := (some .int)) (by decide) rfl (Nat.le_of_ble_eq_true rfl) ?_
  intro p e s m args below meth c A ls hx hb hr hts hown hlocks hin hml hAe hsz hA hD H hHe hP hK hZ hE hS hl Q hQ
  have hl : lv_has ls 4 [(0, .ref m0), (1, .int (iI p0))] := hl
  have hf25 := hts (.fieldLink RX9 25 "MeridianSeries" "trial" "LMeridianSeries$Store;") (gm wg_198)
  have hf21 := hts (.fieldLink RX9 21 "MeridianSeries" "store" "LMeridianSeries$Store;") (gm wg_10)
  have hf129 := hts (.fieldLink RX9 129 "MeridianSeries$Store" "log" "LMeridianSeries$EventLog;") (gm wg_48)
  have hf249 := hts (.fieldLink RX9 249 "MeridianSeries$EventLog" "firings" "I") (gm wg_202)
  refine lv_aload_n hx hb dX9_firesIn_0 rfl (lv_at hl 0 rfl) ?_
  refine lv_iload_n hx hb dX9_firesIn_1 rfl (lv_at hl 1 rfl) ?_
  refine m_run (wc := [(m0, .inr (11, [.ref g, .ref h, .ref ht, .ref pq, .int (iI 0), .int (iI 10), .int (iI 1), .int (iI 0), .int (iI 0)])), (h, .inr (10, [.ref g, .ref cl, .ref rl, .ref lg, .int (iI 0)]))]) (wc' := [(m0, .inr (11, [.ref g, .ref h, .ref ht, .ref pq, .int (iI 0), .int (iI 10), .int (iI 1), .int (iI 0), .int (iI 0)])), (h, .inr (10, [.ref g, .ref cl, .ref rl, .ref lg, .int (iI 0)]))]) (wr := [(cl, .inr (2, [.int (iI 0), .ref eZ.1, .int (iI 0)])), (rl, .inr (2, [.int (iI 0), .ref eZ.1, .int (iI 0)])), (ht, .inr (10, [.ref g, .ref clt, .ref rlt, .ref lgt, .int (iI 0)])), (clt, .inr (2, [.int (iI 0), .ref eZ.1, .int (iI 0)])), (rlt, .inr (2, [.int (iI 0), .ref eZ.1, .int (iI 0)])), (lgt, .inr (4, [.ref qet, .int (iI 0), .int (iI 0)]))]) (ws' := [(m0, .inr (11, [.ref g, .ref h, .ref ht, .ref pq, .int (iI 0), .int (iI 10), .int (iI 1), .int (iI 0), .int (iI 0)])), (h, .inr (10, [.ref g, .ref cl, .ref rl, .ref lg, .int (iI 0)])), (cl, .inr (2, [.int (iI 0), .ref eZ.1, .int (iI 0)])), (rl, .inr (2, [.int (iI 0), .ref eZ.1, .int (iI 0)])), (ht, .inr (10, [.ref g, .ref clt, .ref rlt, .ref lgt, .int (iI 0)])), (clt, .inr (2, [.int (iI 0), .ref eZ.1, .int (iI 0)])), (rlt, .inr (2, [.int (iI 0), .ref eZ.1, .int (iI 0)])), (lgt, .inr (4, [.ref qet, .int (iI 0), .int (iI 0)]))]) (va_runV (As := [.int (iI p0)]) (rest := []) ⟨hx, hb, hml, hown, hts⟩ (c_canGoOn_1 l dC dI cI cO cJ m0 g h ht pq cl rl lg p0 eZ H.size (by first | assumption | omega) (by first | assumption | omega)) (cwV 1 hts (gV wg_189 wg_190 wg_191 wg_22 wg_185) rfl rfl rfl (by decide +kernel) ⟨Nat.le_of_ble_eq_true rfl, Nat.le_of_ble_eq_true rfl⟩) (m_preVZ hE hS hA hZ hK hP hD [0, 1] rfl (by decide) (va_recv hK hP (ci := 11) (q0 := 0) rfl rfl)) rfl rfl hl.1 rfl (lv_room (Nat.le_of_ble_eq_true rfl)) dX9_firesIn_2 ⟨Nat.le_of_ble_eq_true rfl, Nat.le_of_ble_eq_true rfl⟩) hP hD hS hA [0, 1] [2, 3, 4, 5, 6, 7] [6, 7, 0, 1, 2, 3, 4, 5] rfl rfl (by decide) (by decide) rfl (by decide) (fun H locs hP hD hS => ?_)
  refine m_runv (wc := []) (wc' := []) (wr := [(m0, .inr (11, [.ref g, .ref h, .ref ht, .ref pq, .int (iI 0), .int (iI 10), .int (iI 1), .int (iI 0), .int (iI 0)])), (h, .inr (10, [.ref g, .ref cl, .ref rl, .ref lg, .int (iI 0)])), (cl, .inr (2, [.int (iI 0), .ref eZ.1, .int (iI 0)])), (rl, .inr (2, [.int (iI 0), .ref eZ.1, .int (iI 0)])), (ht, .inr (10, [.ref g, .ref clt, .ref rlt, .ref lgt, .int (iI 0)])), (clt, .inr (2, [.int (iI 0), .ref eZ.1, .int (iI 0)])), (rlt, .inr (2, [.int (iI 0), .ref eZ.1, .int (iI 0)])), (lgt, .inr (4, [.ref qet, .int (iI 0), .int (iI 0)]))]) (ws' := [(m0, .inr (11, [.ref g, .ref h, .ref ht, .ref pq, .int (iI 0), .int (iI 10), .int (iI 1), .int (iI 0), .int (iI 0)])), (h, .inr (10, [.ref g, .ref cl, .ref rl, .ref lg, .int (iI 0)])), (cl, .inr (2, [.int (iI 0), .ref eZ.1, .int (iI 0)])), (rl, .inr (2, [.int (iI 0), .ref eZ.1, .int (iI 0)])), (ht, .inr (10, [.ref g, .ref clt, .ref rlt, .ref lgt, .int (iI 0)])), (clt, .inr (2, [.int (iI 0), .ref eZ.1, .int (iI 0)])), (rlt, .inr (2, [.int (iI 0), .ref eZ.1, .int (iI 0)])), (lgt, .inr (4, [.ref qet, .int (iI 0), .int (iI 0)]))]) (va_runS (As := [.int (iI 1)]) (rest := []) ⟨hx, hb, hml, hown, hts⟩ (c_X9_needArgument l dC dI cI cO cJ eZ H.size ) (va_cwS 1 hts (gS wg_51 wg_52 wg_22 wg_1) rfl rfl rfl (by decide +kernel) ⟨Nat.le_of_ble_eq_true rfl, Nat.le_of_ble_eq_true rfl⟩) (m_preSZ hE hS hA hZ hK hP hD [] rfl (by decide)) rfl rfl hl.1 rfl (lv_room (Nat.le_of_ble_eq_true rfl)) dX9_firesIn_5 ⟨Nat.le_of_ble_eq_true rfl, Nat.le_of_ble_eq_true rfl⟩) hP hD hS hA [] [0, 1, 2, 3, 4, 5, 6, 7] [0, 1, 2, 3, 4, 5, 6, 7] rfl rfl (by decide) (by decide) rfl (by decide) (fun H locs hP hD hS => ?_)
  refine lv_aload_n hx hb dX9_firesIn_8 rfl (lv_at hl 0 rfl) ?_
  refine va_get (ci := 11) (v := .ref ht) (C := RX9) (T := TX9) (N := 9) hx hb hts (gh hg_X9) hown hK hP 0 rfl rfl 2 (by decide) hf25 (fun _ h9 => h9) rfl dX9_firesIn_9 ?_
  refine lv_aload_n hx hb dX9_firesIn_12 rfl (lv_at hl 0 rfl) ?_
  refine va_get (ci := 11) (v := .ref h) (C := RX9) (T := TX9) (N := 9) hx hb hts (gh hg_X9) hown hK hP 0 rfl rfl 1 (by decide) hf21 (fun _ h9 => h9) rfl dX9_firesIn_13 ?_
  refine m_runv (wc := [(ht, .inr (10, [.ref g, .ref clt, .ref rlt, .ref lgt, .int (iI 0)])), (clt, .inr (2, [.int (iI 0), .ref eZ.1, .int (iI 0)])), (rlt, .inr (2, [.int (iI 0), .ref eZ.1, .int (iI 0)])), (h, .inr (10, [.ref g, .ref cl, .ref rl, .ref lg, .int (iI 0)])), (cl, .inr (2, [.int (iI 0), .ref eZ.1, .int (iI 0)])), (rl, .inr (2, [.int (iI 0), .ref eZ.1, .int (iI 0)]))]) (wc' := [(ht, .inr (10, [.ref g, .ref clt, .ref rlt, .ref lgt, .int (iI 0)])), (clt, .inr (2, [.int (iI 0), .ref eZ.1, .int (iI 0)])), (rlt, .inr (2, [.int (iI 0), .ref eZ.1, .int (iI 0)])), (h, .inr (10, [.ref g, .ref cl, .ref rl, .ref lg, .int (iI 0)])), (cl, .inr (2, [.int (iI 0), .ref eZ.1, .int (iI 0)])), (rl, .inr (2, [.int (iI 0), .ref eZ.1, .int (iI 0)]))]) (wr := [(m0, .inr (11, [.ref g, .ref h, .ref ht, .ref pq, .int (iI 0), .int (iI 10), .int (iI 1), .int (iI 0), .int (iI 0)])), (lgt, .inr (4, [.ref qet, .int (iI 0), .int (iI 0)]))]) (ws' := [(m0, .inr (11, [.ref g, .ref h, .ref ht, .ref pq, .int (iI 0), .int (iI 10), .int (iI 1), .int (iI 0), .int (iI 0)])), (h, .inr (10, [.ref g, .ref cl, .ref rl, .ref lg, .int (iI 0)])), (cl, .inr (2, [.int (iI 0), .ref eZ.1, .int (iI 0)])), (rl, .inr (2, [.int (iI 0), .ref eZ.1, .int (iI 0)])), (ht, .inr (10, [.ref g, .ref clt, .ref rlt, .ref lgt, .int (iI 0)])), (clt, .inr (2, [.int (iI 0), .ref eZ.1, .int (iI 0)])), (rlt, .inr (2, [.int (iI 0), .ref eZ.1, .int (iI 0)])), (lgt, .inr (4, [.ref qet, .int (iI 0), .int (iI 0)]))]) (va_runV (As := [.ref h]) (rest := []) ⟨hx, hb, hml, hown, hts⟩ (c_X8_copyFrom l dC dI cI cO cJ h ht g cl rl lg clt rlt lgt eZ H.size ) (cwV 1 hts (gV wg_199 wg_200 wg_201 wg_72 wg_196) rfl rfl rfl (by decide +kernel) ⟨Nat.le_of_ble_eq_true rfl, Nat.le_of_ble_eq_true rfl⟩) (m_preVZ hE hS hA hZ hK hP hD [4, 5, 6, 1, 2, 3] rfl (by decide) (va_recv hK hP (ci := 10) (q0 := 4) rfl rfl)) rfl rfl hl.1 rfl (lv_room (Nat.le_of_ble_eq_true rfl)) dX9_firesIn_16 ⟨Nat.le_of_ble_eq_true rfl, Nat.le_of_ble_eq_true rfl⟩) hP hD hS hA [4, 5, 6, 1, 2, 3] [0, 7] [0, 5, 6, 7, 2, 3, 4, 1] rfl rfl (by decide) (by decide) rfl (by decide) (fun H locs hP hD hS => ?_)
  refine lv_aload_n hx hb dX9_firesIn_19 rfl (lv_at hl 0 rfl) ?_
  refine va_get (ci := 11) (v := .ref ht) (C := RX9) (T := TX9) (N := 9) hx hb hts (gh hg_X9) hown hK hP 0 rfl rfl 2 (by decide) hf25 (fun _ h9 => h9) rfl dX9_firesIn_20 ?_
  refine va_get (ci := 10) (v := .ref lgt) (C := RX8) (T := TX8) (N := 5) hx hb hts (gh hg_X8) hown hK hP 4 rfl rfl 3 (by decide) hf129 (fun _ h9 => h9) rfl dX9_firesIn_23 ?_
  refine va_get (ci := 4) (v := .int (iI 0)) (C := RX1) (T := TX1) (N := 3) hx hb hts (gh hg_X1) hown hK hP 7 rfl rfl 2 (by decide) hf249 (fun _ h9 => h9) rfl dX9_firesIn_26 ?_
  refine lv_istore_n (lv' := [(2, .int (iI 0)), (0, .ref m0), (1, .int (iI p0))]) hx hb dX9_firesIn_29 rfl hl (by decide) rfl (fun ls hl => ?_)
  refine mi_iconst hx hb dX9_firesIn_30 ?_
  refine lv_istore_n (lv' := [(3, .int (iI 1)), (2, .int (iI 0)), (0, .ref m0), (1, .int (iI p0))]) hx hb dX9_firesIn_31 rfl hl (by decide) rfl (fun ls hl => ?_)
  have lp32 : ∀ (k : Nat) (i : Int), (p0 + 1 - i).toNat < k → 1 ≤ i ∧ i ≤ p0 + 1 → ∀ (H : Heap) (locs : List Loc) (ls : Array Slot), va_P (dC, dI) vwCl [(m0, .inr (11, [.ref g, .ref h, .ref ht, .ref pq, .int (iI 0), .int (iI 10), .int (iI 1), .int (iI 0), .int (iI 0)])), (h, .inr (10, [.ref g, .ref cl, .ref rl, .ref lg, .int (iI 0)])), (cl, .inr (2, [.int (iI 0), .ref eZ.1, .int (iI 0)])), (rl, .inr (2, [.int (iI 0), .ref eZ.1, .int (iI 0)])), (ht, .inr (10, [.ref g, .ref clt, .ref rlt, .ref lgt, .int (iI (i - 1))])), (clt, .inr (2, [.int (iI 0), .ref eZ.1, .int (iI 0)])), (rlt, .inr (2, [.int (iI 0), .ref eZ.1, .int (iI 0)])), (lgt, .inr (4, [.ref qet, .int (iI 0), .int (iI 0)]))] H → va_D A [(m0, .inr (11, [.ref g, .ref h, .ref ht, .ref pq, .int (iI 0), .int (iI 10), .int (iI 1), .int (iI 0), .int (iI 0)])), (h, .inr (10, [.ref g, .ref cl, .ref rl, .ref lg, .int (iI 0)])), (cl, .inr (2, [.int (iI 0), .ref eZ.1, .int (iI 0)])), (rl, .inr (2, [.int (iI 0), .ref eZ.1, .int (iI 0)])), (ht, .inr (10, [.ref g, .ref clt, .ref rlt, .ref lgt, .int (iI (i - 1))])), (clt, .inr (2, [.int (iI 0), .ref eZ.1, .int (iI 0)])), (rlt, .inr (2, [.int (iI 0), .ref eZ.1, .int (iI 0)])), (lgt, .inr (4, [.ref qet, .int (iI 0), .int (iI 0)]))] → va_S A s.heap H locs → lv_has ls 4 [(0, .ref m0), (1, .int (iI p0)), (2, .int (iI 0)), (3, .int (iI i))] → W p l e { frames := 2, cells := 0, slots := 0, locals := 44 } s m args below meth c H locs 0 0 Q (F0 m 32 ls []) := by
    intro k
    induction k with
    | zero => intro i hm; exact absurd hm (Nat.not_lt_zero _)
    | succ k ih32 =>
      intro i hm hi H locs ls hP hD hS hl
      refine lv_iload_n hx hb dX9_firesIn_32 rfl (lv_at hl 3 rfl) ?_
      refine lv_iload_n hx hb dX9_firesIn_33 rfl (lv_at hl 1 rfl) ?_
      refine mi_icmp_gt (tgt := 66) hx hb (by omega) (by omega) dX9_firesIn_34 (by decide) (fun c_1 => ?_) (fun c_1 => ?_)
      · refine mi_iconst hx hb dX9_firesIn_66 ?_
        have hP : va_P (dC, dI) vwCl [] H := hP.sub [] rfl
        have hD : va_D A [] := hD.sub [] (by decide) rfl
        exact mi_iret hx hb hQ hr hlocks hAe hsz hP hD hS (by first | rfl | omega | (split <;> omega)) rfl dX9_firesIn_67
      · refine lv_aload_n hx hb dX9_firesIn_37 rfl (lv_at hl 0 rfl) ?_
        refine va_get (ci := 11) (v := .ref ht) (C := RX9) (T := TX9) (N := 9) hx hb hts (gh hg_X9) hown hK hP 0 rfl rfl 2 (by decide) hf25 (fun _ h9 => h9) rfl dX9_firesIn_38 ?_
        refine m_runv (wc := [(ht, .inr (10, [.ref g, .ref clt, .ref rlt, .ref lgt, .int (iI (i - 1))])), (clt, .inr (2, [.int (iI 0), .ref eZ.1, .int (iI 0)])), (rlt, .inr (2, [.int (iI 0), .ref eZ.1, .int (iI 0)]))]) (wc' := [(ht, .inr (10, [.ref g, .ref clt, .ref rlt, .ref lgt, .int (iI ((i - 1) + 1))])), (clt, .inr (2, [.int (iI 0), .ref eZ.1, .int (iI 0)])), (rlt, .inr (2, [.int (iI 0), .ref eZ.1, .int (iI 0)]))]) (wr := [(m0, .inr (11, [.ref g, .ref h, .ref ht, .ref pq, .int (iI 0), .int (iI 10), .int (iI 1), .int (iI 0), .int (iI 0)])), (h, .inr (10, [.ref g, .ref cl, .ref rl, .ref lg, .int (iI 0)])), (cl, .inr (2, [.int (iI 0), .ref eZ.1, .int (iI 0)])), (rl, .inr (2, [.int (iI 0), .ref eZ.1, .int (iI 0)])), (lgt, .inr (4, [.ref qet, .int (iI 0), .int (iI 0)]))]) (ws' := [(m0, .inr (11, [.ref g, .ref h, .ref ht, .ref pq, .int (iI 0), .int (iI 10), .int (iI 1), .int (iI 0), .int (iI 0)])), (h, .inr (10, [.ref g, .ref cl, .ref rl, .ref lg, .int (iI 0)])), (cl, .inr (2, [.int (iI 0), .ref eZ.1, .int (iI 0)])), (rl, .inr (2, [.int (iI 0), .ref eZ.1, .int (iI 0)])), (ht, .inr (10, [.ref g, .ref clt, .ref rlt, .ref lgt, .int (iI ((i - 1) + 1))])), (clt, .inr (2, [.int (iI 0), .ref eZ.1, .int (iI 0)])), (rlt, .inr (2, [.int (iI 0), .ref eZ.1, .int (iI 0)])), (lgt, .inr (4, [.ref qet, .int (iI 0), .int (iI 0)]))]) (va_runV (As := []) (rest := []) ⟨hx, hb, hml, hown, hts⟩ (c_X8_goOnByOne l dC dI cI cO cJ ht g clt rlt lgt (i - 1) eZ H.size (by first | assumption | omega)) (cwV 0 hts (gV wg_193 wg_194 wg_195 wg_72 wg_188) rfl rfl rfl (by decide +kernel) ⟨Nat.le_of_ble_eq_true rfl, Nat.le_of_ble_eq_true rfl⟩) (m_preVZ hE hS hA hZ hK hP hD [4, 5, 6] rfl (by decide) (va_recv hK hP (ci := 10) (q0 := 4) rfl rfl)) rfl rfl hl.1 rfl (lv_room (Nat.le_of_ble_eq_true rfl)) dX9_firesIn_41 ⟨Nat.le_of_ble_eq_true rfl, Nat.le_of_ble_eq_true rfl⟩) hP hD hS hA [4, 5, 6] [0, 1, 2, 3, 7] [0, 1, 2, 3, 5, 6, 7, 4] rfl rfl (by decide) (by decide) rfl (by decide) (fun H locs hP hD hS => ?_)
        refine lv_aload_n hx hb dX9_firesIn_44 rfl (lv_at hl 0 rfl) ?_
        refine va_get (ci := 11) (v := .ref ht) (C := RX9) (T := TX9) (N := 9) hx hb hts (gh hg_X9) hown hK hP 0 rfl rfl 2 (by decide) hf25 (fun _ h9 => h9) rfl dX9_firesIn_45 ?_
        refine va_get (ci := 10) (v := .ref lgt) (C := RX8) (T := TX8) (N := 5) hx hb hts (gh hg_X8) hown hK hP 4 rfl rfl 3 (by decide) hf129 (fun _ h9 => h9) rfl dX9_firesIn_48 ?_
        refine va_get (ci := 4) (v := .int (iI 0)) (C := RX1) (T := TX1) (N := 3) hx hb hts (gh hg_X1) hown hK hP 7 rfl rfl 2 (by decide) hf249 (fun _ h9 => h9) rfl dX9_firesIn_51 ?_
        refine lv_iload_n hx hb dX9_firesIn_54 rfl (lv_at hl 2 rfl) ?_
        refine mi_icmp_le (tgt := 60) hx hb (by decide) (by decide) dX9_firesIn_55 (by decide) (fun c_2 => ?_) (fun c_2 => ?_)
        · refine mi_iinc (b := i + 1) (lv' := [(3, .int (iI (i + 1))), (0, .ref m0), (1, .int (iI p0)), (2, .int (iI 0))]) hx hb dX9_firesIn_60 hl (k := 3) rfl (by decide) (by omega) rfl (fun ls hl => ?_)
          refine lv_goto (tgt := 32) hx hb dX9_firesIn_63 (by decide) ?_
          have hw_3 : [(m0, .inr (11, [.ref g, .ref h, .ref ht, .ref pq, .int (iI 0), .int (iI 10), .int (iI 1), .int (iI 0), .int (iI 0)])), (h, .inr (10, [.ref g, .ref cl, .ref rl, .ref lg, .int (iI 0)])), (cl, .inr (2, [.int (iI 0), .ref eZ.1, .int (iI 0)])), (rl, .inr (2, [.int (iI 0), .ref eZ.1, .int (iI 0)])), (ht, .inr (10, [.ref g, .ref clt, .ref rlt, .ref lgt, .int (iI ((i - 1) + 1))])), (clt, .inr (2, [.int (iI 0), .ref eZ.1, .int (iI 0)])), (rlt, .inr (2, [.int (iI 0), .ref eZ.1, .int (iI 0)])), (lgt, .inr (4, [.ref qet, .int (iI 0), .int (iI 0)]))] = ([(m0, .inr (11, [.ref g, .ref h, .ref ht, .ref pq, .int (iI 0), .int (iI 10), .int (iI 1), .int (iI 0), .int (iI 0)])), (h, .inr (10, [.ref g, .ref cl, .ref rl, .ref lg, .int (iI 0)])), (cl, .inr (2, [.int (iI 0), .ref eZ.1, .int (iI 0)])), (rl, .inr (2, [.int (iI 0), .ref eZ.1, .int (iI 0)])), (ht, .inr (10, [.ref g, .ref clt, .ref rlt, .ref lgt, .int (iI ((i + 1) - 1))])), (clt, .inr (2, [.int (iI 0), .ref eZ.1, .int (iI 0)])), (rlt, .inr (2, [.int (iI 0), .ref eZ.1, .int (iI 0)])), (lgt, .inr (4, [.ref qet, .int (iI 0), .int (iI 0)]))] : va_W) := by rw [show i + 1 - 1 = i - 1 + 1 by omega]
          rw [hw_3] at hP hD
          exact ih32 (i + 1) (by omega) (by first | assumption | omega) _ _ _ hP hD hS (lv_sub hl [1, 2, 3, 0] rfl)
        · exfalso; omega
  have hw_4 : [(m0, .inr (11, [.ref g, .ref h, .ref ht, .ref pq, .int (iI 0), .int (iI 10), .int (iI 1), .int (iI 0), .int (iI 0)])), (h, .inr (10, [.ref g, .ref cl, .ref rl, .ref lg, .int (iI 0)])), (cl, .inr (2, [.int (iI 0), .ref eZ.1, .int (iI 0)])), (rl, .inr (2, [.int (iI 0), .ref eZ.1, .int (iI 0)])), (ht, .inr (10, [.ref g, .ref clt, .ref rlt, .ref lgt, .int (iI 0)])), (clt, .inr (2, [.int (iI 0), .ref eZ.1, .int (iI 0)])), (rlt, .inr (2, [.int (iI 0), .ref eZ.1, .int (iI 0)])), (lgt, .inr (4, [.ref qet, .int (iI 0), .int (iI 0)]))] = ([(m0, .inr (11, [.ref g, .ref h, .ref ht, .ref pq, .int (iI 0), .int (iI 10), .int (iI 1), .int (iI 0), .int (iI 0)])), (h, .inr (10, [.ref g, .ref cl, .ref rl, .ref lg, .int (iI 0)])), (cl, .inr (2, [.int (iI 0), .ref eZ.1, .int (iI 0)])), (rl, .inr (2, [.int (iI 0), .ref eZ.1, .int (iI 0)])), (ht, .inr (10, [.ref g, .ref clt, .ref rlt, .ref lgt, .int (iI (1 - 1))])), (clt, .inr (2, [.int (iI 0), .ref eZ.1, .int (iI 0)])), (rlt, .inr (2, [.int (iI 0), .ref eZ.1, .int (iI 0)])), (lgt, .inr (4, [.ref qet, .int (iI 0), .int (iI 0)]))] : va_W) := by rw [show (1 : Int) - 1 = 0 by omega]
  rw [hw_4] at hP hD
  exact lp32 _ 1 (Nat.lt_succ_self _) (by first | assumption | omega) _ _ _ hP hD hS (lv_sub hl [2, 3, 1, 0] rfl)

set_option maxRecDepth 100000 in
set_option maxHeartbeats 4000000 in
theorem x_wouldRoll (l : Launch) (dC : Nat → ClassId) (dI : Nat → Nat → Nat) (cI cO cJ : ClassId) (m0 : Nat) (g : Nat) (h : Nat) (ht : Nat) (pq : Nat) (cl : Nat) (rl : Nat) (lg : Nat) (p0 : Int) (eZ : Nat × Nat) (sz : Nat) (hlT : l.stackTraces = false) (hr_p0 : rI p0) (hbad : ¬ (0 ≤ p0 ∧ p0 ≤ 10000)) : vx_Met l yX9_wouldRoll (gw (.code yX9_wouldRoll cX9_wouldRoll 4 (some .int))) ({ frames := 7, cells := 1, slots := 6, locals := 120 }) (mPcZ (dC, dI) [(cI, .int), (cO, .object "java/lang/Object"), (cJ, .long)] eZ [.ref m0, .int (iI p0)] sz [(m0, .inr (11, [.ref g, .ref h, .ref ht, .ref pq, .int (iI 0), .int (iI 10), .int (iI 1), .int (iI 0), .int (iI 0)])), (h, .inr (10, [.ref g, .ref cl, .ref rl, .ref lg, .int (iI 0)])), (cl, .inr (2, [.int (iI 0), .ref eZ.1, .int (iI 0)]))]) mNo (mXC "java/lang/IllegalArgumentException" [(m0, .inr (11, [.ref g, .ref h, .ref ht, .ref pq, .int (iI 0), .int (iI 10), .int (iI 1), .int (iI 0), .int (iI 0)])), (h, .inr (10, [.ref g, .ref cl, .ref rl, .ref lg, .int (iI 0)])), (cl, .inr (2, [.int (iI 0), .ref eZ.1, .int (iI 0)]))] sz) 1 6 (va_A [(m0, .inr (11, [.ref g, .ref h, .ref ht, .ref pq, .int (iI 0), .int (iI 10), .int (iI 1), .int (iI 0), .int (iI 0)])), (h, .inr (10, [.ref g, .ref cl, .ref rl, .ref lg, .int (iI 0)])), (cl, .inr (2, [.int (iI 0), .ref eZ.1, .int (iI 0)]))] sz) := by
  refine mMetX (cc := cX9_wouldRoll) (maxL := 4) (ret := (some .int)) (by decide) rfl (Nat.le_of_ble_eq_true rfl) ?_
  intro p e s m args below meth c A ls hx hb hr hts hown hlocks hin hml hAe hsz hA hD H hHe hP hK hZ hE hS hl hno Q hQ
  have hl : lv_has ls 4 [(0, .ref m0), (1, .int (iI p0))] := hl
  refine lv_iload_n hx hb dX9_wouldRoll_0 rfl (lv_at hl 1 rfl) ?_
  refine mi_i2l hx hb (by omega) dX9_wouldRoll_1 ?_
  refine mi_iconst hx hb dX9_wouldRoll_2 ?_
  refine mi_sipush hx hb dX9_wouldRoll_3 (by decide) ?_
  refine m_run (wc := []) (wc' := []) (wr := [(m0, .inr (11, [.ref g, .ref h, .ref ht, .ref pq, .int (iI 0), .int (iI 10), .int (iI 1), .int (iI 0), .int (iI 0)])), (h, .inr (10, [.ref g, .ref cl, .ref rl, .ref lg, .int (iI 0)])), (cl, .inr (2, [.int (iI 0), .ref eZ.1, .int (iI 0)]))]) (ws' := [(m0, .inr (11, [.ref g, .ref h, .ref ht, .ref pq, .int (iI 0), .int (iI 10), .int (iI 1), .int (iI 0), .int (iI 0)])), (h, .inr (10, [.ref g, .ref cl, .ref rl, .ref lg, .int (iI 0)])), (cl, .inr (2, [.int (iI 0), .ref eZ.1, .int (iI 0)]))]) (va_runS (As := [.long (jI p0), .int (iI 0), .int (iI 10000)]) (rest := []) ⟨hx, hb, hml, hown, hts⟩ (c_X9_isIn l dC dI cI cO cJ p0 0 10000 eZ H.size (by first | assumption | omega) (by first | assumption | omega) (by first | assumption | omega)) (va_cwS 3 hts (gS wg_44 wg_45 wg_22 wg_0) rfl rfl rfl (by decide +kernel) ⟨Nat.le_of_ble_eq_true rfl, Nat.le_of_ble_eq_true rfl⟩) (m_preSZ hE hS hA hZ hK hP hD [] rfl (by decide)) rfl rfl hl.1 rfl (lv_room (Nat.le_of_ble_eq_true rfl)) dX9_wouldRoll_6 ⟨Nat.le_of_ble_eq_true rfl, Nat.le_of_ble_eq_true rfl⟩) hP hD hS hA [] [0, 1, 2] [0, 1, 2] rfl rfl (by decide) (by decide) rfl (by decide) (fun H locs hP hD hS => ?_)
  obtain ⟨r_1, hr_1⟩ : ∃ z : Int, z = if 0 ≤ p0 ∧ p0 ≤ 10000 then 1 else 0 := ⟨_, rfl⟩
  rw [← hr_1]
  have q_2 : (r_1 = 1 ∧ 0 ≤ p0 ∧ p0 ≤ 10000) ∨ (r_1 = 0 ∧ ¬ (0 ≤ p0 ∧ p0 ≤ 10000)) := (by rw [hr_1]; split <;> omega)
  rcases (show r_1 = 1 ∨ r_1 = 0 by omega) with e_3 | e_3
  · subst e_3
    refine m_runv (wc := []) (wc' := []) (wr := [(m0, .inr (11, [.ref g, .ref h, .ref ht, .ref pq, .int (iI 0), .int (iI 10), .int (iI 1), .int (iI 0), .int (iI 0)])), (h, .inr (10, [.ref g, .ref cl, .ref rl, .ref lg, .int (iI 0)])), (cl, .inr (2, [.int (iI 0), .ref eZ.1, .int (iI 0)]))]) (ws' := [(m0, .inr (11, [.ref g, .ref h, .ref ht, .ref pq, .int (iI 0), .int (iI 10), .int (iI 1), .int (iI 0), .int (iI 0)])), (h, .inr (10, [.ref g, .ref cl, .ref rl, .ref lg, .int (iI 0)])), (cl, .inr (2, [.int (iI 0), .ref eZ.1, .int (iI 0)]))]) (va_runS (As := [.int (iI 1)]) (rest := []) ⟨hx, hb, hml, hown, hts⟩ (c_X9_needArgument l dC dI cI cO cJ eZ H.size ) (va_cwS 1 hts (gS wg_51 wg_52 wg_22 wg_1) rfl rfl rfl (by decide +kernel) ⟨Nat.le_of_ble_eq_true rfl, Nat.le_of_ble_eq_true rfl⟩) (m_preSZ hE hS hA hZ hK hP hD [] rfl (by decide)) rfl rfl hl.1 rfl (lv_room (Nat.le_of_ble_eq_true rfl)) dX9_wouldRoll_9 ⟨Nat.le_of_ble_eq_true rfl, Nat.le_of_ble_eq_true rfl⟩) hP hD hS hA [] [0, 1, 2] [0, 1, 2] rfl rfl (by decide) (by decide) rfl (by decide) (fun H locs hP hD hS => ?_)
    exfalso; omega
  · subst e_3
    refine m_callT (E := "java/lang/IllegalArgumentException") (wc := []) (wr := [(m0, .inr (11, [.ref g, .ref h, .ref ht, .ref pq, .int (iI 0), .int (iI 10), .int (iI 1), .int (iI 0), .int (iI 0)])), (h, .inr (10, [.ref g, .ref cl, .ref rl, .ref lg, .int (iI 0)])), (cl, .inr (2, [.int (iI 0), .ref eZ.1, .int (iI 0)]))]) (vx_runS (As := [.int (iI 0)]) (rest := []) ⟨hx, hb, hml, hown, hts⟩ (x_needArgument l dC dI cI cO cJ eZ H.size hlT ) (va_cwS 1 hts (gS wg_51 wg_52 wg_22 wg_1) rfl rfl rfl (by decide +kernel) ⟨Nat.le_of_ble_eq_true rfl, Nat.le_of_ble_eq_true rfl⟩) (m_preSZ hE hS hA hZ hK hP hD [] rfl (by decide)) rfl rfl hl.1 rfl (lv_room (Nat.le_of_ble_eq_true rfl)) dX9_wouldRoll_9 ⟨Nat.le_of_ble_eq_true rfl, Nat.le_of_ble_eq_true rfl⟩) hP hD hS hA [] [0, 1, 2] rfl rfl (by decide) (by decide) (fun ce_6 q_5 H locs hP hD hS hc_4 hcvhc_4 hclhc_4 => ?_)
    rw [hQ]
    exact vx_out (fun x h => (hno x h).elim) hlocks hc_4 hcvhc_4 hclhc_4 (fun t ht hW => ⟨(), trivial, rfl, by subst hsz; subst hAe; exact hS.F ht⟩) (by subst hAe; exact hS.2.2) (by omega) (by omega)

set_option maxRecDepth 100000 in
set_option maxHeartbeats 4000000 in
theorem c_wouldRoll (l : Launch) (dC : Nat → ClassId) (dI : Nat → Nat → Nat) (cI cO cJ : ClassId) (m0 : Nat) (g : Nat) (h : Nat) (ht : Nat) (pq : Nat) (cl : Nat) (rl : Nat) (lg : Nat) (p0 : Int) (eZ : Nat × Nat) (sz : Nat) (hr_p0 : rI p0) (hgood : 0 ≤ p0 ∧ p0 ≤ 10000) : Met l yX9_wouldRoll (gw (.code yX9_wouldRoll cX9_wouldRoll 4 (some .int))) ({ frames := 1, cells := 0, slots := 0, locals := 23 }) (mPcZ (dC, dI) [(cI, .int), (cO, .object "java/lang/Object"), (cJ, .long)] eZ [.ref m0, .int (iI p0)] sz [(m0, .inr (11, [.ref g, .ref h, .ref ht, .ref pq, .int (iI 0), .int (iI 10), .int (iI 1), .int (iI 0), .int (iI 0)])), (h, .inr (10, [.ref g, .ref cl, .ref rl, .ref lg, .int (iI 0)])), (cl, .inr (2, [.int (iI 0), .ref eZ.1, .int (iI 0)]))]) (mQi (dC, dI) [(m0, .inr (11, [.ref g, .ref h, .ref ht, .ref pq, .int (iI 0), .int (iI 10), .int (iI 1), .int (iI 0), .int (iI 0)])), (h, .inr (10, [.ref g, .ref cl, .ref rl, .ref lg, .int (iI 0)])), (cl, .inr (2, [.int (iI 0), .ref eZ.1, .int (iI 0)]))] [] sz 0) 0 0 (va_A [(m0, .inr (11, [.ref g, .ref h, .ref ht, .ref pq, .int (iI 0), .int (iI 10), .int (iI 1), .int (iI 0), .int (iI 0)])), (h, .inr (10, [.ref g, .ref cl, .ref rl, .ref lg, .int (iI 0)])), (cl, .inr (2, [.int (iI 0), .ref eZ.1, .int (iI 0)]))] sz) := by
  refine mMetZ (cc := cX9_wouldRoll) (maxL := 4) (ret := (some .int)) (by decide) rfl (Nat.le_of_ble_eq_true rfl) ?_
  intro p e s m args below meth c A ls hx hb hr hts hown hlocks hin hml hAe hsz hA hD H hHe hP hK hZ hE hS hl Q hQ
  have hl : lv_has ls 4 [(0, .ref m0), (1, .int (iI p0))] := hl
  have hf21 := hts (.fieldLink RX9 21 "MeridianSeries" "store" "LMeridianSeries$Store;") (gm wg_10)
  have hf141 := hts (.fieldLink RX9 141 "MeridianSeries$Store" "now" "I") (gm wg_77)
  have hk100 := hts (.constant RX9 100 (99999)) (gm wg_59)
  have hf59 := hts (.fieldLink RX9 59 "MeridianSeries$Store" "chains" "Ljava/util/ArrayList;") (gm wg_11)
  refine lv_iload_n hx hb dX9_wouldRoll_0 rfl (lv_at hl 1 rfl) ?_
  refine mi_i2l hx hb (by omega) dX9_wouldRoll_1 ?_
  refine mi_iconst hx hb dX9_wouldRoll_2 ?_
  refine mi_sipush hx hb dX9_wouldRoll_3 (by decide) ?_
  refine m_run (wc := []) (wc' := []) (wr := [(m0, .inr (11, [.ref g, .ref h, .ref ht, .ref pq, .int (iI 0), .int (iI 10), .int (iI 1), .int (iI 0), .int (iI 0)])), (h, .inr (10, [.ref g, .ref cl, .ref rl, .ref lg, .int (iI 0)])), (cl, .inr (2, [.int (iI 0), .ref eZ.1, .int (iI 0)]))]) (ws' := [(m0, .inr (11, [.ref g, .ref h, .ref ht, .ref pq, .int (iI 0), .int (iI 10), .int (iI 1), .int (iI 0), .int (iI 0)])), (h, .inr (10, [.ref g, .ref cl, .ref rl, .ref lg, .int (iI 0)])), (cl, .inr (2, [.int (iI 0), .ref eZ.1, .int (iI 0)]))]) (va_runS (As := [.long (jI p0), .int (iI 0), .int (iI 10000)]) (rest := []) ⟨hx, hb, hml, hown, hts⟩ (c_X9_isIn l dC dI cI cO cJ p0 0 10000 eZ H.size (by first | assumption | omega) (by first | assumption | omega) (by first | assumption | omega)) (va_cwS 3 hts (gS wg_44 wg_45 wg_22 wg_0) rfl rfl rfl (by decide +kernel) ⟨Nat.le_of_ble_eq_true rfl, Nat.le_of_ble_eq_true rfl⟩) (m_preSZ hE hS hA hZ hK hP hD [] rfl (by decide)) rfl rfl hl.1 rfl (lv_room (Nat.le_of_ble_eq_true rfl)) dX9_wouldRoll_6 ⟨Nat.le_of_ble_eq_true rfl, Nat.le_of_ble_eq_true rfl⟩) hP hD hS hA [] [0, 1, 2] [0, 1, 2] rfl rfl (by decide) (by decide) rfl (by decide) (fun H locs hP hD hS => ?_)
  obtain ⟨r_1, hr_1⟩ : ∃ z : Int, z = if 0 ≤ p0 ∧ p0 ≤ 10000 then 1 else 0 := ⟨_, rfl⟩
  rw [← hr_1]
  have q_2 : (r_1 = 1 ∧ 0 ≤ p0 ∧ p0 ≤ 10000) ∨ (r_1 = 0 ∧ ¬ (0 ≤ p0 ∧ p0 ≤ 10000)) := (by rw [hr_1]; split <;> omega)
  rcases (show r_1 = 1 ∨ r_1 = 0 by omega) with e_3 | e_3
  · subst e_3
    refine m_runv (wc := []) (wc' := []) (wr := [(m0, .inr (11, [.ref g, .ref h, .ref ht, .ref pq, .int (iI 0), .int (iI 10), .int (iI 1), .int (iI 0), .int (iI 0)])), (h, .inr (10, [.ref g, .ref cl, .ref rl, .ref lg, .int (iI 0)])), (cl, .inr (2, [.int (iI 0), .ref eZ.1, .int (iI 0)]))]) (ws' := [(m0, .inr (11, [.ref g, .ref h, .ref ht, .ref pq, .int (iI 0), .int (iI 10), .int (iI 1), .int (iI 0), .int (iI 0)])), (h, .inr (10, [.ref g, .ref cl, .ref rl, .ref lg, .int (iI 0)])), (cl, .inr (2, [.int (iI 0), .ref eZ.1, .int (iI 0)]))]) (va_runS (As := [.int (iI 1)]) (rest := []) ⟨hx, hb, hml, hown, hts⟩ (c_X9_needArgument l dC dI cI cO cJ eZ H.size ) (va_cwS 1 hts (gS wg_51 wg_52 wg_22 wg_1) rfl rfl rfl (by decide +kernel) ⟨Nat.le_of_ble_eq_true rfl, Nat.le_of_ble_eq_true rfl⟩) (m_preSZ hE hS hA hZ hK hP hD [] rfl (by decide)) rfl rfl hl.1 rfl (lv_room (Nat.le_of_ble_eq_true rfl)) dX9_wouldRoll_9 ⟨Nat.le_of_ble_eq_true rfl, Nat.le_of_ble_eq_true rfl⟩) hP hD hS hA [] [0, 1, 2] [0, 1, 2] rfl rfl (by decide) (by decide) rfl (by decide) (fun H locs hP hD hS => ?_)
    refine lv_iload_n hx hb dX9_wouldRoll_12 rfl (lv_at hl 1 rfl) ?_
    refine mi_if_eq (tgt := 28) hx hb (by omega) dX9_wouldRoll_13 (by decide) (fun c_4 => ?_) (fun c_4 => ?_)
    · refine mi_iconst hx hb dX9_wouldRoll_28 ?_
      have hP : va_P (dC, dI) vwCl [] H := hP.sub [] rfl
      have hD : va_D A [] := hD.sub [] (by decide) rfl
      exact mi_iret hx hb hQ hr hlocks hAe hsz hP hD hS (by first | rfl | omega | (split <;> omega)) rfl dX9_wouldRoll_29
    · refine lv_aload_n hx hb dX9_wouldRoll_16 rfl (lv_at hl 0 rfl) ?_
      refine va_get (ci := 11) (v := .ref h) (C := RX9) (T := TX9) (N := 9) hx hb hts (gh hg_X9) hown hK hP 0 rfl rfl 1 (by decide) hf21 (fun _ h9 => h9) rfl dX9_wouldRoll_17 ?_
      refine va_get (ci := 10) (v := .int (iI 0)) (C := RX8) (T := TX8) (N := 5) hx hb hts (gh hg_X8) hown hK hP 1 rfl rfl 4 (by decide) hf141 (fun _ h9 => h9) rfl dX9_wouldRoll_20 ?_
      refine lv_ldc (v := iI 99999) hx hb hown (by rw [show iI 99999 = (99999 : Int32) by decide]; exact hk100) dX9_wouldRoll_23 ?_
      refine mi_icmp_lt (tgt := 30) hx hb (by decide) (by decide) dX9_wouldRoll_25 (by decide) (fun c_5 => ?_) (fun c_5 => ?_)
      · refine mi_iconst hx hb dX9_wouldRoll_30 ?_
        refine lv_istore_n (lv' := [(2, .int (iI 0)), (0, .ref m0), (1, .int (iI p0))]) hx hb dX9_wouldRoll_31 rfl hl (by decide) rfl (fun ls hl => ?_)
        refine mi_iconst hx hb dX9_wouldRoll_32 ?_
        refine lv_istore_n (lv' := [(3, .int (iI 0)), (2, .int (iI 0)), (0, .ref m0), (1, .int (iI p0))]) hx hb dX9_wouldRoll_33 rfl hl (by decide) rfl (fun ls hl => ?_)
        refine lv_iload_n hx hb dX9_wouldRoll_34 rfl (lv_at hl 0 rfl) ?_
        refine lv_aload_n hx hb dX9_wouldRoll_35 rfl (lv_at hl 2 rfl) ?_
        refine va_get (ci := 11) (v := .ref h) (C := RX9) (T := TX9) (N := 9) hx hb hts (gh hg_X9) hown hK hP 0 rfl rfl 1 (by decide) hf21 (fun _ h9 => h9) rfl dX9_wouldRoll_36 ?_
        refine va_get (ci := 10) (v := .ref cl) (C := RX8) (T := TX8) (N := 5) hx hb hts (gh hg_X8) hown hK hP 1 rfl rfl 1 (by decide) hf59 (fun _ h9 => h9) rfl dX9_wouldRoll_39 ?_
        refine m_run (wc := [(cl, .inr (2, [.int (iI 0), .ref eZ.1, .int (iI 0)]))]) (wc' := [(cl, .inr (2, [.int (iI 0), .ref eZ.1, .int (iI 0)]))]) (wr := [(m0, .inr (11, [.ref g, .ref h, .ref ht, .ref pq, .int (iI 0), .int (iI 10), .int (iI 1), .int (iI 0), .int (iI 0)])), (h, .inr (10, [.ref g, .ref cl, .ref rl, .ref lg, .int (iI 0)]))]) (ws' := [(m0, .inr (11, [.ref g, .ref h, .ref ht, .ref pq, .int (iI 0), .int (iI 10), .int (iI 1), .int (iI 0), .int (iI 0)])), (h, .inr (10, [.ref g, .ref cl, .ref rl, .ref lg, .int (iI 0)])), (cl, .inr (2, [.int (iI 0), .ref eZ.1, .int (iI 0)]))]) (va_runV (As := []) (rest := [.int (iI 0)]) ⟨hx, hb, hml, hown, hts⟩ (c_Jx4a65c_size_8abf5 l dC dI cI cO cJ cl eZ.1 0 0 eZ H.size ) (cwV 0 hts (gV wg_12 wg_13 wg_14 wg_15 wg_9) rfl rfl rfl (by decide +kernel) ⟨Nat.le_of_ble_eq_true rfl, Nat.le_of_ble_eq_true rfl⟩) (m_preVZ hE hS hA hZ hK hP hD [2] rfl (by decide) (va_recv hK hP (ci := 2) (q0 := 2) rfl rfl)) rfl rfl hl.1 rfl (lv_room (Nat.le_of_ble_eq_true rfl)) dX9_wouldRoll_42 ⟨Nat.le_of_ble_eq_true rfl, Nat.le_of_ble_eq_true rfl⟩) hP hD hS hA [2] [0, 1] [0, 1, 2] rfl rfl (by decide) (by decide) rfl (by decide) (fun H locs hP hD hS => ?_)
        refine mi_icmp_ge (tgt := 88) hx hb (by decide) (by decide) dX9_wouldRoll_45 (by decide) (fun c_6 => ?_) (fun c_6 => ?_)
        · refine lv_iload_n hx hb dX9_wouldRoll_88 rfl (lv_at hl 1 rfl) ?_
          have hP : va_P (dC, dI) vwCl [] H := hP.sub [] rfl
          have hD : va_D A [] := hD.sub [] (by decide) rfl
          exact mi_iret hx hb hQ hr hlocks hAe hsz hP hD hS (by first | rfl | omega | (split <;> omega)) rfl dX9_wouldRoll_89
        · exfalso; omega
      · exfalso; omega
  · subst e_3
    exfalso; omega

set_option maxRecDepth 100000 in
set_option maxHeartbeats 4000000 in
theorem x_over (l : Launch) (dC : Nat → ClassId) (dI : Nat → Nat → Nat) (cI cO cJ : ClassId) (m0 : Nat) (g : Nat) (h : Nat) (ht : Nat) (pq : Nat) (cl : Nat) (rl : Nat) (lg : Nat) (p0 : Int) (p1 : Int) (p2 : Int) (p3 : Int) (eZ : Nat × Nat) (sz : Nat) (hlT : l.stackTraces = false) (hr_p0 : rI p0) (hr_p1 : rI p1) (hr_p2 : rI p2) (hr_p3 : rI p3) (hbad : ¬ (((0 ≤ p1 ∧ p1 ≤ 9) ∧ 0 ≤ p2 ∧ p2 ≤ 3) ∧ 0 ≤ p3 ∧ p3 ≤ 1000)) : vx_Met l yX9_over (gw (.code yX9_over cX9_over 10 (some .int))) ({ frames := 7, cells := 1, slots := 6, locals := 120 }) (mPcZ (dC, dI) [(cI, .int), (cO, .object "java/lang/Object"), (cJ, .long)] eZ [.ref m0, .int (iI p0), .int (iI p1), .int (iI p2), .int (iI p3)] sz [(m0, .inr (11, [.ref g, .ref h, .ref ht, .ref pq, .int (iI 0), .int (iI 10), .int (iI 1), .int (iI 0), .int (iI 0)])), (h, .inr (10, [.ref g, .ref cl, .ref rl, .ref lg, .int (iI 0)])), (cl, .inr (2, [.int (iI 0), .ref eZ.1, .int (iI 0)]))]) mNo (mXC "java/lang/IllegalArgumentException" [(m0, .inr (11, [.ref g, .ref h, .ref ht, .ref pq, .int (iI 0), .int (iI 10), .int (iI 1), .int (iI 0), .int (iI 0)])), (h, .inr (10, [.ref g, .ref cl, .ref rl, .ref lg, .int (iI 0)])), (cl, .inr (2, [.int (iI 0), .ref eZ.1, .int (iI 0)]))] sz) 1 6 (va_A [(m0, .inr (11, [.ref g, .ref h, .ref ht, .ref pq, .int (iI 0), .int (iI 10), .int (iI 1), .int (iI 0), .int (iI 0)])), (h, .inr (10, [.ref g, .ref cl, .ref rl, .ref lg, .int (iI 0)])), (cl, .inr (2, [.int (iI 0), .ref eZ.1, .int (iI 0)]))] sz) := by
  refine mMetX (cc := cX9_over) (maxL := 10) (ret := (some .int)) (by decide) rfl (Nat.le_of_ble_eq_true rfl) ?_
  intro p e s m args below meth c A ls hx hb hr hts hown hlocks hin hml hAe hsz hA hD H hHe hP hK hZ hE hS hl hno Q hQ
  have hl : lv_has ls 10 [(0, .ref m0), (1, .int (iI p0)), (2, .int (iI p1)), (3, .int (iI p2)), (4, .int (iI p3))] := hl
  refine lv_iload_n hx hb dX9_over_0 rfl (lv_at hl 2 rfl) ?_
  refine mi_i2l hx hb (by omega) dX9_over_1 ?_
  refine mi_iconst hx hb dX9_over_2 ?_
  refine mi_bipush hx hb dX9_over_3 (by decide) ?_
  refine m_run (wc := []) (wc' := []) (wr := [(m0, .inr (11, [.ref g, .ref h, .ref ht, .ref pq, .int (iI 0), .int (iI 10), .int (iI 1), .int (iI 0), .int (iI 0)])), (h, .inr (10, [.ref g, .ref cl, .ref rl, .ref lg, .int (iI 0)])), (cl, .inr (2, [.int (iI 0), .ref eZ.1, .int (iI 0)]))]) (ws' := [(m0, .inr (11, [.ref g, .ref h, .ref ht, .ref pq, .int (iI 0), .int (iI 10), .int (iI 1), .int (iI 0), .int (iI 0)])), (h, .inr (10, [.ref g, .ref cl, .ref rl, .ref lg, .int (iI 0)])), (cl, .inr (2, [.int (iI 0), .ref eZ.1, .int (iI 0)]))]) (va_runS (As := [.long (jI p1), .int (iI 0), .int (iI 9)]) (rest := []) ⟨hx, hb, hml, hown, hts⟩ (c_X9_isIn l dC dI cI cO cJ p1 0 9 eZ H.size (by first | assumption | omega) (by first | assumption | omega) (by first | assumption | omega)) (va_cwS 3 hts (gS wg_44 wg_45 wg_22 wg_0) rfl rfl rfl (by decide +kernel) ⟨Nat.le_of_ble_eq_true rfl, Nat.le_of_ble_eq_true rfl⟩) (m_preSZ hE hS hA hZ hK hP hD [] rfl (by decide)) rfl rfl hl.1 rfl (lv_room (Nat.le_of_ble_eq_true rfl)) dX9_over_5 ⟨Nat.le_of_ble_eq_true rfl, Nat.le_of_ble_eq_true rfl⟩) hP hD hS hA [] [0, 1, 2] [0, 1, 2] rfl rfl (by decide) (by decide) rfl (by decide) (fun H locs hP hD hS => ?_)
  obtain ⟨r_1, hr_1⟩ : ∃ z : Int, z = if 0 ≤ p1 ∧ p1 ≤ 9 then 1 else 0 := ⟨_, rfl⟩
  rw [← hr_1]
  have q_2 : (r_1 = 1 ∧ 0 ≤ p1 ∧ p1 ≤ 9) ∨ (r_1 = 0 ∧ ¬ (0 ≤ p1 ∧ p1 ≤ 9)) := (by rw [hr_1]; split <;> omega)
  refine mi_if_eq (tgt := 25) hx hb (by omega) dX9_over_8 (by decide) (fun c_3 => ?_) (fun c_3 => ?_)
  · refine mi_iconst hx hb dX9_over_25 ?_
    refine m_callT (E := "java/lang/IllegalArgumentException") (wc := []) (wr := [(m0, .inr (11, [.ref g, .ref h, .ref ht, .ref pq, .int (iI 0), .int (iI 10), .int (iI 1), .int (iI 0), .int (iI 0)])), (h, .inr (10, [.ref g, .ref cl, .ref rl, .ref lg, .int (iI 0)])), (cl, .inr (2, [.int (iI 0), .ref eZ.1, .int (iI 0)]))]) (vx_runS (As := [.int (iI 0)]) (rest := []) ⟨hx, hb, hml, hown, hts⟩ (x_needArgument l dC dI cI cO cJ eZ H.size hlT ) (va_cwS 1 hts (gS wg_51 wg_52 wg_22 wg_1) rfl rfl rfl (by decide +kernel) ⟨Nat.le_of_ble_eq_true rfl, Nat.le_of_ble_eq_true rfl⟩) (m_preSZ hE hS hA hZ hK hP hD [] rfl (by decide)) rfl rfl hl.1 rfl (lv_room (Nat.le_of_ble_eq_true rfl)) dX9_over_26 ⟨Nat.le_of_ble_eq_true rfl, Nat.le_of_ble_eq_true rfl⟩) hP hD hS hA [] [0, 1, 2] rfl rfl (by decide) (by decide) (fun ce_6 q_5 H locs hP hD hS hc_4 hcvhc_4 hclhc_4 => ?_)
    rw [hQ]
    exact vx_out (fun x h => (hno x h).elim) hlocks hc_4 hcvhc_4 hclhc_4 (fun t ht hW => ⟨(), trivial, rfl, by subst hsz; subst hAe; exact hS.F ht⟩) (by subst hAe; exact hS.2.2) (by omega) (by omega)
  · refine lv_iload_n hx hb dX9_over_11 rfl (lv_at hl 3 rfl) ?_
    refine mi_i2l hx hb (by omega) dX9_over_12 ?_
    refine mi_iconst hx hb dX9_over_13 ?_
    refine mi_iconst hx hb dX9_over_14 ?_
    refine m_run (wc := []) (wc' := []) (wr := [(m0, .inr (11, [.ref g, .ref h, .ref ht, .ref pq, .int (iI 0), .int (iI 10), .int (iI 1), .int (iI 0), .int (iI 0)])), (h, .inr (10, [.ref g, .ref cl, .ref rl, .ref lg, .int (iI 0)])), (cl, .inr (2, [.int (iI 0), .ref eZ.1, .int (iI 0)]))]) (ws' := [(m0, .inr (11, [.ref g, .ref h, .ref ht, .ref pq, .int (iI 0), .int (iI 10), .int (iI 1), .int (iI 0), .int (iI 0)])), (h, .inr (10, [.ref g, .ref cl, .ref rl, .ref lg, .int (iI 0)])), (cl, .inr (2, [.int (iI 0), .ref eZ.1, .int (iI 0)]))]) (va_runS (As := [.long (jI p2), .int (iI 0), .int (iI 3)]) (rest := []) ⟨hx, hb, hml, hown, hts⟩ (c_X9_isIn l dC dI cI cO cJ p2 0 3 eZ H.size (by first | assumption | omega) (by first | assumption | omega) (by first | assumption | omega)) (va_cwS 3 hts (gS wg_44 wg_45 wg_22 wg_0) rfl rfl rfl (by decide +kernel) ⟨Nat.le_of_ble_eq_true rfl, Nat.le_of_ble_eq_true rfl⟩) (m_preSZ hE hS hA hZ hK hP hD [] rfl (by decide)) rfl rfl hl.1 rfl (lv_room (Nat.le_of_ble_eq_true rfl)) dX9_over_15 ⟨Nat.le_of_ble_eq_true rfl, Nat.le_of_ble_eq_true rfl⟩) hP hD hS hA [] [0, 1, 2] [0, 1, 2] rfl rfl (by decide) (by decide) rfl (by decide) (fun H locs hP hD hS => ?_)
    obtain ⟨r_7, hr_7⟩ : ∃ z : Int, z = if 0 ≤ p2 ∧ p2 ≤ 3 then 1 else 0 := ⟨_, rfl⟩
    rw [← hr_7]
    have q_8 : (r_7 = 1 ∧ 0 ≤ p2 ∧ p2 ≤ 3) ∨ (r_7 = 0 ∧ ¬ (0 ≤ p2 ∧ p2 ≤ 3)) := (by rw [hr_7]; split <;> omega)
    refine mi_if_eq (tgt := 25) hx hb (by omega) dX9_over_18 (by decide) (fun c_9 => ?_) (fun c_9 => ?_)
    · refine mi_iconst hx hb dX9_over_25 ?_
      refine m_callT (E := "java/lang/IllegalArgumentException") (wc := []) (wr := [(m0, .inr (11, [.ref g, .ref h, .ref ht, .ref pq, .int (iI 0), .int (iI 10), .int (iI 1), .int (iI 0), .int (iI 0)])), (h, .inr (10, [.ref g, .ref cl, .ref rl, .ref lg, .int (iI 0)])), (cl, .inr (2, [.int (iI 0), .ref eZ.1, .int (iI 0)]))]) (vx_runS (As := [.int (iI 0)]) (rest := []) ⟨hx, hb, hml, hown, hts⟩ (x_needArgument l dC dI cI cO cJ eZ H.size hlT ) (va_cwS 1 hts (gS wg_51 wg_52 wg_22 wg_1) rfl rfl rfl (by decide +kernel) ⟨Nat.le_of_ble_eq_true rfl, Nat.le_of_ble_eq_true rfl⟩) (m_preSZ hE hS hA hZ hK hP hD [] rfl (by decide)) rfl rfl hl.1 rfl (lv_room (Nat.le_of_ble_eq_true rfl)) dX9_over_26 ⟨Nat.le_of_ble_eq_true rfl, Nat.le_of_ble_eq_true rfl⟩) hP hD hS hA [] [0, 1, 2] rfl rfl (by decide) (by decide) (fun ce_12 q_11 H locs hP hD hS hc_10 hcvhc_10 hclhc_10 => ?_)
      rw [hQ]
      exact vx_out (fun x h => (hno x h).elim) hlocks hc_10 hcvhc_10 hclhc_10 (fun t ht hW => ⟨(), trivial, rfl, by subst hsz; subst hAe; exact hS.F ht⟩) (by subst hAe; exact hS.2.2) (by omega) (by omega)
    · refine mi_iconst hx hb dX9_over_21 ?_
      refine lv_goto (tgt := 26) hx hb dX9_over_22 (by decide) ?_
      refine m_runv (wc := []) (wc' := []) (wr := [(m0, .inr (11, [.ref g, .ref h, .ref ht, .ref pq, .int (iI 0), .int (iI 10), .int (iI 1), .int (iI 0), .int (iI 0)])), (h, .inr (10, [.ref g, .ref cl, .ref rl, .ref lg, .int (iI 0)])), (cl, .inr (2, [.int (iI 0), .ref eZ.1, .int (iI 0)]))]) (ws' := [(m0, .inr (11, [.ref g, .ref h, .ref ht, .ref pq, .int (iI 0), .int (iI 10), .int (iI 1), .int (iI 0), .int (iI 0)])), (h, .inr (10, [.ref g, .ref cl, .ref rl, .ref lg, .int (iI 0)])), (cl, .inr (2, [.int (iI 0), .ref eZ.1, .int (iI 0)]))]) (va_runS (As := [.int (iI 1)]) (rest := []) ⟨hx, hb, hml, hown, hts⟩ (c_X9_needArgument l dC dI cI cO cJ eZ H.size ) (va_cwS 1 hts (gS wg_51 wg_52 wg_22 wg_1) rfl rfl rfl (by decide +kernel) ⟨Nat.le_of_ble_eq_true rfl, Nat.le_of_ble_eq_true rfl⟩) (m_preSZ hE hS hA hZ hK hP hD [] rfl (by decide)) rfl rfl hl.1 rfl (lv_room (Nat.le_of_ble_eq_true rfl)) dX9_over_26 ⟨Nat.le_of_ble_eq_true rfl, Nat.le_of_ble_eq_true rfl⟩) hP hD hS hA [] [0, 1, 2] [0, 1, 2] rfl rfl (by decide) (by decide) rfl (by decide) (fun H locs hP hD hS => ?_)
      refine lv_iload hx hb dX9_over_29 (lv_at hl 4 rfl) ?_
      refine mi_i2l hx hb (by omega) dX9_over_31 ?_
      refine mi_iconst hx hb dX9_over_32 ?_
      refine mi_sipush hx hb dX9_over_33 (by decide) ?_
      refine m_run (wc := []) (wc' := []) (wr := [(m0, .inr (11, [.ref g, .ref h, .ref ht, .ref pq, .int (iI 0), .int (iI 10), .int (iI 1), .int (iI 0), .int (iI 0)])), (h, .inr (10, [.ref g, .ref cl, .ref rl, .ref lg, .int (iI 0)])), (cl, .inr (2, [.int (iI 0), .ref eZ.1, .int (iI 0)]))]) (ws' := [(m0, .inr (11, [.ref g, .ref h, .ref ht, .ref pq, .int (iI 0), .int (iI 10), .int (iI 1), .int (iI 0), .int (iI 0)])), (h, .inr (10, [.ref g, .ref cl, .ref rl, .ref lg, .int (iI 0)])), (cl, .inr (2, [.int (iI 0), .ref eZ.1, .int (iI 0)]))]) (va_runS (As := [.long (jI p3), .int (iI 0), .int (iI 1000)]) (rest := []) ⟨hx, hb, hml, hown, hts⟩ (c_X9_isIn l dC dI cI cO cJ p3 0 1000 eZ H.size (by first | assumption | omega) (by first | assumption | omega) (by first | assumption | omega)) (va_cwS 3 hts (gS wg_44 wg_45 wg_22 wg_0) rfl rfl rfl (by decide +kernel) ⟨Nat.le_of_ble_eq_true rfl, Nat.le_of_ble_eq_true rfl⟩) (m_preSZ hE hS hA hZ hK hP hD [] rfl (by decide)) rfl rfl hl.1 rfl (lv_room (Nat.le_of_ble_eq_true rfl)) dX9_over_36 ⟨Nat.le_of_ble_eq_true rfl, Nat.le_of_ble_eq_true rfl⟩) hP hD hS hA [] [0, 1, 2] [0, 1, 2] rfl rfl (by decide) (by decide) rfl (by decide) (fun H locs hP hD hS => ?_)
      obtain ⟨r_13, hr_13⟩ : ∃ z : Int, z = if 0 ≤ p3 ∧ p3 ≤ 1000 then 1 else 0 := ⟨_, rfl⟩
      rw [← hr_13]
      have q_14 : (r_13 = 1 ∧ 0 ≤ p3 ∧ p3 ≤ 1000) ∨ (r_13 = 0 ∧ ¬ (0 ≤ p3 ∧ p3 ≤ 1000)) := (by rw [hr_13]; split <;> omega)
      rcases (show r_13 = 1 ∨ r_13 = 0 by omega) with e_15 | e_15
      · subst e_15
        refine m_runv (wc := []) (wc' := []) (wr := [(m0, .inr (11, [.ref g, .ref h, .ref ht, .ref pq, .int (iI 0), .int (iI 10), .int (iI 1), .int (iI 0), .int (iI 0)])), (h, .inr (10, [.ref g, .ref cl, .ref rl, .ref lg, .int (iI 0)])), (cl, .inr (2, [.int (iI 0), .ref eZ.1, .int (iI 0)]))]) (ws' := [(m0, .inr (11, [.ref g, .ref h, .ref ht, .ref pq, .int (iI 0), .int (iI 10), .int (iI 1), .int (iI 0), .int (iI 0)])), (h, .inr (10, [.ref g, .ref cl, .ref rl, .ref lg, .int (iI 0)])), (cl, .inr (2, [.int (iI 0), .ref eZ.1, .int (iI 0)]))]) (va_runS (As := [.int (iI 1)]) (rest := []) ⟨hx, hb, hml, hown, hts⟩ (c_X9_needArgument l dC dI cI cO cJ eZ H.size ) (va_cwS 1 hts (gS wg_51 wg_52 wg_22 wg_1) rfl rfl rfl (by decide +kernel) ⟨Nat.le_of_ble_eq_true rfl, Nat.le_of_ble_eq_true rfl⟩) (m_preSZ hE hS hA hZ hK hP hD [] rfl (by decide)) rfl rfl hl.1 rfl (lv_room (Nat.le_of_ble_eq_true rfl)) dX9_over_39 ⟨Nat.le_of_ble_eq_true rfl, Nat.le_of_ble_eq_true rfl⟩) hP hD hS hA [] [0, 1, 2] [0, 1, 2] rfl rfl (by decide) (by decide) rfl (by decide) (fun H locs hP hD hS => ?_)
        exfalso; omega
      · subst e_15
        refine m_callT (E := "java/lang/IllegalArgumentException") (wc := []) (wr := [(m0, .inr (11, [.ref g, .ref h, .ref ht, .ref pq, .int (iI 0), .int (iI 10), .int (iI 1), .int (iI 0), .int (iI 0)])), (h, .inr (10, [.ref g, .ref cl, .ref rl, .ref lg, .int (iI 0)])), (cl, .inr (2, [.int (iI 0), .ref eZ.1, .int (iI 0)]))]) (vx_runS (As := [.int (iI 0)]) (rest := []) ⟨hx, hb, hml, hown, hts⟩ (x_needArgument l dC dI cI cO cJ eZ H.size hlT ) (va_cwS 1 hts (gS wg_51 wg_52 wg_22 wg_1) rfl rfl rfl (by decide +kernel) ⟨Nat.le_of_ble_eq_true rfl, Nat.le_of_ble_eq_true rfl⟩) (m_preSZ hE hS hA hZ hK hP hD [] rfl (by decide)) rfl rfl hl.1 rfl (lv_room (Nat.le_of_ble_eq_true rfl)) dX9_over_39 ⟨Nat.le_of_ble_eq_true rfl, Nat.le_of_ble_eq_true rfl⟩) hP hD hS hA [] [0, 1, 2] rfl rfl (by decide) (by decide) (fun ce_18 q_17 H locs hP hD hS hc_16 hcvhc_16 hclhc_16 => ?_)
        rw [hQ]
        exact vx_out (fun x h => (hno x h).elim) hlocks hc_16 hcvhc_16 hclhc_16 (fun t ht hW => ⟨(), trivial, rfl, by subst hsz; subst hAe; exact hS.F ht⟩) (by subst hAe; exact hS.2.2) (by omega) (by omega)

set_option maxRecDepth 100000 in
set_option maxHeartbeats 4000000 in
theorem c_over (l : Launch) (dC : Nat → ClassId) (dI : Nat → Nat → Nat) (cI cO cJ : ClassId) (m0 : Nat) (g : Nat) (h : Nat) (ht : Nat) (pq : Nat) (cl : Nat) (rl : Nat) (lg : Nat) (p0 : Int) (p1 : Int) (p2 : Int) (p3 : Int) (eZ : Nat × Nat) (sz : Nat) (hr_p0 : rI p0) (hr_p1 : rI p1) (hr_p2 : rI p2) (hr_p3 : rI p3) (hgood : ((0 ≤ p1 ∧ p1 ≤ 9) ∧ 0 ≤ p2 ∧ p2 ≤ 3) ∧ 0 ≤ p3 ∧ p3 ≤ 1000) : Met l yX9_over (gw (.code yX9_over cX9_over 10 (some .int))) ({ frames := 1, cells := 0, slots := 0, locals := 23 }) (mPcZ (dC, dI) [(cI, .int), (cO, .object "java/lang/Object"), (cJ, .long)] eZ [.ref m0, .int (iI p0), .int (iI p1), .int (iI p2), .int (iI p3)] sz [(m0, .inr (11, [.ref g, .ref h, .ref ht, .ref pq, .int (iI 0), .int (iI 10), .int (iI 1), .int (iI 0), .int (iI 0)])), (h, .inr (10, [.ref g, .ref cl, .ref rl, .ref lg, .int (iI 0)])), (cl, .inr (2, [.int (iI 0), .ref eZ.1, .int (iI 0)]))]) (mQi (dC, dI) [(m0, .inr (11, [.ref g, .ref h, .ref ht, .ref pq, .int (iI 0), .int (iI 10), .int (iI 1), .int (iI 0), .int (iI 0)])), (h, .inr (10, [.ref g, .ref cl, .ref rl, .ref lg, .int (iI 0)])), (cl, .inr (2, [.int (iI 0), .ref eZ.1, .int (iI 0)]))] [] sz (if p2 = 3 then 0 else -1000000)) 0 0 (va_A [(m0, .inr (11, [.ref g, .ref h, .ref ht, .ref pq, .int (iI 0), .int (iI 10), .int (iI 1), .int (iI 0), .int (iI 0)])), (h, .inr (10, [.ref g, .ref cl, .ref rl, .ref lg, .int (iI 0)])), (cl, .inr (2, [.int (iI 0), .ref eZ.1, .int (iI 0)]))] sz) := by
  refine mMetZ (cc := cX9_over) (maxL := 10) (ret := (some .int)) (by decide) rfl (Nat.le_of_ble_eq_true rfl) ?_
  intro p e s m args below meth c A ls hx hb hr hts hown hlocks hin hml hAe hsz hA hD H hHe hP hK hZ hE hS hl Q hQ
  have hl : lv_has ls 10 [(0, .ref m0), (1, .int (iI p0)), (2, .int (iI p1)), (3, .int (iI p2)), (4, .int (iI p3))] := hl
  have hk200 := hts (.constant RX9 200 (-1000000)) (gm wg_205)
  have hf21 := hts (.fieldLink RX9 21 "MeridianSeries" "store" "LMeridianSeries$Store;") (gm wg_10)
  have hf59 := hts (.fieldLink RX9 59 "MeridianSeries$Store" "chains" "Ljava/util/ArrayList;") (gm wg_11)
  refine lv_iload_n hx hb dX9_over_0 rfl (lv_at hl 2 rfl) ?_
  refine mi_i2l hx hb (by omega) dX9_over_1 ?_
  refine mi_iconst hx hb dX9_over_2 ?_
  refine mi_bipush hx hb dX9_over_3 (by decide) ?_
  refine m_run (wc := []) (wc' := []) (wr := [(m0, .inr (11, [.ref g, .ref h, .ref ht, .ref pq, .int (iI 0), .int (iI 10), .int (iI 1), .int (iI 0), .int (iI 0)])), (h, .inr (10, [.ref g, .ref cl, .ref rl, .ref lg, .int (iI 0)])), (cl, .inr (2, [.int (iI 0), .ref eZ.1, .int (iI 0)]))]) (ws' := [(m0, .inr (11, [.ref g, .ref h, .ref ht, .ref pq, .int (iI 0), .int (iI 10), .int (iI 1), .int (iI 0), .int (iI 0)])), (h, .inr (10, [.ref g, .ref cl, .ref rl, .ref lg, .int (iI 0)])), (cl, .inr (2, [.int (iI 0), .ref eZ.1, .int (iI 0)]))]) (va_runS (As := [.long (jI p1), .int (iI 0), .int (iI 9)]) (rest := []) ⟨hx, hb, hml, hown, hts⟩ (c_X9_isIn l dC dI cI cO cJ p1 0 9 eZ H.size (by first | assumption | omega) (by first | assumption | omega) (by first | assumption | omega)) (va_cwS 3 hts (gS wg_44 wg_45 wg_22 wg_0) rfl rfl rfl (by decide +kernel) ⟨Nat.le_of_ble_eq_true rfl, Nat.le_of_ble_eq_true rfl⟩) (m_preSZ hE hS hA hZ hK hP hD [] rfl (by decide)) rfl rfl hl.1 rfl (lv_room (Nat.le_of_ble_eq_true rfl)) dX9_over_5 ⟨Nat.le_of_ble_eq_true rfl, Nat.le_of_ble_eq_true rfl⟩) hP hD hS hA [] [0, 1, 2] [0, 1, 2] rfl rfl (by decide) (by decide) rfl (by decide) (fun H locs hP hD hS => ?_)
  obtain ⟨r_1, hr_1⟩ : ∃ z : Int, z = if 0 ≤ p1 ∧ p1 ≤ 9 then 1 else 0 := ⟨_, rfl⟩
  rw [← hr_1]
  have q_2 : (r_1 = 1 ∧ 0 ≤ p1 ∧ p1 ≤ 9) ∨ (r_1 = 0 ∧ ¬ (0 ≤ p1 ∧ p1 ≤ 9)) := (by rw [hr_1]; split <;> omega)
  refine mi_if_eq (tgt := 25) hx hb (by omega) dX9_over_8 (by decide) (fun c_3 => ?_) (fun c_3 => ?_)
  · refine mi_iconst hx hb dX9_over_25 ?_
    exfalso; omega
  · refine lv_iload_n hx hb dX9_over_11 rfl (lv_at hl 3 rfl) ?_
    refine mi_i2l hx hb (by omega) dX9_over_12 ?_
    refine mi_iconst hx hb dX9_over_13 ?_
    refine mi_iconst hx hb dX9_over_14 ?_
    refine m_run (wc := []) (wc' := []) (wr := [(m0, .inr (11, [.ref g, .ref h, .ref ht, .ref pq, .int (iI 0), .int (iI 10), .int (iI 1), .int (iI 0), .int (iI 0)])), (h, .inr (10, [.ref g, .ref cl, .ref rl, .ref lg, .int (iI 0)])), (cl, .inr (2, [.int (iI 0), .ref eZ.1, .int (iI 0)]))]) (ws' := [(m0, .inr (11, [.ref g, .ref h, .ref ht, .ref pq, .int (iI 0), .int (iI 10), .int (iI 1), .int (iI 0), .int (iI 0)])), (h, .inr (10, [.ref g, .ref cl, .ref rl, .ref lg, .int (iI 0)])), (cl, .inr (2, [.int (iI 0), .ref eZ.1, .int (iI 0)]))]) (va_runS (As := [.long (jI p2), .int (iI 0), .int (iI 3)]) (rest := []) ⟨hx, hb, hml, hown, hts⟩ (c_X9_isIn l dC dI cI cO cJ p2 0 3 eZ H.size (by first | assumption | omega) (by first | assumption | omega) (by first | assumption | omega)) (va_cwS 3 hts (gS wg_44 wg_45 wg_22 wg_0) rfl rfl rfl (by decide +kernel) ⟨Nat.le_of_ble_eq_true rfl, Nat.le_of_ble_eq_true rfl⟩) (m_preSZ hE hS hA hZ hK hP hD [] rfl (by decide)) rfl rfl hl.1 rfl (lv_room (Nat.le_of_ble_eq_true rfl)) dX9_over_15 ⟨Nat.le_of_ble_eq_true rfl, Nat.le_of_ble_eq_true rfl⟩) hP hD hS hA [] [0, 1, 2] [0, 1, 2] rfl rfl (by decide) (by decide) rfl (by decide) (fun H locs hP hD hS => ?_)
    obtain ⟨r_4, hr_4⟩ : ∃ z : Int, z = if 0 ≤ p2 ∧ p2 ≤ 3 then 1 else 0 := ⟨_, rfl⟩
    rw [← hr_4]
    have q_5 : (r_4 = 1 ∧ 0 ≤ p2 ∧ p2 ≤ 3) ∨ (r_4 = 0 ∧ ¬ (0 ≤ p2 ∧ p2 ≤ 3)) := (by rw [hr_4]; split <;> omega)
    refine mi_if_eq (tgt := 25) hx hb (by omega) dX9_over_18 (by decide) (fun c_6 => ?_) (fun c_6 => ?_)
    · refine mi_iconst hx hb dX9_over_25 ?_
      exfalso; omega
    · refine mi_iconst hx hb dX9_over_21 ?_
      refine lv_goto (tgt := 26) hx hb dX9_over_22 (by decide) ?_
      refine m_runv (wc := []) (wc' := []) (wr := [(m0, .inr (11, [.ref g, .ref h, .ref ht, .ref pq, .int (iI 0), .int (iI 10), .int (iI 1), .int (iI 0), .int (iI 0)])), (h, .inr (10, [.ref g, .ref cl, .ref rl, .ref lg, .int (iI 0)])), (cl, .inr (2, [.int (iI 0), .ref eZ.1, .int (iI 0)]))]) (ws' := [(m0, .inr (11, [.ref g, .ref h, .ref ht, .ref pq, .int (iI 0), .int (iI 10), .int (iI 1), .int (iI 0), .int (iI 0)])), (h, .inr (10, [.ref g, .ref cl, .ref rl, .ref lg, .int (iI 0)])), (cl, .inr (2, [.int (iI 0), .ref eZ.1, .int (iI 0)]))]) (va_runS (As := [.int (iI 1)]) (rest := []) ⟨hx, hb, hml, hown, hts⟩ (c_X9_needArgument l dC dI cI cO cJ eZ H.size ) (va_cwS 1 hts (gS wg_51 wg_52 wg_22 wg_1) rfl rfl rfl (by decide +kernel) ⟨Nat.le_of_ble_eq_true rfl, Nat.le_of_ble_eq_true rfl⟩) (m_preSZ hE hS hA hZ hK hP hD [] rfl (by decide)) rfl rfl hl.1 rfl (lv_room (Nat.le_of_ble_eq_true rfl)) dX9_over_26 ⟨Nat.le_of_ble_eq_true rfl, Nat.le_of_ble_eq_true rfl⟩) hP hD hS hA [] [0, 1, 2] [0, 1, 2] rfl rfl (by decide) (by decide) rfl (by decide) (fun H locs hP hD hS => ?_)
      refine lv_iload hx hb dX9_over_29 (lv_at hl 4 rfl) ?_
      refine mi_i2l hx hb (by omega) dX9_over_31 ?_
      refine mi_iconst hx hb dX9_over_32 ?_
      refine mi_sipush hx hb dX9_over_33 (by decide) ?_
      refine m_run (wc := []) (wc' := []) (wr := [(m0, .inr (11, [.ref g, .ref h, .ref ht, .ref pq, .int (iI 0), .int (iI 10), .int (iI 1), .int (iI 0), .int (iI 0)])), (h, .inr (10, [.ref g, .ref cl, .ref rl, .ref lg, .int (iI 0)])), (cl, .inr (2, [.int (iI 0), .ref eZ.1, .int (iI 0)]))]) (ws' := [(m0, .inr (11, [.ref g, .ref h, .ref ht, .ref pq, .int (iI 0), .int (iI 10), .int (iI 1), .int (iI 0), .int (iI 0)])), (h, .inr (10, [.ref g, .ref cl, .ref rl, .ref lg, .int (iI 0)])), (cl, .inr (2, [.int (iI 0), .ref eZ.1, .int (iI 0)]))]) (va_runS (As := [.long (jI p3), .int (iI 0), .int (iI 1000)]) (rest := []) ⟨hx, hb, hml, hown, hts⟩ (c_X9_isIn l dC dI cI cO cJ p3 0 1000 eZ H.size (by first | assumption | omega) (by first | assumption | omega) (by first | assumption | omega)) (va_cwS 3 hts (gS wg_44 wg_45 wg_22 wg_0) rfl rfl rfl (by decide +kernel) ⟨Nat.le_of_ble_eq_true rfl, Nat.le_of_ble_eq_true rfl⟩) (m_preSZ hE hS hA hZ hK hP hD [] rfl (by decide)) rfl rfl hl.1 rfl (lv_room (Nat.le_of_ble_eq_true rfl)) dX9_over_36 ⟨Nat.le_of_ble_eq_true rfl, Nat.le_of_ble_eq_true rfl⟩) hP hD hS hA [] [0, 1, 2] [0, 1, 2] rfl rfl (by decide) (by decide) rfl (by decide) (fun H locs hP hD hS => ?_)
      obtain ⟨r_7, hr_7⟩ : ∃ z : Int, z = if 0 ≤ p3 ∧ p3 ≤ 1000 then 1 else 0 := ⟨_, rfl⟩
      rw [← hr_7]
      have q_8 : (r_7 = 1 ∧ 0 ≤ p3 ∧ p3 ≤ 1000) ∨ (r_7 = 0 ∧ ¬ (0 ≤ p3 ∧ p3 ≤ 1000)) := (by rw [hr_7]; split <;> omega)
      rcases (show r_7 = 1 ∨ r_7 = 0 by omega) with e_9 | e_9
      · subst e_9
        refine m_runv (wc := []) (wc' := []) (wr := [(m0, .inr (11, [.ref g, .ref h, .ref ht, .ref pq, .int (iI 0), .int (iI 10), .int (iI 1), .int (iI 0), .int (iI 0)])), (h, .inr (10, [.ref g, .ref cl, .ref rl, .ref lg, .int (iI 0)])), (cl, .inr (2, [.int (iI 0), .ref eZ.1, .int (iI 0)]))]) (ws' := [(m0, .inr (11, [.ref g, .ref h, .ref ht, .ref pq, .int (iI 0), .int (iI 10), .int (iI 1), .int (iI 0), .int (iI 0)])), (h, .inr (10, [.ref g, .ref cl, .ref rl, .ref lg, .int (iI 0)])), (cl, .inr (2, [.int (iI 0), .ref eZ.1, .int (iI 0)]))]) (va_runS (As := [.int (iI 1)]) (rest := []) ⟨hx, hb, hml, hown, hts⟩ (c_X9_needArgument l dC dI cI cO cJ eZ H.size ) (va_cwS 1 hts (gS wg_51 wg_52 wg_22 wg_1) rfl rfl rfl (by decide +kernel) ⟨Nat.le_of_ble_eq_true rfl, Nat.le_of_ble_eq_true rfl⟩) (m_preSZ hE hS hA hZ hK hP hD [] rfl (by decide)) rfl rfl hl.1 rfl (lv_room (Nat.le_of_ble_eq_true rfl)) dX9_over_39 ⟨Nat.le_of_ble_eq_true rfl, Nat.le_of_ble_eq_true rfl⟩) hP hD hS hA [] [0, 1, 2] [0, 1, 2] rfl rfl (by decide) (by decide) rfl (by decide) (fun H locs hP hD hS => ?_)
        refine mi_iconst hx hb dX9_over_42 ?_
        refine lv_istore (lv' := [(5, .int (iI 0)), (0, .ref m0), (1, .int (iI p0)), (2, .int (iI p1)), (3, .int (iI p2)), (4, .int (iI p3))]) hx hb dX9_over_43 hl (by decide) rfl (fun ls hl => ?_)
        refine lv_ldc (v := iI (-1000000)) hx hb hown (by rw [show iI (-1000000) = (-1000000 : Int32) by decide]; exact hk200) dX9_over_45 ?_
        refine lv_istore (lv' := [(6, .int (iI (-1000000))), (5, .int (iI 0)), (0, .ref m0), (1, .int (iI p0)), (2, .int (iI p1)), (3, .int (iI p2)), (4, .int (iI p3))]) hx hb dX9_over_47 hl (by decide) rfl (fun ls hl => ?_)
        refine mi_iconst hx hb dX9_over_49 ?_
        refine lv_istore (lv' := [(7, .int (iI 0)), (6, .int (iI (-1000000))), (5, .int (iI 0)), (0, .ref m0), (1, .int (iI p0)), (2, .int (iI p1)), (3, .int (iI p2)), (4, .int (iI p3))]) hx hb dX9_over_50 hl (by decide) rfl (fun ls hl => ?_)
        refine lv_iload hx hb dX9_over_52 (lv_at hl 0 rfl) ?_
        refine lv_aload_n hx hb dX9_over_54 rfl (lv_at hl 3 rfl) ?_
        refine va_get (ci := 11) (v := .ref h) (C := RX9) (T := TX9) (N := 9) hx hb hts (gh hg_X9) hown hK hP 0 rfl rfl 1 (by decide) hf21 (fun _ h9 => h9) rfl dX9_over_55 ?_
        refine va_get (ci := 10) (v := .ref cl) (C := RX8) (T := TX8) (N := 5) hx hb hts (gh hg_X8) hown hK hP 1 rfl rfl 1 (by decide) hf59 (fun _ h9 => h9) rfl dX9_over_58 ?_
        refine m_run (wc := [(cl, .inr (2, [.int (iI 0), .ref eZ.1, .int (iI 0)]))]) (wc' := [(cl, .inr (2, [.int (iI 0), .ref eZ.1, .int (iI 0)]))]) (wr := [(m0, .inr (11, [.ref g, .ref h, .ref ht, .ref pq, .int (iI 0), .int (iI 10), .int (iI 1), .int (iI 0), .int (iI 0)])), (h, .inr (10, [.ref g, .ref cl, .ref rl, .ref lg, .int (iI 0)]))]) (ws' := [(m0, .inr (11, [.ref g, .ref h, .ref ht, .ref pq, .int (iI 0), .int (iI 10), .int (iI 1), .int (iI 0), .int (iI 0)])), (h, .inr (10, [.ref g, .ref cl, .ref rl, .ref lg, .int (iI 0)])), (cl, .inr (2, [.int (iI 0), .ref eZ.1, .int (iI 0)]))]) (va_runV (As := []) (rest := [.int (iI 0)]) ⟨hx, hb, hml, hown, hts⟩ (c_Jx4a65c_size_8abf5 l dC dI cI cO cJ cl eZ.1 0 0 eZ H.size ) (cwV 0 hts (gV wg_12 wg_13 wg_14 wg_15 wg_9) rfl rfl rfl (by decide +kernel) ⟨Nat.le_of_ble_eq_true rfl, Nat.le_of_ble_eq_true rfl⟩) (m_preVZ hE hS hA hZ hK hP hD [2] rfl (by decide) (va_recv hK hP (ci := 2) (q0 := 2) rfl rfl)) rfl rfl hl.1 rfl (lv_room (Nat.le_of_ble_eq_true rfl)) dX9_over_61 ⟨Nat.le_of_ble_eq_true rfl, Nat.le_of_ble_eq_true rfl⟩) hP hD hS hA [2] [0, 1] [0, 1, 2] rfl rfl (by decide) (by decide) rfl (by decide) (fun H locs hP hD hS => ?_)
        refine mi_icmp_ge (tgt := 145) hx hb (by decide) (by decide) dX9_over_64 (by decide) (fun c_10 => ?_) (fun c_10 => ?_)
        · refine lv_iload_n hx hb dX9_over_145 rfl (lv_at hl 6 rfl) ?_
          refine mi_iconst hx hb dX9_over_146 ?_
          refine mi_icmp_ne (tgt := 155) hx hb (by omega) (by decide) dX9_over_147 (by decide) (fun c_11 => ?_) (fun c_11 => ?_)
          · refine lv_iload hx hb dX9_over_155 (lv_at hl 1 rfl) ?_
            have hP : va_P (dC, dI) vwCl [] H := hP.sub [] rfl
            have hD : va_D A [] := hD.sub [] (by decide) rfl
            exact mi_iret hx hb hQ hr hlocks hAe hsz hP hD hS (by first | exact (if_pos (by omega)).symm | exact (if_neg (by omega)).symm) rfl dX9_over_157
          · refine lv_iload hx hb dX9_over_150 (lv_at hl 2 rfl) ?_
            refine lv_goto (tgt := 157) hx hb dX9_over_152 (by decide) ?_
            have hP : va_P (dC, dI) vwCl [] H := hP.sub [] rfl
            have hD : va_D A [] := hD.sub [] (by decide) rfl
            exact mi_iret hx hb hQ hr hlocks hAe hsz hP hD hS (by first | exact (if_pos (by omega)).symm | exact (if_neg (by omega)).symm) rfl dX9_over_157
        · exfalso; omega
      · subst e_9
        exfalso; omega

set_option maxRecDepth 100000 in
set_option maxHeartbeats 4000000 in
theorem c_X9_digest (l : Launch) (dC : Nat → ClassId) (dI : Nat → Nat → Nat) (cI cO cJ : ClassId) (m0 : Nat) (g : Nat) (h : Nat) (ht : Nat) (pq : Nat) (cl : Nat) (rl : Nat) (lg : Nat) (qe : Nat) (eZ : Nat × Nat) (sz : Nat) : Met l yX9_digest (gw (.code yX9_digest cX9_digest 5 (some .long))) ({ frames := 1, cells := 0, slots := 0, locals := 20 }) (mPcZ (dC, dI) [(cI, .int), (cO, .object "java/lang/Object"), (cJ, .long)] eZ [.ref m0] sz [(m0, .inr (11, [.ref g, .ref h, .ref ht, .ref pq, .int (iI 0), .int (iI 10), .int (iI 1), .int (iI 0), .int (iI 0)])), (h, .inr (10, [.ref g, .ref cl, .ref rl, .ref lg, .int (iI 0)])), (cl, .inr (2, [.int (iI 0), .ref eZ.1, .int (iI 0)])), (rl, .inr (2, [.int (iI 0), .ref eZ.1, .int (iI 0)])), (lg, .inr (4, [.ref qe, .int (iI 0), .int (iI 0)]))]) (mQl (dC, dI) [(m0, .inr (11, [.ref g, .ref h, .ref ht, .ref pq, .int (iI 0), .int (iI 10), .int (iI 1), .int (iI 0), .int (iI 0)])), (h, .inr (10, [.ref g, .ref cl, .ref rl, .ref lg, .int (iI 0)])), (cl, .inr (2, [.int (iI 0), .ref eZ.1, .int (iI 0)])), (rl, .inr (2, [.int (iI 0), .ref eZ.1, .int (iI 0)])), (lg, .inr (4, [.ref qe, .int (iI 0), .int (iI 0)]))] [(m0, .inr (11, [.ref g, .ref h, .ref ht, .ref pq, .int (iI 0), .int (iI 10), .int (iI 1), .int (iI 0), .int (iI 0)])), (h, .inr (10, [.ref g, .ref cl, .ref rl, .ref lg, .int (iI 0)])), (cl, .inr (2, [.int (iI 0), .ref eZ.1, .int (iI 0)])), (rl, .inr (2, [.int (iI 0), .ref eZ.1, .int (iI 0)])), (lg, .inr (4, [.ref qe, .int (iI 0), .int (iI 0)]))] sz ((((58058 * 31 + 0) * 31 + 0) * 31 + 0) * 31 + 0)) 0 0 (va_A [(m0, .inr (11, [.ref g, .ref h, .ref ht, .ref pq, .int (iI 0), .int (iI 10), .int (iI 1), .int (iI 0), .int (iI 0)])), (h, .inr (10, [.ref g, .ref cl, .ref rl, .ref lg, .int (iI 0)])), (cl, .inr (2, [.int (iI 0), .ref eZ.1, .int (iI 0)])), (rl, .inr (2, [.int (iI 0), .ref eZ.1, .int (iI 0)])), (lg, .inr (4, [.ref qe, .int (iI 0), .int (iI 0)]))] sz) := by
  refine mMetZ (cc := cX9_digest) (maxL := 5) (ret := (some .long)) (by decide) rfl (Nat.le_of_ble_eq_true rfl) ?_
  intro p e s m args below meth c A ls hx hb hr hts hown hlocks hin hml hAe hsz hA hD H hHe hP hK hZ hE hS hl Q hQ
  have hl : lv_has ls 5 [(0, .ref m0)] := hl
  have hk255 := hts (.constantLong RX9 255 (58058)) (gm wg_206)
  have hk257 := hts (.constantLong RX9 257 (31)) (gm wg_207)
  have hf21 := hts (.fieldLink RX9 21 "MeridianSeries" "store" "LMeridianSeries$Store;") (gm wg_10)
  have hf141 := hts (.fieldLink RX9 141 "MeridianSeries$Store" "now" "I") (gm wg_77)
  have hf59 := hts (.fieldLink RX9 59 "MeridianSeries$Store" "chains" "Ljava/util/ArrayList;") (gm wg_11)
  have hf48 := hts (.fieldLink RX9 48 "MeridianSeries" "lateCount" "I") (gm wg_80)
  have hf129 := hts (.fieldLink RX9 129 "MeridianSeries$Store" "log" "LMeridianSeries$EventLog;") (gm wg_48)
  have hf133 := hts (.fieldLink RX9 133 "MeridianSeries$EventLog" "total" "I") (gm wg_49)
  have hf216 := hts (.fieldLink RX9 216 "MeridianSeries$Store" "rules" "Ljava/util/ArrayList;") (gm wg_17)
  refine lv_ldc2 (v := jI 58058) hx hb hown hk255 dX9_digest_0 ?_
  refine lv_lstore_n (lv' := [(1, .long (jI 58058)), (0, .ref m0)]) hx hb dX9_digest_3 rfl hl (by decide) rfl (fun ls hl => ?_)
  refine lv_lload_n hx hb dX9_digest_4 rfl (lv_at hl 0 rfl) ?_
  refine lv_ldc2 (v := jI 31) hx hb hown hk257 dX9_digest_5 ?_
  refine mi_lmul hx hb dX9_digest_8 ?_
  refine lv_aload_n hx hb dX9_digest_9 rfl (lv_at hl 1 rfl) ?_
  refine va_get (ci := 11) (v := .ref h) (C := RX9) (T := TX9) (N := 9) hx hb hts (gh hg_X9) hown hK hP 0 rfl rfl 1 (by decide) hf21 (fun _ h9 => h9) rfl dX9_digest_10 ?_
  refine va_get (ci := 10) (v := .int (iI 0)) (C := RX8) (T := TX8) (N := 5) hx hb hts (gh hg_X8) hown hK hP 1 rfl rfl 4 (by decide) hf141 (fun _ h9 => h9) rfl dX9_digest_13 ?_
  refine mi_i2l hx hb (by decide) dX9_digest_16 ?_
  refine mi_ladd hx hb dX9_digest_17 ?_
  refine lv_lstore_n (lv' := [(1, .long (jI ((58058 * 31) + 0))), (0, .ref m0)]) hx hb dX9_digest_18 rfl hl (by decide) rfl (fun ls hl => ?_)
  refine lv_lload_n hx hb dX9_digest_19 rfl (lv_at hl 0 rfl) ?_
  refine lv_ldc2 (v := jI 31) hx hb hown hk257 dX9_digest_20 ?_
  refine mi_lmul hx hb dX9_digest_23 ?_
  refine lv_aload_n hx hb dX9_digest_24 rfl (lv_at hl 1 rfl) ?_
  refine va_get (ci := 11) (v := .ref h) (C := RX9) (T := TX9) (N := 9) hx hb hts (gh hg_X9) hown hK hP 0 rfl rfl 1 (by decide) hf21 (fun _ h9 => h9) rfl dX9_digest_25 ?_
  refine va_get (ci := 10) (v := .ref cl) (C := RX8) (T := TX8) (N := 5) hx hb hts (gh hg_X8) hown hK hP 1 rfl rfl 1 (by decide) hf59 (fun _ h9 => h9) rfl dX9_digest_28 ?_
  refine m_run (wc := [(cl, .inr (2, [.int (iI 0), .ref eZ.1, .int (iI 0)]))]) (wc' := [(cl, .inr (2, [.int (iI 0), .ref eZ.1, .int (iI 0)]))]) (wr := [(m0, .inr (11, [.ref g, .ref h, .ref ht, .ref pq, .int (iI 0), .int (iI 10), .int (iI 1), .int (iI 0), .int (iI 0)])), (h, .inr (10, [.ref g, .ref cl, .ref rl, .ref lg, .int (iI 0)])), (rl, .inr (2, [.int (iI 0), .ref eZ.1, .int (iI 0)])), (lg, .inr (4, [.ref qe, .int (iI 0), .int (iI 0)]))]) (ws' := [(m0, .inr (11, [.ref g, .ref h, .ref ht, .ref pq, .int (iI 0), .int (iI 10), .int (iI 1), .int (iI 0), .int (iI 0)])), (h, .inr (10, [.ref g, .ref cl, .ref rl, .ref lg, .int (iI 0)])), (cl, .inr (2, [.int (iI 0), .ref eZ.1, .int (iI 0)])), (rl, .inr (2, [.int (iI 0), .ref eZ.1, .int (iI 0)])), (lg, .inr (4, [.ref qe, .int (iI 0), .int (iI 0)]))]) (va_runV (As := []) (rest := [.long (jI (((58058 * 31) + 0) * 31))]) ⟨hx, hb, hml, hown, hts⟩ (c_Jx4a65c_size_8abf5 l dC dI cI cO cJ cl eZ.1 0 0 eZ H.size ) (cwV 0 hts (gV wg_12 wg_13 wg_14 wg_15 wg_9) rfl rfl rfl (by decide +kernel) ⟨Nat.le_of_ble_eq_true rfl, Nat.le_of_ble_eq_true rfl⟩) (m_preVZ hE hS hA hZ hK hP hD [2] rfl (by decide) (va_recv hK hP (ci := 2) (q0 := 2) rfl rfl)) rfl rfl hl.1 rfl (lv_room (Nat.le_of_ble_eq_true rfl)) dX9_digest_31 ⟨Nat.le_of_ble_eq_true rfl, Nat.le_of_ble_eq_true rfl⟩) hP hD hS hA [2] [0, 1, 3, 4] [0, 1, 4, 2, 3] rfl rfl (by decide) (by decide) rfl (by decide) (fun H locs hP hD hS => ?_)
  refine mi_i2l hx hb (by decide) dX9_digest_34 ?_
  refine mi_ladd hx hb dX9_digest_35 ?_
  refine lv_lstore_n (lv' := [(1, .long (jI ((((58058 * 31) + 0) * 31) + 0))), (0, .ref m0)]) hx hb dX9_digest_36 rfl hl (by decide) rfl (fun ls hl => ?_)
  refine lv_lload_n hx hb dX9_digest_37 rfl (lv_at hl 0 rfl) ?_
  refine lv_ldc2 (v := jI 31) hx hb hown hk257 dX9_digest_38 ?_
  refine mi_lmul hx hb dX9_digest_41 ?_
  refine lv_aload_n hx hb dX9_digest_42 rfl (lv_at hl 1 rfl) ?_
  refine va_get (ci := 11) (v := .int (iI 0)) (C := RX9) (T := TX9) (N := 9) hx hb hts (gh hg_X9) hown hK hP 0 rfl rfl 8 (by decide) hf48 (fun _ h9 => h9) rfl dX9_digest_43 ?_
  refine mi_i2l hx hb (by decide) dX9_digest_46 ?_
  refine mi_ladd hx hb dX9_digest_47 ?_
  refine lv_lstore_n (lv' := [(1, .long (jI ((((((58058 * 31) + 0) * 31) + 0) * 31) + 0))), (0, .ref m0)]) hx hb dX9_digest_48 rfl hl (by decide) rfl (fun ls hl => ?_)
  refine lv_lload_n hx hb dX9_digest_49 rfl (lv_at hl 0 rfl) ?_
  refine lv_ldc2 (v := jI 31) hx hb hown hk257 dX9_digest_50 ?_
  refine mi_lmul hx hb dX9_digest_53 ?_
  refine lv_aload_n hx hb dX9_digest_54 rfl (lv_at hl 1 rfl) ?_
  refine va_get (ci := 11) (v := .ref h) (C := RX9) (T := TX9) (N := 9) hx hb hts (gh hg_X9) hown hK hP 0 rfl rfl 1 (by decide) hf21 (fun _ h9 => h9) rfl dX9_digest_55 ?_
  refine va_get (ci := 10) (v := .ref lg) (C := RX8) (T := TX8) (N := 5) hx hb hts (gh hg_X8) hown hK hP 1 rfl rfl 3 (by decide) hf129 (fun _ h9 => h9) rfl dX9_digest_58 ?_
  refine va_get (ci := 4) (v := .int (iI 0)) (C := RX1) (T := TX1) (N := 3) hx hb hts (gh hg_X1) hown hK hP 4 rfl rfl 1 (by decide) hf133 (fun _ h9 => h9) rfl dX9_digest_61 ?_
  refine mi_i2l hx hb (by decide) dX9_digest_64 ?_
  refine mi_ladd hx hb dX9_digest_65 ?_
  refine lv_lstore_n (lv' := [(1, .long (jI ((((((((58058 * 31) + 0) * 31) + 0) * 31) + 0) * 31) + 0))), (0, .ref m0)]) hx hb dX9_digest_66 rfl hl (by decide) rfl (fun ls hl => ?_)
  refine mi_iconst hx hb dX9_digest_67 ?_
  refine lv_istore_n (lv' := [(3, .int (iI 0)), (1, .long (jI ((((((((58058 * 31) + 0) * 31) + 0) * 31) + 0) * 31) + 0))), (0, .ref m0)]) hx hb dX9_digest_68 rfl hl (by decide) rfl (fun ls hl => ?_)
  refine lv_iload_n hx hb dX9_digest_69 rfl (lv_at hl 0 rfl) ?_
  refine lv_aload_n hx hb dX9_digest_70 rfl (lv_at hl 2 rfl) ?_
  refine va_get (ci := 11) (v := .ref h) (C := RX9) (T := TX9) (N := 9) hx hb hts (gh hg_X9) hown hK hP 0 rfl rfl 1 (by decide) hf21 (fun _ h9 => h9) rfl dX9_digest_71 ?_
  refine va_get (ci := 10) (v := .ref cl) (C := RX8) (T := TX8) (N := 5) hx hb hts (gh hg_X8) hown hK hP 1 rfl rfl 1 (by decide) hf59 (fun _ h9 => h9) rfl dX9_digest_74 ?_
  refine m_run (wc := [(cl, .inr (2, [.int (iI 0), .ref eZ.1, .int (iI 0)]))]) (wc' := [(cl, .inr (2, [.int (iI 0), .ref eZ.1, .int (iI 0)]))]) (wr := [(m0, .inr (11, [.ref g, .ref h, .ref ht, .ref pq, .int (iI 0), .int (iI 10), .int (iI 1), .int (iI 0), .int (iI 0)])), (h, .inr (10, [.ref g, .ref cl, .ref rl, .ref lg, .int (iI 0)])), (rl, .inr (2, [.int (iI 0), .ref eZ.1, .int (iI 0)])), (lg, .inr (4, [.ref qe, .int (iI 0), .int (iI 0)]))]) (ws' := [(m0, .inr (11, [.ref g, .ref h, .ref ht, .ref pq, .int (iI 0), .int (iI 10), .int (iI 1), .int (iI 0), .int (iI 0)])), (h, .inr (10, [.ref g, .ref cl, .ref rl, .ref lg, .int (iI 0)])), (cl, .inr (2, [.int (iI 0), .ref eZ.1, .int (iI 0)])), (rl, .inr (2, [.int (iI 0), .ref eZ.1, .int (iI 0)])), (lg, .inr (4, [.ref qe, .int (iI 0), .int (iI 0)]))]) (va_runV (As := []) (rest := [.int (iI 0)]) ⟨hx, hb, hml, hown, hts⟩ (c_Jx4a65c_size_8abf5 l dC dI cI cO cJ cl eZ.1 0 0 eZ H.size ) (cwV 0 hts (gV wg_12 wg_13 wg_14 wg_15 wg_9) rfl rfl rfl (by decide +kernel) ⟨Nat.le_of_ble_eq_true rfl, Nat.le_of_ble_eq_true rfl⟩) (m_preVZ hE hS hA hZ hK hP hD [2] rfl (by decide) (va_recv hK hP (ci := 2) (q0 := 2) rfl rfl)) rfl rfl hl.1 rfl (lv_room (Nat.le_of_ble_eq_true rfl)) dX9_digest_77 ⟨Nat.le_of_ble_eq_true rfl, Nat.le_of_ble_eq_true rfl⟩) hP hD hS hA [2] [0, 1, 3, 4] [0, 1, 4, 2, 3] rfl rfl (by decide) (by decide) rfl (by decide) (fun H locs hP hD hS => ?_)
  refine mi_icmp_ge (tgt := 144) hx hb (by decide) (by decide) dX9_digest_80 (by decide) (fun c_1 => ?_) (fun c_1 => ?_)
  · refine mi_iconst hx hb dX9_digest_144 ?_
    refine lv_istore_n (lv' := [(3, .int (iI 0)), (1, .long (jI ((((((((58058 * 31) + 0) * 31) + 0) * 31) + 0) * 31) + 0))), (0, .ref m0)]) hx hb dX9_digest_145 rfl hl (by decide) rfl (fun ls hl => ?_)
    refine lv_iload_n hx hb dX9_digest_146 rfl (lv_at hl 0 rfl) ?_
    refine lv_aload_n hx hb dX9_digest_147 rfl (lv_at hl 2 rfl) ?_
    refine va_get (ci := 11) (v := .ref h) (C := RX9) (T := TX9) (N := 9) hx hb hts (gh hg_X9) hown hK hP 0 rfl rfl 1 (by decide) hf21 (fun _ h9 => h9) rfl dX9_digest_148 ?_
    refine va_get (ci := 10) (v := .ref rl) (C := RX8) (T := TX8) (N := 5) hx hb hts (gh hg_X8) hown hK hP 1 rfl rfl 2 (by decide) hf216 (fun _ h9 => h9) rfl dX9_digest_151 ?_
    refine m_run (wc := [(rl, .inr (2, [.int (iI 0), .ref eZ.1, .int (iI 0)]))]) (wc' := [(rl, .inr (2, [.int (iI 0), .ref eZ.1, .int (iI 0)]))]) (wr := [(m0, .inr (11, [.ref g, .ref h, .ref ht, .ref pq, .int (iI 0), .int (iI 10), .int (iI 1), .int (iI 0), .int (iI 0)])), (h, .inr (10, [.ref g, .ref cl, .ref rl, .ref lg, .int (iI 0)])), (cl, .inr (2, [.int (iI 0), .ref eZ.1, .int (iI 0)])), (lg, .inr (4, [.ref qe, .int (iI 0), .int (iI 0)]))]) (ws' := [(m0, .inr (11, [.ref g, .ref h, .ref ht, .ref pq, .int (iI 0), .int (iI 10), .int (iI 1), .int (iI 0), .int (iI 0)])), (h, .inr (10, [.ref g, .ref cl, .ref rl, .ref lg, .int (iI 0)])), (cl, .inr (2, [.int (iI 0), .ref eZ.1, .int (iI 0)])), (rl, .inr (2, [.int (iI 0), .ref eZ.1, .int (iI 0)])), (lg, .inr (4, [.ref qe, .int (iI 0), .int (iI 0)]))]) (va_runV (As := []) (rest := [.int (iI 0)]) ⟨hx, hb, hml, hown, hts⟩ (c_Jx4a65c_size_8abf5 l dC dI cI cO cJ rl eZ.1 0 0 eZ H.size ) (cwV 0 hts (gV wg_12 wg_13 wg_14 wg_15 wg_9) rfl rfl rfl (by decide +kernel) ⟨Nat.le_of_ble_eq_true rfl, Nat.le_of_ble_eq_true rfl⟩) (m_preVZ hE hS hA hZ hK hP hD [3] rfl (by decide) (va_recv hK hP (ci := 2) (q0 := 3) rfl rfl)) rfl rfl hl.1 rfl (lv_room (Nat.le_of_ble_eq_true rfl)) dX9_digest_154 ⟨Nat.le_of_ble_eq_true rfl, Nat.le_of_ble_eq_true rfl⟩) hP hD hS hA [3] [0, 1, 2, 4] [0, 1, 2, 4, 3] rfl rfl (by decide) (by decide) rfl (by decide) (fun H locs hP hD hS => ?_)
    refine mi_icmp_ge (tgt := 228) hx hb (by decide) (by decide) dX9_digest_157 (by decide) (fun c_2 => ?_) (fun c_2 => ?_)
    · refine mi_iconst hx hb dX9_digest_228 ?_
      refine lv_istore_n (lv' := [(3, .int (iI 0)), (1, .long (jI ((((((((58058 * 31) + 0) * 31) + 0) * 31) + 0) * 31) + 0))), (0, .ref m0)]) hx hb dX9_digest_229 rfl hl (by decide) rfl (fun ls hl => ?_)
      refine lv_iload_n hx hb dX9_digest_230 rfl (lv_at hl 0 rfl) ?_
      refine mi_iconst hx hb dX9_digest_231 ?_
      refine mi_icmp_ge (tgt := 291) hx hb (by decide) (by decide) dX9_digest_232 (by decide) (fun c_3 => ?_) (fun c_3 => ?_)
      · exfalso; omega
      · refine lv_iload_n hx hb dX9_digest_235 rfl (lv_at hl 0 rfl) ?_
        refine lv_aload_n hx hb dX9_digest_236 rfl (lv_at hl 2 rfl) ?_
        refine va_get (ci := 11) (v := .ref h) (C := RX9) (T := TX9) (N := 9) hx hb hts (gh hg_X9) hown hK hP 0 rfl rfl 1 (by decide) hf21 (fun _ h9 => h9) rfl dX9_digest_237 ?_
        refine va_get (ci := 10) (v := .ref lg) (C := RX8) (T := TX8) (N := 5) hx hb hts (gh hg_X8) hown hK hP 1 rfl rfl 3 (by decide) hf129 (fun _ h9 => h9) rfl dX9_digest_240 ?_
        refine va_get (ci := 4) (v := .int (iI 0)) (C := RX1) (T := TX1) (N := 3) hx hb hts (gh hg_X1) hown hK hP 4 rfl rfl 1 (by decide) hf133 (fun _ h9 => h9) rfl dX9_digest_243 ?_
        refine mi_icmp_ge (tgt := 291) hx hb (by decide) (by decide) dX9_digest_246 (by decide) (fun c_4 => ?_) (fun c_4 => ?_)
        · refine lv_lload_n hx hb dX9_digest_291 rfl (lv_at hl 1 rfl) ?_
          exact mi_lret hx hb hQ hr hlocks hAe hsz hP hD hS (by first | rfl | omega | (split <;> omega)) rfl dX9_digest_292
        · exfalso; omega
    · exfalso; omega
  · exfalso; omega

set_option maxRecDepth 100000 in
set_option maxHeartbeats 4000000 in
theorem c_X7_init (l : Launch) (dC : Nat → ClassId) (dI : Nat → Nat → Nat) (cI cO cJ : ClassId) (h : Nat) (eZ : Nat × Nat) (sz : Nat) : Met l yX7_init (gw (.code yX7_init cX7_init 1 none)) ({ frames := 1, cells := 0, slots := 0, locals := 21 }) (mPcZ (dC, dI) [(cI, .int), (cO, .object "java/lang/Object"), (cJ, .long)] eZ [.ref h] sz [(h, .inr (9, [.int (iI 0), .int (iI 0), .int (iI 0), .int (iI 0), .int (iI 0)]))]) (mQv (dC, dI) [(h, .inr (9, [.int (iI 0), .int (iI 0), .int (iI 0), .int (iI 0), .int (iI 0)]))] [(h, .inr (9, [.int (iI 8), .int (iI 10), .int (iI 6), .int (iI 0), .int (iI 0)]))] sz) 0 0 (va_A [(h, .inr (9, [.int (iI 0), .int (iI 0), .int (iI 0), .int (iI 0), .int (iI 0)]))] sz) := by
  refine mMetZ (cc := cX7_init) (maxL := 1) (ret := none) (by decide) rfl (Nat.le_of_ble_eq_true rfl) ?_
  intro p e s m args below meth c A ls hx hb hr hts hown hlocks hin hml hAe hsz hA hD H hHe hP hK hZ hE hS hl Q hQ
  have hl : lv_has ls 1 [(0, .ref h)] := hl
  have hoi1 := hts (.methodLink RX7 1 objectInit) (gm wg_209)
  have hoii := hts (.instanceMethod objectInit) (gm wg_210)
  have hoic := hts (.code objectInit ⟨#[0xb1]⟩ 1 none) (gm wg_211)
  have hf7 := hts (.fieldLink RX7 7 "MeridianSeries$Settings" "span" "I") (gm wg_212)
  have hf13 := hts (.fieldLink RX7 13 "MeridianSeries$Settings" "width" "I") (gm wg_213)
  have hf16 := hts (.fieldLink RX7 16 "MeridianSeries$Settings" "fold" "I") (gm wg_214)
  have hf19 := hts (.fieldLink RX7 19 "MeridianSeries$Settings" "keep" "I") (gm wg_215)
  have hf22 := hts (.fieldLink RX7 22 "MeridianSeries$Settings" "longKeep" "I") (gm wg_216)
  refine lv_aload_n hx hb dX7_init_0 rfl (lv_at hl 0 rfl) ?_
  refine W.objInit hx hb hown hoi1 hoii hoic rfl (by rw [hml]; exact hl.1) rfl dX7_init_1 (Nat.le_of_ble_eq_true rfl) (Nat.le_of_ble_eq_true rfl) ?_
  refine W.eq (g2 := F0 m 4 ls []) rfl ?_
  refine lv_aload_n hx hb dX7_init_4 rfl (lv_at hl 0 rfl) ?_
  refine mi_bipush hx hb dX7_init_5 (by decide) ?_
  refine va_put (D := (dC, dI)) (ci := 9) (v := .int (iI 8)) (ty := .int) (C := RX7) (T := TX7) (N := 5) hx hb hts (gh hg_X7) tyX7 tyX7_ok nmX7 hown hK hP hD hS 0 rfl rfl 0 (by decide) hf7 (fun _ h9 => h9) rfl (by decide +kernel) rfl rfl (Nat.le_of_ble_eq_true rfl) dX7_init_7 (fun H locs hP hD hS => ?_)
  have hP : va_P (dC, dI) vwCl [(h, .inr (9, [.int (iI 8), .int (iI 0), .int (iI 0), .int (iI 0), .int (iI 0)]))] H := hP
  have hD : va_D A [(h, .inr (9, [.int (iI 8), .int (iI 0), .int (iI 0), .int (iI 0), .int (iI 0)]))] := hD
  refine lv_aload_n hx hb dX7_init_10 rfl (lv_at hl 0 rfl) ?_
  refine mi_bipush hx hb dX7_init_11 (by decide) ?_
  refine va_put (D := (dC, dI)) (ci := 9) (v := .int (iI 10)) (ty := .int) (C := RX7) (T := TX7) (N := 5) hx hb hts (gh hg_X7) tyX7 tyX7_ok nmX7 hown hK hP hD hS 0 rfl rfl 1 (by decide) hf13 (fun _ h9 => h9) rfl (by decide +kernel) rfl rfl (Nat.le_of_ble_eq_true rfl) dX7_init_13 (fun H locs hP hD hS => ?_)
  have hP : va_P (dC, dI) vwCl [(h, .inr (9, [.int (iI 8), .int (iI 10), .int (iI 0), .int (iI 0), .int (iI 0)]))] H := hP
  have hD : va_D A [(h, .inr (9, [.int (iI 8), .int (iI 10), .int (iI 0), .int (iI 0), .int (iI 0)]))] := hD
  refine lv_aload_n hx hb dX7_init_16 rfl (lv_at hl 0 rfl) ?_
  refine mi_bipush hx hb dX7_init_17 (by decide) ?_
  refine va_put (D := (dC, dI)) (ci := 9) (v := .int (iI 6)) (ty := .int) (C := RX7) (T := TX7) (N := 5) hx hb hts (gh hg_X7) tyX7 tyX7_ok nmX7 hown hK hP hD hS 0 rfl rfl 2 (by decide) hf16 (fun _ h9 => h9) rfl (by decide +kernel) rfl rfl (Nat.le_of_ble_eq_true rfl) dX7_init_19 (fun H locs hP hD hS => ?_)
  have hP : va_P (dC, dI) vwCl [(h, .inr (9, [.int (iI 8), .int (iI 10), .int (iI 6), .int (iI 0), .int (iI 0)]))] H := hP
  have hD : va_D A [(h, .inr (9, [.int (iI 8), .int (iI 10), .int (iI 6), .int (iI 0), .int (iI 0)]))] := hD
  refine lv_aload_n hx hb dX7_init_22 rfl (lv_at hl 0 rfl) ?_
  refine mi_iconst hx hb dX7_init_23 ?_
  refine va_put (D := (dC, dI)) (ci := 9) (v := .int (iI 0)) (ty := .int) (C := RX7) (T := TX7) (N := 5) hx hb hts (gh hg_X7) tyX7 tyX7_ok nmX7 hown hK hP hD hS 0 rfl rfl 3 (by decide) hf19 (fun _ h9 => h9) rfl (by decide +kernel) rfl rfl (Nat.le_of_ble_eq_true rfl) dX7_init_24 (fun H locs hP hD hS => ?_)
  have hP : va_P (dC, dI) vwCl [(h, .inr (9, [.int (iI 8), .int (iI 10), .int (iI 6), .int (iI 0), .int (iI 0)]))] H := hP
  have hD : va_D A [(h, .inr (9, [.int (iI 8), .int (iI 10), .int (iI 6), .int (iI 0), .int (iI 0)]))] := hD
  refine lv_aload_n hx hb dX7_init_27 rfl (lv_at hl 0 rfl) ?_
  refine mi_iconst hx hb dX7_init_28 ?_
  refine va_put (D := (dC, dI)) (ci := 9) (v := .int (iI 0)) (ty := .int) (C := RX7) (T := TX7) (N := 5) hx hb hts (gh hg_X7) tyX7 tyX7_ok nmX7 hown hK hP hD hS 0 rfl rfl 4 (by decide) hf22 (fun _ h9 => h9) rfl (by decide +kernel) rfl rfl (Nat.le_of_ble_eq_true rfl) dX7_init_29 (fun H locs hP hD hS => ?_)
  have hP : va_P (dC, dI) vwCl [(h, .inr (9, [.int (iI 8), .int (iI 10), .int (iI 6), .int (iI 0), .int (iI 0)]))] H := hP
  have hD : va_D A [(h, .inr (9, [.int (iI 8), .int (iI 10), .int (iI 6), .int (iI 0), .int (iI 0)]))] := hD
  exact mi_vret hx hb hQ hr hlocks hAe hsz hP hD hS rfl dX7_init_32

set_option maxRecDepth 100000 in
set_option maxHeartbeats 4000000 in
theorem c_X2_init_X0 (l : Launch) (dC : Nat → ClassId) (dI : Nat → Nat → Nat) (cI cO cJ : ClassId) (h : Nat) (eZ : Nat × Nat) (sz : Nat) : Met l yX2_init (gw (.code yX2_init cX2_init 1 none)) ({ frames := 1, cells := 0, slots := 0, locals := 21 }) (mPcZ (dC, dI) [(cI, .int), (cO, .object "java/lang/Object"), (cJ, .long)] eZ [.ref h] sz [(h, .inr (3, [.int (iI 0), .null]))]) (mQv (dC, dI) [(h, .inr (3, [.int (iI 0), .null]))] [(h, .inr (3, [.int (iI 0), .null]))] sz) 0 0 (va_A [(h, .inr (3, [.int (iI 0), .null]))] sz) := by
  refine mMetZ (cc := cX2_init) (maxL := 1) (ret := none) (by decide) rfl (Nat.le_of_ble_eq_true rfl) ?_
  intro p e s m args below meth c A ls hx hb hr hts hown hlocks hin hml hAe hsz hA hD H hHe hP hK hZ hE hS hl Q hQ
  have hl : lv_has ls 1 [(0, .ref h)] := hl
  have hoi1 := hts (.methodLink RX2 1 objectInit) (gm wg_218)
  have hoii := hts (.instanceMethod objectInit) (gm wg_210)
  have hoic := hts (.code objectInit ⟨#[0xb1]⟩ 1 none) (gm wg_211)
  have hf7 := hts (.fieldLink RX2 7 "MeridianSeries$Items" "amount" "I") (gm wg_219)
  refine lv_aload_n hx hb dX2_init_0 rfl (lv_at hl 0 rfl) ?_
  refine W.objInit hx hb hown hoi1 hoii hoic rfl (by rw [hml]; exact hl.1) rfl dX2_init_1 (Nat.le_of_ble_eq_true rfl) (Nat.le_of_ble_eq_true rfl) ?_
  refine W.eq (g2 := F0 m 4 ls []) rfl ?_
  refine lv_aload_n hx hb dX2_init_4 rfl (lv_at hl 0 rfl) ?_
  refine mi_iconst hx hb dX2_init_5 ?_
  refine va_put (D := (dC, dI)) (ci := 3) (v := .int (iI 0)) (ty := .int) (C := RX0) (T := TX0) (N := 2) hx hb hts (gh hg_X0) tyX0 tyX0_ok nmX0 hown hK hP hD hS 0 rfl rfl 0 (by decide) hf7 (fun _ h9 => h9) rfl (by decide +kernel) rfl rfl (Nat.le_of_ble_eq_true rfl) dX2_init_6 (fun H locs hP hD hS => ?_)
  have hP : va_P (dC, dI) vwCl [(h, .inr (3, [.int (iI 0), .null]))] H := hP
  have hD : va_D A [(h, .inr (3, [.int (iI 0), .null]))] := hD
  exact mi_vret hx hb hQ hr hlocks hAe hsz hP hD hS rfl dX2_init_9

set_option maxRecDepth 100000 in
set_option maxHeartbeats 4000000 in
theorem c_X2_init_X4 (l : Launch) (dC : Nat → ClassId) (dI : Nat → Nat → Nat) (cI cO cJ : ClassId) (h : Nat) (eZ : Nat × Nat) (sz : Nat) : Met l yX2_init (gw (.code yX2_init cX2_init 1 none)) ({ frames := 1, cells := 0, slots := 0, locals := 21 }) (mPcZ (dC, dI) [(cI, .int), (cO, .object "java/lang/Object"), (cJ, .long)] eZ [.ref h] sz [(h, .inr (6, [.int (iI 0), .null, .null, .null, .int (iI 0), .int (iI 0), .int (iI 0)]))]) (mQv (dC, dI) [(h, .inr (6, [.int (iI 0), .null, .null, .null, .int (iI 0), .int (iI 0), .int (iI 0)]))] [(h, .inr (6, [.int (iI 0), .null, .null, .null, .int (iI 0), .int (iI 0), .int (iI 0)]))] sz) 0 0 (va_A [(h, .inr (6, [.int (iI 0), .null, .null, .null, .int (iI 0), .int (iI 0), .int (iI 0)]))] sz) := by
  refine mMetZ (cc := cX2_init) (maxL := 1) (ret := none) (by decide) rfl (Nat.le_of_ble_eq_true rfl) ?_
  intro p e s m args below meth c A ls hx hb hr hts hown hlocks hin hml hAe hsz hA hD H hHe hP hK hZ hE hS hl Q hQ
  have hl : lv_has ls 1 [(0, .ref h)] := hl
  have hoi1 := hts (.methodLink RX2 1 objectInit) (gm wg_218)
  have hoii := hts (.instanceMethod objectInit) (gm wg_210)
  have hoic := hts (.code objectInit ⟨#[0xb1]⟩ 1 none) (gm wg_211)
  have hf7 := hts (.fieldLink RX2 7 "MeridianSeries$Items" "amount" "I") (gm wg_219)
  refine lv_aload_n hx hb dX2_init_0 rfl (lv_at hl 0 rfl) ?_
  refine W.objInit hx hb hown hoi1 hoii hoic rfl (by rw [hml]; exact hl.1) rfl dX2_init_1 (Nat.le_of_ble_eq_true rfl) (Nat.le_of_ble_eq_true rfl) ?_
  refine W.eq (g2 := F0 m 4 ls []) rfl ?_
  refine lv_aload_n hx hb dX2_init_4 rfl (lv_at hl 0 rfl) ?_
  refine mi_iconst hx hb dX2_init_5 ?_
  refine va_put (D := (dC, dI)) (ci := 6) (v := .int (iI 0)) (ty := .int) (C := RX4) (T := TX4) (N := 7) hx hb hts (gh hg_X4) tyX4 tyX4_ok nmX4 hown hK hP hD hS 0 rfl rfl 0 (by decide) hf7 (fun _ h9 => h9) rfl (by decide +kernel) rfl rfl (Nat.le_of_ble_eq_true rfl) dX2_init_6 (fun H locs hP hD hS => ?_)
  have hP : va_P (dC, dI) vwCl [(h, .inr (6, [.int (iI 0), .null, .null, .null, .int (iI 0), .int (iI 0), .int (iI 0)]))] H := hP
  have hD : va_D A [(h, .inr (6, [.int (iI 0), .null, .null, .null, .int (iI 0), .int (iI 0), .int (iI 0)]))] := hD
  exact mi_vret hx hb hQ hr hlocks hAe hsz hP hD hS rfl dX2_init_9

set_option maxRecDepth 100000 in
set_option maxHeartbeats 4000000 in
theorem c_X0_init (l : Launch) (dC : Nat → ClassId) (dI : Nat → Nat → Nat) (cI cO cJ : ClassId) (h : Nat) (eZ : Nat × Nat) (sz : Nat) : Met l yX0_init (gw (.code yX0_init cX0_init 1 none)) ({ frames := 2, cells := 1, slots := 175, locals := 41 }) (mPcZ (dC, dI) [(cI, .int), (cO, .object "java/lang/Object"), (cJ, .long)] eZ [.ref h] sz [(h, .inr (3, [.int (iI 0), .null]))]) (mQv (dC, dI) [(h, .inr (3, [.int (iI 0), .null]))] [] sz) 1 175 (va_A [(h, .inr (3, [.int (iI 0), .null]))] sz) := by
  refine mMetZ (cc := cX0_init) (maxL := 1) (ret := none) (by decide) rfl (Nat.le_of_ble_eq_true rfl) ?_
  intro p e s m args below meth c A ls hx hb hr hts hown hlocks hin hml hAe hsz hA hD H hHe hP hK hZ hE hS hl Q hQ
  have hl : lv_has ls 1 [(0, .ref h)] := hl
  have harrI := hts (.arrayClass .int) (gm wg_223)
  have hf11 := hts (.fieldLink RX0 11 "MeridianSeries$Buckets" "cells" "[I") (gm wg_224)
  refine lv_aload_n hx hb dX0_init_0 rfl (lv_at hl 0 rfl) ?_
  refine m_runv (wc := [(h, .inr (3, [.int (iI 0), .null]))]) (wc' := [(h, .inr (3, [.int (iI 0), .null]))]) (wr := []) (ws' := [(h, .inr (3, [.int (iI 0), .null]))]) (va_runIN (As := []) (rest := []) ⟨hx, hb, hml, hown, hts⟩ (c_X2_init_X0 l dC dI cI cO cJ h eZ H.size ) ⟨va_cnB 0 hts (gI wg_220) rfl rfl rfl (hZ _ (List.mem_of_getElem? (i := 2) rfl)) (hts (.initialized RX2) (gm wg_221)) (by decide +kernel) ⟨Nat.le_of_ble_eq_true rfl, Nat.le_of_ble_eq_true rfl⟩, rfl, hts (.instanceMethod yX2_init) (gm wg_222)⟩ (m_preSZ hE hS hA hZ hK hP hD [0] rfl (by decide)) rfl rfl hl.1 rfl (lv_room (Nat.le_of_ble_eq_true rfl)) dX0_init_1 ⟨Nat.le_of_ble_eq_true rfl, Nat.le_of_ble_eq_true rfl⟩) hP hD hS hA [0] [] [0] rfl rfl (by decide) (by decide) rfl (by decide) (fun H locs hP hD hS => ?_)
  refine lv_aload_n hx hb dX0_init_4 rfl (lv_at hl 0 rfl) ?_
  refine mi_sipush hx hb dX0_init_5 (by decide) ?_
  refine mi_newa (N := 175) hx hb harrI hK rfl hP hD hS hA (by decide) (by decide) (Nat.le_of_ble_eq_true rfl) (Nat.le_of_ble_eq_true rfl) dX0_init_8 (fun a_1 H hP hD hS => ?_)
  have hP : va_P (dC, dI) vwCl [(h, .inr (3, [.int (iI 0), .null])), (a_1, .inl (cI, 175, .inl (aI (fun _ => 0))))] H := hP
  have hD : va_D A [(h, .inr (3, [.int (iI 0), .null])), (a_1, .inl (cI, 175, .inl (aI (fun _ => 0))))] := hD
  refine va_putF (D := (dC, dI)) (ci := 3) (v := .ref a_1) (ty := .array .int) (C := RX0) (T := TX0) (N := 2) hx hb hts (gh hg_X0) tyX0 tyX0_ok nmX0 hown hK hP hD hS 0 rfl rfl 1 (by decide) hf11 (fun _ h9 => h9) rfl hin rfl (by decide +kernel) rfl rfl (Nat.le_of_ble_eq_true rfl) dX0_init_10 (fun H locs hP hD hS => ?_)
  have hP : va_P (dC, dI) vwCl [(h, .inr (3, [.int (iI 0), .ref a_1])), (a_1, .inl (cI, 175, .inl (aI (fun _ => 0))))] H := hP
  have hD : va_D A [(h, .inr (3, [.int (iI 0), .ref a_1])), (a_1, .inl (cI, 175, .inl (aI (fun _ => 0))))] := hD
  have hP : va_P (dC, dI) vwCl [] H := hP.sub [] rfl
  have hD : va_D A [] := hD.sub [] (by decide) rfl
  exact mi_vret hx hb hQ hr hlocks hAe hsz hP hD hS rfl dX0_init_13

set_option maxRecDepth 100000 in
set_option maxHeartbeats 4000000 in
theorem c_X4_init (l : Launch) (dC : Nat → ClassId) (dI : Nat → Nat → Nat) (cI cO cJ : ClassId) (h : Nat) (eZ : Nat × Nat) (sz : Nat) : Met l yX4_init (gw (.code yX4_init cX4_init 1 none)) ({ frames := 2, cells := 3, slots := 329, locals := 41 }) (mPcZ (dC, dI) [(cI, .int), (cO, .object "java/lang/Object"), (cJ, .long)] eZ [.ref h] sz [(h, .inr (6, [.int (iI 0), .null, .null, .null, .int (iI 0), .int (iI 0), .int (iI 0)]))]) (mQv (dC, dI) [(h, .inr (6, [.int (iI 0), .null, .null, .null, .int (iI 0), .int (iI 0), .int (iI 0)]))] [] sz) 3 329 (va_A [(h, .inr (6, [.int (iI 0), .null, .null, .null, .int (iI 0), .int (iI 0), .int (iI 0)]))] sz) := by
  refine mMetZ (cc := cX4_init) (maxL := 1) (ret := none) (by decide) rfl (Nat.le_of_ble_eq_true rfl) ?_
  intro p e s m args below meth c A ls hx hb hr hts hown hlocks hin hml hAe hsz hA hD H hHe hP hK hZ hE hS hl Q hQ
  have hl : lv_has ls 1 [(0, .ref h)] := hl
  have harrI := hts (.arrayClass .int) (gm wg_223)
  have hf11 := hts (.fieldLink RX4 11 "MeridianSeries$Points" "times" "[I") (gm wg_226)
  have hf15 := hts (.fieldLink RX4 15 "MeridianSeries$Points" "values" "[I") (gm wg_227)
  have hf18 := hts (.fieldLink RX4 18 "MeridianSeries$Points" "sizes" "[I") (gm wg_228)
  have hf21 := hts (.fieldLink RX4 21 "MeridianSeries$Points" "sealedBlocks" "I") (gm wg_229)
  have hf25 := hts (.fieldLink RX4 25 "MeridianSeries$Points" "sealedPoints" "I") (gm wg_230)
  have hf28 := hts (.fieldLink RX4 28 "MeridianSeries$Points" "greatestSealedTime" "I") (gm wg_231)
  refine lv_aload_n hx hb dX4_init_0 rfl (lv_at hl 0 rfl) ?_
  refine m_runv (wc := [(h, .inr (6, [.int (iI 0), .null, .null, .null, .int (iI 0), .int (iI 0), .int (iI 0)]))]) (wc' := [(h, .inr (6, [.int (iI 0), .null, .null, .null, .int (iI 0), .int (iI 0), .int (iI 0)]))]) (wr := []) (ws' := [(h, .inr (6, [.int (iI 0), .null, .null, .null, .int (iI 0), .int (iI 0), .int (iI 0)]))]) (va_runIN (As := []) (rest := []) ⟨hx, hb, hml, hown, hts⟩ (c_X2_init_X4 l dC dI cI cO cJ h eZ H.size ) ⟨va_cnB 0 hts (gI wg_220) rfl rfl rfl (hZ _ (List.mem_of_getElem? (i := 3) rfl)) (hts (.initialized RX2) (gm wg_221)) (by decide +kernel) ⟨Nat.le_of_ble_eq_true rfl, Nat.le_of_ble_eq_true rfl⟩, rfl, hts (.instanceMethod yX2_init) (gm wg_222)⟩ (m_preSZ hE hS hA hZ hK hP hD [0] rfl (by decide)) rfl rfl hl.1 rfl (lv_room (Nat.le_of_ble_eq_true rfl)) dX4_init_1 ⟨Nat.le_of_ble_eq_true rfl, Nat.le_of_ble_eq_true rfl⟩) hP hD hS hA [0] [] [0] rfl rfl (by decide) (by decide) rfl (by decide) (fun H locs hP hD hS => ?_)
  refine lv_aload_n hx hb dX4_init_4 rfl (lv_at hl 0 rfl) ?_
  refine mi_sipush hx hb dX4_init_5 (by decide) ?_
  refine mi_newa (N := 160) hx hb harrI hK rfl hP hD hS hA (by decide) (by decide) (Nat.le_of_ble_eq_true rfl) (Nat.le_of_ble_eq_true rfl) dX4_init_8 (fun a_1 H hP hD hS => ?_)
  have hP : va_P (dC, dI) vwCl [(h, .inr (6, [.int (iI 0), .null, .null, .null, .int (iI 0), .int (iI 0), .int (iI 0)])), (a_1, .inl (cI, 160, .inl (aI (fun _ => 0))))] H := hP
  have hD : va_D A [(h, .inr (6, [.int (iI 0), .null, .null, .null, .int (iI 0), .int (iI 0), .int (iI 0)])), (a_1, .inl (cI, 160, .inl (aI (fun _ => 0))))] := hD
  refine va_putF (D := (dC, dI)) (ci := 6) (v := .ref a_1) (ty := .array .int) (C := RX4) (T := TX4) (N := 7) hx hb hts (gh hg_X4) tyX4 tyX4_ok nmX4 hown hK hP hD hS 0 rfl rfl 1 (by decide) hf11 (fun _ h9 => h9) rfl hin rfl (by decide +kernel) rfl rfl (Nat.le_of_ble_eq_true rfl) dX4_init_10 (fun H locs hP hD hS => ?_)
  have hP : va_P (dC, dI) vwCl [(h, .inr (6, [.int (iI 0), .ref a_1, .null, .null, .int (iI 0), .int (iI 0), .int (iI 0)])), (a_1, .inl (cI, 160, .inl (aI (fun _ => 0))))] H := hP
  have hD : va_D A [(h, .inr (6, [.int (iI 0), .ref a_1, .null, .null, .int (iI 0), .int (iI 0), .int (iI 0)])), (a_1, .inl (cI, 160, .inl (aI (fun _ => 0))))] := hD
  refine lv_aload_n hx hb dX4_init_13 rfl (lv_at hl 0 rfl) ?_
  refine mi_sipush hx hb dX4_init_14 (by decide) ?_
  refine mi_newa (N := 160) hx hb harrI hK rfl hP hD hS hA (by decide) (by decide) (Nat.le_of_ble_eq_true rfl) (Nat.le_of_ble_eq_true rfl) dX4_init_17 (fun a_2 H hP hD hS => ?_)
  have hP : va_P (dC, dI) vwCl [(h, .inr (6, [.int (iI 0), .ref a_1, .null, .null, .int (iI 0), .int (iI 0), .int (iI 0)])), (a_1, .inl (cI, 160, .inl (aI (fun _ => 0)))), (a_2, .inl (cI, 160, .inl (aI (fun _ => 0))))] H := hP
  have hD : va_D A [(h, .inr (6, [.int (iI 0), .ref a_1, .null, .null, .int (iI 0), .int (iI 0), .int (iI 0)])), (a_1, .inl (cI, 160, .inl (aI (fun _ => 0)))), (a_2, .inl (cI, 160, .inl (aI (fun _ => 0))))] := hD
  refine va_putF (D := (dC, dI)) (ci := 6) (v := .ref a_2) (ty := .array .int) (C := RX4) (T := TX4) (N := 7) hx hb hts (gh hg_X4) tyX4 tyX4_ok nmX4 hown hK hP hD hS 0 rfl rfl 2 (by decide) hf15 (fun _ h9 => h9) rfl hin rfl (by decide +kernel) rfl rfl (Nat.le_of_ble_eq_true rfl) dX4_init_19 (fun H locs hP hD hS => ?_)
  have hP : va_P (dC, dI) vwCl [(h, .inr (6, [.int (iI 0), .ref a_1, .ref a_2, .null, .int (iI 0), .int (iI 0), .int (iI 0)])), (a_1, .inl (cI, 160, .inl (aI (fun _ => 0)))), (a_2, .inl (cI, 160, .inl (aI (fun _ => 0))))] H := hP
  have hD : va_D A [(h, .inr (6, [.int (iI 0), .ref a_1, .ref a_2, .null, .int (iI 0), .int (iI 0), .int (iI 0)])), (a_1, .inl (cI, 160, .inl (aI (fun _ => 0)))), (a_2, .inl (cI, 160, .inl (aI (fun _ => 0))))] := hD
  refine lv_aload_n hx hb dX4_init_22 rfl (lv_at hl 0 rfl) ?_
  refine mi_bipush hx hb dX4_init_23 (by decide) ?_
  refine mi_newa (N := 9) hx hb harrI hK rfl hP hD hS hA (by decide) (by decide) (Nat.le_of_ble_eq_true rfl) (Nat.le_of_ble_eq_true rfl) dX4_init_25 (fun a_3 H hP hD hS => ?_)
  have hP : va_P (dC, dI) vwCl [(h, .inr (6, [.int (iI 0), .ref a_1, .ref a_2, .null, .int (iI 0), .int (iI 0), .int (iI 0)])), (a_1, .inl (cI, 160, .inl (aI (fun _ => 0)))), (a_2, .inl (cI, 160, .inl (aI (fun _ => 0)))), (a_3, .inl (cI, 9, .inl (aI (fun _ => 0))))] H := hP
  have hD : va_D A [(h, .inr (6, [.int (iI 0), .ref a_1, .ref a_2, .null, .int (iI 0), .int (iI 0), .int (iI 0)])), (a_1, .inl (cI, 160, .inl (aI (fun _ => 0)))), (a_2, .inl (cI, 160, .inl (aI (fun _ => 0)))), (a_3, .inl (cI, 9, .inl (aI (fun _ => 0))))] := hD
  refine va_putF (D := (dC, dI)) (ci := 6) (v := .ref a_3) (ty := .array .int) (C := RX4) (T := TX4) (N := 7) hx hb hts (gh hg_X4) tyX4 tyX4_ok nmX4 hown hK hP hD hS 0 rfl rfl 3 (by decide) hf18 (fun _ h9 => h9) rfl hin rfl (by decide +kernel) rfl rfl (Nat.le_of_ble_eq_true rfl) dX4_init_27 (fun H locs hP hD hS => ?_)
  have hP : va_P (dC, dI) vwCl [(h, .inr (6, [.int (iI 0), .ref a_1, .ref a_2, .ref a_3, .int (iI 0), .int (iI 0), .int (iI 0)])), (a_1, .inl (cI, 160, .inl (aI (fun _ => 0)))), (a_2, .inl (cI, 160, .inl (aI (fun _ => 0)))), (a_3, .inl (cI, 9, .inl (aI (fun _ => 0))))] H := hP
  have hD : va_D A [(h, .inr (6, [.int (iI 0), .ref a_1, .ref a_2, .ref a_3, .int (iI 0), .int (iI 0), .int (iI 0)])), (a_1, .inl (cI, 160, .inl (aI (fun _ => 0)))), (a_2, .inl (cI, 160, .inl (aI (fun _ => 0)))), (a_3, .inl (cI, 9, .inl (aI (fun _ => 0))))] := hD
  refine lv_aload_n hx hb dX4_init_30 rfl (lv_at hl 0 rfl) ?_
  refine mi_iconst hx hb dX4_init_31 ?_
  refine va_put (D := (dC, dI)) (ci := 6) (v := .int (iI 0)) (ty := .int) (C := RX4) (T := TX4) (N := 7) hx hb hts (gh hg_X4) tyX4 tyX4_ok nmX4 hown hK hP hD hS 0 rfl rfl 4 (by decide) hf21 (fun _ h9 => h9) rfl (by decide +kernel) rfl rfl (Nat.le_of_ble_eq_true rfl) dX4_init_32 (fun H locs hP hD hS => ?_)
  have hP : va_P (dC, dI) vwCl [(h, .inr (6, [.int (iI 0), .ref a_1, .ref a_2, .ref a_3, .int (iI 0), .int (iI 0), .int (iI 0)])), (a_1, .inl (cI, 160, .inl (aI (fun _ => 0)))), (a_2, .inl (cI, 160, .inl (aI (fun _ => 0)))), (a_3, .inl (cI, 9, .inl (aI (fun _ => 0))))] H := hP
  have hD : va_D A [(h, .inr (6, [.int (iI 0), .ref a_1, .ref a_2, .ref a_3, .int (iI 0), .int (iI 0), .int (iI 0)])), (a_1, .inl (cI, 160, .inl (aI (fun _ => 0)))), (a_2, .inl (cI, 160, .inl (aI (fun _ => 0)))), (a_3, .inl (cI, 9, .inl (aI (fun _ => 0))))] := hD
  refine lv_aload_n hx hb dX4_init_35 rfl (lv_at hl 0 rfl) ?_
  refine mi_iconst hx hb dX4_init_36 ?_
  refine va_put (D := (dC, dI)) (ci := 6) (v := .int (iI 0)) (ty := .int) (C := RX4) (T := TX4) (N := 7) hx hb hts (gh hg_X4) tyX4 tyX4_ok nmX4 hown hK hP hD hS 0 rfl rfl 5 (by decide) hf25 (fun _ h9 => h9) rfl (by decide +kernel) rfl rfl (Nat.le_of_ble_eq_true rfl) dX4_init_37 (fun H locs hP hD hS => ?_)
  have hP : va_P (dC, dI) vwCl [(h, .inr (6, [.int (iI 0), .ref a_1, .ref a_2, .ref a_3, .int (iI 0), .int (iI 0), .int (iI 0)])), (a_1, .inl (cI, 160, .inl (aI (fun _ => 0)))), (a_2, .inl (cI, 160, .inl (aI (fun _ => 0)))), (a_3, .inl (cI, 9, .inl (aI (fun _ => 0))))] H := hP
  have hD : va_D A [(h, .inr (6, [.int (iI 0), .ref a_1, .ref a_2, .ref a_3, .int (iI 0), .int (iI 0), .int (iI 0)])), (a_1, .inl (cI, 160, .inl (aI (fun _ => 0)))), (a_2, .inl (cI, 160, .inl (aI (fun _ => 0)))), (a_3, .inl (cI, 9, .inl (aI (fun _ => 0))))] := hD
  refine lv_aload_n hx hb dX4_init_40 rfl (lv_at hl 0 rfl) ?_
  refine mi_iconst hx hb dX4_init_41 ?_
  refine va_put (D := (dC, dI)) (ci := 6) (v := .int (iI (-1))) (ty := .int) (C := RX4) (T := TX4) (N := 7) hx hb hts (gh hg_X4) tyX4 tyX4_ok nmX4 hown hK hP hD hS 0 rfl rfl 6 (by decide) hf28 (fun _ h9 => h9) rfl (by decide +kernel) rfl rfl (Nat.le_of_ble_eq_true rfl) dX4_init_42 (fun H locs hP hD hS => ?_)
  have hP : va_P (dC, dI) vwCl [(h, .inr (6, [.int (iI 0), .ref a_1, .ref a_2, .ref a_3, .int (iI 0), .int (iI 0), .int (iI (-1))])), (a_1, .inl (cI, 160, .inl (aI (fun _ => 0)))), (a_2, .inl (cI, 160, .inl (aI (fun _ => 0)))), (a_3, .inl (cI, 9, .inl (aI (fun _ => 0))))] H := hP
  have hD : va_D A [(h, .inr (6, [.int (iI 0), .ref a_1, .ref a_2, .ref a_3, .int (iI 0), .int (iI 0), .int (iI (-1))])), (a_1, .inl (cI, 160, .inl (aI (fun _ => 0)))), (a_2, .inl (cI, 160, .inl (aI (fun _ => 0)))), (a_3, .inl (cI, 9, .inl (aI (fun _ => 0))))] := hD
  have hP : va_P (dC, dI) vwCl [] H := hP.sub [] rfl
  have hD : va_D A [] := hD.sub [] (by decide) rfl
  exact mi_vret hx hb hQ hr hlocks hAe hsz hP hD hS rfl dX4_init_45

set_option maxRecDepth 100000 in
set_option maxHeartbeats 4000000 in
theorem c_X1_init (l : Launch) (dC : Nat → ClassId) (dI : Nat → Nat → Nat) (cI cO cJ : ClassId) (h : Nat) (eZ : Nat × Nat) (sz : Nat) : Met l yX1_init (gw (.code yX1_init cX1_init 1 none)) ({ frames := 1, cells := 1, slots := 60, locals := 21 }) (mPcZ (dC, dI) [(cI, .int), (cO, .object "java/lang/Object"), (cJ, .long)] eZ [.ref h] sz [(h, .inr (4, [.null, .int (iI 0), .int (iI 0)]))]) (mQvX (dC, dI) [(h, .inr (4, [.null, .int (iI 0), .int (iI 0)]))] (fun (z9 : Nat) => [(h, .inr (4, [.ref z9, .int (iI 0), .int (iI 0)]))]) sz) 1 60 (va_A [(h, .inr (4, [.null, .int (iI 0), .int (iI 0)]))] sz) := by
  refine mMetZ (cc := cX1_init) (maxL := 1) (ret := none) (by decide) rfl (Nat.le_of_ble_eq_true rfl) ?_
  intro p e s m args below meth c A ls hx hb hr hts hown hlocks hin hml hAe hsz hA hD H hHe hP hK hZ hE hS hl Q hQ
  have hl : lv_has ls 1 [(0, .ref h)] := hl
  have hoi3 := hts (.methodLink RX1 3 objectInit) (gm wg_233)
  have hoii := hts (.instanceMethod objectInit) (gm wg_210)
  have hoic := hts (.code objectInit ⟨#[0xb1]⟩ 1 none) (gm wg_211)
  have harrI := hts (.arrayClass .int) (gm wg_223)
  have hf9 := hts (.fieldLink RX1 9 "MeridianSeries$EventLog" "cells" "[I") (gm wg_234)
  have hf15 := hts (.fieldLink RX1 15 "MeridianSeries$EventLog" "total" "I") (gm wg_235)
  have hf19 := hts (.fieldLink RX1 19 "MeridianSeries$EventLog" "firings" "I") (gm wg_236)
  refine lv_aload_n hx hb dX1_init_0 rfl (lv_at hl 0 rfl) ?_
  refine W.objInit hx hb hown hoi3 hoii hoic rfl (by rw [hml]; exact hl.1) rfl dX1_init_1 (Nat.le_of_ble_eq_true rfl) (Nat.le_of_ble_eq_true rfl) ?_
  refine W.eq (g2 := F0 m 4 ls []) rfl ?_
  refine lv_aload_n hx hb dX1_init_4 rfl (lv_at hl 0 rfl) ?_
  refine mi_bipush hx hb dX1_init_5 (by decide) ?_
  refine mi_newa (N := 60) hx hb harrI hK rfl hP hD hS hA (by decide) (by decide) (Nat.le_of_ble_eq_true rfl) (Nat.le_of_ble_eq_true rfl) dX1_init_7 (fun a_1 H hP hD hS => ?_)
  have hP : va_P (dC, dI) vwCl [(h, .inr (4, [.null, .int (iI 0), .int (iI 0)])), (a_1, .inl (cI, 60, .inl (aI (fun _ => 0))))] H := hP
  have hD : va_D A [(h, .inr (4, [.null, .int (iI 0), .int (iI 0)])), (a_1, .inl (cI, 60, .inl (aI (fun _ => 0))))] := hD
  refine va_putF (D := (dC, dI)) (ci := 4) (v := .ref a_1) (ty := .array .int) (C := RX1) (T := TX1) (N := 3) hx hb hts (gh hg_X1) tyX1 tyX1_ok nmX1 hown hK hP hD hS 0 rfl rfl 0 (by decide) hf9 (fun _ h9 => h9) rfl hin rfl (by decide +kernel) rfl rfl (Nat.le_of_ble_eq_true rfl) dX1_init_9 (fun H locs hP hD hS => ?_)
  have hP : va_P (dC, dI) vwCl [(h, .inr (4, [.ref a_1, .int (iI 0), .int (iI 0)])), (a_1, .inl (cI, 60, .inl (aI (fun _ => 0))))] H := hP
  have hD : va_D A [(h, .inr (4, [.ref a_1, .int (iI 0), .int (iI 0)])), (a_1, .inl (cI, 60, .inl (aI (fun _ => 0))))] := hD
  refine lv_aload_n hx hb dX1_init_12 rfl (lv_at hl 0 rfl) ?_
  refine mi_iconst hx hb dX1_init_13 ?_
  refine va_put (D := (dC, dI)) (ci := 4) (v := .int (iI 0)) (ty := .int) (C := RX1) (T := TX1) (N := 3) hx hb hts (gh hg_X1) tyX1 tyX1_ok nmX1 hown hK hP hD hS 0 rfl rfl 1 (by decide) hf15 (fun _ h9 => h9) rfl (by decide +kernel) rfl rfl (Nat.le_of_ble_eq_true rfl) dX1_init_14 (fun H locs hP hD hS => ?_)
  have hP : va_P (dC, dI) vwCl [(h, .inr (4, [.ref a_1, .int (iI 0), .int (iI 0)])), (a_1, .inl (cI, 60, .inl (aI (fun _ => 0))))] H := hP
  have hD : va_D A [(h, .inr (4, [.ref a_1, .int (iI 0), .int (iI 0)])), (a_1, .inl (cI, 60, .inl (aI (fun _ => 0))))] := hD
  refine lv_aload_n hx hb dX1_init_17 rfl (lv_at hl 0 rfl) ?_
  refine mi_iconst hx hb dX1_init_18 ?_
  refine va_put (D := (dC, dI)) (ci := 4) (v := .int (iI 0)) (ty := .int) (C := RX1) (T := TX1) (N := 3) hx hb hts (gh hg_X1) tyX1 tyX1_ok nmX1 hown hK hP hD hS 0 rfl rfl 2 (by decide) hf19 (fun _ h9 => h9) rfl (by decide +kernel) rfl rfl (Nat.le_of_ble_eq_true rfl) dX1_init_19 (fun H locs hP hD hS => ?_)
  have hP : va_P (dC, dI) vwCl [(h, .inr (4, [.ref a_1, .int (iI 0), .int (iI 0)])), (a_1, .inl (cI, 60, .inl (aI (fun _ => 0))))] H := hP
  have hD : va_D A [(h, .inr (4, [.ref a_1, .int (iI 0), .int (iI 0)])), (a_1, .inl (cI, 60, .inl (aI (fun _ => 0))))] := hD
  have hP : va_P (dC, dI) vwCl [(h, .inr (4, [.ref a_1, .int (iI 0), .int (iI 0)]))] H := hP.sub [0] rfl
  have hD : va_D A [(h, .inr (4, [.ref a_1, .int (iI 0), .int (iI 0)]))] := hD.sub [0] (by decide) rfl
  exact mi_vretX (a_1) hx hb hQ hr hlocks hAe hsz hP hD hS rfl dX1_init_22

set_option maxRecDepth 100000 in
set_option maxHeartbeats 4000000 in
theorem c_X3_init (l : Launch) (dC : Nat → ClassId) (dI : Nat → Nat → Nat) (cI cO cJ : ClassId) (h : Nat) (eZ : Nat × Nat) (sz : Nat) : Met l yX3_init (gw (.code yX3_init cX3_init 1 none)) ({ frames := 1, cells := 1, slots := 48, locals := 21 }) (mPcZ (dC, dI) [(cI, .int), (cO, .object "java/lang/Object"), (cJ, .long)] eZ [.ref h] sz [(h, .inr (5, [.null, .int (iI 0), .int (iI 0), .int (iI 0), .int (iI 0), .int (iI 0)]))]) (mQv (dC, dI) [(h, .inr (5, [.null, .int (iI 0), .int (iI 0), .int (iI 0), .int (iI 0), .int (iI 0)]))] [] sz) 1 48 (va_A [(h, .inr (5, [.null, .int (iI 0), .int (iI 0), .int (iI 0), .int (iI 0), .int (iI 0)]))] sz) := by
  refine mMetZ (cc := cX3_init) (maxL := 1) (ret := none) (by decide) rfl (Nat.le_of_ble_eq_true rfl) ?_
  intro p e s m args below meth c A ls hx hb hr hts hown hlocks hin hml hAe hsz hA hD H hHe hP hK hZ hE hS hl Q hQ
  have hl : lv_has ls 1 [(0, .ref h)] := hl
  have hoi3 := hts (.methodLink RX3 3 objectInit) (gm wg_238)
  have hoii := hts (.instanceMethod objectInit) (gm wg_210)
  have hoic := hts (.code objectInit ⟨#[0xb1]⟩ 1 none) (gm wg_211)
  have harrI := hts (.arrayClass .int) (gm wg_223)
  have hf11 := hts (.fieldLink RX3 11 "MeridianSeries$Packer" "words" "[I") (gm wg_239)
  have hf15 := hts (.fieldLink RX3 15 "MeridianSeries$Packer" "length" "I") (gm wg_240)
  have hf19 := hts (.fieldLink RX3 19 "MeridianSeries$Packer" "packed" "I") (gm wg_241)
  have hf22 := hts (.fieldLink RX3 22 "MeridianSeries$Packer" "lastTime" "I") (gm wg_242)
  have hf25 := hts (.fieldLink RX3 25 "MeridianSeries$Packer" "lastStep" "I") (gm wg_243)
  have hf28 := hts (.fieldLink RX3 28 "MeridianSeries$Packer" "lastValue" "I") (gm wg_244)
  refine lv_aload_n hx hb dX3_init_0 rfl (lv_at hl 0 rfl) ?_
  refine W.objInit hx hb hown hoi3 hoii hoic rfl (by rw [hml]; exact hl.1) rfl dX3_init_1 (Nat.le_of_ble_eq_true rfl) (Nat.le_of_ble_eq_true rfl) ?_
  refine W.eq (g2 := F0 m 4 ls []) rfl ?_
  refine lv_aload_n hx hb dX3_init_4 rfl (lv_at hl 0 rfl) ?_
  refine mi_bipush hx hb dX3_init_5 (by decide) ?_
  refine mi_newa (N := 48) hx hb harrI hK rfl hP hD hS hA (by decide) (by decide) (Nat.le_of_ble_eq_true rfl) (Nat.le_of_ble_eq_true rfl) dX3_init_7 (fun a_1 H hP hD hS => ?_)
  have hP : va_P (dC, dI) vwCl [(h, .inr (5, [.null, .int (iI 0), .int (iI 0), .int (iI 0), .int (iI 0), .int (iI 0)])), (a_1, .inl (cI, 48, .inl (aI (fun _ => 0))))] H := hP
  have hD : va_D A [(h, .inr (5, [.null, .int (iI 0), .int (iI 0), .int (iI 0), .int (iI 0), .int (iI 0)])), (a_1, .inl (cI, 48, .inl (aI (fun _ => 0))))] := hD
  refine va_putF (D := (dC, dI)) (ci := 5) (v := .ref a_1) (ty := .array .int) (C := RX3) (T := TX3) (N := 6) hx hb hts (gh hg_X3) tyX3 tyX3_ok nmX3 hown hK hP hD hS 0 rfl rfl 0 (by decide) hf11 (fun _ h9 => h9) rfl hin rfl (by decide +kernel) rfl rfl (Nat.le_of_ble_eq_true rfl) dX3_init_9 (fun H locs hP hD hS => ?_)
  have hP : va_P (dC, dI) vwCl [(h, .inr (5, [.ref a_1, .int (iI 0), .int (iI 0), .int (iI 0), .int (iI 0), .int (iI 0)])), (a_1, .inl (cI, 48, .inl (aI (fun _ => 0))))] H := hP
  have hD : va_D A [(h, .inr (5, [.ref a_1, .int (iI 0), .int (iI 0), .int (iI 0), .int (iI 0), .int (iI 0)])), (a_1, .inl (cI, 48, .inl (aI (fun _ => 0))))] := hD
  refine lv_aload_n hx hb dX3_init_12 rfl (lv_at hl 0 rfl) ?_
  refine mi_iconst hx hb dX3_init_13 ?_
  refine va_put (D := (dC, dI)) (ci := 5) (v := .int (iI 0)) (ty := .int) (C := RX3) (T := TX3) (N := 6) hx hb hts (gh hg_X3) tyX3 tyX3_ok nmX3 hown hK hP hD hS 0 rfl rfl 1 (by decide) hf15 (fun _ h9 => h9) rfl (by decide +kernel) rfl rfl (Nat.le_of_ble_eq_true rfl) dX3_init_14 (fun H locs hP hD hS => ?_)
  have hP : va_P (dC, dI) vwCl [(h, .inr (5, [.ref a_1, .int (iI 0), .int (iI 0), .int (iI 0), .int (iI 0), .int (iI 0)])), (a_1, .inl (cI, 48, .inl (aI (fun _ => 0))))] H := hP
  have hD : va_D A [(h, .inr (5, [.ref a_1, .int (iI 0), .int (iI 0), .int (iI 0), .int (iI 0), .int (iI 0)])), (a_1, .inl (cI, 48, .inl (aI (fun _ => 0))))] := hD
  refine lv_aload_n hx hb dX3_init_17 rfl (lv_at hl 0 rfl) ?_
  refine mi_iconst hx hb dX3_init_18 ?_
  refine va_put (D := (dC, dI)) (ci := 5) (v := .int (iI 0)) (ty := .int) (C := RX3) (T := TX3) (N := 6) hx hb hts (gh hg_X3) tyX3 tyX3_ok nmX3 hown hK hP hD hS 0 rfl rfl 2 (by decide) hf19 (fun _ h9 => h9) rfl (by decide +kernel) rfl rfl (Nat.le_of_ble_eq_true rfl) dX3_init_19 (fun H locs hP hD hS => ?_)
  have hP : va_P (dC, dI) vwCl [(h, .inr (5, [.ref a_1, .int (iI 0), .int (iI 0), .int (iI 0), .int (iI 0), .int (iI 0)])), (a_1, .inl (cI, 48, .inl (aI (fun _ => 0))))] H := hP
  have hD : va_D A [(h, .inr (5, [.ref a_1, .int (iI 0), .int (iI 0), .int (iI 0), .int (iI 0), .int (iI 0)])), (a_1, .inl (cI, 48, .inl (aI (fun _ => 0))))] := hD
  refine lv_aload_n hx hb dX3_init_22 rfl (lv_at hl 0 rfl) ?_
  refine mi_iconst hx hb dX3_init_23 ?_
  refine va_put (D := (dC, dI)) (ci := 5) (v := .int (iI 0)) (ty := .int) (C := RX3) (T := TX3) (N := 6) hx hb hts (gh hg_X3) tyX3 tyX3_ok nmX3 hown hK hP hD hS 0 rfl rfl 3 (by decide) hf22 (fun _ h9 => h9) rfl (by decide +kernel) rfl rfl (Nat.le_of_ble_eq_true rfl) dX3_init_24 (fun H locs hP hD hS => ?_)
  have hP : va_P (dC, dI) vwCl [(h, .inr (5, [.ref a_1, .int (iI 0), .int (iI 0), .int (iI 0), .int (iI 0), .int (iI 0)])), (a_1, .inl (cI, 48, .inl (aI (fun _ => 0))))] H := hP
  have hD : va_D A [(h, .inr (5, [.ref a_1, .int (iI 0), .int (iI 0), .int (iI 0), .int (iI 0), .int (iI 0)])), (a_1, .inl (cI, 48, .inl (aI (fun _ => 0))))] := hD
  refine lv_aload_n hx hb dX3_init_27 rfl (lv_at hl 0 rfl) ?_
  refine mi_iconst hx hb dX3_init_28 ?_
  refine va_put (D := (dC, dI)) (ci := 5) (v := .int (iI 0)) (ty := .int) (C := RX3) (T := TX3) (N := 6) hx hb hts (gh hg_X3) tyX3 tyX3_ok nmX3 hown hK hP hD hS 0 rfl rfl 4 (by decide) hf25 (fun _ h9 => h9) rfl (by decide +kernel) rfl rfl (Nat.le_of_ble_eq_true rfl) dX3_init_29 (fun H locs hP hD hS => ?_)
  have hP : va_P (dC, dI) vwCl [(h, .inr (5, [.ref a_1, .int (iI 0), .int (iI 0), .int (iI 0), .int (iI 0), .int (iI 0)])), (a_1, .inl (cI, 48, .inl (aI (fun _ => 0))))] H := hP
  have hD : va_D A [(h, .inr (5, [.ref a_1, .int (iI 0), .int (iI 0), .int (iI 0), .int (iI 0), .int (iI 0)])), (a_1, .inl (cI, 48, .inl (aI (fun _ => 0))))] := hD
  refine lv_aload_n hx hb dX3_init_32 rfl (lv_at hl 0 rfl) ?_
  refine mi_iconst hx hb dX3_init_33 ?_
  refine va_put (D := (dC, dI)) (ci := 5) (v := .int (iI 0)) (ty := .int) (C := RX3) (T := TX3) (N := 6) hx hb hts (gh hg_X3) tyX3 tyX3_ok nmX3 hown hK hP hD hS 0 rfl rfl 5 (by decide) hf28 (fun _ h9 => h9) rfl (by decide +kernel) rfl rfl (Nat.le_of_ble_eq_true rfl) dX3_init_34 (fun H locs hP hD hS => ?_)
  have hP : va_P (dC, dI) vwCl [(h, .inr (5, [.ref a_1, .int (iI 0), .int (iI 0), .int (iI 0), .int (iI 0), .int (iI 0)])), (a_1, .inl (cI, 48, .inl (aI (fun _ => 0))))] H := hP
  have hD : va_D A [(h, .inr (5, [.ref a_1, .int (iI 0), .int (iI 0), .int (iI 0), .int (iI 0), .int (iI 0)])), (a_1, .inl (cI, 48, .inl (aI (fun _ => 0))))] := hD
  have hP : va_P (dC, dI) vwCl [] H := hP.sub [] rfl
  have hD : va_D A [] := hD.sub [] (by decide) rfl
  exact mi_vret hx hb hQ hr hlocks hAe hsz hP hD hS rfl dX3_init_37

set_option maxRecDepth 100000 in
set_option maxHeartbeats 4000000 in
theorem c_X6_init (l : Launch) (dC : Nat → ClassId) (dI : Nat → Nat → Nat) (cI cO cJ : ClassId) (h : Nat) (one : Int) (oth : Int) (eZ : Nat × Nat) (sz : Nat) : Met l yX6_init (gw (.code yX6_init cX6_init 3 none)) ({ frames := 3, cells := 8, slots := 690, locals := 61 }) (mPcZ (dC, dI) [(cI, .int), (cO, .object "java/lang/Object"), (cJ, .long)] eZ [.ref h, .int (iI one), .int (iI oth)] sz [(h, .inr (8, [.int (iI 0), .int (iI 0), .null, .null, .null]))]) (mQvX (dC, dI) [(h, .inr (8, [.int (iI 0), .int (iI 0), .null, .null, .null]))] (fun (z9 : Nat × Nat × Nat) => [(h, .inr (8, [.int (iI one), .int (iI oth), .ref z9.1, .ref z9.2.1, .ref z9.2.2]))]) sz) 8 690 (va_A [(h, .inr (8, [.int (iI 0), .int (iI 0), .null, .null, .null]))] sz) := by
  refine mMetZ (cc := cX6_init) (maxL := 3) (ret := none) (by decide) rfl (Nat.le_of_ble_eq_true rfl) ?_
  intro p e s m args below meth c A ls hx hb hr hts hown hlocks hin hml hAe hsz hA hD H hHe hP hK hZ hE hS hl Q hQ
  have hl : lv_has ls 3 [(0, .ref h), (1, .int (iI one)), (2, .int (iI oth))] := hl
  have hoi3 := hts (.methodLink RX6 3 objectInit) (gm wg_246)
  have hoii := hts (.instanceMethod objectInit) (gm wg_210)
  have hoic := hts (.code objectInit ⟨#[0xb1]⟩ 1 none) (gm wg_211)
  have hcl9 := hts (.classLink RX6 9 RX4) (gm wg_247)
  have hitX4 := hts (.instantiable RX4 7) (gm wg_248)
  have hiniX4 := hts (.initialized RX4) (gm wg_249)
  have hf12 := hts (.fieldLink RX6 12 "MeridianSeries$Series" "points" "LMeridianSeries$Points;") (gm wg_251)
  have hcl18 := hts (.classLink RX6 18 RX0) (gm wg_252)
  have hitX0 := hts (.instantiable RX0 2) (gm wg_253)
  have hiniX0 := hts (.initialized RX0) (gm wg_254)
  have hf21 := hts (.fieldLink RX6 21 "MeridianSeries$Series" "fine" "LMeridianSeries$Buckets;") (gm wg_256)
  have hf25 := hts (.fieldLink RX6 25 "MeridianSeries$Series" "coarse" "LMeridianSeries$Buckets;") (gm wg_257)
  have hf28 := hts (.fieldLink RX6 28 "MeridianSeries$Series" "one" "I") (gm wg_258)
  have hf32 := hts (.fieldLink RX6 32 "MeridianSeries$Series" "other" "I") (gm wg_259)
  refine lv_aload_n hx hb dX6_init_0 rfl (lv_at hl 0 rfl) ?_
  refine W.objInit hx hb hown hoi3 hoii hoic rfl (by rw [hml]; exact hl.1) rfl dX6_init_1 (Nat.le_of_ble_eq_true rfl) (Nat.le_of_ble_eq_true rfl) ?_
  refine W.eq (g2 := F0 m 4 ls []) rfl ?_
  refine lv_aload_n hx hb dX6_init_4 rfl (lv_at hl 0 rfl) ?_
  refine va_new (ci := 6) (fs := [.int (iI 0), .null, .null, .null, .int (iI 0), .int (iI 0), .int (iI 0)]) (C := RX4) (T := TX4) (N := 7) hx hb hts (gh hg_X4) tyX4 tyX4_ok hown hcl9 hitX4 hiniX4 hK hP hD hS hA rfl (fun j hj => by rcases (show j = 0 ∨ j = 1 ∨ j = 2 ∨ j = 3 ∨ j = 4 ∨ j = 5 ∨ j = 6 by omega) with rfl | rfl | rfl | rfl | rfl | rfl | rfl <;> rfl) (Nat.le_of_ble_eq_true rfl) (Nat.le_of_ble_eq_true rfl) dX6_init_5 (fun a_1 H hP hD hS => ?_)
  have hP : va_P (dC, dI) vwCl [(h, .inr (8, [.int (iI 0), .int (iI 0), .null, .null, .null])), (a_1, .inr (6, [.int (iI 0), .null, .null, .null, .int (iI 0), .int (iI 0), .int (iI 0)]))] H := hP
  have hD : va_D A [(h, .inr (8, [.int (iI 0), .int (iI 0), .null, .null, .null])), (a_1, .inr (6, [.int (iI 0), .null, .null, .null, .int (iI 0), .int (iI 0), .int (iI 0)]))] := hD
  refine lv_dup hx hb dX6_init_8 rfl ?_
  refine m_runv (wc := [(a_1, .inr (6, [.int (iI 0), .null, .null, .null, .int (iI 0), .int (iI 0), .int (iI 0)]))]) (wc' := []) (wr := [(h, .inr (8, [.int (iI 0), .int (iI 0), .null, .null, .null]))]) (ws' := [(h, .inr (8, [.int (iI 0), .int (iI 0), .null, .null, .null]))]) (va_runIN (As := []) (rest := [.ref a_1, .ref h]) ⟨hx, hb, hml, hown, hts⟩ (c_X4_init l dC dI cI cO cJ a_1 eZ H.size ) ⟨va_cnB 0 hts (gI wg_232) rfl rfl rfl (hZ _ (List.mem_of_getElem? (i := 4) rfl)) (hts (.initialized RX4) (gm wg_249)) (by decide +kernel) ⟨Nat.le_of_ble_eq_true rfl, Nat.le_of_ble_eq_true rfl⟩, rfl, hts (.instanceMethod yX4_init) (gm wg_250)⟩ (m_preSZ hE hS hA hZ hK hP hD [1] rfl (by decide)) rfl rfl hl.1 rfl (lv_room (Nat.le_of_ble_eq_true rfl)) dX6_init_9 ⟨Nat.le_of_ble_eq_true rfl, Nat.le_of_ble_eq_true rfl⟩) hP hD hS hA [1] [0] [0] rfl rfl (by decide) (by decide) rfl (by decide) (fun H locs hP hD hS => ?_)
  refine va_putF (D := (dC, dI)) (ci := 8) (v := .ref a_1) (ty := .object "MeridianSeries$Points") (C := RX6) (T := TX6) (N := 5) hx hb hts (gh hg_X6) tyX6 tyX6_ok nmX6 hown hK hP hD hS 0 rfl rfl 2 (by decide) hf12 (fun _ h9 => h9) rfl hin rfl (by decide +kernel) rfl rfl (Nat.le_of_ble_eq_true rfl) dX6_init_12 (fun H locs hP hD hS => ?_)
  have hP : va_P (dC, dI) vwCl [(h, .inr (8, [.int (iI 0), .int (iI 0), .ref a_1, .null, .null]))] H := hP
  have hD : va_D A [(h, .inr (8, [.int (iI 0), .int (iI 0), .ref a_1, .null, .null]))] := hD
  refine lv_aload_n hx hb dX6_init_15 rfl (lv_at hl 0 rfl) ?_
  refine va_new (ci := 3) (fs := [.int (iI 0), .null]) (C := RX0) (T := TX0) (N := 2) hx hb hts (gh hg_X0) tyX0 tyX0_ok hown hcl18 hitX0 hiniX0 hK hP hD hS hA rfl (fun j hj => by rcases (show j = 0 ∨ j = 1 by omega) with rfl | rfl <;> rfl) (Nat.le_of_ble_eq_true rfl) (Nat.le_of_ble_eq_true rfl) dX6_init_16 (fun a_2 H hP hD hS => ?_)
  have hP : va_P (dC, dI) vwCl [(h, .inr (8, [.int (iI 0), .int (iI 0), .ref a_1, .null, .null])), (a_2, .inr (3, [.int (iI 0), .null]))] H := hP
  have hD : va_D A [(h, .inr (8, [.int (iI 0), .int (iI 0), .ref a_1, .null, .null])), (a_2, .inr (3, [.int (iI 0), .null]))] := hD
  refine lv_dup hx hb dX6_init_19 rfl ?_
  refine m_runv (wc := [(a_2, .inr (3, [.int (iI 0), .null]))]) (wc' := []) (wr := [(h, .inr (8, [.int (iI 0), .int (iI 0), .ref a_1, .null, .null]))]) (ws' := [(h, .inr (8, [.int (iI 0), .int (iI 0), .ref a_1, .null, .null]))]) (va_runIN (As := []) (rest := [.ref a_2, .ref h]) ⟨hx, hb, hml, hown, hts⟩ (c_X0_init l dC dI cI cO cJ a_2 eZ H.size ) ⟨va_cnB 0 hts (gI wg_225) rfl rfl rfl (hZ _ (List.mem_of_getElem? (i := 5) rfl)) (hts (.initialized RX0) (gm wg_254)) (by decide +kernel) ⟨Nat.le_of_ble_eq_true rfl, Nat.le_of_ble_eq_true rfl⟩, rfl, hts (.instanceMethod yX0_init) (gm wg_255)⟩ (m_preSZ hE hS hA hZ hK hP hD [1] rfl (by decide)) rfl rfl hl.1 rfl (lv_room (Nat.le_of_ble_eq_true rfl)) dX6_init_20 ⟨Nat.le_of_ble_eq_true rfl, Nat.le_of_ble_eq_true rfl⟩) hP hD hS hA [1] [0] [0] rfl rfl (by decide) (by decide) rfl (by decide) (fun H locs hP hD hS => ?_)
  refine va_putF (D := (dC, dI)) (ci := 8) (v := .ref a_2) (ty := .object "MeridianSeries$Buckets") (C := RX6) (T := TX6) (N := 5) hx hb hts (gh hg_X6) tyX6 tyX6_ok nmX6 hown hK hP hD hS 0 rfl rfl 3 (by decide) hf21 (fun _ h9 => h9) rfl hin rfl (by decide +kernel) rfl rfl (Nat.le_of_ble_eq_true rfl) dX6_init_23 (fun H locs hP hD hS => ?_)
  have hP : va_P (dC, dI) vwCl [(h, .inr (8, [.int (iI 0), .int (iI 0), .ref a_1, .ref a_2, .null]))] H := hP
  have hD : va_D A [(h, .inr (8, [.int (iI 0), .int (iI 0), .ref a_1, .ref a_2, .null]))] := hD
  refine lv_aload_n hx hb dX6_init_26 rfl (lv_at hl 0 rfl) ?_
  refine va_new (ci := 3) (fs := [.int (iI 0), .null]) (C := RX0) (T := TX0) (N := 2) hx hb hts (gh hg_X0) tyX0 tyX0_ok hown hcl18 hitX0 hiniX0 hK hP hD hS hA rfl (fun j hj => by rcases (show j = 0 ∨ j = 1 by omega) with rfl | rfl <;> rfl) (Nat.le_of_ble_eq_true rfl) (Nat.le_of_ble_eq_true rfl) dX6_init_27 (fun a_3 H hP hD hS => ?_)
  have hP : va_P (dC, dI) vwCl [(h, .inr (8, [.int (iI 0), .int (iI 0), .ref a_1, .ref a_2, .null])), (a_3, .inr (3, [.int (iI 0), .null]))] H := hP
  have hD : va_D A [(h, .inr (8, [.int (iI 0), .int (iI 0), .ref a_1, .ref a_2, .null])), (a_3, .inr (3, [.int (iI 0), .null]))] := hD
  refine lv_dup hx hb dX6_init_30 rfl ?_
  refine m_runv (wc := [(a_3, .inr (3, [.int (iI 0), .null]))]) (wc' := []) (wr := [(h, .inr (8, [.int (iI 0), .int (iI 0), .ref a_1, .ref a_2, .null]))]) (ws' := [(h, .inr (8, [.int (iI 0), .int (iI 0), .ref a_1, .ref a_2, .null]))]) (va_runIN (As := []) (rest := [.ref a_3, .ref h]) ⟨hx, hb, hml, hown, hts⟩ (c_X0_init l dC dI cI cO cJ a_3 eZ H.size ) ⟨va_cnB 0 hts (gI wg_225) rfl rfl rfl (hZ _ (List.mem_of_getElem? (i := 5) rfl)) (hts (.initialized RX0) (gm wg_254)) (by decide +kernel) ⟨Nat.le_of_ble_eq_true rfl, Nat.le_of_ble_eq_true rfl⟩, rfl, hts (.instanceMethod yX0_init) (gm wg_255)⟩ (m_preSZ hE hS hA hZ hK hP hD [1] rfl (by decide)) rfl rfl hl.1 rfl (lv_room (Nat.le_of_ble_eq_true rfl)) dX6_init_31 ⟨Nat.le_of_ble_eq_true rfl, Nat.le_of_ble_eq_true rfl⟩) hP hD hS hA [1] [0] [0] rfl rfl (by decide) (by decide) rfl (by decide) (fun H locs hP hD hS => ?_)
  refine va_putF (D := (dC, dI)) (ci := 8) (v := .ref a_3) (ty := .object "MeridianSeries$Buckets") (C := RX6) (T := TX6) (N := 5) hx hb hts (gh hg_X6) tyX6 tyX6_ok nmX6 hown hK hP hD hS 0 rfl rfl 4 (by decide) hf25 (fun _ h9 => h9) rfl hin rfl (by decide +kernel) rfl rfl (Nat.le_of_ble_eq_true rfl) dX6_init_34 (fun H locs hP hD hS => ?_)
  have hP : va_P (dC, dI) vwCl [(h, .inr (8, [.int (iI 0), .int (iI 0), .ref a_1, .ref a_2, .ref a_3]))] H := hP
  have hD : va_D A [(h, .inr (8, [.int (iI 0), .int (iI 0), .ref a_1, .ref a_2, .ref a_3]))] := hD
  refine lv_aload_n hx hb dX6_init_37 rfl (lv_at hl 0 rfl) ?_
  refine lv_iload_n hx hb dX6_init_38 rfl (lv_at hl 1 rfl) ?_
  refine va_putF (D := (dC, dI)) (ci := 8) (v := .int (iI one)) (ty := .int) (C := RX6) (T := TX6) (N := 5) hx hb hts (gh hg_X6) tyX6 tyX6_ok nmX6 hown hK hP hD hS 0 rfl rfl 0 (by decide) hf28 (fun _ h9 => h9) rfl hin rfl (by decide +kernel) rfl rfl (Nat.le_of_ble_eq_true rfl) dX6_init_39 (fun H locs hP hD hS => ?_)
  have hP : va_P (dC, dI) vwCl [(h, .inr (8, [.int (iI one), .int (iI 0), .ref a_1, .ref a_2, .ref a_3]))] H := hP
  have hD : va_D A [(h, .inr (8, [.int (iI one), .int (iI 0), .ref a_1, .ref a_2, .ref a_3]))] := hD
  refine lv_aload_n hx hb dX6_init_42 rfl (lv_at hl 0 rfl) ?_
  refine lv_iload_n hx hb dX6_init_43 rfl (lv_at hl 2 rfl) ?_
  refine va_putF (D := (dC, dI)) (ci := 8) (v := .int (iI oth)) (ty := .int) (C := RX6) (T := TX6) (N := 5) hx hb hts (gh hg_X6) tyX6 tyX6_ok nmX6 hown hK hP hD hS 0 rfl rfl 1 (by decide) hf32 (fun _ h9 => h9) rfl hin rfl (by decide +kernel) rfl rfl (Nat.le_of_ble_eq_true rfl) dX6_init_44 (fun H locs hP hD hS => ?_)
  have hP : va_P (dC, dI) vwCl [(h, .inr (8, [.int (iI one), .int (iI oth), .ref a_1, .ref a_2, .ref a_3]))] H := hP
  have hD : va_D A [(h, .inr (8, [.int (iI one), .int (iI oth), .ref a_1, .ref a_2, .ref a_3]))] := hD
  have hP : va_P (dC, dI) vwCl [(h, .inr (8, [.int (iI one), .int (iI oth), .ref a_1, .ref a_2, .ref a_3]))] H := hP.sub [0] rfl
  have hD : va_D A [(h, .inr (8, [.int (iI one), .int (iI oth), .ref a_1, .ref a_2, .ref a_3]))] := hD.sub [0] (by decide) rfl
  exact mi_vretX ((a_1, a_2, a_3)) hx hb hQ hr hlocks hAe hsz hP hD hS rfl dX6_init_47

set_option maxRecDepth 100000 in
set_option maxHeartbeats 4000000 in
theorem c_Jxa1e45_init_da8c8 (l : Launch) (dC : Nat → ClassId) (dI : Nat → Nat → Nat) (cI cO cJ : ClassId) (h : Nat) (eZ : Nat × Nat) (sz : Nat) : Met l yJxa1e45_init_da8c8 (gw (.code yJxa1e45_init_da8c8 cJxa1e45_init_da8c8 1 none)) ({ frames := 1, cells := 0, slots := 0, locals := 21 }) (mPcZ (dC, dI) [(cI, .int), (cO, .object "java/lang/Object"), (cJ, .long)] eZ [.ref h] sz [(h, .inr (2, [.int (iI 0), .null, .int (iI 0)]))]) (mQv (dC, dI) [(h, .inr (2, [.int (iI 0), .null, .int (iI 0)]))] [(h, .inr (2, [.int (iI 0), .null, .int (iI 0)]))] sz) 0 0 (va_A [(h, .inr (2, [.int (iI 0), .null, .int (iI 0)]))] sz) := by
  refine mMetZ (cc := cJxa1e45_init_da8c8) (maxL := 1) (ret := none) (by decide) rfl (Nat.le_of_ble_eq_true rfl) ?_
  intro p e s m args below meth c A ls hx hb hr hts hown hlocks hin hml hAe hsz hA hD H hHe hP hK hZ hE hS hl Q hQ
  have hl : lv_has ls 1 [(0, .ref h)] := hl
  have hoi1 := hts (.methodLink RJxa1e45 1 objectInit) (gm wg_261)
  have hoii := hts (.instanceMethod objectInit) (gm wg_210)
  have hoic := hts (.code objectInit ⟨#[0xb1]⟩ 1 none) (gm wg_211)
  refine lv_aload_n hx hb dJxa1e45_init_da8c8_0 rfl (lv_at hl 0 rfl) ?_
  refine W.objInit hx hb hown hoi1 hoii hoic rfl (by rw [hml]; exact hl.1) rfl dJxa1e45_init_da8c8_1 (Nat.le_of_ble_eq_true rfl) (Nat.le_of_ble_eq_true rfl) ?_
  refine W.eq (g2 := F0 m 4 ls []) rfl ?_
  exact mi_vret hx hb hQ hr hlocks hAe hsz hP hD hS rfl dJxa1e45_init_da8c8_4

set_option maxRecDepth 100000 in
set_option maxHeartbeats 4000000 in
theorem c_Jxc12de_init_da8c8 (l : Launch) (dC : Nat → ClassId) (dI : Nat → Nat → Nat) (cI cO cJ : ClassId) (h : Nat) (eZ : Nat × Nat) (sz : Nat) : Met l yJxc12de_init_da8c8 (gw (.code yJxc12de_init_da8c8 cJxc12de_init_da8c8 1 none)) ({ frames := 2, cells := 0, slots := 0, locals := 41 }) (mPcZ (dC, dI) [(cI, .int), (cO, .object "java/lang/Object"), (cJ, .long)] eZ [.ref h] sz [(h, .inr (2, [.int (iI 0), .null, .int (iI 0)]))]) (mQv (dC, dI) [(h, .inr (2, [.int (iI 0), .null, .int (iI 0)]))] [(h, .inr (2, [.int (iI 0), .null, .int (iI 0)]))] sz) 0 0 (va_A [(h, .inr (2, [.int (iI 0), .null, .int (iI 0)]))] sz) := by
  refine mMetZ (cc := cJxc12de_init_da8c8) (maxL := 1) (ret := none) (by decide) rfl (Nat.le_of_ble_eq_true rfl) ?_
  intro p e s m args below meth c A ls hx hb hr hts hown hlocks hin hml hAe hsz hA hD H hHe hP hK hZ hE hS hl Q hQ
  have hl : lv_has ls 1 [(0, .ref h)] := hl
  have hf7 := hts (.fieldLink RJxc12de 7 "java/util/AbstractList" "modCount" "I") (gm wg_266)
  refine lv_aload_n hx hb dJxc12de_init_da8c8_0 rfl (lv_at hl 0 rfl) ?_
  refine m_runv (wc := [(h, .inr (2, [.int (iI 0), .null, .int (iI 0)]))]) (wc' := [(h, .inr (2, [.int (iI 0), .null, .int (iI 0)]))]) (wr := []) (ws' := [(h, .inr (2, [.int (iI 0), .null, .int (iI 0)]))]) (va_runI (As := []) (rest := []) ⟨hx, hb, hml, hown, hts⟩ (c_Jxa1e45_init_da8c8 l dC dI cI cO cJ h eZ H.size ) (cwI 0 hts (gI wg_262) rfl rfl rfl (hts (.initialized RJxa1e45) (gm wg_263)) (hts (.methodLink RJxc12de 1 yJxa1e45_init_da8c8) (gm wg_264)) (hts (.instanceMethod yJxa1e45_init_da8c8) (gm wg_265)) rfl (by decide +kernel) ⟨Nat.le_of_ble_eq_true rfl, Nat.le_of_ble_eq_true rfl⟩) (m_preSZ hE hS hA hZ hK hP hD [0] rfl (by decide)) rfl rfl hl.1 rfl (lv_room (Nat.le_of_ble_eq_true rfl)) dJxc12de_init_da8c8_1 ⟨Nat.le_of_ble_eq_true rfl, Nat.le_of_ble_eq_true rfl⟩) hP hD hS hA [0] [] [0] rfl rfl (by decide) (by decide) rfl (by decide) (fun H locs hP hD hS => ?_)
  refine lv_aload_n hx hb dJxc12de_init_da8c8_4 rfl (lv_at hl 0 rfl) ?_
  refine mi_iconst hx hb dJxc12de_init_da8c8_5 ?_
  refine va_put (D := (dC, dI)) (ci := 2) (v := .int (iI 0)) (ty := .int) (C := RJx4a65c) (T := TJx4a65c) (N := 3) hx hb hts (gh hg_Jx4a65c) tyJx4a65c tyJx4a65c_ok nmJx4a65c hown hK hP hD hS 0 rfl rfl 0 (by decide) hf7 (fun _ h9 => h9) rfl (by decide +kernel) rfl rfl (Nat.le_of_ble_eq_true rfl) dJxc12de_init_da8c8_6 (fun H locs hP hD hS => ?_)
  have hP : va_P (dC, dI) vwCl [(h, .inr (2, [.int (iI 0), .null, .int (iI 0)]))] H := hP
  have hD : va_D A [(h, .inr (2, [.int (iI 0), .null, .int (iI 0)]))] := hD
  exact mi_vret hx hb hQ hr hlocks hAe hsz hP hD hS rfl dJxc12de_init_da8c8_9

set_option maxRecDepth 100000 in
set_option maxHeartbeats 4000000 in
theorem c_Jx4a65c_init_da8c8 (l : Launch) (dC : Nat → ClassId) (dI : Nat → Nat → Nat) (cI cO cJ : ClassId) (h : Nat) (eZ : Nat × Nat) (sz : Nat) : Met l yJx4a65c_init_da8c8 (gw (.code yJx4a65c_init_da8c8 cJx4a65c_init_da8c8 1 none)) ({ frames := 3, cells := 0, slots := 0, locals := 61 }) (mPcZ (dC, dI) [(cI, .int), (cO, .object "java/lang/Object"), (cJ, .long)] eZ [.ref h] sz [(h, .inr (2, [.int (iI 0), .null, .int (iI 0)]))]) (mQv (dC, dI) [(h, .inr (2, [.int (iI 0), .null, .int (iI 0)]))] [(h, .inr (2, [.int (iI 0), .ref eZ.1, .int (iI 0)]))] sz) 0 0 (va_A [(h, .inr (2, [.int (iI 0), .null, .int (iI 0)]))] sz) := by
  refine mMetZ (cc := cJx4a65c_init_da8c8) (maxL := 1) (ret := none) (by decide) rfl (Nat.le_of_ble_eq_true rfl) ?_
  intro p e s m args below meth c A ls hx hb hr hts hown hlocks hin hml hAe hsz hA hD H hHe hP hK hZ hE hS hl Q hQ
  have hl : lv_has ls 1 [(0, .ref h)] := hl
  have hst39 := hts (.fieldLink RJx4a65c 39 "java/util/ArrayList" "DEFAULTCAPACITY_EMPTY_ELEMENTDATA" "[Ljava/lang/Object;") (gm wg_271)
  have hf9 := hts (.fieldLink RJx4a65c 9 "java/util/ArrayList" "elementData" "[Ljava/lang/Object;") (gm wg_272)
  refine lv_aload_n hx hb dJx4a65c_init_da8c8_0 rfl (lv_at hl 0 rfl) ?_
  refine m_runv (wc := [(h, .inr (2, [.int (iI 0), .null, .int (iI 0)]))]) (wc' := [(h, .inr (2, [.int (iI 0), .null, .int (iI 0)]))]) (wr := []) (ws' := [(h, .inr (2, [.int (iI 0), .null, .int (iI 0)]))]) (va_runI (As := []) (rest := []) ⟨hx, hb, hml, hown, hts⟩ (c_Jxc12de_init_da8c8 l dC dI cI cO cJ h eZ H.size ) (cwI 0 hts (gI wg_267) rfl rfl rfl (hts (.initialized RJxc12de) (gm wg_268)) (hts (.methodLink RJx4a65c 1 yJxc12de_init_da8c8) (gm wg_269)) (hts (.instanceMethod yJxc12de_init_da8c8) (gm wg_270)) rfl (by decide +kernel) ⟨Nat.le_of_ble_eq_true rfl, Nat.le_of_ble_eq_true rfl⟩) (m_preSZ hE hS hA hZ hK hP hD [0] rfl (by decide)) rfl rfl hl.1 rfl (lv_room (Nat.le_of_ble_eq_true rfl)) dJx4a65c_init_da8c8_1 ⟨Nat.le_of_ble_eq_true rfl, Nat.le_of_ble_eq_true rfl⟩) hP hD hS hA [0] [] [0] rfl rfl (by decide) (by decide) rfl (by decide) (fun H locs hP hD hS => ?_)
  refine lv_aload_n hx hb dJx4a65c_init_da8c8_4 rfl (lv_at hl 0 rfl) ?_
  refine mi_getZ hx hb hE hS hown hst39 dJx4a65c_init_da8c8_5 ?_
  refine va_put (D := (dC, dI)) (ci := 2) (v := .ref eZ.1) (ty := .array (.object "java/lang/Object")) (C := RJx4a65c) (T := TJx4a65c) (N := 3) hx hb hts (gh hg_Jx4a65c) tyJx4a65c tyJx4a65c_ok nmJx4a65c hown hK hP hD hS 0 rfl rfl 1 (by decide) hf9 (fun _ h9 => h9) rfl (by decide +kernel) rfl rfl (Nat.le_of_ble_eq_true rfl) dJx4a65c_init_da8c8_8 (fun H locs hP hD hS => ?_)
  have hP : va_P (dC, dI) vwCl [(h, .inr (2, [.int (iI 0), .ref eZ.1, .int (iI 0)]))] H := hP
  have hD : va_D A [(h, .inr (2, [.int (iI 0), .ref eZ.1, .int (iI 0)]))] := hD
  exact mi_vret hx hb hQ hr hlocks hAe hsz hP hD hS rfl dJx4a65c_init_da8c8_11

set_option maxRecDepth 100000 in
set_option maxHeartbeats 4000000 in
theorem c_Jx4a65c_grow_92f84 (l : Launch) (dC : Nat → ClassId) (dI : Nat → Nat → Nat) (cI cO cJ : ClassId) (h : Nat) (cm : Int) (eZ : Nat × Nat) (sz : Nat) : Met l yJx4a65c_grow_92f84 (gw (.code yJx4a65c_grow_92f84 cJx4a65c_grow_92f84 4 (some (.array (.object "java/lang/Object"))))) ({ frames := 1, cells := 1, slots := 10, locals := 21 }) (mPcZ (dC, dI) [(cI, .int), (cO, .object "java/lang/Object"), (cJ, .long)] eZ [.ref h, .int (iI (0 + 1))] sz [(h, .inr (2, [.int (iI cm), .ref eZ.1, .int (iI 0)]))]) (mQrX (dC, dI) [(h, .inr (2, [.int (iI cm), .ref eZ.1, .int (iI 0)]))] (fun (z9 : Nat) => [(h, .inr (2, [.int (iI cm), .ref z9, .int (iI 0)])), (z9, .inl (cO, 10, .inr (.inr (.inr (.inr (fun _ => none))))))]) sz) 1 10 (va_A [(h, .inr (2, [.int (iI cm), .ref eZ.1, .int (iI 0)]))] sz) := by
  refine mMetZ (cc := cJx4a65c_grow_92f84) (maxL := 4) (ret := (some (.array (.object "java/lang/Object")))) (by decide) rfl (Nat.le_of_ble_eq_true rfl) ?_
  intro p e s m args below meth c A ls hx hb hr hts hown hlocks hin hml hAe hsz hA hD H hHe hP hK hZ hE hS hl Q hQ
  have hl : lv_has ls 4 [(0, .ref h), (1, .int (iI (0 + 1)))] := hl
  have hf9 := hts (.fieldLink RJx4a65c 9 "java/util/ArrayList" "elementData" "[Ljava/lang/Object;") (gm wg_272)
  have hst39 := hts (.fieldLink RJx4a65c 39 "java/util/ArrayList" "DEFAULTCAPACITY_EMPTY_ELEMENTDATA" "[Ljava/lang/Object;") (gm wg_271)
  have hm79 := hts (.methodLink RJx4a65c 79 Lib.Math.max.name) (gm wg_274)
  have hmsmmax := hts (.static Lib.Math.max.name) (gm wg_275)
  have hmi := hts (.initialized "java/lang/Math") (gm wg_135)
  have hmcmmax := hts (.code Lib.Math.max.name Lib.Math.max.code 2 (some .int)) (gm wg_276)
  have hcl7 := hts (.classLink RJx4a65c 7 "java/lang/Object") (gm wg_277)
  refine lv_aload_n hx hb dJx4a65c_grow_92f84_0 rfl (lv_at hl 0 rfl) ?_
  refine va_get (ci := 2) (v := .ref eZ.1) (C := RJx4a65c) (T := TJx4a65c) (N := 3) hx hb hts (gh hg_Jx4a65c) hown hK hP 0 rfl rfl 1 (by decide) hf9 (fun _ h9 => h9) rfl dJx4a65c_grow_92f84_1 ?_
  refine mi_lenZ hx hb hE hS dJx4a65c_grow_92f84_4 ?_
  refine lv_istore_n (lv' := [(2, .int (iI 0)), (0, .ref h), (1, .int (iI (0 + 1)))]) hx hb dJx4a65c_grow_92f84_5 rfl hl (by decide) rfl (fun ls hl => ?_)
  refine lv_iload_n hx hb dJx4a65c_grow_92f84_6 rfl (lv_at hl 0 rfl) ?_
  refine mi_if_gt (tgt := 20) hx hb (by decide) dJx4a65c_grow_92f84_7 (by decide) (fun c_1 => ?_) (fun c_1 => ?_)
  · exfalso; omega
  · refine lv_aload_n hx hb dJx4a65c_grow_92f84_10 rfl (lv_at hl 1 rfl) ?_
    refine va_get (ci := 2) (v := .ref eZ.1) (C := RJx4a65c) (T := TJx4a65c) (N := 3) hx hb hts (gh hg_Jx4a65c) hown hK hP 0 rfl rfl 1 (by decide) hf9 (fun _ h9 => h9) rfl dJx4a65c_grow_92f84_11 ?_
    refine mi_getZ hx hb hE hS hown hst39 dJx4a65c_grow_92f84_14 ?_
    refine mi_acmpE (tgt := 45) hx hb dJx4a65c_grow_92f84_17 (by decide) ?_
    refine lv_aload_n hx hb dJx4a65c_grow_92f84_45 rfl (lv_at hl 1 rfl) ?_
    refine mi_bipush hx hb dJx4a65c_grow_92f84_46 (by decide) ?_
    refine lv_iload_n hx hb dJx4a65c_grow_92f84_48 rfl (lv_at hl 2 rfl) ?_
    refine mi_mmax hx hb (hml.trans hl.1.symm) hown hm79 hmsmmax hmi hmcmmax (Nat.le_of_ble_eq_true rfl) (Nat.le_of_ble_eq_true rfl) (Nat.le_of_ble_eq_true rfl) (Nat.le_of_ble_eq_true rfl) (by decide) (by omega) dJx4a65c_grow_92f84_49 ?_
    refine mi_newq (cI := cI) (N := 10) hx hb hE hK rfl hP hD hS hA hown hcl7 (by decide) (by decide) (Nat.le_of_ble_eq_true rfl) (Nat.le_of_ble_eq_true rfl) dJx4a65c_grow_92f84_52 (fun a_2 H hP hD hS => ?_)
    have hP : va_P (dC, dI) vwCl [(h, .inr (2, [.int (iI cm), .ref eZ.1, .int (iI 0)])), (a_2, .inl (cO, 10, .inr (.inr (.inr (.inr (fun _ => none))))))] H := hP
    have hD : va_D A [(h, .inr (2, [.int (iI cm), .ref eZ.1, .int (iI 0)])), (a_2, .inl (cO, 10, .inr (.inr (.inr (.inr (fun _ => none))))))] := hD
    refine lv_dup_x1 hx hb dJx4a65c_grow_92f84_55 rfl rfl ?_
    refine va_put (D := (dC, dI)) (ci := 2) (v := .ref a_2) (ty := .array (.object "java/lang/Object")) (C := RJx4a65c) (T := TJx4a65c) (N := 3) hx hb hts (gh hg_Jx4a65c) tyJx4a65c tyJx4a65c_ok nmJx4a65c hown hK hP hD hS 0 rfl rfl 1 (by decide) hf9 (fun _ h9 => h9) rfl (by decide +kernel) rfl rfl (Nat.le_of_ble_eq_true rfl) dJx4a65c_grow_92f84_56 (fun H locs hP hD hS => ?_)
    have hP : va_P (dC, dI) vwCl [(h, .inr (2, [.int (iI cm), .ref a_2, .int (iI 0)])), (a_2, .inl (cO, 10, .inr (.inr (.inr (.inr (fun _ => none))))))] H := hP
    have hD : va_D A [(h, .inr (2, [.int (iI cm), .ref a_2, .int (iI 0)])), (a_2, .inl (cO, 10, .inr (.inr (.inr (.inr (fun _ => none))))))] := hD
    exact mi_aretX hx hb hQ hr (Or.inr ⟨_, rfl⟩) hlocks hAe hsz hP hD hS rfl dJx4a65c_grow_92f84_59

set_option maxRecDepth 100000 in
set_option maxHeartbeats 4000000 in
theorem c_Jx4a65c_grow_d5877 (l : Launch) (dC : Nat → ClassId) (dI : Nat → Nat → Nat) (cI cO cJ : ClassId) (h : Nat) (cm : Int) (eZ : Nat × Nat) (sz : Nat) : Met l yJx4a65c_grow_d5877 (gw (.code yJx4a65c_grow_d5877 cJx4a65c_grow_d5877 1 (some (.array (.object "java/lang/Object"))))) ({ frames := 2, cells := 1, slots := 10, locals := 44 }) (mPcZ (dC, dI) [(cI, .int), (cO, .object "java/lang/Object"), (cJ, .long)] eZ [.ref h] sz [(h, .inr (2, [.int (iI cm), .ref eZ.1, .int (iI 0)]))]) (mQrX (dC, dI) [(h, .inr (2, [.int (iI cm), .ref eZ.1, .int (iI 0)]))] (fun (z9 : Nat) => [(h, .inr (2, [.int (iI cm), .ref z9, .int (iI 0)])), (z9, .inl (cO, 10, .inr (.inr (.inr (.inr (fun _ => none))))))]) sz) 1 10 (va_A [(h, .inr (2, [.int (iI cm), .ref eZ.1, .int (iI 0)]))] sz) := by
  refine mMetZ (cc := cJx4a65c_grow_d5877) (maxL := 1) (ret := (some (.array (.object "java/lang/Object")))) (by decide) rfl (Nat.le_of_ble_eq_true rfl) ?_
  intro p e s m args below meth c A ls hx hb hr hts hown hlocks hin hml hAe hsz hA hD H hHe hP hK hZ hE hS hl Q hQ
  have hl : lv_has ls 1 [(0, .ref h)] := hl
  have hf48 := hts (.fieldLink RJx4a65c 48 "java/util/ArrayList" "size" "I") (gm wg_8)
  refine lv_aload_n hx hb dJx4a65c_grow_d5877_0 rfl (lv_at hl 0 rfl) ?_
  refine lv_aload_n hx hb dJx4a65c_grow_d5877_1 rfl (lv_at hl 0 rfl) ?_
  refine va_get (ci := 2) (v := .int (iI 0)) (C := RJx4a65c) (T := TJx4a65c) (N := 3) hx hb hts (gh hg_Jx4a65c) hown hK hP 0 rfl rfl 2 (by decide) hf48 (fun _ h9 => h9) rfl dJx4a65c_grow_d5877_2 ?_
  refine mi_iconst hx hb dJx4a65c_grow_d5877_5 ?_
  refine mi_iadd hx hb dJx4a65c_grow_d5877_6 ?_
  refine m_runrX (wc := [(h, .inr (2, [.int (iI cm), .ref eZ.1, .int (iI 0)]))]) (wf := fun (k_1 : Nat) => [(h, .inr (2, [.int (iI cm), .ref k_1, .int (iI 0)])), (k_1, .inl (cO, 10, .inr (.inr (.inr (.inr (fun _ => none))))))]) (wr := []) (ws' := fun (k_1 : Nat) => [(h, .inr (2, [.int (iI cm), .ref k_1, .int (iI 0)])), (k_1, .inl (cO, 10, .inr (.inr (.inr (.inr (fun _ => none))))))]) (va_runV (As := [.int (iI (0 + 1))]) (rest := []) ⟨hx, hb, hml, hown, hts⟩ (c_Jx4a65c_grow_92f84 l dC dI cI cO cJ h cm eZ H.size ) (cwV 1 hts (gV wg_279 wg_280 wg_281 wg_15 wg_278) rfl rfl rfl (by decide +kernel) ⟨Nat.le_of_ble_eq_true rfl, Nat.le_of_ble_eq_true rfl⟩) (m_preVZ hE hS hA hZ hK hP hD [0] rfl (by decide) (va_recv hK hP (ci := 2) (q0 := 0) rfl rfl)) rfl rfl hl.1 rfl (lv_room (Nat.le_of_ble_eq_true rfl)) dJx4a65c_grow_d5877_7 ⟨Nat.le_of_ble_eq_true rfl, Nat.le_of_ble_eq_true rfl⟩) hP hD hS hA [0] [] [0, 1] rfl rfl (by decide) (by decide) (fun _ => rfl) (by decide) (fun k_1 H locs hP hD hS => ?_)
  have hP : va_P (dC, dI) vwCl [(h, .inr (2, [.int (iI cm), .ref k_1, .int (iI 0)])), (k_1, .inl (cO, 10, .inr (.inr (.inr (.inr (fun _ => none))))))] H := hP
  have hD : va_D A [(h, .inr (2, [.int (iI cm), .ref k_1, .int (iI 0)])), (k_1, .inl (cO, 10, .inr (.inr (.inr (.inr (fun _ => none))))))] := hD
  exact mi_aretX hx hb hQ hr (Or.inr ⟨_, rfl⟩) hlocks hAe hsz hP hD hS rfl dJx4a65c_grow_d5877_10

set_option maxRecDepth 100000 in
set_option maxHeartbeats 4000000 in
theorem c_addE_6 (l : Launch) (dC : Nat → ClassId) (dI : Nat → Nat → Nat) (cI cO cJ : ClassId) (h : Nat) (cm : Int) (v : Nat) (a1 : Nat) (a2 : Nat) (a3 : Nat) (one : Int) (oth : Int) (eZ : Nat × Nat) (sz : Nat) : Met l yJx4a65c_add_72be8 (gw (.code yJx4a65c_add_72be8 cJx4a65c_add_72be8 4 none)) ({ frames := 3, cells := 1, slots := 10, locals := 64 }) (mPcZ (dC, dI) [(cI, .int), (cO, .object "java/lang/Object"), (cJ, .long)] eZ [.ref h, .ref v, .ref eZ.1, .int (iI 0)] sz [(h, .inr (2, [.int (iI cm), .ref eZ.1, .int (iI 0)])), (v, .inr (8, [.int (iI one), .int (iI oth), .ref a1, .ref a2, .ref a3]))]) (mQvX (dC, dI) [(h, .inr (2, [.int (iI cm), .ref eZ.1, .int (iI 0)])), (v, .inr (8, [.int (iI one), .int (iI oth), .ref a1, .ref a2, .ref a3]))] (fun (z9 : Nat) => [(h, .inr (2, [.int (iI cm), .ref z9, .int (iI (0 + 1))]))]) sz) 1 10 (va_A [(h, .inr (2, [.int (iI cm), .ref eZ.1, .int (iI 0)])), (v, .inr (8, [.int (iI one), .int (iI oth), .ref a1, .ref a2, .ref a3]))] sz) := by
  refine mMetZ (cc := cJx4a65c_add_72be8) (maxL := 4) (ret := none) (by decide) rfl (Nat.le_of_ble_eq_true rfl) ?_
  intro p e s m args below meth c A ls hx hb hr hts hown hlocks hin hml hAe hsz hA hD H hHe hP hK hZ hE hS hl Q hQ
  have hl : lv_has ls 4 [(0, .ref h), (1, .ref v), (2, .ref eZ.1), (3, .int (iI 0))] := hl
  have hf48 := hts (.fieldLink RJx4a65c 48 "java/util/ArrayList" "size" "I") (gm wg_8)
  refine lv_iload_n hx hb dJx4a65c_add_72be8_0 rfl (lv_at hl 3 rfl) ?_
  refine lv_aload_n hx hb dJx4a65c_add_72be8_1 rfl (lv_at hl 2 rfl) ?_
  refine mi_lenZ hx hb hE hS dJx4a65c_add_72be8_2 ?_
  refine mi_icmp_ne (tgt := 11) hx hb (by decide) (by decide) dJx4a65c_add_72be8_3 (by decide) (fun c_1 => ?_) (fun c_1 => ?_)
  · exfalso; omega
  · refine lv_aload_n hx hb dJx4a65c_add_72be8_6 rfl (lv_at hl 0 rfl) ?_
    refine m_runrX (wc := [(h, .inr (2, [.int (iI cm), .ref eZ.1, .int (iI 0)]))]) (wf := fun (k_2 : Nat) => [(h, .inr (2, [.int (iI cm), .ref k_2, .int (iI 0)])), (k_2, .inl (cO, 10, .inr (.inr (.inr (.inr (fun _ => none))))))]) (wr := [(v, .inr (8, [.int (iI one), .int (iI oth), .ref a1, .ref a2, .ref a3]))]) (ws' := fun (k_2 : Nat) => [(h, .inr (2, [.int (iI cm), .ref k_2, .int (iI 0)])), (v, .inr (8, [.int (iI one), .int (iI oth), .ref a1, .ref a2, .ref a3])), (k_2, .inl (cO, 10, .inr (.inr (.inr (.inr (fun _ => none))))))]) (va_runV (As := []) (rest := []) ⟨hx, hb, hml, hown, hts⟩ (c_Jx4a65c_grow_d5877 l dC dI cI cO cJ h cm eZ H.size ) (cwV 0 hts (gV wg_283 wg_284 wg_285 wg_15 wg_282) rfl rfl rfl (by decide +kernel) ⟨Nat.le_of_ble_eq_true rfl, Nat.le_of_ble_eq_true rfl⟩) (m_preVZ hE hS hA hZ hK hP hD [0] rfl (by decide) (va_recv hK hP (ci := 2) (q0 := 0) rfl rfl)) rfl rfl hl.1 rfl (lv_room (Nat.le_of_ble_eq_true rfl)) dJx4a65c_add_72be8_7 ⟨Nat.le_of_ble_eq_true rfl, Nat.le_of_ble_eq_true rfl⟩) hP hD hS hA [0] [1] [1, 0, 2] rfl rfl (by decide) (by decide) (fun _ => rfl) (by decide) (fun k_2 H locs hP hD hS => ?_)
    have hP : va_P (dC, dI) vwCl [(h, .inr (2, [.int (iI cm), .ref k_2, .int (iI 0)])), (v, .inr (8, [.int (iI one), .int (iI oth), .ref a1, .ref a2, .ref a3])), (k_2, .inl (cO, 10, .inr (.inr (.inr (.inr (fun _ => none))))))] H := hP
    have hD : va_D A [(h, .inr (2, [.int (iI cm), .ref k_2, .int (iI 0)])), (v, .inr (8, [.int (iI one), .int (iI oth), .ref a1, .ref a2, .ref a3])), (k_2, .inl (cO, 10, .inr (.inr (.inr (.inr (fun _ => none))))))] := hD
    refine lv_astore_n (lv' := [(2, .ref k_2), (0, .ref h), (1, .ref v), (3, .int (iI 0))]) hx hb dJx4a65c_add_72be8_10 rfl hl (by decide) rfl (fun ls hl => ?_)
    refine lv_aload_n hx hb dJx4a65c_add_72be8_11 rfl (lv_at hl 0 rfl) ?_
    refine lv_iload_n hx hb dJx4a65c_add_72be8_12 rfl (lv_at hl 3 rfl) ?_
    refine lv_aload_n hx hb dJx4a65c_add_72be8_13 rfl (lv_at hl 2 rfl) ?_
    refine mi_astq (ws' := [(h, .inr (2, [.int (iI cm), .ref k_2, .int (iI 0)])), (v, .inr (8, [.int (iI one), .int (iI oth), .ref a1, .ref a2, .ref a3])), (k_2, .inl (cO, 10, .inr (.inr (.inr (.inr (va_up (fun _ => none) 0 (some v)))))))]) (k := 0) hx hb hK hP hD hS 2 1 8 rfl rfl (hE.obj (by decide +kernel)) rfl rfl rfl (by decide) (by decide) rfl dJx4a65c_add_72be8_14 (fun H locs hP hD hS => ?_)
    refine lv_aload_n hx hb dJx4a65c_add_72be8_15 rfl (lv_at hl 1 rfl) ?_
    refine lv_iload_n hx hb dJx4a65c_add_72be8_16 rfl (lv_at hl 3 rfl) ?_
    refine mi_iconst hx hb dJx4a65c_add_72be8_17 ?_
    refine mi_iadd hx hb dJx4a65c_add_72be8_18 ?_
    refine va_put (D := (dC, dI)) (ci := 2) (v := .int (iI (0 + 1))) (ty := .int) (C := RJx4a65c) (T := TJx4a65c) (N := 3) hx hb hts (gh hg_Jx4a65c) tyJx4a65c tyJx4a65c_ok nmJx4a65c hown hK hP hD hS 0 rfl rfl 2 (by decide) hf48 (fun _ h9 => h9) rfl (by decide +kernel) rfl rfl (Nat.le_of_ble_eq_true rfl) dJx4a65c_add_72be8_19 (fun H locs hP hD hS => ?_)
    have hP : va_P (dC, dI) vwCl [(h, .inr (2, [.int (iI cm), .ref k_2, .int (iI (0 + 1))])), (v, .inr (8, [.int (iI one), .int (iI oth), .ref a1, .ref a2, .ref a3])), (k_2, .inl (cO, 10, .inr (.inr (.inr (.inr (va_up (fun _ => none) 0 (some v)))))))] H := hP
    have hD : va_D A [(h, .inr (2, [.int (iI cm), .ref k_2, .int (iI (0 + 1))])), (v, .inr (8, [.int (iI one), .int (iI oth), .ref a1, .ref a2, .ref a3])), (k_2, .inl (cO, 10, .inr (.inr (.inr (.inr (va_up (fun _ => none) 0 (some v)))))))] := hD
    have hP : va_P (dC, dI) vwCl [(h, .inr (2, [.int (iI cm), .ref k_2, .int (iI (0 + 1))]))] H := hP.sub [0] rfl
    have hD : va_D A [(h, .inr (2, [.int (iI cm), .ref k_2, .int (iI (0 + 1))]))] := hD.sub [0] (by decide) rfl
    exact mi_vretX (k_2) hx hb hQ hr hlocks hAe hsz hP hD hS rfl dJx4a65c_add_72be8_22

set_option maxRecDepth 100000 in
set_option maxHeartbeats 4000000 in
theorem c_add_6 (l : Launch) (dC : Nat → ClassId) (dI : Nat → Nat → Nat) (cI cO cJ : ClassId) (h : Nat) (cm : Int) (v : Nat) (a1 : Nat) (a2 : Nat) (a3 : Nat) (one : Int) (oth : Int) (eZ : Nat × Nat) (sz : Nat) : Met l yJx4a65c_add_9ea2d (gw (.code yJx4a65c_add_9ea2d cJx4a65c_add_9ea2d 2 (some .boolean))) ({ frames := 4, cells := 1, slots := 10, locals := 87 }) (mPcZ (dC, dI) [(cI, .int), (cO, .object "java/lang/Object"), (cJ, .long)] eZ [.ref h, .ref v] sz [(h, .inr (2, [.int (iI cm), .ref eZ.1, .int (iI 0)])), (v, .inr (8, [.int (iI one), .int (iI oth), .ref a1, .ref a2, .ref a3]))]) (mQiX (dC, dI) [(h, .inr (2, [.int (iI cm), .ref eZ.1, .int (iI 0)])), (v, .inr (8, [.int (iI one), .int (iI oth), .ref a1, .ref a2, .ref a3]))] (fun (z9 : Nat) => [(h, .inr (2, [.int (iI (cm + 1)), .ref z9, .int (iI (0 + 1))]))]) sz 1) 1 10 (va_A [(h, .inr (2, [.int (iI cm), .ref eZ.1, .int (iI 0)])), (v, .inr (8, [.int (iI one), .int (iI oth), .ref a1, .ref a2, .ref a3]))] sz) := by
  refine mMetZ (cc := cJx4a65c_add_9ea2d) (maxL := 2) (ret := (some .boolean)) (by decide) rfl (Nat.le_of_ble_eq_true rfl) ?_
  intro p e s m args below meth c A ls hx hb hr hts hown hlocks hin hml hAe hsz hA hD H hHe hP hK hZ hE hS hl Q hQ
  have hl : lv_has ls 2 [(0, .ref h), (1, .ref v)] := hl
  have hf63 := hts (.fieldLink RJx4a65c 63 "java/util/ArrayList" "modCount" "I") (gm wg_287)
  have hs63 := hts (.sameField "java/util/ArrayList" "java/util/AbstractList" "modCount" "I") (gm wg_288)
  have hf9 := hts (.fieldLink RJx4a65c 9 "java/util/ArrayList" "elementData" "[Ljava/lang/Object;") (gm wg_272)
  have hf48 := hts (.fieldLink RJx4a65c 48 "java/util/ArrayList" "size" "I") (gm wg_8)
  refine lv_aload_n hx hb dJx4a65c_add_9ea2d_0 rfl (lv_at hl 0 rfl) ?_
  refine lv_dup hx hb dJx4a65c_add_9ea2d_1 rfl ?_
  refine va_get (ci := 2) (v := .int (iI cm)) (C := RJx4a65c) (T := TJx4a65c) (N := 3) hx hb hts (gh hg_Jx4a65c) hown hK hP 0 rfl rfl 0 (by decide) hf63 (fun x9 h9 => u_same hs63 x9 h9) rfl dJx4a65c_add_9ea2d_2 ?_
  refine mi_iconst hx hb dJx4a65c_add_9ea2d_5 ?_
  refine mi_iadd hx hb dJx4a65c_add_9ea2d_6 ?_
  refine va_put (D := (dC, dI)) (ci := 2) (v := .int (iI (cm + 1))) (ty := .int) (C := RJx4a65c) (T := TJx4a65c) (N := 3) hx hb hts (gh hg_Jx4a65c) tyJx4a65c tyJx4a65c_ok nmJx4a65c hown hK hP hD hS 0 rfl rfl 0 (by decide) hf63 (fun x9 h9 => u_same hs63 x9 h9) rfl (by decide +kernel) rfl rfl (Nat.le_of_ble_eq_true rfl) dJx4a65c_add_9ea2d_7 (fun H locs hP hD hS => ?_)
  have hP : va_P (dC, dI) vwCl [(h, .inr (2, [.int (iI (cm + 1)), .ref eZ.1, .int (iI 0)])), (v, .inr (8, [.int (iI one), .int (iI oth), .ref a1, .ref a2, .ref a3]))] H := hP
  have hD : va_D A [(h, .inr (2, [.int (iI (cm + 1)), .ref eZ.1, .int (iI 0)])), (v, .inr (8, [.int (iI one), .int (iI oth), .ref a1, .ref a2, .ref a3]))] := hD
  refine lv_aload_n hx hb dJx4a65c_add_9ea2d_10 rfl (lv_at hl 0 rfl) ?_
  refine lv_aload_n hx hb dJx4a65c_add_9ea2d_11 rfl (lv_at hl 1 rfl) ?_
  refine lv_aload_n hx hb dJx4a65c_add_9ea2d_12 rfl (lv_at hl 0 rfl) ?_
  refine va_get (ci := 2) (v := .ref eZ.1) (C := RJx4a65c) (T := TJx4a65c) (N := 3) hx hb hts (gh hg_Jx4a65c) hown hK hP 0 rfl rfl 1 (by decide) hf9 (fun _ h9 => h9) rfl dJx4a65c_add_9ea2d_13 ?_
  refine lv_aload_n hx hb dJx4a65c_add_9ea2d_16 rfl (lv_at hl 0 rfl) ?_
  refine va_get (ci := 2) (v := .int (iI 0)) (C := RJx4a65c) (T := TJx4a65c) (N := 3) hx hb hts (gh hg_Jx4a65c) hown hK hP 0 rfl rfl 2 (by decide) hf48 (fun _ h9 => h9) rfl dJx4a65c_add_9ea2d_17 ?_
  refine m_runvX (wc := [(h, .inr (2, [.int (iI (cm + 1)), .ref eZ.1, .int (iI 0)])), (v, .inr (8, [.int (iI one), .int (iI oth), .ref a1, .ref a2, .ref a3]))]) (wf := fun (k_1 : Nat) => [(h, .inr (2, [.int (iI (cm + 1)), .ref k_1, .int (iI (0 + 1))]))]) (wr := []) (ws' := fun (k_1 : Nat) => [(h, .inr (2, [.int (iI (cm + 1)), .ref k_1, .int (iI (0 + 1))]))]) (va_runV (As := [.ref v, .ref eZ.1, .int (iI 0)]) (rest := []) ⟨hx, hb, hml, hown, hts⟩ (c_addE_6 l dC dI cI cO cJ h (cm + 1) v a1 a2 a3 one oth eZ H.size ) (cwV 3 hts (gV wg_289 wg_290 wg_291 wg_15 wg_286) rfl rfl rfl (by decide +kernel) ⟨Nat.le_of_ble_eq_true rfl, Nat.le_of_ble_eq_true rfl⟩) (m_preVZ hE hS hA hZ hK hP hD [0, 1] rfl (by decide) (va_recv hK hP (ci := 2) (q0 := 0) rfl rfl)) rfl rfl hl.1 rfl (lv_room (Nat.le_of_ble_eq_true rfl)) dJx4a65c_add_9ea2d_20 ⟨Nat.le_of_ble_eq_true rfl, Nat.le_of_ble_eq_true rfl⟩) hP hD hS hA [0, 1] [] [0] rfl rfl (by decide) (by decide) (fun _ => rfl) (by decide) (fun k_1 H locs hP hD hS => ?_)
  have hP : va_P (dC, dI) vwCl [(h, .inr (2, [.int (iI (cm + 1)), .ref k_1, .int (iI (0 + 1))]))] H := hP
  have hD : va_D A [(h, .inr (2, [.int (iI (cm + 1)), .ref k_1, .int (iI (0 + 1))]))] := hD
  refine mi_iconst hx hb dJx4a65c_add_9ea2d_23 ?_
  have hP : va_P (dC, dI) vwCl [(h, .inr (2, [.int (iI (cm + 1)), .ref k_1, .int (iI (0 + 1))]))] H := hP.sub [0] rfl
  have hD : va_D A [(h, .inr (2, [.int (iI (cm + 1)), .ref k_1, .int (iI (0 + 1))]))] := hD.sub [0] (by decide) rfl
  exact mi_zretX (k_1) hx hb hQ hr hlocks hAe hsz hP hD hS (by decide) (by first | rfl | omega | (split <;> omega)) rfl dJx4a65c_add_9ea2d_24

set_option maxRecDepth 100000 in
set_option maxHeartbeats 4000000 in
theorem c_addE_13 (l : Launch) (dC : Nat → ClassId) (dI : Nat → Nat → Nat) (cI cO cJ : ClassId) (h : Nat) (cm : Int) (v : Nat) (a1 : Nat) (a2 : Nat) (a3 : Nat) (a4 : Nat) (eZ : Nat × Nat) (sz : Nat) : Met l yJx4a65c_add_72be8 (gw (.code yJx4a65c_add_72be8 cJx4a65c_add_72be8 4 none)) ({ frames := 3, cells := 1, slots := 10, locals := 64 }) (mPcZ (dC, dI) [(cI, .int), (cO, .object "java/lang/Object"), (cJ, .long)] eZ [.ref h, .ref v, .ref eZ.1, .int (iI 0)] sz [(h, .inr (2, [.int (iI cm), .ref eZ.1, .int (iI 0)])), (v, .inr (15, [.ref a1, .ref a2, .ref a3, .ref a4, .int (iI (-1))]))]) (mQvX (dC, dI) [(h, .inr (2, [.int (iI cm), .ref eZ.1, .int (iI 0)])), (v, .inr (15, [.ref a1, .ref a2, .ref a3, .ref a4, .int (iI (-1))]))] (fun (z9 : Nat) => [(h, .inr (2, [.int (iI cm), .ref z9, .int (iI (0 + 1))]))]) sz) 1 10 (va_A [(h, .inr (2, [.int (iI cm), .ref eZ.1, .int (iI 0)])), (v, .inr (15, [.ref a1, .ref a2, .ref a3, .ref a4, .int (iI (-1))]))] sz) := by
  refine mMetZ (cc := cJx4a65c_add_72be8) (maxL := 4) (ret := none) (by decide) rfl (Nat.le_of_ble_eq_true rfl) ?_
  intro p e s m args below meth c A ls hx hb hr hts hown hlocks hin hml hAe hsz hA hD H hHe hP hK hZ hE hS hl Q hQ
  have hl : lv_has ls 4 [(0, .ref h), (1, .ref v), (2, .ref eZ.1), (3, .int (iI 0))] := hl
  have hf48 := hts (.fieldLink RJx4a65c 48 "java/util/ArrayList" "size" "I") (gm wg_8)
  refine lv_iload_n hx hb dJx4a65c_add_72be8_0 rfl (lv_at hl 3 rfl) ?_
  refine lv_aload_n hx hb dJx4a65c_add_72be8_1 rfl (lv_at hl 2 rfl) ?_
  refine mi_lenZ hx hb hE hS dJx4a65c_add_72be8_2 ?_
  refine mi_icmp_ne (tgt := 11) hx hb (by decide) (by decide) dJx4a65c_add_72be8_3 (by decide) (fun c_1 => ?_) (fun c_1 => ?_)
  · exfalso; omega
  · refine lv_aload_n hx hb dJx4a65c_add_72be8_6 rfl (lv_at hl 0 rfl) ?_
    refine m_runrX (wc := [(h, .inr (2, [.int (iI cm), .ref eZ.1, .int (iI 0)]))]) (wf := fun (k_2 : Nat) => [(h, .inr (2, [.int (iI cm), .ref k_2, .int (iI 0)])), (k_2, .inl (cO, 10, .inr (.inr (.inr (.inr (fun _ => none))))))]) (wr := [(v, .inr (15, [.ref a1, .ref a2, .ref a3, .ref a4, .int (iI (-1))]))]) (ws' := fun (k_2 : Nat) => [(h, .inr (2, [.int (iI cm), .ref k_2, .int (iI 0)])), (v, .inr (15, [.ref a1, .ref a2, .ref a3, .ref a4, .int (iI (-1))])), (k_2, .inl (cO, 10, .inr (.inr (.inr (.inr (fun _ => none))))))]) (va_runV (As := []) (rest := []) ⟨hx, hb, hml, hown, hts⟩ (c_Jx4a65c_grow_d5877 l dC dI cI cO cJ h cm eZ H.size ) (cwV 0 hts (gV wg_283 wg_284 wg_285 wg_15 wg_282) rfl rfl rfl (by decide +kernel) ⟨Nat.le_of_ble_eq_true rfl, Nat.le_of_ble_eq_true rfl⟩) (m_preVZ hE hS hA hZ hK hP hD [0] rfl (by decide) (va_recv hK hP (ci := 2) (q0 := 0) rfl rfl)) rfl rfl hl.1 rfl (lv_room (Nat.le_of_ble_eq_true rfl)) dJx4a65c_add_72be8_7 ⟨Nat.le_of_ble_eq_true rfl, Nat.le_of_ble_eq_true rfl⟩) hP hD hS hA [0] [1] [1, 0, 2] rfl rfl (by decide) (by decide) (fun _ => rfl) (by decide) (fun k_2 H locs hP hD hS => ?_)
    have hP : va_P (dC, dI) vwCl [(h, .inr (2, [.int (iI cm), .ref k_2, .int (iI 0)])), (v, .inr (15, [.ref a1, .ref a2, .ref a3, .ref a4, .int (iI (-1))])), (k_2, .inl (cO, 10, .inr (.inr (.inr (.inr (fun _ => none))))))] H := hP
    have hD : va_D A [(h, .inr (2, [.int (iI cm), .ref k_2, .int (iI 0)])), (v, .inr (15, [.ref a1, .ref a2, .ref a3, .ref a4, .int (iI (-1))])), (k_2, .inl (cO, 10, .inr (.inr (.inr (.inr (fun _ => none))))))] := hD
    refine lv_astore_n (lv' := [(2, .ref k_2), (0, .ref h), (1, .ref v), (3, .int (iI 0))]) hx hb dJx4a65c_add_72be8_10 rfl hl (by decide) rfl (fun ls hl => ?_)
    refine lv_aload_n hx hb dJx4a65c_add_72be8_11 rfl (lv_at hl 0 rfl) ?_
    refine lv_iload_n hx hb dJx4a65c_add_72be8_12 rfl (lv_at hl 3 rfl) ?_
    refine lv_aload_n hx hb dJx4a65c_add_72be8_13 rfl (lv_at hl 2 rfl) ?_
    refine mi_astq (ws' := [(h, .inr (2, [.int (iI cm), .ref k_2, .int (iI 0)])), (v, .inr (15, [.ref a1, .ref a2, .ref a3, .ref a4, .int (iI (-1))])), (k_2, .inl (cO, 10, .inr (.inr (.inr (.inr (va_up (fun _ => none) 0 (some v)))))))]) (k := 0) hx hb hK hP hD hS 2 1 15 rfl rfl (hE.obj (by decide +kernel)) rfl rfl rfl (by decide) (by decide) rfl dJx4a65c_add_72be8_14 (fun H locs hP hD hS => ?_)
    refine lv_aload_n hx hb dJx4a65c_add_72be8_15 rfl (lv_at hl 1 rfl) ?_
    refine lv_iload_n hx hb dJx4a65c_add_72be8_16 rfl (lv_at hl 3 rfl) ?_
    refine mi_iconst hx hb dJx4a65c_add_72be8_17 ?_
    refine mi_iadd hx hb dJx4a65c_add_72be8_18 ?_
    refine va_put (D := (dC, dI)) (ci := 2) (v := .int (iI (0 + 1))) (ty := .int) (C := RJx4a65c) (T := TJx4a65c) (N := 3) hx hb hts (gh hg_Jx4a65c) tyJx4a65c tyJx4a65c_ok nmJx4a65c hown hK hP hD hS 0 rfl rfl 2 (by decide) hf48 (fun _ h9 => h9) rfl (by decide +kernel) rfl rfl (Nat.le_of_ble_eq_true rfl) dJx4a65c_add_72be8_19 (fun H locs hP hD hS => ?_)
    have hP : va_P (dC, dI) vwCl [(h, .inr (2, [.int (iI cm), .ref k_2, .int (iI (0 + 1))])), (v, .inr (15, [.ref a1, .ref a2, .ref a3, .ref a4, .int (iI (-1))])), (k_2, .inl (cO, 10, .inr (.inr (.inr (.inr (va_up (fun _ => none) 0 (some v)))))))] H := hP
    have hD : va_D A [(h, .inr (2, [.int (iI cm), .ref k_2, .int (iI (0 + 1))])), (v, .inr (15, [.ref a1, .ref a2, .ref a3, .ref a4, .int (iI (-1))])), (k_2, .inl (cO, 10, .inr (.inr (.inr (.inr (va_up (fun _ => none) 0 (some v)))))))] := hD
    have hP : va_P (dC, dI) vwCl [(h, .inr (2, [.int (iI cm), .ref k_2, .int (iI (0 + 1))]))] H := hP.sub [0] rfl
    have hD : va_D A [(h, .inr (2, [.int (iI cm), .ref k_2, .int (iI (0 + 1))]))] := hD.sub [0] (by decide) rfl
    exact mi_vretX (k_2) hx hb hQ hr hlocks hAe hsz hP hD hS rfl dJx4a65c_add_72be8_22

set_option maxRecDepth 100000 in
set_option maxHeartbeats 4000000 in
theorem c_add_13 (l : Launch) (dC : Nat → ClassId) (dI : Nat → Nat → Nat) (cI cO cJ : ClassId) (h : Nat) (cm : Int) (v : Nat) (a1 : Nat) (a2 : Nat) (a3 : Nat) (a4 : Nat) (eZ : Nat × Nat) (sz : Nat) : Met l yJx4a65c_add_9ea2d (gw (.code yJx4a65c_add_9ea2d cJx4a65c_add_9ea2d 2 (some .boolean))) ({ frames := 4, cells := 1, slots := 10, locals := 87 }) (mPcZ (dC, dI) [(cI, .int), (cO, .object "java/lang/Object"), (cJ, .long)] eZ [.ref h, .ref v] sz [(h, .inr (2, [.int (iI cm), .ref eZ.1, .int (iI 0)])), (v, .inr (15, [.ref a1, .ref a2, .ref a3, .ref a4, .int (iI (-1))]))]) (mQiX (dC, dI) [(h, .inr (2, [.int (iI cm), .ref eZ.1, .int (iI 0)])), (v, .inr (15, [.ref a1, .ref a2, .ref a3, .ref a4, .int (iI (-1))]))] (fun (z9 : Nat) => [(h, .inr (2, [.int (iI (cm + 1)), .ref z9, .int (iI (0 + 1))]))]) sz 1) 1 10 (va_A [(h, .inr (2, [.int (iI cm), .ref eZ.1, .int (iI 0)])), (v, .inr (15, [.ref a1, .ref a2, .ref a3, .ref a4, .int (iI (-1))]))] sz) := by
  refine mMetZ (cc := cJx4a65c_add_9ea2d) (maxL := 2) (ret := (some .boolean)) (by decide) rfl (Nat.le_of_ble_eq_true rfl) ?_
  intro p e s m args below meth c A ls hx hb hr hts hown hlocks hin hml hAe hsz hA hD H hHe hP hK hZ hE hS hl Q hQ
  have hl : lv_has ls 2 [(0, .ref h), (1, .ref v)] := hl
  have hf63 := hts (.fieldLink RJx4a65c 63 "java/util/ArrayList" "modCount" "I") (gm wg_287)
  have hs63 := hts (.sameField "java/util/ArrayList" "java/util/AbstractList" "modCount" "I") (gm wg_288)
  have hf9 := hts (.fieldLink RJx4a65c 9 "java/util/ArrayList" "elementData" "[Ljava/lang/Object;") (gm wg_272)
  have hf48 := hts (.fieldLink RJx4a65c 48 "java/util/ArrayList" "size" "I") (gm wg_8)
  refine lv_aload_n hx hb dJx4a65c_add_9ea2d_0 rfl (lv_at hl 0 rfl) ?_
  refine lv_dup hx hb dJx4a65c_add_9ea2d_1 rfl ?_
  refine va_get (ci := 2) (v := .int (iI cm)) (C := RJx4a65c) (T := TJx4a65c) (N := 3) hx hb hts (gh hg_Jx4a65c) hown hK hP 0 rfl rfl 0 (by decide) hf63 (fun x9 h9 => u_same hs63 x9 h9) rfl dJx4a65c_add_9ea2d_2 ?_
  refine mi_iconst hx hb dJx4a65c_add_9ea2d_5 ?_
  refine mi_iadd hx hb dJx4a65c_add_9ea2d_6 ?_
  refine va_put (D := (dC, dI)) (ci := 2) (v := .int (iI (cm + 1))) (ty := .int) (C := RJx4a65c) (T := TJx4a65c) (N := 3) hx hb hts (gh hg_Jx4a65c) tyJx4a65c tyJx4a65c_ok nmJx4a65c hown hK hP hD hS 0 rfl rfl 0 (by decide) hf63 (fun x9 h9 => u_same hs63 x9 h9) rfl (by decide +kernel) rfl rfl (Nat.le_of_ble_eq_true rfl) dJx4a65c_add_9ea2d_7 (fun H locs hP hD hS => ?_)
  have hP : va_P (dC, dI) vwCl [(h, .inr (2, [.int (iI (cm + 1)), .ref eZ.1, .int (iI 0)])), (v, .inr (15, [.ref a1, .ref a2, .ref a3, .ref a4, .int (iI (-1))]))] H := hP
  have hD : va_D A [(h, .inr (2, [.int (iI (cm + 1)), .ref eZ.1, .int (iI 0)])), (v, .inr (15, [.ref a1, .ref a2, .ref a3, .ref a4, .int (iI (-1))]))] := hD
  refine lv_aload_n hx hb dJx4a65c_add_9ea2d_10 rfl (lv_at hl 0 rfl) ?_
  refine lv_aload_n hx hb dJx4a65c_add_9ea2d_11 rfl (lv_at hl 1 rfl) ?_
  refine lv_aload_n hx hb dJx4a65c_add_9ea2d_12 rfl (lv_at hl 0 rfl) ?_
  refine va_get (ci := 2) (v := .ref eZ.1) (C := RJx4a65c) (T := TJx4a65c) (N := 3) hx hb hts (gh hg_Jx4a65c) hown hK hP 0 rfl rfl 1 (by decide) hf9 (fun _ h9 => h9) rfl dJx4a65c_add_9ea2d_13 ?_
  refine lv_aload_n hx hb dJx4a65c_add_9ea2d_16 rfl (lv_at hl 0 rfl) ?_
  refine va_get (ci := 2) (v := .int (iI 0)) (C := RJx4a65c) (T := TJx4a65c) (N := 3) hx hb hts (gh hg_Jx4a65c) hown hK hP 0 rfl rfl 2 (by decide) hf48 (fun _ h9 => h9) rfl dJx4a65c_add_9ea2d_17 ?_
  refine m_runvX (wc := [(h, .inr (2, [.int (iI (cm + 1)), .ref eZ.1, .int (iI 0)])), (v, .inr (15, [.ref a1, .ref a2, .ref a3, .ref a4, .int (iI (-1))]))]) (wf := fun (k_1 : Nat) => [(h, .inr (2, [.int (iI (cm + 1)), .ref k_1, .int (iI (0 + 1))]))]) (wr := []) (ws' := fun (k_1 : Nat) => [(h, .inr (2, [.int (iI (cm + 1)), .ref k_1, .int (iI (0 + 1))]))]) (va_runV (As := [.ref v, .ref eZ.1, .int (iI 0)]) (rest := []) ⟨hx, hb, hml, hown, hts⟩ (c_addE_13 l dC dI cI cO cJ h (cm + 1) v a1 a2 a3 a4 eZ H.size ) (cwV 3 hts (gV wg_289 wg_290 wg_291 wg_15 wg_286) rfl rfl rfl (by decide +kernel) ⟨Nat.le_of_ble_eq_true rfl, Nat.le_of_ble_eq_true rfl⟩) (m_preVZ hE hS hA hZ hK hP hD [0, 1] rfl (by decide) (va_recv hK hP (ci := 2) (q0 := 0) rfl rfl)) rfl rfl hl.1 rfl (lv_room (Nat.le_of_ble_eq_true rfl)) dJx4a65c_add_9ea2d_20 ⟨Nat.le_of_ble_eq_true rfl, Nat.le_of_ble_eq_true rfl⟩) hP hD hS hA [0, 1] [] [0] rfl rfl (by decide) (by decide) (fun _ => rfl) (by decide) (fun k_1 H locs hP hD hS => ?_)
  have hP : va_P (dC, dI) vwCl [(h, .inr (2, [.int (iI (cm + 1)), .ref k_1, .int (iI (0 + 1))]))] H := hP
  have hD : va_D A [(h, .inr (2, [.int (iI (cm + 1)), .ref k_1, .int (iI (0 + 1))]))] := hD
  refine mi_iconst hx hb dJx4a65c_add_9ea2d_23 ?_
  have hP : va_P (dC, dI) vwCl [(h, .inr (2, [.int (iI (cm + 1)), .ref k_1, .int (iI (0 + 1))]))] H := hP.sub [0] rfl
  have hD : va_D A [(h, .inr (2, [.int (iI (cm + 1)), .ref k_1, .int (iI (0 + 1))]))] := hD.sub [0] (by decide) rfl
  exact mi_zretX (k_1) hx hb hQ hr hlocks hAe hsz hP hD hS (by decide) (by first | rfl | omega | (split <;> omega)) rfl dJx4a65c_add_9ea2d_24

set_option maxRecDepth 100000 in
set_option maxHeartbeats 4000000 in
theorem c_addE_L (l : Launch) (dC : Nat → ClassId) (dI : Nat → Nat → Nat) (cI cO cJ : ClassId) (h : Nat) (cm : Int) (v : Nat) (eZ : Nat × Nat) (sz : Nat) : Met l yJx4a65c_add_72be8 (gw (.code yJx4a65c_add_72be8 cJx4a65c_add_72be8 4 none)) ({ frames := 3, cells := 1, slots := 10, locals := 64 }) (mPcZ (dC, dI) [(cI, .int), (cO, .object "java/lang/Object"), (cJ, .long)] eZ [.ref h, .ref v, .ref eZ.1, .int (iI 0)] sz [(h, .inr (2, [.int (iI cm), .ref eZ.1, .int (iI 0)])), (v, .inr (2, [.int (iI 0), .ref eZ.1, .int (iI 0)]))]) (mQvX (dC, dI) [(h, .inr (2, [.int (iI cm), .ref eZ.1, .int (iI 0)])), (v, .inr (2, [.int (iI 0), .ref eZ.1, .int (iI 0)]))] (fun (z9 : Nat) => [(h, .inr (2, [.int (iI cm), .ref z9, .int (iI (0 + 1))]))]) sz) 1 10 (va_A [(h, .inr (2, [.int (iI cm), .ref eZ.1, .int (iI 0)])), (v, .inr (2, [.int (iI 0), .ref eZ.1, .int (iI 0)]))] sz) := by
  refine mMetZ (cc := cJx4a65c_add_72be8) (maxL := 4) (ret := none) (by decide) rfl (Nat.le_of_ble_eq_true rfl) ?_
  intro p e s m args below meth c A ls hx hb hr hts hown hlocks hin hml hAe hsz hA hD H hHe hP hK hZ hE hS hl Q hQ
  have hl : lv_has ls 4 [(0, .ref h), (1, .ref v), (2, .ref eZ.1), (3, .int (iI 0))] := hl
  have hf48 := hts (.fieldLink RJx4a65c 48 "java/util/ArrayList" "size" "I") (gm wg_8)
  refine lv_iload_n hx hb dJx4a65c_add_72be8_0 rfl (lv_at hl 3 rfl) ?_
  refine lv_aload_n hx hb dJx4a65c_add_72be8_1 rfl (lv_at hl 2 rfl) ?_
  refine mi_lenZ hx hb hE hS dJx4a65c_add_72be8_2 ?_
  refine mi_icmp_ne (tgt := 11) hx hb (by decide) (by decide) dJx4a65c_add_72be8_3 (by decide) (fun c_1 => ?_) (fun c_1 => ?_)
  · exfalso; omega
  · refine lv_aload_n hx hb dJx4a65c_add_72be8_6 rfl (lv_at hl 0 rfl) ?_
    refine m_runrX (wc := [(h, .inr (2, [.int (iI cm), .ref eZ.1, .int (iI 0)]))]) (wf := fun (k_2 : Nat) => [(h, .inr (2, [.int (iI cm), .ref k_2, .int (iI 0)])), (k_2, .inl (cO, 10, .inr (.inr (.inr (.inr (fun _ => none))))))]) (wr := [(v, .inr (2, [.int (iI 0), .ref eZ.1, .int (iI 0)]))]) (ws' := fun (k_2 : Nat) => [(h, .inr (2, [.int (iI cm), .ref k_2, .int (iI 0)])), (v, .inr (2, [.int (iI 0), .ref eZ.1, .int (iI 0)])), (k_2, .inl (cO, 10, .inr (.inr (.inr (.inr (fun _ => none))))))]) (va_runV (As := []) (rest := []) ⟨hx, hb, hml, hown, hts⟩ (c_Jx4a65c_grow_d5877 l dC dI cI cO cJ h cm eZ H.size ) (cwV 0 hts (gV wg_283 wg_284 wg_285 wg_15 wg_282) rfl rfl rfl (by decide +kernel) ⟨Nat.le_of_ble_eq_true rfl, Nat.le_of_ble_eq_true rfl⟩) (m_preVZ hE hS hA hZ hK hP hD [0] rfl (by decide) (va_recv hK hP (ci := 2) (q0 := 0) rfl rfl)) rfl rfl hl.1 rfl (lv_room (Nat.le_of_ble_eq_true rfl)) dJx4a65c_add_72be8_7 ⟨Nat.le_of_ble_eq_true rfl, Nat.le_of_ble_eq_true rfl⟩) hP hD hS hA [0] [1] [1, 0, 2] rfl rfl (by decide) (by decide) (fun _ => rfl) (by decide) (fun k_2 H locs hP hD hS => ?_)
    have hP : va_P (dC, dI) vwCl [(h, .inr (2, [.int (iI cm), .ref k_2, .int (iI 0)])), (v, .inr (2, [.int (iI 0), .ref eZ.1, .int (iI 0)])), (k_2, .inl (cO, 10, .inr (.inr (.inr (.inr (fun _ => none))))))] H := hP
    have hD : va_D A [(h, .inr (2, [.int (iI cm), .ref k_2, .int (iI 0)])), (v, .inr (2, [.int (iI 0), .ref eZ.1, .int (iI 0)])), (k_2, .inl (cO, 10, .inr (.inr (.inr (.inr (fun _ => none))))))] := hD
    refine lv_astore_n (lv' := [(2, .ref k_2), (0, .ref h), (1, .ref v), (3, .int (iI 0))]) hx hb dJx4a65c_add_72be8_10 rfl hl (by decide) rfl (fun ls hl => ?_)
    refine lv_aload_n hx hb dJx4a65c_add_72be8_11 rfl (lv_at hl 0 rfl) ?_
    refine lv_iload_n hx hb dJx4a65c_add_72be8_12 rfl (lv_at hl 3 rfl) ?_
    refine lv_aload_n hx hb dJx4a65c_add_72be8_13 rfl (lv_at hl 2 rfl) ?_
    refine mi_astq (ws' := [(h, .inr (2, [.int (iI cm), .ref k_2, .int (iI 0)])), (v, .inr (2, [.int (iI 0), .ref eZ.1, .int (iI 0)])), (k_2, .inl (cO, 10, .inr (.inr (.inr (.inr (va_up (fun _ => none) 0 (some v)))))))]) (k := 0) hx hb hK hP hD hS 2 1 2 rfl rfl (hE.obj (by decide +kernel)) rfl rfl rfl (by decide) (by decide) rfl dJx4a65c_add_72be8_14 (fun H locs hP hD hS => ?_)
    refine lv_aload_n hx hb dJx4a65c_add_72be8_15 rfl (lv_at hl 1 rfl) ?_
    refine lv_iload_n hx hb dJx4a65c_add_72be8_16 rfl (lv_at hl 3 rfl) ?_
    refine mi_iconst hx hb dJx4a65c_add_72be8_17 ?_
    refine mi_iadd hx hb dJx4a65c_add_72be8_18 ?_
    refine va_put (D := (dC, dI)) (ci := 2) (v := .int (iI (0 + 1))) (ty := .int) (C := RJx4a65c) (T := TJx4a65c) (N := 3) hx hb hts (gh hg_Jx4a65c) tyJx4a65c tyJx4a65c_ok nmJx4a65c hown hK hP hD hS 0 rfl rfl 2 (by decide) hf48 (fun _ h9 => h9) rfl (by decide +kernel) rfl rfl (Nat.le_of_ble_eq_true rfl) dJx4a65c_add_72be8_19 (fun H locs hP hD hS => ?_)
    have hP : va_P (dC, dI) vwCl [(h, .inr (2, [.int (iI cm), .ref k_2, .int (iI (0 + 1))])), (v, .inr (2, [.int (iI 0), .ref eZ.1, .int (iI 0)])), (k_2, .inl (cO, 10, .inr (.inr (.inr (.inr (va_up (fun _ => none) 0 (some v)))))))] H := hP
    have hD : va_D A [(h, .inr (2, [.int (iI cm), .ref k_2, .int (iI (0 + 1))])), (v, .inr (2, [.int (iI 0), .ref eZ.1, .int (iI 0)])), (k_2, .inl (cO, 10, .inr (.inr (.inr (.inr (va_up (fun _ => none) 0 (some v)))))))] := hD
    have hP : va_P (dC, dI) vwCl [(h, .inr (2, [.int (iI cm), .ref k_2, .int (iI (0 + 1))]))] H := hP.sub [0] rfl
    have hD : va_D A [(h, .inr (2, [.int (iI cm), .ref k_2, .int (iI (0 + 1))]))] := hD.sub [0] (by decide) rfl
    exact mi_vretX (k_2) hx hb hQ hr hlocks hAe hsz hP hD hS rfl dJx4a65c_add_72be8_22

set_option maxRecDepth 100000 in
set_option maxHeartbeats 4000000 in
theorem c_add_L (l : Launch) (dC : Nat → ClassId) (dI : Nat → Nat → Nat) (cI cO cJ : ClassId) (h : Nat) (cm : Int) (v : Nat) (eZ : Nat × Nat) (sz : Nat) : Met l yJx4a65c_add_9ea2d (gw (.code yJx4a65c_add_9ea2d cJx4a65c_add_9ea2d 2 (some .boolean))) ({ frames := 4, cells := 1, slots := 10, locals := 87 }) (mPcZ (dC, dI) [(cI, .int), (cO, .object "java/lang/Object"), (cJ, .long)] eZ [.ref h, .ref v] sz [(h, .inr (2, [.int (iI cm), .ref eZ.1, .int (iI 0)])), (v, .inr (2, [.int (iI 0), .ref eZ.1, .int (iI 0)]))]) (mQiX (dC, dI) [(h, .inr (2, [.int (iI cm), .ref eZ.1, .int (iI 0)])), (v, .inr (2, [.int (iI 0), .ref eZ.1, .int (iI 0)]))] (fun (z9 : Nat) => [(h, .inr (2, [.int (iI (cm + 1)), .ref z9, .int (iI (0 + 1))]))]) sz 1) 1 10 (va_A [(h, .inr (2, [.int (iI cm), .ref eZ.1, .int (iI 0)])), (v, .inr (2, [.int (iI 0), .ref eZ.1, .int (iI 0)]))] sz) := by
  refine mMetZ (cc := cJx4a65c_add_9ea2d) (maxL := 2) (ret := (some .boolean)) (by decide) rfl (Nat.le_of_ble_eq_true rfl) ?_
  intro p e s m args below meth c A ls hx hb hr hts hown hlocks hin hml hAe hsz hA hD H hHe hP hK hZ hE hS hl Q hQ
  have hl : lv_has ls 2 [(0, .ref h), (1, .ref v)] := hl
  have hf63 := hts (.fieldLink RJx4a65c 63 "java/util/ArrayList" "modCount" "I") (gm wg_287)
  have hs63 := hts (.sameField "java/util/ArrayList" "java/util/AbstractList" "modCount" "I") (gm wg_288)
  have hf9 := hts (.fieldLink RJx4a65c 9 "java/util/ArrayList" "elementData" "[Ljava/lang/Object;") (gm wg_272)
  have hf48 := hts (.fieldLink RJx4a65c 48 "java/util/ArrayList" "size" "I") (gm wg_8)
  refine lv_aload_n hx hb dJx4a65c_add_9ea2d_0 rfl (lv_at hl 0 rfl) ?_
  refine lv_dup hx hb dJx4a65c_add_9ea2d_1 rfl ?_
  refine va_get (ci := 2) (v := .int (iI cm)) (C := RJx4a65c) (T := TJx4a65c) (N := 3) hx hb hts (gh hg_Jx4a65c) hown hK hP 0 rfl rfl 0 (by decide) hf63 (fun x9 h9 => u_same hs63 x9 h9) rfl dJx4a65c_add_9ea2d_2 ?_
  refine mi_iconst hx hb dJx4a65c_add_9ea2d_5 ?_
  refine mi_iadd hx hb dJx4a65c_add_9ea2d_6 ?_
  refine va_put (D := (dC, dI)) (ci := 2) (v := .int (iI (cm + 1))) (ty := .int) (C := RJx4a65c) (T := TJx4a65c) (N := 3) hx hb hts (gh hg_Jx4a65c) tyJx4a65c tyJx4a65c_ok nmJx4a65c hown hK hP hD hS 0 rfl rfl 0 (by decide) hf63 (fun x9 h9 => u_same hs63 x9 h9) rfl (by decide +kernel) rfl rfl (Nat.le_of_ble_eq_true rfl) dJx4a65c_add_9ea2d_7 (fun H locs hP hD hS => ?_)
  have hP : va_P (dC, dI) vwCl [(h, .inr (2, [.int (iI (cm + 1)), .ref eZ.1, .int (iI 0)])), (v, .inr (2, [.int (iI 0), .ref eZ.1, .int (iI 0)]))] H := hP
  have hD : va_D A [(h, .inr (2, [.int (iI (cm + 1)), .ref eZ.1, .int (iI 0)])), (v, .inr (2, [.int (iI 0), .ref eZ.1, .int (iI 0)]))] := hD
  refine lv_aload_n hx hb dJx4a65c_add_9ea2d_10 rfl (lv_at hl 0 rfl) ?_
  refine lv_aload_n hx hb dJx4a65c_add_9ea2d_11 rfl (lv_at hl 1 rfl) ?_
  refine lv_aload_n hx hb dJx4a65c_add_9ea2d_12 rfl (lv_at hl 0 rfl) ?_
  refine va_get (ci := 2) (v := .ref eZ.1) (C := RJx4a65c) (T := TJx4a65c) (N := 3) hx hb hts (gh hg_Jx4a65c) hown hK hP 0 rfl rfl 1 (by decide) hf9 (fun _ h9 => h9) rfl dJx4a65c_add_9ea2d_13 ?_
  refine lv_aload_n hx hb dJx4a65c_add_9ea2d_16 rfl (lv_at hl 0 rfl) ?_
  refine va_get (ci := 2) (v := .int (iI 0)) (C := RJx4a65c) (T := TJx4a65c) (N := 3) hx hb hts (gh hg_Jx4a65c) hown hK hP 0 rfl rfl 2 (by decide) hf48 (fun _ h9 => h9) rfl dJx4a65c_add_9ea2d_17 ?_
  refine m_runvX (wc := [(h, .inr (2, [.int (iI (cm + 1)), .ref eZ.1, .int (iI 0)])), (v, .inr (2, [.int (iI 0), .ref eZ.1, .int (iI 0)]))]) (wf := fun (k_1 : Nat) => [(h, .inr (2, [.int (iI (cm + 1)), .ref k_1, .int (iI (0 + 1))]))]) (wr := []) (ws' := fun (k_1 : Nat) => [(h, .inr (2, [.int (iI (cm + 1)), .ref k_1, .int (iI (0 + 1))]))]) (va_runV (As := [.ref v, .ref eZ.1, .int (iI 0)]) (rest := []) ⟨hx, hb, hml, hown, hts⟩ (c_addE_L l dC dI cI cO cJ h (cm + 1) v eZ H.size ) (cwV 3 hts (gV wg_289 wg_290 wg_291 wg_15 wg_286) rfl rfl rfl (by decide +kernel) ⟨Nat.le_of_ble_eq_true rfl, Nat.le_of_ble_eq_true rfl⟩) (m_preVZ hE hS hA hZ hK hP hD [0, 1] rfl (by decide) (va_recv hK hP (ci := 2) (q0 := 0) rfl rfl)) rfl rfl hl.1 rfl (lv_room (Nat.le_of_ble_eq_true rfl)) dJx4a65c_add_9ea2d_20 ⟨Nat.le_of_ble_eq_true rfl, Nat.le_of_ble_eq_true rfl⟩) hP hD hS hA [0, 1] [] [0] rfl rfl (by decide) (by decide) (fun _ => rfl) (by decide) (fun k_1 H locs hP hD hS => ?_)
  have hP : va_P (dC, dI) vwCl [(h, .inr (2, [.int (iI (cm + 1)), .ref k_1, .int (iI (0 + 1))]))] H := hP
  have hD : va_D A [(h, .inr (2, [.int (iI (cm + 1)), .ref k_1, .int (iI (0 + 1))]))] := hD
  refine mi_iconst hx hb dJx4a65c_add_9ea2d_23 ?_
  have hP : va_P (dC, dI) vwCl [(h, .inr (2, [.int (iI (cm + 1)), .ref k_1, .int (iI (0 + 1))]))] H := hP.sub [0] rfl
  have hD : va_D A [(h, .inr (2, [.int (iI (cm + 1)), .ref k_1, .int (iI (0 + 1))]))] := hD.sub [0] (by decide) rfl
  exact mi_zretX (k_1) hx hb hQ hr hlocks hAe hsz hP hD hS (by decide) (by first | rfl | omega | (split <;> omega)) rfl dJx4a65c_add_9ea2d_24

set_option maxRecDepth 100000 in
set_option maxHeartbeats 4000000 in
theorem x_addSeries (l : Launch) (dC : Nat → ClassId) (dI : Nat → Nat → Nat) (cI cO cJ : ClassId) (m0 : Nat) (g : Nat) (h : Nat) (ht : Nat) (pq : Nat) (cl : Nat) (rl : Nat) (lg : Nat) (clt : Nat) (rlt : Nat) (lgt : Nat) (p0 : Int) (p1 : Int) (eZ : Nat × Nat) (sz : Nat) (hlT : l.stackTraces = false) (hr_p0 : rI p0) (hr_p1 : rI p1) (hbad : ¬ ((0 ≤ p0 ∧ p0 ≤ 9) ∧ 0 ≤ p1 ∧ p1 ≤ 9)) : vx_Met l yX9_addSeries (gw (.code yX9_addSeries cX9_addSeries 4 (some .int))) ({ frames := 7, cells := 1, slots := 6, locals := 120 }) (mPcZ (dC, dI) [(cI, .int), (cO, .object "java/lang/Object"), (cJ, .long)] eZ [.ref m0, .int (iI p0), .int (iI p1)] sz [(m0, .inr (11, [.ref g, .ref h, .ref ht, .ref pq, .int (iI 0), .int (iI 10), .int (iI 1), .int (iI 0), .int (iI 0)])), (h, .inr (10, [.ref g, .ref cl, .ref rl, .ref lg, .int (iI 0)])), (cl, .inr (2, [.int (iI 0), .ref eZ.1, .int (iI 0)])), (ht, .inr (10, [.ref g, .ref clt, .ref rlt, .ref lgt, .int (iI 0)])), (clt, .inr (2, [.int (iI 0), .ref eZ.1, .int (iI 0)]))]) mNo (mXC "java/lang/IllegalArgumentException" [(m0, .inr (11, [.ref g, .ref h, .ref ht, .ref pq, .int (iI 0), .int (iI 10), .int (iI 1), .int (iI 0), .int (iI 0)])), (h, .inr (10, [.ref g, .ref cl, .ref rl, .ref lg, .int (iI 0)])), (cl, .inr (2, [.int (iI 0), .ref eZ.1, .int (iI 0)])), (ht, .inr (10, [.ref g, .ref clt, .ref rlt, .ref lgt, .int (iI 0)])), (clt, .inr (2, [.int (iI 0), .ref eZ.1, .int (iI 0)]))] sz) 1 6 (va_A [(m0, .inr (11, [.ref g, .ref h, .ref ht, .ref pq, .int (iI 0), .int (iI 10), .int (iI 1), .int (iI 0), .int (iI 0)])), (h, .inr (10, [.ref g, .ref cl, .ref rl, .ref lg, .int (iI 0)])), (cl, .inr (2, [.int (iI 0), .ref eZ.1, .int (iI 0)])), (ht, .inr (10, [.ref g, .ref clt, .ref rlt, .ref lgt, .int (iI 0)])), (clt, .inr (2, [.int (iI 0), .ref eZ.1, .int (iI 0)]))] sz) := by
  refine mMetX (cc := cX9_addSeries) (maxL := 4) (ret := (some .int)) (by decide) rfl (Nat.le_of_ble_eq_true rfl) ?_
  intro p e s m args below meth c A ls hx hb hr hts hown hlocks hin hml hAe hsz hA hD H hHe hP hK hZ hE hS hl hno Q hQ
  have hl : lv_has ls 4 [(0, .ref m0), (1, .int (iI p0)), (2, .int (iI p1))] := hl
  refine lv_iload_n hx hb dX9_addSeries_0 rfl (lv_at hl 1 rfl) ?_
  refine mi_i2l hx hb (by omega) dX9_addSeries_1 ?_
  refine mi_iconst hx hb dX9_addSeries_2 ?_
  refine mi_bipush hx hb dX9_addSeries_3 (by decide) ?_
  refine m_run (wc := []) (wc' := []) (wr := [(m0, .inr (11, [.ref g, .ref h, .ref ht, .ref pq, .int (iI 0), .int (iI 10), .int (iI 1), .int (iI 0), .int (iI 0)])), (h, .inr (10, [.ref g, .ref cl, .ref rl, .ref lg, .int (iI 0)])), (cl, .inr (2, [.int (iI 0), .ref eZ.1, .int (iI 0)])), (ht, .inr (10, [.ref g, .ref clt, .ref rlt, .ref lgt, .int (iI 0)])), (clt, .inr (2, [.int (iI 0), .ref eZ.1, .int (iI 0)]))]) (ws' := [(m0, .inr (11, [.ref g, .ref h, .ref ht, .ref pq, .int (iI 0), .int (iI 10), .int (iI 1), .int (iI 0), .int (iI 0)])), (h, .inr (10, [.ref g, .ref cl, .ref rl, .ref lg, .int (iI 0)])), (cl, .inr (2, [.int (iI 0), .ref eZ.1, .int (iI 0)])), (ht, .inr (10, [.ref g, .ref clt, .ref rlt, .ref lgt, .int (iI 0)])), (clt, .inr (2, [.int (iI 0), .ref eZ.1, .int (iI 0)]))]) (va_runS (As := [.long (jI p0), .int (iI 0), .int (iI 9)]) (rest := []) ⟨hx, hb, hml, hown, hts⟩ (c_X9_isIn l dC dI cI cO cJ p0 0 9 eZ H.size (by first | assumption | omega) (by first | assumption | omega) (by first | assumption | omega)) (va_cwS 3 hts (gS wg_44 wg_45 wg_22 wg_0) rfl rfl rfl (by decide +kernel) ⟨Nat.le_of_ble_eq_true rfl, Nat.le_of_ble_eq_true rfl⟩) (m_preSZ hE hS hA hZ hK hP hD [] rfl (by decide)) rfl rfl hl.1 rfl (lv_room (Nat.le_of_ble_eq_true rfl)) dX9_addSeries_5 ⟨Nat.le_of_ble_eq_true rfl, Nat.le_of_ble_eq_true rfl⟩) hP hD hS hA [] [0, 1, 2, 3, 4] [0, 1, 2, 3, 4] rfl rfl (by decide) (by decide) rfl (by decide) (fun H locs hP hD hS => ?_)
  obtain ⟨r_1, hr_1⟩ : ∃ z : Int, z = if 0 ≤ p0 ∧ p0 ≤ 9 then 1 else 0 := ⟨_, rfl⟩
  rw [← hr_1]
  have q_2 : (r_1 = 1 ∧ 0 ≤ p0 ∧ p0 ≤ 9) ∨ (r_1 = 0 ∧ ¬ (0 ≤ p0 ∧ p0 ≤ 9)) := (by rw [hr_1]; split <;> omega)
  refine mi_if_eq (tgt := 26) hx hb (by omega) dX9_addSeries_8 (by decide) (fun c_3 => ?_) (fun c_3 => ?_)
  · refine mi_iconst hx hb dX9_addSeries_26 ?_
    refine m_callT (E := "java/lang/IllegalArgumentException") (wc := []) (wr := [(m0, .inr (11, [.ref g, .ref h, .ref ht, .ref pq, .int (iI 0), .int (iI 10), .int (iI 1), .int (iI 0), .int (iI 0)])), (h, .inr (10, [.ref g, .ref cl, .ref rl, .ref lg, .int (iI 0)])), (cl, .inr (2, [.int (iI 0), .ref eZ.1, .int (iI 0)])), (ht, .inr (10, [.ref g, .ref clt, .ref rlt, .ref lgt, .int (iI 0)])), (clt, .inr (2, [.int (iI 0), .ref eZ.1, .int (iI 0)]))]) (vx_runS (As := [.int (iI 0)]) (rest := []) ⟨hx, hb, hml, hown, hts⟩ (x_needArgument l dC dI cI cO cJ eZ H.size hlT ) (va_cwS 1 hts (gS wg_51 wg_52 wg_22 wg_1) rfl rfl rfl (by decide +kernel) ⟨Nat.le_of_ble_eq_true rfl, Nat.le_of_ble_eq_true rfl⟩) (m_preSZ hE hS hA hZ hK hP hD [] rfl (by decide)) rfl rfl hl.1 rfl (lv_room (Nat.le_of_ble_eq_true rfl)) dX9_addSeries_27 ⟨Nat.le_of_ble_eq_true rfl, Nat.le_of_ble_eq_true rfl⟩) hP hD hS hA [] [0, 1, 2, 3, 4] rfl rfl (by decide) (by decide) (fun ce_6 q_5 H locs hP hD hS hc_4 hcvhc_4 hclhc_4 => ?_)
    rw [hQ]
    exact vx_out (fun x h => (hno x h).elim) hlocks hc_4 hcvhc_4 hclhc_4 (fun t ht hW => ⟨(), trivial, rfl, by subst hsz; subst hAe; exact hS.F ht⟩) (by subst hAe; exact hS.2.2) (by omega) (by omega)
  · refine lv_iload_n hx hb dX9_addSeries_11 rfl (lv_at hl 2 rfl) ?_
    refine mi_i2l hx hb (by omega) dX9_addSeries_12 ?_
    refine mi_iconst hx hb dX9_addSeries_13 ?_
    refine mi_bipush hx hb dX9_addSeries_14 (by decide) ?_
    refine m_run (wc := []) (wc' := []) (wr := [(m0, .inr (11, [.ref g, .ref h, .ref ht, .ref pq, .int (iI 0), .int (iI 10), .int (iI 1), .int (iI 0), .int (iI 0)])), (h, .inr (10, [.ref g, .ref cl, .ref rl, .ref lg, .int (iI 0)])), (cl, .inr (2, [.int (iI 0), .ref eZ.1, .int (iI 0)])), (ht, .inr (10, [.ref g, .ref clt, .ref rlt, .ref lgt, .int (iI 0)])), (clt, .inr (2, [.int (iI 0), .ref eZ.1, .int (iI 0)]))]) (ws' := [(m0, .inr (11, [.ref g, .ref h, .ref ht, .ref pq, .int (iI 0), .int (iI 10), .int (iI 1), .int (iI 0), .int (iI 0)])), (h, .inr (10, [.ref g, .ref cl, .ref rl, .ref lg, .int (iI 0)])), (cl, .inr (2, [.int (iI 0), .ref eZ.1, .int (iI 0)])), (ht, .inr (10, [.ref g, .ref clt, .ref rlt, .ref lgt, .int (iI 0)])), (clt, .inr (2, [.int (iI 0), .ref eZ.1, .int (iI 0)]))]) (va_runS (As := [.long (jI p1), .int (iI 0), .int (iI 9)]) (rest := []) ⟨hx, hb, hml, hown, hts⟩ (c_X9_isIn l dC dI cI cO cJ p1 0 9 eZ H.size (by first | assumption | omega) (by first | assumption | omega) (by first | assumption | omega)) (va_cwS 3 hts (gS wg_44 wg_45 wg_22 wg_0) rfl rfl rfl (by decide +kernel) ⟨Nat.le_of_ble_eq_true rfl, Nat.le_of_ble_eq_true rfl⟩) (m_preSZ hE hS hA hZ hK hP hD [] rfl (by decide)) rfl rfl hl.1 rfl (lv_room (Nat.le_of_ble_eq_true rfl)) dX9_addSeries_16 ⟨Nat.le_of_ble_eq_true rfl, Nat.le_of_ble_eq_true rfl⟩) hP hD hS hA [] [0, 1, 2, 3, 4] [0, 1, 2, 3, 4] rfl rfl (by decide) (by decide) rfl (by decide) (fun H locs hP hD hS => ?_)
    obtain ⟨r_7, hr_7⟩ : ∃ z : Int, z = if 0 ≤ p1 ∧ p1 ≤ 9 then 1 else 0 := ⟨_, rfl⟩
    rw [← hr_7]
    have q_8 : (r_7 = 1 ∧ 0 ≤ p1 ∧ p1 ≤ 9) ∨ (r_7 = 0 ∧ ¬ (0 ≤ p1 ∧ p1 ≤ 9)) := (by rw [hr_7]; split <;> omega)
    refine mi_if_eq (tgt := 26) hx hb (by omega) dX9_addSeries_19 (by decide) (fun c_9 => ?_) (fun c_9 => ?_)
    · refine mi_iconst hx hb dX9_addSeries_26 ?_
      refine m_callT (E := "java/lang/IllegalArgumentException") (wc := []) (wr := [(m0, .inr (11, [.ref g, .ref h, .ref ht, .ref pq, .int (iI 0), .int (iI 10), .int (iI 1), .int (iI 0), .int (iI 0)])), (h, .inr (10, [.ref g, .ref cl, .ref rl, .ref lg, .int (iI 0)])), (cl, .inr (2, [.int (iI 0), .ref eZ.1, .int (iI 0)])), (ht, .inr (10, [.ref g, .ref clt, .ref rlt, .ref lgt, .int (iI 0)])), (clt, .inr (2, [.int (iI 0), .ref eZ.1, .int (iI 0)]))]) (vx_runS (As := [.int (iI 0)]) (rest := []) ⟨hx, hb, hml, hown, hts⟩ (x_needArgument l dC dI cI cO cJ eZ H.size hlT ) (va_cwS 1 hts (gS wg_51 wg_52 wg_22 wg_1) rfl rfl rfl (by decide +kernel) ⟨Nat.le_of_ble_eq_true rfl, Nat.le_of_ble_eq_true rfl⟩) (m_preSZ hE hS hA hZ hK hP hD [] rfl (by decide)) rfl rfl hl.1 rfl (lv_room (Nat.le_of_ble_eq_true rfl)) dX9_addSeries_27 ⟨Nat.le_of_ble_eq_true rfl, Nat.le_of_ble_eq_true rfl⟩) hP hD hS hA [] [0, 1, 2, 3, 4] rfl rfl (by decide) (by decide) (fun ce_12 q_11 H locs hP hD hS hc_10 hcvhc_10 hclhc_10 => ?_)
      rw [hQ]
      exact vx_out (fun x h => (hno x h).elim) hlocks hc_10 hcvhc_10 hclhc_10 (fun t ht hW => ⟨(), trivial, rfl, by subst hsz; subst hAe; exact hS.F ht⟩) (by subst hAe; exact hS.2.2) (by omega) (by omega)
    · refine mi_iconst hx hb dX9_addSeries_22 ?_
      refine lv_goto (tgt := 27) hx hb dX9_addSeries_23 (by decide) ?_
      refine m_runv (wc := []) (wc' := []) (wr := [(m0, .inr (11, [.ref g, .ref h, .ref ht, .ref pq, .int (iI 0), .int (iI 10), .int (iI 1), .int (iI 0), .int (iI 0)])), (h, .inr (10, [.ref g, .ref cl, .ref rl, .ref lg, .int (iI 0)])), (cl, .inr (2, [.int (iI 0), .ref eZ.1, .int (iI 0)])), (ht, .inr (10, [.ref g, .ref clt, .ref rlt, .ref lgt, .int (iI 0)])), (clt, .inr (2, [.int (iI 0), .ref eZ.1, .int (iI 0)]))]) (ws' := [(m0, .inr (11, [.ref g, .ref h, .ref ht, .ref pq, .int (iI 0), .int (iI 10), .int (iI 1), .int (iI 0), .int (iI 0)])), (h, .inr (10, [.ref g, .ref cl, .ref rl, .ref lg, .int (iI 0)])), (cl, .inr (2, [.int (iI 0), .ref eZ.1, .int (iI 0)])), (ht, .inr (10, [.ref g, .ref clt, .ref rlt, .ref lgt, .int (iI 0)])), (clt, .inr (2, [.int (iI 0), .ref eZ.1, .int (iI 0)]))]) (va_runS (As := [.int (iI 1)]) (rest := []) ⟨hx, hb, hml, hown, hts⟩ (c_X9_needArgument l dC dI cI cO cJ eZ H.size ) (va_cwS 1 hts (gS wg_51 wg_52 wg_22 wg_1) rfl rfl rfl (by decide +kernel) ⟨Nat.le_of_ble_eq_true rfl, Nat.le_of_ble_eq_true rfl⟩) (m_preSZ hE hS hA hZ hK hP hD [] rfl (by decide)) rfl rfl hl.1 rfl (lv_room (Nat.le_of_ble_eq_true rfl)) dX9_addSeries_27 ⟨Nat.le_of_ble_eq_true rfl, Nat.le_of_ble_eq_true rfl⟩) hP hD hS hA [] [0, 1, 2, 3, 4] [0, 1, 2, 3, 4] rfl rfl (by decide) (by decide) rfl (by decide) (fun H locs hP hD hS => ?_)
      exfalso; omega

set_option maxRecDepth 100000 in
set_option maxHeartbeats 4000000 in
theorem c_addSeries (l : Launch) (dC : Nat → ClassId) (dI : Nat → Nat → Nat) (cI cO cJ : ClassId) (m0 : Nat) (g : Nat) (h : Nat) (ht : Nat) (pq : Nat) (cl : Nat) (rl : Nat) (lg : Nat) (clt : Nat) (rlt : Nat) (lgt : Nat) (p0 : Int) (p1 : Int) (eZ : Nat × Nat) (sz : Nat) (hr_p0 : rI p0) (hr_p1 : rI p1) (hgood : (0 ≤ p0 ∧ p0 ≤ 9) ∧ 0 ≤ p1 ∧ p1 ≤ 9) : Met l yX9_addSeries (gw (.code yX9_addSeries cX9_addSeries 4 (some .int))) ({ frames := 5, cells := 20, slots := 1410, locals := 108 }) (mPcZ (dC, dI) [(cI, .int), (cO, .object "java/lang/Object"), (cJ, .long)] eZ [.ref m0, .int (iI p0), .int (iI p1)] sz [(m0, .inr (11, [.ref g, .ref h, .ref ht, .ref pq, .int (iI 0), .int (iI 10), .int (iI 1), .int (iI 0), .int (iI 0)])), (h, .inr (10, [.ref g, .ref cl, .ref rl, .ref lg, .int (iI 0)])), (cl, .inr (2, [.int (iI 0), .ref eZ.1, .int (iI 0)])), (ht, .inr (10, [.ref g, .ref clt, .ref rlt, .ref lgt, .int (iI 0)])), (clt, .inr (2, [.int (iI 0), .ref eZ.1, .int (iI 0)]))]) (mQi (dC, dI) [(m0, .inr (11, [.ref g, .ref h, .ref ht, .ref pq, .int (iI 0), .int (iI 10), .int (iI 1), .int (iI 0), .int (iI 0)])), (h, .inr (10, [.ref g, .ref cl, .ref rl, .ref lg, .int (iI 0)])), (cl, .inr (2, [.int (iI 0), .ref eZ.1, .int (iI 0)])), (ht, .inr (10, [.ref g, .ref clt, .ref rlt, .ref lgt, .int (iI 0)])), (clt, .inr (2, [.int (iI 0), .ref eZ.1, .int (iI 0)]))] [] sz 0) 20 1410 (va_A [(m0, .inr (11, [.ref g, .ref h, .ref ht, .ref pq, .int (iI 0), .int (iI 10), .int (iI 1), .int (iI 0), .int (iI 0)])), (h, .inr (10, [.ref g, .ref cl, .ref rl, .ref lg, .int (iI 0)])), (cl, .inr (2, [.int (iI 0), .ref eZ.1, .int (iI 0)])), (ht, .inr (10, [.ref g, .ref clt, .ref rlt, .ref lgt, .int (iI 0)])), (clt, .inr (2, [.int (iI 0), .ref eZ.1, .int (iI 0)]))] sz) := by
  refine mMetZ (cc := cX9_addSeries) (maxL := 4) (ret := (some .int)) (by decide) rfl (Nat.le_of_ble_eq_true rfl) ?_
  intro p e s m args below meth c A ls hx hb hr hts hown hlocks hin hml hAe hsz hA hD H hHe hP hK hZ hE hS hl Q hQ
  have hl : lv_has ls 4 [(0, .ref m0), (1, .int (iI p0)), (2, .int (iI p1))] := hl
  have hf21 := hts (.fieldLink RX9 21 "MeridianSeries" "store" "LMeridianSeries$Store;") (gm wg_10)
  have hf59 := hts (.fieldLink RX9 59 "MeridianSeries$Store" "chains" "Ljava/util/ArrayList;") (gm wg_11)
  have hcl72 := hts (.classLink RX9 72 RX6) (gm wg_294)
  have hitX6 := hts (.instantiable RX6 5) (gm wg_295)
  have hiniX6 := hts (.initialized RX6) (gm wg_296)
  have hf25 := hts (.fieldLink RX9 25 "MeridianSeries" "trial" "LMeridianSeries$Store;") (gm wg_198)
  refine lv_iload_n hx hb dX9_addSeries_0 rfl (lv_at hl 1 rfl) ?_
  refine mi_i2l hx hb (by omega) dX9_addSeries_1 ?_
  refine mi_iconst hx hb dX9_addSeries_2 ?_
  refine mi_bipush hx hb dX9_addSeries_3 (by decide) ?_
  refine m_run (wc := []) (wc' := []) (wr := [(m0, .inr (11, [.ref g, .ref h, .ref ht, .ref pq, .int (iI 0), .int (iI 10), .int (iI 1), .int (iI 0), .int (iI 0)])), (h, .inr (10, [.ref g, .ref cl, .ref rl, .ref lg, .int (iI 0)])), (cl, .inr (2, [.int (iI 0), .ref eZ.1, .int (iI 0)])), (ht, .inr (10, [.ref g, .ref clt, .ref rlt, .ref lgt, .int (iI 0)])), (clt, .inr (2, [.int (iI 0), .ref eZ.1, .int (iI 0)]))]) (ws' := [(m0, .inr (11, [.ref g, .ref h, .ref ht, .ref pq, .int (iI 0), .int (iI 10), .int (iI 1), .int (iI 0), .int (iI 0)])), (h, .inr (10, [.ref g, .ref cl, .ref rl, .ref lg, .int (iI 0)])), (cl, .inr (2, [.int (iI 0), .ref eZ.1, .int (iI 0)])), (ht, .inr (10, [.ref g, .ref clt, .ref rlt, .ref lgt, .int (iI 0)])), (clt, .inr (2, [.int (iI 0), .ref eZ.1, .int (iI 0)]))]) (va_runS (As := [.long (jI p0), .int (iI 0), .int (iI 9)]) (rest := []) ⟨hx, hb, hml, hown, hts⟩ (c_X9_isIn l dC dI cI cO cJ p0 0 9 eZ H.size (by first | assumption | omega) (by first | assumption | omega) (by first | assumption | omega)) (va_cwS 3 hts (gS wg_44 wg_45 wg_22 wg_0) rfl rfl rfl (by decide +kernel) ⟨Nat.le_of_ble_eq_true rfl, Nat.le_of_ble_eq_true rfl⟩) (m_preSZ hE hS hA hZ hK hP hD [] rfl (by decide)) rfl rfl hl.1 rfl (lv_room (Nat.le_of_ble_eq_true rfl)) dX9_addSeries_5 ⟨Nat.le_of_ble_eq_true rfl, Nat.le_of_ble_eq_true rfl⟩) hP hD hS hA [] [0, 1, 2, 3, 4] [0, 1, 2, 3, 4] rfl rfl (by decide) (by decide) rfl (by decide) (fun H locs hP hD hS => ?_)
  obtain ⟨r_1, hr_1⟩ : ∃ z : Int, z = if 0 ≤ p0 ∧ p0 ≤ 9 then 1 else 0 := ⟨_, rfl⟩
  rw [← hr_1]
  have q_2 : (r_1 = 1 ∧ 0 ≤ p0 ∧ p0 ≤ 9) ∨ (r_1 = 0 ∧ ¬ (0 ≤ p0 ∧ p0 ≤ 9)) := (by rw [hr_1]; split <;> omega)
  refine mi_if_eq (tgt := 26) hx hb (by omega) dX9_addSeries_8 (by decide) (fun c_3 => ?_) (fun c_3 => ?_)
  · refine mi_iconst hx hb dX9_addSeries_26 ?_
    exfalso; omega
  · refine lv_iload_n hx hb dX9_addSeries_11 rfl (lv_at hl 2 rfl) ?_
    refine mi_i2l hx hb (by omega) dX9_addSeries_12 ?_
    refine mi_iconst hx hb dX9_addSeries_13 ?_
    refine mi_bipush hx hb dX9_addSeries_14 (by decide) ?_
    refine m_run (wc := []) (wc' := []) (wr := [(m0, .inr (11, [.ref g, .ref h, .ref ht, .ref pq, .int (iI 0), .int (iI 10), .int (iI 1), .int (iI 0), .int (iI 0)])), (h, .inr (10, [.ref g, .ref cl, .ref rl, .ref lg, .int (iI 0)])), (cl, .inr (2, [.int (iI 0), .ref eZ.1, .int (iI 0)])), (ht, .inr (10, [.ref g, .ref clt, .ref rlt, .ref lgt, .int (iI 0)])), (clt, .inr (2, [.int (iI 0), .ref eZ.1, .int (iI 0)]))]) (ws' := [(m0, .inr (11, [.ref g, .ref h, .ref ht, .ref pq, .int (iI 0), .int (iI 10), .int (iI 1), .int (iI 0), .int (iI 0)])), (h, .inr (10, [.ref g, .ref cl, .ref rl, .ref lg, .int (iI 0)])), (cl, .inr (2, [.int (iI 0), .ref eZ.1, .int (iI 0)])), (ht, .inr (10, [.ref g, .ref clt, .ref rlt, .ref lgt, .int (iI 0)])), (clt, .inr (2, [.int (iI 0), .ref eZ.1, .int (iI 0)]))]) (va_runS (As := [.long (jI p1), .int (iI 0), .int (iI 9)]) (rest := []) ⟨hx, hb, hml, hown, hts⟩ (c_X9_isIn l dC dI cI cO cJ p1 0 9 eZ H.size (by first | assumption | omega) (by first | assumption | omega) (by first | assumption | omega)) (va_cwS 3 hts (gS wg_44 wg_45 wg_22 wg_0) rfl rfl rfl (by decide +kernel) ⟨Nat.le_of_ble_eq_true rfl, Nat.le_of_ble_eq_true rfl⟩) (m_preSZ hE hS hA hZ hK hP hD [] rfl (by decide)) rfl rfl hl.1 rfl (lv_room (Nat.le_of_ble_eq_true rfl)) dX9_addSeries_16 ⟨Nat.le_of_ble_eq_true rfl, Nat.le_of_ble_eq_true rfl⟩) hP hD hS hA [] [0, 1, 2, 3, 4] [0, 1, 2, 3, 4] rfl rfl (by decide) (by decide) rfl (by decide) (fun H locs hP hD hS => ?_)
    obtain ⟨r_4, hr_4⟩ : ∃ z : Int, z = if 0 ≤ p1 ∧ p1 ≤ 9 then 1 else 0 := ⟨_, rfl⟩
    rw [← hr_4]
    have q_5 : (r_4 = 1 ∧ 0 ≤ p1 ∧ p1 ≤ 9) ∨ (r_4 = 0 ∧ ¬ (0 ≤ p1 ∧ p1 ≤ 9)) := (by rw [hr_4]; split <;> omega)
    refine mi_if_eq (tgt := 26) hx hb (by omega) dX9_addSeries_19 (by decide) (fun c_6 => ?_) (fun c_6 => ?_)
    · refine mi_iconst hx hb dX9_addSeries_26 ?_
      exfalso; omega
    · refine mi_iconst hx hb dX9_addSeries_22 ?_
      refine lv_goto (tgt := 27) hx hb dX9_addSeries_23 (by decide) ?_
      refine m_runv (wc := []) (wc' := []) (wr := [(m0, .inr (11, [.ref g, .ref h, .ref ht, .ref pq, .int (iI 0), .int (iI 10), .int (iI 1), .int (iI 0), .int (iI 0)])), (h, .inr (10, [.ref g, .ref cl, .ref rl, .ref lg, .int (iI 0)])), (cl, .inr (2, [.int (iI 0), .ref eZ.1, .int (iI 0)])), (ht, .inr (10, [.ref g, .ref clt, .ref rlt, .ref lgt, .int (iI 0)])), (clt, .inr (2, [.int (iI 0), .ref eZ.1, .int (iI 0)]))]) (ws' := [(m0, .inr (11, [.ref g, .ref h, .ref ht, .ref pq, .int (iI 0), .int (iI 10), .int (iI 1), .int (iI 0), .int (iI 0)])), (h, .inr (10, [.ref g, .ref cl, .ref rl, .ref lg, .int (iI 0)])), (cl, .inr (2, [.int (iI 0), .ref eZ.1, .int (iI 0)])), (ht, .inr (10, [.ref g, .ref clt, .ref rlt, .ref lgt, .int (iI 0)])), (clt, .inr (2, [.int (iI 0), .ref eZ.1, .int (iI 0)]))]) (va_runS (As := [.int (iI 1)]) (rest := []) ⟨hx, hb, hml, hown, hts⟩ (c_X9_needArgument l dC dI cI cO cJ eZ H.size ) (va_cwS 1 hts (gS wg_51 wg_52 wg_22 wg_1) rfl rfl rfl (by decide +kernel) ⟨Nat.le_of_ble_eq_true rfl, Nat.le_of_ble_eq_true rfl⟩) (m_preSZ hE hS hA hZ hK hP hD [] rfl (by decide)) rfl rfl hl.1 rfl (lv_room (Nat.le_of_ble_eq_true rfl)) dX9_addSeries_27 ⟨Nat.le_of_ble_eq_true rfl, Nat.le_of_ble_eq_true rfl⟩) hP hD hS hA [] [0, 1, 2, 3, 4] [0, 1, 2, 3, 4] rfl rfl (by decide) (by decide) rfl (by decide) (fun H locs hP hD hS => ?_)
      refine lv_aload_n hx hb dX9_addSeries_30 rfl (lv_at hl 0 rfl) ?_
      refine va_get (ci := 11) (v := .ref h) (C := RX9) (T := TX9) (N := 9) hx hb hts (gh hg_X9) hown hK hP 0 rfl rfl 1 (by decide) hf21 (fun _ h9 => h9) rfl dX9_addSeries_31 ?_
      refine va_get (ci := 10) (v := .ref cl) (C := RX8) (T := TX8) (N := 5) hx hb hts (gh hg_X8) hown hK hP 1 rfl rfl 1 (by decide) hf59 (fun _ h9 => h9) rfl dX9_addSeries_34 ?_
      refine m_run (wc := [(cl, .inr (2, [.int (iI 0), .ref eZ.1, .int (iI 0)]))]) (wc' := [(cl, .inr (2, [.int (iI 0), .ref eZ.1, .int (iI 0)]))]) (wr := [(m0, .inr (11, [.ref g, .ref h, .ref ht, .ref pq, .int (iI 0), .int (iI 10), .int (iI 1), .int (iI 0), .int (iI 0)])), (h, .inr (10, [.ref g, .ref cl, .ref rl, .ref lg, .int (iI 0)])), (ht, .inr (10, [.ref g, .ref clt, .ref rlt, .ref lgt, .int (iI 0)])), (clt, .inr (2, [.int (iI 0), .ref eZ.1, .int (iI 0)]))]) (ws' := [(m0, .inr (11, [.ref g, .ref h, .ref ht, .ref pq, .int (iI 0), .int (iI 10), .int (iI 1), .int (iI 0), .int (iI 0)])), (h, .inr (10, [.ref g, .ref cl, .ref rl, .ref lg, .int (iI 0)])), (cl, .inr (2, [.int (iI 0), .ref eZ.1, .int (iI 0)])), (ht, .inr (10, [.ref g, .ref clt, .ref rlt, .ref lgt, .int (iI 0)])), (clt, .inr (2, [.int (iI 0), .ref eZ.1, .int (iI 0)]))]) (va_runV (As := []) (rest := []) ⟨hx, hb, hml, hown, hts⟩ (c_Jx4a65c_size_8abf5 l dC dI cI cO cJ cl eZ.1 0 0 eZ H.size ) (cwV 0 hts (gV wg_12 wg_13 wg_14 wg_15 wg_9) rfl rfl rfl (by decide +kernel) ⟨Nat.le_of_ble_eq_true rfl, Nat.le_of_ble_eq_true rfl⟩) (m_preVZ hE hS hA hZ hK hP hD [2] rfl (by decide) (va_recv hK hP (ci := 2) (q0 := 2) rfl rfl)) rfl rfl hl.1 rfl (lv_room (Nat.le_of_ble_eq_true rfl)) dX9_addSeries_37 ⟨Nat.le_of_ble_eq_true rfl, Nat.le_of_ble_eq_true rfl⟩) hP hD hS hA [2] [0, 1, 3, 4] [0, 1, 4, 2, 3] rfl rfl (by decide) (by decide) rfl (by decide) (fun H locs hP hD hS => ?_)
      refine lv_istore_n (lv' := [(3, .int (iI 0)), (0, .ref m0), (1, .int (iI p0)), (2, .int (iI p1))]) hx hb dX9_addSeries_40 rfl hl (by decide) rfl (fun ls hl => ?_)
      refine lv_iload_n hx hb dX9_addSeries_41 rfl (lv_at hl 0 rfl) ?_
      refine mi_bipush hx hb dX9_addSeries_42 (by decide) ?_
      refine mi_icmp_ge (tgt := 51) hx hb (by decide) (by decide) dX9_addSeries_44 (by decide) (fun c_7 => ?_) (fun c_7 => ?_)
      · exfalso; omega
      · refine mi_iconst hx hb dX9_addSeries_47 ?_
        refine lv_goto (tgt := 52) hx hb dX9_addSeries_48 (by decide) ?_
        refine m_runv (wc := []) (wc' := []) (wr := [(m0, .inr (11, [.ref g, .ref h, .ref ht, .ref pq, .int (iI 0), .int (iI 10), .int (iI 1), .int (iI 0), .int (iI 0)])), (h, .inr (10, [.ref g, .ref cl, .ref rl, .ref lg, .int (iI 0)])), (cl, .inr (2, [.int (iI 0), .ref eZ.1, .int (iI 0)])), (ht, .inr (10, [.ref g, .ref clt, .ref rlt, .ref lgt, .int (iI 0)])), (clt, .inr (2, [.int (iI 0), .ref eZ.1, .int (iI 0)]))]) (ws' := [(m0, .inr (11, [.ref g, .ref h, .ref ht, .ref pq, .int (iI 0), .int (iI 10), .int (iI 1), .int (iI 0), .int (iI 0)])), (h, .inr (10, [.ref g, .ref cl, .ref rl, .ref lg, .int (iI 0)])), (cl, .inr (2, [.int (iI 0), .ref eZ.1, .int (iI 0)])), (ht, .inr (10, [.ref g, .ref clt, .ref rlt, .ref lgt, .int (iI 0)])), (clt, .inr (2, [.int (iI 0), .ref eZ.1, .int (iI 0)]))]) (va_runS (As := [.int (iI 1)]) (rest := []) ⟨hx, hb, hml, hown, hts⟩ (c_X9_needState l dC dI cI cO cJ eZ H.size ) (va_cwS 1 hts (gS wg_73 wg_74 wg_22 wg_2) rfl rfl rfl (by decide +kernel) ⟨Nat.le_of_ble_eq_true rfl, Nat.le_of_ble_eq_true rfl⟩) (m_preSZ hE hS hA hZ hK hP hD [] rfl (by decide)) rfl rfl hl.1 rfl (lv_room (Nat.le_of_ble_eq_true rfl)) dX9_addSeries_52 ⟨Nat.le_of_ble_eq_true rfl, Nat.le_of_ble_eq_true rfl⟩) hP hD hS hA [] [0, 1, 2, 3, 4] [0, 1, 2, 3, 4] rfl rfl (by decide) (by decide) rfl (by decide) (fun H locs hP hD hS => ?_)
        refine lv_aload_n hx hb dX9_addSeries_55 rfl (lv_at hl 1 rfl) ?_
        refine va_get (ci := 11) (v := .ref h) (C := RX9) (T := TX9) (N := 9) hx hb hts (gh hg_X9) hown hK hP 0 rfl rfl 1 (by decide) hf21 (fun _ h9 => h9) rfl dX9_addSeries_56 ?_
        refine va_get (ci := 10) (v := .ref cl) (C := RX8) (T := TX8) (N := 5) hx hb hts (gh hg_X8) hown hK hP 1 rfl rfl 1 (by decide) hf59 (fun _ h9 => h9) rfl dX9_addSeries_59 ?_
        refine va_new (ci := 8) (fs := [.int (iI 0), .int (iI 0), .null, .null, .null]) (C := RX6) (T := TX6) (N := 5) hx hb hts (gh hg_X6) tyX6 tyX6_ok hown hcl72 hitX6 hiniX6 hK hP hD hS hA rfl (fun j hj => by rcases (show j = 0 ∨ j = 1 ∨ j = 2 ∨ j = 3 ∨ j = 4 by omega) with rfl | rfl | rfl | rfl | rfl <;> rfl) (Nat.le_of_ble_eq_true rfl) (Nat.le_of_ble_eq_true rfl) dX9_addSeries_62 (fun a_8 H hP hD hS => ?_)
        have hP : va_P (dC, dI) vwCl [(m0, .inr (11, [.ref g, .ref h, .ref ht, .ref pq, .int (iI 0), .int (iI 10), .int (iI 1), .int (iI 0), .int (iI 0)])), (h, .inr (10, [.ref g, .ref cl, .ref rl, .ref lg, .int (iI 0)])), (cl, .inr (2, [.int (iI 0), .ref eZ.1, .int (iI 0)])), (ht, .inr (10, [.ref g, .ref clt, .ref rlt, .ref lgt, .int (iI 0)])), (clt, .inr (2, [.int (iI 0), .ref eZ.1, .int (iI 0)])), (a_8, .inr (8, [.int (iI 0), .int (iI 0), .null, .null, .null]))] H := hP
        have hD : va_D A [(m0, .inr (11, [.ref g, .ref h, .ref ht, .ref pq, .int (iI 0), .int (iI 10), .int (iI 1), .int (iI 0), .int (iI 0)])), (h, .inr (10, [.ref g, .ref cl, .ref rl, .ref lg, .int (iI 0)])), (cl, .inr (2, [.int (iI 0), .ref eZ.1, .int (iI 0)])), (ht, .inr (10, [.ref g, .ref clt, .ref rlt, .ref lgt, .int (iI 0)])), (clt, .inr (2, [.int (iI 0), .ref eZ.1, .int (iI 0)])), (a_8, .inr (8, [.int (iI 0), .int (iI 0), .null, .null, .null]))] := hD
        refine lv_dup hx hb dX9_addSeries_65 rfl ?_
        refine lv_iload_n hx hb dX9_addSeries_66 rfl (lv_at hl 2 rfl) ?_
        refine lv_iload_n hx hb dX9_addSeries_67 rfl (lv_at hl 3 rfl) ?_
        refine m_runvX (wc := [(a_8, .inr (8, [.int (iI 0), .int (iI 0), .null, .null, .null]))]) (wf := fun (k_9 : Nat × Nat × Nat) => [(a_8, .inr (8, [.int (iI p0), .int (iI p1), .ref k_9.1, .ref k_9.2.1, .ref k_9.2.2]))]) (wr := [(m0, .inr (11, [.ref g, .ref h, .ref ht, .ref pq, .int (iI 0), .int (iI 10), .int (iI 1), .int (iI 0), .int (iI 0)])), (h, .inr (10, [.ref g, .ref cl, .ref rl, .ref lg, .int (iI 0)])), (cl, .inr (2, [.int (iI 0), .ref eZ.1, .int (iI 0)])), (ht, .inr (10, [.ref g, .ref clt, .ref rlt, .ref lgt, .int (iI 0)])), (clt, .inr (2, [.int (iI 0), .ref eZ.1, .int (iI 0)]))]) (ws' := fun (k_9 : Nat × Nat × Nat) => [(m0, .inr (11, [.ref g, .ref h, .ref ht, .ref pq, .int (iI 0), .int (iI 10), .int (iI 1), .int (iI 0), .int (iI 0)])), (h, .inr (10, [.ref g, .ref cl, .ref rl, .ref lg, .int (iI 0)])), (cl, .inr (2, [.int (iI 0), .ref eZ.1, .int (iI 0)])), (ht, .inr (10, [.ref g, .ref clt, .ref rlt, .ref lgt, .int (iI 0)])), (clt, .inr (2, [.int (iI 0), .ref eZ.1, .int (iI 0)])), (a_8, .inr (8, [.int (iI p0), .int (iI p1), .ref k_9.1, .ref k_9.2.1, .ref k_9.2.2]))]) (va_runI (As := [.int (iI p0), .int (iI p1)]) (rest := [.ref a_8, .ref cl]) ⟨hx, hb, hml, hown, hts⟩ (c_X6_init l dC dI cI cO cJ a_8 p0 p1 eZ H.size ) (cwI 2 hts (gI wg_260) rfl rfl rfl (hts (.initialized RX6) (gm wg_296)) (hts (.methodLink RX9 74 yX6_init) (gm wg_297)) (hts (.instanceMethod yX6_init) (gm wg_298)) rfl (by decide +kernel) ⟨Nat.le_of_ble_eq_true rfl, Nat.le_of_ble_eq_true rfl⟩) (m_preSZ hE hS hA hZ hK hP hD [5] rfl (by decide)) rfl rfl hl.1 rfl (lv_room (Nat.le_of_ble_eq_true rfl)) dX9_addSeries_68 ⟨Nat.le_of_ble_eq_true rfl, Nat.le_of_ble_eq_true rfl⟩) hP hD hS hA [5] [0, 1, 2, 3, 4] [0, 1, 2, 3, 4, 5] rfl rfl (by decide) (by decide) (fun _ => rfl) (by decide) (fun k_9 H locs hP hD hS => ?_)
        have hP : va_P (dC, dI) vwCl [(m0, .inr (11, [.ref g, .ref h, .ref ht, .ref pq, .int (iI 0), .int (iI 10), .int (iI 1), .int (iI 0), .int (iI 0)])), (h, .inr (10, [.ref g, .ref cl, .ref rl, .ref lg, .int (iI 0)])), (cl, .inr (2, [.int (iI 0), .ref eZ.1, .int (iI 0)])), (ht, .inr (10, [.ref g, .ref clt, .ref rlt, .ref lgt, .int (iI 0)])), (clt, .inr (2, [.int (iI 0), .ref eZ.1, .int (iI 0)])), (a_8, .inr (8, [.int (iI p0), .int (iI p1), .ref k_9.1, .ref k_9.2.1, .ref k_9.2.2]))] H := hP
        have hD : va_D A [(m0, .inr (11, [.ref g, .ref h, .ref ht, .ref pq, .int (iI 0), .int (iI 10), .int (iI 1), .int (iI 0), .int (iI 0)])), (h, .inr (10, [.ref g, .ref cl, .ref rl, .ref lg, .int (iI 0)])), (cl, .inr (2, [.int (iI 0), .ref eZ.1, .int (iI 0)])), (ht, .inr (10, [.ref g, .ref clt, .ref rlt, .ref lgt, .int (iI 0)])), (clt, .inr (2, [.int (iI 0), .ref eZ.1, .int (iI 0)])), (a_8, .inr (8, [.int (iI p0), .int (iI p1), .ref k_9.1, .ref k_9.2.1, .ref k_9.2.2]))] := hD
        refine m_runX (wc := [(cl, .inr (2, [.int (iI 0), .ref eZ.1, .int (iI 0)])), (a_8, .inr (8, [.int (iI p0), .int (iI p1), .ref k_9.1, .ref k_9.2.1, .ref k_9.2.2]))]) (wf := fun (k_10 : Nat) => [(cl, .inr (2, [.int (iI (0 + 1)), .ref k_10, .int (iI (0 + 1))]))]) (wr := [(m0, .inr (11, [.ref g, .ref h, .ref ht, .ref pq, .int (iI 0), .int (iI 10), .int (iI 1), .int (iI 0), .int (iI 0)])), (h, .inr (10, [.ref g, .ref cl, .ref rl, .ref lg, .int (iI 0)])), (ht, .inr (10, [.ref g, .ref clt, .ref rlt, .ref lgt, .int (iI 0)])), (clt, .inr (2, [.int (iI 0), .ref eZ.1, .int (iI 0)]))]) (ws' := fun (k_10 : Nat) => [(m0, .inr (11, [.ref g, .ref h, .ref ht, .ref pq, .int (iI 0), .int (iI 10), .int (iI 1), .int (iI 0), .int (iI 0)])), (h, .inr (10, [.ref g, .ref cl, .ref rl, .ref lg, .int (iI 0)])), (ht, .inr (10, [.ref g, .ref clt, .ref rlt, .ref lgt, .int (iI 0)])), (clt, .inr (2, [.int (iI 0), .ref eZ.1, .int (iI 0)])), (cl, .inr (2, [.int (iI (0 + 1)), .ref k_10, .int (iI (0 + 1))]))]) (va_runV (As := [.ref a_8]) (rest := []) ⟨hx, hb, hml, hown, hts⟩ (c_add_6 l dC dI cI cO cJ cl 0 a_8 k_9.1 k_9.2.1 k_9.2.2 p0 p1 eZ H.size ) (cwV 1 hts (gV wg_299 wg_300 wg_301 wg_15 wg_292) rfl rfl rfl (by decide +kernel) ⟨Nat.le_of_ble_eq_true rfl, Nat.le_of_ble_eq_true rfl⟩) (m_preVZ hE hS hA hZ hK hP hD [2, 5] rfl (by decide) (va_recv hK hP (ci := 2) (q0 := 2) rfl rfl)) rfl rfl hl.1 rfl (lv_room (Nat.le_of_ble_eq_true rfl)) dX9_addSeries_71 ⟨Nat.le_of_ble_eq_true rfl, Nat.le_of_ble_eq_true rfl⟩) hP hD hS hA [2, 5] [0, 1, 3, 4] [0, 1, 2, 3, 4] rfl rfl (by decide) (by decide) (fun _ => rfl) (by decide) (fun k_10 H locs hP hD hS => ?_)
        have hP : va_P (dC, dI) vwCl [(m0, .inr (11, [.ref g, .ref h, .ref ht, .ref pq, .int (iI 0), .int (iI 10), .int (iI 1), .int (iI 0), .int (iI 0)])), (h, .inr (10, [.ref g, .ref cl, .ref rl, .ref lg, .int (iI 0)])), (ht, .inr (10, [.ref g, .ref clt, .ref rlt, .ref lgt, .int (iI 0)])), (clt, .inr (2, [.int (iI 0), .ref eZ.1, .int (iI 0)])), (cl, .inr (2, [.int (iI (0 + 1)), .ref k_10, .int (iI (0 + 1))]))] H := hP
        have hD : va_D A [(m0, .inr (11, [.ref g, .ref h, .ref ht, .ref pq, .int (iI 0), .int (iI 10), .int (iI 1), .int (iI 0), .int (iI 0)])), (h, .inr (10, [.ref g, .ref cl, .ref rl, .ref lg, .int (iI 0)])), (ht, .inr (10, [.ref g, .ref clt, .ref rlt, .ref lgt, .int (iI 0)])), (clt, .inr (2, [.int (iI 0), .ref eZ.1, .int (iI 0)])), (cl, .inr (2, [.int (iI (0 + 1)), .ref k_10, .int (iI (0 + 1))]))] := hD
        refine lv_pop hx hb dX9_addSeries_74 rfl ?_
        refine lv_aload_n hx hb dX9_addSeries_75 rfl (lv_at hl 1 rfl) ?_
        refine va_get (ci := 11) (v := .ref ht) (C := RX9) (T := TX9) (N := 9) hx hb hts (gh hg_X9) hown hK hP 0 rfl rfl 2 (by decide) hf25 (fun _ h9 => h9) rfl dX9_addSeries_76 ?_
        refine va_get (ci := 10) (v := .ref clt) (C := RX8) (T := TX8) (N := 5) hx hb hts (gh hg_X8) hown hK hP 2 rfl rfl 1 (by decide) hf59 (fun _ h9 => h9) rfl dX9_addSeries_79 ?_
        refine va_new (ci := 8) (fs := [.int (iI 0), .int (iI 0), .null, .null, .null]) (C := RX6) (T := TX6) (N := 5) hx hb hts (gh hg_X6) tyX6 tyX6_ok hown hcl72 hitX6 hiniX6 hK hP hD hS hA rfl (fun j hj => by rcases (show j = 0 ∨ j = 1 ∨ j = 2 ∨ j = 3 ∨ j = 4 by omega) with rfl | rfl | rfl | rfl | rfl <;> rfl) (Nat.le_of_ble_eq_true rfl) (Nat.le_of_ble_eq_true rfl) dX9_addSeries_82 (fun a_11 H hP hD hS => ?_)
        have hP : va_P (dC, dI) vwCl [(m0, .inr (11, [.ref g, .ref h, .ref ht, .ref pq, .int (iI 0), .int (iI 10), .int (iI 1), .int (iI 0), .int (iI 0)])), (h, .inr (10, [.ref g, .ref cl, .ref rl, .ref lg, .int (iI 0)])), (ht, .inr (10, [.ref g, .ref clt, .ref rlt, .ref lgt, .int (iI 0)])), (clt, .inr (2, [.int (iI 0), .ref eZ.1, .int (iI 0)])), (cl, .inr (2, [.int (iI (0 + 1)), .ref k_10, .int (iI (0 + 1))])), (a_11, .inr (8, [.int (iI 0), .int (iI 0), .null, .null, .null]))] H := hP
        have hD : va_D A [(m0, .inr (11, [.ref g, .ref h, .ref ht, .ref pq, .int (iI 0), .int (iI 10), .int (iI 1), .int (iI 0), .int (iI 0)])), (h, .inr (10, [.ref g, .ref cl, .ref rl, .ref lg, .int (iI 0)])), (ht, .inr (10, [.ref g, .ref clt, .ref rlt, .ref lgt, .int (iI 0)])), (clt, .inr (2, [.int (iI 0), .ref eZ.1, .int (iI 0)])), (cl, .inr (2, [.int (iI (0 + 1)), .ref k_10, .int (iI (0 + 1))])), (a_11, .inr (8, [.int (iI 0), .int (iI 0), .null, .null, .null]))] := hD
        refine lv_dup hx hb dX9_addSeries_85 rfl ?_
        refine lv_iload_n hx hb dX9_addSeries_86 rfl (lv_at hl 2 rfl) ?_
        refine lv_iload_n hx hb dX9_addSeries_87 rfl (lv_at hl 3 rfl) ?_
        refine m_runvX (wc := [(a_11, .inr (8, [.int (iI 0), .int (iI 0), .null, .null, .null]))]) (wf := fun (k_12 : Nat × Nat × Nat) => [(a_11, .inr (8, [.int (iI p0), .int (iI p1), .ref k_12.1, .ref k_12.2.1, .ref k_12.2.2]))]) (wr := [(m0, .inr (11, [.ref g, .ref h, .ref ht, .ref pq, .int (iI 0), .int (iI 10), .int (iI 1), .int (iI 0), .int (iI 0)])), (h, .inr (10, [.ref g, .ref cl, .ref rl, .ref lg, .int (iI 0)])), (ht, .inr (10, [.ref g, .ref clt, .ref rlt, .ref lgt, .int (iI 0)])), (clt, .inr (2, [.int (iI 0), .ref eZ.1, .int (iI 0)])), (cl, .inr (2, [.int (iI (0 + 1)), .ref k_10, .int (iI (0 + 1))]))]) (ws' := fun (k_12 : Nat × Nat × Nat) => [(m0, .inr (11, [.ref g, .ref h, .ref ht, .ref pq, .int (iI 0), .int (iI 10), .int (iI 1), .int (iI 0), .int (iI 0)])), (h, .inr (10, [.ref g, .ref cl, .ref rl, .ref lg, .int (iI 0)])), (ht, .inr (10, [.ref g, .ref clt, .ref rlt, .ref lgt, .int (iI 0)])), (clt, .inr (2, [.int (iI 0), .ref eZ.1, .int (iI 0)])), (cl, .inr (2, [.int (iI (0 + 1)), .ref k_10, .int (iI (0 + 1))])), (a_11, .inr (8, [.int (iI p0), .int (iI p1), .ref k_12.1, .ref k_12.2.1, .ref k_12.2.2]))]) (va_runI (As := [.int (iI p0), .int (iI p1)]) (rest := [.ref a_11, .ref clt]) ⟨hx, hb, hml, hown, hts⟩ (c_X6_init l dC dI cI cO cJ a_11 p0 p1 eZ H.size ) (cwI 2 hts (gI wg_260) rfl rfl rfl (hts (.initialized RX6) (gm wg_296)) (hts (.methodLink RX9 74 yX6_init) (gm wg_297)) (hts (.instanceMethod yX6_init) (gm wg_298)) rfl (by decide +kernel) ⟨Nat.le_of_ble_eq_true rfl, Nat.le_of_ble_eq_true rfl⟩) (m_preSZ hE hS hA hZ hK hP hD [5] rfl (by decide)) rfl rfl hl.1 rfl (lv_room (Nat.le_of_ble_eq_true rfl)) dX9_addSeries_88 ⟨Nat.le_of_ble_eq_true rfl, Nat.le_of_ble_eq_true rfl⟩) hP hD hS hA [5] [0, 1, 2, 3, 4] [0, 1, 2, 3, 4, 5] rfl rfl (by decide) (by decide) (fun _ => rfl) (by decide) (fun k_12 H locs hP hD hS => ?_)
        have hP : va_P (dC, dI) vwCl [(m0, .inr (11, [.ref g, .ref h, .ref ht, .ref pq, .int (iI 0), .int (iI 10), .int (iI 1), .int (iI 0), .int (iI 0)])), (h, .inr (10, [.ref g, .ref cl, .ref rl, .ref lg, .int (iI 0)])), (ht, .inr (10, [.ref g, .ref clt, .ref rlt, .ref lgt, .int (iI 0)])), (clt, .inr (2, [.int (iI 0), .ref eZ.1, .int (iI 0)])), (cl, .inr (2, [.int (iI (0 + 1)), .ref k_10, .int (iI (0 + 1))])), (a_11, .inr (8, [.int (iI p0), .int (iI p1), .ref k_12.1, .ref k_12.2.1, .ref k_12.2.2]))] H := hP
        have hD : va_D A [(m0, .inr (11, [.ref g, .ref h, .ref ht, .ref pq, .int (iI 0), .int (iI 10), .int (iI 1), .int (iI 0), .int (iI 0)])), (h, .inr (10, [.ref g, .ref cl, .ref rl, .ref lg, .int (iI 0)])), (ht, .inr (10, [.ref g, .ref clt, .ref rlt, .ref lgt, .int (iI 0)])), (clt, .inr (2, [.int (iI 0), .ref eZ.1, .int (iI 0)])), (cl, .inr (2, [.int (iI (0 + 1)), .ref k_10, .int (iI (0 + 1))])), (a_11, .inr (8, [.int (iI p0), .int (iI p1), .ref k_12.1, .ref k_12.2.1, .ref k_12.2.2]))] := hD
        refine m_runX (wc := [(clt, .inr (2, [.int (iI 0), .ref eZ.1, .int (iI 0)])), (a_11, .inr (8, [.int (iI p0), .int (iI p1), .ref k_12.1, .ref k_12.2.1, .ref k_12.2.2]))]) (wf := fun (k_13 : Nat) => [(clt, .inr (2, [.int (iI (0 + 1)), .ref k_13, .int (iI (0 + 1))]))]) (wr := [(m0, .inr (11, [.ref g, .ref h, .ref ht, .ref pq, .int (iI 0), .int (iI 10), .int (iI 1), .int (iI 0), .int (iI 0)])), (h, .inr (10, [.ref g, .ref cl, .ref rl, .ref lg, .int (iI 0)])), (ht, .inr (10, [.ref g, .ref clt, .ref rlt, .ref lgt, .int (iI 0)])), (cl, .inr (2, [.int (iI (0 + 1)), .ref k_10, .int (iI (0 + 1))]))]) (ws' := fun (k_13 : Nat) => [(m0, .inr (11, [.ref g, .ref h, .ref ht, .ref pq, .int (iI 0), .int (iI 10), .int (iI 1), .int (iI 0), .int (iI 0)])), (h, .inr (10, [.ref g, .ref cl, .ref rl, .ref lg, .int (iI 0)])), (ht, .inr (10, [.ref g, .ref clt, .ref rlt, .ref lgt, .int (iI 0)])), (cl, .inr (2, [.int (iI (0 + 1)), .ref k_10, .int (iI (0 + 1))])), (clt, .inr (2, [.int (iI (0 + 1)), .ref k_13, .int (iI (0 + 1))]))]) (va_runV (As := [.ref a_11]) (rest := []) ⟨hx, hb, hml, hown, hts⟩ (c_add_6 l dC dI cI cO cJ clt 0 a_11 k_12.1 k_12.2.1 k_12.2.2 p0 p1 eZ H.size ) (cwV 1 hts (gV wg_299 wg_300 wg_301 wg_15 wg_292) rfl rfl rfl (by decide +kernel) ⟨Nat.le_of_ble_eq_true rfl, Nat.le_of_ble_eq_true rfl⟩) (m_preVZ hE hS hA hZ hK hP hD [3, 5] rfl (by decide) (va_recv hK hP (ci := 2) (q0 := 3) rfl rfl)) rfl rfl hl.1 rfl (lv_room (Nat.le_of_ble_eq_true rfl)) dX9_addSeries_91 ⟨Nat.le_of_ble_eq_true rfl, Nat.le_of_ble_eq_true rfl⟩) hP hD hS hA [3, 5] [0, 1, 2, 4] [0, 1, 2, 3, 4] rfl rfl (by decide) (by decide) (fun _ => rfl) (by decide) (fun k_13 H locs hP hD hS => ?_)
        have hP : va_P (dC, dI) vwCl [(m0, .inr (11, [.ref g, .ref h, .ref ht, .ref pq, .int (iI 0), .int (iI 10), .int (iI 1), .int (iI 0), .int (iI 0)])), (h, .inr (10, [.ref g, .ref cl, .ref rl, .ref lg, .int (iI 0)])), (ht, .inr (10, [.ref g, .ref clt, .ref rlt, .ref lgt, .int (iI 0)])), (cl, .inr (2, [.int (iI (0 + 1)), .ref k_10, .int (iI (0 + 1))])), (clt, .inr (2, [.int (iI (0 + 1)), .ref k_13, .int (iI (0 + 1))]))] H := hP
        have hD : va_D A [(m0, .inr (11, [.ref g, .ref h, .ref ht, .ref pq, .int (iI 0), .int (iI 10), .int (iI 1), .int (iI 0), .int (iI 0)])), (h, .inr (10, [.ref g, .ref cl, .ref rl, .ref lg, .int (iI 0)])), (ht, .inr (10, [.ref g, .ref clt, .ref rlt, .ref lgt, .int (iI 0)])), (cl, .inr (2, [.int (iI (0 + 1)), .ref k_10, .int (iI (0 + 1))])), (clt, .inr (2, [.int (iI (0 + 1)), .ref k_13, .int (iI (0 + 1))]))] := hD
        refine lv_pop hx hb dX9_addSeries_94 rfl ?_
        refine lv_iload_n hx hb dX9_addSeries_95 rfl (lv_at hl 0 rfl) ?_
        have hP : va_P (dC, dI) vwCl [] H := hP.sub [] rfl
        have hD : va_D A [] := hD.sub [] (by decide) rfl
        exact mi_iret hx hb hQ hr hlocks hAe hsz hP hD hS (by first | rfl | omega | (split <;> omega)) rfl dX9_addSeries_96
