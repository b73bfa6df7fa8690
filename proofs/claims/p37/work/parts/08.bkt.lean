set_option maxRecDepth 100000 in
set_option maxHeartbeats 4000000 in
theorem c_X4_number_g (l : Launch) (dC : Nat → ClassId) (dI : Nat → Nat → Nat) (cI cO : ClassId) (h : Nat) (qt : Nat) (qv : Nat) (qs : Nat) (am : Int) (tt : fI) (vv : fI) (zz : fI) (sb : Int) (sp : Int) (gs : Int) (i : Int) (w : Int) (sz : Nat) (hi : 0 ≤ i ∧ i < 160) (hw : 0 ≤ w ∧ w ≤ 6) : Met l yX4_number wsX4_number ({ frames := 0, cells := 0, slots := 0, locals := 0 }) (mPc (dC, dI) [(cI, .int), (cO, .object "java/lang/Object")] [.ref h, .int (iI i), .int (iI w)] sz [(h, .inr (4, [.int (iI am), .ref qt, .ref qv, .ref qs, .int (iI sb), .int (iI sp), .int (iI gs)])), (qt, .inl (cI, 160, .inl (aI tt))), (qv, .inl (cI, 160, .inl (aI vv))), (qs, .inl (cI, 9, .inl (aI zz)))]) (mQi (dC, dI) [(h, .inr (4, [.int (iI am), .ref qt, .ref qv, .ref qs, .int (iI sb), .int (iI sp), .int (iI gs)])), (qt, .inl (cI, 160, .inl (aI tt))), (qv, .inl (cI, 160, .inl (aI vv))), (qs, .inl (cI, 9, .inl (aI zz)))] [(h, .inr (4, [.int (iI am), .ref qt, .ref qv, .ref qs, .int (iI sb), .int (iI sp), .int (iI gs)])), (qt, .inl (cI, 160, .inl (aI tt))), (qv, .inl (cI, 160, .inl (aI vv))), (qs, .inl (cI, 9, .inl (aI zz)))] sz (nmP tt vv i w)) 0 0 (va_A [(h, .inr (4, [.int (iI am), .ref qt, .ref qv, .ref qs, .int (iI sb), .int (iI sp), .int (iI gs)])), (qt, .inl (cI, 160, .inl (aI tt))), (qv, .inl (cI, 160, .inl (aI vv))), (qs, .inl (cI, 9, .inl (aI zz)))] sz) := by
  refine mMet (cc := cX4_number) (maxL := 3) (ret := (some .int)) (by decide) rfl (Nat.le_of_ble_eq_true rfl) ?_
  intro p e s m args below meth c A ls hx hb hr hts hown hlocks hin hml hAe hsz hA hD H hHe hP hK hZ hS hl Q hQ
  have hl : lv_has ls 3 [(0, .ref h), (1, .int (iI i)), (2, .int (iI w))] := hl
  have hf11 := hts (.fieldLink RX4 11 "MeridianSeries$Points" "times" "[I") (by decide +kernel)
  have hi_X4 : ∀ w ∈ u_ws RX4 TX4 7, w ∈ wsX4_number := by decide +kernel
  have hf15 := hts (.fieldLink RX4 15 "MeridianSeries$Points" "values" "[I") (by decide +kernel)
  refine lv_iload_n hx hb dX4_number_0 rfl (lv_at hl 1 rfl) ?_
  refine mi_if_lt (tgt := 22) hx hb (by omega) dX4_number_1 (by decide) (fun c_1 => ?_) (fun c_1 => ?_)
  · exfalso; omega
  · refine lv_iload_n hx hb dX4_number_4 rfl (lv_at hl 1 rfl) ?_
    refine lv_aload_n hx hb dX4_number_5 rfl (lv_at hl 0 rfl) ?_
    refine va_get (ci := 4) (v := .ref qt) (C := RX4) (T := TX4) (N := 7) hx hb hts hi_X4 hown hK hP 0 rfl rfl 1 (by decide) hf11 (fun _ h9 => h9) rfl dX4_number_6 ?_
    refine mi_alen hx hb hK hP 1 0 rfl rfl dX4_number_9 ?_
    have eln : ((160 : Nat) : Int) = 160 := rfl
    rw [eln]
    refine mi_icmp_ge (tgt := 22) hx hb (by omega) (by decide) dX4_number_10 (by decide) (fun c_2 => ?_) (fun c_2 => ?_)
    · exfalso; omega
    · refine lv_iload_n hx hb dX4_number_13 rfl (lv_at hl 1 rfl) ?_
      refine lv_aload_n hx hb dX4_number_14 rfl (lv_at hl 0 rfl) ?_
      refine va_get (ci := 4) (v := .ref qv) (C := RX4) (T := TX4) (N := 7) hx hb hts hi_X4 hown hK hP 0 rfl rfl 2 (by decide) hf15 (fun _ h9 => h9) rfl dX4_number_15 ?_
      refine mi_alen hx hb hK hP 2 0 rfl rfl dX4_number_18 ?_
      have eln : ((160 : Nat) : Int) = 160 := rfl
      rw [eln]
      refine mi_icmp_lt (tgt := 24) hx hb (by omega) (by decide) dX4_number_19 (by decide) (fun c_3 => ?_) (fun c_3 => ?_)
      · refine lv_iload_n hx hb dX4_number_24 rfl (lv_at hl 2 rfl) ?_
        by_cases sw_4 : w = 0
        · refine mi_lsw (off := 27) (tgt := 52) hx hb dX4_number_25 (by omega) (by decide) (by rw [sw_4]; rfl) (by decide) ?_
          refine lv_aload_n hx hb dX4_number_52 rfl (lv_at hl 0 rfl) ?_
          refine va_get (ci := 4) (v := .ref qt) (C := RX4) (T := TX4) (N := 7) hx hb hts hi_X4 hown hK hP 0 rfl rfl 1 (by decide) hf11 (fun _ h9 => h9) rfl dX4_number_53 ?_
          refine lv_iload_n hx hb dX4_number_56 rfl (lv_at hl 1 rfl) ?_
          refine mi_iald hx hb hK hP 1 0 rfl rfl (i := i) (by omega) (by decide) dX4_number_57 ?_
          exact mi_iret hx hb hQ hr hlocks hAe hsz hP hD hS (by unfold nmP; rw [if_pos (by omega)]) rfl dX4_number_58
        by_cases sw_5 : w = 1
        · refine mi_lsw (off := 34) (tgt := 59) hx hb dX4_number_25 (by omega) (by decide) (by rw [sw_5]; rfl) (by decide) ?_
          refine mi_iconst hx hb dX4_number_59 ?_
          exact mi_iret hx hb hQ hr hlocks hAe hsz hP hD hS (by unfold nmP; rw [if_neg (by omega), if_pos (by omega)]) rfl dX4_number_60
        refine mi_lsw (off := 36) (tgt := 61) hx hb dX4_number_25 (by omega) (by decide) (by show (if (0 : Int) = w then (27 : Int) else if (1 : Int) = w then (34 : Int) else (36 : Int)) = 36; rw [if_neg (by omega), if_neg (by omega)]) (by decide) ?_
        refine lv_aload_n hx hb dX4_number_61 rfl (lv_at hl 0 rfl) ?_
        refine va_get (ci := 4) (v := .ref qv) (C := RX4) (T := TX4) (N := 7) hx hb hts hi_X4 hown hK hP 0 rfl rfl 2 (by decide) hf15 (fun _ h9 => h9) rfl dX4_number_62 ?_
        refine lv_iload_n hx hb dX4_number_65 rfl (lv_at hl 1 rfl) ?_
        refine mi_iald hx hb hK hP 2 0 rfl rfl (i := i) (by omega) (by decide) dX4_number_66 ?_
        exact mi_iret hx hb hQ hr hlocks hAe hsz hP hD hS (by unfold nmP; rw [if_neg (by omega), if_neg (by omega)]) rfl dX4_number_67
      · exfalso; omega

set_option maxRecDepth 100000 in
set_option maxHeartbeats 4000000 in
theorem c_X4_number_w (l : Launch) (dC : Nat → ClassId) (dI : Nat → Nat → Nat) (cI cO : ClassId) (h : Nat) (qt : Nat) (qv : Nat) (qs : Nat) (am : Int) (tt : fI) (vv : fI) (zz : fI) (sb : Int) (sp : Int) (gs : Int) (i : Int) (w : Int) (sz : Nat) (hi : 0 ≤ i ∧ i < 160) (hw : 1 ≤ w ∧ w ≤ 6) : Met l yX4_number wsX4_number ({ frames := 0, cells := 0, slots := 0, locals := 0 }) (mPc (dC, dI) [(cI, .int), (cO, .object "java/lang/Object")] [.ref h, .int (iI i), .int (iI w)] sz [(h, .inr (4, [.int (iI am), .ref qt, .ref qv, .ref qs, .int (iI sb), .int (iI sp), .int (iI gs)])), (qt, .inl (cI, 160, .inl (aI tt))), (qv, .inl (cI, 160, .inl (aI vv))), (qs, .inl (cI, 9, .inl (aI zz)))]) (mQi (dC, dI) [(h, .inr (4, [.int (iI am), .ref qt, .ref qv, .ref qs, .int (iI sb), .int (iI sp), .int (iI gs)])), (qt, .inl (cI, 160, .inl (aI tt))), (qv, .inl (cI, 160, .inl (aI vv))), (qs, .inl (cI, 9, .inl (aI zz)))] [(h, .inr (4, [.int (iI am), .ref qt, .ref qv, .ref qs, .int (iI sb), .int (iI sp), .int (iI gs)])), (qt, .inl (cI, 160, .inl (aI tt))), (qv, .inl (cI, 160, .inl (aI vv))), (qs, .inl (cI, 9, .inl (aI zz)))] sz (srP (vv i) w)) 0 0 (va_A [(h, .inr (4, [.int (iI am), .ref qt, .ref qv, .ref qs, .int (iI sb), .int (iI sp), .int (iI gs)])), (qt, .inl (cI, 160, .inl (aI tt))), (qv, .inl (cI, 160, .inl (aI vv))), (qs, .inl (cI, 9, .inl (aI zz)))] sz) := by
  refine mMet (cc := cX4_number) (maxL := 3) (ret := (some .int)) (by decide) rfl (Nat.le_of_ble_eq_true rfl) ?_
  intro p e s m args below meth c A ls hx hb hr hts hown hlocks hin hml hAe hsz hA hD H hHe hP hK hZ hS hl Q hQ
  have hl : lv_has ls 3 [(0, .ref h), (1, .int (iI i)), (2, .int (iI w))] := hl
  have hf11 := hts (.fieldLink RX4 11 "MeridianSeries$Points" "times" "[I") (by decide +kernel)
  have hi_X4 : ∀ w ∈ u_ws RX4 TX4 7, w ∈ wsX4_number := by decide +kernel
  have hf15 := hts (.fieldLink RX4 15 "MeridianSeries$Points" "values" "[I") (by decide +kernel)
  refine lv_iload_n hx hb dX4_number_0 rfl (lv_at hl 1 rfl) ?_
  refine mi_if_lt (tgt := 22) hx hb (by omega) dX4_number_1 (by decide) (fun c_1 => ?_) (fun c_1 => ?_)
  · exfalso; omega
  · refine lv_iload_n hx hb dX4_number_4 rfl (lv_at hl 1 rfl) ?_
    refine lv_aload_n hx hb dX4_number_5 rfl (lv_at hl 0 rfl) ?_
    refine va_get (ci := 4) (v := .ref qt) (C := RX4) (T := TX4) (N := 7) hx hb hts hi_X4 hown hK hP 0 rfl rfl 1 (by decide) hf11 (fun _ h9 => h9) rfl dX4_number_6 ?_
    refine mi_alen hx hb hK hP 1 0 rfl rfl dX4_number_9 ?_
    have eln : ((160 : Nat) : Int) = 160 := rfl
    rw [eln]
    refine mi_icmp_ge (tgt := 22) hx hb (by omega) (by decide) dX4_number_10 (by decide) (fun c_2 => ?_) (fun c_2 => ?_)
    · exfalso; omega
    · refine lv_iload_n hx hb dX4_number_13 rfl (lv_at hl 1 rfl) ?_
      refine lv_aload_n hx hb dX4_number_14 rfl (lv_at hl 0 rfl) ?_
      refine va_get (ci := 4) (v := .ref qv) (C := RX4) (T := TX4) (N := 7) hx hb hts hi_X4 hown hK hP 0 rfl rfl 2 (by decide) hf15 (fun _ h9 => h9) rfl dX4_number_15 ?_
      refine mi_alen hx hb hK hP 2 0 rfl rfl dX4_number_18 ?_
      have eln : ((160 : Nat) : Int) = 160 := rfl
      rw [eln]
      refine mi_icmp_lt (tgt := 24) hx hb (by omega) (by decide) dX4_number_19 (by decide) (fun c_3 => ?_) (fun c_3 => ?_)
      · refine lv_iload_n hx hb dX4_number_24 rfl (lv_at hl 2 rfl) ?_
        by_cases sw_4 : w = 1
        · refine mi_lsw (off := 34) (tgt := 59) hx hb dX4_number_25 (by omega) (by decide) (by rw [sw_4]; rfl) (by decide) ?_
          refine mi_iconst hx hb dX4_number_59 ?_
          exact mi_iret hx hb hQ hr hlocks hAe hsz hP hD hS (by unfold srP; rw [if_pos (by omega)]) rfl dX4_number_60
        refine mi_lsw (off := 36) (tgt := 61) hx hb dX4_number_25 (by omega) (by decide) (by show (if (0 : Int) = w then (27 : Int) else if (1 : Int) = w then (34 : Int) else (36 : Int)) = 36; rw [if_neg (by omega), if_neg (by omega)]) (by decide) ?_
        refine lv_aload_n hx hb dX4_number_61 rfl (lv_at hl 0 rfl) ?_
        refine va_get (ci := 4) (v := .ref qv) (C := RX4) (T := TX4) (N := 7) hx hb hts hi_X4 hown hK hP 0 rfl rfl 2 (by decide) hf15 (fun _ h9 => h9) rfl dX4_number_62 ?_
        refine lv_iload_n hx hb dX4_number_65 rfl (lv_at hl 1 rfl) ?_
        refine mi_iald hx hb hK hP 2 0 rfl rfl (i := i) (by omega) (by decide) dX4_number_66 ?_
        exact mi_iret hx hb hQ hr hlocks hAe hsz hP hD hS (by unfold srP; rw [if_neg (by omega)]) rfl dX4_number_67
      · exfalso; omega

set_option maxRecDepth 100000 in
set_option maxHeartbeats 4000000 in
theorem c_X0_number (l : Launch) (dC : Nat → ClassId) (dI : Nat → Nat → Nat) (cI cO : ClassId) (h : Nat) (qc : Nat) (ba : Int) (fc : fI) (i : Int) (w : Int) (sz : Nat) (hi : 0 ≤ i ∧ i ≤ 24) (hw : 0 ≤ w ∧ w ≤ 6) : Met l yX0_number wsX0_number ({ frames := 0, cells := 0, slots := 0, locals := 0 }) (mPc (dC, dI) [(cI, .int), (cO, .object "java/lang/Object")] [.ref h, .int (iI i), .int (iI w)] sz [(h, .inr (1, [.int (iI ba), .ref qc])), (qc, .inl (cI, 175, .inl (aI fc)))]) (mQi (dC, dI) [(h, .inr (1, [.int (iI ba), .ref qc])), (qc, .inl (cI, 175, .inl (aI fc)))] [(h, .inr (1, [.int (iI ba), .ref qc])), (qc, .inl (cI, 175, .inl (aI fc)))] sz (fc (i * 7 + w))) 0 0 (va_A [(h, .inr (1, [.int (iI ba), .ref qc])), (qc, .inl (cI, 175, .inl (aI fc)))] sz) := by
  refine mMet (cc := cX0_number) (maxL := 4) (ret := (some .int)) (by decide) rfl (Nat.le_of_ble_eq_true rfl) ?_
  intro p e s m args below meth c A ls hx hb hr hts hown hlocks hin hml hAe hsz hA hD H hHe hP hK hZ hS hl Q hQ
  have hl : lv_has ls 4 [(0, .ref h), (1, .int (iI i)), (2, .int (iI w))] := hl
  have hf11 := hts (.fieldLink RX0 11 "MeridianSeries$Buckets" "cells" "[I") (by decide +kernel)
  have hi_X0 : ∀ w ∈ u_ws RX0 TX0 2, w ∈ wsX0_number := by decide +kernel
  refine lv_iload_n hx hb dX0_number_0 rfl (lv_at hl 1 rfl) ?_
  refine mi_bipush hx hb dX0_number_1 (by decide) ?_
  refine mi_imul hx hb dX0_number_3 ?_
  refine lv_iload_n hx hb dX0_number_4 rfl (lv_at hl 2 rfl) ?_
  refine mi_iadd hx hb dX0_number_5 ?_
  refine lv_istore_n (lv' := [(3, .int (iI ((i * 7) + w))), (0, .ref h), (1, .int (iI i)), (2, .int (iI w))]) hx hb dX0_number_6 rfl hl (by decide) rfl (fun ls hl => ?_)
  refine lv_iload_n hx hb dX0_number_7 rfl (lv_at hl 0 rfl) ?_
  refine mi_if_lt (tgt := 29) hx hb (by omega) dX0_number_8 (by decide) (fun c_1 => ?_) (fun c_1 => ?_)
  · exfalso; omega
  · refine lv_iload_n hx hb dX0_number_11 rfl (lv_at hl 0 rfl) ?_
    refine lv_aload_n hx hb dX0_number_12 rfl (lv_at hl 1 rfl) ?_
    refine va_get (ci := 1) (v := .ref qc) (C := RX0) (T := TX0) (N := 2) hx hb hts hi_X0 hown hK hP 0 rfl rfl 1 (by decide) hf11 (fun _ h9 => h9) rfl dX0_number_13 ?_
    refine mi_alen hx hb hK hP 1 0 rfl rfl dX0_number_16 ?_
    have eln : ((175 : Nat) : Int) = 175 := rfl
    rw [eln]
    refine mi_icmp_ge (tgt := 29) hx hb (by omega) (by decide) dX0_number_17 (by decide) (fun c_2 => ?_) (fun c_2 => ?_)
    · exfalso; omega
    · refine lv_aload_n hx hb dX0_number_20 rfl (lv_at hl 1 rfl) ?_
      refine va_get (ci := 1) (v := .ref qc) (C := RX0) (T := TX0) (N := 2) hx hb hts hi_X0 hown hK hP 0 rfl rfl 1 (by decide) hf11 (fun _ h9 => h9) rfl dX0_number_21 ?_
      refine lv_iload_n hx hb dX0_number_24 rfl (lv_at hl 0 rfl) ?_
      refine mi_iald hx hb hK hP 1 0 rfl rfl (i := (i * 7) + w) (by omega) (by decide) dX0_number_25 ?_
      refine lv_goto (tgt := 30) hx hb dX0_number_26 (by decide) ?_
      exact mi_iret hx hb hQ hr hlocks hAe hsz hP hD hS (by first | rfl | omega | (split <;> omega)) rfl dX0_number_30

set_option maxRecDepth 100000 in
set_option maxHeartbeats 4000000 in
theorem c_X0_isFull (l : Launch) (dC : Nat → ClassId) (dI : Nat → Nat → Nat) (cI cO : ClassId) (h : Nat) (qc : Nat) (ba : Int) (fc : fI) (sz : Nat) (hba : 0 ≤ ba ∧ ba ≤ 25) : Met l yX0_isFull wsX0_isFull ({ frames := 0, cells := 0, slots := 0, locals := 0 }) (mPc (dC, dI) [(cI, .int), (cO, .object "java/lang/Object")] [.ref h] sz [(h, .inr (1, [.int (iI ba), .ref qc])), (qc, .inl (cI, 175, .inl (aI fc)))]) (mQi (dC, dI) [(h, .inr (1, [.int (iI ba), .ref qc])), (qc, .inl (cI, 175, .inl (aI fc)))] [(h, .inr (1, [.int (iI ba), .ref qc])), (qc, .inl (cI, 175, .inl (aI fc)))] sz (if 25 ≤ ba then 1 else 0)) 0 0 (va_A [(h, .inr (1, [.int (iI ba), .ref qc])), (qc, .inl (cI, 175, .inl (aI fc)))] sz) := by
  refine mMet (cc := cX0_isFull) (maxL := 1) (ret := (some .boolean)) (by decide) rfl (Nat.le_of_ble_eq_true rfl) ?_
  intro p e s m args below meth c A ls hx hb hr hts hown hlocks hin hml hAe hsz hA hD H hHe hP hK hZ hS hl Q hQ
  have hl : lv_has ls 1 [(0, .ref h)] := hl
  have hf15 := hts (.fieldLink RX0 15 "MeridianSeries$Buckets" "amount" "I") (by decide +kernel)
  have hs15 := hts (.sameField "MeridianSeries$Buckets" "MeridianSeries$Items" "amount" "I") (by decide +kernel)
  have hi_X0 : ∀ w ∈ u_ws RX0 TX0 2, w ∈ wsX0_isFull := by decide +kernel
  refine lv_aload_n hx hb dX0_isFull_0 rfl (lv_at hl 0 rfl) ?_
  refine va_get (ci := 1) (v := .int (iI ba)) (C := RX0) (T := TX0) (N := 2) hx hb hts hi_X0 hown hK hP 0 rfl rfl 0 (by decide) hf15 (fun x9 h9 => u_same hs15 x9 h9) rfl dX0_isFull_1 ?_
  refine mi_bipush hx hb dX0_isFull_4 (by decide) ?_
  refine mi_icmp_lt (tgt := 13) hx hb (by omega) (by decide) dX0_isFull_6 (by decide) (fun c_1 => ?_) (fun c_1 => ?_)
  · refine mi_iconst hx hb dX0_isFull_13 ?_
    exact mi_zret hx hb hQ hr hlocks hAe hsz hP hD hS (by decide) (by first | rfl | omega | (split <;> omega)) rfl dX0_isFull_14
  · refine mi_iconst hx hb dX0_isFull_9 ?_
    refine lv_goto (tgt := 14) hx hb dX0_isFull_10 (by decide) ?_
    exact mi_zret hx hb hQ hr hlocks hAe hsz hP hD hS (by decide) (by first | rfl | omega | (split <;> omega)) rfl dX0_isFull_14

set_option maxRecDepth 100000 in
set_option maxHeartbeats 4000000 in
theorem c_X0_write (l : Launch) (dC : Nat → ClassId) (dI : Nat → Nat → Nat) (cI cO : ClassId) (h : Nat) (qc : Nat) (ba : Int) (fc : fI) (i : Int) (w : Int) (v : Int) (sz : Nat) (hi : 0 ≤ i ∧ i ≤ 24) (hw : 0 ≤ w ∧ w ≤ 6) : Met l yX0_write wsX0_write ({ frames := 0, cells := 0, slots := 0, locals := 0 }) (mPc (dC, dI) [(cI, .int), (cO, .object "java/lang/Object")] [.ref h, .int (iI i), .int (iI w), .int (iI v)] sz [(h, .inr (1, [.int (iI ba), .ref qc])), (qc, .inl (cI, 175, .inl (aI fc)))]) (mQv (dC, dI) [(h, .inr (1, [.int (iI ba), .ref qc])), (qc, .inl (cI, 175, .inl (aI fc)))] [(h, .inr (1, [.int (iI ba), .ref qc])), (qc, .inl (cI, 175, .inl (aI (uI fc (i * 7 + w) v))))] sz) 0 0 (va_A [(h, .inr (1, [.int (iI ba), .ref qc])), (qc, .inl (cI, 175, .inl (aI fc)))] sz) := by
  refine mMet (cc := cX0_write) (maxL := 5) (ret := none) (by decide) rfl (Nat.le_of_ble_eq_true rfl) ?_
  intro p e s m args below meth c A ls hx hb hr hts hown hlocks hin hml hAe hsz hA hD H hHe hP hK hZ hS hl Q hQ
  have hl : lv_has ls 5 [(0, .ref h), (1, .int (iI i)), (2, .int (iI w)), (3, .int (iI v))] := hl
  have hf11 := hts (.fieldLink RX0 11 "MeridianSeries$Buckets" "cells" "[I") (by decide +kernel)
  have hi_X0 : ∀ w ∈ u_ws RX0 TX0 2, w ∈ wsX0_write := by decide +kernel
  refine lv_iload_n hx hb dX0_write_0 rfl (lv_at hl 1 rfl) ?_
  refine mi_bipush hx hb dX0_write_1 (by decide) ?_
  refine mi_imul hx hb dX0_write_3 ?_
  refine lv_iload_n hx hb dX0_write_4 rfl (lv_at hl 2 rfl) ?_
  refine mi_iadd hx hb dX0_write_5 ?_
  refine lv_istore (lv' := [(4, .int (iI ((i * 7) + w))), (0, .ref h), (1, .int (iI i)), (2, .int (iI w)), (3, .int (iI v))]) hx hb dX0_write_6 hl (by decide) rfl (fun ls hl => ?_)
  refine lv_iload hx hb dX0_write_8 (lv_at hl 0 rfl) ?_
  refine mi_if_lt (tgt := 31) hx hb (by omega) dX0_write_10 (by decide) (fun c_1 => ?_) (fun c_1 => ?_)
  · exfalso; omega
  · refine lv_iload hx hb dX0_write_13 (lv_at hl 0 rfl) ?_
    refine lv_aload_n hx hb dX0_write_15 rfl (lv_at hl 1 rfl) ?_
    refine va_get (ci := 1) (v := .ref qc) (C := RX0) (T := TX0) (N := 2) hx hb hts hi_X0 hown hK hP 0 rfl rfl 1 (by decide) hf11 (fun _ h9 => h9) rfl dX0_write_16 ?_
    refine mi_alen hx hb hK hP 1 0 rfl rfl dX0_write_19 ?_
    have eln : ((175 : Nat) : Int) = 175 := rfl
    rw [eln]
    refine mi_icmp_ge (tgt := 31) hx hb (by omega) (by decide) dX0_write_20 (by decide) (fun c_2 => ?_) (fun c_2 => ?_)
    · exfalso; omega
    · refine lv_aload_n hx hb dX0_write_23 rfl (lv_at hl 1 rfl) ?_
      refine va_get (ci := 1) (v := .ref qc) (C := RX0) (T := TX0) (N := 2) hx hb hts hi_X0 hown hK hP 0 rfl rfl 1 (by decide) hf11 (fun _ h9 => h9) rfl dX0_write_24 ?_
      refine lv_iload hx hb dX0_write_27 (lv_at hl 0 rfl) ?_
      refine lv_iload_n hx hb dX0_write_29 rfl (lv_at hl 4 rfl) ?_
      refine mi_iast (ws' := [(h, .inr (1, [.int (iI ba), .ref qc])), (qc, .inl (cI, 175, .inl (aI (uI fc ((i * 7) + w) v))))]) hx hb hK hP hD hS 1 0 rfl rfl (i := (i * 7) + w) (by omega) (by decide) rfl dX0_write_30 (fun H locs hP hD hS => ?_)
      exact mi_vret hx hb hQ hr hlocks hAe hsz hP hD hS rfl dX0_write_31

set_option maxRecDepth 100000 in
set_option maxHeartbeats 4000000 in
theorem c_X0_dropFirst (l : Launch) (dC : Nat → ClassId) (dI : Nat → Nat → Nat) (cI cO : ClassId) (h : Nat) (qc : Nat) (ba : Int) (fc : fI) (sz : Nat) (hba : 1 ≤ ba ∧ ba ≤ 25) : Met l yX0_dropFirst wsX0_dropFirst ({ frames := 0, cells := 0, slots := 0, locals := 0 }) (mPc (dC, dI) [(cI, .int), (cO, .object "java/lang/Object")] [.ref h] sz [(h, .inr (1, [.int (iI ba), .ref qc])), (qc, .inl (cI, 175, .inl (aI fc)))]) (mQv (dC, dI) [(h, .inr (1, [.int (iI ba), .ref qc])), (qc, .inl (cI, 175, .inl (aI fc)))] [(h, .inr (1, [.int (iI (ba - 1)), .ref qc])), (qc, .inl (cI, 175, .inl (aI (drK fc 7 (ba * 7)))))] sz) 0 0 (va_A [(h, .inr (1, [.int (iI ba), .ref qc])), (qc, .inl (cI, 175, .inl (aI fc)))] sz) := by
  refine mMet (cc := cX0_dropFirst) (maxL := 2) (ret := none) (by decide) rfl (Nat.le_of_ble_eq_true rfl) ?_
  intro p e s m args below meth c A ls hx hb hr hts hown hlocks hin hml hAe hsz hA hD H hHe hP hK hZ hS hl Q hQ
  have hl : lv_has ls 2 [(0, .ref h)] := hl
  have hf15 := hts (.fieldLink RX0 15 "MeridianSeries$Buckets" "amount" "I") (by decide +kernel)
  have hs15 := hts (.sameField "MeridianSeries$Buckets" "MeridianSeries$Items" "amount" "I") (by decide +kernel)
  have hi_X0 : ∀ w ∈ u_ws RX0 TX0 2, w ∈ wsX0_dropFirst := by decide +kernel
  have hf11 := hts (.fieldLink RX0 11 "MeridianSeries$Buckets" "cells" "[I") (by decide +kernel)
  refine lv_aload_n hx hb dX0_dropFirst_0 rfl (lv_at hl 0 rfl) ?_
  refine va_get (ci := 1) (v := .int (iI ba)) (C := RX0) (T := TX0) (N := 2) hx hb hts hi_X0 hown hK hP 0 rfl rfl 0 (by decide) hf15 (fun x9 h9 => u_same hs15 x9 h9) rfl dX0_dropFirst_1 ?_
  refine mi_if_gt (tgt := 8) hx hb (by omega) dX0_dropFirst_4 (by decide) (fun c_1 => ?_) (fun c_1 => ?_)
  · refine mi_bipush hx hb dX0_dropFirst_8 (by decide) ?_
    refine lv_istore_n (lv' := [(1, .int (iI 7)), (0, .ref h)]) hx hb dX0_dropFirst_10 rfl hl (by decide) rfl (fun ls hl => ?_)
    have lp11 : ∀ (k : Nat) (i : Int), (ba * 7 - i).toNat < k → 7 ≤ i ∧ i ≤ ba * 7 → ∀ (H : Heap) (locs : List Loc) (ls : Array Slot), va_P (dC, dI) vwCl [(h, .inr (1, [.int (iI ba), .ref qc])), (qc, .inl (cI, 175, .inl (aI (drK fc 7 i))))] H → va_D A [(h, .inr (1, [.int (iI ba), .ref qc])), (qc, .inl (cI, 175, .inl (aI (drK fc 7 i))))] → va_S A s.heap H locs → lv_has ls 2 [(0, .ref h), (1, .int (iI i))] → W p l e { frames := 0, cells := 0, slots := 0, locals := 0 } s m args below meth c H locs 0 0 Q (F0 m 11 ls []) := by
      intro k
      induction k with
      | zero => intro i hm; exact absurd hm (Nat.not_lt_zero _)
      | succ k ih11 =>
        intro i hm hi H locs ls hP hD hS hl
        refine lv_iload_n hx hb dX0_dropFirst_11 rfl (lv_at hl 1 rfl) ?_
        refine lv_aload_n hx hb dX0_dropFirst_12 rfl (lv_at hl 0 rfl) ?_
        refine va_get (ci := 1) (v := .int (iI ba)) (C := RX0) (T := TX0) (N := 2) hx hb hts hi_X0 hown hK hP 0 rfl rfl 0 (by decide) hf15 (fun x9 h9 => u_same hs15 x9 h9) rfl dX0_dropFirst_13 ?_
        refine mi_bipush hx hb dX0_dropFirst_16 (by decide) ?_
        refine mi_imul hx hb dX0_dropFirst_18 ?_
        refine mi_icmp_ge (tgt := 52) hx hb (by omega) (by omega) dX0_dropFirst_19 (by decide) (fun c_2 => ?_) (fun c_2 => ?_)
        · have e_3 : ba * 7 = i := by omega
          subst e_3
          refine lv_aload_n hx hb dX0_dropFirst_52 rfl (lv_at hl 0 rfl) ?_
          refine lv_dup hx hb dX0_dropFirst_53 rfl ?_
          refine va_get (ci := 1) (v := .int (iI ba)) (C := RX0) (T := TX0) (N := 2) hx hb hts hi_X0 hown hK hP 0 rfl rfl 0 (by decide) hf15 (fun x9 h9 => u_same hs15 x9 h9) rfl dX0_dropFirst_54 ?_
          refine mi_iconst hx hb dX0_dropFirst_57 ?_
          refine mi_isub hx hb dX0_dropFirst_58 ?_
          refine va_put (D := (dC, dI)) (ci := 1) (v := .int (iI (ba - 1))) (ty := .int) (C := RX0) (T := TX0) (N := 2) hx hb hts hi_X0 tyX0 tyX0_ok nmX0 hown hK hP hD hS 0 rfl rfl 0 (by decide) hf15 (fun x9 h9 => u_same hs15 x9 h9) rfl (by decide +kernel) rfl rfl (Nat.le_of_ble_eq_true rfl) dX0_dropFirst_59 (fun H locs hP hD hS => ?_)
          have hP : va_P (dC, dI) vwCl [(h, .inr (1, [.int (iI (ba - 1)), .ref qc])), (qc, .inl (cI, 175, .inl (aI (drK fc 7 (ba * 7)))))] H := hP
          have hD : va_D A [(h, .inr (1, [.int (iI (ba - 1)), .ref qc])), (qc, .inl (cI, 175, .inl (aI (drK fc 7 (ba * 7)))))] := hD
          exact mi_vret hx hb hQ hr hlocks hAe hsz hP hD hS rfl dX0_dropFirst_62
        · refine lv_iload_n hx hb dX0_dropFirst_22 rfl (lv_at hl 1 rfl) ?_
          refine lv_aload_n hx hb dX0_dropFirst_23 rfl (lv_at hl 0 rfl) ?_
          refine va_get (ci := 1) (v := .ref qc) (C := RX0) (T := TX0) (N := 2) hx hb hts hi_X0 hown hK hP 0 rfl rfl 1 (by decide) hf11 (fun _ h9 => h9) rfl dX0_dropFirst_24 ?_
          refine mi_alen hx hb hK hP 1 0 rfl rfl dX0_dropFirst_27 ?_
          have eln : ((175 : Nat) : Int) = 175 := rfl
          rw [eln]
          refine mi_icmp_ge (tgt := 52) hx hb (by omega) (by decide) dX0_dropFirst_28 (by decide) (fun c_4 => ?_) (fun c_4 => ?_)
          · exfalso; omega
          · refine lv_aload_n hx hb dX0_dropFirst_31 rfl (lv_at hl 0 rfl) ?_
            refine va_get (ci := 1) (v := .ref qc) (C := RX0) (T := TX0) (N := 2) hx hb hts hi_X0 hown hK hP 0 rfl rfl 1 (by decide) hf11 (fun _ h9 => h9) rfl dX0_dropFirst_32 ?_
            refine lv_iload_n hx hb dX0_dropFirst_35 rfl (lv_at hl 1 rfl) ?_
            refine mi_bipush hx hb dX0_dropFirst_36 (by decide) ?_
            refine mi_isub hx hb dX0_dropFirst_38 ?_
            refine lv_aload_n hx hb dX0_dropFirst_39 rfl (lv_at hl 0 rfl) ?_
            refine va_get (ci := 1) (v := .ref qc) (C := RX0) (T := TX0) (N := 2) hx hb hts hi_X0 hown hK hP 0 rfl rfl 1 (by decide) hf11 (fun _ h9 => h9) rfl dX0_dropFirst_40 ?_
            refine lv_iload_n hx hb dX0_dropFirst_43 rfl (lv_at hl 1 rfl) ?_
            refine mi_iald hx hb hK hP 1 0 rfl rfl (i := i) (by omega) (by decide) dX0_dropFirst_44 ?_
            refine mi_iast (ws' := [(h, .inr (1, [.int (iI ba), .ref qc])), (qc, .inl (cI, 175, .inl (aI (uI (drK fc 7 i) (i - 7) ((drK fc 7 i) i)))))]) hx hb hK hP hD hS 1 0 rfl rfl (i := i - 7) (by omega) (by decide) rfl dX0_dropFirst_45 (fun H locs hP hD hS => ?_)
            refine mi_iinc (b := i + 1) (lv' := [(1, .int (iI (i + 1))), (0, .ref h)]) hx hb dX0_dropFirst_46 hl (k := 1) rfl (by decide) (by omega) rfl (fun ls hl => ?_)
            refine lv_goto (tgt := 11) hx hb dX0_dropFirst_49 (by decide) ?_
            have hw_5 : [(h, .inr (1, [.int (iI ba), .ref qc])), (qc, .inl (cI, 175, .inl (aI (uI (drK fc 7 i) (i - 7) ((drK fc 7 i) i)))))] = ([(h, .inr (1, [.int (iI ba), .ref qc])), (qc, .inl (cI, 175, .inl (aI (drK fc 7 (i + 1)))))] : va_W) := by rw [drK_s fc (i := i) (g := 7) (by omega) (by omega)]
            rw [hw_5] at hP hD
            exact ih11 (i + 1) (by omega) (by first | assumption | omega) _ _ _ hP hD hS (lv_sub hl [1, 0] rfl)
    have hw_6 : [(h, .inr (1, [.int (iI ba), .ref qc])), (qc, .inl (cI, 175, .inl (aI fc)))] = ([(h, .inr (1, [.int (iI ba), .ref qc])), (qc, .inl (cI, 175, .inl (aI (drK fc 7 7))))] : va_W) := by rw [drK_0]
    rw [hw_6] at hP hD
    exact lp11 _ 7 (Nat.lt_succ_self _) (by first | assumption | omega) _ _ _ hP hD hS (lv_sub hl [1, 0] rfl)
  · exfalso; omega

set_option maxRecDepth 100000 in
set_option maxHeartbeats 4000000 in
theorem c_X0_copyFrom (l : Launch) (dC : Nat → ClassId) (dI : Nat → Nat → Nat) (cI cO : ClassId) (h : Nat) (qc : Nat) (ba : Int) (fc : fI) (o : Nat) (qd : Nat) (bb : Int) (fd : fI) (sz : Nat) (hbb : 0 ≤ bb ∧ bb ≤ 25) : Met l yX0_copyFrom wsX0_copyFrom ({ frames := 1, cells := 0, slots := 0, locals := 24 }) (mPc (dC, dI) [(cI, .int), (cO, .object "java/lang/Object")] [.ref h, .ref o] sz [(h, .inr (1, [.int (iI ba), .ref qc])), (qc, .inl (cI, 175, .inl (aI fc))), (o, .inr (1, [.int (iI bb), .ref qd])), (qd, .inl (cI, 175, .inl (aI fd)))]) (mQv (dC, dI) [(h, .inr (1, [.int (iI ba), .ref qc])), (qc, .inl (cI, 175, .inl (aI fc))), (o, .inr (1, [.int (iI bb), .ref qd])), (qd, .inl (cI, 175, .inl (aI fd)))] [(h, .inr (1, [.int (iI bb), .ref qc])), (qc, .inl (cI, 175, .inl (aI (cpK fc fd (bb * 7))))), (o, .inr (1, [.int (iI bb), .ref qd])), (qd, .inl (cI, 175, .inl (aI fd)))] sz) 0 0 (va_A [(h, .inr (1, [.int (iI ba), .ref qc])), (qc, .inl (cI, 175, .inl (aI fc))), (o, .inr (1, [.int (iI bb), .ref qd])), (qd, .inl (cI, 175, .inl (aI fd)))] sz) := by
  refine mMet (cc := cX0_copyFrom) (maxL := 4) (ret := none) (by decide) rfl (Nat.le_of_ble_eq_true rfl) ?_
  intro p e s m args below meth c A ls hx hb hr hts hown hlocks hin hml hAe hsz hA hD H hHe hP hK hZ hS hl Q hQ
  have hl : lv_has ls 4 [(0, .ref h), (1, .ref o)] := hl
  have hf15 := hts (.fieldLink RX0 15 "MeridianSeries$Buckets" "amount" "I") (by decide +kernel)
  have hs15 := hts (.sameField "MeridianSeries$Buckets" "MeridianSeries$Items" "amount" "I") (by decide +kernel)
  have hi_X0 : ∀ w ∈ u_ws RX0 TX0 2, w ∈ wsX0_copyFrom := by decide +kernel
  refine mi_iconst hx hb dX0_copyFrom_0 ?_
  refine lv_istore_n (lv' := [(2, .int (iI 0)), (0, .ref h), (1, .ref o)]) hx hb dX0_copyFrom_1 rfl hl (by decide) rfl (fun ls hl => ?_)
  have lp2 : ∀ (k : Nat) (i : Int), (bb - i).toNat < k → 0 ≤ i ∧ i ≤ bb → ∀ (H : Heap) (locs : List Loc) (ls : Array Slot), va_P (dC, dI) vwCl [(h, .inr (1, [.int (iI ba), .ref qc])), (qc, .inl (cI, 175, .inl (aI (cpK fc fd (i * 7))))), (o, .inr (1, [.int (iI bb), .ref qd])), (qd, .inl (cI, 175, .inl (aI fd)))] H → va_D A [(h, .inr (1, [.int (iI ba), .ref qc])), (qc, .inl (cI, 175, .inl (aI (cpK fc fd (i * 7))))), (o, .inr (1, [.int (iI bb), .ref qd])), (qd, .inl (cI, 175, .inl (aI fd)))] → va_S A s.heap H locs → lv_has ls 4 [(0, .ref h), (1, .ref o), (2, .int (iI i))] → W p l e { frames := 1, cells := 0, slots := 0, locals := 24 } s m args below meth c H locs 0 0 Q (F0 m 2 ls []) := by
    intro k
    induction k with
    | zero => intro i hm; exact absurd hm (Nat.not_lt_zero _)
    | succ k ih2 =>
      intro i hm hi H locs ls hP hD hS hl
      refine lv_iload_n hx hb dX0_copyFrom_2 rfl (lv_at hl 2 rfl) ?_
      refine lv_aload_n hx hb dX0_copyFrom_3 rfl (lv_at hl 1 rfl) ?_
      refine va_get (ci := 1) (v := .int (iI bb)) (C := RX0) (T := TX0) (N := 2) hx hb hts hi_X0 hown hK hP 2 rfl rfl 0 (by decide) hf15 (fun x9 h9 => u_same hs15 x9 h9) rfl dX0_copyFrom_4 ?_
      refine mi_icmp_ge (tgt := 42) hx hb (by omega) (by omega) dX0_copyFrom_7 (by decide) (fun c_1 => ?_) (fun c_1 => ?_)
      · have e_2 : bb = i := by omega
        subst e_2
        refine lv_aload_n hx hb dX0_copyFrom_42 rfl (lv_at hl 0 rfl) ?_
        refine lv_aload_n hx hb dX0_copyFrom_43 rfl (lv_at hl 1 rfl) ?_
        refine va_get (ci := 1) (v := .int (iI bb)) (C := RX0) (T := TX0) (N := 2) hx hb hts hi_X0 hown hK hP 2 rfl rfl 0 (by decide) hf15 (fun x9 h9 => u_same hs15 x9 h9) rfl dX0_copyFrom_44 ?_
        refine va_put (D := (dC, dI)) (ci := 1) (v := .int (iI bb)) (ty := .int) (C := RX0) (T := TX0) (N := 2) hx hb hts hi_X0 tyX0 tyX0_ok nmX0 hown hK hP hD hS 0 rfl rfl 0 (by decide) hf15 (fun x9 h9 => u_same hs15 x9 h9) rfl (by decide +kernel) rfl rfl (Nat.le_of_ble_eq_true rfl) dX0_copyFrom_47 (fun H locs hP hD hS => ?_)
        have hP : va_P (dC, dI) vwCl [(h, .inr (1, [.int (iI bb), .ref qc])), (qc, .inl (cI, 175, .inl (aI (cpK fc fd (bb * 7))))), (o, .inr (1, [.int (iI bb), .ref qd])), (qd, .inl (cI, 175, .inl (aI fd)))] H := hP
        have hD : va_D A [(h, .inr (1, [.int (iI bb), .ref qc])), (qc, .inl (cI, 175, .inl (aI (cpK fc fd (bb * 7))))), (o, .inr (1, [.int (iI bb), .ref qd])), (qd, .inl (cI, 175, .inl (aI fd)))] := hD
        exact mi_vret hx hb hQ hr hlocks hAe hsz hP hD hS rfl dX0_copyFrom_50
      · refine mi_iconst hx hb dX0_copyFrom_10 ?_
        refine lv_istore_n (lv' := [(3, .int (iI 0)), (0, .ref h), (1, .ref o), (2, .int (iI i))]) hx hb dX0_copyFrom_11 rfl hl (by decide) rfl (fun ls hl => ?_)
        have lp12 : ∀ (k : Nat) (j : Int), (7 - j).toNat < k → 0 ≤ j ∧ j ≤ 7 → ∀ (H : Heap) (locs : List Loc) (ls : Array Slot), va_P (dC, dI) vwCl [(h, .inr (1, [.int (iI ba), .ref qc])), (qc, .inl (cI, 175, .inl (aI (cpK fc fd (i * 7 + j))))), (o, .inr (1, [.int (iI bb), .ref qd])), (qd, .inl (cI, 175, .inl (aI fd)))] H → va_D A [(h, .inr (1, [.int (iI ba), .ref qc])), (qc, .inl (cI, 175, .inl (aI (cpK fc fd (i * 7 + j))))), (o, .inr (1, [.int (iI bb), .ref qd])), (qd, .inl (cI, 175, .inl (aI fd)))] → va_S A s.heap H locs → lv_has ls 4 [(0, .ref h), (1, .ref o), (2, .int (iI i)), (3, .int (iI j))] → W p l e { frames := 1, cells := 0, slots := 0, locals := 24 } s m args below meth c H locs 0 0 Q (F0 m 12 ls []) := by
          intro k
          induction k with
          | zero => intro j hm; exact absurd hm (Nat.not_lt_zero _)
          | succ k ih12 =>
            intro j hm hj H locs ls hP hD hS hl
            refine lv_iload_n hx hb dX0_copyFrom_12 rfl (lv_at hl 3 rfl) ?_
            refine mi_bipush hx hb dX0_copyFrom_13 (by decide) ?_
            refine mi_icmp_gt (tgt := 36) hx hb (by omega) (by decide) dX0_copyFrom_15 (by decide) (fun c_3 => ?_) (fun c_3 => ?_)
            · have e_4 : 7 = j := by omega
              subst e_4
              refine mi_iinc (b := i + 1) (lv' := [(2, .int (iI (i + 1))), (0, .ref h), (1, .ref o), (3, .int (iI 7))]) hx hb dX0_copyFrom_36 hl (k := 2) rfl (by decide) (by omega) rfl (fun ls hl => ?_)
              refine lv_goto (tgt := 2) hx hb dX0_copyFrom_39 (by decide) ?_
              have hw_5 : [(h, .inr (1, [.int (iI ba), .ref qc])), (qc, .inl (cI, 175, .inl (aI (cpK fc fd (i * 7 + 7))))), (o, .inr (1, [.int (iI bb), .ref qd])), (qd, .inl (cI, 175, .inl (aI fd)))] = ([(h, .inr (1, [.int (iI ba), .ref qc])), (qc, .inl (cI, 175, .inl (aI (cpK fc fd ((i + 1) * 7))))), (o, .inr (1, [.int (iI bb), .ref qd])), (qd, .inl (cI, 175, .inl (aI fd)))] : va_W) := by rw [show (i + 1) * 7 = i * 7 + 7 by omega]
              rw [hw_5] at hP hD
              exact ih2 (i + 1) (by omega) (by first | assumption | omega) _ _ _ hP hD hS (lv_sub hl [1, 2, 0] rfl)
            · refine lv_aload_n hx hb dX0_copyFrom_18 rfl (lv_at hl 0 rfl) ?_
              refine lv_iload_n hx hb dX0_copyFrom_19 rfl (lv_at hl 2 rfl) ?_
              refine lv_iload_n hx hb dX0_copyFrom_20 rfl (lv_at hl 3 rfl) ?_
              refine lv_aload_n hx hb dX0_copyFrom_21 rfl (lv_at hl 1 rfl) ?_
              refine lv_iload_n hx hb dX0_copyFrom_22 rfl (lv_at hl 2 rfl) ?_
              refine lv_iload_n hx hb dX0_copyFrom_23 rfl (lv_at hl 3 rfl) ?_
              refine m_run (wc := [(o, .inr (1, [.int (iI bb), .ref qd])), (qd, .inl (cI, 175, .inl (aI fd)))]) (wc' := [(o, .inr (1, [.int (iI bb), .ref qd])), (qd, .inl (cI, 175, .inl (aI fd)))]) (wr := [(h, .inr (1, [.int (iI ba), .ref qc])), (qc, .inl (cI, 175, .inl (aI (cpK fc fd (i * 7 + j)))))]) (ws' := [(h, .inr (1, [.int (iI ba), .ref qc])), (qc, .inl (cI, 175, .inl (aI (cpK fc fd (i * 7 + j))))), (o, .inr (1, [.int (iI bb), .ref qd])), (qd, .inl (cI, 175, .inl (aI fd)))]) (va_runV (As := [.int (iI i), .int (iI j)]) (rest := [.int (iI j), .int (iI i), .ref h]) ⟨hx, hb, hml, hown, hts⟩ (c_X0_number l dC dI cI cO o qd bb fd i j H.size (by first | assumption | omega) (by first | assumption | omega)) (cwV 2 hts gX0_copyFrom_X0_number rfl rfl rfl (by decide +kernel) ⟨Nat.le_of_ble_eq_true rfl, Nat.le_of_ble_eq_true rfl⟩) (m_preV hZ hK hP hD [2, 3] rfl (by decide) (va_recv hK hP (ci := 1) (q0 := 2) rfl rfl)) rfl rfl hl.1 rfl (lv_room (Nat.le_of_ble_eq_true rfl)) dX0_copyFrom_24 ⟨Nat.le_of_ble_eq_true rfl, Nat.le_of_ble_eq_true rfl⟩) hP hD hS hA [2, 3] [0, 1] [0, 1, 2, 3] rfl rfl (by decide) (by decide) rfl (by decide) (fun H locs hP hD hS => ?_)
              refine m_runv (wc := [(h, .inr (1, [.int (iI ba), .ref qc])), (qc, .inl (cI, 175, .inl (aI (cpK fc fd (i * 7 + j)))))]) (wc' := [(h, .inr (1, [.int (iI ba), .ref qc])), (qc, .inl (cI, 175, .inl (aI (uI (cpK fc fd (i * 7 + j)) (i * 7 + j) (fd (i * 7 + j))))))]) (wr := [(o, .inr (1, [.int (iI bb), .ref qd])), (qd, .inl (cI, 175, .inl (aI fd)))]) (ws' := [(h, .inr (1, [.int (iI ba), .ref qc])), (qc, .inl (cI, 175, .inl (aI (uI (cpK fc fd (i * 7 + j)) (i * 7 + j) (fd (i * 7 + j)))))), (o, .inr (1, [.int (iI bb), .ref qd])), (qd, .inl (cI, 175, .inl (aI fd)))]) (va_runV (As := [.int (iI i), .int (iI j), .int (iI (fd (i * 7 + j)))]) (rest := []) ⟨hx, hb, hml, hown, hts⟩ (c_X0_write l dC dI cI cO h qc ba (cpK fc fd (i * 7 + j)) i j (fd (i * 7 + j)) H.size (by first | assumption | omega) (by first | assumption | omega)) (cwV 3 hts gX0_copyFrom_X0_write rfl rfl rfl (by decide +kernel) ⟨Nat.le_of_ble_eq_true rfl, Nat.le_of_ble_eq_true rfl⟩) (m_preV hZ hK hP hD [0, 1] rfl (by decide) (va_recv hK hP (ci := 1) (q0 := 0) rfl rfl)) rfl rfl hl.1 rfl (lv_room (Nat.le_of_ble_eq_true rfl)) dX0_copyFrom_27 ⟨Nat.le_of_ble_eq_true rfl, Nat.le_of_ble_eq_true rfl⟩) hP hD hS hA [0, 1] [2, 3] [2, 3, 0, 1] rfl rfl (by decide) (by decide) rfl (by decide) (fun H locs hP hD hS => ?_)
              refine mi_iinc (b := j + 1) (lv' := [(3, .int (iI (j + 1))), (0, .ref h), (1, .ref o), (2, .int (iI i))]) hx hb dX0_copyFrom_30 hl (k := 3) rfl (by decide) (by omega) rfl (fun ls hl => ?_)
              refine lv_goto (tgt := 12) hx hb dX0_copyFrom_33 (by decide) ?_
              have hw_6 : [(h, .inr (1, [.int (iI ba), .ref qc])), (qc, .inl (cI, 175, .inl (aI (uI (cpK fc fd (i * 7 + j)) (i * 7 + j) (fd (i * 7 + j)))))), (o, .inr (1, [.int (iI bb), .ref qd])), (qd, .inl (cI, 175, .inl (aI fd)))] = ([(h, .inr (1, [.int (iI ba), .ref qc])), (qc, .inl (cI, 175, .inl (aI (cpK fc fd (i * 7 + (j + 1)))))), (o, .inr (1, [.int (iI bb), .ref qd])), (qd, .inl (cI, 175, .inl (aI fd)))] : va_W) := by rw [cpK_s fc fd (i := i * 7 + j) (by omega), show i * 7 + (j + 1) = i * 7 + j + 1 by omega]
              rw [hw_6] at hP hD
              exact ih12 (j + 1) (by omega) (by first | assumption | omega) _ _ _ hP hD hS (lv_sub hl [1, 2, 3, 0] rfl)
        have hw_7 : [(h, .inr (1, [.int (iI ba), .ref qc])), (qc, .inl (cI, 175, .inl (aI (cpK fc fd (i * 7))))), (o, .inr (1, [.int (iI bb), .ref qd])), (qd, .inl (cI, 175, .inl (aI fd)))] = ([(h, .inr (1, [.int (iI ba), .ref qc])), (qc, .inl (cI, 175, .inl (aI (cpK fc fd (i * 7 + 0))))), (o, .inr (1, [.int (iI bb), .ref qd])), (qd, .inl (cI, 175, .inl (aI fd)))] : va_W) := by rw [show i * 7 + (0 : Int) = i * 7 by omega]
        rw [hw_7] at hP hD
        exact lp12 _ 0 (Nat.lt_succ_self _) (by first | assumption | omega) _ _ _ hP hD hS (lv_sub hl [1, 2, 3, 0] rfl)
  have hw_8 : [(h, .inr (1, [.int (iI ba), .ref qc])), (qc, .inl (cI, 175, .inl (aI fc))), (o, .inr (1, [.int (iI bb), .ref qd])), (qd, .inl (cI, 175, .inl (aI fd)))] = ([(h, .inr (1, [.int (iI ba), .ref qc])), (qc, .inl (cI, 175, .inl (aI (cpK fc fd (0 * 7))))), (o, .inr (1, [.int (iI bb), .ref qd])), (qd, .inl (cI, 175, .inl (aI fd)))] : va_W) := by rw [show (0 : Int) * 7 = 0 from rfl, cpK_0]
  rw [hw_8] at hP hD
  exact lp2 _ 0 (Nat.lt_succ_self _) (by first | assumption | omega) _ _ _ hP hD hS (lv_sub hl [1, 2, 0] rfl)

set_option maxRecDepth 100000 in
set_option maxHeartbeats 4000000 in
theorem c_X0_takeP_m (l : Launch) (dC : Nat → ClassId) (dI : Nat → Nat → Nat) (cI cO : ClassId) (h : Nat) (qc : Nat) (ba : Int) (fc : fI) (st : Int) (it : Int) (o : Nat) (qt : Nat) (qv : Nat) (qs : Nat) (am : Int) (tt : fI) (vv : fI) (zz : fI) (sb : Int) (sp : Int) (gs : Int) (sz : Nat) (hit : 0 ≤ it ∧ it < 160) (hfc : ∀ j, rI (fc j)) (hst : rI st) (hba : 1 ≤ ba ∧ ba ≤ 25) (hs : fc ((ba - 1) * 7 + 0) = st) (hvv : ∀ j, -100000 ≤ vv j ∧ vv j ≤ 100000) : Met l yX0_take wsX0_take ({ frames := 1, cells := 0, slots := 0, locals := 24 }) (mPc (dC, dI) [(cI, .int), (cO, .object "java/lang/Object")] [.ref h, .int (iI st), .ref o, .int (iI it)] sz [(h, .inr (1, [.int (iI ba), .ref qc])), (qc, .inl (cI, 175, .inl (aI fc))), (o, .inr (4, [.int (iI am), .ref qt, .ref qv, .ref qs, .int (iI sb), .int (iI sp), .int (iI gs)])), (qt, .inl (cI, 160, .inl (aI tt))), (qv, .inl (cI, 160, .inl (aI vv))), (qs, .inl (cI, 9, .inl (aI zz)))]) (mQv (dC, dI) [(h, .inr (1, [.int (iI ba), .ref qc])), (qc, .inl (cI, 175, .inl (aI fc))), (o, .inr (4, [.int (iI am), .ref qt, .ref qv, .ref qs, .int (iI sb), .int (iI sp), .int (iI gs)])), (qt, .inl (cI, 160, .inl (aI tt))), (qv, .inl (cI, 160, .inl (aI vv))), (qs, .inl (cI, 9, .inl (aI zz)))] [(h, .inr (1, [.int (iI ba), .ref qc])), (qc, .inl (cI, 175, .inl (aI (tkM fc (ba - 1) (srP (vv it)))))), (o, .inr (4, [.int (iI am), .ref qt, .ref qv, .ref qs, .int (iI sb), .int (iI sp), .int (iI gs)])), (qt, .inl (cI, 160, .inl (aI tt))), (qv, .inl (cI, 160, .inl (aI vv))), (qs, .inl (cI, 9, .inl (aI zz)))] sz) 0 0 (va_A [(h, .inr (1, [.int (iI ba), .ref qc])), (qc, .inl (cI, 175, .inl (aI fc))), (o, .inr (4, [.int (iI am), .ref qt, .ref qv, .ref qs, .int (iI sb), .int (iI sp), .int (iI gs)])), (qt, .inl (cI, 160, .inl (aI tt))), (qv, .inl (cI, 160, .inl (aI vv))), (qs, .inl (cI, 9, .inl (aI zz)))] sz) := by
  refine mMet (cc := cX0_take) (maxL := 6) (ret := none) (by decide) rfl (Nat.le_of_ble_eq_true rfl) ?_
  intro p e s m args below meth c A ls hx hb hr hts hown hlocks hin hml hAe hsz hA hD H hHe hP hK hZ hS hl Q hQ
  have hl : lv_has ls 6 [(0, .ref h), (1, .int (iI st)), (2, .ref o), (3, .int (iI it))] := hl
  have hf15 := hts (.fieldLink RX0 15 "MeridianSeries$Buckets" "amount" "I") (by decide +kernel)
  have hs15 := hts (.sameField "MeridianSeries$Buckets" "MeridianSeries$Items" "amount" "I") (by decide +kernel)
  have hi_X0 : ∀ w ∈ u_ws RX0 TX0 2, w ∈ wsX0_take := by decide +kernel
  have hm28 := hts (.methodLink RX0 28 Lib.Math.min.name) (by decide +kernel)
  have hmsmmin := hts (.static Lib.Math.min.name) (by decide +kernel)
  have hmi := hts (.initialized "java/lang/Math") (by decide +kernel)
  have hmcmmin := hts (.code Lib.Math.min.name Lib.Math.min.code 2 (some .int)) (by decide +kernel)
  have hm33 := hts (.methodLink RX0 33 Lib.Math.max.name) (by decide +kernel)
  have hmsmmax := hts (.static Lib.Math.max.name) (by decide +kernel)
  have hmcmmax := hts (.code Lib.Math.max.name Lib.Math.max.code 2 (some .int)) (by decide +kernel)
  refine lv_aload_n hx hb dX0_take_0 rfl (lv_at hl 0 rfl) ?_
  refine va_get (ci := 1) (v := .int (iI ba)) (C := RX0) (T := TX0) (N := 2) hx hb hts hi_X0 hown hK hP 0 rfl rfl 0 (by decide) hf15 (fun x9 h9 => u_same hs15 x9 h9) rfl dX0_take_1 ?_
  refine mi_iconst hx hb dX0_take_4 ?_
  refine mi_isub hx hb dX0_take_5 ?_
  refine lv_istore (lv' := [(4, .int (iI (ba - 1))), (0, .ref h), (1, .int (iI st)), (2, .ref o), (3, .int (iI it))]) hx hb dX0_take_6 hl (by decide) rfl (fun ls hl => ?_)
  refine lv_iload hx hb dX0_take_8 (lv_at hl 0 rfl) ?_
  refine mi_if_lt (tgt := 130) hx hb (by omega) dX0_take_10 (by decide) (fun c_1 => ?_) (fun c_1 => ?_)
  · exfalso; omega
  · refine lv_aload_n hx hb dX0_take_13 rfl (lv_at hl 1 rfl) ?_
    refine lv_iload hx hb dX0_take_14 (lv_at hl 0 rfl) ?_
    refine mi_iconst hx hb dX0_take_16 ?_
    refine m_run (wc := [(h, .inr (1, [.int (iI ba), .ref qc])), (qc, .inl (cI, 175, .inl (aI fc)))]) (wc' := [(h, .inr (1, [.int (iI ba), .ref qc])), (qc, .inl (cI, 175, .inl (aI fc)))]) (wr := [(o, .inr (4, [.int (iI am), .ref qt, .ref qv, .ref qs, .int (iI sb), .int (iI sp), .int (iI gs)])), (qt, .inl (cI, 160, .inl (aI tt))), (qv, .inl (cI, 160, .inl (aI vv))), (qs, .inl (cI, 9, .inl (aI zz)))]) (ws' := [(h, .inr (1, [.int (iI ba), .ref qc])), (qc, .inl (cI, 175, .inl (aI fc))), (o, .inr (4, [.int (iI am), .ref qt, .ref qv, .ref qs, .int (iI sb), .int (iI sp), .int (iI gs)])), (qt, .inl (cI, 160, .inl (aI tt))), (qv, .inl (cI, 160, .inl (aI vv))), (qs, .inl (cI, 9, .inl (aI zz)))]) (va_runV (As := [.int (iI (ba - 1)), .int (iI 0)]) (rest := []) ⟨hx, hb, hml, hown, hts⟩ (c_X0_number l dC dI cI cO h qc ba fc (ba - 1) 0 H.size (by first | assumption | omega) (by first | assumption | omega)) (cwV 2 hts gX0_take_X0_number rfl rfl rfl (by decide +kernel) ⟨Nat.le_of_ble_eq_true rfl, Nat.le_of_ble_eq_true rfl⟩) (m_preV hZ hK hP hD [0, 1] rfl (by decide) (va_recv hK hP (ci := 1) (q0 := 0) rfl rfl)) rfl rfl hl.1 rfl (lv_room (Nat.le_of_ble_eq_true rfl)) dX0_take_17 ⟨Nat.le_of_ble_eq_true rfl, Nat.le_of_ble_eq_true rfl⟩) hP hD hS hA [0, 1] [2, 3, 4, 5] [4, 5, 0, 1, 2, 3] rfl rfl (by decide) (by decide) rfl (by decide) (fun H locs hP hD hS => ?_)
    refine lv_iload_n hx hb dX0_take_20 rfl (lv_at hl 2 rfl) ?_
    refine mi_icmp_ne (tgt := 130) hx hb (hfc _) hst dX0_take_21 (by decide) (fun c_2 => ?_) (fun c_2 => ?_)
    · exfalso; exact c_2 hs
    · refine lv_aload_n hx hb dX0_take_24 rfl (lv_at hl 1 rfl) ?_
      refine lv_iload hx hb dX0_take_25 (lv_at hl 0 rfl) ?_
      refine mi_iconst hx hb dX0_take_27 ?_
      refine lv_aload_n hx hb dX0_take_28 rfl (lv_at hl 1 rfl) ?_
      refine lv_iload hx hb dX0_take_29 (lv_at hl 0 rfl) ?_
      refine mi_iconst hx hb dX0_take_31 ?_
      refine m_run (wc := [(h, .inr (1, [.int (iI ba), .ref qc])), (qc, .inl (cI, 175, .inl (aI fc)))]) (wc' := [(h, .inr (1, [.int (iI ba), .ref qc])), (qc, .inl (cI, 175, .inl (aI fc)))]) (wr := [(o, .inr (4, [.int (iI am), .ref qt, .ref qv, .ref qs, .int (iI sb), .int (iI sp), .int (iI gs)])), (qt, .inl (cI, 160, .inl (aI tt))), (qv, .inl (cI, 160, .inl (aI vv))), (qs, .inl (cI, 9, .inl (aI zz)))]) (ws' := [(h, .inr (1, [.int (iI ba), .ref qc])), (qc, .inl (cI, 175, .inl (aI fc))), (o, .inr (4, [.int (iI am), .ref qt, .ref qv, .ref qs, .int (iI sb), .int (iI sp), .int (iI gs)])), (qt, .inl (cI, 160, .inl (aI tt))), (qv, .inl (cI, 160, .inl (aI vv))), (qs, .inl (cI, 9, .inl (aI zz)))]) (va_runV (As := [.int (iI (ba - 1)), .int (iI 1)]) (rest := [.int (iI 1), .int (iI (ba - 1)), .ref h]) ⟨hx, hb, hml, hown, hts⟩ (c_X0_number l dC dI cI cO h qc ba fc (ba - 1) 1 H.size (by first | assumption | omega) (by first | assumption | omega)) (cwV 2 hts gX0_take_X0_number rfl rfl rfl (by decide +kernel) ⟨Nat.le_of_ble_eq_true rfl, Nat.le_of_ble_eq_true rfl⟩) (m_preV hZ hK hP hD [0, 1] rfl (by decide) (va_recv hK hP (ci := 1) (q0 := 0) rfl rfl)) rfl rfl hl.1 rfl (lv_room (Nat.le_of_ble_eq_true rfl)) dX0_take_32 ⟨Nat.le_of_ble_eq_true rfl, Nat.le_of_ble_eq_true rfl⟩) hP hD hS hA [0, 1] [2, 3, 4, 5] [4, 5, 0, 1, 2, 3] rfl rfl (by decide) (by decide) rfl (by decide) (fun H locs hP hD hS => ?_)
      refine lv_aload_n hx hb dX0_take_35 rfl (lv_at hl 3 rfl) ?_
      refine lv_iload_n hx hb dX0_take_36 rfl (lv_at hl 4 rfl) ?_
      refine mi_iconst hx hb dX0_take_37 ?_
      refine m_run (wc := [(o, .inr (4, [.int (iI am), .ref qt, .ref qv, .ref qs, .int (iI sb), .int (iI sp), .int (iI gs)])), (qt, .inl (cI, 160, .inl (aI tt))), (qv, .inl (cI, 160, .inl (aI vv))), (qs, .inl (cI, 9, .inl (aI zz)))]) (wc' := [(o, .inr (4, [.int (iI am), .ref qt, .ref qv, .ref qs, .int (iI sb), .int (iI sp), .int (iI gs)])), (qt, .inl (cI, 160, .inl (aI tt))), (qv, .inl (cI, 160, .inl (aI vv))), (qs, .inl (cI, 9, .inl (aI zz)))]) (wr := [(h, .inr (1, [.int (iI ba), .ref qc])), (qc, .inl (cI, 175, .inl (aI fc)))]) (ws' := [(h, .inr (1, [.int (iI ba), .ref qc])), (qc, .inl (cI, 175, .inl (aI fc))), (o, .inr (4, [.int (iI am), .ref qt, .ref qv, .ref qs, .int (iI sb), .int (iI sp), .int (iI gs)])), (qt, .inl (cI, 160, .inl (aI tt))), (qv, .inl (cI, 160, .inl (aI vv))), (qs, .inl (cI, 9, .inl (aI zz)))]) (va_runU (As := [.int (iI it), .int (iI 1)]) (rest := [.int (iI (fc ((ba - 1) * 7 + 1))), .int (iI 1), .int (iI (ba - 1)), .ref h]) ⟨hx, hb, hml, hown, hts⟩ (c_X4_number_1 l dC dI cI cO o qt qv qs am tt vv zz sb sp gs it H.size (by first | assumption | omega)) (va_cwA 2 hts gX0_take_X4_number_u23X4 rfl rfl rfl (hZ _ (List.mem_of_getElem? (i := 0) rfl)) (by decide +kernel) ⟨Nat.le_of_ble_eq_true rfl, Nat.le_of_ble_eq_true rfl⟩) (m_preV hZ hK hP hD [2, 3, 4, 5] rfl (by decide) (va_recv hK hP (ci := 4) (q0 := 2) rfl rfl)) rfl rfl hl.1 rfl (lv_room (Nat.le_of_ble_eq_true rfl)) dX0_take_38 ⟨Nat.le_of_ble_eq_true rfl, Nat.le_of_ble_eq_true rfl⟩) hP hD hS hA [2, 3, 4, 5] [0, 1] [0, 1, 2, 3, 4, 5] rfl rfl (by decide) (by decide) rfl (by decide) (fun H locs hP hD hS => ?_)
      refine mi_iadd hx hb dX0_take_41 ?_
      rw [← iI_wr ((fc ((ba - 1) * 7 + 1)) + 1)]
      refine m_runv (wc := [(h, .inr (1, [.int (iI ba), .ref qc])), (qc, .inl (cI, 175, .inl (aI fc)))]) (wc' := [(h, .inr (1, [.int (iI ba), .ref qc])), (qc, .inl (cI, 175, .inl (aI (uI fc ((ba - 1) * 7 + 1) (wr ((fc ((ba - 1) * 7 + 1)) + 1))))))]) (wr := [(o, .inr (4, [.int (iI am), .ref qt, .ref qv, .ref qs, .int (iI sb), .int (iI sp), .int (iI gs)])), (qt, .inl (cI, 160, .inl (aI tt))), (qv, .inl (cI, 160, .inl (aI vv))), (qs, .inl (cI, 9, .inl (aI zz)))]) (ws' := [(h, .inr (1, [.int (iI ba), .ref qc])), (qc, .inl (cI, 175, .inl (aI (uI fc ((ba - 1) * 7 + 1) (wr ((fc ((ba - 1) * 7 + 1)) + 1)))))), (o, .inr (4, [.int (iI am), .ref qt, .ref qv, .ref qs, .int (iI sb), .int (iI sp), .int (iI gs)])), (qt, .inl (cI, 160, .inl (aI tt))), (qv, .inl (cI, 160, .inl (aI vv))), (qs, .inl (cI, 9, .inl (aI zz)))]) (va_runV (As := [.int (iI (ba - 1)), .int (iI 1), .int (iI (wr ((fc ((ba - 1) * 7 + 1)) + 1)))]) (rest := []) ⟨hx, hb, hml, hown, hts⟩ (c_X0_write l dC dI cI cO h qc ba fc (ba - 1) 1 (wr ((fc ((ba - 1) * 7 + 1)) + 1)) H.size (by first | assumption | omega) (by first | assumption | omega)) (cwV 3 hts gX0_take_X0_write rfl rfl rfl (by decide +kernel) ⟨Nat.le_of_ble_eq_true rfl, Nat.le_of_ble_eq_true rfl⟩) (m_preV hZ hK hP hD [0, 1] rfl (by decide) (va_recv hK hP (ci := 1) (q0 := 0) rfl rfl)) rfl rfl hl.1 rfl (lv_room (Nat.le_of_ble_eq_true rfl)) dX0_take_42 ⟨Nat.le_of_ble_eq_true rfl, Nat.le_of_ble_eq_true rfl⟩) hP hD hS hA [0, 1] [2, 3, 4, 5] [4, 5, 0, 1, 2, 3] rfl rfl (by decide) (by decide) rfl (by decide) (fun H locs hP hD hS => ?_)
      obtain ⟨g1, hg1⟩ : ∃ z : fI, z = uI fc ((ba - 1) * 7 + 1) (wr ((fc ((ba - 1) * 7 + 1)) + 1)) := ⟨_, rfl⟩
      rw [← hg1] at hP hD
      refine lv_aload_n hx hb dX0_take_45 rfl (lv_at hl 1 rfl) ?_
      refine lv_iload hx hb dX0_take_46 (lv_at hl 0 rfl) ?_
      refine mi_iconst hx hb dX0_take_48 ?_
      refine lv_aload_n hx hb dX0_take_49 rfl (lv_at hl 1 rfl) ?_
      refine lv_iload hx hb dX0_take_50 (lv_at hl 0 rfl) ?_
      refine mi_iconst hx hb dX0_take_52 ?_
      refine m_run (wc := [(h, .inr (1, [.int (iI ba), .ref qc])), (qc, .inl (cI, 175, .inl (aI g1)))]) (wc' := [(h, .inr (1, [.int (iI ba), .ref qc])), (qc, .inl (cI, 175, .inl (aI g1)))]) (wr := [(o, .inr (4, [.int (iI am), .ref qt, .ref qv, .ref qs, .int (iI sb), .int (iI sp), .int (iI gs)])), (qt, .inl (cI, 160, .inl (aI tt))), (qv, .inl (cI, 160, .inl (aI vv))), (qs, .inl (cI, 9, .inl (aI zz)))]) (ws' := [(h, .inr (1, [.int (iI ba), .ref qc])), (qc, .inl (cI, 175, .inl (aI g1))), (o, .inr (4, [.int (iI am), .ref qt, .ref qv, .ref qs, .int (iI sb), .int (iI sp), .int (iI gs)])), (qt, .inl (cI, 160, .inl (aI tt))), (qv, .inl (cI, 160, .inl (aI vv))), (qs, .inl (cI, 9, .inl (aI zz)))]) (va_runV (As := [.int (iI (ba - 1)), .int (iI 2)]) (rest := [.int (iI 2), .int (iI (ba - 1)), .ref h]) ⟨hx, hb, hml, hown, hts⟩ (c_X0_number l dC dI cI cO h qc ba g1 (ba - 1) 2 H.size (by first | assumption | omega) (by first | assumption | omega)) (cwV 2 hts gX0_take_X0_number rfl rfl rfl (by decide +kernel) ⟨Nat.le_of_ble_eq_true rfl, Nat.le_of_ble_eq_true rfl⟩) (m_preV hZ hK hP hD [0, 1] rfl (by decide) (va_recv hK hP (ci := 1) (q0 := 0) rfl rfl)) rfl rfl hl.1 rfl (lv_room (Nat.le_of_ble_eq_true rfl)) dX0_take_53 ⟨Nat.le_of_ble_eq_true rfl, Nat.le_of_ble_eq_true rfl⟩) hP hD hS hA [0, 1] [2, 3, 4, 5] [4, 5, 0, 1, 2, 3] rfl rfl (by decide) (by decide) rfl (by decide) (fun H locs hP hD hS => ?_)
      refine lv_aload_n hx hb dX0_take_56 rfl (lv_at hl 3 rfl) ?_
      refine lv_iload_n hx hb dX0_take_57 rfl (lv_at hl 4 rfl) ?_
      refine mi_iconst hx hb dX0_take_58 ?_
      refine m_run (wc := [(o, .inr (4, [.int (iI am), .ref qt, .ref qv, .ref qs, .int (iI sb), .int (iI sp), .int (iI gs)])), (qt, .inl (cI, 160, .inl (aI tt))), (qv, .inl (cI, 160, .inl (aI vv))), (qs, .inl (cI, 9, .inl (aI zz)))]) (wc' := [(o, .inr (4, [.int (iI am), .ref qt, .ref qv, .ref qs, .int (iI sb), .int (iI sp), .int (iI gs)])), (qt, .inl (cI, 160, .inl (aI tt))), (qv, .inl (cI, 160, .inl (aI vv))), (qs, .inl (cI, 9, .inl (aI zz)))]) (wr := [(h, .inr (1, [.int (iI ba), .ref qc])), (qc, .inl (cI, 175, .inl (aI g1)))]) (ws' := [(h, .inr (1, [.int (iI ba), .ref qc])), (qc, .inl (cI, 175, .inl (aI g1))), (o, .inr (4, [.int (iI am), .ref qt, .ref qv, .ref qs, .int (iI sb), .int (iI sp), .int (iI gs)])), (qt, .inl (cI, 160, .inl (aI tt))), (qv, .inl (cI, 160, .inl (aI vv))), (qs, .inl (cI, 9, .inl (aI zz)))]) (va_runU (As := [.int (iI it), .int (iI 2)]) (rest := [.int (iI (g1 ((ba - 1) * 7 + 2))), .int (iI 2), .int (iI (ba - 1)), .ref h]) ⟨hx, hb, hml, hown, hts⟩ (c_X4_number_v l dC dI cI cO o qt qv qs am tt vv zz sb sp gs it 2 H.size (by first | assumption | omega) (by first | assumption | omega)) (va_cwA 2 hts gX0_take_X4_number_u23X4 rfl rfl rfl (hZ _ (List.mem_of_getElem? (i := 0) rfl)) (by decide +kernel) ⟨Nat.le_of_ble_eq_true rfl, Nat.le_of_ble_eq_true rfl⟩) (m_preV hZ hK hP hD [2, 3, 4, 5] rfl (by decide) (va_recv hK hP (ci := 4) (q0 := 2) rfl rfl)) rfl rfl hl.1 rfl (lv_room (Nat.le_of_ble_eq_true rfl)) dX0_take_59 ⟨Nat.le_of_ble_eq_true rfl, Nat.le_of_ble_eq_true rfl⟩) hP hD hS hA [2, 3, 4, 5] [0, 1] [0, 1, 2, 3, 4, 5] rfl rfl (by decide) (by decide) rfl (by decide) (fun H locs hP hD hS => ?_)
      refine mi_iadd hx hb dX0_take_62 ?_
      rw [← iI_wr ((g1 ((ba - 1) * 7 + 2)) + (vv it))]
      refine m_runv (wc := [(h, .inr (1, [.int (iI ba), .ref qc])), (qc, .inl (cI, 175, .inl (aI g1)))]) (wc' := [(h, .inr (1, [.int (iI ba), .ref qc])), (qc, .inl (cI, 175, .inl (aI (uI g1 ((ba - 1) * 7 + 2) (wr ((g1 ((ba - 1) * 7 + 2)) + (vv it)))))))]) (wr := [(o, .inr (4, [.int (iI am), .ref qt, .ref qv, .ref qs, .int (iI sb), .int (iI sp), .int (iI gs)])), (qt, .inl (cI, 160, .inl (aI tt))), (qv, .inl (cI, 160, .inl (aI vv))), (qs, .inl (cI, 9, .inl (aI zz)))]) (ws' := [(h, .inr (1, [.int (iI ba), .ref qc])), (qc, .inl (cI, 175, .inl (aI (uI g1 ((ba - 1) * 7 + 2) (wr ((g1 ((ba - 1) * 7 + 2)) + (vv it))))))), (o, .inr (4, [.int (iI am), .ref qt, .ref qv, .ref qs, .int (iI sb), .int (iI sp), .int (iI gs)])), (qt, .inl (cI, 160, .inl (aI tt))), (qv, .inl (cI, 160, .inl (aI vv))), (qs, .inl (cI, 9, .inl (aI zz)))]) (va_runV (As := [.int (iI (ba - 1)), .int (iI 2), .int (iI (wr ((g1 ((ba - 1) * 7 + 2)) + (vv it))))]) (rest := []) ⟨hx, hb, hml, hown, hts⟩ (c_X0_write l dC dI cI cO h qc ba g1 (ba - 1) 2 (wr ((g1 ((ba - 1) * 7 + 2)) + (vv it))) H.size (by first | assumption | omega) (by first | assumption | omega)) (cwV 3 hts gX0_take_X0_write rfl rfl rfl (by decide +kernel) ⟨Nat.le_of_ble_eq_true rfl, Nat.le_of_ble_eq_true rfl⟩) (m_preV hZ hK hP hD [0, 1] rfl (by decide) (va_recv hK hP (ci := 1) (q0 := 0) rfl rfl)) rfl rfl hl.1 rfl (lv_room (Nat.le_of_ble_eq_true rfl)) dX0_take_63 ⟨Nat.le_of_ble_eq_true rfl, Nat.le_of_ble_eq_true rfl⟩) hP hD hS hA [0, 1] [2, 3, 4, 5] [4, 5, 0, 1, 2, 3] rfl rfl (by decide) (by decide) rfl (by decide) (fun H locs hP hD hS => ?_)
      obtain ⟨g2, hg2⟩ : ∃ z : fI, z = uI g1 ((ba - 1) * 7 + 2) (wr ((g1 ((ba - 1) * 7 + 2)) + (vv it))) := ⟨_, rfl⟩
      rw [← hg2] at hP hD
      refine lv_aload_n hx hb dX0_take_66 rfl (lv_at hl 1 rfl) ?_
      refine lv_iload hx hb dX0_take_67 (lv_at hl 0 rfl) ?_
      refine mi_iconst hx hb dX0_take_69 ?_
      refine lv_aload_n hx hb dX0_take_70 rfl (lv_at hl 1 rfl) ?_
      refine lv_iload hx hb dX0_take_71 (lv_at hl 0 rfl) ?_
      refine mi_iconst hx hb dX0_take_73 ?_
      refine m_run (wc := [(h, .inr (1, [.int (iI ba), .ref qc])), (qc, .inl (cI, 175, .inl (aI g2)))]) (wc' := [(h, .inr (1, [.int (iI ba), .ref qc])), (qc, .inl (cI, 175, .inl (aI g2)))]) (wr := [(o, .inr (4, [.int (iI am), .ref qt, .ref qv, .ref qs, .int (iI sb), .int (iI sp), .int (iI gs)])), (qt, .inl (cI, 160, .inl (aI tt))), (qv, .inl (cI, 160, .inl (aI vv))), (qs, .inl (cI, 9, .inl (aI zz)))]) (ws' := [(h, .inr (1, [.int (iI ba), .ref qc])), (qc, .inl (cI, 175, .inl (aI g2))), (o, .inr (4, [.int (iI am), .ref qt, .ref qv, .ref qs, .int (iI sb), .int (iI sp), .int (iI gs)])), (qt, .inl (cI, 160, .inl (aI tt))), (qv, .inl (cI, 160, .inl (aI vv))), (qs, .inl (cI, 9, .inl (aI zz)))]) (va_runV (As := [.int (iI (ba - 1)), .int (iI 3)]) (rest := [.int (iI 3), .int (iI (ba - 1)), .ref h]) ⟨hx, hb, hml, hown, hts⟩ (c_X0_number l dC dI cI cO h qc ba g2 (ba - 1) 3 H.size (by first | assumption | omega) (by first | assumption | omega)) (cwV 2 hts gX0_take_X0_number rfl rfl rfl (by decide +kernel) ⟨Nat.le_of_ble_eq_true rfl, Nat.le_of_ble_eq_true rfl⟩) (m_preV hZ hK hP hD [0, 1] rfl (by decide) (va_recv hK hP (ci := 1) (q0 := 0) rfl rfl)) rfl rfl hl.1 rfl (lv_room (Nat.le_of_ble_eq_true rfl)) dX0_take_74 ⟨Nat.le_of_ble_eq_true rfl, Nat.le_of_ble_eq_true rfl⟩) hP hD hS hA [0, 1] [2, 3, 4, 5] [4, 5, 0, 1, 2, 3] rfl rfl (by decide) (by decide) rfl (by decide) (fun H locs hP hD hS => ?_)
      refine lv_aload_n hx hb dX0_take_77 rfl (lv_at hl 3 rfl) ?_
      refine lv_iload_n hx hb dX0_take_78 rfl (lv_at hl 4 rfl) ?_
      refine mi_iconst hx hb dX0_take_79 ?_
      refine m_run (wc := [(o, .inr (4, [.int (iI am), .ref qt, .ref qv, .ref qs, .int (iI sb), .int (iI sp), .int (iI gs)])), (qt, .inl (cI, 160, .inl (aI tt))), (qv, .inl (cI, 160, .inl (aI vv))), (qs, .inl (cI, 9, .inl (aI zz)))]) (wc' := [(o, .inr (4, [.int (iI am), .ref qt, .ref qv, .ref qs, .int (iI sb), .int (iI sp), .int (iI gs)])), (qt, .inl (cI, 160, .inl (aI tt))), (qv, .inl (cI, 160, .inl (aI vv))), (qs, .inl (cI, 9, .inl (aI zz)))]) (wr := [(h, .inr (1, [.int (iI ba), .ref qc])), (qc, .inl (cI, 175, .inl (aI g2)))]) (ws' := [(h, .inr (1, [.int (iI ba), .ref qc])), (qc, .inl (cI, 175, .inl (aI g2))), (o, .inr (4, [.int (iI am), .ref qt, .ref qv, .ref qs, .int (iI sb), .int (iI sp), .int (iI gs)])), (qt, .inl (cI, 160, .inl (aI tt))), (qv, .inl (cI, 160, .inl (aI vv))), (qs, .inl (cI, 9, .inl (aI zz)))]) (va_runU (As := [.int (iI it), .int (iI 3)]) (rest := [.int (iI (g2 ((ba - 1) * 7 + 3))), .int (iI 3), .int (iI (ba - 1)), .ref h]) ⟨hx, hb, hml, hown, hts⟩ (c_X4_number_v l dC dI cI cO o qt qv qs am tt vv zz sb sp gs it 3 H.size (by first | assumption | omega) (by first | assumption | omega)) (va_cwA 2 hts gX0_take_X4_number_u23X4 rfl rfl rfl (hZ _ (List.mem_of_getElem? (i := 0) rfl)) (by decide +kernel) ⟨Nat.le_of_ble_eq_true rfl, Nat.le_of_ble_eq_true rfl⟩) (m_preV hZ hK hP hD [2, 3, 4, 5] rfl (by decide) (va_recv hK hP (ci := 4) (q0 := 2) rfl rfl)) rfl rfl hl.1 rfl (lv_room (Nat.le_of_ble_eq_true rfl)) dX0_take_80 ⟨Nat.le_of_ble_eq_true rfl, Nat.le_of_ble_eq_true rfl⟩) hP hD hS hA [2, 3, 4, 5] [0, 1] [0, 1, 2, 3, 4, 5] rfl rfl (by decide) (by decide) rfl (by decide) (fun H locs hP hD hS => ?_)
      refine mi_mmin hx hb (hml.trans hl.1.symm) hown hm28 hmsmmin hmi hmcmmin (Nat.le_of_ble_eq_true rfl) (Nat.le_of_ble_eq_true rfl) (Nat.le_of_ble_eq_true rfl) (Nat.le_of_ble_eq_true rfl) (by rw [hg2, uI_n _ _ (by omega), hg1, uI_n _ _ (by omega)]; exact hfc _) (by have := hvv it; omega) dX0_take_83 ?_
      refine m_runv (wc := [(h, .inr (1, [.int (iI ba), .ref qc])), (qc, .inl (cI, 175, .inl (aI g2)))]) (wc' := [(h, .inr (1, [.int (iI ba), .ref qc])), (qc, .inl (cI, 175, .inl (aI (uI g2 ((ba - 1) * 7 + 3) (min (g2 ((ba - 1) * 7 + 3)) (vv it))))))]) (wr := [(o, .inr (4, [.int (iI am), .ref qt, .ref qv, .ref qs, .int (iI sb), .int (iI sp), .int (iI gs)])), (qt, .inl (cI, 160, .inl (aI tt))), (qv, .inl (cI, 160, .inl (aI vv))), (qs, .inl (cI, 9, .inl (aI zz)))]) (ws' := [(h, .inr (1, [.int (iI ba), .ref qc])), (qc, .inl (cI, 175, .inl (aI (uI g2 ((ba - 1) * 7 + 3) (min (g2 ((ba - 1) * 7 + 3)) (vv it)))))), (o, .inr (4, [.int (iI am), .ref qt, .ref qv, .ref qs, .int (iI sb), .int (iI sp), .int (iI gs)])), (qt, .inl (cI, 160, .inl (aI tt))), (qv, .inl (cI, 160, .inl (aI vv))), (qs, .inl (cI, 9, .inl (aI zz)))]) (va_runV (As := [.int (iI (ba - 1)), .int (iI 3), .int (iI (min (g2 ((ba - 1) * 7 + 3)) (vv it)))]) (rest := []) ⟨hx, hb, hml, hown, hts⟩ (c_X0_write l dC dI cI cO h qc ba g2 (ba - 1) 3 (min (g2 ((ba - 1) * 7 + 3)) (vv it)) H.size (by first | assumption | omega) (by first | assumption | omega)) (cwV 3 hts gX0_take_X0_write rfl rfl rfl (by decide +kernel) ⟨Nat.le_of_ble_eq_true rfl, Nat.le_of_ble_eq_true rfl⟩) (m_preV hZ hK hP hD [0, 1] rfl (by decide) (va_recv hK hP (ci := 1) (q0 := 0) rfl rfl)) rfl rfl hl.1 rfl (lv_room (Nat.le_of_ble_eq_true rfl)) dX0_take_86 ⟨Nat.le_of_ble_eq_true rfl, Nat.le_of_ble_eq_true rfl⟩) hP hD hS hA [0, 1] [2, 3, 4, 5] [4, 5, 0, 1, 2, 3] rfl rfl (by decide) (by decide) rfl (by decide) (fun H locs hP hD hS => ?_)
      obtain ⟨g3, hg3⟩ : ∃ z : fI, z = uI g2 ((ba - 1) * 7 + 3) (min (g2 ((ba - 1) * 7 + 3)) (vv it)) := ⟨_, rfl⟩
      rw [← hg3] at hP hD
      refine lv_aload_n hx hb dX0_take_89 rfl (lv_at hl 1 rfl) ?_
      refine lv_iload hx hb dX0_take_90 (lv_at hl 0 rfl) ?_
      refine mi_iconst hx hb dX0_take_92 ?_
      refine lv_aload_n hx hb dX0_take_93 rfl (lv_at hl 1 rfl) ?_
      refine lv_iload hx hb dX0_take_94 (lv_at hl 0 rfl) ?_
      refine mi_iconst hx hb dX0_take_96 ?_
      refine m_run (wc := [(h, .inr (1, [.int (iI ba), .ref qc])), (qc, .inl (cI, 175, .inl (aI g3)))]) (wc' := [(h, .inr (1, [.int (iI ba), .ref qc])), (qc, .inl (cI, 175, .inl (aI g3)))]) (wr := [(o, .inr (4, [.int (iI am), .ref qt, .ref qv, .ref qs, .int (iI sb), .int (iI sp), .int (iI gs)])), (qt, .inl (cI, 160, .inl (aI tt))), (qv, .inl (cI, 160, .inl (aI vv))), (qs, .inl (cI, 9, .inl (aI zz)))]) (ws' := [(h, .inr (1, [.int (iI ba), .ref qc])), (qc, .inl (cI, 175, .inl (aI g3))), (o, .inr (4, [.int (iI am), .ref qt, .ref qv, .ref qs, .int (iI sb), .int (iI sp), .int (iI gs)])), (qt, .inl (cI, 160, .inl (aI tt))), (qv, .inl (cI, 160, .inl (aI vv))), (qs, .inl (cI, 9, .inl (aI zz)))]) (va_runV (As := [.int (iI (ba - 1)), .int (iI 4)]) (rest := [.int (iI 4), .int (iI (ba - 1)), .ref h]) ⟨hx, hb, hml, hown, hts⟩ (c_X0_number l dC dI cI cO h qc ba g3 (ba - 1) 4 H.size (by first | assumption | omega) (by first | assumption | omega)) (cwV 2 hts gX0_take_X0_number rfl rfl rfl (by decide +kernel) ⟨Nat.le_of_ble_eq_true rfl, Nat.le_of_ble_eq_true rfl⟩) (m_preV hZ hK hP hD [0, 1] rfl (by decide) (va_recv hK hP (ci := 1) (q0 := 0) rfl rfl)) rfl rfl hl.1 rfl (lv_room (Nat.le_of_ble_eq_true rfl)) dX0_take_97 ⟨Nat.le_of_ble_eq_true rfl, Nat.le_of_ble_eq_true rfl⟩) hP hD hS hA [0, 1] [2, 3, 4, 5] [4, 5, 0, 1, 2, 3] rfl rfl (by decide) (by decide) rfl (by decide) (fun H locs hP hD hS => ?_)
      refine lv_aload_n hx hb dX0_take_100 rfl (lv_at hl 3 rfl) ?_
      refine lv_iload_n hx hb dX0_take_101 rfl (lv_at hl 4 rfl) ?_
      refine mi_iconst hx hb dX0_take_102 ?_
      refine m_run (wc := [(o, .inr (4, [.int (iI am), .ref qt, .ref qv, .ref qs, .int (iI sb), .int (iI sp), .int (iI gs)])), (qt, .inl (cI, 160, .inl (aI tt))), (qv, .inl (cI, 160, .inl (aI vv))), (qs, .inl (cI, 9, .inl (aI zz)))]) (wc' := [(o, .inr (4, [.int (iI am), .ref qt, .ref qv, .ref qs, .int (iI sb), .int (iI sp), .int (iI gs)])), (qt, .inl (cI, 160, .inl (aI tt))), (qv, .inl (cI, 160, .inl (aI vv))), (qs, .inl (cI, 9, .inl (aI zz)))]) (wr := [(h, .inr (1, [.int (iI ba), .ref qc])), (qc, .inl (cI, 175, .inl (aI g3)))]) (ws' := [(h, .inr (1, [.int (iI ba), .ref qc])), (qc, .inl (cI, 175, .inl (aI g3))), (o, .inr (4, [.int (iI am), .ref qt, .ref qv, .ref qs, .int (iI sb), .int (iI sp), .int (iI gs)])), (qt, .inl (cI, 160, .inl (aI tt))), (qv, .inl (cI, 160, .inl (aI vv))), (qs, .inl (cI, 9, .inl (aI zz)))]) (va_runU (As := [.int (iI it), .int (iI 4)]) (rest := [.int (iI (g3 ((ba - 1) * 7 + 4))), .int (iI 4), .int (iI (ba - 1)), .ref h]) ⟨hx, hb, hml, hown, hts⟩ (c_X4_number_v l dC dI cI cO o qt qv qs am tt vv zz sb sp gs it 4 H.size (by first | assumption | omega) (by first | assumption | omega)) (va_cwA 2 hts gX0_take_X4_number_u23X4 rfl rfl rfl (hZ _ (List.mem_of_getElem? (i := 0) rfl)) (by decide +kernel) ⟨Nat.le_of_ble_eq_true rfl, Nat.le_of_ble_eq_true rfl⟩) (m_preV hZ hK hP hD [2, 3, 4, 5] rfl (by decide) (va_recv hK hP (ci := 4) (q0 := 2) rfl rfl)) rfl rfl hl.1 rfl (lv_room (Nat.le_of_ble_eq_true rfl)) dX0_take_103 ⟨Nat.le_of_ble_eq_true rfl, Nat.le_of_ble_eq_true rfl⟩) hP hD hS hA [2, 3, 4, 5] [0, 1] [0, 1, 2, 3, 4, 5] rfl rfl (by decide) (by decide) rfl (by decide) (fun H locs hP hD hS => ?_)
      refine mi_mmax hx hb (hml.trans hl.1.symm) hown hm33 hmsmmax hmi hmcmmax (Nat.le_of_ble_eq_true rfl) (Nat.le_of_ble_eq_true rfl) (Nat.le_of_ble_eq_true rfl) (Nat.le_of_ble_eq_true rfl) (by rw [hg3, uI_n _ _ (by omega), hg2, uI_n _ _ (by omega), hg1, uI_n _ _ (by omega)]; exact hfc _) (by have := hvv it; omega) dX0_take_106 ?_
      refine m_runv (wc := [(h, .inr (1, [.int (iI ba), .ref qc])), (qc, .inl (cI, 175, .inl (aI g3)))]) (wc' := [(h, .inr (1, [.int (iI ba), .ref qc])), (qc, .inl (cI, 175, .inl (aI (uI g3 ((ba - 1) * 7 + 4) (max (g3 ((ba - 1) * 7 + 4)) (vv it))))))]) (wr := [(o, .inr (4, [.int (iI am), .ref qt, .ref qv, .ref qs, .int (iI sb), .int (iI sp), .int (iI gs)])), (qt, .inl (cI, 160, .inl (aI tt))), (qv, .inl (cI, 160, .inl (aI vv))), (qs, .inl (cI, 9, .inl (aI zz)))]) (ws' := [(h, .inr (1, [.int (iI ba), .ref qc])), (qc, .inl (cI, 175, .inl (aI (uI g3 ((ba - 1) * 7 + 4) (max (g3 ((ba - 1) * 7 + 4)) (vv it)))))), (o, .inr (4, [.int (iI am), .ref qt, .ref qv, .ref qs, .int (iI sb), .int (iI sp), .int (iI gs)])), (qt, .inl (cI, 160, .inl (aI tt))), (qv, .inl (cI, 160, .inl (aI vv))), (qs, .inl (cI, 9, .inl (aI zz)))]) (va_runV (As := [.int (iI (ba - 1)), .int (iI 4), .int (iI (max (g3 ((ba - 1) * 7 + 4)) (vv it)))]) (rest := []) ⟨hx, hb, hml, hown, hts⟩ (c_X0_write l dC dI cI cO h qc ba g3 (ba - 1) 4 (max (g3 ((ba - 1) * 7 + 4)) (vv it)) H.size (by first | assumption | omega) (by first | assumption | omega)) (cwV 3 hts gX0_take_X0_write rfl rfl rfl (by decide +kernel) ⟨Nat.le_of_ble_eq_true rfl, Nat.le_of_ble_eq_true rfl⟩) (m_preV hZ hK hP hD [0, 1] rfl (by decide) (va_recv hK hP (ci := 1) (q0 := 0) rfl rfl)) rfl rfl hl.1 rfl (lv_room (Nat.le_of_ble_eq_true rfl)) dX0_take_109 ⟨Nat.le_of_ble_eq_true rfl, Nat.le_of_ble_eq_true rfl⟩) hP hD hS hA [0, 1] [2, 3, 4, 5] [4, 5, 0, 1, 2, 3] rfl rfl (by decide) (by decide) rfl (by decide) (fun H locs hP hD hS => ?_)
      obtain ⟨g4, hg4⟩ : ∃ z : fI, z = uI g3 ((ba - 1) * 7 + 4) (max (g3 ((ba - 1) * 7 + 4)) (vv it)) := ⟨_, rfl⟩
      rw [← hg4] at hP hD
      refine lv_aload_n hx hb dX0_take_112 rfl (lv_at hl 1 rfl) ?_
      refine lv_iload hx hb dX0_take_113 (lv_at hl 0 rfl) ?_
      refine mi_bipush hx hb dX0_take_115 (by decide) ?_
      refine lv_aload_n hx hb dX0_take_117 rfl (lv_at hl 3 rfl) ?_
      refine lv_iload_n hx hb dX0_take_118 rfl (lv_at hl 4 rfl) ?_
      refine mi_bipush hx hb dX0_take_119 (by decide) ?_
      refine m_run (wc := [(o, .inr (4, [.int (iI am), .ref qt, .ref qv, .ref qs, .int (iI sb), .int (iI sp), .int (iI gs)])), (qt, .inl (cI, 160, .inl (aI tt))), (qv, .inl (cI, 160, .inl (aI vv))), (qs, .inl (cI, 9, .inl (aI zz)))]) (wc' := [(o, .inr (4, [.int (iI am), .ref qt, .ref qv, .ref qs, .int (iI sb), .int (iI sp), .int (iI gs)])), (qt, .inl (cI, 160, .inl (aI tt))), (qv, .inl (cI, 160, .inl (aI vv))), (qs, .inl (cI, 9, .inl (aI zz)))]) (wr := [(h, .inr (1, [.int (iI ba), .ref qc])), (qc, .inl (cI, 175, .inl (aI g4)))]) (ws' := [(h, .inr (1, [.int (iI ba), .ref qc])), (qc, .inl (cI, 175, .inl (aI g4))), (o, .inr (4, [.int (iI am), .ref qt, .ref qv, .ref qs, .int (iI sb), .int (iI sp), .int (iI gs)])), (qt, .inl (cI, 160, .inl (aI tt))), (qv, .inl (cI, 160, .inl (aI vv))), (qs, .inl (cI, 9, .inl (aI zz)))]) (va_runU (As := [.int (iI it), .int (iI 6)]) (rest := [.int (iI 6), .int (iI (ba - 1)), .ref h]) ⟨hx, hb, hml, hown, hts⟩ (c_X4_number_v l dC dI cI cO o qt qv qs am tt vv zz sb sp gs it 6 H.size (by first | assumption | omega) (by first | assumption | omega)) (va_cwA 2 hts gX0_take_X4_number_u23X4 rfl rfl rfl (hZ _ (List.mem_of_getElem? (i := 0) rfl)) (by decide +kernel) ⟨Nat.le_of_ble_eq_true rfl, Nat.le_of_ble_eq_true rfl⟩) (m_preV hZ hK hP hD [2, 3, 4, 5] rfl (by decide) (va_recv hK hP (ci := 4) (q0 := 2) rfl rfl)) rfl rfl hl.1 rfl (lv_room (Nat.le_of_ble_eq_true rfl)) dX0_take_121 ⟨Nat.le_of_ble_eq_true rfl, Nat.le_of_ble_eq_true rfl⟩) hP hD hS hA [2, 3, 4, 5] [0, 1] [0, 1, 2, 3, 4, 5] rfl rfl (by decide) (by decide) rfl (by decide) (fun H locs hP hD hS => ?_)
      refine m_runv (wc := [(h, .inr (1, [.int (iI ba), .ref qc])), (qc, .inl (cI, 175, .inl (aI g4)))]) (wc' := [(h, .inr (1, [.int (iI ba), .ref qc])), (qc, .inl (cI, 175, .inl (aI (uI g4 ((ba - 1) * 7 + 6) (vv it)))))]) (wr := [(o, .inr (4, [.int (iI am), .ref qt, .ref qv, .ref qs, .int (iI sb), .int (iI sp), .int (iI gs)])), (qt, .inl (cI, 160, .inl (aI tt))), (qv, .inl (cI, 160, .inl (aI vv))), (qs, .inl (cI, 9, .inl (aI zz)))]) (ws' := [(h, .inr (1, [.int (iI ba), .ref qc])), (qc, .inl (cI, 175, .inl (aI (uI g4 ((ba - 1) * 7 + 6) (vv it))))), (o, .inr (4, [.int (iI am), .ref qt, .ref qv, .ref qs, .int (iI sb), .int (iI sp), .int (iI gs)])), (qt, .inl (cI, 160, .inl (aI tt))), (qv, .inl (cI, 160, .inl (aI vv))), (qs, .inl (cI, 9, .inl (aI zz)))]) (va_runV (As := [.int (iI (ba - 1)), .int (iI 6), .int (iI (vv it))]) (rest := []) ⟨hx, hb, hml, hown, hts⟩ (c_X0_write l dC dI cI cO h qc ba g4 (ba - 1) 6 (vv it) H.size (by first | assumption | omega) (by first | assumption | omega)) (cwV 3 hts gX0_take_X0_write rfl rfl rfl (by decide +kernel) ⟨Nat.le_of_ble_eq_true rfl, Nat.le_of_ble_eq_true rfl⟩) (m_preV hZ hK hP hD [0, 1] rfl (by decide) (va_recv hK hP (ci := 1) (q0 := 0) rfl rfl)) rfl rfl hl.1 rfl (lv_room (Nat.le_of_ble_eq_true rfl)) dX0_take_124 ⟨Nat.le_of_ble_eq_true rfl, Nat.le_of_ble_eq_true rfl⟩) hP hD hS hA [0, 1] [2, 3, 4, 5] [4, 5, 0, 1, 2, 3] rfl rfl (by decide) (by decide) rfl (by decide) (fun H locs hP hD hS => ?_)
      refine lv_goto (tgt := 192) hx hb dX0_take_127 (by decide) ?_
      exact mi_vret hx hb hQ hr hlocks hAe hsz hP hD hS (by subst hg4 hg3 hg2 hg1; rfl) dX0_take_192

set_option maxRecDepth 100000 in
set_option maxHeartbeats 4000000 in
theorem c_X0_takeP_n (l : Launch) (dC : Nat → ClassId) (dI : Nat → Nat → Nat) (cI cO : ClassId) (h : Nat) (qc : Nat) (ba : Int) (fc : fI) (st : Int) (it : Int) (o : Nat) (qt : Nat) (qv : Nat) (qs : Nat) (am : Int) (tt : fI) (vv : fI) (zz : fI) (sb : Int) (sp : Int) (gs : Int) (sz : Nat) (hit : 0 ≤ it ∧ it < 160) (hfc : ∀ j, rI (fc j)) (hst : rI st) (hba : 0 ≤ ba ∧ ba < 25) (hs : 1 ≤ ba → fc ((ba - 1) * 7 + 0) ≠ st) : Met l yX0_take wsX0_take ({ frames := 1, cells := 0, slots := 0, locals := 24 }) (mPc (dC, dI) [(cI, .int), (cO, .object "java/lang/Object")] [.ref h, .int (iI st), .ref o, .int (iI it)] sz [(h, .inr (1, [.int (iI ba), .ref qc])), (qc, .inl (cI, 175, .inl (aI fc))), (o, .inr (4, [.int (iI am), .ref qt, .ref qv, .ref qs, .int (iI sb), .int (iI sp), .int (iI gs)])), (qt, .inl (cI, 160, .inl (aI tt))), (qv, .inl (cI, 160, .inl (aI vv))), (qs, .inl (cI, 9, .inl (aI zz)))]) (mQv (dC, dI) [(h, .inr (1, [.int (iI ba), .ref qc])), (qc, .inl (cI, 175, .inl (aI fc))), (o, .inr (4, [.int (iI am), .ref qt, .ref qv, .ref qs, .int (iI sb), .int (iI sp), .int (iI gs)])), (qt, .inl (cI, 160, .inl (aI tt))), (qv, .inl (cI, 160, .inl (aI vv))), (qs, .inl (cI, 9, .inl (aI zz)))] [(h, .inr (1, [.int (iI (ba + 1)), .ref qc])), (qc, .inl (cI, 175, .inl (aI (nwB fc ba st (srP (vv it)) 7)))), (o, .inr (4, [.int (iI am), .ref qt, .ref qv, .ref qs, .int (iI sb), .int (iI sp), .int (iI gs)])), (qt, .inl (cI, 160, .inl (aI tt))), (qv, .inl (cI, 160, .inl (aI vv))), (qs, .inl (cI, 9, .inl (aI zz)))] sz) 0 0 (va_A [(h, .inr (1, [.int (iI ba), .ref qc])), (qc, .inl (cI, 175, .inl (aI fc))), (o, .inr (4, [.int (iI am), .ref qt, .ref qv, .ref qs, .int (iI sb), .int (iI sp), .int (iI gs)])), (qt, .inl (cI, 160, .inl (aI tt))), (qv, .inl (cI, 160, .inl (aI vv))), (qs, .inl (cI, 9, .inl (aI zz)))] sz) := by
  refine mMet (cc := cX0_take) (maxL := 6) (ret := none) (by decide) rfl (Nat.le_of_ble_eq_true rfl) ?_
  intro p e s m args below meth c A ls hx hb hr hts hown hlocks hin hml hAe hsz hA hD H hHe hP hK hZ hS hl Q hQ
  have hl : lv_has ls 6 [(0, .ref h), (1, .int (iI st)), (2, .ref o), (3, .int (iI it))] := hl
  have hf15 := hts (.fieldLink RX0 15 "MeridianSeries$Buckets" "amount" "I") (by decide +kernel)
  have hs15 := hts (.sameField "MeridianSeries$Buckets" "MeridianSeries$Items" "amount" "I") (by decide +kernel)
  have hi_X0 : ∀ w ∈ u_ws RX0 TX0 2, w ∈ wsX0_take := by decide +kernel
  refine lv_aload_n hx hb dX0_take_0 rfl (lv_at hl 0 rfl) ?_
  refine va_get (ci := 1) (v := .int (iI ba)) (C := RX0) (T := TX0) (N := 2) hx hb hts hi_X0 hown hK hP 0 rfl rfl 0 (by decide) hf15 (fun x9 h9 => u_same hs15 x9 h9) rfl dX0_take_1 ?_
  refine mi_iconst hx hb dX0_take_4 ?_
  refine mi_isub hx hb dX0_take_5 ?_
  refine lv_istore (lv' := [(4, .int (iI (ba - 1))), (0, .ref h), (1, .int (iI st)), (2, .ref o), (3, .int (iI it))]) hx hb dX0_take_6 hl (by decide) rfl (fun ls hl => ?_)
  refine lv_iload hx hb dX0_take_8 (lv_at hl 0 rfl) ?_
  have jn130 : ∀ (_ : Unit), ∀ (H : Heap) (locs : List Loc) (ls : Array Slot), va_P (dC, dI) vwCl [(h, .inr (1, [.int (iI ba), .ref qc])), (qc, .inl (cI, 175, .inl (aI fc))), (o, .inr (4, [.int (iI am), .ref qt, .ref qv, .ref qs, .int (iI sb), .int (iI sp), .int (iI gs)])), (qt, .inl (cI, 160, .inl (aI tt))), (qv, .inl (cI, 160, .inl (aI vv))), (qs, .inl (cI, 9, .inl (aI zz)))] H → va_D A [(h, .inr (1, [.int (iI ba), .ref qc])), (qc, .inl (cI, 175, .inl (aI fc))), (o, .inr (4, [.int (iI am), .ref qt, .ref qv, .ref qs, .int (iI sb), .int (iI sp), .int (iI gs)])), (qt, .inl (cI, 160, .inl (aI tt))), (qv, .inl (cI, 160, .inl (aI vv))), (qs, .inl (cI, 9, .inl (aI zz)))] → va_S A s.heap H locs → lv_has ls 6 [(0, .ref h), (1, .int (iI st)), (2, .ref o), (3, .int (iI it)), (4, .int (iI (ba - 1)))] → W p l e { frames := 1, cells := 0, slots := 0, locals := 24 } s m args below meth c H locs 0 0 Q (F0 m 130 ls []) := by
    intro u9  H locs ls hP hD hS hl
    refine lv_aload_n hx hb dX0_take_130 rfl (lv_at hl 0 rfl) ?_
    refine va_get (ci := 1) (v := .int (iI ba)) (C := RX0) (T := TX0) (N := 2) hx hb hts hi_X0 hown hK hP 0 rfl rfl 0 (by decide) hf15 (fun x9 h9 => u_same hs15 x9 h9) rfl dX0_take_131 ?_
    refine mi_bipush hx hb dX0_take_134 (by decide) ?_
    refine mi_icmp_ge (tgt := 192) hx hb (by omega) (by decide) dX0_take_136 (by decide) (fun c_1 => ?_) (fun c_1 => ?_)
    · exfalso; omega
    · refine lv_aload_n hx hb dX0_take_139 rfl (lv_at hl 0 rfl) ?_
      refine lv_aload_n hx hb dX0_take_140 rfl (lv_at hl 0 rfl) ?_
      refine va_get (ci := 1) (v := .int (iI ba)) (C := RX0) (T := TX0) (N := 2) hx hb hts hi_X0 hown hK hP 0 rfl rfl 0 (by decide) hf15 (fun x9 h9 => u_same hs15 x9 h9) rfl dX0_take_141 ?_
      refine mi_iconst hx hb dX0_take_144 ?_
      refine lv_iload_n hx hb dX0_take_145 rfl (lv_at hl 1 rfl) ?_
      refine m_runv (wc := [(h, .inr (1, [.int (iI ba), .ref qc])), (qc, .inl (cI, 175, .inl (aI fc)))]) (wc' := [(h, .inr (1, [.int (iI ba), .ref qc])), (qc, .inl (cI, 175, .inl (aI (uI fc (ba * 7 + 0) st))))]) (wr := [(o, .inr (4, [.int (iI am), .ref qt, .ref qv, .ref qs, .int (iI sb), .int (iI sp), .int (iI gs)])), (qt, .inl (cI, 160, .inl (aI tt))), (qv, .inl (cI, 160, .inl (aI vv))), (qs, .inl (cI, 9, .inl (aI zz)))]) (ws' := [(h, .inr (1, [.int (iI ba), .ref qc])), (qc, .inl (cI, 175, .inl (aI (uI fc (ba * 7 + 0) st)))), (o, .inr (4, [.int (iI am), .ref qt, .ref qv, .ref qs, .int (iI sb), .int (iI sp), .int (iI gs)])), (qt, .inl (cI, 160, .inl (aI tt))), (qv, .inl (cI, 160, .inl (aI vv))), (qs, .inl (cI, 9, .inl (aI zz)))]) (va_runV (As := [.int (iI ba), .int (iI 0), .int (iI st)]) (rest := []) ⟨hx, hb, hml, hown, hts⟩ (c_X0_write l dC dI cI cO h qc ba fc ba 0 st H.size (by first | assumption | omega) (by first | assumption | omega)) (cwV 3 hts gX0_take_X0_write rfl rfl rfl (by decide +kernel) ⟨Nat.le_of_ble_eq_true rfl, Nat.le_of_ble_eq_true rfl⟩) (m_preV hZ hK hP hD [0, 1] rfl (by decide) (va_recv hK hP (ci := 1) (q0 := 0) rfl rfl)) rfl rfl hl.1 rfl (lv_room (Nat.le_of_ble_eq_true rfl)) dX0_take_146 ⟨Nat.le_of_ble_eq_true rfl, Nat.le_of_ble_eq_true rfl⟩) hP hD hS hA [0, 1] [2, 3, 4, 5] [4, 5, 0, 1, 2, 3] rfl rfl (by decide) (by decide) rfl (by decide) (fun H locs hP hD hS => ?_)
      refine mi_iconst hx hb dX0_take_149 ?_
      refine lv_istore (lv' := [(5, .int (iI 1)), (0, .ref h), (1, .int (iI st)), (2, .ref o), (3, .int (iI it)), (4, .int (iI (ba - 1)))]) hx hb dX0_take_150 hl (by decide) rfl (fun ls hl => ?_)
      have lp152 : ∀ (k : Nat) (j : Int), (7 - j).toNat < k → 1 ≤ j ∧ j ≤ 7 → ∀ (H : Heap) (locs : List Loc) (ls : Array Slot), va_P (dC, dI) vwCl [(h, .inr (1, [.int (iI ba), .ref qc])), (qc, .inl (cI, 175, .inl (aI (nwB fc ba st (srP (vv it)) j)))), (o, .inr (4, [.int (iI am), .ref qt, .ref qv, .ref qs, .int (iI sb), .int (iI sp), .int (iI gs)])), (qt, .inl (cI, 160, .inl (aI tt))), (qv, .inl (cI, 160, .inl (aI vv))), (qs, .inl (cI, 9, .inl (aI zz)))] H → va_D A [(h, .inr (1, [.int (iI ba), .ref qc])), (qc, .inl (cI, 175, .inl (aI (nwB fc ba st (srP (vv it)) j)))), (o, .inr (4, [.int (iI am), .ref qt, .ref qv, .ref qs, .int (iI sb), .int (iI sp), .int (iI gs)])), (qt, .inl (cI, 160, .inl (aI tt))), (qv, .inl (cI, 160, .inl (aI vv))), (qs, .inl (cI, 9, .inl (aI zz)))] → va_S A s.heap H locs → lv_has ls 6 [(0, .ref h), (1, .int (iI st)), (2, .ref o), (3, .int (iI it)), (4, .int (iI (ba - 1))), (5, .int (iI j))] → W p l e { frames := 1, cells := 0, slots := 0, locals := 24 } s m args below meth c H locs 0 0 Q (F0 m 152 ls []) := by
        intro k
        induction k with
        | zero => intro j hm; exact absurd hm (Nat.not_lt_zero _)
        | succ k ih152 =>
          intro j hm hj H locs ls hP hD hS hl
          refine lv_iload hx hb dX0_take_152 (lv_at hl 5 rfl) ?_
          refine mi_bipush hx hb dX0_take_154 (by decide) ?_
          refine mi_icmp_gt (tgt := 182) hx hb (by omega) (by decide) dX0_take_156 (by decide) (fun c_2 => ?_) (fun c_2 => ?_)
          · have e_3 : 7 = j := by omega
            subst e_3
            refine lv_aload_n hx hb dX0_take_182 rfl (lv_at hl 0 rfl) ?_
            refine lv_dup hx hb dX0_take_183 rfl ?_
            refine va_get (ci := 1) (v := .int (iI ba)) (C := RX0) (T := TX0) (N := 2) hx hb hts hi_X0 hown hK hP 0 rfl rfl 0 (by decide) hf15 (fun x9 h9 => u_same hs15 x9 h9) rfl dX0_take_184 ?_
            refine mi_iconst hx hb dX0_take_187 ?_
            refine mi_iadd hx hb dX0_take_188 ?_
            refine va_put (D := (dC, dI)) (ci := 1) (v := .int (iI (ba + 1))) (ty := .int) (C := RX0) (T := TX0) (N := 2) hx hb hts hi_X0 tyX0 tyX0_ok nmX0 hown hK hP hD hS 0 rfl rfl 0 (by decide) hf15 (fun x9 h9 => u_same hs15 x9 h9) rfl (by decide +kernel) rfl rfl (Nat.le_of_ble_eq_true rfl) dX0_take_189 (fun H locs hP hD hS => ?_)
            have hP : va_P (dC, dI) vwCl [(h, .inr (1, [.int (iI (ba + 1)), .ref qc])), (qc, .inl (cI, 175, .inl (aI (nwB fc ba st (srP (vv it)) 7)))), (o, .inr (4, [.int (iI am), .ref qt, .ref qv, .ref qs, .int (iI sb), .int (iI sp), .int (iI gs)])), (qt, .inl (cI, 160, .inl (aI tt))), (qv, .inl (cI, 160, .inl (aI vv))), (qs, .inl (cI, 9, .inl (aI zz)))] H := hP
            have hD : va_D A [(h, .inr (1, [.int (iI (ba + 1)), .ref qc])), (qc, .inl (cI, 175, .inl (aI (nwB fc ba st (srP (vv it)) 7)))), (o, .inr (4, [.int (iI am), .ref qt, .ref qv, .ref qs, .int (iI sb), .int (iI sp), .int (iI gs)])), (qt, .inl (cI, 160, .inl (aI tt))), (qv, .inl (cI, 160, .inl (aI vv))), (qs, .inl (cI, 9, .inl (aI zz)))] := hD
            exact mi_vret hx hb hQ hr hlocks hAe hsz hP hD hS rfl dX0_take_192
          · refine lv_aload_n hx hb dX0_take_159 rfl (lv_at hl 0 rfl) ?_
            refine lv_aload_n hx hb dX0_take_160 rfl (lv_at hl 0 rfl) ?_
            refine va_get (ci := 1) (v := .int (iI ba)) (C := RX0) (T := TX0) (N := 2) hx hb hts hi_X0 hown hK hP 0 rfl rfl 0 (by decide) hf15 (fun x9 h9 => u_same hs15 x9 h9) rfl dX0_take_161 ?_
            refine lv_iload hx hb dX0_take_164 (lv_at hl 5 rfl) ?_
            refine lv_aload_n hx hb dX0_take_166 rfl (lv_at hl 2 rfl) ?_
            refine lv_iload_n hx hb dX0_take_167 rfl (lv_at hl 3 rfl) ?_
            refine lv_iload hx hb dX0_take_168 (lv_at hl 5 rfl) ?_
            refine m_run (wc := [(o, .inr (4, [.int (iI am), .ref qt, .ref qv, .ref qs, .int (iI sb), .int (iI sp), .int (iI gs)])), (qt, .inl (cI, 160, .inl (aI tt))), (qv, .inl (cI, 160, .inl (aI vv))), (qs, .inl (cI, 9, .inl (aI zz)))]) (wc' := [(o, .inr (4, [.int (iI am), .ref qt, .ref qv, .ref qs, .int (iI sb), .int (iI sp), .int (iI gs)])), (qt, .inl (cI, 160, .inl (aI tt))), (qv, .inl (cI, 160, .inl (aI vv))), (qs, .inl (cI, 9, .inl (aI zz)))]) (wr := [(h, .inr (1, [.int (iI ba), .ref qc])), (qc, .inl (cI, 175, .inl (aI (nwB fc ba st (srP (vv it)) j))))]) (ws' := [(h, .inr (1, [.int (iI ba), .ref qc])), (qc, .inl (cI, 175, .inl (aI (nwB fc ba st (srP (vv it)) j)))), (o, .inr (4, [.int (iI am), .ref qt, .ref qv, .ref qs, .int (iI sb), .int (iI sp), .int (iI gs)])), (qt, .inl (cI, 160, .inl (aI tt))), (qv, .inl (cI, 160, .inl (aI vv))), (qs, .inl (cI, 9, .inl (aI zz)))]) (va_runU (As := [.int (iI it), .int (iI j)]) (rest := [.int (iI j), .int (iI ba), .ref h]) ⟨hx, hb, hml, hown, hts⟩ (c_X4_number_w l dC dI cI cO o qt qv qs am tt vv zz sb sp gs it j H.size (by first | assumption | omega) (by first | assumption | omega)) (va_cwA 2 hts gX0_take_X4_number_u23X4 rfl rfl rfl (hZ _ (List.mem_of_getElem? (i := 0) rfl)) (by decide +kernel) ⟨Nat.le_of_ble_eq_true rfl, Nat.le_of_ble_eq_true rfl⟩) (m_preV hZ hK hP hD [2, 3, 4, 5] rfl (by decide) (va_recv hK hP (ci := 4) (q0 := 2) rfl rfl)) rfl rfl hl.1 rfl (lv_room (Nat.le_of_ble_eq_true rfl)) dX0_take_170 ⟨Nat.le_of_ble_eq_true rfl, Nat.le_of_ble_eq_true rfl⟩) hP hD hS hA [2, 3, 4, 5] [0, 1] [0, 1, 2, 3, 4, 5] rfl rfl (by decide) (by decide) rfl (by decide) (fun H locs hP hD hS => ?_)
            refine m_runv (wc := [(h, .inr (1, [.int (iI ba), .ref qc])), (qc, .inl (cI, 175, .inl (aI (nwB fc ba st (srP (vv it)) j))))]) (wc' := [(h, .inr (1, [.int (iI ba), .ref qc])), (qc, .inl (cI, 175, .inl (aI (uI (nwB fc ba st (srP (vv it)) j) (ba * 7 + j) (srP (vv it) j)))))]) (wr := [(o, .inr (4, [.int (iI am), .ref qt, .ref qv, .ref qs, .int (iI sb), .int (iI sp), .int (iI gs)])), (qt, .inl (cI, 160, .inl (aI tt))), (qv, .inl (cI, 160, .inl (aI vv))), (qs, .inl (cI, 9, .inl (aI zz)))]) (ws' := [(h, .inr (1, [.int (iI ba), .ref qc])), (qc, .inl (cI, 175, .inl (aI (uI (nwB fc ba st (srP (vv it)) j) (ba * 7 + j) (srP (vv it) j))))), (o, .inr (4, [.int (iI am), .ref qt, .ref qv, .ref qs, .int (iI sb), .int (iI sp), .int (iI gs)])), (qt, .inl (cI, 160, .inl (aI tt))), (qv, .inl (cI, 160, .inl (aI vv))), (qs, .inl (cI, 9, .inl (aI zz)))]) (va_runV (As := [.int (iI ba), .int (iI j), .int (iI (srP (vv it) j))]) (rest := []) ⟨hx, hb, hml, hown, hts⟩ (c_X0_write l dC dI cI cO h qc ba (nwB fc ba st (srP (vv it)) j) ba j (srP (vv it) j) H.size (by first | assumption | omega) (by first | assumption | omega)) (cwV 3 hts gX0_take_X0_write rfl rfl rfl (by decide +kernel) ⟨Nat.le_of_ble_eq_true rfl, Nat.le_of_ble_eq_true rfl⟩) (m_preV hZ hK hP hD [0, 1] rfl (by decide) (va_recv hK hP (ci := 1) (q0 := 0) rfl rfl)) rfl rfl hl.1 rfl (lv_room (Nat.le_of_ble_eq_true rfl)) dX0_take_173 ⟨Nat.le_of_ble_eq_true rfl, Nat.le_of_ble_eq_true rfl⟩) hP hD hS hA [0, 1] [2, 3, 4, 5] [4, 5, 0, 1, 2, 3] rfl rfl (by decide) (by decide) rfl (by decide) (fun H locs hP hD hS => ?_)
            refine mi_iinc (b := j + 1) (lv' := [(5, .int (iI (j + 1))), (0, .ref h), (1, .int (iI st)), (2, .ref o), (3, .int (iI it)), (4, .int (iI (ba - 1)))]) hx hb dX0_take_176 hl (k := 5) rfl (by decide) (by omega) rfl (fun ls hl => ?_)
            refine lv_goto (tgt := 152) hx hb dX0_take_179 (by decide) ?_
            have hw_4 : [(h, .inr (1, [.int (iI ba), .ref qc])), (qc, .inl (cI, 175, .inl (aI (uI (nwB fc ba st (srP (vv it)) j) (ba * 7 + j) (srP (vv it) j))))), (o, .inr (4, [.int (iI am), .ref qt, .ref qv, .ref qs, .int (iI sb), .int (iI sp), .int (iI gs)])), (qt, .inl (cI, 160, .inl (aI tt))), (qv, .inl (cI, 160, .inl (aI vv))), (qs, .inl (cI, 9, .inl (aI zz)))] = ([(h, .inr (1, [.int (iI ba), .ref qc])), (qc, .inl (cI, 175, .inl (aI (nwB fc ba st (srP (vv it)) (j + 1))))), (o, .inr (4, [.int (iI am), .ref qt, .ref qv, .ref qs, .int (iI sb), .int (iI sp), .int (iI gs)])), (qt, .inl (cI, 160, .inl (aI tt))), (qv, .inl (cI, 160, .inl (aI vv))), (qs, .inl (cI, 9, .inl (aI zz)))] : va_W) := by rw [nwB_s fc ba st (srP (vv it)) (i := j) (by omega)]
            rw [hw_4] at hP hD
            exact ih152 (j + 1) (by omega) (by first | assumption | omega) _ _ _ hP hD hS (lv_sub hl [1, 2, 3, 4, 5, 0] rfl)
      have hw_5 : [(h, .inr (1, [.int (iI ba), .ref qc])), (qc, .inl (cI, 175, .inl (aI (uI fc (ba * 7 + 0) st)))), (o, .inr (4, [.int (iI am), .ref qt, .ref qv, .ref qs, .int (iI sb), .int (iI sp), .int (iI gs)])), (qt, .inl (cI, 160, .inl (aI tt))), (qv, .inl (cI, 160, .inl (aI vv))), (qs, .inl (cI, 9, .inl (aI zz)))] = ([(h, .inr (1, [.int (iI ba), .ref qc])), (qc, .inl (cI, 175, .inl (aI (nwB fc ba st (srP (vv it)) 1)))), (o, .inr (4, [.int (iI am), .ref qt, .ref qv, .ref qs, .int (iI sb), .int (iI sp), .int (iI gs)])), (qt, .inl (cI, 160, .inl (aI tt))), (qv, .inl (cI, 160, .inl (aI vv))), (qs, .inl (cI, 9, .inl (aI zz)))] : va_W) := by rw [nwB_1 fc ba st (srP (vv it))]
      rw [hw_5] at hP hD
      exact lp152 _ 1 (Nat.lt_succ_self _) (by first | assumption | omega) _ _ _ hP hD hS (lv_sub hl [1, 2, 3, 4, 5, 0] rfl)
  refine mi_if_lt (tgt := 130) hx hb (by omega) dX0_take_10 (by decide) (fun c_6 => ?_) (fun c_6 => ?_)
  · exact jn130 ()  _ _ _ hP hD hS (lv_sub hl [1, 2, 3, 4, 0] rfl)
  · refine lv_aload_n hx hb dX0_take_13 rfl (lv_at hl 1 rfl) ?_
    refine lv_iload hx hb dX0_take_14 (lv_at hl 0 rfl) ?_
    refine mi_iconst hx hb dX0_take_16 ?_
    refine m_run (wc := [(h, .inr (1, [.int (iI ba), .ref qc])), (qc, .inl (cI, 175, .inl (aI fc)))]) (wc' := [(h, .inr (1, [.int (iI ba), .ref qc])), (qc, .inl (cI, 175, .inl (aI fc)))]) (wr := [(o, .inr (4, [.int (iI am), .ref qt, .ref qv, .ref qs, .int (iI sb), .int (iI sp), .int (iI gs)])), (qt, .inl (cI, 160, .inl (aI tt))), (qv, .inl (cI, 160, .inl (aI vv))), (qs, .inl (cI, 9, .inl (aI zz)))]) (ws' := [(h, .inr (1, [.int (iI ba), .ref qc])), (qc, .inl (cI, 175, .inl (aI fc))), (o, .inr (4, [.int (iI am), .ref qt, .ref qv, .ref qs, .int (iI sb), .int (iI sp), .int (iI gs)])), (qt, .inl (cI, 160, .inl (aI tt))), (qv, .inl (cI, 160, .inl (aI vv))), (qs, .inl (cI, 9, .inl (aI zz)))]) (va_runV (As := [.int (iI (ba - 1)), .int (iI 0)]) (rest := []) ⟨hx, hb, hml, hown, hts⟩ (c_X0_number l dC dI cI cO h qc ba fc (ba - 1) 0 H.size (by first | assumption | omega) (by first | assumption | omega)) (cwV 2 hts gX0_take_X0_number rfl rfl rfl (by decide +kernel) ⟨Nat.le_of_ble_eq_true rfl, Nat.le_of_ble_eq_true rfl⟩) (m_preV hZ hK hP hD [0, 1] rfl (by decide) (va_recv hK hP (ci := 1) (q0 := 0) rfl rfl)) rfl rfl hl.1 rfl (lv_room (Nat.le_of_ble_eq_true rfl)) dX0_take_17 ⟨Nat.le_of_ble_eq_true rfl, Nat.le_of_ble_eq_true rfl⟩) hP hD hS hA [0, 1] [2, 3, 4, 5] [4, 5, 0, 1, 2, 3] rfl rfl (by decide) (by decide) rfl (by decide) (fun H locs hP hD hS => ?_)
    refine lv_iload_n hx hb dX0_take_20 rfl (lv_at hl 2 rfl) ?_
    refine mi_icmp_ne (tgt := 130) hx hb (hfc _) hst dX0_take_21 (by decide) (fun c_7 => ?_) (fun c_7 => ?_)
    · exact jn130 ()  _ _ _ hP hD hS (lv_sub hl [1, 2, 3, 4, 0] rfl)
    · exfalso; exact hs (by omega) c_7

theorem c_X0_takeP (l : Launch) (dC : Nat → ClassId) (dI : Nat → Nat → Nat) (cI cO : ClassId) (h : Nat) (qc : Nat) (ba : Int) (fc : fI) (st : Int) (it : Int) (o : Nat) (qt : Nat) (qv : Nat) (qs : Nat) (am : Int) (tt : fI) (vv : fI) (zz : fI) (sb : Int) (sp : Int) (gs : Int) (sz : Nat) (hit : 0 ≤ it ∧ it < 160) (hfc : ∀ j, rI (fc j)) (hst : rI st) (hba : 0 ≤ ba ∧ ba ≤ 24) (hvv : ∀ j, -100000 ≤ vv j ∧ vv j ≤ 100000) : Met l yX0_take wsX0_take ({ frames := 1, cells := 0, slots := 0, locals := 24 }) (mPc (dC, dI) [(cI, .int), (cO, .object "java/lang/Object")] [.ref h, .int (iI st), .ref o, .int (iI it)] sz [(h, .inr (1, [.int (iI ba), .ref qc])), (qc, .inl (cI, 175, .inl (aI fc))), (o, .inr (4, [.int (iI am), .ref qt, .ref qv, .ref qs, .int (iI sb), .int (iI sp), .int (iI gs)])), (qt, .inl (cI, 160, .inl (aI tt))), (qv, .inl (cI, 160, .inl (aI vv))), (qs, .inl (cI, 9, .inl (aI zz)))]) (mQv (dC, dI) [(h, .inr (1, [.int (iI ba), .ref qc])), (qc, .inl (cI, 175, .inl (aI fc))), (o, .inr (4, [.int (iI am), .ref qt, .ref qv, .ref qs, .int (iI sb), .int (iI sp), .int (iI gs)])), (qt, .inl (cI, 160, .inl (aI tt))), (qv, .inl (cI, 160, .inl (aI vv))), (qs, .inl (cI, 9, .inl (aI zz)))] [(h, .inr (1, [.int (iI ((bTake (ba, fc) st (srP (vv it))).1)), .ref qc])), (qc, .inl (cI, 175, .inl (aI ((bTake (ba, fc) st (srP (vv it))).2)))), (o, .inr (4, [.int (iI am), .ref qt, .ref qv, .ref qs, .int (iI sb), .int (iI sp), .int (iI gs)])), (qt, .inl (cI, 160, .inl (aI tt))), (qv, .inl (cI, 160, .inl (aI vv))), (qs, .inl (cI, 9, .inl (aI zz)))] sz) 0 0 (va_A [(h, .inr (1, [.int (iI ba), .ref qc])), (qc, .inl (cI, 175, .inl (aI fc))), (o, .inr (4, [.int (iI am), .ref qt, .ref qv, .ref qs, .int (iI sb), .int (iI sp), .int (iI gs)])), (qt, .inl (cI, 160, .inl (aI tt))), (qv, .inl (cI, 160, .inl (aI vv))), (qs, .inl (cI, 9, .inl (aI zz)))] sz) := by
  by_cases h9 : 1 ≤ ba ∧ fc ((ba - 1) * 7 + 0) = st
  · have e9 : bTake (ba, fc) st (srP (vv it)) = (ba, tkM fc (ba - 1) (srP (vv it))) := if_pos h9
    rw [e9]
    exact c_X0_takeP_m l dC dI cI cO h qc ba fc st it o qt qv qs am tt vv zz sb sp gs sz hit hfc hst (by omega) h9.2 hvv
  · have e9 : bTake (ba, fc) st (srP (vv it)) = (ba + 1, nwB fc ba st (srP (vv it)) 7) := if_neg h9
    rw [e9]
    exact c_X0_takeP_n l dC dI cI cO h qc ba fc st it o qt qv qs am tt vv zz sb sp gs sz hit hfc hst (by omega) (fun a b => h9 ⟨a, b⟩)

set_option maxRecDepth 100000 in
set_option maxHeartbeats 4000000 in
theorem c_X0_takeB_m (l : Launch) (dC : Nat → ClassId) (dI : Nat → Nat → Nat) (cI cO : ClassId) (h : Nat) (qc : Nat) (ba : Int) (fc : fI) (st : Int) (it : Int) (o : Nat) (qd : Nat) (bb : Int) (fd : fI) (sz : Nat) (hit : 0 ≤ it ∧ it ≤ 24) (hfc : ∀ j, rI (fc j)) (hst : rI st) (hba : 1 ≤ ba ∧ ba ≤ 25) (hs : fc ((ba - 1) * 7 + 0) = st) (hfd : ∀ j, rI (fd j)) : Met l yX0_take wsX0_take ({ frames := 1, cells := 0, slots := 0, locals := 24 }) (mPc (dC, dI) [(cI, .int), (cO, .object "java/lang/Object")] [.ref h, .int (iI st), .ref o, .int (iI it)] sz [(h, .inr (1, [.int (iI ba), .ref qc])), (qc, .inl (cI, 175, .inl (aI fc))), (o, .inr (1, [.int (iI bb), .ref qd])), (qd, .inl (cI, 175, .inl (aI fd)))]) (mQv (dC, dI) [(h, .inr (1, [.int (iI ba), .ref qc])), (qc, .inl (cI, 175, .inl (aI fc))), (o, .inr (1, [.int (iI bb), .ref qd])), (qd, .inl (cI, 175, .inl (aI fd)))] [(h, .inr (1, [.int (iI ba), .ref qc])), (qc, .inl (cI, 175, .inl (aI (tkM fc (ba - 1) (srB fd it))))), (o, .inr (1, [.int (iI bb), .ref qd])), (qd, .inl (cI, 175, .inl (aI fd)))] sz) 0 0 (va_A [(h, .inr (1, [.int (iI ba), .ref qc])), (qc, .inl (cI, 175, .inl (aI fc))), (o, .inr (1, [.int (iI bb), .ref qd])), (qd, .inl (cI, 175, .inl (aI fd)))] sz) := by
  refine mMet (cc := cX0_take) (maxL := 6) (ret := none) (by decide) rfl (Nat.le_of_ble_eq_true rfl) ?_
  intro p e s m args below meth c A ls hx hb hr hts hown hlocks hin hml hAe hsz hA hD H hHe hP hK hZ hS hl Q hQ
  have hl : lv_has ls 6 [(0, .ref h), (1, .int (iI st)), (2, .ref o), (3, .int (iI it))] := hl
  have hf15 := hts (.fieldLink RX0 15 "MeridianSeries$Buckets" "amount" "I") (by decide +kernel)
  have hs15 := hts (.sameField "MeridianSeries$Buckets" "MeridianSeries$Items" "amount" "I") (by decide +kernel)
  have hi_X0 : ∀ w ∈ u_ws RX0 TX0 2, w ∈ wsX0_take := by decide +kernel
  have hm28 := hts (.methodLink RX0 28 Lib.Math.min.name) (by decide +kernel)
  have hmsmmin := hts (.static Lib.Math.min.name) (by decide +kernel)
  have hmi := hts (.initialized "java/lang/Math") (by decide +kernel)
  have hmcmmin := hts (.code Lib.Math.min.name Lib.Math.min.code 2 (some .int)) (by decide +kernel)
  have hm33 := hts (.methodLink RX0 33 Lib.Math.max.name) (by decide +kernel)
  have hmsmmax := hts (.static Lib.Math.max.name) (by decide +kernel)
  have hmcmmax := hts (.code Lib.Math.max.name Lib.Math.max.code 2 (some .int)) (by decide +kernel)
  refine lv_aload_n hx hb dX0_take_0 rfl (lv_at hl 0 rfl) ?_
  refine va_get (ci := 1) (v := .int (iI ba)) (C := RX0) (T := TX0) (N := 2) hx hb hts hi_X0 hown hK hP 0 rfl rfl 0 (by decide) hf15 (fun x9 h9 => u_same hs15 x9 h9) rfl dX0_take_1 ?_
  refine mi_iconst hx hb dX0_take_4 ?_
  refine mi_isub hx hb dX0_take_5 ?_
  refine lv_istore (lv' := [(4, .int (iI (ba - 1))), (0, .ref h), (1, .int (iI st)), (2, .ref o), (3, .int (iI it))]) hx hb dX0_take_6 hl (by decide) rfl (fun ls hl => ?_)
  refine lv_iload hx hb dX0_take_8 (lv_at hl 0 rfl) ?_
  refine mi_if_lt (tgt := 130) hx hb (by omega) dX0_take_10 (by decide) (fun c_1 => ?_) (fun c_1 => ?_)
  · exfalso; omega
  · refine lv_aload_n hx hb dX0_take_13 rfl (lv_at hl 1 rfl) ?_
    refine lv_iload hx hb dX0_take_14 (lv_at hl 0 rfl) ?_
    refine mi_iconst hx hb dX0_take_16 ?_
    refine m_run (wc := [(h, .inr (1, [.int (iI ba), .ref qc])), (qc, .inl (cI, 175, .inl (aI fc)))]) (wc' := [(h, .inr (1, [.int (iI ba), .ref qc])), (qc, .inl (cI, 175, .inl (aI fc)))]) (wr := [(o, .inr (1, [.int (iI bb), .ref qd])), (qd, .inl (cI, 175, .inl (aI fd)))]) (ws' := [(h, .inr (1, [.int (iI ba), .ref qc])), (qc, .inl (cI, 175, .inl (aI fc))), (o, .inr (1, [.int (iI bb), .ref qd])), (qd, .inl (cI, 175, .inl (aI fd)))]) (va_runV (As := [.int (iI (ba - 1)), .int (iI 0)]) (rest := []) ⟨hx, hb, hml, hown, hts⟩ (c_X0_number l dC dI cI cO h qc ba fc (ba - 1) 0 H.size (by first | assumption | omega) (by first | assumption | omega)) (cwV 2 hts gX0_take_X0_number rfl rfl rfl (by decide +kernel) ⟨Nat.le_of_ble_eq_true rfl, Nat.le_of_ble_eq_true rfl⟩) (m_preV hZ hK hP hD [0, 1] rfl (by decide) (va_recv hK hP (ci := 1) (q0 := 0) rfl rfl)) rfl rfl hl.1 rfl (lv_room (Nat.le_of_ble_eq_true rfl)) dX0_take_17 ⟨Nat.le_of_ble_eq_true rfl, Nat.le_of_ble_eq_true rfl⟩) hP hD hS hA [0, 1] [2, 3] [2, 3, 0, 1] rfl rfl (by decide) (by decide) rfl (by decide) (fun H locs hP hD hS => ?_)
    refine lv_iload_n hx hb dX0_take_20 rfl (lv_at hl 2 rfl) ?_
    refine mi_icmp_ne (tgt := 130) hx hb (hfc _) hst dX0_take_21 (by decide) (fun c_2 => ?_) (fun c_2 => ?_)
    · exfalso; exact c_2 hs
    · refine lv_aload_n hx hb dX0_take_24 rfl (lv_at hl 1 rfl) ?_
      refine lv_iload hx hb dX0_take_25 (lv_at hl 0 rfl) ?_
      refine mi_iconst hx hb dX0_take_27 ?_
      refine lv_aload_n hx hb dX0_take_28 rfl (lv_at hl 1 rfl) ?_
      refine lv_iload hx hb dX0_take_29 (lv_at hl 0 rfl) ?_
      refine mi_iconst hx hb dX0_take_31 ?_
      refine m_run (wc := [(h, .inr (1, [.int (iI ba), .ref qc])), (qc, .inl (cI, 175, .inl (aI fc)))]) (wc' := [(h, .inr (1, [.int (iI ba), .ref qc])), (qc, .inl (cI, 175, .inl (aI fc)))]) (wr := [(o, .inr (1, [.int (iI bb), .ref qd])), (qd, .inl (cI, 175, .inl (aI fd)))]) (ws' := [(h, .inr (1, [.int (iI ba), .ref qc])), (qc, .inl (cI, 175, .inl (aI fc))), (o, .inr (1, [.int (iI bb), .ref qd])), (qd, .inl (cI, 175, .inl (aI fd)))]) (va_runV (As := [.int (iI (ba - 1)), .int (iI 1)]) (rest := [.int (iI 1), .int (iI (ba - 1)), .ref h]) ⟨hx, hb, hml, hown, hts⟩ (c_X0_number l dC dI cI cO h qc ba fc (ba - 1) 1 H.size (by first | assumption | omega) (by first | assumption | omega)) (cwV 2 hts gX0_take_X0_number rfl rfl rfl (by decide +kernel) ⟨Nat.le_of_ble_eq_true rfl, Nat.le_of_ble_eq_true rfl⟩) (m_preV hZ hK hP hD [0, 1] rfl (by decide) (va_recv hK hP (ci := 1) (q0 := 0) rfl rfl)) rfl rfl hl.1 rfl (lv_room (Nat.le_of_ble_eq_true rfl)) dX0_take_32 ⟨Nat.le_of_ble_eq_true rfl, Nat.le_of_ble_eq_true rfl⟩) hP hD hS hA [0, 1] [2, 3] [2, 3, 0, 1] rfl rfl (by decide) (by decide) rfl (by decide) (fun H locs hP hD hS => ?_)
      refine lv_aload_n hx hb dX0_take_35 rfl (lv_at hl 3 rfl) ?_
      refine lv_iload_n hx hb dX0_take_36 rfl (lv_at hl 4 rfl) ?_
      refine mi_iconst hx hb dX0_take_37 ?_
      refine m_run (wc := [(o, .inr (1, [.int (iI bb), .ref qd])), (qd, .inl (cI, 175, .inl (aI fd)))]) (wc' := [(o, .inr (1, [.int (iI bb), .ref qd])), (qd, .inl (cI, 175, .inl (aI fd)))]) (wr := [(h, .inr (1, [.int (iI ba), .ref qc])), (qc, .inl (cI, 175, .inl (aI fc)))]) (ws' := [(h, .inr (1, [.int (iI ba), .ref qc])), (qc, .inl (cI, 175, .inl (aI fc))), (o, .inr (1, [.int (iI bb), .ref qd])), (qd, .inl (cI, 175, .inl (aI fd)))]) (va_runU (As := [.int (iI it), .int (iI 1)]) (rest := [.int (iI (fc ((ba - 1) * 7 + 1))), .int (iI 1), .int (iI (ba - 1)), .ref h]) ⟨hx, hb, hml, hown, hts⟩ (c_X0_number l dC dI cI cO o qd bb fd it 1 H.size (by first | assumption | omega) (by first | assumption | omega)) (va_cwA 2 hts gX0_take_X0_number_u23X0 rfl rfl rfl (hZ _ (List.mem_of_getElem? (i := 0) rfl)) (by decide +kernel) ⟨Nat.le_of_ble_eq_true rfl, Nat.le_of_ble_eq_true rfl⟩) (m_preV hZ hK hP hD [2, 3] rfl (by decide) (va_recv hK hP (ci := 1) (q0 := 2) rfl rfl)) rfl rfl hl.1 rfl (lv_room (Nat.le_of_ble_eq_true rfl)) dX0_take_38 ⟨Nat.le_of_ble_eq_true rfl, Nat.le_of_ble_eq_true rfl⟩) hP hD hS hA [2, 3] [0, 1] [0, 1, 2, 3] rfl rfl (by decide) (by decide) rfl (by decide) (fun H locs hP hD hS => ?_)
      refine mi_iadd hx hb dX0_take_41 ?_
      rw [← iI_wr ((fc ((ba - 1) * 7 + 1)) + (fd (it * 7 + 1)))]
      refine m_runv (wc := [(h, .inr (1, [.int (iI ba), .ref qc])), (qc, .inl (cI, 175, .inl (aI fc)))]) (wc' := [(h, .inr (1, [.int (iI ba), .ref qc])), (qc, .inl (cI, 175, .inl (aI (uI fc ((ba - 1) * 7 + 1) (wr ((fc ((ba - 1) * 7 + 1)) + (fd (it * 7 + 1))))))))]) (wr := [(o, .inr (1, [.int (iI bb), .ref qd])), (qd, .inl (cI, 175, .inl (aI fd)))]) (ws' := [(h, .inr (1, [.int (iI ba), .ref qc])), (qc, .inl (cI, 175, .inl (aI (uI fc ((ba - 1) * 7 + 1) (wr ((fc ((ba - 1) * 7 + 1)) + (fd (it * 7 + 1)))))))), (o, .inr (1, [.int (iI bb), .ref qd])), (qd, .inl (cI, 175, .inl (aI fd)))]) (va_runV (As := [.int (iI (ba - 1)), .int (iI 1), .int (iI (wr ((fc ((ba - 1) * 7 + 1)) + (fd (it * 7 + 1)))))]) (rest := []) ⟨hx, hb, hml, hown, hts⟩ (c_X0_write l dC dI cI cO h qc ba fc (ba - 1) 1 (wr ((fc ((ba - 1) * 7 + 1)) + (fd (it * 7 + 1)))) H.size (by first | assumption | omega) (by first | assumption | omega)) (cwV 3 hts gX0_take_X0_write rfl rfl rfl (by decide +kernel) ⟨Nat.le_of_ble_eq_true rfl, Nat.le_of_ble_eq_true rfl⟩) (m_preV hZ hK hP hD [0, 1] rfl (by decide) (va_recv hK hP (ci := 1) (q0 := 0) rfl rfl)) rfl rfl hl.1 rfl (lv_room (Nat.le_of_ble_eq_true rfl)) dX0_take_42 ⟨Nat.le_of_ble_eq_true rfl, Nat.le_of_ble_eq_true rfl⟩) hP hD hS hA [0, 1] [2, 3] [2, 3, 0, 1] rfl rfl (by decide) (by decide) rfl (by decide) (fun H locs hP hD hS => ?_)
      obtain ⟨g1, hg1⟩ : ∃ z : fI, z = uI fc ((ba - 1) * 7 + 1) (wr ((fc ((ba - 1) * 7 + 1)) + (fd (it * 7 + 1)))) := ⟨_, rfl⟩
      rw [← hg1] at hP hD
      refine lv_aload_n hx hb dX0_take_45 rfl (lv_at hl 1 rfl) ?_
      refine lv_iload hx hb dX0_take_46 (lv_at hl 0 rfl) ?_
      refine mi_iconst hx hb dX0_take_48 ?_
      refine lv_aload_n hx hb dX0_take_49 rfl (lv_at hl 1 rfl) ?_
      refine lv_iload hx hb dX0_take_50 (lv_at hl 0 rfl) ?_
      refine mi_iconst hx hb dX0_take_52 ?_
      refine m_run (wc := [(h, .inr (1, [.int (iI ba), .ref qc])), (qc, .inl (cI, 175, .inl (aI g1)))]) (wc' := [(h, .inr (1, [.int (iI ba), .ref qc])), (qc, .inl (cI, 175, .inl (aI g1)))]) (wr := [(o, .inr (1, [.int (iI bb), .ref qd])), (qd, .inl (cI, 175, .inl (aI fd)))]) (ws' := [(h, .inr (1, [.int (iI ba), .ref qc])), (qc, .inl (cI, 175, .inl (aI g1))), (o, .inr (1, [.int (iI bb), .ref qd])), (qd, .inl (cI, 175, .inl (aI fd)))]) (va_runV (As := [.int (iI (ba - 1)), .int (iI 2)]) (rest := [.int (iI 2), .int (iI (ba - 1)), .ref h]) ⟨hx, hb, hml, hown, hts⟩ (c_X0_number l dC dI cI cO h qc ba g1 (ba - 1) 2 H.size (by first | assumption | omega) (by first | assumption | omega)) (cwV 2 hts gX0_take_X0_number rfl rfl rfl (by decide +kernel) ⟨Nat.le_of_ble_eq_true rfl, Nat.le_of_ble_eq_true rfl⟩) (m_preV hZ hK hP hD [0, 1] rfl (by decide) (va_recv hK hP (ci := 1) (q0 := 0) rfl rfl)) rfl rfl hl.1 rfl (lv_room (Nat.le_of_ble_eq_true rfl)) dX0_take_53 ⟨Nat.le_of_ble_eq_true rfl, Nat.le_of_ble_eq_true rfl⟩) hP hD hS hA [0, 1] [2, 3] [2, 3, 0, 1] rfl rfl (by decide) (by decide) rfl (by decide) (fun H locs hP hD hS => ?_)
      refine lv_aload_n hx hb dX0_take_56 rfl (lv_at hl 3 rfl) ?_
      refine lv_iload_n hx hb dX0_take_57 rfl (lv_at hl 4 rfl) ?_
      refine mi_iconst hx hb dX0_take_58 ?_
      refine m_run (wc := [(o, .inr (1, [.int (iI bb), .ref qd])), (qd, .inl (cI, 175, .inl (aI fd)))]) (wc' := [(o, .inr (1, [.int (iI bb), .ref qd])), (qd, .inl (cI, 175, .inl (aI fd)))]) (wr := [(h, .inr (1, [.int (iI ba), .ref qc])), (qc, .inl (cI, 175, .inl (aI g1)))]) (ws' := [(h, .inr (1, [.int (iI ba), .ref qc])), (qc, .inl (cI, 175, .inl (aI g1))), (o, .inr (1, [.int (iI bb), .ref qd])), (qd, .inl (cI, 175, .inl (aI fd)))]) (va_runU (As := [.int (iI it), .int (iI 2)]) (rest := [.int (iI (g1 ((ba - 1) * 7 + 2))), .int (iI 2), .int (iI (ba - 1)), .ref h]) ⟨hx, hb, hml, hown, hts⟩ (c_X0_number l dC dI cI cO o qd bb fd it 2 H.size (by first | assumption | omega) (by first | assumption | omega)) (va_cwA 2 hts gX0_take_X0_number_u23X0 rfl rfl rfl (hZ _ (List.mem_of_getElem? (i := 0) rfl)) (by decide +kernel) ⟨Nat.le_of_ble_eq_true rfl, Nat.le_of_ble_eq_true rfl⟩) (m_preV hZ hK hP hD [2, 3] rfl (by decide) (va_recv hK hP (ci := 1) (q0 := 2) rfl rfl)) rfl rfl hl.1 rfl (lv_room (Nat.le_of_ble_eq_true rfl)) dX0_take_59 ⟨Nat.le_of_ble_eq_true rfl, Nat.le_of_ble_eq_true rfl⟩) hP hD hS hA [2, 3] [0, 1] [0, 1, 2, 3] rfl rfl (by decide) (by decide) rfl (by decide) (fun H locs hP hD hS => ?_)
      refine mi_iadd hx hb dX0_take_62 ?_
      rw [← iI_wr ((g1 ((ba - 1) * 7 + 2)) + (fd (it * 7 + 2)))]
      refine m_runv (wc := [(h, .inr (1, [.int (iI ba), .ref qc])), (qc, .inl (cI, 175, .inl (aI g1)))]) (wc' := [(h, .inr (1, [.int (iI ba), .ref qc])), (qc, .inl (cI, 175, .inl (aI (uI g1 ((ba - 1) * 7 + 2) (wr ((g1 ((ba - 1) * 7 + 2)) + (fd (it * 7 + 2))))))))]) (wr := [(o, .inr (1, [.int (iI bb), .ref qd])), (qd, .inl (cI, 175, .inl (aI fd)))]) (ws' := [(h, .inr (1, [.int (iI ba), .ref qc])), (qc, .inl (cI, 175, .inl (aI (uI g1 ((ba - 1) * 7 + 2) (wr ((g1 ((ba - 1) * 7 + 2)) + (fd (it * 7 + 2)))))))), (o, .inr (1, [.int (iI bb), .ref qd])), (qd, .inl (cI, 175, .inl (aI fd)))]) (va_runV (As := [.int (iI (ba - 1)), .int (iI 2), .int (iI (wr ((g1 ((ba - 1) * 7 + 2)) + (fd (it * 7 + 2)))))]) (rest := []) ⟨hx, hb, hml, hown, hts⟩ (c_X0_write l dC dI cI cO h qc ba g1 (ba - 1) 2 (wr ((g1 ((ba - 1) * 7 + 2)) + (fd (it * 7 + 2)))) H.size (by first | assumption | omega) (by first | assumption | omega)) (cwV 3 hts gX0_take_X0_write rfl rfl rfl (by decide +kernel) ⟨Nat.le_of_ble_eq_true rfl, Nat.le_of_ble_eq_true rfl⟩) (m_preV hZ hK hP hD [0, 1] rfl (by decide) (va_recv hK hP (ci := 1) (q0 := 0) rfl rfl)) rfl rfl hl.1 rfl (lv_room (Nat.le_of_ble_eq_true rfl)) dX0_take_63 ⟨Nat.le_of_ble_eq_true rfl, Nat.le_of_ble_eq_true rfl⟩) hP hD hS hA [0, 1] [2, 3] [2, 3, 0, 1] rfl rfl (by decide) (by decide) rfl (by decide) (fun H locs hP hD hS => ?_)
      obtain ⟨g2, hg2⟩ : ∃ z : fI, z = uI g1 ((ba - 1) * 7 + 2) (wr ((g1 ((ba - 1) * 7 + 2)) + (fd (it * 7 + 2)))) := ⟨_, rfl⟩
      rw [← hg2] at hP hD
      refine lv_aload_n hx hb dX0_take_66 rfl (lv_at hl 1 rfl) ?_
      refine lv_iload hx hb dX0_take_67 (lv_at hl 0 rfl) ?_
      refine mi_iconst hx hb dX0_take_69 ?_
      refine lv_aload_n hx hb dX0_take_70 rfl (lv_at hl 1 rfl) ?_
      refine lv_iload hx hb dX0_take_71 (lv_at hl 0 rfl) ?_
      refine mi_iconst hx hb dX0_take_73 ?_
      refine m_run (wc := [(h, .inr (1, [.int (iI ba), .ref qc])), (qc, .inl (cI, 175, .inl (aI g2)))]) (wc' := [(h, .inr (1, [.int (iI ba), .ref qc])), (qc, .inl (cI, 175, .inl (aI g2)))]) (wr := [(o, .inr (1, [.int (iI bb), .ref qd])), (qd, .inl (cI, 175, .inl (aI fd)))]) (ws' := [(h, .inr (1, [.int (iI ba), .ref qc])), (qc, .inl (cI, 175, .inl (aI g2))), (o, .inr (1, [.int (iI bb), .ref qd])), (qd, .inl (cI, 175, .inl (aI fd)))]) (va_runV (As := [.int (iI (ba - 1)), .int (iI 3)]) (rest := [.int (iI 3), .int (iI (ba - 1)), .ref h]) ⟨hx, hb, hml, hown, hts⟩ (c_X0_number l dC dI cI cO h qc ba g2 (ba - 1) 3 H.size (by first | assumption | omega) (by first | assumption | omega)) (cwV 2 hts gX0_take_X0_number rfl rfl rfl (by decide +kernel) ⟨Nat.le_of_ble_eq_true rfl, Nat.le_of_ble_eq_true rfl⟩) (m_preV hZ hK hP hD [0, 1] rfl (by decide) (va_recv hK hP (ci := 1) (q0 := 0) rfl rfl)) rfl rfl hl.1 rfl (lv_room (Nat.le_of_ble_eq_true rfl)) dX0_take_74 ⟨Nat.le_of_ble_eq_true rfl, Nat.le_of_ble_eq_true rfl⟩) hP hD hS hA [0, 1] [2, 3] [2, 3, 0, 1] rfl rfl (by decide) (by decide) rfl (by decide) (fun H locs hP hD hS => ?_)
      refine lv_aload_n hx hb dX0_take_77 rfl (lv_at hl 3 rfl) ?_
      refine lv_iload_n hx hb dX0_take_78 rfl (lv_at hl 4 rfl) ?_
      refine mi_iconst hx hb dX0_take_79 ?_
      refine m_run (wc := [(o, .inr (1, [.int (iI bb), .ref qd])), (qd, .inl (cI, 175, .inl (aI fd)))]) (wc' := [(o, .inr (1, [.int (iI bb), .ref qd])), (qd, .inl (cI, 175, .inl (aI fd)))]) (wr := [(h, .inr (1, [.int (iI ba), .ref qc])), (qc, .inl (cI, 175, .inl (aI g2)))]) (ws' := [(h, .inr (1, [.int (iI ba), .ref qc])), (qc, .inl (cI, 175, .inl (aI g2))), (o, .inr (1, [.int (iI bb), .ref qd])), (qd, .inl (cI, 175, .inl (aI fd)))]) (va_runU (As := [.int (iI it), .int (iI 3)]) (rest := [.int (iI (g2 ((ba - 1) * 7 + 3))), .int (iI 3), .int (iI (ba - 1)), .ref h]) ⟨hx, hb, hml, hown, hts⟩ (c_X0_number l dC dI cI cO o qd bb fd it 3 H.size (by first | assumption | omega) (by first | assumption | omega)) (va_cwA 2 hts gX0_take_X0_number_u23X0 rfl rfl rfl (hZ _ (List.mem_of_getElem? (i := 0) rfl)) (by decide +kernel) ⟨Nat.le_of_ble_eq_true rfl, Nat.le_of_ble_eq_true rfl⟩) (m_preV hZ hK hP hD [2, 3] rfl (by decide) (va_recv hK hP (ci := 1) (q0 := 2) rfl rfl)) rfl rfl hl.1 rfl (lv_room (Nat.le_of_ble_eq_true rfl)) dX0_take_80 ⟨Nat.le_of_ble_eq_true rfl, Nat.le_of_ble_eq_true rfl⟩) hP hD hS hA [2, 3] [0, 1] [0, 1, 2, 3] rfl rfl (by decide) (by decide) rfl (by decide) (fun H locs hP hD hS => ?_)
      refine mi_mmin hx hb (hml.trans hl.1.symm) hown hm28 hmsmmin hmi hmcmmin (Nat.le_of_ble_eq_true rfl) (Nat.le_of_ble_eq_true rfl) (Nat.le_of_ble_eq_true rfl) (Nat.le_of_ble_eq_true rfl) (by rw [hg2, uI_n _ _ (by omega), hg1, uI_n _ _ (by omega)]; exact hfc _) (hfd _) dX0_take_83 ?_
      refine m_runv (wc := [(h, .inr (1, [.int (iI ba), .ref qc])), (qc, .inl (cI, 175, .inl (aI g2)))]) (wc' := [(h, .inr (1, [.int (iI ba), .ref qc])), (qc, .inl (cI, 175, .inl (aI (uI g2 ((ba - 1) * 7 + 3) (min (g2 ((ba - 1) * 7 + 3)) (fd (it * 7 + 3)))))))]) (wr := [(o, .inr (1, [.int (iI bb), .ref qd])), (qd, .inl (cI, 175, .inl (aI fd)))]) (ws' := [(h, .inr (1, [.int (iI ba), .ref qc])), (qc, .inl (cI, 175, .inl (aI (uI g2 ((ba - 1) * 7 + 3) (min (g2 ((ba - 1) * 7 + 3)) (fd (it * 7 + 3))))))), (o, .inr (1, [.int (iI bb), .ref qd])), (qd, .inl (cI, 175, .inl (aI fd)))]) (va_runV (As := [.int (iI (ba - 1)), .int (iI 3), .int (iI (min (g2 ((ba - 1) * 7 + 3)) (fd (it * 7 + 3))))]) (rest := []) ⟨hx, hb, hml, hown, hts⟩ (c_X0_write l dC dI cI cO h qc ba g2 (ba - 1) 3 (min (g2 ((ba - 1) * 7 + 3)) (fd (it * 7 + 3))) H.size (by first | assumption | omega) (by first | assumption | omega)) (cwV 3 hts gX0_take_X0_write rfl rfl rfl (by decide +kernel) ⟨Nat.le_of_ble_eq_true rfl, Nat.le_of_ble_eq_true rfl⟩) (m_preV hZ hK hP hD [0, 1] rfl (by decide) (va_recv hK hP (ci := 1) (q0 := 0) rfl rfl)) rfl rfl hl.1 rfl (lv_room (Nat.le_of_ble_eq_true rfl)) dX0_take_86 ⟨Nat.le_of_ble_eq_true rfl, Nat.le_of_ble_eq_true rfl⟩) hP hD hS hA [0, 1] [2, 3] [2, 3, 0, 1] rfl rfl (by decide) (by decide) rfl (by decide) (fun H locs hP hD hS => ?_)
      obtain ⟨g3, hg3⟩ : ∃ z : fI, z = uI g2 ((ba - 1) * 7 + 3) (min (g2 ((ba - 1) * 7 + 3)) (fd (it * 7 + 3))) := ⟨_, rfl⟩
      rw [← hg3] at hP hD
      refine lv_aload_n hx hb dX0_take_89 rfl (lv_at hl 1 rfl) ?_
      refine lv_iload hx hb dX0_take_90 (lv_at hl 0 rfl) ?_
      refine mi_iconst hx hb dX0_take_92 ?_
      refine lv_aload_n hx hb dX0_take_93 rfl (lv_at hl 1 rfl) ?_
      refine lv_iload hx hb dX0_take_94 (lv_at hl 0 rfl) ?_
      refine mi_iconst hx hb dX0_take_96 ?_
      refine m_run (wc := [(h, .inr (1, [.int (iI ba), .ref qc])), (qc, .inl (cI, 175, .inl (aI g3)))]) (wc' := [(h, .inr (1, [.int (iI ba), .ref qc])), (qc, .inl (cI, 175, .inl (aI g3)))]) (wr := [(o, .inr (1, [.int (iI bb), .ref qd])), (qd, .inl (cI, 175, .inl (aI fd)))]) (ws' := [(h, .inr (1, [.int (iI ba), .ref qc])), (qc, .inl (cI, 175, .inl (aI g3))), (o, .inr (1, [.int (iI bb), .ref qd])), (qd, .inl (cI, 175, .inl (aI fd)))]) (va_runV (As := [.int (iI (ba - 1)), .int (iI 4)]) (rest := [.int (iI 4), .int (iI (ba - 1)), .ref h]) ⟨hx, hb, hml, hown, hts⟩ (c_X0_number l dC dI cI cO h qc ba g3 (ba - 1) 4 H.size (by first | assumption | omega) (by first | assumption | omega)) (cwV 2 hts gX0_take_X0_number rfl rfl rfl (by decide +kernel) ⟨Nat.le_of_ble_eq_true rfl, Nat.le_of_ble_eq_true rfl⟩) (m_preV hZ hK hP hD [0, 1] rfl (by decide) (va_recv hK hP (ci := 1) (q0 := 0) rfl rfl)) rfl rfl hl.1 rfl (lv_room (Nat.le_of_ble_eq_true rfl)) dX0_take_97 ⟨Nat.le_of_ble_eq_true rfl, Nat.le_of_ble_eq_true rfl⟩) hP hD hS hA [0, 1] [2, 3] [2, 3, 0, 1] rfl rfl (by decide) (by decide) rfl (by decide) (fun H locs hP hD hS => ?_)
      refine lv_aload_n hx hb dX0_take_100 rfl (lv_at hl 3 rfl) ?_
      refine lv_iload_n hx hb dX0_take_101 rfl (lv_at hl 4 rfl) ?_
      refine mi_iconst hx hb dX0_take_102 ?_
      refine m_run (wc := [(o, .inr (1, [.int (iI bb), .ref qd])), (qd, .inl (cI, 175, .inl (aI fd)))]) (wc' := [(o, .inr (1, [.int (iI bb), .ref qd])), (qd, .inl (cI, 175, .inl (aI fd)))]) (wr := [(h, .inr (1, [.int (iI ba), .ref qc])), (qc, .inl (cI, 175, .inl (aI g3)))]) (ws' := [(h, .inr (1, [.int (iI ba), .ref qc])), (qc, .inl (cI, 175, .inl (aI g3))), (o, .inr (1, [.int (iI bb), .ref qd])), (qd, .inl (cI, 175, .inl (aI fd)))]) (va_runU (As := [.int (iI it), .int (iI 4)]) (rest := [.int (iI (g3 ((ba - 1) * 7 + 4))), .int (iI 4), .int (iI (ba - 1)), .ref h]) ⟨hx, hb, hml, hown, hts⟩ (c_X0_number l dC dI cI cO o qd bb fd it 4 H.size (by first | assumption | omega) (by first | assumption | omega)) (va_cwA 2 hts gX0_take_X0_number_u23X0 rfl rfl rfl (hZ _ (List.mem_of_getElem? (i := 0) rfl)) (by decide +kernel) ⟨Nat.le_of_ble_eq_true rfl, Nat.le_of_ble_eq_true rfl⟩) (m_preV hZ hK hP hD [2, 3] rfl (by decide) (va_recv hK hP (ci := 1) (q0 := 2) rfl rfl)) rfl rfl hl.1 rfl (lv_room (Nat.le_of_ble_eq_true rfl)) dX0_take_103 ⟨Nat.le_of_ble_eq_true rfl, Nat.le_of_ble_eq_true rfl⟩) hP hD hS hA [2, 3] [0, 1] [0, 1, 2, 3] rfl rfl (by decide) (by decide) rfl (by decide) (fun H locs hP hD hS => ?_)
      refine mi_mmax hx hb (hml.trans hl.1.symm) hown hm33 hmsmmax hmi hmcmmax (Nat.le_of_ble_eq_true rfl) (Nat.le_of_ble_eq_true rfl) (Nat.le_of_ble_eq_true rfl) (Nat.le_of_ble_eq_true rfl) (by rw [hg3, uI_n _ _ (by omega), hg2, uI_n _ _ (by omega), hg1, uI_n _ _ (by omega)]; exact hfc _) (hfd _) dX0_take_106 ?_
      refine m_runv (wc := [(h, .inr (1, [.int (iI ba), .ref qc])), (qc, .inl (cI, 175, .inl (aI g3)))]) (wc' := [(h, .inr (1, [.int (iI ba), .ref qc])), (qc, .inl (cI, 175, .inl (aI (uI g3 ((ba - 1) * 7 + 4) (max (g3 ((ba - 1) * 7 + 4)) (fd (it * 7 + 4)))))))]) (wr := [(o, .inr (1, [.int (iI bb), .ref qd])), (qd, .inl (cI, 175, .inl (aI fd)))]) (ws' := [(h, .inr (1, [.int (iI ba), .ref qc])), (qc, .inl (cI, 175, .inl (aI (uI g3 ((ba - 1) * 7 + 4) (max (g3 ((ba - 1) * 7 + 4)) (fd (it * 7 + 4))))))), (o, .inr (1, [.int (iI bb), .ref qd])), (qd, .inl (cI, 175, .inl (aI fd)))]) (va_runV (As := [.int (iI (ba - 1)), .int (iI 4), .int (iI (max (g3 ((ba - 1) * 7 + 4)) (fd (it * 7 + 4))))]) (rest := []) ⟨hx, hb, hml, hown, hts⟩ (c_X0_write l dC dI cI cO h qc ba g3 (ba - 1) 4 (max (g3 ((ba - 1) * 7 + 4)) (fd (it * 7 + 4))) H.size (by first | assumption | omega) (by first | assumption | omega)) (cwV 3 hts gX0_take_X0_write rfl rfl rfl (by decide +kernel) ⟨Nat.le_of_ble_eq_true rfl, Nat.le_of_ble_eq_true rfl⟩) (m_preV hZ hK hP hD [0, 1] rfl (by decide) (va_recv hK hP (ci := 1) (q0 := 0) rfl rfl)) rfl rfl hl.1 rfl (lv_room (Nat.le_of_ble_eq_true rfl)) dX0_take_109 ⟨Nat.le_of_ble_eq_true rfl, Nat.le_of_ble_eq_true rfl⟩) hP hD hS hA [0, 1] [2, 3] [2, 3, 0, 1] rfl rfl (by decide) (by decide) rfl (by decide) (fun H locs hP hD hS => ?_)
      obtain ⟨g4, hg4⟩ : ∃ z : fI, z = uI g3 ((ba - 1) * 7 + 4) (max (g3 ((ba - 1) * 7 + 4)) (fd (it * 7 + 4))) := ⟨_, rfl⟩
      rw [← hg4] at hP hD
      refine lv_aload_n hx hb dX0_take_112 rfl (lv_at hl 1 rfl) ?_
      refine lv_iload hx hb dX0_take_113 (lv_at hl 0 rfl) ?_
      refine mi_bipush hx hb dX0_take_115 (by decide) ?_
      refine lv_aload_n hx hb dX0_take_117 rfl (lv_at hl 3 rfl) ?_
      refine lv_iload_n hx hb dX0_take_118 rfl (lv_at hl 4 rfl) ?_
      refine mi_bipush hx hb dX0_take_119 (by decide) ?_
      refine m_run (wc := [(o, .inr (1, [.int (iI bb), .ref qd])), (qd, .inl (cI, 175, .inl (aI fd)))]) (wc' := [(o, .inr (1, [.int (iI bb), .ref qd])), (qd, .inl (cI, 175, .inl (aI fd)))]) (wr := [(h, .inr (1, [.int (iI ba), .ref qc])), (qc, .inl (cI, 175, .inl (aI g4)))]) (ws' := [(h, .inr (1, [.int (iI ba), .ref qc])), (qc, .inl (cI, 175, .inl (aI g4))), (o, .inr (1, [.int (iI bb), .ref qd])), (qd, .inl (cI, 175, .inl (aI fd)))]) (va_runU (As := [.int (iI it), .int (iI 6)]) (rest := [.int (iI 6), .int (iI (ba - 1)), .ref h]) ⟨hx, hb, hml, hown, hts⟩ (c_X0_number l dC dI cI cO o qd bb fd it 6 H.size (by first | assumption | omega) (by first | assumption | omega)) (va_cwA 2 hts gX0_take_X0_number_u23X0 rfl rfl rfl (hZ _ (List.mem_of_getElem? (i := 0) rfl)) (by decide +kernel) ⟨Nat.le_of_ble_eq_true rfl, Nat.le_of_ble_eq_true rfl⟩) (m_preV hZ hK hP hD [2, 3] rfl (by decide) (va_recv hK hP (ci := 1) (q0 := 2) rfl rfl)) rfl rfl hl.1 rfl (lv_room (Nat.le_of_ble_eq_true rfl)) dX0_take_121 ⟨Nat.le_of_ble_eq_true rfl, Nat.le_of_ble_eq_true rfl⟩) hP hD hS hA [2, 3] [0, 1] [0, 1, 2, 3] rfl rfl (by decide) (by decide) rfl (by decide) (fun H locs hP hD hS => ?_)
      refine m_runv (wc := [(h, .inr (1, [.int (iI ba), .ref qc])), (qc, .inl (cI, 175, .inl (aI g4)))]) (wc' := [(h, .inr (1, [.int (iI ba), .ref qc])), (qc, .inl (cI, 175, .inl (aI (uI g4 ((ba - 1) * 7 + 6) (fd (it * 7 + 6))))))]) (wr := [(o, .inr (1, [.int (iI bb), .ref qd])), (qd, .inl (cI, 175, .inl (aI fd)))]) (ws' := [(h, .inr (1, [.int (iI ba), .ref qc])), (qc, .inl (cI, 175, .inl (aI (uI g4 ((ba - 1) * 7 + 6) (fd (it * 7 + 6)))))), (o, .inr (1, [.int (iI bb), .ref qd])), (qd, .inl (cI, 175, .inl (aI fd)))]) (va_runV (As := [.int (iI (ba - 1)), .int (iI 6), .int (iI (fd (it * 7 + 6)))]) (rest := []) ⟨hx, hb, hml, hown, hts⟩ (c_X0_write l dC dI cI cO h qc ba g4 (ba - 1) 6 (fd (it * 7 + 6)) H.size (by first | assumption | omega) (by first | assumption | omega)) (cwV 3 hts gX0_take_X0_write rfl rfl rfl (by decide +kernel) ⟨Nat.le_of_ble_eq_true rfl, Nat.le_of_ble_eq_true rfl⟩) (m_preV hZ hK hP hD [0, 1] rfl (by decide) (va_recv hK hP (ci := 1) (q0 := 0) rfl rfl)) rfl rfl hl.1 rfl (lv_room (Nat.le_of_ble_eq_true rfl)) dX0_take_124 ⟨Nat.le_of_ble_eq_true rfl, Nat.le_of_ble_eq_true rfl⟩) hP hD hS hA [0, 1] [2, 3] [2, 3, 0, 1] rfl rfl (by decide) (by decide) rfl (by decide) (fun H locs hP hD hS => ?_)
      refine lv_goto (tgt := 192) hx hb dX0_take_127 (by decide) ?_
      exact mi_vret hx hb hQ hr hlocks hAe hsz hP hD hS (by subst hg4 hg3 hg2 hg1; rfl) dX0_take_192

set_option maxRecDepth 100000 in
set_option maxHeartbeats 4000000 in
theorem c_X0_takeB_n (l : Launch) (dC : Nat → ClassId) (dI : Nat → Nat → Nat) (cI cO : ClassId) (h : Nat) (qc : Nat) (ba : Int) (fc : fI) (st : Int) (it : Int) (o : Nat) (qd : Nat) (bb : Int) (fd : fI) (sz : Nat) (hit : 0 ≤ it ∧ it ≤ 24) (hfc : ∀ j, rI (fc j)) (hst : rI st) (hba : 0 ≤ ba ∧ ba < 25) (hs : 1 ≤ ba → fc ((ba - 1) * 7 + 0) ≠ st) : Met l yX0_take wsX0_take ({ frames := 1, cells := 0, slots := 0, locals := 24 }) (mPc (dC, dI) [(cI, .int), (cO, .object "java/lang/Object")] [.ref h, .int (iI st), .ref o, .int (iI it)] sz [(h, .inr (1, [.int (iI ba), .ref qc])), (qc, .inl (cI, 175, .inl (aI fc))), (o, .inr (1, [.int (iI bb), .ref qd])), (qd, .inl (cI, 175, .inl (aI fd)))]) (mQv (dC, dI) [(h, .inr (1, [.int (iI ba), .ref qc])), (qc, .inl (cI, 175, .inl (aI fc))), (o, .inr (1, [.int (iI bb), .ref qd])), (qd, .inl (cI, 175, .inl (aI fd)))] [(h, .inr (1, [.int (iI (ba + 1)), .ref qc])), (qc, .inl (cI, 175, .inl (aI (nwB fc ba st (srB fd it) 7)))), (o, .inr (1, [.int (iI bb), .ref qd])), (qd, .inl (cI, 175, .inl (aI fd)))] sz) 0 0 (va_A [(h, .inr (1, [.int (iI ba), .ref qc])), (qc, .inl (cI, 175, .inl (aI fc))), (o, .inr (1, [.int (iI bb), .ref qd])), (qd, .inl (cI, 175, .inl (aI fd)))] sz) := by
  refine mMet (cc := cX0_take) (maxL := 6) (ret := none) (by decide) rfl (Nat.le_of_ble_eq_true rfl) ?_
  intro p e s m args below meth c A ls hx hb hr hts hown hlocks hin hml hAe hsz hA hD H hHe hP hK hZ hS hl Q hQ
  have hl : lv_has ls 6 [(0, .ref h), (1, .int (iI st)), (2, .ref o), (3, .int (iI it))] := hl
  have hf15 := hts (.fieldLink RX0 15 "MeridianSeries$Buckets" "amount" "I") (by decide +kernel)
  have hs15 := hts (.sameField "MeridianSeries$Buckets" "MeridianSeries$Items" "amount" "I") (by decide +kernel)
  have hi_X0 : ∀ w ∈ u_ws RX0 TX0 2, w ∈ wsX0_take := by decide +kernel
  refine lv_aload_n hx hb dX0_take_0 rfl (lv_at hl 0 rfl) ?_
  refine va_get (ci := 1) (v := .int (iI ba)) (C := RX0) (T := TX0) (N := 2) hx hb hts hi_X0 hown hK hP 0 rfl rfl 0 (by decide) hf15 (fun x9 h9 => u_same hs15 x9 h9) rfl dX0_take_1 ?_
  refine mi_iconst hx hb dX0_take_4 ?_
  refine mi_isub hx hb dX0_take_5 ?_
  refine lv_istore (lv' := [(4, .int (iI (ba - 1))), (0, .ref h), (1, .int (iI st)), (2, .ref o), (3, .int (iI it))]) hx hb dX0_take_6 hl (by decide) rfl (fun ls hl => ?_)
  refine lv_iload hx hb dX0_take_8 (lv_at hl 0 rfl) ?_
  have jn130 : ∀ (_ : Unit), ∀ (H : Heap) (locs : List Loc) (ls : Array Slot), va_P (dC, dI) vwCl [(h, .inr (1, [.int (iI ba), .ref qc])), (qc, .inl (cI, 175, .inl (aI fc))), (o, .inr (1, [.int (iI bb), .ref qd])), (qd, .inl (cI, 175, .inl (aI fd)))] H → va_D A [(h, .inr (1, [.int (iI ba), .ref qc])), (qc, .inl (cI, 175, .inl (aI fc))), (o, .inr (1, [.int (iI bb), .ref qd])), (qd, .inl (cI, 175, .inl (aI fd)))] → va_S A s.heap H locs → lv_has ls 6 [(0, .ref h), (1, .int (iI st)), (2, .ref o), (3, .int (iI it)), (4, .int (iI (ba - 1)))] → W p l e { frames := 1, cells := 0, slots := 0, locals := 24 } s m args below meth c H locs 0 0 Q (F0 m 130 ls []) := by
    intro u9  H locs ls hP hD hS hl
    refine lv_aload_n hx hb dX0_take_130 rfl (lv_at hl 0 rfl) ?_
    refine va_get (ci := 1) (v := .int (iI ba)) (C := RX0) (T := TX0) (N := 2) hx hb hts hi_X0 hown hK hP 0 rfl rfl 0 (by decide) hf15 (fun x9 h9 => u_same hs15 x9 h9) rfl dX0_take_131 ?_
    refine mi_bipush hx hb dX0_take_134 (by decide) ?_
    refine mi_icmp_ge (tgt := 192) hx hb (by omega) (by decide) dX0_take_136 (by decide) (fun c_1 => ?_) (fun c_1 => ?_)
    · exfalso; omega
    · refine lv_aload_n hx hb dX0_take_139 rfl (lv_at hl 0 rfl) ?_
      refine lv_aload_n hx hb dX0_take_140 rfl (lv_at hl 0 rfl) ?_
      refine va_get (ci := 1) (v := .int (iI ba)) (C := RX0) (T := TX0) (N := 2) hx hb hts hi_X0 hown hK hP 0 rfl rfl 0 (by decide) hf15 (fun x9 h9 => u_same hs15 x9 h9) rfl dX0_take_141 ?_
      refine mi_iconst hx hb dX0_take_144 ?_
      refine lv_iload_n hx hb dX0_take_145 rfl (lv_at hl 1 rfl) ?_
      refine m_runv (wc := [(h, .inr (1, [.int (iI ba), .ref qc])), (qc, .inl (cI, 175, .inl (aI fc)))]) (wc' := [(h, .inr (1, [.int (iI ba), .ref qc])), (qc, .inl (cI, 175, .inl (aI (uI fc (ba * 7 + 0) st))))]) (wr := [(o, .inr (1, [.int (iI bb), .ref qd])), (qd, .inl (cI, 175, .inl (aI fd)))]) (ws' := [(h, .inr (1, [.int (iI ba), .ref qc])), (qc, .inl (cI, 175, .inl (aI (uI fc (ba * 7 + 0) st)))), (o, .inr (1, [.int (iI bb), .ref qd])), (qd, .inl (cI, 175, .inl (aI fd)))]) (va_runV (As := [.int (iI ba), .int (iI 0), .int (iI st)]) (rest := []) ⟨hx, hb, hml, hown, hts⟩ (c_X0_write l dC dI cI cO h qc ba fc ba 0 st H.size (by first | assumption | omega) (by first | assumption | omega)) (cwV 3 hts gX0_take_X0_write rfl rfl rfl (by decide +kernel) ⟨Nat.le_of_ble_eq_true rfl, Nat.le_of_ble_eq_true rfl⟩) (m_preV hZ hK hP hD [0, 1] rfl (by decide) (va_recv hK hP (ci := 1) (q0 := 0) rfl rfl)) rfl rfl hl.1 rfl (lv_room (Nat.le_of_ble_eq_true rfl)) dX0_take_146 ⟨Nat.le_of_ble_eq_true rfl, Nat.le_of_ble_eq_true rfl⟩) hP hD hS hA [0, 1] [2, 3] [2, 3, 0, 1] rfl rfl (by decide) (by decide) rfl (by decide) (fun H locs hP hD hS => ?_)
      refine mi_iconst hx hb dX0_take_149 ?_
      refine lv_istore (lv' := [(5, .int (iI 1)), (0, .ref h), (1, .int (iI st)), (2, .ref o), (3, .int (iI it)), (4, .int (iI (ba - 1)))]) hx hb dX0_take_150 hl (by decide) rfl (fun ls hl => ?_)
      have lp152 : ∀ (k : Nat) (j : Int), (7 - j).toNat < k → 1 ≤ j ∧ j ≤ 7 → ∀ (H : Heap) (locs : List Loc) (ls : Array Slot), va_P (dC, dI) vwCl [(h, .inr (1, [.int (iI ba), .ref qc])), (qc, .inl (cI, 175, .inl (aI (nwB fc ba st (srB fd it) j)))), (o, .inr (1, [.int (iI bb), .ref qd])), (qd, .inl (cI, 175, .inl (aI fd)))] H → va_D A [(h, .inr (1, [.int (iI ba), .ref qc])), (qc, .inl (cI, 175, .inl (aI (nwB fc ba st (srB fd it) j)))), (o, .inr (1, [.int (iI bb), .ref qd])), (qd, .inl (cI, 175, .inl (aI fd)))] → va_S A s.heap H locs → lv_has ls 6 [(0, .ref h), (1, .int (iI st)), (2, .ref o), (3, .int (iI it)), (4, .int (iI (ba - 1))), (5, .int (iI j))] → W p l e { frames := 1, cells := 0, slots := 0, locals := 24 } s m args below meth c H locs 0 0 Q (F0 m 152 ls []) := by
        intro k
        induction k with
        | zero => intro j hm; exact absurd hm (Nat.not_lt_zero _)
        | succ k ih152 =>
          intro j hm hj H locs ls hP hD hS hl
          refine lv_iload hx hb dX0_take_152 (lv_at hl 5 rfl) ?_
          refine mi_bipush hx hb dX0_take_154 (by decide) ?_
          refine mi_icmp_gt (tgt := 182) hx hb (by omega) (by decide) dX0_take_156 (by decide) (fun c_2 => ?_) (fun c_2 => ?_)
          · have e_3 : 7 = j := by omega
            subst e_3
            refine lv_aload_n hx hb dX0_take_182 rfl (lv_at hl 0 rfl) ?_
            refine lv_dup hx hb dX0_take_183 rfl ?_
            refine va_get (ci := 1) (v := .int (iI ba)) (C := RX0) (T := TX0) (N := 2) hx hb hts hi_X0 hown hK hP 0 rfl rfl 0 (by decide) hf15 (fun x9 h9 => u_same hs15 x9 h9) rfl dX0_take_184 ?_
            refine mi_iconst hx hb dX0_take_187 ?_
            refine mi_iadd hx hb dX0_take_188 ?_
            refine va_put (D := (dC, dI)) (ci := 1) (v := .int (iI (ba + 1))) (ty := .int) (C := RX0) (T := TX0) (N := 2) hx hb hts hi_X0 tyX0 tyX0_ok nmX0 hown hK hP hD hS 0 rfl rfl 0 (by decide) hf15 (fun x9 h9 => u_same hs15 x9 h9) rfl (by decide +kernel) rfl rfl (Nat.le_of_ble_eq_true rfl) dX0_take_189 (fun H locs hP hD hS => ?_)
            have hP : va_P (dC, dI) vwCl [(h, .inr (1, [.int (iI (ba + 1)), .ref qc])), (qc, .inl (cI, 175, .inl (aI (nwB fc ba st (srB fd it) 7)))), (o, .inr (1, [.int (iI bb), .ref qd])), (qd, .inl (cI, 175, .inl (aI fd)))] H := hP
            have hD : va_D A [(h, .inr (1, [.int (iI (ba + 1)), .ref qc])), (qc, .inl (cI, 175, .inl (aI (nwB fc ba st (srB fd it) 7)))), (o, .inr (1, [.int (iI bb), .ref qd])), (qd, .inl (cI, 175, .inl (aI fd)))] := hD
            exact mi_vret hx hb hQ hr hlocks hAe hsz hP hD hS rfl dX0_take_192
          · refine lv_aload_n hx hb dX0_take_159 rfl (lv_at hl 0 rfl) ?_
            refine lv_aload_n hx hb dX0_take_160 rfl (lv_at hl 0 rfl) ?_
            refine va_get (ci := 1) (v := .int (iI ba)) (C := RX0) (T := TX0) (N := 2) hx hb hts hi_X0 hown hK hP 0 rfl rfl 0 (by decide) hf15 (fun x9 h9 => u_same hs15 x9 h9) rfl dX0_take_161 ?_
            refine lv_iload hx hb dX0_take_164 (lv_at hl 5 rfl) ?_
            refine lv_aload_n hx hb dX0_take_166 rfl (lv_at hl 2 rfl) ?_
            refine lv_iload_n hx hb dX0_take_167 rfl (lv_at hl 3 rfl) ?_
            refine lv_iload hx hb dX0_take_168 (lv_at hl 5 rfl) ?_
            refine m_run (wc := [(o, .inr (1, [.int (iI bb), .ref qd])), (qd, .inl (cI, 175, .inl (aI fd)))]) (wc' := [(o, .inr (1, [.int (iI bb), .ref qd])), (qd, .inl (cI, 175, .inl (aI fd)))]) (wr := [(h, .inr (1, [.int (iI ba), .ref qc])), (qc, .inl (cI, 175, .inl (aI (nwB fc ba st (srB fd it) j))))]) (ws' := [(h, .inr (1, [.int (iI ba), .ref qc])), (qc, .inl (cI, 175, .inl (aI (nwB fc ba st (srB fd it) j)))), (o, .inr (1, [.int (iI bb), .ref qd])), (qd, .inl (cI, 175, .inl (aI fd)))]) (va_runU (As := [.int (iI it), .int (iI j)]) (rest := [.int (iI j), .int (iI ba), .ref h]) ⟨hx, hb, hml, hown, hts⟩ (c_X0_number l dC dI cI cO o qd bb fd it j H.size (by first | assumption | omega) (by first | assumption | omega)) (va_cwA 2 hts gX0_take_X0_number_u23X0 rfl rfl rfl (hZ _ (List.mem_of_getElem? (i := 0) rfl)) (by decide +kernel) ⟨Nat.le_of_ble_eq_true rfl, Nat.le_of_ble_eq_true rfl⟩) (m_preV hZ hK hP hD [2, 3] rfl (by decide) (va_recv hK hP (ci := 1) (q0 := 2) rfl rfl)) rfl rfl hl.1 rfl (lv_room (Nat.le_of_ble_eq_true rfl)) dX0_take_170 ⟨Nat.le_of_ble_eq_true rfl, Nat.le_of_ble_eq_true rfl⟩) hP hD hS hA [2, 3] [0, 1] [0, 1, 2, 3] rfl rfl (by decide) (by decide) rfl (by decide) (fun H locs hP hD hS => ?_)
            refine m_runv (wc := [(h, .inr (1, [.int (iI ba), .ref qc])), (qc, .inl (cI, 175, .inl (aI (nwB fc ba st (srB fd it) j))))]) (wc' := [(h, .inr (1, [.int (iI ba), .ref qc])), (qc, .inl (cI, 175, .inl (aI (uI (nwB fc ba st (srB fd it) j) (ba * 7 + j) (fd (it * 7 + j))))))]) (wr := [(o, .inr (1, [.int (iI bb), .ref qd])), (qd, .inl (cI, 175, .inl (aI fd)))]) (ws' := [(h, .inr (1, [.int (iI ba), .ref qc])), (qc, .inl (cI, 175, .inl (aI (uI (nwB fc ba st (srB fd it) j) (ba * 7 + j) (fd (it * 7 + j)))))), (o, .inr (1, [.int (iI bb), .ref qd])), (qd, .inl (cI, 175, .inl (aI fd)))]) (va_runV (As := [.int (iI ba), .int (iI j), .int (iI (fd (it * 7 + j)))]) (rest := []) ⟨hx, hb, hml, hown, hts⟩ (c_X0_write l dC dI cI cO h qc ba (nwB fc ba st (srB fd it) j) ba j (fd (it * 7 + j)) H.size (by first | assumption | omega) (by first | assumption | omega)) (cwV 3 hts gX0_take_X0_write rfl rfl rfl (by decide +kernel) ⟨Nat.le_of_ble_eq_true rfl, Nat.le_of_ble_eq_true rfl⟩) (m_preV hZ hK hP hD [0, 1] rfl (by decide) (va_recv hK hP (ci := 1) (q0 := 0) rfl rfl)) rfl rfl hl.1 rfl (lv_room (Nat.le_of_ble_eq_true rfl)) dX0_take_173 ⟨Nat.le_of_ble_eq_true rfl, Nat.le_of_ble_eq_true rfl⟩) hP hD hS hA [0, 1] [2, 3] [2, 3, 0, 1] rfl rfl (by decide) (by decide) rfl (by decide) (fun H locs hP hD hS => ?_)
            refine mi_iinc (b := j + 1) (lv' := [(5, .int (iI (j + 1))), (0, .ref h), (1, .int (iI st)), (2, .ref o), (3, .int (iI it)), (4, .int (iI (ba - 1)))]) hx hb dX0_take_176 hl (k := 5) rfl (by decide) (by omega) rfl (fun ls hl => ?_)
            refine lv_goto (tgt := 152) hx hb dX0_take_179 (by decide) ?_
            have hw_4 : [(h, .inr (1, [.int (iI ba), .ref qc])), (qc, .inl (cI, 175, .inl (aI (uI (nwB fc ba st (srB fd it) j) (ba * 7 + j) (fd (it * 7 + j)))))), (o, .inr (1, [.int (iI bb), .ref qd])), (qd, .inl (cI, 175, .inl (aI fd)))] = ([(h, .inr (1, [.int (iI ba), .ref qc])), (qc, .inl (cI, 175, .inl (aI (nwB fc ba st (srB fd it) (j + 1))))), (o, .inr (1, [.int (iI bb), .ref qd])), (qd, .inl (cI, 175, .inl (aI fd)))] : va_W) := by rw [show fd (it * 7 + j) = srB fd it j from rfl, nwB_s fc ba st (srB fd it) (i := j) (by omega)]
            rw [hw_4] at hP hD
            exact ih152 (j + 1) (by omega) (by first | assumption | omega) _ _ _ hP hD hS (lv_sub hl [1, 2, 3, 4, 5, 0] rfl)
      have hw_5 : [(h, .inr (1, [.int (iI ba), .ref qc])), (qc, .inl (cI, 175, .inl (aI (uI fc (ba * 7 + 0) st)))), (o, .inr (1, [.int (iI bb), .ref qd])), (qd, .inl (cI, 175, .inl (aI fd)))] = ([(h, .inr (1, [.int (iI ba), .ref qc])), (qc, .inl (cI, 175, .inl (aI (nwB fc ba st (srB fd it) 1)))), (o, .inr (1, [.int (iI bb), .ref qd])), (qd, .inl (cI, 175, .inl (aI fd)))] : va_W) := by rw [nwB_1 fc ba st (srB fd it)]
      rw [hw_5] at hP hD
      exact lp152 _ 1 (Nat.lt_succ_self _) (by first | assumption | omega) _ _ _ hP hD hS (lv_sub hl [1, 2, 3, 4, 5, 0] rfl)
  refine mi_if_lt (tgt := 130) hx hb (by omega) dX0_take_10 (by decide) (fun c_6 => ?_) (fun c_6 => ?_)
  · exact jn130 ()  _ _ _ hP hD hS (lv_sub hl [1, 2, 3, 4, 0] rfl)
  · refine lv_aload_n hx hb dX0_take_13 rfl (lv_at hl 1 rfl) ?_
    refine lv_iload hx hb dX0_take_14 (lv_at hl 0 rfl) ?_
    refine mi_iconst hx hb dX0_take_16 ?_
    refine m_run (wc := [(h, .inr (1, [.int (iI ba), .ref qc])), (qc, .inl (cI, 175, .inl (aI fc)))]) (wc' := [(h, .inr (1, [.int (iI ba), .ref qc])), (qc, .inl (cI, 175, .inl (aI fc)))]) (wr := [(o, .inr (1, [.int (iI bb), .ref qd])), (qd, .inl (cI, 175, .inl (aI fd)))]) (ws' := [(h, .inr (1, [.int (iI ba), .ref qc])), (qc, .inl (cI, 175, .inl (aI fc))), (o, .inr (1, [.int (iI bb), .ref qd])), (qd, .inl (cI, 175, .inl (aI fd)))]) (va_runV (As := [.int (iI (ba - 1)), .int (iI 0)]) (rest := []) ⟨hx, hb, hml, hown, hts⟩ (c_X0_number l dC dI cI cO h qc ba fc (ba - 1) 0 H.size (by first | assumption | omega) (by first | assumption | omega)) (cwV 2 hts gX0_take_X0_number rfl rfl rfl (by decide +kernel) ⟨Nat.le_of_ble_eq_true rfl, Nat.le_of_ble_eq_true rfl⟩) (m_preV hZ hK hP hD [0, 1] rfl (by decide) (va_recv hK hP (ci := 1) (q0 := 0) rfl rfl)) rfl rfl hl.1 rfl (lv_room (Nat.le_of_ble_eq_true rfl)) dX0_take_17 ⟨Nat.le_of_ble_eq_true rfl, Nat.le_of_ble_eq_true rfl⟩) hP hD hS hA [0, 1] [2, 3] [2, 3, 0, 1] rfl rfl (by decide) (by decide) rfl (by decide) (fun H locs hP hD hS => ?_)
    refine lv_iload_n hx hb dX0_take_20 rfl (lv_at hl 2 rfl) ?_
    refine mi_icmp_ne (tgt := 130) hx hb (hfc _) hst dX0_take_21 (by decide) (fun c_7 => ?_) (fun c_7 => ?_)
    · exact jn130 ()  _ _ _ hP hD hS (lv_sub hl [1, 2, 3, 4, 0] rfl)
    · exfalso; exact hs (by omega) c_7

theorem c_X0_takeB (l : Launch) (dC : Nat → ClassId) (dI : Nat → Nat → Nat) (cI cO : ClassId) (h : Nat) (qc : Nat) (ba : Int) (fc : fI) (st : Int) (it : Int) (o : Nat) (qd : Nat) (bb : Int) (fd : fI) (sz : Nat) (hit : 0 ≤ it ∧ it ≤ 24) (hfc : ∀ j, rI (fc j)) (hst : rI st) (hba : 0 ≤ ba ∧ ba ≤ 24) (hfd : ∀ j, rI (fd j)) : Met l yX0_take wsX0_take ({ frames := 1, cells := 0, slots := 0, locals := 24 }) (mPc (dC, dI) [(cI, .int), (cO, .object "java/lang/Object")] [.ref h, .int (iI st), .ref o, .int (iI it)] sz [(h, .inr (1, [.int (iI ba), .ref qc])), (qc, .inl (cI, 175, .inl (aI fc))), (o, .inr (1, [.int (iI bb), .ref qd])), (qd, .inl (cI, 175, .inl (aI fd)))]) (mQv (dC, dI) [(h, .inr (1, [.int (iI ba), .ref qc])), (qc, .inl (cI, 175, .inl (aI fc))), (o, .inr (1, [.int (iI bb), .ref qd])), (qd, .inl (cI, 175, .inl (aI fd)))] [(h, .inr (1, [.int (iI ((bTake (ba, fc) st (srB fd it)).1)), .ref qc])), (qc, .inl (cI, 175, .inl (aI ((bTake (ba, fc) st (srB fd it)).2)))), (o, .inr (1, [.int (iI bb), .ref qd])), (qd, .inl (cI, 175, .inl (aI fd)))] sz) 0 0 (va_A [(h, .inr (1, [.int (iI ba), .ref qc])), (qc, .inl (cI, 175, .inl (aI fc))), (o, .inr (1, [.int (iI bb), .ref qd])), (qd, .inl (cI, 175, .inl (aI fd)))] sz) := by
  by_cases h9 : 1 ≤ ba ∧ fc ((ba - 1) * 7 + 0) = st
  · have e9 : bTake (ba, fc) st (srB fd it) = (ba, tkM fc (ba - 1) (srB fd it)) := if_pos h9
    rw [e9]
    exact c_X0_takeB_m l dC dI cI cO h qc ba fc st it o qd bb fd sz hit hfc hst (by omega) h9.2 hfd
  · have e9 : bTake (ba, fc) st (srB fd it) = (ba + 1, nwB fc ba st (srB fd it) 7) := if_neg h9
    rw [e9]
    exact c_X0_takeB_n l dC dI cI cO h qc ba fc st it o qd bb fd sz hit hfc hst (by omega) (fun a b => h9 ⟨a, b⟩)
