set_option maxRecDepth 100000 in
set_option maxHeartbeats 4000000 in
theorem c_X4_number_t (l : Launch) (dC : Nat → ClassId) (dI : Nat → Nat → Nat) (cI cO : ClassId) (h : Nat) (qt : Nat) (qv : Nat) (qs : Nat) (am : Int) (tt : fI) (vv : fI) (zz : fI) (sb : Int) (sp : Int) (gs : Int) (i : Int) (sz : Nat) (hi : 0 ≤ i ∧ i < 160) : Met l yX4_number wsX4_number ({ frames := 0, cells := 0, slots := 0, locals := 0 }) (mPc (dC, dI) [(cI, .int), (cO, .object "java/lang/Object")] [.ref h, .int (iI i), .int (iI 0)] sz [(h, .inr (4, [.int (iI am), .ref qt, .ref qv, .ref qs, .int (iI sb), .int (iI sp), .int (iI gs)])), (qt, .inl (cI, 160, .inl (aI tt))), (qv, .inl (cI, 160, .inl (aI vv))), (qs, .inl (cI, 9, .inl (aI zz)))]) (mQi (dC, dI) [(h, .inr (4, [.int (iI am), .ref qt, .ref qv, .ref qs, .int (iI sb), .int (iI sp), .int (iI gs)])), (qt, .inl (cI, 160, .inl (aI tt))), (qv, .inl (cI, 160, .inl (aI vv))), (qs, .inl (cI, 9, .inl (aI zz)))] [(h, .inr (4, [.int (iI am), .ref qt, .ref qv, .ref qs, .int (iI sb), .int (iI sp), .int (iI gs)])), (qt, .inl (cI, 160, .inl (aI tt))), (qv, .inl (cI, 160, .inl (aI vv))), (qs, .inl (cI, 9, .inl (aI zz)))] sz (tt i)) 0 0 (va_A [(h, .inr (4, [.int (iI am), .ref qt, .ref qv, .ref qs, .int (iI sb), .int (iI sp), .int (iI gs)])), (qt, .inl (cI, 160, .inl (aI tt))), (qv, .inl (cI, 160, .inl (aI vv))), (qs, .inl (cI, 9, .inl (aI zz)))] sz) := by
  refine mMet (cc := cX4_number) (maxL := 3) (ret := (some .int)) (by decide) rfl (Nat.le_of_ble_eq_true rfl) ?_
  intro p e s m args below meth c A ls hx hb hr hts hown hlocks hin hml hAe hsz hA hD H hHe hP hK hZ hS hl Q hQ
  have hl : lv_has ls 3 [(0, .ref h), (1, .int (iI i)), (2, .int (iI 0))] := hl
  have hf11 := hts (.fieldLink RX4 11 "MeridianSeries$Points" "times" "[I") (by decide +kernel)
  have hi_X4 : ∀ w ∈ u_ws RX4 TX4 7, w ∈ wsX4_number := by decide +kernel
  have hf15 := hts (.fieldLink RX4 15 "MeridianSeries$Points" "values" "[I") (by decide +kernel)
  refine lv_iload_n hx hb dX4_number_0 rfl (lv_at hl 1 rfl) ?_
  refine mi_if_lt (tgt := 22) hx hb (by omega) dX4_number_1 (by decide) (fun c_1 => ?_) (fun c_1 => ?_)
  · exfalso; omega
  · refine lv_iload_n hx hb dX4_number_4 rfl (lv_at hl 1 rfl) ?_
    refine lv_aload_n hx hb dX4_number_5 rfl (lv_at hl 0 rfl) ?_
    refine va_get (ci := 4) (v := .ref qt) (C := RX4) (T := TX4) (N := 7) hx hb hts hi_X4 hown hK hP 0 rfl rfl 1 (by decide) hf11 (fun _ h9 => h9) rfl dX4_number_6 ?_
    refine mi_alen hx hb hK hP 1 0 rfl rfl dX4_number_9 ?_
    have eln : ((160 : Nat) : Int) = 160 := rfl
    rw [eln]
    refine mi_icmp_ge (tgt := 22) hx hb (by omega) (by decide) dX4_number_10 (by decide) (fun c_2 => ?_) (fun c_2 => ?_)
    · exfalso; omega
    · refine lv_iload_n hx hb dX4_number_13 rfl (lv_at hl 1 rfl) ?_
      refine lv_aload_n hx hb dX4_number_14 rfl (lv_at hl 0 rfl) ?_
      refine va_get (ci := 4) (v := .ref qv) (C := RX4) (T := TX4) (N := 7) hx hb hts hi_X4 hown hK hP 0 rfl rfl 2 (by decide) hf15 (fun _ h9 => h9) rfl dX4_number_15 ?_
      refine mi_alen hx hb hK hP 2 0 rfl rfl dX4_number_18 ?_
      have eln : ((160 : Nat) : Int) = 160 := rfl
      rw [eln]
      refine mi_icmp_lt (tgt := 24) hx hb (by omega) (by decide) dX4_number_19 (by decide) (fun c_3 => ?_) (fun c_3 => ?_)
      · refine lv_iload_n hx hb dX4_number_24 rfl (lv_at hl 2 rfl) ?_
        refine mi_lsw (off := 27) (tgt := 52) hx hb dX4_number_25 (by decide) (by decide) rfl (by decide) ?_
        refine lv_aload_n hx hb dX4_number_52 rfl (lv_at hl 0 rfl) ?_
        refine va_get (ci := 4) (v := .ref qt) (C := RX4) (T := TX4) (N := 7) hx hb hts hi_X4 hown hK hP 0 rfl rfl 1 (by decide) hf11 (fun _ h9 => h9) rfl dX4_number_53 ?_
        refine lv_iload_n hx hb dX4_number_56 rfl (lv_at hl 1 rfl) ?_
        refine mi_iald hx hb hK hP 1 0 rfl rfl (i := i) (by omega) (by decide) dX4_number_57 ?_
        exact mi_iret hx hb hQ hr hlocks hAe hsz hP hD hS (by first | rfl | omega | (split <;> omega)) rfl dX4_number_58
      · exfalso; omega

set_option maxRecDepth 100000 in
set_option maxHeartbeats 4000000 in
theorem c_X4_number_1 (l : Launch) (dC : Nat → ClassId) (dI : Nat → Nat → Nat) (cI cO : ClassId) (h : Nat) (qt : Nat) (qv : Nat) (qs : Nat) (am : Int) (tt : fI) (vv : fI) (zz : fI) (sb : Int) (sp : Int) (gs : Int) (i : Int) (sz : Nat) (hi : 0 ≤ i ∧ i < 160) : Met l yX4_number wsX4_number ({ frames := 0, cells := 0, slots := 0, locals := 0 }) (mPc (dC, dI) [(cI, .int), (cO, .object "java/lang/Object")] [.ref h, .int (iI i), .int (iI 1)] sz [(h, .inr (4, [.int (iI am), .ref qt, .ref qv, .ref qs, .int (iI sb), .int (iI sp), .int (iI gs)])), (qt, .inl (cI, 160, .inl (aI tt))), (qv, .inl (cI, 160, .inl (aI vv))), (qs, .inl (cI, 9, .inl (aI zz)))]) (mQi (dC, dI) [(h, .inr (4, [.int (iI am), .ref qt, .ref qv, .ref qs, .int (iI sb), .int (iI sp), .int (iI gs)])), (qt, .inl (cI, 160, .inl (aI tt))), (qv, .inl (cI, 160, .inl (aI vv))), (qs, .inl (cI, 9, .inl (aI zz)))] [(h, .inr (4, [.int (iI am), .ref qt, .ref qv, .ref qs, .int (iI sb), .int (iI sp), .int (iI gs)])), (qt, .inl (cI, 160, .inl (aI tt))), (qv, .inl (cI, 160, .inl (aI vv))), (qs, .inl (cI, 9, .inl (aI zz)))] sz 1) 0 0 (va_A [(h, .inr (4, [.int (iI am), .ref qt, .ref qv, .ref qs, .int (iI sb), .int (iI sp), .int (iI gs)])), (qt, .inl (cI, 160, .inl (aI tt))), (qv, .inl (cI, 160, .inl (aI vv))), (qs, .inl (cI, 9, .inl (aI zz)))] sz) := by
  refine mMet (cc := cX4_number) (maxL := 3) (ret := (some .int)) (by decide) rfl (Nat.le_of_ble_eq_true rfl) ?_
  intro p e s m args below meth c A ls hx hb hr hts hown hlocks hin hml hAe hsz hA hD H hHe hP hK hZ hS hl Q hQ
  have hl : lv_has ls 3 [(0, .ref h), (1, .int (iI i)), (2, .int (iI 1))] := hl
  have hf11 := hts (.fieldLink RX4 11 "MeridianSeries$Points" "times" "[I") (by decide +kernel)
  have hi_X4 : ∀ w ∈ u_ws RX4 TX4 7, w ∈ wsX4_number := by decide +kernel
  have hf15 := hts (.fieldLink RX4 15 "MeridianSeries$Points" "values" "[I") (by decide +kernel)
  refine lv_iload_n hx hb dX4_number_0 rfl (lv_at hl 1 rfl) ?_
  refine mi_if_lt (tgt := 22) hx hb (by omega) dX4_number_1 (by decide) (fun c_1 => ?_) (fun c_1 => ?_)
  · exfalso; omega
  · refine lv_iload_n hx hb dX4_number_4 rfl (lv_at hl 1 rfl) ?_
    refine lv_aload_n hx hb dX4_number_5 rfl (lv_at hl 0 rfl) ?_
    refine va_get (ci := 4) (v := .ref qt) (C := RX4) (T := TX4) (N := 7) hx hb hts hi_X4 hown hK hP 0 rfl rfl 1 (by decide) hf11 (fun _ h9 => h9) rfl dX4_number_6 ?_
    refine mi_alen hx hb hK hP 1 0 rfl rfl dX4_number_9 ?_
    have eln : ((160 : Nat) : Int) = 160 := rfl
    rw [eln]
    refine mi_icmp_ge (tgt := 22) hx hb (by omega) (by decide) dX4_number_10 (by decide) (fun c_2 => ?_) (fun c_2 => ?_)
    · exfalso; omega
    · refine lv_iload_n hx hb dX4_number_13 rfl (lv_at hl 1 rfl) ?_
      refine lv_aload_n hx hb dX4_number_14 rfl (lv_at hl 0 rfl) ?_
      refine va_get (ci := 4) (v := .ref qv) (C := RX4) (T := TX4) (N := 7) hx hb hts hi_X4 hown hK hP 0 rfl rfl 2 (by decide) hf15 (fun _ h9 => h9) rfl dX4_number_15 ?_
      refine mi_alen hx hb hK hP 2 0 rfl rfl dX4_number_18 ?_
      have eln : ((160 : Nat) : Int) = 160 := rfl
      rw [eln]
      refine mi_icmp_lt (tgt := 24) hx hb (by omega) (by decide) dX4_number_19 (by decide) (fun c_3 => ?_) (fun c_3 => ?_)
      · refine lv_iload_n hx hb dX4_number_24 rfl (lv_at hl 2 rfl) ?_
        refine mi_lsw (off := 34) (tgt := 59) hx hb dX4_number_25 (by decide) (by decide) rfl (by decide) ?_
        refine mi_iconst hx hb dX4_number_59 ?_
        exact mi_iret hx hb hQ hr hlocks hAe hsz hP hD hS (by first | rfl | omega | (split <;> omega)) rfl dX4_number_60
      · exfalso; omega

set_option maxRecDepth 100000 in
set_option maxHeartbeats 4000000 in
theorem c_X4_number_v (l : Launch) (dC : Nat → ClassId) (dI : Nat → Nat → Nat) (cI cO : ClassId) (h : Nat) (qt : Nat) (qv : Nat) (qs : Nat) (am : Int) (tt : fI) (vv : fI) (zz : fI) (sb : Int) (sp : Int) (gs : Int) (i : Int) (w : Int) (sz : Nat) (hi : 0 ≤ i ∧ i < 160) (hw : 2 ≤ w ∧ w ≤ 6) : Met l yX4_number wsX4_number ({ frames := 0, cells := 0, slots := 0, locals := 0 }) (mPc (dC, dI) [(cI, .int), (cO, .object "java/lang/Object")] [.ref h, .int (iI i), .int (iI w)] sz [(h, .inr (4, [.int (iI am), .ref qt, .ref qv, .ref qs, .int (iI sb), .int (iI sp), .int (iI gs)])), (qt, .inl (cI, 160, .inl (aI tt))), (qv, .inl (cI, 160, .inl (aI vv))), (qs, .inl (cI, 9, .inl (aI zz)))]) (mQi (dC, dI) [(h, .inr (4, [.int (iI am), .ref qt, .ref qv, .ref qs, .int (iI sb), .int (iI sp), .int (iI gs)])), (qt, .inl (cI, 160, .inl (aI tt))), (qv, .inl (cI, 160, .inl (aI vv))), (qs, .inl (cI, 9, .inl (aI zz)))] [(h, .inr (4, [.int (iI am), .ref qt, .ref qv, .ref qs, .int (iI sb), .int (iI sp), .int (iI gs)])), (qt, .inl (cI, 160, .inl (aI tt))), (qv, .inl (cI, 160, .inl (aI vv))), (qs, .inl (cI, 9, .inl (aI zz)))] sz (vv i)) 0 0 (va_A [(h, .inr (4, [.int (iI am), .ref qt, .ref qv, .ref qs, .int (iI sb), .int (iI sp), .int (iI gs)])), (qt, .inl (cI, 160, .inl (aI tt))), (qv, .inl (cI, 160, .inl (aI vv))), (qs, .inl (cI, 9, .inl (aI zz)))] sz) := by
  refine mMet (cc := cX4_number) (maxL := 3) (ret := (some .int)) (by decide) rfl (Nat.le_of_ble_eq_true rfl) ?_
  intro p e s m args below meth c A ls hx hb hr hts hown hlocks hin hml hAe hsz hA hD H hHe hP hK hZ hS hl Q hQ
  have hl : lv_has ls 3 [(0, .ref h), (1, .int (iI i)), (2, .int (iI w))] := hl
  have hf11 := hts (.fieldLink RX4 11 "MeridianSeries$Points" "times" "[I") (by decide +kernel)
  have hi_X4 : ∀ w ∈ u_ws RX4 TX4 7, w ∈ wsX4_number := by decide +kernel
  have hf15 := hts (.fieldLink RX4 15 "MeridianSeries$Points" "values" "[I") (by decide +kernel)
  refine lv_iload_n hx hb dX4_number_0 rfl (lv_at hl 1 rfl) ?_
  refine mi_if_lt (tgt := 22) hx hb (by omega) dX4_number_1 (by decide) (fun c_1 => ?_) (fun c_1 => ?_)
  · exfalso; omega
  · refine lv_iload_n hx hb dX4_number_4 rfl (lv_at hl 1 rfl) ?_
    refine lv_aload_n hx hb dX4_number_5 rfl (lv_at hl 0 rfl) ?_
    refine va_get (ci := 4) (v := .ref qt) (C := RX4) (T := TX4) (N := 7) hx hb hts hi_X4 hown hK hP 0 rfl rfl 1 (by decide) hf11 (fun _ h9 => h9) rfl dX4_number_6 ?_
    refine mi_alen hx hb hK hP 1 0 rfl rfl dX4_number_9 ?_
    have eln : ((160 : Nat) : Int) = 160 := rfl
    rw [eln]
    refine mi_icmp_ge (tgt := 22) hx hb (by omega) (by decide) dX4_number_10 (by decide) (fun c_2 => ?_) (fun c_2 => ?_)
    · exfalso; omega
    · refine lv_iload_n hx hb dX4_number_13 rfl (lv_at hl 1 rfl) ?_
      refine lv_aload_n hx hb dX4_number_14 rfl (lv_at hl 0 rfl) ?_
      refine va_get (ci := 4) (v := .ref qv) (C := RX4) (T := TX4) (N := 7) hx hb hts hi_X4 hown hK hP 0 rfl rfl 2 (by decide) hf15 (fun _ h9 => h9) rfl dX4_number_15 ?_
      refine mi_alen hx hb hK hP 2 0 rfl rfl dX4_number_18 ?_
      have eln : ((160 : Nat) : Int) = 160 := rfl
      rw [eln]
      refine mi_icmp_lt (tgt := 24) hx hb (by omega) (by decide) dX4_number_19 (by decide) (fun c_3 => ?_) (fun c_3 => ?_)
      · refine lv_iload_n hx hb dX4_number_24 rfl (lv_at hl 2 rfl) ?_
        refine mi_lsw (off := 36) (tgt := 61) hx hb dX4_number_25 (by omega) (by decide) (by show (if (0 : Int) = w then (27 : Int) else if (1 : Int) = w then (34 : Int) else (36 : Int)) = 36; rw [if_neg (by omega), if_neg (by omega)]) (by decide) ?_
        refine lv_aload_n hx hb dX4_number_61 rfl (lv_at hl 0 rfl) ?_
        refine va_get (ci := 4) (v := .ref qv) (C := RX4) (T := TX4) (N := 7) hx hb hts hi_X4 hown hK hP 0 rfl rfl 2 (by decide) hf15 (fun _ h9 => h9) rfl dX4_number_62 ?_
        refine lv_iload_n hx hb dX4_number_65 rfl (lv_at hl 1 rfl) ?_
        refine mi_iald hx hb hK hP 2 0 rfl rfl (i := i) (by omega) (by decide) dX4_number_66 ?_
        exact mi_iret hx hb hQ hr hlocks hAe hsz hP hD hS (by first | rfl | omega | (split <;> omega)) rfl dX4_number_67
      · exfalso; omega

set_option maxRecDepth 100000 in
set_option maxHeartbeats 4000000 in
theorem c_X4_blockCount (l : Launch) (dC : Nat → ClassId) (dI : Nat → Nat → Nat) (cI cO : ClassId) (h : Nat) (qt : Nat) (qv : Nat) (qs : Nat) (am : Int) (tt : fI) (vv : fI) (zz : fI) (sb : Int) (sp : Int) (gs : Int) (sz : Nat) : Met l yX4_blockCount wsX4_blockCount ({ frames := 0, cells := 0, slots := 0, locals := 0 }) (mPc (dC, dI) [(cI, .int), (cO, .object "java/lang/Object")] [.ref h] sz [(h, .inr (4, [.int (iI am), .ref qt, .ref qv, .ref qs, .int (iI sb), .int (iI sp), .int (iI gs)])), (qt, .inl (cI, 160, .inl (aI tt))), (qv, .inl (cI, 160, .inl (aI vv))), (qs, .inl (cI, 9, .inl (aI zz)))]) (mQi (dC, dI) [(h, .inr (4, [.int (iI am), .ref qt, .ref qv, .ref qs, .int (iI sb), .int (iI sp), .int (iI gs)])), (qt, .inl (cI, 160, .inl (aI tt))), (qv, .inl (cI, 160, .inl (aI vv))), (qs, .inl (cI, 9, .inl (aI zz)))] [(h, .inr (4, [.int (iI am), .ref qt, .ref qv, .ref qs, .int (iI sb), .int (iI sp), .int (iI gs)])), (qt, .inl (cI, 160, .inl (aI tt))), (qv, .inl (cI, 160, .inl (aI vv))), (qs, .inl (cI, 9, .inl (aI zz)))] sz (sb + 1)) 0 0 (va_A [(h, .inr (4, [.int (iI am), .ref qt, .ref qv, .ref qs, .int (iI sb), .int (iI sp), .int (iI gs)])), (qt, .inl (cI, 160, .inl (aI tt))), (qv, .inl (cI, 160, .inl (aI vv))), (qs, .inl (cI, 9, .inl (aI zz)))] sz) := by
  refine mMet (cc := cX4_blockCount) (maxL := 1) (ret := (some .int)) (by decide) rfl (Nat.le_of_ble_eq_true rfl) ?_
  intro p e s m args below meth c A ls hx hb hr hts hown hlocks hin hml hAe hsz hA hD H hHe hP hK hZ hS hl Q hQ
  have hl : lv_has ls 1 [(0, .ref h)] := hl
  have hf21 := hts (.fieldLink RX4 21 "MeridianSeries$Points" "sealedBlocks" "I") (by decide +kernel)
  have hi_X4 : ∀ w ∈ u_ws RX4 TX4 7, w ∈ wsX4_blockCount := by decide +kernel
  refine lv_aload_n hx hb dX4_blockCount_0 rfl (lv_at hl 0 rfl) ?_
  refine va_get (ci := 4) (v := .int (iI sb)) (C := RX4) (T := TX4) (N := 7) hx hb hts hi_X4 hown hK hP 0 rfl rfl 4 (by decide) hf21 (fun _ h9 => h9) rfl dX4_blockCount_1 ?_
  refine mi_iconst hx hb dX4_blockCount_4 ?_
  refine mi_iadd hx hb dX4_blockCount_5 ?_
  exact mi_iret hx hb hQ hr hlocks hAe hsz hP hD hS (by first | rfl | omega | (split <;> omega)) rfl dX4_blockCount_6

set_option maxRecDepth 100000 in
set_option maxHeartbeats 4000000 in
theorem c_X4_openSize (l : Launch) (dC : Nat → ClassId) (dI : Nat → Nat → Nat) (cI cO : ClassId) (h : Nat) (qt : Nat) (qv : Nat) (qs : Nat) (am : Int) (tt : fI) (vv : fI) (zz : fI) (sb : Int) (sp : Int) (gs : Int) (sz : Nat) : Met l yX4_openSize wsX4_openSize ({ frames := 0, cells := 0, slots := 0, locals := 0 }) (mPc (dC, dI) [(cI, .int), (cO, .object "java/lang/Object")] [.ref h] sz [(h, .inr (4, [.int (iI am), .ref qt, .ref qv, .ref qs, .int (iI sb), .int (iI sp), .int (iI gs)])), (qt, .inl (cI, 160, .inl (aI tt))), (qv, .inl (cI, 160, .inl (aI vv))), (qs, .inl (cI, 9, .inl (aI zz)))]) (mQi (dC, dI) [(h, .inr (4, [.int (iI am), .ref qt, .ref qv, .ref qs, .int (iI sb), .int (iI sp), .int (iI gs)])), (qt, .inl (cI, 160, .inl (aI tt))), (qv, .inl (cI, 160, .inl (aI vv))), (qs, .inl (cI, 9, .inl (aI zz)))] [(h, .inr (4, [.int (iI am), .ref qt, .ref qv, .ref qs, .int (iI sb), .int (iI sp), .int (iI gs)])), (qt, .inl (cI, 160, .inl (aI tt))), (qv, .inl (cI, 160, .inl (aI vv))), (qs, .inl (cI, 9, .inl (aI zz)))] sz (am - sp)) 0 0 (va_A [(h, .inr (4, [.int (iI am), .ref qt, .ref qv, .ref qs, .int (iI sb), .int (iI sp), .int (iI gs)])), (qt, .inl (cI, 160, .inl (aI tt))), (qv, .inl (cI, 160, .inl (aI vv))), (qs, .inl (cI, 9, .inl (aI zz)))] sz) := by
  refine mMet (cc := cX4_openSize) (maxL := 1) (ret := (some .int)) (by decide) rfl (Nat.le_of_ble_eq_true rfl) ?_
  intro p e s m args below meth c A ls hx hb hr hts hown hlocks hin hml hAe hsz hA hD H hHe hP hK hZ hS hl Q hQ
  have hl : lv_has ls 1 [(0, .ref h)] := hl
  have hf31 := hts (.fieldLink RX4 31 "MeridianSeries$Points" "amount" "I") (by decide +kernel)
  have hs31 := hts (.sameField "MeridianSeries$Points" "MeridianSeries$Items" "amount" "I") (by decide +kernel)
  have hi_X4 : ∀ w ∈ u_ws RX4 TX4 7, w ∈ wsX4_openSize := by decide +kernel
  have hf25 := hts (.fieldLink RX4 25 "MeridianSeries$Points" "sealedPoints" "I") (by decide +kernel)
  refine lv_aload_n hx hb dX4_openSize_0 rfl (lv_at hl 0 rfl) ?_
  refine va_get (ci := 4) (v := .int (iI am)) (C := RX4) (T := TX4) (N := 7) hx hb hts hi_X4 hown hK hP 0 rfl rfl 0 (by decide) hf31 (fun x9 h9 => u_same hs31 x9 h9) rfl dX4_openSize_1 ?_
  refine lv_aload_n hx hb dX4_openSize_4 rfl (lv_at hl 0 rfl) ?_
  refine va_get (ci := 4) (v := .int (iI sp)) (C := RX4) (T := TX4) (N := 7) hx hb hts hi_X4 hown hK hP 0 rfl rfl 5 (by decide) hf25 (fun _ h9 => h9) rfl dX4_openSize_5 ?_
  refine mi_isub hx hb dX4_openSize_8 ?_
  exact mi_iret hx hb hQ hr hlocks hAe hsz hP hD hS (by first | rfl | omega | (split <;> omega)) rfl dX4_openSize_9

set_option maxRecDepth 100000 in
set_option maxHeartbeats 4000000 in
theorem c_X4_isLate (l : Launch) (dC : Nat → ClassId) (dI : Nat → Nat → Nat) (cI cO : ClassId) (h : Nat) (qt : Nat) (qv : Nat) (qs : Nat) (am : Int) (tt : fI) (vv : fI) (zz : fI) (sb : Int) (sp : Int) (gs : Int) (t : Int) (sz : Nat) (hgs : -1 ≤ gs ∧ gs ≤ 99999) (ht : 0 ≤ t ∧ t ≤ 99999) : Met l yX4_isLate wsX4_isLate ({ frames := 0, cells := 0, slots := 0, locals := 0 }) (mPc (dC, dI) [(cI, .int), (cO, .object "java/lang/Object")] [.ref h, .int (iI t)] sz [(h, .inr (4, [.int (iI am), .ref qt, .ref qv, .ref qs, .int (iI sb), .int (iI sp), .int (iI gs)])), (qt, .inl (cI, 160, .inl (aI tt))), (qv, .inl (cI, 160, .inl (aI vv))), (qs, .inl (cI, 9, .inl (aI zz)))]) (mQi (dC, dI) [(h, .inr (4, [.int (iI am), .ref qt, .ref qv, .ref qs, .int (iI sb), .int (iI sp), .int (iI gs)])), (qt, .inl (cI, 160, .inl (aI tt))), (qv, .inl (cI, 160, .inl (aI vv))), (qs, .inl (cI, 9, .inl (aI zz)))] [(h, .inr (4, [.int (iI am), .ref qt, .ref qv, .ref qs, .int (iI sb), .int (iI sp), .int (iI gs)])), (qt, .inl (cI, 160, .inl (aI tt))), (qv, .inl (cI, 160, .inl (aI vv))), (qs, .inl (cI, 9, .inl (aI zz)))] sz (if t ≤ gs then 1 else 0)) 0 0 (va_A [(h, .inr (4, [.int (iI am), .ref qt, .ref qv, .ref qs, .int (iI sb), .int (iI sp), .int (iI gs)])), (qt, .inl (cI, 160, .inl (aI tt))), (qv, .inl (cI, 160, .inl (aI vv))), (qs, .inl (cI, 9, .inl (aI zz)))] sz) := by
  refine mMet (cc := cX4_isLate) (maxL := 2) (ret := (some .boolean)) (by decide) rfl (Nat.le_of_ble_eq_true rfl) ?_
  intro p e s m args below meth c A ls hx hb hr hts hown hlocks hin hml hAe hsz hA hD H hHe hP hK hZ hS hl Q hQ
  have hl : lv_has ls 2 [(0, .ref h), (1, .int (iI t))] := hl
  have hf28 := hts (.fieldLink RX4 28 "MeridianSeries$Points" "greatestSealedTime" "I") (by decide +kernel)
  have hi_X4 : ∀ w ∈ u_ws RX4 TX4 7, w ∈ wsX4_isLate := by decide +kernel
  refine lv_iload_n hx hb dX4_isLate_0 rfl (lv_at hl 1 rfl) ?_
  refine lv_aload_n hx hb dX4_isLate_1 rfl (lv_at hl 0 rfl) ?_
  refine va_get (ci := 4) (v := .int (iI gs)) (C := RX4) (T := TX4) (N := 7) hx hb hts hi_X4 hown hK hP 0 rfl rfl 6 (by decide) hf28 (fun _ h9 => h9) rfl dX4_isLate_2 ?_
  refine mi_icmp_gt (tgt := 12) hx hb (by omega) (by omega) dX4_isLate_5 (by decide) (fun c_1 => ?_) (fun c_1 => ?_)
  · refine mi_iconst hx hb dX4_isLate_12 ?_
    exact mi_zret hx hb hQ hr hlocks hAe hsz hP hD hS (by decide) (by first | rfl | omega | (split <;> omega)) rfl dX4_isLate_13
  · refine mi_iconst hx hb dX4_isLate_8 ?_
    refine lv_goto (tgt := 13) hx hb dX4_isLate_9 (by decide) ?_
    exact mi_zret hx hb hQ hr hlocks hAe hsz hP hD hS (by decide) (by first | rfl | omega | (split <;> omega)) rfl dX4_isLate_13

set_option maxRecDepth 100000 in
set_option maxHeartbeats 4000000 in
theorem c_X4_hasTooManySealed (l : Launch) (dC : Nat → ClassId) (dI : Nat → Nat → Nat) (cI cO : ClassId) (h : Nat) (qt : Nat) (qv : Nat) (qs : Nat) (am : Int) (tt : fI) (vv : fI) (zz : fI) (sb : Int) (sp : Int) (gs : Int) (sz : Nat) (hsb : 0 ≤ sb ∧ sb ≤ 9) : Met l yX4_hasTooManySealed wsX4_hasTooManySealed ({ frames := 0, cells := 0, slots := 0, locals := 0 }) (mPc (dC, dI) [(cI, .int), (cO, .object "java/lang/Object")] [.ref h] sz [(h, .inr (4, [.int (iI am), .ref qt, .ref qv, .ref qs, .int (iI sb), .int (iI sp), .int (iI gs)])), (qt, .inl (cI, 160, .inl (aI tt))), (qv, .inl (cI, 160, .inl (aI vv))), (qs, .inl (cI, 9, .inl (aI zz)))]) (mQi (dC, dI) [(h, .inr (4, [.int (iI am), .ref qt, .ref qv, .ref qs, .int (iI sb), .int (iI sp), .int (iI gs)])), (qt, .inl (cI, 160, .inl (aI tt))), (qv, .inl (cI, 160, .inl (aI vv))), (qs, .inl (cI, 9, .inl (aI zz)))] [(h, .inr (4, [.int (iI am), .ref qt, .ref qv, .ref qs, .int (iI sb), .int (iI sp), .int (iI gs)])), (qt, .inl (cI, 160, .inl (aI tt))), (qv, .inl (cI, 160, .inl (aI vv))), (qs, .inl (cI, 9, .inl (aI zz)))] sz (if 8 < sb then 1 else 0)) 0 0 (va_A [(h, .inr (4, [.int (iI am), .ref qt, .ref qv, .ref qs, .int (iI sb), .int (iI sp), .int (iI gs)])), (qt, .inl (cI, 160, .inl (aI tt))), (qv, .inl (cI, 160, .inl (aI vv))), (qs, .inl (cI, 9, .inl (aI zz)))] sz) := by
  refine mMet (cc := cX4_hasTooManySealed) (maxL := 1) (ret := (some .boolean)) (by decide) rfl (Nat.le_of_ble_eq_true rfl) ?_
  intro p e s m args below meth c A ls hx hb hr hts hown hlocks hin hml hAe hsz hA hD H hHe hP hK hZ hS hl Q hQ
  have hl : lv_has ls 1 [(0, .ref h)] := hl
  have hf21 := hts (.fieldLink RX4 21 "MeridianSeries$Points" "sealedBlocks" "I") (by decide +kernel)
  have hi_X4 : ∀ w ∈ u_ws RX4 TX4 7, w ∈ wsX4_hasTooManySealed := by decide +kernel
  refine lv_aload_n hx hb dX4_hasTooManySealed_0 rfl (lv_at hl 0 rfl) ?_
  refine va_get (ci := 4) (v := .int (iI sb)) (C := RX4) (T := TX4) (N := 7) hx hb hts hi_X4 hown hK hP 0 rfl rfl 4 (by decide) hf21 (fun _ h9 => h9) rfl dX4_hasTooManySealed_1 ?_
  refine mi_bipush hx hb dX4_hasTooManySealed_4 (by decide) ?_
  refine mi_icmp_le (tgt := 13) hx hb (by omega) (by decide) dX4_hasTooManySealed_6 (by decide) (fun c_1 => ?_) (fun c_1 => ?_)
  · refine mi_iconst hx hb dX4_hasTooManySealed_13 ?_
    exact mi_zret hx hb hQ hr hlocks hAe hsz hP hD hS (by decide) (by first | rfl | omega | (split <;> omega)) rfl dX4_hasTooManySealed_14
  · refine mi_iconst hx hb dX4_hasTooManySealed_9 ?_
    refine lv_goto (tgt := 14) hx hb dX4_hasTooManySealed_10 (by decide) ?_
    exact mi_zret hx hb hQ hr hlocks hAe hsz hP hD hS (by decide) (by first | rfl | omega | (split <;> omega)) rfl dX4_hasTooManySealed_14

set_option maxRecDepth 100000 in
set_option maxHeartbeats 4000000 in
theorem c_X4_write (l : Launch) (dC : Nat → ClassId) (dI : Nat → Nat → Nat) (cI cO : ClassId) (h : Nat) (qt : Nat) (qv : Nat) (qs : Nat) (am : Int) (tt : fI) (vv : fI) (zz : fI) (sb : Int) (sp : Int) (gs : Int) (i : Int) (t : Int) (v : Int) (sz : Nat) (hi : 0 ≤ i ∧ i < 160) : Met l yX4_write wsX4_write ({ frames := 0, cells := 0, slots := 0, locals := 0 }) (mPc (dC, dI) [(cI, .int), (cO, .object "java/lang/Object")] [.ref h, .int (iI i), .int (iI t), .int (iI v)] sz [(h, .inr (4, [.int (iI am), .ref qt, .ref qv, .ref qs, .int (iI sb), .int (iI sp), .int (iI gs)])), (qt, .inl (cI, 160, .inl (aI tt))), (qv, .inl (cI, 160, .inl (aI vv))), (qs, .inl (cI, 9, .inl (aI zz)))]) (mQv (dC, dI) [(h, .inr (4, [.int (iI am), .ref qt, .ref qv, .ref qs, .int (iI sb), .int (iI sp), .int (iI gs)])), (qt, .inl (cI, 160, .inl (aI tt))), (qv, .inl (cI, 160, .inl (aI vv))), (qs, .inl (cI, 9, .inl (aI zz)))] [(h, .inr (4, [.int (iI am), .ref qt, .ref qv, .ref qs, .int (iI sb), .int (iI sp), .int (iI gs)])), (qt, .inl (cI, 160, .inl (aI (uI tt i t)))), (qv, .inl (cI, 160, .inl (aI (uI vv i v)))), (qs, .inl (cI, 9, .inl (aI zz)))] sz) 0 0 (va_A [(h, .inr (4, [.int (iI am), .ref qt, .ref qv, .ref qs, .int (iI sb), .int (iI sp), .int (iI gs)])), (qt, .inl (cI, 160, .inl (aI tt))), (qv, .inl (cI, 160, .inl (aI vv))), (qs, .inl (cI, 9, .inl (aI zz)))] sz) := by
  refine mMet (cc := cX4_write) (maxL := 4) (ret := none) (by decide) rfl (Nat.le_of_ble_eq_true rfl) ?_
  intro p e s m args below meth c A ls hx hb hr hts hown hlocks hin hml hAe hsz hA hD H hHe hP hK hZ hS hl Q hQ
  have hl : lv_has ls 4 [(0, .ref h), (1, .int (iI i)), (2, .int (iI t)), (3, .int (iI v))] := hl
  have hf11 := hts (.fieldLink RX4 11 "MeridianSeries$Points" "times" "[I") (by decide +kernel)
  have hi_X4 : ∀ w ∈ u_ws RX4 TX4 7, w ∈ wsX4_write := by decide +kernel
  have hf15 := hts (.fieldLink RX4 15 "MeridianSeries$Points" "values" "[I") (by decide +kernel)
  refine lv_iload_n hx hb dX4_write_0 rfl (lv_at hl 1 rfl) ?_
  refine mi_if_lt (tgt := 36) hx hb (by omega) dX4_write_1 (by decide) (fun c_1 => ?_) (fun c_1 => ?_)
  · exfalso; omega
  · refine lv_iload_n hx hb dX4_write_4 rfl (lv_at hl 1 rfl) ?_
    refine lv_aload_n hx hb dX4_write_5 rfl (lv_at hl 0 rfl) ?_
    refine va_get (ci := 4) (v := .ref qt) (C := RX4) (T := TX4) (N := 7) hx hb hts hi_X4 hown hK hP 0 rfl rfl 1 (by decide) hf11 (fun _ h9 => h9) rfl dX4_write_6 ?_
    refine mi_alen hx hb hK hP 1 0 rfl rfl dX4_write_9 ?_
    have eln : ((160 : Nat) : Int) = 160 := rfl
    rw [eln]
    refine mi_icmp_ge (tgt := 36) hx hb (by omega) (by decide) dX4_write_10 (by decide) (fun c_2 => ?_) (fun c_2 => ?_)
    · exfalso; omega
    · refine lv_iload_n hx hb dX4_write_13 rfl (lv_at hl 1 rfl) ?_
      refine lv_aload_n hx hb dX4_write_14 rfl (lv_at hl 0 rfl) ?_
      refine va_get (ci := 4) (v := .ref qv) (C := RX4) (T := TX4) (N := 7) hx hb hts hi_X4 hown hK hP 0 rfl rfl 2 (by decide) hf15 (fun _ h9 => h9) rfl dX4_write_15 ?_
      refine mi_alen hx hb hK hP 2 0 rfl rfl dX4_write_18 ?_
      have eln : ((160 : Nat) : Int) = 160 := rfl
      rw [eln]
      refine mi_icmp_ge (tgt := 36) hx hb (by omega) (by decide) dX4_write_19 (by decide) (fun c_3 => ?_) (fun c_3 => ?_)
      · exfalso; omega
      · refine lv_aload_n hx hb dX4_write_22 rfl (lv_at hl 0 rfl) ?_
        refine va_get (ci := 4) (v := .ref qt) (C := RX4) (T := TX4) (N := 7) hx hb hts hi_X4 hown hK hP 0 rfl rfl 1 (by decide) hf11 (fun _ h9 => h9) rfl dX4_write_23 ?_
        refine lv_iload_n hx hb dX4_write_26 rfl (lv_at hl 1 rfl) ?_
        refine lv_iload_n hx hb dX4_write_27 rfl (lv_at hl 2 rfl) ?_
        refine mi_iast (ws' := [(h, .inr (4, [.int (iI am), .ref qt, .ref qv, .ref qs, .int (iI sb), .int (iI sp), .int (iI gs)])), (qt, .inl (cI, 160, .inl (aI (uI tt i t)))), (qv, .inl (cI, 160, .inl (aI vv))), (qs, .inl (cI, 9, .inl (aI zz)))]) hx hb hK hP hD hS 1 0 rfl rfl (i := i) (by omega) (by decide) rfl dX4_write_28 (fun H locs hP hD hS => ?_)
        refine lv_aload_n hx hb dX4_write_29 rfl (lv_at hl 0 rfl) ?_
        refine va_get (ci := 4) (v := .ref qv) (C := RX4) (T := TX4) (N := 7) hx hb hts hi_X4 hown hK hP 0 rfl rfl 2 (by decide) hf15 (fun _ h9 => h9) rfl dX4_write_30 ?_
        refine lv_iload_n hx hb dX4_write_33 rfl (lv_at hl 1 rfl) ?_
        refine lv_iload_n hx hb dX4_write_34 rfl (lv_at hl 3 rfl) ?_
        refine mi_iast (ws' := [(h, .inr (4, [.int (iI am), .ref qt, .ref qv, .ref qs, .int (iI sb), .int (iI sp), .int (iI gs)])), (qt, .inl (cI, 160, .inl (aI (uI tt i t)))), (qv, .inl (cI, 160, .inl (aI (uI vv i v)))), (qs, .inl (cI, 9, .inl (aI zz)))]) hx hb hK hP hD hS 2 0 rfl rfl (i := i) (by omega) (by decide) rfl dX4_write_35 (fun H locs hP hD hS => ?_)
        exact mi_vret hx hb hQ hr hlocks hAe hsz hP hD hS rfl dX4_write_36

set_option maxRecDepth 100000 in
set_option maxHeartbeats 4000000 in
theorem c_X4_sizeOf_s (l : Launch) (dC : Nat → ClassId) (dI : Nat → Nat → Nat) (cI cO : ClassId) (h : Nat) (qt : Nat) (qv : Nat) (qs : Nat) (am : Int) (tt : fI) (vv : fI) (zz : fI) (sb : Int) (sp : Int) (gs : Int) (b : Int) (sz : Nat) (hb : 0 ≤ b ∧ b < sb) (hsb : 0 ≤ sb ∧ sb ≤ 9) : Met l yX4_sizeOf wsX4_sizeOf ({ frames := 0, cells := 0, slots := 0, locals := 0 }) (mPc (dC, dI) [(cI, .int), (cO, .object "java/lang/Object")] [.ref h, .int (iI b)] sz [(h, .inr (4, [.int (iI am), .ref qt, .ref qv, .ref qs, .int (iI sb), .int (iI sp), .int (iI gs)])), (qt, .inl (cI, 160, .inl (aI tt))), (qv, .inl (cI, 160, .inl (aI vv))), (qs, .inl (cI, 9, .inl (aI zz)))]) (mQi (dC, dI) [(h, .inr (4, [.int (iI am), .ref qt, .ref qv, .ref qs, .int (iI sb), .int (iI sp), .int (iI gs)])), (qt, .inl (cI, 160, .inl (aI tt))), (qv, .inl (cI, 160, .inl (aI vv))), (qs, .inl (cI, 9, .inl (aI zz)))] [(h, .inr (4, [.int (iI am), .ref qt, .ref qv, .ref qs, .int (iI sb), .int (iI sp), .int (iI gs)])), (qt, .inl (cI, 160, .inl (aI tt))), (qv, .inl (cI, 160, .inl (aI vv))), (qs, .inl (cI, 9, .inl (aI zz)))] sz (zz b)) 0 0 (va_A [(h, .inr (4, [.int (iI am), .ref qt, .ref qv, .ref qs, .int (iI sb), .int (iI sp), .int (iI gs)])), (qt, .inl (cI, 160, .inl (aI tt))), (qv, .inl (cI, 160, .inl (aI vv))), (qs, .inl (cI, 9, .inl (aI zz)))] sz) := by
  refine mMet (cc := cX4_sizeOf) (maxL := 2) (ret := (some .int)) (by decide) rfl (Nat.le_of_ble_eq_true rfl) ?_
  intro p e s m args below meth c A ls hx hb hr hts hown hlocks hin hml hAe hsz hA hD H hHe hP hK hZ hS hl Q hQ
  have hl : lv_has ls 2 [(0, .ref h), (1, .int (iI b))] := hl
  have hf21 := hts (.fieldLink RX4 21 "MeridianSeries$Points" "sealedBlocks" "I") (by decide +kernel)
  have hi_X4 : ∀ w ∈ u_ws RX4 TX4 7, w ∈ wsX4_sizeOf := by decide +kernel
  have hf18 := hts (.fieldLink RX4 18 "MeridianSeries$Points" "sizes" "[I") (by decide +kernel)
  refine lv_iload_n hx hb dX4_sizeOf_0 rfl (lv_at hl 1 rfl) ?_
  refine mi_if_lt (tgt := 30) hx hb (by omega) dX4_sizeOf_1 (by decide) (fun c_1 => ?_) (fun c_1 => ?_)
  · exfalso; omega
  · refine lv_iload_n hx hb dX4_sizeOf_4 rfl (lv_at hl 1 rfl) ?_
    refine lv_aload_n hx hb dX4_sizeOf_5 rfl (lv_at hl 0 rfl) ?_
    refine va_get (ci := 4) (v := .int (iI sb)) (C := RX4) (T := TX4) (N := 7) hx hb hts hi_X4 hown hK hP 0 rfl rfl 4 (by decide) hf21 (fun _ h9 => h9) rfl dX4_sizeOf_6 ?_
    refine mi_icmp_ge (tgt := 30) hx hb (by omega) (by omega) dX4_sizeOf_9 (by decide) (fun c_2 => ?_) (fun c_2 => ?_)
    · exfalso; omega
    · refine lv_iload_n hx hb dX4_sizeOf_12 rfl (lv_at hl 1 rfl) ?_
      refine lv_aload_n hx hb dX4_sizeOf_13 rfl (lv_at hl 0 rfl) ?_
      refine va_get (ci := 4) (v := .ref qs) (C := RX4) (T := TX4) (N := 7) hx hb hts hi_X4 hown hK hP 0 rfl rfl 3 (by decide) hf18 (fun _ h9 => h9) rfl dX4_sizeOf_14 ?_
      refine mi_alen hx hb hK hP 3 0 rfl rfl dX4_sizeOf_17 ?_
      have eln : ((9 : Nat) : Int) = 9 := rfl
      rw [eln]
      refine mi_icmp_ge (tgt := 30) hx hb (by omega) (by decide) dX4_sizeOf_18 (by decide) (fun c_3 => ?_) (fun c_3 => ?_)
      · exfalso; omega
      · refine lv_aload_n hx hb dX4_sizeOf_21 rfl (lv_at hl 0 rfl) ?_
        refine va_get (ci := 4) (v := .ref qs) (C := RX4) (T := TX4) (N := 7) hx hb hts hi_X4 hown hK hP 0 rfl rfl 3 (by decide) hf18 (fun _ h9 => h9) rfl dX4_sizeOf_22 ?_
        refine lv_iload_n hx hb dX4_sizeOf_25 rfl (lv_at hl 1 rfl) ?_
        refine mi_iald hx hb hK hP 3 0 rfl rfl (i := b) (by omega) (by decide) dX4_sizeOf_26 ?_
        refine lv_goto (tgt := 34) hx hb dX4_sizeOf_27 (by decide) ?_
        exact mi_iret hx hb hQ hr hlocks hAe hsz hP hD hS (by first | rfl | omega | (split <;> omega)) rfl dX4_sizeOf_34

set_option maxRecDepth 100000 in
set_option maxHeartbeats 4000000 in
theorem c_X4_sizeOf_o (l : Launch) (dC : Nat → ClassId) (dI : Nat → Nat → Nat) (cI cO : ClassId) (h : Nat) (qt : Nat) (qv : Nat) (qs : Nat) (am : Int) (tt : fI) (vv : fI) (zz : fI) (sb : Int) (sp : Int) (gs : Int) (b : Int) (sz : Nat) (hb : sb ≤ b ∧ b ≤ 99) (hsb : 0 ≤ sb ∧ sb ≤ 9) : Met l yX4_sizeOf wsX4_sizeOf ({ frames := 1, cells := 0, slots := 0, locals := 20 }) (mPc (dC, dI) [(cI, .int), (cO, .object "java/lang/Object")] [.ref h, .int (iI b)] sz [(h, .inr (4, [.int (iI am), .ref qt, .ref qv, .ref qs, .int (iI sb), .int (iI sp), .int (iI gs)])), (qt, .inl (cI, 160, .inl (aI tt))), (qv, .inl (cI, 160, .inl (aI vv))), (qs, .inl (cI, 9, .inl (aI zz)))]) (mQi (dC, dI) [(h, .inr (4, [.int (iI am), .ref qt, .ref qv, .ref qs, .int (iI sb), .int (iI sp), .int (iI gs)])), (qt, .inl (cI, 160, .inl (aI tt))), (qv, .inl (cI, 160, .inl (aI vv))), (qs, .inl (cI, 9, .inl (aI zz)))] [(h, .inr (4, [.int (iI am), .ref qt, .ref qv, .ref qs, .int (iI sb), .int (iI sp), .int (iI gs)])), (qt, .inl (cI, 160, .inl (aI tt))), (qv, .inl (cI, 160, .inl (aI vv))), (qs, .inl (cI, 9, .inl (aI zz)))] sz (am - sp)) 0 0 (va_A [(h, .inr (4, [.int (iI am), .ref qt, .ref qv, .ref qs, .int (iI sb), .int (iI sp), .int (iI gs)])), (qt, .inl (cI, 160, .inl (aI tt))), (qv, .inl (cI, 160, .inl (aI vv))), (qs, .inl (cI, 9, .inl (aI zz)))] sz) := by
  refine mMet (cc := cX4_sizeOf) (maxL := 2) (ret := (some .int)) (by decide) rfl (Nat.le_of_ble_eq_true rfl) ?_
  intro p e s m args below meth c A ls hx hb hr hts hown hlocks hin hml hAe hsz hA hD H hHe hP hK hZ hS hl Q hQ
  have hl : lv_has ls 2 [(0, .ref h), (1, .int (iI b))] := hl
  have hf21 := hts (.fieldLink RX4 21 "MeridianSeries$Points" "sealedBlocks" "I") (by decide +kernel)
  have hi_X4 : ∀ w ∈ u_ws RX4 TX4 7, w ∈ wsX4_sizeOf := by decide +kernel
  refine lv_iload_n hx hb dX4_sizeOf_0 rfl (lv_at hl 1 rfl) ?_
  refine mi_if_lt (tgt := 30) hx hb (by omega) dX4_sizeOf_1 (by decide) (fun c_1 => ?_) (fun c_1 => ?_)
  · exfalso; omega
  · refine lv_iload_n hx hb dX4_sizeOf_4 rfl (lv_at hl 1 rfl) ?_
    refine lv_aload_n hx hb dX4_sizeOf_5 rfl (lv_at hl 0 rfl) ?_
    refine va_get (ci := 4) (v := .int (iI sb)) (C := RX4) (T := TX4) (N := 7) hx hb hts hi_X4 hown hK hP 0 rfl rfl 4 (by decide) hf21 (fun _ h9 => h9) rfl dX4_sizeOf_6 ?_
    refine mi_icmp_ge (tgt := 30) hx hb (by omega) (by omega) dX4_sizeOf_9 (by decide) (fun c_2 => ?_) (fun c_2 => ?_)
    · refine lv_aload_n hx hb dX4_sizeOf_30 rfl (lv_at hl 0 rfl) ?_
      refine m_run (wc := [(h, .inr (4, [.int (iI am), .ref qt, .ref qv, .ref qs, .int (iI sb), .int (iI sp), .int (iI gs)])), (qt, .inl (cI, 160, .inl (aI tt))), (qv, .inl (cI, 160, .inl (aI vv))), (qs, .inl (cI, 9, .inl (aI zz)))]) (wc' := [(h, .inr (4, [.int (iI am), .ref qt, .ref qv, .ref qs, .int (iI sb), .int (iI sp), .int (iI gs)])), (qt, .inl (cI, 160, .inl (aI tt))), (qv, .inl (cI, 160, .inl (aI vv))), (qs, .inl (cI, 9, .inl (aI zz)))]) (wr := []) (ws' := [(h, .inr (4, [.int (iI am), .ref qt, .ref qv, .ref qs, .int (iI sb), .int (iI sp), .int (iI gs)])), (qt, .inl (cI, 160, .inl (aI tt))), (qv, .inl (cI, 160, .inl (aI vv))), (qs, .inl (cI, 9, .inl (aI zz)))]) (va_runV (As := []) (rest := []) ⟨hx, hb, hml, hown, hts⟩ (c_X4_openSize l dC dI cI cO h qt qv qs am tt vv zz sb sp gs H.size ) (cwV 0 hts gX4_sizeOf_X4_openSize rfl rfl rfl (by decide +kernel) ⟨Nat.le_of_ble_eq_true rfl, Nat.le_of_ble_eq_true rfl⟩) (m_preV hZ hK hP hD [0, 1, 2, 3] rfl (by decide) (va_recv hK hP (ci := 4) (q0 := 0) rfl rfl)) rfl rfl hl.1 rfl (lv_room (Nat.le_of_ble_eq_true rfl)) dX4_sizeOf_31 ⟨Nat.le_of_ble_eq_true rfl, Nat.le_of_ble_eq_true rfl⟩) hP hD hS hA [0, 1, 2, 3] [] [0, 1, 2, 3] rfl rfl (by decide) (by decide) rfl (by decide) (fun H locs hP hD hS => ?_)
      exact mi_iret hx hb hQ hr hlocks hAe hsz hP hD hS (by first | rfl | omega | (split <;> omega)) rfl dX4_sizeOf_34
    · exfalso; omega

set_option maxRecDepth 100000 in
set_option maxHeartbeats 4000000 in
theorem c_X4_isTakenAt_1 (l : Launch) (dC : Nat → ClassId) (dI : Nat → Nat → Nat) (cI cO : ClassId) (h : Nat) (qt : Nat) (qv : Nat) (qs : Nat) (am : Int) (tt : fI) (vv : fI) (zz : fI) (sb : Int) (sp : Int) (gs : Int) (i : Int) (t : Int) (sz : Nat) (hi : 0 ≤ i ∧ i < am ∧ tt i = t) (ham : 0 ≤ am ∧ am ≤ 160) (ht : 0 ≤ t ∧ t ≤ 99999) : Met l yX4_isTakenAt wsX4_isTakenAt ({ frames := 1, cells := 0, slots := 0, locals := 22 }) (mPc (dC, dI) [(cI, .int), (cO, .object "java/lang/Object")] [.ref h, .int (iI i), .int (iI t)] sz [(h, .inr (4, [.int (iI am), .ref qt, .ref qv, .ref qs, .int (iI sb), .int (iI sp), .int (iI gs)])), (qt, .inl (cI, 160, .inl (aI tt))), (qv, .inl (cI, 160, .inl (aI vv))), (qs, .inl (cI, 9, .inl (aI zz)))]) (mQi (dC, dI) [(h, .inr (4, [.int (iI am), .ref qt, .ref qv, .ref qs, .int (iI sb), .int (iI sp), .int (iI gs)])), (qt, .inl (cI, 160, .inl (aI tt))), (qv, .inl (cI, 160, .inl (aI vv))), (qs, .inl (cI, 9, .inl (aI zz)))] [(h, .inr (4, [.int (iI am), .ref qt, .ref qv, .ref qs, .int (iI sb), .int (iI sp), .int (iI gs)])), (qt, .inl (cI, 160, .inl (aI tt))), (qv, .inl (cI, 160, .inl (aI vv))), (qs, .inl (cI, 9, .inl (aI zz)))] sz 1) 0 0 (va_A [(h, .inr (4, [.int (iI am), .ref qt, .ref qv, .ref qs, .int (iI sb), .int (iI sp), .int (iI gs)])), (qt, .inl (cI, 160, .inl (aI tt))), (qv, .inl (cI, 160, .inl (aI vv))), (qs, .inl (cI, 9, .inl (aI zz)))] sz) := by
  refine mMet (cc := cX4_isTakenAt) (maxL := 3) (ret := (some .boolean)) (by decide) rfl (Nat.le_of_ble_eq_true rfl) ?_
  intro p e s m args below meth c A ls hx hb hr hts hown hlocks hin hml hAe hsz hA hD H hHe hP hK hZ hS hl Q hQ
  have hl : lv_has ls 3 [(0, .ref h), (1, .int (iI i)), (2, .int (iI t))] := hl
  have hf31 := hts (.fieldLink RX4 31 "MeridianSeries$Points" "amount" "I") (by decide +kernel)
  have hs31 := hts (.sameField "MeridianSeries$Points" "MeridianSeries$Items" "amount" "I") (by decide +kernel)
  have hi_X4 : ∀ w ∈ u_ws RX4 TX4 7, w ∈ wsX4_isTakenAt := by decide +kernel
  refine lv_iload_n hx hb dX4_isTakenAt_0 rfl (lv_at hl 1 rfl) ?_
  refine lv_aload_n hx hb dX4_isTakenAt_1 rfl (lv_at hl 0 rfl) ?_
  refine va_get (ci := 4) (v := .int (iI am)) (C := RX4) (T := TX4) (N := 7) hx hb hts hi_X4 hown hK hP 0 rfl rfl 0 (by decide) hf31 (fun x9 h9 => u_same hs31 x9 h9) rfl dX4_isTakenAt_2 ?_
  refine mi_icmp_ge (tgt := 22) hx hb (by omega) (by omega) dX4_isTakenAt_5 (by decide) (fun c_1 => ?_) (fun c_1 => ?_)
  · exfalso; omega
  · refine lv_aload_n hx hb dX4_isTakenAt_8 rfl (lv_at hl 0 rfl) ?_
    refine lv_iload_n hx hb dX4_isTakenAt_9 rfl (lv_at hl 1 rfl) ?_
    refine mi_iconst hx hb dX4_isTakenAt_10 ?_
    refine m_run (wc := [(h, .inr (4, [.int (iI am), .ref qt, .ref qv, .ref qs, .int (iI sb), .int (iI sp), .int (iI gs)])), (qt, .inl (cI, 160, .inl (aI tt))), (qv, .inl (cI, 160, .inl (aI vv))), (qs, .inl (cI, 9, .inl (aI zz)))]) (wc' := [(h, .inr (4, [.int (iI am), .ref qt, .ref qv, .ref qs, .int (iI sb), .int (iI sp), .int (iI gs)])), (qt, .inl (cI, 160, .inl (aI tt))), (qv, .inl (cI, 160, .inl (aI vv))), (qs, .inl (cI, 9, .inl (aI zz)))]) (wr := []) (ws' := [(h, .inr (4, [.int (iI am), .ref qt, .ref qv, .ref qs, .int (iI sb), .int (iI sp), .int (iI gs)])), (qt, .inl (cI, 160, .inl (aI tt))), (qv, .inl (cI, 160, .inl (aI vv))), (qs, .inl (cI, 9, .inl (aI zz)))]) (va_runV (As := [.int (iI i), .int (iI 0)]) (rest := []) ⟨hx, hb, hml, hown, hts⟩ (c_X4_number_t l dC dI cI cO h qt qv qs am tt vv zz sb sp gs i H.size (by first | assumption | omega)) (cwV 2 hts gX4_isTakenAt_X4_number rfl rfl rfl (by decide +kernel) ⟨Nat.le_of_ble_eq_true rfl, Nat.le_of_ble_eq_true rfl⟩) (m_preV hZ hK hP hD [0, 1, 2, 3] rfl (by decide) (va_recv hK hP (ci := 4) (q0 := 0) rfl rfl)) rfl rfl hl.1 rfl (lv_room (Nat.le_of_ble_eq_true rfl)) dX4_isTakenAt_11 ⟨Nat.le_of_ble_eq_true rfl, Nat.le_of_ble_eq_true rfl⟩) hP hD hS hA [0, 1, 2, 3] [] [0, 1, 2, 3] rfl rfl (by decide) (by decide) rfl (by decide) (fun H locs hP hD hS => ?_)
    refine lv_iload_n hx hb dX4_isTakenAt_14 rfl (lv_at hl 2 rfl) ?_
    refine mi_icmp_ne (tgt := 22) hx hb (by omega) (by omega) dX4_isTakenAt_15 (by decide) (fun c_2 => ?_) (fun c_2 => ?_)
    · exfalso; omega
    · refine mi_iconst hx hb dX4_isTakenAt_18 ?_
      refine lv_goto (tgt := 23) hx hb dX4_isTakenAt_19 (by decide) ?_
      exact mi_zret hx hb hQ hr hlocks hAe hsz hP hD hS (by decide) (by first | rfl | omega | (split <;> omega)) rfl dX4_isTakenAt_23

set_option maxRecDepth 100000 in
set_option maxHeartbeats 4000000 in
theorem c_X4_isTakenAt_0 (l : Launch) (dC : Nat → ClassId) (dI : Nat → Nat → Nat) (cI cO : ClassId) (h : Nat) (qt : Nat) (qv : Nat) (qs : Nat) (am : Int) (tt : fI) (vv : fI) (zz : fI) (sb : Int) (sp : Int) (gs : Int) (i : Int) (t : Int) (sz : Nat) (hi : 0 ≤ i ∧ i ≤ am) (hn : i < am → tt i ≠ t) (ham : 0 ≤ am ∧ am ≤ 160) (ht : 0 ≤ t ∧ t ≤ 99999) (htt : ∀ j, 0 ≤ tt j ∧ tt j ≤ 99999) : Met l yX4_isTakenAt wsX4_isTakenAt ({ frames := 1, cells := 0, slots := 0, locals := 22 }) (mPc (dC, dI) [(cI, .int), (cO, .object "java/lang/Object")] [.ref h, .int (iI i), .int (iI t)] sz [(h, .inr (4, [.int (iI am), .ref qt, .ref qv, .ref qs, .int (iI sb), .int (iI sp), .int (iI gs)])), (qt, .inl (cI, 160, .inl (aI tt))), (qv, .inl (cI, 160, .inl (aI vv))), (qs, .inl (cI, 9, .inl (aI zz)))]) (mQi (dC, dI) [(h, .inr (4, [.int (iI am), .ref qt, .ref qv, .ref qs, .int (iI sb), .int (iI sp), .int (iI gs)])), (qt, .inl (cI, 160, .inl (aI tt))), (qv, .inl (cI, 160, .inl (aI vv))), (qs, .inl (cI, 9, .inl (aI zz)))] [(h, .inr (4, [.int (iI am), .ref qt, .ref qv, .ref qs, .int (iI sb), .int (iI sp), .int (iI gs)])), (qt, .inl (cI, 160, .inl (aI tt))), (qv, .inl (cI, 160, .inl (aI vv))), (qs, .inl (cI, 9, .inl (aI zz)))] sz 0) 0 0 (va_A [(h, .inr (4, [.int (iI am), .ref qt, .ref qv, .ref qs, .int (iI sb), .int (iI sp), .int (iI gs)])), (qt, .inl (cI, 160, .inl (aI tt))), (qv, .inl (cI, 160, .inl (aI vv))), (qs, .inl (cI, 9, .inl (aI zz)))] sz) := by
  refine mMet (cc := cX4_isTakenAt) (maxL := 3) (ret := (some .boolean)) (by decide) rfl (Nat.le_of_ble_eq_true rfl) ?_
  intro p e s m args below meth c A ls hx hb hr hts hown hlocks hin hml hAe hsz hA hD H hHe hP hK hZ hS hl Q hQ
  have hl : lv_has ls 3 [(0, .ref h), (1, .int (iI i)), (2, .int (iI t))] := hl
  have hf31 := hts (.fieldLink RX4 31 "MeridianSeries$Points" "amount" "I") (by decide +kernel)
  have hs31 := hts (.sameField "MeridianSeries$Points" "MeridianSeries$Items" "amount" "I") (by decide +kernel)
  have hi_X4 : ∀ w ∈ u_ws RX4 TX4 7, w ∈ wsX4_isTakenAt := by decide +kernel
  refine lv_iload_n hx hb dX4_isTakenAt_0 rfl (lv_at hl 1 rfl) ?_
  refine lv_aload_n hx hb dX4_isTakenAt_1 rfl (lv_at hl 0 rfl) ?_
  refine va_get (ci := 4) (v := .int (iI am)) (C := RX4) (T := TX4) (N := 7) hx hb hts hi_X4 hown hK hP 0 rfl rfl 0 (by decide) hf31 (fun x9 h9 => u_same hs31 x9 h9) rfl dX4_isTakenAt_2 ?_
  refine mi_icmp_ge (tgt := 22) hx hb (by omega) (by omega) dX4_isTakenAt_5 (by decide) (fun c_1 => ?_) (fun c_1 => ?_)
  · refine mi_iconst hx hb dX4_isTakenAt_22 ?_
    exact mi_zret hx hb hQ hr hlocks hAe hsz hP hD hS (by decide) (by first | rfl | omega | (split <;> omega)) rfl dX4_isTakenAt_23
  · refine lv_aload_n hx hb dX4_isTakenAt_8 rfl (lv_at hl 0 rfl) ?_
    refine lv_iload_n hx hb dX4_isTakenAt_9 rfl (lv_at hl 1 rfl) ?_
    refine mi_iconst hx hb dX4_isTakenAt_10 ?_
    refine m_run (wc := [(h, .inr (4, [.int (iI am), .ref qt, .ref qv, .ref qs, .int (iI sb), .int (iI sp), .int (iI gs)])), (qt, .inl (cI, 160, .inl (aI tt))), (qv, .inl (cI, 160, .inl (aI vv))), (qs, .inl (cI, 9, .inl (aI zz)))]) (wc' := [(h, .inr (4, [.int (iI am), .ref qt, .ref qv, .ref qs, .int (iI sb), .int (iI sp), .int (iI gs)])), (qt, .inl (cI, 160, .inl (aI tt))), (qv, .inl (cI, 160, .inl (aI vv))), (qs, .inl (cI, 9, .inl (aI zz)))]) (wr := []) (ws' := [(h, .inr (4, [.int (iI am), .ref qt, .ref qv, .ref qs, .int (iI sb), .int (iI sp), .int (iI gs)])), (qt, .inl (cI, 160, .inl (aI tt))), (qv, .inl (cI, 160, .inl (aI vv))), (qs, .inl (cI, 9, .inl (aI zz)))]) (va_runV (As := [.int (iI i), .int (iI 0)]) (rest := []) ⟨hx, hb, hml, hown, hts⟩ (c_X4_number_t l dC dI cI cO h qt qv qs am tt vv zz sb sp gs i H.size (by first | assumption | omega)) (cwV 2 hts gX4_isTakenAt_X4_number rfl rfl rfl (by decide +kernel) ⟨Nat.le_of_ble_eq_true rfl, Nat.le_of_ble_eq_true rfl⟩) (m_preV hZ hK hP hD [0, 1, 2, 3] rfl (by decide) (va_recv hK hP (ci := 4) (q0 := 0) rfl rfl)) rfl rfl hl.1 rfl (lv_room (Nat.le_of_ble_eq_true rfl)) dX4_isTakenAt_11 ⟨Nat.le_of_ble_eq_true rfl, Nat.le_of_ble_eq_true rfl⟩) hP hD hS hA [0, 1, 2, 3] [] [0, 1, 2, 3] rfl rfl (by decide) (by decide) rfl (by decide) (fun H locs hP hD hS => ?_)
    have q9 := htt i
    refine lv_iload_n hx hb dX4_isTakenAt_14 rfl (lv_at hl 2 rfl) ?_
    refine mi_icmp_ne (tgt := 22) hx hb (by omega) (by omega) dX4_isTakenAt_15 (by decide) (fun c_2 => ?_) (fun c_2 => ?_)
    · refine mi_iconst hx hb dX4_isTakenAt_22 ?_
      exact mi_zret hx hb hQ hr hlocks hAe hsz hP hD hS (by decide) (by first | rfl | omega | (split <;> omega)) rfl dX4_isTakenAt_23
    · exfalso; omega

set_option maxRecDepth 100000 in
set_option maxHeartbeats 4000000 in
theorem c_X4_copyPoint (l : Launch) (dC : Nat → ClassId) (dI : Nat → Nat → Nat) (cI cO : ClassId) (h : Nat) (qt : Nat) (qv : Nat) (qs : Nat) (am : Int) (tt : fI) (vv : fI) (zz : fI) (sb : Int) (sp : Int) (gs : Int) (i : Int) (k : Int) (sz : Nat) (hi : 0 ≤ i ∧ i < 160) (hk : 0 ≤ k ∧ k < 160) : Met l yX4_copyPoint wsX4_copyPoint ({ frames := 1, cells := 0, slots := 0, locals := 23 }) (mPc (dC, dI) [(cI, .int), (cO, .object "java/lang/Object")] [.ref h, .int (iI i), .int (iI k)] sz [(h, .inr (4, [.int (iI am), .ref qt, .ref qv, .ref qs, .int (iI sb), .int (iI sp), .int (iI gs)])), (qt, .inl (cI, 160, .inl (aI tt))), (qv, .inl (cI, 160, .inl (aI vv))), (qs, .inl (cI, 9, .inl (aI zz)))]) (mQv (dC, dI) [(h, .inr (4, [.int (iI am), .ref qt, .ref qv, .ref qs, .int (iI sb), .int (iI sp), .int (iI gs)])), (qt, .inl (cI, 160, .inl (aI tt))), (qv, .inl (cI, 160, .inl (aI vv))), (qs, .inl (cI, 9, .inl (aI zz)))] [(h, .inr (4, [.int (iI am), .ref qt, .ref qv, .ref qs, .int (iI sb), .int (iI sp), .int (iI gs)])), (qt, .inl (cI, 160, .inl (aI (uI tt k (tt i))))), (qv, .inl (cI, 160, .inl (aI (uI vv k (vv i))))), (qs, .inl (cI, 9, .inl (aI zz)))] sz) 0 0 (va_A [(h, .inr (4, [.int (iI am), .ref qt, .ref qv, .ref qs, .int (iI sb), .int (iI sp), .int (iI gs)])), (qt, .inl (cI, 160, .inl (aI tt))), (qv, .inl (cI, 160, .inl (aI vv))), (qs, .inl (cI, 9, .inl (aI zz)))] sz) := by
  refine mMet (cc := cX4_copyPoint) (maxL := 3) (ret := none) (by decide) rfl (Nat.le_of_ble_eq_true rfl) ?_
  intro p e s m args below meth c A ls hx hb hr hts hown hlocks hin hml hAe hsz hA hD H hHe hP hK hZ hS hl Q hQ
  have hl : lv_has ls 3 [(0, .ref h), (1, .int (iI i)), (2, .int (iI k))] := hl
  refine lv_aload_n hx hb dX4_copyPoint_0 rfl (lv_at hl 0 rfl) ?_
  refine lv_iload_n hx hb dX4_copyPoint_1 rfl (lv_at hl 2 rfl) ?_
  refine lv_aload_n hx hb dX4_copyPoint_2 rfl (lv_at hl 0 rfl) ?_
  refine lv_iload_n hx hb dX4_copyPoint_3 rfl (lv_at hl 1 rfl) ?_
  refine mi_iconst hx hb dX4_copyPoint_4 ?_
  refine m_run (wc := [(h, .inr (4, [.int (iI am), .ref qt, .ref qv, .ref qs, .int (iI sb), .int (iI sp), .int (iI gs)])), (qt, .inl (cI, 160, .inl (aI tt))), (qv, .inl (cI, 160, .inl (aI vv))), (qs, .inl (cI, 9, .inl (aI zz)))]) (wc' := [(h, .inr (4, [.int (iI am), .ref qt, .ref qv, .ref qs, .int (iI sb), .int (iI sp), .int (iI gs)])), (qt, .inl (cI, 160, .inl (aI tt))), (qv, .inl (cI, 160, .inl (aI vv))), (qs, .inl (cI, 9, .inl (aI zz)))]) (wr := []) (ws' := [(h, .inr (4, [.int (iI am), .ref qt, .ref qv, .ref qs, .int (iI sb), .int (iI sp), .int (iI gs)])), (qt, .inl (cI, 160, .inl (aI tt))), (qv, .inl (cI, 160, .inl (aI vv))), (qs, .inl (cI, 9, .inl (aI zz)))]) (va_runV (As := [.int (iI i), .int (iI 0)]) (rest := [.int (iI k), .ref h]) ⟨hx, hb, hml, hown, hts⟩ (c_X4_number_t l dC dI cI cO h qt qv qs am tt vv zz sb sp gs i H.size (by first | assumption | omega)) (cwV 2 hts gX4_copyPoint_X4_number rfl rfl rfl (by decide +kernel) ⟨Nat.le_of_ble_eq_true rfl, Nat.le_of_ble_eq_true rfl⟩) (m_preV hZ hK hP hD [0, 1, 2, 3] rfl (by decide) (va_recv hK hP (ci := 4) (q0 := 0) rfl rfl)) rfl rfl hl.1 rfl (lv_room (Nat.le_of_ble_eq_true rfl)) dX4_copyPoint_5 ⟨Nat.le_of_ble_eq_true rfl, Nat.le_of_ble_eq_true rfl⟩) hP hD hS hA [0, 1, 2, 3] [] [0, 1, 2, 3] rfl rfl (by decide) (by decide) rfl (by decide) (fun H locs hP hD hS => ?_)
  refine lv_aload_n hx hb dX4_copyPoint_8 rfl (lv_at hl 0 rfl) ?_
  refine lv_iload_n hx hb dX4_copyPoint_9 rfl (lv_at hl 1 rfl) ?_
  refine mi_iconst hx hb dX4_copyPoint_10 ?_
  refine m_run (wc := [(h, .inr (4, [.int (iI am), .ref qt, .ref qv, .ref qs, .int (iI sb), .int (iI sp), .int (iI gs)])), (qt, .inl (cI, 160, .inl (aI tt))), (qv, .inl (cI, 160, .inl (aI vv))), (qs, .inl (cI, 9, .inl (aI zz)))]) (wc' := [(h, .inr (4, [.int (iI am), .ref qt, .ref qv, .ref qs, .int (iI sb), .int (iI sp), .int (iI gs)])), (qt, .inl (cI, 160, .inl (aI tt))), (qv, .inl (cI, 160, .inl (aI vv))), (qs, .inl (cI, 9, .inl (aI zz)))]) (wr := []) (ws' := [(h, .inr (4, [.int (iI am), .ref qt, .ref qv, .ref qs, .int (iI sb), .int (iI sp), .int (iI gs)])), (qt, .inl (cI, 160, .inl (aI tt))), (qv, .inl (cI, 160, .inl (aI vv))), (qs, .inl (cI, 9, .inl (aI zz)))]) (va_runV (As := [.int (iI i), .int (iI 5)]) (rest := [.int (iI (tt i)), .int (iI k), .ref h]) ⟨hx, hb, hml, hown, hts⟩ (c_X4_number_v l dC dI cI cO h qt qv qs am tt vv zz sb sp gs i 5 H.size (by first | assumption | omega) (by first | assumption | omega)) (cwV 2 hts gX4_copyPoint_X4_number rfl rfl rfl (by decide +kernel) ⟨Nat.le_of_ble_eq_true rfl, Nat.le_of_ble_eq_true rfl⟩) (m_preV hZ hK hP hD [0, 1, 2, 3] rfl (by decide) (va_recv hK hP (ci := 4) (q0 := 0) rfl rfl)) rfl rfl hl.1 rfl (lv_room (Nat.le_of_ble_eq_true rfl)) dX4_copyPoint_11 ⟨Nat.le_of_ble_eq_true rfl, Nat.le_of_ble_eq_true rfl⟩) hP hD hS hA [0, 1, 2, 3] [] [0, 1, 2, 3] rfl rfl (by decide) (by decide) rfl (by decide) (fun H locs hP hD hS => ?_)
  refine m_runv (wc := [(h, .inr (4, [.int (iI am), .ref qt, .ref qv, .ref qs, .int (iI sb), .int (iI sp), .int (iI gs)])), (qt, .inl (cI, 160, .inl (aI tt))), (qv, .inl (cI, 160, .inl (aI vv))), (qs, .inl (cI, 9, .inl (aI zz)))]) (wc' := [(h, .inr (4, [.int (iI am), .ref qt, .ref qv, .ref qs, .int (iI sb), .int (iI sp), .int (iI gs)])), (qt, .inl (cI, 160, .inl (aI (uI tt k (tt i))))), (qv, .inl (cI, 160, .inl (aI (uI vv k (vv i))))), (qs, .inl (cI, 9, .inl (aI zz)))]) (wr := []) (ws' := [(h, .inr (4, [.int (iI am), .ref qt, .ref qv, .ref qs, .int (iI sb), .int (iI sp), .int (iI gs)])), (qt, .inl (cI, 160, .inl (aI (uI tt k (tt i))))), (qv, .inl (cI, 160, .inl (aI (uI vv k (vv i))))), (qs, .inl (cI, 9, .inl (aI zz)))]) (va_runV (As := [.int (iI k), .int (iI (tt i)), .int (iI (vv i))]) (rest := []) ⟨hx, hb, hml, hown, hts⟩ (c_X4_write l dC dI cI cO h qt qv qs am tt vv zz sb sp gs k (tt i) (vv i) H.size (by first | assumption | omega)) (cwV 3 hts gX4_copyPoint_X4_write rfl rfl rfl (by decide +kernel) ⟨Nat.le_of_ble_eq_true rfl, Nat.le_of_ble_eq_true rfl⟩) (m_preV hZ hK hP hD [0, 1, 2, 3] rfl (by decide) (va_recv hK hP (ci := 4) (q0 := 0) rfl rfl)) rfl rfl hl.1 rfl (lv_room (Nat.le_of_ble_eq_true rfl)) dX4_copyPoint_14 ⟨Nat.le_of_ble_eq_true rfl, Nat.le_of_ble_eq_true rfl⟩) hP hD hS hA [0, 1, 2, 3] [] [0, 1, 2, 3] rfl rfl (by decide) (by decide) rfl (by decide) (fun H locs hP hD hS => ?_)
  exact mi_vret hx hb hQ hr hlocks hAe hsz hP hD hS rfl dX4_copyPoint_17

set_option maxRecDepth 100000 in
set_option maxHeartbeats 4000000 in
theorem c_X4_startOf (l : Launch) (dC : Nat → ClassId) (dI : Nat → Nat → Nat) (cI cO : ClassId) (h : Nat) (qt : Nat) (qv : Nat) (qs : Nat) (am : Int) (tt : fI) (vv : fI) (zz : fI) (sb : Int) (sp : Int) (gs : Int) (b : Int) (sz : Nat) (hb : 0 ≤ b ∧ b ≤ sb) (hsb : 0 ≤ sb ∧ sb ≤ 9) : Met l yX4_startOf wsX4_startOf ({ frames := 1, cells := 0, slots := 0, locals := 21 }) (mPc (dC, dI) [(cI, .int), (cO, .object "java/lang/Object")] [.ref h, .int (iI b)] sz [(h, .inr (4, [.int (iI am), .ref qt, .ref qv, .ref qs, .int (iI sb), .int (iI sp), .int (iI gs)])), (qt, .inl (cI, 160, .inl (aI tt))), (qv, .inl (cI, 160, .inl (aI vv))), (qs, .inl (cI, 9, .inl (aI zz)))]) (mQi (dC, dI) [(h, .inr (4, [.int (iI am), .ref qt, .ref qv, .ref qs, .int (iI sb), .int (iI sp), .int (iI gs)])), (qt, .inl (cI, 160, .inl (aI tt))), (qv, .inl (cI, 160, .inl (aI vv))), (qs, .inl (cI, 9, .inl (aI zz)))] [(h, .inr (4, [.int (iI am), .ref qt, .ref qv, .ref qs, .int (iI sb), .int (iI sp), .int (iI gs)])), (qt, .inl (cI, 160, .inl (aI tt))), (qv, .inl (cI, 160, .inl (aI vv))), (qs, .inl (cI, 9, .inl (aI zz)))] sz (sm zz b)) 0 0 (va_A [(h, .inr (4, [.int (iI am), .ref qt, .ref qv, .ref qs, .int (iI sb), .int (iI sp), .int (iI gs)])), (qt, .inl (cI, 160, .inl (aI tt))), (qv, .inl (cI, 160, .inl (aI vv))), (qs, .inl (cI, 9, .inl (aI zz)))] sz) := by
  refine mMet (cc := cX4_startOf) (maxL := 4) (ret := (some .int)) (by decide) rfl (Nat.le_of_ble_eq_true rfl) ?_
  intro p e s m args below meth c A ls hx hb hr hts hown hlocks hin hml hAe hsz hA hD H hHe hP hK hZ hS hl Q hQ
  have hl : lv_has ls 4 [(0, .ref h), (1, .int (iI b))] := hl
  have hf21 := hts (.fieldLink RX4 21 "MeridianSeries$Points" "sealedBlocks" "I") (by decide +kernel)
  have hi_X4 : ∀ w ∈ u_ws RX4 TX4 7, w ∈ wsX4_startOf := by decide +kernel
  refine mi_iconst hx hb dX4_startOf_0 ?_
  refine lv_istore_n (lv' := [(2, .int (iI 0)), (0, .ref h), (1, .int (iI b))]) hx hb dX4_startOf_1 rfl hl (by decide) rfl (fun ls hl => ?_)
  refine mi_iconst hx hb dX4_startOf_2 ?_
  refine lv_istore_n (lv' := [(3, .int (iI 0)), (2, .int (iI 0)), (0, .ref h), (1, .int (iI b))]) hx hb dX4_startOf_3 rfl hl (by decide) rfl (fun ls hl => ?_)
  have lp4 : ∀ (k : Nat) (i : Int), (b - i).toNat < k → 0 ≤ i ∧ i ≤ b → ∀ (H : Heap) (locs : List Loc) (ls : Array Slot), va_P (dC, dI) vwCl [(h, .inr (4, [.int (iI am), .ref qt, .ref qv, .ref qs, .int (iI sb), .int (iI sp), .int (iI gs)])), (qt, .inl (cI, 160, .inl (aI tt))), (qv, .inl (cI, 160, .inl (aI vv))), (qs, .inl (cI, 9, .inl (aI zz)))] H → va_D A [(h, .inr (4, [.int (iI am), .ref qt, .ref qv, .ref qs, .int (iI sb), .int (iI sp), .int (iI gs)])), (qt, .inl (cI, 160, .inl (aI tt))), (qv, .inl (cI, 160, .inl (aI vv))), (qs, .inl (cI, 9, .inl (aI zz)))] → va_S A s.heap H locs → lv_has ls 4 [(0, .ref h), (1, .int (iI b)), (2, .int (iI (sm zz i))), (3, .int (iI i))] → W p l e { frames := 1, cells := 0, slots := 0, locals := 21 } s m args below meth c H locs 0 0 Q (F0 m 4 ls []) := by
    intro k
    induction k with
    | zero => intro i hm; exact absurd hm (Nat.not_lt_zero _)
    | succ k ih4 =>
      intro i hm hi H locs ls hP hD hS hl
      refine lv_iload_n hx hb dX4_startOf_4 rfl (lv_at hl 3 rfl) ?_
      refine lv_iload_n hx hb dX4_startOf_5 rfl (lv_at hl 1 rfl) ?_
      refine mi_icmp_ge (tgt := 31) hx hb (by omega) (by omega) dX4_startOf_6 (by decide) (fun c_1 => ?_) (fun c_1 => ?_)
      · refine lv_iload_n hx hb dX4_startOf_31 rfl (lv_at hl 2 rfl) ?_
        exact mi_iret hx hb hQ hr hlocks hAe hsz hP hD hS (by rw [show i = b by omega]) rfl dX4_startOf_32
      · refine lv_iload_n hx hb dX4_startOf_9 rfl (lv_at hl 3 rfl) ?_
        refine lv_aload_n hx hb dX4_startOf_10 rfl (lv_at hl 0 rfl) ?_
        refine va_get (ci := 4) (v := .int (iI sb)) (C := RX4) (T := TX4) (N := 7) hx hb hts hi_X4 hown hK hP 0 rfl rfl 4 (by decide) hf21 (fun _ h9 => h9) rfl dX4_startOf_11 ?_
        refine mi_icmp_ge (tgt := 31) hx hb (by omega) (by omega) dX4_startOf_14 (by decide) (fun c_2 => ?_) (fun c_2 => ?_)
        · exfalso; omega
        · refine lv_iload_n hx hb dX4_startOf_17 rfl (lv_at hl 2 rfl) ?_
          refine lv_aload_n hx hb dX4_startOf_18 rfl (lv_at hl 0 rfl) ?_
          refine lv_iload_n hx hb dX4_startOf_19 rfl (lv_at hl 3 rfl) ?_
          refine m_run (wc := [(h, .inr (4, [.int (iI am), .ref qt, .ref qv, .ref qs, .int (iI sb), .int (iI sp), .int (iI gs)])), (qt, .inl (cI, 160, .inl (aI tt))), (qv, .inl (cI, 160, .inl (aI vv))), (qs, .inl (cI, 9, .inl (aI zz)))]) (wc' := [(h, .inr (4, [.int (iI am), .ref qt, .ref qv, .ref qs, .int (iI sb), .int (iI sp), .int (iI gs)])), (qt, .inl (cI, 160, .inl (aI tt))), (qv, .inl (cI, 160, .inl (aI vv))), (qs, .inl (cI, 9, .inl (aI zz)))]) (wr := []) (ws' := [(h, .inr (4, [.int (iI am), .ref qt, .ref qv, .ref qs, .int (iI sb), .int (iI sp), .int (iI gs)])), (qt, .inl (cI, 160, .inl (aI tt))), (qv, .inl (cI, 160, .inl (aI vv))), (qs, .inl (cI, 9, .inl (aI zz)))]) (va_runV (As := [.int (iI i)]) (rest := [.int (iI (sm zz i))]) ⟨hx, hb, hml, hown, hts⟩ (c_X4_sizeOf_s l dC dI cI cO h qt qv qs am tt vv zz sb sp gs i H.size (by first | assumption | omega) (by first | assumption | omega)) (cwV 1 hts gX4_startOf_X4_sizeOf rfl rfl rfl (by decide +kernel) ⟨Nat.le_of_ble_eq_true rfl, Nat.le_of_ble_eq_true rfl⟩) (m_preV hZ hK hP hD [0, 1, 2, 3] rfl (by decide) (va_recv hK hP (ci := 4) (q0 := 0) rfl rfl)) rfl rfl hl.1 rfl (lv_room (Nat.le_of_ble_eq_true rfl)) dX4_startOf_20 ⟨Nat.le_of_ble_eq_true rfl, Nat.le_of_ble_eq_true rfl⟩) hP hD hS hA [0, 1, 2, 3] [] [0, 1, 2, 3] rfl rfl (by decide) (by decide) rfl (by decide) (fun H locs hP hD hS => ?_)
          refine mi_iadd hx hb dX4_startOf_23 ?_
          refine lv_istore_n (lv' := [(2, .int (iI ((sm zz i) + (zz i)))), (0, .ref h), (1, .int (iI b)), (3, .int (iI i))]) hx hb dX4_startOf_24 rfl hl (by decide) rfl (fun ls hl => ?_)
          refine mi_iinc (b := i + 1) (lv' := [(3, .int (iI (i + 1))), (2, .int (iI ((sm zz i) + (zz i)))), (0, .ref h), (1, .int (iI b))]) hx hb dX4_startOf_25 hl (k := 3) rfl (by decide) (by omega) rfl (fun ls hl => ?_)
          refine lv_goto (tgt := 4) hx hb dX4_startOf_28 (by decide) ?_
          rw [← sm_s zz hi.1] at hl
          exact ih4 (i + 1) (by omega) (by first | assumption | omega) _ _ _ hP hD hS (lv_sub hl [2, 3, 1, 0] rfl)
  exact lp4 _ 0 (Nat.lt_succ_self _) (by first | assumption | omega) _ _ _ hP hD hS (lv_sub hl [2, 3, 1, 0] rfl)

set_option maxRecDepth 100000 in
set_option maxHeartbeats 4000000 in
theorem c_X4_placeOf (l : Launch) (dC : Nat → ClassId) (dI : Nat → Nat → Nat) (cI cO : ClassId) (h : Nat) (qt : Nat) (qv : Nat) (qs : Nat) (am : Int) (tt : fI) (vv : fI) (zz : fI) (sb : Int) (sp : Int) (gs : Int) (t : Int) (pl : Int) (sz : Nat) (ham : 0 ≤ am ∧ am ≤ 160) (hsp : 0 ≤ sp ∧ sp ≤ am) (ht : 0 ≤ t ∧ t ≤ 99999) (htt : ∀ j, 0 ≤ tt j ∧ tt j ≤ 99999) (hp1 : sp ≤ pl ∧ pl ≤ am) (hp2 : ∀ j, sp ≤ j → j < pl → tt j < t) (hp3 : pl < am → t ≤ tt pl) : Met l yX4_placeOf wsX4_placeOf ({ frames := 1, cells := 0, slots := 0, locals := 22 }) (mPc (dC, dI) [(cI, .int), (cO, .object "java/lang/Object")] [.ref h, .int (iI t)] sz [(h, .inr (4, [.int (iI am), .ref qt, .ref qv, .ref qs, .int (iI sb), .int (iI sp), .int (iI gs)])), (qt, .inl (cI, 160, .inl (aI tt))), (qv, .inl (cI, 160, .inl (aI vv))), (qs, .inl (cI, 9, .inl (aI zz)))]) (mQi (dC, dI) [(h, .inr (4, [.int (iI am), .ref qt, .ref qv, .ref qs, .int (iI sb), .int (iI sp), .int (iI gs)])), (qt, .inl (cI, 160, .inl (aI tt))), (qv, .inl (cI, 160, .inl (aI vv))), (qs, .inl (cI, 9, .inl (aI zz)))] [(h, .inr (4, [.int (iI am), .ref qt, .ref qv, .ref qs, .int (iI sb), .int (iI sp), .int (iI gs)])), (qt, .inl (cI, 160, .inl (aI tt))), (qv, .inl (cI, 160, .inl (aI vv))), (qs, .inl (cI, 9, .inl (aI zz)))] sz pl) 0 0 (va_A [(h, .inr (4, [.int (iI am), .ref qt, .ref qv, .ref qs, .int (iI sb), .int (iI sp), .int (iI gs)])), (qt, .inl (cI, 160, .inl (aI tt))), (qv, .inl (cI, 160, .inl (aI vv))), (qs, .inl (cI, 9, .inl (aI zz)))] sz) := by
  refine mMet (cc := cX4_placeOf) (maxL := 3) (ret := (some .int)) (by decide) rfl (Nat.le_of_ble_eq_true rfl) ?_
  intro p e s m args below meth c A ls hx hb hr hts hown hlocks hin hml hAe hsz hA hD H hHe hP hK hZ hS hl Q hQ
  have hl : lv_has ls 3 [(0, .ref h), (1, .int (iI t))] := hl
  have hf25 := hts (.fieldLink RX4 25 "MeridianSeries$Points" "sealedPoints" "I") (by decide +kernel)
  have hi_X4 : ∀ w ∈ u_ws RX4 TX4 7, w ∈ wsX4_placeOf := by decide +kernel
  have hf31 := hts (.fieldLink RX4 31 "MeridianSeries$Points" "amount" "I") (by decide +kernel)
  have hs31 := hts (.sameField "MeridianSeries$Points" "MeridianSeries$Items" "amount" "I") (by decide +kernel)
  refine lv_aload_n hx hb dX4_placeOf_0 rfl (lv_at hl 0 rfl) ?_
  refine va_get (ci := 4) (v := .int (iI sp)) (C := RX4) (T := TX4) (N := 7) hx hb hts hi_X4 hown hK hP 0 rfl rfl 5 (by decide) hf25 (fun _ h9 => h9) rfl dX4_placeOf_1 ?_
  refine lv_istore_n (lv' := [(2, .int (iI sp)), (0, .ref h), (1, .int (iI t))]) hx hb dX4_placeOf_4 rfl hl (by decide) rfl (fun ls hl => ?_)
  have lp5 : ∀ (k : Nat) (i : Int), (am - i).toNat < k → sp ≤ i ∧ i ≤ pl → ∀ (H : Heap) (locs : List Loc) (ls : Array Slot), va_P (dC, dI) vwCl [(h, .inr (4, [.int (iI am), .ref qt, .ref qv, .ref qs, .int (iI sb), .int (iI sp), .int (iI gs)])), (qt, .inl (cI, 160, .inl (aI tt))), (qv, .inl (cI, 160, .inl (aI vv))), (qs, .inl (cI, 9, .inl (aI zz)))] H → va_D A [(h, .inr (4, [.int (iI am), .ref qt, .ref qv, .ref qs, .int (iI sb), .int (iI sp), .int (iI gs)])), (qt, .inl (cI, 160, .inl (aI tt))), (qv, .inl (cI, 160, .inl (aI vv))), (qs, .inl (cI, 9, .inl (aI zz)))] → va_S A s.heap H locs → lv_has ls 3 [(0, .ref h), (1, .int (iI t)), (2, .int (iI i))] → W p l e { frames := 1, cells := 0, slots := 0, locals := 22 } s m args below meth c H locs 0 0 Q (F0 m 5 ls []) := by
    intro k
    induction k with
    | zero => intro i hm; exact absurd hm (Nat.not_lt_zero _)
    | succ k ih5 =>
      intro i hm hi H locs ls hP hD hS hl
      refine lv_iload_n hx hb dX4_placeOf_5 rfl (lv_at hl 2 rfl) ?_
      refine lv_aload_n hx hb dX4_placeOf_6 rfl (lv_at hl 0 rfl) ?_
      refine va_get (ci := 4) (v := .int (iI am)) (C := RX4) (T := TX4) (N := 7) hx hb hts hi_X4 hown hK hP 0 rfl rfl 0 (by decide) hf31 (fun x9 h9 => u_same hs31 x9 h9) rfl dX4_placeOf_7 ?_
      refine mi_icmp_ge (tgt := 31) hx hb (by omega) (by omega) dX4_placeOf_10 (by decide) (fun c_1 => ?_) (fun c_1 => ?_)
      · refine lv_aload_n hx hb dX4_placeOf_31 rfl (lv_at hl 0 rfl) ?_
        refine va_get (ci := 4) (v := .int (iI am)) (C := RX4) (T := TX4) (N := 7) hx hb hts hi_X4 hown hK hP 0 rfl rfl 0 (by decide) hf31 (fun x9 h9 => u_same hs31 x9 h9) rfl dX4_placeOf_32 ?_
        exact mi_iret hx hb hQ hr hlocks hAe hsz hP hD hS (by first | rfl | omega | (split <;> omega)) rfl dX4_placeOf_35
      · refine lv_aload_n hx hb dX4_placeOf_13 rfl (lv_at hl 0 rfl) ?_
        refine lv_iload_n hx hb dX4_placeOf_14 rfl (lv_at hl 2 rfl) ?_
        refine mi_iconst hx hb dX4_placeOf_15 ?_
        refine m_run (wc := [(h, .inr (4, [.int (iI am), .ref qt, .ref qv, .ref qs, .int (iI sb), .int (iI sp), .int (iI gs)])), (qt, .inl (cI, 160, .inl (aI tt))), (qv, .inl (cI, 160, .inl (aI vv))), (qs, .inl (cI, 9, .inl (aI zz)))]) (wc' := [(h, .inr (4, [.int (iI am), .ref qt, .ref qv, .ref qs, .int (iI sb), .int (iI sp), .int (iI gs)])), (qt, .inl (cI, 160, .inl (aI tt))), (qv, .inl (cI, 160, .inl (aI vv))), (qs, .inl (cI, 9, .inl (aI zz)))]) (wr := []) (ws' := [(h, .inr (4, [.int (iI am), .ref qt, .ref qv, .ref qs, .int (iI sb), .int (iI sp), .int (iI gs)])), (qt, .inl (cI, 160, .inl (aI tt))), (qv, .inl (cI, 160, .inl (aI vv))), (qs, .inl (cI, 9, .inl (aI zz)))]) (va_runV (As := [.int (iI i), .int (iI 0)]) (rest := []) ⟨hx, hb, hml, hown, hts⟩ (c_X4_number_t l dC dI cI cO h qt qv qs am tt vv zz sb sp gs i H.size (by first | assumption | omega)) (cwV 2 hts gX4_placeOf_X4_number rfl rfl rfl (by decide +kernel) ⟨Nat.le_of_ble_eq_true rfl, Nat.le_of_ble_eq_true rfl⟩) (m_preV hZ hK hP hD [0, 1, 2, 3] rfl (by decide) (va_recv hK hP (ci := 4) (q0 := 0) rfl rfl)) rfl rfl hl.1 rfl (lv_room (Nat.le_of_ble_eq_true rfl)) dX4_placeOf_16 ⟨Nat.le_of_ble_eq_true rfl, Nat.le_of_ble_eq_true rfl⟩) hP hD hS hA [0, 1, 2, 3] [] [0, 1, 2, 3] rfl rfl (by decide) (by decide) rfl (by decide) (fun H locs hP hD hS => ?_)
        have q8 := htt i
        refine lv_iload_n hx hb dX4_placeOf_19 rfl (lv_at hl 1 rfl) ?_
        refine mi_icmp_lt (tgt := 25) hx hb (by omega) (by omega) dX4_placeOf_20 (by decide) (fun c_2 => ?_) (fun c_2 => ?_)
        · have q7 : i < pl := Decidable.byContradiction fun q => by
            have q6 : i = pl := by omega
            rw [← q6] at hp3
            have q5 := hp3 (by omega)
            omega
          refine mi_iinc (b := i + 1) (lv' := [(2, .int (iI (i + 1))), (0, .ref h), (1, .int (iI t))]) hx hb dX4_placeOf_25 hl (k := 2) rfl (by decide) (by omega) rfl (fun ls hl => ?_)
          refine lv_goto (tgt := 5) hx hb dX4_placeOf_28 (by decide) ?_
          exact ih5 (i + 1) (by omega) (by omega) _ _ _ hP hD hS (lv_sub hl [1, 2, 0] rfl)
        · have q7 : i = pl := Decidable.byContradiction fun q => by
            have q5 := hp2 i (by omega) (by omega)
            omega
          refine lv_iload_n hx hb dX4_placeOf_23 rfl (lv_at hl 2 rfl) ?_
          exact mi_iret hx hb hQ hr hlocks hAe hsz hP hD hS (by first | rfl | omega | (split <;> omega)) rfl dX4_placeOf_24
  exact lp5 _ sp (Nat.lt_succ_self _) (by first | assumption | omega) _ _ _ hP hD hS (lv_sub hl [1, 2, 0] rfl)

set_option maxRecDepth 100000 in
set_option maxHeartbeats 4000000 in
theorem c_X4_add_n (l : Launch) (dC : Nat → ClassId) (dI : Nat → Nat → Nat) (cI cO : ClassId) (h : Nat) (qt : Nat) (qv : Nat) (qs : Nat) (am : Int) (tt : fI) (vv : fI) (zz : fI) (sb : Int) (sp : Int) (gs : Int) (t : Int) (v : Int) (pl : Int) (sz : Nat) (ham : 0 ≤ am ∧ am ≤ 160) (hsp : 0 ≤ sp ∧ sp ≤ am) (ht : 0 ≤ t ∧ t ≤ 99999) (htt : ∀ j, 0 ≤ tt j ∧ tt j ≤ 99999) (hp1 : sp ≤ pl ∧ pl ≤ am) (hp2 : ∀ j, sp ≤ j → j < pl → tt j < t) (hp3 : pl < am → t ≤ tt pl) (hn : pl < am → tt pl ≠ t) (ha2 : am < 160) : Met l yX4_add wsX4_add ({ frames := 2, cells := 0, slots := 0, locals := 45 }) (mPc (dC, dI) [(cI, .int), (cO, .object "java/lang/Object")] [.ref h, .int (iI t), .int (iI v)] sz [(h, .inr (4, [.int (iI am), .ref qt, .ref qv, .ref qs, .int (iI sb), .int (iI sp), .int (iI gs)])), (qt, .inl (cI, 160, .inl (aI tt))), (qv, .inl (cI, 160, .inl (aI vv))), (qs, .inl (cI, 9, .inl (aI zz)))]) (mQv (dC, dI) [(h, .inr (4, [.int (iI am), .ref qt, .ref qv, .ref qs, .int (iI sb), .int (iI sp), .int (iI gs)])), (qt, .inl (cI, 160, .inl (aI tt))), (qv, .inl (cI, 160, .inl (aI vv))), (qs, .inl (cI, 9, .inl (aI zz)))] [(h, .inr (4, [.int (iI (am + 1)), .ref qt, .ref qv, .ref qs, .int (iI sb), .int (iI sp), .int (iI gs)])), (qt, .inl (cI, 160, .inl (aI (uI (shK tt pl am) pl t)))), (qv, .inl (cI, 160, .inl (aI (uI (shK vv pl am) pl v)))), (qs, .inl (cI, 9, .inl (aI zz)))] sz) 0 0 (va_A [(h, .inr (4, [.int (iI am), .ref qt, .ref qv, .ref qs, .int (iI sb), .int (iI sp), .int (iI gs)])), (qt, .inl (cI, 160, .inl (aI tt))), (qv, .inl (cI, 160, .inl (aI vv))), (qs, .inl (cI, 9, .inl (aI zz)))] sz) := by
  refine mMet (cc := cX4_add) (maxL := 5) (ret := none) (by decide) rfl (Nat.le_of_ble_eq_true rfl) ?_
  intro p e s m args below meth c A ls hx hb hr hts hown hlocks hin hml hAe hsz hA hD H hHe hP hK hZ hS hl Q hQ
  have hl : lv_has ls 5 [(0, .ref h), (1, .int (iI t)), (2, .int (iI v))] := hl
  have hf31 := hts (.fieldLink RX4 31 "MeridianSeries$Points" "amount" "I") (by decide +kernel)
  have hs31 := hts (.sameField "MeridianSeries$Points" "MeridianSeries$Items" "amount" "I") (by decide +kernel)
  have hi_X4 : ∀ w ∈ u_ws RX4 TX4 7, w ∈ wsX4_add := by decide +kernel
  refine lv_aload_n hx hb dX4_add_0 rfl (lv_at hl 0 rfl) ?_
  refine lv_iload_n hx hb dX4_add_1 rfl (lv_at hl 1 rfl) ?_
  refine m_run (wc := [(h, .inr (4, [.int (iI am), .ref qt, .ref qv, .ref qs, .int (iI sb), .int (iI sp), .int (iI gs)])), (qt, .inl (cI, 160, .inl (aI tt))), (qv, .inl (cI, 160, .inl (aI vv))), (qs, .inl (cI, 9, .inl (aI zz)))]) (wc' := [(h, .inr (4, [.int (iI am), .ref qt, .ref qv, .ref qs, .int (iI sb), .int (iI sp), .int (iI gs)])), (qt, .inl (cI, 160, .inl (aI tt))), (qv, .inl (cI, 160, .inl (aI vv))), (qs, .inl (cI, 9, .inl (aI zz)))]) (wr := []) (ws' := [(h, .inr (4, [.int (iI am), .ref qt, .ref qv, .ref qs, .int (iI sb), .int (iI sp), .int (iI gs)])), (qt, .inl (cI, 160, .inl (aI tt))), (qv, .inl (cI, 160, .inl (aI vv))), (qs, .inl (cI, 9, .inl (aI zz)))]) (va_runV (As := [.int (iI t)]) (rest := []) ⟨hx, hb, hml, hown, hts⟩ (c_X4_placeOf l dC dI cI cO h qt qv qs am tt vv zz sb sp gs t pl H.size (by first | assumption | omega) (by first | assumption | omega) (by first | assumption | omega) (by first | assumption | omega) (by first | assumption | omega) (by first | assumption | omega) (by first | assumption | omega)) (cwV 1 hts gX4_add_X4_placeOf rfl rfl rfl (by decide +kernel) ⟨Nat.le_of_ble_eq_true rfl, Nat.le_of_ble_eq_true rfl⟩) (m_preV hZ hK hP hD [0, 1, 2, 3] rfl (by decide) (va_recv hK hP (ci := 4) (q0 := 0) rfl rfl)) rfl rfl hl.1 rfl (lv_room (Nat.le_of_ble_eq_true rfl)) dX4_add_2 ⟨Nat.le_of_ble_eq_true rfl, Nat.le_of_ble_eq_true rfl⟩) hP hD hS hA [0, 1, 2, 3] [] [0, 1, 2, 3] rfl rfl (by decide) (by decide) rfl (by decide) (fun H locs hP hD hS => ?_)
  refine lv_istore_n (lv' := [(3, .int (iI pl)), (0, .ref h), (1, .int (iI t)), (2, .int (iI v))]) hx hb dX4_add_5 rfl hl (by decide) rfl (fun ls hl => ?_)
  refine lv_aload_n hx hb dX4_add_6 rfl (lv_at hl 1 rfl) ?_
  refine lv_iload_n hx hb dX4_add_7 rfl (lv_at hl 0 rfl) ?_
  refine lv_iload_n hx hb dX4_add_8 rfl (lv_at hl 2 rfl) ?_
  refine m_run (wc := [(h, .inr (4, [.int (iI am), .ref qt, .ref qv, .ref qs, .int (iI sb), .int (iI sp), .int (iI gs)])), (qt, .inl (cI, 160, .inl (aI tt))), (qv, .inl (cI, 160, .inl (aI vv))), (qs, .inl (cI, 9, .inl (aI zz)))]) (wc' := [(h, .inr (4, [.int (iI am), .ref qt, .ref qv, .ref qs, .int (iI sb), .int (iI sp), .int (iI gs)])), (qt, .inl (cI, 160, .inl (aI tt))), (qv, .inl (cI, 160, .inl (aI vv))), (qs, .inl (cI, 9, .inl (aI zz)))]) (wr := []) (ws' := [(h, .inr (4, [.int (iI am), .ref qt, .ref qv, .ref qs, .int (iI sb), .int (iI sp), .int (iI gs)])), (qt, .inl (cI, 160, .inl (aI tt))), (qv, .inl (cI, 160, .inl (aI vv))), (qs, .inl (cI, 9, .inl (aI zz)))]) (va_runV (As := [.int (iI pl), .int (iI t)]) (rest := []) ⟨hx, hb, hml, hown, hts⟩ (c_X4_isTakenAt_0 l dC dI cI cO h qt qv qs am tt vv zz sb sp gs pl t H.size (by first | assumption | omega) (by first | assumption | omega) (by first | assumption | omega) (by first | assumption | omega) (by first | assumption | omega)) (cwV 2 hts gX4_add_X4_isTakenAt rfl rfl rfl (by decide +kernel) ⟨Nat.le_of_ble_eq_true rfl, Nat.le_of_ble_eq_true rfl⟩) (m_preV hZ hK hP hD [0, 1, 2, 3] rfl (by decide) (va_recv hK hP (ci := 4) (q0 := 0) rfl rfl)) rfl rfl hl.1 rfl (lv_room (Nat.le_of_ble_eq_true rfl)) dX4_add_9 ⟨Nat.le_of_ble_eq_true rfl, Nat.le_of_ble_eq_true rfl⟩) hP hD hS hA [0, 1, 2, 3] [] [0, 1, 2, 3] rfl rfl (by decide) (by decide) rfl (by decide) (fun H locs hP hD hS => ?_)
  refine mi_if_ne (tgt := 53) hx hb (by decide) dX4_add_12 (by decide) (fun c_1 => ?_) (fun c_1 => ?_)
  · exfalso; omega
  · refine lv_aload_n hx hb dX4_add_15 rfl (lv_at hl 1 rfl) ?_
    refine va_get (ci := 4) (v := .int (iI am)) (C := RX4) (T := TX4) (N := 7) hx hb hts hi_X4 hown hK hP 0 rfl rfl 0 (by decide) hf31 (fun x9 h9 => u_same hs31 x9 h9) rfl dX4_add_16 ?_
    refine lv_istore (lv' := [(4, .int (iI am)), (3, .int (iI pl)), (0, .ref h), (1, .int (iI t)), (2, .int (iI v))]) hx hb dX4_add_19 hl (by decide) rfl (fun ls hl => ?_)
    have lp21 : ∀ (k : Nat) (i : Int), (i - pl).toNat < k → pl ≤ i ∧ i ≤ am → ∀ (H : Heap) (locs : List Loc) (ls : Array Slot), va_P (dC, dI) vwCl [(h, .inr (4, [.int (iI am), .ref qt, .ref qv, .ref qs, .int (iI sb), .int (iI sp), .int (iI gs)])), (qt, .inl (cI, 160, .inl (aI (shK tt i am)))), (qv, .inl (cI, 160, .inl (aI (shK vv i am)))), (qs, .inl (cI, 9, .inl (aI zz)))] H → va_D A [(h, .inr (4, [.int (iI am), .ref qt, .ref qv, .ref qs, .int (iI sb), .int (iI sp), .int (iI gs)])), (qt, .inl (cI, 160, .inl (aI (shK tt i am)))), (qv, .inl (cI, 160, .inl (aI (shK vv i am)))), (qs, .inl (cI, 9, .inl (aI zz)))] → va_S A s.heap H locs → lv_has ls 5 [(0, .ref h), (1, .int (iI t)), (2, .int (iI v)), (3, .int (iI pl)), (4, .int (iI i))] → W p l e { frames := 2, cells := 0, slots := 0, locals := 45 } s m args below meth c H locs 0 0 Q (F0 m 21 ls []) := by
      intro k
      induction k with
      | zero => intro i hm; exact absurd hm (Nat.not_lt_zero _)
      | succ k ih21 =>
        intro i hm hi H locs ls hP hD hS hl
        refine lv_iload hx hb dX4_add_21 (lv_at hl 4 rfl) ?_
        refine lv_iload_n hx hb dX4_add_23 rfl (lv_at hl 3 rfl) ?_
        refine mi_icmp_le (tgt := 43) hx hb (by omega) (by omega) dX4_add_24 (by decide) (fun c_2 => ?_) (fun c_2 => ?_)
        · have e_3 : pl = i := by omega
          subst e_3
          refine lv_aload_n hx hb dX4_add_43 rfl (lv_at hl 0 rfl) ?_
          refine lv_dup hx hb dX4_add_44 rfl ?_
          refine va_get (ci := 4) (v := .int (iI am)) (C := RX4) (T := TX4) (N := 7) hx hb hts hi_X4 hown hK hP 0 rfl rfl 0 (by decide) hf31 (fun x9 h9 => u_same hs31 x9 h9) rfl dX4_add_45 ?_
          refine mi_iconst hx hb dX4_add_48 ?_
          refine mi_iadd hx hb dX4_add_49 ?_
          refine va_put (D := (dC, dI)) (ci := 4) (v := .int (iI (am + 1))) (ty := .int) (C := RX4) (T := TX4) (N := 7) hx hb hts hi_X4 tyX4 tyX4_ok nmX4 hown hK hP hD hS 0 rfl rfl 0 (by decide) hf31 (fun x9 h9 => u_same hs31 x9 h9) rfl (by decide +kernel) rfl rfl (Nat.le_of_ble_eq_true rfl) dX4_add_50 (fun H locs hP hD hS => ?_)
          have hP : va_P (dC, dI) vwCl [(h, .inr (4, [.int (iI (am + 1)), .ref qt, .ref qv, .ref qs, .int (iI sb), .int (iI sp), .int (iI gs)])), (qt, .inl (cI, 160, .inl (aI (shK tt pl am)))), (qv, .inl (cI, 160, .inl (aI (shK vv pl am)))), (qs, .inl (cI, 9, .inl (aI zz)))] H := hP
          have hD : va_D A [(h, .inr (4, [.int (iI (am + 1)), .ref qt, .ref qv, .ref qs, .int (iI sb), .int (iI sp), .int (iI gs)])), (qt, .inl (cI, 160, .inl (aI (shK tt pl am)))), (qv, .inl (cI, 160, .inl (aI (shK vv pl am)))), (qs, .inl (cI, 9, .inl (aI zz)))] := hD
          refine lv_aload_n hx hb dX4_add_53 rfl (lv_at hl 0 rfl) ?_
          refine lv_iload_n hx hb dX4_add_54 rfl (lv_at hl 3 rfl) ?_
          refine lv_iload_n hx hb dX4_add_55 rfl (lv_at hl 1 rfl) ?_
          refine lv_iload_n hx hb dX4_add_56 rfl (lv_at hl 2 rfl) ?_
          refine m_runv (wc := [(h, .inr (4, [.int (iI (am + 1)), .ref qt, .ref qv, .ref qs, .int (iI sb), .int (iI sp), .int (iI gs)])), (qt, .inl (cI, 160, .inl (aI (shK tt pl am)))), (qv, .inl (cI, 160, .inl (aI (shK vv pl am)))), (qs, .inl (cI, 9, .inl (aI zz)))]) (wc' := [(h, .inr (4, [.int (iI (am + 1)), .ref qt, .ref qv, .ref qs, .int (iI sb), .int (iI sp), .int (iI gs)])), (qt, .inl (cI, 160, .inl (aI (uI (shK tt pl am) pl t)))), (qv, .inl (cI, 160, .inl (aI (uI (shK vv pl am) pl v)))), (qs, .inl (cI, 9, .inl (aI zz)))]) (wr := []) (ws' := [(h, .inr (4, [.int (iI (am + 1)), .ref qt, .ref qv, .ref qs, .int (iI sb), .int (iI sp), .int (iI gs)])), (qt, .inl (cI, 160, .inl (aI (uI (shK tt pl am) pl t)))), (qv, .inl (cI, 160, .inl (aI (uI (shK vv pl am) pl v)))), (qs, .inl (cI, 9, .inl (aI zz)))]) (va_runV (As := [.int (iI pl), .int (iI t), .int (iI v)]) (rest := []) ⟨hx, hb, hml, hown, hts⟩ (c_X4_write l dC dI cI cO h qt qv qs (am + 1) (shK tt pl am) (shK vv pl am) zz sb sp gs pl t v H.size (by first | assumption | omega)) (cwV 3 hts gX4_add_X4_write rfl rfl rfl (by decide +kernel) ⟨Nat.le_of_ble_eq_true rfl, Nat.le_of_ble_eq_true rfl⟩) (m_preV hZ hK hP hD [0, 1, 2, 3] rfl (by decide) (va_recv hK hP (ci := 4) (q0 := 0) rfl rfl)) rfl rfl hl.1 rfl (lv_room (Nat.le_of_ble_eq_true rfl)) dX4_add_57 ⟨Nat.le_of_ble_eq_true rfl, Nat.le_of_ble_eq_true rfl⟩) hP hD hS hA [0, 1, 2, 3] [] [0, 1, 2, 3] rfl rfl (by decide) (by decide) rfl (by decide) (fun H locs hP hD hS => ?_)
          exact mi_vret hx hb hQ hr hlocks hAe hsz hP hD hS rfl dX4_add_60
        · refine lv_aload_n hx hb dX4_add_27 rfl (lv_at hl 0 rfl) ?_
          refine lv_iload hx hb dX4_add_28 (lv_at hl 4 rfl) ?_
          refine mi_iconst hx hb dX4_add_30 ?_
          refine mi_isub hx hb dX4_add_31 ?_
          refine lv_iload hx hb dX4_add_32 (lv_at hl 4 rfl) ?_
          refine m_runv (wc := [(h, .inr (4, [.int (iI am), .ref qt, .ref qv, .ref qs, .int (iI sb), .int (iI sp), .int (iI gs)])), (qt, .inl (cI, 160, .inl (aI (shK tt i am)))), (qv, .inl (cI, 160, .inl (aI (shK vv i am)))), (qs, .inl (cI, 9, .inl (aI zz)))]) (wc' := [(h, .inr (4, [.int (iI am), .ref qt, .ref qv, .ref qs, .int (iI sb), .int (iI sp), .int (iI gs)])), (qt, .inl (cI, 160, .inl (aI (uI (shK tt i am) i ((shK tt i am) (i - 1)))))), (qv, .inl (cI, 160, .inl (aI (uI (shK vv i am) i ((shK vv i am) (i - 1)))))), (qs, .inl (cI, 9, .inl (aI zz)))]) (wr := []) (ws' := [(h, .inr (4, [.int (iI am), .ref qt, .ref qv, .ref qs, .int (iI sb), .int (iI sp), .int (iI gs)])), (qt, .inl (cI, 160, .inl (aI (uI (shK tt i am) i ((shK tt i am) (i - 1)))))), (qv, .inl (cI, 160, .inl (aI (uI (shK vv i am) i ((shK vv i am) (i - 1)))))), (qs, .inl (cI, 9, .inl (aI zz)))]) (va_runV (As := [.int (iI (i - 1)), .int (iI i)]) (rest := []) ⟨hx, hb, hml, hown, hts⟩ (c_X4_copyPoint l dC dI cI cO h qt qv qs am (shK tt i am) (shK vv i am) zz sb sp gs (i - 1) i H.size (by first | assumption | omega) (by first | assumption | omega)) (cwV 2 hts gX4_add_X4_copyPoint rfl rfl rfl (by decide +kernel) ⟨Nat.le_of_ble_eq_true rfl, Nat.le_of_ble_eq_true rfl⟩) (m_preV hZ hK hP hD [0, 1, 2, 3] rfl (by decide) (va_recv hK hP (ci := 4) (q0 := 0) rfl rfl)) rfl rfl hl.1 rfl (lv_room (Nat.le_of_ble_eq_true rfl)) dX4_add_34 ⟨Nat.le_of_ble_eq_true rfl, Nat.le_of_ble_eq_true rfl⟩) hP hD hS hA [0, 1, 2, 3] [] [0, 1, 2, 3] rfl rfl (by decide) (by decide) rfl (by decide) (fun H locs hP hD hS => ?_)
          refine mi_iinc (b := i - 1) (lv' := [(4, .int (iI (i - 1))), (0, .ref h), (1, .int (iI t)), (2, .int (iI v)), (3, .int (iI pl))]) hx hb dX4_add_37 hl (k := 4) rfl (by decide) (by omega) rfl (fun ls hl => ?_)
          refine lv_goto (tgt := 21) hx hb dX4_add_40 (by decide) ?_
          have hw_4 : [(h, .inr (4, [.int (iI am), .ref qt, .ref qv, .ref qs, .int (iI sb), .int (iI sp), .int (iI gs)])), (qt, .inl (cI, 160, .inl (aI (uI (shK tt i am) i ((shK tt i am) (i - 1)))))), (qv, .inl (cI, 160, .inl (aI (uI (shK vv i am) i ((shK vv i am) (i - 1)))))), (qs, .inl (cI, 9, .inl (aI zz)))] = ([(h, .inr (4, [.int (iI am), .ref qt, .ref qv, .ref qs, .int (iI sb), .int (iI sp), .int (iI gs)])), (qt, .inl (cI, 160, .inl (aI (shK tt (i - 1) am)))), (qv, .inl (cI, 160, .inl (aI (shK vv (i - 1) am)))), (qs, .inl (cI, 9, .inl (aI zz)))] : va_W) := by rw [shK_s tt (i := i) (n := am) (by omega), shK_s vv (i := i) (n := am) (by omega)]
          rw [hw_4] at hP hD
          exact ih21 (i - 1) (by omega) (by first | assumption | omega) _ _ _ hP hD hS (lv_sub hl [1, 2, 3, 4, 0] rfl)
    have hw_5 : [(h, .inr (4, [.int (iI am), .ref qt, .ref qv, .ref qs, .int (iI sb), .int (iI sp), .int (iI gs)])), (qt, .inl (cI, 160, .inl (aI tt))), (qv, .inl (cI, 160, .inl (aI vv))), (qs, .inl (cI, 9, .inl (aI zz)))] = ([(h, .inr (4, [.int (iI am), .ref qt, .ref qv, .ref qs, .int (iI sb), .int (iI sp), .int (iI gs)])), (qt, .inl (cI, 160, .inl (aI (shK tt am am)))), (qv, .inl (cI, 160, .inl (aI (shK vv am am)))), (qs, .inl (cI, 9, .inl (aI zz)))] : va_W) := by rw [shK_0, shK_0]
    rw [hw_5] at hP hD
    exact lp21 _ am (Nat.lt_succ_self _) (by first | assumption | omega) _ _ _ hP hD hS (lv_sub hl [2, 3, 4, 1, 0] rfl)

set_option maxRecDepth 100000 in
set_option maxHeartbeats 4000000 in
theorem c_X4_add_t (l : Launch) (dC : Nat → ClassId) (dI : Nat → Nat → Nat) (cI cO : ClassId) (h : Nat) (qt : Nat) (qv : Nat) (qs : Nat) (am : Int) (tt : fI) (vv : fI) (zz : fI) (sb : Int) (sp : Int) (gs : Int) (t : Int) (v : Int) (pl : Int) (sz : Nat) (ham : 0 ≤ am ∧ am ≤ 160) (hsp : 0 ≤ sp ∧ sp ≤ am) (ht : 0 ≤ t ∧ t ≤ 99999) (htt : ∀ j, 0 ≤ tt j ∧ tt j ≤ 99999) (hp1 : sp ≤ pl ∧ pl ≤ am) (hp2 : ∀ j, sp ≤ j → j < pl → tt j < t) (hp3 : pl < am → t ≤ tt pl) (hn : pl < am ∧ tt pl = t) : Met l yX4_add wsX4_add ({ frames := 2, cells := 0, slots := 0, locals := 45 }) (mPc (dC, dI) [(cI, .int), (cO, .object "java/lang/Object")] [.ref h, .int (iI t), .int (iI v)] sz [(h, .inr (4, [.int (iI am), .ref qt, .ref qv, .ref qs, .int (iI sb), .int (iI sp), .int (iI gs)])), (qt, .inl (cI, 160, .inl (aI tt))), (qv, .inl (cI, 160, .inl (aI vv))), (qs, .inl (cI, 9, .inl (aI zz)))]) (mQv (dC, dI) [(h, .inr (4, [.int (iI am), .ref qt, .ref qv, .ref qs, .int (iI sb), .int (iI sp), .int (iI gs)])), (qt, .inl (cI, 160, .inl (aI tt))), (qv, .inl (cI, 160, .inl (aI vv))), (qs, .inl (cI, 9, .inl (aI zz)))] [(h, .inr (4, [.int (iI am), .ref qt, .ref qv, .ref qs, .int (iI sb), .int (iI sp), .int (iI gs)])), (qt, .inl (cI, 160, .inl (aI (uI tt pl t)))), (qv, .inl (cI, 160, .inl (aI (uI vv pl v)))), (qs, .inl (cI, 9, .inl (aI zz)))] sz) 0 0 (va_A [(h, .inr (4, [.int (iI am), .ref qt, .ref qv, .ref qs, .int (iI sb), .int (iI sp), .int (iI gs)])), (qt, .inl (cI, 160, .inl (aI tt))), (qv, .inl (cI, 160, .inl (aI vv))), (qs, .inl (cI, 9, .inl (aI zz)))] sz) := by
  refine mMet (cc := cX4_add) (maxL := 5) (ret := none) (by decide) rfl (Nat.le_of_ble_eq_true rfl) ?_
  intro p e s m args below meth c A ls hx hb hr hts hown hlocks hin hml hAe hsz hA hD H hHe hP hK hZ hS hl Q hQ
  have hl : lv_has ls 5 [(0, .ref h), (1, .int (iI t)), (2, .int (iI v))] := hl
  refine lv_aload_n hx hb dX4_add_0 rfl (lv_at hl 0 rfl) ?_
  refine lv_iload_n hx hb dX4_add_1 rfl (lv_at hl 1 rfl) ?_
  refine m_run (wc := [(h, .inr (4, [.int (iI am), .ref qt, .ref qv, .ref qs, .int (iI sb), .int (iI sp), .int (iI gs)])), (qt, .inl (cI, 160, .inl (aI tt))), (qv, .inl (cI, 160, .inl (aI vv))), (qs, .inl (cI, 9, .inl (aI zz)))]) (wc' := [(h, .inr (4, [.int (iI am), .ref qt, .ref qv, .ref qs, .int (iI sb), .int (iI sp), .int (iI gs)])), (qt, .inl (cI, 160, .inl (aI tt))), (qv, .inl (cI, 160, .inl (aI vv))), (qs, .inl (cI, 9, .inl (aI zz)))]) (wr := []) (ws' := [(h, .inr (4, [.int (iI am), .ref qt, .ref qv, .ref qs, .int (iI sb), .int (iI sp), .int (iI gs)])), (qt, .inl (cI, 160, .inl (aI tt))), (qv, .inl (cI, 160, .inl (aI vv))), (qs, .inl (cI, 9, .inl (aI zz)))]) (va_runV (As := [.int (iI t)]) (rest := []) ⟨hx, hb, hml, hown, hts⟩ (c_X4_placeOf l dC dI cI cO h qt qv qs am tt vv zz sb sp gs t pl H.size (by first | assumption | omega) (by first | assumption | omega) (by first | assumption | omega) (by first | assumption | omega) (by first | assumption | omega) (by first | assumption | omega) (by first | assumption | omega)) (cwV 1 hts gX4_add_X4_placeOf rfl rfl rfl (by decide +kernel) ⟨Nat.le_of_ble_eq_true rfl, Nat.le_of_ble_eq_true rfl⟩) (m_preV hZ hK hP hD [0, 1, 2, 3] rfl (by decide) (va_recv hK hP (ci := 4) (q0 := 0) rfl rfl)) rfl rfl hl.1 rfl (lv_room (Nat.le_of_ble_eq_true rfl)) dX4_add_2 ⟨Nat.le_of_ble_eq_true rfl, Nat.le_of_ble_eq_true rfl⟩) hP hD hS hA [0, 1, 2, 3] [] [0, 1, 2, 3] rfl rfl (by decide) (by decide) rfl (by decide) (fun H locs hP hD hS => ?_)
  refine lv_istore_n (lv' := [(3, .int (iI pl)), (0, .ref h), (1, .int (iI t)), (2, .int (iI v))]) hx hb dX4_add_5 rfl hl (by decide) rfl (fun ls hl => ?_)
  refine lv_aload_n hx hb dX4_add_6 rfl (lv_at hl 1 rfl) ?_
  refine lv_iload_n hx hb dX4_add_7 rfl (lv_at hl 0 rfl) ?_
  refine lv_iload_n hx hb dX4_add_8 rfl (lv_at hl 2 rfl) ?_
  refine m_run (wc := [(h, .inr (4, [.int (iI am), .ref qt, .ref qv, .ref qs, .int (iI sb), .int (iI sp), .int (iI gs)])), (qt, .inl (cI, 160, .inl (aI tt))), (qv, .inl (cI, 160, .inl (aI vv))), (qs, .inl (cI, 9, .inl (aI zz)))]) (wc' := [(h, .inr (4, [.int (iI am), .ref qt, .ref qv, .ref qs, .int (iI sb), .int (iI sp), .int (iI gs)])), (qt, .inl (cI, 160, .inl (aI tt))), (qv, .inl (cI, 160, .inl (aI vv))), (qs, .inl (cI, 9, .inl (aI zz)))]) (wr := []) (ws' := [(h, .inr (4, [.int (iI am), .ref qt, .ref qv, .ref qs, .int (iI sb), .int (iI sp), .int (iI gs)])), (qt, .inl (cI, 160, .inl (aI tt))), (qv, .inl (cI, 160, .inl (aI vv))), (qs, .inl (cI, 9, .inl (aI zz)))]) (va_runV (As := [.int (iI pl), .int (iI t)]) (rest := []) ⟨hx, hb, hml, hown, hts⟩ (c_X4_isTakenAt_1 l dC dI cI cO h qt qv qs am tt vv zz sb sp gs pl t H.size (by first | assumption | omega) (by first | assumption | omega) (by first | assumption | omega)) (cwV 2 hts gX4_add_X4_isTakenAt rfl rfl rfl (by decide +kernel) ⟨Nat.le_of_ble_eq_true rfl, Nat.le_of_ble_eq_true rfl⟩) (m_preV hZ hK hP hD [0, 1, 2, 3] rfl (by decide) (va_recv hK hP (ci := 4) (q0 := 0) rfl rfl)) rfl rfl hl.1 rfl (lv_room (Nat.le_of_ble_eq_true rfl)) dX4_add_9 ⟨Nat.le_of_ble_eq_true rfl, Nat.le_of_ble_eq_true rfl⟩) hP hD hS hA [0, 1, 2, 3] [] [0, 1, 2, 3] rfl rfl (by decide) (by decide) rfl (by decide) (fun H locs hP hD hS => ?_)
  refine mi_if_ne (tgt := 53) hx hb (by decide) dX4_add_12 (by decide) (fun c_1 => ?_) (fun c_1 => ?_)
  · refine lv_aload_n hx hb dX4_add_53 rfl (lv_at hl 1 rfl) ?_
    refine lv_iload_n hx hb dX4_add_54 rfl (lv_at hl 0 rfl) ?_
    refine lv_iload_n hx hb dX4_add_55 rfl (lv_at hl 2 rfl) ?_
    refine lv_iload_n hx hb dX4_add_56 rfl (lv_at hl 3 rfl) ?_
    refine m_runv (wc := [(h, .inr (4, [.int (iI am), .ref qt, .ref qv, .ref qs, .int (iI sb), .int (iI sp), .int (iI gs)])), (qt, .inl (cI, 160, .inl (aI tt))), (qv, .inl (cI, 160, .inl (aI vv))), (qs, .inl (cI, 9, .inl (aI zz)))]) (wc' := [(h, .inr (4, [.int (iI am), .ref qt, .ref qv, .ref qs, .int (iI sb), .int (iI sp), .int (iI gs)])), (qt, .inl (cI, 160, .inl (aI (uI tt pl t)))), (qv, .inl (cI, 160, .inl (aI (uI vv pl v)))), (qs, .inl (cI, 9, .inl (aI zz)))]) (wr := []) (ws' := [(h, .inr (4, [.int (iI am), .ref qt, .ref qv, .ref qs, .int (iI sb), .int (iI sp), .int (iI gs)])), (qt, .inl (cI, 160, .inl (aI (uI tt pl t)))), (qv, .inl (cI, 160, .inl (aI (uI vv pl v)))), (qs, .inl (cI, 9, .inl (aI zz)))]) (va_runV (As := [.int (iI pl), .int (iI t), .int (iI v)]) (rest := []) ⟨hx, hb, hml, hown, hts⟩ (c_X4_write l dC dI cI cO h qt qv qs am tt vv zz sb sp gs pl t v H.size (by first | assumption | omega)) (cwV 3 hts gX4_add_X4_write rfl rfl rfl (by decide +kernel) ⟨Nat.le_of_ble_eq_true rfl, Nat.le_of_ble_eq_true rfl⟩) (m_preV hZ hK hP hD [0, 1, 2, 3] rfl (by decide) (va_recv hK hP (ci := 4) (q0 := 0) rfl rfl)) rfl rfl hl.1 rfl (lv_room (Nat.le_of_ble_eq_true rfl)) dX4_add_57 ⟨Nat.le_of_ble_eq_true rfl, Nat.le_of_ble_eq_true rfl⟩) hP hD hS hA [0, 1, 2, 3] [] [0, 1, 2, 3] rfl rfl (by decide) (by decide) rfl (by decide) (fun H locs hP hD hS => ?_)
    exact mi_vret hx hb hQ hr hlocks hAe hsz hP hD hS rfl dX4_add_60
  · exfalso; omega

set_option maxRecDepth 100000 in
set_option maxHeartbeats 4000000 in
theorem c_X4_seal (l : Launch) (dC : Nat → ClassId) (dI : Nat → Nat → Nat) (cI cO : ClassId) (h : Nat) (qt : Nat) (qv : Nat) (qs : Nat) (am : Int) (tt : fI) (vv : fI) (zz : fI) (sb : Int) (sp : Int) (gs : Int) (sz : Nat) (ham : 0 ≤ am ∧ am ≤ 160) (hsp : 0 ≤ sp ∧ sp < am) (hsb : 0 ≤ sb ∧ sb < 9) : Met l yX4_seal wsX4_seal ({ frames := 1, cells := 0, slots := 0, locals := 22 }) (mPc (dC, dI) [(cI, .int), (cO, .object "java/lang/Object")] [.ref h] sz [(h, .inr (4, [.int (iI am), .ref qt, .ref qv, .ref qs, .int (iI sb), .int (iI sp), .int (iI gs)])), (qt, .inl (cI, 160, .inl (aI tt))), (qv, .inl (cI, 160, .inl (aI vv))), (qs, .inl (cI, 9, .inl (aI zz)))]) (mQv (dC, dI) [(h, .inr (4, [.int (iI am), .ref qt, .ref qv, .ref qs, .int (iI sb), .int (iI sp), .int (iI gs)])), (qt, .inl (cI, 160, .inl (aI tt))), (qv, .inl (cI, 160, .inl (aI vv))), (qs, .inl (cI, 9, .inl (aI zz)))] [(h, .inr (4, [.int (iI am), .ref qt, .ref qv, .ref qs, .int (iI (sb + 1)), .int (iI am), .int (iI (tt (am - 1)))])), (qt, .inl (cI, 160, .inl (aI tt))), (qv, .inl (cI, 160, .inl (aI vv))), (qs, .inl (cI, 9, .inl (aI (uI zz sb (am - sp)))))] sz) 0 0 (va_A [(h, .inr (4, [.int (iI am), .ref qt, .ref qv, .ref qs, .int (iI sb), .int (iI sp), .int (iI gs)])), (qt, .inl (cI, 160, .inl (aI tt))), (qv, .inl (cI, 160, .inl (aI vv))), (qs, .inl (cI, 9, .inl (aI zz)))] sz) := by
  refine mMet (cc := cX4_seal) (maxL := 1) (ret := none) (by decide) rfl (Nat.le_of_ble_eq_true rfl) ?_
  intro p e s m args below meth c A ls hx hb hr hts hown hlocks hin hml hAe hsz hA hD H hHe hP hK hZ hS hl Q hQ
  have hl : lv_has ls 1 [(0, .ref h)] := hl
  have hf21 := hts (.fieldLink RX4 21 "MeridianSeries$Points" "sealedBlocks" "I") (by decide +kernel)
  have hi_X4 : ∀ w ∈ u_ws RX4 TX4 7, w ∈ wsX4_seal := by decide +kernel
  have hf18 := hts (.fieldLink RX4 18 "MeridianSeries$Points" "sizes" "[I") (by decide +kernel)
  have hf31 := hts (.fieldLink RX4 31 "MeridianSeries$Points" "amount" "I") (by decide +kernel)
  have hs31 := hts (.sameField "MeridianSeries$Points" "MeridianSeries$Items" "amount" "I") (by decide +kernel)
  have hf25 := hts (.fieldLink RX4 25 "MeridianSeries$Points" "sealedPoints" "I") (by decide +kernel)
  have hf28 := hts (.fieldLink RX4 28 "MeridianSeries$Points" "greatestSealedTime" "I") (by decide +kernel)
  refine lv_aload_n hx hb dX4_seal_0 rfl (lv_at hl 0 rfl) ?_
  refine va_get (ci := 4) (v := .int (iI sb)) (C := RX4) (T := TX4) (N := 7) hx hb hts hi_X4 hown hK hP 0 rfl rfl 4 (by decide) hf21 (fun _ h9 => h9) rfl dX4_seal_1 ?_
  refine lv_aload_n hx hb dX4_seal_4 rfl (lv_at hl 0 rfl) ?_
  refine va_get (ci := 4) (v := .ref qs) (C := RX4) (T := TX4) (N := 7) hx hb hts hi_X4 hown hK hP 0 rfl rfl 3 (by decide) hf18 (fun _ h9 => h9) rfl dX4_seal_5 ?_
  refine mi_alen hx hb hK hP 3 0 rfl rfl dX4_seal_8 ?_
  have eln : ((9 : Nat) : Int) = 9 := rfl
  rw [eln]
  refine mi_icmp_ge (tgt := 65) hx hb (by omega) (by decide) dX4_seal_9 (by decide) (fun c_1 => ?_) (fun c_1 => ?_)
  · exfalso; omega
  · refine lv_aload_n hx hb dX4_seal_12 rfl (lv_at hl 0 rfl) ?_
    refine m_run (wc := [(h, .inr (4, [.int (iI am), .ref qt, .ref qv, .ref qs, .int (iI sb), .int (iI sp), .int (iI gs)])), (qt, .inl (cI, 160, .inl (aI tt))), (qv, .inl (cI, 160, .inl (aI vv))), (qs, .inl (cI, 9, .inl (aI zz)))]) (wc' := [(h, .inr (4, [.int (iI am), .ref qt, .ref qv, .ref qs, .int (iI sb), .int (iI sp), .int (iI gs)])), (qt, .inl (cI, 160, .inl (aI tt))), (qv, .inl (cI, 160, .inl (aI vv))), (qs, .inl (cI, 9, .inl (aI zz)))]) (wr := []) (ws' := [(h, .inr (4, [.int (iI am), .ref qt, .ref qv, .ref qs, .int (iI sb), .int (iI sp), .int (iI gs)])), (qt, .inl (cI, 160, .inl (aI tt))), (qv, .inl (cI, 160, .inl (aI vv))), (qs, .inl (cI, 9, .inl (aI zz)))]) (va_runV (As := []) (rest := []) ⟨hx, hb, hml, hown, hts⟩ (c_X4_openSize l dC dI cI cO h qt qv qs am tt vv zz sb sp gs H.size ) (cwV 0 hts gX4_seal_X4_openSize rfl rfl rfl (by decide +kernel) ⟨Nat.le_of_ble_eq_true rfl, Nat.le_of_ble_eq_true rfl⟩) (m_preV hZ hK hP hD [0, 1, 2, 3] rfl (by decide) (va_recv hK hP (ci := 4) (q0 := 0) rfl rfl)) rfl rfl hl.1 rfl (lv_room (Nat.le_of_ble_eq_true rfl)) dX4_seal_13 ⟨Nat.le_of_ble_eq_true rfl, Nat.le_of_ble_eq_true rfl⟩) hP hD hS hA [0, 1, 2, 3] [] [0, 1, 2, 3] rfl rfl (by decide) (by decide) rfl (by decide) (fun H locs hP hD hS => ?_)
    refine mi_if_le (tgt := 65) hx hb (by omega) dX4_seal_16 (by decide) (fun c_2 => ?_) (fun c_2 => ?_)
    · exfalso; omega
    · refine lv_aload_n hx hb dX4_seal_19 rfl (lv_at hl 0 rfl) ?_
      refine va_get (ci := 4) (v := .ref qs) (C := RX4) (T := TX4) (N := 7) hx hb hts hi_X4 hown hK hP 0 rfl rfl 3 (by decide) hf18 (fun _ h9 => h9) rfl dX4_seal_20 ?_
      refine lv_aload_n hx hb dX4_seal_23 rfl (lv_at hl 0 rfl) ?_
      refine va_get (ci := 4) (v := .int (iI sb)) (C := RX4) (T := TX4) (N := 7) hx hb hts hi_X4 hown hK hP 0 rfl rfl 4 (by decide) hf21 (fun _ h9 => h9) rfl dX4_seal_24 ?_
      refine lv_aload_n hx hb dX4_seal_27 rfl (lv_at hl 0 rfl) ?_
      refine m_run (wc := [(h, .inr (4, [.int (iI am), .ref qt, .ref qv, .ref qs, .int (iI sb), .int (iI sp), .int (iI gs)])), (qt, .inl (cI, 160, .inl (aI tt))), (qv, .inl (cI, 160, .inl (aI vv))), (qs, .inl (cI, 9, .inl (aI zz)))]) (wc' := [(h, .inr (4, [.int (iI am), .ref qt, .ref qv, .ref qs, .int (iI sb), .int (iI sp), .int (iI gs)])), (qt, .inl (cI, 160, .inl (aI tt))), (qv, .inl (cI, 160, .inl (aI vv))), (qs, .inl (cI, 9, .inl (aI zz)))]) (wr := []) (ws' := [(h, .inr (4, [.int (iI am), .ref qt, .ref qv, .ref qs, .int (iI sb), .int (iI sp), .int (iI gs)])), (qt, .inl (cI, 160, .inl (aI tt))), (qv, .inl (cI, 160, .inl (aI vv))), (qs, .inl (cI, 9, .inl (aI zz)))]) (va_runV (As := []) (rest := [.int (iI sb), .ref qs]) ⟨hx, hb, hml, hown, hts⟩ (c_X4_openSize l dC dI cI cO h qt qv qs am tt vv zz sb sp gs H.size ) (cwV 0 hts gX4_seal_X4_openSize rfl rfl rfl (by decide +kernel) ⟨Nat.le_of_ble_eq_true rfl, Nat.le_of_ble_eq_true rfl⟩) (m_preV hZ hK hP hD [0, 1, 2, 3] rfl (by decide) (va_recv hK hP (ci := 4) (q0 := 0) rfl rfl)) rfl rfl hl.1 rfl (lv_room (Nat.le_of_ble_eq_true rfl)) dX4_seal_28 ⟨Nat.le_of_ble_eq_true rfl, Nat.le_of_ble_eq_true rfl⟩) hP hD hS hA [0, 1, 2, 3] [] [0, 1, 2, 3] rfl rfl (by decide) (by decide) rfl (by decide) (fun H locs hP hD hS => ?_)
      refine mi_iast (ws' := [(h, .inr (4, [.int (iI am), .ref qt, .ref qv, .ref qs, .int (iI sb), .int (iI sp), .int (iI gs)])), (qt, .inl (cI, 160, .inl (aI tt))), (qv, .inl (cI, 160, .inl (aI vv))), (qs, .inl (cI, 9, .inl (aI (uI zz sb (am - sp)))))]) hx hb hK hP hD hS 3 0 rfl rfl (i := sb) (by omega) (by decide) rfl dX4_seal_31 (fun H locs hP hD hS => ?_)
      refine lv_aload_n hx hb dX4_seal_32 rfl (lv_at hl 0 rfl) ?_
      refine lv_dup hx hb dX4_seal_33 rfl ?_
      refine va_get (ci := 4) (v := .int (iI sb)) (C := RX4) (T := TX4) (N := 7) hx hb hts hi_X4 hown hK hP 0 rfl rfl 4 (by decide) hf21 (fun _ h9 => h9) rfl dX4_seal_34 ?_
      refine mi_iconst hx hb dX4_seal_37 ?_
      refine mi_iadd hx hb dX4_seal_38 ?_
      refine va_put (D := (dC, dI)) (ci := 4) (v := .int (iI (sb + 1))) (ty := .int) (C := RX4) (T := TX4) (N := 7) hx hb hts hi_X4 tyX4 tyX4_ok nmX4 hown hK hP hD hS 0 rfl rfl 4 (by decide) hf21 (fun _ h9 => h9) rfl (by decide +kernel) rfl rfl (Nat.le_of_ble_eq_true rfl) dX4_seal_39 (fun H locs hP hD hS => ?_)
      have hP : va_P (dC, dI) vwCl [(h, .inr (4, [.int (iI am), .ref qt, .ref qv, .ref qs, .int (iI (sb + 1)), .int (iI sp), .int (iI gs)])), (qt, .inl (cI, 160, .inl (aI tt))), (qv, .inl (cI, 160, .inl (aI vv))), (qs, .inl (cI, 9, .inl (aI (uI zz sb (am - sp)))))] H := hP
      have hD : va_D A [(h, .inr (4, [.int (iI am), .ref qt, .ref qv, .ref qs, .int (iI (sb + 1)), .int (iI sp), .int (iI gs)])), (qt, .inl (cI, 160, .inl (aI tt))), (qv, .inl (cI, 160, .inl (aI vv))), (qs, .inl (cI, 9, .inl (aI (uI zz sb (am - sp)))))] := hD
      refine lv_aload_n hx hb dX4_seal_42 rfl (lv_at hl 0 rfl) ?_
      refine lv_aload_n hx hb dX4_seal_43 rfl (lv_at hl 0 rfl) ?_
      refine va_get (ci := 4) (v := .int (iI am)) (C := RX4) (T := TX4) (N := 7) hx hb hts hi_X4 hown hK hP 0 rfl rfl 0 (by decide) hf31 (fun x9 h9 => u_same hs31 x9 h9) rfl dX4_seal_44 ?_
      refine va_put (D := (dC, dI)) (ci := 4) (v := .int (iI am)) (ty := .int) (C := RX4) (T := TX4) (N := 7) hx hb hts hi_X4 tyX4 tyX4_ok nmX4 hown hK hP hD hS 0 rfl rfl 5 (by decide) hf25 (fun _ h9 => h9) rfl (by decide +kernel) rfl rfl (Nat.le_of_ble_eq_true rfl) dX4_seal_47 (fun H locs hP hD hS => ?_)
      have hP : va_P (dC, dI) vwCl [(h, .inr (4, [.int (iI am), .ref qt, .ref qv, .ref qs, .int (iI (sb + 1)), .int (iI am), .int (iI gs)])), (qt, .inl (cI, 160, .inl (aI tt))), (qv, .inl (cI, 160, .inl (aI vv))), (qs, .inl (cI, 9, .inl (aI (uI zz sb (am - sp)))))] H := hP
      have hD : va_D A [(h, .inr (4, [.int (iI am), .ref qt, .ref qv, .ref qs, .int (iI (sb + 1)), .int (iI am), .int (iI gs)])), (qt, .inl (cI, 160, .inl (aI tt))), (qv, .inl (cI, 160, .inl (aI vv))), (qs, .inl (cI, 9, .inl (aI (uI zz sb (am - sp)))))] := hD
      refine lv_aload_n hx hb dX4_seal_50 rfl (lv_at hl 0 rfl) ?_
      refine lv_aload_n hx hb dX4_seal_51 rfl (lv_at hl 0 rfl) ?_
      refine lv_aload_n hx hb dX4_seal_52 rfl (lv_at hl 0 rfl) ?_
      refine va_get (ci := 4) (v := .int (iI am)) (C := RX4) (T := TX4) (N := 7) hx hb hts hi_X4 hown hK hP 0 rfl rfl 0 (by decide) hf31 (fun x9 h9 => u_same hs31 x9 h9) rfl dX4_seal_53 ?_
      refine mi_iconst hx hb dX4_seal_56 ?_
      refine mi_isub hx hb dX4_seal_57 ?_
      refine mi_iconst hx hb dX4_seal_58 ?_
      refine m_run (wc := [(h, .inr (4, [.int (iI am), .ref qt, .ref qv, .ref qs, .int (iI (sb + 1)), .int (iI am), .int (iI gs)])), (qt, .inl (cI, 160, .inl (aI tt))), (qv, .inl (cI, 160, .inl (aI vv))), (qs, .inl (cI, 9, .inl (aI (uI zz sb (am - sp)))))]) (wc' := [(h, .inr (4, [.int (iI am), .ref qt, .ref qv, .ref qs, .int (iI (sb + 1)), .int (iI am), .int (iI gs)])), (qt, .inl (cI, 160, .inl (aI tt))), (qv, .inl (cI, 160, .inl (aI vv))), (qs, .inl (cI, 9, .inl (aI (uI zz sb (am - sp)))))]) (wr := []) (ws' := [(h, .inr (4, [.int (iI am), .ref qt, .ref qv, .ref qs, .int (iI (sb + 1)), .int (iI am), .int (iI gs)])), (qt, .inl (cI, 160, .inl (aI tt))), (qv, .inl (cI, 160, .inl (aI vv))), (qs, .inl (cI, 9, .inl (aI (uI zz sb (am - sp)))))]) (va_runV (As := [.int (iI (am - 1)), .int (iI 0)]) (rest := [.ref h]) ⟨hx, hb, hml, hown, hts⟩ (c_X4_number_t l dC dI cI cO h qt qv qs am tt vv (uI zz sb (am - sp)) (sb + 1) am gs (am - 1) H.size (by first | assumption | omega)) (cwV 2 hts gX4_seal_X4_number rfl rfl rfl (by decide +kernel) ⟨Nat.le_of_ble_eq_true rfl, Nat.le_of_ble_eq_true rfl⟩) (m_preV hZ hK hP hD [0, 1, 2, 3] rfl (by decide) (va_recv hK hP (ci := 4) (q0 := 0) rfl rfl)) rfl rfl hl.1 rfl (lv_room (Nat.le_of_ble_eq_true rfl)) dX4_seal_59 ⟨Nat.le_of_ble_eq_true rfl, Nat.le_of_ble_eq_true rfl⟩) hP hD hS hA [0, 1, 2, 3] [] [0, 1, 2, 3] rfl rfl (by decide) (by decide) rfl (by decide) (fun H locs hP hD hS => ?_)
      refine va_put (D := (dC, dI)) (ci := 4) (v := .int (iI (tt (am - 1)))) (ty := .int) (C := RX4) (T := TX4) (N := 7) hx hb hts hi_X4 tyX4 tyX4_ok nmX4 hown hK hP hD hS 0 rfl rfl 6 (by decide) hf28 (fun _ h9 => h9) rfl (by decide +kernel) rfl rfl (Nat.le_of_ble_eq_true rfl) dX4_seal_62 (fun H locs hP hD hS => ?_)
      have hP : va_P (dC, dI) vwCl [(h, .inr (4, [.int (iI am), .ref qt, .ref qv, .ref qs, .int (iI (sb + 1)), .int (iI am), .int (iI (tt (am - 1)))])), (qt, .inl (cI, 160, .inl (aI tt))), (qv, .inl (cI, 160, .inl (aI vv))), (qs, .inl (cI, 9, .inl (aI (uI zz sb (am - sp)))))] H := hP
      have hD : va_D A [(h, .inr (4, [.int (iI am), .ref qt, .ref qv, .ref qs, .int (iI (sb + 1)), .int (iI am), .int (iI (tt (am - 1)))])), (qt, .inl (cI, 160, .inl (aI tt))), (qv, .inl (cI, 160, .inl (aI vv))), (qs, .inl (cI, 9, .inl (aI (uI zz sb (am - sp)))))] := hD
      exact mi_vret hx hb hQ hr hlocks hAe hsz hP hD hS rfl dX4_seal_65

set_option maxRecDepth 100000 in
set_option maxHeartbeats 4000000 in
theorem c_X4_dropFirstBlock (l : Launch) (dC : Nat → ClassId) (dI : Nat → Nat → Nat) (cI cO : ClassId) (h : Nat) (qt : Nat) (qv : Nat) (qs : Nat) (am : Int) (tt : fI) (vv : fI) (zz : fI) (sb : Int) (sp : Int) (gs : Int) (sz : Nat) (ham : 0 ≤ am ∧ am ≤ 160) (hsb : 1 ≤ sb ∧ sb ≤ 9) (hz0 : 0 ≤ zz 0 ∧ zz 0 ≤ am) : Met l yX4_dropFirstBlock wsX4_dropFirstBlock ({ frames := 2, cells := 0, slots := 0, locals := 45 }) (mPc (dC, dI) [(cI, .int), (cO, .object "java/lang/Object")] [.ref h] sz [(h, .inr (4, [.int (iI am), .ref qt, .ref qv, .ref qs, .int (iI sb), .int (iI sp), .int (iI gs)])), (qt, .inl (cI, 160, .inl (aI tt))), (qv, .inl (cI, 160, .inl (aI vv))), (qs, .inl (cI, 9, .inl (aI zz)))]) (mQv (dC, dI) [(h, .inr (4, [.int (iI am), .ref qt, .ref qv, .ref qs, .int (iI sb), .int (iI sp), .int (iI gs)])), (qt, .inl (cI, 160, .inl (aI tt))), (qv, .inl (cI, 160, .inl (aI vv))), (qs, .inl (cI, 9, .inl (aI zz)))] [(h, .inr (4, [.int (iI (am - zz 0)), .ref qt, .ref qv, .ref qs, .int (iI (sb - 1)), .int (iI (sp - zz 0)), .int (iI gs)])), (qt, .inl (cI, 160, .inl (aI (drK tt (zz 0) am)))), (qv, .inl (cI, 160, .inl (aI (drK vv (zz 0) am)))), (qs, .inl (cI, 9, .inl (aI (drK zz 1 sb))))] sz) 0 0 (va_A [(h, .inr (4, [.int (iI am), .ref qt, .ref qv, .ref qs, .int (iI sb), .int (iI sp), .int (iI gs)])), (qt, .inl (cI, 160, .inl (aI tt))), (qv, .inl (cI, 160, .inl (aI vv))), (qs, .inl (cI, 9, .inl (aI zz)))] sz) := by
  refine mMet (cc := cX4_dropFirstBlock) (maxL := 3) (ret := none) (by decide) rfl (Nat.le_of_ble_eq_true rfl) ?_
  intro p e s m args below meth c A ls hx hb hr hts hown hlocks hin hml hAe hsz hA hD H hHe hP hK hZ hS hl Q hQ
  have hl : lv_has ls 3 [(0, .ref h)] := hl
  have hf21 := hts (.fieldLink RX4 21 "MeridianSeries$Points" "sealedBlocks" "I") (by decide +kernel)
  have hi_X4 : ∀ w ∈ u_ws RX4 TX4 7, w ∈ wsX4_dropFirstBlock := by decide +kernel
  have hf31 := hts (.fieldLink RX4 31 "MeridianSeries$Points" "amount" "I") (by decide +kernel)
  have hs31 := hts (.sameField "MeridianSeries$Points" "MeridianSeries$Items" "amount" "I") (by decide +kernel)
  have hf25 := hts (.fieldLink RX4 25 "MeridianSeries$Points" "sealedPoints" "I") (by decide +kernel)
  have hf18 := hts (.fieldLink RX4 18 "MeridianSeries$Points" "sizes" "[I") (by decide +kernel)
  refine lv_aload_n hx hb dX4_dropFirstBlock_0 rfl (lv_at hl 0 rfl) ?_
  refine va_get (ci := 4) (v := .int (iI sb)) (C := RX4) (T := TX4) (N := 7) hx hb hts hi_X4 hown hK hP 0 rfl rfl 4 (by decide) hf21 (fun _ h9 => h9) rfl dX4_dropFirstBlock_1 ?_
  refine mi_if_gt (tgt := 8) hx hb (by omega) dX4_dropFirstBlock_4 (by decide) (fun c_1 => ?_) (fun c_1 => ?_)
  · refine lv_aload_n hx hb dX4_dropFirstBlock_8 rfl (lv_at hl 0 rfl) ?_
    refine mi_iconst hx hb dX4_dropFirstBlock_9 ?_
    refine m_run (wc := [(h, .inr (4, [.int (iI am), .ref qt, .ref qv, .ref qs, .int (iI sb), .int (iI sp), .int (iI gs)])), (qt, .inl (cI, 160, .inl (aI tt))), (qv, .inl (cI, 160, .inl (aI vv))), (qs, .inl (cI, 9, .inl (aI zz)))]) (wc' := [(h, .inr (4, [.int (iI am), .ref qt, .ref qv, .ref qs, .int (iI sb), .int (iI sp), .int (iI gs)])), (qt, .inl (cI, 160, .inl (aI tt))), (qv, .inl (cI, 160, .inl (aI vv))), (qs, .inl (cI, 9, .inl (aI zz)))]) (wr := []) (ws' := [(h, .inr (4, [.int (iI am), .ref qt, .ref qv, .ref qs, .int (iI sb), .int (iI sp), .int (iI gs)])), (qt, .inl (cI, 160, .inl (aI tt))), (qv, .inl (cI, 160, .inl (aI vv))), (qs, .inl (cI, 9, .inl (aI zz)))]) (va_runV (As := [.int (iI 0)]) (rest := []) ⟨hx, hb, hml, hown, hts⟩ (c_X4_sizeOf_s l dC dI cI cO h qt qv qs am tt vv zz sb sp gs 0 H.size (by first | assumption | omega) (by first | assumption | omega)) (cwV 1 hts gX4_dropFirstBlock_X4_sizeOf rfl rfl rfl (by decide +kernel) ⟨Nat.le_of_ble_eq_true rfl, Nat.le_of_ble_eq_true rfl⟩) (m_preV hZ hK hP hD [0, 1, 2, 3] rfl (by decide) (va_recv hK hP (ci := 4) (q0 := 0) rfl rfl)) rfl rfl hl.1 rfl (lv_room (Nat.le_of_ble_eq_true rfl)) dX4_dropFirstBlock_10 ⟨Nat.le_of_ble_eq_true rfl, Nat.le_of_ble_eq_true rfl⟩) hP hD hS hA [0, 1, 2, 3] [] [0, 1, 2, 3] rfl rfl (by decide) (by decide) rfl (by decide) (fun H locs hP hD hS => ?_)
    refine lv_istore_n (lv' := [(1, .int (iI (zz 0))), (0, .ref h)]) hx hb dX4_dropFirstBlock_13 rfl hl (by decide) rfl (fun ls hl => ?_)
    refine lv_iload_n hx hb dX4_dropFirstBlock_14 rfl (lv_at hl 0 rfl) ?_
    refine lv_istore_n (lv' := [(2, .int (iI (zz 0))), (1, .int (iI (zz 0))), (0, .ref h)]) hx hb dX4_dropFirstBlock_15 rfl hl (by decide) rfl (fun ls hl => ?_)
    have lp16 : ∀ (k : Nat) (i : Int), (am - i).toNat < k → zz 0 ≤ i ∧ i ≤ am → ∀ (H : Heap) (locs : List Loc) (ls : Array Slot), va_P (dC, dI) vwCl [(h, .inr (4, [.int (iI am), .ref qt, .ref qv, .ref qs, .int (iI sb), .int (iI sp), .int (iI gs)])), (qt, .inl (cI, 160, .inl (aI (drK tt (zz 0) i)))), (qv, .inl (cI, 160, .inl (aI (drK vv (zz 0) i)))), (qs, .inl (cI, 9, .inl (aI zz)))] H → va_D A [(h, .inr (4, [.int (iI am), .ref qt, .ref qv, .ref qs, .int (iI sb), .int (iI sp), .int (iI gs)])), (qt, .inl (cI, 160, .inl (aI (drK tt (zz 0) i)))), (qv, .inl (cI, 160, .inl (aI (drK vv (zz 0) i)))), (qs, .inl (cI, 9, .inl (aI zz)))] → va_S A s.heap H locs → lv_has ls 3 [(0, .ref h), (1, .int (iI (zz 0))), (2, .int (iI i))] → W p l e { frames := 2, cells := 0, slots := 0, locals := 45 } s m args below meth c H locs 0 0 Q (F0 m 16 ls []) := by
      intro k
      induction k with
      | zero => intro i hm; exact absurd hm (Nat.not_lt_zero _)
      | succ k ih16 =>
        intro i hm hi H locs ls hP hD hS hl
        refine lv_iload_n hx hb dX4_dropFirstBlock_16 rfl (lv_at hl 2 rfl) ?_
        refine lv_aload_n hx hb dX4_dropFirstBlock_17 rfl (lv_at hl 0 rfl) ?_
        refine va_get (ci := 4) (v := .int (iI am)) (C := RX4) (T := TX4) (N := 7) hx hb hts hi_X4 hown hK hP 0 rfl rfl 0 (by decide) hf31 (fun x9 h9 => u_same hs31 x9 h9) rfl dX4_dropFirstBlock_18 ?_
        refine mi_icmp_ge (tgt := 38) hx hb (by omega) (by omega) dX4_dropFirstBlock_21 (by decide) (fun c_2 => ?_) (fun c_2 => ?_)
        · have e_3 : am = i := by omega
          subst e_3
          refine mi_iconst hx hb dX4_dropFirstBlock_38 ?_
          refine lv_istore_n (lv' := [(2, .int (iI 1)), (0, .ref h), (1, .int (iI (zz 0)))]) hx hb dX4_dropFirstBlock_39 rfl hl (by decide) rfl (fun ls hl => ?_)
          have lp40 : ∀ (k : Nat) (i : Int), (sb - i).toNat < k → 1 ≤ i ∧ i ≤ sb → ∀ (H : Heap) (locs : List Loc) (ls : Array Slot), va_P (dC, dI) vwCl [(h, .inr (4, [.int (iI am), .ref qt, .ref qv, .ref qs, .int (iI sb), .int (iI sp), .int (iI gs)])), (qt, .inl (cI, 160, .inl (aI (drK tt (zz 0) am)))), (qv, .inl (cI, 160, .inl (aI (drK vv (zz 0) am)))), (qs, .inl (cI, 9, .inl (aI (drK zz 1 i))))] H → va_D A [(h, .inr (4, [.int (iI am), .ref qt, .ref qv, .ref qs, .int (iI sb), .int (iI sp), .int (iI gs)])), (qt, .inl (cI, 160, .inl (aI (drK tt (zz 0) am)))), (qv, .inl (cI, 160, .inl (aI (drK vv (zz 0) am)))), (qs, .inl (cI, 9, .inl (aI (drK zz 1 i))))] → va_S A s.heap H locs → lv_has ls 3 [(0, .ref h), (1, .int (iI (zz 0))), (2, .int (iI i))] → W p l e { frames := 2, cells := 0, slots := 0, locals := 45 } s m args below meth c H locs 0 0 Q (F0 m 40 ls []) := by
            intro k
            induction k with
            | zero => intro i hm; exact absurd hm (Nat.not_lt_zero _)
            | succ k ih40 =>
              intro i hm hi2 H locs ls hP hD hS hl
              refine lv_iload_n hx hb dX4_dropFirstBlock_40 rfl (lv_at hl 2 rfl) ?_
              refine lv_aload_n hx hb dX4_dropFirstBlock_41 rfl (lv_at hl 0 rfl) ?_
              refine va_get (ci := 4) (v := .int (iI sb)) (C := RX4) (T := TX4) (N := 7) hx hb hts hi_X4 hown hK hP 0 rfl rfl 4 (by decide) hf21 (fun _ h9 => h9) rfl dX4_dropFirstBlock_42 ?_
              refine mi_icmp_ge (tgt := 77) hx hb (by omega) (by omega) dX4_dropFirstBlock_45 (by decide) (fun c_4 => ?_) (fun c_4 => ?_)
              · have e_5 : sb = i := by omega
                subst e_5
                refine lv_aload_n hx hb dX4_dropFirstBlock_77 rfl (lv_at hl 0 rfl) ?_
                refine lv_dup hx hb dX4_dropFirstBlock_78 rfl ?_
                refine va_get (ci := 4) (v := .int (iI am)) (C := RX4) (T := TX4) (N := 7) hx hb hts hi_X4 hown hK hP 0 rfl rfl 0 (by decide) hf31 (fun x9 h9 => u_same hs31 x9 h9) rfl dX4_dropFirstBlock_79 ?_
                refine lv_iload_n hx hb dX4_dropFirstBlock_82 rfl (lv_at hl 1 rfl) ?_
                refine mi_isub hx hb dX4_dropFirstBlock_83 ?_
                refine va_put (D := (dC, dI)) (ci := 4) (v := .int (iI (am - (zz 0)))) (ty := .int) (C := RX4) (T := TX4) (N := 7) hx hb hts hi_X4 tyX4 tyX4_ok nmX4 hown hK hP hD hS 0 rfl rfl 0 (by decide) hf31 (fun x9 h9 => u_same hs31 x9 h9) rfl (by decide +kernel) rfl rfl (Nat.le_of_ble_eq_true rfl) dX4_dropFirstBlock_84 (fun H locs hP hD hS => ?_)
                have hP : va_P (dC, dI) vwCl [(h, .inr (4, [.int (iI (am - (zz 0))), .ref qt, .ref qv, .ref qs, .int (iI sb), .int (iI sp), .int (iI gs)])), (qt, .inl (cI, 160, .inl (aI (drK tt (zz 0) am)))), (qv, .inl (cI, 160, .inl (aI (drK vv (zz 0) am)))), (qs, .inl (cI, 9, .inl (aI (drK zz 1 sb))))] H := hP
                have hD : va_D A [(h, .inr (4, [.int (iI (am - (zz 0))), .ref qt, .ref qv, .ref qs, .int (iI sb), .int (iI sp), .int (iI gs)])), (qt, .inl (cI, 160, .inl (aI (drK tt (zz 0) am)))), (qv, .inl (cI, 160, .inl (aI (drK vv (zz 0) am)))), (qs, .inl (cI, 9, .inl (aI (drK zz 1 sb))))] := hD
                refine lv_aload_n hx hb dX4_dropFirstBlock_87 rfl (lv_at hl 0 rfl) ?_
                refine lv_dup hx hb dX4_dropFirstBlock_88 rfl ?_
                refine va_get (ci := 4) (v := .int (iI sp)) (C := RX4) (T := TX4) (N := 7) hx hb hts hi_X4 hown hK hP 0 rfl rfl 5 (by decide) hf25 (fun _ h9 => h9) rfl dX4_dropFirstBlock_89 ?_
                refine lv_iload_n hx hb dX4_dropFirstBlock_92 rfl (lv_at hl 1 rfl) ?_
                refine mi_isub hx hb dX4_dropFirstBlock_93 ?_
                refine va_put (D := (dC, dI)) (ci := 4) (v := .int (iI (sp - (zz 0)))) (ty := .int) (C := RX4) (T := TX4) (N := 7) hx hb hts hi_X4 tyX4 tyX4_ok nmX4 hown hK hP hD hS 0 rfl rfl 5 (by decide) hf25 (fun _ h9 => h9) rfl (by decide +kernel) rfl rfl (Nat.le_of_ble_eq_true rfl) dX4_dropFirstBlock_94 (fun H locs hP hD hS => ?_)
                have hP : va_P (dC, dI) vwCl [(h, .inr (4, [.int (iI (am - (zz 0))), .ref qt, .ref qv, .ref qs, .int (iI sb), .int (iI (sp - (zz 0))), .int (iI gs)])), (qt, .inl (cI, 160, .inl (aI (drK tt (zz 0) am)))), (qv, .inl (cI, 160, .inl (aI (drK vv (zz 0) am)))), (qs, .inl (cI, 9, .inl (aI (drK zz 1 sb))))] H := hP
                have hD : va_D A [(h, .inr (4, [.int (iI (am - (zz 0))), .ref qt, .ref qv, .ref qs, .int (iI sb), .int (iI (sp - (zz 0))), .int (iI gs)])), (qt, .inl (cI, 160, .inl (aI (drK tt (zz 0) am)))), (qv, .inl (cI, 160, .inl (aI (drK vv (zz 0) am)))), (qs, .inl (cI, 9, .inl (aI (drK zz 1 sb))))] := hD
                refine lv_aload_n hx hb dX4_dropFirstBlock_97 rfl (lv_at hl 0 rfl) ?_
                refine lv_dup hx hb dX4_dropFirstBlock_98 rfl ?_
                refine va_get (ci := 4) (v := .int (iI sb)) (C := RX4) (T := TX4) (N := 7) hx hb hts hi_X4 hown hK hP 0 rfl rfl 4 (by decide) hf21 (fun _ h9 => h9) rfl dX4_dropFirstBlock_99 ?_
                refine mi_iconst hx hb dX4_dropFirstBlock_102 ?_
                refine mi_isub hx hb dX4_dropFirstBlock_103 ?_
                refine va_put (D := (dC, dI)) (ci := 4) (v := .int (iI (sb - 1))) (ty := .int) (C := RX4) (T := TX4) (N := 7) hx hb hts hi_X4 tyX4 tyX4_ok nmX4 hown hK hP hD hS 0 rfl rfl 4 (by decide) hf21 (fun _ h9 => h9) rfl (by decide +kernel) rfl rfl (Nat.le_of_ble_eq_true rfl) dX4_dropFirstBlock_104 (fun H locs hP hD hS => ?_)
                have hP : va_P (dC, dI) vwCl [(h, .inr (4, [.int (iI (am - (zz 0))), .ref qt, .ref qv, .ref qs, .int (iI (sb - 1)), .int (iI (sp - (zz 0))), .int (iI gs)])), (qt, .inl (cI, 160, .inl (aI (drK tt (zz 0) am)))), (qv, .inl (cI, 160, .inl (aI (drK vv (zz 0) am)))), (qs, .inl (cI, 9, .inl (aI (drK zz 1 sb))))] H := hP
                have hD : va_D A [(h, .inr (4, [.int (iI (am - (zz 0))), .ref qt, .ref qv, .ref qs, .int (iI (sb - 1)), .int (iI (sp - (zz 0))), .int (iI gs)])), (qt, .inl (cI, 160, .inl (aI (drK tt (zz 0) am)))), (qv, .inl (cI, 160, .inl (aI (drK vv (zz 0) am)))), (qs, .inl (cI, 9, .inl (aI (drK zz 1 sb))))] := hD
                exact mi_vret hx hb hQ hr hlocks hAe hsz hP hD hS rfl dX4_dropFirstBlock_107
              · refine lv_iload_n hx hb dX4_dropFirstBlock_48 rfl (lv_at hl 2 rfl) ?_
                refine lv_aload_n hx hb dX4_dropFirstBlock_49 rfl (lv_at hl 0 rfl) ?_
                refine va_get (ci := 4) (v := .ref qs) (C := RX4) (T := TX4) (N := 7) hx hb hts hi_X4 hown hK hP 0 rfl rfl 3 (by decide) hf18 (fun _ h9 => h9) rfl dX4_dropFirstBlock_50 ?_
                refine mi_alen hx hb hK hP 3 0 rfl rfl dX4_dropFirstBlock_53 ?_
                have eln : ((9 : Nat) : Int) = 9 := rfl
                rw [eln]
                refine mi_icmp_ge (tgt := 77) hx hb (by omega) (by decide) dX4_dropFirstBlock_54 (by decide) (fun c_6 => ?_) (fun c_6 => ?_)
                · exfalso; omega
                · refine lv_aload_n hx hb dX4_dropFirstBlock_57 rfl (lv_at hl 0 rfl) ?_
                  refine va_get (ci := 4) (v := .ref qs) (C := RX4) (T := TX4) (N := 7) hx hb hts hi_X4 hown hK hP 0 rfl rfl 3 (by decide) hf18 (fun _ h9 => h9) rfl dX4_dropFirstBlock_58 ?_
                  refine lv_iload_n hx hb dX4_dropFirstBlock_61 rfl (lv_at hl 2 rfl) ?_
                  refine mi_iconst hx hb dX4_dropFirstBlock_62 ?_
                  refine mi_isub hx hb dX4_dropFirstBlock_63 ?_
                  refine lv_aload_n hx hb dX4_dropFirstBlock_64 rfl (lv_at hl 0 rfl) ?_
                  refine va_get (ci := 4) (v := .ref qs) (C := RX4) (T := TX4) (N := 7) hx hb hts hi_X4 hown hK hP 0 rfl rfl 3 (by decide) hf18 (fun _ h9 => h9) rfl dX4_dropFirstBlock_65 ?_
                  refine lv_iload_n hx hb dX4_dropFirstBlock_68 rfl (lv_at hl 2 rfl) ?_
                  refine mi_iald hx hb hK hP 3 0 rfl rfl (i := i) (by omega) (by decide) dX4_dropFirstBlock_69 ?_
                  refine mi_iast (ws' := [(h, .inr (4, [.int (iI am), .ref qt, .ref qv, .ref qs, .int (iI sb), .int (iI sp), .int (iI gs)])), (qt, .inl (cI, 160, .inl (aI (drK tt (zz 0) am)))), (qv, .inl (cI, 160, .inl (aI (drK vv (zz 0) am)))), (qs, .inl (cI, 9, .inl (aI (uI (drK zz 1 i) (i - 1) ((drK zz 1 i) i)))))]) hx hb hK hP hD hS 3 0 rfl rfl (i := i - 1) (by omega) (by decide) rfl dX4_dropFirstBlock_70 (fun H locs hP hD hS => ?_)
                  refine mi_iinc (b := i + 1) (lv' := [(2, .int (iI (i + 1))), (0, .ref h), (1, .int (iI (zz 0)))]) hx hb dX4_dropFirstBlock_71 hl (k := 2) rfl (by decide) (by omega) rfl (fun ls hl => ?_)
                  refine lv_goto (tgt := 40) hx hb dX4_dropFirstBlock_74 (by decide) ?_
                  have hw_7 : [(h, .inr (4, [.int (iI am), .ref qt, .ref qv, .ref qs, .int (iI sb), .int (iI sp), .int (iI gs)])), (qt, .inl (cI, 160, .inl (aI (drK tt (zz 0) am)))), (qv, .inl (cI, 160, .inl (aI (drK vv (zz 0) am)))), (qs, .inl (cI, 9, .inl (aI (uI (drK zz 1 i) (i - 1) ((drK zz 1 i) i)))))] = ([(h, .inr (4, [.int (iI am), .ref qt, .ref qv, .ref qs, .int (iI sb), .int (iI sp), .int (iI gs)])), (qt, .inl (cI, 160, .inl (aI (drK tt (zz 0) am)))), (qv, .inl (cI, 160, .inl (aI (drK vv (zz 0) am)))), (qs, .inl (cI, 9, .inl (aI (drK zz 1 (i + 1)))))] : va_W) := by rw [drK_s zz (i := i) (g := 1) (by omega) (by omega)]
                  rw [hw_7] at hP hD
                  exact ih40 (i + 1) (by omega) (by first | assumption | omega) _ _ _ hP hD hS (lv_sub hl [1, 2, 0] rfl)
          have hw_8 : [(h, .inr (4, [.int (iI am), .ref qt, .ref qv, .ref qs, .int (iI sb), .int (iI sp), .int (iI gs)])), (qt, .inl (cI, 160, .inl (aI (drK tt (zz 0) am)))), (qv, .inl (cI, 160, .inl (aI (drK vv (zz 0) am)))), (qs, .inl (cI, 9, .inl (aI zz)))] = ([(h, .inr (4, [.int (iI am), .ref qt, .ref qv, .ref qs, .int (iI sb), .int (iI sp), .int (iI gs)])), (qt, .inl (cI, 160, .inl (aI (drK tt (zz 0) am)))), (qv, .inl (cI, 160, .inl (aI (drK vv (zz 0) am)))), (qs, .inl (cI, 9, .inl (aI (drK zz 1 1))))] : va_W) := by rw [drK_0]
          rw [hw_8] at hP hD
          exact lp40 _ 1 (Nat.lt_succ_self _) (by first | assumption | omega) _ _ _ hP hD hS (lv_sub hl [1, 2, 0] rfl)
        · refine lv_aload_n hx hb dX4_dropFirstBlock_24 rfl (lv_at hl 0 rfl) ?_
          refine lv_iload_n hx hb dX4_dropFirstBlock_25 rfl (lv_at hl 2 rfl) ?_
          refine lv_iload_n hx hb dX4_dropFirstBlock_26 rfl (lv_at hl 2 rfl) ?_
          refine lv_iload_n hx hb dX4_dropFirstBlock_27 rfl (lv_at hl 1 rfl) ?_
          refine mi_isub hx hb dX4_dropFirstBlock_28 ?_
          refine m_runv (wc := [(h, .inr (4, [.int (iI am), .ref qt, .ref qv, .ref qs, .int (iI sb), .int (iI sp), .int (iI gs)])), (qt, .inl (cI, 160, .inl (aI (drK tt (zz 0) i)))), (qv, .inl (cI, 160, .inl (aI (drK vv (zz 0) i)))), (qs, .inl (cI, 9, .inl (aI zz)))]) (wc' := [(h, .inr (4, [.int (iI am), .ref qt, .ref qv, .ref qs, .int (iI sb), .int (iI sp), .int (iI gs)])), (qt, .inl (cI, 160, .inl (aI (uI (drK tt (zz 0) i) (i - (zz 0)) ((drK tt (zz 0) i) i))))), (qv, .inl (cI, 160, .inl (aI (uI (drK vv (zz 0) i) (i - (zz 0)) ((drK vv (zz 0) i) i))))), (qs, .inl (cI, 9, .inl (aI zz)))]) (wr := []) (ws' := [(h, .inr (4, [.int (iI am), .ref qt, .ref qv, .ref qs, .int (iI sb), .int (iI sp), .int (iI gs)])), (qt, .inl (cI, 160, .inl (aI (uI (drK tt (zz 0) i) (i - (zz 0)) ((drK tt (zz 0) i) i))))), (qv, .inl (cI, 160, .inl (aI (uI (drK vv (zz 0) i) (i - (zz 0)) ((drK vv (zz 0) i) i))))), (qs, .inl (cI, 9, .inl (aI zz)))]) (va_runV (As := [.int (iI i), .int (iI (i - (zz 0)))]) (rest := []) ⟨hx, hb, hml, hown, hts⟩ (c_X4_copyPoint l dC dI cI cO h qt qv qs am (drK tt (zz 0) i) (drK vv (zz 0) i) zz sb sp gs i (i - (zz 0)) H.size (by first | assumption | omega) (by first | assumption | omega)) (cwV 2 hts gX4_dropFirstBlock_X4_copyPoint rfl rfl rfl (by decide +kernel) ⟨Nat.le_of_ble_eq_true rfl, Nat.le_of_ble_eq_true rfl⟩) (m_preV hZ hK hP hD [0, 1, 2, 3] rfl (by decide) (va_recv hK hP (ci := 4) (q0 := 0) rfl rfl)) rfl rfl hl.1 rfl (lv_room (Nat.le_of_ble_eq_true rfl)) dX4_dropFirstBlock_29 ⟨Nat.le_of_ble_eq_true rfl, Nat.le_of_ble_eq_true rfl⟩) hP hD hS hA [0, 1, 2, 3] [] [0, 1, 2, 3] rfl rfl (by decide) (by decide) rfl (by decide) (fun H locs hP hD hS => ?_)
          refine mi_iinc (b := i + 1) (lv' := [(2, .int (iI (i + 1))), (0, .ref h), (1, .int (iI (zz 0)))]) hx hb dX4_dropFirstBlock_32 hl (k := 2) rfl (by decide) (by omega) rfl (fun ls hl => ?_)
          refine lv_goto (tgt := 16) hx hb dX4_dropFirstBlock_35 (by decide) ?_
          have hw_9 : [(h, .inr (4, [.int (iI am), .ref qt, .ref qv, .ref qs, .int (iI sb), .int (iI sp), .int (iI gs)])), (qt, .inl (cI, 160, .inl (aI (uI (drK tt (zz 0) i) (i - (zz 0)) ((drK tt (zz 0) i) i))))), (qv, .inl (cI, 160, .inl (aI (uI (drK vv (zz 0) i) (i - (zz 0)) ((drK vv (zz 0) i) i))))), (qs, .inl (cI, 9, .inl (aI zz)))] = ([(h, .inr (4, [.int (iI am), .ref qt, .ref qv, .ref qs, .int (iI sb), .int (iI sp), .int (iI gs)])), (qt, .inl (cI, 160, .inl (aI (drK tt (zz 0) (i + 1))))), (qv, .inl (cI, 160, .inl (aI (drK vv (zz 0) (i + 1))))), (qs, .inl (cI, 9, .inl (aI zz)))] : va_W) := by rw [drK_s tt (i := i) (g := zz 0) (by omega) (by omega), drK_s vv (i := i) (g := zz 0) (by omega) (by omega)]
          rw [hw_9] at hP hD
          exact ih16 (i + 1) (by omega) (by first | assumption | omega) _ _ _ hP hD hS (lv_sub hl [1, 2, 0] rfl)
    have hw_10 : [(h, .inr (4, [.int (iI am), .ref qt, .ref qv, .ref qs, .int (iI sb), .int (iI sp), .int (iI gs)])), (qt, .inl (cI, 160, .inl (aI tt))), (qv, .inl (cI, 160, .inl (aI vv))), (qs, .inl (cI, 9, .inl (aI zz)))] = ([(h, .inr (4, [.int (iI am), .ref qt, .ref qv, .ref qs, .int (iI sb), .int (iI sp), .int (iI gs)])), (qt, .inl (cI, 160, .inl (aI (drK tt (zz 0) (zz 0))))), (qv, .inl (cI, 160, .inl (aI (drK vv (zz 0) (zz 0))))), (qs, .inl (cI, 9, .inl (aI zz)))] : va_W) := by rw [drK_0, drK_0]
    rw [hw_10] at hP hD
    exact lp16 _ (zz 0) (Nat.lt_succ_self _) (by first | assumption | omega) _ _ _ hP hD hS (lv_sub hl [2, 1, 0] rfl)
  · exfalso; omega

set_option maxRecDepth 100000 in
set_option maxHeartbeats 4000000 in
theorem c_X4_blocksBelow (l : Launch) (dC : Nat → ClassId) (dI : Nat → Nat → Nat) (cI cO : ClassId) (h : Nat) (qt : Nat) (qv : Nat) (qs : Nat) (am : Int) (tt : fI) (vv : fI) (zz : fI) (sb : Int) (sp : Int) (gs : Int) (t : Int) (bb : Int) (sz : Nat) (hsb : 0 ≤ sb ∧ sb ≤ 9) (ht : rI t) (htt : ∀ j, 0 ≤ tt j ∧ tt j ≤ 99999) (hsmz : ∀ b, 0 ≤ b → b < sb → 1 ≤ sm zz (b + 1) ∧ sm zz (b + 1) ≤ 160) (hb1 : 0 ≤ bb ∧ bb ≤ sb) (hb2 : ∀ b, 0 ≤ b → b < bb → tt (sm zz (b + 1) - 1) < t) (hb3 : bb < sb → t ≤ tt (sm zz (bb + 1) - 1)) : Met l yX4_blocksBelow wsX4_blocksBelow ({ frames := 1, cells := 0, slots := 0, locals := 22 }) (mPc (dC, dI) [(cI, .int), (cO, .object "java/lang/Object")] [.ref h, .int (iI t)] sz [(h, .inr (4, [.int (iI am), .ref qt, .ref qv, .ref qs, .int (iI sb), .int (iI sp), .int (iI gs)])), (qt, .inl (cI, 160, .inl (aI tt))), (qv, .inl (cI, 160, .inl (aI vv))), (qs, .inl (cI, 9, .inl (aI zz)))]) (mQi (dC, dI) [(h, .inr (4, [.int (iI am), .ref qt, .ref qv, .ref qs, .int (iI sb), .int (iI sp), .int (iI gs)])), (qt, .inl (cI, 160, .inl (aI tt))), (qv, .inl (cI, 160, .inl (aI vv))), (qs, .inl (cI, 9, .inl (aI zz)))] [(h, .inr (4, [.int (iI am), .ref qt, .ref qv, .ref qs, .int (iI sb), .int (iI sp), .int (iI gs)])), (qt, .inl (cI, 160, .inl (aI tt))), (qv, .inl (cI, 160, .inl (aI vv))), (qs, .inl (cI, 9, .inl (aI zz)))] sz bb) 0 0 (va_A [(h, .inr (4, [.int (iI am), .ref qt, .ref qv, .ref qs, .int (iI sb), .int (iI sp), .int (iI gs)])), (qt, .inl (cI, 160, .inl (aI tt))), (qv, .inl (cI, 160, .inl (aI vv))), (qs, .inl (cI, 9, .inl (aI zz)))] sz) := by
  refine mMet (cc := cX4_blocksBelow) (maxL := 4) (ret := (some .int)) (by decide) rfl (Nat.le_of_ble_eq_true rfl) ?_
  intro p e s m args below meth c A ls hx hb hr hts hown hlocks hin hml hAe hsz hA hD H hHe hP hK hZ hS hl Q hQ
  have hl : lv_has ls 4 [(0, .ref h), (1, .int (iI t))] := hl
  have hf21 := hts (.fieldLink RX4 21 "MeridianSeries$Points" "sealedBlocks" "I") (by decide +kernel)
  have hi_X4 : ∀ w ∈ u_ws RX4 TX4 7, w ∈ wsX4_blocksBelow := by decide +kernel
  refine mi_iconst hx hb dX4_blocksBelow_0 ?_
  refine lv_istore_n (lv' := [(2, .int (iI 0)), (0, .ref h), (1, .int (iI t))]) hx hb dX4_blocksBelow_1 rfl hl (by decide) rfl (fun ls hl => ?_)
  refine mi_iconst hx hb dX4_blocksBelow_2 ?_
  refine lv_istore_n (lv' := [(3, .int (iI 0)), (2, .int (iI 0)), (0, .ref h), (1, .int (iI t))]) hx hb dX4_blocksBelow_3 rfl hl (by decide) rfl (fun ls hl => ?_)
  have lp4 : ∀ (k : Nat) (i : Int), (sb - i).toNat < k → 0 ≤ i ∧ i ≤ bb → ∀ (H : Heap) (locs : List Loc) (ls : Array Slot), va_P (dC, dI) vwCl [(h, .inr (4, [.int (iI am), .ref qt, .ref qv, .ref qs, .int (iI sb), .int (iI sp), .int (iI gs)])), (qt, .inl (cI, 160, .inl (aI tt))), (qv, .inl (cI, 160, .inl (aI vv))), (qs, .inl (cI, 9, .inl (aI zz)))] H → va_D A [(h, .inr (4, [.int (iI am), .ref qt, .ref qv, .ref qs, .int (iI sb), .int (iI sp), .int (iI gs)])), (qt, .inl (cI, 160, .inl (aI tt))), (qv, .inl (cI, 160, .inl (aI vv))), (qs, .inl (cI, 9, .inl (aI zz)))] → va_S A s.heap H locs → lv_has ls 4 [(0, .ref h), (1, .int (iI t)), (2, .int (iI (sm zz i))), (3, .int (iI i))] → W p l e { frames := 1, cells := 0, slots := 0, locals := 22 } s m args below meth c H locs 0 0 Q (F0 m 4 ls []) := by
    intro k
    induction k with
    | zero => intro i hm; exact absurd hm (Nat.not_lt_zero _)
    | succ k ih4 =>
      intro i hm hi H locs ls hP hD hS hl
      refine lv_iload_n hx hb dX4_blocksBelow_4 rfl (lv_at hl 3 rfl) ?_
      refine lv_aload_n hx hb dX4_blocksBelow_5 rfl (lv_at hl 0 rfl) ?_
      refine va_get (ci := 4) (v := .int (iI sb)) (C := RX4) (T := TX4) (N := 7) hx hb hts hi_X4 hown hK hP 0 rfl rfl 4 (by decide) hf21 (fun _ h9 => h9) rfl dX4_blocksBelow_6 ?_
      refine mi_icmp_ge (tgt := 40) hx hb (by omega) (by omega) dX4_blocksBelow_9 (by decide) (fun c_1 => ?_) (fun c_1 => ?_)
      · refine lv_aload_n hx hb dX4_blocksBelow_40 rfl (lv_at hl 0 rfl) ?_
        refine va_get (ci := 4) (v := .int (iI sb)) (C := RX4) (T := TX4) (N := 7) hx hb hts hi_X4 hown hK hP 0 rfl rfl 4 (by decide) hf21 (fun _ h9 => h9) rfl dX4_blocksBelow_41 ?_
        exact mi_iret hx hb hQ hr hlocks hAe hsz hP hD hS (by first | rfl | omega | (split <;> omega)) rfl dX4_blocksBelow_44
      · refine lv_iload_n hx hb dX4_blocksBelow_12 rfl (lv_at hl 2 rfl) ?_
        refine lv_aload_n hx hb dX4_blocksBelow_13 rfl (lv_at hl 0 rfl) ?_
        refine lv_iload_n hx hb dX4_blocksBelow_14 rfl (lv_at hl 3 rfl) ?_
        refine m_run (wc := [(h, .inr (4, [.int (iI am), .ref qt, .ref qv, .ref qs, .int (iI sb), .int (iI sp), .int (iI gs)])), (qt, .inl (cI, 160, .inl (aI tt))), (qv, .inl (cI, 160, .inl (aI vv))), (qs, .inl (cI, 9, .inl (aI zz)))]) (wc' := [(h, .inr (4, [.int (iI am), .ref qt, .ref qv, .ref qs, .int (iI sb), .int (iI sp), .int (iI gs)])), (qt, .inl (cI, 160, .inl (aI tt))), (qv, .inl (cI, 160, .inl (aI vv))), (qs, .inl (cI, 9, .inl (aI zz)))]) (wr := []) (ws' := [(h, .inr (4, [.int (iI am), .ref qt, .ref qv, .ref qs, .int (iI sb), .int (iI sp), .int (iI gs)])), (qt, .inl (cI, 160, .inl (aI tt))), (qv, .inl (cI, 160, .inl (aI vv))), (qs, .inl (cI, 9, .inl (aI zz)))]) (va_runV (As := [.int (iI i)]) (rest := [.int (iI (sm zz i))]) ⟨hx, hb, hml, hown, hts⟩ (c_X4_sizeOf_s l dC dI cI cO h qt qv qs am tt vv zz sb sp gs i H.size (by first | assumption | omega) (by first | assumption | omega)) (cwV 1 hts gX4_blocksBelow_X4_sizeOf rfl rfl rfl (by decide +kernel) ⟨Nat.le_of_ble_eq_true rfl, Nat.le_of_ble_eq_true rfl⟩) (m_preV hZ hK hP hD [0, 1, 2, 3] rfl (by decide) (va_recv hK hP (ci := 4) (q0 := 0) rfl rfl)) rfl rfl hl.1 rfl (lv_room (Nat.le_of_ble_eq_true rfl)) dX4_blocksBelow_15 ⟨Nat.le_of_ble_eq_true rfl, Nat.le_of_ble_eq_true rfl⟩) hP hD hS hA [0, 1, 2, 3] [] [0, 1, 2, 3] rfl rfl (by decide) (by decide) rfl (by decide) (fun H locs hP hD hS => ?_)
        have q6 := hsmz i (by omega) (by omega)
        rw [sm_s zz (by omega)] at q6
        refine mi_iadd hx hb dX4_blocksBelow_18 ?_
        refine lv_istore_n (lv' := [(2, .int (iI ((sm zz i) + (zz i)))), (0, .ref h), (1, .int (iI t)), (3, .int (iI i))]) hx hb dX4_blocksBelow_19 rfl hl (by decide) rfl (fun ls hl => ?_)
        refine lv_aload_n hx hb dX4_blocksBelow_20 rfl (lv_at hl 1 rfl) ?_
        refine lv_iload_n hx hb dX4_blocksBelow_21 rfl (lv_at hl 0 rfl) ?_
        refine mi_iconst hx hb dX4_blocksBelow_22 ?_
        refine mi_isub hx hb dX4_blocksBelow_23 ?_
        refine mi_iconst hx hb dX4_blocksBelow_24 ?_
        refine m_run (wc := [(h, .inr (4, [.int (iI am), .ref qt, .ref qv, .ref qs, .int (iI sb), .int (iI sp), .int (iI gs)])), (qt, .inl (cI, 160, .inl (aI tt))), (qv, .inl (cI, 160, .inl (aI vv))), (qs, .inl (cI, 9, .inl (aI zz)))]) (wc' := [(h, .inr (4, [.int (iI am), .ref qt, .ref qv, .ref qs, .int (iI sb), .int (iI sp), .int (iI gs)])), (qt, .inl (cI, 160, .inl (aI tt))), (qv, .inl (cI, 160, .inl (aI vv))), (qs, .inl (cI, 9, .inl (aI zz)))]) (wr := []) (ws' := [(h, .inr (4, [.int (iI am), .ref qt, .ref qv, .ref qs, .int (iI sb), .int (iI sp), .int (iI gs)])), (qt, .inl (cI, 160, .inl (aI tt))), (qv, .inl (cI, 160, .inl (aI vv))), (qs, .inl (cI, 9, .inl (aI zz)))]) (va_runV (As := [.int (iI (((sm zz i) + (zz i)) - 1)), .int (iI 0)]) (rest := []) ⟨hx, hb, hml, hown, hts⟩ (c_X4_number_t l dC dI cI cO h qt qv qs am tt vv zz sb sp gs (((sm zz i) + (zz i)) - 1) H.size (by first | assumption | omega)) (cwV 2 hts gX4_blocksBelow_X4_number rfl rfl rfl (by decide +kernel) ⟨Nat.le_of_ble_eq_true rfl, Nat.le_of_ble_eq_true rfl⟩) (m_preV hZ hK hP hD [0, 1, 2, 3] rfl (by decide) (va_recv hK hP (ci := 4) (q0 := 0) rfl rfl)) rfl rfl hl.1 rfl (lv_room (Nat.le_of_ble_eq_true rfl)) dX4_blocksBelow_25 ⟨Nat.le_of_ble_eq_true rfl, Nat.le_of_ble_eq_true rfl⟩) hP hD hS hA [0, 1, 2, 3] [] [0, 1, 2, 3] rfl rfl (by decide) (by decide) rfl (by decide) (fun H locs hP hD hS => ?_)
        have q8 := htt (sm zz i + zz i - 1)
        refine lv_iload_n hx hb dX4_blocksBelow_28 rfl (lv_at hl 2 rfl) ?_
        refine mi_icmp_lt (tgt := 34) hx hb (by omega) (by omega) dX4_blocksBelow_29 (by decide) (fun c_2 => ?_) (fun c_2 => ?_)
        · have q7 : i < bb := Decidable.byContradiction fun q => by
            have q5 : i = bb := by omega
            rw [← q5] at hb3
            have q4 := hb3 (by omega)
            rw [sm_s zz (by omega)] at q4
            omega
          refine mi_iinc (b := i + 1) (lv' := [(3, .int (iI (i + 1))), (2, .int (iI ((sm zz i) + (zz i)))), (0, .ref h), (1, .int (iI t))]) hx hb dX4_blocksBelow_34 hl (k := 3) rfl (by decide) (by omega) rfl (fun ls hl => ?_)
          refine lv_goto (tgt := 4) hx hb dX4_blocksBelow_37 (by decide) ?_
          rw [← sm_s zz hi.1] at hl
          exact ih4 (i + 1) (by omega) (by first | assumption | omega) _ _ _ hP hD hS (lv_sub hl [2, 3, 1, 0] rfl)
        · have q7 : i = bb := Decidable.byContradiction fun q => by
            have q4 := hb2 i (by omega) (by omega)
            rw [sm_s zz (by omega)] at q4
            omega
          refine lv_iload_n hx hb dX4_blocksBelow_32 rfl (lv_at hl 3 rfl) ?_
          exact mi_iret hx hb hQ hr hlocks hAe hsz hP hD hS (by first | rfl | omega | (split <;> omega)) rfl dX4_blocksBelow_33
  exact lp4 _ 0 (Nat.lt_succ_self _) (by first | assumption | omega) _ _ _ hP hD hS (lv_sub hl [2, 3, 1, 0] rfl)

set_option maxRecDepth 100000 in
set_option maxHeartbeats 4000000 in
theorem c_X4_copyFrom (l : Launch) (dC : Nat → ClassId) (dI : Nat → Nat → Nat) (cI cO : ClassId) (h : Nat) (qt : Nat) (qv : Nat) (qs : Nat) (am : Int) (tt : fI) (vv : fI) (zz : fI) (sb : Int) (sp : Int) (gs : Int) (o : Nat) (qt2 : Nat) (qv2 : Nat) (qs2 : Nat) (am2 : Int) (tt2 : fI) (vv2 : fI) (zz2 : fI) (sb2 : Int) (sp2 : Int) (gs2 : Int) (sz : Nat) (ham : 0 ≤ am2 ∧ am2 ≤ 160) (hsb : 0 ≤ sb2 ∧ sb2 ≤ 9) : Met l yX4_copyFrom wsX4_copyFrom ({ frames := 1, cells := 0, slots := 0, locals := 23 }) (mPc (dC, dI) [(cI, .int), (cO, .object "java/lang/Object")] [.ref h, .ref o] sz [(h, .inr (4, [.int (iI am), .ref qt, .ref qv, .ref qs, .int (iI sb), .int (iI sp), .int (iI gs)])), (qt, .inl (cI, 160, .inl (aI tt))), (qv, .inl (cI, 160, .inl (aI vv))), (qs, .inl (cI, 9, .inl (aI zz))), (o, .inr (4, [.int (iI am2), .ref qt2, .ref qv2, .ref qs2, .int (iI sb2), .int (iI sp2), .int (iI gs2)])), (qt2, .inl (cI, 160, .inl (aI tt2))), (qv2, .inl (cI, 160, .inl (aI vv2))), (qs2, .inl (cI, 9, .inl (aI zz2)))]) (mQv (dC, dI) [(h, .inr (4, [.int (iI am), .ref qt, .ref qv, .ref qs, .int (iI sb), .int (iI sp), .int (iI gs)])), (qt, .inl (cI, 160, .inl (aI tt))), (qv, .inl (cI, 160, .inl (aI vv))), (qs, .inl (cI, 9, .inl (aI zz))), (o, .inr (4, [.int (iI am2), .ref qt2, .ref qv2, .ref qs2, .int (iI sb2), .int (iI sp2), .int (iI gs2)])), (qt2, .inl (cI, 160, .inl (aI tt2))), (qv2, .inl (cI, 160, .inl (aI vv2))), (qs2, .inl (cI, 9, .inl (aI zz2)))] [(h, .inr (4, [.int (iI am2), .ref qt, .ref qv, .ref qs, .int (iI sb2), .int (iI sp2), .int (iI gs2)])), (qt, .inl (cI, 160, .inl (aI (cpK tt tt2 am2)))), (qv, .inl (cI, 160, .inl (aI (cpK vv vv2 am2)))), (qs, .inl (cI, 9, .inl (aI (cpK zz zz2 sb2)))), (o, .inr (4, [.int (iI am2), .ref qt2, .ref qv2, .ref qs2, .int (iI sb2), .int (iI sp2), .int (iI gs2)])), (qt2, .inl (cI, 160, .inl (aI tt2))), (qv2, .inl (cI, 160, .inl (aI vv2))), (qs2, .inl (cI, 9, .inl (aI zz2)))] sz) 0 0 (va_A [(h, .inr (4, [.int (iI am), .ref qt, .ref qv, .ref qs, .int (iI sb), .int (iI sp), .int (iI gs)])), (qt, .inl (cI, 160, .inl (aI tt))), (qv, .inl (cI, 160, .inl (aI vv))), (qs, .inl (cI, 9, .inl (aI zz))), (o, .inr (4, [.int (iI am2), .ref qt2, .ref qv2, .ref qs2, .int (iI sb2), .int (iI sp2), .int (iI gs2)])), (qt2, .inl (cI, 160, .inl (aI tt2))), (qv2, .inl (cI, 160, .inl (aI vv2))), (qs2, .inl (cI, 9, .inl (aI zz2)))] sz) := by
  refine mMet (cc := cX4_copyFrom) (maxL := 3) (ret := none) (by decide) rfl (Nat.le_of_ble_eq_true rfl) ?_
  intro p e s m args below meth c A ls hx hb hr hts hown hlocks hin hml hAe hsz hA hD H hHe hP hK hZ hS hl Q hQ
  have hl : lv_has ls 3 [(0, .ref h), (1, .ref o)] := hl
  have hf31 := hts (.fieldLink RX4 31 "MeridianSeries$Points" "amount" "I") (by decide +kernel)
  have hs31 := hts (.sameField "MeridianSeries$Points" "MeridianSeries$Items" "amount" "I") (by decide +kernel)
  have hi_X4 : ∀ w ∈ u_ws RX4 TX4 7, w ∈ wsX4_copyFrom := by decide +kernel
  have hf21 := hts (.fieldLink RX4 21 "MeridianSeries$Points" "sealedBlocks" "I") (by decide +kernel)
  have hf25 := hts (.fieldLink RX4 25 "MeridianSeries$Points" "sealedPoints" "I") (by decide +kernel)
  have hf28 := hts (.fieldLink RX4 28 "MeridianSeries$Points" "greatestSealedTime" "I") (by decide +kernel)
  have hf18 := hts (.fieldLink RX4 18 "MeridianSeries$Points" "sizes" "[I") (by decide +kernel)
  refine mi_iconst hx hb dX4_copyFrom_0 ?_
  refine lv_istore_n (lv' := [(2, .int (iI 0)), (0, .ref h), (1, .ref o)]) hx hb dX4_copyFrom_1 rfl hl (by decide) rfl (fun ls hl => ?_)
  have lp2 : ∀ (k : Nat) (i : Int), (am2 - i).toNat < k → 0 ≤ i ∧ i ≤ am2 → ∀ (H : Heap) (locs : List Loc) (ls : Array Slot), va_P (dC, dI) vwCl [(h, .inr (4, [.int (iI am), .ref qt, .ref qv, .ref qs, .int (iI sb), .int (iI sp), .int (iI gs)])), (qt, .inl (cI, 160, .inl (aI (cpK tt tt2 i)))), (qv, .inl (cI, 160, .inl (aI (cpK vv vv2 i)))), (qs, .inl (cI, 9, .inl (aI zz))), (o, .inr (4, [.int (iI am2), .ref qt2, .ref qv2, .ref qs2, .int (iI sb2), .int (iI sp2), .int (iI gs2)])), (qt2, .inl (cI, 160, .inl (aI tt2))), (qv2, .inl (cI, 160, .inl (aI vv2))), (qs2, .inl (cI, 9, .inl (aI zz2)))] H → va_D A [(h, .inr (4, [.int (iI am), .ref qt, .ref qv, .ref qs, .int (iI sb), .int (iI sp), .int (iI gs)])), (qt, .inl (cI, 160, .inl (aI (cpK tt tt2 i)))), (qv, .inl (cI, 160, .inl (aI (cpK vv vv2 i)))), (qs, .inl (cI, 9, .inl (aI zz))), (o, .inr (4, [.int (iI am2), .ref qt2, .ref qv2, .ref qs2, .int (iI sb2), .int (iI sp2), .int (iI gs2)])), (qt2, .inl (cI, 160, .inl (aI tt2))), (qv2, .inl (cI, 160, .inl (aI vv2))), (qs2, .inl (cI, 9, .inl (aI zz2)))] → va_S A s.heap H locs → lv_has ls 3 [(0, .ref h), (1, .ref o), (2, .int (iI i))] → W p l e { frames := 1, cells := 0, slots := 0, locals := 23 } s m args below meth c H locs 0 0 Q (F0 m 2 ls []) := by
    intro k
    induction k with
    | zero => intro i hm; exact absurd hm (Nat.not_lt_zero _)
    | succ k ih2 =>
      intro i hm hi H locs ls hP hD hS hl
      refine lv_iload_n hx hb dX4_copyFrom_2 rfl (lv_at hl 2 rfl) ?_
      refine lv_aload_n hx hb dX4_copyFrom_3 rfl (lv_at hl 1 rfl) ?_
      refine va_get (ci := 4) (v := .int (iI am2)) (C := RX4) (T := TX4) (N := 7) hx hb hts hi_X4 hown hK hP 4 rfl rfl 0 (by decide) hf31 (fun x9 h9 => u_same hs31 x9 h9) rfl dX4_copyFrom_4 ?_
      refine mi_icmp_ge (tgt := 33) hx hb (by omega) (by omega) dX4_copyFrom_7 (by decide) (fun c_1 => ?_) (fun c_1 => ?_)
      · have e_2 : am2 = i := by omega
        subst e_2
        refine mi_iconst hx hb dX4_copyFrom_33 ?_
        refine lv_istore_n (lv' := [(2, .int (iI 0)), (0, .ref h), (1, .ref o)]) hx hb dX4_copyFrom_34 rfl hl (by decide) rfl (fun ls hl => ?_)
        have lp35 : ∀ (k : Nat) (i : Int), (sb2 - i).toNat < k → 0 ≤ i ∧ i ≤ sb2 → ∀ (H : Heap) (locs : List Loc) (ls : Array Slot), va_P (dC, dI) vwCl [(h, .inr (4, [.int (iI am), .ref qt, .ref qv, .ref qs, .int (iI sb), .int (iI sp), .int (iI gs)])), (qt, .inl (cI, 160, .inl (aI (cpK tt tt2 am2)))), (qv, .inl (cI, 160, .inl (aI (cpK vv vv2 am2)))), (qs, .inl (cI, 9, .inl (aI (cpK zz zz2 i)))), (o, .inr (4, [.int (iI am2), .ref qt2, .ref qv2, .ref qs2, .int (iI sb2), .int (iI sp2), .int (iI gs2)])), (qt2, .inl (cI, 160, .inl (aI tt2))), (qv2, .inl (cI, 160, .inl (aI vv2))), (qs2, .inl (cI, 9, .inl (aI zz2)))] H → va_D A [(h, .inr (4, [.int (iI am), .ref qt, .ref qv, .ref qs, .int (iI sb), .int (iI sp), .int (iI gs)])), (qt, .inl (cI, 160, .inl (aI (cpK tt tt2 am2)))), (qv, .inl (cI, 160, .inl (aI (cpK vv vv2 am2)))), (qs, .inl (cI, 9, .inl (aI (cpK zz zz2 i)))), (o, .inr (4, [.int (iI am2), .ref qt2, .ref qv2, .ref qs2, .int (iI sb2), .int (iI sp2), .int (iI gs2)])), (qt2, .inl (cI, 160, .inl (aI tt2))), (qv2, .inl (cI, 160, .inl (aI vv2))), (qs2, .inl (cI, 9, .inl (aI zz2)))] → va_S A s.heap H locs → lv_has ls 3 [(0, .ref h), (1, .ref o), (2, .int (iI i))] → W p l e { frames := 1, cells := 0, slots := 0, locals := 23 } s m args below meth c H locs 0 0 Q (F0 m 35 ls []) := by
          intro k
          induction k with
          | zero => intro i hm; exact absurd hm (Nat.not_lt_zero _)
          | succ k ih35 =>
            intro i hm hi2 H locs ls hP hD hS hl
            refine lv_iload_n hx hb dX4_copyFrom_35 rfl (lv_at hl 2 rfl) ?_
            refine lv_aload_n hx hb dX4_copyFrom_36 rfl (lv_at hl 1 rfl) ?_
            refine va_get (ci := 4) (v := .int (iI sb2)) (C := RX4) (T := TX4) (N := 7) hx hb hts hi_X4 hown hK hP 4 rfl rfl 4 (by decide) hf21 (fun _ h9 => h9) rfl dX4_copyFrom_37 ?_
            refine mi_icmp_ge (tgt := 69) hx hb (by omega) (by omega) dX4_copyFrom_40 (by decide) (fun c_3 => ?_) (fun c_3 => ?_)
            · have e_4 : sb2 = i := by omega
              subst e_4
              refine lv_aload_n hx hb dX4_copyFrom_69 rfl (lv_at hl 0 rfl) ?_
              refine lv_aload_n hx hb dX4_copyFrom_70 rfl (lv_at hl 1 rfl) ?_
              refine va_get (ci := 4) (v := .int (iI am2)) (C := RX4) (T := TX4) (N := 7) hx hb hts hi_X4 hown hK hP 4 rfl rfl 0 (by decide) hf31 (fun x9 h9 => u_same hs31 x9 h9) rfl dX4_copyFrom_71 ?_
              refine va_put (D := (dC, dI)) (ci := 4) (v := .int (iI am2)) (ty := .int) (C := RX4) (T := TX4) (N := 7) hx hb hts hi_X4 tyX4 tyX4_ok nmX4 hown hK hP hD hS 0 rfl rfl 0 (by decide) hf31 (fun x9 h9 => u_same hs31 x9 h9) rfl (by decide +kernel) rfl rfl (Nat.le_of_ble_eq_true rfl) dX4_copyFrom_74 (fun H locs hP hD hS => ?_)
              have hP : va_P (dC, dI) vwCl [(h, .inr (4, [.int (iI am2), .ref qt, .ref qv, .ref qs, .int (iI sb), .int (iI sp), .int (iI gs)])), (qt, .inl (cI, 160, .inl (aI (cpK tt tt2 am2)))), (qv, .inl (cI, 160, .inl (aI (cpK vv vv2 am2)))), (qs, .inl (cI, 9, .inl (aI (cpK zz zz2 sb2)))), (o, .inr (4, [.int (iI am2), .ref qt2, .ref qv2, .ref qs2, .int (iI sb2), .int (iI sp2), .int (iI gs2)])), (qt2, .inl (cI, 160, .inl (aI tt2))), (qv2, .inl (cI, 160, .inl (aI vv2))), (qs2, .inl (cI, 9, .inl (aI zz2)))] H := hP
              have hD : va_D A [(h, .inr (4, [.int (iI am2), .ref qt, .ref qv, .ref qs, .int (iI sb), .int (iI sp), .int (iI gs)])), (qt, .inl (cI, 160, .inl (aI (cpK tt tt2 am2)))), (qv, .inl (cI, 160, .inl (aI (cpK vv vv2 am2)))), (qs, .inl (cI, 9, .inl (aI (cpK zz zz2 sb2)))), (o, .inr (4, [.int (iI am2), .ref qt2, .ref qv2, .ref qs2, .int (iI sb2), .int (iI sp2), .int (iI gs2)])), (qt2, .inl (cI, 160, .inl (aI tt2))), (qv2, .inl (cI, 160, .inl (aI vv2))), (qs2, .inl (cI, 9, .inl (aI zz2)))] := hD
              refine lv_aload_n hx hb dX4_copyFrom_77 rfl (lv_at hl 0 rfl) ?_
              refine lv_aload_n hx hb dX4_copyFrom_78 rfl (lv_at hl 1 rfl) ?_
              refine va_get (ci := 4) (v := .int (iI sb2)) (C := RX4) (T := TX4) (N := 7) hx hb hts hi_X4 hown hK hP 4 rfl rfl 4 (by decide) hf21 (fun _ h9 => h9) rfl dX4_copyFrom_79 ?_
              refine va_put (D := (dC, dI)) (ci := 4) (v := .int (iI sb2)) (ty := .int) (C := RX4) (T := TX4) (N := 7) hx hb hts hi_X4 tyX4 tyX4_ok nmX4 hown hK hP hD hS 0 rfl rfl 4 (by decide) hf21 (fun _ h9 => h9) rfl (by decide +kernel) rfl rfl (Nat.le_of_ble_eq_true rfl) dX4_copyFrom_82 (fun H locs hP hD hS => ?_)
              have hP : va_P (dC, dI) vwCl [(h, .inr (4, [.int (iI am2), .ref qt, .ref qv, .ref qs, .int (iI sb2), .int (iI sp), .int (iI gs)])), (qt, .inl (cI, 160, .inl (aI (cpK tt tt2 am2)))), (qv, .inl (cI, 160, .inl (aI (cpK vv vv2 am2)))), (qs, .inl (cI, 9, .inl (aI (cpK zz zz2 sb2)))), (o, .inr (4, [.int (iI am2), .ref qt2, .ref qv2, .ref qs2, .int (iI sb2), .int (iI sp2), .int (iI gs2)])), (qt2, .inl (cI, 160, .inl (aI tt2))), (qv2, .inl (cI, 160, .inl (aI vv2))), (qs2, .inl (cI, 9, .inl (aI zz2)))] H := hP
              have hD : va_D A [(h, .inr (4, [.int (iI am2), .ref qt, .ref qv, .ref qs, .int (iI sb2), .int (iI sp), .int (iI gs)])), (qt, .inl (cI, 160, .inl (aI (cpK tt tt2 am2)))), (qv, .inl (cI, 160, .inl (aI (cpK vv vv2 am2)))), (qs, .inl (cI, 9, .inl (aI (cpK zz zz2 sb2)))), (o, .inr (4, [.int (iI am2), .ref qt2, .ref qv2, .ref qs2, .int (iI sb2), .int (iI sp2), .int (iI gs2)])), (qt2, .inl (cI, 160, .inl (aI tt2))), (qv2, .inl (cI, 160, .inl (aI vv2))), (qs2, .inl (cI, 9, .inl (aI zz2)))] := hD
              refine lv_aload_n hx hb dX4_copyFrom_85 rfl (lv_at hl 0 rfl) ?_
              refine lv_aload_n hx hb dX4_copyFrom_86 rfl (lv_at hl 1 rfl) ?_
              refine va_get (ci := 4) (v := .int (iI sp2)) (C := RX4) (T := TX4) (N := 7) hx hb hts hi_X4 hown hK hP 4 rfl rfl 5 (by decide) hf25 (fun _ h9 => h9) rfl dX4_copyFrom_87 ?_
              refine va_put (D := (dC, dI)) (ci := 4) (v := .int (iI sp2)) (ty := .int) (C := RX4) (T := TX4) (N := 7) hx hb hts hi_X4 tyX4 tyX4_ok nmX4 hown hK hP hD hS 0 rfl rfl 5 (by decide) hf25 (fun _ h9 => h9) rfl (by decide +kernel) rfl rfl (Nat.le_of_ble_eq_true rfl) dX4_copyFrom_90 (fun H locs hP hD hS => ?_)
              have hP : va_P (dC, dI) vwCl [(h, .inr (4, [.int (iI am2), .ref qt, .ref qv, .ref qs, .int (iI sb2), .int (iI sp2), .int (iI gs)])), (qt, .inl (cI, 160, .inl (aI (cpK tt tt2 am2)))), (qv, .inl (cI, 160, .inl (aI (cpK vv vv2 am2)))), (qs, .inl (cI, 9, .inl (aI (cpK zz zz2 sb2)))), (o, .inr (4, [.int (iI am2), .ref qt2, .ref qv2, .ref qs2, .int (iI sb2), .int (iI sp2), .int (iI gs2)])), (qt2, .inl (cI, 160, .inl (aI tt2))), (qv2, .inl (cI, 160, .inl (aI vv2))), (qs2, .inl (cI, 9, .inl (aI zz2)))] H := hP
              have hD : va_D A [(h, .inr (4, [.int (iI am2), .ref qt, .ref qv, .ref qs, .int (iI sb2), .int (iI sp2), .int (iI gs)])), (qt, .inl (cI, 160, .inl (aI (cpK tt tt2 am2)))), (qv, .inl (cI, 160, .inl (aI (cpK vv vv2 am2)))), (qs, .inl (cI, 9, .inl (aI (cpK zz zz2 sb2)))), (o, .inr (4, [.int (iI am2), .ref qt2, .ref qv2, .ref qs2, .int (iI sb2), .int (iI sp2), .int (iI gs2)])), (qt2, .inl (cI, 160, .inl (aI tt2))), (qv2, .inl (cI, 160, .inl (aI vv2))), (qs2, .inl (cI, 9, .inl (aI zz2)))] := hD
              refine lv_aload_n hx hb dX4_copyFrom_93 rfl (lv_at hl 0 rfl) ?_
              refine lv_aload_n hx hb dX4_copyFrom_94 rfl (lv_at hl 1 rfl) ?_
              refine va_get (ci := 4) (v := .int (iI gs2)) (C := RX4) (T := TX4) (N := 7) hx hb hts hi_X4 hown hK hP 4 rfl rfl 6 (by decide) hf28 (fun _ h9 => h9) rfl dX4_copyFrom_95 ?_
              refine va_put (D := (dC, dI)) (ci := 4) (v := .int (iI gs2)) (ty := .int) (C := RX4) (T := TX4) (N := 7) hx hb hts hi_X4 tyX4 tyX4_ok nmX4 hown hK hP hD hS 0 rfl rfl 6 (by decide) hf28 (fun _ h9 => h9) rfl (by decide +kernel) rfl rfl (Nat.le_of_ble_eq_true rfl) dX4_copyFrom_98 (fun H locs hP hD hS => ?_)
              have hP : va_P (dC, dI) vwCl [(h, .inr (4, [.int (iI am2), .ref qt, .ref qv, .ref qs, .int (iI sb2), .int (iI sp2), .int (iI gs2)])), (qt, .inl (cI, 160, .inl (aI (cpK tt tt2 am2)))), (qv, .inl (cI, 160, .inl (aI (cpK vv vv2 am2)))), (qs, .inl (cI, 9, .inl (aI (cpK zz zz2 sb2)))), (o, .inr (4, [.int (iI am2), .ref qt2, .ref qv2, .ref qs2, .int (iI sb2), .int (iI sp2), .int (iI gs2)])), (qt2, .inl (cI, 160, .inl (aI tt2))), (qv2, .inl (cI, 160, .inl (aI vv2))), (qs2, .inl (cI, 9, .inl (aI zz2)))] H := hP
              have hD : va_D A [(h, .inr (4, [.int (iI am2), .ref qt, .ref qv, .ref qs, .int (iI sb2), .int (iI sp2), .int (iI gs2)])), (qt, .inl (cI, 160, .inl (aI (cpK tt tt2 am2)))), (qv, .inl (cI, 160, .inl (aI (cpK vv vv2 am2)))), (qs, .inl (cI, 9, .inl (aI (cpK zz zz2 sb2)))), (o, .inr (4, [.int (iI am2), .ref qt2, .ref qv2, .ref qs2, .int (iI sb2), .int (iI sp2), .int (iI gs2)])), (qt2, .inl (cI, 160, .inl (aI tt2))), (qv2, .inl (cI, 160, .inl (aI vv2))), (qs2, .inl (cI, 9, .inl (aI zz2)))] := hD
              exact mi_vret hx hb hQ hr hlocks hAe hsz hP hD hS rfl dX4_copyFrom_101
            · refine lv_iload_n hx hb dX4_copyFrom_43 rfl (lv_at hl 2 rfl) ?_
              refine lv_aload_n hx hb dX4_copyFrom_44 rfl (lv_at hl 0 rfl) ?_
              refine va_get (ci := 4) (v := .ref qs) (C := RX4) (T := TX4) (N := 7) hx hb hts hi_X4 hown hK hP 0 rfl rfl 3 (by decide) hf18 (fun _ h9 => h9) rfl dX4_copyFrom_45 ?_
              refine mi_alen hx hb hK hP 3 0 rfl rfl dX4_copyFrom_48 ?_
              have eln : ((9 : Nat) : Int) = 9 := rfl
              rw [eln]
              refine mi_icmp_ge (tgt := 69) hx hb (by omega) (by decide) dX4_copyFrom_49 (by decide) (fun c_5 => ?_) (fun c_5 => ?_)
              · exfalso; omega
              · refine lv_aload_n hx hb dX4_copyFrom_52 rfl (lv_at hl 0 rfl) ?_
                refine va_get (ci := 4) (v := .ref qs) (C := RX4) (T := TX4) (N := 7) hx hb hts hi_X4 hown hK hP 0 rfl rfl 3 (by decide) hf18 (fun _ h9 => h9) rfl dX4_copyFrom_53 ?_
                refine lv_iload_n hx hb dX4_copyFrom_56 rfl (lv_at hl 2 rfl) ?_
                refine lv_aload_n hx hb dX4_copyFrom_57 rfl (lv_at hl 1 rfl) ?_
                refine lv_iload_n hx hb dX4_copyFrom_58 rfl (lv_at hl 2 rfl) ?_
                refine m_run (wc := [(o, .inr (4, [.int (iI am2), .ref qt2, .ref qv2, .ref qs2, .int (iI sb2), .int (iI sp2), .int (iI gs2)])), (qt2, .inl (cI, 160, .inl (aI tt2))), (qv2, .inl (cI, 160, .inl (aI vv2))), (qs2, .inl (cI, 9, .inl (aI zz2)))]) (wc' := [(o, .inr (4, [.int (iI am2), .ref qt2, .ref qv2, .ref qs2, .int (iI sb2), .int (iI sp2), .int (iI gs2)])), (qt2, .inl (cI, 160, .inl (aI tt2))), (qv2, .inl (cI, 160, .inl (aI vv2))), (qs2, .inl (cI, 9, .inl (aI zz2)))]) (wr := [(h, .inr (4, [.int (iI am), .ref qt, .ref qv, .ref qs, .int (iI sb), .int (iI sp), .int (iI gs)])), (qt, .inl (cI, 160, .inl (aI (cpK tt tt2 am2)))), (qv, .inl (cI, 160, .inl (aI (cpK vv vv2 am2)))), (qs, .inl (cI, 9, .inl (aI (cpK zz zz2 i))))]) (ws' := [(h, .inr (4, [.int (iI am), .ref qt, .ref qv, .ref qs, .int (iI sb), .int (iI sp), .int (iI gs)])), (qt, .inl (cI, 160, .inl (aI (cpK tt tt2 am2)))), (qv, .inl (cI, 160, .inl (aI (cpK vv vv2 am2)))), (qs, .inl (cI, 9, .inl (aI (cpK zz zz2 i)))), (o, .inr (4, [.int (iI am2), .ref qt2, .ref qv2, .ref qs2, .int (iI sb2), .int (iI sp2), .int (iI gs2)])), (qt2, .inl (cI, 160, .inl (aI tt2))), (qv2, .inl (cI, 160, .inl (aI vv2))), (qs2, .inl (cI, 9, .inl (aI zz2)))]) (va_runV (As := [.int (iI i)]) (rest := [.int (iI i), .ref qs]) ⟨hx, hb, hml, hown, hts⟩ (c_X4_sizeOf_s l dC dI cI cO o qt2 qv2 qs2 am2 tt2 vv2 zz2 sb2 sp2 gs2 i H.size (by first | assumption | omega) (by first | assumption | omega)) (cwV 1 hts gX4_copyFrom_X4_sizeOf rfl rfl rfl (by decide +kernel) ⟨Nat.le_of_ble_eq_true rfl, Nat.le_of_ble_eq_true rfl⟩) (m_preV hZ hK hP hD [4, 5, 6, 7] rfl (by decide) (va_recv hK hP (ci := 4) (q0 := 4) rfl rfl)) rfl rfl hl.1 rfl (lv_room (Nat.le_of_ble_eq_true rfl)) dX4_copyFrom_59 ⟨Nat.le_of_ble_eq_true rfl, Nat.le_of_ble_eq_true rfl⟩) hP hD hS hA [4, 5, 6, 7] [0, 1, 2, 3] [0, 1, 2, 3, 4, 5, 6, 7] rfl rfl (by decide) (by decide) rfl (by decide) (fun H locs hP hD hS => ?_)
                refine mi_iast (ws' := [(h, .inr (4, [.int (iI am), .ref qt, .ref qv, .ref qs, .int (iI sb), .int (iI sp), .int (iI gs)])), (qt, .inl (cI, 160, .inl (aI (cpK tt tt2 am2)))), (qv, .inl (cI, 160, .inl (aI (cpK vv vv2 am2)))), (qs, .inl (cI, 9, .inl (aI (uI (cpK zz zz2 i) i (zz2 i))))), (o, .inr (4, [.int (iI am2), .ref qt2, .ref qv2, .ref qs2, .int (iI sb2), .int (iI sp2), .int (iI gs2)])), (qt2, .inl (cI, 160, .inl (aI tt2))), (qv2, .inl (cI, 160, .inl (aI vv2))), (qs2, .inl (cI, 9, .inl (aI zz2)))]) hx hb hK hP hD hS 3 0 rfl rfl (i := i) (by omega) (by decide) rfl dX4_copyFrom_62 (fun H locs hP hD hS => ?_)
                refine mi_iinc (b := i + 1) (lv' := [(2, .int (iI (i + 1))), (0, .ref h), (1, .ref o)]) hx hb dX4_copyFrom_63 hl (k := 2) rfl (by decide) (by omega) rfl (fun ls hl => ?_)
                refine lv_goto (tgt := 35) hx hb dX4_copyFrom_66 (by decide) ?_
                have hw_6 : [(h, .inr (4, [.int (iI am), .ref qt, .ref qv, .ref qs, .int (iI sb), .int (iI sp), .int (iI gs)])), (qt, .inl (cI, 160, .inl (aI (cpK tt tt2 am2)))), (qv, .inl (cI, 160, .inl (aI (cpK vv vv2 am2)))), (qs, .inl (cI, 9, .inl (aI (uI (cpK zz zz2 i) i (zz2 i))))), (o, .inr (4, [.int (iI am2), .ref qt2, .ref qv2, .ref qs2, .int (iI sb2), .int (iI sp2), .int (iI gs2)])), (qt2, .inl (cI, 160, .inl (aI tt2))), (qv2, .inl (cI, 160, .inl (aI vv2))), (qs2, .inl (cI, 9, .inl (aI zz2)))] = ([(h, .inr (4, [.int (iI am), .ref qt, .ref qv, .ref qs, .int (iI sb), .int (iI sp), .int (iI gs)])), (qt, .inl (cI, 160, .inl (aI (cpK tt tt2 am2)))), (qv, .inl (cI, 160, .inl (aI (cpK vv vv2 am2)))), (qs, .inl (cI, 9, .inl (aI (cpK zz zz2 (i + 1))))), (o, .inr (4, [.int (iI am2), .ref qt2, .ref qv2, .ref qs2, .int (iI sb2), .int (iI sp2), .int (iI gs2)])), (qt2, .inl (cI, 160, .inl (aI tt2))), (qv2, .inl (cI, 160, .inl (aI vv2))), (qs2, .inl (cI, 9, .inl (aI zz2)))] : va_W) := by rw [cpK_s zz zz2 (by omega)]
                rw [hw_6] at hP hD
                exact ih35 (i + 1) (by omega) (by first | assumption | omega) _ _ _ hP hD hS (lv_sub hl [1, 2, 0] rfl)
        have hw_7 : [(h, .inr (4, [.int (iI am), .ref qt, .ref qv, .ref qs, .int (iI sb), .int (iI sp), .int (iI gs)])), (qt, .inl (cI, 160, .inl (aI (cpK tt tt2 am2)))), (qv, .inl (cI, 160, .inl (aI (cpK vv vv2 am2)))), (qs, .inl (cI, 9, .inl (aI zz))), (o, .inr (4, [.int (iI am2), .ref qt2, .ref qv2, .ref qs2, .int (iI sb2), .int (iI sp2), .int (iI gs2)])), (qt2, .inl (cI, 160, .inl (aI tt2))), (qv2, .inl (cI, 160, .inl (aI vv2))), (qs2, .inl (cI, 9, .inl (aI zz2)))] = ([(h, .inr (4, [.int (iI am), .ref qt, .ref qv, .ref qs, .int (iI sb), .int (iI sp), .int (iI gs)])), (qt, .inl (cI, 160, .inl (aI (cpK tt tt2 am2)))), (qv, .inl (cI, 160, .inl (aI (cpK vv vv2 am2)))), (qs, .inl (cI, 9, .inl (aI (cpK zz zz2 0)))), (o, .inr (4, [.int (iI am2), .ref qt2, .ref qv2, .ref qs2, .int (iI sb2), .int (iI sp2), .int (iI gs2)])), (qt2, .inl (cI, 160, .inl (aI tt2))), (qv2, .inl (cI, 160, .inl (aI vv2))), (qs2, .inl (cI, 9, .inl (aI zz2)))] : va_W) := by rw [cpK_0]
        rw [hw_7] at hP hD
        exact lp35 _ 0 (Nat.lt_succ_self _) (by first | assumption | omega) _ _ _ hP hD hS (lv_sub hl [1, 2, 0] rfl)
      · refine lv_aload_n hx hb dX4_copyFrom_10 rfl (lv_at hl 0 rfl) ?_
        refine lv_iload_n hx hb dX4_copyFrom_11 rfl (lv_at hl 2 rfl) ?_
        refine lv_aload_n hx hb dX4_copyFrom_12 rfl (lv_at hl 1 rfl) ?_
        refine lv_iload_n hx hb dX4_copyFrom_13 rfl (lv_at hl 2 rfl) ?_
        refine mi_iconst hx hb dX4_copyFrom_14 ?_
        refine m_run (wc := [(o, .inr (4, [.int (iI am2), .ref qt2, .ref qv2, .ref qs2, .int (iI sb2), .int (iI sp2), .int (iI gs2)])), (qt2, .inl (cI, 160, .inl (aI tt2))), (qv2, .inl (cI, 160, .inl (aI vv2))), (qs2, .inl (cI, 9, .inl (aI zz2)))]) (wc' := [(o, .inr (4, [.int (iI am2), .ref qt2, .ref qv2, .ref qs2, .int (iI sb2), .int (iI sp2), .int (iI gs2)])), (qt2, .inl (cI, 160, .inl (aI tt2))), (qv2, .inl (cI, 160, .inl (aI vv2))), (qs2, .inl (cI, 9, .inl (aI zz2)))]) (wr := [(h, .inr (4, [.int (iI am), .ref qt, .ref qv, .ref qs, .int (iI sb), .int (iI sp), .int (iI gs)])), (qt, .inl (cI, 160, .inl (aI (cpK tt tt2 i)))), (qv, .inl (cI, 160, .inl (aI (cpK vv vv2 i)))), (qs, .inl (cI, 9, .inl (aI zz)))]) (ws' := [(h, .inr (4, [.int (iI am), .ref qt, .ref qv, .ref qs, .int (iI sb), .int (iI sp), .int (iI gs)])), (qt, .inl (cI, 160, .inl (aI (cpK tt tt2 i)))), (qv, .inl (cI, 160, .inl (aI (cpK vv vv2 i)))), (qs, .inl (cI, 9, .inl (aI zz))), (o, .inr (4, [.int (iI am2), .ref qt2, .ref qv2, .ref qs2, .int (iI sb2), .int (iI sp2), .int (iI gs2)])), (qt2, .inl (cI, 160, .inl (aI tt2))), (qv2, .inl (cI, 160, .inl (aI vv2))), (qs2, .inl (cI, 9, .inl (aI zz2)))]) (va_runV (As := [.int (iI i), .int (iI 0)]) (rest := [.int (iI i), .ref h]) ⟨hx, hb, hml, hown, hts⟩ (c_X4_number_t l dC dI cI cO o qt2 qv2 qs2 am2 tt2 vv2 zz2 sb2 sp2 gs2 i H.size (by first | assumption | omega)) (cwV 2 hts gX4_copyFrom_X4_number rfl rfl rfl (by decide +kernel) ⟨Nat.le_of_ble_eq_true rfl, Nat.le_of_ble_eq_true rfl⟩) (m_preV hZ hK hP hD [4, 5, 6, 7] rfl (by decide) (va_recv hK hP (ci := 4) (q0 := 4) rfl rfl)) rfl rfl hl.1 rfl (lv_room (Nat.le_of_ble_eq_true rfl)) dX4_copyFrom_15 ⟨Nat.le_of_ble_eq_true rfl, Nat.le_of_ble_eq_true rfl⟩) hP hD hS hA [4, 5, 6, 7] [0, 1, 2, 3] [0, 1, 2, 3, 4, 5, 6, 7] rfl rfl (by decide) (by decide) rfl (by decide) (fun H locs hP hD hS => ?_)
        refine lv_aload_n hx hb dX4_copyFrom_18 rfl (lv_at hl 1 rfl) ?_
        refine lv_iload_n hx hb dX4_copyFrom_19 rfl (lv_at hl 2 rfl) ?_
        refine mi_iconst hx hb dX4_copyFrom_20 ?_
        refine m_run (wc := [(o, .inr (4, [.int (iI am2), .ref qt2, .ref qv2, .ref qs2, .int (iI sb2), .int (iI sp2), .int (iI gs2)])), (qt2, .inl (cI, 160, .inl (aI tt2))), (qv2, .inl (cI, 160, .inl (aI vv2))), (qs2, .inl (cI, 9, .inl (aI zz2)))]) (wc' := [(o, .inr (4, [.int (iI am2), .ref qt2, .ref qv2, .ref qs2, .int (iI sb2), .int (iI sp2), .int (iI gs2)])), (qt2, .inl (cI, 160, .inl (aI tt2))), (qv2, .inl (cI, 160, .inl (aI vv2))), (qs2, .inl (cI, 9, .inl (aI zz2)))]) (wr := [(h, .inr (4, [.int (iI am), .ref qt, .ref qv, .ref qs, .int (iI sb), .int (iI sp), .int (iI gs)])), (qt, .inl (cI, 160, .inl (aI (cpK tt tt2 i)))), (qv, .inl (cI, 160, .inl (aI (cpK vv vv2 i)))), (qs, .inl (cI, 9, .inl (aI zz)))]) (ws' := [(h, .inr (4, [.int (iI am), .ref qt, .ref qv, .ref qs, .int (iI sb), .int (iI sp), .int (iI gs)])), (qt, .inl (cI, 160, .inl (aI (cpK tt tt2 i)))), (qv, .inl (cI, 160, .inl (aI (cpK vv vv2 i)))), (qs, .inl (cI, 9, .inl (aI zz))), (o, .inr (4, [.int (iI am2), .ref qt2, .ref qv2, .ref qs2, .int (iI sb2), .int (iI sp2), .int (iI gs2)])), (qt2, .inl (cI, 160, .inl (aI tt2))), (qv2, .inl (cI, 160, .inl (aI vv2))), (qs2, .inl (cI, 9, .inl (aI zz2)))]) (va_runV (As := [.int (iI i), .int (iI 5)]) (rest := [.int (iI (tt2 i)), .int (iI i), .ref h]) ⟨hx, hb, hml, hown, hts⟩ (c_X4_number_v l dC dI cI cO o qt2 qv2 qs2 am2 tt2 vv2 zz2 sb2 sp2 gs2 i 5 H.size (by first | assumption | omega) (by first | assumption | omega)) (cwV 2 hts gX4_copyFrom_X4_number rfl rfl rfl (by decide +kernel) ⟨Nat.le_of_ble_eq_true rfl, Nat.le_of_ble_eq_true rfl⟩) (m_preV hZ hK hP hD [4, 5, 6, 7] rfl (by decide) (va_recv hK hP (ci := 4) (q0 := 4) rfl rfl)) rfl rfl hl.1 rfl (lv_room (Nat.le_of_ble_eq_true rfl)) dX4_copyFrom_21 ⟨Nat.le_of_ble_eq_true rfl, Nat.le_of_ble_eq_true rfl⟩) hP hD hS hA [4, 5, 6, 7] [0, 1, 2, 3] [0, 1, 2, 3, 4, 5, 6, 7] rfl rfl (by decide) (by decide) rfl (by decide) (fun H locs hP hD hS => ?_)
        refine m_runv (wc := [(h, .inr (4, [.int (iI am), .ref qt, .ref qv, .ref qs, .int (iI sb), .int (iI sp), .int (iI gs)])), (qt, .inl (cI, 160, .inl (aI (cpK tt tt2 i)))), (qv, .inl (cI, 160, .inl (aI (cpK vv vv2 i)))), (qs, .inl (cI, 9, .inl (aI zz)))]) (wc' := [(h, .inr (4, [.int (iI am), .ref qt, .ref qv, .ref qs, .int (iI sb), .int (iI sp), .int (iI gs)])), (qt, .inl (cI, 160, .inl (aI (uI (cpK tt tt2 i) i (tt2 i))))), (qv, .inl (cI, 160, .inl (aI (uI (cpK vv vv2 i) i (vv2 i))))), (qs, .inl (cI, 9, .inl (aI zz)))]) (wr := [(o, .inr (4, [.int (iI am2), .ref qt2, .ref qv2, .ref qs2, .int (iI sb2), .int (iI sp2), .int (iI gs2)])), (qt2, .inl (cI, 160, .inl (aI tt2))), (qv2, .inl (cI, 160, .inl (aI vv2))), (qs2, .inl (cI, 9, .inl (aI zz2)))]) (ws' := [(h, .inr (4, [.int (iI am), .ref qt, .ref qv, .ref qs, .int (iI sb), .int (iI sp), .int (iI gs)])), (qt, .inl (cI, 160, .inl (aI (uI (cpK tt tt2 i) i (tt2 i))))), (qv, .inl (cI, 160, .inl (aI (uI (cpK vv vv2 i) i (vv2 i))))), (qs, .inl (cI, 9, .inl (aI zz))), (o, .inr (4, [.int (iI am2), .ref qt2, .ref qv2, .ref qs2, .int (iI sb2), .int (iI sp2), .int (iI gs2)])), (qt2, .inl (cI, 160, .inl (aI tt2))), (qv2, .inl (cI, 160, .inl (aI vv2))), (qs2, .inl (cI, 9, .inl (aI zz2)))]) (va_runV (As := [.int (iI i), .int (iI (tt2 i)), .int (iI (vv2 i))]) (rest := []) ⟨hx, hb, hml, hown, hts⟩ (c_X4_write l dC dI cI cO h qt qv qs am (cpK tt tt2 i) (cpK vv vv2 i) zz sb sp gs i (tt2 i) (vv2 i) H.size (by first | assumption | omega)) (cwV 3 hts gX4_copyFrom_X4_write rfl rfl rfl (by decide +kernel) ⟨Nat.le_of_ble_eq_true rfl, Nat.le_of_ble_eq_true rfl⟩) (m_preV hZ hK hP hD [0, 1, 2, 3] rfl (by decide) (va_recv hK hP (ci := 4) (q0 := 0) rfl rfl)) rfl rfl hl.1 rfl (lv_room (Nat.le_of_ble_eq_true rfl)) dX4_copyFrom_24 ⟨Nat.le_of_ble_eq_true rfl, Nat.le_of_ble_eq_true rfl⟩) hP hD hS hA [0, 1, 2, 3] [4, 5, 6, 7] [4, 5, 6, 7, 0, 1, 2, 3] rfl rfl (by decide) (by decide) rfl (by decide) (fun H locs hP hD hS => ?_)
        refine mi_iinc (b := i + 1) (lv' := [(2, .int (iI (i + 1))), (0, .ref h), (1, .ref o)]) hx hb dX4_copyFrom_27 hl (k := 2) rfl (by decide) (by omega) rfl (fun ls hl => ?_)
        refine lv_goto (tgt := 2) hx hb dX4_copyFrom_30 (by decide) ?_
        have hw_8 : [(h, .inr (4, [.int (iI am), .ref qt, .ref qv, .ref qs, .int (iI sb), .int (iI sp), .int (iI gs)])), (qt, .inl (cI, 160, .inl (aI (uI (cpK tt tt2 i) i (tt2 i))))), (qv, .inl (cI, 160, .inl (aI (uI (cpK vv vv2 i) i (vv2 i))))), (qs, .inl (cI, 9, .inl (aI zz))), (o, .inr (4, [.int (iI am2), .ref qt2, .ref qv2, .ref qs2, .int (iI sb2), .int (iI sp2), .int (iI gs2)])), (qt2, .inl (cI, 160, .inl (aI tt2))), (qv2, .inl (cI, 160, .inl (aI vv2))), (qs2, .inl (cI, 9, .inl (aI zz2)))] = ([(h, .inr (4, [.int (iI am), .ref qt, .ref qv, .ref qs, .int (iI sb), .int (iI sp), .int (iI gs)])), (qt, .inl (cI, 160, .inl (aI (cpK tt tt2 (i + 1))))), (qv, .inl (cI, 160, .inl (aI (cpK vv vv2 (i + 1))))), (qs, .inl (cI, 9, .inl (aI zz))), (o, .inr (4, [.int (iI am2), .ref qt2, .ref qv2, .ref qs2, .int (iI sb2), .int (iI sp2), .int (iI gs2)])), (qt2, .inl (cI, 160, .inl (aI tt2))), (qv2, .inl (cI, 160, .inl (aI vv2))), (qs2, .inl (cI, 9, .inl (aI zz2)))] : va_W) := by rw [cpK_s tt tt2 (by omega), cpK_s vv vv2 (by omega)]
        rw [hw_8] at hP hD
        exact ih2 (i + 1) (by omega) (by first | assumption | omega) _ _ _ hP hD hS (lv_sub hl [1, 2, 0] rfl)
  have hw_9 : [(h, .inr (4, [.int (iI am), .ref qt, .ref qv, .ref qs, .int (iI sb), .int (iI sp), .int (iI gs)])), (qt, .inl (cI, 160, .inl (aI tt))), (qv, .inl (cI, 160, .inl (aI vv))), (qs, .inl (cI, 9, .inl (aI zz))), (o, .inr (4, [.int (iI am2), .ref qt2, .ref qv2, .ref qs2, .int (iI sb2), .int (iI sp2), .int (iI gs2)])), (qt2, .inl (cI, 160, .inl (aI tt2))), (qv2, .inl (cI, 160, .inl (aI vv2))), (qs2, .inl (cI, 9, .inl (aI zz2)))] = ([(h, .inr (4, [.int (iI am), .ref qt, .ref qv, .ref qs, .int (iI sb), .int (iI sp), .int (iI gs)])), (qt, .inl (cI, 160, .inl (aI (cpK tt tt2 0)))), (qv, .inl (cI, 160, .inl (aI (cpK vv vv2 0)))), (qs, .inl (cI, 9, .inl (aI zz))), (o, .inr (4, [.int (iI am2), .ref qt2, .ref qv2, .ref qs2, .int (iI sb2), .int (iI sp2), .int (iI gs2)])), (qt2, .inl (cI, 160, .inl (aI tt2))), (qv2, .inl (cI, 160, .inl (aI vv2))), (qs2, .inl (cI, 9, .inl (aI zz2)))] : va_W) := by rw [cpK_0, cpK_0]
  rw [hw_9] at hP hD
  exact lp2 _ 0 (Nat.lt_succ_self _) (by first | assumption | omega) _ _ _ hP hD hS (lv_sub hl [1, 2, 0] rfl)
