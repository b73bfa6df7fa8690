set_option maxRecDepth 100000 in
set_option maxHeartbeats 4000000 in
theorem c_X7_init (l : Launch) (dC : Nat → ClassId) (dI : Nat → Nat → Nat) (cI cO : ClassId) (h : Nat) (sz : Nat) : Met l yX7_init wsX7_init ({ frames := 1, cells := 0, slots := 0, locals := 21 }) (mPc (dC, dI) [(cI, .int), (cO, .object "java/lang/Object")] [.ref h] sz [(h, .inr (7, [.int (iI 0), .int (iI 0), .int (iI 0), .int (iI 0), .int (iI 0)]))]) (mQv (dC, dI) [(h, .inr (7, [.int (iI 0), .int (iI 0), .int (iI 0), .int (iI 0), .int (iI 0)]))] [(h, .inr (7, [.int (iI 8), .int (iI 10), .int (iI 6), .int (iI 0), .int (iI 0)]))] sz) 0 0 (va_A [(h, .inr (7, [.int (iI 0), .int (iI 0), .int (iI 0), .int (iI 0), .int (iI 0)]))] sz) := by
  refine mMet (cc := cX7_init) (maxL := 1) (ret := none) (by decide) rfl (Nat.le_of_ble_eq_true rfl) ?_
  intro p e s m args below meth c A ls hx hb hr hts hown hlocks hin hml hAe hsz hA hD H hHe hP hK hZ hS hl Q hQ
  have hl : lv_has ls 1 [(0, .ref h)] := hl
  have hoi1 := hts (.methodLink RX7 1 objectInit) (by decide +kernel)
  have hoii := hts (.instanceMethod objectInit) (by decide +kernel)
  have hoic := hts (.code objectInit ⟨#[0xb1]⟩ 1 none) (by decide +kernel)
  have hf7 := hts (.fieldLink RX7 7 "MeridianSeries$Settings" "span" "I") (by decide +kernel)
  have hi_X7 : ∀ w ∈ u_ws RX7 TX7 5, w ∈ wsX7_init := by decide +kernel
  have hf13 := hts (.fieldLink RX7 13 "MeridianSeries$Settings" "width" "I") (by decide +kernel)
  have hf16 := hts (.fieldLink RX7 16 "MeridianSeries$Settings" "fold" "I") (by decide +kernel)
  have hf19 := hts (.fieldLink RX7 19 "MeridianSeries$Settings" "keep" "I") (by decide +kernel)
  have hf22 := hts (.fieldLink RX7 22 "MeridianSeries$Settings" "longKeep" "I") (by decide +kernel)
  refine lv_aload_n hx hb dX7_init_0 rfl (lv_at hl 0 rfl) ?_
  refine W.objInit hx hb hown hoi1 hoii hoic rfl (by rw [hml]; exact hl.1) rfl dX7_init_1 (Nat.le_of_ble_eq_true rfl) (Nat.le_of_ble_eq_true rfl) ?_
  refine W.eq (g2 := F0 m 4 ls []) rfl ?_
  refine lv_aload_n hx hb dX7_init_4 rfl (lv_at hl 0 rfl) ?_
  refine mi_bipush hx hb dX7_init_5 (by decide) ?_
  refine va_put (D := (dC, dI)) (ci := 7) (v := .int (iI 8)) (ty := .int) (C := RX7) (T := TX7) (N := 5) hx hb hts hi_X7 tyX7 tyX7_ok nmX7 hown hK hP hD hS 0 rfl rfl 0 (by decide) hf7 (fun _ h9 => h9) rfl (by decide +kernel) rfl rfl (Nat.le_of_ble_eq_true rfl) dX7_init_7 (fun H locs hP hD hS => ?_)
  have hP : va_P (dC, dI) vwCl [(h, .inr (7, [.int (iI 8), .int (iI 0), .int (iI 0), .int (iI 0), .int (iI 0)]))] H := hP
  have hD : va_D A [(h, .inr (7, [.int (iI 8), .int (iI 0), .int (iI 0), .int (iI 0), .int (iI 0)]))] := hD
  refine lv_aload_n hx hb dX7_init_10 rfl (lv_at hl 0 rfl) ?_
  refine mi_bipush hx hb dX7_init_11 (by decide) ?_
  refine va_put (D := (dC, dI)) (ci := 7) (v := .int (iI 10)) (ty := .int) (C := RX7) (T := TX7) (N := 5) hx hb hts hi_X7 tyX7 tyX7_ok nmX7 hown hK hP hD hS 0 rfl rfl 1 (by decide) hf13 (fun _ h9 => h9) rfl (by decide +kernel) rfl rfl (Nat.le_of_ble_eq_true rfl) dX7_init_13 (fun H locs hP hD hS => ?_)
  have hP : va_P (dC, dI) vwCl [(h, .inr (7, [.int (iI 8), .int (iI 10), .int (iI 0), .int (iI 0), .int (iI 0)]))] H := hP
  have hD : va_D A [(h, .inr (7, [.int (iI 8), .int (iI 10), .int (iI 0), .int (iI 0), .int (iI 0)]))] := hD
  refine lv_aload_n hx hb dX7_init_16 rfl (lv_at hl 0 rfl) ?_
  refine mi_bipush hx hb dX7_init_17 (by decide) ?_
  refine va_put (D := (dC, dI)) (ci := 7) (v := .int (iI 6)) (ty := .int) (C := RX7) (T := TX7) (N := 5) hx hb hts hi_X7 tyX7 tyX7_ok nmX7 hown hK hP hD hS 0 rfl rfl 2 (by decide) hf16 (fun _ h9 => h9) rfl (by decide +kernel) rfl rfl (Nat.le_of_ble_eq_true rfl) dX7_init_19 (fun H locs hP hD hS => ?_)
  have hP : va_P (dC, dI) vwCl [(h, .inr (7, [.int (iI 8), .int (iI 10), .int (iI 6), .int (iI 0), .int (iI 0)]))] H := hP
  have hD : va_D A [(h, .inr (7, [.int (iI 8), .int (iI 10), .int (iI 6), .int (iI 0), .int (iI 0)]))] := hD
  refine lv_aload_n hx hb dX7_init_22 rfl (lv_at hl 0 rfl) ?_
  refine mi_iconst hx hb dX7_init_23 ?_
  refine va_put (D := (dC, dI)) (ci := 7) (v := .int (iI 0)) (ty := .int) (C := RX7) (T := TX7) (N := 5) hx hb hts hi_X7 tyX7 tyX7_ok nmX7 hown hK hP hD hS 0 rfl rfl 3 (by decide) hf19 (fun _ h9 => h9) rfl (by decide +kernel) rfl rfl (Nat.le_of_ble_eq_true rfl) dX7_init_24 (fun H locs hP hD hS => ?_)
  have hP : va_P (dC, dI) vwCl [(h, .inr (7, [.int (iI 8), .int (iI 10), .int (iI 6), .int (iI 0), .int (iI 0)]))] H := hP
  have hD : va_D A [(h, .inr (7, [.int (iI 8), .int (iI 10), .int (iI 6), .int (iI 0), .int (iI 0)]))] := hD
  refine lv_aload_n hx hb dX7_init_27 rfl (lv_at hl 0 rfl) ?_
  refine mi_iconst hx hb dX7_init_28 ?_
  refine va_put (D := (dC, dI)) (ci := 7) (v := .int (iI 0)) (ty := .int) (C := RX7) (T := TX7) (N := 5) hx hb hts hi_X7 tyX7 tyX7_ok nmX7 hown hK hP hD hS 0 rfl rfl 4 (by decide) hf22 (fun _ h9 => h9) rfl (by decide +kernel) rfl rfl (Nat.le_of_ble_eq_true rfl) dX7_init_29 (fun H locs hP hD hS => ?_)
  have hP : va_P (dC, dI) vwCl [(h, .inr (7, [.int (iI 8), .int (iI 10), .int (iI 6), .int (iI 0), .int (iI 0)]))] H := hP
  have hD : va_D A [(h, .inr (7, [.int (iI 8), .int (iI 10), .int (iI 6), .int (iI 0), .int (iI 0)]))] := hD
  exact mi_vret hx hb hQ hr hlocks hAe hsz hP hD hS rfl dX7_init_32

set_option maxRecDepth 100000 in
set_option maxHeartbeats 4000000 in
theorem c_X2_init_X0 (l : Launch) (dC : Nat → ClassId) (dI : Nat → Nat → Nat) (cI cO : ClassId) (h : Nat) (sz : Nat) : Met l yX2_init wsX2_init ({ frames := 1, cells := 0, slots := 0, locals := 21 }) (mPc (dC, dI) [(cI, .int), (cO, .object "java/lang/Object")] [.ref h] sz [(h, .inr (1, [.int (iI 0), .null]))]) (mQv (dC, dI) [(h, .inr (1, [.int (iI 0), .null]))] [(h, .inr (1, [.int (iI 0), .null]))] sz) 0 0 (va_A [(h, .inr (1, [.int (iI 0), .null]))] sz) := by
  refine mMet (cc := cX2_init) (maxL := 1) (ret := none) (by decide) rfl (Nat.le_of_ble_eq_true rfl) ?_
  intro p e s m args below meth c A ls hx hb hr hts hown hlocks hin hml hAe hsz hA hD H hHe hP hK hZ hS hl Q hQ
  have hl : lv_has ls 1 [(0, .ref h)] := hl
  have hoi1 := hts (.methodLink RX2 1 objectInit) (by decide +kernel)
  have hoii := hts (.instanceMethod objectInit) (by decide +kernel)
  have hoic := hts (.code objectInit ⟨#[0xb1]⟩ 1 none) (by decide +kernel)
  have hf7 := hts (.fieldLink RX2 7 "MeridianSeries$Items" "amount" "I") (by decide +kernel)
  have hi_X0 : ∀ w ∈ u_ws RX0 TX0 2, w ∈ wsX2_init := by decide +kernel
  refine lv_aload_n hx hb dX2_init_0 rfl (lv_at hl 0 rfl) ?_
  refine W.objInit hx hb hown hoi1 hoii hoic rfl (by rw [hml]; exact hl.1) rfl dX2_init_1 (Nat.le_of_ble_eq_true rfl) (Nat.le_of_ble_eq_true rfl) ?_
  refine W.eq (g2 := F0 m 4 ls []) rfl ?_
  refine lv_aload_n hx hb dX2_init_4 rfl (lv_at hl 0 rfl) ?_
  refine mi_iconst hx hb dX2_init_5 ?_
  refine va_put (D := (dC, dI)) (ci := 1) (v := .int (iI 0)) (ty := .int) (C := RX0) (T := TX0) (N := 2) hx hb hts hi_X0 tyX0 tyX0_ok nmX0 hown hK hP hD hS 0 rfl rfl 0 (by decide) hf7 (fun _ h9 => h9) rfl (by decide +kernel) rfl rfl (Nat.le_of_ble_eq_true rfl) dX2_init_6 (fun H locs hP hD hS => ?_)
  have hP : va_P (dC, dI) vwCl [(h, .inr (1, [.int (iI 0), .null]))] H := hP
  have hD : va_D A [(h, .inr (1, [.int (iI 0), .null]))] := hD
  exact mi_vret hx hb hQ hr hlocks hAe hsz hP hD hS rfl dX2_init_9

set_option maxRecDepth 100000 in
set_option maxHeartbeats 4000000 in
theorem c_X2_init_X4 (l : Launch) (dC : Nat → ClassId) (dI : Nat → Nat → Nat) (cI cO : ClassId) (h : Nat) (sz : Nat) : Met l yX2_init wsX2_init ({ frames := 1, cells := 0, slots := 0, locals := 21 }) (mPc (dC, dI) [(cI, .int), (cO, .object "java/lang/Object")] [.ref h] sz [(h, .inr (4, [.int (iI 0), .null, .null, .null, .int (iI 0), .int (iI 0), .int (iI 0)]))]) (mQv (dC, dI) [(h, .inr (4, [.int (iI 0), .null, .null, .null, .int (iI 0), .int (iI 0), .int (iI 0)]))] [(h, .inr (4, [.int (iI 0), .null, .null, .null, .int (iI 0), .int (iI 0), .int (iI 0)]))] sz) 0 0 (va_A [(h, .inr (4, [.int (iI 0), .null, .null, .null, .int (iI 0), .int (iI 0), .int (iI 0)]))] sz) := by
  refine mMet (cc := cX2_init) (maxL := 1) (ret := none) (by decide) rfl (Nat.le_of_ble_eq_true rfl) ?_
  intro p e s m args below meth c A ls hx hb hr hts hown hlocks hin hml hAe hsz hA hD H hHe hP hK hZ hS hl Q hQ
  have hl : lv_has ls 1 [(0, .ref h)] := hl
  have hoi1 := hts (.methodLink RX2 1 objectInit) (by decide +kernel)
  have hoii := hts (.instanceMethod objectInit) (by decide +kernel)
  have hoic := hts (.code objectInit ⟨#[0xb1]⟩ 1 none) (by decide +kernel)
  have hf7 := hts (.fieldLink RX2 7 "MeridianSeries$Items" "amount" "I") (by decide +kernel)
  have hi_X4 : ∀ w ∈ u_ws RX4 TX4 7, w ∈ wsX2_init := by decide +kernel
  refine lv_aload_n hx hb dX2_init_0 rfl (lv_at hl 0 rfl) ?_
  refine W.objInit hx hb hown hoi1 hoii hoic rfl (by rw [hml]; exact hl.1) rfl dX2_init_1 (Nat.le_of_ble_eq_true rfl) (Nat.le_of_ble_eq_true rfl) ?_
  refine W.eq (g2 := F0 m 4 ls []) rfl ?_
  refine lv_aload_n hx hb dX2_init_4 rfl (lv_at hl 0 rfl) ?_
  refine mi_iconst hx hb dX2_init_5 ?_
  refine va_put (D := (dC, dI)) (ci := 4) (v := .int (iI 0)) (ty := .int) (C := RX4) (T := TX4) (N := 7) hx hb hts hi_X4 tyX4 tyX4_ok nmX4 hown hK hP hD hS 0 rfl rfl 0 (by decide) hf7 (fun _ h9 => h9) rfl (by decide +kernel) rfl rfl (Nat.le_of_ble_eq_true rfl) dX2_init_6 (fun H locs hP hD hS => ?_)
  have hP : va_P (dC, dI) vwCl [(h, .inr (4, [.int (iI 0), .null, .null, .null, .int (iI 0), .int (iI 0), .int (iI 0)]))] H := hP
  have hD : va_D A [(h, .inr (4, [.int (iI 0), .null, .null, .null, .int (iI 0), .int (iI 0), .int (iI 0)]))] := hD
  exact mi_vret hx hb hQ hr hlocks hAe hsz hP hD hS rfl dX2_init_9

set_option maxRecDepth 100000 in
set_option maxHeartbeats 4000000 in
theorem c_X0_init (l : Launch) (dC : Nat → ClassId) (dI : Nat → Nat → Nat) (cI cO : ClassId) (h : Nat) (sz : Nat) : Met l yX0_init wsX0_init ({ frames := 2, cells := 1, slots := 175, locals := 41 }) (mPc (dC, dI) [(cI, .int), (cO, .object "java/lang/Object")] [.ref h] sz [(h, .inr (1, [.int (iI 0), .null]))]) (mQvX (dC, dI) [(h, .inr (1, [.int (iI 0), .null]))] (fun (z9 : Nat) => [(h, .inr (1, [.int (iI 0), .ref z9])), (z9, .inl (cI, 175, .inl (aI (fun _ => 0))))]) sz) 1 175 (va_A [(h, .inr (1, [.int (iI 0), .null]))] sz) := by
  refine mMet (cc := cX0_init) (maxL := 1) (ret := none) (by decide) rfl (Nat.le_of_ble_eq_true rfl) ?_
  intro p e s m args below meth c A ls hx hb hr hts hown hlocks hin hml hAe hsz hA hD H hHe hP hK hZ hS hl Q hQ
  have hl : lv_has ls 1 [(0, .ref h)] := hl
  have hn3 : va_Nw (.methodLinkNest RX0 3 yX2_init "MeridianSeries") s := hZ _ (List.mem_of_getElem? (i := 4) rfl)
  have harrI := hts (.arrayClass .int) (by decide +kernel)
  have hf11 := hts (.fieldLink RX0 11 "MeridianSeries$Buckets" "cells" "[I") (by decide +kernel)
  have hi_X0 : ∀ w ∈ u_ws RX0 TX0 2, w ∈ wsX0_init := by decide +kernel
  refine lv_aload_n hx hb dX0_init_0 rfl (lv_at hl 0 rfl) ?_
  refine m_runv (wc := [(h, .inr (1, [.int (iI 0), .null]))]) (wc' := [(h, .inr (1, [.int (iI 0), .null]))]) (wr := []) (ws' := [(h, .inr (1, [.int (iI 0), .null]))]) (va_runIN (As := []) (rest := []) ⟨hx, hb, hml, hown, hts⟩ (c_X2_init_X0 l dC dI cI cO h H.size ) ⟨va_cnB 0 hts gX0_init_X2_init_n3 rfl rfl rfl hn3 (hts (.initialized RX2) (by decide +kernel)) (by decide +kernel) ⟨Nat.le_of_ble_eq_true rfl, Nat.le_of_ble_eq_true rfl⟩, rfl, hts (.instanceMethod yX2_init) (by decide +kernel)⟩ (m_preS hZ hK hP hD [0] rfl (by decide)) rfl rfl hl.1 rfl (lv_room (Nat.le_of_ble_eq_true rfl)) dX0_init_1 ⟨Nat.le_of_ble_eq_true rfl, Nat.le_of_ble_eq_true rfl⟩) hP hD hS hA [0] [] [0] rfl rfl (by decide) (by decide) rfl (by decide) (fun H locs hP hD hS => ?_)
  refine lv_aload_n hx hb dX0_init_4 rfl (lv_at hl 0 rfl) ?_
  refine mi_sipush hx hb dX0_init_5 (by decide) ?_
  refine mi_newa (N := 175) hx hb harrI hK rfl hP hD hS hA (by decide) (by decide) (Nat.le_of_ble_eq_true rfl) (Nat.le_of_ble_eq_true rfl) dX0_init_8 (fun a_1 H hP hD hS => ?_)
  have hP : va_P (dC, dI) vwCl [(h, .inr (1, [.int (iI 0), .null])), (a_1, .inl (cI, 175, .inl (aI (fun _ => 0))))] H := hP
  have hD : va_D A [(h, .inr (1, [.int (iI 0), .null])), (a_1, .inl (cI, 175, .inl (aI (fun _ => 0))))] := hD
  refine va_putF (D := (dC, dI)) (ci := 1) (v := .ref a_1) (ty := .array .int) (C := RX0) (T := TX0) (N := 2) hx hb hts hi_X0 tyX0 tyX0_ok nmX0 hown hK hP hD hS 0 rfl rfl 1 (by decide) hf11 (fun _ h9 => h9) rfl hin rfl (by decide +kernel) rfl rfl (Nat.le_of_ble_eq_true rfl) dX0_init_10 (fun H locs hP hD hS => ?_)
  have hP : va_P (dC, dI) vwCl [(h, .inr (1, [.int (iI 0), .ref a_1])), (a_1, .inl (cI, 175, .inl (aI (fun _ => 0))))] H := hP
  have hD : va_D A [(h, .inr (1, [.int (iI 0), .ref a_1])), (a_1, .inl (cI, 175, .inl (aI (fun _ => 0))))] := hD
  exact mi_vretX (a_1) hx hb hQ hr hlocks hAe hsz hP hD hS rfl dX0_init_13

set_option maxRecDepth 100000 in
set_option maxHeartbeats 4000000 in
theorem c_X4_init (l : Launch) (dC : Nat → ClassId) (dI : Nat → Nat → Nat) (cI cO : ClassId) (h : Nat) (sz : Nat) : Met l yX4_init wsX4_init ({ frames := 2, cells := 3, slots := 329, locals := 41 }) (mPc (dC, dI) [(cI, .int), (cO, .object "java/lang/Object")] [.ref h] sz [(h, .inr (4, [.int (iI 0), .null, .null, .null, .int (iI 0), .int (iI 0), .int (iI 0)]))]) (mQvX (dC, dI) [(h, .inr (4, [.int (iI 0), .null, .null, .null, .int (iI 0), .int (iI 0), .int (iI 0)]))] (fun (z9 : Nat × Nat × Nat) => [(h, .inr (4, [.int (iI 0), .ref z9.1, .ref z9.2.1, .ref z9.2.2, .int (iI 0), .int (iI 0), .int (iI (-1))])), (z9.1, .inl (cI, 160, .inl (aI (fun _ => 0)))), (z9.2.1, .inl (cI, 160, .inl (aI (fun _ => 0)))), (z9.2.2, .inl (cI, 9, .inl (aI (fun _ => 0))))]) sz) 3 329 (va_A [(h, .inr (4, [.int (iI 0), .null, .null, .null, .int (iI 0), .int (iI 0), .int (iI 0)]))] sz) := by
  refine mMet (cc := cX4_init) (maxL := 1) (ret := none) (by decide) rfl (Nat.le_of_ble_eq_true rfl) ?_
  intro p e s m args below meth c A ls hx hb hr hts hown hlocks hin hml hAe hsz hA hD H hHe hP hK hZ hS hl Q hQ
  have hl : lv_has ls 1 [(0, .ref h)] := hl
  have hn5 : va_Nw (.methodLinkNest RX4 5 yX2_init "MeridianSeries") s := hZ _ (List.mem_of_getElem? (i := 5) rfl)
  have harrI := hts (.arrayClass .int) (by decide +kernel)
  have hf11 := hts (.fieldLink RX4 11 "MeridianSeries$Points" "times" "[I") (by decide +kernel)
  have hi_X4 : ∀ w ∈ u_ws RX4 TX4 7, w ∈ wsX4_init := by decide +kernel
  have hf15 := hts (.fieldLink RX4 15 "MeridianSeries$Points" "values" "[I") (by decide +kernel)
  have hf18 := hts (.fieldLink RX4 18 "MeridianSeries$Points" "sizes" "[I") (by decide +kernel)
  have hf21 := hts (.fieldLink RX4 21 "MeridianSeries$Points" "sealedBlocks" "I") (by decide +kernel)
  have hf25 := hts (.fieldLink RX4 25 "MeridianSeries$Points" "sealedPoints" "I") (by decide +kernel)
  have hf28 := hts (.fieldLink RX4 28 "MeridianSeries$Points" "greatestSealedTime" "I") (by decide +kernel)
  refine lv_aload_n hx hb dX4_init_0 rfl (lv_at hl 0 rfl) ?_
  refine m_runv (wc := [(h, .inr (4, [.int (iI 0), .null, .null, .null, .int (iI 0), .int (iI 0), .int (iI 0)]))]) (wc' := [(h, .inr (4, [.int (iI 0), .null, .null, .null, .int (iI 0), .int (iI 0), .int (iI 0)]))]) (wr := []) (ws' := [(h, .inr (4, [.int (iI 0), .null, .null, .null, .int (iI 0), .int (iI 0), .int (iI 0)]))]) (va_runIN (As := []) (rest := []) ⟨hx, hb, hml, hown, hts⟩ (c_X2_init_X4 l dC dI cI cO h H.size ) ⟨va_cnB 0 hts gX4_init_X2_init_n5 rfl rfl rfl hn5 (hts (.initialized RX2) (by decide +kernel)) (by decide +kernel) ⟨Nat.le_of_ble_eq_true rfl, Nat.le_of_ble_eq_true rfl⟩, rfl, hts (.instanceMethod yX2_init) (by decide +kernel)⟩ (m_preS hZ hK hP hD [0] rfl (by decide)) rfl rfl hl.1 rfl (lv_room (Nat.le_of_ble_eq_true rfl)) dX4_init_1 ⟨Nat.le_of_ble_eq_true rfl, Nat.le_of_ble_eq_true rfl⟩) hP hD hS hA [0] [] [0] rfl rfl (by decide) (by decide) rfl (by decide) (fun H locs hP hD hS => ?_)
  refine lv_aload_n hx hb dX4_init_4 rfl (lv_at hl 0 rfl) ?_
  refine mi_sipush hx hb dX4_init_5 (by decide) ?_
  refine mi_newa (N := 160) hx hb harrI hK rfl hP hD hS hA (by decide) (by decide) (Nat.le_of_ble_eq_true rfl) (Nat.le_of_ble_eq_true rfl) dX4_init_8 (fun a_1 H hP hD hS => ?_)
  have hP : va_P (dC, dI) vwCl [(h, .inr (4, [.int (iI 0), .null, .null, .null, .int (iI 0), .int (iI 0), .int (iI 0)])), (a_1, .inl (cI, 160, .inl (aI (fun _ => 0))))] H := hP
  have hD : va_D A [(h, .inr (4, [.int (iI 0), .null, .null, .null, .int (iI 0), .int (iI 0), .int (iI 0)])), (a_1, .inl (cI, 160, .inl (aI (fun _ => 0))))] := hD
  refine va_putF (D := (dC, dI)) (ci := 4) (v := .ref a_1) (ty := .array .int) (C := RX4) (T := TX4) (N := 7) hx hb hts hi_X4 tyX4 tyX4_ok nmX4 hown hK hP hD hS 0 rfl rfl 1 (by decide) hf11 (fun _ h9 => h9) rfl hin rfl (by decide +kernel) rfl rfl (Nat.le_of_ble_eq_true rfl) dX4_init_10 (fun H locs hP hD hS => ?_)
  have hP : va_P (dC, dI) vwCl [(h, .inr (4, [.int (iI 0), .ref a_1, .null, .null, .int (iI 0), .int (iI 0), .int (iI 0)])), (a_1, .inl (cI, 160, .inl (aI (fun _ => 0))))] H := hP
  have hD : va_D A [(h, .inr (4, [.int (iI 0), .ref a_1, .null, .null, .int (iI 0), .int (iI 0), .int (iI 0)])), (a_1, .inl (cI, 160, .inl (aI (fun _ => 0))))] := hD
  refine lv_aload_n hx hb dX4_init_13 rfl (lv_at hl 0 rfl) ?_
  refine mi_sipush hx hb dX4_init_14 (by decide) ?_
  refine mi_newa (N := 160) hx hb harrI hK rfl hP hD hS hA (by decide) (by decide) (Nat.le_of_ble_eq_true rfl) (Nat.le_of_ble_eq_true rfl) dX4_init_17 (fun a_2 H hP hD hS => ?_)
  have hP : va_P (dC, dI) vwCl [(h, .inr (4, [.int (iI 0), .ref a_1, .null, .null, .int (iI 0), .int (iI 0), .int (iI 0)])), (a_1, .inl (cI, 160, .inl (aI (fun _ => 0)))), (a_2, .inl (cI, 160, .inl (aI (fun _ => 0))))] H := hP
  have hD : va_D A [(h, .inr (4, [.int (iI 0), .ref a_1, .null, .null, .int (iI 0), .int (iI 0), .int (iI 0)])), (a_1, .inl (cI, 160, .inl (aI (fun _ => 0)))), (a_2, .inl (cI, 160, .inl (aI (fun _ => 0))))] := hD
  refine va_putF (D := (dC, dI)) (ci := 4) (v := .ref a_2) (ty := .array .int) (C := RX4) (T := TX4) (N := 7) hx hb hts hi_X4 tyX4 tyX4_ok nmX4 hown hK hP hD hS 0 rfl rfl 2 (by decide) hf15 (fun _ h9 => h9) rfl hin rfl (by decide +kernel) rfl rfl (Nat.le_of_ble_eq_true rfl) dX4_init_19 (fun H locs hP hD hS => ?_)
  have hP : va_P (dC, dI) vwCl [(h, .inr (4, [.int (iI 0), .ref a_1, .ref a_2, .null, .int (iI 0), .int (iI 0), .int (iI 0)])), (a_1, .inl (cI, 160, .inl (aI (fun _ => 0)))), (a_2, .inl (cI, 160, .inl (aI (fun _ => 0))))] H := hP
  have hD : va_D A [(h, .inr (4, [.int (iI 0), .ref a_1, .ref a_2, .null, .int (iI 0), .int (iI 0), .int (iI 0)])), (a_1, .inl (cI, 160, .inl (aI (fun _ => 0)))), (a_2, .inl (cI, 160, .inl (aI (fun _ => 0))))] := hD
  refine lv_aload_n hx hb dX4_init_22 rfl (lv_at hl 0 rfl) ?_
  refine mi_bipush hx hb dX4_init_23 (by decide) ?_
  refine mi_newa (N := 9) hx hb harrI hK rfl hP hD hS hA (by decide) (by decide) (Nat.le_of_ble_eq_true rfl) (Nat.le_of_ble_eq_true rfl) dX4_init_25 (fun a_3 H hP hD hS => ?_)
  have hP : va_P (dC, dI) vwCl [(h, .inr (4, [.int (iI 0), .ref a_1, .ref a_2, .null, .int (iI 0), .int (iI 0), .int (iI 0)])), (a_1, .inl (cI, 160, .inl (aI (fun _ => 0)))), (a_2, .inl (cI, 160, .inl (aI (fun _ => 0)))), (a_3, .inl (cI, 9, .inl (aI (fun _ => 0))))] H := hP
  have hD : va_D A [(h, .inr (4, [.int (iI 0), .ref a_1, .ref a_2, .null, .int (iI 0), .int (iI 0), .int (iI 0)])), (a_1, .inl (cI, 160, .inl (aI (fun _ => 0)))), (a_2, .inl (cI, 160, .inl (aI (fun _ => 0)))), (a_3, .inl (cI, 9, .inl (aI (fun _ => 0))))] := hD
  refine va_putF (D := (dC, dI)) (ci := 4) (v := .ref a_3) (ty := .array .int) (C := RX4) (T := TX4) (N := 7) hx hb hts hi_X4 tyX4 tyX4_ok nmX4 hown hK hP hD hS 0 rfl rfl 3 (by decide) hf18 (fun _ h9 => h9) rfl hin rfl (by decide +kernel) rfl rfl (Nat.le_of_ble_eq_true rfl) dX4_init_27 (fun H locs hP hD hS => ?_)
  have hP : va_P (dC, dI) vwCl [(h, .inr (4, [.int (iI 0), .ref a_1, .ref a_2, .ref a_3, .int (iI 0), .int (iI 0), .int (iI 0)])), (a_1, .inl (cI, 160, .inl (aI (fun _ => 0)))), (a_2, .inl (cI, 160, .inl (aI (fun _ => 0)))), (a_3, .inl (cI, 9, .inl (aI (fun _ => 0))))] H := hP
  have hD : va_D A [(h, .inr (4, [.int (iI 0), .ref a_1, .ref a_2, .ref a_3, .int (iI 0), .int (iI 0), .int (iI 0)])), (a_1, .inl (cI, 160, .inl (aI (fun _ => 0)))), (a_2, .inl (cI, 160, .inl (aI (fun _ => 0)))), (a_3, .inl (cI, 9, .inl (aI (fun _ => 0))))] := hD
  refine lv_aload_n hx hb dX4_init_30 rfl (lv_at hl 0 rfl) ?_
  refine mi_iconst hx hb dX4_init_31 ?_
  refine va_put (D := (dC, dI)) (ci := 4) (v := .int (iI 0)) (ty := .int) (C := RX4) (T := TX4) (N := 7) hx hb hts hi_X4 tyX4 tyX4_ok nmX4 hown hK hP hD hS 0 rfl rfl 4 (by decide) hf21 (fun _ h9 => h9) rfl (by decide +kernel) rfl rfl (Nat.le_of_ble_eq_true rfl) dX4_init_32 (fun H locs hP hD hS => ?_)
  have hP : va_P (dC, dI) vwCl [(h, .inr (4, [.int (iI 0), .ref a_1, .ref a_2, .ref a_3, .int (iI 0), .int (iI 0), .int (iI 0)])), (a_1, .inl (cI, 160, .inl (aI (fun _ => 0)))), (a_2, .inl (cI, 160, .inl (aI (fun _ => 0)))), (a_3, .inl (cI, 9, .inl (aI (fun _ => 0))))] H := hP
  have hD : va_D A [(h, .inr (4, [.int (iI 0), .ref a_1, .ref a_2, .ref a_3, .int (iI 0), .int (iI 0), .int (iI 0)])), (a_1, .inl (cI, 160, .inl (aI (fun _ => 0)))), (a_2, .inl (cI, 160, .inl (aI (fun _ => 0)))), (a_3, .inl (cI, 9, .inl (aI (fun _ => 0))))] := hD
  refine lv_aload_n hx hb dX4_init_35 rfl (lv_at hl 0 rfl) ?_
  refine mi_iconst hx hb dX4_init_36 ?_
  refine va_put (D := (dC, dI)) (ci := 4) (v := .int (iI 0)) (ty := .int) (C := RX4) (T := TX4) (N := 7) hx hb hts hi_X4 tyX4 tyX4_ok nmX4 hown hK hP hD hS 0 rfl rfl 5 (by decide) hf25 (fun _ h9 => h9) rfl (by decide +kernel) rfl rfl (Nat.le_of_ble_eq_true rfl) dX4_init_37 (fun H locs hP hD hS => ?_)
  have hP : va_P (dC, dI) vwCl [(h, .inr (4, [.int (iI 0), .ref a_1, .ref a_2, .ref a_3, .int (iI 0), .int (iI 0), .int (iI 0)])), (a_1, .inl (cI, 160, .inl (aI (fun _ => 0)))), (a_2, .inl (cI, 160, .inl (aI (fun _ => 0)))), (a_3, .inl (cI, 9, .inl (aI (fun _ => 0))))] H := hP
  have hD : va_D A [(h, .inr (4, [.int (iI 0), .ref a_1, .ref a_2, .ref a_3, .int (iI 0), .int (iI 0), .int (iI 0)])), (a_1, .inl (cI, 160, .inl (aI (fun _ => 0)))), (a_2, .inl (cI, 160, .inl (aI (fun _ => 0)))), (a_3, .inl (cI, 9, .inl (aI (fun _ => 0))))] := hD
  refine lv_aload_n hx hb dX4_init_40 rfl (lv_at hl 0 rfl) ?_
  refine mi_iconst hx hb dX4_init_41 ?_
  refine va_put (D := (dC, dI)) (ci := 4) (v := .int (iI (-1))) (ty := .int) (C := RX4) (T := TX4) (N := 7) hx hb hts hi_X4 tyX4 tyX4_ok nmX4 hown hK hP hD hS 0 rfl rfl 6 (by decide) hf28 (fun _ h9 => h9) rfl (by decide +kernel) rfl rfl (Nat.le_of_ble_eq_true rfl) dX4_init_42 (fun H locs hP hD hS => ?_)
  have hP : va_P (dC, dI) vwCl [(h, .inr (4, [.int (iI 0), .ref a_1, .ref a_2, .ref a_3, .int (iI 0), .int (iI 0), .int (iI (-1))])), (a_1, .inl (cI, 160, .inl (aI (fun _ => 0)))), (a_2, .inl (cI, 160, .inl (aI (fun _ => 0)))), (a_3, .inl (cI, 9, .inl (aI (fun _ => 0))))] H := hP
  have hD : va_D A [(h, .inr (4, [.int (iI 0), .ref a_1, .ref a_2, .ref a_3, .int (iI 0), .int (iI 0), .int (iI (-1))])), (a_1, .inl (cI, 160, .inl (aI (fun _ => 0)))), (a_2, .inl (cI, 160, .inl (aI (fun _ => 0)))), (a_3, .inl (cI, 9, .inl (aI (fun _ => 0))))] := hD
  exact mi_vretX ((a_1, a_2, a_3)) hx hb hQ hr hlocks hAe hsz hP hD hS rfl dX4_init_45

set_option maxRecDepth 100000 in
set_option maxHeartbeats 4000000 in
theorem c_X1_init (l : Launch) (dC : Nat → ClassId) (dI : Nat → Nat → Nat) (cI cO : ClassId) (h : Nat) (sz : Nat) : Met l yX1_init wsX1_init ({ frames := 1, cells := 1, slots := 60, locals := 21 }) (mPc (dC, dI) [(cI, .int), (cO, .object "java/lang/Object")] [.ref h] sz [(h, .inr (2, [.null, .int (iI 0), .int (iI 0)]))]) (mQvX (dC, dI) [(h, .inr (2, [.null, .int (iI 0), .int (iI 0)]))] (fun (z9 : Nat) => [(h, .inr (2, [.ref z9, .int (iI 0), .int (iI 0)])), (z9, .inl (cI, 60, .inl (aI (fun _ => 0))))]) sz) 1 60 (va_A [(h, .inr (2, [.null, .int (iI 0), .int (iI 0)]))] sz) := by
  refine mMet (cc := cX1_init) (maxL := 1) (ret := none) (by decide) rfl (Nat.le_of_ble_eq_true rfl) ?_
  intro p e s m args below meth c A ls hx hb hr hts hown hlocks hin hml hAe hsz hA hD H hHe hP hK hZ hS hl Q hQ
  have hl : lv_has ls 1 [(0, .ref h)] := hl
  have hoi3 := hts (.methodLink RX1 3 objectInit) (by decide +kernel)
  have hoii := hts (.instanceMethod objectInit) (by decide +kernel)
  have hoic := hts (.code objectInit ⟨#[0xb1]⟩ 1 none) (by decide +kernel)
  have harrI := hts (.arrayClass .int) (by decide +kernel)
  have hf9 := hts (.fieldLink RX1 9 "MeridianSeries$EventLog" "cells" "[I") (by decide +kernel)
  have hi_X1 : ∀ w ∈ u_ws RX1 TX1 3, w ∈ wsX1_init := by decide +kernel
  have hf15 := hts (.fieldLink RX1 15 "MeridianSeries$EventLog" "total" "I") (by decide +kernel)
  have hf19 := hts (.fieldLink RX1 19 "MeridianSeries$EventLog" "firings" "I") (by decide +kernel)
  refine lv_aload_n hx hb dX1_init_0 rfl (lv_at hl 0 rfl) ?_
  refine W.objInit hx hb hown hoi3 hoii hoic rfl (by rw [hml]; exact hl.1) rfl dX1_init_1 (Nat.le_of_ble_eq_true rfl) (Nat.le_of_ble_eq_true rfl) ?_
  refine W.eq (g2 := F0 m 4 ls []) rfl ?_
  refine lv_aload_n hx hb dX1_init_4 rfl (lv_at hl 0 rfl) ?_
  refine mi_bipush hx hb dX1_init_5 (by decide) ?_
  refine mi_newa (N := 60) hx hb harrI hK rfl hP hD hS hA (by decide) (by decide) (Nat.le_of_ble_eq_true rfl) (Nat.le_of_ble_eq_true rfl) dX1_init_7 (fun a_1 H hP hD hS => ?_)
  have hP : va_P (dC, dI) vwCl [(h, .inr (2, [.null, .int (iI 0), .int (iI 0)])), (a_1, .inl (cI, 60, .inl (aI (fun _ => 0))))] H := hP
  have hD : va_D A [(h, .inr (2, [.null, .int (iI 0), .int (iI 0)])), (a_1, .inl (cI, 60, .inl (aI (fun _ => 0))))] := hD
  refine va_putF (D := (dC, dI)) (ci := 2) (v := .ref a_1) (ty := .array .int) (C := RX1) (T := TX1) (N := 3) hx hb hts hi_X1 tyX1 tyX1_ok nmX1 hown hK hP hD hS 0 rfl rfl 0 (by decide) hf9 (fun _ h9 => h9) rfl hin rfl (by decide +kernel) rfl rfl (Nat.le_of_ble_eq_true rfl) dX1_init_9 (fun H locs hP hD hS => ?_)
  have hP : va_P (dC, dI) vwCl [(h, .inr (2, [.ref a_1, .int (iI 0), .int (iI 0)])), (a_1, .inl (cI, 60, .inl (aI (fun _ => 0))))] H := hP
  have hD : va_D A [(h, .inr (2, [.ref a_1, .int (iI 0), .int (iI 0)])), (a_1, .inl (cI, 60, .inl (aI (fun _ => 0))))] := hD
  refine lv_aload_n hx hb dX1_init_12 rfl (lv_at hl 0 rfl) ?_
  refine mi_iconst hx hb dX1_init_13 ?_
  refine va_put (D := (dC, dI)) (ci := 2) (v := .int (iI 0)) (ty := .int) (C := RX1) (T := TX1) (N := 3) hx hb hts hi_X1 tyX1 tyX1_ok nmX1 hown hK hP hD hS 0 rfl rfl 1 (by decide) hf15 (fun _ h9 => h9) rfl (by decide +kernel) rfl rfl (Nat.le_of_ble_eq_true rfl) dX1_init_14 (fun H locs hP hD hS => ?_)
  have hP : va_P (dC, dI) vwCl [(h, .inr (2, [.ref a_1, .int (iI 0), .int (iI 0)])), (a_1, .inl (cI, 60, .inl (aI (fun _ => 0))))] H := hP
  have hD : va_D A [(h, .inr (2, [.ref a_1, .int (iI 0), .int (iI 0)])), (a_1, .inl (cI, 60, .inl (aI (fun _ => 0))))] := hD
  refine lv_aload_n hx hb dX1_init_17 rfl (lv_at hl 0 rfl) ?_
  refine mi_iconst hx hb dX1_init_18 ?_
  refine va_put (D := (dC, dI)) (ci := 2) (v := .int (iI 0)) (ty := .int) (C := RX1) (T := TX1) (N := 3) hx hb hts hi_X1 tyX1 tyX1_ok nmX1 hown hK hP hD hS 0 rfl rfl 2 (by decide) hf19 (fun _ h9 => h9) rfl (by decide +kernel) rfl rfl (Nat.le_of_ble_eq_true rfl) dX1_init_19 (fun H locs hP hD hS => ?_)
  have hP : va_P (dC, dI) vwCl [(h, .inr (2, [.ref a_1, .int (iI 0), .int (iI 0)])), (a_1, .inl (cI, 60, .inl (aI (fun _ => 0))))] H := hP
  have hD : va_D A [(h, .inr (2, [.ref a_1, .int (iI 0), .int (iI 0)])), (a_1, .inl (cI, 60, .inl (aI (fun _ => 0))))] := hD
  exact mi_vretX (a_1) hx hb hQ hr hlocks hAe hsz hP hD hS rfl dX1_init_22

set_option maxRecDepth 100000 in
set_option maxHeartbeats 4000000 in
theorem c_X3_init (l : Launch) (dC : Nat → ClassId) (dI : Nat → Nat → Nat) (cI cO : ClassId) (h : Nat) (sz : Nat) : Met l yX3_init wsX3_init ({ frames := 1, cells := 1, slots := 48, locals := 21 }) (mPc (dC, dI) [(cI, .int), (cO, .object "java/lang/Object")] [.ref h] sz [(h, .inr (3, [.null, .int (iI 0), .int (iI 0), .int (iI 0), .int (iI 0), .int (iI 0)]))]) (mQvX (dC, dI) [(h, .inr (3, [.null, .int (iI 0), .int (iI 0), .int (iI 0), .int (iI 0), .int (iI 0)]))] (fun (z9 : Nat) => [(h, .inr (3, [.ref z9, .int (iI 0), .int (iI 0), .int (iI 0), .int (iI 0), .int (iI 0)])), (z9, .inl (cI, 48, .inl (aI (fun _ => 0))))]) sz) 1 48 (va_A [(h, .inr (3, [.null, .int (iI 0), .int (iI 0), .int (iI 0), .int (iI 0), .int (iI 0)]))] sz) := by
  refine mMet (cc := cX3_init) (maxL := 1) (ret := none) (by decide) rfl (Nat.le_of_ble_eq_true rfl) ?_
  intro p e s m args below meth c A ls hx hb hr hts hown hlocks hin hml hAe hsz hA hD H hHe hP hK hZ hS hl Q hQ
  have hl : lv_has ls 1 [(0, .ref h)] := hl
  have hoi3 := hts (.methodLink RX3 3 objectInit) (by decide +kernel)
  have hoii := hts (.instanceMethod objectInit) (by decide +kernel)
  have hoic := hts (.code objectInit ⟨#[0xb1]⟩ 1 none) (by decide +kernel)
  have harrI := hts (.arrayClass .int) (by decide +kernel)
  have hf11 := hts (.fieldLink RX3 11 "MeridianSeries$Packer" "words" "[I") (by decide +kernel)
  have hi_X3 : ∀ w ∈ u_ws RX3 TX3 6, w ∈ wsX3_init := by decide +kernel
  have hf15 := hts (.fieldLink RX3 15 "MeridianSeries$Packer" "length" "I") (by decide +kernel)
  have hf19 := hts (.fieldLink RX3 19 "MeridianSeries$Packer" "packed" "I") (by decide +kernel)
  have hf22 := hts (.fieldLink RX3 22 "MeridianSeries$Packer" "lastTime" "I") (by decide +kernel)
  have hf25 := hts (.fieldLink RX3 25 "MeridianSeries$Packer" "lastStep" "I") (by decide +kernel)
  have hf28 := hts (.fieldLink RX3 28 "MeridianSeries$Packer" "lastValue" "I") (by decide +kernel)
  refine lv_aload_n hx hb dX3_init_0 rfl (lv_at hl 0 rfl) ?_
  refine W.objInit hx hb hown hoi3 hoii hoic rfl (by rw [hml]; exact hl.1) rfl dX3_init_1 (Nat.le_of_ble_eq_true rfl) (Nat.le_of_ble_eq_true rfl) ?_
  refine W.eq (g2 := F0 m 4 ls []) rfl ?_
  refine lv_aload_n hx hb dX3_init_4 rfl (lv_at hl 0 rfl) ?_
  refine mi_bipush hx hb dX3_init_5 (by decide) ?_
  refine mi_newa (N := 48) hx hb harrI hK rfl hP hD hS hA (by decide) (by decide) (Nat.le_of_ble_eq_true rfl) (Nat.le_of_ble_eq_true rfl) dX3_init_7 (fun a_1 H hP hD hS => ?_)
  have hP : va_P (dC, dI) vwCl [(h, .inr (3, [.null, .int (iI 0), .int (iI 0), .int (iI 0), .int (iI 0), .int (iI 0)])), (a_1, .inl (cI, 48, .inl (aI (fun _ => 0))))] H := hP
  have hD : va_D A [(h, .inr (3, [.null, .int (iI 0), .int (iI 0), .int (iI 0), .int (iI 0), .int (iI 0)])), (a_1, .inl (cI, 48, .inl (aI (fun _ => 0))))] := hD
  refine va_putF (D := (dC, dI)) (ci := 3) (v := .ref a_1) (ty := .array .int) (C := RX3) (T := TX3) (N := 6) hx hb hts hi_X3 tyX3 tyX3_ok nmX3 hown hK hP hD hS 0 rfl rfl 0 (by decide) hf11 (fun _ h9 => h9) rfl hin rfl (by decide +kernel) rfl rfl (Nat.le_of_ble_eq_true rfl) dX3_init_9 (fun H locs hP hD hS => ?_)
  have hP : va_P (dC, dI) vwCl [(h, .inr (3, [.ref a_1, .int (iI 0), .int (iI 0), .int (iI 0), .int (iI 0), .int (iI 0)])), (a_1, .inl (cI, 48, .inl (aI (fun _ => 0))))] H := hP
  have hD : va_D A [(h, .inr (3, [.ref a_1, .int (iI 0), .int (iI 0), .int (iI 0), .int (iI 0), .int (iI 0)])), (a_1, .inl (cI, 48, .inl (aI (fun _ => 0))))] := hD
  refine lv_aload_n hx hb dX3_init_12 rfl (lv_at hl 0 rfl) ?_
  refine mi_iconst hx hb dX3_init_13 ?_
  refine va_put (D := (dC, dI)) (ci := 3) (v := .int (iI 0)) (ty := .int) (C := RX3) (T := TX3) (N := 6) hx hb hts hi_X3 tyX3 tyX3_ok nmX3 hown hK hP hD hS 0 rfl rfl 1 (by decide) hf15 (fun _ h9 => h9) rfl (by decide +kernel) rfl rfl (Nat.le_of_ble_eq_true rfl) dX3_init_14 (fun H locs hP hD hS => ?_)
  have hP : va_P (dC, dI) vwCl [(h, .inr (3, [.ref a_1, .int (iI 0), .int (iI 0), .int (iI 0), .int (iI 0), .int (iI 0)])), (a_1, .inl (cI, 48, .inl (aI (fun _ => 0))))] H := hP
  have hD : va_D A [(h, .inr (3, [.ref a_1, .int (iI 0), .int (iI 0), .int (iI 0), .int (iI 0), .int (iI 0)])), (a_1, .inl (cI, 48, .inl (aI (fun _ => 0))))] := hD
  refine lv_aload_n hx hb dX3_init_17 rfl (lv_at hl 0 rfl) ?_
  refine mi_iconst hx hb dX3_init_18 ?_
  refine va_put (D := (dC, dI)) (ci := 3) (v := .int (iI 0)) (ty := .int) (C := RX3) (T := TX3) (N := 6) hx hb hts hi_X3 tyX3 tyX3_ok nmX3 hown hK hP hD hS 0 rfl rfl 2 (by decide) hf19 (fun _ h9 => h9) rfl (by decide +kernel) rfl rfl (Nat.le_of_ble_eq_true rfl) dX3_init_19 (fun H locs hP hD hS => ?_)
  have hP : va_P (dC, dI) vwCl [(h, .inr (3, [.ref a_1, .int (iI 0), .int (iI 0), .int (iI 0), .int (iI 0), .int (iI 0)])), (a_1, .inl (cI, 48, .inl (aI (fun _ => 0))))] H := hP
  have hD : va_D A [(h, .inr (3, [.ref a_1, .int (iI 0), .int (iI 0), .int (iI 0), .int (iI 0), .int (iI 0)])), (a_1, .inl (cI, 48, .inl (aI (fun _ => 0))))] := hD
  refine lv_aload_n hx hb dX3_init_22 rfl (lv_at hl 0 rfl) ?_
  refine mi_iconst hx hb dX3_init_23 ?_
  refine va_put (D := (dC, dI)) (ci := 3) (v := .int (iI 0)) (ty := .int) (C := RX3) (T := TX3) (N := 6) hx hb hts hi_X3 tyX3 tyX3_ok nmX3 hown hK hP hD hS 0 rfl rfl 3 (by decide) hf22 (fun _ h9 => h9) rfl (by decide +kernel) rfl rfl (Nat.le_of_ble_eq_true rfl) dX3_init_24 (fun H locs hP hD hS => ?_)
  have hP : va_P (dC, dI) vwCl [(h, .inr (3, [.ref a_1, .int (iI 0), .int (iI 0), .int (iI 0), .int (iI 0), .int (iI 0)])), (a_1, .inl (cI, 48, .inl (aI (fun _ => 0))))] H := hP
  have hD : va_D A [(h, .inr (3, [.ref a_1, .int (iI 0), .int (iI 0), .int (iI 0), .int (iI 0), .int (iI 0)])), (a_1, .inl (cI, 48, .inl (aI (fun _ => 0))))] := hD
  refine lv_aload_n hx hb dX3_init_27 rfl (lv_at hl 0 rfl) ?_
  refine mi_iconst hx hb dX3_init_28 ?_
  refine va_put (D := (dC, dI)) (ci := 3) (v := .int (iI 0)) (ty := .int) (C := RX3) (T := TX3) (N := 6) hx hb hts hi_X3 tyX3 tyX3_ok nmX3 hown hK hP hD hS 0 rfl rfl 4 (by decide) hf25 (fun _ h9 => h9) rfl (by decide +kernel) rfl rfl (Nat.le_of_ble_eq_true rfl) dX3_init_29 (fun H locs hP hD hS => ?_)
  have hP : va_P (dC, dI) vwCl [(h, .inr (3, [.ref a_1, .int (iI 0), .int (iI 0), .int (iI 0), .int (iI 0), .int (iI 0)])), (a_1, .inl (cI, 48, .inl (aI (fun _ => 0))))] H := hP
  have hD : va_D A [(h, .inr (3, [.ref a_1, .int (iI 0), .int (iI 0), .int (iI 0), .int (iI 0), .int (iI 0)])), (a_1, .inl (cI, 48, .inl (aI (fun _ => 0))))] := hD
  refine lv_aload_n hx hb dX3_init_32 rfl (lv_at hl 0 rfl) ?_
  refine mi_iconst hx hb dX3_init_33 ?_
  refine va_put (D := (dC, dI)) (ci := 3) (v := .int (iI 0)) (ty := .int) (C := RX3) (T := TX3) (N := 6) hx hb hts hi_X3 tyX3 tyX3_ok nmX3 hown hK hP hD hS 0 rfl rfl 5 (by decide) hf28 (fun _ h9 => h9) rfl (by decide +kernel) rfl rfl (Nat.le_of_ble_eq_true rfl) dX3_init_34 (fun H locs hP hD hS => ?_)
  have hP : va_P (dC, dI) vwCl [(h, .inr (3, [.ref a_1, .int (iI 0), .int (iI 0), .int (iI 0), .int (iI 0), .int (iI 0)])), (a_1, .inl (cI, 48, .inl (aI (fun _ => 0))))] H := hP
  have hD : va_D A [(h, .inr (3, [.ref a_1, .int (iI 0), .int (iI 0), .int (iI 0), .int (iI 0), .int (iI 0)])), (a_1, .inl (cI, 48, .inl (aI (fun _ => 0))))] := hD
  exact mi_vretX (a_1) hx hb hQ hr hlocks hAe hsz hP hD hS rfl dX3_init_37
