set_option maxRecDepth 100000 in
set_option maxHeartbeats 4000000 in
theorem c_Jxa1e45_init_da8c8 (l : Launch) (dC : Nat → ClassId) (dI : Nat → Nat → Nat) (cI cO : ClassId) (h : Nat) (sz : Nat) : Met l yJxa1e45_init_da8c8 wsJxa1e45_init_da8c8 ({ frames := 1, cells := 0, slots := 0, locals := 21 }) (mPc (dC, dI) [(cI, .int), (cO, .object "java/lang/Object")] [.ref h] sz [(h, .inr (0, [.int (iI 0), .null, .int (iI 0)]))]) (mQv (dC, dI) [(h, .inr (0, [.int (iI 0), .null, .int (iI 0)]))] [(h, .inr (0, [.int (iI 0), .null, .int (iI 0)]))] sz) 0 0 (va_A [(h, .inr (0, [.int (iI 0), .null, .int (iI 0)]))] sz) := by
  refine mMet (cc := cJxa1e45_init_da8c8) (maxL := 1) (ret := none) (by decide) rfl (Nat.le_of_ble_eq_true rfl) ?_
  intro p e s m args below meth c A ls hx hb hr hts hown hlocks hin hml hAe hsz hA hD H hHe hP hK hZ hS hl Q hQ
  have hl : lv_has ls 1 [(0, .ref h)] := hl
  have hoi1 := hts (.methodLink RJxa1e45 1 objectInit) (by decide +kernel)
  have hoii := hts (.instanceMethod objectInit) (by decide +kernel)
  have hoic := hts (.code objectInit ⟨#[0xb1]⟩ 1 none) (by decide +kernel)
  refine lv_aload_n hx hb dJxa1e45_init_da8c8_0 rfl (lv_at hl 0 rfl) ?_
  refine W.objInit hx hb hown hoi1 hoii hoic rfl (by rw [hml]; exact hl.1) rfl dJxa1e45_init_da8c8_1 (Nat.le_of_ble_eq_true rfl) (Nat.le_of_ble_eq_true rfl) ?_
  refine W.eq (g2 := F0 m 4 ls []) rfl ?_
  exact mi_vret hx hb hQ hr hlocks hAe hsz hP hD hS rfl dJxa1e45_init_da8c8_4

set_option maxRecDepth 100000 in
set_option maxHeartbeats 4000000 in
theorem c_Jxc12de_init_da8c8 (l : Launch) (dC : Nat → ClassId) (dI : Nat → Nat → Nat) (cI cO : ClassId) (h : Nat) (sz : Nat) : Met l yJxc12de_init_da8c8 wsJxc12de_init_da8c8 ({ frames := 2, cells := 0, slots := 0, locals := 41 }) (mPc (dC, dI) [(cI, .int), (cO, .object "java/lang/Object")] [.ref h] sz [(h, .inr (0, [.int (iI 0), .null, .int (iI 0)]))]) (mQv (dC, dI) [(h, .inr (0, [.int (iI 0), .null, .int (iI 0)]))] [(h, .inr (0, [.int (iI 0), .null, .int (iI 0)]))] sz) 0 0 (va_A [(h, .inr (0, [.int (iI 0), .null, .int (iI 0)]))] sz) := by
  refine mMet (cc := cJxc12de_init_da8c8) (maxL := 1) (ret := none) (by decide) rfl (Nat.le_of_ble_eq_true rfl) ?_
  intro p e s m args below meth c A ls hx hb hr hts hown hlocks hin hml hAe hsz hA hD H hHe hP hK hZ hS hl Q hQ
  have hl : lv_has ls 1 [(0, .ref h)] := hl
  have hf7 := hts (.fieldLink RJxc12de 7 "java/util/AbstractList" "modCount" "I") (by decide +kernel)
  have hi_Jx4a65c : ∀ w ∈ u_ws RJx4a65c TJx4a65c 3, w ∈ wsJxc12de_init_da8c8 := by decide +kernel
  refine lv_aload_n hx hb dJxc12de_init_da8c8_0 rfl (lv_at hl 0 rfl) ?_
  refine m_runv (wc := [(h, .inr (0, [.int (iI 0), .null, .int (iI 0)]))]) (wc' := [(h, .inr (0, [.int (iI 0), .null, .int (iI 0)]))]) (wr := []) (ws' := [(h, .inr (0, [.int (iI 0), .null, .int (iI 0)]))]) (va_runI (As := []) (rest := []) ⟨hx, hb, hml, hown, hts⟩ (c_Jxa1e45_init_da8c8 l dC dI cI cO h H.size ) (cwI 0 hts gJxc12de_init_da8c8_Jxa1e45_init_da8c8 rfl rfl rfl (hts (.initialized RJxa1e45) (by decide +kernel)) (hts (.methodLink RJxc12de 1 yJxa1e45_init_da8c8) (by decide +kernel)) (hts (.instanceMethod yJxa1e45_init_da8c8) (by decide +kernel)) rfl (by decide +kernel) ⟨Nat.le_of_ble_eq_true rfl, Nat.le_of_ble_eq_true rfl⟩) (m_preS hZ hK hP hD [0] rfl (by decide)) rfl rfl hl.1 rfl (lv_room (Nat.le_of_ble_eq_true rfl)) dJxc12de_init_da8c8_1 ⟨Nat.le_of_ble_eq_true rfl, Nat.le_of_ble_eq_true rfl⟩) hP hD hS hA [0] [] [0] rfl rfl (by decide) (by decide) rfl (by decide) (fun H locs hP hD hS => ?_)
  refine lv_aload_n hx hb dJxc12de_init_da8c8_4 rfl (lv_at hl 0 rfl) ?_
  refine mi_iconst hx hb dJxc12de_init_da8c8_5 ?_
  refine va_put (D := (dC, dI)) (ci := 0) (v := .int (iI 0)) (ty := .int) (C := RJx4a65c) (T := TJx4a65c) (N := 3) hx hb hts hi_Jx4a65c tyJx4a65c tyJx4a65c_ok nmJx4a65c hown hK hP hD hS 0 rfl rfl 0 (by decide) hf7 (fun _ h9 => h9) rfl (by decide +kernel) rfl rfl (Nat.le_of_ble_eq_true rfl) dJxc12de_init_da8c8_6 (fun H locs hP hD hS => ?_)
  have hP : va_P (dC, dI) vwCl [(h, .inr (0, [.int (iI 0), .null, .int (iI 0)]))] H := hP
  have hD : va_D A [(h, .inr (0, [.int (iI 0), .null, .int (iI 0)]))] := hD
  exact mi_vret hx hb hQ hr hlocks hAe hsz hP hD hS rfl dJxc12de_init_da8c8_9

set_option maxRecDepth 100000 in
set_option maxHeartbeats 4000000 in
theorem c_Jx4a65c_init_da8c8 (l : Launch) (dC : Nat → ClassId) (dI : Nat → Nat → Nat) (cI cO : ClassId) (h : Nat) (eZ : Nat) (sz : Nat) : Met l yJx4a65c_init_da8c8 wsJx4a65c_init_da8c8 ({ frames := 3, cells := 0, slots := 0, locals := 61 }) (mPcZ (dC, dI) [(cI, .int), (cO, .object "java/lang/Object")] eZ [.ref h] sz [(h, .inr (0, [.int (iI 0), .null, .int (iI 0)]))]) (mQv (dC, dI) [(h, .inr (0, [.int (iI 0), .null, .int (iI 0)]))] [(h, .inr (0, [.int (iI 0), .ref eZ, .int (iI 0)]))] sz) 0 0 (va_A [(h, .inr (0, [.int (iI 0), .null, .int (iI 0)]))] sz) := by
  refine mMetZ (cc := cJx4a65c_init_da8c8) (maxL := 1) (ret := none) (by decide) rfl (Nat.le_of_ble_eq_true rfl) ?_
  intro p e s m args below meth c A ls hx hb hr hts hown hlocks hin hml hAe hsz hA hD H hHe hP hK hZ hE hS hl Q hQ
  have hl : lv_has ls 1 [(0, .ref h)] := hl
  have hst39 := hts (.fieldLink RJx4a65c 39 "java/util/ArrayList" "DEFAULTCAPACITY_EMPTY_ELEMENTDATA" "[Ljava/lang/Object;") (by decide +kernel)
  have hf9 := hts (.fieldLink RJx4a65c 9 "java/util/ArrayList" "elementData" "[Ljava/lang/Object;") (by decide +kernel)
  have hi_Jx4a65c : ∀ w ∈ u_ws RJx4a65c TJx4a65c 3, w ∈ wsJx4a65c_init_da8c8 := by decide +kernel
  refine lv_aload_n hx hb dJx4a65c_init_da8c8_0 rfl (lv_at hl 0 rfl) ?_
  refine m_runv (wc := [(h, .inr (0, [.int (iI 0), .null, .int (iI 0)]))]) (wc' := [(h, .inr (0, [.int (iI 0), .null, .int (iI 0)]))]) (wr := []) (ws' := [(h, .inr (0, [.int (iI 0), .null, .int (iI 0)]))]) (va_runI (As := []) (rest := []) ⟨hx, hb, hml, hown, hts⟩ (c_Jxc12de_init_da8c8 l dC dI cI cO h H.size ) (cwI 0 hts gJx4a65c_init_da8c8_Jxc12de_init_da8c8 rfl rfl rfl (hts (.initialized RJxc12de) (by decide +kernel)) (hts (.methodLink RJx4a65c 1 yJxc12de_init_da8c8) (by decide +kernel)) (hts (.instanceMethod yJxc12de_init_da8c8) (by decide +kernel)) rfl (by decide +kernel) ⟨Nat.le_of_ble_eq_true rfl, Nat.le_of_ble_eq_true rfl⟩) (m_preS hZ hK hP hD [0] rfl (by decide)) rfl rfl hl.1 rfl (lv_room (Nat.le_of_ble_eq_true rfl)) dJx4a65c_init_da8c8_1 ⟨Nat.le_of_ble_eq_true rfl, Nat.le_of_ble_eq_true rfl⟩) hP hD hS hA [0] [] [0] rfl rfl (by decide) (by decide) rfl (by decide) (fun H locs hP hD hS => ?_)
  refine lv_aload_n hx hb dJx4a65c_init_da8c8_4 rfl (lv_at hl 0 rfl) ?_
  refine mi_getZ hx hb hE hS hown hst39 dJx4a65c_init_da8c8_5 ?_
  refine va_put (D := (dC, dI)) (ci := 0) (v := .ref eZ) (ty := .array (.object "java/lang/Object")) (C := RJx4a65c) (T := TJx4a65c) (N := 3) hx hb hts hi_Jx4a65c tyJx4a65c tyJx4a65c_ok nmJx4a65c hown hK hP hD hS 0 rfl rfl 1 (by decide) hf9 (fun _ h9 => h9) rfl (by decide +kernel) rfl rfl (Nat.le_of_ble_eq_true rfl) dJx4a65c_init_da8c8_8 (fun H locs hP hD hS => ?_)
  have hP : va_P (dC, dI) vwCl [(h, .inr (0, [.int (iI 0), .ref eZ, .int (iI 0)]))] H := hP
  have hD : va_D A [(h, .inr (0, [.int (iI 0), .ref eZ, .int (iI 0)]))] := hD
  exact mi_vret hx hb hQ hr hlocks hAe hsz hP hD hS rfl dJx4a65c_init_da8c8_11

set_option maxRecDepth 100000 in
set_option maxHeartbeats 4000000 in
theorem c_Jx4a65c_grow_92f84 (l : Launch) (dC : Nat → ClassId) (dI : Nat → Nat → Nat) (cI cO : ClassId) (h : Nat) (cm : Int) (eZ : Nat) (sz : Nat) : Met l yJx4a65c_grow_92f84 wsJx4a65c_grow_92f84 ({ frames := 1, cells := 1, slots := 10, locals := 21 }) (mPcZ (dC, dI) [(cI, .int), (cO, .object "java/lang/Object")] eZ [.ref h, .int (iI (0 + 1))] sz [(h, .inr (0, [.int (iI cm), .ref eZ, .int (iI 0)]))]) (mQrX (dC, dI) [(h, .inr (0, [.int (iI cm), .ref eZ, .int (iI 0)]))] (fun (z9 : Nat) => [(h, .inr (0, [.int (iI cm), .ref z9, .int (iI 0)])), (z9, .inl (cO, 10, .inr (.inr (.inr (.inr (fun _ => none))))))]) sz) 1 10 (va_A [(h, .inr (0, [.int (iI cm), .ref eZ, .int (iI 0)]))] sz) := by
  refine mMetZ (cc := cJx4a65c_grow_92f84) (maxL := 4) (ret := (some (.array (.object "java/lang/Object")))) (by decide) rfl (Nat.le_of_ble_eq_true rfl) ?_
  intro p e s m args below meth c A ls hx hb hr hts hown hlocks hin hml hAe hsz hA hD H hHe hP hK hZ hE hS hl Q hQ
  have hl : lv_has ls 4 [(0, .ref h), (1, .int (iI (0 + 1)))] := hl
  have hf9 := hts (.fieldLink RJx4a65c 9 "java/util/ArrayList" "elementData" "[Ljava/lang/Object;") (by decide +kernel)
  have hi_Jx4a65c : ∀ w ∈ u_ws RJx4a65c TJx4a65c 3, w ∈ wsJx4a65c_grow_92f84 := by decide +kernel
  have hst39 := hts (.fieldLink RJx4a65c 39 "java/util/ArrayList" "DEFAULTCAPACITY_EMPTY_ELEMENTDATA" "[Ljava/lang/Object;") (by decide +kernel)
  have hm79 := hts (.methodLink RJx4a65c 79 Lib.Math.max.name) (by decide +kernel)
  have hmsmmax := hts (.static Lib.Math.max.name) (by decide +kernel)
  have hmi := hts (.initialized "java/lang/Math") (by decide +kernel)
  have hmcmmax := hts (.code Lib.Math.max.name Lib.Math.max.code 2 (some .int)) (by decide +kernel)
  have hcl7 := hts (.classLink RJx4a65c 7 "java/lang/Object") (by decide +kernel)
  refine lv_aload_n hx hb dJx4a65c_grow_92f84_0 rfl (lv_at hl 0 rfl) ?_
  refine va_get (ci := 0) (v := .ref eZ) (C := RJx4a65c) (T := TJx4a65c) (N := 3) hx hb hts hi_Jx4a65c hown hK hP 0 rfl rfl 1 (by decide) hf9 (fun _ h9 => h9) rfl dJx4a65c_grow_92f84_1 ?_
  refine mi_lenZ hx hb hE hS dJx4a65c_grow_92f84_4 ?_
  refine lv_istore_n (lv' := [(2, .int (iI 0)), (0, .ref h), (1, .int (iI (0 + 1)))]) hx hb dJx4a65c_grow_92f84_5 rfl hl (by decide) rfl (fun ls hl => ?_)
  refine lv_iload_n hx hb dJx4a65c_grow_92f84_6 rfl (lv_at hl 0 rfl) ?_
  refine mi_if_gt (tgt := 20) hx hb (by decide) dJx4a65c_grow_92f84_7 (by decide) (fun c_1 => ?_) (fun c_1 => ?_)
  · exfalso; omega
  · refine lv_aload_n hx hb dJx4a65c_grow_92f84_10 rfl (lv_at hl 1 rfl) ?_
    refine va_get (ci := 0) (v := .ref eZ) (C := RJx4a65c) (T := TJx4a65c) (N := 3) hx hb hts hi_Jx4a65c hown hK hP 0 rfl rfl 1 (by decide) hf9 (fun _ h9 => h9) rfl dJx4a65c_grow_92f84_11 ?_
    refine mi_getZ hx hb hE hS hown hst39 dJx4a65c_grow_92f84_14 ?_
    refine mi_acmpE (tgt := 45) hx hb dJx4a65c_grow_92f84_17 (by decide) ?_
    refine lv_aload_n hx hb dJx4a65c_grow_92f84_45 rfl (lv_at hl 1 rfl) ?_
    refine mi_bipush hx hb dJx4a65c_grow_92f84_46 (by decide) ?_
    refine lv_iload_n hx hb dJx4a65c_grow_92f84_48 rfl (lv_at hl 2 rfl) ?_
    refine mi_mmax hx hb (hml.trans hl.1.symm) hown hm79 hmsmmax hmi hmcmmax (Nat.le_of_ble_eq_true rfl) (Nat.le_of_ble_eq_true rfl) (Nat.le_of_ble_eq_true rfl) (Nat.le_of_ble_eq_true rfl) (by decide) (by omega) dJx4a65c_grow_92f84_49 ?_
    refine mi_newq (cI := cI) (N := 10) hx hb hE hK rfl hP hD hS hA hown hcl7 (by decide) (by decide) (Nat.le_of_ble_eq_true rfl) (Nat.le_of_ble_eq_true rfl) dJx4a65c_grow_92f84_52 (fun a_2 H hP hD hS => ?_)
    have hP : va_P (dC, dI) vwCl [(h, .inr (0, [.int (iI cm), .ref eZ, .int (iI 0)])), (a_2, .inl (cO, 10, .inr (.inr (.inr (.inr (fun _ => none))))))] H := hP
    have hD : va_D A [(h, .inr (0, [.int (iI cm), .ref eZ, .int (iI 0)])), (a_2, .inl (cO, 10, .inr (.inr (.inr (.inr (fun _ => none))))))] := hD
    refine lv_dup_x1 hx hb dJx4a65c_grow_92f84_55 rfl rfl ?_
    refine va_put (D := (dC, dI)) (ci := 0) (v := .ref a_2) (ty := .array (.object "java/lang/Object")) (C := RJx4a65c) (T := TJx4a65c) (N := 3) hx hb hts hi_Jx4a65c tyJx4a65c tyJx4a65c_ok nmJx4a65c hown hK hP hD hS 0 rfl rfl 1 (by decide) hf9 (fun _ h9 => h9) rfl (by decide +kernel) rfl rfl (Nat.le_of_ble_eq_true rfl) dJx4a65c_grow_92f84_56 (fun H locs hP hD hS => ?_)
    have hP : va_P (dC, dI) vwCl [(h, .inr (0, [.int (iI cm), .ref a_2, .int (iI 0)])), (a_2, .inl (cO, 10, .inr (.inr (.inr (.inr (fun _ => none))))))] H := hP
    have hD : va_D A [(h, .inr (0, [.int (iI cm), .ref a_2, .int (iI 0)])), (a_2, .inl (cO, 10, .inr (.inr (.inr (.inr (fun _ => none))))))] := hD
    exact mi_aretX hx hb hQ hr (Or.inr ⟨_, rfl⟩) hlocks hAe hsz hP hD hS rfl dJx4a65c_grow_92f84_59

set_option maxRecDepth 100000 in
set_option maxHeartbeats 4000000 in
theorem c_Jx4a65c_grow_d5877 (l : Launch) (dC : Nat → ClassId) (dI : Nat → Nat → Nat) (cI cO : ClassId) (h : Nat) (cm : Int) (eZ : Nat) (sz : Nat) : Met l yJx4a65c_grow_d5877 wsJx4a65c_grow_d5877 ({ frames := 2, cells := 1, slots := 10, locals := 44 }) (mPcZ (dC, dI) [(cI, .int), (cO, .object "java/lang/Object")] eZ [.ref h] sz [(h, .inr (0, [.int (iI cm), .ref eZ, .int (iI 0)]))]) (mQrX (dC, dI) [(h, .inr (0, [.int (iI cm), .ref eZ, .int (iI 0)]))] (fun (z9 : Nat) => [(h, .inr (0, [.int (iI cm), .ref z9, .int (iI 0)])), (z9, .inl (cO, 10, .inr (.inr (.inr (.inr (fun _ => none))))))]) sz) 1 10 (va_A [(h, .inr (0, [.int (iI cm), .ref eZ, .int (iI 0)]))] sz) := by
  refine mMetZ (cc := cJx4a65c_grow_d5877) (maxL := 1) (ret := (some (.array (.object "java/lang/Object")))) (by decide) rfl (Nat.le_of_ble_eq_true rfl) ?_
  intro p e s m args below meth c A ls hx hb hr hts hown hlocks hin hml hAe hsz hA hD H hHe hP hK hZ hE hS hl Q hQ
  have hl : lv_has ls 1 [(0, .ref h)] := hl
  have hf48 := hts (.fieldLink RJx4a65c 48 "java/util/ArrayList" "size" "I") (by decide +kernel)
  have hi_Jx4a65c : ∀ w ∈ u_ws RJx4a65c TJx4a65c 3, w ∈ wsJx4a65c_grow_d5877 := by decide +kernel
  refine lv_aload_n hx hb dJx4a65c_grow_d5877_0 rfl (lv_at hl 0 rfl) ?_
  refine lv_aload_n hx hb dJx4a65c_grow_d5877_1 rfl (lv_at hl 0 rfl) ?_
  refine va_get (ci := 0) (v := .int (iI 0)) (C := RJx4a65c) (T := TJx4a65c) (N := 3) hx hb hts hi_Jx4a65c hown hK hP 0 rfl rfl 2 (by decide) hf48 (fun _ h9 => h9) rfl dJx4a65c_grow_d5877_2 ?_
  refine mi_iconst hx hb dJx4a65c_grow_d5877_5 ?_
  refine mi_iadd hx hb dJx4a65c_grow_d5877_6 ?_
  refine m_runrX (wc := [(h, .inr (0, [.int (iI cm), .ref eZ, .int (iI 0)]))]) (wf := fun (k_1 : Nat) => [(h, .inr (0, [.int (iI cm), .ref k_1, .int (iI 0)])), (k_1, .inl (cO, 10, .inr (.inr (.inr (.inr (fun _ => none))))))]) (wr := []) (ws' := fun (k_1 : Nat) => [(h, .inr (0, [.int (iI cm), .ref k_1, .int (iI 0)])), (k_1, .inl (cO, 10, .inr (.inr (.inr (.inr (fun _ => none))))))]) (va_runV (As := [.int (iI (0 + 1))]) (rest := []) ⟨hx, hb, hml, hown, hts⟩ (c_Jx4a65c_grow_92f84 l dC dI cI cO h cm eZ H.size ) (cwV 1 hts gJx4a65c_grow_d5877_Jx4a65c_grow_92f84 rfl rfl rfl (by decide +kernel) ⟨Nat.le_of_ble_eq_true rfl, Nat.le_of_ble_eq_true rfl⟩) (m_preVZ hE hS hA hZ hK hP hD [0] rfl (by decide) (va_recv hK hP (ci := 0) (q0 := 0) rfl rfl)) rfl rfl hl.1 rfl (lv_room (Nat.le_of_ble_eq_true rfl)) dJx4a65c_grow_d5877_7 ⟨Nat.le_of_ble_eq_true rfl, Nat.le_of_ble_eq_true rfl⟩) hP hD hS hA [0] [] [0, 1] rfl rfl (by decide) (by decide) (fun _ => rfl) (by decide) (fun k_1 H locs hP hD hS => ?_)
  have hP : va_P (dC, dI) vwCl [(h, .inr (0, [.int (iI cm), .ref k_1, .int (iI 0)])), (k_1, .inl (cO, 10, .inr (.inr (.inr (.inr (fun _ => none))))))] H := hP
  have hD : va_D A [(h, .inr (0, [.int (iI cm), .ref k_1, .int (iI 0)])), (k_1, .inl (cO, 10, .inr (.inr (.inr (.inr (fun _ => none))))))] := hD
  exact mi_aretX hx hb hQ hr (Or.inr ⟨_, rfl⟩) hlocks hAe hsz hP hD hS rfl dJx4a65c_grow_d5877_10

set_option maxRecDepth 100000 in
set_option maxHeartbeats 4000000 in
theorem c_addE0_6 (l : Launch) (dC : Nat → ClassId) (dI : Nat → Nat → Nat) (cI cO : ClassId) (h : Nat) (cm : Int) (v : Nat) (one : Int) (oth : Int) (a1 : Nat) (a2 : Nat) (a3 : Nat) (eZ : Nat) (sz : Nat) : Met l yJx4a65c_add_72be8 wsJx4a65c_add_72be8 ({ frames := 3, cells := 1, slots := 10, locals := 64 }) (mPcZ (dC, dI) [(cI, .int), (cO, .object "java/lang/Object")] eZ [.ref h, .ref v, .ref eZ, .int (iI 0)] sz [(h, .inr (0, [.int (iI cm), .ref eZ, .int (iI 0)])), (v, .inr (6, [.int (iI one), .int (iI oth), .ref a1, .ref a2, .ref a3]))]) (mQvX (dC, dI) [(h, .inr (0, [.int (iI cm), .ref eZ, .int (iI 0)])), (v, .inr (6, [.int (iI one), .int (iI oth), .ref a1, .ref a2, .ref a3]))] (fun (z9 : Nat) => [(h, .inr (0, [.int (iI cm), .ref z9, .int (iI (0 + 1))])), (v, .inr (6, [.int (iI one), .int (iI oth), .ref a1, .ref a2, .ref a3])), (z9, .inl (cO, 10, .inr (.inr (.inr (.inr (va_up (fun _ => none) 0 (some v)))))))]) sz) 1 10 (va_A [(h, .inr (0, [.int (iI cm), .ref eZ, .int (iI 0)])), (v, .inr (6, [.int (iI one), .int (iI oth), .ref a1, .ref a2, .ref a3]))] sz) := by
  refine mMetZ (cc := cJx4a65c_add_72be8) (maxL := 4) (ret := none) (by decide) rfl (Nat.le_of_ble_eq_true rfl) ?_
  intro p e s m args below meth c A ls hx hb hr hts hown hlocks hin hml hAe hsz hA hD H hHe hP hK hZ hE hS hl Q hQ
  have hl : lv_has ls 4 [(0, .ref h), (1, .ref v), (2, .ref eZ), (3, .int (iI 0))] := hl
  have hf48 := hts (.fieldLink RJx4a65c 48 "java/util/ArrayList" "size" "I") (by decide +kernel)
  have hi_Jx4a65c : ∀ w ∈ u_ws RJx4a65c TJx4a65c 3, w ∈ wsJx4a65c_add_72be8 := by decide +kernel
  refine lv_iload_n hx hb dJx4a65c_add_72be8_0 rfl (lv_at hl 3 rfl) ?_
  refine lv_aload_n hx hb dJx4a65c_add_72be8_1 rfl (lv_at hl 2 rfl) ?_
  refine mi_lenZ hx hb hE hS dJx4a65c_add_72be8_2 ?_
  refine mi_icmp_ne (tgt := 11) hx hb (by decide) (by decide) dJx4a65c_add_72be8_3 (by decide) (fun c_1 => ?_) (fun c_1 => ?_)
  · exfalso; omega
  · refine lv_aload_n hx hb dJx4a65c_add_72be8_6 rfl (lv_at hl 0 rfl) ?_
    refine m_runrX (wc := [(h, .inr (0, [.int (iI cm), .ref eZ, .int (iI 0)]))]) (wf := fun (k_2 : Nat) => [(h, .inr (0, [.int (iI cm), .ref k_2, .int (iI 0)])), (k_2, .inl (cO, 10, .inr (.inr (.inr (.inr (fun _ => none))))))]) (wr := [(v, .inr (6, [.int (iI one), .int (iI oth), .ref a1, .ref a2, .ref a3]))]) (ws' := fun (k_2 : Nat) => [(h, .inr (0, [.int (iI cm), .ref k_2, .int (iI 0)])), (v, .inr (6, [.int (iI one), .int (iI oth), .ref a1, .ref a2, .ref a3])), (k_2, .inl (cO, 10, .inr (.inr (.inr (.inr (fun _ => none))))))]) (va_runV (As := []) (rest := []) ⟨hx, hb, hml, hown, hts⟩ (c_Jx4a65c_grow_d5877 l dC dI cI cO h cm eZ H.size ) (cwV 0 hts gJx4a65c_add_72be8_Jx4a65c_grow_d5877 rfl rfl rfl (by decide +kernel) ⟨Nat.le_of_ble_eq_true rfl, Nat.le_of_ble_eq_true rfl⟩) (m_preVZ hE hS hA hZ hK hP hD [0] rfl (by decide) (va_recv hK hP (ci := 0) (q0 := 0) rfl rfl)) rfl rfl hl.1 rfl (lv_room (Nat.le_of_ble_eq_true rfl)) dJx4a65c_add_72be8_7 ⟨Nat.le_of_ble_eq_true rfl, Nat.le_of_ble_eq_true rfl⟩) hP hD hS hA [0] [1] [1, 0, 2] rfl rfl (by decide) (by decide) (fun _ => rfl) (by decide) (fun k_2 H locs hP hD hS => ?_)
    have hP : va_P (dC, dI) vwCl [(h, .inr (0, [.int (iI cm), .ref k_2, .int (iI 0)])), (v, .inr (6, [.int (iI one), .int (iI oth), .ref a1, .ref a2, .ref a3])), (k_2, .inl (cO, 10, .inr (.inr (.inr (.inr (fun _ => none))))))] H := hP
    have hD : va_D A [(h, .inr (0, [.int (iI cm), .ref k_2, .int (iI 0)])), (v, .inr (6, [.int (iI one), .int (iI oth), .ref a1, .ref a2, .ref a3])), (k_2, .inl (cO, 10, .inr (.inr (.inr (.inr (fun _ => none))))))] := hD
    refine lv_astore_n (lv' := [(2, .ref k_2), (0, .ref h), (1, .ref v), (3, .int (iI 0))]) hx hb dJx4a65c_add_72be8_10 rfl hl (by decide) rfl (fun ls hl => ?_)
    refine lv_aload_n hx hb dJx4a65c_add_72be8_11 rfl (lv_at hl 0 rfl) ?_
    refine lv_iload_n hx hb dJx4a65c_add_72be8_12 rfl (lv_at hl 3 rfl) ?_
    refine lv_aload_n hx hb dJx4a65c_add_72be8_13 rfl (lv_at hl 2 rfl) ?_
    refine mi_astq (ws' := [(h, .inr (0, [.int (iI cm), .ref k_2, .int (iI 0)])), (v, .inr (6, [.int (iI one), .int (iI oth), .ref a1, .ref a2, .ref a3])), (k_2, .inl (cO, 10, .inr (.inr (.inr (.inr (va_up (fun _ => none) 0 (some v)))))))]) (k := 0) hx hb hK hP hD hS 2 1 6 rfl rfl hE.2.2.2.1 rfl rfl rfl (by decide) (by decide) rfl dJx4a65c_add_72be8_14 (fun H locs hP hD hS => ?_)
    refine lv_aload_n hx hb dJx4a65c_add_72be8_15 rfl (lv_at hl 1 rfl) ?_
    refine lv_iload_n hx hb dJx4a65c_add_72be8_16 rfl (lv_at hl 3 rfl) ?_
    refine mi_iconst hx hb dJx4a65c_add_72be8_17 ?_
    refine mi_iadd hx hb dJx4a65c_add_72be8_18 ?_
    refine va_put (D := (dC, dI)) (ci := 0) (v := .int (iI (0 + 1))) (ty := .int) (C := RJx4a65c) (T := TJx4a65c) (N := 3) hx hb hts hi_Jx4a65c tyJx4a65c tyJx4a65c_ok nmJx4a65c hown hK hP hD hS 0 rfl rfl 2 (by decide) hf48 (fun _ h9 => h9) rfl (by decide +kernel) rfl rfl (Nat.le_of_ble_eq_true rfl) dJx4a65c_add_72be8_19 (fun H locs hP hD hS => ?_)
    have hP : va_P (dC, dI) vwCl [(h, .inr (0, [.int (iI cm), .ref k_2, .int (iI (0 + 1))])), (v, .inr (6, [.int (iI one), .int (iI oth), .ref a1, .ref a2, .ref a3])), (k_2, .inl (cO, 10, .inr (.inr (.inr (.inr (va_up (fun _ => none) 0 (some v)))))))] H := hP
    have hD : va_D A [(h, .inr (0, [.int (iI cm), .ref k_2, .int (iI (0 + 1))])), (v, .inr (6, [.int (iI one), .int (iI oth), .ref a1, .ref a2, .ref a3])), (k_2, .inl (cO, 10, .inr (.inr (.inr (.inr (va_up (fun _ => none) 0 (some v)))))))] := hD
    exact mi_vretX (k_2) hx hb hQ hr hlocks hAe hsz hP hD hS rfl dJx4a65c_add_72be8_22

set_option maxRecDepth 100000 in
set_option maxHeartbeats 4000000 in
theorem c_add0_6 (l : Launch) (dC : Nat → ClassId) (dI : Nat → Nat → Nat) (cI cO : ClassId) (h : Nat) (cm : Int) (v : Nat) (one : Int) (oth : Int) (a1 : Nat) (a2 : Nat) (a3 : Nat) (eZ : Nat) (sz : Nat) : Met l yJx4a65c_add_9ea2d wsJx4a65c_add_9ea2d ({ frames := 4, cells := 1, slots := 10, locals := 87 }) (mPcZ (dC, dI) [(cI, .int), (cO, .object "java/lang/Object")] eZ [.ref h, .ref v] sz [(h, .inr (0, [.int (iI cm), .ref eZ, .int (iI 0)])), (v, .inr (6, [.int (iI one), .int (iI oth), .ref a1, .ref a2, .ref a3]))]) (mQiX (dC, dI) [(h, .inr (0, [.int (iI cm), .ref eZ, .int (iI 0)])), (v, .inr (6, [.int (iI one), .int (iI oth), .ref a1, .ref a2, .ref a3]))] (fun (z9 : Nat) => [(h, .inr (0, [.int (iI (cm + 1)), .ref z9, .int (iI 1)])), (v, .inr (6, [.int (iI one), .int (iI oth), .ref a1, .ref a2, .ref a3])), (z9, .inl (cO, 10, .inr (.inr (.inr (.inr (va_up (fun _ => none) 0 (some v)))))))]) sz 1) 1 10 (va_A [(h, .inr (0, [.int (iI cm), .ref eZ, .int (iI 0)])), (v, .inr (6, [.int (iI one), .int (iI oth), .ref a1, .ref a2, .ref a3]))] sz) := by
  refine mMetZ (cc := cJx4a65c_add_9ea2d) (maxL := 2) (ret := (some .boolean)) (by decide) rfl (Nat.le_of_ble_eq_true rfl) ?_
  intro p e s m args below meth c A ls hx hb hr hts hown hlocks hin hml hAe hsz hA hD H hHe hP hK hZ hE hS hl Q hQ
  have hl : lv_has ls 2 [(0, .ref h), (1, .ref v)] := hl
  have hf63 := hts (.fieldLink RJx4a65c 63 "java/util/ArrayList" "modCount" "I") (by decide +kernel)
  have hs63 := hts (.sameField "java/util/ArrayList" "java/util/AbstractList" "modCount" "I") (by decide +kernel)
  have hi_Jx4a65c : ∀ w ∈ u_ws RJx4a65c TJx4a65c 3, w ∈ wsJx4a65c_add_9ea2d := by decide +kernel
  have hf9 := hts (.fieldLink RJx4a65c 9 "java/util/ArrayList" "elementData" "[Ljava/lang/Object;") (by decide +kernel)
  have hf48 := hts (.fieldLink RJx4a65c 48 "java/util/ArrayList" "size" "I") (by decide +kernel)
  refine lv_aload_n hx hb dJx4a65c_add_9ea2d_0 rfl (lv_at hl 0 rfl) ?_
  refine lv_dup hx hb dJx4a65c_add_9ea2d_1 rfl ?_
  refine va_get (ci := 0) (v := .int (iI cm)) (C := RJx4a65c) (T := TJx4a65c) (N := 3) hx hb hts hi_Jx4a65c hown hK hP 0 rfl rfl 0 (by decide) hf63 (fun x9 h9 => u_same hs63 x9 h9) rfl dJx4a65c_add_9ea2d_2 ?_
  refine mi_iconst hx hb dJx4a65c_add_9ea2d_5 ?_
  refine mi_iadd hx hb dJx4a65c_add_9ea2d_6 ?_
  refine va_put (D := (dC, dI)) (ci := 0) (v := .int (iI (cm + 1))) (ty := .int) (C := RJx4a65c) (T := TJx4a65c) (N := 3) hx hb hts hi_Jx4a65c tyJx4a65c tyJx4a65c_ok nmJx4a65c hown hK hP hD hS 0 rfl rfl 0 (by decide) hf63 (fun x9 h9 => u_same hs63 x9 h9) rfl (by decide +kernel) rfl rfl (Nat.le_of_ble_eq_true rfl) dJx4a65c_add_9ea2d_7 (fun H locs hP hD hS => ?_)
  have hP : va_P (dC, dI) vwCl [(h, .inr (0, [.int (iI (cm + 1)), .ref eZ, .int (iI 0)])), (v, .inr (6, [.int (iI one), .int (iI oth), .ref a1, .ref a2, .ref a3]))] H := hP
  have hD : va_D A [(h, .inr (0, [.int (iI (cm + 1)), .ref eZ, .int (iI 0)])), (v, .inr (6, [.int (iI one), .int (iI oth), .ref a1, .ref a2, .ref a3]))] := hD
  refine lv_aload_n hx hb dJx4a65c_add_9ea2d_10 rfl (lv_at hl 0 rfl) ?_
  refine lv_aload_n hx hb dJx4a65c_add_9ea2d_11 rfl (lv_at hl 1 rfl) ?_
  refine lv_aload_n hx hb dJx4a65c_add_9ea2d_12 rfl (lv_at hl 0 rfl) ?_
  refine va_get (ci := 0) (v := .ref eZ) (C := RJx4a65c) (T := TJx4a65c) (N := 3) hx hb hts hi_Jx4a65c hown hK hP 0 rfl rfl 1 (by decide) hf9 (fun _ h9 => h9) rfl dJx4a65c_add_9ea2d_13 ?_
  refine lv_aload_n hx hb dJx4a65c_add_9ea2d_16 rfl (lv_at hl 0 rfl) ?_
  refine va_get (ci := 0) (v := .int (iI 0)) (C := RJx4a65c) (T := TJx4a65c) (N := 3) hx hb hts hi_Jx4a65c hown hK hP 0 rfl rfl 2 (by decide) hf48 (fun _ h9 => h9) rfl dJx4a65c_add_9ea2d_17 ?_
  refine m_runvX (wc := [(h, .inr (0, [.int (iI (cm + 1)), .ref eZ, .int (iI 0)])), (v, .inr (6, [.int (iI one), .int (iI oth), .ref a1, .ref a2, .ref a3]))]) (wf := fun (k_1 : Nat) => [(h, .inr (0, [.int (iI (cm + 1)), .ref k_1, .int (iI (0 + 1))])), (v, .inr (6, [.int (iI one), .int (iI oth), .ref a1, .ref a2, .ref a3])), (k_1, .inl (cO, 10, .inr (.inr (.inr (.inr (va_up (fun _ => none) 0 (some v)))))))]) (wr := []) (ws' := fun (k_1 : Nat) => [(h, .inr (0, [.int (iI (cm + 1)), .ref k_1, .int (iI (0 + 1))])), (v, .inr (6, [.int (iI one), .int (iI oth), .ref a1, .ref a2, .ref a3])), (k_1, .inl (cO, 10, .inr (.inr (.inr (.inr (va_up (fun _ => none) 0 (some v)))))))]) (va_runV (As := [.ref v, .ref eZ, .int (iI 0)]) (rest := []) ⟨hx, hb, hml, hown, hts⟩ (c_addE0_6 l dC dI cI cO h (cm + 1) v one oth a1 a2 a3 eZ H.size ) (cwV 3 hts gJx4a65c_add_9ea2d_Jx4a65c_add_72be8 rfl rfl rfl (by decide +kernel) ⟨Nat.le_of_ble_eq_true rfl, Nat.le_of_ble_eq_true rfl⟩) (m_preVZ hE hS hA hZ hK hP hD [0, 1] rfl (by decide) (va_recv hK hP (ci := 0) (q0 := 0) rfl rfl)) rfl rfl hl.1 rfl (lv_room (Nat.le_of_ble_eq_true rfl)) dJx4a65c_add_9ea2d_20 ⟨Nat.le_of_ble_eq_true rfl, Nat.le_of_ble_eq_true rfl⟩) hP hD hS hA [0, 1] [] [0, 1, 2] rfl rfl (by decide) (by decide) (fun _ => rfl) (by decide) (fun k_1 H locs hP hD hS => ?_)
  have hP : va_P (dC, dI) vwCl [(h, .inr (0, [.int (iI (cm + 1)), .ref k_1, .int (iI (0 + 1))])), (v, .inr (6, [.int (iI one), .int (iI oth), .ref a1, .ref a2, .ref a3])), (k_1, .inl (cO, 10, .inr (.inr (.inr (.inr (va_up (fun _ => none) 0 (some v)))))))] H := hP
  have hD : va_D A [(h, .inr (0, [.int (iI (cm + 1)), .ref k_1, .int (iI (0 + 1))])), (v, .inr (6, [.int (iI one), .int (iI oth), .ref a1, .ref a2, .ref a3])), (k_1, .inl (cO, 10, .inr (.inr (.inr (.inr (va_up (fun _ => none) 0 (some v)))))))] := hD
  refine mi_iconst hx hb dJx4a65c_add_9ea2d_23 ?_
  exact mi_zretX (k_1) hx hb hQ hr hlocks hAe hsz hP hD hS (by decide) (by first | rfl | omega | (split <;> omega)) rfl dJx4a65c_add_9ea2d_24

set_option maxRecDepth 100000 in
set_option maxHeartbeats 4000000 in
theorem c_addE0_5 (l : Launch) (dC : Nat → ClassId) (dI : Nat → Nat → Nat) (cI cO : ClassId) (h : Nat) (cm : Int) (v : Nat) (ch : Nat) (wh : Int) (le : Int) (ev : Int) (ab : Int) (li : Int) (ti : Int) (st : Int) (row : Int) (eZ : Nat) (sz : Nat) : Met l yJx4a65c_add_72be8 wsJx4a65c_add_72be8 ({ frames := 3, cells := 1, slots := 10, locals := 64 }) (mPcZ (dC, dI) [(cI, .int), (cO, .object "java/lang/Object")] eZ [.ref h, .ref v, .ref eZ, .int (iI 0)] sz [(h, .inr (0, [.int (iI cm), .ref eZ, .int (iI 0)])), (v, .inr (5, [.ref ch, .int (iI wh), .int (iI le), .int (iI ev), .int (iI ab), .int (iI li), .int (iI ti), .int (iI st), .int (iI row)]))]) (mQvX (dC, dI) [(h, .inr (0, [.int (iI cm), .ref eZ, .int (iI 0)])), (v, .inr (5, [.ref ch, .int (iI wh), .int (iI le), .int (iI ev), .int (iI ab), .int (iI li), .int (iI ti), .int (iI st), .int (iI row)]))] (fun (z9 : Nat) => [(h, .inr (0, [.int (iI cm), .ref z9, .int (iI (0 + 1))])), (v, .inr (5, [.ref ch, .int (iI wh), .int (iI le), .int (iI ev), .int (iI ab), .int (iI li), .int (iI ti), .int (iI st), .int (iI row)])), (z9, .inl (cO, 10, .inr (.inr (.inr (.inr (va_up (fun _ => none) 0 (some v)))))))]) sz) 1 10 (va_A [(h, .inr (0, [.int (iI cm), .ref eZ, .int (iI 0)])), (v, .inr (5, [.ref ch, .int (iI wh), .int (iI le), .int (iI ev), .int (iI ab), .int (iI li), .int (iI ti), .int (iI st), .int (iI row)]))] sz) := by
  refine mMetZ (cc := cJx4a65c_add_72be8) (maxL := 4) (ret := none) (by decide) rfl (Nat.le_of_ble_eq_true rfl) ?_
  intro p e s m args below meth c A ls hx hb hr hts hown hlocks hin hml hAe hsz hA hD H hHe hP hK hZ hE hS hl Q hQ
  have hl : lv_has ls 4 [(0, .ref h), (1, .ref v), (2, .ref eZ), (3, .int (iI 0))] := hl
  have hf48 := hts (.fieldLink RJx4a65c 48 "java/util/ArrayList" "size" "I") (by decide +kernel)
  have hi_Jx4a65c : ∀ w ∈ u_ws RJx4a65c TJx4a65c 3, w ∈ wsJx4a65c_add_72be8 := by decide +kernel
  refine lv_iload_n hx hb dJx4a65c_add_72be8_0 rfl (lv_at hl 3 rfl) ?_
  refine lv_aload_n hx hb dJx4a65c_add_72be8_1 rfl (lv_at hl 2 rfl) ?_
  refine mi_lenZ hx hb hE hS dJx4a65c_add_72be8_2 ?_
  refine mi_icmp_ne (tgt := 11) hx hb (by decide) (by decide) dJx4a65c_add_72be8_3 (by decide) (fun c_1 => ?_) (fun c_1 => ?_)
  · exfalso; omega
  · refine lv_aload_n hx hb dJx4a65c_add_72be8_6 rfl (lv_at hl 0 rfl) ?_
    refine m_runrX (wc := [(h, .inr (0, [.int (iI cm), .ref eZ, .int (iI 0)]))]) (wf := fun (k_2 : Nat) => [(h, .inr (0, [.int (iI cm), .ref k_2, .int (iI 0)])), (k_2, .inl (cO, 10, .inr (.inr (.inr (.inr (fun _ => none))))))]) (wr := [(v, .inr (5, [.ref ch, .int (iI wh), .int (iI le), .int (iI ev), .int (iI ab), .int (iI li), .int (iI ti), .int (iI st), .int (iI row)]))]) (ws' := fun (k_2 : Nat) => [(h, .inr (0, [.int (iI cm), .ref k_2, .int (iI 0)])), (v, .inr (5, [.ref ch, .int (iI wh), .int (iI le), .int (iI ev), .int (iI ab), .int (iI li), .int (iI ti), .int (iI st), .int (iI row)])), (k_2, .inl (cO, 10, .inr (.inr (.inr (.inr (fun _ => none))))))]) (va_runV (As := []) (rest := []) ⟨hx, hb, hml, hown, hts⟩ (c_Jx4a65c_grow_d5877 l dC dI cI cO h cm eZ H.size ) (cwV 0 hts gJx4a65c_add_72be8_Jx4a65c_grow_d5877 rfl rfl rfl (by decide +kernel) ⟨Nat.le_of_ble_eq_true rfl, Nat.le_of_ble_eq_true rfl⟩) (m_preVZ hE hS hA hZ hK hP hD [0] rfl (by decide) (va_recv hK hP (ci := 0) (q0 := 0) rfl rfl)) rfl rfl hl.1 rfl (lv_room (Nat.le_of_ble_eq_true rfl)) dJx4a65c_add_72be8_7 ⟨Nat.le_of_ble_eq_true rfl, Nat.le_of_ble_eq_true rfl⟩) hP hD hS hA [0] [1] [1, 0, 2] rfl rfl (by decide) (by decide) (fun _ => rfl) (by decide) (fun k_2 H locs hP hD hS => ?_)
    have hP : va_P (dC, dI) vwCl [(h, .inr (0, [.int (iI cm), .ref k_2, .int (iI 0)])), (v, .inr (5, [.ref ch, .int (iI wh), .int (iI le), .int (iI ev), .int (iI ab), .int (iI li), .int (iI ti), .int (iI st), .int (iI row)])), (k_2, .inl (cO, 10, .inr (.inr (.inr (.inr (fun _ => none))))))] H := hP
    have hD : va_D A [(h, .inr (0, [.int (iI cm), .ref k_2, .int (iI 0)])), (v, .inr (5, [.ref ch, .int (iI wh), .int (iI le), .int (iI ev), .int (iI ab), .int (iI li), .int (iI ti), .int (iI st), .int (iI row)])), (k_2, .inl (cO, 10, .inr (.inr (.inr (.inr (fun _ => none))))))] := hD
    refine lv_astore_n (lv' := [(2, .ref k_2), (0, .ref h), (1, .ref v), (3, .int (iI 0))]) hx hb dJx4a65c_add_72be8_10 rfl hl (by decide) rfl (fun ls hl => ?_)
    refine lv_aload_n hx hb dJx4a65c_add_72be8_11 rfl (lv_at hl 0 rfl) ?_
    refine lv_iload_n hx hb dJx4a65c_add_72be8_12 rfl (lv_at hl 3 rfl) ?_
    refine lv_aload_n hx hb dJx4a65c_add_72be8_13 rfl (lv_at hl 2 rfl) ?_
    refine mi_astq (ws' := [(h, .inr (0, [.int (iI cm), .ref k_2, .int (iI 0)])), (v, .inr (5, [.ref ch, .int (iI wh), .int (iI le), .int (iI ev), .int (iI ab), .int (iI li), .int (iI ti), .int (iI st), .int (iI row)])), (k_2, .inl (cO, 10, .inr (.inr (.inr (.inr (va_up (fun _ => none) 0 (some v)))))))]) (k := 0) hx hb hK hP hD hS 2 1 5 rfl rfl hE.2.2.2.2 rfl rfl rfl (by decide) (by decide) rfl dJx4a65c_add_72be8_14 (fun H locs hP hD hS => ?_)
    refine lv_aload_n hx hb dJx4a65c_add_72be8_15 rfl (lv_at hl 1 rfl) ?_
    refine lv_iload_n hx hb dJx4a65c_add_72be8_16 rfl (lv_at hl 3 rfl) ?_
    refine mi_iconst hx hb dJx4a65c_add_72be8_17 ?_
    refine mi_iadd hx hb dJx4a65c_add_72be8_18 ?_
    refine va_put (D := (dC, dI)) (ci := 0) (v := .int (iI (0 + 1))) (ty := .int) (C := RJx4a65c) (T := TJx4a65c) (N := 3) hx hb hts hi_Jx4a65c tyJx4a65c tyJx4a65c_ok nmJx4a65c hown hK hP hD hS 0 rfl rfl 2 (by decide) hf48 (fun _ h9 => h9) rfl (by decide +kernel) rfl rfl (Nat.le_of_ble_eq_true rfl) dJx4a65c_add_72be8_19 (fun H locs hP hD hS => ?_)
    have hP : va_P (dC, dI) vwCl [(h, .inr (0, [.int (iI cm), .ref k_2, .int (iI (0 + 1))])), (v, .inr (5, [.ref ch, .int (iI wh), .int (iI le), .int (iI ev), .int (iI ab), .int (iI li), .int (iI ti), .int (iI st), .int (iI row)])), (k_2, .inl (cO, 10, .inr (.inr (.inr (.inr (va_up (fun _ => none) 0 (some v)))))))] H := hP
    have hD : va_D A [(h, .inr (0, [.int (iI cm), .ref k_2, .int (iI (0 + 1))])), (v, .inr (5, [.ref ch, .int (iI wh), .int (iI le), .int (iI ev), .int (iI ab), .int (iI li), .int (iI ti), .int (iI st), .int (iI row)])), (k_2, .inl (cO, 10, .inr (.inr (.inr (.inr (va_up (fun _ => none) 0 (some v)))))))] := hD
    exact mi_vretX (k_2) hx hb hQ hr hlocks hAe hsz hP hD hS rfl dJx4a65c_add_72be8_22

set_option maxRecDepth 100000 in
set_option maxHeartbeats 4000000 in
theorem c_add0_5 (l : Launch) (dC : Nat → ClassId) (dI : Nat → Nat → Nat) (cI cO : ClassId) (h : Nat) (cm : Int) (v : Nat) (ch : Nat) (wh : Int) (le : Int) (ev : Int) (ab : Int) (li : Int) (ti : Int) (st : Int) (row : Int) (eZ : Nat) (sz : Nat) : Met l yJx4a65c_add_9ea2d wsJx4a65c_add_9ea2d ({ frames := 4, cells := 1, slots := 10, locals := 87 }) (mPcZ (dC, dI) [(cI, .int), (cO, .object "java/lang/Object")] eZ [.ref h, .ref v] sz [(h, .inr (0, [.int (iI cm), .ref eZ, .int (iI 0)])), (v, .inr (5, [.ref ch, .int (iI wh), .int (iI le), .int (iI ev), .int (iI ab), .int (iI li), .int (iI ti), .int (iI st), .int (iI row)]))]) (mQiX (dC, dI) [(h, .inr (0, [.int (iI cm), .ref eZ, .int (iI 0)])), (v, .inr (5, [.ref ch, .int (iI wh), .int (iI le), .int (iI ev), .int (iI ab), .int (iI li), .int (iI ti), .int (iI st), .int (iI row)]))] (fun (z9 : Nat) => [(h, .inr (0, [.int (iI (cm + 1)), .ref z9, .int (iI 1)])), (v, .inr (5, [.ref ch, .int (iI wh), .int (iI le), .int (iI ev), .int (iI ab), .int (iI li), .int (iI ti), .int (iI st), .int (iI row)])), (z9, .inl (cO, 10, .inr (.inr (.inr (.inr (va_up (fun _ => none) 0 (some v)))))))]) sz 1) 1 10 (va_A [(h, .inr (0, [.int (iI cm), .ref eZ, .int (iI 0)])), (v, .inr (5, [.ref ch, .int (iI wh), .int (iI le), .int (iI ev), .int (iI ab), .int (iI li), .int (iI ti), .int (iI st), .int (iI row)]))] sz) := by
  refine mMetZ (cc := cJx4a65c_add_9ea2d) (maxL := 2) (ret := (some .boolean)) (by decide) rfl (Nat.le_of_ble_eq_true rfl) ?_
  intro p e s m args below meth c A ls hx hb hr hts hown hlocks hin hml hAe hsz hA hD H hHe hP hK hZ hE hS hl Q hQ
  have hl : lv_has ls 2 [(0, .ref h), (1, .ref v)] := hl
  have hf63 := hts (.fieldLink RJx4a65c 63 "java/util/ArrayList" "modCount" "I") (by decide +kernel)
  have hs63 := hts (.sameField "java/util/ArrayList" "java/util/AbstractList" "modCount" "I") (by decide +kernel)
  have hi_Jx4a65c : ∀ w ∈ u_ws RJx4a65c TJx4a65c 3, w ∈ wsJx4a65c_add_9ea2d := by decide +kernel
  have hf9 := hts (.fieldLink RJx4a65c 9 "java/util/ArrayList" "elementData" "[Ljava/lang/Object;") (by decide +kernel)
  have hf48 := hts (.fieldLink RJx4a65c 48 "java/util/ArrayList" "size" "I") (by decide +kernel)
  refine lv_aload_n hx hb dJx4a65c_add_9ea2d_0 rfl (lv_at hl 0 rfl) ?_
  refine lv_dup hx hb dJx4a65c_add_9ea2d_1 rfl ?_
  refine va_get (ci := 0) (v := .int (iI cm)) (C := RJx4a65c) (T := TJx4a65c) (N := 3) hx hb hts hi_Jx4a65c hown hK hP 0 rfl rfl 0 (by decide) hf63 (fun x9 h9 => u_same hs63 x9 h9) rfl dJx4a65c_add_9ea2d_2 ?_
  refine mi_iconst hx hb dJx4a65c_add_9ea2d_5 ?_
  refine mi_iadd hx hb dJx4a65c_add_9ea2d_6 ?_
  refine va_put (D := (dC, dI)) (ci := 0) (v := .int (iI (cm + 1))) (ty := .int) (C := RJx4a65c) (T := TJx4a65c) (N := 3) hx hb hts hi_Jx4a65c tyJx4a65c tyJx4a65c_ok nmJx4a65c hown hK hP hD hS 0 rfl rfl 0 (by decide) hf63 (fun x9 h9 => u_same hs63 x9 h9) rfl (by decide +kernel) rfl rfl (Nat.le_of_ble_eq_true rfl) dJx4a65c_add_9ea2d_7 (fun H locs hP hD hS => ?_)
  have hP : va_P (dC, dI) vwCl [(h, .inr (0, [.int (iI (cm + 1)), .ref eZ, .int (iI 0)])), (v, .inr (5, [.ref ch, .int (iI wh), .int (iI le), .int (iI ev), .int (iI ab), .int (iI li), .int (iI ti), .int (iI st), .int (iI row)]))] H := hP
  have hD : va_D A [(h, .inr (0, [.int (iI (cm + 1)), .ref eZ, .int (iI 0)])), (v, .inr (5, [.ref ch, .int (iI wh), .int (iI le), .int (iI ev), .int (iI ab), .int (iI li), .int (iI ti), .int (iI st), .int (iI row)]))] := hD
  refine lv_aload_n hx hb dJx4a65c_add_9ea2d_10 rfl (lv_at hl 0 rfl) ?_
  refine lv_aload_n hx hb dJx4a65c_add_9ea2d_11 rfl (lv_at hl 1 rfl) ?_
  refine lv_aload_n hx hb dJx4a65c_add_9ea2d_12 rfl (lv_at hl 0 rfl) ?_
  refine va_get (ci := 0) (v := .ref eZ) (C := RJx4a65c) (T := TJx4a65c) (N := 3) hx hb hts hi_Jx4a65c hown hK hP 0 rfl rfl 1 (by decide) hf9 (fun _ h9 => h9) rfl dJx4a65c_add_9ea2d_13 ?_
  refine lv_aload_n hx hb dJx4a65c_add_9ea2d_16 rfl (lv_at hl 0 rfl) ?_
  refine va_get (ci := 0) (v := .int (iI 0)) (C := RJx4a65c) (T := TJx4a65c) (N := 3) hx hb hts hi_Jx4a65c hown hK hP 0 rfl rfl 2 (by decide) hf48 (fun _ h9 => h9) rfl dJx4a65c_add_9ea2d_17 ?_
  refine m_runvX (wc := [(h, .inr (0, [.int (iI (cm + 1)), .ref eZ, .int (iI 0)])), (v, .inr (5, [.ref ch, .int (iI wh), .int (iI le), .int (iI ev), .int (iI ab), .int (iI li), .int (iI ti), .int (iI st), .int (iI row)]))]) (wf := fun (k_1 : Nat) => [(h, .inr (0, [.int (iI (cm + 1)), .ref k_1, .int (iI (0 + 1))])), (v, .inr (5, [.ref ch, .int (iI wh), .int (iI le), .int (iI ev), .int (iI ab), .int (iI li), .int (iI ti), .int (iI st), .int (iI row)])), (k_1, .inl (cO, 10, .inr (.inr (.inr (.inr (va_up (fun _ => none) 0 (some v)))))))]) (wr := []) (ws' := fun (k_1 : Nat) => [(h, .inr (0, [.int (iI (cm + 1)), .ref k_1, .int (iI (0 + 1))])), (v, .inr (5, [.ref ch, .int (iI wh), .int (iI le), .int (iI ev), .int (iI ab), .int (iI li), .int (iI ti), .int (iI st), .int (iI row)])), (k_1, .inl (cO, 10, .inr (.inr (.inr (.inr (va_up (fun _ => none) 0 (some v)))))))]) (va_runV (As := [.ref v, .ref eZ, .int (iI 0)]) (rest := []) ⟨hx, hb, hml, hown, hts⟩ (c_addE0_5 l dC dI cI cO h (cm + 1) v ch wh le ev ab li ti st row eZ H.size ) (cwV 3 hts gJx4a65c_add_9ea2d_Jx4a65c_add_72be8 rfl rfl rfl (by decide +kernel) ⟨Nat.le_of_ble_eq_true rfl, Nat.le_of_ble_eq_true rfl⟩) (m_preVZ hE hS hA hZ hK hP hD [0, 1] rfl (by decide) (va_recv hK hP (ci := 0) (q0 := 0) rfl rfl)) rfl rfl hl.1 rfl (lv_room (Nat.le_of_ble_eq_true rfl)) dJx4a65c_add_9ea2d_20 ⟨Nat.le_of_ble_eq_true rfl, Nat.le_of_ble_eq_true rfl⟩) hP hD hS hA [0, 1] [] [0, 1, 2] rfl rfl (by decide) (by decide) (fun _ => rfl) (by decide) (fun k_1 H locs hP hD hS => ?_)
  have hP : va_P (dC, dI) vwCl [(h, .inr (0, [.int (iI (cm + 1)), .ref k_1, .int (iI (0 + 1))])), (v, .inr (5, [.ref ch, .int (iI wh), .int (iI le), .int (iI ev), .int (iI ab), .int (iI li), .int (iI ti), .int (iI st), .int (iI row)])), (k_1, .inl (cO, 10, .inr (.inr (.inr (.inr (va_up (fun _ => none) 0 (some v)))))))] H := hP
  have hD : va_D A [(h, .inr (0, [.int (iI (cm + 1)), .ref k_1, .int (iI (0 + 1))])), (v, .inr (5, [.ref ch, .int (iI wh), .int (iI le), .int (iI ev), .int (iI ab), .int (iI li), .int (iI ti), .int (iI st), .int (iI row)])), (k_1, .inl (cO, 10, .inr (.inr (.inr (.inr (va_up (fun _ => none) 0 (some v)))))))] := hD
  refine mi_iconst hx hb dJx4a65c_add_9ea2d_23 ?_
  exact mi_zretX (k_1) hx hb hQ hr hlocks hAe hsz hP hD hS (by decide) (by first | rfl | omega | (split <;> omega)) rfl dJx4a65c_add_9ea2d_24

set_option maxRecDepth 100000 in
set_option maxHeartbeats 4000000 in
theorem c_addE1_6 (l : Launch) (dC : Nat → ClassId) (dI : Nat → Nat → Nat) (cI cO : ClassId) (h : Nat) (cm : Int) (v : Nat) (one : Int) (oth : Int) (a1 : Nat) (a2 : Nat) (a3 : Nat) (ca : Nat) (f : Nat → Option Nat) (eZ : Nat) (sz : Nat) : Met l yJx4a65c_add_72be8 wsJx4a65c_add_72be8 ({ frames := 0, cells := 0, slots := 0, locals := 0 }) (mPcZ (dC, dI) [(cI, .int), (cO, .object "java/lang/Object")] eZ [.ref h, .ref v, .ref ca, .int (iI 1)] sz [(h, .inr (0, [.int (iI cm), .ref ca, .int (iI 1)])), (v, .inr (6, [.int (iI one), .int (iI oth), .ref a1, .ref a2, .ref a3])), (ca, .inl (cO, 10, .inr (.inr (.inr (.inr f)))))]) (mQv (dC, dI) [(h, .inr (0, [.int (iI cm), .ref ca, .int (iI 1)])), (v, .inr (6, [.int (iI one), .int (iI oth), .ref a1, .ref a2, .ref a3])), (ca, .inl (cO, 10, .inr (.inr (.inr (.inr f)))))] [(h, .inr (0, [.int (iI cm), .ref ca, .int (iI (1 + 1))])), (v, .inr (6, [.int (iI one), .int (iI oth), .ref a1, .ref a2, .ref a3])), (ca, .inl (cO, 10, .inr (.inr (.inr (.inr (va_up f 1 (some v)))))))] sz) 0 0 (va_A [(h, .inr (0, [.int (iI cm), .ref ca, .int (iI 1)])), (v, .inr (6, [.int (iI one), .int (iI oth), .ref a1, .ref a2, .ref a3])), (ca, .inl (cO, 10, .inr (.inr (.inr (.inr f)))))] sz) := by
  refine mMetZ (cc := cJx4a65c_add_72be8) (maxL := 4) (ret := none) (by decide) rfl (Nat.le_of_ble_eq_true rfl) ?_
  intro p e s m args below meth c A ls hx hb hr hts hown hlocks hin hml hAe hsz hA hD H hHe hP hK hZ hE hS hl Q hQ
  have hl : lv_has ls 4 [(0, .ref h), (1, .ref v), (2, .ref ca), (3, .int (iI 1))] := hl
  have hf48 := hts (.fieldLink RJx4a65c 48 "java/util/ArrayList" "size" "I") (by decide +kernel)
  have hi_Jx4a65c : ∀ w ∈ u_ws RJx4a65c TJx4a65c 3, w ∈ wsJx4a65c_add_72be8 := by decide +kernel
  refine lv_iload_n hx hb dJx4a65c_add_72be8_0 rfl (lv_at hl 3 rfl) ?_
  refine lv_aload_n hx hb dJx4a65c_add_72be8_1 rfl (lv_at hl 2 rfl) ?_
  refine mi_alen hx hb hK hP 2 1 rfl rfl dJx4a65c_add_72be8_2 ?_
  have eln : ((10 : Nat) : Int) = 10 := rfl
  rw [eln]
  refine mi_icmp_ne (tgt := 11) hx hb (by decide) (by decide) dJx4a65c_add_72be8_3 (by decide) (fun c_1 => ?_) (fun c_1 => ?_)
  · refine lv_aload_n hx hb dJx4a65c_add_72be8_11 rfl (lv_at hl 2 rfl) ?_
    refine lv_iload_n hx hb dJx4a65c_add_72be8_12 rfl (lv_at hl 3 rfl) ?_
    refine lv_aload_n hx hb dJx4a65c_add_72be8_13 rfl (lv_at hl 1 rfl) ?_
    refine mi_astq (ws' := [(h, .inr (0, [.int (iI cm), .ref ca, .int (iI 1)])), (v, .inr (6, [.int (iI one), .int (iI oth), .ref a1, .ref a2, .ref a3])), (ca, .inl (cO, 10, .inr (.inr (.inr (.inr (va_up f 1 (some v)))))))]) (k := 1) hx hb hK hP hD hS 2 1 6 rfl rfl hE.2.2.2.1 rfl rfl rfl (by decide) (by decide) rfl dJx4a65c_add_72be8_14 (fun H locs hP hD hS => ?_)
    refine lv_aload_n hx hb dJx4a65c_add_72be8_15 rfl (lv_at hl 0 rfl) ?_
    refine lv_iload_n hx hb dJx4a65c_add_72be8_16 rfl (lv_at hl 3 rfl) ?_
    refine mi_iconst hx hb dJx4a65c_add_72be8_17 ?_
    refine mi_iadd hx hb dJx4a65c_add_72be8_18 ?_
    refine va_put (D := (dC, dI)) (ci := 0) (v := .int (iI (1 + 1))) (ty := .int) (C := RJx4a65c) (T := TJx4a65c) (N := 3) hx hb hts hi_Jx4a65c tyJx4a65c tyJx4a65c_ok nmJx4a65c hown hK hP hD hS 0 rfl rfl 2 (by decide) hf48 (fun _ h9 => h9) rfl (by decide +kernel) rfl rfl (Nat.le_of_ble_eq_true rfl) dJx4a65c_add_72be8_19 (fun H locs hP hD hS => ?_)
    have hP : va_P (dC, dI) vwCl [(h, .inr (0, [.int (iI cm), .ref ca, .int (iI (1 + 1))])), (v, .inr (6, [.int (iI one), .int (iI oth), .ref a1, .ref a2, .ref a3])), (ca, .inl (cO, 10, .inr (.inr (.inr (.inr (va_up f 1 (some v)))))))] H := hP
    have hD : va_D A [(h, .inr (0, [.int (iI cm), .ref ca, .int (iI (1 + 1))])), (v, .inr (6, [.int (iI one), .int (iI oth), .ref a1, .ref a2, .ref a3])), (ca, .inl (cO, 10, .inr (.inr (.inr (.inr (va_up f 1 (some v)))))))] := hD
    exact mi_vret hx hb hQ hr hlocks hAe hsz hP hD hS rfl dJx4a65c_add_72be8_22
  · exfalso; omega

set_option maxRecDepth 100000 in
set_option maxHeartbeats 4000000 in
theorem c_add1_6 (l : Launch) (dC : Nat → ClassId) (dI : Nat → Nat → Nat) (cI cO : ClassId) (h : Nat) (cm : Int) (v : Nat) (one : Int) (oth : Int) (a1 : Nat) (a2 : Nat) (a3 : Nat) (ca : Nat) (f : Nat → Option Nat) (eZ : Nat) (sz : Nat) : Met l yJx4a65c_add_9ea2d wsJx4a65c_add_9ea2d ({ frames := 1, cells := 0, slots := 0, locals := 23 }) (mPcZ (dC, dI) [(cI, .int), (cO, .object "java/lang/Object")] eZ [.ref h, .ref v] sz [(h, .inr (0, [.int (iI cm), .ref ca, .int (iI 1)])), (v, .inr (6, [.int (iI one), .int (iI oth), .ref a1, .ref a2, .ref a3])), (ca, .inl (cO, 10, .inr (.inr (.inr (.inr f)))))]) (mQi (dC, dI) [(h, .inr (0, [.int (iI cm), .ref ca, .int (iI 1)])), (v, .inr (6, [.int (iI one), .int (iI oth), .ref a1, .ref a2, .ref a3])), (ca, .inl (cO, 10, .inr (.inr (.inr (.inr f)))))] [(h, .inr (0, [.int (iI (cm + 1)), .ref ca, .int (iI 2)])), (v, .inr (6, [.int (iI one), .int (iI oth), .ref a1, .ref a2, .ref a3])), (ca, .inl (cO, 10, .inr (.inr (.inr (.inr (va_up f 1 (some v)))))))] sz 1) 0 0 (va_A [(h, .inr (0, [.int (iI cm), .ref ca, .int (iI 1)])), (v, .inr (6, [.int (iI one), .int (iI oth), .ref a1, .ref a2, .ref a3])), (ca, .inl (cO, 10, .inr (.inr (.inr (.inr f)))))] sz) := by
  refine mMetZ (cc := cJx4a65c_add_9ea2d) (maxL := 2) (ret := (some .boolean)) (by decide) rfl (Nat.le_of_ble_eq_true rfl) ?_
  intro p e s m args below meth c A ls hx hb hr hts hown hlocks hin hml hAe hsz hA hD H hHe hP hK hZ hE hS hl Q hQ
  have hl : lv_has ls 2 [(0, .ref h), (1, .ref v)] := hl
  have hf63 := hts (.fieldLink RJx4a65c 63 "java/util/ArrayList" "modCount" "I") (by decide +kernel)
  have hs63 := hts (.sameField "java/util/ArrayList" "java/util/AbstractList" "modCount" "I") (by decide +kernel)
  have hi_Jx4a65c : ∀ w ∈ u_ws RJx4a65c TJx4a65c 3, w ∈ wsJx4a65c_add_9ea2d := by decide +kernel
  have hf9 := hts (.fieldLink RJx4a65c 9 "java/util/ArrayList" "elementData" "[Ljava/lang/Object;") (by decide +kernel)
  have hf48 := hts (.fieldLink RJx4a65c 48 "java/util/ArrayList" "size" "I") (by decide +kernel)
  refine lv_aload_n hx hb dJx4a65c_add_9ea2d_0 rfl (lv_at hl 0 rfl) ?_
  refine lv_dup hx hb dJx4a65c_add_9ea2d_1 rfl ?_
  refine va_get (ci := 0) (v := .int (iI cm)) (C := RJx4a65c) (T := TJx4a65c) (N := 3) hx hb hts hi_Jx4a65c hown hK hP 0 rfl rfl 0 (by decide) hf63 (fun x9 h9 => u_same hs63 x9 h9) rfl dJx4a65c_add_9ea2d_2 ?_
  refine mi_iconst hx hb dJx4a65c_add_9ea2d_5 ?_
  refine mi_iadd hx hb dJx4a65c_add_9ea2d_6 ?_
  refine va_put (D := (dC, dI)) (ci := 0) (v := .int (iI (cm + 1))) (ty := .int) (C := RJx4a65c) (T := TJx4a65c) (N := 3) hx hb hts hi_Jx4a65c tyJx4a65c tyJx4a65c_ok nmJx4a65c hown hK hP hD hS 0 rfl rfl 0 (by decide) hf63 (fun x9 h9 => u_same hs63 x9 h9) rfl (by decide +kernel) rfl rfl (Nat.le_of_ble_eq_true rfl) dJx4a65c_add_9ea2d_7 (fun H locs hP hD hS => ?_)
  have hP : va_P (dC, dI) vwCl [(h, .inr (0, [.int (iI (cm + 1)), .ref ca, .int (iI 1)])), (v, .inr (6, [.int (iI one), .int (iI oth), .ref a1, .ref a2, .ref a3])), (ca, .inl (cO, 10, .inr (.inr (.inr (.inr f)))))] H := hP
  have hD : va_D A [(h, .inr (0, [.int (iI (cm + 1)), .ref ca, .int (iI 1)])), (v, .inr (6, [.int (iI one), .int (iI oth), .ref a1, .ref a2, .ref a3])), (ca, .inl (cO, 10, .inr (.inr (.inr (.inr f)))))] := hD
  refine lv_aload_n hx hb dJx4a65c_add_9ea2d_10 rfl (lv_at hl 0 rfl) ?_
  refine lv_aload_n hx hb dJx4a65c_add_9ea2d_11 rfl (lv_at hl 1 rfl) ?_
  refine lv_aload_n hx hb dJx4a65c_add_9ea2d_12 rfl (lv_at hl 0 rfl) ?_
  refine va_get (ci := 0) (v := .ref ca) (C := RJx4a65c) (T := TJx4a65c) (N := 3) hx hb hts hi_Jx4a65c hown hK hP 0 rfl rfl 1 (by decide) hf9 (fun _ h9 => h9) rfl dJx4a65c_add_9ea2d_13 ?_
  refine lv_aload_n hx hb dJx4a65c_add_9ea2d_16 rfl (lv_at hl 0 rfl) ?_
  refine va_get (ci := 0) (v := .int (iI 1)) (C := RJx4a65c) (T := TJx4a65c) (N := 3) hx hb hts hi_Jx4a65c hown hK hP 0 rfl rfl 2 (by decide) hf48 (fun _ h9 => h9) rfl dJx4a65c_add_9ea2d_17 ?_
  refine m_runv (wc := [(h, .inr (0, [.int (iI (cm + 1)), .ref ca, .int (iI 1)])), (v, .inr (6, [.int (iI one), .int (iI oth), .ref a1, .ref a2, .ref a3])), (ca, .inl (cO, 10, .inr (.inr (.inr (.inr f)))))]) (wc' := [(h, .inr (0, [.int (iI (cm + 1)), .ref ca, .int (iI (1 + 1))])), (v, .inr (6, [.int (iI one), .int (iI oth), .ref a1, .ref a2, .ref a3])), (ca, .inl (cO, 10, .inr (.inr (.inr (.inr (va_up f 1 (some v)))))))]) (wr := []) (ws' := [(h, .inr (0, [.int (iI (cm + 1)), .ref ca, .int (iI (1 + 1))])), (v, .inr (6, [.int (iI one), .int (iI oth), .ref a1, .ref a2, .ref a3])), (ca, .inl (cO, 10, .inr (.inr (.inr (.inr (va_up f 1 (some v)))))))]) (va_runV (As := [.ref v, .ref ca, .int (iI 1)]) (rest := []) ⟨hx, hb, hml, hown, hts⟩ (c_addE1_6 l dC dI cI cO h (cm + 1) v one oth a1 a2 a3 ca f eZ H.size ) (cwV 3 hts gJx4a65c_add_9ea2d_Jx4a65c_add_72be8 rfl rfl rfl (by decide +kernel) ⟨Nat.le_of_ble_eq_true rfl, Nat.le_of_ble_eq_true rfl⟩) (m_preVZ hE hS hA hZ hK hP hD [0, 1, 2] rfl (by decide) (va_recv hK hP (ci := 0) (q0 := 0) rfl rfl)) rfl rfl hl.1 rfl (lv_room (Nat.le_of_ble_eq_true rfl)) dJx4a65c_add_9ea2d_20 ⟨Nat.le_of_ble_eq_true rfl, Nat.le_of_ble_eq_true rfl⟩) hP hD hS hA [0, 1, 2] [] [0, 1, 2] rfl rfl (by decide) (by decide) rfl (by decide) (fun H locs hP hD hS => ?_)
  refine mi_iconst hx hb dJx4a65c_add_9ea2d_23 ?_
  exact mi_zret hx hb hQ hr hlocks hAe hsz hP hD hS (by decide) (by first | rfl | omega | (split <;> omega)) rfl dJx4a65c_add_9ea2d_24
