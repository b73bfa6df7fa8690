set_option maxRecDepth 100000 in
set_option maxHeartbeats 4000000 in
theorem lw_init {p : Program} {l : Launch} {e : Env} {s : State} {m : MethodId} {args : Array Value} {below : List Frame} {meth : Method} {c : Code} {Q : State → Prop} {A : Nat → Prop} {dC : Nat → ClassId} {dI : Nat → Nat → Nat} {cI cO cJ : ClassId} {b : Nat} {xs : Nat → Int32} {eZ : Nat × Nat} {L : Nat} (C0 : LawC p l s m args c A dC dI cI cO cJ b L xs eZ) (K : ∀ (m0 g h ht pq cl rl lg clt rlt lgt qe qet mm st sl ul vl qo : Nat) (H : Heap) (locs : List Loc) (ls : Array Slot), va_P (dC, dI) vwCl (lwW cJ m0 g h ht pq cl rl lg clt rlt lgt qe qet mm st sl ul vl qo eZ) H → va_D A (lwW cJ m0 g h ht pq cl rl lg clt rlt lgt qe qet mm st sl ul vl qo eZ) → va_S A s.heap H locs → lv_has ls 9 [(0, .ref b), (1, .ref m0), (2, .ref mm), (3, .ref qo), (4, .int (iI 0))] → W p l e room_1 s m args below meth c H locs 20 242 Q (F0 m 23 ls [])) (H : Heap) (locs : List Loc) (ls : Array Slot) (hP : va_P (dC, dI) vwCl [] H) (hD : va_D A []) (hS : va_S A s.heap H locs) (hl : lv_has ls 9 [(0, .ref b)]) : W p l e room_1 s m args below meth c H locs 0 0 Q (F0 m 0 ls []) := by
  obtain ⟨hx, hb, hml, hts, hown, hK, hZ, hE, hA, hX9, hbl9, hbA9, hlT⟩ := id C0
  have hcl8 := hts (.classLink RL 8 RX9) (gm wg_691)
  have hitX9 := hts (.instantiable RX9 9) (gm wg_692)
  have hiniX9 := hts (.initialized RX9) (gm wg_22)
  have hcl110 := hts (.classLink RL 110 RX15) (gm wg_695)
  have hitX15 := hts (.instantiable RX15 7) (gm wg_696)
  have hiniX15 := hts (.initialized RX15) (gm wg_89)
  have harrJ := hts (.arrayClass .long) (gm wg_699)
  refine va_new (ci := 11) (fs := [.null, .null, .null, .null, .int (iI 0), .int (iI 0), .int (iI 0), .int (iI 0), .int (iI 0)]) (C := RX9) (T := TX9) (N := 9) hx hb hts (gh hg_X9) tyX9 tyX9_ok hown hcl8 hitX9 hiniX9 hK hP hD hS hA rfl (fun j hj => by rcases (show j = 0 ∨ j = 1 ∨ j = 2 ∨ j = 3 ∨ j = 4 ∨ j = 5 ∨ j = 6 ∨ j = 7 ∨ j = 8 by omega) with rfl | rfl | rfl | rfl | rfl | rfl | rfl | rfl | rfl <;> rfl) (Nat.le_of_ble_eq_true rfl) (Nat.le_of_ble_eq_true rfl) dL_law_0 (fun a_1 H hP hD hS => ?_)
  have hP : va_P (dC, dI) vwCl [(a_1, .inr (11, [.null, .null, .null, .null, .int (iI 0), .int (iI 0), .int (iI 0), .int (iI 0), .int (iI 0)]))] H := hP
  have hD : va_D A [(a_1, .inr (11, [.null, .null, .null, .null, .int (iI 0), .int (iI 0), .int (iI 0), .int (iI 0), .int (iI 0)]))] := hD
  refine lv_dup hx hb dL_law_3 rfl ?_
  refine m_runvX (wc := [(a_1, .inr (11, [.null, .null, .null, .null, .int (iI 0), .int (iI 0), .int (iI 0), .int (iI 0), .int (iI 0)]))]) (wf := fun (k_2 : Nat × Nat × Nat × Nat × Nat × Nat × Nat × Nat × Nat × Nat × Nat × Nat) => [(a_1, .inr (11, [.ref k_2.1, .ref k_2.2.1, .ref k_2.2.2.2.2.2.2.1, .ref k_2.2.2.2.2.2.2.2.2.2.2.2, .int (iI 0), .int (iI 10), .int (iI 1), .int (iI 0), .int (iI 0)])), (k_2.1, .inr (9, [.int (iI 8), .int (iI 10), .int (iI 6), .int (iI 0), .int (iI 0)])), (k_2.2.1, .inr (10, [.ref k_2.1, .ref k_2.2.2.1, .ref k_2.2.2.2.1, .ref k_2.2.2.2.2.1, .int (iI 0)])), (k_2.2.2.1, .inr (2, [.int (iI 0), .ref eZ.1, .int (iI 0)])), (k_2.2.2.2.1, .inr (2, [.int (iI 0), .ref eZ.1, .int (iI 0)])), (k_2.2.2.2.2.1, .inr (4, [.ref k_2.2.2.2.2.2.1, .int (iI 0), .int (iI 0)])), (k_2.2.2.2.2.2.2.1, .inr (10, [.ref k_2.1, .ref k_2.2.2.2.2.2.2.2.1, .ref k_2.2.2.2.2.2.2.2.2.1, .ref k_2.2.2.2.2.2.2.2.2.2.1, .int (iI 0)])), (k_2.2.2.2.2.2.2.2.1, .inr (2, [.int (iI 0), .ref eZ.1, .int (iI 0)])), (k_2.2.2.2.2.2.2.2.2.1, .inr (2, [.int (iI 0), .ref eZ.1, .int (iI 0)])), (k_2.2.2.2.2.2.2.2.2.2.1, .inr (4, [.ref k_2.2.2.2.2.2.2.2.2.2.2.1, .int (iI 0), .int (iI 0)]))]) (wr := []) (ws' := fun (k_2 : Nat × Nat × Nat × Nat × Nat × Nat × Nat × Nat × Nat × Nat × Nat × Nat) => [(a_1, .inr (11, [.ref k_2.1, .ref k_2.2.1, .ref k_2.2.2.2.2.2.2.1, .ref k_2.2.2.2.2.2.2.2.2.2.2.2, .int (iI 0), .int (iI 10), .int (iI 1), .int (iI 0), .int (iI 0)])), (k_2.1, .inr (9, [.int (iI 8), .int (iI 10), .int (iI 6), .int (iI 0), .int (iI 0)])), (k_2.2.1, .inr (10, [.ref k_2.1, .ref k_2.2.2.1, .ref k_2.2.2.2.1, .ref k_2.2.2.2.2.1, .int (iI 0)])), (k_2.2.2.1, .inr (2, [.int (iI 0), .ref eZ.1, .int (iI 0)])), (k_2.2.2.2.1, .inr (2, [.int (iI 0), .ref eZ.1, .int (iI 0)])), (k_2.2.2.2.2.1, .inr (4, [.ref k_2.2.2.2.2.2.1, .int (iI 0), .int (iI 0)])), (k_2.2.2.2.2.2.2.1, .inr (10, [.ref k_2.1, .ref k_2.2.2.2.2.2.2.2.1, .ref k_2.2.2.2.2.2.2.2.2.1, .ref k_2.2.2.2.2.2.2.2.2.2.1, .int (iI 0)])), (k_2.2.2.2.2.2.2.2.1, .inr (2, [.int (iI 0), .ref eZ.1, .int (iI 0)])), (k_2.2.2.2.2.2.2.2.2.1, .inr (2, [.int (iI 0), .ref eZ.1, .int (iI 0)])), (k_2.2.2.2.2.2.2.2.2.2.1, .inr (4, [.ref k_2.2.2.2.2.2.2.2.2.2.2.1, .int (iI 0), .int (iI 0)]))]) (va_runI (As := []) (rest := [.ref a_1]) ⟨hx, hb, hml, hown, hts⟩ (c_X9_init l dC dI cI cO cJ a_1 eZ H.size ) (cwI 0 hts (gI wg_328) rfl rfl rfl (hts (.initialized RX9) (gm wg_22)) (hts (.methodLink RL 109 yX9_init) (gm wg_693)) (hts (.instanceMethod yX9_init) (gm wg_694)) rfl (by decide +kernel) ⟨Nat.le_of_ble_eq_true rfl, Nat.le_of_ble_eq_true rfl⟩) (m_preSZ hE hS hA hZ hK hP hD [0] rfl (by decide)) rfl rfl hl.1 rfl (lv_room (Nat.le_of_ble_eq_true rfl)) dL_law_4 ⟨Nat.le_of_ble_eq_true rfl, Nat.le_of_ble_eq_true rfl⟩) hP hD hS hA [0] [] [0, 1, 2, 3, 4, 5, 6, 7, 8, 9] rfl rfl (by decide) (by decide) (fun _ => rfl) (by decide) (fun k_2 H locs hP hD hS => ?_)
  have hP : va_P (dC, dI) vwCl [(a_1, .inr (11, [.ref k_2.1, .ref k_2.2.1, .ref k_2.2.2.2.2.2.2.1, .ref k_2.2.2.2.2.2.2.2.2.2.2.2, .int (iI 0), .int (iI 10), .int (iI 1), .int (iI 0), .int (iI 0)])), (k_2.1, .inr (9, [.int (iI 8), .int (iI 10), .int (iI 6), .int (iI 0), .int (iI 0)])), (k_2.2.1, .inr (10, [.ref k_2.1, .ref k_2.2.2.1, .ref k_2.2.2.2.1, .ref k_2.2.2.2.2.1, .int (iI 0)])), (k_2.2.2.1, .inr (2, [.int (iI 0), .ref eZ.1, .int (iI 0)])), (k_2.2.2.2.1, .inr (2, [.int (iI 0), .ref eZ.1, .int (iI 0)])), (k_2.2.2.2.2.1, .inr (4, [.ref k_2.2.2.2.2.2.1, .int (iI 0), .int (iI 0)])), (k_2.2.2.2.2.2.2.1, .inr (10, [.ref k_2.1, .ref k_2.2.2.2.2.2.2.2.1, .ref k_2.2.2.2.2.2.2.2.2.1, .ref k_2.2.2.2.2.2.2.2.2.2.1, .int (iI 0)])), (k_2.2.2.2.2.2.2.2.1, .inr (2, [.int (iI 0), .ref eZ.1, .int (iI 0)])), (k_2.2.2.2.2.2.2.2.2.1, .inr (2, [.int (iI 0), .ref eZ.1, .int (iI 0)])), (k_2.2.2.2.2.2.2.2.2.2.1, .inr (4, [.ref k_2.2.2.2.2.2.2.2.2.2.2.1, .int (iI 0), .int (iI 0)]))] H := hP
  have hD : va_D A [(a_1, .inr (11, [.ref k_2.1, .ref k_2.2.1, .ref k_2.2.2.2.2.2.2.1, .ref k_2.2.2.2.2.2.2.2.2.2.2.2, .int (iI 0), .int (iI 10), .int (iI 1), .int (iI 0), .int (iI 0)])), (k_2.1, .inr (9, [.int (iI 8), .int (iI 10), .int (iI 6), .int (iI 0), .int (iI 0)])), (k_2.2.1, .inr (10, [.ref k_2.1, .ref k_2.2.2.1, .ref k_2.2.2.2.1, .ref k_2.2.2.2.2.1, .int (iI 0)])), (k_2.2.2.1, .inr (2, [.int (iI 0), .ref eZ.1, .int (iI 0)])), (k_2.2.2.2.1, .inr (2, [.int (iI 0), .ref eZ.1, .int (iI 0)])), (k_2.2.2.2.2.1, .inr (4, [.ref k_2.2.2.2.2.2.1, .int (iI 0), .int (iI 0)])), (k_2.2.2.2.2.2.2.1, .inr (10, [.ref k_2.1, .ref k_2.2.2.2.2.2.2.2.1, .ref k_2.2.2.2.2.2.2.2.2.1, .ref k_2.2.2.2.2.2.2.2.2.2.1, .int (iI 0)])), (k_2.2.2.2.2.2.2.2.1, .inr (2, [.int (iI 0), .ref eZ.1, .int (iI 0)])), (k_2.2.2.2.2.2.2.2.2.1, .inr (2, [.int (iI 0), .ref eZ.1, .int (iI 0)])), (k_2.2.2.2.2.2.2.2.2.2.1, .inr (4, [.ref k_2.2.2.2.2.2.2.2.2.2.2.1, .int (iI 0), .int (iI 0)]))] := hD
  obtain ⟨g, h, cl, rl, lg, qe, ht, clt, rlt, lgt, qet, pq⟩ := k_2
  have hP : va_P (dC, dI) vwCl [(a_1, .inr (11, [.ref g, .ref h, .ref ht, .ref pq, .int (iI 0), .int (iI 10), .int (iI 1), .int (iI 0), .int (iI 0)])), (g, .inr (9, [.int (iI 8), .int (iI 10), .int (iI 6), .int (iI 0), .int (iI 0)])), (h, .inr (10, [.ref g, .ref cl, .ref rl, .ref lg, .int (iI 0)])), (cl, .inr (2, [.int (iI 0), .ref eZ.1, .int (iI 0)])), (rl, .inr (2, [.int (iI 0), .ref eZ.1, .int (iI 0)])), (lg, .inr (4, [.ref qe, .int (iI 0), .int (iI 0)])), (ht, .inr (10, [.ref g, .ref clt, .ref rlt, .ref lgt, .int (iI 0)])), (clt, .inr (2, [.int (iI 0), .ref eZ.1, .int (iI 0)])), (rlt, .inr (2, [.int (iI 0), .ref eZ.1, .int (iI 0)])), (lgt, .inr (4, [.ref qet, .int (iI 0), .int (iI 0)]))] H := hP
  have hD : va_D A [(a_1, .inr (11, [.ref g, .ref h, .ref ht, .ref pq, .int (iI 0), .int (iI 10), .int (iI 1), .int (iI 0), .int (iI 0)])), (g, .inr (9, [.int (iI 8), .int (iI 10), .int (iI 6), .int (iI 0), .int (iI 0)])), (h, .inr (10, [.ref g, .ref cl, .ref rl, .ref lg, .int (iI 0)])), (cl, .inr (2, [.int (iI 0), .ref eZ.1, .int (iI 0)])), (rl, .inr (2, [.int (iI 0), .ref eZ.1, .int (iI 0)])), (lg, .inr (4, [.ref qe, .int (iI 0), .int (iI 0)])), (ht, .inr (10, [.ref g, .ref clt, .ref rlt, .ref lgt, .int (iI 0)])), (clt, .inr (2, [.int (iI 0), .ref eZ.1, .int (iI 0)])), (rlt, .inr (2, [.int (iI 0), .ref eZ.1, .int (iI 0)])), (lgt, .inr (4, [.ref qet, .int (iI 0), .int (iI 0)]))] := hD
  refine lv_astore_n (lv' := [(1, .ref a_1), (0, .ref b)]) hx hb dL_law_7 rfl hl (by decide) rfl (fun ls hl => ?_)
  refine va_new (ci := 17) (fs := [.int (iI 0), .int (iI 0), .int (iI 0), .int (iI 0), .int (iI 0), .int (iI 0), .null]) (C := RX15) (T := TX15) (N := 7) hx hb hts (gh hg_X15) tyX15 tyX15_ok hown hcl110 hitX15 hiniX15 hK hP hD hS hA rfl (fun j hj => by rcases (show j = 0 ∨ j = 1 ∨ j = 2 ∨ j = 3 ∨ j = 4 ∨ j = 5 ∨ j = 6 by omega) with rfl | rfl | rfl | rfl | rfl | rfl | rfl <;> rfl) (Nat.le_of_ble_eq_true rfl) (Nat.le_of_ble_eq_true rfl) dL_law_8 (fun a_3 H hP hD hS => ?_)
  have hP : va_P (dC, dI) vwCl [(a_1, .inr (11, [.ref g, .ref h, .ref ht, .ref pq, .int (iI 0), .int (iI 10), .int (iI 1), .int (iI 0), .int (iI 0)])), (g, .inr (9, [.int (iI 8), .int (iI 10), .int (iI 6), .int (iI 0), .int (iI 0)])), (h, .inr (10, [.ref g, .ref cl, .ref rl, .ref lg, .int (iI 0)])), (cl, .inr (2, [.int (iI 0), .ref eZ.1, .int (iI 0)])), (rl, .inr (2, [.int (iI 0), .ref eZ.1, .int (iI 0)])), (lg, .inr (4, [.ref qe, .int (iI 0), .int (iI 0)])), (ht, .inr (10, [.ref g, .ref clt, .ref rlt, .ref lgt, .int (iI 0)])), (clt, .inr (2, [.int (iI 0), .ref eZ.1, .int (iI 0)])), (rlt, .inr (2, [.int (iI 0), .ref eZ.1, .int (iI 0)])), (lgt, .inr (4, [.ref qet, .int (iI 0), .int (iI 0)])), (a_3, .inr (17, [.int (iI 0), .int (iI 0), .int (iI 0), .int (iI 0), .int (iI 0), .int (iI 0), .null]))] H := hP
  have hD : va_D A [(a_1, .inr (11, [.ref g, .ref h, .ref ht, .ref pq, .int (iI 0), .int (iI 10), .int (iI 1), .int (iI 0), .int (iI 0)])), (g, .inr (9, [.int (iI 8), .int (iI 10), .int (iI 6), .int (iI 0), .int (iI 0)])), (h, .inr (10, [.ref g, .ref cl, .ref rl, .ref lg, .int (iI 0)])), (cl, .inr (2, [.int (iI 0), .ref eZ.1, .int (iI 0)])), (rl, .inr (2, [.int (iI 0), .ref eZ.1, .int (iI 0)])), (lg, .inr (4, [.ref qe, .int (iI 0), .int (iI 0)])), (ht, .inr (10, [.ref g, .ref clt, .ref rlt, .ref lgt, .int (iI 0)])), (clt, .inr (2, [.int (iI 0), .ref eZ.1, .int (iI 0)])), (rlt, .inr (2, [.int (iI 0), .ref eZ.1, .int (iI 0)])), (lgt, .inr (4, [.ref qet, .int (iI 0), .int (iI 0)])), (a_3, .inr (17, [.int (iI 0), .int (iI 0), .int (iI 0), .int (iI 0), .int (iI 0), .int (iI 0), .null]))] := hD
  refine lv_dup hx hb dL_law_11 rfl ?_
  refine m_runvX (wc := [(a_3, .inr (17, [.int (iI 0), .int (iI 0), .int (iI 0), .int (iI 0), .int (iI 0), .int (iI 0), .null]))]) (wf := fun (k_4 : Nat × Nat × Nat × Nat) => [(a_3, .inr (17, [.int (iI 0), .int (iI 0), .int (iI 0), .int (iI 10), .int (iI 1), .int (iI 0), .ref k_4.1])), (k_4.1, .inr (16, [.ref k_4.2.1, .ref k_4.2.2.1, .ref k_4.2.2.2, .int (iI 0), .int (iI 8), .int (iI 10), .int (iI 6), .int (iI 0), .int (iI 0)])), (k_4.2.1, .inr (2, [.int (iI 0), .ref eZ.1, .int (iI 0)])), (k_4.2.2.1, .inr (2, [.int (iI 0), .ref eZ.1, .int (iI 0)])), (k_4.2.2.2, .inr (2, [.int (iI 0), .ref eZ.1, .int (iI 0)]))]) (wr := [(a_1, .inr (11, [.ref g, .ref h, .ref ht, .ref pq, .int (iI 0), .int (iI 10), .int (iI 1), .int (iI 0), .int (iI 0)])), (g, .inr (9, [.int (iI 8), .int (iI 10), .int (iI 6), .int (iI 0), .int (iI 0)])), (h, .inr (10, [.ref g, .ref cl, .ref rl, .ref lg, .int (iI 0)])), (cl, .inr (2, [.int (iI 0), .ref eZ.1, .int (iI 0)])), (rl, .inr (2, [.int (iI 0), .ref eZ.1, .int (iI 0)])), (lg, .inr (4, [.ref qe, .int (iI 0), .int (iI 0)])), (ht, .inr (10, [.ref g, .ref clt, .ref rlt, .ref lgt, .int (iI 0)])), (clt, .inr (2, [.int (iI 0), .ref eZ.1, .int (iI 0)])), (rlt, .inr (2, [.int (iI 0), .ref eZ.1, .int (iI 0)])), (lgt, .inr (4, [.ref qet, .int (iI 0), .int (iI 0)]))]) (ws' := fun (k_4 : Nat × Nat × Nat × Nat) => [(a_1, .inr (11, [.ref g, .ref h, .ref ht, .ref pq, .int (iI 0), .int (iI 10), .int (iI 1), .int (iI 0), .int (iI 0)])), (g, .inr (9, [.int (iI 8), .int (iI 10), .int (iI 6), .int (iI 0), .int (iI 0)])), (h, .inr (10, [.ref g, .ref cl, .ref rl, .ref lg, .int (iI 0)])), (cl, .inr (2, [.int (iI 0), .ref eZ.1, .int (iI 0)])), (rl, .inr (2, [.int (iI 0), .ref eZ.1, .int (iI 0)])), (lg, .inr (4, [.ref qe, .int (iI 0), .int (iI 0)])), (ht, .inr (10, [.ref g, .ref clt, .ref rlt, .ref lgt, .int (iI 0)])), (clt, .inr (2, [.int (iI 0), .ref eZ.1, .int (iI 0)])), (rlt, .inr (2, [.int (iI 0), .ref eZ.1, .int (iI 0)])), (lgt, .inr (4, [.ref qet, .int (iI 0), .int (iI 0)])), (a_3, .inr (17, [.int (iI 0), .int (iI 0), .int (iI 0), .int (iI 10), .int (iI 1), .int (iI 0), .ref k_4.1])), (k_4.1, .inr (16, [.ref k_4.2.1, .ref k_4.2.2.1, .ref k_4.2.2.2, .int (iI 0), .int (iI 8), .int (iI 10), .int (iI 6), .int (iI 0), .int (iI 0)])), (k_4.2.1, .inr (2, [.int (iI 0), .ref eZ.1, .int (iI 0)])), (k_4.2.2.1, .inr (2, [.int (iI 0), .ref eZ.1, .int (iI 0)])), (k_4.2.2.2, .inr (2, [.int (iI 0), .ref eZ.1, .int (iI 0)]))]) (va_runI (As := []) (rest := [.ref a_3]) ⟨hx, hb, hml, hown, hts⟩ (c_X15_init l dC dI cI cO cJ a_3 eZ H.size ) (cwI 0 hts (gI wg_351) rfl rfl rfl (hts (.initialized RX15) (gm wg_89)) (hts (.methodLink RL 112 yX15_init) (gm wg_697)) (hts (.instanceMethod yX15_init) (gm wg_698)) rfl (by decide +kernel) ⟨Nat.le_of_ble_eq_true rfl, Nat.le_of_ble_eq_true rfl⟩) (m_preSZ hE hS hA hZ hK hP hD [10] rfl (by decide)) rfl rfl hl.1 rfl (lv_room (Nat.le_of_ble_eq_true rfl)) dL_law_12 ⟨Nat.le_of_ble_eq_true rfl, Nat.le_of_ble_eq_true rfl⟩) hP hD hS hA [10] [0, 1, 2, 3, 4, 5, 6, 7, 8, 9] [0, 1, 2, 3, 4, 5, 6, 7, 8, 9, 10, 11, 12, 13, 14] rfl rfl (by decide) (by decide) (fun _ => rfl) (by decide) (fun k_4 H locs hP hD hS => ?_)
  have hP : va_P (dC, dI) vwCl [(a_1, .inr (11, [.ref g, .ref h, .ref ht, .ref pq, .int (iI 0), .int (iI 10), .int (iI 1), .int (iI 0), .int (iI 0)])), (g, .inr (9, [.int (iI 8), .int (iI 10), .int (iI 6), .int (iI 0), .int (iI 0)])), (h, .inr (10, [.ref g, .ref cl, .ref rl, .ref lg, .int (iI 0)])), (cl, .inr (2, [.int (iI 0), .ref eZ.1, .int (iI 0)])), (rl, .inr (2, [.int (iI 0), .ref eZ.1, .int (iI 0)])), (lg, .inr (4, [.ref qe, .int (iI 0), .int (iI 0)])), (ht, .inr (10, [.ref g, .ref clt, .ref rlt, .ref lgt, .int (iI 0)])), (clt, .inr (2, [.int (iI 0), .ref eZ.1, .int (iI 0)])), (rlt, .inr (2, [.int (iI 0), .ref eZ.1, .int (iI 0)])), (lgt, .inr (4, [.ref qet, .int (iI 0), .int (iI 0)])), (a_3, .inr (17, [.int (iI 0), .int (iI 0), .int (iI 0), .int (iI 10), .int (iI 1), .int (iI 0), .ref k_4.1])), (k_4.1, .inr (16, [.ref k_4.2.1, .ref k_4.2.2.1, .ref k_4.2.2.2, .int (iI 0), .int (iI 8), .int (iI 10), .int (iI 6), .int (iI 0), .int (iI 0)])), (k_4.2.1, .inr (2, [.int (iI 0), .ref eZ.1, .int (iI 0)])), (k_4.2.2.1, .inr (2, [.int (iI 0), .ref eZ.1, .int (iI 0)])), (k_4.2.2.2, .inr (2, [.int (iI 0), .ref eZ.1, .int (iI 0)]))] H := hP
  have hD : va_D A [(a_1, .inr (11, [.ref g, .ref h, .ref ht, .ref pq, .int (iI 0), .int (iI 10), .int (iI 1), .int (iI 0), .int (iI 0)])), (g, .inr (9, [.int (iI 8), .int (iI 10), .int (iI 6), .int (iI 0), .int (iI 0)])), (h, .inr (10, [.ref g, .ref cl, .ref rl, .ref lg, .int (iI 0)])), (cl, .inr (2, [.int (iI 0), .ref eZ.1, .int (iI 0)])), (rl, .inr (2, [.int (iI 0), .ref eZ.1, .int (iI 0)])), (lg, .inr (4, [.ref qe, .int (iI 0), .int (iI 0)])), (ht, .inr (10, [.ref g, .ref clt, .ref rlt, .ref lgt, .int (iI 0)])), (clt, .inr (2, [.int (iI 0), .ref eZ.1, .int (iI 0)])), (rlt, .inr (2, [.int (iI 0), .ref eZ.1, .int (iI 0)])), (lgt, .inr (4, [.ref qet, .int (iI 0), .int (iI 0)])), (a_3, .inr (17, [.int (iI 0), .int (iI 0), .int (iI 0), .int (iI 10), .int (iI 1), .int (iI 0), .ref k_4.1])), (k_4.1, .inr (16, [.ref k_4.2.1, .ref k_4.2.2.1, .ref k_4.2.2.2, .int (iI 0), .int (iI 8), .int (iI 10), .int (iI 6), .int (iI 0), .int (iI 0)])), (k_4.2.1, .inr (2, [.int (iI 0), .ref eZ.1, .int (iI 0)])), (k_4.2.2.1, .inr (2, [.int (iI 0), .ref eZ.1, .int (iI 0)])), (k_4.2.2.2, .inr (2, [.int (iI 0), .ref eZ.1, .int (iI 0)]))] := hD
  obtain ⟨st, sl, ul, vl⟩ := k_4
  have hP : va_P (dC, dI) vwCl [(a_1, .inr (11, [.ref g, .ref h, .ref ht, .ref pq, .int (iI 0), .int (iI 10), .int (iI 1), .int (iI 0), .int (iI 0)])), (g, .inr (9, [.int (iI 8), .int (iI 10), .int (iI 6), .int (iI 0), .int (iI 0)])), (h, .inr (10, [.ref g, .ref cl, .ref rl, .ref lg, .int (iI 0)])), (cl, .inr (2, [.int (iI 0), .ref eZ.1, .int (iI 0)])), (rl, .inr (2, [.int (iI 0), .ref eZ.1, .int (iI 0)])), (lg, .inr (4, [.ref qe, .int (iI 0), .int (iI 0)])), (ht, .inr (10, [.ref g, .ref clt, .ref rlt, .ref lgt, .int (iI 0)])), (clt, .inr (2, [.int (iI 0), .ref eZ.1, .int (iI 0)])), (rlt, .inr (2, [.int (iI 0), .ref eZ.1, .int (iI 0)])), (lgt, .inr (4, [.ref qet, .int (iI 0), .int (iI 0)])), (a_3, .inr (17, [.int (iI 0), .int (iI 0), .int (iI 0), .int (iI 10), .int (iI 1), .int (iI 0), .ref st])), (st, .inr (16, [.ref sl, .ref ul, .ref vl, .int (iI 0), .int (iI 8), .int (iI 10), .int (iI 6), .int (iI 0), .int (iI 0)])), (sl, .inr (2, [.int (iI 0), .ref eZ.1, .int (iI 0)])), (ul, .inr (2, [.int (iI 0), .ref eZ.1, .int (iI 0)])), (vl, .inr (2, [.int (iI 0), .ref eZ.1, .int (iI 0)]))] H := hP
  have hD : va_D A [(a_1, .inr (11, [.ref g, .ref h, .ref ht, .ref pq, .int (iI 0), .int (iI 10), .int (iI 1), .int (iI 0), .int (iI 0)])), (g, .inr (9, [.int (iI 8), .int (iI 10), .int (iI 6), .int (iI 0), .int (iI 0)])), (h, .inr (10, [.ref g, .ref cl, .ref rl, .ref lg, .int (iI 0)])), (cl, .inr (2, [.int (iI 0), .ref eZ.1, .int (iI 0)])), (rl, .inr (2, [.int (iI 0), .ref eZ.1, .int (iI 0)])), (lg, .inr (4, [.ref qe, .int (iI 0), .int (iI 0)])), (ht, .inr (10, [.ref g, .ref clt, .ref rlt, .ref lgt, .int (iI 0)])), (clt, .inr (2, [.int (iI 0), .ref eZ.1, .int (iI 0)])), (rlt, .inr (2, [.int (iI 0), .ref eZ.1, .int (iI 0)])), (lgt, .inr (4, [.ref qet, .int (iI 0), .int (iI 0)])), (a_3, .inr (17, [.int (iI 0), .int (iI 0), .int (iI 0), .int (iI 10), .int (iI 1), .int (iI 0), .ref st])), (st, .inr (16, [.ref sl, .ref ul, .ref vl, .int (iI 0), .int (iI 8), .int (iI 10), .int (iI 6), .int (iI 0), .int (iI 0)])), (sl, .inr (2, [.int (iI 0), .ref eZ.1, .int (iI 0)])), (ul, .inr (2, [.int (iI 0), .ref eZ.1, .int (iI 0)])), (vl, .inr (2, [.int (iI 0), .ref eZ.1, .int (iI 0)]))] := hD
  refine lv_astore_n (lv' := [(2, .ref a_3), (1, .ref a_1), (0, .ref b)]) hx hb dL_law_15 rfl hl (by decide) rfl (fun ls hl => ?_)
  refine mi_iconst hx hb dL_law_16 ?_
  refine mi_newl hx hb harrJ hK rfl hP hD hS hA (Nat.le_of_ble_eq_true rfl) (Nat.le_of_ble_eq_true rfl) dL_law_17 (fun a_5 H hP hD hS => ?_)
  have hP : va_P (dC, dI) vwCl [(a_1, .inr (11, [.ref g, .ref h, .ref ht, .ref pq, .int (iI 0), .int (iI 10), .int (iI 1), .int (iI 0), .int (iI 0)])), (g, .inr (9, [.int (iI 8), .int (iI 10), .int (iI 6), .int (iI 0), .int (iI 0)])), (h, .inr (10, [.ref g, .ref cl, .ref rl, .ref lg, .int (iI 0)])), (cl, .inr (2, [.int (iI 0), .ref eZ.1, .int (iI 0)])), (rl, .inr (2, [.int (iI 0), .ref eZ.1, .int (iI 0)])), (lg, .inr (4, [.ref qe, .int (iI 0), .int (iI 0)])), (ht, .inr (10, [.ref g, .ref clt, .ref rlt, .ref lgt, .int (iI 0)])), (clt, .inr (2, [.int (iI 0), .ref eZ.1, .int (iI 0)])), (rlt, .inr (2, [.int (iI 0), .ref eZ.1, .int (iI 0)])), (lgt, .inr (4, [.ref qet, .int (iI 0), .int (iI 0)])), (a_3, .inr (17, [.int (iI 0), .int (iI 0), .int (iI 0), .int (iI 10), .int (iI 1), .int (iI 0), .ref st])), (st, .inr (16, [.ref sl, .ref ul, .ref vl, .int (iI 0), .int (iI 8), .int (iI 10), .int (iI 6), .int (iI 0), .int (iI 0)])), (sl, .inr (2, [.int (iI 0), .ref eZ.1, .int (iI 0)])), (ul, .inr (2, [.int (iI 0), .ref eZ.1, .int (iI 0)])), (vl, .inr (2, [.int (iI 0), .ref eZ.1, .int (iI 0)])), (a_5, .inl (cJ, 1, .inr (.inl (lI 0))))] H := hP
  have hD : va_D A [(a_1, .inr (11, [.ref g, .ref h, .ref ht, .ref pq, .int (iI 0), .int (iI 10), .int (iI 1), .int (iI 0), .int (iI 0)])), (g, .inr (9, [.int (iI 8), .int (iI 10), .int (iI 6), .int (iI 0), .int (iI 0)])), (h, .inr (10, [.ref g, .ref cl, .ref rl, .ref lg, .int (iI 0)])), (cl, .inr (2, [.int (iI 0), .ref eZ.1, .int (iI 0)])), (rl, .inr (2, [.int (iI 0), .ref eZ.1, .int (iI 0)])), (lg, .inr (4, [.ref qe, .int (iI 0), .int (iI 0)])), (ht, .inr (10, [.ref g, .ref clt, .ref rlt, .ref lgt, .int (iI 0)])), (clt, .inr (2, [.int (iI 0), .ref eZ.1, .int (iI 0)])), (rlt, .inr (2, [.int (iI 0), .ref eZ.1, .int (iI 0)])), (lgt, .inr (4, [.ref qet, .int (iI 0), .int (iI 0)])), (a_3, .inr (17, [.int (iI 0), .int (iI 0), .int (iI 0), .int (iI 10), .int (iI 1), .int (iI 0), .ref st])), (st, .inr (16, [.ref sl, .ref ul, .ref vl, .int (iI 0), .int (iI 8), .int (iI 10), .int (iI 6), .int (iI 0), .int (iI 0)])), (sl, .inr (2, [.int (iI 0), .ref eZ.1, .int (iI 0)])), (ul, .inr (2, [.int (iI 0), .ref eZ.1, .int (iI 0)])), (vl, .inr (2, [.int (iI 0), .ref eZ.1, .int (iI 0)])), (a_5, .inl (cJ, 1, .inr (.inl (lI 0))))] := hD
  refine lv_astore_n (lv' := [(3, .ref a_5), (2, .ref a_3), (1, .ref a_1), (0, .ref b)]) hx hb dL_law_19 rfl hl (by decide) rfl (fun ls hl => ?_)
  refine mi_iconst hx hb dL_law_20 ?_
  refine lv_istore (lv' := [(4, .int (iI 0)), (3, .ref a_5), (2, .ref a_3), (1, .ref a_1), (0, .ref b)]) hx hb dL_law_21 hl (by decide) rfl (fun ls hl => ?_)
  exact K a_1 g h ht pq cl rl lg clt rlt lgt qe qet a_3 st sl ul vl a_5 _ _ _ hP hD hS (lv_sub hl [4, 3, 2, 1, 0] rfl)

set_option maxRecDepth 100000 in
set_option maxHeartbeats 4000000 in
theorem lw_cases {p : Program} {l : Launch} {e : Env} {s : State} {m : MethodId} {args : Array Value} {below : List Frame} {meth : Method} {c : Code} {Q : State → Prop} {A : Nat → Prop} {dC : Nat → ClassId} {dI : Nat → Nat → Nat} {cI cO cJ : ClassId} {b : Nat} {xs : Nat → Int32} {eZ : Nat × Nat} (C0 : LawC p l s m args c A dC dI cI cO cJ b 8 xs eZ) (m0 : Nat) (g : Nat) (h : Nat) (ht : Nat) (pq : Nat) (cl : Nat) (rl : Nat) (lg : Nat) (clt : Nat) (rlt : Nat) (lgt : Nat) (qe : Nat) (qet : Nat) (mm : Nat) (st : Nat) (sl : Nat) (ul : Nat) (vl : Nat) (qo : Nat) (z : Int) (hz : rI z) (K : ∀ (H : Heap) (locs : List Loc) (ls : Array Slot), va_S A s.heap H locs → lv_has ls 9 [(0, .ref b), (4, .int (iI 0))] → W p l e room_1 s m args below meth c H locs 100 10000 Q (F0 m 2421 ls [])) (H : Heap) (locs : List Loc) (ls : Array Slot) (hP : va_P (dC, dI) vwCl (lwW cJ m0 g h ht pq cl rl lg clt rlt lgt qe qet mm st sl ul vl qo eZ) H) (hD : va_D A (lwW cJ m0 g h ht pq cl rl lg clt rlt lgt qe qet mm st sl ul vl qo eZ)) (hS : va_S A s.heap H locs) (hl : lv_has ls 9 [(0, .ref b), (1, .ref m0), (2, .ref mm), (3, .ref qo), (4, .int (iI 0))]) : W p l e room_1 s m args below meth c H locs 20 242 Q (F0 m 40 ls [.int (iI z)]) := by
  obtain ⟨hx, hb, -⟩ := id C0
  by_cases e0 : z = 0
  · refine mi_tswAt (v := 0) (tgt := 192) hx hb dL_law_40 (by decide) (by decide) (by decide) e0 rfl (by decide) ?_
    by_cases g9 : (0 ≤ zx xs 1 ∧ zx xs 1 ≤ 9) ∧ 0 ≤ zx xs 2 ∧ zx xs 2 ≤ 9
    · exact lc_addSeries_c C0 m0 g h ht pq cl rl lg clt rlt lgt qe qet mm st sl ul vl qo g9 K H locs ls hP hD hS hl
    · exact lc_addSeries_x C0 m0 g h ht pq cl rl lg clt rlt lgt qe qet mm st sl ul vl qo g9 K H locs ls hP hD hS hl
  by_cases e1 : z = 1
  · refine mi_tswAt (v := 1) (tgt := 260) hx hb dL_law_40 (by decide) (by decide) (by decide) e1 rfl (by decide) ?_
    by_cases g9 : 2 ≤ zx xs 1 ∧ zx xs 1 ≤ 16
    · exact lc_setSpan_c C0 m0 g h ht pq cl rl lg clt rlt lgt qe qet mm st sl ul vl qo g9 K H locs ls hP hD hS hl
    · exact lc_setSpan_x C0 m0 g h ht pq cl rl lg clt rlt lgt qe qet mm st sl ul vl qo g9 K H locs ls hP hD hS hl
  by_cases e2 : z = 2
  · refine mi_tswAt (v := 2) (tgt := 316) hx hb dL_law_40 (by decide) (by decide) (by decide) e2 rfl (by decide) ?_
    by_cases g9 : (2 ≤ zx xs 1 ∧ zx xs 1 ≤ 100) ∧ 2 ≤ zx xs 2 ∧ zx xs 2 ≤ 20
    · exact lc_setWidths_c C0 m0 g h ht pq cl rl lg clt rlt lgt qe qet mm st sl ul vl qo g9 K H locs ls hP hD hS hl
    · exact lc_setWidths_x C0 m0 g h ht pq cl rl lg clt rlt lgt qe qet mm st sl ul vl qo g9 K H locs ls hP hD hS hl
  by_cases e3 : z = 3
  · refine mi_tswAt (v := 3) (tgt := 384) hx hb dL_law_40 (by decide) (by decide) (by decide) e3 rfl (by decide) ?_
    by_cases g9 : (0 ≤ zx xs 1 ∧ zx xs 1 ≤ 10000) ∧ 0 ≤ zx xs 2 ∧ zx xs 2 ≤ 10000
    · exact lc_setKeep_c C0 m0 g h ht pq cl rl lg clt rlt lgt qe qet mm st sl ul vl qo g9 K H locs ls hP hD hS hl
    · exact lc_setKeep_x C0 m0 g h ht pq cl rl lg clt rlt lgt qe qet mm st sl ul vl qo g9 K H locs ls hP hD hS hl
  by_cases e4 : z = 4
  · refine mi_tswAt (v := 4) (tgt := 452) hx hb dL_law_40 (by decide) (by decide) (by decide) e4 rfl (by decide) ?_
    by_cases g9 : ((0 ≤ zx xs 1 ∧ zx xs 1 ≤ 99999) ∧ 1 ≤ zx xs 2 ∧ zx xs 2 ≤ 10000) ∧ (0 ≤ zx xs 3 ∧ zx xs 3 ≤ 7) ∧ 0 ≤ zx xs 4 ∧ zx xs 4 ≤ 3
    · exact lc_setQuery_c C0 m0 g h ht pq cl rl lg clt rlt lgt qe qet mm st sl ul vl qo g9 K H locs ls hP hD hS hl
    · exact lc_setQuery_x C0 m0 g h ht pq cl rl lg clt rlt lgt qe qet mm st sl ul vl qo g9 K H locs ls hP hD hS hl
  by_cases e5 : z = 5
  · refine mi_tswAt (v := 5) (tgt := 544) hx hb dL_law_40 (by decide) (by decide) (by decide) e5 rfl (by decide) ?_
    exact lc_put C0 m0 g h ht pq cl rl lg clt rlt lgt qe qet mm st sl ul vl qo K H locs ls hP hD hS hl
  by_cases e6 : z = 6
  · refine mi_tswAt (v := 6) (tgt := 624) hx hb dL_law_40 (by decide) (by decide) (by decide) e6 rfl (by decide) ?_
    exact lc_putRow C0 m0 g h ht pq cl rl lg clt rlt lgt qe qet mm st sl ul vl qo K H locs ls hP hD hS hl
  by_cases e7 : z = 7
  · refine mi_tswAt (v := 7) (tgt := 742) hx hb dL_law_40 (by decide) (by decide) (by decide) e7 rfl (by decide) ?_
    by_cases g9 : 1 ≤ zx xs 1 ∧ zx xs 1 ≤ 100
    · exact lc_goOn_c C0 m0 g h ht pq cl rl lg clt rlt lgt qe qet mm st sl ul vl qo g9 K H locs ls hP hD hS hl
    · exact lc_goOn_x C0 m0 g h ht pq cl rl lg clt rlt lgt qe qet mm st sl ul vl qo g9 K H locs ls hP hD hS hl
  by_cases e8 : z = 8
  · refine mi_tswAt (v := 8) (tgt := 798) hx hb dL_law_40 (by decide) (by decide) (by decide) e8 rfl (by decide) ?_
    exact lc_now C0 m0 g h ht pq cl rl lg clt rlt lgt qe qet mm st sl ul vl qo K H locs ls hP hD hS hl
  by_cases e9 : z = 9
  · refine mi_tswAt (v := 9) (tgt := 811) hx hb dL_law_40 (by decide) (by decide) (by decide) e9 rfl (by decide) ?_
    exact lc_series C0 m0 g h ht pq cl rl lg clt rlt lgt qe qet mm st sl ul vl qo K H locs ls hP hD hS hl
  by_cases e10 : z = 10
  · refine mi_tswAt (v := 10) (tgt := 824) hx hb dL_law_40 (by decide) (by decide) (by decide) e10 rfl (by decide) ?_
    exact lc_late C0 m0 g h ht pq cl rl lg clt rlt lgt qe qet mm st sl ul vl qo K H locs ls hP hD hS hl
  by_cases e11 : z = 11
  · refine mi_tswAt (v := 11) (tgt := 837) hx hb dL_law_40 (by decide) (by decide) (by decide) e11 rfl (by decide) ?_
    exact lc_blocks C0 m0 g h ht pq cl rl lg clt rlt lgt qe qet mm st sl ul vl qo K H locs ls hP hD hS hl
  by_cases e12 : z = 12
  · refine mi_tswAt (v := 12) (tgt := 893) hx hb dL_law_40 (by decide) (by decide) (by decide) e12 rfl (by decide) ?_
    exact lc_size C0 m0 g h ht pq cl rl lg clt rlt lgt qe qet mm st sl ul vl qo K H locs ls hP hD hS hl
  by_cases e13 : z = 13
  · refine mi_tswAt (v := 13) (tgt := 961) hx hb dL_law_40 (by decide) (by decide) (by decide) e13 rfl (by decide) ?_
    exact lc_point C0 m0 g h ht pq cl rl lg clt rlt lgt qe qet mm st sl ul vl qo K H locs ls hP hD hS hl
  by_cases e14 : z = 14
  · refine mi_tswAt (v := 14) (tgt := 1069) hx hb dL_law_40 (by decide) (by decide) (by decide) e14 rfl (by decide) ?_
    exact lc_bits C0 m0 g h ht pq cl rl lg clt rlt lgt qe qet mm st sl ul vl qo K H locs ls hP hD hS hl
  by_cases e15 : z = 15
  · refine mi_tswAt (v := 15) (tgt := 1137) hx hb dL_law_40 (by decide) (by decide) (by decide) e15 rfl (by decide) ?_
    exact lc_word C0 m0 g h ht pq cl rl lg clt rlt lgt qe qet mm st sl ul vl qo K H locs ls hP hD hS hl
  by_cases e16 : z = 16
  · refine mi_tswAt (v := 16) (tgt := 1217) hx hb dL_law_40 (by decide) (by decide) (by decide) e16 rfl (by decide) ?_
    exact lc_buckets C0 m0 g h ht pq cl rl lg clt rlt lgt qe qet mm st sl ul vl qo K H locs ls hP hD hS hl
  by_cases e17 : z = 17
  · refine mi_tswAt (v := 17) (tgt := 1301) hx hb dL_law_40 (by decide) (by decide) (by decide) e17 rfl (by decide) ?_
    exact lc_ofBucket C0 m0 g h ht pq cl rl lg clt rlt lgt qe qet mm st sl ul vl qo K H locs ls hP hD hS hl
  by_cases e18 : z = 18
  · refine mi_tswAt (v := 18) (tgt := 1409) hx hb dL_law_40 (by decide) (by decide) (by decide) e18 rfl (by decide) ?_
    exact lc_items C0 m0 g h ht pq cl rl lg clt rlt lgt qe qet mm st sl ul vl qo K H locs ls hP hD hS hl
  by_cases e19 : z = 19
  · refine mi_tswAt (v := 19) (tgt := 1465) hx hb dL_law_40 (by decide) (by decide) (by decide) e19 rfl (by decide) ?_
    exact lc_ratio C0 m0 g h ht pq cl rl lg clt rlt lgt qe qet mm st sl ul vl qo K H locs ls hP hD hS hl
  by_cases e20 : z = 20
  · refine mi_tswAt (v := 20) (tgt := 1506) hx hb dL_law_40 (by decide) (by decide) (by decide) e20 rfl (by decide) ?_
    exact lc_ask C0 m0 g h ht pq cl rl lg clt rlt lgt qe qet mm st sl ul vl qo K H locs ls hP hD hS hl
  by_cases e21 : z = 21
  · refine mi_tswAt (v := 21) (tgt := 1574) hx hb dL_law_40 (by decide) (by decide) (by decide) e21 rfl (by decide) ?_
    by_cases g9 : ((0 ≤ zx xs 2 ∧ zx xs 2 ≤ 9) ∧ 0 ≤ zx xs 3 ∧ zx xs 3 ≤ 3) ∧ 0 ≤ zx xs 4 ∧ zx xs 4 ≤ 1000
    · exact lc_over_c C0 m0 g h ht pq cl rl lg clt rlt lgt qe qet mm st sl ul vl qo g9 K H locs ls hP hD hS hl
    · exact lc_over_x C0 m0 g h ht pq cl rl lg clt rlt lgt qe qet mm st sl ul vl qo g9 K H locs ls hP hD hS hl
  by_cases e22 : z = 22
  · refine mi_tswAt (v := 22) (tgt := 1682) hx hb dL_law_40 (by decide) (by decide) (by decide) e22 rfl (by decide) ?_
    exact lc_gaps C0 m0 g h ht pq cl rl lg clt rlt lgt qe qet mm st sl ul vl qo K H locs ls hP hD hS hl
  by_cases e23 : z = 23
  · refine mi_tswAt (v := 23) (tgt := 1750) hx hb dL_law_40 (by decide) (by decide) (by decide) e23 rfl (by decide) ?_
    exact lc_lastAt C0 m0 g h ht pq cl rl lg clt rlt lgt qe qet mm st sl ul vl qo K H locs ls hP hD hS hl
  by_cases e24 : z = 24
  · refine mi_tswAt (v := 24) (tgt := 1818) hx hb dL_law_40 (by decide) (by decide) (by decide) e24 rfl (by decide) ?_
    exact lc_addRule C0 m0 g h ht pq cl rl lg clt rlt lgt qe qet mm st sl ul vl qo K H locs ls hP hD hS hl
  by_cases e25 : z = 25
  · refine mi_tswAt (v := 25) (tgt := 1966) hx hb dL_law_40 (by decide) (by decide) (by decide) e25 rfl (by decide) ?_
    exact lc_stateOf C0 m0 g h ht pq cl rl lg clt rlt lgt qe qet mm st sl ul vl qo K H locs ls hP hD hS hl
  by_cases e26 : z = 26
  · refine mi_tswAt (v := 26) (tgt := 2022) hx hb dL_law_40 (by decide) (by decide) (by decide) e26 rfl (by decide) ?_
    exact lc_inRow C0 m0 g h ht pq cl rl lg clt rlt lgt qe qet mm st sl ul vl qo K H locs ls hP hD hS hl
  by_cases e27 : z = 27
  · refine mi_tswAt (v := 27) (tgt := 2078) hx hb dL_law_40 (by decide) (by decide) (by decide) e27 rfl (by decide) ?_
    exact lc_seenBy C0 m0 g h ht pq cl rl lg clt rlt lgt qe qet mm st sl ul vl qo K H locs ls hP hD hS hl
  by_cases e28 : z = 28
  · refine mi_tswAt (v := 28) (tgt := 2134) hx hb dL_law_40 (by decide) (by decide) (by decide) e28 rfl (by decide) ?_
    exact lc_events C0 m0 g h ht pq cl rl lg clt rlt lgt qe qet mm st sl ul vl qo K H locs ls hP hD hS hl
  by_cases e29 : z = 29
  · refine mi_tswAt (v := 29) (tgt := 2147) hx hb dL_law_40 (by decide) (by decide) (by decide) e29 rfl (by decide) ?_
    exact lc_event C0 m0 g h ht pq cl rl lg clt rlt lgt qe qet mm st sl ul vl qo K H locs ls hP hD hS hl
  by_cases e30 : z = 30
  · refine mi_tswAt (v := 30) (tgt := 2215) hx hb dL_law_40 (by decide) (by decide) (by decide) e30 rfl (by decide) ?_
    exact lc_bitsWith C0 m0 g h ht pq cl rl lg clt rlt lgt qe qet mm st sl ul vl qo K H locs ls hP hD hS hl
  by_cases e31 : z = 31
  · refine mi_tswAt (v := 31) (tgt := 2295) hx hb dL_law_40 (by decide) (by decide) (by decide) e31 rfl (by decide) ?_
    by_cases g9 : 1 ≤ zx xs 1 ∧ zx xs 1 ≤ 100
    · exact lc_firesIn_c C0 m0 g h ht pq cl rl lg clt rlt lgt qe qet mm st sl ul vl qo g9 K H locs ls hP hD hS hl
    · exact lc_firesIn_x C0 m0 g h ht pq cl rl lg clt rlt lgt qe qet mm st sl ul vl qo g9 K H locs ls hP hD hS hl
  by_cases e32 : z = 32
  · refine mi_tswAt (v := 32) (tgt := 2351) hx hb dL_law_40 (by decide) (by decide) (by decide) e32 rfl (by decide) ?_
    by_cases g9 : 0 ≤ zx xs 1 ∧ zx xs 1 ≤ 10000
    · exact lc_wouldRoll_c C0 m0 g h ht pq cl rl lg clt rlt lgt qe qet mm st sl ul vl qo g9 K H locs ls hP hD hS hl
    · exact lc_wouldRoll_x C0 m0 g h ht pq cl rl lg clt rlt lgt qe qet mm st sl ul vl qo g9 K H locs ls hP hD hS hl
  by_cases e33 : z = 33
  · refine mi_tswAt (v := 33) (tgt := 2407) hx hb dL_law_40 (by decide) (by decide) (by decide) e33 rfl (by decide) ?_
    exact lc_digest C0 m0 g h ht pq cl rl lg clt rlt lgt qe qet mm st sl ul vl qo K H locs ls hP hD hS hl
  refine mi_tswOut (tgt := 2421) hx hb dL_law_40 hz (by omega) (by decide) ?_
  exact W.widen (k := 100) (n := 10000) (by omega) (by omega) (K _ _ _ hS (lv_sub hl [0, 4] rfl))
