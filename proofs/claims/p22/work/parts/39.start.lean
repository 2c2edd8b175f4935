set_option maxRecDepth 100000 in
set_option maxHeartbeats 16000000 in
theorem law_start {p : Program} {e : Env} {s : State} {m : MethodId} {below : List Frame} {meth : Method} {c : Code} (l : Launch) (hfl : l.stackTraces = false) (G : GG) (b0 : Nat) {b L : Nat} {xs : Nat → Int32} (hM : CallFix p m c cL_law 30 s #[Value.ref b] wsL_law RL) (hN : NcX s) (hX : va_X b L xs s s.heap) (hbA : ¬ b0 ≤ b) (hbl : b < s.heap.size) (hL : L ≤ 260) (hret : meth.sig.returnType = ret) (hlk : meth.locks = false) (hb0 : s.heap.size ≤ b0) (ad : AD) (T : TT) (P : PP) (hC : Cur G b0 ([], ad, T, P) s s.heap []) : W p l e room_1 s m #[Value.ref b] below meth c s.heap [] 0 0 (lw_Z below #[Value.ref b] s) (entryFrame m ([Value.ref b] : List Value).toArray 30) := by
  have hl := lv_entry ([.ref b]) (n := 30) (Nat.le_of_ble_eq_true rfl)
  rw [lg_entry_eq]
  generalize (lg_sl ([.ref b]) ++ List.replicate (30 - (lg_sl ([.ref b])).length) Slot.unset).toArray = ls at hl ⊢
  have hl : lv_has ls 30 [(0, .ref b)] := hl
  refine y_new hM hC (t := 0) (i := 0) (by decide) rfl (by decide +kernel) tyX3 tyX3_ok ⟨(by decide +kernel), (by decide +kernel), (by decide +kernel)⟩ (fs := [.null, .null, .null, .null, .null, .int (iI 0), .int (iI 0), .int (iI 0), .int (iI 0)]) (fun j hj => by rcases (show j = 0 ∨ j = 1 ∨ j = 2 ∨ j = 3 ∨ j = 4 ∨ j = 5 ∨ j = 6 ∨ j = 7 ∨ j = 8 by omega) with rfl | rfl | rfl | rfl | rfl | rfl | rfl | rfl | rfl <;> rfl) rfl ⟨(Nat.le_of_ble_eq_true rfl), (Nat.le_of_ble_eq_true rfl)⟩ dL_law_0 (fun q1 H hC => ?_)
  obtain ⟨ad1, had1⟩ : ∃ a : AD, a = upA ad 0 0 q1 := ⟨_, rfl⟩
  rw [← had1] at hC
  rw [← had1]
  refine W.eq (g2 := F0 m 3 ls [.ref (ad1 0 0)]) rfl ?_
  refine lv_dup hM.1 hM.2.1 dL_law_3 rfl ?_
  refine y_callI hM hC (c_FundMoves_init l hfl G b0 ad1 (zrT T 0 0) (zrP P 0 0)) (cwI 0 hM.2.2.2.2 gL_law_X3_init rfl rfl rfl (hM.2.2.2.2 (.initialized RX3) (by decide +kernel)) (hM.2.2.2.2 (.methodLink RL 82 yX3_init) (by decide +kernel)) (hM.2.2.2.2 (.instanceMethod yX3_init) (by decide +kernel)) rfl (by decide +kernel) ⟨(Nat.le_of_ble_eq_true rfl), (Nat.le_of_ble_eq_true rfl)⟩) rfl hl.1 rfl (Nat.le_of_ble_eq_true rfl) dL_law_4 ⟨(Nat.le_of_ble_eq_true rfl), (Nat.le_of_ble_eq_true rfl)⟩ (fun v u1 H locs hp hC => ?_)
  obtain ⟨rfl, ad5, T5, P5, hu, ea, hIC⟩ := hp; rw [hu] at hC; clear hu
  refine W.eq (g2 := F0 m 7 ls [.ref (ad5 0 0)]) (by rw [ea]; rfl) ?_
  refine lv_astore_n (lv' := [(1, .ref (ad5 0 0)), (0, .ref b)]) hM.1 hM.2.1 dL_law_7 rfl hl (by decide) rfl (fun ls hl => ?_)
  refine y_bipush hM dL_law_8 (by decide) ?_
  refine y_newI hM hC (n := 60) (t := 50) (i := 0) (by decide) (fun _ _ => rfl) (by decide) (by decide +kernel) ⟨(Nat.le_of_ble_eq_true rfl), (Nat.le_of_ble_eq_true rfl)⟩ dL_law_10 (fun q2 H hC => ?_)
  obtain ⟨ad2, had2⟩ : ∃ a : AD, a = upA ad5 50 0 q2 := ⟨_, rfl⟩
  rw [← had2] at hC
  have e2_0 : ad2 0 0 = ad5 0 0 := by rw [had2, upA_ne (fun h => absurd h.1 (by decide))]
  have hl : lv_has ls 30 [(1, .ref (ad2 0 0)), (0, .ref b)] := by rw [e2_0]; exact hl
  rw [← had2]
  refine W.eq (g2 := F0 m 12 ls [.ref (ad2 50 0)]) rfl ?_
  refine lv_astore_n (lv' := [(2, .ref (ad2 50 0)), (1, .ref (ad2 0 0)), (0, .ref b)]) hM.1 hM.2.1 dL_law_12 rfl hl (by decide) rfl (fun ls hl => ?_)
  refine y_bipush hM dL_law_13 (by decide) ?_
  refine y_newI hM hC (n := 10) (t := 51) (i := 0) (by decide) (fun _ _ => rfl) (by decide) (by decide +kernel) ⟨(Nat.le_of_ble_eq_true rfl), (Nat.le_of_ble_eq_true rfl)⟩ dL_law_15 (fun q3 H hC => ?_)
  obtain ⟨ad3, had3⟩ : ∃ a : AD, a = upA ad2 51 0 q3 := ⟨_, rfl⟩
  rw [← had3] at hC
  have e3_0 : ad3 50 0 = ad2 50 0 := by rw [had3, upA_ne (fun h => absurd h.1 (by decide))]
  have e3_1 : ad3 0 0 = ad2 0 0 := by rw [had3, upA_ne (fun h => absurd h.1 (by decide))]
  have hl : lv_has ls 30 [(2, .ref (ad3 50 0)), (1, .ref (ad3 0 0)), (0, .ref b)] := by rw [e3_0, e3_1]; exact hl
  rw [← had3]
  refine W.eq (g2 := F0 m 17 ls [.ref (ad3 51 0)]) rfl ?_
  refine lv_astore_n (lv' := [(3, .ref (ad3 51 0)), (2, .ref (ad3 50 0)), (1, .ref (ad3 0 0)), (0, .ref b)]) hM.1 hM.2.1 dL_law_17 rfl hl (by decide) rfl (fun ls hl => ?_)
  refine y_iconst hM dL_law_18 ?_
  refine y_newJ hM hC (n := 5) (t := 52) (i := 0) (by decide) (fun _ _ => rfl) (by decide) (by decide +kernel) ⟨(Nat.le_of_ble_eq_true rfl), (Nat.le_of_ble_eq_true rfl)⟩ dL_law_19 (fun q4 H hC => ?_)
  obtain ⟨ad4, had4⟩ : ∃ a : AD, a = upA ad3 52 0 q4 := ⟨_, rfl⟩
  rw [← had4] at hC
  have e4_0 : ad4 51 0 = ad3 51 0 := by rw [had4, upA_ne (fun h => absurd h.1 (by decide))]
  have e4_1 : ad4 50 0 = ad3 50 0 := by rw [had4, upA_ne (fun h => absurd h.1 (by decide))]
  have e4_2 : ad4 0 0 = ad3 0 0 := by rw [had4, upA_ne (fun h => absurd h.1 (by decide))]
  have hl : lv_has ls 30 [(3, .ref (ad4 51 0)), (2, .ref (ad4 50 0)), (1, .ref (ad4 0 0)), (0, .ref b)] := by rw [e4_0, e4_1, e4_2]; exact hl
  rw [← had4]
  refine W.eq (g2 := F0 m 21 ls [.ref (ad4 52 0)]) rfl ?_
  refine lv_astore (lv' := [(4, .ref (ad4 52 0)), (3, .ref (ad4 51 0)), (2, .ref (ad4 50 0)), (1, .ref (ad4 0 0)), (0, .ref b)]) hM.1 hM.2.1 dL_law_21 hl (by decide) rfl (fun ls hl => ?_)
  refine y_bipush hM dL_law_23 (by decide) ?_
  refine y_newI hM hC (n := 63) (t := 53) (i := 0) (by decide) (fun _ _ => rfl) (by decide) (by decide +kernel) ⟨(Nat.le_of_ble_eq_true rfl), (Nat.le_of_ble_eq_true rfl)⟩ dL_law_25 (fun q5 H hC => ?_)
  obtain ⟨ad5, had5⟩ : ∃ a : AD, a = upA ad4 53 0 q5 := ⟨_, rfl⟩
  rw [← had5] at hC
  have e5_0 : ad5 52 0 = ad4 52 0 := by rw [had5, upA_ne (fun h => absurd h.1 (by decide))]
  have e5_1 : ad5 51 0 = ad4 51 0 := by rw [had5, upA_ne (fun h => absurd h.1 (by decide))]
  have e5_2 : ad5 50 0 = ad4 50 0 := by rw [had5, upA_ne (fun h => absurd h.1 (by decide))]
  have e5_3 : ad5 0 0 = ad4 0 0 := by rw [had5, upA_ne (fun h => absurd h.1 (by decide))]
  have hl : lv_has ls 30 [(4, .ref (ad5 52 0)), (3, .ref (ad5 51 0)), (2, .ref (ad5 50 0)), (1, .ref (ad5 0 0)), (0, .ref b)] := by rw [e5_0, e5_1, e5_2, e5_3]; exact hl
  rw [← had5]
  refine W.eq (g2 := F0 m 27 ls [.ref (ad5 53 0)]) rfl ?_
  refine lv_astore (lv' := [(5, .ref (ad5 53 0)), (4, .ref (ad5 52 0)), (3, .ref (ad5 51 0)), (2, .ref (ad5 50 0)), (1, .ref (ad5 0 0)), (0, .ref b)]) hM.1 hM.2.1 dL_law_27 hl (by decide) rfl (fun ls hl => ?_)
  refine y_bipush hM dL_law_29 (by decide) ?_
  refine y_newJ hM hC (n := 28) (t := 54) (i := 0) (by decide) (fun _ _ => rfl) (by decide) (by decide +kernel) ⟨(Nat.le_of_ble_eq_true rfl), (Nat.le_of_ble_eq_true rfl)⟩ dL_law_31 (fun q6 H hC => ?_)
  obtain ⟨ad6, had6⟩ : ∃ a : AD, a = upA ad5 54 0 q6 := ⟨_, rfl⟩
  rw [← had6] at hC
  have e6_0 : ad6 53 0 = ad5 53 0 := by rw [had6, upA_ne (fun h => absurd h.1 (by decide))]
  have e6_1 : ad6 52 0 = ad5 52 0 := by rw [had6, upA_ne (fun h => absurd h.1 (by decide))]
  have e6_2 : ad6 51 0 = ad5 51 0 := by rw [had6, upA_ne (fun h => absurd h.1 (by decide))]
  have e6_3 : ad6 50 0 = ad5 50 0 := by rw [had6, upA_ne (fun h => absurd h.1 (by decide))]
  have e6_4 : ad6 0 0 = ad5 0 0 := by rw [had6, upA_ne (fun h => absurd h.1 (by decide))]
  have hl : lv_has ls 30 [(5, .ref (ad6 53 0)), (4, .ref (ad6 52 0)), (3, .ref (ad6 51 0)), (2, .ref (ad6 50 0)), (1, .ref (ad6 0 0)), (0, .ref b)] := by rw [e6_0, e6_1, e6_2, e6_3, e6_4]; exact hl
  rw [← had6]
  refine W.eq (g2 := F0 m 33 ls [.ref (ad6 54 0)]) rfl ?_
  refine lv_astore (lv' := [(6, .ref (ad6 54 0)), (5, .ref (ad6 53 0)), (4, .ref (ad6 52 0)), (3, .ref (ad6 51 0)), (2, .ref (ad6 50 0)), (1, .ref (ad6 0 0)), (0, .ref b)]) hM.1 hM.2.1 dL_law_33 hl (by decide) rfl (fun ls hl => ?_)
  refine y_bipush hM dL_law_35 (by decide) ?_
  refine y_newJ hM hC (n := 30) (t := 55) (i := 0) (by decide) (fun _ _ => rfl) (by decide) (by decide +kernel) ⟨(Nat.le_of_ble_eq_true rfl), (Nat.le_of_ble_eq_true rfl)⟩ dL_law_37 (fun q7 H hC => ?_)
  obtain ⟨ad7, had7⟩ : ∃ a : AD, a = upA ad6 55 0 q7 := ⟨_, rfl⟩
  rw [← had7] at hC
  have e7_0 : ad7 54 0 = ad6 54 0 := by rw [had7, upA_ne (fun h => absurd h.1 (by decide))]
  have e7_1 : ad7 53 0 = ad6 53 0 := by rw [had7, upA_ne (fun h => absurd h.1 (by decide))]
  have e7_2 : ad7 52 0 = ad6 52 0 := by rw [had7, upA_ne (fun h => absurd h.1 (by decide))]
  have e7_3 : ad7 51 0 = ad6 51 0 := by rw [had7, upA_ne (fun h => absurd h.1 (by decide))]
  have e7_4 : ad7 50 0 = ad6 50 0 := by rw [had7, upA_ne (fun h => absurd h.1 (by decide))]
  have e7_5 : ad7 0 0 = ad6 0 0 := by rw [had7, upA_ne (fun h => absurd h.1 (by decide))]
  have hl : lv_has ls 30 [(6, .ref (ad7 54 0)), (5, .ref (ad7 53 0)), (4, .ref (ad7 52 0)), (3, .ref (ad7 51 0)), (2, .ref (ad7 50 0)), (1, .ref (ad7 0 0)), (0, .ref b)] := by rw [e7_0, e7_1, e7_2, e7_3, e7_4, e7_5]; exact hl
  rw [← had7]
  refine W.eq (g2 := F0 m 39 ls [.ref (ad7 55 0)]) rfl ?_
  refine lv_astore (lv' := [(7, .ref (ad7 55 0)), (6, .ref (ad7 54 0)), (5, .ref (ad7 53 0)), (4, .ref (ad7 52 0)), (3, .ref (ad7 51 0)), (2, .ref (ad7 50 0)), (1, .ref (ad7 0 0)), (0, .ref b)]) hM.1 hM.2.1 dL_law_39 hl (by decide) rfl (fun ls hl => ?_)
  refine y_iconst hM dL_law_41 ?_
  refine y_newI hM hC (n := 5) (t := 56) (i := 0) (by decide) (fun _ _ => rfl) (by decide) (by decide +kernel) ⟨(Nat.le_of_ble_eq_true rfl), (Nat.le_of_ble_eq_true rfl)⟩ dL_law_42 (fun q8 H hC => ?_)
  obtain ⟨ad8, had8⟩ : ∃ a : AD, a = upA ad7 56 0 q8 := ⟨_, rfl⟩
  rw [← had8] at hC
  have e8_0 : ad8 55 0 = ad7 55 0 := by rw [had8, upA_ne (fun h => absurd h.1 (by decide))]
  have e8_1 : ad8 54 0 = ad7 54 0 := by rw [had8, upA_ne (fun h => absurd h.1 (by decide))]
  have e8_2 : ad8 53 0 = ad7 53 0 := by rw [had8, upA_ne (fun h => absurd h.1 (by decide))]
  have e8_3 : ad8 52 0 = ad7 52 0 := by rw [had8, upA_ne (fun h => absurd h.1 (by decide))]
  have e8_4 : ad8 51 0 = ad7 51 0 := by rw [had8, upA_ne (fun h => absurd h.1 (by decide))]
  have e8_5 : ad8 50 0 = ad7 50 0 := by rw [had8, upA_ne (fun h => absurd h.1 (by decide))]
  have e8_6 : ad8 0 0 = ad7 0 0 := by rw [had8, upA_ne (fun h => absurd h.1 (by decide))]
  have hl : lv_has ls 30 [(7, .ref (ad8 55 0)), (6, .ref (ad8 54 0)), (5, .ref (ad8 53 0)), (4, .ref (ad8 52 0)), (3, .ref (ad8 51 0)), (2, .ref (ad8 50 0)), (1, .ref (ad8 0 0)), (0, .ref b)] := by rw [e8_0, e8_1, e8_2, e8_3, e8_4, e8_5, e8_6]; exact hl
  rw [← had8]
  refine W.eq (g2 := F0 m 44 ls [.ref (ad8 56 0)]) rfl ?_
  refine lv_astore (lv' := [(8, .ref (ad8 56 0)), (7, .ref (ad8 55 0)), (6, .ref (ad8 54 0)), (5, .ref (ad8 53 0)), (4, .ref (ad8 52 0)), (3, .ref (ad8 51 0)), (2, .ref (ad8 50 0)), (1, .ref (ad8 0 0)), (0, .ref b)]) hM.1 hM.2.1 dL_law_44 hl (by decide) rfl (fun ls hl => ?_)
  refine y_aload hM hl 0 rfl dL_law_46 ?_
  refine y_iconst hM dL_law_48 ?_
  refine y_sipush hM dL_law_49 (by decide) ?_
  refine y_iast hM hC (List.mem_append_right _ List.mem_cons_self) (fun _ _ => rfl) ⟨by omega, by omega⟩ (by decide) dL_law_52 (fun H locs hC => ?_)
  rw [show ((4 : Int)).toNat = 4 from rfl] at hC
  refine y_iconst hM dL_law_53 ?_
  refine lv_istore (lv' := [(9, .int (iI (0))), (8, .ref (ad8 56 0)), (7, .ref (ad8 55 0)), (6, .ref (ad8 54 0)), (5, .ref (ad8 53 0)), (4, .ref (ad8 52 0)), (3, .ref (ad8 51 0)), (2, .ref (ad8 50 0)), (1, .ref (ad8 0 0)), (0, .ref b)]) hM.1 hM.2.1 dL_law_54 hl (by decide) rfl (fun ls hl => ?_)
  have hIV : IV K2 ad8 (up (zrT (zrT (zrT (zrT (zrT (zrT (zrT T5 50 0) 51 0) 52 0) 53 0) 54 0) 55 0) 56 0) 56 0 (4) (1000)) (zrP (zrP (zrP (zrP (zrP (zrP (zrP P5 50 0) 51 0) 52 0) 53 0) 54 0) 55 0) 56 0) := by
    refine IV_init hIC (fun t i ht => ?_) (fun t i ht => ?_) (fun t i ht => ?_) (fun t j h1 h2 h3 => ?_) ?_
    · rw [had8, upA_ne (by omega), had7, upA_ne (by omega), had6, upA_ne (by omega), had5, upA_ne (by omega), had4, upA_ne (by omega), had3, upA_ne (by omega), had2, upA_ne (by omega)]
    · rw [up_ne (by omega), zrT_ne (by omega), zrT_ne (by omega), zrT_ne (by omega), zrT_ne (by omega), zrT_ne (by omega), zrT_ne (by omega), zrT_ne (by omega)]
    · rw [zrP_ne (by omega), zrP_ne (by omega), zrP_ne (by omega), zrP_ne (by omega), zrP_ne (by omega), zrP_ne (by omega), zrP_ne (by omega)]
    · rw [up_of (fun w => h3 ⟨w.1, w.2.2⟩)]
      simp only [zrT]
      rcases (show t = 50 ∨ t = 51 ∨ t = 52 ∨ t = 53 ∨ t = 54 ∨ t = 55 ∨ t = 56 by omega) with rfl | rfl | rfl | rfl | rfl | rfl | rfl <;> rfl
    · exact up_at rfl
  exact law_loop l hfl G b0 hM hN hX hbA hbl hL hret hlk hb0 64 0 _ _ _ _ _ _ _ _ ls (by omega) (Nat.le_of_ble_eq_true rfl) (Nat.le_of_ble_eq_true rfl) hl hC hIV
