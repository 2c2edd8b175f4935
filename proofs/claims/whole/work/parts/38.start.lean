set_option maxRecDepth 100000 in
set_option maxHeartbeats 8000000 in
theorem law_start {p : Program} {e : Env} {s : State} {m : MethodId} {below : List Frame} {meth : Method} {c : Code} (l : Launch) (hfl : l.stackTraces = false) (G : GG) (b0 : Nat) {b L : Nat} {xs : Nat → Int32} (hM : CallFix p m c cL_law 8 s #[Value.ref b] wsL_law RL) (hN : NcX s) (hX : va_X b L xs s s.heap) (hbA : ¬ b0 ≤ b) (hbl : b < s.heap.size) (hL : L ≤ 1536) (hret : meth.sig.returnType = ret) (hlk : meth.locks = false) (hb0 : s.heap.size ≤ b0) (ad : AD) (T : TT) (P : PP) (hC : Cur G b0 ([], ad, T, P) s s.heap []) : W p l e room_1 s m #[Value.ref b] below meth c s.heap [] 0 0 (lw_Z below #[Value.ref b] s) (entryFrame m ([Value.ref b] : List Value).toArray 8) := by
  have hl := lv_entry ([.ref b]) (n := 8) (Nat.le_of_ble_eq_true rfl)
  rw [lg_entry_eq]
  generalize (lg_sl ([.ref b]) ++ List.replicate (8 - (lg_sl ([.ref b])).length) Slot.unset).toArray = ls at hl ⊢
  have hl : lv_has ls 8 [(0, .ref b)] := hl
  refine y_new hM hC (t := 0) (i := 0) (by decide) rfl (by decide +kernel) tyX3 tyX3_ok ⟨(by decide +kernel), (by decide +kernel), (by decide +kernel)⟩ (fs := [.null, .null, .null, .null, .null, .int (iI 0), .int (iI 0), .int (iI 0), .int (iI 0)]) (fun j hj => by rcases (show j = 0 ∨ j = 1 ∨ j = 2 ∨ j = 3 ∨ j = 4 ∨ j = 5 ∨ j = 6 ∨ j = 7 ∨ j = 8 by omega) with rfl | rfl | rfl | rfl | rfl | rfl | rfl | rfl | rfl <;> rfl) rfl ⟨(Nat.le_of_ble_eq_true rfl), (Nat.le_of_ble_eq_true rfl)⟩ dL_law_0 (fun q1 H hC => ?_)
  obtain ⟨ad1, had1⟩ : ∃ a : AD, a = upA ad 0 0 q1 := ⟨_, rfl⟩
  rw [← had1] at hC
  rw [← had1]
  refine W.eq (g2 := F0 m 3 ls [.ref (ad1 0 0)]) rfl ?_
  refine lv_dup hM.1 hM.2.1 dL_law_3 rfl ?_
  refine y_callI hM hC (c_FundMoves_init l hfl G b0 ad1 (zrT T 0 0) (zrP P 0 0)) (cwI 0 hM.2.2.2.2 gL_law_X3_init rfl rfl rfl (hM.2.2.2.2 (.initialized RX3) (by decide +kernel)) (hM.2.2.2.2 (.methodLink RL 73 yX3_init) (by decide +kernel)) (hM.2.2.2.2 (.instanceMethod yX3_init) (by decide +kernel)) rfl (by decide +kernel) ⟨(Nat.le_of_ble_eq_true rfl), (Nat.le_of_ble_eq_true rfl)⟩) rfl hl.1 rfl (Nat.le_of_ble_eq_true rfl) dL_law_4 ⟨(Nat.le_of_ble_eq_true rfl), (Nat.le_of_ble_eq_true rfl)⟩ (fun v u1 H locs hp hC => ?_)
  obtain ⟨rfl, ad5, T5, P5, hu, ea, hIC⟩ := hp; rw [hu] at hC; clear hu
  refine W.eq (g2 := F0 m 7 ls [.ref (ad5 0 0)]) (by rw [ea]; rfl) ?_
  refine lv_astore_n (lv' := [(1, .ref (ad5 0 0)), (0, .ref b)]) hM.1 hM.2.1 dL_law_7 rfl hl (by decide) rfl (fun ls hl => ?_)
  refine y_new hM hC (t := 12) (i := 0) (by decide) rfl (by decide +kernel) tyX4 tyX4_ok ⟨(by decide +kernel), (by decide +kernel), (by decide +kernel)⟩ (fs := [.int (iI 0), .int (iI 0), .null, .null, .null, .int (iI 0), .int (iI 0), .null, .null, .null, .int (iI 0), .null, .null, .null, .null, .null, .null, .null, .null, .null, .null, .null, .null]) (fun j hj => by rcases (show j = 0 ∨ j = 1 ∨ j = 2 ∨ j = 3 ∨ j = 4 ∨ j = 5 ∨ j = 6 ∨ j = 7 ∨ j = 8 ∨ j = 9 ∨ j = 10 ∨ j = 11 ∨ j = 12 ∨ j = 13 ∨ j = 14 ∨ j = 15 ∨ j = 16 ∨ j = 17 ∨ j = 18 ∨ j = 19 ∨ j = 20 ∨ j = 21 ∨ j = 22 by omega) with rfl | rfl | rfl | rfl | rfl | rfl | rfl | rfl | rfl | rfl | rfl | rfl | rfl | rfl | rfl | rfl | rfl | rfl | rfl | rfl | rfl | rfl | rfl <;> rfl) rfl ⟨(Nat.le_of_ble_eq_true rfl), (Nat.le_of_ble_eq_true rfl)⟩ dL_law_8 (fun q2 H hC => ?_)
  obtain ⟨ad2, had2⟩ : ∃ a : AD, a = upA ad5 12 0 q2 := ⟨_, rfl⟩
  rw [← had2] at hC
  have e2_0 : ad2 0 0 = ad5 0 0 := by rw [had2, upA_ne (fun h => absurd h.1 (by decide))]
  have hl : lv_has ls 8 [(1, .ref (ad2 0 0)), (0, .ref b)] := by rw [e2_0]; exact hl
  rw [← had2]
  refine W.eq (g2 := F0 m 11 ls [.ref (ad2 12 0)]) rfl ?_
  refine lv_dup hM.1 hM.2.1 dL_law_11 rfl ?_
  refine y_callI hM hC (c_M_init l hfl G b0 ad2 (zrT T5 12 0) (zrP P5 12 0) (fun j => by simp [zrT])) (cwI 0 hM.2.2.2.2 gL_law_X4_init rfl rfl rfl (hM.2.2.2.2 (.initialized RX4) (by decide +kernel)) (hM.2.2.2.2 (.methodLink RL 76 yX4_init) (by decide +kernel)) (hM.2.2.2.2 (.instanceMethod yX4_init) (by decide +kernel)) rfl (by decide +kernel) ⟨(Nat.le_of_ble_eq_true rfl), (Nat.le_of_ble_eq_true rfl)⟩) rfl hl.1 rfl (Nat.le_of_ble_eq_true rfl) dL_law_12 ⟨(Nat.le_of_ble_eq_true rfl), (Nat.le_of_ble_eq_true rfl)⟩ (fun v u1 H locs hp hC => ?_)
  obtain ⟨rfl, ad7, T7, P7, hu, hIM⟩ := hp; rw [hu] at hC; clear hu
  have ea0 : ad7 0 0 = ad2 0 0 := hIM.2.1 0 0 (by decide)
  have ea12 : ad7 12 0 = ad2 12 0 := hIM.2.1 12 0 (by decide)
  have hl : lv_has ls 8 [(1, .ref (ad7 0 0)), (0, .ref b)] := by rw [ea0]; exact hl
  refine W.eq (g2 := F0 m 15 ls [.ref (ad7 12 0)]) (by rw [ea12]; rfl) ?_
  refine lv_astore_n (lv' := [(2, .ref (ad7 12 0)), (1, .ref (ad7 0 0)), (0, .ref b)]) hM.1 hM.2.1 dL_law_15 rfl hl (by decide) rfl (fun ls hl => ?_)
  refine y_iconst hM dL_law_16 ?_
  refine y_newJ hM hC (n := 1) (t := 43) (i := 0) (by decide) (fun _ _ => rfl) (by decide) (by decide +kernel) ⟨(Nat.le_of_ble_eq_true rfl), (Nat.le_of_ble_eq_true rfl)⟩ dL_law_17 (fun q3 H hC => ?_)
  obtain ⟨ad3, had3⟩ : ∃ a : AD, a = upA ad7 43 0 q3 := ⟨_, rfl⟩
  rw [← had3] at hC
  have e3_0 : ad3 12 0 = ad7 12 0 := by rw [had3, upA_ne (fun h => absurd h.1 (by decide))]
  have e3_1 : ad3 0 0 = ad7 0 0 := by rw [had3, upA_ne (fun h => absurd h.1 (by decide))]
  have hl : lv_has ls 8 [(2, .ref (ad3 12 0)), (1, .ref (ad3 0 0)), (0, .ref b)] := by rw [e3_0, e3_1]; exact hl
  rw [← had3]
  refine W.eq (g2 := F0 m 19 ls [.ref (ad3 43 0)]) rfl ?_
  refine lv_astore_n (lv' := [(3, .ref (ad3 43 0)), (2, .ref (ad3 12 0)), (1, .ref (ad3 0 0)), (0, .ref b)]) hM.1 hM.2.1 dL_law_19 rfl hl (by decide) rfl (fun ls hl => ?_)
  refine y_iconst hM dL_law_20 ?_
  refine lv_istore (lv' := [(4, .int (iI (0))), (3, .ref (ad3 43 0)), (2, .ref (ad3 12 0)), (1, .ref (ad3 0 0)), (0, .ref b)]) hM.1 hM.2.1 dL_law_21 hl (by decide) rfl (fun ls hl => ?_)
  exact law_loop l hfl G b0 hM hN hX hbA hbl hL hret hlk hb0 512 0 _ _ _ _ _ _ _ _ ls (by omega) (by omega) (Nat.le_of_ble_eq_true rfl) (Nat.le_of_ble_eq_true rfl) hl hC (by
    rw [had3]
    rw [had2] at hIM
    exact IV_init hIC hIM)
