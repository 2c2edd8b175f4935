set_option maxRecDepth 100000 in
set_option maxHeartbeats 16000000 in
theorem law_beg {p : Program} {e : Env} {s : State} {m : MethodId} {below : List Frame} {meth : Method} {c : Code} {Q : State → Prop} (l : Launch) (hfl : l.stackTraces = false) (G : GG) (b0 : Nat) {b L : Nat} {xs : Nat → Int32} (hM : CallFix p m c cL_law 30 s #[Value.ref b] wsL_law RL) (hN : NcX s) (hX : va_X b L xs s s.heap) (hbA : ¬ b0 ≤ b) (hbl : b < s.heap.size) (hL : L ≤ 260) {ks : KK} {ad : AD} {T : TT} {P : PP} {H : Heap} {locs : List Loc} {cells slots : Nat} (hcl : cells + 400 ≤ 602294) (hsl : slots + 3000 ≤ 7294300) (i : Nat) (xx yy kd : Int) (pv sv k : Nat) (hkd : 0 ≤ kd ∧ kd < 20) (hpv : pv < 5) (hsv : (T 0 0 7 = 0 ∧ sv = 0) ∨ (sv : Int) < T 0 0 7) (hkv : (T 0 0 8 = 0 ∧ k = 0) ∨ (k : Int) < T 0 0 8) {ls : Array Slot} (hl : lv_has ls 30 [(15, .int (iI (((k : Nat) : Int)))), (14, .int (iI (((sv : Nat) : Int)))), (13, .int (iI (((pv : Nat) : Int)))), (12, .int (iI (kd))), (11, .int (iI (yy))), (10, .int (iI (xx))), (9, .int (iI (((i : Nat) : Int)))), (8, .ref (ad 56 0)), (7, .ref (ad 55 0)), (6, .ref (ad 54 0)), (5, .ref (ad 53 0)), (4, .ref (ad 52 0)), (3, .ref (ad 51 0)), (2, .ref (ad 50 0)), (1, .ref (ad 0 0)), (0, .ref b)]) (hC : Cur G b0 (ks, ad, T, P) s H locs) (hI : IV ks ad T P)
    (kk : ∀ (ks1 : KK) (ad1 : AD) (T1 : TT) (P1 : PP) (H1 : Heap) (locs1 : List Loc) (cells1 slots1 : Nat) (ls1 : Array Slot), cells1 ≤ cells + 40 → slots1 ≤ slots + 400 → Cur G b0 (ks1, ad1, T1, P1) s H1 locs1 → IV ks1 ad1 T1 P1 → lv_has ls1 30 [(11, .int (iI (yy))), (9, .int (iI (((i : Nat) : Int)))), (8, .ref (ad1 56 0)), (7, .ref (ad1 55 0)), (6, .ref (ad1 54 0)), (5, .ref (ad1 53 0)), (4, .ref (ad1 52 0)), (3, .ref (ad1 51 0)), (2, .ref (ad1 50 0)), (1, .ref (ad1 0 0)), (0, .ref b)] → W p l e room_1 s m #[Value.ref b] below meth c H1 locs1 cells1 slots1 Q (F0 m 1608 ls1 [])) (kn : ∀ (ks1 : KK) (ad1 : AD) (T1 : TT) (P1 : PP) (H1 : Heap) (locs1 : List Loc) (cells1 slots1 : Nat) (ls1 : Array Slot), cells1 ≤ cells + 400 → slots1 ≤ slots + 3000 → Cur G b0 (ks1, ad1, T1, P1) s H1 locs1 → IV ks1 ad1 T1 P1 → lv_has ls1 30 [(9, .int (iI (((i : Nat) : Int)))), (8, .ref (ad1 56 0)), (7, .ref (ad1 55 0)), (6, .ref (ad1 54 0)), (5, .ref (ad1 53 0)), (4, .ref (ad1 52 0)), (3, .ref (ad1 51 0)), (2, .ref (ad1 50 0)), (1, .ref (ad1 0 0)), (0, .ref b)] → W p l e room_1 s m #[Value.ref b] below meth c H1 locs1 cells1 slots1 Q (F0 m 1643 ls1 [])) :
    W p l e room_1 s m #[Value.ref b] below meth c H locs cells slots Q (F0 m 384 ls []) := by
  obtain ⟨hCK, hNC, hR⟩ := id hI
  obtain ⟨hF, hRK, hSK, hOK, hKF, hLK⟩ := id hCK
  obtain ⟨hRN, hDN, hSN, hON, hXP, hXO, hXD⟩ := id hNC
  obtain ⟨⟨hg1, h75, hg2, h87, hg3, h19, hg4, hg0⟩, hRP, hRS, hRO, hRD⟩ := id hR
  obtain ⟨hd0, hd1, hd2, hd3⟩ := id hDN
  have hs70 := hSK.1
  have ho80 := hOK.1
  have hP1 := hRP.1.1
  have hns : ((NS T : Nat) : Int) = T 0 0 7 := Int.toNat_of_nonneg hs70
  have hgS : T 56 0 1 = ((NS T : Nat) : Int) := by rw [hns]; exact hg1
  refine y_aload hM hl 7 rfl dL_law_384 ?_
  refine y_iconst hM dL_law_386 ?_
  refine y_iald hM hC hLK.2.2.2.2.2.2 rfl ⟨by omega, by omega⟩ (by decide) (x := T 0 0 7) (by rw [show ((1 : Int)).toNat = 1 from rfl, hg1]) dL_law_387 ?_
  refine y_iconst hM dL_law_388 ?_
  refine y_icmp_ne hM (by constructor <;> omega) (by constructor <;> omega) (tgt := 395) dL_law_389 (by decide) (fun c_389 => ?_) (fun c_389 => ?_)
  ·
    refine y_iload hM hl 4 rfl dL_law_395 ?_
    refine y_iconst hM dL_law_397 ?_
    refine lv_ishr hM.1 hM.2.1 dL_law_398 ?_
    obtain ⟨z_398, ez_398⟩ : ∃ z : Int, (iI (yy) >>> (iI (2) &&& 31)) = iI z := ⟨_, iI_of _⟩
    rw [ez_398]
    refine y_iload hM hl 5 rfl dL_law_399 ?_
    refine y_bipush hM dL_law_401 (by decide) ?_
    refine lv_ishr hM.1 hM.2.1 dL_law_403 ?_
    obtain ⟨z_403, ez_403⟩ : ∃ z : Int, (iI (xx) >>> (iI (9) &&& 31)) = iI z := ⟨_, iI_of _⟩
    rw [ez_403]
    refine y_iconst hM dL_law_404 ?_
    refine y_callS hM hC (c_L_low l hfl G b0 (ks, ad, T, P) (z_403) (2) ⟨by omega, by omega⟩) (va_cwS 2 hM.2.2.2.2 gL_law_L_low rfl rfl rfl (by decide +kernel) ⟨(Nat.le_of_ble_eq_true rfl), (Nat.le_of_ble_eq_true rfl)⟩) rfl hl.1 rfl (Nat.le_of_ble_eq_true rfl) dL_law_405 ⟨(show _ ≤ 602294 by omega), (show _ ≤ 7294300 by omega)⟩ (fun E ce q9 u1 H locs hx hC hce hcv hcl => hx.elim) (fun v u1 H locs hp hC => ?_)
    obtain ⟨r_405, rfl, h_405, hu⟩ := hp; rw [hu] at hC; clear hu
    try dsimp only at h_405
    refine W.eq (g2 := F0 m 408 ls [.int (iI (r_405)), .int (iI (z_398))]) rfl ?_
    refine y_if_ne hM (by constructor <;> omega) (tgt := 416) dL_law_408 (by decide) (fun c_408 => ?_) (fun c_408 => ?_)
    ·
      refine y_sipush hM dL_law_416 (by decide) ?_
      refine y_callS hM hC (c_L_low l hfl G b0 (ks, ad, T, P) (z_398) (3000) ⟨by omega, by omega⟩) (va_cwS 2 hM.2.2.2.2 gL_law_L_low rfl rfl rfl (by decide +kernel) ⟨(Nat.le_of_ble_eq_true rfl), (Nat.le_of_ble_eq_true rfl)⟩) rfl hl.1 rfl (Nat.le_of_ble_eq_true rfl) dL_law_419 ⟨(show _ ≤ 602294 by omega), (show _ ≤ 7294300 by omega)⟩ (fun E ce q9 u1 H locs hx hC hce hcv hcl => hx.elim) (fun v u1 H locs hp hC => ?_)
      obtain ⟨r_419, rfl, h_419, hu⟩ := hp; rw [hu] at hC; clear hu
      try dsimp only at h_419
      refine W.eq (g2 := F0 m 422 ls [.int (iI (r_419))]) rfl ?_
      refine lv_istore (lv' := [(16, .int (iI (r_419))), (15, .int (iI (((k : Nat) : Int)))), (14, .int (iI (((sv : Nat) : Int)))), (13, .int (iI (((pv : Nat) : Int)))), (12, .int (iI (kd))), (11, .int (iI (yy))), (10, .int (iI (xx))), (9, .int (iI (((i : Nat) : Int)))), (8, .ref (ad 56 0)), (7, .ref (ad 55 0)), (6, .ref (ad 54 0)), (5, .ref (ad 53 0)), (4, .ref (ad 52 0)), (3, .ref (ad 51 0)), (2, .ref (ad 50 0)), (1, .ref (ad 0 0)), (0, .ref b)]) hM.1 hM.2.1 dL_law_422 hl (by decide) rfl (fun ls hl => ?_)
      refine y_aload_n hM hl 13 rfl rfl dL_law_424 ?_
      refine y_iconst hM dL_law_425 ?_
      refine y_aload hM hl 8 rfl dL_law_426 ?_
      refine y_iconst hM dL_law_428 ?_
      refine y_iald hM hC hLK.2.2.2.2.2.2 rfl ⟨by omega, by omega⟩ (by decide) (x := ((NS T : Nat) : Int)) (by rw [show ((1 : Int)).toNat = 1 from rfl, hgS]) dL_law_429 ?_
      refine y_imul hM dL_law_430 ?_
      refine y_iload hM hl 3 rfl dL_law_431 ?_
      refine y_iast hM hC hLK.2.1 (fun _ _ => rfl) ⟨by omega, by omega⟩ (by decide) dL_law_433 (fun H locs hC => ?_)
      rw [show ((2) * (((NS T : Nat) : Int)) : Int).toNat = 2 * NS T from by omega] at hC
      refine y_aload hM hl 12 rfl dL_law_434 ?_
      refine y_aload hM hl 8 rfl dL_law_436 ?_
      refine y_iconst hM dL_law_438 ?_
      refine y_iald hM hC hLK.2.2.2.2.2.2 rfl ⟨by omega, by omega⟩ (by decide) (x := ((NS T : Nat) : Int)) (by rw [show ((1 : Int)).toNat = 1 from rfl, up_of (by omega), hgS]) dL_law_439 ?_
      refine y_iload hM hl 0 rfl dL_law_440 ?_
      refine y_i2l hM (by constructor <;> omega) dL_law_442 ?_
      refine y_ldc2 hM (v := 1000) (1000) (by decide) (by decide +kernel) dL_law_443 ?_
      refine y_lmul hM dL_law_446 ?_
      refine y_aload_n hM hl 14 rfl rfl dL_law_447 ?_
      refine y_iload hM hl 3 rfl dL_law_448 ?_
      refine y_aload hM hl 8 rfl dL_law_450 ?_
      refine y_iconst hM dL_law_452 ?_
      refine y_iald hM hC hLK.2.2.2.2.2.2 rfl ⟨by omega, by omega⟩ (by decide) (x := T 0 0 5) (by rw [show ((3 : Int)).toNat = 3 from rfl, up_of (by omega), hg3]) dL_law_453 ?_
      refine y_callS hM hC (c_L_price l hfl G b0 ks ad (up T 51 0 (2 * NS T) (((pv : Nat) : Int))) P (((pv : Nat) : Int)) (T 0 0 5) ⟨by omega, by omega⟩ ⟨by omega, by omega⟩ hLK.1 (hRP.congr (fun _ => up_ne (by omega)) (fun _ => up_ne (by omega)) (fun _ => up_ne (by omega)) (up_ne (by omega)) (up_of (by omega)))) (va_cwS 3 hM.2.2.2.2 gL_law_L_price rfl rfl rfl (by decide +kernel) ⟨(Nat.le_of_ble_eq_true rfl), (Nat.le_of_ble_eq_true rfl)⟩) rfl hl.1 rfl (Nat.le_of_ble_eq_true rfl) dL_law_454 ⟨(show _ ≤ 602294 by omega), (show _ ≤ 7294300 by omega)⟩ (fun E ce q9 u1 H locs hx hC hce hcv hcl => hx.elim) (fun v u1 H locs hp hC => ?_)
      obtain ⟨r_454, rfl, h_454, hu⟩ := hp; rw [hu] at hC; clear hu
      try dsimp only at h_454
      refine W.eq (g2 := F0 m 457 ls [.int (iI (r_454)), .long (lI ((r_419) * (1000))), .int (iI (((NS T : Nat) : Int))), .ref (ad 52 0)]) rfl ?_
      rw [valT_up (by decide), Int.toNat_natCast] at h_454
      have hv_454 := valT_in hRN (p := pv) hpv (T 0 0 5)
      refine y_i2l hM (by constructor <;> omega) dL_law_457 ?_
      refine y_ldiv hM ⟨by omega, by omega, by omega, by omega⟩ dL_law_458 ?_
      rw [show ((r_419) * (1000)) / (r_454) = thF r_419 (valT T pv (T 0 0 5)) from (by rw [h_454]; rfl)]
      refine y_last hM hC hLK.2.2.1 (fun _ _ => rfl) ⟨by omega, by omega⟩ (by decide) dL_law_459 (fun H locs hC => ?_)
      rw [show (((NS T : Nat) : Int) : Int).toNat = NS T from by omega] at hC
      refine y_aload hM hl 8 rfl dL_law_460 ?_
      refine y_iconst hM dL_law_462 ?_
      refine lv_dup2_11 hM.1 hM.2.1 dL_law_463 rfl rfl ?_
      refine y_iald hM hC hLK.2.2.2.2.2.2 rfl ⟨by omega, by omega⟩ (by decide) (x := ((NS T : Nat) : Int)) (by rw [show ((1 : Int)).toNat = 1 from rfl, up_of (by omega), up_of (by omega), hgS]) dL_law_464 ?_
      refine y_iconst hM dL_law_465 ?_
      refine y_iadd hM dL_law_466 ?_
      refine y_iast hM hC hLK.2.2.2.2.2.2 (fun _ _ => rfl) ⟨by omega, by omega⟩ (by decide) dL_law_467 (fun H locs hC => ?_)
      rw [show ((1 : Int)).toNat = 1 from rfl] at hC
      obtain ⟨T1, hT1⟩ : ∃ X : TT, X = (up (up (up T 51 0 (2 * NS T) (((pv : Nat) : Int))) 52 0 (NS T) (thF r_419 (valT T pv (T 0 0 5)))) 56 0 (1) ((((NS T : Nat) : Int)) + (1))) := ⟨_, rfl⟩
      rw [← hT1] at hC
      have hlo : LoE T1 T := by
        rw [hT1]
        exact (((LoE.r.hi (by decide)).hi (by decide)).hi (by decide))
      obtain ⟨hCK1, hNC1, hR1, hz1⟩ := hI.mid hlo
      obtain ⟨hF1, hRK1, hSK1, hOK1, hKF1, hLK1⟩ := id hCK1
      obtain ⟨hRN1, hDN1, hSN1, hON1, -, -, -⟩ := id hNC1
      have h05 : T1 0 0 5 = T 0 0 5 := by rw [hz1]
      have h06 : T1 0 0 6 = T 0 0 6 := by rw [hz1]
      have h07 : T1 0 0 7 = T 0 0 7 := by rw [hz1]
      have h08 : T1 0 0 8 = T 0 0 8 := by rw [hz1]
      have hT1b : T1 = mBeg T (NS T) ((pv : Nat) : Int) (thF r_419 (valT T (((pv : Nat) : Int)).toNat (T 0 0 5))) (T 0 0 7 + 1) := by
        rw [hT1, Int.toNat_natCast, ← hns]
        rfl
      refine y_aload_n hM hl 15 rfl rfl dL_law_468 ?_
      refine y_iload hM hl 3 rfl dL_law_469 ?_
      refine y_iload hM hl 0 rfl dL_law_471 ?_
      refine y_callV hM hC (c_begin l hfl G b0 ks ad T1 P (((pv : Nat) : Int)) (r_419) ⟨by omega, by omega⟩ ⟨by omega, by omega⟩ (hKF1.1 _ (by omega)) hF1 hRK1 hRN1 hDN1 ⟨by omega, by omega⟩) (cwV 2 hM.2.2.2.2 gL_law_X3_begin rfl rfl rfl (by decide +kernel) ⟨(Nat.le_of_ble_eq_true rfl), (Nat.le_of_ble_eq_true rfl)⟩) (y_recv hC hF1.1 rfl rfl) rfl hl.1 rfl (Nat.le_of_ble_eq_true rfl) dL_law_473 ⟨(show _ ≤ 602294 by omega), (show _ ≤ 7294300 by omega)⟩ (fun E ce q9 u1 H locs hx hC hce hcv hcl => by
          obtain ⟨x, rfl, hx, hu⟩ := hx; rw [hu] at hC; clear hu; try dsimp only at hx
          exact False.elim (by omega)) (fun v u1 H locs hp hC => ?_)
      obtain ⟨r_473, q, rfl, h_473, hu⟩ := hp; rw [hu] at hC; clear hu; try dsimp only at h_473
      obtain ⟨ad1, had1⟩ : ∃ a : AD, a = upA ad 10 (T1 0 0 7).toNat q := ⟨_, rfl⟩
      rw [← had1] at hC
      have e1_0 : ad1 56 0 = ad 56 0 := by rw [had1, upA_ne (fun h => absurd h.1 (by decide))]
      have e1_1 : ad1 55 0 = ad 55 0 := by rw [had1, upA_ne (fun h => absurd h.1 (by decide))]
      have e1_2 : ad1 54 0 = ad 54 0 := by rw [had1, upA_ne (fun h => absurd h.1 (by decide))]
      have e1_3 : ad1 53 0 = ad 53 0 := by rw [had1, upA_ne (fun h => absurd h.1 (by decide))]
      have e1_4 : ad1 52 0 = ad 52 0 := by rw [had1, upA_ne (fun h => absurd h.1 (by decide))]
      have e1_5 : ad1 51 0 = ad 51 0 := by rw [had1, upA_ne (fun h => absurd h.1 (by decide))]
      have e1_6 : ad1 50 0 = ad 50 0 := by rw [had1, upA_ne (fun h => absurd h.1 (by decide))]
      have e1_7 : ad1 0 0 = ad 0 0 := by rw [had1, upA_ne (fun h => absurd h.1 (by decide))]
      have hl : lv_has ls 30 [(16, .int (iI (r_419))), (15, .int (iI (((k : Nat) : Int)))), (14, .int (iI (((sv : Nat) : Int)))), (13, .int (iI (((pv : Nat) : Int)))), (12, .int (iI (kd))), (11, .int (iI (yy))), (10, .int (iI (xx))), (9, .int (iI (((i : Nat) : Int)))), (8, .ref (ad1 56 0)), (7, .ref (ad1 55 0)), (6, .ref (ad1 54 0)), (5, .ref (ad1 53 0)), (4, .ref (ad1 52 0)), (3, .ref (ad1 51 0)), (2, .ref (ad1 50 0)), (1, .ref (ad1 0 0)), (0, .ref b)] := by rw [e1_0, e1_1, e1_2, e1_3, e1_4, e1_5, e1_6, e1_7]; exact hl
      refine W.eq (g2 := F0 m 476 ls [.int (iI (r_473))]) rfl ?_
      have hLKb : LK (ks ++ [(10, (T1 0 0 7).toNat)]) := hLK1.app
      refine y_aload hM hl 8 rfl dL_law_476 ?_
      refine y_iconst hM dL_law_478 ?_
      refine y_iald hM hC hLKb.2.2.2.2.2.2 rfl ⟨by omega, by omega⟩ (by decide) (x := ((NS T : Nat) : Int) + (1)) ((begT_hi 56 0 1 (by omega)).trans (by rw [hT1, up_at rfl])) dL_law_479 ?_
      refine y_iconst hM dL_law_480 ?_
      refine y_isub hM dL_law_481 ?_
      refine y_icmp_eq hM (by constructor <;> omega) (by constructor <;> omega) (tgt := 487) dL_law_482 (by decide) (fun c_482 => ?_) (fun c_482 => False.elim (by omega))
      refine lv_goto (tgt := 1608) hM.1 hM.2.1 dL_law_487 (by decide) ?_
      exact kk _ _ _ _ _ _ _ _ ls (by omega) (by omega) hC (by
          rw [had1]
          exact op_beg hI ⟨by omega, by omega⟩ ⟨by omega, by omega⟩ (by omega) hT1b) ⟨hl.1, hl.2.1, fun q hq => hl.2.2 q ((List.forall_mem_cons.mpr ⟨List.mem_of_getElem? (i := 5) rfl, (List.forall_mem_cons.mpr ⟨List.mem_of_getElem? (i := 7) rfl, (List.forall_mem_cons.mpr ⟨List.mem_of_getElem? (i := 8) rfl, (List.forall_mem_cons.mpr ⟨List.mem_of_getElem? (i := 9) rfl, (List.forall_mem_cons.mpr ⟨List.mem_of_getElem? (i := 10) rfl, (List.forall_mem_cons.mpr ⟨List.mem_of_getElem? (i := 11) rfl, (List.forall_mem_cons.mpr ⟨List.mem_of_getElem? (i := 12) rfl, (List.forall_mem_cons.mpr ⟨List.mem_of_getElem? (i := 13) rfl, (List.forall_mem_cons.mpr ⟨List.mem_of_getElem? (i := 14) rfl, (List.forall_mem_cons.mpr ⟨List.mem_of_getElem? (i := 15) rfl, (List.forall_mem_cons.mpr ⟨List.mem_of_getElem? (i := 16) rfl, (fun _ h => absurd h List.not_mem_nil)⟩)⟩)⟩)⟩)⟩)⟩)⟩)⟩)⟩)⟩)⟩) q hq)⟩
    ·
      refine y_ldc hM (v := 1000001) (1000001) (by decide) (by decide +kernel) dL_law_411 ?_
      refine lv_goto (tgt := 419) hM.1 hM.2.1 dL_law_413 (by decide) ?_
      refine y_callS hM hC (c_L_low l hfl G b0 (ks, ad, T, P) (z_398) (1000001) ⟨by omega, by omega⟩) (va_cwS 2 hM.2.2.2.2 gL_law_L_low rfl rfl rfl (by decide +kernel) ⟨(Nat.le_of_ble_eq_true rfl), (Nat.le_of_ble_eq_true rfl)⟩) rfl hl.1 rfl (Nat.le_of_ble_eq_true rfl) dL_law_419 ⟨(show _ ≤ 602294 by omega), (show _ ≤ 7294300 by omega)⟩ (fun E ce q9 u1 H locs hx hC hce hcv hcl => hx.elim) (fun v u1 H locs hp hC => ?_)
      obtain ⟨r_419, rfl, h_419, hu⟩ := hp; rw [hu] at hC; clear hu
      try dsimp only at h_419
      refine W.eq (g2 := F0 m 422 ls [.int (iI (r_419))]) rfl ?_
      refine lv_istore (lv' := [(16, .int (iI (r_419))), (15, .int (iI (((k : Nat) : Int)))), (14, .int (iI (((sv : Nat) : Int)))), (13, .int (iI (((pv : Nat) : Int)))), (12, .int (iI (kd))), (11, .int (iI (yy))), (10, .int (iI (xx))), (9, .int (iI (((i : Nat) : Int)))), (8, .ref (ad 56 0)), (7, .ref (ad 55 0)), (6, .ref (ad 54 0)), (5, .ref (ad 53 0)), (4, .ref (ad 52 0)), (3, .ref (ad 51 0)), (2, .ref (ad 50 0)), (1, .ref (ad 0 0)), (0, .ref b)]) hM.1 hM.2.1 dL_law_422 hl (by decide) rfl (fun ls hl => ?_)
      refine y_aload_n hM hl 13 rfl rfl dL_law_424 ?_
      refine y_iconst hM dL_law_425 ?_
      refine y_aload hM hl 8 rfl dL_law_426 ?_
      refine y_iconst hM dL_law_428 ?_
      refine y_iald hM hC hLK.2.2.2.2.2.2 rfl ⟨by omega, by omega⟩ (by decide) (x := ((NS T : Nat) : Int)) (by rw [show ((1 : Int)).toNat = 1 from rfl, hgS]) dL_law_429 ?_
      refine y_imul hM dL_law_430 ?_
      refine y_iload hM hl 3 rfl dL_law_431 ?_
      refine y_iast hM hC hLK.2.1 (fun _ _ => rfl) ⟨by omega, by omega⟩ (by decide) dL_law_433 (fun H locs hC => ?_)
      rw [show ((2) * (((NS T : Nat) : Int)) : Int).toNat = 2 * NS T from by omega] at hC
      refine y_aload hM hl 12 rfl dL_law_434 ?_
      refine y_aload hM hl 8 rfl dL_law_436 ?_
      refine y_iconst hM dL_law_438 ?_
      refine y_iald hM hC hLK.2.2.2.2.2.2 rfl ⟨by omega, by omega⟩ (by decide) (x := ((NS T : Nat) : Int)) (by rw [show ((1 : Int)).toNat = 1 from rfl, up_of (by omega), hgS]) dL_law_439 ?_
      refine y_iload hM hl 0 rfl dL_law_440 ?_
      refine y_i2l hM (by constructor <;> omega) dL_law_442 ?_
      refine y_ldc2 hM (v := 1000) (1000) (by decide) (by decide +kernel) dL_law_443 ?_
      refine y_lmul hM dL_law_446 ?_
      refine y_aload_n hM hl 14 rfl rfl dL_law_447 ?_
      refine y_iload hM hl 3 rfl dL_law_448 ?_
      refine y_aload hM hl 8 rfl dL_law_450 ?_
      refine y_iconst hM dL_law_452 ?_
      refine y_iald hM hC hLK.2.2.2.2.2.2 rfl ⟨by omega, by omega⟩ (by decide) (x := T 0 0 5) (by rw [show ((3 : Int)).toNat = 3 from rfl, up_of (by omega), hg3]) dL_law_453 ?_
      refine y_callS hM hC (c_L_price l hfl G b0 ks ad (up T 51 0 (2 * NS T) (((pv : Nat) : Int))) P (((pv : Nat) : Int)) (T 0 0 5) ⟨by omega, by omega⟩ ⟨by omega, by omega⟩ hLK.1 (hRP.congr (fun _ => up_ne (by omega)) (fun _ => up_ne (by omega)) (fun _ => up_ne (by omega)) (up_ne (by omega)) (up_of (by omega)))) (va_cwS 3 hM.2.2.2.2 gL_law_L_price rfl rfl rfl (by decide +kernel) ⟨(Nat.le_of_ble_eq_true rfl), (Nat.le_of_ble_eq_true rfl)⟩) rfl hl.1 rfl (Nat.le_of_ble_eq_true rfl) dL_law_454 ⟨(show _ ≤ 602294 by omega), (show _ ≤ 7294300 by omega)⟩ (fun E ce q9 u1 H locs hx hC hce hcv hcl => hx.elim) (fun v u1 H locs hp hC => ?_)
      obtain ⟨r_454, rfl, h_454, hu⟩ := hp; rw [hu] at hC; clear hu
      try dsimp only at h_454
      refine W.eq (g2 := F0 m 457 ls [.int (iI (r_454)), .long (lI ((r_419) * (1000))), .int (iI (((NS T : Nat) : Int))), .ref (ad 52 0)]) rfl ?_
      rw [valT_up (by decide), Int.toNat_natCast] at h_454
      have hv_454 := valT_in hRN (p := pv) hpv (T 0 0 5)
      refine y_i2l hM (by constructor <;> omega) dL_law_457 ?_
      refine y_ldiv hM ⟨by omega, by omega, by omega, by omega⟩ dL_law_458 ?_
      rw [show ((r_419) * (1000)) / (r_454) = thF r_419 (valT T pv (T 0 0 5)) from (by rw [h_454]; rfl)]
      refine y_last hM hC hLK.2.2.1 (fun _ _ => rfl) ⟨by omega, by omega⟩ (by decide) dL_law_459 (fun H locs hC => ?_)
      rw [show (((NS T : Nat) : Int) : Int).toNat = NS T from by omega] at hC
      refine y_aload hM hl 8 rfl dL_law_460 ?_
      refine y_iconst hM dL_law_462 ?_
      refine lv_dup2_11 hM.1 hM.2.1 dL_law_463 rfl rfl ?_
      refine y_iald hM hC hLK.2.2.2.2.2.2 rfl ⟨by omega, by omega⟩ (by decide) (x := ((NS T : Nat) : Int)) (by rw [show ((1 : Int)).toNat = 1 from rfl, up_of (by omega), up_of (by omega), hgS]) dL_law_464 ?_
      refine y_iconst hM dL_law_465 ?_
      refine y_iadd hM dL_law_466 ?_
      refine y_iast hM hC hLK.2.2.2.2.2.2 (fun _ _ => rfl) ⟨by omega, by omega⟩ (by decide) dL_law_467 (fun H locs hC => ?_)
      rw [show ((1 : Int)).toNat = 1 from rfl] at hC
      obtain ⟨T1, hT1⟩ : ∃ X : TT, X = (up (up (up T 51 0 (2 * NS T) (((pv : Nat) : Int))) 52 0 (NS T) (thF r_419 (valT T pv (T 0 0 5)))) 56 0 (1) ((((NS T : Nat) : Int)) + (1))) := ⟨_, rfl⟩
      rw [← hT1] at hC
      have hlo : LoE T1 T := by
        rw [hT1]
        exact (((LoE.r.hi (by decide)).hi (by decide)).hi (by decide))
      obtain ⟨hCK1, hNC1, hR1, hz1⟩ := hI.mid hlo
      obtain ⟨hF1, hRK1, hSK1, hOK1, hKF1, hLK1⟩ := id hCK1
      obtain ⟨hRN1, hDN1, hSN1, hON1, -, -, -⟩ := id hNC1
      have h05 : T1 0 0 5 = T 0 0 5 := by rw [hz1]
      have h06 : T1 0 0 6 = T 0 0 6 := by rw [hz1]
      have h07 : T1 0 0 7 = T 0 0 7 := by rw [hz1]
      have h08 : T1 0 0 8 = T 0 0 8 := by rw [hz1]
      have hT1b : T1 = mBeg T (NS T) ((pv : Nat) : Int) (thF r_419 (valT T (((pv : Nat) : Int)).toNat (T 0 0 5))) (T 0 0 7 + 1) := by
        rw [hT1, Int.toNat_natCast, ← hns]
        rfl
      refine y_aload_n hM hl 15 rfl rfl dL_law_468 ?_
      refine y_iload hM hl 3 rfl dL_law_469 ?_
      refine y_iload hM hl 0 rfl dL_law_471 ?_
      refine y_callV hM hC (c_begin l hfl G b0 ks ad T1 P (((pv : Nat) : Int)) (r_419) ⟨by omega, by omega⟩ ⟨by omega, by omega⟩ (hKF1.1 _ (by omega)) hF1 hRK1 hRN1 hDN1 ⟨by omega, by omega⟩) (cwV 2 hM.2.2.2.2 gL_law_X3_begin rfl rfl rfl (by decide +kernel) ⟨(Nat.le_of_ble_eq_true rfl), (Nat.le_of_ble_eq_true rfl)⟩) (y_recv hC hF1.1 rfl rfl) rfl hl.1 rfl (Nat.le_of_ble_eq_true rfl) dL_law_473 ⟨(show _ ≤ 602294 by omega), (show _ ≤ 7294300 by omega)⟩ (fun E ce q9 u1 H locs hx hC hce hcv hcl => by
          obtain ⟨x, rfl, hx, hu⟩ := hx; rw [hu] at hC; clear hu; try dsimp only at hx
          exact False.elim (by omega)) (fun v u1 H locs hp hC => ?_)
      obtain ⟨r_473, q, rfl, h_473, hu⟩ := hp; rw [hu] at hC; clear hu; try dsimp only at h_473
      obtain ⟨ad2, had2⟩ : ∃ a : AD, a = upA ad 10 (T1 0 0 7).toNat q := ⟨_, rfl⟩
      rw [← had2] at hC
      have e2_0 : ad2 56 0 = ad 56 0 := by rw [had2, upA_ne (fun h => absurd h.1 (by decide))]
      have e2_1 : ad2 55 0 = ad 55 0 := by rw [had2, upA_ne (fun h => absurd h.1 (by decide))]
      have e2_2 : ad2 54 0 = ad 54 0 := by rw [had2, upA_ne (fun h => absurd h.1 (by decide))]
      have e2_3 : ad2 53 0 = ad 53 0 := by rw [had2, upA_ne (fun h => absurd h.1 (by decide))]
      have e2_4 : ad2 52 0 = ad 52 0 := by rw [had2, upA_ne (fun h => absurd h.1 (by decide))]
      have e2_5 : ad2 51 0 = ad 51 0 := by rw [had2, upA_ne (fun h => absurd h.1 (by decide))]
      have e2_6 : ad2 50 0 = ad 50 0 := by rw [had2, upA_ne (fun h => absurd h.1 (by decide))]
      have e2_7 : ad2 0 0 = ad 0 0 := by rw [had2, upA_ne (fun h => absurd h.1 (by decide))]
      have hl : lv_has ls 30 [(16, .int (iI (r_419))), (15, .int (iI (((k : Nat) : Int)))), (14, .int (iI (((sv : Nat) : Int)))), (13, .int (iI (((pv : Nat) : Int)))), (12, .int (iI (kd))), (11, .int (iI (yy))), (10, .int (iI (xx))), (9, .int (iI (((i : Nat) : Int)))), (8, .ref (ad2 56 0)), (7, .ref (ad2 55 0)), (6, .ref (ad2 54 0)), (5, .ref (ad2 53 0)), (4, .ref (ad2 52 0)), (3, .ref (ad2 51 0)), (2, .ref (ad2 50 0)), (1, .ref (ad2 0 0)), (0, .ref b)] := by rw [e2_0, e2_1, e2_2, e2_3, e2_4, e2_5, e2_6, e2_7]; exact hl
      refine W.eq (g2 := F0 m 476 ls [.int (iI (r_473))]) rfl ?_
      have hLKb : LK (ks ++ [(10, (T1 0 0 7).toNat)]) := hLK1.app
      refine y_aload hM hl 8 rfl dL_law_476 ?_
      refine y_iconst hM dL_law_478 ?_
      refine y_iald hM hC hLKb.2.2.2.2.2.2 rfl ⟨by omega, by omega⟩ (by decide) (x := ((NS T : Nat) : Int) + (1)) ((begT_hi 56 0 1 (by omega)).trans (by rw [hT1, up_at rfl])) dL_law_479 ?_
      refine y_iconst hM dL_law_480 ?_
      refine y_isub hM dL_law_481 ?_
      refine y_icmp_eq hM (by constructor <;> omega) (by constructor <;> omega) (tgt := 487) dL_law_482 (by decide) (fun c_482 => ?_) (fun c_482 => False.elim (by omega))
      refine lv_goto (tgt := 1608) hM.1 hM.2.1 dL_law_487 (by decide) ?_
      exact kk _ _ _ _ _ _ _ _ ls (by omega) (by omega) hC (by
          rw [had2]
          exact op_beg hI ⟨by omega, by omega⟩ ⟨by omega, by omega⟩ (by omega) hT1b) ⟨hl.1, hl.2.1, fun q hq => hl.2.2 q ((List.forall_mem_cons.mpr ⟨List.mem_of_getElem? (i := 5) rfl, (List.forall_mem_cons.mpr ⟨List.mem_of_getElem? (i := 7) rfl, (List.forall_mem_cons.mpr ⟨List.mem_of_getElem? (i := 8) rfl, (List.forall_mem_cons.mpr ⟨List.mem_of_getElem? (i := 9) rfl, (List.forall_mem_cons.mpr ⟨List.mem_of_getElem? (i := 10) rfl, (List.forall_mem_cons.mpr ⟨List.mem_of_getElem? (i := 11) rfl, (List.forall_mem_cons.mpr ⟨List.mem_of_getElem? (i := 12) rfl, (List.forall_mem_cons.mpr ⟨List.mem_of_getElem? (i := 13) rfl, (List.forall_mem_cons.mpr ⟨List.mem_of_getElem? (i := 14) rfl, (List.forall_mem_cons.mpr ⟨List.mem_of_getElem? (i := 15) rfl, (List.forall_mem_cons.mpr ⟨List.mem_of_getElem? (i := 16) rfl, (fun _ h => absurd h List.not_mem_nil)⟩)⟩)⟩)⟩)⟩)⟩)⟩)⟩)⟩)⟩)⟩) q hq)⟩
  ·
    refine lv_goto (tgt := 1643) hM.1 hM.2.1 dL_law_392 (by decide) ?_
    exact kn _ _ _ _ _ _ _ _ ls (by omega) (by omega) hC hI ⟨hl.1, hl.2.1, fun q hq => hl.2.2 q ((List.forall_mem_cons.mpr ⟨List.mem_of_getElem? (i := 6) rfl, (List.forall_mem_cons.mpr ⟨List.mem_of_getElem? (i := 7) rfl, (List.forall_mem_cons.mpr ⟨List.mem_of_getElem? (i := 8) rfl, (List.forall_mem_cons.mpr ⟨List.mem_of_getElem? (i := 9) rfl, (List.forall_mem_cons.mpr ⟨List.mem_of_getElem? (i := 10) rfl, (List.forall_mem_cons.mpr ⟨List.mem_of_getElem? (i := 11) rfl, (List.forall_mem_cons.mpr ⟨List.mem_of_getElem? (i := 12) rfl, (List.forall_mem_cons.mpr ⟨List.mem_of_getElem? (i := 13) rfl, (List.forall_mem_cons.mpr ⟨List.mem_of_getElem? (i := 14) rfl, (List.forall_mem_cons.mpr ⟨List.mem_of_getElem? (i := 15) rfl, (fun _ h => absurd h List.not_mem_nil)⟩)⟩)⟩)⟩)⟩)⟩)⟩)⟩)⟩)⟩) q hq)⟩

set_option maxRecDepth 100000 in
set_option maxHeartbeats 16000000 in
theorem law_pay {p : Program} {e : Env} {s : State} {m : MethodId} {below : List Frame} {meth : Method} {c : Code} {Q : State → Prop} (l : Launch) (hfl : l.stackTraces = false) (G : GG) (b0 : Nat) {b L : Nat} {xs : Nat → Int32} (hM : CallFix p m c cL_law 30 s #[Value.ref b] wsL_law RL) (hN : NcX s) (hX : va_X b L xs s s.heap) (hbA : ¬ b0 ≤ b) (hbl : b < s.heap.size) (hL : L ≤ 260) {ks : KK} {ad : AD} {T : TT} {P : PP} {H : Heap} {locs : List Loc} {cells slots : Nat} (hcl : cells + 400 ≤ 602294) (hsl : slots + 3000 ≤ 7294300) (i : Nat) (xx yy kd : Int) (pv sv k : Nat) (hkd : 0 ≤ kd ∧ kd < 20) (hpv : pv < 5) (hsv : (T 0 0 7 = 0 ∧ sv = 0) ∨ (sv : Int) < T 0 0 7) (hkv : (T 0 0 8 = 0 ∧ k = 0) ∨ (k : Int) < T 0 0 8) {ls : Array Slot} (hl : lv_has ls 30 [(15, .int (iI (((k : Nat) : Int)))), (14, .int (iI (((sv : Nat) : Int)))), (13, .int (iI (((pv : Nat) : Int)))), (12, .int (iI (kd))), (11, .int (iI (yy))), (10, .int (iI (xx))), (9, .int (iI (((i : Nat) : Int)))), (8, .ref (ad 56 0)), (7, .ref (ad 55 0)), (6, .ref (ad 54 0)), (5, .ref (ad 53 0)), (4, .ref (ad 52 0)), (3, .ref (ad 51 0)), (2, .ref (ad 50 0)), (1, .ref (ad 0 0)), (0, .ref b)]) (hC : Cur G b0 (ks, ad, T, P) s H locs) (hI : IV ks ad T P)
    (kk : ∀ (ks1 : KK) (ad1 : AD) (T1 : TT) (P1 : PP) (H1 : Heap) (locs1 : List Loc) (cells1 slots1 : Nat) (ls1 : Array Slot), cells1 ≤ cells + 40 → slots1 ≤ slots + 400 → Cur G b0 (ks1, ad1, T1, P1) s H1 locs1 → IV ks1 ad1 T1 P1 → lv_has ls1 30 [(11, .int (iI (yy))), (9, .int (iI (((i : Nat) : Int)))), (8, .ref (ad1 56 0)), (7, .ref (ad1 55 0)), (6, .ref (ad1 54 0)), (5, .ref (ad1 53 0)), (4, .ref (ad1 52 0)), (3, .ref (ad1 51 0)), (2, .ref (ad1 50 0)), (1, .ref (ad1 0 0)), (0, .ref b)] → W p l e room_1 s m #[Value.ref b] below meth c H1 locs1 cells1 slots1 Q (F0 m 1608 ls1 [])) (kn : ∀ (ks1 : KK) (ad1 : AD) (T1 : TT) (P1 : PP) (H1 : Heap) (locs1 : List Loc) (cells1 slots1 : Nat) (ls1 : Array Slot), cells1 ≤ cells + 400 → slots1 ≤ slots + 3000 → Cur G b0 (ks1, ad1, T1, P1) s H1 locs1 → IV ks1 ad1 T1 P1 → lv_has ls1 30 [(9, .int (iI (((i : Nat) : Int)))), (8, .ref (ad1 56 0)), (7, .ref (ad1 55 0)), (6, .ref (ad1 54 0)), (5, .ref (ad1 53 0)), (4, .ref (ad1 52 0)), (3, .ref (ad1 51 0)), (2, .ref (ad1 50 0)), (1, .ref (ad1 0 0)), (0, .ref b)] → W p l e room_1 s m #[Value.ref b] below meth c H1 locs1 cells1 slots1 Q (F0 m 1643 ls1 [])) :
    W p l e room_1 s m #[Value.ref b] below meth c H locs cells slots Q (F0 m 497 ls []) := by
  obtain ⟨hCK, hNC, hR⟩ := id hI
  obtain ⟨hF, hRK, hSK, hOK, hKF, hLK⟩ := id hCK
  obtain ⟨hRN, hDN, hSN, hON, hXP, hXO, hXD⟩ := id hNC
  obtain ⟨⟨hg1, h75, hg2, h87, hg3, h19, hg4, hg0⟩, hRP, hRS, hRO, hRD⟩ := id hR
  obtain ⟨hd0, hd1, hd2, hd3⟩ := id hDN
  have hs70 := hSK.1
  have ho80 := hOK.1
  have hP1 := hRP.1.1
  refine y_iconst hM dL_law_497 ?_
  refine y_iload hM hl 4 rfl dL_law_498 ?_
  refine y_iconst hM dL_law_500 ?_
  refine lv_ishr hM.1 hM.2.1 dL_law_501 ?_
  obtain ⟨z_501, ez_501⟩ : ∃ z : Int, (iI (yy) >>> (iI (2) &&& 31)) = iI z := ⟨_, iI_of _⟩
  rw [ez_501]
  refine y_ldc hM (v := 1000000) (1000000) (by decide) (by decide +kernel) dL_law_502 ?_
  refine y_callS hM hC (c_L_low l hfl G b0 (ks, ad, T, P) (z_501) (1000000) ⟨by omega, by omega⟩) (va_cwS 2 hM.2.2.2.2 gL_law_L_low rfl rfl rfl (by decide +kernel) ⟨(Nat.le_of_ble_eq_true rfl), (Nat.le_of_ble_eq_true rfl)⟩) rfl hl.1 rfl (Nat.le_of_ble_eq_true rfl) dL_law_504 ⟨(show _ ≤ 602294 by omega), (show _ ≤ 7294300 by omega)⟩ (fun E ce q9 u1 H locs hx hC hce hcv hcl => hx.elim) (fun v u1 H locs hp hC => ?_)
  obtain ⟨r_504, rfl, h_504, hu⟩ := hp; rw [hu] at hC; clear hu
  try dsimp only at h_504
  refine W.eq (g2 := F0 m 507 ls [.int (iI (r_504)), .int (iI (1))]) rfl ?_
  refine y_iadd hM dL_law_507 ?_
  refine lv_istore (lv' := [(16, .int (iI ((1) + (r_504)))), (15, .int (iI (((k : Nat) : Int)))), (14, .int (iI (((sv : Nat) : Int)))), (13, .int (iI (((pv : Nat) : Int)))), (12, .int (iI (kd))), (11, .int (iI (yy))), (10, .int (iI (xx))), (9, .int (iI (((i : Nat) : Int)))), (8, .ref (ad 56 0)), (7, .ref (ad 55 0)), (6, .ref (ad 54 0)), (5, .ref (ad 53 0)), (4, .ref (ad 52 0)), (3, .ref (ad 51 0)), (2, .ref (ad 50 0)), (1, .ref (ad 0 0)), (0, .ref b)]) hM.1 hM.2.1 dL_law_508 hl (by decide) rfl (fun ls hl => ?_)
  refine y_aload hM hl 8 rfl dL_law_510 ?_
  refine y_iconst hM dL_law_512 ?_
  refine y_iald hM hC hLK.2.2.2.2.2.2 rfl ⟨by omega, by omega⟩ (by decide) (x := T 0 0 7) (by rw [show ((1 : Int)).toNat = 1 from rfl, hg1]) dL_law_513 ?_
  refine y_if_ne hM (by constructor <;> omega) (tgt := 521) dL_law_514 (by decide) (fun c_514 => ?_) (fun c_514 => ?_)
  ·
    have hs7 : (sv : Int) < T 0 0 7 := by omega
    have hsr := hRS.1 sv hs7
    have hsn := hSN sv hs7
    refine y_iload hM hl 0 rfl dL_law_521 ?_
    refine y_i2l hM (by constructor <;> omega) dL_law_523 ?_
    refine y_ldc2 hM (v := 1000) (1000) (by decide) (by decide +kernel) dL_law_524 ?_
    refine y_lmul hM dL_law_527 ?_
    refine y_aload_n hM hl 14 rfl rfl dL_law_528 ?_
    refine y_aload_n hM hl 13 rfl rfl dL_law_529 ?_
    refine y_iconst hM dL_law_530 ?_
    refine y_iload hM hl 2 rfl dL_law_531 ?_
    refine y_imul hM dL_law_533 ?_
    refine y_iald hM hC hLK.2.1 rfl ⟨by omega, by omega⟩ (by decide) (x := T 10 sv 0) (by rw [show ((2) * (((sv : Nat) : Int)) : Int).toNat = 2 * sv from by omega, hsr.1]) dL_law_534 ?_
    refine y_aload hM hl 8 rfl dL_law_535 ?_
    refine y_iconst hM dL_law_537 ?_
    refine y_iald hM hC hLK.2.2.2.2.2.2 rfl ⟨by omega, by omega⟩ (by decide) (x := T 0 0 5) (by rw [show ((3 : Int)).toNat = 3 from rfl, hg3]) dL_law_538 ?_
    refine y_callS hM hC (c_L_price l hfl G b0 ks ad T P (T 10 sv 0) (T 0 0 5) ⟨by omega, by omega⟩ ⟨by omega, by omega⟩ hLK.1 hRP) (va_cwS 3 hM.2.2.2.2 gL_law_L_price rfl rfl rfl (by decide +kernel) ⟨(Nat.le_of_ble_eq_true rfl), (Nat.le_of_ble_eq_true rfl)⟩) rfl hl.1 rfl (Nat.le_of_ble_eq_true rfl) dL_law_539 ⟨(show _ ≤ 602294 by omega), (show _ ≤ 7294300 by omega)⟩ (fun E ce q9 u1 H locs hx hC hce hcv hcl => hx.elim) (fun v u1 H locs hp hC => ?_)
    obtain ⟨r_539, rfl, h_539, hu⟩ := hp; rw [hu] at hC; clear hu
    try dsimp only at h_539
    refine W.eq (g2 := F0 m 542 ls [.int (iI (r_539)), .long (lI (((1) + (r_504)) * (1000)))]) rfl ?_
    have hv_539 := valT_in hRN (p := (T 10 sv 0).toNat) (by omega) (T 0 0 5)
    have hm1 := thF_nn (m := (1) + (r_504)) (pr := valT T (T 10 sv 0).toNat (T 0 0 5)) (by omega) (by omega)
    have hm2 := thF_le (m := (1) + (r_504)) (pr := valT T (T 10 sv 0).toNat (T 0 0 5)) (by omega) (by omega)
    refine y_i2l hM (by constructor <;> omega) dL_law_542 ?_
    refine y_ldiv hM ⟨by omega, by omega, by omega, by omega⟩ dL_law_543 ?_
    rw [show (((1) + (r_504)) * (1000)) / (r_539) = thF ((1) + (r_504)) (valT T (T 10 sv 0).toNat (T 0 0 5)) from (by rw [h_539]; rfl)]
    refine lv_lstore (lv' := [(17, .long (lI (thF ((1) + (r_504)) (valT T (T 10 sv 0).toNat (T 0 0 5))))), (16, .int (iI ((1) + (r_504)))), (15, .int (iI (((k : Nat) : Int)))), (14, .int (iI (((sv : Nat) : Int)))), (13, .int (iI (((pv : Nat) : Int)))), (12, .int (iI (kd))), (11, .int (iI (yy))), (10, .int (iI (xx))), (9, .int (iI (((i : Nat) : Int)))), (8, .ref (ad 56 0)), (7, .ref (ad 55 0)), (6, .ref (ad 54 0)), (5, .ref (ad 53 0)), (4, .ref (ad 52 0)), (3, .ref (ad 51 0)), (2, .ref (ad 50 0)), (1, .ref (ad 0 0)), (0, .ref b)]) hM.1 hM.2.1 dL_law_544 hl (by decide) rfl (fun ls hl => ?_)
    refine y_aload hM hl 9 rfl dL_law_546 ?_
    refine y_iconst hM dL_law_548 ?_
    refine y_iald hM hC hLK.2.2.2.2.2.2 rfl ⟨by omega, by omega⟩ (by decide) (x := T 0 0 7) (by rw [show ((1 : Int)).toNat = 1 from rfl, hg1]) dL_law_549 ?_
    refine y_if_ne hM (by constructor <;> omega) (tgt := 557) dL_law_550 (by decide) (fun c_550 => ?_) (fun c_550 => False.elim (by omega))
    refine y_aload_n hM hl 14 rfl rfl dL_law_557 ?_
    refine y_iconst hM dL_law_558 ?_
    refine y_iload hM hl 3 rfl dL_law_559 ?_
    refine y_imul hM dL_law_561 ?_
    refine y_iconst hM dL_law_562 ?_
    refine y_iadd hM dL_law_563 ?_
    refine y_iald hM hC hLK.2.1 rfl ⟨by omega, by omega⟩ (by decide) (x := T 10 sv 2) (by rw [show (((2) * (((sv : Nat) : Int))) + (1) : Int).toNat = 2 * sv + 1 from by omega, hsr.2.1]) dL_law_564 ?_
    refine y_iconst hM dL_law_565 ?_
    refine y_icmp_eq hM (by constructor <;> omega) (by constructor <;> omega) (tgt := 584) dL_law_566 (by decide) (fun c_566 => ?_) (fun c_566 => ?_)
    ·
      refine y_iconst hM dL_law_584 ?_
      refine lv_goto (tgt := 589) hM.1 hM.2.1 dL_law_585 (by decide) ?_
      refine lv_istore (lv' := [(19, .int (iI (3))), (17, .long (lI (thF ((1) + (r_504)) (valT T (T 10 sv 0).toNat (T 0 0 5))))), (16, .int (iI ((1) + (r_504)))), (15, .int (iI (((k : Nat) : Int)))), (14, .int (iI (((sv : Nat) : Int)))), (13, .int (iI (((pv : Nat) : Int)))), (12, .int (iI (kd))), (11, .int (iI (yy))), (10, .int (iI (xx))), (9, .int (iI (((i : Nat) : Int)))), (8, .ref (ad 56 0)), (7, .ref (ad 55 0)), (6, .ref (ad 54 0)), (5, .ref (ad 53 0)), (4, .ref (ad 52 0)), (3, .ref (ad 51 0)), (2, .ref (ad 50 0)), (1, .ref (ad 0 0)), (0, .ref b)]) hM.1 hM.2.1 dL_law_589 hl (by decide) rfl (fun ls hl => ?_)
      refine y_iload hM hl 0 rfl dL_law_591 ?_
      refine y_if_le hM (by constructor <;> omega) (tgt := 612) dL_law_593 (by decide) (fun c_593 => False.elim (by omega)) (fun c_593 => ?_)
      refine y_aload_n hM hl 17 rfl rfl dL_law_596 ?_
      refine y_iconst hM dL_law_597 ?_
      refine y_iload hM hl 4 rfl dL_law_598 ?_
      refine y_iload hM hl 2 rfl dL_law_600 ?_
      refine y_callSX hM hN hC (c_ref_pay l hfl G b0 ks ad T P (((sv : Nat) : Int)) ((1) + (r_504)) ⟨by omega, by omega⟩ ⟨by omega, by omega⟩ hF hRK hRN hDN hSK hSN hOK hON (by rw [Int.toNat_natCast]; omega)) (vx_cwSW 4 hM.2.2.2.2 gL_law_L_refused rfl rfl rfl (by decide +kernel) ⟨(Nat.le_of_ble_eq_true rfl), (Nat.le_of_ble_eq_true rfl)⟩) rfl hl.1 rfl (Nat.le_of_ble_eq_true rfl) dL_law_602 ⟨(show _ ≤ 602294 by omega), (show _ ≤ 7294300 by omega)⟩ (fun E ce q9 u1 H locs hx hC hce hcv hcl => hx.elim) (fun v u1 H locs hp hC => ?_)
      obtain ⟨r_602, rfl, h_602, hu⟩ := hp; rw [hu] at hC; clear hu
      try dsimp only at h_602
      refine W.eq (g2 := F0 m 605 ls [.int (iI (r_602))]) rfl ?_
      refine y_iload hM hl 0 rfl dL_law_605 ?_
      refine y_icmp_eq hM (by constructor <;> omega) (by constructor <;> omega) (tgt := 1643) dL_law_607 (by decide) (fun c_607 => ?_) (fun c_607 => False.elim (by omega))
      exact kn _ _ _ _ _ _ _ _ ls (by omega) (by omega) hC hI ⟨hl.1, hl.2.1, fun q hq => hl.2.2 q ((List.forall_mem_cons.mpr ⟨List.mem_of_getElem? (i := 9) rfl, (List.forall_mem_cons.mpr ⟨List.mem_of_getElem? (i := 10) rfl, (List.forall_mem_cons.mpr ⟨List.mem_of_getElem? (i := 11) rfl, (List.forall_mem_cons.mpr ⟨List.mem_of_getElem? (i := 12) rfl, (List.forall_mem_cons.mpr ⟨List.mem_of_getElem? (i := 13) rfl, (List.forall_mem_cons.mpr ⟨List.mem_of_getElem? (i := 14) rfl, (List.forall_mem_cons.mpr ⟨List.mem_of_getElem? (i := 15) rfl, (List.forall_mem_cons.mpr ⟨List.mem_of_getElem? (i := 16) rfl, (List.forall_mem_cons.mpr ⟨List.mem_of_getElem? (i := 17) rfl, (List.forall_mem_cons.mpr ⟨List.mem_of_getElem? (i := 18) rfl, (fun _ h => absurd h List.not_mem_nil)⟩)⟩)⟩)⟩)⟩)⟩)⟩)⟩)⟩)⟩) q hq)⟩
    ·
      refine y_aload hM hl 13 rfl dL_law_569 ?_
      refine y_iload hM hl 3 rfl dL_law_571 ?_
      refine y_lald hM hC hLK.2.2.1 rfl ⟨by omega, by omega⟩ (by decide) (x := T 10 sv 1) (by rw [show (((sv : Nat) : Int) : Int).toNat = sv from by omega, hsr.2.2]) dL_law_573 ?_
      refine y_lload hM hl 0 rfl dL_law_574 ?_
      refine y_ladd hM dL_law_576 ?_
      refine y_ldc2 hM (v := 100000000) (100000000) (by decide) (by decide +kernel) dL_law_577 ?_
      refine y_lcmp hM (by constructor <;> omega) (by constructor <;> omega) dL_law_580 ?_
      have hcl_580 := cmpI_le ((T 10 sv 1) + (thF ((1) + (r_504)) (valT T (T 10 sv 0).toNat (T 0 0 5)))) (100000000)
      have hcg_580 := cmpI_gt ((T 10 sv 1) + (thF ((1) + (r_504)) (valT T (T 10 sv 0).toNat (T 0 0 5)))) (100000000)
      have hce_580 := cmpI_eq ((T 10 sv 1) + (thF ((1) + (r_504)) (valT T (T 10 sv 0).toNat (T 0 0 5)))) (100000000)
      refine y_if_le hM (cmpI_in _ _) (tgt := 588) dL_law_581 (by decide) (fun c_581 => ?_) (fun c_581 => ?_)
      ·
        refine y_iconst hM dL_law_588 ?_
        refine lv_istore (lv' := [(19, .int (iI (0))), (17, .long (lI (thF ((1) + (r_504)) (valT T (T 10 sv 0).toNat (T 0 0 5))))), (16, .int (iI ((1) + (r_504)))), (15, .int (iI (((k : Nat) : Int)))), (14, .int (iI (((sv : Nat) : Int)))), (13, .int (iI (((pv : Nat) : Int)))), (12, .int (iI (kd))), (11, .int (iI (yy))), (10, .int (iI (xx))), (9, .int (iI (((i : Nat) : Int)))), (8, .ref (ad 56 0)), (7, .ref (ad 55 0)), (6, .ref (ad 54 0)), (5, .ref (ad 53 0)), (4, .ref (ad 52 0)), (3, .ref (ad 51 0)), (2, .ref (ad 50 0)), (1, .ref (ad 0 0)), (0, .ref b)]) hM.1 hM.2.1 dL_law_589 hl (by decide) rfl (fun ls hl => ?_)
        refine y_iload hM hl 0 rfl dL_law_591 ?_
        refine y_if_le hM (by constructor <;> omega) (tgt := 612) dL_law_593 (by decide) (fun c_593 => ?_) (fun c_593 => False.elim (by omega))
        refine y_aload hM hl 14 rfl dL_law_612 ?_
        refine y_iload hM hl 4 rfl dL_law_614 ?_
        refine lv_dup2_11 hM.1 hM.2.1 dL_law_616 rfl rfl ?_
        refine y_lald hM hC hLK.2.2.1 rfl ⟨by omega, by omega⟩ (by decide) (x := T 10 sv 1) (by rw [show (((sv : Nat) : Int) : Int).toNat = sv from by omega, hsr.2.2]) dL_law_617 ?_
        refine y_lload hM hl 1 rfl dL_law_618 ?_
        refine y_ladd hM dL_law_620 ?_
        refine y_last hM hC hLK.2.2.1 (fun _ _ => rfl) ⟨by omega, by omega⟩ (by decide) dL_law_621 (fun H locs hC => ?_)
        rw [show (((sv : Nat) : Int) : Int).toNat = sv from by omega] at hC
        obtain ⟨T1, hT1⟩ : ∃ X : TT, X = (up T 52 0 (sv) ((T 10 sv 1) + (thF ((1) + (r_504)) (valT T (T 10 sv 0).toNat (T 0 0 5))))) := ⟨_, rfl⟩
        rw [← hT1] at hC
        have hlo : LoE T1 T := by
          rw [hT1]
          exact (LoE.r.hi (by decide))
        obtain ⟨hCK1, hNC1, hR1, hz1⟩ := hI.mid hlo
        obtain ⟨hF1, hRK1, hSK1, hOK1, hKF1, hLK1⟩ := id hCK1
        obtain ⟨hRN1, hDN1, hSN1, hON1, -, -, -⟩ := id hNC1
        have h05 : T1 0 0 5 = T 0 0 5 := by rw [hz1]
        have h06 : T1 0 0 6 = T 0 0 6 := by rw [hz1]
        have h07 : T1 0 0 7 = T 0 0 7 := by rw [hz1]
        have h08 : T1 0 0 8 = T 0 0 8 := by rw [hz1]
        have e10 : T1 10 sv = T 10 sv := hlo 10 sv (by omega)
        refine y_aload_n hM hl 17 rfl rfl dL_law_622 ?_
        refine y_iload hM hl 4 rfl dL_law_623 ?_
        refine y_iload hM hl 2 rfl dL_law_625 ?_
        refine y_callV hM hC (c_pay l hfl G b0 ks ad T1 P (((sv : Nat) : Int)) ((1) + (r_504)) ⟨by omega, by omega⟩ ⟨by omega, by omega⟩ hF1 hSK1 hSN1 hRK1 hRN1 hDN1) (cwV 2 hM.2.2.2.2 gL_law_X3_pay rfl rfl rfl (by decide +kernel) ⟨(Nat.le_of_ble_eq_true rfl), (Nat.le_of_ble_eq_true rfl)⟩) (y_recv hC hF1.1 rfl rfl) rfl hl.1 rfl (Nat.le_of_ble_eq_true rfl) dL_law_627 ⟨(show _ ≤ 602294 by omega), (show _ ≤ 7294300 by omega)⟩ (fun E ce q9 u1 H locs hx hC hce hcv hcl => by
            obtain ⟨x, rfl, hx, hu⟩ := hx; rw [hu] at hC; clear hu; try dsimp only at hx
            exact False.elim ((by rw [Int.toNat_natCast, valT_lo hlo, e10, h05, h07] at hx; omega))) (fun v u1 H locs hp hC => ?_)
        obtain ⟨r_627, rfl, h_627, hu⟩ := hp; rw [hu] at hC; clear hu
        try dsimp only at h_627
        refine W.eq (g2 := F0 m 630 ls [.int (iI (r_627))]) rfl ?_
        rw [Int.toNat_natCast, valT_lo hlo, e10, h05] at hC
        rw [Int.toNat_natCast, valT_lo hlo, e10, h05] at h_627
        obtain ⟨e_627, h_627⟩ := h_627
        subst e_627
        rw [← show T1 10 sv 1 = T 10 sv 1 by rw [e10]] at hC
        refine y_i2l hM (by constructor <;> omega) dL_law_630 ?_
        refine y_lload hM hl 1 rfl dL_law_631 ?_
        refine y_lcmpE hM dL_law_633 ?_
        refine y_if_eq hM (by constructor <;> omega) (tgt := 639) dL_law_634 (by decide) (fun c_634 => ?_) (fun c_634 => False.elim (by omega))
        refine lv_goto (tgt := 1608) hM.1 hM.2.1 dL_law_639 (by decide) ?_
        exact kk _ _ _ _ _ _ _ _ ls (by omega) (by omega) hC (by
            rw [show T1 10 sv 1 = T 10 sv 1 by rw [e10]]
            have h := op_pay (i := sv) (u := thF ((1) + (r_504)) (valT T (T 10 sv 0).toNat (T 0 0 5))) hI hs7 ⟨by omega, by omega⟩ hT1
            rw [show T1 10 sv 1 = T 10 sv 1 by rw [e10]] at h
            exact h) ⟨hl.1, hl.2.1, fun q hq => hl.2.2 q ((List.forall_mem_cons.mpr ⟨List.mem_of_getElem? (i := 7) rfl, (List.forall_mem_cons.mpr ⟨List.mem_of_getElem? (i := 9) rfl, (List.forall_mem_cons.mpr ⟨List.mem_of_getElem? (i := 10) rfl, (List.forall_mem_cons.mpr ⟨List.mem_of_getElem? (i := 11) rfl, (List.forall_mem_cons.mpr ⟨List.mem_of_getElem? (i := 12) rfl, (List.forall_mem_cons.mpr ⟨List.mem_of_getElem? (i := 13) rfl, (List.forall_mem_cons.mpr ⟨List.mem_of_getElem? (i := 14) rfl, (List.forall_mem_cons.mpr ⟨List.mem_of_getElem? (i := 15) rfl, (List.forall_mem_cons.mpr ⟨List.mem_of_getElem? (i := 16) rfl, (List.forall_mem_cons.mpr ⟨List.mem_of_getElem? (i := 17) rfl, (List.forall_mem_cons.mpr ⟨List.mem_of_getElem? (i := 18) rfl, (fun _ h => absurd h List.not_mem_nil)⟩)⟩)⟩)⟩)⟩)⟩)⟩)⟩)⟩)⟩)⟩) q hq)⟩
      ·
        refine y_iconst hM dL_law_584 ?_
        refine lv_goto (tgt := 589) hM.1 hM.2.1 dL_law_585 (by decide) ?_
        refine lv_istore (lv' := [(19, .int (iI (3))), (17, .long (lI (thF ((1) + (r_504)) (valT T (T 10 sv 0).toNat (T 0 0 5))))), (16, .int (iI ((1) + (r_504)))), (15, .int (iI (((k : Nat) : Int)))), (14, .int (iI (((sv : Nat) : Int)))), (13, .int (iI (((pv : Nat) : Int)))), (12, .int (iI (kd))), (11, .int (iI (yy))), (10, .int (iI (xx))), (9, .int (iI (((i : Nat) : Int)))), (8, .ref (ad 56 0)), (7, .ref (ad 55 0)), (6, .ref (ad 54 0)), (5, .ref (ad 53 0)), (4, .ref (ad 52 0)), (3, .ref (ad 51 0)), (2, .ref (ad 50 0)), (1, .ref (ad 0 0)), (0, .ref b)]) hM.1 hM.2.1 dL_law_589 hl (by decide) rfl (fun ls hl => ?_)
        refine y_iload hM hl 0 rfl dL_law_591 ?_
        refine y_if_le hM (by constructor <;> omega) (tgt := 612) dL_law_593 (by decide) (fun c_593 => False.elim (by omega)) (fun c_593 => ?_)
        refine y_aload_n hM hl 17 rfl rfl dL_law_596 ?_
        refine y_iconst hM dL_law_597 ?_
        refine y_iload hM hl 4 rfl dL_law_598 ?_
        refine y_iload hM hl 2 rfl dL_law_600 ?_
        refine y_callSX hM hN hC (c_ref_pay l hfl G b0 ks ad T P (((sv : Nat) : Int)) ((1) + (r_504)) ⟨by omega, by omega⟩ ⟨by omega, by omega⟩ hF hRK hRN hDN hSK hSN hOK hON (by rw [Int.toNat_natCast]; omega)) (vx_cwSW 4 hM.2.2.2.2 gL_law_L_refused rfl rfl rfl (by decide +kernel) ⟨(Nat.le_of_ble_eq_true rfl), (Nat.le_of_ble_eq_true rfl)⟩) rfl hl.1 rfl (Nat.le_of_ble_eq_true rfl) dL_law_602 ⟨(show _ ≤ 602294 by omega), (show _ ≤ 7294300 by omega)⟩ (fun E ce q9 u1 H locs hx hC hce hcv hcl => hx.elim) (fun v u1 H locs hp hC => ?_)
        obtain ⟨r_602, rfl, h_602, hu⟩ := hp; rw [hu] at hC; clear hu
        try dsimp only at h_602
        refine W.eq (g2 := F0 m 605 ls [.int (iI (r_602))]) rfl ?_
        refine y_iload hM hl 0 rfl dL_law_605 ?_
        refine y_icmp_eq hM (by constructor <;> omega) (by constructor <;> omega) (tgt := 1643) dL_law_607 (by decide) (fun c_607 => ?_) (fun c_607 => False.elim (by omega))
        exact kn _ _ _ _ _ _ _ _ ls (by omega) (by omega) hC hI ⟨hl.1, hl.2.1, fun q hq => hl.2.2 q ((List.forall_mem_cons.mpr ⟨List.mem_of_getElem? (i := 9) rfl, (List.forall_mem_cons.mpr ⟨List.mem_of_getElem? (i := 10) rfl, (List.forall_mem_cons.mpr ⟨List.mem_of_getElem? (i := 11) rfl, (List.forall_mem_cons.mpr ⟨List.mem_of_getElem? (i := 12) rfl, (List.forall_mem_cons.mpr ⟨List.mem_of_getElem? (i := 13) rfl, (List.forall_mem_cons.mpr ⟨List.mem_of_getElem? (i := 14) rfl, (List.forall_mem_cons.mpr ⟨List.mem_of_getElem? (i := 15) rfl, (List.forall_mem_cons.mpr ⟨List.mem_of_getElem? (i := 16) rfl, (List.forall_mem_cons.mpr ⟨List.mem_of_getElem? (i := 17) rfl, (List.forall_mem_cons.mpr ⟨List.mem_of_getElem? (i := 18) rfl, (fun _ h => absurd h List.not_mem_nil)⟩)⟩)⟩)⟩)⟩)⟩)⟩)⟩)⟩)⟩) q hq)⟩
  ·
    refine y_lconst hM 0 (by decide) dL_law_517 ?_
    refine lv_goto (tgt := 544) hM.1 hM.2.1 dL_law_518 (by decide) ?_
    refine lv_lstore (lv' := [(17, .long (lI (0))), (16, .int (iI ((1) + (r_504)))), (15, .int (iI (((k : Nat) : Int)))), (14, .int (iI (((sv : Nat) : Int)))), (13, .int (iI (((pv : Nat) : Int)))), (12, .int (iI (kd))), (11, .int (iI (yy))), (10, .int (iI (xx))), (9, .int (iI (((i : Nat) : Int)))), (8, .ref (ad 56 0)), (7, .ref (ad 55 0)), (6, .ref (ad 54 0)), (5, .ref (ad 53 0)), (4, .ref (ad 52 0)), (3, .ref (ad 51 0)), (2, .ref (ad 50 0)), (1, .ref (ad 0 0)), (0, .ref b)]) hM.1 hM.2.1 dL_law_544 hl (by decide) rfl (fun ls hl => ?_)
    refine y_aload hM hl 9 rfl dL_law_546 ?_
    refine y_iconst hM dL_law_548 ?_
    refine y_iald hM hC hLK.2.2.2.2.2.2 rfl ⟨by omega, by omega⟩ (by decide) (x := T 0 0 7) (by rw [show ((1 : Int)).toNat = 1 from rfl, hg1]) dL_law_549 ?_
    refine y_if_ne hM (by constructor <;> omega) (tgt := 557) dL_law_550 (by decide) (fun c_550 => False.elim (by omega)) (fun c_550 => ?_)
    refine y_iconst hM dL_law_553 ?_
    refine lv_goto (tgt := 589) hM.1 hM.2.1 dL_law_554 (by decide) ?_
    refine lv_istore (lv' := [(19, .int (iI (1))), (17, .long (lI (0))), (16, .int (iI ((1) + (r_504)))), (15, .int (iI (((k : Nat) : Int)))), (14, .int (iI (((sv : Nat) : Int)))), (13, .int (iI (((pv : Nat) : Int)))), (12, .int (iI (kd))), (11, .int (iI (yy))), (10, .int (iI (xx))), (9, .int (iI (((i : Nat) : Int)))), (8, .ref (ad 56 0)), (7, .ref (ad 55 0)), (6, .ref (ad 54 0)), (5, .ref (ad 53 0)), (4, .ref (ad 52 0)), (3, .ref (ad 51 0)), (2, .ref (ad 50 0)), (1, .ref (ad 0 0)), (0, .ref b)]) hM.1 hM.2.1 dL_law_589 hl (by decide) rfl (fun ls hl => ?_)
    refine y_iload hM hl 0 rfl dL_law_591 ?_
    refine y_if_le hM (by constructor <;> omega) (tgt := 612) dL_law_593 (by decide) (fun c_593 => False.elim (by omega)) (fun c_593 => ?_)
    refine y_aload_n hM hl 17 rfl rfl dL_law_596 ?_
    refine y_iconst hM dL_law_597 ?_
    refine y_iload hM hl 4 rfl dL_law_598 ?_
    refine y_iload hM hl 2 rfl dL_law_600 ?_
    refine y_callSX hM hN hC (c_ref_pay l hfl G b0 ks ad T P (((sv : Nat) : Int)) ((1) + (r_504)) ⟨by omega, by omega⟩ ⟨by omega, by omega⟩ hF hRK hRN hDN hSK hSN hOK hON (fun w => by omega)) (vx_cwSW 4 hM.2.2.2.2 gL_law_L_refused rfl rfl rfl (by decide +kernel) ⟨(Nat.le_of_ble_eq_true rfl), (Nat.le_of_ble_eq_true rfl)⟩) rfl hl.1 rfl (Nat.le_of_ble_eq_true rfl) dL_law_602 ⟨(show _ ≤ 602294 by omega), (show _ ≤ 7294300 by omega)⟩ (fun E ce q9 u1 H locs hx hC hce hcv hcl => hx.elim) (fun v u1 H locs hp hC => ?_)
    obtain ⟨r_602, rfl, h_602, hu⟩ := hp; rw [hu] at hC; clear hu
    try dsimp only at h_602
    refine W.eq (g2 := F0 m 605 ls [.int (iI (r_602))]) rfl ?_
    refine y_iload hM hl 0 rfl dL_law_605 ?_
    refine y_icmp_eq hM (by constructor <;> omega) (by constructor <;> omega) (tgt := 1643) dL_law_607 (by decide) (fun c_607 => ?_) (fun c_607 => False.elim (by omega))
    exact kn _ _ _ _ _ _ _ _ ls (by omega) (by omega) hC hI ⟨hl.1, hl.2.1, fun q hq => hl.2.2 q ((List.forall_mem_cons.mpr ⟨List.mem_of_getElem? (i := 9) rfl, (List.forall_mem_cons.mpr ⟨List.mem_of_getElem? (i := 10) rfl, (List.forall_mem_cons.mpr ⟨List.mem_of_getElem? (i := 11) rfl, (List.forall_mem_cons.mpr ⟨List.mem_of_getElem? (i := 12) rfl, (List.forall_mem_cons.mpr ⟨List.mem_of_getElem? (i := 13) rfl, (List.forall_mem_cons.mpr ⟨List.mem_of_getElem? (i := 14) rfl, (List.forall_mem_cons.mpr ⟨List.mem_of_getElem? (i := 15) rfl, (List.forall_mem_cons.mpr ⟨List.mem_of_getElem? (i := 16) rfl, (List.forall_mem_cons.mpr ⟨List.mem_of_getElem? (i := 17) rfl, (List.forall_mem_cons.mpr ⟨List.mem_of_getElem? (i := 18) rfl, (fun _ h => absurd h List.not_mem_nil)⟩)⟩)⟩)⟩)⟩)⟩)⟩)⟩)⟩)⟩) q hq)⟩

set_option maxRecDepth 100000 in
set_option maxHeartbeats 16000000 in
theorem law_ord {p : Program} {e : Env} {s : State} {m : MethodId} {below : List Frame} {meth : Method} {c : Code} {Q : State → Prop} (l : Launch) (hfl : l.stackTraces = false) (G : GG) (b0 : Nat) {b L : Nat} {xs : Nat → Int32} (hM : CallFix p m c cL_law 30 s #[Value.ref b] wsL_law RL) (hN : NcX s) (hX : va_X b L xs s s.heap) (hbA : ¬ b0 ≤ b) (hbl : b < s.heap.size) (hL : L ≤ 260) {ks : KK} {ad : AD} {T : TT} {P : PP} {H : Heap} {locs : List Loc} {cells slots : Nat} (hcl : cells + 400 ≤ 602294) (hsl : slots + 3000 ≤ 7294300) (i : Nat) (xx yy kd : Int) (pv sv k : Nat) (hkd : 0 ≤ kd ∧ kd < 20) (hpv : pv < 5) (hsv : (T 0 0 7 = 0 ∧ sv = 0) ∨ (sv : Int) < T 0 0 7) (hkv : (T 0 0 8 = 0 ∧ k = 0) ∨ (k : Int) < T 0 0 8) {ls : Array Slot} (hl : lv_has ls 30 [(15, .int (iI (((k : Nat) : Int)))), (14, .int (iI (((sv : Nat) : Int)))), (13, .int (iI (((pv : Nat) : Int)))), (12, .int (iI (kd))), (11, .int (iI (yy))), (10, .int (iI (xx))), (9, .int (iI (((i : Nat) : Int)))), (8, .ref (ad 56 0)), (7, .ref (ad 55 0)), (6, .ref (ad 54 0)), (5, .ref (ad 53 0)), (4, .ref (ad 52 0)), (3, .ref (ad 51 0)), (2, .ref (ad 50 0)), (1, .ref (ad 0 0)), (0, .ref b)]) (hC : Cur G b0 (ks, ad, T, P) s H locs) (hI : IV ks ad T P)
    (kk : ∀ (ks1 : KK) (ad1 : AD) (T1 : TT) (P1 : PP) (H1 : Heap) (locs1 : List Loc) (cells1 slots1 : Nat) (ls1 : Array Slot), cells1 ≤ cells + 40 → slots1 ≤ slots + 400 → Cur G b0 (ks1, ad1, T1, P1) s H1 locs1 → IV ks1 ad1 T1 P1 → lv_has ls1 30 [(11, .int (iI (yy))), (9, .int (iI (((i : Nat) : Int)))), (8, .ref (ad1 56 0)), (7, .ref (ad1 55 0)), (6, .ref (ad1 54 0)), (5, .ref (ad1 53 0)), (4, .ref (ad1 52 0)), (3, .ref (ad1 51 0)), (2, .ref (ad1 50 0)), (1, .ref (ad1 0 0)), (0, .ref b)] → W p l e room_1 s m #[Value.ref b] below meth c H1 locs1 cells1 slots1 Q (F0 m 1608 ls1 [])) (kn : ∀ (ks1 : KK) (ad1 : AD) (T1 : TT) (P1 : PP) (H1 : Heap) (locs1 : List Loc) (cells1 slots1 : Nat) (ls1 : Array Slot), cells1 ≤ cells + 400 → slots1 ≤ slots + 3000 → Cur G b0 (ks1, ad1, T1, P1) s H1 locs1 → IV ks1 ad1 T1 P1 → lv_has ls1 30 [(9, .int (iI (((i : Nat) : Int)))), (8, .ref (ad1 56 0)), (7, .ref (ad1 55 0)), (6, .ref (ad1 54 0)), (5, .ref (ad1 53 0)), (4, .ref (ad1 52 0)), (3, .ref (ad1 51 0)), (2, .ref (ad1 50 0)), (1, .ref (ad1 0 0)), (0, .ref b)] → W p l e room_1 s m #[Value.ref b] below meth c H1 locs1 cells1 slots1 Q (F0 m 1643 ls1 [])) :
    W p l e room_1 s m #[Value.ref b] below meth c H locs cells slots Q (F0 m 649 ls []) := by
  obtain ⟨hCK, hNC, hR⟩ := id hI
  obtain ⟨hF, hRK, hSK, hOK, hKF, hLK⟩ := id hCK
  obtain ⟨hRN, hDN, hSN, hON, hXP, hXO, hXD⟩ := id hNC
  obtain ⟨⟨hg1, h75, hg2, h87, hg3, h19, hg4, hg0⟩, hRP, hRS, hRO, hRD⟩ := id hR
  obtain ⟨hd0, hd1, hd2, hd3⟩ := id hDN
  have hs70 := hSK.1
  have ho80 := hOK.1
  have hP1 := hRP.1.1
  have hno : ((NO T : Nat) : Int) = T 0 0 8 := Int.toNat_of_nonneg ho80
  have hgO : T 56 0 2 = ((NO T : Nat) : Int) := by rw [hno]; exact hg2
  refine y_aload hM hl 7 rfl dL_law_649 ?_
  refine y_iconst hM dL_law_651 ?_
  refine y_iald hM hC hLK.2.2.2.2.2.2 rfl ⟨by omega, by omega⟩ (by decide) (x := T 0 0 7) (by rw [show ((1 : Int)).toNat = 1 from rfl, hg1]) dL_law_652 ?_
  refine y_if_ne hM (by constructor <;> omega) (tgt := 660) dL_law_653 (by decide) (fun c_653 => ?_) (fun c_653 => ?_)
  ·
    have hs7 : (sv : Int) < T 0 0 7 := by omega
    have hsr := hRS.1 sv hs7
    have hsn := hSN sv hs7
    refine y_iload hM hl 2 rfl dL_law_660 ?_
    refine y_aload_n hM hl 12 rfl rfl dL_law_662 ?_
    refine y_iconst hM dL_law_663 ?_
    refine y_iload hM hl 1 rfl dL_law_664 ?_
    refine y_imul hM dL_law_666 ?_
    refine y_iald hM hC hLK.2.1 rfl ⟨by omega, by omega⟩ (by decide) (x := T 10 sv 0) (by rw [show ((2) * (((sv : Nat) : Int)) : Int).toNat = 2 * sv from by omega, hsr.1]) dL_law_667 ?_
    refine y_icmp_ne hM (by constructor <;> omega) (by constructor <;> omega) (tgt := 675) dL_law_668 (by decide) (fun c_668 => ?_) (fun c_668 => ?_)
    ·
      refine y_aload_n hM hl 12 rfl rfl dL_law_675 ?_
      refine y_iconst hM dL_law_676 ?_
      refine y_iload hM hl 1 rfl dL_law_677 ?_
      refine y_imul hM dL_law_679 ?_
      refine y_iconst hM dL_law_680 ?_
      refine y_iadd hM dL_law_681 ?_
      refine y_iald hM hC hLK.2.1 rfl ⟨by omega, by omega⟩ (by decide) (x := T 10 sv 2) (by rw [show (((2) * (((sv : Nat) : Int))) + (1) : Int).toNat = 2 * sv + 1 from by omega, hsr.2.1]) dL_law_682 ?_
      refine y_iconst hM dL_law_683 ?_
      refine y_icmp_ne hM (by constructor <;> omega) (by constructor <;> omega) (tgt := 691) dL_law_684 (by decide) (fun c_684 => ?_) (fun c_684 => ?_)
      ·
        refine y_iconst hM dL_law_691 ?_
        refine lv_istore (lv' := [(16, .int (iI (0))), (15, .int (iI (((k : Nat) : Int)))), (14, .int (iI (((sv : Nat) : Int)))), (13, .int (iI (((pv : Nat) : Int)))), (12, .int (iI (kd))), (11, .int (iI (yy))), (10, .int (iI (xx))), (9, .int (iI (((i : Nat) : Int)))), (8, .ref (ad 56 0)), (7, .ref (ad 55 0)), (6, .ref (ad 54 0)), (5, .ref (ad 53 0)), (4, .ref (ad 52 0)), (3, .ref (ad 51 0)), (2, .ref (ad 50 0)), (1, .ref (ad 0 0)), (0, .ref b)]) hM.1 hM.2.1 dL_law_692 hl (by decide) rfl (fun ls hl => ?_)
        refine y_iload hM hl 0 rfl dL_law_694 ?_
        refine y_if_le hM (by constructor <;> omega) (tgt := 715) dL_law_696 (by decide) (fun c_696 => ?_) (fun c_696 => False.elim (by omega))
        refine y_aload hM hl 8 rfl dL_law_715 ?_
        refine y_iconst hM dL_law_717 ?_
        refine y_iald hM hC hLK.2.2.2.2.2.2 rfl ⟨by omega, by omega⟩ (by decide) (x := T 0 0 8) (by rw [show ((2 : Int)).toNat = 2 from rfl, hg2]) dL_law_718 ?_
        refine y_bipush hM dL_law_719 (by decide) ?_
        refine y_icmp_ne hM (by constructor <;> omega) (by constructor <;> omega) (tgt := 727) dL_law_721 (by decide) (fun c_721 => ?_) (fun c_721 => ?_)
        ·
          refine y_bipush hM dL_law_727 (by decide) ?_
          refine y_aload hM hl 8 rfl dL_law_729 ?_
          refine y_iconst hM dL_law_731 ?_
          refine y_iald hM hC hLK.2.2.2.2.2.2 rfl ⟨by omega, by omega⟩ (by decide) (x := ((NO T : Nat) : Int)) (by rw [show ((2 : Int)).toNat = 2 from rfl, hgO]) dL_law_732 ?_
          refine y_imul hM dL_law_733 ?_
          refine lv_istore (lv' := [(17, .int (iI ((9) * (((NO T : Nat) : Int))))), (16, .int (iI (0))), (15, .int (iI (((k : Nat) : Int)))), (14, .int (iI (((sv : Nat) : Int)))), (13, .int (iI (((pv : Nat) : Int)))), (12, .int (iI (kd))), (11, .int (iI (yy))), (10, .int (iI (xx))), (9, .int (iI (((i : Nat) : Int)))), (8, .ref (ad 56 0)), (7, .ref (ad 55 0)), (6, .ref (ad 54 0)), (5, .ref (ad 53 0)), (4, .ref (ad 52 0)), (3, .ref (ad 51 0)), (2, .ref (ad 50 0)), (1, .ref (ad 0 0)), (0, .ref b)]) hM.1 hM.2.1 dL_law_734 hl (by decide) rfl (fun ls hl => ?_)
          refine y_aload hM hl 12 rfl dL_law_736 ?_
          refine y_iload hM hl 0 rfl dL_law_738 ?_
          refine y_iload hM hl 3 rfl dL_law_740 ?_
          refine y_iast hM hC hLK.2.2.2.1 (fun _ _ => rfl) ⟨by omega, by omega⟩ (by decide) dL_law_742 (fun H locs hC => ?_)
          rw [show ((9) * (((NO T : Nat) : Int)) : Int).toNat = 9 * NO T from by omega] at hC
          refine y_aload hM hl 12 rfl dL_law_743 ?_
          refine y_iload hM hl 0 rfl dL_law_745 ?_
          refine y_iconst hM dL_law_747 ?_
          refine y_iadd hM dL_law_748 ?_
          refine y_aload_n hM hl 14 rfl rfl dL_law_749 ?_
          refine y_iconst hM dL_law_750 ?_
          refine y_iload hM hl 3 rfl dL_law_751 ?_
          refine y_imul hM dL_law_753 ?_
          refine y_iald hM hC hLK.2.1 rfl ⟨by omega, by omega⟩ (by decide) (x := T 10 sv 0) (by rw [show ((2) * (((sv : Nat) : Int)) : Int).toNat = 2 * sv from by omega, up_of (by omega), hsr.1]) dL_law_754 ?_
          refine y_iast hM hC hLK.2.2.2.1 (fun _ _ => rfl) ⟨by omega, by omega⟩ (by decide) dL_law_755 (fun H locs hC => ?_)
          rw [show (((9) * (((NO T : Nat) : Int))) + (1) : Int).toNat = 9 * NO T + 1 from by omega] at hC
          refine y_aload hM hl 12 rfl dL_law_756 ?_
          refine y_iload hM hl 0 rfl dL_law_758 ?_
          refine y_iconst hM dL_law_760 ?_
          refine y_iadd hM dL_law_761 ?_
          refine y_iload hM hl 4 rfl dL_law_762 ?_
          refine y_iast hM hC hLK.2.2.2.1 (fun _ _ => rfl) ⟨by omega, by omega⟩ (by decide) dL_law_764 (fun H locs hC => ?_)
          rw [show (((9) * (((NO T : Nat) : Int))) + (2) : Int).toNat = 9 * NO T + 2 from by omega] at hC
          refine y_aload hM hl 12 rfl dL_law_765 ?_
          refine y_iload hM hl 0 rfl dL_law_767 ?_
          refine y_iconst hM dL_law_769 ?_
          refine y_iadd hM dL_law_770 ?_
          refine y_aload hM hl 9 rfl dL_law_771 ?_
          refine y_iconst hM dL_law_773 ?_
          refine y_iald hM hC hLK.2.2.2.2.2.2 rfl ⟨by omega, by omega⟩ (by decide) (x := T 0 0 5) (by rw [show ((3 : Int)).toNat = 3 from rfl, up_of (by omega), up_of (by omega), up_of (by omega), hg3]) dL_law_774 ?_
          refine y_iast hM hC hLK.2.2.2.1 (fun _ _ => rfl) ⟨by omega, by omega⟩ (by decide) dL_law_775 (fun H locs hC => ?_)
          rw [show (((9) * (((NO T : Nat) : Int))) + (4) : Int).toNat = 9 * NO T + 4 from by omega] at hC
          refine y_aload_n hM hl 14 rfl rfl dL_law_776 ?_
          refine y_iconst hM dL_law_777 ?_
          refine y_iload hM hl 3 rfl dL_law_778 ?_
          refine y_imul hM dL_law_780 ?_
          refine y_iconst hM dL_law_781 ?_
          refine y_iadd hM dL_law_782 ?_
          refine y_iconst hM dL_law_783 ?_
          refine y_iast hM hC hLK.2.1 (fun _ _ => rfl) ⟨by omega, by omega⟩ (by decide) dL_law_784 (fun H locs hC => ?_)
          rw [show (((2) * (((sv : Nat) : Int))) + (1) : Int).toNat = 2 * sv + 1 from by omega] at hC
          refine y_aload hM hl 9 rfl dL_law_785 ?_
          refine y_iconst hM dL_law_787 ?_
          refine lv_dup2_11 hM.1 hM.2.1 dL_law_788 rfl rfl ?_
          refine y_iald hM hC hLK.2.2.2.2.2.2 rfl ⟨by omega, by omega⟩ (by decide) (x := ((NO T : Nat) : Int)) (by rw [show ((2 : Int)).toNat = 2 from rfl, up_of (by omega), up_of (by omega), up_of (by omega), up_of (by omega), up_of (by omega), hgO]) dL_law_789 ?_
          refine y_iconst hM dL_law_790 ?_
          refine y_iadd hM dL_law_791 ?_
          refine y_iast hM hC hLK.2.2.2.2.2.2 (fun _ _ => rfl) ⟨by omega, by omega⟩ (by decide) dL_law_792 (fun H locs hC => ?_)
          rw [show ((2 : Int)).toNat = 2 from rfl] at hC
          obtain ⟨T1, hT1⟩ : ∃ X : TT, X = (up (up (up (up (up (up T 53 0 (9 * NO T) (((sv : Nat) : Int))) 53 0 (9 * NO T + 1) (T 10 sv 0)) 53 0 (9 * NO T + 2) (((pv : Nat) : Int))) 53 0 (9 * NO T + 4) (T 0 0 5)) 51 0 (2 * sv + 1) (1)) 56 0 (2) ((((NO T : Nat) : Int)) + (1))) := ⟨_, rfl⟩
          rw [← hT1] at hC
          have hlo : LoE T1 T := by
            rw [hT1]
            exact ((((((LoE.r.hi (by decide)).hi (by decide)).hi (by decide)).hi (by decide)).hi (by decide)).hi (by decide))
          obtain ⟨hCK1, hNC1, hR1, hz1⟩ := hI.mid hlo
          obtain ⟨hF1, hRK1, hSK1, hOK1, hKF1, hLK1⟩ := id hCK1
          obtain ⟨hRN1, hDN1, hSN1, hON1, -, -, -⟩ := id hNC1
          have h05 : T1 0 0 5 = T 0 0 5 := by rw [hz1]
          have h06 : T1 0 0 6 = T 0 0 6 := by rw [hz1]
          have h07 : T1 0 0 7 = T 0 0 7 := by rw [hz1]
          have h08 : T1 0 0 8 = T 0 0 8 := by rw [hz1]
          have hT1b : T1 = mOrd T (NO T) sv (T 10 sv 0) ((pv : Nat) : Int) (T 0 0 5) (T 0 0 8 + 1) := by
            rw [hT1, ← hno]
            rfl
          have e10 : T1 10 sv = T 10 sv := hlo 10 sv (by omega)
          refine y_aload_n hM hl 16 rfl rfl dL_law_793 ?_
          refine y_iload hM hl 3 rfl dL_law_794 ?_
          refine y_iload hM hl 4 rfl dL_law_796 ?_
          refine y_callV hM hC (c_order l hfl G b0 ks ad T1 P (((sv : Nat) : Int)) (((pv : Nat) : Int)) ⟨by omega, by omega⟩ ⟨by omega, by omega⟩ (hKF1.2 _ (by omega)) hF1 hSK1 hSN1 ⟨by omega, by omega⟩) (cwV 2 hM.2.2.2.2 gL_law_X3_order rfl rfl rfl (by decide +kernel) ⟨(Nat.le_of_ble_eq_true rfl), (Nat.le_of_ble_eq_true rfl)⟩) (y_recv hC hF1.1 rfl rfl) rfl hl.1 rfl (Nat.le_of_ble_eq_true rfl) dL_law_798 ⟨(show _ ≤ 602294 by omega), (show _ ≤ 7294300 by omega)⟩ (fun E ce q9 u1 H locs hx hC hce hcv hcl => by
              obtain ⟨x, rfl, hx, hu⟩ := hx; rw [hu] at hC; clear hu; try dsimp only at hx
              exact False.elim ((by rw [Int.toNat_natCast, e10, h07, h08] at hx; omega))) (fun v u1 H locs hp hC => ?_)
          obtain ⟨r_798, q, rfl, h_798, hu⟩ := hp; rw [hu] at hC; clear hu; try dsimp only at h_798
          obtain ⟨ad1, had1⟩ : ∃ a : AD, a = upA ad 11 (T1 0 0 8).toNat q := ⟨_, rfl⟩
          rw [← had1] at hC
          have e1_0 : ad1 56 0 = ad 56 0 := by rw [had1, upA_ne (fun h => absurd h.1 (by decide))]
          have e1_1 : ad1 55 0 = ad 55 0 := by rw [had1, upA_ne (fun h => absurd h.1 (by decide))]
          have e1_2 : ad1 54 0 = ad 54 0 := by rw [had1, upA_ne (fun h => absurd h.1 (by decide))]
          have e1_3 : ad1 53 0 = ad 53 0 := by rw [had1, upA_ne (fun h => absurd h.1 (by decide))]
          have e1_4 : ad1 52 0 = ad 52 0 := by rw [had1, upA_ne (fun h => absurd h.1 (by decide))]
          have e1_5 : ad1 51 0 = ad 51 0 := by rw [had1, upA_ne (fun h => absurd h.1 (by decide))]
          have e1_6 : ad1 50 0 = ad 50 0 := by rw [had1, upA_ne (fun h => absurd h.1 (by decide))]
          have e1_7 : ad1 0 0 = ad 0 0 := by rw [had1, upA_ne (fun h => absurd h.1 (by decide))]
          have hl : lv_has ls 30 [(17, .int (iI ((9) * (((NO T : Nat) : Int))))), (16, .int (iI (0))), (15, .int (iI (((k : Nat) : Int)))), (14, .int (iI (((sv : Nat) : Int)))), (13, .int (iI (((pv : Nat) : Int)))), (12, .int (iI (kd))), (11, .int (iI (yy))), (10, .int (iI (xx))), (9, .int (iI (((i : Nat) : Int)))), (8, .ref (ad1 56 0)), (7, .ref (ad1 55 0)), (6, .ref (ad1 54 0)), (5, .ref (ad1 53 0)), (4, .ref (ad1 52 0)), (3, .ref (ad1 51 0)), (2, .ref (ad1 50 0)), (1, .ref (ad1 0 0)), (0, .ref b)] := by rw [e1_0, e1_1, e1_2, e1_3, e1_4, e1_5, e1_6, e1_7]; exact hl
          refine W.eq (g2 := F0 m 801 ls [.int (iI (r_798))]) rfl ?_
          have hLKb : LK (ks ++ [(11, (T1 0 0 8).toNat)]) := hLK1.app
          refine y_aload hM hl 9 rfl dL_law_801 ?_
          refine y_iconst hM dL_law_803 ?_
          refine y_iald hM hC hLKb.2.2.2.2.2.2 rfl ⟨by omega, by omega⟩ (by decide) (x := ((NO T : Nat) : Int) + (1)) ((ordT_hi 56 0 2 (by omega)).trans (by rw [hT1, up_at rfl])) dL_law_804 ?_
          refine y_iconst hM dL_law_805 ?_
          refine y_isub hM dL_law_806 ?_
          refine y_icmp_eq hM (by constructor <;> omega) (by constructor <;> omega) (tgt := 812) dL_law_807 (by decide) (fun c_807 => ?_) (fun c_807 => False.elim (by omega))
          refine lv_goto (tgt := 1608) hM.1 hM.2.1 dL_law_812 (by decide) ?_
          exact kk _ _ _ _ _ _ _ _ ls (by omega) (by omega) hC (by
              rw [had1]
              exact op_ord hI hs7 ⟨by omega, by omega, by omega, by omega⟩ (by omega) hT1b) ⟨hl.1, hl.2.1, fun q hq => hl.2.2 q ((List.forall_mem_cons.mpr ⟨List.mem_of_getElem? (i := 6) rfl, (List.forall_mem_cons.mpr ⟨List.mem_of_getElem? (i := 8) rfl, (List.forall_mem_cons.mpr ⟨List.mem_of_getElem? (i := 9) rfl, (List.forall_mem_cons.mpr ⟨List.mem_of_getElem? (i := 10) rfl, (List.forall_mem_cons.mpr ⟨List.mem_of_getElem? (i := 11) rfl, (List.forall_mem_cons.mpr ⟨List.mem_of_getElem? (i := 12) rfl, (List.forall_mem_cons.mpr ⟨List.mem_of_getElem? (i := 13) rfl, (List.forall_mem_cons.mpr ⟨List.mem_of_getElem? (i := 14) rfl, (List.forall_mem_cons.mpr ⟨List.mem_of_getElem? (i := 15) rfl, (List.forall_mem_cons.mpr ⟨List.mem_of_getElem? (i := 16) rfl, (List.forall_mem_cons.mpr ⟨List.mem_of_getElem? (i := 17) rfl, (fun _ h => absurd h List.not_mem_nil)⟩)⟩)⟩)⟩)⟩)⟩)⟩)⟩)⟩)⟩)⟩) q hq)⟩
        ·
          refine lv_goto (tgt := 1643) hM.1 hM.2.1 dL_law_724 (by decide) ?_
          exact kn _ _ _ _ _ _ _ _ ls (by omega) (by omega) hC hI ⟨hl.1, hl.2.1, fun q hq => hl.2.2 q ((List.forall_mem_cons.mpr ⟨List.mem_of_getElem? (i := 7) rfl, (List.forall_mem_cons.mpr ⟨List.mem_of_getElem? (i := 8) rfl, (List.forall_mem_cons.mpr ⟨List.mem_of_getElem? (i := 9) rfl, (List.forall_mem_cons.mpr ⟨List.mem_of_getElem? (i := 10) rfl, (List.forall_mem_cons.mpr ⟨List.mem_of_getElem? (i := 11) rfl, (List.forall_mem_cons.mpr ⟨List.mem_of_getElem? (i := 12) rfl, (List.forall_mem_cons.mpr ⟨List.mem_of_getElem? (i := 13) rfl, (List.forall_mem_cons.mpr ⟨List.mem_of_getElem? (i := 14) rfl, (List.forall_mem_cons.mpr ⟨List.mem_of_getElem? (i := 15) rfl, (List.forall_mem_cons.mpr ⟨List.mem_of_getElem? (i := 16) rfl, (fun _ h => absurd h List.not_mem_nil)⟩)⟩)⟩)⟩)⟩)⟩)⟩)⟩)⟩)⟩) q hq)⟩
      ·
        refine y_iconst hM dL_law_687 ?_
        refine lv_goto (tgt := 692) hM.1 hM.2.1 dL_law_688 (by decide) ?_
        refine lv_istore (lv' := [(16, .int (iI (3))), (15, .int (iI (((k : Nat) : Int)))), (14, .int (iI (((sv : Nat) : Int)))), (13, .int (iI (((pv : Nat) : Int)))), (12, .int (iI (kd))), (11, .int (iI (yy))), (10, .int (iI (xx))), (9, .int (iI (((i : Nat) : Int)))), (8, .ref (ad 56 0)), (7, .ref (ad 55 0)), (6, .ref (ad 54 0)), (5, .ref (ad 53 0)), (4, .ref (ad 52 0)), (3, .ref (ad 51 0)), (2, .ref (ad 50 0)), (1, .ref (ad 0 0)), (0, .ref b)]) hM.1 hM.2.1 dL_law_692 hl (by decide) rfl (fun ls hl => ?_)
        refine y_iload hM hl 0 rfl dL_law_694 ?_
        refine y_if_le hM (by constructor <;> omega) (tgt := 715) dL_law_696 (by decide) (fun c_696 => False.elim (by omega)) (fun c_696 => ?_)
        refine y_aload_n hM hl 15 rfl rfl dL_law_699 ?_
        refine y_iconst hM dL_law_700 ?_
        refine y_iload hM hl 2 rfl dL_law_701 ?_
        refine y_iload hM hl 3 rfl dL_law_703 ?_
        refine y_callSX hM hN hC (c_ref_order l hfl G b0 ks ad T P (((sv : Nat) : Int)) (((pv : Nat) : Int)) ⟨by omega, by omega⟩ ⟨by omega, by omega⟩ hF hRK hRN hDN hSK hSN hOK hON hKF (by rw [Int.toNat_natCast]; omega)) (vx_cwSW 4 hM.2.2.2.2 gL_law_L_refused rfl rfl rfl (by decide +kernel) ⟨(Nat.le_of_ble_eq_true rfl), (Nat.le_of_ble_eq_true rfl)⟩) rfl hl.1 rfl (Nat.le_of_ble_eq_true rfl) dL_law_705 ⟨(show _ ≤ 602294 by omega), (show _ ≤ 7294300 by omega)⟩ (fun E ce q9 u1 H locs hx hC hce hcv hcl => hx.elim) (fun v u1 H locs hp hC => ?_)
        obtain ⟨r_705, rfl, h_705, hu⟩ := hp; rw [hu] at hC; clear hu
        try dsimp only at h_705
        refine W.eq (g2 := F0 m 708 ls [.int (iI (r_705))]) rfl ?_
        simp only [Int.toNat_natCast] at h_705
        refine y_iload hM hl 0 rfl dL_law_708 ?_
        refine y_icmp_eq hM (by constructor <;> omega) (by constructor <;> omega) (tgt := 1643) dL_law_710 (by decide) (fun c_710 => ?_) (fun c_710 => False.elim (by omega))
        exact kn _ _ _ _ _ _ _ _ ls (by omega) (by omega) hC hI ⟨hl.1, hl.2.1, fun q hq => hl.2.2 q ((List.forall_mem_cons.mpr ⟨List.mem_of_getElem? (i := 7) rfl, (List.forall_mem_cons.mpr ⟨List.mem_of_getElem? (i := 8) rfl, (List.forall_mem_cons.mpr ⟨List.mem_of_getElem? (i := 9) rfl, (List.forall_mem_cons.mpr ⟨List.mem_of_getElem? (i := 10) rfl, (List.forall_mem_cons.mpr ⟨List.mem_of_getElem? (i := 11) rfl, (List.forall_mem_cons.mpr ⟨List.mem_of_getElem? (i := 12) rfl, (List.forall_mem_cons.mpr ⟨List.mem_of_getElem? (i := 13) rfl, (List.forall_mem_cons.mpr ⟨List.mem_of_getElem? (i := 14) rfl, (List.forall_mem_cons.mpr ⟨List.mem_of_getElem? (i := 15) rfl, (List.forall_mem_cons.mpr ⟨List.mem_of_getElem? (i := 16) rfl, (fun _ h => absurd h List.not_mem_nil)⟩)⟩)⟩)⟩)⟩)⟩)⟩)⟩)⟩)⟩) q hq)⟩
    ·
      refine y_iconst hM dL_law_671 ?_
      refine lv_goto (tgt := 692) hM.1 hM.2.1 dL_law_672 (by decide) ?_
      refine lv_istore (lv' := [(16, .int (iI (2))), (15, .int (iI (((k : Nat) : Int)))), (14, .int (iI (((sv : Nat) : Int)))), (13, .int (iI (((pv : Nat) : Int)))), (12, .int (iI (kd))), (11, .int (iI (yy))), (10, .int (iI (xx))), (9, .int (iI (((i : Nat) : Int)))), (8, .ref (ad 56 0)), (7, .ref (ad 55 0)), (6, .ref (ad 54 0)), (5, .ref (ad 53 0)), (4, .ref (ad 52 0)), (3, .ref (ad 51 0)), (2, .ref (ad 50 0)), (1, .ref (ad 0 0)), (0, .ref b)]) hM.1 hM.2.1 dL_law_692 hl (by decide) rfl (fun ls hl => ?_)
      refine y_iload hM hl 0 rfl dL_law_694 ?_
      refine y_if_le hM (by constructor <;> omega) (tgt := 715) dL_law_696 (by decide) (fun c_696 => False.elim (by omega)) (fun c_696 => ?_)
      refine y_aload_n hM hl 15 rfl rfl dL_law_699 ?_
      refine y_iconst hM dL_law_700 ?_
      refine y_iload hM hl 2 rfl dL_law_701 ?_
      refine y_iload hM hl 3 rfl dL_law_703 ?_
      refine y_callSX hM hN hC (c_ref_order l hfl G b0 ks ad T P (((sv : Nat) : Int)) (((pv : Nat) : Int)) ⟨by omega, by omega⟩ ⟨by omega, by omega⟩ hF hRK hRN hDN hSK hSN hOK hON hKF (by rw [Int.toNat_natCast]; omega)) (vx_cwSW 4 hM.2.2.2.2 gL_law_L_refused rfl rfl rfl (by decide +kernel) ⟨(Nat.le_of_ble_eq_true rfl), (Nat.le_of_ble_eq_true rfl)⟩) rfl hl.1 rfl (Nat.le_of_ble_eq_true rfl) dL_law_705 ⟨(show _ ≤ 602294 by omega), (show _ ≤ 7294300 by omega)⟩ (fun E ce q9 u1 H locs hx hC hce hcv hcl => hx.elim) (fun v u1 H locs hp hC => ?_)
      obtain ⟨r_705, rfl, h_705, hu⟩ := hp; rw [hu] at hC; clear hu
      try dsimp only at h_705
      refine W.eq (g2 := F0 m 708 ls [.int (iI (r_705))]) rfl ?_
      simp only [Int.toNat_natCast] at h_705
      refine y_iload hM hl 0 rfl dL_law_708 ?_
      refine y_icmp_eq hM (by constructor <;> omega) (by constructor <;> omega) (tgt := 1643) dL_law_710 (by decide) (fun c_710 => ?_) (fun c_710 => False.elim (by omega))
      exact kn _ _ _ _ _ _ _ _ ls (by omega) (by omega) hC hI ⟨hl.1, hl.2.1, fun q hq => hl.2.2 q ((List.forall_mem_cons.mpr ⟨List.mem_of_getElem? (i := 7) rfl, (List.forall_mem_cons.mpr ⟨List.mem_of_getElem? (i := 8) rfl, (List.forall_mem_cons.mpr ⟨List.mem_of_getElem? (i := 9) rfl, (List.forall_mem_cons.mpr ⟨List.mem_of_getElem? (i := 10) rfl, (List.forall_mem_cons.mpr ⟨List.mem_of_getElem? (i := 11) rfl, (List.forall_mem_cons.mpr ⟨List.mem_of_getElem? (i := 12) rfl, (List.forall_mem_cons.mpr ⟨List.mem_of_getElem? (i := 13) rfl, (List.forall_mem_cons.mpr ⟨List.mem_of_getElem? (i := 14) rfl, (List.forall_mem_cons.mpr ⟨List.mem_of_getElem? (i := 15) rfl, (List.forall_mem_cons.mpr ⟨List.mem_of_getElem? (i := 16) rfl, (fun _ h => absurd h List.not_mem_nil)⟩)⟩)⟩)⟩)⟩)⟩)⟩)⟩)⟩)⟩) q hq)⟩
  ·
    refine y_iconst hM dL_law_656 ?_
    refine lv_goto (tgt := 692) hM.1 hM.2.1 dL_law_657 (by decide) ?_
    refine lv_istore (lv' := [(16, .int (iI (1))), (15, .int (iI (((k : Nat) : Int)))), (14, .int (iI (((sv : Nat) : Int)))), (13, .int (iI (((pv : Nat) : Int)))), (12, .int (iI (kd))), (11, .int (iI (yy))), (10, .int (iI (xx))), (9, .int (iI (((i : Nat) : Int)))), (8, .ref (ad 56 0)), (7, .ref (ad 55 0)), (6, .ref (ad 54 0)), (5, .ref (ad 53 0)), (4, .ref (ad 52 0)), (3, .ref (ad 51 0)), (2, .ref (ad 50 0)), (1, .ref (ad 0 0)), (0, .ref b)]) hM.1 hM.2.1 dL_law_692 hl (by decide) rfl (fun ls hl => ?_)
    refine y_iload hM hl 0 rfl dL_law_694 ?_
    refine y_if_le hM (by constructor <;> omega) (tgt := 715) dL_law_696 (by decide) (fun c_696 => False.elim (by omega)) (fun c_696 => ?_)
    refine y_aload_n hM hl 15 rfl rfl dL_law_699 ?_
    refine y_iconst hM dL_law_700 ?_
    refine y_iload hM hl 2 rfl dL_law_701 ?_
    refine y_iload hM hl 3 rfl dL_law_703 ?_
    refine y_callSX hM hN hC (c_ref_order l hfl G b0 ks ad T P (((sv : Nat) : Int)) (((pv : Nat) : Int)) ⟨by omega, by omega⟩ ⟨by omega, by omega⟩ hF hRK hRN hDN hSK hSN hOK hON hKF (fun w => by omega)) (vx_cwSW 4 hM.2.2.2.2 gL_law_L_refused rfl rfl rfl (by decide +kernel) ⟨(Nat.le_of_ble_eq_true rfl), (Nat.le_of_ble_eq_true rfl)⟩) rfl hl.1 rfl (Nat.le_of_ble_eq_true rfl) dL_law_705 ⟨(show _ ≤ 602294 by omega), (show _ ≤ 7294300 by omega)⟩ (fun E ce q9 u1 H locs hx hC hce hcv hcl => hx.elim) (fun v u1 H locs hp hC => ?_)
    obtain ⟨r_705, rfl, h_705, hu⟩ := hp; rw [hu] at hC; clear hu
    try dsimp only at h_705
    refine W.eq (g2 := F0 m 708 ls [.int (iI (r_705))]) rfl ?_
    simp only [Int.toNat_natCast] at h_705
    refine y_iload hM hl 0 rfl dL_law_708 ?_
    refine y_icmp_eq hM (by constructor <;> omega) (by constructor <;> omega) (tgt := 1643) dL_law_710 (by decide) (fun c_710 => ?_) (fun c_710 => False.elim (by omega))
    exact kn _ _ _ _ _ _ _ _ ls (by omega) (by omega) hC hI ⟨hl.1, hl.2.1, fun q hq => hl.2.2 q ((List.forall_mem_cons.mpr ⟨List.mem_of_getElem? (i := 7) rfl, (List.forall_mem_cons.mpr ⟨List.mem_of_getElem? (i := 8) rfl, (List.forall_mem_cons.mpr ⟨List.mem_of_getElem? (i := 9) rfl, (List.forall_mem_cons.mpr ⟨List.mem_of_getElem? (i := 10) rfl, (List.forall_mem_cons.mpr ⟨List.mem_of_getElem? (i := 11) rfl, (List.forall_mem_cons.mpr ⟨List.mem_of_getElem? (i := 12) rfl, (List.forall_mem_cons.mpr ⟨List.mem_of_getElem? (i := 13) rfl, (List.forall_mem_cons.mpr ⟨List.mem_of_getElem? (i := 14) rfl, (List.forall_mem_cons.mpr ⟨List.mem_of_getElem? (i := 15) rfl, (List.forall_mem_cons.mpr ⟨List.mem_of_getElem? (i := 16) rfl, (fun _ h => absurd h List.not_mem_nil)⟩)⟩)⟩)⟩)⟩)⟩)⟩)⟩)⟩)⟩) q hq)⟩
