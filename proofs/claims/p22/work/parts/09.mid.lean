set_option maxRecDepth 100000 in
set_option maxHeartbeats 8000000 in
theorem c_priceRowOf (l : Launch) (hfl : l.stackTraces = false) (G : GG) (b0 : Nat) (ks : KK) (ad : AD) (T : TT) (P : PP) (z : Int) (hz : inI z) (hF : FI ks ad P) (hRK : RK ks ad P) : vx_Met l yX3_priceRowOf wsX3_priceRowOf (rmX 6 1 6 82) (va_Pc [.ref (ad 0 0), .int (iI (z))] (Ok G b0 (ks, ad, T, P))) (Qr (pA (ad 6 z.toNat) (0 ≤ z ∧ z < 5) (ks, ad, T, P)) G b0) (Xr (pX (fun x => x = 1 ∧ (z < 0 ∨ 5 ≤ z)) (ks, ad, T, P)) G b0) 1 6 (Wx b0) := by
  refine vx_ofW (cc := cX3_priceRowOf) (maxL := 3) (ret := (some (.object "FundMoves$PriceRow"))) (by decide +kernel) rfl ?_
  intro p e s m args below meth c s₁ B hml hto hv
  obtain ⟨rfl, hok⟩ := hv
  have hM : CallFix p m c cX3_priceRowOf 3 s _ wsX3_priceRowOf RX3 := ⟨B.exec, B.bytes, hml, findClass_of_methodNamed B.named, atoms_spec (ws := wsX3_priceRowOf) B.pre⟩
  have hr := B.returns
  have hlk := B.notSynchronized
  have hC := hok.cur
  have hl := lv_entry ([.ref (ad 0 0), .int (iI (z))]) (n := 3) (Nat.le_of_ble_eq_true rfl)
  rw [lg_entry_eq]
  generalize (lg_sl ([.ref (ad 0 0), .int (iI (z))]) ++ List.replicate (3 - (lg_sl ([.ref (ad 0 0), .int (iI (z))])).length) Slot.unset).toArray = ls at hl ⊢
  have hl : lv_has ls 3 [(0, .ref (ad 0 0)), (1, .int (iI (z)))] := hl
  refine y_iload_n hM hl 1 rfl rfl dX3_priceRowOf_0 ?_
  refine y_callS hM hC (c_isProvider l hfl G b0 (ks, ad, T, P) (z) (by constructor <;> omega)) (va_cwS 1 hM.2.2.2.2 gX3_priceRowOf_X3_isProvider rfl rfl rfl (by decide +kernel) ⟨(Nat.le_of_ble_eq_true rfl), (Nat.le_of_ble_eq_true rfl)⟩) rfl hl.1 rfl (Nat.le_of_ble_eq_true rfl) dX3_priceRowOf_1 ⟨(Nat.le_of_ble_eq_true rfl), (Nat.le_of_ble_eq_true rfl)⟩ (fun E ce q9 u1 H locs hx hC hce hcv hcl => hx.elim) (fun v u1 H locs hp hC => ?_)
  obtain ⟨r_1, rfl, h_1, hu⟩ := hp; rw [hu] at hC; clear hu
  try dsimp only at h_1
  refine W.eq (g2 := F0 m 4 ls [.int (iI (r_1))]) rfl ?_
  refine y_if_eq hM (by constructor <;> omega) (tgt := 16) dX3_priceRowOf_4 (by decide) (fun c_4 => ?_) (fun c_4 => ?_)
  ·
    refine lv_null hM.1 hM.2.1 dX3_priceRowOf_16 ?_
    refine lv_astore_nN (lv' := [(2, .null), (0, .ref (ad 0 0)), (1, .int (iI (z)))]) hM.1 hM.2.1 dX3_priceRowOf_17 rfl hl (by decide) rfl (fun ls hl => ?_)
    refine y_aload_nN hM hl 0 rfl rfl dX3_priceRowOf_18 ?_
    refine lv_ifnonnullN hM.1 hM.2.1 dX3_priceRowOf_19 ?_
    exact y_throw hM hto hfl hlk hl.1 hC caA (text := "provider out of range") (by decide +kernel) ngA goA ⟨(by decide +kernel), (by decide +kernel)⟩ (by decide +kernel) dX3_priceRowOf_22 dX3_priceRowOf_25 dX3_priceRowOf_26 dX3_priceRowOf_28 dX3_priceRowOf_31 ⟨(Nat.le_of_ble_eq_true rfl), (Nat.le_of_ble_eq_true rfl), (Nat.le_of_ble_eq_true rfl), (Nat.le_of_ble_eq_true rfl)⟩ ⟨1, rfl, (by (try dsimp only); omega), rfl⟩ (Nat.le_of_ble_eq_true rfl) (Nat.le_of_ble_eq_true rfl)
  ·
    refine y_aload_n hM hl 0 rfl rfl dX3_priceRowOf_7 ?_
    refine y_get hM hC hF.1 rfl rfl (by decide +kernel) 0 ⟨by decide, rfl, rfl, rfl⟩ (by decide +kernel) (congrArg (fun q => some (va_rf q)) hF.2.2.2.2.2.2.1) dX3_priceRowOf_8 ?_
    refine W.eq (g2 := F0 m 11 ls [.ref (ad 1 0)]) rfl ?_
    refine y_iload_n hM hl 1 rfl rfl dX3_priceRowOf_11 ?_
    refine y_aald hM hC hF.2.1 0 rfl rfl ⟨by omega, by omega⟩ (by decide) (hRK _ (by omega)).2.2.2.2.1 dX3_priceRowOf_12 ?_
    refine W.eq (g2 := F0 m 13 ls [.ref (ad 6 z.toNat)]) rfl ?_
    refine lv_goto (tgt := 17) hM.1 hM.2.1 dX3_priceRowOf_13 (by decide) ?_
    refine lv_astore_n (lv' := [(2, .ref (ad 6 z.toNat)), (0, .ref (ad 0 0)), (1, .int (iI (z)))]) hM.1 hM.2.1 dX3_priceRowOf_17 rfl hl (by decide) rfl (fun ls hl => ?_)
    refine y_aload_n hM hl 0 rfl rfl dX3_priceRowOf_18 ?_
    refine lv_ifnonnull (tgt := 32) hM.1 hM.2.1 dX3_priceRowOf_19 (by decide) ?_
    refine y_aload_n hM hl 0 rfl rfl dX3_priceRowOf_32 ?_
    exact y_aret hM hr hlk hC ⟨rfl, (by omega), rfl⟩ (Nat.le_of_ble_eq_true rfl) (Nat.le_of_ble_eq_true rfl) dX3_priceRowOf_33

set_option maxRecDepth 100000 in
set_option maxHeartbeats 8000000 in
theorem c_priceNow (l : Launch) (hfl : l.stackTraces = false) (G : GG) (b0 : Nat) (ks : KK) (ad : AD) (T : TT) (P : PP) (z : Int) (hz : 0 ≤ z ∧ z < 5) (hF : FI ks ad P) (hRK : RK ks ad P) (hRN : RN T) (hDN : DN T) : vx_Met l yX3_priceNow wsX3_priceNow (rmX 7 1 6 104) (va_Pc [.ref (ad 0 0), .int (iI (z))] (Ok G b0 (ks, ad, T, P))) (Qr (pI (fun r => r = valT T z.toNat (T 0 0 5)) (ks, ad, T, P)) G b0) (Xr (noX) G b0) 1 6 (Wx b0) := by
  refine vx_ofW (cc := cX3_priceNow) (maxL := 2) (ret := (some .int)) (by decide +kernel) rfl ?_
  intro p e s m args below meth c s₁ B hml hto hv
  obtain ⟨rfl, hok⟩ := hv
  have hM : CallFix p m c cX3_priceNow 2 s _ wsX3_priceNow RX3 := ⟨B.exec, B.bytes, hml, findClass_of_methodNamed B.named, atoms_spec (ws := wsX3_priceNow) B.pre⟩
  have hr := B.returns
  have hlk := B.notSynchronized
  have hC := hok.cur
  have hl := lv_entry ([.ref (ad 0 0), .int (iI (z))]) (n := 2) (Nat.le_of_ble_eq_true rfl)
  rw [lg_entry_eq]
  generalize (lg_sl ([.ref (ad 0 0), .int (iI (z))]) ++ List.replicate (2 - (lg_sl ([.ref (ad 0 0), .int (iI (z))])).length) Slot.unset).toArray = ls at hl ⊢
  have hl : lv_has ls 2 [(0, .ref (ad 0 0)), (1, .int (iI (z)))] := hl
  obtain ⟨hd0, hd1, hd2, hd3⟩ := hDN
  refine y_aload_n hM hl 0 rfl rfl dX3_priceNow_0 ?_
  refine y_iload_n hM hl 1 rfl rfl dX3_priceNow_1 ?_
  refine y_callV hM hC (c_priceRowOf l hfl G b0 ks ad T P (z) (by constructor <;> omega) hF hRK) (cwV 1 hM.2.2.2.2 gX3_priceNow_X3_priceRowOf rfl rfl rfl (by decide +kernel) ⟨(Nat.le_of_ble_eq_true rfl), (Nat.le_of_ble_eq_true rfl)⟩) (y_recv hC hF.1 rfl rfl) rfl hl.1 rfl (Nat.le_of_ble_eq_true rfl) dX3_priceNow_2 ⟨(Nat.le_of_ble_eq_true rfl), (Nat.le_of_ble_eq_true rfl)⟩ (fun E ce q9 u1 H locs hx hC hce hcv hcl => by
      obtain ⟨x, rfl, hx, hu⟩ := hx; rw [hu] at hC; clear hu; try dsimp only at hx
      exact False.elim (by omega)) (fun v u1 H locs hp hC => ?_)
  obtain ⟨rfl, h_2, hu⟩ := hp; rw [hu] at hC; clear hu
  try dsimp only at h_2
  refine W.eq (g2 := F0 m 5 ls [.ref (ad 6 (z).toNat)]) rfl ?_
  refine y_aload_n hM hl 0 rfl rfl dX3_priceNow_5 ?_
  refine y_get hM hC hF.1 rfl rfl (by decide +kernel) 5 ⟨by decide, rfl, rfl, rfl⟩ (by decide +kernel) rfl dX3_priceNow_6 ?_
  refine y_callV hM hC (c_valueOn l hfl G b0 ks ad T P (z).toNat (by omega) hRK hRN (T 0 0 5) (by constructor <;> omega)) (cwV 1 hM.2.2.2.2 gX3_priceNow_X1_valueOn rfl rfl rfl (by decide +kernel) ⟨(Nat.le_of_ble_eq_true rfl), (Nat.le_of_ble_eq_true rfl)⟩) (y_recv hC (hRK _ (by omega)).1 rfl rfl) rfl hl.1 rfl (Nat.le_of_ble_eq_true rfl) dX3_priceNow_9 ⟨(Nat.le_of_ble_eq_true rfl), (Nat.le_of_ble_eq_true rfl)⟩ (fun E ce q9 u1 H locs hx hC hce hcv hcl => hx.elim) (fun v u1 H locs hp hC => ?_)
  obtain ⟨r_9, rfl, h_9, hu⟩ := hp; rw [hu] at hC; clear hu
  try dsimp only at h_9
  refine W.eq (g2 := F0 m 12 ls [.int (iI (r_9))]) rfl ?_
  exact y_iret hM hr hlk hC ⟨_, rfl, h_9, rfl⟩ (Nat.le_of_ble_eq_true rfl) (Nat.le_of_ble_eq_true rfl) dX3_priceNow_12

set_option maxRecDepth 100000 in
set_option maxHeartbeats 8000000 in
theorem c_saverAt (l : Launch) (hfl : l.stackTraces = false) (G : GG) (b0 : Nat) (ks : KK) (ad : AD) (T : TT) (P : PP) (z : Int) (hz : inI z) (hF : FI ks ad P) (hSK : SK ks ad T P) : vx_Met l yX3_saverAt wsX3_saverAt (rmX 6 1 6 82) (va_Pc [.ref (ad 0 0), .int (iI (z))] (Ok G b0 (ks, ad, T, P))) (Qr (pA (ad 10 z.toNat) (0 ≤ z ∧ z < T 0 0 7) (ks, ad, T, P)) G b0) (Xr (pX (fun x => x = 3 ∧ (z < 0 ∨ T 0 0 7 ≤ z)) (ks, ad, T, P)) G b0) 1 6 (Wx b0) := by
  refine vx_ofW (cc := cX3_saverAt) (maxL := 3) (ret := (some (.object "FundMoves$Saver"))) (by decide +kernel) rfl ?_
  intro p e s m args below meth c s₁ B hml hto hv
  obtain ⟨rfl, hok⟩ := hv
  have hM : CallFix p m c cX3_saverAt 3 s _ wsX3_saverAt RX3 := ⟨B.exec, B.bytes, hml, findClass_of_methodNamed B.named, atoms_spec (ws := wsX3_saverAt) B.pre⟩
  have hr := B.returns
  have hlk := B.notSynchronized
  have hC := hok.cur
  have hl := lv_entry ([.ref (ad 0 0), .int (iI (z))]) (n := 3) (Nat.le_of_ble_eq_true rfl)
  rw [lg_entry_eq]
  generalize (lg_sl ([.ref (ad 0 0), .int (iI (z))]) ++ List.replicate (3 - (lg_sl ([.ref (ad 0 0), .int (iI (z))])).length) Slot.unset).toArray = ls at hl ⊢
  have hl : lv_has ls 3 [(0, .ref (ad 0 0)), (1, .int (iI (z)))] := hl
  obtain ⟨hn0, hn1, hn2, hn3⟩ := id hSK
  refine y_iload_n hM hl 1 rfl rfl dX3_saverAt_0 ?_
  refine y_iconst hM dX3_saverAt_1 ?_
  refine y_bipush hM dX3_saverAt_2 (by decide) ?_
  refine y_callS hM hC (c_isOutside l hfl G b0 (ks, ad, T, P) (z) (0) (9) (by constructor <;> omega) (by constructor <;> omega) (by constructor <;> omega)) (va_cwS 3 hM.2.2.2.2 gX3_saverAt_X3_isOutside rfl rfl rfl (by decide +kernel) ⟨(Nat.le_of_ble_eq_true rfl), (Nat.le_of_ble_eq_true rfl)⟩) rfl hl.1 rfl (Nat.le_of_ble_eq_true rfl) dX3_saverAt_4 ⟨(Nat.le_of_ble_eq_true rfl), (Nat.le_of_ble_eq_true rfl)⟩ (fun E ce q9 u1 H locs hx hC hce hcv hcl => hx.elim) (fun v u1 H locs hp hC => ?_)
  obtain ⟨r_4, rfl, h_4, hu⟩ := hp; rw [hu] at hC; clear hu
  try dsimp only at h_4
  refine W.eq (g2 := F0 m 7 ls [.int (iI (r_4))]) rfl ?_
  refine y_if_eq hM (by constructor <;> omega) (tgt := 14) dX3_saverAt_7 (by decide) (fun c_7 => ?_) (fun c_7 => ?_)
  ·
    refine y_aload_n hM hl 0 rfl rfl dX3_saverAt_14 ?_
    refine y_get hM hC hF.1 rfl rfl (by decide +kernel) 3 ⟨by decide, rfl, rfl, rfl⟩ (by decide +kernel) (congrArg (fun q => some (va_rf q)) hF.2.2.2.2.2.2.2.2.2.1) dX3_saverAt_15 ?_
    refine W.eq (g2 := F0 m 18 ls [.ref (ad 4 0)]) rfl ?_
    refine y_iload_n hM hl 1 rfl rfl dX3_saverAt_18 ?_
    rcases Int.lt_or_le z (T 0 0 7) with hlt | hge
    ·
      refine y_aald hM hC hF.2.2.2.2.1 3 rfl rfl ⟨by omega, by omega⟩ (by decide) ((hn2 _ (by omega)).trans (if_pos (by omega))) dX3_saverAt_19 ?_
      refine W.eq (g2 := F0 m 20 ls [.ref (ad 10 z.toNat)]) rfl ?_
      refine lv_astore_n (lv' := [(2, .ref (ad 10 z.toNat)), (0, .ref (ad 0 0)), (1, .int (iI (z)))]) hM.1 hM.2.1 dX3_saverAt_20 rfl hl (by decide) rfl (fun ls hl => ?_)
      refine y_aload_n hM hl 0 rfl rfl dX3_saverAt_21 ?_
      refine lv_ifnonnull (tgt := 35) hM.1 hM.2.1 dX3_saverAt_22 (by decide) ?_
      refine y_aload_n hM hl 0 rfl rfl dX3_saverAt_35 ?_
      exact y_aret hM hr hlk hC ⟨rfl, (by omega), rfl⟩ (Nat.le_of_ble_eq_true rfl) (Nat.le_of_ble_eq_true rfl) dX3_saverAt_36
    ·
      refine y_aald hM hC hF.2.2.2.2.1 3 rfl rfl ⟨by omega, by omega⟩ (by decide) ((hn2 _ (by omega)).trans (if_neg (by omega))) dX3_saverAt_19 ?_
      refine W.eq (g2 := F0 m 20 ls [.null]) rfl ?_
      refine lv_astore_nN (lv' := [(2, .null), (0, .ref (ad 0 0)), (1, .int (iI (z)))]) hM.1 hM.2.1 dX3_saverAt_20 rfl hl (by decide) rfl (fun ls hl => ?_)
      refine y_aload_nN hM hl 0 rfl rfl dX3_saverAt_21 ?_
      refine lv_ifnonnullN hM.1 hM.2.1 dX3_saverAt_22 ?_
      exact y_throw hM hto hfl hlk hl.1 hC caB (text := "no such saver") (by decide +kernel) ngB goB ⟨(by decide +kernel), (by decide +kernel)⟩ (by decide +kernel) dX3_saverAt_25 dX3_saverAt_28 dX3_saverAt_29 dX3_saverAt_31 dX3_saverAt_34 ⟨(Nat.le_of_ble_eq_true rfl), (Nat.le_of_ble_eq_true rfl), (Nat.le_of_ble_eq_true rfl), (Nat.le_of_ble_eq_true rfl)⟩ ⟨3, rfl, (by (try dsimp only); omega), rfl⟩ (Nat.le_of_ble_eq_true rfl) (Nat.le_of_ble_eq_true rfl)
  ·
    refine lv_null hM.1 hM.2.1 dX3_saverAt_10 ?_
    refine lv_goto (tgt := 20) hM.1 hM.2.1 dX3_saverAt_11 (by decide) ?_
    refine lv_astore_nN (lv' := [(2, .null), (0, .ref (ad 0 0)), (1, .int (iI (z)))]) hM.1 hM.2.1 dX3_saverAt_20 rfl hl (by decide) rfl (fun ls hl => ?_)
    refine y_aload_nN hM hl 0 rfl rfl dX3_saverAt_21 ?_
    refine lv_ifnonnullN hM.1 hM.2.1 dX3_saverAt_22 ?_
    exact y_throw hM hto hfl hlk hl.1 hC caB (text := "no such saver") (by decide +kernel) ngB goB ⟨(by decide +kernel), (by decide +kernel)⟩ (by decide +kernel) dX3_saverAt_25 dX3_saverAt_28 dX3_saverAt_29 dX3_saverAt_31 dX3_saverAt_34 ⟨(Nat.le_of_ble_eq_true rfl), (Nat.le_of_ble_eq_true rfl), (Nat.le_of_ble_eq_true rfl), (Nat.le_of_ble_eq_true rfl)⟩ ⟨3, rfl, (by (try dsimp only); omega), rfl⟩ (Nat.le_of_ble_eq_true rfl) (Nat.le_of_ble_eq_true rfl)

set_option maxRecDepth 100000 in
set_option maxHeartbeats 8000000 in
theorem c_orderAt (l : Launch) (hfl : l.stackTraces = false) (G : GG) (b0 : Nat) (ks : KK) (ad : AD) (T : TT) (P : PP) (z : Int) (hz : inI z) (hF : FI ks ad P) (hOK : OK1 ks ad T P) : vx_Met l yX3_orderAt wsX3_orderAt (rmX 6 1 6 82) (va_Pc [.ref (ad 0 0), .int (iI (z))] (Ok G b0 (ks, ad, T, P))) (Qr (pA (ad 11 z.toNat) (0 ≤ z ∧ z < T 0 0 8) (ks, ad, T, P)) G b0) (Xr (pX (fun x => x = 3 ∧ (z < 0 ∨ T 0 0 8 ≤ z)) (ks, ad, T, P)) G b0) 1 6 (Wx b0) := by
  refine vx_ofW (cc := cX3_orderAt) (maxL := 3) (ret := (some (.object "FundMoves$Order"))) (by decide +kernel) rfl ?_
  intro p e s m args below meth c s₁ B hml hto hv
  obtain ⟨rfl, hok⟩ := hv
  have hM : CallFix p m c cX3_orderAt 3 s _ wsX3_orderAt RX3 := ⟨B.exec, B.bytes, hml, findClass_of_methodNamed B.named, atoms_spec (ws := wsX3_orderAt) B.pre⟩
  have hr := B.returns
  have hlk := B.notSynchronized
  have hC := hok.cur
  have hl := lv_entry ([.ref (ad 0 0), .int (iI (z))]) (n := 3) (Nat.le_of_ble_eq_true rfl)
  rw [lg_entry_eq]
  generalize (lg_sl ([.ref (ad 0 0), .int (iI (z))]) ++ List.replicate (3 - (lg_sl ([.ref (ad 0 0), .int (iI (z))])).length) Slot.unset).toArray = ls at hl ⊢
  have hl : lv_has ls 3 [(0, .ref (ad 0 0)), (1, .int (iI (z)))] := hl
  obtain ⟨hn0, hn1, hn2, hn3⟩ := id hOK
  refine y_iload_n hM hl 1 rfl rfl dX3_orderAt_0 ?_
  refine y_iconst hM dX3_orderAt_1 ?_
  refine y_bipush hM dX3_orderAt_2 (by decide) ?_
  refine y_callS hM hC (c_isOutside l hfl G b0 (ks, ad, T, P) (z) (0) (29) (by constructor <;> omega) (by constructor <;> omega) (by constructor <;> omega)) (va_cwS 3 hM.2.2.2.2 gX3_orderAt_X3_isOutside rfl rfl rfl (by decide +kernel) ⟨(Nat.le_of_ble_eq_true rfl), (Nat.le_of_ble_eq_true rfl)⟩) rfl hl.1 rfl (Nat.le_of_ble_eq_true rfl) dX3_orderAt_4 ⟨(Nat.le_of_ble_eq_true rfl), (Nat.le_of_ble_eq_true rfl)⟩ (fun E ce q9 u1 H locs hx hC hce hcv hcl => hx.elim) (fun v u1 H locs hp hC => ?_)
  obtain ⟨r_4, rfl, h_4, hu⟩ := hp; rw [hu] at hC; clear hu
  try dsimp only at h_4
  refine W.eq (g2 := F0 m 7 ls [.int (iI (r_4))]) rfl ?_
  refine y_if_eq hM (by constructor <;> omega) (tgt := 14) dX3_orderAt_7 (by decide) (fun c_7 => ?_) (fun c_7 => ?_)
  ·
    refine y_aload_n hM hl 0 rfl rfl dX3_orderAt_14 ?_
    refine y_get hM hC hF.1 rfl rfl (by decide +kernel) 4 ⟨by decide, rfl, rfl, rfl⟩ (by decide +kernel) (congrArg (fun q => some (va_rf q)) hF.2.2.2.2.2.2.2.2.2.2) dX3_orderAt_15 ?_
    refine W.eq (g2 := F0 m 18 ls [.ref (ad 5 0)]) rfl ?_
    refine y_iload_n hM hl 1 rfl rfl dX3_orderAt_18 ?_
    rcases Int.lt_or_le z (T 0 0 8) with hlt | hge
    ·
      refine y_aald hM hC hF.2.2.2.2.2.1 4 rfl rfl ⟨by omega, by omega⟩ (by decide) ((hn2 _ (by omega)).trans (if_pos (by omega))) dX3_orderAt_19 ?_
      refine W.eq (g2 := F0 m 20 ls [.ref (ad 11 z.toNat)]) rfl ?_
      refine lv_astore_n (lv' := [(2, .ref (ad 11 z.toNat)), (0, .ref (ad 0 0)), (1, .int (iI (z)))]) hM.1 hM.2.1 dX3_orderAt_20 rfl hl (by decide) rfl (fun ls hl => ?_)
      refine y_aload_n hM hl 0 rfl rfl dX3_orderAt_21 ?_
      refine lv_ifnonnull (tgt := 35) hM.1 hM.2.1 dX3_orderAt_22 (by decide) ?_
      refine y_aload_n hM hl 0 rfl rfl dX3_orderAt_35 ?_
      exact y_aret hM hr hlk hC ⟨rfl, (by omega), rfl⟩ (Nat.le_of_ble_eq_true rfl) (Nat.le_of_ble_eq_true rfl) dX3_orderAt_36
    ·
      refine y_aald hM hC hF.2.2.2.2.2.1 4 rfl rfl ⟨by omega, by omega⟩ (by decide) ((hn2 _ (by omega)).trans (if_neg (by omega))) dX3_orderAt_19 ?_
      refine W.eq (g2 := F0 m 20 ls [.null]) rfl ?_
      refine lv_astore_nN (lv' := [(2, .null), (0, .ref (ad 0 0)), (1, .int (iI (z)))]) hM.1 hM.2.1 dX3_orderAt_20 rfl hl (by decide) rfl (fun ls hl => ?_)
      refine y_aload_nN hM hl 0 rfl rfl dX3_orderAt_21 ?_
      refine lv_ifnonnullN hM.1 hM.2.1 dX3_orderAt_22 ?_
      exact y_throw hM hto hfl hlk hl.1 hC caB (text := "no such order") (by decide +kernel) ngB goB ⟨(by decide +kernel), (by decide +kernel)⟩ (by decide +kernel) dX3_orderAt_25 dX3_orderAt_28 dX3_orderAt_29 dX3_orderAt_31 dX3_orderAt_34 ⟨(Nat.le_of_ble_eq_true rfl), (Nat.le_of_ble_eq_true rfl), (Nat.le_of_ble_eq_true rfl), (Nat.le_of_ble_eq_true rfl)⟩ ⟨3, rfl, (by (try dsimp only); omega), rfl⟩ (Nat.le_of_ble_eq_true rfl) (Nat.le_of_ble_eq_true rfl)
  ·
    refine lv_null hM.1 hM.2.1 dX3_orderAt_10 ?_
    refine lv_goto (tgt := 20) hM.1 hM.2.1 dX3_orderAt_11 (by decide) ?_
    refine lv_astore_nN (lv' := [(2, .null), (0, .ref (ad 0 0)), (1, .int (iI (z)))]) hM.1 hM.2.1 dX3_orderAt_20 rfl hl (by decide) rfl (fun ls hl => ?_)
    refine y_aload_nN hM hl 0 rfl rfl dX3_orderAt_21 ?_
    refine lv_ifnonnullN hM.1 hM.2.1 dX3_orderAt_22 ?_
    exact y_throw hM hto hfl hlk hl.1 hC caB (text := "no such order") (by decide +kernel) ngB goB ⟨(by decide +kernel), (by decide +kernel)⟩ (by decide +kernel) dX3_orderAt_25 dX3_orderAt_28 dX3_orderAt_29 dX3_orderAt_31 dX3_orderAt_34 ⟨(Nat.le_of_ble_eq_true rfl), (Nat.le_of_ble_eq_true rfl), (Nat.le_of_ble_eq_true rfl), (Nat.le_of_ble_eq_true rfl)⟩ ⟨3, rfl, (by (try dsimp only); omega), rfl⟩ (Nat.le_of_ble_eq_true rfl) (Nat.le_of_ble_eq_true rfl)

set_option maxRecDepth 100000 in
set_option maxHeartbeats 8000000 in
theorem c_openOrderAt (l : Launch) (hfl : l.stackTraces = false) (G : GG) (b0 : Nat) (ks : KK) (ad : AD) (T : TT) (P : PP) (z : Int) (hz : inI z) (hF : FI ks ad P) (hOK : OK1 ks ad T P) (hON : ON T) : vx_Met l yX3_openOrderAt wsX3_openOrderAt (rmX 7 2 12 104) (va_Pc [.ref (ad 0 0), .int (iI (z))] (Ok G b0 (ks, ad, T, P))) (Qr (pA (ad 11 z.toNat) (0 ≤ z ∧ z < T 0 0 8 ∧ T 11 z.toNat 3 ≠ 3) (ks, ad, T, P)) G b0) (Xr (pX (fun x => (x = 3 ∧ (z < 0 ∨ T 0 0 8 ≤ z)) ∨ (x = 2 ∧ 0 ≤ z ∧ z < T 0 0 8 ∧ T 11 z.toNat 3 = 3)) (ks, ad, T, P)) G b0) 2 12 (Wx b0) := by
  refine vx_ofW (cc := cX3_openOrderAt) (maxL := 3) (ret := (some (.object "FundMoves$Order"))) (by decide +kernel) rfl ?_
  intro p e s m args below meth c s₁ B hml hto hv
  obtain ⟨rfl, hok⟩ := hv
  have hM : CallFix p m c cX3_openOrderAt 3 s _ wsX3_openOrderAt RX3 := ⟨B.exec, B.bytes, hml, findClass_of_methodNamed B.named, atoms_spec (ws := wsX3_openOrderAt) B.pre⟩
  have hr := B.returns
  have hlk := B.notSynchronized
  have hC := hok.cur
  have hl := lv_entry ([.ref (ad 0 0), .int (iI (z))]) (n := 3) (Nat.le_of_ble_eq_true rfl)
  rw [lg_entry_eq]
  generalize (lg_sl ([.ref (ad 0 0), .int (iI (z))]) ++ List.replicate (3 - (lg_sl ([.ref (ad 0 0), .int (iI (z))])).length) Slot.unset).toArray = ls at hl ⊢
  have hl : lv_has ls 3 [(0, .ref (ad 0 0)), (1, .int (iI (z)))] := hl
  refine y_aload_n hM hl 0 rfl rfl dX3_openOrderAt_0 ?_
  refine y_iload_n hM hl 1 rfl rfl dX3_openOrderAt_1 ?_
  refine y_callV hM hC (c_orderAt l hfl G b0 ks ad T P (z) (by constructor <;> omega) hF hOK) (cwV 1 hM.2.2.2.2 gX3_openOrderAt_X3_orderAt rfl rfl rfl (by decide +kernel) ⟨(Nat.le_of_ble_eq_true rfl), (Nat.le_of_ble_eq_true rfl)⟩) (y_recv hC hF.1 rfl rfl) rfl hl.1 rfl (Nat.le_of_ble_eq_true rfl) dX3_openOrderAt_2 ⟨(Nat.le_of_ble_eq_true rfl), (Nat.le_of_ble_eq_true rfl)⟩ (fun E ce q9 u1 H locs hx hC hce hcv hcl => by
      obtain ⟨x, rfl, hx, hu⟩ := hx; rw [hu] at hC; clear hu; try dsimp only at hx
      exact y_out hto hlk hC hce hcv hcl ⟨x, rfl, (by (try dsimp only); omega), rfl⟩ (Nat.le_of_ble_eq_true rfl) (Nat.le_of_ble_eq_true rfl)) (fun v u1 H locs hp hC => ?_)
  obtain ⟨rfl, h_2, hu⟩ := hp; rw [hu] at hC; clear hu
  try dsimp only at h_2
  refine W.eq (g2 := F0 m 5 ls [.ref (ad 11 (z).toNat)]) rfl ?_
  have ho := hON z.toNat (by omega)
  refine lv_astore_n (lv' := [(2, .ref (ad 11 (z).toNat)), (0, .ref (ad 0 0)), (1, .int (iI (z)))]) hM.1 hM.2.1 dX3_openOrderAt_5 rfl hl (by decide) rfl (fun ls hl => ?_)
  refine y_aload_n hM hl 0 rfl rfl dX3_openOrderAt_6 ?_
  refine y_getN hM hC (hOK.2.2.2 _ (by omega)).1 rfl rfl (by decide +kernel) 3 0 ⟨by decide, rfl, rfl, rfl⟩ (by decide +kernel) rfl dX3_openOrderAt_7 ?_
  refine y_iconst hM dX3_openOrderAt_10 ?_
  refine y_icmp_ne hM (by constructor <;> omega) (by constructor <;> omega) (tgt := 24) dX3_openOrderAt_11 (by decide) (fun c_11 => ?_) (fun c_11 => ?_)
  ·
    refine y_aload_n hM hl 0 rfl rfl dX3_openOrderAt_24 ?_
    exact y_aret hM hr hlk hC ⟨rfl, (by omega), rfl⟩ (Nat.le_of_ble_eq_true rfl) (Nat.le_of_ble_eq_true rfl) dX3_openOrderAt_25
  ·
    exact y_throw hM hto hfl hlk hl.1 hC caS (text := "the order is done") (by decide +kernel) ngS goS ⟨(by decide +kernel), (by decide +kernel)⟩ (by decide +kernel) dX3_openOrderAt_14 dX3_openOrderAt_17 dX3_openOrderAt_18 dX3_openOrderAt_20 dX3_openOrderAt_23 ⟨(Nat.le_of_ble_eq_true rfl), (Nat.le_of_ble_eq_true rfl), (Nat.le_of_ble_eq_true rfl), (Nat.le_of_ble_eq_true rfl)⟩ ⟨2, rfl, (by (try dsimp only); omega), rfl⟩ (Nat.le_of_ble_eq_true rfl) (Nat.le_of_ble_eq_true rfl)

set_option maxRecDepth 100000 in
set_option maxHeartbeats 8000000 in
theorem c_sell (l : Launch) (hfl : l.stackTraces = false) (G : GG) (b0 : Nat) (ks : KK) (ad : AD) (T : TT) (P : PP) (k : Nat) (hkn : (k : Int) < T 0 0 8) (f : Int) (hf : f = 0 ∨ f = 1) (hF : FI ks ad P) (hRK : RK ks ad P) (hRN : RN T) (hDN : DN T) (hSK : SK ks ad T P) (hSN : SN T) (hOK : OK1 ks ad T P) (hON : ON T)  : vx_Met l yX3_sell wsX3_sell (rmX 8 2 12 125) (va_Pc [.ref (ad 0 0), .ref (ad 11 k), .int (iI (f))] (Ok G b0 (ks, ad, T, P))) (Qr (pV True (ks, ad, sellT T k f, P)) G b0) (Xr (noX) G b0) 2 12 (Wx b0) := by
  refine vx_ofW (cc := cX3_sell) (maxL := 4) (ret := none) (by decide +kernel) rfl ?_
  intro p e s m args below meth c s₁ B hml hto hv
  obtain ⟨rfl, hok⟩ := hv
  have hM : CallFix p m c cX3_sell 4 s _ wsX3_sell RX3 := ⟨B.exec, B.bytes, hml, findClass_of_methodNamed B.named, atoms_spec (ws := wsX3_sell) B.pre⟩
  have hr := B.returns
  have hlk := B.notSynchronized
  have hC := hok.cur
  have hl := lv_entry ([.ref (ad 0 0), .ref (ad 11 k), .int (iI (f))]) (n := 4) (Nat.le_of_ble_eq_true rfl)
  rw [lg_entry_eq]
  generalize (lg_sl ([.ref (ad 0 0), .ref (ad 11 k), .int (iI (f))]) ++ List.replicate (4 - (lg_sl ([.ref (ad 0 0), .ref (ad 11 k), .int (iI (f))])).length) Slot.unset).toArray = ls at hl ⊢
  have hl : lv_has ls 4 [(0, .ref (ad 0 0)), (1, .ref (ad 11 k)), (2, .int (iI (f)))] := hl
  obtain ⟨hk11, hpm, hm0, hm1⟩ := hOK.2.2.2 k hkn
  have ho := hON k hkn
  have hs := hSN (mvT T k) (by unfold mvT; omega)
  have hk10 := hSK.2.2.2 (mvT T k) (by unfold mvT; omega)
  obtain ⟨hd0, hd1, hd2, hd3⟩ := id hDN
  have hs10 := hSK.2.1
  refine y_aload_n hM hl 0 rfl rfl dX3_sell_0 ?_
  refine y_aload_n hM hl 1 rfl rfl dX3_sell_1 ?_
  refine y_getN hM hC hk11 rfl rfl (by decide +kernel) 0 0 ⟨by decide, rfl, rfl, rfl⟩ (by decide +kernel) rfl dX3_sell_2 ?_
  refine y_callV hM hC (c_saverAt l hfl G b0 ks ad T P (T 11 k 0) (by constructor <;> omega) hF hSK) (cwV 1 hM.2.2.2.2 gX3_sell_X3_saverAt rfl rfl rfl (by decide +kernel) ⟨(Nat.le_of_ble_eq_true rfl), (Nat.le_of_ble_eq_true rfl)⟩) (y_recv hC hF.1 rfl rfl) rfl hl.1 rfl (Nat.le_of_ble_eq_true rfl) dX3_sell_5 ⟨(Nat.le_of_ble_eq_true rfl), (Nat.le_of_ble_eq_true rfl)⟩ (fun E ce q9 u1 H locs hx hC hce hcv hcl => by
      obtain ⟨x, rfl, hx, hu⟩ := hx; rw [hu] at hC; clear hu; try dsimp only at hx
      exact False.elim (by omega)) (fun v u1 H locs hp hC => ?_)
  obtain ⟨rfl, h_5, hu⟩ := hp; rw [hu] at hC; clear hu
  try dsimp only at h_5
  refine W.eq (g2 := F0 m 8 ls [.ref (ad 10 (mvT T k))]) rfl ?_
  refine lv_astore_n (lv' := [(3, .ref (ad 10 (mvT T k))), (0, .ref (ad 0 0)), (1, .ref (ad 11 k)), (2, .int (iI (f)))]) hM.1 hM.2.1 dX3_sell_8 rfl hl (by decide) rfl (fun ls hl => ?_)
  refine y_aload_n hM hl 2 rfl rfl dX3_sell_9 ?_
  refine y_aload_n hM hl 0 rfl rfl dX3_sell_10 ?_
  refine y_getN hM hC hk10 rfl rfl (by decide +kernel) 1 1 ⟨by decide, rfl, rfl, rfl⟩ (by decide +kernel) rfl dX3_sell_11 ?_
  refine y_putN hM hC hk11 rfl rfl (by decide +kernel) tyX0 tyX0_ok nmX0 7 1 ⟨by decide, rfl, rfl, rfl, rfl⟩ (by decide +kernel) (ty := .long) (by decide +kernel) rfl rfl (Nat.le_of_ble_eq_true rfl) (T' := (up T 11 k 7 (T 10 (mvT T k) 1))) (P' := P) (cF_up rfl) (fun _ _ h => up_ne h) (fun _ _ _ => rfl) dX3_sell_14 (fun H locs hC => ?_)
  refine y_aload_n hM hl 2 rfl rfl dX3_sell_17 ?_
  refine y_aload_n hM hl 2 rfl rfl dX3_sell_18 ?_
  refine y_getN hM hC hk11 rfl rfl (by decide +kernel) 7 1 ⟨by decide, rfl, rfl, rfl⟩ (by decide +kernel) (congrArg (fun q => some (Value.long (lI q))) (show (up T 11 k 7 (T 10 (mvT T k) 1)) 11 k 7 = T 10 (mvT T k) 1 from by simp [up])) dX3_sell_19 ?_
  refine y_iload_n hM hl 3 rfl rfl dX3_sell_22 ?_
  refine y_if_eq hM (by constructor <;> omega) (tgt := 33) dX3_sell_23 (by decide) (fun c_23 => ?_) (fun c_23 => ?_)
  ·
    refine y_aload_n hM hl 1 rfl rfl dX3_sell_33 ?_
    refine y_aload_n hM hl 2 rfl rfl dX3_sell_34 ?_
    refine y_getN hM hC hk11 rfl rfl (by decide +kernel) 1 0 ⟨by decide, rfl, rfl, rfl⟩ (by decide +kernel) (congrArg (fun q => some (Value.int (iI q))) (show (up T 11 k 7 (T 10 (mvT T k) 1)) 11 k 1 = T 11 k 1 from by simp [up])) dX3_sell_35 ?_
    refine y_callV hM hC (c_priceNow l hfl G b0 ks ad (up T 11 k 7 (T 10 (mvT T k) 1)) P (T 11 k 1) ⟨by omega, by omega⟩ hF hRK (RN_up (by decide) hRN) (DN_up (by decide) hDN)) (cwV 1 hM.2.2.2.2 gX3_sell_X3_priceNow rfl rfl rfl (by decide +kernel) ⟨(Nat.le_of_ble_eq_true rfl), (Nat.le_of_ble_eq_true rfl)⟩) (y_recv hC hF.1 rfl rfl) rfl hl.1 rfl (Nat.le_of_ble_eq_true rfl) dX3_sell_38 ⟨(Nat.le_of_ble_eq_true rfl), (Nat.le_of_ble_eq_true rfl)⟩ (fun E ce q9 u1 H locs hx hC hce hcv hcl => hx.elim) (fun v u1 H locs hp hC => ?_)
    obtain ⟨r_38, rfl, h_38, hu⟩ := hp; rw [hu] at hC; clear hu
    try dsimp only at h_38
    refine W.eq (g2 := F0 m 41 ls [.int (iI (r_38)), .long (lI (T 10 (mvT T k) 1)), .ref (ad 11 k)]) rfl ?_
    have h_38 : r_38 = valT T (T 11 k 1).toNat (T 0 0 5) := by
      rw [h_38, valT_up (by decide)]
      simp [up]
    have hv_38 := valT_in hRN (p := (T 11 k 1).toNat) (by omega) (T 0 0 5)
    refine y_callS hM hC (c_moneyFor l hfl G b0 (ks, ad, (up T 11 k 7 (T 10 (mvT T k) 1)), P) (T 10 (mvT T k) 1) (r_38) ⟨by omega, by omega⟩ ⟨by omega, by omega⟩) (va_cwS 2 hM.2.2.2.2 gX3_sell_X3_moneyFor rfl rfl rfl (by decide +kernel) ⟨(Nat.le_of_ble_eq_true rfl), (Nat.le_of_ble_eq_true rfl)⟩) rfl hl.1 rfl (Nat.le_of_ble_eq_true rfl) dX3_sell_41 ⟨(Nat.le_of_ble_eq_true rfl), (Nat.le_of_ble_eq_true rfl)⟩ (fun E ce q9 u1 H locs hx hC hce hcv hcl => hx.elim) (fun v u1 H locs hp hC => ?_)
    obtain ⟨r_41, rfl, h_41, hu⟩ := hp; rw [hu] at hC; clear hu
    try dsimp only at h_41
    refine W.eq (g2 := F0 m 44 ls [.long (lI (r_41)), .ref (ad 11 k)]) rfl ?_
    refine y_putN hM hC hk11 rfl rfl (by decide +kernel) tyX0 tyX0_ok nmX0 8 1 ⟨by decide, rfl, rfl, rfl, rfl⟩ (by decide +kernel) (ty := .long) (by decide +kernel) rfl rfl (Nat.le_of_ble_eq_true rfl) (T' := (up (up T 11 k 7 (T 10 (mvT T k) 1)) 11 k 8 (r_41))) (P' := P) (cF_up rfl) (fun _ _ h => up_ne h) (fun _ _ _ => rfl) dX3_sell_44 (fun H locs hC => ?_)
    refine y_aload_n hM hl 0 rfl rfl dX3_sell_47 ?_
    refine y_lconst hM 0 (by decide) dX3_sell_48 ?_
    refine y_putN hM hC hk10 rfl rfl (by decide +kernel) tyX2 tyX2_ok nmX2 1 1 ⟨by decide, rfl, rfl, rfl, rfl⟩ (by decide +kernel) (ty := .long) (by decide +kernel) rfl rfl (Nat.le_of_ble_eq_true rfl) (T' := (up (up (up T 11 k 7 (T 10 (mvT T k) 1)) 11 k 8 (r_41)) 10 (mvT T k) 1 (0))) (P' := P) (cF_up rfl) (fun _ _ h => up_ne h) (fun _ _ _ => rfl) dX3_sell_49 (fun H locs hC => ?_)
    exact y_vret hM hr hlk hC ⟨rfl, trivial, (by rw [h_41]; unfold sellT prF; rw [if_pos c_23, ← h_38])⟩ (Nat.le_of_ble_eq_true rfl) (Nat.le_of_ble_eq_true rfl) dX3_sell_52
  ·
    refine y_aload_n hM hl 1 rfl rfl dX3_sell_26 ?_
    refine y_get hM hC hF.1 rfl rfl (by decide +kernel) 6 ⟨by decide, rfl, rfl, rfl⟩ (by decide +kernel) (congrArg (fun q => some (Value.int (iI q))) (show (up T 11 k 7 (T 10 (mvT T k) 1)) 0 0 6 = T 0 0 6 from by simp [up])) dX3_sell_27 ?_
    refine lv_goto (tgt := 41) hM.1 hM.2.1 dX3_sell_30 (by decide) ?_
    refine y_callS hM hC (c_moneyFor l hfl G b0 (ks, ad, (up T 11 k 7 (T 10 (mvT T k) 1)), P) (T 10 (mvT T k) 1) (T 0 0 6) ⟨by omega, by omega⟩ ⟨by omega, by omega⟩) (va_cwS 2 hM.2.2.2.2 gX3_sell_X3_moneyFor rfl rfl rfl (by decide +kernel) ⟨(Nat.le_of_ble_eq_true rfl), (Nat.le_of_ble_eq_true rfl)⟩) rfl hl.1 rfl (Nat.le_of_ble_eq_true rfl) dX3_sell_41 ⟨(Nat.le_of_ble_eq_true rfl), (Nat.le_of_ble_eq_true rfl)⟩ (fun E ce q9 u1 H locs hx hC hce hcv hcl => hx.elim) (fun v u1 H locs hp hC => ?_)
    obtain ⟨r_41, rfl, h_41, hu⟩ := hp; rw [hu] at hC; clear hu
    try dsimp only at h_41
    refine W.eq (g2 := F0 m 44 ls [.long (lI (r_41)), .ref (ad 11 k)]) rfl ?_
    refine y_putN hM hC hk11 rfl rfl (by decide +kernel) tyX0 tyX0_ok nmX0 8 1 ⟨by decide, rfl, rfl, rfl, rfl⟩ (by decide +kernel) (ty := .long) (by decide +kernel) rfl rfl (Nat.le_of_ble_eq_true rfl) (T' := (up (up T 11 k 7 (T 10 (mvT T k) 1)) 11 k 8 (r_41))) (P' := P) (cF_up rfl) (fun _ _ h => up_ne h) (fun _ _ _ => rfl) dX3_sell_44 (fun H locs hC => ?_)
    refine y_aload_n hM hl 0 rfl rfl dX3_sell_47 ?_
    refine y_lconst hM 0 (by decide) dX3_sell_48 ?_
    refine y_putN hM hC hk10 rfl rfl (by decide +kernel) tyX2 tyX2_ok nmX2 1 1 ⟨by decide, rfl, rfl, rfl, rfl⟩ (by decide +kernel) (ty := .long) (by decide +kernel) rfl rfl (Nat.le_of_ble_eq_true rfl) (T' := (up (up (up T 11 k 7 (T 10 (mvT T k) 1)) 11 k 8 (r_41)) 10 (mvT T k) 1 (0))) (P' := P) (cF_up rfl) (fun _ _ h => up_ne h) (fun _ _ _ => rfl) dX3_sell_49 (fun H locs hC => ?_)
    exact y_vret hM hr hlk hC ⟨rfl, trivial, (by rw [h_41]; unfold sellT prF; rw [if_neg c_23])⟩ (Nat.le_of_ble_eq_true rfl) (Nat.le_of_ble_eq_true rfl) dX3_sell_52

set_option maxRecDepth 100000 in
set_option maxHeartbeats 8000000 in
theorem c_timely (l : Launch) (hfl : l.stackTraces = false) (G : GG) (b0 : Nat) (ks : KK) (ad : AD) (T : TT) (P : PP) (k : Nat) (hkn : (k : Int) < T 0 0 8) (al : Int) (hal : 0 ≤ al ∧ al ≤ T 0 0 5) (hk3 : T 11 k 3 ≤ 2) (hF : FI ks ad P) (hRK : RK ks ad P) (hRN : RN T) (hDN : DN T) (hSK : SK ks ad T P) (hSN : SN T) (hOK : OK1 ks ad T P) (hON : ON T)  : vx_Met l yX3_timelyThousandths wsX3_timelyThousandths (rmX 7 2 12 104) (va_Pc [.ref (ad 0 0), .ref (ad 11 k), .int (iI (al))] (Ok G b0 (ks, ad, T, P))) (Qr (pJ (fun r => r = timT T k al) (ks, ad, T, P)) G b0) (Xr (noX) G b0) 2 12 (Wx b0) := by
  refine vx_ofW (cc := cX3_timelyThousandths) (maxL := 7) (ret := (some .long)) (by decide +kernel) rfl ?_
  intro p e s m args below meth c s₁ B hml hto hv
  obtain ⟨rfl, hok⟩ := hv
  have hM : CallFix p m c cX3_timelyThousandths 7 s _ wsX3_timelyThousandths RX3 := ⟨B.exec, B.bytes, hml, findClass_of_methodNamed B.named, atoms_spec (ws := wsX3_timelyThousandths) B.pre⟩
  have hr := B.returns
  have hlk := B.notSynchronized
  have hC := hok.cur
  have hl := lv_entry ([.ref (ad 0 0), .ref (ad 11 k), .int (iI (al))]) (n := 7) (Nat.le_of_ble_eq_true rfl)
  rw [lg_entry_eq]
  generalize (lg_sl ([.ref (ad 0 0), .ref (ad 11 k), .int (iI (al))]) ++ List.replicate (7 - (lg_sl ([.ref (ad 0 0), .ref (ad 11 k), .int (iI (al))])).length) Slot.unset).toArray = ls at hl ⊢
  have hl : lv_has ls 7 [(0, .ref (ad 0 0)), (1, .ref (ad 11 k)), (2, .int (iI (al)))] := hl
  obtain ⟨hk11, hpm, hm0, hm1⟩ := hOK.2.2.2 k hkn
  have ho := hON k hkn
  have hs := hSN (mvT T k) (by unfold mvT; omega)
  have hk10 := hSK.2.2.2 (mvT T k) (by unfold mvT; omega)
  obtain ⟨hd0, hd1, hd2, hd3⟩ := id hDN
  have hs10 := hSK.2.1
  refine y_aload_n hM hl 1 rfl rfl dX3_timelyThousandths_0 ?_
  refine y_getN hM hC hk11 rfl rfl (by decide +kernel) 4 0 ⟨by decide, rfl, rfl, rfl⟩ (by decide +kernel) rfl dX3_timelyThousandths_1 ?_
  refine y_aload_n hM hl 1 rfl rfl dX3_timelyThousandths_4 ?_
  refine y_getN hM hC hk11 rfl rfl (by decide +kernel) 5 0 ⟨by decide, rfl, rfl, rfl⟩ (by decide +kernel) rfl dX3_timelyThousandths_5 ?_
  refine y_isub hM dX3_timelyThousandths_8 ?_
  refine lv_istore_n (lv' := [(3, .int (iI ((T 11 k 4) - (T 11 k 5)))), (0, .ref (ad 0 0)), (1, .ref (ad 11 k)), (2, .int (iI (al)))]) hM.1 hM.2.1 dX3_timelyThousandths_9 rfl hl (by decide) rfl (fun ls hl => ?_)
  refine y_aload_n hM hl 1 rfl rfl dX3_timelyThousandths_10 ?_
  refine y_get hM hC hF.1 rfl rfl (by decide +kernel) 5 ⟨by decide, rfl, rfl, rfl⟩ (by decide +kernel) rfl dX3_timelyThousandths_11 ?_
  refine y_iload_n hM hl 3 rfl rfl dX3_timelyThousandths_14 ?_
  refine y_isub hM dX3_timelyThousandths_15 ?_
  refine lv_istore (lv' := [(4, .int (iI ((T 0 0 5) - (al)))), (3, .int (iI ((T 11 k 4) - (T 11 k 5)))), (0, .ref (ad 0 0)), (1, .ref (ad 11 k)), (2, .int (iI (al)))]) hM.1 hM.2.1 dX3_timelyThousandths_16 hl (by decide) rfl (fun ls hl => ?_)
  refine y_aload_n hM hl 3 rfl rfl dX3_timelyThousandths_18 ?_
  refine y_getN hM hC hk11 rfl rfl (by decide +kernel) 7 1 ⟨by decide, rfl, rfl, rfl⟩ (by decide +kernel) rfl dX3_timelyThousandths_19 ?_
  refine y_aload_n hM hl 2 rfl rfl dX3_timelyThousandths_22 ?_
  refine y_aload_n hM hl 3 rfl rfl dX3_timelyThousandths_23 ?_
  refine y_getN hM hC hk11 rfl rfl (by decide +kernel) 1 0 ⟨by decide, rfl, rfl, rfl⟩ (by decide +kernel) rfl dX3_timelyThousandths_24 ?_
  refine y_callV hM hC (c_priceRowOf l hfl G b0 ks ad T P (T 11 k 1) (by constructor <;> omega) hF hRK) (cwV 1 hM.2.2.2.2 gX3_timelyThousandths_X3_priceRowOf rfl rfl rfl (by decide +kernel) ⟨(Nat.le_of_ble_eq_true rfl), (Nat.le_of_ble_eq_true rfl)⟩) (y_recv hC hF.1 rfl rfl) rfl hl.1 rfl (Nat.le_of_ble_eq_true rfl) dX3_timelyThousandths_27 ⟨(Nat.le_of_ble_eq_true rfl), (Nat.le_of_ble_eq_true rfl)⟩ (fun E ce q9 u1 H locs hx hC hce hcv hcl => by
      obtain ⟨x, rfl, hx, hu⟩ := hx; rw [hu] at hC; clear hu; try dsimp only at hx
      exact False.elim (by omega)) (fun v u1 H locs hp hC => ?_)
  obtain ⟨rfl, h_27, hu⟩ := hp; rw [hu] at hC; clear hu
  try dsimp only at h_27
  refine W.eq (g2 := F0 m 30 ls [.ref (ad 6 (T 11 k 1).toNat), .long (lI (T 11 k 7))]) rfl ?_
  refine y_iload_n hM hl 1 rfl rfl dX3_timelyThousandths_30 ?_
  refine y_callV hM hC (c_valueOn l hfl G b0 ks ad T P (T 11 k 1).toNat (by omega) hRK hRN ((T 11 k 4) - (T 11 k 5)) (by constructor <;> omega)) (cwV 1 hM.2.2.2.2 gX3_timelyThousandths_X1_valueOn rfl rfl rfl (by decide +kernel) ⟨(Nat.le_of_ble_eq_true rfl), (Nat.le_of_ble_eq_true rfl)⟩) (y_recv hC (hRK _ (by omega)).1 rfl rfl) rfl hl.1 rfl (Nat.le_of_ble_eq_true rfl) dX3_timelyThousandths_31 ⟨(Nat.le_of_ble_eq_true rfl), (Nat.le_of_ble_eq_true rfl)⟩ (fun E ce q9 u1 H locs hx hC hce hcv hcl => hx.elim) (fun v u1 H locs hp hC => ?_)
  obtain ⟨r_31, rfl, h_31, hu⟩ := hp; rw [hu] at hC; clear hu
  try dsimp only at h_31
  refine W.eq (g2 := F0 m 34 ls [.int (iI (r_31)), .long (lI (T 11 k 7))]) rfl ?_
  have hv_31 := valT_in hRN (p := (T 11 k 1).toNat) (by omega) (T 11 k 4 - T 11 k 5)
  refine y_callS hM hC (c_moneyFor l hfl G b0 (ks, ad, T, P) (T 11 k 7) (r_31) ⟨by omega, by omega⟩ ⟨by omega, by omega⟩) (va_cwS 2 hM.2.2.2.2 gX3_timelyThousandths_X3_moneyFor rfl rfl rfl (by decide +kernel) ⟨(Nat.le_of_ble_eq_true rfl), (Nat.le_of_ble_eq_true rfl)⟩) rfl hl.1 rfl (Nat.le_of_ble_eq_true rfl) dX3_timelyThousandths_34 ⟨(Nat.le_of_ble_eq_true rfl), (Nat.le_of_ble_eq_true rfl)⟩ (fun E ce q9 u1 H locs hx hC hce hcv hcl => hx.elim) (fun v u1 H locs hp hC => ?_)
  obtain ⟨r_34, rfl, h_34, hu⟩ := hp; rw [hu] at hC; clear hu
  try dsimp only at h_34
  refine W.eq (g2 := F0 m 37 ls [.long (lI (r_34))]) rfl ?_
  have hm_34 := moF_in (u := T 11 k 7) (pr := r_31) (by omega) (by omega)
  refine lv_lstore (lv' := [(5, .long (lI (r_34))), (4, .int (iI ((T 0 0 5) - (al)))), (3, .int (iI ((T 11 k 4) - (T 11 k 5)))), (0, .ref (ad 0 0)), (1, .ref (ad 11 k)), (2, .int (iI (al)))]) hM.1 hM.2.1 dX3_timelyThousandths_37 hl (by decide) rfl (fun ls hl => ?_)
  refine y_lload hM hl 0 rfl dX3_timelyThousandths_39 ?_
  refine y_aload_n hM hl 3 rfl rfl dX3_timelyThousandths_41 ?_
  refine y_aload_n hM hl 4 rfl rfl dX3_timelyThousandths_42 ?_
  refine y_getN hM hC hk11 rfl rfl (by decide +kernel) 2 0 ⟨by decide, rfl, rfl, rfl⟩ (by decide +kernel) rfl dX3_timelyThousandths_43 ?_
  refine y_callV hM hC (c_priceRowOf l hfl G b0 ks ad T P (T 11 k 2) (by constructor <;> omega) hF hRK) (cwV 1 hM.2.2.2.2 gX3_timelyThousandths_X3_priceRowOf rfl rfl rfl (by decide +kernel) ⟨(Nat.le_of_ble_eq_true rfl), (Nat.le_of_ble_eq_true rfl)⟩) (y_recv hC hF.1 rfl rfl) rfl hl.1 rfl (Nat.le_of_ble_eq_true rfl) dX3_timelyThousandths_46 ⟨(Nat.le_of_ble_eq_true rfl), (Nat.le_of_ble_eq_true rfl)⟩ (fun E ce q9 u1 H locs hx hC hce hcv hcl => by
      obtain ⟨x, rfl, hx, hu⟩ := hx; rw [hu] at hC; clear hu; try dsimp only at hx
      exact False.elim (by omega)) (fun v u1 H locs hp hC => ?_)
  obtain ⟨rfl, h_46, hu⟩ := hp; rw [hu] at hC; clear hu
  try dsimp only at h_46
  refine W.eq (g2 := F0 m 49 ls [.ref (ad 6 (T 11 k 2).toNat), .long (lI (r_34))]) rfl ?_
  refine y_iload hM hl 1 rfl dX3_timelyThousandths_49 ?_
  refine y_callV hM hC (c_valueOn l hfl G b0 ks ad T P (T 11 k 2).toNat (by omega) hRK hRN ((T 0 0 5) - (al)) (by constructor <;> omega)) (cwV 1 hM.2.2.2.2 gX3_timelyThousandths_X1_valueOn rfl rfl rfl (by decide +kernel) ⟨(Nat.le_of_ble_eq_true rfl), (Nat.le_of_ble_eq_true rfl)⟩) (y_recv hC (hRK _ (by omega)).1 rfl rfl) rfl hl.1 rfl (Nat.le_of_ble_eq_true rfl) dX3_timelyThousandths_51 ⟨(Nat.le_of_ble_eq_true rfl), (Nat.le_of_ble_eq_true rfl)⟩ (fun E ce q9 u1 H locs hx hC hce hcv hcl => hx.elim) (fun v u1 H locs hp hC => ?_)
  obtain ⟨r_51, rfl, h_51, hu⟩ := hp; rw [hu] at hC; clear hu
  try dsimp only at h_51
  refine W.eq (g2 := F0 m 54 ls [.int (iI (r_51)), .long (lI (r_34))]) rfl ?_
  have hv_51 := valT_in hRN (p := (T 11 k 2).toNat) (by omega) (T 0 0 5 - al)
  refine y_callS hM hC (c_thousandthsFor l hfl G b0 (ks, ad, T, P) (r_34) (r_51) ⟨by omega, by omega⟩ ⟨by omega, by omega⟩) (va_cwS 2 hM.2.2.2.2 gX3_timelyThousandths_X3_thousandthsFor rfl rfl rfl (by decide +kernel) ⟨(Nat.le_of_ble_eq_true rfl), (Nat.le_of_ble_eq_true rfl)⟩) rfl hl.1 rfl (Nat.le_of_ble_eq_true rfl) dX3_timelyThousandths_54 ⟨(Nat.le_of_ble_eq_true rfl), (Nat.le_of_ble_eq_true rfl)⟩ (fun E ce q9 u1 H locs hx hC hce hcv hcl => hx.elim) (fun v u1 H locs hp hC => ?_)
  obtain ⟨r_54, rfl, h_54, hu⟩ := hp; rw [hu] at hC; clear hu
  try dsimp only at h_54
  refine W.eq (g2 := F0 m 57 ls [.long (lI (r_54))]) rfl ?_
  exact y_lret hM hr hlk hC ⟨_, rfl, (by (try dsimp only); rw [h_54, h_34, h_31, h_51]; rfl), rfl⟩ (Nat.le_of_ble_eq_true rfl) (Nat.le_of_ble_eq_true rfl) dX3_timelyThousandths_57

set_option maxRecDepth 100000 in
set_option maxHeartbeats 8000000 in
theorem c_share (l : Launch) (hfl : l.stackTraces = false) (G : GG) (b0 : Nat) (ks : KK) (ad : AD) (T : TT) (P : PP) (k : Nat) (hkn : (k : Int) < T 0 0 8) (co al : Int) (hco : 0 ≤ co ∧ co ≤ 1000000000) (hal : inI al) (hF : FI ks ad P) (hRK : RK ks ad P) (hRN : RN T) (hDN : DN T) (hSK : SK ks ad T P) (hSN : SN T) (hOK : OK1 ks ad T P) (hON : ON T)  : vx_Met l yX3_shareCost wsX3_shareCost (rmX 2 0 0 42) (va_Pc [.ref (ad 0 0), .ref (ad 11 k), .long (lI (co)), .int (iI (al))] (Ok G b0 (ks, ad, T, P))) (Qr (pV True (ks, ad, shaT T k co al, P)) G b0) (Xr (noX) G b0) 0 0 (Wx b0) := by
  refine vx_ofW (cc := cX3_shareCost) (maxL := 7) (ret := none) (by decide +kernel) rfl ?_
  intro p e s m args below meth c s₁ B hml hto hv
  obtain ⟨rfl, hok⟩ := hv
  have hM : CallFix p m c cX3_shareCost 7 s _ wsX3_shareCost RX3 := ⟨B.exec, B.bytes, hml, findClass_of_methodNamed B.named, atoms_spec (ws := wsX3_shareCost) B.pre⟩
  have hr := B.returns
  have hlk := B.notSynchronized
  have hC := hok.cur
  have hl := lv_entry ([.ref (ad 0 0), .ref (ad 11 k), .long (lI (co)), .int (iI (al))]) (n := 7) (Nat.le_of_ble_eq_true rfl)
  rw [lg_entry_eq]
  generalize (lg_sl ([.ref (ad 0 0), .ref (ad 11 k), .long (lI (co)), .int (iI (al))]) ++ List.replicate (7 - (lg_sl ([.ref (ad 0 0), .ref (ad 11 k), .long (lI (co)), .int (iI (al))])).length) Slot.unset).toArray = ls at hl ⊢
  have hl : lv_has ls 7 [(0, .ref (ad 0 0)), (1, .ref (ad 11 k)), (2, .long (lI (co))), (4, .int (iI (al)))] := hl
  obtain ⟨hk11, hpm, hm0, hm1⟩ := hOK.2.2.2 k hkn
  have ho := hON k hkn
  have hs := hSN (mvT T k) (by unfold mvT; omega)
  have hk10 := hSK.2.2.2 (mvT T k) (by unfold mvT; omega)
  obtain ⟨hd0, hd1, hd2, hd3⟩ := id hDN
  have hs10 := hSK.2.1
  have hq1 : 0 ≤ co * T 11 k 5 := Int.mul_nonneg (by omega) (by omega)
  have hq2 : co * T 11 k 5 ≤ 1000000000 * 2000 := Int.mul_le_mul (by omega) (by omega) (by omega) (by omega)
  refine y_iload hM hl 3 rfl dX3_shareCost_0 ?_
  refine y_if_le hM (by constructor <;> omega) (tgt := 25) dX3_shareCost_2 (by decide) (fun c_2 => ?_) (fun c_2 => ?_)
  ·
    exact y_vret hM hr hlk hC ⟨rfl, trivial, (by unfold shaT; rw [if_pos (by omega)])⟩ (Nat.le_of_ble_eq_true rfl) (Nat.le_of_ble_eq_true rfl) dX3_shareCost_25
  ·
    refine y_aload_n hM hl 1 rfl rfl dX3_shareCost_5 ?_
    refine y_getN hM hC hk11 rfl rfl (by decide +kernel) 1 0 ⟨by decide, rfl, rfl, rfl⟩ (by decide +kernel) rfl dX3_shareCost_6 ?_
    refine y_callS hM hC (c_isProvider l hfl G b0 (ks, ad, T, P) (T 11 k 1) (by constructor <;> omega)) (va_cwS 1 hM.2.2.2.2 gX3_shareCost_X3_isProvider rfl rfl rfl (by decide +kernel) ⟨(Nat.le_of_ble_eq_true rfl), (Nat.le_of_ble_eq_true rfl)⟩) rfl hl.1 rfl (Nat.le_of_ble_eq_true rfl) dX3_shareCost_9 ⟨(Nat.le_of_ble_eq_true rfl), (Nat.le_of_ble_eq_true rfl)⟩ (fun E ce q9 u1 H locs hx hC hce hcv hcl => hx.elim) (fun v u1 H locs hp hC => ?_)
    obtain ⟨r_9, rfl, h_9, hu⟩ := hp; rw [hu] at hC; clear hu
    try dsimp only at h_9
    refine W.eq (g2 := F0 m 12 ls [.int (iI (r_9))]) rfl ?_
    refine y_if_eq hM (by constructor <;> omega) (tgt := 25) dX3_shareCost_12 (by decide) (fun c_12 => False.elim (by omega)) (fun c_12 => ?_)
    refine y_aload_n hM hl 1 rfl rfl dX3_shareCost_15 ?_
    refine y_getN hM hC hk11 rfl rfl (by decide +kernel) 2 0 ⟨by decide, rfl, rfl, rfl⟩ (by decide +kernel) rfl dX3_shareCost_16 ?_
    refine y_callS hM hC (c_isProvider l hfl G b0 (ks, ad, T, P) (T 11 k 2) (by constructor <;> omega)) (va_cwS 1 hM.2.2.2.2 gX3_shareCost_X3_isProvider rfl rfl rfl (by decide +kernel) ⟨(Nat.le_of_ble_eq_true rfl), (Nat.le_of_ble_eq_true rfl)⟩) rfl hl.1 rfl (Nat.le_of_ble_eq_true rfl) dX3_shareCost_19 ⟨(Nat.le_of_ble_eq_true rfl), (Nat.le_of_ble_eq_true rfl)⟩ (fun E ce q9 u1 H locs hx hC hce hcv hcl => hx.elim) (fun v u1 H locs hp hC => ?_)
    obtain ⟨r_19, rfl, h_19, hu⟩ := hp; rw [hu] at hC; clear hu
    try dsimp only at h_19
    refine W.eq (g2 := F0 m 22 ls [.int (iI (r_19))]) rfl ?_
    refine y_if_ne hM (by constructor <;> omega) (tgt := 26) dX3_shareCost_22 (by decide) (fun c_22 => ?_) (fun c_22 => False.elim (by omega))
    refine y_lload_n hM hl 2 rfl rfl dX3_shareCost_26 ?_
    refine y_aload_n hM hl 1 rfl rfl dX3_shareCost_27 ?_
    refine y_getN hM hC hk11 rfl rfl (by decide +kernel) 5 0 ⟨by decide, rfl, rfl, rfl⟩ (by decide +kernel) rfl dX3_shareCost_28 ?_
    refine y_i2l hM (by constructor <;> omega) dX3_shareCost_31 ?_
    refine y_lmul hM dX3_shareCost_32 ?_
    refine y_iload hM hl 3 rfl dX3_shareCost_33 ?_
    refine y_i2l hM (by constructor <;> omega) dX3_shareCost_35 ?_
    refine y_ldiv hM ⟨by omega, by omega, by omega, by omega⟩ dX3_shareCost_36 ?_
    refine lv_lstore (lv' := [(5, .long (lI (((co) * (T 11 k 5)) / (al)))), (0, .ref (ad 0 0)), (1, .ref (ad 11 k)), (2, .long (lI (co))), (4, .int (iI (al)))]) hM.1 hM.2.1 dX3_shareCost_37 hl (by decide) rfl (fun ls hl => ?_)
    refine y_aload_n hM hl 1 rfl rfl dX3_shareCost_39 ?_
    refine y_get hM hC hF.1 rfl rfl (by decide +kernel) 1 ⟨by decide, rfl, rfl, rfl⟩ (by decide +kernel) (congrArg (fun q => some (va_rf q)) hF.2.2.2.2.2.2.2.1) dX3_shareCost_40 ?_
    refine W.eq (g2 := F0 m 43 ls [.ref (ad 2 0)]) rfl ?_
    refine y_aload_n hM hl 2 rfl rfl dX3_shareCost_43 ?_
    refine y_getN hM hC hk11 rfl rfl (by decide +kernel) 1 0 ⟨by decide, rfl, rfl, rfl⟩ (by decide +kernel) rfl dX3_shareCost_44 ?_
    refine y_aaldA hM hC hF.2.2.1 rfl ⟨by omega, by omega⟩ (by decide) (hRK _ (by omega)).2.2.2.2.2.1 dX3_shareCost_47 ?_
    refine W.eq (g2 := F0 m 48 ls [.ref (ad 9 (T 11 k 1).toNat)]) rfl ?_
    refine y_aload_n hM hl 2 rfl rfl dX3_shareCost_48 ?_
    refine y_getN hM hC hk11 rfl rfl (by decide +kernel) 2 0 ⟨by decide, rfl, rfl, rfl⟩ (by decide +kernel) rfl dX3_shareCost_49 ?_
    refine lv_dup2_11 hM.1 hM.2.1 dX3_shareCost_52 rfl rfl ?_
    refine y_lald hM hC (hRK _ (by omega)).2.2.2.1 rfl ⟨by omega, by omega⟩ (by decide) (x := T 9 (T 11 k 1).toNat (T 11 k 2).toNat) rfl dX3_shareCost_53 ?_
    refine y_lload hM hl 0 rfl dX3_shareCost_54 ?_
    refine y_ladd hM dX3_shareCost_56 ?_
    refine y_last hM hC (hRK _ (by omega)).2.2.2.1 (fun _ _ => rfl) ⟨by omega, by omega⟩ (by decide) dX3_shareCost_57 (fun H locs hC => ?_)
    refine y_aload_n hM hl 1 rfl rfl dX3_shareCost_58 ?_
    refine y_get hM hC hF.1 rfl rfl (by decide +kernel) 2 ⟨by decide, rfl, rfl, rfl⟩ (by decide +kernel) (congrArg (fun q => some (va_rf q)) hF.2.2.2.2.2.2.2.2.1) dX3_shareCost_59 ?_
    refine W.eq (g2 := F0 m 62 ls [.ref (ad 3 0)]) rfl ?_
    refine y_aload_n hM hl 2 rfl rfl dX3_shareCost_62 ?_
    refine y_getN hM hC hk11 rfl rfl (by decide +kernel) 2 0 ⟨by decide, rfl, rfl, rfl⟩ (by decide +kernel) (congrArg (fun q => some (Value.int (iI q))) (show (up T 9 (T 11 k 1).toNat ((T 11 k 2).toNat) ((T 9 (T 11 k 1).toNat (T 11 k 2).toNat) + (((co) * (T 11 k 5)) / (al)))) 11 k 2 = T 11 k 2 from by simp [up])) dX3_shareCost_63 ?_
    refine lv_dup2_11 hM.1 hM.2.1 dX3_shareCost_66 rfl rfl ?_
    refine y_lald hM hC hF.2.2.2.1 rfl ⟨by omega, by omega⟩ (by decide) (x := T 3 0 (T 11 k 2).toNat) (by simp [up]) dX3_shareCost_67 ?_
    refine y_lload_n hM hl 3 rfl rfl dX3_shareCost_68 ?_
    refine y_lload hM hl 0 rfl dX3_shareCost_69 ?_
    refine y_lsub hM dX3_shareCost_71 ?_
    refine y_ladd hM dX3_shareCost_72 ?_
    refine y_last hM hC hF.2.2.2.1 (fun _ _ => rfl) ⟨by omega, by omega⟩ (by decide) dX3_shareCost_73 (fun H locs hC => ?_)
    exact y_vret hM hr hlk hC ⟨rfl, trivial, (by unfold shaT; rw [if_neg (by omega)])⟩ (Nat.le_of_ble_eq_true rfl) (Nat.le_of_ble_eq_true rfl) dX3_shareCost_74
