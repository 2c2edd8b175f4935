set_option maxRecDepth 100000 in
set_option maxHeartbeats 8000000 in
theorem c_pass (l : Launch) (hfl : l.stackTraces = false) (G : GG) (b0 : Nat) (ks : KK) (ad : AD) (T : TT) (P : PP) (z : Int) (hz : inI z) (hF : FI ks ad P) (hDN : DN T) : vx_Met l yX3_pass wsX3_pass (rmX 6 1 6 82) (va_Pc [.ref (ad 0 0), .int (iI (z))] (Ok G b0 (ks, ad, T, P))) (Qr (pI (fun r => r = T 0 0 5 + z ∧ 1 ≤ z ∧ z ≤ 100 ∧ T 0 0 5 + z ≤ 2000) (ks, ad, up T 0 0 5 (T 0 0 5 + z), P)) G b0) (Xr (pX (fun x => (x = 1 ∧ (z < 1 ∨ 100 < z)) ∨ (x = 2 ∧ 1 ≤ z ∧ z ≤ 100 ∧ 2000 < T 0 0 5 + z)) (ks, ad, T, P)) G b0) 1 6 (Wx b0) := by
  refine vx_ofW (cc := cX3_pass) (maxL := 2) (ret := (some .int)) (by decide +kernel) rfl ?_
  intro p e s m args below meth c s₁ B hml hto hv
  obtain ⟨rfl, hok⟩ := hv
  have hM : CallFix p m c cX3_pass 2 s _ wsX3_pass RX3 := ⟨B.exec, B.bytes, hml, findClass_of_methodNamed B.named, atoms_spec (ws := wsX3_pass) B.pre⟩
  have hr := B.returns
  have hlk := B.notSynchronized
  have hC := hok.cur
  have hl := lv_entry ([.ref (ad 0 0), .int (iI (z))]) (n := 2) (Nat.le_of_ble_eq_true rfl)
  rw [lg_entry_eq]
  generalize (lg_sl ([.ref (ad 0 0), .int (iI (z))]) ++ List.replicate (2 - (lg_sl ([.ref (ad 0 0), .int (iI (z))])).length) Slot.unset).toArray = ls at hl ⊢
  have hl : lv_has ls 2 [(0, .ref (ad 0 0)), (1, .int (iI (z)))] := hl
  obtain ⟨hd0, hd1, hd2, hd3⟩ := id hDN
  refine y_iload_n hM hl 1 rfl rfl dX3_pass_0 ?_
  refine y_iconst hM dX3_pass_1 ?_
  refine y_bipush hM dX3_pass_2 (by decide) ?_
  refine y_callS hM hC (c_isOutside l hfl G b0 (ks, ad, T, P) (z) (1) (100) (by constructor <;> omega) (by constructor <;> omega) (by constructor <;> omega)) (va_cwS 3 hM.2.2.2.2 gX3_pass_X3_isOutside rfl rfl rfl (by decide +kernel) ⟨(Nat.le_of_ble_eq_true rfl), (Nat.le_of_ble_eq_true rfl)⟩) rfl hl.1 rfl (Nat.le_of_ble_eq_true rfl) dX3_pass_4 ⟨(Nat.le_of_ble_eq_true rfl), (Nat.le_of_ble_eq_true rfl)⟩ (fun E ce q9 u1 H locs hx hC hce hcv hcl => hx.elim) (fun v u1 H locs hp hC => ?_)
  obtain ⟨r_4, rfl, h_4, hu⟩ := hp; rw [hu] at hC; clear hu
  try dsimp only at h_4
  refine W.eq (g2 := F0 m 7 ls [.int (iI (r_4))]) rfl ?_
  refine y_if_eq hM (by constructor <;> omega) (tgt := 20) dX3_pass_7 (by decide) (fun c_7 => ?_) (fun c_7 => ?_)
  ·
    refine y_aload_n hM hl 0 rfl rfl dX3_pass_20 ?_
    refine y_get hM hC hF.1 rfl rfl (by decide +kernel) 5 ⟨by decide, rfl, rfl, rfl⟩ (by decide +kernel) rfl dX3_pass_21 ?_
    refine y_iload_n hM hl 1 rfl rfl dX3_pass_24 ?_
    refine y_iadd hM dX3_pass_25 ?_
    refine y_sipush hM dX3_pass_26 (by decide) ?_
    refine y_icmp_le hM (by constructor <;> omega) (by constructor <;> omega) (tgt := 42) dX3_pass_29 (by decide) (fun c_29 => ?_) (fun c_29 => ?_)
    ·
      refine y_aload_n hM hl 0 rfl rfl dX3_pass_42 ?_
      refine lv_dup hM.1 hM.2.1 dX3_pass_43 rfl ?_
      refine y_get hM hC hF.1 rfl rfl (by decide +kernel) 5 ⟨by decide, rfl, rfl, rfl⟩ (by decide +kernel) rfl dX3_pass_44 ?_
      refine y_iload_n hM hl 1 rfl rfl dX3_pass_47 ?_
      refine y_iadd hM dX3_pass_48 ?_
      refine y_put hM hC hF.1 rfl rfl (by decide +kernel) tyX3 tyX3_ok nmX3 5 ⟨by decide, rfl, rfl, rfl, rfl⟩ (by decide +kernel) (ty := .int) (by decide +kernel) rfl rfl (Nat.le_of_ble_eq_true rfl) (T' := (up T 0 0 5 ((T 0 0 5) + (z)))) (P' := P) (cF_up rfl) (fun _ _ h => up_ne h) (fun _ _ _ => rfl) dX3_pass_49 (fun H locs hC => ?_)
      refine y_aload_n hM hl 0 rfl rfl dX3_pass_52 ?_
      refine y_get hM hC hF.1 rfl rfl (by decide +kernel) 5 ⟨by decide, rfl, rfl, rfl⟩ (by decide +kernel) (congrArg (fun q => some (Value.int (iI q))) (show (up T 0 0 5 ((T 0 0 5) + (z))) 0 0 5 = (T 0 0 5) + (z) from by simp [up])) dX3_pass_53 ?_
      exact y_iret hM hr hlk hC ⟨_, rfl, (by (try dsimp only); omega), rfl⟩ (Nat.le_of_ble_eq_true rfl) (Nat.le_of_ble_eq_true rfl) dX3_pass_56
    ·
      exact y_throw hM hto hfl hlk hl.1 hC caS (text := "later than the last day") (by decide +kernel) ngS goS ⟨(by decide +kernel), (by decide +kernel)⟩ (by decide +kernel) dX3_pass_32 dX3_pass_35 dX3_pass_36 dX3_pass_38 dX3_pass_41 ⟨(Nat.le_of_ble_eq_true rfl), (Nat.le_of_ble_eq_true rfl), (Nat.le_of_ble_eq_true rfl), (Nat.le_of_ble_eq_true rfl)⟩ ⟨2, rfl, (by (try dsimp only); omega), rfl⟩ (Nat.le_of_ble_eq_true rfl) (Nat.le_of_ble_eq_true rfl)
  ·
    exact y_throw hM hto hfl hlk hl.1 hC caA (text := "days out of range") (by decide +kernel) ngA goA ⟨(by decide +kernel), (by decide +kernel)⟩ (by decide +kernel) dX3_pass_10 dX3_pass_13 dX3_pass_14 dX3_pass_16 dX3_pass_19 ⟨(Nat.le_of_ble_eq_true rfl), (Nat.le_of_ble_eq_true rfl), (Nat.le_of_ble_eq_true rfl), (Nat.le_of_ble_eq_true rfl)⟩ ⟨1, rfl, (by (try dsimp only); omega), rfl⟩ (Nat.le_of_ble_eq_true rfl) (Nat.le_of_ble_eq_true rfl)

set_option maxRecDepth 100000 in
set_option maxHeartbeats 8000000 in
theorem c_today (l : Launch) (hfl : l.stackTraces = false) (G : GG) (b0 : Nat) (ks : KK) (ad : AD) (T : TT) (P : PP) (hF : FI ks ad P) : vx_Met l yX3_today wsX3_today (rmX 0 0 0 0) (va_Pc [.ref (ad 0 0)] (Ok G b0 (ks, ad, T, P))) (Qr (pI (fun r => r = T 0 0 5) (ks, ad, T, P)) G b0) (Xr (noX) G b0) 0 0 (Wx b0) := by
  refine vx_ofW (cc := cX3_today) (maxL := 1) (ret := (some .int)) (by decide +kernel) rfl ?_
  intro p e s m args below meth c s₁ B hml hto hv
  obtain ⟨rfl, hok⟩ := hv
  have hM : CallFix p m c cX3_today 1 s _ wsX3_today RX3 := ⟨B.exec, B.bytes, hml, findClass_of_methodNamed B.named, atoms_spec (ws := wsX3_today) B.pre⟩
  have hr := B.returns
  have hlk := B.notSynchronized
  have hC := hok.cur
  have hl := lv_entry ([.ref (ad 0 0)]) (n := 1) (Nat.le_of_ble_eq_true rfl)
  rw [lg_entry_eq]
  generalize (lg_sl ([.ref (ad 0 0)]) ++ List.replicate (1 - (lg_sl ([.ref (ad 0 0)])).length) Slot.unset).toArray = ls at hl ⊢
  have hl : lv_has ls 1 [(0, .ref (ad 0 0))] := hl
  refine y_aload_n hM hl 0 rfl rfl dX3_today_0 ?_
  refine y_get hM hC hF.1 rfl rfl (by decide +kernel) 5 ⟨by decide, rfl, rfl, rfl⟩ (by decide +kernel) rfl dX3_today_1 ?_
  exact y_iret hM hr hlk hC ⟨_, rfl, rfl, rfl⟩ (Nat.le_of_ble_eq_true rfl) (Nat.le_of_ble_eq_true rfl) dX3_today_4

set_option maxRecDepth 100000 in
set_option maxHeartbeats 8000000 in
theorem c_setPrice (l : Launch) (hfl : l.stackTraces = false) (G : GG) (b0 : Nat) (ks : KK) (ad : AD) (T : TT) (P : PP) (z v : Int) (hz : inI z) (hv : inI v) (hF : FI ks ad P) (hRK : RK ks ad P) (hRN : RN T) (hDN : DN T) : vx_Met l yX3_setPrice wsX3_setPrice (rmX 7 3 18 104) (va_Pc [.ref (ad 0 0), .int (iI (z)), .int (iI (v))] (Ok G b0 (ks, ad, T, P))) (Qr (pI (fun r => r = valT T z.toNat (T 0 0 5) ∧ 0 ≤ z ∧ z < 5 ∧ 100 ≤ v ∧ v ≤ 10000 ∧ (T 7 z.toNat (T 6 z.toNat 2).toNat = T 0 0 5 ∨ T 6 z.toNat 2 < 60)) (ks, ad, putT T z.toNat (T 0 0 5) v, P)) G b0) (Xr (pX (fun x => (x = 1 ∧ (z < 0 ∨ 5 ≤ z ∨ v < 100 ∨ 10000 < v)) ∨ (x = 2 ∧ 0 ≤ z ∧ z < 5 ∧ 100 ≤ v ∧ v ≤ 10000 ∧ T 7 z.toNat (T 6 z.toNat 2).toNat ≠ T 0 0 5 ∧ 60 ≤ T 6 z.toNat 2)) (ks, ad, T, P)) G b0) 3 18 (Wx b0) := by
  refine vx_ofW (cc := cX3_setPrice) (maxL := 5) (ret := (some .int)) (by decide +kernel) rfl ?_
  intro p e s m args below meth c s₁ B hml hto hv
  obtain ⟨rfl, hok⟩ := hv
  have hM : CallFix p m c cX3_setPrice 5 s _ wsX3_setPrice RX3 := ⟨B.exec, B.bytes, hml, findClass_of_methodNamed B.named, atoms_spec (ws := wsX3_setPrice) B.pre⟩
  have hr := B.returns
  have hlk := B.notSynchronized
  have hC := hok.cur
  have hl := lv_entry ([.ref (ad 0 0), .int (iI (z)), .int (iI (v))]) (n := 5) (Nat.le_of_ble_eq_true rfl)
  rw [lg_entry_eq]
  generalize (lg_sl ([.ref (ad 0 0), .int (iI (z)), .int (iI (v))]) ++ List.replicate (5 - (lg_sl ([.ref (ad 0 0), .int (iI (z)), .int (iI (v))])).length) Slot.unset).toArray = ls at hl ⊢
  have hl : lv_has ls 5 [(0, .ref (ad 0 0)), (1, .int (iI (z))), (2, .int (iI (v)))] := hl
  obtain ⟨hd0, hd1, hd2, hd3⟩ := id hDN
  refine y_aload_n hM hl 0 rfl rfl dX3_setPrice_0 ?_
  refine y_iload_n hM hl 1 rfl rfl dX3_setPrice_1 ?_
  refine y_callV hM hC (c_priceRowOf l hfl G b0 ks ad T P (z) (by constructor <;> omega) hF hRK) (cwV 1 hM.2.2.2.2 gX3_setPrice_X3_priceRowOf rfl rfl rfl (by decide +kernel) ⟨(Nat.le_of_ble_eq_true rfl), (Nat.le_of_ble_eq_true rfl)⟩) (y_recv hC hF.1 rfl rfl) rfl hl.1 rfl (Nat.le_of_ble_eq_true rfl) dX3_setPrice_2 ⟨(Nat.le_of_ble_eq_true rfl), (Nat.le_of_ble_eq_true rfl)⟩ (fun E ce q9 u1 H locs hx hC hce hcv hcl => by
      obtain ⟨x, rfl, hx, hu⟩ := hx; rw [hu] at hC; clear hu; try dsimp only at hx
      exact y_out hto hlk hC hce hcv hcl ⟨x, rfl, (by (try dsimp only); omega), rfl⟩ (Nat.le_of_ble_eq_true rfl) (Nat.le_of_ble_eq_true rfl)) (fun v u1 H locs hp hC => ?_)
  obtain ⟨rfl, h_2, hu⟩ := hp; rw [hu] at hC; clear hu
  try dsimp only at h_2
  refine W.eq (g2 := F0 m 5 ls [.ref (ad 6 (z).toNat)]) rfl ?_
  refine lv_astore_n (lv' := [(3, .ref (ad 6 (z).toNat)), (0, .ref (ad 0 0)), (1, .int (iI (z))), (2, .int (iI (v)))]) hM.1 hM.2.1 dX3_setPrice_5 rfl hl (by decide) rfl (fun ls hl => ?_)
  refine y_iload_n hM hl 3 rfl rfl dX3_setPrice_6 ?_
  refine y_callS hM hC (c_checkPrice l hfl G b0 (ks, ad, T, P) (v) (by constructor <;> omega)) (va_cwS 1 hM.2.2.2.2 gX3_setPrice_X3_checkPrice rfl rfl rfl (by decide +kernel) ⟨(Nat.le_of_ble_eq_true rfl), (Nat.le_of_ble_eq_true rfl)⟩) rfl hl.1 rfl (Nat.le_of_ble_eq_true rfl) dX3_setPrice_7 ⟨(Nat.le_of_ble_eq_true rfl), (Nat.le_of_ble_eq_true rfl)⟩ (fun E ce q9 u1 H locs hx hC hce hcv hcl => by
      obtain ⟨x, rfl, hx, hu⟩ := hx; rw [hu] at hC; clear hu; try dsimp only at hx
      exact y_out hto hlk hC hce hcv hcl ⟨x, rfl, (by (try dsimp only); omega), rfl⟩ (Nat.le_of_ble_eq_true rfl) (Nat.le_of_ble_eq_true rfl)) (fun v u1 H locs hp hC => ?_)
  obtain ⟨rfl, h_7, hu⟩ := hp; rw [hu] at hC; clear hu
  try dsimp only at h_7
  refine W.eq (g2 := F0 m 10 ls []) rfl ?_
  refine y_aload_n hM hl 0 rfl rfl dX3_setPrice_10 ?_
  refine y_aload_n hM hl 1 rfl rfl dX3_setPrice_11 ?_
  refine y_get hM hC hF.1 rfl rfl (by decide +kernel) 5 ⟨by decide, rfl, rfl, rfl⟩ (by decide +kernel) rfl dX3_setPrice_12 ?_
  refine y_callV hM hC (c_valueOn l hfl G b0 ks ad T P (z).toNat (by omega) hRK hRN (T 0 0 5) (by constructor <;> omega)) (cwV 1 hM.2.2.2.2 gX3_setPrice_X1_valueOn rfl rfl rfl (by decide +kernel) ⟨(Nat.le_of_ble_eq_true rfl), (Nat.le_of_ble_eq_true rfl)⟩) (y_recv hC (hRK _ (by omega)).1 rfl rfl) rfl hl.1 rfl (Nat.le_of_ble_eq_true rfl) dX3_setPrice_15 ⟨(Nat.le_of_ble_eq_true rfl), (Nat.le_of_ble_eq_true rfl)⟩ (fun E ce q9 u1 H locs hx hC hce hcv hcl => hx.elim) (fun v u1 H locs hp hC => ?_)
  obtain ⟨r_15, rfl, h_15, hu⟩ := hp; rw [hu] at hC; clear hu
  try dsimp only at h_15
  refine W.eq (g2 := F0 m 18 ls [.int (iI (r_15))]) rfl ?_
  refine lv_istore (lv' := [(4, .int (iI (r_15))), (3, .ref (ad 6 (z).toNat)), (0, .ref (ad 0 0)), (1, .int (iI (z))), (2, .int (iI (v)))]) hM.1 hM.2.1 dX3_setPrice_18 hl (by decide) rfl (fun ls hl => ?_)
  refine y_aload_n hM hl 1 rfl rfl dX3_setPrice_20 ?_
  refine y_aload_n hM hl 2 rfl rfl dX3_setPrice_21 ?_
  refine y_get hM hC hF.1 rfl rfl (by decide +kernel) 5 ⟨by decide, rfl, rfl, rfl⟩ (by decide +kernel) rfl dX3_setPrice_22 ?_
  refine y_iload_n hM hl 4 rfl rfl dX3_setPrice_25 ?_
  refine y_callV hM hC (c_put l hfl G b0 ks ad T P (z).toNat (by omega) hRK hRN (T 0 0 5) (v) (by constructor <;> omega)) (cwV 2 hM.2.2.2.2 gX3_setPrice_X1_put rfl rfl rfl (by decide +kernel) ⟨(Nat.le_of_ble_eq_true rfl), (Nat.le_of_ble_eq_true rfl)⟩) (y_recv hC (hRK _ (by omega)).1 rfl rfl) rfl hl.1 rfl (Nat.le_of_ble_eq_true rfl) dX3_setPrice_26 ⟨(Nat.le_of_ble_eq_true rfl), (Nat.le_of_ble_eq_true rfl)⟩ (fun E ce q9 u1 H locs hx hC hce hcv hcl => hx.elim) (fun v u1 H locs hp hC => ?_)
  obtain ⟨r_26, rfl, h_26, hu⟩ := hp; rw [hu] at hC; clear hu
  try dsimp only at h_26
  refine W.eq (g2 := F0 m 29 ls [.int (iI (r_26))]) rfl ?_
  refine y_if_ne hM (by constructor <;> omega) (tgt := 42) dX3_setPrice_29 (by decide) (fun c_29 => ?_) (fun c_29 => ?_)
  ·
    refine y_iload hM hl 0 rfl dX3_setPrice_42 ?_
    exact y_iret hM hr hlk hC ⟨_, rfl, (by (try dsimp only); omega), rfl⟩ (Nat.le_of_ble_eq_true rfl) (Nat.le_of_ble_eq_true rfl) dX3_setPrice_44
  ·
    exact y_throw hM hto hfl hlk hl.1 hC caS (text := "the provider has had all its prices") (by decide +kernel) ngS goS ⟨(by decide +kernel), (by decide +kernel)⟩ (by decide +kernel) dX3_setPrice_32 dX3_setPrice_35 dX3_setPrice_36 dX3_setPrice_38 dX3_setPrice_41 ⟨(Nat.le_of_ble_eq_true rfl), (Nat.le_of_ble_eq_true rfl), (Nat.le_of_ble_eq_true rfl), (Nat.le_of_ble_eq_true rfl)⟩ ⟨2, rfl, (by (try dsimp only); omega), (by unfold putT; rw [if_neg (by omega), if_pos (by omega)])⟩ (Nat.le_of_ble_eq_true rfl) (Nat.le_of_ble_eq_true rfl)

set_option maxRecDepth 100000 in
set_option maxHeartbeats 8000000 in
theorem c_price (l : Launch) (hfl : l.stackTraces = false) (G : GG) (b0 : Nat) (ks : KK) (ad : AD) (T : TT) (P : PP) (z dd : Int) (hz : inI z) (hd : inI dd) (hF : FI ks ad P) (hRK : RK ks ad P) (hRN : RN T) (hDN : DN T) : vx_Met l yX3_price wsX3_price (rmX 7 2 12 104) (va_Pc [.ref (ad 0 0), .int (iI (z)), .int (iI (dd))] (Ok G b0 (ks, ad, T, P))) (Qr (pI (fun r => r = valT T z.toNat dd ∧ 0 ≤ z ∧ z < 5 ∧ 0 ≤ dd ∧ dd ≤ T 0 0 5) (ks, ad, T, P)) G b0) (Xr (pX (fun x => x = 1 ∧ (z < 0 ∨ 5 ≤ z ∨ dd < 0 ∨ T 0 0 5 < dd)) (ks, ad, T, P)) G b0) 2 12 (Wx b0) := by
  refine vx_ofW (cc := cX3_price) (maxL := 4) (ret := (some .int)) (by decide +kernel) rfl ?_
  intro p e s m args below meth c s₁ B hml hto hv
  obtain ⟨rfl, hok⟩ := hv
  have hM : CallFix p m c cX3_price 4 s _ wsX3_price RX3 := ⟨B.exec, B.bytes, hml, findClass_of_methodNamed B.named, atoms_spec (ws := wsX3_price) B.pre⟩
  have hr := B.returns
  have hlk := B.notSynchronized
  have hC := hok.cur
  have hl := lv_entry ([.ref (ad 0 0), .int (iI (z)), .int (iI (dd))]) (n := 4) (Nat.le_of_ble_eq_true rfl)
  rw [lg_entry_eq]
  generalize (lg_sl ([.ref (ad 0 0), .int (iI (z)), .int (iI (dd))]) ++ List.replicate (4 - (lg_sl ([.ref (ad 0 0), .int (iI (z)), .int (iI (dd))])).length) Slot.unset).toArray = ls at hl ⊢
  have hl : lv_has ls 4 [(0, .ref (ad 0 0)), (1, .int (iI (z))), (2, .int (iI (dd)))] := hl
  obtain ⟨hd0, hd1, hd2, hd3⟩ := id hDN
  refine y_aload_n hM hl 0 rfl rfl dX3_price_0 ?_
  refine y_iload_n hM hl 1 rfl rfl dX3_price_1 ?_
  refine y_callV hM hC (c_priceRowOf l hfl G b0 ks ad T P (z) (by constructor <;> omega) hF hRK) (cwV 1 hM.2.2.2.2 gX3_price_X3_priceRowOf rfl rfl rfl (by decide +kernel) ⟨(Nat.le_of_ble_eq_true rfl), (Nat.le_of_ble_eq_true rfl)⟩) (y_recv hC hF.1 rfl rfl) rfl hl.1 rfl (Nat.le_of_ble_eq_true rfl) dX3_price_2 ⟨(Nat.le_of_ble_eq_true rfl), (Nat.le_of_ble_eq_true rfl)⟩ (fun E ce q9 u1 H locs hx hC hce hcv hcl => by
      obtain ⟨x, rfl, hx, hu⟩ := hx; rw [hu] at hC; clear hu; try dsimp only at hx
      exact y_out hto hlk hC hce hcv hcl ⟨x, rfl, (by (try dsimp only); omega), rfl⟩ (Nat.le_of_ble_eq_true rfl) (Nat.le_of_ble_eq_true rfl)) (fun v u1 H locs hp hC => ?_)
  obtain ⟨rfl, h_2, hu⟩ := hp; rw [hu] at hC; clear hu
  try dsimp only at h_2
  refine W.eq (g2 := F0 m 5 ls [.ref (ad 6 (z).toNat)]) rfl ?_
  refine lv_astore_n (lv' := [(3, .ref (ad 6 (z).toNat)), (0, .ref (ad 0 0)), (1, .int (iI (z))), (2, .int (iI (dd)))]) hM.1 hM.2.1 dX3_price_5 rfl hl (by decide) rfl (fun ls hl => ?_)
  refine y_iload_n hM hl 3 rfl rfl dX3_price_6 ?_
  refine y_iconst hM dX3_price_7 ?_
  refine y_aload_n hM hl 1 rfl rfl dX3_price_8 ?_
  refine y_get hM hC hF.1 rfl rfl (by decide +kernel) 5 ⟨by decide, rfl, rfl, rfl⟩ (by decide +kernel) rfl dX3_price_9 ?_
  refine y_callS hM hC (c_isOutside l hfl G b0 (ks, ad, T, P) (dd) (0) (T 0 0 5) (by constructor <;> omega) (by constructor <;> omega) (by constructor <;> omega)) (va_cwS 3 hM.2.2.2.2 gX3_price_X3_isOutside rfl rfl rfl (by decide +kernel) ⟨(Nat.le_of_ble_eq_true rfl), (Nat.le_of_ble_eq_true rfl)⟩) rfl hl.1 rfl (Nat.le_of_ble_eq_true rfl) dX3_price_12 ⟨(Nat.le_of_ble_eq_true rfl), (Nat.le_of_ble_eq_true rfl)⟩ (fun E ce q9 u1 H locs hx hC hce hcv hcl => hx.elim) (fun v u1 H locs hp hC => ?_)
  obtain ⟨r_12, rfl, h_12, hu⟩ := hp; rw [hu] at hC; clear hu
  try dsimp only at h_12
  refine W.eq (g2 := F0 m 15 ls [.int (iI (r_12))]) rfl ?_
  refine y_if_eq hM (by constructor <;> omega) (tgt := 28) dX3_price_15 (by decide) (fun c_15 => ?_) (fun c_15 => ?_)
  ·
    refine y_aload_n hM hl 0 rfl rfl dX3_price_28 ?_
    refine y_iload_n hM hl 3 rfl rfl dX3_price_29 ?_
    refine y_callV hM hC (c_valueOn l hfl G b0 ks ad T P (z).toNat (by omega) hRK hRN (dd) (by constructor <;> omega)) (cwV 1 hM.2.2.2.2 gX3_price_X1_valueOn rfl rfl rfl (by decide +kernel) ⟨(Nat.le_of_ble_eq_true rfl), (Nat.le_of_ble_eq_true rfl)⟩) (y_recv hC (hRK _ (by omega)).1 rfl rfl) rfl hl.1 rfl (Nat.le_of_ble_eq_true rfl) dX3_price_30 ⟨(Nat.le_of_ble_eq_true rfl), (Nat.le_of_ble_eq_true rfl)⟩ (fun E ce q9 u1 H locs hx hC hce hcv hcl => hx.elim) (fun v u1 H locs hp hC => ?_)
    obtain ⟨r_30, rfl, h_30, hu⟩ := hp; rw [hu] at hC; clear hu
    try dsimp only at h_30
    refine W.eq (g2 := F0 m 33 ls [.int (iI (r_30))]) rfl ?_
    exact y_iret hM hr hlk hC ⟨_, rfl, (by (try dsimp only); omega), rfl⟩ (Nat.le_of_ble_eq_true rfl) (Nat.le_of_ble_eq_true rfl) dX3_price_33
  ·
    exact y_throw hM hto hfl hlk hl.1 hC caA (text := "day out of range") (by decide +kernel) ngA goA ⟨(by decide +kernel), (by decide +kernel)⟩ (by decide +kernel) dX3_price_18 dX3_price_21 dX3_price_22 dX3_price_24 dX3_price_27 ⟨(Nat.le_of_ble_eq_true rfl), (Nat.le_of_ble_eq_true rfl), (Nat.le_of_ble_eq_true rfl), (Nat.le_of_ble_eq_true rfl)⟩ ⟨1, rfl, (by (try dsimp only); omega), rfl⟩ (Nat.le_of_ble_eq_true rfl) (Nat.le_of_ble_eq_true rfl)

set_option maxRecDepth 100000 in
set_option maxHeartbeats 8000000 in
theorem c_setDefault (l : Launch) (hfl : l.stackTraces = false) (G : GG) (b0 : Nat) (ks : KK) (ad : AD) (T : TT) (P : PP) (z : Int) (hz : inI z) (hF : FI ks ad P) (hDN : DN T) : vx_Met l yX3_setDefault wsX3_setDefault (rmX 7 1 6 102) (va_Pc [.ref (ad 0 0), .int (iI (z))] (Ok G b0 (ks, ad, T, P))) (Qr (pI (fun r => r = T 0 0 6 ∧ 100 ≤ z ∧ z ≤ 10000) (ks, ad, up T 0 0 6 z, P)) G b0) (Xr (pX (fun x => x = 1 ∧ (z < 100 ∨ 10000 < z)) (ks, ad, T, P)) G b0) 1 6 (Wx b0) := by
  refine vx_ofW (cc := cX3_setDefault) (maxL := 3) (ret := (some .int)) (by decide +kernel) rfl ?_
  intro p e s m args below meth c s₁ B hml hto hv
  obtain ⟨rfl, hok⟩ := hv
  have hM : CallFix p m c cX3_setDefault 3 s _ wsX3_setDefault RX3 := ⟨B.exec, B.bytes, hml, findClass_of_methodNamed B.named, atoms_spec (ws := wsX3_setDefault) B.pre⟩
  have hr := B.returns
  have hlk := B.notSynchronized
  have hC := hok.cur
  have hl := lv_entry ([.ref (ad 0 0), .int (iI (z))]) (n := 3) (Nat.le_of_ble_eq_true rfl)
  rw [lg_entry_eq]
  generalize (lg_sl ([.ref (ad 0 0), .int (iI (z))]) ++ List.replicate (3 - (lg_sl ([.ref (ad 0 0), .int (iI (z))])).length) Slot.unset).toArray = ls at hl ⊢
  have hl : lv_has ls 3 [(0, .ref (ad 0 0)), (1, .int (iI (z)))] := hl
  refine y_iload_n hM hl 1 rfl rfl dX3_setDefault_0 ?_
  refine y_callS hM hC (c_checkPrice l hfl G b0 (ks, ad, T, P) (z) (by constructor <;> omega)) (va_cwS 1 hM.2.2.2.2 gX3_setDefault_X3_checkPrice rfl rfl rfl (by decide +kernel) ⟨(Nat.le_of_ble_eq_true rfl), (Nat.le_of_ble_eq_true rfl)⟩) rfl hl.1 rfl (Nat.le_of_ble_eq_true rfl) dX3_setDefault_1 ⟨(Nat.le_of_ble_eq_true rfl), (Nat.le_of_ble_eq_true rfl)⟩ (fun E ce q9 u1 H locs hx hC hce hcv hcl => by
      obtain ⟨x, rfl, hx, hu⟩ := hx; rw [hu] at hC; clear hu; try dsimp only at hx
      exact y_out hto hlk hC hce hcv hcl ⟨x, rfl, (by (try dsimp only); omega), rfl⟩ (Nat.le_of_ble_eq_true rfl) (Nat.le_of_ble_eq_true rfl)) (fun v u1 H locs hp hC => ?_)
  obtain ⟨rfl, h_1, hu⟩ := hp; rw [hu] at hC; clear hu
  try dsimp only at h_1
  refine W.eq (g2 := F0 m 4 ls []) rfl ?_
  refine y_aload_n hM hl 0 rfl rfl dX3_setDefault_4 ?_
  refine y_get hM hC hF.1 rfl rfl (by decide +kernel) 6 ⟨by decide, rfl, rfl, rfl⟩ (by decide +kernel) rfl dX3_setDefault_5 ?_
  refine lv_istore_n (lv' := [(2, .int (iI (T 0 0 6))), (0, .ref (ad 0 0)), (1, .int (iI (z)))]) hM.1 hM.2.1 dX3_setDefault_8 rfl hl (by decide) rfl (fun ls hl => ?_)
  refine y_aload_n hM hl 1 rfl rfl dX3_setDefault_9 ?_
  refine y_iload_n hM hl 2 rfl rfl dX3_setDefault_10 ?_
  refine y_put hM hC hF.1 rfl rfl (by decide +kernel) tyX3 tyX3_ok nmX3 6 ⟨by decide, rfl, rfl, rfl, rfl⟩ (by decide +kernel) (ty := .int) (by decide +kernel) rfl rfl (Nat.le_of_ble_eq_true rfl) (T' := (up T 0 0 6 (z))) (P' := P) (cF_up rfl) (fun _ _ h => up_ne h) (fun _ _ _ => rfl) dX3_setDefault_11 (fun H locs hC => ?_)
  refine y_iload_n hM hl 0 rfl rfl dX3_setDefault_14 ?_
  exact y_iret hM hr hlk hC ⟨_, rfl, (by (try dsimp only); omega), rfl⟩ (Nat.le_of_ble_eq_true rfl) (Nat.le_of_ble_eq_true rfl) dX3_setDefault_15

set_option maxRecDepth 100000 in
set_option maxHeartbeats 8000000 in
theorem c_pay (l : Launch) (hfl : l.stackTraces = false) (G : GG) (b0 : Nat) (ks : KK) (ad : AD) (T : TT) (P : PP) (z v : Int) (hz : inI z) (hv : inI v) (hF : FI ks ad P) (hSK : SK ks ad T P) (hSN : SN T) (hRK : RK ks ad P) (hRN : RN T) (hDN : DN T) : vx_Met l yX3_pay wsX3_pay (rmX 8 3 18 125) (va_Pc [.ref (ad 0 0), .int (iI (z)), .int (iI (v))] (Ok G b0 (ks, ad, T, P))) (Qr (pI (fun r => r = thF v (valT T (T 10 z.toNat 0).toNat (T 0 0 5)) ∧ 0 ≤ z ∧ z < T 0 0 7 ∧ 1 ≤ v ∧ v ≤ 1000000 ∧ T 10 z.toNat 2 = 0 ∧ T 10 z.toNat 1 + thF v (valT T (T 10 z.toNat 0).toNat (T 0 0 5)) ≤ 100000000) (ks, ad, up T 10 z.toNat 1 (T 10 z.toNat 1 + thF v (valT T (T 10 z.toNat 0).toNat (T 0 0 5))), P)) G b0) (Xr (pX (fun x => (x = 3 ∧ (z < 0 ∨ T 0 0 7 ≤ z)) ∨ (x = 1 ∧ 0 ≤ z ∧ z < T 0 0 7 ∧ (v < 1 ∨ 1000000 < v)) ∨ (x = 2 ∧ 0 ≤ z ∧ z < T 0 0 7 ∧ 1 ≤ v ∧ v ≤ 1000000 ∧ (T 10 z.toNat 2 ≠ 0 ∨ 100000000 < T 10 z.toNat 1 + thF v (valT T (T 10 z.toNat 0).toNat (T 0 0 5))))) (ks, ad, T, P)) G b0) 3 18 (Wx b0) := by
  refine vx_ofW (cc := cX3_pay) (maxL := 6) (ret := (some .int)) (by decide +kernel) rfl ?_
  intro p e s m args below meth c s₁ B hml hto hv
  obtain ⟨rfl, hok⟩ := hv
  have hM : CallFix p m c cX3_pay 6 s _ wsX3_pay RX3 := ⟨B.exec, B.bytes, hml, findClass_of_methodNamed B.named, atoms_spec (ws := wsX3_pay) B.pre⟩
  have hr := B.returns
  have hlk := B.notSynchronized
  have hC := hok.cur
  have hl := lv_entry ([.ref (ad 0 0), .int (iI (z)), .int (iI (v))]) (n := 6) (Nat.le_of_ble_eq_true rfl)
  rw [lg_entry_eq]
  generalize (lg_sl ([.ref (ad 0 0), .int (iI (z)), .int (iI (v))]) ++ List.replicate (6 - (lg_sl ([.ref (ad 0 0), .int (iI (z)), .int (iI (v))])).length) Slot.unset).toArray = ls at hl ⊢
  have hl : lv_has ls 6 [(0, .ref (ad 0 0)), (1, .int (iI (z))), (2, .int (iI (v)))] := hl
  obtain ⟨hd0, hd1, hd2, hd3⟩ := id hDN
  refine y_aload_n hM hl 0 rfl rfl dX3_pay_0 ?_
  refine y_iload_n hM hl 1 rfl rfl dX3_pay_1 ?_
  refine y_callV hM hC (c_saverAt l hfl G b0 ks ad T P (z) (by constructor <;> omega) hF hSK) (cwV 1 hM.2.2.2.2 gX3_pay_X3_saverAt rfl rfl rfl (by decide +kernel) ⟨(Nat.le_of_ble_eq_true rfl), (Nat.le_of_ble_eq_true rfl)⟩) (y_recv hC hF.1 rfl rfl) rfl hl.1 rfl (Nat.le_of_ble_eq_true rfl) dX3_pay_2 ⟨(Nat.le_of_ble_eq_true rfl), (Nat.le_of_ble_eq_true rfl)⟩ (fun E ce q9 u1 H locs hx hC hce hcv hcl => by
      obtain ⟨x, rfl, hx, hu⟩ := hx; rw [hu] at hC; clear hu; try dsimp only at hx
      exact y_out hto hlk hC hce hcv hcl ⟨x, rfl, (by (try dsimp only); omega), rfl⟩ (Nat.le_of_ble_eq_true rfl) (Nat.le_of_ble_eq_true rfl)) (fun v u1 H locs hp hC => ?_)
  obtain ⟨rfl, h_2, hu⟩ := hp; rw [hu] at hC; clear hu
  try dsimp only at h_2
  refine W.eq (g2 := F0 m 5 ls [.ref (ad 10 (z).toNat)]) rfl ?_
  have hs := hSN z.toNat (by omega)
  refine lv_astore_n (lv' := [(3, .ref (ad 10 (z).toNat)), (0, .ref (ad 0 0)), (1, .int (iI (z))), (2, .int (iI (v)))]) hM.1 hM.2.1 dX3_pay_5 rfl hl (by decide) rfl (fun ls hl => ?_)
  refine y_iload_n hM hl 3 rfl rfl dX3_pay_6 ?_
  refine y_iconst hM dX3_pay_7 ?_
  refine y_ldc hM (v := 1000000) (1000000) (by decide) (by decide +kernel) dX3_pay_8 ?_
  refine y_callS hM hC (c_isOutside l hfl G b0 (ks, ad, T, P) (v) (1) (1000000) (by constructor <;> omega) (by constructor <;> omega) (by constructor <;> omega)) (va_cwS 3 hM.2.2.2.2 gX3_pay_X3_isOutside rfl rfl rfl (by decide +kernel) ⟨(Nat.le_of_ble_eq_true rfl), (Nat.le_of_ble_eq_true rfl)⟩) rfl hl.1 rfl (Nat.le_of_ble_eq_true rfl) dX3_pay_10 ⟨(Nat.le_of_ble_eq_true rfl), (Nat.le_of_ble_eq_true rfl)⟩ (fun E ce q9 u1 H locs hx hC hce hcv hcl => hx.elim) (fun v u1 H locs hp hC => ?_)
  obtain ⟨r_10, rfl, h_10, hu⟩ := hp; rw [hu] at hC; clear hu
  try dsimp only at h_10
  refine W.eq (g2 := F0 m 13 ls [.int (iI (r_10))]) rfl ?_
  refine y_if_eq hM (by constructor <;> omega) (tgt := 26) dX3_pay_13 (by decide) (fun c_13 => ?_) (fun c_13 => ?_)
  ·
    refine y_aload_n hM hl 0 rfl rfl dX3_pay_26 ?_
    refine y_getN hM hC (hSK.2.2.2 _ (by omega)) rfl rfl (by decide +kernel) 2 2 ⟨by decide, rfl, rfl, rfl⟩ (by decide +kernel) rfl dX3_pay_27 ?_
    refine y_if_eq hM (by constructor <;> omega) (tgt := 43) dX3_pay_30 (by decide) (fun c_30 => ?_) (fun c_30 => ?_)
    ·
      refine y_iload_n hM hl 3 rfl rfl dX3_pay_43 ?_
      refine y_i2l hM (by constructor <;> omega) dX3_pay_44 ?_
      refine y_aload_n hM hl 1 rfl rfl dX3_pay_45 ?_
      refine y_aload_n hM hl 0 rfl rfl dX3_pay_46 ?_
      refine y_getN hM hC (hSK.2.2.2 _ (by omega)) rfl rfl (by decide +kernel) 0 0 ⟨by decide, rfl, rfl, rfl⟩ (by decide +kernel) rfl dX3_pay_47 ?_
      refine y_callV hM hC (c_priceNow l hfl G b0 ks ad T P (T 10 (z).toNat 0) ⟨by omega, by omega⟩ hF hRK hRN hDN) (cwV 1 hM.2.2.2.2 gX3_pay_X3_priceNow rfl rfl rfl (by decide +kernel) ⟨(Nat.le_of_ble_eq_true rfl), (Nat.le_of_ble_eq_true rfl)⟩) (y_recv hC hF.1 rfl rfl) rfl hl.1 rfl (Nat.le_of_ble_eq_true rfl) dX3_pay_50 ⟨(Nat.le_of_ble_eq_true rfl), (Nat.le_of_ble_eq_true rfl)⟩ (fun E ce q9 u1 H locs hx hC hce hcv hcl => hx.elim) (fun v u1 H locs hp hC => ?_)
      obtain ⟨r_50, rfl, h_50, hu⟩ := hp; rw [hu] at hC; clear hu
      try dsimp only at h_50
      refine W.eq (g2 := F0 m 53 ls [.int (iI (r_50)), .long (lI (v))]) rfl ?_
      have hv_50 := valT_in hRN (p := (T 10 z.toNat 0).toNat) (by omega) (T 0 0 5)
      refine y_callS hM hC (c_thousandthsFor l hfl G b0 (ks, ad, T, P) (v) (r_50) ⟨by omega, by omega⟩ ⟨by omega, by omega⟩) (va_cwS 2 hM.2.2.2.2 gX3_pay_X3_thousandthsFor rfl rfl rfl (by decide +kernel) ⟨(Nat.le_of_ble_eq_true rfl), (Nat.le_of_ble_eq_true rfl)⟩) rfl hl.1 rfl (Nat.le_of_ble_eq_true rfl) dX3_pay_53 ⟨(Nat.le_of_ble_eq_true rfl), (Nat.le_of_ble_eq_true rfl)⟩ (fun E ce q9 u1 H locs hx hC hce hcv hcl => hx.elim) (fun v u1 H locs hp hC => ?_)
      obtain ⟨r_53, rfl, h_53, hu⟩ := hp; rw [hu] at hC; clear hu
      try dsimp only at h_53
      refine W.eq (g2 := F0 m 56 ls [.long (lI (r_53))]) rfl ?_
      have hn_53 := thF_nn (m := v) (pr := r_50) (by omega) (by omega)
      have hl_53 := thF_le (m := v) (pr := r_50) (by omega) (by omega)
      refine lv_lstore (lv' := [(4, .long (lI (r_53))), (3, .ref (ad 10 (z).toNat)), (0, .ref (ad 0 0)), (1, .int (iI (z))), (2, .int (iI (v)))]) hM.1 hM.2.1 dX3_pay_56 hl (by decide) rfl (fun ls hl => ?_)
      refine y_aload_n hM hl 1 rfl rfl dX3_pay_58 ?_
      refine y_getN hM hC (hSK.2.2.2 _ (by omega)) rfl rfl (by decide +kernel) 1 1 ⟨by decide, rfl, rfl, rfl⟩ (by decide +kernel) rfl dX3_pay_59 ?_
      refine y_lload hM hl 0 rfl dX3_pay_62 ?_
      refine y_ladd hM dX3_pay_64 ?_
      refine y_callS hM hC (c_checkHolding l hfl G b0 (ks, ad, T, P) ((T 10 (z).toNat 1) + (r_53)) (by constructor <;> omega)) (va_cwS 1 hM.2.2.2.2 gX3_pay_X3_checkHolding rfl rfl rfl (by decide +kernel) ⟨(Nat.le_of_ble_eq_true rfl), (Nat.le_of_ble_eq_true rfl)⟩) rfl hl.1 rfl (Nat.le_of_ble_eq_true rfl) dX3_pay_65 ⟨(Nat.le_of_ble_eq_true rfl), (Nat.le_of_ble_eq_true rfl)⟩ (fun E ce q9 u1 H locs hx hC hce hcv hcl => by
          obtain ⟨x, rfl, hx, hu⟩ := hx; rw [hu] at hC; clear hu; try dsimp only at hx
          exact y_out hto hlk hC hce hcv hcl ⟨x, rfl, (by (try dsimp only); rw [← h_50, ← h_53]; omega), rfl⟩ (Nat.le_of_ble_eq_true rfl) (Nat.le_of_ble_eq_true rfl)) (fun v u1 H locs hp hC => ?_)
      obtain ⟨rfl, h_65, hu⟩ := hp; rw [hu] at hC; clear hu
      try dsimp only at h_65
      refine W.eq (g2 := F0 m 68 ls []) rfl ?_
      refine y_aload_n hM hl 1 rfl rfl dX3_pay_68 ?_
      refine lv_dup hM.1 hM.2.1 dX3_pay_69 rfl ?_
      refine y_getN hM hC (hSK.2.2.2 _ (by omega)) rfl rfl (by decide +kernel) 1 1 ⟨by decide, rfl, rfl, rfl⟩ (by decide +kernel) rfl dX3_pay_70 ?_
      refine y_lload hM hl 0 rfl dX3_pay_73 ?_
      refine y_ladd hM dX3_pay_75 ?_
      refine y_putN hM hC (hSK.2.2.2 _ (by omega)) rfl rfl (by decide +kernel) tyX2 tyX2_ok nmX2 1 1 ⟨by decide, rfl, rfl, rfl, rfl⟩ (by decide +kernel) (ty := .long) (by decide +kernel) rfl rfl (Nat.le_of_ble_eq_true rfl) (T' := (up T 10 (z).toNat 1 ((T 10 (z).toNat 1) + (r_53)))) (P' := P) (cF_up rfl) (fun _ _ h => up_ne h) (fun _ _ _ => rfl) dX3_pay_76 (fun H locs hC => ?_)
      refine y_lload hM hl 0 rfl dX3_pay_79 ?_
      refine y_l2i hM dX3_pay_81 ?_
      exact y_iret hM hr hlk hC ⟨_, rfl, (by (try dsimp only); rw [← h_50, ← h_53]; omega), (by rw [← h_50, ← h_53])⟩ (Nat.le_of_ble_eq_true rfl) (Nat.le_of_ble_eq_true rfl) dX3_pay_82
    ·
      exact y_throw hM hto hfl hlk hl.1 hC caS (text := "an order of the saver goes on") (by decide +kernel) ngS goS ⟨(by decide +kernel), (by decide +kernel)⟩ (by decide +kernel) dX3_pay_33 dX3_pay_36 dX3_pay_37 dX3_pay_39 dX3_pay_42 ⟨(Nat.le_of_ble_eq_true rfl), (Nat.le_of_ble_eq_true rfl), (Nat.le_of_ble_eq_true rfl), (Nat.le_of_ble_eq_true rfl)⟩ ⟨2, rfl, (by (try dsimp only); omega), rfl⟩ (Nat.le_of_ble_eq_true rfl) (Nat.le_of_ble_eq_true rfl)
  ·
    exact y_throw hM hto hfl hlk hl.1 hC caA (text := "money out of range") (by decide +kernel) ngA goA ⟨(by decide +kernel), (by decide +kernel)⟩ (by decide +kernel) dX3_pay_16 dX3_pay_19 dX3_pay_20 dX3_pay_22 dX3_pay_25 ⟨(Nat.le_of_ble_eq_true rfl), (Nat.le_of_ble_eq_true rfl), (Nat.le_of_ble_eq_true rfl), (Nat.le_of_ble_eq_true rfl)⟩ ⟨1, rfl, (by (try dsimp only); omega), rfl⟩ (Nat.le_of_ble_eq_true rfl) (Nat.le_of_ble_eq_true rfl)

set_option maxRecDepth 100000 in
set_option maxHeartbeats 8000000 in
theorem c_units (l : Launch) (hfl : l.stackTraces = false) (G : GG) (b0 : Nat) (ks : KK) (ad : AD) (T : TT) (P : PP) (z : Int) (hz : inI z) (hF : FI ks ad P) (hSK : SK ks ad T P) (hSN : SN T)  : vx_Met l yX3_units wsX3_units (rmX 7 1 6 104) (va_Pc [.ref (ad 0 0), .int (iI (z))] (Ok G b0 (ks, ad, T, P))) (Qr (pJ (fun r => r = T 10 z.toNat 1 ∧ 0 ≤ z ∧ z < T 0 0 7) (ks, ad, T, P)) G b0) (Xr (pX (fun x => x = 3 ∧ (z < 0 ∨ T 0 0 7 ≤ z)) (ks, ad, T, P)) G b0) 1 6 (Wx b0) := by
  refine vx_ofW (cc := cX3_units) (maxL := 2) (ret := (some .long)) (by decide +kernel) rfl ?_
  intro p e s m args below meth c s₁ B hml hto hv
  obtain ⟨rfl, hok⟩ := hv
  have hM : CallFix p m c cX3_units 2 s _ wsX3_units RX3 := ⟨B.exec, B.bytes, hml, findClass_of_methodNamed B.named, atoms_spec (ws := wsX3_units) B.pre⟩
  have hr := B.returns
  have hlk := B.notSynchronized
  have hC := hok.cur
  have hl := lv_entry ([.ref (ad 0 0), .int (iI (z))]) (n := 2) (Nat.le_of_ble_eq_true rfl)
  rw [lg_entry_eq]
  generalize (lg_sl ([.ref (ad 0 0), .int (iI (z))]) ++ List.replicate (2 - (lg_sl ([.ref (ad 0 0), .int (iI (z))])).length) Slot.unset).toArray = ls at hl ⊢
  have hl : lv_has ls 2 [(0, .ref (ad 0 0)), (1, .int (iI (z)))] := hl
  refine y_aload_n hM hl 0 rfl rfl dX3_units_0 ?_
  refine y_iload_n hM hl 1 rfl rfl dX3_units_1 ?_
  refine y_callV hM hC (c_saverAt l hfl G b0 ks ad T P (z) (by constructor <;> omega) hF hSK) (cwV 1 hM.2.2.2.2 gX3_units_X3_saverAt rfl rfl rfl (by decide +kernel) ⟨(Nat.le_of_ble_eq_true rfl), (Nat.le_of_ble_eq_true rfl)⟩) (y_recv hC hF.1 rfl rfl) rfl hl.1 rfl (Nat.le_of_ble_eq_true rfl) dX3_units_2 ⟨(Nat.le_of_ble_eq_true rfl), (Nat.le_of_ble_eq_true rfl)⟩ (fun E ce q9 u1 H locs hx hC hce hcv hcl => by
      obtain ⟨x, rfl, hx, hu⟩ := hx; rw [hu] at hC; clear hu; try dsimp only at hx
      exact y_out hto hlk hC hce hcv hcl ⟨x, rfl, (by (try dsimp only); omega), rfl⟩ (Nat.le_of_ble_eq_true rfl) (Nat.le_of_ble_eq_true rfl)) (fun v u1 H locs hp hC => ?_)
  obtain ⟨rfl, h_2, hu⟩ := hp; rw [hu] at hC; clear hu
  try dsimp only at h_2
  refine W.eq (g2 := F0 m 5 ls [.ref (ad 10 (z).toNat)]) rfl ?_
  refine y_getN hM hC (hSK.2.2.2 _ (by omega)) rfl rfl (by decide +kernel) 1 1 ⟨by decide, rfl, rfl, rfl⟩ (by decide +kernel) rfl dX3_units_5 ?_
  exact y_lret hM hr hlk hC ⟨_, rfl, (by (try dsimp only); omega), rfl⟩ (Nat.le_of_ble_eq_true rfl) (Nat.le_of_ble_eq_true rfl) dX3_units_8

set_option maxRecDepth 100000 in
set_option maxHeartbeats 8000000 in
theorem c_provider (l : Launch) (hfl : l.stackTraces = false) (G : GG) (b0 : Nat) (ks : KK) (ad : AD) (T : TT) (P : PP) (z : Int) (hz : inI z) (hF : FI ks ad P) (hSK : SK ks ad T P) (hSN : SN T)  : vx_Met l yX3_provider wsX3_provider (rmX 7 1 6 104) (va_Pc [.ref (ad 0 0), .int (iI (z))] (Ok G b0 (ks, ad, T, P))) (Qr (pI (fun r => r = T 10 z.toNat 0 ∧ 0 ≤ z ∧ z < T 0 0 7) (ks, ad, T, P)) G b0) (Xr (pX (fun x => x = 3 ∧ (z < 0 ∨ T 0 0 7 ≤ z)) (ks, ad, T, P)) G b0) 1 6 (Wx b0) := by
  refine vx_ofW (cc := cX3_provider) (maxL := 2) (ret := (some .int)) (by decide +kernel) rfl ?_
  intro p e s m args below meth c s₁ B hml hto hv
  obtain ⟨rfl, hok⟩ := hv
  have hM : CallFix p m c cX3_provider 2 s _ wsX3_provider RX3 := ⟨B.exec, B.bytes, hml, findClass_of_methodNamed B.named, atoms_spec (ws := wsX3_provider) B.pre⟩
  have hr := B.returns
  have hlk := B.notSynchronized
  have hC := hok.cur
  have hl := lv_entry ([.ref (ad 0 0), .int (iI (z))]) (n := 2) (Nat.le_of_ble_eq_true rfl)
  rw [lg_entry_eq]
  generalize (lg_sl ([.ref (ad 0 0), .int (iI (z))]) ++ List.replicate (2 - (lg_sl ([.ref (ad 0 0), .int (iI (z))])).length) Slot.unset).toArray = ls at hl ⊢
  have hl : lv_has ls 2 [(0, .ref (ad 0 0)), (1, .int (iI (z)))] := hl
  refine y_aload_n hM hl 0 rfl rfl dX3_provider_0 ?_
  refine y_iload_n hM hl 1 rfl rfl dX3_provider_1 ?_
  refine y_callV hM hC (c_saverAt l hfl G b0 ks ad T P (z) (by constructor <;> omega) hF hSK) (cwV 1 hM.2.2.2.2 gX3_provider_X3_saverAt rfl rfl rfl (by decide +kernel) ⟨(Nat.le_of_ble_eq_true rfl), (Nat.le_of_ble_eq_true rfl)⟩) (y_recv hC hF.1 rfl rfl) rfl hl.1 rfl (Nat.le_of_ble_eq_true rfl) dX3_provider_2 ⟨(Nat.le_of_ble_eq_true rfl), (Nat.le_of_ble_eq_true rfl)⟩ (fun E ce q9 u1 H locs hx hC hce hcv hcl => by
      obtain ⟨x, rfl, hx, hu⟩ := hx; rw [hu] at hC; clear hu; try dsimp only at hx
      exact y_out hto hlk hC hce hcv hcl ⟨x, rfl, (by (try dsimp only); omega), rfl⟩ (Nat.le_of_ble_eq_true rfl) (Nat.le_of_ble_eq_true rfl)) (fun v u1 H locs hp hC => ?_)
  obtain ⟨rfl, h_2, hu⟩ := hp; rw [hu] at hC; clear hu
  try dsimp only at h_2
  refine W.eq (g2 := F0 m 5 ls [.ref (ad 10 (z).toNat)]) rfl ?_
  refine y_getN hM hC (hSK.2.2.2 _ (by omega)) rfl rfl (by decide +kernel) 0 0 ⟨by decide, rfl, rfl, rfl⟩ (by decide +kernel) rfl dX3_provider_5 ?_
  exact y_iret hM hr hlk hC ⟨_, rfl, (by (try dsimp only); omega), rfl⟩ (Nat.le_of_ble_eq_true rfl) (Nat.le_of_ble_eq_true rfl) dX3_provider_8

set_option maxRecDepth 100000 in
set_option maxHeartbeats 8000000 in
theorem c_stage (l : Launch) (hfl : l.stackTraces = false) (G : GG) (b0 : Nat) (ks : KK) (ad : AD) (T : TT) (P : PP) (z : Int) (hz : inI z) (hF : FI ks ad P) (hOK : OK1 ks ad T P) (hON : ON T)  : vx_Met l yX3_stage wsX3_stage (rmX 7 1 6 104) (va_Pc [.ref (ad 0 0), .int (iI (z))] (Ok G b0 (ks, ad, T, P))) (Qr (pI (fun r => r = T 11 z.toNat 3 ∧ 0 ≤ z ∧ z < T 0 0 8) (ks, ad, T, P)) G b0) (Xr (pX (fun x => x = 3 ∧ (z < 0 ∨ T 0 0 8 ≤ z)) (ks, ad, T, P)) G b0) 1 6 (Wx b0) := by
  refine vx_ofW (cc := cX3_stage) (maxL := 2) (ret := (some .int)) (by decide +kernel) rfl ?_
  intro p e s m args below meth c s₁ B hml hto hv
  obtain ⟨rfl, hok⟩ := hv
  have hM : CallFix p m c cX3_stage 2 s _ wsX3_stage RX3 := ⟨B.exec, B.bytes, hml, findClass_of_methodNamed B.named, atoms_spec (ws := wsX3_stage) B.pre⟩
  have hr := B.returns
  have hlk := B.notSynchronized
  have hC := hok.cur
  have hl := lv_entry ([.ref (ad 0 0), .int (iI (z))]) (n := 2) (Nat.le_of_ble_eq_true rfl)
  rw [lg_entry_eq]
  generalize (lg_sl ([.ref (ad 0 0), .int (iI (z))]) ++ List.replicate (2 - (lg_sl ([.ref (ad 0 0), .int (iI (z))])).length) Slot.unset).toArray = ls at hl ⊢
  have hl : lv_has ls 2 [(0, .ref (ad 0 0)), (1, .int (iI (z)))] := hl
  refine y_aload_n hM hl 0 rfl rfl dX3_stage_0 ?_
  refine y_iload_n hM hl 1 rfl rfl dX3_stage_1 ?_
  refine y_callV hM hC (c_orderAt l hfl G b0 ks ad T P (z) (by constructor <;> omega) hF hOK) (cwV 1 hM.2.2.2.2 gX3_stage_X3_orderAt rfl rfl rfl (by decide +kernel) ⟨(Nat.le_of_ble_eq_true rfl), (Nat.le_of_ble_eq_true rfl)⟩) (y_recv hC hF.1 rfl rfl) rfl hl.1 rfl (Nat.le_of_ble_eq_true rfl) dX3_stage_2 ⟨(Nat.le_of_ble_eq_true rfl), (Nat.le_of_ble_eq_true rfl)⟩ (fun E ce q9 u1 H locs hx hC hce hcv hcl => by
      obtain ⟨x, rfl, hx, hu⟩ := hx; rw [hu] at hC; clear hu; try dsimp only at hx
      exact y_out hto hlk hC hce hcv hcl ⟨x, rfl, (by (try dsimp only); omega), rfl⟩ (Nat.le_of_ble_eq_true rfl) (Nat.le_of_ble_eq_true rfl)) (fun v u1 H locs hp hC => ?_)
  obtain ⟨rfl, h_2, hu⟩ := hp; rw [hu] at hC; clear hu
  try dsimp only at h_2
  refine W.eq (g2 := F0 m 5 ls [.ref (ad 11 (z).toNat)]) rfl ?_
  refine y_getN hM hC (hOK.2.2.2 _ (by omega)).1 rfl rfl (by decide +kernel) 3 0 ⟨by decide, rfl, rfl, rfl⟩ (by decide +kernel) rfl dX3_stage_5 ?_
  exact y_iret hM hr hlk hC ⟨_, rfl, (by (try dsimp only); omega), rfl⟩ (Nat.le_of_ble_eq_true rfl) (Nat.le_of_ble_eq_true rfl) dX3_stage_8

set_option maxRecDepth 100000 in
set_option maxHeartbeats 8000000 in
theorem c_late (l : Launch) (hfl : l.stackTraces = false) (G : GG) (b0 : Nat) (ks : KK) (ad : AD) (T : TT) (P : PP) (z : Int) (hz : inI z) (hF : FI ks ad P) (hOK : OK1 ks ad T P) (hON : ON T)  : vx_Met l yX3_late wsX3_late (rmX 7 1 6 104) (va_Pc [.ref (ad 0 0), .int (iI (z))] (Ok G b0 (ks, ad, T, P))) (Qr (pI (fun r => r = T 11 z.toNat 5 + T 11 z.toNat 6 ∧ 0 ≤ z ∧ z < T 0 0 8) (ks, ad, T, P)) G b0) (Xr (pX (fun x => x = 3 ∧ (z < 0 ∨ T 0 0 8 ≤ z)) (ks, ad, T, P)) G b0) 1 6 (Wx b0) := by
  refine vx_ofW (cc := cX3_late) (maxL := 3) (ret := (some .int)) (by decide +kernel) rfl ?_
  intro p e s m args below meth c s₁ B hml hto hv
  obtain ⟨rfl, hok⟩ := hv
  have hM : CallFix p m c cX3_late 3 s _ wsX3_late RX3 := ⟨B.exec, B.bytes, hml, findClass_of_methodNamed B.named, atoms_spec (ws := wsX3_late) B.pre⟩
  have hr := B.returns
  have hlk := B.notSynchronized
  have hC := hok.cur
  have hl := lv_entry ([.ref (ad 0 0), .int (iI (z))]) (n := 3) (Nat.le_of_ble_eq_true rfl)
  rw [lg_entry_eq]
  generalize (lg_sl ([.ref (ad 0 0), .int (iI (z))]) ++ List.replicate (3 - (lg_sl ([.ref (ad 0 0), .int (iI (z))])).length) Slot.unset).toArray = ls at hl ⊢
  have hl : lv_has ls 3 [(0, .ref (ad 0 0)), (1, .int (iI (z)))] := hl
  refine y_aload_n hM hl 0 rfl rfl dX3_late_0 ?_
  refine y_iload_n hM hl 1 rfl rfl dX3_late_1 ?_
  refine y_callV hM hC (c_orderAt l hfl G b0 ks ad T P (z) (by constructor <;> omega) hF hOK) (cwV 1 hM.2.2.2.2 gX3_late_X3_orderAt rfl rfl rfl (by decide +kernel) ⟨(Nat.le_of_ble_eq_true rfl), (Nat.le_of_ble_eq_true rfl)⟩) (y_recv hC hF.1 rfl rfl) rfl hl.1 rfl (Nat.le_of_ble_eq_true rfl) dX3_late_2 ⟨(Nat.le_of_ble_eq_true rfl), (Nat.le_of_ble_eq_true rfl)⟩ (fun E ce q9 u1 H locs hx hC hce hcv hcl => by
      obtain ⟨x, rfl, hx, hu⟩ := hx; rw [hu] at hC; clear hu; try dsimp only at hx
      exact y_out hto hlk hC hce hcv hcl ⟨x, rfl, (by (try dsimp only); omega), rfl⟩ (Nat.le_of_ble_eq_true rfl) (Nat.le_of_ble_eq_true rfl)) (fun v u1 H locs hp hC => ?_)
  obtain ⟨rfl, h_2, hu⟩ := hp; rw [hu] at hC; clear hu
  try dsimp only at h_2
  refine W.eq (g2 := F0 m 5 ls [.ref (ad 11 (z).toNat)]) rfl ?_
  refine lv_astore_n (lv' := [(2, .ref (ad 11 (z).toNat)), (0, .ref (ad 0 0)), (1, .int (iI (z)))]) hM.1 hM.2.1 dX3_late_5 rfl hl (by decide) rfl (fun ls hl => ?_)
  refine y_aload_n hM hl 0 rfl rfl dX3_late_6 ?_
  refine y_getN hM hC (hOK.2.2.2 _ (by omega)).1 rfl rfl (by decide +kernel) 5 0 ⟨by decide, rfl, rfl, rfl⟩ (by decide +kernel) rfl dX3_late_7 ?_
  refine y_aload_n hM hl 0 rfl rfl dX3_late_10 ?_
  refine y_getN hM hC (hOK.2.2.2 _ (by omega)).1 rfl rfl (by decide +kernel) 6 0 ⟨by decide, rfl, rfl, rfl⟩ (by decide +kernel) rfl dX3_late_11 ?_
  refine y_iadd hM dX3_late_14 ?_
  exact y_iret hM hr hlk hC ⟨_, rfl, (by (try dsimp only); omega), rfl⟩ (Nat.le_of_ble_eq_true rfl) (Nat.le_of_ble_eq_true rfl) dX3_late_15

set_option maxRecDepth 100000 in
set_option maxHeartbeats 8000000 in
theorem c_money (l : Launch) (hfl : l.stackTraces = false) (G : GG) (b0 : Nat) (ks : KK) (ad : AD) (T : TT) (P : PP) (z : Int) (hz : inI z) (hF : FI ks ad P) (hOK : OK1 ks ad T P) (hON : ON T)  : vx_Met l yX3_money wsX3_money (rmX 7 1 6 104) (va_Pc [.ref (ad 0 0), .int (iI (z))] (Ok G b0 (ks, ad, T, P))) (Qr (pJ (fun r => r = T 11 z.toNat 8 ∧ 0 ≤ z ∧ z < T 0 0 8) (ks, ad, T, P)) G b0) (Xr (pX (fun x => x = 3 ∧ (z < 0 ∨ T 0 0 8 ≤ z)) (ks, ad, T, P)) G b0) 1 6 (Wx b0) := by
  refine vx_ofW (cc := cX3_money) (maxL := 2) (ret := (some .long)) (by decide +kernel) rfl ?_
  intro p e s m args below meth c s₁ B hml hto hv
  obtain ⟨rfl, hok⟩ := hv
  have hM : CallFix p m c cX3_money 2 s _ wsX3_money RX3 := ⟨B.exec, B.bytes, hml, findClass_of_methodNamed B.named, atoms_spec (ws := wsX3_money) B.pre⟩
  have hr := B.returns
  have hlk := B.notSynchronized
  have hC := hok.cur
  have hl := lv_entry ([.ref (ad 0 0), .int (iI (z))]) (n := 2) (Nat.le_of_ble_eq_true rfl)
  rw [lg_entry_eq]
  generalize (lg_sl ([.ref (ad 0 0), .int (iI (z))]) ++ List.replicate (2 - (lg_sl ([.ref (ad 0 0), .int (iI (z))])).length) Slot.unset).toArray = ls at hl ⊢
  have hl : lv_has ls 2 [(0, .ref (ad 0 0)), (1, .int (iI (z)))] := hl
  refine y_aload_n hM hl 0 rfl rfl dX3_money_0 ?_
  refine y_iload_n hM hl 1 rfl rfl dX3_money_1 ?_
  refine y_callV hM hC (c_orderAt l hfl G b0 ks ad T P (z) (by constructor <;> omega) hF hOK) (cwV 1 hM.2.2.2.2 gX3_money_X3_orderAt rfl rfl rfl (by decide +kernel) ⟨(Nat.le_of_ble_eq_true rfl), (Nat.le_of_ble_eq_true rfl)⟩) (y_recv hC hF.1 rfl rfl) rfl hl.1 rfl (Nat.le_of_ble_eq_true rfl) dX3_money_2 ⟨(Nat.le_of_ble_eq_true rfl), (Nat.le_of_ble_eq_true rfl)⟩ (fun E ce q9 u1 H locs hx hC hce hcv hcl => by
      obtain ⟨x, rfl, hx, hu⟩ := hx; rw [hu] at hC; clear hu; try dsimp only at hx
      exact y_out hto hlk hC hce hcv hcl ⟨x, rfl, (by (try dsimp only); omega), rfl⟩ (Nat.le_of_ble_eq_true rfl) (Nat.le_of_ble_eq_true rfl)) (fun v u1 H locs hp hC => ?_)
  obtain ⟨rfl, h_2, hu⟩ := hp; rw [hu] at hC; clear hu
  try dsimp only at h_2
  refine W.eq (g2 := F0 m 5 ls [.ref (ad 11 (z).toNat)]) rfl ?_
  refine y_getN hM hC (hOK.2.2.2 _ (by omega)).1 rfl rfl (by decide +kernel) 8 1 ⟨by decide, rfl, rfl, rfl⟩ (by decide +kernel) rfl dX3_money_5 ?_
  exact y_lret hM hr hlk hC ⟨_, rfl, (by (try dsimp only); omega), rfl⟩ (Nat.le_of_ble_eq_true rfl) (Nat.le_of_ble_eq_true rfl) dX3_money_8

set_option maxRecDepth 100000 in
set_option maxHeartbeats 8000000 in
theorem c_madeGood (l : Launch) (hfl : l.stackTraces = false) (G : GG) (b0 : Nat) (ks : KK) (ad : AD) (T : TT) (P : PP) (z : Int) (hz : inI z) (hF : FI ks ad P) (hOK : OK1 ks ad T P) (hON : ON T)  : vx_Met l yX3_madeGood wsX3_madeGood (rmX 7 1 6 104) (va_Pc [.ref (ad 0 0), .int (iI (z))] (Ok G b0 (ks, ad, T, P))) (Qr (pJ (fun r => r = T 11 z.toNat 9 ∧ 0 ≤ z ∧ z < T 0 0 8) (ks, ad, T, P)) G b0) (Xr (pX (fun x => x = 3 ∧ (z < 0 ∨ T 0 0 8 ≤ z)) (ks, ad, T, P)) G b0) 1 6 (Wx b0) := by
  refine vx_ofW (cc := cX3_madeGood) (maxL := 2) (ret := (some .long)) (by decide +kernel) rfl ?_
  intro p e s m args below meth c s₁ B hml hto hv
  obtain ⟨rfl, hok⟩ := hv
  have hM : CallFix p m c cX3_madeGood 2 s _ wsX3_madeGood RX3 := ⟨B.exec, B.bytes, hml, findClass_of_methodNamed B.named, atoms_spec (ws := wsX3_madeGood) B.pre⟩
  have hr := B.returns
  have hlk := B.notSynchronized
  have hC := hok.cur
  have hl := lv_entry ([.ref (ad 0 0), .int (iI (z))]) (n := 2) (Nat.le_of_ble_eq_true rfl)
  rw [lg_entry_eq]
  generalize (lg_sl ([.ref (ad 0 0), .int (iI (z))]) ++ List.replicate (2 - (lg_sl ([.ref (ad 0 0), .int (iI (z))])).length) Slot.unset).toArray = ls at hl ⊢
  have hl : lv_has ls 2 [(0, .ref (ad 0 0)), (1, .int (iI (z)))] := hl
  refine y_aload_n hM hl 0 rfl rfl dX3_madeGood_0 ?_
  refine y_iload_n hM hl 1 rfl rfl dX3_madeGood_1 ?_
  refine y_callV hM hC (c_orderAt l hfl G b0 ks ad T P (z) (by constructor <;> omega) hF hOK) (cwV 1 hM.2.2.2.2 gX3_madeGood_X3_orderAt rfl rfl rfl (by decide +kernel) ⟨(Nat.le_of_ble_eq_true rfl), (Nat.le_of_ble_eq_true rfl)⟩) (y_recv hC hF.1 rfl rfl) rfl hl.1 rfl (Nat.le_of_ble_eq_true rfl) dX3_madeGood_2 ⟨(Nat.le_of_ble_eq_true rfl), (Nat.le_of_ble_eq_true rfl)⟩ (fun E ce q9 u1 H locs hx hC hce hcv hcl => by
      obtain ⟨x, rfl, hx, hu⟩ := hx; rw [hu] at hC; clear hu; try dsimp only at hx
      exact y_out hto hlk hC hce hcv hcl ⟨x, rfl, (by (try dsimp only); omega), rfl⟩ (Nat.le_of_ble_eq_true rfl) (Nat.le_of_ble_eq_true rfl)) (fun v u1 H locs hp hC => ?_)
  obtain ⟨rfl, h_2, hu⟩ := hp; rw [hu] at hC; clear hu
  try dsimp only at h_2
  refine W.eq (g2 := F0 m 5 ls [.ref (ad 11 (z).toNat)]) rfl ?_
  refine y_getN hM hC (hOK.2.2.2 _ (by omega)).1 rfl rfl (by decide +kernel) 9 1 ⟨by decide, rfl, rfl, rfl⟩ (by decide +kernel) rfl dX3_madeGood_5 ?_
  exact y_lret hM hr hlk hC ⟨_, rfl, (by (try dsimp only); omega), rfl⟩ (Nat.le_of_ble_eq_true rfl) (Nat.le_of_ble_eq_true rfl) dX3_madeGood_8

set_option maxRecDepth 100000 in
set_option maxHeartbeats 8000000 in
theorem c_due (l : Launch) (hfl : l.stackTraces = false) (G : GG) (b0 : Nat) (ks : KK) (ad : AD) (T : TT) (P : PP) (z : Int) (hz : inI z) (hF : FI ks ad P) (hOK : OK1 ks ad T P) (hON : ON T)  : vx_Met l yX3_due wsX3_due (rmX 8 2 12 126) (va_Pc [.ref (ad 0 0), .int (iI (z))] (Ok G b0 (ks, ad, T, P))) (Qr (pI (fun r => r = dueT T z.toNat ∧ 0 ≤ z ∧ z < T 0 0 8 ∧ T 11 z.toNat 3 ≠ 3) (ks, ad, T, P)) G b0) (Xr (pX (fun x => (x = 3 ∧ (z < 0 ∨ T 0 0 8 ≤ z)) ∨ (x = 2 ∧ 0 ≤ z ∧ z < T 0 0 8 ∧ T 11 z.toNat 3 = 3)) (ks, ad, T, P)) G b0) 2 12 (Wx b0) := by
  refine vx_ofW (cc := cX3_due) (maxL := 2) (ret := (some .int)) (by decide +kernel) rfl ?_
  intro p e s m args below meth c s₁ B hml hto hv
  obtain ⟨rfl, hok⟩ := hv
  have hM : CallFix p m c cX3_due 2 s _ wsX3_due RX3 := ⟨B.exec, B.bytes, hml, findClass_of_methodNamed B.named, atoms_spec (ws := wsX3_due) B.pre⟩
  have hr := B.returns
  have hlk := B.notSynchronized
  have hC := hok.cur
  have hl := lv_entry ([.ref (ad 0 0), .int (iI (z))]) (n := 2) (Nat.le_of_ble_eq_true rfl)
  rw [lg_entry_eq]
  generalize (lg_sl ([.ref (ad 0 0), .int (iI (z))]) ++ List.replicate (2 - (lg_sl ([.ref (ad 0 0), .int (iI (z))])).length) Slot.unset).toArray = ls at hl ⊢
  have hl : lv_has ls 2 [(0, .ref (ad 0 0)), (1, .int (iI (z)))] := hl
  refine y_aload_n hM hl 0 rfl rfl dX3_due_0 ?_
  refine y_iload_n hM hl 1 rfl rfl dX3_due_1 ?_
  refine y_callV hM hC (c_openOrderAt l hfl G b0 ks ad T P (z) (by constructor <;> omega) hF hOK hON) (cwV 1 hM.2.2.2.2 gX3_due_X3_openOrderAt rfl rfl rfl (by decide +kernel) ⟨(Nat.le_of_ble_eq_true rfl), (Nat.le_of_ble_eq_true rfl)⟩) (y_recv hC hF.1 rfl rfl) rfl hl.1 rfl (Nat.le_of_ble_eq_true rfl) dX3_due_2 ⟨(Nat.le_of_ble_eq_true rfl), (Nat.le_of_ble_eq_true rfl)⟩ (fun E ce q9 u1 H locs hx hC hce hcv hcl => by
      obtain ⟨x, rfl, hx, hu⟩ := hx; rw [hu] at hC; clear hu; try dsimp only at hx
      exact y_out hto hlk hC hce hcv hcl ⟨x, rfl, (by (try dsimp only); omega), rfl⟩ (Nat.le_of_ble_eq_true rfl) (Nat.le_of_ble_eq_true rfl)) (fun v u1 H locs hp hC => ?_)
  obtain ⟨rfl, h_2, hu⟩ := hp; rw [hu] at hC; clear hu
  try dsimp only at h_2
  refine W.eq (g2 := F0 m 5 ls [.ref (ad 11 (z).toNat)]) rfl ?_
  have ho := hON z.toNat (by omega)
  refine y_callV hM hC (c_dueDay l hfl G b0 ks ad T P (z).toNat (hOK.2.2.2 _ (by omega)).1 (by constructor <;> omega)) (cwV 0 hM.2.2.2.2 gX3_due_X0_dueDay rfl rfl rfl (by decide +kernel) ⟨(Nat.le_of_ble_eq_true rfl), (Nat.le_of_ble_eq_true rfl)⟩) (y_recv hC (hOK.2.2.2 _ (by omega)).1 rfl rfl) rfl hl.1 rfl (Nat.le_of_ble_eq_true rfl) dX3_due_5 ⟨(Nat.le_of_ble_eq_true rfl), (Nat.le_of_ble_eq_true rfl)⟩ (fun E ce q9 u1 H locs hx hC hce hcv hcl => hx.elim) (fun v u1 H locs hp hC => ?_)
  obtain ⟨r_5, rfl, h_5, hu⟩ := hp; rw [hu] at hC; clear hu
  try dsimp only at h_5
  refine W.eq (g2 := F0 m 8 ls [.int (iI (r_5))]) rfl ?_
  exact y_iret hM hr hlk hC ⟨_, rfl, (by (try dsimp only); omega), rfl⟩ (Nat.le_of_ble_eq_true rfl) (Nat.le_of_ble_eq_true rfl) dX3_due_8

set_option maxRecDepth 100000 in
set_option maxHeartbeats 8000000 in
theorem c_owes (l : Launch) (hfl : l.stackTraces = false) (G : GG) (b0 : Nat) (ks : KK) (ad : AD) (T : TT) (P : PP) (z w : Int) (hz : inI z) (hw : inI w) (hF : FI ks ad P) (hRK : RK ks ad P) : vx_Met l yX3_owes wsX3_owes (rmX 7 2 12 102) (va_Pc [.ref (ad 0 0), .int (iI (z)), .int (iI (w))] (Ok G b0 (ks, ad, T, P))) (Qr (pJ (fun r => r = T 9 z.toNat w.toNat - T 9 w.toNat z.toNat ∧ 0 ≤ z ∧ z < 5 ∧ 0 ≤ w ∧ w < 5) (ks, ad, T, P)) G b0) (Xr (pX (fun x => x = 1 ∧ (z < 0 ∨ 5 ≤ z ∨ w < 0 ∨ 5 ≤ w)) (ks, ad, T, P)) G b0) 2 12 (Wx b0) := by
  refine vx_ofW (cc := cX3_owes) (maxL := 3) (ret := (some .long)) (by decide +kernel) rfl ?_
  intro p e s m args below meth c s₁ B hml hto hv
  obtain ⟨rfl, hok⟩ := hv
  have hM : CallFix p m c cX3_owes 3 s _ wsX3_owes RX3 := ⟨B.exec, B.bytes, hml, findClass_of_methodNamed B.named, atoms_spec (ws := wsX3_owes) B.pre⟩
  have hr := B.returns
  have hlk := B.notSynchronized
  have hC := hok.cur
  have hl := lv_entry ([.ref (ad 0 0), .int (iI (z)), .int (iI (w))]) (n := 3) (Nat.le_of_ble_eq_true rfl)
  rw [lg_entry_eq]
  generalize (lg_sl ([.ref (ad 0 0), .int (iI (z)), .int (iI (w))]) ++ List.replicate (3 - (lg_sl ([.ref (ad 0 0), .int (iI (z)), .int (iI (w))])).length) Slot.unset).toArray = ls at hl ⊢
  have hl : lv_has ls 3 [(0, .ref (ad 0 0)), (1, .int (iI (z))), (2, .int (iI (w)))] := hl
  refine y_iload_n hM hl 1 rfl rfl dX3_owes_0 ?_
  refine y_callS hM hC (c_checkProvider l hfl G b0 (ks, ad, T, P) (z) (by constructor <;> omega)) (va_cwS 1 hM.2.2.2.2 gX3_owes_X3_checkProvider rfl rfl rfl (by decide +kernel) ⟨(Nat.le_of_ble_eq_true rfl), (Nat.le_of_ble_eq_true rfl)⟩) rfl hl.1 rfl (Nat.le_of_ble_eq_true rfl) dX3_owes_1 ⟨(Nat.le_of_ble_eq_true rfl), (Nat.le_of_ble_eq_true rfl)⟩ (fun E ce q9 u1 H locs hx hC hce hcv hcl => by
      obtain ⟨x, rfl, hx, hu⟩ := hx; rw [hu] at hC; clear hu; try dsimp only at hx
      exact y_out hto hlk hC hce hcv hcl ⟨x, rfl, (by (try dsimp only); omega), rfl⟩ (Nat.le_of_ble_eq_true rfl) (Nat.le_of_ble_eq_true rfl)) (fun v u1 H locs hp hC => ?_)
  obtain ⟨rfl, h_1, hu⟩ := hp; rw [hu] at hC; clear hu
  try dsimp only at h_1
  refine W.eq (g2 := F0 m 4 ls []) rfl ?_
  refine y_iload_n hM hl 2 rfl rfl dX3_owes_4 ?_
  refine y_callS hM hC (c_checkProvider l hfl G b0 (ks, ad, T, P) (w) (by constructor <;> omega)) (va_cwS 1 hM.2.2.2.2 gX3_owes_X3_checkProvider rfl rfl rfl (by decide +kernel) ⟨(Nat.le_of_ble_eq_true rfl), (Nat.le_of_ble_eq_true rfl)⟩) rfl hl.1 rfl (Nat.le_of_ble_eq_true rfl) dX3_owes_5 ⟨(Nat.le_of_ble_eq_true rfl), (Nat.le_of_ble_eq_true rfl)⟩ (fun E ce q9 u1 H locs hx hC hce hcv hcl => by
      obtain ⟨x, rfl, hx, hu⟩ := hx; rw [hu] at hC; clear hu; try dsimp only at hx
      exact y_out hto hlk hC hce hcv hcl ⟨x, rfl, (by (try dsimp only); omega), rfl⟩ (Nat.le_of_ble_eq_true rfl) (Nat.le_of_ble_eq_true rfl)) (fun v u1 H locs hp hC => ?_)
  obtain ⟨rfl, h_5, hu⟩ := hp; rw [hu] at hC; clear hu
  try dsimp only at h_5
  refine W.eq (g2 := F0 m 8 ls []) rfl ?_
  refine y_aload_n hM hl 0 rfl rfl dX3_owes_8 ?_
  refine y_get hM hC hF.1 rfl rfl (by decide +kernel) 1 ⟨by decide, rfl, rfl, rfl⟩ (by decide +kernel) (congrArg (fun q => some (va_rf q)) hF.2.2.2.2.2.2.2.1) dX3_owes_9 ?_
  refine W.eq (g2 := F0 m 12 ls [.ref (ad 2 0)]) rfl ?_
  refine y_iload_n hM hl 1 rfl rfl dX3_owes_12 ?_
  refine y_aaldA hM hC hF.2.2.1 rfl ⟨by omega, by omega⟩ (by decide) (hRK _ (by omega)).2.2.2.2.2.1 dX3_owes_13 ?_
  refine W.eq (g2 := F0 m 14 ls [.ref (ad 9 z.toNat)]) rfl ?_
  refine y_iload_n hM hl 2 rfl rfl dX3_owes_14 ?_
  refine y_lald hM hC (hRK _ (by omega)).2.2.2.1 rfl ⟨by omega, by omega⟩ (by decide) (x := T 9 z.toNat (w).toNat) rfl dX3_owes_15 ?_
  refine y_aload_n hM hl 0 rfl rfl dX3_owes_16 ?_
  refine y_get hM hC hF.1 rfl rfl (by decide +kernel) 1 ⟨by decide, rfl, rfl, rfl⟩ (by decide +kernel) (congrArg (fun q => some (va_rf q)) hF.2.2.2.2.2.2.2.1) dX3_owes_17 ?_
  refine W.eq (g2 := F0 m 20 ls [.ref (ad 2 0), .long (lI (T 9 z.toNat (w).toNat))]) rfl ?_
  refine y_iload_n hM hl 2 rfl rfl dX3_owes_20 ?_
  refine y_aaldA hM hC hF.2.2.1 rfl ⟨by omega, by omega⟩ (by decide) (hRK _ (by omega)).2.2.2.2.2.1 dX3_owes_21 ?_
  refine W.eq (g2 := F0 m 22 ls [.ref (ad 9 w.toNat), .long (lI (T 9 z.toNat (w).toNat))]) rfl ?_
  refine y_iload_n hM hl 1 rfl rfl dX3_owes_22 ?_
  refine y_lald hM hC (hRK _ (by omega)).2.2.2.1 rfl ⟨by omega, by omega⟩ (by decide) (x := T 9 w.toNat (z).toNat) rfl dX3_owes_23 ?_
  refine y_lsub hM dX3_owes_24 ?_
  exact y_lret hM hr hlk hC ⟨_, rfl, (by (try dsimp only); omega), rfl⟩ (Nat.le_of_ble_eq_true rfl) (Nat.le_of_ble_eq_true rfl) dX3_owes_25

set_option maxRecDepth 100000 in
set_option maxHeartbeats 8000000 in
theorem c_losses (l : Launch) (hfl : l.stackTraces = false) (G : GG) (b0 : Nat) (ks : KK) (ad : AD) (T : TT) (P : PP) (z : Int) (hz : inI z) (hF : FI ks ad P) : vx_Met l yX3_losses wsX3_losses (rmX 7 1 6 102) (va_Pc [.ref (ad 0 0), .int (iI (z))] (Ok G b0 (ks, ad, T, P))) (Qr (pJ (fun r => r = T 3 0 z.toNat ∧ 0 ≤ z ∧ z < 5) (ks, ad, T, P)) G b0) (Xr (pX (fun x => x = 1 ∧ (z < 0 ∨ 5 ≤ z)) (ks, ad, T, P)) G b0) 1 6 (Wx b0) := by
  refine vx_ofW (cc := cX3_losses) (maxL := 2) (ret := (some .long)) (by decide +kernel) rfl ?_
  intro p e s m args below meth c s₁ B hml hto hv
  obtain ⟨rfl, hok⟩ := hv
  have hM : CallFix p m c cX3_losses 2 s _ wsX3_losses RX3 := ⟨B.exec, B.bytes, hml, findClass_of_methodNamed B.named, atoms_spec (ws := wsX3_losses) B.pre⟩
  have hr := B.returns
  have hlk := B.notSynchronized
  have hC := hok.cur
  have hl := lv_entry ([.ref (ad 0 0), .int (iI (z))]) (n := 2) (Nat.le_of_ble_eq_true rfl)
  rw [lg_entry_eq]
  generalize (lg_sl ([.ref (ad 0 0), .int (iI (z))]) ++ List.replicate (2 - (lg_sl ([.ref (ad 0 0), .int (iI (z))])).length) Slot.unset).toArray = ls at hl ⊢
  have hl : lv_has ls 2 [(0, .ref (ad 0 0)), (1, .int (iI (z)))] := hl
  refine y_iload_n hM hl 1 rfl rfl dX3_losses_0 ?_
  refine y_callS hM hC (c_checkProvider l hfl G b0 (ks, ad, T, P) (z) (by constructor <;> omega)) (va_cwS 1 hM.2.2.2.2 gX3_losses_X3_checkProvider rfl rfl rfl (by decide +kernel) ⟨(Nat.le_of_ble_eq_true rfl), (Nat.le_of_ble_eq_true rfl)⟩) rfl hl.1 rfl (Nat.le_of_ble_eq_true rfl) dX3_losses_1 ⟨(Nat.le_of_ble_eq_true rfl), (Nat.le_of_ble_eq_true rfl)⟩ (fun E ce q9 u1 H locs hx hC hce hcv hcl => by
      obtain ⟨x, rfl, hx, hu⟩ := hx; rw [hu] at hC; clear hu; try dsimp only at hx
      exact y_out hto hlk hC hce hcv hcl ⟨x, rfl, (by (try dsimp only); omega), rfl⟩ (Nat.le_of_ble_eq_true rfl) (Nat.le_of_ble_eq_true rfl)) (fun v u1 H locs hp hC => ?_)
  obtain ⟨rfl, h_1, hu⟩ := hp; rw [hu] at hC; clear hu
  try dsimp only at h_1
  refine W.eq (g2 := F0 m 4 ls []) rfl ?_
  refine y_aload_n hM hl 0 rfl rfl dX3_losses_4 ?_
  refine y_get hM hC hF.1 rfl rfl (by decide +kernel) 2 ⟨by decide, rfl, rfl, rfl⟩ (by decide +kernel) (congrArg (fun q => some (va_rf q)) hF.2.2.2.2.2.2.2.2.1) dX3_losses_5 ?_
  refine W.eq (g2 := F0 m 8 ls [.ref (ad 3 0)]) rfl ?_
  refine y_iload_n hM hl 1 rfl rfl dX3_losses_8 ?_
  refine y_lald hM hC hF.2.2.2.1 rfl ⟨by omega, by omega⟩ (by decide) (x := T 3 0 (z).toNat) rfl dX3_losses_9 ?_
  exact y_lret hM hr hlk hC ⟨_, rfl, (by (try dsimp only); omega), rfl⟩ (Nat.le_of_ble_eq_true rfl) (Nat.le_of_ble_eq_true rfl) dX3_losses_10

set_option maxRecDepth 100000 in
set_option maxHeartbeats 8000000 in
theorem c_step (l : Launch) (hfl : l.stackTraces = false) (G : GG) (b0 : Nat) (ks : KK) (ad : AD) (T : TT) (P : PP) (z : Int) (hz : inI z) (hF : FI ks ad P) (hRK : RK ks ad P) (hRN : RN T) (hDN : DN T) (hSK : SK ks ad T P) (hSN : SN T) (hOK : OK1 ks ad T P) (hON : ON T)  : vx_Met l yX3_step wsX3_step (rmX 10 7 42 183) (va_Pc [.ref (ad 0 0), .int (iI (z))] (Ok G b0 (ks, ad, T, P))) (Qr (pI (fun r => r = lateT T z.toNat (T 0 0 5) ∧ 0 ≤ z ∧ z < T 0 0 8 ∧ T 11 z.toNat 3 ≠ 3 ∧ (T 11 z.toNat 3 = 2 → gotT T z.toNat 0 + lakT T z.toNat (lateT T z.toNat (T 0 0 5)) 0 ≤ 100000000)) (ks, ad, stpT T z.toNat 0, P)) G b0) (Xr (pX (fun x => (x = 3 ∧ (z < 0 ∨ T 0 0 8 ≤ z)) ∨ (x = 2 ∧ 0 ≤ z ∧ z < T 0 0 8 ∧ (T 11 z.toNat 3 = 3 ∨ (T 11 z.toNat 3 = 2 ∧ 100000000 < gotT T z.toNat 0 + lakT T z.toNat (lateT T z.toNat (T 0 0 5)) 0)))) (ks, ad, T, P)) G b0) 7 42 (Wx b0) := by
  refine vx_ofW (cc := cX3_step) (maxL := 2) (ret := (some .int)) (by decide +kernel) rfl ?_
  intro p e s m args below meth c s₁ B hml hto hv
  obtain ⟨rfl, hok⟩ := hv
  have hM : CallFix p m c cX3_step 2 s _ wsX3_step RX3 := ⟨B.exec, B.bytes, hml, findClass_of_methodNamed B.named, atoms_spec (ws := wsX3_step) B.pre⟩
  have hr := B.returns
  have hlk := B.notSynchronized
  have hC := hok.cur
  have hl := lv_entry ([.ref (ad 0 0), .int (iI (z))]) (n := 2) (Nat.le_of_ble_eq_true rfl)
  rw [lg_entry_eq]
  generalize (lg_sl ([.ref (ad 0 0), .int (iI (z))]) ++ List.replicate (2 - (lg_sl ([.ref (ad 0 0), .int (iI (z))])).length) Slot.unset).toArray = ls at hl ⊢
  have hl : lv_has ls 2 [(0, .ref (ad 0 0)), (1, .int (iI (z)))] := hl
  refine y_aload_n hM hl 0 rfl rfl dX3_step_0 ?_
  refine y_aload_n hM hl 0 rfl rfl dX3_step_1 ?_
  refine y_iload_n hM hl 1 rfl rfl dX3_step_2 ?_
  refine y_callV hM hC (c_openOrderAt l hfl G b0 ks ad T P (z) (by constructor <;> omega) hF hOK hON) (cwV 1 hM.2.2.2.2 gX3_step_X3_openOrderAt rfl rfl rfl (by decide +kernel) ⟨(Nat.le_of_ble_eq_true rfl), (Nat.le_of_ble_eq_true rfl)⟩) (y_recv hC hF.1 rfl rfl) rfl hl.1 rfl (Nat.le_of_ble_eq_true rfl) dX3_step_3 ⟨(Nat.le_of_ble_eq_true rfl), (Nat.le_of_ble_eq_true rfl)⟩ (fun E ce q9 u1 H locs hx hC hce hcv hcl => by
      obtain ⟨x, rfl, hx, hu⟩ := hx; rw [hu] at hC; clear hu; try dsimp only at hx
      exact y_out hto hlk hC hce hcv hcl ⟨x, rfl, (by (try dsimp only); omega), rfl⟩ (Nat.le_of_ble_eq_true rfl) (Nat.le_of_ble_eq_true rfl)) (fun v u1 H locs hp hC => ?_)
  obtain ⟨rfl, h_3, hu⟩ := hp; rw [hu] at hC; clear hu
  try dsimp only at h_3
  refine W.eq (g2 := F0 m 6 ls [.ref (ad 11 (z).toNat), .ref (ad 0 0)]) rfl ?_
  refine y_iconst hM dX3_step_6 ?_
  refine y_callV hM hC (c_doNextStep l hfl G b0 ks ad T P (z).toNat (by omega) (0) (Or.inl rfl) hF hRK hRN hDN hSK hSN hOK hON) (cwV 2 hM.2.2.2.2 gX3_step_X3_doNextStep rfl rfl rfl (by decide +kernel) ⟨(Nat.le_of_ble_eq_true rfl), (Nat.le_of_ble_eq_true rfl)⟩) (y_recv hC hF.1 rfl rfl) rfl hl.1 rfl (Nat.le_of_ble_eq_true rfl) dX3_step_7 ⟨(Nat.le_of_ble_eq_true rfl), (Nat.le_of_ble_eq_true rfl)⟩ (fun E ce q9 u1 H locs hx hC hce hcv hcl => by
      obtain ⟨x, rfl, hx, hu⟩ := hx; rw [hu] at hC; clear hu; try dsimp only at hx
      exact y_out hto hlk hC hce hcv hcl ⟨x, rfl, (by (try dsimp only); omega), rfl⟩ (Nat.le_of_ble_eq_true rfl) (Nat.le_of_ble_eq_true rfl)) (fun v u1 H locs hp hC => ?_)
  obtain ⟨r_7, rfl, h_7, hu⟩ := hp; rw [hu] at hC; clear hu
  try dsimp only at h_7
  refine W.eq (g2 := F0 m 10 ls [.int (iI (r_7))]) rfl ?_
  exact y_iret hM hr hlk hC ⟨_, rfl, ⟨h_7.1, by omega, by omega, h_3.2.2, h_7.2⟩, rfl⟩ (Nat.le_of_ble_eq_true rfl) (Nat.le_of_ble_eq_true rfl) dX3_step_10

set_option maxRecDepth 100000 in
set_option maxHeartbeats 8000000 in
theorem c_force (l : Launch) (hfl : l.stackTraces = false) (G : GG) (b0 : Nat) (ks : KK) (ad : AD) (T : TT) (P : PP) (z : Int) (hz : inI z) (hF : FI ks ad P) (hRK : RK ks ad P) (hRN : RN T) (hDN : DN T) (hSK : SK ks ad T P) (hSN : SN T) (hOK : OK1 ks ad T P) (hON : ON T)  : vx_Met l yX3_force wsX3_force (rmX 10 7 42 183) (va_Pc [.ref (ad 0 0), .int (iI (z))] (Ok G b0 (ks, ad, T, P))) (Qr (pI (fun r => r = lateT T z.toNat (T 0 0 5) ∧ 10 < r ∧ 0 ≤ z ∧ z < T 0 0 8 ∧ T 11 z.toNat 3 ≠ 3 ∧ (T 11 z.toNat 3 = 2 → gotT T z.toNat 1 + lakT T z.toNat (lateT T z.toNat (T 0 0 5)) 1 ≤ 100000000)) (ks, ad, stpT T z.toNat 1, P)) G b0) (Xr (pX (fun x => (x = 3 ∧ (z < 0 ∨ T 0 0 8 ≤ z)) ∨ (x = 2 ∧ 0 ≤ z ∧ z < T 0 0 8 ∧ (T 11 z.toNat 3 = 3 ∨ lateT T z.toNat (T 0 0 5) ≤ 10 ∨ (T 11 z.toNat 3 = 2 ∧ 100000000 < gotT T z.toNat 1 + lakT T z.toNat (lateT T z.toNat (T 0 0 5)) 1)))) (ks, ad, T, P)) G b0) 7 42 (Wx b0) := by
  refine vx_ofW (cc := cX3_force) (maxL := 3) (ret := (some .int)) (by decide +kernel) rfl ?_
  intro p e s m args below meth c s₁ B hml hto hv
  obtain ⟨rfl, hok⟩ := hv
  have hM : CallFix p m c cX3_force 3 s _ wsX3_force RX3 := ⟨B.exec, B.bytes, hml, findClass_of_methodNamed B.named, atoms_spec (ws := wsX3_force) B.pre⟩
  have hr := B.returns
  have hlk := B.notSynchronized
  have hC := hok.cur
  have hl := lv_entry ([.ref (ad 0 0), .int (iI (z))]) (n := 3) (Nat.le_of_ble_eq_true rfl)
  rw [lg_entry_eq]
  generalize (lg_sl ([.ref (ad 0 0), .int (iI (z))]) ++ List.replicate (3 - (lg_sl ([.ref (ad 0 0), .int (iI (z))])).length) Slot.unset).toArray = ls at hl ⊢
  have hl : lv_has ls 3 [(0, .ref (ad 0 0)), (1, .int (iI (z)))] := hl
  obtain ⟨hd0, hd1, hd2, hd3⟩ := id hDN
  refine y_aload_n hM hl 0 rfl rfl dX3_force_0 ?_
  refine y_iload_n hM hl 1 rfl rfl dX3_force_1 ?_
  refine y_callV hM hC (c_openOrderAt l hfl G b0 ks ad T P (z) (by constructor <;> omega) hF hOK hON) (cwV 1 hM.2.2.2.2 gX3_force_X3_openOrderAt rfl rfl rfl (by decide +kernel) ⟨(Nat.le_of_ble_eq_true rfl), (Nat.le_of_ble_eq_true rfl)⟩) (y_recv hC hF.1 rfl rfl) rfl hl.1 rfl (Nat.le_of_ble_eq_true rfl) dX3_force_2 ⟨(Nat.le_of_ble_eq_true rfl), (Nat.le_of_ble_eq_true rfl)⟩ (fun E ce q9 u1 H locs hx hC hce hcv hcl => by
      obtain ⟨x, rfl, hx, hu⟩ := hx; rw [hu] at hC; clear hu; try dsimp only at hx
      exact y_out hto hlk hC hce hcv hcl ⟨x, rfl, (by (try dsimp only); omega), rfl⟩ (Nat.le_of_ble_eq_true rfl) (Nat.le_of_ble_eq_true rfl)) (fun v u1 H locs hp hC => ?_)
  obtain ⟨rfl, h_2, hu⟩ := hp; rw [hu] at hC; clear hu
  try dsimp only at h_2
  refine W.eq (g2 := F0 m 5 ls [.ref (ad 11 (z).toNat)]) rfl ?_
  have ho := hON z.toNat (by omega)
  refine lv_astore_n (lv' := [(2, .ref (ad 11 (z).toNat)), (0, .ref (ad 0 0)), (1, .int (iI (z)))]) hM.1 hM.2.1 dX3_force_5 rfl hl (by decide) rfl (fun ls hl => ?_)
  refine y_aload_n hM hl 0 rfl rfl dX3_force_6 ?_
  refine y_aload_n hM hl 1 rfl rfl dX3_force_7 ?_
  refine y_get hM hC hF.1 rfl rfl (by decide +kernel) 5 ⟨by decide, rfl, rfl, rfl⟩ (by decide +kernel) rfl dX3_force_8 ?_
  refine y_callV hM hC (c_latenessOn l hfl G b0 ks ad T P (z).toNat (hOK.2.2.2 _ (by omega)).1 (T 0 0 5) (by constructor <;> omega) ⟨by omega, by omega⟩ ⟨by omega, by omega⟩) (cwV 1 hM.2.2.2.2 gX3_force_X0_latenessOn rfl rfl rfl (by decide +kernel) ⟨(Nat.le_of_ble_eq_true rfl), (Nat.le_of_ble_eq_true rfl)⟩) (y_recv hC (hOK.2.2.2 _ (by omega)).1 rfl rfl) rfl hl.1 rfl (Nat.le_of_ble_eq_true rfl) dX3_force_11 ⟨(Nat.le_of_ble_eq_true rfl), (Nat.le_of_ble_eq_true rfl)⟩ (fun E ce q9 u1 H locs hx hC hce hcv hcl => hx.elim) (fun v u1 H locs hp hC => ?_)
  obtain ⟨r_11, rfl, h_11, hu⟩ := hp; rw [hu] at hC; clear hu
  try dsimp only at h_11
  refine W.eq (g2 := F0 m 14 ls [.int (iI (r_11))]) rfl ?_
  have hl_11 := lateT_in (T := T) (k := z.toNat) (by omega) (d := T 0 0 5) ⟨by omega, by omega⟩
  refine y_bipush hM dX3_force_14 (by decide) ?_
  refine y_icmp_gt hM (by constructor <;> omega) (by constructor <;> omega) (tgt := 29) dX3_force_16 (by decide) (fun c_16 => ?_) (fun c_16 => ?_)
  ·
    refine y_aload_n hM hl 1 rfl rfl dX3_force_29 ?_
    refine y_aload_n hM hl 0 rfl rfl dX3_force_30 ?_
    refine y_iconst hM dX3_force_31 ?_
    refine y_callV hM hC (c_doNextStep l hfl G b0 ks ad T P (z).toNat (by omega) (1) (Or.inr rfl) hF hRK hRN hDN hSK hSN hOK hON) (cwV 2 hM.2.2.2.2 gX3_force_X3_doNextStep rfl rfl rfl (by decide +kernel) ⟨(Nat.le_of_ble_eq_true rfl), (Nat.le_of_ble_eq_true rfl)⟩) (y_recv hC hF.1 rfl rfl) rfl hl.1 rfl (Nat.le_of_ble_eq_true rfl) dX3_force_32 ⟨(Nat.le_of_ble_eq_true rfl), (Nat.le_of_ble_eq_true rfl)⟩ (fun E ce q9 u1 H locs hx hC hce hcv hcl => by
        obtain ⟨x, rfl, hx, hu⟩ := hx; rw [hu] at hC; clear hu; try dsimp only at hx
        exact y_out hto hlk hC hce hcv hcl ⟨x, rfl, (by (try dsimp only); omega), rfl⟩ (Nat.le_of_ble_eq_true rfl) (Nat.le_of_ble_eq_true rfl)) (fun v u1 H locs hp hC => ?_)
    obtain ⟨r_32, rfl, h_32, hu⟩ := hp; rw [hu] at hC; clear hu
    try dsimp only at h_32
    refine W.eq (g2 := F0 m 35 ls [.int (iI (r_32))]) rfl ?_
    exact y_iret hM hr hlk hC ⟨_, rfl, ⟨h_32.1, by omega, by omega, by omega, h_2.2.2, h_32.2⟩, rfl⟩ (Nat.le_of_ble_eq_true rfl) (Nat.le_of_ble_eq_true rfl) dX3_force_35
  ·
    exact y_throw hM hto hfl hlk hl.1 hC caS (text := "the step is not late enough to be forced") (by decide +kernel) ngS goS ⟨(by decide +kernel), (by decide +kernel)⟩ (by decide +kernel) dX3_force_19 dX3_force_22 dX3_force_23 dX3_force_25 dX3_force_28 ⟨(Nat.le_of_ble_eq_true rfl), (Nat.le_of_ble_eq_true rfl), (Nat.le_of_ble_eq_true rfl), (Nat.le_of_ble_eq_true rfl)⟩ ⟨2, rfl, (by (try dsimp only); omega), rfl⟩ (Nat.le_of_ble_eq_true rfl) (Nat.le_of_ble_eq_true rfl)
