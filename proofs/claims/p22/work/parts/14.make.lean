set_option maxRecDepth 100000 in
set_option maxHeartbeats 8000000 in
theorem c_Order_init (l : Launch) (hfl : l.stackTraces = false) (G : GG) (b0 : Nat) (ks : KK) (ad : AD) (T : TT) (P : PP) (k : Nat) (hk : (11, k) ∈ ks) (sv h to dd : Int) : vx_Met l yX0_init wsX0_init (rmX 1 0 0 12) (va_Pc [.ref (ad 11 k), .int (iI (sv)), .int (iI (h)), .int (iI (to)), .int (iI (dd))] (Ok G b0 (ks, ad, T, P))) (Qr (pV True (ks, ad, oriT T k sv h to dd, P)) G b0) (Xr (noX) G b0) 0 0 (Wx b0) := by
  refine vx_ofW (cc := cX0_init) (maxL := 5) (ret := none) (by decide +kernel) rfl ?_
  intro p e s m args below meth c s₁ B hml hto hv
  obtain ⟨rfl, hok⟩ := hv
  have hM : CallFix p m c cX0_init 5 s _ wsX0_init RX0 := ⟨B.exec, B.bytes, hml, findClass_of_methodNamed B.named, atoms_spec (ws := wsX0_init) B.pre⟩
  have hr := B.returns
  have hlk := B.notSynchronized
  have hC := hok.cur
  have hin2 : meth.name = "<init>" := (name_of_methodNamed B.named B.method).1
  have hl := lv_entry ([.ref (ad 11 k), .int (iI (sv)), .int (iI (h)), .int (iI (to)), .int (iI (dd))]) (n := 5) (Nat.le_of_ble_eq_true rfl)
  rw [lg_entry_eq]
  generalize (lg_sl ([.ref (ad 11 k), .int (iI (sv)), .int (iI (h)), .int (iI (to)), .int (iI (dd))]) ++ List.replicate (5 - (lg_sl ([.ref (ad 11 k), .int (iI (sv)), .int (iI (h)), .int (iI (to)), .int (iI (dd))])).length) Slot.unset).toArray = ls at hl ⊢
  have hl : lv_has ls 5 [(0, .ref (ad 11 k)), (1, .int (iI (sv))), (2, .int (iI (h))), (3, .int (iI (to))), (4, .int (iI (dd)))] := hl
  refine y_aload_n hM hl 0 rfl rfl dX0_init_0 ?_
  refine W.objInit hM.1 hM.2.1 hM.2.2.2.1 (hM.2.2.2.2 (.methodLink RX0 3 objectInit) (by decide +kernel)) (hM.2.2.2.2 (.instanceMethod objectInit) (by decide +kernel)) (hM.2.2.2.2 (.code objectInit ⟨#[0xb1]⟩ 1 none) (by decide +kernel)) rfl (by rw [hM.2.2.1]; exact hl.1) rfl dX0_init_1 (Nat.le_of_ble_eq_true rfl) (Nat.le_of_ble_eq_true rfl) ?_
  refine W.eq (g2 := F0 m 4 ls []) rfl ?_
  refine y_aload_n hM hl 0 rfl rfl dX0_init_4 ?_
  refine y_iconst hM dX0_init_5 ?_
  refine y_put hM hC hk rfl rfl (by decide +kernel) tyX0 tyX0_ok nmX0 3 ⟨by decide, rfl, rfl, rfl, rfl⟩ (by decide +kernel) (ty := .int) (by decide +kernel) rfl rfl (Nat.le_of_ble_eq_true rfl) (T' := (up T 11 k 3 (0))) (P' := P) (cF_up rfl) (fun _ _ h => up_ne h) (fun _ _ _ => rfl) dX0_init_6 (fun H locs hC => ?_)
  refine y_aload_n hM hl 0 rfl rfl dX0_init_9 ?_
  refine y_iconst hM dX0_init_10 ?_
  refine y_put hM hC hk rfl rfl (by decide +kernel) tyX0 tyX0_ok nmX0 5 ⟨by decide, rfl, rfl, rfl, rfl⟩ (by decide +kernel) (ty := .int) (by decide +kernel) rfl rfl (Nat.le_of_ble_eq_true rfl) (T' := (up (up T 11 k 3 (0)) 11 k 5 (0))) (P' := P) (cF_up rfl) (fun _ _ h => up_ne h) (fun _ _ _ => rfl) dX0_init_11 (fun H locs hC => ?_)
  refine y_aload_n hM hl 0 rfl rfl dX0_init_14 ?_
  refine y_iconst hM dX0_init_15 ?_
  refine y_put hM hC hk rfl rfl (by decide +kernel) tyX0 tyX0_ok nmX0 6 ⟨by decide, rfl, rfl, rfl, rfl⟩ (by decide +kernel) (ty := .int) (by decide +kernel) rfl rfl (Nat.le_of_ble_eq_true rfl) (T' := (up (up (up T 11 k 3 (0)) 11 k 5 (0)) 11 k 6 (0))) (P' := P) (cF_up rfl) (fun _ _ h => up_ne h) (fun _ _ _ => rfl) dX0_init_16 (fun H locs hC => ?_)
  refine y_aload_n hM hl 0 rfl rfl dX0_init_19 ?_
  refine y_lconst hM 0 (by decide) dX0_init_20 ?_
  refine y_put hM hC hk rfl rfl (by decide +kernel) tyX0 tyX0_ok nmX0 7 ⟨by decide, rfl, rfl, rfl, rfl⟩ (by decide +kernel) (ty := .long) (by decide +kernel) rfl rfl (Nat.le_of_ble_eq_true rfl) (T' := (up (up (up (up T 11 k 3 (0)) 11 k 5 (0)) 11 k 6 (0)) 11 k 7 (0))) (P' := P) (cF_up rfl) (fun _ _ h => up_ne h) (fun _ _ _ => rfl) dX0_init_21 (fun H locs hC => ?_)
  refine y_aload_n hM hl 0 rfl rfl dX0_init_24 ?_
  refine y_lconst hM 0 (by decide) dX0_init_25 ?_
  refine y_put hM hC hk rfl rfl (by decide +kernel) tyX0 tyX0_ok nmX0 8 ⟨by decide, rfl, rfl, rfl, rfl⟩ (by decide +kernel) (ty := .long) (by decide +kernel) rfl rfl (Nat.le_of_ble_eq_true rfl) (T' := (up (up (up (up (up T 11 k 3 (0)) 11 k 5 (0)) 11 k 6 (0)) 11 k 7 (0)) 11 k 8 (0))) (P' := P) (cF_up rfl) (fun _ _ h => up_ne h) (fun _ _ _ => rfl) dX0_init_26 (fun H locs hC => ?_)
  refine y_aload_n hM hl 0 rfl rfl dX0_init_29 ?_
  refine y_lconst hM 0 (by decide) dX0_init_30 ?_
  refine y_put hM hC hk rfl rfl (by decide +kernel) tyX0 tyX0_ok nmX0 9 ⟨by decide, rfl, rfl, rfl, rfl⟩ (by decide +kernel) (ty := .long) (by decide +kernel) rfl rfl (Nat.le_of_ble_eq_true rfl) (T' := (up (up (up (up (up (up T 11 k 3 (0)) 11 k 5 (0)) 11 k 6 (0)) 11 k 7 (0)) 11 k 8 (0)) 11 k 9 (0))) (P' := P) (cF_up rfl) (fun _ _ h => up_ne h) (fun _ _ _ => rfl) dX0_init_31 (fun H locs hC => ?_)
  refine y_aload_n hM hl 0 rfl rfl dX0_init_34 ?_
  refine y_iload_n hM hl 1 rfl rfl dX0_init_35 ?_
  refine y_putF hM hin2 hC hk rfl rfl (by decide +kernel) tyX0 tyX0_ok nmX0 0 ⟨by decide, rfl, rfl, rfl, rfl, rfl⟩ (by decide +kernel) (ty := .int) (by decide +kernel) rfl rfl (Nat.le_of_ble_eq_true rfl) (T' := (up (up (up (up (up (up (up T 11 k 3 (0)) 11 k 5 (0)) 11 k 6 (0)) 11 k 7 (0)) 11 k 8 (0)) 11 k 9 (0)) 11 k 0 (sv))) (P' := P) (cF_up rfl) (fun _ _ h => up_ne h) (fun _ _ _ => rfl) dX0_init_36 (fun H locs hC => ?_)
  refine y_aload_n hM hl 0 rfl rfl dX0_init_39 ?_
  refine y_iload_n hM hl 2 rfl rfl dX0_init_40 ?_
  refine y_putF hM hin2 hC hk rfl rfl (by decide +kernel) tyX0 tyX0_ok nmX0 1 ⟨by decide, rfl, rfl, rfl, rfl, rfl⟩ (by decide +kernel) (ty := .int) (by decide +kernel) rfl rfl (Nat.le_of_ble_eq_true rfl) (T' := (up (up (up (up (up (up (up (up T 11 k 3 (0)) 11 k 5 (0)) 11 k 6 (0)) 11 k 7 (0)) 11 k 8 (0)) 11 k 9 (0)) 11 k 0 (sv)) 11 k 1 (h))) (P' := P) (cF_up rfl) (fun _ _ h => up_ne h) (fun _ _ _ => rfl) dX0_init_41 (fun H locs hC => ?_)
  refine y_aload_n hM hl 0 rfl rfl dX0_init_44 ?_
  refine y_iload_n hM hl 3 rfl rfl dX0_init_45 ?_
  refine y_putF hM hin2 hC hk rfl rfl (by decide +kernel) tyX0 tyX0_ok nmX0 2 ⟨by decide, rfl, rfl, rfl, rfl, rfl⟩ (by decide +kernel) (ty := .int) (by decide +kernel) rfl rfl (Nat.le_of_ble_eq_true rfl) (T' := (up (up (up (up (up (up (up (up (up T 11 k 3 (0)) 11 k 5 (0)) 11 k 6 (0)) 11 k 7 (0)) 11 k 8 (0)) 11 k 9 (0)) 11 k 0 (sv)) 11 k 1 (h)) 11 k 2 (to))) (P' := P) (cF_up rfl) (fun _ _ h => up_ne h) (fun _ _ _ => rfl) dX0_init_46 (fun H locs hC => ?_)
  refine y_aload_n hM hl 0 rfl rfl dX0_init_49 ?_
  refine y_iload hM hl 4 rfl dX0_init_50 ?_
  refine y_put hM hC hk rfl rfl (by decide +kernel) tyX0 tyX0_ok nmX0 4 ⟨by decide, rfl, rfl, rfl, rfl⟩ (by decide +kernel) (ty := .int) (by decide +kernel) rfl rfl (Nat.le_of_ble_eq_true rfl) (T' := (up (up (up (up (up (up (up (up (up (up T 11 k 3 (0)) 11 k 5 (0)) 11 k 6 (0)) 11 k 7 (0)) 11 k 8 (0)) 11 k 9 (0)) 11 k 0 (sv)) 11 k 1 (h)) 11 k 2 (to)) 11 k 4 (dd))) (P' := P) (cF_up rfl) (fun _ _ h => up_ne h) (fun _ _ _ => rfl) dX0_init_52 (fun H locs hC => ?_)
  exact y_vret hM hr hlk hC ⟨rfl, trivial, rfl⟩ (Nat.le_of_ble_eq_true rfl) (Nat.le_of_ble_eq_true rfl) dX0_init_55

set_option maxRecDepth 100000 in
set_option maxHeartbeats 8000000 in
theorem c_begin (l : Launch) (hfl : l.stackTraces = false) (G : GG) (b0 : Nat) (ks : KK) (ad : AD) (T : TT) (P : PP) (z v : Int) (hz : inI z) (hv : inI v) (hfr : (10, (T 0 0 7).toNat) ∉ ks) (hF : FI ks ad P) (hRK : RK ks ad P) (hRN : RN T) (hDN : DN T) (h70 : 0 ≤ T 0 0 7 ∧ T 0 0 7 ≤ 10) : vx_Met l yX3_begin wsX3_begin (rmX 7 2 12 104) (va_Pc [.ref (ad 0 0), .int (iI (z)), .int (iI (v))] (Ok G b0 (ks, ad, T, P))) (Qr (fun w u1 => ∃ (r : Int) (q : Nat), w = some (.int (iI r)) ∧ (r = T 0 0 7 ∧ 0 ≤ z ∧ z < 5 ∧ 0 ≤ v ∧ v ≤ 1000000 ∧ T 0 0 7 < 10) ∧ u1 = (ks ++ [(10, (T 0 0 7).toNat)], upA ad 10 (T 0 0 7).toNat q, begT T z v, upP (zrP P 10 (T 0 0 7).toNat) 4 0 (T 0 0 7).toNat (some q))) G b0) (Xr (pX (fun x => (x = 1 ∧ (z < 0 ∨ 5 ≤ z ∨ v < 0 ∨ 1000000 < v)) ∨ (x = 2 ∧ 0 ≤ z ∧ z < 5 ∧ 0 ≤ v ∧ v ≤ 1000000 ∧ 10 ≤ T 0 0 7)) (ks, ad, T, P)) G b0) 2 12 (Wx b0) := by
  refine vx_ofW (cc := cX3_begin) (maxL := 5) (ret := (some .int)) (by decide +kernel) rfl ?_
  intro p e s m args below meth c s₁ B hml hto hv
  obtain ⟨rfl, hok⟩ := hv
  have hM : CallFix p m c cX3_begin 5 s _ wsX3_begin RX3 := ⟨B.exec, B.bytes, hml, findClass_of_methodNamed B.named, atoms_spec (ws := wsX3_begin) B.pre⟩
  have hr := B.returns
  have hlk := B.notSynchronized
  have hC := hok.cur
  have hl := lv_entry ([.ref (ad 0 0), .int (iI (z)), .int (iI (v))]) (n := 5) (Nat.le_of_ble_eq_true rfl)
  rw [lg_entry_eq]
  generalize (lg_sl ([.ref (ad 0 0), .int (iI (z)), .int (iI (v))]) ++ List.replicate (5 - (lg_sl ([.ref (ad 0 0), .int (iI (z)), .int (iI (v))])).length) Slot.unset).toArray = ls at hl ⊢
  have hl : lv_has ls 5 [(0, .ref (ad 0 0)), (1, .int (iI (z))), (2, .int (iI (v)))] := hl
  obtain ⟨hd0, hd1, hd2, hd3⟩ := id hDN
  refine y_aload_n hM hl 0 rfl rfl dX3_begin_0 ?_
  refine y_iload_n hM hl 1 rfl rfl dX3_begin_1 ?_
  refine y_callV hM hC (c_priceRowOf l hfl G b0 ks ad T P (z) (by constructor <;> omega) hF hRK) (cwV 1 hM.2.2.2.2 gX3_begin_X3_priceRowOf rfl rfl rfl (by decide +kernel) ⟨(Nat.le_of_ble_eq_true rfl), (Nat.le_of_ble_eq_true rfl)⟩) (y_recv hC hF.1 rfl rfl) rfl hl.1 rfl (Nat.le_of_ble_eq_true rfl) dX3_begin_2 ⟨(Nat.le_of_ble_eq_true rfl), (Nat.le_of_ble_eq_true rfl)⟩ (fun E ce q9 u1 H locs hx hC hce hcv hcl => by
      obtain ⟨x, rfl, hx, hu⟩ := hx; rw [hu] at hC; clear hu; try dsimp only at hx
      exact y_out hto hlk hC hce hcv hcl ⟨x, rfl, (by (try dsimp only); omega), rfl⟩ (Nat.le_of_ble_eq_true rfl) (Nat.le_of_ble_eq_true rfl)) (fun v u1 H locs hp hC => ?_)
  obtain ⟨rfl, h_2, hu⟩ := hp; rw [hu] at hC; clear hu
  try dsimp only at h_2
  refine W.eq (g2 := F0 m 5 ls [.ref (ad 6 (z).toNat)]) rfl ?_
  refine lv_astore_n (lv' := [(3, .ref (ad 6 (z).toNat)), (0, .ref (ad 0 0)), (1, .int (iI (z))), (2, .int (iI (v)))]) hM.1 hM.2.1 dX3_begin_5 rfl hl (by decide) rfl (fun ls hl => ?_)
  refine y_iload_n hM hl 3 rfl rfl dX3_begin_6 ?_
  refine y_iconst hM dX3_begin_7 ?_
  refine y_ldc hM (v := 1000000) (1000000) (by decide) (by decide +kernel) dX3_begin_8 ?_
  refine y_callS hM hC (c_isOutside l hfl G b0 (ks, ad, T, P) (v) (0) (1000000) (by constructor <;> omega) (by constructor <;> omega) (by constructor <;> omega)) (va_cwS 3 hM.2.2.2.2 gX3_begin_X3_isOutside rfl rfl rfl (by decide +kernel) ⟨(Nat.le_of_ble_eq_true rfl), (Nat.le_of_ble_eq_true rfl)⟩) rfl hl.1 rfl (Nat.le_of_ble_eq_true rfl) dX3_begin_10 ⟨(Nat.le_of_ble_eq_true rfl), (Nat.le_of_ble_eq_true rfl)⟩ (fun E ce q9 u1 H locs hx hC hce hcv hcl => hx.elim) (fun v u1 H locs hp hC => ?_)
  obtain ⟨r_10, rfl, h_10, hu⟩ := hp; rw [hu] at hC; clear hu
  try dsimp only at h_10
  refine W.eq (g2 := F0 m 13 ls [.int (iI (r_10))]) rfl ?_
  refine y_if_eq hM (by constructor <;> omega) (tgt := 26) dX3_begin_13 (by decide) (fun c_13 => ?_) (fun c_13 => ?_)
  ·
    refine y_aload_n hM hl 1 rfl rfl dX3_begin_26 ?_
    refine y_get hM hC hF.1 rfl rfl (by decide +kernel) 7 ⟨by decide, rfl, rfl, rfl⟩ (by decide +kernel) rfl dX3_begin_27 ?_
    refine lv_istore (lv' := [(4, .int (iI (T 0 0 7))), (3, .ref (ad 6 (z).toNat)), (0, .ref (ad 0 0)), (1, .int (iI (z))), (2, .int (iI (v)))]) hM.1 hM.2.1 dX3_begin_30 hl (by decide) rfl (fun ls hl => ?_)
    refine y_iload hM hl 0 rfl dX3_begin_32 ?_
    refine y_iconst hM dX3_begin_34 ?_
    refine y_bipush hM dX3_begin_35 (by decide) ?_
    refine y_callS hM hC (c_isOutside l hfl G b0 (ks, ad, T, P) (T 0 0 7) (0) (9) (by constructor <;> omega) (by constructor <;> omega) (by constructor <;> omega)) (va_cwS 3 hM.2.2.2.2 gX3_begin_X3_isOutside rfl rfl rfl (by decide +kernel) ⟨(Nat.le_of_ble_eq_true rfl), (Nat.le_of_ble_eq_true rfl)⟩) rfl hl.1 rfl (Nat.le_of_ble_eq_true rfl) dX3_begin_37 ⟨(Nat.le_of_ble_eq_true rfl), (Nat.le_of_ble_eq_true rfl)⟩ (fun E ce q9 u1 H locs hx hC hce hcv hcl => hx.elim) (fun v u1 H locs hp hC => ?_)
    obtain ⟨r_37, rfl, h_37, hu⟩ := hp; rw [hu] at hC; clear hu
    try dsimp only at h_37
    refine W.eq (g2 := F0 m 40 ls [.int (iI (r_37))]) rfl ?_
    refine y_if_eq hM (by constructor <;> omega) (tgt := 53) dX3_begin_40 (by decide) (fun c_40 => ?_) (fun c_40 => ?_)
    ·
      refine y_aload_n hM hl 2 rfl rfl dX3_begin_53 ?_
      refine y_get hM hC hF.1 rfl rfl (by decide +kernel) 3 ⟨by decide, rfl, rfl, rfl⟩ (by decide +kernel) (congrArg (fun q => some (va_rf q)) hF.2.2.2.2.2.2.2.2.2.1) dX3_begin_54 ?_
      refine W.eq (g2 := F0 m 57 ls [.ref (ad 4 0)]) rfl ?_
      refine y_iload hM hl 0 rfl dX3_begin_57 ?_
      refine y_new hM hC (t := 10) (i := (T 0 0 7).toNat) hfr rfl (by decide +kernel) tyX2 tyX2_ok ⟨(by decide +kernel), (by decide +kernel), (by decide +kernel)⟩ (fs := [.int (iI 0), .long (lI 0), .int (iI 0)]) (fun j hj => by rcases (show j = 0 ∨ j = 1 ∨ j = 2 by omega) with rfl | rfl | rfl <;> rfl) rfl ⟨(Nat.le_of_ble_eq_true rfl), (Nat.le_of_ble_eq_true rfl)⟩ dX3_begin_59 (fun q1 H hC => ?_)
      obtain ⟨ad1, had1⟩ : ∃ a : AD, a = upA ad 10 (T 0 0 7).toNat q1 := ⟨_, rfl⟩
      rw [← had1] at hC
      have e1_0 : ad1 6 (z).toNat = ad 6 (z).toNat := by rw [had1, upA_ne (fun h => absurd h.1 (by decide))]
      have e1_1 : ad1 0 0 = ad 0 0 := by rw [had1, upA_ne (fun h => absurd h.1 (by decide))]
      have e1_2 : ad1 4 0 = ad 4 0 := by rw [had1, upA_ne (fun h => absurd h.1 (by decide))]
      have hl : lv_has ls 5 [(4, .int (iI (T 0 0 7))), (3, .ref (ad1 6 (z).toNat)), (0, .ref (ad1 0 0)), (1, .int (iI (z))), (2, .int (iI (v)))] := by rw [e1_0, e1_1]; exact hl
      rw [← had1]
      refine W.eq (g2 := F0 m 62 ls [.ref (ad1 10 (T 0 0 7).toNat), .int (iI (T 0 0 7)), .ref (ad1 4 0)]) (by rw [e1_2]; try rfl) ?_
      have hF1 : FI (ks ++ [(10, (T 0 0 7).toNat)]) ad1 (zrP P 10 (T 0 0 7).toNat) := by rw [had1]; exact FI_new (by decide) hF
      have hRK1 : RK (ks ++ [(10, (T 0 0 7).toNat)]) ad1 (zrP P 10 (T 0 0 7).toNat) := by rw [had1]; exact RK_new (by decide) hRK
      have hRN1 : RN (zrT T 10 (T 0 0 7).toNat) := RN_zr (by decide) hRN
      refine lv_dup hM.1 hM.2.1 dX3_begin_62 rfl ?_
      refine y_iload_n hM hl 3 rfl rfl dX3_begin_63 ?_
      refine y_iload_n hM hl 4 rfl rfl dX3_begin_64 ?_
      refine y_i2l hM (by constructor <;> omega) dX3_begin_65 ?_
      refine y_aload_n hM hl 1 rfl rfl dX3_begin_66 ?_
      refine y_aload_n hM hl 2 rfl rfl dX3_begin_67 ?_
      refine y_get hM hC hF1.1 rfl rfl (by decide +kernel) 5 ⟨by decide, rfl, rfl, rfl⟩ (by decide +kernel) (congrArg (fun q => some (Value.int (iI q))) (show (zrT T 10 (T 0 0 7).toNat) 0 0 5 = T 0 0 5 from by simp [up, zrT])) dX3_begin_68 ?_
      refine y_callV hM hC (c_valueOn l hfl G b0 (ks ++ [(10, (T 0 0 7).toNat)]) ad1 (zrT T 10 (T 0 0 7).toNat) (zrP P 10 (T 0 0 7).toNat) (z).toNat (by omega) hRK1 hRN1 (T 0 0 5) (by constructor <;> omega)) (cwV 1 hM.2.2.2.2 gX3_begin_X1_valueOn rfl rfl rfl (by decide +kernel) ⟨(Nat.le_of_ble_eq_true rfl), (Nat.le_of_ble_eq_true rfl)⟩) (y_recv hC (hRK1 _ (by omega)).1 rfl rfl) rfl hl.1 rfl (Nat.le_of_ble_eq_true rfl) dX3_begin_71 ⟨(Nat.le_of_ble_eq_true rfl), (Nat.le_of_ble_eq_true rfl)⟩ (fun E ce q9 u1 H locs hx hC hce hcv hcl => hx.elim) (fun v u1 H locs hp hC => ?_)
      obtain ⟨r_71, rfl, h_71, hu⟩ := hp; rw [hu] at hC; clear hu
      try dsimp only at h_71
      refine W.eq (g2 := F0 m 74 ls [.int (iI (r_71)), .long (lI (v)), .int (iI (z)), .ref (ad1 10 (T 0 0 7).toNat), .ref (ad1 10 (T 0 0 7).toNat), .int (iI (T 0 0 7)), .ref (ad1 4 0)]) rfl ?_
      have h_71 : r_71 = valT T z.toNat (T 0 0 5) := by rw [h_71, valT_zr (by decide)]
      have hv_71 := valT_in hRN (p := z.toNat) (by omega) (T 0 0 5)
      refine y_callS hM hC (c_thousandthsFor l hfl G b0 ((ks ++ [(10, (T 0 0 7).toNat)]), ad1, (zrT T 10 (T 0 0 7).toNat), (zrP P 10 (T 0 0 7).toNat)) (v) (r_71) ⟨by omega, by omega⟩ ⟨by omega, by omega⟩) (va_cwS 2 hM.2.2.2.2 gX3_begin_X3_thousandthsFor rfl rfl rfl (by decide +kernel) ⟨(Nat.le_of_ble_eq_true rfl), (Nat.le_of_ble_eq_true rfl)⟩) rfl hl.1 rfl (Nat.le_of_ble_eq_true rfl) dX3_begin_74 ⟨(Nat.le_of_ble_eq_true rfl), (Nat.le_of_ble_eq_true rfl)⟩ (fun E ce q9 u1 H locs hx hC hce hcv hcl => hx.elim) (fun v u1 H locs hp hC => ?_)
      obtain ⟨r_74, rfl, h_74, hu⟩ := hp; rw [hu] at hC; clear hu
      try dsimp only at h_74
      refine W.eq (g2 := F0 m 77 ls [.long (lI (r_74)), .int (iI (z)), .ref (ad1 10 (T 0 0 7).toNat), .ref (ad1 10 (T 0 0 7).toNat), .int (iI (T 0 0 7)), .ref (ad1 4 0)]) rfl ?_
      refine y_callI hM hC (c_Saver_init l hfl G b0 (ks ++ [(10, (T 0 0 7).toNat)]) ad1 (zrT T 10 (T 0 0 7).toNat) (zrP P 10 (T 0 0 7).toNat) (T 0 0 7).toNat (List.mem_append_right _ List.mem_cons_self) (z) (r_74)) (cwI 2 hM.2.2.2.2 gX3_begin_X2_init rfl rfl rfl (hM.2.2.2.2 (.initialized RX2) (by decide +kernel)) (hM.2.2.2.2 (.methodLink RX3 95 yX2_init) (by decide +kernel)) (hM.2.2.2.2 (.instanceMethod yX2_init) (by decide +kernel)) rfl (by decide +kernel) ⟨(Nat.le_of_ble_eq_true rfl), (Nat.le_of_ble_eq_true rfl)⟩) rfl hl.1 rfl (Nat.le_of_ble_eq_true rfl) dX3_begin_77 ⟨(Nat.le_of_ble_eq_true rfl), (Nat.le_of_ble_eq_true rfl)⟩ (fun v u1 H locs hp hC => ?_)
      obtain ⟨rfl, h_77, hu⟩ := hp; rw [hu] at hC; clear hu
      try dsimp only at h_77
      refine W.eq (g2 := F0 m 80 ls [.ref (ad1 10 (T 0 0 7).toNat), .int (iI (T 0 0 7)), .ref (ad1 4 0)]) rfl ?_
      refine y_aast hM hC 3 hF1.2.2.2.2.1 (List.mem_append_right _ List.mem_cons_self) (fun _ _ => rfl) rfl rfl rfl ⟨by omega, by omega⟩ (by decide) dX3_begin_80 (fun H locs hC => ?_)
      refine y_aload_n hM hl 2 rfl rfl dX3_begin_81 ?_
      refine y_iload hM hl 0 rfl dX3_begin_82 ?_
      refine y_iconst hM dX3_begin_84 ?_
      refine y_iadd hM dX3_begin_85 ?_
      refine y_put hM hC hF1.1 rfl rfl (by decide +kernel) tyX3 tyX3_ok nmX3 7 ⟨by decide, rfl, rfl, rfl, rfl⟩ (by decide +kernel) (ty := .int) (by decide +kernel) rfl rfl (Nat.le_of_ble_eq_true rfl) (T' := (up (up (up (up (zrT T 10 (T 0 0 7).toNat) 10 (T 0 0 7).toNat 2 0) 10 (T 0 0 7).toNat 0 (z)) 10 (T 0 0 7).toNat 1 (r_74)) 0 0 7 ((T 0 0 7) + (1)))) (P' := (upP (zrP P 10 (T 0 0 7).toNat) 4 0 ((T 0 0 7).toNat) (some (ad1 10 (T 0 0 7).toNat)))) (cF_up rfl) (fun _ _ h => up_ne h) (fun _ _ _ => rfl) dX3_begin_86 (fun H locs hC => ?_)
      refine y_iload hM hl 0 rfl dX3_begin_89 ?_
      exact y_iret hM hr hlk hC ⟨_, q1, rfl, (by omega), (by unfold begT; rw [had1, upA_s, ← h_71, ← h_74])⟩ (Nat.le_of_ble_eq_true rfl) (Nat.le_of_ble_eq_true rfl) dX3_begin_91
    ·
      exact y_throw hM hto hfl hlk hl.1 hC caS (text := "no more savers") (by decide +kernel) ngS goS ⟨(by decide +kernel), (by decide +kernel)⟩ (by decide +kernel) dX3_begin_43 dX3_begin_46 dX3_begin_47 dX3_begin_49 dX3_begin_52 ⟨(Nat.le_of_ble_eq_true rfl), (Nat.le_of_ble_eq_true rfl), (Nat.le_of_ble_eq_true rfl), (Nat.le_of_ble_eq_true rfl)⟩ ⟨2, rfl, (by (try dsimp only); omega), rfl⟩ (Nat.le_of_ble_eq_true rfl) (Nat.le_of_ble_eq_true rfl)
  ·
    exact y_throw hM hto hfl hlk hl.1 hC caA (text := "money out of range") (by decide +kernel) ngA goA ⟨(by decide +kernel), (by decide +kernel)⟩ (by decide +kernel) dX3_begin_16 dX3_begin_19 dX3_begin_20 dX3_begin_22 dX3_begin_25 ⟨(Nat.le_of_ble_eq_true rfl), (Nat.le_of_ble_eq_true rfl), (Nat.le_of_ble_eq_true rfl), (Nat.le_of_ble_eq_true rfl)⟩ ⟨1, rfl, (by (try dsimp only); omega), rfl⟩ (Nat.le_of_ble_eq_true rfl) (Nat.le_of_ble_eq_true rfl)

set_option maxRecDepth 100000 in
set_option maxHeartbeats 8000000 in
theorem c_order (l : Launch) (hfl : l.stackTraces = false) (G : GG) (b0 : Nat) (ks : KK) (ad : AD) (T : TT) (P : PP) (z w : Int) (hz : inI z) (hw : inI w) (hfr : (11, (T 0 0 8).toNat) ∉ ks) (hF : FI ks ad P) (hSK : SK ks ad T P) (hSN : SN T) (h80 : 0 ≤ T 0 0 8 ∧ T 0 0 8 ≤ 30) : vx_Met l yX3_order wsX3_order (rmX 7 3 22 104) (va_Pc [.ref (ad 0 0), .int (iI (z)), .int (iI (w))] (Ok G b0 (ks, ad, T, P))) (Qr (fun v u1 => ∃ (r : Int) (q : Nat), v = some (.int (iI r)) ∧ (r = T 0 0 8 ∧ 0 ≤ z ∧ z < T 0 0 7 ∧ 0 ≤ w ∧ w < 5 ∧ w ≠ T 10 z.toNat 0 ∧ T 10 z.toNat 2 = 0 ∧ T 0 0 8 < 30) ∧ u1 = (ks ++ [(11, (T 0 0 8).toNat)], upA ad 11 (T 0 0 8).toNat q, ordT T z w, upP (zrP P 11 (T 0 0 8).toNat) 5 0 (T 0 0 8).toNat (some q))) G b0) (Xr (pX (fun x => (x = 3 ∧ (z < 0 ∨ T 0 0 7 ≤ z)) ∨ (x = 1 ∧ 0 ≤ z ∧ z < T 0 0 7 ∧ (w < 0 ∨ 5 ≤ w ∨ w = T 10 z.toNat 0)) ∨ (x = 2 ∧ 0 ≤ z ∧ z < T 0 0 7 ∧ 0 ≤ w ∧ w < 5 ∧ w ≠ T 10 z.toNat 0 ∧ (T 10 z.toNat 2 ≠ 0 ∨ 30 ≤ T 0 0 8))) (ks, ad, T, P)) G b0) 3 22 (Wx b0) := by
  refine vx_ofW (cc := cX3_order) (maxL := 5) (ret := (some .int)) (by decide +kernel) rfl ?_
  intro p e s m args below meth c s₁ B hml hto hv
  obtain ⟨rfl, hok⟩ := hv
  have hM : CallFix p m c cX3_order 5 s _ wsX3_order RX3 := ⟨B.exec, B.bytes, hml, findClass_of_methodNamed B.named, atoms_spec (ws := wsX3_order) B.pre⟩
  have hr := B.returns
  have hlk := B.notSynchronized
  have hC := hok.cur
  have hl := lv_entry ([.ref (ad 0 0), .int (iI (z)), .int (iI (w))]) (n := 5) (Nat.le_of_ble_eq_true rfl)
  rw [lg_entry_eq]
  generalize (lg_sl ([.ref (ad 0 0), .int (iI (z)), .int (iI (w))]) ++ List.replicate (5 - (lg_sl ([.ref (ad 0 0), .int (iI (z)), .int (iI (w))])).length) Slot.unset).toArray = ls at hl ⊢
  have hl : lv_has ls 5 [(0, .ref (ad 0 0)), (1, .int (iI (z))), (2, .int (iI (w)))] := hl
  refine y_aload_n hM hl 0 rfl rfl dX3_order_0 ?_
  refine y_iload_n hM hl 1 rfl rfl dX3_order_1 ?_
  refine y_callV hM hC (c_saverAt l hfl G b0 ks ad T P (z) (by constructor <;> omega) hF hSK) (cwV 1 hM.2.2.2.2 gX3_order_X3_saverAt rfl rfl rfl (by decide +kernel) ⟨(Nat.le_of_ble_eq_true rfl), (Nat.le_of_ble_eq_true rfl)⟩) (y_recv hC hF.1 rfl rfl) rfl hl.1 rfl (Nat.le_of_ble_eq_true rfl) dX3_order_2 ⟨(Nat.le_of_ble_eq_true rfl), (Nat.le_of_ble_eq_true rfl)⟩ (fun E ce q9 u1 H locs hx hC hce hcv hcl => by
      obtain ⟨x, rfl, hx, hu⟩ := hx; rw [hu] at hC; clear hu; try dsimp only at hx
      exact y_out hto hlk hC hce hcv hcl ⟨x, rfl, (by (try dsimp only); omega), rfl⟩ (Nat.le_of_ble_eq_true rfl) (Nat.le_of_ble_eq_true rfl)) (fun v u1 H locs hp hC => ?_)
  obtain ⟨rfl, h_2, hu⟩ := hp; rw [hu] at hC; clear hu
  try dsimp only at h_2
  refine W.eq (g2 := F0 m 5 ls [.ref (ad 10 (z).toNat)]) rfl ?_
  have hs := hSN z.toNat (by omega)
  have hs0 := hSK.2.2.2 z.toNat (by omega)
  refine lv_astore_n (lv' := [(3, .ref (ad 10 (z).toNat)), (0, .ref (ad 0 0)), (1, .int (iI (z))), (2, .int (iI (w)))]) hM.1 hM.2.1 dX3_order_5 rfl hl (by decide) rfl (fun ls hl => ?_)
  refine y_iload_n hM hl 3 rfl rfl dX3_order_6 ?_
  refine y_callS hM hC (c_checkProvider l hfl G b0 (ks, ad, T, P) (w) (by constructor <;> omega)) (va_cwS 1 hM.2.2.2.2 gX3_order_X3_checkProvider rfl rfl rfl (by decide +kernel) ⟨(Nat.le_of_ble_eq_true rfl), (Nat.le_of_ble_eq_true rfl)⟩) rfl hl.1 rfl (Nat.le_of_ble_eq_true rfl) dX3_order_7 ⟨(Nat.le_of_ble_eq_true rfl), (Nat.le_of_ble_eq_true rfl)⟩ (fun E ce q9 u1 H locs hx hC hce hcv hcl => by
      obtain ⟨x, rfl, hx, hu⟩ := hx; rw [hu] at hC; clear hu; try dsimp only at hx
      exact y_out hto hlk hC hce hcv hcl ⟨x, rfl, (by (try dsimp only); omega), rfl⟩ (Nat.le_of_ble_eq_true rfl) (Nat.le_of_ble_eq_true rfl)) (fun v u1 H locs hp hC => ?_)
  obtain ⟨rfl, h_7, hu⟩ := hp; rw [hu] at hC; clear hu
  try dsimp only at h_7
  refine W.eq (g2 := F0 m 10 ls []) rfl ?_
  refine y_iload_n hM hl 3 rfl rfl dX3_order_10 ?_
  refine y_aload_n hM hl 0 rfl rfl dX3_order_11 ?_
  refine y_getN hM hC hs0 rfl rfl (by decide +kernel) 0 0 ⟨by decide, rfl, rfl, rfl⟩ (by decide +kernel) rfl dX3_order_12 ?_
  refine y_icmp_ne hM (by constructor <;> omega) (by constructor <;> omega) (tgt := 28) dX3_order_15 (by decide) (fun c_15 => ?_) (fun c_15 => ?_)
  ·
    refine y_aload_n hM hl 0 rfl rfl dX3_order_28 ?_
    refine y_getN hM hC hs0 rfl rfl (by decide +kernel) 2 2 ⟨by decide, rfl, rfl, rfl⟩ (by decide +kernel) rfl dX3_order_29 ?_
    refine y_if_eq hM (by constructor <;> omega) (tgt := 45) dX3_order_32 (by decide) (fun c_32 => ?_) (fun c_32 => ?_)
    ·
      refine y_aload_n hM hl 1 rfl rfl dX3_order_45 ?_
      refine y_get hM hC hF.1 rfl rfl (by decide +kernel) 8 ⟨by decide, rfl, rfl, rfl⟩ (by decide +kernel) rfl dX3_order_46 ?_
      refine lv_istore (lv' := [(4, .int (iI (T 0 0 8))), (3, .ref (ad 10 (z).toNat)), (0, .ref (ad 0 0)), (1, .int (iI (z))), (2, .int (iI (w)))]) hM.1 hM.2.1 dX3_order_49 hl (by decide) rfl (fun ls hl => ?_)
      refine y_iload hM hl 0 rfl dX3_order_51 ?_
      refine y_iconst hM dX3_order_53 ?_
      refine y_bipush hM dX3_order_54 (by decide) ?_
      refine y_callS hM hC (c_isOutside l hfl G b0 (ks, ad, T, P) (T 0 0 8) (0) (29) (by constructor <;> omega) (by constructor <;> omega) (by constructor <;> omega)) (va_cwS 3 hM.2.2.2.2 gX3_order_X3_isOutside rfl rfl rfl (by decide +kernel) ⟨(Nat.le_of_ble_eq_true rfl), (Nat.le_of_ble_eq_true rfl)⟩) rfl hl.1 rfl (Nat.le_of_ble_eq_true rfl) dX3_order_56 ⟨(Nat.le_of_ble_eq_true rfl), (Nat.le_of_ble_eq_true rfl)⟩ (fun E ce q9 u1 H locs hx hC hce hcv hcl => hx.elim) (fun v u1 H locs hp hC => ?_)
      obtain ⟨r_56, rfl, h_56, hu⟩ := hp; rw [hu] at hC; clear hu
      try dsimp only at h_56
      refine W.eq (g2 := F0 m 59 ls [.int (iI (r_56))]) rfl ?_
      refine y_if_eq hM (by constructor <;> omega) (tgt := 72) dX3_order_59 (by decide) (fun c_59 => ?_) (fun c_59 => ?_)
      ·
        refine y_aload_n hM hl 2 rfl rfl dX3_order_72 ?_
        refine y_get hM hC hF.1 rfl rfl (by decide +kernel) 4 ⟨by decide, rfl, rfl, rfl⟩ (by decide +kernel) (congrArg (fun q => some (va_rf q)) hF.2.2.2.2.2.2.2.2.2.2) dX3_order_73 ?_
        refine W.eq (g2 := F0 m 76 ls [.ref (ad 5 0)]) rfl ?_
        refine y_iload hM hl 0 rfl dX3_order_76 ?_
        refine y_new hM hC (t := 11) (i := (T 0 0 8).toNat) hfr rfl (by decide +kernel) tyX0 tyX0_ok ⟨(by decide +kernel), (by decide +kernel), (by decide +kernel)⟩ (fs := [.int (iI 0), .int (iI 0), .int (iI 0), .int (iI 0), .int (iI 0), .int (iI 0), .int (iI 0), .long (lI 0), .long (lI 0), .long (lI 0)]) (fun j hj => by rcases (show j = 0 ∨ j = 1 ∨ j = 2 ∨ j = 3 ∨ j = 4 ∨ j = 5 ∨ j = 6 ∨ j = 7 ∨ j = 8 ∨ j = 9 by omega) with rfl | rfl | rfl | rfl | rfl | rfl | rfl | rfl | rfl | rfl <;> rfl) rfl ⟨(Nat.le_of_ble_eq_true rfl), (Nat.le_of_ble_eq_true rfl)⟩ dX3_order_78 (fun q1 H hC => ?_)
        obtain ⟨ad1, had1⟩ : ∃ a : AD, a = upA ad 11 (T 0 0 8).toNat q1 := ⟨_, rfl⟩
        rw [← had1] at hC
        have e1_0 : ad1 10 (z).toNat = ad 10 (z).toNat := by rw [had1, upA_ne (fun h => absurd h.1 (by decide))]
        have e1_1 : ad1 0 0 = ad 0 0 := by rw [had1, upA_ne (fun h => absurd h.1 (by decide))]
        have e1_2 : ad1 5 0 = ad 5 0 := by rw [had1, upA_ne (fun h => absurd h.1 (by decide))]
        have hl : lv_has ls 5 [(4, .int (iI (T 0 0 8))), (3, .ref (ad1 10 (z).toNat)), (0, .ref (ad1 0 0)), (1, .int (iI (z))), (2, .int (iI (w)))] := by rw [e1_0, e1_1]; exact hl
        rw [← had1]
        refine W.eq (g2 := F0 m 81 ls [.ref (ad1 11 (T 0 0 8).toNat), .int (iI (T 0 0 8)), .ref (ad1 5 0)]) (by rw [e1_2]; try rfl) ?_
        have hF1 : FI (ks ++ [(11, (T 0 0 8).toNat)]) ad1 (zrP P 11 (T 0 0 8).toNat) := by rw [had1]; exact FI_new (by decide) hF
        have hs1 : (10, z.toNat) ∈ (ks ++ [(11, (T 0 0 8).toNat)]) := List.mem_append_left _ (hSK.2.2.2 _ (by omega))
        refine lv_dup hM.1 hM.2.1 dX3_order_81 rfl ?_
        refine y_iload_n hM hl 3 rfl rfl dX3_order_82 ?_
        refine y_aload_n hM hl 1 rfl rfl dX3_order_83 ?_
        refine y_getN hM hC hs1 rfl rfl (by decide +kernel) 0 0 ⟨by decide, rfl, rfl, rfl⟩ (by decide +kernel) (congrArg (fun q => some (Value.int (iI q))) (show (zrT T 11 (T 0 0 8).toNat) 10 (z).toNat 0 = T 10 (z).toNat 0 from by simp [up, zrT])) dX3_order_84 ?_
        refine y_iload_n hM hl 4 rfl rfl dX3_order_87 ?_
        refine y_aload_n hM hl 2 rfl rfl dX3_order_88 ?_
        refine y_get hM hC hF1.1 rfl rfl (by decide +kernel) 5 ⟨by decide, rfl, rfl, rfl⟩ (by decide +kernel) (congrArg (fun q => some (Value.int (iI q))) (show (zrT T 11 (T 0 0 8).toNat) 0 0 5 = T 0 0 5 from by simp [up, zrT])) dX3_order_89 ?_
        refine y_callI hM hC (c_Order_init l hfl G b0 (ks ++ [(11, (T 0 0 8).toNat)]) ad1 (zrT T 11 (T 0 0 8).toNat) (zrP P 11 (T 0 0 8).toNat) (T 0 0 8).toNat (List.mem_append_right _ List.mem_cons_self) (z) (T 10 (z).toNat 0) (w) (T 0 0 5)) (cwI 4 hM.2.2.2.2 gX3_order_X0_init rfl rfl rfl (hM.2.2.2.2 (.initialized RX0) (by decide +kernel)) (hM.2.2.2.2 (.methodLink RX3 129 yX0_init) (by decide +kernel)) (hM.2.2.2.2 (.instanceMethod yX0_init) (by decide +kernel)) rfl (by decide +kernel) ⟨(Nat.le_of_ble_eq_true rfl), (Nat.le_of_ble_eq_true rfl)⟩) rfl hl.1 rfl (Nat.le_of_ble_eq_true rfl) dX3_order_92 ⟨(Nat.le_of_ble_eq_true rfl), (Nat.le_of_ble_eq_true rfl)⟩ (fun v u1 H locs hp hC => ?_)
        obtain ⟨rfl, h_92, hu⟩ := hp; rw [hu] at hC; clear hu
        try dsimp only at h_92
        refine W.eq (g2 := F0 m 95 ls [.ref (ad1 11 (T 0 0 8).toNat), .int (iI (T 0 0 8)), .ref (ad1 5 0)]) rfl ?_
        refine y_aast hM hC 4 hF1.2.2.2.2.2.1 (List.mem_append_right _ List.mem_cons_self) (fun _ _ => rfl) rfl rfl rfl ⟨by omega, by omega⟩ (by decide) dX3_order_95 (fun H locs hC => ?_)
        refine y_aload_n hM hl 2 rfl rfl dX3_order_96 ?_
        refine y_iload hM hl 0 rfl dX3_order_97 ?_
        refine y_iconst hM dX3_order_99 ?_
        refine y_iadd hM dX3_order_100 ?_
        refine y_put hM hC hF1.1 rfl rfl (by decide +kernel) tyX3 tyX3_ok nmX3 8 ⟨by decide, rfl, rfl, rfl, rfl⟩ (by decide +kernel) (ty := .int) (by decide +kernel) rfl rfl (Nat.le_of_ble_eq_true rfl) (T' := (up (oriT (zrT T 11 (T 0 0 8).toNat) (T 0 0 8).toNat (z) (T 10 (z).toNat 0) (w) (T 0 0 5)) 0 0 8 ((T 0 0 8) + (1)))) (P' := (upP (zrP P 11 (T 0 0 8).toNat) 5 0 ((T 0 0 8).toNat) (some (ad1 11 (T 0 0 8).toNat)))) (cF_up rfl) (fun _ _ h => up_ne h) (fun _ _ _ => rfl) dX3_order_101 (fun H locs hC => ?_)
        refine y_aload_n hM hl 1 rfl rfl dX3_order_104 ?_
        refine y_iconst hM dX3_order_105 ?_
        refine y_putN hM hC hs1 rfl rfl (by decide +kernel) tyX2 tyX2_ok nmX2 2 2 ⟨by decide, rfl, rfl, rfl, rfl⟩ (by decide +kernel) (ty := .boolean) (by decide +kernel) rfl rfl (Nat.le_of_ble_eq_true rfl) (T' := (up (up (oriT (zrT T 11 (T 0 0 8).toNat) (T 0 0 8).toNat (z) (T 10 (z).toNat 0) (w) (T 0 0 5)) 0 0 8 ((T 0 0 8) + (1))) 10 (z).toNat 2 (1))) (P' := (upP (zrP P 11 (T 0 0 8).toNat) 5 0 ((T 0 0 8).toNat) (some (ad1 11 (T 0 0 8).toNat)))) (cF_up rfl) (fun _ _ h => up_ne h) (fun _ _ _ => rfl) dX3_order_106 (fun H locs hC => ?_)
        refine y_iload hM hl 0 rfl dX3_order_109 ?_
        exact y_iret hM hr hlk hC ⟨_, q1, rfl, (by omega), (by unfold ordT; rw [had1, upA_s])⟩ (Nat.le_of_ble_eq_true rfl) (Nat.le_of_ble_eq_true rfl) dX3_order_111
      ·
        exact y_throw hM hto hfl hlk hl.1 hC caS (text := "no more orders") (by decide +kernel) ngS goS ⟨(by decide +kernel), (by decide +kernel)⟩ (by decide +kernel) dX3_order_62 dX3_order_65 dX3_order_66 dX3_order_68 dX3_order_71 ⟨(Nat.le_of_ble_eq_true rfl), (Nat.le_of_ble_eq_true rfl), (Nat.le_of_ble_eq_true rfl), (Nat.le_of_ble_eq_true rfl)⟩ ⟨2, rfl, (by (try dsimp only); omega), rfl⟩ (Nat.le_of_ble_eq_true rfl) (Nat.le_of_ble_eq_true rfl)
    ·
      exact y_throw hM hto hfl hlk hl.1 hC caS (text := "an order of the saver goes on") (by decide +kernel) ngS goS ⟨(by decide +kernel), (by decide +kernel)⟩ (by decide +kernel) dX3_order_35 dX3_order_38 dX3_order_39 dX3_order_41 dX3_order_44 ⟨(Nat.le_of_ble_eq_true rfl), (Nat.le_of_ble_eq_true rfl), (Nat.le_of_ble_eq_true rfl), (Nat.le_of_ble_eq_true rfl)⟩ ⟨2, rfl, (by (try dsimp only); omega), rfl⟩ (Nat.le_of_ble_eq_true rfl) (Nat.le_of_ble_eq_true rfl)
  ·
    exact y_throw hM hto hfl hlk hl.1 hC caA (text := "the saver is with that provider") (by decide +kernel) ngA goA ⟨(by decide +kernel), (by decide +kernel)⟩ (by decide +kernel) dX3_order_18 dX3_order_21 dX3_order_22 dX3_order_24 dX3_order_27 ⟨(Nat.le_of_ble_eq_true rfl), (Nat.le_of_ble_eq_true rfl), (Nat.le_of_ble_eq_true rfl), (Nat.le_of_ble_eq_true rfl)⟩ ⟨1, rfl, (by (try dsimp only); omega), rfl⟩ (Nat.le_of_ble_eq_true rfl) (Nat.le_of_ble_eq_true rfl)
