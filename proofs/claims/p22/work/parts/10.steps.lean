set_option maxRecDepth 100000 in
set_option maxHeartbeats 8000000 in
theorem c_buy (l : Launch) (hfl : l.stackTraces = false) (G : GG) (b0 : Nat) (ks : KK) (ad : AD) (T : TT) (P : PP) (k : Nat) (hkn : (k : Int) < T 0 0 8) (lb f : Int) (hlb : 0 ≤ lb ∧ lb + T 11 k 4 ≤ T 0 0 5) (hst : T 11 k 3 = 2) (hf : f = 0 ∨ f = 1) (hF : FI ks ad P) (hRK : RK ks ad P) (hRN : RN T) (hDN : DN T) (hSK : SK ks ad T P) (hSN : SN T) (hOK : OK1 ks ad T P) (hON : ON T)  : vx_Met l yX3_buy wsX3_buy (rmX 8 5 30 130) (va_Pc [.ref (ad 0 0), .ref (ad 11 k), .int (iI (lb)), .int (iI (f))] (Ok G b0 (ks, ad, T, P))) (Qr (pV (gotT T k f + lakT T k lb f ≤ 100000000) (ks, ad, buyT T k lb f, P)) G b0) (Xr (pX (fun x => x = 2 ∧ 100000000 < gotT T k f + lakT T k lb f) (ks, ad, T, P)) G b0) 5 30 (Wx b0) := by
  refine vx_ofW (cc := cX3_buy) (maxL := 11) (ret := none) (by decide +kernel) rfl ?_
  intro p e s m args below meth c s₁ B hml hto hv
  obtain ⟨rfl, hok⟩ := hv
  have hM : CallFix p m c cX3_buy 11 s _ wsX3_buy RX3 := ⟨B.exec, B.bytes, hml, findClass_of_methodNamed B.named, atoms_spec (ws := wsX3_buy) B.pre⟩
  have hr := B.returns
  have hlk := B.notSynchronized
  have hC := hok.cur
  have hl := lv_entry ([.ref (ad 0 0), .ref (ad 11 k), .int (iI (lb)), .int (iI (f))]) (n := 11) (Nat.le_of_ble_eq_true rfl)
  rw [lg_entry_eq]
  generalize (lg_sl ([.ref (ad 0 0), .ref (ad 11 k), .int (iI (lb)), .int (iI (f))]) ++ List.replicate (11 - (lg_sl ([.ref (ad 0 0), .ref (ad 11 k), .int (iI (lb)), .int (iI (f))])).length) Slot.unset).toArray = ls at hl ⊢
  have hl : lv_has ls 11 [(0, .ref (ad 0 0)), (1, .ref (ad 11 k)), (2, .int (iI (lb))), (3, .int (iI (f)))] := hl
  obtain ⟨hk11, hpm, hm0, hm1⟩ := hOK.2.2.2 k hkn
  have ho := hON k hkn
  have hs := hSN (mvT T k) (by unfold mvT; omega)
  have hk10 := hSK.2.2.2 (mvT T k) (by unfold mvT; omega)
  obtain ⟨hd0, hd1, hd2, hd3⟩ := id hDN
  have hs10 := hSK.2.1
  obtain ⟨la, hla⟩ : ∃ la : Int, la = lakT T k lb f := ⟨_, rfl⟩
  have hlan := lakT_nn T k lb f
  have hlal := lakT_le (k := k) hRN hDN (by omega) (by omega) (by omega) (by omega) lb f
  have hgn := gotT_nn (k := k) hRN hDN (by omega) (by omega) f
  have hgl := gotT_le (k := k) hRN hDN (by omega) (by omega) f
  have htl := timT_in (k := k) hRN (by omega) (by omega) (by omega) (T 11 k 5 + lb)
  refine y_aload_n hM hl 0 rfl rfl dX3_buy_0 ?_
  refine y_aload_n hM hl 1 rfl rfl dX3_buy_1 ?_
  refine y_getN hM hC hk11 rfl rfl (by decide +kernel) 0 0 ⟨by decide, rfl, rfl, rfl⟩ (by decide +kernel) rfl dX3_buy_2 ?_
  refine y_callV hM hC (c_saverAt l hfl G b0 ks ad T P (T 11 k 0) (by constructor <;> omega) hF hSK) (cwV 1 hM.2.2.2.2 gX3_buy_X3_saverAt rfl rfl rfl (by decide +kernel) ⟨(Nat.le_of_ble_eq_true rfl), (Nat.le_of_ble_eq_true rfl)⟩) (y_recv hC hF.1 rfl rfl) rfl hl.1 rfl (Nat.le_of_ble_eq_true rfl) dX3_buy_5 ⟨(Nat.le_of_ble_eq_true rfl), (Nat.le_of_ble_eq_true rfl)⟩ (fun E ce q9 u1 H locs hx hC hce hcv hcl => by
      obtain ⟨x, rfl, hx, hu⟩ := hx; rw [hu] at hC; clear hu; try dsimp only at hx
      exact False.elim (by omega)) (fun v u1 H locs hp hC => ?_)
  obtain ⟨rfl, h_5, hu⟩ := hp; rw [hu] at hC; clear hu
  try dsimp only at h_5
  refine W.eq (g2 := F0 m 8 ls [.ref (ad 10 (mvT T k))]) rfl ?_
  refine lv_astore (lv' := [(4, .ref (ad 10 (mvT T k))), (0, .ref (ad 0 0)), (1, .ref (ad 11 k)), (2, .int (iI (lb))), (3, .int (iI (f)))]) hM.1 hM.2.1 dX3_buy_8 hl (by decide) rfl (fun ls hl => ?_)
  refine y_aload_n hM hl 1 rfl rfl dX3_buy_10 ?_
  refine y_aload_n hM hl 2 rfl rfl dX3_buy_11 ?_
  refine y_getN hM hC hk11 rfl rfl (by decide +kernel) 2 0 ⟨by decide, rfl, rfl, rfl⟩ (by decide +kernel) rfl dX3_buy_12 ?_
  refine y_callV hM hC (c_priceNow l hfl G b0 ks ad T P (T 11 k 2) ⟨by omega, by omega⟩ hF hRK hRN hDN) (cwV 1 hM.2.2.2.2 gX3_buy_X3_priceNow rfl rfl rfl (by decide +kernel) ⟨(Nat.le_of_ble_eq_true rfl), (Nat.le_of_ble_eq_true rfl)⟩) (y_recv hC hF.1 rfl rfl) rfl hl.1 rfl (Nat.le_of_ble_eq_true rfl) dX3_buy_15 ⟨(Nat.le_of_ble_eq_true rfl), (Nat.le_of_ble_eq_true rfl)⟩ (fun E ce q9 u1 H locs hx hC hce hcv hcl => hx.elim) (fun v u1 H locs hp hC => ?_)
  obtain ⟨r_15, rfl, h_15, hu⟩ := hp; rw [hu] at hC; clear hu
  try dsimp only at h_15
  refine W.eq (g2 := F0 m 18 ls [.int (iI (r_15))]) rfl ?_
  have hv_15 := valT_in hRN (p := (T 11 k 2).toNat) (by omega) (T 0 0 5)
  refine lv_istore (lv' := [(5, .int (iI (r_15))), (4, .ref (ad 10 (mvT T k))), (0, .ref (ad 0 0)), (1, .ref (ad 11 k)), (2, .int (iI (lb))), (3, .int (iI (f)))]) hM.1 hM.2.1 dX3_buy_18 hl (by decide) rfl (fun ls hl => ?_)
  refine y_aload_n hM hl 3 rfl rfl dX3_buy_20 ?_
  refine y_getN hM hC hk11 rfl rfl (by decide +kernel) 8 1 ⟨by decide, rfl, rfl, rfl⟩ (by decide +kernel) rfl dX3_buy_21 ?_
  refine y_iload_n hM hl 5 rfl rfl dX3_buy_24 ?_
  refine y_if_eq hM (by constructor <;> omega) (tgt := 35) dX3_buy_25 (by decide) (fun c_25 => ?_) (fun c_25 => ?_)
  ·
    refine y_iload hM hl 0 rfl dX3_buy_35 ?_
    refine y_callS hM hC (c_thousandthsFor l hfl G b0 (ks, ad, T, P) (T 11 k 8) (r_15) ⟨by omega, by omega⟩ ⟨by omega, by omega⟩) (va_cwS 2 hM.2.2.2.2 gX3_buy_X3_thousandthsFor rfl rfl rfl (by decide +kernel) ⟨(Nat.le_of_ble_eq_true rfl), (Nat.le_of_ble_eq_true rfl)⟩) rfl hl.1 rfl (Nat.le_of_ble_eq_true rfl) dX3_buy_37 ⟨(Nat.le_of_ble_eq_true rfl), (Nat.le_of_ble_eq_true rfl)⟩ (fun E ce q9 u1 H locs hx hC hce hcv hcl => hx.elim) (fun v u1 H locs hp hC => ?_)
    obtain ⟨r_37, rfl, h_37, hu⟩ := hp; rw [hu] at hC; clear hu
    try dsimp only at h_37
    refine W.eq (g2 := F0 m 40 ls [.long (lI (r_37))]) rfl ?_
    have hg : r_37 = gotT T k f := by
      rw [h_37, h_15]
      unfold gotT prF
      rw [if_pos c_25]
    refine lv_lstore (lv' := [(6, .long (lI (r_37))), (5, .int (iI (r_15))), (4, .ref (ad 10 (mvT T k))), (0, .ref (ad 0 0)), (1, .ref (ad 11 k)), (2, .int (iI (lb))), (3, .int (iI (f)))]) hM.1 hM.2.1 dX3_buy_40 hl (by decide) rfl (fun ls hl => ?_)
    refine y_aload_n hM hl 4 rfl rfl dX3_buy_42 ?_
    refine y_getN hM hC hk11 rfl rfl (by decide +kernel) 5 0 ⟨by decide, rfl, rfl, rfl⟩ (by decide +kernel) rfl dX3_buy_43 ?_
    refine y_iload_n hM hl 5 rfl rfl dX3_buy_46 ?_
    refine y_iadd hM dX3_buy_47 ?_
    refine lv_istore (lv' := [(8, .int (iI ((T 11 k 5) + (lb)))), (6, .long (lI (r_37))), (5, .int (iI (r_15))), (4, .ref (ad 10 (mvT T k))), (0, .ref (ad 0 0)), (1, .ref (ad 11 k)), (2, .int (iI (lb))), (3, .int (iI (f)))]) hM.1 hM.2.1 dX3_buy_48 hl (by decide) rfl (fun ls hl => ?_)
    refine y_lconst hM 0 (by decide) dX3_buy_50 ?_
    refine lv_lstore (lv' := [(9, .long (lI (0))), (8, .int (iI ((T 11 k 5) + (lb)))), (6, .long (lI (r_37))), (5, .int (iI (r_15))), (4, .ref (ad 10 (mvT T k))), (0, .ref (ad 0 0)), (1, .ref (ad 11 k)), (2, .int (iI (lb))), (3, .int (iI (f)))]) hM.1 hM.2.1 dX3_buy_51 hl (by decide) rfl (fun ls hl => ?_)
    refine y_iload hM hl 1 rfl dX3_buy_53 ?_
    refine y_if_le hM (by constructor <;> omega) (tgt := 74) dX3_buy_55 (by decide) (fun c_55 => ?_) (fun c_55 => ?_)
    ·
      have hla0 : la = 0 := by
        rw [hla]
        unfold lakT
        rw [if_neg (show ¬ 0 < allL T k lb by unfold allL; omega)]
      subst hla0
      refine y_lload hM hl 2 rfl dX3_buy_74 ?_
      refine y_lload hM hl 0 rfl dX3_buy_76 ?_
      refine y_ladd hM dX3_buy_78 ?_
      refine y_callS hM hC (c_checkHolding l hfl G b0 (ks, ad, T, P) ((r_37) + (0)) (by constructor <;> omega)) (va_cwS 1 hM.2.2.2.2 gX3_buy_X3_checkHolding rfl rfl rfl (by decide +kernel) ⟨(Nat.le_of_ble_eq_true rfl), (Nat.le_of_ble_eq_true rfl)⟩) rfl hl.1 rfl (Nat.le_of_ble_eq_true rfl) dX3_buy_79 ⟨(Nat.le_of_ble_eq_true rfl), (Nat.le_of_ble_eq_true rfl)⟩ (fun E ce q9 u1 H locs hx hC hce hcv hcl => by
          obtain ⟨x, rfl, hx, hu⟩ := hx; rw [hu] at hC; clear hu; try dsimp only at hx
          exact y_out hto hlk hC hce hcv hcl ⟨x, rfl, (by (try dsimp only); omega), rfl⟩ (Nat.le_of_ble_eq_true rfl) (Nat.le_of_ble_eq_true rfl)) (fun v u1 H locs hp hC => ?_)
      obtain ⟨rfl, h_79, hu⟩ := hp; rw [hu] at hC; clear hu
      try dsimp only at h_79
      refine W.eq (g2 := F0 m 82 ls []) rfl ?_
      refine y_aload_n hM hl 5 rfl rfl dX3_buy_82 ?_
      refine y_aload_n hM hl 6 rfl rfl dX3_buy_83 ?_
      refine y_lload hM hl 0 rfl dX3_buy_84 ?_
      refine y_iload hM hl 3 rfl dX3_buy_86 ?_
      refine y_callS hM hC (c_costOf l hfl G b0 (ks, ad, T, P) (0) (r_15) ⟨by omega, by omega⟩ ⟨by omega, by omega⟩) (va_cwS 2 hM.2.2.2.2 gX3_buy_X3_costOf rfl rfl rfl (by decide +kernel) ⟨(Nat.le_of_ble_eq_true rfl), (Nat.le_of_ble_eq_true rfl)⟩) rfl hl.1 rfl (Nat.le_of_ble_eq_true rfl) dX3_buy_88 ⟨(Nat.le_of_ble_eq_true rfl), (Nat.le_of_ble_eq_true rfl)⟩ (fun E ce q9 u1 H locs hx hC hce hcv hcl => hx.elim) (fun v u1 H locs hp hC => ?_)
      obtain ⟨r_88, rfl, h_88, hu⟩ := hp; rw [hu] at hC; clear hu
      try dsimp only at h_88
      refine W.eq (g2 := F0 m 91 ls [.long (lI (r_88)), .ref (ad 11 k), .ref (ad 0 0)]) rfl ?_
      have hc_88 := coF_in (u := 0) (pr := r_15) (by omega) (by omega)
      refine y_iload hM hl 1 rfl dX3_buy_91 ?_
      refine y_callV hM hC (c_share l hfl G b0 ks ad T P k hkn (r_88) ((T 11 k 5) + (lb)) ⟨by omega, by omega⟩ (by constructor <;> omega) hF hRK hRN hDN hSK hSN hOK hON) (cwV 3 hM.2.2.2.2 gX3_buy_X3_shareCost rfl rfl rfl (by decide +kernel) ⟨(Nat.le_of_ble_eq_true rfl), (Nat.le_of_ble_eq_true rfl)⟩) (y_recv hC hF.1 rfl rfl) rfl hl.1 rfl (Nat.le_of_ble_eq_true rfl) dX3_buy_93 ⟨(Nat.le_of_ble_eq_true rfl), (Nat.le_of_ble_eq_true rfl)⟩ (fun E ce q9 u1 H locs hx hC hce hcv hcl => hx.elim) (fun v u1 H locs hp hC => ?_)
      obtain ⟨rfl, h_93, hu⟩ := hp; rw [hu] at hC; clear hu
      try dsimp only at h_93
      refine W.eq (g2 := F0 m 96 ls []) rfl ?_
      refine y_aload_n hM hl 6 rfl rfl dX3_buy_96 ?_
      refine y_lload hM hl 0 rfl dX3_buy_97 ?_
      refine y_putN hM hC hk11 rfl rfl (by decide +kernel) tyX0 tyX0_ok nmX0 9 1 ⟨by decide, rfl, rfl, rfl, rfl⟩ (by decide +kernel) (ty := .long) (by decide +kernel) rfl rfl (Nat.le_of_ble_eq_true rfl) (T' := (up (shaT T k (r_88) ((T 11 k 5) + (lb))) 11 k 9 (0))) (P' := P) (cF_up rfl) (fun _ _ h => up_ne h) (fun _ _ _ => rfl) dX3_buy_99 (fun H locs hC => ?_)
      refine y_aload hM hl 4 rfl dX3_buy_102 ?_
      refine y_aload_n hM hl 6 rfl rfl dX3_buy_104 ?_
      refine y_getN hM hC hk11 rfl rfl (by decide +kernel) 2 0 ⟨by decide, rfl, rfl, rfl⟩ (by decide +kernel) (congrArg (fun q => some (Value.int (iI q))) (show (up (shaT T k (r_88) ((T 11 k 5) + (lb))) 11 k 9 (0)) 11 k 2 = T 11 k 2 from (by rw [up_row, uR, if_neg (by decide), shaT_at k (by decide)]))) dX3_buy_105 ?_
      refine y_lload hM hl 2 rfl dX3_buy_108 ?_
      refine y_lload hM hl 0 rfl dX3_buy_110 ?_
      refine y_ladd hM dX3_buy_112 ?_
      refine y_callV hM hC (c_arrive l hfl G b0 ks ad (up (shaT T k (r_88) ((T 11 k 5) + (lb))) 11 k 9 (0)) P (mvT T k) hk10 (T 11 k 2) ((r_37) + (0))) (cwV 2 hM.2.2.2.2 gX3_buy_X2_arrive rfl rfl rfl (by decide +kernel) ⟨(Nat.le_of_ble_eq_true rfl), (Nat.le_of_ble_eq_true rfl)⟩) (y_recv hC hk10 rfl rfl) rfl hl.1 rfl (Nat.le_of_ble_eq_true rfl) dX3_buy_113 ⟨(Nat.le_of_ble_eq_true rfl), (Nat.le_of_ble_eq_true rfl)⟩ (fun E ce q9 u1 H locs hx hC hce hcv hcl => hx.elim) (fun v u1 H locs hp hC => ?_)
      obtain ⟨rfl, h_113, hu⟩ := hp; rw [hu] at hC; clear hu
      try dsimp only at h_113
      refine W.eq (g2 := F0 m 116 ls []) rfl ?_
      exact y_vret hM hr hlk hC ⟨rfl, (by omega), (by unfold buyT; rw [← hla, ← hg, h_88, ← h_15]; rfl)⟩ (Nat.le_of_ble_eq_true rfl) (Nat.le_of_ble_eq_true rfl) dX3_buy_116
    ·
      refine y_lconst hM 0 (by decide) dX3_buy_58 ?_
      refine y_aload_n hM hl 5 rfl rfl dX3_buy_59 ?_
      refine y_aload_n hM hl 6 rfl rfl dX3_buy_60 ?_
      refine y_iload hM hl 1 rfl dX3_buy_61 ?_
      refine y_callV hM hC (c_timely l hfl G b0 ks ad T P k hkn ((T 11 k 5) + (lb)) ⟨by omega, by omega⟩ (by omega) hF hRK hRN hDN hSK hSN hOK hON) (cwV 2 hM.2.2.2.2 gX3_buy_X3_timelyThousandths rfl rfl rfl (by decide +kernel) ⟨(Nat.le_of_ble_eq_true rfl), (Nat.le_of_ble_eq_true rfl)⟩) (y_recv hC hF.1 rfl rfl) rfl hl.1 rfl (Nat.le_of_ble_eq_true rfl) dX3_buy_63 ⟨(Nat.le_of_ble_eq_true rfl), (Nat.le_of_ble_eq_true rfl)⟩ (fun E ce q9 u1 H locs hx hC hce hcv hcl => hx.elim) (fun v u1 H locs hp hC => ?_)
      obtain ⟨r_63, rfl, h_63, hu⟩ := hp; rw [hu] at hC; clear hu
      try dsimp only at h_63
      refine W.eq (g2 := F0 m 66 ls [.long (lI (r_63)), .long (lI (0))]) rfl ?_
      refine y_lload hM hl 2 rfl dX3_buy_66 ?_
      refine y_lsub hM dX3_buy_68 ?_
      refine va_mmax_long hM.1 hM.2.1 (by rw [hM.2.2.1]; exact hl.1.symm) hM.2.2.2.1 (hM.2.2.2.2 (.methodLink RX3 198 Lib.MathLoose.max_long.x) (by decide +kernel)) (hM.2.2.2.2 (.static Lib.MathLoose.max_long.x) (by decide +kernel)) (hM.2.2.2.2 (.initialized "java/lang/Math") (by decide +kernel)) (hM.2.2.2.2 (.code Lib.MathLoose.max_long.x Lib.MathLoose.max_long.code 4 (some .long)) (by decide +kernel)) (Nat.le_of_ble_eq_true rfl) (Nat.le_of_ble_eq_true rfl) (Nat.le_of_ble_eq_true rfl) (Nat.le_of_ble_eq_true rfl) dX3_buy_69 ?_
      rw [show (if lI ((r_63) - (r_37)) < lI (0) then lI (0) else lI ((r_63) - (r_37))) = lI (la) from (by
    simp only [lI_lt (a := r_63 - r_37) (b := 0) ⟨by omega, by omega⟩ ⟨by omega, by omega⟩]
    rw [hla]
    unfold lakT
    rw [if_pos (show 0 < allL T k lb by unfold allL; omega), show timT T k (allL T k lb) = r_63 from h_63.symm, ← hg]
    split <;> split <;> first | rfl | (exact False.elim (by omega)) | (exact congrArg lI (by omega)))]
      refine lv_lstore (lv' := [(9, .long (lI (la))), (8, .int (iI ((T 11 k 5) + (lb)))), (6, .long (lI (r_37))), (5, .int (iI (r_15))), (4, .ref (ad 10 (mvT T k))), (0, .ref (ad 0 0)), (1, .ref (ad 11 k)), (2, .int (iI (lb))), (3, .int (iI (f)))]) hM.1 hM.2.1 dX3_buy_72 hl (by decide) rfl (fun ls hl => ?_)
      refine y_lload hM hl 2 rfl dX3_buy_74 ?_
      refine y_lload hM hl 0 rfl dX3_buy_76 ?_
      refine y_ladd hM dX3_buy_78 ?_
      refine y_callS hM hC (c_checkHolding l hfl G b0 (ks, ad, T, P) ((r_37) + (la)) (by constructor <;> omega)) (va_cwS 1 hM.2.2.2.2 gX3_buy_X3_checkHolding rfl rfl rfl (by decide +kernel) ⟨(Nat.le_of_ble_eq_true rfl), (Nat.le_of_ble_eq_true rfl)⟩) rfl hl.1 rfl (Nat.le_of_ble_eq_true rfl) dX3_buy_79 ⟨(Nat.le_of_ble_eq_true rfl), (Nat.le_of_ble_eq_true rfl)⟩ (fun E ce q9 u1 H locs hx hC hce hcv hcl => by
          obtain ⟨x, rfl, hx, hu⟩ := hx; rw [hu] at hC; clear hu; try dsimp only at hx
          exact y_out hto hlk hC hce hcv hcl ⟨x, rfl, (by (try dsimp only); omega), rfl⟩ (Nat.le_of_ble_eq_true rfl) (Nat.le_of_ble_eq_true rfl)) (fun v u1 H locs hp hC => ?_)
      obtain ⟨rfl, h_79, hu⟩ := hp; rw [hu] at hC; clear hu
      try dsimp only at h_79
      refine W.eq (g2 := F0 m 82 ls []) rfl ?_
      refine y_aload_n hM hl 5 rfl rfl dX3_buy_82 ?_
      refine y_aload_n hM hl 6 rfl rfl dX3_buy_83 ?_
      refine y_lload hM hl 0 rfl dX3_buy_84 ?_
      refine y_iload hM hl 3 rfl dX3_buy_86 ?_
      refine y_callS hM hC (c_costOf l hfl G b0 (ks, ad, T, P) (la) (r_15) ⟨by omega, by omega⟩ ⟨by omega, by omega⟩) (va_cwS 2 hM.2.2.2.2 gX3_buy_X3_costOf rfl rfl rfl (by decide +kernel) ⟨(Nat.le_of_ble_eq_true rfl), (Nat.le_of_ble_eq_true rfl)⟩) rfl hl.1 rfl (Nat.le_of_ble_eq_true rfl) dX3_buy_88 ⟨(Nat.le_of_ble_eq_true rfl), (Nat.le_of_ble_eq_true rfl)⟩ (fun E ce q9 u1 H locs hx hC hce hcv hcl => hx.elim) (fun v u1 H locs hp hC => ?_)
      obtain ⟨r_88, rfl, h_88, hu⟩ := hp; rw [hu] at hC; clear hu
      try dsimp only at h_88
      refine W.eq (g2 := F0 m 91 ls [.long (lI (r_88)), .ref (ad 11 k), .ref (ad 0 0)]) rfl ?_
      have hc_88 := coF_in (u := la) (pr := r_15) (by omega) (by omega)
      refine y_iload hM hl 1 rfl dX3_buy_91 ?_
      refine y_callV hM hC (c_share l hfl G b0 ks ad T P k hkn (r_88) ((T 11 k 5) + (lb)) ⟨by omega, by omega⟩ (by constructor <;> omega) hF hRK hRN hDN hSK hSN hOK hON) (cwV 3 hM.2.2.2.2 gX3_buy_X3_shareCost rfl rfl rfl (by decide +kernel) ⟨(Nat.le_of_ble_eq_true rfl), (Nat.le_of_ble_eq_true rfl)⟩) (y_recv hC hF.1 rfl rfl) rfl hl.1 rfl (Nat.le_of_ble_eq_true rfl) dX3_buy_93 ⟨(Nat.le_of_ble_eq_true rfl), (Nat.le_of_ble_eq_true rfl)⟩ (fun E ce q9 u1 H locs hx hC hce hcv hcl => hx.elim) (fun v u1 H locs hp hC => ?_)
      obtain ⟨rfl, h_93, hu⟩ := hp; rw [hu] at hC; clear hu
      try dsimp only at h_93
      refine W.eq (g2 := F0 m 96 ls []) rfl ?_
      refine y_aload_n hM hl 6 rfl rfl dX3_buy_96 ?_
      refine y_lload hM hl 0 rfl dX3_buy_97 ?_
      refine y_putN hM hC hk11 rfl rfl (by decide +kernel) tyX0 tyX0_ok nmX0 9 1 ⟨by decide, rfl, rfl, rfl, rfl⟩ (by decide +kernel) (ty := .long) (by decide +kernel) rfl rfl (Nat.le_of_ble_eq_true rfl) (T' := (up (shaT T k (r_88) ((T 11 k 5) + (lb))) 11 k 9 (la))) (P' := P) (cF_up rfl) (fun _ _ h => up_ne h) (fun _ _ _ => rfl) dX3_buy_99 (fun H locs hC => ?_)
      refine y_aload hM hl 4 rfl dX3_buy_102 ?_
      refine y_aload_n hM hl 6 rfl rfl dX3_buy_104 ?_
      refine y_getN hM hC hk11 rfl rfl (by decide +kernel) 2 0 ⟨by decide, rfl, rfl, rfl⟩ (by decide +kernel) (congrArg (fun q => some (Value.int (iI q))) (show (up (shaT T k (r_88) ((T 11 k 5) + (lb))) 11 k 9 (la)) 11 k 2 = T 11 k 2 from (by rw [up_row, uR, if_neg (by decide), shaT_at k (by decide)]))) dX3_buy_105 ?_
      refine y_lload hM hl 2 rfl dX3_buy_108 ?_
      refine y_lload hM hl 0 rfl dX3_buy_110 ?_
      refine y_ladd hM dX3_buy_112 ?_
      refine y_callV hM hC (c_arrive l hfl G b0 ks ad (up (shaT T k (r_88) ((T 11 k 5) + (lb))) 11 k 9 (la)) P (mvT T k) hk10 (T 11 k 2) ((r_37) + (la))) (cwV 2 hM.2.2.2.2 gX3_buy_X2_arrive rfl rfl rfl (by decide +kernel) ⟨(Nat.le_of_ble_eq_true rfl), (Nat.le_of_ble_eq_true rfl)⟩) (y_recv hC hk10 rfl rfl) rfl hl.1 rfl (Nat.le_of_ble_eq_true rfl) dX3_buy_113 ⟨(Nat.le_of_ble_eq_true rfl), (Nat.le_of_ble_eq_true rfl)⟩ (fun E ce q9 u1 H locs hx hC hce hcv hcl => hx.elim) (fun v u1 H locs hp hC => ?_)
      obtain ⟨rfl, h_113, hu⟩ := hp; rw [hu] at hC; clear hu
      try dsimp only at h_113
      refine W.eq (g2 := F0 m 116 ls []) rfl ?_
      exact y_vret hM hr hlk hC ⟨rfl, (by omega), (by unfold buyT; rw [← hla, ← hg, h_88, ← h_15]; rfl)⟩ (Nat.le_of_ble_eq_true rfl) (Nat.le_of_ble_eq_true rfl) dX3_buy_116
  ·
    refine y_aload_n hM hl 2 rfl rfl dX3_buy_28 ?_
    refine y_get hM hC hF.1 rfl rfl (by decide +kernel) 6 ⟨by decide, rfl, rfl, rfl⟩ (by decide +kernel) rfl dX3_buy_29 ?_
    refine lv_goto (tgt := 37) hM.1 hM.2.1 dX3_buy_32 (by decide) ?_
    refine y_callS hM hC (c_thousandthsFor l hfl G b0 (ks, ad, T, P) (T 11 k 8) (T 0 0 6) ⟨by omega, by omega⟩ ⟨by omega, by omega⟩) (va_cwS 2 hM.2.2.2.2 gX3_buy_X3_thousandthsFor rfl rfl rfl (by decide +kernel) ⟨(Nat.le_of_ble_eq_true rfl), (Nat.le_of_ble_eq_true rfl)⟩) rfl hl.1 rfl (Nat.le_of_ble_eq_true rfl) dX3_buy_37 ⟨(Nat.le_of_ble_eq_true rfl), (Nat.le_of_ble_eq_true rfl)⟩ (fun E ce q9 u1 H locs hx hC hce hcv hcl => hx.elim) (fun v u1 H locs hp hC => ?_)
    obtain ⟨r_37, rfl, h_37, hu⟩ := hp; rw [hu] at hC; clear hu
    try dsimp only at h_37
    refine W.eq (g2 := F0 m 40 ls [.long (lI (r_37))]) rfl ?_
    have hg : r_37 = gotT T k f := by
      rw [h_37]
      unfold gotT prF
      rw [if_neg c_25]
    refine lv_lstore (lv' := [(6, .long (lI (r_37))), (5, .int (iI (r_15))), (4, .ref (ad 10 (mvT T k))), (0, .ref (ad 0 0)), (1, .ref (ad 11 k)), (2, .int (iI (lb))), (3, .int (iI (f)))]) hM.1 hM.2.1 dX3_buy_40 hl (by decide) rfl (fun ls hl => ?_)
    refine y_aload_n hM hl 4 rfl rfl dX3_buy_42 ?_
    refine y_getN hM hC hk11 rfl rfl (by decide +kernel) 5 0 ⟨by decide, rfl, rfl, rfl⟩ (by decide +kernel) rfl dX3_buy_43 ?_
    refine y_iload_n hM hl 5 rfl rfl dX3_buy_46 ?_
    refine y_iadd hM dX3_buy_47 ?_
    refine lv_istore (lv' := [(8, .int (iI ((T 11 k 5) + (lb)))), (6, .long (lI (r_37))), (5, .int (iI (r_15))), (4, .ref (ad 10 (mvT T k))), (0, .ref (ad 0 0)), (1, .ref (ad 11 k)), (2, .int (iI (lb))), (3, .int (iI (f)))]) hM.1 hM.2.1 dX3_buy_48 hl (by decide) rfl (fun ls hl => ?_)
    refine y_lconst hM 0 (by decide) dX3_buy_50 ?_
    refine lv_lstore (lv' := [(9, .long (lI (0))), (8, .int (iI ((T 11 k 5) + (lb)))), (6, .long (lI (r_37))), (5, .int (iI (r_15))), (4, .ref (ad 10 (mvT T k))), (0, .ref (ad 0 0)), (1, .ref (ad 11 k)), (2, .int (iI (lb))), (3, .int (iI (f)))]) hM.1 hM.2.1 dX3_buy_51 hl (by decide) rfl (fun ls hl => ?_)
    refine y_iload hM hl 1 rfl dX3_buy_53 ?_
    refine y_if_le hM (by constructor <;> omega) (tgt := 74) dX3_buy_55 (by decide) (fun c_55 => ?_) (fun c_55 => ?_)
    ·
      have hla0 : la = 0 := by
        rw [hla]
        unfold lakT
        rw [if_neg (show ¬ 0 < allL T k lb by unfold allL; omega)]
      subst hla0
      refine y_lload hM hl 2 rfl dX3_buy_74 ?_
      refine y_lload hM hl 0 rfl dX3_buy_76 ?_
      refine y_ladd hM dX3_buy_78 ?_
      refine y_callS hM hC (c_checkHolding l hfl G b0 (ks, ad, T, P) ((r_37) + (0)) (by constructor <;> omega)) (va_cwS 1 hM.2.2.2.2 gX3_buy_X3_checkHolding rfl rfl rfl (by decide +kernel) ⟨(Nat.le_of_ble_eq_true rfl), (Nat.le_of_ble_eq_true rfl)⟩) rfl hl.1 rfl (Nat.le_of_ble_eq_true rfl) dX3_buy_79 ⟨(Nat.le_of_ble_eq_true rfl), (Nat.le_of_ble_eq_true rfl)⟩ (fun E ce q9 u1 H locs hx hC hce hcv hcl => by
          obtain ⟨x, rfl, hx, hu⟩ := hx; rw [hu] at hC; clear hu; try dsimp only at hx
          exact y_out hto hlk hC hce hcv hcl ⟨x, rfl, (by (try dsimp only); omega), rfl⟩ (Nat.le_of_ble_eq_true rfl) (Nat.le_of_ble_eq_true rfl)) (fun v u1 H locs hp hC => ?_)
      obtain ⟨rfl, h_79, hu⟩ := hp; rw [hu] at hC; clear hu
      try dsimp only at h_79
      refine W.eq (g2 := F0 m 82 ls []) rfl ?_
      refine y_aload_n hM hl 5 rfl rfl dX3_buy_82 ?_
      refine y_aload_n hM hl 6 rfl rfl dX3_buy_83 ?_
      refine y_lload hM hl 0 rfl dX3_buy_84 ?_
      refine y_iload hM hl 3 rfl dX3_buy_86 ?_
      refine y_callS hM hC (c_costOf l hfl G b0 (ks, ad, T, P) (0) (r_15) ⟨by omega, by omega⟩ ⟨by omega, by omega⟩) (va_cwS 2 hM.2.2.2.2 gX3_buy_X3_costOf rfl rfl rfl (by decide +kernel) ⟨(Nat.le_of_ble_eq_true rfl), (Nat.le_of_ble_eq_true rfl)⟩) rfl hl.1 rfl (Nat.le_of_ble_eq_true rfl) dX3_buy_88 ⟨(Nat.le_of_ble_eq_true rfl), (Nat.le_of_ble_eq_true rfl)⟩ (fun E ce q9 u1 H locs hx hC hce hcv hcl => hx.elim) (fun v u1 H locs hp hC => ?_)
      obtain ⟨r_88, rfl, h_88, hu⟩ := hp; rw [hu] at hC; clear hu
      try dsimp only at h_88
      refine W.eq (g2 := F0 m 91 ls [.long (lI (r_88)), .ref (ad 11 k), .ref (ad 0 0)]) rfl ?_
      have hc_88 := coF_in (u := 0) (pr := r_15) (by omega) (by omega)
      refine y_iload hM hl 1 rfl dX3_buy_91 ?_
      refine y_callV hM hC (c_share l hfl G b0 ks ad T P k hkn (r_88) ((T 11 k 5) + (lb)) ⟨by omega, by omega⟩ (by constructor <;> omega) hF hRK hRN hDN hSK hSN hOK hON) (cwV 3 hM.2.2.2.2 gX3_buy_X3_shareCost rfl rfl rfl (by decide +kernel) ⟨(Nat.le_of_ble_eq_true rfl), (Nat.le_of_ble_eq_true rfl)⟩) (y_recv hC hF.1 rfl rfl) rfl hl.1 rfl (Nat.le_of_ble_eq_true rfl) dX3_buy_93 ⟨(Nat.le_of_ble_eq_true rfl), (Nat.le_of_ble_eq_true rfl)⟩ (fun E ce q9 u1 H locs hx hC hce hcv hcl => hx.elim) (fun v u1 H locs hp hC => ?_)
      obtain ⟨rfl, h_93, hu⟩ := hp; rw [hu] at hC; clear hu
      try dsimp only at h_93
      refine W.eq (g2 := F0 m 96 ls []) rfl ?_
      refine y_aload_n hM hl 6 rfl rfl dX3_buy_96 ?_
      refine y_lload hM hl 0 rfl dX3_buy_97 ?_
      refine y_putN hM hC hk11 rfl rfl (by decide +kernel) tyX0 tyX0_ok nmX0 9 1 ⟨by decide, rfl, rfl, rfl, rfl⟩ (by decide +kernel) (ty := .long) (by decide +kernel) rfl rfl (Nat.le_of_ble_eq_true rfl) (T' := (up (shaT T k (r_88) ((T 11 k 5) + (lb))) 11 k 9 (0))) (P' := P) (cF_up rfl) (fun _ _ h => up_ne h) (fun _ _ _ => rfl) dX3_buy_99 (fun H locs hC => ?_)
      refine y_aload hM hl 4 rfl dX3_buy_102 ?_
      refine y_aload_n hM hl 6 rfl rfl dX3_buy_104 ?_
      refine y_getN hM hC hk11 rfl rfl (by decide +kernel) 2 0 ⟨by decide, rfl, rfl, rfl⟩ (by decide +kernel) (congrArg (fun q => some (Value.int (iI q))) (show (up (shaT T k (r_88) ((T 11 k 5) + (lb))) 11 k 9 (0)) 11 k 2 = T 11 k 2 from (by rw [up_row, uR, if_neg (by decide), shaT_at k (by decide)]))) dX3_buy_105 ?_
      refine y_lload hM hl 2 rfl dX3_buy_108 ?_
      refine y_lload hM hl 0 rfl dX3_buy_110 ?_
      refine y_ladd hM dX3_buy_112 ?_
      refine y_callV hM hC (c_arrive l hfl G b0 ks ad (up (shaT T k (r_88) ((T 11 k 5) + (lb))) 11 k 9 (0)) P (mvT T k) hk10 (T 11 k 2) ((r_37) + (0))) (cwV 2 hM.2.2.2.2 gX3_buy_X2_arrive rfl rfl rfl (by decide +kernel) ⟨(Nat.le_of_ble_eq_true rfl), (Nat.le_of_ble_eq_true rfl)⟩) (y_recv hC hk10 rfl rfl) rfl hl.1 rfl (Nat.le_of_ble_eq_true rfl) dX3_buy_113 ⟨(Nat.le_of_ble_eq_true rfl), (Nat.le_of_ble_eq_true rfl)⟩ (fun E ce q9 u1 H locs hx hC hce hcv hcl => hx.elim) (fun v u1 H locs hp hC => ?_)
      obtain ⟨rfl, h_113, hu⟩ := hp; rw [hu] at hC; clear hu
      try dsimp only at h_113
      refine W.eq (g2 := F0 m 116 ls []) rfl ?_
      exact y_vret hM hr hlk hC ⟨rfl, (by omega), (by unfold buyT; rw [← hla, ← hg, h_88, ← h_15]; rfl)⟩ (Nat.le_of_ble_eq_true rfl) (Nat.le_of_ble_eq_true rfl) dX3_buy_116
    ·
      refine y_lconst hM 0 (by decide) dX3_buy_58 ?_
      refine y_aload_n hM hl 5 rfl rfl dX3_buy_59 ?_
      refine y_aload_n hM hl 6 rfl rfl dX3_buy_60 ?_
      refine y_iload hM hl 1 rfl dX3_buy_61 ?_
      refine y_callV hM hC (c_timely l hfl G b0 ks ad T P k hkn ((T 11 k 5) + (lb)) ⟨by omega, by omega⟩ (by omega) hF hRK hRN hDN hSK hSN hOK hON) (cwV 2 hM.2.2.2.2 gX3_buy_X3_timelyThousandths rfl rfl rfl (by decide +kernel) ⟨(Nat.le_of_ble_eq_true rfl), (Nat.le_of_ble_eq_true rfl)⟩) (y_recv hC hF.1 rfl rfl) rfl hl.1 rfl (Nat.le_of_ble_eq_true rfl) dX3_buy_63 ⟨(Nat.le_of_ble_eq_true rfl), (Nat.le_of_ble_eq_true rfl)⟩ (fun E ce q9 u1 H locs hx hC hce hcv hcl => hx.elim) (fun v u1 H locs hp hC => ?_)
      obtain ⟨r_63, rfl, h_63, hu⟩ := hp; rw [hu] at hC; clear hu
      try dsimp only at h_63
      refine W.eq (g2 := F0 m 66 ls [.long (lI (r_63)), .long (lI (0))]) rfl ?_
      refine y_lload hM hl 2 rfl dX3_buy_66 ?_
      refine y_lsub hM dX3_buy_68 ?_
      refine va_mmax_long hM.1 hM.2.1 (by rw [hM.2.2.1]; exact hl.1.symm) hM.2.2.2.1 (hM.2.2.2.2 (.methodLink RX3 198 Lib.MathLoose.max_long.x) (by decide +kernel)) (hM.2.2.2.2 (.static Lib.MathLoose.max_long.x) (by decide +kernel)) (hM.2.2.2.2 (.initialized "java/lang/Math") (by decide +kernel)) (hM.2.2.2.2 (.code Lib.MathLoose.max_long.x Lib.MathLoose.max_long.code 4 (some .long)) (by decide +kernel)) (Nat.le_of_ble_eq_true rfl) (Nat.le_of_ble_eq_true rfl) (Nat.le_of_ble_eq_true rfl) (Nat.le_of_ble_eq_true rfl) dX3_buy_69 ?_
      rw [show (if lI ((r_63) - (r_37)) < lI (0) then lI (0) else lI ((r_63) - (r_37))) = lI (la) from (by
    simp only [lI_lt (a := r_63 - r_37) (b := 0) ⟨by omega, by omega⟩ ⟨by omega, by omega⟩]
    rw [hla]
    unfold lakT
    rw [if_pos (show 0 < allL T k lb by unfold allL; omega), show timT T k (allL T k lb) = r_63 from h_63.symm, ← hg]
    split <;> split <;> first | rfl | (exact False.elim (by omega)) | (exact congrArg lI (by omega)))]
      refine lv_lstore (lv' := [(9, .long (lI (la))), (8, .int (iI ((T 11 k 5) + (lb)))), (6, .long (lI (r_37))), (5, .int (iI (r_15))), (4, .ref (ad 10 (mvT T k))), (0, .ref (ad 0 0)), (1, .ref (ad 11 k)), (2, .int (iI (lb))), (3, .int (iI (f)))]) hM.1 hM.2.1 dX3_buy_72 hl (by decide) rfl (fun ls hl => ?_)
      refine y_lload hM hl 2 rfl dX3_buy_74 ?_
      refine y_lload hM hl 0 rfl dX3_buy_76 ?_
      refine y_ladd hM dX3_buy_78 ?_
      refine y_callS hM hC (c_checkHolding l hfl G b0 (ks, ad, T, P) ((r_37) + (la)) (by constructor <;> omega)) (va_cwS 1 hM.2.2.2.2 gX3_buy_X3_checkHolding rfl rfl rfl (by decide +kernel) ⟨(Nat.le_of_ble_eq_true rfl), (Nat.le_of_ble_eq_true rfl)⟩) rfl hl.1 rfl (Nat.le_of_ble_eq_true rfl) dX3_buy_79 ⟨(Nat.le_of_ble_eq_true rfl), (Nat.le_of_ble_eq_true rfl)⟩ (fun E ce q9 u1 H locs hx hC hce hcv hcl => by
          obtain ⟨x, rfl, hx, hu⟩ := hx; rw [hu] at hC; clear hu; try dsimp only at hx
          exact y_out hto hlk hC hce hcv hcl ⟨x, rfl, (by (try dsimp only); omega), rfl⟩ (Nat.le_of_ble_eq_true rfl) (Nat.le_of_ble_eq_true rfl)) (fun v u1 H locs hp hC => ?_)
      obtain ⟨rfl, h_79, hu⟩ := hp; rw [hu] at hC; clear hu
      try dsimp only at h_79
      refine W.eq (g2 := F0 m 82 ls []) rfl ?_
      refine y_aload_n hM hl 5 rfl rfl dX3_buy_82 ?_
      refine y_aload_n hM hl 6 rfl rfl dX3_buy_83 ?_
      refine y_lload hM hl 0 rfl dX3_buy_84 ?_
      refine y_iload hM hl 3 rfl dX3_buy_86 ?_
      refine y_callS hM hC (c_costOf l hfl G b0 (ks, ad, T, P) (la) (r_15) ⟨by omega, by omega⟩ ⟨by omega, by omega⟩) (va_cwS 2 hM.2.2.2.2 gX3_buy_X3_costOf rfl rfl rfl (by decide +kernel) ⟨(Nat.le_of_ble_eq_true rfl), (Nat.le_of_ble_eq_true rfl)⟩) rfl hl.1 rfl (Nat.le_of_ble_eq_true rfl) dX3_buy_88 ⟨(Nat.le_of_ble_eq_true rfl), (Nat.le_of_ble_eq_true rfl)⟩ (fun E ce q9 u1 H locs hx hC hce hcv hcl => hx.elim) (fun v u1 H locs hp hC => ?_)
      obtain ⟨r_88, rfl, h_88, hu⟩ := hp; rw [hu] at hC; clear hu
      try dsimp only at h_88
      refine W.eq (g2 := F0 m 91 ls [.long (lI (r_88)), .ref (ad 11 k), .ref (ad 0 0)]) rfl ?_
      have hc_88 := coF_in (u := la) (pr := r_15) (by omega) (by omega)
      refine y_iload hM hl 1 rfl dX3_buy_91 ?_
      refine y_callV hM hC (c_share l hfl G b0 ks ad T P k hkn (r_88) ((T 11 k 5) + (lb)) ⟨by omega, by omega⟩ (by constructor <;> omega) hF hRK hRN hDN hSK hSN hOK hON) (cwV 3 hM.2.2.2.2 gX3_buy_X3_shareCost rfl rfl rfl (by decide +kernel) ⟨(Nat.le_of_ble_eq_true rfl), (Nat.le_of_ble_eq_true rfl)⟩) (y_recv hC hF.1 rfl rfl) rfl hl.1 rfl (Nat.le_of_ble_eq_true rfl) dX3_buy_93 ⟨(Nat.le_of_ble_eq_true rfl), (Nat.le_of_ble_eq_true rfl)⟩ (fun E ce q9 u1 H locs hx hC hce hcv hcl => hx.elim) (fun v u1 H locs hp hC => ?_)
      obtain ⟨rfl, h_93, hu⟩ := hp; rw [hu] at hC; clear hu
      try dsimp only at h_93
      refine W.eq (g2 := F0 m 96 ls []) rfl ?_
      refine y_aload_n hM hl 6 rfl rfl dX3_buy_96 ?_
      refine y_lload hM hl 0 rfl dX3_buy_97 ?_
      refine y_putN hM hC hk11 rfl rfl (by decide +kernel) tyX0 tyX0_ok nmX0 9 1 ⟨by decide, rfl, rfl, rfl, rfl⟩ (by decide +kernel) (ty := .long) (by decide +kernel) rfl rfl (Nat.le_of_ble_eq_true rfl) (T' := (up (shaT T k (r_88) ((T 11 k 5) + (lb))) 11 k 9 (la))) (P' := P) (cF_up rfl) (fun _ _ h => up_ne h) (fun _ _ _ => rfl) dX3_buy_99 (fun H locs hC => ?_)
      refine y_aload hM hl 4 rfl dX3_buy_102 ?_
      refine y_aload_n hM hl 6 rfl rfl dX3_buy_104 ?_
      refine y_getN hM hC hk11 rfl rfl (by decide +kernel) 2 0 ⟨by decide, rfl, rfl, rfl⟩ (by decide +kernel) (congrArg (fun q => some (Value.int (iI q))) (show (up (shaT T k (r_88) ((T 11 k 5) + (lb))) 11 k 9 (la)) 11 k 2 = T 11 k 2 from (by rw [up_row, uR, if_neg (by decide), shaT_at k (by decide)]))) dX3_buy_105 ?_
      refine y_lload hM hl 2 rfl dX3_buy_108 ?_
      refine y_lload hM hl 0 rfl dX3_buy_110 ?_
      refine y_ladd hM dX3_buy_112 ?_
      refine y_callV hM hC (c_arrive l hfl G b0 ks ad (up (shaT T k (r_88) ((T 11 k 5) + (lb))) 11 k 9 (la)) P (mvT T k) hk10 (T 11 k 2) ((r_37) + (la))) (cwV 2 hM.2.2.2.2 gX3_buy_X2_arrive rfl rfl rfl (by decide +kernel) ⟨(Nat.le_of_ble_eq_true rfl), (Nat.le_of_ble_eq_true rfl)⟩) (y_recv hC hk10 rfl rfl) rfl hl.1 rfl (Nat.le_of_ble_eq_true rfl) dX3_buy_113 ⟨(Nat.le_of_ble_eq_true rfl), (Nat.le_of_ble_eq_true rfl)⟩ (fun E ce q9 u1 H locs hx hC hce hcv hcl => hx.elim) (fun v u1 H locs hp hC => ?_)
      obtain ⟨rfl, h_113, hu⟩ := hp; rw [hu] at hC; clear hu
      try dsimp only at h_113
      refine W.eq (g2 := F0 m 116 ls []) rfl ?_
      exact y_vret hM hr hlk hC ⟨rfl, (by omega), (by unfold buyT; rw [← hla, ← hg, h_88, ← h_15]; rfl)⟩ (Nat.le_of_ble_eq_true rfl) (Nat.le_of_ble_eq_true rfl) dX3_buy_116

set_option maxRecDepth 100000 in
set_option maxHeartbeats 8000000 in
theorem c_doNextStep (l : Launch) (hfl : l.stackTraces = false) (G : GG) (b0 : Nat) (ks : KK) (ad : AD) (T : TT) (P : PP) (k : Nat) (hkn : (k : Int) < T 0 0 8) (f : Int) (hf : f = 0 ∨ f = 1) (hF : FI ks ad P) (hRK : RK ks ad P) (hRN : RN T) (hDN : DN T) (hSK : SK ks ad T P) (hSN : SN T) (hOK : OK1 ks ad T P) (hON : ON T)  : vx_Met l yX3_doNextStep wsX3_doNextStep (rmX 9 5 30 160) (va_Pc [.ref (ad 0 0), .ref (ad 11 k), .int (iI (f))] (Ok G b0 (ks, ad, T, P))) (Qr (pI (fun r => r = lateT T k (T 0 0 5) ∧ (T 11 k 3 = 2 → gotT T k f + lakT T k (lateT T k (T 0 0 5)) f ≤ 100000000)) (ks, ad, stpT T k f, P)) G b0) (Xr (pX (fun x => x = 2 ∧ T 11 k 3 = 2 ∧ 100000000 < gotT T k f + lakT T k (lateT T k (T 0 0 5)) f) (ks, ad, T, P)) G b0) 5 30 (Wx b0) := by
  refine vx_ofW (cc := cX3_doNextStep) (maxL := 4) (ret := (some .int)) (by decide +kernel) rfl ?_
  intro p e s m args below meth c s₁ B hml hto hv
  obtain ⟨rfl, hok⟩ := hv
  have hM : CallFix p m c cX3_doNextStep 4 s _ wsX3_doNextStep RX3 := ⟨B.exec, B.bytes, hml, findClass_of_methodNamed B.named, atoms_spec (ws := wsX3_doNextStep) B.pre⟩
  have hr := B.returns
  have hlk := B.notSynchronized
  have hC := hok.cur
  have hl := lv_entry ([.ref (ad 0 0), .ref (ad 11 k), .int (iI (f))]) (n := 4) (Nat.le_of_ble_eq_true rfl)
  rw [lg_entry_eq]
  generalize (lg_sl ([.ref (ad 0 0), .ref (ad 11 k), .int (iI (f))]) ++ List.replicate (4 - (lg_sl ([.ref (ad 0 0), .ref (ad 11 k), .int (iI (f))])).length) Slot.unset).toArray = ls at hl ⊢
  have hl : lv_has ls 4 [(0, .ref (ad 0 0)), (1, .ref (ad 11 k)), (2, .int (iI (f)))] := hl
  obtain ⟨hk11, hpm, hm0, hm1⟩ := hOK.2.2.2 k hkn
  have ho := hON k hkn
  have hs := hSN (mvT T k) (by unfold mvT; omega)
  have hk10 := hSK.2.2.2 (mvT T k) (by unfold mvT; omega)
  obtain ⟨hd0, hd1, hd2, hd3⟩ := id hDN
  have hs10 := hSK.2.1
  refine y_aload_n hM hl 1 rfl rfl dX3_doNextStep_0 ?_
  refine y_aload_n hM hl 0 rfl rfl dX3_doNextStep_1 ?_
  refine y_get hM hC hF.1 rfl rfl (by decide +kernel) 5 ⟨by decide, rfl, rfl, rfl⟩ (by decide +kernel) rfl dX3_doNextStep_2 ?_
  refine y_callV hM hC (c_latenessOn l hfl G b0 ks ad T P k hk11 (T 0 0 5) (by constructor <;> omega) ⟨by omega, by omega⟩ ⟨by omega, by omega⟩) (cwV 1 hM.2.2.2.2 gX3_doNextStep_X0_latenessOn rfl rfl rfl (by decide +kernel) ⟨(Nat.le_of_ble_eq_true rfl), (Nat.le_of_ble_eq_true rfl)⟩) (y_recv hC hk11 rfl rfl) rfl hl.1 rfl (Nat.le_of_ble_eq_true rfl) dX3_doNextStep_5 ⟨(Nat.le_of_ble_eq_true rfl), (Nat.le_of_ble_eq_true rfl)⟩ (fun E ce q9 u1 H locs hx hC hce hcv hcl => hx.elim) (fun v u1 H locs hp hC => ?_)
  obtain ⟨r_5, rfl, h_5, hu⟩ := hp; rw [hu] at hC; clear hu
  try dsimp only at h_5
  refine W.eq (g2 := F0 m 8 ls [.int (iI (r_5))]) rfl ?_
  have hl2_5 := lateT_dy (T := T) (k := k) (d := T 0 0 5) (by omega)
  have hl_5 := lateT_in (T := T) (k := k) (by omega) (d := T 0 0 5) ⟨by omega, by omega⟩
  refine lv_istore_n (lv' := [(3, .int (iI (r_5))), (0, .ref (ad 0 0)), (1, .ref (ad 11 k)), (2, .int (iI (f)))]) hM.1 hM.2.1 dX3_doNextStep_8 rfl hl (by decide) rfl (fun ls hl => ?_)
  refine y_aload_n hM hl 2 rfl rfl dX3_doNextStep_9 ?_
  refine y_getN hM hC hk11 rfl rfl (by decide +kernel) 3 0 ⟨by decide, rfl, rfl, rfl⟩ (by decide +kernel) rfl dX3_doNextStep_10 ?_
  refine y_iconst hM dX3_doNextStep_13 ?_
  refine y_icmp_ne hM (by constructor <;> omega) (by constructor <;> omega) (tgt := 26) dX3_doNextStep_14 (by decide) (fun c_14 => ?_) (fun c_14 => ?_)
  ·
    refine y_aload_n hM hl 2 rfl rfl dX3_doNextStep_26 ?_
    refine y_getN hM hC hk11 rfl rfl (by decide +kernel) 3 0 ⟨by decide, rfl, rfl, rfl⟩ (by decide +kernel) rfl dX3_doNextStep_27 ?_
    refine y_iconst hM dX3_doNextStep_30 ?_
    refine y_icmp_ne hM (by constructor <;> omega) (by constructor <;> omega) (tgt := 41) dX3_doNextStep_31 (by decide) (fun c_31 => ?_) (fun c_31 => ?_)
    ·
      refine y_aload_n hM hl 2 rfl rfl dX3_doNextStep_41 ?_
      refine y_aload_n hM hl 1 rfl rfl dX3_doNextStep_42 ?_
      refine y_get hM hC hF.1 rfl rfl (by decide +kernel) 5 ⟨by decide, rfl, rfl, rfl⟩ (by decide +kernel) rfl dX3_doNextStep_43 ?_
      refine y_iload_n hM hl 0 rfl rfl dX3_doNextStep_46 ?_
      refine y_callV hM hC (c_goOn l hfl G b0 ks ad T P k hk11 (T 0 0 5) (r_5) (by constructor <;> omega)) (cwV 2 hM.2.2.2.2 gX3_doNextStep_X0_goOn rfl rfl rfl (by decide +kernel) ⟨(Nat.le_of_ble_eq_true rfl), (Nat.le_of_ble_eq_true rfl)⟩) (y_recv hC hk11 rfl rfl) rfl hl.1 rfl (Nat.le_of_ble_eq_true rfl) dX3_doNextStep_47 ⟨(Nat.le_of_ble_eq_true rfl), (Nat.le_of_ble_eq_true rfl)⟩ (fun E ce q9 u1 H locs hx hC hce hcv hcl => hx.elim) (fun v u1 H locs hp hC => ?_)
      obtain ⟨rfl, h_47, hu⟩ := hp; rw [hu] at hC; clear hu
      try dsimp only at h_47
      refine W.eq (g2 := F0 m 50 ls []) rfl ?_
      refine y_iload_n hM hl 0 rfl rfl dX3_doNextStep_50 ?_
      exact y_iret hM hr hlk hC ⟨_, rfl, ⟨h_5, fun q => by omega⟩, (by unfold stpT; rw [if_neg c_14, if_neg c_31, h_5])⟩ (Nat.le_of_ble_eq_true rfl) (Nat.le_of_ble_eq_true rfl) dX3_doNextStep_51
    ·
      refine y_aload_n hM hl 1 rfl rfl dX3_doNextStep_34 ?_
      refine y_aload_n hM hl 2 rfl rfl dX3_doNextStep_35 ?_
      refine y_iload_n hM hl 0 rfl rfl dX3_doNextStep_36 ?_
      refine y_iload_n hM hl 3 rfl rfl dX3_doNextStep_37 ?_
      refine y_callV hM hC (c_buy l hfl G b0 ks ad T P k hkn (r_5) (f) ⟨by omega, by omega⟩ (by omega) hf hF hRK hRN hDN hSK hSN hOK hON) (cwV 3 hM.2.2.2.2 gX3_doNextStep_X3_buy rfl rfl rfl (by decide +kernel) ⟨(Nat.le_of_ble_eq_true rfl), (Nat.le_of_ble_eq_true rfl)⟩) (y_recv hC hF.1 rfl rfl) rfl hl.1 rfl (Nat.le_of_ble_eq_true rfl) dX3_doNextStep_38 ⟨(Nat.le_of_ble_eq_true rfl), (Nat.le_of_ble_eq_true rfl)⟩ (fun E ce q9 u1 H locs hx hC hce hcv hcl => by
          obtain ⟨x, rfl, hx, hu⟩ := hx; rw [hu] at hC; clear hu; try dsimp only at hx
          exact y_out hto hlk hC hce hcv hcl ⟨x, rfl, (by (try dsimp only); rw [← h_5]; exact ⟨hx.1, c_31, hx.2⟩), rfl⟩ (Nat.le_of_ble_eq_true rfl) (Nat.le_of_ble_eq_true rfl)) (fun v u1 H locs hp hC => ?_)
      obtain ⟨rfl, h_38, hu⟩ := hp; rw [hu] at hC; clear hu
      try dsimp only at h_38
      refine W.eq (g2 := F0 m 41 ls []) rfl ?_
      refine y_aload_n hM hl 2 rfl rfl dX3_doNextStep_41 ?_
      refine y_aload_n hM hl 1 rfl rfl dX3_doNextStep_42 ?_
      refine y_get hM hC hF.1 rfl rfl (by decide +kernel) 5 ⟨by decide, rfl, rfl, rfl⟩ (by decide +kernel) (congrArg (fun q => some (Value.int (iI q))) (show (buyT T k (r_5) (f)) 0 0 5 = T 0 0 5 from (congrFun (buyT_at (fun q => absurd q.1 (by decide)) (by decide)) 5))) dX3_doNextStep_43 ?_
      refine y_iload_n hM hl 0 rfl rfl dX3_doNextStep_46 ?_
      refine y_callV hM hC (c_goOn l hfl G b0 ks ad (buyT T k (r_5) (f)) P k hk11 (T 0 0 5) (r_5) (by rw [buyT_3]; constructor <;> omega)) (cwV 2 hM.2.2.2.2 gX3_doNextStep_X0_goOn rfl rfl rfl (by decide +kernel) ⟨(Nat.le_of_ble_eq_true rfl), (Nat.le_of_ble_eq_true rfl)⟩) (y_recv hC hk11 rfl rfl) rfl hl.1 rfl (Nat.le_of_ble_eq_true rfl) dX3_doNextStep_47 ⟨(Nat.le_of_ble_eq_true rfl), (Nat.le_of_ble_eq_true rfl)⟩ (fun E ce q9 u1 H locs hx hC hce hcv hcl => hx.elim) (fun v u1 H locs hp hC => ?_)
      obtain ⟨rfl, h_47, hu⟩ := hp; rw [hu] at hC; clear hu
      try dsimp only at h_47
      refine W.eq (g2 := F0 m 50 ls []) rfl ?_
      refine y_iload_n hM hl 0 rfl rfl dX3_doNextStep_50 ?_
      exact y_iret hM hr hlk hC ⟨_, rfl, ⟨h_5, fun _ => by rw [← h_5]; exact h_38⟩, (by unfold stpT; rw [if_neg c_14, if_pos c_31, h_5])⟩ (Nat.le_of_ble_eq_true rfl) (Nat.le_of_ble_eq_true rfl) dX3_doNextStep_51
  ·
    refine y_aload_n hM hl 1 rfl rfl dX3_doNextStep_17 ?_
    refine y_aload_n hM hl 2 rfl rfl dX3_doNextStep_18 ?_
    refine y_iload_n hM hl 3 rfl rfl dX3_doNextStep_19 ?_
    refine y_callV hM hC (c_sell l hfl G b0 ks ad T P k hkn (f) hf hF hRK hRN hDN hSK hSN hOK hON) (cwV 2 hM.2.2.2.2 gX3_doNextStep_X3_sell rfl rfl rfl (by decide +kernel) ⟨(Nat.le_of_ble_eq_true rfl), (Nat.le_of_ble_eq_true rfl)⟩) (y_recv hC hF.1 rfl rfl) rfl hl.1 rfl (Nat.le_of_ble_eq_true rfl) dX3_doNextStep_20 ⟨(Nat.le_of_ble_eq_true rfl), (Nat.le_of_ble_eq_true rfl)⟩ (fun E ce q9 u1 H locs hx hC hce hcv hcl => hx.elim) (fun v u1 H locs hp hC => ?_)
    obtain ⟨rfl, h_20, hu⟩ := hp; rw [hu] at hC; clear hu
    try dsimp only at h_20
    refine W.eq (g2 := F0 m 23 ls []) rfl ?_
    refine lv_goto (tgt := 41) hM.1 hM.2.1 dX3_doNextStep_23 (by decide) ?_
    refine y_aload_n hM hl 2 rfl rfl dX3_doNextStep_41 ?_
    refine y_aload_n hM hl 1 rfl rfl dX3_doNextStep_42 ?_
    refine y_get hM hC hF.1 rfl rfl (by decide +kernel) 5 ⟨by decide, rfl, rfl, rfl⟩ (by decide +kernel) (congrArg (fun q => some (Value.int (iI q))) (show (sellT T k (f)) 0 0 5 = T 0 0 5 from (congrFun (sellT_at (fun q => absurd q.1 (by decide)) (by decide)) 5))) dX3_doNextStep_43 ?_
    refine y_iload_n hM hl 0 rfl rfl dX3_doNextStep_46 ?_
    refine y_callV hM hC (c_goOn l hfl G b0 ks ad (sellT T k (f)) P k hk11 (T 0 0 5) (r_5) (by rw [sellT_3]; constructor <;> omega)) (cwV 2 hM.2.2.2.2 gX3_doNextStep_X0_goOn rfl rfl rfl (by decide +kernel) ⟨(Nat.le_of_ble_eq_true rfl), (Nat.le_of_ble_eq_true rfl)⟩) (y_recv hC hk11 rfl rfl) rfl hl.1 rfl (Nat.le_of_ble_eq_true rfl) dX3_doNextStep_47 ⟨(Nat.le_of_ble_eq_true rfl), (Nat.le_of_ble_eq_true rfl)⟩ (fun E ce q9 u1 H locs hx hC hce hcv hcl => hx.elim) (fun v u1 H locs hp hC => ?_)
    obtain ⟨rfl, h_47, hu⟩ := hp; rw [hu] at hC; clear hu
    try dsimp only at h_47
    refine W.eq (g2 := F0 m 50 ls []) rfl ?_
    refine y_iload_n hM hl 0 rfl rfl dX3_doNextStep_50 ?_
    exact y_iret hM hr hlk hC ⟨_, rfl, ⟨h_5, fun q => by omega⟩, (by unfold stpT; rw [if_pos c_14, h_5])⟩ (Nat.le_of_ble_eq_true rfl) (Nat.le_of_ble_eq_true rfl) dX3_doNextStep_51
