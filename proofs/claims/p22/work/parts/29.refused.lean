set_option maxRecDepth 100000 in
set_option maxHeartbeats 8000000 in
theorem c_ref_step (l : Launch) (hfl : l.stackTraces = false) (G : GG) (b0 : Nat) (ks : KK) (ad : AD) (T : TT) (P : PP) (z w : Int) (hz : inI z) (hw : inI w) (hF : FI ks ad P) (hRK : RK ks ad P) (hRN : RN T) (hDN : DN T) (hSK : SK ks ad T P) (hSN : SN T) (hOK : OK1 ks ad T P) (hON : ON T) (hno : ¬ (0 ≤ z ∧ z < T 0 0 8 ∧ T 11 z.toNat 3 ≠ 3 ∧ (T 11 z.toNat 3 = 2 → gotT T z.toNat 0 + lakT T z.toNat (lateT T z.toNat (T 0 0 5)) 0 ≤ 100000000))) : vx_Met l yL_refused wsL_refused (rmX 11 7 42 204) (va_Pc [.ref (ad 0 0), .int (iI (0)), .int (iI (z)), .int (iI (w))] (OkN G b0 (ks, ad, T, P))) (Qr (pI (fun r => (r = 1 ∧ (z < 0 ∨ T 0 0 8 ≤ z)) ∨ (r = 3 ∧ 0 ≤ z ∧ z < T 0 0 8)) (ks, ad, T, P)) G b0) (Xr (noX) G b0) 7 42 (Wx b0) := by
  refine vx_ofWH (cc := cL_refused) (maxL := 5) (ret := (some .int)) (hh := [(0, 87, 88, 42), (0, 87, 92, 44), (0, 87, 96, 46)]) (by decide +kernel) rfl ?_
  intro p e s m args below meth c s₁ B hml hv
  obtain ⟨rfl, hok, hN⟩ := hv
  have htb := vx_table (x := yL_refused) (hh := [(0, 87, 88, 42), (0, 87, 92, 44), (0, 87, 96, 46)]) B (atoms_spec (ws := wsL_refused) B.pre (Cond.codeWith yL_refused cL_refused 5 (some .int) [(0, 87, 88, 42), (0, 87, 92, 44), (0, 87, 96, 46)]) List.mem_cons_self)
  have hM : CallFix p m c cL_refused 5 s _ wsL_refused RL := ⟨B.exec, B.bytes, hml, findClass_of_methodNamed B.named, atoms_spec (ws := wsL_refused) B.pre⟩
  have hr := B.returns
  have hlk := B.notSynchronized
  have hC := hok.cur
  have hl := lv_entry ([.ref (ad 0 0), .int (iI (0)), .int (iI (z)), .int (iI (w))]) (n := 5) (Nat.le_of_ble_eq_true rfl)
  rw [lg_entry_eq]
  generalize (lg_sl ([.ref (ad 0 0), .int (iI (0)), .int (iI (z)), .int (iI (w))]) ++ List.replicate (5 - (lg_sl ([.ref (ad 0 0), .int (iI (0)), .int (iI (z)), .int (iI (w))])).length) Slot.unset).toArray = ls at hl ⊢
  have hl : lv_has ls 5 [(0, .ref (ad 0 0)), (1, .int (iI (0))), (2, .int (iI (z))), (3, .int (iI (w)))] := hl
  refine y_iload_n hM hl 1 rfl rfl dL_refused_0 ?_
  refine y_if_ne hM (by constructor <;> omega) (tgt := 12) dL_refused_1 (by decide) (fun c_1 => False.elim (by omega)) (fun c_1 => ?_)
  refine y_aload_n hM hl 0 rfl rfl dL_refused_4 ?_
  refine y_iload_n hM hl 2 rfl rfl dL_refused_5 ?_
  refine y_callV hM hC (c_step l hfl G b0 ks ad T P (z) hz hF hRK hRN hDN hSK hSN hOK hON) (cwV 1 hM.2.2.2.2 gL_refused_X3_step rfl rfl rfl (by decide +kernel) ⟨(Nat.le_of_ble_eq_true rfl), (Nat.le_of_ble_eq_true rfl)⟩) (y_recv hC hF.1 rfl rfl) rfl hl.1 rfl (Nat.le_of_ble_eq_true rfl) dL_refused_6 ⟨(Nat.le_of_ble_eq_true rfl), (Nat.le_of_ble_eq_true rfl)⟩ ?_ (fun v u1 H locs hp hC => ?_)
  ·
    intro E ce q9 u1 H locs hx hC hce hcv hcl
    obtain ⟨x, rfl, hx, hu⟩ := hx; rw [hu] at hC; clear hu; try dsimp only at hx
    rcases hx with ⟨rfl, hx⟩ | ⟨rfl, hx⟩
    ·
      refine y_catch hM hN hC htb [] (0, 87, 88, 42) [(0, 87, 92, 44), (0, 87, 96, 46)] rfl (by decide +kernel) (fun z hz => absurd hz List.not_mem_nil) rfl (by decide) (by decide +kernel) hce hcv hcl rfl ?_
      refine lv_astore (lv' := [(4, .ref q9), (0, .ref (ad 0 0)), (1, .int (iI (0))), (2, .int (iI (z))), (3, .int (iI (w)))]) hM.1 hM.2.1 dL_refused_88 hl (by decide) rfl (fun ls hl => ?_)
      refine y_iconst hM dL_refused_90 ?_
      exact y_iret hM hr hlk hC ⟨_, rfl, (by (try dsimp only) <;> omega), rfl⟩ (Nat.le_of_ble_eq_true rfl) (Nat.le_of_ble_eq_true rfl) dL_refused_91
    ·
      refine y_catch hM hN hC htb [(0, 87, 88, 42), (0, 87, 92, 44)] (0, 87, 96, 46) [] rfl (by decide +kernel) (fun z hz => by
          rcases (show z = (0, 87, 88, 42) ∨ z = (0, 87, 92, 44) from by simpa using hz) with rfl | rfl <;> first | (exact ⟨by decide, eB, by decide +kernel, by decide +kernel, by decide +kernel⟩) | (exact ⟨by decide, eA, by decide +kernel, by decide +kernel, by decide +kernel⟩)) rfl (by decide) (by decide +kernel) hce hcv hcl rfl ?_
      refine lv_astore (lv' := [(4, .ref q9), (0, .ref (ad 0 0)), (1, .int (iI (0))), (2, .int (iI (z))), (3, .int (iI (w)))]) hM.1 hM.2.1 dL_refused_96 hl (by decide) rfl (fun ls hl => ?_)
      refine y_iconst hM dL_refused_98 ?_
      exact y_iret hM hr hlk hC ⟨_, rfl, (by (try dsimp only) <;> omega), rfl⟩ (Nat.le_of_ble_eq_true rfl) (Nat.le_of_ble_eq_true rfl) dL_refused_99
  obtain ⟨r_6, rfl, h_6, hu⟩ := hp; rw [hu] at hC; clear hu
  try dsimp only at h_6
  refine W.eq (g2 := F0 m 9 ls [.int (iI (r_6))]) rfl ?_
  exact False.elim (by omega)

set_option maxRecDepth 100000 in
set_option maxHeartbeats 8000000 in
theorem c_ref_force (l : Launch) (hfl : l.stackTraces = false) (G : GG) (b0 : Nat) (ks : KK) (ad : AD) (T : TT) (P : PP) (z w : Int) (hz : inI z) (hw : inI w) (hF : FI ks ad P) (hRK : RK ks ad P) (hRN : RN T) (hDN : DN T) (hSK : SK ks ad T P) (hSN : SN T) (hOK : OK1 ks ad T P) (hON : ON T) (hno : ¬ (10 < lateT T z.toNat (T 0 0 5) ∧ 0 ≤ z ∧ z < T 0 0 8 ∧ T 11 z.toNat 3 ≠ 3 ∧ (T 11 z.toNat 3 = 2 → gotT T z.toNat 1 + lakT T z.toNat (lateT T z.toNat (T 0 0 5)) 1 ≤ 100000000))) : vx_Met l yL_refused wsL_refused (rmX 11 7 42 205) (va_Pc [.ref (ad 0 0), .int (iI (1)), .int (iI (z)), .int (iI (w))] (OkN G b0 (ks, ad, T, P))) (Qr (pI (fun r => (r = 1 ∧ (z < 0 ∨ T 0 0 8 ≤ z)) ∨ (r = 3 ∧ 0 ≤ z ∧ z < T 0 0 8)) (ks, ad, T, P)) G b0) (Xr (noX) G b0) 7 42 (Wx b0) := by
  refine vx_ofWH (cc := cL_refused) (maxL := 5) (ret := (some .int)) (hh := [(0, 87, 88, 42), (0, 87, 92, 44), (0, 87, 96, 46)]) (by decide +kernel) rfl ?_
  intro p e s m args below meth c s₁ B hml hv
  obtain ⟨rfl, hok, hN⟩ := hv
  have htb := vx_table (x := yL_refused) (hh := [(0, 87, 88, 42), (0, 87, 92, 44), (0, 87, 96, 46)]) B (atoms_spec (ws := wsL_refused) B.pre (Cond.codeWith yL_refused cL_refused 5 (some .int) [(0, 87, 88, 42), (0, 87, 92, 44), (0, 87, 96, 46)]) List.mem_cons_self)
  have hM : CallFix p m c cL_refused 5 s _ wsL_refused RL := ⟨B.exec, B.bytes, hml, findClass_of_methodNamed B.named, atoms_spec (ws := wsL_refused) B.pre⟩
  have hr := B.returns
  have hlk := B.notSynchronized
  have hC := hok.cur
  have hl := lv_entry ([.ref (ad 0 0), .int (iI (1)), .int (iI (z)), .int (iI (w))]) (n := 5) (Nat.le_of_ble_eq_true rfl)
  rw [lg_entry_eq]
  generalize (lg_sl ([.ref (ad 0 0), .int (iI (1)), .int (iI (z)), .int (iI (w))]) ++ List.replicate (5 - (lg_sl ([.ref (ad 0 0), .int (iI (1)), .int (iI (z)), .int (iI (w))])).length) Slot.unset).toArray = ls at hl ⊢
  have hl : lv_has ls 5 [(0, .ref (ad 0 0)), (1, .int (iI (1))), (2, .int (iI (z))), (3, .int (iI (w)))] := hl
  refine y_iload_n hM hl 1 rfl rfl dL_refused_0 ?_
  refine y_if_ne hM (by constructor <;> omega) (tgt := 12) dL_refused_1 (by decide) (fun c_1 => ?_) (fun c_1 => False.elim (by omega))
  refine y_iload_n hM hl 1 rfl rfl dL_refused_12 ?_
  refine y_iconst hM dL_refused_13 ?_
  refine y_icmp_ne hM (by constructor <;> omega) (by constructor <;> omega) (tgt := 25) dL_refused_14 (by decide) (fun c_14 => False.elim (by omega)) (fun c_14 => ?_)
  refine y_aload_n hM hl 0 rfl rfl dL_refused_17 ?_
  refine y_iload_n hM hl 2 rfl rfl dL_refused_18 ?_
  refine y_callV hM hC (c_force l hfl G b0 ks ad T P (z) hz hF hRK hRN hDN hSK hSN hOK hON) (cwV 1 hM.2.2.2.2 gL_refused_X3_force rfl rfl rfl (by decide +kernel) ⟨(Nat.le_of_ble_eq_true rfl), (Nat.le_of_ble_eq_true rfl)⟩) (y_recv hC hF.1 rfl rfl) rfl hl.1 rfl (Nat.le_of_ble_eq_true rfl) dL_refused_19 ⟨(Nat.le_of_ble_eq_true rfl), (Nat.le_of_ble_eq_true rfl)⟩ ?_ (fun v u1 H locs hp hC => ?_)
  ·
    intro E ce q9 u1 H locs hx hC hce hcv hcl
    obtain ⟨x, rfl, hx, hu⟩ := hx; rw [hu] at hC; clear hu; try dsimp only at hx
    rcases hx with ⟨rfl, hx⟩ | ⟨rfl, hx⟩
    ·
      refine y_catch hM hN hC htb [] (0, 87, 88, 42) [(0, 87, 92, 44), (0, 87, 96, 46)] rfl (by decide +kernel) (fun z hz => absurd hz List.not_mem_nil) rfl (by decide) (by decide +kernel) hce hcv hcl rfl ?_
      refine lv_astore (lv' := [(4, .ref q9), (0, .ref (ad 0 0)), (1, .int (iI (1))), (2, .int (iI (z))), (3, .int (iI (w)))]) hM.1 hM.2.1 dL_refused_88 hl (by decide) rfl (fun ls hl => ?_)
      refine y_iconst hM dL_refused_90 ?_
      exact y_iret hM hr hlk hC ⟨_, rfl, (by (try dsimp only) <;> omega), rfl⟩ (Nat.le_of_ble_eq_true rfl) (Nat.le_of_ble_eq_true rfl) dL_refused_91
    ·
      refine y_catch hM hN hC htb [(0, 87, 88, 42), (0, 87, 92, 44)] (0, 87, 96, 46) [] rfl (by decide +kernel) (fun z hz => by
          rcases (show z = (0, 87, 88, 42) ∨ z = (0, 87, 92, 44) from by simpa using hz) with rfl | rfl <;> first | (exact ⟨by decide, eB, by decide +kernel, by decide +kernel, by decide +kernel⟩) | (exact ⟨by decide, eA, by decide +kernel, by decide +kernel, by decide +kernel⟩)) rfl (by decide) (by decide +kernel) hce hcv hcl rfl ?_
      refine lv_astore (lv' := [(4, .ref q9), (0, .ref (ad 0 0)), (1, .int (iI (1))), (2, .int (iI (z))), (3, .int (iI (w)))]) hM.1 hM.2.1 dL_refused_96 hl (by decide) rfl (fun ls hl => ?_)
      refine y_iconst hM dL_refused_98 ?_
      exact y_iret hM hr hlk hC ⟨_, rfl, (by (try dsimp only) <;> omega), rfl⟩ (Nat.le_of_ble_eq_true rfl) (Nat.le_of_ble_eq_true rfl) dL_refused_99
  obtain ⟨r_19, rfl, h_19, hu⟩ := hp; rw [hu] at hC; clear hu
  try dsimp only at h_19
  refine W.eq (g2 := F0 m 22 ls [.int (iI (r_19))]) rfl ?_
  exact False.elim (by omega)

set_option maxRecDepth 100000 in
set_option maxHeartbeats 8000000 in
theorem c_ref_order (l : Launch) (hfl : l.stackTraces = false) (G : GG) (b0 : Nat) (ks : KK) (ad : AD) (T : TT) (P : PP) (z w : Int) (hz : inI z) (hw : inI w) (hF : FI ks ad P) (hRK : RK ks ad P) (hRN : RN T) (hDN : DN T) (hSK : SK ks ad T P) (hSN : SN T) (hOK : OK1 ks ad T P) (hON : ON T) (hKF : KF ks T) (hno : ¬ (0 ≤ z ∧ z < T 0 0 7 ∧ 0 ≤ w ∧ w < 5 ∧ w ≠ T 10 z.toNat 0 ∧ T 10 z.toNat 2 = 0 ∧ T 0 0 8 < 30)) : vx_Met l yL_refused wsL_refused (rmX 8 3 22 128) (va_Pc [.ref (ad 0 0), .int (iI (2)), .int (iI (z)), .int (iI (w))] (OkN G b0 (ks, ad, T, P))) (Qr (pI (fun r => (r = 1 ∧ (z < 0 ∨ T 0 0 7 ≤ z)) ∨ (r = 2 ∧ 0 ≤ z ∧ z < T 0 0 7 ∧ (w < 0 ∨ 5 ≤ w ∨ w = T 10 z.toNat 0)) ∨ (r = 3 ∧ 0 ≤ z ∧ z < T 0 0 7 ∧ 0 ≤ w ∧ w < 5 ∧ w ≠ T 10 z.toNat 0)) (ks, ad, T, P)) G b0) (Xr (noX) G b0) 3 22 (Wx b0) := by
  refine vx_ofWH (cc := cL_refused) (maxL := 5) (ret := (some .int)) (hh := [(0, 87, 88, 42), (0, 87, 92, 44), (0, 87, 96, 46)]) (by decide +kernel) rfl ?_
  intro p e s m args below meth c s₁ B hml hv
  obtain ⟨rfl, hok, hN⟩ := hv
  have htb := vx_table (x := yL_refused) (hh := [(0, 87, 88, 42), (0, 87, 92, 44), (0, 87, 96, 46)]) B (atoms_spec (ws := wsL_refused) B.pre (Cond.codeWith yL_refused cL_refused 5 (some .int) [(0, 87, 88, 42), (0, 87, 92, 44), (0, 87, 96, 46)]) List.mem_cons_self)
  have hM : CallFix p m c cL_refused 5 s _ wsL_refused RL := ⟨B.exec, B.bytes, hml, findClass_of_methodNamed B.named, atoms_spec (ws := wsL_refused) B.pre⟩
  have hr := B.returns
  have hlk := B.notSynchronized
  have hC := hok.cur
  have hl := lv_entry ([.ref (ad 0 0), .int (iI (2)), .int (iI (z)), .int (iI (w))]) (n := 5) (Nat.le_of_ble_eq_true rfl)
  rw [lg_entry_eq]
  generalize (lg_sl ([.ref (ad 0 0), .int (iI (2)), .int (iI (z)), .int (iI (w))]) ++ List.replicate (5 - (lg_sl ([.ref (ad 0 0), .int (iI (2)), .int (iI (z)), .int (iI (w))])).length) Slot.unset).toArray = ls at hl ⊢
  have hl : lv_has ls 5 [(0, .ref (ad 0 0)), (1, .int (iI (2))), (2, .int (iI (z))), (3, .int (iI (w)))] := hl
  have hn8 := hOK.1
  refine y_iload_n hM hl 1 rfl rfl dL_refused_0 ?_
  refine y_if_ne hM (by constructor <;> omega) (tgt := 12) dL_refused_1 (by decide) (fun c_1 => ?_) (fun c_1 => False.elim (by omega))
  refine y_iload_n hM hl 1 rfl rfl dL_refused_12 ?_
  refine y_iconst hM dL_refused_13 ?_
  refine y_icmp_ne hM (by constructor <;> omega) (by constructor <;> omega) (tgt := 25) dL_refused_14 (by decide) (fun c_14 => ?_) (fun c_14 => False.elim (by omega))
  refine y_iload_n hM hl 1 rfl rfl dL_refused_25 ?_
  refine y_iconst hM dL_refused_26 ?_
  refine y_icmp_ne hM (by constructor <;> omega) (by constructor <;> omega) (tgt := 39) dL_refused_27 (by decide) (fun c_27 => False.elim (by omega)) (fun c_27 => ?_)
  refine y_aload_n hM hl 0 rfl rfl dL_refused_30 ?_
  refine y_iload_n hM hl 2 rfl rfl dL_refused_31 ?_
  refine y_iload_n hM hl 3 rfl rfl dL_refused_32 ?_
  refine y_callV hM hC (c_order l hfl G b0 ks ad T P (z) (w) hz hw (hKF.2 _ (by omega)) hF hSK hSN ⟨hOK.1, hOK.2.1⟩) (cwV 2 hM.2.2.2.2 gL_refused_X3_order rfl rfl rfl (by decide +kernel) ⟨(Nat.le_of_ble_eq_true rfl), (Nat.le_of_ble_eq_true rfl)⟩) (y_recv hC hF.1 rfl rfl) rfl hl.1 rfl (Nat.le_of_ble_eq_true rfl) dL_refused_33 ⟨(Nat.le_of_ble_eq_true rfl), (Nat.le_of_ble_eq_true rfl)⟩ ?_ (fun v u1 H locs hp hC => ?_)
  ·
    intro E ce q9 u1 H locs hx hC hce hcv hcl
    obtain ⟨x, rfl, hx, hu⟩ := hx; rw [hu] at hC; clear hu; try dsimp only at hx
    rcases hx with ⟨rfl, hx⟩ | ⟨rfl, hx⟩ | ⟨rfl, hx⟩
    ·
      refine y_catch hM hN hC htb [] (0, 87, 88, 42) [(0, 87, 92, 44), (0, 87, 96, 46)] rfl (by decide +kernel) (fun z hz => absurd hz List.not_mem_nil) rfl (by decide) (by decide +kernel) hce hcv hcl rfl ?_
      refine lv_astore (lv' := [(4, .ref q9), (0, .ref (ad 0 0)), (1, .int (iI (2))), (2, .int (iI (z))), (3, .int (iI (w)))]) hM.1 hM.2.1 dL_refused_88 hl (by decide) rfl (fun ls hl => ?_)
      refine y_iconst hM dL_refused_90 ?_
      exact y_iret hM hr hlk hC ⟨_, rfl, (by (try dsimp only) <;> omega), rfl⟩ (Nat.le_of_ble_eq_true rfl) (Nat.le_of_ble_eq_true rfl) dL_refused_91
    ·
      refine y_catch hM hN hC htb [(0, 87, 88, 42)] (0, 87, 92, 44) [(0, 87, 96, 46)] rfl (by decide +kernel) (fun z hz => by
          rcases (show z = (0, 87, 88, 42) from by simpa using hz) with rfl <;> first | (exact ⟨by decide, eB, by decide +kernel, by decide +kernel, by decide +kernel⟩)) rfl (by decide) (by decide +kernel) hce hcv hcl rfl ?_
      refine lv_astore (lv' := [(4, .ref q9), (0, .ref (ad 0 0)), (1, .int (iI (2))), (2, .int (iI (z))), (3, .int (iI (w)))]) hM.1 hM.2.1 dL_refused_92 hl (by decide) rfl (fun ls hl => ?_)
      refine y_iconst hM dL_refused_94 ?_
      exact y_iret hM hr hlk hC ⟨_, rfl, (by (try dsimp only) <;> omega), rfl⟩ (Nat.le_of_ble_eq_true rfl) (Nat.le_of_ble_eq_true rfl) dL_refused_95
    ·
      refine y_catch hM hN hC htb [(0, 87, 88, 42), (0, 87, 92, 44)] (0, 87, 96, 46) [] rfl (by decide +kernel) (fun z hz => by
          rcases (show z = (0, 87, 88, 42) ∨ z = (0, 87, 92, 44) from by simpa using hz) with rfl | rfl <;> first | (exact ⟨by decide, eB, by decide +kernel, by decide +kernel, by decide +kernel⟩) | (exact ⟨by decide, eA, by decide +kernel, by decide +kernel, by decide +kernel⟩)) rfl (by decide) (by decide +kernel) hce hcv hcl rfl ?_
      refine lv_astore (lv' := [(4, .ref q9), (0, .ref (ad 0 0)), (1, .int (iI (2))), (2, .int (iI (z))), (3, .int (iI (w)))]) hM.1 hM.2.1 dL_refused_96 hl (by decide) rfl (fun ls hl => ?_)
      refine y_iconst hM dL_refused_98 ?_
      exact y_iret hM hr hlk hC ⟨_, rfl, (by (try dsimp only) <;> omega), rfl⟩ (Nat.le_of_ble_eq_true rfl) (Nat.le_of_ble_eq_true rfl) dL_refused_99
  obtain ⟨r9, q9, rfl, h9, -⟩ := hp
  exact False.elim (by omega)
  -- the call throws

set_option maxRecDepth 100000 in
set_option maxHeartbeats 8000000 in
theorem c_ref_pay (l : Launch) (hfl : l.stackTraces = false) (G : GG) (b0 : Nat) (ks : KK) (ad : AD) (T : TT) (P : PP) (z w : Int) (hz : inI z) (hw : inI w) (hF : FI ks ad P) (hRK : RK ks ad P) (hRN : RN T) (hDN : DN T) (hSK : SK ks ad T P) (hSN : SN T) (hOK : OK1 ks ad T P) (hON : ON T) (hno : ¬ (0 ≤ z ∧ z < T 0 0 7 ∧ 1 ≤ w ∧ w ≤ 1000000 ∧ T 10 z.toNat 2 = 0 ∧ T 10 z.toNat 1 + thF w (valT T (T 10 z.toNat 0).toNat (T 0 0 5)) ≤ 100000000)) : vx_Met l yL_refused wsL_refused (rmX 9 3 18 150) (va_Pc [.ref (ad 0 0), .int (iI (3)), .int (iI (z)), .int (iI (w))] (OkN G b0 (ks, ad, T, P))) (Qr (pI (fun r => (r = 1 ∧ (z < 0 ∨ T 0 0 7 ≤ z)) ∨ (r = 2 ∧ 0 ≤ z ∧ z < T 0 0 7 ∧ (w < 1 ∨ 1000000 < w)) ∨ (r = 3 ∧ 0 ≤ z ∧ z < T 0 0 7 ∧ 1 ≤ w ∧ w ≤ 1000000)) (ks, ad, T, P)) G b0) (Xr (noX) G b0) 3 18 (Wx b0) := by
  refine vx_ofWH (cc := cL_refused) (maxL := 5) (ret := (some .int)) (hh := [(0, 87, 88, 42), (0, 87, 92, 44), (0, 87, 96, 46)]) (by decide +kernel) rfl ?_
  intro p e s m args below meth c s₁ B hml hv
  obtain ⟨rfl, hok, hN⟩ := hv
  have htb := vx_table (x := yL_refused) (hh := [(0, 87, 88, 42), (0, 87, 92, 44), (0, 87, 96, 46)]) B (atoms_spec (ws := wsL_refused) B.pre (Cond.codeWith yL_refused cL_refused 5 (some .int) [(0, 87, 88, 42), (0, 87, 92, 44), (0, 87, 96, 46)]) List.mem_cons_self)
  have hM : CallFix p m c cL_refused 5 s _ wsL_refused RL := ⟨B.exec, B.bytes, hml, findClass_of_methodNamed B.named, atoms_spec (ws := wsL_refused) B.pre⟩
  have hr := B.returns
  have hlk := B.notSynchronized
  have hC := hok.cur
  have hl := lv_entry ([.ref (ad 0 0), .int (iI (3)), .int (iI (z)), .int (iI (w))]) (n := 5) (Nat.le_of_ble_eq_true rfl)
  rw [lg_entry_eq]
  generalize (lg_sl ([.ref (ad 0 0), .int (iI (3)), .int (iI (z)), .int (iI (w))]) ++ List.replicate (5 - (lg_sl ([.ref (ad 0 0), .int (iI (3)), .int (iI (z)), .int (iI (w))])).length) Slot.unset).toArray = ls at hl ⊢
  have hl : lv_has ls 5 [(0, .ref (ad 0 0)), (1, .int (iI (3))), (2, .int (iI (z))), (3, .int (iI (w)))] := hl
  refine y_iload_n hM hl 1 rfl rfl dL_refused_0 ?_
  refine y_if_ne hM (by constructor <;> omega) (tgt := 12) dL_refused_1 (by decide) (fun c_1 => ?_) (fun c_1 => False.elim (by omega))
  refine y_iload_n hM hl 1 rfl rfl dL_refused_12 ?_
  refine y_iconst hM dL_refused_13 ?_
  refine y_icmp_ne hM (by constructor <;> omega) (by constructor <;> omega) (tgt := 25) dL_refused_14 (by decide) (fun c_14 => ?_) (fun c_14 => False.elim (by omega))
  refine y_iload_n hM hl 1 rfl rfl dL_refused_25 ?_
  refine y_iconst hM dL_refused_26 ?_
  refine y_icmp_ne hM (by constructor <;> omega) (by constructor <;> omega) (tgt := 39) dL_refused_27 (by decide) (fun c_27 => ?_) (fun c_27 => False.elim (by omega))
  refine y_iload_n hM hl 1 rfl rfl dL_refused_39 ?_
  refine y_iconst hM dL_refused_40 ?_
  refine y_icmp_ne hM (by constructor <;> omega) (by constructor <;> omega) (tgt := 53) dL_refused_41 (by decide) (fun c_41 => False.elim (by omega)) (fun c_41 => ?_)
  refine y_aload_n hM hl 0 rfl rfl dL_refused_44 ?_
  refine y_iload_n hM hl 2 rfl rfl dL_refused_45 ?_
  refine y_iload_n hM hl 3 rfl rfl dL_refused_46 ?_
  refine y_callV hM hC (c_pay l hfl G b0 ks ad T P (z) (w) hz hw hF hSK hSN hRK hRN hDN) (cwV 2 hM.2.2.2.2 gL_refused_X3_pay rfl rfl rfl (by decide +kernel) ⟨(Nat.le_of_ble_eq_true rfl), (Nat.le_of_ble_eq_true rfl)⟩) (y_recv hC hF.1 rfl rfl) rfl hl.1 rfl (Nat.le_of_ble_eq_true rfl) dL_refused_47 ⟨(Nat.le_of_ble_eq_true rfl), (Nat.le_of_ble_eq_true rfl)⟩ ?_ (fun v u1 H locs hp hC => ?_)
  ·
    intro E ce q9 u1 H locs hx hC hce hcv hcl
    obtain ⟨x, rfl, hx, hu⟩ := hx; rw [hu] at hC; clear hu; try dsimp only at hx
    rcases hx with ⟨rfl, hx⟩ | ⟨rfl, hx⟩ | ⟨rfl, hx⟩
    ·
      refine y_catch hM hN hC htb [] (0, 87, 88, 42) [(0, 87, 92, 44), (0, 87, 96, 46)] rfl (by decide +kernel) (fun z hz => absurd hz List.not_mem_nil) rfl (by decide) (by decide +kernel) hce hcv hcl rfl ?_
      refine lv_astore (lv' := [(4, .ref q9), (0, .ref (ad 0 0)), (1, .int (iI (3))), (2, .int (iI (z))), (3, .int (iI (w)))]) hM.1 hM.2.1 dL_refused_88 hl (by decide) rfl (fun ls hl => ?_)
      refine y_iconst hM dL_refused_90 ?_
      exact y_iret hM hr hlk hC ⟨_, rfl, (by (try dsimp only) <;> omega), rfl⟩ (Nat.le_of_ble_eq_true rfl) (Nat.le_of_ble_eq_true rfl) dL_refused_91
    ·
      refine y_catch hM hN hC htb [(0, 87, 88, 42)] (0, 87, 92, 44) [(0, 87, 96, 46)] rfl (by decide +kernel) (fun z hz => by
          rcases (show z = (0, 87, 88, 42) from by simpa using hz) with rfl <;> first | (exact ⟨by decide, eB, by decide +kernel, by decide +kernel, by decide +kernel⟩)) rfl (by decide) (by decide +kernel) hce hcv hcl rfl ?_
      refine lv_astore (lv' := [(4, .ref q9), (0, .ref (ad 0 0)), (1, .int (iI (3))), (2, .int (iI (z))), (3, .int (iI (w)))]) hM.1 hM.2.1 dL_refused_92 hl (by decide) rfl (fun ls hl => ?_)
      refine y_iconst hM dL_refused_94 ?_
      exact y_iret hM hr hlk hC ⟨_, rfl, (by (try dsimp only) <;> omega), rfl⟩ (Nat.le_of_ble_eq_true rfl) (Nat.le_of_ble_eq_true rfl) dL_refused_95
    ·
      refine y_catch hM hN hC htb [(0, 87, 88, 42), (0, 87, 92, 44)] (0, 87, 96, 46) [] rfl (by decide +kernel) (fun z hz => by
          rcases (show z = (0, 87, 88, 42) ∨ z = (0, 87, 92, 44) from by simpa using hz) with rfl | rfl <;> first | (exact ⟨by decide, eB, by decide +kernel, by decide +kernel, by decide +kernel⟩) | (exact ⟨by decide, eA, by decide +kernel, by decide +kernel, by decide +kernel⟩)) rfl (by decide) (by decide +kernel) hce hcv hcl rfl ?_
      refine lv_astore (lv' := [(4, .ref q9), (0, .ref (ad 0 0)), (1, .int (iI (3))), (2, .int (iI (z))), (3, .int (iI (w)))]) hM.1 hM.2.1 dL_refused_96 hl (by decide) rfl (fun ls hl => ?_)
      refine y_iconst hM dL_refused_98 ?_
      exact y_iret hM hr hlk hC ⟨_, rfl, (by (try dsimp only) <;> omega), rfl⟩ (Nat.le_of_ble_eq_true rfl) (Nat.le_of_ble_eq_true rfl) dL_refused_99
  obtain ⟨r_47, rfl, h_47, hu⟩ := hp; rw [hu] at hC; clear hu
  try dsimp only at h_47
  refine W.eq (g2 := F0 m 50 ls [.int (iI (r_47))]) rfl ?_
  exact False.elim (by omega)

set_option maxRecDepth 100000 in
set_option maxHeartbeats 8000000 in
theorem c_ref_due (l : Launch) (hfl : l.stackTraces = false) (G : GG) (b0 : Nat) (ks : KK) (ad : AD) (T : TT) (P : PP) (z w : Int) (hz : inI z) (hw : inI w) (hF : FI ks ad P) (hRK : RK ks ad P) (hRN : RN T) (hDN : DN T) (hSK : SK ks ad T P) (hSN : SN T) (hOK : OK1 ks ad T P) (hON : ON T) (hno : ¬ (0 ≤ z ∧ z < T 0 0 8 ∧ T 11 z.toNat 3 ≠ 3)) : vx_Met l yL_refused wsL_refused (rmX 9 2 12 147) (va_Pc [.ref (ad 0 0), .int (iI (4)), .int (iI (z)), .int (iI (w))] (OkN G b0 (ks, ad, T, P))) (Qr (pI (fun r => (r = 1 ∧ (z < 0 ∨ T 0 0 8 ≤ z)) ∨ (r = 3 ∧ 0 ≤ z ∧ z < T 0 0 8)) (ks, ad, T, P)) G b0) (Xr (noX) G b0) 2 12 (Wx b0) := by
  refine vx_ofWH (cc := cL_refused) (maxL := 5) (ret := (some .int)) (hh := [(0, 87, 88, 42), (0, 87, 92, 44), (0, 87, 96, 46)]) (by decide +kernel) rfl ?_
  intro p e s m args below meth c s₁ B hml hv
  obtain ⟨rfl, hok, hN⟩ := hv
  have htb := vx_table (x := yL_refused) (hh := [(0, 87, 88, 42), (0, 87, 92, 44), (0, 87, 96, 46)]) B (atoms_spec (ws := wsL_refused) B.pre (Cond.codeWith yL_refused cL_refused 5 (some .int) [(0, 87, 88, 42), (0, 87, 92, 44), (0, 87, 96, 46)]) List.mem_cons_self)
  have hM : CallFix p m c cL_refused 5 s _ wsL_refused RL := ⟨B.exec, B.bytes, hml, findClass_of_methodNamed B.named, atoms_spec (ws := wsL_refused) B.pre⟩
  have hr := B.returns
  have hlk := B.notSynchronized
  have hC := hok.cur
  have hl := lv_entry ([.ref (ad 0 0), .int (iI (4)), .int (iI (z)), .int (iI (w))]) (n := 5) (Nat.le_of_ble_eq_true rfl)
  rw [lg_entry_eq]
  generalize (lg_sl ([.ref (ad 0 0), .int (iI (4)), .int (iI (z)), .int (iI (w))]) ++ List.replicate (5 - (lg_sl ([.ref (ad 0 0), .int (iI (4)), .int (iI (z)), .int (iI (w))])).length) Slot.unset).toArray = ls at hl ⊢
  have hl : lv_has ls 5 [(0, .ref (ad 0 0)), (1, .int (iI (4))), (2, .int (iI (z))), (3, .int (iI (w)))] := hl
  refine y_iload_n hM hl 1 rfl rfl dL_refused_0 ?_
  refine y_if_ne hM (by constructor <;> omega) (tgt := 12) dL_refused_1 (by decide) (fun c_1 => ?_) (fun c_1 => False.elim (by omega))
  refine y_iload_n hM hl 1 rfl rfl dL_refused_12 ?_
  refine y_iconst hM dL_refused_13 ?_
  refine y_icmp_ne hM (by constructor <;> omega) (by constructor <;> omega) (tgt := 25) dL_refused_14 (by decide) (fun c_14 => ?_) (fun c_14 => False.elim (by omega))
  refine y_iload_n hM hl 1 rfl rfl dL_refused_25 ?_
  refine y_iconst hM dL_refused_26 ?_
  refine y_icmp_ne hM (by constructor <;> omega) (by constructor <;> omega) (tgt := 39) dL_refused_27 (by decide) (fun c_27 => ?_) (fun c_27 => False.elim (by omega))
  refine y_iload_n hM hl 1 rfl rfl dL_refused_39 ?_
  refine y_iconst hM dL_refused_40 ?_
  refine y_icmp_ne hM (by constructor <;> omega) (by constructor <;> omega) (tgt := 53) dL_refused_41 (by decide) (fun c_41 => ?_) (fun c_41 => False.elim (by omega))
  refine y_iload_n hM hl 1 rfl rfl dL_refused_53 ?_
  refine y_iconst hM dL_refused_54 ?_
  refine y_icmp_ne hM (by constructor <;> omega) (by constructor <;> omega) (tgt := 66) dL_refused_55 (by decide) (fun c_55 => False.elim (by omega)) (fun c_55 => ?_)
  refine y_aload_n hM hl 0 rfl rfl dL_refused_58 ?_
  refine y_iload_n hM hl 2 rfl rfl dL_refused_59 ?_
  refine y_callV hM hC (c_due l hfl G b0 ks ad T P (z) hz hF hOK hON) (cwV 1 hM.2.2.2.2 gL_refused_X3_due rfl rfl rfl (by decide +kernel) ⟨(Nat.le_of_ble_eq_true rfl), (Nat.le_of_ble_eq_true rfl)⟩) (y_recv hC hF.1 rfl rfl) rfl hl.1 rfl (Nat.le_of_ble_eq_true rfl) dL_refused_60 ⟨(Nat.le_of_ble_eq_true rfl), (Nat.le_of_ble_eq_true rfl)⟩ ?_ (fun v u1 H locs hp hC => ?_)
  ·
    intro E ce q9 u1 H locs hx hC hce hcv hcl
    obtain ⟨x, rfl, hx, hu⟩ := hx; rw [hu] at hC; clear hu; try dsimp only at hx
    rcases hx with ⟨rfl, hx⟩ | ⟨rfl, hx⟩
    ·
      refine y_catch hM hN hC htb [] (0, 87, 88, 42) [(0, 87, 92, 44), (0, 87, 96, 46)] rfl (by decide +kernel) (fun z hz => absurd hz List.not_mem_nil) rfl (by decide) (by decide +kernel) hce hcv hcl rfl ?_
      refine lv_astore (lv' := [(4, .ref q9), (0, .ref (ad 0 0)), (1, .int (iI (4))), (2, .int (iI (z))), (3, .int (iI (w)))]) hM.1 hM.2.1 dL_refused_88 hl (by decide) rfl (fun ls hl => ?_)
      refine y_iconst hM dL_refused_90 ?_
      exact y_iret hM hr hlk hC ⟨_, rfl, (by (try dsimp only) <;> omega), rfl⟩ (Nat.le_of_ble_eq_true rfl) (Nat.le_of_ble_eq_true rfl) dL_refused_91
    ·
      refine y_catch hM hN hC htb [(0, 87, 88, 42), (0, 87, 92, 44)] (0, 87, 96, 46) [] rfl (by decide +kernel) (fun z hz => by
          rcases (show z = (0, 87, 88, 42) ∨ z = (0, 87, 92, 44) from by simpa using hz) with rfl | rfl <;> first | (exact ⟨by decide, eB, by decide +kernel, by decide +kernel, by decide +kernel⟩) | (exact ⟨by decide, eA, by decide +kernel, by decide +kernel, by decide +kernel⟩)) rfl (by decide) (by decide +kernel) hce hcv hcl rfl ?_
      refine lv_astore (lv' := [(4, .ref q9), (0, .ref (ad 0 0)), (1, .int (iI (4))), (2, .int (iI (z))), (3, .int (iI (w)))]) hM.1 hM.2.1 dL_refused_96 hl (by decide) rfl (fun ls hl => ?_)
      refine y_iconst hM dL_refused_98 ?_
      exact y_iret hM hr hlk hC ⟨_, rfl, (by (try dsimp only) <;> omega), rfl⟩ (Nat.le_of_ble_eq_true rfl) (Nat.le_of_ble_eq_true rfl) dL_refused_99
  obtain ⟨r_60, rfl, h_60, hu⟩ := hp; rw [hu] at hC; clear hu
  try dsimp only at h_60
  refine W.eq (g2 := F0 m 63 ls [.int (iI (r_60))]) rfl ?_
  exact False.elim (by omega)

set_option maxRecDepth 100000 in
set_option maxHeartbeats 8000000 in
theorem c_ref_price (l : Launch) (hfl : l.stackTraces = false) (G : GG) (b0 : Nat) (ks : KK) (ad : AD) (T : TT) (P : PP) (z w : Int) (hz : inI z) (hw : inI w) (hF : FI ks ad P) (hRK : RK ks ad P) (hRN : RN T) (hDN : DN T) (hSK : SK ks ad T P) (hSN : SN T) (hOK : OK1 ks ad T P) (hON : ON T) (hno : ¬ (0 ≤ z ∧ z < 5 ∧ 0 ≤ w ∧ w ≤ T 0 0 5)) : vx_Met l yL_refused wsL_refused (rmX 8 2 12 127) (va_Pc [.ref (ad 0 0), .int (iI (5)), .int (iI (z)), .int (iI (w))] (OkN G b0 (ks, ad, T, P))) (Qr (pI (fun r => r = 2) (ks, ad, T, P)) G b0) (Xr (noX) G b0) 2 12 (Wx b0) := by
  refine vx_ofWH (cc := cL_refused) (maxL := 5) (ret := (some .int)) (hh := [(0, 87, 88, 42), (0, 87, 92, 44), (0, 87, 96, 46)]) (by decide +kernel) rfl ?_
  intro p e s m args below meth c s₁ B hml hv
  obtain ⟨rfl, hok, hN⟩ := hv
  have htb := vx_table (x := yL_refused) (hh := [(0, 87, 88, 42), (0, 87, 92, 44), (0, 87, 96, 46)]) B (atoms_spec (ws := wsL_refused) B.pre (Cond.codeWith yL_refused cL_refused 5 (some .int) [(0, 87, 88, 42), (0, 87, 92, 44), (0, 87, 96, 46)]) List.mem_cons_self)
  have hM : CallFix p m c cL_refused 5 s _ wsL_refused RL := ⟨B.exec, B.bytes, hml, findClass_of_methodNamed B.named, atoms_spec (ws := wsL_refused) B.pre⟩
  have hr := B.returns
  have hlk := B.notSynchronized
  have hC := hok.cur
  have hl := lv_entry ([.ref (ad 0 0), .int (iI (5)), .int (iI (z)), .int (iI (w))]) (n := 5) (Nat.le_of_ble_eq_true rfl)
  rw [lg_entry_eq]
  generalize (lg_sl ([.ref (ad 0 0), .int (iI (5)), .int (iI (z)), .int (iI (w))]) ++ List.replicate (5 - (lg_sl ([.ref (ad 0 0), .int (iI (5)), .int (iI (z)), .int (iI (w))])).length) Slot.unset).toArray = ls at hl ⊢
  have hl : lv_has ls 5 [(0, .ref (ad 0 0)), (1, .int (iI (5))), (2, .int (iI (z))), (3, .int (iI (w)))] := hl
  refine y_iload_n hM hl 1 rfl rfl dL_refused_0 ?_
  refine y_if_ne hM (by constructor <;> omega) (tgt := 12) dL_refused_1 (by decide) (fun c_1 => ?_) (fun c_1 => False.elim (by omega))
  refine y_iload_n hM hl 1 rfl rfl dL_refused_12 ?_
  refine y_iconst hM dL_refused_13 ?_
  refine y_icmp_ne hM (by constructor <;> omega) (by constructor <;> omega) (tgt := 25) dL_refused_14 (by decide) (fun c_14 => ?_) (fun c_14 => False.elim (by omega))
  refine y_iload_n hM hl 1 rfl rfl dL_refused_25 ?_
  refine y_iconst hM dL_refused_26 ?_
  refine y_icmp_ne hM (by constructor <;> omega) (by constructor <;> omega) (tgt := 39) dL_refused_27 (by decide) (fun c_27 => ?_) (fun c_27 => False.elim (by omega))
  refine y_iload_n hM hl 1 rfl rfl dL_refused_39 ?_
  refine y_iconst hM dL_refused_40 ?_
  refine y_icmp_ne hM (by constructor <;> omega) (by constructor <;> omega) (tgt := 53) dL_refused_41 (by decide) (fun c_41 => ?_) (fun c_41 => False.elim (by omega))
  refine y_iload_n hM hl 1 rfl rfl dL_refused_53 ?_
  refine y_iconst hM dL_refused_54 ?_
  refine y_icmp_ne hM (by constructor <;> omega) (by constructor <;> omega) (tgt := 66) dL_refused_55 (by decide) (fun c_55 => ?_) (fun c_55 => False.elim (by omega))
  refine y_iload_n hM hl 1 rfl rfl dL_refused_66 ?_
  refine y_iconst hM dL_refused_67 ?_
  refine y_icmp_ne hM (by constructor <;> omega) (by constructor <;> omega) (tgt := 80) dL_refused_68 (by decide) (fun c_68 => False.elim (by omega)) (fun c_68 => ?_)
  refine y_aload_n hM hl 0 rfl rfl dL_refused_71 ?_
  refine y_iload_n hM hl 2 rfl rfl dL_refused_72 ?_
  refine y_iload_n hM hl 3 rfl rfl dL_refused_73 ?_
  refine y_callV hM hC (c_price l hfl G b0 ks ad T P (z) (w) hz hw hF hRK hRN hDN) (cwV 2 hM.2.2.2.2 gL_refused_X3_price rfl rfl rfl (by decide +kernel) ⟨(Nat.le_of_ble_eq_true rfl), (Nat.le_of_ble_eq_true rfl)⟩) (y_recv hC hF.1 rfl rfl) rfl hl.1 rfl (Nat.le_of_ble_eq_true rfl) dL_refused_74 ⟨(Nat.le_of_ble_eq_true rfl), (Nat.le_of_ble_eq_true rfl)⟩ ?_ (fun v u1 H locs hp hC => ?_)
  ·
    intro E ce q9 u1 H locs hx hC hce hcv hcl
    obtain ⟨x, rfl, hx, hu⟩ := hx; rw [hu] at hC; clear hu; try dsimp only at hx
    obtain ⟨rfl, hx⟩ := hx
    refine y_catch hM hN hC htb [(0, 87, 88, 42)] (0, 87, 92, 44) [(0, 87, 96, 46)] rfl (by decide +kernel) (fun z hz => by
        rcases (show z = (0, 87, 88, 42) from by simpa using hz) with rfl <;> first | (exact ⟨by decide, eB, by decide +kernel, by decide +kernel, by decide +kernel⟩)) rfl (by decide) (by decide +kernel) hce hcv hcl rfl ?_
    refine lv_astore (lv' := [(4, .ref q9), (0, .ref (ad 0 0)), (1, .int (iI (5))), (2, .int (iI (z))), (3, .int (iI (w)))]) hM.1 hM.2.1 dL_refused_92 hl (by decide) rfl (fun ls hl => ?_)
    refine y_iconst hM dL_refused_94 ?_
    exact y_iret hM hr hlk hC ⟨_, rfl, (by (try dsimp only) <;> omega), rfl⟩ (Nat.le_of_ble_eq_true rfl) (Nat.le_of_ble_eq_true rfl) dL_refused_95
  obtain ⟨r_74, rfl, h_74, hu⟩ := hp; rw [hu] at hC; clear hu
  try dsimp only at h_74
  refine W.eq (g2 := F0 m 77 ls [.int (iI (r_74))]) rfl ?_
  exact False.elim (by omega)

set_option maxRecDepth 100000 in
set_option maxHeartbeats 8000000 in
theorem c_ref_stage (l : Launch) (hfl : l.stackTraces = false) (G : GG) (b0 : Nat) (ks : KK) (ad : AD) (T : TT) (P : PP) (z w : Int) (hz : inI z) (hw : inI w) (hF : FI ks ad P) (hRK : RK ks ad P) (hRN : RN T) (hDN : DN T) (hSK : SK ks ad T P) (hSN : SN T) (hOK : OK1 ks ad T P) (hON : ON T) (hno : ¬ (0 ≤ z ∧ z < T 0 0 8)) : vx_Met l yL_refused wsL_refused (rmX 8 1 6 125) (va_Pc [.ref (ad 0 0), .int (iI (6)), .int (iI (z)), .int (iI (w))] (OkN G b0 (ks, ad, T, P))) (Qr (pI (fun r => r = 1) (ks, ad, T, P)) G b0) (Xr (noX) G b0) 1 6 (Wx b0) := by
  refine vx_ofWH (cc := cL_refused) (maxL := 5) (ret := (some .int)) (hh := [(0, 87, 88, 42), (0, 87, 92, 44), (0, 87, 96, 46)]) (by decide +kernel) rfl ?_
  intro p e s m args below meth c s₁ B hml hv
  obtain ⟨rfl, hok, hN⟩ := hv
  have htb := vx_table (x := yL_refused) (hh := [(0, 87, 88, 42), (0, 87, 92, 44), (0, 87, 96, 46)]) B (atoms_spec (ws := wsL_refused) B.pre (Cond.codeWith yL_refused cL_refused 5 (some .int) [(0, 87, 88, 42), (0, 87, 92, 44), (0, 87, 96, 46)]) List.mem_cons_self)
  have hM : CallFix p m c cL_refused 5 s _ wsL_refused RL := ⟨B.exec, B.bytes, hml, findClass_of_methodNamed B.named, atoms_spec (ws := wsL_refused) B.pre⟩
  have hr := B.returns
  have hlk := B.notSynchronized
  have hC := hok.cur
  have hl := lv_entry ([.ref (ad 0 0), .int (iI (6)), .int (iI (z)), .int (iI (w))]) (n := 5) (Nat.le_of_ble_eq_true rfl)
  rw [lg_entry_eq]
  generalize (lg_sl ([.ref (ad 0 0), .int (iI (6)), .int (iI (z)), .int (iI (w))]) ++ List.replicate (5 - (lg_sl ([.ref (ad 0 0), .int (iI (6)), .int (iI (z)), .int (iI (w))])).length) Slot.unset).toArray = ls at hl ⊢
  have hl : lv_has ls 5 [(0, .ref (ad 0 0)), (1, .int (iI (6))), (2, .int (iI (z))), (3, .int (iI (w)))] := hl
  refine y_iload_n hM hl 1 rfl rfl dL_refused_0 ?_
  refine y_if_ne hM (by constructor <;> omega) (tgt := 12) dL_refused_1 (by decide) (fun c_1 => ?_) (fun c_1 => False.elim (by omega))
  refine y_iload_n hM hl 1 rfl rfl dL_refused_12 ?_
  refine y_iconst hM dL_refused_13 ?_
  refine y_icmp_ne hM (by constructor <;> omega) (by constructor <;> omega) (tgt := 25) dL_refused_14 (by decide) (fun c_14 => ?_) (fun c_14 => False.elim (by omega))
  refine y_iload_n hM hl 1 rfl rfl dL_refused_25 ?_
  refine y_iconst hM dL_refused_26 ?_
  refine y_icmp_ne hM (by constructor <;> omega) (by constructor <;> omega) (tgt := 39) dL_refused_27 (by decide) (fun c_27 => ?_) (fun c_27 => False.elim (by omega))
  refine y_iload_n hM hl 1 rfl rfl dL_refused_39 ?_
  refine y_iconst hM dL_refused_40 ?_
  refine y_icmp_ne hM (by constructor <;> omega) (by constructor <;> omega) (tgt := 53) dL_refused_41 (by decide) (fun c_41 => ?_) (fun c_41 => False.elim (by omega))
  refine y_iload_n hM hl 1 rfl rfl dL_refused_53 ?_
  refine y_iconst hM dL_refused_54 ?_
  refine y_icmp_ne hM (by constructor <;> omega) (by constructor <;> omega) (tgt := 66) dL_refused_55 (by decide) (fun c_55 => ?_) (fun c_55 => False.elim (by omega))
  refine y_iload_n hM hl 1 rfl rfl dL_refused_66 ?_
  refine y_iconst hM dL_refused_67 ?_
  refine y_icmp_ne hM (by constructor <;> omega) (by constructor <;> omega) (tgt := 80) dL_refused_68 (by decide) (fun c_68 => ?_) (fun c_68 => False.elim (by omega))
  refine y_aload_n hM hl 0 rfl rfl dL_refused_80 ?_
  refine y_iload_n hM hl 2 rfl rfl dL_refused_81 ?_
  refine y_callV hM hC (c_stage l hfl G b0 ks ad T P (z) hz hF hOK hON) (cwV 1 hM.2.2.2.2 gL_refused_X3_stage rfl rfl rfl (by decide +kernel) ⟨(Nat.le_of_ble_eq_true rfl), (Nat.le_of_ble_eq_true rfl)⟩) (y_recv hC hF.1 rfl rfl) rfl hl.1 rfl (Nat.le_of_ble_eq_true rfl) dL_refused_82 ⟨(Nat.le_of_ble_eq_true rfl), (Nat.le_of_ble_eq_true rfl)⟩ ?_ (fun v u1 H locs hp hC => ?_)
  ·
    intro E ce q9 u1 H locs hx hC hce hcv hcl
    obtain ⟨x, rfl, hx, hu⟩ := hx; rw [hu] at hC; clear hu; try dsimp only at hx
    obtain ⟨rfl, hx⟩ := hx
    refine y_catch hM hN hC htb [] (0, 87, 88, 42) [(0, 87, 92, 44), (0, 87, 96, 46)] rfl (by decide +kernel) (fun z hz => absurd hz List.not_mem_nil) rfl (by decide) (by decide +kernel) hce hcv hcl rfl ?_
    refine lv_astore (lv' := [(4, .ref q9), (0, .ref (ad 0 0)), (1, .int (iI (6))), (2, .int (iI (z))), (3, .int (iI (w)))]) hM.1 hM.2.1 dL_refused_88 hl (by decide) rfl (fun ls hl => ?_)
    refine y_iconst hM dL_refused_90 ?_
    exact y_iret hM hr hlk hC ⟨_, rfl, (by (try dsimp only) <;> omega), rfl⟩ (Nat.le_of_ble_eq_true rfl) (Nat.le_of_ble_eq_true rfl) dL_refused_91
  obtain ⟨r_82, rfl, h_82, hu⟩ := hp; rw [hu] at hC; clear hu
  try dsimp only at h_82
  refine W.eq (g2 := F0 m 85 ls [.int (iI (r_82))]) rfl ?_
  exact False.elim (by omega)
