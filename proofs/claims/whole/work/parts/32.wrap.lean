set_option maxRecDepth 100000 in
set_option maxHeartbeats 8000000 in
theorem c_L_pass (l : Launch) (hfl : l.stackTraces = false) (G : GG) (b0 : Nat) (ks : KK) (ad : AD) (T : TT) (P : PP) (z : Int) (hz : inI z) (hI : IV ks ad T P) : vx_Met l yL_pass wsL_pass (rmX 7 1 6 103) (va_Pc [.ref (ad 0 0), .int (iI (z)), .ref (ad 43 0)] (OkN G b0 (ks, ad, T, P))) (Qr (fun v u1 => ∃ (r : Int) (T1 : TT), v = some (.int (iI r)) ∧ (Wpas T z r T1 ∧ (r = 0 → inI (T1 43 0 0))) ∧ u1 = (ks, ad, T1, P)) G b0) (Xr (noX) G b0) 1 6 (Wx b0) := by
  refine vx_ofWH (cc := cL_pass) (maxL := 4) (ret := (some .int)) (hh := [(0, 9, 12, 13), (0, 9, 15, 15)]) (by decide +kernel) rfl ?_
  intro p e s m args below meth c s₁ B hml hv
  obtain ⟨rfl, hok, hN⟩ := hv
  have htb := vx_table (x := yL_pass) (hh := [(0, 9, 12, 13), (0, 9, 15, 15)]) B (atoms_spec (ws := wsL_pass) B.pre (Cond.codeWith yL_pass cL_pass 4 (some .int) [(0, 9, 12, 13), (0, 9, 15, 15)]) List.mem_cons_self)
  have hM : CallFix p m c cL_pass 4 s _ wsL_pass RL := ⟨B.exec, B.bytes, hml, findClass_of_methodNamed B.named, atoms_spec (ws := wsL_pass) B.pre⟩
  have hr := B.returns
  have hlk := B.notSynchronized
  have hC := hok.cur
  have hl := lv_entry ([.ref (ad 0 0), .int (iI (z)), .ref (ad 43 0)]) (n := 4) (Nat.le_of_ble_eq_true rfl)
  rw [lg_entry_eq]
  generalize (lg_sl ([.ref (ad 0 0), .int (iI (z)), .ref (ad 43 0)]) ++ List.replicate (4 - (lg_sl ([.ref (ad 0 0), .int (iI (z)), .ref (ad 43 0)])).length) Slot.unset).toArray = ls at hl ⊢
  have hl : lv_has ls 4 [(0, .ref (ad 0 0)), (1, .int (iI (z))), (2, .ref (ad 43 0))] := hl
  have hk43 := hI.1.2.2.2.2.2.2
  have hD := hI.2.1.2.1
  obtain ⟨hd0, hd1, hd2, hd3⟩ := id hD
  have hs7 := hI.1.2.2.1.1
  have hs7b := hI.1.2.2.1.2.1
  have ho8 := hI.1.2.2.2.1.1
  have ho8b := hI.1.2.2.2.1.2.1
  refine y_aload_n hM hl 2 rfl rfl dL_pass_0 ?_
  refine y_iconst hM dL_pass_1 ?_
  refine y_aload_n hM hl 0 rfl rfl dL_pass_2 ?_
  refine y_iload_n hM hl 1 rfl rfl dL_pass_3 ?_
  refine y_callV hM hC (c_pass l hfl G b0 ks ad T P (z) hz hI.1.1 hI.2.1.2.1) (cwV 1 hM.2.2.2.2 gL_pass_X3_pass rfl rfl rfl (by decide +kernel) ⟨(Nat.le_of_ble_eq_true rfl), (Nat.le_of_ble_eq_true rfl)⟩) (y_recv hC hI.1.1.1 rfl rfl) rfl hl.1 rfl (Nat.le_of_ble_eq_true rfl) dL_pass_4 ⟨(Nat.le_of_ble_eq_true rfl), (Nat.le_of_ble_eq_true rfl)⟩ ?_ (fun v u1 H locs hp hC => ?_)
  ·
    intro E ce q9 u1 H locs hx hC hce hcv hcl
    obtain ⟨x, rfl, hx, hu⟩ := hx; rw [hu] at hC; clear hu; try dsimp only at hx
    rcases hx with ⟨rfl, hx⟩ | ⟨rfl, hx⟩
    ·
      refine y_catch hM hN hC htb [] (0, 9, 12, 13) [(0, 9, 15, 15)] rfl (by decide +kernel) (fun z hz => absurd hz List.not_mem_nil) rfl (by decide) (by decide +kernel) hce hcv hcl rfl ?_
      refine lv_astore_n (lv' := [(3, .ref q9), (0, .ref (ad 0 0)), (1, .int (iI (z))), (2, .ref (ad 43 0))]) hM.1 hM.2.1 dL_pass_12 rfl hl (by decide) rfl (fun ls hl => ?_)
      refine y_iconst hM dL_pass_13 ?_
      exact y_iret hM hr hlk hC ⟨_, _, rfl, ⟨(Or.inl ⟨rfl, by omega, rfl⟩), fun q => by omega⟩, rfl⟩ (Nat.le_of_ble_eq_true rfl) (Nat.le_of_ble_eq_true rfl) dL_pass_14
    ·
      refine y_catch hM hN hC htb [(0, 9, 12, 13)] (0, 9, 15, 15) [] rfl (by decide +kernel) (fun z hz => by
          rcases (show z = (0, 9, 12, 13) from by simpa using hz) with rfl <;> first | (exact ⟨by decide, eA, by decide +kernel, by decide +kernel, by decide +kernel⟩)) rfl (by decide) (by decide +kernel) hce hcv hcl rfl ?_
      refine lv_astore_n (lv' := [(3, .ref q9), (0, .ref (ad 0 0)), (1, .int (iI (z))), (2, .ref (ad 43 0))]) hM.1 hM.2.1 dL_pass_15 rfl hl (by decide) rfl (fun ls hl => ?_)
      refine y_iconst hM dL_pass_16 ?_
      exact y_iret hM hr hlk hC ⟨_, _, rfl, ⟨(Or.inr (Or.inl ⟨rfl, by omega, rfl⟩)), fun q => by omega⟩, rfl⟩ (Nat.le_of_ble_eq_true rfl) (Nat.le_of_ble_eq_true rfl) dL_pass_17
  obtain ⟨r_4, rfl, h_4, hu⟩ := hp; rw [hu] at hC; clear hu
  try dsimp only at h_4
  refine W.eq (g2 := F0 m 7 ls [.int (iI (r_4)), .int (iI (0)), .ref (ad 43 0)]) rfl ?_
  obtain ⟨e_r, h_4⟩ := h_4
  subst e_r
  refine y_i2l hM (by constructor <;> omega) dL_pass_7 ?_
  refine y_last hM hC hk43 (fun _ _ => rfl) ⟨by omega, by omega⟩ (by decide) dL_pass_8 (fun H locs hC => ?_)
  refine lv_goto (tgt := 18) hM.1 hM.2.1 dL_pass_9 (by decide) ?_
  refine y_iconst hM dL_pass_18 ?_
  exact y_iret hM hr hlk hC ⟨_, _, rfl, ⟨(Or.inr (Or.inr ⟨rfl, by omega, rfl⟩)), fun _ => (show inI (T 0 0 5 + z) from ⟨by omega, by omega⟩)⟩, rfl⟩ (Nat.le_of_ble_eq_true rfl) (Nat.le_of_ble_eq_true rfl) dL_pass_19

set_option maxRecDepth 100000 in
set_option maxHeartbeats 8000000 in
theorem c_L_setPrice (l : Launch) (hfl : l.stackTraces = false) (G : GG) (b0 : Nat) (ks : KK) (ad : AD) (T : TT) (P : PP) (z w : Int) (hz : inI z) (hw : inI w) (hI : IV ks ad T P) : vx_Met l yL_setPrice wsL_setPrice (rmX 8 3 18 128) (va_Pc [.ref (ad 0 0), .int (iI (z)), .int (iI (w)), .ref (ad 43 0)] (OkN G b0 (ks, ad, T, P))) (Qr (fun v u1 => ∃ (r : Int) (T1 : TT), v = some (.int (iI r)) ∧ (Wset T z w r T1 ∧ (r = 0 → inI (T1 43 0 0))) ∧ u1 = (ks, ad, T1, P)) G b0) (Xr (noX) G b0) 3 18 (Wx b0) := by
  refine vx_ofWH (cc := cL_setPrice) (maxL := 5) (ret := (some .int)) (hh := [(0, 10, 13, 13), (0, 10, 17, 15)]) (by decide +kernel) rfl ?_
  intro p e s m args below meth c s₁ B hml hv
  obtain ⟨rfl, hok, hN⟩ := hv
  have htb := vx_table (x := yL_setPrice) (hh := [(0, 10, 13, 13), (0, 10, 17, 15)]) B (atoms_spec (ws := wsL_setPrice) B.pre (Cond.codeWith yL_setPrice cL_setPrice 5 (some .int) [(0, 10, 13, 13), (0, 10, 17, 15)]) List.mem_cons_self)
  have hM : CallFix p m c cL_setPrice 5 s _ wsL_setPrice RL := ⟨B.exec, B.bytes, hml, findClass_of_methodNamed B.named, atoms_spec (ws := wsL_setPrice) B.pre⟩
  have hr := B.returns
  have hlk := B.notSynchronized
  have hC := hok.cur
  have hl := lv_entry ([.ref (ad 0 0), .int (iI (z)), .int (iI (w)), .ref (ad 43 0)]) (n := 5) (Nat.le_of_ble_eq_true rfl)
  rw [lg_entry_eq]
  generalize (lg_sl ([.ref (ad 0 0), .int (iI (z)), .int (iI (w)), .ref (ad 43 0)]) ++ List.replicate (5 - (lg_sl ([.ref (ad 0 0), .int (iI (z)), .int (iI (w)), .ref (ad 43 0)])).length) Slot.unset).toArray = ls at hl ⊢
  have hl : lv_has ls 5 [(0, .ref (ad 0 0)), (1, .int (iI (z))), (2, .int (iI (w))), (3, .ref (ad 43 0))] := hl
  have hk43 := hI.1.2.2.2.2.2.2
  have hD := hI.2.1.2.1
  obtain ⟨hd0, hd1, hd2, hd3⟩ := id hD
  have hs7 := hI.1.2.2.1.1
  have hs7b := hI.1.2.2.1.2.1
  have ho8 := hI.1.2.2.2.1.1
  have ho8b := hI.1.2.2.2.1.2.1
  refine y_aload_n hM hl 3 rfl rfl dL_setPrice_0 ?_
  refine y_iconst hM dL_setPrice_1 ?_
  refine y_aload_n hM hl 0 rfl rfl dL_setPrice_2 ?_
  refine y_iload_n hM hl 1 rfl rfl dL_setPrice_3 ?_
  refine y_iload_n hM hl 2 rfl rfl dL_setPrice_4 ?_
  refine y_callV hM hC (c_setPrice l hfl G b0 ks ad T P (z) (w) hz hw hI.1.1 hI.1.2.1 hI.2.1.1 hI.2.1.2.1) (cwV 2 hM.2.2.2.2 gL_setPrice_X3_setPrice rfl rfl rfl (by decide +kernel) ⟨(Nat.le_of_ble_eq_true rfl), (Nat.le_of_ble_eq_true rfl)⟩) (y_recv hC hI.1.1.1 rfl rfl) rfl hl.1 rfl (Nat.le_of_ble_eq_true rfl) dL_setPrice_5 ⟨(Nat.le_of_ble_eq_true rfl), (Nat.le_of_ble_eq_true rfl)⟩ ?_ (fun v u1 H locs hp hC => ?_)
  ·
    intro E ce q9 u1 H locs hx hC hce hcv hcl
    obtain ⟨x, rfl, hx, hu⟩ := hx; rw [hu] at hC; clear hu; try dsimp only at hx
    rcases hx with ⟨rfl, hx⟩ | ⟨rfl, hx⟩
    ·
      refine y_catch hM hN hC htb [] (0, 10, 13, 13) [(0, 10, 17, 15)] rfl (by decide +kernel) (fun z hz => absurd hz List.not_mem_nil) rfl (by decide) (by decide +kernel) hce hcv hcl rfl ?_
      refine lv_astore (lv' := [(4, .ref q9), (0, .ref (ad 0 0)), (1, .int (iI (z))), (2, .int (iI (w))), (3, .ref (ad 43 0))]) hM.1 hM.2.1 dL_setPrice_13 hl (by decide) rfl (fun ls hl => ?_)
      refine y_iconst hM dL_setPrice_15 ?_
      exact y_iret hM hr hlk hC ⟨_, _, rfl, ⟨(Or.inl ⟨rfl, by omega, rfl⟩), fun q => by omega⟩, rfl⟩ (Nat.le_of_ble_eq_true rfl) (Nat.le_of_ble_eq_true rfl) dL_setPrice_16
    ·
      refine y_catch hM hN hC htb [(0, 10, 13, 13)] (0, 10, 17, 15) [] rfl (by decide +kernel) (fun z hz => by
          rcases (show z = (0, 10, 13, 13) from by simpa using hz) with rfl <;> first | (exact ⟨by decide, eA, by decide +kernel, by decide +kernel, by decide +kernel⟩)) rfl (by decide) (by decide +kernel) hce hcv hcl rfl ?_
      refine lv_astore (lv' := [(4, .ref q9), (0, .ref (ad 0 0)), (1, .int (iI (z))), (2, .int (iI (w))), (3, .ref (ad 43 0))]) hM.1 hM.2.1 dL_setPrice_17 hl (by decide) rfl (fun ls hl => ?_)
      refine y_iconst hM dL_setPrice_19 ?_
      exact y_iret hM hr hlk hC ⟨_, _, rfl, ⟨(Or.inr (Or.inl ⟨rfl, by omega, rfl⟩)), fun q => by omega⟩, rfl⟩ (Nat.le_of_ble_eq_true rfl) (Nat.le_of_ble_eq_true rfl) dL_setPrice_20
  obtain ⟨r_5, rfl, h_5, hu⟩ := hp; rw [hu] at hC; clear hu
  try dsimp only at h_5
  refine W.eq (g2 := F0 m 8 ls [.int (iI (r_5)), .int (iI (0)), .ref (ad 43 0)]) rfl ?_
  obtain ⟨e_r, h_5⟩ := h_5
  subst e_r
  have hv := valT_in hI.2.1.1 (p := z.toNat) (by omega) (T 0 0 5)
  refine y_i2l hM (by constructor <;> omega) dL_setPrice_8 ?_
  refine y_last hM hC hk43 (fun _ _ => rfl) ⟨by omega, by omega⟩ (by decide) dL_setPrice_9 (fun H locs hC => ?_)
  refine lv_goto (tgt := 21) hM.1 hM.2.1 dL_setPrice_10 (by decide) ?_
  refine y_iconst hM dL_setPrice_21 ?_
  exact y_iret hM hr hlk hC ⟨_, _, rfl, ⟨(Or.inr (Or.inr ⟨rfl, by omega, rfl⟩)), fun _ => (show inI (valT T z.toNat (T 0 0 5)) from ⟨by omega, by omega⟩)⟩, rfl⟩ (Nat.le_of_ble_eq_true rfl) (Nat.le_of_ble_eq_true rfl) dL_setPrice_22

set_option maxRecDepth 100000 in
set_option maxHeartbeats 8000000 in
theorem c_L_price (l : Launch) (hfl : l.stackTraces = false) (G : GG) (b0 : Nat) (ks : KK) (ad : AD) (T : TT) (P : PP) (z w : Int) (hz : inI z) (hw : inI w) (hI : IV ks ad T P) : vx_Met l yL_price wsL_price (rmX 8 2 12 127) (va_Pc [.ref (ad 0 0), .int (iI (z)), .int (iI (w)), .ref (ad 43 0)] (OkN G b0 (ks, ad, T, P))) (Qr (fun v u1 => ∃ (r : Int) (T1 : TT), v = some (.int (iI r)) ∧ (Wpri T z w r T1 ∧ (r = 0 → inI (T1 43 0 0))) ∧ u1 = (ks, ad, T1, P)) G b0) (Xr (noX) G b0) 2 12 (Wx b0) := by
  refine vx_ofWH (cc := cL_price) (maxL := 5) (ret := (some .int)) (hh := [(0, 10, 13, 13)]) (by decide +kernel) rfl ?_
  intro p e s m args below meth c s₁ B hml hv
  obtain ⟨rfl, hok, hN⟩ := hv
  have htb := vx_table (x := yL_price) (hh := [(0, 10, 13, 13)]) B (atoms_spec (ws := wsL_price) B.pre (Cond.codeWith yL_price cL_price 5 (some .int) [(0, 10, 13, 13)]) List.mem_cons_self)
  have hM : CallFix p m c cL_price 5 s _ wsL_price RL := ⟨B.exec, B.bytes, hml, findClass_of_methodNamed B.named, atoms_spec (ws := wsL_price) B.pre⟩
  have hr := B.returns
  have hlk := B.notSynchronized
  have hC := hok.cur
  have hl := lv_entry ([.ref (ad 0 0), .int (iI (z)), .int (iI (w)), .ref (ad 43 0)]) (n := 5) (Nat.le_of_ble_eq_true rfl)
  rw [lg_entry_eq]
  generalize (lg_sl ([.ref (ad 0 0), .int (iI (z)), .int (iI (w)), .ref (ad 43 0)]) ++ List.replicate (5 - (lg_sl ([.ref (ad 0 0), .int (iI (z)), .int (iI (w)), .ref (ad 43 0)])).length) Slot.unset).toArray = ls at hl ⊢
  have hl : lv_has ls 5 [(0, .ref (ad 0 0)), (1, .int (iI (z))), (2, .int (iI (w))), (3, .ref (ad 43 0))] := hl
  have hk43 := hI.1.2.2.2.2.2.2
  have hD := hI.2.1.2.1
  obtain ⟨hd0, hd1, hd2, hd3⟩ := id hD
  have hs7 := hI.1.2.2.1.1
  have hs7b := hI.1.2.2.1.2.1
  have ho8 := hI.1.2.2.2.1.1
  have ho8b := hI.1.2.2.2.1.2.1
  refine y_aload_n hM hl 3 rfl rfl dL_price_0 ?_
  refine y_iconst hM dL_price_1 ?_
  refine y_aload_n hM hl 0 rfl rfl dL_price_2 ?_
  refine y_iload_n hM hl 1 rfl rfl dL_price_3 ?_
  refine y_iload_n hM hl 2 rfl rfl dL_price_4 ?_
  refine y_callV hM hC (c_price l hfl G b0 ks ad T P (z) (w) hz hw hI.1.1 hI.1.2.1 hI.2.1.1 hI.2.1.2.1) (cwV 2 hM.2.2.2.2 gL_price_X3_price rfl rfl rfl (by decide +kernel) ⟨(Nat.le_of_ble_eq_true rfl), (Nat.le_of_ble_eq_true rfl)⟩) (y_recv hC hI.1.1.1 rfl rfl) rfl hl.1 rfl (Nat.le_of_ble_eq_true rfl) dL_price_5 ⟨(Nat.le_of_ble_eq_true rfl), (Nat.le_of_ble_eq_true rfl)⟩ ?_ (fun v u1 H locs hp hC => ?_)
  ·
    intro E ce q9 u1 H locs hx hC hce hcv hcl
    obtain ⟨x, rfl, hx, hu⟩ := hx; rw [hu] at hC; clear hu; try dsimp only at hx
    obtain ⟨rfl, hx⟩ := hx
    refine y_catch hM hN hC htb [] (0, 10, 13, 13) [] rfl (by decide +kernel) (fun z hz => absurd hz List.not_mem_nil) rfl (by decide) (by decide +kernel) hce hcv hcl rfl ?_
    refine lv_astore (lv' := [(4, .ref q9), (0, .ref (ad 0 0)), (1, .int (iI (z))), (2, .int (iI (w))), (3, .ref (ad 43 0))]) hM.1 hM.2.1 dL_price_13 hl (by decide) rfl (fun ls hl => ?_)
    refine y_iconst hM dL_price_15 ?_
    exact y_iret hM hr hlk hC ⟨_, _, rfl, ⟨(Or.inl ⟨rfl, by omega, rfl⟩), fun q => by omega⟩, rfl⟩ (Nat.le_of_ble_eq_true rfl) (Nat.le_of_ble_eq_true rfl) dL_price_16
  obtain ⟨r_5, rfl, h_5, hu⟩ := hp; rw [hu] at hC; clear hu
  try dsimp only at h_5
  refine W.eq (g2 := F0 m 8 ls [.int (iI (r_5)), .int (iI (0)), .ref (ad 43 0)]) rfl ?_
  obtain ⟨e_r, h_5⟩ := h_5
  subst e_r
  have hv := valT_in hI.2.1.1 (p := z.toNat) (by omega) w
  refine y_i2l hM (by constructor <;> omega) dL_price_8 ?_
  refine y_last hM hC hk43 (fun _ _ => rfl) ⟨by omega, by omega⟩ (by decide) dL_price_9 (fun H locs hC => ?_)
  refine lv_goto (tgt := 17) hM.1 hM.2.1 dL_price_10 (by decide) ?_
  refine y_iconst hM dL_price_17 ?_
  exact y_iret hM hr hlk hC ⟨_, _, rfl, ⟨(Or.inr ⟨rfl, by omega, rfl⟩), fun _ => (show inI (valT T z.toNat w) from ⟨by omega, by omega⟩)⟩, rfl⟩ (Nat.le_of_ble_eq_true rfl) (Nat.le_of_ble_eq_true rfl) dL_price_18

set_option maxRecDepth 100000 in
set_option maxHeartbeats 8000000 in
theorem c_L_setDefault (l : Launch) (hfl : l.stackTraces = false) (G : GG) (b0 : Nat) (ks : KK) (ad : AD) (T : TT) (P : PP) (z : Int) (hz : inI z) (hI : IV ks ad T P) : vx_Met l yL_setDefault wsL_setDefault (rmX 8 1 6 124) (va_Pc [.ref (ad 0 0), .int (iI (z)), .ref (ad 43 0)] (OkN G b0 (ks, ad, T, P))) (Qr (fun v u1 => ∃ (r : Int) (T1 : TT), v = some (.int (iI r)) ∧ (Wdef T z r T1 ∧ (r = 0 → inI (T1 43 0 0))) ∧ u1 = (ks, ad, T1, P)) G b0) (Xr (noX) G b0) 1 6 (Wx b0) := by
  refine vx_ofWH (cc := cL_setDefault) (maxL := 4) (ret := (some .int)) (hh := [(0, 9, 12, 13)]) (by decide +kernel) rfl ?_
  intro p e s m args below meth c s₁ B hml hv
  obtain ⟨rfl, hok, hN⟩ := hv
  have htb := vx_table (x := yL_setDefault) (hh := [(0, 9, 12, 13)]) B (atoms_spec (ws := wsL_setDefault) B.pre (Cond.codeWith yL_setDefault cL_setDefault 4 (some .int) [(0, 9, 12, 13)]) List.mem_cons_self)
  have hM : CallFix p m c cL_setDefault 4 s _ wsL_setDefault RL := ⟨B.exec, B.bytes, hml, findClass_of_methodNamed B.named, atoms_spec (ws := wsL_setDefault) B.pre⟩
  have hr := B.returns
  have hlk := B.notSynchronized
  have hC := hok.cur
  have hl := lv_entry ([.ref (ad 0 0), .int (iI (z)), .ref (ad 43 0)]) (n := 4) (Nat.le_of_ble_eq_true rfl)
  rw [lg_entry_eq]
  generalize (lg_sl ([.ref (ad 0 0), .int (iI (z)), .ref (ad 43 0)]) ++ List.replicate (4 - (lg_sl ([.ref (ad 0 0), .int (iI (z)), .ref (ad 43 0)])).length) Slot.unset).toArray = ls at hl ⊢
  have hl : lv_has ls 4 [(0, .ref (ad 0 0)), (1, .int (iI (z))), (2, .ref (ad 43 0))] := hl
  have hk43 := hI.1.2.2.2.2.2.2
  have hD := hI.2.1.2.1
  obtain ⟨hd0, hd1, hd2, hd3⟩ := id hD
  have hs7 := hI.1.2.2.1.1
  have hs7b := hI.1.2.2.1.2.1
  have ho8 := hI.1.2.2.2.1.1
  have ho8b := hI.1.2.2.2.1.2.1
  refine y_aload_n hM hl 2 rfl rfl dL_setDefault_0 ?_
  refine y_iconst hM dL_setDefault_1 ?_
  refine y_aload_n hM hl 0 rfl rfl dL_setDefault_2 ?_
  refine y_iload_n hM hl 1 rfl rfl dL_setDefault_3 ?_
  refine y_callV hM hC (c_setDefault l hfl G b0 ks ad T P (z) hz hI.1.1 hI.2.1.2.1) (cwV 1 hM.2.2.2.2 gL_setDefault_X3_setDefault rfl rfl rfl (by decide +kernel) ⟨(Nat.le_of_ble_eq_true rfl), (Nat.le_of_ble_eq_true rfl)⟩) (y_recv hC hI.1.1.1 rfl rfl) rfl hl.1 rfl (Nat.le_of_ble_eq_true rfl) dL_setDefault_4 ⟨(Nat.le_of_ble_eq_true rfl), (Nat.le_of_ble_eq_true rfl)⟩ ?_ (fun v u1 H locs hp hC => ?_)
  ·
    intro E ce q9 u1 H locs hx hC hce hcv hcl
    obtain ⟨x, rfl, hx, hu⟩ := hx; rw [hu] at hC; clear hu; try dsimp only at hx
    obtain ⟨rfl, hx⟩ := hx
    refine y_catch hM hN hC htb [] (0, 9, 12, 13) [] rfl (by decide +kernel) (fun z hz => absurd hz List.not_mem_nil) rfl (by decide) (by decide +kernel) hce hcv hcl rfl ?_
    refine lv_astore_n (lv' := [(3, .ref q9), (0, .ref (ad 0 0)), (1, .int (iI (z))), (2, .ref (ad 43 0))]) hM.1 hM.2.1 dL_setDefault_12 rfl hl (by decide) rfl (fun ls hl => ?_)
    refine y_iconst hM dL_setDefault_13 ?_
    exact y_iret hM hr hlk hC ⟨_, _, rfl, ⟨(Or.inl ⟨rfl, by omega, rfl⟩), fun q => by omega⟩, rfl⟩ (Nat.le_of_ble_eq_true rfl) (Nat.le_of_ble_eq_true rfl) dL_setDefault_14
  obtain ⟨r_4, rfl, h_4, hu⟩ := hp; rw [hu] at hC; clear hu
  try dsimp only at h_4
  refine W.eq (g2 := F0 m 7 ls [.int (iI (r_4)), .int (iI (0)), .ref (ad 43 0)]) rfl ?_
  obtain ⟨e_r, h_4⟩ := h_4
  subst e_r
  refine y_i2l hM (by constructor <;> omega) dL_setDefault_7 ?_
  refine y_last hM hC hk43 (fun _ _ => rfl) ⟨by omega, by omega⟩ (by decide) dL_setDefault_8 (fun H locs hC => ?_)
  refine lv_goto (tgt := 15) hM.1 hM.2.1 dL_setDefault_9 (by decide) ?_
  refine y_iconst hM dL_setDefault_15 ?_
  exact y_iret hM hr hlk hC ⟨_, _, rfl, ⟨(Or.inr ⟨rfl, by omega, rfl⟩), fun _ => (show inI (T 0 0 6) from ⟨by omega, by omega⟩)⟩, rfl⟩ (Nat.le_of_ble_eq_true rfl) (Nat.le_of_ble_eq_true rfl) dL_setDefault_16

set_option maxRecDepth 100000 in
set_option maxHeartbeats 8000000 in
theorem c_L_pay (l : Launch) (hfl : l.stackTraces = false) (G : GG) (b0 : Nat) (ks : KK) (ad : AD) (T : TT) (P : PP) (z w : Int) (hz : inI z) (hw : inI w) (hI : IV ks ad T P) : vx_Met l yL_pay wsL_pay (rmX 9 3 18 150) (va_Pc [.ref (ad 0 0), .int (iI (z)), .int (iI (w)), .ref (ad 43 0)] (OkN G b0 (ks, ad, T, P))) (Qr (fun v u1 => ∃ (r : Int) (T1 : TT), v = some (.int (iI r)) ∧ (Wpay T z w r T1 ∧ (r = 0 → inI (T1 43 0 0))) ∧ u1 = (ks, ad, T1, P)) G b0) (Xr (noX) G b0) 3 18 (Wx b0) := by
  refine vx_ofWH (cc := cL_pay) (maxL := 5) (ret := (some .int)) (hh := [(0, 10, 13, 33), (0, 10, 17, 13), (0, 10, 21, 15)]) (by decide +kernel) rfl ?_
  intro p e s m args below meth c s₁ B hml hv
  obtain ⟨rfl, hok, hN⟩ := hv
  have htb := vx_table (x := yL_pay) (hh := [(0, 10, 13, 33), (0, 10, 17, 13), (0, 10, 21, 15)]) B (atoms_spec (ws := wsL_pay) B.pre (Cond.codeWith yL_pay cL_pay 5 (some .int) [(0, 10, 13, 33), (0, 10, 17, 13), (0, 10, 21, 15)]) List.mem_cons_self)
  have hM : CallFix p m c cL_pay 5 s _ wsL_pay RL := ⟨B.exec, B.bytes, hml, findClass_of_methodNamed B.named, atoms_spec (ws := wsL_pay) B.pre⟩
  have hr := B.returns
  have hlk := B.notSynchronized
  have hC := hok.cur
  have hl := lv_entry ([.ref (ad 0 0), .int (iI (z)), .int (iI (w)), .ref (ad 43 0)]) (n := 5) (Nat.le_of_ble_eq_true rfl)
  rw [lg_entry_eq]
  generalize (lg_sl ([.ref (ad 0 0), .int (iI (z)), .int (iI (w)), .ref (ad 43 0)]) ++ List.replicate (5 - (lg_sl ([.ref (ad 0 0), .int (iI (z)), .int (iI (w)), .ref (ad 43 0)])).length) Slot.unset).toArray = ls at hl ⊢
  have hl : lv_has ls 5 [(0, .ref (ad 0 0)), (1, .int (iI (z))), (2, .int (iI (w))), (3, .ref (ad 43 0))] := hl
  have hk43 := hI.1.2.2.2.2.2.2
  have hD := hI.2.1.2.1
  obtain ⟨hd0, hd1, hd2, hd3⟩ := id hD
  have hs7 := hI.1.2.2.1.1
  have hs7b := hI.1.2.2.1.2.1
  have ho8 := hI.1.2.2.2.1.1
  have ho8b := hI.1.2.2.2.1.2.1
  refine y_aload_n hM hl 3 rfl rfl dL_pay_0 ?_
  refine y_iconst hM dL_pay_1 ?_
  refine y_aload_n hM hl 0 rfl rfl dL_pay_2 ?_
  refine y_iload_n hM hl 1 rfl rfl dL_pay_3 ?_
  refine y_iload_n hM hl 2 rfl rfl dL_pay_4 ?_
  refine y_callV hM hC (c_pay l hfl G b0 ks ad T P (z) (w) hz hw hI.1.1 hI.1.2.2.1 hI.2.1.2.2.1 hI.1.2.1 hI.2.1.1 hI.2.1.2.1) (cwV 2 hM.2.2.2.2 gL_pay_X3_pay rfl rfl rfl (by decide +kernel) ⟨(Nat.le_of_ble_eq_true rfl), (Nat.le_of_ble_eq_true rfl)⟩) (y_recv hC hI.1.1.1 rfl rfl) rfl hl.1 rfl (Nat.le_of_ble_eq_true rfl) dL_pay_5 ⟨(Nat.le_of_ble_eq_true rfl), (Nat.le_of_ble_eq_true rfl)⟩ ?_ (fun v u1 H locs hp hC => ?_)
  ·
    intro E ce q9 u1 H locs hx hC hce hcv hcl
    obtain ⟨x, rfl, hx, hu⟩ := hx; rw [hu] at hC; clear hu; try dsimp only at hx
    rcases hx with ⟨rfl, hx⟩ | ⟨rfl, hx⟩ | ⟨rfl, hx⟩
    ·
      refine y_catch hM hN hC htb [] (0, 10, 13, 33) [(0, 10, 17, 13), (0, 10, 21, 15)] rfl (by decide +kernel) (fun z hz => absurd hz List.not_mem_nil) rfl (by decide) (by decide +kernel) hce hcv hcl rfl ?_
      refine lv_astore (lv' := [(4, .ref q9), (0, .ref (ad 0 0)), (1, .int (iI (z))), (2, .int (iI (w))), (3, .ref (ad 43 0))]) hM.1 hM.2.1 dL_pay_13 hl (by decide) rfl (fun ls hl => ?_)
      refine y_iconst hM dL_pay_15 ?_
      exact y_iret hM hr hlk hC ⟨_, _, rfl, ⟨(Or.inl ⟨rfl, by omega, rfl⟩), fun q => by omega⟩, rfl⟩ (Nat.le_of_ble_eq_true rfl) (Nat.le_of_ble_eq_true rfl) dL_pay_16
    ·
      refine y_catch hM hN hC htb [(0, 10, 13, 33)] (0, 10, 17, 13) [(0, 10, 21, 15)] rfl (by decide +kernel) (fun z hz => by
          rcases (show z = (0, 10, 13, 33) from by simpa using hz) with rfl <;> first | (exact ⟨by decide, eB, by decide +kernel, by decide +kernel, by decide +kernel⟩)) rfl (by decide) (by decide +kernel) hce hcv hcl rfl ?_
      refine lv_astore (lv' := [(4, .ref q9), (0, .ref (ad 0 0)), (1, .int (iI (z))), (2, .int (iI (w))), (3, .ref (ad 43 0))]) hM.1 hM.2.1 dL_pay_17 hl (by decide) rfl (fun ls hl => ?_)
      refine y_iconst hM dL_pay_19 ?_
      exact y_iret hM hr hlk hC ⟨_, _, rfl, ⟨(Or.inr (Or.inl ⟨rfl, by omega, rfl⟩)), fun q => by omega⟩, rfl⟩ (Nat.le_of_ble_eq_true rfl) (Nat.le_of_ble_eq_true rfl) dL_pay_20
    ·
      refine y_catch hM hN hC htb [(0, 10, 13, 33), (0, 10, 17, 13)] (0, 10, 21, 15) [] rfl (by decide +kernel) (fun z hz => by
          rcases (show z = (0, 10, 13, 33) ∨ z = (0, 10, 17, 13) from by simpa using hz) with rfl | rfl <;> first | (exact ⟨by decide, eB, by decide +kernel, by decide +kernel, by decide +kernel⟩) | (exact ⟨by decide, eA, by decide +kernel, by decide +kernel, by decide +kernel⟩)) rfl (by decide) (by decide +kernel) hce hcv hcl rfl ?_
      refine lv_astore (lv' := [(4, .ref q9), (0, .ref (ad 0 0)), (1, .int (iI (z))), (2, .int (iI (w))), (3, .ref (ad 43 0))]) hM.1 hM.2.1 dL_pay_21 hl (by decide) rfl (fun ls hl => ?_)
      refine y_iconst hM dL_pay_23 ?_
      exact y_iret hM hr hlk hC ⟨_, _, rfl, ⟨(Or.inr (Or.inr (Or.inl ⟨rfl, by unfold morT; omega, rfl⟩))), fun q => by omega⟩, rfl⟩ (Nat.le_of_ble_eq_true rfl) (Nat.le_of_ble_eq_true rfl) dL_pay_24
  obtain ⟨r_5, rfl, h_5, hu⟩ := hp; rw [hu] at hC; clear hu
  try dsimp only at h_5
  refine W.eq (g2 := F0 m 8 ls [.int (iI (r_5)), .int (iI (0)), .ref (ad 43 0)]) rfl ?_
  obtain ⟨e_r, h_5⟩ := h_5
  subst e_r
  have hs := hI.2.1.2.2.1 z.toNat (by omega)
  have hv := valT_in hI.2.1.1 (p := (T 10 z.toNat 0).toNat) (by omega) (T 0 0 5)
  have hm1 := thF_nn (m := w) (pr := valT T (T 10 z.toNat 0).toNat (T 0 0 5)) (by omega) (by omega)
  have hm2 := thF_le (m := w) (pr := valT T (T 10 z.toNat 0).toNat (T 0 0 5)) (by omega) (by omega)
  refine y_i2l hM (by constructor <;> omega) dL_pay_8 ?_
  refine y_last hM hC hk43 (fun _ _ => rfl) ⟨by omega, by omega⟩ (by decide) dL_pay_9 (fun H locs hC => ?_)
  refine lv_goto (tgt := 25) hM.1 hM.2.1 dL_pay_10 (by decide) ?_
  refine y_iconst hM dL_pay_25 ?_
  exact y_iret hM hr hlk hC ⟨_, _, rfl, ⟨(Or.inr (Or.inr (Or.inr ⟨rfl, by unfold morT; omega, rfl⟩))), fun _ => (show inI (thF w (valT T (T 10 z.toNat 0).toNat (T 0 0 5))) from ⟨by omega, by omega⟩)⟩, rfl⟩ (Nat.le_of_ble_eq_true rfl) (Nat.le_of_ble_eq_true rfl) dL_pay_26

set_option maxRecDepth 100000 in
set_option maxHeartbeats 8000000 in
theorem c_L_units (l : Launch) (hfl : l.stackTraces = false) (G : GG) (b0 : Nat) (ks : KK) (ad : AD) (T : TT) (P : PP) (z : Int) (hz : inI z) (hI : IV ks ad T P) : vx_Met l yL_units wsL_units (rmX 8 1 6 125) (va_Pc [.ref (ad 0 0), .int (iI (z)), .ref (ad 43 0)] (OkN G b0 (ks, ad, T, P))) (Qr (fun v u1 => ∃ (r : Int) (T1 : TT), v = some (.int (iI r)) ∧ (Wuni T z r T1 ∧ (r = 0 → True)) ∧ u1 = (ks, ad, T1, P)) G b0) (Xr (noX) G b0) 1 6 (Wx b0) := by
  refine vx_ofWH (cc := cL_units) (maxL := 4) (ret := (some .int)) (hh := [(0, 8, 11, 33)]) (by decide +kernel) rfl ?_
  intro p e s m args below meth c s₁ B hml hv
  obtain ⟨rfl, hok, hN⟩ := hv
  have htb := vx_table (x := yL_units) (hh := [(0, 8, 11, 33)]) B (atoms_spec (ws := wsL_units) B.pre (Cond.codeWith yL_units cL_units 4 (some .int) [(0, 8, 11, 33)]) List.mem_cons_self)
  have hM : CallFix p m c cL_units 4 s _ wsL_units RL := ⟨B.exec, B.bytes, hml, findClass_of_methodNamed B.named, atoms_spec (ws := wsL_units) B.pre⟩
  have hr := B.returns
  have hlk := B.notSynchronized
  have hC := hok.cur
  have hl := lv_entry ([.ref (ad 0 0), .int (iI (z)), .ref (ad 43 0)]) (n := 4) (Nat.le_of_ble_eq_true rfl)
  rw [lg_entry_eq]
  generalize (lg_sl ([.ref (ad 0 0), .int (iI (z)), .ref (ad 43 0)]) ++ List.replicate (4 - (lg_sl ([.ref (ad 0 0), .int (iI (z)), .ref (ad 43 0)])).length) Slot.unset).toArray = ls at hl ⊢
  have hl : lv_has ls 4 [(0, .ref (ad 0 0)), (1, .int (iI (z))), (2, .ref (ad 43 0))] := hl
  have hk43 := hI.1.2.2.2.2.2.2
  have hD := hI.2.1.2.1
  obtain ⟨hd0, hd1, hd2, hd3⟩ := id hD
  have hs7 := hI.1.2.2.1.1
  have hs7b := hI.1.2.2.1.2.1
  have ho8 := hI.1.2.2.2.1.1
  have ho8b := hI.1.2.2.2.1.2.1
  refine y_aload_n hM hl 2 rfl rfl dL_units_0 ?_
  refine y_iconst hM dL_units_1 ?_
  refine y_aload_n hM hl 0 rfl rfl dL_units_2 ?_
  refine y_iload_n hM hl 1 rfl rfl dL_units_3 ?_
  refine y_callV hM hC (c_units l hfl G b0 ks ad T P (z) hz hI.1.1 hI.1.2.2.1 hI.2.1.2.2.1) (cwV 1 hM.2.2.2.2 gL_units_X3_units rfl rfl rfl (by decide +kernel) ⟨(Nat.le_of_ble_eq_true rfl), (Nat.le_of_ble_eq_true rfl)⟩) (y_recv hC hI.1.1.1 rfl rfl) rfl hl.1 rfl (Nat.le_of_ble_eq_true rfl) dL_units_4 ⟨(Nat.le_of_ble_eq_true rfl), (Nat.le_of_ble_eq_true rfl)⟩ ?_ (fun v u1 H locs hp hC => ?_)
  ·
    intro E ce q9 u1 H locs hx hC hce hcv hcl
    obtain ⟨x, rfl, hx, hu⟩ := hx; rw [hu] at hC; clear hu; try dsimp only at hx
    obtain ⟨rfl, hx⟩ := hx
    refine y_catch hM hN hC htb [] (0, 8, 11, 33) [] rfl (by decide +kernel) (fun z hz => absurd hz List.not_mem_nil) rfl (by decide) (by decide +kernel) hce hcv hcl rfl ?_
    refine lv_astore_n (lv' := [(3, .ref q9), (0, .ref (ad 0 0)), (1, .int (iI (z))), (2, .ref (ad 43 0))]) hM.1 hM.2.1 dL_units_11 rfl hl (by decide) rfl (fun ls hl => ?_)
    refine y_iconst hM dL_units_12 ?_
    exact y_iret hM hr hlk hC ⟨_, _, rfl, ⟨(Or.inl ⟨rfl, by omega, rfl⟩), fun q => by omega⟩, rfl⟩ (Nat.le_of_ble_eq_true rfl) (Nat.le_of_ble_eq_true rfl) dL_units_13
  obtain ⟨r_4, rfl, h_4, hu⟩ := hp; rw [hu] at hC; clear hu
  try dsimp only at h_4
  refine W.eq (g2 := F0 m 7 ls [.long (lI (r_4)), .int (iI (0)), .ref (ad 43 0)]) rfl ?_
  obtain ⟨e_r, h_4⟩ := h_4
  subst e_r
  refine y_last hM hC hk43 (fun _ _ => rfl) ⟨by omega, by omega⟩ (by decide) dL_units_7 (fun H locs hC => ?_)
  refine lv_goto (tgt := 14) hM.1 hM.2.1 dL_units_8 (by decide) ?_
  refine y_iconst hM dL_units_14 ?_
  exact y_iret hM hr hlk hC ⟨_, _, rfl, ⟨(Or.inr ⟨rfl, by omega, rfl⟩), fun _ => trivial⟩, rfl⟩ (Nat.le_of_ble_eq_true rfl) (Nat.le_of_ble_eq_true rfl) dL_units_15

set_option maxRecDepth 100000 in
set_option maxHeartbeats 8000000 in
theorem c_L_provider (l : Launch) (hfl : l.stackTraces = false) (G : GG) (b0 : Nat) (ks : KK) (ad : AD) (T : TT) (P : PP) (z : Int) (hz : inI z) (hI : IV ks ad T P) : vx_Met l yL_provider wsL_provider (rmX 8 1 6 125) (va_Pc [.ref (ad 0 0), .int (iI (z)), .ref (ad 43 0)] (OkN G b0 (ks, ad, T, P))) (Qr (fun v u1 => ∃ (r : Int) (T1 : TT), v = some (.int (iI r)) ∧ (Wpro T z r T1 ∧ (r = 0 → inI (T1 43 0 0))) ∧ u1 = (ks, ad, T1, P)) G b0) (Xr (noX) G b0) 1 6 (Wx b0) := by
  refine vx_ofWH (cc := cL_provider) (maxL := 4) (ret := (some .int)) (hh := [(0, 9, 12, 33)]) (by decide +kernel) rfl ?_
  intro p e s m args below meth c s₁ B hml hv
  obtain ⟨rfl, hok, hN⟩ := hv
  have htb := vx_table (x := yL_provider) (hh := [(0, 9, 12, 33)]) B (atoms_spec (ws := wsL_provider) B.pre (Cond.codeWith yL_provider cL_provider 4 (some .int) [(0, 9, 12, 33)]) List.mem_cons_self)
  have hM : CallFix p m c cL_provider 4 s _ wsL_provider RL := ⟨B.exec, B.bytes, hml, findClass_of_methodNamed B.named, atoms_spec (ws := wsL_provider) B.pre⟩
  have hr := B.returns
  have hlk := B.notSynchronized
  have hC := hok.cur
  have hl := lv_entry ([.ref (ad 0 0), .int (iI (z)), .ref (ad 43 0)]) (n := 4) (Nat.le_of_ble_eq_true rfl)
  rw [lg_entry_eq]
  generalize (lg_sl ([.ref (ad 0 0), .int (iI (z)), .ref (ad 43 0)]) ++ List.replicate (4 - (lg_sl ([.ref (ad 0 0), .int (iI (z)), .ref (ad 43 0)])).length) Slot.unset).toArray = ls at hl ⊢
  have hl : lv_has ls 4 [(0, .ref (ad 0 0)), (1, .int (iI (z))), (2, .ref (ad 43 0))] := hl
  have hk43 := hI.1.2.2.2.2.2.2
  have hD := hI.2.1.2.1
  obtain ⟨hd0, hd1, hd2, hd3⟩ := id hD
  have hs7 := hI.1.2.2.1.1
  have hs7b := hI.1.2.2.1.2.1
  have ho8 := hI.1.2.2.2.1.1
  have ho8b := hI.1.2.2.2.1.2.1
  refine y_aload_n hM hl 2 rfl rfl dL_provider_0 ?_
  refine y_iconst hM dL_provider_1 ?_
  refine y_aload_n hM hl 0 rfl rfl dL_provider_2 ?_
  refine y_iload_n hM hl 1 rfl rfl dL_provider_3 ?_
  refine y_callV hM hC (c_provider l hfl G b0 ks ad T P (z) hz hI.1.1 hI.1.2.2.1 hI.2.1.2.2.1) (cwV 1 hM.2.2.2.2 gL_provider_X3_provider rfl rfl rfl (by decide +kernel) ⟨(Nat.le_of_ble_eq_true rfl), (Nat.le_of_ble_eq_true rfl)⟩) (y_recv hC hI.1.1.1 rfl rfl) rfl hl.1 rfl (Nat.le_of_ble_eq_true rfl) dL_provider_4 ⟨(Nat.le_of_ble_eq_true rfl), (Nat.le_of_ble_eq_true rfl)⟩ ?_ (fun v u1 H locs hp hC => ?_)
  ·
    intro E ce q9 u1 H locs hx hC hce hcv hcl
    obtain ⟨x, rfl, hx, hu⟩ := hx; rw [hu] at hC; clear hu; try dsimp only at hx
    obtain ⟨rfl, hx⟩ := hx
    refine y_catch hM hN hC htb [] (0, 9, 12, 33) [] rfl (by decide +kernel) (fun z hz => absurd hz List.not_mem_nil) rfl (by decide) (by decide +kernel) hce hcv hcl rfl ?_
    refine lv_astore_n (lv' := [(3, .ref q9), (0, .ref (ad 0 0)), (1, .int (iI (z))), (2, .ref (ad 43 0))]) hM.1 hM.2.1 dL_provider_12 rfl hl (by decide) rfl (fun ls hl => ?_)
    refine y_iconst hM dL_provider_13 ?_
    exact y_iret hM hr hlk hC ⟨_, _, rfl, ⟨(Or.inl ⟨rfl, by omega, rfl⟩), fun q => by omega⟩, rfl⟩ (Nat.le_of_ble_eq_true rfl) (Nat.le_of_ble_eq_true rfl) dL_provider_14
  obtain ⟨r_4, rfl, h_4, hu⟩ := hp; rw [hu] at hC; clear hu
  try dsimp only at h_4
  refine W.eq (g2 := F0 m 7 ls [.int (iI (r_4)), .int (iI (0)), .ref (ad 43 0)]) rfl ?_
  obtain ⟨e_r, h_4⟩ := h_4
  subst e_r
  have hs := hI.2.1.2.2.1 z.toNat (by omega)
  refine y_i2l hM (by constructor <;> omega) dL_provider_7 ?_
  refine y_last hM hC hk43 (fun _ _ => rfl) ⟨by omega, by omega⟩ (by decide) dL_provider_8 (fun H locs hC => ?_)
  refine lv_goto (tgt := 15) hM.1 hM.2.1 dL_provider_9 (by decide) ?_
  refine y_iconst hM dL_provider_15 ?_
  exact y_iret hM hr hlk hC ⟨_, _, rfl, ⟨(Or.inr ⟨rfl, by omega, rfl⟩), fun _ => (show inI (T 10 z.toNat 0) from ⟨by omega, by omega⟩)⟩, rfl⟩ (Nat.le_of_ble_eq_true rfl) (Nat.le_of_ble_eq_true rfl) dL_provider_16

set_option maxRecDepth 100000 in
set_option maxHeartbeats 8000000 in
theorem c_L_step (l : Launch) (hfl : l.stackTraces = false) (G : GG) (b0 : Nat) (ks : KK) (ad : AD) (T : TT) (P : PP) (z : Int) (hz : inI z) (hI : IV ks ad T P) : vx_Met l yL_step wsL_step (rmX 11 7 42 204) (va_Pc [.ref (ad 0 0), .int (iI (z)), .ref (ad 43 0)] (OkN G b0 (ks, ad, T, P))) (Qr (fun v u1 => ∃ (r : Int) (T1 : TT), v = some (.int (iI r)) ∧ (Wstp T 0 z r T1 ∧ (r = 0 → inI (T1 43 0 0))) ∧ u1 = (ks, ad, T1, P)) G b0) (Xr (noX) G b0) 7 42 (Wx b0) := by
  refine vx_ofWH (cc := cL_step) (maxL := 4) (ret := (some .int)) (hh := [(0, 9, 12, 33), (0, 9, 15, 15)]) (by decide +kernel) rfl ?_
  intro p e s m args below meth c s₁ B hml hv
  obtain ⟨rfl, hok, hN⟩ := hv
  have htb := vx_table (x := yL_step) (hh := [(0, 9, 12, 33), (0, 9, 15, 15)]) B (atoms_spec (ws := wsL_step) B.pre (Cond.codeWith yL_step cL_step 4 (some .int) [(0, 9, 12, 33), (0, 9, 15, 15)]) List.mem_cons_self)
  have hM : CallFix p m c cL_step 4 s _ wsL_step RL := ⟨B.exec, B.bytes, hml, findClass_of_methodNamed B.named, atoms_spec (ws := wsL_step) B.pre⟩
  have hr := B.returns
  have hlk := B.notSynchronized
  have hC := hok.cur
  have hl := lv_entry ([.ref (ad 0 0), .int (iI (z)), .ref (ad 43 0)]) (n := 4) (Nat.le_of_ble_eq_true rfl)
  rw [lg_entry_eq]
  generalize (lg_sl ([.ref (ad 0 0), .int (iI (z)), .ref (ad 43 0)]) ++ List.replicate (4 - (lg_sl ([.ref (ad 0 0), .int (iI (z)), .ref (ad 43 0)])).length) Slot.unset).toArray = ls at hl ⊢
  have hl : lv_has ls 4 [(0, .ref (ad 0 0)), (1, .int (iI (z))), (2, .ref (ad 43 0))] := hl
  have hk43 := hI.1.2.2.2.2.2.2
  have hD := hI.2.1.2.1
  obtain ⟨hd0, hd1, hd2, hd3⟩ := id hD
  have hs7 := hI.1.2.2.1.1
  have hs7b := hI.1.2.2.1.2.1
  have ho8 := hI.1.2.2.2.1.1
  have ho8b := hI.1.2.2.2.1.2.1
  refine y_aload_n hM hl 2 rfl rfl dL_step_0 ?_
  refine y_iconst hM dL_step_1 ?_
  refine y_aload_n hM hl 0 rfl rfl dL_step_2 ?_
  refine y_iload_n hM hl 1 rfl rfl dL_step_3 ?_
  refine y_callV hM hC (c_step l hfl G b0 ks ad T P (z) hz hI.1.1 hI.1.2.1 hI.2.1.1 hI.2.1.2.1 hI.1.2.2.1 hI.2.1.2.2.1 hI.1.2.2.2.1 hI.2.1.2.2.2.1) (cwV 1 hM.2.2.2.2 gL_step_X3_step rfl rfl rfl (by decide +kernel) ⟨(Nat.le_of_ble_eq_true rfl), (Nat.le_of_ble_eq_true rfl)⟩) (y_recv hC hI.1.1.1 rfl rfl) rfl hl.1 rfl (Nat.le_of_ble_eq_true rfl) dL_step_4 ⟨(Nat.le_of_ble_eq_true rfl), (Nat.le_of_ble_eq_true rfl)⟩ ?_ (fun v u1 H locs hp hC => ?_)
  ·
    intro E ce q9 u1 H locs hx hC hce hcv hcl
    obtain ⟨x, rfl, hx, hu⟩ := hx; rw [hu] at hC; clear hu; try dsimp only at hx
    rcases hx with ⟨rfl, hx⟩ | ⟨rfl, hx⟩
    ·
      refine y_catch hM hN hC htb [] (0, 9, 12, 33) [(0, 9, 15, 15)] rfl (by decide +kernel) (fun z hz => absurd hz List.not_mem_nil) rfl (by decide) (by decide +kernel) hce hcv hcl rfl ?_
      refine lv_astore_n (lv' := [(3, .ref q9), (0, .ref (ad 0 0)), (1, .int (iI (z))), (2, .ref (ad 43 0))]) hM.1 hM.2.1 dL_step_12 rfl hl (by decide) rfl (fun ls hl => ?_)
      refine y_iconst hM dL_step_13 ?_
      exact y_iret hM hr hlk hC ⟨_, _, rfl, ⟨(Or.inl ⟨rfl, by omega, rfl⟩), fun q => by omega⟩, rfl⟩ (Nat.le_of_ble_eq_true rfl) (Nat.le_of_ble_eq_true rfl) dL_step_14
    ·
      refine y_catch hM hN hC htb [(0, 9, 12, 33)] (0, 9, 15, 15) [] rfl (by decide +kernel) (fun z hz => by
          rcases (show z = (0, 9, 12, 33) from by simpa using hz) with rfl <;> first | (exact ⟨by decide, eB, by decide +kernel, by decide +kernel, by decide +kernel⟩)) rfl (by decide) (by decide +kernel) hce hcv hcl rfl ?_
      refine lv_astore_n (lv' := [(3, .ref q9), (0, .ref (ad 0 0)), (1, .int (iI (z))), (2, .ref (ad 43 0))]) hM.1 hM.2.1 dL_step_15 rfl hl (by decide) rfl (fun ls hl => ?_)
      refine y_iconst hM dL_step_16 ?_
      exact y_iret hM hr hlk hC ⟨_, _, rfl, ⟨(Or.inr (Or.inl ⟨rfl, by omega, rfl⟩)), fun q => by omega⟩, rfl⟩ (Nat.le_of_ble_eq_true rfl) (Nat.le_of_ble_eq_true rfl) dL_step_17
  obtain ⟨r_4, rfl, h_4, hu⟩ := hp; rw [hu] at hC; clear hu
  try dsimp only at h_4
  refine W.eq (g2 := F0 m 7 ls [.int (iI (r_4)), .int (iI (0)), .ref (ad 43 0)]) rfl ?_
  obtain ⟨e_r, h_4⟩ := h_4
  subst e_r
  have ho := hI.2.1.2.2.2.1 z.toNat (by omega)
  have hl := lateT_in (T := T) (k := z.toNat) (by omega) (d := T 0 0 5) ⟨by omega, by omega⟩
  refine y_i2l hM (by constructor <;> omega) dL_step_7 ?_
  refine y_last hM hC hk43 (fun _ _ => rfl) ⟨by omega, by omega⟩ (by decide) dL_step_8 (fun H locs hC => ?_)
  refine lv_goto (tgt := 18) hM.1 hM.2.1 dL_step_9 (by decide) ?_
  refine y_iconst hM dL_step_18 ?_
  exact y_iret hM hr hlk hC ⟨_, _, rfl, ⟨(Or.inr (Or.inr ⟨rfl, by omega, rfl⟩)), fun _ => (show inI (lateT T z.toNat (T 0 0 5)) from ⟨by omega, by omega⟩)⟩, rfl⟩ (Nat.le_of_ble_eq_true rfl) (Nat.le_of_ble_eq_true rfl) dL_step_19

set_option maxRecDepth 100000 in
set_option maxHeartbeats 8000000 in
theorem c_L_force (l : Launch) (hfl : l.stackTraces = false) (G : GG) (b0 : Nat) (ks : KK) (ad : AD) (T : TT) (P : PP) (z : Int) (hz : inI z) (hI : IV ks ad T P) : vx_Met l yL_force wsL_force (rmX 11 7 42 205) (va_Pc [.ref (ad 0 0), .int (iI (z)), .ref (ad 43 0)] (OkN G b0 (ks, ad, T, P))) (Qr (fun v u1 => ∃ (r : Int) (T1 : TT), v = some (.int (iI r)) ∧ (Wstp T 1 z r T1 ∧ (r = 0 → inI (T1 43 0 0))) ∧ u1 = (ks, ad, T1, P)) G b0) (Xr (noX) G b0) 7 42 (Wx b0) := by
  refine vx_ofWH (cc := cL_force) (maxL := 4) (ret := (some .int)) (hh := [(0, 9, 12, 33), (0, 9, 15, 15)]) (by decide +kernel) rfl ?_
  intro p e s m args below meth c s₁ B hml hv
  obtain ⟨rfl, hok, hN⟩ := hv
  have htb := vx_table (x := yL_force) (hh := [(0, 9, 12, 33), (0, 9, 15, 15)]) B (atoms_spec (ws := wsL_force) B.pre (Cond.codeWith yL_force cL_force 4 (some .int) [(0, 9, 12, 33), (0, 9, 15, 15)]) List.mem_cons_self)
  have hM : CallFix p m c cL_force 4 s _ wsL_force RL := ⟨B.exec, B.bytes, hml, findClass_of_methodNamed B.named, atoms_spec (ws := wsL_force) B.pre⟩
  have hr := B.returns
  have hlk := B.notSynchronized
  have hC := hok.cur
  have hl := lv_entry ([.ref (ad 0 0), .int (iI (z)), .ref (ad 43 0)]) (n := 4) (Nat.le_of_ble_eq_true rfl)
  rw [lg_entry_eq]
  generalize (lg_sl ([.ref (ad 0 0), .int (iI (z)), .ref (ad 43 0)]) ++ List.replicate (4 - (lg_sl ([.ref (ad 0 0), .int (iI (z)), .ref (ad 43 0)])).length) Slot.unset).toArray = ls at hl ⊢
  have hl : lv_has ls 4 [(0, .ref (ad 0 0)), (1, .int (iI (z))), (2, .ref (ad 43 0))] := hl
  have hk43 := hI.1.2.2.2.2.2.2
  have hD := hI.2.1.2.1
  obtain ⟨hd0, hd1, hd2, hd3⟩ := id hD
  have hs7 := hI.1.2.2.1.1
  have hs7b := hI.1.2.2.1.2.1
  have ho8 := hI.1.2.2.2.1.1
  have ho8b := hI.1.2.2.2.1.2.1
  refine y_aload_n hM hl 2 rfl rfl dL_force_0 ?_
  refine y_iconst hM dL_force_1 ?_
  refine y_aload_n hM hl 0 rfl rfl dL_force_2 ?_
  refine y_iload_n hM hl 1 rfl rfl dL_force_3 ?_
  refine y_callV hM hC (c_force l hfl G b0 ks ad T P (z) hz hI.1.1 hI.1.2.1 hI.2.1.1 hI.2.1.2.1 hI.1.2.2.1 hI.2.1.2.2.1 hI.1.2.2.2.1 hI.2.1.2.2.2.1) (cwV 1 hM.2.2.2.2 gL_force_X3_force rfl rfl rfl (by decide +kernel) ⟨(Nat.le_of_ble_eq_true rfl), (Nat.le_of_ble_eq_true rfl)⟩) (y_recv hC hI.1.1.1 rfl rfl) rfl hl.1 rfl (Nat.le_of_ble_eq_true rfl) dL_force_4 ⟨(Nat.le_of_ble_eq_true rfl), (Nat.le_of_ble_eq_true rfl)⟩ ?_ (fun v u1 H locs hp hC => ?_)
  ·
    intro E ce q9 u1 H locs hx hC hce hcv hcl
    obtain ⟨x, rfl, hx, hu⟩ := hx; rw [hu] at hC; clear hu; try dsimp only at hx
    rcases hx with ⟨rfl, hx⟩ | ⟨rfl, hx⟩
    ·
      refine y_catch hM hN hC htb [] (0, 9, 12, 33) [(0, 9, 15, 15)] rfl (by decide +kernel) (fun z hz => absurd hz List.not_mem_nil) rfl (by decide) (by decide +kernel) hce hcv hcl rfl ?_
      refine lv_astore_n (lv' := [(3, .ref q9), (0, .ref (ad 0 0)), (1, .int (iI (z))), (2, .ref (ad 43 0))]) hM.1 hM.2.1 dL_force_12 rfl hl (by decide) rfl (fun ls hl => ?_)
      refine y_iconst hM dL_force_13 ?_
      exact y_iret hM hr hlk hC ⟨_, _, rfl, ⟨(Or.inl ⟨rfl, by omega, rfl⟩), fun q => by omega⟩, rfl⟩ (Nat.le_of_ble_eq_true rfl) (Nat.le_of_ble_eq_true rfl) dL_force_14
    ·
      refine y_catch hM hN hC htb [(0, 9, 12, 33)] (0, 9, 15, 15) [] rfl (by decide +kernel) (fun z hz => by
          rcases (show z = (0, 9, 12, 33) from by simpa using hz) with rfl <;> first | (exact ⟨by decide, eB, by decide +kernel, by decide +kernel, by decide +kernel⟩)) rfl (by decide) (by decide +kernel) hce hcv hcl rfl ?_
      refine lv_astore_n (lv' := [(3, .ref q9), (0, .ref (ad 0 0)), (1, .int (iI (z))), (2, .ref (ad 43 0))]) hM.1 hM.2.1 dL_force_15 rfl hl (by decide) rfl (fun ls hl => ?_)
      refine y_iconst hM dL_force_16 ?_
      exact y_iret hM hr hlk hC ⟨_, _, rfl, ⟨(Or.inr (Or.inl ⟨rfl, by omega, rfl⟩)), fun q => by omega⟩, rfl⟩ (Nat.le_of_ble_eq_true rfl) (Nat.le_of_ble_eq_true rfl) dL_force_17
  obtain ⟨r_4, rfl, h_4, hu⟩ := hp; rw [hu] at hC; clear hu
  try dsimp only at h_4
  refine W.eq (g2 := F0 m 7 ls [.int (iI (r_4)), .int (iI (0)), .ref (ad 43 0)]) rfl ?_
  obtain ⟨e_r, h_4⟩ := h_4
  subst e_r
  have ho := hI.2.1.2.2.2.1 z.toNat (by omega)
  have hl := lateT_in (T := T) (k := z.toNat) (by omega) (d := T 0 0 5) ⟨by omega, by omega⟩
  refine y_i2l hM (by constructor <;> omega) dL_force_7 ?_
  refine y_last hM hC hk43 (fun _ _ => rfl) ⟨by omega, by omega⟩ (by decide) dL_force_8 (fun H locs hC => ?_)
  refine lv_goto (tgt := 18) hM.1 hM.2.1 dL_force_9 (by decide) ?_
  refine y_iconst hM dL_force_18 ?_
  exact y_iret hM hr hlk hC ⟨_, _, rfl, ⟨(Or.inr (Or.inr ⟨rfl, by omega, rfl⟩)), fun _ => (show inI (lateT T z.toNat (T 0 0 5)) from ⟨by omega, by omega⟩)⟩, rfl⟩ (Nat.le_of_ble_eq_true rfl) (Nat.le_of_ble_eq_true rfl) dL_force_19

set_option maxRecDepth 100000 in
set_option maxHeartbeats 8000000 in
theorem c_L_stage (l : Launch) (hfl : l.stackTraces = false) (G : GG) (b0 : Nat) (ks : KK) (ad : AD) (T : TT) (P : PP) (z : Int) (hz : inI z) (hI : IV ks ad T P) : vx_Met l yL_stage wsL_stage (rmX 8 1 6 125) (va_Pc [.ref (ad 0 0), .int (iI (z)), .ref (ad 43 0)] (OkN G b0 (ks, ad, T, P))) (Qr (fun v u1 => ∃ (r : Int) (T1 : TT), v = some (.int (iI r)) ∧ (Wstg T z r T1 ∧ (r = 0 → inI (T1 43 0 0))) ∧ u1 = (ks, ad, T1, P)) G b0) (Xr (noX) G b0) 1 6 (Wx b0) := by
  refine vx_ofWH (cc := cL_stage) (maxL := 4) (ret := (some .int)) (hh := [(0, 9, 12, 33)]) (by decide +kernel) rfl ?_
  intro p e s m args below meth c s₁ B hml hv
  obtain ⟨rfl, hok, hN⟩ := hv
  have htb := vx_table (x := yL_stage) (hh := [(0, 9, 12, 33)]) B (atoms_spec (ws := wsL_stage) B.pre (Cond.codeWith yL_stage cL_stage 4 (some .int) [(0, 9, 12, 33)]) List.mem_cons_self)
  have hM : CallFix p m c cL_stage 4 s _ wsL_stage RL := ⟨B.exec, B.bytes, hml, findClass_of_methodNamed B.named, atoms_spec (ws := wsL_stage) B.pre⟩
  have hr := B.returns
  have hlk := B.notSynchronized
  have hC := hok.cur
  have hl := lv_entry ([.ref (ad 0 0), .int (iI (z)), .ref (ad 43 0)]) (n := 4) (Nat.le_of_ble_eq_true rfl)
  rw [lg_entry_eq]
  generalize (lg_sl ([.ref (ad 0 0), .int (iI (z)), .ref (ad 43 0)]) ++ List.replicate (4 - (lg_sl ([.ref (ad 0 0), .int (iI (z)), .ref (ad 43 0)])).length) Slot.unset).toArray = ls at hl ⊢
  have hl : lv_has ls 4 [(0, .ref (ad 0 0)), (1, .int (iI (z))), (2, .ref (ad 43 0))] := hl
  have hk43 := hI.1.2.2.2.2.2.2
  have hD := hI.2.1.2.1
  obtain ⟨hd0, hd1, hd2, hd3⟩ := id hD
  have hs7 := hI.1.2.2.1.1
  have hs7b := hI.1.2.2.1.2.1
  have ho8 := hI.1.2.2.2.1.1
  have ho8b := hI.1.2.2.2.1.2.1
  refine y_aload_n hM hl 2 rfl rfl dL_stage_0 ?_
  refine y_iconst hM dL_stage_1 ?_
  refine y_aload_n hM hl 0 rfl rfl dL_stage_2 ?_
  refine y_iload_n hM hl 1 rfl rfl dL_stage_3 ?_
  refine y_callV hM hC (c_stage l hfl G b0 ks ad T P (z) hz hI.1.1 hI.1.2.2.2.1 hI.2.1.2.2.2.1) (cwV 1 hM.2.2.2.2 gL_stage_X3_stage rfl rfl rfl (by decide +kernel) ⟨(Nat.le_of_ble_eq_true rfl), (Nat.le_of_ble_eq_true rfl)⟩) (y_recv hC hI.1.1.1 rfl rfl) rfl hl.1 rfl (Nat.le_of_ble_eq_true rfl) dL_stage_4 ⟨(Nat.le_of_ble_eq_true rfl), (Nat.le_of_ble_eq_true rfl)⟩ ?_ (fun v u1 H locs hp hC => ?_)
  ·
    intro E ce q9 u1 H locs hx hC hce hcv hcl
    obtain ⟨x, rfl, hx, hu⟩ := hx; rw [hu] at hC; clear hu; try dsimp only at hx
    obtain ⟨rfl, hx⟩ := hx
    refine y_catch hM hN hC htb [] (0, 9, 12, 33) [] rfl (by decide +kernel) (fun z hz => absurd hz List.not_mem_nil) rfl (by decide) (by decide +kernel) hce hcv hcl rfl ?_
    refine lv_astore_n (lv' := [(3, .ref q9), (0, .ref (ad 0 0)), (1, .int (iI (z))), (2, .ref (ad 43 0))]) hM.1 hM.2.1 dL_stage_12 rfl hl (by decide) rfl (fun ls hl => ?_)
    refine y_iconst hM dL_stage_13 ?_
    exact y_iret hM hr hlk hC ⟨_, _, rfl, ⟨(Or.inl ⟨rfl, by omega, rfl⟩), fun q => by omega⟩, rfl⟩ (Nat.le_of_ble_eq_true rfl) (Nat.le_of_ble_eq_true rfl) dL_stage_14
  obtain ⟨r_4, rfl, h_4, hu⟩ := hp; rw [hu] at hC; clear hu
  try dsimp only at h_4
  refine W.eq (g2 := F0 m 7 ls [.int (iI (r_4)), .int (iI (0)), .ref (ad 43 0)]) rfl ?_
  obtain ⟨e_r, h_4⟩ := h_4
  subst e_r
  have ho := hI.2.1.2.2.2.1 z.toNat (by omega)
  refine y_i2l hM (by constructor <;> omega) dL_stage_7 ?_
  refine y_last hM hC hk43 (fun _ _ => rfl) ⟨by omega, by omega⟩ (by decide) dL_stage_8 (fun H locs hC => ?_)
  refine lv_goto (tgt := 15) hM.1 hM.2.1 dL_stage_9 (by decide) ?_
  refine y_iconst hM dL_stage_15 ?_
  exact y_iret hM hr hlk hC ⟨_, _, rfl, ⟨(Or.inr ⟨rfl, by omega, rfl⟩), fun _ => (show inI (T 11 z.toNat 3) from ⟨by omega, by omega⟩)⟩, rfl⟩ (Nat.le_of_ble_eq_true rfl) (Nat.le_of_ble_eq_true rfl) dL_stage_16

set_option maxRecDepth 100000 in
set_option maxHeartbeats 8000000 in
theorem c_L_due (l : Launch) (hfl : l.stackTraces = false) (G : GG) (b0 : Nat) (ks : KK) (ad : AD) (T : TT) (P : PP) (z : Int) (hz : inI z) (hI : IV ks ad T P) : vx_Met l yL_due wsL_due (rmX 9 2 12 147) (va_Pc [.ref (ad 0 0), .int (iI (z)), .ref (ad 43 0)] (OkN G b0 (ks, ad, T, P))) (Qr (fun v u1 => ∃ (r : Int) (T1 : TT), v = some (.int (iI r)) ∧ (Wdue T z r T1 ∧ (r = 0 → inI (T1 43 0 0))) ∧ u1 = (ks, ad, T1, P)) G b0) (Xr (noX) G b0) 2 12 (Wx b0) := by
  refine vx_ofWH (cc := cL_due) (maxL := 4) (ret := (some .int)) (hh := [(0, 9, 12, 33), (0, 9, 15, 15)]) (by decide +kernel) rfl ?_
  intro p e s m args below meth c s₁ B hml hv
  obtain ⟨rfl, hok, hN⟩ := hv
  have htb := vx_table (x := yL_due) (hh := [(0, 9, 12, 33), (0, 9, 15, 15)]) B (atoms_spec (ws := wsL_due) B.pre (Cond.codeWith yL_due cL_due 4 (some .int) [(0, 9, 12, 33), (0, 9, 15, 15)]) List.mem_cons_self)
  have hM : CallFix p m c cL_due 4 s _ wsL_due RL := ⟨B.exec, B.bytes, hml, findClass_of_methodNamed B.named, atoms_spec (ws := wsL_due) B.pre⟩
  have hr := B.returns
  have hlk := B.notSynchronized
  have hC := hok.cur
  have hl := lv_entry ([.ref (ad 0 0), .int (iI (z)), .ref (ad 43 0)]) (n := 4) (Nat.le_of_ble_eq_true rfl)
  rw [lg_entry_eq]
  generalize (lg_sl ([.ref (ad 0 0), .int (iI (z)), .ref (ad 43 0)]) ++ List.replicate (4 - (lg_sl ([.ref (ad 0 0), .int (iI (z)), .ref (ad 43 0)])).length) Slot.unset).toArray = ls at hl ⊢
  have hl : lv_has ls 4 [(0, .ref (ad 0 0)), (1, .int (iI (z))), (2, .ref (ad 43 0))] := hl
  have hk43 := hI.1.2.2.2.2.2.2
  have hD := hI.2.1.2.1
  obtain ⟨hd0, hd1, hd2, hd3⟩ := id hD
  have hs7 := hI.1.2.2.1.1
  have hs7b := hI.1.2.2.1.2.1
  have ho8 := hI.1.2.2.2.1.1
  have ho8b := hI.1.2.2.2.1.2.1
  refine y_aload_n hM hl 2 rfl rfl dL_due_0 ?_
  refine y_iconst hM dL_due_1 ?_
  refine y_aload_n hM hl 0 rfl rfl dL_due_2 ?_
  refine y_iload_n hM hl 1 rfl rfl dL_due_3 ?_
  refine y_callV hM hC (c_due l hfl G b0 ks ad T P (z) hz hI.1.1 hI.1.2.2.2.1 hI.2.1.2.2.2.1) (cwV 1 hM.2.2.2.2 gL_due_X3_due rfl rfl rfl (by decide +kernel) ⟨(Nat.le_of_ble_eq_true rfl), (Nat.le_of_ble_eq_true rfl)⟩) (y_recv hC hI.1.1.1 rfl rfl) rfl hl.1 rfl (Nat.le_of_ble_eq_true rfl) dL_due_4 ⟨(Nat.le_of_ble_eq_true rfl), (Nat.le_of_ble_eq_true rfl)⟩ ?_ (fun v u1 H locs hp hC => ?_)
  ·
    intro E ce q9 u1 H locs hx hC hce hcv hcl
    obtain ⟨x, rfl, hx, hu⟩ := hx; rw [hu] at hC; clear hu; try dsimp only at hx
    rcases hx with ⟨rfl, hx⟩ | ⟨rfl, hx⟩
    ·
      refine y_catch hM hN hC htb [] (0, 9, 12, 33) [(0, 9, 15, 15)] rfl (by decide +kernel) (fun z hz => absurd hz List.not_mem_nil) rfl (by decide) (by decide +kernel) hce hcv hcl rfl ?_
      refine lv_astore_n (lv' := [(3, .ref q9), (0, .ref (ad 0 0)), (1, .int (iI (z))), (2, .ref (ad 43 0))]) hM.1 hM.2.1 dL_due_12 rfl hl (by decide) rfl (fun ls hl => ?_)
      refine y_iconst hM dL_due_13 ?_
      exact y_iret hM hr hlk hC ⟨_, _, rfl, ⟨(Or.inl ⟨rfl, by omega, rfl⟩), fun q => by omega⟩, rfl⟩ (Nat.le_of_ble_eq_true rfl) (Nat.le_of_ble_eq_true rfl) dL_due_14
    ·
      refine y_catch hM hN hC htb [(0, 9, 12, 33)] (0, 9, 15, 15) [] rfl (by decide +kernel) (fun z hz => by
          rcases (show z = (0, 9, 12, 33) from by simpa using hz) with rfl <;> first | (exact ⟨by decide, eB, by decide +kernel, by decide +kernel, by decide +kernel⟩)) rfl (by decide) (by decide +kernel) hce hcv hcl rfl ?_
      refine lv_astore_n (lv' := [(3, .ref q9), (0, .ref (ad 0 0)), (1, .int (iI (z))), (2, .ref (ad 43 0))]) hM.1 hM.2.1 dL_due_15 rfl hl (by decide) rfl (fun ls hl => ?_)
      refine y_iconst hM dL_due_16 ?_
      exact y_iret hM hr hlk hC ⟨_, _, rfl, ⟨(Or.inr (Or.inl ⟨rfl, by omega, rfl⟩)), fun q => by omega⟩, rfl⟩ (Nat.le_of_ble_eq_true rfl) (Nat.le_of_ble_eq_true rfl) dL_due_17
  obtain ⟨r_4, rfl, h_4, hu⟩ := hp; rw [hu] at hC; clear hu
  try dsimp only at h_4
  refine W.eq (g2 := F0 m 7 ls [.int (iI (r_4)), .int (iI (0)), .ref (ad 43 0)]) rfl ?_
  obtain ⟨e_r, h_4⟩ := h_4
  subst e_r
  have ho := hI.2.1.2.2.2.1 z.toNat (by omega)
  have hdu : 0 ≤ dueT T z.toNat ∧ dueT T z.toNat ≤ 3000 := by unfold dueT; split <;> omega
  refine y_i2l hM (by constructor <;> omega) dL_due_7 ?_
  refine y_last hM hC hk43 (fun _ _ => rfl) ⟨by omega, by omega⟩ (by decide) dL_due_8 (fun H locs hC => ?_)
  refine lv_goto (tgt := 18) hM.1 hM.2.1 dL_due_9 (by decide) ?_
  refine y_iconst hM dL_due_18 ?_
  exact y_iret hM hr hlk hC ⟨_, _, rfl, ⟨(Or.inr (Or.inr ⟨rfl, by omega, rfl⟩)), fun _ => (show inI (dueT T z.toNat) from ⟨by omega, by omega⟩)⟩, rfl⟩ (Nat.le_of_ble_eq_true rfl) (Nat.le_of_ble_eq_true rfl) dL_due_19

set_option maxRecDepth 100000 in
set_option maxHeartbeats 8000000 in
theorem c_L_late (l : Launch) (hfl : l.stackTraces = false) (G : GG) (b0 : Nat) (ks : KK) (ad : AD) (T : TT) (P : PP) (z : Int) (hz : inI z) (hI : IV ks ad T P) : vx_Met l yL_late wsL_late (rmX 8 1 6 126) (va_Pc [.ref (ad 0 0), .int (iI (z)), .ref (ad 43 0)] (OkN G b0 (ks, ad, T, P))) (Qr (fun v u1 => ∃ (r : Int) (T1 : TT), v = some (.int (iI r)) ∧ (Wlat T z r T1 ∧ (r = 0 → inI (T1 43 0 0))) ∧ u1 = (ks, ad, T1, P)) G b0) (Xr (noX) G b0) 1 6 (Wx b0) := by
  refine vx_ofWH (cc := cL_late) (maxL := 4) (ret := (some .int)) (hh := [(0, 9, 12, 33)]) (by decide +kernel) rfl ?_
  intro p e s m args below meth c s₁ B hml hv
  obtain ⟨rfl, hok, hN⟩ := hv
  have htb := vx_table (x := yL_late) (hh := [(0, 9, 12, 33)]) B (atoms_spec (ws := wsL_late) B.pre (Cond.codeWith yL_late cL_late 4 (some .int) [(0, 9, 12, 33)]) List.mem_cons_self)
  have hM : CallFix p m c cL_late 4 s _ wsL_late RL := ⟨B.exec, B.bytes, hml, findClass_of_methodNamed B.named, atoms_spec (ws := wsL_late) B.pre⟩
  have hr := B.returns
  have hlk := B.notSynchronized
  have hC := hok.cur
  have hl := lv_entry ([.ref (ad 0 0), .int (iI (z)), .ref (ad 43 0)]) (n := 4) (Nat.le_of_ble_eq_true rfl)
  rw [lg_entry_eq]
  generalize (lg_sl ([.ref (ad 0 0), .int (iI (z)), .ref (ad 43 0)]) ++ List.replicate (4 - (lg_sl ([.ref (ad 0 0), .int (iI (z)), .ref (ad 43 0)])).length) Slot.unset).toArray = ls at hl ⊢
  have hl : lv_has ls 4 [(0, .ref (ad 0 0)), (1, .int (iI (z))), (2, .ref (ad 43 0))] := hl
  have hk43 := hI.1.2.2.2.2.2.2
  have hD := hI.2.1.2.1
  obtain ⟨hd0, hd1, hd2, hd3⟩ := id hD
  have hs7 := hI.1.2.2.1.1
  have hs7b := hI.1.2.2.1.2.1
  have ho8 := hI.1.2.2.2.1.1
  have ho8b := hI.1.2.2.2.1.2.1
  refine y_aload_n hM hl 2 rfl rfl dL_late_0 ?_
  refine y_iconst hM dL_late_1 ?_
  refine y_aload_n hM hl 0 rfl rfl dL_late_2 ?_
  refine y_iload_n hM hl 1 rfl rfl dL_late_3 ?_
  refine y_callV hM hC (c_late l hfl G b0 ks ad T P (z) hz hI.1.1 hI.1.2.2.2.1 hI.2.1.2.2.2.1) (cwV 1 hM.2.2.2.2 gL_late_X3_late rfl rfl rfl (by decide +kernel) ⟨(Nat.le_of_ble_eq_true rfl), (Nat.le_of_ble_eq_true rfl)⟩) (y_recv hC hI.1.1.1 rfl rfl) rfl hl.1 rfl (Nat.le_of_ble_eq_true rfl) dL_late_4 ⟨(Nat.le_of_ble_eq_true rfl), (Nat.le_of_ble_eq_true rfl)⟩ ?_ (fun v u1 H locs hp hC => ?_)
  ·
    intro E ce q9 u1 H locs hx hC hce hcv hcl
    obtain ⟨x, rfl, hx, hu⟩ := hx; rw [hu] at hC; clear hu; try dsimp only at hx
    obtain ⟨rfl, hx⟩ := hx
    refine y_catch hM hN hC htb [] (0, 9, 12, 33) [] rfl (by decide +kernel) (fun z hz => absurd hz List.not_mem_nil) rfl (by decide) (by decide +kernel) hce hcv hcl rfl ?_
    refine lv_astore_n (lv' := [(3, .ref q9), (0, .ref (ad 0 0)), (1, .int (iI (z))), (2, .ref (ad 43 0))]) hM.1 hM.2.1 dL_late_12 rfl hl (by decide) rfl (fun ls hl => ?_)
    refine y_iconst hM dL_late_13 ?_
    exact y_iret hM hr hlk hC ⟨_, _, rfl, ⟨(Or.inl ⟨rfl, by omega, rfl⟩), fun q => by omega⟩, rfl⟩ (Nat.le_of_ble_eq_true rfl) (Nat.le_of_ble_eq_true rfl) dL_late_14
  obtain ⟨r_4, rfl, h_4, hu⟩ := hp; rw [hu] at hC; clear hu
  try dsimp only at h_4
  refine W.eq (g2 := F0 m 7 ls [.int (iI (r_4)), .int (iI (0)), .ref (ad 43 0)]) rfl ?_
  obtain ⟨e_r, h_4⟩ := h_4
  subst e_r
  have ho := hI.2.1.2.2.2.1 z.toNat (by omega)
  refine y_i2l hM (by constructor <;> omega) dL_late_7 ?_
  refine y_last hM hC hk43 (fun _ _ => rfl) ⟨by omega, by omega⟩ (by decide) dL_late_8 (fun H locs hC => ?_)
  refine lv_goto (tgt := 15) hM.1 hM.2.1 dL_late_9 (by decide) ?_
  refine y_iconst hM dL_late_15 ?_
  exact y_iret hM hr hlk hC ⟨_, _, rfl, ⟨(Or.inr ⟨rfl, by omega, rfl⟩), fun _ => (show inI (T 11 z.toNat 5 + T 11 z.toNat 6) from ⟨by omega, by omega⟩)⟩, rfl⟩ (Nat.le_of_ble_eq_true rfl) (Nat.le_of_ble_eq_true rfl) dL_late_16

set_option maxRecDepth 100000 in
set_option maxHeartbeats 8000000 in
theorem c_L_money (l : Launch) (hfl : l.stackTraces = false) (G : GG) (b0 : Nat) (ks : KK) (ad : AD) (T : TT) (P : PP) (z : Int) (hz : inI z) (hI : IV ks ad T P) : vx_Met l yL_money wsL_money (rmX 8 1 6 125) (va_Pc [.ref (ad 0 0), .int (iI (z)), .ref (ad 43 0)] (OkN G b0 (ks, ad, T, P))) (Qr (fun v u1 => ∃ (r : Int) (T1 : TT), v = some (.int (iI r)) ∧ (Wmon T z r T1 ∧ (r = 0 → True)) ∧ u1 = (ks, ad, T1, P)) G b0) (Xr (noX) G b0) 1 6 (Wx b0) := by
  refine vx_ofWH (cc := cL_money) (maxL := 4) (ret := (some .int)) (hh := [(0, 8, 11, 33)]) (by decide +kernel) rfl ?_
  intro p e s m args below meth c s₁ B hml hv
  obtain ⟨rfl, hok, hN⟩ := hv
  have htb := vx_table (x := yL_money) (hh := [(0, 8, 11, 33)]) B (atoms_spec (ws := wsL_money) B.pre (Cond.codeWith yL_money cL_money 4 (some .int) [(0, 8, 11, 33)]) List.mem_cons_self)
  have hM : CallFix p m c cL_money 4 s _ wsL_money RL := ⟨B.exec, B.bytes, hml, findClass_of_methodNamed B.named, atoms_spec (ws := wsL_money) B.pre⟩
  have hr := B.returns
  have hlk := B.notSynchronized
  have hC := hok.cur
  have hl := lv_entry ([.ref (ad 0 0), .int (iI (z)), .ref (ad 43 0)]) (n := 4) (Nat.le_of_ble_eq_true rfl)
  rw [lg_entry_eq]
  generalize (lg_sl ([.ref (ad 0 0), .int (iI (z)), .ref (ad 43 0)]) ++ List.replicate (4 - (lg_sl ([.ref (ad 0 0), .int (iI (z)), .ref (ad 43 0)])).length) Slot.unset).toArray = ls at hl ⊢
  have hl : lv_has ls 4 [(0, .ref (ad 0 0)), (1, .int (iI (z))), (2, .ref (ad 43 0))] := hl
  have hk43 := hI.1.2.2.2.2.2.2
  have hD := hI.2.1.2.1
  obtain ⟨hd0, hd1, hd2, hd3⟩ := id hD
  have hs7 := hI.1.2.2.1.1
  have hs7b := hI.1.2.2.1.2.1
  have ho8 := hI.1.2.2.2.1.1
  have ho8b := hI.1.2.2.2.1.2.1
  refine y_aload_n hM hl 2 rfl rfl dL_money_0 ?_
  refine y_iconst hM dL_money_1 ?_
  refine y_aload_n hM hl 0 rfl rfl dL_money_2 ?_
  refine y_iload_n hM hl 1 rfl rfl dL_money_3 ?_
  refine y_callV hM hC (c_money l hfl G b0 ks ad T P (z) hz hI.1.1 hI.1.2.2.2.1 hI.2.1.2.2.2.1) (cwV 1 hM.2.2.2.2 gL_money_X3_money rfl rfl rfl (by decide +kernel) ⟨(Nat.le_of_ble_eq_true rfl), (Nat.le_of_ble_eq_true rfl)⟩) (y_recv hC hI.1.1.1 rfl rfl) rfl hl.1 rfl (Nat.le_of_ble_eq_true rfl) dL_money_4 ⟨(Nat.le_of_ble_eq_true rfl), (Nat.le_of_ble_eq_true rfl)⟩ ?_ (fun v u1 H locs hp hC => ?_)
  ·
    intro E ce q9 u1 H locs hx hC hce hcv hcl
    obtain ⟨x, rfl, hx, hu⟩ := hx; rw [hu] at hC; clear hu; try dsimp only at hx
    obtain ⟨rfl, hx⟩ := hx
    refine y_catch hM hN hC htb [] (0, 8, 11, 33) [] rfl (by decide +kernel) (fun z hz => absurd hz List.not_mem_nil) rfl (by decide) (by decide +kernel) hce hcv hcl rfl ?_
    refine lv_astore_n (lv' := [(3, .ref q9), (0, .ref (ad 0 0)), (1, .int (iI (z))), (2, .ref (ad 43 0))]) hM.1 hM.2.1 dL_money_11 rfl hl (by decide) rfl (fun ls hl => ?_)
    refine y_iconst hM dL_money_12 ?_
    exact y_iret hM hr hlk hC ⟨_, _, rfl, ⟨(Or.inl ⟨rfl, by omega, rfl⟩), fun q => by omega⟩, rfl⟩ (Nat.le_of_ble_eq_true rfl) (Nat.le_of_ble_eq_true rfl) dL_money_13
  obtain ⟨r_4, rfl, h_4, hu⟩ := hp; rw [hu] at hC; clear hu
  try dsimp only at h_4
  refine W.eq (g2 := F0 m 7 ls [.long (lI (r_4)), .int (iI (0)), .ref (ad 43 0)]) rfl ?_
  obtain ⟨e_r, h_4⟩ := h_4
  subst e_r
  refine y_last hM hC hk43 (fun _ _ => rfl) ⟨by omega, by omega⟩ (by decide) dL_money_7 (fun H locs hC => ?_)
  refine lv_goto (tgt := 14) hM.1 hM.2.1 dL_money_8 (by decide) ?_
  refine y_iconst hM dL_money_14 ?_
  exact y_iret hM hr hlk hC ⟨_, _, rfl, ⟨(Or.inr ⟨rfl, by omega, rfl⟩), fun _ => trivial⟩, rfl⟩ (Nat.le_of_ble_eq_true rfl) (Nat.le_of_ble_eq_true rfl) dL_money_15

set_option maxRecDepth 100000 in
set_option maxHeartbeats 8000000 in
theorem c_L_madeGood (l : Launch) (hfl : l.stackTraces = false) (G : GG) (b0 : Nat) (ks : KK) (ad : AD) (T : TT) (P : PP) (z : Int) (hz : inI z) (hI : IV ks ad T P) : vx_Met l yL_madeGood wsL_madeGood (rmX 8 1 6 125) (va_Pc [.ref (ad 0 0), .int (iI (z)), .ref (ad 43 0)] (OkN G b0 (ks, ad, T, P))) (Qr (fun v u1 => ∃ (r : Int) (T1 : TT), v = some (.int (iI r)) ∧ (Wmad T z r T1 ∧ (r = 0 → True)) ∧ u1 = (ks, ad, T1, P)) G b0) (Xr (noX) G b0) 1 6 (Wx b0) := by
  refine vx_ofWH (cc := cL_madeGood) (maxL := 4) (ret := (some .int)) (hh := [(0, 8, 11, 33)]) (by decide +kernel) rfl ?_
  intro p e s m args below meth c s₁ B hml hv
  obtain ⟨rfl, hok, hN⟩ := hv
  have htb := vx_table (x := yL_madeGood) (hh := [(0, 8, 11, 33)]) B (atoms_spec (ws := wsL_madeGood) B.pre (Cond.codeWith yL_madeGood cL_madeGood 4 (some .int) [(0, 8, 11, 33)]) List.mem_cons_self)
  have hM : CallFix p m c cL_madeGood 4 s _ wsL_madeGood RL := ⟨B.exec, B.bytes, hml, findClass_of_methodNamed B.named, atoms_spec (ws := wsL_madeGood) B.pre⟩
  have hr := B.returns
  have hlk := B.notSynchronized
  have hC := hok.cur
  have hl := lv_entry ([.ref (ad 0 0), .int (iI (z)), .ref (ad 43 0)]) (n := 4) (Nat.le_of_ble_eq_true rfl)
  rw [lg_entry_eq]
  generalize (lg_sl ([.ref (ad 0 0), .int (iI (z)), .ref (ad 43 0)]) ++ List.replicate (4 - (lg_sl ([.ref (ad 0 0), .int (iI (z)), .ref (ad 43 0)])).length) Slot.unset).toArray = ls at hl ⊢
  have hl : lv_has ls 4 [(0, .ref (ad 0 0)), (1, .int (iI (z))), (2, .ref (ad 43 0))] := hl
  have hk43 := hI.1.2.2.2.2.2.2
  have hD := hI.2.1.2.1
  obtain ⟨hd0, hd1, hd2, hd3⟩ := id hD
  have hs7 := hI.1.2.2.1.1
  have hs7b := hI.1.2.2.1.2.1
  have ho8 := hI.1.2.2.2.1.1
  have ho8b := hI.1.2.2.2.1.2.1
  refine y_aload_n hM hl 2 rfl rfl dL_madeGood_0 ?_
  refine y_iconst hM dL_madeGood_1 ?_
  refine y_aload_n hM hl 0 rfl rfl dL_madeGood_2 ?_
  refine y_iload_n hM hl 1 rfl rfl dL_madeGood_3 ?_
  refine y_callV hM hC (c_madeGood l hfl G b0 ks ad T P (z) hz hI.1.1 hI.1.2.2.2.1 hI.2.1.2.2.2.1) (cwV 1 hM.2.2.2.2 gL_madeGood_X3_madeGood rfl rfl rfl (by decide +kernel) ⟨(Nat.le_of_ble_eq_true rfl), (Nat.le_of_ble_eq_true rfl)⟩) (y_recv hC hI.1.1.1 rfl rfl) rfl hl.1 rfl (Nat.le_of_ble_eq_true rfl) dL_madeGood_4 ⟨(Nat.le_of_ble_eq_true rfl), (Nat.le_of_ble_eq_true rfl)⟩ ?_ (fun v u1 H locs hp hC => ?_)
  ·
    intro E ce q9 u1 H locs hx hC hce hcv hcl
    obtain ⟨x, rfl, hx, hu⟩ := hx; rw [hu] at hC; clear hu; try dsimp only at hx
    obtain ⟨rfl, hx⟩ := hx
    refine y_catch hM hN hC htb [] (0, 8, 11, 33) [] rfl (by decide +kernel) (fun z hz => absurd hz List.not_mem_nil) rfl (by decide) (by decide +kernel) hce hcv hcl rfl ?_
    refine lv_astore_n (lv' := [(3, .ref q9), (0, .ref (ad 0 0)), (1, .int (iI (z))), (2, .ref (ad 43 0))]) hM.1 hM.2.1 dL_madeGood_11 rfl hl (by decide) rfl (fun ls hl => ?_)
    refine y_iconst hM dL_madeGood_12 ?_
    exact y_iret hM hr hlk hC ⟨_, _, rfl, ⟨(Or.inl ⟨rfl, by omega, rfl⟩), fun q => by omega⟩, rfl⟩ (Nat.le_of_ble_eq_true rfl) (Nat.le_of_ble_eq_true rfl) dL_madeGood_13
  obtain ⟨r_4, rfl, h_4, hu⟩ := hp; rw [hu] at hC; clear hu
  try dsimp only at h_4
  refine W.eq (g2 := F0 m 7 ls [.long (lI (r_4)), .int (iI (0)), .ref (ad 43 0)]) rfl ?_
  obtain ⟨e_r, h_4⟩ := h_4
  subst e_r
  refine y_last hM hC hk43 (fun _ _ => rfl) ⟨by omega, by omega⟩ (by decide) dL_madeGood_7 (fun H locs hC => ?_)
  refine lv_goto (tgt := 14) hM.1 hM.2.1 dL_madeGood_8 (by decide) ?_
  refine y_iconst hM dL_madeGood_14 ?_
  exact y_iret hM hr hlk hC ⟨_, _, rfl, ⟨(Or.inr ⟨rfl, by omega, rfl⟩), fun _ => trivial⟩, rfl⟩ (Nat.le_of_ble_eq_true rfl) (Nat.le_of_ble_eq_true rfl) dL_madeGood_15

set_option maxRecDepth 100000 in
set_option maxHeartbeats 8000000 in
theorem c_L_owes (l : Launch) (hfl : l.stackTraces = false) (G : GG) (b0 : Nat) (ks : KK) (ad : AD) (T : TT) (P : PP) (z w : Int) (hz : inI z) (hw : inI w) (hI : IV ks ad T P) : vx_Met l yL_owes wsL_owes (rmX 8 2 12 124) (va_Pc [.ref (ad 0 0), .int (iI (z)), .int (iI (w)), .ref (ad 43 0)] (OkN G b0 (ks, ad, T, P))) (Qr (fun v u1 => ∃ (r : Int) (T1 : TT), v = some (.int (iI r)) ∧ (Wowe T z w r T1 ∧ (r = 0 → True)) ∧ u1 = (ks, ad, T1, P)) G b0) (Xr (noX) G b0) 2 12 (Wx b0) := by
  refine vx_ofWH (cc := cL_owes) (maxL := 5) (ret := (some .int)) (hh := [(0, 9, 12, 13)]) (by decide +kernel) rfl ?_
  intro p e s m args below meth c s₁ B hml hv
  obtain ⟨rfl, hok, hN⟩ := hv
  have htb := vx_table (x := yL_owes) (hh := [(0, 9, 12, 13)]) B (atoms_spec (ws := wsL_owes) B.pre (Cond.codeWith yL_owes cL_owes 5 (some .int) [(0, 9, 12, 13)]) List.mem_cons_self)
  have hM : CallFix p m c cL_owes 5 s _ wsL_owes RL := ⟨B.exec, B.bytes, hml, findClass_of_methodNamed B.named, atoms_spec (ws := wsL_owes) B.pre⟩
  have hr := B.returns
  have hlk := B.notSynchronized
  have hC := hok.cur
  have hl := lv_entry ([.ref (ad 0 0), .int (iI (z)), .int (iI (w)), .ref (ad 43 0)]) (n := 5) (Nat.le_of_ble_eq_true rfl)
  rw [lg_entry_eq]
  generalize (lg_sl ([.ref (ad 0 0), .int (iI (z)), .int (iI (w)), .ref (ad 43 0)]) ++ List.replicate (5 - (lg_sl ([.ref (ad 0 0), .int (iI (z)), .int (iI (w)), .ref (ad 43 0)])).length) Slot.unset).toArray = ls at hl ⊢
  have hl : lv_has ls 5 [(0, .ref (ad 0 0)), (1, .int (iI (z))), (2, .int (iI (w))), (3, .ref (ad 43 0))] := hl
  have hk43 := hI.1.2.2.2.2.2.2
  have hD := hI.2.1.2.1
  obtain ⟨hd0, hd1, hd2, hd3⟩ := id hD
  have hs7 := hI.1.2.2.1.1
  have hs7b := hI.1.2.2.1.2.1
  have ho8 := hI.1.2.2.2.1.1
  have ho8b := hI.1.2.2.2.1.2.1
  refine y_aload_n hM hl 3 rfl rfl dL_owes_0 ?_
  refine y_iconst hM dL_owes_1 ?_
  refine y_aload_n hM hl 0 rfl rfl dL_owes_2 ?_
  refine y_iload_n hM hl 1 rfl rfl dL_owes_3 ?_
  refine y_iload_n hM hl 2 rfl rfl dL_owes_4 ?_
  refine y_callV hM hC (c_owes l hfl G b0 ks ad T P (z) (w) hz hw hI.1.1 hI.1.2.1) (cwV 2 hM.2.2.2.2 gL_owes_X3_owes rfl rfl rfl (by decide +kernel) ⟨(Nat.le_of_ble_eq_true rfl), (Nat.le_of_ble_eq_true rfl)⟩) (y_recv hC hI.1.1.1 rfl rfl) rfl hl.1 rfl (Nat.le_of_ble_eq_true rfl) dL_owes_5 ⟨(Nat.le_of_ble_eq_true rfl), (Nat.le_of_ble_eq_true rfl)⟩ ?_ (fun v u1 H locs hp hC => ?_)
  ·
    intro E ce q9 u1 H locs hx hC hce hcv hcl
    obtain ⟨x, rfl, hx, hu⟩ := hx; rw [hu] at hC; clear hu; try dsimp only at hx
    obtain ⟨rfl, hx⟩ := hx
    refine y_catch hM hN hC htb [] (0, 9, 12, 13) [] rfl (by decide +kernel) (fun z hz => absurd hz List.not_mem_nil) rfl (by decide) (by decide +kernel) hce hcv hcl rfl ?_
    refine lv_astore (lv' := [(4, .ref q9), (0, .ref (ad 0 0)), (1, .int (iI (z))), (2, .int (iI (w))), (3, .ref (ad 43 0))]) hM.1 hM.2.1 dL_owes_12 hl (by decide) rfl (fun ls hl => ?_)
    refine y_iconst hM dL_owes_14 ?_
    exact y_iret hM hr hlk hC ⟨_, _, rfl, ⟨(Or.inl ⟨rfl, by omega, rfl⟩), fun q => by omega⟩, rfl⟩ (Nat.le_of_ble_eq_true rfl) (Nat.le_of_ble_eq_true rfl) dL_owes_15
  obtain ⟨r_5, rfl, h_5, hu⟩ := hp; rw [hu] at hC; clear hu
  try dsimp only at h_5
  refine W.eq (g2 := F0 m 8 ls [.long (lI (r_5)), .int (iI (0)), .ref (ad 43 0)]) rfl ?_
  obtain ⟨e_r, h_5⟩ := h_5
  subst e_r
  refine y_last hM hC hk43 (fun _ _ => rfl) ⟨by omega, by omega⟩ (by decide) dL_owes_8 (fun H locs hC => ?_)
  refine lv_goto (tgt := 16) hM.1 hM.2.1 dL_owes_9 (by decide) ?_
  refine y_iconst hM dL_owes_16 ?_
  exact y_iret hM hr hlk hC ⟨_, _, rfl, ⟨(Or.inr ⟨rfl, by omega, rfl⟩), fun _ => trivial⟩, rfl⟩ (Nat.le_of_ble_eq_true rfl) (Nat.le_of_ble_eq_true rfl) dL_owes_17

set_option maxRecDepth 100000 in
set_option maxHeartbeats 8000000 in
theorem c_L_losses (l : Launch) (hfl : l.stackTraces = false) (G : GG) (b0 : Nat) (ks : KK) (ad : AD) (T : TT) (P : PP) (z : Int) (hz : inI z) (hI : IV ks ad T P) : vx_Met l yL_losses wsL_losses (rmX 8 1 6 123) (va_Pc [.ref (ad 0 0), .int (iI (z)), .ref (ad 43 0)] (OkN G b0 (ks, ad, T, P))) (Qr (fun v u1 => ∃ (r : Int) (T1 : TT), v = some (.int (iI r)) ∧ (Wlos T z r T1 ∧ (r = 0 → True)) ∧ u1 = (ks, ad, T1, P)) G b0) (Xr (noX) G b0) 1 6 (Wx b0) := by
  refine vx_ofWH (cc := cL_losses) (maxL := 4) (ret := (some .int)) (hh := [(0, 8, 11, 13)]) (by decide +kernel) rfl ?_
  intro p e s m args below meth c s₁ B hml hv
  obtain ⟨rfl, hok, hN⟩ := hv
  have htb := vx_table (x := yL_losses) (hh := [(0, 8, 11, 13)]) B (atoms_spec (ws := wsL_losses) B.pre (Cond.codeWith yL_losses cL_losses 4 (some .int) [(0, 8, 11, 13)]) List.mem_cons_self)
  have hM : CallFix p m c cL_losses 4 s _ wsL_losses RL := ⟨B.exec, B.bytes, hml, findClass_of_methodNamed B.named, atoms_spec (ws := wsL_losses) B.pre⟩
  have hr := B.returns
  have hlk := B.notSynchronized
  have hC := hok.cur
  have hl := lv_entry ([.ref (ad 0 0), .int (iI (z)), .ref (ad 43 0)]) (n := 4) (Nat.le_of_ble_eq_true rfl)
  rw [lg_entry_eq]
  generalize (lg_sl ([.ref (ad 0 0), .int (iI (z)), .ref (ad 43 0)]) ++ List.replicate (4 - (lg_sl ([.ref (ad 0 0), .int (iI (z)), .ref (ad 43 0)])).length) Slot.unset).toArray = ls at hl ⊢
  have hl : lv_has ls 4 [(0, .ref (ad 0 0)), (1, .int (iI (z))), (2, .ref (ad 43 0))] := hl
  have hk43 := hI.1.2.2.2.2.2.2
  have hD := hI.2.1.2.1
  obtain ⟨hd0, hd1, hd2, hd3⟩ := id hD
  have hs7 := hI.1.2.2.1.1
  have hs7b := hI.1.2.2.1.2.1
  have ho8 := hI.1.2.2.2.1.1
  have ho8b := hI.1.2.2.2.1.2.1
  refine y_aload_n hM hl 2 rfl rfl dL_losses_0 ?_
  refine y_iconst hM dL_losses_1 ?_
  refine y_aload_n hM hl 0 rfl rfl dL_losses_2 ?_
  refine y_iload_n hM hl 1 rfl rfl dL_losses_3 ?_
  refine y_callV hM hC (c_losses l hfl G b0 ks ad T P (z) hz hI.1.1) (cwV 1 hM.2.2.2.2 gL_losses_X3_losses rfl rfl rfl (by decide +kernel) ⟨(Nat.le_of_ble_eq_true rfl), (Nat.le_of_ble_eq_true rfl)⟩) (y_recv hC hI.1.1.1 rfl rfl) rfl hl.1 rfl (Nat.le_of_ble_eq_true rfl) dL_losses_4 ⟨(Nat.le_of_ble_eq_true rfl), (Nat.le_of_ble_eq_true rfl)⟩ ?_ (fun v u1 H locs hp hC => ?_)
  ·
    intro E ce q9 u1 H locs hx hC hce hcv hcl
    obtain ⟨x, rfl, hx, hu⟩ := hx; rw [hu] at hC; clear hu; try dsimp only at hx
    obtain ⟨rfl, hx⟩ := hx
    refine y_catch hM hN hC htb [] (0, 8, 11, 13) [] rfl (by decide +kernel) (fun z hz => absurd hz List.not_mem_nil) rfl (by decide) (by decide +kernel) hce hcv hcl rfl ?_
    refine lv_astore_n (lv' := [(3, .ref q9), (0, .ref (ad 0 0)), (1, .int (iI (z))), (2, .ref (ad 43 0))]) hM.1 hM.2.1 dL_losses_11 rfl hl (by decide) rfl (fun ls hl => ?_)
    refine y_iconst hM dL_losses_12 ?_
    exact y_iret hM hr hlk hC ⟨_, _, rfl, ⟨(Or.inl ⟨rfl, by omega, rfl⟩), fun q => by omega⟩, rfl⟩ (Nat.le_of_ble_eq_true rfl) (Nat.le_of_ble_eq_true rfl) dL_losses_13
  obtain ⟨r_4, rfl, h_4, hu⟩ := hp; rw [hu] at hC; clear hu
  try dsimp only at h_4
  refine W.eq (g2 := F0 m 7 ls [.long (lI (r_4)), .int (iI (0)), .ref (ad 43 0)]) rfl ?_
  obtain ⟨e_r, h_4⟩ := h_4
  subst e_r
  refine y_last hM hC hk43 (fun _ _ => rfl) ⟨by omega, by omega⟩ (by decide) dL_losses_7 (fun H locs hC => ?_)
  refine lv_goto (tgt := 14) hM.1 hM.2.1 dL_losses_8 (by decide) ?_
  refine y_iconst hM dL_losses_14 ?_
  exact y_iret hM hr hlk hC ⟨_, _, rfl, ⟨(Or.inr ⟨rfl, by omega, rfl⟩), fun _ => trivial⟩, rfl⟩ (Nat.le_of_ble_eq_true rfl) (Nat.le_of_ble_eq_true rfl) dL_losses_15

set_option maxRecDepth 100000 in
set_option maxHeartbeats 8000000 in
theorem c_L_begin (l : Launch) (hfl : l.stackTraces = false) (G : GG) (b0 : Nat) (ks : KK) (ad : AD) (T : TT) (P : PP) (z w : Int) (hz : inI z) (hw : inI w) (hI : IV ks ad T P) : vx_Met l yL_begin wsL_begin (rmX 8 2 12 128) (va_Pc [.ref (ad 0 0), .int (iI (z)), .int (iI (w)), .ref (ad 43 0)] (OkN G b0 (ks, ad, T, P))) (Qr (fun v u1 => ∃ (r : Int), v = some (.int (iI r)) ∧ (Wbeg ks ad T P z w r u1 ∧ (r = 0 → inI (u1.2.2.1 43 0 0))) ∧ u1 = u1) G b0) (Xr (noX) G b0) 2 12 (Wx b0) := by
  refine vx_ofWH (cc := cL_begin) (maxL := 5) (ret := (some .int)) (hh := [(0, 10, 13, 13), (0, 10, 17, 15)]) (by decide +kernel) rfl ?_
  intro p e s m args below meth c s₁ B hml hv
  obtain ⟨rfl, hok, hN⟩ := hv
  have htb := vx_table (x := yL_begin) (hh := [(0, 10, 13, 13), (0, 10, 17, 15)]) B (atoms_spec (ws := wsL_begin) B.pre (Cond.codeWith yL_begin cL_begin 5 (some .int) [(0, 10, 13, 13), (0, 10, 17, 15)]) List.mem_cons_self)
  have hM : CallFix p m c cL_begin 5 s _ wsL_begin RL := ⟨B.exec, B.bytes, hml, findClass_of_methodNamed B.named, atoms_spec (ws := wsL_begin) B.pre⟩
  have hr := B.returns
  have hlk := B.notSynchronized
  have hC := hok.cur
  have hl := lv_entry ([.ref (ad 0 0), .int (iI (z)), .int (iI (w)), .ref (ad 43 0)]) (n := 5) (Nat.le_of_ble_eq_true rfl)
  rw [lg_entry_eq]
  generalize (lg_sl ([.ref (ad 0 0), .int (iI (z)), .int (iI (w)), .ref (ad 43 0)]) ++ List.replicate (5 - (lg_sl ([.ref (ad 0 0), .int (iI (z)), .int (iI (w)), .ref (ad 43 0)])).length) Slot.unset).toArray = ls at hl ⊢
  have hl : lv_has ls 5 [(0, .ref (ad 0 0)), (1, .int (iI (z))), (2, .int (iI (w))), (3, .ref (ad 43 0))] := hl
  have hk43 := hI.1.2.2.2.2.2.2
  have hD := hI.2.1.2.1
  obtain ⟨hd0, hd1, hd2, hd3⟩ := id hD
  have hs7 := hI.1.2.2.1.1
  have hs7b := hI.1.2.2.1.2.1
  have ho8 := hI.1.2.2.2.1.1
  have ho8b := hI.1.2.2.2.1.2.1
  refine y_aload_n hM hl 3 rfl rfl dL_begin_0 ?_
  refine y_iconst hM dL_begin_1 ?_
  refine y_aload_n hM hl 0 rfl rfl dL_begin_2 ?_
  refine y_iload_n hM hl 1 rfl rfl dL_begin_3 ?_
  refine y_iload_n hM hl 2 rfl rfl dL_begin_4 ?_
  refine y_callV hM hC (c_begin l hfl G b0 ks ad T P (z) (w) hz hw (hI.1.2.2.2.2.1.1 _ (by omega)) hI.1.1 hI.1.2.1 hI.2.1.1 hI.2.1.2.1 ⟨by omega, by omega⟩) (cwV 2 hM.2.2.2.2 gL_begin_X3_begin rfl rfl rfl (by decide +kernel) ⟨(Nat.le_of_ble_eq_true rfl), (Nat.le_of_ble_eq_true rfl)⟩) (y_recv hC hI.1.1.1 rfl rfl) rfl hl.1 rfl (Nat.le_of_ble_eq_true rfl) dL_begin_5 ⟨(Nat.le_of_ble_eq_true rfl), (Nat.le_of_ble_eq_true rfl)⟩ ?_ (fun v u1 H locs hp hC => ?_)
  ·
    intro E ce q9 u1 H locs hx hC hce hcv hcl
    obtain ⟨x, rfl, hx, hu⟩ := hx; rw [hu] at hC; clear hu; try dsimp only at hx
    rcases hx with ⟨rfl, hx⟩ | ⟨rfl, hx⟩
    ·
      refine y_catch hM hN hC htb [] (0, 10, 13, 13) [(0, 10, 17, 15)] rfl (by decide +kernel) (fun z hz => absurd hz List.not_mem_nil) rfl (by decide) (by decide +kernel) hce hcv hcl rfl ?_
      refine lv_astore (lv' := [(4, .ref q9), (0, .ref (ad 0 0)), (1, .int (iI (z))), (2, .int (iI (w))), (3, .ref (ad 43 0))]) hM.1 hM.2.1 dL_begin_13 hl (by decide) rfl (fun ls hl => ?_)
      refine y_iconst hM dL_begin_15 ?_
      exact y_iret hM hr hlk hC ⟨_, rfl, ⟨(Or.inl ⟨rfl, by omega, rfl⟩), fun q => by omega⟩, rfl⟩ (Nat.le_of_ble_eq_true rfl) (Nat.le_of_ble_eq_true rfl) dL_begin_16
    ·
      refine y_catch hM hN hC htb [(0, 10, 13, 13)] (0, 10, 17, 15) [] rfl (by decide +kernel) (fun z hz => by
          rcases (show z = (0, 10, 13, 13) from by simpa using hz) with rfl <;> first | (exact ⟨by decide, eA, by decide +kernel, by decide +kernel, by decide +kernel⟩)) rfl (by decide) (by decide +kernel) hce hcv hcl rfl ?_
      refine lv_astore (lv' := [(4, .ref q9), (0, .ref (ad 0 0)), (1, .int (iI (z))), (2, .int (iI (w))), (3, .ref (ad 43 0))]) hM.1 hM.2.1 dL_begin_17 hl (by decide) rfl (fun ls hl => ?_)
      refine y_iconst hM dL_begin_19 ?_
      exact y_iret hM hr hlk hC ⟨_, rfl, ⟨(Or.inr (Or.inl ⟨rfl, by omega, rfl⟩)), fun q => by omega⟩, rfl⟩ (Nat.le_of_ble_eq_true rfl) (Nat.le_of_ble_eq_true rfl) dL_begin_20
  obtain ⟨r_5, q, rfl, h_5, hu⟩ := hp; rw [hu] at hC; clear hu; try dsimp only at h_5
  obtain ⟨e_r, h_5⟩ := h_5
  subst e_r
  obtain ⟨ad1, had1⟩ : ∃ a : AD, a = upA ad 10 (NS T) q := ⟨_, rfl⟩
  rw [← had1] at hC
  have e1_0 : ad1 0 0 = ad 0 0 := by rw [had1, upA_ne (fun h => absurd h.1 (by decide))]
  have e1_1 : ad1 43 0 = ad 43 0 := by rw [had1, upA_ne (fun h => absurd h.1 (by decide))]
  have hl : lv_has ls 5 [(0, .ref (ad1 0 0)), (1, .int (iI (z))), (2, .int (iI (w))), (3, .ref (ad1 43 0))] := by rw [e1_0, e1_1]; exact hl
  refine W.eq (g2 := F0 m 8 ls [.int (iI (T 0 0 7)), .int (iI (0)), .ref (ad1 43 0)]) (by rw [e1_1]; try rfl) ?_
  have hk43b := List.mem_append_left [(10, (NS T))] hk43
  refine y_i2l hM (by constructor <;> omega) dL_begin_8 ?_
  refine y_last hM hC hk43b (fun _ _ => rfl) ⟨by omega, by omega⟩ (by decide) dL_begin_9 (fun H locs hC => ?_)
  refine lv_goto (tgt := 21) hM.1 hM.2.1 dL_begin_10 (by decide) ?_
  refine y_iconst hM dL_begin_21 ?_
  exact y_iret hM hr hlk hC ⟨_, rfl, ⟨(Or.inr (Or.inr ⟨rfl, by omega, q, by rw [had1]; rfl⟩)), fun _ => (show inI (T 0 0 7) from ⟨by omega, by omega⟩)⟩, rfl⟩ (Nat.le_of_ble_eq_true rfl) (Nat.le_of_ble_eq_true rfl) dL_begin_22

set_option maxRecDepth 100000 in
set_option maxHeartbeats 8000000 in
theorem c_L_order (l : Launch) (hfl : l.stackTraces = false) (G : GG) (b0 : Nat) (ks : KK) (ad : AD) (T : TT) (P : PP) (z w : Int) (hz : inI z) (hw : inI w) (hI : IV ks ad T P) : vx_Met l yL_order wsL_order (rmX 8 3 22 128) (va_Pc [.ref (ad 0 0), .int (iI (z)), .int (iI (w)), .ref (ad 43 0)] (OkN G b0 (ks, ad, T, P))) (Qr (fun v u1 => ∃ (r : Int), v = some (.int (iI r)) ∧ (Word ks ad T P z w r u1 ∧ (r = 0 → inI (u1.2.2.1 43 0 0))) ∧ u1 = u1) G b0) (Xr (noX) G b0) 3 22 (Wx b0) := by
  refine vx_ofWH (cc := cL_order) (maxL := 5) (ret := (some .int)) (hh := [(0, 10, 13, 33), (0, 10, 17, 13), (0, 10, 21, 15)]) (by decide +kernel) rfl ?_
  intro p e s m args below meth c s₁ B hml hv
  obtain ⟨rfl, hok, hN⟩ := hv
  have htb := vx_table (x := yL_order) (hh := [(0, 10, 13, 33), (0, 10, 17, 13), (0, 10, 21, 15)]) B (atoms_spec (ws := wsL_order) B.pre (Cond.codeWith yL_order cL_order 5 (some .int) [(0, 10, 13, 33), (0, 10, 17, 13), (0, 10, 21, 15)]) List.mem_cons_self)
  have hM : CallFix p m c cL_order 5 s _ wsL_order RL := ⟨B.exec, B.bytes, hml, findClass_of_methodNamed B.named, atoms_spec (ws := wsL_order) B.pre⟩
  have hr := B.returns
  have hlk := B.notSynchronized
  have hC := hok.cur
  have hl := lv_entry ([.ref (ad 0 0), .int (iI (z)), .int (iI (w)), .ref (ad 43 0)]) (n := 5) (Nat.le_of_ble_eq_true rfl)
  rw [lg_entry_eq]
  generalize (lg_sl ([.ref (ad 0 0), .int (iI (z)), .int (iI (w)), .ref (ad 43 0)]) ++ List.replicate (5 - (lg_sl ([.ref (ad 0 0), .int (iI (z)), .int (iI (w)), .ref (ad 43 0)])).length) Slot.unset).toArray = ls at hl ⊢
  have hl : lv_has ls 5 [(0, .ref (ad 0 0)), (1, .int (iI (z))), (2, .int (iI (w))), (3, .ref (ad 43 0))] := hl
  have hk43 := hI.1.2.2.2.2.2.2
  have hD := hI.2.1.2.1
  obtain ⟨hd0, hd1, hd2, hd3⟩ := id hD
  have hs7 := hI.1.2.2.1.1
  have hs7b := hI.1.2.2.1.2.1
  have ho8 := hI.1.2.2.2.1.1
  have ho8b := hI.1.2.2.2.1.2.1
  refine y_aload_n hM hl 3 rfl rfl dL_order_0 ?_
  refine y_iconst hM dL_order_1 ?_
  refine y_aload_n hM hl 0 rfl rfl dL_order_2 ?_
  refine y_iload_n hM hl 1 rfl rfl dL_order_3 ?_
  refine y_iload_n hM hl 2 rfl rfl dL_order_4 ?_
  refine y_callV hM hC (c_order l hfl G b0 ks ad T P (z) (w) hz hw (hI.1.2.2.2.2.1.2 _ (by omega)) hI.1.1 hI.1.2.2.1 hI.2.1.2.2.1 ⟨by omega, by omega⟩) (cwV 2 hM.2.2.2.2 gL_order_X3_order rfl rfl rfl (by decide +kernel) ⟨(Nat.le_of_ble_eq_true rfl), (Nat.le_of_ble_eq_true rfl)⟩) (y_recv hC hI.1.1.1 rfl rfl) rfl hl.1 rfl (Nat.le_of_ble_eq_true rfl) dL_order_5 ⟨(Nat.le_of_ble_eq_true rfl), (Nat.le_of_ble_eq_true rfl)⟩ ?_ (fun v u1 H locs hp hC => ?_)
  ·
    intro E ce q9 u1 H locs hx hC hce hcv hcl
    obtain ⟨x, rfl, hx, hu⟩ := hx; rw [hu] at hC; clear hu; try dsimp only at hx
    rcases hx with ⟨rfl, hx⟩ | ⟨rfl, hx⟩ | ⟨rfl, hx⟩
    ·
      refine y_catch hM hN hC htb [] (0, 10, 13, 33) [(0, 10, 17, 13), (0, 10, 21, 15)] rfl (by decide +kernel) (fun z hz => absurd hz List.not_mem_nil) rfl (by decide) (by decide +kernel) hce hcv hcl rfl ?_
      refine lv_astore (lv' := [(4, .ref q9), (0, .ref (ad 0 0)), (1, .int (iI (z))), (2, .int (iI (w))), (3, .ref (ad 43 0))]) hM.1 hM.2.1 dL_order_13 hl (by decide) rfl (fun ls hl => ?_)
      refine y_iconst hM dL_order_15 ?_
      exact y_iret hM hr hlk hC ⟨_, rfl, ⟨(Or.inl ⟨rfl, by omega, rfl⟩), fun q => by omega⟩, rfl⟩ (Nat.le_of_ble_eq_true rfl) (Nat.le_of_ble_eq_true rfl) dL_order_16
    ·
      refine y_catch hM hN hC htb [(0, 10, 13, 33)] (0, 10, 17, 13) [(0, 10, 21, 15)] rfl (by decide +kernel) (fun z hz => by
          rcases (show z = (0, 10, 13, 33) from by simpa using hz) with rfl <;> first | (exact ⟨by decide, eB, by decide +kernel, by decide +kernel, by decide +kernel⟩)) rfl (by decide) (by decide +kernel) hce hcv hcl rfl ?_
      refine lv_astore (lv' := [(4, .ref q9), (0, .ref (ad 0 0)), (1, .int (iI (z))), (2, .int (iI (w))), (3, .ref (ad 43 0))]) hM.1 hM.2.1 dL_order_17 hl (by decide) rfl (fun ls hl => ?_)
      refine y_iconst hM dL_order_19 ?_
      exact y_iret hM hr hlk hC ⟨_, rfl, ⟨(Or.inr (Or.inl ⟨rfl, by omega, rfl⟩)), fun q => by omega⟩, rfl⟩ (Nat.le_of_ble_eq_true rfl) (Nat.le_of_ble_eq_true rfl) dL_order_20
    ·
      refine y_catch hM hN hC htb [(0, 10, 13, 33), (0, 10, 17, 13)] (0, 10, 21, 15) [] rfl (by decide +kernel) (fun z hz => by
          rcases (show z = (0, 10, 13, 33) ∨ z = (0, 10, 17, 13) from by simpa using hz) with rfl | rfl <;> first | (exact ⟨by decide, eB, by decide +kernel, by decide +kernel, by decide +kernel⟩) | (exact ⟨by decide, eA, by decide +kernel, by decide +kernel, by decide +kernel⟩)) rfl (by decide) (by decide +kernel) hce hcv hcl rfl ?_
      refine lv_astore (lv' := [(4, .ref q9), (0, .ref (ad 0 0)), (1, .int (iI (z))), (2, .int (iI (w))), (3, .ref (ad 43 0))]) hM.1 hM.2.1 dL_order_21 hl (by decide) rfl (fun ls hl => ?_)
      refine y_iconst hM dL_order_23 ?_
      exact y_iret hM hr hlk hC ⟨_, rfl, ⟨(Or.inr (Or.inr (Or.inl ⟨rfl, by omega, rfl⟩))), fun q => by omega⟩, rfl⟩ (Nat.le_of_ble_eq_true rfl) (Nat.le_of_ble_eq_true rfl) dL_order_24
  obtain ⟨r_5, q, rfl, h_5, hu⟩ := hp; rw [hu] at hC; clear hu; try dsimp only at h_5
  obtain ⟨e_r, h_5⟩ := h_5
  subst e_r
  obtain ⟨ad1, had1⟩ : ∃ a : AD, a = upA ad 11 (NO T) q := ⟨_, rfl⟩
  rw [← had1] at hC
  have e1_0 : ad1 0 0 = ad 0 0 := by rw [had1, upA_ne (fun h => absurd h.1 (by decide))]
  have e1_1 : ad1 43 0 = ad 43 0 := by rw [had1, upA_ne (fun h => absurd h.1 (by decide))]
  have hl : lv_has ls 5 [(0, .ref (ad1 0 0)), (1, .int (iI (z))), (2, .int (iI (w))), (3, .ref (ad1 43 0))] := by rw [e1_0, e1_1]; exact hl
  refine W.eq (g2 := F0 m 8 ls [.int (iI (T 0 0 8)), .int (iI (0)), .ref (ad1 43 0)]) (by rw [e1_1]; try rfl) ?_
  have hk43b := List.mem_append_left [(11, (NO T))] hk43
  refine y_i2l hM (by constructor <;> omega) dL_order_8 ?_
  refine y_last hM hC hk43b (fun _ _ => rfl) ⟨by omega, by omega⟩ (by decide) dL_order_9 (fun H locs hC => ?_)
  refine lv_goto (tgt := 25) hM.1 hM.2.1 dL_order_10 (by decide) ?_
  refine y_iconst hM dL_order_25 ?_
  exact y_iret hM hr hlk hC ⟨_, rfl, ⟨(Or.inr (Or.inr (Or.inr ⟨rfl, by omega, q, by rw [had1]; rfl⟩))), fun _ => (show inI (T 0 0 8) from ⟨by omega, by omega⟩)⟩, rfl⟩ (Nat.le_of_ble_eq_true rfl) (Nat.le_of_ble_eq_true rfl) dL_order_26
