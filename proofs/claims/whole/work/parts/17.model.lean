set_option maxRecDepth 100000 in
set_option maxHeartbeats 8000000 in
theorem c_isIn (l : Launch) (hfl : l.stackTraces = false) (G : GG) (b0 : Nat) (u : St) (v lo hi : Int) (h1 : inI v) (h2 : inI lo) (h3 : inI hi) : vx_Met l yX4_isIn wsX4_isIn (rmX 0 0 0 0) (va_Pc [.int (iI (v)), .int (iI (lo)), .int (iI (hi))] (Ok G b0 u)) (Qr (pI (fun r => (r = 1 ∧ lo ≤ v ∧ v ≤ hi) ∨ (r = 0 ∧ (v < lo ∨ hi < v))) u) G b0) (Xr (noX) G b0) 0 0 (Wx b0) := by
  refine vx_ofW (cc := cX4_isIn) (maxL := 3) (ret := (some .boolean)) (by decide +kernel) rfl ?_
  intro p e s m args below meth c s₁ B hml hto hv
  obtain ⟨rfl, hok⟩ := hv
  have hM : CallFix p m c cX4_isIn 3 s _ wsX4_isIn RX4 := ⟨B.exec, B.bytes, hml, findClass_of_methodNamed B.named, atoms_spec (ws := wsX4_isIn) B.pre⟩
  have hr := B.returns
  have hlk := B.notSynchronized
  have hC := hok.cur
  have hl := lv_entry ([.int (iI (v)), .int (iI (lo)), .int (iI (hi))]) (n := 3) (Nat.le_of_ble_eq_true rfl)
  rw [lg_entry_eq]
  generalize (lg_sl ([.int (iI (v)), .int (iI (lo)), .int (iI (hi))]) ++ List.replicate (3 - (lg_sl ([.int (iI (v)), .int (iI (lo)), .int (iI (hi))])).length) Slot.unset).toArray = ls at hl ⊢
  have hl : lv_has ls 3 [(0, .int (iI (v))), (1, .int (iI (lo))), (2, .int (iI (hi)))] := hl
  refine y_iload_n hM hl 0 rfl rfl dX4_isIn_0 ?_
  refine y_iload_n hM hl 1 rfl rfl dX4_isIn_1 ?_
  refine y_icmp_lt hM (by constructor <;> omega) (by constructor <;> omega) (tgt := 14) dX4_isIn_2 (by decide) (fun c_2 => ?_) (fun c_2 => ?_)
  ·
    refine y_iconst hM dX4_isIn_14 ?_
    exact y_zret hM hr hlk hC (by decide) ⟨_, rfl, (by (try dsimp only); omega), rfl⟩ (Nat.le_of_ble_eq_true rfl) (Nat.le_of_ble_eq_true rfl) dX4_isIn_15
  ·
    refine y_iload_n hM hl 0 rfl rfl dX4_isIn_5 ?_
    refine y_iload_n hM hl 2 rfl rfl dX4_isIn_6 ?_
    refine y_icmp_gt hM (by constructor <;> omega) (by constructor <;> omega) (tgt := 14) dX4_isIn_7 (by decide) (fun c_7 => ?_) (fun c_7 => ?_)
    ·
      refine y_iconst hM dX4_isIn_14 ?_
      exact y_zret hM hr hlk hC (by decide) ⟨_, rfl, (by (try dsimp only); omega), rfl⟩ (Nat.le_of_ble_eq_true rfl) (Nat.le_of_ble_eq_true rfl) dX4_isIn_15
    ·
      refine y_iconst hM dX4_isIn_10 ?_
      refine lv_goto (tgt := 15) hM.1 hM.2.1 dX4_isIn_11 (by decide) ?_
      exact y_zret hM hr hlk hC (by decide) ⟨_, rfl, (by (try dsimp only); omega), rfl⟩ (Nat.le_of_ble_eq_true rfl) (Nat.le_of_ble_eq_true rfl) dX4_isIn_15

set_option maxRecDepth 100000 in
set_option maxHeartbeats 8000000 in
theorem c_M_isProvider (l : Launch) (hfl : l.stackTraces = false) (G : GG) (b0 : Nat) (u : St) (v : Int) (h1 : inI v) : vx_Met l yX4_isProvider wsX4_isProvider (rmX 1 0 0 22) (va_Pc [.int (iI (v))] (Ok G b0 u)) (Qr (pI (fun r => (r = 1 ∧ 0 ≤ v ∧ v < 5) ∨ (r = 0 ∧ (v < 0 ∨ 5 ≤ v))) u) G b0) (Xr (noX) G b0) 0 0 (Wx b0) := by
  refine vx_ofW (cc := cX4_isProvider) (maxL := 1) (ret := (some .boolean)) (by decide +kernel) rfl ?_
  intro p e s m args below meth c s₁ B hml hto hv
  obtain ⟨rfl, hok⟩ := hv
  have hM : CallFix p m c cX4_isProvider 1 s _ wsX4_isProvider RX4 := ⟨B.exec, B.bytes, hml, findClass_of_methodNamed B.named, atoms_spec (ws := wsX4_isProvider) B.pre⟩
  have hr := B.returns
  have hlk := B.notSynchronized
  have hC := hok.cur
  have hl := lv_entry ([.int (iI (v))]) (n := 1) (Nat.le_of_ble_eq_true rfl)
  rw [lg_entry_eq]
  generalize (lg_sl ([.int (iI (v))]) ++ List.replicate (1 - (lg_sl ([.int (iI (v))])).length) Slot.unset).toArray = ls at hl ⊢
  have hl : lv_has ls 1 [(0, .int (iI (v)))] := hl
  refine y_iload_n hM hl 0 rfl rfl dX4_isProvider_0 ?_
  refine y_iconst hM dX4_isProvider_1 ?_
  refine y_iconst hM dX4_isProvider_2 ?_
  refine y_callS hM hC (c_isIn l hfl G b0 u (v) (0) (4) (by constructor <;> omega) (by constructor <;> omega) (by constructor <;> omega)) (va_cwS 3 hM.2.2.2.2 gX4_isProvider_X4_isIn rfl rfl rfl (by decide +kernel) ⟨(Nat.le_of_ble_eq_true rfl), (Nat.le_of_ble_eq_true rfl)⟩) rfl hl.1 rfl (Nat.le_of_ble_eq_true rfl) dX4_isProvider_3 ⟨(Nat.le_of_ble_eq_true rfl), (Nat.le_of_ble_eq_true rfl)⟩ (fun E ce q9 u1 H locs hx hC hce hcv hcl => hx.elim) (fun v u1 H locs hp hC => ?_)
  obtain ⟨r_3, rfl, h_3, hu⟩ := hp; rw [hu] at hC; clear hu
  try dsimp only at h_3
  refine W.eq (g2 := F0 m 6 ls [.int (iI (r_3))]) rfl ?_
  exact y_zret hM hr hlk hC (by rcases (show r_3 = 0 ∨ r_3 = 1 by omega) with q | q <;> rw [q] <;> decide) ⟨_, rfl, (by (try dsimp only); omega), rfl⟩ (Nat.le_of_ble_eq_true rfl) (Nat.le_of_ble_eq_true rfl) dX4_isProvider_6

set_option maxRecDepth 100000 in
set_option maxHeartbeats 8000000 in
theorem c_unitsFor (l : Launch) (hfl : l.stackTraces = false) (G : GG) (b0 : Nat) (u : St) (m_ pr : Int) (hm : 0 ≤ m_ ∧ m_ ≤ 9000000000000000) (hp : 0 < pr ∧ pr ≤ 10000) : vx_Met l yX4_unitsFor wsX4_unitsFor (rmX 0 0 0 0) (va_Pc [.long (lI (m_)), .int (iI (pr))] (Ok G b0 u)) (Qr (pJ (fun r => r = thF m_ pr) u) G b0) (Xr (noX) G b0) 0 0 (Wx b0) := by
  refine vx_ofW (cc := cX4_unitsFor) (maxL := 3) (ret := (some .long)) (by decide +kernel) rfl ?_
  intro p e s m args below meth c s₁ B hml hto hv
  obtain ⟨rfl, hok⟩ := hv
  have hM : CallFix p m c cX4_unitsFor 3 s _ wsX4_unitsFor RX4 := ⟨B.exec, B.bytes, hml, findClass_of_methodNamed B.named, atoms_spec (ws := wsX4_unitsFor) B.pre⟩
  have hr := B.returns
  have hlk := B.notSynchronized
  have hC := hok.cur
  have hl := lv_entry ([.long (lI (m_)), .int (iI (pr))]) (n := 3) (Nat.le_of_ble_eq_true rfl)
  rw [lg_entry_eq]
  generalize (lg_sl ([.long (lI (m_)), .int (iI (pr))]) ++ List.replicate (3 - (lg_sl ([.long (lI (m_)), .int (iI (pr))])).length) Slot.unset).toArray = ls at hl ⊢
  have hl : lv_has ls 3 [(0, .long (lI (m_))), (2, .int (iI (pr)))] := hl
  refine y_lload_n hM hl 0 rfl rfl dX4_unitsFor_0 ?_
  refine y_ldc2 hM (v := 1000) (1000) (by decide) (by decide +kernel) dX4_unitsFor_1 ?_
  refine y_lmul hM dX4_unitsFor_4 ?_
  refine y_iload_n hM hl 1 rfl rfl dX4_unitsFor_5 ?_
  refine y_i2l hM (by constructor <;> omega) dX4_unitsFor_6 ?_
  refine y_ldiv hM ⟨by omega, by omega, by omega, by omega⟩ dX4_unitsFor_7 ?_
  exact y_lret hM hr hlk hC ⟨_, rfl, rfl, rfl⟩ (Nat.le_of_ble_eq_true rfl) (Nat.le_of_ble_eq_true rfl) dX4_unitsFor_8

set_option maxRecDepth 100000 in
set_option maxHeartbeats 8000000 in
theorem c_M_isSaver (l : Launch) (hfl : l.stackTraces = false) (G : GG) (b0 : Nat) (ks : KK) (ad : AD) (T : TT) (P : PP) (v : Int) (h1 : inI v) (hMI : MI ks ad P) (hMN : MN T)  : vx_Met l yX4_isSaver wsX4_isSaver (rmX 1 0 0 22) (va_Pc [.ref (ad 12 0), .int (iI (v))] (Ok G b0 (ks, ad, T, P))) (Qr (pI (fun r => (r = 1 ∧ 0 ≤ v ∧ v < T 12 0 6) ∨ (r = 0 ∧ (v < 0 ∨ T 12 0 6 ≤ v))) (ks, ad, T, P)) G b0) (Xr (noX) G b0) 0 0 (Wx b0) := by
  refine vx_ofW (cc := cX4_isSaver) (maxL := 2) (ret := (some .boolean)) (by decide +kernel) rfl ?_
  intro p e s m args below meth c s₁ B hml hto hv
  obtain ⟨rfl, hok⟩ := hv
  have hM : CallFix p m c cX4_isSaver 2 s _ wsX4_isSaver RX4 := ⟨B.exec, B.bytes, hml, findClass_of_methodNamed B.named, atoms_spec (ws := wsX4_isSaver) B.pre⟩
  have hr := B.returns
  have hlk := B.notSynchronized
  have hC := hok.cur
  have hl := lv_entry ([.ref (ad 12 0), .int (iI (v))]) (n := 2) (Nat.le_of_ble_eq_true rfl)
  rw [lg_entry_eq]
  generalize (lg_sl ([.ref (ad 12 0), .int (iI (v))]) ++ List.replicate (2 - (lg_sl ([.ref (ad 12 0), .int (iI (v))])).length) Slot.unset).toArray = ls at hl ⊢
  have hl : lv_has ls 2 [(0, .ref (ad 12 0)), (1, .int (iI (v)))] := hl
  obtain ⟨⟨m1a, m1b⟩, ⟨m5a, m5b⟩, ⟨m6a, m6b⟩, ⟨mxa, mxb⟩, mpv, mpp, msv, mor⟩ := id hMN
  refine y_iload_n hM hl 1 rfl rfl dX4_isSaver_0 ?_
  refine y_iconst hM dX4_isSaver_1 ?_
  refine y_aload_n hM hl 0 rfl rfl dX4_isSaver_2 ?_
  refine y_get hM hC hMI.1 rfl rfl (by decide +kernel) 6 ⟨by decide, rfl, rfl, rfl⟩ (by decide +kernel) rfl dX4_isSaver_3 ?_
  refine y_iconst hM dX4_isSaver_6 ?_
  refine y_isub hM dX4_isSaver_7 ?_
  refine y_callS hM hC (c_isIn l hfl G b0 (ks, ad, T, P) (v) (0) ((T 12 0 6) - (1)) (by constructor <;> omega) (by constructor <;> omega) (by constructor <;> omega)) (va_cwS 3 hM.2.2.2.2 gX4_isSaver_X4_isIn rfl rfl rfl (by decide +kernel) ⟨(Nat.le_of_ble_eq_true rfl), (Nat.le_of_ble_eq_true rfl)⟩) rfl hl.1 rfl (Nat.le_of_ble_eq_true rfl) dX4_isSaver_8 ⟨(Nat.le_of_ble_eq_true rfl), (Nat.le_of_ble_eq_true rfl)⟩ (fun E ce q9 u1 H locs hx hC hce hcv hcl => hx.elim) (fun v u1 H locs hp hC => ?_)
  obtain ⟨r_8, rfl, h_8, hu⟩ := hp; rw [hu] at hC; clear hu
  try dsimp only at h_8
  refine W.eq (g2 := F0 m 11 ls [.int (iI (r_8))]) rfl ?_
  exact y_zret hM hr hlk hC (by rcases (show r_8 = 0 ∨ r_8 = 1 by omega) with q | q <;> rw [q] <;> decide) ⟨_, rfl, (by (try dsimp only); omega), rfl⟩ (Nat.le_of_ble_eq_true rfl) (Nat.le_of_ble_eq_true rfl) dX4_isSaver_11

set_option maxRecDepth 100000 in
set_option maxHeartbeats 8000000 in
theorem c_M_isOrder (l : Launch) (hfl : l.stackTraces = false) (G : GG) (b0 : Nat) (ks : KK) (ad : AD) (T : TT) (P : PP) (v : Int) (h1 : inI v) (hMI : MI ks ad P) (hMN : MN T)  : vx_Met l yX4_isOrder wsX4_isOrder (rmX 1 0 0 22) (va_Pc [.ref (ad 12 0), .int (iI (v))] (Ok G b0 (ks, ad, T, P))) (Qr (pI (fun r => (r = 1 ∧ 0 ≤ v ∧ v < T 12 0 10) ∨ (r = 0 ∧ (v < 0 ∨ T 12 0 10 ≤ v))) (ks, ad, T, P)) G b0) (Xr (noX) G b0) 0 0 (Wx b0) := by
  refine vx_ofW (cc := cX4_isOrder) (maxL := 2) (ret := (some .boolean)) (by decide +kernel) rfl ?_
  intro p e s m args below meth c s₁ B hml hto hv
  obtain ⟨rfl, hok⟩ := hv
  have hM : CallFix p m c cX4_isOrder 2 s _ wsX4_isOrder RX4 := ⟨B.exec, B.bytes, hml, findClass_of_methodNamed B.named, atoms_spec (ws := wsX4_isOrder) B.pre⟩
  have hr := B.returns
  have hlk := B.notSynchronized
  have hC := hok.cur
  have hl := lv_entry ([.ref (ad 12 0), .int (iI (v))]) (n := 2) (Nat.le_of_ble_eq_true rfl)
  rw [lg_entry_eq]
  generalize (lg_sl ([.ref (ad 12 0), .int (iI (v))]) ++ List.replicate (2 - (lg_sl ([.ref (ad 12 0), .int (iI (v))])).length) Slot.unset).toArray = ls at hl ⊢
  have hl : lv_has ls 2 [(0, .ref (ad 12 0)), (1, .int (iI (v)))] := hl
  obtain ⟨⟨m1a, m1b⟩, ⟨m5a, m5b⟩, ⟨m6a, m6b⟩, ⟨mxa, mxb⟩, mpv, mpp, msv, mor⟩ := id hMN
  refine y_iload_n hM hl 1 rfl rfl dX4_isOrder_0 ?_
  refine y_iconst hM dX4_isOrder_1 ?_
  refine y_aload_n hM hl 0 rfl rfl dX4_isOrder_2 ?_
  refine y_get hM hC hMI.1 rfl rfl (by decide +kernel) 10 ⟨by decide, rfl, rfl, rfl⟩ (by decide +kernel) rfl dX4_isOrder_3 ?_
  refine y_iconst hM dX4_isOrder_6 ?_
  refine y_isub hM dX4_isOrder_7 ?_
  refine y_callS hM hC (c_isIn l hfl G b0 (ks, ad, T, P) (v) (0) ((T 12 0 10) - (1)) (by constructor <;> omega) (by constructor <;> omega) (by constructor <;> omega)) (va_cwS 3 hM.2.2.2.2 gX4_isOrder_X4_isIn rfl rfl rfl (by decide +kernel) ⟨(Nat.le_of_ble_eq_true rfl), (Nat.le_of_ble_eq_true rfl)⟩) rfl hl.1 rfl (Nat.le_of_ble_eq_true rfl) dX4_isOrder_8 ⟨(Nat.le_of_ble_eq_true rfl), (Nat.le_of_ble_eq_true rfl)⟩ (fun E ce q9 u1 H locs hx hC hce hcv hcl => hx.elim) (fun v u1 H locs hp hC => ?_)
  obtain ⟨r_8, rfl, h_8, hu⟩ := hp; rw [hu] at hC; clear hu
  try dsimp only at h_8
  refine W.eq (g2 := F0 m 11 ls [.int (iI (r_8))]) rfl ?_
  exact y_zret hM hr hlk hC (by rcases (show r_8 = 0 ∨ r_8 = 1 by omega) with q | q <;> rw [q] <;> decide) ⟨_, rfl, (by (try dsimp only); omega), rfl⟩ (Nat.le_of_ble_eq_true rfl) (Nat.le_of_ble_eq_true rfl) dX4_isOrder_11

set_option maxRecDepth 100000 in
set_option maxHeartbeats 8000000 in
theorem c_priceOf (l : Launch) (hfl : l.stackTraces = false) (G : GG) (b0 : Nat) (ks : KK) (ad : AD) (T : TT) (P : PP) (z dd : Int) (hp : 0 ≤ z ∧ z < 5) (hd : 0 ≤ dd ∧ dd ≤ 2000) (hMI : MI ks ad P) : vx_Met l yX4_priceOf wsX4_priceOf (rmX 0 0 0 0) (va_Pc [.ref (ad 12 0), .int (iI (z)), .int (iI (dd))] (Ok G b0 (ks, ad, T, P))) (Qr (pI (fun r => r = mpr T z dd) (ks, ad, T, P)) G b0) (Xr (noX) G b0) 0 0 (Wx b0) := by
  refine vx_ofW (cc := cX4_priceOf) (maxL := 3) (ret := (some .int)) (by decide +kernel) rfl ?_
  intro p e s m args below meth c s₁ B hml hto hv
  obtain ⟨rfl, hok⟩ := hv
  have hM : CallFix p m c cX4_priceOf 3 s _ wsX4_priceOf RX4 := ⟨B.exec, B.bytes, hml, findClass_of_methodNamed B.named, atoms_spec (ws := wsX4_priceOf) B.pre⟩
  have hr := B.returns
  have hlk := B.notSynchronized
  have hC := hok.cur
  have hl := lv_entry ([.ref (ad 12 0), .int (iI (z)), .int (iI (dd))]) (n := 3) (Nat.le_of_ble_eq_true rfl)
  rw [lg_entry_eq]
  generalize (lg_sl ([.ref (ad 12 0), .int (iI (z)), .int (iI (dd))]) ++ List.replicate (3 - (lg_sl ([.ref (ad 12 0), .int (iI (z)), .int (iI (dd))])).length) Slot.unset).toArray = ls at hl ⊢
  have hl : lv_has ls 3 [(0, .ref (ad 12 0)), (1, .int (iI (z))), (2, .int (iI (dd)))] := hl
  refine y_aload_n hM hl 0 rfl rfl dX4_priceOf_0 ?_
  refine y_get hM hC hMI.1 rfl rfl (by decide +kernel) 2 ⟨by decide, rfl, rfl, rfl⟩ (by decide +kernel) (congrArg (fun q => some (va_rf q)) (hMI.2 2 (by decide)).2) dX4_priceOf_1 ?_
  refine W.eq (g2 := F0 m 4 ls [.ref (ad 22 0)]) rfl ?_
  refine y_sipush hM dX4_priceOf_4 (by decide) ?_
  refine y_iload_n hM hl 1 rfl rfl dX4_priceOf_7 ?_
  refine y_imul hM dX4_priceOf_8 ?_
  refine y_iload_n hM hl 2 rfl rfl dX4_priceOf_9 ?_
  refine y_iadd hM dX4_priceOf_10 ?_
  refine y_iald hM hC (hMI.2 2 (by decide)).1 rfl ⟨by omega, by omega⟩ (by decide) (x := T 22 0 (((2001) * (z)) + (dd)).toNat) rfl dX4_priceOf_11 ?_
  exact y_iret hM hr hlk hC ⟨_, rfl, rfl, rfl⟩ (Nat.le_of_ble_eq_true rfl) (Nat.le_of_ble_eq_true rfl) dX4_priceOf_12

set_option maxRecDepth 100000 in
set_option maxHeartbeats 8000000 in
theorem c_M_thrown (l : Launch) (hfl : l.stackTraces = false) (G : GG) (b0 : Nat) (ks : KK) (ad : AD) (T : TT) (P : PP) (hMI : MI ks ad P) (hMN : MN T)  : vx_Met l yX4_thrown wsX4_thrown (rmX 0 0 0 0) (va_Pc [.ref (ad 12 0)] (Ok G b0 (ks, ad, T, P))) (Qr (pI (fun r => r = T 12 0 0) (ks, ad, T, P)) G b0) (Xr (noX) G b0) 0 0 (Wx b0) := by
  refine vx_ofW (cc := cX4_thrown) (maxL := 1) (ret := (some .int)) (by decide +kernel) rfl ?_
  intro p e s m args below meth c s₁ B hml hto hv
  obtain ⟨rfl, hok⟩ := hv
  have hM : CallFix p m c cX4_thrown 1 s _ wsX4_thrown RX4 := ⟨B.exec, B.bytes, hml, findClass_of_methodNamed B.named, atoms_spec (ws := wsX4_thrown) B.pre⟩
  have hr := B.returns
  have hlk := B.notSynchronized
  have hC := hok.cur
  have hl := lv_entry ([.ref (ad 12 0)]) (n := 1) (Nat.le_of_ble_eq_true rfl)
  rw [lg_entry_eq]
  generalize (lg_sl ([.ref (ad 12 0)]) ++ List.replicate (1 - (lg_sl ([.ref (ad 12 0)])).length) Slot.unset).toArray = ls at hl ⊢
  have hl : lv_has ls 1 [(0, .ref (ad 12 0))] := hl
  obtain ⟨⟨m1a, m1b⟩, ⟨m5a, m5b⟩, ⟨m6a, m6b⟩, ⟨mxa, mxb⟩, mpv, mpp, msv, mor⟩ := id hMN
  refine y_aload_n hM hl 0 rfl rfl dX4_thrown_0 ?_
  refine y_get hM hC hMI.1 rfl rfl (by decide +kernel) 0 ⟨by decide, rfl, rfl, rfl⟩ (by decide +kernel) rfl dX4_thrown_1 ?_
  exact y_iret hM hr hlk hC ⟨_, rfl, rfl, rfl⟩ (Nat.le_of_ble_eq_true rfl) (Nat.le_of_ble_eq_true rfl) dX4_thrown_4

set_option maxRecDepth 100000 in
set_option maxHeartbeats 8000000 in
theorem c_M_today (l : Launch) (hfl : l.stackTraces = false) (G : GG) (b0 : Nat) (ks : KK) (ad : AD) (T : TT) (P : PP) (hMI : MI ks ad P) (hMN : MN T)  : vx_Met l yX4_today wsX4_today (rmX 0 0 0 0) (va_Pc [.ref (ad 12 0)] (Ok G b0 (ks, ad, T, P))) (Qr (fun v u1 => ∃ (r : Int) (T1 : TT), v = some (.int (iI r)) ∧ (r = T 12 0 1 ∧ T1 = up T 12 0 0 0) ∧ u1 = (ks, ad, T1, P)) G b0) (Xr (noX) G b0) 0 0 (Wx b0) := by
  refine vx_ofW (cc := cX4_today) (maxL := 1) (ret := (some .int)) (by decide +kernel) rfl ?_
  intro p e s m args below meth c s₁ B hml hto hv
  obtain ⟨rfl, hok⟩ := hv
  have hM : CallFix p m c cX4_today 1 s _ wsX4_today RX4 := ⟨B.exec, B.bytes, hml, findClass_of_methodNamed B.named, atoms_spec (ws := wsX4_today) B.pre⟩
  have hr := B.returns
  have hlk := B.notSynchronized
  have hC := hok.cur
  have hl := lv_entry ([.ref (ad 12 0)]) (n := 1) (Nat.le_of_ble_eq_true rfl)
  rw [lg_entry_eq]
  generalize (lg_sl ([.ref (ad 12 0)]) ++ List.replicate (1 - (lg_sl ([.ref (ad 12 0)])).length) Slot.unset).toArray = ls at hl ⊢
  have hl : lv_has ls 1 [(0, .ref (ad 12 0))] := hl
  obtain ⟨⟨m1a, m1b⟩, ⟨m5a, m5b⟩, ⟨m6a, m6b⟩, ⟨mxa, mxb⟩, mpv, mpp, msv, mor⟩ := id hMN
  refine y_aload_n hM hl 0 rfl rfl dX4_today_0 ?_
  refine y_iconst hM dX4_today_1 ?_
  refine y_put hM hC hMI.1 rfl rfl (by decide +kernel) tyX4 tyX4_ok nmX4 0 ⟨by decide, rfl, rfl, rfl, rfl⟩ (by decide +kernel) (ty := .int) (by decide +kernel) rfl rfl (Nat.le_of_ble_eq_true rfl) (T' := (up T 12 0 0 (0))) (P' := P) (cF_up rfl) (fun _ _ h => up_ne h) (fun _ _ _ => rfl) dX4_today_2 (fun H locs hC => ?_)
  refine y_aload_n hM hl 0 rfl rfl dX4_today_5 ?_
  refine y_get hM hC hMI.1 rfl rfl (by decide +kernel) 1 ⟨by decide, rfl, rfl, rfl⟩ (by decide +kernel) (congrArg (fun q => some (Value.int (iI q))) (show (up T 12 0 0 (0)) 12 0 1 = T 12 0 1 from by simp [up, zrT])) dX4_today_6 ?_
  exact y_iret hM hr hlk hC ⟨_, _, rfl, ⟨rfl, rfl⟩, rfl⟩ (Nat.le_of_ble_eq_true rfl) (Nat.le_of_ble_eq_true rfl) dX4_today_9

set_option maxRecDepth 100000 in
set_option maxHeartbeats 8000000 in
theorem c_M_price (l : Launch) (hfl : l.stackTraces = false) (G : GG) (b0 : Nat) (ks : KK) (ad : AD) (T : TT) (P : PP) (z w : Int) (hz : inI z) (hw : inI w) (hMI : MI ks ad P) (hMN : MN T)  : vx_Met l yX4_price wsX4_price (rmX 2 0 0 42) (va_Pc [.ref (ad 12 0), .int (iI (z)), .int (iI (w))] (Ok G b0 (ks, ad, T, P))) (Qr (fun v u1 => ∃ (r : Int) (T1 : TT), v = some (.int (iI r)) ∧ (((z < 0 ∨ 5 ≤ z ∨ w < 0 ∨ T 12 0 1 < w) ∧ T1 = up T 12 0 0 1) ∨ ((0 ≤ z ∧ z < 5 ∧ 0 ≤ w ∧ w ≤ T 12 0 1 ∧ r = mpr T z w) ∧ T1 = up T 12 0 0 0)) ∧ u1 = (ks, ad, T1, P)) G b0) (Xr (noX) G b0) 0 0 (Wx b0) := by
  refine vx_ofW (cc := cX4_price) (maxL := 3) (ret := (some .int)) (by decide +kernel) rfl ?_
  intro p e s m args below meth c s₁ B hml hto hv
  obtain ⟨rfl, hok⟩ := hv
  have hM : CallFix p m c cX4_price 3 s _ wsX4_price RX4 := ⟨B.exec, B.bytes, hml, findClass_of_methodNamed B.named, atoms_spec (ws := wsX4_price) B.pre⟩
  have hr := B.returns
  have hlk := B.notSynchronized
  have hC := hok.cur
  have hl := lv_entry ([.ref (ad 12 0), .int (iI (z)), .int (iI (w))]) (n := 3) (Nat.le_of_ble_eq_true rfl)
  rw [lg_entry_eq]
  generalize (lg_sl ([.ref (ad 12 0), .int (iI (z)), .int (iI (w))]) ++ List.replicate (3 - (lg_sl ([.ref (ad 12 0), .int (iI (z)), .int (iI (w))])).length) Slot.unset).toArray = ls at hl ⊢
  have hl : lv_has ls 3 [(0, .ref (ad 12 0)), (1, .int (iI (z))), (2, .int (iI (w)))] := hl
  obtain ⟨⟨m1a, m1b⟩, ⟨m5a, m5b⟩, ⟨m6a, m6b⟩, ⟨mxa, mxb⟩, mpv, mpp, msv, mor⟩ := id hMN
  refine y_aload_n hM hl 0 rfl rfl dX4_price_0 ?_
  refine y_iload_n hM hl 1 rfl rfl dX4_price_1 ?_
  refine y_callS hM hC (c_M_isProvider l hfl G b0 (ks, ad, T, P) (z) (by constructor <;> omega)) (va_cwS 1 hM.2.2.2.2 gX4_price_X4_isProvider rfl rfl rfl (by decide +kernel) ⟨(Nat.le_of_ble_eq_true rfl), (Nat.le_of_ble_eq_true rfl)⟩) rfl hl.1 rfl (Nat.le_of_ble_eq_true rfl) dX4_price_2 ⟨(Nat.le_of_ble_eq_true rfl), (Nat.le_of_ble_eq_true rfl)⟩ (fun E ce q9 u1 H locs hx hC hce hcv hcl => hx.elim) (fun v u1 H locs hp hC => ?_)
  obtain ⟨r_2, rfl, h_2, hu⟩ := hp; rw [hu] at hC; clear hu
  try dsimp only at h_2
  refine W.eq (g2 := F0 m 5 ls [.int (iI (r_2)), .ref (ad 12 0)]) rfl ?_
  refine y_if_eq hM (by constructor <;> omega) (tgt := 24) dX4_price_5 (by decide) (fun c_5 => ?_) (fun c_5 => ?_)
  ·
    refine y_iconst hM dX4_price_24 ?_
    refine y_put hM hC hMI.1 rfl rfl (by decide +kernel) tyX4 tyX4_ok nmX4 0 ⟨by decide, rfl, rfl, rfl, rfl⟩ (by decide +kernel) (ty := .int) (by decide +kernel) rfl rfl (Nat.le_of_ble_eq_true rfl) (T' := (up T 12 0 0 (1))) (P' := P) (cF_up rfl) (fun _ _ h => up_ne h) (fun _ _ _ => rfl) dX4_price_25 (fun H locs hC => ?_)
    refine y_aload_n hM hl 0 rfl rfl dX4_price_28 ?_
    refine y_get hM hC hMI.1 rfl rfl (by decide +kernel) 0 ⟨by decide, rfl, rfl, rfl⟩ (by decide +kernel) (congrArg (fun q => some (Value.int (iI q))) (show (up T 12 0 0 (1)) 12 0 0 = 1 from by simp [up, zrT])) dX4_price_29 ?_
    refine y_if_le hM (by constructor <;> omega) (tgt := 39) dX4_price_32 (by decide) (fun c_32 => False.elim (by omega)) (fun c_32 => ?_)
    refine y_iconst hM dX4_price_35 ?_
    refine lv_goto (tgt := 45) hM.1 hM.2.1 dX4_price_36 (by decide) ?_
    exact y_iret hM hr hlk hC ⟨_, _, rfl, (Or.inl ⟨by omega, rfl⟩), rfl⟩ (Nat.le_of_ble_eq_true rfl) (Nat.le_of_ble_eq_true rfl) dX4_price_45
  ·
    refine y_iload_n hM hl 2 rfl rfl dX4_price_8 ?_
    refine y_iconst hM dX4_price_9 ?_
    refine y_aload_n hM hl 0 rfl rfl dX4_price_10 ?_
    refine y_get hM hC hMI.1 rfl rfl (by decide +kernel) 1 ⟨by decide, rfl, rfl, rfl⟩ (by decide +kernel) rfl dX4_price_11 ?_
    refine y_callS hM hC (c_isIn l hfl G b0 (ks, ad, T, P) (w) (0) (T 12 0 1) (by constructor <;> omega) (by constructor <;> omega) (by constructor <;> omega)) (va_cwS 3 hM.2.2.2.2 gX4_price_X4_isIn rfl rfl rfl (by decide +kernel) ⟨(Nat.le_of_ble_eq_true rfl), (Nat.le_of_ble_eq_true rfl)⟩) rfl hl.1 rfl (Nat.le_of_ble_eq_true rfl) dX4_price_14 ⟨(Nat.le_of_ble_eq_true rfl), (Nat.le_of_ble_eq_true rfl)⟩ (fun E ce q9 u1 H locs hx hC hce hcv hcl => hx.elim) (fun v u1 H locs hp hC => ?_)
    obtain ⟨r_14, rfl, h_14, hu⟩ := hp; rw [hu] at hC; clear hu
    try dsimp only at h_14
    refine W.eq (g2 := F0 m 17 ls [.int (iI (r_14)), .ref (ad 12 0)]) rfl ?_
    refine y_if_eq hM (by constructor <;> omega) (tgt := 24) dX4_price_17 (by decide) (fun c_17 => ?_) (fun c_17 => ?_)
    ·
      refine y_iconst hM dX4_price_24 ?_
      refine y_put hM hC hMI.1 rfl rfl (by decide +kernel) tyX4 tyX4_ok nmX4 0 ⟨by decide, rfl, rfl, rfl, rfl⟩ (by decide +kernel) (ty := .int) (by decide +kernel) rfl rfl (Nat.le_of_ble_eq_true rfl) (T' := (up T 12 0 0 (1))) (P' := P) (cF_up rfl) (fun _ _ h => up_ne h) (fun _ _ _ => rfl) dX4_price_25 (fun H locs hC => ?_)
      refine y_aload_n hM hl 0 rfl rfl dX4_price_28 ?_
      refine y_get hM hC hMI.1 rfl rfl (by decide +kernel) 0 ⟨by decide, rfl, rfl, rfl⟩ (by decide +kernel) (congrArg (fun q => some (Value.int (iI q))) (show (up T 12 0 0 (1)) 12 0 0 = 1 from by simp [up, zrT])) dX4_price_29 ?_
      refine y_if_le hM (by constructor <;> omega) (tgt := 39) dX4_price_32 (by decide) (fun c_32 => False.elim (by omega)) (fun c_32 => ?_)
      refine y_iconst hM dX4_price_35 ?_
      refine lv_goto (tgt := 45) hM.1 hM.2.1 dX4_price_36 (by decide) ?_
      exact y_iret hM hr hlk hC ⟨_, _, rfl, (Or.inl ⟨by omega, rfl⟩), rfl⟩ (Nat.le_of_ble_eq_true rfl) (Nat.le_of_ble_eq_true rfl) dX4_price_45
    ·
      refine y_iconst hM dX4_price_20 ?_
      refine lv_goto (tgt := 25) hM.1 hM.2.1 dX4_price_21 (by decide) ?_
      refine y_put hM hC hMI.1 rfl rfl (by decide +kernel) tyX4 tyX4_ok nmX4 0 ⟨by decide, rfl, rfl, rfl, rfl⟩ (by decide +kernel) (ty := .int) (by decide +kernel) rfl rfl (Nat.le_of_ble_eq_true rfl) (T' := (up T 12 0 0 (0))) (P' := P) (cF_up rfl) (fun _ _ h => up_ne h) (fun _ _ _ => rfl) dX4_price_25 (fun H locs hC => ?_)
      refine y_aload_n hM hl 0 rfl rfl dX4_price_28 ?_
      refine y_get hM hC hMI.1 rfl rfl (by decide +kernel) 0 ⟨by decide, rfl, rfl, rfl⟩ (by decide +kernel) (congrArg (fun q => some (Value.int (iI q))) (show (up T 12 0 0 (0)) 12 0 0 = 0 from by simp [up, zrT])) dX4_price_29 ?_
      refine y_if_le hM (by constructor <;> omega) (tgt := 39) dX4_price_32 (by decide) (fun c_32 => ?_) (fun c_32 => False.elim (by omega))
      refine y_aload_n hM hl 0 rfl rfl dX4_price_39 ?_
      refine y_iload_n hM hl 1 rfl rfl dX4_price_40 ?_
      refine y_iload_n hM hl 2 rfl rfl dX4_price_41 ?_
      refine y_callV hM hC (c_priceOf l hfl G b0 ks ad (up T 12 0 0 (0)) P (z) (w) ⟨by omega, by omega⟩ ⟨by omega, by omega⟩ hMI) (cwV 2 hM.2.2.2.2 gX4_price_X4_priceOf rfl rfl rfl (by decide +kernel) ⟨(Nat.le_of_ble_eq_true rfl), (Nat.le_of_ble_eq_true rfl)⟩) (y_recv hC hMI.1 rfl rfl) rfl hl.1 rfl (Nat.le_of_ble_eq_true rfl) dX4_price_42 ⟨(Nat.le_of_ble_eq_true rfl), (Nat.le_of_ble_eq_true rfl)⟩ (fun E ce q9 u1 H locs hx hC hce hcv hcl => hx.elim) (fun v u1 H locs hp hC => ?_)
      obtain ⟨r_42, rfl, h_42, hu⟩ := hp; rw [hu] at hC; clear hu
      try dsimp only at h_42
      refine W.eq (g2 := F0 m 45 ls [.int (iI (r_42))]) rfl ?_
      exact y_iret hM hr hlk hC ⟨_, _, rfl, (Or.inr ⟨⟨by omega, by omega, by omega, by omega, h_42⟩, rfl⟩), rfl⟩ (Nat.le_of_ble_eq_true rfl) (Nat.le_of_ble_eq_true rfl) dX4_price_45

set_option maxRecDepth 100000 in
set_option maxHeartbeats 8000000 in
theorem c_M_setDefault (l : Launch) (hfl : l.stackTraces = false) (G : GG) (b0 : Nat) (ks : KK) (ad : AD) (T : TT) (P : PP) (z : Int) (hz : inI z) (hMI : MI ks ad P) (hMN : MN T)  : vx_Met l yX4_setDefault wsX4_setDefault (rmX 1 0 0 22) (va_Pc [.ref (ad 12 0), .int (iI (z))] (Ok G b0 (ks, ad, T, P))) (Qr (fun v u1 => ∃ (r : Int) (T1 : TT), v = some (.int (iI r)) ∧ (((z < 100 ∨ 10000 < z) ∧ T1 = up T 12 0 0 1) ∨ ((100 ≤ z ∧ z ≤ 10000 ∧ r = T 12 0 5) ∧ T1 = up (up T 12 0 0 0) 12 0 5 z)) ∧ u1 = (ks, ad, T1, P)) G b0) (Xr (noX) G b0) 0 0 (Wx b0) := by
  refine vx_ofW (cc := cX4_setDefault) (maxL := 3) (ret := (some .int)) (by decide +kernel) rfl ?_
  intro p e s m args below meth c s₁ B hml hto hv
  obtain ⟨rfl, hok⟩ := hv
  have hM : CallFix p m c cX4_setDefault 3 s _ wsX4_setDefault RX4 := ⟨B.exec, B.bytes, hml, findClass_of_methodNamed B.named, atoms_spec (ws := wsX4_setDefault) B.pre⟩
  have hr := B.returns
  have hlk := B.notSynchronized
  have hC := hok.cur
  have hl := lv_entry ([.ref (ad 12 0), .int (iI (z))]) (n := 3) (Nat.le_of_ble_eq_true rfl)
  rw [lg_entry_eq]
  generalize (lg_sl ([.ref (ad 12 0), .int (iI (z))]) ++ List.replicate (3 - (lg_sl ([.ref (ad 12 0), .int (iI (z))])).length) Slot.unset).toArray = ls at hl ⊢
  have hl : lv_has ls 3 [(0, .ref (ad 12 0)), (1, .int (iI (z)))] := hl
  obtain ⟨⟨m1a, m1b⟩, ⟨m5a, m5b⟩, ⟨m6a, m6b⟩, ⟨mxa, mxb⟩, mpv, mpp, msv, mor⟩ := id hMN
  refine y_aload_n hM hl 0 rfl rfl dX4_setDefault_0 ?_
  refine y_iload_n hM hl 1 rfl rfl dX4_setDefault_1 ?_
  refine y_bipush hM dX4_setDefault_2 (by decide) ?_
  refine y_sipush hM dX4_setDefault_4 (by decide) ?_
  refine y_callS hM hC (c_isIn l hfl G b0 (ks, ad, T, P) (z) (100) (10000) (by constructor <;> omega) (by constructor <;> omega) (by constructor <;> omega)) (va_cwS 3 hM.2.2.2.2 gX4_setDefault_X4_isIn rfl rfl rfl (by decide +kernel) ⟨(Nat.le_of_ble_eq_true rfl), (Nat.le_of_ble_eq_true rfl)⟩) rfl hl.1 rfl (Nat.le_of_ble_eq_true rfl) dX4_setDefault_7 ⟨(Nat.le_of_ble_eq_true rfl), (Nat.le_of_ble_eq_true rfl)⟩ (fun E ce q9 u1 H locs hx hC hce hcv hcl => hx.elim) (fun v u1 H locs hp hC => ?_)
  obtain ⟨r_7, rfl, h_7, hu⟩ := hp; rw [hu] at hC; clear hu
  try dsimp only at h_7
  refine W.eq (g2 := F0 m 10 ls [.int (iI (r_7)), .ref (ad 12 0)]) rfl ?_
  refine y_if_eq hM (by constructor <;> omega) (tgt := 17) dX4_setDefault_10 (by decide) (fun c_10 => ?_) (fun c_10 => ?_)
  ·
    refine y_iconst hM dX4_setDefault_17 ?_
    refine y_put hM hC hMI.1 rfl rfl (by decide +kernel) tyX4 tyX4_ok nmX4 0 ⟨by decide, rfl, rfl, rfl, rfl⟩ (by decide +kernel) (ty := .int) (by decide +kernel) rfl rfl (Nat.le_of_ble_eq_true rfl) (T' := (up T 12 0 0 (1))) (P' := P) (cF_up rfl) (fun _ _ h => up_ne h) (fun _ _ _ => rfl) dX4_setDefault_18 (fun H locs hC => ?_)
    refine y_aload_n hM hl 0 rfl rfl dX4_setDefault_21 ?_
    refine y_get hM hC hMI.1 rfl rfl (by decide +kernel) 0 ⟨by decide, rfl, rfl, rfl⟩ (by decide +kernel) (congrArg (fun q => some (Value.int (iI q))) (show (up T 12 0 0 (1)) 12 0 0 = 1 from by simp [up, zrT])) dX4_setDefault_22 ?_
    refine y_if_le hM (by constructor <;> omega) (tgt := 30) dX4_setDefault_25 (by decide) (fun c_25 => False.elim (by omega)) (fun c_25 => ?_)
    refine y_iconst hM dX4_setDefault_28 ?_
    exact y_iret hM hr hlk hC ⟨_, _, rfl, (Or.inl ⟨by omega, rfl⟩), rfl⟩ (Nat.le_of_ble_eq_true rfl) (Nat.le_of_ble_eq_true rfl) dX4_setDefault_29
  ·
    refine y_iconst hM dX4_setDefault_13 ?_
    refine lv_goto (tgt := 18) hM.1 hM.2.1 dX4_setDefault_14 (by decide) ?_
    refine y_put hM hC hMI.1 rfl rfl (by decide +kernel) tyX4 tyX4_ok nmX4 0 ⟨by decide, rfl, rfl, rfl, rfl⟩ (by decide +kernel) (ty := .int) (by decide +kernel) rfl rfl (Nat.le_of_ble_eq_true rfl) (T' := (up T 12 0 0 (0))) (P' := P) (cF_up rfl) (fun _ _ h => up_ne h) (fun _ _ _ => rfl) dX4_setDefault_18 (fun H locs hC => ?_)
    refine y_aload_n hM hl 0 rfl rfl dX4_setDefault_21 ?_
    refine y_get hM hC hMI.1 rfl rfl (by decide +kernel) 0 ⟨by decide, rfl, rfl, rfl⟩ (by decide +kernel) (congrArg (fun q => some (Value.int (iI q))) (show (up T 12 0 0 (0)) 12 0 0 = 0 from by simp [up, zrT])) dX4_setDefault_22 ?_
    refine y_if_le hM (by constructor <;> omega) (tgt := 30) dX4_setDefault_25 (by decide) (fun c_25 => ?_) (fun c_25 => False.elim (by omega))
    refine y_aload_n hM hl 0 rfl rfl dX4_setDefault_30 ?_
    refine y_get hM hC hMI.1 rfl rfl (by decide +kernel) 5 ⟨by decide, rfl, rfl, rfl⟩ (by decide +kernel) (congrArg (fun q => some (Value.int (iI q))) (show (up T 12 0 0 (0)) 12 0 5 = T 12 0 5 from by simp [up, zrT])) dX4_setDefault_31 ?_
    refine lv_istore_n (lv' := [(2, .int (iI (T 12 0 5))), (0, .ref (ad 12 0)), (1, .int (iI (z)))]) hM.1 hM.2.1 dX4_setDefault_34 rfl hl (by decide) rfl (fun ls hl => ?_)
    refine y_aload_n hM hl 1 rfl rfl dX4_setDefault_35 ?_
    refine y_iload_n hM hl 2 rfl rfl dX4_setDefault_36 ?_
    refine y_put hM hC hMI.1 rfl rfl (by decide +kernel) tyX4 tyX4_ok nmX4 5 ⟨by decide, rfl, rfl, rfl, rfl⟩ (by decide +kernel) (ty := .int) (by decide +kernel) rfl rfl (Nat.le_of_ble_eq_true rfl) (T' := (up (up T 12 0 0 (0)) 12 0 5 (z))) (P' := P) (cF_up rfl) (fun _ _ h => up_ne h) (fun _ _ _ => rfl) dX4_setDefault_37 (fun H locs hC => ?_)
    refine y_iload_n hM hl 0 rfl rfl dX4_setDefault_40 ?_
    exact y_iret hM hr hlk hC ⟨_, _, rfl, (Or.inr ⟨⟨by omega, by omega, rfl⟩, rfl⟩), rfl⟩ (Nat.le_of_ble_eq_true rfl) (Nat.le_of_ble_eq_true rfl) dX4_setDefault_41

set_option maxRecDepth 100000 in
set_option maxHeartbeats 8000000 in
theorem c_M_setPrice (l : Launch) (hfl : l.stackTraces = false) (G : GG) (b0 : Nat) (ks : KK) (ad : AD) (T : TT) (P : PP) (z w : Int) (hz : inI z) (hw : inI w) (hMI : MI ks ad P) (hMN : MN T)  : vx_Met l yX4_setPrice wsX4_setPrice (rmX 2 0 0 42) (va_Pc [.ref (ad 12 0), .int (iI (z)), .int (iI (w))] (Ok G b0 (ks, ad, T, P))) (Qr (fun v u1 => ∃ (r : Int) (T1 : TT), v = some (.int (iI r)) ∧ (((z < 0 ∨ 5 ≤ z ∨ w < 100 ∨ 10000 < w) ∧ T1 = up T 12 0 0 1) ∨ ((0 ≤ z ∧ z < 5 ∧ 100 ≤ w ∧ w ≤ 10000 ∧ T 23 0 z.toNat = 61 ∧ T 24 0 z.toNat ≠ T 12 0 1) ∧ T1 = up (up T 12 0 0 0) 12 0 0 2) ∨ ((0 ≤ z ∧ z < 5 ∧ 100 ≤ w ∧ w ≤ 10000 ∧ (T 23 0 z.toNat ≠ 61 ∨ T 24 0 z.toNat = T 12 0 1) ∧ r = mpr T z (T 12 0 1)) ∧ T1 = up (up (up (up (up T 12 0 0 0) 12 0 0 0) 23 0 z.toNat (T 23 0 z.toNat + (if T 24 0 z.toNat = T 12 0 1 then 0 else 1))) 24 0 z.toNat (T 12 0 1)) 22 0 (2001 * z + T 12 0 1).toNat w)) ∧ u1 = (ks, ad, T1, P)) G b0) (Xr (noX) G b0) 0 0 (Wx b0) := by
  refine vx_ofW (cc := cX4_setPrice) (maxL := 4) (ret := (some .int)) (by decide +kernel) rfl ?_
  intro p e s m args below meth c s₁ B hml hto hv
  obtain ⟨rfl, hok⟩ := hv
  have hM : CallFix p m c cX4_setPrice 4 s _ wsX4_setPrice RX4 := ⟨B.exec, B.bytes, hml, findClass_of_methodNamed B.named, atoms_spec (ws := wsX4_setPrice) B.pre⟩
  have hr := B.returns
  have hlk := B.notSynchronized
  have hC := hok.cur
  have hl := lv_entry ([.ref (ad 12 0), .int (iI (z)), .int (iI (w))]) (n := 4) (Nat.le_of_ble_eq_true rfl)
  rw [lg_entry_eq]
  generalize (lg_sl ([.ref (ad 12 0), .int (iI (z)), .int (iI (w))]) ++ List.replicate (4 - (lg_sl ([.ref (ad 12 0), .int (iI (z)), .int (iI (w))])).length) Slot.unset).toArray = ls at hl ⊢
  have hl : lv_has ls 4 [(0, .ref (ad 12 0)), (1, .int (iI (z))), (2, .int (iI (w)))] := hl
  obtain ⟨⟨m1a, m1b⟩, ⟨m5a, m5b⟩, ⟨m6a, m6b⟩, ⟨mxa, mxb⟩, mpv, mpp, msv, mor⟩ := id hMN
  refine y_aload_n hM hl 0 rfl rfl dX4_setPrice_0 ?_
  refine y_iload_n hM hl 1 rfl rfl dX4_setPrice_1 ?_
  refine y_callS hM hC (c_M_isProvider l hfl G b0 (ks, ad, T, P) (z) (by constructor <;> omega)) (va_cwS 1 hM.2.2.2.2 gX4_setPrice_X4_isProvider rfl rfl rfl (by decide +kernel) ⟨(Nat.le_of_ble_eq_true rfl), (Nat.le_of_ble_eq_true rfl)⟩) rfl hl.1 rfl (Nat.le_of_ble_eq_true rfl) dX4_setPrice_2 ⟨(Nat.le_of_ble_eq_true rfl), (Nat.le_of_ble_eq_true rfl)⟩ (fun E ce q9 u1 H locs hx hC hce hcv hcl => hx.elim) (fun v u1 H locs hp hC => ?_)
  obtain ⟨r_2, rfl, h_2, hu⟩ := hp; rw [hu] at hC; clear hu
  try dsimp only at h_2
  refine W.eq (g2 := F0 m 5 ls [.int (iI (r_2)), .ref (ad 12 0)]) rfl ?_
  refine y_if_eq hM (by constructor <;> omega) (tgt := 24) dX4_setPrice_5 (by decide) (fun c_5 => ?_) (fun c_5 => ?_)
  ·
    refine y_iconst hM dX4_setPrice_24 ?_
    refine y_put hM hC hMI.1 rfl rfl (by decide +kernel) tyX4 tyX4_ok nmX4 0 ⟨by decide, rfl, rfl, rfl, rfl⟩ (by decide +kernel) (ty := .int) (by decide +kernel) rfl rfl (Nat.le_of_ble_eq_true rfl) (T' := (up T 12 0 0 (1))) (P' := P) (cF_up rfl) (fun _ _ h => up_ne h) (fun _ _ _ => rfl) dX4_setPrice_25 (fun H locs hC => ?_)
    refine y_aload_n hM hl 0 rfl rfl dX4_setPrice_28 ?_
    refine y_get hM hC hMI.1 rfl rfl (by decide +kernel) 0 ⟨by decide, rfl, rfl, rfl⟩ (by decide +kernel) (congrArg (fun q => some (Value.int (iI q))) (show (up T 12 0 0 (1)) 12 0 0 = 1 from by simp [up, zrT])) dX4_setPrice_29 ?_
    refine y_if_le hM (by constructor <;> omega) (tgt := 37) dX4_setPrice_32 (by decide) (fun c_32 => False.elim (by omega)) (fun c_32 => ?_)
    refine y_iconst hM dX4_setPrice_35 ?_
    exact y_iret hM hr hlk hC ⟨_, _, rfl, (Or.inl ⟨by omega, rfl⟩), rfl⟩ (Nat.le_of_ble_eq_true rfl) (Nat.le_of_ble_eq_true rfl) dX4_setPrice_36
  ·
    refine y_iload_n hM hl 2 rfl rfl dX4_setPrice_8 ?_
    refine y_bipush hM dX4_setPrice_9 (by decide) ?_
    refine y_sipush hM dX4_setPrice_11 (by decide) ?_
    refine y_callS hM hC (c_isIn l hfl G b0 (ks, ad, T, P) (w) (100) (10000) (by constructor <;> omega) (by constructor <;> omega) (by constructor <;> omega)) (va_cwS 3 hM.2.2.2.2 gX4_setPrice_X4_isIn rfl rfl rfl (by decide +kernel) ⟨(Nat.le_of_ble_eq_true rfl), (Nat.le_of_ble_eq_true rfl)⟩) rfl hl.1 rfl (Nat.le_of_ble_eq_true rfl) dX4_setPrice_14 ⟨(Nat.le_of_ble_eq_true rfl), (Nat.le_of_ble_eq_true rfl)⟩ (fun E ce q9 u1 H locs hx hC hce hcv hcl => hx.elim) (fun v u1 H locs hp hC => ?_)
    obtain ⟨r_14, rfl, h_14, hu⟩ := hp; rw [hu] at hC; clear hu
    try dsimp only at h_14
    refine W.eq (g2 := F0 m 17 ls [.int (iI (r_14)), .ref (ad 12 0)]) rfl ?_
    refine y_if_eq hM (by constructor <;> omega) (tgt := 24) dX4_setPrice_17 (by decide) (fun c_17 => ?_) (fun c_17 => ?_)
    ·
      refine y_iconst hM dX4_setPrice_24 ?_
      refine y_put hM hC hMI.1 rfl rfl (by decide +kernel) tyX4 tyX4_ok nmX4 0 ⟨by decide, rfl, rfl, rfl, rfl⟩ (by decide +kernel) (ty := .int) (by decide +kernel) rfl rfl (Nat.le_of_ble_eq_true rfl) (T' := (up T 12 0 0 (1))) (P' := P) (cF_up rfl) (fun _ _ h => up_ne h) (fun _ _ _ => rfl) dX4_setPrice_25 (fun H locs hC => ?_)
      refine y_aload_n hM hl 0 rfl rfl dX4_setPrice_28 ?_
      refine y_get hM hC hMI.1 rfl rfl (by decide +kernel) 0 ⟨by decide, rfl, rfl, rfl⟩ (by decide +kernel) (congrArg (fun q => some (Value.int (iI q))) (show (up T 12 0 0 (1)) 12 0 0 = 1 from by simp [up, zrT])) dX4_setPrice_29 ?_
      refine y_if_le hM (by constructor <;> omega) (tgt := 37) dX4_setPrice_32 (by decide) (fun c_32 => False.elim (by omega)) (fun c_32 => ?_)
      refine y_iconst hM dX4_setPrice_35 ?_
      exact y_iret hM hr hlk hC ⟨_, _, rfl, (Or.inl ⟨by omega, rfl⟩), rfl⟩ (Nat.le_of_ble_eq_true rfl) (Nat.le_of_ble_eq_true rfl) dX4_setPrice_36
    ·
      refine y_iconst hM dX4_setPrice_20 ?_
      refine lv_goto (tgt := 25) hM.1 hM.2.1 dX4_setPrice_21 (by decide) ?_
      refine y_put hM hC hMI.1 rfl rfl (by decide +kernel) tyX4 tyX4_ok nmX4 0 ⟨by decide, rfl, rfl, rfl, rfl⟩ (by decide +kernel) (ty := .int) (by decide +kernel) rfl rfl (Nat.le_of_ble_eq_true rfl) (T' := (up T 12 0 0 (0))) (P' := P) (cF_up rfl) (fun _ _ h => up_ne h) (fun _ _ _ => rfl) dX4_setPrice_25 (fun H locs hC => ?_)
      refine y_aload_n hM hl 0 rfl rfl dX4_setPrice_28 ?_
      refine y_get hM hC hMI.1 rfl rfl (by decide +kernel) 0 ⟨by decide, rfl, rfl, rfl⟩ (by decide +kernel) (congrArg (fun q => some (Value.int (iI q))) (show (up T 12 0 0 (0)) 12 0 0 = 0 from by simp [up, zrT])) dX4_setPrice_29 ?_
      refine y_if_le hM (by constructor <;> omega) (tgt := 37) dX4_setPrice_32 (by decide) (fun c_32 => ?_) (fun c_32 => False.elim (by omega))
      have hp := mpp z.toNat (by omega)
      refine y_aload_n hM hl 0 rfl rfl dX4_setPrice_37 ?_
      refine y_aload_n hM hl 0 rfl rfl dX4_setPrice_38 ?_
      refine y_get hM hC hMI.1 rfl rfl (by decide +kernel) 3 ⟨by decide, rfl, rfl, rfl⟩ (by decide +kernel) (congrArg (fun q => some (va_rf q)) (hMI.2 3 (by decide)).2) dX4_setPrice_39 ?_
      refine W.eq (g2 := F0 m 42 ls [.ref (ad 23 0), .ref (ad 12 0)]) rfl ?_
      refine y_iload_n hM hl 1 rfl rfl dX4_setPrice_42 ?_
      refine y_iald hM hC (hMI.2 3 (by decide)).1 rfl ⟨by omega, by omega⟩ (by decide) (x := T 23 0 (z).toNat) (by simp [up, zrT]) dX4_setPrice_43 ?_
      refine y_bipush hM dX4_setPrice_44 (by decide) ?_
      refine y_icmp_ne hM (by constructor <;> omega) (by constructor <;> omega) (tgt := 66) dX4_setPrice_46 (by decide) (fun c_46 => ?_) (fun c_46 => ?_)
      ·
        refine y_iconst hM dX4_setPrice_66 ?_
        refine y_put hM hC hMI.1 rfl rfl (by decide +kernel) tyX4 tyX4_ok nmX4 0 ⟨by decide, rfl, rfl, rfl, rfl⟩ (by decide +kernel) (ty := .int) (by decide +kernel) rfl rfl (Nat.le_of_ble_eq_true rfl) (T' := (up (up T 12 0 0 (0)) 12 0 0 (0))) (P' := P) (cF_up rfl) (fun _ _ h => up_ne h) (fun _ _ _ => rfl) dX4_setPrice_67 (fun H locs hC => ?_)
        refine y_aload_n hM hl 0 rfl rfl dX4_setPrice_70 ?_
        refine y_get hM hC hMI.1 rfl rfl (by decide +kernel) 0 ⟨by decide, rfl, rfl, rfl⟩ (by decide +kernel) (congrArg (fun q => some (Value.int (iI q))) (show (up (up T 12 0 0 (0)) 12 0 0 (0)) 12 0 0 = 0 from by simp [up, zrT])) dX4_setPrice_71 ?_
        refine y_if_le hM (by constructor <;> omega) (tgt := 79) dX4_setPrice_74 (by decide) (fun c_74 => ?_) (fun c_74 => False.elim (by omega))
        refine y_aload_n hM hl 0 rfl rfl dX4_setPrice_79 ?_
        refine y_iload_n hM hl 1 rfl rfl dX4_setPrice_80 ?_
        refine y_aload_n hM hl 0 rfl rfl dX4_setPrice_81 ?_
        refine y_get hM hC hMI.1 rfl rfl (by decide +kernel) 1 ⟨by decide, rfl, rfl, rfl⟩ (by decide +kernel) (congrArg (fun q => some (Value.int (iI q))) (show (up (up T 12 0 0 (0)) 12 0 0 (0)) 12 0 1 = T 12 0 1 from by simp [up, zrT])) dX4_setPrice_82 ?_
        refine y_callV hM hC (c_priceOf l hfl G b0 ks ad (up (up T 12 0 0 (0)) 12 0 0 (0)) P (z) (T 12 0 1) ⟨by omega, by omega⟩ ⟨by omega, by omega⟩ hMI) (cwV 2 hM.2.2.2.2 gX4_setPrice_X4_priceOf rfl rfl rfl (by decide +kernel) ⟨(Nat.le_of_ble_eq_true rfl), (Nat.le_of_ble_eq_true rfl)⟩) (y_recv hC hMI.1 rfl rfl) rfl hl.1 rfl (Nat.le_of_ble_eq_true rfl) dX4_setPrice_85 ⟨(Nat.le_of_ble_eq_true rfl), (Nat.le_of_ble_eq_true rfl)⟩ (fun E ce q9 u1 H locs hx hC hce hcv hcl => hx.elim) (fun v u1 H locs hp hC => ?_)
        obtain ⟨r_85, rfl, h_85, hu⟩ := hp; rw [hu] at hC; clear hu
        try dsimp only at h_85
        refine W.eq (g2 := F0 m 88 ls [.int (iI (r_85))]) rfl ?_
        refine lv_istore_n (lv' := [(3, .int (iI (r_85))), (0, .ref (ad 12 0)), (1, .int (iI (z))), (2, .int (iI (w)))]) hM.1 hM.2.1 dX4_setPrice_88 rfl hl (by decide) rfl (fun ls hl => ?_)
        refine y_aload_n hM hl 1 rfl rfl dX4_setPrice_89 ?_
        refine y_get hM hC hMI.1 rfl rfl (by decide +kernel) 3 ⟨by decide, rfl, rfl, rfl⟩ (by decide +kernel) (congrArg (fun q => some (va_rf q)) (hMI.2 3 (by decide)).2) dX4_setPrice_90 ?_
        refine W.eq (g2 := F0 m 93 ls [.ref (ad 23 0)]) rfl ?_
        refine y_iload_n hM hl 2 rfl rfl dX4_setPrice_93 ?_
        refine lv_dup2_11 hM.1 hM.2.1 dX4_setPrice_94 rfl rfl ?_
        refine y_iald hM hC (hMI.2 3 (by decide)).1 rfl ⟨by omega, by omega⟩ (by decide) (x := T 23 0 (z).toNat) (by simp [up, zrT]) dX4_setPrice_95 ?_
        refine y_aload_n hM hl 1 rfl rfl dX4_setPrice_96 ?_
        refine y_get hM hC hMI.1 rfl rfl (by decide +kernel) 4 ⟨by decide, rfl, rfl, rfl⟩ (by decide +kernel) (congrArg (fun q => some (va_rf q)) (hMI.2 4 (by decide)).2) dX4_setPrice_97 ?_
        refine W.eq (g2 := F0 m 100 ls [.ref (ad 24 0), .int (iI (T 23 0 (z).toNat)), .int (iI (z)), .ref (ad 23 0)]) rfl ?_
        refine y_iload_n hM hl 2 rfl rfl dX4_setPrice_100 ?_
        refine y_iald hM hC (hMI.2 4 (by decide)).1 rfl ⟨by omega, by omega⟩ (by decide) (x := T 24 0 (z).toNat) (by simp [up, zrT]) dX4_setPrice_101 ?_
        refine y_aload_n hM hl 1 rfl rfl dX4_setPrice_102 ?_
        refine y_get hM hC hMI.1 rfl rfl (by decide +kernel) 1 ⟨by decide, rfl, rfl, rfl⟩ (by decide +kernel) (congrArg (fun q => some (Value.int (iI q))) (show (up (up T 12 0 0 (0)) 12 0 0 (0)) 12 0 1 = T 12 0 1 from by simp [up, zrT])) dX4_setPrice_103 ?_
        refine y_icmp_ne hM (by constructor <;> omega) (by constructor <;> omega) (tgt := 113) dX4_setPrice_106 (by decide) (fun c_106 => ?_) (fun c_106 => ?_)
        ·
          refine y_iconst hM dX4_setPrice_113 ?_
          refine y_iadd hM dX4_setPrice_114 ?_
          refine y_iast hM hC (hMI.2 3 (by decide)).1 (fun _ _ => rfl) ⟨by omega, by omega⟩ (by decide) dX4_setPrice_115 (fun H locs hC => ?_)
          refine y_aload_n hM hl 1 rfl rfl dX4_setPrice_116 ?_
          refine y_get hM hC hMI.1 rfl rfl (by decide +kernel) 4 ⟨by decide, rfl, rfl, rfl⟩ (by decide +kernel) (congrArg (fun q => some (va_rf q)) (hMI.2 4 (by decide)).2) dX4_setPrice_117 ?_
          refine W.eq (g2 := F0 m 120 ls [.ref (ad 24 0)]) rfl ?_
          refine y_iload_n hM hl 2 rfl rfl dX4_setPrice_120 ?_
          refine y_aload_n hM hl 1 rfl rfl dX4_setPrice_121 ?_
          refine y_get hM hC hMI.1 rfl rfl (by decide +kernel) 1 ⟨by decide, rfl, rfl, rfl⟩ (by decide +kernel) (congrArg (fun q => some (Value.int (iI q))) (show (up (up (up T 12 0 0 (0)) 12 0 0 (0)) 23 0 ((z).toNat) ((T 23 0 (z).toNat) + (1))) 12 0 1 = T 12 0 1 from by simp [up, zrT])) dX4_setPrice_122 ?_
          refine y_iast hM hC (hMI.2 4 (by decide)).1 (fun _ _ => rfl) ⟨by omega, by omega⟩ (by decide) dX4_setPrice_125 (fun H locs hC => ?_)
          refine y_aload_n hM hl 1 rfl rfl dX4_setPrice_126 ?_
          refine y_get hM hC hMI.1 rfl rfl (by decide +kernel) 2 ⟨by decide, rfl, rfl, rfl⟩ (by decide +kernel) (congrArg (fun q => some (va_rf q)) (hMI.2 2 (by decide)).2) dX4_setPrice_127 ?_
          refine W.eq (g2 := F0 m 130 ls [.ref (ad 22 0)]) rfl ?_
          refine y_sipush hM dX4_setPrice_130 (by decide) ?_
          refine y_iload_n hM hl 2 rfl rfl dX4_setPrice_133 ?_
          refine y_imul hM dX4_setPrice_134 ?_
          refine y_aload_n hM hl 1 rfl rfl dX4_setPrice_135 ?_
          refine y_get hM hC hMI.1 rfl rfl (by decide +kernel) 1 ⟨by decide, rfl, rfl, rfl⟩ (by decide +kernel) (congrArg (fun q => some (Value.int (iI q))) (show (up (up (up (up T 12 0 0 (0)) 12 0 0 (0)) 23 0 ((z).toNat) ((T 23 0 (z).toNat) + (1))) 24 0 ((z).toNat) (T 12 0 1)) 12 0 1 = T 12 0 1 from by simp [up, zrT])) dX4_setPrice_136 ?_
          refine y_iadd hM dX4_setPrice_139 ?_
          refine y_iload_n hM hl 3 rfl rfl dX4_setPrice_140 ?_
          refine y_iast hM hC (hMI.2 2 (by decide)).1 (fun _ _ => rfl) ⟨by omega, by omega⟩ (by decide) dX4_setPrice_141 (fun H locs hC => ?_)
          refine y_iload_n hM hl 0 rfl rfl dX4_setPrice_142 ?_
          exact y_iret hM hr hlk hC ⟨_, _, rfl, (Or.inr (Or.inr ⟨⟨by omega, by omega, by omega, by omega, by omega, h_85⟩, by rw [if_neg (by omega)]⟩)), rfl⟩ (Nat.le_of_ble_eq_true rfl) (Nat.le_of_ble_eq_true rfl) dX4_setPrice_143
        ·
          refine y_iconst hM dX4_setPrice_109 ?_
          refine lv_goto (tgt := 114) hM.1 hM.2.1 dX4_setPrice_110 (by decide) ?_
          refine y_iadd hM dX4_setPrice_114 ?_
          refine y_iast hM hC (hMI.2 3 (by decide)).1 (fun _ _ => rfl) ⟨by omega, by omega⟩ (by decide) dX4_setPrice_115 (fun H locs hC => ?_)
          refine y_aload_n hM hl 1 rfl rfl dX4_setPrice_116 ?_
          refine y_get hM hC hMI.1 rfl rfl (by decide +kernel) 4 ⟨by decide, rfl, rfl, rfl⟩ (by decide +kernel) (congrArg (fun q => some (va_rf q)) (hMI.2 4 (by decide)).2) dX4_setPrice_117 ?_
          refine W.eq (g2 := F0 m 120 ls [.ref (ad 24 0)]) rfl ?_
          refine y_iload_n hM hl 2 rfl rfl dX4_setPrice_120 ?_
          refine y_aload_n hM hl 1 rfl rfl dX4_setPrice_121 ?_
          refine y_get hM hC hMI.1 rfl rfl (by decide +kernel) 1 ⟨by decide, rfl, rfl, rfl⟩ (by decide +kernel) (congrArg (fun q => some (Value.int (iI q))) (show (up (up (up T 12 0 0 (0)) 12 0 0 (0)) 23 0 ((z).toNat) ((T 23 0 (z).toNat) + (0))) 12 0 1 = T 12 0 1 from by simp [up, zrT])) dX4_setPrice_122 ?_
          refine y_iast hM hC (hMI.2 4 (by decide)).1 (fun _ _ => rfl) ⟨by omega, by omega⟩ (by decide) dX4_setPrice_125 (fun H locs hC => ?_)
          refine y_aload_n hM hl 1 rfl rfl dX4_setPrice_126 ?_
          refine y_get hM hC hMI.1 rfl rfl (by decide +kernel) 2 ⟨by decide, rfl, rfl, rfl⟩ (by decide +kernel) (congrArg (fun q => some (va_rf q)) (hMI.2 2 (by decide)).2) dX4_setPrice_127 ?_
          refine W.eq (g2 := F0 m 130 ls [.ref (ad 22 0)]) rfl ?_
          refine y_sipush hM dX4_setPrice_130 (by decide) ?_
          refine y_iload_n hM hl 2 rfl rfl dX4_setPrice_133 ?_
          refine y_imul hM dX4_setPrice_134 ?_
          refine y_aload_n hM hl 1 rfl rfl dX4_setPrice_135 ?_
          refine y_get hM hC hMI.1 rfl rfl (by decide +kernel) 1 ⟨by decide, rfl, rfl, rfl⟩ (by decide +kernel) (congrArg (fun q => some (Value.int (iI q))) (show (up (up (up (up T 12 0 0 (0)) 12 0 0 (0)) 23 0 ((z).toNat) ((T 23 0 (z).toNat) + (0))) 24 0 ((z).toNat) (T 12 0 1)) 12 0 1 = T 12 0 1 from by simp [up, zrT])) dX4_setPrice_136 ?_
          refine y_iadd hM dX4_setPrice_139 ?_
          refine y_iload_n hM hl 3 rfl rfl dX4_setPrice_140 ?_
          refine y_iast hM hC (hMI.2 2 (by decide)).1 (fun _ _ => rfl) ⟨by omega, by omega⟩ (by decide) dX4_setPrice_141 (fun H locs hC => ?_)
          refine y_iload_n hM hl 0 rfl rfl dX4_setPrice_142 ?_
          exact y_iret hM hr hlk hC ⟨_, _, rfl, (Or.inr (Or.inr ⟨⟨by omega, by omega, by omega, by omega, by omega, h_85⟩, by rw [if_pos (by omega)]⟩)), rfl⟩ (Nat.le_of_ble_eq_true rfl) (Nat.le_of_ble_eq_true rfl) dX4_setPrice_143
      ·
        refine y_aload_n hM hl 0 rfl rfl dX4_setPrice_49 ?_
        refine y_get hM hC hMI.1 rfl rfl (by decide +kernel) 4 ⟨by decide, rfl, rfl, rfl⟩ (by decide +kernel) (congrArg (fun q => some (va_rf q)) (hMI.2 4 (by decide)).2) dX4_setPrice_50 ?_
        refine W.eq (g2 := F0 m 53 ls [.ref (ad 24 0), .ref (ad 12 0)]) rfl ?_
        refine y_iload_n hM hl 1 rfl rfl dX4_setPrice_53 ?_
        refine y_iald hM hC (hMI.2 4 (by decide)).1 rfl ⟨by omega, by omega⟩ (by decide) (x := T 24 0 (z).toNat) (by simp [up, zrT]) dX4_setPrice_54 ?_
        refine y_aload_n hM hl 0 rfl rfl dX4_setPrice_55 ?_
        refine y_get hM hC hMI.1 rfl rfl (by decide +kernel) 1 ⟨by decide, rfl, rfl, rfl⟩ (by decide +kernel) (congrArg (fun q => some (Value.int (iI q))) (show (up T 12 0 0 (0)) 12 0 1 = T 12 0 1 from by simp [up, zrT])) dX4_setPrice_56 ?_
        refine y_icmp_eq hM (by constructor <;> omega) (by constructor <;> omega) (tgt := 66) dX4_setPrice_59 (by decide) (fun c_59 => ?_) (fun c_59 => ?_)
        ·
          refine y_iconst hM dX4_setPrice_66 ?_
          refine y_put hM hC hMI.1 rfl rfl (by decide +kernel) tyX4 tyX4_ok nmX4 0 ⟨by decide, rfl, rfl, rfl, rfl⟩ (by decide +kernel) (ty := .int) (by decide +kernel) rfl rfl (Nat.le_of_ble_eq_true rfl) (T' := (up (up T 12 0 0 (0)) 12 0 0 (0))) (P' := P) (cF_up rfl) (fun _ _ h => up_ne h) (fun _ _ _ => rfl) dX4_setPrice_67 (fun H locs hC => ?_)
          refine y_aload_n hM hl 0 rfl rfl dX4_setPrice_70 ?_
          refine y_get hM hC hMI.1 rfl rfl (by decide +kernel) 0 ⟨by decide, rfl, rfl, rfl⟩ (by decide +kernel) (congrArg (fun q => some (Value.int (iI q))) (show (up (up T 12 0 0 (0)) 12 0 0 (0)) 12 0 0 = 0 from by simp [up, zrT])) dX4_setPrice_71 ?_
          refine y_if_le hM (by constructor <;> omega) (tgt := 79) dX4_setPrice_74 (by decide) (fun c_74 => ?_) (fun c_74 => False.elim (by omega))
          refine y_aload_n hM hl 0 rfl rfl dX4_setPrice_79 ?_
          refine y_iload_n hM hl 1 rfl rfl dX4_setPrice_80 ?_
          refine y_aload_n hM hl 0 rfl rfl dX4_setPrice_81 ?_
          refine y_get hM hC hMI.1 rfl rfl (by decide +kernel) 1 ⟨by decide, rfl, rfl, rfl⟩ (by decide +kernel) (congrArg (fun q => some (Value.int (iI q))) (show (up (up T 12 0 0 (0)) 12 0 0 (0)) 12 0 1 = T 12 0 1 from by simp [up, zrT])) dX4_setPrice_82 ?_
          refine y_callV hM hC (c_priceOf l hfl G b0 ks ad (up (up T 12 0 0 (0)) 12 0 0 (0)) P (z) (T 12 0 1) ⟨by omega, by omega⟩ ⟨by omega, by omega⟩ hMI) (cwV 2 hM.2.2.2.2 gX4_setPrice_X4_priceOf rfl rfl rfl (by decide +kernel) ⟨(Nat.le_of_ble_eq_true rfl), (Nat.le_of_ble_eq_true rfl)⟩) (y_recv hC hMI.1 rfl rfl) rfl hl.1 rfl (Nat.le_of_ble_eq_true rfl) dX4_setPrice_85 ⟨(Nat.le_of_ble_eq_true rfl), (Nat.le_of_ble_eq_true rfl)⟩ (fun E ce q9 u1 H locs hx hC hce hcv hcl => hx.elim) (fun v u1 H locs hp hC => ?_)
          obtain ⟨r_85, rfl, h_85, hu⟩ := hp; rw [hu] at hC; clear hu
          try dsimp only at h_85
          refine W.eq (g2 := F0 m 88 ls [.int (iI (r_85))]) rfl ?_
          refine lv_istore_n (lv' := [(3, .int (iI (r_85))), (0, .ref (ad 12 0)), (1, .int (iI (z))), (2, .int (iI (w)))]) hM.1 hM.2.1 dX4_setPrice_88 rfl hl (by decide) rfl (fun ls hl => ?_)
          refine y_aload_n hM hl 1 rfl rfl dX4_setPrice_89 ?_
          refine y_get hM hC hMI.1 rfl rfl (by decide +kernel) 3 ⟨by decide, rfl, rfl, rfl⟩ (by decide +kernel) (congrArg (fun q => some (va_rf q)) (hMI.2 3 (by decide)).2) dX4_setPrice_90 ?_
          refine W.eq (g2 := F0 m 93 ls [.ref (ad 23 0)]) rfl ?_
          refine y_iload_n hM hl 2 rfl rfl dX4_setPrice_93 ?_
          refine lv_dup2_11 hM.1 hM.2.1 dX4_setPrice_94 rfl rfl ?_
          refine y_iald hM hC (hMI.2 3 (by decide)).1 rfl ⟨by omega, by omega⟩ (by decide) (x := T 23 0 (z).toNat) (by simp [up, zrT]) dX4_setPrice_95 ?_
          refine y_aload_n hM hl 1 rfl rfl dX4_setPrice_96 ?_
          refine y_get hM hC hMI.1 rfl rfl (by decide +kernel) 4 ⟨by decide, rfl, rfl, rfl⟩ (by decide +kernel) (congrArg (fun q => some (va_rf q)) (hMI.2 4 (by decide)).2) dX4_setPrice_97 ?_
          refine W.eq (g2 := F0 m 100 ls [.ref (ad 24 0), .int (iI (T 23 0 (z).toNat)), .int (iI (z)), .ref (ad 23 0)]) rfl ?_
          refine y_iload_n hM hl 2 rfl rfl dX4_setPrice_100 ?_
          refine y_iald hM hC (hMI.2 4 (by decide)).1 rfl ⟨by omega, by omega⟩ (by decide) (x := T 24 0 (z).toNat) (by simp [up, zrT]) dX4_setPrice_101 ?_
          refine y_aload_n hM hl 1 rfl rfl dX4_setPrice_102 ?_
          refine y_get hM hC hMI.1 rfl rfl (by decide +kernel) 1 ⟨by decide, rfl, rfl, rfl⟩ (by decide +kernel) (congrArg (fun q => some (Value.int (iI q))) (show (up (up T 12 0 0 (0)) 12 0 0 (0)) 12 0 1 = T 12 0 1 from by simp [up, zrT])) dX4_setPrice_103 ?_
          refine y_icmp_ne hM (by constructor <;> omega) (by constructor <;> omega) (tgt := 113) dX4_setPrice_106 (by decide) (fun c_106 => ?_) (fun c_106 => ?_)
          ·
            refine y_iconst hM dX4_setPrice_113 ?_
            refine y_iadd hM dX4_setPrice_114 ?_
            refine y_iast hM hC (hMI.2 3 (by decide)).1 (fun _ _ => rfl) ⟨by omega, by omega⟩ (by decide) dX4_setPrice_115 (fun H locs hC => ?_)
            refine y_aload_n hM hl 1 rfl rfl dX4_setPrice_116 ?_
            refine y_get hM hC hMI.1 rfl rfl (by decide +kernel) 4 ⟨by decide, rfl, rfl, rfl⟩ (by decide +kernel) (congrArg (fun q => some (va_rf q)) (hMI.2 4 (by decide)).2) dX4_setPrice_117 ?_
            refine W.eq (g2 := F0 m 120 ls [.ref (ad 24 0)]) rfl ?_
            refine y_iload_n hM hl 2 rfl rfl dX4_setPrice_120 ?_
            refine y_aload_n hM hl 1 rfl rfl dX4_setPrice_121 ?_
            refine y_get hM hC hMI.1 rfl rfl (by decide +kernel) 1 ⟨by decide, rfl, rfl, rfl⟩ (by decide +kernel) (congrArg (fun q => some (Value.int (iI q))) (show (up (up (up T 12 0 0 (0)) 12 0 0 (0)) 23 0 ((z).toNat) ((T 23 0 (z).toNat) + (1))) 12 0 1 = T 12 0 1 from by simp [up, zrT])) dX4_setPrice_122 ?_
            refine y_iast hM hC (hMI.2 4 (by decide)).1 (fun _ _ => rfl) ⟨by omega, by omega⟩ (by decide) dX4_setPrice_125 (fun H locs hC => ?_)
            refine y_aload_n hM hl 1 rfl rfl dX4_setPrice_126 ?_
            refine y_get hM hC hMI.1 rfl rfl (by decide +kernel) 2 ⟨by decide, rfl, rfl, rfl⟩ (by decide +kernel) (congrArg (fun q => some (va_rf q)) (hMI.2 2 (by decide)).2) dX4_setPrice_127 ?_
            refine W.eq (g2 := F0 m 130 ls [.ref (ad 22 0)]) rfl ?_
            refine y_sipush hM dX4_setPrice_130 (by decide) ?_
            refine y_iload_n hM hl 2 rfl rfl dX4_setPrice_133 ?_
            refine y_imul hM dX4_setPrice_134 ?_
            refine y_aload_n hM hl 1 rfl rfl dX4_setPrice_135 ?_
            refine y_get hM hC hMI.1 rfl rfl (by decide +kernel) 1 ⟨by decide, rfl, rfl, rfl⟩ (by decide +kernel) (congrArg (fun q => some (Value.int (iI q))) (show (up (up (up (up T 12 0 0 (0)) 12 0 0 (0)) 23 0 ((z).toNat) ((T 23 0 (z).toNat) + (1))) 24 0 ((z).toNat) (T 12 0 1)) 12 0 1 = T 12 0 1 from by simp [up, zrT])) dX4_setPrice_136 ?_
            refine y_iadd hM dX4_setPrice_139 ?_
            refine y_iload_n hM hl 3 rfl rfl dX4_setPrice_140 ?_
            refine y_iast hM hC (hMI.2 2 (by decide)).1 (fun _ _ => rfl) ⟨by omega, by omega⟩ (by decide) dX4_setPrice_141 (fun H locs hC => ?_)
            refine y_iload_n hM hl 0 rfl rfl dX4_setPrice_142 ?_
            exact y_iret hM hr hlk hC ⟨_, _, rfl, (Or.inr (Or.inr ⟨⟨by omega, by omega, by omega, by omega, by omega, h_85⟩, by rw [if_neg (by omega)]⟩)), rfl⟩ (Nat.le_of_ble_eq_true rfl) (Nat.le_of_ble_eq_true rfl) dX4_setPrice_143
          ·
            refine y_iconst hM dX4_setPrice_109 ?_
            refine lv_goto (tgt := 114) hM.1 hM.2.1 dX4_setPrice_110 (by decide) ?_
            refine y_iadd hM dX4_setPrice_114 ?_
            refine y_iast hM hC (hMI.2 3 (by decide)).1 (fun _ _ => rfl) ⟨by omega, by omega⟩ (by decide) dX4_setPrice_115 (fun H locs hC => ?_)
            refine y_aload_n hM hl 1 rfl rfl dX4_setPrice_116 ?_
            refine y_get hM hC hMI.1 rfl rfl (by decide +kernel) 4 ⟨by decide, rfl, rfl, rfl⟩ (by decide +kernel) (congrArg (fun q => some (va_rf q)) (hMI.2 4 (by decide)).2) dX4_setPrice_117 ?_
            refine W.eq (g2 := F0 m 120 ls [.ref (ad 24 0)]) rfl ?_
            refine y_iload_n hM hl 2 rfl rfl dX4_setPrice_120 ?_
            refine y_aload_n hM hl 1 rfl rfl dX4_setPrice_121 ?_
            refine y_get hM hC hMI.1 rfl rfl (by decide +kernel) 1 ⟨by decide, rfl, rfl, rfl⟩ (by decide +kernel) (congrArg (fun q => some (Value.int (iI q))) (show (up (up (up T 12 0 0 (0)) 12 0 0 (0)) 23 0 ((z).toNat) ((T 23 0 (z).toNat) + (0))) 12 0 1 = T 12 0 1 from by simp [up, zrT])) dX4_setPrice_122 ?_
            refine y_iast hM hC (hMI.2 4 (by decide)).1 (fun _ _ => rfl) ⟨by omega, by omega⟩ (by decide) dX4_setPrice_125 (fun H locs hC => ?_)
            refine y_aload_n hM hl 1 rfl rfl dX4_setPrice_126 ?_
            refine y_get hM hC hMI.1 rfl rfl (by decide +kernel) 2 ⟨by decide, rfl, rfl, rfl⟩ (by decide +kernel) (congrArg (fun q => some (va_rf q)) (hMI.2 2 (by decide)).2) dX4_setPrice_127 ?_
            refine W.eq (g2 := F0 m 130 ls [.ref (ad 22 0)]) rfl ?_
            refine y_sipush hM dX4_setPrice_130 (by decide) ?_
            refine y_iload_n hM hl 2 rfl rfl dX4_setPrice_133 ?_
            refine y_imul hM dX4_setPrice_134 ?_
            refine y_aload_n hM hl 1 rfl rfl dX4_setPrice_135 ?_
            refine y_get hM hC hMI.1 rfl rfl (by decide +kernel) 1 ⟨by decide, rfl, rfl, rfl⟩ (by decide +kernel) (congrArg (fun q => some (Value.int (iI q))) (show (up (up (up (up T 12 0 0 (0)) 12 0 0 (0)) 23 0 ((z).toNat) ((T 23 0 (z).toNat) + (0))) 24 0 ((z).toNat) (T 12 0 1)) 12 0 1 = T 12 0 1 from by simp [up, zrT])) dX4_setPrice_136 ?_
            refine y_iadd hM dX4_setPrice_139 ?_
            refine y_iload_n hM hl 3 rfl rfl dX4_setPrice_140 ?_
            refine y_iast hM hC (hMI.2 2 (by decide)).1 (fun _ _ => rfl) ⟨by omega, by omega⟩ (by decide) dX4_setPrice_141 (fun H locs hC => ?_)
            refine y_iload_n hM hl 0 rfl rfl dX4_setPrice_142 ?_
            exact y_iret hM hr hlk hC ⟨_, _, rfl, (Or.inr (Or.inr ⟨⟨by omega, by omega, by omega, by omega, by omega, h_85⟩, by rw [if_pos (by omega)]⟩)), rfl⟩ (Nat.le_of_ble_eq_true rfl) (Nat.le_of_ble_eq_true rfl) dX4_setPrice_143
        ·
          refine y_iconst hM dX4_setPrice_62 ?_
          refine lv_goto (tgt := 67) hM.1 hM.2.1 dX4_setPrice_63 (by decide) ?_
          refine y_put hM hC hMI.1 rfl rfl (by decide +kernel) tyX4 tyX4_ok nmX4 0 ⟨by decide, rfl, rfl, rfl, rfl⟩ (by decide +kernel) (ty := .int) (by decide +kernel) rfl rfl (Nat.le_of_ble_eq_true rfl) (T' := (up (up T 12 0 0 (0)) 12 0 0 (2))) (P' := P) (cF_up rfl) (fun _ _ h => up_ne h) (fun _ _ _ => rfl) dX4_setPrice_67 (fun H locs hC => ?_)
          refine y_aload_n hM hl 0 rfl rfl dX4_setPrice_70 ?_
          refine y_get hM hC hMI.1 rfl rfl (by decide +kernel) 0 ⟨by decide, rfl, rfl, rfl⟩ (by decide +kernel) (congrArg (fun q => some (Value.int (iI q))) (show (up (up T 12 0 0 (0)) 12 0 0 (2)) 12 0 0 = 2 from by simp [up, zrT])) dX4_setPrice_71 ?_
          refine y_if_le hM (by constructor <;> omega) (tgt := 79) dX4_setPrice_74 (by decide) (fun c_74 => False.elim (by omega)) (fun c_74 => ?_)
          refine y_iconst hM dX4_setPrice_77 ?_
          exact y_iret hM hr hlk hC ⟨_, _, rfl, (Or.inr (Or.inl ⟨by omega, rfl⟩)), rfl⟩ (Nat.le_of_ble_eq_true rfl) (Nat.le_of_ble_eq_true rfl) dX4_setPrice_78

set_option maxRecDepth 100000 in
set_option maxHeartbeats 8000000 in
theorem c_M_begin (l : Launch) (hfl : l.stackTraces = false) (G : GG) (b0 : Nat) (ks : KK) (ad : AD) (T : TT) (P : PP) (z w : Int) (hz : inI z) (hw : inI w) (hMI : MI ks ad P) (hMN : MN T)  : vx_Met l yX4_begin wsX4_begin (rmX 2 0 0 42) (va_Pc [.ref (ad 12 0), .int (iI (z)), .int (iI (w))] (Ok G b0 (ks, ad, T, P))) (Qr (fun v u1 => ∃ (r : Int) (T1 : TT), v = some (.int (iI r)) ∧ (((z < 0 ∨ 5 ≤ z ∨ w < 0 ∨ 1000000 < w) ∧ T1 = up T 12 0 0 1) ∨ ((0 ≤ z ∧ z < 5 ∧ 0 ≤ w ∧ w ≤ 1000000 ∧ T 12 0 6 = 10) ∧ T1 = up T 12 0 0 2) ∨ ((0 ≤ z ∧ z < 5 ∧ 0 ≤ w ∧ w ≤ 1000000 ∧ T 12 0 6 ≠ 10 ∧ r = T 12 0 6) ∧ T1 = up (up (up (up T 12 0 0 0) 27 0 (T 12 0 6).toNat z) 28 0 (T 12 0 6).toNat (thF w (mpr T z (T 12 0 1)))) 12 0 6 (T 12 0 6 + 1))) ∧ u1 = (ks, ad, T1, P)) G b0) (Xr (noX) G b0) 0 0 (Wx b0) := by
  refine vx_ofW (cc := cX4_begin) (maxL := 3) (ret := (some .int)) (by decide +kernel) rfl ?_
  intro p e s m args below meth c s₁ B hml hto hv
  obtain ⟨rfl, hok⟩ := hv
  have hM : CallFix p m c cX4_begin 3 s _ wsX4_begin RX4 := ⟨B.exec, B.bytes, hml, findClass_of_methodNamed B.named, atoms_spec (ws := wsX4_begin) B.pre⟩
  have hr := B.returns
  have hlk := B.notSynchronized
  have hC := hok.cur
  have hl := lv_entry ([.ref (ad 12 0), .int (iI (z)), .int (iI (w))]) (n := 3) (Nat.le_of_ble_eq_true rfl)
  rw [lg_entry_eq]
  generalize (lg_sl ([.ref (ad 12 0), .int (iI (z)), .int (iI (w))]) ++ List.replicate (3 - (lg_sl ([.ref (ad 12 0), .int (iI (z)), .int (iI (w))])).length) Slot.unset).toArray = ls at hl ⊢
  have hl : lv_has ls 3 [(0, .ref (ad 12 0)), (1, .int (iI (z))), (2, .int (iI (w)))] := hl
  obtain ⟨⟨m1a, m1b⟩, ⟨m5a, m5b⟩, ⟨m6a, m6b⟩, ⟨mxa, mxb⟩, mpv, mpp, msv, mor⟩ := id hMN
  refine y_aload_n hM hl 0 rfl rfl dX4_begin_0 ?_
  refine y_iload_n hM hl 1 rfl rfl dX4_begin_1 ?_
  refine y_callS hM hC (c_M_isProvider l hfl G b0 (ks, ad, T, P) (z) (by constructor <;> omega)) (va_cwS 1 hM.2.2.2.2 gX4_begin_X4_isProvider rfl rfl rfl (by decide +kernel) ⟨(Nat.le_of_ble_eq_true rfl), (Nat.le_of_ble_eq_true rfl)⟩) rfl hl.1 rfl (Nat.le_of_ble_eq_true rfl) dX4_begin_2 ⟨(Nat.le_of_ble_eq_true rfl), (Nat.le_of_ble_eq_true rfl)⟩ (fun E ce q9 u1 H locs hx hC hce hcv hcl => hx.elim) (fun v u1 H locs hp hC => ?_)
  obtain ⟨r_2, rfl, h_2, hu⟩ := hp; rw [hu] at hC; clear hu
  try dsimp only at h_2
  refine W.eq (g2 := F0 m 5 ls [.int (iI (r_2)), .ref (ad 12 0)]) rfl ?_
  refine y_if_eq hM (by constructor <;> omega) (tgt := 18) dX4_begin_5 (by decide) (fun c_5 => ?_) (fun c_5 => ?_)
  ·
    refine y_iconst hM dX4_begin_18 ?_
    refine lv_goto (tgt := 36) hM.1 hM.2.1 dX4_begin_19 (by decide) ?_
    refine y_put hM hC hMI.1 rfl rfl (by decide +kernel) tyX4 tyX4_ok nmX4 0 ⟨by decide, rfl, rfl, rfl, rfl⟩ (by decide +kernel) (ty := .int) (by decide +kernel) rfl rfl (Nat.le_of_ble_eq_true rfl) (T' := (up T 12 0 0 (1))) (P' := P) (cF_up rfl) (fun _ _ h => up_ne h) (fun _ _ _ => rfl) dX4_begin_36 (fun H locs hC => ?_)
    refine y_aload_n hM hl 0 rfl rfl dX4_begin_39 ?_
    refine y_get hM hC hMI.1 rfl rfl (by decide +kernel) 0 ⟨by decide, rfl, rfl, rfl⟩ (by decide +kernel) (congrArg (fun q => some (Value.int (iI q))) (show (up T 12 0 0 (1)) 12 0 0 = 1 from by simp [up, zrT])) dX4_begin_40 ?_
    refine y_if_le hM (by constructor <;> omega) (tgt := 48) dX4_begin_43 (by decide) (fun c_43 => False.elim (by omega)) (fun c_43 => ?_)
    refine y_iconst hM dX4_begin_46 ?_
    exact y_iret hM hr hlk hC ⟨_, _, rfl, (Or.inl ⟨by omega, rfl⟩), rfl⟩ (Nat.le_of_ble_eq_true rfl) (Nat.le_of_ble_eq_true rfl) dX4_begin_47
  ·
    refine y_iload_n hM hl 2 rfl rfl dX4_begin_8 ?_
    refine y_iconst hM dX4_begin_9 ?_
    refine y_ldc hM (v := 1000000) (1000000) (by decide) (by decide +kernel) dX4_begin_10 ?_
    refine y_callS hM hC (c_isIn l hfl G b0 (ks, ad, T, P) (w) (0) (1000000) (by constructor <;> omega) (by constructor <;> omega) (by constructor <;> omega)) (va_cwS 3 hM.2.2.2.2 gX4_begin_X4_isIn rfl rfl rfl (by decide +kernel) ⟨(Nat.le_of_ble_eq_true rfl), (Nat.le_of_ble_eq_true rfl)⟩) rfl hl.1 rfl (Nat.le_of_ble_eq_true rfl) dX4_begin_12 ⟨(Nat.le_of_ble_eq_true rfl), (Nat.le_of_ble_eq_true rfl)⟩ (fun E ce q9 u1 H locs hx hC hce hcv hcl => hx.elim) (fun v u1 H locs hp hC => ?_)
    obtain ⟨r_12, rfl, h_12, hu⟩ := hp; rw [hu] at hC; clear hu
    try dsimp only at h_12
    refine W.eq (g2 := F0 m 15 ls [.int (iI (r_12)), .ref (ad 12 0)]) rfl ?_
    refine y_if_ne hM (by constructor <;> omega) (tgt := 22) dX4_begin_15 (by decide) (fun c_15 => ?_) (fun c_15 => ?_)
    ·
      refine y_aload_n hM hl 0 rfl rfl dX4_begin_22 ?_
      refine y_get hM hC hMI.1 rfl rfl (by decide +kernel) 6 ⟨by decide, rfl, rfl, rfl⟩ (by decide +kernel) rfl dX4_begin_23 ?_
      refine y_bipush hM dX4_begin_26 (by decide) ?_
      refine y_icmp_ne hM (by constructor <;> omega) (by constructor <;> omega) (tgt := 35) dX4_begin_28 (by decide) (fun c_28 => ?_) (fun c_28 => ?_)
      ·
        refine y_iconst hM dX4_begin_35 ?_
        refine y_put hM hC hMI.1 rfl rfl (by decide +kernel) tyX4 tyX4_ok nmX4 0 ⟨by decide, rfl, rfl, rfl, rfl⟩ (by decide +kernel) (ty := .int) (by decide +kernel) rfl rfl (Nat.le_of_ble_eq_true rfl) (T' := (up T 12 0 0 (0))) (P' := P) (cF_up rfl) (fun _ _ h => up_ne h) (fun _ _ _ => rfl) dX4_begin_36 (fun H locs hC => ?_)
        refine y_aload_n hM hl 0 rfl rfl dX4_begin_39 ?_
        refine y_get hM hC hMI.1 rfl rfl (by decide +kernel) 0 ⟨by decide, rfl, rfl, rfl⟩ (by decide +kernel) (congrArg (fun q => some (Value.int (iI q))) (show (up T 12 0 0 (0)) 12 0 0 = 0 from by simp [up, zrT])) dX4_begin_40 ?_
        refine y_if_le hM (by constructor <;> omega) (tgt := 48) dX4_begin_43 (by decide) (fun c_43 => ?_) (fun c_43 => False.elim (by omega))
        refine y_aload_n hM hl 0 rfl rfl dX4_begin_48 ?_
        refine y_get hM hC hMI.1 rfl rfl (by decide +kernel) 7 ⟨by decide, rfl, rfl, rfl⟩ (by decide +kernel) (congrArg (fun q => some (va_rf q)) (hMI.2 7 (by decide)).2) dX4_begin_49 ?_
        refine W.eq (g2 := F0 m 52 ls [.ref (ad 27 0)]) rfl ?_
        refine y_aload_n hM hl 0 rfl rfl dX4_begin_52 ?_
        refine y_get hM hC hMI.1 rfl rfl (by decide +kernel) 6 ⟨by decide, rfl, rfl, rfl⟩ (by decide +kernel) (congrArg (fun q => some (Value.int (iI q))) (show (up T 12 0 0 (0)) 12 0 6 = T 12 0 6 from by simp [up, zrT])) dX4_begin_53 ?_
        refine y_iload_n hM hl 1 rfl rfl dX4_begin_56 ?_
        refine y_iast hM hC (hMI.2 7 (by decide)).1 (fun _ _ => rfl) ⟨by omega, by omega⟩ (by decide) dX4_begin_57 (fun H locs hC => ?_)
        refine y_aload_n hM hl 0 rfl rfl dX4_begin_58 ?_
        refine y_get hM hC hMI.1 rfl rfl (by decide +kernel) 8 ⟨by decide, rfl, rfl, rfl⟩ (by decide +kernel) (congrArg (fun q => some (va_rf q)) (hMI.2 8 (by decide)).2) dX4_begin_59 ?_
        refine W.eq (g2 := F0 m 62 ls [.ref (ad 28 0)]) rfl ?_
        refine y_aload_n hM hl 0 rfl rfl dX4_begin_62 ?_
        refine y_get hM hC hMI.1 rfl rfl (by decide +kernel) 6 ⟨by decide, rfl, rfl, rfl⟩ (by decide +kernel) (congrArg (fun q => some (Value.int (iI q))) (show (up (up T 12 0 0 (0)) 27 0 ((T 12 0 6).toNat) (z)) 12 0 6 = T 12 0 6 from by simp [up, zrT])) dX4_begin_63 ?_
        refine y_iload_n hM hl 2 rfl rfl dX4_begin_66 ?_
        refine y_i2l hM (by constructor <;> omega) dX4_begin_67 ?_
        refine y_aload_n hM hl 0 rfl rfl dX4_begin_68 ?_
        refine y_iload_n hM hl 1 rfl rfl dX4_begin_69 ?_
        refine y_aload_n hM hl 0 rfl rfl dX4_begin_70 ?_
        refine y_get hM hC hMI.1 rfl rfl (by decide +kernel) 1 ⟨by decide, rfl, rfl, rfl⟩ (by decide +kernel) (congrArg (fun q => some (Value.int (iI q))) (show (up (up T 12 0 0 (0)) 27 0 ((T 12 0 6).toNat) (z)) 12 0 1 = T 12 0 1 from by simp [up, zrT])) dX4_begin_71 ?_
        refine y_callV hM hC (c_priceOf l hfl G b0 ks ad (up (up T 12 0 0 (0)) 27 0 ((T 12 0 6).toNat) (z)) P (z) (T 12 0 1) ⟨by omega, by omega⟩ ⟨by omega, by omega⟩ hMI) (cwV 2 hM.2.2.2.2 gX4_begin_X4_priceOf rfl rfl rfl (by decide +kernel) ⟨(Nat.le_of_ble_eq_true rfl), (Nat.le_of_ble_eq_true rfl)⟩) (y_recv hC hMI.1 rfl rfl) rfl hl.1 rfl (Nat.le_of_ble_eq_true rfl) dX4_begin_74 ⟨(Nat.le_of_ble_eq_true rfl), (Nat.le_of_ble_eq_true rfl)⟩ (fun E ce q9 u1 H locs hx hC hce hcv hcl => hx.elim) (fun v u1 H locs hp hC => ?_)
        obtain ⟨r_74, rfl, h_74, hu⟩ := hp; rw [hu] at hC; clear hu
        try dsimp only at h_74
        refine W.eq (g2 := F0 m 77 ls [.int (iI (r_74)), .long (lI (w)), .int (iI (T 12 0 6)), .ref (ad 28 0)]) rfl ?_
        have hv := mpv z (T 12 0 1) (by omega) (by omega) (by omega) (by omega)
        have hv : 100 ≤ r_74 ∧ r_74 ≤ 10000 := by rw [h_74]; exact hv
        refine y_callS hM hC (c_unitsFor l hfl G b0 (ks, ad, (up (up T 12 0 0 (0)) 27 0 ((T 12 0 6).toNat) (z)), P) (w) (r_74) ⟨by omega, by omega⟩ ⟨by omega, by omega⟩) (va_cwS 2 hM.2.2.2.2 gX4_begin_X4_unitsFor rfl rfl rfl (by decide +kernel) ⟨(Nat.le_of_ble_eq_true rfl), (Nat.le_of_ble_eq_true rfl)⟩) rfl hl.1 rfl (Nat.le_of_ble_eq_true rfl) dX4_begin_77 ⟨(Nat.le_of_ble_eq_true rfl), (Nat.le_of_ble_eq_true rfl)⟩ (fun E ce q9 u1 H locs hx hC hce hcv hcl => hx.elim) (fun v u1 H locs hp hC => ?_)
        obtain ⟨r_77, rfl, h_77, hu⟩ := hp; rw [hu] at hC; clear hu
        try dsimp only at h_77
        refine W.eq (g2 := F0 m 80 ls [.long (lI (r_77)), .int (iI (T 12 0 6)), .ref (ad 28 0)]) rfl ?_
        refine y_last hM hC (hMI.2 8 (by decide)).1 (fun _ _ => rfl) ⟨by omega, by omega⟩ (by decide) dX4_begin_80 (fun H locs hC => ?_)
        refine y_aload_n hM hl 0 rfl rfl dX4_begin_81 ?_
        refine lv_dup hM.1 hM.2.1 dX4_begin_82 rfl ?_
        refine y_get hM hC hMI.1 rfl rfl (by decide +kernel) 6 ⟨by decide, rfl, rfl, rfl⟩ (by decide +kernel) (congrArg (fun q => some (Value.int (iI q))) (show (up (up (up T 12 0 0 (0)) 27 0 ((T 12 0 6).toNat) (z)) 28 0 ((T 12 0 6).toNat) (r_77)) 12 0 6 = T 12 0 6 from by simp [up, zrT])) dX4_begin_83 ?_
        refine y_iconst hM dX4_begin_86 ?_
        refine y_iadd hM dX4_begin_87 ?_
        refine y_put hM hC hMI.1 rfl rfl (by decide +kernel) tyX4 tyX4_ok nmX4 6 ⟨by decide, rfl, rfl, rfl, rfl⟩ (by decide +kernel) (ty := .int) (by decide +kernel) rfl rfl (Nat.le_of_ble_eq_true rfl) (T' := (up (up (up (up T 12 0 0 (0)) 27 0 ((T 12 0 6).toNat) (z)) 28 0 ((T 12 0 6).toNat) (r_77)) 12 0 6 ((T 12 0 6) + (1)))) (P' := P) (cF_up rfl) (fun _ _ h => up_ne h) (fun _ _ _ => rfl) dX4_begin_88 (fun H locs hC => ?_)
        refine y_aload_n hM hl 0 rfl rfl dX4_begin_91 ?_
        refine y_get hM hC hMI.1 rfl rfl (by decide +kernel) 6 ⟨by decide, rfl, rfl, rfl⟩ (by decide +kernel) (congrArg (fun q => some (Value.int (iI q))) (show (up (up (up (up T 12 0 0 (0)) 27 0 ((T 12 0 6).toNat) (z)) 28 0 ((T 12 0 6).toNat) (r_77)) 12 0 6 ((T 12 0 6) + (1))) 12 0 6 = (T 12 0 6) + (1) from by simp [up, zrT])) dX4_begin_92 ?_
        refine y_iconst hM dX4_begin_95 ?_
        refine y_isub hM dX4_begin_96 ?_
        exact y_iret hM hr hlk hC ⟨_, _, rfl, (Or.inr (Or.inr ⟨by omega, by rw [h_77, h_74]; rfl⟩)), rfl⟩ (Nat.le_of_ble_eq_true rfl) (Nat.le_of_ble_eq_true rfl) dX4_begin_97
      ·
        refine y_iconst hM dX4_begin_31 ?_
        refine lv_goto (tgt := 36) hM.1 hM.2.1 dX4_begin_32 (by decide) ?_
        refine y_put hM hC hMI.1 rfl rfl (by decide +kernel) tyX4 tyX4_ok nmX4 0 ⟨by decide, rfl, rfl, rfl, rfl⟩ (by decide +kernel) (ty := .int) (by decide +kernel) rfl rfl (Nat.le_of_ble_eq_true rfl) (T' := (up T 12 0 0 (2))) (P' := P) (cF_up rfl) (fun _ _ h => up_ne h) (fun _ _ _ => rfl) dX4_begin_36 (fun H locs hC => ?_)
        refine y_aload_n hM hl 0 rfl rfl dX4_begin_39 ?_
        refine y_get hM hC hMI.1 rfl rfl (by decide +kernel) 0 ⟨by decide, rfl, rfl, rfl⟩ (by decide +kernel) (congrArg (fun q => some (Value.int (iI q))) (show (up T 12 0 0 (2)) 12 0 0 = 2 from by simp [up, zrT])) dX4_begin_40 ?_
        refine y_if_le hM (by constructor <;> omega) (tgt := 48) dX4_begin_43 (by decide) (fun c_43 => False.elim (by omega)) (fun c_43 => ?_)
        refine y_iconst hM dX4_begin_46 ?_
        exact y_iret hM hr hlk hC ⟨_, _, rfl, (Or.inr (Or.inl ⟨by omega, rfl⟩)), rfl⟩ (Nat.le_of_ble_eq_true rfl) (Nat.le_of_ble_eq_true rfl) dX4_begin_47
    ·
      refine y_iconst hM dX4_begin_18 ?_
      refine lv_goto (tgt := 36) hM.1 hM.2.1 dX4_begin_19 (by decide) ?_
      refine y_put hM hC hMI.1 rfl rfl (by decide +kernel) tyX4 tyX4_ok nmX4 0 ⟨by decide, rfl, rfl, rfl, rfl⟩ (by decide +kernel) (ty := .int) (by decide +kernel) rfl rfl (Nat.le_of_ble_eq_true rfl) (T' := (up T 12 0 0 (1))) (P' := P) (cF_up rfl) (fun _ _ h => up_ne h) (fun _ _ _ => rfl) dX4_begin_36 (fun H locs hC => ?_)
      refine y_aload_n hM hl 0 rfl rfl dX4_begin_39 ?_
      refine y_get hM hC hMI.1 rfl rfl (by decide +kernel) 0 ⟨by decide, rfl, rfl, rfl⟩ (by decide +kernel) (congrArg (fun q => some (Value.int (iI q))) (show (up T 12 0 0 (1)) 12 0 0 = 1 from by simp [up, zrT])) dX4_begin_40 ?_
      refine y_if_le hM (by constructor <;> omega) (tgt := 48) dX4_begin_43 (by decide) (fun c_43 => False.elim (by omega)) (fun c_43 => ?_)
      refine y_iconst hM dX4_begin_46 ?_
      exact y_iret hM hr hlk hC ⟨_, _, rfl, (Or.inl ⟨by omega, rfl⟩), rfl⟩ (Nat.le_of_ble_eq_true rfl) (Nat.le_of_ble_eq_true rfl) dX4_begin_47

set_option maxRecDepth 100000 in
set_option maxHeartbeats 8000000 in
theorem c_M_pay (l : Launch) (hfl : l.stackTraces = false) (G : GG) (b0 : Nat) (ks : KK) (ad : AD) (T : TT) (P : PP) (z w : Int) (hz : inI z) (hw : inI w) (hMI : MI ks ad P) (hMN : MN T)  : vx_Met l yX4_pay wsX4_pay (rmX 2 0 0 43) (va_Pc [.ref (ad 12 0), .int (iI (z)), .int (iI (w))] (Ok G b0 (ks, ad, T, P))) (Qr (fun v u1 => ∃ (r : Int) (T1 : TT), v = some (.int (iI r)) ∧ (((z < 0 ∨ T 12 0 6 ≤ z) ∧ T1 = up T 12 0 0 1) ∨ ((0 ≤ z ∧ z < T 12 0 6 ∧ (w < 1 ∨ 1000000 < w)) ∧ T1 = up T 12 0 0 2) ∨ ((0 ≤ z ∧ z < T 12 0 6 ∧ 1 ≤ w ∧ w ≤ 1000000 ∧ (T 29 0 z.toNat ≠ 0 ∨ 100000000 < T 28 0 z.toNat + thF w (mpr T (T 27 0 z.toNat) (T 12 0 1)))) ∧ T1 = up (up T 12 0 0 0) 12 0 0 3) ∨ ((0 ≤ z ∧ z < T 12 0 6 ∧ 1 ≤ w ∧ w ≤ 1000000 ∧ T 29 0 z.toNat = 0 ∧ T 28 0 z.toNat + thF w (mpr T (T 27 0 z.toNat) (T 12 0 1)) ≤ 100000000 ∧ r = thF w (mpr T (T 27 0 z.toNat) (T 12 0 1))) ∧ T1 = up (up (up T 12 0 0 0) 12 0 0 0) 28 0 z.toNat (T 28 0 z.toNat + thF w (mpr T (T 27 0 z.toNat) (T 12 0 1))))) ∧ u1 = (ks, ad, T1, P)) G b0) (Xr (noX) G b0) 0 0 (Wx b0) := by
  refine vx_ofW (cc := cX4_pay) (maxL := 5) (ret := (some .int)) (by decide +kernel) rfl ?_
  intro p e s m args below meth c s₁ B hml hto hv
  obtain ⟨rfl, hok⟩ := hv
  have hM : CallFix p m c cX4_pay 5 s _ wsX4_pay RX4 := ⟨B.exec, B.bytes, hml, findClass_of_methodNamed B.named, atoms_spec (ws := wsX4_pay) B.pre⟩
  have hr := B.returns
  have hlk := B.notSynchronized
  have hC := hok.cur
  have hl := lv_entry ([.ref (ad 12 0), .int (iI (z)), .int (iI (w))]) (n := 5) (Nat.le_of_ble_eq_true rfl)
  rw [lg_entry_eq]
  generalize (lg_sl ([.ref (ad 12 0), .int (iI (z)), .int (iI (w))]) ++ List.replicate (5 - (lg_sl ([.ref (ad 12 0), .int (iI (z)), .int (iI (w))])).length) Slot.unset).toArray = ls at hl ⊢
  have hl : lv_has ls 5 [(0, .ref (ad 12 0)), (1, .int (iI (z))), (2, .int (iI (w)))] := hl
  obtain ⟨⟨m1a, m1b⟩, ⟨m5a, m5b⟩, ⟨m6a, m6b⟩, ⟨mxa, mxb⟩, mpv, mpp, msv, mor⟩ := id hMN
  refine y_aload_n hM hl 0 rfl rfl dX4_pay_0 ?_
  refine y_aload_n hM hl 0 rfl rfl dX4_pay_1 ?_
  refine y_iload_n hM hl 1 rfl rfl dX4_pay_2 ?_
  refine y_callV hM hC (c_M_isSaver l hfl G b0 ks ad T P (z) (by constructor <;> omega) hMI hMN) (cwV 1 hM.2.2.2.2 gX4_pay_X4_isSaver rfl rfl rfl (by decide +kernel) ⟨(Nat.le_of_ble_eq_true rfl), (Nat.le_of_ble_eq_true rfl)⟩) (y_recv hC hMI.1 rfl rfl) rfl hl.1 rfl (Nat.le_of_ble_eq_true rfl) dX4_pay_3 ⟨(Nat.le_of_ble_eq_true rfl), (Nat.le_of_ble_eq_true rfl)⟩ (fun E ce q9 u1 H locs hx hC hce hcv hcl => hx.elim) (fun v u1 H locs hp hC => ?_)
  obtain ⟨r_3, rfl, h_3, hu⟩ := hp; rw [hu] at hC; clear hu
  try dsimp only at h_3
  refine W.eq (g2 := F0 m 6 ls [.int (iI (r_3)), .ref (ad 12 0)]) rfl ?_
  refine y_if_ne hM (by constructor <;> omega) (tgt := 13) dX4_pay_6 (by decide) (fun c_6 => ?_) (fun c_6 => ?_)
  ·
    refine y_iload_n hM hl 2 rfl rfl dX4_pay_13 ?_
    refine y_iconst hM dX4_pay_14 ?_
    refine y_ldc hM (v := 1000000) (1000000) (by decide) (by decide +kernel) dX4_pay_15 ?_
    refine y_callS hM hC (c_isIn l hfl G b0 (ks, ad, T, P) (w) (1) (1000000) (by constructor <;> omega) (by constructor <;> omega) (by constructor <;> omega)) (va_cwS 3 hM.2.2.2.2 gX4_pay_X4_isIn rfl rfl rfl (by decide +kernel) ⟨(Nat.le_of_ble_eq_true rfl), (Nat.le_of_ble_eq_true rfl)⟩) rfl hl.1 rfl (Nat.le_of_ble_eq_true rfl) dX4_pay_17 ⟨(Nat.le_of_ble_eq_true rfl), (Nat.le_of_ble_eq_true rfl)⟩ (fun E ce q9 u1 H locs hx hC hce hcv hcl => hx.elim) (fun v u1 H locs hp hC => ?_)
    obtain ⟨r_17, rfl, h_17, hu⟩ := hp; rw [hu] at hC; clear hu
    try dsimp only at h_17
    refine W.eq (g2 := F0 m 20 ls [.int (iI (r_17)), .ref (ad 12 0)]) rfl ?_
    refine y_if_eq hM (by constructor <;> omega) (tgt := 27) dX4_pay_20 (by decide) (fun c_20 => ?_) (fun c_20 => ?_)
    ·
      refine y_iconst hM dX4_pay_27 ?_
      refine y_put hM hC hMI.1 rfl rfl (by decide +kernel) tyX4 tyX4_ok nmX4 0 ⟨by decide, rfl, rfl, rfl, rfl⟩ (by decide +kernel) (ty := .int) (by decide +kernel) rfl rfl (Nat.le_of_ble_eq_true rfl) (T' := (up T 12 0 0 (2))) (P' := P) (cF_up rfl) (fun _ _ h => up_ne h) (fun _ _ _ => rfl) dX4_pay_28 (fun H locs hC => ?_)
      refine y_aload_n hM hl 0 rfl rfl dX4_pay_31 ?_
      refine y_get hM hC hMI.1 rfl rfl (by decide +kernel) 0 ⟨by decide, rfl, rfl, rfl⟩ (by decide +kernel) (congrArg (fun q => some (Value.int (iI q))) (show (up T 12 0 0 (2)) 12 0 0 = 2 from by simp [up, zrT])) dX4_pay_32 ?_
      refine y_if_le hM (by constructor <;> omega) (tgt := 40) dX4_pay_35 (by decide) (fun c_35 => False.elim (by omega)) (fun c_35 => ?_)
      refine y_iconst hM dX4_pay_38 ?_
      exact y_iret hM hr hlk hC ⟨_, _, rfl, (Or.inr (Or.inl ⟨by omega, rfl⟩)), rfl⟩ (Nat.le_of_ble_eq_true rfl) (Nat.le_of_ble_eq_true rfl) dX4_pay_39
    ·
      refine y_iconst hM dX4_pay_23 ?_
      refine lv_goto (tgt := 28) hM.1 hM.2.1 dX4_pay_24 (by decide) ?_
      refine y_put hM hC hMI.1 rfl rfl (by decide +kernel) tyX4 tyX4_ok nmX4 0 ⟨by decide, rfl, rfl, rfl, rfl⟩ (by decide +kernel) (ty := .int) (by decide +kernel) rfl rfl (Nat.le_of_ble_eq_true rfl) (T' := (up T 12 0 0 (0))) (P' := P) (cF_up rfl) (fun _ _ h => up_ne h) (fun _ _ _ => rfl) dX4_pay_28 (fun H locs hC => ?_)
      refine y_aload_n hM hl 0 rfl rfl dX4_pay_31 ?_
      refine y_get hM hC hMI.1 rfl rfl (by decide +kernel) 0 ⟨by decide, rfl, rfl, rfl⟩ (by decide +kernel) (congrArg (fun q => some (Value.int (iI q))) (show (up T 12 0 0 (0)) 12 0 0 = 0 from by simp [up, zrT])) dX4_pay_32 ?_
      refine y_if_le hM (by constructor <;> omega) (tgt := 40) dX4_pay_35 (by decide) (fun c_35 => ?_) (fun c_35 => False.elim (by omega))
      have hs := msv z.toNat (by omega)
      unfold MSv at hs
      refine y_iload_n hM hl 2 rfl rfl dX4_pay_40 ?_
      refine y_i2l hM (by constructor <;> omega) dX4_pay_41 ?_
      refine y_aload_n hM hl 0 rfl rfl dX4_pay_42 ?_
      refine y_aload_n hM hl 0 rfl rfl dX4_pay_43 ?_
      refine y_get hM hC hMI.1 rfl rfl (by decide +kernel) 7 ⟨by decide, rfl, rfl, rfl⟩ (by decide +kernel) (congrArg (fun q => some (va_rf q)) (hMI.2 7 (by decide)).2) dX4_pay_44 ?_
      refine W.eq (g2 := F0 m 47 ls [.ref (ad 27 0), .ref (ad 12 0), .long (lI (w))]) rfl ?_
      refine y_iload_n hM hl 1 rfl rfl dX4_pay_47 ?_
      refine y_iald hM hC (hMI.2 7 (by decide)).1 rfl ⟨by omega, by omega⟩ (by decide) (x := T 27 0 (z).toNat) (by simp [up, zrT]) dX4_pay_48 ?_
      refine y_aload_n hM hl 0 rfl rfl dX4_pay_49 ?_
      refine y_get hM hC hMI.1 rfl rfl (by decide +kernel) 1 ⟨by decide, rfl, rfl, rfl⟩ (by decide +kernel) (congrArg (fun q => some (Value.int (iI q))) (show (up T 12 0 0 (0)) 12 0 1 = T 12 0 1 from by simp [up, zrT])) dX4_pay_50 ?_
      refine y_callV hM hC (c_priceOf l hfl G b0 ks ad (up T 12 0 0 (0)) P (T 27 0 (z).toNat) (T 12 0 1) ⟨by omega, by omega⟩ ⟨by omega, by omega⟩ hMI) (cwV 2 hM.2.2.2.2 gX4_pay_X4_priceOf rfl rfl rfl (by decide +kernel) ⟨(Nat.le_of_ble_eq_true rfl), (Nat.le_of_ble_eq_true rfl)⟩) (y_recv hC hMI.1 rfl rfl) rfl hl.1 rfl (Nat.le_of_ble_eq_true rfl) dX4_pay_53 ⟨(Nat.le_of_ble_eq_true rfl), (Nat.le_of_ble_eq_true rfl)⟩ (fun E ce q9 u1 H locs hx hC hce hcv hcl => hx.elim) (fun v u1 H locs hp hC => ?_)
      obtain ⟨r_53, rfl, h_53, hu⟩ := hp; rw [hu] at hC; clear hu
      try dsimp only at h_53
      refine W.eq (g2 := F0 m 56 ls [.int (iI (r_53)), .long (lI (w))]) rfl ?_
      have hv := mpv (T 27 0 z.toNat) (T 12 0 1) (by omega) (by omega) (by omega) (by omega)
      have hv : 100 ≤ r_53 ∧ r_53 ≤ 10000 := by rw [h_53]; exact hv
      refine y_callS hM hC (c_unitsFor l hfl G b0 (ks, ad, (up T 12 0 0 (0)), P) (w) (r_53) ⟨by omega, by omega⟩ ⟨by omega, by omega⟩) (va_cwS 2 hM.2.2.2.2 gX4_pay_X4_unitsFor rfl rfl rfl (by decide +kernel) ⟨(Nat.le_of_ble_eq_true rfl), (Nat.le_of_ble_eq_true rfl)⟩) rfl hl.1 rfl (Nat.le_of_ble_eq_true rfl) dX4_pay_56 ⟨(Nat.le_of_ble_eq_true rfl), (Nat.le_of_ble_eq_true rfl)⟩ (fun E ce q9 u1 H locs hx hC hce hcv hcl => hx.elim) (fun v u1 H locs hp hC => ?_)
      obtain ⟨r_56, rfl, h_56, hu⟩ := hp; rw [hu] at hC; clear hu
      try dsimp only at h_56
      refine W.eq (g2 := F0 m 59 ls [.long (lI (r_56))]) rfl ?_
      have hn_56 := thF_nn (m := w) (pr := r_53) (by omega) (by omega)
      have hl_56 := thF_le (m := w) (pr := r_53) (by omega) (by omega)
      have hm : r_56 = thF w (mpr T (T 27 0 z.toNat) (T 12 0 1)) := by rw [h_56, h_53]; rfl
      refine lv_lstore_n (lv' := [(3, .long (lI (r_56))), (0, .ref (ad 12 0)), (1, .int (iI (z))), (2, .int (iI (w)))]) hM.1 hM.2.1 dX4_pay_59 rfl hl (by decide) rfl (fun ls hl => ?_)
      refine y_aload_n hM hl 1 rfl rfl dX4_pay_60 ?_
      refine y_aload_n hM hl 1 rfl rfl dX4_pay_61 ?_
      refine y_get hM hC hMI.1 rfl rfl (by decide +kernel) 9 ⟨by decide, rfl, rfl, rfl⟩ (by decide +kernel) (congrArg (fun q => some (va_rf q)) (hMI.2 9 (by decide)).2) dX4_pay_62 ?_
      refine W.eq (g2 := F0 m 65 ls [.ref (ad 29 0), .ref (ad 12 0)]) rfl ?_
      refine y_iload_n hM hl 2 rfl rfl dX4_pay_65 ?_
      refine y_zald hM hC (hMI.2 9 (by decide)).1 rfl ⟨by omega, by omega⟩ (by decide) (x := T 29 0 (z).toNat) (by simp [up, zrT]) dX4_pay_66 ?_
      refine y_if_ne hM (by constructor <;> omega) (tgt := 85) dX4_pay_67 (by decide) (fun c_67 => ?_) (fun c_67 => ?_)
      ·
        refine y_iconst hM dX4_pay_85 ?_
        refine lv_goto (tgt := 90) hM.1 hM.2.1 dX4_pay_86 (by decide) ?_
        refine y_put hM hC hMI.1 rfl rfl (by decide +kernel) tyX4 tyX4_ok nmX4 0 ⟨by decide, rfl, rfl, rfl, rfl⟩ (by decide +kernel) (ty := .int) (by decide +kernel) rfl rfl (Nat.le_of_ble_eq_true rfl) (T' := (up (up T 12 0 0 (0)) 12 0 0 (3))) (P' := P) (cF_up rfl) (fun _ _ h => up_ne h) (fun _ _ _ => rfl) dX4_pay_90 (fun H locs hC => ?_)
        refine y_aload_n hM hl 1 rfl rfl dX4_pay_93 ?_
        refine y_get hM hC hMI.1 rfl rfl (by decide +kernel) 0 ⟨by decide, rfl, rfl, rfl⟩ (by decide +kernel) (congrArg (fun q => some (Value.int (iI q))) (show (up (up T 12 0 0 (0)) 12 0 0 (3)) 12 0 0 = 3 from by simp [up, zrT])) dX4_pay_94 ?_
        refine y_if_le hM (by constructor <;> omega) (tgt := 102) dX4_pay_97 (by decide) (fun c_97 => False.elim (by omega)) (fun c_97 => ?_)
        refine y_iconst hM dX4_pay_100 ?_
        exact y_iret hM hr hlk hC ⟨_, _, rfl, (Or.inr (Or.inr (Or.inl ⟨by rw [← hm]; omega, rfl⟩))), rfl⟩ (Nat.le_of_ble_eq_true rfl) (Nat.le_of_ble_eq_true rfl) dX4_pay_101
      ·
        refine y_aload_n hM hl 1 rfl rfl dX4_pay_70 ?_
        refine y_get hM hC hMI.1 rfl rfl (by decide +kernel) 8 ⟨by decide, rfl, rfl, rfl⟩ (by decide +kernel) (congrArg (fun q => some (va_rf q)) (hMI.2 8 (by decide)).2) dX4_pay_71 ?_
        refine W.eq (g2 := F0 m 74 ls [.ref (ad 28 0), .ref (ad 12 0)]) rfl ?_
        refine y_iload_n hM hl 2 rfl rfl dX4_pay_74 ?_
        refine y_lald hM hC (hMI.2 8 (by decide)).1 rfl ⟨by omega, by omega⟩ (by decide) (x := T 28 0 (z).toNat) (by simp [up, zrT]) dX4_pay_75 ?_
        refine y_lload_n hM hl 0 rfl rfl dX4_pay_76 ?_
        refine y_ladd hM dX4_pay_77 ?_
        refine y_ldc2 hM (v := 100000000) (100000000) (by decide) (by decide +kernel) dX4_pay_78 ?_
        refine y_lcmp hM (by constructor <;> omega) (by constructor <;> omega) dX4_pay_81 ?_
        have hcl_81 := cmpI_le ((T 28 0 (z).toNat) + (r_56)) (100000000)
        have hcg_81 := cmpI_gt ((T 28 0 (z).toNat) + (r_56)) (100000000)
        have hce_81 := cmpI_eq ((T 28 0 (z).toNat) + (r_56)) (100000000)
        refine y_if_le hM (cmpI_in _ _) (tgt := 89) dX4_pay_82 (by decide) (fun c_82 => ?_) (fun c_82 => ?_)
        ·
          refine y_iconst hM dX4_pay_89 ?_
          refine y_put hM hC hMI.1 rfl rfl (by decide +kernel) tyX4 tyX4_ok nmX4 0 ⟨by decide, rfl, rfl, rfl, rfl⟩ (by decide +kernel) (ty := .int) (by decide +kernel) rfl rfl (Nat.le_of_ble_eq_true rfl) (T' := (up (up T 12 0 0 (0)) 12 0 0 (0))) (P' := P) (cF_up rfl) (fun _ _ h => up_ne h) (fun _ _ _ => rfl) dX4_pay_90 (fun H locs hC => ?_)
          refine y_aload_n hM hl 1 rfl rfl dX4_pay_93 ?_
          refine y_get hM hC hMI.1 rfl rfl (by decide +kernel) 0 ⟨by decide, rfl, rfl, rfl⟩ (by decide +kernel) (congrArg (fun q => some (Value.int (iI q))) (show (up (up T 12 0 0 (0)) 12 0 0 (0)) 12 0 0 = 0 from by simp [up, zrT])) dX4_pay_94 ?_
          refine y_if_le hM (by constructor <;> omega) (tgt := 102) dX4_pay_97 (by decide) (fun c_97 => ?_) (fun c_97 => False.elim (by omega))
          refine y_aload_n hM hl 1 rfl rfl dX4_pay_102 ?_
          refine y_get hM hC hMI.1 rfl rfl (by decide +kernel) 8 ⟨by decide, rfl, rfl, rfl⟩ (by decide +kernel) (congrArg (fun q => some (va_rf q)) (hMI.2 8 (by decide)).2) dX4_pay_103 ?_
          refine W.eq (g2 := F0 m 106 ls [.ref (ad 28 0)]) rfl ?_
          refine y_iload_n hM hl 2 rfl rfl dX4_pay_106 ?_
          refine lv_dup2_11 hM.1 hM.2.1 dX4_pay_107 rfl rfl ?_
          refine y_lald hM hC (hMI.2 8 (by decide)).1 rfl ⟨by omega, by omega⟩ (by decide) (x := T 28 0 (z).toNat) (by simp [up, zrT]) dX4_pay_108 ?_
          refine y_lload_n hM hl 0 rfl rfl dX4_pay_109 ?_
          refine y_ladd hM dX4_pay_110 ?_
          refine y_last hM hC (hMI.2 8 (by decide)).1 (fun _ _ => rfl) ⟨by omega, by omega⟩ (by decide) dX4_pay_111 (fun H locs hC => ?_)
          refine y_lload_n hM hl 0 rfl rfl dX4_pay_112 ?_
          refine y_l2i hM dX4_pay_113 ?_
          exact y_iret hM hr hlk hC ⟨_, _, rfl, (Or.inr (Or.inr (Or.inr ⟨by rw [← hm]; omega, by rw [← hm]⟩))), rfl⟩ (Nat.le_of_ble_eq_true rfl) (Nat.le_of_ble_eq_true rfl) dX4_pay_114
        ·
          refine y_iconst hM dX4_pay_85 ?_
          refine lv_goto (tgt := 90) hM.1 hM.2.1 dX4_pay_86 (by decide) ?_
          refine y_put hM hC hMI.1 rfl rfl (by decide +kernel) tyX4 tyX4_ok nmX4 0 ⟨by decide, rfl, rfl, rfl, rfl⟩ (by decide +kernel) (ty := .int) (by decide +kernel) rfl rfl (Nat.le_of_ble_eq_true rfl) (T' := (up (up T 12 0 0 (0)) 12 0 0 (3))) (P' := P) (cF_up rfl) (fun _ _ h => up_ne h) (fun _ _ _ => rfl) dX4_pay_90 (fun H locs hC => ?_)
          refine y_aload_n hM hl 1 rfl rfl dX4_pay_93 ?_
          refine y_get hM hC hMI.1 rfl rfl (by decide +kernel) 0 ⟨by decide, rfl, rfl, rfl⟩ (by decide +kernel) (congrArg (fun q => some (Value.int (iI q))) (show (up (up T 12 0 0 (0)) 12 0 0 (3)) 12 0 0 = 3 from by simp [up, zrT])) dX4_pay_94 ?_
          refine y_if_le hM (by constructor <;> omega) (tgt := 102) dX4_pay_97 (by decide) (fun c_97 => False.elim (by omega)) (fun c_97 => ?_)
          refine y_iconst hM dX4_pay_100 ?_
          exact y_iret hM hr hlk hC ⟨_, _, rfl, (Or.inr (Or.inr (Or.inl ⟨by rw [← hm]; omega, rfl⟩))), rfl⟩ (Nat.le_of_ble_eq_true rfl) (Nat.le_of_ble_eq_true rfl) dX4_pay_101
  ·
    refine y_iconst hM dX4_pay_9 ?_
    refine lv_goto (tgt := 28) hM.1 hM.2.1 dX4_pay_10 (by decide) ?_
    refine y_put hM hC hMI.1 rfl rfl (by decide +kernel) tyX4 tyX4_ok nmX4 0 ⟨by decide, rfl, rfl, rfl, rfl⟩ (by decide +kernel) (ty := .int) (by decide +kernel) rfl rfl (Nat.le_of_ble_eq_true rfl) (T' := (up T 12 0 0 (1))) (P' := P) (cF_up rfl) (fun _ _ h => up_ne h) (fun _ _ _ => rfl) dX4_pay_28 (fun H locs hC => ?_)
    refine y_aload_n hM hl 0 rfl rfl dX4_pay_31 ?_
    refine y_get hM hC hMI.1 rfl rfl (by decide +kernel) 0 ⟨by decide, rfl, rfl, rfl⟩ (by decide +kernel) (congrArg (fun q => some (Value.int (iI q))) (show (up T 12 0 0 (1)) 12 0 0 = 1 from by simp [up, zrT])) dX4_pay_32 ?_
    refine y_if_le hM (by constructor <;> omega) (tgt := 40) dX4_pay_35 (by decide) (fun c_35 => False.elim (by omega)) (fun c_35 => ?_)
    refine y_iconst hM dX4_pay_38 ?_
    exact y_iret hM hr hlk hC ⟨_, _, rfl, (Or.inl ⟨by omega, rfl⟩), rfl⟩ (Nat.le_of_ble_eq_true rfl) (Nat.le_of_ble_eq_true rfl) dX4_pay_39

set_option maxRecDepth 100000 in
set_option maxHeartbeats 8000000 in
theorem c_M_units (l : Launch) (hfl : l.stackTraces = false) (G : GG) (b0 : Nat) (ks : KK) (ad : AD) (T : TT) (P : PP) (z : Int) (hz : inI z) (hMI : MI ks ad P) (hMN : MN T)  : vx_Met l yX4_units wsX4_units (rmX 2 0 0 43) (va_Pc [.ref (ad 12 0), .int (iI (z))] (Ok G b0 (ks, ad, T, P))) (Qr (fun v u1 => ∃ (r : Int) (T1 : TT), v = some (.long (lI r)) ∧ (((z < 0 ∨ T 12 0 6 ≤ z) ∧ T1 = up T 12 0 0 1) ∨ ((0 ≤ z ∧ z < T 12 0 6 ∧ r = T 28 0 z.toNat) ∧ T1 = up T 12 0 0 0)) ∧ u1 = (ks, ad, T1, P)) G b0) (Xr (noX) G b0) 0 0 (Wx b0) := by
  refine vx_ofW (cc := cX4_units) (maxL := 2) (ret := (some .long)) (by decide +kernel) rfl ?_
  intro p e s m args below meth c s₁ B hml hto hv
  obtain ⟨rfl, hok⟩ := hv
  have hM : CallFix p m c cX4_units 2 s _ wsX4_units RX4 := ⟨B.exec, B.bytes, hml, findClass_of_methodNamed B.named, atoms_spec (ws := wsX4_units) B.pre⟩
  have hr := B.returns
  have hlk := B.notSynchronized
  have hC := hok.cur
  have hl := lv_entry ([.ref (ad 12 0), .int (iI (z))]) (n := 2) (Nat.le_of_ble_eq_true rfl)
  rw [lg_entry_eq]
  generalize (lg_sl ([.ref (ad 12 0), .int (iI (z))]) ++ List.replicate (2 - (lg_sl ([.ref (ad 12 0), .int (iI (z))])).length) Slot.unset).toArray = ls at hl ⊢
  have hl : lv_has ls 2 [(0, .ref (ad 12 0)), (1, .int (iI (z)))] := hl
  obtain ⟨⟨m1a, m1b⟩, ⟨m5a, m5b⟩, ⟨m6a, m6b⟩, ⟨mxa, mxb⟩, mpv, mpp, msv, mor⟩ := id hMN
  refine y_aload_n hM hl 0 rfl rfl dX4_units_0 ?_
  refine y_aload_n hM hl 0 rfl rfl dX4_units_1 ?_
  refine y_iload_n hM hl 1 rfl rfl dX4_units_2 ?_
  refine y_callV hM hC (c_M_isSaver l hfl G b0 ks ad T P (z) (by constructor <;> omega) hMI hMN) (cwV 1 hM.2.2.2.2 gX4_units_X4_isSaver rfl rfl rfl (by decide +kernel) ⟨(Nat.le_of_ble_eq_true rfl), (Nat.le_of_ble_eq_true rfl)⟩) (y_recv hC hMI.1 rfl rfl) rfl hl.1 rfl (Nat.le_of_ble_eq_true rfl) dX4_units_3 ⟨(Nat.le_of_ble_eq_true rfl), (Nat.le_of_ble_eq_true rfl)⟩ (fun E ce q9 u1 H locs hx hC hce hcv hcl => hx.elim) (fun v u1 H locs hp hC => ?_)
  obtain ⟨r_3, rfl, h_3, hu⟩ := hp; rw [hu] at hC; clear hu
  try dsimp only at h_3
  refine W.eq (g2 := F0 m 6 ls [.int (iI (r_3)), .ref (ad 12 0)]) rfl ?_
  refine y_if_eq hM (by constructor <;> omega) (tgt := 13) dX4_units_6 (by decide) (fun c_6 => ?_) (fun c_6 => ?_)
  ·
    refine y_iconst hM dX4_units_13 ?_
    refine y_put hM hC hMI.1 rfl rfl (by decide +kernel) tyX4 tyX4_ok nmX4 0 ⟨by decide, rfl, rfl, rfl, rfl⟩ (by decide +kernel) (ty := .int) (by decide +kernel) rfl rfl (Nat.le_of_ble_eq_true rfl) (T' := (up T 12 0 0 (1))) (P' := P) (cF_up rfl) (fun _ _ h => up_ne h) (fun _ _ _ => rfl) dX4_units_14 (fun H locs hC => ?_)
    refine y_aload_n hM hl 0 rfl rfl dX4_units_17 ?_
    refine y_get hM hC hMI.1 rfl rfl (by decide +kernel) 0 ⟨by decide, rfl, rfl, rfl⟩ (by decide +kernel) (congrArg (fun q => some (Value.int (iI q))) (show (up T 12 0 0 (1)) 12 0 0 = 1 from by simp [up, zrT])) dX4_units_18 ?_
    refine y_if_le hM (by constructor <;> omega) (tgt := 28) dX4_units_21 (by decide) (fun c_21 => False.elim (by omega)) (fun c_21 => ?_)
    refine y_lconst hM 0 (by decide) dX4_units_24 ?_
    refine lv_goto (tgt := 34) hM.1 hM.2.1 dX4_units_25 (by decide) ?_
    exact y_lret hM hr hlk hC ⟨_, _, rfl, (Or.inl ⟨by omega, rfl⟩), rfl⟩ (Nat.le_of_ble_eq_true rfl) (Nat.le_of_ble_eq_true rfl) dX4_units_34
  ·
    refine y_iconst hM dX4_units_9 ?_
    refine lv_goto (tgt := 14) hM.1 hM.2.1 dX4_units_10 (by decide) ?_
    refine y_put hM hC hMI.1 rfl rfl (by decide +kernel) tyX4 tyX4_ok nmX4 0 ⟨by decide, rfl, rfl, rfl, rfl⟩ (by decide +kernel) (ty := .int) (by decide +kernel) rfl rfl (Nat.le_of_ble_eq_true rfl) (T' := (up T 12 0 0 (0))) (P' := P) (cF_up rfl) (fun _ _ h => up_ne h) (fun _ _ _ => rfl) dX4_units_14 (fun H locs hC => ?_)
    refine y_aload_n hM hl 0 rfl rfl dX4_units_17 ?_
    refine y_get hM hC hMI.1 rfl rfl (by decide +kernel) 0 ⟨by decide, rfl, rfl, rfl⟩ (by decide +kernel) (congrArg (fun q => some (Value.int (iI q))) (show (up T 12 0 0 (0)) 12 0 0 = 0 from by simp [up, zrT])) dX4_units_18 ?_
    refine y_if_le hM (by constructor <;> omega) (tgt := 28) dX4_units_21 (by decide) (fun c_21 => ?_) (fun c_21 => False.elim (by omega))
    refine y_aload_n hM hl 0 rfl rfl dX4_units_28 ?_
    refine y_get hM hC hMI.1 rfl rfl (by decide +kernel) 8 ⟨by decide, rfl, rfl, rfl⟩ (by decide +kernel) (congrArg (fun q => some (va_rf q)) (hMI.2 8 (by decide)).2) dX4_units_29 ?_
    refine W.eq (g2 := F0 m 32 ls [.ref (ad 28 0)]) rfl ?_
    refine y_iload_n hM hl 1 rfl rfl dX4_units_32 ?_
    refine y_lald hM hC (hMI.2 8 (by decide)).1 rfl ⟨by omega, by omega⟩ (by decide) (x := T 28 0 (z).toNat) (by simp [up, zrT]) dX4_units_33 ?_
    exact y_lret hM hr hlk hC ⟨_, _, rfl, (Or.inr ⟨⟨by omega, by omega, rfl⟩, rfl⟩), rfl⟩ (Nat.le_of_ble_eq_true rfl) (Nat.le_of_ble_eq_true rfl) dX4_units_34

set_option maxRecDepth 100000 in
set_option maxHeartbeats 8000000 in
theorem c_M_provider (l : Launch) (hfl : l.stackTraces = false) (G : GG) (b0 : Nat) (ks : KK) (ad : AD) (T : TT) (P : PP) (z : Int) (hz : inI z) (hMI : MI ks ad P) (hMN : MN T)  : vx_Met l yX4_provider wsX4_provider (rmX 2 0 0 43) (va_Pc [.ref (ad 12 0), .int (iI (z))] (Ok G b0 (ks, ad, T, P))) (Qr (fun v u1 => ∃ (r : Int) (T1 : TT), v = some (.int (iI r)) ∧ (((z < 0 ∨ T 12 0 6 ≤ z) ∧ T1 = up T 12 0 0 1) ∨ ((0 ≤ z ∧ z < T 12 0 6 ∧ r = T 27 0 z.toNat) ∧ T1 = up T 12 0 0 0)) ∧ u1 = (ks, ad, T1, P)) G b0) (Xr (noX) G b0) 0 0 (Wx b0) := by
  refine vx_ofW (cc := cX4_provider) (maxL := 2) (ret := (some .int)) (by decide +kernel) rfl ?_
  intro p e s m args below meth c s₁ B hml hto hv
  obtain ⟨rfl, hok⟩ := hv
  have hM : CallFix p m c cX4_provider 2 s _ wsX4_provider RX4 := ⟨B.exec, B.bytes, hml, findClass_of_methodNamed B.named, atoms_spec (ws := wsX4_provider) B.pre⟩
  have hr := B.returns
  have hlk := B.notSynchronized
  have hC := hok.cur
  have hl := lv_entry ([.ref (ad 12 0), .int (iI (z))]) (n := 2) (Nat.le_of_ble_eq_true rfl)
  rw [lg_entry_eq]
  generalize (lg_sl ([.ref (ad 12 0), .int (iI (z))]) ++ List.replicate (2 - (lg_sl ([.ref (ad 12 0), .int (iI (z))])).length) Slot.unset).toArray = ls at hl ⊢
  have hl : lv_has ls 2 [(0, .ref (ad 12 0)), (1, .int (iI (z)))] := hl
  obtain ⟨⟨m1a, m1b⟩, ⟨m5a, m5b⟩, ⟨m6a, m6b⟩, ⟨mxa, mxb⟩, mpv, mpp, msv, mor⟩ := id hMN
  refine y_aload_n hM hl 0 rfl rfl dX4_provider_0 ?_
  refine y_aload_n hM hl 0 rfl rfl dX4_provider_1 ?_
  refine y_iload_n hM hl 1 rfl rfl dX4_provider_2 ?_
  refine y_callV hM hC (c_M_isSaver l hfl G b0 ks ad T P (z) (by constructor <;> omega) hMI hMN) (cwV 1 hM.2.2.2.2 gX4_provider_X4_isSaver rfl rfl rfl (by decide +kernel) ⟨(Nat.le_of_ble_eq_true rfl), (Nat.le_of_ble_eq_true rfl)⟩) (y_recv hC hMI.1 rfl rfl) rfl hl.1 rfl (Nat.le_of_ble_eq_true rfl) dX4_provider_3 ⟨(Nat.le_of_ble_eq_true rfl), (Nat.le_of_ble_eq_true rfl)⟩ (fun E ce q9 u1 H locs hx hC hce hcv hcl => hx.elim) (fun v u1 H locs hp hC => ?_)
  obtain ⟨r_3, rfl, h_3, hu⟩ := hp; rw [hu] at hC; clear hu
  try dsimp only at h_3
  refine W.eq (g2 := F0 m 6 ls [.int (iI (r_3)), .ref (ad 12 0)]) rfl ?_
  refine y_if_eq hM (by constructor <;> omega) (tgt := 13) dX4_provider_6 (by decide) (fun c_6 => ?_) (fun c_6 => ?_)
  ·
    refine y_iconst hM dX4_provider_13 ?_
    refine y_put hM hC hMI.1 rfl rfl (by decide +kernel) tyX4 tyX4_ok nmX4 0 ⟨by decide, rfl, rfl, rfl, rfl⟩ (by decide +kernel) (ty := .int) (by decide +kernel) rfl rfl (Nat.le_of_ble_eq_true rfl) (T' := (up T 12 0 0 (1))) (P' := P) (cF_up rfl) (fun _ _ h => up_ne h) (fun _ _ _ => rfl) dX4_provider_14 (fun H locs hC => ?_)
    refine y_aload_n hM hl 0 rfl rfl dX4_provider_17 ?_
    refine y_get hM hC hMI.1 rfl rfl (by decide +kernel) 0 ⟨by decide, rfl, rfl, rfl⟩ (by decide +kernel) (congrArg (fun q => some (Value.int (iI q))) (show (up T 12 0 0 (1)) 12 0 0 = 1 from by simp [up, zrT])) dX4_provider_18 ?_
    refine y_if_le hM (by constructor <;> omega) (tgt := 28) dX4_provider_21 (by decide) (fun c_21 => False.elim (by omega)) (fun c_21 => ?_)
    refine y_iconst hM dX4_provider_24 ?_
    refine lv_goto (tgt := 34) hM.1 hM.2.1 dX4_provider_25 (by decide) ?_
    exact y_iret hM hr hlk hC ⟨_, _, rfl, (Or.inl ⟨by omega, rfl⟩), rfl⟩ (Nat.le_of_ble_eq_true rfl) (Nat.le_of_ble_eq_true rfl) dX4_provider_34
  ·
    refine y_iconst hM dX4_provider_9 ?_
    refine lv_goto (tgt := 14) hM.1 hM.2.1 dX4_provider_10 (by decide) ?_
    refine y_put hM hC hMI.1 rfl rfl (by decide +kernel) tyX4 tyX4_ok nmX4 0 ⟨by decide, rfl, rfl, rfl, rfl⟩ (by decide +kernel) (ty := .int) (by decide +kernel) rfl rfl (Nat.le_of_ble_eq_true rfl) (T' := (up T 12 0 0 (0))) (P' := P) (cF_up rfl) (fun _ _ h => up_ne h) (fun _ _ _ => rfl) dX4_provider_14 (fun H locs hC => ?_)
    refine y_aload_n hM hl 0 rfl rfl dX4_provider_17 ?_
    refine y_get hM hC hMI.1 rfl rfl (by decide +kernel) 0 ⟨by decide, rfl, rfl, rfl⟩ (by decide +kernel) (congrArg (fun q => some (Value.int (iI q))) (show (up T 12 0 0 (0)) 12 0 0 = 0 from by simp [up, zrT])) dX4_provider_18 ?_
    refine y_if_le hM (by constructor <;> omega) (tgt := 28) dX4_provider_21 (by decide) (fun c_21 => ?_) (fun c_21 => False.elim (by omega))
    refine y_aload_n hM hl 0 rfl rfl dX4_provider_28 ?_
    refine y_get hM hC hMI.1 rfl rfl (by decide +kernel) 7 ⟨by decide, rfl, rfl, rfl⟩ (by decide +kernel) (congrArg (fun q => some (va_rf q)) (hMI.2 7 (by decide)).2) dX4_provider_29 ?_
    refine W.eq (g2 := F0 m 32 ls [.ref (ad 27 0)]) rfl ?_
    refine y_iload_n hM hl 1 rfl rfl dX4_provider_32 ?_
    refine y_iald hM hC (hMI.2 7 (by decide)).1 rfl ⟨by omega, by omega⟩ (by decide) (x := T 27 0 (z).toNat) (by simp [up, zrT]) dX4_provider_33 ?_
    exact y_iret hM hr hlk hC ⟨_, _, rfl, (Or.inr ⟨⟨by omega, by omega, rfl⟩, rfl⟩), rfl⟩ (Nat.le_of_ble_eq_true rfl) (Nat.le_of_ble_eq_true rfl) dX4_provider_34

set_option maxRecDepth 100000 in
set_option maxHeartbeats 8000000 in
theorem c_M_order (l : Launch) (hfl : l.stackTraces = false) (G : GG) (b0 : Nat) (ks : KK) (ad : AD) (T : TT) (P : PP) (z w : Int) (hz : inI z) (hw : inI w) (hMI : MI ks ad P) (hMN : MN T)  : vx_Met l yX4_order wsX4_order (rmX 2 0 0 43) (va_Pc [.ref (ad 12 0), .int (iI (z)), .int (iI (w))] (Ok G b0 (ks, ad, T, P))) (Qr (fun v u1 => ∃ (r : Int) (T1 : TT), v = some (.int (iI r)) ∧ (((z < 0 ∨ T 12 0 6 ≤ z) ∧ T1 = up T 12 0 0 1) ∨ ((0 ≤ z ∧ z < T 12 0 6 ∧ (w < 0 ∨ 5 ≤ w ∨ w = T 27 0 z.toNat)) ∧ T1 = up (up T 12 0 0 0) 12 0 0 2) ∨ ((0 ≤ z ∧ z < T 12 0 6 ∧ 0 ≤ w ∧ w < 5 ∧ w ≠ T 27 0 z.toNat ∧ (T 29 0 z.toNat ≠ 0 ∨ T 12 0 10 = 30)) ∧ T1 = up (up T 12 0 0 0) 12 0 0 3) ∨ ((0 ≤ z ∧ z < T 12 0 6 ∧ 0 ≤ w ∧ w < 5 ∧ w ≠ T 27 0 z.toNat ∧ T 29 0 z.toNat = 0 ∧ T 12 0 10 ≠ 30 ∧ r = T 12 0 10) ∧ T1 = up (up (up (up (up (up (up T 12 0 0 0) 12 0 0 0) 31 0 (T 12 0 10).toNat z) 32 0 (T 12 0 10).toNat w) 34 0 (T 12 0 10).toNat (T 12 0 1)) 29 0 z.toNat 1) 12 0 10 (T 12 0 10 + 1))) ∧ u1 = (ks, ad, T1, P)) G b0) (Xr (noX) G b0) 0 0 (Wx b0) := by
  refine vx_ofW (cc := cX4_order) (maxL := 3) (ret := (some .int)) (by decide +kernel) rfl ?_
  intro p e s m args below meth c s₁ B hml hto hv
  obtain ⟨rfl, hok⟩ := hv
  have hM : CallFix p m c cX4_order 3 s _ wsX4_order RX4 := ⟨B.exec, B.bytes, hml, findClass_of_methodNamed B.named, atoms_spec (ws := wsX4_order) B.pre⟩
  have hr := B.returns
  have hlk := B.notSynchronized
  have hC := hok.cur
  have hl := lv_entry ([.ref (ad 12 0), .int (iI (z)), .int (iI (w))]) (n := 3) (Nat.le_of_ble_eq_true rfl)
  rw [lg_entry_eq]
  generalize (lg_sl ([.ref (ad 12 0), .int (iI (z)), .int (iI (w))]) ++ List.replicate (3 - (lg_sl ([.ref (ad 12 0), .int (iI (z)), .int (iI (w))])).length) Slot.unset).toArray = ls at hl ⊢
  have hl : lv_has ls 3 [(0, .ref (ad 12 0)), (1, .int (iI (z))), (2, .int (iI (w)))] := hl
  obtain ⟨⟨m1a, m1b⟩, ⟨m5a, m5b⟩, ⟨m6a, m6b⟩, ⟨mxa, mxb⟩, mpv, mpp, msv, mor⟩ := id hMN
  refine y_aload_n hM hl 0 rfl rfl dX4_order_0 ?_
  refine y_aload_n hM hl 0 rfl rfl dX4_order_1 ?_
  refine y_iload_n hM hl 1 rfl rfl dX4_order_2 ?_
  refine y_callV hM hC (c_M_isSaver l hfl G b0 ks ad T P (z) (by constructor <;> omega) hMI hMN) (cwV 1 hM.2.2.2.2 gX4_order_X4_isSaver rfl rfl rfl (by decide +kernel) ⟨(Nat.le_of_ble_eq_true rfl), (Nat.le_of_ble_eq_true rfl)⟩) (y_recv hC hMI.1 rfl rfl) rfl hl.1 rfl (Nat.le_of_ble_eq_true rfl) dX4_order_3 ⟨(Nat.le_of_ble_eq_true rfl), (Nat.le_of_ble_eq_true rfl)⟩ (fun E ce q9 u1 H locs hx hC hce hcv hcl => hx.elim) (fun v u1 H locs hp hC => ?_)
  obtain ⟨r_3, rfl, h_3, hu⟩ := hp; rw [hu] at hC; clear hu
  try dsimp only at h_3
  refine W.eq (g2 := F0 m 6 ls [.int (iI (r_3)), .ref (ad 12 0)]) rfl ?_
  refine y_if_eq hM (by constructor <;> omega) (tgt := 13) dX4_order_6 (by decide) (fun c_6 => ?_) (fun c_6 => ?_)
  ·
    refine y_iconst hM dX4_order_13 ?_
    refine y_put hM hC hMI.1 rfl rfl (by decide +kernel) tyX4 tyX4_ok nmX4 0 ⟨by decide, rfl, rfl, rfl, rfl⟩ (by decide +kernel) (ty := .int) (by decide +kernel) rfl rfl (Nat.le_of_ble_eq_true rfl) (T' := (up T 12 0 0 (1))) (P' := P) (cF_up rfl) (fun _ _ h => up_ne h) (fun _ _ _ => rfl) dX4_order_14 (fun H locs hC => ?_)
    refine y_aload_n hM hl 0 rfl rfl dX4_order_17 ?_
    refine y_get hM hC hMI.1 rfl rfl (by decide +kernel) 0 ⟨by decide, rfl, rfl, rfl⟩ (by decide +kernel) (congrArg (fun q => some (Value.int (iI q))) (show (up T 12 0 0 (1)) 12 0 0 = 1 from by simp [up, zrT])) dX4_order_18 ?_
    refine y_if_le hM (by constructor <;> omega) (tgt := 26) dX4_order_21 (by decide) (fun c_21 => False.elim (by omega)) (fun c_21 => ?_)
    refine y_iconst hM dX4_order_24 ?_
    exact y_iret hM hr hlk hC ⟨_, _, rfl, (Or.inl ⟨by omega, rfl⟩), rfl⟩ (Nat.le_of_ble_eq_true rfl) (Nat.le_of_ble_eq_true rfl) dX4_order_25
  ·
    refine y_iconst hM dX4_order_9 ?_
    refine lv_goto (tgt := 14) hM.1 hM.2.1 dX4_order_10 (by decide) ?_
    refine y_put hM hC hMI.1 rfl rfl (by decide +kernel) tyX4 tyX4_ok nmX4 0 ⟨by decide, rfl, rfl, rfl, rfl⟩ (by decide +kernel) (ty := .int) (by decide +kernel) rfl rfl (Nat.le_of_ble_eq_true rfl) (T' := (up T 12 0 0 (0))) (P' := P) (cF_up rfl) (fun _ _ h => up_ne h) (fun _ _ _ => rfl) dX4_order_14 (fun H locs hC => ?_)
    refine y_aload_n hM hl 0 rfl rfl dX4_order_17 ?_
    refine y_get hM hC hMI.1 rfl rfl (by decide +kernel) 0 ⟨by decide, rfl, rfl, rfl⟩ (by decide +kernel) (congrArg (fun q => some (Value.int (iI q))) (show (up T 12 0 0 (0)) 12 0 0 = 0 from by simp [up, zrT])) dX4_order_18 ?_
    refine y_if_le hM (by constructor <;> omega) (tgt := 26) dX4_order_21 (by decide) (fun c_21 => ?_) (fun c_21 => False.elim (by omega))
    have hs := msv z.toNat (by omega)
    unfold MSv at hs
    refine y_aload_n hM hl 0 rfl rfl dX4_order_26 ?_
    refine y_iload_n hM hl 2 rfl rfl dX4_order_27 ?_
    refine y_callS hM hC (c_M_isProvider l hfl G b0 (ks, ad, (up T 12 0 0 (0)), P) (w) (by constructor <;> omega)) (va_cwS 1 hM.2.2.2.2 gX4_order_X4_isProvider rfl rfl rfl (by decide +kernel) ⟨(Nat.le_of_ble_eq_true rfl), (Nat.le_of_ble_eq_true rfl)⟩) rfl hl.1 rfl (Nat.le_of_ble_eq_true rfl) dX4_order_28 ⟨(Nat.le_of_ble_eq_true rfl), (Nat.le_of_ble_eq_true rfl)⟩ (fun E ce q9 u1 H locs hx hC hce hcv hcl => hx.elim) (fun v u1 H locs hp hC => ?_)
    obtain ⟨r_28, rfl, h_28, hu⟩ := hp; rw [hu] at hC; clear hu
    try dsimp only at h_28
    refine W.eq (g2 := F0 m 31 ls [.int (iI (r_28)), .ref (ad 12 0)]) rfl ?_
    refine y_if_eq hM (by constructor <;> omega) (tgt := 44) dX4_order_31 (by decide) (fun c_31 => ?_) (fun c_31 => ?_)
    ·
      refine y_iconst hM dX4_order_44 ?_
      refine lv_goto (tgt := 71) hM.1 hM.2.1 dX4_order_45 (by decide) ?_
      refine y_put hM hC hMI.1 rfl rfl (by decide +kernel) tyX4 tyX4_ok nmX4 0 ⟨by decide, rfl, rfl, rfl, rfl⟩ (by decide +kernel) (ty := .int) (by decide +kernel) rfl rfl (Nat.le_of_ble_eq_true rfl) (T' := (up (up T 12 0 0 (0)) 12 0 0 (2))) (P' := P) (cF_up rfl) (fun _ _ h => up_ne h) (fun _ _ _ => rfl) dX4_order_71 (fun H locs hC => ?_)
      refine y_aload_n hM hl 0 rfl rfl dX4_order_74 ?_
      refine y_get hM hC hMI.1 rfl rfl (by decide +kernel) 0 ⟨by decide, rfl, rfl, rfl⟩ (by decide +kernel) (congrArg (fun q => some (Value.int (iI q))) (show (up (up T 12 0 0 (0)) 12 0 0 (2)) 12 0 0 = 2 from by simp [up, zrT])) dX4_order_75 ?_
      refine y_if_le hM (by constructor <;> omega) (tgt := 83) dX4_order_78 (by decide) (fun c_78 => False.elim (by omega)) (fun c_78 => ?_)
      refine y_iconst hM dX4_order_81 ?_
      exact y_iret hM hr hlk hC ⟨_, _, rfl, (Or.inr (Or.inl ⟨by omega, rfl⟩)), rfl⟩ (Nat.le_of_ble_eq_true rfl) (Nat.le_of_ble_eq_true rfl) dX4_order_82
    ·
      refine y_iload_n hM hl 2 rfl rfl dX4_order_34 ?_
      refine y_aload_n hM hl 0 rfl rfl dX4_order_35 ?_
      refine y_get hM hC hMI.1 rfl rfl (by decide +kernel) 7 ⟨by decide, rfl, rfl, rfl⟩ (by decide +kernel) (congrArg (fun q => some (va_rf q)) (hMI.2 7 (by decide)).2) dX4_order_36 ?_
      refine W.eq (g2 := F0 m 39 ls [.ref (ad 27 0), .int (iI (w)), .ref (ad 12 0)]) rfl ?_
      refine y_iload_n hM hl 1 rfl rfl dX4_order_39 ?_
      refine y_iald hM hC (hMI.2 7 (by decide)).1 rfl ⟨by omega, by omega⟩ (by decide) (x := T 27 0 (z).toNat) (by simp [up, zrT]) dX4_order_40 ?_
      refine y_icmp_ne hM (by constructor <;> omega) (by constructor <;> omega) (tgt := 48) dX4_order_41 (by decide) (fun c_41 => ?_) (fun c_41 => ?_)
      ·
        refine y_aload_n hM hl 0 rfl rfl dX4_order_48 ?_
        refine y_get hM hC hMI.1 rfl rfl (by decide +kernel) 9 ⟨by decide, rfl, rfl, rfl⟩ (by decide +kernel) (congrArg (fun q => some (va_rf q)) (hMI.2 9 (by decide)).2) dX4_order_49 ?_
        refine W.eq (g2 := F0 m 52 ls [.ref (ad 29 0), .ref (ad 12 0)]) rfl ?_
        refine y_iload_n hM hl 1 rfl rfl dX4_order_52 ?_
        refine y_zald hM hC (hMI.2 9 (by decide)).1 rfl ⟨by omega, by omega⟩ (by decide) (x := T 29 0 (z).toNat) (by simp [up, zrT]) dX4_order_53 ?_
        refine y_if_ne hM (by constructor <;> omega) (tgt := 66) dX4_order_54 (by decide) (fun c_54 => ?_) (fun c_54 => ?_)
        ·
          refine y_iconst hM dX4_order_66 ?_
          refine lv_goto (tgt := 71) hM.1 hM.2.1 dX4_order_67 (by decide) ?_
          refine y_put hM hC hMI.1 rfl rfl (by decide +kernel) tyX4 tyX4_ok nmX4 0 ⟨by decide, rfl, rfl, rfl, rfl⟩ (by decide +kernel) (ty := .int) (by decide +kernel) rfl rfl (Nat.le_of_ble_eq_true rfl) (T' := (up (up T 12 0 0 (0)) 12 0 0 (3))) (P' := P) (cF_up rfl) (fun _ _ h => up_ne h) (fun _ _ _ => rfl) dX4_order_71 (fun H locs hC => ?_)
          refine y_aload_n hM hl 0 rfl rfl dX4_order_74 ?_
          refine y_get hM hC hMI.1 rfl rfl (by decide +kernel) 0 ⟨by decide, rfl, rfl, rfl⟩ (by decide +kernel) (congrArg (fun q => some (Value.int (iI q))) (show (up (up T 12 0 0 (0)) 12 0 0 (3)) 12 0 0 = 3 from by simp [up, zrT])) dX4_order_75 ?_
          refine y_if_le hM (by constructor <;> omega) (tgt := 83) dX4_order_78 (by decide) (fun c_78 => False.elim (by omega)) (fun c_78 => ?_)
          refine y_iconst hM dX4_order_81 ?_
          exact y_iret hM hr hlk hC ⟨_, _, rfl, (Or.inr (Or.inr (Or.inl ⟨by omega, rfl⟩))), rfl⟩ (Nat.le_of_ble_eq_true rfl) (Nat.le_of_ble_eq_true rfl) dX4_order_82
        ·
          refine y_aload_n hM hl 0 rfl rfl dX4_order_57 ?_
          refine y_get hM hC hMI.1 rfl rfl (by decide +kernel) 10 ⟨by decide, rfl, rfl, rfl⟩ (by decide +kernel) (congrArg (fun q => some (Value.int (iI q))) (show (up T 12 0 0 (0)) 12 0 10 = T 12 0 10 from by simp [up, zrT])) dX4_order_58 ?_
          refine y_bipush hM dX4_order_61 (by decide) ?_
          refine y_icmp_ne hM (by constructor <;> omega) (by constructor <;> omega) (tgt := 70) dX4_order_63 (by decide) (fun c_63 => ?_) (fun c_63 => ?_)
          ·
            refine y_iconst hM dX4_order_70 ?_
            refine y_put hM hC hMI.1 rfl rfl (by decide +kernel) tyX4 tyX4_ok nmX4 0 ⟨by decide, rfl, rfl, rfl, rfl⟩ (by decide +kernel) (ty := .int) (by decide +kernel) rfl rfl (Nat.le_of_ble_eq_true rfl) (T' := (up (up T 12 0 0 (0)) 12 0 0 (0))) (P' := P) (cF_up rfl) (fun _ _ h => up_ne h) (fun _ _ _ => rfl) dX4_order_71 (fun H locs hC => ?_)
            refine y_aload_n hM hl 0 rfl rfl dX4_order_74 ?_
            refine y_get hM hC hMI.1 rfl rfl (by decide +kernel) 0 ⟨by decide, rfl, rfl, rfl⟩ (by decide +kernel) (congrArg (fun q => some (Value.int (iI q))) (show (up (up T 12 0 0 (0)) 12 0 0 (0)) 12 0 0 = 0 from by simp [up, zrT])) dX4_order_75 ?_
            refine y_if_le hM (by constructor <;> omega) (tgt := 83) dX4_order_78 (by decide) (fun c_78 => ?_) (fun c_78 => False.elim (by omega))
            refine y_aload_n hM hl 0 rfl rfl dX4_order_83 ?_
            refine y_get hM hC hMI.1 rfl rfl (by decide +kernel) 11 ⟨by decide, rfl, rfl, rfl⟩ (by decide +kernel) (congrArg (fun q => some (va_rf q)) (hMI.2 11 (by decide)).2) dX4_order_84 ?_
            refine W.eq (g2 := F0 m 87 ls [.ref (ad 31 0)]) rfl ?_
            refine y_aload_n hM hl 0 rfl rfl dX4_order_87 ?_
            refine y_get hM hC hMI.1 rfl rfl (by decide +kernel) 10 ⟨by decide, rfl, rfl, rfl⟩ (by decide +kernel) (congrArg (fun q => some (Value.int (iI q))) (show (up (up T 12 0 0 (0)) 12 0 0 (0)) 12 0 10 = T 12 0 10 from by simp [up, zrT])) dX4_order_88 ?_
            refine y_iload_n hM hl 1 rfl rfl dX4_order_91 ?_
            refine y_iast hM hC (hMI.2 11 (by decide)).1 (fun _ _ => rfl) ⟨by omega, by omega⟩ (by decide) dX4_order_92 (fun H locs hC => ?_)
            refine y_aload_n hM hl 0 rfl rfl dX4_order_93 ?_
            refine y_get hM hC hMI.1 rfl rfl (by decide +kernel) 12 ⟨by decide, rfl, rfl, rfl⟩ (by decide +kernel) (congrArg (fun q => some (va_rf q)) (hMI.2 12 (by decide)).2) dX4_order_94 ?_
            refine W.eq (g2 := F0 m 97 ls [.ref (ad 32 0)]) rfl ?_
            refine y_aload_n hM hl 0 rfl rfl dX4_order_97 ?_
            refine y_get hM hC hMI.1 rfl rfl (by decide +kernel) 10 ⟨by decide, rfl, rfl, rfl⟩ (by decide +kernel) (congrArg (fun q => some (Value.int (iI q))) (show (up (up (up T 12 0 0 (0)) 12 0 0 (0)) 31 0 ((T 12 0 10).toNat) (z)) 12 0 10 = T 12 0 10 from by simp [up, zrT])) dX4_order_98 ?_
            refine y_iload_n hM hl 2 rfl rfl dX4_order_101 ?_
            refine y_iast hM hC (hMI.2 12 (by decide)).1 (fun _ _ => rfl) ⟨by omega, by omega⟩ (by decide) dX4_order_102 (fun H locs hC => ?_)
            refine y_aload_n hM hl 0 rfl rfl dX4_order_103 ?_
            refine y_get hM hC hMI.1 rfl rfl (by decide +kernel) 14 ⟨by decide, rfl, rfl, rfl⟩ (by decide +kernel) (congrArg (fun q => some (va_rf q)) (hMI.2 14 (by decide)).2) dX4_order_104 ?_
            refine W.eq (g2 := F0 m 107 ls [.ref (ad 34 0)]) rfl ?_
            refine y_aload_n hM hl 0 rfl rfl dX4_order_107 ?_
            refine y_get hM hC hMI.1 rfl rfl (by decide +kernel) 10 ⟨by decide, rfl, rfl, rfl⟩ (by decide +kernel) (congrArg (fun q => some (Value.int (iI q))) (show (up (up (up (up T 12 0 0 (0)) 12 0 0 (0)) 31 0 ((T 12 0 10).toNat) (z)) 32 0 ((T 12 0 10).toNat) (w)) 12 0 10 = T 12 0 10 from by simp [up, zrT])) dX4_order_108 ?_
            refine y_aload_n hM hl 0 rfl rfl dX4_order_111 ?_
            refine y_get hM hC hMI.1 rfl rfl (by decide +kernel) 1 ⟨by decide, rfl, rfl, rfl⟩ (by decide +kernel) (congrArg (fun q => some (Value.int (iI q))) (show (up (up (up (up T 12 0 0 (0)) 12 0 0 (0)) 31 0 ((T 12 0 10).toNat) (z)) 32 0 ((T 12 0 10).toNat) (w)) 12 0 1 = T 12 0 1 from by simp [up, zrT])) dX4_order_112 ?_
            refine y_iast hM hC (hMI.2 14 (by decide)).1 (fun _ _ => rfl) ⟨by omega, by omega⟩ (by decide) dX4_order_115 (fun H locs hC => ?_)
            refine y_aload_n hM hl 0 rfl rfl dX4_order_116 ?_
            refine y_get hM hC hMI.1 rfl rfl (by decide +kernel) 9 ⟨by decide, rfl, rfl, rfl⟩ (by decide +kernel) (congrArg (fun q => some (va_rf q)) (hMI.2 9 (by decide)).2) dX4_order_117 ?_
            refine W.eq (g2 := F0 m 120 ls [.ref (ad 29 0)]) rfl ?_
            refine y_iload_n hM hl 1 rfl rfl dX4_order_120 ?_
            refine y_iconst hM dX4_order_121 ?_
            refine y_zast hM hC (hMI.2 9 (by decide)).1 (fun _ _ => rfl) (by decide) ⟨by omega, by omega⟩ (by decide) dX4_order_122 (fun H locs hC => ?_)
            refine y_aload_n hM hl 0 rfl rfl dX4_order_123 ?_
            refine lv_dup hM.1 hM.2.1 dX4_order_124 rfl ?_
            refine y_get hM hC hMI.1 rfl rfl (by decide +kernel) 10 ⟨by decide, rfl, rfl, rfl⟩ (by decide +kernel) (congrArg (fun q => some (Value.int (iI q))) (show (up (up (up (up (up (up T 12 0 0 (0)) 12 0 0 (0)) 31 0 ((T 12 0 10).toNat) (z)) 32 0 ((T 12 0 10).toNat) (w)) 34 0 ((T 12 0 10).toNat) (T 12 0 1)) 29 0 ((z).toNat) (1)) 12 0 10 = T 12 0 10 from by simp [up, zrT])) dX4_order_125 ?_
            refine y_iconst hM dX4_order_128 ?_
            refine y_iadd hM dX4_order_129 ?_
            refine y_put hM hC hMI.1 rfl rfl (by decide +kernel) tyX4 tyX4_ok nmX4 10 ⟨by decide, rfl, rfl, rfl, rfl⟩ (by decide +kernel) (ty := .int) (by decide +kernel) rfl rfl (Nat.le_of_ble_eq_true rfl) (T' := (up (up (up (up (up (up (up T 12 0 0 (0)) 12 0 0 (0)) 31 0 ((T 12 0 10).toNat) (z)) 32 0 ((T 12 0 10).toNat) (w)) 34 0 ((T 12 0 10).toNat) (T 12 0 1)) 29 0 ((z).toNat) (1)) 12 0 10 ((T 12 0 10) + (1)))) (P' := P) (cF_up rfl) (fun _ _ h => up_ne h) (fun _ _ _ => rfl) dX4_order_130 (fun H locs hC => ?_)
            refine y_aload_n hM hl 0 rfl rfl dX4_order_133 ?_
            refine y_get hM hC hMI.1 rfl rfl (by decide +kernel) 10 ⟨by decide, rfl, rfl, rfl⟩ (by decide +kernel) (congrArg (fun q => some (Value.int (iI q))) (show (up (up (up (up (up (up (up T 12 0 0 (0)) 12 0 0 (0)) 31 0 ((T 12 0 10).toNat) (z)) 32 0 ((T 12 0 10).toNat) (w)) 34 0 ((T 12 0 10).toNat) (T 12 0 1)) 29 0 ((z).toNat) (1)) 12 0 10 ((T 12 0 10) + (1))) 12 0 10 = (T 12 0 10) + (1) from by simp [up, zrT])) dX4_order_134 ?_
            refine y_iconst hM dX4_order_137 ?_
            refine y_isub hM dX4_order_138 ?_
            exact y_iret hM hr hlk hC ⟨_, _, rfl, (Or.inr (Or.inr (Or.inr ⟨by omega, rfl⟩))), rfl⟩ (Nat.le_of_ble_eq_true rfl) (Nat.le_of_ble_eq_true rfl) dX4_order_139
          ·
            refine y_iconst hM dX4_order_66 ?_
            refine lv_goto (tgt := 71) hM.1 hM.2.1 dX4_order_67 (by decide) ?_
            refine y_put hM hC hMI.1 rfl rfl (by decide +kernel) tyX4 tyX4_ok nmX4 0 ⟨by decide, rfl, rfl, rfl, rfl⟩ (by decide +kernel) (ty := .int) (by decide +kernel) rfl rfl (Nat.le_of_ble_eq_true rfl) (T' := (up (up T 12 0 0 (0)) 12 0 0 (3))) (P' := P) (cF_up rfl) (fun _ _ h => up_ne h) (fun _ _ _ => rfl) dX4_order_71 (fun H locs hC => ?_)
            refine y_aload_n hM hl 0 rfl rfl dX4_order_74 ?_
            refine y_get hM hC hMI.1 rfl rfl (by decide +kernel) 0 ⟨by decide, rfl, rfl, rfl⟩ (by decide +kernel) (congrArg (fun q => some (Value.int (iI q))) (show (up (up T 12 0 0 (0)) 12 0 0 (3)) 12 0 0 = 3 from by simp [up, zrT])) dX4_order_75 ?_
            refine y_if_le hM (by constructor <;> omega) (tgt := 83) dX4_order_78 (by decide) (fun c_78 => False.elim (by omega)) (fun c_78 => ?_)
            refine y_iconst hM dX4_order_81 ?_
            exact y_iret hM hr hlk hC ⟨_, _, rfl, (Or.inr (Or.inr (Or.inl ⟨by omega, rfl⟩))), rfl⟩ (Nat.le_of_ble_eq_true rfl) (Nat.le_of_ble_eq_true rfl) dX4_order_82
      ·
        refine y_iconst hM dX4_order_44 ?_
        refine lv_goto (tgt := 71) hM.1 hM.2.1 dX4_order_45 (by decide) ?_
        refine y_put hM hC hMI.1 rfl rfl (by decide +kernel) tyX4 tyX4_ok nmX4 0 ⟨by decide, rfl, rfl, rfl, rfl⟩ (by decide +kernel) (ty := .int) (by decide +kernel) rfl rfl (Nat.le_of_ble_eq_true rfl) (T' := (up (up T 12 0 0 (0)) 12 0 0 (2))) (P' := P) (cF_up rfl) (fun _ _ h => up_ne h) (fun _ _ _ => rfl) dX4_order_71 (fun H locs hC => ?_)
        refine y_aload_n hM hl 0 rfl rfl dX4_order_74 ?_
        refine y_get hM hC hMI.1 rfl rfl (by decide +kernel) 0 ⟨by decide, rfl, rfl, rfl⟩ (by decide +kernel) (congrArg (fun q => some (Value.int (iI q))) (show (up (up T 12 0 0 (0)) 12 0 0 (2)) 12 0 0 = 2 from by simp [up, zrT])) dX4_order_75 ?_
        refine y_if_le hM (by constructor <;> omega) (tgt := 83) dX4_order_78 (by decide) (fun c_78 => False.elim (by omega)) (fun c_78 => ?_)
        refine y_iconst hM dX4_order_81 ?_
        exact y_iret hM hr hlk hC ⟨_, _, rfl, (Or.inr (Or.inl ⟨by omega, rfl⟩)), rfl⟩ (Nat.le_of_ble_eq_true rfl) (Nat.le_of_ble_eq_true rfl) dX4_order_82

set_option maxRecDepth 100000 in
set_option maxHeartbeats 8000000 in
theorem c_M_owes (l : Launch) (hfl : l.stackTraces = false) (G : GG) (b0 : Nat) (ks : KK) (ad : AD) (T : TT) (P : PP) (z w : Int) (hz : inI z) (hw : inI w) (hMI : MI ks ad P) (hMN : MN T)  : vx_Met l yX4_owes wsX4_owes (rmX 2 0 0 42) (va_Pc [.ref (ad 12 0), .int (iI (z)), .int (iI (w))] (Ok G b0 (ks, ad, T, P))) (Qr (fun v u1 => ∃ (r : Int) (T1 : TT), v = some (.long (lI r)) ∧ (((z < 0 ∨ 5 ≤ z ∨ w < 0 ∨ 5 ≤ w) ∧ T1 = up T 12 0 0 1) ∨ ((0 ≤ z ∧ z < 5 ∧ 0 ≤ w ∧ w < 5 ∧ r = T 41 0 (5 * z + w).toNat - T 41 0 (5 * w + z).toNat) ∧ T1 = up T 12 0 0 0)) ∧ u1 = (ks, ad, T1, P)) G b0) (Xr (noX) G b0) 0 0 (Wx b0) := by
  refine vx_ofW (cc := cX4_owes) (maxL := 3) (ret := (some .long)) (by decide +kernel) rfl ?_
  intro p e s m args below meth c s₁ B hml hto hv
  obtain ⟨rfl, hok⟩ := hv
  have hM : CallFix p m c cX4_owes 3 s _ wsX4_owes RX4 := ⟨B.exec, B.bytes, hml, findClass_of_methodNamed B.named, atoms_spec (ws := wsX4_owes) B.pre⟩
  have hr := B.returns
  have hlk := B.notSynchronized
  have hC := hok.cur
  have hl := lv_entry ([.ref (ad 12 0), .int (iI (z)), .int (iI (w))]) (n := 3) (Nat.le_of_ble_eq_true rfl)
  rw [lg_entry_eq]
  generalize (lg_sl ([.ref (ad 12 0), .int (iI (z)), .int (iI (w))]) ++ List.replicate (3 - (lg_sl ([.ref (ad 12 0), .int (iI (z)), .int (iI (w))])).length) Slot.unset).toArray = ls at hl ⊢
  have hl : lv_has ls 3 [(0, .ref (ad 12 0)), (1, .int (iI (z))), (2, .int (iI (w)))] := hl
  obtain ⟨⟨m1a, m1b⟩, ⟨m5a, m5b⟩, ⟨m6a, m6b⟩, ⟨mxa, mxb⟩, mpv, mpp, msv, mor⟩ := id hMN
  refine y_aload_n hM hl 0 rfl rfl dX4_owes_0 ?_
  refine y_iload_n hM hl 1 rfl rfl dX4_owes_1 ?_
  refine y_callS hM hC (c_M_isProvider l hfl G b0 (ks, ad, T, P) (z) (by constructor <;> omega)) (va_cwS 1 hM.2.2.2.2 gX4_owes_X4_isProvider rfl rfl rfl (by decide +kernel) ⟨(Nat.le_of_ble_eq_true rfl), (Nat.le_of_ble_eq_true rfl)⟩) rfl hl.1 rfl (Nat.le_of_ble_eq_true rfl) dX4_owes_2 ⟨(Nat.le_of_ble_eq_true rfl), (Nat.le_of_ble_eq_true rfl)⟩ (fun E ce q9 u1 H locs hx hC hce hcv hcl => hx.elim) (fun v u1 H locs hp hC => ?_)
  obtain ⟨r_2, rfl, h_2, hu⟩ := hp; rw [hu] at hC; clear hu
  try dsimp only at h_2
  refine W.eq (g2 := F0 m 5 ls [.int (iI (r_2)), .ref (ad 12 0)]) rfl ?_
  refine y_if_eq hM (by constructor <;> omega) (tgt := 19) dX4_owes_5 (by decide) (fun c_5 => ?_) (fun c_5 => ?_)
  ·
    refine y_iconst hM dX4_owes_19 ?_
    refine y_put hM hC hMI.1 rfl rfl (by decide +kernel) tyX4 tyX4_ok nmX4 0 ⟨by decide, rfl, rfl, rfl, rfl⟩ (by decide +kernel) (ty := .int) (by decide +kernel) rfl rfl (Nat.le_of_ble_eq_true rfl) (T' := (up T 12 0 0 (1))) (P' := P) (cF_up rfl) (fun _ _ h => up_ne h) (fun _ _ _ => rfl) dX4_owes_20 (fun H locs hC => ?_)
    refine y_aload_n hM hl 0 rfl rfl dX4_owes_23 ?_
    refine y_get hM hC hMI.1 rfl rfl (by decide +kernel) 0 ⟨by decide, rfl, rfl, rfl⟩ (by decide +kernel) (congrArg (fun q => some (Value.int (iI q))) (show (up T 12 0 0 (1)) 12 0 0 = 1 from by simp [up, zrT])) dX4_owes_24 ?_
    refine y_if_le hM (by constructor <;> omega) (tgt := 34) dX4_owes_27 (by decide) (fun c_27 => False.elim (by omega)) (fun c_27 => ?_)
    refine y_lconst hM 0 (by decide) dX4_owes_30 ?_
    refine lv_goto (tgt := 55) hM.1 hM.2.1 dX4_owes_31 (by decide) ?_
    exact y_lret hM hr hlk hC ⟨_, _, rfl, (Or.inl ⟨by omega, rfl⟩), rfl⟩ (Nat.le_of_ble_eq_true rfl) (Nat.le_of_ble_eq_true rfl) dX4_owes_55
  ·
    refine y_iload_n hM hl 2 rfl rfl dX4_owes_8 ?_
    refine y_callS hM hC (c_M_isProvider l hfl G b0 (ks, ad, T, P) (w) (by constructor <;> omega)) (va_cwS 1 hM.2.2.2.2 gX4_owes_X4_isProvider rfl rfl rfl (by decide +kernel) ⟨(Nat.le_of_ble_eq_true rfl), (Nat.le_of_ble_eq_true rfl)⟩) rfl hl.1 rfl (Nat.le_of_ble_eq_true rfl) dX4_owes_9 ⟨(Nat.le_of_ble_eq_true rfl), (Nat.le_of_ble_eq_true rfl)⟩ (fun E ce q9 u1 H locs hx hC hce hcv hcl => hx.elim) (fun v u1 H locs hp hC => ?_)
    obtain ⟨r_9, rfl, h_9, hu⟩ := hp; rw [hu] at hC; clear hu
    try dsimp only at h_9
    refine W.eq (g2 := F0 m 12 ls [.int (iI (r_9)), .ref (ad 12 0)]) rfl ?_
    refine y_if_eq hM (by constructor <;> omega) (tgt := 19) dX4_owes_12 (by decide) (fun c_12 => ?_) (fun c_12 => ?_)
    ·
      refine y_iconst hM dX4_owes_19 ?_
      refine y_put hM hC hMI.1 rfl rfl (by decide +kernel) tyX4 tyX4_ok nmX4 0 ⟨by decide, rfl, rfl, rfl, rfl⟩ (by decide +kernel) (ty := .int) (by decide +kernel) rfl rfl (Nat.le_of_ble_eq_true rfl) (T' := (up T 12 0 0 (1))) (P' := P) (cF_up rfl) (fun _ _ h => up_ne h) (fun _ _ _ => rfl) dX4_owes_20 (fun H locs hC => ?_)
      refine y_aload_n hM hl 0 rfl rfl dX4_owes_23 ?_
      refine y_get hM hC hMI.1 rfl rfl (by decide +kernel) 0 ⟨by decide, rfl, rfl, rfl⟩ (by decide +kernel) (congrArg (fun q => some (Value.int (iI q))) (show (up T 12 0 0 (1)) 12 0 0 = 1 from by simp [up, zrT])) dX4_owes_24 ?_
      refine y_if_le hM (by constructor <;> omega) (tgt := 34) dX4_owes_27 (by decide) (fun c_27 => False.elim (by omega)) (fun c_27 => ?_)
      refine y_lconst hM 0 (by decide) dX4_owes_30 ?_
      refine lv_goto (tgt := 55) hM.1 hM.2.1 dX4_owes_31 (by decide) ?_
      exact y_lret hM hr hlk hC ⟨_, _, rfl, (Or.inl ⟨by omega, rfl⟩), rfl⟩ (Nat.le_of_ble_eq_true rfl) (Nat.le_of_ble_eq_true rfl) dX4_owes_55
    ·
      refine y_iconst hM dX4_owes_15 ?_
      refine lv_goto (tgt := 20) hM.1 hM.2.1 dX4_owes_16 (by decide) ?_
      refine y_put hM hC hMI.1 rfl rfl (by decide +kernel) tyX4 tyX4_ok nmX4 0 ⟨by decide, rfl, rfl, rfl, rfl⟩ (by decide +kernel) (ty := .int) (by decide +kernel) rfl rfl (Nat.le_of_ble_eq_true rfl) (T' := (up T 12 0 0 (0))) (P' := P) (cF_up rfl) (fun _ _ h => up_ne h) (fun _ _ _ => rfl) dX4_owes_20 (fun H locs hC => ?_)
      refine y_aload_n hM hl 0 rfl rfl dX4_owes_23 ?_
      refine y_get hM hC hMI.1 rfl rfl (by decide +kernel) 0 ⟨by decide, rfl, rfl, rfl⟩ (by decide +kernel) (congrArg (fun q => some (Value.int (iI q))) (show (up T 12 0 0 (0)) 12 0 0 = 0 from by simp [up, zrT])) dX4_owes_24 ?_
      refine y_if_le hM (by constructor <;> omega) (tgt := 34) dX4_owes_27 (by decide) (fun c_27 => ?_) (fun c_27 => False.elim (by omega))
      refine y_aload_n hM hl 0 rfl rfl dX4_owes_34 ?_
      refine y_get hM hC hMI.1 rfl rfl (by decide +kernel) 21 ⟨by decide, rfl, rfl, rfl⟩ (by decide +kernel) (congrArg (fun q => some (va_rf q)) (hMI.2 21 (by decide)).2) dX4_owes_35 ?_
      refine W.eq (g2 := F0 m 38 ls [.ref (ad 41 0)]) rfl ?_
      refine y_iconst hM dX4_owes_38 ?_
      refine y_iload_n hM hl 1 rfl rfl dX4_owes_39 ?_
      refine y_imul hM dX4_owes_40 ?_
      refine y_iload_n hM hl 2 rfl rfl dX4_owes_41 ?_
      refine y_iadd hM dX4_owes_42 ?_
      refine y_lald hM hC (hMI.2 21 (by decide)).1 rfl ⟨by omega, by omega⟩ (by decide) (x := T 41 0 (((5) * (z)) + (w)).toNat) (by simp [up, zrT]) dX4_owes_43 ?_
      refine y_aload_n hM hl 0 rfl rfl dX4_owes_44 ?_
      refine y_get hM hC hMI.1 rfl rfl (by decide +kernel) 21 ⟨by decide, rfl, rfl, rfl⟩ (by decide +kernel) (congrArg (fun q => some (va_rf q)) (hMI.2 21 (by decide)).2) dX4_owes_45 ?_
      refine W.eq (g2 := F0 m 48 ls [.ref (ad 41 0), .long (lI (T 41 0 (((5) * (z)) + (w)).toNat))]) rfl ?_
      refine y_iconst hM dX4_owes_48 ?_
      refine y_iload_n hM hl 2 rfl rfl dX4_owes_49 ?_
      refine y_imul hM dX4_owes_50 ?_
      refine y_iload_n hM hl 1 rfl rfl dX4_owes_51 ?_
      refine y_iadd hM dX4_owes_52 ?_
      refine y_lald hM hC (hMI.2 21 (by decide)).1 rfl ⟨by omega, by omega⟩ (by decide) (x := T 41 0 (((5) * (w)) + (z)).toNat) (by simp [up, zrT]) dX4_owes_53 ?_
      refine y_lsub hM dX4_owes_54 ?_
      exact y_lret hM hr hlk hC ⟨_, _, rfl, (Or.inr ⟨⟨by omega, by omega, by omega, by omega, rfl⟩, rfl⟩), rfl⟩ (Nat.le_of_ble_eq_true rfl) (Nat.le_of_ble_eq_true rfl) dX4_owes_55

set_option maxRecDepth 100000 in
set_option maxHeartbeats 8000000 in
theorem c_M_losses (l : Launch) (hfl : l.stackTraces = false) (G : GG) (b0 : Nat) (ks : KK) (ad : AD) (T : TT) (P : PP) (z : Int) (hz : inI z) (hMI : MI ks ad P) (hMN : MN T)  : vx_Met l yX4_losses wsX4_losses (rmX 2 0 0 42) (va_Pc [.ref (ad 12 0), .int (iI (z))] (Ok G b0 (ks, ad, T, P))) (Qr (fun v u1 => ∃ (r : Int) (T1 : TT), v = some (.long (lI r)) ∧ (((z < 0 ∨ 5 ≤ z) ∧ T1 = up T 12 0 0 1) ∨ ((0 ≤ z ∧ z < 5 ∧ r = T 42 0 z.toNat) ∧ T1 = up T 12 0 0 0)) ∧ u1 = (ks, ad, T1, P)) G b0) (Xr (noX) G b0) 0 0 (Wx b0) := by
  refine vx_ofW (cc := cX4_losses) (maxL := 2) (ret := (some .long)) (by decide +kernel) rfl ?_
  intro p e s m args below meth c s₁ B hml hto hv
  obtain ⟨rfl, hok⟩ := hv
  have hM : CallFix p m c cX4_losses 2 s _ wsX4_losses RX4 := ⟨B.exec, B.bytes, hml, findClass_of_methodNamed B.named, atoms_spec (ws := wsX4_losses) B.pre⟩
  have hr := B.returns
  have hlk := B.notSynchronized
  have hC := hok.cur
  have hl := lv_entry ([.ref (ad 12 0), .int (iI (z))]) (n := 2) (Nat.le_of_ble_eq_true rfl)
  rw [lg_entry_eq]
  generalize (lg_sl ([.ref (ad 12 0), .int (iI (z))]) ++ List.replicate (2 - (lg_sl ([.ref (ad 12 0), .int (iI (z))])).length) Slot.unset).toArray = ls at hl ⊢
  have hl : lv_has ls 2 [(0, .ref (ad 12 0)), (1, .int (iI (z)))] := hl
  obtain ⟨⟨m1a, m1b⟩, ⟨m5a, m5b⟩, ⟨m6a, m6b⟩, ⟨mxa, mxb⟩, mpv, mpp, msv, mor⟩ := id hMN
  refine y_aload_n hM hl 0 rfl rfl dX4_losses_0 ?_
  refine y_iload_n hM hl 1 rfl rfl dX4_losses_1 ?_
  refine y_callS hM hC (c_M_isProvider l hfl G b0 (ks, ad, T, P) (z) (by constructor <;> omega)) (va_cwS 1 hM.2.2.2.2 gX4_losses_X4_isProvider rfl rfl rfl (by decide +kernel) ⟨(Nat.le_of_ble_eq_true rfl), (Nat.le_of_ble_eq_true rfl)⟩) rfl hl.1 rfl (Nat.le_of_ble_eq_true rfl) dX4_losses_2 ⟨(Nat.le_of_ble_eq_true rfl), (Nat.le_of_ble_eq_true rfl)⟩ (fun E ce q9 u1 H locs hx hC hce hcv hcl => hx.elim) (fun v u1 H locs hp hC => ?_)
  obtain ⟨r_2, rfl, h_2, hu⟩ := hp; rw [hu] at hC; clear hu
  try dsimp only at h_2
  refine W.eq (g2 := F0 m 5 ls [.int (iI (r_2)), .ref (ad 12 0)]) rfl ?_
  refine y_if_eq hM (by constructor <;> omega) (tgt := 12) dX4_losses_5 (by decide) (fun c_5 => ?_) (fun c_5 => ?_)
  ·
    refine y_iconst hM dX4_losses_12 ?_
    refine y_put hM hC hMI.1 rfl rfl (by decide +kernel) tyX4 tyX4_ok nmX4 0 ⟨by decide, rfl, rfl, rfl, rfl⟩ (by decide +kernel) (ty := .int) (by decide +kernel) rfl rfl (Nat.le_of_ble_eq_true rfl) (T' := (up T 12 0 0 (1))) (P' := P) (cF_up rfl) (fun _ _ h => up_ne h) (fun _ _ _ => rfl) dX4_losses_13 (fun H locs hC => ?_)
    refine y_aload_n hM hl 0 rfl rfl dX4_losses_16 ?_
    refine y_get hM hC hMI.1 rfl rfl (by decide +kernel) 0 ⟨by decide, rfl, rfl, rfl⟩ (by decide +kernel) (congrArg (fun q => some (Value.int (iI q))) (show (up T 12 0 0 (1)) 12 0 0 = 1 from by simp [up, zrT])) dX4_losses_17 ?_
    refine y_if_le hM (by constructor <;> omega) (tgt := 27) dX4_losses_20 (by decide) (fun c_20 => False.elim (by omega)) (fun c_20 => ?_)
    refine y_lconst hM 0 (by decide) dX4_losses_23 ?_
    refine lv_goto (tgt := 33) hM.1 hM.2.1 dX4_losses_24 (by decide) ?_
    exact y_lret hM hr hlk hC ⟨_, _, rfl, (Or.inl ⟨by omega, rfl⟩), rfl⟩ (Nat.le_of_ble_eq_true rfl) (Nat.le_of_ble_eq_true rfl) dX4_losses_33
  ·
    refine y_iconst hM dX4_losses_8 ?_
    refine lv_goto (tgt := 13) hM.1 hM.2.1 dX4_losses_9 (by decide) ?_
    refine y_put hM hC hMI.1 rfl rfl (by decide +kernel) tyX4 tyX4_ok nmX4 0 ⟨by decide, rfl, rfl, rfl, rfl⟩ (by decide +kernel) (ty := .int) (by decide +kernel) rfl rfl (Nat.le_of_ble_eq_true rfl) (T' := (up T 12 0 0 (0))) (P' := P) (cF_up rfl) (fun _ _ h => up_ne h) (fun _ _ _ => rfl) dX4_losses_13 (fun H locs hC => ?_)
    refine y_aload_n hM hl 0 rfl rfl dX4_losses_16 ?_
    refine y_get hM hC hMI.1 rfl rfl (by decide +kernel) 0 ⟨by decide, rfl, rfl, rfl⟩ (by decide +kernel) (congrArg (fun q => some (Value.int (iI q))) (show (up T 12 0 0 (0)) 12 0 0 = 0 from by simp [up, zrT])) dX4_losses_17 ?_
    refine y_if_le hM (by constructor <;> omega) (tgt := 27) dX4_losses_20 (by decide) (fun c_20 => ?_) (fun c_20 => False.elim (by omega))
    refine y_aload_n hM hl 0 rfl rfl dX4_losses_27 ?_
    refine y_get hM hC hMI.1 rfl rfl (by decide +kernel) 22 ⟨by decide, rfl, rfl, rfl⟩ (by decide +kernel) (congrArg (fun q => some (va_rf q)) (hMI.2 22 (by decide)).2) dX4_losses_28 ?_
    refine W.eq (g2 := F0 m 31 ls [.ref (ad 42 0)]) rfl ?_
    refine y_iload_n hM hl 1 rfl rfl dX4_losses_31 ?_
    refine y_lald hM hC (hMI.2 22 (by decide)).1 rfl ⟨by omega, by omega⟩ (by decide) (x := T 42 0 (z).toNat) (by simp [up, zrT]) dX4_losses_32 ?_
    exact y_lret hM hr hlk hC ⟨_, _, rfl, (Or.inr ⟨⟨by omega, by omega, rfl⟩, rfl⟩), rfl⟩ (Nat.le_of_ble_eq_true rfl) (Nat.le_of_ble_eq_true rfl) dX4_losses_33

set_option maxRecDepth 100000 in
set_option maxHeartbeats 8000000 in
theorem c_dueOf (l : Launch) (hfl : l.stackTraces = false) (G : GG) (b0 : Nat) (ks : KK) (ad : AD) (T : TT) (P : PP) (z : Int) (hz : 0 ≤ z ∧ z < T 12 0 10) (hMI : MI ks ad P) (hMN : MN T)  : vx_Met l yX4_dueOf wsX4_dueOf (rmX 0 0 0 0) (va_Pc [.ref (ad 12 0), .int (iI (z))] (Ok G b0 (ks, ad, T, P))) (Qr (pI (fun r => r = mdue T z) (ks, ad, T, P)) G b0) (Xr (noX) G b0) 0 0 (Wx b0) := by
  refine vx_ofW (cc := cX4_dueOf) (maxL := 2) (ret := (some .int)) (by decide +kernel) rfl ?_
  intro p e s m args below meth c s₁ B hml hto hv
  obtain ⟨rfl, hok⟩ := hv
  have hM : CallFix p m c cX4_dueOf 2 s _ wsX4_dueOf RX4 := ⟨B.exec, B.bytes, hml, findClass_of_methodNamed B.named, atoms_spec (ws := wsX4_dueOf) B.pre⟩
  have hr := B.returns
  have hlk := B.notSynchronized
  have hC := hok.cur
  have hl := lv_entry ([.ref (ad 12 0), .int (iI (z))]) (n := 2) (Nat.le_of_ble_eq_true rfl)
  rw [lg_entry_eq]
  generalize (lg_sl ([.ref (ad 12 0), .int (iI (z))]) ++ List.replicate (2 - (lg_sl ([.ref (ad 12 0), .int (iI (z))])).length) Slot.unset).toArray = ls at hl ⊢
  have hl : lv_has ls 2 [(0, .ref (ad 12 0)), (1, .int (iI (z)))] := hl
  obtain ⟨⟨m1a, m1b⟩, ⟨m5a, m5b⟩, ⟨m6a, m6b⟩, ⟨mxa, mxb⟩, mpv, mpp, msv, mor⟩ := id hMN
  have ho := mor z.toNat (by omega)
  unfold MOr at ho
  refine y_aload_n hM hl 0 rfl rfl dX4_dueOf_0 ?_
  refine y_get hM hC hMI.1 rfl rfl (by decide +kernel) 14 ⟨by decide, rfl, rfl, rfl⟩ (by decide +kernel) (congrArg (fun q => some (va_rf q)) (hMI.2 14 (by decide)).2) dX4_dueOf_1 ?_
  refine W.eq (g2 := F0 m 4 ls [.ref (ad 34 0)]) rfl ?_
  refine y_iload_n hM hl 1 rfl rfl dX4_dueOf_4 ?_
  refine y_iald hM hC (hMI.2 14 (by decide)).1 rfl ⟨by omega, by omega⟩ (by decide) (x := T 34 0 (z).toNat) rfl dX4_dueOf_5 ?_
  refine y_aload_n hM hl 0 rfl rfl dX4_dueOf_6 ?_
  refine y_get hM hC hMI.1 rfl rfl (by decide +kernel) 13 ⟨by decide, rfl, rfl, rfl⟩ (by decide +kernel) (congrArg (fun q => some (va_rf q)) (hMI.2 13 (by decide)).2) dX4_dueOf_7 ?_
  refine W.eq (g2 := F0 m 10 ls [.ref (ad 33 0), .int (iI (T 34 0 (z).toNat))]) rfl ?_
  refine y_iload_n hM hl 1 rfl rfl dX4_dueOf_10 ?_
  refine y_iald hM hC (hMI.2 13 (by decide)).1 rfl ⟨by omega, by omega⟩ (by decide) (x := T 33 0 (z).toNat) rfl dX4_dueOf_11 ?_
  refine y_if_ne hM (by constructor <;> omega) (tgt := 19) dX4_dueOf_12 (by decide) (fun c_12 => ?_) (fun c_12 => ?_)
  ·
    refine y_iconst hM dX4_dueOf_19 ?_
    refine y_iadd hM dX4_dueOf_20 ?_
    exact y_iret hM hr hlk hC ⟨_, rfl, (by (try dsimp only); unfold mdue; split <;> omega), rfl⟩ (Nat.le_of_ble_eq_true rfl) (Nat.le_of_ble_eq_true rfl) dX4_dueOf_21
  ·
    refine y_iconst hM dX4_dueOf_15 ?_
    refine lv_goto (tgt := 20) hM.1 hM.2.1 dX4_dueOf_16 (by decide) ?_
    refine y_iadd hM dX4_dueOf_20 ?_
    exact y_iret hM hr hlk hC ⟨_, rfl, (by (try dsimp only); unfold mdue; split <;> omega), rfl⟩ (Nat.le_of_ble_eq_true rfl) (Nat.le_of_ble_eq_true rfl) dX4_dueOf_21

set_option maxRecDepth 100000 in
set_option maxHeartbeats 8000000 in
theorem c_lateBy (l : Launch) (hfl : l.stackTraces = false) (G : GG) (b0 : Nat) (ks : KK) (ad : AD) (T : TT) (P : PP) (z : Int) (hz : 0 ≤ z ∧ z < T 12 0 10) (hMI : MI ks ad P) (hMN : MN T)  : vx_Met l yX4_lateBy wsX4_lateBy (rmX 1 0 0 21) (va_Pc [.ref (ad 12 0), .int (iI (z))] (Ok G b0 (ks, ad, T, P))) (Qr (pI (fun r => r = mlate T z) (ks, ad, T, P)) G b0) (Xr (noX) G b0) 0 0 (Wx b0) := by
  refine vx_ofW (cc := cX4_lateBy) (maxL := 2) (ret := (some .int)) (by decide +kernel) rfl ?_
  intro p e s m args below meth c s₁ B hml hto hv
  obtain ⟨rfl, hok⟩ := hv
  have hM : CallFix p m c cX4_lateBy 2 s _ wsX4_lateBy RX4 := ⟨B.exec, B.bytes, hml, findClass_of_methodNamed B.named, atoms_spec (ws := wsX4_lateBy) B.pre⟩
  have hr := B.returns
  have hlk := B.notSynchronized
  have hC := hok.cur
  have hl := lv_entry ([.ref (ad 12 0), .int (iI (z))]) (n := 2) (Nat.le_of_ble_eq_true rfl)
  rw [lg_entry_eq]
  generalize (lg_sl ([.ref (ad 12 0), .int (iI (z))]) ++ List.replicate (2 - (lg_sl ([.ref (ad 12 0), .int (iI (z))])).length) Slot.unset).toArray = ls at hl ⊢
  have hl : lv_has ls 2 [(0, .ref (ad 12 0)), (1, .int (iI (z)))] := hl
  obtain ⟨⟨m1a, m1b⟩, ⟨m5a, m5b⟩, ⟨m6a, m6b⟩, ⟨mxa, mxb⟩, mpv, mpp, msv, mor⟩ := id hMN
  have ho := mor z.toNat (by omega)
  unfold MOr at ho
  have hdu : 0 ≤ mdue T z ∧ mdue T z ≤ 3000 := by unfold mdue; split <;> omega
  refine y_aload_n hM hl 0 rfl rfl dX4_lateBy_0 ?_
  refine y_get hM hC hMI.1 rfl rfl (by decide +kernel) 1 ⟨by decide, rfl, rfl, rfl⟩ (by decide +kernel) rfl dX4_lateBy_1 ?_
  refine y_aload_n hM hl 0 rfl rfl dX4_lateBy_4 ?_
  refine y_iload_n hM hl 1 rfl rfl dX4_lateBy_5 ?_
  refine y_callV hM hC (c_dueOf l hfl G b0 ks ad T P (z) ⟨by omega, (show _ < T 12 0 10 by omega)⟩ hMI hMN) (cwV 1 hM.2.2.2.2 gX4_lateBy_X4_dueOf rfl rfl rfl (by decide +kernel) ⟨(Nat.le_of_ble_eq_true rfl), (Nat.le_of_ble_eq_true rfl)⟩) (y_recv hC hMI.1 rfl rfl) rfl hl.1 rfl (Nat.le_of_ble_eq_true rfl) dX4_lateBy_6 ⟨(Nat.le_of_ble_eq_true rfl), (Nat.le_of_ble_eq_true rfl)⟩ (fun E ce q9 u1 H locs hx hC hce hcv hcl => hx.elim) (fun v u1 H locs hp hC => ?_)
  obtain ⟨r_6, rfl, h_6, hu⟩ := hp; rw [hu] at hC; clear hu
  try dsimp only at h_6
  refine W.eq (g2 := F0 m 9 ls [.int (iI (r_6)), .int (iI (T 12 0 1))]) rfl ?_
  refine y_icmp_le hM (by constructor <;> omega) (by constructor <;> omega) (tgt := 25) dX4_lateBy_9 (by decide) (fun c_9 => ?_) (fun c_9 => ?_)
  ·
    refine y_iconst hM dX4_lateBy_25 ?_
    exact y_iret hM hr hlk hC ⟨_, rfl, (by (try dsimp only); unfold mlate; split <;> omega), rfl⟩ (Nat.le_of_ble_eq_true rfl) (Nat.le_of_ble_eq_true rfl) dX4_lateBy_26
  ·
    refine y_aload_n hM hl 0 rfl rfl dX4_lateBy_12 ?_
    refine y_get hM hC hMI.1 rfl rfl (by decide +kernel) 1 ⟨by decide, rfl, rfl, rfl⟩ (by decide +kernel) rfl dX4_lateBy_13 ?_
    refine y_aload_n hM hl 0 rfl rfl dX4_lateBy_16 ?_
    refine y_iload_n hM hl 1 rfl rfl dX4_lateBy_17 ?_
    refine y_callV hM hC (c_dueOf l hfl G b0 ks ad T P (z) ⟨by omega, (show _ < T 12 0 10 by omega)⟩ hMI hMN) (cwV 1 hM.2.2.2.2 gX4_lateBy_X4_dueOf rfl rfl rfl (by decide +kernel) ⟨(Nat.le_of_ble_eq_true rfl), (Nat.le_of_ble_eq_true rfl)⟩) (y_recv hC hMI.1 rfl rfl) rfl hl.1 rfl (Nat.le_of_ble_eq_true rfl) dX4_lateBy_18 ⟨(Nat.le_of_ble_eq_true rfl), (Nat.le_of_ble_eq_true rfl)⟩ (fun E ce q9 u1 H locs hx hC hce hcv hcl => hx.elim) (fun v u1 H locs hp hC => ?_)
    obtain ⟨r_18, rfl, h_18, hu⟩ := hp; rw [hu] at hC; clear hu
    try dsimp only at h_18
    refine W.eq (g2 := F0 m 21 ls [.int (iI (r_18)), .int (iI (T 12 0 1))]) rfl ?_
    refine y_isub hM dX4_lateBy_21 ?_
    refine lv_goto (tgt := 26) hM.1 hM.2.1 dX4_lateBy_22 (by decide) ?_
    exact y_iret hM hr hlk hC ⟨_, rfl, (by (try dsimp only); unfold mlate; split <;> omega), rfl⟩ (Nat.le_of_ble_eq_true rfl) (Nat.le_of_ble_eq_true rfl) dX4_lateBy_26

set_option maxRecDepth 100000 in
set_option maxHeartbeats 8000000 in
theorem c_M_timely (l : Launch) (hfl : l.stackTraces = false) (G : GG) (b0 : Nat) (ks : KK) (ad : AD) (T : TT) (P : PP) (z lb : Int) (hz : 0 ≤ z ∧ z < T 12 0 10) (hst : T 33 0 z.toNat = 2) (hlb : 0 ≤ lb ∧ lb + T 34 0 z.toNat ≤ T 12 0 1) (hMI : MI ks ad P) (hMN : MN T)  : vx_Met l yX4_timely wsX4_timely (rmX 1 0 0 22) (va_Pc [.ref (ad 12 0), .int (iI (z)), .int (iI (lb))] (Ok G b0 (ks, ad, T, P))) (Qr (pJ (fun r => r = mtim T z lb) (ks, ad, T, P)) G b0) (Xr (noX) G b0) 0 0 (Wx b0) := by
  refine vx_ofW (cc := cX4_timely) (maxL := 7) (ret := (some .long)) (by decide +kernel) rfl ?_
  intro p e s m args below meth c s₁ B hml hto hv
  obtain ⟨rfl, hok⟩ := hv
  have hM : CallFix p m c cX4_timely 7 s _ wsX4_timely RX4 := ⟨B.exec, B.bytes, hml, findClass_of_methodNamed B.named, atoms_spec (ws := wsX4_timely) B.pre⟩
  have hr := B.returns
  have hlk := B.notSynchronized
  have hC := hok.cur
  have hl := lv_entry ([.ref (ad 12 0), .int (iI (z)), .int (iI (lb))]) (n := 7) (Nat.le_of_ble_eq_true rfl)
  rw [lg_entry_eq]
  generalize (lg_sl ([.ref (ad 12 0), .int (iI (z)), .int (iI (lb))]) ++ List.replicate (7 - (lg_sl ([.ref (ad 12 0), .int (iI (z)), .int (iI (lb))])).length) Slot.unset).toArray = ls at hl ⊢
  have hl : lv_has ls 7 [(0, .ref (ad 12 0)), (1, .int (iI (z))), (2, .int (iI (lb)))] := hl
  obtain ⟨⟨m1a, m1b⟩, ⟨m5a, m5b⟩, ⟨m6a, m6b⟩, ⟨mxa, mxb⟩, mpv, mpp, msv, mor⟩ := id hMN
  have ho := mor z.toNat (by omega)
  unfold MOr at ho
  have o11 := ho.2.2.2.2.2.2.2.2.2.2.2.2.1 (by omega)
  have o12 := ho.2.2.2.2.2.2.2.2.2.2.2.2.2.1 hst
  have hs := msv (T 31 0 z.toNat).toNat (by omega)
  unfold MSv at hs
  refine y_aload_n hM hl 0 rfl rfl dX4_timely_0 ?_
  refine y_get hM hC hMI.1 rfl rfl (by decide +kernel) 17 ⟨by decide, rfl, rfl, rfl⟩ (by decide +kernel) (congrArg (fun q => some (va_rf q)) (hMI.2 17 (by decide)).2) dX4_timely_1 ?_
  refine W.eq (g2 := F0 m 4 ls [.ref (ad 37 0)]) rfl ?_
  refine y_iload_n hM hl 1 rfl rfl dX4_timely_4 ?_
  refine y_iald hM hC (hMI.2 17 (by decide)).1 rfl ⟨by omega, by omega⟩ (by decide) (x := T 37 0 (z).toNat) rfl dX4_timely_5 ?_
  refine y_iload_n hM hl 2 rfl rfl dX4_timely_6 ?_
  refine y_iadd hM dX4_timely_7 ?_
  refine lv_istore_n (lv' := [(3, .int (iI ((T 37 0 (z).toNat) + (lb)))), (0, .ref (ad 12 0)), (1, .int (iI (z))), (2, .int (iI (lb)))]) hM.1 hM.2.1 dX4_timely_8 rfl hl (by decide) rfl (fun ls hl => ?_)
  refine y_iload_n hM hl 0 rfl rfl dX4_timely_9 ?_
  refine y_if_ne hM (by constructor <;> omega) (tgt := 15) dX4_timely_10 (by decide) (fun c_10 => ?_) (fun c_10 => ?_)
  ·
    refine y_aload_n hM hl 1 rfl rfl dX4_timely_15 ?_
    refine y_get hM hC hMI.1 rfl rfl (by decide +kernel) 7 ⟨by decide, rfl, rfl, rfl⟩ (by decide +kernel) (congrArg (fun q => some (va_rf q)) (hMI.2 7 (by decide)).2) dX4_timely_16 ?_
    refine W.eq (g2 := F0 m 19 ls [.ref (ad 27 0)]) rfl ?_
    refine y_aload_n hM hl 1 rfl rfl dX4_timely_19 ?_
    refine y_get hM hC hMI.1 rfl rfl (by decide +kernel) 11 ⟨by decide, rfl, rfl, rfl⟩ (by decide +kernel) (congrArg (fun q => some (va_rf q)) (hMI.2 11 (by decide)).2) dX4_timely_20 ?_
    refine W.eq (g2 := F0 m 23 ls [.ref (ad 31 0), .ref (ad 27 0)]) rfl ?_
    refine y_iload_n hM hl 2 rfl rfl dX4_timely_23 ?_
    refine y_iald hM hC (hMI.2 11 (by decide)).1 rfl ⟨by omega, by omega⟩ (by decide) (x := T 31 0 (z).toNat) rfl dX4_timely_24 ?_
    refine y_iald hM hC (hMI.2 7 (by decide)).1 rfl ⟨by omega, by omega⟩ (by decide) (x := T 27 0 (T 31 0 (z).toNat).toNat) rfl dX4_timely_25 ?_
    refine lv_istore (lv' := [(4, .int (iI (T 27 0 (T 31 0 (z).toNat).toNat))), (3, .int (iI ((T 37 0 (z).toNat) + (lb)))), (0, .ref (ad 12 0)), (1, .int (iI (z))), (2, .int (iI (lb)))]) hM.1 hM.2.1 dX4_timely_26 hl (by decide) rfl (fun ls hl => ?_)
    refine y_aload_n hM hl 2 rfl rfl dX4_timely_28 ?_
    refine y_get hM hC hMI.1 rfl rfl (by decide +kernel) 18 ⟨by decide, rfl, rfl, rfl⟩ (by decide +kernel) (congrArg (fun q => some (va_rf q)) (hMI.2 18 (by decide)).2) dX4_timely_29 ?_
    refine W.eq (g2 := F0 m 32 ls [.ref (ad 38 0)]) rfl ?_
    refine y_iload_n hM hl 3 rfl rfl dX4_timely_32 ?_
    refine y_lald hM hC (hMI.2 18 (by decide)).1 rfl ⟨by omega, by omega⟩ (by decide) (x := T 38 0 (z).toNat) rfl dX4_timely_33 ?_
    refine y_aload_n hM hl 2 rfl rfl dX4_timely_34 ?_
    refine y_iload hM hl 0 rfl dX4_timely_35 ?_
    refine y_aload_n hM hl 2 rfl rfl dX4_timely_37 ?_
    refine y_get hM hC hMI.1 rfl rfl (by decide +kernel) 15 ⟨by decide, rfl, rfl, rfl⟩ (by decide +kernel) (congrArg (fun q => some (va_rf q)) (hMI.2 15 (by decide)).2) dX4_timely_38 ?_
    refine W.eq (g2 := F0 m 41 ls [.ref (ad 35 0), .int (iI (T 27 0 (T 31 0 (z).toNat).toNat)), .ref (ad 12 0), .long (lI (T 38 0 (z).toNat))]) rfl ?_
    refine y_iload_n hM hl 3 rfl rfl dX4_timely_41 ?_
    refine y_iald hM hC (hMI.2 15 (by decide)).1 rfl ⟨by omega, by omega⟩ (by decide) (x := T 35 0 (z).toNat) rfl dX4_timely_42 ?_
    refine y_aload_n hM hl 2 rfl rfl dX4_timely_43 ?_
    refine y_get hM hC hMI.1 rfl rfl (by decide +kernel) 16 ⟨by decide, rfl, rfl, rfl⟩ (by decide +kernel) (congrArg (fun q => some (va_rf q)) (hMI.2 16 (by decide)).2) dX4_timely_44 ?_
    refine W.eq (g2 := F0 m 47 ls [.ref (ad 36 0), .int (iI (T 35 0 (z).toNat)), .int (iI (T 27 0 (T 31 0 (z).toNat).toNat)), .ref (ad 12 0), .long (lI (T 38 0 (z).toNat))]) rfl ?_
    refine y_iload_n hM hl 3 rfl rfl dX4_timely_47 ?_
    refine y_iald hM hC (hMI.2 16 (by decide)).1 rfl ⟨by omega, by omega⟩ (by decide) (x := T 36 0 (z).toNat) rfl dX4_timely_48 ?_
    refine y_isub hM dX4_timely_49 ?_
    refine y_callV hM hC (c_priceOf l hfl G b0 ks ad T P (T 27 0 (T 31 0 (z).toNat).toNat) ((T 35 0 (z).toNat) - (T 36 0 (z).toNat)) ⟨by omega, by omega⟩ ⟨by omega, by omega⟩ hMI) (cwV 2 hM.2.2.2.2 gX4_timely_X4_priceOf rfl rfl rfl (by decide +kernel) ⟨(Nat.le_of_ble_eq_true rfl), (Nat.le_of_ble_eq_true rfl)⟩) (y_recv hC hMI.1 rfl rfl) rfl hl.1 rfl (Nat.le_of_ble_eq_true rfl) dX4_timely_50 ⟨(Nat.le_of_ble_eq_true rfl), (Nat.le_of_ble_eq_true rfl)⟩ (fun E ce q9 u1 H locs hx hC hce hcv hcl => hx.elim) (fun v u1 H locs hp hC => ?_)
    obtain ⟨r_50, rfl, h_50, hu⟩ := hp; rw [hu] at hC; clear hu
    try dsimp only at h_50
    refine W.eq (g2 := F0 m 53 ls [.int (iI (r_50)), .long (lI (T 38 0 (z).toNat))]) rfl ?_
    have hv_50 := mpv (T 27 0 (T 31 0 z.toNat).toNat) (T 35 0 z.toNat - T 36 0 z.toNat) (by omega) (by omega) (by omega) (by omega)
    rw [← h_50] at hv_50
    have hq1 : 0 ≤ T 38 0 z.toNat * r_50 := Int.mul_nonneg (by omega) (by omega)
    have hq2 : T 38 0 z.toNat * r_50 ≤ 100000000 * 10000 := Int.mul_le_mul (by omega) (by omega) (by omega) (by omega)
    refine y_i2l hM (by constructor <;> omega) dX4_timely_53 ?_
    refine y_lmul hM dX4_timely_54 ?_
    refine y_ldc2 hM (v := 1000) (1000) (by decide) (by decide +kernel) dX4_timely_55 ?_
    refine y_ldiv hM ⟨by omega, by omega, by omega, by omega⟩ dX4_timely_58 ?_
    refine lv_lstore (lv' := [(5, .long (lI (((T 38 0 (z).toNat) * (r_50)) / (1000)))), (4, .int (iI (T 27 0 (T 31 0 (z).toNat).toNat))), (3, .int (iI ((T 37 0 (z).toNat) + (lb)))), (0, .ref (ad 12 0)), (1, .int (iI (z))), (2, .int (iI (lb)))]) hM.1 hM.2.1 dX4_timely_59 hl (by decide) rfl (fun ls hl => ?_)
    refine y_lload hM hl 0 rfl dX4_timely_61 ?_
    refine y_aload_n hM hl 3 rfl rfl dX4_timely_63 ?_
    refine y_aload_n hM hl 3 rfl rfl dX4_timely_64 ?_
    refine y_get hM hC hMI.1 rfl rfl (by decide +kernel) 12 ⟨by decide, rfl, rfl, rfl⟩ (by decide +kernel) (congrArg (fun q => some (va_rf q)) (hMI.2 12 (by decide)).2) dX4_timely_65 ?_
    refine W.eq (g2 := F0 m 68 ls [.ref (ad 32 0), .ref (ad 12 0), .long (lI (((T 38 0 (z).toNat) * (r_50)) / (1000)))]) rfl ?_
    refine y_iload_n hM hl 4 rfl rfl dX4_timely_68 ?_
    refine y_iald hM hC (hMI.2 12 (by decide)).1 rfl ⟨by omega, by omega⟩ (by decide) (x := T 32 0 (z).toNat) rfl dX4_timely_69 ?_
    refine y_aload_n hM hl 3 rfl rfl dX4_timely_70 ?_
    refine y_get hM hC hMI.1 rfl rfl (by decide +kernel) 1 ⟨by decide, rfl, rfl, rfl⟩ (by decide +kernel) rfl dX4_timely_71 ?_
    refine y_iload_n hM hl 2 rfl rfl dX4_timely_74 ?_
    refine y_isub hM dX4_timely_75 ?_
    refine y_callV hM hC (c_priceOf l hfl G b0 ks ad T P (T 32 0 (z).toNat) ((T 12 0 1) - ((T 37 0 (z).toNat) + (lb))) ⟨by omega, by omega⟩ ⟨by omega, by omega⟩ hMI) (cwV 2 hM.2.2.2.2 gX4_timely_X4_priceOf rfl rfl rfl (by decide +kernel) ⟨(Nat.le_of_ble_eq_true rfl), (Nat.le_of_ble_eq_true rfl)⟩) (y_recv hC hMI.1 rfl rfl) rfl hl.1 rfl (Nat.le_of_ble_eq_true rfl) dX4_timely_76 ⟨(Nat.le_of_ble_eq_true rfl), (Nat.le_of_ble_eq_true rfl)⟩ (fun E ce q9 u1 H locs hx hC hce hcv hcl => hx.elim) (fun v u1 H locs hp hC => ?_)
    obtain ⟨r_76, rfl, h_76, hu⟩ := hp; rw [hu] at hC; clear hu
    try dsimp only at h_76
    refine W.eq (g2 := F0 m 79 ls [.int (iI (r_76)), .long (lI (((T 38 0 (z).toNat) * (r_50)) / (1000)))]) rfl ?_
    have hv_76 := mpv (T 32 0 z.toNat) (T 12 0 1 - (T 37 0 z.toNat + lb)) (by omega) (by omega) (by omega) (by omega)
    rw [← h_76] at hv_76
    refine y_callS hM hC (c_unitsFor l hfl G b0 (ks, ad, T, P) (((T 38 0 (z).toNat) * (r_50)) / (1000)) (r_76) ⟨by omega, by omega⟩ ⟨by omega, by omega⟩) (va_cwS 2 hM.2.2.2.2 gX4_timely_X4_unitsFor rfl rfl rfl (by decide +kernel) ⟨(Nat.le_of_ble_eq_true rfl), (Nat.le_of_ble_eq_true rfl)⟩) rfl hl.1 rfl (Nat.le_of_ble_eq_true rfl) dX4_timely_79 ⟨(Nat.le_of_ble_eq_true rfl), (Nat.le_of_ble_eq_true rfl)⟩ (fun E ce q9 u1 H locs hx hC hce hcv hcl => hx.elim) (fun v u1 H locs hp hC => ?_)
    obtain ⟨r_79, rfl, h_79, hu⟩ := hp; rw [hu] at hC; clear hu
    try dsimp only at h_79
    refine W.eq (g2 := F0 m 82 ls [.long (lI (r_79))]) rfl ?_
    exact y_lret hM hr hlk hC ⟨_, rfl, (by (try dsimp only); rw [h_79]; unfold mtim; rw [if_neg (by omega), h_50, h_76]; rfl), rfl⟩ (Nat.le_of_ble_eq_true rfl) (Nat.le_of_ble_eq_true rfl) dX4_timely_82
  ·
    refine y_lconst hM 0 (by decide) dX4_timely_13 ?_
    exact y_lret hM hr hlk hC ⟨_, rfl, (by (try dsimp only); unfold mtim; rw [if_pos (by omega)]), rfl⟩ (Nat.le_of_ble_eq_true rfl) (Nat.le_of_ble_eq_true rfl) dX4_timely_14

set_option maxRecDepth 100000 in
set_option maxHeartbeats 8000000 in
theorem c_isTooMuch (l : Launch) (hfl : l.stackTraces = false) (G : GG) (b0 : Nat) (ks : KK) (ad : AD) (T : TT) (P : PP) (z pr lb : Int) (hz : 0 ≤ z ∧ z < T 12 0 10) (hpr : 100 ≤ pr ∧ pr ≤ 10000) (hlb : 0 ≤ lb ∧ lb + T 34 0 z.toNat ≤ T 12 0 1) (hMI : MI ks ad P) (hMN : MN T)  : vx_Met l yX4_isTooMuch wsX4_isTooMuch (rmX 2 0 0 48) (va_Pc [.ref (ad 12 0), .int (iI (z)), .int (iI (pr)), .int (iI (lb))] (Ok G b0 (ks, ad, T, P))) (Qr (pI (fun r => (r = 1 ∧ (T 33 0 z.toNat = 2 ∧ (100000000 < mgot T z pr ∨ 100000000 < mtim T z lb))) ∨ (r = 0 ∧ (T 33 0 z.toNat = 2 → mgot T z pr ≤ 100000000 ∧ mtim T z lb ≤ 100000000))) (ks, ad, T, P)) G b0) (Xr (noX) G b0) 0 0 (Wx b0) := by
  refine vx_ofW (cc := cX4_isTooMuch) (maxL := 4) (ret := (some .boolean)) (by decide +kernel) rfl ?_
  intro p e s m args below meth c s₁ B hml hto hv
  obtain ⟨rfl, hok⟩ := hv
  have hM : CallFix p m c cX4_isTooMuch 4 s _ wsX4_isTooMuch RX4 := ⟨B.exec, B.bytes, hml, findClass_of_methodNamed B.named, atoms_spec (ws := wsX4_isTooMuch) B.pre⟩
  have hr := B.returns
  have hlk := B.notSynchronized
  have hC := hok.cur
  have hl := lv_entry ([.ref (ad 12 0), .int (iI (z)), .int (iI (pr)), .int (iI (lb))]) (n := 4) (Nat.le_of_ble_eq_true rfl)
  rw [lg_entry_eq]
  generalize (lg_sl ([.ref (ad 12 0), .int (iI (z)), .int (iI (pr)), .int (iI (lb))]) ++ List.replicate (4 - (lg_sl ([.ref (ad 12 0), .int (iI (z)), .int (iI (pr)), .int (iI (lb))])).length) Slot.unset).toArray = ls at hl ⊢
  have hl : lv_has ls 4 [(0, .ref (ad 12 0)), (1, .int (iI (z))), (2, .int (iI (pr))), (3, .int (iI (lb)))] := hl
  obtain ⟨⟨m1a, m1b⟩, ⟨m5a, m5b⟩, ⟨m6a, m6b⟩, ⟨mxa, mxb⟩, mpv, mpp, msv, mor⟩ := id hMN
  have ho := mor z.toNat (by omega)
  unfold MOr at ho
  refine y_aload_n hM hl 0 rfl rfl dX4_isTooMuch_0 ?_
  refine y_get hM hC hMI.1 rfl rfl (by decide +kernel) 13 ⟨by decide, rfl, rfl, rfl⟩ (by decide +kernel) (congrArg (fun q => some (va_rf q)) (hMI.2 13 (by decide)).2) dX4_isTooMuch_1 ?_
  refine W.eq (g2 := F0 m 4 ls [.ref (ad 33 0)]) rfl ?_
  refine y_iload_n hM hl 1 rfl rfl dX4_isTooMuch_4 ?_
  refine y_iald hM hC (hMI.2 13 (by decide)).1 rfl ⟨by omega, by omega⟩ (by decide) (x := T 33 0 (z).toNat) rfl dX4_isTooMuch_5 ?_
  refine y_iconst hM dX4_isTooMuch_6 ?_
  refine y_icmp_eq hM (by constructor <;> omega) (by constructor <;> omega) (tgt := 12) dX4_isTooMuch_7 (by decide) (fun c_7 => ?_) (fun c_7 => ?_)
  ·
    refine y_aload_n hM hl 0 rfl rfl dX4_isTooMuch_12 ?_
    refine y_get hM hC hMI.1 rfl rfl (by decide +kernel) 19 ⟨by decide, rfl, rfl, rfl⟩ (by decide +kernel) (congrArg (fun q => some (va_rf q)) (hMI.2 19 (by decide)).2) dX4_isTooMuch_13 ?_
    refine W.eq (g2 := F0 m 16 ls [.ref (ad 39 0)]) rfl ?_
    refine y_iload_n hM hl 1 rfl rfl dX4_isTooMuch_16 ?_
    refine y_lald hM hC (hMI.2 19 (by decide)).1 rfl ⟨by omega, by omega⟩ (by decide) (x := T 39 0 (z).toNat) rfl dX4_isTooMuch_17 ?_
    refine y_iload_n hM hl 2 rfl rfl dX4_isTooMuch_18 ?_
    refine y_callS hM hC (c_unitsFor l hfl G b0 (ks, ad, T, P) (T 39 0 (z).toNat) (pr) ⟨by omega, by omega⟩ ⟨by omega, by omega⟩) (va_cwS 2 hM.2.2.2.2 gX4_isTooMuch_X4_unitsFor rfl rfl rfl (by decide +kernel) ⟨(Nat.le_of_ble_eq_true rfl), (Nat.le_of_ble_eq_true rfl)⟩) rfl hl.1 rfl (Nat.le_of_ble_eq_true rfl) dX4_isTooMuch_19 ⟨(Nat.le_of_ble_eq_true rfl), (Nat.le_of_ble_eq_true rfl)⟩ (fun E ce q9 u1 H locs hx hC hce hcv hcl => hx.elim) (fun v u1 H locs hp hC => ?_)
    obtain ⟨r_19, rfl, h_19, hu⟩ := hp; rw [hu] at hC; clear hu
    try dsimp only at h_19
    refine W.eq (g2 := F0 m 22 ls [.long (lI (r_19))]) rfl ?_
    have hg : r_19 = mgot T z pr := h_19
    have hn_19 := thF_nn (m := T 39 0 z.toNat) (pr := pr) (by omega) (by omega)
    have hl_19 := thF_le (m := T 39 0 z.toNat) (pr := pr) (by omega) (by omega)
    refine y_ldc2 hM (v := 100000000) (100000000) (by decide) (by decide +kernel) dX4_isTooMuch_22 ?_
    refine y_lcmp hM (by constructor <;> omega) (by constructor <;> omega) dX4_isTooMuch_25 ?_
    have hcl_25 := cmpI_le (r_19) (100000000)
    have hcg_25 := cmpI_gt (r_19) (100000000)
    have hce_25 := cmpI_eq (r_19) (100000000)
    refine y_if_gt hM (cmpI_in _ _) (tgt := 42) dX4_isTooMuch_26 (by decide) (fun c_26 => ?_) (fun c_26 => ?_)
    ·
      refine y_iconst hM dX4_isTooMuch_42 ?_
      refine lv_goto (tgt := 47) hM.1 hM.2.1 dX4_isTooMuch_43 (by decide) ?_
      exact y_zret hM hr hlk hC (by decide) ⟨_, rfl, (by (try dsimp only); omega), rfl⟩ (Nat.le_of_ble_eq_true rfl) (Nat.le_of_ble_eq_true rfl) dX4_isTooMuch_47
    ·
      refine y_aload_n hM hl 0 rfl rfl dX4_isTooMuch_29 ?_
      refine y_iload_n hM hl 1 rfl rfl dX4_isTooMuch_30 ?_
      refine y_iload_n hM hl 3 rfl rfl dX4_isTooMuch_31 ?_
      refine y_callV hM hC (c_M_timely l hfl G b0 ks ad T P (z) (lb) ⟨by omega, (show _ < T 12 0 10 by omega)⟩ (by omega) hlb hMI hMN) (cwV 2 hM.2.2.2.2 gX4_isTooMuch_X4_timely rfl rfl rfl (by decide +kernel) ⟨(Nat.le_of_ble_eq_true rfl), (Nat.le_of_ble_eq_true rfl)⟩) (y_recv hC hMI.1 rfl rfl) rfl hl.1 rfl (Nat.le_of_ble_eq_true rfl) dX4_isTooMuch_32 ⟨(Nat.le_of_ble_eq_true rfl), (Nat.le_of_ble_eq_true rfl)⟩ (fun E ce q9 u1 H locs hx hC hce hcv hcl => hx.elim) (fun v u1 H locs hp hC => ?_)
      obtain ⟨r_32, rfl, h_32, hu⟩ := hp; rw [hu] at hC; clear hu
      try dsimp only at h_32
      refine W.eq (g2 := F0 m 35 ls [.long (lI (r_32))]) rfl ?_
      have ht := mtim_in hMN hz (by omega) hlb
      refine y_ldc2 hM (v := 100000000) (100000000) (by decide) (by decide +kernel) dX4_isTooMuch_35 ?_
      refine y_lcmp hM (by constructor <;> omega) (by constructor <;> omega) dX4_isTooMuch_38 ?_
      have hcl_38 := cmpI_le (r_32) (100000000)
      have hcg_38 := cmpI_gt (r_32) (100000000)
      have hce_38 := cmpI_eq (r_32) (100000000)
      refine y_if_le hM (cmpI_in _ _) (tgt := 46) dX4_isTooMuch_39 (by decide) (fun c_39 => ?_) (fun c_39 => ?_)
      ·
        refine y_iconst hM dX4_isTooMuch_46 ?_
        exact y_zret hM hr hlk hC (by decide) ⟨_, rfl, (by (try dsimp only); omega), rfl⟩ (Nat.le_of_ble_eq_true rfl) (Nat.le_of_ble_eq_true rfl) dX4_isTooMuch_47
      ·
        refine y_iconst hM dX4_isTooMuch_42 ?_
        refine lv_goto (tgt := 47) hM.1 hM.2.1 dX4_isTooMuch_43 (by decide) ?_
        exact y_zret hM hr hlk hC (by decide) ⟨_, rfl, (by (try dsimp only); omega), rfl⟩ (Nat.le_of_ble_eq_true rfl) (Nat.le_of_ble_eq_true rfl) dX4_isTooMuch_47
  ·
    refine y_iconst hM dX4_isTooMuch_10 ?_
    exact y_zret hM hr hlk hC (by decide) ⟨_, rfl, (by (try dsimp only); omega), rfl⟩ (Nat.le_of_ble_eq_true rfl) (Nat.le_of_ble_eq_true rfl) dX4_isTooMuch_11

set_option maxRecDepth 100000 in
set_option maxHeartbeats 8000000 in
theorem c_buys (l : Launch) (hfl : l.stackTraces = false) (G : GG) (b0 : Nat) (ks : KK) (ad : AD) (T : TT) (P : PP) (z pr lb : Int) (hz : 0 ≤ z ∧ z < T 12 0 10) (hst : T 33 0 z.toNat = 2) (hpr : 100 ≤ pr ∧ pr ≤ 10000) (hlb : 0 ≤ lb ∧ lb + T 34 0 z.toNat ≤ T 12 0 1) (hMI : MI ks ad P) (hMN : MN T)  : vx_Met l yX4_buys wsX4_buys (rmX 2 0 0 48) (va_Pc [.ref (ad 12 0), .int (iI (z)), .int (iI (pr)), .int (iI (lb))] (Ok G b0 (ks, ad, T, P))) (Qr (pV (True) (ks, ad, mbuy T z pr lb, P)) G b0) (Xr (noX) G b0) 0 0 (Wx b0) := by
  refine vx_ofW (cc := cX4_buys) (maxL := 14) (ret := none) (by decide +kernel) rfl ?_
  intro p e s m args below meth c s₁ B hml hto hv
  obtain ⟨rfl, hok⟩ := hv
  have hM : CallFix p m c cX4_buys 14 s _ wsX4_buys RX4 := ⟨B.exec, B.bytes, hml, findClass_of_methodNamed B.named, atoms_spec (ws := wsX4_buys) B.pre⟩
  have hr := B.returns
  have hlk := B.notSynchronized
  have hC := hok.cur
  have hl := lv_entry ([.ref (ad 12 0), .int (iI (z)), .int (iI (pr)), .int (iI (lb))]) (n := 14) (Nat.le_of_ble_eq_true rfl)
  rw [lg_entry_eq]
  generalize (lg_sl ([.ref (ad 12 0), .int (iI (z)), .int (iI (pr)), .int (iI (lb))]) ++ List.replicate (14 - (lg_sl ([.ref (ad 12 0), .int (iI (z)), .int (iI (pr)), .int (iI (lb))])).length) Slot.unset).toArray = ls at hl ⊢
  have hl : lv_has ls 14 [(0, .ref (ad 12 0)), (1, .int (iI (z))), (2, .int (iI (pr))), (3, .int (iI (lb)))] := hl
  obtain ⟨⟨m1a, m1b⟩, ⟨m5a, m5b⟩, ⟨m6a, m6b⟩, ⟨mxa, mxb⟩, mpv, mpp, msv, mor⟩ := id hMN
  have ho := mor z.toNat (by omega)
  unfold MOr at ho
  have hs := msv (T 31 0 z.toNat).toNat (by omega)
  unfold MSv at hs
  obtain ⟨la, hla⟩ : ∃ la : Int, la = mlak T z pr lb := ⟨_, rfl⟩
  have ht := mtim_in hMN hz hst hlb
  have hn_15 := thF_nn (m := T 39 0 z.toNat) (pr := pr) (by omega) (by omega)
  have hl_15 := thF_le (m := T 39 0 z.toNat) (pr := pr) (by omega) (by omega)
  have hlan : 0 ≤ la ∧ la ≤ 10000000000 := by
    rw [hla]
    unfold mlak mgot
    split <;> omega
  refine y_aload_n hM hl 0 rfl rfl dX4_buys_0 ?_
  refine y_get hM hC hMI.1 rfl rfl (by decide +kernel) 11 ⟨by decide, rfl, rfl, rfl⟩ (by decide +kernel) (congrArg (fun q => some (va_rf q)) (hMI.2 11 (by decide)).2) dX4_buys_1 ?_
  refine W.eq (g2 := F0 m 4 ls [.ref (ad 31 0)]) rfl ?_
  refine y_iload_n hM hl 1 rfl rfl dX4_buys_4 ?_
  refine y_iald hM hC (hMI.2 11 (by decide)).1 rfl ⟨by omega, by omega⟩ (by decide) (x := T 31 0 (z).toNat) rfl dX4_buys_5 ?_
  refine lv_istore (lv' := [(4, .int (iI (T 31 0 (z).toNat))), (0, .ref (ad 12 0)), (1, .int (iI (z))), (2, .int (iI (pr))), (3, .int (iI (lb)))]) hM.1 hM.2.1 dX4_buys_6 hl (by decide) rfl (fun ls hl => ?_)
  refine y_aload_n hM hl 1 rfl rfl dX4_buys_8 ?_
  refine y_get hM hC hMI.1 rfl rfl (by decide +kernel) 19 ⟨by decide, rfl, rfl, rfl⟩ (by decide +kernel) (congrArg (fun q => some (va_rf q)) (hMI.2 19 (by decide)).2) dX4_buys_9 ?_
  refine W.eq (g2 := F0 m 12 ls [.ref (ad 39 0)]) rfl ?_
  refine y_iload_n hM hl 2 rfl rfl dX4_buys_12 ?_
  refine y_lald hM hC (hMI.2 19 (by decide)).1 rfl ⟨by omega, by omega⟩ (by decide) (x := T 39 0 (z).toNat) rfl dX4_buys_13 ?_
  refine y_iload_n hM hl 3 rfl rfl dX4_buys_14 ?_
  refine y_callS hM hC (c_unitsFor l hfl G b0 (ks, ad, T, P) (T 39 0 (z).toNat) (pr) ⟨by omega, by omega⟩ ⟨by omega, by omega⟩) (va_cwS 2 hM.2.2.2.2 gX4_buys_X4_unitsFor rfl rfl rfl (by decide +kernel) ⟨(Nat.le_of_ble_eq_true rfl), (Nat.le_of_ble_eq_true rfl)⟩) rfl hl.1 rfl (Nat.le_of_ble_eq_true rfl) dX4_buys_15 ⟨(Nat.le_of_ble_eq_true rfl), (Nat.le_of_ble_eq_true rfl)⟩ (fun E ce q9 u1 H locs hx hC hce hcv hcl => hx.elim) (fun v u1 H locs hp hC => ?_)
  obtain ⟨r_15, rfl, h_15, hu⟩ := hp; rw [hu] at hC; clear hu
  try dsimp only at h_15
  refine W.eq (g2 := F0 m 18 ls [.long (lI (r_15))]) rfl ?_
  have hg : r_15 = mgot T z pr := h_15
  refine lv_lstore (lv' := [(5, .long (lI (r_15))), (4, .int (iI (T 31 0 (z).toNat))), (0, .ref (ad 12 0)), (1, .int (iI (z))), (2, .int (iI (pr))), (3, .int (iI (lb)))]) hM.1 hM.2.1 dX4_buys_18 hl (by decide) rfl (fun ls hl => ?_)
  refine y_aload_n hM hl 2 rfl rfl dX4_buys_20 ?_
  refine y_iload_n hM hl 3 rfl rfl dX4_buys_21 ?_
  refine y_iload_n hM hl 5 rfl rfl dX4_buys_22 ?_
  refine y_callV hM hC (c_M_timely l hfl G b0 ks ad T P (z) (lb) ⟨by omega, (show _ < T 12 0 10 by omega)⟩ hst hlb hMI hMN) (cwV 2 hM.2.2.2.2 gX4_buys_X4_timely rfl rfl rfl (by decide +kernel) ⟨(Nat.le_of_ble_eq_true rfl), (Nat.le_of_ble_eq_true rfl)⟩) (y_recv hC hMI.1 rfl rfl) rfl hl.1 rfl (Nat.le_of_ble_eq_true rfl) dX4_buys_23 ⟨(Nat.le_of_ble_eq_true rfl), (Nat.le_of_ble_eq_true rfl)⟩ (fun E ce q9 u1 H locs hx hC hce hcv hcl => hx.elim) (fun v u1 H locs hp hC => ?_)
  obtain ⟨r_23, rfl, h_23, hu⟩ := hp; rw [hu] at hC; clear hu
  try dsimp only at h_23
  refine W.eq (g2 := F0 m 26 ls [.long (lI (r_23))]) rfl ?_
  refine y_lload hM hl 0 rfl dX4_buys_26 ?_
  refine y_lsub hM dX4_buys_28 ?_
  refine lv_lstore (lv' := [(7, .long (lI ((r_23) - (r_15)))), (5, .long (lI (r_15))), (4, .int (iI (T 31 0 (z).toNat))), (0, .ref (ad 12 0)), (1, .int (iI (z))), (2, .int (iI (pr))), (3, .int (iI (lb)))]) hM.1 hM.2.1 dX4_buys_29 hl (by decide) rfl (fun ls hl => ?_)
  refine y_lload hM hl 0 rfl dX4_buys_31 ?_
  refine y_lconst hM 0 (by decide) dX4_buys_33 ?_
  refine y_lcmp hM (by constructor <;> omega) (by constructor <;> omega) dX4_buys_34 ?_
  have hcl_34 := cmpI_le ((r_23) - (r_15)) (0)
  have hcg_34 := cmpI_gt ((r_23) - (r_15)) (0)
  have hce_34 := cmpI_eq ((r_23) - (r_15)) (0)
  refine y_if_le hM (cmpI_in _ _) (tgt := 43) dX4_buys_35 (by decide) (fun c_35 => ?_) (fun c_35 => ?_)
  ·
    refine y_lconst hM 0 (by decide) dX4_buys_43 ?_
    refine lv_lstore (lv' := [(7, .long (lI (0))), (5, .long (lI (r_15))), (4, .int (iI (T 31 0 (z).toNat))), (0, .ref (ad 12 0)), (1, .int (iI (z))), (2, .int (iI (pr))), (3, .int (iI (lb)))]) hM.1 hM.2.1 dX4_buys_44 hl (by decide) rfl (fun ls hl => ?_)
    have hla0 : la = 0 := by
      rw [hla]
      unfold mlak
      rw [if_neg (by omega)]
    subst hla0
    refine y_lload hM hl 0 rfl dX4_buys_46 ?_
    refine y_aload_n hM hl 3 rfl rfl dX4_buys_48 ?_
    refine y_aload_n hM hl 3 rfl rfl dX4_buys_49 ?_
    refine y_get hM hC hMI.1 rfl rfl (by decide +kernel) 12 ⟨by decide, rfl, rfl, rfl⟩ (by decide +kernel) (congrArg (fun q => some (va_rf q)) (hMI.2 12 (by decide)).2) dX4_buys_50 ?_
    refine W.eq (g2 := F0 m 53 ls [.ref (ad 32 0), .ref (ad 12 0), .long (lI (0))]) rfl ?_
    refine y_iload_n hM hl 4 rfl rfl dX4_buys_53 ?_
    refine y_iald hM hC (hMI.2 12 (by decide)).1 rfl ⟨by omega, by omega⟩ (by decide) (x := T 32 0 (z).toNat) rfl dX4_buys_54 ?_
    refine y_aload_n hM hl 3 rfl rfl dX4_buys_55 ?_
    refine y_get hM hC hMI.1 rfl rfl (by decide +kernel) 1 ⟨by decide, rfl, rfl, rfl⟩ (by decide +kernel) rfl dX4_buys_56 ?_
    refine y_callV hM hC (c_priceOf l hfl G b0 ks ad T P (T 32 0 (z).toNat) (T 12 0 1) ⟨by omega, by omega⟩ ⟨by omega, by omega⟩ hMI) (cwV 2 hM.2.2.2.2 gX4_buys_X4_priceOf rfl rfl rfl (by decide +kernel) ⟨(Nat.le_of_ble_eq_true rfl), (Nat.le_of_ble_eq_true rfl)⟩) (y_recv hC hMI.1 rfl rfl) rfl hl.1 rfl (Nat.le_of_ble_eq_true rfl) dX4_buys_59 ⟨(Nat.le_of_ble_eq_true rfl), (Nat.le_of_ble_eq_true rfl)⟩ (fun E ce q9 u1 H locs hx hC hce hcv hcl => hx.elim) (fun v u1 H locs hp hC => ?_)
    obtain ⟨r_59, rfl, h_59, hu⟩ := hp; rw [hu] at hC; clear hu
    try dsimp only at h_59
    refine W.eq (g2 := F0 m 62 ls [.int (iI (r_59)), .long (lI (0))]) rfl ?_
    have hv_59 := mpv (T 32 0 z.toNat) (T 12 0 1) (by omega) (by omega) (by omega) (by omega)
    rw [← h_59] at hv_59
    have hq1 : 0 ≤ 0 * r_59 := Int.mul_nonneg (by omega) (by omega)
    have hq2 : 0 * r_59 ≤ 10000000000 * 10000 := Int.mul_le_mul (by omega) (by omega) (by omega) (by omega)
    refine y_i2l hM (by constructor <;> omega) dX4_buys_62 ?_
    refine y_lmul hM dX4_buys_63 ?_
    refine y_ldc2 hM (v := 1000) (1000) (by decide) (by decide +kernel) dX4_buys_64 ?_
    refine y_ladd hM dX4_buys_67 ?_
    refine y_lconst hM 1 (by decide) dX4_buys_68 ?_
    refine y_lsub hM dX4_buys_69 ?_
    refine y_ldc2 hM (v := 1000) (1000) (by decide) (by decide +kernel) dX4_buys_70 ?_
    refine y_ldiv hM ⟨by omega, by omega, by omega, by omega⟩ dX4_buys_73 ?_
    refine lv_lstore (lv' := [(9, .long (lI (((((0) * (r_59)) + (1000)) - (1)) / (1000)))), (7, .long (lI (0))), (5, .long (lI (r_15))), (4, .int (iI (T 31 0 (z).toNat))), (0, .ref (ad 12 0)), (1, .int (iI (z))), (2, .int (iI (pr))), (3, .int (iI (lb)))]) hM.1 hM.2.1 dX4_buys_74 hl (by decide) rfl (fun ls hl => ?_)
    obtain ⟨co, hco⟩ : ∃ co : Int, co = coF (0) r_59 := ⟨_, rfl⟩
    have hco1 : ((((0) * (r_59)) + (1000)) - (1)) / (1000) = co := hco.symm
    rw [hco1] at hl
    have hco2 : co = mcos T z pr lb := by
      rw [hco, hla, h_59]
      rfl
    have hco3 : 0 ≤ co ∧ co ≤ 110000000000 := by
      rw [← hco1]
      omega
    have hco4 : 0 ≤ co * T 36 0 z.toNat := Int.mul_nonneg (by omega) (by omega)
    have hco5 : co * T 36 0 z.toNat ≤ 110000000000 * 2000 := Int.mul_le_mul (by omega) (by omega) (by omega) (by omega)
    obtain ⟨sh, hsh⟩ : ∃ sh : Int, sh = msha T z pr lb := ⟨_, rfl⟩
    refine y_aload_n hM hl 4 rfl rfl dX4_buys_76 ?_
    refine y_get hM hC hMI.1 rfl rfl (by decide +kernel) 17 ⟨by decide, rfl, rfl, rfl⟩ (by decide +kernel) (congrArg (fun q => some (va_rf q)) (hMI.2 17 (by decide)).2) dX4_buys_77 ?_
    refine W.eq (g2 := F0 m 80 ls [.ref (ad 37 0)]) rfl ?_
    refine y_iload_n hM hl 5 rfl rfl dX4_buys_80 ?_
    refine y_iald hM hC (hMI.2 17 (by decide)).1 rfl ⟨by omega, by omega⟩ (by decide) (x := T 37 0 (z).toNat) rfl dX4_buys_81 ?_
    refine y_iload_n hM hl 7 rfl rfl dX4_buys_82 ?_
    refine y_iadd hM dX4_buys_83 ?_
    refine lv_istore (lv' := [(11, .int (iI ((T 37 0 (z).toNat) + (lb)))), (9, .long (lI (co))), (7, .long (lI (0))), (5, .long (lI (r_15))), (4, .int (iI (T 31 0 (z).toNat))), (0, .ref (ad 12 0)), (1, .int (iI (z))), (2, .int (iI (pr))), (3, .int (iI (lb)))]) hM.1 hM.2.1 dX4_buys_84 hl (by decide) rfl (fun ls hl => ?_)
    refine y_iload hM hl 0 rfl dX4_buys_86 ?_
    refine y_if_ne hM (by constructor <;> omega) (tgt := 95) dX4_buys_88 (by decide) (fun c_88 => ?_) (fun c_88 => ?_)
    ·
      refine y_lload hM hl 1 rfl dX4_buys_95 ?_
      refine y_aload_n hM hl 5 rfl rfl dX4_buys_97 ?_
      refine y_get hM hC hMI.1 rfl rfl (by decide +kernel) 16 ⟨by decide, rfl, rfl, rfl⟩ (by decide +kernel) (congrArg (fun q => some (va_rf q)) (hMI.2 16 (by decide)).2) dX4_buys_98 ?_
      refine W.eq (g2 := F0 m 101 ls [.ref (ad 36 0), .long (lI (co))]) rfl ?_
      refine y_iload_n hM hl 6 rfl rfl dX4_buys_101 ?_
      refine y_iald hM hC (hMI.2 16 (by decide)).1 rfl ⟨by omega, by omega⟩ (by decide) (x := T 36 0 (z).toNat) rfl dX4_buys_102 ?_
      refine y_i2l hM (by constructor <;> omega) dX4_buys_103 ?_
      refine y_lmul hM dX4_buys_104 ?_
      refine y_iload hM hl 0 rfl dX4_buys_105 ?_
      refine y_i2l hM (by constructor <;> omega) dX4_buys_107 ?_
      refine y_ldiv hM ⟨by omega, by omega, by omega, by omega⟩ dX4_buys_108 ?_
      refine lv_lstore (lv' := [(12, .long (lI (((co) * (T 36 0 (z).toNat)) / ((T 37 0 (z).toNat) + (lb))))), (11, .int (iI ((T 37 0 (z).toNat) + (lb)))), (9, .long (lI (co))), (7, .long (lI (0))), (5, .long (lI (r_15))), (4, .int (iI (T 31 0 (z).toNat))), (0, .ref (ad 12 0)), (1, .int (iI (z))), (2, .int (iI (pr))), (3, .int (iI (lb)))]) hM.1 hM.2.1 dX4_buys_109 hl (by decide) rfl (fun ls hl => ?_)
      have hsh1 : ((co) * (T 36 0 z.toNat)) / ((T 37 0 z.toNat) + (lb)) = sh := by
        rw [hsh]
        unfold msha
        rw [if_neg (by omega), ← hco2]
      rw [hsh1] at hl
      refine y_aload_n hM hl 6 rfl rfl dX4_buys_111 ?_
      refine y_get hM hC hMI.1 rfl rfl (by decide +kernel) 21 ⟨by decide, rfl, rfl, rfl⟩ (by decide +kernel) (congrArg (fun q => some (va_rf q)) (hMI.2 21 (by decide)).2) dX4_buys_112 ?_
      refine W.eq (g2 := F0 m 115 ls [.ref (ad 41 0)]) rfl ?_
      refine y_iconst hM dX4_buys_115 ?_
      refine y_aload_n hM hl 6 rfl rfl dX4_buys_116 ?_
      refine y_get hM hC hMI.1 rfl rfl (by decide +kernel) 7 ⟨by decide, rfl, rfl, rfl⟩ (by decide +kernel) (congrArg (fun q => some (va_rf q)) (hMI.2 7 (by decide)).2) dX4_buys_117 ?_
      refine W.eq (g2 := F0 m 120 ls [.ref (ad 27 0), .int (iI (5)), .ref (ad 41 0)]) rfl ?_
      refine y_iload hM hl 5 rfl dX4_buys_120 ?_
      refine y_iald hM hC (hMI.2 7 (by decide)).1 rfl ⟨by omega, by omega⟩ (by decide) (x := T 27 0 (T 31 0 (z).toNat).toNat) rfl dX4_buys_122 ?_
      refine y_imul hM dX4_buys_123 ?_
      refine y_aload_n hM hl 6 rfl rfl dX4_buys_124 ?_
      refine y_get hM hC hMI.1 rfl rfl (by decide +kernel) 12 ⟨by decide, rfl, rfl, rfl⟩ (by decide +kernel) (congrArg (fun q => some (va_rf q)) (hMI.2 12 (by decide)).2) dX4_buys_125 ?_
      refine W.eq (g2 := F0 m 128 ls [.ref (ad 32 0), .int (iI ((5) * (T 27 0 (T 31 0 (z).toNat).toNat))), .ref (ad 41 0)]) rfl ?_
      refine y_iload_n hM hl 7 rfl rfl dX4_buys_128 ?_
      refine y_iald hM hC (hMI.2 12 (by decide)).1 rfl ⟨by omega, by omega⟩ (by decide) (x := T 32 0 (z).toNat) rfl dX4_buys_129 ?_
      refine y_iadd hM dX4_buys_130 ?_
      refine lv_dup2_11 hM.1 hM.2.1 dX4_buys_131 rfl rfl ?_
      refine y_lald hM hC (hMI.2 21 (by decide)).1 rfl ⟨by omega, by omega⟩ (by decide) (x := T 41 0 (((5) * (T 27 0 (T 31 0 (z).toNat).toNat)) + (T 32 0 (z).toNat)).toNat) rfl dX4_buys_132 ?_
      refine y_lload hM hl 0 rfl dX4_buys_133 ?_
      refine y_ladd hM dX4_buys_135 ?_
      refine y_last hM hC (hMI.2 21 (by decide)).1 (fun _ _ => rfl) ⟨by omega, by omega⟩ (by decide) dX4_buys_136 (fun H locs hC => ?_)
      refine y_aload_n hM hl 6 rfl rfl dX4_buys_137 ?_
      refine y_get hM hC hMI.1 rfl rfl (by decide +kernel) 22 ⟨by decide, rfl, rfl, rfl⟩ (by decide +kernel) (congrArg (fun q => some (va_rf q)) (hMI.2 22 (by decide)).2) dX4_buys_138 ?_
      refine W.eq (g2 := F0 m 141 ls [.ref (ad 42 0)]) rfl ?_
      refine y_aload_n hM hl 6 rfl rfl dX4_buys_141 ?_
      refine y_get hM hC hMI.1 rfl rfl (by decide +kernel) 12 ⟨by decide, rfl, rfl, rfl⟩ (by decide +kernel) (congrArg (fun q => some (va_rf q)) (hMI.2 12 (by decide)).2) dX4_buys_142 ?_
      refine W.eq (g2 := F0 m 145 ls [.ref (ad 32 0), .ref (ad 42 0)]) rfl ?_
      refine y_iload_n hM hl 7 rfl rfl dX4_buys_145 ?_
      refine y_iald hM hC (hMI.2 12 (by decide)).1 rfl ⟨by omega, by omega⟩ (by decide) (x := T 32 0 (z).toNat) (by simp [up, zrT]) dX4_buys_146 ?_
      refine lv_dup2_11 hM.1 hM.2.1 dX4_buys_147 rfl rfl ?_
      refine y_lald hM hC (hMI.2 22 (by decide)).1 rfl ⟨by omega, by omega⟩ (by decide) (x := T 42 0 (T 32 0 (z).toNat).toNat) (by simp [up, zrT]) dX4_buys_148 ?_
      refine y_lload hM hl 2 rfl dX4_buys_149 ?_
      refine y_lload hM hl 0 rfl dX4_buys_151 ?_
      refine y_lsub hM dX4_buys_153 ?_
      refine y_ladd hM dX4_buys_154 ?_
      refine y_last hM hC (hMI.2 22 (by decide)).1 (fun _ _ => rfl) ⟨by omega, by omega⟩ (by decide) dX4_buys_155 (fun H locs hC => ?_)
      refine y_aload_n hM hl 6 rfl rfl dX4_buys_156 ?_
      refine y_get hM hC hMI.1 rfl rfl (by decide +kernel) 20 ⟨by decide, rfl, rfl, rfl⟩ (by decide +kernel) (congrArg (fun q => some (va_rf q)) (hMI.2 20 (by decide)).2) dX4_buys_157 ?_
      refine W.eq (g2 := F0 m 160 ls [.ref (ad 40 0)]) rfl ?_
      refine y_iload_n hM hl 7 rfl rfl dX4_buys_160 ?_
      refine y_lload hM hl 3 rfl dX4_buys_161 ?_
      refine y_last hM hC (hMI.2 20 (by decide)).1 (fun _ _ => rfl) ⟨by omega, by omega⟩ (by decide) dX4_buys_163 (fun H locs hC => ?_)
      refine y_aload_n hM hl 6 rfl rfl dX4_buys_164 ?_
      refine y_get hM hC hMI.1 rfl rfl (by decide +kernel) 8 ⟨by decide, rfl, rfl, rfl⟩ (by decide +kernel) (congrArg (fun q => some (va_rf q)) (hMI.2 8 (by decide)).2) dX4_buys_165 ?_
      refine W.eq (g2 := F0 m 168 ls [.ref (ad 28 0)]) rfl ?_
      refine y_iload hM hl 5 rfl dX4_buys_168 ?_
      refine y_lload hM hl 4 rfl dX4_buys_170 ?_
      refine y_lload hM hl 3 rfl dX4_buys_172 ?_
      refine y_ladd hM dX4_buys_174 ?_
      refine y_last hM hC (hMI.2 8 (by decide)).1 (fun _ _ => rfl) ⟨by omega, by omega⟩ (by decide) dX4_buys_175 (fun H locs hC => ?_)
      refine y_aload_n hM hl 6 rfl rfl dX4_buys_176 ?_
      refine y_get hM hC hMI.1 rfl rfl (by decide +kernel) 7 ⟨by decide, rfl, rfl, rfl⟩ (by decide +kernel) (congrArg (fun q => some (va_rf q)) (hMI.2 7 (by decide)).2) dX4_buys_177 ?_
      refine W.eq (g2 := F0 m 180 ls [.ref (ad 27 0)]) rfl ?_
      refine y_iload hM hl 5 rfl dX4_buys_180 ?_
      refine y_aload_n hM hl 6 rfl rfl dX4_buys_182 ?_
      refine y_get hM hC hMI.1 rfl rfl (by decide +kernel) 12 ⟨by decide, rfl, rfl, rfl⟩ (by decide +kernel) (congrArg (fun q => some (va_rf q)) (hMI.2 12 (by decide)).2) dX4_buys_183 ?_
      refine W.eq (g2 := F0 m 186 ls [.ref (ad 32 0), .int (iI (T 31 0 (z).toNat)), .ref (ad 27 0)]) rfl ?_
      refine y_iload_n hM hl 7 rfl rfl dX4_buys_186 ?_
      refine y_iald hM hC (hMI.2 12 (by decide)).1 rfl ⟨by omega, by omega⟩ (by decide) (x := T 32 0 (z).toNat) (by simp [up, zrT]) dX4_buys_187 ?_
      refine y_iast hM hC (hMI.2 7 (by decide)).1 (fun _ _ => rfl) ⟨by omega, by omega⟩ (by decide) dX4_buys_188 (fun H locs hC => ?_)
      refine y_aload_n hM hl 6 rfl rfl dX4_buys_189 ?_
      refine y_get hM hC hMI.1 rfl rfl (by decide +kernel) 9 ⟨by decide, rfl, rfl, rfl⟩ (by decide +kernel) (congrArg (fun q => some (va_rf q)) (hMI.2 9 (by decide)).2) dX4_buys_190 ?_
      refine W.eq (g2 := F0 m 193 ls [.ref (ad 29 0)]) rfl ?_
      refine y_iload hM hl 5 rfl dX4_buys_193 ?_
      refine y_iconst hM dX4_buys_195 ?_
      refine y_zast hM hC (hMI.2 9 (by decide)).1 (fun _ _ => rfl) (by decide) ⟨by omega, by omega⟩ (by decide) dX4_buys_196 (fun H locs hC => ?_)
      exact y_vret hM hr hlk hC ⟨rfl, trivial, (by unfold mbuy; rw [← hsh, ← hco2, ← hla, ← hg])⟩ (Nat.le_of_ble_eq_true rfl) (Nat.le_of_ble_eq_true rfl) dX4_buys_197
    ·
      refine y_lconst hM 0 (by decide) dX4_buys_91 ?_
      refine lv_goto (tgt := 109) hM.1 hM.2.1 dX4_buys_92 (by decide) ?_
      refine lv_lstore (lv' := [(12, .long (lI (0))), (11, .int (iI ((T 37 0 (z).toNat) + (lb)))), (9, .long (lI (co))), (7, .long (lI (0))), (5, .long (lI (r_15))), (4, .int (iI (T 31 0 (z).toNat))), (0, .ref (ad 12 0)), (1, .int (iI (z))), (2, .int (iI (pr))), (3, .int (iI (lb)))]) hM.1 hM.2.1 dX4_buys_109 hl (by decide) rfl (fun ls hl => ?_)
      have hsh0 : sh = 0 := by
        rw [hsh]
        unfold msha
        rw [if_pos (by omega)]
      subst hsh0
      refine y_aload_n hM hl 6 rfl rfl dX4_buys_111 ?_
      refine y_get hM hC hMI.1 rfl rfl (by decide +kernel) 21 ⟨by decide, rfl, rfl, rfl⟩ (by decide +kernel) (congrArg (fun q => some (va_rf q)) (hMI.2 21 (by decide)).2) dX4_buys_112 ?_
      refine W.eq (g2 := F0 m 115 ls [.ref (ad 41 0)]) rfl ?_
      refine y_iconst hM dX4_buys_115 ?_
      refine y_aload_n hM hl 6 rfl rfl dX4_buys_116 ?_
      refine y_get hM hC hMI.1 rfl rfl (by decide +kernel) 7 ⟨by decide, rfl, rfl, rfl⟩ (by decide +kernel) (congrArg (fun q => some (va_rf q)) (hMI.2 7 (by decide)).2) dX4_buys_117 ?_
      refine W.eq (g2 := F0 m 120 ls [.ref (ad 27 0), .int (iI (5)), .ref (ad 41 0)]) rfl ?_
      refine y_iload hM hl 5 rfl dX4_buys_120 ?_
      refine y_iald hM hC (hMI.2 7 (by decide)).1 rfl ⟨by omega, by omega⟩ (by decide) (x := T 27 0 (T 31 0 (z).toNat).toNat) rfl dX4_buys_122 ?_
      refine y_imul hM dX4_buys_123 ?_
      refine y_aload_n hM hl 6 rfl rfl dX4_buys_124 ?_
      refine y_get hM hC hMI.1 rfl rfl (by decide +kernel) 12 ⟨by decide, rfl, rfl, rfl⟩ (by decide +kernel) (congrArg (fun q => some (va_rf q)) (hMI.2 12 (by decide)).2) dX4_buys_125 ?_
      refine W.eq (g2 := F0 m 128 ls [.ref (ad 32 0), .int (iI ((5) * (T 27 0 (T 31 0 (z).toNat).toNat))), .ref (ad 41 0)]) rfl ?_
      refine y_iload_n hM hl 7 rfl rfl dX4_buys_128 ?_
      refine y_iald hM hC (hMI.2 12 (by decide)).1 rfl ⟨by omega, by omega⟩ (by decide) (x := T 32 0 (z).toNat) rfl dX4_buys_129 ?_
      refine y_iadd hM dX4_buys_130 ?_
      refine lv_dup2_11 hM.1 hM.2.1 dX4_buys_131 rfl rfl ?_
      refine y_lald hM hC (hMI.2 21 (by decide)).1 rfl ⟨by omega, by omega⟩ (by decide) (x := T 41 0 (((5) * (T 27 0 (T 31 0 (z).toNat).toNat)) + (T 32 0 (z).toNat)).toNat) rfl dX4_buys_132 ?_
      refine y_lload hM hl 0 rfl dX4_buys_133 ?_
      refine y_ladd hM dX4_buys_135 ?_
      refine y_last hM hC (hMI.2 21 (by decide)).1 (fun _ _ => rfl) ⟨by omega, by omega⟩ (by decide) dX4_buys_136 (fun H locs hC => ?_)
      refine y_aload_n hM hl 6 rfl rfl dX4_buys_137 ?_
      refine y_get hM hC hMI.1 rfl rfl (by decide +kernel) 22 ⟨by decide, rfl, rfl, rfl⟩ (by decide +kernel) (congrArg (fun q => some (va_rf q)) (hMI.2 22 (by decide)).2) dX4_buys_138 ?_
      refine W.eq (g2 := F0 m 141 ls [.ref (ad 42 0)]) rfl ?_
      refine y_aload_n hM hl 6 rfl rfl dX4_buys_141 ?_
      refine y_get hM hC hMI.1 rfl rfl (by decide +kernel) 12 ⟨by decide, rfl, rfl, rfl⟩ (by decide +kernel) (congrArg (fun q => some (va_rf q)) (hMI.2 12 (by decide)).2) dX4_buys_142 ?_
      refine W.eq (g2 := F0 m 145 ls [.ref (ad 32 0), .ref (ad 42 0)]) rfl ?_
      refine y_iload_n hM hl 7 rfl rfl dX4_buys_145 ?_
      refine y_iald hM hC (hMI.2 12 (by decide)).1 rfl ⟨by omega, by omega⟩ (by decide) (x := T 32 0 (z).toNat) (by simp [up, zrT]) dX4_buys_146 ?_
      refine lv_dup2_11 hM.1 hM.2.1 dX4_buys_147 rfl rfl ?_
      refine y_lald hM hC (hMI.2 22 (by decide)).1 rfl ⟨by omega, by omega⟩ (by decide) (x := T 42 0 (T 32 0 (z).toNat).toNat) (by simp [up, zrT]) dX4_buys_148 ?_
      refine y_lload hM hl 2 rfl dX4_buys_149 ?_
      refine y_lload hM hl 0 rfl dX4_buys_151 ?_
      refine y_lsub hM dX4_buys_153 ?_
      refine y_ladd hM dX4_buys_154 ?_
      refine y_last hM hC (hMI.2 22 (by decide)).1 (fun _ _ => rfl) ⟨by omega, by omega⟩ (by decide) dX4_buys_155 (fun H locs hC => ?_)
      refine y_aload_n hM hl 6 rfl rfl dX4_buys_156 ?_
      refine y_get hM hC hMI.1 rfl rfl (by decide +kernel) 20 ⟨by decide, rfl, rfl, rfl⟩ (by decide +kernel) (congrArg (fun q => some (va_rf q)) (hMI.2 20 (by decide)).2) dX4_buys_157 ?_
      refine W.eq (g2 := F0 m 160 ls [.ref (ad 40 0)]) rfl ?_
      refine y_iload_n hM hl 7 rfl rfl dX4_buys_160 ?_
      refine y_lload hM hl 3 rfl dX4_buys_161 ?_
      refine y_last hM hC (hMI.2 20 (by decide)).1 (fun _ _ => rfl) ⟨by omega, by omega⟩ (by decide) dX4_buys_163 (fun H locs hC => ?_)
      refine y_aload_n hM hl 6 rfl rfl dX4_buys_164 ?_
      refine y_get hM hC hMI.1 rfl rfl (by decide +kernel) 8 ⟨by decide, rfl, rfl, rfl⟩ (by decide +kernel) (congrArg (fun q => some (va_rf q)) (hMI.2 8 (by decide)).2) dX4_buys_165 ?_
      refine W.eq (g2 := F0 m 168 ls [.ref (ad 28 0)]) rfl ?_
      refine y_iload hM hl 5 rfl dX4_buys_168 ?_
      refine y_lload hM hl 4 rfl dX4_buys_170 ?_
      refine y_lload hM hl 3 rfl dX4_buys_172 ?_
      refine y_ladd hM dX4_buys_174 ?_
      refine y_last hM hC (hMI.2 8 (by decide)).1 (fun _ _ => rfl) ⟨by omega, by omega⟩ (by decide) dX4_buys_175 (fun H locs hC => ?_)
      refine y_aload_n hM hl 6 rfl rfl dX4_buys_176 ?_
      refine y_get hM hC hMI.1 rfl rfl (by decide +kernel) 7 ⟨by decide, rfl, rfl, rfl⟩ (by decide +kernel) (congrArg (fun q => some (va_rf q)) (hMI.2 7 (by decide)).2) dX4_buys_177 ?_
      refine W.eq (g2 := F0 m 180 ls [.ref (ad 27 0)]) rfl ?_
      refine y_iload hM hl 5 rfl dX4_buys_180 ?_
      refine y_aload_n hM hl 6 rfl rfl dX4_buys_182 ?_
      refine y_get hM hC hMI.1 rfl rfl (by decide +kernel) 12 ⟨by decide, rfl, rfl, rfl⟩ (by decide +kernel) (congrArg (fun q => some (va_rf q)) (hMI.2 12 (by decide)).2) dX4_buys_183 ?_
      refine W.eq (g2 := F0 m 186 ls [.ref (ad 32 0), .int (iI (T 31 0 (z).toNat)), .ref (ad 27 0)]) rfl ?_
      refine y_iload_n hM hl 7 rfl rfl dX4_buys_186 ?_
      refine y_iald hM hC (hMI.2 12 (by decide)).1 rfl ⟨by omega, by omega⟩ (by decide) (x := T 32 0 (z).toNat) (by simp [up, zrT]) dX4_buys_187 ?_
      refine y_iast hM hC (hMI.2 7 (by decide)).1 (fun _ _ => rfl) ⟨by omega, by omega⟩ (by decide) dX4_buys_188 (fun H locs hC => ?_)
      refine y_aload_n hM hl 6 rfl rfl dX4_buys_189 ?_
      refine y_get hM hC hMI.1 rfl rfl (by decide +kernel) 9 ⟨by decide, rfl, rfl, rfl⟩ (by decide +kernel) (congrArg (fun q => some (va_rf q)) (hMI.2 9 (by decide)).2) dX4_buys_190 ?_
      refine W.eq (g2 := F0 m 193 ls [.ref (ad 29 0)]) rfl ?_
      refine y_iload hM hl 5 rfl dX4_buys_193 ?_
      refine y_iconst hM dX4_buys_195 ?_
      refine y_zast hM hC (hMI.2 9 (by decide)).1 (fun _ _ => rfl) (by decide) ⟨by omega, by omega⟩ (by decide) dX4_buys_196 (fun H locs hC => ?_)
      exact y_vret hM hr hlk hC ⟨rfl, trivial, (by unfold mbuy; rw [← hsh, ← hco2, ← hla, ← hg])⟩ (Nat.le_of_ble_eq_true rfl) (Nat.le_of_ble_eq_true rfl) dX4_buys_197
  ·
    refine y_lload hM hl 0 rfl dX4_buys_38 ?_
    refine lv_goto (tgt := 44) hM.1 hM.2.1 dX4_buys_40 (by decide) ?_
    refine lv_lstore (lv' := [(7, .long (lI ((r_23) - (r_15)))), (5, .long (lI (r_15))), (4, .int (iI (T 31 0 (z).toNat))), (0, .ref (ad 12 0)), (1, .int (iI (z))), (2, .int (iI (pr))), (3, .int (iI (lb)))]) hM.1 hM.2.1 dX4_buys_44 hl (by decide) rfl (fun ls hl => ?_)
    have hla1 : (r_23) - (r_15) = la := by
      rw [hla]
      unfold mlak
      rw [if_pos (by omega)]
      omega
    rw [hla1] at hl
    refine y_lload hM hl 0 rfl dX4_buys_46 ?_
    refine y_aload_n hM hl 3 rfl rfl dX4_buys_48 ?_
    refine y_aload_n hM hl 3 rfl rfl dX4_buys_49 ?_
    refine y_get hM hC hMI.1 rfl rfl (by decide +kernel) 12 ⟨by decide, rfl, rfl, rfl⟩ (by decide +kernel) (congrArg (fun q => some (va_rf q)) (hMI.2 12 (by decide)).2) dX4_buys_50 ?_
    refine W.eq (g2 := F0 m 53 ls [.ref (ad 32 0), .ref (ad 12 0), .long (lI (la))]) rfl ?_
    refine y_iload_n hM hl 4 rfl rfl dX4_buys_53 ?_
    refine y_iald hM hC (hMI.2 12 (by decide)).1 rfl ⟨by omega, by omega⟩ (by decide) (x := T 32 0 (z).toNat) rfl dX4_buys_54 ?_
    refine y_aload_n hM hl 3 rfl rfl dX4_buys_55 ?_
    refine y_get hM hC hMI.1 rfl rfl (by decide +kernel) 1 ⟨by decide, rfl, rfl, rfl⟩ (by decide +kernel) rfl dX4_buys_56 ?_
    refine y_callV hM hC (c_priceOf l hfl G b0 ks ad T P (T 32 0 (z).toNat) (T 12 0 1) ⟨by omega, by omega⟩ ⟨by omega, by omega⟩ hMI) (cwV 2 hM.2.2.2.2 gX4_buys_X4_priceOf rfl rfl rfl (by decide +kernel) ⟨(Nat.le_of_ble_eq_true rfl), (Nat.le_of_ble_eq_true rfl)⟩) (y_recv hC hMI.1 rfl rfl) rfl hl.1 rfl (Nat.le_of_ble_eq_true rfl) dX4_buys_59 ⟨(Nat.le_of_ble_eq_true rfl), (Nat.le_of_ble_eq_true rfl)⟩ (fun E ce q9 u1 H locs hx hC hce hcv hcl => hx.elim) (fun v u1 H locs hp hC => ?_)
    obtain ⟨r_59, rfl, h_59, hu⟩ := hp; rw [hu] at hC; clear hu
    try dsimp only at h_59
    refine W.eq (g2 := F0 m 62 ls [.int (iI (r_59)), .long (lI (la))]) rfl ?_
    have hv_59 := mpv (T 32 0 z.toNat) (T 12 0 1) (by omega) (by omega) (by omega) (by omega)
    rw [← h_59] at hv_59
    have hq1 : 0 ≤ la * r_59 := Int.mul_nonneg (by omega) (by omega)
    have hq2 : la * r_59 ≤ 10000000000 * 10000 := Int.mul_le_mul (by omega) (by omega) (by omega) (by omega)
    refine y_i2l hM (by constructor <;> omega) dX4_buys_62 ?_
    refine y_lmul hM dX4_buys_63 ?_
    refine y_ldc2 hM (v := 1000) (1000) (by decide) (by decide +kernel) dX4_buys_64 ?_
    refine y_ladd hM dX4_buys_67 ?_
    refine y_lconst hM 1 (by decide) dX4_buys_68 ?_
    refine y_lsub hM dX4_buys_69 ?_
    refine y_ldc2 hM (v := 1000) (1000) (by decide) (by decide +kernel) dX4_buys_70 ?_
    refine y_ldiv hM ⟨by omega, by omega, by omega, by omega⟩ dX4_buys_73 ?_
    refine lv_lstore (lv' := [(9, .long (lI (((((la) * (r_59)) + (1000)) - (1)) / (1000)))), (7, .long (lI (la))), (5, .long (lI (r_15))), (4, .int (iI (T 31 0 (z).toNat))), (0, .ref (ad 12 0)), (1, .int (iI (z))), (2, .int (iI (pr))), (3, .int (iI (lb)))]) hM.1 hM.2.1 dX4_buys_74 hl (by decide) rfl (fun ls hl => ?_)
    obtain ⟨co, hco⟩ : ∃ co : Int, co = coF (la) r_59 := ⟨_, rfl⟩
    have hco1 : ((((la) * (r_59)) + (1000)) - (1)) / (1000) = co := hco.symm
    rw [hco1] at hl
    have hco2 : co = mcos T z pr lb := by
      rw [hco, hla, h_59]
      rfl
    have hco3 : 0 ≤ co ∧ co ≤ 110000000000 := by
      rw [← hco1]
      omega
    have hco4 : 0 ≤ co * T 36 0 z.toNat := Int.mul_nonneg (by omega) (by omega)
    have hco5 : co * T 36 0 z.toNat ≤ 110000000000 * 2000 := Int.mul_le_mul (by omega) (by omega) (by omega) (by omega)
    obtain ⟨sh, hsh⟩ : ∃ sh : Int, sh = msha T z pr lb := ⟨_, rfl⟩
    refine y_aload_n hM hl 4 rfl rfl dX4_buys_76 ?_
    refine y_get hM hC hMI.1 rfl rfl (by decide +kernel) 17 ⟨by decide, rfl, rfl, rfl⟩ (by decide +kernel) (congrArg (fun q => some (va_rf q)) (hMI.2 17 (by decide)).2) dX4_buys_77 ?_
    refine W.eq (g2 := F0 m 80 ls [.ref (ad 37 0)]) rfl ?_
    refine y_iload_n hM hl 5 rfl rfl dX4_buys_80 ?_
    refine y_iald hM hC (hMI.2 17 (by decide)).1 rfl ⟨by omega, by omega⟩ (by decide) (x := T 37 0 (z).toNat) rfl dX4_buys_81 ?_
    refine y_iload_n hM hl 7 rfl rfl dX4_buys_82 ?_
    refine y_iadd hM dX4_buys_83 ?_
    refine lv_istore (lv' := [(11, .int (iI ((T 37 0 (z).toNat) + (lb)))), (9, .long (lI (co))), (7, .long (lI (la))), (5, .long (lI (r_15))), (4, .int (iI (T 31 0 (z).toNat))), (0, .ref (ad 12 0)), (1, .int (iI (z))), (2, .int (iI (pr))), (3, .int (iI (lb)))]) hM.1 hM.2.1 dX4_buys_84 hl (by decide) rfl (fun ls hl => ?_)
    refine y_iload hM hl 0 rfl dX4_buys_86 ?_
    refine y_if_ne hM (by constructor <;> omega) (tgt := 95) dX4_buys_88 (by decide) (fun c_88 => ?_) (fun c_88 => ?_)
    ·
      refine y_lload hM hl 1 rfl dX4_buys_95 ?_
      refine y_aload_n hM hl 5 rfl rfl dX4_buys_97 ?_
      refine y_get hM hC hMI.1 rfl rfl (by decide +kernel) 16 ⟨by decide, rfl, rfl, rfl⟩ (by decide +kernel) (congrArg (fun q => some (va_rf q)) (hMI.2 16 (by decide)).2) dX4_buys_98 ?_
      refine W.eq (g2 := F0 m 101 ls [.ref (ad 36 0), .long (lI (co))]) rfl ?_
      refine y_iload_n hM hl 6 rfl rfl dX4_buys_101 ?_
      refine y_iald hM hC (hMI.2 16 (by decide)).1 rfl ⟨by omega, by omega⟩ (by decide) (x := T 36 0 (z).toNat) rfl dX4_buys_102 ?_
      refine y_i2l hM (by constructor <;> omega) dX4_buys_103 ?_
      refine y_lmul hM dX4_buys_104 ?_
      refine y_iload hM hl 0 rfl dX4_buys_105 ?_
      refine y_i2l hM (by constructor <;> omega) dX4_buys_107 ?_
      refine y_ldiv hM ⟨by omega, by omega, by omega, by omega⟩ dX4_buys_108 ?_
      refine lv_lstore (lv' := [(12, .long (lI (((co) * (T 36 0 (z).toNat)) / ((T 37 0 (z).toNat) + (lb))))), (11, .int (iI ((T 37 0 (z).toNat) + (lb)))), (9, .long (lI (co))), (7, .long (lI (la))), (5, .long (lI (r_15))), (4, .int (iI (T 31 0 (z).toNat))), (0, .ref (ad 12 0)), (1, .int (iI (z))), (2, .int (iI (pr))), (3, .int (iI (lb)))]) hM.1 hM.2.1 dX4_buys_109 hl (by decide) rfl (fun ls hl => ?_)
      have hsh1 : ((co) * (T 36 0 z.toNat)) / ((T 37 0 z.toNat) + (lb)) = sh := by
        rw [hsh]
        unfold msha
        rw [if_neg (by omega), ← hco2]
      rw [hsh1] at hl
      refine y_aload_n hM hl 6 rfl rfl dX4_buys_111 ?_
      refine y_get hM hC hMI.1 rfl rfl (by decide +kernel) 21 ⟨by decide, rfl, rfl, rfl⟩ (by decide +kernel) (congrArg (fun q => some (va_rf q)) (hMI.2 21 (by decide)).2) dX4_buys_112 ?_
      refine W.eq (g2 := F0 m 115 ls [.ref (ad 41 0)]) rfl ?_
      refine y_iconst hM dX4_buys_115 ?_
      refine y_aload_n hM hl 6 rfl rfl dX4_buys_116 ?_
      refine y_get hM hC hMI.1 rfl rfl (by decide +kernel) 7 ⟨by decide, rfl, rfl, rfl⟩ (by decide +kernel) (congrArg (fun q => some (va_rf q)) (hMI.2 7 (by decide)).2) dX4_buys_117 ?_
      refine W.eq (g2 := F0 m 120 ls [.ref (ad 27 0), .int (iI (5)), .ref (ad 41 0)]) rfl ?_
      refine y_iload hM hl 5 rfl dX4_buys_120 ?_
      refine y_iald hM hC (hMI.2 7 (by decide)).1 rfl ⟨by omega, by omega⟩ (by decide) (x := T 27 0 (T 31 0 (z).toNat).toNat) rfl dX4_buys_122 ?_
      refine y_imul hM dX4_buys_123 ?_
      refine y_aload_n hM hl 6 rfl rfl dX4_buys_124 ?_
      refine y_get hM hC hMI.1 rfl rfl (by decide +kernel) 12 ⟨by decide, rfl, rfl, rfl⟩ (by decide +kernel) (congrArg (fun q => some (va_rf q)) (hMI.2 12 (by decide)).2) dX4_buys_125 ?_
      refine W.eq (g2 := F0 m 128 ls [.ref (ad 32 0), .int (iI ((5) * (T 27 0 (T 31 0 (z).toNat).toNat))), .ref (ad 41 0)]) rfl ?_
      refine y_iload_n hM hl 7 rfl rfl dX4_buys_128 ?_
      refine y_iald hM hC (hMI.2 12 (by decide)).1 rfl ⟨by omega, by omega⟩ (by decide) (x := T 32 0 (z).toNat) rfl dX4_buys_129 ?_
      refine y_iadd hM dX4_buys_130 ?_
      refine lv_dup2_11 hM.1 hM.2.1 dX4_buys_131 rfl rfl ?_
      refine y_lald hM hC (hMI.2 21 (by decide)).1 rfl ⟨by omega, by omega⟩ (by decide) (x := T 41 0 (((5) * (T 27 0 (T 31 0 (z).toNat).toNat)) + (T 32 0 (z).toNat)).toNat) rfl dX4_buys_132 ?_
      refine y_lload hM hl 0 rfl dX4_buys_133 ?_
      refine y_ladd hM dX4_buys_135 ?_
      refine y_last hM hC (hMI.2 21 (by decide)).1 (fun _ _ => rfl) ⟨by omega, by omega⟩ (by decide) dX4_buys_136 (fun H locs hC => ?_)
      refine y_aload_n hM hl 6 rfl rfl dX4_buys_137 ?_
      refine y_get hM hC hMI.1 rfl rfl (by decide +kernel) 22 ⟨by decide, rfl, rfl, rfl⟩ (by decide +kernel) (congrArg (fun q => some (va_rf q)) (hMI.2 22 (by decide)).2) dX4_buys_138 ?_
      refine W.eq (g2 := F0 m 141 ls [.ref (ad 42 0)]) rfl ?_
      refine y_aload_n hM hl 6 rfl rfl dX4_buys_141 ?_
      refine y_get hM hC hMI.1 rfl rfl (by decide +kernel) 12 ⟨by decide, rfl, rfl, rfl⟩ (by decide +kernel) (congrArg (fun q => some (va_rf q)) (hMI.2 12 (by decide)).2) dX4_buys_142 ?_
      refine W.eq (g2 := F0 m 145 ls [.ref (ad 32 0), .ref (ad 42 0)]) rfl ?_
      refine y_iload_n hM hl 7 rfl rfl dX4_buys_145 ?_
      refine y_iald hM hC (hMI.2 12 (by decide)).1 rfl ⟨by omega, by omega⟩ (by decide) (x := T 32 0 (z).toNat) (by simp [up, zrT]) dX4_buys_146 ?_
      refine lv_dup2_11 hM.1 hM.2.1 dX4_buys_147 rfl rfl ?_
      refine y_lald hM hC (hMI.2 22 (by decide)).1 rfl ⟨by omega, by omega⟩ (by decide) (x := T 42 0 (T 32 0 (z).toNat).toNat) (by simp [up, zrT]) dX4_buys_148 ?_
      refine y_lload hM hl 2 rfl dX4_buys_149 ?_
      refine y_lload hM hl 0 rfl dX4_buys_151 ?_
      refine y_lsub hM dX4_buys_153 ?_
      refine y_ladd hM dX4_buys_154 ?_
      refine y_last hM hC (hMI.2 22 (by decide)).1 (fun _ _ => rfl) ⟨by omega, by omega⟩ (by decide) dX4_buys_155 (fun H locs hC => ?_)
      refine y_aload_n hM hl 6 rfl rfl dX4_buys_156 ?_
      refine y_get hM hC hMI.1 rfl rfl (by decide +kernel) 20 ⟨by decide, rfl, rfl, rfl⟩ (by decide +kernel) (congrArg (fun q => some (va_rf q)) (hMI.2 20 (by decide)).2) dX4_buys_157 ?_
      refine W.eq (g2 := F0 m 160 ls [.ref (ad 40 0)]) rfl ?_
      refine y_iload_n hM hl 7 rfl rfl dX4_buys_160 ?_
      refine y_lload hM hl 3 rfl dX4_buys_161 ?_
      refine y_last hM hC (hMI.2 20 (by decide)).1 (fun _ _ => rfl) ⟨by omega, by omega⟩ (by decide) dX4_buys_163 (fun H locs hC => ?_)
      refine y_aload_n hM hl 6 rfl rfl dX4_buys_164 ?_
      refine y_get hM hC hMI.1 rfl rfl (by decide +kernel) 8 ⟨by decide, rfl, rfl, rfl⟩ (by decide +kernel) (congrArg (fun q => some (va_rf q)) (hMI.2 8 (by decide)).2) dX4_buys_165 ?_
      refine W.eq (g2 := F0 m 168 ls [.ref (ad 28 0)]) rfl ?_
      refine y_iload hM hl 5 rfl dX4_buys_168 ?_
      refine y_lload hM hl 4 rfl dX4_buys_170 ?_
      refine y_lload hM hl 3 rfl dX4_buys_172 ?_
      refine y_ladd hM dX4_buys_174 ?_
      refine y_last hM hC (hMI.2 8 (by decide)).1 (fun _ _ => rfl) ⟨by omega, by omega⟩ (by decide) dX4_buys_175 (fun H locs hC => ?_)
      refine y_aload_n hM hl 6 rfl rfl dX4_buys_176 ?_
      refine y_get hM hC hMI.1 rfl rfl (by decide +kernel) 7 ⟨by decide, rfl, rfl, rfl⟩ (by decide +kernel) (congrArg (fun q => some (va_rf q)) (hMI.2 7 (by decide)).2) dX4_buys_177 ?_
      refine W.eq (g2 := F0 m 180 ls [.ref (ad 27 0)]) rfl ?_
      refine y_iload hM hl 5 rfl dX4_buys_180 ?_
      refine y_aload_n hM hl 6 rfl rfl dX4_buys_182 ?_
      refine y_get hM hC hMI.1 rfl rfl (by decide +kernel) 12 ⟨by decide, rfl, rfl, rfl⟩ (by decide +kernel) (congrArg (fun q => some (va_rf q)) (hMI.2 12 (by decide)).2) dX4_buys_183 ?_
      refine W.eq (g2 := F0 m 186 ls [.ref (ad 32 0), .int (iI (T 31 0 (z).toNat)), .ref (ad 27 0)]) rfl ?_
      refine y_iload_n hM hl 7 rfl rfl dX4_buys_186 ?_
      refine y_iald hM hC (hMI.2 12 (by decide)).1 rfl ⟨by omega, by omega⟩ (by decide) (x := T 32 0 (z).toNat) (by simp [up, zrT]) dX4_buys_187 ?_
      refine y_iast hM hC (hMI.2 7 (by decide)).1 (fun _ _ => rfl) ⟨by omega, by omega⟩ (by decide) dX4_buys_188 (fun H locs hC => ?_)
      refine y_aload_n hM hl 6 rfl rfl dX4_buys_189 ?_
      refine y_get hM hC hMI.1 rfl rfl (by decide +kernel) 9 ⟨by decide, rfl, rfl, rfl⟩ (by decide +kernel) (congrArg (fun q => some (va_rf q)) (hMI.2 9 (by decide)).2) dX4_buys_190 ?_
      refine W.eq (g2 := F0 m 193 ls [.ref (ad 29 0)]) rfl ?_
      refine y_iload hM hl 5 rfl dX4_buys_193 ?_
      refine y_iconst hM dX4_buys_195 ?_
      refine y_zast hM hC (hMI.2 9 (by decide)).1 (fun _ _ => rfl) (by decide) ⟨by omega, by omega⟩ (by decide) dX4_buys_196 (fun H locs hC => ?_)
      exact y_vret hM hr hlk hC ⟨rfl, trivial, (by unfold mbuy; rw [← hsh, ← hco2, ← hla, ← hg])⟩ (Nat.le_of_ble_eq_true rfl) (Nat.le_of_ble_eq_true rfl) dX4_buys_197
    ·
      refine y_lconst hM 0 (by decide) dX4_buys_91 ?_
      refine lv_goto (tgt := 109) hM.1 hM.2.1 dX4_buys_92 (by decide) ?_
      refine lv_lstore (lv' := [(12, .long (lI (0))), (11, .int (iI ((T 37 0 (z).toNat) + (lb)))), (9, .long (lI (co))), (7, .long (lI (la))), (5, .long (lI (r_15))), (4, .int (iI (T 31 0 (z).toNat))), (0, .ref (ad 12 0)), (1, .int (iI (z))), (2, .int (iI (pr))), (3, .int (iI (lb)))]) hM.1 hM.2.1 dX4_buys_109 hl (by decide) rfl (fun ls hl => ?_)
      have hsh0 : sh = 0 := by
        rw [hsh]
        unfold msha
        rw [if_pos (by omega)]
      subst hsh0
      refine y_aload_n hM hl 6 rfl rfl dX4_buys_111 ?_
      refine y_get hM hC hMI.1 rfl rfl (by decide +kernel) 21 ⟨by decide, rfl, rfl, rfl⟩ (by decide +kernel) (congrArg (fun q => some (va_rf q)) (hMI.2 21 (by decide)).2) dX4_buys_112 ?_
      refine W.eq (g2 := F0 m 115 ls [.ref (ad 41 0)]) rfl ?_
      refine y_iconst hM dX4_buys_115 ?_
      refine y_aload_n hM hl 6 rfl rfl dX4_buys_116 ?_
      refine y_get hM hC hMI.1 rfl rfl (by decide +kernel) 7 ⟨by decide, rfl, rfl, rfl⟩ (by decide +kernel) (congrArg (fun q => some (va_rf q)) (hMI.2 7 (by decide)).2) dX4_buys_117 ?_
      refine W.eq (g2 := F0 m 120 ls [.ref (ad 27 0), .int (iI (5)), .ref (ad 41 0)]) rfl ?_
      refine y_iload hM hl 5 rfl dX4_buys_120 ?_
      refine y_iald hM hC (hMI.2 7 (by decide)).1 rfl ⟨by omega, by omega⟩ (by decide) (x := T 27 0 (T 31 0 (z).toNat).toNat) rfl dX4_buys_122 ?_
      refine y_imul hM dX4_buys_123 ?_
      refine y_aload_n hM hl 6 rfl rfl dX4_buys_124 ?_
      refine y_get hM hC hMI.1 rfl rfl (by decide +kernel) 12 ⟨by decide, rfl, rfl, rfl⟩ (by decide +kernel) (congrArg (fun q => some (va_rf q)) (hMI.2 12 (by decide)).2) dX4_buys_125 ?_
      refine W.eq (g2 := F0 m 128 ls [.ref (ad 32 0), .int (iI ((5) * (T 27 0 (T 31 0 (z).toNat).toNat))), .ref (ad 41 0)]) rfl ?_
      refine y_iload_n hM hl 7 rfl rfl dX4_buys_128 ?_
      refine y_iald hM hC (hMI.2 12 (by decide)).1 rfl ⟨by omega, by omega⟩ (by decide) (x := T 32 0 (z).toNat) rfl dX4_buys_129 ?_
      refine y_iadd hM dX4_buys_130 ?_
      refine lv_dup2_11 hM.1 hM.2.1 dX4_buys_131 rfl rfl ?_
      refine y_lald hM hC (hMI.2 21 (by decide)).1 rfl ⟨by omega, by omega⟩ (by decide) (x := T 41 0 (((5) * (T 27 0 (T 31 0 (z).toNat).toNat)) + (T 32 0 (z).toNat)).toNat) rfl dX4_buys_132 ?_
      refine y_lload hM hl 0 rfl dX4_buys_133 ?_
      refine y_ladd hM dX4_buys_135 ?_
      refine y_last hM hC (hMI.2 21 (by decide)).1 (fun _ _ => rfl) ⟨by omega, by omega⟩ (by decide) dX4_buys_136 (fun H locs hC => ?_)
      refine y_aload_n hM hl 6 rfl rfl dX4_buys_137 ?_
      refine y_get hM hC hMI.1 rfl rfl (by decide +kernel) 22 ⟨by decide, rfl, rfl, rfl⟩ (by decide +kernel) (congrArg (fun q => some (va_rf q)) (hMI.2 22 (by decide)).2) dX4_buys_138 ?_
      refine W.eq (g2 := F0 m 141 ls [.ref (ad 42 0)]) rfl ?_
      refine y_aload_n hM hl 6 rfl rfl dX4_buys_141 ?_
      refine y_get hM hC hMI.1 rfl rfl (by decide +kernel) 12 ⟨by decide, rfl, rfl, rfl⟩ (by decide +kernel) (congrArg (fun q => some (va_rf q)) (hMI.2 12 (by decide)).2) dX4_buys_142 ?_
      refine W.eq (g2 := F0 m 145 ls [.ref (ad 32 0), .ref (ad 42 0)]) rfl ?_
      refine y_iload_n hM hl 7 rfl rfl dX4_buys_145 ?_
      refine y_iald hM hC (hMI.2 12 (by decide)).1 rfl ⟨by omega, by omega⟩ (by decide) (x := T 32 0 (z).toNat) (by simp [up, zrT]) dX4_buys_146 ?_
      refine lv_dup2_11 hM.1 hM.2.1 dX4_buys_147 rfl rfl ?_
      refine y_lald hM hC (hMI.2 22 (by decide)).1 rfl ⟨by omega, by omega⟩ (by decide) (x := T 42 0 (T 32 0 (z).toNat).toNat) (by simp [up, zrT]) dX4_buys_148 ?_
      refine y_lload hM hl 2 rfl dX4_buys_149 ?_
      refine y_lload hM hl 0 rfl dX4_buys_151 ?_
      refine y_lsub hM dX4_buys_153 ?_
      refine y_ladd hM dX4_buys_154 ?_
      refine y_last hM hC (hMI.2 22 (by decide)).1 (fun _ _ => rfl) ⟨by omega, by omega⟩ (by decide) dX4_buys_155 (fun H locs hC => ?_)
      refine y_aload_n hM hl 6 rfl rfl dX4_buys_156 ?_
      refine y_get hM hC hMI.1 rfl rfl (by decide +kernel) 20 ⟨by decide, rfl, rfl, rfl⟩ (by decide +kernel) (congrArg (fun q => some (va_rf q)) (hMI.2 20 (by decide)).2) dX4_buys_157 ?_
      refine W.eq (g2 := F0 m 160 ls [.ref (ad 40 0)]) rfl ?_
      refine y_iload_n hM hl 7 rfl rfl dX4_buys_160 ?_
      refine y_lload hM hl 3 rfl dX4_buys_161 ?_
      refine y_last hM hC (hMI.2 20 (by decide)).1 (fun _ _ => rfl) ⟨by omega, by omega⟩ (by decide) dX4_buys_163 (fun H locs hC => ?_)
      refine y_aload_n hM hl 6 rfl rfl dX4_buys_164 ?_
      refine y_get hM hC hMI.1 rfl rfl (by decide +kernel) 8 ⟨by decide, rfl, rfl, rfl⟩ (by decide +kernel) (congrArg (fun q => some (va_rf q)) (hMI.2 8 (by decide)).2) dX4_buys_165 ?_
      refine W.eq (g2 := F0 m 168 ls [.ref (ad 28 0)]) rfl ?_
      refine y_iload hM hl 5 rfl dX4_buys_168 ?_
      refine y_lload hM hl 4 rfl dX4_buys_170 ?_
      refine y_lload hM hl 3 rfl dX4_buys_172 ?_
      refine y_ladd hM dX4_buys_174 ?_
      refine y_last hM hC (hMI.2 8 (by decide)).1 (fun _ _ => rfl) ⟨by omega, by omega⟩ (by decide) dX4_buys_175 (fun H locs hC => ?_)
      refine y_aload_n hM hl 6 rfl rfl dX4_buys_176 ?_
      refine y_get hM hC hMI.1 rfl rfl (by decide +kernel) 7 ⟨by decide, rfl, rfl, rfl⟩ (by decide +kernel) (congrArg (fun q => some (va_rf q)) (hMI.2 7 (by decide)).2) dX4_buys_177 ?_
      refine W.eq (g2 := F0 m 180 ls [.ref (ad 27 0)]) rfl ?_
      refine y_iload hM hl 5 rfl dX4_buys_180 ?_
      refine y_aload_n hM hl 6 rfl rfl dX4_buys_182 ?_
      refine y_get hM hC hMI.1 rfl rfl (by decide +kernel) 12 ⟨by decide, rfl, rfl, rfl⟩ (by decide +kernel) (congrArg (fun q => some (va_rf q)) (hMI.2 12 (by decide)).2) dX4_buys_183 ?_
      refine W.eq (g2 := F0 m 186 ls [.ref (ad 32 0), .int (iI (T 31 0 (z).toNat)), .ref (ad 27 0)]) rfl ?_
      refine y_iload_n hM hl 7 rfl rfl dX4_buys_186 ?_
      refine y_iald hM hC (hMI.2 12 (by decide)).1 rfl ⟨by omega, by omega⟩ (by decide) (x := T 32 0 (z).toNat) (by simp [up, zrT]) dX4_buys_187 ?_
      refine y_iast hM hC (hMI.2 7 (by decide)).1 (fun _ _ => rfl) ⟨by omega, by omega⟩ (by decide) dX4_buys_188 (fun H locs hC => ?_)
      refine y_aload_n hM hl 6 rfl rfl dX4_buys_189 ?_
      refine y_get hM hC hMI.1 rfl rfl (by decide +kernel) 9 ⟨by decide, rfl, rfl, rfl⟩ (by decide +kernel) (congrArg (fun q => some (va_rf q)) (hMI.2 9 (by decide)).2) dX4_buys_190 ?_
      refine W.eq (g2 := F0 m 193 ls [.ref (ad 29 0)]) rfl ?_
      refine y_iload hM hl 5 rfl dX4_buys_193 ?_
      refine y_iconst hM dX4_buys_195 ?_
      refine y_zast hM hC (hMI.2 9 (by decide)).1 (fun _ _ => rfl) (by decide) ⟨by omega, by omega⟩ (by decide) dX4_buys_196 (fun H locs hC => ?_)
      exact y_vret hM hr hlk hC ⟨rfl, trivial, (by unfold mbuy; rw [← hsh, ← hco2, ← hla, ← hg])⟩ (Nat.le_of_ble_eq_true rfl) (Nat.le_of_ble_eq_true rfl) dX4_buys_197
