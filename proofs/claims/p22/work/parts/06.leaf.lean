set_option maxRecDepth 100000 in
set_option maxHeartbeats 8000000 in
theorem c_isOutside (l : Launch) (hfl : l.stackTraces = false) (G : GG) (b0 : Nat) (u : St) (v lo hi : Int) (h1 : inI v) (h2 : inI lo) (h3 : inI hi) : vx_Met l yX3_isOutside wsX3_isOutside (rmX 0 0 0 0) (va_Pc [.int (iI (v)), .int (iI (lo)), .int (iI (hi))] (Ok G b0 u)) (Qr (pI (fun r => (r = 0 ∧ lo ≤ v ∧ v ≤ hi) ∨ (r = 1 ∧ (v < lo ∨ hi < v))) u) G b0) (Xr (noX) G b0) 0 0 (Wx b0) := by
  refine vx_ofW (cc := cX3_isOutside) (maxL := 3) (ret := (some .boolean)) (by decide +kernel) rfl ?_
  intro p e s m args below meth c s₁ B hml hto hv
  obtain ⟨rfl, hok⟩ := hv
  have hM : CallFix p m c cX3_isOutside 3 s _ wsX3_isOutside RX3 := ⟨B.exec, B.bytes, hml, findClass_of_methodNamed B.named, atoms_spec (ws := wsX3_isOutside) B.pre⟩
  have hr := B.returns
  have hlk := B.notSynchronized
  have hC := hok.cur
  have hl := lv_entry ([.int (iI (v)), .int (iI (lo)), .int (iI (hi))]) (n := 3) (Nat.le_of_ble_eq_true rfl)
  rw [lg_entry_eq]
  generalize (lg_sl ([.int (iI (v)), .int (iI (lo)), .int (iI (hi))]) ++ List.replicate (3 - (lg_sl ([.int (iI (v)), .int (iI (lo)), .int (iI (hi))])).length) Slot.unset).toArray = ls at hl ⊢
  have hl : lv_has ls 3 [(0, .int (iI (v))), (1, .int (iI (lo))), (2, .int (iI (hi)))] := hl
  refine y_iload_n hM hl 0 rfl rfl dX3_isOutside_0 ?_
  refine y_iload_n hM hl 1 rfl rfl dX3_isOutside_1 ?_
  refine y_icmp_lt hM (by constructor <;> omega) (by constructor <;> omega) (tgt := 10) dX3_isOutside_2 (by decide) (fun c_2 => ?_) (fun c_2 => ?_)
  ·
    refine y_iconst hM dX3_isOutside_10 ?_
    refine lv_goto (tgt := 15) hM.1 hM.2.1 dX3_isOutside_11 (by decide) ?_
    exact y_zret hM hr hlk hC (by decide) ⟨_, rfl, (by (try dsimp only); omega), rfl⟩ (Nat.le_of_ble_eq_true rfl) (Nat.le_of_ble_eq_true rfl) dX3_isOutside_15
  ·
    refine y_iload_n hM hl 0 rfl rfl dX3_isOutside_5 ?_
    refine y_iload_n hM hl 2 rfl rfl dX3_isOutside_6 ?_
    refine y_icmp_le hM (by constructor <;> omega) (by constructor <;> omega) (tgt := 14) dX3_isOutside_7 (by decide) (fun c_7 => ?_) (fun c_7 => ?_)
    ·
      refine y_iconst hM dX3_isOutside_14 ?_
      exact y_zret hM hr hlk hC (by decide) ⟨_, rfl, (by (try dsimp only); omega), rfl⟩ (Nat.le_of_ble_eq_true rfl) (Nat.le_of_ble_eq_true rfl) dX3_isOutside_15
    ·
      refine y_iconst hM dX3_isOutside_10 ?_
      refine lv_goto (tgt := 15) hM.1 hM.2.1 dX3_isOutside_11 (by decide) ?_
      exact y_zret hM hr hlk hC (by decide) ⟨_, rfl, (by (try dsimp only); omega), rfl⟩ (Nat.le_of_ble_eq_true rfl) (Nat.le_of_ble_eq_true rfl) dX3_isOutside_15

set_option maxRecDepth 100000 in
set_option maxHeartbeats 8000000 in
theorem c_isProvider (l : Launch) (hfl : l.stackTraces = false) (G : GG) (b0 : Nat) (u : St) (v : Int) (h1 : inI v) : vx_Met l yX3_isProvider wsX3_isProvider (rmX 1 0 0 22) (va_Pc [.int (iI (v))] (Ok G b0 u)) (Qr (pI (fun r => (r = 1 ∧ 0 ≤ v ∧ v < 5) ∨ (r = 0 ∧ (v < 0 ∨ 5 ≤ v))) u) G b0) (Xr (noX) G b0) 0 0 (Wx b0) := by
  refine vx_ofW (cc := cX3_isProvider) (maxL := 1) (ret := (some .boolean)) (by decide +kernel) rfl ?_
  intro p e s m args below meth c s₁ B hml hto hv
  obtain ⟨rfl, hok⟩ := hv
  have hM : CallFix p m c cX3_isProvider 1 s _ wsX3_isProvider RX3 := ⟨B.exec, B.bytes, hml, findClass_of_methodNamed B.named, atoms_spec (ws := wsX3_isProvider) B.pre⟩
  have hr := B.returns
  have hlk := B.notSynchronized
  have hC := hok.cur
  have hl := lv_entry ([.int (iI (v))]) (n := 1) (Nat.le_of_ble_eq_true rfl)
  rw [lg_entry_eq]
  generalize (lg_sl ([.int (iI (v))]) ++ List.replicate (1 - (lg_sl ([.int (iI (v))])).length) Slot.unset).toArray = ls at hl ⊢
  have hl : lv_has ls 1 [(0, .int (iI (v)))] := hl
  refine y_iload_n hM hl 0 rfl rfl dX3_isProvider_0 ?_
  refine y_iconst hM dX3_isProvider_1 ?_
  refine y_iconst hM dX3_isProvider_2 ?_
  refine y_callS hM hC (c_isOutside l hfl G b0 u (v) (0) (4) (by constructor <;> omega) (by constructor <;> omega) (by constructor <;> omega)) (va_cwS 3 hM.2.2.2.2 gX3_isProvider_X3_isOutside rfl rfl rfl (by decide +kernel) ⟨(Nat.le_of_ble_eq_true rfl), (Nat.le_of_ble_eq_true rfl)⟩) rfl hl.1 rfl (Nat.le_of_ble_eq_true rfl) dX3_isProvider_3 ⟨(Nat.le_of_ble_eq_true rfl), (Nat.le_of_ble_eq_true rfl)⟩ (fun E ce q9 u1 H locs hx hC hce hcv hcl => hx.elim) (fun v u1 H locs hp hC => ?_)
  obtain ⟨r_3, rfl, h_3, hu⟩ := hp; rw [hu] at hC; clear hu
  try dsimp only at h_3
  refine W.eq (g2 := F0 m 6 ls [.int (iI (r_3))]) rfl ?_
  refine y_if_ne hM (by constructor <;> omega) (tgt := 13) dX3_isProvider_6 (by decide) (fun c_6 => ?_) (fun c_6 => ?_)
  ·
    refine y_iconst hM dX3_isProvider_13 ?_
    exact y_zret hM hr hlk hC (by decide) ⟨_, rfl, (by (try dsimp only); omega), rfl⟩ (Nat.le_of_ble_eq_true rfl) (Nat.le_of_ble_eq_true rfl) dX3_isProvider_14
  ·
    refine y_iconst hM dX3_isProvider_9 ?_
    refine lv_goto (tgt := 14) hM.1 hM.2.1 dX3_isProvider_10 (by decide) ?_
    exact y_zret hM hr hlk hC (by decide) ⟨_, rfl, (by (try dsimp only); omega), rfl⟩ (Nat.le_of_ble_eq_true rfl) (Nat.le_of_ble_eq_true rfl) dX3_isProvider_14

set_option maxRecDepth 100000 in
set_option maxHeartbeats 8000000 in
theorem c_checkProvider (l : Launch) (hfl : l.stackTraces = false) (G : GG) (b0 : Nat) (u : St) (v : Int) (h1 : inI v) : vx_Met l yX3_checkProvider wsX3_checkProvider (rmX 6 1 6 82) (va_Pc [.int (iI (v))] (Ok G b0 u)) (Qr (pV (0 ≤ v ∧ v < 5) u) G b0) (Xr (pX (fun x => x = 1 ∧ (v < 0 ∨ 5 ≤ v)) u) G b0) 1 6 (Wx b0) := by
  refine vx_ofW (cc := cX3_checkProvider) (maxL := 1) (ret := none) (by decide +kernel) rfl ?_
  intro p e s m args below meth c s₁ B hml hto hv
  obtain ⟨rfl, hok⟩ := hv
  have hM : CallFix p m c cX3_checkProvider 1 s _ wsX3_checkProvider RX3 := ⟨B.exec, B.bytes, hml, findClass_of_methodNamed B.named, atoms_spec (ws := wsX3_checkProvider) B.pre⟩
  have hr := B.returns
  have hlk := B.notSynchronized
  have hC := hok.cur
  have hl := lv_entry ([.int (iI (v))]) (n := 1) (Nat.le_of_ble_eq_true rfl)
  rw [lg_entry_eq]
  generalize (lg_sl ([.int (iI (v))]) ++ List.replicate (1 - (lg_sl ([.int (iI (v))])).length) Slot.unset).toArray = ls at hl ⊢
  have hl : lv_has ls 1 [(0, .int (iI (v)))] := hl
  refine y_iload_n hM hl 0 rfl rfl dX3_checkProvider_0 ?_
  refine y_callS hM hC (c_isProvider l hfl G b0 u (v) (by constructor <;> omega)) (va_cwS 1 hM.2.2.2.2 gX3_checkProvider_X3_isProvider rfl rfl rfl (by decide +kernel) ⟨(Nat.le_of_ble_eq_true rfl), (Nat.le_of_ble_eq_true rfl)⟩) rfl hl.1 rfl (Nat.le_of_ble_eq_true rfl) dX3_checkProvider_1 ⟨(Nat.le_of_ble_eq_true rfl), (Nat.le_of_ble_eq_true rfl)⟩ (fun E ce q9 u1 H locs hx hC hce hcv hcl => hx.elim) (fun v u1 H locs hp hC => ?_)
  obtain ⟨r_1, rfl, h_1, hu⟩ := hp; rw [hu] at hC; clear hu
  try dsimp only at h_1
  refine W.eq (g2 := F0 m 4 ls [.int (iI (r_1))]) rfl ?_
  refine y_if_ne hM (by constructor <;> omega) (tgt := 17) dX3_checkProvider_4 (by decide) (fun c_4 => ?_) (fun c_4 => ?_)
  ·
    exact y_vret hM hr hlk hC ⟨rfl, (by (try dsimp only); omega), rfl⟩ (Nat.le_of_ble_eq_true rfl) (Nat.le_of_ble_eq_true rfl) dX3_checkProvider_17
  ·
    exact y_throw hM hto hfl hlk hl.1 hC caA (text := "provider out of range") (by decide +kernel) ngA goA ⟨(by decide +kernel), (by decide +kernel)⟩ (by decide +kernel) dX3_checkProvider_7 dX3_checkProvider_10 dX3_checkProvider_11 dX3_checkProvider_13 dX3_checkProvider_16 ⟨(Nat.le_of_ble_eq_true rfl), (Nat.le_of_ble_eq_true rfl), (Nat.le_of_ble_eq_true rfl), (Nat.le_of_ble_eq_true rfl)⟩ ⟨1, rfl, (by (try dsimp only); omega), rfl⟩ (Nat.le_of_ble_eq_true rfl) (Nat.le_of_ble_eq_true rfl)

set_option maxRecDepth 100000 in
set_option maxHeartbeats 8000000 in
theorem c_checkPrice (l : Launch) (hfl : l.stackTraces = false) (G : GG) (b0 : Nat) (u : St) (v : Int) (h1 : inI v) : vx_Met l yX3_checkPrice wsX3_checkPrice (rmX 6 1 6 82) (va_Pc [.int (iI (v))] (Ok G b0 u)) (Qr (pV (100 ≤ v ∧ v ≤ 10000) u) G b0) (Xr (pX (fun x => x = 1 ∧ (v < 100 ∨ 10000 < v)) u) G b0) 1 6 (Wx b0) := by
  refine vx_ofW (cc := cX3_checkPrice) (maxL := 1) (ret := none) (by decide +kernel) rfl ?_
  intro p e s m args below meth c s₁ B hml hto hv
  obtain ⟨rfl, hok⟩ := hv
  have hM : CallFix p m c cX3_checkPrice 1 s _ wsX3_checkPrice RX3 := ⟨B.exec, B.bytes, hml, findClass_of_methodNamed B.named, atoms_spec (ws := wsX3_checkPrice) B.pre⟩
  have hr := B.returns
  have hlk := B.notSynchronized
  have hC := hok.cur
  have hl := lv_entry ([.int (iI (v))]) (n := 1) (Nat.le_of_ble_eq_true rfl)
  rw [lg_entry_eq]
  generalize (lg_sl ([.int (iI (v))]) ++ List.replicate (1 - (lg_sl ([.int (iI (v))])).length) Slot.unset).toArray = ls at hl ⊢
  have hl : lv_has ls 1 [(0, .int (iI (v)))] := hl
  refine y_iload_n hM hl 0 rfl rfl dX3_checkPrice_0 ?_
  refine y_bipush hM dX3_checkPrice_1 (by decide) ?_
  refine y_sipush hM dX3_checkPrice_3 (by decide) ?_
  refine y_callS hM hC (c_isOutside l hfl G b0 u (v) (100) (10000) (by constructor <;> omega) (by constructor <;> omega) (by constructor <;> omega)) (va_cwS 3 hM.2.2.2.2 gX3_checkPrice_X3_isOutside rfl rfl rfl (by decide +kernel) ⟨(Nat.le_of_ble_eq_true rfl), (Nat.le_of_ble_eq_true rfl)⟩) rfl hl.1 rfl (Nat.le_of_ble_eq_true rfl) dX3_checkPrice_6 ⟨(Nat.le_of_ble_eq_true rfl), (Nat.le_of_ble_eq_true rfl)⟩ (fun E ce q9 u1 H locs hx hC hce hcv hcl => hx.elim) (fun v u1 H locs hp hC => ?_)
  obtain ⟨r_6, rfl, h_6, hu⟩ := hp; rw [hu] at hC; clear hu
  try dsimp only at h_6
  refine W.eq (g2 := F0 m 9 ls [.int (iI (r_6))]) rfl ?_
  refine y_if_eq hM (by constructor <;> omega) (tgt := 22) dX3_checkPrice_9 (by decide) (fun c_9 => ?_) (fun c_9 => ?_)
  ·
    exact y_vret hM hr hlk hC ⟨rfl, (by (try dsimp only); omega), rfl⟩ (Nat.le_of_ble_eq_true rfl) (Nat.le_of_ble_eq_true rfl) dX3_checkPrice_22
  ·
    exact y_throw hM hto hfl hlk hl.1 hC caA (text := "price out of range") (by decide +kernel) ngA goA ⟨(by decide +kernel), (by decide +kernel)⟩ (by decide +kernel) dX3_checkPrice_12 dX3_checkPrice_15 dX3_checkPrice_16 dX3_checkPrice_18 dX3_checkPrice_21 ⟨(Nat.le_of_ble_eq_true rfl), (Nat.le_of_ble_eq_true rfl), (Nat.le_of_ble_eq_true rfl), (Nat.le_of_ble_eq_true rfl)⟩ ⟨1, rfl, (by (try dsimp only); omega), rfl⟩ (Nat.le_of_ble_eq_true rfl) (Nat.le_of_ble_eq_true rfl)

set_option maxRecDepth 100000 in
set_option maxHeartbeats 8000000 in
theorem c_checkHolding (l : Launch) (hfl : l.stackTraces = false) (G : GG) (b0 : Nat) (u : St) (v : Int) (h1 : inJ v) : vx_Met l yX3_checkHolding wsX3_checkHolding (rmX 6 1 6 82) (va_Pc [.long (lI (v))] (Ok G b0 u)) (Qr (pV (v ≤ 100000000) u) G b0) (Xr (pX (fun x => x = 2 ∧ 100000000 < v) u) G b0) 1 6 (Wx b0) := by
  refine vx_ofW (cc := cX3_checkHolding) (maxL := 2) (ret := none) (by decide +kernel) rfl ?_
  intro p e s m args below meth c s₁ B hml hto hv
  obtain ⟨rfl, hok⟩ := hv
  have hM : CallFix p m c cX3_checkHolding 2 s _ wsX3_checkHolding RX3 := ⟨B.exec, B.bytes, hml, findClass_of_methodNamed B.named, atoms_spec (ws := wsX3_checkHolding) B.pre⟩
  have hr := B.returns
  have hlk := B.notSynchronized
  have hC := hok.cur
  have hl := lv_entry ([.long (lI (v))]) (n := 2) (Nat.le_of_ble_eq_true rfl)
  rw [lg_entry_eq]
  generalize (lg_sl ([.long (lI (v))]) ++ List.replicate (2 - (lg_sl ([.long (lI (v))])).length) Slot.unset).toArray = ls at hl ⊢
  have hl : lv_has ls 2 [(0, .long (lI (v)))] := hl
  refine y_lload_n hM hl 0 rfl rfl dX3_checkHolding_0 ?_
  refine y_ldc2 hM (v := 100000000) (100000000) (by decide) (by decide +kernel) dX3_checkHolding_1 ?_
  refine y_lcmp hM (by constructor <;> omega) (by constructor <;> omega) dX3_checkHolding_4 ?_
  have hcl_4 := cmpI_le (v) (100000000)
  have hcg_4 := cmpI_gt (v) (100000000)
  have hce_4 := cmpI_eq (v) (100000000)
  refine y_if_le hM (cmpI_in _ _) (tgt := 18) dX3_checkHolding_5 (by decide) (fun c_5 => ?_) (fun c_5 => ?_)
  ·
    exact y_vret hM hr hlk hC ⟨rfl, (by (try dsimp only); omega), rfl⟩ (Nat.le_of_ble_eq_true rfl) (Nat.le_of_ble_eq_true rfl) dX3_checkHolding_18
  ·
    exact y_throw hM hto hfl hlk hl.1 hC caS (text := "the saver would have too many thousandths") (by decide +kernel) ngS goS ⟨(by decide +kernel), (by decide +kernel)⟩ (by decide +kernel) dX3_checkHolding_8 dX3_checkHolding_11 dX3_checkHolding_12 dX3_checkHolding_14 dX3_checkHolding_17 ⟨(Nat.le_of_ble_eq_true rfl), (Nat.le_of_ble_eq_true rfl), (Nat.le_of_ble_eq_true rfl), (Nat.le_of_ble_eq_true rfl)⟩ ⟨2, rfl, (by (try dsimp only); omega), rfl⟩ (Nat.le_of_ble_eq_true rfl) (Nat.le_of_ble_eq_true rfl)

set_option maxRecDepth 100000 in
set_option maxHeartbeats 8000000 in
theorem c_thousandthsFor (l : Launch) (hfl : l.stackTraces = false) (G : GG) (b0 : Nat) (u : St) (m_ pr : Int) (hm : 0 ≤ m_ ∧ m_ ≤ 9000000000000000) (hp : 0 < pr ∧ pr ≤ 10000) : vx_Met l yX3_thousandthsFor wsX3_thousandthsFor (rmX 0 0 0 0) (va_Pc [.long (lI (m_)), .int (iI (pr))] (Ok G b0 u)) (Qr (pJ (fun r => r = thF m_ pr) u) G b0) (Xr (noX) G b0) 0 0 (Wx b0) := by
  refine vx_ofW (cc := cX3_thousandthsFor) (maxL := 3) (ret := (some .long)) (by decide +kernel) rfl ?_
  intro p e s m args below meth c s₁ B hml hto hv
  obtain ⟨rfl, hok⟩ := hv
  have hM : CallFix p m c cX3_thousandthsFor 3 s _ wsX3_thousandthsFor RX3 := ⟨B.exec, B.bytes, hml, findClass_of_methodNamed B.named, atoms_spec (ws := wsX3_thousandthsFor) B.pre⟩
  have hr := B.returns
  have hlk := B.notSynchronized
  have hC := hok.cur
  have hl := lv_entry ([.long (lI (m_)), .int (iI (pr))]) (n := 3) (Nat.le_of_ble_eq_true rfl)
  rw [lg_entry_eq]
  generalize (lg_sl ([.long (lI (m_)), .int (iI (pr))]) ++ List.replicate (3 - (lg_sl ([.long (lI (m_)), .int (iI (pr))])).length) Slot.unset).toArray = ls at hl ⊢
  have hl : lv_has ls 3 [(0, .long (lI (m_))), (2, .int (iI (pr)))] := hl
  refine y_iload_n hM hl 1 rfl rfl dX3_thousandthsFor_0 ?_
  refine y_if_gt hM (by constructor <;> omega) (tgt := 6) dX3_thousandthsFor_1 (by decide) (fun c_1 => ?_) (fun c_1 => False.elim (by omega))
  refine y_lload_n hM hl 0 rfl rfl dX3_thousandthsFor_6 ?_
  refine y_ldc2 hM (v := 1000) (1000) (by decide) (by decide +kernel) dX3_thousandthsFor_7 ?_
  refine y_lmul hM dX3_thousandthsFor_10 ?_
  refine y_iload_n hM hl 1 rfl rfl dX3_thousandthsFor_11 ?_
  refine y_i2l hM (by constructor <;> omega) dX3_thousandthsFor_12 ?_
  refine y_ldiv hM ⟨by omega, by omega, by omega, by omega⟩ dX3_thousandthsFor_13 ?_
  exact y_lret hM hr hlk hC ⟨_, rfl, rfl, rfl⟩ (Nat.le_of_ble_eq_true rfl) (Nat.le_of_ble_eq_true rfl) dX3_thousandthsFor_14

set_option maxRecDepth 100000 in
set_option maxHeartbeats 8000000 in
theorem c_moneyFor (l : Launch) (hfl : l.stackTraces = false) (G : GG) (b0 : Nat) (u : St) (m_ pr : Int) (hm : 0 ≤ m_ ∧ m_ ≤ 100000000) (hp : 0 < pr ∧ pr ≤ 10000) : vx_Met l yX3_moneyFor wsX3_moneyFor (rmX 0 0 0 0) (va_Pc [.long (lI (m_)), .int (iI (pr))] (Ok G b0 u)) (Qr (pJ (fun r => r = moF m_ pr) u) G b0) (Xr (noX) G b0) 0 0 (Wx b0) := by
  refine vx_ofW (cc := cX3_moneyFor) (maxL := 3) (ret := (some .long)) (by decide +kernel) rfl ?_
  intro p e s m args below meth c s₁ B hml hto hv
  obtain ⟨rfl, hok⟩ := hv
  have hM : CallFix p m c cX3_moneyFor 3 s _ wsX3_moneyFor RX3 := ⟨B.exec, B.bytes, hml, findClass_of_methodNamed B.named, atoms_spec (ws := wsX3_moneyFor) B.pre⟩
  have hr := B.returns
  have hlk := B.notSynchronized
  have hC := hok.cur
  have hl := lv_entry ([.long (lI (m_)), .int (iI (pr))]) (n := 3) (Nat.le_of_ble_eq_true rfl)
  rw [lg_entry_eq]
  generalize (lg_sl ([.long (lI (m_)), .int (iI (pr))]) ++ List.replicate (3 - (lg_sl ([.long (lI (m_)), .int (iI (pr))])).length) Slot.unset).toArray = ls at hl ⊢
  have hl : lv_has ls 3 [(0, .long (lI (m_))), (2, .int (iI (pr)))] := hl
  have hq1 : 0 ≤ m_ * pr := Int.mul_nonneg (by omega) (by omega)
  have hq2 : m_ * pr ≤ 100000000 * 10000 := Int.mul_le_mul (by omega) (by omega) (by omega) (by omega)
  refine y_lload_n hM hl 0 rfl rfl dX3_moneyFor_0 ?_
  refine y_iload_n hM hl 1 rfl rfl dX3_moneyFor_1 ?_
  refine y_i2l hM (by constructor <;> omega) dX3_moneyFor_2 ?_
  refine y_lmul hM dX3_moneyFor_3 ?_
  refine y_ldc2 hM (v := 1000) (1000) (by decide) (by decide +kernel) dX3_moneyFor_4 ?_
  refine y_ldiv hM ⟨by omega, by omega, by omega, by omega⟩ dX3_moneyFor_7 ?_
  exact y_lret hM hr hlk hC ⟨_, rfl, rfl, rfl⟩ (Nat.le_of_ble_eq_true rfl) (Nat.le_of_ble_eq_true rfl) dX3_moneyFor_8

set_option maxRecDepth 100000 in
set_option maxHeartbeats 8000000 in
theorem c_costOf (l : Launch) (hfl : l.stackTraces = false) (G : GG) (b0 : Nat) (u : St) (m_ pr : Int) (hm : 0 ≤ m_ ∧ m_ ≤ 100000000) (hp : 0 < pr ∧ pr ≤ 10000) : vx_Met l yX3_costOf wsX3_costOf (rmX 0 0 0 0) (va_Pc [.long (lI (m_)), .int (iI (pr))] (Ok G b0 u)) (Qr (pJ (fun r => r = coF m_ pr) u) G b0) (Xr (noX) G b0) 0 0 (Wx b0) := by
  refine vx_ofW (cc := cX3_costOf) (maxL := 3) (ret := (some .long)) (by decide +kernel) rfl ?_
  intro p e s m args below meth c s₁ B hml hto hv
  obtain ⟨rfl, hok⟩ := hv
  have hM : CallFix p m c cX3_costOf 3 s _ wsX3_costOf RX3 := ⟨B.exec, B.bytes, hml, findClass_of_methodNamed B.named, atoms_spec (ws := wsX3_costOf) B.pre⟩
  have hr := B.returns
  have hlk := B.notSynchronized
  have hC := hok.cur
  have hl := lv_entry ([.long (lI (m_)), .int (iI (pr))]) (n := 3) (Nat.le_of_ble_eq_true rfl)
  rw [lg_entry_eq]
  generalize (lg_sl ([.long (lI (m_)), .int (iI (pr))]) ++ List.replicate (3 - (lg_sl ([.long (lI (m_)), .int (iI (pr))])).length) Slot.unset).toArray = ls at hl ⊢
  have hl : lv_has ls 3 [(0, .long (lI (m_))), (2, .int (iI (pr)))] := hl
  have hq1 : 0 ≤ m_ * pr := Int.mul_nonneg (by omega) (by omega)
  have hq2 : m_ * pr ≤ 100000000 * 10000 := Int.mul_le_mul (by omega) (by omega) (by omega) (by omega)
  refine y_lload_n hM hl 0 rfl rfl dX3_costOf_0 ?_
  refine y_iload_n hM hl 1 rfl rfl dX3_costOf_1 ?_
  refine y_i2l hM (by constructor <;> omega) dX3_costOf_2 ?_
  refine y_lmul hM dX3_costOf_3 ?_
  refine y_ldc2 hM (v := 1000) (1000) (by decide) (by decide +kernel) dX3_costOf_4 ?_
  refine y_ladd hM dX3_costOf_7 ?_
  refine y_lconst hM 1 (by decide) dX3_costOf_8 ?_
  refine y_lsub hM dX3_costOf_9 ?_
  refine y_ldc2 hM (v := 1000) (1000) (by decide) (by decide +kernel) dX3_costOf_10 ?_
  refine y_ldiv hM ⟨by omega, by omega, by omega, by omega⟩ dX3_costOf_13 ?_
  exact y_lret hM hr hlk hC ⟨_, rfl, rfl, rfl⟩ (Nat.le_of_ble_eq_true rfl) (Nat.le_of_ble_eq_true rfl) dX3_costOf_14

set_option maxRecDepth 100000 in
set_option maxHeartbeats 8000000 in
theorem c_Saver_init (l : Launch) (hfl : l.stackTraces = false) (G : GG) (b0 : Nat) (ks : KK) (ad : AD) (T : TT) (P : PP) (i : Nat) (hk : (10, i) ∈ ks) (h th : Int) : vx_Met l yX2_init wsX2_init (rmX 1 0 0 12) (va_Pc [.ref (ad 10 i), .int (iI (h)), .long (lI (th))] (Ok G b0 (ks, ad, T, P))) (Qr (pV (True) (ks, ad, up (up (up T 10 i 2 0) 10 i 0 h) 10 i 1 th, P)) G b0) (Xr (noX) G b0) 0 0 (Wx b0) := by
  refine vx_ofW (cc := cX2_init) (maxL := 4) (ret := none) (by decide +kernel) rfl ?_
  intro p e s m args below meth c s₁ B hml hto hv
  obtain ⟨rfl, hok⟩ := hv
  have hM : CallFix p m c cX2_init 4 s _ wsX2_init RX2 := ⟨B.exec, B.bytes, hml, findClass_of_methodNamed B.named, atoms_spec (ws := wsX2_init) B.pre⟩
  have hr := B.returns
  have hlk := B.notSynchronized
  have hC := hok.cur
  have hin2 : meth.name = "<init>" := (name_of_methodNamed B.named B.method).1
  have hl := lv_entry ([.ref (ad 10 i), .int (iI (h)), .long (lI (th))]) (n := 4) (Nat.le_of_ble_eq_true rfl)
  rw [lg_entry_eq]
  generalize (lg_sl ([.ref (ad 10 i), .int (iI (h)), .long (lI (th))]) ++ List.replicate (4 - (lg_sl ([.ref (ad 10 i), .int (iI (h)), .long (lI (th))])).length) Slot.unset).toArray = ls at hl ⊢
  have hl : lv_has ls 4 [(0, .ref (ad 10 i)), (1, .int (iI (h))), (2, .long (lI (th)))] := hl
  refine y_aload_n hM hl 0 rfl rfl dX2_init_0 ?_
  refine W.objInit hM.1 hM.2.1 hM.2.2.2.1 (hM.2.2.2.2 (.methodLink RX2 1 objectInit) (by decide +kernel)) (hM.2.2.2.2 (.instanceMethod objectInit) (by decide +kernel)) (hM.2.2.2.2 (.code objectInit ⟨#[0xb1]⟩ 1 none) (by decide +kernel)) rfl (by rw [hM.2.2.1]; exact hl.1) rfl dX2_init_1 (Nat.le_of_ble_eq_true rfl) (Nat.le_of_ble_eq_true rfl) ?_
  refine W.eq (g2 := F0 m 4 ls []) rfl ?_
  refine y_aload_n hM hl 0 rfl rfl dX2_init_4 ?_
  refine y_iconst hM dX2_init_5 ?_
  refine y_put hM hC hk rfl rfl (by decide +kernel) tyX2 tyX2_ok nmX2 2 ⟨by decide, rfl, rfl, rfl, rfl⟩ (by decide +kernel) (ty := .boolean) (by decide +kernel) rfl rfl (Nat.le_of_ble_eq_true rfl) (T' := (up T 10 i 2 (0))) (P' := P) (cF_up rfl) (fun _ _ h => up_ne h) (fun _ _ _ => rfl) dX2_init_6 (fun H locs hC => ?_)
  refine y_aload_n hM hl 0 rfl rfl dX2_init_9 ?_
  refine y_iload_n hM hl 1 rfl rfl dX2_init_10 ?_
  refine y_put hM hC hk rfl rfl (by decide +kernel) tyX2 tyX2_ok nmX2 0 ⟨by decide, rfl, rfl, rfl, rfl⟩ (by decide +kernel) (ty := .int) (by decide +kernel) rfl rfl (Nat.le_of_ble_eq_true rfl) (T' := (up (up T 10 i 2 (0)) 10 i 0 (h))) (P' := P) (cF_up rfl) (fun _ _ h => up_ne h) (fun _ _ _ => rfl) dX2_init_11 (fun H locs hC => ?_)
  refine y_aload_n hM hl 0 rfl rfl dX2_init_14 ?_
  refine y_lload_n hM hl 2 rfl rfl dX2_init_15 ?_
  refine y_put hM hC hk rfl rfl (by decide +kernel) tyX2 tyX2_ok nmX2 1 ⟨by decide, rfl, rfl, rfl, rfl⟩ (by decide +kernel) (ty := .long) (by decide +kernel) rfl rfl (Nat.le_of_ble_eq_true rfl) (T' := (up (up (up T 10 i 2 (0)) 10 i 0 (h)) 10 i 1 (th))) (P' := P) (cF_up rfl) (fun _ _ h => up_ne h) (fun _ _ _ => rfl) dX2_init_16 (fun H locs hC => ?_)
  exact y_vret hM hr hlk hC ⟨rfl, trivial, rfl⟩ (Nat.le_of_ble_eq_true rfl) (Nat.le_of_ble_eq_true rfl) dX2_init_19

set_option maxRecDepth 100000 in
set_option maxHeartbeats 8000000 in
theorem c_arrive (l : Launch) (hfl : l.stackTraces = false) (G : GG) (b0 : Nat) (ks : KK) (ad : AD) (T : TT) (P : PP) (i : Nat) (hk : (10, i) ∈ ks) (h th : Int) : vx_Met l yX2_arrive wsX2_arrive (rmX 0 0 0 0) (va_Pc [.ref (ad 10 i), .int (iI (h)), .long (lI (th))] (Ok G b0 (ks, ad, T, P))) (Qr (pV (True) (ks, ad, arrT T i h th, P)) G b0) (Xr (noX) G b0) 0 0 (Wx b0) := by
  refine vx_ofW (cc := cX2_arrive) (maxL := 4) (ret := none) (by decide +kernel) rfl ?_
  intro p e s m args below meth c s₁ B hml hto hv
  obtain ⟨rfl, hok⟩ := hv
  have hM : CallFix p m c cX2_arrive 4 s _ wsX2_arrive RX2 := ⟨B.exec, B.bytes, hml, findClass_of_methodNamed B.named, atoms_spec (ws := wsX2_arrive) B.pre⟩
  have hr := B.returns
  have hlk := B.notSynchronized
  have hC := hok.cur
  have hl := lv_entry ([.ref (ad 10 i), .int (iI (h)), .long (lI (th))]) (n := 4) (Nat.le_of_ble_eq_true rfl)
  rw [lg_entry_eq]
  generalize (lg_sl ([.ref (ad 10 i), .int (iI (h)), .long (lI (th))]) ++ List.replicate (4 - (lg_sl ([.ref (ad 10 i), .int (iI (h)), .long (lI (th))])).length) Slot.unset).toArray = ls at hl ⊢
  have hl : lv_has ls 4 [(0, .ref (ad 10 i)), (1, .int (iI (h))), (2, .long (lI (th)))] := hl
  refine y_aload_n hM hl 0 rfl rfl dX2_arrive_0 ?_
  refine y_iload_n hM hl 1 rfl rfl dX2_arrive_1 ?_
  refine y_put hM hC hk rfl rfl (by decide +kernel) tyX2 tyX2_ok nmX2 0 ⟨by decide, rfl, rfl, rfl, rfl⟩ (by decide +kernel) (ty := .int) (by decide +kernel) rfl rfl (Nat.le_of_ble_eq_true rfl) (T' := (up T 10 i 0 (h))) (P' := P) (cF_up rfl) (fun _ _ h => up_ne h) (fun _ _ _ => rfl) dX2_arrive_2 (fun H locs hC => ?_)
  refine y_aload_n hM hl 0 rfl rfl dX2_arrive_5 ?_
  refine y_lload_n hM hl 2 rfl rfl dX2_arrive_6 ?_
  refine y_put hM hC hk rfl rfl (by decide +kernel) tyX2 tyX2_ok nmX2 1 ⟨by decide, rfl, rfl, rfl, rfl⟩ (by decide +kernel) (ty := .long) (by decide +kernel) rfl rfl (Nat.le_of_ble_eq_true rfl) (T' := (up (up T 10 i 0 (h)) 10 i 1 (th))) (P' := P) (cF_up rfl) (fun _ _ h => up_ne h) (fun _ _ _ => rfl) dX2_arrive_7 (fun H locs hC => ?_)
  refine y_aload_n hM hl 0 rfl rfl dX2_arrive_10 ?_
  refine y_iconst hM dX2_arrive_11 ?_
  refine y_put hM hC hk rfl rfl (by decide +kernel) tyX2 tyX2_ok nmX2 2 ⟨by decide, rfl, rfl, rfl, rfl⟩ (by decide +kernel) (ty := .boolean) (by decide +kernel) rfl rfl (Nat.le_of_ble_eq_true rfl) (T' := (up (up (up T 10 i 0 (h)) 10 i 1 (th)) 10 i 2 (0))) (P' := P) (cF_up rfl) (fun _ _ h => up_ne h) (fun _ _ _ => rfl) dX2_arrive_12 (fun H locs hC => ?_)
  exact y_vret hM hr hlk hC ⟨rfl, trivial, rfl⟩ (Nat.le_of_ble_eq_true rfl) (Nat.le_of_ble_eq_true rfl) dX2_arrive_15

set_option maxRecDepth 100000 in
set_option maxHeartbeats 8000000 in
theorem c_dueDay (l : Launch) (hfl : l.stackTraces = false) (G : GG) (b0 : Nat) (ks : KK) (ad : AD) (T : TT) (P : PP) (k : Nat) (hk : (11, k) ∈ ks) (h3 : inI (T 11 k 3)) : vx_Met l yX0_dueDay wsX0_dueDay (rmX 0 0 0 0) (va_Pc [.ref (ad 11 k)] (Ok G b0 (ks, ad, T, P))) (Qr (pI (fun r => r = dueT T k) (ks, ad, T, P)) G b0) (Xr (noX) G b0) 0 0 (Wx b0) := by
  refine vx_ofW (cc := cX0_dueDay) (maxL := 1) (ret := (some .int)) (by decide +kernel) rfl ?_
  intro p e s m args below meth c s₁ B hml hto hv
  obtain ⟨rfl, hok⟩ := hv
  have hM : CallFix p m c cX0_dueDay 1 s _ wsX0_dueDay RX0 := ⟨B.exec, B.bytes, hml, findClass_of_methodNamed B.named, atoms_spec (ws := wsX0_dueDay) B.pre⟩
  have hr := B.returns
  have hlk := B.notSynchronized
  have hC := hok.cur
  have hl := lv_entry ([.ref (ad 11 k)]) (n := 1) (Nat.le_of_ble_eq_true rfl)
  rw [lg_entry_eq]
  generalize (lg_sl ([.ref (ad 11 k)]) ++ List.replicate (1 - (lg_sl ([.ref (ad 11 k)])).length) Slot.unset).toArray = ls at hl ⊢
  have hl : lv_has ls 1 [(0, .ref (ad 11 k))] := hl
  refine y_aload_n hM hl 0 rfl rfl dX0_dueDay_0 ?_
  refine y_get hM hC hk rfl rfl (by decide +kernel) 3 ⟨by decide, rfl, rfl, rfl⟩ (by decide +kernel) rfl dX0_dueDay_1 ?_
  refine y_if_ne hM (by constructor <;> omega) (tgt := 14) dX0_dueDay_4 (by decide) (fun c_4 => ?_) (fun c_4 => ?_)
  ·
    refine y_aload_n hM hl 0 rfl rfl dX0_dueDay_14 ?_
    refine y_get hM hC hk rfl rfl (by decide +kernel) 4 ⟨by decide, rfl, rfl, rfl⟩ (by decide +kernel) rfl dX0_dueDay_15 ?_
    refine y_aload_n hM hl 0 rfl rfl dX0_dueDay_18 ?_
    refine y_get hM hC hk rfl rfl (by decide +kernel) 3 ⟨by decide, rfl, rfl, rfl⟩ (by decide +kernel) rfl dX0_dueDay_19 ?_
    refine y_iconst hM dX0_dueDay_22 ?_
    refine y_icmp_ne hM (by constructor <;> omega) (by constructor <;> omega) (tgt := 30) dX0_dueDay_23 (by decide) (fun c_23 => ?_) (fun c_23 => ?_)
    ·
      refine y_iconst hM dX0_dueDay_30 ?_
      refine y_iadd hM dX0_dueDay_31 ?_
      exact y_iret hM hr hlk hC ⟨_, rfl, (by (try dsimp only); unfold dueT; split <;> omega), rfl⟩ (Nat.le_of_ble_eq_true rfl) (Nat.le_of_ble_eq_true rfl) dX0_dueDay_32
    ·
      refine y_iconst hM dX0_dueDay_26 ?_
      refine lv_goto (tgt := 31) hM.1 hM.2.1 dX0_dueDay_27 (by decide) ?_
      refine y_iadd hM dX0_dueDay_31 ?_
      exact y_iret hM hr hlk hC ⟨_, rfl, (by (try dsimp only); unfold dueT; split <;> omega), rfl⟩ (Nat.le_of_ble_eq_true rfl) (Nat.le_of_ble_eq_true rfl) dX0_dueDay_32
  ·
    refine y_aload_n hM hl 0 rfl rfl dX0_dueDay_7 ?_
    refine y_get hM hC hk rfl rfl (by decide +kernel) 4 ⟨by decide, rfl, rfl, rfl⟩ (by decide +kernel) rfl dX0_dueDay_8 ?_
    refine y_iconst hM dX0_dueDay_11 ?_
    refine y_iadd hM dX0_dueDay_12 ?_
    exact y_iret hM hr hlk hC ⟨_, rfl, (by (try dsimp only); unfold dueT; split <;> omega), rfl⟩ (Nat.le_of_ble_eq_true rfl) (Nat.le_of_ble_eq_true rfl) dX0_dueDay_13

set_option maxRecDepth 100000 in
set_option maxHeartbeats 8000000 in
theorem c_latenessOn (l : Launch) (hfl : l.stackTraces = false) (G : GG) (b0 : Nat) (ks : KK) (ad : AD) (T : TT) (P : PP) (k : Nat) (hk : (11, k) ∈ ks) (dd : Int) (h3 : inI (T 11 k 3)) (h4 : 0 ≤ T 11 k 4 ∧ T 11 k 4 ≤ 2000) (hd : 0 ≤ dd ∧ dd ≤ 2000) : vx_Met l yX0_latenessOn wsX0_latenessOn (rmX 1 0 0 20) (va_Pc [.ref (ad 11 k), .int (iI (dd))] (Ok G b0 (ks, ad, T, P))) (Qr (pI (fun r => r = lateT T k dd) (ks, ad, T, P)) G b0) (Xr (noX) G b0) 0 0 (Wx b0) := by
  refine vx_ofW (cc := cX0_latenessOn) (maxL := 2) (ret := (some .int)) (by decide +kernel) rfl ?_
  intro p e s m args below meth c s₁ B hml hto hv
  obtain ⟨rfl, hok⟩ := hv
  have hM : CallFix p m c cX0_latenessOn 2 s _ wsX0_latenessOn RX0 := ⟨B.exec, B.bytes, hml, findClass_of_methodNamed B.named, atoms_spec (ws := wsX0_latenessOn) B.pre⟩
  have hr := B.returns
  have hlk := B.notSynchronized
  have hC := hok.cur
  have hl := lv_entry ([.ref (ad 11 k), .int (iI (dd))]) (n := 2) (Nat.le_of_ble_eq_true rfl)
  rw [lg_entry_eq]
  generalize (lg_sl ([.ref (ad 11 k), .int (iI (dd))]) ++ List.replicate (2 - (lg_sl ([.ref (ad 11 k), .int (iI (dd))])).length) Slot.unset).toArray = ls at hl ⊢
  have hl : lv_has ls 2 [(0, .ref (ad 11 k)), (1, .int (iI (dd)))] := hl
  refine y_iconst hM dX0_latenessOn_0 ?_
  refine y_iload_n hM hl 1 rfl rfl dX0_latenessOn_1 ?_
  refine y_aload_n hM hl 0 rfl rfl dX0_latenessOn_2 ?_
  refine y_callV hM hC (c_dueDay l hfl G b0 ks ad T P k hk (by constructor <;> omega)) (cwV 0 hM.2.2.2.2 gX0_latenessOn_X0_dueDay rfl rfl rfl (by decide +kernel) ⟨(Nat.le_of_ble_eq_true rfl), (Nat.le_of_ble_eq_true rfl)⟩) (y_recv hC hk rfl rfl) rfl hl.1 rfl (Nat.le_of_ble_eq_true rfl) dX0_latenessOn_3 ⟨(Nat.le_of_ble_eq_true rfl), (Nat.le_of_ble_eq_true rfl)⟩ (fun E ce q9 u1 H locs hx hC hce hcv hcl => hx.elim) (fun v u1 H locs hp hC => ?_)
  obtain ⟨r_3, rfl, h_3, hu⟩ := hp; rw [hu] at hC; clear hu
  try dsimp only at h_3
  refine W.eq (g2 := F0 m 6 ls [.int (iI (r_3)), .int (iI (dd)), .int (iI (0))]) rfl ?_
  have hdu : 0 ≤ dueT T k ∧ dueT T k ≤ 3000 := by unfold dueT; split <;> omega
  refine y_isub hM dX0_latenessOn_6 ?_
  refine va_mmax hM.1 hM.2.1 (by rw [hM.2.2.1]; exact hl.1.symm) hM.2.2.2.1 (hM.2.2.2.2 (.methodLink RX0 47 Lib.Math.max.name) (by decide +kernel)) (hM.2.2.2.2 (.static Lib.Math.max.name) (by decide +kernel)) (hM.2.2.2.2 (.initialized "java/lang/Math") (by decide +kernel)) (hM.2.2.2.2 (.code Lib.Math.max.name Lib.Math.max.code 2 (some .int)) (by decide +kernel)) (Nat.le_of_ble_eq_true rfl) (Nat.le_of_ble_eq_true rfl) (Nat.le_of_ble_eq_true rfl) (Nat.le_of_ble_eq_true rfl) dX0_latenessOn_7 ?_
  rw [show (if iI (0) < iI ((dd) - (r_3)) then iI ((dd) - (r_3)) else iI (0)) = iI (lateT T k dd) from (by
    simp only [iI_lt (a := 0) (b := dd - r_3) ⟨by omega, by omega⟩ ⟨by omega, by omega⟩]
    rw [h_3]
    unfold lateT
    split <;> split <;> first | rfl | (exact False.elim (by omega)) | (exact congrArg iI (by omega)))]
  exact y_iret hM hr hlk hC ⟨_, rfl, rfl, rfl⟩ (Nat.le_of_ble_eq_true rfl) (Nat.le_of_ble_eq_true rfl) dX0_latenessOn_10

set_option maxRecDepth 100000 in
set_option maxHeartbeats 8000000 in
theorem c_goOn (l : Launch) (hfl : l.stackTraces = false) (G : GG) (b0 : Nat) (ks : KK) (ad : AD) (T : TT) (P : PP) (k : Nat) (hk : (11, k) ∈ ks) (dd lb : Int) (h3 : inI (T 11 k 3)) : vx_Met l yX0_goOn wsX0_goOn (rmX 0 0 0 0) (va_Pc [.ref (ad 11 k), .int (iI (dd)), .int (iI (lb))] (Ok G b0 (ks, ad, T, P))) (Qr (pV (True) (ks, ad, goT T k dd lb, P)) G b0) (Xr (noX) G b0) 0 0 (Wx b0) := by
  refine vx_ofW (cc := cX0_goOn) (maxL := 3) (ret := none) (by decide +kernel) rfl ?_
  intro p e s m args below meth c s₁ B hml hto hv
  obtain ⟨rfl, hok⟩ := hv
  have hM : CallFix p m c cX0_goOn 3 s _ wsX0_goOn RX0 := ⟨B.exec, B.bytes, hml, findClass_of_methodNamed B.named, atoms_spec (ws := wsX0_goOn) B.pre⟩
  have hr := B.returns
  have hlk := B.notSynchronized
  have hC := hok.cur
  have hl := lv_entry ([.ref (ad 11 k), .int (iI (dd)), .int (iI (lb))]) (n := 3) (Nat.le_of_ble_eq_true rfl)
  rw [lg_entry_eq]
  generalize (lg_sl ([.ref (ad 11 k), .int (iI (dd)), .int (iI (lb))]) ++ List.replicate (3 - (lg_sl ([.ref (ad 11 k), .int (iI (dd)), .int (iI (lb))])).length) Slot.unset).toArray = ls at hl ⊢
  have hl : lv_has ls 3 [(0, .ref (ad 11 k)), (1, .int (iI (dd))), (2, .int (iI (lb)))] := hl
  refine y_aload_n hM hl 0 rfl rfl dX0_goOn_0 ?_
  refine y_get hM hC hk rfl rfl (by decide +kernel) 3 ⟨by decide, rfl, rfl, rfl⟩ (by decide +kernel) rfl dX0_goOn_1 ?_
  refine y_iconst hM dX0_goOn_4 ?_
  refine y_icmp_ne hM (by constructor <;> omega) (by constructor <;> omega) (tgt := 21) dX0_goOn_5 (by decide) (fun c_5 => ?_) (fun c_5 => ?_)
  ·
    refine y_aload_n hM hl 0 rfl rfl dX0_goOn_21 ?_
    refine lv_dup hM.1 hM.2.1 dX0_goOn_22 rfl ?_
    refine y_get hM hC hk rfl rfl (by decide +kernel) 5 ⟨by decide, rfl, rfl, rfl⟩ (by decide +kernel) rfl dX0_goOn_23 ?_
    refine y_iload_n hM hl 2 rfl rfl dX0_goOn_26 ?_
    refine y_iadd hM dX0_goOn_27 ?_
    refine y_put hM hC hk rfl rfl (by decide +kernel) tyX0 tyX0_ok nmX0 5 ⟨by decide, rfl, rfl, rfl, rfl⟩ (by decide +kernel) (ty := .int) (by decide +kernel) rfl rfl (Nat.le_of_ble_eq_true rfl) (T' := (up T 11 k 5 ((T 11 k 5) + (lb)))) (P' := P) (cF_up rfl) (fun _ _ h => up_ne h) (fun _ _ _ => rfl) dX0_goOn_28 (fun H locs hC => ?_)
    refine y_aload_n hM hl 0 rfl rfl dX0_goOn_31 ?_
    refine y_iload_n hM hl 1 rfl rfl dX0_goOn_32 ?_
    refine y_put hM hC hk rfl rfl (by decide +kernel) tyX0 tyX0_ok nmX0 4 ⟨by decide, rfl, rfl, rfl, rfl⟩ (by decide +kernel) (ty := .int) (by decide +kernel) rfl rfl (Nat.le_of_ble_eq_true rfl) (T' := (up (up T 11 k 5 ((T 11 k 5) + (lb))) 11 k 4 (dd))) (P' := P) (cF_up rfl) (fun _ _ h => up_ne h) (fun _ _ _ => rfl) dX0_goOn_33 (fun H locs hC => ?_)
    refine y_aload_n hM hl 0 rfl rfl dX0_goOn_36 ?_
    refine lv_dup hM.1 hM.2.1 dX0_goOn_37 rfl ?_
    refine y_get hM hC hk rfl rfl (by decide +kernel) 3 ⟨by decide, rfl, rfl, rfl⟩ (by decide +kernel) (congrArg (fun q => some (Value.int (iI q))) (show (up (up T 11 k 5 ((T 11 k 5) + (lb))) 11 k 4 (dd)) 11 k 3 = T 11 k 3 from by simp [up])) dX0_goOn_38 ?_
    refine y_iconst hM dX0_goOn_41 ?_
    refine y_iadd hM dX0_goOn_42 ?_
    refine y_put hM hC hk rfl rfl (by decide +kernel) tyX0 tyX0_ok nmX0 3 ⟨by decide, rfl, rfl, rfl, rfl⟩ (by decide +kernel) (ty := .int) (by decide +kernel) rfl rfl (Nat.le_of_ble_eq_true rfl) (T' := (up (up (up T 11 k 5 ((T 11 k 5) + (lb))) 11 k 4 (dd)) 11 k 3 ((T 11 k 3) + (1)))) (P' := P) (cF_up rfl) (fun _ _ h => up_ne h) (fun _ _ _ => rfl) dX0_goOn_43 (fun H locs hC => ?_)
    exact y_vret hM hr hlk hC ⟨rfl, trivial, (by unfold goT; rw [if_neg (by omega)])⟩ (Nat.le_of_ble_eq_true rfl) (Nat.le_of_ble_eq_true rfl) dX0_goOn_46
  ·
    refine y_aload_n hM hl 0 rfl rfl dX0_goOn_8 ?_
    refine lv_dup hM.1 hM.2.1 dX0_goOn_9 rfl ?_
    refine y_get hM hC hk rfl rfl (by decide +kernel) 6 ⟨by decide, rfl, rfl, rfl⟩ (by decide +kernel) rfl dX0_goOn_10 ?_
    refine y_iload_n hM hl 2 rfl rfl dX0_goOn_13 ?_
    refine y_iadd hM dX0_goOn_14 ?_
    refine y_put hM hC hk rfl rfl (by decide +kernel) tyX0 tyX0_ok nmX0 6 ⟨by decide, rfl, rfl, rfl, rfl⟩ (by decide +kernel) (ty := .int) (by decide +kernel) rfl rfl (Nat.le_of_ble_eq_true rfl) (T' := (up T 11 k 6 ((T 11 k 6) + (lb)))) (P' := P) (cF_up rfl) (fun _ _ h => up_ne h) (fun _ _ _ => rfl) dX0_goOn_15 (fun H locs hC => ?_)
    refine lv_goto (tgt := 31) hM.1 hM.2.1 dX0_goOn_18 (by decide) ?_
    refine y_aload_n hM hl 0 rfl rfl dX0_goOn_31 ?_
    refine y_iload_n hM hl 1 rfl rfl dX0_goOn_32 ?_
    refine y_put hM hC hk rfl rfl (by decide +kernel) tyX0 tyX0_ok nmX0 4 ⟨by decide, rfl, rfl, rfl, rfl⟩ (by decide +kernel) (ty := .int) (by decide +kernel) rfl rfl (Nat.le_of_ble_eq_true rfl) (T' := (up (up T 11 k 6 ((T 11 k 6) + (lb))) 11 k 4 (dd))) (P' := P) (cF_up rfl) (fun _ _ h => up_ne h) (fun _ _ _ => rfl) dX0_goOn_33 (fun H locs hC => ?_)
    refine y_aload_n hM hl 0 rfl rfl dX0_goOn_36 ?_
    refine lv_dup hM.1 hM.2.1 dX0_goOn_37 rfl ?_
    refine y_get hM hC hk rfl rfl (by decide +kernel) 3 ⟨by decide, rfl, rfl, rfl⟩ (by decide +kernel) (congrArg (fun q => some (Value.int (iI q))) (show (up (up T 11 k 6 ((T 11 k 6) + (lb))) 11 k 4 (dd)) 11 k 3 = T 11 k 3 from by simp [up])) dX0_goOn_38 ?_
    refine y_iconst hM dX0_goOn_41 ?_
    refine y_iadd hM dX0_goOn_42 ?_
    refine y_put hM hC hk rfl rfl (by decide +kernel) tyX0 tyX0_ok nmX0 3 ⟨by decide, rfl, rfl, rfl, rfl⟩ (by decide +kernel) (ty := .int) (by decide +kernel) rfl rfl (Nat.le_of_ble_eq_true rfl) (T' := (up (up (up T 11 k 6 ((T 11 k 6) + (lb))) 11 k 4 (dd)) 11 k 3 ((T 11 k 3) + (1)))) (P' := P) (cF_up rfl) (fun _ _ h => up_ne h) (fun _ _ _ => rfl) dX0_goOn_43 (fun H locs hC => ?_)
    exact y_vret hM hr hlk hC ⟨rfl, trivial, (by unfold goT; rw [if_pos (by omega)])⟩ (Nat.le_of_ble_eq_true rfl) (Nat.le_of_ble_eq_true rfl) dX0_goOn_46
