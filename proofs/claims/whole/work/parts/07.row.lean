set_option maxRecDepth 100000 in
set_option maxHeartbeats 8000000 in
theorem c_valueOn (l : Launch) (hfl : l.stackTraces = false) (G : GG) (b0 : Nat) (ks : KK) (ad : AD) (T : TT) (P : PP) (pv : Nat) (hpv : pv < 5) (hRK : RK ks ad P) (hRN : RN T) (dd : Int) (hd : 0 ≤ dd ∧ dd ≤ 2000) : vx_Met l yX1_valueOn wsX1_valueOn (rmX 0 0 0 0) (va_Pc [.ref (ad 6 pv), .int (iI (dd))] (Ok G b0 (ks, ad, T, P))) (Qr (pI (fun r => r = valT T pv dd) (ks, ad, T, P)) G b0) (Xr (noX) G b0) 0 0 (Wx b0) := by
  refine vx_ofW (cc := cX1_valueOn) (maxL := 4) (ret := (some .int)) (by decide +kernel) rfl ?_
  intro p e s m args below meth c s₁ B hml hto hv
  obtain ⟨rfl, hok⟩ := hv
  have hM : CallFix p m c cX1_valueOn 4 s _ wsX1_valueOn RX1 := ⟨B.exec, B.bytes, hml, findClass_of_methodNamed B.named, atoms_spec (ws := wsX1_valueOn) B.pre⟩
  have hr := B.returns
  have hlk := B.notSynchronized
  have hC := hok.cur
  have hl := lv_entry ([.ref (ad 6 pv), .int (iI (dd))]) (n := 4) (Nat.le_of_ble_eq_true rfl)
  rw [lg_entry_eq]
  generalize (lg_sl ([.ref (ad 6 pv), .int (iI (dd))]) ++ List.replicate (4 - (lg_sl ([.ref (ad 6 pv), .int (iI (dd))])).length) Slot.unset).toArray = ls at hl ⊢
  have hl : lv_has ls 4 [(0, .ref (ad 6 pv)), (1, .int (iI (dd)))] := hl
  obtain ⟨hk6, hk7, hk8, hk9, hq1, hq2, hq6, hq61⟩ := hRK pv hpv
  obtain ⟨hl0, hl1, ⟨h7, h70, h63, h64, hsi⟩, h8⟩ := hRN pv hpv
  have hloop : ∀ (m_ n : Nat), n + m_ = (T 6 pv 2).toNat → T 7 pv n ≤ dd → ∀ (ls : Array Slot), lv_has ls 4 [(3, .int (iI (((n + 1 : Nat) : Int)))), (2, .int (iI (T 8 pv n))), (0, .ref (ad 6 pv)), (1, .int (iI (dd)))] → W p l e (headSpec wsX1_valueOn (rmX 0 0 0 0)).room s m [.ref (ad 6 pv), .int (iI (dd))].toArray below meth c s.heap [] 0 0 (vx_MQ below (Qr (pI (fun r => r = valT T pv dd) (ks, ad, T, P)) G b0) (Xr (noX) G b0) [.ref (ad 6 pv), .int (iI (dd))].toArray s 0 0 (Wx b0)) (F0 m 6 ls []) := by
    intro m_
    induction m_ with
    | zero =>
      intro n hn he ls hl
      refine y_iload_n hM hl 0 rfl rfl dX1_valueOn_6 ?_
      refine y_aload_n hM hl 2 rfl rfl dX1_valueOn_7 ?_
      refine y_get hM hC hk6 rfl rfl (by decide +kernel) 2 ⟨by decide, rfl, rfl, rfl⟩ (by decide +kernel) (congrArg (fun q => some (Value.int (iI q))) (show T 6 pv 4 = T 6 pv 2 + 1 from h64)) dX1_valueOn_8 ?_
      refine y_icmp_ge hM (by constructor <;> omega) (by constructor <;> omega) (tgt := 43) dX1_valueOn_11 (by decide) (fun c_11 => ?_) (fun c_11 => False.elim (by omega))
      refine y_iload_n hM hl 1 rfl rfl dX1_valueOn_43 ?_
      exact y_iret hM hr hlk hC ⟨_, rfl, (by
      show T 8 pv n = T 8 pv (idxT T pv dd (T 6 pv 2).toNat)
      rw [← hn]
      exact congrArg _ (idxT_tp he).symm), rfl⟩ (Nat.le_of_ble_eq_true rfl) (Nat.le_of_ble_eq_true rfl) dX1_valueOn_44
    | succ m_ ih =>
      intro n hn he ls hl
      refine y_iload_n hM hl 0 rfl rfl dX1_valueOn_6 ?_
      refine y_aload_n hM hl 2 rfl rfl dX1_valueOn_7 ?_
      refine y_get hM hC hk6 rfl rfl (by decide +kernel) 2 ⟨by decide, rfl, rfl, rfl⟩ (by decide +kernel) (congrArg (fun q => some (Value.int (iI q))) (show T 6 pv 4 = T 6 pv 2 + 1 from h64)) dX1_valueOn_8 ?_
      refine y_icmp_ge hM (by constructor <;> omega) (by constructor <;> omega) (tgt := 43) dX1_valueOn_11 (by decide) (fun c_11 => False.elim (by omega)) (fun c_11 => ?_)
      refine y_iload_n hM hl 0 rfl rfl dX1_valueOn_14 ?_
      refine y_bipush hM dX1_valueOn_15 (by decide) ?_
      refine y_icmp_ge hM (by constructor <;> omega) (by constructor <;> omega) (tgt := 43) dX1_valueOn_17 (by decide) (fun c_17 => False.elim (by omega)) (fun c_17 => ?_)
      refine y_aload_n hM hl 2 rfl rfl dX1_valueOn_20 ?_
      refine y_get hM hC hk6 rfl rfl (by decide +kernel) 0 ⟨by decide, rfl, rfl, rfl⟩ (by decide +kernel) (congrArg (fun q => some (va_rf q)) hq6) dX1_valueOn_21 ?_
      refine W.eq (g2 := F0 m 24 ls [.ref (ad 7 pv)]) rfl ?_
      refine y_iload_n hM hl 0 rfl rfl dX1_valueOn_24 ?_
      refine y_iald hM hC hk7 rfl ⟨by omega, by omega⟩ (by decide) (x := T 7 pv (n + 1)) rfl dX1_valueOn_25 ?_
      refine y_iload_n hM hl 3 rfl rfl dX1_valueOn_26 ?_
      refine y_icmp_gt hM (h7 _) ⟨by omega, by omega⟩ (tgt := 43) dX1_valueOn_27 (by decide) (fun c_27 => ?_) (fun c_27 => ?_)
      ·
        refine y_iload_n hM hl 1 rfl rfl dX1_valueOn_43 ?_
        exact y_iret hM hr hlk hC ⟨_, rfl, (by
      show T 8 pv n = T 8 pv (idxT T pv dd (T 6 pv 2).toNat)
      rw [← hn]
      exact congrArg _ (idxT_mid hsi he (by omega) _ (by omega)).symm), rfl⟩ (Nat.le_of_ble_eq_true rfl) (Nat.le_of_ble_eq_true rfl) dX1_valueOn_44
      ·
        refine y_aload_n hM hl 2 rfl rfl dX1_valueOn_30 ?_
        refine y_get hM hC hk6 rfl rfl (by decide +kernel) 1 ⟨by decide, rfl, rfl, rfl⟩ (by decide +kernel) (congrArg (fun q => some (va_rf q)) hq61) dX1_valueOn_31 ?_
        refine W.eq (g2 := F0 m 34 ls [.ref (ad 8 pv)]) rfl ?_
        refine y_iload_n hM hl 0 rfl rfl dX1_valueOn_34 ?_
        refine y_iald hM hC hk8 rfl ⟨by omega, by omega⟩ (by decide) (x := T 8 pv (n + 1)) rfl dX1_valueOn_35 ?_
        refine lv_istore_n (lv' := [(2, .int (iI (T 8 pv (n + 1)))), (3, .int (iI (((n + 1 : Nat) : Int)))), (0, .ref (ad 6 pv)), (1, .int (iI (dd)))]) hM.1 hM.2.1 dX1_valueOn_36 rfl hl (by decide) rfl (fun ls hl => ?_)
        refine lv_iinc (v := iI ((((n + 1 : Nat) : Int)) + (1))) (lv' := [(3, .int (iI ((((n + 1 : Nat) : Int)) + (1)))), (2, .int (iI (T 8 pv (n + 1)))), (0, .ref (ad 6 pv)), (1, .int (iI (dd)))]) hM.1 hM.2.1 dX1_valueOn_37 hl (k := 1) rfl (iI_add _ _) (by decide) rfl (fun ls hl => ?_)
        refine lv_goto (tgt := 6) hM.1 hM.2.1 dX1_valueOn_40 (by decide) ?_
        have hz : (((n + 1 : Nat) : Int)) + (1) = ((n + 1 + 1 : Nat) : Int) := by omega
        rw [hz] at hl
        exact ih (n + 1) (by omega) (by omega) ls hl
  refine y_sipush hM dX1_valueOn_0 (by decide) ?_
  refine lv_istore_n (lv' := [(2, .int (iI (1000))), (0, .ref (ad 6 pv)), (1, .int (iI (dd)))]) hM.1 hM.2.1 dX1_valueOn_3 rfl hl (by decide) rfl (fun ls hl => ?_)
  refine y_iconst hM dX1_valueOn_4 ?_
  refine lv_istore_n (lv' := [(3, .int (iI (0))), (2, .int (iI (1000))), (0, .ref (ad 6 pv)), (1, .int (iI (dd)))]) hM.1 hM.2.1 dX1_valueOn_5 rfl hl (by decide) rfl (fun ls hl => ?_)
  refine y_iload_n hM hl 0 rfl rfl dX1_valueOn_6 ?_
  refine y_aload_n hM hl 2 rfl rfl dX1_valueOn_7 ?_
  refine y_get hM hC hk6 rfl rfl (by decide +kernel) 2 ⟨by decide, rfl, rfl, rfl⟩ (by decide +kernel) (congrArg (fun q => some (Value.int (iI q))) (show T 6 pv 4 = T 6 pv 2 + 1 from h64)) dX1_valueOn_8 ?_
  refine y_icmp_ge hM (by constructor <;> omega) (by constructor <;> omega) (tgt := 43) dX1_valueOn_11 (by decide) (fun c_11 => False.elim (by omega)) (fun c_11 => ?_)
  refine y_iload_n hM hl 0 rfl rfl dX1_valueOn_14 ?_
  refine y_bipush hM dX1_valueOn_15 (by decide) ?_
  refine y_icmp_ge hM (by constructor <;> omega) (by constructor <;> omega) (tgt := 43) dX1_valueOn_17 (by decide) (fun c_17 => False.elim (by omega)) (fun c_17 => ?_)
  refine y_aload_n hM hl 2 rfl rfl dX1_valueOn_20 ?_
  refine y_get hM hC hk6 rfl rfl (by decide +kernel) 0 ⟨by decide, rfl, rfl, rfl⟩ (by decide +kernel) (congrArg (fun q => some (va_rf q)) hq6) dX1_valueOn_21 ?_
  refine W.eq (g2 := F0 m 24 ls [.ref (ad 7 pv)]) rfl ?_
  refine y_iload_n hM hl 0 rfl rfl dX1_valueOn_24 ?_
  refine y_iald hM hC hk7 rfl ⟨by omega, by omega⟩ (by decide) (x := T 7 pv 0) rfl dX1_valueOn_25 ?_
  refine y_iload_n hM hl 3 rfl rfl dX1_valueOn_26 ?_
  refine y_icmp_gt hM (h7 _) ⟨by omega, by omega⟩ (tgt := 43) dX1_valueOn_27 (by decide) (fun c_27 => False.elim (by omega)) (fun c_27 => ?_)
  refine y_aload_n hM hl 2 rfl rfl dX1_valueOn_30 ?_
  refine y_get hM hC hk6 rfl rfl (by decide +kernel) 1 ⟨by decide, rfl, rfl, rfl⟩ (by decide +kernel) (congrArg (fun q => some (va_rf q)) hq61) dX1_valueOn_31 ?_
  refine W.eq (g2 := F0 m 34 ls [.ref (ad 8 pv)]) rfl ?_
  refine y_iload_n hM hl 0 rfl rfl dX1_valueOn_34 ?_
  refine y_iald hM hC hk8 rfl ⟨by omega, by omega⟩ (by decide) (x := T 8 pv 0) rfl dX1_valueOn_35 ?_
  refine lv_istore_n (lv' := [(2, .int (iI (T 8 pv 0))), (3, .int (iI (0))), (0, .ref (ad 6 pv)), (1, .int (iI (dd)))]) hM.1 hM.2.1 dX1_valueOn_36 rfl hl (by decide) rfl (fun ls hl => ?_)
  refine lv_iinc (v := iI ((0) + (1))) (lv' := [(3, .int (iI ((0) + (1)))), (2, .int (iI (T 8 pv 0))), (0, .ref (ad 6 pv)), (1, .int (iI (dd)))]) hM.1 hM.2.1 dX1_valueOn_37 hl (k := 1) rfl (iI_add _ _) (by decide) rfl (fun ls hl => ?_)
  refine lv_goto (tgt := 6) hM.1 hM.2.1 dX1_valueOn_40 (by decide) ?_
  exact hloop (T 6 pv 2).toNat 0 (by omega) (by omega) ls hl

set_option maxRecDepth 100000 in
set_option maxHeartbeats 8000000 in
theorem c_put (l : Launch) (hfl : l.stackTraces = false) (G : GG) (b0 : Nat) (ks : KK) (ad : AD) (T : TT) (P : PP) (pv : Nat) (hpv : pv < 5) (hRK : RK ks ad P) (hRN : RN T) (dd v : Int) (hd : inI dd) : vx_Met l yX1_put wsX1_put (rmX 1 0 0 22) (va_Pc [.ref (ad 6 pv), .int (iI (dd)), .int (iI (v))] (Ok G b0 (ks, ad, T, P))) (Qr (pI (fun r => (r = 1 ∧ (T 7 pv (T 6 pv 2).toNat = dd ∨ T 6 pv 2 < 60)) ∨ (r = 0 ∧ T 7 pv (T 6 pv 2).toNat ≠ dd ∧ 60 ≤ T 6 pv 2)) (ks, ad, putT T pv dd v, P)) G b0) (Xr (noX) G b0) 0 0 (Wx b0) := by
  refine vx_ofW (cc := cX1_put) (maxL := 4) (ret := (some .boolean)) (by decide +kernel) rfl ?_
  intro p e s m args below meth c s₁ B hml hto hv
  obtain ⟨rfl, hok⟩ := hv
  have hM : CallFix p m c cX1_put 4 s _ wsX1_put RX1 := ⟨B.exec, B.bytes, hml, findClass_of_methodNamed B.named, atoms_spec (ws := wsX1_put) B.pre⟩
  have hr := B.returns
  have hlk := B.notSynchronized
  have hC := hok.cur
  have hl := lv_entry ([.ref (ad 6 pv), .int (iI (dd)), .int (iI (v))]) (n := 4) (Nat.le_of_ble_eq_true rfl)
  rw [lg_entry_eq]
  generalize (lg_sl ([.ref (ad 6 pv), .int (iI (dd)), .int (iI (v))]) ++ List.replicate (4 - (lg_sl ([.ref (ad 6 pv), .int (iI (dd)), .int (iI (v))])).length) Slot.unset).toArray = ls at hl ⊢
  have hl : lv_has ls 4 [(0, .ref (ad 6 pv)), (1, .int (iI (dd))), (2, .int (iI (v)))] := hl
  obtain ⟨hk6, hk7, hk8, hk9, hq1, hq2, hq6, hq61⟩ := hRK pv hpv
  obtain ⟨hl0, hl1, ⟨h7, h70, h63, h64, hsi⟩, h8⟩ := hRN pv hpv
  refine y_iload_n hM hl 1 rfl rfl dX1_put_0 ?_
  refine y_aload_n hM hl 0 rfl rfl dX1_put_1 ?_
  refine y_get hM hC hk6 rfl rfl (by decide +kernel) 3 ⟨by decide, rfl, rfl, rfl⟩ (by decide +kernel) rfl dX1_put_2 ?_
  refine y_icmp_ne hM hd (by rw [h63]; exact h7 _) (tgt := 17) dX1_put_5 (by decide) (fun c_5 => ?_) (fun c_5 => ?_)
  ·
    refine y_aload_n hM hl 0 rfl rfl dX1_put_17 ?_
    refine y_get hM hC hk6 rfl rfl (by decide +kernel) 2 ⟨by decide, rfl, rfl, rfl⟩ (by decide +kernel) (congrArg (fun q => some (Value.int (iI q))) (show T 6 pv 4 = T 6 pv 2 + 1 from h64)) dX1_put_18 ?_
    refine lv_istore_n (lv' := [(3, .int (iI (T 6 pv 2 + 1))), (0, .ref (ad 6 pv)), (1, .int (iI (dd))), (2, .int (iI (v)))]) hM.1 hM.2.1 dX1_put_21 rfl hl (by decide) rfl (fun ls hl => ?_)
    refine y_iload_n hM hl 0 rfl rfl dX1_put_22 ?_
    refine y_iconst hM dX1_put_23 ?_
    refine y_bipush hM dX1_put_24 (by decide) ?_
    refine y_callSN hM hC (c_isOutside l hfl G b0 (ks, ad, T, P) (T 6 pv 2 + 1) (0) (60) (by constructor <;> omega) (by constructor <;> omega) (by constructor <;> omega)) ⟨va_cnB 3 hM.2.2.2.2 gX1_put_X3_isOutside_n25 rfl rfl rfl hC.2.2.1.2.2.1.2 (hM.2.2.2.2 (.initialized RX3) (by decide +kernel)) (by decide +kernel) ⟨(Nat.le_of_ble_eq_true rfl), (Nat.le_of_ble_eq_true rfl)⟩, hM.2.2.2.2 (.static yX3_isOutside) (by decide +kernel), trivial⟩ rfl hl.1 rfl (Nat.le_of_ble_eq_true rfl) dX1_put_26 ⟨(Nat.le_of_ble_eq_true rfl), (Nat.le_of_ble_eq_true rfl)⟩ (fun v u1 H locs hp hC => ?_)
    obtain ⟨r_26, rfl, h_26, hu⟩ := hp; rw [hu] at hC; clear hu
    try dsimp only at h_26
    refine W.eq (g2 := F0 m 29 ls [.int (iI (r_26))]) rfl ?_
    refine y_if_eq hM (by constructor <;> omega) (tgt := 34) dX1_put_29 (by decide) (fun c_29 => ?_) (fun c_29 => ?_)
    ·
      refine y_aload_n hM hl 1 rfl rfl dX1_put_34 ?_
      refine y_get hM hC hk6 rfl rfl (by decide +kernel) 0 ⟨by decide, rfl, rfl, rfl⟩ (by decide +kernel) (congrArg (fun q => some (va_rf q)) hq6) dX1_put_35 ?_
      refine W.eq (g2 := F0 m 38 ls [.ref (ad 7 pv)]) rfl ?_
      refine y_iload_n hM hl 0 rfl rfl dX1_put_38 ?_
      refine y_iload_n hM hl 2 rfl rfl dX1_put_39 ?_
      refine y_iast hM hC hk7 (fun _ _ => rfl) ⟨by omega, by omega⟩ (by decide) dX1_put_40 (fun H locs hC => ?_)
      refine y_aload_n hM hl 1 rfl rfl dX1_put_41 ?_
      refine y_get hM hC hk6 rfl rfl (by decide +kernel) 1 ⟨by decide, rfl, rfl, rfl⟩ (by decide +kernel) (congrArg (fun q => some (va_rf q)) hq61) dX1_put_42 ?_
      refine W.eq (g2 := F0 m 45 ls [.ref (ad 8 pv)]) rfl ?_
      refine y_iload_n hM hl 0 rfl rfl dX1_put_45 ?_
      refine y_iload_n hM hl 3 rfl rfl dX1_put_46 ?_
      refine y_iast hM hC hk8 (fun _ _ => rfl) ⟨by omega, by omega⟩ (by decide) dX1_put_47 (fun H locs hC => ?_)
      refine y_aload_n hM hl 1 rfl rfl dX1_put_48 ?_
      refine y_iload_n hM hl 2 rfl rfl dX1_put_49 ?_
      refine y_put hM hC hk6 rfl rfl (by decide +kernel) tyX1 tyX1_ok nmX1 3 ⟨by decide, rfl, rfl, rfl, rfl⟩ (by decide +kernel) (ty := .int) (by decide +kernel) rfl rfl (Nat.le_of_ble_eq_true rfl) (T' := (up (up (up T 7 pv ((T 6 pv 2 + 1).toNat) (dd)) 8 pv ((T 6 pv 2 + 1).toNat) (v)) 6 pv 3 (dd))) (P' := P) (cF_up rfl) (fun _ _ h => up_ne h) (fun _ _ _ => rfl) dX1_put_50 (fun H locs hC => ?_)
      refine y_aload_n hM hl 1 rfl rfl dX1_put_53 ?_
      refine y_iload_n hM hl 0 rfl rfl dX1_put_54 ?_
      refine y_iconst hM dX1_put_55 ?_
      refine y_iadd hM dX1_put_56 ?_
      refine y_put hM hC hk6 rfl rfl (by decide +kernel) tyX1 tyX1_ok nmX1 2 ⟨by decide, rfl, rfl, rfl, rfl⟩ (by decide +kernel) (ty := .int) (by decide +kernel) rfl rfl (Nat.le_of_ble_eq_true rfl) (T' := (up (up (up (up T 7 pv ((T 6 pv 2 + 1).toNat) (dd)) 8 pv ((T 6 pv 2 + 1).toNat) (v)) 6 pv 3 (dd)) 6 pv 4 ((T 6 pv 2 + 1) + (1)))) (P' := P) (cF_up rfl) (fun _ _ h => up_ne h) (fun _ _ _ => rfl) dX1_put_57 (fun H locs hC => ?_)
      have hC := Cur_ghost pv (T 6 pv 2 + 1) hC
      refine y_iconst hM dX1_put_60 ?_
      exact y_zret hM hr hlk hC (by decide) ⟨_, rfl, (by (try dsimp only); omega), (by unfold putT; rw [if_neg (by omega), if_neg (by omega)])⟩ (Nat.le_of_ble_eq_true rfl) (Nat.le_of_ble_eq_true rfl) dX1_put_61
    ·
      refine y_iconst hM dX1_put_32 ?_
      exact y_zret hM hr hlk hC (by decide) ⟨_, rfl, (by (try dsimp only); omega), (by unfold putT; rw [if_neg (by omega), if_pos (by omega)])⟩ (Nat.le_of_ble_eq_true rfl) (Nat.le_of_ble_eq_true rfl) dX1_put_33
  ·
    refine y_aload_n hM hl 0 rfl rfl dX1_put_8 ?_
    refine y_get hM hC hk6 rfl rfl (by decide +kernel) 2 ⟨by decide, rfl, rfl, rfl⟩ (by decide +kernel) (congrArg (fun q => some (Value.int (iI q))) (show T 6 pv 4 = T 6 pv 2 + 1 from h64)) dX1_put_9 ?_
    refine y_iconst hM dX1_put_12 ?_
    refine y_isub hM dX1_put_13 ?_
    refine lv_goto (tgt := 21) hM.1 hM.2.1 dX1_put_14 (by decide) ?_
    refine lv_istore_n (lv' := [(3, .int (iI ((T 6 pv 2 + 1) - (1)))), (0, .ref (ad 6 pv)), (1, .int (iI (dd))), (2, .int (iI (v)))]) hM.1 hM.2.1 dX1_put_21 rfl hl (by decide) rfl (fun ls hl => ?_)
    refine y_iload_n hM hl 0 rfl rfl dX1_put_22 ?_
    refine y_iconst hM dX1_put_23 ?_
    refine y_bipush hM dX1_put_24 (by decide) ?_
    refine y_callSN hM hC (c_isOutside l hfl G b0 (ks, ad, T, P) ((T 6 pv 2 + 1) - (1)) (0) (60) (by constructor <;> omega) (by constructor <;> omega) (by constructor <;> omega)) ⟨va_cnB 3 hM.2.2.2.2 gX1_put_X3_isOutside_n25 rfl rfl rfl hC.2.2.1.2.2.1.2 (hM.2.2.2.2 (.initialized RX3) (by decide +kernel)) (by decide +kernel) ⟨(Nat.le_of_ble_eq_true rfl), (Nat.le_of_ble_eq_true rfl)⟩, hM.2.2.2.2 (.static yX3_isOutside) (by decide +kernel), trivial⟩ rfl hl.1 rfl (Nat.le_of_ble_eq_true rfl) dX1_put_26 ⟨(Nat.le_of_ble_eq_true rfl), (Nat.le_of_ble_eq_true rfl)⟩ (fun v u1 H locs hp hC => ?_)
    obtain ⟨r_26, rfl, h_26, hu⟩ := hp; rw [hu] at hC; clear hu
    try dsimp only at h_26
    refine W.eq (g2 := F0 m 29 ls [.int (iI (r_26))]) rfl ?_
    refine y_if_eq hM (by constructor <;> omega) (tgt := 34) dX1_put_29 (by decide) (fun c_29 => ?_) (fun c_29 => False.elim (by omega))
    refine y_aload_n hM hl 1 rfl rfl dX1_put_34 ?_
    refine y_get hM hC hk6 rfl rfl (by decide +kernel) 0 ⟨by decide, rfl, rfl, rfl⟩ (by decide +kernel) (congrArg (fun q => some (va_rf q)) hq6) dX1_put_35 ?_
    refine W.eq (g2 := F0 m 38 ls [.ref (ad 7 pv)]) rfl ?_
    refine y_iload_n hM hl 0 rfl rfl dX1_put_38 ?_
    refine y_iload_n hM hl 2 rfl rfl dX1_put_39 ?_
    refine y_iast hM hC hk7 (fun _ _ => rfl) ⟨by omega, by omega⟩ (by decide) dX1_put_40 (fun H locs hC => ?_)
    refine y_aload_n hM hl 1 rfl rfl dX1_put_41 ?_
    refine y_get hM hC hk6 rfl rfl (by decide +kernel) 1 ⟨by decide, rfl, rfl, rfl⟩ (by decide +kernel) (congrArg (fun q => some (va_rf q)) hq61) dX1_put_42 ?_
    refine W.eq (g2 := F0 m 45 ls [.ref (ad 8 pv)]) rfl ?_
    refine y_iload_n hM hl 0 rfl rfl dX1_put_45 ?_
    refine y_iload_n hM hl 3 rfl rfl dX1_put_46 ?_
    refine y_iast hM hC hk8 (fun _ _ => rfl) ⟨by omega, by omega⟩ (by decide) dX1_put_47 (fun H locs hC => ?_)
    refine y_aload_n hM hl 1 rfl rfl dX1_put_48 ?_
    refine y_iload_n hM hl 2 rfl rfl dX1_put_49 ?_
    refine y_put hM hC hk6 rfl rfl (by decide +kernel) tyX1 tyX1_ok nmX1 3 ⟨by decide, rfl, rfl, rfl, rfl⟩ (by decide +kernel) (ty := .int) (by decide +kernel) rfl rfl (Nat.le_of_ble_eq_true rfl) (T' := (up (up (up T 7 pv (((T 6 pv 2 + 1) - (1)).toNat) (dd)) 8 pv (((T 6 pv 2 + 1) - (1)).toNat) (v)) 6 pv 3 (dd))) (P' := P) (cF_up rfl) (fun _ _ h => up_ne h) (fun _ _ _ => rfl) dX1_put_50 (fun H locs hC => ?_)
    refine y_aload_n hM hl 1 rfl rfl dX1_put_53 ?_
    refine y_iload_n hM hl 0 rfl rfl dX1_put_54 ?_
    refine y_iconst hM dX1_put_55 ?_
    refine y_iadd hM dX1_put_56 ?_
    refine y_put hM hC hk6 rfl rfl (by decide +kernel) tyX1 tyX1_ok nmX1 2 ⟨by decide, rfl, rfl, rfl, rfl⟩ (by decide +kernel) (ty := .int) (by decide +kernel) rfl rfl (Nat.le_of_ble_eq_true rfl) (T' := (up (up (up (up T 7 pv (((T 6 pv 2 + 1) - (1)).toNat) (dd)) 8 pv (((T 6 pv 2 + 1) - (1)).toNat) (v)) 6 pv 3 (dd)) 6 pv 4 (((T 6 pv 2 + 1) - (1)) + (1)))) (P' := P) (cF_up rfl) (fun _ _ h => up_ne h) (fun _ _ _ => rfl) dX1_put_57 (fun H locs hC => ?_)
    refine y_iconst hM dX1_put_60 ?_
    exact y_zret hM hr hlk hC (by decide) ⟨_, rfl, (by (try dsimp only); omega), (by unfold putT; rw [if_pos (by omega), put_same h63 (by omega) h64 (by omega) (by omega)])⟩ (Nat.le_of_ble_eq_true rfl) (Nat.le_of_ble_eq_true rfl) dX1_put_61
