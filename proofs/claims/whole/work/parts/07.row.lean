set_option maxRecDepth 100000 in
set_option maxHeartbeats 8000000 in
theorem c_valueOn (l : Launch) (hfl : l.stackTraces = false) (G : GG) (b0 : Nat) (ks : KK) (ad : AD) (T : TT) (P : PP) (pv : Nat) (hpv : pv < 5) (hRK : RK ks ad P) (hRN : RN T) (dd : Int) (hd : inI dd) : vx_Met l yX1_valueOn wsX1_valueOn (rmX 0 0 0 0) (va_Pc [.ref (ad 6 pv), .int (iI (dd))] (Ok G b0 (ks, ad, T, P))) (Qr (pI (fun r => r = valT T pv dd) (ks, ad, T, P)) G b0) (Xr (noX) G b0) 0 0 (Wx b0) := by
  refine vx_ofW (cc := cX1_valueOn) (maxL := 3) (ret := (some .int)) (by decide +kernel) rfl ?_
  intro p e s m args below meth c s₁ B hml hto hv
  obtain ⟨rfl, hok⟩ := hv
  have hM : CallFix p m c cX1_valueOn 3 s _ wsX1_valueOn RX1 := ⟨B.exec, B.bytes, hml, findClass_of_methodNamed B.named, atoms_spec (ws := wsX1_valueOn) B.pre⟩
  have hr := B.returns
  have hlk := B.notSynchronized
  have hC := hok.cur
  have hl := lv_entry ([.ref (ad 6 pv), .int (iI (dd))]) (n := 3) (Nat.le_of_ble_eq_true rfl)
  rw [lg_entry_eq]
  generalize (lg_sl ([.ref (ad 6 pv), .int (iI (dd))]) ++ List.replicate (3 - (lg_sl ([.ref (ad 6 pv), .int (iI (dd))])).length) Slot.unset).toArray = ls at hl ⊢
  have hl : lv_has ls 3 [(0, .ref (ad 6 pv)), (1, .int (iI (dd)))] := hl
  obtain ⟨hk6, hk7, hk8, hk9, hq1, hq2, hq6, hq61⟩ := hRK pv hpv
  obtain ⟨hl0, hl1, h7, h8⟩ := hRN pv hpv
  have hloop : ∀ (n : Nat), (n : Int) ≤ T 6 pv 2 → idxT T pv dd (T 6 pv 2).toNat = idxT T pv dd n → ∀ (ls : Array Slot), lv_has ls 3 [(2, .int (iI (((n) : Nat) : Int))), (0, .ref (ad 6 pv)), (1, .int (iI (dd)))] → W p l e (headSpec wsX1_valueOn (rmX 0 0 0 0)).room s m [.ref (ad 6 pv), .int (iI (dd))].toArray below meth c s.heap [] 0 0 (vx_MQ below (Qr (pI (fun r => r = valT T pv dd) (ks, ad, T, P)) G b0) (Xr (noX) G b0) [.ref (ad 6 pv), .int (iI (dd))].toArray s 0 0 (Wx b0)) (F0 m 5 ls []) := by
    intro n
    induction n with
    | zero =>
      intro hn he ls hl
      refine y_iload_n hM hl 0 rfl rfl dX1_valueOn_5 ?_
      refine y_if_le hM (by constructor <;> omega) (tgt := 25) dX1_valueOn_6 (by decide) (fun c_6 => ?_) (fun c_6 => False.elim (by omega))
      refine y_aload_n hM hl 1 rfl rfl dX1_valueOn_25 ?_
      refine y_get hM hC hk6 rfl rfl (by decide +kernel) 1 ⟨by decide, rfl, rfl, rfl⟩ (by decide +kernel) (congrArg (fun q => some (va_rf q)) hq61) dX1_valueOn_26 ?_
      refine W.eq (g2 := F0 m 29 ls [.ref (ad 8 pv)]) rfl ?_
      refine y_iload_n hM hl 0 rfl rfl dX1_valueOn_29 ?_
      refine y_iald hM hC hk8 rfl ⟨by omega, by omega⟩ (by decide) (x := T 8 pv (0)) rfl dX1_valueOn_30 ?_
      exact y_iret hM hr hlk hC ⟨_, rfl, (by
      show T 8 pv 0 = T 8 pv (idxT T pv dd (T 6 pv 2).toNat)
      rw [he]
      rfl), rfl⟩ (Nat.le_of_ble_eq_true rfl) (Nat.le_of_ble_eq_true rfl) dX1_valueOn_31
    | succ n ih =>
      intro hn he ls hl
      refine y_iload_n hM hl 0 rfl rfl dX1_valueOn_5 ?_
      refine y_if_le hM (by constructor <;> omega) (tgt := 25) dX1_valueOn_6 (by decide) (fun c_6 => False.elim (by omega)) (fun c_6 => ?_)
      refine y_aload_n hM hl 1 rfl rfl dX1_valueOn_9 ?_
      refine y_get hM hC hk6 rfl rfl (by decide +kernel) 0 ⟨by decide, rfl, rfl, rfl⟩ (by decide +kernel) (congrArg (fun q => some (va_rf q)) hq6) dX1_valueOn_10 ?_
      refine W.eq (g2 := F0 m 13 ls [.ref (ad 7 pv)]) rfl ?_
      refine y_iload_n hM hl 0 rfl rfl dX1_valueOn_13 ?_
      refine y_iald hM hC hk7 rfl ⟨by omega, by omega⟩ (by decide) (x := T 7 pv (n + 1)) rfl dX1_valueOn_14 ?_
      refine y_iload_n hM hl 2 rfl rfl dX1_valueOn_15 ?_
      refine y_icmp_le hM (h7 _) hd (tgt := 25) dX1_valueOn_16 (by decide) (fun c_16 => ?_) (fun c_16 => ?_)
      ·
        refine y_aload_n hM hl 1 rfl rfl dX1_valueOn_25 ?_
        refine y_get hM hC hk6 rfl rfl (by decide +kernel) 1 ⟨by decide, rfl, rfl, rfl⟩ (by decide +kernel) (congrArg (fun q => some (va_rf q)) hq61) dX1_valueOn_26 ?_
        refine W.eq (g2 := F0 m 29 ls [.ref (ad 8 pv)]) rfl ?_
        refine y_iload_n hM hl 0 rfl rfl dX1_valueOn_29 ?_
        refine y_iald hM hC hk8 rfl ⟨by omega, by omega⟩ (by decide) (x := T 8 pv (n + 1)) rfl dX1_valueOn_30 ?_
        exact y_iret hM hr hlk hC ⟨_, rfl, (by
      show T 8 pv (n + 1) = T 8 pv (idxT T pv dd (T 6 pv 2).toNat)
      rw [he]
      show T 8 pv (n + 1) = T 8 pv (if dd < T 7 pv (n + 1) then idxT T pv dd n else n + 1)
      rw [if_neg (by omega)]), rfl⟩ (Nat.le_of_ble_eq_true rfl) (Nat.le_of_ble_eq_true rfl) dX1_valueOn_31
      ·
        refine lv_iinc (v := iI ((((n + 1 : Nat) : Int)) + (-1))) (lv' := [(2, .int (iI ((((n + 1 : Nat) : Int)) + (-1)))), (0, .ref (ad 6 pv)), (1, .int (iI (dd)))]) hM.1 hM.2.1 dX1_valueOn_19 hl (k := 0) rfl (iI_add _ _) (by decide) rfl (fun ls hl => ?_)
        refine lv_goto (tgt := 5) hM.1 hM.2.1 dX1_valueOn_22 (by decide) ?_
        have hz : (((n + 1 : Nat) : Int)) + (-1) = ((n : Nat) : Int) := by omega
        rw [hz] at hl
        exact ih (by omega) (by
          rw [he]
          show (if dd < T 7 pv (n + 1) then idxT T pv dd n else n + 1) = _
          rw [if_pos (by omega)]) ls hl
  refine y_aload_n hM hl 0 rfl rfl dX1_valueOn_0 ?_
  refine y_get hM hC hk6 rfl rfl (by decide +kernel) 2 ⟨by decide, rfl, rfl, rfl⟩ (by decide +kernel) rfl dX1_valueOn_1 ?_
  refine lv_istore_n (lv' := [(2, .int (iI (T 6 pv 2))), (0, .ref (ad 6 pv)), (1, .int (iI (dd)))]) hM.1 hM.2.1 dX1_valueOn_4 rfl hl (by decide) rfl (fun ls hl => ?_)
  have hz : T 6 pv 2 = (((T 6 pv 2).toNat : Nat) : Int) := by omega
  have hl2 := hl
  rw [show iI (T 6 pv 2) = iI ((((T 6 pv 2).toNat : Nat) : Int)) from congrArg iI hz] at hl2
  exact hloop _ (by omega) rfl ls hl2

set_option maxRecDepth 100000 in
set_option maxHeartbeats 8000000 in
theorem c_put (l : Launch) (hfl : l.stackTraces = false) (G : GG) (b0 : Nat) (ks : KK) (ad : AD) (T : TT) (P : PP) (pv : Nat) (hpv : pv < 5) (hRK : RK ks ad P) (hRN : RN T) (dd v : Int) (hd : inI dd) : vx_Met l yX1_put wsX1_put (rmX 0 0 0 0) (va_Pc [.ref (ad 6 pv), .int (iI (dd)), .int (iI (v))] (Ok G b0 (ks, ad, T, P))) (Qr (pI (fun r => (r = 1 ∧ (T 7 pv (T 6 pv 2).toNat = dd ∨ T 6 pv 2 < 60)) ∨ (r = 0 ∧ T 7 pv (T 6 pv 2).toNat ≠ dd ∧ 60 ≤ T 6 pv 2)) (ks, ad, putT T pv dd v, P)) G b0) (Xr (noX) G b0) 0 0 (Wx b0) := by
  refine vx_ofW (cc := cX1_put) (maxL := 3) (ret := (some .boolean)) (by decide +kernel) rfl ?_
  intro p e s m args below meth c s₁ B hml hto hv
  obtain ⟨rfl, hok⟩ := hv
  have hM : CallFix p m c cX1_put 3 s _ wsX1_put RX1 := ⟨B.exec, B.bytes, hml, findClass_of_methodNamed B.named, atoms_spec (ws := wsX1_put) B.pre⟩
  have hr := B.returns
  have hlk := B.notSynchronized
  have hC := hok.cur
  have hl := lv_entry ([.ref (ad 6 pv), .int (iI (dd)), .int (iI (v))]) (n := 3) (Nat.le_of_ble_eq_true rfl)
  rw [lg_entry_eq]
  generalize (lg_sl ([.ref (ad 6 pv), .int (iI (dd)), .int (iI (v))]) ++ List.replicate (3 - (lg_sl ([.ref (ad 6 pv), .int (iI (dd)), .int (iI (v))])).length) Slot.unset).toArray = ls at hl ⊢
  have hl : lv_has ls 3 [(0, .ref (ad 6 pv)), (1, .int (iI (dd))), (2, .int (iI (v)))] := hl
  obtain ⟨hk6, hk7, hk8, hk9, hq1, hq2, hq6, hq61⟩ := hRK pv hpv
  obtain ⟨hl0, hl1, h7, h8⟩ := hRN pv hpv
  refine y_aload_n hM hl 0 rfl rfl dX1_put_0 ?_
  refine y_get hM hC hk6 rfl rfl (by decide +kernel) 0 ⟨by decide, rfl, rfl, rfl⟩ (by decide +kernel) (congrArg (fun q => some (va_rf q)) hq6) dX1_put_1 ?_
  refine W.eq (g2 := F0 m 4 ls [.ref (ad 7 pv)]) rfl ?_
  refine y_aload_n hM hl 0 rfl rfl dX1_put_4 ?_
  refine y_get hM hC hk6 rfl rfl (by decide +kernel) 2 ⟨by decide, rfl, rfl, rfl⟩ (by decide +kernel) rfl dX1_put_5 ?_
  refine y_iald hM hC hk7 rfl ⟨by omega, by omega⟩ (by decide) (x := T 7 pv (T 6 pv 2).toNat) rfl dX1_put_8 ?_
  refine y_iload_n hM hl 1 rfl rfl dX1_put_9 ?_
  refine y_icmp_eq hM (h7 _) hd (tgt := 46) dX1_put_10 (by decide) (fun c_10 => ?_) (fun c_10 => ?_)
  ·
    refine y_aload_n hM hl 0 rfl rfl dX1_put_46 ?_
    refine y_get hM hC hk6 rfl rfl (by decide +kernel) 1 ⟨by decide, rfl, rfl, rfl⟩ (by decide +kernel) (congrArg (fun q => some (va_rf q)) hq61) dX1_put_47 ?_
    refine W.eq (g2 := F0 m 50 ls [.ref (ad 8 pv)]) rfl ?_
    refine y_aload_n hM hl 0 rfl rfl dX1_put_50 ?_
    refine y_get hM hC hk6 rfl rfl (by decide +kernel) 2 ⟨by decide, rfl, rfl, rfl⟩ (by decide +kernel) rfl dX1_put_51 ?_
    refine y_iload_n hM hl 2 rfl rfl dX1_put_54 ?_
    refine y_iast hM hC hk8 (fun _ _ => rfl) ⟨by omega, by omega⟩ (by decide) dX1_put_55 (fun H locs hC => ?_)
    refine y_iconst hM dX1_put_56 ?_
    exact y_zret hM hr hlk hC (by decide) ⟨_, rfl, (by (try dsimp only); omega), (by unfold putT; rw [if_pos c_10])⟩ (Nat.le_of_ble_eq_true rfl) (Nat.le_of_ble_eq_true rfl) dX1_put_57
  ·
    refine y_aload_n hM hl 0 rfl rfl dX1_put_13 ?_
    refine y_get hM hC hk6 rfl rfl (by decide +kernel) 2 ⟨by decide, rfl, rfl, rfl⟩ (by decide +kernel) rfl dX1_put_14 ?_
    refine y_iconst hM dX1_put_17 ?_
    refine y_iadd hM dX1_put_18 ?_
    refine y_bipush hM dX1_put_19 (by decide) ?_
    refine y_icmp_lt hM (by constructor <;> omega) (by constructor <;> omega) (tgt := 26) dX1_put_21 (by decide) (fun c_21 => ?_) (fun c_21 => ?_)
    ·
      refine y_aload_n hM hl 0 rfl rfl dX1_put_26 ?_
      refine lv_dup hM.1 hM.2.1 dX1_put_27 rfl ?_
      refine y_get hM hC hk6 rfl rfl (by decide +kernel) 2 ⟨by decide, rfl, rfl, rfl⟩ (by decide +kernel) rfl dX1_put_28 ?_
      refine y_iconst hM dX1_put_31 ?_
      refine y_iadd hM dX1_put_32 ?_
      refine y_put hM hC hk6 rfl rfl (by decide +kernel) tyX1 tyX1_ok nmX1 2 ⟨by decide, rfl, rfl, rfl, rfl⟩ (by decide +kernel) (ty := .int) (by decide +kernel) rfl rfl (Nat.le_of_ble_eq_true rfl) (T' := (up T 6 pv 2 ((T 6 pv 2) + (1)))) (P' := P) (cF_up rfl) (fun _ _ h => up_ne h) (fun _ _ _ => rfl) dX1_put_33 (fun H locs hC => ?_)
      refine y_aload_n hM hl 0 rfl rfl dX1_put_36 ?_
      refine y_get hM hC hk6 rfl rfl (by decide +kernel) 0 ⟨by decide, rfl, rfl, rfl⟩ (by decide +kernel) (congrArg (fun q => some (va_rf q)) hq6) dX1_put_37 ?_
      refine W.eq (g2 := F0 m 40 ls [.ref (ad 7 pv)]) rfl ?_
      refine y_aload_n hM hl 0 rfl rfl dX1_put_40 ?_
      refine y_get hM hC hk6 rfl rfl (by decide +kernel) 2 ⟨by decide, rfl, rfl, rfl⟩ (by decide +kernel) (congrArg (fun q => some (Value.int (iI q))) (show (up T 6 pv 2 ((T 6 pv 2) + (1))) 6 pv 2 = (T 6 pv 2) + (1) from by simp [up])) dX1_put_41 ?_
      refine y_iload_n hM hl 1 rfl rfl dX1_put_44 ?_
      refine y_iast hM hC hk7 (fun _ _ => rfl) ⟨by omega, by omega⟩ (by decide) dX1_put_45 (fun H locs hC => ?_)
      refine y_aload_n hM hl 0 rfl rfl dX1_put_46 ?_
      refine y_get hM hC hk6 rfl rfl (by decide +kernel) 1 ⟨by decide, rfl, rfl, rfl⟩ (by decide +kernel) (congrArg (fun q => some (va_rf q)) hq61) dX1_put_47 ?_
      refine W.eq (g2 := F0 m 50 ls [.ref (ad 8 pv)]) rfl ?_
      refine y_aload_n hM hl 0 rfl rfl dX1_put_50 ?_
      refine y_get hM hC hk6 rfl rfl (by decide +kernel) 2 ⟨by decide, rfl, rfl, rfl⟩ (by decide +kernel) (congrArg (fun q => some (Value.int (iI q))) (show (up (up T 6 pv 2 ((T 6 pv 2) + (1))) 7 pv (((T 6 pv 2) + (1)).toNat) (dd)) 6 pv 2 = (T 6 pv 2) + (1) from by simp [up])) dX1_put_51 ?_
      refine y_iload_n hM hl 2 rfl rfl dX1_put_54 ?_
      refine y_iast hM hC hk8 (fun _ _ => rfl) ⟨by omega, by omega⟩ (by decide) dX1_put_55 (fun H locs hC => ?_)
      refine y_iconst hM dX1_put_56 ?_
      exact y_zret hM hr hlk hC (by decide) ⟨_, rfl, (by (try dsimp only); omega), (by unfold putT; rw [if_neg c_10, if_neg (by omega)])⟩ (Nat.le_of_ble_eq_true rfl) (Nat.le_of_ble_eq_true rfl) dX1_put_57
    ·
      refine y_iconst hM dX1_put_24 ?_
      exact y_zret hM hr hlk hC (by decide) ⟨_, rfl, (by (try dsimp only); omega), (by unfold putT; rw [if_neg c_10, if_pos (by omega)])⟩ (Nat.le_of_ble_eq_true rfl) (Nat.le_of_ble_eq_true rfl) dX1_put_25
