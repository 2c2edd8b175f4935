set_option maxRecDepth 100000 in
set_option maxHeartbeats 8000000 in
theorem c_does (l : Launch) (hfl : l.stackTraces = false) (G : GG) (b0 : Nat) (ks : KK) (ad : AD) (T : TT) (P : PP) (z f : Int) (hz : 0 ≤ z ∧ z < T 12 0 10) (hf : f = 0 ∨ f = 1) (hMI : MI ks ad P) (hMN : MN T)  : vx_Met l yX4_does wsX4_does (rmX 3 0 0 81) (va_Pc [.ref (ad 12 0), .int (iI (z)), .int (iI (f))] (Ok G b0 (ks, ad, T, P))) (Qr (pI (fun r => r = mlate T z) (ks, ad, mdoe T z f, P)) G b0) (Xr (noX) G b0) 0 0 (Wx b0) := by
  refine vx_ofW (cc := cX4_does) (maxL := 6) (ret := (some .int)) (by decide +kernel) rfl ?_
  intro p e s m args below meth c s₁ B hml hto hv
  obtain ⟨rfl, hok⟩ := hv
  have hM : CallFix p m c cX4_does 6 s _ wsX4_does RX4 := ⟨B.exec, B.bytes, hml, findClass_of_methodNamed B.named, atoms_spec (ws := wsX4_does) B.pre⟩
  have hr := B.returns
  have hlk := B.notSynchronized
  have hC := hok.cur
  have hl := lv_entry ([.ref (ad 12 0), .int (iI (z)), .int (iI (f))]) (n := 6) (Nat.le_of_ble_eq_true rfl)
  rw [lg_entry_eq]
  generalize (lg_sl ([.ref (ad 12 0), .int (iI (z)), .int (iI (f))]) ++ List.replicate (6 - (lg_sl ([.ref (ad 12 0), .int (iI (z)), .int (iI (f))])).length) Slot.unset).toArray = ls at hl ⊢
  have hl : lv_has ls 6 [(0, .ref (ad 12 0)), (1, .int (iI (z))), (2, .int (iI (f)))] := hl
  obtain ⟨⟨m1a, m1b⟩, ⟨m5a, m5b⟩, ⟨m6a, m6b⟩, ⟨mxa, mxb⟩, mpv, mpp, msv, mor⟩ := id hMN
  have ho := mor z.toNat (by omega)
  unfold MOr at ho
  have hs := msv (T 31 0 z.toNat).toNat (by omega)
  unfold MSv at hs
  refine y_aload_n hM hl 0 rfl rfl dX4_does_0 ?_
  refine y_get hM hC hMI.1 rfl rfl (by decide +kernel) 11 ⟨by decide, rfl, rfl, rfl⟩ (by decide +kernel) (congrArg (fun q => some (va_rf q)) (hMI.2 11 (by decide)).2) dX4_does_1 ?_
  refine W.eq (g2 := F0 m 4 ls [.ref (ad 31 0)]) rfl ?_
  refine y_iload_n hM hl 1 rfl rfl dX4_does_4 ?_
  refine y_iald hM hC (hMI.2 11 (by decide)).1 rfl ⟨by omega, by omega⟩ (by decide) (x := T 31 0 (z).toNat) rfl dX4_does_5 ?_
  refine lv_istore_n (lv' := [(3, .int (iI (T 31 0 (z).toNat))), (0, .ref (ad 12 0)), (1, .int (iI (z))), (2, .int (iI (f)))]) hM.1 hM.2.1 dX4_does_6 rfl hl (by decide) rfl (fun ls hl => ?_)
  refine y_aload_n hM hl 1 rfl rfl dX4_does_7 ?_
  refine y_iload_n hM hl 2 rfl rfl dX4_does_8 ?_
  refine y_callV hM hC (c_lateBy l hfl G b0 ks ad T P (z) ⟨by omega, (show _ < T 12 0 10 by omega)⟩ hMI hMN) (cwV 1 hM.2.2.2.2 gX4_does_X4_lateBy rfl rfl rfl (by decide +kernel) ⟨(Nat.le_of_ble_eq_true rfl), (Nat.le_of_ble_eq_true rfl)⟩) (y_recv hC hMI.1 rfl rfl) rfl hl.1 rfl (Nat.le_of_ble_eq_true rfl) dX4_does_9 ⟨(Nat.le_of_ble_eq_true rfl), (Nat.le_of_ble_eq_true rfl)⟩ (fun E ce q9 u1 H locs hx hC hce hcv hcl => hx.elim) (fun v u1 H locs hp hC => ?_)
  obtain ⟨r_9, rfl, h_9, hu⟩ := hp; rw [hu] at hC; clear hu
  try dsimp only at h_9
  refine W.eq (g2 := F0 m 12 ls [.int (iI (r_9))]) rfl ?_
  have hl9 := mlate_in (T := T) (z := z) ⟨by omega, by omega⟩ (by omega)
  rw [← h_9] at hl9
  refine lv_istore (lv' := [(4, .int (iI (r_9))), (3, .int (iI (T 31 0 (z).toNat))), (0, .ref (ad 12 0)), (1, .int (iI (z))), (2, .int (iI (f)))]) hM.1 hM.2.1 dX4_does_12 hl (by decide) rfl (fun ls hl => ?_)
  refine y_aload_n hM hl 2 rfl rfl dX4_does_14 ?_
  refine y_get hM hC hMI.1 rfl rfl (by decide +kernel) 13 ⟨by decide, rfl, rfl, rfl⟩ (by decide +kernel) (congrArg (fun q => some (va_rf q)) (hMI.2 13 (by decide)).2) dX4_does_15 ?_
  refine W.eq (g2 := F0 m 18 ls [.ref (ad 33 0)]) rfl ?_
  refine y_iload_n hM hl 3 rfl rfl dX4_does_18 ?_
  refine y_iald hM hC (hMI.2 13 (by decide)).1 rfl ⟨by omega, by omega⟩ (by decide) (x := T 33 0 (z).toNat) rfl dX4_does_19 ?_
  refine y_iconst hM dX4_does_20 ?_
  refine y_icmp_ne hM (by constructor <;> omega) (by constructor <;> omega) (tgt := 103) dX4_does_21 (by decide) (fun c_21 => ?_) (fun c_21 => ?_)
  ·
    refine y_aload_n hM hl 2 rfl rfl dX4_does_103 ?_
    refine y_get hM hC hMI.1 rfl rfl (by decide +kernel) 13 ⟨by decide, rfl, rfl, rfl⟩ (by decide +kernel) (congrArg (fun q => some (va_rf q)) (hMI.2 13 (by decide)).2) dX4_does_104 ?_
    refine W.eq (g2 := F0 m 107 ls [.ref (ad 33 0)]) rfl ?_
    refine y_iload_n hM hl 3 rfl rfl dX4_does_107 ?_
    refine y_iald hM hC (hMI.2 13 (by decide)).1 rfl ⟨by omega, by omega⟩ (by decide) (x := T 33 0 (z).toNat) rfl dX4_does_108 ?_
    refine y_iconst hM dX4_does_109 ?_
    refine y_icmp_ne hM (by constructor <;> omega) (by constructor <;> omega) (tgt := 145) dX4_does_110 (by decide) (fun c_110 => ?_) (fun c_110 => ?_)
    ·
      refine y_aload_n hM hl 2 rfl rfl dX4_does_145 ?_
      refine y_get hM hC hMI.1 rfl rfl (by decide +kernel) 16 ⟨by decide, rfl, rfl, rfl⟩ (by decide +kernel) (congrArg (fun q => some (va_rf q)) (hMI.2 16 (by decide)).2) dX4_does_146 ?_
      refine W.eq (g2 := F0 m 149 ls [.ref (ad 36 0)]) rfl ?_
      refine y_iload_n hM hl 3 rfl rfl dX4_does_149 ?_
      refine lv_dup2_11 hM.1 hM.2.1 dX4_does_150 rfl rfl ?_
      refine y_iald hM hC (hMI.2 16 (by decide)).1 rfl ⟨by omega, by omega⟩ (by decide) (x := T 36 0 (z).toNat) rfl dX4_does_151 ?_
      refine y_aload_n hM hl 2 rfl rfl dX4_does_152 ?_
      refine y_get hM hC hMI.1 rfl rfl (by decide +kernel) 13 ⟨by decide, rfl, rfl, rfl⟩ (by decide +kernel) (congrArg (fun q => some (va_rf q)) (hMI.2 13 (by decide)).2) dX4_does_153 ?_
      refine W.eq (g2 := F0 m 156 ls [.ref (ad 33 0), .int (iI (T 36 0 (z).toNat)), .int (iI (z)), .ref (ad 36 0)]) rfl ?_
      refine y_iload_n hM hl 3 rfl rfl dX4_does_156 ?_
      refine y_iald hM hC (hMI.2 13 (by decide)).1 rfl ⟨by omega, by omega⟩ (by decide) (x := T 33 0 (z).toNat) rfl dX4_does_157 ?_
      refine y_iconst hM dX4_does_158 ?_
      refine y_icmp_ne hM (by constructor <;> omega) (by constructor <;> omega) (tgt := 166) dX4_does_159 (by decide) (fun c_159 => ?_) (fun c_159 => False.elim (by omega))
      refine y_iload hM hl 0 rfl dX4_does_166 ?_
      refine y_iadd hM dX4_does_168 ?_
      refine y_iast hM hC (hMI.2 16 (by decide)).1 (fun _ _ => rfl) ⟨by omega, by omega⟩ (by decide) dX4_does_169 (fun H locs hC => ?_)
      refine y_aload_n hM hl 2 rfl rfl dX4_does_170 ?_
      refine y_get hM hC hMI.1 rfl rfl (by decide +kernel) 17 ⟨by decide, rfl, rfl, rfl⟩ (by decide +kernel) (congrArg (fun q => some (va_rf q)) (hMI.2 17 (by decide)).2) dX4_does_171 ?_
      refine W.eq (g2 := F0 m 174 ls [.ref (ad 37 0)]) rfl ?_
      refine y_iload_n hM hl 3 rfl rfl dX4_does_174 ?_
      refine lv_dup2_11 hM.1 hM.2.1 dX4_does_175 rfl rfl ?_
      refine y_iald hM hC (hMI.2 17 (by decide)).1 rfl ⟨by omega, by omega⟩ (by decide) (x := T 37 0 (z).toNat) (by simp [up, zrT]) dX4_does_176 ?_
      refine y_iload hM hl 0 rfl dX4_does_177 ?_
      refine y_iadd hM dX4_does_179 ?_
      refine y_iast hM hC (hMI.2 17 (by decide)).1 (fun _ _ => rfl) ⟨by omega, by omega⟩ (by decide) dX4_does_180 (fun H locs hC => ?_)
      refine y_aload_n hM hl 2 rfl rfl dX4_does_181 ?_
      refine y_get hM hC hMI.1 rfl rfl (by decide +kernel) 14 ⟨by decide, rfl, rfl, rfl⟩ (by decide +kernel) (congrArg (fun q => some (va_rf q)) (hMI.2 14 (by decide)).2) dX4_does_182 ?_
      refine W.eq (g2 := F0 m 185 ls [.ref (ad 34 0)]) rfl ?_
      refine y_iload_n hM hl 3 rfl rfl dX4_does_185 ?_
      refine y_aload_n hM hl 2 rfl rfl dX4_does_186 ?_
      refine y_get hM hC hMI.1 rfl rfl (by decide +kernel) 1 ⟨by decide, rfl, rfl, rfl⟩ (by decide +kernel) (congrArg (fun q => some (Value.int (iI q))) (show (up (up T 36 0 ((z).toNat) ((T 36 0 (z).toNat) + (r_9))) 37 0 ((z).toNat) ((T 37 0 (z).toNat) + (r_9))) 12 0 1 = T 12 0 1 from by simp [up, zrT])) dX4_does_187 ?_
      refine y_iast hM hC (hMI.2 14 (by decide)).1 (fun _ _ => rfl) ⟨by omega, by omega⟩ (by decide) dX4_does_190 (fun H locs hC => ?_)
      refine y_aload_n hM hl 2 rfl rfl dX4_does_191 ?_
      refine y_get hM hC hMI.1 rfl rfl (by decide +kernel) 13 ⟨by decide, rfl, rfl, rfl⟩ (by decide +kernel) (congrArg (fun q => some (va_rf q)) (hMI.2 13 (by decide)).2) dX4_does_192 ?_
      refine W.eq (g2 := F0 m 195 ls [.ref (ad 33 0)]) rfl ?_
      refine y_iload_n hM hl 3 rfl rfl dX4_does_195 ?_
      refine lv_dup2_11 hM.1 hM.2.1 dX4_does_196 rfl rfl ?_
      refine y_iald hM hC (hMI.2 13 (by decide)).1 rfl ⟨by omega, by omega⟩ (by decide) (x := T 33 0 (z).toNat) (by simp [up, zrT]) dX4_does_197 ?_
      refine y_iconst hM dX4_does_198 ?_
      refine y_iadd hM dX4_does_199 ?_
      refine y_iast hM hC (hMI.2 13 (by decide)).1 (fun _ _ => rfl) ⟨by omega, by omega⟩ (by decide) dX4_does_200 (fun H locs hC => ?_)
      refine y_iload hM hl 0 rfl dX4_does_201 ?_
      exact y_iret hM hr hlk hC ⟨_, rfl, h_9, (by unfold mdoe mend; rw [if_neg c_21, if_neg c_110, if_neg c_110, ← h_9])⟩ (Nat.le_of_ble_eq_true rfl) (Nat.le_of_ble_eq_true rfl) dX4_does_203
    ·
      refine y_aload_n hM hl 2 rfl rfl dX4_does_113 ?_
      refine y_iload_n hM hl 3 rfl rfl dX4_does_114 ?_
      refine y_iload_n hM hl 4 rfl rfl dX4_does_115 ?_
      refine y_if_eq hM (by constructor <;> omega) (tgt := 126) dX4_does_116 (by decide) (fun c_116 => ?_) (fun c_116 => ?_)
      ·
        refine y_aload_n hM hl 2 rfl rfl dX4_does_126 ?_
        refine y_aload_n hM hl 2 rfl rfl dX4_does_127 ?_
        refine y_get hM hC hMI.1 rfl rfl (by decide +kernel) 12 ⟨by decide, rfl, rfl, rfl⟩ (by decide +kernel) (congrArg (fun q => some (va_rf q)) (hMI.2 12 (by decide)).2) dX4_does_128 ?_
        refine W.eq (g2 := F0 m 131 ls [.ref (ad 32 0), .ref (ad 12 0), .int (iI (z)), .ref (ad 12 0)]) rfl ?_
        refine y_iload_n hM hl 3 rfl rfl dX4_does_131 ?_
        refine y_iald hM hC (hMI.2 12 (by decide)).1 rfl ⟨by omega, by omega⟩ (by decide) (x := T 32 0 (z).toNat) rfl dX4_does_132 ?_
        refine y_aload_n hM hl 2 rfl rfl dX4_does_133 ?_
        refine y_get hM hC hMI.1 rfl rfl (by decide +kernel) 1 ⟨by decide, rfl, rfl, rfl⟩ (by decide +kernel) rfl dX4_does_134 ?_
        refine y_callV hM hC (c_priceOf l hfl G b0 ks ad T P (T 32 0 (z).toNat) (T 12 0 1) ⟨by omega, by omega⟩ ⟨by omega, by omega⟩ hMI) (cwV 2 hM.2.2.2.2 gX4_does_X4_priceOf rfl rfl rfl (by decide +kernel) ⟨(Nat.le_of_ble_eq_true rfl), (Nat.le_of_ble_eq_true rfl)⟩) (y_recv hC hMI.1 rfl rfl) rfl hl.1 rfl (Nat.le_of_ble_eq_true rfl) dX4_does_137 ⟨(Nat.le_of_ble_eq_true rfl), (Nat.le_of_ble_eq_true rfl)⟩ (fun E ce q9 u1 H locs hx hC hce hcv hcl => hx.elim) (fun v u1 H locs hp hC => ?_)
        obtain ⟨r_137, rfl, h_137, hu⟩ := hp; rw [hu] at hC; clear hu
        try dsimp only at h_137
        refine W.eq (g2 := F0 m 140 ls [.int (iI (r_137)), .int (iI (z)), .ref (ad 12 0)]) rfl ?_
        have hv_137 := mpv (T 32 0 z.toNat) (T 12 0 1) (by omega) (by omega) (by omega) (by omega)
        rw [← h_137] at hv_137
        refine y_iload hM hl 0 rfl dX4_does_140 ?_
        refine y_callV hM hC (c_buys l hfl G b0 ks ad T P (z) (r_137) (r_9) ⟨by omega, (show _ < T 12 0 10 by omega)⟩ (by omega) ⟨by omega, by omega⟩ ⟨by omega, by omega⟩ hMI hMN) (cwV 3 hM.2.2.2.2 gX4_does_X4_buys rfl rfl rfl (by decide +kernel) ⟨(Nat.le_of_ble_eq_true rfl), (Nat.le_of_ble_eq_true rfl)⟩) (y_recv hC hMI.1 rfl rfl) rfl hl.1 rfl (Nat.le_of_ble_eq_true rfl) dX4_does_142 ⟨(Nat.le_of_ble_eq_true rfl), (Nat.le_of_ble_eq_true rfl)⟩ (fun E ce q9 u1 H locs hx hC hce hcv hcl => hx.elim) (fun v u1 H locs hp hC => ?_)
        obtain ⟨rfl, h_142, hu⟩ := hp; rw [hu] at hC; clear hu
        try dsimp only at h_142
        refine W.eq (g2 := F0 m 145 ls []) rfl ?_
        refine y_aload_n hM hl 2 rfl rfl dX4_does_145 ?_
        refine y_get hM hC hMI.1 rfl rfl (by decide +kernel) 16 ⟨by decide, rfl, rfl, rfl⟩ (by decide +kernel) (congrArg (fun q => some (va_rf q)) (hMI.2 16 (by decide)).2) dX4_does_146 ?_
        refine W.eq (g2 := F0 m 149 ls [.ref (ad 36 0)]) rfl ?_
        refine y_iload_n hM hl 3 rfl rfl dX4_does_149 ?_
        refine lv_dup2_11 hM.1 hM.2.1 dX4_does_150 rfl rfl ?_
        refine y_iald hM hC (hMI.2 16 (by decide)).1 rfl ⟨by omega, by omega⟩ (by decide) (x := T 36 0 z.toNat) rfl dX4_does_151 ?_
        refine y_aload_n hM hl 2 rfl rfl dX4_does_152 ?_
        refine y_get hM hC hMI.1 rfl rfl (by decide +kernel) 13 ⟨by decide, rfl, rfl, rfl⟩ (by decide +kernel) (congrArg (fun q => some (va_rf q)) (hMI.2 13 (by decide)).2) dX4_does_153 ?_
        refine W.eq (g2 := F0 m 156 ls [.ref (ad 33 0), .int (iI (T 36 0 z.toNat)), .int (iI (z)), .ref (ad 36 0)]) rfl ?_
        refine y_iload_n hM hl 3 rfl rfl dX4_does_156 ?_
        refine y_iald hM hC (hMI.2 13 (by decide)).1 rfl ⟨by omega, by omega⟩ (by decide) (x := T 33 0 z.toNat) rfl dX4_does_157 ?_
        refine y_iconst hM dX4_does_158 ?_
        refine y_icmp_ne hM (by constructor <;> omega) (by constructor <;> omega) (tgt := 166) dX4_does_159 (by decide) (fun c_159 => False.elim (by omega)) (fun c_159 => ?_)
        refine y_iconst hM dX4_does_162 ?_
        refine lv_goto (tgt := 168) hM.1 hM.2.1 dX4_does_163 (by decide) ?_
        refine y_iadd hM dX4_does_168 ?_
        refine y_iast hM hC (hMI.2 16 (by decide)).1 (fun _ _ => rfl) ⟨by omega, by omega⟩ (by decide) dX4_does_169 (fun H locs hC => ?_)
        refine y_aload_n hM hl 2 rfl rfl dX4_does_170 ?_
        refine y_get hM hC hMI.1 rfl rfl (by decide +kernel) 17 ⟨by decide, rfl, rfl, rfl⟩ (by decide +kernel) (congrArg (fun q => some (va_rf q)) (hMI.2 17 (by decide)).2) dX4_does_171 ?_
        refine W.eq (g2 := F0 m 174 ls [.ref (ad 37 0)]) rfl ?_
        refine y_iload_n hM hl 3 rfl rfl dX4_does_174 ?_
        refine lv_dup2_11 hM.1 hM.2.1 dX4_does_175 rfl rfl ?_
        refine y_iald hM hC (hMI.2 17 (by decide)).1 rfl ⟨by omega, by omega⟩ (by decide) (x := T 37 0 z.toNat) rfl dX4_does_176 ?_
        refine y_iload hM hl 0 rfl dX4_does_177 ?_
        refine y_iadd hM dX4_does_179 ?_
        refine y_iast hM hC (hMI.2 17 (by decide)).1 (fun _ _ => rfl) ⟨by omega, by omega⟩ (by decide) dX4_does_180 (fun H locs hC => ?_)
        refine y_aload_n hM hl 2 rfl rfl dX4_does_181 ?_
        refine y_get hM hC hMI.1 rfl rfl (by decide +kernel) 14 ⟨by decide, rfl, rfl, rfl⟩ (by decide +kernel) (congrArg (fun q => some (va_rf q)) (hMI.2 14 (by decide)).2) dX4_does_182 ?_
        refine W.eq (g2 := F0 m 185 ls [.ref (ad 34 0)]) rfl ?_
        refine y_iload_n hM hl 3 rfl rfl dX4_does_185 ?_
        refine y_aload_n hM hl 2 rfl rfl dX4_does_186 ?_
        refine y_get hM hC hMI.1 rfl rfl (by decide +kernel) 1 ⟨by decide, rfl, rfl, rfl⟩ (by decide +kernel) (congrArg (fun q => some (Value.int (iI q))) (show (up (up (mbuy T (z) (r_137) (r_9)) 36 0 ((z).toNat) ((T 36 0 z.toNat) + (0))) 37 0 ((z).toNat) ((T 37 0 z.toNat) + (r_9))) 12 0 1 = T 12 0 1 from rfl)) dX4_does_187 ?_
        refine y_iast hM hC (hMI.2 14 (by decide)).1 (fun _ _ => rfl) ⟨by omega, by omega⟩ (by decide) dX4_does_190 (fun H locs hC => ?_)
        refine y_aload_n hM hl 2 rfl rfl dX4_does_191 ?_
        refine y_get hM hC hMI.1 rfl rfl (by decide +kernel) 13 ⟨by decide, rfl, rfl, rfl⟩ (by decide +kernel) (congrArg (fun q => some (va_rf q)) (hMI.2 13 (by decide)).2) dX4_does_192 ?_
        refine W.eq (g2 := F0 m 195 ls [.ref (ad 33 0)]) rfl ?_
        refine y_iload_n hM hl 3 rfl rfl dX4_does_195 ?_
        refine lv_dup2_11 hM.1 hM.2.1 dX4_does_196 rfl rfl ?_
        refine y_iald hM hC (hMI.2 13 (by decide)).1 rfl ⟨by omega, by omega⟩ (by decide) (x := T 33 0 z.toNat) rfl dX4_does_197 ?_
        refine y_iconst hM dX4_does_198 ?_
        refine y_iadd hM dX4_does_199 ?_
        refine y_iast hM hC (hMI.2 13 (by decide)).1 (fun _ _ => rfl) ⟨by omega, by omega⟩ (by decide) dX4_does_200 (fun H locs hC => ?_)
        refine y_iload hM hl 0 rfl dX4_does_201 ?_
        exact y_iret hM hr hlk hC ⟨_, rfl, h_9, (by unfold mdoe mend; rw [if_neg c_21, if_pos (show T 33 0 z.toNat = 2 by omega), if_pos (show T 33 0 z.toNat = 2 by omega)]; unfold mprF; rw [if_pos c_116, ← h_137, ← h_9])⟩ (Nat.le_of_ble_eq_true rfl) (Nat.le_of_ble_eq_true rfl) dX4_does_203
      ·
        refine y_aload_n hM hl 2 rfl rfl dX4_does_119 ?_
        refine y_get hM hC hMI.1 rfl rfl (by decide +kernel) 5 ⟨by decide, rfl, rfl, rfl⟩ (by decide +kernel) rfl dX4_does_120 ?_
        refine lv_goto (tgt := 140) hM.1 hM.2.1 dX4_does_123 (by decide) ?_
        refine y_iload hM hl 0 rfl dX4_does_140 ?_
        refine y_callV hM hC (c_buys l hfl G b0 ks ad T P (z) (T 12 0 5) (r_9) ⟨by omega, (show _ < T 12 0 10 by omega)⟩ (by omega) ⟨by omega, by omega⟩ ⟨by omega, by omega⟩ hMI hMN) (cwV 3 hM.2.2.2.2 gX4_does_X4_buys rfl rfl rfl (by decide +kernel) ⟨(Nat.le_of_ble_eq_true rfl), (Nat.le_of_ble_eq_true rfl)⟩) (y_recv hC hMI.1 rfl rfl) rfl hl.1 rfl (Nat.le_of_ble_eq_true rfl) dX4_does_142 ⟨(Nat.le_of_ble_eq_true rfl), (Nat.le_of_ble_eq_true rfl)⟩ (fun E ce q9 u1 H locs hx hC hce hcv hcl => hx.elim) (fun v u1 H locs hp hC => ?_)
        obtain ⟨rfl, h_142, hu⟩ := hp; rw [hu] at hC; clear hu
        try dsimp only at h_142
        refine W.eq (g2 := F0 m 145 ls []) rfl ?_
        refine y_aload_n hM hl 2 rfl rfl dX4_does_145 ?_
        refine y_get hM hC hMI.1 rfl rfl (by decide +kernel) 16 ⟨by decide, rfl, rfl, rfl⟩ (by decide +kernel) (congrArg (fun q => some (va_rf q)) (hMI.2 16 (by decide)).2) dX4_does_146 ?_
        refine W.eq (g2 := F0 m 149 ls [.ref (ad 36 0)]) rfl ?_
        refine y_iload_n hM hl 3 rfl rfl dX4_does_149 ?_
        refine lv_dup2_11 hM.1 hM.2.1 dX4_does_150 rfl rfl ?_
        refine y_iald hM hC (hMI.2 16 (by decide)).1 rfl ⟨by omega, by omega⟩ (by decide) (x := T 36 0 z.toNat) rfl dX4_does_151 ?_
        refine y_aload_n hM hl 2 rfl rfl dX4_does_152 ?_
        refine y_get hM hC hMI.1 rfl rfl (by decide +kernel) 13 ⟨by decide, rfl, rfl, rfl⟩ (by decide +kernel) (congrArg (fun q => some (va_rf q)) (hMI.2 13 (by decide)).2) dX4_does_153 ?_
        refine W.eq (g2 := F0 m 156 ls [.ref (ad 33 0), .int (iI (T 36 0 z.toNat)), .int (iI (z)), .ref (ad 36 0)]) rfl ?_
        refine y_iload_n hM hl 3 rfl rfl dX4_does_156 ?_
        refine y_iald hM hC (hMI.2 13 (by decide)).1 rfl ⟨by omega, by omega⟩ (by decide) (x := T 33 0 z.toNat) rfl dX4_does_157 ?_
        refine y_iconst hM dX4_does_158 ?_
        refine y_icmp_ne hM (by constructor <;> omega) (by constructor <;> omega) (tgt := 166) dX4_does_159 (by decide) (fun c_159 => False.elim (by omega)) (fun c_159 => ?_)
        refine y_iconst hM dX4_does_162 ?_
        refine lv_goto (tgt := 168) hM.1 hM.2.1 dX4_does_163 (by decide) ?_
        refine y_iadd hM dX4_does_168 ?_
        refine y_iast hM hC (hMI.2 16 (by decide)).1 (fun _ _ => rfl) ⟨by omega, by omega⟩ (by decide) dX4_does_169 (fun H locs hC => ?_)
        refine y_aload_n hM hl 2 rfl rfl dX4_does_170 ?_
        refine y_get hM hC hMI.1 rfl rfl (by decide +kernel) 17 ⟨by decide, rfl, rfl, rfl⟩ (by decide +kernel) (congrArg (fun q => some (va_rf q)) (hMI.2 17 (by decide)).2) dX4_does_171 ?_
        refine W.eq (g2 := F0 m 174 ls [.ref (ad 37 0)]) rfl ?_
        refine y_iload_n hM hl 3 rfl rfl dX4_does_174 ?_
        refine lv_dup2_11 hM.1 hM.2.1 dX4_does_175 rfl rfl ?_
        refine y_iald hM hC (hMI.2 17 (by decide)).1 rfl ⟨by omega, by omega⟩ (by decide) (x := T 37 0 z.toNat) rfl dX4_does_176 ?_
        refine y_iload hM hl 0 rfl dX4_does_177 ?_
        refine y_iadd hM dX4_does_179 ?_
        refine y_iast hM hC (hMI.2 17 (by decide)).1 (fun _ _ => rfl) ⟨by omega, by omega⟩ (by decide) dX4_does_180 (fun H locs hC => ?_)
        refine y_aload_n hM hl 2 rfl rfl dX4_does_181 ?_
        refine y_get hM hC hMI.1 rfl rfl (by decide +kernel) 14 ⟨by decide, rfl, rfl, rfl⟩ (by decide +kernel) (congrArg (fun q => some (va_rf q)) (hMI.2 14 (by decide)).2) dX4_does_182 ?_
        refine W.eq (g2 := F0 m 185 ls [.ref (ad 34 0)]) rfl ?_
        refine y_iload_n hM hl 3 rfl rfl dX4_does_185 ?_
        refine y_aload_n hM hl 2 rfl rfl dX4_does_186 ?_
        refine y_get hM hC hMI.1 rfl rfl (by decide +kernel) 1 ⟨by decide, rfl, rfl, rfl⟩ (by decide +kernel) (congrArg (fun q => some (Value.int (iI q))) (show (up (up (mbuy T (z) (T 12 0 5) (r_9)) 36 0 ((z).toNat) ((T 36 0 z.toNat) + (0))) 37 0 ((z).toNat) ((T 37 0 z.toNat) + (r_9))) 12 0 1 = T 12 0 1 from rfl)) dX4_does_187 ?_
        refine y_iast hM hC (hMI.2 14 (by decide)).1 (fun _ _ => rfl) ⟨by omega, by omega⟩ (by decide) dX4_does_190 (fun H locs hC => ?_)
        refine y_aload_n hM hl 2 rfl rfl dX4_does_191 ?_
        refine y_get hM hC hMI.1 rfl rfl (by decide +kernel) 13 ⟨by decide, rfl, rfl, rfl⟩ (by decide +kernel) (congrArg (fun q => some (va_rf q)) (hMI.2 13 (by decide)).2) dX4_does_192 ?_
        refine W.eq (g2 := F0 m 195 ls [.ref (ad 33 0)]) rfl ?_
        refine y_iload_n hM hl 3 rfl rfl dX4_does_195 ?_
        refine lv_dup2_11 hM.1 hM.2.1 dX4_does_196 rfl rfl ?_
        refine y_iald hM hC (hMI.2 13 (by decide)).1 rfl ⟨by omega, by omega⟩ (by decide) (x := T 33 0 z.toNat) rfl dX4_does_197 ?_
        refine y_iconst hM dX4_does_198 ?_
        refine y_iadd hM dX4_does_199 ?_
        refine y_iast hM hC (hMI.2 13 (by decide)).1 (fun _ _ => rfl) ⟨by omega, by omega⟩ (by decide) dX4_does_200 (fun H locs hC => ?_)
        refine y_iload hM hl 0 rfl dX4_does_201 ?_
        exact y_iret hM hr hlk hC ⟨_, rfl, h_9, (by unfold mdoe mend; rw [if_neg c_21, if_pos (show T 33 0 z.toNat = 2 by omega), if_pos (show T 33 0 z.toNat = 2 by omega)]; unfold mprF; rw [if_neg c_116, ← h_9])⟩ (Nat.le_of_ble_eq_true rfl) (Nat.le_of_ble_eq_true rfl) dX4_does_203
  ·
    refine y_iload_n hM hl 4 rfl rfl dX4_does_24 ?_
    refine y_if_eq hM (by constructor <;> omega) (tgt := 35) dX4_does_25 (by decide) (fun c_25 => ?_) (fun c_25 => ?_)
    ·
      refine y_aload_n hM hl 2 rfl rfl dX4_does_35 ?_
      refine y_aload_n hM hl 2 rfl rfl dX4_does_36 ?_
      refine y_get hM hC hMI.1 rfl rfl (by decide +kernel) 7 ⟨by decide, rfl, rfl, rfl⟩ (by decide +kernel) (congrArg (fun q => some (va_rf q)) (hMI.2 7 (by decide)).2) dX4_does_37 ?_
      refine W.eq (g2 := F0 m 40 ls [.ref (ad 27 0), .ref (ad 12 0)]) rfl ?_
      refine y_iload_n hM hl 1 rfl rfl dX4_does_40 ?_
      refine y_iald hM hC (hMI.2 7 (by decide)).1 rfl ⟨by omega, by omega⟩ (by decide) (x := T 27 0 (T 31 0 (z).toNat).toNat) rfl dX4_does_41 ?_
      refine y_aload_n hM hl 2 rfl rfl dX4_does_42 ?_
      refine y_get hM hC hMI.1 rfl rfl (by decide +kernel) 1 ⟨by decide, rfl, rfl, rfl⟩ (by decide +kernel) rfl dX4_does_43 ?_
      refine y_callV hM hC (c_priceOf l hfl G b0 ks ad T P (T 27 0 (T 31 0 (z).toNat).toNat) (T 12 0 1) ⟨by omega, by omega⟩ ⟨by omega, by omega⟩ hMI) (cwV 2 hM.2.2.2.2 gX4_does_X4_priceOf rfl rfl rfl (by decide +kernel) ⟨(Nat.le_of_ble_eq_true rfl), (Nat.le_of_ble_eq_true rfl)⟩) (y_recv hC hMI.1 rfl rfl) rfl hl.1 rfl (Nat.le_of_ble_eq_true rfl) dX4_does_46 ⟨(Nat.le_of_ble_eq_true rfl), (Nat.le_of_ble_eq_true rfl)⟩ (fun E ce q9 u1 H locs hx hC hce hcv hcl => hx.elim) (fun v u1 H locs hp hC => ?_)
      obtain ⟨r_46, rfl, h_46, hu⟩ := hp; rw [hu] at hC; clear hu
      try dsimp only at h_46
      refine W.eq (g2 := F0 m 49 ls [.int (iI (r_46))]) rfl ?_
      have hv_46 := mpv (T 27 0 (T 31 0 z.toNat).toNat) (T 12 0 1) (by omega) (by omega) (by omega) (by omega)
      rw [← h_46] at hv_46
      have hq1 : 0 ≤ T 28 0 (T 31 0 z.toNat).toNat * r_46 := Int.mul_nonneg (by omega) (by omega)
      have hq2 : T 28 0 (T 31 0 z.toNat).toNat * r_46 ≤ 100000000 * 10000 := Int.mul_le_mul (by omega) (by omega) (by omega) (by omega)
      refine lv_istore (lv' := [(5, .int (iI (r_46))), (4, .int (iI (r_9))), (3, .int (iI (T 31 0 (z).toNat))), (0, .ref (ad 12 0)), (1, .int (iI (z))), (2, .int (iI (f)))]) hM.1 hM.2.1 dX4_does_49 hl (by decide) rfl (fun ls hl => ?_)
      refine y_aload_n hM hl 3 rfl rfl dX4_does_51 ?_
      refine y_get hM hC hMI.1 rfl rfl (by decide +kernel) 18 ⟨by decide, rfl, rfl, rfl⟩ (by decide +kernel) (congrArg (fun q => some (va_rf q)) (hMI.2 18 (by decide)).2) dX4_does_52 ?_
      refine W.eq (g2 := F0 m 55 ls [.ref (ad 38 0)]) rfl ?_
      refine y_iload_n hM hl 4 rfl rfl dX4_does_55 ?_
      refine y_aload_n hM hl 3 rfl rfl dX4_does_56 ?_
      refine y_get hM hC hMI.1 rfl rfl (by decide +kernel) 8 ⟨by decide, rfl, rfl, rfl⟩ (by decide +kernel) (congrArg (fun q => some (va_rf q)) (hMI.2 8 (by decide)).2) dX4_does_57 ?_
      refine W.eq (g2 := F0 m 60 ls [.ref (ad 28 0), .int (iI (z)), .ref (ad 38 0)]) rfl ?_
      refine y_iload_n hM hl 2 rfl rfl dX4_does_60 ?_
      refine y_lald hM hC (hMI.2 8 (by decide)).1 rfl ⟨by omega, by omega⟩ (by decide) (x := T 28 0 (T 31 0 (z).toNat).toNat) rfl dX4_does_61 ?_
      refine y_last hM hC (hMI.2 18 (by decide)).1 (fun _ _ => rfl) ⟨by omega, by omega⟩ (by decide) dX4_does_62 (fun H locs hC => ?_)
      refine y_aload_n hM hl 3 rfl rfl dX4_does_63 ?_
      refine y_get hM hC hMI.1 rfl rfl (by decide +kernel) 19 ⟨by decide, rfl, rfl, rfl⟩ (by decide +kernel) (congrArg (fun q => some (va_rf q)) (hMI.2 19 (by decide)).2) dX4_does_64 ?_
      refine W.eq (g2 := F0 m 67 ls [.ref (ad 39 0)]) rfl ?_
      refine y_iload_n hM hl 4 rfl rfl dX4_does_67 ?_
      refine y_aload_n hM hl 3 rfl rfl dX4_does_68 ?_
      refine y_get hM hC hMI.1 rfl rfl (by decide +kernel) 8 ⟨by decide, rfl, rfl, rfl⟩ (by decide +kernel) (congrArg (fun q => some (va_rf q)) (hMI.2 8 (by decide)).2) dX4_does_69 ?_
      refine W.eq (g2 := F0 m 72 ls [.ref (ad 28 0), .int (iI (z)), .ref (ad 39 0)]) rfl ?_
      refine y_iload_n hM hl 2 rfl rfl dX4_does_72 ?_
      refine y_lald hM hC (hMI.2 8 (by decide)).1 rfl ⟨by omega, by omega⟩ (by decide) (x := T 28 0 (T 31 0 (z).toNat).toNat) (by simp [up, zrT]) dX4_does_73 ?_
      refine y_iload hM hl 0 rfl dX4_does_74 ?_
      refine y_i2l hM (by constructor <;> omega) dX4_does_76 ?_
      refine y_lmul hM dX4_does_77 ?_
      refine y_ldc2 hM (v := 1000) (1000) (by decide) (by decide +kernel) dX4_does_78 ?_
      refine y_ldiv hM ⟨by omega, by omega, by omega, by omega⟩ dX4_does_81 ?_
      refine y_last hM hC (hMI.2 19 (by decide)).1 (fun _ _ => rfl) ⟨by omega, by omega⟩ (by decide) dX4_does_82 (fun H locs hC => ?_)
      refine y_aload_n hM hl 3 rfl rfl dX4_does_83 ?_
      refine y_get hM hC hMI.1 rfl rfl (by decide +kernel) 8 ⟨by decide, rfl, rfl, rfl⟩ (by decide +kernel) (congrArg (fun q => some (va_rf q)) (hMI.2 8 (by decide)).2) dX4_does_84 ?_
      refine W.eq (g2 := F0 m 87 ls [.ref (ad 28 0)]) rfl ?_
      refine y_iload_n hM hl 2 rfl rfl dX4_does_87 ?_
      refine y_lconst hM 0 (by decide) dX4_does_88 ?_
      refine y_last hM hC (hMI.2 8 (by decide)).1 (fun _ _ => rfl) ⟨by omega, by omega⟩ (by decide) dX4_does_89 (fun H locs hC => ?_)
      refine y_aload_n hM hl 3 rfl rfl dX4_does_90 ?_
      refine y_get hM hC hMI.1 rfl rfl (by decide +kernel) 15 ⟨by decide, rfl, rfl, rfl⟩ (by decide +kernel) (congrArg (fun q => some (va_rf q)) (hMI.2 15 (by decide)).2) dX4_does_91 ?_
      refine W.eq (g2 := F0 m 94 ls [.ref (ad 35 0)]) rfl ?_
      refine y_iload_n hM hl 4 rfl rfl dX4_does_94 ?_
      refine y_aload_n hM hl 3 rfl rfl dX4_does_95 ?_
      refine y_get hM hC hMI.1 rfl rfl (by decide +kernel) 1 ⟨by decide, rfl, rfl, rfl⟩ (by decide +kernel) (congrArg (fun q => some (Value.int (iI q))) (show (up (up (up T 38 0 ((z).toNat) (T 28 0 (T 31 0 (z).toNat).toNat)) 39 0 ((z).toNat) (((T 28 0 (T 31 0 (z).toNat).toNat) * (r_46)) / (1000))) 28 0 ((T 31 0 (z).toNat).toNat) (0)) 12 0 1 = T 12 0 1 from by simp [up, zrT])) dX4_does_96 ?_
      refine y_iast hM hC (hMI.2 15 (by decide)).1 (fun _ _ => rfl) ⟨by omega, by omega⟩ (by decide) dX4_does_99 (fun H locs hC => ?_)
      refine lv_goto (tgt := 145) hM.1 hM.2.1 dX4_does_100 (by decide) ?_
      refine y_aload_n hM hl 3 rfl rfl dX4_does_145 ?_
      refine y_get hM hC hMI.1 rfl rfl (by decide +kernel) 16 ⟨by decide, rfl, rfl, rfl⟩ (by decide +kernel) (congrArg (fun q => some (va_rf q)) (hMI.2 16 (by decide)).2) dX4_does_146 ?_
      refine W.eq (g2 := F0 m 149 ls [.ref (ad 36 0)]) rfl ?_
      refine y_iload_n hM hl 4 rfl rfl dX4_does_149 ?_
      refine lv_dup2_11 hM.1 hM.2.1 dX4_does_150 rfl rfl ?_
      refine y_iald hM hC (hMI.2 16 (by decide)).1 rfl ⟨by omega, by omega⟩ (by decide) (x := T 36 0 (z).toNat) (by simp [up, zrT]) dX4_does_151 ?_
      refine y_aload_n hM hl 3 rfl rfl dX4_does_152 ?_
      refine y_get hM hC hMI.1 rfl rfl (by decide +kernel) 13 ⟨by decide, rfl, rfl, rfl⟩ (by decide +kernel) (congrArg (fun q => some (va_rf q)) (hMI.2 13 (by decide)).2) dX4_does_153 ?_
      refine W.eq (g2 := F0 m 156 ls [.ref (ad 33 0), .int (iI (T 36 0 (z).toNat)), .int (iI (z)), .ref (ad 36 0)]) rfl ?_
      refine y_iload_n hM hl 4 rfl rfl dX4_does_156 ?_
      refine y_iald hM hC (hMI.2 13 (by decide)).1 rfl ⟨by omega, by omega⟩ (by decide) (x := T 33 0 (z).toNat) (by simp [up, zrT]) dX4_does_157 ?_
      refine y_iconst hM dX4_does_158 ?_
      refine y_icmp_ne hM (by constructor <;> omega) (by constructor <;> omega) (tgt := 166) dX4_does_159 (by decide) (fun c_159 => ?_) (fun c_159 => False.elim (by omega))
      refine y_iload hM hl 1 rfl dX4_does_166 ?_
      refine y_iadd hM dX4_does_168 ?_
      refine y_iast hM hC (hMI.2 16 (by decide)).1 (fun _ _ => rfl) ⟨by omega, by omega⟩ (by decide) dX4_does_169 (fun H locs hC => ?_)
      refine y_aload_n hM hl 3 rfl rfl dX4_does_170 ?_
      refine y_get hM hC hMI.1 rfl rfl (by decide +kernel) 17 ⟨by decide, rfl, rfl, rfl⟩ (by decide +kernel) (congrArg (fun q => some (va_rf q)) (hMI.2 17 (by decide)).2) dX4_does_171 ?_
      refine W.eq (g2 := F0 m 174 ls [.ref (ad 37 0)]) rfl ?_
      refine y_iload_n hM hl 4 rfl rfl dX4_does_174 ?_
      refine lv_dup2_11 hM.1 hM.2.1 dX4_does_175 rfl rfl ?_
      refine y_iald hM hC (hMI.2 17 (by decide)).1 rfl ⟨by omega, by omega⟩ (by decide) (x := T 37 0 (z).toNat) (by simp [up, zrT]) dX4_does_176 ?_
      refine y_iload hM hl 1 rfl dX4_does_177 ?_
      refine y_iadd hM dX4_does_179 ?_
      refine y_iast hM hC (hMI.2 17 (by decide)).1 (fun _ _ => rfl) ⟨by omega, by omega⟩ (by decide) dX4_does_180 (fun H locs hC => ?_)
      refine y_aload_n hM hl 3 rfl rfl dX4_does_181 ?_
      refine y_get hM hC hMI.1 rfl rfl (by decide +kernel) 14 ⟨by decide, rfl, rfl, rfl⟩ (by decide +kernel) (congrArg (fun q => some (va_rf q)) (hMI.2 14 (by decide)).2) dX4_does_182 ?_
      refine W.eq (g2 := F0 m 185 ls [.ref (ad 34 0)]) rfl ?_
      refine y_iload_n hM hl 4 rfl rfl dX4_does_185 ?_
      refine y_aload_n hM hl 3 rfl rfl dX4_does_186 ?_
      refine y_get hM hC hMI.1 rfl rfl (by decide +kernel) 1 ⟨by decide, rfl, rfl, rfl⟩ (by decide +kernel) (congrArg (fun q => some (Value.int (iI q))) (show (up (up (up (up (up (up T 38 0 ((z).toNat) (T 28 0 (T 31 0 (z).toNat).toNat)) 39 0 ((z).toNat) (((T 28 0 (T 31 0 (z).toNat).toNat) * (r_46)) / (1000))) 28 0 ((T 31 0 (z).toNat).toNat) (0)) 35 0 ((z).toNat) (T 12 0 1)) 36 0 ((z).toNat) ((T 36 0 (z).toNat) + (r_9))) 37 0 ((z).toNat) ((T 37 0 (z).toNat) + (r_9))) 12 0 1 = T 12 0 1 from by simp [up, zrT])) dX4_does_187 ?_
      refine y_iast hM hC (hMI.2 14 (by decide)).1 (fun _ _ => rfl) ⟨by omega, by omega⟩ (by decide) dX4_does_190 (fun H locs hC => ?_)
      refine y_aload_n hM hl 3 rfl rfl dX4_does_191 ?_
      refine y_get hM hC hMI.1 rfl rfl (by decide +kernel) 13 ⟨by decide, rfl, rfl, rfl⟩ (by decide +kernel) (congrArg (fun q => some (va_rf q)) (hMI.2 13 (by decide)).2) dX4_does_192 ?_
      refine W.eq (g2 := F0 m 195 ls [.ref (ad 33 0)]) rfl ?_
      refine y_iload_n hM hl 4 rfl rfl dX4_does_195 ?_
      refine lv_dup2_11 hM.1 hM.2.1 dX4_does_196 rfl rfl ?_
      refine y_iald hM hC (hMI.2 13 (by decide)).1 rfl ⟨by omega, by omega⟩ (by decide) (x := T 33 0 (z).toNat) (by simp [up, zrT]) dX4_does_197 ?_
      refine y_iconst hM dX4_does_198 ?_
      refine y_iadd hM dX4_does_199 ?_
      refine y_iast hM hC (hMI.2 13 (by decide)).1 (fun _ _ => rfl) ⟨by omega, by omega⟩ (by decide) dX4_does_200 (fun H locs hC => ?_)
      refine y_iload hM hl 1 rfl dX4_does_201 ?_
      exact y_iret hM hr hlk hC ⟨_, rfl, h_9, (by unfold mdoe mend; rw [if_pos c_21, if_neg (show ¬ T 33 0 z.toNat = 2 by omega)]; unfold msel mprF moF; rw [if_pos c_25, ← h_46, ← h_9])⟩ (Nat.le_of_ble_eq_true rfl) (Nat.le_of_ble_eq_true rfl) dX4_does_203
    ·
      refine y_aload_n hM hl 2 rfl rfl dX4_does_28 ?_
      refine y_get hM hC hMI.1 rfl rfl (by decide +kernel) 5 ⟨by decide, rfl, rfl, rfl⟩ (by decide +kernel) rfl dX4_does_29 ?_
      refine lv_goto (tgt := 49) hM.1 hM.2.1 dX4_does_32 (by decide) ?_
      have hq1 : 0 ≤ T 28 0 (T 31 0 z.toNat).toNat * T 12 0 5 := Int.mul_nonneg (by omega) (by omega)
      have hq2 : T 28 0 (T 31 0 z.toNat).toNat * T 12 0 5 ≤ 100000000 * 10000 := Int.mul_le_mul (by omega) (by omega) (by omega) (by omega)
      refine lv_istore (lv' := [(5, .int (iI (T 12 0 5))), (4, .int (iI (r_9))), (3, .int (iI (T 31 0 (z).toNat))), (0, .ref (ad 12 0)), (1, .int (iI (z))), (2, .int (iI (f)))]) hM.1 hM.2.1 dX4_does_49 hl (by decide) rfl (fun ls hl => ?_)
      refine y_aload_n hM hl 3 rfl rfl dX4_does_51 ?_
      refine y_get hM hC hMI.1 rfl rfl (by decide +kernel) 18 ⟨by decide, rfl, rfl, rfl⟩ (by decide +kernel) (congrArg (fun q => some (va_rf q)) (hMI.2 18 (by decide)).2) dX4_does_52 ?_
      refine W.eq (g2 := F0 m 55 ls [.ref (ad 38 0)]) rfl ?_
      refine y_iload_n hM hl 4 rfl rfl dX4_does_55 ?_
      refine y_aload_n hM hl 3 rfl rfl dX4_does_56 ?_
      refine y_get hM hC hMI.1 rfl rfl (by decide +kernel) 8 ⟨by decide, rfl, rfl, rfl⟩ (by decide +kernel) (congrArg (fun q => some (va_rf q)) (hMI.2 8 (by decide)).2) dX4_does_57 ?_
      refine W.eq (g2 := F0 m 60 ls [.ref (ad 28 0), .int (iI (z)), .ref (ad 38 0)]) rfl ?_
      refine y_iload_n hM hl 2 rfl rfl dX4_does_60 ?_
      refine y_lald hM hC (hMI.2 8 (by decide)).1 rfl ⟨by omega, by omega⟩ (by decide) (x := T 28 0 (T 31 0 (z).toNat).toNat) rfl dX4_does_61 ?_
      refine y_last hM hC (hMI.2 18 (by decide)).1 (fun _ _ => rfl) ⟨by omega, by omega⟩ (by decide) dX4_does_62 (fun H locs hC => ?_)
      refine y_aload_n hM hl 3 rfl rfl dX4_does_63 ?_
      refine y_get hM hC hMI.1 rfl rfl (by decide +kernel) 19 ⟨by decide, rfl, rfl, rfl⟩ (by decide +kernel) (congrArg (fun q => some (va_rf q)) (hMI.2 19 (by decide)).2) dX4_does_64 ?_
      refine W.eq (g2 := F0 m 67 ls [.ref (ad 39 0)]) rfl ?_
      refine y_iload_n hM hl 4 rfl rfl dX4_does_67 ?_
      refine y_aload_n hM hl 3 rfl rfl dX4_does_68 ?_
      refine y_get hM hC hMI.1 rfl rfl (by decide +kernel) 8 ⟨by decide, rfl, rfl, rfl⟩ (by decide +kernel) (congrArg (fun q => some (va_rf q)) (hMI.2 8 (by decide)).2) dX4_does_69 ?_
      refine W.eq (g2 := F0 m 72 ls [.ref (ad 28 0), .int (iI (z)), .ref (ad 39 0)]) rfl ?_
      refine y_iload_n hM hl 2 rfl rfl dX4_does_72 ?_
      refine y_lald hM hC (hMI.2 8 (by decide)).1 rfl ⟨by omega, by omega⟩ (by decide) (x := T 28 0 (T 31 0 (z).toNat).toNat) (by simp [up, zrT]) dX4_does_73 ?_
      refine y_iload hM hl 0 rfl dX4_does_74 ?_
      refine y_i2l hM (by constructor <;> omega) dX4_does_76 ?_
      refine y_lmul hM dX4_does_77 ?_
      refine y_ldc2 hM (v := 1000) (1000) (by decide) (by decide +kernel) dX4_does_78 ?_
      refine y_ldiv hM ⟨by omega, by omega, by omega, by omega⟩ dX4_does_81 ?_
      refine y_last hM hC (hMI.2 19 (by decide)).1 (fun _ _ => rfl) ⟨by omega, by omega⟩ (by decide) dX4_does_82 (fun H locs hC => ?_)
      refine y_aload_n hM hl 3 rfl rfl dX4_does_83 ?_
      refine y_get hM hC hMI.1 rfl rfl (by decide +kernel) 8 ⟨by decide, rfl, rfl, rfl⟩ (by decide +kernel) (congrArg (fun q => some (va_rf q)) (hMI.2 8 (by decide)).2) dX4_does_84 ?_
      refine W.eq (g2 := F0 m 87 ls [.ref (ad 28 0)]) rfl ?_
      refine y_iload_n hM hl 2 rfl rfl dX4_does_87 ?_
      refine y_lconst hM 0 (by decide) dX4_does_88 ?_
      refine y_last hM hC (hMI.2 8 (by decide)).1 (fun _ _ => rfl) ⟨by omega, by omega⟩ (by decide) dX4_does_89 (fun H locs hC => ?_)
      refine y_aload_n hM hl 3 rfl rfl dX4_does_90 ?_
      refine y_get hM hC hMI.1 rfl rfl (by decide +kernel) 15 ⟨by decide, rfl, rfl, rfl⟩ (by decide +kernel) (congrArg (fun q => some (va_rf q)) (hMI.2 15 (by decide)).2) dX4_does_91 ?_
      refine W.eq (g2 := F0 m 94 ls [.ref (ad 35 0)]) rfl ?_
      refine y_iload_n hM hl 4 rfl rfl dX4_does_94 ?_
      refine y_aload_n hM hl 3 rfl rfl dX4_does_95 ?_
      refine y_get hM hC hMI.1 rfl rfl (by decide +kernel) 1 ⟨by decide, rfl, rfl, rfl⟩ (by decide +kernel) (congrArg (fun q => some (Value.int (iI q))) (show (up (up (up T 38 0 ((z).toNat) (T 28 0 (T 31 0 (z).toNat).toNat)) 39 0 ((z).toNat) (((T 28 0 (T 31 0 (z).toNat).toNat) * (T 12 0 5)) / (1000))) 28 0 ((T 31 0 (z).toNat).toNat) (0)) 12 0 1 = T 12 0 1 from by simp [up, zrT])) dX4_does_96 ?_
      refine y_iast hM hC (hMI.2 15 (by decide)).1 (fun _ _ => rfl) ⟨by omega, by omega⟩ (by decide) dX4_does_99 (fun H locs hC => ?_)
      refine lv_goto (tgt := 145) hM.1 hM.2.1 dX4_does_100 (by decide) ?_
      refine y_aload_n hM hl 3 rfl rfl dX4_does_145 ?_
      refine y_get hM hC hMI.1 rfl rfl (by decide +kernel) 16 ⟨by decide, rfl, rfl, rfl⟩ (by decide +kernel) (congrArg (fun q => some (va_rf q)) (hMI.2 16 (by decide)).2) dX4_does_146 ?_
      refine W.eq (g2 := F0 m 149 ls [.ref (ad 36 0)]) rfl ?_
      refine y_iload_n hM hl 4 rfl rfl dX4_does_149 ?_
      refine lv_dup2_11 hM.1 hM.2.1 dX4_does_150 rfl rfl ?_
      refine y_iald hM hC (hMI.2 16 (by decide)).1 rfl ⟨by omega, by omega⟩ (by decide) (x := T 36 0 (z).toNat) (by simp [up, zrT]) dX4_does_151 ?_
      refine y_aload_n hM hl 3 rfl rfl dX4_does_152 ?_
      refine y_get hM hC hMI.1 rfl rfl (by decide +kernel) 13 ⟨by decide, rfl, rfl, rfl⟩ (by decide +kernel) (congrArg (fun q => some (va_rf q)) (hMI.2 13 (by decide)).2) dX4_does_153 ?_
      refine W.eq (g2 := F0 m 156 ls [.ref (ad 33 0), .int (iI (T 36 0 (z).toNat)), .int (iI (z)), .ref (ad 36 0)]) rfl ?_
      refine y_iload_n hM hl 4 rfl rfl dX4_does_156 ?_
      refine y_iald hM hC (hMI.2 13 (by decide)).1 rfl ⟨by omega, by omega⟩ (by decide) (x := T 33 0 (z).toNat) (by simp [up, zrT]) dX4_does_157 ?_
      refine y_iconst hM dX4_does_158 ?_
      refine y_icmp_ne hM (by constructor <;> omega) (by constructor <;> omega) (tgt := 166) dX4_does_159 (by decide) (fun c_159 => ?_) (fun c_159 => False.elim (by omega))
      refine y_iload hM hl 1 rfl dX4_does_166 ?_
      refine y_iadd hM dX4_does_168 ?_
      refine y_iast hM hC (hMI.2 16 (by decide)).1 (fun _ _ => rfl) ⟨by omega, by omega⟩ (by decide) dX4_does_169 (fun H locs hC => ?_)
      refine y_aload_n hM hl 3 rfl rfl dX4_does_170 ?_
      refine y_get hM hC hMI.1 rfl rfl (by decide +kernel) 17 ⟨by decide, rfl, rfl, rfl⟩ (by decide +kernel) (congrArg (fun q => some (va_rf q)) (hMI.2 17 (by decide)).2) dX4_does_171 ?_
      refine W.eq (g2 := F0 m 174 ls [.ref (ad 37 0)]) rfl ?_
      refine y_iload_n hM hl 4 rfl rfl dX4_does_174 ?_
      refine lv_dup2_11 hM.1 hM.2.1 dX4_does_175 rfl rfl ?_
      refine y_iald hM hC (hMI.2 17 (by decide)).1 rfl ⟨by omega, by omega⟩ (by decide) (x := T 37 0 (z).toNat) (by simp [up, zrT]) dX4_does_176 ?_
      refine y_iload hM hl 1 rfl dX4_does_177 ?_
      refine y_iadd hM dX4_does_179 ?_
      refine y_iast hM hC (hMI.2 17 (by decide)).1 (fun _ _ => rfl) ⟨by omega, by omega⟩ (by decide) dX4_does_180 (fun H locs hC => ?_)
      refine y_aload_n hM hl 3 rfl rfl dX4_does_181 ?_
      refine y_get hM hC hMI.1 rfl rfl (by decide +kernel) 14 ⟨by decide, rfl, rfl, rfl⟩ (by decide +kernel) (congrArg (fun q => some (va_rf q)) (hMI.2 14 (by decide)).2) dX4_does_182 ?_
      refine W.eq (g2 := F0 m 185 ls [.ref (ad 34 0)]) rfl ?_
      refine y_iload_n hM hl 4 rfl rfl dX4_does_185 ?_
      refine y_aload_n hM hl 3 rfl rfl dX4_does_186 ?_
      refine y_get hM hC hMI.1 rfl rfl (by decide +kernel) 1 ⟨by decide, rfl, rfl, rfl⟩ (by decide +kernel) (congrArg (fun q => some (Value.int (iI q))) (show (up (up (up (up (up (up T 38 0 ((z).toNat) (T 28 0 (T 31 0 (z).toNat).toNat)) 39 0 ((z).toNat) (((T 28 0 (T 31 0 (z).toNat).toNat) * (T 12 0 5)) / (1000))) 28 0 ((T 31 0 (z).toNat).toNat) (0)) 35 0 ((z).toNat) (T 12 0 1)) 36 0 ((z).toNat) ((T 36 0 (z).toNat) + (r_9))) 37 0 ((z).toNat) ((T 37 0 (z).toNat) + (r_9))) 12 0 1 = T 12 0 1 from by simp [up, zrT])) dX4_does_187 ?_
      refine y_iast hM hC (hMI.2 14 (by decide)).1 (fun _ _ => rfl) ⟨by omega, by omega⟩ (by decide) dX4_does_190 (fun H locs hC => ?_)
      refine y_aload_n hM hl 3 rfl rfl dX4_does_191 ?_
      refine y_get hM hC hMI.1 rfl rfl (by decide +kernel) 13 ⟨by decide, rfl, rfl, rfl⟩ (by decide +kernel) (congrArg (fun q => some (va_rf q)) (hMI.2 13 (by decide)).2) dX4_does_192 ?_
      refine W.eq (g2 := F0 m 195 ls [.ref (ad 33 0)]) rfl ?_
      refine y_iload_n hM hl 4 rfl rfl dX4_does_195 ?_
      refine lv_dup2_11 hM.1 hM.2.1 dX4_does_196 rfl rfl ?_
      refine y_iald hM hC (hMI.2 13 (by decide)).1 rfl ⟨by omega, by omega⟩ (by decide) (x := T 33 0 (z).toNat) (by simp [up, zrT]) dX4_does_197 ?_
      refine y_iconst hM dX4_does_198 ?_
      refine y_iadd hM dX4_does_199 ?_
      refine y_iast hM hC (hMI.2 13 (by decide)).1 (fun _ _ => rfl) ⟨by omega, by omega⟩ (by decide) dX4_does_200 (fun H locs hC => ?_)
      refine y_iload hM hl 1 rfl dX4_does_201 ?_
      exact y_iret hM hr hlk hC ⟨_, rfl, h_9, (by unfold mdoe mend; rw [if_pos c_21, if_neg (show ¬ T 33 0 z.toNat = 2 by omega)]; unfold msel mprF moF; rw [if_neg c_25, ← h_9])⟩ (Nat.le_of_ble_eq_true rfl) (Nat.le_of_ble_eq_true rfl) dX4_does_203

set_option maxRecDepth 100000 in
set_option maxHeartbeats 8000000 in
theorem c_M_step (l : Launch) (hfl : l.stackTraces = false) (G : GG) (b0 : Nat) (ks : KK) (ad : AD) (T : TT) (P : PP) (z : Int) (hz : inI z) (hMI : MI ks ad P) (hMN : MN T)  : vx_Met l yX4_step wsX4_step (rmX 4 0 0 106) (va_Pc [.ref (ad 12 0), .int (iI (z))] (Ok G b0 (ks, ad, T, P))) (Qr (fun v u1 => ∃ (r : Int) (T1 : TT), v = some (.int (iI r)) ∧ (((z < 0 ∨ T 12 0 10 ≤ z) ∧ T1 = up T 12 0 0 1) ∨ ((0 ≤ z ∧ z < T 12 0 10 ∧ (T 33 0 z.toNat = 3 ∨ (T 33 0 z.toNat = 2 ∧ (100000000 < mgot T z (mpr T (T 32 0 z.toNat) (T 12 0 1)) ∨ 100000000 < mtim T z (mlate T z))))) ∧ T1 = up (up T 12 0 0 0) 12 0 0 2) ∨ ((0 ≤ z ∧ z < T 12 0 10 ∧ T 33 0 z.toNat ≠ 3 ∧ (T 33 0 z.toNat = 2 → mgot T z (mpr T (T 32 0 z.toNat) (T 12 0 1)) ≤ 100000000 ∧ mtim T z (mlate T z) ≤ 100000000) ∧ r = mlate T z) ∧ T1 = mdoe (up (up T 12 0 0 0) 12 0 0 0) z 0)) ∧ u1 = (ks, ad, T1, P)) G b0) (Xr (noX) G b0) 0 0 (Wx b0) := by
  refine vx_ofW (cc := cX4_step) (maxL := 2) (ret := (some .int)) (by decide +kernel) rfl ?_
  intro p e s m args below meth c s₁ B hml hto hv
  obtain ⟨rfl, hok⟩ := hv
  have hM : CallFix p m c cX4_step 2 s _ wsX4_step RX4 := ⟨B.exec, B.bytes, hml, findClass_of_methodNamed B.named, atoms_spec (ws := wsX4_step) B.pre⟩
  have hr := B.returns
  have hlk := B.notSynchronized
  have hC := hok.cur
  have hl := lv_entry ([.ref (ad 12 0), .int (iI (z))]) (n := 2) (Nat.le_of_ble_eq_true rfl)
  rw [lg_entry_eq]
  generalize (lg_sl ([.ref (ad 12 0), .int (iI (z))]) ++ List.replicate (2 - (lg_sl ([.ref (ad 12 0), .int (iI (z))])).length) Slot.unset).toArray = ls at hl ⊢
  have hl : lv_has ls 2 [(0, .ref (ad 12 0)), (1, .int (iI (z)))] := hl
  obtain ⟨⟨m1a, m1b⟩, ⟨m5a, m5b⟩, ⟨m6a, m6b⟩, ⟨mxa, mxb⟩, mpv, mpp, msv, mor⟩ := id hMN
  refine y_aload_n hM hl 0 rfl rfl dX4_step_0 ?_
  refine y_aload_n hM hl 0 rfl rfl dX4_step_1 ?_
  refine y_iload_n hM hl 1 rfl rfl dX4_step_2 ?_
  refine y_callV hM hC (c_M_isOrder l hfl G b0 ks ad T P (z) (by constructor <;> omega) hMI hMN) (cwV 1 hM.2.2.2.2 gX4_step_X4_isOrder rfl rfl rfl (by decide +kernel) ⟨(Nat.le_of_ble_eq_true rfl), (Nat.le_of_ble_eq_true rfl)⟩) (y_recv hC hMI.1 rfl rfl) rfl hl.1 rfl (Nat.le_of_ble_eq_true rfl) dX4_step_3 ⟨(Nat.le_of_ble_eq_true rfl), (Nat.le_of_ble_eq_true rfl)⟩ (fun E ce q9 u1 H locs hx hC hce hcv hcl => hx.elim) (fun v u1 H locs hp hC => ?_)
  obtain ⟨r_3, rfl, h_3, hu⟩ := hp; rw [hu] at hC; clear hu
  try dsimp only at h_3
  refine W.eq (g2 := F0 m 6 ls [.int (iI (r_3)), .ref (ad 12 0)]) rfl ?_
  refine y_if_eq hM (by constructor <;> omega) (tgt := 13) dX4_step_6 (by decide) (fun c_6 => ?_) (fun c_6 => ?_)
  ·
    refine y_iconst hM dX4_step_13 ?_
    refine y_put hM hC hMI.1 rfl rfl (by decide +kernel) tyX4 tyX4_ok nmX4 0 ⟨by decide, rfl, rfl, rfl, rfl⟩ (by decide +kernel) (ty := .int) (by decide +kernel) rfl rfl (Nat.le_of_ble_eq_true rfl) (T' := (up T 12 0 0 (1))) (P' := P) (cF_up rfl) (fun _ _ h => up_ne h) (fun _ _ _ => rfl) dX4_step_14 (fun H locs hC => ?_)
    refine y_aload_n hM hl 0 rfl rfl dX4_step_17 ?_
    refine y_get hM hC hMI.1 rfl rfl (by decide +kernel) 0 ⟨by decide, rfl, rfl, rfl⟩ (by decide +kernel) (congrArg (fun q => some (Value.int (iI q))) (show (up T 12 0 0 (1)) 12 0 0 = 1 from by simp [up, zrT])) dX4_step_18 ?_
    refine y_if_le hM (by constructor <;> omega) (tgt := 26) dX4_step_21 (by decide) (fun c_21 => False.elim (by omega)) (fun c_21 => ?_)
    refine y_iconst hM dX4_step_24 ?_
    exact y_iret hM hr hlk hC ⟨_, _, rfl, (Or.inl ⟨by omega, rfl⟩), rfl⟩ (Nat.le_of_ble_eq_true rfl) (Nat.le_of_ble_eq_true rfl) dX4_step_25
  ·
    refine y_iconst hM dX4_step_9 ?_
    refine lv_goto (tgt := 14) hM.1 hM.2.1 dX4_step_10 (by decide) ?_
    refine y_put hM hC hMI.1 rfl rfl (by decide +kernel) tyX4 tyX4_ok nmX4 0 ⟨by decide, rfl, rfl, rfl, rfl⟩ (by decide +kernel) (ty := .int) (by decide +kernel) rfl rfl (Nat.le_of_ble_eq_true rfl) (T' := (up T 12 0 0 (0))) (P' := P) (cF_up rfl) (fun _ _ h => up_ne h) (fun _ _ _ => rfl) dX4_step_14 (fun H locs hC => ?_)
    refine y_aload_n hM hl 0 rfl rfl dX4_step_17 ?_
    refine y_get hM hC hMI.1 rfl rfl (by decide +kernel) 0 ⟨by decide, rfl, rfl, rfl⟩ (by decide +kernel) (congrArg (fun q => some (Value.int (iI q))) (show (up T 12 0 0 (0)) 12 0 0 = 0 from by simp [up, zrT])) dX4_step_18 ?_
    refine y_if_le hM (by constructor <;> omega) (tgt := 26) dX4_step_21 (by decide) (fun c_21 => ?_) (fun c_21 => False.elim (by omega))
    have ho := mor z.toNat (by omega)
    unfold MOr at ho
    refine y_aload_n hM hl 0 rfl rfl dX4_step_26 ?_
    refine y_aload_n hM hl 0 rfl rfl dX4_step_27 ?_
    refine y_get hM hC hMI.1 rfl rfl (by decide +kernel) 13 ⟨by decide, rfl, rfl, rfl⟩ (by decide +kernel) (congrArg (fun q => some (va_rf q)) (hMI.2 13 (by decide)).2) dX4_step_28 ?_
    refine W.eq (g2 := F0 m 31 ls [.ref (ad 33 0), .ref (ad 12 0)]) rfl ?_
    refine y_iload_n hM hl 1 rfl rfl dX4_step_31 ?_
    refine y_iald hM hC (hMI.2 13 (by decide)).1 rfl ⟨by omega, by omega⟩ (by decide) (x := T 33 0 (z).toNat) (by simp [up, zrT]) dX4_step_32 ?_
    refine y_iconst hM dX4_step_33 ?_
    refine y_icmp_eq hM (by constructor <;> omega) (by constructor <;> omega) (tgt := 64) dX4_step_34 (by decide) (fun c_34 => ?_) (fun c_34 => ?_)
    ·
      refine y_iconst hM dX4_step_64 ?_
      refine lv_goto (tgt := 69) hM.1 hM.2.1 dX4_step_65 (by decide) ?_
      refine y_put hM hC hMI.1 rfl rfl (by decide +kernel) tyX4 tyX4_ok nmX4 0 ⟨by decide, rfl, rfl, rfl, rfl⟩ (by decide +kernel) (ty := .int) (by decide +kernel) rfl rfl (Nat.le_of_ble_eq_true rfl) (T' := (up (up T 12 0 0 (0)) 12 0 0 (2))) (P' := P) (cF_up rfl) (fun _ _ h => up_ne h) (fun _ _ _ => rfl) dX4_step_69 (fun H locs hC => ?_)
      refine y_aload_n hM hl 0 rfl rfl dX4_step_72 ?_
      refine y_get hM hC hMI.1 rfl rfl (by decide +kernel) 0 ⟨by decide, rfl, rfl, rfl⟩ (by decide +kernel) (congrArg (fun q => some (Value.int (iI q))) (show (up (up T 12 0 0 (0)) 12 0 0 (2)) 12 0 0 = 2 from by simp [up, zrT])) dX4_step_73 ?_
      refine y_if_le hM (by constructor <;> omega) (tgt := 83) dX4_step_76 (by decide) (fun c_76 => False.elim (by omega)) (fun c_76 => ?_)
      refine y_iconst hM dX4_step_79 ?_
      refine lv_goto (tgt := 89) hM.1 hM.2.1 dX4_step_80 (by decide) ?_
      exact y_iret hM hr hlk hC ⟨_, _, rfl, (Or.inr (Or.inl ⟨by omega, rfl⟩)), rfl⟩ (Nat.le_of_ble_eq_true rfl) (Nat.le_of_ble_eq_true rfl) dX4_step_89
    ·
      refine y_aload_n hM hl 0 rfl rfl dX4_step_37 ?_
      refine y_iload_n hM hl 1 rfl rfl dX4_step_38 ?_
      refine y_aload_n hM hl 0 rfl rfl dX4_step_39 ?_
      refine y_aload_n hM hl 0 rfl rfl dX4_step_40 ?_
      refine y_get hM hC hMI.1 rfl rfl (by decide +kernel) 12 ⟨by decide, rfl, rfl, rfl⟩ (by decide +kernel) (congrArg (fun q => some (va_rf q)) (hMI.2 12 (by decide)).2) dX4_step_41 ?_
      refine W.eq (g2 := F0 m 44 ls [.ref (ad 32 0), .ref (ad 12 0), .int (iI (z)), .ref (ad 12 0), .ref (ad 12 0)]) rfl ?_
      refine y_iload_n hM hl 1 rfl rfl dX4_step_44 ?_
      refine y_iald hM hC (hMI.2 12 (by decide)).1 rfl ⟨by omega, by omega⟩ (by decide) (x := T 32 0 (z).toNat) (by simp [up, zrT]) dX4_step_45 ?_
      refine y_aload_n hM hl 0 rfl rfl dX4_step_46 ?_
      refine y_get hM hC hMI.1 rfl rfl (by decide +kernel) 1 ⟨by decide, rfl, rfl, rfl⟩ (by decide +kernel) (congrArg (fun q => some (Value.int (iI q))) (show (up T 12 0 0 (0)) 12 0 1 = T 12 0 1 from by simp [up, zrT])) dX4_step_47 ?_
      refine y_callV hM hC (c_priceOf l hfl G b0 ks ad (up T 12 0 0 (0)) P (T 32 0 (z).toNat) (T 12 0 1) ⟨by omega, by omega⟩ ⟨by omega, by omega⟩ hMI) (cwV 2 hM.2.2.2.2 gX4_step_X4_priceOf rfl rfl rfl (by decide +kernel) ⟨(Nat.le_of_ble_eq_true rfl), (Nat.le_of_ble_eq_true rfl)⟩) (y_recv hC hMI.1 rfl rfl) rfl hl.1 rfl (Nat.le_of_ble_eq_true rfl) dX4_step_50 ⟨(Nat.le_of_ble_eq_true rfl), (Nat.le_of_ble_eq_true rfl)⟩ (fun E ce q9 u1 H locs hx hC hce hcv hcl => hx.elim) (fun v u1 H locs hp hC => ?_)
      obtain ⟨r_50, rfl, h_50, hu⟩ := hp; rw [hu] at hC; clear hu
      try dsimp only at h_50
      refine W.eq (g2 := F0 m 53 ls [.int (iI (r_50)), .int (iI (z)), .ref (ad 12 0), .ref (ad 12 0)]) rfl ?_
      have hv_50 := mpv (T 32 0 z.toNat) (T 12 0 1) (by omega) (by omega) (by omega) (by omega)
      have h_50 : r_50 = (mpr T (T 32 0 z.toNat) (T 12 0 1)) := h_50
      rw [← h_50] at hv_50
      refine y_aload_n hM hl 0 rfl rfl dX4_step_53 ?_
      refine y_iload_n hM hl 1 rfl rfl dX4_step_54 ?_
      refine y_callV hM hC (c_lateBy l hfl G b0 ks ad (up T 12 0 0 (0)) P (z) ⟨by omega, (show _ < T 12 0 10 by omega)⟩ hMI (MN_th hMN)) (cwV 1 hM.2.2.2.2 gX4_step_X4_lateBy rfl rfl rfl (by decide +kernel) ⟨(Nat.le_of_ble_eq_true rfl), (Nat.le_of_ble_eq_true rfl)⟩) (y_recv hC hMI.1 rfl rfl) rfl hl.1 rfl (Nat.le_of_ble_eq_true rfl) dX4_step_55 ⟨(Nat.le_of_ble_eq_true rfl), (Nat.le_of_ble_eq_true rfl)⟩ (fun E ce q9 u1 H locs hx hC hce hcv hcl => hx.elim) (fun v u1 H locs hp hC => ?_)
      obtain ⟨r_55, rfl, h_55, hu⟩ := hp; rw [hu] at hC; clear hu
      try dsimp only at h_55
      refine W.eq (g2 := F0 m 58 ls [.int (iI (r_55)), .int (iI (r_50)), .int (iI (z)), .ref (ad 12 0), .ref (ad 12 0)]) rfl ?_
      have hl55 := mlate_in (T := T) (z := z) ⟨by omega, by omega⟩ (by omega)
      have h_55 : r_55 = mlate T z := h_55
      rw [← h_55] at hl55
      refine y_callV hM hC (c_isTooMuch l hfl G b0 ks ad (up T 12 0 0 (0)) P (z) (r_50) (r_55) ⟨by omega, (show _ < T 12 0 10 by omega)⟩ ⟨(show 100 ≤ r_50 by omega), (show r_50 ≤ 10000 by omega)⟩ ⟨by omega, (show r_55 + T 34 0 z.toNat ≤ T 12 0 1 by omega)⟩ hMI (MN_th hMN)) (cwV 3 hM.2.2.2.2 gX4_step_X4_isTooMuch rfl rfl rfl (by decide +kernel) ⟨(Nat.le_of_ble_eq_true rfl), (Nat.le_of_ble_eq_true rfl)⟩) (y_recv hC hMI.1 rfl rfl) rfl hl.1 rfl (Nat.le_of_ble_eq_true rfl) dX4_step_58 ⟨(Nat.le_of_ble_eq_true rfl), (Nat.le_of_ble_eq_true rfl)⟩ (fun E ce q9 u1 H locs hx hC hce hcv hcl => hx.elim) (fun v u1 H locs hp hC => ?_)
      obtain ⟨r_58, rfl, h_58, hu⟩ := hp; rw [hu] at hC; clear hu
      try dsimp only at h_58
      refine W.eq (g2 := F0 m 61 ls [.int (iI (r_58)), .ref (ad 12 0)]) rfl ?_
      have h_58 : (r_58 = 1 ∧ T 33 0 z.toNat = 2 ∧ (100000000 < mgot T z (mpr T (T 32 0 z.toNat) (T 12 0 1)) ∨ 100000000 < mtim T z (mlate T z))) ∨ (r_58 = 0 ∧ (T 33 0 z.toNat = 2 → mgot T z (mpr T (T 32 0 z.toNat) (T 12 0 1)) ≤ 100000000 ∧ mtim T z (mlate T z) ≤ 100000000)) := by
        rw [← h_55, ← h_50]
        exact h_58
      refine y_if_eq hM (by constructor <;> omega) (tgt := 68) dX4_step_61 (by decide) (fun c_61 => ?_) (fun c_61 => ?_)
      ·
        refine y_iconst hM dX4_step_68 ?_
        refine y_put hM hC hMI.1 rfl rfl (by decide +kernel) tyX4 tyX4_ok nmX4 0 ⟨by decide, rfl, rfl, rfl, rfl⟩ (by decide +kernel) (ty := .int) (by decide +kernel) rfl rfl (Nat.le_of_ble_eq_true rfl) (T' := (up (up T 12 0 0 (0)) 12 0 0 (0))) (P' := P) (cF_up rfl) (fun _ _ h => up_ne h) (fun _ _ _ => rfl) dX4_step_69 (fun H locs hC => ?_)
        refine y_aload_n hM hl 0 rfl rfl dX4_step_72 ?_
        refine y_get hM hC hMI.1 rfl rfl (by decide +kernel) 0 ⟨by decide, rfl, rfl, rfl⟩ (by decide +kernel) (congrArg (fun q => some (Value.int (iI q))) (show (up (up T 12 0 0 (0)) 12 0 0 (0)) 12 0 0 = 0 from by simp [up, zrT])) dX4_step_73 ?_
        refine y_if_le hM (by constructor <;> omega) (tgt := 83) dX4_step_76 (by decide) (fun c_76 => ?_) (fun c_76 => False.elim (by omega))
        refine y_aload_n hM hl 0 rfl rfl dX4_step_83 ?_
        refine y_iload_n hM hl 1 rfl rfl dX4_step_84 ?_
        refine y_iconst hM dX4_step_85 ?_
        refine y_callV hM hC (c_does l hfl G b0 ks ad (up (up T 12 0 0 (0)) 12 0 0 (0)) P (z) (0) ⟨by omega, (show _ < T 12 0 10 by omega)⟩ (Or.inl rfl) hMI (MN_th (MN_th hMN))) (cwV 2 hM.2.2.2.2 gX4_step_X4_does rfl rfl rfl (by decide +kernel) ⟨(Nat.le_of_ble_eq_true rfl), (Nat.le_of_ble_eq_true rfl)⟩) (y_recv hC hMI.1 rfl rfl) rfl hl.1 rfl (Nat.le_of_ble_eq_true rfl) dX4_step_86 ⟨(Nat.le_of_ble_eq_true rfl), (Nat.le_of_ble_eq_true rfl)⟩ (fun E ce q9 u1 H locs hx hC hce hcv hcl => hx.elim) (fun v u1 H locs hp hC => ?_)
        obtain ⟨r_86, rfl, h_86, hu⟩ := hp; rw [hu] at hC; clear hu
        try dsimp only at h_86
        refine W.eq (g2 := F0 m 89 ls [.int (iI (r_86))]) rfl ?_
        have h_86 : r_86 = mlate T z := h_86
        exact y_iret hM hr hlk hC ⟨_, _, rfl, (Or.inr (Or.inr ⟨by omega, rfl⟩)), rfl⟩ (Nat.le_of_ble_eq_true rfl) (Nat.le_of_ble_eq_true rfl) dX4_step_89
      ·
        refine y_iconst hM dX4_step_64 ?_
        refine lv_goto (tgt := 69) hM.1 hM.2.1 dX4_step_65 (by decide) ?_
        refine y_put hM hC hMI.1 rfl rfl (by decide +kernel) tyX4 tyX4_ok nmX4 0 ⟨by decide, rfl, rfl, rfl, rfl⟩ (by decide +kernel) (ty := .int) (by decide +kernel) rfl rfl (Nat.le_of_ble_eq_true rfl) (T' := (up (up T 12 0 0 (0)) 12 0 0 (2))) (P' := P) (cF_up rfl) (fun _ _ h => up_ne h) (fun _ _ _ => rfl) dX4_step_69 (fun H locs hC => ?_)
        refine y_aload_n hM hl 0 rfl rfl dX4_step_72 ?_
        refine y_get hM hC hMI.1 rfl rfl (by decide +kernel) 0 ⟨by decide, rfl, rfl, rfl⟩ (by decide +kernel) (congrArg (fun q => some (Value.int (iI q))) (show (up (up T 12 0 0 (0)) 12 0 0 (2)) 12 0 0 = 2 from by simp [up, zrT])) dX4_step_73 ?_
        refine y_if_le hM (by constructor <;> omega) (tgt := 83) dX4_step_76 (by decide) (fun c_76 => False.elim (by omega)) (fun c_76 => ?_)
        refine y_iconst hM dX4_step_79 ?_
        refine lv_goto (tgt := 89) hM.1 hM.2.1 dX4_step_80 (by decide) ?_
        exact y_iret hM hr hlk hC ⟨_, _, rfl, (Or.inr (Or.inl ⟨by omega, rfl⟩)), rfl⟩ (Nat.le_of_ble_eq_true rfl) (Nat.le_of_ble_eq_true rfl) dX4_step_89

set_option maxRecDepth 100000 in
set_option maxHeartbeats 8000000 in
theorem c_M_force (l : Launch) (hfl : l.stackTraces = false) (G : GG) (b0 : Nat) (ks : KK) (ad : AD) (T : TT) (P : PP) (z : Int) (hz : inI z) (hMI : MI ks ad P) (hMN : MN T)  : vx_Met l yX4_force wsX4_force (rmX 4 0 0 106) (va_Pc [.ref (ad 12 0), .int (iI (z))] (Ok G b0 (ks, ad, T, P))) (Qr (fun v u1 => ∃ (r : Int) (T1 : TT), v = some (.int (iI r)) ∧ (((z < 0 ∨ T 12 0 10 ≤ z) ∧ T1 = up T 12 0 0 1) ∨ ((0 ≤ z ∧ z < T 12 0 10 ∧ (T 33 0 z.toNat = 3 ∨ mlate T z ≤ 10 ∨ (T 33 0 z.toNat = 2 ∧ (100000000 < mgot T z (T 12 0 5) ∨ 100000000 < mtim T z (mlate T z))))) ∧ T1 = up (up T 12 0 0 0) 12 0 0 2) ∨ ((0 ≤ z ∧ z < T 12 0 10 ∧ T 33 0 z.toNat ≠ 3 ∧ 10 < mlate T z ∧ (T 33 0 z.toNat = 2 → mgot T z (T 12 0 5) ≤ 100000000 ∧ mtim T z (mlate T z) ≤ 100000000) ∧ r = mlate T z) ∧ T1 = mdoe (up (up T 12 0 0 0) 12 0 0 0) z 1)) ∧ u1 = (ks, ad, T1, P)) G b0) (Xr (noX) G b0) 0 0 (Wx b0) := by
  refine vx_ofW (cc := cX4_force) (maxL := 2) (ret := (some .int)) (by decide +kernel) rfl ?_
  intro p e s m args below meth c s₁ B hml hto hv
  obtain ⟨rfl, hok⟩ := hv
  have hM : CallFix p m c cX4_force 2 s _ wsX4_force RX4 := ⟨B.exec, B.bytes, hml, findClass_of_methodNamed B.named, atoms_spec (ws := wsX4_force) B.pre⟩
  have hr := B.returns
  have hlk := B.notSynchronized
  have hC := hok.cur
  have hl := lv_entry ([.ref (ad 12 0), .int (iI (z))]) (n := 2) (Nat.le_of_ble_eq_true rfl)
  rw [lg_entry_eq]
  generalize (lg_sl ([.ref (ad 12 0), .int (iI (z))]) ++ List.replicate (2 - (lg_sl ([.ref (ad 12 0), .int (iI (z))])).length) Slot.unset).toArray = ls at hl ⊢
  have hl : lv_has ls 2 [(0, .ref (ad 12 0)), (1, .int (iI (z)))] := hl
  obtain ⟨⟨m1a, m1b⟩, ⟨m5a, m5b⟩, ⟨m6a, m6b⟩, ⟨mxa, mxb⟩, mpv, mpp, msv, mor⟩ := id hMN
  refine y_aload_n hM hl 0 rfl rfl dX4_force_0 ?_
  refine y_aload_n hM hl 0 rfl rfl dX4_force_1 ?_
  refine y_iload_n hM hl 1 rfl rfl dX4_force_2 ?_
  refine y_callV hM hC (c_M_isOrder l hfl G b0 ks ad T P (z) (by constructor <;> omega) hMI hMN) (cwV 1 hM.2.2.2.2 gX4_force_X4_isOrder rfl rfl rfl (by decide +kernel) ⟨(Nat.le_of_ble_eq_true rfl), (Nat.le_of_ble_eq_true rfl)⟩) (y_recv hC hMI.1 rfl rfl) rfl hl.1 rfl (Nat.le_of_ble_eq_true rfl) dX4_force_3 ⟨(Nat.le_of_ble_eq_true rfl), (Nat.le_of_ble_eq_true rfl)⟩ (fun E ce q9 u1 H locs hx hC hce hcv hcl => hx.elim) (fun v u1 H locs hp hC => ?_)
  obtain ⟨r_3, rfl, h_3, hu⟩ := hp; rw [hu] at hC; clear hu
  try dsimp only at h_3
  refine W.eq (g2 := F0 m 6 ls [.int (iI (r_3)), .ref (ad 12 0)]) rfl ?_
  refine y_if_eq hM (by constructor <;> omega) (tgt := 13) dX4_force_6 (by decide) (fun c_6 => ?_) (fun c_6 => ?_)
  ·
    refine y_iconst hM dX4_force_13 ?_
    refine y_put hM hC hMI.1 rfl rfl (by decide +kernel) tyX4 tyX4_ok nmX4 0 ⟨by decide, rfl, rfl, rfl, rfl⟩ (by decide +kernel) (ty := .int) (by decide +kernel) rfl rfl (Nat.le_of_ble_eq_true rfl) (T' := (up T 12 0 0 (1))) (P' := P) (cF_up rfl) (fun _ _ h => up_ne h) (fun _ _ _ => rfl) dX4_force_14 (fun H locs hC => ?_)
    refine y_aload_n hM hl 0 rfl rfl dX4_force_17 ?_
    refine y_get hM hC hMI.1 rfl rfl (by decide +kernel) 0 ⟨by decide, rfl, rfl, rfl⟩ (by decide +kernel) (congrArg (fun q => some (Value.int (iI q))) (show (up T 12 0 0 (1)) 12 0 0 = 1 from by simp [up, zrT])) dX4_force_18 ?_
    refine y_if_le hM (by constructor <;> omega) (tgt := 26) dX4_force_21 (by decide) (fun c_21 => False.elim (by omega)) (fun c_21 => ?_)
    refine y_iconst hM dX4_force_24 ?_
    exact y_iret hM hr hlk hC ⟨_, _, rfl, (Or.inl ⟨by omega, rfl⟩), rfl⟩ (Nat.le_of_ble_eq_true rfl) (Nat.le_of_ble_eq_true rfl) dX4_force_25
  ·
    refine y_iconst hM dX4_force_9 ?_
    refine lv_goto (tgt := 14) hM.1 hM.2.1 dX4_force_10 (by decide) ?_
    refine y_put hM hC hMI.1 rfl rfl (by decide +kernel) tyX4 tyX4_ok nmX4 0 ⟨by decide, rfl, rfl, rfl, rfl⟩ (by decide +kernel) (ty := .int) (by decide +kernel) rfl rfl (Nat.le_of_ble_eq_true rfl) (T' := (up T 12 0 0 (0))) (P' := P) (cF_up rfl) (fun _ _ h => up_ne h) (fun _ _ _ => rfl) dX4_force_14 (fun H locs hC => ?_)
    refine y_aload_n hM hl 0 rfl rfl dX4_force_17 ?_
    refine y_get hM hC hMI.1 rfl rfl (by decide +kernel) 0 ⟨by decide, rfl, rfl, rfl⟩ (by decide +kernel) (congrArg (fun q => some (Value.int (iI q))) (show (up T 12 0 0 (0)) 12 0 0 = 0 from by simp [up, zrT])) dX4_force_18 ?_
    refine y_if_le hM (by constructor <;> omega) (tgt := 26) dX4_force_21 (by decide) (fun c_21 => ?_) (fun c_21 => False.elim (by omega))
    have ho := mor z.toNat (by omega)
    unfold MOr at ho
    refine y_aload_n hM hl 0 rfl rfl dX4_force_26 ?_
    refine y_aload_n hM hl 0 rfl rfl dX4_force_27 ?_
    refine y_get hM hC hMI.1 rfl rfl (by decide +kernel) 13 ⟨by decide, rfl, rfl, rfl⟩ (by decide +kernel) (congrArg (fun q => some (va_rf q)) (hMI.2 13 (by decide)).2) dX4_force_28 ?_
    refine W.eq (g2 := F0 m 31 ls [.ref (ad 33 0), .ref (ad 12 0)]) rfl ?_
    refine y_iload_n hM hl 1 rfl rfl dX4_force_31 ?_
    refine y_iald hM hC (hMI.2 13 (by decide)).1 rfl ⟨by omega, by omega⟩ (by decide) (x := T 33 0 (z).toNat) (by simp [up, zrT]) dX4_force_32 ?_
    refine y_iconst hM dX4_force_33 ?_
    refine y_icmp_eq hM (by constructor <;> omega) (by constructor <;> omega) (tgt := 64) dX4_force_34 (by decide) (fun c_34 => ?_) (fun c_34 => ?_)
    ·
      refine y_iconst hM dX4_force_64 ?_
      refine lv_goto (tgt := 69) hM.1 hM.2.1 dX4_force_65 (by decide) ?_
      refine y_put hM hC hMI.1 rfl rfl (by decide +kernel) tyX4 tyX4_ok nmX4 0 ⟨by decide, rfl, rfl, rfl, rfl⟩ (by decide +kernel) (ty := .int) (by decide +kernel) rfl rfl (Nat.le_of_ble_eq_true rfl) (T' := (up (up T 12 0 0 (0)) 12 0 0 (2))) (P' := P) (cF_up rfl) (fun _ _ h => up_ne h) (fun _ _ _ => rfl) dX4_force_69 (fun H locs hC => ?_)
      refine y_aload_n hM hl 0 rfl rfl dX4_force_72 ?_
      refine y_get hM hC hMI.1 rfl rfl (by decide +kernel) 0 ⟨by decide, rfl, rfl, rfl⟩ (by decide +kernel) (congrArg (fun q => some (Value.int (iI q))) (show (up (up T 12 0 0 (0)) 12 0 0 (2)) 12 0 0 = 2 from by simp [up, zrT])) dX4_force_73 ?_
      refine y_if_le hM (by constructor <;> omega) (tgt := 83) dX4_force_76 (by decide) (fun c_76 => False.elim (by omega)) (fun c_76 => ?_)
      refine y_iconst hM dX4_force_79 ?_
      refine lv_goto (tgt := 89) hM.1 hM.2.1 dX4_force_80 (by decide) ?_
      exact y_iret hM hr hlk hC ⟨_, _, rfl, (Or.inr (Or.inl ⟨by omega, rfl⟩)), rfl⟩ (Nat.le_of_ble_eq_true rfl) (Nat.le_of_ble_eq_true rfl) dX4_force_89
    ·
      refine y_aload_n hM hl 0 rfl rfl dX4_force_37 ?_
      refine y_iload_n hM hl 1 rfl rfl dX4_force_38 ?_
      refine y_callV hM hC (c_lateBy l hfl G b0 ks ad (up T 12 0 0 (0)) P (z) ⟨by omega, (show _ < T 12 0 10 by omega)⟩ hMI (MN_th hMN)) (cwV 1 hM.2.2.2.2 gX4_force_X4_lateBy rfl rfl rfl (by decide +kernel) ⟨(Nat.le_of_ble_eq_true rfl), (Nat.le_of_ble_eq_true rfl)⟩) (y_recv hC hMI.1 rfl rfl) rfl hl.1 rfl (Nat.le_of_ble_eq_true rfl) dX4_force_39 ⟨(Nat.le_of_ble_eq_true rfl), (Nat.le_of_ble_eq_true rfl)⟩ (fun E ce q9 u1 H locs hx hC hce hcv hcl => hx.elim) (fun v u1 H locs hp hC => ?_)
      obtain ⟨r_39, rfl, h_39, hu⟩ := hp; rw [hu] at hC; clear hu
      try dsimp only at h_39
      refine W.eq (g2 := F0 m 42 ls [.int (iI (r_39)), .ref (ad 12 0)]) rfl ?_
      have hl39 := mlate_in (T := T) (z := z) ⟨by omega, by omega⟩ (by omega)
      have h_39 : r_39 = mlate T z := h_39
      rw [← h_39] at hl39
      refine y_bipush hM dX4_force_42 (by decide) ?_
      refine y_icmp_le hM (by constructor <;> omega) (by constructor <;> omega) (tgt := 64) dX4_force_44 (by decide) (fun c_44 => ?_) (fun c_44 => ?_)
      ·
        refine y_iconst hM dX4_force_64 ?_
        refine lv_goto (tgt := 69) hM.1 hM.2.1 dX4_force_65 (by decide) ?_
        refine y_put hM hC hMI.1 rfl rfl (by decide +kernel) tyX4 tyX4_ok nmX4 0 ⟨by decide, rfl, rfl, rfl, rfl⟩ (by decide +kernel) (ty := .int) (by decide +kernel) rfl rfl (Nat.le_of_ble_eq_true rfl) (T' := (up (up T 12 0 0 (0)) 12 0 0 (2))) (P' := P) (cF_up rfl) (fun _ _ h => up_ne h) (fun _ _ _ => rfl) dX4_force_69 (fun H locs hC => ?_)
        refine y_aload_n hM hl 0 rfl rfl dX4_force_72 ?_
        refine y_get hM hC hMI.1 rfl rfl (by decide +kernel) 0 ⟨by decide, rfl, rfl, rfl⟩ (by decide +kernel) (congrArg (fun q => some (Value.int (iI q))) (show (up (up T 12 0 0 (0)) 12 0 0 (2)) 12 0 0 = 2 from by simp [up, zrT])) dX4_force_73 ?_
        refine y_if_le hM (by constructor <;> omega) (tgt := 83) dX4_force_76 (by decide) (fun c_76 => False.elim (by omega)) (fun c_76 => ?_)
        refine y_iconst hM dX4_force_79 ?_
        refine lv_goto (tgt := 89) hM.1 hM.2.1 dX4_force_80 (by decide) ?_
        exact y_iret hM hr hlk hC ⟨_, _, rfl, (Or.inr (Or.inl ⟨by omega, rfl⟩)), rfl⟩ (Nat.le_of_ble_eq_true rfl) (Nat.le_of_ble_eq_true rfl) dX4_force_89
      ·
        refine y_aload_n hM hl 0 rfl rfl dX4_force_47 ?_
        refine y_iload_n hM hl 1 rfl rfl dX4_force_48 ?_
        refine y_aload_n hM hl 0 rfl rfl dX4_force_49 ?_
        refine y_get hM hC hMI.1 rfl rfl (by decide +kernel) 5 ⟨by decide, rfl, rfl, rfl⟩ (by decide +kernel) (congrArg (fun q => some (Value.int (iI q))) (show (up T 12 0 0 (0)) 12 0 5 = T 12 0 5 from by simp [up, zrT])) dX4_force_50 ?_
        refine y_aload_n hM hl 0 rfl rfl dX4_force_53 ?_
        refine y_iload_n hM hl 1 rfl rfl dX4_force_54 ?_
        refine y_callV hM hC (c_lateBy l hfl G b0 ks ad (up T 12 0 0 (0)) P (z) ⟨by omega, (show _ < T 12 0 10 by omega)⟩ hMI (MN_th hMN)) (cwV 1 hM.2.2.2.2 gX4_force_X4_lateBy rfl rfl rfl (by decide +kernel) ⟨(Nat.le_of_ble_eq_true rfl), (Nat.le_of_ble_eq_true rfl)⟩) (y_recv hC hMI.1 rfl rfl) rfl hl.1 rfl (Nat.le_of_ble_eq_true rfl) dX4_force_55 ⟨(Nat.le_of_ble_eq_true rfl), (Nat.le_of_ble_eq_true rfl)⟩ (fun E ce q9 u1 H locs hx hC hce hcv hcl => hx.elim) (fun v u1 H locs hp hC => ?_)
        obtain ⟨r_55, rfl, h_55, hu⟩ := hp; rw [hu] at hC; clear hu
        try dsimp only at h_55
        refine W.eq (g2 := F0 m 58 ls [.int (iI (r_55)), .int (iI (T 12 0 5)), .int (iI (z)), .ref (ad 12 0), .ref (ad 12 0)]) rfl ?_
        have hl55 := mlate_in (T := T) (z := z) ⟨by omega, by omega⟩ (by omega)
        have h_55 : r_55 = mlate T z := h_55
        rw [← h_55] at hl55
        refine y_callV hM hC (c_isTooMuch l hfl G b0 ks ad (up T 12 0 0 (0)) P (z) (T 12 0 5) (r_55) ⟨by omega, (show _ < T 12 0 10 by omega)⟩ ⟨(show 100 ≤ T 12 0 5 by omega), (show T 12 0 5 ≤ 10000 by omega)⟩ ⟨by omega, (show r_55 + T 34 0 z.toNat ≤ T 12 0 1 by omega)⟩ hMI (MN_th hMN)) (cwV 3 hM.2.2.2.2 gX4_force_X4_isTooMuch rfl rfl rfl (by decide +kernel) ⟨(Nat.le_of_ble_eq_true rfl), (Nat.le_of_ble_eq_true rfl)⟩) (y_recv hC hMI.1 rfl rfl) rfl hl.1 rfl (Nat.le_of_ble_eq_true rfl) dX4_force_58 ⟨(Nat.le_of_ble_eq_true rfl), (Nat.le_of_ble_eq_true rfl)⟩ (fun E ce q9 u1 H locs hx hC hce hcv hcl => hx.elim) (fun v u1 H locs hp hC => ?_)
        obtain ⟨r_58, rfl, h_58, hu⟩ := hp; rw [hu] at hC; clear hu
        try dsimp only at h_58
        refine W.eq (g2 := F0 m 61 ls [.int (iI (r_58)), .ref (ad 12 0)]) rfl ?_
        have h_58 : (r_58 = 1 ∧ T 33 0 z.toNat = 2 ∧ (100000000 < mgot T z (T 12 0 5) ∨ 100000000 < mtim T z (mlate T z))) ∨ (r_58 = 0 ∧ (T 33 0 z.toNat = 2 → mgot T z (T 12 0 5) ≤ 100000000 ∧ mtim T z (mlate T z) ≤ 100000000)) := by
          rw [← h_55]
          exact h_58
        refine y_if_eq hM (by constructor <;> omega) (tgt := 68) dX4_force_61 (by decide) (fun c_61 => ?_) (fun c_61 => ?_)
        ·
          refine y_iconst hM dX4_force_68 ?_
          refine y_put hM hC hMI.1 rfl rfl (by decide +kernel) tyX4 tyX4_ok nmX4 0 ⟨by decide, rfl, rfl, rfl, rfl⟩ (by decide +kernel) (ty := .int) (by decide +kernel) rfl rfl (Nat.le_of_ble_eq_true rfl) (T' := (up (up T 12 0 0 (0)) 12 0 0 (0))) (P' := P) (cF_up rfl) (fun _ _ h => up_ne h) (fun _ _ _ => rfl) dX4_force_69 (fun H locs hC => ?_)
          refine y_aload_n hM hl 0 rfl rfl dX4_force_72 ?_
          refine y_get hM hC hMI.1 rfl rfl (by decide +kernel) 0 ⟨by decide, rfl, rfl, rfl⟩ (by decide +kernel) (congrArg (fun q => some (Value.int (iI q))) (show (up (up T 12 0 0 (0)) 12 0 0 (0)) 12 0 0 = 0 from by simp [up, zrT])) dX4_force_73 ?_
          refine y_if_le hM (by constructor <;> omega) (tgt := 83) dX4_force_76 (by decide) (fun c_76 => ?_) (fun c_76 => False.elim (by omega))
          refine y_aload_n hM hl 0 rfl rfl dX4_force_83 ?_
          refine y_iload_n hM hl 1 rfl rfl dX4_force_84 ?_
          refine y_iconst hM dX4_force_85 ?_
          refine y_callV hM hC (c_does l hfl G b0 ks ad (up (up T 12 0 0 (0)) 12 0 0 (0)) P (z) (1) ⟨by omega, (show _ < T 12 0 10 by omega)⟩ (Or.inr rfl) hMI (MN_th (MN_th hMN))) (cwV 2 hM.2.2.2.2 gX4_force_X4_does rfl rfl rfl (by decide +kernel) ⟨(Nat.le_of_ble_eq_true rfl), (Nat.le_of_ble_eq_true rfl)⟩) (y_recv hC hMI.1 rfl rfl) rfl hl.1 rfl (Nat.le_of_ble_eq_true rfl) dX4_force_86 ⟨(Nat.le_of_ble_eq_true rfl), (Nat.le_of_ble_eq_true rfl)⟩ (fun E ce q9 u1 H locs hx hC hce hcv hcl => hx.elim) (fun v u1 H locs hp hC => ?_)
          obtain ⟨r_86, rfl, h_86, hu⟩ := hp; rw [hu] at hC; clear hu
          try dsimp only at h_86
          refine W.eq (g2 := F0 m 89 ls [.int (iI (r_86))]) rfl ?_
          have h_86 : r_86 = mlate T z := h_86
          exact y_iret hM hr hlk hC ⟨_, _, rfl, (Or.inr (Or.inr ⟨by omega, rfl⟩)), rfl⟩ (Nat.le_of_ble_eq_true rfl) (Nat.le_of_ble_eq_true rfl) dX4_force_89
        ·
          refine y_iconst hM dX4_force_64 ?_
          refine lv_goto (tgt := 69) hM.1 hM.2.1 dX4_force_65 (by decide) ?_
          refine y_put hM hC hMI.1 rfl rfl (by decide +kernel) tyX4 tyX4_ok nmX4 0 ⟨by decide, rfl, rfl, rfl, rfl⟩ (by decide +kernel) (ty := .int) (by decide +kernel) rfl rfl (Nat.le_of_ble_eq_true rfl) (T' := (up (up T 12 0 0 (0)) 12 0 0 (2))) (P' := P) (cF_up rfl) (fun _ _ h => up_ne h) (fun _ _ _ => rfl) dX4_force_69 (fun H locs hC => ?_)
          refine y_aload_n hM hl 0 rfl rfl dX4_force_72 ?_
          refine y_get hM hC hMI.1 rfl rfl (by decide +kernel) 0 ⟨by decide, rfl, rfl, rfl⟩ (by decide +kernel) (congrArg (fun q => some (Value.int (iI q))) (show (up (up T 12 0 0 (0)) 12 0 0 (2)) 12 0 0 = 2 from by simp [up, zrT])) dX4_force_73 ?_
          refine y_if_le hM (by constructor <;> omega) (tgt := 83) dX4_force_76 (by decide) (fun c_76 => False.elim (by omega)) (fun c_76 => ?_)
          refine y_iconst hM dX4_force_79 ?_
          refine lv_goto (tgt := 89) hM.1 hM.2.1 dX4_force_80 (by decide) ?_
          exact y_iret hM hr hlk hC ⟨_, _, rfl, (Or.inr (Or.inl ⟨by omega, rfl⟩)), rfl⟩ (Nat.le_of_ble_eq_true rfl) (Nat.le_of_ble_eq_true rfl) dX4_force_89

set_option maxRecDepth 100000 in
set_option maxHeartbeats 8000000 in
theorem c_asks (l : Launch) (hfl : l.stackTraces = false) (G : GG) (b0 : Nat) (ks : KK) (ad : AD) (T : TT) (P : PP) (z : Int) (hz : inI z) (hMI : MI ks ad P) (hMN : MN T)  : vx_Met l yX4_asks wsX4_asks (rmX 2 0 0 43) (va_Pc [.ref (ad 12 0), .int (iI (z))] (Ok G b0 (ks, ad, T, P))) (Qr (fun v u1 => ∃ (r : Int) (T1 : TT), v = some (.int (iI r)) ∧ ((r = 0 ∧ (z < 0 ∨ T 12 0 10 ≤ z) ∧ T1 = up T 12 0 0 1) ∨ (r = 1 ∧ 0 ≤ z ∧ z < T 12 0 10 ∧ T1 = up T 12 0 0 0)) ∧ u1 = (ks, ad, T1, P)) G b0) (Xr (noX) G b0) 0 0 (Wx b0) := by
  refine vx_ofW (cc := cX4_asks) (maxL := 2) (ret := (some .boolean)) (by decide +kernel) rfl ?_
  intro p e s m args below meth c s₁ B hml hto hv
  obtain ⟨rfl, hok⟩ := hv
  have hM : CallFix p m c cX4_asks 2 s _ wsX4_asks RX4 := ⟨B.exec, B.bytes, hml, findClass_of_methodNamed B.named, atoms_spec (ws := wsX4_asks) B.pre⟩
  have hr := B.returns
  have hlk := B.notSynchronized
  have hC := hok.cur
  have hl := lv_entry ([.ref (ad 12 0), .int (iI (z))]) (n := 2) (Nat.le_of_ble_eq_true rfl)
  rw [lg_entry_eq]
  generalize (lg_sl ([.ref (ad 12 0), .int (iI (z))]) ++ List.replicate (2 - (lg_sl ([.ref (ad 12 0), .int (iI (z))])).length) Slot.unset).toArray = ls at hl ⊢
  have hl : lv_has ls 2 [(0, .ref (ad 12 0)), (1, .int (iI (z)))] := hl
  obtain ⟨⟨m1a, m1b⟩, ⟨m5a, m5b⟩, ⟨m6a, m6b⟩, ⟨mxa, mxb⟩, mpv, mpp, msv, mor⟩ := id hMN
  refine y_aload_n hM hl 0 rfl rfl dX4_asks_0 ?_
  refine y_aload_n hM hl 0 rfl rfl dX4_asks_1 ?_
  refine y_iload_n hM hl 1 rfl rfl dX4_asks_2 ?_
  refine y_callV hM hC (c_M_isOrder l hfl G b0 ks ad T P (z) (by constructor <;> omega) hMI hMN) (cwV 1 hM.2.2.2.2 gX4_asks_X4_isOrder rfl rfl rfl (by decide +kernel) ⟨(Nat.le_of_ble_eq_true rfl), (Nat.le_of_ble_eq_true rfl)⟩) (y_recv hC hMI.1 rfl rfl) rfl hl.1 rfl (Nat.le_of_ble_eq_true rfl) dX4_asks_3 ⟨(Nat.le_of_ble_eq_true rfl), (Nat.le_of_ble_eq_true rfl)⟩ (fun E ce q9 u1 H locs hx hC hce hcv hcl => hx.elim) (fun v u1 H locs hp hC => ?_)
  obtain ⟨r_3, rfl, h_3, hu⟩ := hp; rw [hu] at hC; clear hu
  try dsimp only at h_3
  refine W.eq (g2 := F0 m 6 ls [.int (iI (r_3)), .ref (ad 12 0)]) rfl ?_
  refine y_if_eq hM (by constructor <;> omega) (tgt := 13) dX4_asks_6 (by decide) (fun c_6 => ?_) (fun c_6 => ?_)
  ·
    refine y_iconst hM dX4_asks_13 ?_
    refine y_put hM hC hMI.1 rfl rfl (by decide +kernel) tyX4 tyX4_ok nmX4 0 ⟨by decide, rfl, rfl, rfl, rfl⟩ (by decide +kernel) (ty := .int) (by decide +kernel) rfl rfl (Nat.le_of_ble_eq_true rfl) (T' := (up T 12 0 0 (1))) (P' := P) (cF_up rfl) (fun _ _ h => up_ne h) (fun _ _ _ => rfl) dX4_asks_14 (fun H locs hC => ?_)
    refine y_aload_n hM hl 0 rfl rfl dX4_asks_17 ?_
    refine y_get hM hC hMI.1 rfl rfl (by decide +kernel) 0 ⟨by decide, rfl, rfl, rfl⟩ (by decide +kernel) (congrArg (fun q => some (Value.int (iI q))) (show (up T 12 0 0 (1)) 12 0 0 = 1 from by simp [up, zrT])) dX4_asks_18 ?_
    refine y_if_ne hM (by constructor <;> omega) (tgt := 28) dX4_asks_21 (by decide) (fun c_21 => ?_) (fun c_21 => False.elim (by omega))
    refine y_iconst hM dX4_asks_28 ?_
    exact y_zret hM hr hlk hC (by decide) ⟨_, _, rfl, (Or.inl ⟨rfl, by omega, rfl⟩), rfl⟩ (Nat.le_of_ble_eq_true rfl) (Nat.le_of_ble_eq_true rfl) dX4_asks_29
  ·
    refine y_iconst hM dX4_asks_9 ?_
    refine lv_goto (tgt := 14) hM.1 hM.2.1 dX4_asks_10 (by decide) ?_
    refine y_put hM hC hMI.1 rfl rfl (by decide +kernel) tyX4 tyX4_ok nmX4 0 ⟨by decide, rfl, rfl, rfl, rfl⟩ (by decide +kernel) (ty := .int) (by decide +kernel) rfl rfl (Nat.le_of_ble_eq_true rfl) (T' := (up T 12 0 0 (0))) (P' := P) (cF_up rfl) (fun _ _ h => up_ne h) (fun _ _ _ => rfl) dX4_asks_14 (fun H locs hC => ?_)
    refine y_aload_n hM hl 0 rfl rfl dX4_asks_17 ?_
    refine y_get hM hC hMI.1 rfl rfl (by decide +kernel) 0 ⟨by decide, rfl, rfl, rfl⟩ (by decide +kernel) (congrArg (fun q => some (Value.int (iI q))) (show (up T 12 0 0 (0)) 12 0 0 = 0 from by simp [up, zrT])) dX4_asks_18 ?_
    refine y_if_ne hM (by constructor <;> omega) (tgt := 28) dX4_asks_21 (by decide) (fun c_21 => False.elim (by omega)) (fun c_21 => ?_)
    refine y_iconst hM dX4_asks_24 ?_
    refine lv_goto (tgt := 29) hM.1 hM.2.1 dX4_asks_25 (by decide) ?_
    exact y_zret hM hr hlk hC (by decide) ⟨_, _, rfl, (Or.inr ⟨rfl, by omega, by omega, rfl⟩), rfl⟩ (Nat.le_of_ble_eq_true rfl) (Nat.le_of_ble_eq_true rfl) dX4_asks_29

set_option maxRecDepth 100000 in
set_option maxHeartbeats 8000000 in
theorem c_M_stage (l : Launch) (hfl : l.stackTraces = false) (G : GG) (b0 : Nat) (ks : KK) (ad : AD) (T : TT) (P : PP) (z : Int) (hz : inI z) (hMI : MI ks ad P) (hMN : MN T)  : vx_Met l yX4_stage wsX4_stage (rmX 3 0 0 64) (va_Pc [.ref (ad 12 0), .int (iI (z))] (Ok G b0 (ks, ad, T, P))) (Qr (fun v u1 => ∃ (r : Int) (T1 : TT), v = some (.int (iI r)) ∧ (((z < 0 ∨ T 12 0 10 ≤ z) ∧ T1 = up T 12 0 0 1) ∨ ((0 ≤ z ∧ z < T 12 0 10 ∧ r = T 33 0 z.toNat) ∧ T1 = up T 12 0 0 0)) ∧ u1 = (ks, ad, T1, P)) G b0) (Xr (noX) G b0) 0 0 (Wx b0) := by
  refine vx_ofW (cc := cX4_stage) (maxL := 2) (ret := (some .int)) (by decide +kernel) rfl ?_
  intro p e s m args below meth c s₁ B hml hto hv
  obtain ⟨rfl, hok⟩ := hv
  have hM : CallFix p m c cX4_stage 2 s _ wsX4_stage RX4 := ⟨B.exec, B.bytes, hml, findClass_of_methodNamed B.named, atoms_spec (ws := wsX4_stage) B.pre⟩
  have hr := B.returns
  have hlk := B.notSynchronized
  have hC := hok.cur
  have hl := lv_entry ([.ref (ad 12 0), .int (iI (z))]) (n := 2) (Nat.le_of_ble_eq_true rfl)
  rw [lg_entry_eq]
  generalize (lg_sl ([.ref (ad 12 0), .int (iI (z))]) ++ List.replicate (2 - (lg_sl ([.ref (ad 12 0), .int (iI (z))])).length) Slot.unset).toArray = ls at hl ⊢
  have hl : lv_has ls 2 [(0, .ref (ad 12 0)), (1, .int (iI (z)))] := hl
  obtain ⟨⟨m1a, m1b⟩, ⟨m5a, m5b⟩, ⟨m6a, m6b⟩, ⟨mxa, mxb⟩, mpv, mpp, msv, mor⟩ := id hMN
  refine y_aload_n hM hl 0 rfl rfl dX4_stage_0 ?_
  refine y_iload_n hM hl 1 rfl rfl dX4_stage_1 ?_
  refine y_callV hM hC (c_asks l hfl G b0 ks ad T P (z) (by constructor <;> omega) hMI hMN) (cwV 1 hM.2.2.2.2 gX4_stage_X4_asks rfl rfl rfl (by decide +kernel) ⟨(Nat.le_of_ble_eq_true rfl), (Nat.le_of_ble_eq_true rfl)⟩) (y_recv hC hMI.1 rfl rfl) rfl hl.1 rfl (Nat.le_of_ble_eq_true rfl) dX4_stage_2 ⟨(Nat.le_of_ble_eq_true rfl), (Nat.le_of_ble_eq_true rfl)⟩ (fun E ce q9 u1 H locs hx hC hce hcv hcl => hx.elim) (fun v u1 H locs hp hC => ?_)
  obtain ⟨r_2, T1, rfl, h_2, hu⟩ := hp; rw [hu] at hC; clear hu
  try dsimp only at h_2
  refine W.eq (g2 := F0 m 5 ls [.int (iI (r_2))]) rfl ?_
  refine y_if_eq hM (by constructor <;> omega) (tgt := 17) dX4_stage_5 (by decide) (fun c_5 => ?_) (fun c_5 => ?_)
  ·
    have hT1 : (z < 0 ∨ T 12 0 10 ≤ z) ∧ T1 = up T 12 0 0 1 := by
      rcases h_2 with h | h
      · exact h.2
      · exact absurd h.1 (by omega)
    obtain ⟨hq1, hT1⟩ := hT1
    subst hT1
    refine y_iconst hM dX4_stage_17 ?_
    exact y_iret hM hr hlk hC ⟨_, _, rfl, (Or.inl ⟨by omega, rfl⟩), rfl⟩ (Nat.le_of_ble_eq_true rfl) (Nat.le_of_ble_eq_true rfl) dX4_stage_18
  ·
    have hT1 : 0 ≤ z ∧ z < T 12 0 10 ∧ T1 = up T 12 0 0 0 := by
      rcases h_2 with h | h
      · exact absurd h.1 (by omega)
      · exact h.2
    obtain ⟨hq1, hq2, hT1⟩ := hT1
    subst hT1
    refine y_aload_n hM hl 0 rfl rfl dX4_stage_8 ?_
    refine y_get hM hC hMI.1 rfl rfl (by decide +kernel) 13 ⟨by decide, rfl, rfl, rfl⟩ (by decide +kernel) (congrArg (fun q => some (va_rf q)) (hMI.2 13 (by decide)).2) dX4_stage_9 ?_
    refine W.eq (g2 := F0 m 12 ls [.ref (ad 33 0)]) rfl ?_
    refine y_iload_n hM hl 1 rfl rfl dX4_stage_12 ?_
    refine y_iald hM hC (hMI.2 13 (by decide)).1 rfl ⟨by omega, by omega⟩ (by decide) (x := T 33 0 (z).toNat) (by simp [up, zrT]) dX4_stage_13 ?_
    refine lv_goto (tgt := 18) hM.1 hM.2.1 dX4_stage_14 (by decide) ?_
    exact y_iret hM hr hlk hC ⟨_, _, rfl, (Or.inr ⟨⟨by omega, by omega, rfl⟩, rfl⟩), rfl⟩ (Nat.le_of_ble_eq_true rfl) (Nat.le_of_ble_eq_true rfl) dX4_stage_18

set_option maxRecDepth 100000 in
set_option maxHeartbeats 8000000 in
theorem c_M_late (l : Launch) (hfl : l.stackTraces = false) (G : GG) (b0 : Nat) (ks : KK) (ad : AD) (T : TT) (P : PP) (z : Int) (hz : inI z) (hMI : MI ks ad P) (hMN : MN T)  : vx_Met l yX4_late wsX4_late (rmX 3 0 0 64) (va_Pc [.ref (ad 12 0), .int (iI (z))] (Ok G b0 (ks, ad, T, P))) (Qr (fun v u1 => ∃ (r : Int) (T1 : TT), v = some (.int (iI r)) ∧ (((z < 0 ∨ T 12 0 10 ≤ z) ∧ T1 = up T 12 0 0 1) ∨ ((0 ≤ z ∧ z < T 12 0 10 ∧ r = T 37 0 z.toNat) ∧ T1 = up T 12 0 0 0)) ∧ u1 = (ks, ad, T1, P)) G b0) (Xr (noX) G b0) 0 0 (Wx b0) := by
  refine vx_ofW (cc := cX4_late) (maxL := 2) (ret := (some .int)) (by decide +kernel) rfl ?_
  intro p e s m args below meth c s₁ B hml hto hv
  obtain ⟨rfl, hok⟩ := hv
  have hM : CallFix p m c cX4_late 2 s _ wsX4_late RX4 := ⟨B.exec, B.bytes, hml, findClass_of_methodNamed B.named, atoms_spec (ws := wsX4_late) B.pre⟩
  have hr := B.returns
  have hlk := B.notSynchronized
  have hC := hok.cur
  have hl := lv_entry ([.ref (ad 12 0), .int (iI (z))]) (n := 2) (Nat.le_of_ble_eq_true rfl)
  rw [lg_entry_eq]
  generalize (lg_sl ([.ref (ad 12 0), .int (iI (z))]) ++ List.replicate (2 - (lg_sl ([.ref (ad 12 0), .int (iI (z))])).length) Slot.unset).toArray = ls at hl ⊢
  have hl : lv_has ls 2 [(0, .ref (ad 12 0)), (1, .int (iI (z)))] := hl
  obtain ⟨⟨m1a, m1b⟩, ⟨m5a, m5b⟩, ⟨m6a, m6b⟩, ⟨mxa, mxb⟩, mpv, mpp, msv, mor⟩ := id hMN
  refine y_aload_n hM hl 0 rfl rfl dX4_late_0 ?_
  refine y_iload_n hM hl 1 rfl rfl dX4_late_1 ?_
  refine y_callV hM hC (c_asks l hfl G b0 ks ad T P (z) (by constructor <;> omega) hMI hMN) (cwV 1 hM.2.2.2.2 gX4_late_X4_asks rfl rfl rfl (by decide +kernel) ⟨(Nat.le_of_ble_eq_true rfl), (Nat.le_of_ble_eq_true rfl)⟩) (y_recv hC hMI.1 rfl rfl) rfl hl.1 rfl (Nat.le_of_ble_eq_true rfl) dX4_late_2 ⟨(Nat.le_of_ble_eq_true rfl), (Nat.le_of_ble_eq_true rfl)⟩ (fun E ce q9 u1 H locs hx hC hce hcv hcl => hx.elim) (fun v u1 H locs hp hC => ?_)
  obtain ⟨r_2, T1, rfl, h_2, hu⟩ := hp; rw [hu] at hC; clear hu
  try dsimp only at h_2
  refine W.eq (g2 := F0 m 5 ls [.int (iI (r_2))]) rfl ?_
  refine y_if_eq hM (by constructor <;> omega) (tgt := 17) dX4_late_5 (by decide) (fun c_5 => ?_) (fun c_5 => ?_)
  ·
    have hT1 : (z < 0 ∨ T 12 0 10 ≤ z) ∧ T1 = up T 12 0 0 1 := by
      rcases h_2 with h | h
      · exact h.2
      · exact absurd h.1 (by omega)
    obtain ⟨hq1, hT1⟩ := hT1
    subst hT1
    refine y_iconst hM dX4_late_17 ?_
    exact y_iret hM hr hlk hC ⟨_, _, rfl, (Or.inl ⟨by omega, rfl⟩), rfl⟩ (Nat.le_of_ble_eq_true rfl) (Nat.le_of_ble_eq_true rfl) dX4_late_18
  ·
    have hT1 : 0 ≤ z ∧ z < T 12 0 10 ∧ T1 = up T 12 0 0 0 := by
      rcases h_2 with h | h
      · exact absurd h.1 (by omega)
      · exact h.2
    obtain ⟨hq1, hq2, hT1⟩ := hT1
    subst hT1
    refine y_aload_n hM hl 0 rfl rfl dX4_late_8 ?_
    refine y_get hM hC hMI.1 rfl rfl (by decide +kernel) 17 ⟨by decide, rfl, rfl, rfl⟩ (by decide +kernel) (congrArg (fun q => some (va_rf q)) (hMI.2 17 (by decide)).2) dX4_late_9 ?_
    refine W.eq (g2 := F0 m 12 ls [.ref (ad 37 0)]) rfl ?_
    refine y_iload_n hM hl 1 rfl rfl dX4_late_12 ?_
    refine y_iald hM hC (hMI.2 17 (by decide)).1 rfl ⟨by omega, by omega⟩ (by decide) (x := T 37 0 (z).toNat) (by simp [up, zrT]) dX4_late_13 ?_
    refine lv_goto (tgt := 18) hM.1 hM.2.1 dX4_late_14 (by decide) ?_
    exact y_iret hM hr hlk hC ⟨_, _, rfl, (Or.inr ⟨⟨by omega, by omega, rfl⟩, rfl⟩), rfl⟩ (Nat.le_of_ble_eq_true rfl) (Nat.le_of_ble_eq_true rfl) dX4_late_18

set_option maxRecDepth 100000 in
set_option maxHeartbeats 8000000 in
theorem c_M_money (l : Launch) (hfl : l.stackTraces = false) (G : GG) (b0 : Nat) (ks : KK) (ad : AD) (T : TT) (P : PP) (z : Int) (hz : inI z) (hMI : MI ks ad P) (hMN : MN T)  : vx_Met l yX4_money wsX4_money (rmX 3 0 0 64) (va_Pc [.ref (ad 12 0), .int (iI (z))] (Ok G b0 (ks, ad, T, P))) (Qr (fun v u1 => ∃ (r : Int) (T1 : TT), v = some (.long (lI r)) ∧ (((z < 0 ∨ T 12 0 10 ≤ z) ∧ T1 = up T 12 0 0 1) ∨ ((0 ≤ z ∧ z < T 12 0 10 ∧ r = T 39 0 z.toNat) ∧ T1 = up T 12 0 0 0)) ∧ u1 = (ks, ad, T1, P)) G b0) (Xr (noX) G b0) 0 0 (Wx b0) := by
  refine vx_ofW (cc := cX4_money) (maxL := 2) (ret := (some .long)) (by decide +kernel) rfl ?_
  intro p e s m args below meth c s₁ B hml hto hv
  obtain ⟨rfl, hok⟩ := hv
  have hM : CallFix p m c cX4_money 2 s _ wsX4_money RX4 := ⟨B.exec, B.bytes, hml, findClass_of_methodNamed B.named, atoms_spec (ws := wsX4_money) B.pre⟩
  have hr := B.returns
  have hlk := B.notSynchronized
  have hC := hok.cur
  have hl := lv_entry ([.ref (ad 12 0), .int (iI (z))]) (n := 2) (Nat.le_of_ble_eq_true rfl)
  rw [lg_entry_eq]
  generalize (lg_sl ([.ref (ad 12 0), .int (iI (z))]) ++ List.replicate (2 - (lg_sl ([.ref (ad 12 0), .int (iI (z))])).length) Slot.unset).toArray = ls at hl ⊢
  have hl : lv_has ls 2 [(0, .ref (ad 12 0)), (1, .int (iI (z)))] := hl
  obtain ⟨⟨m1a, m1b⟩, ⟨m5a, m5b⟩, ⟨m6a, m6b⟩, ⟨mxa, mxb⟩, mpv, mpp, msv, mor⟩ := id hMN
  refine y_aload_n hM hl 0 rfl rfl dX4_money_0 ?_
  refine y_iload_n hM hl 1 rfl rfl dX4_money_1 ?_
  refine y_callV hM hC (c_asks l hfl G b0 ks ad T P (z) (by constructor <;> omega) hMI hMN) (cwV 1 hM.2.2.2.2 gX4_money_X4_asks rfl rfl rfl (by decide +kernel) ⟨(Nat.le_of_ble_eq_true rfl), (Nat.le_of_ble_eq_true rfl)⟩) (y_recv hC hMI.1 rfl rfl) rfl hl.1 rfl (Nat.le_of_ble_eq_true rfl) dX4_money_2 ⟨(Nat.le_of_ble_eq_true rfl), (Nat.le_of_ble_eq_true rfl)⟩ (fun E ce q9 u1 H locs hx hC hce hcv hcl => hx.elim) (fun v u1 H locs hp hC => ?_)
  obtain ⟨r_2, T1, rfl, h_2, hu⟩ := hp; rw [hu] at hC; clear hu
  try dsimp only at h_2
  refine W.eq (g2 := F0 m 5 ls [.int (iI (r_2))]) rfl ?_
  refine y_if_eq hM (by constructor <;> omega) (tgt := 17) dX4_money_5 (by decide) (fun c_5 => ?_) (fun c_5 => ?_)
  ·
    have hT1 : (z < 0 ∨ T 12 0 10 ≤ z) ∧ T1 = up T 12 0 0 1 := by
      rcases h_2 with h | h
      · exact h.2
      · exact absurd h.1 (by omega)
    obtain ⟨hq1, hT1⟩ := hT1
    subst hT1
    refine y_lconst hM 0 (by decide) dX4_money_17 ?_
    exact y_lret hM hr hlk hC ⟨_, _, rfl, (Or.inl ⟨by omega, rfl⟩), rfl⟩ (Nat.le_of_ble_eq_true rfl) (Nat.le_of_ble_eq_true rfl) dX4_money_18
  ·
    have hT1 : 0 ≤ z ∧ z < T 12 0 10 ∧ T1 = up T 12 0 0 0 := by
      rcases h_2 with h | h
      · exact absurd h.1 (by omega)
      · exact h.2
    obtain ⟨hq1, hq2, hT1⟩ := hT1
    subst hT1
    refine y_aload_n hM hl 0 rfl rfl dX4_money_8 ?_
    refine y_get hM hC hMI.1 rfl rfl (by decide +kernel) 19 ⟨by decide, rfl, rfl, rfl⟩ (by decide +kernel) (congrArg (fun q => some (va_rf q)) (hMI.2 19 (by decide)).2) dX4_money_9 ?_
    refine W.eq (g2 := F0 m 12 ls [.ref (ad 39 0)]) rfl ?_
    refine y_iload_n hM hl 1 rfl rfl dX4_money_12 ?_
    refine y_lald hM hC (hMI.2 19 (by decide)).1 rfl ⟨by omega, by omega⟩ (by decide) (x := T 39 0 (z).toNat) (by simp [up, zrT]) dX4_money_13 ?_
    refine lv_goto (tgt := 18) hM.1 hM.2.1 dX4_money_14 (by decide) ?_
    exact y_lret hM hr hlk hC ⟨_, _, rfl, (Or.inr ⟨⟨by omega, by omega, rfl⟩, rfl⟩), rfl⟩ (Nat.le_of_ble_eq_true rfl) (Nat.le_of_ble_eq_true rfl) dX4_money_18

set_option maxRecDepth 100000 in
set_option maxHeartbeats 8000000 in
theorem c_M_madeGood (l : Launch) (hfl : l.stackTraces = false) (G : GG) (b0 : Nat) (ks : KK) (ad : AD) (T : TT) (P : PP) (z : Int) (hz : inI z) (hMI : MI ks ad P) (hMN : MN T)  : vx_Met l yX4_madeGood wsX4_madeGood (rmX 3 0 0 64) (va_Pc [.ref (ad 12 0), .int (iI (z))] (Ok G b0 (ks, ad, T, P))) (Qr (fun v u1 => ∃ (r : Int) (T1 : TT), v = some (.long (lI r)) ∧ (((z < 0 ∨ T 12 0 10 ≤ z) ∧ T1 = up T 12 0 0 1) ∨ ((0 ≤ z ∧ z < T 12 0 10 ∧ r = T 40 0 z.toNat) ∧ T1 = up T 12 0 0 0)) ∧ u1 = (ks, ad, T1, P)) G b0) (Xr (noX) G b0) 0 0 (Wx b0) := by
  refine vx_ofW (cc := cX4_madeGood) (maxL := 2) (ret := (some .long)) (by decide +kernel) rfl ?_
  intro p e s m args below meth c s₁ B hml hto hv
  obtain ⟨rfl, hok⟩ := hv
  have hM : CallFix p m c cX4_madeGood 2 s _ wsX4_madeGood RX4 := ⟨B.exec, B.bytes, hml, findClass_of_methodNamed B.named, atoms_spec (ws := wsX4_madeGood) B.pre⟩
  have hr := B.returns
  have hlk := B.notSynchronized
  have hC := hok.cur
  have hl := lv_entry ([.ref (ad 12 0), .int (iI (z))]) (n := 2) (Nat.le_of_ble_eq_true rfl)
  rw [lg_entry_eq]
  generalize (lg_sl ([.ref (ad 12 0), .int (iI (z))]) ++ List.replicate (2 - (lg_sl ([.ref (ad 12 0), .int (iI (z))])).length) Slot.unset).toArray = ls at hl ⊢
  have hl : lv_has ls 2 [(0, .ref (ad 12 0)), (1, .int (iI (z)))] := hl
  obtain ⟨⟨m1a, m1b⟩, ⟨m5a, m5b⟩, ⟨m6a, m6b⟩, ⟨mxa, mxb⟩, mpv, mpp, msv, mor⟩ := id hMN
  refine y_aload_n hM hl 0 rfl rfl dX4_madeGood_0 ?_
  refine y_iload_n hM hl 1 rfl rfl dX4_madeGood_1 ?_
  refine y_callV hM hC (c_asks l hfl G b0 ks ad T P (z) (by constructor <;> omega) hMI hMN) (cwV 1 hM.2.2.2.2 gX4_madeGood_X4_asks rfl rfl rfl (by decide +kernel) ⟨(Nat.le_of_ble_eq_true rfl), (Nat.le_of_ble_eq_true rfl)⟩) (y_recv hC hMI.1 rfl rfl) rfl hl.1 rfl (Nat.le_of_ble_eq_true rfl) dX4_madeGood_2 ⟨(Nat.le_of_ble_eq_true rfl), (Nat.le_of_ble_eq_true rfl)⟩ (fun E ce q9 u1 H locs hx hC hce hcv hcl => hx.elim) (fun v u1 H locs hp hC => ?_)
  obtain ⟨r_2, T1, rfl, h_2, hu⟩ := hp; rw [hu] at hC; clear hu
  try dsimp only at h_2
  refine W.eq (g2 := F0 m 5 ls [.int (iI (r_2))]) rfl ?_
  refine y_if_eq hM (by constructor <;> omega) (tgt := 17) dX4_madeGood_5 (by decide) (fun c_5 => ?_) (fun c_5 => ?_)
  ·
    have hT1 : (z < 0 ∨ T 12 0 10 ≤ z) ∧ T1 = up T 12 0 0 1 := by
      rcases h_2 with h | h
      · exact h.2
      · exact absurd h.1 (by omega)
    obtain ⟨hq1, hT1⟩ := hT1
    subst hT1
    refine y_lconst hM 0 (by decide) dX4_madeGood_17 ?_
    exact y_lret hM hr hlk hC ⟨_, _, rfl, (Or.inl ⟨by omega, rfl⟩), rfl⟩ (Nat.le_of_ble_eq_true rfl) (Nat.le_of_ble_eq_true rfl) dX4_madeGood_18
  ·
    have hT1 : 0 ≤ z ∧ z < T 12 0 10 ∧ T1 = up T 12 0 0 0 := by
      rcases h_2 with h | h
      · exact absurd h.1 (by omega)
      · exact h.2
    obtain ⟨hq1, hq2, hT1⟩ := hT1
    subst hT1
    refine y_aload_n hM hl 0 rfl rfl dX4_madeGood_8 ?_
    refine y_get hM hC hMI.1 rfl rfl (by decide +kernel) 20 ⟨by decide, rfl, rfl, rfl⟩ (by decide +kernel) (congrArg (fun q => some (va_rf q)) (hMI.2 20 (by decide)).2) dX4_madeGood_9 ?_
    refine W.eq (g2 := F0 m 12 ls [.ref (ad 40 0)]) rfl ?_
    refine y_iload_n hM hl 1 rfl rfl dX4_madeGood_12 ?_
    refine y_lald hM hC (hMI.2 20 (by decide)).1 rfl ⟨by omega, by omega⟩ (by decide) (x := T 40 0 (z).toNat) (by simp [up, zrT]) dX4_madeGood_13 ?_
    refine lv_goto (tgt := 18) hM.1 hM.2.1 dX4_madeGood_14 (by decide) ?_
    exact y_lret hM hr hlk hC ⟨_, _, rfl, (Or.inr ⟨⟨by omega, by omega, rfl⟩, rfl⟩), rfl⟩ (Nat.le_of_ble_eq_true rfl) (Nat.le_of_ble_eq_true rfl) dX4_madeGood_18

set_option maxRecDepth 100000 in
set_option maxHeartbeats 8000000 in
theorem c_M_due (l : Launch) (hfl : l.stackTraces = false) (G : GG) (b0 : Nat) (ks : KK) (ad : AD) (T : TT) (P : PP) (z : Int) (hz : inI z) (hMI : MI ks ad P) (hMN : MN T)  : vx_Met l yX4_due wsX4_due (rmX 2 0 0 43) (va_Pc [.ref (ad 12 0), .int (iI (z))] (Ok G b0 (ks, ad, T, P))) (Qr (fun v u1 => ∃ (r : Int) (T1 : TT), v = some (.int (iI r)) ∧ (((z < 0 ∨ T 12 0 10 ≤ z) ∧ T1 = up T 12 0 0 1) ∨ ((0 ≤ z ∧ z < T 12 0 10 ∧ T 33 0 z.toNat = 3) ∧ T1 = up T 12 0 0 2) ∨ ((0 ≤ z ∧ z < T 12 0 10 ∧ T 33 0 z.toNat ≠ 3 ∧ r = mdue T z) ∧ T1 = up T 12 0 0 0)) ∧ u1 = (ks, ad, T1, P)) G b0) (Xr (noX) G b0) 0 0 (Wx b0) := by
  refine vx_ofW (cc := cX4_due) (maxL := 2) (ret := (some .int)) (by decide +kernel) rfl ?_
  intro p e s m args below meth c s₁ B hml hto hv
  obtain ⟨rfl, hok⟩ := hv
  have hM : CallFix p m c cX4_due 2 s _ wsX4_due RX4 := ⟨B.exec, B.bytes, hml, findClass_of_methodNamed B.named, atoms_spec (ws := wsX4_due) B.pre⟩
  have hr := B.returns
  have hlk := B.notSynchronized
  have hC := hok.cur
  have hl := lv_entry ([.ref (ad 12 0), .int (iI (z))]) (n := 2) (Nat.le_of_ble_eq_true rfl)
  rw [lg_entry_eq]
  generalize (lg_sl ([.ref (ad 12 0), .int (iI (z))]) ++ List.replicate (2 - (lg_sl ([.ref (ad 12 0), .int (iI (z))])).length) Slot.unset).toArray = ls at hl ⊢
  have hl : lv_has ls 2 [(0, .ref (ad 12 0)), (1, .int (iI (z)))] := hl
  obtain ⟨⟨m1a, m1b⟩, ⟨m5a, m5b⟩, ⟨m6a, m6b⟩, ⟨mxa, mxb⟩, mpv, mpp, msv, mor⟩ := id hMN
  refine y_aload_n hM hl 0 rfl rfl dX4_due_0 ?_
  refine y_aload_n hM hl 0 rfl rfl dX4_due_1 ?_
  refine y_iload_n hM hl 1 rfl rfl dX4_due_2 ?_
  refine y_callV hM hC (c_M_isOrder l hfl G b0 ks ad T P (z) (by constructor <;> omega) hMI hMN) (cwV 1 hM.2.2.2.2 gX4_due_X4_isOrder rfl rfl rfl (by decide +kernel) ⟨(Nat.le_of_ble_eq_true rfl), (Nat.le_of_ble_eq_true rfl)⟩) (y_recv hC hMI.1 rfl rfl) rfl hl.1 rfl (Nat.le_of_ble_eq_true rfl) dX4_due_3 ⟨(Nat.le_of_ble_eq_true rfl), (Nat.le_of_ble_eq_true rfl)⟩ (fun E ce q9 u1 H locs hx hC hce hcv hcl => hx.elim) (fun v u1 H locs hp hC => ?_)
  obtain ⟨r_3, rfl, h_3, hu⟩ := hp; rw [hu] at hC; clear hu
  try dsimp only at h_3
  refine W.eq (g2 := F0 m 6 ls [.int (iI (r_3)), .ref (ad 12 0)]) rfl ?_
  refine y_if_ne hM (by constructor <;> omega) (tgt := 13) dX4_due_6 (by decide) (fun c_6 => ?_) (fun c_6 => ?_)
  ·
    have ho := mor z.toNat (by omega)
    unfold MOr at ho
    refine y_aload_n hM hl 0 rfl rfl dX4_due_13 ?_
    refine y_get hM hC hMI.1 rfl rfl (by decide +kernel) 13 ⟨by decide, rfl, rfl, rfl⟩ (by decide +kernel) (congrArg (fun q => some (va_rf q)) (hMI.2 13 (by decide)).2) dX4_due_14 ?_
    refine W.eq (g2 := F0 m 17 ls [.ref (ad 33 0), .ref (ad 12 0)]) rfl ?_
    refine y_iload_n hM hl 1 rfl rfl dX4_due_17 ?_
    refine y_iald hM hC (hMI.2 13 (by decide)).1 rfl ⟨by omega, by omega⟩ (by decide) (x := T 33 0 (z).toNat) rfl dX4_due_18 ?_
    refine y_iconst hM dX4_due_19 ?_
    refine y_icmp_ne hM (by constructor <;> omega) (by constructor <;> omega) (tgt := 27) dX4_due_20 (by decide) (fun c_20 => ?_) (fun c_20 => ?_)
    ·
      refine y_iconst hM dX4_due_27 ?_
      refine y_put hM hC hMI.1 rfl rfl (by decide +kernel) tyX4 tyX4_ok nmX4 0 ⟨by decide, rfl, rfl, rfl, rfl⟩ (by decide +kernel) (ty := .int) (by decide +kernel) rfl rfl (Nat.le_of_ble_eq_true rfl) (T' := (up T 12 0 0 (0))) (P' := P) (cF_up rfl) (fun _ _ h => up_ne h) (fun _ _ _ => rfl) dX4_due_28 (fun H locs hC => ?_)
      refine y_aload_n hM hl 0 rfl rfl dX4_due_31 ?_
      refine y_get hM hC hMI.1 rfl rfl (by decide +kernel) 0 ⟨by decide, rfl, rfl, rfl⟩ (by decide +kernel) (congrArg (fun q => some (Value.int (iI q))) (show (up T 12 0 0 (0)) 12 0 0 = 0 from by simp [up, zrT])) dX4_due_32 ?_
      refine y_if_le hM (by constructor <;> omega) (tgt := 42) dX4_due_35 (by decide) (fun c_35 => ?_) (fun c_35 => False.elim (by omega))
      refine y_aload_n hM hl 0 rfl rfl dX4_due_42 ?_
      refine y_iload_n hM hl 1 rfl rfl dX4_due_43 ?_
      refine y_callV hM hC (c_dueOf l hfl G b0 ks ad (up T 12 0 0 (0)) P (z) ⟨by omega, (show _ < T 12 0 10 by omega)⟩ hMI (MN_th hMN)) (cwV 1 hM.2.2.2.2 gX4_due_X4_dueOf rfl rfl rfl (by decide +kernel) ⟨(Nat.le_of_ble_eq_true rfl), (Nat.le_of_ble_eq_true rfl)⟩) (y_recv hC hMI.1 rfl rfl) rfl hl.1 rfl (Nat.le_of_ble_eq_true rfl) dX4_due_44 ⟨(Nat.le_of_ble_eq_true rfl), (Nat.le_of_ble_eq_true rfl)⟩ (fun E ce q9 u1 H locs hx hC hce hcv hcl => hx.elim) (fun v u1 H locs hp hC => ?_)
      obtain ⟨r_44, rfl, h_44, hu⟩ := hp; rw [hu] at hC; clear hu
      try dsimp only at h_44
      refine W.eq (g2 := F0 m 47 ls [.int (iI (r_44))]) rfl ?_
      exact y_iret hM hr hlk hC ⟨_, _, rfl, (Or.inr (Or.inr ⟨⟨by omega, by omega, by omega, h_44⟩, rfl⟩)), rfl⟩ (Nat.le_of_ble_eq_true rfl) (Nat.le_of_ble_eq_true rfl) dX4_due_47
    ·
      refine y_iconst hM dX4_due_23 ?_
      refine lv_goto (tgt := 28) hM.1 hM.2.1 dX4_due_24 (by decide) ?_
      refine y_put hM hC hMI.1 rfl rfl (by decide +kernel) tyX4 tyX4_ok nmX4 0 ⟨by decide, rfl, rfl, rfl, rfl⟩ (by decide +kernel) (ty := .int) (by decide +kernel) rfl rfl (Nat.le_of_ble_eq_true rfl) (T' := (up T 12 0 0 (2))) (P' := P) (cF_up rfl) (fun _ _ h => up_ne h) (fun _ _ _ => rfl) dX4_due_28 (fun H locs hC => ?_)
      refine y_aload_n hM hl 0 rfl rfl dX4_due_31 ?_
      refine y_get hM hC hMI.1 rfl rfl (by decide +kernel) 0 ⟨by decide, rfl, rfl, rfl⟩ (by decide +kernel) (congrArg (fun q => some (Value.int (iI q))) (show (up T 12 0 0 (2)) 12 0 0 = 2 from by simp [up, zrT])) dX4_due_32 ?_
      refine y_if_le hM (by constructor <;> omega) (tgt := 42) dX4_due_35 (by decide) (fun c_35 => False.elim (by omega)) (fun c_35 => ?_)
      refine y_iconst hM dX4_due_38 ?_
      refine lv_goto (tgt := 47) hM.1 hM.2.1 dX4_due_39 (by decide) ?_
      exact y_iret hM hr hlk hC ⟨_, _, rfl, (Or.inr (Or.inl ⟨by omega, rfl⟩)), rfl⟩ (Nat.le_of_ble_eq_true rfl) (Nat.le_of_ble_eq_true rfl) dX4_due_47
  ·
    refine y_iconst hM dX4_due_9 ?_
    refine lv_goto (tgt := 28) hM.1 hM.2.1 dX4_due_10 (by decide) ?_
    refine y_put hM hC hMI.1 rfl rfl (by decide +kernel) tyX4 tyX4_ok nmX4 0 ⟨by decide, rfl, rfl, rfl, rfl⟩ (by decide +kernel) (ty := .int) (by decide +kernel) rfl rfl (Nat.le_of_ble_eq_true rfl) (T' := (up T 12 0 0 (1))) (P' := P) (cF_up rfl) (fun _ _ h => up_ne h) (fun _ _ _ => rfl) dX4_due_28 (fun H locs hC => ?_)
    refine y_aload_n hM hl 0 rfl rfl dX4_due_31 ?_
    refine y_get hM hC hMI.1 rfl rfl (by decide +kernel) 0 ⟨by decide, rfl, rfl, rfl⟩ (by decide +kernel) (congrArg (fun q => some (Value.int (iI q))) (show (up T 12 0 0 (1)) 12 0 0 = 1 from by simp [up, zrT])) dX4_due_32 ?_
    refine y_if_le hM (by constructor <;> omega) (tgt := 42) dX4_due_35 (by decide) (fun c_35 => False.elim (by omega)) (fun c_35 => ?_)
    refine y_iconst hM dX4_due_38 ?_
    refine lv_goto (tgt := 47) hM.1 hM.2.1 dX4_due_39 (by decide) ?_
    exact y_iret hM hr hlk hC ⟨_, _, rfl, (Or.inl ⟨by omega, rfl⟩), rfl⟩ (Nat.le_of_ble_eq_true rfl) (Nat.le_of_ble_eq_true rfl) dX4_due_47
