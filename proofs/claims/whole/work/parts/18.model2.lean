set_option maxRecDepth 100000 in
set_option maxHeartbeats 8000000 in
theorem c_does (l : Launch) (hfl : l.stackTraces = false) (G : GG) (b0 : Nat) (ks : KK) (ad : AD) (T : TT) (P : PP) (z f : Int) (hz : 0 ≤ z ∧ z < T 12 0 10) (hf : f = 0 ∨ f = 1) (hMI : MI ks ad P) (hMN : MN T)  : vx_Met l yX4_does wsX4_does (rmX 3 0 0 81) (va_Pc [.ref (ad 12 0), .int (iI (z)), .int (iI (f))] (Ok G b0 (ks, ad, T, P))) (Qr (pI (fun r => r = mlate T z) (ks, ad, mdoe T z f, P)) G b0) (Xr (noX) G b0) 0 0 (Wx b0) := by
  refine vx_ofW (cc := cX4_does) (maxL := 6) (ret := (some .int)) (by decide +kernel) rfl ?_
  intro p e s m args below meth c s₁ B hml hto hv
  obtain ⟨rfl, hok⟩ := hv
  have hM : CallFix p m c cX4_does 6 s _ wsX4_does RX4 := ⟨B.exec, B.bytes, hml, findClass_of_methodNamed B.named, atoms_spec (ws := wsX4_does) B.pre⟩
  have hr := B.returns
  have hlk := B.notSynchronized
  have hC := hok.cur
  have hl := lv_entry ([.ref (ad 12 0), .int (iI (z)), .int (iI (f))]) (n := 6) (Nat.le_of_ble_eq_true rfl)
  rw [lg_entry_eq]
  generalize (lg_sl ([.ref (ad 12 0), .int (iI (z)), .int (iI (f))]) ++ List.replicate (6 - (lg_sl ([.ref (ad 12 0), .int (iI (z)), .int (iI (f))])).length) Slot.unset).toArray = ls at hl ⊢
  have hl : lv_has ls 6 [(0, .ref (ad 12 0)), (1, .int (iI (z))), (2, .int (iI (f)))] := hl
  obtain ⟨⟨m1a, m1b⟩, ⟨m5a, m5b⟩, ⟨m6a, m6b⟩, ⟨mxa, mxb⟩, mpv, mpp, msv, mor⟩ := id hMN
  have ho := mor z.toNat (by omega)
  unfold MOr at ho
  have hs := msv (T 31 0 z.toNat).toNat (by omega)
  unfold MSv at hs
  refine y_aload_n hM hl 0 rfl rfl dX4_does_0 ?_
  refine y_get hM hC hMI.1 rfl rfl (by decide +kernel) 11 ⟨by decide, rfl, rfl, rfl⟩ (by decide +kernel) (congrArg (fun q => some (va_rf q)) (hMI.2 11 (by decide)).2) dX4_does_1 ?_
  refine W.eq (g2 := F0 m 4 ls [.ref (ad 31 0)]) rfl ?_
  refine y_iload_n hM hl 1 rfl rfl dX4_does_4 ?_
  refine y_iald hM hC (hMI.2 11 (by decide)).1 rfl ⟨by omega, by omega⟩ (by decide) (x := T 31 0 (z).toNat) rfl dX4_does_5 ?_
  refine lv_istore_n (lv' := [(3, .int (iI (T 31 0 (z).toNat))), (0, .ref (ad 12 0)), (1, .int (iI (z))), (2, .int (iI (f)))]) hM.1 hM.2.1 dX4_does_6 rfl hl (by decide) rfl (fun ls hl => ?_)
  refine y_aload_n hM hl 1 rfl rfl dX4_does_7 ?_
  refine y_iload_n hM hl 2 rfl rfl dX4_does_8 ?_
  refine y_callV hM hC (c_lateBy l hfl G b0 ks ad T P (z) ⟨by omega, (show _ < T 12 0 10 by omega)⟩ hMI hMN) (cwV 1 hM.2.2.2.2 gX4_does_X4_lateBy rfl rfl rfl (by decide +kernel) ⟨(Nat.le_of_ble_eq_true rfl), (Nat.le_of_ble_eq_true rfl)⟩) (y_recv hC hMI.1 rfl rfl) rfl hl.1 rfl (Nat.le_of_ble_eq_true rfl) dX4_does_9 ⟨(Nat.le_of_ble_eq_true rfl), (Nat.le_of_ble_eq_true rfl)⟩ (fun E ce q9 u1 H locs hx hC hce hcv hcl => hx.elim) (fun v u1 H locs hp hC => ?_)
  obtain ⟨r_9, rfl, h_9, hu⟩ := hp; rw [hu] at hC; clear hu
  try dsimp only at h_9
  refine W.eq (g2 := F0 m 12 ls [.int (iI (r_9))]) rfl ?_
  have hl9 := mlate_in (T := T) (z := z) ⟨by omega, by omega⟩ (by omega)
  rw [← h_9] at hl9
  refine lv_istore (lv' := [(4, .int (iI (r_9))), (3, .int (iI (T 31 0 (z).toNat))), (0, .ref (ad 12 0)), (1, .int (iI (z))), (2, .int (iI (f)))]) hM.1 hM.2.1 dX4_does_12 hl (by decide) rfl (fun ls hl => ?_)
  refine y_aload_n hM hl 2 rfl rfl dX4_does_14 ?_
  refine y_get hM hC hMI.1 rfl rfl (by decide +kernel) 13 ⟨by decide, rfl, rfl, rfl⟩ (by decide +kernel) (congrArg (fun q => some (va_rf q)) (hMI.2 13 (by decide)).2) dX4_does_15 ?_
  refine W.eq (g2 := F0 m 18 ls [.ref (ad 33 0)]) rfl ?_
  refine y_iload_n hM hl 3 rfl rfl dX4_does_18 ?_
  refine y_iald hM hC (hMI.2 13 (by decide)).1 rfl ⟨by omega, by omega⟩ (by decide) (x := T 33 0 (z).toNat) rfl dX4_does_19 ?_
  refine y_iconst hM dX4_does_20 ?_
  refine y_icmp_ne hM (by constructor <;> omega) (by constructor <;> omega) (tgt := 103) dX4_does_21 (by decide) (fun c_21 => ?_) (fun c_21 => ?_)
  ·
    refine y_aload_n hM hl 2 rfl rfl dX4_does_103 ?_
    refine y_get hM hC hMI.1 rfl rfl (by decide +kernel) 13 ⟨by decide, rfl, rfl, rfl⟩ (by decide +kernel) (congrArg (fun q => some (va_rf q)) (hMI.2 13 (by decide)).2) dX4_does_104 ?_
    refine W.eq (g2 := F0 m 107 ls [.ref (ad 33 0)]) rfl ?_
    refine y_iload_n hM hl 3 rfl rfl dX4_does_107 ?_
    refine y_iald hM hC (hMI.2 13 (by decide)).1 rfl ⟨by omega, by omega⟩ (by decide) (x := T 33 0 (z).toNat) rfl dX4_does_108 ?_
    refine y_iconst hM dX4_does_109 ?_
    refine y_icmp_ne hM (by constructor <;> omega) (by constructor <;> omega) (tgt := 145) dX4_does_110 (by decide) (fun c_110 => ?_) (fun c_110 => ?_)
    ·
      refine y_aload_n hM hl 2 rfl rfl dX4_does_145 ?_
      refine y_get hM hC hMI.1 rfl rfl (by decide +kernel) 16 ⟨by decide, rfl, rfl, rfl⟩ (by decide +kernel) (congrArg (fun q => some (va_rf q)) (hMI.2 16 (by decide)).2) dX4_does_146 ?_
      refine W.eq (g2 := F0 m 149 ls [.ref (ad 36 0)]) rfl ?_
      refine y_iload_n hM hl 3 rfl rfl dX4_does_149 ?_
      refine lv_dup2_11 hM.1 hM.2.1 dX4_does_150 rfl rfl ?_
      refine y_iald hM hC (hMI.2 16 (by decide)).1 rfl ⟨by omega, by omega⟩ (by decide) (x := T 36 0 (z).toNat) rfl dX4_does_151 ?_
      refine y_aload_n hM hl 2 rfl rfl dX4_does_152 ?_
      refine y_get hM hC hMI.1 rfl rfl (by decide +kernel) 13 ⟨by decide, rfl, rfl, rfl⟩ (by decide +kernel) (congrArg (fun q => some (va_rf q)) (hMI.2 13 (by decide)).2) dX4_does_153 ?_
      refine W.eq (g2 := F0 m 156 ls [.ref (ad 33 0), .int (iI (T 36 0 (z).toNat)), .int (iI (z)), .ref (ad 36 0)]) rfl ?_
      refine y_iload_n hM hl 3 rfl rfl dX4_does_156 ?_
      refine y_iald hM hC (hMI.2 13 (by decide)).1 rfl ⟨by omega, by omega⟩ (by decide) (x := T 33 0 (z).toNat) rfl dX4_does_157 ?_
      refine y_iconst hM dX4_does_158 ?_
      refine y_icmp_ne hM (by constructor <;> omega) (by constructor <;> omega) (tgt := 166) dX4_does_159 (by decide) (fun c_159 => ?_) (fun c_159 => False.elim (by omega))
      refine y_iload hM hl 0 rfl dX4_does_166 ?_
      refine y_iadd hM dX4_does_168 ?_
      refine y_iast hM hC (hMI.2 16 (by decide)).1 (fun _ _ => rfl) ⟨by omega, by omega⟩ (by decide) dX4_does_169 (fun H locs hC => ?_)
      refine y_aload_n hM hl 2 rfl rfl dX4_does_170 ?_
      refine y_get hM hC hMI.1 rfl rfl (by decide +kernel) 17 ⟨by decide, rfl, rfl, rfl⟩ (by decide +kernel) (congrArg (fun q => some (va_rf q)) (hMI.2 17 (by decide)).2) dX4_does_171 ?_
      refine W.eq (g2 := F0 m 174 ls [.ref (ad 37 0)]) rfl ?_
      refine y_iload_n hM hl 3 rfl rfl dX4_does_174 ?_
      refine lv_dup2_11 hM.1 hM.2.1 dX4_does_175 rfl rfl ?_
      refine y_iald hM hC (hMI.2 17 (by decide)).1 rfl ⟨by omega, by omega⟩ (by decide) (x := T 37 0 (z).toNat) (by simp [up, zrT]) dX4_does_176 ?_
      refine y_iload hM hl 0 rfl dX4_does_177 ?_
      refine y_iadd hM dX4_does_179 ?_
      refine y_iast hM hC (hMI.2 17 (by decide)).1 (fun _ _ => rfl) ⟨by omega, by omega⟩ (by decide) dX4_does_180 (fun H locs hC => ?_)
      refine y_aload_n hM hl 2 rfl rfl dX4_does_181 ?_
      refine y_get hM hC hMI.1 rfl rfl (by decide +kernel) 14 ⟨by decide, rfl, rfl, rfl⟩ (by decide +kernel) (congrArg (fun q => some (va_rf q)) (hMI.2 14 (by decide)).2) dX4_does_182 ?_
      refine W.eq (g2 := F0 m 185 ls [.ref (ad 34 0)]) rfl ?_
      refine y_iload_n hM hl 3 rfl rfl dX4_does_185 ?_
      refine y_aload_n hM hl 2 rfl rfl dX4_does_186 ?_
      refine y_get hM hC hMI.1 rfl rfl (by decide +kernel) 1 ⟨by decide, rfl, rfl, rfl⟩ (by decide +kernel) (congrArg (fun q => some (Value.int (iI q))) (show (up (up T 36 0 ((z).toNat) ((T 36 0 (z).toNat) + (r_9))) 37 0 ((z).toNat) ((T 37 0 (z).toNat) + (r_9))) 12 0 1 = T 12 0 1 from by simp [up, zrT])) dX4_does_187 ?_
      refine y_iast hM hC (hMI.2 14 (by decide)).1 (fun _ _ => rfl) ⟨by omega, by omega⟩ (by decide) dX4_does_190 (fun H locs hC => ?_)
      refine y_aload_n hM hl 2 rfl rfl dX4_does_191 ?_
      refine y_get hM hC hMI.1 rfl rfl (by decide +kernel) 13 ⟨by decide, rfl, rfl, rfl⟩ (by decide +kernel) (congrArg (fun q => some (va_rf q)) (hMI.2 13 (by decide)).2) dX4_does_192 ?_
      refine W.eq (g2 := F0 m 195 ls [.ref (ad 33 0)]) rfl ?_
      refine y_iload_n hM hl 3 rfl rfl dX4_does_195 ?_
      refine lv_dup2_11 hM.1 hM.2.1 dX4_does_196 rfl rfl ?_
      refine y_iald hM hC (hMI.2 13 (by decide)).1 rfl ⟨by omega, by omega⟩ (by decide) (x := T 33 0 (z).toNat) (by simp [up, zrT]) dX4_does_197 ?_
      refine y_iconst hM dX4_does_198 ?_
      refine y_iadd hM dX4_does_199 ?_
      refine y_iast hM hC (hMI.2 13 (by decide)).1 (fun _ _ => rfl) ⟨by omega, by omega⟩ (by decide) dX4_does_200 (fun H locs hC => ?_)
      refine y_iload hM hl 0 rfl dX4_does_201 ?_
      exact y_iret hM hr hlk hC ⟨_, rfl, h_9, (by unfold mdoe mend; rw [if_neg c_21, if_neg c_110, if_neg c_110, ← h_9])⟩ (Nat.le_of_ble_eq_true rfl) (Nat.le_of_ble_eq_true rfl) dX4_does_203
    ·
      refine y_aload_n hM hl 2 rfl rfl dX4_does_113 ?_
      refine y_iload_n hM hl 3 rfl rfl dX4_does_114 ?_
      refine y_iload_n hM hl 4 rfl rfl dX4_does_115 ?_
      refine y_if_eq hM (by constructor <;> omega) (tgt := 126) dX4_does_116 (by decide) (fun c_116 => ?_) (fun c_116 => ?_)
      ·
        refine y_aload_n hM hl 2 rfl rfl dX4_does_126 ?_
        refine y_aload_n hM hl 2 rfl rfl dX4_does_127 ?_
        refine y_get hM hC hMI.1 rfl rfl (by decide +kernel) 12 ⟨by decide, rfl, rfl, rfl⟩ (by decide +kernel) (congrArg (fun q => some (va_rf q)) (hMI.2 12 (by decide)).2) dX4_does_128 ?_
        refine W.eq (g2 := F0 m 131 ls [.ref (ad 32 0), .ref (ad 12 0), .int (iI (z)), .ref (ad 12 0)]) rfl ?_
        refine y_iload_n hM hl 3 rfl rfl dX4_does_131 ?_
        refine y_iald hM hC (hMI.2 12 (by decide)).1 rfl ⟨by omega, by omega⟩ (by decide) (x := T 32 0 (z).toNat) rfl dX4_does_132 ?_
        refine y_aload_n hM hl 2 rfl rfl dX4_does_133 ?_
        refine y_get hM hC hMI.1 rfl rfl (by decide +kernel) 1 ⟨by decide, rfl, rfl, rfl⟩ (by decide +kernel) rfl dX4_does_134 ?_
        refine y_callV hM hC (c_priceOf l hfl G b0 ks ad T P (T 32 0 (z).toNat) (T 12 0 1) ⟨by omega, by omega⟩ ⟨by omega, by omega⟩ hMI) (cwV 2 hM.2.2.2.2 gX4_does_X4_priceOf rfl rfl rfl (by decide +kernel) ⟨(Nat.le_of_ble_eq_true rfl), (Nat.le_of_ble_eq_true rfl)⟩) (y_recv hC hMI.1 rfl rfl) rfl hl.1 rfl (Nat.le_of_ble_eq_true rfl) dX4_does_137 ⟨(Nat.le_of_ble_eq_true rfl), (Nat.le_of_ble_eq_true rfl)⟩ (fun E ce q9 u1 H locs hx hC hce hcv hcl => hx.elim) (fun v u1 H locs hp hC => ?_)
        obtain ⟨r_137, rfl, h_137, hu⟩ := hp; rw [hu] at hC; clear hu
        try dsimp only at h_137
        refine W.eq (g2 := F0 m 140 ls [.int (iI (r_137)), .int (iI (z)), .ref (ad 12 0)]) rfl ?_
        have hv_137 := mpv (T 32 0 z.toNat) (T 12 0 1) (by omega) (by omega) (by omega) (by omega)
        rw [← h_137] at hv_137
        refine y_iload hM hl 0 rfl dX4_does_140 ?_
        refine y_callV hM hC (c_buys l hfl G b0 ks ad T P (z) (r_137) (r_9) ⟨by omega, (show _ < T 12 0 10 by omega)⟩ (by omega) ⟨by omega, by omega⟩ ⟨by omega, by omega⟩ hMI hMN) (cwV 3 hM.2.2.2.2 gX4_does_X4_buys rfl rfl rfl (by decide +kernel) ⟨(Nat.le_of_ble_eq_true rfl), (Nat.le_of_ble_eq_true rfl)⟩) (y_recv hC hMI.1 rfl rfl) rfl hl.1 rfl (Nat.le_of_ble_eq_true rfl) dX4_does_142 ⟨(Nat.le_of_ble_eq_true rfl), (Nat.le_of_ble_eq_true rfl)⟩ (fun E ce q9 u1 H locs hx hC hce hcv hcl => hx.elim) (fun v u1 H locs hp hC => ?_)
        obtain ⟨rfl, h_142, hu⟩ := hp; rw [hu] at hC; clear hu
        try dsimp only at h_142
        refine W.eq (g2 := F0 m 145 ls []) rfl ?_
        refine y_aload_n hM hl 2 rfl rfl dX4_does_145 ?_
        refine y_get hM hC hMI.1 rfl rfl (by decide +kernel) 16 ⟨by decide, rfl, rfl, rfl⟩ (by decide +kernel) (congrArg (fun q => some (va_rf q)) (hMI.2 16 (by decide)).2) dX4_does_146 ?_
        refine W.eq (g2 := F0 m 149 ls [.ref (ad 36 0)]) rfl ?_
        refine y_iload_n hM hl 3 rfl rfl dX4_does_149 ?_
        refine lv_dup2_11 hM.1 hM.2.1 dX4_does_150 rfl rfl ?_
        refine y_iald hM hC (hMI.2 16 (by decide)).1 rfl ⟨by omega, by omega⟩ (by decide) (x := T 36 0 z.toNat) rfl dX4_does_151 ?_
        refine y_aload_n hM hl 2 rfl rfl dX4_does_152 ?_
        refine y_get hM hC hMI.1 rfl rfl (by decide +kernel) 13 ⟨by decide, rfl, rfl, rfl⟩ (by decide +kernel) (congrArg (fun q => some (va_rf q)) (hMI.2 13 (by decide)).2) dX4_does_153 ?_
        refine W.eq (g2 := F0 m 156 ls [.ref (ad 33 0), .int (iI (T 36 0 z.toNat)), .int (iI (z)), .ref (ad 36 0)]) rfl ?_
        refine y_iload_n hM hl 3 rfl rfl dX4_does_156 ?_
        refine y_iald hM hC (hMI.2 13 (by decide)).1 rfl ⟨by omega, by omega⟩ (by decide) (x := T 33 0 z.toNat) rfl dX4_does_157 ?_
        refine y_iconst hM dX4_does_158 ?_
        refine y_icmp_ne hM (by constructor <;> omega) (by constructor <;> omega) (tgt := 166) dX4_does_159 (by decide) (fun c_159 => False.elim (by omega)) (fun c_159 => ?_)
        refine y_iconst hM dX4_does_162 ?_
        refine lv_goto (tgt := 168) hM.1 hM.2.1 dX4_does_163 (by decide) ?_
        refine y_iadd hM dX4_does_168 ?_
        refine y_iast hM hC (hMI.2 16 (by decide)).1 (fun _ _ => rfl) ⟨by omega, by omega⟩ (by decide) dX4_does_169 (fun H locs hC => ?_)
        refine y_aload_n hM hl 2 rfl rfl dX4_does_170 ?_
        refine y_get hM hC hMI.1 rfl rfl (by decide +kernel) 17 ⟨by decide, rfl, rfl, rfl⟩ (by decide +kernel) (congrArg (fun q => some (va_rf q)) (hMI.2 17 (by decide)).2) dX4_does_171 ?_
        refine W.eq (g2 := F0 m 174 ls [.ref (ad 37 0)]) rfl ?_
        refine y_iload_n hM hl 3 rfl rfl dX4_does_174 ?_
        refine lv_dup2_11 hM.1 hM.2.1 dX4_does_175 rfl rfl ?_
        refine y_iald hM hC (hMI.2 17 (by decide)).1 rfl ⟨by omega, by omega⟩ (by decide) (x := T 37 0 z.toNat) rfl dX4_does_176 ?_
        refine y_iload hM hl 0 rfl dX4_does_177 ?_
        refine y_iadd hM dX4_does_179 ?_
        refine y_iast hM hC (hMI.2 17 (by decide)).1 (fun _ _ => rfl) ⟨by omega, by omega⟩ (by decide) dX4_does_180 (fun H locs hC => ?_)
        refine y_aload_n hM hl 2 rfl rfl dX4_does_181 ?_
        refine y_get hM hC hMI.1 rfl rfl (by decide +kernel) 14 ⟨by decide, rfl, rfl, rfl⟩ (by decide +kernel) (congrArg (fun q => some (va_rf q)) (hMI.2 14 (by decide)).2) dX4_does_182 ?_
        refine W.eq (g2 := F0 m 185 ls [.ref (ad 34 0)]) rfl ?_
        refine y_iload_n hM hl 3 rfl rfl dX4_does_185 ?_
        refine y_aload_n hM hl 2 rfl rfl dX4_does_186 ?_
        refine y_get hM hC hMI.1 rfl rfl (by decide +kernel) 1 ⟨by decide, rfl, rfl, rfl⟩ (by decide +kernel) (congrArg (fun q => some (Value.int (iI q))) (show (up (up (mbuy T (z) (r_137) (r_9)) 36 0 ((z).toNat) ((T 36 0 z.toNat) + (0))) 37 0 ((z).toNat) ((T 37 0 z.toNat) + (r_9))) 12 0 1 = T 12 0 1 from rfl)) dX4_does_187 ?_
        refine y_iast hM hC (hMI.2 14 (by decide)).1 (fun _ _ => rfl) ⟨by omega, by omega⟩ (by decide) dX4_does_190 (fun H locs hC => ?_)
        refine y_aload_n hM hl 2 rfl rfl dX4_does_191 ?_
        refine y_get hM hC hMI.1 rfl rfl (by decide +kernel) 13 ⟨by decide, rfl, rfl, rfl⟩ (by decide +kernel) (congrArg (fun q => some (va_rf q)) (hMI.2 13 (by decide)).2) dX4_does_192 ?_
        refine W.eq (g2 := F0 m 195 ls [.ref (ad 33 0)]) rfl ?_
        refine y_iload_n hM hl 3 rfl rfl dX4_does_195 ?_
        refine lv_dup2_11 hM.1 hM.2.1 dX4_does_196 rfl rfl ?_
        refine y_iald hM hC (hMI.2 13 (by decide)).1 rfl ⟨by omega, by omega⟩ (by decide) (x := T 33 0 z.toNat) rfl dX4_does_197 ?_
        refine y_iconst hM dX4_does_198 ?_
        refine y_iadd hM dX4_does_199 ?_
        refine y_iast hM hC (hMI.2 13 (by decide)).1 (fun _ _ => rfl) ⟨by omega, by omega⟩ (by decide) dX4_does_200 (fun H locs hC => ?_)
        refine y_iload hM hl 0 rfl dX4_does_201 ?_
        exact y_iret hM hr hlk hC ⟨_, rfl, h_9, (by unfold mdoe mend; rw [if_neg c_21, if_pos (show T 33 0 z.toNat = 2 by omega), if_pos (show T 33 0 z.toNat = 2 by omega)]; unfold mprF; rw [if_pos c_116, ← h_137, ← h_9])⟩ (Nat.le_of_ble_eq_true rfl) (Nat.le_of_ble_eq_true rfl) dX4_does_203
      ·
        refine y_aload_n hM hl 2 rfl rfl dX4_does_119 ?_
        refine y_get hM hC hMI.1 rfl rfl (by decide +kernel) 5 ⟨by decide, rfl, rfl, rfl⟩ (by decide +kernel) rfl dX4_does_120 ?_
        refine lv_goto (tgt := 140) hM.1 hM.2.1 dX4_does_123 (by decide) ?_
        refine y_iload hM hl 0 rfl dX4_does_140 ?_
        refine y_callV hM hC (c_buys l hfl G b0 ks ad T P (z) (T 12 0 5) (r_9) ⟨by omega, (show _ < T 12 0 10 by omega)⟩ (by omega) ⟨by omega, by omega⟩ ⟨by omega, by omega⟩ hMI hMN) (cwV 3 hM.2.2.2.2 gX4_does_X4_buys rfl rfl rfl (by decide +kernel) ⟨(Nat.le_of_ble_eq_true rfl), (Nat.le_of_ble_eq_true rfl)⟩) (y_recv hC hMI.1 rfl rfl) rfl hl.1 rfl (Nat.le_of_ble_eq_true rfl) dX4_does_142 ⟨(Nat.le_of_ble_eq_true rfl), (Nat.le_of_ble_eq_true rfl)⟩ (fun E ce q9 u1 H locs hx hC hce hcv hcl => hx.elim) (fun v u1 H locs hp hC => ?_)
        obtain ⟨rfl, h_142, hu⟩ := hp; rw [hu] at hC; clear hu
        try dsimp only at h_142
        refine W.eq (g2 := F0 m 145 ls []) rfl ?_
        refine y_aload_n hM hl 2 rfl rfl dX4_does_145 ?_
        refine y_get hM hC hMI.1 rfl rfl (by decide +kernel) 16 ⟨by decide, rfl, rfl, rfl⟩ (by decide +kernel) (congrArg (fun q => some (va_rf q)) (hMI.2 16 (by decide)).2) dX4_does_146 ?_
        refine W.eq (g2 := F0 m 149 ls [.ref (ad 36 0)]) rfl ?_
        refine y_iload_n hM hl 3 rfl rfl dX4_does_149 ?_
        refine lv_dup2_11 hM.1 hM.2.1 dX4_does_150 rfl rfl ?_
        refine y_iald hM hC (hMI.2 16 (by decide)).1 rfl ⟨by omega, by omega⟩ (by decide) (x := T 36 0 z.toNat) rfl dX4_does_151 ?_
        refine y_aload_n hM hl 2 rfl rfl dX4_does_152 ?_
        refine y_get hM hC hMI.1 rfl rfl (by decide +kernel) 13 ⟨by decide, rfl, rfl, rfl⟩ (by decide +kernel) (congrArg (fun q => some (va_rf q)) (hMI.2 13 (by decide)).2) dX4_does_153 ?_
        refine W.eq (g2 := F0 m 156 ls [.ref (ad 33 0), .int (iI (T 36 0 z.toNat)), .int (iI (z)), .ref (ad 36 0)]) rfl ?_
        refine y_iload_n hM hl 3 rfl rfl dX4_does_156 ?_
        refine y_iald hM hC (hMI.2 13 (by decide)).1 rfl ⟨by omega, by omega⟩ (by decide) (x := T 33 0 z.toNat) rfl dX4_does_157 ?_
        refine y_iconst hM dX4_does_158 ?_
        refine y_icmp_ne hM (by constructor <;> omega) (by constructor <;> omega) (tgt := 166) dX4_does_159 (by decide) (fun c_159 => False.elim (by omega)) (fun c_159 => ?_)
        refine y_iconst hM dX4_does_162 ?_
        refine lv_goto (tgt := 168) hM.1 hM.2.1 dX4_does_163 (by decide) ?_
        refine y_iadd hM dX4_does_168 ?_
        refine y_iast hM hC (hMI.2 16 (by decide)).1 (fun _ _ => rfl) ⟨by omega, by omega⟩ (by decide) dX4_does_169 (fun H locs hC => ?_)
        refine y_aload_n hM hl 2 rfl rfl dX4_does_170 ?_
        refine y_get hM hC hMI.1 rfl rfl (by decide +kernel) 17 ⟨by decide, rfl, rfl, rfl⟩ (by decide +kernel) (congrArg (fun q => some (va_rf q)) (hMI.2 17 (by decide)).2) dX4_does_171 ?_
        refine W.eq (g2 := F0 m 174 ls [.ref (ad 37 0)]) rfl ?_
        refine y_iload_n hM hl 3 rfl rfl dX4_does_174 ?_
        refine lv_dup2_11 hM.1 hM.2.1 dX4_does_175 rfl rfl ?_
        refine y_iald hM hC (hMI.2 17 (by decide)).1 rfl ⟨by omega, by omega⟩ (by decide) (x := T 37 0 z.toNat) rfl dX4_does_176 ?_
        refine y_iload hM hl 0 rfl dX4_does_177 ?_
        refine y_iadd hM dX4_does_179 ?_
        refine y_iast hM hC (hMI.2 17 (by decide)).1 (fun _ _ => rfl) ⟨by omega, by omega⟩ (by decide) dX4_does_180 (fun H locs hC => ?_)
        refine y_aload_n hM hl 2 rfl rfl dX4_does_181 ?_
        refine y_get hM hC hMI.1 rfl rfl (by decide +kernel) 14 ⟨by decide, rfl, rfl, rfl⟩ (by decide +kernel) (congrArg (fun q => some (va_rf q)) (hMI.2 14 (by decide)).2) dX4_does_182 ?_
        refine W.eq (g2 := F0 m 185 ls [.ref (ad 34 0)]) rfl ?_
        refine y_iload_n hM hl 3 rfl rfl dX4_does_185 ?_
        refine y_aload_n hM hl 2 rfl rfl dX4_does_186 ?_
        refine y_get hM hC hMI.1 rfl rfl (by decide +kernel) 1 ⟨by decide, rfl, rfl, rfl⟩ (by decide +kernel) (congrArg (fun q => some (Value.int (iI q))) (show (up (up (mbuy T (z) (T 12 0 5) (r_9)) 36 0 ((z).toNat) ((T 36 0 z.toNat) + (0))) 37 0 ((z).toNat) ((T 37 0 z.toNat) + (r_9))) 12 0 1 = T 12 0 1 from rfl)) dX4_does_187 ?_
        refine y_iast hM hC (hMI.2 14 (by decide)).1 (fun _ _ => rfl) ⟨by omega, by omega⟩ (by decide) dX4_does_190 (fun H locs hC => ?_)
        refine y_aload_n hM hl 2 rfl rfl dX4_does_191 ?_
        refine y_get hM hC hMI.1 rfl rfl (by decide +kernel) 13 ⟨by decide, rfl, rfl, rfl⟩ (by decide +kernel) (congrArg (fun q => some (va_rf q)) (hMI.2 13 (by decide)).2) dX4_does_192 ?_
        refine W.eq (g2 := F0 m 195 ls [.ref (ad 33 0)]) rfl ?_
        refine y_iload_n hM hl 3 rfl rfl dX4_does_195 ?_
        refine lv_dup2_11 hM.1 hM.2.1 dX4_does_196 rfl rfl ?_
        refine y_iald hM hC (hMI.2 13 (by decide)).1 rfl ⟨by omega, by omega⟩ (by decide) (x := T 33 0 z.toNat) rfl dX4_does_197 ?_
        refine y_iconst hM dX4_does_198 ?_
        refine y_iadd hM dX4_does_199 ?_
        refine y_iast hM hC (hMI.2 13 (by decide)).1 (fun _ _ => rfl) ⟨by omega, by omega⟩ (by decide) dX4_does_200 (fun H locs hC => ?_)
        refine y_iload hM hl 0 rfl dX4_does_201 ?_
        exact y_iret hM hr hlk hC ⟨_, rfl, h_9, (by unfold mdoe mend; rw [if_neg c_21, if_pos (show T 33 0 z.toNat = 2 by omega), if_pos (show T 33 0 z.toNat = 2 by omega)]; unfold mprF; rw [if_neg c_116, ← h_9])⟩ (Nat.le_of_ble_eq_true rfl) (Nat.le_of_ble_eq_true rfl) dX4_does_203
  ·
    refine y_iload_n hM hl 4 rfl rfl dX4_does_24 ?_
    refine y_if_eq hM (by constructor <;> omega) (tgt := 35) dX4_does_25 (by decide) (fun c_25 => ?_) (fun c_25 => ?_)
    ·
      refine y_aload_n hM hl 2 rfl rfl dX4_does_35 ?_
      refine y_aload_n hM hl 2 rfl rfl dX4_does_36 ?_
      refine y_get hM hC hMI.1 rfl rfl (by decide +kernel) 7 ⟨by decide, rfl, rfl, rfl⟩ (by decide +kernel) (congrArg (fun q => some (va_rf q)) (hMI.2 7 (by decide)).2) dX4_does_37 ?_
      refine W.eq (g2 := F0 m 40 ls [.ref (ad 27 0), .ref (ad 12 0)]) rfl ?_
      refine y_iload_n hM hl 1 rfl rfl dX4_does_40 ?_
      refine y_iald hM hC (hMI.2 7 (by decide)).1 rfl ⟨by omega, by omega⟩ (by decide) (x := T 27 0 (T 31 0 (z).toNat).toNat) rfl dX4_does_41 ?_
      refine y_aload_n hM hl 2 rfl rfl dX4_does_42 ?_
      refine y_get hM hC hMI.1 rfl rfl (by decide +kernel) 1 ⟨by decide, rfl, rfl, rfl⟩ (by decide +kernel) rfl dX4_does_43 ?_
      refine y_callV hM hC (c_priceOf l hfl G b0 ks ad T P (T 27 0 (T 31 0 (z).toNat).toNat) (T 12 0 1) ⟨by omega, by omega⟩ ⟨by omega, by omega⟩ hMI) (cwV 2 hM.2.2.2.2 gX4_does_X4_priceOf rfl rfl rfl (by decide +kernel) ⟨(Nat.le_of_ble_eq_true rfl), (Nat.le_of_ble_eq_true rfl)⟩) (y_recv hC hMI.1 rfl rfl) rfl hl.1 rfl (Nat.le_of_ble_eq_true rfl) dX4_does_46 ⟨(Nat.le_of_ble_eq_true rfl), (Nat.le_of_ble_eq_true rfl)⟩ (fun E ce q9 u1 H locs hx hC hce hcv hcl => hx.elim) (fun v u1 H locs hp hC => ?_)
      obtain ⟨r_46, rfl, h_46, hu⟩ := hp; rw [hu] at hC; clear hu
      try dsimp only at h_46
      refine W.eq (g2 := F0 m 49 ls [.int (iI (r_46))]) rfl ?_
      have hv_46 := mpv (T 27 0 (T 31 0 z.toNat).toNat) (T 12 0 1) (by omega) (by omega) (by omega) (by omega)
      rw [← h_46] at hv_46
      have hq1 : 0 ≤ T 28 0 (T 31 0 z.toNat).toNat * r_46 := Int.mul_nonneg (by omega) (by omega)
      have hq2 : T 28 0 (T 31 0 z.toNat).toNat * r_46 ≤ 100000000 * 10000 := Int.mul_le_mul (by omega) (by omega) (by omega) (by omega)
      refine lv_istore (lv' := [(5, .int (iI (r_46))), (4, .int (iI (r_9))), (3, .int (iI (T 31 0 (z).toNat))), (0, .ref (ad 12 0)), (1, .int (iI (z))), (2, .int (iI (f)))]) hM.1 hM.2.1 dX4_does_49 hl (by decide) rfl (fun ls hl => ?_)
      refine y_aload_n hM hl 3 rfl rfl dX4_does_51 ?_
      refine y_get hM hC hMI.1 rfl rfl (by decide +kernel) 18 ⟨by decide, rfl, rfl, rfl⟩ (by decide +kernel) (congrArg (fun q => some (va_rf q)) (hMI.2 18 (by decide)).2) dX4_does_52 ?_
      refine W.eq (g2 := F0 m 55 ls [.ref (ad 38 0)]) rfl ?_
      refine y_iload_n hM hl 4 rfl rfl dX4_does_55 ?_
      refine y_aload_n hM hl 3 rfl rfl dX4_does_56 ?_
      refine y_get hM hC hMI.1 rfl rfl (by decide +kernel) 8 ⟨by decide, rfl, rfl, rfl⟩ (by decide +kernel) (congrArg (fun q => some (va_rf q)) (hMI.2 8 (by decide)).2) dX4_does_57 ?_
      refine W.eq (g2 := F0 m 60 ls [.ref (ad 28 0), .int (iI (z)), .ref (ad 38 0)]) rfl ?_
      refine y_iload_n hM hl 2 rfl rfl dX4_does_60 ?_
      refine y_lald hM hC (hMI.2 8 (by decide)).1 rfl ⟨by omega, by omega⟩ (by decide) (x := T 28 0 (T 31 0 (z).toNat).toNat) rfl dX4_does_61 ?_
      refine y_last hM hC (hMI.2 18 (by decide)).1 (fun _ _ => rfl) ⟨by omega, by omega⟩ (by decide) dX4_does_62 (fun H locs hC => ?_)
      refine y_aload_n hM hl 3 rfl rfl dX4_does_63 ?_
      refine y_get hM hC hMI.1 rfl rfl (by decide +kernel) 19 ⟨by decide, rfl, rfl, rfl⟩ (by decide +kernel) (congrArg (fun q => some (va_rf q)) (hMI.2 19 (by decide)).2) dX4_does_64 ?_
      refine W.eq (g2 := F0 m 67 ls [.ref (ad 39 0)]) rfl ?_
      refine y_iload_n hM hl 4 rfl rfl dX4_does_67 ?_
      refine y_aload_n hM hl 3 rfl rfl dX4_does_68 ?_
      refine y_get hM hC hMI.1 rfl rfl (by decide +kernel) 8 ⟨by decide, rfl, rfl, rfl⟩ (by decide +kernel) (congrArg (fun q => some (va_rf q)) (hMI.2 8 (by decide)).2) dX4_does_69 ?_
      refine W.eq (g2 := F0 m 72 ls [.ref (ad 28 0), .int (iI (z)), .ref (ad 39 0)]) rfl ?_
      refine y_iload_n hM hl 2 rfl rfl dX4_does_72 ?_
      refine y_lald hM hC (hMI.2 8 (by decide)).1 rfl ⟨by omega, by omega⟩ (by decide) (x := T 28 0 (T 31 0 (z).toNat).toNat) (by simp [up, zrT]) dX4_does_73 ?_
      refine y_iload hM hl 0 rfl dX4_does_74 ?_
      refine y_i2l hM (by constructor <;> omega) dX4_does_76 ?_
      refine y_lmul hM dX4_does_77 ?_
      refine y_ldc2 hM (v := 1000) (1000) (by decide) (by decide +kernel) dX4_does_78 ?_
      refine y_ldiv hM ⟨by omega, by omega, by omega, by omega⟩ dX4_does_81 ?_
      refine y_last hM hC (hMI.2 19 (by decide)).1 (fun _ _ => rfl) ⟨by omega, by omega⟩ (by decide) dX4_does_82 (fun H locs hC => ?_)
      refine y_aload_n hM hl 3 rfl rfl dX4_does_83 ?_
      refine y_get hM hC hMI.1 rfl rfl (by decide +kernel) 8 ⟨by decide, rfl, rfl, rfl⟩ (by decide +kernel) (congrArg (fun q => some (va_rf q)) (hMI.2 8 (by decide)).2) dX4_does_84 ?_
      refine W.eq (g2 := F0 m 87 ls [.ref (ad 28 0)]) rfl ?_
      refine y_iload_n hM hl 2 rfl rfl dX4_does_87 ?_
      refine y_lconst hM 0 (by decide) dX4_does_88 ?_
      refine y_last hM hC (hMI.2 8 (by decide)).1 (fun _ _ => rfl) ⟨by omega, by omega⟩ (by decide) dX4_does_89 (fun H locs hC => ?_)
      refine y_aload_n hM hl 3 rfl rfl dX4_does_90 ?_
      refine y_get hM hC hMI.1 rfl rfl (by decide +kernel) 15 ⟨by decide, rfl, rfl, rfl⟩ (by decide +kernel) (congrArg (fun q => some (va_rf q)) (hMI.2 15 (by decide)).2) dX4_does_91 ?_
      refine W.eq (g2 := F0 m 94 ls [.ref (ad 35 0)]) rfl ?_
      refine y_iload_n hM hl 4 rfl rfl dX4_does_94 ?_
      refine y_aload_n hM hl 3 rfl rfl dX4_does_95 ?_
      refine y_get hM hC hMI.1 rfl rfl (by decide +kernel) 1 ⟨by decide, rfl, rfl, rfl⟩ (by decide +kernel) (congrArg (fun q => some (Value.int (iI q))) (show (up (up (up T 38 0 ((z).toNat) (T 28 0 (T 31 0 (z).toNat).toNat)) 39 0 ((z).toNat) (((T 28 0 (T 31 0 (z).toNat).toNat) * (r_46)) / (1000))) 28 0 ((T 31 0 (z).toNat).toNat) (0)) 12 0 1 = T 12 0 1 from by simp [up, zrT])) dX4_does_96 ?_
      refine y_iast hM hC (hMI.2 15 (by decide)).1 (fun _ _ => rfl) ⟨by omega, by omega⟩ (by decide) dX4_does_99 (fun H locs hC => ?_)
      refine lv_goto (tgt := 145) hM.1 hM.2.1 dX4_does_100 (by decide) ?_
      refine y_aload_n hM hl 3 rfl rfl dX4_does_145 ?_
      refine y_get hM hC hMI.1 rfl rfl (by decide +kernel) 16 ⟨by decide, rfl, rfl, rfl⟩ (by decide +kernel) (congrArg (fun q => some (va_rf q)) (hMI.2 16 (by decide)).2) dX4_does_146 ?_
      refine W.eq (g2 := F0 m 149 ls [.ref (ad 36 0)]) rfl ?_
      refine y_iload_n hM hl 4 rfl rfl dX4_does_149 ?_
      refine lv_dup2_11 hM.1 hM.2.1 dX4_does_150 rfl rfl ?_
      refine y_iald hM hC (hMI.2 16 (by decide)).1 rfl ⟨by omega, by omega⟩ (by decide) (x := T 36 0 (z).toNat) (by simp [up, zrT]) dX4_does_151 ?_
      refine y_aload_n hM hl 3 rfl rfl dX4_does_152 ?_
      refine y_get hM hC hMI.1 rfl rfl (by decide +kernel) 13 ⟨by decide, rfl, rfl, rfl⟩ (by decide +kernel) (congrArg (fun q => some (va_rf q)) (hMI.2 13 (by decide)).2) dX4_does_153 ?_
      refine W.eq (g2 := F0 m 156 ls [.ref (ad 33 0), .int (iI (T 36 0 (z).toNat)), .int (iI (z)), .ref (ad 36 0)]) rfl ?_
      refine y_iload_n hM hl 4 rfl rfl dX4_does_156 ?_
      refine y_iald hM hC (hMI.2 13 (by decide)).1 rfl ⟨by omega, by omega⟩ (by decide) (x := T 33 0 (z).toNat) (by simp [up, zrT]) dX4_does_157 ?_
      refine y_iconst hM dX4_does_158 ?_
      refine y_icmp_ne hM (by constructor <;> omega) (by constructor <;> omega) (tgt := 166) dX4_does_159 (by decide) (fun c_159 => ?_) (fun c_159 => False.elim (by omega))
      refine y_iload hM hl 1 rfl dX4_does_166 ?_
      refine y_iadd hM dX4_does_168 ?_
      refine y_iast hM hC (hMI.2 16 (by decide)).1 (fun _ _ => rfl) ⟨by omega, by omega⟩ (by decide) dX4_does_169 (fun H locs hC => ?_)
      refine y_aload_n hM hl 3 rfl rfl dX4_does_170 ?_
      refine y_get hM hC hMI.1 rfl rfl (by decide +kernel) 17 ⟨by decide, rfl, rfl, rfl⟩ (by decide +kernel) (congrArg (fun q => some (va_rf q)) (hMI.2 17 (by decide)).2) dX4_does_171 ?_
      refine W.eq (g2 := F0 m 174 ls [.ref (ad 37 0)]) rfl ?_
      refine y_iload_n hM hl 4 rfl rfl dX4_does_174 ?_
      refine lv_dup2_11 hM.1 hM.2.1 dX4_does_175 rfl rfl ?_
      refine y_iald hM hC (hMI.2 17 (by decide)).1 rfl ⟨by omega, by omega⟩ (by decide) (x := T 37 0 (z).toNat) (by simp [up, zrT]) dX4_does_176 ?_
      refine y_iload hM hl 1 rfl dX4_does_177 ?_
      refine y_iadd hM dX4_does_179 ?_
      refine y_iast hM hC (hMI.2 17 (by decide)).1 (fun _ _ => rfl) ⟨by omega, by omega⟩ (by decide) dX4_does_180 (fun H locs hC => ?_)
      refine y_aload_n hM hl 3 rfl rfl dX4_does_181 ?_
      refine y_get hM hC hMI.1 rfl rfl (by decide +kernel) 14 ⟨by decide, rfl, rfl, rfl⟩ (by decide +kernel) (congrArg (fun q => some (va_rf q)) (hMI.2 14 (by decide)).2) dX4_does_182 ?_
      refine W.eq (g2 := F0 m 185 ls [.ref (ad 34 0)]) rfl ?_
      refine y_iload_n hM hl 4 rfl rfl dX4_does_185 ?_
      refine y_aload_n hM hl 3 rfl rfl dX4_does_186 ?_
      refine y_get hM hC hMI.1 rfl rfl (by decide +kernel) 1 ⟨by decide, rfl, rfl, rfl⟩ (by decide +kernel) (congrArg (fun q => some (Value.int (iI q))) (show (up (up (up (up (up (up T 38 0 ((z).toNat) (T 28 0 (T 31 0 (z).toNat).toNat)) 39 0 ((z).toNat) (((T 28 0 (T 31 0 (z).toNat).toNat) * (r_46)) / (1000))) 28 0 ((T 31 0 (z).toNat).toNat) (0)) 35 0 ((z).toNat) (T 12 0 1)) 36 0 ((z).toNat) ((T 36 0 (z).toNat) + (r_9))) 37 0 ((z).toNat) ((T 37 0 (z).toNat) + (r_9))) 12 0 1 = T 12 0 1 from by simp [up, zrT])) dX4_does_187 ?_
      refine y_iast hM hC (hMI.2 14 (by decide)).1 (fun _ _ => rfl) ⟨by omega, by omega⟩ (by decide) dX4_does_190 (fun H locs hC => ?_)
      refine y_aload_n hM hl 3 rfl rfl dX4_does_191 ?_
      refine y_get hM hC hMI.1 rfl rfl (by decide +kernel) 13 ⟨by decide, rfl, rfl, rfl⟩ (by decide +kernel) (congrArg (fun q => some (va_rf q)) (hMI.2 13 (by decide)).2) dX4_does_192 ?_
      refine W.eq (g2 := F0 m 195 ls [.ref (ad 33 0)]) rfl ?_
      refine y_iload_n hM hl 4 rfl rfl dX4_does_195 ?_
      refine lv_dup2_11 hM.1 hM.2.1 dX4_does_196 rfl rfl ?_
      refine y_iald hM hC (hMI.2 13 (by decide)).1 rfl ⟨by omega, by omega⟩ (by decide) (x := T 33 0 (z).toNat) (by simp [up, zrT]) dX4_does_197 ?_
      refine y_iconst hM dX4_does_198 ?_
      refine y_iadd hM dX4_does_199 ?_
      refine y_iast hM hC (hMI.2 13 (by decide)).1 (fun _ _ => rfl) ⟨by omega, by omega⟩ (by decide) dX4_does_200 (fun H locs hC => ?_)
      refine y_iload hM hl 1 rfl dX4_does_201 ?_
      exact y_iret hM hr hlk hC ⟨_, rfl, h_9, (by unfold mdoe mend; rw [if_pos c_21, if_neg (show ¬ T 33 0 z.toNat = 2 by omega)]; unfold msel mprF moF; rw [if_pos c_25, ← h_46, ← h_9])⟩ (Nat.le_of_ble_eq_true rfl) (Nat.le_of_ble_eq_true rfl) dX4_does_203
    ·
      refine y_aload_n hM hl 2 rfl rfl dX4_does_28 ?_
      refine y_get hM hC hMI.1 rfl rfl (by decide +kernel) 5 ⟨by decide, rfl, rfl, rfl⟩ (by decide +kernel) rfl dX4_does_29 ?_
      refine lv_goto (tgt := 49) hM.1 hM.2.1 dX4_does_32 (by decide) ?_
      have hq1 : 0 ≤ T 28 0 (T 31 0 z.toNat).toNat * T 12 0 5 := Int.mul_nonneg (by omega) (by omega)
      have hq2 : T 28 0 (T 31 0 z.toNat).toNat * T 12 0 5 ≤ 100000000 * 10000 := Int.mul_le_mul (by omega) (by omega) (by omega) (by omega)
      refine lv_istore (lv' := [(5, .int (iI (T 12 0 5))), (4, .int (iI (r_9))), (3, .int (iI (T 31 0 (z).toNat))), (0, .ref (ad 12 0)), (1, .int (iI (z))), (2, .int (iI (f)))]) hM.1 hM.2.1 dX4_does_49 hl (by decide) rfl (fun ls hl => ?_)
      refine y_aload_n hM hl 3 rfl rfl dX4_does_51 ?_
      refine y_get hM hC hMI.1 rfl rfl (by decide +kernel) 18 ⟨by decide, rfl, rfl, rfl⟩ (by decide +kernel) (congrArg (fun q => some (va_rf q)) (hMI.2 18 (by decide)).2) dX4_does_52 ?_
      refine W.eq (g2 := F0 m 55 ls [.ref (ad 38 0)]) rfl ?_
      refine y_iload_n hM hl 4 rfl rfl dX4_does_55 ?_
      refine y_aload_n hM hl 3 rfl rfl dX4_does_56 ?_
      refine y_get hM hC hMI.1 rfl rfl (by decide +kernel) 8 ⟨by decide, rfl, rfl, rfl⟩ (by decide +kernel) (congrArg (fun q => some (va_rf q)) (hMI.2 8 (by decide)).2) dX4_does_57 ?_
      refine W.eq (g2 := F0 m 60 ls [.ref (ad 28 0), .int (iI (z)), .ref (ad 38 0)]) rfl ?_
      refine y_iload_n hM hl 2 rfl rfl dX4_does_60 ?_
      refine y_lald hM hC (hMI.2 8 (by decide)).1 rfl ⟨by omega, by omega⟩ (by decide) (x := T 28 0 (T 31 0 (z).toNat).toNat) rfl dX4_does_61 ?_
      refine y_last hM hC (hMI.2 18 (by decide)).1 (fun _ _ => rfl) ⟨by omega, by omega⟩ (by decide) dX4_does_62 (fun H locs hC => ?_)
      refine y_aload_n hM hl 3 rfl rfl dX4_does_63 ?_
      refine y_get hM hC hMI.1 rfl rfl (by decide +kernel) 19 ⟨by decide, rfl, rfl, rfl⟩ (by decide +kernel) (congrArg (fun q => some (va_rf q)) (hMI.2 19 (by decide)).2) dX4_does_64 ?_
      refine W.eq (g2 := F0 m 67 ls [.ref (ad 39 0)]) rfl ?_
      refine y_iload_n hM hl 4 rfl rfl dX4_does_67 ?_
      refine y_aload_n hM hl 3 rfl rfl dX4_does_68 ?_
      refine y_get hM hC hMI.1 rfl rfl (by decide +kernel) 8 ⟨by decide, rfl, rfl, rfl⟩ (by decide +kernel) (congrArg (fun q => some (va_rf q)) (hMI.2 8 (by decide)).2) dX4_does_69 ?_
      refine W.eq (g2 := F0 m 72 ls [.ref (ad 28 0), .int (iI (z)), .ref (ad 39 0)]) rfl ?_
      refine y_iload_n hM hl 2 rfl rfl dX4_does_72 ?_
      refine y_lald hM hC (hMI.2 8 (by decide)).1 rfl ⟨by omega, by omega⟩ (by decide) (x := T 28 0 (T 31 0 (z).toNat).toNat) (by simp [up, zrT]) dX4_does_73 ?_
      refine y_iload hM hl 0 rfl dX4_does_74 ?_
      refine y_i2l hM (by constructor <;> omega) dX4_does_76 ?_
      refine y_lmul hM dX4_does_77 ?_
      refine y_ldc2 hM (v := 1000) (1000) (by decide) (by decide +kernel) dX4_does_78 ?_
      refine y_ldiv hM ⟨by omega, by omega, by omega, by omega⟩ dX4_does_81 ?_
      refine y_last hM hC (hMI.2 19 (by decide)).1 (fun _ _ => rfl) ⟨by omega, by omega⟩ (by decide) dX4_does_82 (fun H locs hC => ?_)
      refine y_aload_n hM hl 3 rfl rfl dX4_does_83 ?_
      refine y_get hM hC hMI.1 rfl rfl (by decide +kernel) 8 ⟨by decide, rfl, rfl, rfl⟩ (by decide +kernel) (congrArg (fun q => some (va_rf q)) (hMI.2 8 (by decide)).2) dX4_does_84 ?_
      refine W.eq (g2 := F0 m 87 ls [.ref (ad 28 0)]) rfl ?_
      refine y_iload_n hM hl 2 rfl rfl dX4_does_87 ?_
      refine y_lconst hM 0 (by decide) dX4_does_88 ?_
      refine y_last hM hC (hMI.2 8 (by decide)).1 (fun _ _ => rfl) ⟨by omega, by omega⟩ (by decide) dX4_does_89 (fun H locs hC => ?_)
      refine y_aload_n hM hl 3 rfl rfl dX4_does_90 ?_
      refine y_get hM hC hMI.1 rfl rfl (by decide +kernel) 15 ⟨by decide, rfl, rfl, rfl⟩ (by decide +kernel) (congrArg (fun q => some (va_rf q)) (hMI.2 15 (by decide)).2) dX4_does_91 ?_
      refine W.eq (g2 := F0 m 94 ls [.ref (ad 35 0)]) rfl ?_
      refine y_iload_n hM hl 4 rfl rfl dX4_does_94 ?_
      refine y_aload_n hM hl 3 rfl rfl dX4_does_95 ?_
      refine y_get hM hC hMI.1 rfl rfl (by decide +kernel) 1 ⟨by decide, rfl, rfl, rfl⟩ (by decide +kernel) (congrArg (fun q => some (Value.int (iI q))) (show (up (up (up T 38 0 ((z).toNat) (T 28 0 (T 31 0 (z).toNat).toNat)) 39 0 ((z).toNat) (((T 28 0 (T 31 0 (z).toNat).toNat) * (T 12 0 5)) / (1000))) 28 0 ((T 31 0 (z).toNat).toNat) (0)) 12 0 1 = T 12 0 1 from by simp [up, zrT])) dX4_does_96 ?_
      refine y_iast hM hC (hMI.2 15 (by decide)).1 (fun _ _ => rfl) ⟨by omega, by omega⟩ (by decide) dX4_does_99 (fun H locs hC => ?_)
      refine lv_goto (tgt := 145) hM.1 hM.2.1 dX4_does_100 (by decide) ?_
      refine y_aload_n hM hl 3 rfl rfl dX4_does_145 ?_
      refine y_get hM hC hMI.1 rfl rfl (by decide +kernel) 16 ⟨by decide, rfl, rfl, rfl⟩ (by decide +kernel) (congrArg (fun q => some (va_rf q)) (hMI.2 16 (by decide)).2) dX4_does_146 ?_
      refine W.eq (g2 := F0 m 149 ls [.ref (ad 36 0)]) rfl ?_
      refine y_iload_n hM hl 4 rfl rfl dX4_does_149 ?_
      refine lv_dup2_11 hM.1 hM.2.1 dX4_does_150 rfl rfl ?_
      refine y_iald hM hC (hMI.2 16 (by decide)).1 rfl ⟨by omega, by omega⟩ (by decide) (x := T 36 0 (z).toNat) (by simp [up, zrT]) dX4_does_151 ?_
      refine y_aload_n hM hl 3 rfl rfl dX4_does_152 ?_
      refine y_get hM hC hMI.1 rfl rfl (by decide +kernel) 13 ⟨by decide, rfl, rfl, rfl⟩ (by decide +kernel) (congrArg (fun q => some (va_rf q)) (hMI.2 13 (by decide)).2) dX4_does_153 ?_
      refine W.eq (g2 := F0 m 156 ls [.ref (ad 33 0), .int (iI (T 36 0 (z).toNat)), .int (iI (z)), .ref (ad 36 0)]) rfl ?_
      refine y_iload_n hM hl 4 rfl rfl dX4_does_156 ?_
      refine y_iald hM hC (hMI.2 13 (by decide)).1 rfl ⟨by omega, by omega⟩ (by decide) (x := T 33 0 (z).toNat) (by simp [up, zrT]) dX4_does_157 ?_
      refine y_iconst hM dX4_does_158 ?_
      refine y_icmp_ne hM (by constructor <;> omega) (by constructor <;> omega) (tgt := 166) dX4_does_159 (by decide) (fun c_159 => ?_) (fun c_159 => False.elim (by omega))
      refine y_iload hM hl 1 rfl dX4_does_166 ?_
      refine y_iadd hM dX4_does_168 ?_
      refine y_iast hM hC (hMI.2 16 (by decide)).1 (fun _ _ => rfl) ⟨by omega, by omega⟩ (by decide) dX4_does_169 (fun H locs hC => ?_)
      refine y_aload_n hM hl 3 rfl rfl dX4_does_170 ?_
      refine y_get hM hC hMI.1 rfl rfl (by decide +kernel) 17 ⟨by decide, rfl, rfl, rfl⟩ (by decide +kernel) (congrArg (fun q => some (va_rf q)) (hMI.2 17 (by decide)).2) dX4_does_171 ?_
      refine W.eq (g2 := F0 m 174 ls [.ref (ad 37 0)]) rfl ?_
      refine y_iload_n hM hl 4 rfl rfl dX4_does_174 ?_
      refine lv_dup2_11 hM.1 hM.2.1 dX4_does_175 rfl rfl ?_
      refine y_iald hM hC (hMI.2 17 (by decide)).1 rfl ⟨by omega, by omega⟩ (by decide) (x := T 37 0 (z).toNat) (by simp [up, zrT]) dX4_does_176 ?_
      refine y_iload hM hl 1 rfl dX4_does_177 ?_
      refine y_iadd hM dX4_does_179 ?_
      refine y_iast hM hC (hMI.2 17 (by decide)).1 (fun _ _ => rfl) ⟨by omega, by omega⟩ (by decide) dX4_does_180 (fun H locs hC => ?_)
      refine y_aload_n hM hl 3 rfl rfl dX4_does_181 ?_
      refine y_get hM hC hMI.1 rfl rfl (by decide +kernel) 14 ⟨by decide, rfl, rfl, rfl⟩ (by decide +kernel) (congrArg (fun q => some (va_rf q)) (hMI.2 14 (by decide)).2) dX4_does_182 ?_
      refine W.eq (g2 := F0 m 185 ls [.ref (ad 34 0)]) rfl ?_
      refine y_iload_n hM hl 4 rfl rfl dX4_does_185 ?_
      refine y_aload_n hM hl 3 rfl rfl dX4_does_186 ?_
      refine y_get hM hC hMI.1 rfl rfl (by decide +kernel) 1 ⟨by decide, rfl, rfl, rfl⟩ (by decide +kernel) (congrArg (fun q => some (Value.int (iI q))) (show (up (up (up (up (up (up T 38 0 ((z).toNat) (T 28 0 (T 31 0 (z).toNat).toNat)) 39 0 ((z).toNat) (((T 28 0 (T 31 0 (z).toNat).toNat) * (T 12 0 5)) / (1000))) 28 0 ((T 31 0 (z).toNat).toNat) (0)) 35 0 ((z).toNat) (T 12 0 1)) 36 0 ((z).toNat) ((T 36 0 (z).toNat) + (r_9))) 37 0 ((z).toNat) ((T 37 0 (z).toNat) + (r_9))) 12 0 1 = T 12 0 1 from by simp [up, zrT])) dX4_does_187 ?_
      refine y_iast hM hC (hMI.2 14 (by decide)).1 (fun _ _ => rfl) ⟨by omega, by omega⟩ (by decide) dX4_does_190 (fun H locs hC => ?_)
      refine y_aload_n hM hl 3 rfl rfl dX4_does_191 ?_
      refine y_get hM hC hMI.1 rfl rfl (by decide +kernel) 13 ⟨by decide, rfl, rfl, rfl⟩ (by decide +kernel) (congrArg (fun q => some (va_rf q)) (hMI.2 13 (by decide)).2) dX4_does_192 ?_
      refine W.eq (g2 := F0 m 195 ls [.ref (ad 33 0)]) rfl ?_
      refine y_iload_n hM hl 4 rfl rfl dX4_does_195 ?_
      refine lv_dup2_11 hM.1 hM.2.1 dX4_does_196 rfl rfl ?_
      refine y_iald hM hC (hMI.2 13 (by decide)).1 rfl ⟨by omega, by omega⟩ (by decide) (x := T 33 0 (z).toNat) (by simp [up, zrT]) dX4_does_197 ?_
      refine y_iconst hM dX4_does_198 ?_
      refine y_iadd hM dX4_does_199 ?_
      refine y_iast hM hC (hMI.2 13 (by decide)).1 (fun _ _ => rfl) ⟨by omega, by omega⟩ (by decide) dX4_does_200 (fun H locs hC => ?_)
      refine y_iload hM hl 1 rfl dX4_does_201 ?_
      exact y_iret hM hr hlk hC ⟨_, rfl, h_9, (by unfold mdoe mend; rw [if_pos c_21, if_neg (show ¬ T 33 0 z.toNat = 2 by omega)]; unfold msel mprF moF; rw [if_neg c_25, ← h_9])⟩ (Nat.le_of_ble_eq_true rfl) (Nat.le_of_ble_eq_true rfl) dX4_does_203
