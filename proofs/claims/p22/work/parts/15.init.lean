theorem notin_app {ks : KK} {x y : Nat × Nat} (h : x ∉ ks) (hne : x ≠ y) : x ∉ ks ++ [y] := fun q => by
  rcases List.mem_append.mp q with q | q
  · exact h q
  · exact hne (List.mem_singleton.mp q)
abbrev K0 : KK := [(0, 0), (1, 0), (2, 0), (9, 0), (9, 1), (9, 2), (9, 3), (9, 4), (3, 0), (4, 0), (5, 0), (6, 0), (7, 0), (8, 0), (6, 1), (7, 1), (8, 1), (6, 2), (7, 2), (8, 2), (6, 3), (7, 3), (8, 3), (6, 4), (7, 4), (8, 4)]
def InitC (ad : AD) (T : TT) (P : PP) : Prop := FI K0 ad P ∧ RK K0 ad P ∧ (T 0 0 5 = 0 ∧ T 0 0 6 = 1000 ∧ T 0 0 7 = 0 ∧ T 0 0 8 = 0) ∧ (∀ p : Nat, p < 5 → T 6 p 2 = 0 ∧ (∀ j, T 7 p j = 0) ∧ T 8 p 0 = 1000 ∧ (∀ j, T 9 p j = 0) ∧ T 6 p 3 = 0 ∧ T 6 p 4 = 1) ∧ (∀ j, T 3 0 j = 0) ∧ (∀ i, P 4 0 i = none) ∧ (∀ i, P 5 0 i = none)

set_option maxRecDepth 100000 in
set_option maxHeartbeats 8000000 in
theorem c_PriceRow_init (l : Launch) (hfl : l.stackTraces = false) (G : GG) (b0 : Nat) (ks : KK) (ad : AD) (T : TT) (P : PP) (i : Nat) (hk : (6, i) ∈ ks) (hf7 : (7, i) ∉ ks) (hf8 : (8, i) ∉ ks) : vx_Met l yX1_init wsX1_init (rmX 1 2 122 12) (va_Pc [.ref (ad 6 i)] (Ok G b0 (ks, ad, T, P))) (Qr (fun v u1 => ∃ q1 q2 : Nat, v = none ∧ u1 = ((ks ++ [(7, i)]) ++ [(8, i)], upA (upA ad 7 i q1) 8 i q2, up (up (up (zrT (zrT T 7 i) 8 i) 6 i 4 1) 6 i 3 0) 8 i 0 1000, upP (zrP (upP (zrP P 7 i) 6 i 0 (some q1)) 8 i) 6 i 1 (some q2))) G b0) (Xr (noX) G b0) 2 122 (Wx b0) := by
  refine vx_ofW (cc := cX1_init) (maxL := 1) (ret := none) (by decide +kernel) rfl ?_
  intro p e s m args below meth c s₁ B hml hto hv
  obtain ⟨rfl, hok⟩ := hv
  have hM : CallFix p m c cX1_init 1 s _ wsX1_init RX1 := ⟨B.exec, B.bytes, hml, findClass_of_methodNamed B.named, atoms_spec (ws := wsX1_init) B.pre⟩
  have hr := B.returns
  have hlk := B.notSynchronized
  have hC := hok.cur
  have hin2 : meth.name = "<init>" := (name_of_methodNamed B.named B.method).1
  have hl := lv_entry ([.ref (ad 6 i)]) (n := 1) (Nat.le_of_ble_eq_true rfl)
  rw [lg_entry_eq]
  generalize (lg_sl ([.ref (ad 6 i)]) ++ List.replicate (1 - (lg_sl ([.ref (ad 6 i)])).length) Slot.unset).toArray = ls at hl ⊢
  have hl : lv_has ls 1 [(0, .ref (ad 6 i))] := hl
  refine y_aload_n hM hl 0 rfl rfl dX1_init_0 ?_
  refine W.objInit hM.1 hM.2.1 hM.2.2.2.1 (hM.2.2.2.2 (.methodLink RX1 3 objectInit) (by decide +kernel)) (hM.2.2.2.2 (.instanceMethod objectInit) (by decide +kernel)) (hM.2.2.2.2 (.code objectInit ⟨#[0xb1]⟩ 1 none) (by decide +kernel)) rfl (by rw [hM.2.2.1]; exact hl.1) rfl dX1_init_1 (Nat.le_of_ble_eq_true rfl) (Nat.le_of_ble_eq_true rfl) ?_
  refine W.eq (g2 := F0 m 4 ls []) rfl ?_
  refine y_aload_n hM hl 0 rfl rfl dX1_init_4 ?_
  refine y_bipush hM dX1_init_5 (by decide) ?_
  refine y_newI hM hC (n := 61) (t := 7) (i := i) hf7 (fun _ _ => rfl) (by decide) (by decide +kernel) ⟨(Nat.le_of_ble_eq_true rfl), (Nat.le_of_ble_eq_true rfl)⟩ dX1_init_7 (fun q1 H hC => ?_)
  obtain ⟨ad1, had1⟩ : ∃ a : AD, a = upA ad 7 i q1 := ⟨_, rfl⟩
  rw [← had1] at hC
  have e1_0 : ad1 6 i = ad 6 i := by rw [had1, upA_ne (fun h => absurd h.1 (by decide))]
  have hl : lv_has ls 1 [(0, .ref (ad1 6 i))] := by rw [e1_0]; exact hl
  rw [← had1]
  refine W.eq (g2 := F0 m 9 ls [.ref (ad1 7 i), .ref (ad1 6 i)]) (by rw [e1_0]; try rfl) ?_
  have hk1 := List.mem_append_left [(7, i)] hk
  refine y_putF hM hin2 hC hk1 rfl rfl (by decide +kernel) tyX1 tyX1_ok nmX1 0 ⟨by decide, rfl, rfl, rfl, rfl, rfl⟩ (by decide +kernel) (ty := (.array .int)) (by decide +kernel) rfl rfl (Nat.le_of_ble_eq_true rfl) (T' := (zrT T 7 i)) (P' := (upP (zrP P 7 i) 6 i 0 (some (ad1 7 i)))) (cF_upP rfl) (fun _ _ _ => rfl) (fun _ _ h => upP_ne h) dX1_init_9 (fun H locs hC => ?_)
  refine y_aload_n hM hl 0 rfl rfl dX1_init_12 ?_
  refine y_bipush hM dX1_init_13 (by decide) ?_
  refine y_newI hM hC (n := 61) (t := 8) (i := i) (notin_app hf8 (by simp)) (fun _ _ => rfl) (by decide) (by decide +kernel) ⟨(Nat.le_of_ble_eq_true rfl), (Nat.le_of_ble_eq_true rfl)⟩ dX1_init_15 (fun q2 H hC => ?_)
  obtain ⟨ad2, had2⟩ : ∃ a : AD, a = upA ad1 8 i q2 := ⟨_, rfl⟩
  rw [← had2] at hC
  have e2_0 : ad2 6 i = ad1 6 i := by rw [had2, upA_ne (fun h => absurd h.1 (by decide))]
  have hl : lv_has ls 1 [(0, .ref (ad2 6 i))] := by rw [e2_0]; exact hl
  rw [← had2]
  refine W.eq (g2 := F0 m 17 ls [.ref (ad2 8 i), .ref (ad2 6 i)]) (by rw [e2_0]; try rfl) ?_
  have hk2 := List.mem_append_left [(8, i)] hk1
  refine y_putF hM hin2 hC hk2 rfl rfl (by decide +kernel) tyX1 tyX1_ok nmX1 1 ⟨by decide, rfl, rfl, rfl, rfl, rfl⟩ (by decide +kernel) (ty := (.array .int)) (by decide +kernel) rfl rfl (Nat.le_of_ble_eq_true rfl) (T' := (zrT (zrT T 7 i) 8 i)) (P' := (upP (zrP (upP (zrP P 7 i) 6 i 0 (some (ad1 7 i))) 8 i) 6 i 1 (some (ad2 8 i)))) (cF_upP rfl) (fun _ _ _ => rfl) (fun _ _ h => upP_ne h) dX1_init_17 (fun H locs hC => ?_)
  refine y_aload_n hM hl 0 rfl rfl dX1_init_20 ?_
  refine y_iconst hM dX1_init_21 ?_
  refine y_put hM hC hk2 rfl rfl (by decide +kernel) tyX1 tyX1_ok nmX1 2 ⟨by decide, rfl, rfl, rfl, rfl⟩ (by decide +kernel) (ty := .int) (by decide +kernel) rfl rfl (Nat.le_of_ble_eq_true rfl) (T' := (up (zrT (zrT T 7 i) 8 i) 6 i 4 (1))) (P' := (upP (zrP (upP (zrP P 7 i) 6 i 0 (some (ad1 7 i))) 8 i) 6 i 1 (some (ad2 8 i)))) (cF_up rfl) (fun _ _ h => up_ne h) (fun _ _ _ => rfl) dX1_init_22 (fun H locs hC => ?_)
  refine y_aload_n hM hl 0 rfl rfl dX1_init_25 ?_
  refine y_iconst hM dX1_init_26 ?_
  refine y_put hM hC hk2 rfl rfl (by decide +kernel) tyX1 tyX1_ok nmX1 3 ⟨by decide, rfl, rfl, rfl, rfl⟩ (by decide +kernel) (ty := .int) (by decide +kernel) rfl rfl (Nat.le_of_ble_eq_true rfl) (T' := (up (up (zrT (zrT T 7 i) 8 i) 6 i 4 (1)) 6 i 3 (0))) (P' := (upP (zrP (upP (zrP P 7 i) 6 i 0 (some (ad1 7 i))) 8 i) 6 i 1 (some (ad2 8 i)))) (cF_up rfl) (fun _ _ h => up_ne h) (fun _ _ _ => rfl) dX1_init_27 (fun H locs hC => ?_)
  refine y_aload_n hM hl 0 rfl rfl dX1_init_30 ?_
  refine y_get hM hC hk2 rfl rfl (by decide +kernel) 1 ⟨by decide, rfl, rfl, rfl⟩ (by decide +kernel) (congrArg (fun q => some (va_rf q)) (show (upP (zrP (upP (zrP P 7 i) 6 i 0 (some (ad1 7 i))) 8 i) 6 i 1 (some (ad2 8 i))) 6 i 1 = some (ad2 8 i) from by simp [upP])) dX1_init_31 ?_
  refine W.eq (g2 := F0 m 34 ls [.ref (ad2 8 i)]) rfl ?_
  refine y_iconst hM dX1_init_34 ?_
  refine y_sipush hM dX1_init_35 (by decide) ?_
  refine y_iast hM hC (List.mem_append_right _ List.mem_cons_self) (fun _ _ => rfl) ⟨by omega, by omega⟩ (by decide) dX1_init_38 (fun H locs hC => ?_)
  exact y_vret hM hr hlk hC ⟨q1, q2, rfl, (by rw [had2, had1, upA_s, upA_s]; rfl)⟩ (Nat.le_of_ble_eq_true rfl) (Nat.le_of_ble_eq_true rfl) dX1_init_39

set_option maxRecDepth 100000 in
set_option maxHeartbeats 8000000 in
theorem c_FundMoves_init (l : Launch) (hfl : l.stackTraces = false) (G : GG) (b0 : Nat) (ad : AD) (T : TT) (P : PP)  : vx_Met l yX3_init wsX3_init (rmX 2 25 710 32) (va_Pc [.ref (ad 0 0)] (Ok G b0 ([(0, 0)], ad, T, P))) (Qr (fun v u1 => v = none ∧ ∃ (ad1 : AD) (T1 : TT) (P1 : PP), u1 = (K0, ad1, T1, P1) ∧ ad1 0 0 = ad 0 0 ∧ InitC ad1 T1 P1) G b0) (Xr (noX) G b0) 25 710 (Wx b0) := by
  refine vx_ofW (cc := cX3_init) (maxL := 2) (ret := none) (by decide +kernel) rfl ?_
  intro p e s m args below meth c s₁ B hml hto hv
  obtain ⟨rfl, hok⟩ := hv
  have hM : CallFix p m c cX3_init 2 s _ wsX3_init RX3 := ⟨B.exec, B.bytes, hml, findClass_of_methodNamed B.named, atoms_spec (ws := wsX3_init) B.pre⟩
  have hr := B.returns
  have hlk := B.notSynchronized
  have hC := hok.cur
  have hin2 : meth.name = "<init>" := (name_of_methodNamed B.named B.method).1
  have hl := lv_entry ([.ref (ad 0 0)]) (n := 2) (Nat.le_of_ble_eq_true rfl)
  rw [lg_entry_eq]
  generalize (lg_sl ([.ref (ad 0 0)]) ++ List.replicate (2 - (lg_sl ([.ref (ad 0 0)])).length) Slot.unset).toArray = ls at hl ⊢
  have hl : lv_has ls 2 [(0, .ref (ad 0 0))] := hl
  refine y_aload_n hM hl 0 rfl rfl dX3_init_0 ?_
  refine W.objInit hM.1 hM.2.1 hM.2.2.2.1 (hM.2.2.2.2 (.methodLink RX3 1 objectInit) (by decide +kernel)) (hM.2.2.2.2 (.instanceMethod objectInit) (by decide +kernel)) (hM.2.2.2.2 (.code objectInit ⟨#[0xb1]⟩ 1 none) (by decide +kernel)) rfl (by rw [hM.2.2.1]; exact hl.1) rfl dX3_init_1 (Nat.le_of_ble_eq_true rfl) (Nat.le_of_ble_eq_true rfl) ?_
  refine W.eq (g2 := F0 m 4 ls []) rfl ?_
  refine y_aload_n hM hl 0 rfl rfl dX3_init_4 ?_
  refine y_iconst hM dX3_init_5 ?_
  refine y_newQ hM hC (n := 5) (t := 1) (i := 0) (C := RX1) 0 (by decide) (by decide +kernel) rfl (fun _ _ => rfl) (by decide) (by decide +kernel) ⟨(Nat.le_of_ble_eq_true rfl), (Nat.le_of_ble_eq_true rfl)⟩ dX3_init_6 (fun q1 H hC => ?_)
  obtain ⟨ad1, had1⟩ : ∃ a : AD, a = upA ad 1 0 q1 := ⟨_, rfl⟩
  rw [← had1] at hC
  have e1_0 : ad1 0 0 = ad 0 0 := by rw [had1, upA_ne (fun h => absurd h.1 (by decide))]
  have hl : lv_has ls 2 [(0, .ref (ad1 0 0))] := by rw [e1_0]; exact hl
  rw [← had1]
  refine W.eq (g2 := F0 m 9 ls [.ref (ad1 1 0), .ref (ad1 0 0)]) (by rw [e1_0]; try rfl) ?_
  refine y_putF hM hin2 hC (by decide) rfl rfl (by decide +kernel) tyX3 tyX3_ok nmX3 0 ⟨by decide, rfl, rfl, rfl, rfl, rfl⟩ (by decide +kernel) (ty := (.array (.object "FundMoves$PriceRow"))) (by decide +kernel) rfl rfl (Nat.le_of_ble_eq_true rfl) (T' := (zrT T 1 0)) (P' := (upP (zrP P 1 0) 0 0 0 (some (ad1 1 0)))) (cF_upP rfl) (fun _ _ _ => rfl) (fun _ _ h => upP_ne h) dX3_init_9 (fun H locs hC => ?_)
  refine y_aload_n hM hl 0 rfl rfl dX3_init_12 ?_
  refine y_iconst hM dX3_init_13 ?_
  refine y_iconst hM dX3_init_14 ?_
  refine y_mna hM hC (by decide) (fun i => by simp) ⟨(by decide +kernel), (by decide +kernel)⟩ ⟨(Nat.le_of_ble_eq_true rfl), (Nat.le_of_ble_eq_true rfl)⟩ dX3_init_15 (fun qm rm9 H hC => ?_)
  unfold mnA at hC
  obtain ⟨ad2, had2⟩ : ∃ a : AD, a = upA (upA (upA (upA (upA (upA ad1 2 0 qm) 9 0 (rm9 0)) 9 1 (rm9 1)) 9 2 (rm9 2)) 9 3 (rm9 3)) 9 4 (rm9 4) := ⟨_, rfl⟩
  rw [← had2] at hC
  have e2_0 : ad2 0 0 = ad1 0 0 := by rw [had2, upA_ne (fun h => absurd h.1 (by decide)), upA_ne (fun h => absurd h.1 (by decide)), upA_ne (fun h => absurd h.1 (by decide)), upA_ne (fun h => absurd h.1 (by decide)), upA_ne (fun h => absurd h.1 (by decide)), upA_ne (fun h => absurd h.1 (by decide))]
  have hl : lv_has ls 2 [(0, .ref (ad2 0 0))] := by rw [e2_0]; exact hl
  have em_2 : qm = ad2 2 0 := by rw [had2]; simp [upA]
  refine W.eq (g2 := F0 m 19 ls [.ref (ad2 2 0), .ref (ad2 0 0)]) (by rw [em_2, e2_0]; try rfl) ?_
  refine y_putF hM hin2 hC (by decide) rfl rfl (by decide +kernel) tyX3 tyX3_ok nmX3 1 ⟨by decide, rfl, rfl, rfl, rfl, rfl⟩ (by decide +kernel) (ty := (.array (.array .long))) (by decide +kernel) rfl rfl (Nat.le_of_ble_eq_true rfl) (T' := (mnT (zrT T 1 0))) (P' := (upP (mnQ (upP (zrP P 1 0) 0 0 0 (some (ad1 1 0))) rm9) 0 0 1 (some (ad2 2 0)))) (cF_upP rfl) (fun _ _ _ => rfl) (fun _ _ h => upP_ne h) dX3_init_19 (fun H locs hC => ?_)
  refine y_aload_n hM hl 0 rfl rfl dX3_init_22 ?_
  refine y_iconst hM dX3_init_23 ?_
  refine y_newJ hM hC (n := 5) (t := 3) (i := 0) (by decide) (fun _ _ => rfl) (by decide) (by decide +kernel) ⟨(Nat.le_of_ble_eq_true rfl), (Nat.le_of_ble_eq_true rfl)⟩ dX3_init_24 (fun q3 H hC => ?_)
  obtain ⟨ad3, had3⟩ : ∃ a : AD, a = upA ad2 3 0 q3 := ⟨_, rfl⟩
  rw [← had3] at hC
  have e3_0 : ad3 0 0 = ad2 0 0 := by rw [had3, upA_ne (fun h => absurd h.1 (by decide))]
  have hl : lv_has ls 2 [(0, .ref (ad3 0 0))] := by rw [e3_0]; exact hl
  rw [← had3]
  refine W.eq (g2 := F0 m 26 ls [.ref (ad3 3 0), .ref (ad3 0 0)]) (by rw [e3_0]; try rfl) ?_
  refine y_putF hM hin2 hC (by decide) rfl rfl (by decide +kernel) tyX3 tyX3_ok nmX3 2 ⟨by decide, rfl, rfl, rfl, rfl, rfl⟩ (by decide +kernel) (ty := (.array .long)) (by decide +kernel) rfl rfl (Nat.le_of_ble_eq_true rfl) (T' := (zrT (mnT (zrT T 1 0)) 3 0)) (P' := (upP (zrP (upP (mnQ (upP (zrP P 1 0) 0 0 0 (some (ad1 1 0))) rm9) 0 0 1 (some (ad2 2 0))) 3 0) 0 0 2 (some (ad3 3 0)))) (cF_upP rfl) (fun _ _ _ => rfl) (fun _ _ h => upP_ne h) dX3_init_26 (fun H locs hC => ?_)
  refine y_aload_n hM hl 0 rfl rfl dX3_init_29 ?_
  refine y_bipush hM dX3_init_30 (by decide) ?_
  refine y_newQ hM hC (n := 10) (t := 4) (i := 0) (C := RX2) 3 (by decide) (by decide +kernel) rfl (fun _ _ => rfl) (by decide) (by decide +kernel) ⟨(Nat.le_of_ble_eq_true rfl), (Nat.le_of_ble_eq_true rfl)⟩ dX3_init_32 (fun q4 H hC => ?_)
  obtain ⟨ad4, had4⟩ : ∃ a : AD, a = upA ad3 4 0 q4 := ⟨_, rfl⟩
  rw [← had4] at hC
  have e4_0 : ad4 0 0 = ad3 0 0 := by rw [had4, upA_ne (fun h => absurd h.1 (by decide))]
  have hl : lv_has ls 2 [(0, .ref (ad4 0 0))] := by rw [e4_0]; exact hl
  rw [← had4]
  refine W.eq (g2 := F0 m 35 ls [.ref (ad4 4 0), .ref (ad4 0 0)]) (by rw [e4_0]; try rfl) ?_
  refine y_putF hM hin2 hC (by decide) rfl rfl (by decide +kernel) tyX3 tyX3_ok nmX3 3 ⟨by decide, rfl, rfl, rfl, rfl, rfl⟩ (by decide +kernel) (ty := (.array (.object "FundMoves$Saver"))) (by decide +kernel) rfl rfl (Nat.le_of_ble_eq_true rfl) (T' := (zrT (zrT (mnT (zrT T 1 0)) 3 0) 4 0)) (P' := (upP (zrP (upP (zrP (upP (mnQ (upP (zrP P 1 0) 0 0 0 (some (ad1 1 0))) rm9) 0 0 1 (some (ad2 2 0))) 3 0) 0 0 2 (some (ad3 3 0))) 4 0) 0 0 3 (some (ad4 4 0)))) (cF_upP rfl) (fun _ _ _ => rfl) (fun _ _ h => upP_ne h) dX3_init_35 (fun H locs hC => ?_)
  refine y_aload_n hM hl 0 rfl rfl dX3_init_38 ?_
  refine y_bipush hM dX3_init_39 (by decide) ?_
  refine y_newQ hM hC (n := 30) (t := 5) (i := 0) (C := RX0) 4 (by decide) (by decide +kernel) rfl (fun _ _ => rfl) (by decide) (by decide +kernel) ⟨(Nat.le_of_ble_eq_true rfl), (Nat.le_of_ble_eq_true rfl)⟩ dX3_init_41 (fun q5 H hC => ?_)
  obtain ⟨ad5, had5⟩ : ∃ a : AD, a = upA ad4 5 0 q5 := ⟨_, rfl⟩
  rw [← had5] at hC
  have e5_0 : ad5 0 0 = ad4 0 0 := by rw [had5, upA_ne (fun h => absurd h.1 (by decide))]
  have hl : lv_has ls 2 [(0, .ref (ad5 0 0))] := by rw [e5_0]; exact hl
  rw [← had5]
  refine W.eq (g2 := F0 m 44 ls [.ref (ad5 5 0), .ref (ad5 0 0)]) (by rw [e5_0]; try rfl) ?_
  refine y_putF hM hin2 hC (by decide) rfl rfl (by decide +kernel) tyX3 tyX3_ok nmX3 4 ⟨by decide, rfl, rfl, rfl, rfl, rfl⟩ (by decide +kernel) (ty := (.array (.object "FundMoves$Order"))) (by decide +kernel) rfl rfl (Nat.le_of_ble_eq_true rfl) (T' := (zrT (zrT (zrT (mnT (zrT T 1 0)) 3 0) 4 0) 5 0)) (P' := (upP (zrP (upP (zrP (upP (zrP (upP (mnQ (upP (zrP P 1 0) 0 0 0 (some (ad1 1 0))) rm9) 0 0 1 (some (ad2 2 0))) 3 0) 0 0 2 (some (ad3 3 0))) 4 0) 0 0 3 (some (ad4 4 0))) 5 0) 0 0 4 (some (ad5 5 0)))) (cF_upP rfl) (fun _ _ _ => rfl) (fun _ _ h => upP_ne h) dX3_init_44 (fun H locs hC => ?_)
  refine y_aload_n hM hl 0 rfl rfl dX3_init_47 ?_
  refine y_iconst hM dX3_init_48 ?_
  refine y_put hM hC (by decide) rfl rfl (by decide +kernel) tyX3 tyX3_ok nmX3 5 ⟨by decide, rfl, rfl, rfl, rfl⟩ (by decide +kernel) (ty := .int) (by decide +kernel) rfl rfl (Nat.le_of_ble_eq_true rfl) (T' := (up (zrT (zrT (zrT (mnT (zrT T 1 0)) 3 0) 4 0) 5 0) 0 0 5 (0))) (P' := (upP (zrP (upP (zrP (upP (zrP (upP (mnQ (upP (zrP P 1 0) 0 0 0 (some (ad1 1 0))) rm9) 0 0 1 (some (ad2 2 0))) 3 0) 0 0 2 (some (ad3 3 0))) 4 0) 0 0 3 (some (ad4 4 0))) 5 0) 0 0 4 (some (ad5 5 0)))) (cF_up rfl) (fun _ _ h => up_ne h) (fun _ _ _ => rfl) dX3_init_49 (fun H locs hC => ?_)
  refine y_aload_n hM hl 0 rfl rfl dX3_init_52 ?_
  refine y_sipush hM dX3_init_53 (by decide) ?_
  refine y_put hM hC (by decide) rfl rfl (by decide +kernel) tyX3 tyX3_ok nmX3 6 ⟨by decide, rfl, rfl, rfl, rfl⟩ (by decide +kernel) (ty := .int) (by decide +kernel) rfl rfl (Nat.le_of_ble_eq_true rfl) (T' := (up (up (zrT (zrT (zrT (mnT (zrT T 1 0)) 3 0) 4 0) 5 0) 0 0 5 (0)) 0 0 6 (1000))) (P' := (upP (zrP (upP (zrP (upP (zrP (upP (mnQ (upP (zrP P 1 0) 0 0 0 (some (ad1 1 0))) rm9) 0 0 1 (some (ad2 2 0))) 3 0) 0 0 2 (some (ad3 3 0))) 4 0) 0 0 3 (some (ad4 4 0))) 5 0) 0 0 4 (some (ad5 5 0)))) (cF_up rfl) (fun _ _ h => up_ne h) (fun _ _ _ => rfl) dX3_init_56 (fun H locs hC => ?_)
  refine y_aload_n hM hl 0 rfl rfl dX3_init_59 ?_
  refine y_iconst hM dX3_init_60 ?_
  refine y_put hM hC (by decide) rfl rfl (by decide +kernel) tyX3 tyX3_ok nmX3 7 ⟨by decide, rfl, rfl, rfl, rfl⟩ (by decide +kernel) (ty := .int) (by decide +kernel) rfl rfl (Nat.le_of_ble_eq_true rfl) (T' := (up (up (up (zrT (zrT (zrT (mnT (zrT T 1 0)) 3 0) 4 0) 5 0) 0 0 5 (0)) 0 0 6 (1000)) 0 0 7 (0))) (P' := (upP (zrP (upP (zrP (upP (zrP (upP (mnQ (upP (zrP P 1 0) 0 0 0 (some (ad1 1 0))) rm9) 0 0 1 (some (ad2 2 0))) 3 0) 0 0 2 (some (ad3 3 0))) 4 0) 0 0 3 (some (ad4 4 0))) 5 0) 0 0 4 (some (ad5 5 0)))) (cF_up rfl) (fun _ _ h => up_ne h) (fun _ _ _ => rfl) dX3_init_61 (fun H locs hC => ?_)
  refine y_aload_n hM hl 0 rfl rfl dX3_init_64 ?_
  refine y_iconst hM dX3_init_65 ?_
  refine y_put hM hC (by decide) rfl rfl (by decide +kernel) tyX3 tyX3_ok nmX3 8 ⟨by decide, rfl, rfl, rfl, rfl⟩ (by decide +kernel) (ty := .int) (by decide +kernel) rfl rfl (Nat.le_of_ble_eq_true rfl) (T' := (up (up (up (up (zrT (zrT (zrT (mnT (zrT T 1 0)) 3 0) 4 0) 5 0) 0 0 5 (0)) 0 0 6 (1000)) 0 0 7 (0)) 0 0 8 (0))) (P' := (upP (zrP (upP (zrP (upP (zrP (upP (mnQ (upP (zrP P 1 0) 0 0 0 (some (ad1 1 0))) rm9) 0 0 1 (some (ad2 2 0))) 3 0) 0 0 2 (some (ad3 3 0))) 4 0) 0 0 3 (some (ad4 4 0))) 5 0) 0 0 4 (some (ad5 5 0)))) (cF_up rfl) (fun _ _ h => up_ne h) (fun _ _ _ => rfl) dX3_init_66 (fun H locs hC => ?_)
  refine y_iconst hM dX3_init_69 ?_
  refine lv_istore_n (lv' := [(1, .int (iI (0))), (0, .ref (ad5 0 0))]) hM.1 hM.2.1 dX3_init_70 rfl hl (by decide) rfl (fun ls hl => ?_)
  refine y_iload_n hM hl 0 rfl rfl dX3_init_71 ?_
  refine y_iconst hM dX3_init_72 ?_
  refine y_icmp_ge hM (by constructor <;> omega) (by constructor <;> omega) (tgt := 95) dX3_init_73 (by decide) (fun c_73 => False.elim (by omega)) (fun c_73 => ?_)
  refine y_aload_n hM hl 1 rfl rfl dX3_init_76 ?_
  refine y_get hM hC (by decide) rfl rfl (by decide +kernel) 0 ⟨by decide, rfl, rfl, rfl⟩ (by decide +kernel) (congrArg (fun q => some (va_rf q)) (show (upP (zrP (upP (zrP (upP (zrP (upP (mnQ (upP (zrP P 1 0) 0 0 0 (some (ad1 1 0))) rm9) 0 0 1 (some (ad2 2 0))) 3 0) 0 0 2 (some (ad3 3 0))) 4 0) 0 0 3 (some (ad4 4 0))) 5 0) 0 0 4 (some (ad5 5 0))) 0 0 0 = some (ad5 1 0) from by simp [upP, zrP, mnP, had5, had4, had3, had2, had1, upA])) dX3_init_77 ?_
  refine W.eq (g2 := F0 m 80 ls [.ref (ad5 1 0)]) rfl ?_
  refine y_iload_n hM hl 0 rfl rfl dX3_init_80 ?_
  refine y_new hM hC (t := 6) (i := 0) (by decide) rfl (by decide +kernel) tyX1 tyX1_ok ⟨(by decide +kernel), (by decide +kernel), (by decide +kernel)⟩ (fs := [.null, .null, .int (iI 0), .int (iI 0)]) (fun j hj => by rcases (show j = 0 ∨ j = 1 ∨ j = 2 ∨ j = 3 by omega) with rfl | rfl | rfl | rfl <;> rfl) rfl ⟨(Nat.le_of_ble_eq_true rfl), (Nat.le_of_ble_eq_true rfl)⟩ dX3_init_81 (fun q6 H hC => ?_)
  obtain ⟨ad6, had6⟩ : ∃ a : AD, a = upA ad5 6 0 q6 := ⟨_, rfl⟩
  rw [← had6] at hC
  have e6_0 : ad6 0 0 = ad5 0 0 := by rw [had6, upA_ne (fun h => absurd h.1 (by decide))]
  have e6_1 : ad6 1 0 = ad5 1 0 := by rw [had6, upA_ne (fun h => absurd h.1 (by decide))]
  have hl : lv_has ls 2 [(1, .int (iI (0))), (0, .ref (ad6 0 0))] := by rw [e6_0]; exact hl
  rw [← had6]
  refine W.eq (g2 := F0 m 84 ls [.ref (ad6 6 0), .int (iI (0)), .ref (ad6 1 0)]) (by rw [e6_1]; try rfl) ?_
  refine lv_dup hM.1 hM.2.1 dX3_init_84 rfl ?_
  refine y_callI hM hC (c_PriceRow_init l hfl G b0 (((((mnK ([(0, 0)] ++ [(1, 0)])) ++ [(3, 0)]) ++ [(4, 0)]) ++ [(5, 0)]) ++ [(6, 0)]) ad6 (zrT (up (up (up (up (zrT (zrT (zrT (mnT (zrT T 1 0)) 3 0) 4 0) 5 0) 0 0 5 (0)) 0 0 6 (1000)) 0 0 7 (0)) 0 0 8 (0)) 6 0) (zrP (upP (zrP (upP (zrP (upP (zrP (upP (mnQ (upP (zrP P 1 0) 0 0 0 (some (ad1 1 0))) rm9) 0 0 1 (some (ad2 2 0))) 3 0) 0 0 2 (some (ad3 3 0))) 4 0) 0 0 3 (some (ad4 4 0))) 5 0) 0 0 4 (some (ad5 5 0))) 6 0) 0 (by decide) (by decide) (by decide)) (cwI 0 hM.2.2.2.2 gX3_init_X1_init rfl rfl rfl (hM.2.2.2.2 (.initialized RX1) (by decide +kernel)) (hM.2.2.2.2 (.methodLink RX3 49 yX1_init) (by decide +kernel)) (hM.2.2.2.2 (.instanceMethod yX1_init) (by decide +kernel)) rfl (by decide +kernel) ⟨(Nat.le_of_ble_eq_true rfl), (Nat.le_of_ble_eq_true rfl)⟩) rfl hl.1 rfl (Nat.le_of_ble_eq_true rfl) dX3_init_85 ⟨(Nat.le_of_ble_eq_true rfl), (Nat.le_of_ble_eq_true rfl)⟩ (fun v u1 H locs hp hC => ?_)
  obtain ⟨qa7, qb7, rfl, hu⟩ := hp; rw [hu] at hC; clear hu
  obtain ⟨ad7, had7⟩ : ∃ a : AD, a = upA (upA ad6 7 0 qa7) 8 0 qb7 := ⟨_, rfl⟩
  rw [← had7] at hC
  have e7_0 : ad7 0 0 = ad6 0 0 := by rw [had7, upA_ne (fun h => absurd h.1 (by decide)), upA_ne (fun h => absurd h.1 (by decide))]
  have e7_1 : ad7 6 0 = ad6 6 0 := by rw [had7, upA_ne (fun h => absurd h.1 (by decide)), upA_ne (fun h => absurd h.1 (by decide))]
  have e7_2 : ad7 1 0 = ad6 1 0 := by rw [had7, upA_ne (fun h => absurd h.1 (by decide)), upA_ne (fun h => absurd h.1 (by decide))]
  have hl : lv_has ls 2 [(1, .int (iI (0))), (0, .ref (ad7 0 0))] := by rw [e7_0]; exact hl
  refine W.eq (g2 := F0 m 88 ls [.ref (ad7 6 0), .int (iI (0)), .ref (ad7 1 0)]) (by rw [e7_1, e7_2]; try rfl) ?_
  refine y_aast hM hC 0 (by decide) (by decide) (fun _ _ => rfl) rfl rfl rfl ⟨by omega, by omega⟩ (by decide) dX3_init_88 (fun H locs hC => ?_)
  refine lv_iinc (v := iI ((0) + (1))) (lv' := [(1, .int (iI ((0) + (1)))), (0, .ref (ad7 0 0))]) hM.1 hM.2.1 dX3_init_89 hl (k := 0) rfl (iI_add _ _) (by decide) rfl (fun ls hl => ?_)
  refine lv_goto (tgt := 71) hM.1 hM.2.1 dX3_init_92 (by decide) ?_
  refine y_iload_n hM hl 0 rfl rfl dX3_init_71 ?_
  refine y_iconst hM dX3_init_72 ?_
  refine y_icmp_ge hM (by constructor <;> omega) (by constructor <;> omega) (tgt := 95) dX3_init_73 (by decide) (fun c_73 => False.elim (by omega)) (fun c_73 => ?_)
  refine y_aload_n hM hl 1 rfl rfl dX3_init_76 ?_
  refine y_get hM hC (by decide) rfl rfl (by decide +kernel) 0 ⟨by decide, rfl, rfl, rfl⟩ (by decide +kernel) (congrArg (fun q => some (va_rf q)) (show (upP (upP (zrP (upP (zrP (zrP (upP (zrP (upP (zrP (upP (zrP (upP (mnQ (upP (zrP P 1 0) 0 0 0 (some (ad1 1 0))) rm9) 0 0 1 (some (ad2 2 0))) 3 0) 0 0 2 (some (ad3 3 0))) 4 0) 0 0 3 (some (ad4 4 0))) 5 0) 0 0 4 (some (ad5 5 0))) 6 0) 7 0) 6 0 0 (some qa7)) 8 0) 6 0 1 (some qb7)) 1 0 (Int.toNat 0) (some (ad7 6 0))) 0 0 0 = some (ad7 1 0) from by simp [upP, zrP, mnP, had7, had6, had5, had4, had3, had2, had1, upA])) dX3_init_77 ?_
  refine W.eq (g2 := F0 m 80 ls [.ref (ad7 1 0)]) rfl ?_
  refine y_iload_n hM hl 0 rfl rfl dX3_init_80 ?_
  refine y_new hM hC (t := 6) (i := 1) (by decide) rfl (by decide +kernel) tyX1 tyX1_ok ⟨(by decide +kernel), (by decide +kernel), (by decide +kernel)⟩ (fs := [.null, .null, .int (iI 0), .int (iI 0)]) (fun j hj => by rcases (show j = 0 ∨ j = 1 ∨ j = 2 ∨ j = 3 by omega) with rfl | rfl | rfl | rfl <;> rfl) rfl ⟨(Nat.le_of_ble_eq_true rfl), (Nat.le_of_ble_eq_true rfl)⟩ dX3_init_81 (fun q8 H hC => ?_)
  obtain ⟨ad8, had8⟩ : ∃ a : AD, a = upA ad7 6 1 q8 := ⟨_, rfl⟩
  rw [← had8] at hC
  have e8_0 : ad8 0 0 = ad7 0 0 := by rw [had8, upA_ne (fun h => absurd h.1 (by decide))]
  have e8_1 : ad8 1 0 = ad7 1 0 := by rw [had8, upA_ne (fun h => absurd h.1 (by decide))]
  have hl : lv_has ls 2 [(1, .int (iI ((0) + (1)))), (0, .ref (ad8 0 0))] := by rw [e8_0]; exact hl
  rw [← had8]
  refine W.eq (g2 := F0 m 84 ls [.ref (ad8 6 1), .int (iI ((0) + (1))), .ref (ad8 1 0)]) (by rw [e8_1]; try rfl) ?_
  refine lv_dup hM.1 hM.2.1 dX3_init_84 rfl ?_
  refine y_callI hM hC (c_PriceRow_init l hfl G b0 ((((((((mnK ([(0, 0)] ++ [(1, 0)])) ++ [(3, 0)]) ++ [(4, 0)]) ++ [(5, 0)]) ++ [(6, 0)]) ++ [(7, 0)]) ++ [(8, 0)]) ++ [(6, 1)]) ad8 (zrT (up (up (up (zrT (zrT (zrT (up (up (up (up (zrT (zrT (zrT (mnT (zrT T 1 0)) 3 0) 4 0) 5 0) 0 0 5 (0)) 0 0 6 (1000)) 0 0 7 (0)) 0 0 8 (0)) 6 0) 7 0) 8 0) 6 0 4 1) 6 0 3 0) 8 0 0 1000) 6 1) (zrP (upP (upP (zrP (upP (zrP (zrP (upP (zrP (upP (zrP (upP (zrP (upP (mnQ (upP (zrP P 1 0) 0 0 0 (some (ad1 1 0))) rm9) 0 0 1 (some (ad2 2 0))) 3 0) 0 0 2 (some (ad3 3 0))) 4 0) 0 0 3 (some (ad4 4 0))) 5 0) 0 0 4 (some (ad5 5 0))) 6 0) 7 0) 6 0 0 (some qa7)) 8 0) 6 0 1 (some qb7)) 1 0 (Int.toNat 0) (some (ad7 6 0))) 6 1) 1 (by decide) (by decide) (by decide)) (cwI 0 hM.2.2.2.2 gX3_init_X1_init rfl rfl rfl (hM.2.2.2.2 (.initialized RX1) (by decide +kernel)) (hM.2.2.2.2 (.methodLink RX3 49 yX1_init) (by decide +kernel)) (hM.2.2.2.2 (.instanceMethod yX1_init) (by decide +kernel)) rfl (by decide +kernel) ⟨(Nat.le_of_ble_eq_true rfl), (Nat.le_of_ble_eq_true rfl)⟩) rfl hl.1 rfl (Nat.le_of_ble_eq_true rfl) dX3_init_85 ⟨(Nat.le_of_ble_eq_true rfl), (Nat.le_of_ble_eq_true rfl)⟩ (fun v u1 H locs hp hC => ?_)
  obtain ⟨qa9, qb9, rfl, hu⟩ := hp; rw [hu] at hC; clear hu
  obtain ⟨ad9, had9⟩ : ∃ a : AD, a = upA (upA ad8 7 1 qa9) 8 1 qb9 := ⟨_, rfl⟩
  rw [← had9] at hC
  have e9_0 : ad9 0 0 = ad8 0 0 := by rw [had9, upA_ne (fun h => absurd h.1 (by decide)), upA_ne (fun h => absurd h.1 (by decide))]
  have e9_1 : ad9 6 1 = ad8 6 1 := by rw [had9, upA_ne (fun h => absurd h.1 (by decide)), upA_ne (fun h => absurd h.1 (by decide))]
  have e9_2 : ad9 1 0 = ad8 1 0 := by rw [had9, upA_ne (fun h => absurd h.1 (by decide)), upA_ne (fun h => absurd h.1 (by decide))]
  have hl : lv_has ls 2 [(1, .int (iI ((0) + (1)))), (0, .ref (ad9 0 0))] := by rw [e9_0]; exact hl
  refine W.eq (g2 := F0 m 88 ls [.ref (ad9 6 1), .int (iI ((0) + (1))), .ref (ad9 1 0)]) (by rw [e9_1, e9_2]; try rfl) ?_
  refine y_aast hM hC 0 (by decide) (by decide) (fun _ _ => rfl) rfl rfl rfl ⟨by omega, by omega⟩ (by decide) dX3_init_88 (fun H locs hC => ?_)
  refine lv_iinc (v := iI (((0) + (1)) + (1))) (lv' := [(1, .int (iI (((0) + (1)) + (1)))), (0, .ref (ad9 0 0))]) hM.1 hM.2.1 dX3_init_89 hl (k := 0) rfl (iI_add _ _) (by decide) rfl (fun ls hl => ?_)
  refine lv_goto (tgt := 71) hM.1 hM.2.1 dX3_init_92 (by decide) ?_
  refine y_iload_n hM hl 0 rfl rfl dX3_init_71 ?_
  refine y_iconst hM dX3_init_72 ?_
  refine y_icmp_ge hM (by constructor <;> omega) (by constructor <;> omega) (tgt := 95) dX3_init_73 (by decide) (fun c_73 => False.elim (by omega)) (fun c_73 => ?_)
  refine y_aload_n hM hl 1 rfl rfl dX3_init_76 ?_
  refine y_get hM hC (by decide) rfl rfl (by decide +kernel) 0 ⟨by decide, rfl, rfl, rfl⟩ (by decide +kernel) (congrArg (fun q => some (va_rf q)) (show (upP (upP (zrP (upP (zrP (zrP (upP (upP (zrP (upP (zrP (zrP (upP (zrP (upP (zrP (upP (zrP (upP (mnQ (upP (zrP P 1 0) 0 0 0 (some (ad1 1 0))) rm9) 0 0 1 (some (ad2 2 0))) 3 0) 0 0 2 (some (ad3 3 0))) 4 0) 0 0 3 (some (ad4 4 0))) 5 0) 0 0 4 (some (ad5 5 0))) 6 0) 7 0) 6 0 0 (some qa7)) 8 0) 6 0 1 (some qb7)) 1 0 (Int.toNat 0) (some (ad7 6 0))) 6 1) 7 1) 6 1 0 (some qa9)) 8 1) 6 1 1 (some qb9)) 1 0 (Int.toNat ((0) + (1))) (some (ad9 6 1))) 0 0 0 = some (ad9 1 0) from by simp [upP, zrP, mnP, had9, had8, had7, had6, had5, had4, had3, had2, had1, upA])) dX3_init_77 ?_
  refine W.eq (g2 := F0 m 80 ls [.ref (ad9 1 0)]) rfl ?_
  refine y_iload_n hM hl 0 rfl rfl dX3_init_80 ?_
  refine y_new hM hC (t := 6) (i := 2) (by decide) rfl (by decide +kernel) tyX1 tyX1_ok ⟨(by decide +kernel), (by decide +kernel), (by decide +kernel)⟩ (fs := [.null, .null, .int (iI 0), .int (iI 0)]) (fun j hj => by rcases (show j = 0 ∨ j = 1 ∨ j = 2 ∨ j = 3 by omega) with rfl | rfl | rfl | rfl <;> rfl) rfl ⟨(Nat.le_of_ble_eq_true rfl), (Nat.le_of_ble_eq_true rfl)⟩ dX3_init_81 (fun q10 H hC => ?_)
  obtain ⟨ad10, had10⟩ : ∃ a : AD, a = upA ad9 6 2 q10 := ⟨_, rfl⟩
  rw [← had10] at hC
  have e10_0 : ad10 0 0 = ad9 0 0 := by rw [had10, upA_ne (fun h => absurd h.1 (by decide))]
  have e10_1 : ad10 1 0 = ad9 1 0 := by rw [had10, upA_ne (fun h => absurd h.1 (by decide))]
  have hl : lv_has ls 2 [(1, .int (iI (((0) + (1)) + (1)))), (0, .ref (ad10 0 0))] := by rw [e10_0]; exact hl
  rw [← had10]
  refine W.eq (g2 := F0 m 84 ls [.ref (ad10 6 2), .int (iI (((0) + (1)) + (1))), .ref (ad10 1 0)]) (by rw [e10_1]; try rfl) ?_
  refine lv_dup hM.1 hM.2.1 dX3_init_84 rfl ?_
  refine y_callI hM hC (c_PriceRow_init l hfl G b0 (((((((((((mnK ([(0, 0)] ++ [(1, 0)])) ++ [(3, 0)]) ++ [(4, 0)]) ++ [(5, 0)]) ++ [(6, 0)]) ++ [(7, 0)]) ++ [(8, 0)]) ++ [(6, 1)]) ++ [(7, 1)]) ++ [(8, 1)]) ++ [(6, 2)]) ad10 (zrT (up (up (up (zrT (zrT (zrT (up (up (up (zrT (zrT (zrT (up (up (up (up (zrT (zrT (zrT (mnT (zrT T 1 0)) 3 0) 4 0) 5 0) 0 0 5 (0)) 0 0 6 (1000)) 0 0 7 (0)) 0 0 8 (0)) 6 0) 7 0) 8 0) 6 0 4 1) 6 0 3 0) 8 0 0 1000) 6 1) 7 1) 8 1) 6 1 4 1) 6 1 3 0) 8 1 0 1000) 6 2) (zrP (upP (upP (zrP (upP (zrP (zrP (upP (upP (zrP (upP (zrP (zrP (upP (zrP (upP (zrP (upP (zrP (upP (mnQ (upP (zrP P 1 0) 0 0 0 (some (ad1 1 0))) rm9) 0 0 1 (some (ad2 2 0))) 3 0) 0 0 2 (some (ad3 3 0))) 4 0) 0 0 3 (some (ad4 4 0))) 5 0) 0 0 4 (some (ad5 5 0))) 6 0) 7 0) 6 0 0 (some qa7)) 8 0) 6 0 1 (some qb7)) 1 0 (Int.toNat 0) (some (ad7 6 0))) 6 1) 7 1) 6 1 0 (some qa9)) 8 1) 6 1 1 (some qb9)) 1 0 (Int.toNat ((0) + (1))) (some (ad9 6 1))) 6 2) 2 (by decide) (by decide) (by decide)) (cwI 0 hM.2.2.2.2 gX3_init_X1_init rfl rfl rfl (hM.2.2.2.2 (.initialized RX1) (by decide +kernel)) (hM.2.2.2.2 (.methodLink RX3 49 yX1_init) (by decide +kernel)) (hM.2.2.2.2 (.instanceMethod yX1_init) (by decide +kernel)) rfl (by decide +kernel) ⟨(Nat.le_of_ble_eq_true rfl), (Nat.le_of_ble_eq_true rfl)⟩) rfl hl.1 rfl (Nat.le_of_ble_eq_true rfl) dX3_init_85 ⟨(Nat.le_of_ble_eq_true rfl), (Nat.le_of_ble_eq_true rfl)⟩ (fun v u1 H locs hp hC => ?_)
  obtain ⟨qa11, qb11, rfl, hu⟩ := hp; rw [hu] at hC; clear hu
  obtain ⟨ad11, had11⟩ : ∃ a : AD, a = upA (upA ad10 7 2 qa11) 8 2 qb11 := ⟨_, rfl⟩
  rw [← had11] at hC
  have e11_0 : ad11 0 0 = ad10 0 0 := by rw [had11, upA_ne (fun h => absurd h.1 (by decide)), upA_ne (fun h => absurd h.1 (by decide))]
  have e11_1 : ad11 6 2 = ad10 6 2 := by rw [had11, upA_ne (fun h => absurd h.1 (by decide)), upA_ne (fun h => absurd h.1 (by decide))]
  have e11_2 : ad11 1 0 = ad10 1 0 := by rw [had11, upA_ne (fun h => absurd h.1 (by decide)), upA_ne (fun h => absurd h.1 (by decide))]
  have hl : lv_has ls 2 [(1, .int (iI (((0) + (1)) + (1)))), (0, .ref (ad11 0 0))] := by rw [e11_0]; exact hl
  refine W.eq (g2 := F0 m 88 ls [.ref (ad11 6 2), .int (iI (((0) + (1)) + (1))), .ref (ad11 1 0)]) (by rw [e11_1, e11_2]; try rfl) ?_
  refine y_aast hM hC 0 (by decide) (by decide) (fun _ _ => rfl) rfl rfl rfl ⟨by omega, by omega⟩ (by decide) dX3_init_88 (fun H locs hC => ?_)
  refine lv_iinc (v := iI ((((0) + (1)) + (1)) + (1))) (lv' := [(1, .int (iI ((((0) + (1)) + (1)) + (1)))), (0, .ref (ad11 0 0))]) hM.1 hM.2.1 dX3_init_89 hl (k := 0) rfl (iI_add _ _) (by decide) rfl (fun ls hl => ?_)
  refine lv_goto (tgt := 71) hM.1 hM.2.1 dX3_init_92 (by decide) ?_
  refine y_iload_n hM hl 0 rfl rfl dX3_init_71 ?_
  refine y_iconst hM dX3_init_72 ?_
  refine y_icmp_ge hM (by constructor <;> omega) (by constructor <;> omega) (tgt := 95) dX3_init_73 (by decide) (fun c_73 => False.elim (by omega)) (fun c_73 => ?_)
  refine y_aload_n hM hl 1 rfl rfl dX3_init_76 ?_
  refine y_get hM hC (by decide) rfl rfl (by decide +kernel) 0 ⟨by decide, rfl, rfl, rfl⟩ (by decide +kernel) (congrArg (fun q => some (va_rf q)) (show (upP (upP (zrP (upP (zrP (zrP (upP (upP (zrP (upP (zrP (zrP (upP (upP (zrP (upP (zrP (zrP (upP (zrP (upP (zrP (upP (zrP (upP (mnQ (upP (zrP P 1 0) 0 0 0 (some (ad1 1 0))) rm9) 0 0 1 (some (ad2 2 0))) 3 0) 0 0 2 (some (ad3 3 0))) 4 0) 0 0 3 (some (ad4 4 0))) 5 0) 0 0 4 (some (ad5 5 0))) 6 0) 7 0) 6 0 0 (some qa7)) 8 0) 6 0 1 (some qb7)) 1 0 (Int.toNat 0) (some (ad7 6 0))) 6 1) 7 1) 6 1 0 (some qa9)) 8 1) 6 1 1 (some qb9)) 1 0 (Int.toNat ((0) + (1))) (some (ad9 6 1))) 6 2) 7 2) 6 2 0 (some qa11)) 8 2) 6 2 1 (some qb11)) 1 0 (Int.toNat (((0) + (1)) + (1))) (some (ad11 6 2))) 0 0 0 = some (ad11 1 0) from by simp [upP, zrP, mnP, had11, had10, had9, had8, had7, had6, had5, had4, had3, had2, had1, upA])) dX3_init_77 ?_
  refine W.eq (g2 := F0 m 80 ls [.ref (ad11 1 0)]) rfl ?_
  refine y_iload_n hM hl 0 rfl rfl dX3_init_80 ?_
  refine y_new hM hC (t := 6) (i := 3) (by decide) rfl (by decide +kernel) tyX1 tyX1_ok ⟨(by decide +kernel), (by decide +kernel), (by decide +kernel)⟩ (fs := [.null, .null, .int (iI 0), .int (iI 0)]) (fun j hj => by rcases (show j = 0 ∨ j = 1 ∨ j = 2 ∨ j = 3 by omega) with rfl | rfl | rfl | rfl <;> rfl) rfl ⟨(Nat.le_of_ble_eq_true rfl), (Nat.le_of_ble_eq_true rfl)⟩ dX3_init_81 (fun q12 H hC => ?_)
  obtain ⟨ad12, had12⟩ : ∃ a : AD, a = upA ad11 6 3 q12 := ⟨_, rfl⟩
  rw [← had12] at hC
  have e12_0 : ad12 0 0 = ad11 0 0 := by rw [had12, upA_ne (fun h => absurd h.1 (by decide))]
  have e12_1 : ad12 1 0 = ad11 1 0 := by rw [had12, upA_ne (fun h => absurd h.1 (by decide))]
  have hl : lv_has ls 2 [(1, .int (iI ((((0) + (1)) + (1)) + (1)))), (0, .ref (ad12 0 0))] := by rw [e12_0]; exact hl
  rw [← had12]
  refine W.eq (g2 := F0 m 84 ls [.ref (ad12 6 3), .int (iI ((((0) + (1)) + (1)) + (1))), .ref (ad12 1 0)]) (by rw [e12_1]; try rfl) ?_
  refine lv_dup hM.1 hM.2.1 dX3_init_84 rfl ?_
  refine y_callI hM hC (c_PriceRow_init l hfl G b0 ((((((((((((((mnK ([(0, 0)] ++ [(1, 0)])) ++ [(3, 0)]) ++ [(4, 0)]) ++ [(5, 0)]) ++ [(6, 0)]) ++ [(7, 0)]) ++ [(8, 0)]) ++ [(6, 1)]) ++ [(7, 1)]) ++ [(8, 1)]) ++ [(6, 2)]) ++ [(7, 2)]) ++ [(8, 2)]) ++ [(6, 3)]) ad12 (zrT (up (up (up (zrT (zrT (zrT (up (up (up (zrT (zrT (zrT (up (up (up (zrT (zrT (zrT (up (up (up (up (zrT (zrT (zrT (mnT (zrT T 1 0)) 3 0) 4 0) 5 0) 0 0 5 (0)) 0 0 6 (1000)) 0 0 7 (0)) 0 0 8 (0)) 6 0) 7 0) 8 0) 6 0 4 1) 6 0 3 0) 8 0 0 1000) 6 1) 7 1) 8 1) 6 1 4 1) 6 1 3 0) 8 1 0 1000) 6 2) 7 2) 8 2) 6 2 4 1) 6 2 3 0) 8 2 0 1000) 6 3) (zrP (upP (upP (zrP (upP (zrP (zrP (upP (upP (zrP (upP (zrP (zrP (upP (upP (zrP (upP (zrP (zrP (upP (zrP (upP (zrP (upP (zrP (upP (mnQ (upP (zrP P 1 0) 0 0 0 (some (ad1 1 0))) rm9) 0 0 1 (some (ad2 2 0))) 3 0) 0 0 2 (some (ad3 3 0))) 4 0) 0 0 3 (some (ad4 4 0))) 5 0) 0 0 4 (some (ad5 5 0))) 6 0) 7 0) 6 0 0 (some qa7)) 8 0) 6 0 1 (some qb7)) 1 0 (Int.toNat 0) (some (ad7 6 0))) 6 1) 7 1) 6 1 0 (some qa9)) 8 1) 6 1 1 (some qb9)) 1 0 (Int.toNat ((0) + (1))) (some (ad9 6 1))) 6 2) 7 2) 6 2 0 (some qa11)) 8 2) 6 2 1 (some qb11)) 1 0 (Int.toNat (((0) + (1)) + (1))) (some (ad11 6 2))) 6 3) 3 (by decide) (by decide) (by decide)) (cwI 0 hM.2.2.2.2 gX3_init_X1_init rfl rfl rfl (hM.2.2.2.2 (.initialized RX1) (by decide +kernel)) (hM.2.2.2.2 (.methodLink RX3 49 yX1_init) (by decide +kernel)) (hM.2.2.2.2 (.instanceMethod yX1_init) (by decide +kernel)) rfl (by decide +kernel) ⟨(Nat.le_of_ble_eq_true rfl), (Nat.le_of_ble_eq_true rfl)⟩) rfl hl.1 rfl (Nat.le_of_ble_eq_true rfl) dX3_init_85 ⟨(Nat.le_of_ble_eq_true rfl), (Nat.le_of_ble_eq_true rfl)⟩ (fun v u1 H locs hp hC => ?_)
  obtain ⟨qa13, qb13, rfl, hu⟩ := hp; rw [hu] at hC; clear hu
  obtain ⟨ad13, had13⟩ : ∃ a : AD, a = upA (upA ad12 7 3 qa13) 8 3 qb13 := ⟨_, rfl⟩
  rw [← had13] at hC
  have e13_0 : ad13 0 0 = ad12 0 0 := by rw [had13, upA_ne (fun h => absurd h.1 (by decide)), upA_ne (fun h => absurd h.1 (by decide))]
  have e13_1 : ad13 6 3 = ad12 6 3 := by rw [had13, upA_ne (fun h => absurd h.1 (by decide)), upA_ne (fun h => absurd h.1 (by decide))]
  have e13_2 : ad13 1 0 = ad12 1 0 := by rw [had13, upA_ne (fun h => absurd h.1 (by decide)), upA_ne (fun h => absurd h.1 (by decide))]
  have hl : lv_has ls 2 [(1, .int (iI ((((0) + (1)) + (1)) + (1)))), (0, .ref (ad13 0 0))] := by rw [e13_0]; exact hl
  refine W.eq (g2 := F0 m 88 ls [.ref (ad13 6 3), .int (iI ((((0) + (1)) + (1)) + (1))), .ref (ad13 1 0)]) (by rw [e13_1, e13_2]; try rfl) ?_
  refine y_aast hM hC 0 (by decide) (by decide) (fun _ _ => rfl) rfl rfl rfl ⟨by omega, by omega⟩ (by decide) dX3_init_88 (fun H locs hC => ?_)
  refine lv_iinc (v := iI (((((0) + (1)) + (1)) + (1)) + (1))) (lv' := [(1, .int (iI (((((0) + (1)) + (1)) + (1)) + (1)))), (0, .ref (ad13 0 0))]) hM.1 hM.2.1 dX3_init_89 hl (k := 0) rfl (iI_add _ _) (by decide) rfl (fun ls hl => ?_)
  refine lv_goto (tgt := 71) hM.1 hM.2.1 dX3_init_92 (by decide) ?_
  refine y_iload_n hM hl 0 rfl rfl dX3_init_71 ?_
  refine y_iconst hM dX3_init_72 ?_
  refine y_icmp_ge hM (by constructor <;> omega) (by constructor <;> omega) (tgt := 95) dX3_init_73 (by decide) (fun c_73 => False.elim (by omega)) (fun c_73 => ?_)
  refine y_aload_n hM hl 1 rfl rfl dX3_init_76 ?_
  refine y_get hM hC (by decide) rfl rfl (by decide +kernel) 0 ⟨by decide, rfl, rfl, rfl⟩ (by decide +kernel) (congrArg (fun q => some (va_rf q)) (show (upP (upP (zrP (upP (zrP (zrP (upP (upP (zrP (upP (zrP (zrP (upP (upP (zrP (upP (zrP (zrP (upP (upP (zrP (upP (zrP (zrP (upP (zrP (upP (zrP (upP (zrP (upP (mnQ (upP (zrP P 1 0) 0 0 0 (some (ad1 1 0))) rm9) 0 0 1 (some (ad2 2 0))) 3 0) 0 0 2 (some (ad3 3 0))) 4 0) 0 0 3 (some (ad4 4 0))) 5 0) 0 0 4 (some (ad5 5 0))) 6 0) 7 0) 6 0 0 (some qa7)) 8 0) 6 0 1 (some qb7)) 1 0 (Int.toNat 0) (some (ad7 6 0))) 6 1) 7 1) 6 1 0 (some qa9)) 8 1) 6 1 1 (some qb9)) 1 0 (Int.toNat ((0) + (1))) (some (ad9 6 1))) 6 2) 7 2) 6 2 0 (some qa11)) 8 2) 6 2 1 (some qb11)) 1 0 (Int.toNat (((0) + (1)) + (1))) (some (ad11 6 2))) 6 3) 7 3) 6 3 0 (some qa13)) 8 3) 6 3 1 (some qb13)) 1 0 (Int.toNat ((((0) + (1)) + (1)) + (1))) (some (ad13 6 3))) 0 0 0 = some (ad13 1 0) from by simp [upP, zrP, mnP, had13, had12, had11, had10, had9, had8, had7, had6, had5, had4, had3, had2, had1, upA])) dX3_init_77 ?_
  refine W.eq (g2 := F0 m 80 ls [.ref (ad13 1 0)]) rfl ?_
  refine y_iload_n hM hl 0 rfl rfl dX3_init_80 ?_
  refine y_new hM hC (t := 6) (i := 4) (by decide) rfl (by decide +kernel) tyX1 tyX1_ok ⟨(by decide +kernel), (by decide +kernel), (by decide +kernel)⟩ (fs := [.null, .null, .int (iI 0), .int (iI 0)]) (fun j hj => by rcases (show j = 0 ∨ j = 1 ∨ j = 2 ∨ j = 3 by omega) with rfl | rfl | rfl | rfl <;> rfl) rfl ⟨(Nat.le_of_ble_eq_true rfl), (Nat.le_of_ble_eq_true rfl)⟩ dX3_init_81 (fun q14 H hC => ?_)
  obtain ⟨ad14, had14⟩ : ∃ a : AD, a = upA ad13 6 4 q14 := ⟨_, rfl⟩
  rw [← had14] at hC
  have e14_0 : ad14 0 0 = ad13 0 0 := by rw [had14, upA_ne (fun h => absurd h.1 (by decide))]
  have e14_1 : ad14 1 0 = ad13 1 0 := by rw [had14, upA_ne (fun h => absurd h.1 (by decide))]
  have hl : lv_has ls 2 [(1, .int (iI (((((0) + (1)) + (1)) + (1)) + (1)))), (0, .ref (ad14 0 0))] := by rw [e14_0]; exact hl
  rw [← had14]
  refine W.eq (g2 := F0 m 84 ls [.ref (ad14 6 4), .int (iI (((((0) + (1)) + (1)) + (1)) + (1))), .ref (ad14 1 0)]) (by rw [e14_1]; try rfl) ?_
  refine lv_dup hM.1 hM.2.1 dX3_init_84 rfl ?_
  refine y_callI hM hC (c_PriceRow_init l hfl G b0 (((((((((((((((((mnK ([(0, 0)] ++ [(1, 0)])) ++ [(3, 0)]) ++ [(4, 0)]) ++ [(5, 0)]) ++ [(6, 0)]) ++ [(7, 0)]) ++ [(8, 0)]) ++ [(6, 1)]) ++ [(7, 1)]) ++ [(8, 1)]) ++ [(6, 2)]) ++ [(7, 2)]) ++ [(8, 2)]) ++ [(6, 3)]) ++ [(7, 3)]) ++ [(8, 3)]) ++ [(6, 4)]) ad14 (zrT (up (up (up (zrT (zrT (zrT (up (up (up (zrT (zrT (zrT (up (up (up (zrT (zrT (zrT (up (up (up (zrT (zrT (zrT (up (up (up (up (zrT (zrT (zrT (mnT (zrT T 1 0)) 3 0) 4 0) 5 0) 0 0 5 (0)) 0 0 6 (1000)) 0 0 7 (0)) 0 0 8 (0)) 6 0) 7 0) 8 0) 6 0 4 1) 6 0 3 0) 8 0 0 1000) 6 1) 7 1) 8 1) 6 1 4 1) 6 1 3 0) 8 1 0 1000) 6 2) 7 2) 8 2) 6 2 4 1) 6 2 3 0) 8 2 0 1000) 6 3) 7 3) 8 3) 6 3 4 1) 6 3 3 0) 8 3 0 1000) 6 4) (zrP (upP (upP (zrP (upP (zrP (zrP (upP (upP (zrP (upP (zrP (zrP (upP (upP (zrP (upP (zrP (zrP (upP (upP (zrP (upP (zrP (zrP (upP (zrP (upP (zrP (upP (zrP (upP (mnQ (upP (zrP P 1 0) 0 0 0 (some (ad1 1 0))) rm9) 0 0 1 (some (ad2 2 0))) 3 0) 0 0 2 (some (ad3 3 0))) 4 0) 0 0 3 (some (ad4 4 0))) 5 0) 0 0 4 (some (ad5 5 0))) 6 0) 7 0) 6 0 0 (some qa7)) 8 0) 6 0 1 (some qb7)) 1 0 (Int.toNat 0) (some (ad7 6 0))) 6 1) 7 1) 6 1 0 (some qa9)) 8 1) 6 1 1 (some qb9)) 1 0 (Int.toNat ((0) + (1))) (some (ad9 6 1))) 6 2) 7 2) 6 2 0 (some qa11)) 8 2) 6 2 1 (some qb11)) 1 0 (Int.toNat (((0) + (1)) + (1))) (some (ad11 6 2))) 6 3) 7 3) 6 3 0 (some qa13)) 8 3) 6 3 1 (some qb13)) 1 0 (Int.toNat ((((0) + (1)) + (1)) + (1))) (some (ad13 6 3))) 6 4) 4 (by decide) (by decide) (by decide)) (cwI 0 hM.2.2.2.2 gX3_init_X1_init rfl rfl rfl (hM.2.2.2.2 (.initialized RX1) (by decide +kernel)) (hM.2.2.2.2 (.methodLink RX3 49 yX1_init) (by decide +kernel)) (hM.2.2.2.2 (.instanceMethod yX1_init) (by decide +kernel)) rfl (by decide +kernel) ⟨(Nat.le_of_ble_eq_true rfl), (Nat.le_of_ble_eq_true rfl)⟩) rfl hl.1 rfl (Nat.le_of_ble_eq_true rfl) dX3_init_85 ⟨(Nat.le_of_ble_eq_true rfl), (Nat.le_of_ble_eq_true rfl)⟩ (fun v u1 H locs hp hC => ?_)
  obtain ⟨qa15, qb15, rfl, hu⟩ := hp; rw [hu] at hC; clear hu
  obtain ⟨ad15, had15⟩ : ∃ a : AD, a = upA (upA ad14 7 4 qa15) 8 4 qb15 := ⟨_, rfl⟩
  rw [← had15] at hC
  have e15_0 : ad15 0 0 = ad14 0 0 := by rw [had15, upA_ne (fun h => absurd h.1 (by decide)), upA_ne (fun h => absurd h.1 (by decide))]
  have e15_1 : ad15 6 4 = ad14 6 4 := by rw [had15, upA_ne (fun h => absurd h.1 (by decide)), upA_ne (fun h => absurd h.1 (by decide))]
  have e15_2 : ad15 1 0 = ad14 1 0 := by rw [had15, upA_ne (fun h => absurd h.1 (by decide)), upA_ne (fun h => absurd h.1 (by decide))]
  have hl : lv_has ls 2 [(1, .int (iI (((((0) + (1)) + (1)) + (1)) + (1)))), (0, .ref (ad15 0 0))] := by rw [e15_0]; exact hl
  refine W.eq (g2 := F0 m 88 ls [.ref (ad15 6 4), .int (iI (((((0) + (1)) + (1)) + (1)) + (1))), .ref (ad15 1 0)]) (by rw [e15_1, e15_2]; try rfl) ?_
  refine y_aast hM hC 0 (by decide) (by decide) (fun _ _ => rfl) rfl rfl rfl ⟨by omega, by omega⟩ (by decide) dX3_init_88 (fun H locs hC => ?_)
  refine lv_iinc (v := iI ((((((0) + (1)) + (1)) + (1)) + (1)) + (1))) (lv' := [(1, .int (iI ((((((0) + (1)) + (1)) + (1)) + (1)) + (1)))), (0, .ref (ad15 0 0))]) hM.1 hM.2.1 dX3_init_89 hl (k := 0) rfl (iI_add _ _) (by decide) rfl (fun ls hl => ?_)
  refine lv_goto (tgt := 71) hM.1 hM.2.1 dX3_init_92 (by decide) ?_
  refine y_iload_n hM hl 0 rfl rfl dX3_init_71 ?_
  refine y_iconst hM dX3_init_72 ?_
  refine y_icmp_ge hM (by constructor <;> omega) (by constructor <;> omega) (tgt := 95) dX3_init_73 (by decide) (fun c_73 => ?_) (fun c_73 => False.elim (by omega))
  have hFI : FI K0 ad15 (upP (upP (zrP (upP (zrP (zrP (upP (upP (zrP (upP (zrP (zrP (upP (upP (zrP (upP (zrP (zrP (upP (upP (zrP (upP (zrP (zrP (upP (upP (zrP (upP (zrP (zrP (upP (zrP (upP (zrP (upP (zrP (upP (mnQ (upP (zrP P 1 0) 0 0 0 (some (ad1 1 0))) rm9) 0 0 1 (some (ad2 2 0))) 3 0) 0 0 2 (some (ad3 3 0))) 4 0) 0 0 3 (some (ad4 4 0))) 5 0) 0 0 4 (some (ad5 5 0))) 6 0) 7 0) 6 0 0 (some qa7)) 8 0) 6 0 1 (some qb7)) 1 0 (Int.toNat 0) (some (ad7 6 0))) 6 1) 7 1) 6 1 0 (some qa9)) 8 1) 6 1 1 (some qb9)) 1 0 (Int.toNat ((0) + (1))) (some (ad9 6 1))) 6 2) 7 2) 6 2 0 (some qa11)) 8 2) 6 2 1 (some qb11)) 1 0 (Int.toNat (((0) + (1)) + (1))) (some (ad11 6 2))) 6 3) 7 3) 6 3 0 (some qa13)) 8 3) 6 3 1 (some qb13)) 1 0 (Int.toNat ((((0) + (1)) + (1)) + (1))) (some (ad13 6 3))) 6 4) 7 4) 6 4 0 (some qa15)) 8 4) 6 4 1 (some qb15)) 1 0 (Int.toNat (((((0) + (1)) + (1)) + (1)) + (1))) (some (ad15 6 4))) := by
    refine ⟨by decide, by decide, by decide, by decide, by decide, by decide, ?_, ?_, ?_, ?_, ?_⟩ <;> simp [upP, zrP, mnP, had15, had14, had13, had12, had11, had10, had9, had8, had7, had6, had5, had4, had3, had2, had1, upA]
  have hRK : RK K0 ad15 (upP (upP (zrP (upP (zrP (zrP (upP (upP (zrP (upP (zrP (zrP (upP (upP (zrP (upP (zrP (zrP (upP (upP (zrP (upP (zrP (zrP (upP (upP (zrP (upP (zrP (zrP (upP (zrP (upP (zrP (upP (zrP (upP (mnQ (upP (zrP P 1 0) 0 0 0 (some (ad1 1 0))) rm9) 0 0 1 (some (ad2 2 0))) 3 0) 0 0 2 (some (ad3 3 0))) 4 0) 0 0 3 (some (ad4 4 0))) 5 0) 0 0 4 (some (ad5 5 0))) 6 0) 7 0) 6 0 0 (some qa7)) 8 0) 6 0 1 (some qb7)) 1 0 (Int.toNat 0) (some (ad7 6 0))) 6 1) 7 1) 6 1 0 (some qa9)) 8 1) 6 1 1 (some qb9)) 1 0 (Int.toNat ((0) + (1))) (some (ad9 6 1))) 6 2) 7 2) 6 2 0 (some qa11)) 8 2) 6 2 1 (some qb11)) 1 0 (Int.toNat (((0) + (1)) + (1))) (some (ad11 6 2))) 6 3) 7 3) 6 3 0 (some qa13)) 8 3) 6 3 1 (some qb13)) 1 0 (Int.toNat ((((0) + (1)) + (1)) + (1))) (some (ad13 6 3))) 6 4) 7 4) 6 4 0 (some qa15)) 8 4) 6 4 1 (some qb15)) 1 0 (Int.toNat (((((0) + (1)) + (1)) + (1)) + (1))) (some (ad15 6 4))) := by
    intro p hp
    rcases (show p = 0 ∨ p = 1 ∨ p = 2 ∨ p = 3 ∨ p = 4 by omega) with rfl | rfl | rfl | rfl | rfl <;> refine ⟨by decide, by decide, by decide, by decide, ?_, ?_, ?_, ?_⟩ <;> simp [upP, zrP, mnP, had15, had14, had13, had12, had11, had10, had9, had8, had7, had6, had5, had4, had3, had2, had1, upA]
  have hN : ∀ p : Nat, p < 5 → (up (up (up (zrT (zrT (zrT (up (up (up (zrT (zrT (zrT (up (up (up (zrT (zrT (zrT (up (up (up (zrT (zrT (zrT (up (up (up (zrT (zrT (zrT (up (up (up (up (zrT (zrT (zrT (mnT (zrT T 1 0)) 3 0) 4 0) 5 0) 0 0 5 (0)) 0 0 6 (1000)) 0 0 7 (0)) 0 0 8 (0)) 6 0) 7 0) 8 0) 6 0 4 1) 6 0 3 0) 8 0 0 1000) 6 1) 7 1) 8 1) 6 1 4 1) 6 1 3 0) 8 1 0 1000) 6 2) 7 2) 8 2) 6 2 4 1) 6 2 3 0) 8 2 0 1000) 6 3) 7 3) 8 3) 6 3 4 1) 6 3 3 0) 8 3 0 1000) 6 4) 7 4) 8 4) 6 4 4 1) 6 4 3 0) 8 4 0 1000) 6 p 2 = 0 ∧ (∀ j, (up (up (up (zrT (zrT (zrT (up (up (up (zrT (zrT (zrT (up (up (up (zrT (zrT (zrT (up (up (up (zrT (zrT (zrT (up (up (up (zrT (zrT (zrT (up (up (up (up (zrT (zrT (zrT (mnT (zrT T 1 0)) 3 0) 4 0) 5 0) 0 0 5 (0)) 0 0 6 (1000)) 0 0 7 (0)) 0 0 8 (0)) 6 0) 7 0) 8 0) 6 0 4 1) 6 0 3 0) 8 0 0 1000) 6 1) 7 1) 8 1) 6 1 4 1) 6 1 3 0) 8 1 0 1000) 6 2) 7 2) 8 2) 6 2 4 1) 6 2 3 0) 8 2 0 1000) 6 3) 7 3) 8 3) 6 3 4 1) 6 3 3 0) 8 3 0 1000) 6 4) 7 4) 8 4) 6 4 4 1) 6 4 3 0) 8 4 0 1000) 7 p j = 0) ∧ (up (up (up (zrT (zrT (zrT (up (up (up (zrT (zrT (zrT (up (up (up (zrT (zrT (zrT (up (up (up (zrT (zrT (zrT (up (up (up (zrT (zrT (zrT (up (up (up (up (zrT (zrT (zrT (mnT (zrT T 1 0)) 3 0) 4 0) 5 0) 0 0 5 (0)) 0 0 6 (1000)) 0 0 7 (0)) 0 0 8 (0)) 6 0) 7 0) 8 0) 6 0 4 1) 6 0 3 0) 8 0 0 1000) 6 1) 7 1) 8 1) 6 1 4 1) 6 1 3 0) 8 1 0 1000) 6 2) 7 2) 8 2) 6 2 4 1) 6 2 3 0) 8 2 0 1000) 6 3) 7 3) 8 3) 6 3 4 1) 6 3 3 0) 8 3 0 1000) 6 4) 7 4) 8 4) 6 4 4 1) 6 4 3 0) 8 4 0 1000) 8 p 0 = 1000 ∧ (∀ j, (up (up (up (zrT (zrT (zrT (up (up (up (zrT (zrT (zrT (up (up (up (zrT (zrT (zrT (up (up (up (zrT (zrT (zrT (up (up (up (zrT (zrT (zrT (up (up (up (up (zrT (zrT (zrT (mnT (zrT T 1 0)) 3 0) 4 0) 5 0) 0 0 5 (0)) 0 0 6 (1000)) 0 0 7 (0)) 0 0 8 (0)) 6 0) 7 0) 8 0) 6 0 4 1) 6 0 3 0) 8 0 0 1000) 6 1) 7 1) 8 1) 6 1 4 1) 6 1 3 0) 8 1 0 1000) 6 2) 7 2) 8 2) 6 2 4 1) 6 2 3 0) 8 2 0 1000) 6 3) 7 3) 8 3) 6 3 4 1) 6 3 3 0) 8 3 0 1000) 6 4) 7 4) 8 4) 6 4 4 1) 6 4 3 0) 8 4 0 1000) 9 p j = 0) ∧ (up (up (up (zrT (zrT (zrT (up (up (up (zrT (zrT (zrT (up (up (up (zrT (zrT (zrT (up (up (up (zrT (zrT (zrT (up (up (up (zrT (zrT (zrT (up (up (up (up (zrT (zrT (zrT (mnT (zrT T 1 0)) 3 0) 4 0) 5 0) 0 0 5 (0)) 0 0 6 (1000)) 0 0 7 (0)) 0 0 8 (0)) 6 0) 7 0) 8 0) 6 0 4 1) 6 0 3 0) 8 0 0 1000) 6 1) 7 1) 8 1) 6 1 4 1) 6 1 3 0) 8 1 0 1000) 6 2) 7 2) 8 2) 6 2 4 1) 6 2 3 0) 8 2 0 1000) 6 3) 7 3) 8 3) 6 3 4 1) 6 3 3 0) 8 3 0 1000) 6 4) 7 4) 8 4) 6 4 4 1) 6 4 3 0) 8 4 0 1000) 6 p 3 = 0 ∧ (up (up (up (zrT (zrT (zrT (up (up (up (zrT (zrT (zrT (up (up (up (zrT (zrT (zrT (up (up (up (zrT (zrT (zrT (up (up (up (zrT (zrT (zrT (up (up (up (up (zrT (zrT (zrT (mnT (zrT T 1 0)) 3 0) 4 0) 5 0) 0 0 5 (0)) 0 0 6 (1000)) 0 0 7 (0)) 0 0 8 (0)) 6 0) 7 0) 8 0) 6 0 4 1) 6 0 3 0) 8 0 0 1000) 6 1) 7 1) 8 1) 6 1 4 1) 6 1 3 0) 8 1 0 1000) 6 2) 7 2) 8 2) 6 2 4 1) 6 2 3 0) 8 2 0 1000) 6 3) 7 3) 8 3) 6 3 4 1) 6 3 3 0) 8 3 0 1000) 6 4) 7 4) 8 4) 6 4 4 1) 6 4 3 0) 8 4 0 1000) 6 p 4 = 1 := by
    intro p hp
    rcases (show p = 0 ∨ p = 1 ∨ p = 2 ∨ p = 3 ∨ p = 4 by omega) with rfl | rfl | rfl | rfl | rfl <;> refine ⟨?_, fun j => ?_, ?_, fun j => ?_, ?_, ?_⟩ <;> simp [up, zrT]
  have hAD : ad15 0 0 = ad 0 0 := by simp [had15, had14, had13, had12, had11, had10, had9, had8, had7, had6, had5, had4, had3, had2, had1, upA]
  exact y_vret hM hr hlk hC ⟨rfl, _, _, _, rfl, hAD, hFI, hRK, ⟨by simp [up, zrT], by simp [up, zrT], by simp [up, zrT], by simp [up, zrT]⟩, hN, (fun j => by simp [up, zrT]), (fun i => by simp [upP, zrP, mnP]), (fun i => by simp [upP, zrP, mnP])⟩ (Nat.le_of_ble_eq_true rfl) (Nat.le_of_ble_eq_true rfl) dX3_init_95
