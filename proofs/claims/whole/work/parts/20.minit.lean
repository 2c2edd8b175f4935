abbrev K1 : KK := (((((((((((((((((((K0 ++ [(12, 0)]) ++ [(22, 0)]) ++ [(23, 0)]) ++ [(24, 0)]) ++ [(27, 0)]) ++ [(28, 0)]) ++ [(29, 0)]) ++ [(31, 0)]) ++ [(32, 0)]) ++ [(33, 0)]) ++ [(34, 0)]) ++ [(35, 0)]) ++ [(36, 0)]) ++ [(37, 0)]) ++ [(38, 0)]) ++ [(39, 0)]) ++ [(40, 0)]) ++ [(41, 0)]) ++ [(42, 0)])
def InitM (ad : AD) (T : TT) (P : PP) (ad1 : AD) (T1 : TT) (P1 : PP) : Prop := MI K1 ad1 P1 ∧ (∀ t i : Nat, t < 13 → ad1 t i = ad t i) ∧ (∀ t i : Nat, t < 12 → T1 t i = T t i) ∧ (∀ t i : Nat, t < 12 → P1 t i = P t i) ∧ (T1 12 0 0 = 0 ∧ T1 12 0 1 = 0 ∧ T1 12 0 5 = 1000 ∧ T1 12 0 6 = 0 ∧ T1 12 0 10 = 0) ∧ (∀ p : Nat, p < 5 → T1 22 0 (2001 * p) = 1000 ∧ T1 23 0 p = 1 ∧ T1 24 0 p = 0) ∧ ∀ t ∈ [27, 28, 29, 31, 32, 33, 34, 35, 36, 37, 38, 39, 40, 41, 42], ∀ j : Nat, T1 t 0 j = 0

set_option maxRecDepth 100000 in
set_option maxHeartbeats 8000000 in
theorem c_M_init (l : Launch) (hfl : l.stackTraces = false) (G : GG) (b0 : Nat) (ad : AD) (T : TT) (P : PP) (hz12 : ∀ j : Nat, T 12 0 j = 0) : vx_Met l yX4_init wsX4_init (rmX 1 18 10375 12) (va_Pc [.ref (ad 12 0)] (Ok G b0 ((K0 ++ [(12, 0)]), ad, T, P))) (Qr (fun v u1 => v = none ∧ ∃ (ad1 : AD) (T1 : TT) (P1 : PP), u1 = (K1, ad1, T1, P1) ∧ InitM ad T P ad1 T1 P1) G b0) (Xr (noX) G b0) 18 10375 (Wx b0) := by
  refine vx_ofW (cc := cX4_init) (maxL := 2) (ret := none) (by decide +kernel) rfl ?_
  intro p e s m args below meth c s₁ B hml hto hv
  obtain ⟨rfl, hok⟩ := hv
  have hM : CallFix p m c cX4_init 2 s _ wsX4_init RX4 := ⟨B.exec, B.bytes, hml, findClass_of_methodNamed B.named, atoms_spec (ws := wsX4_init) B.pre⟩
  have hr := B.returns
  have hlk := B.notSynchronized
  have hC := hok.cur
  have hin2 : meth.name = "<init>" := (name_of_methodNamed B.named B.method).1
  have hl := lv_entry ([.ref (ad 12 0)]) (n := 2) (Nat.le_of_ble_eq_true rfl)
  rw [lg_entry_eq]
  generalize (lg_sl ([.ref (ad 12 0)]) ++ List.replicate (2 - (lg_sl ([.ref (ad 12 0)])).length) Slot.unset).toArray = ls at hl ⊢
  have hl : lv_has ls 2 [(0, .ref (ad 12 0))] := hl
  refine y_aload_n hM hl 0 rfl rfl dX4_init_0 ?_
  refine W.objInit hM.1 hM.2.1 hM.2.2.2.1 (hM.2.2.2.2 (.methodLink RX4 1 objectInit) (by decide +kernel)) (hM.2.2.2.2 (.instanceMethod objectInit) (by decide +kernel)) (hM.2.2.2.2 (.code objectInit ⟨#[0xb1]⟩ 1 none) (by decide +kernel)) rfl (by rw [hM.2.2.1]; exact hl.1) rfl dX4_init_1 (Nat.le_of_ble_eq_true rfl) (Nat.le_of_ble_eq_true rfl) ?_
  refine W.eq (g2 := F0 m 4 ls []) rfl ?_
  refine y_aload_n hM hl 0 rfl rfl dX4_init_4 ?_
  refine y_sipush hM dX4_init_5 (by decide) ?_
  refine y_newI hM hC (n := 10005) (t := 22) (i := 0) (by decide) (fun _ _ => rfl) (by decide) (by decide +kernel) ⟨(Nat.le_of_ble_eq_true rfl), (Nat.le_of_ble_eq_true rfl)⟩ dX4_init_8 (fun q1 H hC => ?_)
  obtain ⟨ad1, had1⟩ : ∃ a : AD, a = upA ad 22 0 q1 := ⟨_, rfl⟩
  rw [← had1] at hC
  have e1_0 : ad1 12 0 = ad 12 0 := by rw [had1, upA_ne (fun h => absurd h.1 (by decide))]
  have hl : lv_has ls 2 [(0, .ref (ad1 12 0))] := by rw [e1_0]; exact hl
  rw [← had1]
  refine W.eq (g2 := F0 m 10 ls [.ref (ad1 22 0), .ref (ad1 12 0)]) (by rw [e1_0]; try rfl) ?_
  refine y_putF hM hin2 hC (by decide) rfl rfl (by decide +kernel) tyX4 tyX4_ok nmX4 2 ⟨by decide, rfl, rfl, rfl, rfl, rfl⟩ (by decide +kernel) (ty := (.array .int)) (by decide +kernel) rfl rfl (Nat.le_of_ble_eq_true rfl) (T' := (zrT T 22 0)) (P' := (upP (zrP P 22 0) 12 0 2 (some (ad1 22 0)))) (cF_upP rfl) (fun _ _ _ => rfl) (fun _ _ h => upP_ne h) dX4_init_10 (fun H locs hC => ?_)
  refine y_aload_n hM hl 0 rfl rfl dX4_init_13 ?_
  refine y_iconst hM dX4_init_14 ?_
  refine y_newI hM hC (n := 5) (t := 23) (i := 0) (by decide) (fun _ _ => rfl) (by decide) (by decide +kernel) ⟨(Nat.le_of_ble_eq_true rfl), (Nat.le_of_ble_eq_true rfl)⟩ dX4_init_15 (fun q2 H hC => ?_)
  obtain ⟨ad2, had2⟩ : ∃ a : AD, a = upA ad1 23 0 q2 := ⟨_, rfl⟩
  rw [← had2] at hC
  have e2_0 : ad2 12 0 = ad1 12 0 := by rw [had2, upA_ne (fun h => absurd h.1 (by decide))]
  have hl : lv_has ls 2 [(0, .ref (ad2 12 0))] := by rw [e2_0]; exact hl
  rw [← had2]
  refine W.eq (g2 := F0 m 17 ls [.ref (ad2 23 0), .ref (ad2 12 0)]) (by rw [e2_0]; try rfl) ?_
  refine y_putF hM hin2 hC (by decide) rfl rfl (by decide +kernel) tyX4 tyX4_ok nmX4 3 ⟨by decide, rfl, rfl, rfl, rfl, rfl⟩ (by decide +kernel) (ty := (.array .int)) (by decide +kernel) rfl rfl (Nat.le_of_ble_eq_true rfl) (T' := (zrT (zrT T 22 0) 23 0)) (P' := (upP (zrP (upP (zrP P 22 0) 12 0 2 (some (ad1 22 0))) 23 0) 12 0 3 (some (ad2 23 0)))) (cF_upP rfl) (fun _ _ _ => rfl) (fun _ _ h => upP_ne h) dX4_init_17 (fun H locs hC => ?_)
  refine y_aload_n hM hl 0 rfl rfl dX4_init_20 ?_
  refine y_iconst hM dX4_init_21 ?_
  refine y_newI hM hC (n := 5) (t := 24) (i := 0) (by decide) (fun _ _ => rfl) (by decide) (by decide +kernel) ⟨(Nat.le_of_ble_eq_true rfl), (Nat.le_of_ble_eq_true rfl)⟩ dX4_init_22 (fun q3 H hC => ?_)
  obtain ⟨ad3, had3⟩ : ∃ a : AD, a = upA ad2 24 0 q3 := ⟨_, rfl⟩
  rw [← had3] at hC
  have e3_0 : ad3 12 0 = ad2 12 0 := by rw [had3, upA_ne (fun h => absurd h.1 (by decide))]
  have hl : lv_has ls 2 [(0, .ref (ad3 12 0))] := by rw [e3_0]; exact hl
  rw [← had3]
  refine W.eq (g2 := F0 m 24 ls [.ref (ad3 24 0), .ref (ad3 12 0)]) (by rw [e3_0]; try rfl) ?_
  refine y_putF hM hin2 hC (by decide) rfl rfl (by decide +kernel) tyX4 tyX4_ok nmX4 4 ⟨by decide, rfl, rfl, rfl, rfl, rfl⟩ (by decide +kernel) (ty := (.array .int)) (by decide +kernel) rfl rfl (Nat.le_of_ble_eq_true rfl) (T' := (zrT (zrT (zrT T 22 0) 23 0) 24 0)) (P' := (upP (zrP (upP (zrP (upP (zrP P 22 0) 12 0 2 (some (ad1 22 0))) 23 0) 12 0 3 (some (ad2 23 0))) 24 0) 12 0 4 (some (ad3 24 0)))) (cF_upP rfl) (fun _ _ _ => rfl) (fun _ _ h => upP_ne h) dX4_init_24 (fun H locs hC => ?_)
  refine y_aload_n hM hl 0 rfl rfl dX4_init_27 ?_
  refine y_sipush hM dX4_init_28 (by decide) ?_
  refine y_put hM hC (by decide) rfl rfl (by decide +kernel) tyX4 tyX4_ok nmX4 5 ⟨by decide, rfl, rfl, rfl, rfl⟩ (by decide +kernel) (ty := .int) (by decide +kernel) rfl rfl (Nat.le_of_ble_eq_true rfl) (T' := (up (zrT (zrT (zrT T 22 0) 23 0) 24 0) 12 0 5 (1000))) (P' := (upP (zrP (upP (zrP (upP (zrP P 22 0) 12 0 2 (some (ad1 22 0))) 23 0) 12 0 3 (some (ad2 23 0))) 24 0) 12 0 4 (some (ad3 24 0)))) (cF_up rfl) (fun _ _ h => up_ne h) (fun _ _ _ => rfl) dX4_init_31 (fun H locs hC => ?_)
  refine y_aload_n hM hl 0 rfl rfl dX4_init_34 ?_
  refine y_bipush hM dX4_init_35 (by decide) ?_
  refine y_newI hM hC (n := 10) (t := 27) (i := 0) (by decide) (fun _ _ => rfl) (by decide) (by decide +kernel) ⟨(Nat.le_of_ble_eq_true rfl), (Nat.le_of_ble_eq_true rfl)⟩ dX4_init_37 (fun q4 H hC => ?_)
  obtain ⟨ad4, had4⟩ : ∃ a : AD, a = upA ad3 27 0 q4 := ⟨_, rfl⟩
  rw [← had4] at hC
  have e4_0 : ad4 12 0 = ad3 12 0 := by rw [had4, upA_ne (fun h => absurd h.1 (by decide))]
  have hl : lv_has ls 2 [(0, .ref (ad4 12 0))] := by rw [e4_0]; exact hl
  rw [← had4]
  refine W.eq (g2 := F0 m 39 ls [.ref (ad4 27 0), .ref (ad4 12 0)]) (by rw [e4_0]; try rfl) ?_
  refine y_putF hM hin2 hC (by decide) rfl rfl (by decide +kernel) tyX4 tyX4_ok nmX4 7 ⟨by decide, rfl, rfl, rfl, rfl, rfl⟩ (by decide +kernel) (ty := (.array .int)) (by decide +kernel) rfl rfl (Nat.le_of_ble_eq_true rfl) (T' := (zrT (up (zrT (zrT (zrT T 22 0) 23 0) 24 0) 12 0 5 (1000)) 27 0)) (P' := (upP (zrP (upP (zrP (upP (zrP (upP (zrP P 22 0) 12 0 2 (some (ad1 22 0))) 23 0) 12 0 3 (some (ad2 23 0))) 24 0) 12 0 4 (some (ad3 24 0))) 27 0) 12 0 7 (some (ad4 27 0)))) (cF_upP rfl) (fun _ _ _ => rfl) (fun _ _ h => upP_ne h) dX4_init_39 (fun H locs hC => ?_)
  refine y_aload_n hM hl 0 rfl rfl dX4_init_42 ?_
  refine y_bipush hM dX4_init_43 (by decide) ?_
  refine y_newJ hM hC (n := 10) (t := 28) (i := 0) (by decide) (fun _ _ => rfl) (by decide) (by decide +kernel) ⟨(Nat.le_of_ble_eq_true rfl), (Nat.le_of_ble_eq_true rfl)⟩ dX4_init_45 (fun q5 H hC => ?_)
  obtain ⟨ad5, had5⟩ : ∃ a : AD, a = upA ad4 28 0 q5 := ⟨_, rfl⟩
  rw [← had5] at hC
  have e5_0 : ad5 12 0 = ad4 12 0 := by rw [had5, upA_ne (fun h => absurd h.1 (by decide))]
  have hl : lv_has ls 2 [(0, .ref (ad5 12 0))] := by rw [e5_0]; exact hl
  rw [← had5]
  refine W.eq (g2 := F0 m 47 ls [.ref (ad5 28 0), .ref (ad5 12 0)]) (by rw [e5_0]; try rfl) ?_
  refine y_putF hM hin2 hC (by decide) rfl rfl (by decide +kernel) tyX4 tyX4_ok nmX4 8 ⟨by decide, rfl, rfl, rfl, rfl, rfl⟩ (by decide +kernel) (ty := (.array .long)) (by decide +kernel) rfl rfl (Nat.le_of_ble_eq_true rfl) (T' := (zrT (zrT (up (zrT (zrT (zrT T 22 0) 23 0) 24 0) 12 0 5 (1000)) 27 0) 28 0)) (P' := (upP (zrP (upP (zrP (upP (zrP (upP (zrP (upP (zrP P 22 0) 12 0 2 (some (ad1 22 0))) 23 0) 12 0 3 (some (ad2 23 0))) 24 0) 12 0 4 (some (ad3 24 0))) 27 0) 12 0 7 (some (ad4 27 0))) 28 0) 12 0 8 (some (ad5 28 0)))) (cF_upP rfl) (fun _ _ _ => rfl) (fun _ _ h => upP_ne h) dX4_init_47 (fun H locs hC => ?_)
  refine y_aload_n hM hl 0 rfl rfl dX4_init_50 ?_
  refine y_bipush hM dX4_init_51 (by decide) ?_
  refine y_newZ hM hC (n := 10) (t := 29) (i := 0) (by decide) (fun _ _ => rfl) (by decide) (by decide +kernel) ⟨(Nat.le_of_ble_eq_true rfl), (Nat.le_of_ble_eq_true rfl)⟩ dX4_init_53 (fun q6 H hC => ?_)
  obtain ⟨ad6, had6⟩ : ∃ a : AD, a = upA ad5 29 0 q6 := ⟨_, rfl⟩
  rw [← had6] at hC
  have e6_0 : ad6 12 0 = ad5 12 0 := by rw [had6, upA_ne (fun h => absurd h.1 (by decide))]
  have hl : lv_has ls 2 [(0, .ref (ad6 12 0))] := by rw [e6_0]; exact hl
  rw [← had6]
  refine W.eq (g2 := F0 m 55 ls [.ref (ad6 29 0), .ref (ad6 12 0)]) (by rw [e6_0]; try rfl) ?_
  refine y_putF hM hin2 hC (by decide) rfl rfl (by decide +kernel) tyX4 tyX4_ok nmX4 9 ⟨by decide, rfl, rfl, rfl, rfl, rfl⟩ (by decide +kernel) (ty := (.array .boolean)) (by decide +kernel) rfl rfl (Nat.le_of_ble_eq_true rfl) (T' := (zrT (zrT (zrT (up (zrT (zrT (zrT T 22 0) 23 0) 24 0) 12 0 5 (1000)) 27 0) 28 0) 29 0)) (P' := (upP (zrP (upP (zrP (upP (zrP (upP (zrP (upP (zrP (upP (zrP P 22 0) 12 0 2 (some (ad1 22 0))) 23 0) 12 0 3 (some (ad2 23 0))) 24 0) 12 0 4 (some (ad3 24 0))) 27 0) 12 0 7 (some (ad4 27 0))) 28 0) 12 0 8 (some (ad5 28 0))) 29 0) 12 0 9 (some (ad6 29 0)))) (cF_upP rfl) (fun _ _ _ => rfl) (fun _ _ h => upP_ne h) dX4_init_55 (fun H locs hC => ?_)
  refine y_aload_n hM hl 0 rfl rfl dX4_init_58 ?_
  refine y_bipush hM dX4_init_59 (by decide) ?_
  refine y_newI hM hC (n := 30) (t := 31) (i := 0) (by decide) (fun _ _ => rfl) (by decide) (by decide +kernel) ⟨(Nat.le_of_ble_eq_true rfl), (Nat.le_of_ble_eq_true rfl)⟩ dX4_init_61 (fun q7 H hC => ?_)
  obtain ⟨ad7, had7⟩ : ∃ a : AD, a = upA ad6 31 0 q7 := ⟨_, rfl⟩
  rw [← had7] at hC
  have e7_0 : ad7 12 0 = ad6 12 0 := by rw [had7, upA_ne (fun h => absurd h.1 (by decide))]
  have hl : lv_has ls 2 [(0, .ref (ad7 12 0))] := by rw [e7_0]; exact hl
  rw [← had7]
  refine W.eq (g2 := F0 m 63 ls [.ref (ad7 31 0), .ref (ad7 12 0)]) (by rw [e7_0]; try rfl) ?_
  refine y_putF hM hin2 hC (by decide) rfl rfl (by decide +kernel) tyX4 tyX4_ok nmX4 11 ⟨by decide, rfl, rfl, rfl, rfl, rfl⟩ (by decide +kernel) (ty := (.array .int)) (by decide +kernel) rfl rfl (Nat.le_of_ble_eq_true rfl) (T' := (zrT (zrT (zrT (zrT (up (zrT (zrT (zrT T 22 0) 23 0) 24 0) 12 0 5 (1000)) 27 0) 28 0) 29 0) 31 0)) (P' := (upP (zrP (upP (zrP (upP (zrP (upP (zrP (upP (zrP (upP (zrP (upP (zrP P 22 0) 12 0 2 (some (ad1 22 0))) 23 0) 12 0 3 (some (ad2 23 0))) 24 0) 12 0 4 (some (ad3 24 0))) 27 0) 12 0 7 (some (ad4 27 0))) 28 0) 12 0 8 (some (ad5 28 0))) 29 0) 12 0 9 (some (ad6 29 0))) 31 0) 12 0 11 (some (ad7 31 0)))) (cF_upP rfl) (fun _ _ _ => rfl) (fun _ _ h => upP_ne h) dX4_init_63 (fun H locs hC => ?_)
  refine y_aload_n hM hl 0 rfl rfl dX4_init_66 ?_
  refine y_bipush hM dX4_init_67 (by decide) ?_
  refine y_newI hM hC (n := 30) (t := 32) (i := 0) (by decide) (fun _ _ => rfl) (by decide) (by decide +kernel) ⟨(Nat.le_of_ble_eq_true rfl), (Nat.le_of_ble_eq_true rfl)⟩ dX4_init_69 (fun q8 H hC => ?_)
  obtain ⟨ad8, had8⟩ : ∃ a : AD, a = upA ad7 32 0 q8 := ⟨_, rfl⟩
  rw [← had8] at hC
  have e8_0 : ad8 12 0 = ad7 12 0 := by rw [had8, upA_ne (fun h => absurd h.1 (by decide))]
  have hl : lv_has ls 2 [(0, .ref (ad8 12 0))] := by rw [e8_0]; exact hl
  rw [← had8]
  refine W.eq (g2 := F0 m 71 ls [.ref (ad8 32 0), .ref (ad8 12 0)]) (by rw [e8_0]; try rfl) ?_
  refine y_putF hM hin2 hC (by decide) rfl rfl (by decide +kernel) tyX4 tyX4_ok nmX4 12 ⟨by decide, rfl, rfl, rfl, rfl, rfl⟩ (by decide +kernel) (ty := (.array .int)) (by decide +kernel) rfl rfl (Nat.le_of_ble_eq_true rfl) (T' := (zrT (zrT (zrT (zrT (zrT (up (zrT (zrT (zrT T 22 0) 23 0) 24 0) 12 0 5 (1000)) 27 0) 28 0) 29 0) 31 0) 32 0)) (P' := (upP (zrP (upP (zrP (upP (zrP (upP (zrP (upP (zrP (upP (zrP (upP (zrP (upP (zrP P 22 0) 12 0 2 (some (ad1 22 0))) 23 0) 12 0 3 (some (ad2 23 0))) 24 0) 12 0 4 (some (ad3 24 0))) 27 0) 12 0 7 (some (ad4 27 0))) 28 0) 12 0 8 (some (ad5 28 0))) 29 0) 12 0 9 (some (ad6 29 0))) 31 0) 12 0 11 (some (ad7 31 0))) 32 0) 12 0 12 (some (ad8 32 0)))) (cF_upP rfl) (fun _ _ _ => rfl) (fun _ _ h => upP_ne h) dX4_init_71 (fun H locs hC => ?_)
  refine y_aload_n hM hl 0 rfl rfl dX4_init_74 ?_
  refine y_bipush hM dX4_init_75 (by decide) ?_
  refine y_newI hM hC (n := 30) (t := 33) (i := 0) (by decide) (fun _ _ => rfl) (by decide) (by decide +kernel) ⟨(Nat.le_of_ble_eq_true rfl), (Nat.le_of_ble_eq_true rfl)⟩ dX4_init_77 (fun q9 H hC => ?_)
  obtain ⟨ad9, had9⟩ : ∃ a : AD, a = upA ad8 33 0 q9 := ⟨_, rfl⟩
  rw [← had9] at hC
  have e9_0 : ad9 12 0 = ad8 12 0 := by rw [had9, upA_ne (fun h => absurd h.1 (by decide))]
  have hl : lv_has ls 2 [(0, .ref (ad9 12 0))] := by rw [e9_0]; exact hl
  rw [← had9]
  refine W.eq (g2 := F0 m 79 ls [.ref (ad9 33 0), .ref (ad9 12 0)]) (by rw [e9_0]; try rfl) ?_
  refine y_putF hM hin2 hC (by decide) rfl rfl (by decide +kernel) tyX4 tyX4_ok nmX4 13 ⟨by decide, rfl, rfl, rfl, rfl, rfl⟩ (by decide +kernel) (ty := (.array .int)) (by decide +kernel) rfl rfl (Nat.le_of_ble_eq_true rfl) (T' := (zrT (zrT (zrT (zrT (zrT (zrT (up (zrT (zrT (zrT T 22 0) 23 0) 24 0) 12 0 5 (1000)) 27 0) 28 0) 29 0) 31 0) 32 0) 33 0)) (P' := (upP (zrP (upP (zrP (upP (zrP (upP (zrP (upP (zrP (upP (zrP (upP (zrP (upP (zrP (upP (zrP P 22 0) 12 0 2 (some (ad1 22 0))) 23 0) 12 0 3 (some (ad2 23 0))) 24 0) 12 0 4 (some (ad3 24 0))) 27 0) 12 0 7 (some (ad4 27 0))) 28 0) 12 0 8 (some (ad5 28 0))) 29 0) 12 0 9 (some (ad6 29 0))) 31 0) 12 0 11 (some (ad7 31 0))) 32 0) 12 0 12 (some (ad8 32 0))) 33 0) 12 0 13 (some (ad9 33 0)))) (cF_upP rfl) (fun _ _ _ => rfl) (fun _ _ h => upP_ne h) dX4_init_79 (fun H locs hC => ?_)
  refine y_aload_n hM hl 0 rfl rfl dX4_init_82 ?_
  refine y_bipush hM dX4_init_83 (by decide) ?_
  refine y_newI hM hC (n := 30) (t := 34) (i := 0) (by decide) (fun _ _ => rfl) (by decide) (by decide +kernel) ⟨(Nat.le_of_ble_eq_true rfl), (Nat.le_of_ble_eq_true rfl)⟩ dX4_init_85 (fun q10 H hC => ?_)
  obtain ⟨ad10, had10⟩ : ∃ a : AD, a = upA ad9 34 0 q10 := ⟨_, rfl⟩
  rw [← had10] at hC
  have e10_0 : ad10 12 0 = ad9 12 0 := by rw [had10, upA_ne (fun h => absurd h.1 (by decide))]
  have hl : lv_has ls 2 [(0, .ref (ad10 12 0))] := by rw [e10_0]; exact hl
  rw [← had10]
  refine W.eq (g2 := F0 m 87 ls [.ref (ad10 34 0), .ref (ad10 12 0)]) (by rw [e10_0]; try rfl) ?_
  refine y_putF hM hin2 hC (by decide) rfl rfl (by decide +kernel) tyX4 tyX4_ok nmX4 14 ⟨by decide, rfl, rfl, rfl, rfl, rfl⟩ (by decide +kernel) (ty := (.array .int)) (by decide +kernel) rfl rfl (Nat.le_of_ble_eq_true rfl) (T' := (zrT (zrT (zrT (zrT (zrT (zrT (zrT (up (zrT (zrT (zrT T 22 0) 23 0) 24 0) 12 0 5 (1000)) 27 0) 28 0) 29 0) 31 0) 32 0) 33 0) 34 0)) (P' := (upP (zrP (upP (zrP (upP (zrP (upP (zrP (upP (zrP (upP (zrP (upP (zrP (upP (zrP (upP (zrP (upP (zrP P 22 0) 12 0 2 (some (ad1 22 0))) 23 0) 12 0 3 (some (ad2 23 0))) 24 0) 12 0 4 (some (ad3 24 0))) 27 0) 12 0 7 (some (ad4 27 0))) 28 0) 12 0 8 (some (ad5 28 0))) 29 0) 12 0 9 (some (ad6 29 0))) 31 0) 12 0 11 (some (ad7 31 0))) 32 0) 12 0 12 (some (ad8 32 0))) 33 0) 12 0 13 (some (ad9 33 0))) 34 0) 12 0 14 (some (ad10 34 0)))) (cF_upP rfl) (fun _ _ _ => rfl) (fun _ _ h => upP_ne h) dX4_init_87 (fun H locs hC => ?_)
  refine y_aload_n hM hl 0 rfl rfl dX4_init_90 ?_
  refine y_bipush hM dX4_init_91 (by decide) ?_
  refine y_newI hM hC (n := 30) (t := 35) (i := 0) (by decide) (fun _ _ => rfl) (by decide) (by decide +kernel) ⟨(Nat.le_of_ble_eq_true rfl), (Nat.le_of_ble_eq_true rfl)⟩ dX4_init_93 (fun q11 H hC => ?_)
  obtain ⟨ad11, had11⟩ : ∃ a : AD, a = upA ad10 35 0 q11 := ⟨_, rfl⟩
  rw [← had11] at hC
  have e11_0 : ad11 12 0 = ad10 12 0 := by rw [had11, upA_ne (fun h => absurd h.1 (by decide))]
  have hl : lv_has ls 2 [(0, .ref (ad11 12 0))] := by rw [e11_0]; exact hl
  rw [← had11]
  refine W.eq (g2 := F0 m 95 ls [.ref (ad11 35 0), .ref (ad11 12 0)]) (by rw [e11_0]; try rfl) ?_
  refine y_putF hM hin2 hC (by decide) rfl rfl (by decide +kernel) tyX4 tyX4_ok nmX4 15 ⟨by decide, rfl, rfl, rfl, rfl, rfl⟩ (by decide +kernel) (ty := (.array .int)) (by decide +kernel) rfl rfl (Nat.le_of_ble_eq_true rfl) (T' := (zrT (zrT (zrT (zrT (zrT (zrT (zrT (zrT (up (zrT (zrT (zrT T 22 0) 23 0) 24 0) 12 0 5 (1000)) 27 0) 28 0) 29 0) 31 0) 32 0) 33 0) 34 0) 35 0)) (P' := (upP (zrP (upP (zrP (upP (zrP (upP (zrP (upP (zrP (upP (zrP (upP (zrP (upP (zrP (upP (zrP (upP (zrP (upP (zrP P 22 0) 12 0 2 (some (ad1 22 0))) 23 0) 12 0 3 (some (ad2 23 0))) 24 0) 12 0 4 (some (ad3 24 0))) 27 0) 12 0 7 (some (ad4 27 0))) 28 0) 12 0 8 (some (ad5 28 0))) 29 0) 12 0 9 (some (ad6 29 0))) 31 0) 12 0 11 (some (ad7 31 0))) 32 0) 12 0 12 (some (ad8 32 0))) 33 0) 12 0 13 (some (ad9 33 0))) 34 0) 12 0 14 (some (ad10 34 0))) 35 0) 12 0 15 (some (ad11 35 0)))) (cF_upP rfl) (fun _ _ _ => rfl) (fun _ _ h => upP_ne h) dX4_init_95 (fun H locs hC => ?_)
  refine y_aload_n hM hl 0 rfl rfl dX4_init_98 ?_
  refine y_bipush hM dX4_init_99 (by decide) ?_
  refine y_newI hM hC (n := 30) (t := 36) (i := 0) (by decide) (fun _ _ => rfl) (by decide) (by decide +kernel) ⟨(Nat.le_of_ble_eq_true rfl), (Nat.le_of_ble_eq_true rfl)⟩ dX4_init_101 (fun q12 H hC => ?_)
  obtain ⟨ad12, had12⟩ : ∃ a : AD, a = upA ad11 36 0 q12 := ⟨_, rfl⟩
  rw [← had12] at hC
  have e12_0 : ad12 12 0 = ad11 12 0 := by rw [had12, upA_ne (fun h => absurd h.1 (by decide))]
  have hl : lv_has ls 2 [(0, .ref (ad12 12 0))] := by rw [e12_0]; exact hl
  rw [← had12]
  refine W.eq (g2 := F0 m 103 ls [.ref (ad12 36 0), .ref (ad12 12 0)]) (by rw [e12_0]; try rfl) ?_
  refine y_putF hM hin2 hC (by decide) rfl rfl (by decide +kernel) tyX4 tyX4_ok nmX4 16 ⟨by decide, rfl, rfl, rfl, rfl, rfl⟩ (by decide +kernel) (ty := (.array .int)) (by decide +kernel) rfl rfl (Nat.le_of_ble_eq_true rfl) (T' := (zrT (zrT (zrT (zrT (zrT (zrT (zrT (zrT (zrT (up (zrT (zrT (zrT T 22 0) 23 0) 24 0) 12 0 5 (1000)) 27 0) 28 0) 29 0) 31 0) 32 0) 33 0) 34 0) 35 0) 36 0)) (P' := (upP (zrP (upP (zrP (upP (zrP (upP (zrP (upP (zrP (upP (zrP (upP (zrP (upP (zrP (upP (zrP (upP (zrP (upP (zrP (upP (zrP P 22 0) 12 0 2 (some (ad1 22 0))) 23 0) 12 0 3 (some (ad2 23 0))) 24 0) 12 0 4 (some (ad3 24 0))) 27 0) 12 0 7 (some (ad4 27 0))) 28 0) 12 0 8 (some (ad5 28 0))) 29 0) 12 0 9 (some (ad6 29 0))) 31 0) 12 0 11 (some (ad7 31 0))) 32 0) 12 0 12 (some (ad8 32 0))) 33 0) 12 0 13 (some (ad9 33 0))) 34 0) 12 0 14 (some (ad10 34 0))) 35 0) 12 0 15 (some (ad11 35 0))) 36 0) 12 0 16 (some (ad12 36 0)))) (cF_upP rfl) (fun _ _ _ => rfl) (fun _ _ h => upP_ne h) dX4_init_103 (fun H locs hC => ?_)
  refine y_aload_n hM hl 0 rfl rfl dX4_init_106 ?_
  refine y_bipush hM dX4_init_107 (by decide) ?_
  refine y_newI hM hC (n := 30) (t := 37) (i := 0) (by decide) (fun _ _ => rfl) (by decide) (by decide +kernel) ⟨(Nat.le_of_ble_eq_true rfl), (Nat.le_of_ble_eq_true rfl)⟩ dX4_init_109 (fun q13 H hC => ?_)
  obtain ⟨ad13, had13⟩ : ∃ a : AD, a = upA ad12 37 0 q13 := ⟨_, rfl⟩
  rw [← had13] at hC
  have e13_0 : ad13 12 0 = ad12 12 0 := by rw [had13, upA_ne (fun h => absurd h.1 (by decide))]
  have hl : lv_has ls 2 [(0, .ref (ad13 12 0))] := by rw [e13_0]; exact hl
  rw [← had13]
  refine W.eq (g2 := F0 m 111 ls [.ref (ad13 37 0), .ref (ad13 12 0)]) (by rw [e13_0]; try rfl) ?_
  refine y_putF hM hin2 hC (by decide) rfl rfl (by decide +kernel) tyX4 tyX4_ok nmX4 17 ⟨by decide, rfl, rfl, rfl, rfl, rfl⟩ (by decide +kernel) (ty := (.array .int)) (by decide +kernel) rfl rfl (Nat.le_of_ble_eq_true rfl) (T' := (zrT (zrT (zrT (zrT (zrT (zrT (zrT (zrT (zrT (zrT (up (zrT (zrT (zrT T 22 0) 23 0) 24 0) 12 0 5 (1000)) 27 0) 28 0) 29 0) 31 0) 32 0) 33 0) 34 0) 35 0) 36 0) 37 0)) (P' := (upP (zrP (upP (zrP (upP (zrP (upP (zrP (upP (zrP (upP (zrP (upP (zrP (upP (zrP (upP (zrP (upP (zrP (upP (zrP (upP (zrP (upP (zrP P 22 0) 12 0 2 (some (ad1 22 0))) 23 0) 12 0 3 (some (ad2 23 0))) 24 0) 12 0 4 (some (ad3 24 0))) 27 0) 12 0 7 (some (ad4 27 0))) 28 0) 12 0 8 (some (ad5 28 0))) 29 0) 12 0 9 (some (ad6 29 0))) 31 0) 12 0 11 (some (ad7 31 0))) 32 0) 12 0 12 (some (ad8 32 0))) 33 0) 12 0 13 (some (ad9 33 0))) 34 0) 12 0 14 (some (ad10 34 0))) 35 0) 12 0 15 (some (ad11 35 0))) 36 0) 12 0 16 (some (ad12 36 0))) 37 0) 12 0 17 (some (ad13 37 0)))) (cF_upP rfl) (fun _ _ _ => rfl) (fun _ _ h => upP_ne h) dX4_init_111 (fun H locs hC => ?_)
  refine y_aload_n hM hl 0 rfl rfl dX4_init_114 ?_
  refine y_bipush hM dX4_init_115 (by decide) ?_
  refine y_newJ hM hC (n := 30) (t := 38) (i := 0) (by decide) (fun _ _ => rfl) (by decide) (by decide +kernel) ⟨(Nat.le_of_ble_eq_true rfl), (Nat.le_of_ble_eq_true rfl)⟩ dX4_init_117 (fun q14 H hC => ?_)
  obtain ⟨ad14, had14⟩ : ∃ a : AD, a = upA ad13 38 0 q14 := ⟨_, rfl⟩
  rw [← had14] at hC
  have e14_0 : ad14 12 0 = ad13 12 0 := by rw [had14, upA_ne (fun h => absurd h.1 (by decide))]
  have hl : lv_has ls 2 [(0, .ref (ad14 12 0))] := by rw [e14_0]; exact hl
  rw [← had14]
  refine W.eq (g2 := F0 m 119 ls [.ref (ad14 38 0), .ref (ad14 12 0)]) (by rw [e14_0]; try rfl) ?_
  refine y_putF hM hin2 hC (by decide) rfl rfl (by decide +kernel) tyX4 tyX4_ok nmX4 18 ⟨by decide, rfl, rfl, rfl, rfl, rfl⟩ (by decide +kernel) (ty := (.array .long)) (by decide +kernel) rfl rfl (Nat.le_of_ble_eq_true rfl) (T' := (zrT (zrT (zrT (zrT (zrT (zrT (zrT (zrT (zrT (zrT (zrT (up (zrT (zrT (zrT T 22 0) 23 0) 24 0) 12 0 5 (1000)) 27 0) 28 0) 29 0) 31 0) 32 0) 33 0) 34 0) 35 0) 36 0) 37 0) 38 0)) (P' := (upP (zrP (upP (zrP (upP (zrP (upP (zrP (upP (zrP (upP (zrP (upP (zrP (upP (zrP (upP (zrP (upP (zrP (upP (zrP (upP (zrP (upP (zrP (upP (zrP P 22 0) 12 0 2 (some (ad1 22 0))) 23 0) 12 0 3 (some (ad2 23 0))) 24 0) 12 0 4 (some (ad3 24 0))) 27 0) 12 0 7 (some (ad4 27 0))) 28 0) 12 0 8 (some (ad5 28 0))) 29 0) 12 0 9 (some (ad6 29 0))) 31 0) 12 0 11 (some (ad7 31 0))) 32 0) 12 0 12 (some (ad8 32 0))) 33 0) 12 0 13 (some (ad9 33 0))) 34 0) 12 0 14 (some (ad10 34 0))) 35 0) 12 0 15 (some (ad11 35 0))) 36 0) 12 0 16 (some (ad12 36 0))) 37 0) 12 0 17 (some (ad13 37 0))) 38 0) 12 0 18 (some (ad14 38 0)))) (cF_upP rfl) (fun _ _ _ => rfl) (fun _ _ h => upP_ne h) dX4_init_119 (fun H locs hC => ?_)
  refine y_aload_n hM hl 0 rfl rfl dX4_init_122 ?_
  refine y_bipush hM dX4_init_123 (by decide) ?_
  refine y_newJ hM hC (n := 30) (t := 39) (i := 0) (by decide) (fun _ _ => rfl) (by decide) (by decide +kernel) ⟨(Nat.le_of_ble_eq_true rfl), (Nat.le_of_ble_eq_true rfl)⟩ dX4_init_125 (fun q15 H hC => ?_)
  obtain ⟨ad15, had15⟩ : ∃ a : AD, a = upA ad14 39 0 q15 := ⟨_, rfl⟩
  rw [← had15] at hC
  have e15_0 : ad15 12 0 = ad14 12 0 := by rw [had15, upA_ne (fun h => absurd h.1 (by decide))]
  have hl : lv_has ls 2 [(0, .ref (ad15 12 0))] := by rw [e15_0]; exact hl
  rw [← had15]
  refine W.eq (g2 := F0 m 127 ls [.ref (ad15 39 0), .ref (ad15 12 0)]) (by rw [e15_0]; try rfl) ?_
  refine y_putF hM hin2 hC (by decide) rfl rfl (by decide +kernel) tyX4 tyX4_ok nmX4 19 ⟨by decide, rfl, rfl, rfl, rfl, rfl⟩ (by decide +kernel) (ty := (.array .long)) (by decide +kernel) rfl rfl (Nat.le_of_ble_eq_true rfl) (T' := (zrT (zrT (zrT (zrT (zrT (zrT (zrT (zrT (zrT (zrT (zrT (zrT (up (zrT (zrT (zrT T 22 0) 23 0) 24 0) 12 0 5 (1000)) 27 0) 28 0) 29 0) 31 0) 32 0) 33 0) 34 0) 35 0) 36 0) 37 0) 38 0) 39 0)) (P' := (upP (zrP (upP (zrP (upP (zrP (upP (zrP (upP (zrP (upP (zrP (upP (zrP (upP (zrP (upP (zrP (upP (zrP (upP (zrP (upP (zrP (upP (zrP (upP (zrP (upP (zrP P 22 0) 12 0 2 (some (ad1 22 0))) 23 0) 12 0 3 (some (ad2 23 0))) 24 0) 12 0 4 (some (ad3 24 0))) 27 0) 12 0 7 (some (ad4 27 0))) 28 0) 12 0 8 (some (ad5 28 0))) 29 0) 12 0 9 (some (ad6 29 0))) 31 0) 12 0 11 (some (ad7 31 0))) 32 0) 12 0 12 (some (ad8 32 0))) 33 0) 12 0 13 (some (ad9 33 0))) 34 0) 12 0 14 (some (ad10 34 0))) 35 0) 12 0 15 (some (ad11 35 0))) 36 0) 12 0 16 (some (ad12 36 0))) 37 0) 12 0 17 (some (ad13 37 0))) 38 0) 12 0 18 (some (ad14 38 0))) 39 0) 12 0 19 (some (ad15 39 0)))) (cF_upP rfl) (fun _ _ _ => rfl) (fun _ _ h => upP_ne h) dX4_init_127 (fun H locs hC => ?_)
  refine y_aload_n hM hl 0 rfl rfl dX4_init_130 ?_
  refine y_bipush hM dX4_init_131 (by decide) ?_
  refine y_newJ hM hC (n := 30) (t := 40) (i := 0) (by decide) (fun _ _ => rfl) (by decide) (by decide +kernel) ⟨(Nat.le_of_ble_eq_true rfl), (Nat.le_of_ble_eq_true rfl)⟩ dX4_init_133 (fun q16 H hC => ?_)
  obtain ⟨ad16, had16⟩ : ∃ a : AD, a = upA ad15 40 0 q16 := ⟨_, rfl⟩
  rw [← had16] at hC
  have e16_0 : ad16 12 0 = ad15 12 0 := by rw [had16, upA_ne (fun h => absurd h.1 (by decide))]
  have hl : lv_has ls 2 [(0, .ref (ad16 12 0))] := by rw [e16_0]; exact hl
  rw [← had16]
  refine W.eq (g2 := F0 m 135 ls [.ref (ad16 40 0), .ref (ad16 12 0)]) (by rw [e16_0]; try rfl) ?_
  refine y_putF hM hin2 hC (by decide) rfl rfl (by decide +kernel) tyX4 tyX4_ok nmX4 20 ⟨by decide, rfl, rfl, rfl, rfl, rfl⟩ (by decide +kernel) (ty := (.array .long)) (by decide +kernel) rfl rfl (Nat.le_of_ble_eq_true rfl) (T' := (zrT (zrT (zrT (zrT (zrT (zrT (zrT (zrT (zrT (zrT (zrT (zrT (zrT (up (zrT (zrT (zrT T 22 0) 23 0) 24 0) 12 0 5 (1000)) 27 0) 28 0) 29 0) 31 0) 32 0) 33 0) 34 0) 35 0) 36 0) 37 0) 38 0) 39 0) 40 0)) (P' := (upP (zrP (upP (zrP (upP (zrP (upP (zrP (upP (zrP (upP (zrP (upP (zrP (upP (zrP (upP (zrP (upP (zrP (upP (zrP (upP (zrP (upP (zrP (upP (zrP (upP (zrP (upP (zrP P 22 0) 12 0 2 (some (ad1 22 0))) 23 0) 12 0 3 (some (ad2 23 0))) 24 0) 12 0 4 (some (ad3 24 0))) 27 0) 12 0 7 (some (ad4 27 0))) 28 0) 12 0 8 (some (ad5 28 0))) 29 0) 12 0 9 (some (ad6 29 0))) 31 0) 12 0 11 (some (ad7 31 0))) 32 0) 12 0 12 (some (ad8 32 0))) 33 0) 12 0 13 (some (ad9 33 0))) 34 0) 12 0 14 (some (ad10 34 0))) 35 0) 12 0 15 (some (ad11 35 0))) 36 0) 12 0 16 (some (ad12 36 0))) 37 0) 12 0 17 (some (ad13 37 0))) 38 0) 12 0 18 (some (ad14 38 0))) 39 0) 12 0 19 (some (ad15 39 0))) 40 0) 12 0 20 (some (ad16 40 0)))) (cF_upP rfl) (fun _ _ _ => rfl) (fun _ _ h => upP_ne h) dX4_init_135 (fun H locs hC => ?_)
  refine y_aload_n hM hl 0 rfl rfl dX4_init_138 ?_
  refine y_bipush hM dX4_init_139 (by decide) ?_
  refine y_newJ hM hC (n := 25) (t := 41) (i := 0) (by decide) (fun _ _ => rfl) (by decide) (by decide +kernel) ⟨(Nat.le_of_ble_eq_true rfl), (Nat.le_of_ble_eq_true rfl)⟩ dX4_init_141 (fun q17 H hC => ?_)
  obtain ⟨ad17, had17⟩ : ∃ a : AD, a = upA ad16 41 0 q17 := ⟨_, rfl⟩
  rw [← had17] at hC
  have e17_0 : ad17 12 0 = ad16 12 0 := by rw [had17, upA_ne (fun h => absurd h.1 (by decide))]
  have hl : lv_has ls 2 [(0, .ref (ad17 12 0))] := by rw [e17_0]; exact hl
  rw [← had17]
  refine W.eq (g2 := F0 m 143 ls [.ref (ad17 41 0), .ref (ad17 12 0)]) (by rw [e17_0]; try rfl) ?_
  refine y_putF hM hin2 hC (by decide) rfl rfl (by decide +kernel) tyX4 tyX4_ok nmX4 21 ⟨by decide, rfl, rfl, rfl, rfl, rfl⟩ (by decide +kernel) (ty := (.array .long)) (by decide +kernel) rfl rfl (Nat.le_of_ble_eq_true rfl) (T' := (zrT (zrT (zrT (zrT (zrT (zrT (zrT (zrT (zrT (zrT (zrT (zrT (zrT (zrT (up (zrT (zrT (zrT T 22 0) 23 0) 24 0) 12 0 5 (1000)) 27 0) 28 0) 29 0) 31 0) 32 0) 33 0) 34 0) 35 0) 36 0) 37 0) 38 0) 39 0) 40 0) 41 0)) (P' := (upP (zrP (upP (zrP (upP (zrP (upP (zrP (upP (zrP (upP (zrP (upP (zrP (upP (zrP (upP (zrP (upP (zrP (upP (zrP (upP (zrP (upP (zrP (upP (zrP (upP (zrP (upP (zrP (upP (zrP P 22 0) 12 0 2 (some (ad1 22 0))) 23 0) 12 0 3 (some (ad2 23 0))) 24 0) 12 0 4 (some (ad3 24 0))) 27 0) 12 0 7 (some (ad4 27 0))) 28 0) 12 0 8 (some (ad5 28 0))) 29 0) 12 0 9 (some (ad6 29 0))) 31 0) 12 0 11 (some (ad7 31 0))) 32 0) 12 0 12 (some (ad8 32 0))) 33 0) 12 0 13 (some (ad9 33 0))) 34 0) 12 0 14 (some (ad10 34 0))) 35 0) 12 0 15 (some (ad11 35 0))) 36 0) 12 0 16 (some (ad12 36 0))) 37 0) 12 0 17 (some (ad13 37 0))) 38 0) 12 0 18 (some (ad14 38 0))) 39 0) 12 0 19 (some (ad15 39 0))) 40 0) 12 0 20 (some (ad16 40 0))) 41 0) 12 0 21 (some (ad17 41 0)))) (cF_upP rfl) (fun _ _ _ => rfl) (fun _ _ h => upP_ne h) dX4_init_143 (fun H locs hC => ?_)
  refine y_aload_n hM hl 0 rfl rfl dX4_init_146 ?_
  refine y_iconst hM dX4_init_147 ?_
  refine y_newJ hM hC (n := 5) (t := 42) (i := 0) (by decide) (fun _ _ => rfl) (by decide) (by decide +kernel) ⟨(Nat.le_of_ble_eq_true rfl), (Nat.le_of_ble_eq_true rfl)⟩ dX4_init_148 (fun q18 H hC => ?_)
  obtain ⟨ad18, had18⟩ : ∃ a : AD, a = upA ad17 42 0 q18 := ⟨_, rfl⟩
  rw [← had18] at hC
  have e18_0 : ad18 12 0 = ad17 12 0 := by rw [had18, upA_ne (fun h => absurd h.1 (by decide))]
  have hl : lv_has ls 2 [(0, .ref (ad18 12 0))] := by rw [e18_0]; exact hl
  rw [← had18]
  refine W.eq (g2 := F0 m 150 ls [.ref (ad18 42 0), .ref (ad18 12 0)]) (by rw [e18_0]; try rfl) ?_
  refine y_putF hM hin2 hC (by decide) rfl rfl (by decide +kernel) tyX4 tyX4_ok nmX4 22 ⟨by decide, rfl, rfl, rfl, rfl, rfl⟩ (by decide +kernel) (ty := (.array .long)) (by decide +kernel) rfl rfl (Nat.le_of_ble_eq_true rfl) (T' := (zrT (zrT (zrT (zrT (zrT (zrT (zrT (zrT (zrT (zrT (zrT (zrT (zrT (zrT (zrT (up (zrT (zrT (zrT T 22 0) 23 0) 24 0) 12 0 5 (1000)) 27 0) 28 0) 29 0) 31 0) 32 0) 33 0) 34 0) 35 0) 36 0) 37 0) 38 0) 39 0) 40 0) 41 0) 42 0)) (P' := (upP (zrP (upP (zrP (upP (zrP (upP (zrP (upP (zrP (upP (zrP (upP (zrP (upP (zrP (upP (zrP (upP (zrP (upP (zrP (upP (zrP (upP (zrP (upP (zrP (upP (zrP (upP (zrP (upP (zrP (upP (zrP P 22 0) 12 0 2 (some (ad1 22 0))) 23 0) 12 0 3 (some (ad2 23 0))) 24 0) 12 0 4 (some (ad3 24 0))) 27 0) 12 0 7 (some (ad4 27 0))) 28 0) 12 0 8 (some (ad5 28 0))) 29 0) 12 0 9 (some (ad6 29 0))) 31 0) 12 0 11 (some (ad7 31 0))) 32 0) 12 0 12 (some (ad8 32 0))) 33 0) 12 0 13 (some (ad9 33 0))) 34 0) 12 0 14 (some (ad10 34 0))) 35 0) 12 0 15 (some (ad11 35 0))) 36 0) 12 0 16 (some (ad12 36 0))) 37 0) 12 0 17 (some (ad13 37 0))) 38 0) 12 0 18 (some (ad14 38 0))) 39 0) 12 0 19 (some (ad15 39 0))) 40 0) 12 0 20 (some (ad16 40 0))) 41 0) 12 0 21 (some (ad17 41 0))) 42 0) 12 0 22 (some (ad18 42 0)))) (cF_upP rfl) (fun _ _ _ => rfl) (fun _ _ h => upP_ne h) dX4_init_150 (fun H locs hC => ?_)
  refine y_iconst hM dX4_init_153 ?_
  refine lv_istore_n (lv' := [(1, .int (iI (0))), (0, .ref (ad18 12 0))]) hM.1 hM.2.1 dX4_init_154 rfl hl (by decide) rfl (fun ls hl => ?_)
  refine y_iload_n hM hl 0 rfl rfl dX4_init_155 ?_
  refine y_iconst hM dX4_init_156 ?_
  refine y_icmp_ge hM (by constructor <;> omega) (by constructor <;> omega) (tgt := 186) dX4_init_157 (by decide) (fun c_157 => False.elim (by omega)) (fun c_157 => ?_)
  refine y_aload_n hM hl 1 rfl rfl dX4_init_160 ?_
  refine y_get hM hC (by decide) rfl rfl (by decide +kernel) 2 ⟨by decide, rfl, rfl, rfl⟩ (by decide +kernel) (congrArg (fun q => some (va_rf q)) (show (upP (zrP (upP (zrP (upP (zrP (upP (zrP (upP (zrP (upP (zrP (upP (zrP (upP (zrP (upP (zrP (upP (zrP (upP (zrP (upP (zrP (upP (zrP (upP (zrP (upP (zrP (upP (zrP (upP (zrP (upP (zrP P 22 0) 12 0 2 (some (ad1 22 0))) 23 0) 12 0 3 (some (ad2 23 0))) 24 0) 12 0 4 (some (ad3 24 0))) 27 0) 12 0 7 (some (ad4 27 0))) 28 0) 12 0 8 (some (ad5 28 0))) 29 0) 12 0 9 (some (ad6 29 0))) 31 0) 12 0 11 (some (ad7 31 0))) 32 0) 12 0 12 (some (ad8 32 0))) 33 0) 12 0 13 (some (ad9 33 0))) 34 0) 12 0 14 (some (ad10 34 0))) 35 0) 12 0 15 (some (ad11 35 0))) 36 0) 12 0 16 (some (ad12 36 0))) 37 0) 12 0 17 (some (ad13 37 0))) 38 0) 12 0 18 (some (ad14 38 0))) 39 0) 12 0 19 (some (ad15 39 0))) 40 0) 12 0 20 (some (ad16 40 0))) 41 0) 12 0 21 (some (ad17 41 0))) 42 0) 12 0 22 (some (ad18 42 0))) 12 0 2 = some (ad18 22 0) from by simp [upP, zrP, had18, had17, had16, had15, had14, had13, had12, had11, had10, had9, had8, had7, had6, had5, had4, had3, had2, had1, upA])) dX4_init_161 ?_
  refine W.eq (g2 := F0 m 164 ls [.ref (ad18 22 0)]) rfl ?_
  refine y_sipush hM dX4_init_164 (by decide) ?_
  refine y_iload_n hM hl 0 rfl rfl dX4_init_167 ?_
  refine y_imul hM dX4_init_168 ?_
  refine y_sipush hM dX4_init_169 (by decide) ?_
  refine y_iast hM hC (by decide) (fun _ _ => rfl) ⟨by omega, by omega⟩ (by decide) dX4_init_172 (fun H locs hC => ?_)
  refine y_aload_n hM hl 1 rfl rfl dX4_init_173 ?_
  refine y_get hM hC (by decide) rfl rfl (by decide +kernel) 3 ⟨by decide, rfl, rfl, rfl⟩ (by decide +kernel) (congrArg (fun q => some (va_rf q)) (show (upP (zrP (upP (zrP (upP (zrP (upP (zrP (upP (zrP (upP (zrP (upP (zrP (upP (zrP (upP (zrP (upP (zrP (upP (zrP (upP (zrP (upP (zrP (upP (zrP (upP (zrP (upP (zrP (upP (zrP (upP (zrP P 22 0) 12 0 2 (some (ad1 22 0))) 23 0) 12 0 3 (some (ad2 23 0))) 24 0) 12 0 4 (some (ad3 24 0))) 27 0) 12 0 7 (some (ad4 27 0))) 28 0) 12 0 8 (some (ad5 28 0))) 29 0) 12 0 9 (some (ad6 29 0))) 31 0) 12 0 11 (some (ad7 31 0))) 32 0) 12 0 12 (some (ad8 32 0))) 33 0) 12 0 13 (some (ad9 33 0))) 34 0) 12 0 14 (some (ad10 34 0))) 35 0) 12 0 15 (some (ad11 35 0))) 36 0) 12 0 16 (some (ad12 36 0))) 37 0) 12 0 17 (some (ad13 37 0))) 38 0) 12 0 18 (some (ad14 38 0))) 39 0) 12 0 19 (some (ad15 39 0))) 40 0) 12 0 20 (some (ad16 40 0))) 41 0) 12 0 21 (some (ad17 41 0))) 42 0) 12 0 22 (some (ad18 42 0))) 12 0 3 = some (ad18 23 0) from by simp [upP, zrP, had18, had17, had16, had15, had14, had13, had12, had11, had10, had9, had8, had7, had6, had5, had4, had3, had2, had1, upA])) dX4_init_174 ?_
  refine W.eq (g2 := F0 m 177 ls [.ref (ad18 23 0)]) rfl ?_
  refine y_iload_n hM hl 0 rfl rfl dX4_init_177 ?_
  refine y_iconst hM dX4_init_178 ?_
  refine y_iast hM hC (by decide) (fun _ _ => rfl) ⟨by omega, by omega⟩ (by decide) dX4_init_179 (fun H locs hC => ?_)
  refine lv_iinc (v := iI ((0) + (1))) (lv' := [(1, .int (iI ((0) + (1)))), (0, .ref (ad18 12 0))]) hM.1 hM.2.1 dX4_init_180 hl (k := 0) rfl (iI_add _ _) (by decide) rfl (fun ls hl => ?_)
  refine lv_goto (tgt := 155) hM.1 hM.2.1 dX4_init_183 (by decide) ?_
  refine y_iload_n hM hl 0 rfl rfl dX4_init_155 ?_
  refine y_iconst hM dX4_init_156 ?_
  refine y_icmp_ge hM (by constructor <;> omega) (by constructor <;> omega) (tgt := 186) dX4_init_157 (by decide) (fun c_157 => False.elim (by omega)) (fun c_157 => ?_)
  refine y_aload_n hM hl 1 rfl rfl dX4_init_160 ?_
  refine y_get hM hC (by decide) rfl rfl (by decide +kernel) 2 ⟨by decide, rfl, rfl, rfl⟩ (by decide +kernel) (congrArg (fun q => some (va_rf q)) (show (upP (zrP (upP (zrP (upP (zrP (upP (zrP (upP (zrP (upP (zrP (upP (zrP (upP (zrP (upP (zrP (upP (zrP (upP (zrP (upP (zrP (upP (zrP (upP (zrP (upP (zrP (upP (zrP (upP (zrP (upP (zrP P 22 0) 12 0 2 (some (ad1 22 0))) 23 0) 12 0 3 (some (ad2 23 0))) 24 0) 12 0 4 (some (ad3 24 0))) 27 0) 12 0 7 (some (ad4 27 0))) 28 0) 12 0 8 (some (ad5 28 0))) 29 0) 12 0 9 (some (ad6 29 0))) 31 0) 12 0 11 (some (ad7 31 0))) 32 0) 12 0 12 (some (ad8 32 0))) 33 0) 12 0 13 (some (ad9 33 0))) 34 0) 12 0 14 (some (ad10 34 0))) 35 0) 12 0 15 (some (ad11 35 0))) 36 0) 12 0 16 (some (ad12 36 0))) 37 0) 12 0 17 (some (ad13 37 0))) 38 0) 12 0 18 (some (ad14 38 0))) 39 0) 12 0 19 (some (ad15 39 0))) 40 0) 12 0 20 (some (ad16 40 0))) 41 0) 12 0 21 (some (ad17 41 0))) 42 0) 12 0 22 (some (ad18 42 0))) 12 0 2 = some (ad18 22 0) from by simp [upP, zrP, had18, had17, had16, had15, had14, had13, had12, had11, had10, had9, had8, had7, had6, had5, had4, had3, had2, had1, upA])) dX4_init_161 ?_
  refine W.eq (g2 := F0 m 164 ls [.ref (ad18 22 0)]) rfl ?_
  refine y_sipush hM dX4_init_164 (by decide) ?_
  refine y_iload_n hM hl 0 rfl rfl dX4_init_167 ?_
  refine y_imul hM dX4_init_168 ?_
  refine y_sipush hM dX4_init_169 (by decide) ?_
  refine y_iast hM hC (by decide) (fun _ _ => rfl) ⟨by omega, by omega⟩ (by decide) dX4_init_172 (fun H locs hC => ?_)
  refine y_aload_n hM hl 1 rfl rfl dX4_init_173 ?_
  refine y_get hM hC (by decide) rfl rfl (by decide +kernel) 3 ⟨by decide, rfl, rfl, rfl⟩ (by decide +kernel) (congrArg (fun q => some (va_rf q)) (show (upP (zrP (upP (zrP (upP (zrP (upP (zrP (upP (zrP (upP (zrP (upP (zrP (upP (zrP (upP (zrP (upP (zrP (upP (zrP (upP (zrP (upP (zrP (upP (zrP (upP (zrP (upP (zrP (upP (zrP (upP (zrP P 22 0) 12 0 2 (some (ad1 22 0))) 23 0) 12 0 3 (some (ad2 23 0))) 24 0) 12 0 4 (some (ad3 24 0))) 27 0) 12 0 7 (some (ad4 27 0))) 28 0) 12 0 8 (some (ad5 28 0))) 29 0) 12 0 9 (some (ad6 29 0))) 31 0) 12 0 11 (some (ad7 31 0))) 32 0) 12 0 12 (some (ad8 32 0))) 33 0) 12 0 13 (some (ad9 33 0))) 34 0) 12 0 14 (some (ad10 34 0))) 35 0) 12 0 15 (some (ad11 35 0))) 36 0) 12 0 16 (some (ad12 36 0))) 37 0) 12 0 17 (some (ad13 37 0))) 38 0) 12 0 18 (some (ad14 38 0))) 39 0) 12 0 19 (some (ad15 39 0))) 40 0) 12 0 20 (some (ad16 40 0))) 41 0) 12 0 21 (some (ad17 41 0))) 42 0) 12 0 22 (some (ad18 42 0))) 12 0 3 = some (ad18 23 0) from by simp [upP, zrP, had18, had17, had16, had15, had14, had13, had12, had11, had10, had9, had8, had7, had6, had5, had4, had3, had2, had1, upA])) dX4_init_174 ?_
  refine W.eq (g2 := F0 m 177 ls [.ref (ad18 23 0)]) rfl ?_
  refine y_iload_n hM hl 0 rfl rfl dX4_init_177 ?_
  refine y_iconst hM dX4_init_178 ?_
  refine y_iast hM hC (by decide) (fun _ _ => rfl) ⟨by omega, by omega⟩ (by decide) dX4_init_179 (fun H locs hC => ?_)
  refine lv_iinc (v := iI (((0) + (1)) + (1))) (lv' := [(1, .int (iI (((0) + (1)) + (1)))), (0, .ref (ad18 12 0))]) hM.1 hM.2.1 dX4_init_180 hl (k := 0) rfl (iI_add _ _) (by decide) rfl (fun ls hl => ?_)
  refine lv_goto (tgt := 155) hM.1 hM.2.1 dX4_init_183 (by decide) ?_
  refine y_iload_n hM hl 0 rfl rfl dX4_init_155 ?_
  refine y_iconst hM dX4_init_156 ?_
  refine y_icmp_ge hM (by constructor <;> omega) (by constructor <;> omega) (tgt := 186) dX4_init_157 (by decide) (fun c_157 => False.elim (by omega)) (fun c_157 => ?_)
  refine y_aload_n hM hl 1 rfl rfl dX4_init_160 ?_
  refine y_get hM hC (by decide) rfl rfl (by decide +kernel) 2 ⟨by decide, rfl, rfl, rfl⟩ (by decide +kernel) (congrArg (fun q => some (va_rf q)) (show (upP (zrP (upP (zrP (upP (zrP (upP (zrP (upP (zrP (upP (zrP (upP (zrP (upP (zrP (upP (zrP (upP (zrP (upP (zrP (upP (zrP (upP (zrP (upP (zrP (upP (zrP (upP (zrP (upP (zrP (upP (zrP P 22 0) 12 0 2 (some (ad1 22 0))) 23 0) 12 0 3 (some (ad2 23 0))) 24 0) 12 0 4 (some (ad3 24 0))) 27 0) 12 0 7 (some (ad4 27 0))) 28 0) 12 0 8 (some (ad5 28 0))) 29 0) 12 0 9 (some (ad6 29 0))) 31 0) 12 0 11 (some (ad7 31 0))) 32 0) 12 0 12 (some (ad8 32 0))) 33 0) 12 0 13 (some (ad9 33 0))) 34 0) 12 0 14 (some (ad10 34 0))) 35 0) 12 0 15 (some (ad11 35 0))) 36 0) 12 0 16 (some (ad12 36 0))) 37 0) 12 0 17 (some (ad13 37 0))) 38 0) 12 0 18 (some (ad14 38 0))) 39 0) 12 0 19 (some (ad15 39 0))) 40 0) 12 0 20 (some (ad16 40 0))) 41 0) 12 0 21 (some (ad17 41 0))) 42 0) 12 0 22 (some (ad18 42 0))) 12 0 2 = some (ad18 22 0) from by simp [upP, zrP, had18, had17, had16, had15, had14, had13, had12, had11, had10, had9, had8, had7, had6, had5, had4, had3, had2, had1, upA])) dX4_init_161 ?_
  refine W.eq (g2 := F0 m 164 ls [.ref (ad18 22 0)]) rfl ?_
  refine y_sipush hM dX4_init_164 (by decide) ?_
  refine y_iload_n hM hl 0 rfl rfl dX4_init_167 ?_
  refine y_imul hM dX4_init_168 ?_
  refine y_sipush hM dX4_init_169 (by decide) ?_
  refine y_iast hM hC (by decide) (fun _ _ => rfl) ⟨by omega, by omega⟩ (by decide) dX4_init_172 (fun H locs hC => ?_)
  refine y_aload_n hM hl 1 rfl rfl dX4_init_173 ?_
  refine y_get hM hC (by decide) rfl rfl (by decide +kernel) 3 ⟨by decide, rfl, rfl, rfl⟩ (by decide +kernel) (congrArg (fun q => some (va_rf q)) (show (upP (zrP (upP (zrP (upP (zrP (upP (zrP (upP (zrP (upP (zrP (upP (zrP (upP (zrP (upP (zrP (upP (zrP (upP (zrP (upP (zrP (upP (zrP (upP (zrP (upP (zrP (upP (zrP (upP (zrP (upP (zrP P 22 0) 12 0 2 (some (ad1 22 0))) 23 0) 12 0 3 (some (ad2 23 0))) 24 0) 12 0 4 (some (ad3 24 0))) 27 0) 12 0 7 (some (ad4 27 0))) 28 0) 12 0 8 (some (ad5 28 0))) 29 0) 12 0 9 (some (ad6 29 0))) 31 0) 12 0 11 (some (ad7 31 0))) 32 0) 12 0 12 (some (ad8 32 0))) 33 0) 12 0 13 (some (ad9 33 0))) 34 0) 12 0 14 (some (ad10 34 0))) 35 0) 12 0 15 (some (ad11 35 0))) 36 0) 12 0 16 (some (ad12 36 0))) 37 0) 12 0 17 (some (ad13 37 0))) 38 0) 12 0 18 (some (ad14 38 0))) 39 0) 12 0 19 (some (ad15 39 0))) 40 0) 12 0 20 (some (ad16 40 0))) 41 0) 12 0 21 (some (ad17 41 0))) 42 0) 12 0 22 (some (ad18 42 0))) 12 0 3 = some (ad18 23 0) from by simp [upP, zrP, had18, had17, had16, had15, had14, had13, had12, had11, had10, had9, had8, had7, had6, had5, had4, had3, had2, had1, upA])) dX4_init_174 ?_
  refine W.eq (g2 := F0 m 177 ls [.ref (ad18 23 0)]) rfl ?_
  refine y_iload_n hM hl 0 rfl rfl dX4_init_177 ?_
  refine y_iconst hM dX4_init_178 ?_
  refine y_iast hM hC (by decide) (fun _ _ => rfl) ⟨by omega, by omega⟩ (by decide) dX4_init_179 (fun H locs hC => ?_)
  refine lv_iinc (v := iI ((((0) + (1)) + (1)) + (1))) (lv' := [(1, .int (iI ((((0) + (1)) + (1)) + (1)))), (0, .ref (ad18 12 0))]) hM.1 hM.2.1 dX4_init_180 hl (k := 0) rfl (iI_add _ _) (by decide) rfl (fun ls hl => ?_)
  refine lv_goto (tgt := 155) hM.1 hM.2.1 dX4_init_183 (by decide) ?_
  refine y_iload_n hM hl 0 rfl rfl dX4_init_155 ?_
  refine y_iconst hM dX4_init_156 ?_
  refine y_icmp_ge hM (by constructor <;> omega) (by constructor <;> omega) (tgt := 186) dX4_init_157 (by decide) (fun c_157 => False.elim (by omega)) (fun c_157 => ?_)
  refine y_aload_n hM hl 1 rfl rfl dX4_init_160 ?_
  refine y_get hM hC (by decide) rfl rfl (by decide +kernel) 2 ⟨by decide, rfl, rfl, rfl⟩ (by decide +kernel) (congrArg (fun q => some (va_rf q)) (show (upP (zrP (upP (zrP (upP (zrP (upP (zrP (upP (zrP (upP (zrP (upP (zrP (upP (zrP (upP (zrP (upP (zrP (upP (zrP (upP (zrP (upP (zrP (upP (zrP (upP (zrP (upP (zrP (upP (zrP (upP (zrP P 22 0) 12 0 2 (some (ad1 22 0))) 23 0) 12 0 3 (some (ad2 23 0))) 24 0) 12 0 4 (some (ad3 24 0))) 27 0) 12 0 7 (some (ad4 27 0))) 28 0) 12 0 8 (some (ad5 28 0))) 29 0) 12 0 9 (some (ad6 29 0))) 31 0) 12 0 11 (some (ad7 31 0))) 32 0) 12 0 12 (some (ad8 32 0))) 33 0) 12 0 13 (some (ad9 33 0))) 34 0) 12 0 14 (some (ad10 34 0))) 35 0) 12 0 15 (some (ad11 35 0))) 36 0) 12 0 16 (some (ad12 36 0))) 37 0) 12 0 17 (some (ad13 37 0))) 38 0) 12 0 18 (some (ad14 38 0))) 39 0) 12 0 19 (some (ad15 39 0))) 40 0) 12 0 20 (some (ad16 40 0))) 41 0) 12 0 21 (some (ad17 41 0))) 42 0) 12 0 22 (some (ad18 42 0))) 12 0 2 = some (ad18 22 0) from by simp [upP, zrP, had18, had17, had16, had15, had14, had13, had12, had11, had10, had9, had8, had7, had6, had5, had4, had3, had2, had1, upA])) dX4_init_161 ?_
  refine W.eq (g2 := F0 m 164 ls [.ref (ad18 22 0)]) rfl ?_
  refine y_sipush hM dX4_init_164 (by decide) ?_
  refine y_iload_n hM hl 0 rfl rfl dX4_init_167 ?_
  refine y_imul hM dX4_init_168 ?_
  refine y_sipush hM dX4_init_169 (by decide) ?_
  refine y_iast hM hC (by decide) (fun _ _ => rfl) ⟨by omega, by omega⟩ (by decide) dX4_init_172 (fun H locs hC => ?_)
  refine y_aload_n hM hl 1 rfl rfl dX4_init_173 ?_
  refine y_get hM hC (by decide) rfl rfl (by decide +kernel) 3 ⟨by decide, rfl, rfl, rfl⟩ (by decide +kernel) (congrArg (fun q => some (va_rf q)) (show (upP (zrP (upP (zrP (upP (zrP (upP (zrP (upP (zrP (upP (zrP (upP (zrP (upP (zrP (upP (zrP (upP (zrP (upP (zrP (upP (zrP (upP (zrP (upP (zrP (upP (zrP (upP (zrP (upP (zrP (upP (zrP P 22 0) 12 0 2 (some (ad1 22 0))) 23 0) 12 0 3 (some (ad2 23 0))) 24 0) 12 0 4 (some (ad3 24 0))) 27 0) 12 0 7 (some (ad4 27 0))) 28 0) 12 0 8 (some (ad5 28 0))) 29 0) 12 0 9 (some (ad6 29 0))) 31 0) 12 0 11 (some (ad7 31 0))) 32 0) 12 0 12 (some (ad8 32 0))) 33 0) 12 0 13 (some (ad9 33 0))) 34 0) 12 0 14 (some (ad10 34 0))) 35 0) 12 0 15 (some (ad11 35 0))) 36 0) 12 0 16 (some (ad12 36 0))) 37 0) 12 0 17 (some (ad13 37 0))) 38 0) 12 0 18 (some (ad14 38 0))) 39 0) 12 0 19 (some (ad15 39 0))) 40 0) 12 0 20 (some (ad16 40 0))) 41 0) 12 0 21 (some (ad17 41 0))) 42 0) 12 0 22 (some (ad18 42 0))) 12 0 3 = some (ad18 23 0) from by simp [upP, zrP, had18, had17, had16, had15, had14, had13, had12, had11, had10, had9, had8, had7, had6, had5, had4, had3, had2, had1, upA])) dX4_init_174 ?_
  refine W.eq (g2 := F0 m 177 ls [.ref (ad18 23 0)]) rfl ?_
  refine y_iload_n hM hl 0 rfl rfl dX4_init_177 ?_
  refine y_iconst hM dX4_init_178 ?_
  refine y_iast hM hC (by decide) (fun _ _ => rfl) ⟨by omega, by omega⟩ (by decide) dX4_init_179 (fun H locs hC => ?_)
  refine lv_iinc (v := iI (((((0) + (1)) + (1)) + (1)) + (1))) (lv' := [(1, .int (iI (((((0) + (1)) + (1)) + (1)) + (1)))), (0, .ref (ad18 12 0))]) hM.1 hM.2.1 dX4_init_180 hl (k := 0) rfl (iI_add _ _) (by decide) rfl (fun ls hl => ?_)
  refine lv_goto (tgt := 155) hM.1 hM.2.1 dX4_init_183 (by decide) ?_
  refine y_iload_n hM hl 0 rfl rfl dX4_init_155 ?_
  refine y_iconst hM dX4_init_156 ?_
  refine y_icmp_ge hM (by constructor <;> omega) (by constructor <;> omega) (tgt := 186) dX4_init_157 (by decide) (fun c_157 => False.elim (by omega)) (fun c_157 => ?_)
  refine y_aload_n hM hl 1 rfl rfl dX4_init_160 ?_
  refine y_get hM hC (by decide) rfl rfl (by decide +kernel) 2 ⟨by decide, rfl, rfl, rfl⟩ (by decide +kernel) (congrArg (fun q => some (va_rf q)) (show (upP (zrP (upP (zrP (upP (zrP (upP (zrP (upP (zrP (upP (zrP (upP (zrP (upP (zrP (upP (zrP (upP (zrP (upP (zrP (upP (zrP (upP (zrP (upP (zrP (upP (zrP (upP (zrP (upP (zrP (upP (zrP P 22 0) 12 0 2 (some (ad1 22 0))) 23 0) 12 0 3 (some (ad2 23 0))) 24 0) 12 0 4 (some (ad3 24 0))) 27 0) 12 0 7 (some (ad4 27 0))) 28 0) 12 0 8 (some (ad5 28 0))) 29 0) 12 0 9 (some (ad6 29 0))) 31 0) 12 0 11 (some (ad7 31 0))) 32 0) 12 0 12 (some (ad8 32 0))) 33 0) 12 0 13 (some (ad9 33 0))) 34 0) 12 0 14 (some (ad10 34 0))) 35 0) 12 0 15 (some (ad11 35 0))) 36 0) 12 0 16 (some (ad12 36 0))) 37 0) 12 0 17 (some (ad13 37 0))) 38 0) 12 0 18 (some (ad14 38 0))) 39 0) 12 0 19 (some (ad15 39 0))) 40 0) 12 0 20 (some (ad16 40 0))) 41 0) 12 0 21 (some (ad17 41 0))) 42 0) 12 0 22 (some (ad18 42 0))) 12 0 2 = some (ad18 22 0) from by simp [upP, zrP, had18, had17, had16, had15, had14, had13, had12, had11, had10, had9, had8, had7, had6, had5, had4, had3, had2, had1, upA])) dX4_init_161 ?_
  refine W.eq (g2 := F0 m 164 ls [.ref (ad18 22 0)]) rfl ?_
  refine y_sipush hM dX4_init_164 (by decide) ?_
  refine y_iload_n hM hl 0 rfl rfl dX4_init_167 ?_
  refine y_imul hM dX4_init_168 ?_
  refine y_sipush hM dX4_init_169 (by decide) ?_
  refine y_iast hM hC (by decide) (fun _ _ => rfl) ⟨by omega, by omega⟩ (by decide) dX4_init_172 (fun H locs hC => ?_)
  refine y_aload_n hM hl 1 rfl rfl dX4_init_173 ?_
  refine y_get hM hC (by decide) rfl rfl (by decide +kernel) 3 ⟨by decide, rfl, rfl, rfl⟩ (by decide +kernel) (congrArg (fun q => some (va_rf q)) (show (upP (zrP (upP (zrP (upP (zrP (upP (zrP (upP (zrP (upP (zrP (upP (zrP (upP (zrP (upP (zrP (upP (zrP (upP (zrP (upP (zrP (upP (zrP (upP (zrP (upP (zrP (upP (zrP (upP (zrP (upP (zrP P 22 0) 12 0 2 (some (ad1 22 0))) 23 0) 12 0 3 (some (ad2 23 0))) 24 0) 12 0 4 (some (ad3 24 0))) 27 0) 12 0 7 (some (ad4 27 0))) 28 0) 12 0 8 (some (ad5 28 0))) 29 0) 12 0 9 (some (ad6 29 0))) 31 0) 12 0 11 (some (ad7 31 0))) 32 0) 12 0 12 (some (ad8 32 0))) 33 0) 12 0 13 (some (ad9 33 0))) 34 0) 12 0 14 (some (ad10 34 0))) 35 0) 12 0 15 (some (ad11 35 0))) 36 0) 12 0 16 (some (ad12 36 0))) 37 0) 12 0 17 (some (ad13 37 0))) 38 0) 12 0 18 (some (ad14 38 0))) 39 0) 12 0 19 (some (ad15 39 0))) 40 0) 12 0 20 (some (ad16 40 0))) 41 0) 12 0 21 (some (ad17 41 0))) 42 0) 12 0 22 (some (ad18 42 0))) 12 0 3 = some (ad18 23 0) from by simp [upP, zrP, had18, had17, had16, had15, had14, had13, had12, had11, had10, had9, had8, had7, had6, had5, had4, had3, had2, had1, upA])) dX4_init_174 ?_
  refine W.eq (g2 := F0 m 177 ls [.ref (ad18 23 0)]) rfl ?_
  refine y_iload_n hM hl 0 rfl rfl dX4_init_177 ?_
  refine y_iconst hM dX4_init_178 ?_
  refine y_iast hM hC (by decide) (fun _ _ => rfl) ⟨by omega, by omega⟩ (by decide) dX4_init_179 (fun H locs hC => ?_)
  refine lv_iinc (v := iI ((((((0) + (1)) + (1)) + (1)) + (1)) + (1))) (lv' := [(1, .int (iI ((((((0) + (1)) + (1)) + (1)) + (1)) + (1)))), (0, .ref (ad18 12 0))]) hM.1 hM.2.1 dX4_init_180 hl (k := 0) rfl (iI_add _ _) (by decide) rfl (fun ls hl => ?_)
  refine lv_goto (tgt := 155) hM.1 hM.2.1 dX4_init_183 (by decide) ?_
  refine y_iload_n hM hl 0 rfl rfl dX4_init_155 ?_
  refine y_iconst hM dX4_init_156 ?_
  refine y_icmp_ge hM (by constructor <;> omega) (by constructor <;> omega) (tgt := 186) dX4_init_157 (by decide) (fun c_157 => ?_) (fun c_157 => False.elim (by omega))
  have hMI : MI K1 ad18 (upP (zrP (upP (zrP (upP (zrP (upP (zrP (upP (zrP (upP (zrP (upP (zrP (upP (zrP (upP (zrP (upP (zrP (upP (zrP (upP (zrP (upP (zrP (upP (zrP (upP (zrP (upP (zrP (upP (zrP (upP (zrP P 22 0) 12 0 2 (some (ad1 22 0))) 23 0) 12 0 3 (some (ad2 23 0))) 24 0) 12 0 4 (some (ad3 24 0))) 27 0) 12 0 7 (some (ad4 27 0))) 28 0) 12 0 8 (some (ad5 28 0))) 29 0) 12 0 9 (some (ad6 29 0))) 31 0) 12 0 11 (some (ad7 31 0))) 32 0) 12 0 12 (some (ad8 32 0))) 33 0) 12 0 13 (some (ad9 33 0))) 34 0) 12 0 14 (some (ad10 34 0))) 35 0) 12 0 15 (some (ad11 35 0))) 36 0) 12 0 16 (some (ad12 36 0))) 37 0) 12 0 17 (some (ad13 37 0))) 38 0) 12 0 18 (some (ad14 38 0))) 39 0) 12 0 19 (some (ad15 39 0))) 40 0) 12 0 20 (some (ad16 40 0))) 41 0) 12 0 21 (some (ad17 41 0))) 42 0) 12 0 22 (some (ad18 42 0))) := by
    refine ⟨by decide, ?_⟩
    intro k hk
    rcases (show k = 2 ∨ k = 3 ∨ k = 4 ∨ k = 7 ∨ k = 8 ∨ k = 9 ∨ k = 11 ∨ k = 12 ∨ k = 13 ∨ k = 14 ∨ k = 15 ∨ k = 16 ∨ k = 17 ∨ k = 18 ∨ k = 19 ∨ k = 20 ∨ k = 21 ∨ k = 22 from by simpa [mks] using hk) with rfl | rfl | rfl | rfl | rfl | rfl | rfl | rfl | rfl | rfl | rfl | rfl | rfl | rfl | rfl | rfl | rfl | rfl <;> refine ⟨by decide, ?_⟩ <;> simp [upP, zrP, had18, had17, had16, had15, had14, had13, had12, had11, had10, had9, had8, had7, had6, had5, had4, had3, had2, had1, upA]
  have hA : ∀ t i : Nat, t < 13 → ad18 t i = ad t i := by
    intro t i ht
    rw [had18, upA_ne (fun q => by omega), had17, upA_ne (fun q => by omega), had16, upA_ne (fun q => by omega), had15, upA_ne (fun q => by omega), had14, upA_ne (fun q => by omega), had13, upA_ne (fun q => by omega), had12, upA_ne (fun q => by omega), had11, upA_ne (fun q => by omega), had10, upA_ne (fun q => by omega), had9, upA_ne (fun q => by omega), had8, upA_ne (fun q => by omega), had7, upA_ne (fun q => by omega), had6, upA_ne (fun q => by omega), had5, upA_ne (fun q => by omega), had4, upA_ne (fun q => by omega), had3, upA_ne (fun q => by omega), had2, upA_ne (fun q => by omega), had1, upA_ne (fun q => by omega)]
  have hT : ∀ t i : Nat, t < 12 → (up (up (up (up (up (up (up (up (up (up (zrT (zrT (zrT (zrT (zrT (zrT (zrT (zrT (zrT (zrT (zrT (zrT (zrT (zrT (zrT (up (zrT (zrT (zrT T 22 0) 23 0) 24 0) 12 0 5 (1000)) 27 0) 28 0) 29 0) 31 0) 32 0) 33 0) 34 0) 35 0) 36 0) 37 0) 38 0) 39 0) 40 0) 41 0) 42 0) 22 0 (Int.toNat ((2001) * (0))) (1000)) 23 0 (Int.toNat 0) (1)) 22 0 (Int.toNat ((2001) * ((0) + (1)))) (1000)) 23 0 (Int.toNat ((0) + (1))) (1)) 22 0 (Int.toNat ((2001) * (((0) + (1)) + (1)))) (1000)) 23 0 (Int.toNat (((0) + (1)) + (1))) (1)) 22 0 (Int.toNat ((2001) * ((((0) + (1)) + (1)) + (1)))) (1000)) 23 0 (Int.toNat ((((0) + (1)) + (1)) + (1))) (1)) 22 0 (Int.toNat ((2001) * (((((0) + (1)) + (1)) + (1)) + (1)))) (1000)) 23 0 (Int.toNat (((((0) + (1)) + (1)) + (1)) + (1))) (1)) t i = T t i := by
    intro t i ht
    rw [up_ne (fun q => by omega), up_ne (fun q => by omega), up_ne (fun q => by omega), up_ne (fun q => by omega), up_ne (fun q => by omega), up_ne (fun q => by omega), up_ne (fun q => by omega), up_ne (fun q => by omega), up_ne (fun q => by omega), up_ne (fun q => by omega), zrT_ne (fun q => by omega), zrT_ne (fun q => by omega), zrT_ne (fun q => by omega), zrT_ne (fun q => by omega), zrT_ne (fun q => by omega), zrT_ne (fun q => by omega), zrT_ne (fun q => by omega), zrT_ne (fun q => by omega), zrT_ne (fun q => by omega), zrT_ne (fun q => by omega), zrT_ne (fun q => by omega), zrT_ne (fun q => by omega), zrT_ne (fun q => by omega), zrT_ne (fun q => by omega), zrT_ne (fun q => by omega), up_ne (fun q => by omega), zrT_ne (fun q => by omega), zrT_ne (fun q => by omega), zrT_ne (fun q => by omega)]
  have hP : ∀ t i : Nat, t < 12 → (upP (zrP (upP (zrP (upP (zrP (upP (zrP (upP (zrP (upP (zrP (upP (zrP (upP (zrP (upP (zrP (upP (zrP (upP (zrP (upP (zrP (upP (zrP (upP (zrP (upP (zrP (upP (zrP (upP (zrP (upP (zrP P 22 0) 12 0 2 (some (ad1 22 0))) 23 0) 12 0 3 (some (ad2 23 0))) 24 0) 12 0 4 (some (ad3 24 0))) 27 0) 12 0 7 (some (ad4 27 0))) 28 0) 12 0 8 (some (ad5 28 0))) 29 0) 12 0 9 (some (ad6 29 0))) 31 0) 12 0 11 (some (ad7 31 0))) 32 0) 12 0 12 (some (ad8 32 0))) 33 0) 12 0 13 (some (ad9 33 0))) 34 0) 12 0 14 (some (ad10 34 0))) 35 0) 12 0 15 (some (ad11 35 0))) 36 0) 12 0 16 (some (ad12 36 0))) 37 0) 12 0 17 (some (ad13 37 0))) 38 0) 12 0 18 (some (ad14 38 0))) 39 0) 12 0 19 (some (ad15 39 0))) 40 0) 12 0 20 (some (ad16 40 0))) 41 0) 12 0 21 (some (ad17 41 0))) 42 0) 12 0 22 (some (ad18 42 0))) t i = P t i := by
    intro t i ht
    rw [upP_ne (fun q => by omega), zrP_ne (fun q => by omega), upP_ne (fun q => by omega), zrP_ne (fun q => by omega), upP_ne (fun q => by omega), zrP_ne (fun q => by omega), upP_ne (fun q => by omega), zrP_ne (fun q => by omega), upP_ne (fun q => by omega), zrP_ne (fun q => by omega), upP_ne (fun q => by omega), zrP_ne (fun q => by omega), upP_ne (fun q => by omega), zrP_ne (fun q => by omega), upP_ne (fun q => by omega), zrP_ne (fun q => by omega), upP_ne (fun q => by omega), zrP_ne (fun q => by omega), upP_ne (fun q => by omega), zrP_ne (fun q => by omega), upP_ne (fun q => by omega), zrP_ne (fun q => by omega), upP_ne (fun q => by omega), zrP_ne (fun q => by omega), upP_ne (fun q => by omega), zrP_ne (fun q => by omega), upP_ne (fun q => by omega), zrP_ne (fun q => by omega), upP_ne (fun q => by omega), zrP_ne (fun q => by omega), upP_ne (fun q => by omega), zrP_ne (fun q => by omega), upP_ne (fun q => by omega), zrP_ne (fun q => by omega), upP_ne (fun q => by omega), zrP_ne (fun q => by omega)]
  have h12 : (up (up (up (up (up (up (up (up (up (up (zrT (zrT (zrT (zrT (zrT (zrT (zrT (zrT (zrT (zrT (zrT (zrT (zrT (zrT (zrT (up (zrT (zrT (zrT T 22 0) 23 0) 24 0) 12 0 5 (1000)) 27 0) 28 0) 29 0) 31 0) 32 0) 33 0) 34 0) 35 0) 36 0) 37 0) 38 0) 39 0) 40 0) 41 0) 42 0) 22 0 (Int.toNat ((2001) * (0))) (1000)) 23 0 (Int.toNat 0) (1)) 22 0 (Int.toNat ((2001) * ((0) + (1)))) (1000)) 23 0 (Int.toNat ((0) + (1))) (1)) 22 0 (Int.toNat ((2001) * (((0) + (1)) + (1)))) (1000)) 23 0 (Int.toNat (((0) + (1)) + (1))) (1)) 22 0 (Int.toNat ((2001) * ((((0) + (1)) + (1)) + (1)))) (1000)) 23 0 (Int.toNat ((((0) + (1)) + (1)) + (1))) (1)) 22 0 (Int.toNat ((2001) * (((((0) + (1)) + (1)) + (1)) + (1)))) (1000)) 23 0 (Int.toNat (((((0) + (1)) + (1)) + (1)) + (1))) (1)) 12 0 0 = 0 ∧ (up (up (up (up (up (up (up (up (up (up (zrT (zrT (zrT (zrT (zrT (zrT (zrT (zrT (zrT (zrT (zrT (zrT (zrT (zrT (zrT (up (zrT (zrT (zrT T 22 0) 23 0) 24 0) 12 0 5 (1000)) 27 0) 28 0) 29 0) 31 0) 32 0) 33 0) 34 0) 35 0) 36 0) 37 0) 38 0) 39 0) 40 0) 41 0) 42 0) 22 0 (Int.toNat ((2001) * (0))) (1000)) 23 0 (Int.toNat 0) (1)) 22 0 (Int.toNat ((2001) * ((0) + (1)))) (1000)) 23 0 (Int.toNat ((0) + (1))) (1)) 22 0 (Int.toNat ((2001) * (((0) + (1)) + (1)))) (1000)) 23 0 (Int.toNat (((0) + (1)) + (1))) (1)) 22 0 (Int.toNat ((2001) * ((((0) + (1)) + (1)) + (1)))) (1000)) 23 0 (Int.toNat ((((0) + (1)) + (1)) + (1))) (1)) 22 0 (Int.toNat ((2001) * (((((0) + (1)) + (1)) + (1)) + (1)))) (1000)) 23 0 (Int.toNat (((((0) + (1)) + (1)) + (1)) + (1))) (1)) 12 0 1 = 0 ∧ (up (up (up (up (up (up (up (up (up (up (zrT (zrT (zrT (zrT (zrT (zrT (zrT (zrT (zrT (zrT (zrT (zrT (zrT (zrT (zrT (up (zrT (zrT (zrT T 22 0) 23 0) 24 0) 12 0 5 (1000)) 27 0) 28 0) 29 0) 31 0) 32 0) 33 0) 34 0) 35 0) 36 0) 37 0) 38 0) 39 0) 40 0) 41 0) 42 0) 22 0 (Int.toNat ((2001) * (0))) (1000)) 23 0 (Int.toNat 0) (1)) 22 0 (Int.toNat ((2001) * ((0) + (1)))) (1000)) 23 0 (Int.toNat ((0) + (1))) (1)) 22 0 (Int.toNat ((2001) * (((0) + (1)) + (1)))) (1000)) 23 0 (Int.toNat (((0) + (1)) + (1))) (1)) 22 0 (Int.toNat ((2001) * ((((0) + (1)) + (1)) + (1)))) (1000)) 23 0 (Int.toNat ((((0) + (1)) + (1)) + (1))) (1)) 22 0 (Int.toNat ((2001) * (((((0) + (1)) + (1)) + (1)) + (1)))) (1000)) 23 0 (Int.toNat (((((0) + (1)) + (1)) + (1)) + (1))) (1)) 12 0 5 = 1000 ∧ (up (up (up (up (up (up (up (up (up (up (zrT (zrT (zrT (zrT (zrT (zrT (zrT (zrT (zrT (zrT (zrT (zrT (zrT (zrT (zrT (up (zrT (zrT (zrT T 22 0) 23 0) 24 0) 12 0 5 (1000)) 27 0) 28 0) 29 0) 31 0) 32 0) 33 0) 34 0) 35 0) 36 0) 37 0) 38 0) 39 0) 40 0) 41 0) 42 0) 22 0 (Int.toNat ((2001) * (0))) (1000)) 23 0 (Int.toNat 0) (1)) 22 0 (Int.toNat ((2001) * ((0) + (1)))) (1000)) 23 0 (Int.toNat ((0) + (1))) (1)) 22 0 (Int.toNat ((2001) * (((0) + (1)) + (1)))) (1000)) 23 0 (Int.toNat (((0) + (1)) + (1))) (1)) 22 0 (Int.toNat ((2001) * ((((0) + (1)) + (1)) + (1)))) (1000)) 23 0 (Int.toNat ((((0) + (1)) + (1)) + (1))) (1)) 22 0 (Int.toNat ((2001) * (((((0) + (1)) + (1)) + (1)) + (1)))) (1000)) 23 0 (Int.toNat (((((0) + (1)) + (1)) + (1)) + (1))) (1)) 12 0 6 = 0 ∧ (up (up (up (up (up (up (up (up (up (up (zrT (zrT (zrT (zrT (zrT (zrT (zrT (zrT (zrT (zrT (zrT (zrT (zrT (zrT (zrT (up (zrT (zrT (zrT T 22 0) 23 0) 24 0) 12 0 5 (1000)) 27 0) 28 0) 29 0) 31 0) 32 0) 33 0) 34 0) 35 0) 36 0) 37 0) 38 0) 39 0) 40 0) 41 0) 42 0) 22 0 (Int.toNat ((2001) * (0))) (1000)) 23 0 (Int.toNat 0) (1)) 22 0 (Int.toNat ((2001) * ((0) + (1)))) (1000)) 23 0 (Int.toNat ((0) + (1))) (1)) 22 0 (Int.toNat ((2001) * (((0) + (1)) + (1)))) (1000)) 23 0 (Int.toNat (((0) + (1)) + (1))) (1)) 22 0 (Int.toNat ((2001) * ((((0) + (1)) + (1)) + (1)))) (1000)) 23 0 (Int.toNat ((((0) + (1)) + (1)) + (1))) (1)) 22 0 (Int.toNat ((2001) * (((((0) + (1)) + (1)) + (1)) + (1)))) (1000)) 23 0 (Int.toNat (((((0) + (1)) + (1)) + (1)) + (1))) (1)) 12 0 10 = 0 := by
    refine ⟨?_, ?_, ?_, ?_, ?_⟩ <;> simp [up, zrT, hz12]
  have h22 : ∀ p : Nat, p < 5 → (up (up (up (up (up (up (up (up (up (up (zrT (zrT (zrT (zrT (zrT (zrT (zrT (zrT (zrT (zrT (zrT (zrT (zrT (zrT (zrT (up (zrT (zrT (zrT T 22 0) 23 0) 24 0) 12 0 5 (1000)) 27 0) 28 0) 29 0) 31 0) 32 0) 33 0) 34 0) 35 0) 36 0) 37 0) 38 0) 39 0) 40 0) 41 0) 42 0) 22 0 (Int.toNat ((2001) * (0))) (1000)) 23 0 (Int.toNat 0) (1)) 22 0 (Int.toNat ((2001) * ((0) + (1)))) (1000)) 23 0 (Int.toNat ((0) + (1))) (1)) 22 0 (Int.toNat ((2001) * (((0) + (1)) + (1)))) (1000)) 23 0 (Int.toNat (((0) + (1)) + (1))) (1)) 22 0 (Int.toNat ((2001) * ((((0) + (1)) + (1)) + (1)))) (1000)) 23 0 (Int.toNat ((((0) + (1)) + (1)) + (1))) (1)) 22 0 (Int.toNat ((2001) * (((((0) + (1)) + (1)) + (1)) + (1)))) (1000)) 23 0 (Int.toNat (((((0) + (1)) + (1)) + (1)) + (1))) (1)) 22 0 (2001 * p) = 1000 ∧ (up (up (up (up (up (up (up (up (up (up (zrT (zrT (zrT (zrT (zrT (zrT (zrT (zrT (zrT (zrT (zrT (zrT (zrT (zrT (zrT (up (zrT (zrT (zrT T 22 0) 23 0) 24 0) 12 0 5 (1000)) 27 0) 28 0) 29 0) 31 0) 32 0) 33 0) 34 0) 35 0) 36 0) 37 0) 38 0) 39 0) 40 0) 41 0) 42 0) 22 0 (Int.toNat ((2001) * (0))) (1000)) 23 0 (Int.toNat 0) (1)) 22 0 (Int.toNat ((2001) * ((0) + (1)))) (1000)) 23 0 (Int.toNat ((0) + (1))) (1)) 22 0 (Int.toNat ((2001) * (((0) + (1)) + (1)))) (1000)) 23 0 (Int.toNat (((0) + (1)) + (1))) (1)) 22 0 (Int.toNat ((2001) * ((((0) + (1)) + (1)) + (1)))) (1000)) 23 0 (Int.toNat ((((0) + (1)) + (1)) + (1))) (1)) 22 0 (Int.toNat ((2001) * (((((0) + (1)) + (1)) + (1)) + (1)))) (1000)) 23 0 (Int.toNat (((((0) + (1)) + (1)) + (1)) + (1))) (1)) 23 0 p = 1 ∧ (up (up (up (up (up (up (up (up (up (up (zrT (zrT (zrT (zrT (zrT (zrT (zrT (zrT (zrT (zrT (zrT (zrT (zrT (zrT (zrT (up (zrT (zrT (zrT T 22 0) 23 0) 24 0) 12 0 5 (1000)) 27 0) 28 0) 29 0) 31 0) 32 0) 33 0) 34 0) 35 0) 36 0) 37 0) 38 0) 39 0) 40 0) 41 0) 42 0) 22 0 (Int.toNat ((2001) * (0))) (1000)) 23 0 (Int.toNat 0) (1)) 22 0 (Int.toNat ((2001) * ((0) + (1)))) (1000)) 23 0 (Int.toNat ((0) + (1))) (1)) 22 0 (Int.toNat ((2001) * (((0) + (1)) + (1)))) (1000)) 23 0 (Int.toNat (((0) + (1)) + (1))) (1)) 22 0 (Int.toNat ((2001) * ((((0) + (1)) + (1)) + (1)))) (1000)) 23 0 (Int.toNat ((((0) + (1)) + (1)) + (1))) (1)) 22 0 (Int.toNat ((2001) * (((((0) + (1)) + (1)) + (1)) + (1)))) (1000)) 23 0 (Int.toNat (((((0) + (1)) + (1)) + (1)) + (1))) (1)) 24 0 p = 0 := by
    intro p hp
    rcases (show p = 0 ∨ p = 1 ∨ p = 2 ∨ p = 3 ∨ p = 4 by omega) with rfl | rfl | rfl | rfl | rfl <;> refine ⟨?_, ?_, ?_⟩ <;> simp [up, zrT]
  have h27 : ∀ t ∈ [27, 28, 29, 31, 32, 33, 34, 35, 36, 37, 38, 39, 40, 41, 42], ∀ j : Nat, (up (up (up (up (up (up (up (up (up (up (zrT (zrT (zrT (zrT (zrT (zrT (zrT (zrT (zrT (zrT (zrT (zrT (zrT (zrT (zrT (up (zrT (zrT (zrT T 22 0) 23 0) 24 0) 12 0 5 (1000)) 27 0) 28 0) 29 0) 31 0) 32 0) 33 0) 34 0) 35 0) 36 0) 37 0) 38 0) 39 0) 40 0) 41 0) 42 0) 22 0 (Int.toNat ((2001) * (0))) (1000)) 23 0 (Int.toNat 0) (1)) 22 0 (Int.toNat ((2001) * ((0) + (1)))) (1000)) 23 0 (Int.toNat ((0) + (1))) (1)) 22 0 (Int.toNat ((2001) * (((0) + (1)) + (1)))) (1000)) 23 0 (Int.toNat (((0) + (1)) + (1))) (1)) 22 0 (Int.toNat ((2001) * ((((0) + (1)) + (1)) + (1)))) (1000)) 23 0 (Int.toNat ((((0) + (1)) + (1)) + (1))) (1)) 22 0 (Int.toNat ((2001) * (((((0) + (1)) + (1)) + (1)) + (1)))) (1000)) 23 0 (Int.toNat (((((0) + (1)) + (1)) + (1)) + (1))) (1)) t 0 j = 0 := by
    intro t ht j
    rcases (show t = 27 ∨ t = 28 ∨ t = 29 ∨ t = 31 ∨ t = 32 ∨ t = 33 ∨ t = 34 ∨ t = 35 ∨ t = 36 ∨ t = 37 ∨ t = 38 ∨ t = 39 ∨ t = 40 ∨ t = 41 ∨ t = 42 from by simpa using ht) with rfl | rfl | rfl | rfl | rfl | rfl | rfl | rfl | rfl | rfl | rfl | rfl | rfl | rfl | rfl <;> simp [up, zrT]
  exact y_vret hM hr hlk hC ⟨rfl, _, _, _, rfl, hMI, hA, hT, hP, h12, h22, h27⟩ (Nat.le_of_ble_eq_true rfl) (Nat.le_of_ble_eq_true rfl) dX4_init_186
