set_option maxRecDepth 100000 in
set_option maxHeartbeats 8000000 in
theorem c_M_pass (l : Launch) (hfl : l.stackTraces = false) (G : GG) (b0 : Nat) (ks : KK) (ad : AD) (T : TT) (P : PP) (z : Int) (hz : inI z) (hMI : MI ks ad P) (hMN : MN T)  : vx_Met l yX4_pass wsX4_pass (rmX 1 0 0 22) (va_Pc [.ref (ad 12 0), .int (iI (z))] (Ok G b0 (ks, ad, T, P))) (Qr (fun v u1 => ∃ (r : Int) (T1 : TT), v = some (.int (iI r)) ∧ (((z < 1 ∨ 100 < z) ∧ T1 = up T 12 0 0 1) ∨ ((1 ≤ z ∧ z ≤ 100 ∧ 2000 < T 12 0 1 + z) ∧ T1 = up T 12 0 0 2) ∨ ((1 ≤ z ∧ z ≤ 100 ∧ T 12 0 1 + z ≤ 2000 ∧ r = T 12 0 1 + z) ∧ mpas T z T1)) ∧ u1 = (ks, ad, T1, P)) G b0) (Xr (noX) G b0) 0 0 (Wx b0) := by
  refine vx_ofW (cc := cX4_pass) (maxL := 4) (ret := (some .int)) (by decide +kernel) rfl ?_
  intro p e s m args below meth c s₁ B hml hto hv
  obtain ⟨rfl, hok⟩ := hv
  have hM : CallFix p m c cX4_pass 4 s _ wsX4_pass RX4 := ⟨B.exec, B.bytes, hml, findClass_of_methodNamed B.named, atoms_spec (ws := wsX4_pass) B.pre⟩
  have hr := B.returns
  have hlk := B.notSynchronized
  have hC := hok.cur
  have hl := lv_entry ([.ref (ad 12 0), .int (iI (z))]) (n := 4) (Nat.le_of_ble_eq_true rfl)
  rw [lg_entry_eq]
  generalize (lg_sl ([.ref (ad 12 0), .int (iI (z))]) ++ List.replicate (4 - (lg_sl ([.ref (ad 12 0), .int (iI (z))])).length) Slot.unset).toArray = ls at hl ⊢
  have hl : lv_has ls 4 [(0, .ref (ad 12 0)), (1, .int (iI (z)))] := hl
  obtain ⟨⟨m1a, m1b⟩, ⟨m5a, m5b⟩, ⟨m6a, m6b⟩, ⟨mxa, mxb⟩, mpv, mpp, msv, mor⟩ := id hMN
  have hloop : 1 ≤ z → z ≤ 100 → T 12 0 1 + z ≤ 2000 → ∀ (n k : Nat), (k : Int) + n = z → ∀ (T1 : TT), mpas T ((k : Nat) : Int) T1 → ∀ (ls : Array Slot) (H : Heap) (locs : List Loc), Cur G b0 (ks, ad, T1, P) s H locs → lv_has ls 4 [(2, .int (iI (((k : Nat) : Int)))), (0, .ref (ad 12 0)), (1, .int (iI (z)))] → W p l e (headSpec wsX4_pass (rmX 1 0 0 22)).room s m [.ref (ad 12 0), .int (iI (z))].toArray below meth c H locs 0 0 (vx_MQ below (Qr (fun v u1 => ∃ (r : Int) (T1 : TT), v = some (.int (iI r)) ∧ (((z < 1 ∨ 100 < z) ∧ T1 = up T 12 0 0 1) ∨ ((1 ≤ z ∧ z ≤ 100 ∧ 2000 < T 12 0 1 + z) ∧ T1 = up T 12 0 0 2) ∨ ((1 ≤ z ∧ z ≤ 100 ∧ T 12 0 1 + z ≤ 2000 ∧ r = T 12 0 1 + z) ∧ mpas T z T1)) ∧ u1 = (ks, ad, T1, P)) G b0) (Xr (noX) G b0) [.ref (ad 12 0), .int (iI (z))].toArray s 0 0 (Wx b0)) (F0 m 37 ls []) := by
    intro hz1 hz2 hz3 n
    induction n with
    | zero =>
      intro k hk T1 hp ls H locs hC hl
      refine y_iload_n hM hl 0 rfl rfl dX4_pass_37 ?_
      refine y_iload_n hM hl 2 rfl rfl dX4_pass_38 ?_
      refine y_icmp_ge hM (by constructor <;> omega) (by constructor <;> omega) (tgt := 110) dX4_pass_39 (by decide) (fun c_39 => ?_) (fun c_39 => False.elim (by omega))
      refine y_aload_n hM hl 1 rfl rfl dX4_pass_110 ?_
      refine y_get hM hC hMI.1 rfl rfl (by decide +kernel) 1 ⟨by decide, rfl, rfl, rfl⟩ (by decide +kernel) (congrArg (fun q => some (Value.int (iI q))) (show T1 12 0 1 = (T 12 0 1 + z) from (by rw [hp.2.1]; omega))) dX4_pass_111 ?_
      exact y_iret hM hr hlk hC ⟨_, _, rfl, (Or.inr (Or.inr ⟨⟨by omega, by omega, by omega, rfl⟩, by rw [show z = ((k : Nat) : Int) by omega]; exact hp⟩)), rfl⟩ (Nat.le_of_ble_eq_true rfl) (Nat.le_of_ble_eq_true rfl) dX4_pass_114
    | succ n ih =>
      intro k hk T1 hp ls H locs hC hl
      refine y_iload_n hM hl 0 rfl rfl dX4_pass_37 ?_
      refine y_iload_n hM hl 2 rfl rfl dX4_pass_38 ?_
      refine y_icmp_ge hM (by constructor <;> omega) (by constructor <;> omega) (tgt := 110) dX4_pass_39 (by decide) (fun c_39 => False.elim (by omega)) (fun c_39 => ?_)
      refine y_aload_n hM hl 1 rfl rfl dX4_pass_42 ?_
      refine y_get hM hC hMI.1 rfl rfl (by decide +kernel) 0 ⟨by decide, rfl, rfl, rfl⟩ (by decide +kernel) (congrArg (fun q => some (Value.int (iI q))) (show T1 12 0 0 = 0 from hp.1)) dX4_pass_43 ?_
      refine y_if_ne hM (by constructor <;> omega) (tgt := 110) dX4_pass_46 (by decide) (fun c_46 => False.elim (by omega)) (fun c_46 => ?_)
      refine y_aload_n hM hl 1 rfl rfl dX4_pass_49 ?_
      refine lv_dup hM.1 hM.2.1 dX4_pass_50 rfl ?_
      refine y_get hM hC hMI.1 rfl rfl (by decide +kernel) 1 ⟨by decide, rfl, rfl, rfl⟩ (by decide +kernel) (congrArg (fun q => some (Value.int (iI q))) (show T1 12 0 1 = (T 12 0 1 + ((k : Nat) : Int)) from hp.2.1)) dX4_pass_51 ?_
      refine y_iconst hM dX4_pass_54 ?_
      refine y_iadd hM dX4_pass_55 ?_
      refine y_put hM hC hMI.1 rfl rfl (by decide +kernel) tyX4 tyX4_ok nmX4 1 ⟨by decide, rfl, rfl, rfl, rfl⟩ (by decide +kernel) (ty := .int) (by decide +kernel) rfl rfl (Nat.le_of_ble_eq_true rfl) (T' := (up T1 12 0 1 (((T 12 0 1 + ((k : Nat) : Int))) + (1)))) (P' := P) (cF_up rfl) (fun _ _ h => up_ne h) (fun _ _ _ => rfl) dX4_pass_56 (fun H locs hC => ?_)
      refine y_iconst hM dX4_pass_59 ?_
      refine lv_istore_n (lv' := [(3, .int (iI (0))), (2, .int (iI (((k : Nat) : Int)))), (0, .ref (ad 12 0)), (1, .int (iI (z)))]) hM.1 hM.2.1 dX4_pass_60 rfl hl (by decide) rfl (fun ls hl => ?_)
      refine y_iload_n hM hl 0 rfl rfl dX4_pass_61 ?_
      refine y_iconst hM dX4_pass_62 ?_
      refine y_icmp_ge hM (by constructor <;> omega) (by constructor <;> omega) (tgt := 104) dX4_pass_63 (by decide) (fun c_63 => False.elim (by omega)) (fun c_63 => ?_)
      refine y_aload_n hM hl 2 rfl rfl dX4_pass_66 ?_
      refine y_get hM hC hMI.1 rfl rfl (by decide +kernel) 2 ⟨by decide, rfl, rfl, rfl⟩ (by decide +kernel) (congrArg (fun q => some (va_rf q)) (hMI.2 2 (by decide)).2) dX4_pass_67 ?_
      refine W.eq (g2 := F0 m 70 ls [.ref (ad 22 0)]) rfl ?_
      refine y_sipush hM dX4_pass_70 (by decide) ?_
      refine y_iload_n hM hl 0 rfl rfl dX4_pass_73 ?_
      refine y_imul hM dX4_pass_74 ?_
      refine y_aload_n hM hl 2 rfl rfl dX4_pass_75 ?_
      refine y_get hM hC hMI.1 rfl rfl (by decide +kernel) 1 ⟨by decide, rfl, rfl, rfl⟩ (by decide +kernel) (congrArg (fun q => some (Value.int (iI q))) (show (up T1 12 0 1 (((T 12 0 1 + ((k : Nat) : Int))) + (1))) 12 0 1 = ((T 12 0 1 + ((k : Nat) : Int))) + (1) from by simp [up, zrT])) dX4_pass_76 ?_
      refine y_iadd hM dX4_pass_79 ?_
      refine y_aload_n hM hl 2 rfl rfl dX4_pass_80 ?_
      refine y_get hM hC hMI.1 rfl rfl (by decide +kernel) 2 ⟨by decide, rfl, rfl, rfl⟩ (by decide +kernel) (congrArg (fun q => some (va_rf q)) (hMI.2 2 (by decide)).2) dX4_pass_81 ?_
      refine W.eq (g2 := F0 m 84 ls [.ref (ad 22 0), .int (iI (((2001) * (0)) + (((T 12 0 1 + ((k : Nat) : Int))) + (1)))), .ref (ad 22 0)]) rfl ?_
      refine y_sipush hM dX4_pass_84 (by decide) ?_
      refine y_iload_n hM hl 0 rfl rfl dX4_pass_87 ?_
      refine y_imul hM dX4_pass_88 ?_
      refine y_aload_n hM hl 2 rfl rfl dX4_pass_89 ?_
      refine y_get hM hC hMI.1 rfl rfl (by decide +kernel) 1 ⟨by decide, rfl, rfl, rfl⟩ (by decide +kernel) (congrArg (fun q => some (Value.int (iI q))) (show (up T1 12 0 1 (((T 12 0 1 + ((k : Nat) : Int))) + (1))) 12 0 1 = ((T 12 0 1 + ((k : Nat) : Int))) + (1) from by simp [up, zrT])) dX4_pass_90 ?_
      refine y_iadd hM dX4_pass_93 ?_
      refine y_iconst hM dX4_pass_94 ?_
      refine y_isub hM dX4_pass_95 ?_
      refine y_iald hM hC (hMI.2 2 (by decide)).1 rfl ⟨by omega, by omega⟩ (by decide) (x := (T1 22 0 (2001 * 0 + (T 12 0 1 + ((k : Nat) : Int))).toNat)) (by rw [up_of (by omega)]; exact congrArg (T1 22 0) (by omega)) dX4_pass_96 ?_
      refine y_iast hM hC (hMI.2 2 (by decide)).1 (fun _ _ => rfl) ⟨by omega, by omega⟩ (by decide) dX4_pass_97 (fun H locs hC => ?_)
      refine lv_iinc (v := iI ((0) + (1))) (lv' := [(3, .int (iI ((0) + (1)))), (2, .int (iI (((k : Nat) : Int)))), (0, .ref (ad 12 0)), (1, .int (iI (z)))]) hM.1 hM.2.1 dX4_pass_98 hl (k := 0) rfl (iI_add _ _) (by decide) rfl (fun ls hl => ?_)
      refine lv_goto (tgt := 61) hM.1 hM.2.1 dX4_pass_101 (by decide) ?_
      refine y_iload_n hM hl 0 rfl rfl dX4_pass_61 ?_
      refine y_iconst hM dX4_pass_62 ?_
      refine y_icmp_ge hM (by constructor <;> omega) (by constructor <;> omega) (tgt := 104) dX4_pass_63 (by decide) (fun c_63 => False.elim (by omega)) (fun c_63 => ?_)
      refine y_aload_n hM hl 2 rfl rfl dX4_pass_66 ?_
      refine y_get hM hC hMI.1 rfl rfl (by decide +kernel) 2 ⟨by decide, rfl, rfl, rfl⟩ (by decide +kernel) (congrArg (fun q => some (va_rf q)) (hMI.2 2 (by decide)).2) dX4_pass_67 ?_
      refine W.eq (g2 := F0 m 70 ls [.ref (ad 22 0)]) rfl ?_
      refine y_sipush hM dX4_pass_70 (by decide) ?_
      refine y_iload_n hM hl 0 rfl rfl dX4_pass_73 ?_
      refine y_imul hM dX4_pass_74 ?_
      refine y_aload_n hM hl 2 rfl rfl dX4_pass_75 ?_
      refine y_get hM hC hMI.1 rfl rfl (by decide +kernel) 1 ⟨by decide, rfl, rfl, rfl⟩ (by decide +kernel) (congrArg (fun q => some (Value.int (iI q))) (show (up (up T1 12 0 1 (((T 12 0 1 + ((k : Nat) : Int))) + (1))) 22 0 ((((2001) * (0)) + (((T 12 0 1 + ((k : Nat) : Int))) + (1))).toNat) ((T1 22 0 (2001 * 0 + (T 12 0 1 + ((k : Nat) : Int))).toNat))) 12 0 1 = ((T 12 0 1 + ((k : Nat) : Int))) + (1) from by simp [up, zrT])) dX4_pass_76 ?_
      refine y_iadd hM dX4_pass_79 ?_
      refine y_aload_n hM hl 2 rfl rfl dX4_pass_80 ?_
      refine y_get hM hC hMI.1 rfl rfl (by decide +kernel) 2 ⟨by decide, rfl, rfl, rfl⟩ (by decide +kernel) (congrArg (fun q => some (va_rf q)) (hMI.2 2 (by decide)).2) dX4_pass_81 ?_
      refine W.eq (g2 := F0 m 84 ls [.ref (ad 22 0), .int (iI (((2001) * ((0) + (1))) + (((T 12 0 1 + ((k : Nat) : Int))) + (1)))), .ref (ad 22 0)]) rfl ?_
      refine y_sipush hM dX4_pass_84 (by decide) ?_
      refine y_iload_n hM hl 0 rfl rfl dX4_pass_87 ?_
      refine y_imul hM dX4_pass_88 ?_
      refine y_aload_n hM hl 2 rfl rfl dX4_pass_89 ?_
      refine y_get hM hC hMI.1 rfl rfl (by decide +kernel) 1 ⟨by decide, rfl, rfl, rfl⟩ (by decide +kernel) (congrArg (fun q => some (Value.int (iI q))) (show (up (up T1 12 0 1 (((T 12 0 1 + ((k : Nat) : Int))) + (1))) 22 0 ((((2001) * (0)) + (((T 12 0 1 + ((k : Nat) : Int))) + (1))).toNat) ((T1 22 0 (2001 * 0 + (T 12 0 1 + ((k : Nat) : Int))).toNat))) 12 0 1 = ((T 12 0 1 + ((k : Nat) : Int))) + (1) from by simp [up, zrT])) dX4_pass_90 ?_
      refine y_iadd hM dX4_pass_93 ?_
      refine y_iconst hM dX4_pass_94 ?_
      refine y_isub hM dX4_pass_95 ?_
      refine y_iald hM hC (hMI.2 2 (by decide)).1 rfl ⟨by omega, by omega⟩ (by decide) (x := (T1 22 0 (2001 * 1 + (T 12 0 1 + ((k : Nat) : Int))).toNat)) (by rw [up_of (by omega), up_of (by omega)]; exact congrArg (T1 22 0) (by omega)) dX4_pass_96 ?_
      refine y_iast hM hC (hMI.2 2 (by decide)).1 (fun _ _ => rfl) ⟨by omega, by omega⟩ (by decide) dX4_pass_97 (fun H locs hC => ?_)
      refine lv_iinc (v := iI (((0) + (1)) + (1))) (lv' := [(3, .int (iI (((0) + (1)) + (1)))), (2, .int (iI (((k : Nat) : Int)))), (0, .ref (ad 12 0)), (1, .int (iI (z)))]) hM.1 hM.2.1 dX4_pass_98 hl (k := 0) rfl (iI_add _ _) (by decide) rfl (fun ls hl => ?_)
      refine lv_goto (tgt := 61) hM.1 hM.2.1 dX4_pass_101 (by decide) ?_
      refine y_iload_n hM hl 0 rfl rfl dX4_pass_61 ?_
      refine y_iconst hM dX4_pass_62 ?_
      refine y_icmp_ge hM (by constructor <;> omega) (by constructor <;> omega) (tgt := 104) dX4_pass_63 (by decide) (fun c_63 => False.elim (by omega)) (fun c_63 => ?_)
      refine y_aload_n hM hl 2 rfl rfl dX4_pass_66 ?_
      refine y_get hM hC hMI.1 rfl rfl (by decide +kernel) 2 ⟨by decide, rfl, rfl, rfl⟩ (by decide +kernel) (congrArg (fun q => some (va_rf q)) (hMI.2 2 (by decide)).2) dX4_pass_67 ?_
      refine W.eq (g2 := F0 m 70 ls [.ref (ad 22 0)]) rfl ?_
      refine y_sipush hM dX4_pass_70 (by decide) ?_
      refine y_iload_n hM hl 0 rfl rfl dX4_pass_73 ?_
      refine y_imul hM dX4_pass_74 ?_
      refine y_aload_n hM hl 2 rfl rfl dX4_pass_75 ?_
      refine y_get hM hC hMI.1 rfl rfl (by decide +kernel) 1 ⟨by decide, rfl, rfl, rfl⟩ (by decide +kernel) (congrArg (fun q => some (Value.int (iI q))) (show (up (up (up T1 12 0 1 (((T 12 0 1 + ((k : Nat) : Int))) + (1))) 22 0 ((((2001) * (0)) + (((T 12 0 1 + ((k : Nat) : Int))) + (1))).toNat) ((T1 22 0 (2001 * 0 + (T 12 0 1 + ((k : Nat) : Int))).toNat))) 22 0 ((((2001) * ((0) + (1))) + (((T 12 0 1 + ((k : Nat) : Int))) + (1))).toNat) ((T1 22 0 (2001 * 1 + (T 12 0 1 + ((k : Nat) : Int))).toNat))) 12 0 1 = ((T 12 0 1 + ((k : Nat) : Int))) + (1) from by simp [up, zrT])) dX4_pass_76 ?_
      refine y_iadd hM dX4_pass_79 ?_
      refine y_aload_n hM hl 2 rfl rfl dX4_pass_80 ?_
      refine y_get hM hC hMI.1 rfl rfl (by decide +kernel) 2 ⟨by decide, rfl, rfl, rfl⟩ (by decide +kernel) (congrArg (fun q => some (va_rf q)) (hMI.2 2 (by decide)).2) dX4_pass_81 ?_
      refine W.eq (g2 := F0 m 84 ls [.ref (ad 22 0), .int (iI (((2001) * (((0) + (1)) + (1))) + (((T 12 0 1 + ((k : Nat) : Int))) + (1)))), .ref (ad 22 0)]) rfl ?_
      refine y_sipush hM dX4_pass_84 (by decide) ?_
      refine y_iload_n hM hl 0 rfl rfl dX4_pass_87 ?_
      refine y_imul hM dX4_pass_88 ?_
      refine y_aload_n hM hl 2 rfl rfl dX4_pass_89 ?_
      refine y_get hM hC hMI.1 rfl rfl (by decide +kernel) 1 ⟨by decide, rfl, rfl, rfl⟩ (by decide +kernel) (congrArg (fun q => some (Value.int (iI q))) (show (up (up (up T1 12 0 1 (((T 12 0 1 + ((k : Nat) : Int))) + (1))) 22 0 ((((2001) * (0)) + (((T 12 0 1 + ((k : Nat) : Int))) + (1))).toNat) ((T1 22 0 (2001 * 0 + (T 12 0 1 + ((k : Nat) : Int))).toNat))) 22 0 ((((2001) * ((0) + (1))) + (((T 12 0 1 + ((k : Nat) : Int))) + (1))).toNat) ((T1 22 0 (2001 * 1 + (T 12 0 1 + ((k : Nat) : Int))).toNat))) 12 0 1 = ((T 12 0 1 + ((k : Nat) : Int))) + (1) from by simp [up, zrT])) dX4_pass_90 ?_
      refine y_iadd hM dX4_pass_93 ?_
      refine y_iconst hM dX4_pass_94 ?_
      refine y_isub hM dX4_pass_95 ?_
      refine y_iald hM hC (hMI.2 2 (by decide)).1 rfl ⟨by omega, by omega⟩ (by decide) (x := (T1 22 0 (2001 * 2 + (T 12 0 1 + ((k : Nat) : Int))).toNat)) (by rw [up_of (by omega), up_of (by omega), up_of (by omega)]; exact congrArg (T1 22 0) (by omega)) dX4_pass_96 ?_
      refine y_iast hM hC (hMI.2 2 (by decide)).1 (fun _ _ => rfl) ⟨by omega, by omega⟩ (by decide) dX4_pass_97 (fun H locs hC => ?_)
      refine lv_iinc (v := iI ((((0) + (1)) + (1)) + (1))) (lv' := [(3, .int (iI ((((0) + (1)) + (1)) + (1)))), (2, .int (iI (((k : Nat) : Int)))), (0, .ref (ad 12 0)), (1, .int (iI (z)))]) hM.1 hM.2.1 dX4_pass_98 hl (k := 0) rfl (iI_add _ _) (by decide) rfl (fun ls hl => ?_)
      refine lv_goto (tgt := 61) hM.1 hM.2.1 dX4_pass_101 (by decide) ?_
      refine y_iload_n hM hl 0 rfl rfl dX4_pass_61 ?_
      refine y_iconst hM dX4_pass_62 ?_
      refine y_icmp_ge hM (by constructor <;> omega) (by constructor <;> omega) (tgt := 104) dX4_pass_63 (by decide) (fun c_63 => False.elim (by omega)) (fun c_63 => ?_)
      refine y_aload_n hM hl 2 rfl rfl dX4_pass_66 ?_
      refine y_get hM hC hMI.1 rfl rfl (by decide +kernel) 2 ⟨by decide, rfl, rfl, rfl⟩ (by decide +kernel) (congrArg (fun q => some (va_rf q)) (hMI.2 2 (by decide)).2) dX4_pass_67 ?_
      refine W.eq (g2 := F0 m 70 ls [.ref (ad 22 0)]) rfl ?_
      refine y_sipush hM dX4_pass_70 (by decide) ?_
      refine y_iload_n hM hl 0 rfl rfl dX4_pass_73 ?_
      refine y_imul hM dX4_pass_74 ?_
      refine y_aload_n hM hl 2 rfl rfl dX4_pass_75 ?_
      refine y_get hM hC hMI.1 rfl rfl (by decide +kernel) 1 ⟨by decide, rfl, rfl, rfl⟩ (by decide +kernel) (congrArg (fun q => some (Value.int (iI q))) (show (up (up (up (up T1 12 0 1 (((T 12 0 1 + ((k : Nat) : Int))) + (1))) 22 0 ((((2001) * (0)) + (((T 12 0 1 + ((k : Nat) : Int))) + (1))).toNat) ((T1 22 0 (2001 * 0 + (T 12 0 1 + ((k : Nat) : Int))).toNat))) 22 0 ((((2001) * ((0) + (1))) + (((T 12 0 1 + ((k : Nat) : Int))) + (1))).toNat) ((T1 22 0 (2001 * 1 + (T 12 0 1 + ((k : Nat) : Int))).toNat))) 22 0 ((((2001) * (((0) + (1)) + (1))) + (((T 12 0 1 + ((k : Nat) : Int))) + (1))).toNat) ((T1 22 0 (2001 * 2 + (T 12 0 1 + ((k : Nat) : Int))).toNat))) 12 0 1 = ((T 12 0 1 + ((k : Nat) : Int))) + (1) from by simp [up, zrT])) dX4_pass_76 ?_
      refine y_iadd hM dX4_pass_79 ?_
      refine y_aload_n hM hl 2 rfl rfl dX4_pass_80 ?_
      refine y_get hM hC hMI.1 rfl rfl (by decide +kernel) 2 ⟨by decide, rfl, rfl, rfl⟩ (by decide +kernel) (congrArg (fun q => some (va_rf q)) (hMI.2 2 (by decide)).2) dX4_pass_81 ?_
      refine W.eq (g2 := F0 m 84 ls [.ref (ad 22 0), .int (iI (((2001) * ((((0) + (1)) + (1)) + (1))) + (((T 12 0 1 + ((k : Nat) : Int))) + (1)))), .ref (ad 22 0)]) rfl ?_
      refine y_sipush hM dX4_pass_84 (by decide) ?_
      refine y_iload_n hM hl 0 rfl rfl dX4_pass_87 ?_
      refine y_imul hM dX4_pass_88 ?_
      refine y_aload_n hM hl 2 rfl rfl dX4_pass_89 ?_
      refine y_get hM hC hMI.1 rfl rfl (by decide +kernel) 1 ⟨by decide, rfl, rfl, rfl⟩ (by decide +kernel) (congrArg (fun q => some (Value.int (iI q))) (show (up (up (up (up T1 12 0 1 (((T 12 0 1 + ((k : Nat) : Int))) + (1))) 22 0 ((((2001) * (0)) + (((T 12 0 1 + ((k : Nat) : Int))) + (1))).toNat) ((T1 22 0 (2001 * 0 + (T 12 0 1 + ((k : Nat) : Int))).toNat))) 22 0 ((((2001) * ((0) + (1))) + (((T 12 0 1 + ((k : Nat) : Int))) + (1))).toNat) ((T1 22 0 (2001 * 1 + (T 12 0 1 + ((k : Nat) : Int))).toNat))) 22 0 ((((2001) * (((0) + (1)) + (1))) + (((T 12 0 1 + ((k : Nat) : Int))) + (1))).toNat) ((T1 22 0 (2001 * 2 + (T 12 0 1 + ((k : Nat) : Int))).toNat))) 12 0 1 = ((T 12 0 1 + ((k : Nat) : Int))) + (1) from by simp [up, zrT])) dX4_pass_90 ?_
      refine y_iadd hM dX4_pass_93 ?_
      refine y_iconst hM dX4_pass_94 ?_
      refine y_isub hM dX4_pass_95 ?_
      refine y_iald hM hC (hMI.2 2 (by decide)).1 rfl ⟨by omega, by omega⟩ (by decide) (x := (T1 22 0 (2001 * 3 + (T 12 0 1 + ((k : Nat) : Int))).toNat)) (by rw [up_of (by omega), up_of (by omega), up_of (by omega), up_of (by omega)]; exact congrArg (T1 22 0) (by omega)) dX4_pass_96 ?_
      refine y_iast hM hC (hMI.2 2 (by decide)).1 (fun _ _ => rfl) ⟨by omega, by omega⟩ (by decide) dX4_pass_97 (fun H locs hC => ?_)
      refine lv_iinc (v := iI (((((0) + (1)) + (1)) + (1)) + (1))) (lv' := [(3, .int (iI (((((0) + (1)) + (1)) + (1)) + (1)))), (2, .int (iI (((k : Nat) : Int)))), (0, .ref (ad 12 0)), (1, .int (iI (z)))]) hM.1 hM.2.1 dX4_pass_98 hl (k := 0) rfl (iI_add _ _) (by decide) rfl (fun ls hl => ?_)
      refine lv_goto (tgt := 61) hM.1 hM.2.1 dX4_pass_101 (by decide) ?_
      refine y_iload_n hM hl 0 rfl rfl dX4_pass_61 ?_
      refine y_iconst hM dX4_pass_62 ?_
      refine y_icmp_ge hM (by constructor <;> omega) (by constructor <;> omega) (tgt := 104) dX4_pass_63 (by decide) (fun c_63 => False.elim (by omega)) (fun c_63 => ?_)
      refine y_aload_n hM hl 2 rfl rfl dX4_pass_66 ?_
      refine y_get hM hC hMI.1 rfl rfl (by decide +kernel) 2 ⟨by decide, rfl, rfl, rfl⟩ (by decide +kernel) (congrArg (fun q => some (va_rf q)) (hMI.2 2 (by decide)).2) dX4_pass_67 ?_
      refine W.eq (g2 := F0 m 70 ls [.ref (ad 22 0)]) rfl ?_
      refine y_sipush hM dX4_pass_70 (by decide) ?_
      refine y_iload_n hM hl 0 rfl rfl dX4_pass_73 ?_
      refine y_imul hM dX4_pass_74 ?_
      refine y_aload_n hM hl 2 rfl rfl dX4_pass_75 ?_
      refine y_get hM hC hMI.1 rfl rfl (by decide +kernel) 1 ⟨by decide, rfl, rfl, rfl⟩ (by decide +kernel) (congrArg (fun q => some (Value.int (iI q))) (show (up (up (up (up (up T1 12 0 1 (((T 12 0 1 + ((k : Nat) : Int))) + (1))) 22 0 ((((2001) * (0)) + (((T 12 0 1 + ((k : Nat) : Int))) + (1))).toNat) ((T1 22 0 (2001 * 0 + (T 12 0 1 + ((k : Nat) : Int))).toNat))) 22 0 ((((2001) * ((0) + (1))) + (((T 12 0 1 + ((k : Nat) : Int))) + (1))).toNat) ((T1 22 0 (2001 * 1 + (T 12 0 1 + ((k : Nat) : Int))).toNat))) 22 0 ((((2001) * (((0) + (1)) + (1))) + (((T 12 0 1 + ((k : Nat) : Int))) + (1))).toNat) ((T1 22 0 (2001 * 2 + (T 12 0 1 + ((k : Nat) : Int))).toNat))) 22 0 ((((2001) * ((((0) + (1)) + (1)) + (1))) + (((T 12 0 1 + ((k : Nat) : Int))) + (1))).toNat) ((T1 22 0 (2001 * 3 + (T 12 0 1 + ((k : Nat) : Int))).toNat))) 12 0 1 = ((T 12 0 1 + ((k : Nat) : Int))) + (1) from by simp [up, zrT])) dX4_pass_76 ?_
      refine y_iadd hM dX4_pass_79 ?_
      refine y_aload_n hM hl 2 rfl rfl dX4_pass_80 ?_
      refine y_get hM hC hMI.1 rfl rfl (by decide +kernel) 2 ⟨by decide, rfl, rfl, rfl⟩ (by decide +kernel) (congrArg (fun q => some (va_rf q)) (hMI.2 2 (by decide)).2) dX4_pass_81 ?_
      refine W.eq (g2 := F0 m 84 ls [.ref (ad 22 0), .int (iI (((2001) * (((((0) + (1)) + (1)) + (1)) + (1))) + (((T 12 0 1 + ((k : Nat) : Int))) + (1)))), .ref (ad 22 0)]) rfl ?_
      refine y_sipush hM dX4_pass_84 (by decide) ?_
      refine y_iload_n hM hl 0 rfl rfl dX4_pass_87 ?_
      refine y_imul hM dX4_pass_88 ?_
      refine y_aload_n hM hl 2 rfl rfl dX4_pass_89 ?_
      refine y_get hM hC hMI.1 rfl rfl (by decide +kernel) 1 ⟨by decide, rfl, rfl, rfl⟩ (by decide +kernel) (congrArg (fun q => some (Value.int (iI q))) (show (up (up (up (up (up T1 12 0 1 (((T 12 0 1 + ((k : Nat) : Int))) + (1))) 22 0 ((((2001) * (0)) + (((T 12 0 1 + ((k : Nat) : Int))) + (1))).toNat) ((T1 22 0 (2001 * 0 + (T 12 0 1 + ((k : Nat) : Int))).toNat))) 22 0 ((((2001) * ((0) + (1))) + (((T 12 0 1 + ((k : Nat) : Int))) + (1))).toNat) ((T1 22 0 (2001 * 1 + (T 12 0 1 + ((k : Nat) : Int))).toNat))) 22 0 ((((2001) * (((0) + (1)) + (1))) + (((T 12 0 1 + ((k : Nat) : Int))) + (1))).toNat) ((T1 22 0 (2001 * 2 + (T 12 0 1 + ((k : Nat) : Int))).toNat))) 22 0 ((((2001) * ((((0) + (1)) + (1)) + (1))) + (((T 12 0 1 + ((k : Nat) : Int))) + (1))).toNat) ((T1 22 0 (2001 * 3 + (T 12 0 1 + ((k : Nat) : Int))).toNat))) 12 0 1 = ((T 12 0 1 + ((k : Nat) : Int))) + (1) from by simp [up, zrT])) dX4_pass_90 ?_
      refine y_iadd hM dX4_pass_93 ?_
      refine y_iconst hM dX4_pass_94 ?_
      refine y_isub hM dX4_pass_95 ?_
      refine y_iald hM hC (hMI.2 2 (by decide)).1 rfl ⟨by omega, by omega⟩ (by decide) (x := (T1 22 0 (2001 * 4 + (T 12 0 1 + ((k : Nat) : Int))).toNat)) (by rw [up_of (by omega), up_of (by omega), up_of (by omega), up_of (by omega), up_of (by omega)]; exact congrArg (T1 22 0) (by omega)) dX4_pass_96 ?_
      refine y_iast hM hC (hMI.2 2 (by decide)).1 (fun _ _ => rfl) ⟨by omega, by omega⟩ (by decide) dX4_pass_97 (fun H locs hC => ?_)
      refine lv_iinc (v := iI ((((((0) + (1)) + (1)) + (1)) + (1)) + (1))) (lv' := [(3, .int (iI ((((((0) + (1)) + (1)) + (1)) + (1)) + (1)))), (2, .int (iI (((k : Nat) : Int)))), (0, .ref (ad 12 0)), (1, .int (iI (z)))]) hM.1 hM.2.1 dX4_pass_98 hl (k := 0) rfl (iI_add _ _) (by decide) rfl (fun ls hl => ?_)
      refine lv_goto (tgt := 61) hM.1 hM.2.1 dX4_pass_101 (by decide) ?_
      refine y_iload_n hM hl 0 rfl rfl dX4_pass_61 ?_
      refine y_iconst hM dX4_pass_62 ?_
      refine y_icmp_ge hM (by constructor <;> omega) (by constructor <;> omega) (tgt := 104) dX4_pass_63 (by decide) (fun c_63 => ?_) (fun c_63 => False.elim (by omega))
      refine lv_iinc (v := iI ((((k : Nat) : Int)) + (1))) (lv' := [(2, .int (iI ((((k : Nat) : Int)) + (1)))), (3, .int (iI ((((((0) + (1)) + (1)) + (1)) + (1)) + (1)))), (0, .ref (ad 12 0)), (1, .int (iI (z)))]) hM.1 hM.2.1 dX4_pass_104 hl (k := 1) rfl (iI_add _ _) (by decide) rfl (fun ls hl => ?_)
      refine lv_goto (tgt := 37) hM.1 hM.2.1 dX4_pass_107 (by decide) ?_
      have hz0 : (((k : Nat) : Int)) + (1) = (((k + 1 : Nat)) : Int) := by omega
      rw [hz0] at hl
      have hp2 : mpas T (((k + 1 : Nat)) : Int) (up (up (up (up (up (up T1 12 0 1 (((T 12 0 1 + ((k : Nat) : Int))) + (1))) 22 0 ((((2001) * (0)) + (((T 12 0 1 + ((k : Nat) : Int))) + (1))).toNat) ((T1 22 0 (2001 * 0 + (T 12 0 1 + ((k : Nat) : Int))).toNat))) 22 0 ((((2001) * ((0) + (1))) + (((T 12 0 1 + ((k : Nat) : Int))) + (1))).toNat) ((T1 22 0 (2001 * 1 + (T 12 0 1 + ((k : Nat) : Int))).toNat))) 22 0 ((((2001) * (((0) + (1)) + (1))) + (((T 12 0 1 + ((k : Nat) : Int))) + (1))).toNat) ((T1 22 0 (2001 * 2 + (T 12 0 1 + ((k : Nat) : Int))).toNat))) 22 0 ((((2001) * ((((0) + (1)) + (1)) + (1))) + (((T 12 0 1 + ((k : Nat) : Int))) + (1))).toNat) ((T1 22 0 (2001 * 3 + (T 12 0 1 + ((k : Nat) : Int))).toNat))) 22 0 ((((2001) * (((((0) + (1)) + (1)) + (1)) + (1))) + (((T 12 0 1 + ((k : Nat) : Int))) + (1))).toNat) ((T1 22 0 (2001 * 4 + (T 12 0 1 + ((k : Nat) : Int))).toNat))) := by
        obtain ⟨hp1, hp2, hp3, hp4⟩ := hp
        refine ⟨?_, ?_, ?_, ?_⟩
        · rw [up_of (by omega), up_of (by omega), up_of (by omega), up_of (by omega), up_of (by omega), up_of (by omega)]
          exact hp1
        · rw [up_of (by omega), up_of (by omega), up_of (by omega), up_of (by omega), up_of (by omega), up_at rfl]
          omega
        · intro t i j h1 h2
          rw [up_of (fun q => h2 ⟨q.1, q.2.1⟩), up_of (fun q => h2 ⟨q.1, q.2.1⟩), up_of (fun q => h2 ⟨q.1, q.2.1⟩), up_of (fun q => h2 ⟨q.1, q.2.1⟩), up_of (fun q => h2 ⟨q.1, q.2.1⟩), up_of (fun q => h1 ⟨q.1, q.2.1, Or.inr q.2.2⟩)]
          exact hp3 t i j h1 h2
        · intro q d h1 h2 h3 h4
          rcases Int.lt_or_le (T 12 0 1 + ((k : Nat) : Int)) d with hd | hd
          · have hd1 : d = (T 12 0 1 + ((k : Nat) : Int)) + 1 := by omega
            rw [if_neg (by omega)]
            unfold mpr at hp4 ⊢
            rcases (show q = 0 ∨ q = 1 ∨ q = 2 ∨ q = 3 ∨ q = 4 by omega) with rfl | rfl | rfl | rfl | rfl
            · rw [up_of (by omega), up_of (by omega), up_of (by omega), up_of (by omega), up_at (by omega)]
              have h5 := hp4 0 (T 12 0 1 + ((k : Nat) : Int)) (by omega) (by omega) (by omega) (by omega)
              rw [h5]
              split
              · exact congrArg (T 22 0) (by omega)
              · rfl
            · rw [up_of (by omega), up_of (by omega), up_of (by omega), up_at (by omega)]
              have h5 := hp4 1 (T 12 0 1 + ((k : Nat) : Int)) (by omega) (by omega) (by omega) (by omega)
              rw [h5]
              split
              · exact congrArg (T 22 0) (by omega)
              · rfl
            · rw [up_of (by omega), up_of (by omega), up_at (by omega)]
              have h5 := hp4 2 (T 12 0 1 + ((k : Nat) : Int)) (by omega) (by omega) (by omega) (by omega)
              rw [h5]
              split
              · exact congrArg (T 22 0) (by omega)
              · rfl
            · rw [up_of (by omega), up_at (by omega)]
              have h5 := hp4 3 (T 12 0 1 + ((k : Nat) : Int)) (by omega) (by omega) (by omega) (by omega)
              rw [h5]
              split
              · exact congrArg (T 22 0) (by omega)
              · rfl
            · rw [up_at (by omega)]
              have h5 := hp4 4 (T 12 0 1 + ((k : Nat) : Int)) (by omega) (by omega) (by omega) (by omega)
              rw [h5]
              split
              · exact congrArg (T 22 0) (by omega)
              · rfl
          · have h5 := hp4 q d h1 h2 h3 (by omega)
            unfold mpr at h5 ⊢
            rw [up_of (by omega), up_of (by omega), up_of (by omega), up_of (by omega), up_of (by omega), up_of (by omega)]
            exact h5
      exact ih (k + 1) (by omega) _ hp2 ls _ _ hC ⟨hl.1, hl.2.1, fun q hq => hl.2.2 q (by
        rcases List.mem_cons.mp hq with h | h
        · exact h ▸ List.mem_cons_self
        · exact List.mem_cons_of_mem _ (List.mem_cons_of_mem _ h))⟩
  refine y_aload_n hM hl 0 rfl rfl dX4_pass_0 ?_
  refine y_iload_n hM hl 1 rfl rfl dX4_pass_1 ?_
  refine y_iconst hM dX4_pass_2 ?_
  refine y_bipush hM dX4_pass_3 (by decide) ?_
  refine y_callS hM hC (c_isIn l hfl G b0 (ks, ad, T, P) (z) (1) (100) (by constructor <;> omega) (by constructor <;> omega) (by constructor <;> omega)) (va_cwS 3 hM.2.2.2.2 gX4_pass_X4_isIn rfl rfl rfl (by decide +kernel) ⟨(Nat.le_of_ble_eq_true rfl), (Nat.le_of_ble_eq_true rfl)⟩) rfl hl.1 rfl (Nat.le_of_ble_eq_true rfl) dX4_pass_5 ⟨(Nat.le_of_ble_eq_true rfl), (Nat.le_of_ble_eq_true rfl)⟩ (fun E ce q9 u1 H locs hx hC hce hcv hcl => hx.elim) (fun v u1 H locs hp hC => ?_)
  obtain ⟨r_5, rfl, h_5, hu⟩ := hp; rw [hu] at hC; clear hu
  try dsimp only at h_5
  refine W.eq (g2 := F0 m 8 ls [.int (iI (r_5)), .ref (ad 12 0)]) rfl ?_
  refine y_if_ne hM (by constructor <;> omega) (tgt := 15) dX4_pass_8 (by decide) (fun c_8 => ?_) (fun c_8 => ?_)
  ·
    refine y_aload_n hM hl 0 rfl rfl dX4_pass_15 ?_
    refine y_get hM hC hMI.1 rfl rfl (by decide +kernel) 1 ⟨by decide, rfl, rfl, rfl⟩ (by decide +kernel) rfl dX4_pass_16 ?_
    refine y_iload_n hM hl 1 rfl rfl dX4_pass_19 ?_
    refine y_iadd hM dX4_pass_20 ?_
    refine y_sipush hM dX4_pass_21 (by decide) ?_
    refine y_icmp_lt hM (by constructor <;> omega) (by constructor <;> omega) (tgt := 31) dX4_pass_24 (by decide) (fun c_24 => ?_) (fun c_24 => ?_)
    ·
      refine y_iconst hM dX4_pass_31 ?_
      refine y_put hM hC hMI.1 rfl rfl (by decide +kernel) tyX4 tyX4_ok nmX4 0 ⟨by decide, rfl, rfl, rfl, rfl⟩ (by decide +kernel) (ty := .int) (by decide +kernel) rfl rfl (Nat.le_of_ble_eq_true rfl) (T' := (up T 12 0 0 (0))) (P' := P) (cF_up rfl) (fun _ _ h => up_ne h) (fun _ _ _ => rfl) dX4_pass_32 (fun H locs hC => ?_)
      refine y_iconst hM dX4_pass_35 ?_
      refine lv_istore_n (lv' := [(2, .int (iI (0))), (0, .ref (ad 12 0)), (1, .int (iI (z)))]) hM.1 hM.2.1 dX4_pass_36 rfl hl (by decide) rfl (fun ls hl => ?_)
      exact hloop (by omega) (by omega) (by omega) z.toNat 0 (by omega) _ (mpas_0 m1a) ls _ _ hC hl
    ·
      refine y_iconst hM dX4_pass_27 ?_
      refine lv_goto (tgt := 32) hM.1 hM.2.1 dX4_pass_28 (by decide) ?_
      refine y_put hM hC hMI.1 rfl rfl (by decide +kernel) tyX4 tyX4_ok nmX4 0 ⟨by decide, rfl, rfl, rfl, rfl⟩ (by decide +kernel) (ty := .int) (by decide +kernel) rfl rfl (Nat.le_of_ble_eq_true rfl) (T' := (up T 12 0 0 (2))) (P' := P) (cF_up rfl) (fun _ _ h => up_ne h) (fun _ _ _ => rfl) dX4_pass_32 (fun H locs hC => ?_)
      refine y_iconst hM dX4_pass_35 ?_
      refine lv_istore_n (lv' := [(2, .int (iI (0))), (0, .ref (ad 12 0)), (1, .int (iI (z)))]) hM.1 hM.2.1 dX4_pass_36 rfl hl (by decide) rfl (fun ls hl => ?_)
      refine y_iload_n hM hl 0 rfl rfl dX4_pass_37 ?_
      refine y_iload_n hM hl 2 rfl rfl dX4_pass_38 ?_
      refine y_icmp_ge hM (by constructor <;> omega) (by constructor <;> omega) (tgt := 110) dX4_pass_39 (by decide) (fun c_39 => ?_) (fun c_39 => ?_)
      ·
        refine y_aload_n hM hl 1 rfl rfl dX4_pass_110 ?_
        refine y_get hM hC hMI.1 rfl rfl (by decide +kernel) 1 ⟨by decide, rfl, rfl, rfl⟩ (by decide +kernel) (congrArg (fun q => some (Value.int (iI q))) (show (up T 12 0 0 (2)) 12 0 1 = T 12 0 1 from by simp [up, zrT])) dX4_pass_111 ?_
        exact y_iret hM hr hlk hC ⟨_, _, rfl, (Or.inr (Or.inl ⟨by omega, rfl⟩)), rfl⟩ (Nat.le_of_ble_eq_true rfl) (Nat.le_of_ble_eq_true rfl) dX4_pass_114
      ·
        refine y_aload_n hM hl 1 rfl rfl dX4_pass_42 ?_
        refine y_get hM hC hMI.1 rfl rfl (by decide +kernel) 0 ⟨by decide, rfl, rfl, rfl⟩ (by decide +kernel) (congrArg (fun q => some (Value.int (iI q))) (show (up T 12 0 0 (2)) 12 0 0 = 2 from by simp [up, zrT])) dX4_pass_43 ?_
        refine y_if_ne hM (by constructor <;> omega) (tgt := 110) dX4_pass_46 (by decide) (fun c_46 => ?_) (fun c_46 => False.elim (by omega))
        refine y_aload_n hM hl 1 rfl rfl dX4_pass_110 ?_
        refine y_get hM hC hMI.1 rfl rfl (by decide +kernel) 1 ⟨by decide, rfl, rfl, rfl⟩ (by decide +kernel) (congrArg (fun q => some (Value.int (iI q))) (show (up T 12 0 0 (2)) 12 0 1 = T 12 0 1 from by simp [up, zrT])) dX4_pass_111 ?_
        exact y_iret hM hr hlk hC ⟨_, _, rfl, (Or.inr (Or.inl ⟨by omega, rfl⟩)), rfl⟩ (Nat.le_of_ble_eq_true rfl) (Nat.le_of_ble_eq_true rfl) dX4_pass_114
  ·
    refine y_iconst hM dX4_pass_11 ?_
    refine lv_goto (tgt := 32) hM.1 hM.2.1 dX4_pass_12 (by decide) ?_
    refine y_put hM hC hMI.1 rfl rfl (by decide +kernel) tyX4 tyX4_ok nmX4 0 ⟨by decide, rfl, rfl, rfl, rfl⟩ (by decide +kernel) (ty := .int) (by decide +kernel) rfl rfl (Nat.le_of_ble_eq_true rfl) (T' := (up T 12 0 0 (1))) (P' := P) (cF_up rfl) (fun _ _ h => up_ne h) (fun _ _ _ => rfl) dX4_pass_32 (fun H locs hC => ?_)
    refine y_iconst hM dX4_pass_35 ?_
    refine lv_istore_n (lv' := [(2, .int (iI (0))), (0, .ref (ad 12 0)), (1, .int (iI (z)))]) hM.1 hM.2.1 dX4_pass_36 rfl hl (by decide) rfl (fun ls hl => ?_)
    refine y_iload_n hM hl 0 rfl rfl dX4_pass_37 ?_
    refine y_iload_n hM hl 2 rfl rfl dX4_pass_38 ?_
    refine y_icmp_ge hM (by constructor <;> omega) (by constructor <;> omega) (tgt := 110) dX4_pass_39 (by decide) (fun c_39 => ?_) (fun c_39 => ?_)
    ·
      refine y_aload_n hM hl 1 rfl rfl dX4_pass_110 ?_
      refine y_get hM hC hMI.1 rfl rfl (by decide +kernel) 1 ⟨by decide, rfl, rfl, rfl⟩ (by decide +kernel) (congrArg (fun q => some (Value.int (iI q))) (show (up T 12 0 0 (1)) 12 0 1 = T 12 0 1 from by simp [up, zrT])) dX4_pass_111 ?_
      exact y_iret hM hr hlk hC ⟨_, _, rfl, (Or.inl ⟨by omega, rfl⟩), rfl⟩ (Nat.le_of_ble_eq_true rfl) (Nat.le_of_ble_eq_true rfl) dX4_pass_114
    ·
      refine y_aload_n hM hl 1 rfl rfl dX4_pass_42 ?_
      refine y_get hM hC hMI.1 rfl rfl (by decide +kernel) 0 ⟨by decide, rfl, rfl, rfl⟩ (by decide +kernel) (congrArg (fun q => some (Value.int (iI q))) (show (up T 12 0 0 (1)) 12 0 0 = 1 from by simp [up, zrT])) dX4_pass_43 ?_
      refine y_if_ne hM (by constructor <;> omega) (tgt := 110) dX4_pass_46 (by decide) (fun c_46 => ?_) (fun c_46 => False.elim (by omega))
      refine y_aload_n hM hl 1 rfl rfl dX4_pass_110 ?_
      refine y_get hM hC hMI.1 rfl rfl (by decide +kernel) 1 ⟨by decide, rfl, rfl, rfl⟩ (by decide +kernel) (congrArg (fun q => some (Value.int (iI q))) (show (up T 12 0 0 (1)) 12 0 1 = T 12 0 1 from by simp [up, zrT])) dX4_pass_111 ?_
      exact y_iret hM hr hlk hC ⟨_, _, rfl, (Or.inl ⟨by omega, rfl⟩), rfl⟩ (Nat.le_of_ble_eq_true rfl) (Nat.le_of_ble_eq_true rfl) dX4_pass_114
