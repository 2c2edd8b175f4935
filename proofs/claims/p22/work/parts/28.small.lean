set_option maxRecDepth 100000 in
set_option maxHeartbeats 8000000 in
theorem c_L_cell (l : Launch) (hfl : l.stackTraces = false) (G : GG) (b0 : Nat) (u : St) {b L : Nat} {xs : Nat → Int32} (hbA : ¬ b0 ≤ b) (hL : L ≤ 260) (z : Int) (hz : 0 ≤ z ∧ z < 1000) : vx_Met l yL_cell wsL_cell (rmX 0 0 0 0) (va_Pc [.ref b, .int (iI (z))] (OkS b L xs G b0 u)) (Qr (pI (fun r => True) u) G b0) (Xr (noX) G b0) 0 0 (Wx b0) := by
  refine vx_ofW (cc := cL_cell) (maxL := 2) (ret := (some .int)) (by decide +kernel) rfl ?_
  intro p e s m args below meth c s₁ B hml hto hv
  obtain ⟨rfl, hok, hX, hbl⟩ := hv
  have hM : CallFix p m c cL_cell 2 s _ wsL_cell RL := ⟨B.exec, B.bytes, hml, findClass_of_methodNamed B.named, atoms_spec (ws := wsL_cell) B.pre⟩
  have hr := B.returns
  have hlk := B.notSynchronized
  have hC := hok.cur
  have hl := lv_entry ([.ref b, .int (iI (z))]) (n := 2) (Nat.le_of_ble_eq_true rfl)
  rw [lg_entry_eq]
  generalize (lg_sl ([.ref b, .int (iI (z))]) ++ List.replicate (2 - (lg_sl ([.ref b, .int (iI (z))])).length) Slot.unset).toArray = ls at hl ⊢
  have hl : lv_has ls 2 [(0, .ref b), (1, .int (iI (z)))] := hl
  refine y_iload_n hM hl 1 rfl rfl dL_cell_0 ?_
  refine y_aload_n hM hl 0 rfl rfl dL_cell_1 ?_
  refine y_slen hM hX hbl hbA hC dL_cell_2 ?_
  refine y_icmp_ge hM (by constructor <;> omega) (by constructor <;> omega) (tgt := 12) dL_cell_3 (by decide) (fun c_3 => ?_) (fun c_3 => ?_)
  ·
    refine y_ldc hM (v := 1000308255) (1000308255) (by decide) (by decide +kernel) dL_cell_12 ?_
    refine y_iload_n hM hl 1 rfl rfl dL_cell_14 ?_
    refine y_iconst hM dL_cell_15 ?_
    refine y_iadd hM dL_cell_16 ?_
    refine y_imul hM dL_cell_17 ?_
    refine y_ldc hM (v := 751363429) (751363429) (by decide) (by decide +kernel) dL_cell_18 ?_
    refine y_iadd hM dL_cell_20 ?_
    exact y_iret hM hr hlk hC ⟨_, rfl, trivial, rfl⟩ (Nat.le_of_ble_eq_true rfl) (Nat.le_of_ble_eq_true rfl) dL_cell_21
  ·
    refine y_aload_n hM hl 0 rfl rfl dL_cell_6 ?_
    refine y_iload_n hM hl 1 rfl rfl dL_cell_7 ?_
    refine y_scr hM hX hbl hbA hC (k := z.toNat) (by omega) (by omega) hL dL_cell_8 ?_
    refine lv_goto (tgt := 21) hM.1 hM.2.1 dL_cell_9 (by decide) ?_
    exact y_iret hM hr hlk hC ⟨_, rfl, trivial, rfl⟩ (Nat.le_of_ble_eq_true rfl) (Nat.le_of_ble_eq_true rfl) dL_cell_21

set_option maxRecDepth 100000 in
set_option maxHeartbeats 8000000 in
theorem c_L_low (l : Launch) (hfl : l.stackTraces = false) (G : GG) (b0 : Nat) (u : St) (v n : Int) (hn : 0 < n ∧ n < 2147483648) : vx_Met l yL_low wsL_low (rmX 0 0 0 0) (va_Pc [.int (iI (v)), .int (iI (n))] (Ok G b0 u)) (Qr (pI (fun r => 0 ≤ r ∧ r < n) u) G b0) (Xr (noX) G b0) 0 0 (Wx b0) := by
  refine vx_ofW (cc := cL_low) (maxL := 2) (ret := (some .int)) (by decide +kernel) rfl ?_
  intro p e s m args below meth c s₁ B hml hto hv
  obtain ⟨rfl, hok⟩ := hv
  have hM : CallFix p m c cL_low 2 s _ wsL_low RL := ⟨B.exec, B.bytes, hml, findClass_of_methodNamed B.named, atoms_spec (ws := wsL_low) B.pre⟩
  have hr := B.returns
  have hlk := B.notSynchronized
  have hC := hok.cur
  have hl := lv_entry ([.int (iI (v)), .int (iI (n))]) (n := 2) (Nat.le_of_ble_eq_true rfl)
  rw [lg_entry_eq]
  generalize (lg_sl ([.int (iI (v)), .int (iI (n))]) ++ List.replicate (2 - (lg_sl ([.int (iI (v)), .int (iI (n))])).length) Slot.unset).toArray = ls at hl ⊢
  have hl : lv_has ls 2 [(0, .int (iI (v))), (1, .int (iI (n)))] := hl
  refine y_iload_n hM hl 0 rfl rfl dL_low_0 ?_
  refine y_ldc hM (v := 2147483647) (2147483647) (by decide) (by decide +kernel) dL_low_1 ?_
  refine lv_iand hM.1 hM.2.1 dL_low_3 ?_
  obtain ⟨j_3, hj_3, ej_3⟩ := pk_andE (iI (v)) (m := iI 2147483647) 31 (by decide +kernel)
  rw [ej_3, nI_iI]
  refine y_iload_n hM hl 1 rfl rfl dL_low_4 ?_
  refine y_irem hM ⟨by omega, by omega, by omega, by omega⟩ dL_low_5 ?_
  exact y_iret hM hr hlk hC ⟨_, rfl, (by
    have h1 := Int.emod_nonneg ((j_3 : Nat) : Int) (show n ≠ 0 by omega)
    have h2 := Int.emod_lt_of_pos ((j_3 : Nat) : Int) (show 0 < n by omega)
    try dsimp only
    omega), rfl⟩ (Nat.le_of_ble_eq_true rfl) (Nat.le_of_ble_eq_true rfl) dL_low_6

set_option maxRecDepth 100000 in
set_option maxHeartbeats 8000000 in
theorem c_L_price (l : Launch) (hfl : l.stackTraces = false) (G : GG) (b0 : Nat) (ks : KK) (ad : AD) (T : TT) (P : PP) (z dd : Int) (hz : 0 ≤ z ∧ z < 5) (hd : 0 ≤ dd ∧ dd ≤ 2000) (hk50 : (50, 0) ∈ ks) (hP : RP T T) : vx_Met l yL_price wsL_price (rmX 0 0 0 0) (va_Pc [.ref (ad 50 0), .int (iI (z)), .int (iI (dd))] (Ok G b0 (ks, ad, T, P))) (Qr (pI (fun r => r = valT T z.toNat dd) (ks, ad, T, P)) G b0) (Xr (noX) G b0) 0 0 (Wx b0) := by
  refine vx_ofW (cc := cL_price) (maxL := 6) (ret := (some .int)) (by decide +kernel) rfl ?_
  intro p e s m args below meth c s₁ B hml hto hv
  obtain ⟨rfl, hok⟩ := hv
  have hM : CallFix p m c cL_price 6 s _ wsL_price RL := ⟨B.exec, B.bytes, hml, findClass_of_methodNamed B.named, atoms_spec (ws := wsL_price) B.pre⟩
  have hr := B.returns
  have hlk := B.notSynchronized
  have hC := hok.cur
  have hl := lv_entry ([.ref (ad 50 0), .int (iI (z)), .int (iI (dd))]) (n := 6) (Nat.le_of_ble_eq_true rfl)
  rw [lg_entry_eq]
  generalize (lg_sl ([.ref (ad 50 0), .int (iI (z)), .int (iI (dd))]) ++ List.replicate (6 - (lg_sl ([.ref (ad 50 0), .int (iI (z)), .int (iI (dd))])).length) Slot.unset).toArray = ls at hl ⊢
  have hl : lv_has ls 6 [(0, .ref (ad 50 0)), (1, .int (iI (z))), (2, .int (iI (dd)))] := hl
  obtain ⟨⟨hP1, hP2, hP3, hP4⟩, -, hP5⟩ := id hP
  obtain ⟨N_, hN_⟩ : ∃ n : Nat, n = (T 56 0 0).toNat := ⟨_, rfl⟩
  have hval : lsF (T 50 0) z dd N_ = valT T z.toNat dd := by
    have h := (hP5 z.toNat (by omega)).2 dd hd.1
    rw [show ((z.toNat : Nat) : Int) = z by omega] at h
    rw [hN_]
    exact h
  rw [← hN_] at hP1 hP2 hP3 hP4
  have hloop : ∀ (m_ i : Nat) (bst : Int), i + m_ = N_ → -1 ≤ bst → bst ≤ 2000 → (∀ j : Nat, i ≤ j → j < N_ → bst ≤ T 50 0 (3 * j + 1)) → ∀ (ls : Array Slot), lv_has ls 6 [(5, .int (iI (((i : Nat) : Int)))), (4, .int (iI (bst))), (3, .int (iI (lsF (T 50 0) z dd i))), (0, .ref (ad 50 0)), (1, .int (iI (z))), (2, .int (iI (dd)))] → W p l e (headSpec wsL_price (rmX 0 0 0 0)).room s m [.ref (ad 50 0), .int (iI (z)), .int (iI (dd))].toArray below meth c s.heap [] 0 0 (vx_MQ below (Qr (pI (fun r => r = valT T z.toNat dd) (ks, ad, T, P)) G b0) (Xr (noX) G b0) [.ref (ad 50 0), .int (iI (z)), .int (iI (dd))].toArray s 0 0 (Wx b0)) (F0 m 10 ls []) := by
    intro m_
    induction m_ with
    | zero =>
      intro i bst hn hb1 hb2 hbj ls hl
      refine y_iload hM hl 0 rfl dL_price_10 ?_
      refine y_bipush hM dL_price_12 (by decide) ?_
      refine y_icmp_ge hM (by constructor <;> omega) (by constructor <;> omega) (tgt := 91) dL_price_14 (by decide) (fun c_14 => ?_) (fun c_14 => ?_)
      ·
        refine y_iload_n hM hl 2 rfl rfl dL_price_91 ?_
        exact y_iret hM hr hlk hC ⟨_, rfl, (by
      show lsF (T 50 0) z dd i = valT T z.toNat dd
      rw [show i = N_ by omega]
      exact hval), rfl⟩ (Nat.le_of_ble_eq_true rfl) (Nat.le_of_ble_eq_true rfl) dL_price_92
      ·
        refine y_aload_n hM hl 3 rfl rfl dL_price_17 ?_
        refine y_iconst hM dL_price_18 ?_
        refine y_iload hM hl 0 rfl dL_price_19 ?_
        refine y_imul hM dL_price_21 ?_
        refine y_iconst hM dL_price_22 ?_
        refine y_iadd hM dL_price_23 ?_
        refine y_iald hM hC hk50 rfl ⟨by omega, by omega⟩ (by decide) (x := 0) (by rw [show ((3) * (((i : Nat) : Int)) + (2)).toNat = 3 * i + 2 from by omega]; exact hP3 i (by omega) (by omega)) dL_price_24 ?_
        refine y_if_le hM (by constructor <;> omega) (tgt := 91) dL_price_25 (by decide) (fun c_25 => ?_) (fun c_25 => False.elim (by omega))
        refine y_iload_n hM hl 2 rfl rfl dL_price_91 ?_
        exact y_iret hM hr hlk hC ⟨_, rfl, (by
      show lsF (T 50 0) z dd i = valT T z.toNat dd
      rw [show i = N_ by omega]
      exact hval), rfl⟩ (Nat.le_of_ble_eq_true rfl) (Nat.le_of_ble_eq_true rfl) dL_price_92
    | succ m_ ih =>
      intro i bst hn hb1 hb2 hbj ls hl
      have hp := hP2 i (by omega)
      have hbi := hbj i (Nat.le_refl _) (by omega)
      refine y_iload hM hl 0 rfl dL_price_10 ?_
      refine y_bipush hM dL_price_12 (by decide) ?_
      refine y_icmp_ge hM (by constructor <;> omega) (by constructor <;> omega) (tgt := 91) dL_price_14 (by decide) (fun c_14 => False.elim (by omega)) (fun c_14 => ?_)
      refine y_aload_n hM hl 3 rfl rfl dL_price_17 ?_
      refine y_iconst hM dL_price_18 ?_
      refine y_iload hM hl 0 rfl dL_price_19 ?_
      refine y_imul hM dL_price_21 ?_
      refine y_iconst hM dL_price_22 ?_
      refine y_iadd hM dL_price_23 ?_
      refine y_iald hM hC hk50 rfl ⟨by omega, by omega⟩ (by decide) (x := T 50 0 (3 * i + 2)) (by rw [show (((3) * (((i : Nat) : Int))) + (2) : Int).toNat = 3 * i + 2 from by omega]) dL_price_24 ?_
      refine y_if_le hM (by constructor <;> omega) (tgt := 91) dL_price_25 (by decide) (fun c_25 => False.elim (by omega)) (fun c_25 => ?_)
      refine y_aload_n hM hl 3 rfl rfl dL_price_28 ?_
      refine y_iconst hM dL_price_29 ?_
      refine y_iload hM hl 0 rfl dL_price_30 ?_
      refine y_imul hM dL_price_32 ?_
      refine y_iald hM hC hk50 rfl ⟨by omega, by omega⟩ (by decide) (x := T 50 0 (3 * i)) (by rw [show ((3) * (((i : Nat) : Int)) : Int).toNat = 3 * i from by omega]) dL_price_33 ?_
      refine y_iload_n hM hl 4 rfl rfl dL_price_34 ?_
      refine y_icmp_ne hM (by constructor <;> omega) (by constructor <;> omega) (tgt := 85) dL_price_35 (by decide) (fun c_35 => ?_) (fun c_35 => ?_)
      ·
        refine lv_iinc (v := iI ((((i : Nat) : Int)) + (1))) (lv' := [(5, .int (iI ((((i : Nat) : Int)) + (1)))), (4, .int (iI (bst))), (3, .int (iI (lsF (T 50 0) z dd i))), (0, .ref (ad 50 0)), (1, .int (iI (z))), (2, .int (iI (dd)))]) hM.1 hM.2.1 dL_price_85 hl (k := 0) rfl (iI_add _ _) (by decide) rfl (fun ls hl => ?_)
        refine lv_goto (tgt := 10) hM.1 hM.2.1 dL_price_88 (by decide) ?_
        have hz2 : (((i : Nat) : Int)) + (1) = ((i + 1 : Nat) : Int) := by omega
        rw [hz2] at hl
        rw [show lsF (T 50 0) z dd i = lsF (T 50 0) z dd (i + 1) from (if_neg (fun w => by omega)).symm] at hl
        exact ih (i + 1) _ (by omega) hb1 hb2 (fun j h1 h2 => hbj j (by omega) h2) ls hl
      ·
        refine y_aload_n hM hl 3 rfl rfl dL_price_38 ?_
        refine y_iconst hM dL_price_39 ?_
        refine y_iload hM hl 0 rfl dL_price_40 ?_
        refine y_imul hM dL_price_42 ?_
        refine y_iconst hM dL_price_43 ?_
        refine y_iadd hM dL_price_44 ?_
        refine y_iald hM hC hk50 rfl ⟨by omega, by omega⟩ (by decide) (x := T 50 0 (3 * i + 1)) (by rw [show (((3) * (((i : Nat) : Int))) + (1) : Int).toNat = 3 * i + 1 from by omega]) dL_price_45 ?_
        refine y_iload_n hM hl 5 rfl rfl dL_price_46 ?_
        refine y_icmp_gt hM (by constructor <;> omega) (by constructor <;> omega) (tgt := 85) dL_price_47 (by decide) (fun c_47 => ?_) (fun c_47 => ?_)
        ·
          refine lv_iinc (v := iI ((((i : Nat) : Int)) + (1))) (lv' := [(5, .int (iI ((((i : Nat) : Int)) + (1)))), (4, .int (iI (bst))), (3, .int (iI (lsF (T 50 0) z dd i))), (0, .ref (ad 50 0)), (1, .int (iI (z))), (2, .int (iI (dd)))]) hM.1 hM.2.1 dL_price_85 hl (k := 0) rfl (iI_add _ _) (by decide) rfl (fun ls hl => ?_)
          refine lv_goto (tgt := 10) hM.1 hM.2.1 dL_price_88 (by decide) ?_
          have hz2 : (((i : Nat) : Int)) + (1) = ((i + 1 : Nat) : Int) := by omega
          rw [hz2] at hl
          rw [show lsF (T 50 0) z dd i = lsF (T 50 0) z dd (i + 1) from (if_neg (fun w => by omega)).symm] at hl
          exact ih (i + 1) _ (by omega) hb1 hb2 (fun j h1 h2 => hbj j (by omega) h2) ls hl
        ·
          refine y_aload_n hM hl 3 rfl rfl dL_price_50 ?_
          refine y_iconst hM dL_price_51 ?_
          refine y_iload hM hl 0 rfl dL_price_52 ?_
          refine y_imul hM dL_price_54 ?_
          refine y_iconst hM dL_price_55 ?_
          refine y_iadd hM dL_price_56 ?_
          refine y_iald hM hC hk50 rfl ⟨by omega, by omega⟩ (by decide) (x := T 50 0 (3 * i + 1)) (by rw [show (((3) * (((i : Nat) : Int))) + (1) : Int).toNat = 3 * i + 1 from by omega]) dL_price_57 ?_
          refine y_iload hM hl 1 rfl dL_price_58 ?_
          refine y_icmp_ge hM (by constructor <;> omega) (by constructor <;> omega) (tgt := 66) dL_price_60 (by decide) (fun c_60 => ?_) (fun c_60 => False.elim (by omega))
          refine y_aload_n hM hl 3 rfl rfl dL_price_66 ?_
          refine y_iconst hM dL_price_67 ?_
          refine y_iload hM hl 0 rfl dL_price_68 ?_
          refine y_imul hM dL_price_70 ?_
          refine y_iconst hM dL_price_71 ?_
          refine y_iadd hM dL_price_72 ?_
          refine y_iald hM hC hk50 rfl ⟨by omega, by omega⟩ (by decide) (x := T 50 0 (3 * i + 1)) (by rw [show (((3) * (((i : Nat) : Int))) + (1) : Int).toNat = 3 * i + 1 from by omega]) dL_price_73 ?_
          refine lv_istore (lv' := [(4, .int (iI (T 50 0 (3 * i + 1)))), (5, .int (iI (((i : Nat) : Int)))), (3, .int (iI (lsF (T 50 0) z dd i))), (0, .ref (ad 50 0)), (1, .int (iI (z))), (2, .int (iI (dd)))]) hM.1 hM.2.1 dL_price_74 hl (by decide) rfl (fun ls hl => ?_)
          refine y_aload_n hM hl 3 rfl rfl dL_price_76 ?_
          refine y_iconst hM dL_price_77 ?_
          refine y_iload hM hl 1 rfl dL_price_78 ?_
          refine y_imul hM dL_price_80 ?_
          refine y_iconst hM dL_price_81 ?_
          refine y_iadd hM dL_price_82 ?_
          refine y_iald hM hC hk50 rfl ⟨by omega, by omega⟩ (by decide) (x := T 50 0 (3 * i + 2)) (by rw [show (((3) * (((i : Nat) : Int))) + (2) : Int).toNat = 3 * i + 2 from by omega]) dL_price_83 ?_
          refine lv_istore_n (lv' := [(3, .int (iI (T 50 0 (3 * i + 2)))), (4, .int (iI (T 50 0 (3 * i + 1)))), (5, .int (iI (((i : Nat) : Int)))), (0, .ref (ad 50 0)), (1, .int (iI (z))), (2, .int (iI (dd)))]) hM.1 hM.2.1 dL_price_84 rfl hl (by decide) rfl (fun ls hl => ?_)
          refine lv_iinc (v := iI ((((i : Nat) : Int)) + (1))) (lv' := [(5, .int (iI ((((i : Nat) : Int)) + (1)))), (3, .int (iI (T 50 0 (3 * i + 2)))), (4, .int (iI (T 50 0 (3 * i + 1)))), (0, .ref (ad 50 0)), (1, .int (iI (z))), (2, .int (iI (dd)))]) hM.1 hM.2.1 dL_price_85 hl (k := 2) rfl (iI_add _ _) (by decide) rfl (fun ls hl => ?_)
          refine lv_goto (tgt := 10) hM.1 hM.2.1 dL_price_88 (by decide) ?_
          have hz2 : (((i : Nat) : Int)) + (1) = ((i + 1 : Nat) : Int) := by omega
          rw [hz2] at hl
          rw [show T 50 0 (3 * i + 2) = lsF (T 50 0) z dd (i + 1) from (if_pos ⟨by omega, by omega⟩).symm] at hl
          exact ih (i + 1) _ (by omega) (by omega) (by omega) (fun j h1 h2 => hP4 i j (by omega) h2) ls ⟨hl.1, hl.2.1, fun q hq => hl.2.2 q ((List.forall_mem_cons.mpr ⟨List.mem_of_getElem? (i := 0) rfl, (List.forall_mem_cons.mpr ⟨List.mem_of_getElem? (i := 2) rfl, (List.forall_mem_cons.mpr ⟨List.mem_of_getElem? (i := 1) rfl, (List.forall_mem_cons.mpr ⟨List.mem_of_getElem? (i := 3) rfl, (List.forall_mem_cons.mpr ⟨List.mem_of_getElem? (i := 4) rfl, (List.forall_mem_cons.mpr ⟨List.mem_of_getElem? (i := 5) rfl, (fun _ h => absurd h List.not_mem_nil)⟩)⟩)⟩)⟩)⟩)⟩) q hq)⟩
  refine y_sipush hM dL_price_0 (by decide) ?_
  refine lv_istore_n (lv' := [(3, .int (iI (1000))), (0, .ref (ad 50 0)), (1, .int (iI (z))), (2, .int (iI (dd)))]) hM.1 hM.2.1 dL_price_3 rfl hl (by decide) rfl (fun ls hl => ?_)
  refine y_iconst hM dL_price_4 ?_
  refine lv_istore (lv' := [(4, .int (iI (-1))), (3, .int (iI (1000))), (0, .ref (ad 50 0)), (1, .int (iI (z))), (2, .int (iI (dd)))]) hM.1 hM.2.1 dL_price_5 hl (by decide) rfl (fun ls hl => ?_)
  refine y_iconst hM dL_price_7 ?_
  refine lv_istore (lv' := [(5, .int (iI (0))), (4, .int (iI (-1))), (3, .int (iI (1000))), (0, .ref (ad 50 0)), (1, .int (iI (z))), (2, .int (iI (dd)))]) hM.1 hM.2.1 dL_price_8 hl (by decide) rfl (fun ls hl => ?_)
  rw [← lsF_0 (f := T 50 0) (p := z) (d := dd)] at hl
  exact hloop N_ 0 (-1) (by omega) (by omega) (by omega) (fun j _ h => by have := hP2 j h; omega) ls hl

set_option maxRecDepth 100000 in
set_option maxHeartbeats 8000000 in
theorem c_L_due (l : Launch) (hfl : l.stackTraces = false) (G : GG) (b0 : Nat) (ks : KK) (ad : AD) (T : TT) (P : PP) (k : Nat) (hk7 : k < 7) (hk53 : (53, 0) ∈ ks) (ho : OR T T k) (hst : 0 ≤ T 11 k 3 ∧ T 11 k 3 ≤ 2) : vx_Met l yL_due wsL_due (rmX 0 0 0 0) (va_Pc [.ref (ad 53 0), .int (iI (((k : Nat) : Int)))] (Ok G b0 (ks, ad, T, P))) (Qr (pI (fun r => r = dueT T k) (ks, ad, T, P)) G b0) (Xr (noX) G b0) 0 0 (Wx b0) := by
  refine vx_ofW (cc := cL_due) (maxL := 2) (ret := (some .int)) (by decide +kernel) rfl ?_
  intro p e s m args below meth c s₁ B hml hto hv
  obtain ⟨rfl, hok⟩ := hv
  have hM : CallFix p m c cL_due 2 s _ wsL_due RL := ⟨B.exec, B.bytes, hml, findClass_of_methodNamed B.named, atoms_spec (ws := wsL_due) B.pre⟩
  have hr := B.returns
  have hlk := B.notSynchronized
  have hC := hok.cur
  have hl := lv_entry ([.ref (ad 53 0), .int (iI (((k : Nat) : Int)))]) (n := 2) (Nat.le_of_ble_eq_true rfl)
  rw [lg_entry_eq]
  generalize (lg_sl ([.ref (ad 53 0), .int (iI (((k : Nat) : Int)))]) ++ List.replicate (2 - (lg_sl ([.ref (ad 53 0), .int (iI (((k : Nat) : Int)))])).length) Slot.unset).toArray = ls at hl ⊢
  have hl : lv_has ls 2 [(0, .ref (ad 53 0)), (1, .int (iI (((k : Nat) : Int))))] := hl
  refine y_aload_n hM hl 0 rfl rfl dL_due_0 ?_
  refine y_bipush hM dL_due_1 (by decide) ?_
  refine y_iload_n hM hl 1 rfl rfl dL_due_3 ?_
  refine y_imul hM dL_due_4 ?_
  refine y_iconst hM dL_due_5 ?_
  refine y_iadd hM dL_due_6 ?_
  refine y_iald hM hC hk53 rfl ⟨by omega, by omega⟩ (by decide) (x := T 11 k 3) (by rw [show (((9) * (((k : Nat) : Int))) + (3) : Int).toNat = 9 * k + 3 from by omega, ho.2.2.2.1]) dL_due_7 ?_
  refine y_if_ne hM (by constructor <;> omega) (tgt := 24) dL_due_8 (by decide) (fun c_8 => ?_) (fun c_8 => ?_)
  ·
    refine y_aload_n hM hl 0 rfl rfl dL_due_24 ?_
    refine y_bipush hM dL_due_25 (by decide) ?_
    refine y_iload_n hM hl 1 rfl rfl dL_due_27 ?_
    refine y_imul hM dL_due_28 ?_
    refine y_iconst hM dL_due_29 ?_
    refine y_iadd hM dL_due_30 ?_
    refine y_aload_n hM hl 0 rfl rfl dL_due_31 ?_
    refine y_bipush hM dL_due_32 (by decide) ?_
    refine y_iload_n hM hl 1 rfl rfl dL_due_34 ?_
    refine y_imul hM dL_due_35 ?_
    refine y_iconst hM dL_due_36 ?_
    refine y_iadd hM dL_due_37 ?_
    refine y_iald hM hC hk53 rfl ⟨by omega, by omega⟩ (by decide) (x := T 11 k 3) (by rw [show (((9) * (((k : Nat) : Int))) + (3) : Int).toNat = 9 * k + 3 from by omega, ho.2.2.2.1]) dL_due_38 ?_
    refine y_iadd hM dL_due_39 ?_
    refine y_iconst hM dL_due_40 ?_
    refine y_iadd hM dL_due_41 ?_
    refine y_iald hM hC hk53 rfl ⟨by omega, by omega⟩ (by decide) (x := T 11 k 4) (by
    rw [show ((((9) * (((k : Nat) : Int))) + (3)) + (T 11 k 3) + (1) : Int).toNat = 9 * k + 4 + (T 11 k 3).toNat from by omega]
    exact ho.2.2.2.2.1 (by omega)) dL_due_42 ?_
    refine y_iconst hM dL_due_43 ?_
    refine y_iadd hM dL_due_44 ?_
    exact y_iret hM hr hlk hC ⟨_, rfl, (by unfold dueT; rw [if_neg c_8]), rfl⟩ (Nat.le_of_ble_eq_true rfl) (Nat.le_of_ble_eq_true rfl) dL_due_45
  ·
    refine y_aload_n hM hl 0 rfl rfl dL_due_11 ?_
    refine y_bipush hM dL_due_12 (by decide) ?_
    refine y_iload_n hM hl 1 rfl rfl dL_due_14 ?_
    refine y_imul hM dL_due_15 ?_
    refine y_iconst hM dL_due_16 ?_
    refine y_iadd hM dL_due_17 ?_
    refine y_iald hM hC hk53 rfl ⟨by omega, by omega⟩ (by decide) (x := T 11 k 4) (by
    have h := ho.2.2.2.2.1 (by omega)
    rw [c_8] at h
    rw [show (((9) * (((k : Nat) : Int))) + (4) : Int).toNat = 9 * k + 4 from by omega]
    exact h) dL_due_18 ?_
    refine y_iconst hM dL_due_19 ?_
    refine y_iadd hM dL_due_20 ?_
    refine lv_goto (tgt := 45) hM.1 hM.2.1 dL_due_21 (by decide) ?_
    exact y_iret hM hr hlk hC ⟨_, rfl, (by unfold dueT; rw [if_pos c_8]), rfl⟩ (Nat.le_of_ble_eq_true rfl) (Nat.le_of_ble_eq_true rfl) dL_due_45

set_option maxRecDepth 100000 in
set_option maxHeartbeats 8000000 in
theorem c_L_up (l : Launch) (hfl : l.stackTraces = false) (G : GG) (b0 : Nat) (u : St) (v : Int) (hv : 0 ≤ v ∧ v ≤ 9000000000000000) : vx_Met l yL_up wsL_up (rmX 0 0 0 0) (va_Pc [.long (lI (v)), .long (lI (1000))] (Ok G b0 u)) (Qr (pJ (fun r => r = (v + 1000 - 1) / 1000) u) G b0) (Xr (noX) G b0) 0 0 (Wx b0) := by
  refine vx_ofW (cc := cL_up) (maxL := 4) (ret := (some .long)) (by decide +kernel) rfl ?_
  intro p e s m args below meth c s₁ B hml hto hv
  obtain ⟨rfl, hok⟩ := hv
  have hM : CallFix p m c cL_up 4 s _ wsL_up RL := ⟨B.exec, B.bytes, hml, findClass_of_methodNamed B.named, atoms_spec (ws := wsL_up) B.pre⟩
  have hr := B.returns
  have hlk := B.notSynchronized
  have hC := hok.cur
  have hl := lv_entry ([.long (lI (v)), .long (lI (1000))]) (n := 4) (Nat.le_of_ble_eq_true rfl)
  rw [lg_entry_eq]
  generalize (lg_sl ([.long (lI (v)), .long (lI (1000))]) ++ List.replicate (4 - (lg_sl ([.long (lI (v)), .long (lI (1000))])).length) Slot.unset).toArray = ls at hl ⊢
  have hl : lv_has ls 4 [(0, .long (lI (v))), (2, .long (lI (1000)))] := hl
  refine y_lload_n hM hl 0 rfl rfl dL_up_0 ?_
  refine y_lload_n hM hl 1 rfl rfl dL_up_1 ?_
  refine y_ldiv hM ⟨by omega, by omega, by omega, by omega⟩ dL_up_2 ?_
  refine y_lload_n hM hl 0 rfl rfl dL_up_3 ?_
  refine y_lload_n hM hl 1 rfl rfl dL_up_4 ?_
  refine y_lrem hM ⟨by omega, by omega, by omega, by omega⟩ dL_up_5 ?_
  refine y_lconst hM 0 (by decide) dL_up_6 ?_
  refine y_lcmp hM (by constructor <;> omega) (by constructor <;> omega) dL_up_7 ?_
  have hcl_7 := cmpI_le ((v) % (1000)) (0)
  have hcg_7 := cmpI_gt ((v) % (1000)) (0)
  have hce_7 := cmpI_eq ((v) % (1000)) (0)
  refine y_if_le hM (cmpI_in _ _) (tgt := 15) dL_up_8 (by decide) (fun c_8 => ?_) (fun c_8 => ?_)
  ·
    refine y_iconst hM dL_up_15 ?_
    refine y_i2l hM (by constructor <;> omega) dL_up_16 ?_
    refine y_ladd hM dL_up_17 ?_
    exact y_lret hM hr hlk hC ⟨_, rfl, (by (try dsimp only); omega), rfl⟩ (Nat.le_of_ble_eq_true rfl) (Nat.le_of_ble_eq_true rfl) dL_up_18
  ·
    refine y_iconst hM dL_up_11 ?_
    refine lv_goto (tgt := 16) hM.1 hM.2.1 dL_up_12 (by decide) ?_
    refine y_i2l hM (by constructor <;> omega) dL_up_16 ?_
    refine y_ladd hM dL_up_17 ?_
    exact y_lret hM hr hlk hC ⟨_, rfl, (by (try dsimp only); omega), rfl⟩ (Nat.le_of_ble_eq_true rfl) (Nat.le_of_ble_eq_true rfl) dL_up_18

set_option maxRecDepth 100000 in
set_option maxHeartbeats 8000000 in
theorem c_L_timely (l : Launch) (hfl : l.stackTraces = false) (G : GG) (b0 : Nat) (ks : KK) (ad : AD) (T : TT) (P : PP) (k : Nat) (hkk : (k : Int) < T 0 0 8) (lt : Int) (hlt : 0 ≤ lt ∧ T 11 k 5 + lt ≤ T 0 0 5) (hst : T 11 k 3 = 2) (hLK : LK ks) (hN : CN T) (hR : R2 T T) : vx_Met l yL_timely wsL_timely (rmX 1 0 0 25) (va_Pc [.ref (ad 50 0), .ref (ad 53 0), .ref (ad 54 0), .int (iI (((k : Nat) : Int))), .int (iI (T 0 0 5)), .int (iI (lt))] (Ok G b0 (ks, ad, T, P))) (Qr (pJ (fun r => r = timT T k (T 11 k 5 + lt)) (ks, ad, T, P)) G b0) (Xr (noX) G b0) 0 0 (Wx b0) := by
  refine vx_ofW (cc := cL_timely) (maxL := 9) (ret := (some .long)) (by decide +kernel) rfl ?_
  intro p e s m args below meth c s₁ B hml hto hv
  obtain ⟨rfl, hok⟩ := hv
  have hM : CallFix p m c cL_timely 9 s _ wsL_timely RL := ⟨B.exec, B.bytes, hml, findClass_of_methodNamed B.named, atoms_spec (ws := wsL_timely) B.pre⟩
  have hr := B.returns
  have hlk := B.notSynchronized
  have hC := hok.cur
  have hl := lv_entry ([.ref (ad 50 0), .ref (ad 53 0), .ref (ad 54 0), .int (iI (((k : Nat) : Int))), .int (iI (T 0 0 5)), .int (iI (lt))]) (n := 9) (Nat.le_of_ble_eq_true rfl)
  rw [lg_entry_eq]
  generalize (lg_sl ([.ref (ad 50 0), .ref (ad 53 0), .ref (ad 54 0), .int (iI (((k : Nat) : Int))), .int (iI (T 0 0 5)), .int (iI (lt))]) ++ List.replicate (9 - (lg_sl ([.ref (ad 50 0), .ref (ad 53 0), .ref (ad 54 0), .int (iI (((k : Nat) : Int))), .int (iI (T 0 0 5)), .int (iI (lt))])).length) Slot.unset).toArray = ls at hl ⊢
  have hl : lv_has ls 9 [(0, .ref (ad 50 0)), (1, .ref (ad 53 0)), (2, .ref (ad 54 0)), (3, .int (iI (((k : Nat) : Int)))), (4, .int (iI (T 0 0 5))), (5, .int (iI (lt)))] := hl
  have ho := hR.2.2.2.1.1 k hkk
  have h87 := hR.1.2.2.2.1
  have hon := hN.2.2.2.1 k hkk
  obtain ⟨hd0, hd1, hd2, hd3⟩ := id hN.2.1
  have h78 := ho.2.2.2.2.2.1
  have h7n := ho.2.2.2.2.2.2.2.2.1
  have h8n := ho.2.2.2.2.2.2.2.2.2.1
  have h6 : T 53 0 (9 * k + 6) = T 11 k 4 := by
    have h := ho.2.2.2.2.1 (by omega)
    rw [hst] at h
    exact h
  refine y_aload_n hM hl 1 rfl rfl dL_timely_0 ?_
  refine y_bipush hM dL_timely_1 (by decide) ?_
  refine y_iload_n hM hl 3 rfl rfl dL_timely_3 ?_
  refine y_imul hM dL_timely_4 ?_
  refine y_bipush hM dL_timely_5 (by decide) ?_
  refine y_iadd hM dL_timely_7 ?_
  refine y_iald hM hC hLK.2.2.2.1 rfl ⟨by omega, by omega⟩ (by decide) (x := T 53 0 (9 * k + 7)) (by rw [show (((9) * (((k : Nat) : Int))) + (7) : Int).toNat = 9 * k + 7 from by omega]) dL_timely_8 ?_
  refine y_aload_n hM hl 1 rfl rfl dL_timely_9 ?_
  refine y_bipush hM dL_timely_10 (by decide) ?_
  refine y_iload_n hM hl 3 rfl rfl dL_timely_12 ?_
  refine y_imul hM dL_timely_13 ?_
  refine y_bipush hM dL_timely_14 (by decide) ?_
  refine y_iadd hM dL_timely_16 ?_
  refine y_iald hM hC hLK.2.2.2.1 rfl ⟨by omega, by omega⟩ (by decide) (x := T 53 0 (9 * k + 8)) (by rw [show (((9) * (((k : Nat) : Int))) + (8) : Int).toNat = 9 * k + 8 from by omega]) dL_timely_17 ?_
  refine y_iadd hM dL_timely_18 ?_
  rw [show (T 53 0 (9 * k + 7)) + (T 53 0 (9 * k + 8)) = T 11 k 5 from (by omega)]
  refine lv_istore (lv' := [(6, .int (iI (T 11 k 5))), (0, .ref (ad 50 0)), (1, .ref (ad 53 0)), (2, .ref (ad 54 0)), (3, .int (iI (((k : Nat) : Int)))), (4, .int (iI (T 0 0 5))), (5, .int (iI (lt)))]) hM.1 hM.2.1 dL_timely_19 hl (by decide) rfl (fun ls hl => ?_)
  refine y_aload_n hM hl 3 rfl rfl dL_timely_21 ?_
  refine y_iconst hM dL_timely_22 ?_
  refine y_iload_n hM hl 4 rfl rfl dL_timely_23 ?_
  refine y_imul hM dL_timely_24 ?_
  refine y_lald hM hC hLK.2.2.2.2.1 rfl ⟨by omega, by omega⟩ (by decide) (x := T 11 k 7) (by rw [show ((4) * (((k : Nat) : Int)) : Int).toNat = 4 * k from by omega, ho.2.2.2.2.2.2.2.2.2.2.1]) dL_timely_25 ?_
  refine y_aload_n hM hl 1 rfl rfl dL_timely_26 ?_
  refine y_aload_n hM hl 2 rfl rfl dL_timely_27 ?_
  refine y_bipush hM dL_timely_28 (by decide) ?_
  refine y_iload_n hM hl 4 rfl rfl dL_timely_30 ?_
  refine y_imul hM dL_timely_31 ?_
  refine y_iconst hM dL_timely_32 ?_
  refine y_iadd hM dL_timely_33 ?_
  refine y_iald hM hC hLK.2.2.2.1 rfl ⟨by omega, by omega⟩ (by decide) (x := T 11 k 1) (by rw [show (((9) * (((k : Nat) : Int))) + (1) : Int).toNat = 9 * k + 1 from by omega, ho.2.1]) dL_timely_34 ?_
  refine y_aload_n hM hl 2 rfl rfl dL_timely_35 ?_
  refine y_bipush hM dL_timely_36 (by decide) ?_
  refine y_iload_n hM hl 4 rfl rfl dL_timely_38 ?_
  refine y_imul hM dL_timely_39 ?_
  refine y_bipush hM dL_timely_40 (by decide) ?_
  refine y_iadd hM dL_timely_42 ?_
  refine y_iald hM hC hLK.2.2.2.1 rfl ⟨by omega, by omega⟩ (by decide) (x := T 11 k 4) (by rw [show (((9) * (((k : Nat) : Int))) + (6) : Int).toNat = 9 * k + 6 from by omega, h6]) dL_timely_43 ?_
  refine y_iload hM hl 0 rfl dL_timely_44 ?_
  refine y_isub hM dL_timely_46 ?_
  refine y_callS hM hC (c_L_price l hfl G b0 ks ad T P (T 11 k 1) ((T 11 k 4) - (T 11 k 5)) ⟨by omega, by omega⟩ ⟨by omega, by omega⟩ hLK.1 hR.2.1) (va_cwS 3 hM.2.2.2.2 gL_timely_L_price rfl rfl rfl (by decide +kernel) ⟨(Nat.le_of_ble_eq_true rfl), (Nat.le_of_ble_eq_true rfl)⟩) rfl hl.1 rfl (Nat.le_of_ble_eq_true rfl) dL_timely_47 ⟨(Nat.le_of_ble_eq_true rfl), (Nat.le_of_ble_eq_true rfl)⟩ (fun E ce q9 u1 H locs hx hC hce hcv hcl => hx.elim) (fun v u1 H locs hp hC => ?_)
  obtain ⟨r_47, rfl, h_47, hu⟩ := hp; rw [hu] at hC; clear hu
  try dsimp only at h_47
  refine W.eq (g2 := F0 m 50 ls [.int (iI (r_47)), .long (lI (T 11 k 7))]) rfl ?_
  have hv_47 := valT_in hN.1 (p := (T 11 k 1).toNat) (by omega) (T 11 k 4 - T 11 k 5)
  have hm1 : 0 ≤ T 11 k 7 * r_47 := Int.mul_nonneg (by omega) (by omega)
  have hm2 : T 11 k 7 * r_47 ≤ 100000000 * 10000 := Int.mul_le_mul (by omega) (by omega) (by omega) (by omega)
  refine y_i2l hM (by constructor <;> omega) dL_timely_50 ?_
  refine y_lmul hM dL_timely_51 ?_
  refine y_ldc2 hM (v := 1000) (1000) (by decide) (by decide +kernel) dL_timely_52 ?_
  refine y_ldiv hM ⟨by omega, by omega, by omega, by omega⟩ dL_timely_55 ?_
  refine lv_lstore (lv' := [(7, .long (lI (((T 11 k 7) * (r_47)) / (1000)))), (6, .int (iI (T 11 k 5))), (0, .ref (ad 50 0)), (1, .ref (ad 53 0)), (2, .ref (ad 54 0)), (3, .int (iI (((k : Nat) : Int)))), (4, .int (iI (T 0 0 5))), (5, .int (iI (lt)))]) hM.1 hM.2.1 dL_timely_56 hl (by decide) rfl (fun ls hl => ?_)
  refine y_lload hM hl 0 rfl dL_timely_58 ?_
  refine y_ldc2 hM (v := 1000) (1000) (by decide) (by decide +kernel) dL_timely_60 ?_
  refine y_lmul hM dL_timely_63 ?_
  refine y_aload_n hM hl 2 rfl rfl dL_timely_64 ?_
  refine y_aload_n hM hl 3 rfl rfl dL_timely_65 ?_
  refine y_bipush hM dL_timely_66 (by decide) ?_
  refine y_iload_n hM hl 5 rfl rfl dL_timely_68 ?_
  refine y_imul hM dL_timely_69 ?_
  refine y_iconst hM dL_timely_70 ?_
  refine y_iadd hM dL_timely_71 ?_
  refine y_iald hM hC hLK.2.2.2.1 rfl ⟨by omega, by omega⟩ (by decide) (x := T 11 k 2) (by rw [show (((9) * (((k : Nat) : Int))) + (2) : Int).toNat = 9 * k + 2 from by omega, ho.2.2.1]) dL_timely_72 ?_
  refine y_iload hM hl 6 rfl dL_timely_73 ?_
  refine y_iload hM hl 1 rfl dL_timely_75 ?_
  refine y_isub hM dL_timely_77 ?_
  refine y_iload hM hl 7 rfl dL_timely_78 ?_
  refine y_isub hM dL_timely_80 ?_
  refine y_callS hM hC (c_L_price l hfl G b0 ks ad T P (T 11 k 2) (((T 0 0 5) - (T 11 k 5)) - (lt)) ⟨by omega, by omega⟩ ⟨by omega, by omega⟩ hLK.1 hR.2.1) (va_cwS 3 hM.2.2.2.2 gL_timely_L_price rfl rfl rfl (by decide +kernel) ⟨(Nat.le_of_ble_eq_true rfl), (Nat.le_of_ble_eq_true rfl)⟩) rfl hl.1 rfl (Nat.le_of_ble_eq_true rfl) dL_timely_81 ⟨(Nat.le_of_ble_eq_true rfl), (Nat.le_of_ble_eq_true rfl)⟩ (fun E ce q9 u1 H locs hx hC hce hcv hcl => hx.elim) (fun v u1 H locs hp hC => ?_)
  obtain ⟨r_81, rfl, h_81, hu⟩ := hp; rw [hu] at hC; clear hu
  try dsimp only at h_81
  refine W.eq (g2 := F0 m 84 ls [.int (iI (r_81)), .long (lI ((((T 11 k 7) * (r_47)) / (1000)) * (1000)))]) rfl ?_
  have hv_81 := valT_in hN.1 (p := (T 11 k 2).toNat) (by omega) (T 0 0 5 - T 11 k 5 - lt)
  refine y_i2l hM (by constructor <;> omega) dL_timely_84 ?_
  refine y_ldiv hM ⟨by omega, by omega, by omega, by omega⟩ dL_timely_85 ?_
  exact y_lret hM hr hlk hC ⟨_, rfl, (by
    try dsimp only
    rw [h_47, h_81, show T 0 0 5 - T 11 k 5 - lt = T 0 0 5 - (T 11 k 5 + lt) by omega]
    rfl), rfl⟩ (Nat.le_of_ble_eq_true rfl) (Nat.le_of_ble_eq_true rfl) dL_timely_86
