set_option maxRecDepth 100000 in
set_option maxHeartbeats 8000000 in
theorem law_today {p : Program} {e : Env} {s : State} {m : MethodId} {below : List Frame} {meth : Method} {c : Code} {Q : State → Prop} (l : Launch) (hfl : l.stackTraces = false) (G : GG) (b0 : Nat) {b L : Nat} {xs : Nat → Int32} (hM : CallFix p m c cL_law 8 s #[Value.ref b] wsL_law RL) (hN : NcX s) (hX : va_X b L xs s s.heap) (hbA : ¬ b0 ≤ b) (hbl : b < s.heap.size) (hL : L ≤ 1536) {ks : KK} {ad : AD} {T : TT} {P : PP} {H : Heap} {locs : List Loc} {cells slots : Nat} (hcl : cells + 10 ≤ 601024) (hsl : slots + 100 ≤ 7293034) (i : Nat) (hi : i + 3 ≤ L) {ls : Array Slot} (hl : lv_has ls 8 [(4, .int (iI ((i : Nat) : Int))), (3, .ref (ad 43 0)), (2, .ref (ad 12 0)), (1, .ref (ad 0 0)), (0, .ref b)]) (hC : Cur G b0 (ks, ad, T, P) s H locs) (hI : IV ks ad T P)
    (kk : ∀ (ks1 : KK) (ad1 : AD) (T1 : TT) (P1 : PP) (H1 : Heap) (locs1 : List Loc) (cells1 slots1 : Nat) (ls1 : Array Slot), cells1 ≤ cells + 10 → slots1 ≤ slots + 100 → Cur G b0 (ks1, ad1, T1, P1) s H1 locs1 → IV ks1 ad1 T1 P1 → lv_has ls1 8 [(4, .int (iI ((i : Nat) : Int))), (3, .ref (ad1 43 0)), (2, .ref (ad1 12 0)), (1, .ref (ad1 0 0)), (0, .ref b)] → W p l e room_1 s m #[Value.ref b] below meth c H1 locs1 cells1 slots1 Q (F0 m 1216 ls1 [])) :
    W p l e room_1 s m #[Value.ref b] below meth c H locs cells slots Q (F0 m 184 ls []) := by
  obtain ⟨hMI1, hk43, hk0, ea0, ea12, ea43⟩ := iv_Kp hI
  have hd := hI.2.1.2.1
  have hd1 := hd.1
  have hd2 := hd.2.1
  have h1 := hI.2.2.1.1
  refine y_aload_n hM hl 3 rfl rfl dL_law_184 ?_
  refine y_callV hM hC (c_today l hfl G b0 ks ad T P hI.1.1) (cwV 0 hM.2.2.2.2 gL_law_X3_today rfl rfl rfl (by decide +kernel) ⟨(Nat.le_of_ble_eq_true rfl), (Nat.le_of_ble_eq_true rfl)⟩) (y_recv hC hk0 rfl rfl) rfl hl.1 rfl (Nat.le_of_ble_eq_true rfl) dL_law_185 ⟨(show _ ≤ 601024 by omega), (show _ ≤ 7293034 by omega)⟩ (fun E ce q9 u1 H locs hx hC hce hcv hcl => hx.elim) (fun v u1 H locs hp hC => ?_)
  obtain ⟨r1, rfl, e1, hu⟩ := hp; rw [hu] at hC; clear hu; try dsimp only at e1
  refine W.eq (g2 := F0 m 188 ls [.int (iI r1)]) rfl ?_
  refine y_aload_n hM hl 2 rfl rfl dL_law_188 ?_
  refine y_callV hM hC (c_M_today l hfl G b0 ks ad T P hMI1 hI.MN) (cwV 0 hM.2.2.2.2 gL_law_X4_today rfl rfl rfl (by decide +kernel) ⟨(Nat.le_of_ble_eq_true rfl), (Nat.le_of_ble_eq_true rfl)⟩) (y_recv hC hMI1.1 rfl rfl) rfl hl.1 rfl (Nat.le_of_ble_eq_true rfl) dL_law_189 ⟨(show _ ≤ 601024 by omega), (show _ ≤ 7293034 by omega)⟩ (fun E ce q9 u1 H locs hx hC hce hcv hcl => hx.elim) (fun v u1 H locs hp hC => ?_)
  obtain ⟨r2, T2, rfl, ⟨e2, hT2⟩, hu⟩ := hp; rw [hu] at hC; clear hu
  refine W.eq (g2 := F0 m 192 ls [.int (iI r2), .int (iI r1)]) rfl ?_
  refine y_icmp_eq hM (by constructor <;> omega) (by constructor <;> omega) (tgt := 1216) dL_law_192 (by decide) (fun q => ?_) (fun q => False.elim (by omega))
  exact kk _ _ T2 _ _ _ _ _ ls (by omega) (by omega) hC (by rw [hT2]; exact hI.th) hl

set_option maxRecDepth 100000 in
set_option maxHeartbeats 8000000 in
theorem law_loop {p : Program} {e : Env} {s : State} {m : MethodId} {below : List Frame} {meth : Method} {c : Code} (l : Launch) (hfl : l.stackTraces = false) (G : GG) (b0 : Nat) {b L : Nat} {xs : Nat → Int32} (hM : CallFix p m c cL_law 8 s #[Value.ref b] wsL_law RL) (hN : NcX s) (hX : va_X b L xs s s.heap) (hbA : ¬ b0 ≤ b) (hbl : b < s.heap.size) (hL : L ≤ 1536) (hret : meth.sig.returnType = ret) (hlk : meth.locks = false) (hb0 : s.heap.size ≤ b0) : ∀ (n i : Nat) (ks : KK) (ad : AD) (T : TT) (P : PP) (H : Heap) (locs : List Loc) (cells slots : Nat) (ls : Array Slot), L ≤ i + 3 * n + 2 → i ≤ 2000 → cells + 10 * n ≤ 601024 → slots + 100 * n ≤ 7293034 → lv_has ls 8 [(4, .int (iI ((i : Nat) : Int))), (3, .ref (ad 43 0)), (2, .ref (ad 12 0)), (1, .ref (ad 0 0)), (0, .ref b)] → Cur G b0 (ks, ad, T, P) s H locs → IV ks ad T P → W p l e room_1 s m #[Value.ref b] below meth c H locs cells slots (lw_Z below #[Value.ref b] s) (F0 m 23 ls []) := by
  intro n
  induction n with
  | zero =>
    intro i ks ad T P H locs cells slots ls hLi hi2 hc1 hs1 hl hC hI
    refine y_iload hM hl 0 rfl dL_law_23 ?_
    refine y_aload_n hM hl 4 rfl rfl dL_law_25 ?_
    refine y_slen hM hX hbl hbA hC dL_law_26 ?_
    refine y_iconst hM dL_law_27 ?_
    refine y_isub hM dL_law_28 ?_
    refine y_icmp_gt hM (by constructor <;> omega) (by constructor <;> omega) (tgt := 1222) dL_law_29 (by decide) (fun hgt => ?_) (fun hle => ?_)
    ·
      refine y_iconst hM dL_law_1222 ?_
      refine va_forget (fun q hq => Nat.le_trans hb0 (hC.2.2.2.2.2.2 q hq)) ?_
      exact W.widen (by omega) (by omega) (lw_ret hM.1 hM.2.1 hret hlk dL_law_1223)
    · exact absurd hle (by omega)
  | succ n ih =>
    intro i ks ad T P H locs cells slots ls hLi hi2 hc1 hs1 hl hC hI
    refine y_iload hM hl 0 rfl dL_law_23 ?_
    refine y_aload_n hM hl 4 rfl rfl dL_law_25 ?_
    refine y_slen hM hX hbl hbA hC dL_law_26 ?_
    refine y_iconst hM dL_law_27 ?_
    refine y_isub hM dL_law_28 ?_
    refine y_icmp_gt hM (by constructor <;> omega) (by constructor <;> omega) (tgt := 1222) dL_law_29 (by decide) (fun hgt => ?_) (fun hle => ?_)
    ·
      refine y_iconst hM dL_law_1222 ?_
      refine va_forget (fun q hq => Nat.le_trans hb0 (hC.2.2.2.2.2.2 q hq)) ?_
      exact W.widen (by omega) (by omega) (lw_ret hM.1 hM.2.1 hret hlk dL_law_1223)
    · have hi3 : i + 3 ≤ L := by omega
      have kk : ∀ (ks1 : KK) (ad1 : AD) (T1 : TT) (P1 : PP) (H1 : Heap) (locs1 : List Loc) (cells1 slots1 : Nat) (ls1 : Array Slot), cells1 ≤ cells + 10 → slots1 ≤ slots + 100 → Cur G b0 (ks1, ad1, T1, P1) s H1 locs1 → IV ks1 ad1 T1 P1 → lv_has ls1 8 [(4, .int (iI ((i : Nat) : Int))), (3, .ref (ad1 43 0)), (2, .ref (ad1 12 0)), (1, .ref (ad1 0 0)), (0, .ref b)] → W p l e room_1 s m #[Value.ref b] below meth c H1 locs1 cells1 slots1 (lw_Z below #[Value.ref b] s) (F0 m 1216 ls1 []) := by
        intro ks1 ad1 T1 P1 H1 locs1 cells1 slots1 ls1 g1 g2 hC1 hI1 hl1
        refine lv_iinc (v := iI (((i : Nat) : Int) + 3)) (lv' := [(4, .int (iI (((i : Nat) : Int) + 3))), (3, .ref (ad1 43 0)), (2, .ref (ad1 12 0)), (1, .ref (ad1 0 0)), (0, .ref b)]) hM.1 hM.2.1 dL_law_1216 hl1 (k := 0) rfl (iI_add _ _) (by decide) rfl (fun ls hl => ?_)
        refine lv_goto (tgt := 23) hM.1 hM.2.1 dL_law_1219 (by decide) ?_
        rw [show ((i : Nat) : Int) + 3 = ((i + 3 : Nat) : Int) by omega] at hl
        exact ih (i + 3) ks1 ad1 T1 P1 H1 locs1 cells1 slots1 ls (by omega) (by omega) (by omega) (by omega) hl hC1 hI1
      refine y_aload_n hM hl 4 rfl rfl dL_law_32 ?_
      refine y_iload hM hl 0 rfl dL_law_33 ?_
      refine y_scr hM hX hbl hbA hC (k := i) rfl (by omega) hL dL_law_35 ?_
      refine y_bipush hM dL_law_36 (by decide) ?_
      refine lv_iand hM.1 hM.2.1 dL_law_38 ?_
      obtain ⟨j, hj, ej⟩ := pk_andE (iI (xs i).toInt) (m := iI 31) 5 (by decide)
      rw [ej]
      rcases (show j = 0 ∨ j = 1 ∨ j = 2 ∨ j = 3 ∨ j = 4 ∨ j = 5 ∨ j = 6 ∨ j = 7 ∨ j = 8 ∨ j = 9 ∨ j = 10 ∨ j = 11 ∨ j = 12 ∨ j = 13 ∨ j = 14 ∨ j = 15 ∨ j = 16 ∨ j = 17 ∨ j = 18 ∨ 19 ≤ j by omega) with rfl | rfl | rfl | rfl | rfl | rfl | rfl | rfl | rfl | rfl | rfl | rfl | rfl | rfl | rfl | rfl | rfl | rfl | rfl | hj2
      · refine lv_tableIn hM.1 hM.2.1 dL_law_39 (by decide) (by decide) (off := 89) (tgt := 128) (by decide +kernel) (by decide) ?_
        exact law_pass l hfl G b0 hM hN hX hbA hbl hL (by omega) (by omega) i hi3 hl hC hI kk
      · refine lv_tableIn hM.1 hM.2.1 dL_law_39 (by decide) (by decide) (off := 145) (tgt := 184) (by decide +kernel) (by decide) ?_
        exact law_today l hfl G b0 hM hN hX hbA hbl hL (by omega) (by omega) i hi3 hl hC hI kk
      · refine lv_tableIn hM.1 hM.2.1 dL_law_39 (by decide) (by decide) (off := 158) (tgt := 197) (by decide +kernel) (by decide) ?_
        exact law_setPrice l hfl G b0 hM hN hX hbA hbl hL (by omega) (by omega) i hi3 hl hC hI kk
      · refine lv_tableIn hM.1 hM.2.1 dL_law_39 (by decide) (by decide) (off := 226) (tgt := 265) (by decide +kernel) (by decide) ?_
        exact law_price l hfl G b0 hM hN hX hbA hbl hL (by omega) (by omega) i hi3 hl hC hI kk
      · refine lv_tableIn hM.1 hM.2.1 dL_law_39 (by decide) (by decide) (off := 294) (tgt := 333) (by decide +kernel) (by decide) ?_
        exact law_setDefault l hfl G b0 hM hN hX hbA hbl hL (by omega) (by omega) i hi3 hl hC hI kk
      · refine lv_tableIn hM.1 hM.2.1 dL_law_39 (by decide) (by decide) (off := 350) (tgt := 389) (by decide +kernel) (by decide) ?_
        exact law_begin l hfl G b0 hM hN hX hbA hbl hL (by omega) (by omega) i hi3 hl hC hI kk
      · refine lv_tableIn hM.1 hM.2.1 dL_law_39 (by decide) (by decide) (off := 418) (tgt := 457) (by decide +kernel) (by decide) ?_
        exact law_pay l hfl G b0 hM hN hX hbA hbl hL (by omega) (by omega) i hi3 hl hC hI kk
      · refine lv_tableIn hM.1 hM.2.1 dL_law_39 (by decide) (by decide) (off := 486) (tgt := 525) (by decide +kernel) (by decide) ?_
        exact law_units l hfl G b0 hM hN hX hbA hbl hL (by omega) (by omega) i hi3 hl hC hI kk
      · refine lv_tableIn hM.1 hM.2.1 dL_law_39 (by decide) (by decide) (off := 541) (tgt := 580) (by decide +kernel) (by decide) ?_
        exact law_provider l hfl G b0 hM hN hX hbA hbl hL (by omega) (by omega) i hi3 hl hC hI kk
      · refine lv_tableIn hM.1 hM.2.1 dL_law_39 (by decide) (by decide) (off := 597) (tgt := 636) (by decide +kernel) (by decide) ?_
        exact law_order l hfl G b0 hM hN hX hbA hbl hL (by omega) (by omega) i hi3 hl hC hI kk
      · refine lv_tableIn hM.1 hM.2.1 dL_law_39 (by decide) (by decide) (off := 665) (tgt := 704) (by decide +kernel) (by decide) ?_
        exact law_step l hfl G b0 hM hN hX hbA hbl hL (by omega) (by omega) i hi3 hl hC hI kk
      · refine lv_tableIn hM.1 hM.2.1 dL_law_39 (by decide) (by decide) (off := 721) (tgt := 760) (by decide +kernel) (by decide) ?_
        exact law_force l hfl G b0 hM hN hX hbA hbl hL (by omega) (by omega) i hi3 hl hC hI kk
      · refine lv_tableIn hM.1 hM.2.1 dL_law_39 (by decide) (by decide) (off := 777) (tgt := 816) (by decide +kernel) (by decide) ?_
        exact law_stage l hfl G b0 hM hN hX hbA hbl hL (by omega) (by omega) i hi3 hl hC hI kk
      · refine lv_tableIn hM.1 hM.2.1 dL_law_39 (by decide) (by decide) (off := 833) (tgt := 872) (by decide +kernel) (by decide) ?_
        exact law_due l hfl G b0 hM hN hX hbA hbl hL (by omega) (by omega) i hi3 hl hC hI kk
      · refine lv_tableIn hM.1 hM.2.1 dL_law_39 (by decide) (by decide) (off := 889) (tgt := 928) (by decide +kernel) (by decide) ?_
        exact law_late l hfl G b0 hM hN hX hbA hbl hL (by omega) (by omega) i hi3 hl hC hI kk
      · refine lv_tableIn hM.1 hM.2.1 dL_law_39 (by decide) (by decide) (off := 945) (tgt := 984) (by decide +kernel) (by decide) ?_
        exact law_money l hfl G b0 hM hN hX hbA hbl hL (by omega) (by omega) i hi3 hl hC hI kk
      · refine lv_tableIn hM.1 hM.2.1 dL_law_39 (by decide) (by decide) (off := 1000) (tgt := 1039) (by decide +kernel) (by decide) ?_
        exact law_madeGood l hfl G b0 hM hN hX hbA hbl hL (by omega) (by omega) i hi3 hl hC hI kk
      · refine lv_tableIn hM.1 hM.2.1 dL_law_39 (by decide) (by decide) (off := 1055) (tgt := 1094) (by decide +kernel) (by decide) ?_
        exact law_owes l hfl G b0 hM hN hX hbA hbl hL (by omega) (by omega) i hi3 hl hC hI kk
      · refine lv_tableIn hM.1 hM.2.1 dL_law_39 (by decide) (by decide) (off := 1122) (tgt := 1161) (by decide +kernel) (by decide) ?_
        exact law_losses l hfl G b0 hM hN hX hbA hbl hL (by omega) (by omega) i hi3 hl hC hI kk
      · have hjt : (nI j).toInt = (j : Int) := by
          unfold nI
          exact Int32.toInt_ofNat_of_lt (by omega)
        refine lv_tableOut hM.1 hM.2.1 dL_law_39 (tgt := 1216) (Or.inr (by rw [hjt]; omega)) (by decide) ?_
        exact kk _ _ _ _ _ _ _ _ _ (by omega) (by omega) hC hI hl
