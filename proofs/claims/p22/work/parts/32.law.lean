set_option maxRecDepth 100000 in
set_option maxHeartbeats 16000000 in
theorem law_head {p : Program} {e : Env} {s : State} {m : MethodId} {below : List Frame} {meth : Method} {c : Code} {Q : State → Prop} (l : Launch) (hfl : l.stackTraces = false) (G : GG) (b0 : Nat) {b L : Nat} {xs : Nat → Int32} (hM : CallFix p m c cL_law 30 s #[Value.ref b] wsL_law RL) (hN : NcX s) (hX : va_X b L xs s s.heap) (hbA : ¬ b0 ≤ b) (hbl : b < s.heap.size) (hL : L ≤ 260) {ks : KK} {ad : AD} {T : TT} {P : PP} {H : Heap} {locs : List Loc} {cells slots : Nat} (hcl : cells + 400 ≤ 602294) (hsl : slots + 3000 ≤ 7294300) (i : Nat) (hi : i < 64) {ls : Array Slot} (hl : lv_has ls 30 [(9, .int (iI (((i : Nat) : Int)))), (8, .ref (ad 56 0)), (7, .ref (ad 55 0)), (6, .ref (ad 54 0)), (5, .ref (ad 53 0)), (4, .ref (ad 52 0)), (3, .ref (ad 51 0)), (2, .ref (ad 50 0)), (1, .ref (ad 0 0)), (0, .ref b)]) (hC : Cur G b0 (ks, ad, T, P) s H locs) (hI : IV ks ad T P)
    (kh : ∀ (xx yy kd : Int) (pv sv k : Nat) (H1 : Heap) (locs1 : List Loc) (cells1 slots1 : Nat) (ls1 : Array Slot), cells1 ≤ cells → slots1 ≤ slots → 0 ≤ kd ∧ kd < 20 → pv < 5 → ((T 0 0 7 = 0 ∧ sv = 0) ∨ (sv : Int) < T 0 0 7) → ((T 0 0 8 = 0 ∧ k = 0) ∨ (k : Int) < T 0 0 8) → lv_has ls1 30 [(15, .int (iI (((k : Nat) : Int)))), (14, .int (iI (((sv : Nat) : Int)))), (13, .int (iI (((pv : Nat) : Int)))), (12, .int (iI (kd))), (11, .int (iI (yy))), (10, .int (iI (xx))), (9, .int (iI (((i : Nat) : Int)))), (8, .ref (ad 56 0)), (7, .ref (ad 55 0)), (6, .ref (ad 54 0)), (5, .ref (ad 53 0)), (4, .ref (ad 52 0)), (3, .ref (ad 51 0)), (2, .ref (ad 50 0)), (1, .ref (ad 0 0)), (0, .ref b)] → Cur G b0 (ks, ad, T, P) s H1 locs1 → W p l e room_1 s m #[Value.ref b] below meth c H1 locs1 cells1 slots1 Q (F0 m 148 ls1 [])) :
    W p l e room_1 s m #[Value.ref b] below meth c H locs cells slots Q (F0 m 63 ls []) := by
  obtain ⟨hCK, hNC, hR⟩ := id hI
  obtain ⟨hF, hRK, hSK, hOK, hKF, hLK⟩ := id hCK
  obtain ⟨hRN, hDN, hSN, hON, hXP, hXO, hXD⟩ := id hNC
  obtain ⟨⟨hg1, h75, hg2, h87, hg3, h19, hg4, hg0⟩, hRP, hRS, hRO, hRD⟩ := id hR
  obtain ⟨hd0, hd1, hd2, hd3⟩ := id hDN
  have hs70 := hSK.1
  have ho80 := hOK.1
  have hP1 := hRP.1.1
  refine y_aload_n hM hl 9 rfl rfl dL_law_63 ?_
  refine y_iconst hM dL_law_64 ?_
  refine y_iload hM hl 0 rfl dL_law_65 ?_
  refine y_imul hM dL_law_67 ?_
  refine y_callSS hM hX hbl hbA hC (c_L_cell l hfl G b0 (ks, ad, T, P) hbA hL ((2) * (((i : Nat) : Int))) ⟨by omega, by omega⟩) (va_cwS 2 hM.2.2.2.2 gL_law_L_cell rfl rfl rfl (by decide +kernel) ⟨(Nat.le_of_ble_eq_true rfl), (Nat.le_of_ble_eq_true rfl)⟩) rfl hl.1 rfl (Nat.le_of_ble_eq_true rfl) dL_law_68 ⟨(show _ ≤ 602294 by omega), (show _ ≤ 7294300 by omega)⟩ (fun E ce q9 u1 H locs hx hC hce hcv hcl => hx.elim) (fun v u1 H locs hp hC => ?_)
  obtain ⟨r_68, rfl, h_68, hu⟩ := hp; rw [hu] at hC; clear hu
  try dsimp only at h_68
  refine W.eq (g2 := F0 m 71 ls [.int (iI (r_68))]) rfl ?_
  refine lv_istore (lv' := [(10, .int (iI (r_68))), (9, .int (iI (((i : Nat) : Int)))), (8, .ref (ad 56 0)), (7, .ref (ad 55 0)), (6, .ref (ad 54 0)), (5, .ref (ad 53 0)), (4, .ref (ad 52 0)), (3, .ref (ad 51 0)), (2, .ref (ad 50 0)), (1, .ref (ad 0 0)), (0, .ref b)]) hM.1 hM.2.1 dL_law_71 hl (by decide) rfl (fun ls hl => ?_)
  refine y_aload_n hM hl 10 rfl rfl dL_law_73 ?_
  refine y_iconst hM dL_law_74 ?_
  refine y_iload hM hl 1 rfl dL_law_75 ?_
  refine y_imul hM dL_law_77 ?_
  refine y_iconst hM dL_law_78 ?_
  refine y_iadd hM dL_law_79 ?_
  refine y_callSS hM hX hbl hbA hC (c_L_cell l hfl G b0 (ks, ad, T, P) hbA hL (((2) * (((i : Nat) : Int))) + (1)) ⟨by omega, by omega⟩) (va_cwS 2 hM.2.2.2.2 gL_law_L_cell rfl rfl rfl (by decide +kernel) ⟨(Nat.le_of_ble_eq_true rfl), (Nat.le_of_ble_eq_true rfl)⟩) rfl hl.1 rfl (Nat.le_of_ble_eq_true rfl) dL_law_80 ⟨(show _ ≤ 602294 by omega), (show _ ≤ 7294300 by omega)⟩ (fun E ce q9 u1 H locs hx hC hce hcv hcl => hx.elim) (fun v u1 H locs hp hC => ?_)
  obtain ⟨r_80, rfl, h_80, hu⟩ := hp; rw [hu] at hC; clear hu
  try dsimp only at h_80
  refine W.eq (g2 := F0 m 83 ls [.int (iI (r_80))]) rfl ?_
  refine lv_istore (lv' := [(11, .int (iI (r_80))), (10, .int (iI (r_68))), (9, .int (iI (((i : Nat) : Int)))), (8, .ref (ad 56 0)), (7, .ref (ad 55 0)), (6, .ref (ad 54 0)), (5, .ref (ad 53 0)), (4, .ref (ad 52 0)), (3, .ref (ad 51 0)), (2, .ref (ad 50 0)), (1, .ref (ad 0 0)), (0, .ref b)]) hM.1 hM.2.1 dL_law_83 hl (by decide) rfl (fun ls hl => ?_)
  refine y_iload hM hl 1 rfl dL_law_85 ?_
  refine y_bipush hM dL_law_87 (by decide) ?_
  refine y_callS hM hC (c_L_low l hfl G b0 (ks, ad, T, P) (r_68) (20) ⟨by omega, by omega⟩) (va_cwS 2 hM.2.2.2.2 gL_law_L_low rfl rfl rfl (by decide +kernel) ⟨(Nat.le_of_ble_eq_true rfl), (Nat.le_of_ble_eq_true rfl)⟩) rfl hl.1 rfl (Nat.le_of_ble_eq_true rfl) dL_law_89 ⟨(show _ ≤ 602294 by omega), (show _ ≤ 7294300 by omega)⟩ (fun E ce q9 u1 H locs hx hC hce hcv hcl => hx.elim) (fun v u1 H locs hp hC => ?_)
  obtain ⟨r_89, rfl, h_89, hu⟩ := hp; rw [hu] at hC; clear hu
  try dsimp only at h_89
  refine W.eq (g2 := F0 m 92 ls [.int (iI (r_89))]) rfl ?_
  refine lv_istore (lv' := [(12, .int (iI (r_89))), (11, .int (iI (r_80))), (10, .int (iI (r_68))), (9, .int (iI (((i : Nat) : Int)))), (8, .ref (ad 56 0)), (7, .ref (ad 55 0)), (6, .ref (ad 54 0)), (5, .ref (ad 53 0)), (4, .ref (ad 52 0)), (3, .ref (ad 51 0)), (2, .ref (ad 50 0)), (1, .ref (ad 0 0)), (0, .ref b)]) hM.1 hM.2.1 dL_law_92 hl (by decide) rfl (fun ls hl => ?_)
  refine y_iload hM hl 2 rfl dL_law_94 ?_
  refine y_iconst hM dL_law_96 ?_
  refine lv_ishr hM.1 hM.2.1 dL_law_97 ?_
  obtain ⟨z_97, ez_97⟩ : ∃ z : Int, (iI (r_68) >>> (iI (5) &&& 31)) = iI z := ⟨_, iI_of _⟩
  rw [ez_97]
  refine y_iconst hM dL_law_98 ?_
  refine y_callS hM hC (c_L_low l hfl G b0 (ks, ad, T, P) (z_97) (5) ⟨by omega, by omega⟩) (va_cwS 2 hM.2.2.2.2 gL_law_L_low rfl rfl rfl (by decide +kernel) ⟨(Nat.le_of_ble_eq_true rfl), (Nat.le_of_ble_eq_true rfl)⟩) rfl hl.1 rfl (Nat.le_of_ble_eq_true rfl) dL_law_99 ⟨(show _ ≤ 602294 by omega), (show _ ≤ 7294300 by omega)⟩ (fun E ce q9 u1 H locs hx hC hce hcv hcl => hx.elim) (fun v u1 H locs hp hC => ?_)
  obtain ⟨r_99, rfl, h_99, hu⟩ := hp; rw [hu] at hC; clear hu
  try dsimp only at h_99
  refine W.eq (g2 := F0 m 102 ls [.int (iI (r_99))]) rfl ?_
  refine lv_istore (lv' := [(13, .int (iI (r_99))), (12, .int (iI (r_89))), (11, .int (iI (r_80))), (10, .int (iI (r_68))), (9, .int (iI (((i : Nat) : Int)))), (8, .ref (ad 56 0)), (7, .ref (ad 55 0)), (6, .ref (ad 54 0)), (5, .ref (ad 53 0)), (4, .ref (ad 52 0)), (3, .ref (ad 51 0)), (2, .ref (ad 50 0)), (1, .ref (ad 0 0)), (0, .ref b)]) hM.1 hM.2.1 dL_law_102 hl (by decide) rfl (fun ls hl => ?_)
  refine y_aload hM hl 5 rfl dL_law_104 ?_
  refine y_iconst hM dL_law_106 ?_
  refine y_iald hM hC hLK.2.2.2.2.2.2 rfl ⟨by omega, by omega⟩ (by decide) (x := T 0 0 7) (by rw [show ((1 : Int)).toNat = 1 from rfl, hg1]) dL_law_107 ?_
  refine y_if_ne hM (by constructor <;> omega) (tgt := 115) dL_law_108 (by decide) (fun c_108 => ?_) (fun c_108 => ?_)
  ·
    refine y_iload hM hl 2 rfl dL_law_115 ?_
    refine y_aload hM hl 5 rfl dL_law_117 ?_
    refine y_iconst hM dL_law_119 ?_
    refine y_iald hM hC hLK.2.2.2.2.2.2 rfl ⟨by omega, by omega⟩ (by decide) (x := T 0 0 7) (by rw [show ((1 : Int)).toNat = 1 from rfl, hg1]) dL_law_120 ?_
    refine y_callS hM hC (c_L_low l hfl G b0 (ks, ad, T, P) (r_80) (T 0 0 7) ⟨by omega, by omega⟩) (va_cwS 2 hM.2.2.2.2 gL_law_L_low rfl rfl rfl (by decide +kernel) ⟨(Nat.le_of_ble_eq_true rfl), (Nat.le_of_ble_eq_true rfl)⟩) rfl hl.1 rfl (Nat.le_of_ble_eq_true rfl) dL_law_121 ⟨(show _ ≤ 602294 by omega), (show _ ≤ 7294300 by omega)⟩ (fun E ce q9 u1 H locs hx hC hce hcv hcl => hx.elim) (fun v u1 H locs hp hC => ?_)
    obtain ⟨r_121, rfl, h_121, hu⟩ := hp; rw [hu] at hC; clear hu
    try dsimp only at h_121
    refine W.eq (g2 := F0 m 124 ls [.int (iI (r_121))]) rfl ?_
    refine lv_istore (lv' := [(14, .int (iI (r_121))), (13, .int (iI (r_99))), (12, .int (iI (r_89))), (11, .int (iI (r_80))), (10, .int (iI (r_68))), (9, .int (iI (((i : Nat) : Int)))), (8, .ref (ad 56 0)), (7, .ref (ad 55 0)), (6, .ref (ad 54 0)), (5, .ref (ad 53 0)), (4, .ref (ad 52 0)), (3, .ref (ad 51 0)), (2, .ref (ad 50 0)), (1, .ref (ad 0 0)), (0, .ref b)]) hM.1 hM.2.1 dL_law_124 hl (by decide) rfl (fun ls hl => ?_)
    refine y_aload hM hl 6 rfl dL_law_126 ?_
    refine y_iconst hM dL_law_128 ?_
    refine y_iald hM hC hLK.2.2.2.2.2.2 rfl ⟨by omega, by omega⟩ (by decide) (x := T 0 0 8) (by rw [show ((2 : Int)).toNat = 2 from rfl, hg2]) dL_law_129 ?_
    refine y_if_ne hM (by constructor <;> omega) (tgt := 137) dL_law_130 (by decide) (fun c_130 => ?_) (fun c_130 => ?_)
    ·
      refine y_iload hM hl 3 rfl dL_law_137 ?_
      refine y_aload hM hl 6 rfl dL_law_139 ?_
      refine y_iconst hM dL_law_141 ?_
      refine y_iald hM hC hLK.2.2.2.2.2.2 rfl ⟨by omega, by omega⟩ (by decide) (x := T 0 0 8) (by rw [show ((2 : Int)).toNat = 2 from rfl, hg2]) dL_law_142 ?_
      refine y_callS hM hC (c_L_low l hfl G b0 (ks, ad, T, P) (r_80) (T 0 0 8) ⟨by omega, by omega⟩) (va_cwS 2 hM.2.2.2.2 gL_law_L_low rfl rfl rfl (by decide +kernel) ⟨(Nat.le_of_ble_eq_true rfl), (Nat.le_of_ble_eq_true rfl)⟩) rfl hl.1 rfl (Nat.le_of_ble_eq_true rfl) dL_law_143 ⟨(show _ ≤ 602294 by omega), (show _ ≤ 7294300 by omega)⟩ (fun E ce q9 u1 H locs hx hC hce hcv hcl => hx.elim) (fun v u1 H locs hp hC => ?_)
      obtain ⟨r_143, rfl, h_143, hu⟩ := hp; rw [hu] at hC; clear hu
      try dsimp only at h_143
      refine W.eq (g2 := F0 m 146 ls [.int (iI (r_143))]) rfl ?_
      refine lv_istore (lv' := [(15, .int (iI (r_143))), (14, .int (iI (r_121))), (13, .int (iI (r_99))), (12, .int (iI (r_89))), (11, .int (iI (r_80))), (10, .int (iI (r_68))), (9, .int (iI (((i : Nat) : Int)))), (8, .ref (ad 56 0)), (7, .ref (ad 55 0)), (6, .ref (ad 54 0)), (5, .ref (ad 53 0)), (4, .ref (ad 52 0)), (3, .ref (ad 51 0)), (2, .ref (ad 50 0)), (1, .ref (ad 0 0)), (0, .ref b)]) hM.1 hM.2.1 dL_law_146 hl (by decide) rfl (fun ls hl => ?_)
      obtain ⟨pv, hpv⟩ : ∃ n : Nat, r_99 = (n : Int) := ⟨r_99.toNat, by omega⟩
      subst hpv
      obtain ⟨sv, hsv⟩ : ∃ n : Nat, r_121 = (n : Int) := ⟨r_121.toNat, by omega⟩
      subst hsv
      obtain ⟨k, hk⟩ : ∃ n : Nat, r_143 = (n : Int) := ⟨r_143.toNat, by omega⟩
      subst hk
      exact kh _ _ _ pv sv k _ _ _ _ ls (by omega) (by omega) ⟨by omega, by omega⟩ (by omega) (by omega) (by omega) ⟨hl.1, hl.2.1, fun q hq => hl.2.2 q ((List.forall_mem_cons.mpr ⟨List.mem_of_getElem? (i := 0) rfl, (List.forall_mem_cons.mpr ⟨List.mem_of_getElem? (i := 1) rfl, (List.forall_mem_cons.mpr ⟨List.mem_of_getElem? (i := 2) rfl, (List.forall_mem_cons.mpr ⟨List.mem_of_getElem? (i := 3) rfl, (List.forall_mem_cons.mpr ⟨List.mem_of_getElem? (i := 4) rfl, (List.forall_mem_cons.mpr ⟨List.mem_of_getElem? (i := 5) rfl, (List.forall_mem_cons.mpr ⟨List.mem_of_getElem? (i := 6) rfl, (List.forall_mem_cons.mpr ⟨List.mem_of_getElem? (i := 7) rfl, (List.forall_mem_cons.mpr ⟨List.mem_of_getElem? (i := 8) rfl, (List.forall_mem_cons.mpr ⟨List.mem_of_getElem? (i := 9) rfl, (List.forall_mem_cons.mpr ⟨List.mem_of_getElem? (i := 10) rfl, (List.forall_mem_cons.mpr ⟨List.mem_of_getElem? (i := 11) rfl, (List.forall_mem_cons.mpr ⟨List.mem_of_getElem? (i := 12) rfl, (List.forall_mem_cons.mpr ⟨List.mem_of_getElem? (i := 13) rfl, (List.forall_mem_cons.mpr ⟨List.mem_of_getElem? (i := 14) rfl, (List.forall_mem_cons.mpr ⟨List.mem_of_getElem? (i := 15) rfl, (fun _ h => absurd h List.not_mem_nil)⟩)⟩)⟩)⟩)⟩)⟩)⟩)⟩)⟩)⟩)⟩)⟩)⟩)⟩)⟩)⟩) q hq)⟩ hC
    ·
      refine y_iconst hM dL_law_133 ?_
      refine lv_goto (tgt := 146) hM.1 hM.2.1 dL_law_134 (by decide) ?_
      refine lv_istore (lv' := [(15, .int (iI (0))), (14, .int (iI (r_121))), (13, .int (iI (r_99))), (12, .int (iI (r_89))), (11, .int (iI (r_80))), (10, .int (iI (r_68))), (9, .int (iI (((i : Nat) : Int)))), (8, .ref (ad 56 0)), (7, .ref (ad 55 0)), (6, .ref (ad 54 0)), (5, .ref (ad 53 0)), (4, .ref (ad 52 0)), (3, .ref (ad 51 0)), (2, .ref (ad 50 0)), (1, .ref (ad 0 0)), (0, .ref b)]) hM.1 hM.2.1 dL_law_146 hl (by decide) rfl (fun ls hl => ?_)
      obtain ⟨pv, hpv⟩ : ∃ n : Nat, r_99 = (n : Int) := ⟨r_99.toNat, by omega⟩
      subst hpv
      obtain ⟨sv, hsv⟩ : ∃ n : Nat, r_121 = (n : Int) := ⟨r_121.toNat, by omega⟩
      subst hsv
      exact kh _ _ _ pv sv 0 _ _ _ _ ls (by omega) (by omega) ⟨by omega, by omega⟩ (by omega) (by omega) (by omega) ⟨hl.1, hl.2.1, fun q hq => hl.2.2 q ((List.forall_mem_cons.mpr ⟨List.mem_of_getElem? (i := 0) rfl, (List.forall_mem_cons.mpr ⟨List.mem_of_getElem? (i := 1) rfl, (List.forall_mem_cons.mpr ⟨List.mem_of_getElem? (i := 2) rfl, (List.forall_mem_cons.mpr ⟨List.mem_of_getElem? (i := 3) rfl, (List.forall_mem_cons.mpr ⟨List.mem_of_getElem? (i := 4) rfl, (List.forall_mem_cons.mpr ⟨List.mem_of_getElem? (i := 5) rfl, (List.forall_mem_cons.mpr ⟨List.mem_of_getElem? (i := 6) rfl, (List.forall_mem_cons.mpr ⟨List.mem_of_getElem? (i := 7) rfl, (List.forall_mem_cons.mpr ⟨List.mem_of_getElem? (i := 8) rfl, (List.forall_mem_cons.mpr ⟨List.mem_of_getElem? (i := 9) rfl, (List.forall_mem_cons.mpr ⟨List.mem_of_getElem? (i := 10) rfl, (List.forall_mem_cons.mpr ⟨List.mem_of_getElem? (i := 11) rfl, (List.forall_mem_cons.mpr ⟨List.mem_of_getElem? (i := 12) rfl, (List.forall_mem_cons.mpr ⟨List.mem_of_getElem? (i := 13) rfl, (List.forall_mem_cons.mpr ⟨List.mem_of_getElem? (i := 14) rfl, (List.forall_mem_cons.mpr ⟨List.mem_of_getElem? (i := 15) rfl, (fun _ h => absurd h List.not_mem_nil)⟩)⟩)⟩)⟩)⟩)⟩)⟩)⟩)⟩)⟩)⟩)⟩)⟩)⟩)⟩)⟩) q hq)⟩ hC
  ·
    refine y_iconst hM dL_law_111 ?_
    refine lv_goto (tgt := 124) hM.1 hM.2.1 dL_law_112 (by decide) ?_
    refine lv_istore (lv' := [(14, .int (iI (0))), (13, .int (iI (r_99))), (12, .int (iI (r_89))), (11, .int (iI (r_80))), (10, .int (iI (r_68))), (9, .int (iI (((i : Nat) : Int)))), (8, .ref (ad 56 0)), (7, .ref (ad 55 0)), (6, .ref (ad 54 0)), (5, .ref (ad 53 0)), (4, .ref (ad 52 0)), (3, .ref (ad 51 0)), (2, .ref (ad 50 0)), (1, .ref (ad 0 0)), (0, .ref b)]) hM.1 hM.2.1 dL_law_124 hl (by decide) rfl (fun ls hl => ?_)
    refine y_aload hM hl 6 rfl dL_law_126 ?_
    refine y_iconst hM dL_law_128 ?_
    refine y_iald hM hC hLK.2.2.2.2.2.2 rfl ⟨by omega, by omega⟩ (by decide) (x := T 0 0 8) (by rw [show ((2 : Int)).toNat = 2 from rfl, hg2]) dL_law_129 ?_
    refine y_if_ne hM (by constructor <;> omega) (tgt := 137) dL_law_130 (by decide) (fun c_130 => ?_) (fun c_130 => ?_)
    ·
      refine y_iload hM hl 3 rfl dL_law_137 ?_
      refine y_aload hM hl 6 rfl dL_law_139 ?_
      refine y_iconst hM dL_law_141 ?_
      refine y_iald hM hC hLK.2.2.2.2.2.2 rfl ⟨by omega, by omega⟩ (by decide) (x := T 0 0 8) (by rw [show ((2 : Int)).toNat = 2 from rfl, hg2]) dL_law_142 ?_
      refine y_callS hM hC (c_L_low l hfl G b0 (ks, ad, T, P) (r_80) (T 0 0 8) ⟨by omega, by omega⟩) (va_cwS 2 hM.2.2.2.2 gL_law_L_low rfl rfl rfl (by decide +kernel) ⟨(Nat.le_of_ble_eq_true rfl), (Nat.le_of_ble_eq_true rfl)⟩) rfl hl.1 rfl (Nat.le_of_ble_eq_true rfl) dL_law_143 ⟨(show _ ≤ 602294 by omega), (show _ ≤ 7294300 by omega)⟩ (fun E ce q9 u1 H locs hx hC hce hcv hcl => hx.elim) (fun v u1 H locs hp hC => ?_)
      obtain ⟨r_143, rfl, h_143, hu⟩ := hp; rw [hu] at hC; clear hu
      try dsimp only at h_143
      refine W.eq (g2 := F0 m 146 ls [.int (iI (r_143))]) rfl ?_
      refine lv_istore (lv' := [(15, .int (iI (r_143))), (14, .int (iI (0))), (13, .int (iI (r_99))), (12, .int (iI (r_89))), (11, .int (iI (r_80))), (10, .int (iI (r_68))), (9, .int (iI (((i : Nat) : Int)))), (8, .ref (ad 56 0)), (7, .ref (ad 55 0)), (6, .ref (ad 54 0)), (5, .ref (ad 53 0)), (4, .ref (ad 52 0)), (3, .ref (ad 51 0)), (2, .ref (ad 50 0)), (1, .ref (ad 0 0)), (0, .ref b)]) hM.1 hM.2.1 dL_law_146 hl (by decide) rfl (fun ls hl => ?_)
      obtain ⟨pv, hpv⟩ : ∃ n : Nat, r_99 = (n : Int) := ⟨r_99.toNat, by omega⟩
      subst hpv
      obtain ⟨k, hk⟩ : ∃ n : Nat, r_143 = (n : Int) := ⟨r_143.toNat, by omega⟩
      subst hk
      exact kh _ _ _ pv 0 k _ _ _ _ ls (by omega) (by omega) ⟨by omega, by omega⟩ (by omega) (by omega) (by omega) ⟨hl.1, hl.2.1, fun q hq => hl.2.2 q ((List.forall_mem_cons.mpr ⟨List.mem_of_getElem? (i := 0) rfl, (List.forall_mem_cons.mpr ⟨List.mem_of_getElem? (i := 1) rfl, (List.forall_mem_cons.mpr ⟨List.mem_of_getElem? (i := 2) rfl, (List.forall_mem_cons.mpr ⟨List.mem_of_getElem? (i := 3) rfl, (List.forall_mem_cons.mpr ⟨List.mem_of_getElem? (i := 4) rfl, (List.forall_mem_cons.mpr ⟨List.mem_of_getElem? (i := 5) rfl, (List.forall_mem_cons.mpr ⟨List.mem_of_getElem? (i := 6) rfl, (List.forall_mem_cons.mpr ⟨List.mem_of_getElem? (i := 7) rfl, (List.forall_mem_cons.mpr ⟨List.mem_of_getElem? (i := 8) rfl, (List.forall_mem_cons.mpr ⟨List.mem_of_getElem? (i := 9) rfl, (List.forall_mem_cons.mpr ⟨List.mem_of_getElem? (i := 10) rfl, (List.forall_mem_cons.mpr ⟨List.mem_of_getElem? (i := 11) rfl, (List.forall_mem_cons.mpr ⟨List.mem_of_getElem? (i := 12) rfl, (List.forall_mem_cons.mpr ⟨List.mem_of_getElem? (i := 13) rfl, (List.forall_mem_cons.mpr ⟨List.mem_of_getElem? (i := 14) rfl, (List.forall_mem_cons.mpr ⟨List.mem_of_getElem? (i := 15) rfl, (fun _ h => absurd h List.not_mem_nil)⟩)⟩)⟩)⟩)⟩)⟩)⟩)⟩)⟩)⟩)⟩)⟩)⟩)⟩)⟩)⟩) q hq)⟩ hC
    ·
      refine y_iconst hM dL_law_133 ?_
      refine lv_goto (tgt := 146) hM.1 hM.2.1 dL_law_134 (by decide) ?_
      refine lv_istore (lv' := [(15, .int (iI (0))), (14, .int (iI (0))), (13, .int (iI (r_99))), (12, .int (iI (r_89))), (11, .int (iI (r_80))), (10, .int (iI (r_68))), (9, .int (iI (((i : Nat) : Int)))), (8, .ref (ad 56 0)), (7, .ref (ad 55 0)), (6, .ref (ad 54 0)), (5, .ref (ad 53 0)), (4, .ref (ad 52 0)), (3, .ref (ad 51 0)), (2, .ref (ad 50 0)), (1, .ref (ad 0 0)), (0, .ref b)]) hM.1 hM.2.1 dL_law_146 hl (by decide) rfl (fun ls hl => ?_)
      obtain ⟨pv, hpv⟩ : ∃ n : Nat, r_99 = (n : Int) := ⟨r_99.toNat, by omega⟩
      subst hpv
      exact kh _ _ _ pv 0 0 _ _ _ _ ls (by omega) (by omega) ⟨by omega, by omega⟩ (by omega) (by omega) (by omega) ⟨hl.1, hl.2.1, fun q hq => hl.2.2 q ((List.forall_mem_cons.mpr ⟨List.mem_of_getElem? (i := 0) rfl, (List.forall_mem_cons.mpr ⟨List.mem_of_getElem? (i := 1) rfl, (List.forall_mem_cons.mpr ⟨List.mem_of_getElem? (i := 2) rfl, (List.forall_mem_cons.mpr ⟨List.mem_of_getElem? (i := 3) rfl, (List.forall_mem_cons.mpr ⟨List.mem_of_getElem? (i := 4) rfl, (List.forall_mem_cons.mpr ⟨List.mem_of_getElem? (i := 5) rfl, (List.forall_mem_cons.mpr ⟨List.mem_of_getElem? (i := 6) rfl, (List.forall_mem_cons.mpr ⟨List.mem_of_getElem? (i := 7) rfl, (List.forall_mem_cons.mpr ⟨List.mem_of_getElem? (i := 8) rfl, (List.forall_mem_cons.mpr ⟨List.mem_of_getElem? (i := 9) rfl, (List.forall_mem_cons.mpr ⟨List.mem_of_getElem? (i := 10) rfl, (List.forall_mem_cons.mpr ⟨List.mem_of_getElem? (i := 11) rfl, (List.forall_mem_cons.mpr ⟨List.mem_of_getElem? (i := 12) rfl, (List.forall_mem_cons.mpr ⟨List.mem_of_getElem? (i := 13) rfl, (List.forall_mem_cons.mpr ⟨List.mem_of_getElem? (i := 14) rfl, (List.forall_mem_cons.mpr ⟨List.mem_of_getElem? (i := 15) rfl, (fun _ h => absurd h List.not_mem_nil)⟩)⟩)⟩)⟩)⟩)⟩)⟩)⟩)⟩)⟩)⟩)⟩)⟩)⟩)⟩)⟩) q hq)⟩ hC

set_option maxRecDepth 100000 in
set_option maxHeartbeats 16000000 in
theorem law_same {p : Program} {e : Env} {s : State} {m : MethodId} {below : List Frame} {meth : Method} {c : Code} {Q : State → Prop} (l : Launch) (hfl : l.stackTraces = false) (G : GG) (b0 : Nat) {b L : Nat} {xs : Nat → Int32} (hM : CallFix p m c cL_law 30 s #[Value.ref b] wsL_law RL) (hN : NcX s) (hX : va_X b L xs s s.heap) (hbA : ¬ b0 ≤ b) (hbl : b < s.heap.size) (hL : L ≤ 260) {ks : KK} {ad : AD} {T : TT} {P : PP} {H : Heap} {locs : List Loc} {cells slots : Nat} (hcl : cells + 400 ≤ 602294) (hsl : slots + 3000 ≤ 7294300) (i : Nat) (yy : Int) {ls : Array Slot} (hl : lv_has ls 30 [(11, .int (iI (yy))), (9, .int (iI (((i : Nat) : Int)))), (8, .ref (ad 56 0)), (7, .ref (ad 55 0)), (6, .ref (ad 54 0)), (5, .ref (ad 53 0)), (4, .ref (ad 52 0)), (3, .ref (ad 51 0)), (2, .ref (ad 50 0)), (1, .ref (ad 0 0)), (0, .ref b)]) (hC : Cur G b0 (ks, ad, T, P) s H locs) (hI : IV ks ad T P)
    (kn : ∀ (ks1 : KK) (ad1 : AD) (T1 : TT) (P1 : PP) (H1 : Heap) (locs1 : List Loc) (cells1 slots1 : Nat) (ls1 : Array Slot), cells1 ≤ cells + 300 → slots1 ≤ slots + 2500 → Cur G b0 (ks1, ad1, T1, P1) s H1 locs1 → IV ks1 ad1 T1 P1 → lv_has ls1 30 [(9, .int (iI (((i : Nat) : Int)))), (8, .ref (ad1 56 0)), (7, .ref (ad1 55 0)), (6, .ref (ad1 54 0)), (5, .ref (ad1 53 0)), (4, .ref (ad1 52 0)), (3, .ref (ad1 51 0)), (2, .ref (ad1 50 0)), (1, .ref (ad1 0 0)), (0, .ref b)] → W p l e room_1 s m #[Value.ref b] below meth c H1 locs1 cells1 slots1 Q (F0 m 1643 ls1 [])) :
    W p l e room_1 s m #[Value.ref b] below meth c H locs cells slots Q (F0 m 1608 ls []) := by
  obtain ⟨hCK, hNC, hR⟩ := id hI
  obtain ⟨hF, hRK, hSK, hOK, hKF, hLK⟩ := id hCK
  obtain ⟨hRN, hDN, hSN, hON, hXP, hXO, hXD⟩ := id hNC
  obtain ⟨⟨hg1, h75, hg2, h87, hg3, h19, hg4, hg0⟩, hRP, hRS, hRO, hRD⟩ := id hR
  obtain ⟨hd0, hd1, hd2, hd3⟩ := id hDN
  have hs70 := hSK.1
  have ho80 := hOK.1
  have hP1 := hRP.1.1
  refine y_aload_n hM hl 9 rfl rfl dL_law_1608 ?_
  refine y_aload_n hM hl 8 rfl rfl dL_law_1609 ?_
  refine y_aload_n hM hl 7 rfl rfl dL_law_1610 ?_
  refine y_aload hM hl 6 rfl dL_law_1611 ?_
  refine y_aload hM hl 5 rfl dL_law_1613 ?_
  refine y_aload hM hl 4 rfl dL_law_1615 ?_
  refine y_aload hM hl 3 rfl dL_law_1617 ?_
  refine y_aload hM hl 2 rfl dL_law_1619 ?_
  refine y_iload hM hl 0 rfl dL_law_1621 ?_
  refine y_bipush hM dL_law_1623 (by decide) ?_
  refine lv_ishr hM.1 hM.2.1 dL_law_1625 ?_
  obtain ⟨z_1625, ez_1625⟩ : ∃ z : Int, (iI (yy) >>> (iI (9) &&& 31)) = iI z := ⟨_, iI_of _⟩
  rw [ez_1625]
  refine y_aload hM hl 2 rfl dL_law_1626 ?_
  refine y_iconst hM dL_law_1628 ?_
  refine y_iald hM hC hLK.2.2.2.2.2.2 rfl ⟨by omega, by omega⟩ (by decide) (x := T 0 0 5) (by rw [show ((3 : Int)).toNat = 3 from rfl, hg3]) dL_law_1629 ?_
  refine y_iconst hM dL_law_1630 ?_
  refine y_iadd hM dL_law_1631 ?_
  refine y_callS hM hC (c_L_low l hfl G b0 (ks, ad, T, P) (z_1625) ((T 0 0 5) + (1)) ⟨by omega, by omega⟩) (va_cwS 2 hM.2.2.2.2 gL_law_L_low rfl rfl rfl (by decide +kernel) ⟨(Nat.le_of_ble_eq_true rfl), (Nat.le_of_ble_eq_true rfl)⟩) rfl hl.1 rfl (Nat.le_of_ble_eq_true rfl) dL_law_1632 ⟨(show _ ≤ 602294 by omega), (show _ ≤ 7294300 by omega)⟩ (fun E ce q9 u1 H locs hx hC hce hcv hcl => hx.elim) (fun v u1 H locs hp hC => ?_)
  obtain ⟨r_1632, rfl, h_1632, hu⟩ := hp; rw [hu] at hC; clear hu
  try dsimp only at h_1632
  refine W.eq (g2 := F0 m 1635 ls [.int (iI (r_1632)), .ref (ad 56 0), .ref (ad 55 0), .ref (ad 54 0), .ref (ad 53 0), .ref (ad 52 0), .ref (ad 51 0), .ref (ad 50 0), .ref (ad 0 0)]) rfl ?_
  refine y_callSY hM hN hC (c_L_same l hfl G b0 ks ad T P (r_1632) ⟨by omega, by omega⟩ hLK hR hF hRK hRN hDN hSK hSN hOK hON) (va_cwS 9 hM.2.2.2.2 gL_law_L_same rfl rfl rfl (by decide +kernel) ⟨(Nat.le_of_ble_eq_true rfl), (Nat.le_of_ble_eq_true rfl)⟩) rfl hl.1 rfl (Nat.le_of_ble_eq_true rfl) dL_law_1635 ⟨(show _ ≤ 602294 by omega), (show _ ≤ 7294300 by omega)⟩ (fun E ce q9 u1 H locs hx hC hce hcv hcl => hx.elim) (fun v u1 H locs hp hC => ?_)
  obtain ⟨r_1635, rfl, h_1635, hu⟩ := hp; rw [hu] at hC; clear hu
  try dsimp only at h_1635
  refine W.eq (g2 := F0 m 1638 ls [.int (iI (r_1635))]) rfl ?_
  refine y_if_ne hM (by constructor <;> omega) (tgt := 1643) dL_law_1638 (by decide) (fun c_1638 => ?_) (fun c_1638 => False.elim (by omega))
  exact kn _ _ _ _ _ _ _ _ ls (by omega) (by omega) hC hI ⟨hl.1, hl.2.1, fun q hq => hl.2.2 q ((List.forall_mem_cons.mpr ⟨List.mem_of_getElem? (i := 1) rfl, (List.forall_mem_cons.mpr ⟨List.mem_of_getElem? (i := 2) rfl, (List.forall_mem_cons.mpr ⟨List.mem_of_getElem? (i := 3) rfl, (List.forall_mem_cons.mpr ⟨List.mem_of_getElem? (i := 4) rfl, (List.forall_mem_cons.mpr ⟨List.mem_of_getElem? (i := 5) rfl, (List.forall_mem_cons.mpr ⟨List.mem_of_getElem? (i := 6) rfl, (List.forall_mem_cons.mpr ⟨List.mem_of_getElem? (i := 7) rfl, (List.forall_mem_cons.mpr ⟨List.mem_of_getElem? (i := 8) rfl, (List.forall_mem_cons.mpr ⟨List.mem_of_getElem? (i := 9) rfl, (List.forall_mem_cons.mpr ⟨List.mem_of_getElem? (i := 10) rfl, (fun _ h => absurd h List.not_mem_nil)⟩)⟩)⟩)⟩)⟩)⟩)⟩)⟩)⟩)⟩) q hq)⟩

set_option maxRecDepth 100000 in
set_option maxHeartbeats 16000000 in
theorem law_def {p : Program} {e : Env} {s : State} {m : MethodId} {below : List Frame} {meth : Method} {c : Code} {Q : State → Prop} (l : Launch) (hfl : l.stackTraces = false) (G : GG) (b0 : Nat) {b L : Nat} {xs : Nat → Int32} (hM : CallFix p m c cL_law 30 s #[Value.ref b] wsL_law RL) (hN : NcX s) (hX : va_X b L xs s s.heap) (hbA : ¬ b0 ≤ b) (hbl : b < s.heap.size) (hL : L ≤ 260) {ks : KK} {ad : AD} {T : TT} {P : PP} {H : Heap} {locs : List Loc} {cells slots : Nat} (hcl : cells + 400 ≤ 602294) (hsl : slots + 3000 ≤ 7294300) (i : Nat) (xx yy kd : Int) (pv sv k : Nat) (hkd : 0 ≤ kd ∧ kd < 20) (hpv : pv < 5) (hsv : (T 0 0 7 = 0 ∧ sv = 0) ∨ (sv : Int) < T 0 0 7) (hkv : (T 0 0 8 = 0 ∧ k = 0) ∨ (k : Int) < T 0 0 8) {ls : Array Slot} (hl : lv_has ls 30 [(15, .int (iI (((k : Nat) : Int)))), (14, .int (iI (((sv : Nat) : Int)))), (13, .int (iI (((pv : Nat) : Int)))), (12, .int (iI (kd))), (11, .int (iI (yy))), (10, .int (iI (xx))), (9, .int (iI (((i : Nat) : Int)))), (8, .ref (ad 56 0)), (7, .ref (ad 55 0)), (6, .ref (ad 54 0)), (5, .ref (ad 53 0)), (4, .ref (ad 52 0)), (3, .ref (ad 51 0)), (2, .ref (ad 50 0)), (1, .ref (ad 0 0)), (0, .ref b)]) (hC : Cur G b0 (ks, ad, T, P) s H locs) (hI : IV ks ad T P)
    (kk : ∀ (ks1 : KK) (ad1 : AD) (T1 : TT) (P1 : PP) (H1 : Heap) (locs1 : List Loc) (cells1 slots1 : Nat) (ls1 : Array Slot), cells1 ≤ cells + 40 → slots1 ≤ slots + 400 → Cur G b0 (ks1, ad1, T1, P1) s H1 locs1 → IV ks1 ad1 T1 P1 → lv_has ls1 30 [(11, .int (iI (yy))), (9, .int (iI (((i : Nat) : Int)))), (8, .ref (ad1 56 0)), (7, .ref (ad1 55 0)), (6, .ref (ad1 54 0)), (5, .ref (ad1 53 0)), (4, .ref (ad1 52 0)), (3, .ref (ad1 51 0)), (2, .ref (ad1 50 0)), (1, .ref (ad1 0 0)), (0, .ref b)] → W p l e room_1 s m #[Value.ref b] below meth c H1 locs1 cells1 slots1 Q (F0 m 1608 ls1 [])) (kn : ∀ (ks1 : KK) (ad1 : AD) (T1 : TT) (P1 : PP) (H1 : Heap) (locs1 : List Loc) (cells1 slots1 : Nat) (ls1 : Array Slot), cells1 ≤ cells + 400 → slots1 ≤ slots + 3000 → Cur G b0 (ks1, ad1, T1, P1) s H1 locs1 → IV ks1 ad1 T1 P1 → lv_has ls1 30 [(9, .int (iI (((i : Nat) : Int)))), (8, .ref (ad1 56 0)), (7, .ref (ad1 55 0)), (6, .ref (ad1 54 0)), (5, .ref (ad1 53 0)), (4, .ref (ad1 52 0)), (3, .ref (ad1 51 0)), (2, .ref (ad1 50 0)), (1, .ref (ad1 0 0)), (0, .ref b)] → W p l e room_1 s m #[Value.ref b] below meth c H1 locs1 cells1 slots1 Q (F0 m 1643 ls1 [])) :
    W p l e room_1 s m #[Value.ref b] below meth c H locs cells slots Q (F0 m 338 ls []) := by
  obtain ⟨hCK, hNC, hR⟩ := id hI
  obtain ⟨hF, hRK, hSK, hOK, hKF, hLK⟩ := id hCK
  obtain ⟨hRN, hDN, hSN, hON, hXP, hXO, hXD⟩ := id hNC
  obtain ⟨⟨hg1, h75, hg2, h87, hg3, h19, hg4, hg0⟩, hRP, hRS, hRO, hRD⟩ := id hR
  obtain ⟨hd0, hd1, hd2, hd3⟩ := id hDN
  have hs70 := hSK.1
  have ho80 := hOK.1
  have hP1 := hRP.1.1
  refine y_aload hM hl 7 rfl dL_law_338 ?_
  refine y_iconst hM dL_law_340 ?_
  refine y_iald hM hC hLK.2.2.2.2.2.2 rfl ⟨by omega, by omega⟩ (by decide) (x := T 0 0 6) (by rw [show ((4 : Int)).toNat = 4 from rfl, hg4]) dL_law_341 ?_
  refine lv_istore (lv' := [(16, .int (iI (T 0 0 6))), (15, .int (iI (((k : Nat) : Int)))), (14, .int (iI (((sv : Nat) : Int)))), (13, .int (iI (((pv : Nat) : Int)))), (12, .int (iI (kd))), (11, .int (iI (yy))), (10, .int (iI (xx))), (9, .int (iI (((i : Nat) : Int)))), (8, .ref (ad 56 0)), (7, .ref (ad 55 0)), (6, .ref (ad 54 0)), (5, .ref (ad 53 0)), (4, .ref (ad 52 0)), (3, .ref (ad 51 0)), (2, .ref (ad 50 0)), (1, .ref (ad 0 0)), (0, .ref b)]) hM.1 hM.2.1 dL_law_342 hl (by decide) rfl (fun ls hl => ?_)
  refine y_aload hM hl 8 rfl dL_law_344 ?_
  refine y_iconst hM dL_law_346 ?_
  refine y_bipush hM dL_law_347 (by decide) ?_
  refine y_iload hM hl 5 rfl dL_law_349 ?_
  refine y_sipush hM dL_law_351 (by decide) ?_
  refine y_callS hM hC (c_L_low l hfl G b0 (ks, ad, T, P) (yy) (9901) ⟨by omega, by omega⟩) (va_cwS 2 hM.2.2.2.2 gL_law_L_low rfl rfl rfl (by decide +kernel) ⟨(Nat.le_of_ble_eq_true rfl), (Nat.le_of_ble_eq_true rfl)⟩) rfl hl.1 rfl (Nat.le_of_ble_eq_true rfl) dL_law_354 ⟨(show _ ≤ 602294 by omega), (show _ ≤ 7294300 by omega)⟩ (fun E ce q9 u1 H locs hx hC hce hcv hcl => hx.elim) (fun v u1 H locs hp hC => ?_)
  obtain ⟨r_354, rfl, h_354, hu⟩ := hp; rw [hu] at hC; clear hu
  try dsimp only at h_354
  refine W.eq (g2 := F0 m 357 ls [.int (iI (r_354)), .int (iI (100)), .int (iI (4)), .ref (ad 56 0)]) rfl ?_
  refine y_iadd hM dL_law_357 ?_
  refine y_iast hM hC hLK.2.2.2.2.2.2 (fun _ _ => rfl) ⟨by omega, by omega⟩ (by decide) dL_law_358 (fun H locs hC => ?_)
  rw [show ((4 : Int)).toNat = 4 from rfl] at hC
  refine y_aload_n hM hl 15 rfl rfl dL_law_359 ?_
  refine y_aload hM hl 8 rfl dL_law_360 ?_
  refine y_iconst hM dL_law_362 ?_
  refine y_iald hM hC hLK.2.2.2.2.2.2 rfl ⟨by omega, by omega⟩ (by decide) (x := (100) + (r_354)) (by rw [show ((4 : Int)).toNat = 4 from rfl, up_at rfl]) dL_law_363 ?_
  obtain ⟨T1, hT1⟩ : ∃ X : TT, X = (up T 56 0 (4) ((100) + (r_354))) := ⟨_, rfl⟩
  rw [← hT1] at hC
  have hlo : LoE T1 T := by
    rw [hT1]
    exact (LoE.r.hi (by decide))
  obtain ⟨hCK1, hNC1, hR1, hz1⟩ := hI.mid hlo
  obtain ⟨hF1, hRK1, hSK1, hOK1, hKF1, hLK1⟩ := id hCK1
  obtain ⟨hRN1, hDN1, hSN1, hON1, -, -, -⟩ := id hNC1
  have h05 : T1 0 0 5 = T 0 0 5 := by rw [hz1]
  have h06 : T1 0 0 6 = T 0 0 6 := by rw [hz1]
  have h07 : T1 0 0 7 = T 0 0 7 := by rw [hz1]
  have h08 : T1 0 0 8 = T 0 0 8 := by rw [hz1]
  refine y_callV hM hC (c_setDefault l hfl G b0 ks ad T1 P ((100) + (r_354)) ⟨by omega, by omega⟩ hF1 hDN1) (cwV 1 hM.2.2.2.2 gL_law_X3_setDefault rfl rfl rfl (by decide +kernel) ⟨(Nat.le_of_ble_eq_true rfl), (Nat.le_of_ble_eq_true rfl)⟩) (y_recv hC hF1.1 rfl rfl) rfl hl.1 rfl (Nat.le_of_ble_eq_true rfl) dL_law_364 ⟨(show _ ≤ 602294 by omega), (show _ ≤ 7294300 by omega)⟩ (fun E ce q9 u1 H locs hx hC hce hcv hcl => by
      obtain ⟨x, rfl, hx, hu⟩ := hx; rw [hu] at hC; clear hu; try dsimp only at hx
      exact False.elim (by omega)) (fun v u1 H locs hp hC => ?_)
  obtain ⟨r_364, rfl, h_364, hu⟩ := hp; rw [hu] at hC; clear hu
  try dsimp only at h_364
  refine W.eq (g2 := F0 m 367 ls [.int (iI (r_364))]) rfl ?_
  rw [h06] at h_364
  obtain ⟨e_364, h_364⟩ := h_364
  refine y_iload hM hl 0 rfl dL_law_367 ?_
  refine y_icmp_eq hM (by constructor <;> omega) (by constructor <;> omega) (tgt := 374) dL_law_369 (by decide) (fun c_369 => ?_) (fun c_369 => False.elim (by omega))
  refine lv_goto (tgt := 1608) hM.1 hM.2.1 dL_law_374 (by decide) ?_
  exact kk _ _ _ _ _ _ _ _ ls (by omega) (by omega) hC (op_def hI ⟨by omega, by omega⟩ hT1) ⟨hl.1, hl.2.1, fun q hq => hl.2.2 q ((List.forall_mem_cons.mpr ⟨List.mem_of_getElem? (i := 5) rfl, (List.forall_mem_cons.mpr ⟨List.mem_of_getElem? (i := 7) rfl, (List.forall_mem_cons.mpr ⟨List.mem_of_getElem? (i := 8) rfl, (List.forall_mem_cons.mpr ⟨List.mem_of_getElem? (i := 9) rfl, (List.forall_mem_cons.mpr ⟨List.mem_of_getElem? (i := 10) rfl, (List.forall_mem_cons.mpr ⟨List.mem_of_getElem? (i := 11) rfl, (List.forall_mem_cons.mpr ⟨List.mem_of_getElem? (i := 12) rfl, (List.forall_mem_cons.mpr ⟨List.mem_of_getElem? (i := 13) rfl, (List.forall_mem_cons.mpr ⟨List.mem_of_getElem? (i := 14) rfl, (List.forall_mem_cons.mpr ⟨List.mem_of_getElem? (i := 15) rfl, (List.forall_mem_cons.mpr ⟨List.mem_of_getElem? (i := 16) rfl, (fun _ h => absurd h List.not_mem_nil)⟩)⟩)⟩)⟩)⟩)⟩)⟩)⟩)⟩)⟩)⟩) q hq)⟩

set_option maxRecDepth 100000 in
set_option maxHeartbeats 16000000 in
theorem law_pas {p : Program} {e : Env} {s : State} {m : MethodId} {below : List Frame} {meth : Method} {c : Code} {Q : State → Prop} (l : Launch) (hfl : l.stackTraces = false) (G : GG) (b0 : Nat) {b L : Nat} {xs : Nat → Int32} (hM : CallFix p m c cL_law 30 s #[Value.ref b] wsL_law RL) (hN : NcX s) (hX : va_X b L xs s s.heap) (hbA : ¬ b0 ≤ b) (hbl : b < s.heap.size) (hL : L ≤ 260) {ks : KK} {ad : AD} {T : TT} {P : PP} {H : Heap} {locs : List Loc} {cells slots : Nat} (hcl : cells + 400 ≤ 602294) (hsl : slots + 3000 ≤ 7294300) (i : Nat) (xx yy kd : Int) (pv sv k : Nat) (hkd : 0 ≤ kd ∧ kd < 20) (hpv : pv < 5) (hsv : (T 0 0 7 = 0 ∧ sv = 0) ∨ (sv : Int) < T 0 0 7) (hkv : (T 0 0 8 = 0 ∧ k = 0) ∨ (k : Int) < T 0 0 8) {ls : Array Slot} (hl : lv_has ls 30 [(15, .int (iI (((k : Nat) : Int)))), (14, .int (iI (((sv : Nat) : Int)))), (13, .int (iI (((pv : Nat) : Int)))), (12, .int (iI (kd))), (11, .int (iI (yy))), (10, .int (iI (xx))), (9, .int (iI (((i : Nat) : Int)))), (8, .ref (ad 56 0)), (7, .ref (ad 55 0)), (6, .ref (ad 54 0)), (5, .ref (ad 53 0)), (4, .ref (ad 52 0)), (3, .ref (ad 51 0)), (2, .ref (ad 50 0)), (1, .ref (ad 0 0)), (0, .ref b)]) (hC : Cur G b0 (ks, ad, T, P) s H locs) (hI : IV ks ad T P)
    (kk : ∀ (ks1 : KK) (ad1 : AD) (T1 : TT) (P1 : PP) (H1 : Heap) (locs1 : List Loc) (cells1 slots1 : Nat) (ls1 : Array Slot), cells1 ≤ cells + 40 → slots1 ≤ slots + 400 → Cur G b0 (ks1, ad1, T1, P1) s H1 locs1 → IV ks1 ad1 T1 P1 → lv_has ls1 30 [(11, .int (iI (yy))), (9, .int (iI (((i : Nat) : Int)))), (8, .ref (ad1 56 0)), (7, .ref (ad1 55 0)), (6, .ref (ad1 54 0)), (5, .ref (ad1 53 0)), (4, .ref (ad1 52 0)), (3, .ref (ad1 51 0)), (2, .ref (ad1 50 0)), (1, .ref (ad1 0 0)), (0, .ref b)] → W p l e room_1 s m #[Value.ref b] below meth c H1 locs1 cells1 slots1 Q (F0 m 1608 ls1 [])) (kn : ∀ (ks1 : KK) (ad1 : AD) (T1 : TT) (P1 : PP) (H1 : Heap) (locs1 : List Loc) (cells1 slots1 : Nat) (ls1 : Array Slot), cells1 ≤ cells + 400 → slots1 ≤ slots + 3000 → Cur G b0 (ks1, ad1, T1, P1) s H1 locs1 → IV ks1 ad1 T1 P1 → lv_has ls1 30 [(9, .int (iI (((i : Nat) : Int)))), (8, .ref (ad1 56 0)), (7, .ref (ad1 55 0)), (6, .ref (ad1 54 0)), (5, .ref (ad1 53 0)), (4, .ref (ad1 52 0)), (3, .ref (ad1 51 0)), (2, .ref (ad1 50 0)), (1, .ref (ad1 0 0)), (0, .ref b)] → W p l e room_1 s m #[Value.ref b] below meth c H1 locs1 cells1 slots1 Q (F0 m 1643 ls1 [])) :
    W p l e room_1 s m #[Value.ref b] below meth c H locs cells slots Q (F0 m 1541 ls []) := by
  obtain ⟨hCK, hNC, hR⟩ := id hI
  obtain ⟨hF, hRK, hSK, hOK, hKF, hLK⟩ := id hCK
  obtain ⟨hRN, hDN, hSN, hON, hXP, hXO, hXD⟩ := id hNC
  obtain ⟨⟨hg1, h75, hg2, h87, hg3, h19, hg4, hg0⟩, hRP, hRS, hRO, hRD⟩ := id hR
  obtain ⟨hd0, hd1, hd2, hd3⟩ := id hDN
  have hs70 := hSK.1
  have ho80 := hOK.1
  have hP1 := hRP.1.1
  refine y_iconst hM dL_law_1541 ?_
  refine y_iload hM hl 4 rfl dL_law_1542 ?_
  refine y_iload hM hl 5 rfl dL_law_1544 ?_
  refine y_bipush hM dL_law_1546 (by decide) ?_
  refine lv_ishr hM.1 hM.2.1 dL_law_1548 ?_
  obtain ⟨z_1548, ez_1548⟩ : ∃ z : Int, (iI (xx) >>> (iI (9) &&& 31)) = iI z := ⟨_, iI_of _⟩
  rw [ez_1548]
  refine y_iconst hM dL_law_1549 ?_
  refine y_callS hM hC (c_L_low l hfl G b0 (ks, ad, T, P) (z_1548) (2) ⟨by omega, by omega⟩) (va_cwS 2 hM.2.2.2.2 gL_law_L_low rfl rfl rfl (by decide +kernel) ⟨(Nat.le_of_ble_eq_true rfl), (Nat.le_of_ble_eq_true rfl)⟩) rfl hl.1 rfl (Nat.le_of_ble_eq_true rfl) dL_law_1550 ⟨(show _ ≤ 602294 by omega), (show _ ≤ 7294300 by omega)⟩ (fun E ce q9 u1 H locs hx hC hce hcv hcl => hx.elim) (fun v u1 H locs hp hC => ?_)
  obtain ⟨r_1550, rfl, h_1550, hu⟩ := hp; rw [hu] at hC; clear hu
  try dsimp only at h_1550
  refine W.eq (g2 := F0 m 1553 ls [.int (iI (r_1550)), .int (iI (yy)), .int (iI (1))]) rfl ?_
  refine y_if_ne hM (by constructor <;> omega) (tgt := 1560) dL_law_1553 (by decide) (fun c_1553 => ?_) (fun c_1553 => ?_)
  ·
    refine y_bipush hM dL_law_1560 (by decide) ?_
    refine y_callS hM hC (c_L_low l hfl G b0 (ks, ad, T, P) (yy) (20) ⟨by omega, by omega⟩) (va_cwS 2 hM.2.2.2.2 gL_law_L_low rfl rfl rfl (by decide +kernel) ⟨(Nat.le_of_ble_eq_true rfl), (Nat.le_of_ble_eq_true rfl)⟩) rfl hl.1 rfl (Nat.le_of_ble_eq_true rfl) dL_law_1562 ⟨(show _ ≤ 602294 by omega), (show _ ≤ 7294300 by omega)⟩ (fun E ce q9 u1 H locs hx hC hce hcv hcl => hx.elim) (fun v u1 H locs hp hC => ?_)
    obtain ⟨r_1562, rfl, h_1562, hu⟩ := hp; rw [hu] at hC; clear hu
    try dsimp only at h_1562
    refine W.eq (g2 := F0 m 1565 ls [.int (iI (r_1562)), .int (iI (1))]) rfl ?_
    refine y_iadd hM dL_law_1565 ?_
    refine lv_istore (lv' := [(16, .int (iI ((1) + (r_1562)))), (15, .int (iI (((k : Nat) : Int)))), (14, .int (iI (((sv : Nat) : Int)))), (13, .int (iI (((pv : Nat) : Int)))), (12, .int (iI (kd))), (11, .int (iI (yy))), (10, .int (iI (xx))), (9, .int (iI (((i : Nat) : Int)))), (8, .ref (ad 56 0)), (7, .ref (ad 55 0)), (6, .ref (ad 54 0)), (5, .ref (ad 53 0)), (4, .ref (ad 52 0)), (3, .ref (ad 51 0)), (2, .ref (ad 50 0)), (1, .ref (ad 0 0)), (0, .ref b)]) hM.1 hM.2.1 dL_law_1566 hl (by decide) rfl (fun ls hl => ?_)
    refine y_aload hM hl 8 rfl dL_law_1568 ?_
    refine y_iconst hM dL_law_1570 ?_
    refine y_iald hM hC hLK.2.2.2.2.2.2 rfl ⟨by omega, by omega⟩ (by decide) (x := T 0 0 5) (by rw [show ((3 : Int)).toNat = 3 from rfl, hg3]) dL_law_1571 ?_
    refine y_iload hM hl 0 rfl dL_law_1572 ?_
    refine y_iadd hM dL_law_1574 ?_
    refine y_sipush hM dL_law_1575 (by decide) ?_
    refine y_icmp_le hM (by constructor <;> omega) (by constructor <;> omega) (tgt := 1584) dL_law_1578 (by decide) (fun c_1578 => ?_) (fun c_1578 => ?_)
    ·
      refine y_aload hM hl 8 rfl dL_law_1584 ?_
      refine y_iconst hM dL_law_1586 ?_
      refine lv_dup2_11 hM.1 hM.2.1 dL_law_1587 rfl rfl ?_
      refine y_iald hM hC hLK.2.2.2.2.2.2 rfl ⟨by omega, by omega⟩ (by decide) (x := T 0 0 5) (by rw [show ((3 : Int)).toNat = 3 from rfl, hg3]) dL_law_1588 ?_
      refine y_iload hM hl 0 rfl dL_law_1589 ?_
      refine y_iadd hM dL_law_1591 ?_
      refine y_iast hM hC hLK.2.2.2.2.2.2 (fun _ _ => rfl) ⟨by omega, by omega⟩ (by decide) dL_law_1592 (fun H locs hC => ?_)
      rw [show ((3 : Int)).toNat = 3 from rfl] at hC
      refine y_aload_n hM hl 15 rfl rfl dL_law_1593 ?_
      refine y_iload hM hl 0 rfl dL_law_1594 ?_
      obtain ⟨T1, hT1⟩ : ∃ X : TT, X = (up T 56 0 (3) ((T 0 0 5) + ((1) + (r_1562)))) := ⟨_, rfl⟩
      rw [← hT1] at hC
      have hlo : LoE T1 T := by
        rw [hT1]
        exact (LoE.r.hi (by decide))
      obtain ⟨hCK1, hNC1, hR1, hz1⟩ := hI.mid hlo
      obtain ⟨hF1, hRK1, hSK1, hOK1, hKF1, hLK1⟩ := id hCK1
      obtain ⟨hRN1, hDN1, hSN1, hON1, -, -, -⟩ := id hNC1
      have h05 : T1 0 0 5 = T 0 0 5 := by rw [hz1]
      have h06 : T1 0 0 6 = T 0 0 6 := by rw [hz1]
      have h07 : T1 0 0 7 = T 0 0 7 := by rw [hz1]
      have h08 : T1 0 0 8 = T 0 0 8 := by rw [hz1]
      refine y_callV hM hC (c_pass l hfl G b0 ks ad T1 P ((1) + (r_1562)) ⟨by omega, by omega⟩ hF1 hDN1) (cwV 1 hM.2.2.2.2 gL_law_X3_pass rfl rfl rfl (by decide +kernel) ⟨(Nat.le_of_ble_eq_true rfl), (Nat.le_of_ble_eq_true rfl)⟩) (y_recv hC hF1.1 rfl rfl) rfl hl.1 rfl (Nat.le_of_ble_eq_true rfl) dL_law_1596 ⟨(show _ ≤ 602294 by omega), (show _ ≤ 7294300 by omega)⟩ (fun E ce q9 u1 H locs hx hC hce hcv hcl => by
          obtain ⟨x, rfl, hx, hu⟩ := hx; rw [hu] at hC; clear hu; try dsimp only at hx
          exact False.elim (by omega)) (fun v u1 H locs hp hC => ?_)
      obtain ⟨r_1596, rfl, h_1596, hu⟩ := hp; rw [hu] at hC; clear hu
      try dsimp only at h_1596
      refine W.eq (g2 := F0 m 1599 ls [.int (iI (r_1596))]) rfl ?_
      refine y_aload hM hl 8 rfl dL_law_1599 ?_
      refine y_iconst hM dL_law_1601 ?_
      refine y_iald hM hC hLK1.2.2.2.2.2.2 rfl ⟨by omega, by omega⟩ (by decide) (x := (T 0 0 5) + ((1) + (r_1562))) (by
    show (up T1 0 0 5 (T1 0 0 5 + ((1) + (r_1562)))) 56 0 3 = _
    rw [up_of (by omega), hT1, up_at rfl]) dL_law_1602 ?_
      refine y_icmp_eq hM (by constructor <;> omega) (by constructor <;> omega) (tgt := 1608) dL_law_1603 (by decide) (fun c_1603 => ?_) (fun c_1603 => False.elim (by omega))
      rw [h05] at hC
      exact kk _ _ _ _ _ _ _ _ ls (by omega) (by omega) hC (op_pas hI (by omega) (by omega) hT1) ⟨hl.1, hl.2.1, fun q hq => hl.2.2 q ((List.forall_mem_cons.mpr ⟨List.mem_of_getElem? (i := 5) rfl, (List.forall_mem_cons.mpr ⟨List.mem_of_getElem? (i := 7) rfl, (List.forall_mem_cons.mpr ⟨List.mem_of_getElem? (i := 8) rfl, (List.forall_mem_cons.mpr ⟨List.mem_of_getElem? (i := 9) rfl, (List.forall_mem_cons.mpr ⟨List.mem_of_getElem? (i := 10) rfl, (List.forall_mem_cons.mpr ⟨List.mem_of_getElem? (i := 11) rfl, (List.forall_mem_cons.mpr ⟨List.mem_of_getElem? (i := 12) rfl, (List.forall_mem_cons.mpr ⟨List.mem_of_getElem? (i := 13) rfl, (List.forall_mem_cons.mpr ⟨List.mem_of_getElem? (i := 14) rfl, (List.forall_mem_cons.mpr ⟨List.mem_of_getElem? (i := 15) rfl, (List.forall_mem_cons.mpr ⟨List.mem_of_getElem? (i := 16) rfl, (fun _ h => absurd h List.not_mem_nil)⟩)⟩)⟩)⟩)⟩)⟩)⟩)⟩)⟩)⟩)⟩) q hq)⟩
    ·
      refine lv_goto (tgt := 1643) hM.1 hM.2.1 dL_law_1581 (by decide) ?_
      exact kn _ _ _ _ _ _ _ _ ls (by omega) (by omega) hC hI ⟨hl.1, hl.2.1, fun q hq => hl.2.2 q ((List.forall_mem_cons.mpr ⟨List.mem_of_getElem? (i := 7) rfl, (List.forall_mem_cons.mpr ⟨List.mem_of_getElem? (i := 8) rfl, (List.forall_mem_cons.mpr ⟨List.mem_of_getElem? (i := 9) rfl, (List.forall_mem_cons.mpr ⟨List.mem_of_getElem? (i := 10) rfl, (List.forall_mem_cons.mpr ⟨List.mem_of_getElem? (i := 11) rfl, (List.forall_mem_cons.mpr ⟨List.mem_of_getElem? (i := 12) rfl, (List.forall_mem_cons.mpr ⟨List.mem_of_getElem? (i := 13) rfl, (List.forall_mem_cons.mpr ⟨List.mem_of_getElem? (i := 14) rfl, (List.forall_mem_cons.mpr ⟨List.mem_of_getElem? (i := 15) rfl, (List.forall_mem_cons.mpr ⟨List.mem_of_getElem? (i := 16) rfl, (fun _ h => absurd h List.not_mem_nil)⟩)⟩)⟩)⟩)⟩)⟩)⟩)⟩)⟩)⟩) q hq)⟩
  ·
    refine y_iconst hM dL_law_1556 ?_
    refine lv_goto (tgt := 1562) hM.1 hM.2.1 dL_law_1557 (by decide) ?_
    refine y_callS hM hC (c_L_low l hfl G b0 (ks, ad, T, P) (yy) (4) ⟨by omega, by omega⟩) (va_cwS 2 hM.2.2.2.2 gL_law_L_low rfl rfl rfl (by decide +kernel) ⟨(Nat.le_of_ble_eq_true rfl), (Nat.le_of_ble_eq_true rfl)⟩) rfl hl.1 rfl (Nat.le_of_ble_eq_true rfl) dL_law_1562 ⟨(show _ ≤ 602294 by omega), (show _ ≤ 7294300 by omega)⟩ (fun E ce q9 u1 H locs hx hC hce hcv hcl => hx.elim) (fun v u1 H locs hp hC => ?_)
    obtain ⟨r_1562, rfl, h_1562, hu⟩ := hp; rw [hu] at hC; clear hu
    try dsimp only at h_1562
    refine W.eq (g2 := F0 m 1565 ls [.int (iI (r_1562)), .int (iI (1))]) rfl ?_
    refine y_iadd hM dL_law_1565 ?_
    refine lv_istore (lv' := [(16, .int (iI ((1) + (r_1562)))), (15, .int (iI (((k : Nat) : Int)))), (14, .int (iI (((sv : Nat) : Int)))), (13, .int (iI (((pv : Nat) : Int)))), (12, .int (iI (kd))), (11, .int (iI (yy))), (10, .int (iI (xx))), (9, .int (iI (((i : Nat) : Int)))), (8, .ref (ad 56 0)), (7, .ref (ad 55 0)), (6, .ref (ad 54 0)), (5, .ref (ad 53 0)), (4, .ref (ad 52 0)), (3, .ref (ad 51 0)), (2, .ref (ad 50 0)), (1, .ref (ad 0 0)), (0, .ref b)]) hM.1 hM.2.1 dL_law_1566 hl (by decide) rfl (fun ls hl => ?_)
    refine y_aload hM hl 8 rfl dL_law_1568 ?_
    refine y_iconst hM dL_law_1570 ?_
    refine y_iald hM hC hLK.2.2.2.2.2.2 rfl ⟨by omega, by omega⟩ (by decide) (x := T 0 0 5) (by rw [show ((3 : Int)).toNat = 3 from rfl, hg3]) dL_law_1571 ?_
    refine y_iload hM hl 0 rfl dL_law_1572 ?_
    refine y_iadd hM dL_law_1574 ?_
    refine y_sipush hM dL_law_1575 (by decide) ?_
    refine y_icmp_le hM (by constructor <;> omega) (by constructor <;> omega) (tgt := 1584) dL_law_1578 (by decide) (fun c_1578 => ?_) (fun c_1578 => ?_)
    ·
      refine y_aload hM hl 8 rfl dL_law_1584 ?_
      refine y_iconst hM dL_law_1586 ?_
      refine lv_dup2_11 hM.1 hM.2.1 dL_law_1587 rfl rfl ?_
      refine y_iald hM hC hLK.2.2.2.2.2.2 rfl ⟨by omega, by omega⟩ (by decide) (x := T 0 0 5) (by rw [show ((3 : Int)).toNat = 3 from rfl, hg3]) dL_law_1588 ?_
      refine y_iload hM hl 0 rfl dL_law_1589 ?_
      refine y_iadd hM dL_law_1591 ?_
      refine y_iast hM hC hLK.2.2.2.2.2.2 (fun _ _ => rfl) ⟨by omega, by omega⟩ (by decide) dL_law_1592 (fun H locs hC => ?_)
      rw [show ((3 : Int)).toNat = 3 from rfl] at hC
      refine y_aload_n hM hl 15 rfl rfl dL_law_1593 ?_
      refine y_iload hM hl 0 rfl dL_law_1594 ?_
      obtain ⟨T1, hT1⟩ : ∃ X : TT, X = (up T 56 0 (3) ((T 0 0 5) + ((1) + (r_1562)))) := ⟨_, rfl⟩
      rw [← hT1] at hC
      have hlo : LoE T1 T := by
        rw [hT1]
        exact (LoE.r.hi (by decide))
      obtain ⟨hCK1, hNC1, hR1, hz1⟩ := hI.mid hlo
      obtain ⟨hF1, hRK1, hSK1, hOK1, hKF1, hLK1⟩ := id hCK1
      obtain ⟨hRN1, hDN1, hSN1, hON1, -, -, -⟩ := id hNC1
      have h05 : T1 0 0 5 = T 0 0 5 := by rw [hz1]
      have h06 : T1 0 0 6 = T 0 0 6 := by rw [hz1]
      have h07 : T1 0 0 7 = T 0 0 7 := by rw [hz1]
      have h08 : T1 0 0 8 = T 0 0 8 := by rw [hz1]
      refine y_callV hM hC (c_pass l hfl G b0 ks ad T1 P ((1) + (r_1562)) ⟨by omega, by omega⟩ hF1 hDN1) (cwV 1 hM.2.2.2.2 gL_law_X3_pass rfl rfl rfl (by decide +kernel) ⟨(Nat.le_of_ble_eq_true rfl), (Nat.le_of_ble_eq_true rfl)⟩) (y_recv hC hF1.1 rfl rfl) rfl hl.1 rfl (Nat.le_of_ble_eq_true rfl) dL_law_1596 ⟨(show _ ≤ 602294 by omega), (show _ ≤ 7294300 by omega)⟩ (fun E ce q9 u1 H locs hx hC hce hcv hcl => by
          obtain ⟨x, rfl, hx, hu⟩ := hx; rw [hu] at hC; clear hu; try dsimp only at hx
          exact False.elim (by omega)) (fun v u1 H locs hp hC => ?_)
      obtain ⟨r_1596, rfl, h_1596, hu⟩ := hp; rw [hu] at hC; clear hu
      try dsimp only at h_1596
      refine W.eq (g2 := F0 m 1599 ls [.int (iI (r_1596))]) rfl ?_
      refine y_aload hM hl 8 rfl dL_law_1599 ?_
      refine y_iconst hM dL_law_1601 ?_
      refine y_iald hM hC hLK1.2.2.2.2.2.2 rfl ⟨by omega, by omega⟩ (by decide) (x := (T 0 0 5) + ((1) + (r_1562))) (by
    show (up T1 0 0 5 (T1 0 0 5 + ((1) + (r_1562)))) 56 0 3 = _
    rw [up_of (by omega), hT1, up_at rfl]) dL_law_1602 ?_
      refine y_icmp_eq hM (by constructor <;> omega) (by constructor <;> omega) (tgt := 1608) dL_law_1603 (by decide) (fun c_1603 => ?_) (fun c_1603 => False.elim (by omega))
      rw [h05] at hC
      exact kk _ _ _ _ _ _ _ _ ls (by omega) (by omega) hC (op_pas hI (by omega) (by omega) hT1) ⟨hl.1, hl.2.1, fun q hq => hl.2.2 q ((List.forall_mem_cons.mpr ⟨List.mem_of_getElem? (i := 5) rfl, (List.forall_mem_cons.mpr ⟨List.mem_of_getElem? (i := 7) rfl, (List.forall_mem_cons.mpr ⟨List.mem_of_getElem? (i := 8) rfl, (List.forall_mem_cons.mpr ⟨List.mem_of_getElem? (i := 9) rfl, (List.forall_mem_cons.mpr ⟨List.mem_of_getElem? (i := 10) rfl, (List.forall_mem_cons.mpr ⟨List.mem_of_getElem? (i := 11) rfl, (List.forall_mem_cons.mpr ⟨List.mem_of_getElem? (i := 12) rfl, (List.forall_mem_cons.mpr ⟨List.mem_of_getElem? (i := 13) rfl, (List.forall_mem_cons.mpr ⟨List.mem_of_getElem? (i := 14) rfl, (List.forall_mem_cons.mpr ⟨List.mem_of_getElem? (i := 15) rfl, (List.forall_mem_cons.mpr ⟨List.mem_of_getElem? (i := 16) rfl, (fun _ h => absurd h List.not_mem_nil)⟩)⟩)⟩)⟩)⟩)⟩)⟩)⟩)⟩)⟩)⟩) q hq)⟩
    ·
      refine lv_goto (tgt := 1643) hM.1 hM.2.1 dL_law_1581 (by decide) ?_
      exact kn _ _ _ _ _ _ _ _ ls (by omega) (by omega) hC hI ⟨hl.1, hl.2.1, fun q hq => hl.2.2 q ((List.forall_mem_cons.mpr ⟨List.mem_of_getElem? (i := 7) rfl, (List.forall_mem_cons.mpr ⟨List.mem_of_getElem? (i := 8) rfl, (List.forall_mem_cons.mpr ⟨List.mem_of_getElem? (i := 9) rfl, (List.forall_mem_cons.mpr ⟨List.mem_of_getElem? (i := 10) rfl, (List.forall_mem_cons.mpr ⟨List.mem_of_getElem? (i := 11) rfl, (List.forall_mem_cons.mpr ⟨List.mem_of_getElem? (i := 12) rfl, (List.forall_mem_cons.mpr ⟨List.mem_of_getElem? (i := 13) rfl, (List.forall_mem_cons.mpr ⟨List.mem_of_getElem? (i := 14) rfl, (List.forall_mem_cons.mpr ⟨List.mem_of_getElem? (i := 15) rfl, (List.forall_mem_cons.mpr ⟨List.mem_of_getElem? (i := 16) rfl, (fun _ h => absurd h List.not_mem_nil)⟩)⟩)⟩)⟩)⟩)⟩)⟩)⟩)⟩)⟩) q hq)⟩

set_option maxRecDepth 100000 in
set_option maxHeartbeats 16000000 in
theorem law_set {p : Program} {e : Env} {s : State} {m : MethodId} {below : List Frame} {meth : Method} {c : Code} {Q : State → Prop} (l : Launch) (hfl : l.stackTraces = false) (G : GG) (b0 : Nat) {b L : Nat} {xs : Nat → Int32} (hM : CallFix p m c cL_law 30 s #[Value.ref b] wsL_law RL) (hN : NcX s) (hX : va_X b L xs s s.heap) (hbA : ¬ b0 ≤ b) (hbl : b < s.heap.size) (hL : L ≤ 260) {ks : KK} {ad : AD} {T : TT} {P : PP} {H : Heap} {locs : List Loc} {cells slots : Nat} (hcl : cells + 400 ≤ 602294) (hsl : slots + 3000 ≤ 7294300) (i : Nat) (xx yy kd : Int) (pv sv k : Nat) (hkd : 0 ≤ kd ∧ kd < 20) (hpv : pv < 5) (hsv : (T 0 0 7 = 0 ∧ sv = 0) ∨ (sv : Int) < T 0 0 7) (hkv : (T 0 0 8 = 0 ∧ k = 0) ∨ (k : Int) < T 0 0 8) {ls : Array Slot} (hl : lv_has ls 30 [(15, .int (iI (((k : Nat) : Int)))), (14, .int (iI (((sv : Nat) : Int)))), (13, .int (iI (((pv : Nat) : Int)))), (12, .int (iI (kd))), (11, .int (iI (yy))), (10, .int (iI (xx))), (9, .int (iI (((i : Nat) : Int)))), (8, .ref (ad 56 0)), (7, .ref (ad 55 0)), (6, .ref (ad 54 0)), (5, .ref (ad 53 0)), (4, .ref (ad 52 0)), (3, .ref (ad 51 0)), (2, .ref (ad 50 0)), (1, .ref (ad 0 0)), (0, .ref b)]) (hC : Cur G b0 (ks, ad, T, P) s H locs) (hI : IV ks ad T P)
    (kk : ∀ (ks1 : KK) (ad1 : AD) (T1 : TT) (P1 : PP) (H1 : Heap) (locs1 : List Loc) (cells1 slots1 : Nat) (ls1 : Array Slot), cells1 ≤ cells + 40 → slots1 ≤ slots + 400 → Cur G b0 (ks1, ad1, T1, P1) s H1 locs1 → IV ks1 ad1 T1 P1 → lv_has ls1 30 [(11, .int (iI (yy))), (9, .int (iI (((i : Nat) : Int)))), (8, .ref (ad1 56 0)), (7, .ref (ad1 55 0)), (6, .ref (ad1 54 0)), (5, .ref (ad1 53 0)), (4, .ref (ad1 52 0)), (3, .ref (ad1 51 0)), (2, .ref (ad1 50 0)), (1, .ref (ad1 0 0)), (0, .ref b)] → W p l e room_1 s m #[Value.ref b] below meth c H1 locs1 cells1 slots1 Q (F0 m 1608 ls1 [])) (kn : ∀ (ks1 : KK) (ad1 : AD) (T1 : TT) (P1 : PP) (H1 : Heap) (locs1 : List Loc) (cells1 slots1 : Nat) (ls1 : Array Slot), cells1 ≤ cells + 400 → slots1 ≤ slots + 3000 → Cur G b0 (ks1, ad1, T1, P1) s H1 locs1 → IV ks1 ad1 T1 P1 → lv_has ls1 30 [(9, .int (iI (((i : Nat) : Int)))), (8, .ref (ad1 56 0)), (7, .ref (ad1 55 0)), (6, .ref (ad1 54 0)), (5, .ref (ad1 53 0)), (4, .ref (ad1 52 0)), (3, .ref (ad1 51 0)), (2, .ref (ad1 50 0)), (1, .ref (ad1 0 0)), (0, .ref b)] → W p l e room_1 s m #[Value.ref b] below meth c H1 locs1 cells1 slots1 Q (F0 m 1643 ls1 [])) :
    W p l e room_1 s m #[Value.ref b] below meth c H locs cells slots Q (F0 m 154 ls []) := by
  obtain ⟨hCK, hNC, hR⟩ := id hI
  obtain ⟨hF, hRK, hSK, hOK, hKF, hLK⟩ := id hCK
  obtain ⟨hRN, hDN, hSN, hON, hXP, hXO, hXD⟩ := id hNC
  obtain ⟨⟨hg1, h75, hg2, h87, hg3, h19, hg4, hg0⟩, hRP, hRS, hRO, hRD⟩ := id hR
  obtain ⟨hd0, hd1, hd2, hd3⟩ := id hDN
  have hs70 := hSK.1
  have ho80 := hOK.1
  have hP1 := hRP.1.1
  obtain ⟨N_, hN_⟩ : ∃ n : Nat, n = (T 56 0 0).toNat := ⟨_, rfl⟩
  have hgN : T 56 0 0 = ((N_ : Nat) : Int) := by omega
  refine y_bipush hM dL_law_154 (by decide) ?_
  refine y_iload hM hl 4 rfl dL_law_156 ?_
  refine y_iconst hM dL_law_158 ?_
  refine lv_ishr hM.1 hM.2.1 dL_law_159 ?_
  obtain ⟨z_159, ez_159⟩ : ∃ z : Int, (iI (yy) >>> (iI (3) &&& 31)) = iI z := ⟨_, iI_of _⟩
  rw [ez_159]
  refine y_iload hM hl 5 rfl dL_law_160 ?_
  refine y_bipush hM dL_law_162 (by decide) ?_
  refine lv_ishr hM.1 hM.2.1 dL_law_164 ?_
  obtain ⟨z_164, ez_164⟩ : ∃ z : Int, (iI (xx) >>> (iI (9) &&& 31)) = iI z := ⟨_, iI_of _⟩
  rw [ez_164]
  refine y_iconst hM dL_law_165 ?_
  refine y_callS hM hC (c_L_low l hfl G b0 (ks, ad, T, P) (z_164) (2) ⟨by omega, by omega⟩) (va_cwS 2 hM.2.2.2.2 gL_law_L_low rfl rfl rfl (by decide +kernel) ⟨(Nat.le_of_ble_eq_true rfl), (Nat.le_of_ble_eq_true rfl)⟩) rfl hl.1 rfl (Nat.le_of_ble_eq_true rfl) dL_law_166 ⟨(show _ ≤ 602294 by omega), (show _ ≤ 7294300 by omega)⟩ (fun E ce q9 u1 H locs hx hC hce hcv hcl => hx.elim) (fun v u1 H locs hp hC => ?_)
  obtain ⟨r_166, rfl, h_166, hu⟩ := hp; rw [hu] at hC; clear hu
  try dsimp only at h_166
  refine W.eq (g2 := F0 m 169 ls [.int (iI (r_166)), .int (iI (z_159)), .int (iI (100))]) rfl ?_
  refine y_if_ne hM (by constructor <;> omega) (tgt := 178) dL_law_169 (by decide) (fun c_169 => ?_) (fun c_169 => ?_)
  ·
    refine y_sipush hM dL_law_178 (by decide) ?_
    refine y_callS hM hC (c_L_low l hfl G b0 (ks, ad, T, P) (z_159) (1500) ⟨by omega, by omega⟩) (va_cwS 2 hM.2.2.2.2 gL_law_L_low rfl rfl rfl (by decide +kernel) ⟨(Nat.le_of_ble_eq_true rfl), (Nat.le_of_ble_eq_true rfl)⟩) rfl hl.1 rfl (Nat.le_of_ble_eq_true rfl) dL_law_181 ⟨(show _ ≤ 602294 by omega), (show _ ≤ 7294300 by omega)⟩ (fun E ce q9 u1 H locs hx hC hce hcv hcl => hx.elim) (fun v u1 H locs hp hC => ?_)
    obtain ⟨r_181, rfl, h_181, hu⟩ := hp; rw [hu] at hC; clear hu
    try dsimp only at h_181
    refine W.eq (g2 := F0 m 184 ls [.int (iI (r_181)), .int (iI (100))]) rfl ?_
    refine y_iadd hM dL_law_184 ?_
    refine lv_istore (lv' := [(16, .int (iI ((100) + (r_181)))), (15, .int (iI (((k : Nat) : Int)))), (14, .int (iI (((sv : Nat) : Int)))), (13, .int (iI (((pv : Nat) : Int)))), (12, .int (iI (kd))), (11, .int (iI (yy))), (10, .int (iI (xx))), (9, .int (iI (((i : Nat) : Int)))), (8, .ref (ad 56 0)), (7, .ref (ad 55 0)), (6, .ref (ad 54 0)), (5, .ref (ad 53 0)), (4, .ref (ad 52 0)), (3, .ref (ad 51 0)), (2, .ref (ad 50 0)), (1, .ref (ad 0 0)), (0, .ref b)]) hM.1 hM.2.1 dL_law_185 hl (by decide) rfl (fun ls hl => ?_)
    refine y_aload_n hM hl 14 rfl rfl dL_law_187 ?_
    refine y_iload hM hl 3 rfl dL_law_188 ?_
    refine y_aload hM hl 8 rfl dL_law_190 ?_
    refine y_iconst hM dL_law_192 ?_
    refine y_iald hM hC hLK.2.2.2.2.2.2 rfl ⟨by omega, by omega⟩ (by decide) (x := T 0 0 5) (by rw [show ((3 : Int)).toNat = 3 from rfl, hg3]) dL_law_193 ?_
    refine y_callS hM hC (c_L_price l hfl G b0 ks ad T P (((pv : Nat) : Int)) (T 0 0 5) ⟨by omega, by omega⟩ ⟨by omega, by omega⟩ hLK.1 hRP) (va_cwS 3 hM.2.2.2.2 gL_law_L_price rfl rfl rfl (by decide +kernel) ⟨(Nat.le_of_ble_eq_true rfl), (Nat.le_of_ble_eq_true rfl)⟩) rfl hl.1 rfl (Nat.le_of_ble_eq_true rfl) dL_law_194 ⟨(show _ ≤ 602294 by omega), (show _ ≤ 7294300 by omega)⟩ (fun E ce q9 u1 H locs hx hC hce hcv hcl => hx.elim) (fun v u1 H locs hp hC => ?_)
    obtain ⟨r_194, rfl, h_194, hu⟩ := hp; rw [hu] at hC; clear hu
    try dsimp only at h_194
    refine W.eq (g2 := F0 m 197 ls [.int (iI (r_194))]) rfl ?_
    rw [Int.toNat_natCast] at h_194
    have hv_194 := valT_in hRN (p := pv) hpv (T 0 0 5)
    refine lv_istore (lv' := [(17, .int (iI (r_194))), (16, .int (iI ((100) + (r_181)))), (15, .int (iI (((k : Nat) : Int)))), (14, .int (iI (((sv : Nat) : Int)))), (13, .int (iI (((pv : Nat) : Int)))), (12, .int (iI (kd))), (11, .int (iI (yy))), (10, .int (iI (xx))), (9, .int (iI (((i : Nat) : Int)))), (8, .ref (ad 56 0)), (7, .ref (ad 55 0)), (6, .ref (ad 54 0)), (5, .ref (ad 53 0)), (4, .ref (ad 52 0)), (3, .ref (ad 51 0)), (2, .ref (ad 50 0)), (1, .ref (ad 0 0)), (0, .ref b)]) hM.1 hM.2.1 dL_law_197 hl (by decide) rfl (fun ls hl => ?_)
    refine y_aload hM hl 9 rfl dL_law_199 ?_
    refine y_iconst hM dL_law_201 ?_
    refine y_iald hM hC hLK.2.2.2.2.2.2 rfl ⟨by omega, by omega⟩ (by decide) (x := ((N_ : Nat) : Int)) (by rw [show ((0 : Int)).toNat = 0 from rfl, hgN]) dL_law_202 ?_
    refine lv_istore (lv' := [(18, .int (iI (((N_ : Nat) : Int)))), (17, .int (iI (r_194))), (16, .int (iI ((100) + (r_181)))), (15, .int (iI (((k : Nat) : Int)))), (14, .int (iI (((sv : Nat) : Int)))), (13, .int (iI (((pv : Nat) : Int)))), (12, .int (iI (kd))), (11, .int (iI (yy))), (10, .int (iI (xx))), (9, .int (iI (((i : Nat) : Int)))), (8, .ref (ad 56 0)), (7, .ref (ad 55 0)), (6, .ref (ad 54 0)), (5, .ref (ad 53 0)), (4, .ref (ad 52 0)), (3, .ref (ad 51 0)), (2, .ref (ad 50 0)), (1, .ref (ad 0 0)), (0, .ref b)]) hM.1 hM.2.1 dL_law_203 hl (by decide) rfl (fun ls hl => ?_)
    refine y_iconst hM dL_law_205 ?_
    refine lv_istore (lv' := [(19, .int (iI (0))), (18, .int (iI (((N_ : Nat) : Int)))), (17, .int (iI (r_194))), (16, .int (iI ((100) + (r_181)))), (15, .int (iI (((k : Nat) : Int)))), (14, .int (iI (((sv : Nat) : Int)))), (13, .int (iI (((pv : Nat) : Int)))), (12, .int (iI (kd))), (11, .int (iI (yy))), (10, .int (iI (xx))), (9, .int (iI (((i : Nat) : Int)))), (8, .ref (ad 56 0)), (7, .ref (ad 55 0)), (6, .ref (ad 54 0)), (5, .ref (ad 53 0)), (4, .ref (ad 52 0)), (3, .ref (ad 51 0)), (2, .ref (ad 50 0)), (1, .ref (ad 0 0)), (0, .ref b)]) hM.1 hM.2.1 dL_law_206 hl (by decide) rfl (fun ls hl => ?_)
    have hloop : ∀ (m_ i2 a : Nat) (cells2 slots2 : Nat) (ls : Array Slot), i2 + m_ = N_ → cells2 ≤ cells → slots2 ≤ slots → ((a = N_ ∧ ∀ j : Nat, j < i2 → ¬ (T 50 0 (3 * j) = (pv : Int) ∧ T 50 0 (3 * j + 1) = T 0 0 5)) ∨ (a < i2 ∧ a < N_ ∧ T 50 0 (3 * a) = (pv : Int) ∧ T 50 0 (3 * a + 1) = T 0 0 5 ∧ ∀ j : Nat, a < j → j < i2 → ¬ (T 50 0 (3 * j) = (pv : Int) ∧ T 50 0 (3 * j + 1) = T 0 0 5))) → lv_has ls 30 [(19, .int (iI (((i2 : Nat) : Int)))), (18, .int (iI (((a : Nat) : Int)))), (17, .int (iI (r_194))), (16, .int (iI ((100) + (r_181)))), (15, .int (iI (((k : Nat) : Int)))), (14, .int (iI (((sv : Nat) : Int)))), (13, .int (iI (((pv : Nat) : Int)))), (12, .int (iI (kd))), (11, .int (iI (yy))), (10, .int (iI (xx))), (9, .int (iI (((i : Nat) : Int)))), (8, .ref (ad 56 0)), (7, .ref (ad 55 0)), (6, .ref (ad 54 0)), (5, .ref (ad 53 0)), (4, .ref (ad 52 0)), (3, .ref (ad 51 0)), (2, .ref (ad 50 0)), (1, .ref (ad 0 0)), (0, .ref b)] → W p l e room_1 s m #[Value.ref b] below meth c H locs cells2 slots2 Q (F0 m 208 ls []) := by
      intro m_
      induction m_ with
      | zero =>
        intro i2 a cells2 slots2 ls hn hc2 hs2 hinv hl
        rw [show i2 = N_ by omega] at hinv
        refine y_iload hM hl 0 rfl dL_law_208 ?_
        refine y_aload hM hl 11 rfl dL_law_210 ?_
        refine y_iconst hM dL_law_212 ?_
        refine y_iald hM hC hLK.2.2.2.2.2.2 rfl ⟨by omega, by omega⟩ (by decide) (x := ((N_ : Nat) : Int)) (by rw [show ((0 : Int)).toNat = 0 from rfl, hgN]) dL_law_213 ?_
        refine y_icmp_ge hM (by constructor <;> omega) (by constructor <;> omega) (tgt := 253) dL_law_214 (by decide) (fun c_214 => ?_) (fun c_214 => False.elim (by omega))
        refine y_iload hM hl 1 rfl dL_law_253 ?_
        refine y_bipush hM dL_law_255 (by decide) ?_
        refine y_icmp_ne hM (by constructor <;> omega) (by constructor <;> omega) (tgt := 263) dL_law_257 (by decide) (fun c_257 => ?_) (fun c_257 => ?_)
        ·
          refine y_aload hM hl 11 rfl dL_law_263 ?_
          refine y_iconst hM dL_law_265 ?_
          refine lv_dup2_11 hM.1 hM.2.1 dL_law_266 rfl rfl ?_
          refine y_iald hM hC hLK.2.2.2.2.2.2 rfl ⟨by omega, by omega⟩ (by decide) (x := ((N_ : Nat) : Int)) (by rw [show ((0 : Int)).toNat = 0 from rfl, hgN]) dL_law_267 ?_
          refine y_iload hM hl 1 rfl dL_law_268 ?_
          refine y_aload hM hl 11 rfl dL_law_270 ?_
          refine y_iconst hM dL_law_272 ?_
          refine y_iald hM hC hLK.2.2.2.2.2.2 rfl ⟨by omega, by omega⟩ (by decide) (x := ((N_ : Nat) : Int)) (by rw [show ((0 : Int)).toNat = 0 from rfl, hgN]) dL_law_273 ?_
          refine y_icmp_ne hM (by constructor <;> omega) (by constructor <;> omega) (tgt := 281) dL_law_274 (by decide) (fun c_274 => ?_) (fun c_274 => ?_)
          ·
            refine y_iconst hM dL_law_281 ?_
            refine y_iadd hM dL_law_282 ?_
            refine y_iast hM hC hLK.2.2.2.2.2.2 (fun _ _ => rfl) ⟨by omega, by omega⟩ (by decide) dL_law_283 (fun H locs hC => ?_)
            rw [show ((0 : Int)).toNat = 0 from rfl] at hC
            refine y_aload_n hM hl 17 rfl rfl dL_law_284 ?_
            refine y_iconst hM dL_law_285 ?_
            refine y_iload hM hl 1 rfl dL_law_286 ?_
            refine y_imul hM dL_law_288 ?_
            refine y_iload hM hl 6 rfl dL_law_289 ?_
            refine y_iast hM hC hLK.1 (fun _ _ => rfl) ⟨by omega, by omega⟩ (by decide) dL_law_291 (fun H locs hC => ?_)
            rw [show ((3) * (((a : Nat) : Int)) : Int).toNat = 3 * a from by omega] at hC
            refine y_aload_n hM hl 17 rfl rfl dL_law_292 ?_
            refine y_iconst hM dL_law_293 ?_
            refine y_iload hM hl 1 rfl dL_law_294 ?_
            refine y_imul hM dL_law_296 ?_
            refine y_iconst hM dL_law_297 ?_
            refine y_iadd hM dL_law_298 ?_
            refine y_aload hM hl 11 rfl dL_law_299 ?_
            refine y_iconst hM dL_law_301 ?_
            refine y_iald hM hC hLK.2.2.2.2.2.2 rfl ⟨by omega, by omega⟩ (by decide) (x := T 0 0 5) (by rw [show ((3 : Int)).toNat = 3 from rfl, up_of (by omega), up_of (by omega), hg3]) dL_law_302 ?_
            refine y_iast hM hC hLK.1 (fun _ _ => rfl) ⟨by omega, by omega⟩ (by decide) dL_law_303 (fun H locs hC => ?_)
            rw [show (((3) * (((a : Nat) : Int))) + (1) : Int).toNat = 3 * a + 1 from by omega] at hC
            refine y_aload_n hM hl 17 rfl rfl dL_law_304 ?_
            refine y_iconst hM dL_law_305 ?_
            refine y_iload hM hl 1 rfl dL_law_306 ?_
            refine y_imul hM dL_law_308 ?_
            refine y_iconst hM dL_law_309 ?_
            refine y_iadd hM dL_law_310 ?_
            refine y_iload hM hl 3 rfl dL_law_311 ?_
            refine y_iast hM hC hLK.1 (fun _ _ => rfl) ⟨by omega, by omega⟩ (by decide) dL_law_313 (fun H locs hC => ?_)
            rw [show (((3) * (((a : Nat) : Int))) + (2) : Int).toNat = 3 * a + 2 from by omega] at hC
            refine y_aload_n hM hl 18 rfl rfl dL_law_314 ?_
            refine y_iload hM hl 6 rfl dL_law_315 ?_
            refine y_iload hM hl 3 rfl dL_law_317 ?_
            obtain ⟨T1, hT1⟩ : ∃ X : TT, X = (up (up (up (up T 56 0 (0) ((((N_ : Nat) : Int)) + (0))) 50 0 (3 * a) (((pv : Nat) : Int))) 50 0 (3 * a + 1) (T 0 0 5)) 50 0 (3 * a + 2) ((100) + (r_181))) := ⟨_, rfl⟩
            rw [← hT1] at hC
            have hlo : LoE T1 T := by
              rw [hT1]
              exact ((((LoE.r.hi (by decide)).hi (by decide)).hi (by decide)).hi (by decide))
            obtain ⟨hCK1, hNC1, hR1, hz1⟩ := hI.mid hlo
            obtain ⟨hF1, hRK1, hSK1, hOK1, hKF1, hLK1⟩ := id hCK1
            obtain ⟨hRN1, hDN1, hSN1, hON1, -, -, -⟩ := id hNC1
            have h05 : T1 0 0 5 = T 0 0 5 := by rw [hz1]
            have h06 : T1 0 0 6 = T 0 0 6 := by rw [hz1]
            have h07 : T1 0 0 7 = T 0 0 7 := by rw [hz1]
            have h08 : T1 0 0 8 = T 0 0 8 := by rw [hz1]
            have h62 : T1 6 (((pv : Nat) : Int)).toNat 2 ≤ 20 := by
              rw [Int.toNat_natCast, hlo 6 pv (by omega)]
              have h1 := (hRP.2.2 pv hpv).1
              omega
            refine y_callV hM hC (c_setPrice l hfl G b0 ks ad T1 P (((pv : Nat) : Int)) ((100) + (r_181)) ⟨by omega, by omega⟩ ⟨by omega, by omega⟩ hF1 hRK1 hRN1 hDN1) (cwV 2 hM.2.2.2.2 gL_law_X3_setPrice rfl rfl rfl (by decide +kernel) ⟨(Nat.le_of_ble_eq_true rfl), (Nat.le_of_ble_eq_true rfl)⟩) (y_recv hC hF1.1 rfl rfl) rfl hl.1 rfl (Nat.le_of_ble_eq_true rfl) dL_law_319 ⟨(show _ ≤ 602294 by omega), (show _ ≤ 7294300 by omega)⟩ (fun E ce q9 u1 H locs hx hC hce hcv hcl => by
                obtain ⟨x, rfl, hx, hu⟩ := hx; rw [hu] at hC; clear hu; try dsimp only at hx
                exact False.elim (by omega)) (fun v u1 H locs hp hC => ?_)
            obtain ⟨r_319, rfl, h_319, hu⟩ := hp; rw [hu] at hC; clear hu
            try dsimp only at h_319
            refine W.eq (g2 := F0 m 322 ls [.int (iI (r_319))]) rfl ?_
            have e_319 : r_319 = valT T pv (T 0 0 5) := by rw [h_319.1, Int.toNat_natCast, valT_lo hlo, h05]
            refine y_iload hM hl 2 rfl dL_law_322 ?_
            refine y_icmp_eq hM (by constructor <;> omega) (by constructor <;> omega) (tgt := 329) dL_law_324 (by decide) (fun c_324 => ?_) (fun c_324 => False.elim (by omega))
            refine lv_goto (tgt := 1608) hM.1 hM.2.1 dL_law_329 (by decide) ?_
            rw [Int.toNat_natCast] at hC
            exact kk _ _ _ _ _ _ _ _ ls (by omega) (by omega) hC (op_put hI hpv ⟨by omega, by omega⟩ (by omega) (by
                rcases hinv with ⟨h1, h2⟩ | ⟨h1, h2, h3, h4, h5⟩
                · exact False.elim (by omega)
                · exact Or.inr ⟨by omega, by omega, h3, h4, fun j q1 q2 => h5 j q1 (by omega)⟩) hT1) ⟨hl.1, hl.2.1, fun q hq => hl.2.2 q ((List.forall_mem_cons.mpr ⟨List.mem_of_getElem? (i := 8) rfl, (List.forall_mem_cons.mpr ⟨List.mem_of_getElem? (i := 10) rfl, (List.forall_mem_cons.mpr ⟨List.mem_of_getElem? (i := 11) rfl, (List.forall_mem_cons.mpr ⟨List.mem_of_getElem? (i := 12) rfl, (List.forall_mem_cons.mpr ⟨List.mem_of_getElem? (i := 13) rfl, (List.forall_mem_cons.mpr ⟨List.mem_of_getElem? (i := 14) rfl, (List.forall_mem_cons.mpr ⟨List.mem_of_getElem? (i := 15) rfl, (List.forall_mem_cons.mpr ⟨List.mem_of_getElem? (i := 16) rfl, (List.forall_mem_cons.mpr ⟨List.mem_of_getElem? (i := 17) rfl, (List.forall_mem_cons.mpr ⟨List.mem_of_getElem? (i := 18) rfl, (List.forall_mem_cons.mpr ⟨List.mem_of_getElem? (i := 19) rfl, (fun _ h => absurd h List.not_mem_nil)⟩)⟩)⟩)⟩)⟩)⟩)⟩)⟩)⟩)⟩)⟩) q hq)⟩
          ·
            refine y_iconst hM dL_law_277 ?_
            refine lv_goto (tgt := 282) hM.1 hM.2.1 dL_law_278 (by decide) ?_
            refine y_iadd hM dL_law_282 ?_
            refine y_iast hM hC hLK.2.2.2.2.2.2 (fun _ _ => rfl) ⟨by omega, by omega⟩ (by decide) dL_law_283 (fun H locs hC => ?_)
            rw [show ((0 : Int)).toNat = 0 from rfl] at hC
            refine y_aload_n hM hl 17 rfl rfl dL_law_284 ?_
            refine y_iconst hM dL_law_285 ?_
            refine y_iload hM hl 1 rfl dL_law_286 ?_
            refine y_imul hM dL_law_288 ?_
            refine y_iload hM hl 6 rfl dL_law_289 ?_
            refine y_iast hM hC hLK.1 (fun _ _ => rfl) ⟨by omega, by omega⟩ (by decide) dL_law_291 (fun H locs hC => ?_)
            rw [show ((3) * (((a : Nat) : Int)) : Int).toNat = 3 * a from by omega] at hC
            refine y_aload_n hM hl 17 rfl rfl dL_law_292 ?_
            refine y_iconst hM dL_law_293 ?_
            refine y_iload hM hl 1 rfl dL_law_294 ?_
            refine y_imul hM dL_law_296 ?_
            refine y_iconst hM dL_law_297 ?_
            refine y_iadd hM dL_law_298 ?_
            refine y_aload hM hl 11 rfl dL_law_299 ?_
            refine y_iconst hM dL_law_301 ?_
            refine y_iald hM hC hLK.2.2.2.2.2.2 rfl ⟨by omega, by omega⟩ (by decide) (x := T 0 0 5) (by rw [show ((3 : Int)).toNat = 3 from rfl, up_of (by omega), up_of (by omega), hg3]) dL_law_302 ?_
            refine y_iast hM hC hLK.1 (fun _ _ => rfl) ⟨by omega, by omega⟩ (by decide) dL_law_303 (fun H locs hC => ?_)
            rw [show (((3) * (((a : Nat) : Int))) + (1) : Int).toNat = 3 * a + 1 from by omega] at hC
            refine y_aload_n hM hl 17 rfl rfl dL_law_304 ?_
            refine y_iconst hM dL_law_305 ?_
            refine y_iload hM hl 1 rfl dL_law_306 ?_
            refine y_imul hM dL_law_308 ?_
            refine y_iconst hM dL_law_309 ?_
            refine y_iadd hM dL_law_310 ?_
            refine y_iload hM hl 3 rfl dL_law_311 ?_
            refine y_iast hM hC hLK.1 (fun _ _ => rfl) ⟨by omega, by omega⟩ (by decide) dL_law_313 (fun H locs hC => ?_)
            rw [show (((3) * (((a : Nat) : Int))) + (2) : Int).toNat = 3 * a + 2 from by omega] at hC
            refine y_aload_n hM hl 18 rfl rfl dL_law_314 ?_
            refine y_iload hM hl 6 rfl dL_law_315 ?_
            refine y_iload hM hl 3 rfl dL_law_317 ?_
            obtain ⟨T1, hT1⟩ : ∃ X : TT, X = (up (up (up (up T 56 0 (0) ((((N_ : Nat) : Int)) + (1))) 50 0 (3 * a) (((pv : Nat) : Int))) 50 0 (3 * a + 1) (T 0 0 5)) 50 0 (3 * a + 2) ((100) + (r_181))) := ⟨_, rfl⟩
            rw [← hT1] at hC
            have hlo : LoE T1 T := by
              rw [hT1]
              exact ((((LoE.r.hi (by decide)).hi (by decide)).hi (by decide)).hi (by decide))
            obtain ⟨hCK1, hNC1, hR1, hz1⟩ := hI.mid hlo
            obtain ⟨hF1, hRK1, hSK1, hOK1, hKF1, hLK1⟩ := id hCK1
            obtain ⟨hRN1, hDN1, hSN1, hON1, -, -, -⟩ := id hNC1
            have h05 : T1 0 0 5 = T 0 0 5 := by rw [hz1]
            have h06 : T1 0 0 6 = T 0 0 6 := by rw [hz1]
            have h07 : T1 0 0 7 = T 0 0 7 := by rw [hz1]
            have h08 : T1 0 0 8 = T 0 0 8 := by rw [hz1]
            have h62 : T1 6 (((pv : Nat) : Int)).toNat 2 ≤ 20 := by
              rw [Int.toNat_natCast, hlo 6 pv (by omega)]
              have h1 := (hRP.2.2 pv hpv).1
              omega
            refine y_callV hM hC (c_setPrice l hfl G b0 ks ad T1 P (((pv : Nat) : Int)) ((100) + (r_181)) ⟨by omega, by omega⟩ ⟨by omega, by omega⟩ hF1 hRK1 hRN1 hDN1) (cwV 2 hM.2.2.2.2 gL_law_X3_setPrice rfl rfl rfl (by decide +kernel) ⟨(Nat.le_of_ble_eq_true rfl), (Nat.le_of_ble_eq_true rfl)⟩) (y_recv hC hF1.1 rfl rfl) rfl hl.1 rfl (Nat.le_of_ble_eq_true rfl) dL_law_319 ⟨(show _ ≤ 602294 by omega), (show _ ≤ 7294300 by omega)⟩ (fun E ce q9 u1 H locs hx hC hce hcv hcl => by
                obtain ⟨x, rfl, hx, hu⟩ := hx; rw [hu] at hC; clear hu; try dsimp only at hx
                exact False.elim (by omega)) (fun v u1 H locs hp hC => ?_)
            obtain ⟨r_319, rfl, h_319, hu⟩ := hp; rw [hu] at hC; clear hu
            try dsimp only at h_319
            refine W.eq (g2 := F0 m 322 ls [.int (iI (r_319))]) rfl ?_
            have e_319 : r_319 = valT T pv (T 0 0 5) := by rw [h_319.1, Int.toNat_natCast, valT_lo hlo, h05]
            refine y_iload hM hl 2 rfl dL_law_322 ?_
            refine y_icmp_eq hM (by constructor <;> omega) (by constructor <;> omega) (tgt := 329) dL_law_324 (by decide) (fun c_324 => ?_) (fun c_324 => False.elim (by omega))
            refine lv_goto (tgt := 1608) hM.1 hM.2.1 dL_law_329 (by decide) ?_
            rw [Int.toNat_natCast] at hC
            exact kk _ _ _ _ _ _ _ _ ls (by omega) (by omega) hC (op_put hI hpv ⟨by omega, by omega⟩ (by omega) (by
                rcases hinv with ⟨h1, h2⟩ | ⟨h1, h2, h3, h4, h5⟩
                · exact Or.inl ⟨by omega, by omega, fun j hj => h2 j (by omega)⟩
                · exact False.elim (by omega)) hT1) ⟨hl.1, hl.2.1, fun q hq => hl.2.2 q ((List.forall_mem_cons.mpr ⟨List.mem_of_getElem? (i := 8) rfl, (List.forall_mem_cons.mpr ⟨List.mem_of_getElem? (i := 10) rfl, (List.forall_mem_cons.mpr ⟨List.mem_of_getElem? (i := 11) rfl, (List.forall_mem_cons.mpr ⟨List.mem_of_getElem? (i := 12) rfl, (List.forall_mem_cons.mpr ⟨List.mem_of_getElem? (i := 13) rfl, (List.forall_mem_cons.mpr ⟨List.mem_of_getElem? (i := 14) rfl, (List.forall_mem_cons.mpr ⟨List.mem_of_getElem? (i := 15) rfl, (List.forall_mem_cons.mpr ⟨List.mem_of_getElem? (i := 16) rfl, (List.forall_mem_cons.mpr ⟨List.mem_of_getElem? (i := 17) rfl, (List.forall_mem_cons.mpr ⟨List.mem_of_getElem? (i := 18) rfl, (List.forall_mem_cons.mpr ⟨List.mem_of_getElem? (i := 19) rfl, (fun _ h => absurd h List.not_mem_nil)⟩)⟩)⟩)⟩)⟩)⟩)⟩)⟩)⟩)⟩)⟩) q hq)⟩
        ·
          refine lv_goto (tgt := 1643) hM.1 hM.2.1 dL_law_260 (by decide) ?_
          exact kn _ _ _ _ _ _ _ _ ls (by omega) (by omega) hC hI ⟨hl.1, hl.2.1, fun q hq => hl.2.2 q ((List.forall_mem_cons.mpr ⟨List.mem_of_getElem? (i := 10) rfl, (List.forall_mem_cons.mpr ⟨List.mem_of_getElem? (i := 11) rfl, (List.forall_mem_cons.mpr ⟨List.mem_of_getElem? (i := 12) rfl, (List.forall_mem_cons.mpr ⟨List.mem_of_getElem? (i := 13) rfl, (List.forall_mem_cons.mpr ⟨List.mem_of_getElem? (i := 14) rfl, (List.forall_mem_cons.mpr ⟨List.mem_of_getElem? (i := 15) rfl, (List.forall_mem_cons.mpr ⟨List.mem_of_getElem? (i := 16) rfl, (List.forall_mem_cons.mpr ⟨List.mem_of_getElem? (i := 17) rfl, (List.forall_mem_cons.mpr ⟨List.mem_of_getElem? (i := 18) rfl, (List.forall_mem_cons.mpr ⟨List.mem_of_getElem? (i := 19) rfl, (fun _ h => absurd h List.not_mem_nil)⟩)⟩)⟩)⟩)⟩)⟩)⟩)⟩)⟩)⟩) q hq)⟩
      | succ m_ ih =>
        intro i2 a cells2 slots2 ls hn hc2 hs2 hinv hl
        have hp := hRP.1.2.1 i2 (by rw [hgN]; omega)
        refine y_iload hM hl 0 rfl dL_law_208 ?_
        refine y_aload hM hl 11 rfl dL_law_210 ?_
        refine y_iconst hM dL_law_212 ?_
        refine y_iald hM hC hLK.2.2.2.2.2.2 rfl ⟨by omega, by omega⟩ (by decide) (x := ((N_ : Nat) : Int)) (by rw [show ((0 : Int)).toNat = 0 from rfl, hgN]) dL_law_213 ?_
        refine y_icmp_ge hM (by constructor <;> omega) (by constructor <;> omega) (tgt := 253) dL_law_214 (by decide) (fun c_214 => False.elim (by omega)) (fun c_214 => ?_)
        refine y_aload_n hM hl 17 rfl rfl dL_law_217 ?_
        refine y_iconst hM dL_law_218 ?_
        refine y_iload hM hl 0 rfl dL_law_219 ?_
        refine y_imul hM dL_law_221 ?_
        refine y_iald hM hC hLK.1 rfl ⟨by omega, by omega⟩ (by decide) (x := T 50 0 (3 * i2)) (by rw [show ((3) * (((i2 : Nat) : Int)) : Int).toNat = 3 * i2 from by omega]) dL_law_222 ?_
        refine y_iload hM hl 6 rfl dL_law_223 ?_
        refine y_icmp_ne hM (by constructor <;> omega) (by constructor <;> omega) (tgt := 247) dL_law_225 (by decide) (fun c_225 => ?_) (fun c_225 => ?_)
        ·
          refine lv_iinc (v := iI ((((i2 : Nat) : Int)) + (1))) (lv' := [(19, .int (iI ((((i2 : Nat) : Int)) + (1)))), (18, .int (iI (((a : Nat) : Int)))), (17, .int (iI (r_194))), (16, .int (iI ((100) + (r_181)))), (15, .int (iI (((k : Nat) : Int)))), (14, .int (iI (((sv : Nat) : Int)))), (13, .int (iI (((pv : Nat) : Int)))), (12, .int (iI (kd))), (11, .int (iI (yy))), (10, .int (iI (xx))), (9, .int (iI (((i : Nat) : Int)))), (8, .ref (ad 56 0)), (7, .ref (ad 55 0)), (6, .ref (ad 54 0)), (5, .ref (ad 53 0)), (4, .ref (ad 52 0)), (3, .ref (ad 51 0)), (2, .ref (ad 50 0)), (1, .ref (ad 0 0)), (0, .ref b)]) hM.1 hM.2.1 dL_law_247 hl (k := 0) rfl (iI_add _ _) (by decide) rfl (fun ls hl => ?_)
          refine lv_goto (tgt := 208) hM.1 hM.2.1 dL_law_250 (by decide) ?_
          have hz2 : (((i2 : Nat) : Int)) + (1) = ((i2 + 1 : Nat) : Int) := by omega
          rw [hz2] at hl
          refine ih (i2 + 1) a _ _ ls (by omega) hc2 hs2 ?_ ⟨hl.1, hl.2.1, fun q hq => hl.2.2 q ((List.forall_mem_cons.mpr ⟨List.mem_of_getElem? (i := 0) rfl, (List.forall_mem_cons.mpr ⟨List.mem_of_getElem? (i := 1) rfl, (List.forall_mem_cons.mpr ⟨List.mem_of_getElem? (i := 2) rfl, (List.forall_mem_cons.mpr ⟨List.mem_of_getElem? (i := 3) rfl, (List.forall_mem_cons.mpr ⟨List.mem_of_getElem? (i := 4) rfl, (List.forall_mem_cons.mpr ⟨List.mem_of_getElem? (i := 5) rfl, (List.forall_mem_cons.mpr ⟨List.mem_of_getElem? (i := 6) rfl, (List.forall_mem_cons.mpr ⟨List.mem_of_getElem? (i := 7) rfl, (List.forall_mem_cons.mpr ⟨List.mem_of_getElem? (i := 8) rfl, (List.forall_mem_cons.mpr ⟨List.mem_of_getElem? (i := 9) rfl, (List.forall_mem_cons.mpr ⟨List.mem_of_getElem? (i := 10) rfl, (List.forall_mem_cons.mpr ⟨List.mem_of_getElem? (i := 11) rfl, (List.forall_mem_cons.mpr ⟨List.mem_of_getElem? (i := 12) rfl, (List.forall_mem_cons.mpr ⟨List.mem_of_getElem? (i := 13) rfl, (List.forall_mem_cons.mpr ⟨List.mem_of_getElem? (i := 14) rfl, (List.forall_mem_cons.mpr ⟨List.mem_of_getElem? (i := 15) rfl, (List.forall_mem_cons.mpr ⟨List.mem_of_getElem? (i := 16) rfl, (List.forall_mem_cons.mpr ⟨List.mem_of_getElem? (i := 17) rfl, (List.forall_mem_cons.mpr ⟨List.mem_of_getElem? (i := 18) rfl, (List.forall_mem_cons.mpr ⟨List.mem_of_getElem? (i := 19) rfl, (fun _ h => absurd h List.not_mem_nil)⟩)⟩)⟩)⟩)⟩)⟩)⟩)⟩)⟩)⟩)⟩)⟩)⟩)⟩)⟩)⟩)⟩)⟩)⟩)⟩) q hq)⟩
          rcases hinv with ⟨h1, h2⟩ | ⟨h1, h2, h3, h4, h5⟩
          · refine Or.inl ⟨h1, fun j hj w => ?_⟩
            by_cases e : j = i2
            · subst e
              exact c_225 w.1
            · exact h2 j (by omega) w
          · refine Or.inr ⟨by omega, h2, h3, h4, fun j hj1 hj2 w => ?_⟩
            by_cases e : j = i2
            · subst e
              exact c_225 w.1
            · exact h5 j hj1 (by omega) w
        ·
          refine y_aload_n hM hl 17 rfl rfl dL_law_228 ?_
          refine y_iconst hM dL_law_229 ?_
          refine y_iload hM hl 0 rfl dL_law_230 ?_
          refine y_imul hM dL_law_232 ?_
          refine y_iconst hM dL_law_233 ?_
          refine y_iadd hM dL_law_234 ?_
          refine y_iald hM hC hLK.1 rfl ⟨by omega, by omega⟩ (by decide) (x := T 50 0 (3 * i2 + 1)) (by rw [show (((3) * (((i2 : Nat) : Int))) + (1) : Int).toNat = 3 * i2 + 1 from by omega]) dL_law_235 ?_
          refine y_aload hM hl 11 rfl dL_law_236 ?_
          refine y_iconst hM dL_law_238 ?_
          refine y_iald hM hC hLK.2.2.2.2.2.2 rfl ⟨by omega, by omega⟩ (by decide) (x := T 0 0 5) (by rw [show ((3 : Int)).toNat = 3 from rfl, hg3]) dL_law_239 ?_
          refine y_icmp_ne hM (by constructor <;> omega) (by constructor <;> omega) (tgt := 247) dL_law_240 (by decide) (fun c_240 => ?_) (fun c_240 => ?_)
          ·
            refine lv_iinc (v := iI ((((i2 : Nat) : Int)) + (1))) (lv' := [(19, .int (iI ((((i2 : Nat) : Int)) + (1)))), (18, .int (iI (((a : Nat) : Int)))), (17, .int (iI (r_194))), (16, .int (iI ((100) + (r_181)))), (15, .int (iI (((k : Nat) : Int)))), (14, .int (iI (((sv : Nat) : Int)))), (13, .int (iI (((pv : Nat) : Int)))), (12, .int (iI (kd))), (11, .int (iI (yy))), (10, .int (iI (xx))), (9, .int (iI (((i : Nat) : Int)))), (8, .ref (ad 56 0)), (7, .ref (ad 55 0)), (6, .ref (ad 54 0)), (5, .ref (ad 53 0)), (4, .ref (ad 52 0)), (3, .ref (ad 51 0)), (2, .ref (ad 50 0)), (1, .ref (ad 0 0)), (0, .ref b)]) hM.1 hM.2.1 dL_law_247 hl (k := 0) rfl (iI_add _ _) (by decide) rfl (fun ls hl => ?_)
            refine lv_goto (tgt := 208) hM.1 hM.2.1 dL_law_250 (by decide) ?_
            have hz2 : (((i2 : Nat) : Int)) + (1) = ((i2 + 1 : Nat) : Int) := by omega
            rw [hz2] at hl
            refine ih (i2 + 1) a _ _ ls (by omega) hc2 hs2 ?_ ⟨hl.1, hl.2.1, fun q hq => hl.2.2 q ((List.forall_mem_cons.mpr ⟨List.mem_of_getElem? (i := 0) rfl, (List.forall_mem_cons.mpr ⟨List.mem_of_getElem? (i := 1) rfl, (List.forall_mem_cons.mpr ⟨List.mem_of_getElem? (i := 2) rfl, (List.forall_mem_cons.mpr ⟨List.mem_of_getElem? (i := 3) rfl, (List.forall_mem_cons.mpr ⟨List.mem_of_getElem? (i := 4) rfl, (List.forall_mem_cons.mpr ⟨List.mem_of_getElem? (i := 5) rfl, (List.forall_mem_cons.mpr ⟨List.mem_of_getElem? (i := 6) rfl, (List.forall_mem_cons.mpr ⟨List.mem_of_getElem? (i := 7) rfl, (List.forall_mem_cons.mpr ⟨List.mem_of_getElem? (i := 8) rfl, (List.forall_mem_cons.mpr ⟨List.mem_of_getElem? (i := 9) rfl, (List.forall_mem_cons.mpr ⟨List.mem_of_getElem? (i := 10) rfl, (List.forall_mem_cons.mpr ⟨List.mem_of_getElem? (i := 11) rfl, (List.forall_mem_cons.mpr ⟨List.mem_of_getElem? (i := 12) rfl, (List.forall_mem_cons.mpr ⟨List.mem_of_getElem? (i := 13) rfl, (List.forall_mem_cons.mpr ⟨List.mem_of_getElem? (i := 14) rfl, (List.forall_mem_cons.mpr ⟨List.mem_of_getElem? (i := 15) rfl, (List.forall_mem_cons.mpr ⟨List.mem_of_getElem? (i := 16) rfl, (List.forall_mem_cons.mpr ⟨List.mem_of_getElem? (i := 17) rfl, (List.forall_mem_cons.mpr ⟨List.mem_of_getElem? (i := 18) rfl, (List.forall_mem_cons.mpr ⟨List.mem_of_getElem? (i := 19) rfl, (fun _ h => absurd h List.not_mem_nil)⟩)⟩)⟩)⟩)⟩)⟩)⟩)⟩)⟩)⟩)⟩)⟩)⟩)⟩)⟩)⟩)⟩)⟩)⟩)⟩) q hq)⟩
            rcases hinv with ⟨h1, h2⟩ | ⟨h1, h2, h3, h4, h5⟩
            · refine Or.inl ⟨h1, fun j hj w => ?_⟩
              by_cases e : j = i2
              · subst e
                exact c_240 w.2
              · exact h2 j (by omega) w
            · refine Or.inr ⟨by omega, h2, h3, h4, fun j hj1 hj2 w => ?_⟩
              by_cases e : j = i2
              · subst e
                exact c_240 w.2
              · exact h5 j hj1 (by omega) w
          ·
            refine y_iload hM hl 0 rfl dL_law_243 ?_
            refine lv_istore (lv' := [(18, .int (iI (((i2 : Nat) : Int)))), (19, .int (iI (((i2 : Nat) : Int)))), (17, .int (iI (r_194))), (16, .int (iI ((100) + (r_181)))), (15, .int (iI (((k : Nat) : Int)))), (14, .int (iI (((sv : Nat) : Int)))), (13, .int (iI (((pv : Nat) : Int)))), (12, .int (iI (kd))), (11, .int (iI (yy))), (10, .int (iI (xx))), (9, .int (iI (((i : Nat) : Int)))), (8, .ref (ad 56 0)), (7, .ref (ad 55 0)), (6, .ref (ad 54 0)), (5, .ref (ad 53 0)), (4, .ref (ad 52 0)), (3, .ref (ad 51 0)), (2, .ref (ad 50 0)), (1, .ref (ad 0 0)), (0, .ref b)]) hM.1 hM.2.1 dL_law_245 hl (by decide) rfl (fun ls hl => ?_)
            refine lv_iinc (v := iI ((((i2 : Nat) : Int)) + (1))) (lv' := [(19, .int (iI ((((i2 : Nat) : Int)) + (1)))), (18, .int (iI (((i2 : Nat) : Int)))), (17, .int (iI (r_194))), (16, .int (iI ((100) + (r_181)))), (15, .int (iI (((k : Nat) : Int)))), (14, .int (iI (((sv : Nat) : Int)))), (13, .int (iI (((pv : Nat) : Int)))), (12, .int (iI (kd))), (11, .int (iI (yy))), (10, .int (iI (xx))), (9, .int (iI (((i : Nat) : Int)))), (8, .ref (ad 56 0)), (7, .ref (ad 55 0)), (6, .ref (ad 54 0)), (5, .ref (ad 53 0)), (4, .ref (ad 52 0)), (3, .ref (ad 51 0)), (2, .ref (ad 50 0)), (1, .ref (ad 0 0)), (0, .ref b)]) hM.1 hM.2.1 dL_law_247 hl (k := 1) rfl (iI_add _ _) (by decide) rfl (fun ls hl => ?_)
            refine lv_goto (tgt := 208) hM.1 hM.2.1 dL_law_250 (by decide) ?_
            have hz2 : (((i2 : Nat) : Int)) + (1) = ((i2 + 1 : Nat) : Int) := by omega
            rw [hz2] at hl
            exact ih (i2 + 1) i2 _ _ ls (by omega) hc2 hs2 (Or.inr ⟨by omega, by omega, by omega, by omega, fun j h1 h2 => by omega⟩) ⟨hl.1, hl.2.1, fun q hq => hl.2.2 q ((List.forall_mem_cons.mpr ⟨List.mem_of_getElem? (i := 0) rfl, (List.forall_mem_cons.mpr ⟨List.mem_of_getElem? (i := 1) rfl, (List.forall_mem_cons.mpr ⟨List.mem_of_getElem? (i := 2) rfl, (List.forall_mem_cons.mpr ⟨List.mem_of_getElem? (i := 3) rfl, (List.forall_mem_cons.mpr ⟨List.mem_of_getElem? (i := 4) rfl, (List.forall_mem_cons.mpr ⟨List.mem_of_getElem? (i := 5) rfl, (List.forall_mem_cons.mpr ⟨List.mem_of_getElem? (i := 6) rfl, (List.forall_mem_cons.mpr ⟨List.mem_of_getElem? (i := 7) rfl, (List.forall_mem_cons.mpr ⟨List.mem_of_getElem? (i := 8) rfl, (List.forall_mem_cons.mpr ⟨List.mem_of_getElem? (i := 9) rfl, (List.forall_mem_cons.mpr ⟨List.mem_of_getElem? (i := 10) rfl, (List.forall_mem_cons.mpr ⟨List.mem_of_getElem? (i := 11) rfl, (List.forall_mem_cons.mpr ⟨List.mem_of_getElem? (i := 12) rfl, (List.forall_mem_cons.mpr ⟨List.mem_of_getElem? (i := 13) rfl, (List.forall_mem_cons.mpr ⟨List.mem_of_getElem? (i := 14) rfl, (List.forall_mem_cons.mpr ⟨List.mem_of_getElem? (i := 15) rfl, (List.forall_mem_cons.mpr ⟨List.mem_of_getElem? (i := 16) rfl, (List.forall_mem_cons.mpr ⟨List.mem_of_getElem? (i := 17) rfl, (List.forall_mem_cons.mpr ⟨List.mem_of_getElem? (i := 18) rfl, (List.forall_mem_cons.mpr ⟨List.mem_of_getElem? (i := 19) rfl, (fun _ h => absurd h List.not_mem_nil)⟩)⟩)⟩)⟩)⟩)⟩)⟩)⟩)⟩)⟩)⟩)⟩)⟩)⟩)⟩)⟩)⟩)⟩)⟩)⟩) q hq)⟩
    exact hloop N_ 0 N_ _ _ ls (by omega) (by omega) (by omega) (Or.inl ⟨rfl, fun j hj => absurd hj (by omega)⟩) hl
  ·
    refine y_sipush hM dL_law_172 (by decide) ?_
    refine lv_goto (tgt := 181) hM.1 hM.2.1 dL_law_175 (by decide) ?_
    refine y_callS hM hC (c_L_low l hfl G b0 (ks, ad, T, P) (z_159) (9901) ⟨by omega, by omega⟩) (va_cwS 2 hM.2.2.2.2 gL_law_L_low rfl rfl rfl (by decide +kernel) ⟨(Nat.le_of_ble_eq_true rfl), (Nat.le_of_ble_eq_true rfl)⟩) rfl hl.1 rfl (Nat.le_of_ble_eq_true rfl) dL_law_181 ⟨(show _ ≤ 602294 by omega), (show _ ≤ 7294300 by omega)⟩ (fun E ce q9 u1 H locs hx hC hce hcv hcl => hx.elim) (fun v u1 H locs hp hC => ?_)
    obtain ⟨r_181, rfl, h_181, hu⟩ := hp; rw [hu] at hC; clear hu
    try dsimp only at h_181
    refine W.eq (g2 := F0 m 184 ls [.int (iI (r_181)), .int (iI (100))]) rfl ?_
    refine y_iadd hM dL_law_184 ?_
    refine lv_istore (lv' := [(16, .int (iI ((100) + (r_181)))), (15, .int (iI (((k : Nat) : Int)))), (14, .int (iI (((sv : Nat) : Int)))), (13, .int (iI (((pv : Nat) : Int)))), (12, .int (iI (kd))), (11, .int (iI (yy))), (10, .int (iI (xx))), (9, .int (iI (((i : Nat) : Int)))), (8, .ref (ad 56 0)), (7, .ref (ad 55 0)), (6, .ref (ad 54 0)), (5, .ref (ad 53 0)), (4, .ref (ad 52 0)), (3, .ref (ad 51 0)), (2, .ref (ad 50 0)), (1, .ref (ad 0 0)), (0, .ref b)]) hM.1 hM.2.1 dL_law_185 hl (by decide) rfl (fun ls hl => ?_)
    refine y_aload_n hM hl 14 rfl rfl dL_law_187 ?_
    refine y_iload hM hl 3 rfl dL_law_188 ?_
    refine y_aload hM hl 8 rfl dL_law_190 ?_
    refine y_iconst hM dL_law_192 ?_
    refine y_iald hM hC hLK.2.2.2.2.2.2 rfl ⟨by omega, by omega⟩ (by decide) (x := T 0 0 5) (by rw [show ((3 : Int)).toNat = 3 from rfl, hg3]) dL_law_193 ?_
    refine y_callS hM hC (c_L_price l hfl G b0 ks ad T P (((pv : Nat) : Int)) (T 0 0 5) ⟨by omega, by omega⟩ ⟨by omega, by omega⟩ hLK.1 hRP) (va_cwS 3 hM.2.2.2.2 gL_law_L_price rfl rfl rfl (by decide +kernel) ⟨(Nat.le_of_ble_eq_true rfl), (Nat.le_of_ble_eq_true rfl)⟩) rfl hl.1 rfl (Nat.le_of_ble_eq_true rfl) dL_law_194 ⟨(show _ ≤ 602294 by omega), (show _ ≤ 7294300 by omega)⟩ (fun E ce q9 u1 H locs hx hC hce hcv hcl => hx.elim) (fun v u1 H locs hp hC => ?_)
    obtain ⟨r_194, rfl, h_194, hu⟩ := hp; rw [hu] at hC; clear hu
    try dsimp only at h_194
    refine W.eq (g2 := F0 m 197 ls [.int (iI (r_194))]) rfl ?_
    rw [Int.toNat_natCast] at h_194
    have hv_194 := valT_in hRN (p := pv) hpv (T 0 0 5)
    refine lv_istore (lv' := [(17, .int (iI (r_194))), (16, .int (iI ((100) + (r_181)))), (15, .int (iI (((k : Nat) : Int)))), (14, .int (iI (((sv : Nat) : Int)))), (13, .int (iI (((pv : Nat) : Int)))), (12, .int (iI (kd))), (11, .int (iI (yy))), (10, .int (iI (xx))), (9, .int (iI (((i : Nat) : Int)))), (8, .ref (ad 56 0)), (7, .ref (ad 55 0)), (6, .ref (ad 54 0)), (5, .ref (ad 53 0)), (4, .ref (ad 52 0)), (3, .ref (ad 51 0)), (2, .ref (ad 50 0)), (1, .ref (ad 0 0)), (0, .ref b)]) hM.1 hM.2.1 dL_law_197 hl (by decide) rfl (fun ls hl => ?_)
    refine y_aload hM hl 9 rfl dL_law_199 ?_
    refine y_iconst hM dL_law_201 ?_
    refine y_iald hM hC hLK.2.2.2.2.2.2 rfl ⟨by omega, by omega⟩ (by decide) (x := ((N_ : Nat) : Int)) (by rw [show ((0 : Int)).toNat = 0 from rfl, hgN]) dL_law_202 ?_
    refine lv_istore (lv' := [(18, .int (iI (((N_ : Nat) : Int)))), (17, .int (iI (r_194))), (16, .int (iI ((100) + (r_181)))), (15, .int (iI (((k : Nat) : Int)))), (14, .int (iI (((sv : Nat) : Int)))), (13, .int (iI (((pv : Nat) : Int)))), (12, .int (iI (kd))), (11, .int (iI (yy))), (10, .int (iI (xx))), (9, .int (iI (((i : Nat) : Int)))), (8, .ref (ad 56 0)), (7, .ref (ad 55 0)), (6, .ref (ad 54 0)), (5, .ref (ad 53 0)), (4, .ref (ad 52 0)), (3, .ref (ad 51 0)), (2, .ref (ad 50 0)), (1, .ref (ad 0 0)), (0, .ref b)]) hM.1 hM.2.1 dL_law_203 hl (by decide) rfl (fun ls hl => ?_)
    refine y_iconst hM dL_law_205 ?_
    refine lv_istore (lv' := [(19, .int (iI (0))), (18, .int (iI (((N_ : Nat) : Int)))), (17, .int (iI (r_194))), (16, .int (iI ((100) + (r_181)))), (15, .int (iI (((k : Nat) : Int)))), (14, .int (iI (((sv : Nat) : Int)))), (13, .int (iI (((pv : Nat) : Int)))), (12, .int (iI (kd))), (11, .int (iI (yy))), (10, .int (iI (xx))), (9, .int (iI (((i : Nat) : Int)))), (8, .ref (ad 56 0)), (7, .ref (ad 55 0)), (6, .ref (ad 54 0)), (5, .ref (ad 53 0)), (4, .ref (ad 52 0)), (3, .ref (ad 51 0)), (2, .ref (ad 50 0)), (1, .ref (ad 0 0)), (0, .ref b)]) hM.1 hM.2.1 dL_law_206 hl (by decide) rfl (fun ls hl => ?_)
    have hloop : ∀ (m_ i2 a : Nat) (cells2 slots2 : Nat) (ls : Array Slot), i2 + m_ = N_ → cells2 ≤ cells → slots2 ≤ slots → ((a = N_ ∧ ∀ j : Nat, j < i2 → ¬ (T 50 0 (3 * j) = (pv : Int) ∧ T 50 0 (3 * j + 1) = T 0 0 5)) ∨ (a < i2 ∧ a < N_ ∧ T 50 0 (3 * a) = (pv : Int) ∧ T 50 0 (3 * a + 1) = T 0 0 5 ∧ ∀ j : Nat, a < j → j < i2 → ¬ (T 50 0 (3 * j) = (pv : Int) ∧ T 50 0 (3 * j + 1) = T 0 0 5))) → lv_has ls 30 [(19, .int (iI (((i2 : Nat) : Int)))), (18, .int (iI (((a : Nat) : Int)))), (17, .int (iI (r_194))), (16, .int (iI ((100) + (r_181)))), (15, .int (iI (((k : Nat) : Int)))), (14, .int (iI (((sv : Nat) : Int)))), (13, .int (iI (((pv : Nat) : Int)))), (12, .int (iI (kd))), (11, .int (iI (yy))), (10, .int (iI (xx))), (9, .int (iI (((i : Nat) : Int)))), (8, .ref (ad 56 0)), (7, .ref (ad 55 0)), (6, .ref (ad 54 0)), (5, .ref (ad 53 0)), (4, .ref (ad 52 0)), (3, .ref (ad 51 0)), (2, .ref (ad 50 0)), (1, .ref (ad 0 0)), (0, .ref b)] → W p l e room_1 s m #[Value.ref b] below meth c H locs cells2 slots2 Q (F0 m 208 ls []) := by
      intro m_
      induction m_ with
      | zero =>
        intro i2 a cells2 slots2 ls hn hc2 hs2 hinv hl
        rw [show i2 = N_ by omega] at hinv
        refine y_iload hM hl 0 rfl dL_law_208 ?_
        refine y_aload hM hl 11 rfl dL_law_210 ?_
        refine y_iconst hM dL_law_212 ?_
        refine y_iald hM hC hLK.2.2.2.2.2.2 rfl ⟨by omega, by omega⟩ (by decide) (x := ((N_ : Nat) : Int)) (by rw [show ((0 : Int)).toNat = 0 from rfl, hgN]) dL_law_213 ?_
        refine y_icmp_ge hM (by constructor <;> omega) (by constructor <;> omega) (tgt := 253) dL_law_214 (by decide) (fun c_214 => ?_) (fun c_214 => False.elim (by omega))
        refine y_iload hM hl 1 rfl dL_law_253 ?_
        refine y_bipush hM dL_law_255 (by decide) ?_
        refine y_icmp_ne hM (by constructor <;> omega) (by constructor <;> omega) (tgt := 263) dL_law_257 (by decide) (fun c_257 => ?_) (fun c_257 => ?_)
        ·
          refine y_aload hM hl 11 rfl dL_law_263 ?_
          refine y_iconst hM dL_law_265 ?_
          refine lv_dup2_11 hM.1 hM.2.1 dL_law_266 rfl rfl ?_
          refine y_iald hM hC hLK.2.2.2.2.2.2 rfl ⟨by omega, by omega⟩ (by decide) (x := ((N_ : Nat) : Int)) (by rw [show ((0 : Int)).toNat = 0 from rfl, hgN]) dL_law_267 ?_
          refine y_iload hM hl 1 rfl dL_law_268 ?_
          refine y_aload hM hl 11 rfl dL_law_270 ?_
          refine y_iconst hM dL_law_272 ?_
          refine y_iald hM hC hLK.2.2.2.2.2.2 rfl ⟨by omega, by omega⟩ (by decide) (x := ((N_ : Nat) : Int)) (by rw [show ((0 : Int)).toNat = 0 from rfl, hgN]) dL_law_273 ?_
          refine y_icmp_ne hM (by constructor <;> omega) (by constructor <;> omega) (tgt := 281) dL_law_274 (by decide) (fun c_274 => ?_) (fun c_274 => ?_)
          ·
            refine y_iconst hM dL_law_281 ?_
            refine y_iadd hM dL_law_282 ?_
            refine y_iast hM hC hLK.2.2.2.2.2.2 (fun _ _ => rfl) ⟨by omega, by omega⟩ (by decide) dL_law_283 (fun H locs hC => ?_)
            rw [show ((0 : Int)).toNat = 0 from rfl] at hC
            refine y_aload_n hM hl 17 rfl rfl dL_law_284 ?_
            refine y_iconst hM dL_law_285 ?_
            refine y_iload hM hl 1 rfl dL_law_286 ?_
            refine y_imul hM dL_law_288 ?_
            refine y_iload hM hl 6 rfl dL_law_289 ?_
            refine y_iast hM hC hLK.1 (fun _ _ => rfl) ⟨by omega, by omega⟩ (by decide) dL_law_291 (fun H locs hC => ?_)
            rw [show ((3) * (((a : Nat) : Int)) : Int).toNat = 3 * a from by omega] at hC
            refine y_aload_n hM hl 17 rfl rfl dL_law_292 ?_
            refine y_iconst hM dL_law_293 ?_
            refine y_iload hM hl 1 rfl dL_law_294 ?_
            refine y_imul hM dL_law_296 ?_
            refine y_iconst hM dL_law_297 ?_
            refine y_iadd hM dL_law_298 ?_
            refine y_aload hM hl 11 rfl dL_law_299 ?_
            refine y_iconst hM dL_law_301 ?_
            refine y_iald hM hC hLK.2.2.2.2.2.2 rfl ⟨by omega, by omega⟩ (by decide) (x := T 0 0 5) (by rw [show ((3 : Int)).toNat = 3 from rfl, up_of (by omega), up_of (by omega), hg3]) dL_law_302 ?_
            refine y_iast hM hC hLK.1 (fun _ _ => rfl) ⟨by omega, by omega⟩ (by decide) dL_law_303 (fun H locs hC => ?_)
            rw [show (((3) * (((a : Nat) : Int))) + (1) : Int).toNat = 3 * a + 1 from by omega] at hC
            refine y_aload_n hM hl 17 rfl rfl dL_law_304 ?_
            refine y_iconst hM dL_law_305 ?_
            refine y_iload hM hl 1 rfl dL_law_306 ?_
            refine y_imul hM dL_law_308 ?_
            refine y_iconst hM dL_law_309 ?_
            refine y_iadd hM dL_law_310 ?_
            refine y_iload hM hl 3 rfl dL_law_311 ?_
            refine y_iast hM hC hLK.1 (fun _ _ => rfl) ⟨by omega, by omega⟩ (by decide) dL_law_313 (fun H locs hC => ?_)
            rw [show (((3) * (((a : Nat) : Int))) + (2) : Int).toNat = 3 * a + 2 from by omega] at hC
            refine y_aload_n hM hl 18 rfl rfl dL_law_314 ?_
            refine y_iload hM hl 6 rfl dL_law_315 ?_
            refine y_iload hM hl 3 rfl dL_law_317 ?_
            obtain ⟨T1, hT1⟩ : ∃ X : TT, X = (up (up (up (up T 56 0 (0) ((((N_ : Nat) : Int)) + (0))) 50 0 (3 * a) (((pv : Nat) : Int))) 50 0 (3 * a + 1) (T 0 0 5)) 50 0 (3 * a + 2) ((100) + (r_181))) := ⟨_, rfl⟩
            rw [← hT1] at hC
            have hlo : LoE T1 T := by
              rw [hT1]
              exact ((((LoE.r.hi (by decide)).hi (by decide)).hi (by decide)).hi (by decide))
            obtain ⟨hCK1, hNC1, hR1, hz1⟩ := hI.mid hlo
            obtain ⟨hF1, hRK1, hSK1, hOK1, hKF1, hLK1⟩ := id hCK1
            obtain ⟨hRN1, hDN1, hSN1, hON1, -, -, -⟩ := id hNC1
            have h05 : T1 0 0 5 = T 0 0 5 := by rw [hz1]
            have h06 : T1 0 0 6 = T 0 0 6 := by rw [hz1]
            have h07 : T1 0 0 7 = T 0 0 7 := by rw [hz1]
            have h08 : T1 0 0 8 = T 0 0 8 := by rw [hz1]
            have h62 : T1 6 (((pv : Nat) : Int)).toNat 2 ≤ 20 := by
              rw [Int.toNat_natCast, hlo 6 pv (by omega)]
              have h1 := (hRP.2.2 pv hpv).1
              omega
            refine y_callV hM hC (c_setPrice l hfl G b0 ks ad T1 P (((pv : Nat) : Int)) ((100) + (r_181)) ⟨by omega, by omega⟩ ⟨by omega, by omega⟩ hF1 hRK1 hRN1 hDN1) (cwV 2 hM.2.2.2.2 gL_law_X3_setPrice rfl rfl rfl (by decide +kernel) ⟨(Nat.le_of_ble_eq_true rfl), (Nat.le_of_ble_eq_true rfl)⟩) (y_recv hC hF1.1 rfl rfl) rfl hl.1 rfl (Nat.le_of_ble_eq_true rfl) dL_law_319 ⟨(show _ ≤ 602294 by omega), (show _ ≤ 7294300 by omega)⟩ (fun E ce q9 u1 H locs hx hC hce hcv hcl => by
                obtain ⟨x, rfl, hx, hu⟩ := hx; rw [hu] at hC; clear hu; try dsimp only at hx
                exact False.elim (by omega)) (fun v u1 H locs hp hC => ?_)
            obtain ⟨r_319, rfl, h_319, hu⟩ := hp; rw [hu] at hC; clear hu
            try dsimp only at h_319
            refine W.eq (g2 := F0 m 322 ls [.int (iI (r_319))]) rfl ?_
            have e_319 : r_319 = valT T pv (T 0 0 5) := by rw [h_319.1, Int.toNat_natCast, valT_lo hlo, h05]
            refine y_iload hM hl 2 rfl dL_law_322 ?_
            refine y_icmp_eq hM (by constructor <;> omega) (by constructor <;> omega) (tgt := 329) dL_law_324 (by decide) (fun c_324 => ?_) (fun c_324 => False.elim (by omega))
            refine lv_goto (tgt := 1608) hM.1 hM.2.1 dL_law_329 (by decide) ?_
            rw [Int.toNat_natCast] at hC
            exact kk _ _ _ _ _ _ _ _ ls (by omega) (by omega) hC (op_put hI hpv ⟨by omega, by omega⟩ (by omega) (by
                rcases hinv with ⟨h1, h2⟩ | ⟨h1, h2, h3, h4, h5⟩
                · exact False.elim (by omega)
                · exact Or.inr ⟨by omega, by omega, h3, h4, fun j q1 q2 => h5 j q1 (by omega)⟩) hT1) ⟨hl.1, hl.2.1, fun q hq => hl.2.2 q ((List.forall_mem_cons.mpr ⟨List.mem_of_getElem? (i := 8) rfl, (List.forall_mem_cons.mpr ⟨List.mem_of_getElem? (i := 10) rfl, (List.forall_mem_cons.mpr ⟨List.mem_of_getElem? (i := 11) rfl, (List.forall_mem_cons.mpr ⟨List.mem_of_getElem? (i := 12) rfl, (List.forall_mem_cons.mpr ⟨List.mem_of_getElem? (i := 13) rfl, (List.forall_mem_cons.mpr ⟨List.mem_of_getElem? (i := 14) rfl, (List.forall_mem_cons.mpr ⟨List.mem_of_getElem? (i := 15) rfl, (List.forall_mem_cons.mpr ⟨List.mem_of_getElem? (i := 16) rfl, (List.forall_mem_cons.mpr ⟨List.mem_of_getElem? (i := 17) rfl, (List.forall_mem_cons.mpr ⟨List.mem_of_getElem? (i := 18) rfl, (List.forall_mem_cons.mpr ⟨List.mem_of_getElem? (i := 19) rfl, (fun _ h => absurd h List.not_mem_nil)⟩)⟩)⟩)⟩)⟩)⟩)⟩)⟩)⟩)⟩)⟩) q hq)⟩
          ·
            refine y_iconst hM dL_law_277 ?_
            refine lv_goto (tgt := 282) hM.1 hM.2.1 dL_law_278 (by decide) ?_
            refine y_iadd hM dL_law_282 ?_
            refine y_iast hM hC hLK.2.2.2.2.2.2 (fun _ _ => rfl) ⟨by omega, by omega⟩ (by decide) dL_law_283 (fun H locs hC => ?_)
            rw [show ((0 : Int)).toNat = 0 from rfl] at hC
            refine y_aload_n hM hl 17 rfl rfl dL_law_284 ?_
            refine y_iconst hM dL_law_285 ?_
            refine y_iload hM hl 1 rfl dL_law_286 ?_
            refine y_imul hM dL_law_288 ?_
            refine y_iload hM hl 6 rfl dL_law_289 ?_
            refine y_iast hM hC hLK.1 (fun _ _ => rfl) ⟨by omega, by omega⟩ (by decide) dL_law_291 (fun H locs hC => ?_)
            rw [show ((3) * (((a : Nat) : Int)) : Int).toNat = 3 * a from by omega] at hC
            refine y_aload_n hM hl 17 rfl rfl dL_law_292 ?_
            refine y_iconst hM dL_law_293 ?_
            refine y_iload hM hl 1 rfl dL_law_294 ?_
            refine y_imul hM dL_law_296 ?_
            refine y_iconst hM dL_law_297 ?_
            refine y_iadd hM dL_law_298 ?_
            refine y_aload hM hl 11 rfl dL_law_299 ?_
            refine y_iconst hM dL_law_301 ?_
            refine y_iald hM hC hLK.2.2.2.2.2.2 rfl ⟨by omega, by omega⟩ (by decide) (x := T 0 0 5) (by rw [show ((3 : Int)).toNat = 3 from rfl, up_of (by omega), up_of (by omega), hg3]) dL_law_302 ?_
            refine y_iast hM hC hLK.1 (fun _ _ => rfl) ⟨by omega, by omega⟩ (by decide) dL_law_303 (fun H locs hC => ?_)
            rw [show (((3) * (((a : Nat) : Int))) + (1) : Int).toNat = 3 * a + 1 from by omega] at hC
            refine y_aload_n hM hl 17 rfl rfl dL_law_304 ?_
            refine y_iconst hM dL_law_305 ?_
            refine y_iload hM hl 1 rfl dL_law_306 ?_
            refine y_imul hM dL_law_308 ?_
            refine y_iconst hM dL_law_309 ?_
            refine y_iadd hM dL_law_310 ?_
            refine y_iload hM hl 3 rfl dL_law_311 ?_
            refine y_iast hM hC hLK.1 (fun _ _ => rfl) ⟨by omega, by omega⟩ (by decide) dL_law_313 (fun H locs hC => ?_)
            rw [show (((3) * (((a : Nat) : Int))) + (2) : Int).toNat = 3 * a + 2 from by omega] at hC
            refine y_aload_n hM hl 18 rfl rfl dL_law_314 ?_
            refine y_iload hM hl 6 rfl dL_law_315 ?_
            refine y_iload hM hl 3 rfl dL_law_317 ?_
            obtain ⟨T1, hT1⟩ : ∃ X : TT, X = (up (up (up (up T 56 0 (0) ((((N_ : Nat) : Int)) + (1))) 50 0 (3 * a) (((pv : Nat) : Int))) 50 0 (3 * a + 1) (T 0 0 5)) 50 0 (3 * a + 2) ((100) + (r_181))) := ⟨_, rfl⟩
            rw [← hT1] at hC
            have hlo : LoE T1 T := by
              rw [hT1]
              exact ((((LoE.r.hi (by decide)).hi (by decide)).hi (by decide)).hi (by decide))
            obtain ⟨hCK1, hNC1, hR1, hz1⟩ := hI.mid hlo
            obtain ⟨hF1, hRK1, hSK1, hOK1, hKF1, hLK1⟩ := id hCK1
            obtain ⟨hRN1, hDN1, hSN1, hON1, -, -, -⟩ := id hNC1
            have h05 : T1 0 0 5 = T 0 0 5 := by rw [hz1]
            have h06 : T1 0 0 6 = T 0 0 6 := by rw [hz1]
            have h07 : T1 0 0 7 = T 0 0 7 := by rw [hz1]
            have h08 : T1 0 0 8 = T 0 0 8 := by rw [hz1]
            have h62 : T1 6 (((pv : Nat) : Int)).toNat 2 ≤ 20 := by
              rw [Int.toNat_natCast, hlo 6 pv (by omega)]
              have h1 := (hRP.2.2 pv hpv).1
              omega
            refine y_callV hM hC (c_setPrice l hfl G b0 ks ad T1 P (((pv : Nat) : Int)) ((100) + (r_181)) ⟨by omega, by omega⟩ ⟨by omega, by omega⟩ hF1 hRK1 hRN1 hDN1) (cwV 2 hM.2.2.2.2 gL_law_X3_setPrice rfl rfl rfl (by decide +kernel) ⟨(Nat.le_of_ble_eq_true rfl), (Nat.le_of_ble_eq_true rfl)⟩) (y_recv hC hF1.1 rfl rfl) rfl hl.1 rfl (Nat.le_of_ble_eq_true rfl) dL_law_319 ⟨(show _ ≤ 602294 by omega), (show _ ≤ 7294300 by omega)⟩ (fun E ce q9 u1 H locs hx hC hce hcv hcl => by
                obtain ⟨x, rfl, hx, hu⟩ := hx; rw [hu] at hC; clear hu; try dsimp only at hx
                exact False.elim (by omega)) (fun v u1 H locs hp hC => ?_)
            obtain ⟨r_319, rfl, h_319, hu⟩ := hp; rw [hu] at hC; clear hu
            try dsimp only at h_319
            refine W.eq (g2 := F0 m 322 ls [.int (iI (r_319))]) rfl ?_
            have e_319 : r_319 = valT T pv (T 0 0 5) := by rw [h_319.1, Int.toNat_natCast, valT_lo hlo, h05]
            refine y_iload hM hl 2 rfl dL_law_322 ?_
            refine y_icmp_eq hM (by constructor <;> omega) (by constructor <;> omega) (tgt := 329) dL_law_324 (by decide) (fun c_324 => ?_) (fun c_324 => False.elim (by omega))
            refine lv_goto (tgt := 1608) hM.1 hM.2.1 dL_law_329 (by decide) ?_
            rw [Int.toNat_natCast] at hC
            exact kk _ _ _ _ _ _ _ _ ls (by omega) (by omega) hC (op_put hI hpv ⟨by omega, by omega⟩ (by omega) (by
                rcases hinv with ⟨h1, h2⟩ | ⟨h1, h2, h3, h4, h5⟩
                · exact Or.inl ⟨by omega, by omega, fun j hj => h2 j (by omega)⟩
                · exact False.elim (by omega)) hT1) ⟨hl.1, hl.2.1, fun q hq => hl.2.2 q ((List.forall_mem_cons.mpr ⟨List.mem_of_getElem? (i := 8) rfl, (List.forall_mem_cons.mpr ⟨List.mem_of_getElem? (i := 10) rfl, (List.forall_mem_cons.mpr ⟨List.mem_of_getElem? (i := 11) rfl, (List.forall_mem_cons.mpr ⟨List.mem_of_getElem? (i := 12) rfl, (List.forall_mem_cons.mpr ⟨List.mem_of_getElem? (i := 13) rfl, (List.forall_mem_cons.mpr ⟨List.mem_of_getElem? (i := 14) rfl, (List.forall_mem_cons.mpr ⟨List.mem_of_getElem? (i := 15) rfl, (List.forall_mem_cons.mpr ⟨List.mem_of_getElem? (i := 16) rfl, (List.forall_mem_cons.mpr ⟨List.mem_of_getElem? (i := 17) rfl, (List.forall_mem_cons.mpr ⟨List.mem_of_getElem? (i := 18) rfl, (List.forall_mem_cons.mpr ⟨List.mem_of_getElem? (i := 19) rfl, (fun _ h => absurd h List.not_mem_nil)⟩)⟩)⟩)⟩)⟩)⟩)⟩)⟩)⟩)⟩)⟩) q hq)⟩
        ·
          refine lv_goto (tgt := 1643) hM.1 hM.2.1 dL_law_260 (by decide) ?_
          exact kn _ _ _ _ _ _ _ _ ls (by omega) (by omega) hC hI ⟨hl.1, hl.2.1, fun q hq => hl.2.2 q ((List.forall_mem_cons.mpr ⟨List.mem_of_getElem? (i := 10) rfl, (List.forall_mem_cons.mpr ⟨List.mem_of_getElem? (i := 11) rfl, (List.forall_mem_cons.mpr ⟨List.mem_of_getElem? (i := 12) rfl, (List.forall_mem_cons.mpr ⟨List.mem_of_getElem? (i := 13) rfl, (List.forall_mem_cons.mpr ⟨List.mem_of_getElem? (i := 14) rfl, (List.forall_mem_cons.mpr ⟨List.mem_of_getElem? (i := 15) rfl, (List.forall_mem_cons.mpr ⟨List.mem_of_getElem? (i := 16) rfl, (List.forall_mem_cons.mpr ⟨List.mem_of_getElem? (i := 17) rfl, (List.forall_mem_cons.mpr ⟨List.mem_of_getElem? (i := 18) rfl, (List.forall_mem_cons.mpr ⟨List.mem_of_getElem? (i := 19) rfl, (fun _ h => absurd h List.not_mem_nil)⟩)⟩)⟩)⟩)⟩)⟩)⟩)⟩)⟩)⟩) q hq)⟩
      | succ m_ ih =>
        intro i2 a cells2 slots2 ls hn hc2 hs2 hinv hl
        have hp := hRP.1.2.1 i2 (by rw [hgN]; omega)
        refine y_iload hM hl 0 rfl dL_law_208 ?_
        refine y_aload hM hl 11 rfl dL_law_210 ?_
        refine y_iconst hM dL_law_212 ?_
        refine y_iald hM hC hLK.2.2.2.2.2.2 rfl ⟨by omega, by omega⟩ (by decide) (x := ((N_ : Nat) : Int)) (by rw [show ((0 : Int)).toNat = 0 from rfl, hgN]) dL_law_213 ?_
        refine y_icmp_ge hM (by constructor <;> omega) (by constructor <;> omega) (tgt := 253) dL_law_214 (by decide) (fun c_214 => False.elim (by omega)) (fun c_214 => ?_)
        refine y_aload_n hM hl 17 rfl rfl dL_law_217 ?_
        refine y_iconst hM dL_law_218 ?_
        refine y_iload hM hl 0 rfl dL_law_219 ?_
        refine y_imul hM dL_law_221 ?_
        refine y_iald hM hC hLK.1 rfl ⟨by omega, by omega⟩ (by decide) (x := T 50 0 (3 * i2)) (by rw [show ((3) * (((i2 : Nat) : Int)) : Int).toNat = 3 * i2 from by omega]) dL_law_222 ?_
        refine y_iload hM hl 6 rfl dL_law_223 ?_
        refine y_icmp_ne hM (by constructor <;> omega) (by constructor <;> omega) (tgt := 247) dL_law_225 (by decide) (fun c_225 => ?_) (fun c_225 => ?_)
        ·
          refine lv_iinc (v := iI ((((i2 : Nat) : Int)) + (1))) (lv' := [(19, .int (iI ((((i2 : Nat) : Int)) + (1)))), (18, .int (iI (((a : Nat) : Int)))), (17, .int (iI (r_194))), (16, .int (iI ((100) + (r_181)))), (15, .int (iI (((k : Nat) : Int)))), (14, .int (iI (((sv : Nat) : Int)))), (13, .int (iI (((pv : Nat) : Int)))), (12, .int (iI (kd))), (11, .int (iI (yy))), (10, .int (iI (xx))), (9, .int (iI (((i : Nat) : Int)))), (8, .ref (ad 56 0)), (7, .ref (ad 55 0)), (6, .ref (ad 54 0)), (5, .ref (ad 53 0)), (4, .ref (ad 52 0)), (3, .ref (ad 51 0)), (2, .ref (ad 50 0)), (1, .ref (ad 0 0)), (0, .ref b)]) hM.1 hM.2.1 dL_law_247 hl (k := 0) rfl (iI_add _ _) (by decide) rfl (fun ls hl => ?_)
          refine lv_goto (tgt := 208) hM.1 hM.2.1 dL_law_250 (by decide) ?_
          have hz2 : (((i2 : Nat) : Int)) + (1) = ((i2 + 1 : Nat) : Int) := by omega
          rw [hz2] at hl
          refine ih (i2 + 1) a _ _ ls (by omega) hc2 hs2 ?_ ⟨hl.1, hl.2.1, fun q hq => hl.2.2 q ((List.forall_mem_cons.mpr ⟨List.mem_of_getElem? (i := 0) rfl, (List.forall_mem_cons.mpr ⟨List.mem_of_getElem? (i := 1) rfl, (List.forall_mem_cons.mpr ⟨List.mem_of_getElem? (i := 2) rfl, (List.forall_mem_cons.mpr ⟨List.mem_of_getElem? (i := 3) rfl, (List.forall_mem_cons.mpr ⟨List.mem_of_getElem? (i := 4) rfl, (List.forall_mem_cons.mpr ⟨List.mem_of_getElem? (i := 5) rfl, (List.forall_mem_cons.mpr ⟨List.mem_of_getElem? (i := 6) rfl, (List.forall_mem_cons.mpr ⟨List.mem_of_getElem? (i := 7) rfl, (List.forall_mem_cons.mpr ⟨List.mem_of_getElem? (i := 8) rfl, (List.forall_mem_cons.mpr ⟨List.mem_of_getElem? (i := 9) rfl, (List.forall_mem_cons.mpr ⟨List.mem_of_getElem? (i := 10) rfl, (List.forall_mem_cons.mpr ⟨List.mem_of_getElem? (i := 11) rfl, (List.forall_mem_cons.mpr ⟨List.mem_of_getElem? (i := 12) rfl, (List.forall_mem_cons.mpr ⟨List.mem_of_getElem? (i := 13) rfl, (List.forall_mem_cons.mpr ⟨List.mem_of_getElem? (i := 14) rfl, (List.forall_mem_cons.mpr ⟨List.mem_of_getElem? (i := 15) rfl, (List.forall_mem_cons.mpr ⟨List.mem_of_getElem? (i := 16) rfl, (List.forall_mem_cons.mpr ⟨List.mem_of_getElem? (i := 17) rfl, (List.forall_mem_cons.mpr ⟨List.mem_of_getElem? (i := 18) rfl, (List.forall_mem_cons.mpr ⟨List.mem_of_getElem? (i := 19) rfl, (fun _ h => absurd h List.not_mem_nil)⟩)⟩)⟩)⟩)⟩)⟩)⟩)⟩)⟩)⟩)⟩)⟩)⟩)⟩)⟩)⟩)⟩)⟩)⟩)⟩) q hq)⟩
          rcases hinv with ⟨h1, h2⟩ | ⟨h1, h2, h3, h4, h5⟩
          · refine Or.inl ⟨h1, fun j hj w => ?_⟩
            by_cases e : j = i2
            · subst e
              exact c_225 w.1
            · exact h2 j (by omega) w
          · refine Or.inr ⟨by omega, h2, h3, h4, fun j hj1 hj2 w => ?_⟩
            by_cases e : j = i2
            · subst e
              exact c_225 w.1
            · exact h5 j hj1 (by omega) w
        ·
          refine y_aload_n hM hl 17 rfl rfl dL_law_228 ?_
          refine y_iconst hM dL_law_229 ?_
          refine y_iload hM hl 0 rfl dL_law_230 ?_
          refine y_imul hM dL_law_232 ?_
          refine y_iconst hM dL_law_233 ?_
          refine y_iadd hM dL_law_234 ?_
          refine y_iald hM hC hLK.1 rfl ⟨by omega, by omega⟩ (by decide) (x := T 50 0 (3 * i2 + 1)) (by rw [show (((3) * (((i2 : Nat) : Int))) + (1) : Int).toNat = 3 * i2 + 1 from by omega]) dL_law_235 ?_
          refine y_aload hM hl 11 rfl dL_law_236 ?_
          refine y_iconst hM dL_law_238 ?_
          refine y_iald hM hC hLK.2.2.2.2.2.2 rfl ⟨by omega, by omega⟩ (by decide) (x := T 0 0 5) (by rw [show ((3 : Int)).toNat = 3 from rfl, hg3]) dL_law_239 ?_
          refine y_icmp_ne hM (by constructor <;> omega) (by constructor <;> omega) (tgt := 247) dL_law_240 (by decide) (fun c_240 => ?_) (fun c_240 => ?_)
          ·
            refine lv_iinc (v := iI ((((i2 : Nat) : Int)) + (1))) (lv' := [(19, .int (iI ((((i2 : Nat) : Int)) + (1)))), (18, .int (iI (((a : Nat) : Int)))), (17, .int (iI (r_194))), (16, .int (iI ((100) + (r_181)))), (15, .int (iI (((k : Nat) : Int)))), (14, .int (iI (((sv : Nat) : Int)))), (13, .int (iI (((pv : Nat) : Int)))), (12, .int (iI (kd))), (11, .int (iI (yy))), (10, .int (iI (xx))), (9, .int (iI (((i : Nat) : Int)))), (8, .ref (ad 56 0)), (7, .ref (ad 55 0)), (6, .ref (ad 54 0)), (5, .ref (ad 53 0)), (4, .ref (ad 52 0)), (3, .ref (ad 51 0)), (2, .ref (ad 50 0)), (1, .ref (ad 0 0)), (0, .ref b)]) hM.1 hM.2.1 dL_law_247 hl (k := 0) rfl (iI_add _ _) (by decide) rfl (fun ls hl => ?_)
            refine lv_goto (tgt := 208) hM.1 hM.2.1 dL_law_250 (by decide) ?_
            have hz2 : (((i2 : Nat) : Int)) + (1) = ((i2 + 1 : Nat) : Int) := by omega
            rw [hz2] at hl
            refine ih (i2 + 1) a _ _ ls (by omega) hc2 hs2 ?_ ⟨hl.1, hl.2.1, fun q hq => hl.2.2 q ((List.forall_mem_cons.mpr ⟨List.mem_of_getElem? (i := 0) rfl, (List.forall_mem_cons.mpr ⟨List.mem_of_getElem? (i := 1) rfl, (List.forall_mem_cons.mpr ⟨List.mem_of_getElem? (i := 2) rfl, (List.forall_mem_cons.mpr ⟨List.mem_of_getElem? (i := 3) rfl, (List.forall_mem_cons.mpr ⟨List.mem_of_getElem? (i := 4) rfl, (List.forall_mem_cons.mpr ⟨List.mem_of_getElem? (i := 5) rfl, (List.forall_mem_cons.mpr ⟨List.mem_of_getElem? (i := 6) rfl, (List.forall_mem_cons.mpr ⟨List.mem_of_getElem? (i := 7) rfl, (List.forall_mem_cons.mpr ⟨List.mem_of_getElem? (i := 8) rfl, (List.forall_mem_cons.mpr ⟨List.mem_of_getElem? (i := 9) rfl, (List.forall_mem_cons.mpr ⟨List.mem_of_getElem? (i := 10) rfl, (List.forall_mem_cons.mpr ⟨List.mem_of_getElem? (i := 11) rfl, (List.forall_mem_cons.mpr ⟨List.mem_of_getElem? (i := 12) rfl, (List.forall_mem_cons.mpr ⟨List.mem_of_getElem? (i := 13) rfl, (List.forall_mem_cons.mpr ⟨List.mem_of_getElem? (i := 14) rfl, (List.forall_mem_cons.mpr ⟨List.mem_of_getElem? (i := 15) rfl, (List.forall_mem_cons.mpr ⟨List.mem_of_getElem? (i := 16) rfl, (List.forall_mem_cons.mpr ⟨List.mem_of_getElem? (i := 17) rfl, (List.forall_mem_cons.mpr ⟨List.mem_of_getElem? (i := 18) rfl, (List.forall_mem_cons.mpr ⟨List.mem_of_getElem? (i := 19) rfl, (fun _ h => absurd h List.not_mem_nil)⟩)⟩)⟩)⟩)⟩)⟩)⟩)⟩)⟩)⟩)⟩)⟩)⟩)⟩)⟩)⟩)⟩)⟩)⟩)⟩) q hq)⟩
            rcases hinv with ⟨h1, h2⟩ | ⟨h1, h2, h3, h4, h5⟩
            · refine Or.inl ⟨h1, fun j hj w => ?_⟩
              by_cases e : j = i2
              · subst e
                exact c_240 w.2
              · exact h2 j (by omega) w
            · refine Or.inr ⟨by omega, h2, h3, h4, fun j hj1 hj2 w => ?_⟩
              by_cases e : j = i2
              · subst e
                exact c_240 w.2
              · exact h5 j hj1 (by omega) w
          ·
            refine y_iload hM hl 0 rfl dL_law_243 ?_
            refine lv_istore (lv' := [(18, .int (iI (((i2 : Nat) : Int)))), (19, .int (iI (((i2 : Nat) : Int)))), (17, .int (iI (r_194))), (16, .int (iI ((100) + (r_181)))), (15, .int (iI (((k : Nat) : Int)))), (14, .int (iI (((sv : Nat) : Int)))), (13, .int (iI (((pv : Nat) : Int)))), (12, .int (iI (kd))), (11, .int (iI (yy))), (10, .int (iI (xx))), (9, .int (iI (((i : Nat) : Int)))), (8, .ref (ad 56 0)), (7, .ref (ad 55 0)), (6, .ref (ad 54 0)), (5, .ref (ad 53 0)), (4, .ref (ad 52 0)), (3, .ref (ad 51 0)), (2, .ref (ad 50 0)), (1, .ref (ad 0 0)), (0, .ref b)]) hM.1 hM.2.1 dL_law_245 hl (by decide) rfl (fun ls hl => ?_)
            refine lv_iinc (v := iI ((((i2 : Nat) : Int)) + (1))) (lv' := [(19, .int (iI ((((i2 : Nat) : Int)) + (1)))), (18, .int (iI (((i2 : Nat) : Int)))), (17, .int (iI (r_194))), (16, .int (iI ((100) + (r_181)))), (15, .int (iI (((k : Nat) : Int)))), (14, .int (iI (((sv : Nat) : Int)))), (13, .int (iI (((pv : Nat) : Int)))), (12, .int (iI (kd))), (11, .int (iI (yy))), (10, .int (iI (xx))), (9, .int (iI (((i : Nat) : Int)))), (8, .ref (ad 56 0)), (7, .ref (ad 55 0)), (6, .ref (ad 54 0)), (5, .ref (ad 53 0)), (4, .ref (ad 52 0)), (3, .ref (ad 51 0)), (2, .ref (ad 50 0)), (1, .ref (ad 0 0)), (0, .ref b)]) hM.1 hM.2.1 dL_law_247 hl (k := 1) rfl (iI_add _ _) (by decide) rfl (fun ls hl => ?_)
            refine lv_goto (tgt := 208) hM.1 hM.2.1 dL_law_250 (by decide) ?_
            have hz2 : (((i2 : Nat) : Int)) + (1) = ((i2 + 1 : Nat) : Int) := by omega
            rw [hz2] at hl
            exact ih (i2 + 1) i2 _ _ ls (by omega) hc2 hs2 (Or.inr ⟨by omega, by omega, by omega, by omega, fun j h1 h2 => by omega⟩) ⟨hl.1, hl.2.1, fun q hq => hl.2.2 q ((List.forall_mem_cons.mpr ⟨List.mem_of_getElem? (i := 0) rfl, (List.forall_mem_cons.mpr ⟨List.mem_of_getElem? (i := 1) rfl, (List.forall_mem_cons.mpr ⟨List.mem_of_getElem? (i := 2) rfl, (List.forall_mem_cons.mpr ⟨List.mem_of_getElem? (i := 3) rfl, (List.forall_mem_cons.mpr ⟨List.mem_of_getElem? (i := 4) rfl, (List.forall_mem_cons.mpr ⟨List.mem_of_getElem? (i := 5) rfl, (List.forall_mem_cons.mpr ⟨List.mem_of_getElem? (i := 6) rfl, (List.forall_mem_cons.mpr ⟨List.mem_of_getElem? (i := 7) rfl, (List.forall_mem_cons.mpr ⟨List.mem_of_getElem? (i := 8) rfl, (List.forall_mem_cons.mpr ⟨List.mem_of_getElem? (i := 9) rfl, (List.forall_mem_cons.mpr ⟨List.mem_of_getElem? (i := 10) rfl, (List.forall_mem_cons.mpr ⟨List.mem_of_getElem? (i := 11) rfl, (List.forall_mem_cons.mpr ⟨List.mem_of_getElem? (i := 12) rfl, (List.forall_mem_cons.mpr ⟨List.mem_of_getElem? (i := 13) rfl, (List.forall_mem_cons.mpr ⟨List.mem_of_getElem? (i := 14) rfl, (List.forall_mem_cons.mpr ⟨List.mem_of_getElem? (i := 15) rfl, (List.forall_mem_cons.mpr ⟨List.mem_of_getElem? (i := 16) rfl, (List.forall_mem_cons.mpr ⟨List.mem_of_getElem? (i := 17) rfl, (List.forall_mem_cons.mpr ⟨List.mem_of_getElem? (i := 18) rfl, (List.forall_mem_cons.mpr ⟨List.mem_of_getElem? (i := 19) rfl, (fun _ h => absurd h List.not_mem_nil)⟩)⟩)⟩)⟩)⟩)⟩)⟩)⟩)⟩)⟩)⟩)⟩)⟩)⟩)⟩)⟩)⟩)⟩)⟩)⟩) q hq)⟩
    exact hloop N_ 0 N_ _ _ ls (by omega) (by omega) (by omega) (Or.inl ⟨rfl, fun j hj => absurd hj (by omega)⟩) hl
