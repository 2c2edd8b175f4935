set_option maxRecDepth 100000 in
set_option maxHeartbeats 16000000 in
theorem law_step {p : Program} {e : Env} {s : State} {m : MethodId} {below : List Frame} {meth : Method} {c : Code} {Q : State → Prop} (l : Launch) (hfl : l.stackTraces = false) (G : GG) (b0 : Nat) {b L : Nat} {xs : Nat → Int32} (hM : CallFix p m c cL_law 30 s #[Value.ref b] wsL_law RL) (hN : NcX s) (hX : va_X b L xs s s.heap) (hbA : ¬ b0 ≤ b) (hbl : b < s.heap.size) (hL : L ≤ 260) {ks : KK} {ad : AD} {T : TT} {P : PP} {H : Heap} {locs : List Loc} {cells slots : Nat} (hcl : cells + 400 ≤ 602294) (hsl : slots + 3000 ≤ 7294300) (i : Nat) (xx yy kd : Int) (pv sv k : Nat) (hkd : 0 ≤ kd ∧ kd < 20) (hpv : pv < 5) (hsv : (T 0 0 7 = 0 ∧ sv = 0) ∨ (sv : Int) < T 0 0 7) (hkv : (T 0 0 8 = 0 ∧ k = 0) ∨ (k : Int) < T 0 0 8) {ls : Array Slot} (hl : lv_has ls 30 [(16, .int (iI (0))), (15, .int (iI (((k : Nat) : Int)))), (14, .int (iI (((sv : Nat) : Int)))), (13, .int (iI (((pv : Nat) : Int)))), (12, .int (iI (kd))), (11, .int (iI (yy))), (10, .int (iI (xx))), (9, .int (iI (((i : Nat) : Int)))), (8, .ref (ad 56 0)), (7, .ref (ad 55 0)), (6, .ref (ad 54 0)), (5, .ref (ad 53 0)), (4, .ref (ad 52 0)), (3, .ref (ad 51 0)), (2, .ref (ad 50 0)), (1, .ref (ad 0 0)), (0, .ref b)]) (hC : Cur G b0 (ks, ad, T, P) s H locs) (hI : IV ks ad T P)
    (kk : ∀ (ks1 : KK) (ad1 : AD) (T1 : TT) (P1 : PP) (H1 : Heap) (locs1 : List Loc) (cells1 slots1 : Nat) (ls1 : Array Slot), cells1 ≤ cells + 40 → slots1 ≤ slots + 400 → Cur G b0 (ks1, ad1, T1, P1) s H1 locs1 → IV ks1 ad1 T1 P1 → lv_has ls1 30 [(11, .int (iI (yy))), (9, .int (iI (((i : Nat) : Int)))), (8, .ref (ad1 56 0)), (7, .ref (ad1 55 0)), (6, .ref (ad1 54 0)), (5, .ref (ad1 53 0)), (4, .ref (ad1 52 0)), (3, .ref (ad1 51 0)), (2, .ref (ad1 50 0)), (1, .ref (ad1 0 0)), (0, .ref b)] → W p l e room_1 s m #[Value.ref b] below meth c H1 locs1 cells1 slots1 Q (F0 m 1608 ls1 [])) (kn : ∀ (ks1 : KK) (ad1 : AD) (T1 : TT) (P1 : PP) (H1 : Heap) (locs1 : List Loc) (cells1 slots1 : Nat) (ls1 : Array Slot), cells1 ≤ cells + 400 → slots1 ≤ slots + 3000 → Cur G b0 (ks1, ad1, T1, P1) s H1 locs1 → IV ks1 ad1 T1 P1 → lv_has ls1 30 [(9, .int (iI (((i : Nat) : Int)))), (8, .ref (ad1 56 0)), (7, .ref (ad1 55 0)), (6, .ref (ad1 54 0)), (5, .ref (ad1 53 0)), (4, .ref (ad1 52 0)), (3, .ref (ad1 51 0)), (2, .ref (ad1 50 0)), (1, .ref (ad1 0 0)), (0, .ref b)] → W p l e room_1 s m #[Value.ref b] below meth c H1 locs1 cells1 slots1 Q (F0 m 1643 ls1 [])) :
    W p l e room_1 s m #[Value.ref b] below meth c H locs cells slots Q (F0 m 836 ls []) := by
  obtain ⟨hCK, hNC, hR⟩ := id hI
  obtain ⟨hF, hRK, hSK, hOK, hKF, hLK⟩ := id hCK
  obtain ⟨hRN, hDN, hSN, hON, hXP, hXO, hXD⟩ := id hNC
  obtain ⟨⟨hg1, h75, hg2, h87, hg3, h19, hg4, hg0⟩, hRP, hRS, hRO, hRD⟩ := id hR
  obtain ⟨hd0, hd1, hd2, hd3⟩ := id hDN
  have hs70 := hSK.1
  have ho80 := hOK.1
  have hP1 := hRP.1.1
  refine y_bipush hM dL_law_836 (by decide) ?_
  refine y_iload hM hl 1 rfl dL_law_838 ?_
  refine y_imul hM dL_law_840 ?_
  refine lv_istore (lv' := [(17, .int (iI ((9) * (((k : Nat) : Int))))), (16, .int (iI (0))), (15, .int (iI (((k : Nat) : Int)))), (14, .int (iI (((sv : Nat) : Int)))), (13, .int (iI (((pv : Nat) : Int)))), (12, .int (iI (kd))), (11, .int (iI (yy))), (10, .int (iI (xx))), (9, .int (iI (((i : Nat) : Int)))), (8, .ref (ad 56 0)), (7, .ref (ad 55 0)), (6, .ref (ad 54 0)), (5, .ref (ad 53 0)), (4, .ref (ad 52 0)), (3, .ref (ad 51 0)), (2, .ref (ad 50 0)), (1, .ref (ad 0 0)), (0, .ref b)]) hM.1 hM.2.1 dL_law_841 hl (by decide) rfl (fun ls hl => ?_)
  refine y_aload hM hl 9 rfl dL_law_843 ?_
  refine y_iconst hM dL_law_845 ?_
  refine y_iald hM hC hLK.2.2.2.2.2.2 rfl ⟨by omega, by omega⟩ (by decide) (x := T 0 0 8) (by rw [show ((2 : Int)).toNat = 2 from rfl, hg2]) dL_law_846 ?_
  refine y_if_eq hM (by constructor <;> omega) (tgt := 875) dL_law_847 (by decide) (fun c_847 => ?_) (fun c_847 => ?_)
  ·
    refine y_iconst hM dL_law_875 ?_
    refine lv_goto (tgt := 891) hM.1 hM.2.1 dL_law_876 (by decide) ?_
    refine lv_istore (lv' := [(18, .int (iI (0))), (17, .int (iI ((9) * (((k : Nat) : Int))))), (16, .int (iI (0))), (15, .int (iI (((k : Nat) : Int)))), (14, .int (iI (((sv : Nat) : Int)))), (13, .int (iI (((pv : Nat) : Int)))), (12, .int (iI (kd))), (11, .int (iI (yy))), (10, .int (iI (xx))), (9, .int (iI (((i : Nat) : Int)))), (8, .ref (ad 56 0)), (7, .ref (ad 55 0)), (6, .ref (ad 54 0)), (5, .ref (ad 53 0)), (4, .ref (ad 52 0)), (3, .ref (ad 51 0)), (2, .ref (ad 50 0)), (1, .ref (ad 0 0)), (0, .ref b)]) hM.1 hM.2.1 dL_law_891 hl (by decide) rfl (fun ls hl => ?_)
    refine y_aload hM hl 10 rfl dL_law_893 ?_
    refine y_iconst hM dL_law_895 ?_
    refine y_iald hM hC hLK.2.2.2.2.2.2 rfl ⟨by omega, by omega⟩ (by decide) (x := T 0 0 8) (by rw [show ((2 : Int)).toNat = 2 from rfl, hg2]) dL_law_896 ?_
    refine y_if_ne hM (by constructor <;> omega) (tgt := 904) dL_law_897 (by decide) (fun c_897 => False.elim (by omega)) (fun c_897 => ?_)
    refine y_iconst hM dL_law_900 ?_
    refine lv_goto (tgt := 932) hM.1 hM.2.1 dL_law_901 (by decide) ?_
    refine lv_istore (lv' := [(19, .int (iI (1))), (18, .int (iI (0))), (17, .int (iI ((9) * (((k : Nat) : Int))))), (16, .int (iI (0))), (15, .int (iI (((k : Nat) : Int)))), (14, .int (iI (((sv : Nat) : Int)))), (13, .int (iI (((pv : Nat) : Int)))), (12, .int (iI (kd))), (11, .int (iI (yy))), (10, .int (iI (xx))), (9, .int (iI (((i : Nat) : Int)))), (8, .ref (ad 56 0)), (7, .ref (ad 55 0)), (6, .ref (ad 54 0)), (5, .ref (ad 53 0)), (4, .ref (ad 52 0)), (3, .ref (ad 51 0)), (2, .ref (ad 50 0)), (1, .ref (ad 0 0)), (0, .ref b)]) hM.1 hM.2.1 dL_law_932 hl (by decide) rfl (fun ls hl => ?_)
    refine y_aload hM hl 14 rfl dL_law_934 ?_
    refine y_iload hM hl 2 rfl dL_law_936 ?_
    refine y_iconst hM dL_law_938 ?_
    refine y_iadd hM dL_law_939 ?_
    refine y_iald hM hC hLK.2.2.2.1 rfl ⟨by omega, by omega⟩ (by decide) (x := T 53 0 (9 * k + 3)) (by rw [show (((9) * (((k : Nat) : Int))) + (3) : Int).toNat = 9 * k + 3 from by omega]) dL_law_940 ?_
    refine lv_istore (lv' := [(20, .int (iI (T 53 0 (9 * k + 3)))), (19, .int (iI (1))), (18, .int (iI (0))), (17, .int (iI ((9) * (((k : Nat) : Int))))), (16, .int (iI (0))), (15, .int (iI (((k : Nat) : Int)))), (14, .int (iI (((sv : Nat) : Int)))), (13, .int (iI (((pv : Nat) : Int)))), (12, .int (iI (kd))), (11, .int (iI (yy))), (10, .int (iI (xx))), (9, .int (iI (((i : Nat) : Int)))), (8, .ref (ad 56 0)), (7, .ref (ad 55 0)), (6, .ref (ad 54 0)), (5, .ref (ad 53 0)), (4, .ref (ad 52 0)), (3, .ref (ad 51 0)), (2, .ref (ad 50 0)), (1, .ref (ad 0 0)), (0, .ref b)]) hM.1 hM.2.1 dL_law_941 hl (by decide) rfl (fun ls hl => ?_)
    refine y_iload hM hl 1 rfl dL_law_943 ?_
    refine y_if_ne hM (by constructor <;> omega) (tgt := 1068) dL_law_945 (by decide) (fun c_945 => ?_) (fun c_945 => False.elim (by omega))
    refine y_iload hM hl 1 rfl dL_law_1068 ?_
    refine y_if_le hM (by constructor <;> omega) (tgt := 1097) dL_law_1070 (by decide) (fun c_1070 => False.elim (by omega)) (fun c_1070 => ?_)
    refine y_aload_n hM hl 19 rfl rfl dL_law_1073 ?_
    refine y_iload hM hl 4 rfl dL_law_1074 ?_
    refine y_if_eq hM (by constructor <;> omega) (tgt := 1083) dL_law_1076 (by decide) (fun c_1076 => ?_) (fun c_1076 => False.elim (by omega))
    refine y_iconst hM dL_law_1083 ?_
    refine y_iload hM hl 5 rfl dL_law_1084 ?_
    refine y_iconst hM dL_law_1086 ?_
    refine y_callSX hM hN hC (c_ref_step l hfl G b0 ks ad T P (((k : Nat) : Int)) (0) ⟨by omega, by omega⟩ ⟨by omega, by omega⟩ hF hRK hRN hDN hSK hSN hOK hON (fun w => by omega)) (vx_cwSW 4 hM.2.2.2.2 gL_law_L_refused rfl rfl rfl (by decide +kernel) ⟨(Nat.le_of_ble_eq_true rfl), (Nat.le_of_ble_eq_true rfl)⟩) rfl hl.1 rfl (Nat.le_of_ble_eq_true rfl) dL_law_1087 ⟨(show _ ≤ 602294 by omega), (show _ ≤ 7294300 by omega)⟩ (fun E ce q9 u1 H locs hx hC hce hcv hcl => hx.elim) (fun v u1 H locs hp hC => ?_)
    obtain ⟨r_1087, rfl, h_1087, hu⟩ := hp; rw [hu] at hC; clear hu
    try dsimp only at h_1087
    refine W.eq (g2 := F0 m 1090 ls [.int (iI (r_1087))]) rfl ?_
    refine y_iload hM hl 1 rfl dL_law_1090 ?_
    refine y_icmp_eq hM (by constructor <;> omega) (by constructor <;> omega) (tgt := 1643) dL_law_1092 (by decide) (fun c_1092 => ?_) (fun c_1092 => False.elim (by omega))
    exact kn _ _ _ _ _ _ _ _ ls (by omega) (by omega) hC hI ⟨hl.1, hl.2.1, fun q hq => hl.2.2 q ((List.forall_mem_cons.mpr ⟨List.mem_of_getElem? (i := 11) rfl, (List.forall_mem_cons.mpr ⟨List.mem_of_getElem? (i := 12) rfl, (List.forall_mem_cons.mpr ⟨List.mem_of_getElem? (i := 13) rfl, (List.forall_mem_cons.mpr ⟨List.mem_of_getElem? (i := 14) rfl, (List.forall_mem_cons.mpr ⟨List.mem_of_getElem? (i := 15) rfl, (List.forall_mem_cons.mpr ⟨List.mem_of_getElem? (i := 16) rfl, (List.forall_mem_cons.mpr ⟨List.mem_of_getElem? (i := 17) rfl, (List.forall_mem_cons.mpr ⟨List.mem_of_getElem? (i := 18) rfl, (List.forall_mem_cons.mpr ⟨List.mem_of_getElem? (i := 19) rfl, (List.forall_mem_cons.mpr ⟨List.mem_of_getElem? (i := 20) rfl, (fun _ h => absurd h List.not_mem_nil)⟩)⟩)⟩)⟩)⟩)⟩)⟩)⟩)⟩)⟩) q hq)⟩
  ·
    have hk8 : (k : Int) < T 0 0 8 := by omega
    have ho := hRO.1 k hk8
    have hon := hON k hk8
    have h78 := ho.2.2.2.2.2.1
    have h7n := ho.2.2.2.2.2.2.2.2.1
    have h8n := ho.2.2.2.2.2.2.2.2.2.1
    have hdu : 0 ≤ dueT T k ∧ dueT T k ≤ 3000 := by unfold dueT; split <;> omega
    have hl2 := lateT_in2 (T := T) (k := k) (d := T 0 0 5) ⟨by omega, by omega⟩
    have hov := fun f => ov_iff (T := T) (k := k) (lb := lateT T k (T 0 0 5)) (f := f)
    have hmvn : 0 ≤ T 11 k 0 ∧ T 11 k 0 < T 0 0 7 := (hOK.2.2.2 k hk8).2.2
    obtain ⟨mv, hmv⟩ : ∃ n : Nat, n = mvT T k := ⟨_, rfl⟩
    have hmvi : ((mv : Nat) : Int) = T 11 k 0 := by rw [hmv]; unfold mvT; omega
    have hmv0 : T 53 0 (9 * k) = ((mv : Nat) : Int) := by rw [hmvi]; exact ho.1
    have hmr := hRS.1 mv (by omega)
    have hms := hSN mv (by omega)
    obtain ⟨fr, hfr0⟩ : ∃ n : Nat, n = (T 11 k 1).toNat := ⟨_, rfl⟩
    obtain ⟨to_, hto0⟩ : ∃ n : Nat, n = (T 11 k 2).toNat := ⟨_, rfl⟩
    have hfr1 : T 11 k 1 = ((fr : Nat) : Int) := by omega
    have hto1 : T 11 k 2 = ((to_ : Nat) : Int) := by omega
    have hfr : T 53 0 (9 * k + 1) = ((fr : Nat) : Int) := by rw [← hfr1]; exact ho.2.1
    have hto : T 53 0 (9 * k + 2) = ((to_ : Nat) : Int) := by rw [← hto1]; exact ho.2.2.1
    refine y_aload hM hl 12 rfl dL_law_850 ?_
    refine y_iload hM hl 0 rfl dL_law_852 ?_
    refine y_iconst hM dL_law_854 ?_
    refine y_iadd hM dL_law_855 ?_
    refine y_iald hM hC hLK.2.2.2.1 rfl ⟨by omega, by omega⟩ (by decide) (x := T 11 k 3) (by rw [show (((9) * (((k : Nat) : Int))) + (3) : Int).toNat = 9 * k + 3 from by omega, ho.2.2.2.1]) dL_law_856 ?_
    refine y_iconst hM dL_law_857 ?_
    refine y_icmp_eq hM (by constructor <;> omega) (by constructor <;> omega) (tgt := 875) dL_law_858 (by decide) (fun c_858 => ?_) (fun c_858 => ?_)
    ·
      refine y_iconst hM dL_law_875 ?_
      refine lv_goto (tgt := 891) hM.1 hM.2.1 dL_law_876 (by decide) ?_
      refine lv_istore (lv' := [(18, .int (iI (0))), (17, .int (iI ((9) * (((k : Nat) : Int))))), (16, .int (iI (0))), (15, .int (iI (((k : Nat) : Int)))), (14, .int (iI (((sv : Nat) : Int)))), (13, .int (iI (((pv : Nat) : Int)))), (12, .int (iI (kd))), (11, .int (iI (yy))), (10, .int (iI (xx))), (9, .int (iI (((i : Nat) : Int)))), (8, .ref (ad 56 0)), (7, .ref (ad 55 0)), (6, .ref (ad 54 0)), (5, .ref (ad 53 0)), (4, .ref (ad 52 0)), (3, .ref (ad 51 0)), (2, .ref (ad 50 0)), (1, .ref (ad 0 0)), (0, .ref b)]) hM.1 hM.2.1 dL_law_891 hl (by decide) rfl (fun ls hl => ?_)
      refine y_aload hM hl 10 rfl dL_law_893 ?_
      refine y_iconst hM dL_law_895 ?_
      refine y_iald hM hC hLK.2.2.2.2.2.2 rfl ⟨by omega, by omega⟩ (by decide) (x := T 0 0 8) (by rw [show ((2 : Int)).toNat = 2 from rfl, hg2]) dL_law_896 ?_
      refine y_if_ne hM (by constructor <;> omega) (tgt := 904) dL_law_897 (by decide) (fun c_897 => ?_) (fun c_897 => False.elim (by omega))
      refine y_aload hM hl 13 rfl dL_law_904 ?_
      refine y_iload hM hl 1 rfl dL_law_906 ?_
      refine y_iconst hM dL_law_908 ?_
      refine y_iadd hM dL_law_909 ?_
      refine y_iald hM hC hLK.2.2.2.1 rfl ⟨by omega, by omega⟩ (by decide) (x := T 11 k 3) (by rw [show (((9) * (((k : Nat) : Int))) + (3) : Int).toNat = 9 * k + 3 from by omega, ho.2.2.2.1]) dL_law_910 ?_
      refine y_iconst hM dL_law_911 ?_
      refine y_icmp_eq hM (by constructor <;> omega) (by constructor <;> omega) (tgt := 927) dL_law_912 (by decide) (fun c_912 => ?_) (fun c_912 => False.elim (by omega))
      refine y_iconst hM dL_law_927 ?_
      refine lv_goto (tgt := 932) hM.1 hM.2.1 dL_law_928 (by decide) ?_
      refine lv_istore (lv' := [(19, .int (iI (3))), (18, .int (iI (0))), (17, .int (iI ((9) * (((k : Nat) : Int))))), (16, .int (iI (0))), (15, .int (iI (((k : Nat) : Int)))), (14, .int (iI (((sv : Nat) : Int)))), (13, .int (iI (((pv : Nat) : Int)))), (12, .int (iI (kd))), (11, .int (iI (yy))), (10, .int (iI (xx))), (9, .int (iI (((i : Nat) : Int)))), (8, .ref (ad 56 0)), (7, .ref (ad 55 0)), (6, .ref (ad 54 0)), (5, .ref (ad 53 0)), (4, .ref (ad 52 0)), (3, .ref (ad 51 0)), (2, .ref (ad 50 0)), (1, .ref (ad 0 0)), (0, .ref b)]) hM.1 hM.2.1 dL_law_932 hl (by decide) rfl (fun ls hl => ?_)
      refine y_aload hM hl 14 rfl dL_law_934 ?_
      refine y_iload hM hl 2 rfl dL_law_936 ?_
      refine y_iconst hM dL_law_938 ?_
      refine y_iadd hM dL_law_939 ?_
      refine y_iald hM hC hLK.2.2.2.1 rfl ⟨by omega, by omega⟩ (by decide) (x := T 11 k 3) (by rw [show (((9) * (((k : Nat) : Int))) + (3) : Int).toNat = 9 * k + 3 from by omega, ho.2.2.2.1]) dL_law_940 ?_
      refine lv_istore (lv' := [(20, .int (iI (T 11 k 3))), (19, .int (iI (3))), (18, .int (iI (0))), (17, .int (iI ((9) * (((k : Nat) : Int))))), (16, .int (iI (0))), (15, .int (iI (((k : Nat) : Int)))), (14, .int (iI (((sv : Nat) : Int)))), (13, .int (iI (((pv : Nat) : Int)))), (12, .int (iI (kd))), (11, .int (iI (yy))), (10, .int (iI (xx))), (9, .int (iI (((i : Nat) : Int)))), (8, .ref (ad 56 0)), (7, .ref (ad 55 0)), (6, .ref (ad 54 0)), (5, .ref (ad 53 0)), (4, .ref (ad 52 0)), (3, .ref (ad 51 0)), (2, .ref (ad 50 0)), (1, .ref (ad 0 0)), (0, .ref b)]) hM.1 hM.2.1 dL_law_941 hl (by decide) rfl (fun ls hl => ?_)
      refine y_iload hM hl 1 rfl dL_law_943 ?_
      refine y_if_ne hM (by constructor <;> omega) (tgt := 1068) dL_law_945 (by decide) (fun c_945 => ?_) (fun c_945 => False.elim (by omega))
      refine y_iload hM hl 1 rfl dL_law_1068 ?_
      refine y_if_le hM (by constructor <;> omega) (tgt := 1097) dL_law_1070 (by decide) (fun c_1070 => False.elim (by omega)) (fun c_1070 => ?_)
      refine y_aload_n hM hl 19 rfl rfl dL_law_1073 ?_
      refine y_iload hM hl 4 rfl dL_law_1074 ?_
      refine y_if_eq hM (by constructor <;> omega) (tgt := 1083) dL_law_1076 (by decide) (fun c_1076 => ?_) (fun c_1076 => False.elim (by omega))
      refine y_iconst hM dL_law_1083 ?_
      refine y_iload hM hl 5 rfl dL_law_1084 ?_
      refine y_iconst hM dL_law_1086 ?_
      refine y_callSX hM hN hC (c_ref_step l hfl G b0 ks ad T P (((k : Nat) : Int)) (0) ⟨by omega, by omega⟩ ⟨by omega, by omega⟩ hF hRK hRN hDN hSK hSN hOK hON (by simp only [Int.toNat_natCast]; omega)) (vx_cwSW 4 hM.2.2.2.2 gL_law_L_refused rfl rfl rfl (by decide +kernel) ⟨(Nat.le_of_ble_eq_true rfl), (Nat.le_of_ble_eq_true rfl)⟩) rfl hl.1 rfl (Nat.le_of_ble_eq_true rfl) dL_law_1087 ⟨(show _ ≤ 602294 by omega), (show _ ≤ 7294300 by omega)⟩ (fun E ce q9 u1 H locs hx hC hce hcv hcl => hx.elim) (fun v u1 H locs hp hC => ?_)
      obtain ⟨r_1087, rfl, h_1087, hu⟩ := hp; rw [hu] at hC; clear hu
      try dsimp only at h_1087
      refine W.eq (g2 := F0 m 1090 ls [.int (iI (r_1087))]) rfl ?_
      refine y_iload hM hl 1 rfl dL_law_1090 ?_
      refine y_icmp_eq hM (by constructor <;> omega) (by constructor <;> omega) (tgt := 1643) dL_law_1092 (by decide) (fun c_1092 => ?_) (fun c_1092 => False.elim (by omega))
      exact kn _ _ _ _ _ _ _ _ ls (by omega) (by omega) hC hI ⟨hl.1, hl.2.1, fun q hq => hl.2.2 q ((List.forall_mem_cons.mpr ⟨List.mem_of_getElem? (i := 11) rfl, (List.forall_mem_cons.mpr ⟨List.mem_of_getElem? (i := 12) rfl, (List.forall_mem_cons.mpr ⟨List.mem_of_getElem? (i := 13) rfl, (List.forall_mem_cons.mpr ⟨List.mem_of_getElem? (i := 14) rfl, (List.forall_mem_cons.mpr ⟨List.mem_of_getElem? (i := 15) rfl, (List.forall_mem_cons.mpr ⟨List.mem_of_getElem? (i := 16) rfl, (List.forall_mem_cons.mpr ⟨List.mem_of_getElem? (i := 17) rfl, (List.forall_mem_cons.mpr ⟨List.mem_of_getElem? (i := 18) rfl, (List.forall_mem_cons.mpr ⟨List.mem_of_getElem? (i := 19) rfl, (List.forall_mem_cons.mpr ⟨List.mem_of_getElem? (i := 20) rfl, (fun _ h => absurd h List.not_mem_nil)⟩)⟩)⟩)⟩)⟩)⟩)⟩)⟩)⟩)⟩) q hq)⟩
    ·
      refine y_aload hM hl 9 rfl dL_law_861 ?_
      refine y_iconst hM dL_law_863 ?_
      refine y_iald hM hC hLK.2.2.2.2.2.2 rfl ⟨by omega, by omega⟩ (by decide) (x := T 0 0 5) (by rw [show ((3 : Int)).toNat = 3 from rfl, hg3]) dL_law_864 ?_
      refine y_aload hM hl 12 rfl dL_law_865 ?_
      refine y_iload hM hl 2 rfl dL_law_867 ?_
      refine y_callS hM hC (c_L_due l hfl G b0 ks ad T P k (by omega) hLK.2.2.2.1 ho ⟨by omega, by omega⟩) (va_cwS 2 hM.2.2.2.2 gL_law_L_due rfl rfl rfl (by decide +kernel) ⟨(Nat.le_of_ble_eq_true rfl), (Nat.le_of_ble_eq_true rfl)⟩) rfl hl.1 rfl (Nat.le_of_ble_eq_true rfl) dL_law_869 ⟨(show _ ≤ 602294 by omega), (show _ ≤ 7294300 by omega)⟩ (fun E ce q9 u1 H locs hx hC hce hcv hcl => hx.elim) (fun v u1 H locs hp hC => ?_)
      obtain ⟨r_869, rfl, h_869, hu⟩ := hp; rw [hu] at hC; clear hu
      try dsimp only at h_869
      refine W.eq (g2 := F0 m 872 ls [.int (iI (r_869)), .int (iI (T 0 0 5))]) rfl ?_
      refine y_icmp_ge hM (by constructor <;> omega) (by constructor <;> omega) (tgt := 879) dL_law_872 (by decide) (fun c_872 => ?_) (fun c_872 => ?_)
      ·
        refine y_aload hM hl 9 rfl dL_law_879 ?_
        refine y_iconst hM dL_law_881 ?_
        refine y_iald hM hC hLK.2.2.2.2.2.2 rfl ⟨by omega, by omega⟩ (by decide) (x := T 0 0 5) (by rw [show ((3 : Int)).toNat = 3 from rfl, hg3]) dL_law_882 ?_
        refine y_aload hM hl 12 rfl dL_law_883 ?_
        refine y_iload hM hl 2 rfl dL_law_885 ?_
        refine y_callS hM hC (c_L_due l hfl G b0 ks ad T P k (by omega) hLK.2.2.2.1 ho ⟨by omega, by omega⟩) (va_cwS 2 hM.2.2.2.2 gL_law_L_due rfl rfl rfl (by decide +kernel) ⟨(Nat.le_of_ble_eq_true rfl), (Nat.le_of_ble_eq_true rfl)⟩) rfl hl.1 rfl (Nat.le_of_ble_eq_true rfl) dL_law_887 ⟨(show _ ≤ 602294 by omega), (show _ ≤ 7294300 by omega)⟩ (fun E ce q9 u1 H locs hx hC hce hcv hcl => hx.elim) (fun v u1 H locs hp hC => ?_)
        obtain ⟨r_887, rfl, h_887, hu⟩ := hp; rw [hu] at hC; clear hu
        try dsimp only at h_887
        refine W.eq (g2 := F0 m 890 ls [.int (iI (r_887)), .int (iI (T 0 0 5))]) rfl ?_
        refine y_isub hM dL_law_890 ?_
        rw [show (T 0 0 5) - (r_887) = lateT T k (T 0 0 5) from (by unfold lateT; split <;> omega)]
        refine lv_istore (lv' := [(18, .int (iI (lateT T k (T 0 0 5)))), (17, .int (iI ((9) * (((k : Nat) : Int))))), (16, .int (iI (0))), (15, .int (iI (((k : Nat) : Int)))), (14, .int (iI (((sv : Nat) : Int)))), (13, .int (iI (((pv : Nat) : Int)))), (12, .int (iI (kd))), (11, .int (iI (yy))), (10, .int (iI (xx))), (9, .int (iI (((i : Nat) : Int)))), (8, .ref (ad 56 0)), (7, .ref (ad 55 0)), (6, .ref (ad 54 0)), (5, .ref (ad 53 0)), (4, .ref (ad 52 0)), (3, .ref (ad 51 0)), (2, .ref (ad 50 0)), (1, .ref (ad 0 0)), (0, .ref b)]) hM.1 hM.2.1 dL_law_891 hl (by decide) rfl (fun ls hl => ?_)
        refine y_aload hM hl 10 rfl dL_law_893 ?_
        refine y_iconst hM dL_law_895 ?_
        refine y_iald hM hC hLK.2.2.2.2.2.2 rfl ⟨by omega, by omega⟩ (by decide) (x := T 0 0 8) (by rw [show ((2 : Int)).toNat = 2 from rfl, hg2]) dL_law_896 ?_
        refine y_if_ne hM (by constructor <;> omega) (tgt := 904) dL_law_897 (by decide) (fun c_897 => ?_) (fun c_897 => False.elim (by omega))
        refine y_aload hM hl 13 rfl dL_law_904 ?_
        refine y_iload hM hl 1 rfl dL_law_906 ?_
        refine y_iconst hM dL_law_908 ?_
        refine y_iadd hM dL_law_909 ?_
        refine y_iald hM hC hLK.2.2.2.1 rfl ⟨by omega, by omega⟩ (by decide) (x := T 11 k 3) (by rw [show (((9) * (((k : Nat) : Int))) + (3) : Int).toNat = 9 * k + 3 from by omega, ho.2.2.2.1]) dL_law_910 ?_
        refine y_iconst hM dL_law_911 ?_
        refine y_icmp_eq hM (by constructor <;> omega) (by constructor <;> omega) (tgt := 927) dL_law_912 (by decide) (fun c_912 => False.elim (by omega)) (fun c_912 => ?_)
        refine y_iload hM hl 2 rfl dL_law_915 ?_
        refine y_if_eq hM (by constructor <;> omega) (tgt := 931) dL_law_917 (by decide) (fun c_917 => ?_) (fun c_917 => False.elim (by omega))
        refine y_iconst hM dL_law_931 ?_
        refine lv_istore (lv' := [(19, .int (iI (0))), (18, .int (iI (lateT T k (T 0 0 5)))), (17, .int (iI ((9) * (((k : Nat) : Int))))), (16, .int (iI (0))), (15, .int (iI (((k : Nat) : Int)))), (14, .int (iI (((sv : Nat) : Int)))), (13, .int (iI (((pv : Nat) : Int)))), (12, .int (iI (kd))), (11, .int (iI (yy))), (10, .int (iI (xx))), (9, .int (iI (((i : Nat) : Int)))), (8, .ref (ad 56 0)), (7, .ref (ad 55 0)), (6, .ref (ad 54 0)), (5, .ref (ad 53 0)), (4, .ref (ad 52 0)), (3, .ref (ad 51 0)), (2, .ref (ad 50 0)), (1, .ref (ad 0 0)), (0, .ref b)]) hM.1 hM.2.1 dL_law_932 hl (by decide) rfl (fun ls hl => ?_)
        refine y_aload hM hl 14 rfl dL_law_934 ?_
        refine y_iload hM hl 2 rfl dL_law_936 ?_
        refine y_iconst hM dL_law_938 ?_
        refine y_iadd hM dL_law_939 ?_
        refine y_iald hM hC hLK.2.2.2.1 rfl ⟨by omega, by omega⟩ (by decide) (x := T 11 k 3) (by rw [show (((9) * (((k : Nat) : Int))) + (3) : Int).toNat = 9 * k + 3 from by omega, ho.2.2.2.1]) dL_law_940 ?_
        refine lv_istore (lv' := [(20, .int (iI (T 11 k 3))), (19, .int (iI (0))), (18, .int (iI (lateT T k (T 0 0 5)))), (17, .int (iI ((9) * (((k : Nat) : Int))))), (16, .int (iI (0))), (15, .int (iI (((k : Nat) : Int)))), (14, .int (iI (((sv : Nat) : Int)))), (13, .int (iI (((pv : Nat) : Int)))), (12, .int (iI (kd))), (11, .int (iI (yy))), (10, .int (iI (xx))), (9, .int (iI (((i : Nat) : Int)))), (8, .ref (ad 56 0)), (7, .ref (ad 55 0)), (6, .ref (ad 54 0)), (5, .ref (ad 53 0)), (4, .ref (ad 52 0)), (3, .ref (ad 51 0)), (2, .ref (ad 50 0)), (1, .ref (ad 0 0)), (0, .ref b)]) hM.1 hM.2.1 dL_law_941 hl (by decide) rfl (fun ls hl => ?_)
        refine y_iload hM hl 1 rfl dL_law_943 ?_
        refine y_if_ne hM (by constructor <;> omega) (tgt := 1068) dL_law_945 (by decide) (fun c_945 => False.elim (by omega)) (fun c_945 => ?_)
        refine y_iload hM hl 0 rfl dL_law_948 ?_
        refine y_iconst hM dL_law_950 ?_
        refine y_icmp_ne hM (by constructor <;> omega) (by constructor <;> omega) (tgt := 1068) dL_law_951 (by decide) (fun c_951 => ?_) (fun c_951 => ?_)
        ·
          refine y_iload hM hl 1 rfl dL_law_1068 ?_
          refine y_if_le hM (by constructor <;> omega) (tgt := 1097) dL_law_1070 (by decide) (fun c_1070 => ?_) (fun c_1070 => False.elim (by omega))
          refine y_iload hM hl 0 rfl dL_law_1097 ?_
          refine y_if_ne hM (by constructor <;> omega) (tgt := 1126) dL_law_1099 (by decide) (fun c_1099 => ?_) (fun c_1099 => ?_)
          ·
            refine y_iload hM hl 0 rfl dL_law_1126 ?_
            refine y_iconst hM dL_law_1128 ?_
            refine y_icmp_ne hM (by constructor <;> omega) (by constructor <;> omega) (tgt := 1231) dL_law_1129 (by decide) (fun c_1129 => False.elim (by omega)) (fun c_1129 => ?_)
            refine y_aload hM hl 14 rfl dL_law_1132 ?_
            refine y_iconst hM dL_law_1134 ?_
            refine y_iload hM hl 5 rfl dL_law_1135 ?_
            refine y_imul hM dL_law_1137 ?_
            refine y_aload hM hl 16 rfl dL_law_1138 ?_
            refine y_aload hM hl 15 rfl dL_law_1140 ?_
            refine y_iload hM hl 3 rfl dL_law_1142 ?_
            refine y_iald hM hC hLK.2.2.2.1 rfl ⟨by omega, by omega⟩ (by decide) (x := ((mv : Nat) : Int)) (by rw [show ((9) * (((k : Nat) : Int)) : Int).toNat = 9 * k from by omega, hmv0]) dL_law_1144 ?_
            refine y_lald hM hC hLK.2.2.1 rfl ⟨by omega, by omega⟩ (by decide) (x := T 10 mv 1) (by rw [show (((mv : Nat) : Int) : Int).toNat = mv from by omega, hmr.2.2]) dL_law_1145 ?_
            refine y_last hM hC hLK.2.2.2.2.1 (fun _ _ => rfl) ⟨by omega, by omega⟩ (by decide) dL_law_1146 (fun H locs hC => ?_)
            rw [show ((4) * (((k : Nat) : Int)) : Int).toNat = 4 * k from by omega] at hC
            refine y_aload hM hl 14 rfl dL_law_1147 ?_
            refine y_iconst hM dL_law_1149 ?_
            refine y_iload hM hl 5 rfl dL_law_1150 ?_
            refine y_imul hM dL_law_1152 ?_
            refine y_iconst hM dL_law_1153 ?_
            refine y_iadd hM dL_law_1154 ?_
            refine y_aload hM hl 16 rfl dL_law_1155 ?_
            refine y_aload hM hl 15 rfl dL_law_1157 ?_
            refine y_iload hM hl 3 rfl dL_law_1159 ?_
            refine y_iald hM hC hLK.2.2.2.1 rfl ⟨by omega, by omega⟩ (by decide) (x := ((mv : Nat) : Int)) (by rw [show ((9) * (((k : Nat) : Int)) : Int).toNat = 9 * k from by omega, up_of (by omega), hmv0]) dL_law_1161 ?_
            refine y_lald hM hC hLK.2.2.1 rfl ⟨by omega, by omega⟩ (by decide) (x := T 10 mv 1) (by rw [show (((mv : Nat) : Int) : Int).toNat = mv from by omega, up_of (by omega), hmr.2.2]) dL_law_1162 ?_
            refine y_iload hM hl 4 rfl dL_law_1163 ?_
            refine y_if_eq hM (by constructor <;> omega) (tgt := 1175) dL_law_1165 (by decide) (fun c_1165 => ?_) (fun c_1165 => False.elim (by omega))
            refine y_aload_n hM hl 18 rfl rfl dL_law_1175 ?_
            refine y_aload hM hl 15 rfl dL_law_1176 ?_
            refine y_iload hM hl 3 rfl dL_law_1178 ?_
            refine y_iconst hM dL_law_1180 ?_
            refine y_iadd hM dL_law_1181 ?_
            refine y_iald hM hC hLK.2.2.2.1 rfl ⟨by omega, by omega⟩ (by decide) (x := T 11 k 1) (by rw [show (((9) * (((k : Nat) : Int))) + (1) : Int).toNat = 9 * k + 1 from by omega, up_of (by omega), ho.2.1]) dL_law_1182 ?_
            refine y_aload hM hl 12 rfl dL_law_1183 ?_
            refine y_iconst hM dL_law_1185 ?_
            refine y_iald hM hC hLK.2.2.2.2.2.2 rfl ⟨by omega, by omega⟩ (by decide) (x := T 0 0 5) (by rw [show ((3 : Int)).toNat = 3 from rfl, up_of (by omega), hg3]) dL_law_1186 ?_
            refine y_callS hM hC (c_L_price l hfl G b0 ks ad (up T 54 0 (4 * k) (T 10 mv 1)) P (T 11 k 1) (T 0 0 5) ⟨by omega, by omega⟩ ⟨by omega, by omega⟩ hLK.1 (hRP.congr (fun _ => up_ne (by omega)) (fun _ => up_ne (by omega)) (fun _ => up_ne (by omega)) (up_ne (by omega)) (up_of (by omega)))) (va_cwS 3 hM.2.2.2.2 gL_law_L_price rfl rfl rfl (by decide +kernel) ⟨(Nat.le_of_ble_eq_true rfl), (Nat.le_of_ble_eq_true rfl)⟩) rfl hl.1 rfl (Nat.le_of_ble_eq_true rfl) dL_law_1187 ⟨(show _ ≤ 602294 by omega), (show _ ≤ 7294300 by omega)⟩ (fun E ce q9 u1 H locs hx hC hce hcv hcl => hx.elim) (fun v u1 H locs hp hC => ?_)
            obtain ⟨r_1187, rfl, h_1187, hu⟩ := hp; rw [hu] at hC; clear hu
            try dsimp only at h_1187
            refine W.eq (g2 := F0 m 1190 ls [.int (iI (r_1187)), .long (lI (T 10 mv 1)), .int (iI (((4) * (((k : Nat) : Int))) + (1))), .ref (ad 54 0)]) rfl ?_
            rw [valT_up (by decide)] at h_1187
            have hv_1187 := valT_in hRN (p := (T 11 k 1).toNat) (by omega) (T 0 0 5)
            have hq1 : 0 ≤ T 10 mv 1 * (r_1187) := Int.mul_nonneg (by omega) (by omega)
            have hq2 : T 10 mv 1 * (r_1187) ≤ 100000000 * 10000 := Int.mul_le_mul (by omega) (by omega) (by omega) (by omega)
            refine y_i2l hM (by constructor <;> omega) dL_law_1190 ?_
            refine y_lmul hM dL_law_1191 ?_
            refine y_ldc2 hM (v := 1000) (1000) (by decide) (by decide +kernel) dL_law_1192 ?_
            refine y_ldiv hM ⟨by omega, by omega, by omega, by omega⟩ dL_law_1195 ?_
            rw [show ((T 10 mv 1) * (r_1187)) / (1000) = moF (T 10 mv 1) (prF T (T 11 k 1).toNat 0) from (by unfold prF; rw [if_pos rfl, ← h_1187]; rfl)]
            refine y_last hM hC hLK.2.2.2.2.1 (fun _ _ => rfl) ⟨by omega, by omega⟩ (by decide) dL_law_1196 (fun H locs hC => ?_)
            rw [show (((4) * (((k : Nat) : Int))) + (1) : Int).toNat = 4 * k + 1 from by omega] at hC
            refine y_aload hM hl 16 rfl dL_law_1197 ?_
            refine y_aload hM hl 15 rfl dL_law_1199 ?_
            refine y_iload hM hl 3 rfl dL_law_1201 ?_
            refine y_iald hM hC hLK.2.2.2.1 rfl ⟨by omega, by omega⟩ (by decide) (x := ((mv : Nat) : Int)) (by rw [show ((9) * (((k : Nat) : Int)) : Int).toNat = 9 * k from by omega, up_of (by omega), up_of (by omega), hmv0]) dL_law_1203 ?_
            refine y_lconst hM 0 (by decide) dL_law_1204 ?_
            refine y_last hM hC hLK.2.2.1 (fun _ _ => rfl) ⟨by omega, by omega⟩ (by decide) dL_law_1205 (fun H locs hC => ?_)
            rw [show (((mv : Nat) : Int) : Int).toNat = mv from by omega] at hC
            refine y_aload hM hl 15 rfl dL_law_1206 ?_
            refine y_iload hM hl 3 rfl dL_law_1208 ?_
            refine y_bipush hM dL_law_1210 (by decide) ?_
            refine y_iadd hM dL_law_1212 ?_
            refine y_aload hM hl 12 rfl dL_law_1213 ?_
            refine y_iconst hM dL_law_1215 ?_
            refine y_iald hM hC hLK.2.2.2.2.2.2 rfl ⟨by omega, by omega⟩ (by decide) (x := T 0 0 5) (by rw [show ((3 : Int)).toNat = 3 from rfl, up_of (by omega), up_of (by omega), up_of (by omega), hg3]) dL_law_1216 ?_
            refine y_iast hM hC hLK.2.2.2.1 (fun _ _ => rfl) ⟨by omega, by omega⟩ (by decide) dL_law_1217 (fun H locs hC => ?_)
            rw [show (((9) * (((k : Nat) : Int))) + (6) : Int).toNat = 9 * k + 6 from by omega] at hC
            refine y_aload hM hl 15 rfl dL_law_1218 ?_
            refine y_iload hM hl 3 rfl dL_law_1220 ?_
            refine y_bipush hM dL_law_1222 (by decide) ?_
            refine y_iadd hM dL_law_1224 ?_
            refine y_iload hM hl 2 rfl dL_law_1225 ?_
            refine y_iast hM hC hLK.2.2.2.1 (fun _ _ => rfl) ⟨by omega, by omega⟩ (by decide) dL_law_1227 (fun H locs hC => ?_)
            rw [show (((9) * (((k : Nat) : Int))) + (8) : Int).toNat = 9 * k + 8 from by omega] at hC
            refine lv_goto (tgt := 1500) hM.1 hM.2.1 dL_law_1228 (by decide) ?_
            refine y_aload hM hl 15 rfl dL_law_1500 ?_
            refine y_iload hM hl 3 rfl dL_law_1502 ?_
            refine y_iconst hM dL_law_1504 ?_
            refine y_iadd hM dL_law_1505 ?_
            refine lv_dup2_11 hM.1 hM.2.1 dL_law_1506 rfl rfl ?_
            refine y_iald hM hC hLK.2.2.2.1 rfl ⟨by omega, by omega⟩ (by decide) (x := T 11 k 3) (by rw [show (((9) * (((k : Nat) : Int))) + (3) : Int).toNat = 9 * k + 3 from by omega, up_of (by omega), up_of (by omega), up_of (by omega), up_of (by omega), up_of (by omega), ho.2.2.2.1]) dL_law_1507 ?_
            refine y_iconst hM dL_law_1508 ?_
            refine y_iadd hM dL_law_1509 ?_
            refine y_iast hM hC hLK.2.2.2.1 (fun _ _ => rfl) ⟨by omega, by omega⟩ (by decide) dL_law_1510 (fun H locs hC => ?_)
            rw [show (((9) * (((k : Nat) : Int))) + (3) : Int).toNat = 9 * k + 3 from by omega] at hC
            refine y_iload hM hl 4 rfl dL_law_1511 ?_
            refine y_if_eq hM (by constructor <;> omega) (tgt := 1525) dL_law_1513 (by decide) (fun c_1513 => ?_) (fun c_1513 => False.elim (by omega))
            obtain ⟨T1, hT1⟩ : ∃ X : TT, X = (up (up (up (up (up (up T 54 0 (4 * k) (T 10 mv 1)) 54 0 (4 * k + 1) (moF (T 10 mv 1) (prF T (T 11 k 1).toNat 0))) 52 0 (mv) (0)) 53 0 (9 * k + 6) (T 0 0 5)) 53 0 (9 * k + 8) (lateT T k (T 0 0 5))) 53 0 (9 * k + 3) ((T 11 k 3) + (1))) := ⟨_, rfl⟩
            rw [← hT1] at hC
            have hlo : LoE T1 T := by
              rw [hT1]
              exact ((((((LoE.r.hi (by decide)).hi (by decide)).hi (by decide)).hi (by decide)).hi (by decide)).hi (by decide))
            obtain ⟨hCK1, hNC1, hR1, hz1⟩ := hI.mid hlo
            obtain ⟨hF1, hRK1, hSK1, hOK1, hKF1, hLK1⟩ := id hCK1
            obtain ⟨hRN1, hDN1, hSN1, hON1, -, -, -⟩ := id hNC1
            have h05 : T1 0 0 5 = T 0 0 5 := by rw [hz1]
            have h06 : T1 0 0 6 = T 0 0 6 := by rw [hz1]
            have h07 : T1 0 0 7 = T 0 0 7 := by rw [hz1]
            have h08 : T1 0 0 8 = T 0 0 8 := by rw [hz1]
            obtain ⟨m1, m2, m3, m4⟩ := stp_mid hlo k 0
            refine y_aload_n hM hl 19 rfl rfl dL_law_1525 ?_
            refine y_iload hM hl 5 rfl dL_law_1526 ?_
            refine y_callV hM hC (c_step l hfl G b0 ks ad T1 P (((k : Nat) : Int)) ⟨by omega, by omega⟩ hF1 hRK1 hRN1 hDN1 hSK1 hSN1 hOK1 hON1) (cwV 1 hM.2.2.2.2 gL_law_X3_step rfl rfl rfl (by decide +kernel) ⟨(Nat.le_of_ble_eq_true rfl), (Nat.le_of_ble_eq_true rfl)⟩) (y_recv hC hF1.1 rfl rfl) rfl hl.1 rfl (Nat.le_of_ble_eq_true rfl) dL_law_1528 ⟨(show _ ≤ 602294 by omega), (show _ ≤ 7294300 by omega)⟩ (fun E ce q9 u1 H locs hx hC hce hcv hcl => by
                obtain ⟨x, rfl, hx, hu⟩ := hx; rw [hu] at hC; clear hu; try dsimp only at hx
                exact False.elim ((by simp only [Int.toNat_natCast, m1, m2, m3, m4, h08] at hx; omega))) (fun v u1 H locs hp hC => ?_)
            obtain ⟨r_1528, rfl, h_1528, hu⟩ := hp; rw [hu] at hC; clear hu
            try dsimp only at h_1528
            refine W.eq (g2 := F0 m 1531 ls [.int (iI (r_1528))]) rfl ?_
            simp only [Int.toNat_natCast, m3] at h_1528
            rw [Int.toNat_natCast] at hC
            refine y_iload hM hl 2 rfl dL_law_1531 ?_
            refine y_icmp_eq hM (by constructor <;> omega) (by constructor <;> omega) (tgt := 1538) dL_law_1533 (by decide) (fun c_1533 => ?_) (fun c_1533 => False.elim (by omega))
            refine lv_goto (tgt := 1608) hM.1 hM.2.1 dL_law_1538 (by decide) ?_
            exact kk _ _ _ _ _ _ _ _ ls (by omega) (by omega) hC (op_stp hI hlo hk8 (by omega) (fun q => by omega) (fun r1 n1 => by
                  have e10 : T1 10 mv = T 10 mv := hlo 10 mv (by omega)
                  have emv : mv = mvT T1 k := by rw [mvT_lo hlo]; exact hmv
                  have epr : prF T1 (T1 11 k 1).toNat 0 = prF T (T 11 k 1).toNat 0 := by
                    unfold prF
                    rw [m1, valT_lo hlo, hz1]
                  have h := R2_s1 (k := k) (i := mv) (f := 0) (c := (T 11 k 3) + (1)) (u := T 10 mv 1) (mo := moF (T 10 mv 1) (prF T (T 11 k 1).toNat 0)) r1 n1 (by omega) ⟨emv, by omega⟩ (by rw [m1]; omega) (by rw [e10]) (by rw [e10, epr]) (by omega)
                  rw [m3, h05] at h
                  exact h.congr LoE.r (by rw [hT1]; exact HiE.r))) ⟨hl.1, hl.2.1, fun q hq => hl.2.2 q ((List.forall_mem_cons.mpr ⟨List.mem_of_getElem? (i := 9) rfl, (List.forall_mem_cons.mpr ⟨List.mem_of_getElem? (i := 11) rfl, (List.forall_mem_cons.mpr ⟨List.mem_of_getElem? (i := 12) rfl, (List.forall_mem_cons.mpr ⟨List.mem_of_getElem? (i := 13) rfl, (List.forall_mem_cons.mpr ⟨List.mem_of_getElem? (i := 14) rfl, (List.forall_mem_cons.mpr ⟨List.mem_of_getElem? (i := 15) rfl, (List.forall_mem_cons.mpr ⟨List.mem_of_getElem? (i := 16) rfl, (List.forall_mem_cons.mpr ⟨List.mem_of_getElem? (i := 17) rfl, (List.forall_mem_cons.mpr ⟨List.mem_of_getElem? (i := 18) rfl, (List.forall_mem_cons.mpr ⟨List.mem_of_getElem? (i := 19) rfl, (List.forall_mem_cons.mpr ⟨List.mem_of_getElem? (i := 20) rfl, (fun _ h => absurd h List.not_mem_nil)⟩)⟩)⟩)⟩)⟩)⟩)⟩)⟩)⟩)⟩)⟩) q hq)⟩
          ·
            refine y_aload hM hl 15 rfl dL_law_1102 ?_
            refine y_iload hM hl 3 rfl dL_law_1104 ?_
            refine y_iconst hM dL_law_1106 ?_
            refine y_iadd hM dL_law_1107 ?_
            refine y_aload hM hl 12 rfl dL_law_1108 ?_
            refine y_iconst hM dL_law_1110 ?_
            refine y_iald hM hC hLK.2.2.2.2.2.2 rfl ⟨by omega, by omega⟩ (by decide) (x := T 0 0 5) (by rw [show ((3 : Int)).toNat = 3 from rfl, hg3]) dL_law_1111 ?_
            refine y_iast hM hC hLK.2.2.2.1 (fun _ _ => rfl) ⟨by omega, by omega⟩ (by decide) dL_law_1112 (fun H locs hC => ?_)
            rw [show (((9) * (((k : Nat) : Int))) + (5) : Int).toNat = 9 * k + 5 from by omega] at hC
            refine y_aload hM hl 15 rfl dL_law_1113 ?_
            refine y_iload hM hl 3 rfl dL_law_1115 ?_
            refine y_bipush hM dL_law_1117 (by decide) ?_
            refine y_iadd hM dL_law_1119 ?_
            refine y_iload hM hl 2 rfl dL_law_1120 ?_
            refine y_iast hM hC hLK.2.2.2.1 (fun _ _ => rfl) ⟨by omega, by omega⟩ (by decide) dL_law_1122 (fun H locs hC => ?_)
            rw [show (((9) * (((k : Nat) : Int))) + (7) : Int).toNat = 9 * k + 7 from by omega] at hC
            refine lv_goto (tgt := 1500) hM.1 hM.2.1 dL_law_1123 (by decide) ?_
            refine y_aload hM hl 15 rfl dL_law_1500 ?_
            refine y_iload hM hl 3 rfl dL_law_1502 ?_
            refine y_iconst hM dL_law_1504 ?_
            refine y_iadd hM dL_law_1505 ?_
            refine lv_dup2_11 hM.1 hM.2.1 dL_law_1506 rfl rfl ?_
            refine y_iald hM hC hLK.2.2.2.1 rfl ⟨by omega, by omega⟩ (by decide) (x := T 11 k 3) (by rw [show (((9) * (((k : Nat) : Int))) + (3) : Int).toNat = 9 * k + 3 from by omega, up_of (by omega), up_of (by omega), ho.2.2.2.1]) dL_law_1507 ?_
            refine y_iconst hM dL_law_1508 ?_
            refine y_iadd hM dL_law_1509 ?_
            refine y_iast hM hC hLK.2.2.2.1 (fun _ _ => rfl) ⟨by omega, by omega⟩ (by decide) dL_law_1510 (fun H locs hC => ?_)
            rw [show (((9) * (((k : Nat) : Int))) + (3) : Int).toNat = 9 * k + 3 from by omega] at hC
            refine y_iload hM hl 4 rfl dL_law_1511 ?_
            refine y_if_eq hM (by constructor <;> omega) (tgt := 1525) dL_law_1513 (by decide) (fun c_1513 => ?_) (fun c_1513 => False.elim (by omega))
            obtain ⟨T1, hT1⟩ : ∃ X : TT, X = (up (up (up T 53 0 (9 * k + 5) (T 0 0 5)) 53 0 (9 * k + 7) (lateT T k (T 0 0 5))) 53 0 (9 * k + 3) ((T 11 k 3) + (1))) := ⟨_, rfl⟩
            rw [← hT1] at hC
            have hlo : LoE T1 T := by
              rw [hT1]
              exact (((LoE.r.hi (by decide)).hi (by decide)).hi (by decide))
            obtain ⟨hCK1, hNC1, hR1, hz1⟩ := hI.mid hlo
            obtain ⟨hF1, hRK1, hSK1, hOK1, hKF1, hLK1⟩ := id hCK1
            obtain ⟨hRN1, hDN1, hSN1, hON1, -, -, -⟩ := id hNC1
            have h05 : T1 0 0 5 = T 0 0 5 := by rw [hz1]
            have h06 : T1 0 0 6 = T 0 0 6 := by rw [hz1]
            have h07 : T1 0 0 7 = T 0 0 7 := by rw [hz1]
            have h08 : T1 0 0 8 = T 0 0 8 := by rw [hz1]
            obtain ⟨m1, m2, m3, m4⟩ := stp_mid hlo k 0
            refine y_aload_n hM hl 19 rfl rfl dL_law_1525 ?_
            refine y_iload hM hl 5 rfl dL_law_1526 ?_
            refine y_callV hM hC (c_step l hfl G b0 ks ad T1 P (((k : Nat) : Int)) ⟨by omega, by omega⟩ hF1 hRK1 hRN1 hDN1 hSK1 hSN1 hOK1 hON1) (cwV 1 hM.2.2.2.2 gL_law_X3_step rfl rfl rfl (by decide +kernel) ⟨(Nat.le_of_ble_eq_true rfl), (Nat.le_of_ble_eq_true rfl)⟩) (y_recv hC hF1.1 rfl rfl) rfl hl.1 rfl (Nat.le_of_ble_eq_true rfl) dL_law_1528 ⟨(show _ ≤ 602294 by omega), (show _ ≤ 7294300 by omega)⟩ (fun E ce q9 u1 H locs hx hC hce hcv hcl => by
                obtain ⟨x, rfl, hx, hu⟩ := hx; rw [hu] at hC; clear hu; try dsimp only at hx
                exact False.elim ((by simp only [Int.toNat_natCast, m1, m2, m3, m4, h08] at hx; omega))) (fun v u1 H locs hp hC => ?_)
            obtain ⟨r_1528, rfl, h_1528, hu⟩ := hp; rw [hu] at hC; clear hu
            try dsimp only at h_1528
            refine W.eq (g2 := F0 m 1531 ls [.int (iI (r_1528))]) rfl ?_
            simp only [Int.toNat_natCast, m3] at h_1528
            rw [Int.toNat_natCast] at hC
            refine y_iload hM hl 2 rfl dL_law_1531 ?_
            refine y_icmp_eq hM (by constructor <;> omega) (by constructor <;> omega) (tgt := 1538) dL_law_1533 (by decide) (fun c_1533 => ?_) (fun c_1533 => False.elim (by omega))
            refine lv_goto (tgt := 1608) hM.1 hM.2.1 dL_law_1538 (by decide) ?_
            exact kk _ _ _ _ _ _ _ _ ls (by omega) (by omega) hC (op_stp hI hlo hk8 (by omega) (fun q => by omega) (fun r1 n1 => by
                  have h := R2_s0 (k := k) (f := 0) (c := (T 11 k 3) + (1)) r1 n1 (by omega) (by rw [m1]; omega) (by omega)
                  rw [m3, h05] at h
                  exact h.congr LoE.r (by rw [hT1]; exact HiE.r))) ⟨hl.1, hl.2.1, fun q hq => hl.2.2 q ((List.forall_mem_cons.mpr ⟨List.mem_of_getElem? (i := 9) rfl, (List.forall_mem_cons.mpr ⟨List.mem_of_getElem? (i := 11) rfl, (List.forall_mem_cons.mpr ⟨List.mem_of_getElem? (i := 12) rfl, (List.forall_mem_cons.mpr ⟨List.mem_of_getElem? (i := 13) rfl, (List.forall_mem_cons.mpr ⟨List.mem_of_getElem? (i := 14) rfl, (List.forall_mem_cons.mpr ⟨List.mem_of_getElem? (i := 15) rfl, (List.forall_mem_cons.mpr ⟨List.mem_of_getElem? (i := 16) rfl, (List.forall_mem_cons.mpr ⟨List.mem_of_getElem? (i := 17) rfl, (List.forall_mem_cons.mpr ⟨List.mem_of_getElem? (i := 18) rfl, (List.forall_mem_cons.mpr ⟨List.mem_of_getElem? (i := 19) rfl, (List.forall_mem_cons.mpr ⟨List.mem_of_getElem? (i := 20) rfl, (fun _ h => absurd h List.not_mem_nil)⟩)⟩)⟩)⟩)⟩)⟩)⟩)⟩)⟩)⟩)⟩) q hq)⟩
        ·
          have hgn := gotT_nn hRN hDN (k := k) (by omega) (by omega) 0
          have hgl := gotT_le hRN hDN (k := k) (by omega) ⟨by omega, by omega⟩ 0
          have htm := timT_in hRN (k := k) (by omega) (by omega) ⟨by omega, by omega⟩ (T 11 k 5 + lateT T k (T 0 0 5))
          have hovf := hov 0
          have hall : allL T k (lateT T k (T 0 0 5)) = T 11 k 5 + lateT T k (T 0 0 5) := rfl
          rw [hall] at hovf
          have hlkp : 0 < T 11 k 5 + lateT T k (T 0 0 5) → gotT T k 0 < timT T k (T 11 k 5 + lateT T k (T 0 0 5)) → lakT T k (lateT T k (T 0 0 5)) 0 = timT T k (T 11 k 5 + lateT T k (T 0 0 5)) - gotT T k 0 := fun h1 h2 => by
            unfold lakT
            rw [hall, if_pos h1, if_pos h2]
          have hlkz : ¬ (0 < T 11 k 5 + lateT T k (T 0 0 5) ∧ gotT T k 0 < timT T k (T 11 k 5 + lateT T k (T 0 0 5))) → lakT T k (lateT T k (T 0 0 5)) 0 = 0 := fun h => by
            unfold lakT
            rw [hall]
            by_cases h1 : 0 < T 11 k 5 + lateT T k (T 0 0 5)
            · rw [if_pos h1, if_neg (fun h2 => h ⟨h1, h2⟩)]
            · rw [if_neg h1]
          refine y_iload hM hl 4 rfl dL_law_954 ?_
          refine y_if_eq hM (by constructor <;> omega) (tgt := 966) dL_law_956 (by decide) (fun c_956 => ?_) (fun c_956 => False.elim (by omega))
          refine y_aload_n hM hl 18 rfl rfl dL_law_966 ?_
          refine y_aload hM hl 15 rfl dL_law_967 ?_
          refine y_iload hM hl 3 rfl dL_law_969 ?_
          refine y_iconst hM dL_law_971 ?_
          refine y_iadd hM dL_law_972 ?_
          refine y_iald hM hC hLK.2.2.2.1 rfl ⟨by omega, by omega⟩ (by decide) (x := T 11 k 2) (by rw [show (((9) * (((k : Nat) : Int))) + (2) : Int).toNat = 9 * k + 2 from by omega, ho.2.2.1]) dL_law_973 ?_
          refine y_aload hM hl 12 rfl dL_law_974 ?_
          refine y_iconst hM dL_law_976 ?_
          refine y_iald hM hC hLK.2.2.2.2.2.2 rfl ⟨by omega, by omega⟩ (by decide) (x := T 0 0 5) (by rw [show ((3 : Int)).toNat = 3 from rfl, hg3]) dL_law_977 ?_
          refine y_callS hM hC (c_L_price l hfl G b0 ks ad T P (T 11 k 2) (T 0 0 5) ⟨by omega, by omega⟩ ⟨by omega, by omega⟩ hLK.1 hRP) (va_cwS 3 hM.2.2.2.2 gL_law_L_price rfl rfl rfl (by decide +kernel) ⟨(Nat.le_of_ble_eq_true rfl), (Nat.le_of_ble_eq_true rfl)⟩) rfl hl.1 rfl (Nat.le_of_ble_eq_true rfl) dL_law_978 ⟨(show _ ≤ 602294 by omega), (show _ ≤ 7294300 by omega)⟩ (fun E ce q9 u1 H locs hx hC hce hcv hcl => hx.elim) (fun v u1 H locs hp hC => ?_)
          obtain ⟨r_978, rfl, h_978, hu⟩ := hp; rw [hu] at hC; clear hu
          try dsimp only at h_978
          refine W.eq (g2 := F0 m 981 ls [.int (iI (r_978))]) rfl ?_
          have hv_978 := valT_in hRN (p := (T 11 k 2).toNat) (by omega) (T 0 0 5)
          refine lv_istore (lv' := [(21, .int (iI (r_978))), (20, .int (iI (T 11 k 3))), (19, .int (iI (0))), (18, .int (iI (lateT T k (T 0 0 5)))), (17, .int (iI ((9) * (((k : Nat) : Int))))), (16, .int (iI (0))), (15, .int (iI (((k : Nat) : Int)))), (14, .int (iI (((sv : Nat) : Int)))), (13, .int (iI (((pv : Nat) : Int)))), (12, .int (iI (kd))), (11, .int (iI (yy))), (10, .int (iI (xx))), (9, .int (iI (((i : Nat) : Int)))), (8, .ref (ad 56 0)), (7, .ref (ad 55 0)), (6, .ref (ad 54 0)), (5, .ref (ad 53 0)), (4, .ref (ad 52 0)), (3, .ref (ad 51 0)), (2, .ref (ad 50 0)), (1, .ref (ad 0 0)), (0, .ref b)]) hM.1 hM.2.1 dL_law_981 hl (by decide) rfl (fun ls hl => ?_)
          refine y_aload hM hl 15 rfl dL_law_983 ?_
          refine y_iconst hM dL_law_985 ?_
          refine y_iload hM hl 6 rfl dL_law_986 ?_
          refine y_imul hM dL_law_988 ?_
          refine y_iconst hM dL_law_989 ?_
          refine y_iadd hM dL_law_990 ?_
          refine y_lald hM hC hLK.2.2.2.2.1 rfl ⟨by omega, by omega⟩ (by decide) (x := T 11 k 8) (by rw [show (((4) * (((k : Nat) : Int))) + (1) : Int).toNat = 4 * k + 1 from by omega, ho.2.2.2.2.2.2.2.2.2.2.2.1]) dL_law_991 ?_
          refine y_ldc2 hM (v := 1000) (1000) (by decide) (by decide +kernel) dL_law_992 ?_
          refine y_lmul hM dL_law_995 ?_
          refine y_iload hM hl 0 rfl dL_law_996 ?_
          refine y_i2l hM (by constructor <;> omega) dL_law_998 ?_
          refine y_ldiv hM ⟨by omega, by omega, by omega, by omega⟩ dL_law_999 ?_
          rw [show ((T 11 k 8) * (1000)) / (r_978) = gotT T k 0 from (by rw [h_978]; unfold gotT prF; rw [if_pos rfl]; rfl)]
          refine lv_lstore (lv' := [(22, .long (lI (gotT T k 0))), (21, .int (iI (r_978))), (20, .int (iI (T 11 k 3))), (19, .int (iI (0))), (18, .int (iI (lateT T k (T 0 0 5)))), (17, .int (iI ((9) * (((k : Nat) : Int))))), (16, .int (iI (0))), (15, .int (iI (((k : Nat) : Int)))), (14, .int (iI (((sv : Nat) : Int)))), (13, .int (iI (((pv : Nat) : Int)))), (12, .int (iI (kd))), (11, .int (iI (yy))), (10, .int (iI (xx))), (9, .int (iI (((i : Nat) : Int)))), (8, .ref (ad 56 0)), (7, .ref (ad 55 0)), (6, .ref (ad 54 0)), (5, .ref (ad 53 0)), (4, .ref (ad 52 0)), (3, .ref (ad 51 0)), (2, .ref (ad 50 0)), (1, .ref (ad 0 0)), (0, .ref b)]) hM.1 hM.2.1 dL_law_1000 hl (by decide) rfl (fun ls hl => ?_)
          refine y_aload hM hl 17 rfl dL_law_1002 ?_
          refine y_iload hM hl 5 rfl dL_law_1004 ?_
          refine y_bipush hM dL_law_1006 (by decide) ?_
          refine y_iadd hM dL_law_1008 ?_
          refine y_iald hM hC hLK.2.2.2.1 rfl ⟨by omega, by omega⟩ (by decide) (x := T 53 0 (9 * k + 7)) (by rw [show (((9) * (((k : Nat) : Int))) + (7) : Int).toNat = 9 * k + 7 from by omega]) dL_law_1009 ?_
          refine y_aload hM hl 17 rfl dL_law_1010 ?_
          refine y_iload hM hl 5 rfl dL_law_1012 ?_
          refine y_bipush hM dL_law_1014 (by decide) ?_
          refine y_iadd hM dL_law_1016 ?_
          refine y_iald hM hC hLK.2.2.2.1 rfl ⟨by omega, by omega⟩ (by decide) (x := T 53 0 (9 * k + 8)) (by rw [show (((9) * (((k : Nat) : Int))) + (8) : Int).toNat = 9 * k + 8 from by omega]) dL_law_1017 ?_
          refine y_iadd hM dL_law_1018 ?_
          rw [show (T 53 0 (9 * k + 7)) + (T 53 0 (9 * k + 8)) = T 11 k 5 from (by omega)]
          refine y_iload hM hl 4 rfl dL_law_1019 ?_
          refine y_iadd hM dL_law_1021 ?_
          refine y_if_le hM (by constructor <;> omega) (tgt := 1044) dL_law_1022 (by decide) (fun c_1022 => ?_) (fun c_1022 => ?_)
          ·
            refine y_lconst hM 0 (by decide) dL_law_1044 ?_
            refine lv_lstore (lv' := [(24, .long (lI (0))), (22, .long (lI (gotT T k 0))), (21, .int (iI (r_978))), (20, .int (iI (T 11 k 3))), (19, .int (iI (0))), (18, .int (iI (lateT T k (T 0 0 5)))), (17, .int (iI ((9) * (((k : Nat) : Int))))), (16, .int (iI (0))), (15, .int (iI (((k : Nat) : Int)))), (14, .int (iI (((sv : Nat) : Int)))), (13, .int (iI (((pv : Nat) : Int)))), (12, .int (iI (kd))), (11, .int (iI (yy))), (10, .int (iI (xx))), (9, .int (iI (((i : Nat) : Int)))), (8, .ref (ad 56 0)), (7, .ref (ad 55 0)), (6, .ref (ad 54 0)), (5, .ref (ad 53 0)), (4, .ref (ad 52 0)), (3, .ref (ad 51 0)), (2, .ref (ad 50 0)), (1, .ref (ad 0 0)), (0, .ref b)]) hM.1 hM.2.1 dL_law_1045 hl (by decide) rfl (fun ls hl => ?_)
            refine y_lload hM hl 1 rfl dL_law_1047 ?_
            refine y_ldc2 hM (v := 100000000) (100000000) (by decide) (by decide +kernel) dL_law_1049 ?_
            refine y_lcmp hM (by constructor <;> omega) (by constructor <;> omega) dL_law_1052 ?_
            have hcl_1052 := cmpI_le (gotT T k 0) (100000000)
            have hcg_1052 := cmpI_gt (gotT T k 0) (100000000)
            have hce_1052 := cmpI_eq (gotT T k 0) (100000000)
            refine y_if_gt hM (cmpI_in _ _) (tgt := 1065) dL_law_1053 (by decide) (fun c_1053 => ?_) (fun c_1053 => ?_)
            ·
              refine y_iconst hM dL_law_1065 ?_
              refine lv_istore (lv' := [(19, .int (iI (3))), (24, .long (lI (0))), (22, .long (lI (gotT T k 0))), (21, .int (iI (r_978))), (20, .int (iI (T 11 k 3))), (18, .int (iI (lateT T k (T 0 0 5)))), (17, .int (iI ((9) * (((k : Nat) : Int))))), (16, .int (iI (0))), (15, .int (iI (((k : Nat) : Int)))), (14, .int (iI (((sv : Nat) : Int)))), (13, .int (iI (((pv : Nat) : Int)))), (12, .int (iI (kd))), (11, .int (iI (yy))), (10, .int (iI (xx))), (9, .int (iI (((i : Nat) : Int)))), (8, .ref (ad 56 0)), (7, .ref (ad 55 0)), (6, .ref (ad 54 0)), (5, .ref (ad 53 0)), (4, .ref (ad 52 0)), (3, .ref (ad 51 0)), (2, .ref (ad 50 0)), (1, .ref (ad 0 0)), (0, .ref b)]) hM.1 hM.2.1 dL_law_1066 hl (by decide) rfl (fun ls hl => ?_)
              refine y_iload hM hl 0 rfl dL_law_1068 ?_
              refine y_if_le hM (by constructor <;> omega) (tgt := 1097) dL_law_1070 (by decide) (fun c_1070 => False.elim (by omega)) (fun c_1070 => ?_)
              refine y_aload_n hM hl 22 rfl rfl dL_law_1073 ?_
              refine y_iload hM hl 7 rfl dL_law_1074 ?_
              refine y_if_eq hM (by constructor <;> omega) (tgt := 1083) dL_law_1076 (by decide) (fun c_1076 => ?_) (fun c_1076 => False.elim (by omega))
              refine y_iconst hM dL_law_1083 ?_
              refine y_iload hM hl 8 rfl dL_law_1084 ?_
              refine y_iconst hM dL_law_1086 ?_
              refine y_callSX hM hN hC (c_ref_step l hfl G b0 ks ad T P (((k : Nat) : Int)) (0) ⟨by omega, by omega⟩ ⟨by omega, by omega⟩ hF hRK hRN hDN hSK hSN hOK hON (by simp only [Int.toNat_natCast]; omega)) (vx_cwSW 4 hM.2.2.2.2 gL_law_L_refused rfl rfl rfl (by decide +kernel) ⟨(Nat.le_of_ble_eq_true rfl), (Nat.le_of_ble_eq_true rfl)⟩) rfl hl.1 rfl (Nat.le_of_ble_eq_true rfl) dL_law_1087 ⟨(show _ ≤ 602294 by omega), (show _ ≤ 7294300 by omega)⟩ (fun E ce q9 u1 H locs hx hC hce hcv hcl => hx.elim) (fun v u1 H locs hp hC => ?_)
              obtain ⟨r_1087, rfl, h_1087, hu⟩ := hp; rw [hu] at hC; clear hu
              try dsimp only at h_1087
              refine W.eq (g2 := F0 m 1090 ls [.int (iI (r_1087))]) rfl ?_
              refine y_iload hM hl 0 rfl dL_law_1090 ?_
              refine y_icmp_eq hM (by constructor <;> omega) (by constructor <;> omega) (tgt := 1643) dL_law_1092 (by decide) (fun c_1092 => ?_) (fun c_1092 => False.elim (by omega))
              exact kn _ _ _ _ _ _ _ _ ls (by omega) (by omega) hC hI ⟨hl.1, hl.2.1, fun q hq => hl.2.2 q ((List.forall_mem_cons.mpr ⟨List.mem_of_getElem? (i := 14) rfl, (List.forall_mem_cons.mpr ⟨List.mem_of_getElem? (i := 15) rfl, (List.forall_mem_cons.mpr ⟨List.mem_of_getElem? (i := 16) rfl, (List.forall_mem_cons.mpr ⟨List.mem_of_getElem? (i := 17) rfl, (List.forall_mem_cons.mpr ⟨List.mem_of_getElem? (i := 18) rfl, (List.forall_mem_cons.mpr ⟨List.mem_of_getElem? (i := 19) rfl, (List.forall_mem_cons.mpr ⟨List.mem_of_getElem? (i := 20) rfl, (List.forall_mem_cons.mpr ⟨List.mem_of_getElem? (i := 21) rfl, (List.forall_mem_cons.mpr ⟨List.mem_of_getElem? (i := 22) rfl, (List.forall_mem_cons.mpr ⟨List.mem_of_getElem? (i := 23) rfl, (fun _ h => absurd h List.not_mem_nil)⟩)⟩)⟩)⟩)⟩)⟩)⟩)⟩)⟩)⟩) q hq)⟩
            ·
              refine y_lload hM hl 0 rfl dL_law_1056 ?_
              refine y_ldc2 hM (v := 100000000) (100000000) (by decide) (by decide +kernel) dL_law_1058 ?_
              refine y_lcmp hM (by constructor <;> omega) (by constructor <;> omega) dL_law_1061 ?_
              have hcl_1061 := cmpI_le (0) (100000000)
              have hcg_1061 := cmpI_gt (0) (100000000)
              have hce_1061 := cmpI_eq (0) (100000000)
              refine y_if_le hM (cmpI_in _ _) (tgt := 1068) dL_law_1062 (by decide) (fun c_1062 => ?_) (fun c_1062 => False.elim (by omega))
              refine y_iload hM hl 4 rfl dL_law_1068 ?_
              refine y_if_le hM (by constructor <;> omega) (tgt := 1097) dL_law_1070 (by decide) (fun c_1070 => ?_) (fun c_1070 => False.elim (by omega))
              refine y_iload hM hl 3 rfl dL_law_1097 ?_
              refine y_if_ne hM (by constructor <;> omega) (tgt := 1126) dL_law_1099 (by decide) (fun c_1099 => ?_) (fun c_1099 => False.elim (by omega))
              refine y_iload hM hl 3 rfl dL_law_1126 ?_
              refine y_iconst hM dL_law_1128 ?_
              refine y_icmp_ne hM (by constructor <;> omega) (by constructor <;> omega) (tgt := 1231) dL_law_1129 (by decide) (fun c_1129 => ?_) (fun c_1129 => False.elim (by omega))
              refine y_aload hM hl 17 rfl dL_law_1231 ?_
              refine y_iconst hM dL_law_1233 ?_
              refine y_iload hM hl 8 rfl dL_law_1234 ?_
              refine y_imul hM dL_law_1236 ?_
              refine y_iconst hM dL_law_1237 ?_
              refine y_iadd hM dL_law_1238 ?_
              refine y_lald hM hC hLK.2.2.2.2.1 rfl ⟨by omega, by omega⟩ (by decide) (x := T 11 k 8) (by rw [show (((4) * (((k : Nat) : Int))) + (1) : Int).toNat = 4 * k + 1 from by omega, ho.2.2.2.2.2.2.2.2.2.2.2.1]) dL_law_1239 ?_
              refine y_ldc2 hM (v := 1000) (1000) (by decide) (by decide +kernel) dL_law_1240 ?_
              refine y_lmul hM dL_law_1243 ?_
              refine y_iload hM hl 7 rfl dL_law_1244 ?_
              refine y_if_eq hM (by constructor <;> omega) (tgt := 1256) dL_law_1246 (by decide) (fun c_1246 => ?_) (fun c_1246 => False.elim (by omega))
              refine y_aload_n hM hl 21 rfl rfl dL_law_1256 ?_
              refine y_aload hM hl 18 rfl dL_law_1257 ?_
              refine y_iload hM hl 6 rfl dL_law_1259 ?_
              refine y_iconst hM dL_law_1261 ?_
              refine y_iadd hM dL_law_1262 ?_
              refine y_iald hM hC hLK.2.2.2.1 rfl ⟨by omega, by omega⟩ (by decide) (x := T 11 k 2) (by rw [show (((9) * (((k : Nat) : Int))) + (2) : Int).toNat = 9 * k + 2 from by omega, ho.2.2.1]) dL_law_1263 ?_
              refine y_aload hM hl 15 rfl dL_law_1264 ?_
              refine y_iconst hM dL_law_1266 ?_
              refine y_iald hM hC hLK.2.2.2.2.2.2 rfl ⟨by omega, by omega⟩ (by decide) (x := T 0 0 5) (by rw [show ((3 : Int)).toNat = 3 from rfl, hg3]) dL_law_1267 ?_
              refine y_callS hM hC (c_L_price l hfl G b0 ks ad T P (T 11 k 2) (T 0 0 5) ⟨by omega, by omega⟩ ⟨by omega, by omega⟩ hLK.1 hRP) (va_cwS 3 hM.2.2.2.2 gL_law_L_price rfl rfl rfl (by decide +kernel) ⟨(Nat.le_of_ble_eq_true rfl), (Nat.le_of_ble_eq_true rfl)⟩) rfl hl.1 rfl (Nat.le_of_ble_eq_true rfl) dL_law_1268 ⟨(show _ ≤ 602294 by omega), (show _ ≤ 7294300 by omega)⟩ (fun E ce q9 u1 H locs hx hC hce hcv hcl => hx.elim) (fun v u1 H locs hp hC => ?_)
              obtain ⟨r_1268, rfl, h_1268, hu⟩ := hp; rw [hu] at hC; clear hu
              try dsimp only at h_1268
              refine W.eq (g2 := F0 m 1271 ls [.int (iI (r_1268)), .long (lI ((T 11 k 8) * (1000)))]) rfl ?_
              have hv_1268 := valT_in hRN (p := (T 11 k 2).toNat) (by omega) (T 0 0 5)
              refine y_i2l hM (by constructor <;> omega) dL_law_1271 ?_
              refine y_ldiv hM ⟨by omega, by omega, by omega, by omega⟩ dL_law_1272 ?_
              rw [show ((T 11 k 8) * (1000)) / (r_1268) = gotT T k 0 from (by rw [h_1268]; unfold gotT prF; rw [if_pos rfl]; rfl)]
              refine lv_lstore (lv' := [(21, .long (lI (gotT T k 0))), (24, .long (lI (0))), (20, .int (iI (T 11 k 3))), (19, .int (iI (0))), (18, .int (iI (lateT T k (T 0 0 5)))), (17, .int (iI ((9) * (((k : Nat) : Int))))), (16, .int (iI (0))), (15, .int (iI (((k : Nat) : Int)))), (14, .int (iI (((sv : Nat) : Int)))), (13, .int (iI (((pv : Nat) : Int)))), (12, .int (iI (kd))), (11, .int (iI (yy))), (10, .int (iI (xx))), (9, .int (iI (((i : Nat) : Int)))), (8, .ref (ad 56 0)), (7, .ref (ad 55 0)), (6, .ref (ad 54 0)), (5, .ref (ad 53 0)), (4, .ref (ad 52 0)), (3, .ref (ad 51 0)), (2, .ref (ad 50 0)), (1, .ref (ad 0 0)), (0, .ref b)]) hM.1 hM.2.1 dL_law_1273 hl (by decide) rfl (fun ls hl => ?_)
              refine y_aload hM hl 17 rfl dL_law_1275 ?_
              refine y_iload hM hl 5 rfl dL_law_1277 ?_
              refine y_bipush hM dL_law_1279 (by decide) ?_
              refine y_iadd hM dL_law_1281 ?_
              refine y_iald hM hC hLK.2.2.2.1 rfl ⟨by omega, by omega⟩ (by decide) (x := T 53 0 (9 * k + 7)) (by rw [show (((9) * (((k : Nat) : Int))) + (7) : Int).toNat = 9 * k + 7 from by omega]) dL_law_1282 ?_
              refine y_aload hM hl 17 rfl dL_law_1283 ?_
              refine y_iload hM hl 5 rfl dL_law_1285 ?_
              refine y_bipush hM dL_law_1287 (by decide) ?_
              refine y_iadd hM dL_law_1289 ?_
              refine y_iald hM hC hLK.2.2.2.1 rfl ⟨by omega, by omega⟩ (by decide) (x := T 53 0 (9 * k + 8)) (by rw [show (((9) * (((k : Nat) : Int))) + (8) : Int).toNat = 9 * k + 8 from by omega]) dL_law_1290 ?_
              refine y_iadd hM dL_law_1291 ?_
              rw [show (T 53 0 (9 * k + 7)) + (T 53 0 (9 * k + 8)) = T 11 k 5 from (by omega)]
              refine lv_istore (lv' := [(23, .int (iI (T 11 k 5))), (21, .long (lI (gotT T k 0))), (24, .long (lI (0))), (20, .int (iI (T 11 k 3))), (19, .int (iI (0))), (18, .int (iI (lateT T k (T 0 0 5)))), (17, .int (iI ((9) * (((k : Nat) : Int))))), (16, .int (iI (0))), (15, .int (iI (((k : Nat) : Int)))), (14, .int (iI (((sv : Nat) : Int)))), (13, .int (iI (((pv : Nat) : Int)))), (12, .int (iI (kd))), (11, .int (iI (yy))), (10, .int (iI (xx))), (9, .int (iI (((i : Nat) : Int)))), (8, .ref (ad 56 0)), (7, .ref (ad 55 0)), (6, .ref (ad 54 0)), (5, .ref (ad 53 0)), (4, .ref (ad 52 0)), (3, .ref (ad 51 0)), (2, .ref (ad 50 0)), (1, .ref (ad 0 0)), (0, .ref b)]) hM.1 hM.2.1 dL_law_1292 hl (by decide) rfl (fun ls hl => ?_)
              refine y_iload hM hl 0 rfl dL_law_1294 ?_
              refine y_iload hM hl 5 rfl dL_law_1296 ?_
              refine y_iadd hM dL_law_1298 ?_
              refine y_if_le hM (by constructor <;> omega) (tgt := 1321) dL_law_1299 (by decide) (fun c_1299 => ?_) (fun c_1299 => False.elim (by omega))
              refine y_lconst hM 0 (by decide) dL_law_1321 ?_
              refine lv_lstore (lv' := [(24, .long (lI (0))), (23, .int (iI (T 11 k 5))), (21, .long (lI (gotT T k 0))), (20, .int (iI (T 11 k 3))), (19, .int (iI (0))), (18, .int (iI (lateT T k (T 0 0 5)))), (17, .int (iI ((9) * (((k : Nat) : Int))))), (16, .int (iI (0))), (15, .int (iI (((k : Nat) : Int)))), (14, .int (iI (((sv : Nat) : Int)))), (13, .int (iI (((pv : Nat) : Int)))), (12, .int (iI (kd))), (11, .int (iI (yy))), (10, .int (iI (xx))), (9, .int (iI (((i : Nat) : Int)))), (8, .ref (ad 56 0)), (7, .ref (ad 55 0)), (6, .ref (ad 54 0)), (5, .ref (ad 53 0)), (4, .ref (ad 52 0)), (3, .ref (ad 51 0)), (2, .ref (ad 50 0)), (1, .ref (ad 0 0)), (0, .ref b)]) hM.1 hM.2.1 dL_law_1322 hl (by decide) rfl (fun ls hl => ?_)
              refine y_lload hM hl 0 rfl dL_law_1324 ?_
              refine y_lload hM hl 2 rfl dL_law_1326 ?_
              refine y_lcmp hM (by constructor <;> omega) (by constructor <;> omega) dL_law_1328 ?_
              have hcl_1328 := cmpI_le (0) (gotT T k 0)
              have hcg_1328 := cmpI_gt (0) (gotT T k 0)
              have hce_1328 := cmpI_eq (0) (gotT T k 0)
              refine y_if_le hM (cmpI_in _ _) (tgt := 1437) dL_law_1329 (by decide) (fun c_1329 => ?_) (fun c_1329 => False.elim (by omega))
              refine y_aload hM hl 19 rfl dL_law_1437 ?_
              refine y_aload hM hl 18 rfl dL_law_1439 ?_
              refine y_iload hM hl 6 rfl dL_law_1441 ?_
              refine y_iald hM hC hLK.2.2.2.1 rfl ⟨by omega, by omega⟩ (by decide) (x := ((mv : Nat) : Int)) (by rw [show ((9) * (((k : Nat) : Int)) : Int).toNat = 9 * k from by omega, hmv0]) dL_law_1443 ?_
              refine y_lload hM hl 0 rfl dL_law_1444 ?_
              refine y_lload hM hl 2 rfl dL_law_1446 ?_
              refine y_lcmp hM (by constructor <;> omega) (by constructor <;> omega) dL_law_1448 ?_
              have hcl_1448 := cmpI_le (0) (gotT T k 0)
              have hcg_1448 := cmpI_gt (0) (gotT T k 0)
              have hce_1448 := cmpI_eq (0) (gotT T k 0)
              refine y_if_le hM (cmpI_in _ _) (tgt := 1457) dL_law_1449 (by decide) (fun c_1449 => ?_) (fun c_1449 => False.elim (by omega))
              refine y_lload hM hl 2 rfl dL_law_1457 ?_
              refine y_last hM hC hLK.2.2.1 (fun _ _ => rfl) ⟨by omega, by omega⟩ (by decide) dL_law_1459 (fun H locs hC => ?_)
              rw [show (((mv : Nat) : Int) : Int).toNat = mv from by omega] at hC
              refine y_aload_n hM hl 20 rfl rfl dL_law_1460 ?_
              refine y_iconst hM dL_law_1461 ?_
              refine y_aload hM hl 18 rfl dL_law_1462 ?_
              refine y_iload hM hl 6 rfl dL_law_1464 ?_
              refine y_iald hM hC hLK.2.2.2.1 rfl ⟨by omega, by omega⟩ (by decide) (x := ((mv : Nat) : Int)) (by rw [show ((9) * (((k : Nat) : Int)) : Int).toNat = 9 * k from by omega, up_of (by omega), hmv0]) dL_law_1466 ?_
              refine y_imul hM dL_law_1467 ?_
              refine y_aload hM hl 18 rfl dL_law_1468 ?_
              refine y_iload hM hl 6 rfl dL_law_1470 ?_
              refine y_iconst hM dL_law_1472 ?_
              refine y_iadd hM dL_law_1473 ?_
              refine y_iald hM hC hLK.2.2.2.1 rfl ⟨by omega, by omega⟩ (by decide) (x := T 11 k 2) (by rw [show (((9) * (((k : Nat) : Int))) + (2) : Int).toNat = 9 * k + 2 from by omega, up_of (by omega), ho.2.2.1]) dL_law_1474 ?_
              refine y_iast hM hC hLK.2.1 (fun _ _ => rfl) ⟨by omega, by omega⟩ (by decide) dL_law_1475 (fun H locs hC => ?_)
              rw [show ((2) * (((mv : Nat) : Int)) : Int).toNat = 2 * mv from by omega] at hC
              refine y_aload_n hM hl 20 rfl rfl dL_law_1476 ?_
              refine y_iconst hM dL_law_1477 ?_
              refine y_aload hM hl 18 rfl dL_law_1478 ?_
              refine y_iload hM hl 6 rfl dL_law_1480 ?_
              refine y_iald hM hC hLK.2.2.2.1 rfl ⟨by omega, by omega⟩ (by decide) (x := ((mv : Nat) : Int)) (by rw [show ((9) * (((k : Nat) : Int)) : Int).toNat = 9 * k from by omega, up_of (by omega), up_of (by omega), hmv0]) dL_law_1482 ?_
              refine y_imul hM dL_law_1483 ?_
              refine y_iconst hM dL_law_1484 ?_
              refine y_iadd hM dL_law_1485 ?_
              refine y_iconst hM dL_law_1486 ?_
              refine y_iast hM hC hLK.2.1 (fun _ _ => rfl) ⟨by omega, by omega⟩ (by decide) dL_law_1487 (fun H locs hC => ?_)
              rw [show (((2) * (((mv : Nat) : Int))) + (1) : Int).toNat = 2 * mv + 1 from by omega] at hC
              refine y_aload hM hl 17 rfl dL_law_1488 ?_
              refine y_iconst hM dL_law_1490 ?_
              refine y_iload hM hl 8 rfl dL_law_1491 ?_
              refine y_imul hM dL_law_1493 ?_
              refine y_iconst hM dL_law_1494 ?_
              refine y_iadd hM dL_law_1495 ?_
              refine y_iload hM hl 5 rfl dL_law_1496 ?_
              refine y_i2l hM (by constructor <;> omega) dL_law_1498 ?_
              refine y_last hM hC hLK.2.2.2.2.1 (fun _ _ => rfl) ⟨by omega, by omega⟩ (by decide) dL_law_1499 (fun H locs hC => ?_)
              rw [show (((4) * (((k : Nat) : Int))) + (3) : Int).toNat = 4 * k + 3 from by omega] at hC
              refine y_aload hM hl 18 rfl dL_law_1500 ?_
              refine y_iload hM hl 6 rfl dL_law_1502 ?_
              refine y_iconst hM dL_law_1504 ?_
              refine y_iadd hM dL_law_1505 ?_
              refine lv_dup2_11 hM.1 hM.2.1 dL_law_1506 rfl rfl ?_
              refine y_iald hM hC hLK.2.2.2.1 rfl ⟨by omega, by omega⟩ (by decide) (x := T 11 k 3) (by rw [show (((9) * (((k : Nat) : Int))) + (3) : Int).toNat = 9 * k + 3 from by omega, up_of (by omega), up_of (by omega), up_of (by omega), up_of (by omega), ho.2.2.2.1]) dL_law_1507 ?_
              refine y_iconst hM dL_law_1508 ?_
              refine y_iadd hM dL_law_1509 ?_
              refine y_iast hM hC hLK.2.2.2.1 (fun _ _ => rfl) ⟨by omega, by omega⟩ (by decide) dL_law_1510 (fun H locs hC => ?_)
              rw [show (((9) * (((k : Nat) : Int))) + (3) : Int).toNat = 9 * k + 3 from by omega] at hC
              refine y_iload hM hl 7 rfl dL_law_1511 ?_
              refine y_if_eq hM (by constructor <;> omega) (tgt := 1525) dL_law_1513 (by decide) (fun c_1513 => ?_) (fun c_1513 => False.elim (by omega))
              obtain ⟨T1, hT1⟩ : ∃ X : TT, X = (up (up (up (up (up T 52 0 (mv) (gotT T k 0)) 51 0 (2 * mv) (T 11 k 2)) 51 0 (2 * mv + 1) (0)) 54 0 (4 * k + 3) (lateT T k (T 0 0 5))) 53 0 (9 * k + 3) ((T 11 k 3) + (1))) := ⟨_, rfl⟩
              rw [← hT1] at hC
              have hlo : LoE T1 T := by
                rw [hT1]
                exact (((((LoE.r.hi (by decide)).hi (by decide)).hi (by decide)).hi (by decide)).hi (by decide))
              obtain ⟨hCK1, hNC1, hR1, hz1⟩ := hI.mid hlo
              obtain ⟨hF1, hRK1, hSK1, hOK1, hKF1, hLK1⟩ := id hCK1
              obtain ⟨hRN1, hDN1, hSN1, hON1, -, -, -⟩ := id hNC1
              have h05 : T1 0 0 5 = T 0 0 5 := by rw [hz1]
              have h06 : T1 0 0 6 = T 0 0 6 := by rw [hz1]
              have h07 : T1 0 0 7 = T 0 0 7 := by rw [hz1]
              have h08 : T1 0 0 8 = T 0 0 8 := by rw [hz1]
              obtain ⟨m1, m2, m3, m4⟩ := stp_mid hlo k 0
              refine y_aload_n hM hl 22 rfl rfl dL_law_1525 ?_
              refine y_iload hM hl 8 rfl dL_law_1526 ?_
              refine y_callV hM hC (c_step l hfl G b0 ks ad T1 P (((k : Nat) : Int)) ⟨by omega, by omega⟩ hF1 hRK1 hRN1 hDN1 hSK1 hSN1 hOK1 hON1) (cwV 1 hM.2.2.2.2 gL_law_X3_step rfl rfl rfl (by decide +kernel) ⟨(Nat.le_of_ble_eq_true rfl), (Nat.le_of_ble_eq_true rfl)⟩) (y_recv hC hF1.1 rfl rfl) rfl hl.1 rfl (Nat.le_of_ble_eq_true rfl) dL_law_1528 ⟨(show _ ≤ 602294 by omega), (show _ ≤ 7294300 by omega)⟩ (fun E ce q9 u1 H locs hx hC hce hcv hcl => by
                  obtain ⟨x, rfl, hx, hu⟩ := hx; rw [hu] at hC; clear hu; try dsimp only at hx
                  exact False.elim ((by simp only [Int.toNat_natCast, m1, m2, m3, m4, h08] at hx; omega))) (fun v u1 H locs hp hC => ?_)
              obtain ⟨r_1528, rfl, h_1528, hu⟩ := hp; rw [hu] at hC; clear hu
              try dsimp only at h_1528
              refine W.eq (g2 := F0 m 1531 ls [.int (iI (r_1528))]) rfl ?_
              simp only [Int.toNat_natCast, m3] at h_1528
              rw [Int.toNat_natCast] at hC
              refine y_iload hM hl 5 rfl dL_law_1531 ?_
              refine y_icmp_eq hM (by constructor <;> omega) (by constructor <;> omega) (tgt := 1538) dL_law_1533 (by decide) (fun c_1533 => ?_) (fun c_1533 => False.elim (by omega))
              refine lv_goto (tgt := 1608) hM.1 hM.2.1 dL_law_1538 (by decide) ?_
              exact kk _ _ _ _ _ _ _ _ ls (by omega) (by omega) hC (op_stp hI hlo hk8 (by omega) (fun _ => by omega) (fun r1 n1 => by
                    have hlk := hlkz (by omega)
                    have emv : mv = mvT T1 k := by rw [mvT_lo hlo]; exact hmv
                    have e0 : ∀ lb, allL T1 k lb = allL T k lb := fun lb => by unfold allL; rw [m1]
                    have e9 : ∀ p, T1 9 p = T 9 p := fun p => hlo 9 p (by omega)
                    have e3 : T1 3 0 = T 3 0 := hlo 3 0 (by omega)
                    refine R2_s2 (M := T) (M' := T1) (k := k) (i := mv) (f := 0) r1 n1 (by omega) ⟨emv, by omega⟩ (by rw [m1]; omega) ?_ ?_ ?_ ?_ ?_ ?_ ?_ ?_ ?_ ?_ ?_ ?_ ?_ ?_
                    · intro j hj
                      rw [hT1, up_of (by omega), up_of (by omega), up_of (by omega), up_of (by omega), up_of (by omega)]
                    · rw [hT1, up_at rfl]
                      omega
                    · intro j hj1 hj2
                      rw [hT1, up_of (by omega), up_of (by omega), up_of (by omega), up_of (by omega), up_of (by omega)]
                    · rw [m3, m4, hlk]
                      rw [hT1, up_of (by omega), up_of (by omega), up_of (by omega), up_of (by omega), up_of (by omega)]
                      have h9 := ho.2.2.2.2.2.2.2.2.2.2.2.2.1
                      have h15 := ho.2.2.2.2.2.2.2.2.2.2.2.2.2.2 (by omega)
                      omega
                    · rw [m3]
                      rw [hT1, up_of (by omega), up_at rfl]
                    · intro j hj
                      rw [hT1, up_of (by omega), up_of (by omega), up_of (by omega), up_of (by omega), up_of (by omega)]
                    · rw [m2, m3, m4, hlk]
                      rw [hT1, up_of (by omega), up_of (by omega), up_of (by omega), up_of (by omega), up_at rfl]
                      try omega
                    · intro j hj1 hj2
                      rw [hT1, up_of (by omega), up_of (by omega), up_of (by omega), up_of (by omega), up_of (by omega)]
                    · rw [m1]
                      rw [hT1, up_of (by omega), up_of (by omega), up_of (by omega), up_at rfl]
                    · rw [hT1, up_of (by omega), up_of (by omega), up_at rfl]
                    · intro p q hp hq
                      rw [buyT_9, e0, m3, m4, m1, e9, hlk, coF_0, Int.zero_mul, Int.zero_ediv, ite_self, ite_self, hT1, up_of (by omega), up_of (by omega), up_of (by omega), up_of (by omega), up_of (by omega), hRD.1 p q hp hq]
                      omega
                    · intro p hp
                      rw [buyT_r, e0, m3, m4, m1, e3, hlk, coF_0, Int.zero_mul, Int.zero_ediv, Int.sub_zero, ite_self, ite_self, hT1, up_of (by omega), up_of (by omega), up_of (by omega), up_of (by omega), up_of (by omega), hRD.2 p hp]
                      omega
                    · funext j
                      rw [hT1, up_of (by omega), up_of (by omega), up_of (by omega), up_of (by omega), up_of (by omega)]
                    · funext j
                      rw [hT1, up_of (by omega), up_of (by omega), up_of (by omega), up_of (by omega), up_of (by omega)])) ⟨hl.1, hl.2.1, fun q hq => hl.2.2 q ((List.forall_mem_cons.mpr ⟨List.mem_of_getElem? (i := 12) rfl, (List.forall_mem_cons.mpr ⟨List.mem_of_getElem? (i := 14) rfl, (List.forall_mem_cons.mpr ⟨List.mem_of_getElem? (i := 15) rfl, (List.forall_mem_cons.mpr ⟨List.mem_of_getElem? (i := 16) rfl, (List.forall_mem_cons.mpr ⟨List.mem_of_getElem? (i := 17) rfl, (List.forall_mem_cons.mpr ⟨List.mem_of_getElem? (i := 18) rfl, (List.forall_mem_cons.mpr ⟨List.mem_of_getElem? (i := 19) rfl, (List.forall_mem_cons.mpr ⟨List.mem_of_getElem? (i := 20) rfl, (List.forall_mem_cons.mpr ⟨List.mem_of_getElem? (i := 21) rfl, (List.forall_mem_cons.mpr ⟨List.mem_of_getElem? (i := 22) rfl, (List.forall_mem_cons.mpr ⟨List.mem_of_getElem? (i := 23) rfl, (fun _ h => absurd h List.not_mem_nil)⟩)⟩)⟩)⟩)⟩)⟩)⟩)⟩)⟩)⟩)⟩) q hq)⟩
          ·
            refine y_aload_n hM hl 20 rfl rfl dL_law_1025 ?_
            refine y_aload hM hl 17 rfl dL_law_1026 ?_
            refine y_aload hM hl 16 rfl dL_law_1028 ?_
            refine y_iload hM hl 7 rfl dL_law_1030 ?_
            refine y_aload hM hl 14 rfl dL_law_1032 ?_
            refine y_iconst hM dL_law_1034 ?_
            refine y_iald hM hC hLK.2.2.2.2.2.2 rfl ⟨by omega, by omega⟩ (by decide) (x := T 0 0 5) (by rw [show ((3 : Int)).toNat = 3 from rfl, hg3]) dL_law_1035 ?_
            refine y_iload hM hl 4 rfl dL_law_1036 ?_
            refine y_callS hM hC (c_L_timely l hfl G b0 ks ad T P (k) hk8 (lateT T k (T 0 0 5)) ⟨by omega, by omega⟩ (by omega) hLK hNC hR) (va_cwS 6 hM.2.2.2.2 gL_law_L_timely rfl rfl rfl (by decide +kernel) ⟨(Nat.le_of_ble_eq_true rfl), (Nat.le_of_ble_eq_true rfl)⟩) rfl hl.1 rfl (Nat.le_of_ble_eq_true rfl) dL_law_1038 ⟨(show _ ≤ 602294 by omega), (show _ ≤ 7294300 by omega)⟩ (fun E ce q9 u1 H locs hx hC hce hcv hcl => hx.elim) (fun v u1 H locs hp hC => ?_)
            obtain ⟨r_1038, rfl, h_1038, hu⟩ := hp; rw [hu] at hC; clear hu
            try dsimp only at h_1038
            refine W.eq (g2 := F0 m 1041 ls [.long (lI (r_1038))]) rfl ?_
            subst h_1038
            refine lv_goto (tgt := 1045) hM.1 hM.2.1 dL_law_1041 (by decide) ?_
            refine lv_lstore (lv' := [(24, .long (lI (timT T k (T 11 k 5 + lateT T k (T 0 0 5))))), (22, .long (lI (gotT T k 0))), (21, .int (iI (r_978))), (20, .int (iI (T 11 k 3))), (19, .int (iI (0))), (18, .int (iI (lateT T k (T 0 0 5)))), (17, .int (iI ((9) * (((k : Nat) : Int))))), (16, .int (iI (0))), (15, .int (iI (((k : Nat) : Int)))), (14, .int (iI (((sv : Nat) : Int)))), (13, .int (iI (((pv : Nat) : Int)))), (12, .int (iI (kd))), (11, .int (iI (yy))), (10, .int (iI (xx))), (9, .int (iI (((i : Nat) : Int)))), (8, .ref (ad 56 0)), (7, .ref (ad 55 0)), (6, .ref (ad 54 0)), (5, .ref (ad 53 0)), (4, .ref (ad 52 0)), (3, .ref (ad 51 0)), (2, .ref (ad 50 0)), (1, .ref (ad 0 0)), (0, .ref b)]) hM.1 hM.2.1 dL_law_1045 hl (by decide) rfl (fun ls hl => ?_)
            refine y_lload hM hl 1 rfl dL_law_1047 ?_
            refine y_ldc2 hM (v := 100000000) (100000000) (by decide) (by decide +kernel) dL_law_1049 ?_
            refine y_lcmp hM (by constructor <;> omega) (by constructor <;> omega) dL_law_1052 ?_
            have hcl_1052 := cmpI_le (gotT T k 0) (100000000)
            have hcg_1052 := cmpI_gt (gotT T k 0) (100000000)
            have hce_1052 := cmpI_eq (gotT T k 0) (100000000)
            refine y_if_gt hM (cmpI_in _ _) (tgt := 1065) dL_law_1053 (by decide) (fun c_1053 => ?_) (fun c_1053 => ?_)
            ·
              refine y_iconst hM dL_law_1065 ?_
              refine lv_istore (lv' := [(19, .int (iI (3))), (24, .long (lI (timT T k (T 11 k 5 + lateT T k (T 0 0 5))))), (22, .long (lI (gotT T k 0))), (21, .int (iI (r_978))), (20, .int (iI (T 11 k 3))), (18, .int (iI (lateT T k (T 0 0 5)))), (17, .int (iI ((9) * (((k : Nat) : Int))))), (16, .int (iI (0))), (15, .int (iI (((k : Nat) : Int)))), (14, .int (iI (((sv : Nat) : Int)))), (13, .int (iI (((pv : Nat) : Int)))), (12, .int (iI (kd))), (11, .int (iI (yy))), (10, .int (iI (xx))), (9, .int (iI (((i : Nat) : Int)))), (8, .ref (ad 56 0)), (7, .ref (ad 55 0)), (6, .ref (ad 54 0)), (5, .ref (ad 53 0)), (4, .ref (ad 52 0)), (3, .ref (ad 51 0)), (2, .ref (ad 50 0)), (1, .ref (ad 0 0)), (0, .ref b)]) hM.1 hM.2.1 dL_law_1066 hl (by decide) rfl (fun ls hl => ?_)
              refine y_iload hM hl 0 rfl dL_law_1068 ?_
              refine y_if_le hM (by constructor <;> omega) (tgt := 1097) dL_law_1070 (by decide) (fun c_1070 => False.elim (by omega)) (fun c_1070 => ?_)
              refine y_aload_n hM hl 22 rfl rfl dL_law_1073 ?_
              refine y_iload hM hl 7 rfl dL_law_1074 ?_
              refine y_if_eq hM (by constructor <;> omega) (tgt := 1083) dL_law_1076 (by decide) (fun c_1076 => ?_) (fun c_1076 => False.elim (by omega))
              refine y_iconst hM dL_law_1083 ?_
              refine y_iload hM hl 8 rfl dL_law_1084 ?_
              refine y_iconst hM dL_law_1086 ?_
              refine y_callSX hM hN hC (c_ref_step l hfl G b0 ks ad T P (((k : Nat) : Int)) (0) ⟨by omega, by omega⟩ ⟨by omega, by omega⟩ hF hRK hRN hDN hSK hSN hOK hON (by simp only [Int.toNat_natCast]; omega)) (vx_cwSW 4 hM.2.2.2.2 gL_law_L_refused rfl rfl rfl (by decide +kernel) ⟨(Nat.le_of_ble_eq_true rfl), (Nat.le_of_ble_eq_true rfl)⟩) rfl hl.1 rfl (Nat.le_of_ble_eq_true rfl) dL_law_1087 ⟨(show _ ≤ 602294 by omega), (show _ ≤ 7294300 by omega)⟩ (fun E ce q9 u1 H locs hx hC hce hcv hcl => hx.elim) (fun v u1 H locs hp hC => ?_)
              obtain ⟨r_1087, rfl, h_1087, hu⟩ := hp; rw [hu] at hC; clear hu
              try dsimp only at h_1087
              refine W.eq (g2 := F0 m 1090 ls [.int (iI (r_1087))]) rfl ?_
              refine y_iload hM hl 0 rfl dL_law_1090 ?_
              refine y_icmp_eq hM (by constructor <;> omega) (by constructor <;> omega) (tgt := 1643) dL_law_1092 (by decide) (fun c_1092 => ?_) (fun c_1092 => False.elim (by omega))
              exact kn _ _ _ _ _ _ _ _ ls (by omega) (by omega) hC hI ⟨hl.1, hl.2.1, fun q hq => hl.2.2 q ((List.forall_mem_cons.mpr ⟨List.mem_of_getElem? (i := 14) rfl, (List.forall_mem_cons.mpr ⟨List.mem_of_getElem? (i := 15) rfl, (List.forall_mem_cons.mpr ⟨List.mem_of_getElem? (i := 16) rfl, (List.forall_mem_cons.mpr ⟨List.mem_of_getElem? (i := 17) rfl, (List.forall_mem_cons.mpr ⟨List.mem_of_getElem? (i := 18) rfl, (List.forall_mem_cons.mpr ⟨List.mem_of_getElem? (i := 19) rfl, (List.forall_mem_cons.mpr ⟨List.mem_of_getElem? (i := 20) rfl, (List.forall_mem_cons.mpr ⟨List.mem_of_getElem? (i := 21) rfl, (List.forall_mem_cons.mpr ⟨List.mem_of_getElem? (i := 22) rfl, (List.forall_mem_cons.mpr ⟨List.mem_of_getElem? (i := 23) rfl, (fun _ h => absurd h List.not_mem_nil)⟩)⟩)⟩)⟩)⟩)⟩)⟩)⟩)⟩)⟩) q hq)⟩
            ·
              refine y_lload hM hl 0 rfl dL_law_1056 ?_
              refine y_ldc2 hM (v := 100000000) (100000000) (by decide) (by decide +kernel) dL_law_1058 ?_
              refine y_lcmp hM (by constructor <;> omega) (by constructor <;> omega) dL_law_1061 ?_
              have hcl_1061 := cmpI_le (timT T k (T 11 k 5 + lateT T k (T 0 0 5))) (100000000)
              have hcg_1061 := cmpI_gt (timT T k (T 11 k 5 + lateT T k (T 0 0 5))) (100000000)
              have hce_1061 := cmpI_eq (timT T k (T 11 k 5 + lateT T k (T 0 0 5))) (100000000)
              refine y_if_le hM (cmpI_in _ _) (tgt := 1068) dL_law_1062 (by decide) (fun c_1062 => ?_) (fun c_1062 => ?_)
              ·
                refine y_iload hM hl 4 rfl dL_law_1068 ?_
                refine y_if_le hM (by constructor <;> omega) (tgt := 1097) dL_law_1070 (by decide) (fun c_1070 => ?_) (fun c_1070 => False.elim (by omega))
                refine y_iload hM hl 3 rfl dL_law_1097 ?_
                refine y_if_ne hM (by constructor <;> omega) (tgt := 1126) dL_law_1099 (by decide) (fun c_1099 => ?_) (fun c_1099 => False.elim (by omega))
                refine y_iload hM hl 3 rfl dL_law_1126 ?_
                refine y_iconst hM dL_law_1128 ?_
                refine y_icmp_ne hM (by constructor <;> omega) (by constructor <;> omega) (tgt := 1231) dL_law_1129 (by decide) (fun c_1129 => ?_) (fun c_1129 => False.elim (by omega))
                refine y_aload hM hl 17 rfl dL_law_1231 ?_
                refine y_iconst hM dL_law_1233 ?_
                refine y_iload hM hl 8 rfl dL_law_1234 ?_
                refine y_imul hM dL_law_1236 ?_
                refine y_iconst hM dL_law_1237 ?_
                refine y_iadd hM dL_law_1238 ?_
                refine y_lald hM hC hLK.2.2.2.2.1 rfl ⟨by omega, by omega⟩ (by decide) (x := T 11 k 8) (by rw [show (((4) * (((k : Nat) : Int))) + (1) : Int).toNat = 4 * k + 1 from by omega, ho.2.2.2.2.2.2.2.2.2.2.2.1]) dL_law_1239 ?_
                refine y_ldc2 hM (v := 1000) (1000) (by decide) (by decide +kernel) dL_law_1240 ?_
                refine y_lmul hM dL_law_1243 ?_
                refine y_iload hM hl 7 rfl dL_law_1244 ?_
                refine y_if_eq hM (by constructor <;> omega) (tgt := 1256) dL_law_1246 (by decide) (fun c_1246 => ?_) (fun c_1246 => False.elim (by omega))
                refine y_aload_n hM hl 21 rfl rfl dL_law_1256 ?_
                refine y_aload hM hl 18 rfl dL_law_1257 ?_
                refine y_iload hM hl 6 rfl dL_law_1259 ?_
                refine y_iconst hM dL_law_1261 ?_
                refine y_iadd hM dL_law_1262 ?_
                refine y_iald hM hC hLK.2.2.2.1 rfl ⟨by omega, by omega⟩ (by decide) (x := T 11 k 2) (by rw [show (((9) * (((k : Nat) : Int))) + (2) : Int).toNat = 9 * k + 2 from by omega, ho.2.2.1]) dL_law_1263 ?_
                refine y_aload hM hl 15 rfl dL_law_1264 ?_
                refine y_iconst hM dL_law_1266 ?_
                refine y_iald hM hC hLK.2.2.2.2.2.2 rfl ⟨by omega, by omega⟩ (by decide) (x := T 0 0 5) (by rw [show ((3 : Int)).toNat = 3 from rfl, hg3]) dL_law_1267 ?_
                refine y_callS hM hC (c_L_price l hfl G b0 ks ad T P (T 11 k 2) (T 0 0 5) ⟨by omega, by omega⟩ ⟨by omega, by omega⟩ hLK.1 hRP) (va_cwS 3 hM.2.2.2.2 gL_law_L_price rfl rfl rfl (by decide +kernel) ⟨(Nat.le_of_ble_eq_true rfl), (Nat.le_of_ble_eq_true rfl)⟩) rfl hl.1 rfl (Nat.le_of_ble_eq_true rfl) dL_law_1268 ⟨(show _ ≤ 602294 by omega), (show _ ≤ 7294300 by omega)⟩ (fun E ce q9 u1 H locs hx hC hce hcv hcl => hx.elim) (fun v u1 H locs hp hC => ?_)
                obtain ⟨r_1268, rfl, h_1268, hu⟩ := hp; rw [hu] at hC; clear hu
                try dsimp only at h_1268
                refine W.eq (g2 := F0 m 1271 ls [.int (iI (r_1268)), .long (lI ((T 11 k 8) * (1000)))]) rfl ?_
                have hv_1268 := valT_in hRN (p := (T 11 k 2).toNat) (by omega) (T 0 0 5)
                refine y_i2l hM (by constructor <;> omega) dL_law_1271 ?_
                refine y_ldiv hM ⟨by omega, by omega, by omega, by omega⟩ dL_law_1272 ?_
                rw [show ((T 11 k 8) * (1000)) / (r_1268) = gotT T k 0 from (by rw [h_1268]; unfold gotT prF; rw [if_pos rfl]; rfl)]
                refine lv_lstore (lv' := [(21, .long (lI (gotT T k 0))), (24, .long (lI (timT T k (T 11 k 5 + lateT T k (T 0 0 5))))), (20, .int (iI (T 11 k 3))), (19, .int (iI (0))), (18, .int (iI (lateT T k (T 0 0 5)))), (17, .int (iI ((9) * (((k : Nat) : Int))))), (16, .int (iI (0))), (15, .int (iI (((k : Nat) : Int)))), (14, .int (iI (((sv : Nat) : Int)))), (13, .int (iI (((pv : Nat) : Int)))), (12, .int (iI (kd))), (11, .int (iI (yy))), (10, .int (iI (xx))), (9, .int (iI (((i : Nat) : Int)))), (8, .ref (ad 56 0)), (7, .ref (ad 55 0)), (6, .ref (ad 54 0)), (5, .ref (ad 53 0)), (4, .ref (ad 52 0)), (3, .ref (ad 51 0)), (2, .ref (ad 50 0)), (1, .ref (ad 0 0)), (0, .ref b)]) hM.1 hM.2.1 dL_law_1273 hl (by decide) rfl (fun ls hl => ?_)
                refine y_aload hM hl 17 rfl dL_law_1275 ?_
                refine y_iload hM hl 5 rfl dL_law_1277 ?_
                refine y_bipush hM dL_law_1279 (by decide) ?_
                refine y_iadd hM dL_law_1281 ?_
                refine y_iald hM hC hLK.2.2.2.1 rfl ⟨by omega, by omega⟩ (by decide) (x := T 53 0 (9 * k + 7)) (by rw [show (((9) * (((k : Nat) : Int))) + (7) : Int).toNat = 9 * k + 7 from by omega]) dL_law_1282 ?_
                refine y_aload hM hl 17 rfl dL_law_1283 ?_
                refine y_iload hM hl 5 rfl dL_law_1285 ?_
                refine y_bipush hM dL_law_1287 (by decide) ?_
                refine y_iadd hM dL_law_1289 ?_
                refine y_iald hM hC hLK.2.2.2.1 rfl ⟨by omega, by omega⟩ (by decide) (x := T 53 0 (9 * k + 8)) (by rw [show (((9) * (((k : Nat) : Int))) + (8) : Int).toNat = 9 * k + 8 from by omega]) dL_law_1290 ?_
                refine y_iadd hM dL_law_1291 ?_
                rw [show (T 53 0 (9 * k + 7)) + (T 53 0 (9 * k + 8)) = T 11 k 5 from (by omega)]
                refine lv_istore (lv' := [(23, .int (iI (T 11 k 5))), (21, .long (lI (gotT T k 0))), (24, .long (lI (timT T k (T 11 k 5 + lateT T k (T 0 0 5))))), (20, .int (iI (T 11 k 3))), (19, .int (iI (0))), (18, .int (iI (lateT T k (T 0 0 5)))), (17, .int (iI ((9) * (((k : Nat) : Int))))), (16, .int (iI (0))), (15, .int (iI (((k : Nat) : Int)))), (14, .int (iI (((sv : Nat) : Int)))), (13, .int (iI (((pv : Nat) : Int)))), (12, .int (iI (kd))), (11, .int (iI (yy))), (10, .int (iI (xx))), (9, .int (iI (((i : Nat) : Int)))), (8, .ref (ad 56 0)), (7, .ref (ad 55 0)), (6, .ref (ad 54 0)), (5, .ref (ad 53 0)), (4, .ref (ad 52 0)), (3, .ref (ad 51 0)), (2, .ref (ad 50 0)), (1, .ref (ad 0 0)), (0, .ref b)]) hM.1 hM.2.1 dL_law_1292 hl (by decide) rfl (fun ls hl => ?_)
                refine y_iload hM hl 0 rfl dL_law_1294 ?_
                refine y_iload hM hl 5 rfl dL_law_1296 ?_
                refine y_iadd hM dL_law_1298 ?_
                refine y_if_le hM (by constructor <;> omega) (tgt := 1321) dL_law_1299 (by decide) (fun c_1299 => False.elim (by omega)) (fun c_1299 => ?_)
                refine y_aload_n hM hl 21 rfl rfl dL_law_1302 ?_
                refine y_aload hM hl 18 rfl dL_law_1303 ?_
                refine y_aload hM hl 17 rfl dL_law_1305 ?_
                refine y_iload hM hl 8 rfl dL_law_1307 ?_
                refine y_aload hM hl 15 rfl dL_law_1309 ?_
                refine y_iconst hM dL_law_1311 ?_
                refine y_iald hM hC hLK.2.2.2.2.2.2 rfl ⟨by omega, by omega⟩ (by decide) (x := T 0 0 5) (by rw [show ((3 : Int)).toNat = 3 from rfl, hg3]) dL_law_1312 ?_
                refine y_iload hM hl 5 rfl dL_law_1313 ?_
                refine y_callS hM hC (c_L_timely l hfl G b0 ks ad T P (k) hk8 (lateT T k (T 0 0 5)) ⟨by omega, by omega⟩ (by omega) hLK hNC hR) (va_cwS 6 hM.2.2.2.2 gL_law_L_timely rfl rfl rfl (by decide +kernel) ⟨(Nat.le_of_ble_eq_true rfl), (Nat.le_of_ble_eq_true rfl)⟩) rfl hl.1 rfl (Nat.le_of_ble_eq_true rfl) dL_law_1315 ⟨(show _ ≤ 602294 by omega), (show _ ≤ 7294300 by omega)⟩ (fun E ce q9 u1 H locs hx hC hce hcv hcl => hx.elim) (fun v u1 H locs hp hC => ?_)
                obtain ⟨r_1315, rfl, h_1315, hu⟩ := hp; rw [hu] at hC; clear hu
                try dsimp only at h_1315
                refine W.eq (g2 := F0 m 1318 ls [.long (lI (r_1315))]) rfl ?_
                subst h_1315
                refine lv_goto (tgt := 1322) hM.1 hM.2.1 dL_law_1318 (by decide) ?_
                refine lv_lstore (lv' := [(24, .long (lI (timT T k (T 11 k 5 + lateT T k (T 0 0 5))))), (23, .int (iI (T 11 k 5))), (21, .long (lI (gotT T k 0))), (20, .int (iI (T 11 k 3))), (19, .int (iI (0))), (18, .int (iI (lateT T k (T 0 0 5)))), (17, .int (iI ((9) * (((k : Nat) : Int))))), (16, .int (iI (0))), (15, .int (iI (((k : Nat) : Int)))), (14, .int (iI (((sv : Nat) : Int)))), (13, .int (iI (((pv : Nat) : Int)))), (12, .int (iI (kd))), (11, .int (iI (yy))), (10, .int (iI (xx))), (9, .int (iI (((i : Nat) : Int)))), (8, .ref (ad 56 0)), (7, .ref (ad 55 0)), (6, .ref (ad 54 0)), (5, .ref (ad 53 0)), (4, .ref (ad 52 0)), (3, .ref (ad 51 0)), (2, .ref (ad 50 0)), (1, .ref (ad 0 0)), (0, .ref b)]) hM.1 hM.2.1 dL_law_1322 hl (by decide) rfl (fun ls hl => ?_)
                refine y_lload hM hl 0 rfl dL_law_1324 ?_
                refine y_lload hM hl 2 rfl dL_law_1326 ?_
                refine y_lcmp hM (by constructor <;> omega) (by constructor <;> omega) dL_law_1328 ?_
                have hcl_1328 := cmpI_le (timT T k (T 11 k 5 + lateT T k (T 0 0 5))) (gotT T k 0)
                have hcg_1328 := cmpI_gt (timT T k (T 11 k 5 + lateT T k (T 0 0 5))) (gotT T k 0)
                have hce_1328 := cmpI_eq (timT T k (T 11 k 5 + lateT T k (T 0 0 5))) (gotT T k 0)
                refine y_if_le hM (cmpI_in _ _) (tgt := 1437) dL_law_1329 (by decide) (fun c_1329 => ?_) (fun c_1329 => ?_)
                ·
                  refine y_aload hM hl 19 rfl dL_law_1437 ?_
                  refine y_aload hM hl 18 rfl dL_law_1439 ?_
                  refine y_iload hM hl 6 rfl dL_law_1441 ?_
                  refine y_iald hM hC hLK.2.2.2.1 rfl ⟨by omega, by omega⟩ (by decide) (x := ((mv : Nat) : Int)) (by rw [show ((9) * (((k : Nat) : Int)) : Int).toNat = 9 * k from by omega, hmv0]) dL_law_1443 ?_
                  refine y_lload hM hl 0 rfl dL_law_1444 ?_
                  refine y_lload hM hl 2 rfl dL_law_1446 ?_
                  refine y_lcmp hM (by constructor <;> omega) (by constructor <;> omega) dL_law_1448 ?_
                  have hcl_1448 := cmpI_le (timT T k (T 11 k 5 + lateT T k (T 0 0 5))) (gotT T k 0)
                  have hcg_1448 := cmpI_gt (timT T k (T 11 k 5 + lateT T k (T 0 0 5))) (gotT T k 0)
                  have hce_1448 := cmpI_eq (timT T k (T 11 k 5 + lateT T k (T 0 0 5))) (gotT T k 0)
                  refine y_if_le hM (cmpI_in _ _) (tgt := 1457) dL_law_1449 (by decide) (fun c_1449 => ?_) (fun c_1449 => False.elim (by omega))
                  refine y_lload hM hl 2 rfl dL_law_1457 ?_
                  refine y_last hM hC hLK.2.2.1 (fun _ _ => rfl) ⟨by omega, by omega⟩ (by decide) dL_law_1459 (fun H locs hC => ?_)
                  rw [show (((mv : Nat) : Int) : Int).toNat = mv from by omega] at hC
                  refine y_aload_n hM hl 20 rfl rfl dL_law_1460 ?_
                  refine y_iconst hM dL_law_1461 ?_
                  refine y_aload hM hl 18 rfl dL_law_1462 ?_
                  refine y_iload hM hl 6 rfl dL_law_1464 ?_
                  refine y_iald hM hC hLK.2.2.2.1 rfl ⟨by omega, by omega⟩ (by decide) (x := ((mv : Nat) : Int)) (by rw [show ((9) * (((k : Nat) : Int)) : Int).toNat = 9 * k from by omega, up_of (by omega), hmv0]) dL_law_1466 ?_
                  refine y_imul hM dL_law_1467 ?_
                  refine y_aload hM hl 18 rfl dL_law_1468 ?_
                  refine y_iload hM hl 6 rfl dL_law_1470 ?_
                  refine y_iconst hM dL_law_1472 ?_
                  refine y_iadd hM dL_law_1473 ?_
                  refine y_iald hM hC hLK.2.2.2.1 rfl ⟨by omega, by omega⟩ (by decide) (x := T 11 k 2) (by rw [show (((9) * (((k : Nat) : Int))) + (2) : Int).toNat = 9 * k + 2 from by omega, up_of (by omega), ho.2.2.1]) dL_law_1474 ?_
                  refine y_iast hM hC hLK.2.1 (fun _ _ => rfl) ⟨by omega, by omega⟩ (by decide) dL_law_1475 (fun H locs hC => ?_)
                  rw [show ((2) * (((mv : Nat) : Int)) : Int).toNat = 2 * mv from by omega] at hC
                  refine y_aload_n hM hl 20 rfl rfl dL_law_1476 ?_
                  refine y_iconst hM dL_law_1477 ?_
                  refine y_aload hM hl 18 rfl dL_law_1478 ?_
                  refine y_iload hM hl 6 rfl dL_law_1480 ?_
                  refine y_iald hM hC hLK.2.2.2.1 rfl ⟨by omega, by omega⟩ (by decide) (x := ((mv : Nat) : Int)) (by rw [show ((9) * (((k : Nat) : Int)) : Int).toNat = 9 * k from by omega, up_of (by omega), up_of (by omega), hmv0]) dL_law_1482 ?_
                  refine y_imul hM dL_law_1483 ?_
                  refine y_iconst hM dL_law_1484 ?_
                  refine y_iadd hM dL_law_1485 ?_
                  refine y_iconst hM dL_law_1486 ?_
                  refine y_iast hM hC hLK.2.1 (fun _ _ => rfl) ⟨by omega, by omega⟩ (by decide) dL_law_1487 (fun H locs hC => ?_)
                  rw [show (((2) * (((mv : Nat) : Int))) + (1) : Int).toNat = 2 * mv + 1 from by omega] at hC
                  refine y_aload hM hl 17 rfl dL_law_1488 ?_
                  refine y_iconst hM dL_law_1490 ?_
                  refine y_iload hM hl 8 rfl dL_law_1491 ?_
                  refine y_imul hM dL_law_1493 ?_
                  refine y_iconst hM dL_law_1494 ?_
                  refine y_iadd hM dL_law_1495 ?_
                  refine y_iload hM hl 5 rfl dL_law_1496 ?_
                  refine y_i2l hM (by constructor <;> omega) dL_law_1498 ?_
                  refine y_last hM hC hLK.2.2.2.2.1 (fun _ _ => rfl) ⟨by omega, by omega⟩ (by decide) dL_law_1499 (fun H locs hC => ?_)
                  rw [show (((4) * (((k : Nat) : Int))) + (3) : Int).toNat = 4 * k + 3 from by omega] at hC
                  refine y_aload hM hl 18 rfl dL_law_1500 ?_
                  refine y_iload hM hl 6 rfl dL_law_1502 ?_
                  refine y_iconst hM dL_law_1504 ?_
                  refine y_iadd hM dL_law_1505 ?_
                  refine lv_dup2_11 hM.1 hM.2.1 dL_law_1506 rfl rfl ?_
                  refine y_iald hM hC hLK.2.2.2.1 rfl ⟨by omega, by omega⟩ (by decide) (x := T 11 k 3) (by rw [show (((9) * (((k : Nat) : Int))) + (3) : Int).toNat = 9 * k + 3 from by omega, up_of (by omega), up_of (by omega), up_of (by omega), up_of (by omega), ho.2.2.2.1]) dL_law_1507 ?_
                  refine y_iconst hM dL_law_1508 ?_
                  refine y_iadd hM dL_law_1509 ?_
                  refine y_iast hM hC hLK.2.2.2.1 (fun _ _ => rfl) ⟨by omega, by omega⟩ (by decide) dL_law_1510 (fun H locs hC => ?_)
                  rw [show (((9) * (((k : Nat) : Int))) + (3) : Int).toNat = 9 * k + 3 from by omega] at hC
                  refine y_iload hM hl 7 rfl dL_law_1511 ?_
                  refine y_if_eq hM (by constructor <;> omega) (tgt := 1525) dL_law_1513 (by decide) (fun c_1513 => ?_) (fun c_1513 => False.elim (by omega))
                  obtain ⟨T1, hT1⟩ : ∃ X : TT, X = (up (up (up (up (up T 52 0 (mv) (gotT T k 0)) 51 0 (2 * mv) (T 11 k 2)) 51 0 (2 * mv + 1) (0)) 54 0 (4 * k + 3) (lateT T k (T 0 0 5))) 53 0 (9 * k + 3) ((T 11 k 3) + (1))) := ⟨_, rfl⟩
                  rw [← hT1] at hC
                  have hlo : LoE T1 T := by
                    rw [hT1]
                    exact (((((LoE.r.hi (by decide)).hi (by decide)).hi (by decide)).hi (by decide)).hi (by decide))
                  obtain ⟨hCK1, hNC1, hR1, hz1⟩ := hI.mid hlo
                  obtain ⟨hF1, hRK1, hSK1, hOK1, hKF1, hLK1⟩ := id hCK1
                  obtain ⟨hRN1, hDN1, hSN1, hON1, -, -, -⟩ := id hNC1
                  have h05 : T1 0 0 5 = T 0 0 5 := by rw [hz1]
                  have h06 : T1 0 0 6 = T 0 0 6 := by rw [hz1]
                  have h07 : T1 0 0 7 = T 0 0 7 := by rw [hz1]
                  have h08 : T1 0 0 8 = T 0 0 8 := by rw [hz1]
                  obtain ⟨m1, m2, m3, m4⟩ := stp_mid hlo k 0
                  refine y_aload_n hM hl 22 rfl rfl dL_law_1525 ?_
                  refine y_iload hM hl 8 rfl dL_law_1526 ?_
                  refine y_callV hM hC (c_step l hfl G b0 ks ad T1 P (((k : Nat) : Int)) ⟨by omega, by omega⟩ hF1 hRK1 hRN1 hDN1 hSK1 hSN1 hOK1 hON1) (cwV 1 hM.2.2.2.2 gL_law_X3_step rfl rfl rfl (by decide +kernel) ⟨(Nat.le_of_ble_eq_true rfl), (Nat.le_of_ble_eq_true rfl)⟩) (y_recv hC hF1.1 rfl rfl) rfl hl.1 rfl (Nat.le_of_ble_eq_true rfl) dL_law_1528 ⟨(show _ ≤ 602294 by omega), (show _ ≤ 7294300 by omega)⟩ (fun E ce q9 u1 H locs hx hC hce hcv hcl => by
                      obtain ⟨x, rfl, hx, hu⟩ := hx; rw [hu] at hC; clear hu; try dsimp only at hx
                      exact False.elim ((by simp only [Int.toNat_natCast, m1, m2, m3, m4, h08] at hx; omega))) (fun v u1 H locs hp hC => ?_)
                  obtain ⟨r_1528, rfl, h_1528, hu⟩ := hp; rw [hu] at hC; clear hu
                  try dsimp only at h_1528
                  refine W.eq (g2 := F0 m 1531 ls [.int (iI (r_1528))]) rfl ?_
                  simp only [Int.toNat_natCast, m3] at h_1528
                  rw [Int.toNat_natCast] at hC
                  refine y_iload hM hl 5 rfl dL_law_1531 ?_
                  refine y_icmp_eq hM (by constructor <;> omega) (by constructor <;> omega) (tgt := 1538) dL_law_1533 (by decide) (fun c_1533 => ?_) (fun c_1533 => False.elim (by omega))
                  refine lv_goto (tgt := 1608) hM.1 hM.2.1 dL_law_1538 (by decide) ?_
                  exact kk _ _ _ _ _ _ _ _ ls (by omega) (by omega) hC (op_stp hI hlo hk8 (by omega) (fun _ => by omega) (fun r1 n1 => by
                        have hlk := hlkz (by omega)
                        have emv : mv = mvT T1 k := by rw [mvT_lo hlo]; exact hmv
                        have e0 : ∀ lb, allL T1 k lb = allL T k lb := fun lb => by unfold allL; rw [m1]
                        have e9 : ∀ p, T1 9 p = T 9 p := fun p => hlo 9 p (by omega)
                        have e3 : T1 3 0 = T 3 0 := hlo 3 0 (by omega)
                        refine R2_s2 (M := T) (M' := T1) (k := k) (i := mv) (f := 0) r1 n1 (by omega) ⟨emv, by omega⟩ (by rw [m1]; omega) ?_ ?_ ?_ ?_ ?_ ?_ ?_ ?_ ?_ ?_ ?_ ?_ ?_ ?_
                        · intro j hj
                          rw [hT1, up_of (by omega), up_of (by omega), up_of (by omega), up_of (by omega), up_of (by omega)]
                        · rw [hT1, up_at rfl]
                          omega
                        · intro j hj1 hj2
                          rw [hT1, up_of (by omega), up_of (by omega), up_of (by omega), up_of (by omega), up_of (by omega)]
                        · rw [m3, m4, hlk]
                          rw [hT1, up_of (by omega), up_of (by omega), up_of (by omega), up_of (by omega), up_of (by omega)]
                          have h9 := ho.2.2.2.2.2.2.2.2.2.2.2.2.1
                          have h15 := ho.2.2.2.2.2.2.2.2.2.2.2.2.2.2 (by omega)
                          omega
                        · rw [m3]
                          rw [hT1, up_of (by omega), up_at rfl]
                        · intro j hj
                          rw [hT1, up_of (by omega), up_of (by omega), up_of (by omega), up_of (by omega), up_of (by omega)]
                        · rw [m2, m3, m4, hlk]
                          rw [hT1, up_of (by omega), up_of (by omega), up_of (by omega), up_of (by omega), up_at rfl]
                          try omega
                        · intro j hj1 hj2
                          rw [hT1, up_of (by omega), up_of (by omega), up_of (by omega), up_of (by omega), up_of (by omega)]
                        · rw [m1]
                          rw [hT1, up_of (by omega), up_of (by omega), up_of (by omega), up_at rfl]
                        · rw [hT1, up_of (by omega), up_of (by omega), up_at rfl]
                        · intro p q hp hq
                          rw [buyT_9, e0, m3, m4, m1, e9, hlk, coF_0, Int.zero_mul, Int.zero_ediv, ite_self, ite_self, hT1, up_of (by omega), up_of (by omega), up_of (by omega), up_of (by omega), up_of (by omega), hRD.1 p q hp hq]
                          omega
                        · intro p hp
                          rw [buyT_r, e0, m3, m4, m1, e3, hlk, coF_0, Int.zero_mul, Int.zero_ediv, Int.sub_zero, ite_self, ite_self, hT1, up_of (by omega), up_of (by omega), up_of (by omega), up_of (by omega), up_of (by omega), hRD.2 p hp]
                          omega
                        · funext j
                          rw [hT1, up_of (by omega), up_of (by omega), up_of (by omega), up_of (by omega), up_of (by omega)]
                        · funext j
                          rw [hT1, up_of (by omega), up_of (by omega), up_of (by omega), up_of (by omega), up_of (by omega)])) ⟨hl.1, hl.2.1, fun q hq => hl.2.2 q ((List.forall_mem_cons.mpr ⟨List.mem_of_getElem? (i := 12) rfl, (List.forall_mem_cons.mpr ⟨List.mem_of_getElem? (i := 14) rfl, (List.forall_mem_cons.mpr ⟨List.mem_of_getElem? (i := 15) rfl, (List.forall_mem_cons.mpr ⟨List.mem_of_getElem? (i := 16) rfl, (List.forall_mem_cons.mpr ⟨List.mem_of_getElem? (i := 17) rfl, (List.forall_mem_cons.mpr ⟨List.mem_of_getElem? (i := 18) rfl, (List.forall_mem_cons.mpr ⟨List.mem_of_getElem? (i := 19) rfl, (List.forall_mem_cons.mpr ⟨List.mem_of_getElem? (i := 20) rfl, (List.forall_mem_cons.mpr ⟨List.mem_of_getElem? (i := 21) rfl, (List.forall_mem_cons.mpr ⟨List.mem_of_getElem? (i := 22) rfl, (List.forall_mem_cons.mpr ⟨List.mem_of_getElem? (i := 23) rfl, (fun _ h => absurd h List.not_mem_nil)⟩)⟩)⟩)⟩)⟩)⟩)⟩)⟩)⟩)⟩)⟩) q hq)⟩
                ·
                  refine y_lload hM hl 0 rfl dL_law_1332 ?_
                  refine y_lload hM hl 2 rfl dL_law_1334 ?_
                  refine y_lsub hM dL_law_1336 ?_
                  refine y_aload_n hM hl 21 rfl rfl dL_law_1337 ?_
                  refine y_aload hM hl 18 rfl dL_law_1338 ?_
                  refine y_iload hM hl 6 rfl dL_law_1340 ?_
                  refine y_iconst hM dL_law_1342 ?_
                  refine y_iadd hM dL_law_1343 ?_
                  refine y_iald hM hC hLK.2.2.2.1 rfl ⟨by omega, by omega⟩ (by decide) (x := T 11 k 2) (by rw [show (((9) * (((k : Nat) : Int))) + (2) : Int).toNat = 9 * k + 2 from by omega, ho.2.2.1]) dL_law_1344 ?_
                  refine y_aload hM hl 15 rfl dL_law_1345 ?_
                  refine y_iconst hM dL_law_1347 ?_
                  refine y_iald hM hC hLK.2.2.2.2.2.2 rfl ⟨by omega, by omega⟩ (by decide) (x := T 0 0 5) (by rw [show ((3 : Int)).toNat = 3 from rfl, hg3]) dL_law_1348 ?_
                  refine y_callS hM hC (c_L_price l hfl G b0 ks ad T P (T 11 k 2) (T 0 0 5) ⟨by omega, by omega⟩ ⟨by omega, by omega⟩ hLK.1 hRP) (va_cwS 3 hM.2.2.2.2 gL_law_L_price rfl rfl rfl (by decide +kernel) ⟨(Nat.le_of_ble_eq_true rfl), (Nat.le_of_ble_eq_true rfl)⟩) rfl hl.1 rfl (Nat.le_of_ble_eq_true rfl) dL_law_1349 ⟨(show _ ≤ 602294 by omega), (show _ ≤ 7294300 by omega)⟩ (fun E ce q9 u1 H locs hx hC hce hcv hcl => hx.elim) (fun v u1 H locs hp hC => ?_)
                  obtain ⟨r_1349, rfl, h_1349, hu⟩ := hp; rw [hu] at hC; clear hu
                  try dsimp only at h_1349
                  refine W.eq (g2 := F0 m 1352 ls [.int (iI (r_1349)), .long (lI ((timT T k (T 11 k 5 + lateT T k (T 0 0 5))) - (gotT T k 0)))]) rfl ?_
                  have hv_1349 := valT_in hRN (p := (T 11 k 2).toNat) (by omega) (T 0 0 5)
                  have hq1 : 0 ≤ (timT T k (T 11 k 5 + lateT T k (T 0 0 5)) - gotT T k 0) * r_1349 := Int.mul_nonneg (by omega) (by omega)
                  have hq2 : (timT T k (T 11 k 5 + lateT T k (T 0 0 5)) - gotT T k 0) * r_1349 ≤ 100000000 * 10000 := Int.mul_le_mul (by omega) (by omega) (by omega) (by omega)
                  refine y_i2l hM (by constructor <;> omega) dL_law_1352 ?_
                  refine y_lmul hM dL_law_1353 ?_
                  refine y_ldc2 hM (v := 1000) (1000) (by decide) (by decide +kernel) dL_law_1354 ?_
                  refine y_callS hM hC (c_L_up l hfl G b0 (ks, ad, T, P) (((timT T k (T 11 k 5 + lateT T k (T 0 0 5))) - (gotT T k 0)) * (r_1349)) ⟨by omega, by omega⟩) (va_cwS 2 hM.2.2.2.2 gL_law_L_up rfl rfl rfl (by decide +kernel) ⟨(Nat.le_of_ble_eq_true rfl), (Nat.le_of_ble_eq_true rfl)⟩) rfl hl.1 rfl (Nat.le_of_ble_eq_true rfl) dL_law_1357 ⟨(show _ ≤ 602294 by omega), (show _ ≤ 7294300 by omega)⟩ (fun E ce q9 u1 H locs hx hC hce hcv hcl => hx.elim) (fun v u1 H locs hp hC => ?_)
                  obtain ⟨r_1357, rfl, h_1357, hu⟩ := hp; rw [hu] at hC; clear hu
                  try dsimp only at h_1357
                  refine W.eq (g2 := F0 m 1360 ls [.long (lI (r_1357))]) rfl ?_
                  rw [h_1349] at h_1357
                  have e_1357 : r_1357 = coF (timT T k (T 11 k 5 + lateT T k (T 0 0 5)) - gotT T k 0) (valT T (T 11 k 2).toNat (T 0 0 5)) := h_1357
                  clear h_1357
                  subst e_1357
                  have hco := coF_in (u := timT T k (T 11 k 5 + lateT T k (T 0 0 5)) - gotT T k 0) (pr := valT T (T 11 k 2).toNat (T 0 0 5)) ⟨by omega, by omega⟩ ⟨by omega, by omega⟩
                  have hq3 : 0 ≤ coF (timT T k (T 11 k 5 + lateT T k (T 0 0 5)) - gotT T k 0) (valT T (T 11 k 2).toNat (T 0 0 5)) * T 11 k 5 := Int.mul_nonneg (by omega) (by omega)
                  have hq4 : coF (timT T k (T 11 k 5 + lateT T k (T 0 0 5)) - gotT T k 0) (valT T (T 11 k 2).toNat (T 0 0 5)) * T 11 k 5 ≤ 1000000000 * 2000 := Int.mul_le_mul (by omega) (by omega) (by omega) (by omega)
                  refine lv_lstore (lv' := [(26, .long (lI (coF (timT T k (T 11 k 5 + lateT T k (T 0 0 5)) - gotT T k 0) (valT T (T 11 k 2).toNat (T 0 0 5))))), (24, .long (lI (timT T k (T 11 k 5 + lateT T k (T 0 0 5))))), (23, .int (iI (T 11 k 5))), (21, .long (lI (gotT T k 0))), (20, .int (iI (T 11 k 3))), (19, .int (iI (0))), (18, .int (iI (lateT T k (T 0 0 5)))), (17, .int (iI ((9) * (((k : Nat) : Int))))), (16, .int (iI (0))), (15, .int (iI (((k : Nat) : Int)))), (14, .int (iI (((sv : Nat) : Int)))), (13, .int (iI (((pv : Nat) : Int)))), (12, .int (iI (kd))), (11, .int (iI (yy))), (10, .int (iI (xx))), (9, .int (iI (((i : Nat) : Int)))), (8, .ref (ad 56 0)), (7, .ref (ad 55 0)), (6, .ref (ad 54 0)), (5, .ref (ad 53 0)), (4, .ref (ad 52 0)), (3, .ref (ad 51 0)), (2, .ref (ad 50 0)), (1, .ref (ad 0 0)), (0, .ref b)]) hM.1 hM.2.1 dL_law_1360 hl (by decide) rfl (fun ls hl => ?_)
                  refine y_lload hM hl 0 rfl dL_law_1362 ?_
                  refine y_iload hM hl 2 rfl dL_law_1364 ?_
                  refine y_i2l hM (by constructor <;> omega) dL_law_1366 ?_
                  refine y_lmul hM dL_law_1367 ?_
                  refine y_iload hM hl 2 rfl dL_law_1368 ?_
                  refine y_iload hM hl 6 rfl dL_law_1370 ?_
                  refine y_iadd hM dL_law_1372 ?_
                  refine y_i2l hM (by constructor <;> omega) dL_law_1373 ?_
                  refine y_ldiv hM ⟨by omega, by omega, by omega, by omega⟩ dL_law_1374 ?_
                  refine lv_lstore (lv' := [(28, .long (lI (((coF (timT T k (T 11 k 5 + lateT T k (T 0 0 5)) - gotT T k 0) (valT T (T 11 k 2).toNat (T 0 0 5))) * (T 11 k 5)) / ((T 11 k 5) + (lateT T k (T 0 0 5)))))), (26, .long (lI (coF (timT T k (T 11 k 5 + lateT T k (T 0 0 5)) - gotT T k 0) (valT T (T 11 k 2).toNat (T 0 0 5))))), (24, .long (lI (timT T k (T 11 k 5 + lateT T k (T 0 0 5))))), (23, .int (iI (T 11 k 5))), (21, .long (lI (gotT T k 0))), (20, .int (iI (T 11 k 3))), (19, .int (iI (0))), (18, .int (iI (lateT T k (T 0 0 5)))), (17, .int (iI ((9) * (((k : Nat) : Int))))), (16, .int (iI (0))), (15, .int (iI (((k : Nat) : Int)))), (14, .int (iI (((sv : Nat) : Int)))), (13, .int (iI (((pv : Nat) : Int)))), (12, .int (iI (kd))), (11, .int (iI (yy))), (10, .int (iI (xx))), (9, .int (iI (((i : Nat) : Int)))), (8, .ref (ad 56 0)), (7, .ref (ad 55 0)), (6, .ref (ad 54 0)), (5, .ref (ad 53 0)), (4, .ref (ad 52 0)), (3, .ref (ad 51 0)), (2, .ref (ad 50 0)), (1, .ref (ad 0 0)), (0, .ref b)]) hM.1 hM.2.1 dL_law_1375 hl (by decide) rfl (fun ls hl => ?_)
                  refine y_aload hM hl 19 rfl dL_law_1377 ?_
                  refine y_iconst hM dL_law_1379 ?_
                  refine y_iload hM hl 10 rfl dL_law_1380 ?_
                  refine y_imul hM dL_law_1382 ?_
                  refine y_iconst hM dL_law_1383 ?_
                  refine y_iadd hM dL_law_1384 ?_
                  refine y_lload hM hl 2 rfl dL_law_1385 ?_
                  refine y_lload hM hl 4 rfl dL_law_1387 ?_
                  refine y_lsub hM dL_law_1389 ?_
                  refine y_last hM hC hLK.2.2.2.2.1 (fun _ _ => rfl) ⟨by omega, by omega⟩ (by decide) dL_law_1390 (fun H locs hC => ?_)
                  rw [show (((4) * (((k : Nat) : Int))) + (2) : Int).toNat = 4 * k + 2 from by omega] at hC
                  refine y_aload hM hl 18 rfl dL_law_1391 ?_
                  refine y_iconst hM dL_law_1393 ?_
                  refine y_aload hM hl 20 rfl dL_law_1394 ?_
                  refine y_iload hM hl 8 rfl dL_law_1396 ?_
                  refine y_iconst hM dL_law_1398 ?_
                  refine y_iadd hM dL_law_1399 ?_
                  refine y_iald hM hC hLK.2.2.2.1 rfl ⟨by omega, by omega⟩ (by decide) (x := ((fr : Nat) : Int)) (by rw [show (((9) * (((k : Nat) : Int))) + (1) : Int).toNat = 9 * k + 1 from by omega, up_of (by omega), hfr]) dL_law_1400 ?_
                  refine y_imul hM dL_law_1401 ?_
                  refine y_aload hM hl 20 rfl dL_law_1402 ?_
                  refine y_iload hM hl 8 rfl dL_law_1404 ?_
                  refine y_iconst hM dL_law_1406 ?_
                  refine y_iadd hM dL_law_1407 ?_
                  refine y_iald hM hC hLK.2.2.2.1 rfl ⟨by omega, by omega⟩ (by decide) (x := ((to_ : Nat) : Int)) (by rw [show (((9) * (((k : Nat) : Int))) + (2) : Int).toNat = 9 * k + 2 from by omega, up_of (by omega), hto]) dL_law_1408 ?_
                  refine y_iadd hM dL_law_1409 ?_
                  refine lv_dup2_11 hM.1 hM.2.1 dL_law_1410 rfl rfl ?_
                  refine y_lald hM hC hLK.2.2.2.2.2.1 rfl ⟨by omega, by omega⟩ (by decide) (x := T 55 0 (5 * fr + to_)) (by rw [show (((5) * (((fr : Nat) : Int))) + (((to_ : Nat) : Int)) : Int).toNat = 5 * fr + to_ from by omega, up_of (by omega)]) dL_law_1411 ?_
                  refine y_lload hM hl 0 rfl dL_law_1412 ?_
                  refine y_ladd hM dL_law_1414 ?_
                  refine y_last hM hC hLK.2.2.2.2.2.1 (fun _ _ => rfl) ⟨by omega, by omega⟩ (by decide) dL_law_1415 (fun H locs hC => ?_)
                  rw [show (((5) * (((fr : Nat) : Int))) + (((to_ : Nat) : Int)) : Int).toNat = 5 * fr + to_ from by omega] at hC
                  refine y_aload hM hl 18 rfl dL_law_1416 ?_
                  refine y_bipush hM dL_law_1418 (by decide) ?_
                  refine y_aload hM hl 20 rfl dL_law_1420 ?_
                  refine y_iload hM hl 8 rfl dL_law_1422 ?_
                  refine y_iconst hM dL_law_1424 ?_
                  refine y_iadd hM dL_law_1425 ?_
                  refine y_iald hM hC hLK.2.2.2.1 rfl ⟨by omega, by omega⟩ (by decide) (x := ((to_ : Nat) : Int)) (by rw [show (((9) * (((k : Nat) : Int))) + (2) : Int).toNat = 9 * k + 2 from by omega, up_of (by omega), up_of (by omega), hto]) dL_law_1426 ?_
                  refine y_iadd hM dL_law_1427 ?_
                  refine lv_dup2_11 hM.1 hM.2.1 dL_law_1428 rfl rfl ?_
                  refine y_lald hM hC hLK.2.2.2.2.2.1 rfl ⟨by omega, by omega⟩ (by decide) (x := T 55 0 (to_ + 25)) (by rw [show ((25) + (((to_ : Nat) : Int)) : Int).toNat = to_ + 25 from by omega, up_of (by omega), up_of (by omega)]) dL_law_1429 ?_
                  refine y_lload hM hl 1 rfl dL_law_1430 ?_
                  refine y_lload hM hl 0 rfl dL_law_1432 ?_
                  refine y_lsub hM dL_law_1434 ?_
                  refine y_ladd hM dL_law_1435 ?_
                  refine y_last hM hC hLK.2.2.2.2.2.1 (fun _ _ => rfl) ⟨by omega, by omega⟩ (by decide) dL_law_1436 (fun H locs hC => ?_)
                  rw [show ((25) + (((to_ : Nat) : Int)) : Int).toNat = to_ + 25 from by omega] at hC
                  refine y_aload hM hl 21 rfl dL_law_1437 ?_
                  refine y_aload hM hl 20 rfl dL_law_1439 ?_
                  refine y_iload hM hl 8 rfl dL_law_1441 ?_
                  refine y_iald hM hC hLK.2.2.2.1 rfl ⟨by omega, by omega⟩ (by decide) (x := ((mv : Nat) : Int)) (by rw [show ((9) * (((k : Nat) : Int)) : Int).toNat = 9 * k from by omega, up_of (by omega), up_of (by omega), up_of (by omega), hmv0]) dL_law_1443 ?_
                  refine y_lload hM hl 2 rfl dL_law_1444 ?_
                  refine y_lload hM hl 4 rfl dL_law_1446 ?_
                  refine y_lcmp hM (by constructor <;> omega) (by constructor <;> omega) dL_law_1448 ?_
                  have hcl_1448 := cmpI_le (timT T k (T 11 k 5 + lateT T k (T 0 0 5))) (gotT T k 0)
                  have hcg_1448 := cmpI_gt (timT T k (T 11 k 5 + lateT T k (T 0 0 5))) (gotT T k 0)
                  have hce_1448 := cmpI_eq (timT T k (T 11 k 5 + lateT T k (T 0 0 5))) (gotT T k 0)
                  refine y_if_le hM (cmpI_in _ _) (tgt := 1457) dL_law_1449 (by decide) (fun c_1449 => False.elim (by omega)) (fun c_1449 => ?_)
                  refine y_lload hM hl 2 rfl dL_law_1452 ?_
                  refine lv_goto (tgt := 1459) hM.1 hM.2.1 dL_law_1454 (by decide) ?_
                  refine y_last hM hC hLK.2.2.1 (fun _ _ => rfl) ⟨by omega, by omega⟩ (by decide) dL_law_1459 (fun H locs hC => ?_)
                  rw [show (((mv : Nat) : Int) : Int).toNat = mv from by omega] at hC
                  refine y_aload_n hM hl 22 rfl rfl dL_law_1460 ?_
                  refine y_iconst hM dL_law_1461 ?_
                  refine y_aload hM hl 20 rfl dL_law_1462 ?_
                  refine y_iload hM hl 8 rfl dL_law_1464 ?_
                  refine y_iald hM hC hLK.2.2.2.1 rfl ⟨by omega, by omega⟩ (by decide) (x := ((mv : Nat) : Int)) (by rw [show ((9) * (((k : Nat) : Int)) : Int).toNat = 9 * k from by omega, up_of (by omega), up_of (by omega), up_of (by omega), up_of (by omega), hmv0]) dL_law_1466 ?_
                  refine y_imul hM dL_law_1467 ?_
                  refine y_aload hM hl 20 rfl dL_law_1468 ?_
                  refine y_iload hM hl 8 rfl dL_law_1470 ?_
                  refine y_iconst hM dL_law_1472 ?_
                  refine y_iadd hM dL_law_1473 ?_
                  refine y_iald hM hC hLK.2.2.2.1 rfl ⟨by omega, by omega⟩ (by decide) (x := T 11 k 2) (by rw [show (((9) * (((k : Nat) : Int))) + (2) : Int).toNat = 9 * k + 2 from by omega, up_of (by omega), up_of (by omega), up_of (by omega), up_of (by omega), ho.2.2.1]) dL_law_1474 ?_
                  refine y_iast hM hC hLK.2.1 (fun _ _ => rfl) ⟨by omega, by omega⟩ (by decide) dL_law_1475 (fun H locs hC => ?_)
                  rw [show ((2) * (((mv : Nat) : Int)) : Int).toNat = 2 * mv from by omega] at hC
                  refine y_aload_n hM hl 22 rfl rfl dL_law_1476 ?_
                  refine y_iconst hM dL_law_1477 ?_
                  refine y_aload hM hl 20 rfl dL_law_1478 ?_
                  refine y_iload hM hl 8 rfl dL_law_1480 ?_
                  refine y_iald hM hC hLK.2.2.2.1 rfl ⟨by omega, by omega⟩ (by decide) (x := ((mv : Nat) : Int)) (by rw [show ((9) * (((k : Nat) : Int)) : Int).toNat = 9 * k from by omega, up_of (by omega), up_of (by omega), up_of (by omega), up_of (by omega), up_of (by omega), hmv0]) dL_law_1482 ?_
                  refine y_imul hM dL_law_1483 ?_
                  refine y_iconst hM dL_law_1484 ?_
                  refine y_iadd hM dL_law_1485 ?_
                  refine y_iconst hM dL_law_1486 ?_
                  refine y_iast hM hC hLK.2.1 (fun _ _ => rfl) ⟨by omega, by omega⟩ (by decide) dL_law_1487 (fun H locs hC => ?_)
                  rw [show (((2) * (((mv : Nat) : Int))) + (1) : Int).toNat = 2 * mv + 1 from by omega] at hC
                  refine y_aload hM hl 19 rfl dL_law_1488 ?_
                  refine y_iconst hM dL_law_1490 ?_
                  refine y_iload hM hl 10 rfl dL_law_1491 ?_
                  refine y_imul hM dL_law_1493 ?_
                  refine y_iconst hM dL_law_1494 ?_
                  refine y_iadd hM dL_law_1495 ?_
                  refine y_iload hM hl 7 rfl dL_law_1496 ?_
                  refine y_i2l hM (by constructor <;> omega) dL_law_1498 ?_
                  refine y_last hM hC hLK.2.2.2.2.1 (fun _ _ => rfl) ⟨by omega, by omega⟩ (by decide) dL_law_1499 (fun H locs hC => ?_)
                  rw [show (((4) * (((k : Nat) : Int))) + (3) : Int).toNat = 4 * k + 3 from by omega] at hC
                  refine y_aload hM hl 20 rfl dL_law_1500 ?_
                  refine y_iload hM hl 8 rfl dL_law_1502 ?_
                  refine y_iconst hM dL_law_1504 ?_
                  refine y_iadd hM dL_law_1505 ?_
                  refine lv_dup2_11 hM.1 hM.2.1 dL_law_1506 rfl rfl ?_
                  refine y_iald hM hC hLK.2.2.2.1 rfl ⟨by omega, by omega⟩ (by decide) (x := T 11 k 3) (by rw [show (((9) * (((k : Nat) : Int))) + (3) : Int).toNat = 9 * k + 3 from by omega, up_of (by omega), up_of (by omega), up_of (by omega), up_of (by omega), up_of (by omega), up_of (by omega), up_of (by omega), ho.2.2.2.1]) dL_law_1507 ?_
                  refine y_iconst hM dL_law_1508 ?_
                  refine y_iadd hM dL_law_1509 ?_
                  refine y_iast hM hC hLK.2.2.2.1 (fun _ _ => rfl) ⟨by omega, by omega⟩ (by decide) dL_law_1510 (fun H locs hC => ?_)
                  rw [show (((9) * (((k : Nat) : Int))) + (3) : Int).toNat = 9 * k + 3 from by omega] at hC
                  refine y_iload hM hl 9 rfl dL_law_1511 ?_
                  refine y_if_eq hM (by constructor <;> omega) (tgt := 1525) dL_law_1513 (by decide) (fun c_1513 => ?_) (fun c_1513 => False.elim (by omega))
                  obtain ⟨T1, hT1⟩ : ∃ X : TT, X = (up (up (up (up (up (up (up (up T 54 0 (4 * k + 2) ((timT T k (T 11 k 5 + lateT T k (T 0 0 5))) - (gotT T k 0))) 55 0 (5 * fr + to_) ((T 55 0 (5 * fr + to_)) + (((coF (timT T k (T 11 k 5 + lateT T k (T 0 0 5)) - gotT T k 0) (valT T (T 11 k 2).toNat (T 0 0 5))) * (T 11 k 5)) / ((T 11 k 5) + (lateT T k (T 0 0 5)))))) 55 0 (to_ + 25) ((T 55 0 (to_ + 25)) + ((coF (timT T k (T 11 k 5 + lateT T k (T 0 0 5)) - gotT T k 0) (valT T (T 11 k 2).toNat (T 0 0 5))) - (((coF (timT T k (T 11 k 5 + lateT T k (T 0 0 5)) - gotT T k 0) (valT T (T 11 k 2).toNat (T 0 0 5))) * (T 11 k 5)) / ((T 11 k 5) + (lateT T k (T 0 0 5))))))) 52 0 (mv) (timT T k (T 11 k 5 + lateT T k (T 0 0 5)))) 51 0 (2 * mv) (T 11 k 2)) 51 0 (2 * mv + 1) (0)) 54 0 (4 * k + 3) (lateT T k (T 0 0 5))) 53 0 (9 * k + 3) ((T 11 k 3) + (1))) := ⟨_, rfl⟩
                  rw [← hT1] at hC
                  have hlo : LoE T1 T := by
                    rw [hT1]
                    exact ((((((((LoE.r.hi (by decide)).hi (by decide)).hi (by decide)).hi (by decide)).hi (by decide)).hi (by decide)).hi (by decide)).hi (by decide))
                  obtain ⟨hCK1, hNC1, hR1, hz1⟩ := hI.mid hlo
                  obtain ⟨hF1, hRK1, hSK1, hOK1, hKF1, hLK1⟩ := id hCK1
                  obtain ⟨hRN1, hDN1, hSN1, hON1, -, -, -⟩ := id hNC1
                  have h05 : T1 0 0 5 = T 0 0 5 := by rw [hz1]
                  have h06 : T1 0 0 6 = T 0 0 6 := by rw [hz1]
                  have h07 : T1 0 0 7 = T 0 0 7 := by rw [hz1]
                  have h08 : T1 0 0 8 = T 0 0 8 := by rw [hz1]
                  obtain ⟨m1, m2, m3, m4⟩ := stp_mid hlo k 0
                  refine y_aload_n hM hl 24 rfl rfl dL_law_1525 ?_
                  refine y_iload hM hl 10 rfl dL_law_1526 ?_
                  refine y_callV hM hC (c_step l hfl G b0 ks ad T1 P (((k : Nat) : Int)) ⟨by omega, by omega⟩ hF1 hRK1 hRN1 hDN1 hSK1 hSN1 hOK1 hON1) (cwV 1 hM.2.2.2.2 gL_law_X3_step rfl rfl rfl (by decide +kernel) ⟨(Nat.le_of_ble_eq_true rfl), (Nat.le_of_ble_eq_true rfl)⟩) (y_recv hC hF1.1 rfl rfl) rfl hl.1 rfl (Nat.le_of_ble_eq_true rfl) dL_law_1528 ⟨(show _ ≤ 602294 by omega), (show _ ≤ 7294300 by omega)⟩ (fun E ce q9 u1 H locs hx hC hce hcv hcl => by
                      obtain ⟨x, rfl, hx, hu⟩ := hx; rw [hu] at hC; clear hu; try dsimp only at hx
                      exact False.elim ((by simp only [Int.toNat_natCast, m1, m2, m3, m4, h08] at hx; omega))) (fun v u1 H locs hp hC => ?_)
                  obtain ⟨r_1528, rfl, h_1528, hu⟩ := hp; rw [hu] at hC; clear hu
                  try dsimp only at h_1528
                  refine W.eq (g2 := F0 m 1531 ls [.int (iI (r_1528))]) rfl ?_
                  simp only [Int.toNat_natCast, m3] at h_1528
                  rw [Int.toNat_natCast] at hC
                  refine y_iload hM hl 7 rfl dL_law_1531 ?_
                  refine y_icmp_eq hM (by constructor <;> omega) (by constructor <;> omega) (tgt := 1538) dL_law_1533 (by decide) (fun c_1533 => ?_) (fun c_1533 => False.elim (by omega))
                  refine lv_goto (tgt := 1608) hM.1 hM.2.1 dL_law_1538 (by decide) ?_
                  exact kk _ _ _ _ _ _ _ _ ls (by omega) (by omega) hC (op_stp hI hlo hk8 (by omega) (fun _ => by omega) (fun r1 n1 => by
                        have hlk := hlkp (by omega) (by omega)
                        have emv : mv = mvT T1 k := by rw [mvT_lo hlo]; exact hmv
                        have e0 : ∀ lb, allL T1 k lb = allL T k lb := fun lb => by unfold allL; rw [m1]
                        have e9 : ∀ p, T1 9 p = T 9 p := fun p => hlo 9 p (by omega)
                        have e3 : T1 3 0 = T 3 0 := hlo 3 0 (by omega)
                        refine R2_s2 (M := T) (M' := T1) (k := k) (i := mv) (f := 0) r1 n1 (by omega) ⟨emv, by omega⟩ (by rw [m1]; omega) ?_ ?_ ?_ ?_ ?_ ?_ ?_ ?_ ?_ ?_ ?_ ?_ ?_ ?_
                        · intro j hj
                          rw [hT1, up_of (by omega), up_of (by omega), up_of (by omega), up_of (by omega), up_of (by omega), up_of (by omega), up_of (by omega), up_of (by omega)]
                        · rw [hT1, up_at rfl]
                          omega
                        · intro j hj1 hj2
                          rw [hT1, up_of (by omega), up_of (by omega), up_of (by omega), up_of (by omega), up_of (by omega), up_of (by omega), up_of (by omega), up_of (by omega)]
                        · rw [m3, m4, hlk]
                          rw [hT1, up_of (by omega), up_of (by omega), up_of (by omega), up_of (by omega), up_of (by omega), up_of (by omega), up_of (by omega), up_at rfl]
                        · rw [m3]
                          rw [hT1, up_of (by omega), up_at rfl]
                        · intro j hj
                          rw [hT1, up_of (by omega), up_of (by omega), up_of (by omega), up_of (by omega), up_of (by omega), up_of (by omega), up_of (by omega), up_of (by omega)]
                        · rw [m2, m3, m4, hlk]
                          rw [hT1, up_of (by omega), up_of (by omega), up_of (by omega), up_of (by omega), up_at rfl]
                          try omega
                        · intro j hj1 hj2
                          rw [hT1, up_of (by omega), up_of (by omega), up_of (by omega), up_of (by omega), up_of (by omega), up_of (by omega), up_of (by omega), up_of (by omega)]
                        · rw [m1]
                          rw [hT1, up_of (by omega), up_of (by omega), up_of (by omega), up_at rfl]
                        · rw [hT1, up_of (by omega), up_of (by omega), up_at rfl]
                        · intro p q hp hq
                          rw [buyT_9, e0, m3, m4, m1, e9, valT_lo hlo, h05, hlk, if_neg (by rw [hall]; omega), hall]
                          have hd := hRD.1 p q hp hq
                          by_cases e : p = fr ∧ q = to_
                          · rw [if_pos ⟨by omega, by omega⟩, hT1, up_of (by omega), up_of (by omega), up_of (by omega), up_of (by omega), up_of (by omega), up_of (by omega), up_at (by omega), show 5 * fr + to_ = 5 * p + q by omega, hd]
                          · rw [if_neg (by omega), hT1, up_of (by omega), up_of (by omega), up_of (by omega), up_of (by omega), up_of (by omega), up_of (by omega), up_of (by omega), up_of (by omega), hd]
                            omega
                        · intro p hp
                          rw [buyT_r, e0, m3, m4, m1, e3, valT_lo hlo, h05, hlk, if_neg (by rw [hall]; omega), hall]
                          have hd := hRD.2 p hp
                          by_cases e : p = to_
                          · rw [if_pos (by omega), hT1, up_of (by omega), up_of (by omega), up_of (by omega), up_of (by omega), up_of (by omega), up_at (by omega), show to_ + 25 = 25 + p by omega, hd]
                          · rw [if_neg (by omega), hT1, up_of (by omega), up_of (by omega), up_of (by omega), up_of (by omega), up_of (by omega), up_of (by omega), up_of (by omega), up_of (by omega), hd]
                            omega
                        · funext j
                          rw [hT1, up_of (by omega), up_of (by omega), up_of (by omega), up_of (by omega), up_of (by omega), up_of (by omega), up_of (by omega), up_of (by omega)]
                        · funext j
                          rw [hT1, up_of (by omega), up_of (by omega), up_of (by omega), up_of (by omega), up_of (by omega), up_of (by omega), up_of (by omega), up_of (by omega)])) ⟨hl.1, hl.2.1, fun q hq => hl.2.2 q ((List.forall_mem_cons.mpr ⟨List.mem_of_getElem? (i := 14) rfl, (List.forall_mem_cons.mpr ⟨List.mem_of_getElem? (i := 16) rfl, (List.forall_mem_cons.mpr ⟨List.mem_of_getElem? (i := 17) rfl, (List.forall_mem_cons.mpr ⟨List.mem_of_getElem? (i := 18) rfl, (List.forall_mem_cons.mpr ⟨List.mem_of_getElem? (i := 19) rfl, (List.forall_mem_cons.mpr ⟨List.mem_of_getElem? (i := 20) rfl, (List.forall_mem_cons.mpr ⟨List.mem_of_getElem? (i := 21) rfl, (List.forall_mem_cons.mpr ⟨List.mem_of_getElem? (i := 22) rfl, (List.forall_mem_cons.mpr ⟨List.mem_of_getElem? (i := 23) rfl, (List.forall_mem_cons.mpr ⟨List.mem_of_getElem? (i := 24) rfl, (List.forall_mem_cons.mpr ⟨List.mem_of_getElem? (i := 25) rfl, (fun _ h => absurd h List.not_mem_nil)⟩)⟩)⟩)⟩)⟩)⟩)⟩)⟩)⟩)⟩)⟩) q hq)⟩
              ·
                refine y_iconst hM dL_law_1065 ?_
                refine lv_istore (lv' := [(19, .int (iI (3))), (24, .long (lI (timT T k (T 11 k 5 + lateT T k (T 0 0 5))))), (22, .long (lI (gotT T k 0))), (21, .int (iI (r_978))), (20, .int (iI (T 11 k 3))), (18, .int (iI (lateT T k (T 0 0 5)))), (17, .int (iI ((9) * (((k : Nat) : Int))))), (16, .int (iI (0))), (15, .int (iI (((k : Nat) : Int)))), (14, .int (iI (((sv : Nat) : Int)))), (13, .int (iI (((pv : Nat) : Int)))), (12, .int (iI (kd))), (11, .int (iI (yy))), (10, .int (iI (xx))), (9, .int (iI (((i : Nat) : Int)))), (8, .ref (ad 56 0)), (7, .ref (ad 55 0)), (6, .ref (ad 54 0)), (5, .ref (ad 53 0)), (4, .ref (ad 52 0)), (3, .ref (ad 51 0)), (2, .ref (ad 50 0)), (1, .ref (ad 0 0)), (0, .ref b)]) hM.1 hM.2.1 dL_law_1066 hl (by decide) rfl (fun ls hl => ?_)
                refine y_iload hM hl 0 rfl dL_law_1068 ?_
                refine y_if_le hM (by constructor <;> omega) (tgt := 1097) dL_law_1070 (by decide) (fun c_1070 => False.elim (by omega)) (fun c_1070 => ?_)
                refine y_aload_n hM hl 22 rfl rfl dL_law_1073 ?_
                refine y_iload hM hl 7 rfl dL_law_1074 ?_
                refine y_if_eq hM (by constructor <;> omega) (tgt := 1083) dL_law_1076 (by decide) (fun c_1076 => ?_) (fun c_1076 => False.elim (by omega))
                refine y_iconst hM dL_law_1083 ?_
                refine y_iload hM hl 8 rfl dL_law_1084 ?_
                refine y_iconst hM dL_law_1086 ?_
                refine y_callSX hM hN hC (c_ref_step l hfl G b0 ks ad T P (((k : Nat) : Int)) (0) ⟨by omega, by omega⟩ ⟨by omega, by omega⟩ hF hRK hRN hDN hSK hSN hOK hON (by simp only [Int.toNat_natCast]; omega)) (vx_cwSW 4 hM.2.2.2.2 gL_law_L_refused rfl rfl rfl (by decide +kernel) ⟨(Nat.le_of_ble_eq_true rfl), (Nat.le_of_ble_eq_true rfl)⟩) rfl hl.1 rfl (Nat.le_of_ble_eq_true rfl) dL_law_1087 ⟨(show _ ≤ 602294 by omega), (show _ ≤ 7294300 by omega)⟩ (fun E ce q9 u1 H locs hx hC hce hcv hcl => hx.elim) (fun v u1 H locs hp hC => ?_)
                obtain ⟨r_1087, rfl, h_1087, hu⟩ := hp; rw [hu] at hC; clear hu
                try dsimp only at h_1087
                refine W.eq (g2 := F0 m 1090 ls [.int (iI (r_1087))]) rfl ?_
                refine y_iload hM hl 0 rfl dL_law_1090 ?_
                refine y_icmp_eq hM (by constructor <;> omega) (by constructor <;> omega) (tgt := 1643) dL_law_1092 (by decide) (fun c_1092 => ?_) (fun c_1092 => False.elim (by omega))
                exact kn _ _ _ _ _ _ _ _ ls (by omega) (by omega) hC hI ⟨hl.1, hl.2.1, fun q hq => hl.2.2 q ((List.forall_mem_cons.mpr ⟨List.mem_of_getElem? (i := 14) rfl, (List.forall_mem_cons.mpr ⟨List.mem_of_getElem? (i := 15) rfl, (List.forall_mem_cons.mpr ⟨List.mem_of_getElem? (i := 16) rfl, (List.forall_mem_cons.mpr ⟨List.mem_of_getElem? (i := 17) rfl, (List.forall_mem_cons.mpr ⟨List.mem_of_getElem? (i := 18) rfl, (List.forall_mem_cons.mpr ⟨List.mem_of_getElem? (i := 19) rfl, (List.forall_mem_cons.mpr ⟨List.mem_of_getElem? (i := 20) rfl, (List.forall_mem_cons.mpr ⟨List.mem_of_getElem? (i := 21) rfl, (List.forall_mem_cons.mpr ⟨List.mem_of_getElem? (i := 22) rfl, (List.forall_mem_cons.mpr ⟨List.mem_of_getElem? (i := 23) rfl, (fun _ h => absurd h List.not_mem_nil)⟩)⟩)⟩)⟩)⟩)⟩)⟩)⟩)⟩)⟩) q hq)⟩
      ·
        have hlt : lateT T k (T 0 0 5) = 0 := by
          unfold lateT
          rw [if_neg (by omega)]
        refine y_iconst hM dL_law_875 ?_
        refine lv_goto (tgt := 891) hM.1 hM.2.1 dL_law_876 (by decide) ?_
        refine W.eq (g2 := F0 m 891 ls [.int (iI (lateT T k (T 0 0 5)))]) (by rw [hlt]) ?_
        refine lv_istore (lv' := [(18, .int (iI (lateT T k (T 0 0 5)))), (17, .int (iI ((9) * (((k : Nat) : Int))))), (16, .int (iI (0))), (15, .int (iI (((k : Nat) : Int)))), (14, .int (iI (((sv : Nat) : Int)))), (13, .int (iI (((pv : Nat) : Int)))), (12, .int (iI (kd))), (11, .int (iI (yy))), (10, .int (iI (xx))), (9, .int (iI (((i : Nat) : Int)))), (8, .ref (ad 56 0)), (7, .ref (ad 55 0)), (6, .ref (ad 54 0)), (5, .ref (ad 53 0)), (4, .ref (ad 52 0)), (3, .ref (ad 51 0)), (2, .ref (ad 50 0)), (1, .ref (ad 0 0)), (0, .ref b)]) hM.1 hM.2.1 dL_law_891 hl (by decide) rfl (fun ls hl => ?_)
        refine y_aload hM hl 10 rfl dL_law_893 ?_
        refine y_iconst hM dL_law_895 ?_
        refine y_iald hM hC hLK.2.2.2.2.2.2 rfl ⟨by omega, by omega⟩ (by decide) (x := T 0 0 8) (by rw [show ((2 : Int)).toNat = 2 from rfl, hg2]) dL_law_896 ?_
        refine y_if_ne hM (by constructor <;> omega) (tgt := 904) dL_law_897 (by decide) (fun c_897 => ?_) (fun c_897 => False.elim (by omega))
        refine y_aload hM hl 13 rfl dL_law_904 ?_
        refine y_iload hM hl 1 rfl dL_law_906 ?_
        refine y_iconst hM dL_law_908 ?_
        refine y_iadd hM dL_law_909 ?_
        refine y_iald hM hC hLK.2.2.2.1 rfl ⟨by omega, by omega⟩ (by decide) (x := T 11 k 3) (by rw [show (((9) * (((k : Nat) : Int))) + (3) : Int).toNat = 9 * k + 3 from by omega, ho.2.2.2.1]) dL_law_910 ?_
        refine y_iconst hM dL_law_911 ?_
        refine y_icmp_eq hM (by constructor <;> omega) (by constructor <;> omega) (tgt := 927) dL_law_912 (by decide) (fun c_912 => False.elim (by omega)) (fun c_912 => ?_)
        refine y_iload hM hl 2 rfl dL_law_915 ?_
        refine y_if_eq hM (by constructor <;> omega) (tgt := 931) dL_law_917 (by decide) (fun c_917 => ?_) (fun c_917 => False.elim (by omega))
        refine y_iconst hM dL_law_931 ?_
        refine lv_istore (lv' := [(19, .int (iI (0))), (18, .int (iI (lateT T k (T 0 0 5)))), (17, .int (iI ((9) * (((k : Nat) : Int))))), (16, .int (iI (0))), (15, .int (iI (((k : Nat) : Int)))), (14, .int (iI (((sv : Nat) : Int)))), (13, .int (iI (((pv : Nat) : Int)))), (12, .int (iI (kd))), (11, .int (iI (yy))), (10, .int (iI (xx))), (9, .int (iI (((i : Nat) : Int)))), (8, .ref (ad 56 0)), (7, .ref (ad 55 0)), (6, .ref (ad 54 0)), (5, .ref (ad 53 0)), (4, .ref (ad 52 0)), (3, .ref (ad 51 0)), (2, .ref (ad 50 0)), (1, .ref (ad 0 0)), (0, .ref b)]) hM.1 hM.2.1 dL_law_932 hl (by decide) rfl (fun ls hl => ?_)
        refine y_aload hM hl 14 rfl dL_law_934 ?_
        refine y_iload hM hl 2 rfl dL_law_936 ?_
        refine y_iconst hM dL_law_938 ?_
        refine y_iadd hM dL_law_939 ?_
        refine y_iald hM hC hLK.2.2.2.1 rfl ⟨by omega, by omega⟩ (by decide) (x := T 11 k 3) (by rw [show (((9) * (((k : Nat) : Int))) + (3) : Int).toNat = 9 * k + 3 from by omega, ho.2.2.2.1]) dL_law_940 ?_
        refine lv_istore (lv' := [(20, .int (iI (T 11 k 3))), (19, .int (iI (0))), (18, .int (iI (lateT T k (T 0 0 5)))), (17, .int (iI ((9) * (((k : Nat) : Int))))), (16, .int (iI (0))), (15, .int (iI (((k : Nat) : Int)))), (14, .int (iI (((sv : Nat) : Int)))), (13, .int (iI (((pv : Nat) : Int)))), (12, .int (iI (kd))), (11, .int (iI (yy))), (10, .int (iI (xx))), (9, .int (iI (((i : Nat) : Int)))), (8, .ref (ad 56 0)), (7, .ref (ad 55 0)), (6, .ref (ad 54 0)), (5, .ref (ad 53 0)), (4, .ref (ad 52 0)), (3, .ref (ad 51 0)), (2, .ref (ad 50 0)), (1, .ref (ad 0 0)), (0, .ref b)]) hM.1 hM.2.1 dL_law_941 hl (by decide) rfl (fun ls hl => ?_)
        refine y_iload hM hl 1 rfl dL_law_943 ?_
        refine y_if_ne hM (by constructor <;> omega) (tgt := 1068) dL_law_945 (by decide) (fun c_945 => False.elim (by omega)) (fun c_945 => ?_)
        refine y_iload hM hl 0 rfl dL_law_948 ?_
        refine y_iconst hM dL_law_950 ?_
        refine y_icmp_ne hM (by constructor <;> omega) (by constructor <;> omega) (tgt := 1068) dL_law_951 (by decide) (fun c_951 => ?_) (fun c_951 => ?_)
        ·
          refine y_iload hM hl 1 rfl dL_law_1068 ?_
          refine y_if_le hM (by constructor <;> omega) (tgt := 1097) dL_law_1070 (by decide) (fun c_1070 => ?_) (fun c_1070 => False.elim (by omega))
          refine y_iload hM hl 0 rfl dL_law_1097 ?_
          refine y_if_ne hM (by constructor <;> omega) (tgt := 1126) dL_law_1099 (by decide) (fun c_1099 => ?_) (fun c_1099 => ?_)
          ·
            refine y_iload hM hl 0 rfl dL_law_1126 ?_
            refine y_iconst hM dL_law_1128 ?_
            refine y_icmp_ne hM (by constructor <;> omega) (by constructor <;> omega) (tgt := 1231) dL_law_1129 (by decide) (fun c_1129 => False.elim (by omega)) (fun c_1129 => ?_)
            refine y_aload hM hl 14 rfl dL_law_1132 ?_
            refine y_iconst hM dL_law_1134 ?_
            refine y_iload hM hl 5 rfl dL_law_1135 ?_
            refine y_imul hM dL_law_1137 ?_
            refine y_aload hM hl 16 rfl dL_law_1138 ?_
            refine y_aload hM hl 15 rfl dL_law_1140 ?_
            refine y_iload hM hl 3 rfl dL_law_1142 ?_
            refine y_iald hM hC hLK.2.2.2.1 rfl ⟨by omega, by omega⟩ (by decide) (x := ((mv : Nat) : Int)) (by rw [show ((9) * (((k : Nat) : Int)) : Int).toNat = 9 * k from by omega, hmv0]) dL_law_1144 ?_
            refine y_lald hM hC hLK.2.2.1 rfl ⟨by omega, by omega⟩ (by decide) (x := T 10 mv 1) (by rw [show (((mv : Nat) : Int) : Int).toNat = mv from by omega, hmr.2.2]) dL_law_1145 ?_
            refine y_last hM hC hLK.2.2.2.2.1 (fun _ _ => rfl) ⟨by omega, by omega⟩ (by decide) dL_law_1146 (fun H locs hC => ?_)
            rw [show ((4) * (((k : Nat) : Int)) : Int).toNat = 4 * k from by omega] at hC
            refine y_aload hM hl 14 rfl dL_law_1147 ?_
            refine y_iconst hM dL_law_1149 ?_
            refine y_iload hM hl 5 rfl dL_law_1150 ?_
            refine y_imul hM dL_law_1152 ?_
            refine y_iconst hM dL_law_1153 ?_
            refine y_iadd hM dL_law_1154 ?_
            refine y_aload hM hl 16 rfl dL_law_1155 ?_
            refine y_aload hM hl 15 rfl dL_law_1157 ?_
            refine y_iload hM hl 3 rfl dL_law_1159 ?_
            refine y_iald hM hC hLK.2.2.2.1 rfl ⟨by omega, by omega⟩ (by decide) (x := ((mv : Nat) : Int)) (by rw [show ((9) * (((k : Nat) : Int)) : Int).toNat = 9 * k from by omega, up_of (by omega), hmv0]) dL_law_1161 ?_
            refine y_lald hM hC hLK.2.2.1 rfl ⟨by omega, by omega⟩ (by decide) (x := T 10 mv 1) (by rw [show (((mv : Nat) : Int) : Int).toNat = mv from by omega, up_of (by omega), hmr.2.2]) dL_law_1162 ?_
            refine y_iload hM hl 4 rfl dL_law_1163 ?_
            refine y_if_eq hM (by constructor <;> omega) (tgt := 1175) dL_law_1165 (by decide) (fun c_1165 => ?_) (fun c_1165 => False.elim (by omega))
            refine y_aload_n hM hl 18 rfl rfl dL_law_1175 ?_
            refine y_aload hM hl 15 rfl dL_law_1176 ?_
            refine y_iload hM hl 3 rfl dL_law_1178 ?_
            refine y_iconst hM dL_law_1180 ?_
            refine y_iadd hM dL_law_1181 ?_
            refine y_iald hM hC hLK.2.2.2.1 rfl ⟨by omega, by omega⟩ (by decide) (x := T 11 k 1) (by rw [show (((9) * (((k : Nat) : Int))) + (1) : Int).toNat = 9 * k + 1 from by omega, up_of (by omega), ho.2.1]) dL_law_1182 ?_
            refine y_aload hM hl 12 rfl dL_law_1183 ?_
            refine y_iconst hM dL_law_1185 ?_
            refine y_iald hM hC hLK.2.2.2.2.2.2 rfl ⟨by omega, by omega⟩ (by decide) (x := T 0 0 5) (by rw [show ((3 : Int)).toNat = 3 from rfl, up_of (by omega), hg3]) dL_law_1186 ?_
            refine y_callS hM hC (c_L_price l hfl G b0 ks ad (up T 54 0 (4 * k) (T 10 mv 1)) P (T 11 k 1) (T 0 0 5) ⟨by omega, by omega⟩ ⟨by omega, by omega⟩ hLK.1 (hRP.congr (fun _ => up_ne (by omega)) (fun _ => up_ne (by omega)) (fun _ => up_ne (by omega)) (up_ne (by omega)) (up_of (by omega)))) (va_cwS 3 hM.2.2.2.2 gL_law_L_price rfl rfl rfl (by decide +kernel) ⟨(Nat.le_of_ble_eq_true rfl), (Nat.le_of_ble_eq_true rfl)⟩) rfl hl.1 rfl (Nat.le_of_ble_eq_true rfl) dL_law_1187 ⟨(show _ ≤ 602294 by omega), (show _ ≤ 7294300 by omega)⟩ (fun E ce q9 u1 H locs hx hC hce hcv hcl => hx.elim) (fun v u1 H locs hp hC => ?_)
            obtain ⟨r_1187, rfl, h_1187, hu⟩ := hp; rw [hu] at hC; clear hu
            try dsimp only at h_1187
            refine W.eq (g2 := F0 m 1190 ls [.int (iI (r_1187)), .long (lI (T 10 mv 1)), .int (iI (((4) * (((k : Nat) : Int))) + (1))), .ref (ad 54 0)]) rfl ?_
            rw [valT_up (by decide)] at h_1187
            have hv_1187 := valT_in hRN (p := (T 11 k 1).toNat) (by omega) (T 0 0 5)
            have hq1 : 0 ≤ T 10 mv 1 * (r_1187) := Int.mul_nonneg (by omega) (by omega)
            have hq2 : T 10 mv 1 * (r_1187) ≤ 100000000 * 10000 := Int.mul_le_mul (by omega) (by omega) (by omega) (by omega)
            refine y_i2l hM (by constructor <;> omega) dL_law_1190 ?_
            refine y_lmul hM dL_law_1191 ?_
            refine y_ldc2 hM (v := 1000) (1000) (by decide) (by decide +kernel) dL_law_1192 ?_
            refine y_ldiv hM ⟨by omega, by omega, by omega, by omega⟩ dL_law_1195 ?_
            rw [show ((T 10 mv 1) * (r_1187)) / (1000) = moF (T 10 mv 1) (prF T (T 11 k 1).toNat 0) from (by unfold prF; rw [if_pos rfl, ← h_1187]; rfl)]
            refine y_last hM hC hLK.2.2.2.2.1 (fun _ _ => rfl) ⟨by omega, by omega⟩ (by decide) dL_law_1196 (fun H locs hC => ?_)
            rw [show (((4) * (((k : Nat) : Int))) + (1) : Int).toNat = 4 * k + 1 from by omega] at hC
            refine y_aload hM hl 16 rfl dL_law_1197 ?_
            refine y_aload hM hl 15 rfl dL_law_1199 ?_
            refine y_iload hM hl 3 rfl dL_law_1201 ?_
            refine y_iald hM hC hLK.2.2.2.1 rfl ⟨by omega, by omega⟩ (by decide) (x := ((mv : Nat) : Int)) (by rw [show ((9) * (((k : Nat) : Int)) : Int).toNat = 9 * k from by omega, up_of (by omega), up_of (by omega), hmv0]) dL_law_1203 ?_
            refine y_lconst hM 0 (by decide) dL_law_1204 ?_
            refine y_last hM hC hLK.2.2.1 (fun _ _ => rfl) ⟨by omega, by omega⟩ (by decide) dL_law_1205 (fun H locs hC => ?_)
            rw [show (((mv : Nat) : Int) : Int).toNat = mv from by omega] at hC
            refine y_aload hM hl 15 rfl dL_law_1206 ?_
            refine y_iload hM hl 3 rfl dL_law_1208 ?_
            refine y_bipush hM dL_law_1210 (by decide) ?_
            refine y_iadd hM dL_law_1212 ?_
            refine y_aload hM hl 12 rfl dL_law_1213 ?_
            refine y_iconst hM dL_law_1215 ?_
            refine y_iald hM hC hLK.2.2.2.2.2.2 rfl ⟨by omega, by omega⟩ (by decide) (x := T 0 0 5) (by rw [show ((3 : Int)).toNat = 3 from rfl, up_of (by omega), up_of (by omega), up_of (by omega), hg3]) dL_law_1216 ?_
            refine y_iast hM hC hLK.2.2.2.1 (fun _ _ => rfl) ⟨by omega, by omega⟩ (by decide) dL_law_1217 (fun H locs hC => ?_)
            rw [show (((9) * (((k : Nat) : Int))) + (6) : Int).toNat = 9 * k + 6 from by omega] at hC
            refine y_aload hM hl 15 rfl dL_law_1218 ?_
            refine y_iload hM hl 3 rfl dL_law_1220 ?_
            refine y_bipush hM dL_law_1222 (by decide) ?_
            refine y_iadd hM dL_law_1224 ?_
            refine y_iload hM hl 2 rfl dL_law_1225 ?_
            refine y_iast hM hC hLK.2.2.2.1 (fun _ _ => rfl) ⟨by omega, by omega⟩ (by decide) dL_law_1227 (fun H locs hC => ?_)
            rw [show (((9) * (((k : Nat) : Int))) + (8) : Int).toNat = 9 * k + 8 from by omega] at hC
            refine lv_goto (tgt := 1500) hM.1 hM.2.1 dL_law_1228 (by decide) ?_
            refine y_aload hM hl 15 rfl dL_law_1500 ?_
            refine y_iload hM hl 3 rfl dL_law_1502 ?_
            refine y_iconst hM dL_law_1504 ?_
            refine y_iadd hM dL_law_1505 ?_
            refine lv_dup2_11 hM.1 hM.2.1 dL_law_1506 rfl rfl ?_
            refine y_iald hM hC hLK.2.2.2.1 rfl ⟨by omega, by omega⟩ (by decide) (x := T 11 k 3) (by rw [show (((9) * (((k : Nat) : Int))) + (3) : Int).toNat = 9 * k + 3 from by omega, up_of (by omega), up_of (by omega), up_of (by omega), up_of (by omega), up_of (by omega), ho.2.2.2.1]) dL_law_1507 ?_
            refine y_iconst hM dL_law_1508 ?_
            refine y_iadd hM dL_law_1509 ?_
            refine y_iast hM hC hLK.2.2.2.1 (fun _ _ => rfl) ⟨by omega, by omega⟩ (by decide) dL_law_1510 (fun H locs hC => ?_)
            rw [show (((9) * (((k : Nat) : Int))) + (3) : Int).toNat = 9 * k + 3 from by omega] at hC
            refine y_iload hM hl 4 rfl dL_law_1511 ?_
            refine y_if_eq hM (by constructor <;> omega) (tgt := 1525) dL_law_1513 (by decide) (fun c_1513 => ?_) (fun c_1513 => False.elim (by omega))
            obtain ⟨T1, hT1⟩ : ∃ X : TT, X = (up (up (up (up (up (up T 54 0 (4 * k) (T 10 mv 1)) 54 0 (4 * k + 1) (moF (T 10 mv 1) (prF T (T 11 k 1).toNat 0))) 52 0 (mv) (0)) 53 0 (9 * k + 6) (T 0 0 5)) 53 0 (9 * k + 8) (lateT T k (T 0 0 5))) 53 0 (9 * k + 3) ((T 11 k 3) + (1))) := ⟨_, rfl⟩
            rw [← hT1] at hC
            have hlo : LoE T1 T := by
              rw [hT1]
              exact ((((((LoE.r.hi (by decide)).hi (by decide)).hi (by decide)).hi (by decide)).hi (by decide)).hi (by decide))
            obtain ⟨hCK1, hNC1, hR1, hz1⟩ := hI.mid hlo
            obtain ⟨hF1, hRK1, hSK1, hOK1, hKF1, hLK1⟩ := id hCK1
            obtain ⟨hRN1, hDN1, hSN1, hON1, -, -, -⟩ := id hNC1
            have h05 : T1 0 0 5 = T 0 0 5 := by rw [hz1]
            have h06 : T1 0 0 6 = T 0 0 6 := by rw [hz1]
            have h07 : T1 0 0 7 = T 0 0 7 := by rw [hz1]
            have h08 : T1 0 0 8 = T 0 0 8 := by rw [hz1]
            obtain ⟨m1, m2, m3, m4⟩ := stp_mid hlo k 0
            refine y_aload_n hM hl 19 rfl rfl dL_law_1525 ?_
            refine y_iload hM hl 5 rfl dL_law_1526 ?_
            refine y_callV hM hC (c_step l hfl G b0 ks ad T1 P (((k : Nat) : Int)) ⟨by omega, by omega⟩ hF1 hRK1 hRN1 hDN1 hSK1 hSN1 hOK1 hON1) (cwV 1 hM.2.2.2.2 gL_law_X3_step rfl rfl rfl (by decide +kernel) ⟨(Nat.le_of_ble_eq_true rfl), (Nat.le_of_ble_eq_true rfl)⟩) (y_recv hC hF1.1 rfl rfl) rfl hl.1 rfl (Nat.le_of_ble_eq_true rfl) dL_law_1528 ⟨(show _ ≤ 602294 by omega), (show _ ≤ 7294300 by omega)⟩ (fun E ce q9 u1 H locs hx hC hce hcv hcl => by
                obtain ⟨x, rfl, hx, hu⟩ := hx; rw [hu] at hC; clear hu; try dsimp only at hx
                exact False.elim ((by simp only [Int.toNat_natCast, m1, m2, m3, m4, h08] at hx; omega))) (fun v u1 H locs hp hC => ?_)
            obtain ⟨r_1528, rfl, h_1528, hu⟩ := hp; rw [hu] at hC; clear hu
            try dsimp only at h_1528
            refine W.eq (g2 := F0 m 1531 ls [.int (iI (r_1528))]) rfl ?_
            simp only [Int.toNat_natCast, m3] at h_1528
            rw [Int.toNat_natCast] at hC
            refine y_iload hM hl 2 rfl dL_law_1531 ?_
            refine y_icmp_eq hM (by constructor <;> omega) (by constructor <;> omega) (tgt := 1538) dL_law_1533 (by decide) (fun c_1533 => ?_) (fun c_1533 => False.elim (by omega))
            refine lv_goto (tgt := 1608) hM.1 hM.2.1 dL_law_1538 (by decide) ?_
            exact kk _ _ _ _ _ _ _ _ ls (by omega) (by omega) hC (op_stp hI hlo hk8 (by omega) (fun q => by omega) (fun r1 n1 => by
                  have e10 : T1 10 mv = T 10 mv := hlo 10 mv (by omega)
                  have emv : mv = mvT T1 k := by rw [mvT_lo hlo]; exact hmv
                  have epr : prF T1 (T1 11 k 1).toNat 0 = prF T (T 11 k 1).toNat 0 := by
                    unfold prF
                    rw [m1, valT_lo hlo, hz1]
                  have h := R2_s1 (k := k) (i := mv) (f := 0) (c := (T 11 k 3) + (1)) (u := T 10 mv 1) (mo := moF (T 10 mv 1) (prF T (T 11 k 1).toNat 0)) r1 n1 (by omega) ⟨emv, by omega⟩ (by rw [m1]; omega) (by rw [e10]) (by rw [e10, epr]) (by omega)
                  rw [m3, h05] at h
                  exact h.congr LoE.r (by rw [hT1]; exact HiE.r))) ⟨hl.1, hl.2.1, fun q hq => hl.2.2 q ((List.forall_mem_cons.mpr ⟨List.mem_of_getElem? (i := 9) rfl, (List.forall_mem_cons.mpr ⟨List.mem_of_getElem? (i := 11) rfl, (List.forall_mem_cons.mpr ⟨List.mem_of_getElem? (i := 12) rfl, (List.forall_mem_cons.mpr ⟨List.mem_of_getElem? (i := 13) rfl, (List.forall_mem_cons.mpr ⟨List.mem_of_getElem? (i := 14) rfl, (List.forall_mem_cons.mpr ⟨List.mem_of_getElem? (i := 15) rfl, (List.forall_mem_cons.mpr ⟨List.mem_of_getElem? (i := 16) rfl, (List.forall_mem_cons.mpr ⟨List.mem_of_getElem? (i := 17) rfl, (List.forall_mem_cons.mpr ⟨List.mem_of_getElem? (i := 18) rfl, (List.forall_mem_cons.mpr ⟨List.mem_of_getElem? (i := 19) rfl, (List.forall_mem_cons.mpr ⟨List.mem_of_getElem? (i := 20) rfl, (fun _ h => absurd h List.not_mem_nil)⟩)⟩)⟩)⟩)⟩)⟩)⟩)⟩)⟩)⟩)⟩) q hq)⟩
          ·
            refine y_aload hM hl 15 rfl dL_law_1102 ?_
            refine y_iload hM hl 3 rfl dL_law_1104 ?_
            refine y_iconst hM dL_law_1106 ?_
            refine y_iadd hM dL_law_1107 ?_
            refine y_aload hM hl 12 rfl dL_law_1108 ?_
            refine y_iconst hM dL_law_1110 ?_
            refine y_iald hM hC hLK.2.2.2.2.2.2 rfl ⟨by omega, by omega⟩ (by decide) (x := T 0 0 5) (by rw [show ((3 : Int)).toNat = 3 from rfl, hg3]) dL_law_1111 ?_
            refine y_iast hM hC hLK.2.2.2.1 (fun _ _ => rfl) ⟨by omega, by omega⟩ (by decide) dL_law_1112 (fun H locs hC => ?_)
            rw [show (((9) * (((k : Nat) : Int))) + (5) : Int).toNat = 9 * k + 5 from by omega] at hC
            refine y_aload hM hl 15 rfl dL_law_1113 ?_
            refine y_iload hM hl 3 rfl dL_law_1115 ?_
            refine y_bipush hM dL_law_1117 (by decide) ?_
            refine y_iadd hM dL_law_1119 ?_
            refine y_iload hM hl 2 rfl dL_law_1120 ?_
            refine y_iast hM hC hLK.2.2.2.1 (fun _ _ => rfl) ⟨by omega, by omega⟩ (by decide) dL_law_1122 (fun H locs hC => ?_)
            rw [show (((9) * (((k : Nat) : Int))) + (7) : Int).toNat = 9 * k + 7 from by omega] at hC
            refine lv_goto (tgt := 1500) hM.1 hM.2.1 dL_law_1123 (by decide) ?_
            refine y_aload hM hl 15 rfl dL_law_1500 ?_
            refine y_iload hM hl 3 rfl dL_law_1502 ?_
            refine y_iconst hM dL_law_1504 ?_
            refine y_iadd hM dL_law_1505 ?_
            refine lv_dup2_11 hM.1 hM.2.1 dL_law_1506 rfl rfl ?_
            refine y_iald hM hC hLK.2.2.2.1 rfl ⟨by omega, by omega⟩ (by decide) (x := T 11 k 3) (by rw [show (((9) * (((k : Nat) : Int))) + (3) : Int).toNat = 9 * k + 3 from by omega, up_of (by omega), up_of (by omega), ho.2.2.2.1]) dL_law_1507 ?_
            refine y_iconst hM dL_law_1508 ?_
            refine y_iadd hM dL_law_1509 ?_
            refine y_iast hM hC hLK.2.2.2.1 (fun _ _ => rfl) ⟨by omega, by omega⟩ (by decide) dL_law_1510 (fun H locs hC => ?_)
            rw [show (((9) * (((k : Nat) : Int))) + (3) : Int).toNat = 9 * k + 3 from by omega] at hC
            refine y_iload hM hl 4 rfl dL_law_1511 ?_
            refine y_if_eq hM (by constructor <;> omega) (tgt := 1525) dL_law_1513 (by decide) (fun c_1513 => ?_) (fun c_1513 => False.elim (by omega))
            obtain ⟨T1, hT1⟩ : ∃ X : TT, X = (up (up (up T 53 0 (9 * k + 5) (T 0 0 5)) 53 0 (9 * k + 7) (lateT T k (T 0 0 5))) 53 0 (9 * k + 3) ((T 11 k 3) + (1))) := ⟨_, rfl⟩
            rw [← hT1] at hC
            have hlo : LoE T1 T := by
              rw [hT1]
              exact (((LoE.r.hi (by decide)).hi (by decide)).hi (by decide))
            obtain ⟨hCK1, hNC1, hR1, hz1⟩ := hI.mid hlo
            obtain ⟨hF1, hRK1, hSK1, hOK1, hKF1, hLK1⟩ := id hCK1
            obtain ⟨hRN1, hDN1, hSN1, hON1, -, -, -⟩ := id hNC1
            have h05 : T1 0 0 5 = T 0 0 5 := by rw [hz1]
            have h06 : T1 0 0 6 = T 0 0 6 := by rw [hz1]
            have h07 : T1 0 0 7 = T 0 0 7 := by rw [hz1]
            have h08 : T1 0 0 8 = T 0 0 8 := by rw [hz1]
            obtain ⟨m1, m2, m3, m4⟩ := stp_mid hlo k 0
            refine y_aload_n hM hl 19 rfl rfl dL_law_1525 ?_
            refine y_iload hM hl 5 rfl dL_law_1526 ?_
            refine y_callV hM hC (c_step l hfl G b0 ks ad T1 P (((k : Nat) : Int)) ⟨by omega, by omega⟩ hF1 hRK1 hRN1 hDN1 hSK1 hSN1 hOK1 hON1) (cwV 1 hM.2.2.2.2 gL_law_X3_step rfl rfl rfl (by decide +kernel) ⟨(Nat.le_of_ble_eq_true rfl), (Nat.le_of_ble_eq_true rfl)⟩) (y_recv hC hF1.1 rfl rfl) rfl hl.1 rfl (Nat.le_of_ble_eq_true rfl) dL_law_1528 ⟨(show _ ≤ 602294 by omega), (show _ ≤ 7294300 by omega)⟩ (fun E ce q9 u1 H locs hx hC hce hcv hcl => by
                obtain ⟨x, rfl, hx, hu⟩ := hx; rw [hu] at hC; clear hu; try dsimp only at hx
                exact False.elim ((by simp only [Int.toNat_natCast, m1, m2, m3, m4, h08] at hx; omega))) (fun v u1 H locs hp hC => ?_)
            obtain ⟨r_1528, rfl, h_1528, hu⟩ := hp; rw [hu] at hC; clear hu
            try dsimp only at h_1528
            refine W.eq (g2 := F0 m 1531 ls [.int (iI (r_1528))]) rfl ?_
            simp only [Int.toNat_natCast, m3] at h_1528
            rw [Int.toNat_natCast] at hC
            refine y_iload hM hl 2 rfl dL_law_1531 ?_
            refine y_icmp_eq hM (by constructor <;> omega) (by constructor <;> omega) (tgt := 1538) dL_law_1533 (by decide) (fun c_1533 => ?_) (fun c_1533 => False.elim (by omega))
            refine lv_goto (tgt := 1608) hM.1 hM.2.1 dL_law_1538 (by decide) ?_
            exact kk _ _ _ _ _ _ _ _ ls (by omega) (by omega) hC (op_stp hI hlo hk8 (by omega) (fun q => by omega) (fun r1 n1 => by
                  have h := R2_s0 (k := k) (f := 0) (c := (T 11 k 3) + (1)) r1 n1 (by omega) (by rw [m1]; omega) (by omega)
                  rw [m3, h05] at h
                  exact h.congr LoE.r (by rw [hT1]; exact HiE.r))) ⟨hl.1, hl.2.1, fun q hq => hl.2.2 q ((List.forall_mem_cons.mpr ⟨List.mem_of_getElem? (i := 9) rfl, (List.forall_mem_cons.mpr ⟨List.mem_of_getElem? (i := 11) rfl, (List.forall_mem_cons.mpr ⟨List.mem_of_getElem? (i := 12) rfl, (List.forall_mem_cons.mpr ⟨List.mem_of_getElem? (i := 13) rfl, (List.forall_mem_cons.mpr ⟨List.mem_of_getElem? (i := 14) rfl, (List.forall_mem_cons.mpr ⟨List.mem_of_getElem? (i := 15) rfl, (List.forall_mem_cons.mpr ⟨List.mem_of_getElem? (i := 16) rfl, (List.forall_mem_cons.mpr ⟨List.mem_of_getElem? (i := 17) rfl, (List.forall_mem_cons.mpr ⟨List.mem_of_getElem? (i := 18) rfl, (List.forall_mem_cons.mpr ⟨List.mem_of_getElem? (i := 19) rfl, (List.forall_mem_cons.mpr ⟨List.mem_of_getElem? (i := 20) rfl, (fun _ h => absurd h List.not_mem_nil)⟩)⟩)⟩)⟩)⟩)⟩)⟩)⟩)⟩)⟩)⟩) q hq)⟩
        ·
          have hgn := gotT_nn hRN hDN (k := k) (by omega) (by omega) 0
          have hgl := gotT_le hRN hDN (k := k) (by omega) ⟨by omega, by omega⟩ 0
          have htm := timT_in hRN (k := k) (by omega) (by omega) ⟨by omega, by omega⟩ (T 11 k 5 + lateT T k (T 0 0 5))
          have hovf := hov 0
          have hall : allL T k (lateT T k (T 0 0 5)) = T 11 k 5 + lateT T k (T 0 0 5) := rfl
          rw [hall] at hovf
          have hlkp : 0 < T 11 k 5 + lateT T k (T 0 0 5) → gotT T k 0 < timT T k (T 11 k 5 + lateT T k (T 0 0 5)) → lakT T k (lateT T k (T 0 0 5)) 0 = timT T k (T 11 k 5 + lateT T k (T 0 0 5)) - gotT T k 0 := fun h1 h2 => by
            unfold lakT
            rw [hall, if_pos h1, if_pos h2]
          have hlkz : ¬ (0 < T 11 k 5 + lateT T k (T 0 0 5) ∧ gotT T k 0 < timT T k (T 11 k 5 + lateT T k (T 0 0 5))) → lakT T k (lateT T k (T 0 0 5)) 0 = 0 := fun h => by
            unfold lakT
            rw [hall]
            by_cases h1 : 0 < T 11 k 5 + lateT T k (T 0 0 5)
            · rw [if_pos h1, if_neg (fun h2 => h ⟨h1, h2⟩)]
            · rw [if_neg h1]
          refine y_iload hM hl 4 rfl dL_law_954 ?_
          refine y_if_eq hM (by constructor <;> omega) (tgt := 966) dL_law_956 (by decide) (fun c_956 => ?_) (fun c_956 => False.elim (by omega))
          refine y_aload_n hM hl 18 rfl rfl dL_law_966 ?_
          refine y_aload hM hl 15 rfl dL_law_967 ?_
          refine y_iload hM hl 3 rfl dL_law_969 ?_
          refine y_iconst hM dL_law_971 ?_
          refine y_iadd hM dL_law_972 ?_
          refine y_iald hM hC hLK.2.2.2.1 rfl ⟨by omega, by omega⟩ (by decide) (x := T 11 k 2) (by rw [show (((9) * (((k : Nat) : Int))) + (2) : Int).toNat = 9 * k + 2 from by omega, ho.2.2.1]) dL_law_973 ?_
          refine y_aload hM hl 12 rfl dL_law_974 ?_
          refine y_iconst hM dL_law_976 ?_
          refine y_iald hM hC hLK.2.2.2.2.2.2 rfl ⟨by omega, by omega⟩ (by decide) (x := T 0 0 5) (by rw [show ((3 : Int)).toNat = 3 from rfl, hg3]) dL_law_977 ?_
          refine y_callS hM hC (c_L_price l hfl G b0 ks ad T P (T 11 k 2) (T 0 0 5) ⟨by omega, by omega⟩ ⟨by omega, by omega⟩ hLK.1 hRP) (va_cwS 3 hM.2.2.2.2 gL_law_L_price rfl rfl rfl (by decide +kernel) ⟨(Nat.le_of_ble_eq_true rfl), (Nat.le_of_ble_eq_true rfl)⟩) rfl hl.1 rfl (Nat.le_of_ble_eq_true rfl) dL_law_978 ⟨(show _ ≤ 602294 by omega), (show _ ≤ 7294300 by omega)⟩ (fun E ce q9 u1 H locs hx hC hce hcv hcl => hx.elim) (fun v u1 H locs hp hC => ?_)
          obtain ⟨r_978, rfl, h_978, hu⟩ := hp; rw [hu] at hC; clear hu
          try dsimp only at h_978
          refine W.eq (g2 := F0 m 981 ls [.int (iI (r_978))]) rfl ?_
          have hv_978 := valT_in hRN (p := (T 11 k 2).toNat) (by omega) (T 0 0 5)
          refine lv_istore (lv' := [(21, .int (iI (r_978))), (20, .int (iI (T 11 k 3))), (19, .int (iI (0))), (18, .int (iI (lateT T k (T 0 0 5)))), (17, .int (iI ((9) * (((k : Nat) : Int))))), (16, .int (iI (0))), (15, .int (iI (((k : Nat) : Int)))), (14, .int (iI (((sv : Nat) : Int)))), (13, .int (iI (((pv : Nat) : Int)))), (12, .int (iI (kd))), (11, .int (iI (yy))), (10, .int (iI (xx))), (9, .int (iI (((i : Nat) : Int)))), (8, .ref (ad 56 0)), (7, .ref (ad 55 0)), (6, .ref (ad 54 0)), (5, .ref (ad 53 0)), (4, .ref (ad 52 0)), (3, .ref (ad 51 0)), (2, .ref (ad 50 0)), (1, .ref (ad 0 0)), (0, .ref b)]) hM.1 hM.2.1 dL_law_981 hl (by decide) rfl (fun ls hl => ?_)
          refine y_aload hM hl 15 rfl dL_law_983 ?_
          refine y_iconst hM dL_law_985 ?_
          refine y_iload hM hl 6 rfl dL_law_986 ?_
          refine y_imul hM dL_law_988 ?_
          refine y_iconst hM dL_law_989 ?_
          refine y_iadd hM dL_law_990 ?_
          refine y_lald hM hC hLK.2.2.2.2.1 rfl ⟨by omega, by omega⟩ (by decide) (x := T 11 k 8) (by rw [show (((4) * (((k : Nat) : Int))) + (1) : Int).toNat = 4 * k + 1 from by omega, ho.2.2.2.2.2.2.2.2.2.2.2.1]) dL_law_991 ?_
          refine y_ldc2 hM (v := 1000) (1000) (by decide) (by decide +kernel) dL_law_992 ?_
          refine y_lmul hM dL_law_995 ?_
          refine y_iload hM hl 0 rfl dL_law_996 ?_
          refine y_i2l hM (by constructor <;> omega) dL_law_998 ?_
          refine y_ldiv hM ⟨by omega, by omega, by omega, by omega⟩ dL_law_999 ?_
          rw [show ((T 11 k 8) * (1000)) / (r_978) = gotT T k 0 from (by rw [h_978]; unfold gotT prF; rw [if_pos rfl]; rfl)]
          refine lv_lstore (lv' := [(22, .long (lI (gotT T k 0))), (21, .int (iI (r_978))), (20, .int (iI (T 11 k 3))), (19, .int (iI (0))), (18, .int (iI (lateT T k (T 0 0 5)))), (17, .int (iI ((9) * (((k : Nat) : Int))))), (16, .int (iI (0))), (15, .int (iI (((k : Nat) : Int)))), (14, .int (iI (((sv : Nat) : Int)))), (13, .int (iI (((pv : Nat) : Int)))), (12, .int (iI (kd))), (11, .int (iI (yy))), (10, .int (iI (xx))), (9, .int (iI (((i : Nat) : Int)))), (8, .ref (ad 56 0)), (7, .ref (ad 55 0)), (6, .ref (ad 54 0)), (5, .ref (ad 53 0)), (4, .ref (ad 52 0)), (3, .ref (ad 51 0)), (2, .ref (ad 50 0)), (1, .ref (ad 0 0)), (0, .ref b)]) hM.1 hM.2.1 dL_law_1000 hl (by decide) rfl (fun ls hl => ?_)
          refine y_aload hM hl 17 rfl dL_law_1002 ?_
          refine y_iload hM hl 5 rfl dL_law_1004 ?_
          refine y_bipush hM dL_law_1006 (by decide) ?_
          refine y_iadd hM dL_law_1008 ?_
          refine y_iald hM hC hLK.2.2.2.1 rfl ⟨by omega, by omega⟩ (by decide) (x := T 53 0 (9 * k + 7)) (by rw [show (((9) * (((k : Nat) : Int))) + (7) : Int).toNat = 9 * k + 7 from by omega]) dL_law_1009 ?_
          refine y_aload hM hl 17 rfl dL_law_1010 ?_
          refine y_iload hM hl 5 rfl dL_law_1012 ?_
          refine y_bipush hM dL_law_1014 (by decide) ?_
          refine y_iadd hM dL_law_1016 ?_
          refine y_iald hM hC hLK.2.2.2.1 rfl ⟨by omega, by omega⟩ (by decide) (x := T 53 0 (9 * k + 8)) (by rw [show (((9) * (((k : Nat) : Int))) + (8) : Int).toNat = 9 * k + 8 from by omega]) dL_law_1017 ?_
          refine y_iadd hM dL_law_1018 ?_
          rw [show (T 53 0 (9 * k + 7)) + (T 53 0 (9 * k + 8)) = T 11 k 5 from (by omega)]
          refine y_iload hM hl 4 rfl dL_law_1019 ?_
          refine y_iadd hM dL_law_1021 ?_
          refine y_if_le hM (by constructor <;> omega) (tgt := 1044) dL_law_1022 (by decide) (fun c_1022 => ?_) (fun c_1022 => ?_)
          ·
            refine y_lconst hM 0 (by decide) dL_law_1044 ?_
            refine lv_lstore (lv' := [(24, .long (lI (0))), (22, .long (lI (gotT T k 0))), (21, .int (iI (r_978))), (20, .int (iI (T 11 k 3))), (19, .int (iI (0))), (18, .int (iI (lateT T k (T 0 0 5)))), (17, .int (iI ((9) * (((k : Nat) : Int))))), (16, .int (iI (0))), (15, .int (iI (((k : Nat) : Int)))), (14, .int (iI (((sv : Nat) : Int)))), (13, .int (iI (((pv : Nat) : Int)))), (12, .int (iI (kd))), (11, .int (iI (yy))), (10, .int (iI (xx))), (9, .int (iI (((i : Nat) : Int)))), (8, .ref (ad 56 0)), (7, .ref (ad 55 0)), (6, .ref (ad 54 0)), (5, .ref (ad 53 0)), (4, .ref (ad 52 0)), (3, .ref (ad 51 0)), (2, .ref (ad 50 0)), (1, .ref (ad 0 0)), (0, .ref b)]) hM.1 hM.2.1 dL_law_1045 hl (by decide) rfl (fun ls hl => ?_)
            refine y_lload hM hl 1 rfl dL_law_1047 ?_
            refine y_ldc2 hM (v := 100000000) (100000000) (by decide) (by decide +kernel) dL_law_1049 ?_
            refine y_lcmp hM (by constructor <;> omega) (by constructor <;> omega) dL_law_1052 ?_
            have hcl_1052 := cmpI_le (gotT T k 0) (100000000)
            have hcg_1052 := cmpI_gt (gotT T k 0) (100000000)
            have hce_1052 := cmpI_eq (gotT T k 0) (100000000)
            refine y_if_gt hM (cmpI_in _ _) (tgt := 1065) dL_law_1053 (by decide) (fun c_1053 => ?_) (fun c_1053 => ?_)
            ·
              refine y_iconst hM dL_law_1065 ?_
              refine lv_istore (lv' := [(19, .int (iI (3))), (24, .long (lI (0))), (22, .long (lI (gotT T k 0))), (21, .int (iI (r_978))), (20, .int (iI (T 11 k 3))), (18, .int (iI (lateT T k (T 0 0 5)))), (17, .int (iI ((9) * (((k : Nat) : Int))))), (16, .int (iI (0))), (15, .int (iI (((k : Nat) : Int)))), (14, .int (iI (((sv : Nat) : Int)))), (13, .int (iI (((pv : Nat) : Int)))), (12, .int (iI (kd))), (11, .int (iI (yy))), (10, .int (iI (xx))), (9, .int (iI (((i : Nat) : Int)))), (8, .ref (ad 56 0)), (7, .ref (ad 55 0)), (6, .ref (ad 54 0)), (5, .ref (ad 53 0)), (4, .ref (ad 52 0)), (3, .ref (ad 51 0)), (2, .ref (ad 50 0)), (1, .ref (ad 0 0)), (0, .ref b)]) hM.1 hM.2.1 dL_law_1066 hl (by decide) rfl (fun ls hl => ?_)
              refine y_iload hM hl 0 rfl dL_law_1068 ?_
              refine y_if_le hM (by constructor <;> omega) (tgt := 1097) dL_law_1070 (by decide) (fun c_1070 => False.elim (by omega)) (fun c_1070 => ?_)
              refine y_aload_n hM hl 22 rfl rfl dL_law_1073 ?_
              refine y_iload hM hl 7 rfl dL_law_1074 ?_
              refine y_if_eq hM (by constructor <;> omega) (tgt := 1083) dL_law_1076 (by decide) (fun c_1076 => ?_) (fun c_1076 => False.elim (by omega))
              refine y_iconst hM dL_law_1083 ?_
              refine y_iload hM hl 8 rfl dL_law_1084 ?_
              refine y_iconst hM dL_law_1086 ?_
              refine y_callSX hM hN hC (c_ref_step l hfl G b0 ks ad T P (((k : Nat) : Int)) (0) ⟨by omega, by omega⟩ ⟨by omega, by omega⟩ hF hRK hRN hDN hSK hSN hOK hON (by simp only [Int.toNat_natCast]; omega)) (vx_cwSW 4 hM.2.2.2.2 gL_law_L_refused rfl rfl rfl (by decide +kernel) ⟨(Nat.le_of_ble_eq_true rfl), (Nat.le_of_ble_eq_true rfl)⟩) rfl hl.1 rfl (Nat.le_of_ble_eq_true rfl) dL_law_1087 ⟨(show _ ≤ 602294 by omega), (show _ ≤ 7294300 by omega)⟩ (fun E ce q9 u1 H locs hx hC hce hcv hcl => hx.elim) (fun v u1 H locs hp hC => ?_)
              obtain ⟨r_1087, rfl, h_1087, hu⟩ := hp; rw [hu] at hC; clear hu
              try dsimp only at h_1087
              refine W.eq (g2 := F0 m 1090 ls [.int (iI (r_1087))]) rfl ?_
              refine y_iload hM hl 0 rfl dL_law_1090 ?_
              refine y_icmp_eq hM (by constructor <;> omega) (by constructor <;> omega) (tgt := 1643) dL_law_1092 (by decide) (fun c_1092 => ?_) (fun c_1092 => False.elim (by omega))
              exact kn _ _ _ _ _ _ _ _ ls (by omega) (by omega) hC hI ⟨hl.1, hl.2.1, fun q hq => hl.2.2 q ((List.forall_mem_cons.mpr ⟨List.mem_of_getElem? (i := 14) rfl, (List.forall_mem_cons.mpr ⟨List.mem_of_getElem? (i := 15) rfl, (List.forall_mem_cons.mpr ⟨List.mem_of_getElem? (i := 16) rfl, (List.forall_mem_cons.mpr ⟨List.mem_of_getElem? (i := 17) rfl, (List.forall_mem_cons.mpr ⟨List.mem_of_getElem? (i := 18) rfl, (List.forall_mem_cons.mpr ⟨List.mem_of_getElem? (i := 19) rfl, (List.forall_mem_cons.mpr ⟨List.mem_of_getElem? (i := 20) rfl, (List.forall_mem_cons.mpr ⟨List.mem_of_getElem? (i := 21) rfl, (List.forall_mem_cons.mpr ⟨List.mem_of_getElem? (i := 22) rfl, (List.forall_mem_cons.mpr ⟨List.mem_of_getElem? (i := 23) rfl, (fun _ h => absurd h List.not_mem_nil)⟩)⟩)⟩)⟩)⟩)⟩)⟩)⟩)⟩)⟩) q hq)⟩
            ·
              refine y_lload hM hl 0 rfl dL_law_1056 ?_
              refine y_ldc2 hM (v := 100000000) (100000000) (by decide) (by decide +kernel) dL_law_1058 ?_
              refine y_lcmp hM (by constructor <;> omega) (by constructor <;> omega) dL_law_1061 ?_
              have hcl_1061 := cmpI_le (0) (100000000)
              have hcg_1061 := cmpI_gt (0) (100000000)
              have hce_1061 := cmpI_eq (0) (100000000)
              refine y_if_le hM (cmpI_in _ _) (tgt := 1068) dL_law_1062 (by decide) (fun c_1062 => ?_) (fun c_1062 => False.elim (by omega))
              refine y_iload hM hl 4 rfl dL_law_1068 ?_
              refine y_if_le hM (by constructor <;> omega) (tgt := 1097) dL_law_1070 (by decide) (fun c_1070 => ?_) (fun c_1070 => False.elim (by omega))
              refine y_iload hM hl 3 rfl dL_law_1097 ?_
              refine y_if_ne hM (by constructor <;> omega) (tgt := 1126) dL_law_1099 (by decide) (fun c_1099 => ?_) (fun c_1099 => False.elim (by omega))
              refine y_iload hM hl 3 rfl dL_law_1126 ?_
              refine y_iconst hM dL_law_1128 ?_
              refine y_icmp_ne hM (by constructor <;> omega) (by constructor <;> omega) (tgt := 1231) dL_law_1129 (by decide) (fun c_1129 => ?_) (fun c_1129 => False.elim (by omega))
              refine y_aload hM hl 17 rfl dL_law_1231 ?_
              refine y_iconst hM dL_law_1233 ?_
              refine y_iload hM hl 8 rfl dL_law_1234 ?_
              refine y_imul hM dL_law_1236 ?_
              refine y_iconst hM dL_law_1237 ?_
              refine y_iadd hM dL_law_1238 ?_
              refine y_lald hM hC hLK.2.2.2.2.1 rfl ⟨by omega, by omega⟩ (by decide) (x := T 11 k 8) (by rw [show (((4) * (((k : Nat) : Int))) + (1) : Int).toNat = 4 * k + 1 from by omega, ho.2.2.2.2.2.2.2.2.2.2.2.1]) dL_law_1239 ?_
              refine y_ldc2 hM (v := 1000) (1000) (by decide) (by decide +kernel) dL_law_1240 ?_
              refine y_lmul hM dL_law_1243 ?_
              refine y_iload hM hl 7 rfl dL_law_1244 ?_
              refine y_if_eq hM (by constructor <;> omega) (tgt := 1256) dL_law_1246 (by decide) (fun c_1246 => ?_) (fun c_1246 => False.elim (by omega))
              refine y_aload_n hM hl 21 rfl rfl dL_law_1256 ?_
              refine y_aload hM hl 18 rfl dL_law_1257 ?_
              refine y_iload hM hl 6 rfl dL_law_1259 ?_
              refine y_iconst hM dL_law_1261 ?_
              refine y_iadd hM dL_law_1262 ?_
              refine y_iald hM hC hLK.2.2.2.1 rfl ⟨by omega, by omega⟩ (by decide) (x := T 11 k 2) (by rw [show (((9) * (((k : Nat) : Int))) + (2) : Int).toNat = 9 * k + 2 from by omega, ho.2.2.1]) dL_law_1263 ?_
              refine y_aload hM hl 15 rfl dL_law_1264 ?_
              refine y_iconst hM dL_law_1266 ?_
              refine y_iald hM hC hLK.2.2.2.2.2.2 rfl ⟨by omega, by omega⟩ (by decide) (x := T 0 0 5) (by rw [show ((3 : Int)).toNat = 3 from rfl, hg3]) dL_law_1267 ?_
              refine y_callS hM hC (c_L_price l hfl G b0 ks ad T P (T 11 k 2) (T 0 0 5) ⟨by omega, by omega⟩ ⟨by omega, by omega⟩ hLK.1 hRP) (va_cwS 3 hM.2.2.2.2 gL_law_L_price rfl rfl rfl (by decide +kernel) ⟨(Nat.le_of_ble_eq_true rfl), (Nat.le_of_ble_eq_true rfl)⟩) rfl hl.1 rfl (Nat.le_of_ble_eq_true rfl) dL_law_1268 ⟨(show _ ≤ 602294 by omega), (show _ ≤ 7294300 by omega)⟩ (fun E ce q9 u1 H locs hx hC hce hcv hcl => hx.elim) (fun v u1 H locs hp hC => ?_)
              obtain ⟨r_1268, rfl, h_1268, hu⟩ := hp; rw [hu] at hC; clear hu
              try dsimp only at h_1268
              refine W.eq (g2 := F0 m 1271 ls [.int (iI (r_1268)), .long (lI ((T 11 k 8) * (1000)))]) rfl ?_
              have hv_1268 := valT_in hRN (p := (T 11 k 2).toNat) (by omega) (T 0 0 5)
              refine y_i2l hM (by constructor <;> omega) dL_law_1271 ?_
              refine y_ldiv hM ⟨by omega, by omega, by omega, by omega⟩ dL_law_1272 ?_
              rw [show ((T 11 k 8) * (1000)) / (r_1268) = gotT T k 0 from (by rw [h_1268]; unfold gotT prF; rw [if_pos rfl]; rfl)]
              refine lv_lstore (lv' := [(21, .long (lI (gotT T k 0))), (24, .long (lI (0))), (20, .int (iI (T 11 k 3))), (19, .int (iI (0))), (18, .int (iI (lateT T k (T 0 0 5)))), (17, .int (iI ((9) * (((k : Nat) : Int))))), (16, .int (iI (0))), (15, .int (iI (((k : Nat) : Int)))), (14, .int (iI (((sv : Nat) : Int)))), (13, .int (iI (((pv : Nat) : Int)))), (12, .int (iI (kd))), (11, .int (iI (yy))), (10, .int (iI (xx))), (9, .int (iI (((i : Nat) : Int)))), (8, .ref (ad 56 0)), (7, .ref (ad 55 0)), (6, .ref (ad 54 0)), (5, .ref (ad 53 0)), (4, .ref (ad 52 0)), (3, .ref (ad 51 0)), (2, .ref (ad 50 0)), (1, .ref (ad 0 0)), (0, .ref b)]) hM.1 hM.2.1 dL_law_1273 hl (by decide) rfl (fun ls hl => ?_)
              refine y_aload hM hl 17 rfl dL_law_1275 ?_
              refine y_iload hM hl 5 rfl dL_law_1277 ?_
              refine y_bipush hM dL_law_1279 (by decide) ?_
              refine y_iadd hM dL_law_1281 ?_
              refine y_iald hM hC hLK.2.2.2.1 rfl ⟨by omega, by omega⟩ (by decide) (x := T 53 0 (9 * k + 7)) (by rw [show (((9) * (((k : Nat) : Int))) + (7) : Int).toNat = 9 * k + 7 from by omega]) dL_law_1282 ?_
              refine y_aload hM hl 17 rfl dL_law_1283 ?_
              refine y_iload hM hl 5 rfl dL_law_1285 ?_
              refine y_bipush hM dL_law_1287 (by decide) ?_
              refine y_iadd hM dL_law_1289 ?_
              refine y_iald hM hC hLK.2.2.2.1 rfl ⟨by omega, by omega⟩ (by decide) (x := T 53 0 (9 * k + 8)) (by rw [show (((9) * (((k : Nat) : Int))) + (8) : Int).toNat = 9 * k + 8 from by omega]) dL_law_1290 ?_
              refine y_iadd hM dL_law_1291 ?_
              rw [show (T 53 0 (9 * k + 7)) + (T 53 0 (9 * k + 8)) = T 11 k 5 from (by omega)]
              refine lv_istore (lv' := [(23, .int (iI (T 11 k 5))), (21, .long (lI (gotT T k 0))), (24, .long (lI (0))), (20, .int (iI (T 11 k 3))), (19, .int (iI (0))), (18, .int (iI (lateT T k (T 0 0 5)))), (17, .int (iI ((9) * (((k : Nat) : Int))))), (16, .int (iI (0))), (15, .int (iI (((k : Nat) : Int)))), (14, .int (iI (((sv : Nat) : Int)))), (13, .int (iI (((pv : Nat) : Int)))), (12, .int (iI (kd))), (11, .int (iI (yy))), (10, .int (iI (xx))), (9, .int (iI (((i : Nat) : Int)))), (8, .ref (ad 56 0)), (7, .ref (ad 55 0)), (6, .ref (ad 54 0)), (5, .ref (ad 53 0)), (4, .ref (ad 52 0)), (3, .ref (ad 51 0)), (2, .ref (ad 50 0)), (1, .ref (ad 0 0)), (0, .ref b)]) hM.1 hM.2.1 dL_law_1292 hl (by decide) rfl (fun ls hl => ?_)
              refine y_iload hM hl 0 rfl dL_law_1294 ?_
              refine y_iload hM hl 5 rfl dL_law_1296 ?_
              refine y_iadd hM dL_law_1298 ?_
              refine y_if_le hM (by constructor <;> omega) (tgt := 1321) dL_law_1299 (by decide) (fun c_1299 => ?_) (fun c_1299 => False.elim (by omega))
              refine y_lconst hM 0 (by decide) dL_law_1321 ?_
              refine lv_lstore (lv' := [(24, .long (lI (0))), (23, .int (iI (T 11 k 5))), (21, .long (lI (gotT T k 0))), (20, .int (iI (T 11 k 3))), (19, .int (iI (0))), (18, .int (iI (lateT T k (T 0 0 5)))), (17, .int (iI ((9) * (((k : Nat) : Int))))), (16, .int (iI (0))), (15, .int (iI (((k : Nat) : Int)))), (14, .int (iI (((sv : Nat) : Int)))), (13, .int (iI (((pv : Nat) : Int)))), (12, .int (iI (kd))), (11, .int (iI (yy))), (10, .int (iI (xx))), (9, .int (iI (((i : Nat) : Int)))), (8, .ref (ad 56 0)), (7, .ref (ad 55 0)), (6, .ref (ad 54 0)), (5, .ref (ad 53 0)), (4, .ref (ad 52 0)), (3, .ref (ad 51 0)), (2, .ref (ad 50 0)), (1, .ref (ad 0 0)), (0, .ref b)]) hM.1 hM.2.1 dL_law_1322 hl (by decide) rfl (fun ls hl => ?_)
              refine y_lload hM hl 0 rfl dL_law_1324 ?_
              refine y_lload hM hl 2 rfl dL_law_1326 ?_
              refine y_lcmp hM (by constructor <;> omega) (by constructor <;> omega) dL_law_1328 ?_
              have hcl_1328 := cmpI_le (0) (gotT T k 0)
              have hcg_1328 := cmpI_gt (0) (gotT T k 0)
              have hce_1328 := cmpI_eq (0) (gotT T k 0)
              refine y_if_le hM (cmpI_in _ _) (tgt := 1437) dL_law_1329 (by decide) (fun c_1329 => ?_) (fun c_1329 => False.elim (by omega))
              refine y_aload hM hl 19 rfl dL_law_1437 ?_
              refine y_aload hM hl 18 rfl dL_law_1439 ?_
              refine y_iload hM hl 6 rfl dL_law_1441 ?_
              refine y_iald hM hC hLK.2.2.2.1 rfl ⟨by omega, by omega⟩ (by decide) (x := ((mv : Nat) : Int)) (by rw [show ((9) * (((k : Nat) : Int)) : Int).toNat = 9 * k from by omega, hmv0]) dL_law_1443 ?_
              refine y_lload hM hl 0 rfl dL_law_1444 ?_
              refine y_lload hM hl 2 rfl dL_law_1446 ?_
              refine y_lcmp hM (by constructor <;> omega) (by constructor <;> omega) dL_law_1448 ?_
              have hcl_1448 := cmpI_le (0) (gotT T k 0)
              have hcg_1448 := cmpI_gt (0) (gotT T k 0)
              have hce_1448 := cmpI_eq (0) (gotT T k 0)
              refine y_if_le hM (cmpI_in _ _) (tgt := 1457) dL_law_1449 (by decide) (fun c_1449 => ?_) (fun c_1449 => False.elim (by omega))
              refine y_lload hM hl 2 rfl dL_law_1457 ?_
              refine y_last hM hC hLK.2.2.1 (fun _ _ => rfl) ⟨by omega, by omega⟩ (by decide) dL_law_1459 (fun H locs hC => ?_)
              rw [show (((mv : Nat) : Int) : Int).toNat = mv from by omega] at hC
              refine y_aload_n hM hl 20 rfl rfl dL_law_1460 ?_
              refine y_iconst hM dL_law_1461 ?_
              refine y_aload hM hl 18 rfl dL_law_1462 ?_
              refine y_iload hM hl 6 rfl dL_law_1464 ?_
              refine y_iald hM hC hLK.2.2.2.1 rfl ⟨by omega, by omega⟩ (by decide) (x := ((mv : Nat) : Int)) (by rw [show ((9) * (((k : Nat) : Int)) : Int).toNat = 9 * k from by omega, up_of (by omega), hmv0]) dL_law_1466 ?_
              refine y_imul hM dL_law_1467 ?_
              refine y_aload hM hl 18 rfl dL_law_1468 ?_
              refine y_iload hM hl 6 rfl dL_law_1470 ?_
              refine y_iconst hM dL_law_1472 ?_
              refine y_iadd hM dL_law_1473 ?_
              refine y_iald hM hC hLK.2.2.2.1 rfl ⟨by omega, by omega⟩ (by decide) (x := T 11 k 2) (by rw [show (((9) * (((k : Nat) : Int))) + (2) : Int).toNat = 9 * k + 2 from by omega, up_of (by omega), ho.2.2.1]) dL_law_1474 ?_
              refine y_iast hM hC hLK.2.1 (fun _ _ => rfl) ⟨by omega, by omega⟩ (by decide) dL_law_1475 (fun H locs hC => ?_)
              rw [show ((2) * (((mv : Nat) : Int)) : Int).toNat = 2 * mv from by omega] at hC
              refine y_aload_n hM hl 20 rfl rfl dL_law_1476 ?_
              refine y_iconst hM dL_law_1477 ?_
              refine y_aload hM hl 18 rfl dL_law_1478 ?_
              refine y_iload hM hl 6 rfl dL_law_1480 ?_
              refine y_iald hM hC hLK.2.2.2.1 rfl ⟨by omega, by omega⟩ (by decide) (x := ((mv : Nat) : Int)) (by rw [show ((9) * (((k : Nat) : Int)) : Int).toNat = 9 * k from by omega, up_of (by omega), up_of (by omega), hmv0]) dL_law_1482 ?_
              refine y_imul hM dL_law_1483 ?_
              refine y_iconst hM dL_law_1484 ?_
              refine y_iadd hM dL_law_1485 ?_
              refine y_iconst hM dL_law_1486 ?_
              refine y_iast hM hC hLK.2.1 (fun _ _ => rfl) ⟨by omega, by omega⟩ (by decide) dL_law_1487 (fun H locs hC => ?_)
              rw [show (((2) * (((mv : Nat) : Int))) + (1) : Int).toNat = 2 * mv + 1 from by omega] at hC
              refine y_aload hM hl 17 rfl dL_law_1488 ?_
              refine y_iconst hM dL_law_1490 ?_
              refine y_iload hM hl 8 rfl dL_law_1491 ?_
              refine y_imul hM dL_law_1493 ?_
              refine y_iconst hM dL_law_1494 ?_
              refine y_iadd hM dL_law_1495 ?_
              refine y_iload hM hl 5 rfl dL_law_1496 ?_
              refine y_i2l hM (by constructor <;> omega) dL_law_1498 ?_
              refine y_last hM hC hLK.2.2.2.2.1 (fun _ _ => rfl) ⟨by omega, by omega⟩ (by decide) dL_law_1499 (fun H locs hC => ?_)
              rw [show (((4) * (((k : Nat) : Int))) + (3) : Int).toNat = 4 * k + 3 from by omega] at hC
              refine y_aload hM hl 18 rfl dL_law_1500 ?_
              refine y_iload hM hl 6 rfl dL_law_1502 ?_
              refine y_iconst hM dL_law_1504 ?_
              refine y_iadd hM dL_law_1505 ?_
              refine lv_dup2_11 hM.1 hM.2.1 dL_law_1506 rfl rfl ?_
              refine y_iald hM hC hLK.2.2.2.1 rfl ⟨by omega, by omega⟩ (by decide) (x := T 11 k 3) (by rw [show (((9) * (((k : Nat) : Int))) + (3) : Int).toNat = 9 * k + 3 from by omega, up_of (by omega), up_of (by omega), up_of (by omega), up_of (by omega), ho.2.2.2.1]) dL_law_1507 ?_
              refine y_iconst hM dL_law_1508 ?_
              refine y_iadd hM dL_law_1509 ?_
              refine y_iast hM hC hLK.2.2.2.1 (fun _ _ => rfl) ⟨by omega, by omega⟩ (by decide) dL_law_1510 (fun H locs hC => ?_)
              rw [show (((9) * (((k : Nat) : Int))) + (3) : Int).toNat = 9 * k + 3 from by omega] at hC
              refine y_iload hM hl 7 rfl dL_law_1511 ?_
              refine y_if_eq hM (by constructor <;> omega) (tgt := 1525) dL_law_1513 (by decide) (fun c_1513 => ?_) (fun c_1513 => False.elim (by omega))
              obtain ⟨T1, hT1⟩ : ∃ X : TT, X = (up (up (up (up (up T 52 0 (mv) (gotT T k 0)) 51 0 (2 * mv) (T 11 k 2)) 51 0 (2 * mv + 1) (0)) 54 0 (4 * k + 3) (lateT T k (T 0 0 5))) 53 0 (9 * k + 3) ((T 11 k 3) + (1))) := ⟨_, rfl⟩
              rw [← hT1] at hC
              have hlo : LoE T1 T := by
                rw [hT1]
                exact (((((LoE.r.hi (by decide)).hi (by decide)).hi (by decide)).hi (by decide)).hi (by decide))
              obtain ⟨hCK1, hNC1, hR1, hz1⟩ := hI.mid hlo
              obtain ⟨hF1, hRK1, hSK1, hOK1, hKF1, hLK1⟩ := id hCK1
              obtain ⟨hRN1, hDN1, hSN1, hON1, -, -, -⟩ := id hNC1
              have h05 : T1 0 0 5 = T 0 0 5 := by rw [hz1]
              have h06 : T1 0 0 6 = T 0 0 6 := by rw [hz1]
              have h07 : T1 0 0 7 = T 0 0 7 := by rw [hz1]
              have h08 : T1 0 0 8 = T 0 0 8 := by rw [hz1]
              obtain ⟨m1, m2, m3, m4⟩ := stp_mid hlo k 0
              refine y_aload_n hM hl 22 rfl rfl dL_law_1525 ?_
              refine y_iload hM hl 8 rfl dL_law_1526 ?_
              refine y_callV hM hC (c_step l hfl G b0 ks ad T1 P (((k : Nat) : Int)) ⟨by omega, by omega⟩ hF1 hRK1 hRN1 hDN1 hSK1 hSN1 hOK1 hON1) (cwV 1 hM.2.2.2.2 gL_law_X3_step rfl rfl rfl (by decide +kernel) ⟨(Nat.le_of_ble_eq_true rfl), (Nat.le_of_ble_eq_true rfl)⟩) (y_recv hC hF1.1 rfl rfl) rfl hl.1 rfl (Nat.le_of_ble_eq_true rfl) dL_law_1528 ⟨(show _ ≤ 602294 by omega), (show _ ≤ 7294300 by omega)⟩ (fun E ce q9 u1 H locs hx hC hce hcv hcl => by
                  obtain ⟨x, rfl, hx, hu⟩ := hx; rw [hu] at hC; clear hu; try dsimp only at hx
                  exact False.elim ((by simp only [Int.toNat_natCast, m1, m2, m3, m4, h08] at hx; omega))) (fun v u1 H locs hp hC => ?_)
              obtain ⟨r_1528, rfl, h_1528, hu⟩ := hp; rw [hu] at hC; clear hu
              try dsimp only at h_1528
              refine W.eq (g2 := F0 m 1531 ls [.int (iI (r_1528))]) rfl ?_
              simp only [Int.toNat_natCast, m3] at h_1528
              rw [Int.toNat_natCast] at hC
              refine y_iload hM hl 5 rfl dL_law_1531 ?_
              refine y_icmp_eq hM (by constructor <;> omega) (by constructor <;> omega) (tgt := 1538) dL_law_1533 (by decide) (fun c_1533 => ?_) (fun c_1533 => False.elim (by omega))
              refine lv_goto (tgt := 1608) hM.1 hM.2.1 dL_law_1538 (by decide) ?_
              exact kk _ _ _ _ _ _ _ _ ls (by omega) (by omega) hC (op_stp hI hlo hk8 (by omega) (fun _ => by omega) (fun r1 n1 => by
                    have hlk := hlkz (by omega)
                    have emv : mv = mvT T1 k := by rw [mvT_lo hlo]; exact hmv
                    have e0 : ∀ lb, allL T1 k lb = allL T k lb := fun lb => by unfold allL; rw [m1]
                    have e9 : ∀ p, T1 9 p = T 9 p := fun p => hlo 9 p (by omega)
                    have e3 : T1 3 0 = T 3 0 := hlo 3 0 (by omega)
                    refine R2_s2 (M := T) (M' := T1) (k := k) (i := mv) (f := 0) r1 n1 (by omega) ⟨emv, by omega⟩ (by rw [m1]; omega) ?_ ?_ ?_ ?_ ?_ ?_ ?_ ?_ ?_ ?_ ?_ ?_ ?_ ?_
                    · intro j hj
                      rw [hT1, up_of (by omega), up_of (by omega), up_of (by omega), up_of (by omega), up_of (by omega)]
                    · rw [hT1, up_at rfl]
                      omega
                    · intro j hj1 hj2
                      rw [hT1, up_of (by omega), up_of (by omega), up_of (by omega), up_of (by omega), up_of (by omega)]
                    · rw [m3, m4, hlk]
                      rw [hT1, up_of (by omega), up_of (by omega), up_of (by omega), up_of (by omega), up_of (by omega)]
                      have h9 := ho.2.2.2.2.2.2.2.2.2.2.2.2.1
                      have h15 := ho.2.2.2.2.2.2.2.2.2.2.2.2.2.2 (by omega)
                      omega
                    · rw [m3]
                      rw [hT1, up_of (by omega), up_at rfl]
                    · intro j hj
                      rw [hT1, up_of (by omega), up_of (by omega), up_of (by omega), up_of (by omega), up_of (by omega)]
                    · rw [m2, m3, m4, hlk]
                      rw [hT1, up_of (by omega), up_of (by omega), up_of (by omega), up_of (by omega), up_at rfl]
                      try omega
                    · intro j hj1 hj2
                      rw [hT1, up_of (by omega), up_of (by omega), up_of (by omega), up_of (by omega), up_of (by omega)]
                    · rw [m1]
                      rw [hT1, up_of (by omega), up_of (by omega), up_of (by omega), up_at rfl]
                    · rw [hT1, up_of (by omega), up_of (by omega), up_at rfl]
                    · intro p q hp hq
                      rw [buyT_9, e0, m3, m4, m1, e9, hlk, coF_0, Int.zero_mul, Int.zero_ediv, ite_self, ite_self, hT1, up_of (by omega), up_of (by omega), up_of (by omega), up_of (by omega), up_of (by omega), hRD.1 p q hp hq]
                      omega
                    · intro p hp
                      rw [buyT_r, e0, m3, m4, m1, e3, hlk, coF_0, Int.zero_mul, Int.zero_ediv, Int.sub_zero, ite_self, ite_self, hT1, up_of (by omega), up_of (by omega), up_of (by omega), up_of (by omega), up_of (by omega), hRD.2 p hp]
                      omega
                    · funext j
                      rw [hT1, up_of (by omega), up_of (by omega), up_of (by omega), up_of (by omega), up_of (by omega)]
                    · funext j
                      rw [hT1, up_of (by omega), up_of (by omega), up_of (by omega), up_of (by omega), up_of (by omega)])) ⟨hl.1, hl.2.1, fun q hq => hl.2.2 q ((List.forall_mem_cons.mpr ⟨List.mem_of_getElem? (i := 12) rfl, (List.forall_mem_cons.mpr ⟨List.mem_of_getElem? (i := 14) rfl, (List.forall_mem_cons.mpr ⟨List.mem_of_getElem? (i := 15) rfl, (List.forall_mem_cons.mpr ⟨List.mem_of_getElem? (i := 16) rfl, (List.forall_mem_cons.mpr ⟨List.mem_of_getElem? (i := 17) rfl, (List.forall_mem_cons.mpr ⟨List.mem_of_getElem? (i := 18) rfl, (List.forall_mem_cons.mpr ⟨List.mem_of_getElem? (i := 19) rfl, (List.forall_mem_cons.mpr ⟨List.mem_of_getElem? (i := 20) rfl, (List.forall_mem_cons.mpr ⟨List.mem_of_getElem? (i := 21) rfl, (List.forall_mem_cons.mpr ⟨List.mem_of_getElem? (i := 22) rfl, (List.forall_mem_cons.mpr ⟨List.mem_of_getElem? (i := 23) rfl, (fun _ h => absurd h List.not_mem_nil)⟩)⟩)⟩)⟩)⟩)⟩)⟩)⟩)⟩)⟩)⟩) q hq)⟩
          ·
            refine y_aload_n hM hl 20 rfl rfl dL_law_1025 ?_
            refine y_aload hM hl 17 rfl dL_law_1026 ?_
            refine y_aload hM hl 16 rfl dL_law_1028 ?_
            refine y_iload hM hl 7 rfl dL_law_1030 ?_
            refine y_aload hM hl 14 rfl dL_law_1032 ?_
            refine y_iconst hM dL_law_1034 ?_
            refine y_iald hM hC hLK.2.2.2.2.2.2 rfl ⟨by omega, by omega⟩ (by decide) (x := T 0 0 5) (by rw [show ((3 : Int)).toNat = 3 from rfl, hg3]) dL_law_1035 ?_
            refine y_iload hM hl 4 rfl dL_law_1036 ?_
            refine y_callS hM hC (c_L_timely l hfl G b0 ks ad T P (k) hk8 (lateT T k (T 0 0 5)) ⟨by omega, by omega⟩ (by omega) hLK hNC hR) (va_cwS 6 hM.2.2.2.2 gL_law_L_timely rfl rfl rfl (by decide +kernel) ⟨(Nat.le_of_ble_eq_true rfl), (Nat.le_of_ble_eq_true rfl)⟩) rfl hl.1 rfl (Nat.le_of_ble_eq_true rfl) dL_law_1038 ⟨(show _ ≤ 602294 by omega), (show _ ≤ 7294300 by omega)⟩ (fun E ce q9 u1 H locs hx hC hce hcv hcl => hx.elim) (fun v u1 H locs hp hC => ?_)
            obtain ⟨r_1038, rfl, h_1038, hu⟩ := hp; rw [hu] at hC; clear hu
            try dsimp only at h_1038
            refine W.eq (g2 := F0 m 1041 ls [.long (lI (r_1038))]) rfl ?_
            subst h_1038
            refine lv_goto (tgt := 1045) hM.1 hM.2.1 dL_law_1041 (by decide) ?_
            refine lv_lstore (lv' := [(24, .long (lI (timT T k (T 11 k 5 + lateT T k (T 0 0 5))))), (22, .long (lI (gotT T k 0))), (21, .int (iI (r_978))), (20, .int (iI (T 11 k 3))), (19, .int (iI (0))), (18, .int (iI (lateT T k (T 0 0 5)))), (17, .int (iI ((9) * (((k : Nat) : Int))))), (16, .int (iI (0))), (15, .int (iI (((k : Nat) : Int)))), (14, .int (iI (((sv : Nat) : Int)))), (13, .int (iI (((pv : Nat) : Int)))), (12, .int (iI (kd))), (11, .int (iI (yy))), (10, .int (iI (xx))), (9, .int (iI (((i : Nat) : Int)))), (8, .ref (ad 56 0)), (7, .ref (ad 55 0)), (6, .ref (ad 54 0)), (5, .ref (ad 53 0)), (4, .ref (ad 52 0)), (3, .ref (ad 51 0)), (2, .ref (ad 50 0)), (1, .ref (ad 0 0)), (0, .ref b)]) hM.1 hM.2.1 dL_law_1045 hl (by decide) rfl (fun ls hl => ?_)
            refine y_lload hM hl 1 rfl dL_law_1047 ?_
            refine y_ldc2 hM (v := 100000000) (100000000) (by decide) (by decide +kernel) dL_law_1049 ?_
            refine y_lcmp hM (by constructor <;> omega) (by constructor <;> omega) dL_law_1052 ?_
            have hcl_1052 := cmpI_le (gotT T k 0) (100000000)
            have hcg_1052 := cmpI_gt (gotT T k 0) (100000000)
            have hce_1052 := cmpI_eq (gotT T k 0) (100000000)
            refine y_if_gt hM (cmpI_in _ _) (tgt := 1065) dL_law_1053 (by decide) (fun c_1053 => ?_) (fun c_1053 => ?_)
            ·
              refine y_iconst hM dL_law_1065 ?_
              refine lv_istore (lv' := [(19, .int (iI (3))), (24, .long (lI (timT T k (T 11 k 5 + lateT T k (T 0 0 5))))), (22, .long (lI (gotT T k 0))), (21, .int (iI (r_978))), (20, .int (iI (T 11 k 3))), (18, .int (iI (lateT T k (T 0 0 5)))), (17, .int (iI ((9) * (((k : Nat) : Int))))), (16, .int (iI (0))), (15, .int (iI (((k : Nat) : Int)))), (14, .int (iI (((sv : Nat) : Int)))), (13, .int (iI (((pv : Nat) : Int)))), (12, .int (iI (kd))), (11, .int (iI (yy))), (10, .int (iI (xx))), (9, .int (iI (((i : Nat) : Int)))), (8, .ref (ad 56 0)), (7, .ref (ad 55 0)), (6, .ref (ad 54 0)), (5, .ref (ad 53 0)), (4, .ref (ad 52 0)), (3, .ref (ad 51 0)), (2, .ref (ad 50 0)), (1, .ref (ad 0 0)), (0, .ref b)]) hM.1 hM.2.1 dL_law_1066 hl (by decide) rfl (fun ls hl => ?_)
              refine y_iload hM hl 0 rfl dL_law_1068 ?_
              refine y_if_le hM (by constructor <;> omega) (tgt := 1097) dL_law_1070 (by decide) (fun c_1070 => False.elim (by omega)) (fun c_1070 => ?_)
              refine y_aload_n hM hl 22 rfl rfl dL_law_1073 ?_
              refine y_iload hM hl 7 rfl dL_law_1074 ?_
              refine y_if_eq hM (by constructor <;> omega) (tgt := 1083) dL_law_1076 (by decide) (fun c_1076 => ?_) (fun c_1076 => False.elim (by omega))
              refine y_iconst hM dL_law_1083 ?_
              refine y_iload hM hl 8 rfl dL_law_1084 ?_
              refine y_iconst hM dL_law_1086 ?_
              refine y_callSX hM hN hC (c_ref_step l hfl G b0 ks ad T P (((k : Nat) : Int)) (0) ⟨by omega, by omega⟩ ⟨by omega, by omega⟩ hF hRK hRN hDN hSK hSN hOK hON (by simp only [Int.toNat_natCast]; omega)) (vx_cwSW 4 hM.2.2.2.2 gL_law_L_refused rfl rfl rfl (by decide +kernel) ⟨(Nat.le_of_ble_eq_true rfl), (Nat.le_of_ble_eq_true rfl)⟩) rfl hl.1 rfl (Nat.le_of_ble_eq_true rfl) dL_law_1087 ⟨(show _ ≤ 602294 by omega), (show _ ≤ 7294300 by omega)⟩ (fun E ce q9 u1 H locs hx hC hce hcv hcl => hx.elim) (fun v u1 H locs hp hC => ?_)
              obtain ⟨r_1087, rfl, h_1087, hu⟩ := hp; rw [hu] at hC; clear hu
              try dsimp only at h_1087
              refine W.eq (g2 := F0 m 1090 ls [.int (iI (r_1087))]) rfl ?_
              refine y_iload hM hl 0 rfl dL_law_1090 ?_
              refine y_icmp_eq hM (by constructor <;> omega) (by constructor <;> omega) (tgt := 1643) dL_law_1092 (by decide) (fun c_1092 => ?_) (fun c_1092 => False.elim (by omega))
              exact kn _ _ _ _ _ _ _ _ ls (by omega) (by omega) hC hI ⟨hl.1, hl.2.1, fun q hq => hl.2.2 q ((List.forall_mem_cons.mpr ⟨List.mem_of_getElem? (i := 14) rfl, (List.forall_mem_cons.mpr ⟨List.mem_of_getElem? (i := 15) rfl, (List.forall_mem_cons.mpr ⟨List.mem_of_getElem? (i := 16) rfl, (List.forall_mem_cons.mpr ⟨List.mem_of_getElem? (i := 17) rfl, (List.forall_mem_cons.mpr ⟨List.mem_of_getElem? (i := 18) rfl, (List.forall_mem_cons.mpr ⟨List.mem_of_getElem? (i := 19) rfl, (List.forall_mem_cons.mpr ⟨List.mem_of_getElem? (i := 20) rfl, (List.forall_mem_cons.mpr ⟨List.mem_of_getElem? (i := 21) rfl, (List.forall_mem_cons.mpr ⟨List.mem_of_getElem? (i := 22) rfl, (List.forall_mem_cons.mpr ⟨List.mem_of_getElem? (i := 23) rfl, (fun _ h => absurd h List.not_mem_nil)⟩)⟩)⟩)⟩)⟩)⟩)⟩)⟩)⟩)⟩) q hq)⟩
            ·
              refine y_lload hM hl 0 rfl dL_law_1056 ?_
              refine y_ldc2 hM (v := 100000000) (100000000) (by decide) (by decide +kernel) dL_law_1058 ?_
              refine y_lcmp hM (by constructor <;> omega) (by constructor <;> omega) dL_law_1061 ?_
              have hcl_1061 := cmpI_le (timT T k (T 11 k 5 + lateT T k (T 0 0 5))) (100000000)
              have hcg_1061 := cmpI_gt (timT T k (T 11 k 5 + lateT T k (T 0 0 5))) (100000000)
              have hce_1061 := cmpI_eq (timT T k (T 11 k 5 + lateT T k (T 0 0 5))) (100000000)
              refine y_if_le hM (cmpI_in _ _) (tgt := 1068) dL_law_1062 (by decide) (fun c_1062 => ?_) (fun c_1062 => ?_)
              ·
                refine y_iload hM hl 4 rfl dL_law_1068 ?_
                refine y_if_le hM (by constructor <;> omega) (tgt := 1097) dL_law_1070 (by decide) (fun c_1070 => ?_) (fun c_1070 => False.elim (by omega))
                refine y_iload hM hl 3 rfl dL_law_1097 ?_
                refine y_if_ne hM (by constructor <;> omega) (tgt := 1126) dL_law_1099 (by decide) (fun c_1099 => ?_) (fun c_1099 => False.elim (by omega))
                refine y_iload hM hl 3 rfl dL_law_1126 ?_
                refine y_iconst hM dL_law_1128 ?_
                refine y_icmp_ne hM (by constructor <;> omega) (by constructor <;> omega) (tgt := 1231) dL_law_1129 (by decide) (fun c_1129 => ?_) (fun c_1129 => False.elim (by omega))
                refine y_aload hM hl 17 rfl dL_law_1231 ?_
                refine y_iconst hM dL_law_1233 ?_
                refine y_iload hM hl 8 rfl dL_law_1234 ?_
                refine y_imul hM dL_law_1236 ?_
                refine y_iconst hM dL_law_1237 ?_
                refine y_iadd hM dL_law_1238 ?_
                refine y_lald hM hC hLK.2.2.2.2.1 rfl ⟨by omega, by omega⟩ (by decide) (x := T 11 k 8) (by rw [show (((4) * (((k : Nat) : Int))) + (1) : Int).toNat = 4 * k + 1 from by omega, ho.2.2.2.2.2.2.2.2.2.2.2.1]) dL_law_1239 ?_
                refine y_ldc2 hM (v := 1000) (1000) (by decide) (by decide +kernel) dL_law_1240 ?_
                refine y_lmul hM dL_law_1243 ?_
                refine y_iload hM hl 7 rfl dL_law_1244 ?_
                refine y_if_eq hM (by constructor <;> omega) (tgt := 1256) dL_law_1246 (by decide) (fun c_1246 => ?_) (fun c_1246 => False.elim (by omega))
                refine y_aload_n hM hl 21 rfl rfl dL_law_1256 ?_
                refine y_aload hM hl 18 rfl dL_law_1257 ?_
                refine y_iload hM hl 6 rfl dL_law_1259 ?_
                refine y_iconst hM dL_law_1261 ?_
                refine y_iadd hM dL_law_1262 ?_
                refine y_iald hM hC hLK.2.2.2.1 rfl ⟨by omega, by omega⟩ (by decide) (x := T 11 k 2) (by rw [show (((9) * (((k : Nat) : Int))) + (2) : Int).toNat = 9 * k + 2 from by omega, ho.2.2.1]) dL_law_1263 ?_
                refine y_aload hM hl 15 rfl dL_law_1264 ?_
                refine y_iconst hM dL_law_1266 ?_
                refine y_iald hM hC hLK.2.2.2.2.2.2 rfl ⟨by omega, by omega⟩ (by decide) (x := T 0 0 5) (by rw [show ((3 : Int)).toNat = 3 from rfl, hg3]) dL_law_1267 ?_
                refine y_callS hM hC (c_L_price l hfl G b0 ks ad T P (T 11 k 2) (T 0 0 5) ⟨by omega, by omega⟩ ⟨by omega, by omega⟩ hLK.1 hRP) (va_cwS 3 hM.2.2.2.2 gL_law_L_price rfl rfl rfl (by decide +kernel) ⟨(Nat.le_of_ble_eq_true rfl), (Nat.le_of_ble_eq_true rfl)⟩) rfl hl.1 rfl (Nat.le_of_ble_eq_true rfl) dL_law_1268 ⟨(show _ ≤ 602294 by omega), (show _ ≤ 7294300 by omega)⟩ (fun E ce q9 u1 H locs hx hC hce hcv hcl => hx.elim) (fun v u1 H locs hp hC => ?_)
                obtain ⟨r_1268, rfl, h_1268, hu⟩ := hp; rw [hu] at hC; clear hu
                try dsimp only at h_1268
                refine W.eq (g2 := F0 m 1271 ls [.int (iI (r_1268)), .long (lI ((T 11 k 8) * (1000)))]) rfl ?_
                have hv_1268 := valT_in hRN (p := (T 11 k 2).toNat) (by omega) (T 0 0 5)
                refine y_i2l hM (by constructor <;> omega) dL_law_1271 ?_
                refine y_ldiv hM ⟨by omega, by omega, by omega, by omega⟩ dL_law_1272 ?_
                rw [show ((T 11 k 8) * (1000)) / (r_1268) = gotT T k 0 from (by rw [h_1268]; unfold gotT prF; rw [if_pos rfl]; rfl)]
                refine lv_lstore (lv' := [(21, .long (lI (gotT T k 0))), (24, .long (lI (timT T k (T 11 k 5 + lateT T k (T 0 0 5))))), (20, .int (iI (T 11 k 3))), (19, .int (iI (0))), (18, .int (iI (lateT T k (T 0 0 5)))), (17, .int (iI ((9) * (((k : Nat) : Int))))), (16, .int (iI (0))), (15, .int (iI (((k : Nat) : Int)))), (14, .int (iI (((sv : Nat) : Int)))), (13, .int (iI (((pv : Nat) : Int)))), (12, .int (iI (kd))), (11, .int (iI (yy))), (10, .int (iI (xx))), (9, .int (iI (((i : Nat) : Int)))), (8, .ref (ad 56 0)), (7, .ref (ad 55 0)), (6, .ref (ad 54 0)), (5, .ref (ad 53 0)), (4, .ref (ad 52 0)), (3, .ref (ad 51 0)), (2, .ref (ad 50 0)), (1, .ref (ad 0 0)), (0, .ref b)]) hM.1 hM.2.1 dL_law_1273 hl (by decide) rfl (fun ls hl => ?_)
                refine y_aload hM hl 17 rfl dL_law_1275 ?_
                refine y_iload hM hl 5 rfl dL_law_1277 ?_
                refine y_bipush hM dL_law_1279 (by decide) ?_
                refine y_iadd hM dL_law_1281 ?_
                refine y_iald hM hC hLK.2.2.2.1 rfl ⟨by omega, by omega⟩ (by decide) (x := T 53 0 (9 * k + 7)) (by rw [show (((9) * (((k : Nat) : Int))) + (7) : Int).toNat = 9 * k + 7 from by omega]) dL_law_1282 ?_
                refine y_aload hM hl 17 rfl dL_law_1283 ?_
                refine y_iload hM hl 5 rfl dL_law_1285 ?_
                refine y_bipush hM dL_law_1287 (by decide) ?_
                refine y_iadd hM dL_law_1289 ?_
                refine y_iald hM hC hLK.2.2.2.1 rfl ⟨by omega, by omega⟩ (by decide) (x := T 53 0 (9 * k + 8)) (by rw [show (((9) * (((k : Nat) : Int))) + (8) : Int).toNat = 9 * k + 8 from by omega]) dL_law_1290 ?_
                refine y_iadd hM dL_law_1291 ?_
                rw [show (T 53 0 (9 * k + 7)) + (T 53 0 (9 * k + 8)) = T 11 k 5 from (by omega)]
                refine lv_istore (lv' := [(23, .int (iI (T 11 k 5))), (21, .long (lI (gotT T k 0))), (24, .long (lI (timT T k (T 11 k 5 + lateT T k (T 0 0 5))))), (20, .int (iI (T 11 k 3))), (19, .int (iI (0))), (18, .int (iI (lateT T k (T 0 0 5)))), (17, .int (iI ((9) * (((k : Nat) : Int))))), (16, .int (iI (0))), (15, .int (iI (((k : Nat) : Int)))), (14, .int (iI (((sv : Nat) : Int)))), (13, .int (iI (((pv : Nat) : Int)))), (12, .int (iI (kd))), (11, .int (iI (yy))), (10, .int (iI (xx))), (9, .int (iI (((i : Nat) : Int)))), (8, .ref (ad 56 0)), (7, .ref (ad 55 0)), (6, .ref (ad 54 0)), (5, .ref (ad 53 0)), (4, .ref (ad 52 0)), (3, .ref (ad 51 0)), (2, .ref (ad 50 0)), (1, .ref (ad 0 0)), (0, .ref b)]) hM.1 hM.2.1 dL_law_1292 hl (by decide) rfl (fun ls hl => ?_)
                refine y_iload hM hl 0 rfl dL_law_1294 ?_
                refine y_iload hM hl 5 rfl dL_law_1296 ?_
                refine y_iadd hM dL_law_1298 ?_
                refine y_if_le hM (by constructor <;> omega) (tgt := 1321) dL_law_1299 (by decide) (fun c_1299 => False.elim (by omega)) (fun c_1299 => ?_)
                refine y_aload_n hM hl 21 rfl rfl dL_law_1302 ?_
                refine y_aload hM hl 18 rfl dL_law_1303 ?_
                refine y_aload hM hl 17 rfl dL_law_1305 ?_
                refine y_iload hM hl 8 rfl dL_law_1307 ?_
                refine y_aload hM hl 15 rfl dL_law_1309 ?_
                refine y_iconst hM dL_law_1311 ?_
                refine y_iald hM hC hLK.2.2.2.2.2.2 rfl ⟨by omega, by omega⟩ (by decide) (x := T 0 0 5) (by rw [show ((3 : Int)).toNat = 3 from rfl, hg3]) dL_law_1312 ?_
                refine y_iload hM hl 5 rfl dL_law_1313 ?_
                refine y_callS hM hC (c_L_timely l hfl G b0 ks ad T P (k) hk8 (lateT T k (T 0 0 5)) ⟨by omega, by omega⟩ (by omega) hLK hNC hR) (va_cwS 6 hM.2.2.2.2 gL_law_L_timely rfl rfl rfl (by decide +kernel) ⟨(Nat.le_of_ble_eq_true rfl), (Nat.le_of_ble_eq_true rfl)⟩) rfl hl.1 rfl (Nat.le_of_ble_eq_true rfl) dL_law_1315 ⟨(show _ ≤ 602294 by omega), (show _ ≤ 7294300 by omega)⟩ (fun E ce q9 u1 H locs hx hC hce hcv hcl => hx.elim) (fun v u1 H locs hp hC => ?_)
                obtain ⟨r_1315, rfl, h_1315, hu⟩ := hp; rw [hu] at hC; clear hu
                try dsimp only at h_1315
                refine W.eq (g2 := F0 m 1318 ls [.long (lI (r_1315))]) rfl ?_
                subst h_1315
                refine lv_goto (tgt := 1322) hM.1 hM.2.1 dL_law_1318 (by decide) ?_
                refine lv_lstore (lv' := [(24, .long (lI (timT T k (T 11 k 5 + lateT T k (T 0 0 5))))), (23, .int (iI (T 11 k 5))), (21, .long (lI (gotT T k 0))), (20, .int (iI (T 11 k 3))), (19, .int (iI (0))), (18, .int (iI (lateT T k (T 0 0 5)))), (17, .int (iI ((9) * (((k : Nat) : Int))))), (16, .int (iI (0))), (15, .int (iI (((k : Nat) : Int)))), (14, .int (iI (((sv : Nat) : Int)))), (13, .int (iI (((pv : Nat) : Int)))), (12, .int (iI (kd))), (11, .int (iI (yy))), (10, .int (iI (xx))), (9, .int (iI (((i : Nat) : Int)))), (8, .ref (ad 56 0)), (7, .ref (ad 55 0)), (6, .ref (ad 54 0)), (5, .ref (ad 53 0)), (4, .ref (ad 52 0)), (3, .ref (ad 51 0)), (2, .ref (ad 50 0)), (1, .ref (ad 0 0)), (0, .ref b)]) hM.1 hM.2.1 dL_law_1322 hl (by decide) rfl (fun ls hl => ?_)
                refine y_lload hM hl 0 rfl dL_law_1324 ?_
                refine y_lload hM hl 2 rfl dL_law_1326 ?_
                refine y_lcmp hM (by constructor <;> omega) (by constructor <;> omega) dL_law_1328 ?_
                have hcl_1328 := cmpI_le (timT T k (T 11 k 5 + lateT T k (T 0 0 5))) (gotT T k 0)
                have hcg_1328 := cmpI_gt (timT T k (T 11 k 5 + lateT T k (T 0 0 5))) (gotT T k 0)
                have hce_1328 := cmpI_eq (timT T k (T 11 k 5 + lateT T k (T 0 0 5))) (gotT T k 0)
                refine y_if_le hM (cmpI_in _ _) (tgt := 1437) dL_law_1329 (by decide) (fun c_1329 => ?_) (fun c_1329 => ?_)
                ·
                  refine y_aload hM hl 19 rfl dL_law_1437 ?_
                  refine y_aload hM hl 18 rfl dL_law_1439 ?_
                  refine y_iload hM hl 6 rfl dL_law_1441 ?_
                  refine y_iald hM hC hLK.2.2.2.1 rfl ⟨by omega, by omega⟩ (by decide) (x := ((mv : Nat) : Int)) (by rw [show ((9) * (((k : Nat) : Int)) : Int).toNat = 9 * k from by omega, hmv0]) dL_law_1443 ?_
                  refine y_lload hM hl 0 rfl dL_law_1444 ?_
                  refine y_lload hM hl 2 rfl dL_law_1446 ?_
                  refine y_lcmp hM (by constructor <;> omega) (by constructor <;> omega) dL_law_1448 ?_
                  have hcl_1448 := cmpI_le (timT T k (T 11 k 5 + lateT T k (T 0 0 5))) (gotT T k 0)
                  have hcg_1448 := cmpI_gt (timT T k (T 11 k 5 + lateT T k (T 0 0 5))) (gotT T k 0)
                  have hce_1448 := cmpI_eq (timT T k (T 11 k 5 + lateT T k (T 0 0 5))) (gotT T k 0)
                  refine y_if_le hM (cmpI_in _ _) (tgt := 1457) dL_law_1449 (by decide) (fun c_1449 => ?_) (fun c_1449 => False.elim (by omega))
                  refine y_lload hM hl 2 rfl dL_law_1457 ?_
                  refine y_last hM hC hLK.2.2.1 (fun _ _ => rfl) ⟨by omega, by omega⟩ (by decide) dL_law_1459 (fun H locs hC => ?_)
                  rw [show (((mv : Nat) : Int) : Int).toNat = mv from by omega] at hC
                  refine y_aload_n hM hl 20 rfl rfl dL_law_1460 ?_
                  refine y_iconst hM dL_law_1461 ?_
                  refine y_aload hM hl 18 rfl dL_law_1462 ?_
                  refine y_iload hM hl 6 rfl dL_law_1464 ?_
                  refine y_iald hM hC hLK.2.2.2.1 rfl ⟨by omega, by omega⟩ (by decide) (x := ((mv : Nat) : Int)) (by rw [show ((9) * (((k : Nat) : Int)) : Int).toNat = 9 * k from by omega, up_of (by omega), hmv0]) dL_law_1466 ?_
                  refine y_imul hM dL_law_1467 ?_
                  refine y_aload hM hl 18 rfl dL_law_1468 ?_
                  refine y_iload hM hl 6 rfl dL_law_1470 ?_
                  refine y_iconst hM dL_law_1472 ?_
                  refine y_iadd hM dL_law_1473 ?_
                  refine y_iald hM hC hLK.2.2.2.1 rfl ⟨by omega, by omega⟩ (by decide) (x := T 11 k 2) (by rw [show (((9) * (((k : Nat) : Int))) + (2) : Int).toNat = 9 * k + 2 from by omega, up_of (by omega), ho.2.2.1]) dL_law_1474 ?_
                  refine y_iast hM hC hLK.2.1 (fun _ _ => rfl) ⟨by omega, by omega⟩ (by decide) dL_law_1475 (fun H locs hC => ?_)
                  rw [show ((2) * (((mv : Nat) : Int)) : Int).toNat = 2 * mv from by omega] at hC
                  refine y_aload_n hM hl 20 rfl rfl dL_law_1476 ?_
                  refine y_iconst hM dL_law_1477 ?_
                  refine y_aload hM hl 18 rfl dL_law_1478 ?_
                  refine y_iload hM hl 6 rfl dL_law_1480 ?_
                  refine y_iald hM hC hLK.2.2.2.1 rfl ⟨by omega, by omega⟩ (by decide) (x := ((mv : Nat) : Int)) (by rw [show ((9) * (((k : Nat) : Int)) : Int).toNat = 9 * k from by omega, up_of (by omega), up_of (by omega), hmv0]) dL_law_1482 ?_
                  refine y_imul hM dL_law_1483 ?_
                  refine y_iconst hM dL_law_1484 ?_
                  refine y_iadd hM dL_law_1485 ?_
                  refine y_iconst hM dL_law_1486 ?_
                  refine y_iast hM hC hLK.2.1 (fun _ _ => rfl) ⟨by omega, by omega⟩ (by decide) dL_law_1487 (fun H locs hC => ?_)
                  rw [show (((2) * (((mv : Nat) : Int))) + (1) : Int).toNat = 2 * mv + 1 from by omega] at hC
                  refine y_aload hM hl 17 rfl dL_law_1488 ?_
                  refine y_iconst hM dL_law_1490 ?_
                  refine y_iload hM hl 8 rfl dL_law_1491 ?_
                  refine y_imul hM dL_law_1493 ?_
                  refine y_iconst hM dL_law_1494 ?_
                  refine y_iadd hM dL_law_1495 ?_
                  refine y_iload hM hl 5 rfl dL_law_1496 ?_
                  refine y_i2l hM (by constructor <;> omega) dL_law_1498 ?_
                  refine y_last hM hC hLK.2.2.2.2.1 (fun _ _ => rfl) ⟨by omega, by omega⟩ (by decide) dL_law_1499 (fun H locs hC => ?_)
                  rw [show (((4) * (((k : Nat) : Int))) + (3) : Int).toNat = 4 * k + 3 from by omega] at hC
                  refine y_aload hM hl 18 rfl dL_law_1500 ?_
                  refine y_iload hM hl 6 rfl dL_law_1502 ?_
                  refine y_iconst hM dL_law_1504 ?_
                  refine y_iadd hM dL_law_1505 ?_
                  refine lv_dup2_11 hM.1 hM.2.1 dL_law_1506 rfl rfl ?_
                  refine y_iald hM hC hLK.2.2.2.1 rfl ⟨by omega, by omega⟩ (by decide) (x := T 11 k 3) (by rw [show (((9) * (((k : Nat) : Int))) + (3) : Int).toNat = 9 * k + 3 from by omega, up_of (by omega), up_of (by omega), up_of (by omega), up_of (by omega), ho.2.2.2.1]) dL_law_1507 ?_
                  refine y_iconst hM dL_law_1508 ?_
                  refine y_iadd hM dL_law_1509 ?_
                  refine y_iast hM hC hLK.2.2.2.1 (fun _ _ => rfl) ⟨by omega, by omega⟩ (by decide) dL_law_1510 (fun H locs hC => ?_)
                  rw [show (((9) * (((k : Nat) : Int))) + (3) : Int).toNat = 9 * k + 3 from by omega] at hC
                  refine y_iload hM hl 7 rfl dL_law_1511 ?_
                  refine y_if_eq hM (by constructor <;> omega) (tgt := 1525) dL_law_1513 (by decide) (fun c_1513 => ?_) (fun c_1513 => False.elim (by omega))
                  obtain ⟨T1, hT1⟩ : ∃ X : TT, X = (up (up (up (up (up T 52 0 (mv) (gotT T k 0)) 51 0 (2 * mv) (T 11 k 2)) 51 0 (2 * mv + 1) (0)) 54 0 (4 * k + 3) (lateT T k (T 0 0 5))) 53 0 (9 * k + 3) ((T 11 k 3) + (1))) := ⟨_, rfl⟩
                  rw [← hT1] at hC
                  have hlo : LoE T1 T := by
                    rw [hT1]
                    exact (((((LoE.r.hi (by decide)).hi (by decide)).hi (by decide)).hi (by decide)).hi (by decide))
                  obtain ⟨hCK1, hNC1, hR1, hz1⟩ := hI.mid hlo
                  obtain ⟨hF1, hRK1, hSK1, hOK1, hKF1, hLK1⟩ := id hCK1
                  obtain ⟨hRN1, hDN1, hSN1, hON1, -, -, -⟩ := id hNC1
                  have h05 : T1 0 0 5 = T 0 0 5 := by rw [hz1]
                  have h06 : T1 0 0 6 = T 0 0 6 := by rw [hz1]
                  have h07 : T1 0 0 7 = T 0 0 7 := by rw [hz1]
                  have h08 : T1 0 0 8 = T 0 0 8 := by rw [hz1]
                  obtain ⟨m1, m2, m3, m4⟩ := stp_mid hlo k 0
                  refine y_aload_n hM hl 22 rfl rfl dL_law_1525 ?_
                  refine y_iload hM hl 8 rfl dL_law_1526 ?_
                  refine y_callV hM hC (c_step l hfl G b0 ks ad T1 P (((k : Nat) : Int)) ⟨by omega, by omega⟩ hF1 hRK1 hRN1 hDN1 hSK1 hSN1 hOK1 hON1) (cwV 1 hM.2.2.2.2 gL_law_X3_step rfl rfl rfl (by decide +kernel) ⟨(Nat.le_of_ble_eq_true rfl), (Nat.le_of_ble_eq_true rfl)⟩) (y_recv hC hF1.1 rfl rfl) rfl hl.1 rfl (Nat.le_of_ble_eq_true rfl) dL_law_1528 ⟨(show _ ≤ 602294 by omega), (show _ ≤ 7294300 by omega)⟩ (fun E ce q9 u1 H locs hx hC hce hcv hcl => by
                      obtain ⟨x, rfl, hx, hu⟩ := hx; rw [hu] at hC; clear hu; try dsimp only at hx
                      exact False.elim ((by simp only [Int.toNat_natCast, m1, m2, m3, m4, h08] at hx; omega))) (fun v u1 H locs hp hC => ?_)
                  obtain ⟨r_1528, rfl, h_1528, hu⟩ := hp; rw [hu] at hC; clear hu
                  try dsimp only at h_1528
                  refine W.eq (g2 := F0 m 1531 ls [.int (iI (r_1528))]) rfl ?_
                  simp only [Int.toNat_natCast, m3] at h_1528
                  rw [Int.toNat_natCast] at hC
                  refine y_iload hM hl 5 rfl dL_law_1531 ?_
                  refine y_icmp_eq hM (by constructor <;> omega) (by constructor <;> omega) (tgt := 1538) dL_law_1533 (by decide) (fun c_1533 => ?_) (fun c_1533 => False.elim (by omega))
                  refine lv_goto (tgt := 1608) hM.1 hM.2.1 dL_law_1538 (by decide) ?_
                  exact kk _ _ _ _ _ _ _ _ ls (by omega) (by omega) hC (op_stp hI hlo hk8 (by omega) (fun _ => by omega) (fun r1 n1 => by
                        have hlk := hlkz (by omega)
                        have emv : mv = mvT T1 k := by rw [mvT_lo hlo]; exact hmv
                        have e0 : ∀ lb, allL T1 k lb = allL T k lb := fun lb => by unfold allL; rw [m1]
                        have e9 : ∀ p, T1 9 p = T 9 p := fun p => hlo 9 p (by omega)
                        have e3 : T1 3 0 = T 3 0 := hlo 3 0 (by omega)
                        refine R2_s2 (M := T) (M' := T1) (k := k) (i := mv) (f := 0) r1 n1 (by omega) ⟨emv, by omega⟩ (by rw [m1]; omega) ?_ ?_ ?_ ?_ ?_ ?_ ?_ ?_ ?_ ?_ ?_ ?_ ?_ ?_
                        · intro j hj
                          rw [hT1, up_of (by omega), up_of (by omega), up_of (by omega), up_of (by omega), up_of (by omega)]
                        · rw [hT1, up_at rfl]
                          omega
                        · intro j hj1 hj2
                          rw [hT1, up_of (by omega), up_of (by omega), up_of (by omega), up_of (by omega), up_of (by omega)]
                        · rw [m3, m4, hlk]
                          rw [hT1, up_of (by omega), up_of (by omega), up_of (by omega), up_of (by omega), up_of (by omega)]
                          have h9 := ho.2.2.2.2.2.2.2.2.2.2.2.2.1
                          have h15 := ho.2.2.2.2.2.2.2.2.2.2.2.2.2.2 (by omega)
                          omega
                        · rw [m3]
                          rw [hT1, up_of (by omega), up_at rfl]
                        · intro j hj
                          rw [hT1, up_of (by omega), up_of (by omega), up_of (by omega), up_of (by omega), up_of (by omega)]
                        · rw [m2, m3, m4, hlk]
                          rw [hT1, up_of (by omega), up_of (by omega), up_of (by omega), up_of (by omega), up_at rfl]
                          try omega
                        · intro j hj1 hj2
                          rw [hT1, up_of (by omega), up_of (by omega), up_of (by omega), up_of (by omega), up_of (by omega)]
                        · rw [m1]
                          rw [hT1, up_of (by omega), up_of (by omega), up_of (by omega), up_at rfl]
                        · rw [hT1, up_of (by omega), up_of (by omega), up_at rfl]
                        · intro p q hp hq
                          rw [buyT_9, e0, m3, m4, m1, e9, hlk, coF_0, Int.zero_mul, Int.zero_ediv, ite_self, ite_self, hT1, up_of (by omega), up_of (by omega), up_of (by omega), up_of (by omega), up_of (by omega), hRD.1 p q hp hq]
                          omega
                        · intro p hp
                          rw [buyT_r, e0, m3, m4, m1, e3, hlk, coF_0, Int.zero_mul, Int.zero_ediv, Int.sub_zero, ite_self, ite_self, hT1, up_of (by omega), up_of (by omega), up_of (by omega), up_of (by omega), up_of (by omega), hRD.2 p hp]
                          omega
                        · funext j
                          rw [hT1, up_of (by omega), up_of (by omega), up_of (by omega), up_of (by omega), up_of (by omega)]
                        · funext j
                          rw [hT1, up_of (by omega), up_of (by omega), up_of (by omega), up_of (by omega), up_of (by omega)])) ⟨hl.1, hl.2.1, fun q hq => hl.2.2 q ((List.forall_mem_cons.mpr ⟨List.mem_of_getElem? (i := 12) rfl, (List.forall_mem_cons.mpr ⟨List.mem_of_getElem? (i := 14) rfl, (List.forall_mem_cons.mpr ⟨List.mem_of_getElem? (i := 15) rfl, (List.forall_mem_cons.mpr ⟨List.mem_of_getElem? (i := 16) rfl, (List.forall_mem_cons.mpr ⟨List.mem_of_getElem? (i := 17) rfl, (List.forall_mem_cons.mpr ⟨List.mem_of_getElem? (i := 18) rfl, (List.forall_mem_cons.mpr ⟨List.mem_of_getElem? (i := 19) rfl, (List.forall_mem_cons.mpr ⟨List.mem_of_getElem? (i := 20) rfl, (List.forall_mem_cons.mpr ⟨List.mem_of_getElem? (i := 21) rfl, (List.forall_mem_cons.mpr ⟨List.mem_of_getElem? (i := 22) rfl, (List.forall_mem_cons.mpr ⟨List.mem_of_getElem? (i := 23) rfl, (fun _ h => absurd h List.not_mem_nil)⟩)⟩)⟩)⟩)⟩)⟩)⟩)⟩)⟩)⟩)⟩) q hq)⟩
                ·
                  refine y_lload hM hl 0 rfl dL_law_1332 ?_
                  refine y_lload hM hl 2 rfl dL_law_1334 ?_
                  refine y_lsub hM dL_law_1336 ?_
                  refine y_aload_n hM hl 21 rfl rfl dL_law_1337 ?_
                  refine y_aload hM hl 18 rfl dL_law_1338 ?_
                  refine y_iload hM hl 6 rfl dL_law_1340 ?_
                  refine y_iconst hM dL_law_1342 ?_
                  refine y_iadd hM dL_law_1343 ?_
                  refine y_iald hM hC hLK.2.2.2.1 rfl ⟨by omega, by omega⟩ (by decide) (x := T 11 k 2) (by rw [show (((9) * (((k : Nat) : Int))) + (2) : Int).toNat = 9 * k + 2 from by omega, ho.2.2.1]) dL_law_1344 ?_
                  refine y_aload hM hl 15 rfl dL_law_1345 ?_
                  refine y_iconst hM dL_law_1347 ?_
                  refine y_iald hM hC hLK.2.2.2.2.2.2 rfl ⟨by omega, by omega⟩ (by decide) (x := T 0 0 5) (by rw [show ((3 : Int)).toNat = 3 from rfl, hg3]) dL_law_1348 ?_
                  refine y_callS hM hC (c_L_price l hfl G b0 ks ad T P (T 11 k 2) (T 0 0 5) ⟨by omega, by omega⟩ ⟨by omega, by omega⟩ hLK.1 hRP) (va_cwS 3 hM.2.2.2.2 gL_law_L_price rfl rfl rfl (by decide +kernel) ⟨(Nat.le_of_ble_eq_true rfl), (Nat.le_of_ble_eq_true rfl)⟩) rfl hl.1 rfl (Nat.le_of_ble_eq_true rfl) dL_law_1349 ⟨(show _ ≤ 602294 by omega), (show _ ≤ 7294300 by omega)⟩ (fun E ce q9 u1 H locs hx hC hce hcv hcl => hx.elim) (fun v u1 H locs hp hC => ?_)
                  obtain ⟨r_1349, rfl, h_1349, hu⟩ := hp; rw [hu] at hC; clear hu
                  try dsimp only at h_1349
                  refine W.eq (g2 := F0 m 1352 ls [.int (iI (r_1349)), .long (lI ((timT T k (T 11 k 5 + lateT T k (T 0 0 5))) - (gotT T k 0)))]) rfl ?_
                  have hv_1349 := valT_in hRN (p := (T 11 k 2).toNat) (by omega) (T 0 0 5)
                  have hq1 : 0 ≤ (timT T k (T 11 k 5 + lateT T k (T 0 0 5)) - gotT T k 0) * r_1349 := Int.mul_nonneg (by omega) (by omega)
                  have hq2 : (timT T k (T 11 k 5 + lateT T k (T 0 0 5)) - gotT T k 0) * r_1349 ≤ 100000000 * 10000 := Int.mul_le_mul (by omega) (by omega) (by omega) (by omega)
                  refine y_i2l hM (by constructor <;> omega) dL_law_1352 ?_
                  refine y_lmul hM dL_law_1353 ?_
                  refine y_ldc2 hM (v := 1000) (1000) (by decide) (by decide +kernel) dL_law_1354 ?_
                  refine y_callS hM hC (c_L_up l hfl G b0 (ks, ad, T, P) (((timT T k (T 11 k 5 + lateT T k (T 0 0 5))) - (gotT T k 0)) * (r_1349)) ⟨by omega, by omega⟩) (va_cwS 2 hM.2.2.2.2 gL_law_L_up rfl rfl rfl (by decide +kernel) ⟨(Nat.le_of_ble_eq_true rfl), (Nat.le_of_ble_eq_true rfl)⟩) rfl hl.1 rfl (Nat.le_of_ble_eq_true rfl) dL_law_1357 ⟨(show _ ≤ 602294 by omega), (show _ ≤ 7294300 by omega)⟩ (fun E ce q9 u1 H locs hx hC hce hcv hcl => hx.elim) (fun v u1 H locs hp hC => ?_)
                  obtain ⟨r_1357, rfl, h_1357, hu⟩ := hp; rw [hu] at hC; clear hu
                  try dsimp only at h_1357
                  refine W.eq (g2 := F0 m 1360 ls [.long (lI (r_1357))]) rfl ?_
                  rw [h_1349] at h_1357
                  have e_1357 : r_1357 = coF (timT T k (T 11 k 5 + lateT T k (T 0 0 5)) - gotT T k 0) (valT T (T 11 k 2).toNat (T 0 0 5)) := h_1357
                  clear h_1357
                  subst e_1357
                  have hco := coF_in (u := timT T k (T 11 k 5 + lateT T k (T 0 0 5)) - gotT T k 0) (pr := valT T (T 11 k 2).toNat (T 0 0 5)) ⟨by omega, by omega⟩ ⟨by omega, by omega⟩
                  have hq3 : 0 ≤ coF (timT T k (T 11 k 5 + lateT T k (T 0 0 5)) - gotT T k 0) (valT T (T 11 k 2).toNat (T 0 0 5)) * T 11 k 5 := Int.mul_nonneg (by omega) (by omega)
                  have hq4 : coF (timT T k (T 11 k 5 + lateT T k (T 0 0 5)) - gotT T k 0) (valT T (T 11 k 2).toNat (T 0 0 5)) * T 11 k 5 ≤ 1000000000 * 2000 := Int.mul_le_mul (by omega) (by omega) (by omega) (by omega)
                  refine lv_lstore (lv' := [(26, .long (lI (coF (timT T k (T 11 k 5 + lateT T k (T 0 0 5)) - gotT T k 0) (valT T (T 11 k 2).toNat (T 0 0 5))))), (24, .long (lI (timT T k (T 11 k 5 + lateT T k (T 0 0 5))))), (23, .int (iI (T 11 k 5))), (21, .long (lI (gotT T k 0))), (20, .int (iI (T 11 k 3))), (19, .int (iI (0))), (18, .int (iI (lateT T k (T 0 0 5)))), (17, .int (iI ((9) * (((k : Nat) : Int))))), (16, .int (iI (0))), (15, .int (iI (((k : Nat) : Int)))), (14, .int (iI (((sv : Nat) : Int)))), (13, .int (iI (((pv : Nat) : Int)))), (12, .int (iI (kd))), (11, .int (iI (yy))), (10, .int (iI (xx))), (9, .int (iI (((i : Nat) : Int)))), (8, .ref (ad 56 0)), (7, .ref (ad 55 0)), (6, .ref (ad 54 0)), (5, .ref (ad 53 0)), (4, .ref (ad 52 0)), (3, .ref (ad 51 0)), (2, .ref (ad 50 0)), (1, .ref (ad 0 0)), (0, .ref b)]) hM.1 hM.2.1 dL_law_1360 hl (by decide) rfl (fun ls hl => ?_)
                  refine y_lload hM hl 0 rfl dL_law_1362 ?_
                  refine y_iload hM hl 2 rfl dL_law_1364 ?_
                  refine y_i2l hM (by constructor <;> omega) dL_law_1366 ?_
                  refine y_lmul hM dL_law_1367 ?_
                  refine y_iload hM hl 2 rfl dL_law_1368 ?_
                  refine y_iload hM hl 6 rfl dL_law_1370 ?_
                  refine y_iadd hM dL_law_1372 ?_
                  refine y_i2l hM (by constructor <;> omega) dL_law_1373 ?_
                  refine y_ldiv hM ⟨by omega, by omega, by omega, by omega⟩ dL_law_1374 ?_
                  refine lv_lstore (lv' := [(28, .long (lI (((coF (timT T k (T 11 k 5 + lateT T k (T 0 0 5)) - gotT T k 0) (valT T (T 11 k 2).toNat (T 0 0 5))) * (T 11 k 5)) / ((T 11 k 5) + (lateT T k (T 0 0 5)))))), (26, .long (lI (coF (timT T k (T 11 k 5 + lateT T k (T 0 0 5)) - gotT T k 0) (valT T (T 11 k 2).toNat (T 0 0 5))))), (24, .long (lI (timT T k (T 11 k 5 + lateT T k (T 0 0 5))))), (23, .int (iI (T 11 k 5))), (21, .long (lI (gotT T k 0))), (20, .int (iI (T 11 k 3))), (19, .int (iI (0))), (18, .int (iI (lateT T k (T 0 0 5)))), (17, .int (iI ((9) * (((k : Nat) : Int))))), (16, .int (iI (0))), (15, .int (iI (((k : Nat) : Int)))), (14, .int (iI (((sv : Nat) : Int)))), (13, .int (iI (((pv : Nat) : Int)))), (12, .int (iI (kd))), (11, .int (iI (yy))), (10, .int (iI (xx))), (9, .int (iI (((i : Nat) : Int)))), (8, .ref (ad 56 0)), (7, .ref (ad 55 0)), (6, .ref (ad 54 0)), (5, .ref (ad 53 0)), (4, .ref (ad 52 0)), (3, .ref (ad 51 0)), (2, .ref (ad 50 0)), (1, .ref (ad 0 0)), (0, .ref b)]) hM.1 hM.2.1 dL_law_1375 hl (by decide) rfl (fun ls hl => ?_)
                  refine y_aload hM hl 19 rfl dL_law_1377 ?_
                  refine y_iconst hM dL_law_1379 ?_
                  refine y_iload hM hl 10 rfl dL_law_1380 ?_
                  refine y_imul hM dL_law_1382 ?_
                  refine y_iconst hM dL_law_1383 ?_
                  refine y_iadd hM dL_law_1384 ?_
                  refine y_lload hM hl 2 rfl dL_law_1385 ?_
                  refine y_lload hM hl 4 rfl dL_law_1387 ?_
                  refine y_lsub hM dL_law_1389 ?_
                  refine y_last hM hC hLK.2.2.2.2.1 (fun _ _ => rfl) ⟨by omega, by omega⟩ (by decide) dL_law_1390 (fun H locs hC => ?_)
                  rw [show (((4) * (((k : Nat) : Int))) + (2) : Int).toNat = 4 * k + 2 from by omega] at hC
                  refine y_aload hM hl 18 rfl dL_law_1391 ?_
                  refine y_iconst hM dL_law_1393 ?_
                  refine y_aload hM hl 20 rfl dL_law_1394 ?_
                  refine y_iload hM hl 8 rfl dL_law_1396 ?_
                  refine y_iconst hM dL_law_1398 ?_
                  refine y_iadd hM dL_law_1399 ?_
                  refine y_iald hM hC hLK.2.2.2.1 rfl ⟨by omega, by omega⟩ (by decide) (x := ((fr : Nat) : Int)) (by rw [show (((9) * (((k : Nat) : Int))) + (1) : Int).toNat = 9 * k + 1 from by omega, up_of (by omega), hfr]) dL_law_1400 ?_
                  refine y_imul hM dL_law_1401 ?_
                  refine y_aload hM hl 20 rfl dL_law_1402 ?_
                  refine y_iload hM hl 8 rfl dL_law_1404 ?_
                  refine y_iconst hM dL_law_1406 ?_
                  refine y_iadd hM dL_law_1407 ?_
                  refine y_iald hM hC hLK.2.2.2.1 rfl ⟨by omega, by omega⟩ (by decide) (x := ((to_ : Nat) : Int)) (by rw [show (((9) * (((k : Nat) : Int))) + (2) : Int).toNat = 9 * k + 2 from by omega, up_of (by omega), hto]) dL_law_1408 ?_
                  refine y_iadd hM dL_law_1409 ?_
                  refine lv_dup2_11 hM.1 hM.2.1 dL_law_1410 rfl rfl ?_
                  refine y_lald hM hC hLK.2.2.2.2.2.1 rfl ⟨by omega, by omega⟩ (by decide) (x := T 55 0 (5 * fr + to_)) (by rw [show (((5) * (((fr : Nat) : Int))) + (((to_ : Nat) : Int)) : Int).toNat = 5 * fr + to_ from by omega, up_of (by omega)]) dL_law_1411 ?_
                  refine y_lload hM hl 0 rfl dL_law_1412 ?_
                  refine y_ladd hM dL_law_1414 ?_
                  refine y_last hM hC hLK.2.2.2.2.2.1 (fun _ _ => rfl) ⟨by omega, by omega⟩ (by decide) dL_law_1415 (fun H locs hC => ?_)
                  rw [show (((5) * (((fr : Nat) : Int))) + (((to_ : Nat) : Int)) : Int).toNat = 5 * fr + to_ from by omega] at hC
                  refine y_aload hM hl 18 rfl dL_law_1416 ?_
                  refine y_bipush hM dL_law_1418 (by decide) ?_
                  refine y_aload hM hl 20 rfl dL_law_1420 ?_
                  refine y_iload hM hl 8 rfl dL_law_1422 ?_
                  refine y_iconst hM dL_law_1424 ?_
                  refine y_iadd hM dL_law_1425 ?_
                  refine y_iald hM hC hLK.2.2.2.1 rfl ⟨by omega, by omega⟩ (by decide) (x := ((to_ : Nat) : Int)) (by rw [show (((9) * (((k : Nat) : Int))) + (2) : Int).toNat = 9 * k + 2 from by omega, up_of (by omega), up_of (by omega), hto]) dL_law_1426 ?_
                  refine y_iadd hM dL_law_1427 ?_
                  refine lv_dup2_11 hM.1 hM.2.1 dL_law_1428 rfl rfl ?_
                  refine y_lald hM hC hLK.2.2.2.2.2.1 rfl ⟨by omega, by omega⟩ (by decide) (x := T 55 0 (to_ + 25)) (by rw [show ((25) + (((to_ : Nat) : Int)) : Int).toNat = to_ + 25 from by omega, up_of (by omega), up_of (by omega)]) dL_law_1429 ?_
                  refine y_lload hM hl 1 rfl dL_law_1430 ?_
                  refine y_lload hM hl 0 rfl dL_law_1432 ?_
                  refine y_lsub hM dL_law_1434 ?_
                  refine y_ladd hM dL_law_1435 ?_
                  refine y_last hM hC hLK.2.2.2.2.2.1 (fun _ _ => rfl) ⟨by omega, by omega⟩ (by decide) dL_law_1436 (fun H locs hC => ?_)
                  rw [show ((25) + (((to_ : Nat) : Int)) : Int).toNat = to_ + 25 from by omega] at hC
                  refine y_aload hM hl 21 rfl dL_law_1437 ?_
                  refine y_aload hM hl 20 rfl dL_law_1439 ?_
                  refine y_iload hM hl 8 rfl dL_law_1441 ?_
                  refine y_iald hM hC hLK.2.2.2.1 rfl ⟨by omega, by omega⟩ (by decide) (x := ((mv : Nat) : Int)) (by rw [show ((9) * (((k : Nat) : Int)) : Int).toNat = 9 * k from by omega, up_of (by omega), up_of (by omega), up_of (by omega), hmv0]) dL_law_1443 ?_
                  refine y_lload hM hl 2 rfl dL_law_1444 ?_
                  refine y_lload hM hl 4 rfl dL_law_1446 ?_
                  refine y_lcmp hM (by constructor <;> omega) (by constructor <;> omega) dL_law_1448 ?_
                  have hcl_1448 := cmpI_le (timT T k (T 11 k 5 + lateT T k (T 0 0 5))) (gotT T k 0)
                  have hcg_1448 := cmpI_gt (timT T k (T 11 k 5 + lateT T k (T 0 0 5))) (gotT T k 0)
                  have hce_1448 := cmpI_eq (timT T k (T 11 k 5 + lateT T k (T 0 0 5))) (gotT T k 0)
                  refine y_if_le hM (cmpI_in _ _) (tgt := 1457) dL_law_1449 (by decide) (fun c_1449 => False.elim (by omega)) (fun c_1449 => ?_)
                  refine y_lload hM hl 2 rfl dL_law_1452 ?_
                  refine lv_goto (tgt := 1459) hM.1 hM.2.1 dL_law_1454 (by decide) ?_
                  refine y_last hM hC hLK.2.2.1 (fun _ _ => rfl) ⟨by omega, by omega⟩ (by decide) dL_law_1459 (fun H locs hC => ?_)
                  rw [show (((mv : Nat) : Int) : Int).toNat = mv from by omega] at hC
                  refine y_aload_n hM hl 22 rfl rfl dL_law_1460 ?_
                  refine y_iconst hM dL_law_1461 ?_
                  refine y_aload hM hl 20 rfl dL_law_1462 ?_
                  refine y_iload hM hl 8 rfl dL_law_1464 ?_
                  refine y_iald hM hC hLK.2.2.2.1 rfl ⟨by omega, by omega⟩ (by decide) (x := ((mv : Nat) : Int)) (by rw [show ((9) * (((k : Nat) : Int)) : Int).toNat = 9 * k from by omega, up_of (by omega), up_of (by omega), up_of (by omega), up_of (by omega), hmv0]) dL_law_1466 ?_
                  refine y_imul hM dL_law_1467 ?_
                  refine y_aload hM hl 20 rfl dL_law_1468 ?_
                  refine y_iload hM hl 8 rfl dL_law_1470 ?_
                  refine y_iconst hM dL_law_1472 ?_
                  refine y_iadd hM dL_law_1473 ?_
                  refine y_iald hM hC hLK.2.2.2.1 rfl ⟨by omega, by omega⟩ (by decide) (x := T 11 k 2) (by rw [show (((9) * (((k : Nat) : Int))) + (2) : Int).toNat = 9 * k + 2 from by omega, up_of (by omega), up_of (by omega), up_of (by omega), up_of (by omega), ho.2.2.1]) dL_law_1474 ?_
                  refine y_iast hM hC hLK.2.1 (fun _ _ => rfl) ⟨by omega, by omega⟩ (by decide) dL_law_1475 (fun H locs hC => ?_)
                  rw [show ((2) * (((mv : Nat) : Int)) : Int).toNat = 2 * mv from by omega] at hC
                  refine y_aload_n hM hl 22 rfl rfl dL_law_1476 ?_
                  refine y_iconst hM dL_law_1477 ?_
                  refine y_aload hM hl 20 rfl dL_law_1478 ?_
                  refine y_iload hM hl 8 rfl dL_law_1480 ?_
                  refine y_iald hM hC hLK.2.2.2.1 rfl ⟨by omega, by omega⟩ (by decide) (x := ((mv : Nat) : Int)) (by rw [show ((9) * (((k : Nat) : Int)) : Int).toNat = 9 * k from by omega, up_of (by omega), up_of (by omega), up_of (by omega), up_of (by omega), up_of (by omega), hmv0]) dL_law_1482 ?_
                  refine y_imul hM dL_law_1483 ?_
                  refine y_iconst hM dL_law_1484 ?_
                  refine y_iadd hM dL_law_1485 ?_
                  refine y_iconst hM dL_law_1486 ?_
                  refine y_iast hM hC hLK.2.1 (fun _ _ => rfl) ⟨by omega, by omega⟩ (by decide) dL_law_1487 (fun H locs hC => ?_)
                  rw [show (((2) * (((mv : Nat) : Int))) + (1) : Int).toNat = 2 * mv + 1 from by omega] at hC
                  refine y_aload hM hl 19 rfl dL_law_1488 ?_
                  refine y_iconst hM dL_law_1490 ?_
                  refine y_iload hM hl 10 rfl dL_law_1491 ?_
                  refine y_imul hM dL_law_1493 ?_
                  refine y_iconst hM dL_law_1494 ?_
                  refine y_iadd hM dL_law_1495 ?_
                  refine y_iload hM hl 7 rfl dL_law_1496 ?_
                  refine y_i2l hM (by constructor <;> omega) dL_law_1498 ?_
                  refine y_last hM hC hLK.2.2.2.2.1 (fun _ _ => rfl) ⟨by omega, by omega⟩ (by decide) dL_law_1499 (fun H locs hC => ?_)
                  rw [show (((4) * (((k : Nat) : Int))) + (3) : Int).toNat = 4 * k + 3 from by omega] at hC
                  refine y_aload hM hl 20 rfl dL_law_1500 ?_
                  refine y_iload hM hl 8 rfl dL_law_1502 ?_
                  refine y_iconst hM dL_law_1504 ?_
                  refine y_iadd hM dL_law_1505 ?_
                  refine lv_dup2_11 hM.1 hM.2.1 dL_law_1506 rfl rfl ?_
                  refine y_iald hM hC hLK.2.2.2.1 rfl ⟨by omega, by omega⟩ (by decide) (x := T 11 k 3) (by rw [show (((9) * (((k : Nat) : Int))) + (3) : Int).toNat = 9 * k + 3 from by omega, up_of (by omega), up_of (by omega), up_of (by omega), up_of (by omega), up_of (by omega), up_of (by omega), up_of (by omega), ho.2.2.2.1]) dL_law_1507 ?_
                  refine y_iconst hM dL_law_1508 ?_
                  refine y_iadd hM dL_law_1509 ?_
                  refine y_iast hM hC hLK.2.2.2.1 (fun _ _ => rfl) ⟨by omega, by omega⟩ (by decide) dL_law_1510 (fun H locs hC => ?_)
                  rw [show (((9) * (((k : Nat) : Int))) + (3) : Int).toNat = 9 * k + 3 from by omega] at hC
                  refine y_iload hM hl 9 rfl dL_law_1511 ?_
                  refine y_if_eq hM (by constructor <;> omega) (tgt := 1525) dL_law_1513 (by decide) (fun c_1513 => ?_) (fun c_1513 => False.elim (by omega))
                  obtain ⟨T1, hT1⟩ : ∃ X : TT, X = (up (up (up (up (up (up (up (up T 54 0 (4 * k + 2) ((timT T k (T 11 k 5 + lateT T k (T 0 0 5))) - (gotT T k 0))) 55 0 (5 * fr + to_) ((T 55 0 (5 * fr + to_)) + (((coF (timT T k (T 11 k 5 + lateT T k (T 0 0 5)) - gotT T k 0) (valT T (T 11 k 2).toNat (T 0 0 5))) * (T 11 k 5)) / ((T 11 k 5) + (lateT T k (T 0 0 5)))))) 55 0 (to_ + 25) ((T 55 0 (to_ + 25)) + ((coF (timT T k (T 11 k 5 + lateT T k (T 0 0 5)) - gotT T k 0) (valT T (T 11 k 2).toNat (T 0 0 5))) - (((coF (timT T k (T 11 k 5 + lateT T k (T 0 0 5)) - gotT T k 0) (valT T (T 11 k 2).toNat (T 0 0 5))) * (T 11 k 5)) / ((T 11 k 5) + (lateT T k (T 0 0 5))))))) 52 0 (mv) (timT T k (T 11 k 5 + lateT T k (T 0 0 5)))) 51 0 (2 * mv) (T 11 k 2)) 51 0 (2 * mv + 1) (0)) 54 0 (4 * k + 3) (lateT T k (T 0 0 5))) 53 0 (9 * k + 3) ((T 11 k 3) + (1))) := ⟨_, rfl⟩
                  rw [← hT1] at hC
                  have hlo : LoE T1 T := by
                    rw [hT1]
                    exact ((((((((LoE.r.hi (by decide)).hi (by decide)).hi (by decide)).hi (by decide)).hi (by decide)).hi (by decide)).hi (by decide)).hi (by decide))
                  obtain ⟨hCK1, hNC1, hR1, hz1⟩ := hI.mid hlo
                  obtain ⟨hF1, hRK1, hSK1, hOK1, hKF1, hLK1⟩ := id hCK1
                  obtain ⟨hRN1, hDN1, hSN1, hON1, -, -, -⟩ := id hNC1
                  have h05 : T1 0 0 5 = T 0 0 5 := by rw [hz1]
                  have h06 : T1 0 0 6 = T 0 0 6 := by rw [hz1]
                  have h07 : T1 0 0 7 = T 0 0 7 := by rw [hz1]
                  have h08 : T1 0 0 8 = T 0 0 8 := by rw [hz1]
                  obtain ⟨m1, m2, m3, m4⟩ := stp_mid hlo k 0
                  refine y_aload_n hM hl 24 rfl rfl dL_law_1525 ?_
                  refine y_iload hM hl 10 rfl dL_law_1526 ?_
                  refine y_callV hM hC (c_step l hfl G b0 ks ad T1 P (((k : Nat) : Int)) ⟨by omega, by omega⟩ hF1 hRK1 hRN1 hDN1 hSK1 hSN1 hOK1 hON1) (cwV 1 hM.2.2.2.2 gL_law_X3_step rfl rfl rfl (by decide +kernel) ⟨(Nat.le_of_ble_eq_true rfl), (Nat.le_of_ble_eq_true rfl)⟩) (y_recv hC hF1.1 rfl rfl) rfl hl.1 rfl (Nat.le_of_ble_eq_true rfl) dL_law_1528 ⟨(show _ ≤ 602294 by omega), (show _ ≤ 7294300 by omega)⟩ (fun E ce q9 u1 H locs hx hC hce hcv hcl => by
                      obtain ⟨x, rfl, hx, hu⟩ := hx; rw [hu] at hC; clear hu; try dsimp only at hx
                      exact False.elim ((by simp only [Int.toNat_natCast, m1, m2, m3, m4, h08] at hx; omega))) (fun v u1 H locs hp hC => ?_)
                  obtain ⟨r_1528, rfl, h_1528, hu⟩ := hp; rw [hu] at hC; clear hu
                  try dsimp only at h_1528
                  refine W.eq (g2 := F0 m 1531 ls [.int (iI (r_1528))]) rfl ?_
                  simp only [Int.toNat_natCast, m3] at h_1528
                  rw [Int.toNat_natCast] at hC
                  refine y_iload hM hl 7 rfl dL_law_1531 ?_
                  refine y_icmp_eq hM (by constructor <;> omega) (by constructor <;> omega) (tgt := 1538) dL_law_1533 (by decide) (fun c_1533 => ?_) (fun c_1533 => False.elim (by omega))
                  refine lv_goto (tgt := 1608) hM.1 hM.2.1 dL_law_1538 (by decide) ?_
                  exact kk _ _ _ _ _ _ _ _ ls (by omega) (by omega) hC (op_stp hI hlo hk8 (by omega) (fun _ => by omega) (fun r1 n1 => by
                        have hlk := hlkp (by omega) (by omega)
                        have emv : mv = mvT T1 k := by rw [mvT_lo hlo]; exact hmv
                        have e0 : ∀ lb, allL T1 k lb = allL T k lb := fun lb => by unfold allL; rw [m1]
                        have e9 : ∀ p, T1 9 p = T 9 p := fun p => hlo 9 p (by omega)
                        have e3 : T1 3 0 = T 3 0 := hlo 3 0 (by omega)
                        refine R2_s2 (M := T) (M' := T1) (k := k) (i := mv) (f := 0) r1 n1 (by omega) ⟨emv, by omega⟩ (by rw [m1]; omega) ?_ ?_ ?_ ?_ ?_ ?_ ?_ ?_ ?_ ?_ ?_ ?_ ?_ ?_
                        · intro j hj
                          rw [hT1, up_of (by omega), up_of (by omega), up_of (by omega), up_of (by omega), up_of (by omega), up_of (by omega), up_of (by omega), up_of (by omega)]
                        · rw [hT1, up_at rfl]
                          omega
                        · intro j hj1 hj2
                          rw [hT1, up_of (by omega), up_of (by omega), up_of (by omega), up_of (by omega), up_of (by omega), up_of (by omega), up_of (by omega), up_of (by omega)]
                        · rw [m3, m4, hlk]
                          rw [hT1, up_of (by omega), up_of (by omega), up_of (by omega), up_of (by omega), up_of (by omega), up_of (by omega), up_of (by omega), up_at rfl]
                        · rw [m3]
                          rw [hT1, up_of (by omega), up_at rfl]
                        · intro j hj
                          rw [hT1, up_of (by omega), up_of (by omega), up_of (by omega), up_of (by omega), up_of (by omega), up_of (by omega), up_of (by omega), up_of (by omega)]
                        · rw [m2, m3, m4, hlk]
                          rw [hT1, up_of (by omega), up_of (by omega), up_of (by omega), up_of (by omega), up_at rfl]
                          try omega
                        · intro j hj1 hj2
                          rw [hT1, up_of (by omega), up_of (by omega), up_of (by omega), up_of (by omega), up_of (by omega), up_of (by omega), up_of (by omega), up_of (by omega)]
                        · rw [m1]
                          rw [hT1, up_of (by omega), up_of (by omega), up_of (by omega), up_at rfl]
                        · rw [hT1, up_of (by omega), up_of (by omega), up_at rfl]
                        · intro p q hp hq
                          rw [buyT_9, e0, m3, m4, m1, e9, valT_lo hlo, h05, hlk, if_neg (by rw [hall]; omega), hall]
                          have hd := hRD.1 p q hp hq
                          by_cases e : p = fr ∧ q = to_
                          · rw [if_pos ⟨by omega, by omega⟩, hT1, up_of (by omega), up_of (by omega), up_of (by omega), up_of (by omega), up_of (by omega), up_of (by omega), up_at (by omega), show 5 * fr + to_ = 5 * p + q by omega, hd]
                          · rw [if_neg (by omega), hT1, up_of (by omega), up_of (by omega), up_of (by omega), up_of (by omega), up_of (by omega), up_of (by omega), up_of (by omega), up_of (by omega), hd]
                            omega
                        · intro p hp
                          rw [buyT_r, e0, m3, m4, m1, e3, valT_lo hlo, h05, hlk, if_neg (by rw [hall]; omega), hall]
                          have hd := hRD.2 p hp
                          by_cases e : p = to_
                          · rw [if_pos (by omega), hT1, up_of (by omega), up_of (by omega), up_of (by omega), up_of (by omega), up_of (by omega), up_at (by omega), show to_ + 25 = 25 + p by omega, hd]
                          · rw [if_neg (by omega), hT1, up_of (by omega), up_of (by omega), up_of (by omega), up_of (by omega), up_of (by omega), up_of (by omega), up_of (by omega), up_of (by omega), hd]
                            omega
                        · funext j
                          rw [hT1, up_of (by omega), up_of (by omega), up_of (by omega), up_of (by omega), up_of (by omega), up_of (by omega), up_of (by omega), up_of (by omega)]
                        · funext j
                          rw [hT1, up_of (by omega), up_of (by omega), up_of (by omega), up_of (by omega), up_of (by omega), up_of (by omega), up_of (by omega), up_of (by omega)])) ⟨hl.1, hl.2.1, fun q hq => hl.2.2 q ((List.forall_mem_cons.mpr ⟨List.mem_of_getElem? (i := 14) rfl, (List.forall_mem_cons.mpr ⟨List.mem_of_getElem? (i := 16) rfl, (List.forall_mem_cons.mpr ⟨List.mem_of_getElem? (i := 17) rfl, (List.forall_mem_cons.mpr ⟨List.mem_of_getElem? (i := 18) rfl, (List.forall_mem_cons.mpr ⟨List.mem_of_getElem? (i := 19) rfl, (List.forall_mem_cons.mpr ⟨List.mem_of_getElem? (i := 20) rfl, (List.forall_mem_cons.mpr ⟨List.mem_of_getElem? (i := 21) rfl, (List.forall_mem_cons.mpr ⟨List.mem_of_getElem? (i := 22) rfl, (List.forall_mem_cons.mpr ⟨List.mem_of_getElem? (i := 23) rfl, (List.forall_mem_cons.mpr ⟨List.mem_of_getElem? (i := 24) rfl, (List.forall_mem_cons.mpr ⟨List.mem_of_getElem? (i := 25) rfl, (fun _ h => absurd h List.not_mem_nil)⟩)⟩)⟩)⟩)⟩)⟩)⟩)⟩)⟩)⟩)⟩) q hq)⟩
              ·
                refine y_iconst hM dL_law_1065 ?_
                refine lv_istore (lv' := [(19, .int (iI (3))), (24, .long (lI (timT T k (T 11 k 5 + lateT T k (T 0 0 5))))), (22, .long (lI (gotT T k 0))), (21, .int (iI (r_978))), (20, .int (iI (T 11 k 3))), (18, .int (iI (lateT T k (T 0 0 5)))), (17, .int (iI ((9) * (((k : Nat) : Int))))), (16, .int (iI (0))), (15, .int (iI (((k : Nat) : Int)))), (14, .int (iI (((sv : Nat) : Int)))), (13, .int (iI (((pv : Nat) : Int)))), (12, .int (iI (kd))), (11, .int (iI (yy))), (10, .int (iI (xx))), (9, .int (iI (((i : Nat) : Int)))), (8, .ref (ad 56 0)), (7, .ref (ad 55 0)), (6, .ref (ad 54 0)), (5, .ref (ad 53 0)), (4, .ref (ad 52 0)), (3, .ref (ad 51 0)), (2, .ref (ad 50 0)), (1, .ref (ad 0 0)), (0, .ref b)]) hM.1 hM.2.1 dL_law_1066 hl (by decide) rfl (fun ls hl => ?_)
                refine y_iload hM hl 0 rfl dL_law_1068 ?_
                refine y_if_le hM (by constructor <;> omega) (tgt := 1097) dL_law_1070 (by decide) (fun c_1070 => False.elim (by omega)) (fun c_1070 => ?_)
                refine y_aload_n hM hl 22 rfl rfl dL_law_1073 ?_
                refine y_iload hM hl 7 rfl dL_law_1074 ?_
                refine y_if_eq hM (by constructor <;> omega) (tgt := 1083) dL_law_1076 (by decide) (fun c_1076 => ?_) (fun c_1076 => False.elim (by omega))
                refine y_iconst hM dL_law_1083 ?_
                refine y_iload hM hl 8 rfl dL_law_1084 ?_
                refine y_iconst hM dL_law_1086 ?_
                refine y_callSX hM hN hC (c_ref_step l hfl G b0 ks ad T P (((k : Nat) : Int)) (0) ⟨by omega, by omega⟩ ⟨by omega, by omega⟩ hF hRK hRN hDN hSK hSN hOK hON (by simp only [Int.toNat_natCast]; omega)) (vx_cwSW 4 hM.2.2.2.2 gL_law_L_refused rfl rfl rfl (by decide +kernel) ⟨(Nat.le_of_ble_eq_true rfl), (Nat.le_of_ble_eq_true rfl)⟩) rfl hl.1 rfl (Nat.le_of_ble_eq_true rfl) dL_law_1087 ⟨(show _ ≤ 602294 by omega), (show _ ≤ 7294300 by omega)⟩ (fun E ce q9 u1 H locs hx hC hce hcv hcl => hx.elim) (fun v u1 H locs hp hC => ?_)
                obtain ⟨r_1087, rfl, h_1087, hu⟩ := hp; rw [hu] at hC; clear hu
                try dsimp only at h_1087
                refine W.eq (g2 := F0 m 1090 ls [.int (iI (r_1087))]) rfl ?_
                refine y_iload hM hl 0 rfl dL_law_1090 ?_
                refine y_icmp_eq hM (by constructor <;> omega) (by constructor <;> omega) (tgt := 1643) dL_law_1092 (by decide) (fun c_1092 => ?_) (fun c_1092 => False.elim (by omega))
                exact kn _ _ _ _ _ _ _ _ ls (by omega) (by omega) hC hI ⟨hl.1, hl.2.1, fun q hq => hl.2.2 q ((List.forall_mem_cons.mpr ⟨List.mem_of_getElem? (i := 14) rfl, (List.forall_mem_cons.mpr ⟨List.mem_of_getElem? (i := 15) rfl, (List.forall_mem_cons.mpr ⟨List.mem_of_getElem? (i := 16) rfl, (List.forall_mem_cons.mpr ⟨List.mem_of_getElem? (i := 17) rfl, (List.forall_mem_cons.mpr ⟨List.mem_of_getElem? (i := 18) rfl, (List.forall_mem_cons.mpr ⟨List.mem_of_getElem? (i := 19) rfl, (List.forall_mem_cons.mpr ⟨List.mem_of_getElem? (i := 20) rfl, (List.forall_mem_cons.mpr ⟨List.mem_of_getElem? (i := 21) rfl, (List.forall_mem_cons.mpr ⟨List.mem_of_getElem? (i := 22) rfl, (List.forall_mem_cons.mpr ⟨List.mem_of_getElem? (i := 23) rfl, (fun _ h => absurd h List.not_mem_nil)⟩)⟩)⟩)⟩)⟩)⟩)⟩)⟩)⟩)⟩) q hq)⟩

set_option maxRecDepth 100000 in
set_option maxHeartbeats 16000000 in
theorem law_force {p : Program} {e : Env} {s : State} {m : MethodId} {below : List Frame} {meth : Method} {c : Code} {Q : State → Prop} (l : Launch) (hfl : l.stackTraces = false) (G : GG) (b0 : Nat) {b L : Nat} {xs : Nat → Int32} (hM : CallFix p m c cL_law 30 s #[Value.ref b] wsL_law RL) (hN : NcX s) (hX : va_X b L xs s s.heap) (hbA : ¬ b0 ≤ b) (hbl : b < s.heap.size) (hL : L ≤ 260) {ks : KK} {ad : AD} {T : TT} {P : PP} {H : Heap} {locs : List Loc} {cells slots : Nat} (hcl : cells + 400 ≤ 602294) (hsl : slots + 3000 ≤ 7294300) (i : Nat) (xx yy kd : Int) (pv sv k : Nat) (hkd : 0 ≤ kd ∧ kd < 20) (hpv : pv < 5) (hsv : (T 0 0 7 = 0 ∧ sv = 0) ∨ (sv : Int) < T 0 0 7) (hkv : (T 0 0 8 = 0 ∧ k = 0) ∨ (k : Int) < T 0 0 8) {ls : Array Slot} (hl : lv_has ls 30 [(16, .int (iI (1))), (15, .int (iI (((k : Nat) : Int)))), (14, .int (iI (((sv : Nat) : Int)))), (13, .int (iI (((pv : Nat) : Int)))), (12, .int (iI (kd))), (11, .int (iI (yy))), (10, .int (iI (xx))), (9, .int (iI (((i : Nat) : Int)))), (8, .ref (ad 56 0)), (7, .ref (ad 55 0)), (6, .ref (ad 54 0)), (5, .ref (ad 53 0)), (4, .ref (ad 52 0)), (3, .ref (ad 51 0)), (2, .ref (ad 50 0)), (1, .ref (ad 0 0)), (0, .ref b)]) (hC : Cur G b0 (ks, ad, T, P) s H locs) (hI : IV ks ad T P)
    (kk : ∀ (ks1 : KK) (ad1 : AD) (T1 : TT) (P1 : PP) (H1 : Heap) (locs1 : List Loc) (cells1 slots1 : Nat) (ls1 : Array Slot), cells1 ≤ cells + 40 → slots1 ≤ slots + 400 → Cur G b0 (ks1, ad1, T1, P1) s H1 locs1 → IV ks1 ad1 T1 P1 → lv_has ls1 30 [(11, .int (iI (yy))), (9, .int (iI (((i : Nat) : Int)))), (8, .ref (ad1 56 0)), (7, .ref (ad1 55 0)), (6, .ref (ad1 54 0)), (5, .ref (ad1 53 0)), (4, .ref (ad1 52 0)), (3, .ref (ad1 51 0)), (2, .ref (ad1 50 0)), (1, .ref (ad1 0 0)), (0, .ref b)] → W p l e room_1 s m #[Value.ref b] below meth c H1 locs1 cells1 slots1 Q (F0 m 1608 ls1 [])) (kn : ∀ (ks1 : KK) (ad1 : AD) (T1 : TT) (P1 : PP) (H1 : Heap) (locs1 : List Loc) (cells1 slots1 : Nat) (ls1 : Array Slot), cells1 ≤ cells + 400 → slots1 ≤ slots + 3000 → Cur G b0 (ks1, ad1, T1, P1) s H1 locs1 → IV ks1 ad1 T1 P1 → lv_has ls1 30 [(9, .int (iI (((i : Nat) : Int)))), (8, .ref (ad1 56 0)), (7, .ref (ad1 55 0)), (6, .ref (ad1 54 0)), (5, .ref (ad1 53 0)), (4, .ref (ad1 52 0)), (3, .ref (ad1 51 0)), (2, .ref (ad1 50 0)), (1, .ref (ad1 0 0)), (0, .ref b)] → W p l e room_1 s m #[Value.ref b] below meth c H1 locs1 cells1 slots1 Q (F0 m 1643 ls1 [])) :
    W p l e room_1 s m #[Value.ref b] below meth c H locs cells slots Q (F0 m 836 ls []) := by
  obtain ⟨hCK, hNC, hR⟩ := id hI
  obtain ⟨hF, hRK, hSK, hOK, hKF, hLK⟩ := id hCK
  obtain ⟨hRN, hDN, hSN, hON, hXP, hXO, hXD⟩ := id hNC
  obtain ⟨⟨hg1, h75, hg2, h87, hg3, h19, hg4, hg0⟩, hRP, hRS, hRO, hRD⟩ := id hR
  obtain ⟨hd0, hd1, hd2, hd3⟩ := id hDN
  have hs70 := hSK.1
  have ho80 := hOK.1
  have hP1 := hRP.1.1
  refine y_bipush hM dL_law_836 (by decide) ?_
  refine y_iload hM hl 1 rfl dL_law_838 ?_
  refine y_imul hM dL_law_840 ?_
  refine lv_istore (lv' := [(17, .int (iI ((9) * (((k : Nat) : Int))))), (16, .int (iI (1))), (15, .int (iI (((k : Nat) : Int)))), (14, .int (iI (((sv : Nat) : Int)))), (13, .int (iI (((pv : Nat) : Int)))), (12, .int (iI (kd))), (11, .int (iI (yy))), (10, .int (iI (xx))), (9, .int (iI (((i : Nat) : Int)))), (8, .ref (ad 56 0)), (7, .ref (ad 55 0)), (6, .ref (ad 54 0)), (5, .ref (ad 53 0)), (4, .ref (ad 52 0)), (3, .ref (ad 51 0)), (2, .ref (ad 50 0)), (1, .ref (ad 0 0)), (0, .ref b)]) hM.1 hM.2.1 dL_law_841 hl (by decide) rfl (fun ls hl => ?_)
  refine y_aload hM hl 9 rfl dL_law_843 ?_
  refine y_iconst hM dL_law_845 ?_
  refine y_iald hM hC hLK.2.2.2.2.2.2 rfl ⟨by omega, by omega⟩ (by decide) (x := T 0 0 8) (by rw [show ((2 : Int)).toNat = 2 from rfl, hg2]) dL_law_846 ?_
  refine y_if_eq hM (by constructor <;> omega) (tgt := 875) dL_law_847 (by decide) (fun c_847 => ?_) (fun c_847 => ?_)
  ·
    refine y_iconst hM dL_law_875 ?_
    refine lv_goto (tgt := 891) hM.1 hM.2.1 dL_law_876 (by decide) ?_
    refine lv_istore (lv' := [(18, .int (iI (0))), (17, .int (iI ((9) * (((k : Nat) : Int))))), (16, .int (iI (1))), (15, .int (iI (((k : Nat) : Int)))), (14, .int (iI (((sv : Nat) : Int)))), (13, .int (iI (((pv : Nat) : Int)))), (12, .int (iI (kd))), (11, .int (iI (yy))), (10, .int (iI (xx))), (9, .int (iI (((i : Nat) : Int)))), (8, .ref (ad 56 0)), (7, .ref (ad 55 0)), (6, .ref (ad 54 0)), (5, .ref (ad 53 0)), (4, .ref (ad 52 0)), (3, .ref (ad 51 0)), (2, .ref (ad 50 0)), (1, .ref (ad 0 0)), (0, .ref b)]) hM.1 hM.2.1 dL_law_891 hl (by decide) rfl (fun ls hl => ?_)
    refine y_aload hM hl 10 rfl dL_law_893 ?_
    refine y_iconst hM dL_law_895 ?_
    refine y_iald hM hC hLK.2.2.2.2.2.2 rfl ⟨by omega, by omega⟩ (by decide) (x := T 0 0 8) (by rw [show ((2 : Int)).toNat = 2 from rfl, hg2]) dL_law_896 ?_
    refine y_if_ne hM (by constructor <;> omega) (tgt := 904) dL_law_897 (by decide) (fun c_897 => False.elim (by omega)) (fun c_897 => ?_)
    refine y_iconst hM dL_law_900 ?_
    refine lv_goto (tgt := 932) hM.1 hM.2.1 dL_law_901 (by decide) ?_
    refine lv_istore (lv' := [(19, .int (iI (1))), (18, .int (iI (0))), (17, .int (iI ((9) * (((k : Nat) : Int))))), (16, .int (iI (1))), (15, .int (iI (((k : Nat) : Int)))), (14, .int (iI (((sv : Nat) : Int)))), (13, .int (iI (((pv : Nat) : Int)))), (12, .int (iI (kd))), (11, .int (iI (yy))), (10, .int (iI (xx))), (9, .int (iI (((i : Nat) : Int)))), (8, .ref (ad 56 0)), (7, .ref (ad 55 0)), (6, .ref (ad 54 0)), (5, .ref (ad 53 0)), (4, .ref (ad 52 0)), (3, .ref (ad 51 0)), (2, .ref (ad 50 0)), (1, .ref (ad 0 0)), (0, .ref b)]) hM.1 hM.2.1 dL_law_932 hl (by decide) rfl (fun ls hl => ?_)
    refine y_aload hM hl 14 rfl dL_law_934 ?_
    refine y_iload hM hl 2 rfl dL_law_936 ?_
    refine y_iconst hM dL_law_938 ?_
    refine y_iadd hM dL_law_939 ?_
    refine y_iald hM hC hLK.2.2.2.1 rfl ⟨by omega, by omega⟩ (by decide) (x := T 53 0 (9 * k + 3)) (by rw [show (((9) * (((k : Nat) : Int))) + (3) : Int).toNat = 9 * k + 3 from by omega]) dL_law_940 ?_
    refine lv_istore (lv' := [(20, .int (iI (T 53 0 (9 * k + 3)))), (19, .int (iI (1))), (18, .int (iI (0))), (17, .int (iI ((9) * (((k : Nat) : Int))))), (16, .int (iI (1))), (15, .int (iI (((k : Nat) : Int)))), (14, .int (iI (((sv : Nat) : Int)))), (13, .int (iI (((pv : Nat) : Int)))), (12, .int (iI (kd))), (11, .int (iI (yy))), (10, .int (iI (xx))), (9, .int (iI (((i : Nat) : Int)))), (8, .ref (ad 56 0)), (7, .ref (ad 55 0)), (6, .ref (ad 54 0)), (5, .ref (ad 53 0)), (4, .ref (ad 52 0)), (3, .ref (ad 51 0)), (2, .ref (ad 50 0)), (1, .ref (ad 0 0)), (0, .ref b)]) hM.1 hM.2.1 dL_law_941 hl (by decide) rfl (fun ls hl => ?_)
    refine y_iload hM hl 1 rfl dL_law_943 ?_
    refine y_if_ne hM (by constructor <;> omega) (tgt := 1068) dL_law_945 (by decide) (fun c_945 => ?_) (fun c_945 => False.elim (by omega))
    refine y_iload hM hl 1 rfl dL_law_1068 ?_
    refine y_if_le hM (by constructor <;> omega) (tgt := 1097) dL_law_1070 (by decide) (fun c_1070 => False.elim (by omega)) (fun c_1070 => ?_)
    refine y_aload_n hM hl 19 rfl rfl dL_law_1073 ?_
    refine y_iload hM hl 4 rfl dL_law_1074 ?_
    refine y_if_eq hM (by constructor <;> omega) (tgt := 1083) dL_law_1076 (by decide) (fun c_1076 => False.elim (by omega)) (fun c_1076 => ?_)
    refine y_iconst hM dL_law_1079 ?_
    refine lv_goto (tgt := 1084) hM.1 hM.2.1 dL_law_1080 (by decide) ?_
    refine y_iload hM hl 5 rfl dL_law_1084 ?_
    refine y_iconst hM dL_law_1086 ?_
    refine y_callSX hM hN hC (c_ref_force l hfl G b0 ks ad T P (((k : Nat) : Int)) (0) ⟨by omega, by omega⟩ ⟨by omega, by omega⟩ hF hRK hRN hDN hSK hSN hOK hON (fun w => by omega)) (vx_cwSW 4 hM.2.2.2.2 gL_law_L_refused rfl rfl rfl (by decide +kernel) ⟨(Nat.le_of_ble_eq_true rfl), (Nat.le_of_ble_eq_true rfl)⟩) rfl hl.1 rfl (Nat.le_of_ble_eq_true rfl) dL_law_1087 ⟨(show _ ≤ 602294 by omega), (show _ ≤ 7294300 by omega)⟩ (fun E ce q9 u1 H locs hx hC hce hcv hcl => hx.elim) (fun v u1 H locs hp hC => ?_)
    obtain ⟨r_1087, rfl, h_1087, hu⟩ := hp; rw [hu] at hC; clear hu
    try dsimp only at h_1087
    refine W.eq (g2 := F0 m 1090 ls [.int (iI (r_1087))]) rfl ?_
    refine y_iload hM hl 1 rfl dL_law_1090 ?_
    refine y_icmp_eq hM (by constructor <;> omega) (by constructor <;> omega) (tgt := 1643) dL_law_1092 (by decide) (fun c_1092 => ?_) (fun c_1092 => False.elim (by omega))
    exact kn _ _ _ _ _ _ _ _ ls (by omega) (by omega) hC hI ⟨hl.1, hl.2.1, fun q hq => hl.2.2 q ((List.forall_mem_cons.mpr ⟨List.mem_of_getElem? (i := 11) rfl, (List.forall_mem_cons.mpr ⟨List.mem_of_getElem? (i := 12) rfl, (List.forall_mem_cons.mpr ⟨List.mem_of_getElem? (i := 13) rfl, (List.forall_mem_cons.mpr ⟨List.mem_of_getElem? (i := 14) rfl, (List.forall_mem_cons.mpr ⟨List.mem_of_getElem? (i := 15) rfl, (List.forall_mem_cons.mpr ⟨List.mem_of_getElem? (i := 16) rfl, (List.forall_mem_cons.mpr ⟨List.mem_of_getElem? (i := 17) rfl, (List.forall_mem_cons.mpr ⟨List.mem_of_getElem? (i := 18) rfl, (List.forall_mem_cons.mpr ⟨List.mem_of_getElem? (i := 19) rfl, (List.forall_mem_cons.mpr ⟨List.mem_of_getElem? (i := 20) rfl, (fun _ h => absurd h List.not_mem_nil)⟩)⟩)⟩)⟩)⟩)⟩)⟩)⟩)⟩)⟩) q hq)⟩
  ·
    have hk8 : (k : Int) < T 0 0 8 := by omega
    have ho := hRO.1 k hk8
    have hon := hON k hk8
    have h78 := ho.2.2.2.2.2.1
    have h7n := ho.2.2.2.2.2.2.2.2.1
    have h8n := ho.2.2.2.2.2.2.2.2.2.1
    have hdu : 0 ≤ dueT T k ∧ dueT T k ≤ 3000 := by unfold dueT; split <;> omega
    have hl2 := lateT_in2 (T := T) (k := k) (d := T 0 0 5) ⟨by omega, by omega⟩
    have hov := fun f => ov_iff (T := T) (k := k) (lb := lateT T k (T 0 0 5)) (f := f)
    have hmvn : 0 ≤ T 11 k 0 ∧ T 11 k 0 < T 0 0 7 := (hOK.2.2.2 k hk8).2.2
    obtain ⟨mv, hmv⟩ : ∃ n : Nat, n = mvT T k := ⟨_, rfl⟩
    have hmvi : ((mv : Nat) : Int) = T 11 k 0 := by rw [hmv]; unfold mvT; omega
    have hmv0 : T 53 0 (9 * k) = ((mv : Nat) : Int) := by rw [hmvi]; exact ho.1
    have hmr := hRS.1 mv (by omega)
    have hms := hSN mv (by omega)
    obtain ⟨fr, hfr0⟩ : ∃ n : Nat, n = (T 11 k 1).toNat := ⟨_, rfl⟩
    obtain ⟨to_, hto0⟩ : ∃ n : Nat, n = (T 11 k 2).toNat := ⟨_, rfl⟩
    have hfr1 : T 11 k 1 = ((fr : Nat) : Int) := by omega
    have hto1 : T 11 k 2 = ((to_ : Nat) : Int) := by omega
    have hfr : T 53 0 (9 * k + 1) = ((fr : Nat) : Int) := by rw [← hfr1]; exact ho.2.1
    have hto : T 53 0 (9 * k + 2) = ((to_ : Nat) : Int) := by rw [← hto1]; exact ho.2.2.1
    refine y_aload hM hl 12 rfl dL_law_850 ?_
    refine y_iload hM hl 0 rfl dL_law_852 ?_
    refine y_iconst hM dL_law_854 ?_
    refine y_iadd hM dL_law_855 ?_
    refine y_iald hM hC hLK.2.2.2.1 rfl ⟨by omega, by omega⟩ (by decide) (x := T 11 k 3) (by rw [show (((9) * (((k : Nat) : Int))) + (3) : Int).toNat = 9 * k + 3 from by omega, ho.2.2.2.1]) dL_law_856 ?_
    refine y_iconst hM dL_law_857 ?_
    refine y_icmp_eq hM (by constructor <;> omega) (by constructor <;> omega) (tgt := 875) dL_law_858 (by decide) (fun c_858 => ?_) (fun c_858 => ?_)
    ·
      refine y_iconst hM dL_law_875 ?_
      refine lv_goto (tgt := 891) hM.1 hM.2.1 dL_law_876 (by decide) ?_
      refine lv_istore (lv' := [(18, .int (iI (0))), (17, .int (iI ((9) * (((k : Nat) : Int))))), (16, .int (iI (1))), (15, .int (iI (((k : Nat) : Int)))), (14, .int (iI (((sv : Nat) : Int)))), (13, .int (iI (((pv : Nat) : Int)))), (12, .int (iI (kd))), (11, .int (iI (yy))), (10, .int (iI (xx))), (9, .int (iI (((i : Nat) : Int)))), (8, .ref (ad 56 0)), (7, .ref (ad 55 0)), (6, .ref (ad 54 0)), (5, .ref (ad 53 0)), (4, .ref (ad 52 0)), (3, .ref (ad 51 0)), (2, .ref (ad 50 0)), (1, .ref (ad 0 0)), (0, .ref b)]) hM.1 hM.2.1 dL_law_891 hl (by decide) rfl (fun ls hl => ?_)
      refine y_aload hM hl 10 rfl dL_law_893 ?_
      refine y_iconst hM dL_law_895 ?_
      refine y_iald hM hC hLK.2.2.2.2.2.2 rfl ⟨by omega, by omega⟩ (by decide) (x := T 0 0 8) (by rw [show ((2 : Int)).toNat = 2 from rfl, hg2]) dL_law_896 ?_
      refine y_if_ne hM (by constructor <;> omega) (tgt := 904) dL_law_897 (by decide) (fun c_897 => ?_) (fun c_897 => False.elim (by omega))
      refine y_aload hM hl 13 rfl dL_law_904 ?_
      refine y_iload hM hl 1 rfl dL_law_906 ?_
      refine y_iconst hM dL_law_908 ?_
      refine y_iadd hM dL_law_909 ?_
      refine y_iald hM hC hLK.2.2.2.1 rfl ⟨by omega, by omega⟩ (by decide) (x := T 11 k 3) (by rw [show (((9) * (((k : Nat) : Int))) + (3) : Int).toNat = 9 * k + 3 from by omega, ho.2.2.2.1]) dL_law_910 ?_
      refine y_iconst hM dL_law_911 ?_
      refine y_icmp_eq hM (by constructor <;> omega) (by constructor <;> omega) (tgt := 927) dL_law_912 (by decide) (fun c_912 => ?_) (fun c_912 => False.elim (by omega))
      refine y_iconst hM dL_law_927 ?_
      refine lv_goto (tgt := 932) hM.1 hM.2.1 dL_law_928 (by decide) ?_
      refine lv_istore (lv' := [(19, .int (iI (3))), (18, .int (iI (0))), (17, .int (iI ((9) * (((k : Nat) : Int))))), (16, .int (iI (1))), (15, .int (iI (((k : Nat) : Int)))), (14, .int (iI (((sv : Nat) : Int)))), (13, .int (iI (((pv : Nat) : Int)))), (12, .int (iI (kd))), (11, .int (iI (yy))), (10, .int (iI (xx))), (9, .int (iI (((i : Nat) : Int)))), (8, .ref (ad 56 0)), (7, .ref (ad 55 0)), (6, .ref (ad 54 0)), (5, .ref (ad 53 0)), (4, .ref (ad 52 0)), (3, .ref (ad 51 0)), (2, .ref (ad 50 0)), (1, .ref (ad 0 0)), (0, .ref b)]) hM.1 hM.2.1 dL_law_932 hl (by decide) rfl (fun ls hl => ?_)
      refine y_aload hM hl 14 rfl dL_law_934 ?_
      refine y_iload hM hl 2 rfl dL_law_936 ?_
      refine y_iconst hM dL_law_938 ?_
      refine y_iadd hM dL_law_939 ?_
      refine y_iald hM hC hLK.2.2.2.1 rfl ⟨by omega, by omega⟩ (by decide) (x := T 11 k 3) (by rw [show (((9) * (((k : Nat) : Int))) + (3) : Int).toNat = 9 * k + 3 from by omega, ho.2.2.2.1]) dL_law_940 ?_
      refine lv_istore (lv' := [(20, .int (iI (T 11 k 3))), (19, .int (iI (3))), (18, .int (iI (0))), (17, .int (iI ((9) * (((k : Nat) : Int))))), (16, .int (iI (1))), (15, .int (iI (((k : Nat) : Int)))), (14, .int (iI (((sv : Nat) : Int)))), (13, .int (iI (((pv : Nat) : Int)))), (12, .int (iI (kd))), (11, .int (iI (yy))), (10, .int (iI (xx))), (9, .int (iI (((i : Nat) : Int)))), (8, .ref (ad 56 0)), (7, .ref (ad 55 0)), (6, .ref (ad 54 0)), (5, .ref (ad 53 0)), (4, .ref (ad 52 0)), (3, .ref (ad 51 0)), (2, .ref (ad 50 0)), (1, .ref (ad 0 0)), (0, .ref b)]) hM.1 hM.2.1 dL_law_941 hl (by decide) rfl (fun ls hl => ?_)
      refine y_iload hM hl 1 rfl dL_law_943 ?_
      refine y_if_ne hM (by constructor <;> omega) (tgt := 1068) dL_law_945 (by decide) (fun c_945 => ?_) (fun c_945 => False.elim (by omega))
      refine y_iload hM hl 1 rfl dL_law_1068 ?_
      refine y_if_le hM (by constructor <;> omega) (tgt := 1097) dL_law_1070 (by decide) (fun c_1070 => False.elim (by omega)) (fun c_1070 => ?_)
      refine y_aload_n hM hl 19 rfl rfl dL_law_1073 ?_
      refine y_iload hM hl 4 rfl dL_law_1074 ?_
      refine y_if_eq hM (by constructor <;> omega) (tgt := 1083) dL_law_1076 (by decide) (fun c_1076 => False.elim (by omega)) (fun c_1076 => ?_)
      refine y_iconst hM dL_law_1079 ?_
      refine lv_goto (tgt := 1084) hM.1 hM.2.1 dL_law_1080 (by decide) ?_
      refine y_iload hM hl 5 rfl dL_law_1084 ?_
      refine y_iconst hM dL_law_1086 ?_
      refine y_callSX hM hN hC (c_ref_force l hfl G b0 ks ad T P (((k : Nat) : Int)) (0) ⟨by omega, by omega⟩ ⟨by omega, by omega⟩ hF hRK hRN hDN hSK hSN hOK hON (by simp only [Int.toNat_natCast]; omega)) (vx_cwSW 4 hM.2.2.2.2 gL_law_L_refused rfl rfl rfl (by decide +kernel) ⟨(Nat.le_of_ble_eq_true rfl), (Nat.le_of_ble_eq_true rfl)⟩) rfl hl.1 rfl (Nat.le_of_ble_eq_true rfl) dL_law_1087 ⟨(show _ ≤ 602294 by omega), (show _ ≤ 7294300 by omega)⟩ (fun E ce q9 u1 H locs hx hC hce hcv hcl => hx.elim) (fun v u1 H locs hp hC => ?_)
      obtain ⟨r_1087, rfl, h_1087, hu⟩ := hp; rw [hu] at hC; clear hu
      try dsimp only at h_1087
      refine W.eq (g2 := F0 m 1090 ls [.int (iI (r_1087))]) rfl ?_
      refine y_iload hM hl 1 rfl dL_law_1090 ?_
      refine y_icmp_eq hM (by constructor <;> omega) (by constructor <;> omega) (tgt := 1643) dL_law_1092 (by decide) (fun c_1092 => ?_) (fun c_1092 => False.elim (by omega))
      exact kn _ _ _ _ _ _ _ _ ls (by omega) (by omega) hC hI ⟨hl.1, hl.2.1, fun q hq => hl.2.2 q ((List.forall_mem_cons.mpr ⟨List.mem_of_getElem? (i := 11) rfl, (List.forall_mem_cons.mpr ⟨List.mem_of_getElem? (i := 12) rfl, (List.forall_mem_cons.mpr ⟨List.mem_of_getElem? (i := 13) rfl, (List.forall_mem_cons.mpr ⟨List.mem_of_getElem? (i := 14) rfl, (List.forall_mem_cons.mpr ⟨List.mem_of_getElem? (i := 15) rfl, (List.forall_mem_cons.mpr ⟨List.mem_of_getElem? (i := 16) rfl, (List.forall_mem_cons.mpr ⟨List.mem_of_getElem? (i := 17) rfl, (List.forall_mem_cons.mpr ⟨List.mem_of_getElem? (i := 18) rfl, (List.forall_mem_cons.mpr ⟨List.mem_of_getElem? (i := 19) rfl, (List.forall_mem_cons.mpr ⟨List.mem_of_getElem? (i := 20) rfl, (fun _ h => absurd h List.not_mem_nil)⟩)⟩)⟩)⟩)⟩)⟩)⟩)⟩)⟩)⟩) q hq)⟩
    ·
      refine y_aload hM hl 9 rfl dL_law_861 ?_
      refine y_iconst hM dL_law_863 ?_
      refine y_iald hM hC hLK.2.2.2.2.2.2 rfl ⟨by omega, by omega⟩ (by decide) (x := T 0 0 5) (by rw [show ((3 : Int)).toNat = 3 from rfl, hg3]) dL_law_864 ?_
      refine y_aload hM hl 12 rfl dL_law_865 ?_
      refine y_iload hM hl 2 rfl dL_law_867 ?_
      refine y_callS hM hC (c_L_due l hfl G b0 ks ad T P k (by omega) hLK.2.2.2.1 ho ⟨by omega, by omega⟩) (va_cwS 2 hM.2.2.2.2 gL_law_L_due rfl rfl rfl (by decide +kernel) ⟨(Nat.le_of_ble_eq_true rfl), (Nat.le_of_ble_eq_true rfl)⟩) rfl hl.1 rfl (Nat.le_of_ble_eq_true rfl) dL_law_869 ⟨(show _ ≤ 602294 by omega), (show _ ≤ 7294300 by omega)⟩ (fun E ce q9 u1 H locs hx hC hce hcv hcl => hx.elim) (fun v u1 H locs hp hC => ?_)
      obtain ⟨r_869, rfl, h_869, hu⟩ := hp; rw [hu] at hC; clear hu
      try dsimp only at h_869
      refine W.eq (g2 := F0 m 872 ls [.int (iI (r_869)), .int (iI (T 0 0 5))]) rfl ?_
      refine y_icmp_ge hM (by constructor <;> omega) (by constructor <;> omega) (tgt := 879) dL_law_872 (by decide) (fun c_872 => ?_) (fun c_872 => ?_)
      ·
        refine y_aload hM hl 9 rfl dL_law_879 ?_
        refine y_iconst hM dL_law_881 ?_
        refine y_iald hM hC hLK.2.2.2.2.2.2 rfl ⟨by omega, by omega⟩ (by decide) (x := T 0 0 5) (by rw [show ((3 : Int)).toNat = 3 from rfl, hg3]) dL_law_882 ?_
        refine y_aload hM hl 12 rfl dL_law_883 ?_
        refine y_iload hM hl 2 rfl dL_law_885 ?_
        refine y_callS hM hC (c_L_due l hfl G b0 ks ad T P k (by omega) hLK.2.2.2.1 ho ⟨by omega, by omega⟩) (va_cwS 2 hM.2.2.2.2 gL_law_L_due rfl rfl rfl (by decide +kernel) ⟨(Nat.le_of_ble_eq_true rfl), (Nat.le_of_ble_eq_true rfl)⟩) rfl hl.1 rfl (Nat.le_of_ble_eq_true rfl) dL_law_887 ⟨(show _ ≤ 602294 by omega), (show _ ≤ 7294300 by omega)⟩ (fun E ce q9 u1 H locs hx hC hce hcv hcl => hx.elim) (fun v u1 H locs hp hC => ?_)
        obtain ⟨r_887, rfl, h_887, hu⟩ := hp; rw [hu] at hC; clear hu
        try dsimp only at h_887
        refine W.eq (g2 := F0 m 890 ls [.int (iI (r_887)), .int (iI (T 0 0 5))]) rfl ?_
        refine y_isub hM dL_law_890 ?_
        rw [show (T 0 0 5) - (r_887) = lateT T k (T 0 0 5) from (by unfold lateT; split <;> omega)]
        refine lv_istore (lv' := [(18, .int (iI (lateT T k (T 0 0 5)))), (17, .int (iI ((9) * (((k : Nat) : Int))))), (16, .int (iI (1))), (15, .int (iI (((k : Nat) : Int)))), (14, .int (iI (((sv : Nat) : Int)))), (13, .int (iI (((pv : Nat) : Int)))), (12, .int (iI (kd))), (11, .int (iI (yy))), (10, .int (iI (xx))), (9, .int (iI (((i : Nat) : Int)))), (8, .ref (ad 56 0)), (7, .ref (ad 55 0)), (6, .ref (ad 54 0)), (5, .ref (ad 53 0)), (4, .ref (ad 52 0)), (3, .ref (ad 51 0)), (2, .ref (ad 50 0)), (1, .ref (ad 0 0)), (0, .ref b)]) hM.1 hM.2.1 dL_law_891 hl (by decide) rfl (fun ls hl => ?_)
        refine y_aload hM hl 10 rfl dL_law_893 ?_
        refine y_iconst hM dL_law_895 ?_
        refine y_iald hM hC hLK.2.2.2.2.2.2 rfl ⟨by omega, by omega⟩ (by decide) (x := T 0 0 8) (by rw [show ((2 : Int)).toNat = 2 from rfl, hg2]) dL_law_896 ?_
        refine y_if_ne hM (by constructor <;> omega) (tgt := 904) dL_law_897 (by decide) (fun c_897 => ?_) (fun c_897 => False.elim (by omega))
        refine y_aload hM hl 13 rfl dL_law_904 ?_
        refine y_iload hM hl 1 rfl dL_law_906 ?_
        refine y_iconst hM dL_law_908 ?_
        refine y_iadd hM dL_law_909 ?_
        refine y_iald hM hC hLK.2.2.2.1 rfl ⟨by omega, by omega⟩ (by decide) (x := T 11 k 3) (by rw [show (((9) * (((k : Nat) : Int))) + (3) : Int).toNat = 9 * k + 3 from by omega, ho.2.2.2.1]) dL_law_910 ?_
        refine y_iconst hM dL_law_911 ?_
        refine y_icmp_eq hM (by constructor <;> omega) (by constructor <;> omega) (tgt := 927) dL_law_912 (by decide) (fun c_912 => False.elim (by omega)) (fun c_912 => ?_)
        refine y_iload hM hl 2 rfl dL_law_915 ?_
        refine y_if_eq hM (by constructor <;> omega) (tgt := 931) dL_law_917 (by decide) (fun c_917 => False.elim (by omega)) (fun c_917 => ?_)
        refine y_iload hM hl 0 rfl dL_law_920 ?_
        refine y_bipush hM dL_law_922 (by decide) ?_
        refine y_icmp_ge hM (by constructor <;> omega) (by constructor <;> omega) (tgt := 931) dL_law_924 (by decide) (fun c_924 => ?_) (fun c_924 => ?_)
        ·
          refine y_iconst hM dL_law_931 ?_
          refine lv_istore (lv' := [(19, .int (iI (0))), (18, .int (iI (lateT T k (T 0 0 5)))), (17, .int (iI ((9) * (((k : Nat) : Int))))), (16, .int (iI (1))), (15, .int (iI (((k : Nat) : Int)))), (14, .int (iI (((sv : Nat) : Int)))), (13, .int (iI (((pv : Nat) : Int)))), (12, .int (iI (kd))), (11, .int (iI (yy))), (10, .int (iI (xx))), (9, .int (iI (((i : Nat) : Int)))), (8, .ref (ad 56 0)), (7, .ref (ad 55 0)), (6, .ref (ad 54 0)), (5, .ref (ad 53 0)), (4, .ref (ad 52 0)), (3, .ref (ad 51 0)), (2, .ref (ad 50 0)), (1, .ref (ad 0 0)), (0, .ref b)]) hM.1 hM.2.1 dL_law_932 hl (by decide) rfl (fun ls hl => ?_)
          refine y_aload hM hl 14 rfl dL_law_934 ?_
          refine y_iload hM hl 2 rfl dL_law_936 ?_
          refine y_iconst hM dL_law_938 ?_
          refine y_iadd hM dL_law_939 ?_
          refine y_iald hM hC hLK.2.2.2.1 rfl ⟨by omega, by omega⟩ (by decide) (x := T 11 k 3) (by rw [show (((9) * (((k : Nat) : Int))) + (3) : Int).toNat = 9 * k + 3 from by omega, ho.2.2.2.1]) dL_law_940 ?_
          refine lv_istore (lv' := [(20, .int (iI (T 11 k 3))), (19, .int (iI (0))), (18, .int (iI (lateT T k (T 0 0 5)))), (17, .int (iI ((9) * (((k : Nat) : Int))))), (16, .int (iI (1))), (15, .int (iI (((k : Nat) : Int)))), (14, .int (iI (((sv : Nat) : Int)))), (13, .int (iI (((pv : Nat) : Int)))), (12, .int (iI (kd))), (11, .int (iI (yy))), (10, .int (iI (xx))), (9, .int (iI (((i : Nat) : Int)))), (8, .ref (ad 56 0)), (7, .ref (ad 55 0)), (6, .ref (ad 54 0)), (5, .ref (ad 53 0)), (4, .ref (ad 52 0)), (3, .ref (ad 51 0)), (2, .ref (ad 50 0)), (1, .ref (ad 0 0)), (0, .ref b)]) hM.1 hM.2.1 dL_law_941 hl (by decide) rfl (fun ls hl => ?_)
          refine y_iload hM hl 1 rfl dL_law_943 ?_
          refine y_if_ne hM (by constructor <;> omega) (tgt := 1068) dL_law_945 (by decide) (fun c_945 => False.elim (by omega)) (fun c_945 => ?_)
          refine y_iload hM hl 0 rfl dL_law_948 ?_
          refine y_iconst hM dL_law_950 ?_
          refine y_icmp_ne hM (by constructor <;> omega) (by constructor <;> omega) (tgt := 1068) dL_law_951 (by decide) (fun c_951 => ?_) (fun c_951 => ?_)
          ·
            refine y_iload hM hl 1 rfl dL_law_1068 ?_
            refine y_if_le hM (by constructor <;> omega) (tgt := 1097) dL_law_1070 (by decide) (fun c_1070 => ?_) (fun c_1070 => False.elim (by omega))
            refine y_iload hM hl 0 rfl dL_law_1097 ?_
            refine y_if_ne hM (by constructor <;> omega) (tgt := 1126) dL_law_1099 (by decide) (fun c_1099 => ?_) (fun c_1099 => ?_)
            ·
              refine y_iload hM hl 0 rfl dL_law_1126 ?_
              refine y_iconst hM dL_law_1128 ?_
              refine y_icmp_ne hM (by constructor <;> omega) (by constructor <;> omega) (tgt := 1231) dL_law_1129 (by decide) (fun c_1129 => False.elim (by omega)) (fun c_1129 => ?_)
              refine y_aload hM hl 14 rfl dL_law_1132 ?_
              refine y_iconst hM dL_law_1134 ?_
              refine y_iload hM hl 5 rfl dL_law_1135 ?_
              refine y_imul hM dL_law_1137 ?_
              refine y_aload hM hl 16 rfl dL_law_1138 ?_
              refine y_aload hM hl 15 rfl dL_law_1140 ?_
              refine y_iload hM hl 3 rfl dL_law_1142 ?_
              refine y_iald hM hC hLK.2.2.2.1 rfl ⟨by omega, by omega⟩ (by decide) (x := ((mv : Nat) : Int)) (by rw [show ((9) * (((k : Nat) : Int)) : Int).toNat = 9 * k from by omega, hmv0]) dL_law_1144 ?_
              refine y_lald hM hC hLK.2.2.1 rfl ⟨by omega, by omega⟩ (by decide) (x := T 10 mv 1) (by rw [show (((mv : Nat) : Int) : Int).toNat = mv from by omega, hmr.2.2]) dL_law_1145 ?_
              refine y_last hM hC hLK.2.2.2.2.1 (fun _ _ => rfl) ⟨by omega, by omega⟩ (by decide) dL_law_1146 (fun H locs hC => ?_)
              rw [show ((4) * (((k : Nat) : Int)) : Int).toNat = 4 * k from by omega] at hC
              refine y_aload hM hl 14 rfl dL_law_1147 ?_
              refine y_iconst hM dL_law_1149 ?_
              refine y_iload hM hl 5 rfl dL_law_1150 ?_
              refine y_imul hM dL_law_1152 ?_
              refine y_iconst hM dL_law_1153 ?_
              refine y_iadd hM dL_law_1154 ?_
              refine y_aload hM hl 16 rfl dL_law_1155 ?_
              refine y_aload hM hl 15 rfl dL_law_1157 ?_
              refine y_iload hM hl 3 rfl dL_law_1159 ?_
              refine y_iald hM hC hLK.2.2.2.1 rfl ⟨by omega, by omega⟩ (by decide) (x := ((mv : Nat) : Int)) (by rw [show ((9) * (((k : Nat) : Int)) : Int).toNat = 9 * k from by omega, up_of (by omega), hmv0]) dL_law_1161 ?_
              refine y_lald hM hC hLK.2.2.1 rfl ⟨by omega, by omega⟩ (by decide) (x := T 10 mv 1) (by rw [show (((mv : Nat) : Int) : Int).toNat = mv from by omega, up_of (by omega), hmr.2.2]) dL_law_1162 ?_
              refine y_iload hM hl 4 rfl dL_law_1163 ?_
              refine y_if_eq hM (by constructor <;> omega) (tgt := 1175) dL_law_1165 (by decide) (fun c_1165 => False.elim (by omega)) (fun c_1165 => ?_)
              refine y_aload hM hl 12 rfl dL_law_1168 ?_
              refine y_iconst hM dL_law_1170 ?_
              refine y_iald hM hC hLK.2.2.2.2.2.2 rfl ⟨by omega, by omega⟩ (by decide) (x := T 0 0 6) (by rw [show ((4 : Int)).toNat = 4 from rfl, up_of (by omega), hg4]) dL_law_1171 ?_
              refine lv_goto (tgt := 1190) hM.1 hM.2.1 dL_law_1172 (by decide) ?_
              have hq1 : 0 ≤ T 10 mv 1 * (T 0 0 6) := Int.mul_nonneg (by omega) (by omega)
              have hq2 : T 10 mv 1 * (T 0 0 6) ≤ 100000000 * 10000 := Int.mul_le_mul (by omega) (by omega) (by omega) (by omega)
              refine y_i2l hM (by constructor <;> omega) dL_law_1190 ?_
              refine y_lmul hM dL_law_1191 ?_
              refine y_ldc2 hM (v := 1000) (1000) (by decide) (by decide +kernel) dL_law_1192 ?_
              refine y_ldiv hM ⟨by omega, by omega, by omega, by omega⟩ dL_law_1195 ?_
              rw [show ((T 10 mv 1) * (T 0 0 6)) / (1000) = moF (T 10 mv 1) (prF T (T 11 k 1).toNat 1) from (by unfold prF; rw [if_neg (by decide)]; rfl)]
              refine y_last hM hC hLK.2.2.2.2.1 (fun _ _ => rfl) ⟨by omega, by omega⟩ (by decide) dL_law_1196 (fun H locs hC => ?_)
              rw [show (((4) * (((k : Nat) : Int))) + (1) : Int).toNat = 4 * k + 1 from by omega] at hC
              refine y_aload hM hl 16 rfl dL_law_1197 ?_
              refine y_aload hM hl 15 rfl dL_law_1199 ?_
              refine y_iload hM hl 3 rfl dL_law_1201 ?_
              refine y_iald hM hC hLK.2.2.2.1 rfl ⟨by omega, by omega⟩ (by decide) (x := ((mv : Nat) : Int)) (by rw [show ((9) * (((k : Nat) : Int)) : Int).toNat = 9 * k from by omega, up_of (by omega), up_of (by omega), hmv0]) dL_law_1203 ?_
              refine y_lconst hM 0 (by decide) dL_law_1204 ?_
              refine y_last hM hC hLK.2.2.1 (fun _ _ => rfl) ⟨by omega, by omega⟩ (by decide) dL_law_1205 (fun H locs hC => ?_)
              rw [show (((mv : Nat) : Int) : Int).toNat = mv from by omega] at hC
              refine y_aload hM hl 15 rfl dL_law_1206 ?_
              refine y_iload hM hl 3 rfl dL_law_1208 ?_
              refine y_bipush hM dL_law_1210 (by decide) ?_
              refine y_iadd hM dL_law_1212 ?_
              refine y_aload hM hl 12 rfl dL_law_1213 ?_
              refine y_iconst hM dL_law_1215 ?_
              refine y_iald hM hC hLK.2.2.2.2.2.2 rfl ⟨by omega, by omega⟩ (by decide) (x := T 0 0 5) (by rw [show ((3 : Int)).toNat = 3 from rfl, up_of (by omega), up_of (by omega), up_of (by omega), hg3]) dL_law_1216 ?_
              refine y_iast hM hC hLK.2.2.2.1 (fun _ _ => rfl) ⟨by omega, by omega⟩ (by decide) dL_law_1217 (fun H locs hC => ?_)
              rw [show (((9) * (((k : Nat) : Int))) + (6) : Int).toNat = 9 * k + 6 from by omega] at hC
              refine y_aload hM hl 15 rfl dL_law_1218 ?_
              refine y_iload hM hl 3 rfl dL_law_1220 ?_
              refine y_bipush hM dL_law_1222 (by decide) ?_
              refine y_iadd hM dL_law_1224 ?_
              refine y_iload hM hl 2 rfl dL_law_1225 ?_
              refine y_iast hM hC hLK.2.2.2.1 (fun _ _ => rfl) ⟨by omega, by omega⟩ (by decide) dL_law_1227 (fun H locs hC => ?_)
              rw [show (((9) * (((k : Nat) : Int))) + (8) : Int).toNat = 9 * k + 8 from by omega] at hC
              refine lv_goto (tgt := 1500) hM.1 hM.2.1 dL_law_1228 (by decide) ?_
              refine y_aload hM hl 15 rfl dL_law_1500 ?_
              refine y_iload hM hl 3 rfl dL_law_1502 ?_
              refine y_iconst hM dL_law_1504 ?_
              refine y_iadd hM dL_law_1505 ?_
              refine lv_dup2_11 hM.1 hM.2.1 dL_law_1506 rfl rfl ?_
              refine y_iald hM hC hLK.2.2.2.1 rfl ⟨by omega, by omega⟩ (by decide) (x := T 11 k 3) (by rw [show (((9) * (((k : Nat) : Int))) + (3) : Int).toNat = 9 * k + 3 from by omega, up_of (by omega), up_of (by omega), up_of (by omega), up_of (by omega), up_of (by omega), ho.2.2.2.1]) dL_law_1507 ?_
              refine y_iconst hM dL_law_1508 ?_
              refine y_iadd hM dL_law_1509 ?_
              refine y_iast hM hC hLK.2.2.2.1 (fun _ _ => rfl) ⟨by omega, by omega⟩ (by decide) dL_law_1510 (fun H locs hC => ?_)
              rw [show (((9) * (((k : Nat) : Int))) + (3) : Int).toNat = 9 * k + 3 from by omega] at hC
              refine y_iload hM hl 4 rfl dL_law_1511 ?_
              refine y_if_eq hM (by constructor <;> omega) (tgt := 1525) dL_law_1513 (by decide) (fun c_1513 => False.elim (by omega)) (fun c_1513 => ?_)
              obtain ⟨T1, hT1⟩ : ∃ X : TT, X = (up (up (up (up (up (up T 54 0 (4 * k) (T 10 mv 1)) 54 0 (4 * k + 1) (moF (T 10 mv 1) (prF T (T 11 k 1).toNat 1))) 52 0 (mv) (0)) 53 0 (9 * k + 6) (T 0 0 5)) 53 0 (9 * k + 8) (lateT T k (T 0 0 5))) 53 0 (9 * k + 3) ((T 11 k 3) + (1))) := ⟨_, rfl⟩
              rw [← hT1] at hC
              have hlo : LoE T1 T := by
                rw [hT1]
                exact ((((((LoE.r.hi (by decide)).hi (by decide)).hi (by decide)).hi (by decide)).hi (by decide)).hi (by decide))
              obtain ⟨hCK1, hNC1, hR1, hz1⟩ := hI.mid hlo
              obtain ⟨hF1, hRK1, hSK1, hOK1, hKF1, hLK1⟩ := id hCK1
              obtain ⟨hRN1, hDN1, hSN1, hON1, -, -, -⟩ := id hNC1
              have h05 : T1 0 0 5 = T 0 0 5 := by rw [hz1]
              have h06 : T1 0 0 6 = T 0 0 6 := by rw [hz1]
              have h07 : T1 0 0 7 = T 0 0 7 := by rw [hz1]
              have h08 : T1 0 0 8 = T 0 0 8 := by rw [hz1]
              obtain ⟨m1, m2, m3, m4⟩ := stp_mid hlo k 1
              refine y_aload_n hM hl 19 rfl rfl dL_law_1516 ?_
              refine y_iload hM hl 5 rfl dL_law_1517 ?_
              refine y_callV hM hC (c_force l hfl G b0 ks ad T1 P (((k : Nat) : Int)) ⟨by omega, by omega⟩ hF1 hRK1 hRN1 hDN1 hSK1 hSN1 hOK1 hON1) (cwV 1 hM.2.2.2.2 gL_law_X3_force rfl rfl rfl (by decide +kernel) ⟨(Nat.le_of_ble_eq_true rfl), (Nat.le_of_ble_eq_true rfl)⟩) (y_recv hC hF1.1 rfl rfl) rfl hl.1 rfl (Nat.le_of_ble_eq_true rfl) dL_law_1519 ⟨(show _ ≤ 602294 by omega), (show _ ≤ 7294300 by omega)⟩ (fun E ce q9 u1 H locs hx hC hce hcv hcl => by
                  obtain ⟨x, rfl, hx, hu⟩ := hx; rw [hu] at hC; clear hu; try dsimp only at hx
                  exact False.elim ((by simp only [Int.toNat_natCast, m1, m2, m3, m4, h08] at hx; omega))) (fun v u1 H locs hp hC => ?_)
              obtain ⟨r_1519, rfl, h_1519, hu⟩ := hp; rw [hu] at hC; clear hu
              try dsimp only at h_1519
              refine W.eq (g2 := F0 m 1522 ls [.int (iI (r_1519))]) rfl ?_
              simp only [Int.toNat_natCast, m3] at h_1519
              rw [Int.toNat_natCast] at hC
              refine lv_goto (tgt := 1531) hM.1 hM.2.1 dL_law_1522 (by decide) ?_
              refine y_iload hM hl 2 rfl dL_law_1531 ?_
              refine y_icmp_eq hM (by constructor <;> omega) (by constructor <;> omega) (tgt := 1538) dL_law_1533 (by decide) (fun c_1533 => ?_) (fun c_1533 => False.elim (by omega))
              refine lv_goto (tgt := 1608) hM.1 hM.2.1 dL_law_1538 (by decide) ?_
              exact kk _ _ _ _ _ _ _ _ ls (by omega) (by omega) hC (op_stp hI hlo hk8 (by omega) (fun q => by omega) (fun r1 n1 => by
                    have e10 : T1 10 mv = T 10 mv := hlo 10 mv (by omega)
                    have emv : mv = mvT T1 k := by rw [mvT_lo hlo]; exact hmv
                    have epr : prF T1 (T1 11 k 1).toNat 1 = prF T (T 11 k 1).toNat 1 := by
                      unfold prF
                      rw [m1, valT_lo hlo, hz1]
                    have h := R2_s1 (k := k) (i := mv) (f := 1) (c := (T 11 k 3) + (1)) (u := T 10 mv 1) (mo := moF (T 10 mv 1) (prF T (T 11 k 1).toNat 1)) r1 n1 (by omega) ⟨emv, by omega⟩ (by rw [m1]; omega) (by rw [e10]) (by rw [e10, epr]) (by omega)
                    rw [m3, h05] at h
                    exact h.congr LoE.r (by rw [hT1]; exact HiE.r))) ⟨hl.1, hl.2.1, fun q hq => hl.2.2 q ((List.forall_mem_cons.mpr ⟨List.mem_of_getElem? (i := 9) rfl, (List.forall_mem_cons.mpr ⟨List.mem_of_getElem? (i := 11) rfl, (List.forall_mem_cons.mpr ⟨List.mem_of_getElem? (i := 12) rfl, (List.forall_mem_cons.mpr ⟨List.mem_of_getElem? (i := 13) rfl, (List.forall_mem_cons.mpr ⟨List.mem_of_getElem? (i := 14) rfl, (List.forall_mem_cons.mpr ⟨List.mem_of_getElem? (i := 15) rfl, (List.forall_mem_cons.mpr ⟨List.mem_of_getElem? (i := 16) rfl, (List.forall_mem_cons.mpr ⟨List.mem_of_getElem? (i := 17) rfl, (List.forall_mem_cons.mpr ⟨List.mem_of_getElem? (i := 18) rfl, (List.forall_mem_cons.mpr ⟨List.mem_of_getElem? (i := 19) rfl, (List.forall_mem_cons.mpr ⟨List.mem_of_getElem? (i := 20) rfl, (fun _ h => absurd h List.not_mem_nil)⟩)⟩)⟩)⟩)⟩)⟩)⟩)⟩)⟩)⟩)⟩) q hq)⟩
            ·
              refine y_aload hM hl 15 rfl dL_law_1102 ?_
              refine y_iload hM hl 3 rfl dL_law_1104 ?_
              refine y_iconst hM dL_law_1106 ?_
              refine y_iadd hM dL_law_1107 ?_
              refine y_aload hM hl 12 rfl dL_law_1108 ?_
              refine y_iconst hM dL_law_1110 ?_
              refine y_iald hM hC hLK.2.2.2.2.2.2 rfl ⟨by omega, by omega⟩ (by decide) (x := T 0 0 5) (by rw [show ((3 : Int)).toNat = 3 from rfl, hg3]) dL_law_1111 ?_
              refine y_iast hM hC hLK.2.2.2.1 (fun _ _ => rfl) ⟨by omega, by omega⟩ (by decide) dL_law_1112 (fun H locs hC => ?_)
              rw [show (((9) * (((k : Nat) : Int))) + (5) : Int).toNat = 9 * k + 5 from by omega] at hC
              refine y_aload hM hl 15 rfl dL_law_1113 ?_
              refine y_iload hM hl 3 rfl dL_law_1115 ?_
              refine y_bipush hM dL_law_1117 (by decide) ?_
              refine y_iadd hM dL_law_1119 ?_
              refine y_iload hM hl 2 rfl dL_law_1120 ?_
              refine y_iast hM hC hLK.2.2.2.1 (fun _ _ => rfl) ⟨by omega, by omega⟩ (by decide) dL_law_1122 (fun H locs hC => ?_)
              rw [show (((9) * (((k : Nat) : Int))) + (7) : Int).toNat = 9 * k + 7 from by omega] at hC
              refine lv_goto (tgt := 1500) hM.1 hM.2.1 dL_law_1123 (by decide) ?_
              refine y_aload hM hl 15 rfl dL_law_1500 ?_
              refine y_iload hM hl 3 rfl dL_law_1502 ?_
              refine y_iconst hM dL_law_1504 ?_
              refine y_iadd hM dL_law_1505 ?_
              refine lv_dup2_11 hM.1 hM.2.1 dL_law_1506 rfl rfl ?_
              refine y_iald hM hC hLK.2.2.2.1 rfl ⟨by omega, by omega⟩ (by decide) (x := T 11 k 3) (by rw [show (((9) * (((k : Nat) : Int))) + (3) : Int).toNat = 9 * k + 3 from by omega, up_of (by omega), up_of (by omega), ho.2.2.2.1]) dL_law_1507 ?_
              refine y_iconst hM dL_law_1508 ?_
              refine y_iadd hM dL_law_1509 ?_
              refine y_iast hM hC hLK.2.2.2.1 (fun _ _ => rfl) ⟨by omega, by omega⟩ (by decide) dL_law_1510 (fun H locs hC => ?_)
              rw [show (((9) * (((k : Nat) : Int))) + (3) : Int).toNat = 9 * k + 3 from by omega] at hC
              refine y_iload hM hl 4 rfl dL_law_1511 ?_
              refine y_if_eq hM (by constructor <;> omega) (tgt := 1525) dL_law_1513 (by decide) (fun c_1513 => False.elim (by omega)) (fun c_1513 => ?_)
              obtain ⟨T1, hT1⟩ : ∃ X : TT, X = (up (up (up T 53 0 (9 * k + 5) (T 0 0 5)) 53 0 (9 * k + 7) (lateT T k (T 0 0 5))) 53 0 (9 * k + 3) ((T 11 k 3) + (1))) := ⟨_, rfl⟩
              rw [← hT1] at hC
              have hlo : LoE T1 T := by
                rw [hT1]
                exact (((LoE.r.hi (by decide)).hi (by decide)).hi (by decide))
              obtain ⟨hCK1, hNC1, hR1, hz1⟩ := hI.mid hlo
              obtain ⟨hF1, hRK1, hSK1, hOK1, hKF1, hLK1⟩ := id hCK1
              obtain ⟨hRN1, hDN1, hSN1, hON1, -, -, -⟩ := id hNC1
              have h05 : T1 0 0 5 = T 0 0 5 := by rw [hz1]
              have h06 : T1 0 0 6 = T 0 0 6 := by rw [hz1]
              have h07 : T1 0 0 7 = T 0 0 7 := by rw [hz1]
              have h08 : T1 0 0 8 = T 0 0 8 := by rw [hz1]
              obtain ⟨m1, m2, m3, m4⟩ := stp_mid hlo k 1
              refine y_aload_n hM hl 19 rfl rfl dL_law_1516 ?_
              refine y_iload hM hl 5 rfl dL_law_1517 ?_
              refine y_callV hM hC (c_force l hfl G b0 ks ad T1 P (((k : Nat) : Int)) ⟨by omega, by omega⟩ hF1 hRK1 hRN1 hDN1 hSK1 hSN1 hOK1 hON1) (cwV 1 hM.2.2.2.2 gL_law_X3_force rfl rfl rfl (by decide +kernel) ⟨(Nat.le_of_ble_eq_true rfl), (Nat.le_of_ble_eq_true rfl)⟩) (y_recv hC hF1.1 rfl rfl) rfl hl.1 rfl (Nat.le_of_ble_eq_true rfl) dL_law_1519 ⟨(show _ ≤ 602294 by omega), (show _ ≤ 7294300 by omega)⟩ (fun E ce q9 u1 H locs hx hC hce hcv hcl => by
                  obtain ⟨x, rfl, hx, hu⟩ := hx; rw [hu] at hC; clear hu; try dsimp only at hx
                  exact False.elim ((by simp only [Int.toNat_natCast, m1, m2, m3, m4, h08] at hx; omega))) (fun v u1 H locs hp hC => ?_)
              obtain ⟨r_1519, rfl, h_1519, hu⟩ := hp; rw [hu] at hC; clear hu
              try dsimp only at h_1519
              refine W.eq (g2 := F0 m 1522 ls [.int (iI (r_1519))]) rfl ?_
              simp only [Int.toNat_natCast, m3] at h_1519
              rw [Int.toNat_natCast] at hC
              refine lv_goto (tgt := 1531) hM.1 hM.2.1 dL_law_1522 (by decide) ?_
              refine y_iload hM hl 2 rfl dL_law_1531 ?_
              refine y_icmp_eq hM (by constructor <;> omega) (by constructor <;> omega) (tgt := 1538) dL_law_1533 (by decide) (fun c_1533 => ?_) (fun c_1533 => False.elim (by omega))
              refine lv_goto (tgt := 1608) hM.1 hM.2.1 dL_law_1538 (by decide) ?_
              exact kk _ _ _ _ _ _ _ _ ls (by omega) (by omega) hC (op_stp hI hlo hk8 (by omega) (fun q => by omega) (fun r1 n1 => by
                    have h := R2_s0 (k := k) (f := 1) (c := (T 11 k 3) + (1)) r1 n1 (by omega) (by rw [m1]; omega) (by omega)
                    rw [m3, h05] at h
                    exact h.congr LoE.r (by rw [hT1]; exact HiE.r))) ⟨hl.1, hl.2.1, fun q hq => hl.2.2 q ((List.forall_mem_cons.mpr ⟨List.mem_of_getElem? (i := 9) rfl, (List.forall_mem_cons.mpr ⟨List.mem_of_getElem? (i := 11) rfl, (List.forall_mem_cons.mpr ⟨List.mem_of_getElem? (i := 12) rfl, (List.forall_mem_cons.mpr ⟨List.mem_of_getElem? (i := 13) rfl, (List.forall_mem_cons.mpr ⟨List.mem_of_getElem? (i := 14) rfl, (List.forall_mem_cons.mpr ⟨List.mem_of_getElem? (i := 15) rfl, (List.forall_mem_cons.mpr ⟨List.mem_of_getElem? (i := 16) rfl, (List.forall_mem_cons.mpr ⟨List.mem_of_getElem? (i := 17) rfl, (List.forall_mem_cons.mpr ⟨List.mem_of_getElem? (i := 18) rfl, (List.forall_mem_cons.mpr ⟨List.mem_of_getElem? (i := 19) rfl, (List.forall_mem_cons.mpr ⟨List.mem_of_getElem? (i := 20) rfl, (fun _ h => absurd h List.not_mem_nil)⟩)⟩)⟩)⟩)⟩)⟩)⟩)⟩)⟩)⟩)⟩) q hq)⟩
          ·
            have hgn := gotT_nn hRN hDN (k := k) (by omega) (by omega) 1
            have hgl := gotT_le hRN hDN (k := k) (by omega) ⟨by omega, by omega⟩ 1
            have htm := timT_in hRN (k := k) (by omega) (by omega) ⟨by omega, by omega⟩ (T 11 k 5 + lateT T k (T 0 0 5))
            have hovf := hov 1
            have hall : allL T k (lateT T k (T 0 0 5)) = T 11 k 5 + lateT T k (T 0 0 5) := rfl
            rw [hall] at hovf
            have hlkp : 0 < T 11 k 5 + lateT T k (T 0 0 5) → gotT T k 1 < timT T k (T 11 k 5 + lateT T k (T 0 0 5)) → lakT T k (lateT T k (T 0 0 5)) 1 = timT T k (T 11 k 5 + lateT T k (T 0 0 5)) - gotT T k 1 := fun h1 h2 => by
              unfold lakT
              rw [hall, if_pos h1, if_pos h2]
            have hlkz : ¬ (0 < T 11 k 5 + lateT T k (T 0 0 5) ∧ gotT T k 1 < timT T k (T 11 k 5 + lateT T k (T 0 0 5))) → lakT T k (lateT T k (T 0 0 5)) 1 = 0 := fun h => by
              unfold lakT
              rw [hall]
              by_cases h1 : 0 < T 11 k 5 + lateT T k (T 0 0 5)
              · rw [if_pos h1, if_neg (fun h2 => h ⟨h1, h2⟩)]
              · rw [if_neg h1]
            refine y_iload hM hl 4 rfl dL_law_954 ?_
            refine y_if_eq hM (by constructor <;> omega) (tgt := 966) dL_law_956 (by decide) (fun c_956 => False.elim (by omega)) (fun c_956 => ?_)
            refine y_aload hM hl 12 rfl dL_law_959 ?_
            refine y_iconst hM dL_law_961 ?_
            refine y_iald hM hC hLK.2.2.2.2.2.2 rfl ⟨by omega, by omega⟩ (by decide) (x := T 0 0 6) (by rw [show ((4 : Int)).toNat = 4 from rfl, hg4]) dL_law_962 ?_
            refine lv_goto (tgt := 981) hM.1 hM.2.1 dL_law_963 (by decide) ?_
            refine lv_istore (lv' := [(21, .int (iI (T 0 0 6))), (20, .int (iI (T 11 k 3))), (19, .int (iI (0))), (18, .int (iI (lateT T k (T 0 0 5)))), (17, .int (iI ((9) * (((k : Nat) : Int))))), (16, .int (iI (1))), (15, .int (iI (((k : Nat) : Int)))), (14, .int (iI (((sv : Nat) : Int)))), (13, .int (iI (((pv : Nat) : Int)))), (12, .int (iI (kd))), (11, .int (iI (yy))), (10, .int (iI (xx))), (9, .int (iI (((i : Nat) : Int)))), (8, .ref (ad 56 0)), (7, .ref (ad 55 0)), (6, .ref (ad 54 0)), (5, .ref (ad 53 0)), (4, .ref (ad 52 0)), (3, .ref (ad 51 0)), (2, .ref (ad 50 0)), (1, .ref (ad 0 0)), (0, .ref b)]) hM.1 hM.2.1 dL_law_981 hl (by decide) rfl (fun ls hl => ?_)
            refine y_aload hM hl 15 rfl dL_law_983 ?_
            refine y_iconst hM dL_law_985 ?_
            refine y_iload hM hl 6 rfl dL_law_986 ?_
            refine y_imul hM dL_law_988 ?_
            refine y_iconst hM dL_law_989 ?_
            refine y_iadd hM dL_law_990 ?_
            refine y_lald hM hC hLK.2.2.2.2.1 rfl ⟨by omega, by omega⟩ (by decide) (x := T 11 k 8) (by rw [show (((4) * (((k : Nat) : Int))) + (1) : Int).toNat = 4 * k + 1 from by omega, ho.2.2.2.2.2.2.2.2.2.2.2.1]) dL_law_991 ?_
            refine y_ldc2 hM (v := 1000) (1000) (by decide) (by decide +kernel) dL_law_992 ?_
            refine y_lmul hM dL_law_995 ?_
            refine y_iload hM hl 0 rfl dL_law_996 ?_
            refine y_i2l hM (by constructor <;> omega) dL_law_998 ?_
            refine y_ldiv hM ⟨by omega, by omega, by omega, by omega⟩ dL_law_999 ?_
            rw [show ((T 11 k 8) * (1000)) / (T 0 0 6) = gotT T k 1 from (by unfold gotT prF; rw [if_neg (by decide)]; rfl)]
            refine lv_lstore (lv' := [(22, .long (lI (gotT T k 1))), (21, .int (iI (T 0 0 6))), (20, .int (iI (T 11 k 3))), (19, .int (iI (0))), (18, .int (iI (lateT T k (T 0 0 5)))), (17, .int (iI ((9) * (((k : Nat) : Int))))), (16, .int (iI (1))), (15, .int (iI (((k : Nat) : Int)))), (14, .int (iI (((sv : Nat) : Int)))), (13, .int (iI (((pv : Nat) : Int)))), (12, .int (iI (kd))), (11, .int (iI (yy))), (10, .int (iI (xx))), (9, .int (iI (((i : Nat) : Int)))), (8, .ref (ad 56 0)), (7, .ref (ad 55 0)), (6, .ref (ad 54 0)), (5, .ref (ad 53 0)), (4, .ref (ad 52 0)), (3, .ref (ad 51 0)), (2, .ref (ad 50 0)), (1, .ref (ad 0 0)), (0, .ref b)]) hM.1 hM.2.1 dL_law_1000 hl (by decide) rfl (fun ls hl => ?_)
            refine y_aload hM hl 17 rfl dL_law_1002 ?_
            refine y_iload hM hl 5 rfl dL_law_1004 ?_
            refine y_bipush hM dL_law_1006 (by decide) ?_
            refine y_iadd hM dL_law_1008 ?_
            refine y_iald hM hC hLK.2.2.2.1 rfl ⟨by omega, by omega⟩ (by decide) (x := T 53 0 (9 * k + 7)) (by rw [show (((9) * (((k : Nat) : Int))) + (7) : Int).toNat = 9 * k + 7 from by omega]) dL_law_1009 ?_
            refine y_aload hM hl 17 rfl dL_law_1010 ?_
            refine y_iload hM hl 5 rfl dL_law_1012 ?_
            refine y_bipush hM dL_law_1014 (by decide) ?_
            refine y_iadd hM dL_law_1016 ?_
            refine y_iald hM hC hLK.2.2.2.1 rfl ⟨by omega, by omega⟩ (by decide) (x := T 53 0 (9 * k + 8)) (by rw [show (((9) * (((k : Nat) : Int))) + (8) : Int).toNat = 9 * k + 8 from by omega]) dL_law_1017 ?_
            refine y_iadd hM dL_law_1018 ?_
            rw [show (T 53 0 (9 * k + 7)) + (T 53 0 (9 * k + 8)) = T 11 k 5 from (by omega)]
            refine y_iload hM hl 4 rfl dL_law_1019 ?_
            refine y_iadd hM dL_law_1021 ?_
            refine y_if_le hM (by constructor <;> omega) (tgt := 1044) dL_law_1022 (by decide) (fun c_1022 => ?_) (fun c_1022 => ?_)
            ·
              refine y_lconst hM 0 (by decide) dL_law_1044 ?_
              refine lv_lstore (lv' := [(24, .long (lI (0))), (22, .long (lI (gotT T k 1))), (21, .int (iI (T 0 0 6))), (20, .int (iI (T 11 k 3))), (19, .int (iI (0))), (18, .int (iI (lateT T k (T 0 0 5)))), (17, .int (iI ((9) * (((k : Nat) : Int))))), (16, .int (iI (1))), (15, .int (iI (((k : Nat) : Int)))), (14, .int (iI (((sv : Nat) : Int)))), (13, .int (iI (((pv : Nat) : Int)))), (12, .int (iI (kd))), (11, .int (iI (yy))), (10, .int (iI (xx))), (9, .int (iI (((i : Nat) : Int)))), (8, .ref (ad 56 0)), (7, .ref (ad 55 0)), (6, .ref (ad 54 0)), (5, .ref (ad 53 0)), (4, .ref (ad 52 0)), (3, .ref (ad 51 0)), (2, .ref (ad 50 0)), (1, .ref (ad 0 0)), (0, .ref b)]) hM.1 hM.2.1 dL_law_1045 hl (by decide) rfl (fun ls hl => ?_)
              refine y_lload hM hl 1 rfl dL_law_1047 ?_
              refine y_ldc2 hM (v := 100000000) (100000000) (by decide) (by decide +kernel) dL_law_1049 ?_
              refine y_lcmp hM (by constructor <;> omega) (by constructor <;> omega) dL_law_1052 ?_
              have hcl_1052 := cmpI_le (gotT T k 1) (100000000)
              have hcg_1052 := cmpI_gt (gotT T k 1) (100000000)
              have hce_1052 := cmpI_eq (gotT T k 1) (100000000)
              refine y_if_gt hM (cmpI_in _ _) (tgt := 1065) dL_law_1053 (by decide) (fun c_1053 => ?_) (fun c_1053 => ?_)
              ·
                refine y_iconst hM dL_law_1065 ?_
                refine lv_istore (lv' := [(19, .int (iI (3))), (24, .long (lI (0))), (22, .long (lI (gotT T k 1))), (21, .int (iI (T 0 0 6))), (20, .int (iI (T 11 k 3))), (18, .int (iI (lateT T k (T 0 0 5)))), (17, .int (iI ((9) * (((k : Nat) : Int))))), (16, .int (iI (1))), (15, .int (iI (((k : Nat) : Int)))), (14, .int (iI (((sv : Nat) : Int)))), (13, .int (iI (((pv : Nat) : Int)))), (12, .int (iI (kd))), (11, .int (iI (yy))), (10, .int (iI (xx))), (9, .int (iI (((i : Nat) : Int)))), (8, .ref (ad 56 0)), (7, .ref (ad 55 0)), (6, .ref (ad 54 0)), (5, .ref (ad 53 0)), (4, .ref (ad 52 0)), (3, .ref (ad 51 0)), (2, .ref (ad 50 0)), (1, .ref (ad 0 0)), (0, .ref b)]) hM.1 hM.2.1 dL_law_1066 hl (by decide) rfl (fun ls hl => ?_)
                refine y_iload hM hl 0 rfl dL_law_1068 ?_
                refine y_if_le hM (by constructor <;> omega) (tgt := 1097) dL_law_1070 (by decide) (fun c_1070 => False.elim (by omega)) (fun c_1070 => ?_)
                refine y_aload_n hM hl 22 rfl rfl dL_law_1073 ?_
                refine y_iload hM hl 7 rfl dL_law_1074 ?_
                refine y_if_eq hM (by constructor <;> omega) (tgt := 1083) dL_law_1076 (by decide) (fun c_1076 => False.elim (by omega)) (fun c_1076 => ?_)
                refine y_iconst hM dL_law_1079 ?_
                refine lv_goto (tgt := 1084) hM.1 hM.2.1 dL_law_1080 (by decide) ?_
                refine y_iload hM hl 8 rfl dL_law_1084 ?_
                refine y_iconst hM dL_law_1086 ?_
                refine y_callSX hM hN hC (c_ref_force l hfl G b0 ks ad T P (((k : Nat) : Int)) (0) ⟨by omega, by omega⟩ ⟨by omega, by omega⟩ hF hRK hRN hDN hSK hSN hOK hON (by simp only [Int.toNat_natCast]; omega)) (vx_cwSW 4 hM.2.2.2.2 gL_law_L_refused rfl rfl rfl (by decide +kernel) ⟨(Nat.le_of_ble_eq_true rfl), (Nat.le_of_ble_eq_true rfl)⟩) rfl hl.1 rfl (Nat.le_of_ble_eq_true rfl) dL_law_1087 ⟨(show _ ≤ 602294 by omega), (show _ ≤ 7294300 by omega)⟩ (fun E ce q9 u1 H locs hx hC hce hcv hcl => hx.elim) (fun v u1 H locs hp hC => ?_)
                obtain ⟨r_1087, rfl, h_1087, hu⟩ := hp; rw [hu] at hC; clear hu
                try dsimp only at h_1087
                refine W.eq (g2 := F0 m 1090 ls [.int (iI (r_1087))]) rfl ?_
                refine y_iload hM hl 0 rfl dL_law_1090 ?_
                refine y_icmp_eq hM (by constructor <;> omega) (by constructor <;> omega) (tgt := 1643) dL_law_1092 (by decide) (fun c_1092 => ?_) (fun c_1092 => False.elim (by omega))
                exact kn _ _ _ _ _ _ _ _ ls (by omega) (by omega) hC hI ⟨hl.1, hl.2.1, fun q hq => hl.2.2 q ((List.forall_mem_cons.mpr ⟨List.mem_of_getElem? (i := 14) rfl, (List.forall_mem_cons.mpr ⟨List.mem_of_getElem? (i := 15) rfl, (List.forall_mem_cons.mpr ⟨List.mem_of_getElem? (i := 16) rfl, (List.forall_mem_cons.mpr ⟨List.mem_of_getElem? (i := 17) rfl, (List.forall_mem_cons.mpr ⟨List.mem_of_getElem? (i := 18) rfl, (List.forall_mem_cons.mpr ⟨List.mem_of_getElem? (i := 19) rfl, (List.forall_mem_cons.mpr ⟨List.mem_of_getElem? (i := 20) rfl, (List.forall_mem_cons.mpr ⟨List.mem_of_getElem? (i := 21) rfl, (List.forall_mem_cons.mpr ⟨List.mem_of_getElem? (i := 22) rfl, (List.forall_mem_cons.mpr ⟨List.mem_of_getElem? (i := 23) rfl, (fun _ h => absurd h List.not_mem_nil)⟩)⟩)⟩)⟩)⟩)⟩)⟩)⟩)⟩)⟩) q hq)⟩
              ·
                refine y_lload hM hl 0 rfl dL_law_1056 ?_
                refine y_ldc2 hM (v := 100000000) (100000000) (by decide) (by decide +kernel) dL_law_1058 ?_
                refine y_lcmp hM (by constructor <;> omega) (by constructor <;> omega) dL_law_1061 ?_
                have hcl_1061 := cmpI_le (0) (100000000)
                have hcg_1061 := cmpI_gt (0) (100000000)
                have hce_1061 := cmpI_eq (0) (100000000)
                refine y_if_le hM (cmpI_in _ _) (tgt := 1068) dL_law_1062 (by decide) (fun c_1062 => ?_) (fun c_1062 => False.elim (by omega))
                refine y_iload hM hl 4 rfl dL_law_1068 ?_
                refine y_if_le hM (by constructor <;> omega) (tgt := 1097) dL_law_1070 (by decide) (fun c_1070 => ?_) (fun c_1070 => False.elim (by omega))
                refine y_iload hM hl 3 rfl dL_law_1097 ?_
                refine y_if_ne hM (by constructor <;> omega) (tgt := 1126) dL_law_1099 (by decide) (fun c_1099 => ?_) (fun c_1099 => False.elim (by omega))
                refine y_iload hM hl 3 rfl dL_law_1126 ?_
                refine y_iconst hM dL_law_1128 ?_
                refine y_icmp_ne hM (by constructor <;> omega) (by constructor <;> omega) (tgt := 1231) dL_law_1129 (by decide) (fun c_1129 => ?_) (fun c_1129 => False.elim (by omega))
                refine y_aload hM hl 17 rfl dL_law_1231 ?_
                refine y_iconst hM dL_law_1233 ?_
                refine y_iload hM hl 8 rfl dL_law_1234 ?_
                refine y_imul hM dL_law_1236 ?_
                refine y_iconst hM dL_law_1237 ?_
                refine y_iadd hM dL_law_1238 ?_
                refine y_lald hM hC hLK.2.2.2.2.1 rfl ⟨by omega, by omega⟩ (by decide) (x := T 11 k 8) (by rw [show (((4) * (((k : Nat) : Int))) + (1) : Int).toNat = 4 * k + 1 from by omega, ho.2.2.2.2.2.2.2.2.2.2.2.1]) dL_law_1239 ?_
                refine y_ldc2 hM (v := 1000) (1000) (by decide) (by decide +kernel) dL_law_1240 ?_
                refine y_lmul hM dL_law_1243 ?_
                refine y_iload hM hl 7 rfl dL_law_1244 ?_
                refine y_if_eq hM (by constructor <;> omega) (tgt := 1256) dL_law_1246 (by decide) (fun c_1246 => False.elim (by omega)) (fun c_1246 => ?_)
                refine y_aload hM hl 15 rfl dL_law_1249 ?_
                refine y_iconst hM dL_law_1251 ?_
                refine y_iald hM hC hLK.2.2.2.2.2.2 rfl ⟨by omega, by omega⟩ (by decide) (x := T 0 0 6) (by rw [show ((4 : Int)).toNat = 4 from rfl, hg4]) dL_law_1252 ?_
                refine lv_goto (tgt := 1271) hM.1 hM.2.1 dL_law_1253 (by decide) ?_
                refine y_i2l hM (by constructor <;> omega) dL_law_1271 ?_
                refine y_ldiv hM ⟨by omega, by omega, by omega, by omega⟩ dL_law_1272 ?_
                rw [show ((T 11 k 8) * (1000)) / (T 0 0 6) = gotT T k 1 from (by unfold gotT prF; rw [if_neg (by decide)]; rfl)]
                refine lv_lstore (lv' := [(21, .long (lI (gotT T k 1))), (24, .long (lI (0))), (20, .int (iI (T 11 k 3))), (19, .int (iI (0))), (18, .int (iI (lateT T k (T 0 0 5)))), (17, .int (iI ((9) * (((k : Nat) : Int))))), (16, .int (iI (1))), (15, .int (iI (((k : Nat) : Int)))), (14, .int (iI (((sv : Nat) : Int)))), (13, .int (iI (((pv : Nat) : Int)))), (12, .int (iI (kd))), (11, .int (iI (yy))), (10, .int (iI (xx))), (9, .int (iI (((i : Nat) : Int)))), (8, .ref (ad 56 0)), (7, .ref (ad 55 0)), (6, .ref (ad 54 0)), (5, .ref (ad 53 0)), (4, .ref (ad 52 0)), (3, .ref (ad 51 0)), (2, .ref (ad 50 0)), (1, .ref (ad 0 0)), (0, .ref b)]) hM.1 hM.2.1 dL_law_1273 hl (by decide) rfl (fun ls hl => ?_)
                refine y_aload hM hl 17 rfl dL_law_1275 ?_
                refine y_iload hM hl 5 rfl dL_law_1277 ?_
                refine y_bipush hM dL_law_1279 (by decide) ?_
                refine y_iadd hM dL_law_1281 ?_
                refine y_iald hM hC hLK.2.2.2.1 rfl ⟨by omega, by omega⟩ (by decide) (x := T 53 0 (9 * k + 7)) (by rw [show (((9) * (((k : Nat) : Int))) + (7) : Int).toNat = 9 * k + 7 from by omega]) dL_law_1282 ?_
                refine y_aload hM hl 17 rfl dL_law_1283 ?_
                refine y_iload hM hl 5 rfl dL_law_1285 ?_
                refine y_bipush hM dL_law_1287 (by decide) ?_
                refine y_iadd hM dL_law_1289 ?_
                refine y_iald hM hC hLK.2.2.2.1 rfl ⟨by omega, by omega⟩ (by decide) (x := T 53 0 (9 * k + 8)) (by rw [show (((9) * (((k : Nat) : Int))) + (8) : Int).toNat = 9 * k + 8 from by omega]) dL_law_1290 ?_
                refine y_iadd hM dL_law_1291 ?_
                rw [show (T 53 0 (9 * k + 7)) + (T 53 0 (9 * k + 8)) = T 11 k 5 from (by omega)]
                refine lv_istore (lv' := [(23, .int (iI (T 11 k 5))), (21, .long (lI (gotT T k 1))), (24, .long (lI (0))), (20, .int (iI (T 11 k 3))), (19, .int (iI (0))), (18, .int (iI (lateT T k (T 0 0 5)))), (17, .int (iI ((9) * (((k : Nat) : Int))))), (16, .int (iI (1))), (15, .int (iI (((k : Nat) : Int)))), (14, .int (iI (((sv : Nat) : Int)))), (13, .int (iI (((pv : Nat) : Int)))), (12, .int (iI (kd))), (11, .int (iI (yy))), (10, .int (iI (xx))), (9, .int (iI (((i : Nat) : Int)))), (8, .ref (ad 56 0)), (7, .ref (ad 55 0)), (6, .ref (ad 54 0)), (5, .ref (ad 53 0)), (4, .ref (ad 52 0)), (3, .ref (ad 51 0)), (2, .ref (ad 50 0)), (1, .ref (ad 0 0)), (0, .ref b)]) hM.1 hM.2.1 dL_law_1292 hl (by decide) rfl (fun ls hl => ?_)
                refine y_iload hM hl 0 rfl dL_law_1294 ?_
                refine y_iload hM hl 5 rfl dL_law_1296 ?_
                refine y_iadd hM dL_law_1298 ?_
                refine y_if_le hM (by constructor <;> omega) (tgt := 1321) dL_law_1299 (by decide) (fun c_1299 => ?_) (fun c_1299 => False.elim (by omega))
                refine y_lconst hM 0 (by decide) dL_law_1321 ?_
                refine lv_lstore (lv' := [(24, .long (lI (0))), (23, .int (iI (T 11 k 5))), (21, .long (lI (gotT T k 1))), (20, .int (iI (T 11 k 3))), (19, .int (iI (0))), (18, .int (iI (lateT T k (T 0 0 5)))), (17, .int (iI ((9) * (((k : Nat) : Int))))), (16, .int (iI (1))), (15, .int (iI (((k : Nat) : Int)))), (14, .int (iI (((sv : Nat) : Int)))), (13, .int (iI (((pv : Nat) : Int)))), (12, .int (iI (kd))), (11, .int (iI (yy))), (10, .int (iI (xx))), (9, .int (iI (((i : Nat) : Int)))), (8, .ref (ad 56 0)), (7, .ref (ad 55 0)), (6, .ref (ad 54 0)), (5, .ref (ad 53 0)), (4, .ref (ad 52 0)), (3, .ref (ad 51 0)), (2, .ref (ad 50 0)), (1, .ref (ad 0 0)), (0, .ref b)]) hM.1 hM.2.1 dL_law_1322 hl (by decide) rfl (fun ls hl => ?_)
                refine y_lload hM hl 0 rfl dL_law_1324 ?_
                refine y_lload hM hl 2 rfl dL_law_1326 ?_
                refine y_lcmp hM (by constructor <;> omega) (by constructor <;> omega) dL_law_1328 ?_
                have hcl_1328 := cmpI_le (0) (gotT T k 1)
                have hcg_1328 := cmpI_gt (0) (gotT T k 1)
                have hce_1328 := cmpI_eq (0) (gotT T k 1)
                refine y_if_le hM (cmpI_in _ _) (tgt := 1437) dL_law_1329 (by decide) (fun c_1329 => ?_) (fun c_1329 => False.elim (by omega))
                refine y_aload hM hl 19 rfl dL_law_1437 ?_
                refine y_aload hM hl 18 rfl dL_law_1439 ?_
                refine y_iload hM hl 6 rfl dL_law_1441 ?_
                refine y_iald hM hC hLK.2.2.2.1 rfl ⟨by omega, by omega⟩ (by decide) (x := ((mv : Nat) : Int)) (by rw [show ((9) * (((k : Nat) : Int)) : Int).toNat = 9 * k from by omega, hmv0]) dL_law_1443 ?_
                refine y_lload hM hl 0 rfl dL_law_1444 ?_
                refine y_lload hM hl 2 rfl dL_law_1446 ?_
                refine y_lcmp hM (by constructor <;> omega) (by constructor <;> omega) dL_law_1448 ?_
                have hcl_1448 := cmpI_le (0) (gotT T k 1)
                have hcg_1448 := cmpI_gt (0) (gotT T k 1)
                have hce_1448 := cmpI_eq (0) (gotT T k 1)
                refine y_if_le hM (cmpI_in _ _) (tgt := 1457) dL_law_1449 (by decide) (fun c_1449 => ?_) (fun c_1449 => False.elim (by omega))
                refine y_lload hM hl 2 rfl dL_law_1457 ?_
                refine y_last hM hC hLK.2.2.1 (fun _ _ => rfl) ⟨by omega, by omega⟩ (by decide) dL_law_1459 (fun H locs hC => ?_)
                rw [show (((mv : Nat) : Int) : Int).toNat = mv from by omega] at hC
                refine y_aload_n hM hl 20 rfl rfl dL_law_1460 ?_
                refine y_iconst hM dL_law_1461 ?_
                refine y_aload hM hl 18 rfl dL_law_1462 ?_
                refine y_iload hM hl 6 rfl dL_law_1464 ?_
                refine y_iald hM hC hLK.2.2.2.1 rfl ⟨by omega, by omega⟩ (by decide) (x := ((mv : Nat) : Int)) (by rw [show ((9) * (((k : Nat) : Int)) : Int).toNat = 9 * k from by omega, up_of (by omega), hmv0]) dL_law_1466 ?_
                refine y_imul hM dL_law_1467 ?_
                refine y_aload hM hl 18 rfl dL_law_1468 ?_
                refine y_iload hM hl 6 rfl dL_law_1470 ?_
                refine y_iconst hM dL_law_1472 ?_
                refine y_iadd hM dL_law_1473 ?_
                refine y_iald hM hC hLK.2.2.2.1 rfl ⟨by omega, by omega⟩ (by decide) (x := T 11 k 2) (by rw [show (((9) * (((k : Nat) : Int))) + (2) : Int).toNat = 9 * k + 2 from by omega, up_of (by omega), ho.2.2.1]) dL_law_1474 ?_
                refine y_iast hM hC hLK.2.1 (fun _ _ => rfl) ⟨by omega, by omega⟩ (by decide) dL_law_1475 (fun H locs hC => ?_)
                rw [show ((2) * (((mv : Nat) : Int)) : Int).toNat = 2 * mv from by omega] at hC
                refine y_aload_n hM hl 20 rfl rfl dL_law_1476 ?_
                refine y_iconst hM dL_law_1477 ?_
                refine y_aload hM hl 18 rfl dL_law_1478 ?_
                refine y_iload hM hl 6 rfl dL_law_1480 ?_
                refine y_iald hM hC hLK.2.2.2.1 rfl ⟨by omega, by omega⟩ (by decide) (x := ((mv : Nat) : Int)) (by rw [show ((9) * (((k : Nat) : Int)) : Int).toNat = 9 * k from by omega, up_of (by omega), up_of (by omega), hmv0]) dL_law_1482 ?_
                refine y_imul hM dL_law_1483 ?_
                refine y_iconst hM dL_law_1484 ?_
                refine y_iadd hM dL_law_1485 ?_
                refine y_iconst hM dL_law_1486 ?_
                refine y_iast hM hC hLK.2.1 (fun _ _ => rfl) ⟨by omega, by omega⟩ (by decide) dL_law_1487 (fun H locs hC => ?_)
                rw [show (((2) * (((mv : Nat) : Int))) + (1) : Int).toNat = 2 * mv + 1 from by omega] at hC
                refine y_aload hM hl 17 rfl dL_law_1488 ?_
                refine y_iconst hM dL_law_1490 ?_
                refine y_iload hM hl 8 rfl dL_law_1491 ?_
                refine y_imul hM dL_law_1493 ?_
                refine y_iconst hM dL_law_1494 ?_
                refine y_iadd hM dL_law_1495 ?_
                refine y_iload hM hl 5 rfl dL_law_1496 ?_
                refine y_i2l hM (by constructor <;> omega) dL_law_1498 ?_
                refine y_last hM hC hLK.2.2.2.2.1 (fun _ _ => rfl) ⟨by omega, by omega⟩ (by decide) dL_law_1499 (fun H locs hC => ?_)
                rw [show (((4) * (((k : Nat) : Int))) + (3) : Int).toNat = 4 * k + 3 from by omega] at hC
                refine y_aload hM hl 18 rfl dL_law_1500 ?_
                refine y_iload hM hl 6 rfl dL_law_1502 ?_
                refine y_iconst hM dL_law_1504 ?_
                refine y_iadd hM dL_law_1505 ?_
                refine lv_dup2_11 hM.1 hM.2.1 dL_law_1506 rfl rfl ?_
                refine y_iald hM hC hLK.2.2.2.1 rfl ⟨by omega, by omega⟩ (by decide) (x := T 11 k 3) (by rw [show (((9) * (((k : Nat) : Int))) + (3) : Int).toNat = 9 * k + 3 from by omega, up_of (by omega), up_of (by omega), up_of (by omega), up_of (by omega), ho.2.2.2.1]) dL_law_1507 ?_
                refine y_iconst hM dL_law_1508 ?_
                refine y_iadd hM dL_law_1509 ?_
                refine y_iast hM hC hLK.2.2.2.1 (fun _ _ => rfl) ⟨by omega, by omega⟩ (by decide) dL_law_1510 (fun H locs hC => ?_)
                rw [show (((9) * (((k : Nat) : Int))) + (3) : Int).toNat = 9 * k + 3 from by omega] at hC
                refine y_iload hM hl 7 rfl dL_law_1511 ?_
                refine y_if_eq hM (by constructor <;> omega) (tgt := 1525) dL_law_1513 (by decide) (fun c_1513 => False.elim (by omega)) (fun c_1513 => ?_)
                obtain ⟨T1, hT1⟩ : ∃ X : TT, X = (up (up (up (up (up T 52 0 (mv) (gotT T k 1)) 51 0 (2 * mv) (T 11 k 2)) 51 0 (2 * mv + 1) (0)) 54 0 (4 * k + 3) (lateT T k (T 0 0 5))) 53 0 (9 * k + 3) ((T 11 k 3) + (1))) := ⟨_, rfl⟩
                rw [← hT1] at hC
                have hlo : LoE T1 T := by
                  rw [hT1]
                  exact (((((LoE.r.hi (by decide)).hi (by decide)).hi (by decide)).hi (by decide)).hi (by decide))
                obtain ⟨hCK1, hNC1, hR1, hz1⟩ := hI.mid hlo
                obtain ⟨hF1, hRK1, hSK1, hOK1, hKF1, hLK1⟩ := id hCK1
                obtain ⟨hRN1, hDN1, hSN1, hON1, -, -, -⟩ := id hNC1
                have h05 : T1 0 0 5 = T 0 0 5 := by rw [hz1]
                have h06 : T1 0 0 6 = T 0 0 6 := by rw [hz1]
                have h07 : T1 0 0 7 = T 0 0 7 := by rw [hz1]
                have h08 : T1 0 0 8 = T 0 0 8 := by rw [hz1]
                obtain ⟨m1, m2, m3, m4⟩ := stp_mid hlo k 1
                refine y_aload_n hM hl 22 rfl rfl dL_law_1516 ?_
                refine y_iload hM hl 8 rfl dL_law_1517 ?_
                refine y_callV hM hC (c_force l hfl G b0 ks ad T1 P (((k : Nat) : Int)) ⟨by omega, by omega⟩ hF1 hRK1 hRN1 hDN1 hSK1 hSN1 hOK1 hON1) (cwV 1 hM.2.2.2.2 gL_law_X3_force rfl rfl rfl (by decide +kernel) ⟨(Nat.le_of_ble_eq_true rfl), (Nat.le_of_ble_eq_true rfl)⟩) (y_recv hC hF1.1 rfl rfl) rfl hl.1 rfl (Nat.le_of_ble_eq_true rfl) dL_law_1519 ⟨(show _ ≤ 602294 by omega), (show _ ≤ 7294300 by omega)⟩ (fun E ce q9 u1 H locs hx hC hce hcv hcl => by
                    obtain ⟨x, rfl, hx, hu⟩ := hx; rw [hu] at hC; clear hu; try dsimp only at hx
                    exact False.elim ((by simp only [Int.toNat_natCast, m1, m2, m3, m4, h08] at hx; omega))) (fun v u1 H locs hp hC => ?_)
                obtain ⟨r_1519, rfl, h_1519, hu⟩ := hp; rw [hu] at hC; clear hu
                try dsimp only at h_1519
                refine W.eq (g2 := F0 m 1522 ls [.int (iI (r_1519))]) rfl ?_
                simp only [Int.toNat_natCast, m3] at h_1519
                rw [Int.toNat_natCast] at hC
                refine lv_goto (tgt := 1531) hM.1 hM.2.1 dL_law_1522 (by decide) ?_
                refine y_iload hM hl 5 rfl dL_law_1531 ?_
                refine y_icmp_eq hM (by constructor <;> omega) (by constructor <;> omega) (tgt := 1538) dL_law_1533 (by decide) (fun c_1533 => ?_) (fun c_1533 => False.elim (by omega))
                refine lv_goto (tgt := 1608) hM.1 hM.2.1 dL_law_1538 (by decide) ?_
                exact kk _ _ _ _ _ _ _ _ ls (by omega) (by omega) hC (op_stp hI hlo hk8 (by omega) (fun _ => by omega) (fun r1 n1 => by
                      have hlk := hlkz (by omega)
                      have emv : mv = mvT T1 k := by rw [mvT_lo hlo]; exact hmv
                      have e0 : ∀ lb, allL T1 k lb = allL T k lb := fun lb => by unfold allL; rw [m1]
                      have e9 : ∀ p, T1 9 p = T 9 p := fun p => hlo 9 p (by omega)
                      have e3 : T1 3 0 = T 3 0 := hlo 3 0 (by omega)
                      refine R2_s2 (M := T) (M' := T1) (k := k) (i := mv) (f := 1) r1 n1 (by omega) ⟨emv, by omega⟩ (by rw [m1]; omega) ?_ ?_ ?_ ?_ ?_ ?_ ?_ ?_ ?_ ?_ ?_ ?_ ?_ ?_
                      · intro j hj
                        rw [hT1, up_of (by omega), up_of (by omega), up_of (by omega), up_of (by omega), up_of (by omega)]
                      · rw [hT1, up_at rfl]
                        omega
                      · intro j hj1 hj2
                        rw [hT1, up_of (by omega), up_of (by omega), up_of (by omega), up_of (by omega), up_of (by omega)]
                      · rw [m3, m4, hlk]
                        rw [hT1, up_of (by omega), up_of (by omega), up_of (by omega), up_of (by omega), up_of (by omega)]
                        have h9 := ho.2.2.2.2.2.2.2.2.2.2.2.2.1
                        have h15 := ho.2.2.2.2.2.2.2.2.2.2.2.2.2.2 (by omega)
                        omega
                      · rw [m3]
                        rw [hT1, up_of (by omega), up_at rfl]
                      · intro j hj
                        rw [hT1, up_of (by omega), up_of (by omega), up_of (by omega), up_of (by omega), up_of (by omega)]
                      · rw [m2, m3, m4, hlk]
                        rw [hT1, up_of (by omega), up_of (by omega), up_of (by omega), up_of (by omega), up_at rfl]
                        try omega
                      · intro j hj1 hj2
                        rw [hT1, up_of (by omega), up_of (by omega), up_of (by omega), up_of (by omega), up_of (by omega)]
                      · rw [m1]
                        rw [hT1, up_of (by omega), up_of (by omega), up_of (by omega), up_at rfl]
                      · rw [hT1, up_of (by omega), up_of (by omega), up_at rfl]
                      · intro p q hp hq
                        rw [buyT_9, e0, m3, m4, m1, e9, hlk, coF_0, Int.zero_mul, Int.zero_ediv, ite_self, ite_self, hT1, up_of (by omega), up_of (by omega), up_of (by omega), up_of (by omega), up_of (by omega), hRD.1 p q hp hq]
                        omega
                      · intro p hp
                        rw [buyT_r, e0, m3, m4, m1, e3, hlk, coF_0, Int.zero_mul, Int.zero_ediv, Int.sub_zero, ite_self, ite_self, hT1, up_of (by omega), up_of (by omega), up_of (by omega), up_of (by omega), up_of (by omega), hRD.2 p hp]
                        omega
                      · funext j
                        rw [hT1, up_of (by omega), up_of (by omega), up_of (by omega), up_of (by omega), up_of (by omega)]
                      · funext j
                        rw [hT1, up_of (by omega), up_of (by omega), up_of (by omega), up_of (by omega), up_of (by omega)])) ⟨hl.1, hl.2.1, fun q hq => hl.2.2 q ((List.forall_mem_cons.mpr ⟨List.mem_of_getElem? (i := 12) rfl, (List.forall_mem_cons.mpr ⟨List.mem_of_getElem? (i := 14) rfl, (List.forall_mem_cons.mpr ⟨List.mem_of_getElem? (i := 15) rfl, (List.forall_mem_cons.mpr ⟨List.mem_of_getElem? (i := 16) rfl, (List.forall_mem_cons.mpr ⟨List.mem_of_getElem? (i := 17) rfl, (List.forall_mem_cons.mpr ⟨List.mem_of_getElem? (i := 18) rfl, (List.forall_mem_cons.mpr ⟨List.mem_of_getElem? (i := 19) rfl, (List.forall_mem_cons.mpr ⟨List.mem_of_getElem? (i := 20) rfl, (List.forall_mem_cons.mpr ⟨List.mem_of_getElem? (i := 21) rfl, (List.forall_mem_cons.mpr ⟨List.mem_of_getElem? (i := 22) rfl, (List.forall_mem_cons.mpr ⟨List.mem_of_getElem? (i := 23) rfl, (fun _ h => absurd h List.not_mem_nil)⟩)⟩)⟩)⟩)⟩)⟩)⟩)⟩)⟩)⟩)⟩) q hq)⟩
            ·
              refine y_aload_n hM hl 20 rfl rfl dL_law_1025 ?_
              refine y_aload hM hl 17 rfl dL_law_1026 ?_
              refine y_aload hM hl 16 rfl dL_law_1028 ?_
              refine y_iload hM hl 7 rfl dL_law_1030 ?_
              refine y_aload hM hl 14 rfl dL_law_1032 ?_
              refine y_iconst hM dL_law_1034 ?_
              refine y_iald hM hC hLK.2.2.2.2.2.2 rfl ⟨by omega, by omega⟩ (by decide) (x := T 0 0 5) (by rw [show ((3 : Int)).toNat = 3 from rfl, hg3]) dL_law_1035 ?_
              refine y_iload hM hl 4 rfl dL_law_1036 ?_
              refine y_callS hM hC (c_L_timely l hfl G b0 ks ad T P (k) hk8 (lateT T k (T 0 0 5)) ⟨by omega, by omega⟩ (by omega) hLK hNC hR) (va_cwS 6 hM.2.2.2.2 gL_law_L_timely rfl rfl rfl (by decide +kernel) ⟨(Nat.le_of_ble_eq_true rfl), (Nat.le_of_ble_eq_true rfl)⟩) rfl hl.1 rfl (Nat.le_of_ble_eq_true rfl) dL_law_1038 ⟨(show _ ≤ 602294 by omega), (show _ ≤ 7294300 by omega)⟩ (fun E ce q9 u1 H locs hx hC hce hcv hcl => hx.elim) (fun v u1 H locs hp hC => ?_)
              obtain ⟨r_1038, rfl, h_1038, hu⟩ := hp; rw [hu] at hC; clear hu
              try dsimp only at h_1038
              refine W.eq (g2 := F0 m 1041 ls [.long (lI (r_1038))]) rfl ?_
              subst h_1038
              refine lv_goto (tgt := 1045) hM.1 hM.2.1 dL_law_1041 (by decide) ?_
              refine lv_lstore (lv' := [(24, .long (lI (timT T k (T 11 k 5 + lateT T k (T 0 0 5))))), (22, .long (lI (gotT T k 1))), (21, .int (iI (T 0 0 6))), (20, .int (iI (T 11 k 3))), (19, .int (iI (0))), (18, .int (iI (lateT T k (T 0 0 5)))), (17, .int (iI ((9) * (((k : Nat) : Int))))), (16, .int (iI (1))), (15, .int (iI (((k : Nat) : Int)))), (14, .int (iI (((sv : Nat) : Int)))), (13, .int (iI (((pv : Nat) : Int)))), (12, .int (iI (kd))), (11, .int (iI (yy))), (10, .int (iI (xx))), (9, .int (iI (((i : Nat) : Int)))), (8, .ref (ad 56 0)), (7, .ref (ad 55 0)), (6, .ref (ad 54 0)), (5, .ref (ad 53 0)), (4, .ref (ad 52 0)), (3, .ref (ad 51 0)), (2, .ref (ad 50 0)), (1, .ref (ad 0 0)), (0, .ref b)]) hM.1 hM.2.1 dL_law_1045 hl (by decide) rfl (fun ls hl => ?_)
              refine y_lload hM hl 1 rfl dL_law_1047 ?_
              refine y_ldc2 hM (v := 100000000) (100000000) (by decide) (by decide +kernel) dL_law_1049 ?_
              refine y_lcmp hM (by constructor <;> omega) (by constructor <;> omega) dL_law_1052 ?_
              have hcl_1052 := cmpI_le (gotT T k 1) (100000000)
              have hcg_1052 := cmpI_gt (gotT T k 1) (100000000)
              have hce_1052 := cmpI_eq (gotT T k 1) (100000000)
              refine y_if_gt hM (cmpI_in _ _) (tgt := 1065) dL_law_1053 (by decide) (fun c_1053 => ?_) (fun c_1053 => ?_)
              ·
                refine y_iconst hM dL_law_1065 ?_
                refine lv_istore (lv' := [(19, .int (iI (3))), (24, .long (lI (timT T k (T 11 k 5 + lateT T k (T 0 0 5))))), (22, .long (lI (gotT T k 1))), (21, .int (iI (T 0 0 6))), (20, .int (iI (T 11 k 3))), (18, .int (iI (lateT T k (T 0 0 5)))), (17, .int (iI ((9) * (((k : Nat) : Int))))), (16, .int (iI (1))), (15, .int (iI (((k : Nat) : Int)))), (14, .int (iI (((sv : Nat) : Int)))), (13, .int (iI (((pv : Nat) : Int)))), (12, .int (iI (kd))), (11, .int (iI (yy))), (10, .int (iI (xx))), (9, .int (iI (((i : Nat) : Int)))), (8, .ref (ad 56 0)), (7, .ref (ad 55 0)), (6, .ref (ad 54 0)), (5, .ref (ad 53 0)), (4, .ref (ad 52 0)), (3, .ref (ad 51 0)), (2, .ref (ad 50 0)), (1, .ref (ad 0 0)), (0, .ref b)]) hM.1 hM.2.1 dL_law_1066 hl (by decide) rfl (fun ls hl => ?_)
                refine y_iload hM hl 0 rfl dL_law_1068 ?_
                refine y_if_le hM (by constructor <;> omega) (tgt := 1097) dL_law_1070 (by decide) (fun c_1070 => False.elim (by omega)) (fun c_1070 => ?_)
                refine y_aload_n hM hl 22 rfl rfl dL_law_1073 ?_
                refine y_iload hM hl 7 rfl dL_law_1074 ?_
                refine y_if_eq hM (by constructor <;> omega) (tgt := 1083) dL_law_1076 (by decide) (fun c_1076 => False.elim (by omega)) (fun c_1076 => ?_)
                refine y_iconst hM dL_law_1079 ?_
                refine lv_goto (tgt := 1084) hM.1 hM.2.1 dL_law_1080 (by decide) ?_
                refine y_iload hM hl 8 rfl dL_law_1084 ?_
                refine y_iconst hM dL_law_1086 ?_
                refine y_callSX hM hN hC (c_ref_force l hfl G b0 ks ad T P (((k : Nat) : Int)) (0) ⟨by omega, by omega⟩ ⟨by omega, by omega⟩ hF hRK hRN hDN hSK hSN hOK hON (by simp only [Int.toNat_natCast]; omega)) (vx_cwSW 4 hM.2.2.2.2 gL_law_L_refused rfl rfl rfl (by decide +kernel) ⟨(Nat.le_of_ble_eq_true rfl), (Nat.le_of_ble_eq_true rfl)⟩) rfl hl.1 rfl (Nat.le_of_ble_eq_true rfl) dL_law_1087 ⟨(show _ ≤ 602294 by omega), (show _ ≤ 7294300 by omega)⟩ (fun E ce q9 u1 H locs hx hC hce hcv hcl => hx.elim) (fun v u1 H locs hp hC => ?_)
                obtain ⟨r_1087, rfl, h_1087, hu⟩ := hp; rw [hu] at hC; clear hu
                try dsimp only at h_1087
                refine W.eq (g2 := F0 m 1090 ls [.int (iI (r_1087))]) rfl ?_
                refine y_iload hM hl 0 rfl dL_law_1090 ?_
                refine y_icmp_eq hM (by constructor <;> omega) (by constructor <;> omega) (tgt := 1643) dL_law_1092 (by decide) (fun c_1092 => ?_) (fun c_1092 => False.elim (by omega))
                exact kn _ _ _ _ _ _ _ _ ls (by omega) (by omega) hC hI ⟨hl.1, hl.2.1, fun q hq => hl.2.2 q ((List.forall_mem_cons.mpr ⟨List.mem_of_getElem? (i := 14) rfl, (List.forall_mem_cons.mpr ⟨List.mem_of_getElem? (i := 15) rfl, (List.forall_mem_cons.mpr ⟨List.mem_of_getElem? (i := 16) rfl, (List.forall_mem_cons.mpr ⟨List.mem_of_getElem? (i := 17) rfl, (List.forall_mem_cons.mpr ⟨List.mem_of_getElem? (i := 18) rfl, (List.forall_mem_cons.mpr ⟨List.mem_of_getElem? (i := 19) rfl, (List.forall_mem_cons.mpr ⟨List.mem_of_getElem? (i := 20) rfl, (List.forall_mem_cons.mpr ⟨List.mem_of_getElem? (i := 21) rfl, (List.forall_mem_cons.mpr ⟨List.mem_of_getElem? (i := 22) rfl, (List.forall_mem_cons.mpr ⟨List.mem_of_getElem? (i := 23) rfl, (fun _ h => absurd h List.not_mem_nil)⟩)⟩)⟩)⟩)⟩)⟩)⟩)⟩)⟩)⟩) q hq)⟩
              ·
                refine y_lload hM hl 0 rfl dL_law_1056 ?_
                refine y_ldc2 hM (v := 100000000) (100000000) (by decide) (by decide +kernel) dL_law_1058 ?_
                refine y_lcmp hM (by constructor <;> omega) (by constructor <;> omega) dL_law_1061 ?_
                have hcl_1061 := cmpI_le (timT T k (T 11 k 5 + lateT T k (T 0 0 5))) (100000000)
                have hcg_1061 := cmpI_gt (timT T k (T 11 k 5 + lateT T k (T 0 0 5))) (100000000)
                have hce_1061 := cmpI_eq (timT T k (T 11 k 5 + lateT T k (T 0 0 5))) (100000000)
                refine y_if_le hM (cmpI_in _ _) (tgt := 1068) dL_law_1062 (by decide) (fun c_1062 => ?_) (fun c_1062 => ?_)
                ·
                  refine y_iload hM hl 4 rfl dL_law_1068 ?_
                  refine y_if_le hM (by constructor <;> omega) (tgt := 1097) dL_law_1070 (by decide) (fun c_1070 => ?_) (fun c_1070 => False.elim (by omega))
                  refine y_iload hM hl 3 rfl dL_law_1097 ?_
                  refine y_if_ne hM (by constructor <;> omega) (tgt := 1126) dL_law_1099 (by decide) (fun c_1099 => ?_) (fun c_1099 => False.elim (by omega))
                  refine y_iload hM hl 3 rfl dL_law_1126 ?_
                  refine y_iconst hM dL_law_1128 ?_
                  refine y_icmp_ne hM (by constructor <;> omega) (by constructor <;> omega) (tgt := 1231) dL_law_1129 (by decide) (fun c_1129 => ?_) (fun c_1129 => False.elim (by omega))
                  refine y_aload hM hl 17 rfl dL_law_1231 ?_
                  refine y_iconst hM dL_law_1233 ?_
                  refine y_iload hM hl 8 rfl dL_law_1234 ?_
                  refine y_imul hM dL_law_1236 ?_
                  refine y_iconst hM dL_law_1237 ?_
                  refine y_iadd hM dL_law_1238 ?_
                  refine y_lald hM hC hLK.2.2.2.2.1 rfl ⟨by omega, by omega⟩ (by decide) (x := T 11 k 8) (by rw [show (((4) * (((k : Nat) : Int))) + (1) : Int).toNat = 4 * k + 1 from by omega, ho.2.2.2.2.2.2.2.2.2.2.2.1]) dL_law_1239 ?_
                  refine y_ldc2 hM (v := 1000) (1000) (by decide) (by decide +kernel) dL_law_1240 ?_
                  refine y_lmul hM dL_law_1243 ?_
                  refine y_iload hM hl 7 rfl dL_law_1244 ?_
                  refine y_if_eq hM (by constructor <;> omega) (tgt := 1256) dL_law_1246 (by decide) (fun c_1246 => False.elim (by omega)) (fun c_1246 => ?_)
                  refine y_aload hM hl 15 rfl dL_law_1249 ?_
                  refine y_iconst hM dL_law_1251 ?_
                  refine y_iald hM hC hLK.2.2.2.2.2.2 rfl ⟨by omega, by omega⟩ (by decide) (x := T 0 0 6) (by rw [show ((4 : Int)).toNat = 4 from rfl, hg4]) dL_law_1252 ?_
                  refine lv_goto (tgt := 1271) hM.1 hM.2.1 dL_law_1253 (by decide) ?_
                  refine y_i2l hM (by constructor <;> omega) dL_law_1271 ?_
                  refine y_ldiv hM ⟨by omega, by omega, by omega, by omega⟩ dL_law_1272 ?_
                  rw [show ((T 11 k 8) * (1000)) / (T 0 0 6) = gotT T k 1 from (by unfold gotT prF; rw [if_neg (by decide)]; rfl)]
                  refine lv_lstore (lv' := [(21, .long (lI (gotT T k 1))), (24, .long (lI (timT T k (T 11 k 5 + lateT T k (T 0 0 5))))), (20, .int (iI (T 11 k 3))), (19, .int (iI (0))), (18, .int (iI (lateT T k (T 0 0 5)))), (17, .int (iI ((9) * (((k : Nat) : Int))))), (16, .int (iI (1))), (15, .int (iI (((k : Nat) : Int)))), (14, .int (iI (((sv : Nat) : Int)))), (13, .int (iI (((pv : Nat) : Int)))), (12, .int (iI (kd))), (11, .int (iI (yy))), (10, .int (iI (xx))), (9, .int (iI (((i : Nat) : Int)))), (8, .ref (ad 56 0)), (7, .ref (ad 55 0)), (6, .ref (ad 54 0)), (5, .ref (ad 53 0)), (4, .ref (ad 52 0)), (3, .ref (ad 51 0)), (2, .ref (ad 50 0)), (1, .ref (ad 0 0)), (0, .ref b)]) hM.1 hM.2.1 dL_law_1273 hl (by decide) rfl (fun ls hl => ?_)
                  refine y_aload hM hl 17 rfl dL_law_1275 ?_
                  refine y_iload hM hl 5 rfl dL_law_1277 ?_
                  refine y_bipush hM dL_law_1279 (by decide) ?_
                  refine y_iadd hM dL_law_1281 ?_
                  refine y_iald hM hC hLK.2.2.2.1 rfl ⟨by omega, by omega⟩ (by decide) (x := T 53 0 (9 * k + 7)) (by rw [show (((9) * (((k : Nat) : Int))) + (7) : Int).toNat = 9 * k + 7 from by omega]) dL_law_1282 ?_
                  refine y_aload hM hl 17 rfl dL_law_1283 ?_
                  refine y_iload hM hl 5 rfl dL_law_1285 ?_
                  refine y_bipush hM dL_law_1287 (by decide) ?_
                  refine y_iadd hM dL_law_1289 ?_
                  refine y_iald hM hC hLK.2.2.2.1 rfl ⟨by omega, by omega⟩ (by decide) (x := T 53 0 (9 * k + 8)) (by rw [show (((9) * (((k : Nat) : Int))) + (8) : Int).toNat = 9 * k + 8 from by omega]) dL_law_1290 ?_
                  refine y_iadd hM dL_law_1291 ?_
                  rw [show (T 53 0 (9 * k + 7)) + (T 53 0 (9 * k + 8)) = T 11 k 5 from (by omega)]
                  refine lv_istore (lv' := [(23, .int (iI (T 11 k 5))), (21, .long (lI (gotT T k 1))), (24, .long (lI (timT T k (T 11 k 5 + lateT T k (T 0 0 5))))), (20, .int (iI (T 11 k 3))), (19, .int (iI (0))), (18, .int (iI (lateT T k (T 0 0 5)))), (17, .int (iI ((9) * (((k : Nat) : Int))))), (16, .int (iI (1))), (15, .int (iI (((k : Nat) : Int)))), (14, .int (iI (((sv : Nat) : Int)))), (13, .int (iI (((pv : Nat) : Int)))), (12, .int (iI (kd))), (11, .int (iI (yy))), (10, .int (iI (xx))), (9, .int (iI (((i : Nat) : Int)))), (8, .ref (ad 56 0)), (7, .ref (ad 55 0)), (6, .ref (ad 54 0)), (5, .ref (ad 53 0)), (4, .ref (ad 52 0)), (3, .ref (ad 51 0)), (2, .ref (ad 50 0)), (1, .ref (ad 0 0)), (0, .ref b)]) hM.1 hM.2.1 dL_law_1292 hl (by decide) rfl (fun ls hl => ?_)
                  refine y_iload hM hl 0 rfl dL_law_1294 ?_
                  refine y_iload hM hl 5 rfl dL_law_1296 ?_
                  refine y_iadd hM dL_law_1298 ?_
                  refine y_if_le hM (by constructor <;> omega) (tgt := 1321) dL_law_1299 (by decide) (fun c_1299 => False.elim (by omega)) (fun c_1299 => ?_)
                  refine y_aload_n hM hl 21 rfl rfl dL_law_1302 ?_
                  refine y_aload hM hl 18 rfl dL_law_1303 ?_
                  refine y_aload hM hl 17 rfl dL_law_1305 ?_
                  refine y_iload hM hl 8 rfl dL_law_1307 ?_
                  refine y_aload hM hl 15 rfl dL_law_1309 ?_
                  refine y_iconst hM dL_law_1311 ?_
                  refine y_iald hM hC hLK.2.2.2.2.2.2 rfl ⟨by omega, by omega⟩ (by decide) (x := T 0 0 5) (by rw [show ((3 : Int)).toNat = 3 from rfl, hg3]) dL_law_1312 ?_
                  refine y_iload hM hl 5 rfl dL_law_1313 ?_
                  refine y_callS hM hC (c_L_timely l hfl G b0 ks ad T P (k) hk8 (lateT T k (T 0 0 5)) ⟨by omega, by omega⟩ (by omega) hLK hNC hR) (va_cwS 6 hM.2.2.2.2 gL_law_L_timely rfl rfl rfl (by decide +kernel) ⟨(Nat.le_of_ble_eq_true rfl), (Nat.le_of_ble_eq_true rfl)⟩) rfl hl.1 rfl (Nat.le_of_ble_eq_true rfl) dL_law_1315 ⟨(show _ ≤ 602294 by omega), (show _ ≤ 7294300 by omega)⟩ (fun E ce q9 u1 H locs hx hC hce hcv hcl => hx.elim) (fun v u1 H locs hp hC => ?_)
                  obtain ⟨r_1315, rfl, h_1315, hu⟩ := hp; rw [hu] at hC; clear hu
                  try dsimp only at h_1315
                  refine W.eq (g2 := F0 m 1318 ls [.long (lI (r_1315))]) rfl ?_
                  subst h_1315
                  refine lv_goto (tgt := 1322) hM.1 hM.2.1 dL_law_1318 (by decide) ?_
                  refine lv_lstore (lv' := [(24, .long (lI (timT T k (T 11 k 5 + lateT T k (T 0 0 5))))), (23, .int (iI (T 11 k 5))), (21, .long (lI (gotT T k 1))), (20, .int (iI (T 11 k 3))), (19, .int (iI (0))), (18, .int (iI (lateT T k (T 0 0 5)))), (17, .int (iI ((9) * (((k : Nat) : Int))))), (16, .int (iI (1))), (15, .int (iI (((k : Nat) : Int)))), (14, .int (iI (((sv : Nat) : Int)))), (13, .int (iI (((pv : Nat) : Int)))), (12, .int (iI (kd))), (11, .int (iI (yy))), (10, .int (iI (xx))), (9, .int (iI (((i : Nat) : Int)))), (8, .ref (ad 56 0)), (7, .ref (ad 55 0)), (6, .ref (ad 54 0)), (5, .ref (ad 53 0)), (4, .ref (ad 52 0)), (3, .ref (ad 51 0)), (2, .ref (ad 50 0)), (1, .ref (ad 0 0)), (0, .ref b)]) hM.1 hM.2.1 dL_law_1322 hl (by decide) rfl (fun ls hl => ?_)
                  refine y_lload hM hl 0 rfl dL_law_1324 ?_
                  refine y_lload hM hl 2 rfl dL_law_1326 ?_
                  refine y_lcmp hM (by constructor <;> omega) (by constructor <;> omega) dL_law_1328 ?_
                  have hcl_1328 := cmpI_le (timT T k (T 11 k 5 + lateT T k (T 0 0 5))) (gotT T k 1)
                  have hcg_1328 := cmpI_gt (timT T k (T 11 k 5 + lateT T k (T 0 0 5))) (gotT T k 1)
                  have hce_1328 := cmpI_eq (timT T k (T 11 k 5 + lateT T k (T 0 0 5))) (gotT T k 1)
                  refine y_if_le hM (cmpI_in _ _) (tgt := 1437) dL_law_1329 (by decide) (fun c_1329 => ?_) (fun c_1329 => ?_)
                  ·
                    refine y_aload hM hl 19 rfl dL_law_1437 ?_
                    refine y_aload hM hl 18 rfl dL_law_1439 ?_
                    refine y_iload hM hl 6 rfl dL_law_1441 ?_
                    refine y_iald hM hC hLK.2.2.2.1 rfl ⟨by omega, by omega⟩ (by decide) (x := ((mv : Nat) : Int)) (by rw [show ((9) * (((k : Nat) : Int)) : Int).toNat = 9 * k from by omega, hmv0]) dL_law_1443 ?_
                    refine y_lload hM hl 0 rfl dL_law_1444 ?_
                    refine y_lload hM hl 2 rfl dL_law_1446 ?_
                    refine y_lcmp hM (by constructor <;> omega) (by constructor <;> omega) dL_law_1448 ?_
                    have hcl_1448 := cmpI_le (timT T k (T 11 k 5 + lateT T k (T 0 0 5))) (gotT T k 1)
                    have hcg_1448 := cmpI_gt (timT T k (T 11 k 5 + lateT T k (T 0 0 5))) (gotT T k 1)
                    have hce_1448 := cmpI_eq (timT T k (T 11 k 5 + lateT T k (T 0 0 5))) (gotT T k 1)
                    refine y_if_le hM (cmpI_in _ _) (tgt := 1457) dL_law_1449 (by decide) (fun c_1449 => ?_) (fun c_1449 => False.elim (by omega))
                    refine y_lload hM hl 2 rfl dL_law_1457 ?_
                    refine y_last hM hC hLK.2.2.1 (fun _ _ => rfl) ⟨by omega, by omega⟩ (by decide) dL_law_1459 (fun H locs hC => ?_)
                    rw [show (((mv : Nat) : Int) : Int).toNat = mv from by omega] at hC
                    refine y_aload_n hM hl 20 rfl rfl dL_law_1460 ?_
                    refine y_iconst hM dL_law_1461 ?_
                    refine y_aload hM hl 18 rfl dL_law_1462 ?_
                    refine y_iload hM hl 6 rfl dL_law_1464 ?_
                    refine y_iald hM hC hLK.2.2.2.1 rfl ⟨by omega, by omega⟩ (by decide) (x := ((mv : Nat) : Int)) (by rw [show ((9) * (((k : Nat) : Int)) : Int).toNat = 9 * k from by omega, up_of (by omega), hmv0]) dL_law_1466 ?_
                    refine y_imul hM dL_law_1467 ?_
                    refine y_aload hM hl 18 rfl dL_law_1468 ?_
                    refine y_iload hM hl 6 rfl dL_law_1470 ?_
                    refine y_iconst hM dL_law_1472 ?_
                    refine y_iadd hM dL_law_1473 ?_
                    refine y_iald hM hC hLK.2.2.2.1 rfl ⟨by omega, by omega⟩ (by decide) (x := T 11 k 2) (by rw [show (((9) * (((k : Nat) : Int))) + (2) : Int).toNat = 9 * k + 2 from by omega, up_of (by omega), ho.2.2.1]) dL_law_1474 ?_
                    refine y_iast hM hC hLK.2.1 (fun _ _ => rfl) ⟨by omega, by omega⟩ (by decide) dL_law_1475 (fun H locs hC => ?_)
                    rw [show ((2) * (((mv : Nat) : Int)) : Int).toNat = 2 * mv from by omega] at hC
                    refine y_aload_n hM hl 20 rfl rfl dL_law_1476 ?_
                    refine y_iconst hM dL_law_1477 ?_
                    refine y_aload hM hl 18 rfl dL_law_1478 ?_
                    refine y_iload hM hl 6 rfl dL_law_1480 ?_
                    refine y_iald hM hC hLK.2.2.2.1 rfl ⟨by omega, by omega⟩ (by decide) (x := ((mv : Nat) : Int)) (by rw [show ((9) * (((k : Nat) : Int)) : Int).toNat = 9 * k from by omega, up_of (by omega), up_of (by omega), hmv0]) dL_law_1482 ?_
                    refine y_imul hM dL_law_1483 ?_
                    refine y_iconst hM dL_law_1484 ?_
                    refine y_iadd hM dL_law_1485 ?_
                    refine y_iconst hM dL_law_1486 ?_
                    refine y_iast hM hC hLK.2.1 (fun _ _ => rfl) ⟨by omega, by omega⟩ (by decide) dL_law_1487 (fun H locs hC => ?_)
                    rw [show (((2) * (((mv : Nat) : Int))) + (1) : Int).toNat = 2 * mv + 1 from by omega] at hC
                    refine y_aload hM hl 17 rfl dL_law_1488 ?_
                    refine y_iconst hM dL_law_1490 ?_
                    refine y_iload hM hl 8 rfl dL_law_1491 ?_
                    refine y_imul hM dL_law_1493 ?_
                    refine y_iconst hM dL_law_1494 ?_
                    refine y_iadd hM dL_law_1495 ?_
                    refine y_iload hM hl 5 rfl dL_law_1496 ?_
                    refine y_i2l hM (by constructor <;> omega) dL_law_1498 ?_
                    refine y_last hM hC hLK.2.2.2.2.1 (fun _ _ => rfl) ⟨by omega, by omega⟩ (by decide) dL_law_1499 (fun H locs hC => ?_)
                    rw [show (((4) * (((k : Nat) : Int))) + (3) : Int).toNat = 4 * k + 3 from by omega] at hC
                    refine y_aload hM hl 18 rfl dL_law_1500 ?_
                    refine y_iload hM hl 6 rfl dL_law_1502 ?_
                    refine y_iconst hM dL_law_1504 ?_
                    refine y_iadd hM dL_law_1505 ?_
                    refine lv_dup2_11 hM.1 hM.2.1 dL_law_1506 rfl rfl ?_
                    refine y_iald hM hC hLK.2.2.2.1 rfl ⟨by omega, by omega⟩ (by decide) (x := T 11 k 3) (by rw [show (((9) * (((k : Nat) : Int))) + (3) : Int).toNat = 9 * k + 3 from by omega, up_of (by omega), up_of (by omega), up_of (by omega), up_of (by omega), ho.2.2.2.1]) dL_law_1507 ?_
                    refine y_iconst hM dL_law_1508 ?_
                    refine y_iadd hM dL_law_1509 ?_
                    refine y_iast hM hC hLK.2.2.2.1 (fun _ _ => rfl) ⟨by omega, by omega⟩ (by decide) dL_law_1510 (fun H locs hC => ?_)
                    rw [show (((9) * (((k : Nat) : Int))) + (3) : Int).toNat = 9 * k + 3 from by omega] at hC
                    refine y_iload hM hl 7 rfl dL_law_1511 ?_
                    refine y_if_eq hM (by constructor <;> omega) (tgt := 1525) dL_law_1513 (by decide) (fun c_1513 => False.elim (by omega)) (fun c_1513 => ?_)
                    obtain ⟨T1, hT1⟩ : ∃ X : TT, X = (up (up (up (up (up T 52 0 (mv) (gotT T k 1)) 51 0 (2 * mv) (T 11 k 2)) 51 0 (2 * mv + 1) (0)) 54 0 (4 * k + 3) (lateT T k (T 0 0 5))) 53 0 (9 * k + 3) ((T 11 k 3) + (1))) := ⟨_, rfl⟩
                    rw [← hT1] at hC
                    have hlo : LoE T1 T := by
                      rw [hT1]
                      exact (((((LoE.r.hi (by decide)).hi (by decide)).hi (by decide)).hi (by decide)).hi (by decide))
                    obtain ⟨hCK1, hNC1, hR1, hz1⟩ := hI.mid hlo
                    obtain ⟨hF1, hRK1, hSK1, hOK1, hKF1, hLK1⟩ := id hCK1
                    obtain ⟨hRN1, hDN1, hSN1, hON1, -, -, -⟩ := id hNC1
                    have h05 : T1 0 0 5 = T 0 0 5 := by rw [hz1]
                    have h06 : T1 0 0 6 = T 0 0 6 := by rw [hz1]
                    have h07 : T1 0 0 7 = T 0 0 7 := by rw [hz1]
                    have h08 : T1 0 0 8 = T 0 0 8 := by rw [hz1]
                    obtain ⟨m1, m2, m3, m4⟩ := stp_mid hlo k 1
                    refine y_aload_n hM hl 22 rfl rfl dL_law_1516 ?_
                    refine y_iload hM hl 8 rfl dL_law_1517 ?_
                    refine y_callV hM hC (c_force l hfl G b0 ks ad T1 P (((k : Nat) : Int)) ⟨by omega, by omega⟩ hF1 hRK1 hRN1 hDN1 hSK1 hSN1 hOK1 hON1) (cwV 1 hM.2.2.2.2 gL_law_X3_force rfl rfl rfl (by decide +kernel) ⟨(Nat.le_of_ble_eq_true rfl), (Nat.le_of_ble_eq_true rfl)⟩) (y_recv hC hF1.1 rfl rfl) rfl hl.1 rfl (Nat.le_of_ble_eq_true rfl) dL_law_1519 ⟨(show _ ≤ 602294 by omega), (show _ ≤ 7294300 by omega)⟩ (fun E ce q9 u1 H locs hx hC hce hcv hcl => by
                        obtain ⟨x, rfl, hx, hu⟩ := hx; rw [hu] at hC; clear hu; try dsimp only at hx
                        exact False.elim ((by simp only [Int.toNat_natCast, m1, m2, m3, m4, h08] at hx; omega))) (fun v u1 H locs hp hC => ?_)
                    obtain ⟨r_1519, rfl, h_1519, hu⟩ := hp; rw [hu] at hC; clear hu
                    try dsimp only at h_1519
                    refine W.eq (g2 := F0 m 1522 ls [.int (iI (r_1519))]) rfl ?_
                    simp only [Int.toNat_natCast, m3] at h_1519
                    rw [Int.toNat_natCast] at hC
                    refine lv_goto (tgt := 1531) hM.1 hM.2.1 dL_law_1522 (by decide) ?_
                    refine y_iload hM hl 5 rfl dL_law_1531 ?_
                    refine y_icmp_eq hM (by constructor <;> omega) (by constructor <;> omega) (tgt := 1538) dL_law_1533 (by decide) (fun c_1533 => ?_) (fun c_1533 => False.elim (by omega))
                    refine lv_goto (tgt := 1608) hM.1 hM.2.1 dL_law_1538 (by decide) ?_
                    exact kk _ _ _ _ _ _ _ _ ls (by omega) (by omega) hC (op_stp hI hlo hk8 (by omega) (fun _ => by omega) (fun r1 n1 => by
                          have hlk := hlkz (by omega)
                          have emv : mv = mvT T1 k := by rw [mvT_lo hlo]; exact hmv
                          have e0 : ∀ lb, allL T1 k lb = allL T k lb := fun lb => by unfold allL; rw [m1]
                          have e9 : ∀ p, T1 9 p = T 9 p := fun p => hlo 9 p (by omega)
                          have e3 : T1 3 0 = T 3 0 := hlo 3 0 (by omega)
                          refine R2_s2 (M := T) (M' := T1) (k := k) (i := mv) (f := 1) r1 n1 (by omega) ⟨emv, by omega⟩ (by rw [m1]; omega) ?_ ?_ ?_ ?_ ?_ ?_ ?_ ?_ ?_ ?_ ?_ ?_ ?_ ?_
                          · intro j hj
                            rw [hT1, up_of (by omega), up_of (by omega), up_of (by omega), up_of (by omega), up_of (by omega)]
                          · rw [hT1, up_at rfl]
                            omega
                          · intro j hj1 hj2
                            rw [hT1, up_of (by omega), up_of (by omega), up_of (by omega), up_of (by omega), up_of (by omega)]
                          · rw [m3, m4, hlk]
                            rw [hT1, up_of (by omega), up_of (by omega), up_of (by omega), up_of (by omega), up_of (by omega)]
                            have h9 := ho.2.2.2.2.2.2.2.2.2.2.2.2.1
                            have h15 := ho.2.2.2.2.2.2.2.2.2.2.2.2.2.2 (by omega)
                            omega
                          · rw [m3]
                            rw [hT1, up_of (by omega), up_at rfl]
                          · intro j hj
                            rw [hT1, up_of (by omega), up_of (by omega), up_of (by omega), up_of (by omega), up_of (by omega)]
                          · rw [m2, m3, m4, hlk]
                            rw [hT1, up_of (by omega), up_of (by omega), up_of (by omega), up_of (by omega), up_at rfl]
                            try omega
                          · intro j hj1 hj2
                            rw [hT1, up_of (by omega), up_of (by omega), up_of (by omega), up_of (by omega), up_of (by omega)]
                          · rw [m1]
                            rw [hT1, up_of (by omega), up_of (by omega), up_of (by omega), up_at rfl]
                          · rw [hT1, up_of (by omega), up_of (by omega), up_at rfl]
                          · intro p q hp hq
                            rw [buyT_9, e0, m3, m4, m1, e9, hlk, coF_0, Int.zero_mul, Int.zero_ediv, ite_self, ite_self, hT1, up_of (by omega), up_of (by omega), up_of (by omega), up_of (by omega), up_of (by omega), hRD.1 p q hp hq]
                            omega
                          · intro p hp
                            rw [buyT_r, e0, m3, m4, m1, e3, hlk, coF_0, Int.zero_mul, Int.zero_ediv, Int.sub_zero, ite_self, ite_self, hT1, up_of (by omega), up_of (by omega), up_of (by omega), up_of (by omega), up_of (by omega), hRD.2 p hp]
                            omega
                          · funext j
                            rw [hT1, up_of (by omega), up_of (by omega), up_of (by omega), up_of (by omega), up_of (by omega)]
                          · funext j
                            rw [hT1, up_of (by omega), up_of (by omega), up_of (by omega), up_of (by omega), up_of (by omega)])) ⟨hl.1, hl.2.1, fun q hq => hl.2.2 q ((List.forall_mem_cons.mpr ⟨List.mem_of_getElem? (i := 12) rfl, (List.forall_mem_cons.mpr ⟨List.mem_of_getElem? (i := 14) rfl, (List.forall_mem_cons.mpr ⟨List.mem_of_getElem? (i := 15) rfl, (List.forall_mem_cons.mpr ⟨List.mem_of_getElem? (i := 16) rfl, (List.forall_mem_cons.mpr ⟨List.mem_of_getElem? (i := 17) rfl, (List.forall_mem_cons.mpr ⟨List.mem_of_getElem? (i := 18) rfl, (List.forall_mem_cons.mpr ⟨List.mem_of_getElem? (i := 19) rfl, (List.forall_mem_cons.mpr ⟨List.mem_of_getElem? (i := 20) rfl, (List.forall_mem_cons.mpr ⟨List.mem_of_getElem? (i := 21) rfl, (List.forall_mem_cons.mpr ⟨List.mem_of_getElem? (i := 22) rfl, (List.forall_mem_cons.mpr ⟨List.mem_of_getElem? (i := 23) rfl, (fun _ h => absurd h List.not_mem_nil)⟩)⟩)⟩)⟩)⟩)⟩)⟩)⟩)⟩)⟩)⟩) q hq)⟩
                  ·
                    refine y_lload hM hl 0 rfl dL_law_1332 ?_
                    refine y_lload hM hl 2 rfl dL_law_1334 ?_
                    refine y_lsub hM dL_law_1336 ?_
                    refine y_aload_n hM hl 21 rfl rfl dL_law_1337 ?_
                    refine y_aload hM hl 18 rfl dL_law_1338 ?_
                    refine y_iload hM hl 6 rfl dL_law_1340 ?_
                    refine y_iconst hM dL_law_1342 ?_
                    refine y_iadd hM dL_law_1343 ?_
                    refine y_iald hM hC hLK.2.2.2.1 rfl ⟨by omega, by omega⟩ (by decide) (x := T 11 k 2) (by rw [show (((9) * (((k : Nat) : Int))) + (2) : Int).toNat = 9 * k + 2 from by omega, ho.2.2.1]) dL_law_1344 ?_
                    refine y_aload hM hl 15 rfl dL_law_1345 ?_
                    refine y_iconst hM dL_law_1347 ?_
                    refine y_iald hM hC hLK.2.2.2.2.2.2 rfl ⟨by omega, by omega⟩ (by decide) (x := T 0 0 5) (by rw [show ((3 : Int)).toNat = 3 from rfl, hg3]) dL_law_1348 ?_
                    refine y_callS hM hC (c_L_price l hfl G b0 ks ad T P (T 11 k 2) (T 0 0 5) ⟨by omega, by omega⟩ ⟨by omega, by omega⟩ hLK.1 hRP) (va_cwS 3 hM.2.2.2.2 gL_law_L_price rfl rfl rfl (by decide +kernel) ⟨(Nat.le_of_ble_eq_true rfl), (Nat.le_of_ble_eq_true rfl)⟩) rfl hl.1 rfl (Nat.le_of_ble_eq_true rfl) dL_law_1349 ⟨(show _ ≤ 602294 by omega), (show _ ≤ 7294300 by omega)⟩ (fun E ce q9 u1 H locs hx hC hce hcv hcl => hx.elim) (fun v u1 H locs hp hC => ?_)
                    obtain ⟨r_1349, rfl, h_1349, hu⟩ := hp; rw [hu] at hC; clear hu
                    try dsimp only at h_1349
                    refine W.eq (g2 := F0 m 1352 ls [.int (iI (r_1349)), .long (lI ((timT T k (T 11 k 5 + lateT T k (T 0 0 5))) - (gotT T k 1)))]) rfl ?_
                    have hv_1349 := valT_in hRN (p := (T 11 k 2).toNat) (by omega) (T 0 0 5)
                    have hq1 : 0 ≤ (timT T k (T 11 k 5 + lateT T k (T 0 0 5)) - gotT T k 1) * r_1349 := Int.mul_nonneg (by omega) (by omega)
                    have hq2 : (timT T k (T 11 k 5 + lateT T k (T 0 0 5)) - gotT T k 1) * r_1349 ≤ 100000000 * 10000 := Int.mul_le_mul (by omega) (by omega) (by omega) (by omega)
                    refine y_i2l hM (by constructor <;> omega) dL_law_1352 ?_
                    refine y_lmul hM dL_law_1353 ?_
                    refine y_ldc2 hM (v := 1000) (1000) (by decide) (by decide +kernel) dL_law_1354 ?_
                    refine y_callS hM hC (c_L_up l hfl G b0 (ks, ad, T, P) (((timT T k (T 11 k 5 + lateT T k (T 0 0 5))) - (gotT T k 1)) * (r_1349)) ⟨by omega, by omega⟩) (va_cwS 2 hM.2.2.2.2 gL_law_L_up rfl rfl rfl (by decide +kernel) ⟨(Nat.le_of_ble_eq_true rfl), (Nat.le_of_ble_eq_true rfl)⟩) rfl hl.1 rfl (Nat.le_of_ble_eq_true rfl) dL_law_1357 ⟨(show _ ≤ 602294 by omega), (show _ ≤ 7294300 by omega)⟩ (fun E ce q9 u1 H locs hx hC hce hcv hcl => hx.elim) (fun v u1 H locs hp hC => ?_)
                    obtain ⟨r_1357, rfl, h_1357, hu⟩ := hp; rw [hu] at hC; clear hu
                    try dsimp only at h_1357
                    refine W.eq (g2 := F0 m 1360 ls [.long (lI (r_1357))]) rfl ?_
                    rw [h_1349] at h_1357
                    have e_1357 : r_1357 = coF (timT T k (T 11 k 5 + lateT T k (T 0 0 5)) - gotT T k 1) (valT T (T 11 k 2).toNat (T 0 0 5)) := h_1357
                    clear h_1357
                    subst e_1357
                    have hco := coF_in (u := timT T k (T 11 k 5 + lateT T k (T 0 0 5)) - gotT T k 1) (pr := valT T (T 11 k 2).toNat (T 0 0 5)) ⟨by omega, by omega⟩ ⟨by omega, by omega⟩
                    have hq3 : 0 ≤ coF (timT T k (T 11 k 5 + lateT T k (T 0 0 5)) - gotT T k 1) (valT T (T 11 k 2).toNat (T 0 0 5)) * T 11 k 5 := Int.mul_nonneg (by omega) (by omega)
                    have hq4 : coF (timT T k (T 11 k 5 + lateT T k (T 0 0 5)) - gotT T k 1) (valT T (T 11 k 2).toNat (T 0 0 5)) * T 11 k 5 ≤ 1000000000 * 2000 := Int.mul_le_mul (by omega) (by omega) (by omega) (by omega)
                    refine lv_lstore (lv' := [(26, .long (lI (coF (timT T k (T 11 k 5 + lateT T k (T 0 0 5)) - gotT T k 1) (valT T (T 11 k 2).toNat (T 0 0 5))))), (24, .long (lI (timT T k (T 11 k 5 + lateT T k (T 0 0 5))))), (23, .int (iI (T 11 k 5))), (21, .long (lI (gotT T k 1))), (20, .int (iI (T 11 k 3))), (19, .int (iI (0))), (18, .int (iI (lateT T k (T 0 0 5)))), (17, .int (iI ((9) * (((k : Nat) : Int))))), (16, .int (iI (1))), (15, .int (iI (((k : Nat) : Int)))), (14, .int (iI (((sv : Nat) : Int)))), (13, .int (iI (((pv : Nat) : Int)))), (12, .int (iI (kd))), (11, .int (iI (yy))), (10, .int (iI (xx))), (9, .int (iI (((i : Nat) : Int)))), (8, .ref (ad 56 0)), (7, .ref (ad 55 0)), (6, .ref (ad 54 0)), (5, .ref (ad 53 0)), (4, .ref (ad 52 0)), (3, .ref (ad 51 0)), (2, .ref (ad 50 0)), (1, .ref (ad 0 0)), (0, .ref b)]) hM.1 hM.2.1 dL_law_1360 hl (by decide) rfl (fun ls hl => ?_)
                    refine y_lload hM hl 0 rfl dL_law_1362 ?_
                    refine y_iload hM hl 2 rfl dL_law_1364 ?_
                    refine y_i2l hM (by constructor <;> omega) dL_law_1366 ?_
                    refine y_lmul hM dL_law_1367 ?_
                    refine y_iload hM hl 2 rfl dL_law_1368 ?_
                    refine y_iload hM hl 6 rfl dL_law_1370 ?_
                    refine y_iadd hM dL_law_1372 ?_
                    refine y_i2l hM (by constructor <;> omega) dL_law_1373 ?_
                    refine y_ldiv hM ⟨by omega, by omega, by omega, by omega⟩ dL_law_1374 ?_
                    refine lv_lstore (lv' := [(28, .long (lI (((coF (timT T k (T 11 k 5 + lateT T k (T 0 0 5)) - gotT T k 1) (valT T (T 11 k 2).toNat (T 0 0 5))) * (T 11 k 5)) / ((T 11 k 5) + (lateT T k (T 0 0 5)))))), (26, .long (lI (coF (timT T k (T 11 k 5 + lateT T k (T 0 0 5)) - gotT T k 1) (valT T (T 11 k 2).toNat (T 0 0 5))))), (24, .long (lI (timT T k (T 11 k 5 + lateT T k (T 0 0 5))))), (23, .int (iI (T 11 k 5))), (21, .long (lI (gotT T k 1))), (20, .int (iI (T 11 k 3))), (19, .int (iI (0))), (18, .int (iI (lateT T k (T 0 0 5)))), (17, .int (iI ((9) * (((k : Nat) : Int))))), (16, .int (iI (1))), (15, .int (iI (((k : Nat) : Int)))), (14, .int (iI (((sv : Nat) : Int)))), (13, .int (iI (((pv : Nat) : Int)))), (12, .int (iI (kd))), (11, .int (iI (yy))), (10, .int (iI (xx))), (9, .int (iI (((i : Nat) : Int)))), (8, .ref (ad 56 0)), (7, .ref (ad 55 0)), (6, .ref (ad 54 0)), (5, .ref (ad 53 0)), (4, .ref (ad 52 0)), (3, .ref (ad 51 0)), (2, .ref (ad 50 0)), (1, .ref (ad 0 0)), (0, .ref b)]) hM.1 hM.2.1 dL_law_1375 hl (by decide) rfl (fun ls hl => ?_)
                    refine y_aload hM hl 19 rfl dL_law_1377 ?_
                    refine y_iconst hM dL_law_1379 ?_
                    refine y_iload hM hl 10 rfl dL_law_1380 ?_
                    refine y_imul hM dL_law_1382 ?_
                    refine y_iconst hM dL_law_1383 ?_
                    refine y_iadd hM dL_law_1384 ?_
                    refine y_lload hM hl 2 rfl dL_law_1385 ?_
                    refine y_lload hM hl 4 rfl dL_law_1387 ?_
                    refine y_lsub hM dL_law_1389 ?_
                    refine y_last hM hC hLK.2.2.2.2.1 (fun _ _ => rfl) ⟨by omega, by omega⟩ (by decide) dL_law_1390 (fun H locs hC => ?_)
                    rw [show (((4) * (((k : Nat) : Int))) + (2) : Int).toNat = 4 * k + 2 from by omega] at hC
                    refine y_aload hM hl 18 rfl dL_law_1391 ?_
                    refine y_iconst hM dL_law_1393 ?_
                    refine y_aload hM hl 20 rfl dL_law_1394 ?_
                    refine y_iload hM hl 8 rfl dL_law_1396 ?_
                    refine y_iconst hM dL_law_1398 ?_
                    refine y_iadd hM dL_law_1399 ?_
                    refine y_iald hM hC hLK.2.2.2.1 rfl ⟨by omega, by omega⟩ (by decide) (x := ((fr : Nat) : Int)) (by rw [show (((9) * (((k : Nat) : Int))) + (1) : Int).toNat = 9 * k + 1 from by omega, up_of (by omega), hfr]) dL_law_1400 ?_
                    refine y_imul hM dL_law_1401 ?_
                    refine y_aload hM hl 20 rfl dL_law_1402 ?_
                    refine y_iload hM hl 8 rfl dL_law_1404 ?_
                    refine y_iconst hM dL_law_1406 ?_
                    refine y_iadd hM dL_law_1407 ?_
                    refine y_iald hM hC hLK.2.2.2.1 rfl ⟨by omega, by omega⟩ (by decide) (x := ((to_ : Nat) : Int)) (by rw [show (((9) * (((k : Nat) : Int))) + (2) : Int).toNat = 9 * k + 2 from by omega, up_of (by omega), hto]) dL_law_1408 ?_
                    refine y_iadd hM dL_law_1409 ?_
                    refine lv_dup2_11 hM.1 hM.2.1 dL_law_1410 rfl rfl ?_
                    refine y_lald hM hC hLK.2.2.2.2.2.1 rfl ⟨by omega, by omega⟩ (by decide) (x := T 55 0 (5 * fr + to_)) (by rw [show (((5) * (((fr : Nat) : Int))) + (((to_ : Nat) : Int)) : Int).toNat = 5 * fr + to_ from by omega, up_of (by omega)]) dL_law_1411 ?_
                    refine y_lload hM hl 0 rfl dL_law_1412 ?_
                    refine y_ladd hM dL_law_1414 ?_
                    refine y_last hM hC hLK.2.2.2.2.2.1 (fun _ _ => rfl) ⟨by omega, by omega⟩ (by decide) dL_law_1415 (fun H locs hC => ?_)
                    rw [show (((5) * (((fr : Nat) : Int))) + (((to_ : Nat) : Int)) : Int).toNat = 5 * fr + to_ from by omega] at hC
                    refine y_aload hM hl 18 rfl dL_law_1416 ?_
                    refine y_bipush hM dL_law_1418 (by decide) ?_
                    refine y_aload hM hl 20 rfl dL_law_1420 ?_
                    refine y_iload hM hl 8 rfl dL_law_1422 ?_
                    refine y_iconst hM dL_law_1424 ?_
                    refine y_iadd hM dL_law_1425 ?_
                    refine y_iald hM hC hLK.2.2.2.1 rfl ⟨by omega, by omega⟩ (by decide) (x := ((to_ : Nat) : Int)) (by rw [show (((9) * (((k : Nat) : Int))) + (2) : Int).toNat = 9 * k + 2 from by omega, up_of (by omega), up_of (by omega), hto]) dL_law_1426 ?_
                    refine y_iadd hM dL_law_1427 ?_
                    refine lv_dup2_11 hM.1 hM.2.1 dL_law_1428 rfl rfl ?_
                    refine y_lald hM hC hLK.2.2.2.2.2.1 rfl ⟨by omega, by omega⟩ (by decide) (x := T 55 0 (to_ + 25)) (by rw [show ((25) + (((to_ : Nat) : Int)) : Int).toNat = to_ + 25 from by omega, up_of (by omega), up_of (by omega)]) dL_law_1429 ?_
                    refine y_lload hM hl 1 rfl dL_law_1430 ?_
                    refine y_lload hM hl 0 rfl dL_law_1432 ?_
                    refine y_lsub hM dL_law_1434 ?_
                    refine y_ladd hM dL_law_1435 ?_
                    refine y_last hM hC hLK.2.2.2.2.2.1 (fun _ _ => rfl) ⟨by omega, by omega⟩ (by decide) dL_law_1436 (fun H locs hC => ?_)
                    rw [show ((25) + (((to_ : Nat) : Int)) : Int).toNat = to_ + 25 from by omega] at hC
                    refine y_aload hM hl 21 rfl dL_law_1437 ?_
                    refine y_aload hM hl 20 rfl dL_law_1439 ?_
                    refine y_iload hM hl 8 rfl dL_law_1441 ?_
                    refine y_iald hM hC hLK.2.2.2.1 rfl ⟨by omega, by omega⟩ (by decide) (x := ((mv : Nat) : Int)) (by rw [show ((9) * (((k : Nat) : Int)) : Int).toNat = 9 * k from by omega, up_of (by omega), up_of (by omega), up_of (by omega), hmv0]) dL_law_1443 ?_
                    refine y_lload hM hl 2 rfl dL_law_1444 ?_
                    refine y_lload hM hl 4 rfl dL_law_1446 ?_
                    refine y_lcmp hM (by constructor <;> omega) (by constructor <;> omega) dL_law_1448 ?_
                    have hcl_1448 := cmpI_le (timT T k (T 11 k 5 + lateT T k (T 0 0 5))) (gotT T k 1)
                    have hcg_1448 := cmpI_gt (timT T k (T 11 k 5 + lateT T k (T 0 0 5))) (gotT T k 1)
                    have hce_1448 := cmpI_eq (timT T k (T 11 k 5 + lateT T k (T 0 0 5))) (gotT T k 1)
                    refine y_if_le hM (cmpI_in _ _) (tgt := 1457) dL_law_1449 (by decide) (fun c_1449 => False.elim (by omega)) (fun c_1449 => ?_)
                    refine y_lload hM hl 2 rfl dL_law_1452 ?_
                    refine lv_goto (tgt := 1459) hM.1 hM.2.1 dL_law_1454 (by decide) ?_
                    refine y_last hM hC hLK.2.2.1 (fun _ _ => rfl) ⟨by omega, by omega⟩ (by decide) dL_law_1459 (fun H locs hC => ?_)
                    rw [show (((mv : Nat) : Int) : Int).toNat = mv from by omega] at hC
                    refine y_aload_n hM hl 22 rfl rfl dL_law_1460 ?_
                    refine y_iconst hM dL_law_1461 ?_
                    refine y_aload hM hl 20 rfl dL_law_1462 ?_
                    refine y_iload hM hl 8 rfl dL_law_1464 ?_
                    refine y_iald hM hC hLK.2.2.2.1 rfl ⟨by omega, by omega⟩ (by decide) (x := ((mv : Nat) : Int)) (by rw [show ((9) * (((k : Nat) : Int)) : Int).toNat = 9 * k from by omega, up_of (by omega), up_of (by omega), up_of (by omega), up_of (by omega), hmv0]) dL_law_1466 ?_
                    refine y_imul hM dL_law_1467 ?_
                    refine y_aload hM hl 20 rfl dL_law_1468 ?_
                    refine y_iload hM hl 8 rfl dL_law_1470 ?_
                    refine y_iconst hM dL_law_1472 ?_
                    refine y_iadd hM dL_law_1473 ?_
                    refine y_iald hM hC hLK.2.2.2.1 rfl ⟨by omega, by omega⟩ (by decide) (x := T 11 k 2) (by rw [show (((9) * (((k : Nat) : Int))) + (2) : Int).toNat = 9 * k + 2 from by omega, up_of (by omega), up_of (by omega), up_of (by omega), up_of (by omega), ho.2.2.1]) dL_law_1474 ?_
                    refine y_iast hM hC hLK.2.1 (fun _ _ => rfl) ⟨by omega, by omega⟩ (by decide) dL_law_1475 (fun H locs hC => ?_)
                    rw [show ((2) * (((mv : Nat) : Int)) : Int).toNat = 2 * mv from by omega] at hC
                    refine y_aload_n hM hl 22 rfl rfl dL_law_1476 ?_
                    refine y_iconst hM dL_law_1477 ?_
                    refine y_aload hM hl 20 rfl dL_law_1478 ?_
                    refine y_iload hM hl 8 rfl dL_law_1480 ?_
                    refine y_iald hM hC hLK.2.2.2.1 rfl ⟨by omega, by omega⟩ (by decide) (x := ((mv : Nat) : Int)) (by rw [show ((9) * (((k : Nat) : Int)) : Int).toNat = 9 * k from by omega, up_of (by omega), up_of (by omega), up_of (by omega), up_of (by omega), up_of (by omega), hmv0]) dL_law_1482 ?_
                    refine y_imul hM dL_law_1483 ?_
                    refine y_iconst hM dL_law_1484 ?_
                    refine y_iadd hM dL_law_1485 ?_
                    refine y_iconst hM dL_law_1486 ?_
                    refine y_iast hM hC hLK.2.1 (fun _ _ => rfl) ⟨by omega, by omega⟩ (by decide) dL_law_1487 (fun H locs hC => ?_)
                    rw [show (((2) * (((mv : Nat) : Int))) + (1) : Int).toNat = 2 * mv + 1 from by omega] at hC
                    refine y_aload hM hl 19 rfl dL_law_1488 ?_
                    refine y_iconst hM dL_law_1490 ?_
                    refine y_iload hM hl 10 rfl dL_law_1491 ?_
                    refine y_imul hM dL_law_1493 ?_
                    refine y_iconst hM dL_law_1494 ?_
                    refine y_iadd hM dL_law_1495 ?_
                    refine y_iload hM hl 7 rfl dL_law_1496 ?_
                    refine y_i2l hM (by constructor <;> omega) dL_law_1498 ?_
                    refine y_last hM hC hLK.2.2.2.2.1 (fun _ _ => rfl) ⟨by omega, by omega⟩ (by decide) dL_law_1499 (fun H locs hC => ?_)
                    rw [show (((4) * (((k : Nat) : Int))) + (3) : Int).toNat = 4 * k + 3 from by omega] at hC
                    refine y_aload hM hl 20 rfl dL_law_1500 ?_
                    refine y_iload hM hl 8 rfl dL_law_1502 ?_
                    refine y_iconst hM dL_law_1504 ?_
                    refine y_iadd hM dL_law_1505 ?_
                    refine lv_dup2_11 hM.1 hM.2.1 dL_law_1506 rfl rfl ?_
                    refine y_iald hM hC hLK.2.2.2.1 rfl ⟨by omega, by omega⟩ (by decide) (x := T 11 k 3) (by rw [show (((9) * (((k : Nat) : Int))) + (3) : Int).toNat = 9 * k + 3 from by omega, up_of (by omega), up_of (by omega), up_of (by omega), up_of (by omega), up_of (by omega), up_of (by omega), up_of (by omega), ho.2.2.2.1]) dL_law_1507 ?_
                    refine y_iconst hM dL_law_1508 ?_
                    refine y_iadd hM dL_law_1509 ?_
                    refine y_iast hM hC hLK.2.2.2.1 (fun _ _ => rfl) ⟨by omega, by omega⟩ (by decide) dL_law_1510 (fun H locs hC => ?_)
                    rw [show (((9) * (((k : Nat) : Int))) + (3) : Int).toNat = 9 * k + 3 from by omega] at hC
                    refine y_iload hM hl 9 rfl dL_law_1511 ?_
                    refine y_if_eq hM (by constructor <;> omega) (tgt := 1525) dL_law_1513 (by decide) (fun c_1513 => False.elim (by omega)) (fun c_1513 => ?_)
                    obtain ⟨T1, hT1⟩ : ∃ X : TT, X = (up (up (up (up (up (up (up (up T 54 0 (4 * k + 2) ((timT T k (T 11 k 5 + lateT T k (T 0 0 5))) - (gotT T k 1))) 55 0 (5 * fr + to_) ((T 55 0 (5 * fr + to_)) + (((coF (timT T k (T 11 k 5 + lateT T k (T 0 0 5)) - gotT T k 1) (valT T (T 11 k 2).toNat (T 0 0 5))) * (T 11 k 5)) / ((T 11 k 5) + (lateT T k (T 0 0 5)))))) 55 0 (to_ + 25) ((T 55 0 (to_ + 25)) + ((coF (timT T k (T 11 k 5 + lateT T k (T 0 0 5)) - gotT T k 1) (valT T (T 11 k 2).toNat (T 0 0 5))) - (((coF (timT T k (T 11 k 5 + lateT T k (T 0 0 5)) - gotT T k 1) (valT T (T 11 k 2).toNat (T 0 0 5))) * (T 11 k 5)) / ((T 11 k 5) + (lateT T k (T 0 0 5))))))) 52 0 (mv) (timT T k (T 11 k 5 + lateT T k (T 0 0 5)))) 51 0 (2 * mv) (T 11 k 2)) 51 0 (2 * mv + 1) (0)) 54 0 (4 * k + 3) (lateT T k (T 0 0 5))) 53 0 (9 * k + 3) ((T 11 k 3) + (1))) := ⟨_, rfl⟩
                    rw [← hT1] at hC
                    have hlo : LoE T1 T := by
                      rw [hT1]
                      exact ((((((((LoE.r.hi (by decide)).hi (by decide)).hi (by decide)).hi (by decide)).hi (by decide)).hi (by decide)).hi (by decide)).hi (by decide))
                    obtain ⟨hCK1, hNC1, hR1, hz1⟩ := hI.mid hlo
                    obtain ⟨hF1, hRK1, hSK1, hOK1, hKF1, hLK1⟩ := id hCK1
                    obtain ⟨hRN1, hDN1, hSN1, hON1, -, -, -⟩ := id hNC1
                    have h05 : T1 0 0 5 = T 0 0 5 := by rw [hz1]
                    have h06 : T1 0 0 6 = T 0 0 6 := by rw [hz1]
                    have h07 : T1 0 0 7 = T 0 0 7 := by rw [hz1]
                    have h08 : T1 0 0 8 = T 0 0 8 := by rw [hz1]
                    obtain ⟨m1, m2, m3, m4⟩ := stp_mid hlo k 1
                    refine y_aload_n hM hl 24 rfl rfl dL_law_1516 ?_
                    refine y_iload hM hl 10 rfl dL_law_1517 ?_
                    refine y_callV hM hC (c_force l hfl G b0 ks ad T1 P (((k : Nat) : Int)) ⟨by omega, by omega⟩ hF1 hRK1 hRN1 hDN1 hSK1 hSN1 hOK1 hON1) (cwV 1 hM.2.2.2.2 gL_law_X3_force rfl rfl rfl (by decide +kernel) ⟨(Nat.le_of_ble_eq_true rfl), (Nat.le_of_ble_eq_true rfl)⟩) (y_recv hC hF1.1 rfl rfl) rfl hl.1 rfl (Nat.le_of_ble_eq_true rfl) dL_law_1519 ⟨(show _ ≤ 602294 by omega), (show _ ≤ 7294300 by omega)⟩ (fun E ce q9 u1 H locs hx hC hce hcv hcl => by
                        obtain ⟨x, rfl, hx, hu⟩ := hx; rw [hu] at hC; clear hu; try dsimp only at hx
                        exact False.elim ((by simp only [Int.toNat_natCast, m1, m2, m3, m4, h08] at hx; omega))) (fun v u1 H locs hp hC => ?_)
                    obtain ⟨r_1519, rfl, h_1519, hu⟩ := hp; rw [hu] at hC; clear hu
                    try dsimp only at h_1519
                    refine W.eq (g2 := F0 m 1522 ls [.int (iI (r_1519))]) rfl ?_
                    simp only [Int.toNat_natCast, m3] at h_1519
                    rw [Int.toNat_natCast] at hC
                    refine lv_goto (tgt := 1531) hM.1 hM.2.1 dL_law_1522 (by decide) ?_
                    refine y_iload hM hl 7 rfl dL_law_1531 ?_
                    refine y_icmp_eq hM (by constructor <;> omega) (by constructor <;> omega) (tgt := 1538) dL_law_1533 (by decide) (fun c_1533 => ?_) (fun c_1533 => False.elim (by omega))
                    refine lv_goto (tgt := 1608) hM.1 hM.2.1 dL_law_1538 (by decide) ?_
                    exact kk _ _ _ _ _ _ _ _ ls (by omega) (by omega) hC (op_stp hI hlo hk8 (by omega) (fun _ => by omega) (fun r1 n1 => by
                          have hlk := hlkp (by omega) (by omega)
                          have emv : mv = mvT T1 k := by rw [mvT_lo hlo]; exact hmv
                          have e0 : ∀ lb, allL T1 k lb = allL T k lb := fun lb => by unfold allL; rw [m1]
                          have e9 : ∀ p, T1 9 p = T 9 p := fun p => hlo 9 p (by omega)
                          have e3 : T1 3 0 = T 3 0 := hlo 3 0 (by omega)
                          refine R2_s2 (M := T) (M' := T1) (k := k) (i := mv) (f := 1) r1 n1 (by omega) ⟨emv, by omega⟩ (by rw [m1]; omega) ?_ ?_ ?_ ?_ ?_ ?_ ?_ ?_ ?_ ?_ ?_ ?_ ?_ ?_
                          · intro j hj
                            rw [hT1, up_of (by omega), up_of (by omega), up_of (by omega), up_of (by omega), up_of (by omega), up_of (by omega), up_of (by omega), up_of (by omega)]
                          · rw [hT1, up_at rfl]
                            omega
                          · intro j hj1 hj2
                            rw [hT1, up_of (by omega), up_of (by omega), up_of (by omega), up_of (by omega), up_of (by omega), up_of (by omega), up_of (by omega), up_of (by omega)]
                          · rw [m3, m4, hlk]
                            rw [hT1, up_of (by omega), up_of (by omega), up_of (by omega), up_of (by omega), up_of (by omega), up_of (by omega), up_of (by omega), up_at rfl]
                          · rw [m3]
                            rw [hT1, up_of (by omega), up_at rfl]
                          · intro j hj
                            rw [hT1, up_of (by omega), up_of (by omega), up_of (by omega), up_of (by omega), up_of (by omega), up_of (by omega), up_of (by omega), up_of (by omega)]
                          · rw [m2, m3, m4, hlk]
                            rw [hT1, up_of (by omega), up_of (by omega), up_of (by omega), up_of (by omega), up_at rfl]
                            try omega
                          · intro j hj1 hj2
                            rw [hT1, up_of (by omega), up_of (by omega), up_of (by omega), up_of (by omega), up_of (by omega), up_of (by omega), up_of (by omega), up_of (by omega)]
                          · rw [m1]
                            rw [hT1, up_of (by omega), up_of (by omega), up_of (by omega), up_at rfl]
                          · rw [hT1, up_of (by omega), up_of (by omega), up_at rfl]
                          · intro p q hp hq
                            rw [buyT_9, e0, m3, m4, m1, e9, valT_lo hlo, h05, hlk, if_neg (by rw [hall]; omega), hall]
                            have hd := hRD.1 p q hp hq
                            by_cases e : p = fr ∧ q = to_
                            · rw [if_pos ⟨by omega, by omega⟩, hT1, up_of (by omega), up_of (by omega), up_of (by omega), up_of (by omega), up_of (by omega), up_of (by omega), up_at (by omega), show 5 * fr + to_ = 5 * p + q by omega, hd]
                            · rw [if_neg (by omega), hT1, up_of (by omega), up_of (by omega), up_of (by omega), up_of (by omega), up_of (by omega), up_of (by omega), up_of (by omega), up_of (by omega), hd]
                              omega
                          · intro p hp
                            rw [buyT_r, e0, m3, m4, m1, e3, valT_lo hlo, h05, hlk, if_neg (by rw [hall]; omega), hall]
                            have hd := hRD.2 p hp
                            by_cases e : p = to_
                            · rw [if_pos (by omega), hT1, up_of (by omega), up_of (by omega), up_of (by omega), up_of (by omega), up_of (by omega), up_at (by omega), show to_ + 25 = 25 + p by omega, hd]
                            · rw [if_neg (by omega), hT1, up_of (by omega), up_of (by omega), up_of (by omega), up_of (by omega), up_of (by omega), up_of (by omega), up_of (by omega), up_of (by omega), hd]
                              omega
                          · funext j
                            rw [hT1, up_of (by omega), up_of (by omega), up_of (by omega), up_of (by omega), up_of (by omega), up_of (by omega), up_of (by omega), up_of (by omega)]
                          · funext j
                            rw [hT1, up_of (by omega), up_of (by omega), up_of (by omega), up_of (by omega), up_of (by omega), up_of (by omega), up_of (by omega), up_of (by omega)])) ⟨hl.1, hl.2.1, fun q hq => hl.2.2 q ((List.forall_mem_cons.mpr ⟨List.mem_of_getElem? (i := 14) rfl, (List.forall_mem_cons.mpr ⟨List.mem_of_getElem? (i := 16) rfl, (List.forall_mem_cons.mpr ⟨List.mem_of_getElem? (i := 17) rfl, (List.forall_mem_cons.mpr ⟨List.mem_of_getElem? (i := 18) rfl, (List.forall_mem_cons.mpr ⟨List.mem_of_getElem? (i := 19) rfl, (List.forall_mem_cons.mpr ⟨List.mem_of_getElem? (i := 20) rfl, (List.forall_mem_cons.mpr ⟨List.mem_of_getElem? (i := 21) rfl, (List.forall_mem_cons.mpr ⟨List.mem_of_getElem? (i := 22) rfl, (List.forall_mem_cons.mpr ⟨List.mem_of_getElem? (i := 23) rfl, (List.forall_mem_cons.mpr ⟨List.mem_of_getElem? (i := 24) rfl, (List.forall_mem_cons.mpr ⟨List.mem_of_getElem? (i := 25) rfl, (fun _ h => absurd h List.not_mem_nil)⟩)⟩)⟩)⟩)⟩)⟩)⟩)⟩)⟩)⟩)⟩) q hq)⟩
                ·
                  refine y_iconst hM dL_law_1065 ?_
                  refine lv_istore (lv' := [(19, .int (iI (3))), (24, .long (lI (timT T k (T 11 k 5 + lateT T k (T 0 0 5))))), (22, .long (lI (gotT T k 1))), (21, .int (iI (T 0 0 6))), (20, .int (iI (T 11 k 3))), (18, .int (iI (lateT T k (T 0 0 5)))), (17, .int (iI ((9) * (((k : Nat) : Int))))), (16, .int (iI (1))), (15, .int (iI (((k : Nat) : Int)))), (14, .int (iI (((sv : Nat) : Int)))), (13, .int (iI (((pv : Nat) : Int)))), (12, .int (iI (kd))), (11, .int (iI (yy))), (10, .int (iI (xx))), (9, .int (iI (((i : Nat) : Int)))), (8, .ref (ad 56 0)), (7, .ref (ad 55 0)), (6, .ref (ad 54 0)), (5, .ref (ad 53 0)), (4, .ref (ad 52 0)), (3, .ref (ad 51 0)), (2, .ref (ad 50 0)), (1, .ref (ad 0 0)), (0, .ref b)]) hM.1 hM.2.1 dL_law_1066 hl (by decide) rfl (fun ls hl => ?_)
                  refine y_iload hM hl 0 rfl dL_law_1068 ?_
                  refine y_if_le hM (by constructor <;> omega) (tgt := 1097) dL_law_1070 (by decide) (fun c_1070 => False.elim (by omega)) (fun c_1070 => ?_)
                  refine y_aload_n hM hl 22 rfl rfl dL_law_1073 ?_
                  refine y_iload hM hl 7 rfl dL_law_1074 ?_
                  refine y_if_eq hM (by constructor <;> omega) (tgt := 1083) dL_law_1076 (by decide) (fun c_1076 => False.elim (by omega)) (fun c_1076 => ?_)
                  refine y_iconst hM dL_law_1079 ?_
                  refine lv_goto (tgt := 1084) hM.1 hM.2.1 dL_law_1080 (by decide) ?_
                  refine y_iload hM hl 8 rfl dL_law_1084 ?_
                  refine y_iconst hM dL_law_1086 ?_
                  refine y_callSX hM hN hC (c_ref_force l hfl G b0 ks ad T P (((k : Nat) : Int)) (0) ⟨by omega, by omega⟩ ⟨by omega, by omega⟩ hF hRK hRN hDN hSK hSN hOK hON (by simp only [Int.toNat_natCast]; omega)) (vx_cwSW 4 hM.2.2.2.2 gL_law_L_refused rfl rfl rfl (by decide +kernel) ⟨(Nat.le_of_ble_eq_true rfl), (Nat.le_of_ble_eq_true rfl)⟩) rfl hl.1 rfl (Nat.le_of_ble_eq_true rfl) dL_law_1087 ⟨(show _ ≤ 602294 by omega), (show _ ≤ 7294300 by omega)⟩ (fun E ce q9 u1 H locs hx hC hce hcv hcl => hx.elim) (fun v u1 H locs hp hC => ?_)
                  obtain ⟨r_1087, rfl, h_1087, hu⟩ := hp; rw [hu] at hC; clear hu
                  try dsimp only at h_1087
                  refine W.eq (g2 := F0 m 1090 ls [.int (iI (r_1087))]) rfl ?_
                  refine y_iload hM hl 0 rfl dL_law_1090 ?_
                  refine y_icmp_eq hM (by constructor <;> omega) (by constructor <;> omega) (tgt := 1643) dL_law_1092 (by decide) (fun c_1092 => ?_) (fun c_1092 => False.elim (by omega))
                  exact kn _ _ _ _ _ _ _ _ ls (by omega) (by omega) hC hI ⟨hl.1, hl.2.1, fun q hq => hl.2.2 q ((List.forall_mem_cons.mpr ⟨List.mem_of_getElem? (i := 14) rfl, (List.forall_mem_cons.mpr ⟨List.mem_of_getElem? (i := 15) rfl, (List.forall_mem_cons.mpr ⟨List.mem_of_getElem? (i := 16) rfl, (List.forall_mem_cons.mpr ⟨List.mem_of_getElem? (i := 17) rfl, (List.forall_mem_cons.mpr ⟨List.mem_of_getElem? (i := 18) rfl, (List.forall_mem_cons.mpr ⟨List.mem_of_getElem? (i := 19) rfl, (List.forall_mem_cons.mpr ⟨List.mem_of_getElem? (i := 20) rfl, (List.forall_mem_cons.mpr ⟨List.mem_of_getElem? (i := 21) rfl, (List.forall_mem_cons.mpr ⟨List.mem_of_getElem? (i := 22) rfl, (List.forall_mem_cons.mpr ⟨List.mem_of_getElem? (i := 23) rfl, (fun _ h => absurd h List.not_mem_nil)⟩)⟩)⟩)⟩)⟩)⟩)⟩)⟩)⟩)⟩) q hq)⟩
        ·
          refine y_iconst hM dL_law_927 ?_
          refine lv_goto (tgt := 932) hM.1 hM.2.1 dL_law_928 (by decide) ?_
          refine lv_istore (lv' := [(19, .int (iI (3))), (18, .int (iI (lateT T k (T 0 0 5)))), (17, .int (iI ((9) * (((k : Nat) : Int))))), (16, .int (iI (1))), (15, .int (iI (((k : Nat) : Int)))), (14, .int (iI (((sv : Nat) : Int)))), (13, .int (iI (((pv : Nat) : Int)))), (12, .int (iI (kd))), (11, .int (iI (yy))), (10, .int (iI (xx))), (9, .int (iI (((i : Nat) : Int)))), (8, .ref (ad 56 0)), (7, .ref (ad 55 0)), (6, .ref (ad 54 0)), (5, .ref (ad 53 0)), (4, .ref (ad 52 0)), (3, .ref (ad 51 0)), (2, .ref (ad 50 0)), (1, .ref (ad 0 0)), (0, .ref b)]) hM.1 hM.2.1 dL_law_932 hl (by decide) rfl (fun ls hl => ?_)
          refine y_aload hM hl 14 rfl dL_law_934 ?_
          refine y_iload hM hl 2 rfl dL_law_936 ?_
          refine y_iconst hM dL_law_938 ?_
          refine y_iadd hM dL_law_939 ?_
          refine y_iald hM hC hLK.2.2.2.1 rfl ⟨by omega, by omega⟩ (by decide) (x := T 11 k 3) (by rw [show (((9) * (((k : Nat) : Int))) + (3) : Int).toNat = 9 * k + 3 from by omega, ho.2.2.2.1]) dL_law_940 ?_
          refine lv_istore (lv' := [(20, .int (iI (T 11 k 3))), (19, .int (iI (3))), (18, .int (iI (lateT T k (T 0 0 5)))), (17, .int (iI ((9) * (((k : Nat) : Int))))), (16, .int (iI (1))), (15, .int (iI (((k : Nat) : Int)))), (14, .int (iI (((sv : Nat) : Int)))), (13, .int (iI (((pv : Nat) : Int)))), (12, .int (iI (kd))), (11, .int (iI (yy))), (10, .int (iI (xx))), (9, .int (iI (((i : Nat) : Int)))), (8, .ref (ad 56 0)), (7, .ref (ad 55 0)), (6, .ref (ad 54 0)), (5, .ref (ad 53 0)), (4, .ref (ad 52 0)), (3, .ref (ad 51 0)), (2, .ref (ad 50 0)), (1, .ref (ad 0 0)), (0, .ref b)]) hM.1 hM.2.1 dL_law_941 hl (by decide) rfl (fun ls hl => ?_)
          refine y_iload hM hl 1 rfl dL_law_943 ?_
          refine y_if_ne hM (by constructor <;> omega) (tgt := 1068) dL_law_945 (by decide) (fun c_945 => ?_) (fun c_945 => False.elim (by omega))
          refine y_iload hM hl 1 rfl dL_law_1068 ?_
          refine y_if_le hM (by constructor <;> omega) (tgt := 1097) dL_law_1070 (by decide) (fun c_1070 => False.elim (by omega)) (fun c_1070 => ?_)
          refine y_aload_n hM hl 19 rfl rfl dL_law_1073 ?_
          refine y_iload hM hl 4 rfl dL_law_1074 ?_
          refine y_if_eq hM (by constructor <;> omega) (tgt := 1083) dL_law_1076 (by decide) (fun c_1076 => False.elim (by omega)) (fun c_1076 => ?_)
          refine y_iconst hM dL_law_1079 ?_
          refine lv_goto (tgt := 1084) hM.1 hM.2.1 dL_law_1080 (by decide) ?_
          refine y_iload hM hl 5 rfl dL_law_1084 ?_
          refine y_iconst hM dL_law_1086 ?_
          refine y_callSX hM hN hC (c_ref_force l hfl G b0 ks ad T P (((k : Nat) : Int)) (0) ⟨by omega, by omega⟩ ⟨by omega, by omega⟩ hF hRK hRN hDN hSK hSN hOK hON (by simp only [Int.toNat_natCast]; omega)) (vx_cwSW 4 hM.2.2.2.2 gL_law_L_refused rfl rfl rfl (by decide +kernel) ⟨(Nat.le_of_ble_eq_true rfl), (Nat.le_of_ble_eq_true rfl)⟩) rfl hl.1 rfl (Nat.le_of_ble_eq_true rfl) dL_law_1087 ⟨(show _ ≤ 602294 by omega), (show _ ≤ 7294300 by omega)⟩ (fun E ce q9 u1 H locs hx hC hce hcv hcl => hx.elim) (fun v u1 H locs hp hC => ?_)
          obtain ⟨r_1087, rfl, h_1087, hu⟩ := hp; rw [hu] at hC; clear hu
          try dsimp only at h_1087
          refine W.eq (g2 := F0 m 1090 ls [.int (iI (r_1087))]) rfl ?_
          refine y_iload hM hl 1 rfl dL_law_1090 ?_
          refine y_icmp_eq hM (by constructor <;> omega) (by constructor <;> omega) (tgt := 1643) dL_law_1092 (by decide) (fun c_1092 => ?_) (fun c_1092 => False.elim (by omega))
          exact kn _ _ _ _ _ _ _ _ ls (by omega) (by omega) hC hI ⟨hl.1, hl.2.1, fun q hq => hl.2.2 q ((List.forall_mem_cons.mpr ⟨List.mem_of_getElem? (i := 11) rfl, (List.forall_mem_cons.mpr ⟨List.mem_of_getElem? (i := 12) rfl, (List.forall_mem_cons.mpr ⟨List.mem_of_getElem? (i := 13) rfl, (List.forall_mem_cons.mpr ⟨List.mem_of_getElem? (i := 14) rfl, (List.forall_mem_cons.mpr ⟨List.mem_of_getElem? (i := 15) rfl, (List.forall_mem_cons.mpr ⟨List.mem_of_getElem? (i := 16) rfl, (List.forall_mem_cons.mpr ⟨List.mem_of_getElem? (i := 17) rfl, (List.forall_mem_cons.mpr ⟨List.mem_of_getElem? (i := 18) rfl, (List.forall_mem_cons.mpr ⟨List.mem_of_getElem? (i := 19) rfl, (List.forall_mem_cons.mpr ⟨List.mem_of_getElem? (i := 20) rfl, (fun _ h => absurd h List.not_mem_nil)⟩)⟩)⟩)⟩)⟩)⟩)⟩)⟩)⟩)⟩) q hq)⟩
      ·
        have hlt : lateT T k (T 0 0 5) = 0 := by
          unfold lateT
          rw [if_neg (by omega)]
        refine y_iconst hM dL_law_875 ?_
        refine lv_goto (tgt := 891) hM.1 hM.2.1 dL_law_876 (by decide) ?_
        refine W.eq (g2 := F0 m 891 ls [.int (iI (lateT T k (T 0 0 5)))]) (by rw [hlt]) ?_
        refine lv_istore (lv' := [(18, .int (iI (lateT T k (T 0 0 5)))), (17, .int (iI ((9) * (((k : Nat) : Int))))), (16, .int (iI (1))), (15, .int (iI (((k : Nat) : Int)))), (14, .int (iI (((sv : Nat) : Int)))), (13, .int (iI (((pv : Nat) : Int)))), (12, .int (iI (kd))), (11, .int (iI (yy))), (10, .int (iI (xx))), (9, .int (iI (((i : Nat) : Int)))), (8, .ref (ad 56 0)), (7, .ref (ad 55 0)), (6, .ref (ad 54 0)), (5, .ref (ad 53 0)), (4, .ref (ad 52 0)), (3, .ref (ad 51 0)), (2, .ref (ad 50 0)), (1, .ref (ad 0 0)), (0, .ref b)]) hM.1 hM.2.1 dL_law_891 hl (by decide) rfl (fun ls hl => ?_)
        refine y_aload hM hl 10 rfl dL_law_893 ?_
        refine y_iconst hM dL_law_895 ?_
        refine y_iald hM hC hLK.2.2.2.2.2.2 rfl ⟨by omega, by omega⟩ (by decide) (x := T 0 0 8) (by rw [show ((2 : Int)).toNat = 2 from rfl, hg2]) dL_law_896 ?_
        refine y_if_ne hM (by constructor <;> omega) (tgt := 904) dL_law_897 (by decide) (fun c_897 => ?_) (fun c_897 => False.elim (by omega))
        refine y_aload hM hl 13 rfl dL_law_904 ?_
        refine y_iload hM hl 1 rfl dL_law_906 ?_
        refine y_iconst hM dL_law_908 ?_
        refine y_iadd hM dL_law_909 ?_
        refine y_iald hM hC hLK.2.2.2.1 rfl ⟨by omega, by omega⟩ (by decide) (x := T 11 k 3) (by rw [show (((9) * (((k : Nat) : Int))) + (3) : Int).toNat = 9 * k + 3 from by omega, ho.2.2.2.1]) dL_law_910 ?_
        refine y_iconst hM dL_law_911 ?_
        refine y_icmp_eq hM (by constructor <;> omega) (by constructor <;> omega) (tgt := 927) dL_law_912 (by decide) (fun c_912 => False.elim (by omega)) (fun c_912 => ?_)
        refine y_iload hM hl 2 rfl dL_law_915 ?_
        refine y_if_eq hM (by constructor <;> omega) (tgt := 931) dL_law_917 (by decide) (fun c_917 => False.elim (by omega)) (fun c_917 => ?_)
        refine y_iload hM hl 0 rfl dL_law_920 ?_
        refine y_bipush hM dL_law_922 (by decide) ?_
        refine y_icmp_ge hM (by constructor <;> omega) (by constructor <;> omega) (tgt := 931) dL_law_924 (by decide) (fun c_924 => False.elim (by omega)) (fun c_924 => ?_)
        refine y_iconst hM dL_law_927 ?_
        refine lv_goto (tgt := 932) hM.1 hM.2.1 dL_law_928 (by decide) ?_
        refine lv_istore (lv' := [(19, .int (iI (3))), (18, .int (iI (lateT T k (T 0 0 5)))), (17, .int (iI ((9) * (((k : Nat) : Int))))), (16, .int (iI (1))), (15, .int (iI (((k : Nat) : Int)))), (14, .int (iI (((sv : Nat) : Int)))), (13, .int (iI (((pv : Nat) : Int)))), (12, .int (iI (kd))), (11, .int (iI (yy))), (10, .int (iI (xx))), (9, .int (iI (((i : Nat) : Int)))), (8, .ref (ad 56 0)), (7, .ref (ad 55 0)), (6, .ref (ad 54 0)), (5, .ref (ad 53 0)), (4, .ref (ad 52 0)), (3, .ref (ad 51 0)), (2, .ref (ad 50 0)), (1, .ref (ad 0 0)), (0, .ref b)]) hM.1 hM.2.1 dL_law_932 hl (by decide) rfl (fun ls hl => ?_)
        refine y_aload hM hl 14 rfl dL_law_934 ?_
        refine y_iload hM hl 2 rfl dL_law_936 ?_
        refine y_iconst hM dL_law_938 ?_
        refine y_iadd hM dL_law_939 ?_
        refine y_iald hM hC hLK.2.2.2.1 rfl ⟨by omega, by omega⟩ (by decide) (x := T 11 k 3) (by rw [show (((9) * (((k : Nat) : Int))) + (3) : Int).toNat = 9 * k + 3 from by omega, ho.2.2.2.1]) dL_law_940 ?_
        refine lv_istore (lv' := [(20, .int (iI (T 11 k 3))), (19, .int (iI (3))), (18, .int (iI (lateT T k (T 0 0 5)))), (17, .int (iI ((9) * (((k : Nat) : Int))))), (16, .int (iI (1))), (15, .int (iI (((k : Nat) : Int)))), (14, .int (iI (((sv : Nat) : Int)))), (13, .int (iI (((pv : Nat) : Int)))), (12, .int (iI (kd))), (11, .int (iI (yy))), (10, .int (iI (xx))), (9, .int (iI (((i : Nat) : Int)))), (8, .ref (ad 56 0)), (7, .ref (ad 55 0)), (6, .ref (ad 54 0)), (5, .ref (ad 53 0)), (4, .ref (ad 52 0)), (3, .ref (ad 51 0)), (2, .ref (ad 50 0)), (1, .ref (ad 0 0)), (0, .ref b)]) hM.1 hM.2.1 dL_law_941 hl (by decide) rfl (fun ls hl => ?_)
        refine y_iload hM hl 1 rfl dL_law_943 ?_
        refine y_if_ne hM (by constructor <;> omega) (tgt := 1068) dL_law_945 (by decide) (fun c_945 => ?_) (fun c_945 => False.elim (by omega))
        refine y_iload hM hl 1 rfl dL_law_1068 ?_
        refine y_if_le hM (by constructor <;> omega) (tgt := 1097) dL_law_1070 (by decide) (fun c_1070 => False.elim (by omega)) (fun c_1070 => ?_)
        refine y_aload_n hM hl 19 rfl rfl dL_law_1073 ?_
        refine y_iload hM hl 4 rfl dL_law_1074 ?_
        refine y_if_eq hM (by constructor <;> omega) (tgt := 1083) dL_law_1076 (by decide) (fun c_1076 => False.elim (by omega)) (fun c_1076 => ?_)
        refine y_iconst hM dL_law_1079 ?_
        refine lv_goto (tgt := 1084) hM.1 hM.2.1 dL_law_1080 (by decide) ?_
        refine y_iload hM hl 5 rfl dL_law_1084 ?_
        refine y_iconst hM dL_law_1086 ?_
        refine y_callSX hM hN hC (c_ref_force l hfl G b0 ks ad T P (((k : Nat) : Int)) (0) ⟨by omega, by omega⟩ ⟨by omega, by omega⟩ hF hRK hRN hDN hSK hSN hOK hON (by simp only [Int.toNat_natCast]; omega)) (vx_cwSW 4 hM.2.2.2.2 gL_law_L_refused rfl rfl rfl (by decide +kernel) ⟨(Nat.le_of_ble_eq_true rfl), (Nat.le_of_ble_eq_true rfl)⟩) rfl hl.1 rfl (Nat.le_of_ble_eq_true rfl) dL_law_1087 ⟨(show _ ≤ 602294 by omega), (show _ ≤ 7294300 by omega)⟩ (fun E ce q9 u1 H locs hx hC hce hcv hcl => hx.elim) (fun v u1 H locs hp hC => ?_)
        obtain ⟨r_1087, rfl, h_1087, hu⟩ := hp; rw [hu] at hC; clear hu
        try dsimp only at h_1087
        refine W.eq (g2 := F0 m 1090 ls [.int (iI (r_1087))]) rfl ?_
        refine y_iload hM hl 1 rfl dL_law_1090 ?_
        refine y_icmp_eq hM (by constructor <;> omega) (by constructor <;> omega) (tgt := 1643) dL_law_1092 (by decide) (fun c_1092 => ?_) (fun c_1092 => False.elim (by omega))
        exact kn _ _ _ _ _ _ _ _ ls (by omega) (by omega) hC hI ⟨hl.1, hl.2.1, fun q hq => hl.2.2 q ((List.forall_mem_cons.mpr ⟨List.mem_of_getElem? (i := 11) rfl, (List.forall_mem_cons.mpr ⟨List.mem_of_getElem? (i := 12) rfl, (List.forall_mem_cons.mpr ⟨List.mem_of_getElem? (i := 13) rfl, (List.forall_mem_cons.mpr ⟨List.mem_of_getElem? (i := 14) rfl, (List.forall_mem_cons.mpr ⟨List.mem_of_getElem? (i := 15) rfl, (List.forall_mem_cons.mpr ⟨List.mem_of_getElem? (i := 16) rfl, (List.forall_mem_cons.mpr ⟨List.mem_of_getElem? (i := 17) rfl, (List.forall_mem_cons.mpr ⟨List.mem_of_getElem? (i := 18) rfl, (List.forall_mem_cons.mpr ⟨List.mem_of_getElem? (i := 19) rfl, (List.forall_mem_cons.mpr ⟨List.mem_of_getElem? (i := 20) rfl, (fun _ h => absurd h List.not_mem_nil)⟩)⟩)⟩)⟩)⟩)⟩)⟩)⟩)⟩)⟩) q hq)⟩
