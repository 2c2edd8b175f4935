set_option maxRecDepth 100000 in
set_option maxHeartbeats 16000000 in
theorem law_turn {p : Program} {e : Env} {s : State} {m : MethodId} {below : List Frame} {meth : Method} {c : Code} {Q : State → Prop} (l : Launch) (hfl : l.stackTraces = false) (G : GG) (b0 : Nat) {b L : Nat} {xs : Nat → Int32} (hM : CallFix p m c cL_law 30 s #[Value.ref b] wsL_law RL) (hN : NcX s) (hX : va_X b L xs s s.heap) (hbA : ¬ b0 ≤ b) (hbl : b < s.heap.size) (hL : L ≤ 260) {ks : KK} {ad : AD} {T : TT} {P : PP} {H : Heap} {locs : List Loc} {cells slots : Nat} (hcl : cells + 400 ≤ 602294) (hsl : slots + 3000 ≤ 7294300) (i : Nat) (xx yy kd : Int) (pv sv k : Nat) (hkd : 0 ≤ kd ∧ kd < 20) (hpv : pv < 5) (hsv : (T 0 0 7 = 0 ∧ sv = 0) ∨ (sv : Int) < T 0 0 7) (hkv : (T 0 0 8 = 0 ∧ k = 0) ∨ (k : Int) < T 0 0 8) {ls : Array Slot} (hl : lv_has ls 30 [(15, .int (iI (((k : Nat) : Int)))), (14, .int (iI (((sv : Nat) : Int)))), (13, .int (iI (((pv : Nat) : Int)))), (12, .int (iI (kd))), (11, .int (iI (yy))), (10, .int (iI (xx))), (9, .int (iI (((i : Nat) : Int)))), (8, .ref (ad 56 0)), (7, .ref (ad 55 0)), (6, .ref (ad 54 0)), (5, .ref (ad 53 0)), (4, .ref (ad 52 0)), (3, .ref (ad 51 0)), (2, .ref (ad 50 0)), (1, .ref (ad 0 0)), (0, .ref b)]) (hC : Cur G b0 (ks, ad, T, P) s H locs) (hI : IV ks ad T P)
    (kk : ∀ (ks1 : KK) (ad1 : AD) (T1 : TT) (P1 : PP) (H1 : Heap) (locs1 : List Loc) (cells1 slots1 : Nat) (ls1 : Array Slot), cells1 ≤ cells + 40 → slots1 ≤ slots + 400 → Cur G b0 (ks1, ad1, T1, P1) s H1 locs1 → IV ks1 ad1 T1 P1 → lv_has ls1 30 [(11, .int (iI (yy))), (9, .int (iI (((i : Nat) : Int)))), (8, .ref (ad1 56 0)), (7, .ref (ad1 55 0)), (6, .ref (ad1 54 0)), (5, .ref (ad1 53 0)), (4, .ref (ad1 52 0)), (3, .ref (ad1 51 0)), (2, .ref (ad1 50 0)), (1, .ref (ad1 0 0)), (0, .ref b)] → W p l e room_1 s m #[Value.ref b] below meth c H1 locs1 cells1 slots1 Q (F0 m 1608 ls1 [])) (kn : ∀ (ks1 : KK) (ad1 : AD) (T1 : TT) (P1 : PP) (H1 : Heap) (locs1 : List Loc) (cells1 slots1 : Nat) (ls1 : Array Slot), cells1 ≤ cells + 400 → slots1 ≤ slots + 3000 → Cur G b0 (ks1, ad1, T1, P1) s H1 locs1 → IV ks1 ad1 T1 P1 → lv_has ls1 30 [(9, .int (iI (((i : Nat) : Int)))), (8, .ref (ad1 56 0)), (7, .ref (ad1 55 0)), (6, .ref (ad1 54 0)), (5, .ref (ad1 53 0)), (4, .ref (ad1 52 0)), (3, .ref (ad1 51 0)), (2, .ref (ad1 50 0)), (1, .ref (ad1 0 0)), (0, .ref b)] → W p l e room_1 s m #[Value.ref b] below meth c H1 locs1 cells1 slots1 Q (F0 m 1643 ls1 [])) :
    W p l e room_1 s m #[Value.ref b] below meth c H locs cells slots Q (F0 m 148 ls []) := by
  refine y_iload hM hl 3 rfl dL_law_148 ?_
  refine y_iconst hM dL_law_150 ?_
  refine y_icmp_ge hM (by constructor <;> omega) (by constructor <;> omega) (tgt := 332) dL_law_151 (by decide) (fun c_151 => ?_) (fun c_151 => ?_)
  ·
    refine y_iload hM hl 3 rfl dL_law_332 ?_
    refine y_iconst hM dL_law_334 ?_
    refine y_icmp_ne hM (by constructor <;> omega) (by constructor <;> omega) (tgt := 377) dL_law_335 (by decide) (fun c_335 => ?_) (fun c_335 => ?_)
    ·
      refine y_iload hM hl 3 rfl dL_law_377 ?_
      refine y_bipush hM dL_law_379 (by decide) ?_
      refine y_icmp_ge hM (by constructor <;> omega) (by constructor <;> omega) (tgt := 490) dL_law_381 (by decide) (fun c_381 => ?_) (fun c_381 => ?_)
      ·
        refine y_iload hM hl 3 rfl dL_law_490 ?_
        refine y_bipush hM dL_law_492 (by decide) ?_
        refine y_icmp_ne hM (by constructor <;> omega) (by constructor <;> omega) (tgt := 642) dL_law_494 (by decide) (fun c_494 => ?_) (fun c_494 => ?_)
        ·
          refine y_iload hM hl 3 rfl dL_law_642 ?_
          refine y_bipush hM dL_law_644 (by decide) ?_
          refine y_icmp_ge hM (by constructor <;> omega) (by constructor <;> omega) (tgt := 815) dL_law_646 (by decide) (fun c_646 => ?_) (fun c_646 => ?_)
          ·
            refine y_iload hM hl 3 rfl dL_law_815 ?_
            refine y_bipush hM dL_law_817 (by decide) ?_
            refine y_icmp_ge hM (by constructor <;> omega) (by constructor <;> omega) (tgt := 1541) dL_law_819 (by decide) (fun c_819 => ?_) (fun c_819 => ?_)
            ·
              exact law_pas l hfl G b0 hM hN hX hbA hbl hL hcl hsl i xx yy kd pv sv k hkd hpv hsv hkv hl hC hI kk kn
            ·
              refine y_iload hM hl 3 rfl dL_law_822 ?_
              refine y_bipush hM dL_law_824 (by decide) ?_
              refine y_icmp_le hM (by constructor <;> omega) (by constructor <;> omega) (tgt := 833) dL_law_826 (by decide) (fun c_826 => ?_) (fun c_826 => ?_)
              ·
                refine y_iconst hM dL_law_833 ?_
                refine lv_istore (lv' := [(16, .int (iI (0))), (15, .int (iI (((k : Nat) : Int)))), (14, .int (iI (((sv : Nat) : Int)))), (13, .int (iI (((pv : Nat) : Int)))), (12, .int (iI (kd))), (11, .int (iI (yy))), (10, .int (iI (xx))), (9, .int (iI (((i : Nat) : Int)))), (8, .ref (ad 56 0)), (7, .ref (ad 55 0)), (6, .ref (ad 54 0)), (5, .ref (ad 53 0)), (4, .ref (ad 52 0)), (3, .ref (ad 51 0)), (2, .ref (ad 50 0)), (1, .ref (ad 0 0)), (0, .ref b)]) hM.1 hM.2.1 dL_law_834 hl (by decide) rfl (fun ls hl => ?_)
                exact law_step l hfl G b0 hM hN hX hbA hbl hL hcl hsl i xx yy kd pv sv k hkd hpv hsv hkv hl hC hI kk kn
              ·
                refine y_iconst hM dL_law_829 ?_
                refine lv_goto (tgt := 834) hM.1 hM.2.1 dL_law_830 (by decide) ?_
                refine lv_istore (lv' := [(16, .int (iI (1))), (15, .int (iI (((k : Nat) : Int)))), (14, .int (iI (((sv : Nat) : Int)))), (13, .int (iI (((pv : Nat) : Int)))), (12, .int (iI (kd))), (11, .int (iI (yy))), (10, .int (iI (xx))), (9, .int (iI (((i : Nat) : Int)))), (8, .ref (ad 56 0)), (7, .ref (ad 55 0)), (6, .ref (ad 54 0)), (5, .ref (ad 53 0)), (4, .ref (ad 52 0)), (3, .ref (ad 51 0)), (2, .ref (ad 50 0)), (1, .ref (ad 0 0)), (0, .ref b)]) hM.1 hM.2.1 dL_law_834 hl (by decide) rfl (fun ls hl => ?_)
                exact law_force l hfl G b0 hM hN hX hbA hbl hL hcl hsl i xx yy kd pv sv k hkd hpv hsv hkv hl hC hI kk kn
          ·
            exact law_ord l hfl G b0 hM hN hX hbA hbl hL hcl hsl i xx yy kd pv sv k hkd hpv hsv hkv hl hC hI kk kn
        ·
          exact law_pay l hfl G b0 hM hN hX hbA hbl hL hcl hsl i xx yy kd pv sv k hkd hpv hsv hkv hl hC hI kk kn
      ·
        exact law_beg l hfl G b0 hM hN hX hbA hbl hL hcl hsl i xx yy kd pv sv k hkd hpv hsv hkv hl hC hI kk kn
    ·
      exact law_def l hfl G b0 hM hN hX hbA hbl hL hcl hsl i xx yy kd pv sv k hkd hpv hsv hkv hl hC hI kk kn
  ·
    exact law_set l hfl G b0 hM hN hX hbA hbl hL hcl hsl i xx yy kd pv sv k hkd hpv hsv hkv hl hC hI kk kn

set_option maxRecDepth 100000 in
set_option maxHeartbeats 8000000 in
theorem law_loop {p : Program} {e : Env} {s : State} {m : MethodId} {below : List Frame} {meth : Method} {c : Code} (l : Launch) (hfl : l.stackTraces = false) (G : GG) (b0 : Nat) {b L : Nat} {xs : Nat → Int32} (hM : CallFix p m c cL_law 30 s #[Value.ref b] wsL_law RL) (hN : NcX s) (hX : va_X b L xs s s.heap) (hbA : ¬ b0 ≤ b) (hbl : b < s.heap.size) (hL : L ≤ 260) (hret : meth.sig.returnType = ret) (hlk : meth.locks = false) (hb0 : s.heap.size ≤ b0) : ∀ (n i : Nat) (ks : KK) (ad : AD) (T : TT) (P : PP) (H : Heap) (locs : List Loc) (cells slots : Nat) (ls : Array Slot), i + n = 64 → cells + 400 * n + 1000 ≤ 602294 → slots + 3000 * n + 10000 ≤ 7294300 → lv_has ls 30 [(9, .int (iI (((i : Nat) : Int)))), (8, .ref (ad 56 0)), (7, .ref (ad 55 0)), (6, .ref (ad 54 0)), (5, .ref (ad 53 0)), (4, .ref (ad 52 0)), (3, .ref (ad 51 0)), (2, .ref (ad 50 0)), (1, .ref (ad 0 0)), (0, .ref b)] → Cur G b0 (ks, ad, T, P) s H locs → IV ks ad T P → W p l e room_1 s m #[Value.ref b] below meth c H locs cells slots (lw_Z below #[Value.ref b] s) (F0 m 56 ls []) := by
  intro n
  induction n with
  | zero =>
    intro i ks ad T P H locs cells slots ls hn hcl hsl hl hC hI
    refine y_iload hM hl 0 rfl dL_law_56 ?_
    refine y_bipush hM dL_law_58 (by decide) ?_
    refine y_icmp_ge hM (by constructor <;> omega) (by constructor <;> omega) (tgt := 1649) dL_law_60 (by decide) (fun hgt => ?_) (fun hle => False.elim (by omega))
    refine y_iconst hM dL_law_1649 ?_
    refine va_forget (fun q hq => Nat.le_trans hb0 (hC.2.2.2.2.2.2 q hq)) ?_
    exact W.widen (by omega) (by omega) (lw_ret hM.1 hM.2.1 hret hlk dL_law_1650)
  | succ n ih =>
    intro i ks ad T P H locs cells slots ls hn hcl hsl hl hC hI
    refine y_iload hM hl 0 rfl dL_law_56 ?_
    refine y_bipush hM dL_law_58 (by decide) ?_
    refine y_icmp_ge hM (by constructor <;> omega) (by constructor <;> omega) (tgt := 1649) dL_law_60 (by decide) (fun hgt => False.elim (by omega)) (fun hle => ?_)
    have kn : ∀ (ks1 : KK) (ad1 : AD) (T1 : TT) (P1 : PP) (H1 : Heap) (locs1 : List Loc) (cells1 slots1 : Nat) (ls1 : Array Slot), cells1 ≤ cells + 400 → slots1 ≤ slots + 3000 → Cur G b0 (ks1, ad1, T1, P1) s H1 locs1 → IV ks1 ad1 T1 P1 → lv_has ls1 30 [(9, .int (iI (((i : Nat) : Int)))), (8, .ref (ad1 56 0)), (7, .ref (ad1 55 0)), (6, .ref (ad1 54 0)), (5, .ref (ad1 53 0)), (4, .ref (ad1 52 0)), (3, .ref (ad1 51 0)), (2, .ref (ad1 50 0)), (1, .ref (ad1 0 0)), (0, .ref b)] → W p l e room_1 s m #[Value.ref b] below meth c H1 locs1 cells1 slots1 (lw_Z below #[Value.ref b] s) (F0 m 1643 ls1 []) := by
      intro ks1 ad1 T1 P1 H1 locs1 cells1 slots1 ls1 g1 g2 hC1 hI1 hl1
      refine lv_iinc (v := iI (((i : Nat) : Int) + 1)) (lv' := [(9, .int (iI (((i : Nat) : Int) + 1))), (8, .ref (ad1 56 0)), (7, .ref (ad1 55 0)), (6, .ref (ad1 54 0)), (5, .ref (ad1 53 0)), (4, .ref (ad1 52 0)), (3, .ref (ad1 51 0)), (2, .ref (ad1 50 0)), (1, .ref (ad1 0 0)), (0, .ref b)]) hM.1 hM.2.1 dL_law_1643 hl1 (k := 0) rfl (iI_add _ _) (by decide) rfl (fun ls hl => ?_)
      refine lv_goto (tgt := 56) hM.1 hM.2.1 dL_law_1646 (by decide) ?_
      rw [show ((i : Nat) : Int) + 1 = ((i + 1 : Nat) : Int) by omega] at hl
      exact ih (i + 1) ks1 ad1 T1 P1 H1 locs1 cells1 slots1 ls (by omega) (by omega) (by omega) hl hC1 hI1
    refine law_head l hfl G b0 hM hN hX hbA hbl hL (by omega) (by omega) i (by omega) hl hC hI ?_
    intro xx yy kd pv sv k H1 locs1 cells1 slots1 ls1 g1 g2 hkd hpv hsv hkv hl1 hC1
    refine law_turn l hfl G b0 hM hN hX hbA hbl hL (by omega) (by omega) i xx yy kd pv sv k hkd hpv hsv hkv hl1 hC1 hI ?_ ?_
    · intro ks2 ad2 T2 P2 H2 locs2 cells2 slots2 ls2 f1 f2 hC2 hI2 hl2
      refine law_same l hfl G b0 hM hN hX hbA hbl hL (by omega) (by omega) i yy hl2 hC2 hI2 ?_
      intro ks3 ad3 T3 P3 H3 locs3 cells3 slots3 ls3 e1 e2 hC3 hI3 hl3
      exact kn ks3 ad3 T3 P3 H3 locs3 cells3 slots3 ls3 (by omega) (by omega) hC3 hI3 hl3
    · intro ks3 ad3 T3 P3 H3 locs3 cells3 slots3 ls3 e1 e2 hC3 hI3 hl3
      exact kn ks3 ad3 T3 P3 H3 locs3 cells3 slots3 ls3 (by omega) (by omega) hC3 hI3 hl3
