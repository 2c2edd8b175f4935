theorem mprF_0 {T : TT} {p : Int} : mprF T p 0 = mpr T p (T 12 0 1) := if_pos rfl
theorem mprF_1 {T : TT} {p : Int} : mprF T p 1 = T 12 0 5 := if_neg (by decide)
theorem op_stp0 {ks : KK} {ad : AD} {T : TT} {P : PP} (h : IV ks ad T P) {z k r : Int} {T1 T2 : TT} (hw : Wstp T 0 z k T1)
    (hm : ((z < 0 ∨ T1 12 0 10 ≤ z) ∧ T2 = up T1 12 0 0 1) ∨ ((0 ≤ z ∧ z < T1 12 0 10 ∧ (T1 33 0 z.toNat = 3 ∨ (T1 33 0 z.toNat = 2 ∧ (100000000 < mgot T1 z (mpr T1 (T1 32 0 z.toNat) (T1 12 0 1)) ∨ 100000000 < mtim T1 z (mlate T1 z))))) ∧ T2 = up (up T1 12 0 0 0) 12 0 0 2) ∨
      ((0 ≤ z ∧ z < T1 12 0 10 ∧ T1 33 0 z.toNat ≠ 3 ∧ (T1 33 0 z.toNat = 2 → mgot T1 z (mpr T1 (T1 32 0 z.toNat) (T1 12 0 1)) ≤ 100000000 ∧ mtim T1 z (mlate T1 z) ≤ 100000000) ∧ r = mlate T1 z) ∧ T2 = mdoe (up (up T1 12 0 0 0) 12 0 0 0) z 0)) : T2 12 0 0 = k ∧ (k = 0 → r = T2 43 0 0) ∧ IV ks ad T2 P := by
  refine op_stp (r := r) h hw ?_
  rw [mprF_0]
  rcases hm with ⟨m, e⟩ | ⟨m, e⟩ | ⟨m, e⟩
  · exact Or.inl ⟨m, e⟩
  · exact Or.inr (Or.inl ⟨by omega, e⟩)
  · exact Or.inr (Or.inr ⟨⟨m.1, m.2.1, m.2.2.1, fun q => absurd q (by decide), m.2.2.2.1, m.2.2.2.2⟩, e⟩)
theorem op_stp1 {ks : KK} {ad : AD} {T : TT} {P : PP} (h : IV ks ad T P) {z k r : Int} {T1 T2 : TT} (hw : Wstp T 1 z k T1)
    (hm : ((z < 0 ∨ T1 12 0 10 ≤ z) ∧ T2 = up T1 12 0 0 1) ∨ ((0 ≤ z ∧ z < T1 12 0 10 ∧ (T1 33 0 z.toNat = 3 ∨ mlate T1 z ≤ 10 ∨ (T1 33 0 z.toNat = 2 ∧ (100000000 < mgot T1 z (T1 12 0 5) ∨ 100000000 < mtim T1 z (mlate T1 z))))) ∧ T2 = up (up T1 12 0 0 0) 12 0 0 2) ∨
      ((0 ≤ z ∧ z < T1 12 0 10 ∧ T1 33 0 z.toNat ≠ 3 ∧ 10 < mlate T1 z ∧ (T1 33 0 z.toNat = 2 → mgot T1 z (T1 12 0 5) ≤ 100000000 ∧ mtim T1 z (mlate T1 z) ≤ 100000000) ∧ r = mlate T1 z) ∧ T2 = mdoe (up (up T1 12 0 0 0) 12 0 0 0) z 1)) : T2 12 0 0 = k ∧ (k = 0 → r = T2 43 0 0) ∧ IV ks ad T2 P := by
  refine op_stp (r := r) h hw ?_
  rw [mprF_1]
  rcases hm with ⟨m, e⟩ | ⟨m, e⟩ | ⟨m, e⟩
  · exact Or.inl ⟨m, e⟩
  · exact Or.inr (Or.inl ⟨by omega, e⟩)
  · exact Or.inr (Or.inr ⟨⟨m.1, m.2.1, m.2.2.1, fun _ => m.2.2.2.1, m.2.2.2.2.1, m.2.2.2.2.2⟩, e⟩)
section YS
variable {p : Program} {l : Launch} {e : Env} {R : Room} {s : State} {m : MethodId} {args : Array Value} {below : List Frame} {meth : Method} {c : Code} {H : Heap} {locs : List Loc} {cells slots : Nat} {Q : State → Prop}
variable {cc : ByteArray} {nL : Nat} {Ts : List Cond} {own : String} {pc : Nat} {ls : Array Slot} {rest : List Value}
variable {G : GG} {b0 : Nat} {u : St} {b L : Nat} {xs : Nat → Int32}
theorem y_scr (hM : CallFix p m c cc nL s args Ts own) (hX : va_X b L xs s s.heap) (hbl : b < s.heap.size) (hbA : ¬ b0 ≤ b) (hC : Cur G b0 u s H locs) {z : Int} {k : Nat} (hz : z = (k : Int)) (hk : k < L) (hL : L ≤ 1536) (hdg : decode cc pc = .ok (.iaload, 1)) (kk : W p l e R s m args below meth c H locs cells slots Q (F0 m (pc + 1) ls (.int (iI (xs k).toInt) :: rest))) : W p l e R s m args below meth c H locs cells slots Q (F0 m pc ls (.int (iI z) :: .ref b :: rest)) := by
  subst hz
  refine va_sld (A := Wx b0) hM.1 hM.2.1 hX hbl hbA hC.2.2.2.2 (iI_in (by omega) (by omega) (by omega)) hdg ?_
  rw [iI_cl ⟨by omega, by omega⟩, Int.toNat_natCast]
  rw [← iI_of (xs k)] at kk
  exact kk
theorem y_slen (hM : CallFix p m c cc nL s args Ts own) (hX : va_X b L xs s s.heap) (hbl : b < s.heap.size) (hbA : ¬ b0 ≤ b) (hC : Cur G b0 u s H locs) (hdg : decode cc pc = .ok (.arraylength, 1)) (kk : W p l e R s m args below meth c H locs cells slots Q (F0 m (pc + 1) ls (.int (iI (L : Int)) :: rest))) : W p l e R s m args below meth c H locs cells slots Q (F0 m pc ls (.ref b :: rest)) :=
  va_slen (A := Wx b0) hM.1 hM.2.1 hX hbl hbA hC.2.2.2.2 hdg kk
end YS

set_option maxRecDepth 100000 in
set_option maxHeartbeats 8000000 in
theorem law_pass {p : Program} {e : Env} {s : State} {m : MethodId} {below : List Frame} {meth : Method} {c : Code} {Q : State → Prop} (l : Launch) (hfl : l.stackTraces = false) (G : GG) (b0 : Nat) {b L : Nat} {xs : Nat → Int32} (hM : CallFix p m c cL_law 8 s #[Value.ref b] wsL_law RL) (hN : NcX s) (hX : va_X b L xs s s.heap) (hbA : ¬ b0 ≤ b) (hbl : b < s.heap.size) (hL : L ≤ 1536) {ks : KK} {ad : AD} {T : TT} {P : PP} {H : Heap} {locs : List Loc} {cells slots : Nat} (hcl : cells + 10 ≤ 601024) (hsl : slots + 100 ≤ 7293034) (i : Nat) (hi : i + 3 ≤ L) {ls : Array Slot} (hl : lv_has ls 8 [(4, .int (iI ((i : Nat) : Int))), (3, .ref (ad 43 0)), (2, .ref (ad 12 0)), (1, .ref (ad 0 0)), (0, .ref b)]) (hC : Cur G b0 (ks, ad, T, P) s H locs) (hI : IV ks ad T P)
    (kk : ∀ (ks1 : KK) (ad1 : AD) (T1 : TT) (P1 : PP) (H1 : Heap) (locs1 : List Loc) (cells1 slots1 : Nat) (ls1 : Array Slot), cells1 ≤ cells + 10 → slots1 ≤ slots + 100 → Cur G b0 (ks1, ad1, T1, P1) s H1 locs1 → IV ks1 ad1 T1 P1 → lv_has ls1 8 [(4, .int (iI ((i : Nat) : Int))), (3, .ref (ad1 43 0)), (2, .ref (ad1 12 0)), (1, .ref (ad1 0 0)), (0, .ref b)] → W p l e room_1 s m #[Value.ref b] below meth c H1 locs1 cells1 slots1 Q (F0 m 1216 ls1 [])) :
    W p l e room_1 s m #[Value.ref b] below meth c H locs cells slots Q (F0 m 128 ls []) := by
  refine y_aload_n hM hl 3 rfl rfl dL_law_128 ?_
  refine y_aload_n hM hl 4 rfl rfl dL_law_129 ?_
  refine y_iload hM hl 0 rfl dL_law_130 ?_
  refine y_iconst hM dL_law_132 ?_
  refine y_iadd hM dL_law_133 ?_
  refine y_scr hM hX hbl hbA hC (k := i + 1) (by omega) (by omega) hL dL_law_134 ?_
  refine y_aload_n hM hl 1 rfl rfl dL_law_135 ?_
  refine y_callSX hM hN hC (c_L_pass l hfl G b0 ks ad T P ((xs (i + 1)).toInt) (inI_of _) hI) (vx_cwSW 3 hM.2.2.2.2 gL_law_L_pass rfl rfl rfl (by decide +kernel) ⟨(Nat.le_of_ble_eq_true rfl), (Nat.le_of_ble_eq_true rfl)⟩) rfl hl.1 rfl (Nat.le_of_ble_eq_true rfl) dL_law_136 ⟨(show _ ≤ 601024 by omega), (show _ ≤ 7293034 by omega)⟩ (fun E ce q9 u1 H locs hx hC hce hcv hcl => hx.elim) (fun v u1 H locs hp hC => ?_)
  obtain ⟨r_136, T1, rfl, ⟨hW, hin⟩, hu⟩ := hp; rw [hu] at hC; clear hu; try dsimp only at hW hin
  obtain ⟨hMI1, hk43, hk0, ea0, ea12, ea43⟩ := iv_Kp hI
  have hhi := Wpas.hi hW
  refine W.eq (g2 := F0 m 139 ls [.int (iI (r_136))]) rfl ?_
  have hk : 0 ≤ r_136 ∧ r_136 ≤ 3 := by rcases hW with ⟨h, -⟩ | ⟨h, -⟩ | ⟨h, -⟩ <;> omega
  have hMN1 := iv_MN1 hI hhi
  refine lv_istore (lv' := [(5, .int (iI (r_136))), (4, .int (iI (((i : Nat) : Int)))), (3, .ref (ad 43 0)), (2, .ref (ad 12 0)), (1, .ref (ad 0 0)), (0, .ref b)]) hM.1 hM.2.1 dL_law_139 hl (by decide) rfl (fun ls hl => ?_)
  refine y_aload_n hM hl 3 rfl rfl dL_law_141 ?_
  refine y_aload_n hM hl 5 rfl rfl dL_law_142 ?_
  refine y_iload hM hl 1 rfl dL_law_143 ?_
  refine y_iconst hM dL_law_145 ?_
  refine y_iadd hM dL_law_146 ?_
  refine y_scr hM hX hbl hbA hC (k := i + 1) (by omega) (by omega) hL dL_law_147 ?_
  refine y_callV hM hC (c_M_pass l hfl G b0 ks ad T1 P ((xs (i + 1)).toInt) (inI_of _) hMI1 hMN1) (cwV 1 hM.2.2.2.2 gL_law_X4_pass rfl rfl rfl (by decide +kernel) ⟨(Nat.le_of_ble_eq_true rfl), (Nat.le_of_ble_eq_true rfl)⟩) (y_recv hC hMI1.1 rfl rfl) rfl hl.1 rfl (Nat.le_of_ble_eq_true rfl) dL_law_148 ⟨(show _ ≤ 601024 by omega), (show _ ≤ 7293034 by omega)⟩ (fun E ce q9 u1 H locs hx hC hce hcv hcl => hx.elim) (fun v u1 H locs hp hC => ?_)
  obtain ⟨r_148, T2, rfl, hm, hu⟩ := hp; rw [hu] at hC; clear hu; try dsimp only at hm
  refine W.eq (g2 := F0 m 151 ls [.int (iI (r_148))]) rfl ?_
  have o4 : T2 43 0 0 = T1 43 0 0 := by rcases hm with ⟨-, hq⟩ | ⟨-, hq⟩ | ⟨-, hq⟩ <;> first | (subst hq; rfl) | (subst hq; exact mdoe_ou.1) | (exact hq.2.2.1 43 0 0 (by omega) (by omega))
  obtain ⟨o1, o2, o3⟩ := op_pas hI hW hm
  refine lv_istore (lv' := [(6, .int (iI (r_148))), (5, .int (iI (r_136))), (4, .int (iI (((i : Nat) : Int)))), (3, .ref (ad 43 0)), (2, .ref (ad 12 0)), (1, .ref (ad 0 0)), (0, .ref b)]) hM.1 hM.2.1 dL_law_151 hl (by decide) rfl (fun ls hl => ?_)
  refine y_aload_n hM hl 4 rfl rfl dL_law_153 ?_
  refine y_callV hM hC (c_M_thrown l hfl G b0 ks ad T2 P hMI1 o3.MN) (cwV 0 hM.2.2.2.2 gL_law_X4_thrown rfl rfl rfl (by decide +kernel) ⟨(Nat.le_of_ble_eq_true rfl), (Nat.le_of_ble_eq_true rfl)⟩) (y_recv hC hMI1.1 rfl rfl) rfl hl.1 rfl (Nat.le_of_ble_eq_true rfl) dL_law_154 ⟨(show _ ≤ 601024 by omega), (show _ ≤ 7293034 by omega)⟩ (fun E ce q9 u1 H locs hx hC hce hcv hcl => hx.elim) (fun v u1 H locs hp hC => ?_)
  obtain ⟨r_154, rfl, h_154, hu⟩ := hp; rw [hu] at hC; clear hu
  try dsimp only at h_154
  refine W.eq (g2 := F0 m 157 ls [.int (iI (r_154))]) rfl ?_
  rw [o1] at h_154
  refine y_iload hM hl 1 rfl dL_law_157 ?_
  refine y_icmp_eq hM (by constructor <;> omega) (by constructor <;> omega) (tgt := 164) dL_law_159 (by decide) (fun c_159 => ?_) (fun c_159 => False.elim (by omega))
  refine y_iload hM hl 1 rfl dL_law_164 ?_
  refine y_if_ne hM (by constructor <;> omega) (tgt := 181) dL_law_166 (by decide) (fun c_166 => ?_) (fun c_166 => ?_)
  ·
    refine lv_goto (tgt := 1216) hM.1 hM.2.1 dL_law_181 (by decide) ?_
    exact kk _ _ T2 _ _ _ _ _ ls (by omega) (by omega) hC o3 ⟨hl.1, hl.2.1, fun q hq => hl.2.2 q (List.mem_cons_of_mem _ (List.mem_cons_of_mem _ hq))⟩
  ·
    have e1 := o2 (by omega)
    have e2 : inI (T2 43 0 0) := by rw [o4]; exact hin (by omega)
    rw [e1] at hl
    refine y_aload_n hM hl 3 rfl rfl dL_law_169 ?_
    refine y_iconst hM dL_law_170 ?_
    refine y_lald hM hC hk43 rfl ⟨by omega, by omega⟩ (by decide) (x := T2 43 0 0) rfl dL_law_171 ?_
    refine y_iload hM hl 0 rfl dL_law_172 ?_
    refine y_i2l hM (by constructor <;> omega) dL_law_174 ?_
    refine y_lcmpE hM dL_law_175 ?_
    refine y_if_eq hM (by constructor <;> omega) (tgt := 181) dL_law_176 (by decide) (fun c_176 => ?_) (fun c_176 => False.elim (by omega))
    refine lv_goto (tgt := 1216) hM.1 hM.2.1 dL_law_181 (by decide) ?_
    exact kk _ _ T2 _ _ _ _ _ ls (by omega) (by omega) hC o3 ⟨hl.1, hl.2.1, fun q hq => hl.2.2 q (List.mem_cons_of_mem _ (List.mem_cons_of_mem _ hq))⟩

set_option maxRecDepth 100000 in
set_option maxHeartbeats 8000000 in
theorem law_setPrice {p : Program} {e : Env} {s : State} {m : MethodId} {below : List Frame} {meth : Method} {c : Code} {Q : State → Prop} (l : Launch) (hfl : l.stackTraces = false) (G : GG) (b0 : Nat) {b L : Nat} {xs : Nat → Int32} (hM : CallFix p m c cL_law 8 s #[Value.ref b] wsL_law RL) (hN : NcX s) (hX : va_X b L xs s s.heap) (hbA : ¬ b0 ≤ b) (hbl : b < s.heap.size) (hL : L ≤ 1536) {ks : KK} {ad : AD} {T : TT} {P : PP} {H : Heap} {locs : List Loc} {cells slots : Nat} (hcl : cells + 10 ≤ 601024) (hsl : slots + 100 ≤ 7293034) (i : Nat) (hi : i + 3 ≤ L) {ls : Array Slot} (hl : lv_has ls 8 [(4, .int (iI ((i : Nat) : Int))), (3, .ref (ad 43 0)), (2, .ref (ad 12 0)), (1, .ref (ad 0 0)), (0, .ref b)]) (hC : Cur G b0 (ks, ad, T, P) s H locs) (hI : IV ks ad T P)
    (kk : ∀ (ks1 : KK) (ad1 : AD) (T1 : TT) (P1 : PP) (H1 : Heap) (locs1 : List Loc) (cells1 slots1 : Nat) (ls1 : Array Slot), cells1 ≤ cells + 10 → slots1 ≤ slots + 100 → Cur G b0 (ks1, ad1, T1, P1) s H1 locs1 → IV ks1 ad1 T1 P1 → lv_has ls1 8 [(4, .int (iI ((i : Nat) : Int))), (3, .ref (ad1 43 0)), (2, .ref (ad1 12 0)), (1, .ref (ad1 0 0)), (0, .ref b)] → W p l e room_1 s m #[Value.ref b] below meth c H1 locs1 cells1 slots1 Q (F0 m 1216 ls1 [])) :
    W p l e room_1 s m #[Value.ref b] below meth c H locs cells slots Q (F0 m 197 ls []) := by
  refine y_aload_n hM hl 3 rfl rfl dL_law_197 ?_
  refine y_aload_n hM hl 4 rfl rfl dL_law_198 ?_
  refine y_iload hM hl 0 rfl dL_law_199 ?_
  refine y_iconst hM dL_law_201 ?_
  refine y_iadd hM dL_law_202 ?_
  refine y_scr hM hX hbl hbA hC (k := i + 1) (by omega) (by omega) hL dL_law_203 ?_
  refine y_aload_n hM hl 4 rfl rfl dL_law_204 ?_
  refine y_iload hM hl 0 rfl dL_law_205 ?_
  refine y_iconst hM dL_law_207 ?_
  refine y_iadd hM dL_law_208 ?_
  refine y_scr hM hX hbl hbA hC (k := i + 2) (by omega) (by omega) hL dL_law_209 ?_
  refine y_aload_n hM hl 1 rfl rfl dL_law_210 ?_
  refine y_callSX hM hN hC (c_L_setPrice l hfl G b0 ks ad T P ((xs (i + 1)).toInt) ((xs (i + 2)).toInt) (inI_of _) (inI_of _) hI) (vx_cwSW 4 hM.2.2.2.2 gL_law_L_setPrice rfl rfl rfl (by decide +kernel) ⟨(Nat.le_of_ble_eq_true rfl), (Nat.le_of_ble_eq_true rfl)⟩) rfl hl.1 rfl (Nat.le_of_ble_eq_true rfl) dL_law_211 ⟨(show _ ≤ 601024 by omega), (show _ ≤ 7293034 by omega)⟩ (fun E ce q9 u1 H locs hx hC hce hcv hcl => hx.elim) (fun v u1 H locs hp hC => ?_)
  obtain ⟨r_211, T1, rfl, ⟨hW, hin⟩, hu⟩ := hp; rw [hu] at hC; clear hu; try dsimp only at hW hin
  obtain ⟨hMI1, hk43, hk0, ea0, ea12, ea43⟩ := iv_Kp hI
  have hhi := Wset.hi hW
  refine W.eq (g2 := F0 m 214 ls [.int (iI (r_211))]) rfl ?_
  have hk : 0 ≤ r_211 ∧ r_211 ≤ 3 := by rcases hW with ⟨h, -⟩ | ⟨h, -⟩ | ⟨h, -⟩ <;> omega
  have hMN1 := iv_MN1 hI hhi
  refine lv_istore (lv' := [(5, .int (iI (r_211))), (4, .int (iI (((i : Nat) : Int)))), (3, .ref (ad 43 0)), (2, .ref (ad 12 0)), (1, .ref (ad 0 0)), (0, .ref b)]) hM.1 hM.2.1 dL_law_214 hl (by decide) rfl (fun ls hl => ?_)
  refine y_aload_n hM hl 3 rfl rfl dL_law_216 ?_
  refine y_aload_n hM hl 5 rfl rfl dL_law_217 ?_
  refine y_iload hM hl 1 rfl dL_law_218 ?_
  refine y_iconst hM dL_law_220 ?_
  refine y_iadd hM dL_law_221 ?_
  refine y_scr hM hX hbl hbA hC (k := i + 1) (by omega) (by omega) hL dL_law_222 ?_
  refine y_aload_n hM hl 5 rfl rfl dL_law_223 ?_
  refine y_iload hM hl 1 rfl dL_law_224 ?_
  refine y_iconst hM dL_law_226 ?_
  refine y_iadd hM dL_law_227 ?_
  refine y_scr hM hX hbl hbA hC (k := i + 2) (by omega) (by omega) hL dL_law_228 ?_
  refine y_callV hM hC (c_M_setPrice l hfl G b0 ks ad T1 P ((xs (i + 1)).toInt) ((xs (i + 2)).toInt) (inI_of _) (inI_of _) hMI1 hMN1) (cwV 2 hM.2.2.2.2 gL_law_X4_setPrice rfl rfl rfl (by decide +kernel) ⟨(Nat.le_of_ble_eq_true rfl), (Nat.le_of_ble_eq_true rfl)⟩) (y_recv hC hMI1.1 rfl rfl) rfl hl.1 rfl (Nat.le_of_ble_eq_true rfl) dL_law_229 ⟨(show _ ≤ 601024 by omega), (show _ ≤ 7293034 by omega)⟩ (fun E ce q9 u1 H locs hx hC hce hcv hcl => hx.elim) (fun v u1 H locs hp hC => ?_)
  obtain ⟨r_229, T2, rfl, hm, hu⟩ := hp; rw [hu] at hC; clear hu; try dsimp only at hm
  refine W.eq (g2 := F0 m 232 ls [.int (iI (r_229))]) rfl ?_
  have o4 : T2 43 0 0 = T1 43 0 0 := by rcases hm with ⟨-, hq⟩ | ⟨-, hq⟩ | ⟨-, hq⟩ <;> first | (subst hq; rfl) | (subst hq; exact mdoe_ou.1) | (exact hq.2.2.1 43 0 0 (by omega) (by omega))
  obtain ⟨o1, o2, o3⟩ := op_set hI hW hm
  refine lv_istore (lv' := [(6, .int (iI (r_229))), (5, .int (iI (r_211))), (4, .int (iI (((i : Nat) : Int)))), (3, .ref (ad 43 0)), (2, .ref (ad 12 0)), (1, .ref (ad 0 0)), (0, .ref b)]) hM.1 hM.2.1 dL_law_232 hl (by decide) rfl (fun ls hl => ?_)
  refine y_aload_n hM hl 4 rfl rfl dL_law_234 ?_
  refine y_callV hM hC (c_M_thrown l hfl G b0 ks ad T2 P hMI1 o3.MN) (cwV 0 hM.2.2.2.2 gL_law_X4_thrown rfl rfl rfl (by decide +kernel) ⟨(Nat.le_of_ble_eq_true rfl), (Nat.le_of_ble_eq_true rfl)⟩) (y_recv hC hMI1.1 rfl rfl) rfl hl.1 rfl (Nat.le_of_ble_eq_true rfl) dL_law_235 ⟨(show _ ≤ 601024 by omega), (show _ ≤ 7293034 by omega)⟩ (fun E ce q9 u1 H locs hx hC hce hcv hcl => hx.elim) (fun v u1 H locs hp hC => ?_)
  obtain ⟨r_235, rfl, h_235, hu⟩ := hp; rw [hu] at hC; clear hu
  try dsimp only at h_235
  refine W.eq (g2 := F0 m 238 ls [.int (iI (r_235))]) rfl ?_
  rw [o1] at h_235
  refine y_iload hM hl 1 rfl dL_law_238 ?_
  refine y_icmp_eq hM (by constructor <;> omega) (by constructor <;> omega) (tgt := 245) dL_law_240 (by decide) (fun c_240 => ?_) (fun c_240 => False.elim (by omega))
  refine y_iload hM hl 1 rfl dL_law_245 ?_
  refine y_if_ne hM (by constructor <;> omega) (tgt := 262) dL_law_247 (by decide) (fun c_247 => ?_) (fun c_247 => ?_)
  ·
    refine lv_goto (tgt := 1216) hM.1 hM.2.1 dL_law_262 (by decide) ?_
    exact kk _ _ T2 _ _ _ _ _ ls (by omega) (by omega) hC o3 ⟨hl.1, hl.2.1, fun q hq => hl.2.2 q (List.mem_cons_of_mem _ (List.mem_cons_of_mem _ hq))⟩
  ·
    have e1 := o2 (by omega)
    have e2 : inI (T2 43 0 0) := by rw [o4]; exact hin (by omega)
    rw [e1] at hl
    refine y_aload_n hM hl 3 rfl rfl dL_law_250 ?_
    refine y_iconst hM dL_law_251 ?_
    refine y_lald hM hC hk43 rfl ⟨by omega, by omega⟩ (by decide) (x := T2 43 0 0) rfl dL_law_252 ?_
    refine y_iload hM hl 0 rfl dL_law_253 ?_
    refine y_i2l hM (by constructor <;> omega) dL_law_255 ?_
    refine y_lcmpE hM dL_law_256 ?_
    refine y_if_eq hM (by constructor <;> omega) (tgt := 262) dL_law_257 (by decide) (fun c_257 => ?_) (fun c_257 => False.elim (by omega))
    refine lv_goto (tgt := 1216) hM.1 hM.2.1 dL_law_262 (by decide) ?_
    exact kk _ _ T2 _ _ _ _ _ ls (by omega) (by omega) hC o3 ⟨hl.1, hl.2.1, fun q hq => hl.2.2 q (List.mem_cons_of_mem _ (List.mem_cons_of_mem _ hq))⟩

set_option maxRecDepth 100000 in
set_option maxHeartbeats 8000000 in
theorem law_price {p : Program} {e : Env} {s : State} {m : MethodId} {below : List Frame} {meth : Method} {c : Code} {Q : State → Prop} (l : Launch) (hfl : l.stackTraces = false) (G : GG) (b0 : Nat) {b L : Nat} {xs : Nat → Int32} (hM : CallFix p m c cL_law 8 s #[Value.ref b] wsL_law RL) (hN : NcX s) (hX : va_X b L xs s s.heap) (hbA : ¬ b0 ≤ b) (hbl : b < s.heap.size) (hL : L ≤ 1536) {ks : KK} {ad : AD} {T : TT} {P : PP} {H : Heap} {locs : List Loc} {cells slots : Nat} (hcl : cells + 10 ≤ 601024) (hsl : slots + 100 ≤ 7293034) (i : Nat) (hi : i + 3 ≤ L) {ls : Array Slot} (hl : lv_has ls 8 [(4, .int (iI ((i : Nat) : Int))), (3, .ref (ad 43 0)), (2, .ref (ad 12 0)), (1, .ref (ad 0 0)), (0, .ref b)]) (hC : Cur G b0 (ks, ad, T, P) s H locs) (hI : IV ks ad T P)
    (kk : ∀ (ks1 : KK) (ad1 : AD) (T1 : TT) (P1 : PP) (H1 : Heap) (locs1 : List Loc) (cells1 slots1 : Nat) (ls1 : Array Slot), cells1 ≤ cells + 10 → slots1 ≤ slots + 100 → Cur G b0 (ks1, ad1, T1, P1) s H1 locs1 → IV ks1 ad1 T1 P1 → lv_has ls1 8 [(4, .int (iI ((i : Nat) : Int))), (3, .ref (ad1 43 0)), (2, .ref (ad1 12 0)), (1, .ref (ad1 0 0)), (0, .ref b)] → W p l e room_1 s m #[Value.ref b] below meth c H1 locs1 cells1 slots1 Q (F0 m 1216 ls1 [])) :
    W p l e room_1 s m #[Value.ref b] below meth c H locs cells slots Q (F0 m 265 ls []) := by
  refine y_aload_n hM hl 3 rfl rfl dL_law_265 ?_
  refine y_aload_n hM hl 4 rfl rfl dL_law_266 ?_
  refine y_iload hM hl 0 rfl dL_law_267 ?_
  refine y_iconst hM dL_law_269 ?_
  refine y_iadd hM dL_law_270 ?_
  refine y_scr hM hX hbl hbA hC (k := i + 1) (by omega) (by omega) hL dL_law_271 ?_
  refine y_aload_n hM hl 4 rfl rfl dL_law_272 ?_
  refine y_iload hM hl 0 rfl dL_law_273 ?_
  refine y_iconst hM dL_law_275 ?_
  refine y_iadd hM dL_law_276 ?_
  refine y_scr hM hX hbl hbA hC (k := i + 2) (by omega) (by omega) hL dL_law_277 ?_
  refine y_aload_n hM hl 1 rfl rfl dL_law_278 ?_
  refine y_callSX hM hN hC (c_L_price l hfl G b0 ks ad T P ((xs (i + 1)).toInt) ((xs (i + 2)).toInt) (inI_of _) (inI_of _) hI) (vx_cwSW 4 hM.2.2.2.2 gL_law_L_price rfl rfl rfl (by decide +kernel) ⟨(Nat.le_of_ble_eq_true rfl), (Nat.le_of_ble_eq_true rfl)⟩) rfl hl.1 rfl (Nat.le_of_ble_eq_true rfl) dL_law_279 ⟨(show _ ≤ 601024 by omega), (show _ ≤ 7293034 by omega)⟩ (fun E ce q9 u1 H locs hx hC hce hcv hcl => hx.elim) (fun v u1 H locs hp hC => ?_)
  obtain ⟨r_279, T1, rfl, ⟨hW, hin⟩, hu⟩ := hp; rw [hu] at hC; clear hu; try dsimp only at hW hin
  obtain ⟨hMI1, hk43, hk0, ea0, ea12, ea43⟩ := iv_Kp hI
  have hhi := Wq.hi hW
  refine W.eq (g2 := F0 m 282 ls [.int (iI (r_279))]) rfl ?_
  have hk : 0 ≤ r_279 ∧ r_279 ≤ 3 := by rcases hW with ⟨h, -⟩ | ⟨h, -⟩ <;> omega
  have hMN1 := iv_MN1 hI hhi
  refine lv_istore (lv' := [(5, .int (iI (r_279))), (4, .int (iI (((i : Nat) : Int)))), (3, .ref (ad 43 0)), (2, .ref (ad 12 0)), (1, .ref (ad 0 0)), (0, .ref b)]) hM.1 hM.2.1 dL_law_282 hl (by decide) rfl (fun ls hl => ?_)
  refine y_aload_n hM hl 3 rfl rfl dL_law_284 ?_
  refine y_aload_n hM hl 5 rfl rfl dL_law_285 ?_
  refine y_iload hM hl 1 rfl dL_law_286 ?_
  refine y_iconst hM dL_law_288 ?_
  refine y_iadd hM dL_law_289 ?_
  refine y_scr hM hX hbl hbA hC (k := i + 1) (by omega) (by omega) hL dL_law_290 ?_
  refine y_aload_n hM hl 5 rfl rfl dL_law_291 ?_
  refine y_iload hM hl 1 rfl dL_law_292 ?_
  refine y_iconst hM dL_law_294 ?_
  refine y_iadd hM dL_law_295 ?_
  refine y_scr hM hX hbl hbA hC (k := i + 2) (by omega) (by omega) hL dL_law_296 ?_
  refine y_callV hM hC (c_M_price l hfl G b0 ks ad T1 P ((xs (i + 1)).toInt) ((xs (i + 2)).toInt) (inI_of _) (inI_of _) hMI1 hMN1) (cwV 2 hM.2.2.2.2 gL_law_X4_price rfl rfl rfl (by decide +kernel) ⟨(Nat.le_of_ble_eq_true rfl), (Nat.le_of_ble_eq_true rfl)⟩) (y_recv hC hMI1.1 rfl rfl) rfl hl.1 rfl (Nat.le_of_ble_eq_true rfl) dL_law_297 ⟨(show _ ≤ 601024 by omega), (show _ ≤ 7293034 by omega)⟩ (fun E ce q9 u1 H locs hx hC hce hcv hcl => hx.elim) (fun v u1 H locs hp hC => ?_)
  obtain ⟨r_297, T2, rfl, hm, hu⟩ := hp; rw [hu] at hC; clear hu; try dsimp only at hm
  refine W.eq (g2 := F0 m 300 ls [.int (iI (r_297))]) rfl ?_
  have o4 : T2 43 0 0 = T1 43 0 0 := by rcases hm with ⟨-, hq⟩ | ⟨-, hq⟩ <;> first | (subst hq; rfl) | (subst hq; exact mdoe_ou.1) | (exact hq.2.2.1 43 0 0 (by omega) (by omega))
  obtain ⟨o1, o2, o3⟩ := op_pri hI hW hm
  refine lv_istore (lv' := [(6, .int (iI (r_297))), (5, .int (iI (r_279))), (4, .int (iI (((i : Nat) : Int)))), (3, .ref (ad 43 0)), (2, .ref (ad 12 0)), (1, .ref (ad 0 0)), (0, .ref b)]) hM.1 hM.2.1 dL_law_300 hl (by decide) rfl (fun ls hl => ?_)
  refine y_aload_n hM hl 4 rfl rfl dL_law_302 ?_
  refine y_callV hM hC (c_M_thrown l hfl G b0 ks ad T2 P hMI1 o3.MN) (cwV 0 hM.2.2.2.2 gL_law_X4_thrown rfl rfl rfl (by decide +kernel) ⟨(Nat.le_of_ble_eq_true rfl), (Nat.le_of_ble_eq_true rfl)⟩) (y_recv hC hMI1.1 rfl rfl) rfl hl.1 rfl (Nat.le_of_ble_eq_true rfl) dL_law_303 ⟨(show _ ≤ 601024 by omega), (show _ ≤ 7293034 by omega)⟩ (fun E ce q9 u1 H locs hx hC hce hcv hcl => hx.elim) (fun v u1 H locs hp hC => ?_)
  obtain ⟨r_303, rfl, h_303, hu⟩ := hp; rw [hu] at hC; clear hu
  try dsimp only at h_303
  refine W.eq (g2 := F0 m 306 ls [.int (iI (r_303))]) rfl ?_
  rw [o1] at h_303
  refine y_iload hM hl 1 rfl dL_law_306 ?_
  refine y_icmp_eq hM (by constructor <;> omega) (by constructor <;> omega) (tgt := 313) dL_law_308 (by decide) (fun c_308 => ?_) (fun c_308 => False.elim (by omega))
  refine y_iload hM hl 1 rfl dL_law_313 ?_
  refine y_if_ne hM (by constructor <;> omega) (tgt := 330) dL_law_315 (by decide) (fun c_315 => ?_) (fun c_315 => ?_)
  ·
    refine lv_goto (tgt := 1216) hM.1 hM.2.1 dL_law_330 (by decide) ?_
    exact kk _ _ T2 _ _ _ _ _ ls (by omega) (by omega) hC o3 ⟨hl.1, hl.2.1, fun q hq => hl.2.2 q (List.mem_cons_of_mem _ (List.mem_cons_of_mem _ hq))⟩
  ·
    have e1 := o2 (by omega)
    have e2 : inI (T2 43 0 0) := by rw [o4]; exact hin (by omega)
    rw [e1] at hl
    refine y_aload_n hM hl 3 rfl rfl dL_law_318 ?_
    refine y_iconst hM dL_law_319 ?_
    refine y_lald hM hC hk43 rfl ⟨by omega, by omega⟩ (by decide) (x := T2 43 0 0) rfl dL_law_320 ?_
    refine y_iload hM hl 0 rfl dL_law_321 ?_
    refine y_i2l hM (by constructor <;> omega) dL_law_323 ?_
    refine y_lcmpE hM dL_law_324 ?_
    refine y_if_eq hM (by constructor <;> omega) (tgt := 330) dL_law_325 (by decide) (fun c_325 => ?_) (fun c_325 => False.elim (by omega))
    refine lv_goto (tgt := 1216) hM.1 hM.2.1 dL_law_330 (by decide) ?_
    exact kk _ _ T2 _ _ _ _ _ ls (by omega) (by omega) hC o3 ⟨hl.1, hl.2.1, fun q hq => hl.2.2 q (List.mem_cons_of_mem _ (List.mem_cons_of_mem _ hq))⟩

set_option maxRecDepth 100000 in
set_option maxHeartbeats 8000000 in
theorem law_setDefault {p : Program} {e : Env} {s : State} {m : MethodId} {below : List Frame} {meth : Method} {c : Code} {Q : State → Prop} (l : Launch) (hfl : l.stackTraces = false) (G : GG) (b0 : Nat) {b L : Nat} {xs : Nat → Int32} (hM : CallFix p m c cL_law 8 s #[Value.ref b] wsL_law RL) (hN : NcX s) (hX : va_X b L xs s s.heap) (hbA : ¬ b0 ≤ b) (hbl : b < s.heap.size) (hL : L ≤ 1536) {ks : KK} {ad : AD} {T : TT} {P : PP} {H : Heap} {locs : List Loc} {cells slots : Nat} (hcl : cells + 10 ≤ 601024) (hsl : slots + 100 ≤ 7293034) (i : Nat) (hi : i + 3 ≤ L) {ls : Array Slot} (hl : lv_has ls 8 [(4, .int (iI ((i : Nat) : Int))), (3, .ref (ad 43 0)), (2, .ref (ad 12 0)), (1, .ref (ad 0 0)), (0, .ref b)]) (hC : Cur G b0 (ks, ad, T, P) s H locs) (hI : IV ks ad T P)
    (kk : ∀ (ks1 : KK) (ad1 : AD) (T1 : TT) (P1 : PP) (H1 : Heap) (locs1 : List Loc) (cells1 slots1 : Nat) (ls1 : Array Slot), cells1 ≤ cells + 10 → slots1 ≤ slots + 100 → Cur G b0 (ks1, ad1, T1, P1) s H1 locs1 → IV ks1 ad1 T1 P1 → lv_has ls1 8 [(4, .int (iI ((i : Nat) : Int))), (3, .ref (ad1 43 0)), (2, .ref (ad1 12 0)), (1, .ref (ad1 0 0)), (0, .ref b)] → W p l e room_1 s m #[Value.ref b] below meth c H1 locs1 cells1 slots1 Q (F0 m 1216 ls1 [])) :
    W p l e room_1 s m #[Value.ref b] below meth c H locs cells slots Q (F0 m 333 ls []) := by
  refine y_aload_n hM hl 3 rfl rfl dL_law_333 ?_
  refine y_aload_n hM hl 4 rfl rfl dL_law_334 ?_
  refine y_iload hM hl 0 rfl dL_law_335 ?_
  refine y_iconst hM dL_law_337 ?_
  refine y_iadd hM dL_law_338 ?_
  refine y_scr hM hX hbl hbA hC (k := i + 1) (by omega) (by omega) hL dL_law_339 ?_
  refine y_aload_n hM hl 1 rfl rfl dL_law_340 ?_
  refine y_callSX hM hN hC (c_L_setDefault l hfl G b0 ks ad T P ((xs (i + 1)).toInt) (inI_of _) hI) (vx_cwSW 3 hM.2.2.2.2 gL_law_L_setDefault rfl rfl rfl (by decide +kernel) ⟨(Nat.le_of_ble_eq_true rfl), (Nat.le_of_ble_eq_true rfl)⟩) rfl hl.1 rfl (Nat.le_of_ble_eq_true rfl) dL_law_341 ⟨(show _ ≤ 601024 by omega), (show _ ≤ 7293034 by omega)⟩ (fun E ce q9 u1 H locs hx hC hce hcv hcl => hx.elim) (fun v u1 H locs hp hC => ?_)
  obtain ⟨r_341, T1, rfl, ⟨hW, hin⟩, hu⟩ := hp; rw [hu] at hC; clear hu; try dsimp only at hW hin
  obtain ⟨hMI1, hk43, hk0, ea0, ea12, ea43⟩ := iv_Kp hI
  have hhi := Wdef.hi hW
  refine W.eq (g2 := F0 m 344 ls [.int (iI (r_341))]) rfl ?_
  have hk : 0 ≤ r_341 ∧ r_341 ≤ 3 := by rcases hW with ⟨h, -⟩ | ⟨h, -⟩ <;> omega
  have hMN1 := iv_MN1 hI hhi
  refine lv_istore (lv' := [(5, .int (iI (r_341))), (4, .int (iI (((i : Nat) : Int)))), (3, .ref (ad 43 0)), (2, .ref (ad 12 0)), (1, .ref (ad 0 0)), (0, .ref b)]) hM.1 hM.2.1 dL_law_344 hl (by decide) rfl (fun ls hl => ?_)
  refine y_aload_n hM hl 3 rfl rfl dL_law_346 ?_
  refine y_aload_n hM hl 5 rfl rfl dL_law_347 ?_
  refine y_iload hM hl 1 rfl dL_law_348 ?_
  refine y_iconst hM dL_law_350 ?_
  refine y_iadd hM dL_law_351 ?_
  refine y_scr hM hX hbl hbA hC (k := i + 1) (by omega) (by omega) hL dL_law_352 ?_
  refine y_callV hM hC (c_M_setDefault l hfl G b0 ks ad T1 P ((xs (i + 1)).toInt) (inI_of _) hMI1 hMN1) (cwV 1 hM.2.2.2.2 gL_law_X4_setDefault rfl rfl rfl (by decide +kernel) ⟨(Nat.le_of_ble_eq_true rfl), (Nat.le_of_ble_eq_true rfl)⟩) (y_recv hC hMI1.1 rfl rfl) rfl hl.1 rfl (Nat.le_of_ble_eq_true rfl) dL_law_353 ⟨(show _ ≤ 601024 by omega), (show _ ≤ 7293034 by omega)⟩ (fun E ce q9 u1 H locs hx hC hce hcv hcl => hx.elim) (fun v u1 H locs hp hC => ?_)
  obtain ⟨r_353, T2, rfl, hm, hu⟩ := hp; rw [hu] at hC; clear hu; try dsimp only at hm
  refine W.eq (g2 := F0 m 356 ls [.int (iI (r_353))]) rfl ?_
  have o4 : T2 43 0 0 = T1 43 0 0 := by rcases hm with ⟨-, hq⟩ | ⟨-, hq⟩ <;> first | (subst hq; rfl) | (subst hq; exact mdoe_ou.1) | (exact hq.2.2.1 43 0 0 (by omega) (by omega))
  obtain ⟨o1, o2, o3⟩ := op_def hI hW hm
  refine lv_istore (lv' := [(6, .int (iI (r_353))), (5, .int (iI (r_341))), (4, .int (iI (((i : Nat) : Int)))), (3, .ref (ad 43 0)), (2, .ref (ad 12 0)), (1, .ref (ad 0 0)), (0, .ref b)]) hM.1 hM.2.1 dL_law_356 hl (by decide) rfl (fun ls hl => ?_)
  refine y_aload_n hM hl 4 rfl rfl dL_law_358 ?_
  refine y_callV hM hC (c_M_thrown l hfl G b0 ks ad T2 P hMI1 o3.MN) (cwV 0 hM.2.2.2.2 gL_law_X4_thrown rfl rfl rfl (by decide +kernel) ⟨(Nat.le_of_ble_eq_true rfl), (Nat.le_of_ble_eq_true rfl)⟩) (y_recv hC hMI1.1 rfl rfl) rfl hl.1 rfl (Nat.le_of_ble_eq_true rfl) dL_law_359 ⟨(show _ ≤ 601024 by omega), (show _ ≤ 7293034 by omega)⟩ (fun E ce q9 u1 H locs hx hC hce hcv hcl => hx.elim) (fun v u1 H locs hp hC => ?_)
  obtain ⟨r_359, rfl, h_359, hu⟩ := hp; rw [hu] at hC; clear hu
  try dsimp only at h_359
  refine W.eq (g2 := F0 m 362 ls [.int (iI (r_359))]) rfl ?_
  rw [o1] at h_359
  refine y_iload hM hl 1 rfl dL_law_362 ?_
  refine y_icmp_eq hM (by constructor <;> omega) (by constructor <;> omega) (tgt := 369) dL_law_364 (by decide) (fun c_364 => ?_) (fun c_364 => False.elim (by omega))
  refine y_iload hM hl 1 rfl dL_law_369 ?_
  refine y_if_ne hM (by constructor <;> omega) (tgt := 386) dL_law_371 (by decide) (fun c_371 => ?_) (fun c_371 => ?_)
  ·
    refine lv_goto (tgt := 1216) hM.1 hM.2.1 dL_law_386 (by decide) ?_
    exact kk _ _ T2 _ _ _ _ _ ls (by omega) (by omega) hC o3 ⟨hl.1, hl.2.1, fun q hq => hl.2.2 q (List.mem_cons_of_mem _ (List.mem_cons_of_mem _ hq))⟩
  ·
    have e1 := o2 (by omega)
    have e2 : inI (T2 43 0 0) := by rw [o4]; exact hin (by omega)
    rw [e1] at hl
    refine y_aload_n hM hl 3 rfl rfl dL_law_374 ?_
    refine y_iconst hM dL_law_375 ?_
    refine y_lald hM hC hk43 rfl ⟨by omega, by omega⟩ (by decide) (x := T2 43 0 0) rfl dL_law_376 ?_
    refine y_iload hM hl 0 rfl dL_law_377 ?_
    refine y_i2l hM (by constructor <;> omega) dL_law_379 ?_
    refine y_lcmpE hM dL_law_380 ?_
    refine y_if_eq hM (by constructor <;> omega) (tgt := 386) dL_law_381 (by decide) (fun c_381 => ?_) (fun c_381 => False.elim (by omega))
    refine lv_goto (tgt := 1216) hM.1 hM.2.1 dL_law_386 (by decide) ?_
    exact kk _ _ T2 _ _ _ _ _ ls (by omega) (by omega) hC o3 ⟨hl.1, hl.2.1, fun q hq => hl.2.2 q (List.mem_cons_of_mem _ (List.mem_cons_of_mem _ hq))⟩

set_option maxRecDepth 100000 in
set_option maxHeartbeats 8000000 in
theorem law_begin {p : Program} {e : Env} {s : State} {m : MethodId} {below : List Frame} {meth : Method} {c : Code} {Q : State → Prop} (l : Launch) (hfl : l.stackTraces = false) (G : GG) (b0 : Nat) {b L : Nat} {xs : Nat → Int32} (hM : CallFix p m c cL_law 8 s #[Value.ref b] wsL_law RL) (hN : NcX s) (hX : va_X b L xs s s.heap) (hbA : ¬ b0 ≤ b) (hbl : b < s.heap.size) (hL : L ≤ 1536) {ks : KK} {ad : AD} {T : TT} {P : PP} {H : Heap} {locs : List Loc} {cells slots : Nat} (hcl : cells + 10 ≤ 601024) (hsl : slots + 100 ≤ 7293034) (i : Nat) (hi : i + 3 ≤ L) {ls : Array Slot} (hl : lv_has ls 8 [(4, .int (iI ((i : Nat) : Int))), (3, .ref (ad 43 0)), (2, .ref (ad 12 0)), (1, .ref (ad 0 0)), (0, .ref b)]) (hC : Cur G b0 (ks, ad, T, P) s H locs) (hI : IV ks ad T P)
    (kk : ∀ (ks1 : KK) (ad1 : AD) (T1 : TT) (P1 : PP) (H1 : Heap) (locs1 : List Loc) (cells1 slots1 : Nat) (ls1 : Array Slot), cells1 ≤ cells + 10 → slots1 ≤ slots + 100 → Cur G b0 (ks1, ad1, T1, P1) s H1 locs1 → IV ks1 ad1 T1 P1 → lv_has ls1 8 [(4, .int (iI ((i : Nat) : Int))), (3, .ref (ad1 43 0)), (2, .ref (ad1 12 0)), (1, .ref (ad1 0 0)), (0, .ref b)] → W p l e room_1 s m #[Value.ref b] below meth c H1 locs1 cells1 slots1 Q (F0 m 1216 ls1 [])) :
    W p l e room_1 s m #[Value.ref b] below meth c H locs cells slots Q (F0 m 389 ls []) := by
  refine y_aload_n hM hl 3 rfl rfl dL_law_389 ?_
  refine y_aload_n hM hl 4 rfl rfl dL_law_390 ?_
  refine y_iload hM hl 0 rfl dL_law_391 ?_
  refine y_iconst hM dL_law_393 ?_
  refine y_iadd hM dL_law_394 ?_
  refine y_scr hM hX hbl hbA hC (k := i + 1) (by omega) (by omega) hL dL_law_395 ?_
  refine y_aload_n hM hl 4 rfl rfl dL_law_396 ?_
  refine y_iload hM hl 0 rfl dL_law_397 ?_
  refine y_iconst hM dL_law_399 ?_
  refine y_iadd hM dL_law_400 ?_
  refine y_scr hM hX hbl hbA hC (k := i + 2) (by omega) (by omega) hL dL_law_401 ?_
  refine y_aload_n hM hl 1 rfl rfl dL_law_402 ?_
  refine y_callSX hM hN hC (c_L_begin l hfl G b0 ks ad T P ((xs (i + 1)).toInt) ((xs (i + 2)).toInt) (inI_of _) (inI_of _) hI) (vx_cwSW 4 hM.2.2.2.2 gL_law_L_begin rfl rfl rfl (by decide +kernel) ⟨(Nat.le_of_ble_eq_true rfl), (Nat.le_of_ble_eq_true rfl)⟩) rfl hl.1 rfl (Nat.le_of_ble_eq_true rfl) dL_law_403 ⟨(show _ ≤ 601024 by omega), (show _ ≤ 7293034 by omega)⟩ (fun E ce q9 u1 H locs hx hC hce hcv hcl => hx.elim) (fun v u1 H locs hp hC => ?_)
  obtain ⟨r_403, rfl, ⟨hW, hin⟩, -⟩ := hp
  obtain ⟨ks1, ad1, T1, P1⟩ := u1
  obtain ⟨⟨hMI1, hk43, hk0, ea0, ea12, ea43⟩, hhi⟩ := Wbeg.kp hI hW
  rw [← ea0, ← ea12, ← ea43] at hl
  refine W.eq (g2 := F0 m 406 ls [.int (iI (r_403))]) rfl ?_
  have hk : 0 ≤ r_403 ∧ r_403 ≤ 3 := by rcases hW with ⟨h, -⟩ | ⟨h, -⟩ | ⟨h, -⟩ <;> omega
  have hMN1 := iv_MN1 hI hhi
  refine lv_istore (lv' := [(5, .int (iI (r_403))), (4, .int (iI (((i : Nat) : Int)))), (3, .ref (ad1 43 0)), (2, .ref (ad1 12 0)), (1, .ref (ad1 0 0)), (0, .ref b)]) hM.1 hM.2.1 dL_law_406 hl (by decide) rfl (fun ls hl => ?_)
  refine y_aload_n hM hl 3 rfl rfl dL_law_408 ?_
  refine y_aload_n hM hl 5 rfl rfl dL_law_409 ?_
  refine y_iload hM hl 1 rfl dL_law_410 ?_
  refine y_iconst hM dL_law_412 ?_
  refine y_iadd hM dL_law_413 ?_
  refine y_scr hM hX hbl hbA hC (k := i + 1) (by omega) (by omega) hL dL_law_414 ?_
  refine y_aload_n hM hl 5 rfl rfl dL_law_415 ?_
  refine y_iload hM hl 1 rfl dL_law_416 ?_
  refine y_iconst hM dL_law_418 ?_
  refine y_iadd hM dL_law_419 ?_
  refine y_scr hM hX hbl hbA hC (k := i + 2) (by omega) (by omega) hL dL_law_420 ?_
  refine y_callV hM hC (c_M_begin l hfl G b0 ks1 ad1 T1 P1 ((xs (i + 1)).toInt) ((xs (i + 2)).toInt) (inI_of _) (inI_of _) hMI1 hMN1) (cwV 2 hM.2.2.2.2 gL_law_X4_begin rfl rfl rfl (by decide +kernel) ⟨(Nat.le_of_ble_eq_true rfl), (Nat.le_of_ble_eq_true rfl)⟩) (y_recv hC hMI1.1 rfl rfl) rfl hl.1 rfl (Nat.le_of_ble_eq_true rfl) dL_law_421 ⟨(show _ ≤ 601024 by omega), (show _ ≤ 7293034 by omega)⟩ (fun E ce q9 u1 H locs hx hC hce hcv hcl => hx.elim) (fun v u1 H locs hp hC => ?_)
  obtain ⟨r_421, T2, rfl, hm, hu⟩ := hp; rw [hu] at hC; clear hu; try dsimp only at hm
  refine W.eq (g2 := F0 m 424 ls [.int (iI (r_421))]) rfl ?_
  have o4 : T2 43 0 0 = T1 43 0 0 := by rcases hm with ⟨-, hq⟩ | ⟨-, hq⟩ | ⟨-, hq⟩ <;> first | (subst hq; rfl) | (subst hq; exact mdoe_ou.1) | (exact hq.2.2.1 43 0 0 (by omega) (by omega))
  obtain ⟨o1, o2, o3⟩ := op_beg hI hW hm
  refine lv_istore (lv' := [(6, .int (iI (r_421))), (5, .int (iI (r_403))), (4, .int (iI (((i : Nat) : Int)))), (3, .ref (ad1 43 0)), (2, .ref (ad1 12 0)), (1, .ref (ad1 0 0)), (0, .ref b)]) hM.1 hM.2.1 dL_law_424 hl (by decide) rfl (fun ls hl => ?_)
  refine y_aload_n hM hl 4 rfl rfl dL_law_426 ?_
  refine y_callV hM hC (c_M_thrown l hfl G b0 ks1 ad1 T2 P1 hMI1 o3.MN) (cwV 0 hM.2.2.2.2 gL_law_X4_thrown rfl rfl rfl (by decide +kernel) ⟨(Nat.le_of_ble_eq_true rfl), (Nat.le_of_ble_eq_true rfl)⟩) (y_recv hC hMI1.1 rfl rfl) rfl hl.1 rfl (Nat.le_of_ble_eq_true rfl) dL_law_427 ⟨(show _ ≤ 601024 by omega), (show _ ≤ 7293034 by omega)⟩ (fun E ce q9 u1 H locs hx hC hce hcv hcl => hx.elim) (fun v u1 H locs hp hC => ?_)
  obtain ⟨r_427, rfl, h_427, hu⟩ := hp; rw [hu] at hC; clear hu
  try dsimp only at h_427
  refine W.eq (g2 := F0 m 430 ls [.int (iI (r_427))]) rfl ?_
  rw [o1] at h_427
  refine y_iload hM hl 1 rfl dL_law_430 ?_
  refine y_icmp_eq hM (by constructor <;> omega) (by constructor <;> omega) (tgt := 437) dL_law_432 (by decide) (fun c_432 => ?_) (fun c_432 => False.elim (by omega))
  refine y_iload hM hl 1 rfl dL_law_437 ?_
  refine y_if_ne hM (by constructor <;> omega) (tgt := 454) dL_law_439 (by decide) (fun c_439 => ?_) (fun c_439 => ?_)
  ·
    refine lv_goto (tgt := 1216) hM.1 hM.2.1 dL_law_454 (by decide) ?_
    exact kk _ _ T2 _ _ _ _ _ ls (by omega) (by omega) hC o3 ⟨hl.1, hl.2.1, fun q hq => hl.2.2 q (List.mem_cons_of_mem _ (List.mem_cons_of_mem _ hq))⟩
  ·
    have e1 := o2 (by omega)
    have e2 : inI (T2 43 0 0) := by rw [o4]; exact hin (by omega)
    rw [e1] at hl
    refine y_aload_n hM hl 3 rfl rfl dL_law_442 ?_
    refine y_iconst hM dL_law_443 ?_
    refine y_lald hM hC hk43 rfl ⟨by omega, by omega⟩ (by decide) (x := T2 43 0 0) rfl dL_law_444 ?_
    refine y_iload hM hl 0 rfl dL_law_445 ?_
    refine y_i2l hM (by constructor <;> omega) dL_law_447 ?_
    refine y_lcmpE hM dL_law_448 ?_
    refine y_if_eq hM (by constructor <;> omega) (tgt := 454) dL_law_449 (by decide) (fun c_449 => ?_) (fun c_449 => False.elim (by omega))
    refine lv_goto (tgt := 1216) hM.1 hM.2.1 dL_law_454 (by decide) ?_
    exact kk _ _ T2 _ _ _ _ _ ls (by omega) (by omega) hC o3 ⟨hl.1, hl.2.1, fun q hq => hl.2.2 q (List.mem_cons_of_mem _ (List.mem_cons_of_mem _ hq))⟩

set_option maxRecDepth 100000 in
set_option maxHeartbeats 8000000 in
theorem law_pay {p : Program} {e : Env} {s : State} {m : MethodId} {below : List Frame} {meth : Method} {c : Code} {Q : State → Prop} (l : Launch) (hfl : l.stackTraces = false) (G : GG) (b0 : Nat) {b L : Nat} {xs : Nat → Int32} (hM : CallFix p m c cL_law 8 s #[Value.ref b] wsL_law RL) (hN : NcX s) (hX : va_X b L xs s s.heap) (hbA : ¬ b0 ≤ b) (hbl : b < s.heap.size) (hL : L ≤ 1536) {ks : KK} {ad : AD} {T : TT} {P : PP} {H : Heap} {locs : List Loc} {cells slots : Nat} (hcl : cells + 10 ≤ 601024) (hsl : slots + 100 ≤ 7293034) (i : Nat) (hi : i + 3 ≤ L) {ls : Array Slot} (hl : lv_has ls 8 [(4, .int (iI ((i : Nat) : Int))), (3, .ref (ad 43 0)), (2, .ref (ad 12 0)), (1, .ref (ad 0 0)), (0, .ref b)]) (hC : Cur G b0 (ks, ad, T, P) s H locs) (hI : IV ks ad T P)
    (kk : ∀ (ks1 : KK) (ad1 : AD) (T1 : TT) (P1 : PP) (H1 : Heap) (locs1 : List Loc) (cells1 slots1 : Nat) (ls1 : Array Slot), cells1 ≤ cells + 10 → slots1 ≤ slots + 100 → Cur G b0 (ks1, ad1, T1, P1) s H1 locs1 → IV ks1 ad1 T1 P1 → lv_has ls1 8 [(4, .int (iI ((i : Nat) : Int))), (3, .ref (ad1 43 0)), (2, .ref (ad1 12 0)), (1, .ref (ad1 0 0)), (0, .ref b)] → W p l e room_1 s m #[Value.ref b] below meth c H1 locs1 cells1 slots1 Q (F0 m 1216 ls1 [])) :
    W p l e room_1 s m #[Value.ref b] below meth c H locs cells slots Q (F0 m 457 ls []) := by
  refine y_aload_n hM hl 3 rfl rfl dL_law_457 ?_
  refine y_aload_n hM hl 4 rfl rfl dL_law_458 ?_
  refine y_iload hM hl 0 rfl dL_law_459 ?_
  refine y_iconst hM dL_law_461 ?_
  refine y_iadd hM dL_law_462 ?_
  refine y_scr hM hX hbl hbA hC (k := i + 1) (by omega) (by omega) hL dL_law_463 ?_
  refine y_aload_n hM hl 4 rfl rfl dL_law_464 ?_
  refine y_iload hM hl 0 rfl dL_law_465 ?_
  refine y_iconst hM dL_law_467 ?_
  refine y_iadd hM dL_law_468 ?_
  refine y_scr hM hX hbl hbA hC (k := i + 2) (by omega) (by omega) hL dL_law_469 ?_
  refine y_aload_n hM hl 1 rfl rfl dL_law_470 ?_
  refine y_callSX hM hN hC (c_L_pay l hfl G b0 ks ad T P ((xs (i + 1)).toInt) ((xs (i + 2)).toInt) (inI_of _) (inI_of _) hI) (vx_cwSW 4 hM.2.2.2.2 gL_law_L_pay rfl rfl rfl (by decide +kernel) ⟨(Nat.le_of_ble_eq_true rfl), (Nat.le_of_ble_eq_true rfl)⟩) rfl hl.1 rfl (Nat.le_of_ble_eq_true rfl) dL_law_471 ⟨(show _ ≤ 601024 by omega), (show _ ≤ 7293034 by omega)⟩ (fun E ce q9 u1 H locs hx hC hce hcv hcl => hx.elim) (fun v u1 H locs hp hC => ?_)
  obtain ⟨r_471, T1, rfl, ⟨hW, hin⟩, hu⟩ := hp; rw [hu] at hC; clear hu; try dsimp only at hW hin
  obtain ⟨hMI1, hk43, hk0, ea0, ea12, ea43⟩ := iv_Kp hI
  have hhi := Wpay.hi hW
  refine W.eq (g2 := F0 m 474 ls [.int (iI (r_471))]) rfl ?_
  have hk : 0 ≤ r_471 ∧ r_471 ≤ 3 := by rcases hW with ⟨h, -⟩ | ⟨h, -⟩ | ⟨h, -⟩ | ⟨h, -⟩ <;> omega
  have hMN1 := iv_MN1 hI hhi
  refine lv_istore (lv' := [(5, .int (iI (r_471))), (4, .int (iI (((i : Nat) : Int)))), (3, .ref (ad 43 0)), (2, .ref (ad 12 0)), (1, .ref (ad 0 0)), (0, .ref b)]) hM.1 hM.2.1 dL_law_474 hl (by decide) rfl (fun ls hl => ?_)
  refine y_aload_n hM hl 3 rfl rfl dL_law_476 ?_
  refine y_aload_n hM hl 5 rfl rfl dL_law_477 ?_
  refine y_iload hM hl 1 rfl dL_law_478 ?_
  refine y_iconst hM dL_law_480 ?_
  refine y_iadd hM dL_law_481 ?_
  refine y_scr hM hX hbl hbA hC (k := i + 1) (by omega) (by omega) hL dL_law_482 ?_
  refine y_aload_n hM hl 5 rfl rfl dL_law_483 ?_
  refine y_iload hM hl 1 rfl dL_law_484 ?_
  refine y_iconst hM dL_law_486 ?_
  refine y_iadd hM dL_law_487 ?_
  refine y_scr hM hX hbl hbA hC (k := i + 2) (by omega) (by omega) hL dL_law_488 ?_
  refine y_callV hM hC (c_M_pay l hfl G b0 ks ad T1 P ((xs (i + 1)).toInt) ((xs (i + 2)).toInt) (inI_of _) (inI_of _) hMI1 hMN1) (cwV 2 hM.2.2.2.2 gL_law_X4_pay rfl rfl rfl (by decide +kernel) ⟨(Nat.le_of_ble_eq_true rfl), (Nat.le_of_ble_eq_true rfl)⟩) (y_recv hC hMI1.1 rfl rfl) rfl hl.1 rfl (Nat.le_of_ble_eq_true rfl) dL_law_489 ⟨(show _ ≤ 601024 by omega), (show _ ≤ 7293034 by omega)⟩ (fun E ce q9 u1 H locs hx hC hce hcv hcl => hx.elim) (fun v u1 H locs hp hC => ?_)
  obtain ⟨r_489, T2, rfl, hm, hu⟩ := hp; rw [hu] at hC; clear hu; try dsimp only at hm
  refine W.eq (g2 := F0 m 492 ls [.int (iI (r_489))]) rfl ?_
  have o4 : T2 43 0 0 = T1 43 0 0 := by rcases hm with ⟨-, hq⟩ | ⟨-, hq⟩ | ⟨-, hq⟩ | ⟨-, hq⟩ <;> first | (subst hq; rfl) | (subst hq; exact mdoe_ou.1) | (exact hq.2.2.1 43 0 0 (by omega) (by omega))
  obtain ⟨o1, o2, o3⟩ := op_pay hI hW hm
  refine lv_istore (lv' := [(6, .int (iI (r_489))), (5, .int (iI (r_471))), (4, .int (iI (((i : Nat) : Int)))), (3, .ref (ad 43 0)), (2, .ref (ad 12 0)), (1, .ref (ad 0 0)), (0, .ref b)]) hM.1 hM.2.1 dL_law_492 hl (by decide) rfl (fun ls hl => ?_)
  refine y_aload_n hM hl 4 rfl rfl dL_law_494 ?_
  refine y_callV hM hC (c_M_thrown l hfl G b0 ks ad T2 P hMI1 o3.MN) (cwV 0 hM.2.2.2.2 gL_law_X4_thrown rfl rfl rfl (by decide +kernel) ⟨(Nat.le_of_ble_eq_true rfl), (Nat.le_of_ble_eq_true rfl)⟩) (y_recv hC hMI1.1 rfl rfl) rfl hl.1 rfl (Nat.le_of_ble_eq_true rfl) dL_law_495 ⟨(show _ ≤ 601024 by omega), (show _ ≤ 7293034 by omega)⟩ (fun E ce q9 u1 H locs hx hC hce hcv hcl => hx.elim) (fun v u1 H locs hp hC => ?_)
  obtain ⟨r_495, rfl, h_495, hu⟩ := hp; rw [hu] at hC; clear hu
  try dsimp only at h_495
  refine W.eq (g2 := F0 m 498 ls [.int (iI (r_495))]) rfl ?_
  rw [o1] at h_495
  refine y_iload hM hl 1 rfl dL_law_498 ?_
  refine y_icmp_eq hM (by constructor <;> omega) (by constructor <;> omega) (tgt := 505) dL_law_500 (by decide) (fun c_500 => ?_) (fun c_500 => False.elim (by omega))
  refine y_iload hM hl 1 rfl dL_law_505 ?_
  refine y_if_ne hM (by constructor <;> omega) (tgt := 522) dL_law_507 (by decide) (fun c_507 => ?_) (fun c_507 => ?_)
  ·
    refine lv_goto (tgt := 1216) hM.1 hM.2.1 dL_law_522 (by decide) ?_
    exact kk _ _ T2 _ _ _ _ _ ls (by omega) (by omega) hC o3 ⟨hl.1, hl.2.1, fun q hq => hl.2.2 q (List.mem_cons_of_mem _ (List.mem_cons_of_mem _ hq))⟩
  ·
    have e1 := o2 (by omega)
    have e2 : inI (T2 43 0 0) := by rw [o4]; exact hin (by omega)
    rw [e1] at hl
    refine y_aload_n hM hl 3 rfl rfl dL_law_510 ?_
    refine y_iconst hM dL_law_511 ?_
    refine y_lald hM hC hk43 rfl ⟨by omega, by omega⟩ (by decide) (x := T2 43 0 0) rfl dL_law_512 ?_
    refine y_iload hM hl 0 rfl dL_law_513 ?_
    refine y_i2l hM (by constructor <;> omega) dL_law_515 ?_
    refine y_lcmpE hM dL_law_516 ?_
    refine y_if_eq hM (by constructor <;> omega) (tgt := 522) dL_law_517 (by decide) (fun c_517 => ?_) (fun c_517 => False.elim (by omega))
    refine lv_goto (tgt := 1216) hM.1 hM.2.1 dL_law_522 (by decide) ?_
    exact kk _ _ T2 _ _ _ _ _ ls (by omega) (by omega) hC o3 ⟨hl.1, hl.2.1, fun q hq => hl.2.2 q (List.mem_cons_of_mem _ (List.mem_cons_of_mem _ hq))⟩

set_option maxRecDepth 100000 in
set_option maxHeartbeats 8000000 in
theorem law_units {p : Program} {e : Env} {s : State} {m : MethodId} {below : List Frame} {meth : Method} {c : Code} {Q : State → Prop} (l : Launch) (hfl : l.stackTraces = false) (G : GG) (b0 : Nat) {b L : Nat} {xs : Nat → Int32} (hM : CallFix p m c cL_law 8 s #[Value.ref b] wsL_law RL) (hN : NcX s) (hX : va_X b L xs s s.heap) (hbA : ¬ b0 ≤ b) (hbl : b < s.heap.size) (hL : L ≤ 1536) {ks : KK} {ad : AD} {T : TT} {P : PP} {H : Heap} {locs : List Loc} {cells slots : Nat} (hcl : cells + 10 ≤ 601024) (hsl : slots + 100 ≤ 7293034) (i : Nat) (hi : i + 3 ≤ L) {ls : Array Slot} (hl : lv_has ls 8 [(4, .int (iI ((i : Nat) : Int))), (3, .ref (ad 43 0)), (2, .ref (ad 12 0)), (1, .ref (ad 0 0)), (0, .ref b)]) (hC : Cur G b0 (ks, ad, T, P) s H locs) (hI : IV ks ad T P)
    (kk : ∀ (ks1 : KK) (ad1 : AD) (T1 : TT) (P1 : PP) (H1 : Heap) (locs1 : List Loc) (cells1 slots1 : Nat) (ls1 : Array Slot), cells1 ≤ cells + 10 → slots1 ≤ slots + 100 → Cur G b0 (ks1, ad1, T1, P1) s H1 locs1 → IV ks1 ad1 T1 P1 → lv_has ls1 8 [(4, .int (iI ((i : Nat) : Int))), (3, .ref (ad1 43 0)), (2, .ref (ad1 12 0)), (1, .ref (ad1 0 0)), (0, .ref b)] → W p l e room_1 s m #[Value.ref b] below meth c H1 locs1 cells1 slots1 Q (F0 m 1216 ls1 [])) :
    W p l e room_1 s m #[Value.ref b] below meth c H locs cells slots Q (F0 m 525 ls []) := by
  refine y_aload_n hM hl 3 rfl rfl dL_law_525 ?_
  refine y_aload_n hM hl 4 rfl rfl dL_law_526 ?_
  refine y_iload hM hl 0 rfl dL_law_527 ?_
  refine y_iconst hM dL_law_529 ?_
  refine y_iadd hM dL_law_530 ?_
  refine y_scr hM hX hbl hbA hC (k := i + 1) (by omega) (by omega) hL dL_law_531 ?_
  refine y_aload_n hM hl 1 rfl rfl dL_law_532 ?_
  refine y_callSX hM hN hC (c_L_units l hfl G b0 ks ad T P ((xs (i + 1)).toInt) (inI_of _) hI) (vx_cwSW 3 hM.2.2.2.2 gL_law_L_units rfl rfl rfl (by decide +kernel) ⟨(Nat.le_of_ble_eq_true rfl), (Nat.le_of_ble_eq_true rfl)⟩) rfl hl.1 rfl (Nat.le_of_ble_eq_true rfl) dL_law_533 ⟨(show _ ≤ 601024 by omega), (show _ ≤ 7293034 by omega)⟩ (fun E ce q9 u1 H locs hx hC hce hcv hcl => hx.elim) (fun v u1 H locs hp hC => ?_)
  obtain ⟨r_533, T1, rfl, ⟨hW, hin⟩, hu⟩ := hp; rw [hu] at hC; clear hu; try dsimp only at hW hin
  obtain ⟨hMI1, hk43, hk0, ea0, ea12, ea43⟩ := iv_Kp hI
  have hhi := Wq.hi hW
  refine W.eq (g2 := F0 m 536 ls [.int (iI (r_533))]) rfl ?_
  have hk : 0 ≤ r_533 ∧ r_533 ≤ 3 := by rcases hW with ⟨h, -⟩ | ⟨h, -⟩ <;> omega
  have hMN1 := iv_MN1 hI hhi
  refine lv_istore (lv' := [(5, .int (iI (r_533))), (4, .int (iI (((i : Nat) : Int)))), (3, .ref (ad 43 0)), (2, .ref (ad 12 0)), (1, .ref (ad 0 0)), (0, .ref b)]) hM.1 hM.2.1 dL_law_536 hl (by decide) rfl (fun ls hl => ?_)
  refine y_aload_n hM hl 3 rfl rfl dL_law_538 ?_
  refine y_aload_n hM hl 5 rfl rfl dL_law_539 ?_
  refine y_iload hM hl 1 rfl dL_law_540 ?_
  refine y_iconst hM dL_law_542 ?_
  refine y_iadd hM dL_law_543 ?_
  refine y_scr hM hX hbl hbA hC (k := i + 1) (by omega) (by omega) hL dL_law_544 ?_
  refine y_callV hM hC (c_M_units l hfl G b0 ks ad T1 P ((xs (i + 1)).toInt) (inI_of _) hMI1 hMN1) (cwV 1 hM.2.2.2.2 gL_law_X4_units rfl rfl rfl (by decide +kernel) ⟨(Nat.le_of_ble_eq_true rfl), (Nat.le_of_ble_eq_true rfl)⟩) (y_recv hC hMI1.1 rfl rfl) rfl hl.1 rfl (Nat.le_of_ble_eq_true rfl) dL_law_545 ⟨(show _ ≤ 601024 by omega), (show _ ≤ 7293034 by omega)⟩ (fun E ce q9 u1 H locs hx hC hce hcv hcl => hx.elim) (fun v u1 H locs hp hC => ?_)
  obtain ⟨r_545, T2, rfl, hm, hu⟩ := hp; rw [hu] at hC; clear hu; try dsimp only at hm
  refine W.eq (g2 := F0 m 548 ls [.long (lI (r_545))]) rfl ?_
  have o4 : T2 43 0 0 = T1 43 0 0 := by rcases hm with ⟨-, hq⟩ | ⟨-, hq⟩ <;> first | (subst hq; rfl) | (subst hq; exact mdoe_ou.1) | (exact hq.2.2.1 43 0 0 (by omega) (by omega))
  obtain ⟨o1, o2, o3⟩ := op_uni hI hW hm
  refine lv_lstore (lv' := [(6, .long (lI (r_545))), (5, .int (iI (r_533))), (4, .int (iI (((i : Nat) : Int)))), (3, .ref (ad 43 0)), (2, .ref (ad 12 0)), (1, .ref (ad 0 0)), (0, .ref b)]) hM.1 hM.2.1 dL_law_548 hl (by decide) rfl (fun ls hl => ?_)
  refine y_aload_n hM hl 4 rfl rfl dL_law_550 ?_
  refine y_callV hM hC (c_M_thrown l hfl G b0 ks ad T2 P hMI1 o3.MN) (cwV 0 hM.2.2.2.2 gL_law_X4_thrown rfl rfl rfl (by decide +kernel) ⟨(Nat.le_of_ble_eq_true rfl), (Nat.le_of_ble_eq_true rfl)⟩) (y_recv hC hMI1.1 rfl rfl) rfl hl.1 rfl (Nat.le_of_ble_eq_true rfl) dL_law_551 ⟨(show _ ≤ 601024 by omega), (show _ ≤ 7293034 by omega)⟩ (fun E ce q9 u1 H locs hx hC hce hcv hcl => hx.elim) (fun v u1 H locs hp hC => ?_)
  obtain ⟨r_551, rfl, h_551, hu⟩ := hp; rw [hu] at hC; clear hu
  try dsimp only at h_551
  refine W.eq (g2 := F0 m 554 ls [.int (iI (r_551))]) rfl ?_
  rw [o1] at h_551
  refine y_iload hM hl 1 rfl dL_law_554 ?_
  refine y_icmp_eq hM (by constructor <;> omega) (by constructor <;> omega) (tgt := 561) dL_law_556 (by decide) (fun c_556 => ?_) (fun c_556 => False.elim (by omega))
  refine y_iload hM hl 1 rfl dL_law_561 ?_
  refine y_if_ne hM (by constructor <;> omega) (tgt := 577) dL_law_563 (by decide) (fun c_563 => ?_) (fun c_563 => ?_)
  ·
    refine lv_goto (tgt := 1216) hM.1 hM.2.1 dL_law_577 (by decide) ?_
    exact kk _ _ T2 _ _ _ _ _ ls (by omega) (by omega) hC o3 ⟨hl.1, hl.2.1, fun q hq => hl.2.2 q (List.mem_cons_of_mem _ (List.mem_cons_of_mem _ hq))⟩
  ·
    have e1 := o2 (by omega)
    rw [e1] at hl
    refine y_aload_n hM hl 3 rfl rfl dL_law_566 ?_
    refine y_iconst hM dL_law_567 ?_
    refine y_lald hM hC hk43 rfl ⟨by omega, by omega⟩ (by decide) (x := T2 43 0 0) rfl dL_law_568 ?_
    refine y_lload hM hl 0 rfl dL_law_569 ?_
    refine y_lcmpE hM dL_law_571 ?_
    refine y_if_eq hM (by constructor <;> omega) (tgt := 577) dL_law_572 (by decide) (fun c_572 => ?_) (fun c_572 => False.elim (by omega))
    refine lv_goto (tgt := 1216) hM.1 hM.2.1 dL_law_577 (by decide) ?_
    exact kk _ _ T2 _ _ _ _ _ ls (by omega) (by omega) hC o3 ⟨hl.1, hl.2.1, fun q hq => hl.2.2 q (List.mem_cons_of_mem _ (List.mem_cons_of_mem _ hq))⟩

set_option maxRecDepth 100000 in
set_option maxHeartbeats 8000000 in
theorem law_provider {p : Program} {e : Env} {s : State} {m : MethodId} {below : List Frame} {meth : Method} {c : Code} {Q : State → Prop} (l : Launch) (hfl : l.stackTraces = false) (G : GG) (b0 : Nat) {b L : Nat} {xs : Nat → Int32} (hM : CallFix p m c cL_law 8 s #[Value.ref b] wsL_law RL) (hN : NcX s) (hX : va_X b L xs s s.heap) (hbA : ¬ b0 ≤ b) (hbl : b < s.heap.size) (hL : L ≤ 1536) {ks : KK} {ad : AD} {T : TT} {P : PP} {H : Heap} {locs : List Loc} {cells slots : Nat} (hcl : cells + 10 ≤ 601024) (hsl : slots + 100 ≤ 7293034) (i : Nat) (hi : i + 3 ≤ L) {ls : Array Slot} (hl : lv_has ls 8 [(4, .int (iI ((i : Nat) : Int))), (3, .ref (ad 43 0)), (2, .ref (ad 12 0)), (1, .ref (ad 0 0)), (0, .ref b)]) (hC : Cur G b0 (ks, ad, T, P) s H locs) (hI : IV ks ad T P)
    (kk : ∀ (ks1 : KK) (ad1 : AD) (T1 : TT) (P1 : PP) (H1 : Heap) (locs1 : List Loc) (cells1 slots1 : Nat) (ls1 : Array Slot), cells1 ≤ cells + 10 → slots1 ≤ slots + 100 → Cur G b0 (ks1, ad1, T1, P1) s H1 locs1 → IV ks1 ad1 T1 P1 → lv_has ls1 8 [(4, .int (iI ((i : Nat) : Int))), (3, .ref (ad1 43 0)), (2, .ref (ad1 12 0)), (1, .ref (ad1 0 0)), (0, .ref b)] → W p l e room_1 s m #[Value.ref b] below meth c H1 locs1 cells1 slots1 Q (F0 m 1216 ls1 [])) :
    W p l e room_1 s m #[Value.ref b] below meth c H locs cells slots Q (F0 m 580 ls []) := by
  refine y_aload_n hM hl 3 rfl rfl dL_law_580 ?_
  refine y_aload_n hM hl 4 rfl rfl dL_law_581 ?_
  refine y_iload hM hl 0 rfl dL_law_582 ?_
  refine y_iconst hM dL_law_584 ?_
  refine y_iadd hM dL_law_585 ?_
  refine y_scr hM hX hbl hbA hC (k := i + 1) (by omega) (by omega) hL dL_law_586 ?_
  refine y_aload_n hM hl 1 rfl rfl dL_law_587 ?_
  refine y_callSX hM hN hC (c_L_provider l hfl G b0 ks ad T P ((xs (i + 1)).toInt) (inI_of _) hI) (vx_cwSW 3 hM.2.2.2.2 gL_law_L_provider rfl rfl rfl (by decide +kernel) ⟨(Nat.le_of_ble_eq_true rfl), (Nat.le_of_ble_eq_true rfl)⟩) rfl hl.1 rfl (Nat.le_of_ble_eq_true rfl) dL_law_588 ⟨(show _ ≤ 601024 by omega), (show _ ≤ 7293034 by omega)⟩ (fun E ce q9 u1 H locs hx hC hce hcv hcl => hx.elim) (fun v u1 H locs hp hC => ?_)
  obtain ⟨r_588, T1, rfl, ⟨hW, hin⟩, hu⟩ := hp; rw [hu] at hC; clear hu; try dsimp only at hW hin
  obtain ⟨hMI1, hk43, hk0, ea0, ea12, ea43⟩ := iv_Kp hI
  have hhi := Wq.hi hW
  refine W.eq (g2 := F0 m 591 ls [.int (iI (r_588))]) rfl ?_
  have hk : 0 ≤ r_588 ∧ r_588 ≤ 3 := by rcases hW with ⟨h, -⟩ | ⟨h, -⟩ <;> omega
  have hMN1 := iv_MN1 hI hhi
  refine lv_istore (lv' := [(5, .int (iI (r_588))), (4, .int (iI (((i : Nat) : Int)))), (3, .ref (ad 43 0)), (2, .ref (ad 12 0)), (1, .ref (ad 0 0)), (0, .ref b)]) hM.1 hM.2.1 dL_law_591 hl (by decide) rfl (fun ls hl => ?_)
  refine y_aload_n hM hl 3 rfl rfl dL_law_593 ?_
  refine y_aload_n hM hl 5 rfl rfl dL_law_594 ?_
  refine y_iload hM hl 1 rfl dL_law_595 ?_
  refine y_iconst hM dL_law_597 ?_
  refine y_iadd hM dL_law_598 ?_
  refine y_scr hM hX hbl hbA hC (k := i + 1) (by omega) (by omega) hL dL_law_599 ?_
  refine y_callV hM hC (c_M_provider l hfl G b0 ks ad T1 P ((xs (i + 1)).toInt) (inI_of _) hMI1 hMN1) (cwV 1 hM.2.2.2.2 gL_law_X4_provider rfl rfl rfl (by decide +kernel) ⟨(Nat.le_of_ble_eq_true rfl), (Nat.le_of_ble_eq_true rfl)⟩) (y_recv hC hMI1.1 rfl rfl) rfl hl.1 rfl (Nat.le_of_ble_eq_true rfl) dL_law_600 ⟨(show _ ≤ 601024 by omega), (show _ ≤ 7293034 by omega)⟩ (fun E ce q9 u1 H locs hx hC hce hcv hcl => hx.elim) (fun v u1 H locs hp hC => ?_)
  obtain ⟨r_600, T2, rfl, hm, hu⟩ := hp; rw [hu] at hC; clear hu; try dsimp only at hm
  refine W.eq (g2 := F0 m 603 ls [.int (iI (r_600))]) rfl ?_
  have o4 : T2 43 0 0 = T1 43 0 0 := by rcases hm with ⟨-, hq⟩ | ⟨-, hq⟩ <;> first | (subst hq; rfl) | (subst hq; exact mdoe_ou.1) | (exact hq.2.2.1 43 0 0 (by omega) (by omega))
  obtain ⟨o1, o2, o3⟩ := op_pro hI hW hm
  refine lv_istore (lv' := [(6, .int (iI (r_600))), (5, .int (iI (r_588))), (4, .int (iI (((i : Nat) : Int)))), (3, .ref (ad 43 0)), (2, .ref (ad 12 0)), (1, .ref (ad 0 0)), (0, .ref b)]) hM.1 hM.2.1 dL_law_603 hl (by decide) rfl (fun ls hl => ?_)
  refine y_aload_n hM hl 4 rfl rfl dL_law_605 ?_
  refine y_callV hM hC (c_M_thrown l hfl G b0 ks ad T2 P hMI1 o3.MN) (cwV 0 hM.2.2.2.2 gL_law_X4_thrown rfl rfl rfl (by decide +kernel) ⟨(Nat.le_of_ble_eq_true rfl), (Nat.le_of_ble_eq_true rfl)⟩) (y_recv hC hMI1.1 rfl rfl) rfl hl.1 rfl (Nat.le_of_ble_eq_true rfl) dL_law_606 ⟨(show _ ≤ 601024 by omega), (show _ ≤ 7293034 by omega)⟩ (fun E ce q9 u1 H locs hx hC hce hcv hcl => hx.elim) (fun v u1 H locs hp hC => ?_)
  obtain ⟨r_606, rfl, h_606, hu⟩ := hp; rw [hu] at hC; clear hu
  try dsimp only at h_606
  refine W.eq (g2 := F0 m 609 ls [.int (iI (r_606))]) rfl ?_
  rw [o1] at h_606
  refine y_iload hM hl 1 rfl dL_law_609 ?_
  refine y_icmp_eq hM (by constructor <;> omega) (by constructor <;> omega) (tgt := 616) dL_law_611 (by decide) (fun c_611 => ?_) (fun c_611 => False.elim (by omega))
  refine y_iload hM hl 1 rfl dL_law_616 ?_
  refine y_if_ne hM (by constructor <;> omega) (tgt := 633) dL_law_618 (by decide) (fun c_618 => ?_) (fun c_618 => ?_)
  ·
    refine lv_goto (tgt := 1216) hM.1 hM.2.1 dL_law_633 (by decide) ?_
    exact kk _ _ T2 _ _ _ _ _ ls (by omega) (by omega) hC o3 ⟨hl.1, hl.2.1, fun q hq => hl.2.2 q (List.mem_cons_of_mem _ (List.mem_cons_of_mem _ hq))⟩
  ·
    have e1 := o2 (by omega)
    have e2 : inI (T2 43 0 0) := by rw [o4]; exact hin (by omega)
    rw [e1] at hl
    refine y_aload_n hM hl 3 rfl rfl dL_law_621 ?_
    refine y_iconst hM dL_law_622 ?_
    refine y_lald hM hC hk43 rfl ⟨by omega, by omega⟩ (by decide) (x := T2 43 0 0) rfl dL_law_623 ?_
    refine y_iload hM hl 0 rfl dL_law_624 ?_
    refine y_i2l hM (by constructor <;> omega) dL_law_626 ?_
    refine y_lcmpE hM dL_law_627 ?_
    refine y_if_eq hM (by constructor <;> omega) (tgt := 633) dL_law_628 (by decide) (fun c_628 => ?_) (fun c_628 => False.elim (by omega))
    refine lv_goto (tgt := 1216) hM.1 hM.2.1 dL_law_633 (by decide) ?_
    exact kk _ _ T2 _ _ _ _ _ ls (by omega) (by omega) hC o3 ⟨hl.1, hl.2.1, fun q hq => hl.2.2 q (List.mem_cons_of_mem _ (List.mem_cons_of_mem _ hq))⟩

set_option maxRecDepth 100000 in
set_option maxHeartbeats 8000000 in
theorem law_order {p : Program} {e : Env} {s : State} {m : MethodId} {below : List Frame} {meth : Method} {c : Code} {Q : State → Prop} (l : Launch) (hfl : l.stackTraces = false) (G : GG) (b0 : Nat) {b L : Nat} {xs : Nat → Int32} (hM : CallFix p m c cL_law 8 s #[Value.ref b] wsL_law RL) (hN : NcX s) (hX : va_X b L xs s s.heap) (hbA : ¬ b0 ≤ b) (hbl : b < s.heap.size) (hL : L ≤ 1536) {ks : KK} {ad : AD} {T : TT} {P : PP} {H : Heap} {locs : List Loc} {cells slots : Nat} (hcl : cells + 10 ≤ 601024) (hsl : slots + 100 ≤ 7293034) (i : Nat) (hi : i + 3 ≤ L) {ls : Array Slot} (hl : lv_has ls 8 [(4, .int (iI ((i : Nat) : Int))), (3, .ref (ad 43 0)), (2, .ref (ad 12 0)), (1, .ref (ad 0 0)), (0, .ref b)]) (hC : Cur G b0 (ks, ad, T, P) s H locs) (hI : IV ks ad T P)
    (kk : ∀ (ks1 : KK) (ad1 : AD) (T1 : TT) (P1 : PP) (H1 : Heap) (locs1 : List Loc) (cells1 slots1 : Nat) (ls1 : Array Slot), cells1 ≤ cells + 10 → slots1 ≤ slots + 100 → Cur G b0 (ks1, ad1, T1, P1) s H1 locs1 → IV ks1 ad1 T1 P1 → lv_has ls1 8 [(4, .int (iI ((i : Nat) : Int))), (3, .ref (ad1 43 0)), (2, .ref (ad1 12 0)), (1, .ref (ad1 0 0)), (0, .ref b)] → W p l e room_1 s m #[Value.ref b] below meth c H1 locs1 cells1 slots1 Q (F0 m 1216 ls1 [])) :
    W p l e room_1 s m #[Value.ref b] below meth c H locs cells slots Q (F0 m 636 ls []) := by
  refine y_aload_n hM hl 3 rfl rfl dL_law_636 ?_
  refine y_aload_n hM hl 4 rfl rfl dL_law_637 ?_
  refine y_iload hM hl 0 rfl dL_law_638 ?_
  refine y_iconst hM dL_law_640 ?_
  refine y_iadd hM dL_law_641 ?_
  refine y_scr hM hX hbl hbA hC (k := i + 1) (by omega) (by omega) hL dL_law_642 ?_
  refine y_aload_n hM hl 4 rfl rfl dL_law_643 ?_
  refine y_iload hM hl 0 rfl dL_law_644 ?_
  refine y_iconst hM dL_law_646 ?_
  refine y_iadd hM dL_law_647 ?_
  refine y_scr hM hX hbl hbA hC (k := i + 2) (by omega) (by omega) hL dL_law_648 ?_
  refine y_aload_n hM hl 1 rfl rfl dL_law_649 ?_
  refine y_callSX hM hN hC (c_L_order l hfl G b0 ks ad T P ((xs (i + 1)).toInt) ((xs (i + 2)).toInt) (inI_of _) (inI_of _) hI) (vx_cwSW 4 hM.2.2.2.2 gL_law_L_order rfl rfl rfl (by decide +kernel) ⟨(Nat.le_of_ble_eq_true rfl), (Nat.le_of_ble_eq_true rfl)⟩) rfl hl.1 rfl (Nat.le_of_ble_eq_true rfl) dL_law_650 ⟨(show _ ≤ 601024 by omega), (show _ ≤ 7293034 by omega)⟩ (fun E ce q9 u1 H locs hx hC hce hcv hcl => hx.elim) (fun v u1 H locs hp hC => ?_)
  obtain ⟨r_650, rfl, ⟨hW, hin⟩, -⟩ := hp
  obtain ⟨ks1, ad1, T1, P1⟩ := u1
  obtain ⟨⟨hMI1, hk43, hk0, ea0, ea12, ea43⟩, hhi⟩ := Word.kp hI hW
  rw [← ea0, ← ea12, ← ea43] at hl
  refine W.eq (g2 := F0 m 653 ls [.int (iI (r_650))]) rfl ?_
  have hk : 0 ≤ r_650 ∧ r_650 ≤ 3 := by rcases hW with ⟨h, -⟩ | ⟨h, -⟩ | ⟨h, -⟩ | ⟨h, -⟩ <;> omega
  have hMN1 := iv_MN1 hI hhi
  refine lv_istore (lv' := [(5, .int (iI (r_650))), (4, .int (iI (((i : Nat) : Int)))), (3, .ref (ad1 43 0)), (2, .ref (ad1 12 0)), (1, .ref (ad1 0 0)), (0, .ref b)]) hM.1 hM.2.1 dL_law_653 hl (by decide) rfl (fun ls hl => ?_)
  refine y_aload_n hM hl 3 rfl rfl dL_law_655 ?_
  refine y_aload_n hM hl 5 rfl rfl dL_law_656 ?_
  refine y_iload hM hl 1 rfl dL_law_657 ?_
  refine y_iconst hM dL_law_659 ?_
  refine y_iadd hM dL_law_660 ?_
  refine y_scr hM hX hbl hbA hC (k := i + 1) (by omega) (by omega) hL dL_law_661 ?_
  refine y_aload_n hM hl 5 rfl rfl dL_law_662 ?_
  refine y_iload hM hl 1 rfl dL_law_663 ?_
  refine y_iconst hM dL_law_665 ?_
  refine y_iadd hM dL_law_666 ?_
  refine y_scr hM hX hbl hbA hC (k := i + 2) (by omega) (by omega) hL dL_law_667 ?_
  refine y_callV hM hC (c_M_order l hfl G b0 ks1 ad1 T1 P1 ((xs (i + 1)).toInt) ((xs (i + 2)).toInt) (inI_of _) (inI_of _) hMI1 hMN1) (cwV 2 hM.2.2.2.2 gL_law_X4_order rfl rfl rfl (by decide +kernel) ⟨(Nat.le_of_ble_eq_true rfl), (Nat.le_of_ble_eq_true rfl)⟩) (y_recv hC hMI1.1 rfl rfl) rfl hl.1 rfl (Nat.le_of_ble_eq_true rfl) dL_law_668 ⟨(show _ ≤ 601024 by omega), (show _ ≤ 7293034 by omega)⟩ (fun E ce q9 u1 H locs hx hC hce hcv hcl => hx.elim) (fun v u1 H locs hp hC => ?_)
  obtain ⟨r_668, T2, rfl, hm, hu⟩ := hp; rw [hu] at hC; clear hu; try dsimp only at hm
  refine W.eq (g2 := F0 m 671 ls [.int (iI (r_668))]) rfl ?_
  have o4 : T2 43 0 0 = T1 43 0 0 := by rcases hm with ⟨-, hq⟩ | ⟨-, hq⟩ | ⟨-, hq⟩ | ⟨-, hq⟩ <;> first | (subst hq; rfl) | (subst hq; exact mdoe_ou.1) | (exact hq.2.2.1 43 0 0 (by omega) (by omega))
  obtain ⟨o1, o2, o3⟩ := op_orde hI hW hm
  refine lv_istore (lv' := [(6, .int (iI (r_668))), (5, .int (iI (r_650))), (4, .int (iI (((i : Nat) : Int)))), (3, .ref (ad1 43 0)), (2, .ref (ad1 12 0)), (1, .ref (ad1 0 0)), (0, .ref b)]) hM.1 hM.2.1 dL_law_671 hl (by decide) rfl (fun ls hl => ?_)
  refine y_aload_n hM hl 4 rfl rfl dL_law_673 ?_
  refine y_callV hM hC (c_M_thrown l hfl G b0 ks1 ad1 T2 P1 hMI1 o3.MN) (cwV 0 hM.2.2.2.2 gL_law_X4_thrown rfl rfl rfl (by decide +kernel) ⟨(Nat.le_of_ble_eq_true rfl), (Nat.le_of_ble_eq_true rfl)⟩) (y_recv hC hMI1.1 rfl rfl) rfl hl.1 rfl (Nat.le_of_ble_eq_true rfl) dL_law_674 ⟨(show _ ≤ 601024 by omega), (show _ ≤ 7293034 by omega)⟩ (fun E ce q9 u1 H locs hx hC hce hcv hcl => hx.elim) (fun v u1 H locs hp hC => ?_)
  obtain ⟨r_674, rfl, h_674, hu⟩ := hp; rw [hu] at hC; clear hu
  try dsimp only at h_674
  refine W.eq (g2 := F0 m 677 ls [.int (iI (r_674))]) rfl ?_
  rw [o1] at h_674
  refine y_iload hM hl 1 rfl dL_law_677 ?_
  refine y_icmp_eq hM (by constructor <;> omega) (by constructor <;> omega) (tgt := 684) dL_law_679 (by decide) (fun c_679 => ?_) (fun c_679 => False.elim (by omega))
  refine y_iload hM hl 1 rfl dL_law_684 ?_
  refine y_if_ne hM (by constructor <;> omega) (tgt := 701) dL_law_686 (by decide) (fun c_686 => ?_) (fun c_686 => ?_)
  ·
    refine lv_goto (tgt := 1216) hM.1 hM.2.1 dL_law_701 (by decide) ?_
    exact kk _ _ T2 _ _ _ _ _ ls (by omega) (by omega) hC o3 ⟨hl.1, hl.2.1, fun q hq => hl.2.2 q (List.mem_cons_of_mem _ (List.mem_cons_of_mem _ hq))⟩
  ·
    have e1 := o2 (by omega)
    have e2 : inI (T2 43 0 0) := by rw [o4]; exact hin (by omega)
    rw [e1] at hl
    refine y_aload_n hM hl 3 rfl rfl dL_law_689 ?_
    refine y_iconst hM dL_law_690 ?_
    refine y_lald hM hC hk43 rfl ⟨by omega, by omega⟩ (by decide) (x := T2 43 0 0) rfl dL_law_691 ?_
    refine y_iload hM hl 0 rfl dL_law_692 ?_
    refine y_i2l hM (by constructor <;> omega) dL_law_694 ?_
    refine y_lcmpE hM dL_law_695 ?_
    refine y_if_eq hM (by constructor <;> omega) (tgt := 701) dL_law_696 (by decide) (fun c_696 => ?_) (fun c_696 => False.elim (by omega))
    refine lv_goto (tgt := 1216) hM.1 hM.2.1 dL_law_701 (by decide) ?_
    exact kk _ _ T2 _ _ _ _ _ ls (by omega) (by omega) hC o3 ⟨hl.1, hl.2.1, fun q hq => hl.2.2 q (List.mem_cons_of_mem _ (List.mem_cons_of_mem _ hq))⟩

set_option maxRecDepth 100000 in
set_option maxHeartbeats 8000000 in
theorem law_step {p : Program} {e : Env} {s : State} {m : MethodId} {below : List Frame} {meth : Method} {c : Code} {Q : State → Prop} (l : Launch) (hfl : l.stackTraces = false) (G : GG) (b0 : Nat) {b L : Nat} {xs : Nat → Int32} (hM : CallFix p m c cL_law 8 s #[Value.ref b] wsL_law RL) (hN : NcX s) (hX : va_X b L xs s s.heap) (hbA : ¬ b0 ≤ b) (hbl : b < s.heap.size) (hL : L ≤ 1536) {ks : KK} {ad : AD} {T : TT} {P : PP} {H : Heap} {locs : List Loc} {cells slots : Nat} (hcl : cells + 10 ≤ 601024) (hsl : slots + 100 ≤ 7293034) (i : Nat) (hi : i + 3 ≤ L) {ls : Array Slot} (hl : lv_has ls 8 [(4, .int (iI ((i : Nat) : Int))), (3, .ref (ad 43 0)), (2, .ref (ad 12 0)), (1, .ref (ad 0 0)), (0, .ref b)]) (hC : Cur G b0 (ks, ad, T, P) s H locs) (hI : IV ks ad T P)
    (kk : ∀ (ks1 : KK) (ad1 : AD) (T1 : TT) (P1 : PP) (H1 : Heap) (locs1 : List Loc) (cells1 slots1 : Nat) (ls1 : Array Slot), cells1 ≤ cells + 10 → slots1 ≤ slots + 100 → Cur G b0 (ks1, ad1, T1, P1) s H1 locs1 → IV ks1 ad1 T1 P1 → lv_has ls1 8 [(4, .int (iI ((i : Nat) : Int))), (3, .ref (ad1 43 0)), (2, .ref (ad1 12 0)), (1, .ref (ad1 0 0)), (0, .ref b)] → W p l e room_1 s m #[Value.ref b] below meth c H1 locs1 cells1 slots1 Q (F0 m 1216 ls1 [])) :
    W p l e room_1 s m #[Value.ref b] below meth c H locs cells slots Q (F0 m 704 ls []) := by
  refine y_aload_n hM hl 3 rfl rfl dL_law_704 ?_
  refine y_aload_n hM hl 4 rfl rfl dL_law_705 ?_
  refine y_iload hM hl 0 rfl dL_law_706 ?_
  refine y_iconst hM dL_law_708 ?_
  refine y_iadd hM dL_law_709 ?_
  refine y_scr hM hX hbl hbA hC (k := i + 1) (by omega) (by omega) hL dL_law_710 ?_
  refine y_aload_n hM hl 1 rfl rfl dL_law_711 ?_
  refine y_callSX hM hN hC (c_L_step l hfl G b0 ks ad T P ((xs (i + 1)).toInt) (inI_of _) hI) (vx_cwSW 3 hM.2.2.2.2 gL_law_L_step rfl rfl rfl (by decide +kernel) ⟨(Nat.le_of_ble_eq_true rfl), (Nat.le_of_ble_eq_true rfl)⟩) rfl hl.1 rfl (Nat.le_of_ble_eq_true rfl) dL_law_712 ⟨(show _ ≤ 601024 by omega), (show _ ≤ 7293034 by omega)⟩ (fun E ce q9 u1 H locs hx hC hce hcv hcl => hx.elim) (fun v u1 H locs hp hC => ?_)
  obtain ⟨r_712, T1, rfl, ⟨hW, hin⟩, hu⟩ := hp; rw [hu] at hC; clear hu; try dsimp only at hW hin
  obtain ⟨hMI1, hk43, hk0, ea0, ea12, ea43⟩ := iv_Kp hI
  have hhi := Wstp.hi hW
  refine W.eq (g2 := F0 m 715 ls [.int (iI (r_712))]) rfl ?_
  have hk : 0 ≤ r_712 ∧ r_712 ≤ 3 := by rcases hW with ⟨h, -⟩ | ⟨h, -⟩ | ⟨h, -⟩ <;> omega
  have hMN1 := iv_MN1 hI hhi
  refine lv_istore (lv' := [(5, .int (iI (r_712))), (4, .int (iI (((i : Nat) : Int)))), (3, .ref (ad 43 0)), (2, .ref (ad 12 0)), (1, .ref (ad 0 0)), (0, .ref b)]) hM.1 hM.2.1 dL_law_715 hl (by decide) rfl (fun ls hl => ?_)
  refine y_aload_n hM hl 3 rfl rfl dL_law_717 ?_
  refine y_aload_n hM hl 5 rfl rfl dL_law_718 ?_
  refine y_iload hM hl 1 rfl dL_law_719 ?_
  refine y_iconst hM dL_law_721 ?_
  refine y_iadd hM dL_law_722 ?_
  refine y_scr hM hX hbl hbA hC (k := i + 1) (by omega) (by omega) hL dL_law_723 ?_
  refine y_callV hM hC (c_M_step l hfl G b0 ks ad T1 P ((xs (i + 1)).toInt) (inI_of _) hMI1 hMN1) (cwV 1 hM.2.2.2.2 gL_law_X4_step rfl rfl rfl (by decide +kernel) ⟨(Nat.le_of_ble_eq_true rfl), (Nat.le_of_ble_eq_true rfl)⟩) (y_recv hC hMI1.1 rfl rfl) rfl hl.1 rfl (Nat.le_of_ble_eq_true rfl) dL_law_724 ⟨(show _ ≤ 601024 by omega), (show _ ≤ 7293034 by omega)⟩ (fun E ce q9 u1 H locs hx hC hce hcv hcl => hx.elim) (fun v u1 H locs hp hC => ?_)
  obtain ⟨r_724, T2, rfl, hm, hu⟩ := hp; rw [hu] at hC; clear hu; try dsimp only at hm
  refine W.eq (g2 := F0 m 727 ls [.int (iI (r_724))]) rfl ?_
  have o4 : T2 43 0 0 = T1 43 0 0 := by rcases hm with ⟨-, hq⟩ | ⟨-, hq⟩ | ⟨-, hq⟩ <;> first | (subst hq; rfl) | (subst hq; exact mdoe_ou.1) | (exact hq.2.2.1 43 0 0 (by omega) (by omega))
  obtain ⟨o1, o2, o3⟩ := op_stp0 hI hW hm
  refine lv_istore (lv' := [(6, .int (iI (r_724))), (5, .int (iI (r_712))), (4, .int (iI (((i : Nat) : Int)))), (3, .ref (ad 43 0)), (2, .ref (ad 12 0)), (1, .ref (ad 0 0)), (0, .ref b)]) hM.1 hM.2.1 dL_law_727 hl (by decide) rfl (fun ls hl => ?_)
  refine y_aload_n hM hl 4 rfl rfl dL_law_729 ?_
  refine y_callV hM hC (c_M_thrown l hfl G b0 ks ad T2 P hMI1 o3.MN) (cwV 0 hM.2.2.2.2 gL_law_X4_thrown rfl rfl rfl (by decide +kernel) ⟨(Nat.le_of_ble_eq_true rfl), (Nat.le_of_ble_eq_true rfl)⟩) (y_recv hC hMI1.1 rfl rfl) rfl hl.1 rfl (Nat.le_of_ble_eq_true rfl) dL_law_730 ⟨(show _ ≤ 601024 by omega), (show _ ≤ 7293034 by omega)⟩ (fun E ce q9 u1 H locs hx hC hce hcv hcl => hx.elim) (fun v u1 H locs hp hC => ?_)
  obtain ⟨r_730, rfl, h_730, hu⟩ := hp; rw [hu] at hC; clear hu
  try dsimp only at h_730
  refine W.eq (g2 := F0 m 733 ls [.int (iI (r_730))]) rfl ?_
  rw [o1] at h_730
  refine y_iload hM hl 1 rfl dL_law_733 ?_
  refine y_icmp_eq hM (by constructor <;> omega) (by constructor <;> omega) (tgt := 740) dL_law_735 (by decide) (fun c_735 => ?_) (fun c_735 => False.elim (by omega))
  refine y_iload hM hl 1 rfl dL_law_740 ?_
  refine y_if_ne hM (by constructor <;> omega) (tgt := 757) dL_law_742 (by decide) (fun c_742 => ?_) (fun c_742 => ?_)
  ·
    refine lv_goto (tgt := 1216) hM.1 hM.2.1 dL_law_757 (by decide) ?_
    exact kk _ _ T2 _ _ _ _ _ ls (by omega) (by omega) hC o3 ⟨hl.1, hl.2.1, fun q hq => hl.2.2 q (List.mem_cons_of_mem _ (List.mem_cons_of_mem _ hq))⟩
  ·
    have e1 := o2 (by omega)
    have e2 : inI (T2 43 0 0) := by rw [o4]; exact hin (by omega)
    rw [e1] at hl
    refine y_aload_n hM hl 3 rfl rfl dL_law_745 ?_
    refine y_iconst hM dL_law_746 ?_
    refine y_lald hM hC hk43 rfl ⟨by omega, by omega⟩ (by decide) (x := T2 43 0 0) rfl dL_law_747 ?_
    refine y_iload hM hl 0 rfl dL_law_748 ?_
    refine y_i2l hM (by constructor <;> omega) dL_law_750 ?_
    refine y_lcmpE hM dL_law_751 ?_
    refine y_if_eq hM (by constructor <;> omega) (tgt := 757) dL_law_752 (by decide) (fun c_752 => ?_) (fun c_752 => False.elim (by omega))
    refine lv_goto (tgt := 1216) hM.1 hM.2.1 dL_law_757 (by decide) ?_
    exact kk _ _ T2 _ _ _ _ _ ls (by omega) (by omega) hC o3 ⟨hl.1, hl.2.1, fun q hq => hl.2.2 q (List.mem_cons_of_mem _ (List.mem_cons_of_mem _ hq))⟩

set_option maxRecDepth 100000 in
set_option maxHeartbeats 8000000 in
theorem law_force {p : Program} {e : Env} {s : State} {m : MethodId} {below : List Frame} {meth : Method} {c : Code} {Q : State → Prop} (l : Launch) (hfl : l.stackTraces = false) (G : GG) (b0 : Nat) {b L : Nat} {xs : Nat → Int32} (hM : CallFix p m c cL_law 8 s #[Value.ref b] wsL_law RL) (hN : NcX s) (hX : va_X b L xs s s.heap) (hbA : ¬ b0 ≤ b) (hbl : b < s.heap.size) (hL : L ≤ 1536) {ks : KK} {ad : AD} {T : TT} {P : PP} {H : Heap} {locs : List Loc} {cells slots : Nat} (hcl : cells + 10 ≤ 601024) (hsl : slots + 100 ≤ 7293034) (i : Nat) (hi : i + 3 ≤ L) {ls : Array Slot} (hl : lv_has ls 8 [(4, .int (iI ((i : Nat) : Int))), (3, .ref (ad 43 0)), (2, .ref (ad 12 0)), (1, .ref (ad 0 0)), (0, .ref b)]) (hC : Cur G b0 (ks, ad, T, P) s H locs) (hI : IV ks ad T P)
    (kk : ∀ (ks1 : KK) (ad1 : AD) (T1 : TT) (P1 : PP) (H1 : Heap) (locs1 : List Loc) (cells1 slots1 : Nat) (ls1 : Array Slot), cells1 ≤ cells + 10 → slots1 ≤ slots + 100 → Cur G b0 (ks1, ad1, T1, P1) s H1 locs1 → IV ks1 ad1 T1 P1 → lv_has ls1 8 [(4, .int (iI ((i : Nat) : Int))), (3, .ref (ad1 43 0)), (2, .ref (ad1 12 0)), (1, .ref (ad1 0 0)), (0, .ref b)] → W p l e room_1 s m #[Value.ref b] below meth c H1 locs1 cells1 slots1 Q (F0 m 1216 ls1 [])) :
    W p l e room_1 s m #[Value.ref b] below meth c H locs cells slots Q (F0 m 760 ls []) := by
  refine y_aload_n hM hl 3 rfl rfl dL_law_760 ?_
  refine y_aload_n hM hl 4 rfl rfl dL_law_761 ?_
  refine y_iload hM hl 0 rfl dL_law_762 ?_
  refine y_iconst hM dL_law_764 ?_
  refine y_iadd hM dL_law_765 ?_
  refine y_scr hM hX hbl hbA hC (k := i + 1) (by omega) (by omega) hL dL_law_766 ?_
  refine y_aload_n hM hl 1 rfl rfl dL_law_767 ?_
  refine y_callSX hM hN hC (c_L_force l hfl G b0 ks ad T P ((xs (i + 1)).toInt) (inI_of _) hI) (vx_cwSW 3 hM.2.2.2.2 gL_law_L_force rfl rfl rfl (by decide +kernel) ⟨(Nat.le_of_ble_eq_true rfl), (Nat.le_of_ble_eq_true rfl)⟩) rfl hl.1 rfl (Nat.le_of_ble_eq_true rfl) dL_law_768 ⟨(show _ ≤ 601024 by omega), (show _ ≤ 7293034 by omega)⟩ (fun E ce q9 u1 H locs hx hC hce hcv hcl => hx.elim) (fun v u1 H locs hp hC => ?_)
  obtain ⟨r_768, T1, rfl, ⟨hW, hin⟩, hu⟩ := hp; rw [hu] at hC; clear hu; try dsimp only at hW hin
  obtain ⟨hMI1, hk43, hk0, ea0, ea12, ea43⟩ := iv_Kp hI
  have hhi := Wstp.hi hW
  refine W.eq (g2 := F0 m 771 ls [.int (iI (r_768))]) rfl ?_
  have hk : 0 ≤ r_768 ∧ r_768 ≤ 3 := by rcases hW with ⟨h, -⟩ | ⟨h, -⟩ | ⟨h, -⟩ <;> omega
  have hMN1 := iv_MN1 hI hhi
  refine lv_istore (lv' := [(5, .int (iI (r_768))), (4, .int (iI (((i : Nat) : Int)))), (3, .ref (ad 43 0)), (2, .ref (ad 12 0)), (1, .ref (ad 0 0)), (0, .ref b)]) hM.1 hM.2.1 dL_law_771 hl (by decide) rfl (fun ls hl => ?_)
  refine y_aload_n hM hl 3 rfl rfl dL_law_773 ?_
  refine y_aload_n hM hl 5 rfl rfl dL_law_774 ?_
  refine y_iload hM hl 1 rfl dL_law_775 ?_
  refine y_iconst hM dL_law_777 ?_
  refine y_iadd hM dL_law_778 ?_
  refine y_scr hM hX hbl hbA hC (k := i + 1) (by omega) (by omega) hL dL_law_779 ?_
  refine y_callV hM hC (c_M_force l hfl G b0 ks ad T1 P ((xs (i + 1)).toInt) (inI_of _) hMI1 hMN1) (cwV 1 hM.2.2.2.2 gL_law_X4_force rfl rfl rfl (by decide +kernel) ⟨(Nat.le_of_ble_eq_true rfl), (Nat.le_of_ble_eq_true rfl)⟩) (y_recv hC hMI1.1 rfl rfl) rfl hl.1 rfl (Nat.le_of_ble_eq_true rfl) dL_law_780 ⟨(show _ ≤ 601024 by omega), (show _ ≤ 7293034 by omega)⟩ (fun E ce q9 u1 H locs hx hC hce hcv hcl => hx.elim) (fun v u1 H locs hp hC => ?_)
  obtain ⟨r_780, T2, rfl, hm, hu⟩ := hp; rw [hu] at hC; clear hu; try dsimp only at hm
  refine W.eq (g2 := F0 m 783 ls [.int (iI (r_780))]) rfl ?_
  have o4 : T2 43 0 0 = T1 43 0 0 := by rcases hm with ⟨-, hq⟩ | ⟨-, hq⟩ | ⟨-, hq⟩ <;> first | (subst hq; rfl) | (subst hq; exact mdoe_ou.1) | (exact hq.2.2.1 43 0 0 (by omega) (by omega))
  obtain ⟨o1, o2, o3⟩ := op_stp1 hI hW hm
  refine lv_istore (lv' := [(6, .int (iI (r_780))), (5, .int (iI (r_768))), (4, .int (iI (((i : Nat) : Int)))), (3, .ref (ad 43 0)), (2, .ref (ad 12 0)), (1, .ref (ad 0 0)), (0, .ref b)]) hM.1 hM.2.1 dL_law_783 hl (by decide) rfl (fun ls hl => ?_)
  refine y_aload_n hM hl 4 rfl rfl dL_law_785 ?_
  refine y_callV hM hC (c_M_thrown l hfl G b0 ks ad T2 P hMI1 o3.MN) (cwV 0 hM.2.2.2.2 gL_law_X4_thrown rfl rfl rfl (by decide +kernel) ⟨(Nat.le_of_ble_eq_true rfl), (Nat.le_of_ble_eq_true rfl)⟩) (y_recv hC hMI1.1 rfl rfl) rfl hl.1 rfl (Nat.le_of_ble_eq_true rfl) dL_law_786 ⟨(show _ ≤ 601024 by omega), (show _ ≤ 7293034 by omega)⟩ (fun E ce q9 u1 H locs hx hC hce hcv hcl => hx.elim) (fun v u1 H locs hp hC => ?_)
  obtain ⟨r_786, rfl, h_786, hu⟩ := hp; rw [hu] at hC; clear hu
  try dsimp only at h_786
  refine W.eq (g2 := F0 m 789 ls [.int (iI (r_786))]) rfl ?_
  rw [o1] at h_786
  refine y_iload hM hl 1 rfl dL_law_789 ?_
  refine y_icmp_eq hM (by constructor <;> omega) (by constructor <;> omega) (tgt := 796) dL_law_791 (by decide) (fun c_791 => ?_) (fun c_791 => False.elim (by omega))
  refine y_iload hM hl 1 rfl dL_law_796 ?_
  refine y_if_ne hM (by constructor <;> omega) (tgt := 813) dL_law_798 (by decide) (fun c_798 => ?_) (fun c_798 => ?_)
  ·
    refine lv_goto (tgt := 1216) hM.1 hM.2.1 dL_law_813 (by decide) ?_
    exact kk _ _ T2 _ _ _ _ _ ls (by omega) (by omega) hC o3 ⟨hl.1, hl.2.1, fun q hq => hl.2.2 q (List.mem_cons_of_mem _ (List.mem_cons_of_mem _ hq))⟩
  ·
    have e1 := o2 (by omega)
    have e2 : inI (T2 43 0 0) := by rw [o4]; exact hin (by omega)
    rw [e1] at hl
    refine y_aload_n hM hl 3 rfl rfl dL_law_801 ?_
    refine y_iconst hM dL_law_802 ?_
    refine y_lald hM hC hk43 rfl ⟨by omega, by omega⟩ (by decide) (x := T2 43 0 0) rfl dL_law_803 ?_
    refine y_iload hM hl 0 rfl dL_law_804 ?_
    refine y_i2l hM (by constructor <;> omega) dL_law_806 ?_
    refine y_lcmpE hM dL_law_807 ?_
    refine y_if_eq hM (by constructor <;> omega) (tgt := 813) dL_law_808 (by decide) (fun c_808 => ?_) (fun c_808 => False.elim (by omega))
    refine lv_goto (tgt := 1216) hM.1 hM.2.1 dL_law_813 (by decide) ?_
    exact kk _ _ T2 _ _ _ _ _ ls (by omega) (by omega) hC o3 ⟨hl.1, hl.2.1, fun q hq => hl.2.2 q (List.mem_cons_of_mem _ (List.mem_cons_of_mem _ hq))⟩

set_option maxRecDepth 100000 in
set_option maxHeartbeats 8000000 in
theorem law_stage {p : Program} {e : Env} {s : State} {m : MethodId} {below : List Frame} {meth : Method} {c : Code} {Q : State → Prop} (l : Launch) (hfl : l.stackTraces = false) (G : GG) (b0 : Nat) {b L : Nat} {xs : Nat → Int32} (hM : CallFix p m c cL_law 8 s #[Value.ref b] wsL_law RL) (hN : NcX s) (hX : va_X b L xs s s.heap) (hbA : ¬ b0 ≤ b) (hbl : b < s.heap.size) (hL : L ≤ 1536) {ks : KK} {ad : AD} {T : TT} {P : PP} {H : Heap} {locs : List Loc} {cells slots : Nat} (hcl : cells + 10 ≤ 601024) (hsl : slots + 100 ≤ 7293034) (i : Nat) (hi : i + 3 ≤ L) {ls : Array Slot} (hl : lv_has ls 8 [(4, .int (iI ((i : Nat) : Int))), (3, .ref (ad 43 0)), (2, .ref (ad 12 0)), (1, .ref (ad 0 0)), (0, .ref b)]) (hC : Cur G b0 (ks, ad, T, P) s H locs) (hI : IV ks ad T P)
    (kk : ∀ (ks1 : KK) (ad1 : AD) (T1 : TT) (P1 : PP) (H1 : Heap) (locs1 : List Loc) (cells1 slots1 : Nat) (ls1 : Array Slot), cells1 ≤ cells + 10 → slots1 ≤ slots + 100 → Cur G b0 (ks1, ad1, T1, P1) s H1 locs1 → IV ks1 ad1 T1 P1 → lv_has ls1 8 [(4, .int (iI ((i : Nat) : Int))), (3, .ref (ad1 43 0)), (2, .ref (ad1 12 0)), (1, .ref (ad1 0 0)), (0, .ref b)] → W p l e room_1 s m #[Value.ref b] below meth c H1 locs1 cells1 slots1 Q (F0 m 1216 ls1 [])) :
    W p l e room_1 s m #[Value.ref b] below meth c H locs cells slots Q (F0 m 816 ls []) := by
  refine y_aload_n hM hl 3 rfl rfl dL_law_816 ?_
  refine y_aload_n hM hl 4 rfl rfl dL_law_817 ?_
  refine y_iload hM hl 0 rfl dL_law_818 ?_
  refine y_iconst hM dL_law_820 ?_
  refine y_iadd hM dL_law_821 ?_
  refine y_scr hM hX hbl hbA hC (k := i + 1) (by omega) (by omega) hL dL_law_822 ?_
  refine y_aload_n hM hl 1 rfl rfl dL_law_823 ?_
  refine y_callSX hM hN hC (c_L_stage l hfl G b0 ks ad T P ((xs (i + 1)).toInt) (inI_of _) hI) (vx_cwSW 3 hM.2.2.2.2 gL_law_L_stage rfl rfl rfl (by decide +kernel) ⟨(Nat.le_of_ble_eq_true rfl), (Nat.le_of_ble_eq_true rfl)⟩) rfl hl.1 rfl (Nat.le_of_ble_eq_true rfl) dL_law_824 ⟨(show _ ≤ 601024 by omega), (show _ ≤ 7293034 by omega)⟩ (fun E ce q9 u1 H locs hx hC hce hcv hcl => hx.elim) (fun v u1 H locs hp hC => ?_)
  obtain ⟨r_824, T1, rfl, ⟨hW, hin⟩, hu⟩ := hp; rw [hu] at hC; clear hu; try dsimp only at hW hin
  obtain ⟨hMI1, hk43, hk0, ea0, ea12, ea43⟩ := iv_Kp hI
  have hhi := Wq.hi hW
  refine W.eq (g2 := F0 m 827 ls [.int (iI (r_824))]) rfl ?_
  have hk : 0 ≤ r_824 ∧ r_824 ≤ 3 := by rcases hW with ⟨h, -⟩ | ⟨h, -⟩ <;> omega
  have hMN1 := iv_MN1 hI hhi
  refine lv_istore (lv' := [(5, .int (iI (r_824))), (4, .int (iI (((i : Nat) : Int)))), (3, .ref (ad 43 0)), (2, .ref (ad 12 0)), (1, .ref (ad 0 0)), (0, .ref b)]) hM.1 hM.2.1 dL_law_827 hl (by decide) rfl (fun ls hl => ?_)
  refine y_aload_n hM hl 3 rfl rfl dL_law_829 ?_
  refine y_aload_n hM hl 5 rfl rfl dL_law_830 ?_
  refine y_iload hM hl 1 rfl dL_law_831 ?_
  refine y_iconst hM dL_law_833 ?_
  refine y_iadd hM dL_law_834 ?_
  refine y_scr hM hX hbl hbA hC (k := i + 1) (by omega) (by omega) hL dL_law_835 ?_
  refine y_callV hM hC (c_M_stage l hfl G b0 ks ad T1 P ((xs (i + 1)).toInt) (inI_of _) hMI1 hMN1) (cwV 1 hM.2.2.2.2 gL_law_X4_stage rfl rfl rfl (by decide +kernel) ⟨(Nat.le_of_ble_eq_true rfl), (Nat.le_of_ble_eq_true rfl)⟩) (y_recv hC hMI1.1 rfl rfl) rfl hl.1 rfl (Nat.le_of_ble_eq_true rfl) dL_law_836 ⟨(show _ ≤ 601024 by omega), (show _ ≤ 7293034 by omega)⟩ (fun E ce q9 u1 H locs hx hC hce hcv hcl => hx.elim) (fun v u1 H locs hp hC => ?_)
  obtain ⟨r_836, T2, rfl, hm, hu⟩ := hp; rw [hu] at hC; clear hu; try dsimp only at hm
  refine W.eq (g2 := F0 m 839 ls [.int (iI (r_836))]) rfl ?_
  have o4 : T2 43 0 0 = T1 43 0 0 := by rcases hm with ⟨-, hq⟩ | ⟨-, hq⟩ <;> first | (subst hq; rfl) | (subst hq; exact mdoe_ou.1) | (exact hq.2.2.1 43 0 0 (by omega) (by omega))
  obtain ⟨o1, o2, o3⟩ := op_stg hI hW hm
  refine lv_istore (lv' := [(6, .int (iI (r_836))), (5, .int (iI (r_824))), (4, .int (iI (((i : Nat) : Int)))), (3, .ref (ad 43 0)), (2, .ref (ad 12 0)), (1, .ref (ad 0 0)), (0, .ref b)]) hM.1 hM.2.1 dL_law_839 hl (by decide) rfl (fun ls hl => ?_)
  refine y_aload_n hM hl 4 rfl rfl dL_law_841 ?_
  refine y_callV hM hC (c_M_thrown l hfl G b0 ks ad T2 P hMI1 o3.MN) (cwV 0 hM.2.2.2.2 gL_law_X4_thrown rfl rfl rfl (by decide +kernel) ⟨(Nat.le_of_ble_eq_true rfl), (Nat.le_of_ble_eq_true rfl)⟩) (y_recv hC hMI1.1 rfl rfl) rfl hl.1 rfl (Nat.le_of_ble_eq_true rfl) dL_law_842 ⟨(show _ ≤ 601024 by omega), (show _ ≤ 7293034 by omega)⟩ (fun E ce q9 u1 H locs hx hC hce hcv hcl => hx.elim) (fun v u1 H locs hp hC => ?_)
  obtain ⟨r_842, rfl, h_842, hu⟩ := hp; rw [hu] at hC; clear hu
  try dsimp only at h_842
  refine W.eq (g2 := F0 m 845 ls [.int (iI (r_842))]) rfl ?_
  rw [o1] at h_842
  refine y_iload hM hl 1 rfl dL_law_845 ?_
  refine y_icmp_eq hM (by constructor <;> omega) (by constructor <;> omega) (tgt := 852) dL_law_847 (by decide) (fun c_847 => ?_) (fun c_847 => False.elim (by omega))
  refine y_iload hM hl 1 rfl dL_law_852 ?_
  refine y_if_ne hM (by constructor <;> omega) (tgt := 869) dL_law_854 (by decide) (fun c_854 => ?_) (fun c_854 => ?_)
  ·
    refine lv_goto (tgt := 1216) hM.1 hM.2.1 dL_law_869 (by decide) ?_
    exact kk _ _ T2 _ _ _ _ _ ls (by omega) (by omega) hC o3 ⟨hl.1, hl.2.1, fun q hq => hl.2.2 q (List.mem_cons_of_mem _ (List.mem_cons_of_mem _ hq))⟩
  ·
    have e1 := o2 (by omega)
    have e2 : inI (T2 43 0 0) := by rw [o4]; exact hin (by omega)
    rw [e1] at hl
    refine y_aload_n hM hl 3 rfl rfl dL_law_857 ?_
    refine y_iconst hM dL_law_858 ?_
    refine y_lald hM hC hk43 rfl ⟨by omega, by omega⟩ (by decide) (x := T2 43 0 0) rfl dL_law_859 ?_
    refine y_iload hM hl 0 rfl dL_law_860 ?_
    refine y_i2l hM (by constructor <;> omega) dL_law_862 ?_
    refine y_lcmpE hM dL_law_863 ?_
    refine y_if_eq hM (by constructor <;> omega) (tgt := 869) dL_law_864 (by decide) (fun c_864 => ?_) (fun c_864 => False.elim (by omega))
    refine lv_goto (tgt := 1216) hM.1 hM.2.1 dL_law_869 (by decide) ?_
    exact kk _ _ T2 _ _ _ _ _ ls (by omega) (by omega) hC o3 ⟨hl.1, hl.2.1, fun q hq => hl.2.2 q (List.mem_cons_of_mem _ (List.mem_cons_of_mem _ hq))⟩

set_option maxRecDepth 100000 in
set_option maxHeartbeats 8000000 in
theorem law_due {p : Program} {e : Env} {s : State} {m : MethodId} {below : List Frame} {meth : Method} {c : Code} {Q : State → Prop} (l : Launch) (hfl : l.stackTraces = false) (G : GG) (b0 : Nat) {b L : Nat} {xs : Nat → Int32} (hM : CallFix p m c cL_law 8 s #[Value.ref b] wsL_law RL) (hN : NcX s) (hX : va_X b L xs s s.heap) (hbA : ¬ b0 ≤ b) (hbl : b < s.heap.size) (hL : L ≤ 1536) {ks : KK} {ad : AD} {T : TT} {P : PP} {H : Heap} {locs : List Loc} {cells slots : Nat} (hcl : cells + 10 ≤ 601024) (hsl : slots + 100 ≤ 7293034) (i : Nat) (hi : i + 3 ≤ L) {ls : Array Slot} (hl : lv_has ls 8 [(4, .int (iI ((i : Nat) : Int))), (3, .ref (ad 43 0)), (2, .ref (ad 12 0)), (1, .ref (ad 0 0)), (0, .ref b)]) (hC : Cur G b0 (ks, ad, T, P) s H locs) (hI : IV ks ad T P)
    (kk : ∀ (ks1 : KK) (ad1 : AD) (T1 : TT) (P1 : PP) (H1 : Heap) (locs1 : List Loc) (cells1 slots1 : Nat) (ls1 : Array Slot), cells1 ≤ cells + 10 → slots1 ≤ slots + 100 → Cur G b0 (ks1, ad1, T1, P1) s H1 locs1 → IV ks1 ad1 T1 P1 → lv_has ls1 8 [(4, .int (iI ((i : Nat) : Int))), (3, .ref (ad1 43 0)), (2, .ref (ad1 12 0)), (1, .ref (ad1 0 0)), (0, .ref b)] → W p l e room_1 s m #[Value.ref b] below meth c H1 locs1 cells1 slots1 Q (F0 m 1216 ls1 [])) :
    W p l e room_1 s m #[Value.ref b] below meth c H locs cells slots Q (F0 m 872 ls []) := by
  refine y_aload_n hM hl 3 rfl rfl dL_law_872 ?_
  refine y_aload_n hM hl 4 rfl rfl dL_law_873 ?_
  refine y_iload hM hl 0 rfl dL_law_874 ?_
  refine y_iconst hM dL_law_876 ?_
  refine y_iadd hM dL_law_877 ?_
  refine y_scr hM hX hbl hbA hC (k := i + 1) (by omega) (by omega) hL dL_law_878 ?_
  refine y_aload_n hM hl 1 rfl rfl dL_law_879 ?_
  refine y_callSX hM hN hC (c_L_due l hfl G b0 ks ad T P ((xs (i + 1)).toInt) (inI_of _) hI) (vx_cwSW 3 hM.2.2.2.2 gL_law_L_due rfl rfl rfl (by decide +kernel) ⟨(Nat.le_of_ble_eq_true rfl), (Nat.le_of_ble_eq_true rfl)⟩) rfl hl.1 rfl (Nat.le_of_ble_eq_true rfl) dL_law_880 ⟨(show _ ≤ 601024 by omega), (show _ ≤ 7293034 by omega)⟩ (fun E ce q9 u1 H locs hx hC hce hcv hcl => hx.elim) (fun v u1 H locs hp hC => ?_)
  obtain ⟨r_880, T1, rfl, ⟨hW, hin⟩, hu⟩ := hp; rw [hu] at hC; clear hu; try dsimp only at hW hin
  obtain ⟨hMI1, hk43, hk0, ea0, ea12, ea43⟩ := iv_Kp hI
  have hhi := Wdue.hi hW
  refine W.eq (g2 := F0 m 883 ls [.int (iI (r_880))]) rfl ?_
  have hk : 0 ≤ r_880 ∧ r_880 ≤ 3 := by rcases hW with ⟨h, -⟩ | ⟨h, -⟩ | ⟨h, -⟩ <;> omega
  have hMN1 := iv_MN1 hI hhi
  refine lv_istore (lv' := [(5, .int (iI (r_880))), (4, .int (iI (((i : Nat) : Int)))), (3, .ref (ad 43 0)), (2, .ref (ad 12 0)), (1, .ref (ad 0 0)), (0, .ref b)]) hM.1 hM.2.1 dL_law_883 hl (by decide) rfl (fun ls hl => ?_)
  refine y_aload_n hM hl 3 rfl rfl dL_law_885 ?_
  refine y_aload_n hM hl 5 rfl rfl dL_law_886 ?_
  refine y_iload hM hl 1 rfl dL_law_887 ?_
  refine y_iconst hM dL_law_889 ?_
  refine y_iadd hM dL_law_890 ?_
  refine y_scr hM hX hbl hbA hC (k := i + 1) (by omega) (by omega) hL dL_law_891 ?_
  refine y_callV hM hC (c_M_due l hfl G b0 ks ad T1 P ((xs (i + 1)).toInt) (inI_of _) hMI1 hMN1) (cwV 1 hM.2.2.2.2 gL_law_X4_due rfl rfl rfl (by decide +kernel) ⟨(Nat.le_of_ble_eq_true rfl), (Nat.le_of_ble_eq_true rfl)⟩) (y_recv hC hMI1.1 rfl rfl) rfl hl.1 rfl (Nat.le_of_ble_eq_true rfl) dL_law_892 ⟨(show _ ≤ 601024 by omega), (show _ ≤ 7293034 by omega)⟩ (fun E ce q9 u1 H locs hx hC hce hcv hcl => hx.elim) (fun v u1 H locs hp hC => ?_)
  obtain ⟨r_892, T2, rfl, hm, hu⟩ := hp; rw [hu] at hC; clear hu; try dsimp only at hm
  refine W.eq (g2 := F0 m 895 ls [.int (iI (r_892))]) rfl ?_
  have o4 : T2 43 0 0 = T1 43 0 0 := by rcases hm with ⟨-, hq⟩ | ⟨-, hq⟩ | ⟨-, hq⟩ <;> first | (subst hq; rfl) | (subst hq; exact mdoe_ou.1) | (exact hq.2.2.1 43 0 0 (by omega) (by omega))
  obtain ⟨o1, o2, o3⟩ := op_due hI hW hm
  refine lv_istore (lv' := [(6, .int (iI (r_892))), (5, .int (iI (r_880))), (4, .int (iI (((i : Nat) : Int)))), (3, .ref (ad 43 0)), (2, .ref (ad 12 0)), (1, .ref (ad 0 0)), (0, .ref b)]) hM.1 hM.2.1 dL_law_895 hl (by decide) rfl (fun ls hl => ?_)
  refine y_aload_n hM hl 4 rfl rfl dL_law_897 ?_
  refine y_callV hM hC (c_M_thrown l hfl G b0 ks ad T2 P hMI1 o3.MN) (cwV 0 hM.2.2.2.2 gL_law_X4_thrown rfl rfl rfl (by decide +kernel) ⟨(Nat.le_of_ble_eq_true rfl), (Nat.le_of_ble_eq_true rfl)⟩) (y_recv hC hMI1.1 rfl rfl) rfl hl.1 rfl (Nat.le_of_ble_eq_true rfl) dL_law_898 ⟨(show _ ≤ 601024 by omega), (show _ ≤ 7293034 by omega)⟩ (fun E ce q9 u1 H locs hx hC hce hcv hcl => hx.elim) (fun v u1 H locs hp hC => ?_)
  obtain ⟨r_898, rfl, h_898, hu⟩ := hp; rw [hu] at hC; clear hu
  try dsimp only at h_898
  refine W.eq (g2 := F0 m 901 ls [.int (iI (r_898))]) rfl ?_
  rw [o1] at h_898
  refine y_iload hM hl 1 rfl dL_law_901 ?_
  refine y_icmp_eq hM (by constructor <;> omega) (by constructor <;> omega) (tgt := 908) dL_law_903 (by decide) (fun c_903 => ?_) (fun c_903 => False.elim (by omega))
  refine y_iload hM hl 1 rfl dL_law_908 ?_
  refine y_if_ne hM (by constructor <;> omega) (tgt := 925) dL_law_910 (by decide) (fun c_910 => ?_) (fun c_910 => ?_)
  ·
    refine lv_goto (tgt := 1216) hM.1 hM.2.1 dL_law_925 (by decide) ?_
    exact kk _ _ T2 _ _ _ _ _ ls (by omega) (by omega) hC o3 ⟨hl.1, hl.2.1, fun q hq => hl.2.2 q (List.mem_cons_of_mem _ (List.mem_cons_of_mem _ hq))⟩
  ·
    have e1 := o2 (by omega)
    have e2 : inI (T2 43 0 0) := by rw [o4]; exact hin (by omega)
    rw [e1] at hl
    refine y_aload_n hM hl 3 rfl rfl dL_law_913 ?_
    refine y_iconst hM dL_law_914 ?_
    refine y_lald hM hC hk43 rfl ⟨by omega, by omega⟩ (by decide) (x := T2 43 0 0) rfl dL_law_915 ?_
    refine y_iload hM hl 0 rfl dL_law_916 ?_
    refine y_i2l hM (by constructor <;> omega) dL_law_918 ?_
    refine y_lcmpE hM dL_law_919 ?_
    refine y_if_eq hM (by constructor <;> omega) (tgt := 925) dL_law_920 (by decide) (fun c_920 => ?_) (fun c_920 => False.elim (by omega))
    refine lv_goto (tgt := 1216) hM.1 hM.2.1 dL_law_925 (by decide) ?_
    exact kk _ _ T2 _ _ _ _ _ ls (by omega) (by omega) hC o3 ⟨hl.1, hl.2.1, fun q hq => hl.2.2 q (List.mem_cons_of_mem _ (List.mem_cons_of_mem _ hq))⟩

set_option maxRecDepth 100000 in
set_option maxHeartbeats 8000000 in
theorem law_late {p : Program} {e : Env} {s : State} {m : MethodId} {below : List Frame} {meth : Method} {c : Code} {Q : State → Prop} (l : Launch) (hfl : l.stackTraces = false) (G : GG) (b0 : Nat) {b L : Nat} {xs : Nat → Int32} (hM : CallFix p m c cL_law 8 s #[Value.ref b] wsL_law RL) (hN : NcX s) (hX : va_X b L xs s s.heap) (hbA : ¬ b0 ≤ b) (hbl : b < s.heap.size) (hL : L ≤ 1536) {ks : KK} {ad : AD} {T : TT} {P : PP} {H : Heap} {locs : List Loc} {cells slots : Nat} (hcl : cells + 10 ≤ 601024) (hsl : slots + 100 ≤ 7293034) (i : Nat) (hi : i + 3 ≤ L) {ls : Array Slot} (hl : lv_has ls 8 [(4, .int (iI ((i : Nat) : Int))), (3, .ref (ad 43 0)), (2, .ref (ad 12 0)), (1, .ref (ad 0 0)), (0, .ref b)]) (hC : Cur G b0 (ks, ad, T, P) s H locs) (hI : IV ks ad T P)
    (kk : ∀ (ks1 : KK) (ad1 : AD) (T1 : TT) (P1 : PP) (H1 : Heap) (locs1 : List Loc) (cells1 slots1 : Nat) (ls1 : Array Slot), cells1 ≤ cells + 10 → slots1 ≤ slots + 100 → Cur G b0 (ks1, ad1, T1, P1) s H1 locs1 → IV ks1 ad1 T1 P1 → lv_has ls1 8 [(4, .int (iI ((i : Nat) : Int))), (3, .ref (ad1 43 0)), (2, .ref (ad1 12 0)), (1, .ref (ad1 0 0)), (0, .ref b)] → W p l e room_1 s m #[Value.ref b] below meth c H1 locs1 cells1 slots1 Q (F0 m 1216 ls1 [])) :
    W p l e room_1 s m #[Value.ref b] below meth c H locs cells slots Q (F0 m 928 ls []) := by
  refine y_aload_n hM hl 3 rfl rfl dL_law_928 ?_
  refine y_aload_n hM hl 4 rfl rfl dL_law_929 ?_
  refine y_iload hM hl 0 rfl dL_law_930 ?_
  refine y_iconst hM dL_law_932 ?_
  refine y_iadd hM dL_law_933 ?_
  refine y_scr hM hX hbl hbA hC (k := i + 1) (by omega) (by omega) hL dL_law_934 ?_
  refine y_aload_n hM hl 1 rfl rfl dL_law_935 ?_
  refine y_callSX hM hN hC (c_L_late l hfl G b0 ks ad T P ((xs (i + 1)).toInt) (inI_of _) hI) (vx_cwSW 3 hM.2.2.2.2 gL_law_L_late rfl rfl rfl (by decide +kernel) ⟨(Nat.le_of_ble_eq_true rfl), (Nat.le_of_ble_eq_true rfl)⟩) rfl hl.1 rfl (Nat.le_of_ble_eq_true rfl) dL_law_936 ⟨(show _ ≤ 601024 by omega), (show _ ≤ 7293034 by omega)⟩ (fun E ce q9 u1 H locs hx hC hce hcv hcl => hx.elim) (fun v u1 H locs hp hC => ?_)
  obtain ⟨r_936, T1, rfl, ⟨hW, hin⟩, hu⟩ := hp; rw [hu] at hC; clear hu; try dsimp only at hW hin
  obtain ⟨hMI1, hk43, hk0, ea0, ea12, ea43⟩ := iv_Kp hI
  have hhi := Wq.hi hW
  refine W.eq (g2 := F0 m 939 ls [.int (iI (r_936))]) rfl ?_
  have hk : 0 ≤ r_936 ∧ r_936 ≤ 3 := by rcases hW with ⟨h, -⟩ | ⟨h, -⟩ <;> omega
  have hMN1 := iv_MN1 hI hhi
  refine lv_istore (lv' := [(5, .int (iI (r_936))), (4, .int (iI (((i : Nat) : Int)))), (3, .ref (ad 43 0)), (2, .ref (ad 12 0)), (1, .ref (ad 0 0)), (0, .ref b)]) hM.1 hM.2.1 dL_law_939 hl (by decide) rfl (fun ls hl => ?_)
  refine y_aload_n hM hl 3 rfl rfl dL_law_941 ?_
  refine y_aload_n hM hl 5 rfl rfl dL_law_942 ?_
  refine y_iload hM hl 1 rfl dL_law_943 ?_
  refine y_iconst hM dL_law_945 ?_
  refine y_iadd hM dL_law_946 ?_
  refine y_scr hM hX hbl hbA hC (k := i + 1) (by omega) (by omega) hL dL_law_947 ?_
  refine y_callV hM hC (c_M_late l hfl G b0 ks ad T1 P ((xs (i + 1)).toInt) (inI_of _) hMI1 hMN1) (cwV 1 hM.2.2.2.2 gL_law_X4_late rfl rfl rfl (by decide +kernel) ⟨(Nat.le_of_ble_eq_true rfl), (Nat.le_of_ble_eq_true rfl)⟩) (y_recv hC hMI1.1 rfl rfl) rfl hl.1 rfl (Nat.le_of_ble_eq_true rfl) dL_law_948 ⟨(show _ ≤ 601024 by omega), (show _ ≤ 7293034 by omega)⟩ (fun E ce q9 u1 H locs hx hC hce hcv hcl => hx.elim) (fun v u1 H locs hp hC => ?_)
  obtain ⟨r_948, T2, rfl, hm, hu⟩ := hp; rw [hu] at hC; clear hu; try dsimp only at hm
  refine W.eq (g2 := F0 m 951 ls [.int (iI (r_948))]) rfl ?_
  have o4 : T2 43 0 0 = T1 43 0 0 := by rcases hm with ⟨-, hq⟩ | ⟨-, hq⟩ <;> first | (subst hq; rfl) | (subst hq; exact mdoe_ou.1) | (exact hq.2.2.1 43 0 0 (by omega) (by omega))
  obtain ⟨o1, o2, o3⟩ := op_lat hI hW hm
  refine lv_istore (lv' := [(6, .int (iI (r_948))), (5, .int (iI (r_936))), (4, .int (iI (((i : Nat) : Int)))), (3, .ref (ad 43 0)), (2, .ref (ad 12 0)), (1, .ref (ad 0 0)), (0, .ref b)]) hM.1 hM.2.1 dL_law_951 hl (by decide) rfl (fun ls hl => ?_)
  refine y_aload_n hM hl 4 rfl rfl dL_law_953 ?_
  refine y_callV hM hC (c_M_thrown l hfl G b0 ks ad T2 P hMI1 o3.MN) (cwV 0 hM.2.2.2.2 gL_law_X4_thrown rfl rfl rfl (by decide +kernel) ⟨(Nat.le_of_ble_eq_true rfl), (Nat.le_of_ble_eq_true rfl)⟩) (y_recv hC hMI1.1 rfl rfl) rfl hl.1 rfl (Nat.le_of_ble_eq_true rfl) dL_law_954 ⟨(show _ ≤ 601024 by omega), (show _ ≤ 7293034 by omega)⟩ (fun E ce q9 u1 H locs hx hC hce hcv hcl => hx.elim) (fun v u1 H locs hp hC => ?_)
  obtain ⟨r_954, rfl, h_954, hu⟩ := hp; rw [hu] at hC; clear hu
  try dsimp only at h_954
  refine W.eq (g2 := F0 m 957 ls [.int (iI (r_954))]) rfl ?_
  rw [o1] at h_954
  refine y_iload hM hl 1 rfl dL_law_957 ?_
  refine y_icmp_eq hM (by constructor <;> omega) (by constructor <;> omega) (tgt := 964) dL_law_959 (by decide) (fun c_959 => ?_) (fun c_959 => False.elim (by omega))
  refine y_iload hM hl 1 rfl dL_law_964 ?_
  refine y_if_ne hM (by constructor <;> omega) (tgt := 981) dL_law_966 (by decide) (fun c_966 => ?_) (fun c_966 => ?_)
  ·
    refine lv_goto (tgt := 1216) hM.1 hM.2.1 dL_law_981 (by decide) ?_
    exact kk _ _ T2 _ _ _ _ _ ls (by omega) (by omega) hC o3 ⟨hl.1, hl.2.1, fun q hq => hl.2.2 q (List.mem_cons_of_mem _ (List.mem_cons_of_mem _ hq))⟩
  ·
    have e1 := o2 (by omega)
    have e2 : inI (T2 43 0 0) := by rw [o4]; exact hin (by omega)
    rw [e1] at hl
    refine y_aload_n hM hl 3 rfl rfl dL_law_969 ?_
    refine y_iconst hM dL_law_970 ?_
    refine y_lald hM hC hk43 rfl ⟨by omega, by omega⟩ (by decide) (x := T2 43 0 0) rfl dL_law_971 ?_
    refine y_iload hM hl 0 rfl dL_law_972 ?_
    refine y_i2l hM (by constructor <;> omega) dL_law_974 ?_
    refine y_lcmpE hM dL_law_975 ?_
    refine y_if_eq hM (by constructor <;> omega) (tgt := 981) dL_law_976 (by decide) (fun c_976 => ?_) (fun c_976 => False.elim (by omega))
    refine lv_goto (tgt := 1216) hM.1 hM.2.1 dL_law_981 (by decide) ?_
    exact kk _ _ T2 _ _ _ _ _ ls (by omega) (by omega) hC o3 ⟨hl.1, hl.2.1, fun q hq => hl.2.2 q (List.mem_cons_of_mem _ (List.mem_cons_of_mem _ hq))⟩

set_option maxRecDepth 100000 in
set_option maxHeartbeats 8000000 in
theorem law_money {p : Program} {e : Env} {s : State} {m : MethodId} {below : List Frame} {meth : Method} {c : Code} {Q : State → Prop} (l : Launch) (hfl : l.stackTraces = false) (G : GG) (b0 : Nat) {b L : Nat} {xs : Nat → Int32} (hM : CallFix p m c cL_law 8 s #[Value.ref b] wsL_law RL) (hN : NcX s) (hX : va_X b L xs s s.heap) (hbA : ¬ b0 ≤ b) (hbl : b < s.heap.size) (hL : L ≤ 1536) {ks : KK} {ad : AD} {T : TT} {P : PP} {H : Heap} {locs : List Loc} {cells slots : Nat} (hcl : cells + 10 ≤ 601024) (hsl : slots + 100 ≤ 7293034) (i : Nat) (hi : i + 3 ≤ L) {ls : Array Slot} (hl : lv_has ls 8 [(4, .int (iI ((i : Nat) : Int))), (3, .ref (ad 43 0)), (2, .ref (ad 12 0)), (1, .ref (ad 0 0)), (0, .ref b)]) (hC : Cur G b0 (ks, ad, T, P) s H locs) (hI : IV ks ad T P)
    (kk : ∀ (ks1 : KK) (ad1 : AD) (T1 : TT) (P1 : PP) (H1 : Heap) (locs1 : List Loc) (cells1 slots1 : Nat) (ls1 : Array Slot), cells1 ≤ cells + 10 → slots1 ≤ slots + 100 → Cur G b0 (ks1, ad1, T1, P1) s H1 locs1 → IV ks1 ad1 T1 P1 → lv_has ls1 8 [(4, .int (iI ((i : Nat) : Int))), (3, .ref (ad1 43 0)), (2, .ref (ad1 12 0)), (1, .ref (ad1 0 0)), (0, .ref b)] → W p l e room_1 s m #[Value.ref b] below meth c H1 locs1 cells1 slots1 Q (F0 m 1216 ls1 [])) :
    W p l e room_1 s m #[Value.ref b] below meth c H locs cells slots Q (F0 m 984 ls []) := by
  refine y_aload_n hM hl 3 rfl rfl dL_law_984 ?_
  refine y_aload_n hM hl 4 rfl rfl dL_law_985 ?_
  refine y_iload hM hl 0 rfl dL_law_986 ?_
  refine y_iconst hM dL_law_988 ?_
  refine y_iadd hM dL_law_989 ?_
  refine y_scr hM hX hbl hbA hC (k := i + 1) (by omega) (by omega) hL dL_law_990 ?_
  refine y_aload_n hM hl 1 rfl rfl dL_law_991 ?_
  refine y_callSX hM hN hC (c_L_money l hfl G b0 ks ad T P ((xs (i + 1)).toInt) (inI_of _) hI) (vx_cwSW 3 hM.2.2.2.2 gL_law_L_money rfl rfl rfl (by decide +kernel) ⟨(Nat.le_of_ble_eq_true rfl), (Nat.le_of_ble_eq_true rfl)⟩) rfl hl.1 rfl (Nat.le_of_ble_eq_true rfl) dL_law_992 ⟨(show _ ≤ 601024 by omega), (show _ ≤ 7293034 by omega)⟩ (fun E ce q9 u1 H locs hx hC hce hcv hcl => hx.elim) (fun v u1 H locs hp hC => ?_)
  obtain ⟨r_992, T1, rfl, ⟨hW, hin⟩, hu⟩ := hp; rw [hu] at hC; clear hu; try dsimp only at hW hin
  obtain ⟨hMI1, hk43, hk0, ea0, ea12, ea43⟩ := iv_Kp hI
  have hhi := Wq.hi hW
  refine W.eq (g2 := F0 m 995 ls [.int (iI (r_992))]) rfl ?_
  have hk : 0 ≤ r_992 ∧ r_992 ≤ 3 := by rcases hW with ⟨h, -⟩ | ⟨h, -⟩ <;> omega
  have hMN1 := iv_MN1 hI hhi
  refine lv_istore (lv' := [(5, .int (iI (r_992))), (4, .int (iI (((i : Nat) : Int)))), (3, .ref (ad 43 0)), (2, .ref (ad 12 0)), (1, .ref (ad 0 0)), (0, .ref b)]) hM.1 hM.2.1 dL_law_995 hl (by decide) rfl (fun ls hl => ?_)
  refine y_aload_n hM hl 3 rfl rfl dL_law_997 ?_
  refine y_aload_n hM hl 5 rfl rfl dL_law_998 ?_
  refine y_iload hM hl 1 rfl dL_law_999 ?_
  refine y_iconst hM dL_law_1001 ?_
  refine y_iadd hM dL_law_1002 ?_
  refine y_scr hM hX hbl hbA hC (k := i + 1) (by omega) (by omega) hL dL_law_1003 ?_
  refine y_callV hM hC (c_M_money l hfl G b0 ks ad T1 P ((xs (i + 1)).toInt) (inI_of _) hMI1 hMN1) (cwV 1 hM.2.2.2.2 gL_law_X4_money rfl rfl rfl (by decide +kernel) ⟨(Nat.le_of_ble_eq_true rfl), (Nat.le_of_ble_eq_true rfl)⟩) (y_recv hC hMI1.1 rfl rfl) rfl hl.1 rfl (Nat.le_of_ble_eq_true rfl) dL_law_1004 ⟨(show _ ≤ 601024 by omega), (show _ ≤ 7293034 by omega)⟩ (fun E ce q9 u1 H locs hx hC hce hcv hcl => hx.elim) (fun v u1 H locs hp hC => ?_)
  obtain ⟨r_1004, T2, rfl, hm, hu⟩ := hp; rw [hu] at hC; clear hu; try dsimp only at hm
  refine W.eq (g2 := F0 m 1007 ls [.long (lI (r_1004))]) rfl ?_
  have o4 : T2 43 0 0 = T1 43 0 0 := by rcases hm with ⟨-, hq⟩ | ⟨-, hq⟩ <;> first | (subst hq; rfl) | (subst hq; exact mdoe_ou.1) | (exact hq.2.2.1 43 0 0 (by omega) (by omega))
  obtain ⟨o1, o2, o3⟩ := op_mon hI hW hm
  refine lv_lstore (lv' := [(6, .long (lI (r_1004))), (5, .int (iI (r_992))), (4, .int (iI (((i : Nat) : Int)))), (3, .ref (ad 43 0)), (2, .ref (ad 12 0)), (1, .ref (ad 0 0)), (0, .ref b)]) hM.1 hM.2.1 dL_law_1007 hl (by decide) rfl (fun ls hl => ?_)
  refine y_aload_n hM hl 4 rfl rfl dL_law_1009 ?_
  refine y_callV hM hC (c_M_thrown l hfl G b0 ks ad T2 P hMI1 o3.MN) (cwV 0 hM.2.2.2.2 gL_law_X4_thrown rfl rfl rfl (by decide +kernel) ⟨(Nat.le_of_ble_eq_true rfl), (Nat.le_of_ble_eq_true rfl)⟩) (y_recv hC hMI1.1 rfl rfl) rfl hl.1 rfl (Nat.le_of_ble_eq_true rfl) dL_law_1010 ⟨(show _ ≤ 601024 by omega), (show _ ≤ 7293034 by omega)⟩ (fun E ce q9 u1 H locs hx hC hce hcv hcl => hx.elim) (fun v u1 H locs hp hC => ?_)
  obtain ⟨r_1010, rfl, h_1010, hu⟩ := hp; rw [hu] at hC; clear hu
  try dsimp only at h_1010
  refine W.eq (g2 := F0 m 1013 ls [.int (iI (r_1010))]) rfl ?_
  rw [o1] at h_1010
  refine y_iload hM hl 1 rfl dL_law_1013 ?_
  refine y_icmp_eq hM (by constructor <;> omega) (by constructor <;> omega) (tgt := 1020) dL_law_1015 (by decide) (fun c_1015 => ?_) (fun c_1015 => False.elim (by omega))
  refine y_iload hM hl 1 rfl dL_law_1020 ?_
  refine y_if_ne hM (by constructor <;> omega) (tgt := 1036) dL_law_1022 (by decide) (fun c_1022 => ?_) (fun c_1022 => ?_)
  ·
    refine lv_goto (tgt := 1216) hM.1 hM.2.1 dL_law_1036 (by decide) ?_
    exact kk _ _ T2 _ _ _ _ _ ls (by omega) (by omega) hC o3 ⟨hl.1, hl.2.1, fun q hq => hl.2.2 q (List.mem_cons_of_mem _ (List.mem_cons_of_mem _ hq))⟩
  ·
    have e1 := o2 (by omega)
    rw [e1] at hl
    refine y_aload_n hM hl 3 rfl rfl dL_law_1025 ?_
    refine y_iconst hM dL_law_1026 ?_
    refine y_lald hM hC hk43 rfl ⟨by omega, by omega⟩ (by decide) (x := T2 43 0 0) rfl dL_law_1027 ?_
    refine y_lload hM hl 0 rfl dL_law_1028 ?_
    refine y_lcmpE hM dL_law_1030 ?_
    refine y_if_eq hM (by constructor <;> omega) (tgt := 1036) dL_law_1031 (by decide) (fun c_1031 => ?_) (fun c_1031 => False.elim (by omega))
    refine lv_goto (tgt := 1216) hM.1 hM.2.1 dL_law_1036 (by decide) ?_
    exact kk _ _ T2 _ _ _ _ _ ls (by omega) (by omega) hC o3 ⟨hl.1, hl.2.1, fun q hq => hl.2.2 q (List.mem_cons_of_mem _ (List.mem_cons_of_mem _ hq))⟩

set_option maxRecDepth 100000 in
set_option maxHeartbeats 8000000 in
theorem law_madeGood {p : Program} {e : Env} {s : State} {m : MethodId} {below : List Frame} {meth : Method} {c : Code} {Q : State → Prop} (l : Launch) (hfl : l.stackTraces = false) (G : GG) (b0 : Nat) {b L : Nat} {xs : Nat → Int32} (hM : CallFix p m c cL_law 8 s #[Value.ref b] wsL_law RL) (hN : NcX s) (hX : va_X b L xs s s.heap) (hbA : ¬ b0 ≤ b) (hbl : b < s.heap.size) (hL : L ≤ 1536) {ks : KK} {ad : AD} {T : TT} {P : PP} {H : Heap} {locs : List Loc} {cells slots : Nat} (hcl : cells + 10 ≤ 601024) (hsl : slots + 100 ≤ 7293034) (i : Nat) (hi : i + 3 ≤ L) {ls : Array Slot} (hl : lv_has ls 8 [(4, .int (iI ((i : Nat) : Int))), (3, .ref (ad 43 0)), (2, .ref (ad 12 0)), (1, .ref (ad 0 0)), (0, .ref b)]) (hC : Cur G b0 (ks, ad, T, P) s H locs) (hI : IV ks ad T P)
    (kk : ∀ (ks1 : KK) (ad1 : AD) (T1 : TT) (P1 : PP) (H1 : Heap) (locs1 : List Loc) (cells1 slots1 : Nat) (ls1 : Array Slot), cells1 ≤ cells + 10 → slots1 ≤ slots + 100 → Cur G b0 (ks1, ad1, T1, P1) s H1 locs1 → IV ks1 ad1 T1 P1 → lv_has ls1 8 [(4, .int (iI ((i : Nat) : Int))), (3, .ref (ad1 43 0)), (2, .ref (ad1 12 0)), (1, .ref (ad1 0 0)), (0, .ref b)] → W p l e room_1 s m #[Value.ref b] below meth c H1 locs1 cells1 slots1 Q (F0 m 1216 ls1 [])) :
    W p l e room_1 s m #[Value.ref b] below meth c H locs cells slots Q (F0 m 1039 ls []) := by
  refine y_aload_n hM hl 3 rfl rfl dL_law_1039 ?_
  refine y_aload_n hM hl 4 rfl rfl dL_law_1040 ?_
  refine y_iload hM hl 0 rfl dL_law_1041 ?_
  refine y_iconst hM dL_law_1043 ?_
  refine y_iadd hM dL_law_1044 ?_
  refine y_scr hM hX hbl hbA hC (k := i + 1) (by omega) (by omega) hL dL_law_1045 ?_
  refine y_aload_n hM hl 1 rfl rfl dL_law_1046 ?_
  refine y_callSX hM hN hC (c_L_madeGood l hfl G b0 ks ad T P ((xs (i + 1)).toInt) (inI_of _) hI) (vx_cwSW 3 hM.2.2.2.2 gL_law_L_madeGood rfl rfl rfl (by decide +kernel) ⟨(Nat.le_of_ble_eq_true rfl), (Nat.le_of_ble_eq_true rfl)⟩) rfl hl.1 rfl (Nat.le_of_ble_eq_true rfl) dL_law_1047 ⟨(show _ ≤ 601024 by omega), (show _ ≤ 7293034 by omega)⟩ (fun E ce q9 u1 H locs hx hC hce hcv hcl => hx.elim) (fun v u1 H locs hp hC => ?_)
  obtain ⟨r_1047, T1, rfl, ⟨hW, hin⟩, hu⟩ := hp; rw [hu] at hC; clear hu; try dsimp only at hW hin
  obtain ⟨hMI1, hk43, hk0, ea0, ea12, ea43⟩ := iv_Kp hI
  have hhi := Wq.hi hW
  refine W.eq (g2 := F0 m 1050 ls [.int (iI (r_1047))]) rfl ?_
  have hk : 0 ≤ r_1047 ∧ r_1047 ≤ 3 := by rcases hW with ⟨h, -⟩ | ⟨h, -⟩ <;> omega
  have hMN1 := iv_MN1 hI hhi
  refine lv_istore (lv' := [(5, .int (iI (r_1047))), (4, .int (iI (((i : Nat) : Int)))), (3, .ref (ad 43 0)), (2, .ref (ad 12 0)), (1, .ref (ad 0 0)), (0, .ref b)]) hM.1 hM.2.1 dL_law_1050 hl (by decide) rfl (fun ls hl => ?_)
  refine y_aload_n hM hl 3 rfl rfl dL_law_1052 ?_
  refine y_aload_n hM hl 5 rfl rfl dL_law_1053 ?_
  refine y_iload hM hl 1 rfl dL_law_1054 ?_
  refine y_iconst hM dL_law_1056 ?_
  refine y_iadd hM dL_law_1057 ?_
  refine y_scr hM hX hbl hbA hC (k := i + 1) (by omega) (by omega) hL dL_law_1058 ?_
  refine y_callV hM hC (c_M_madeGood l hfl G b0 ks ad T1 P ((xs (i + 1)).toInt) (inI_of _) hMI1 hMN1) (cwV 1 hM.2.2.2.2 gL_law_X4_madeGood rfl rfl rfl (by decide +kernel) ⟨(Nat.le_of_ble_eq_true rfl), (Nat.le_of_ble_eq_true rfl)⟩) (y_recv hC hMI1.1 rfl rfl) rfl hl.1 rfl (Nat.le_of_ble_eq_true rfl) dL_law_1059 ⟨(show _ ≤ 601024 by omega), (show _ ≤ 7293034 by omega)⟩ (fun E ce q9 u1 H locs hx hC hce hcv hcl => hx.elim) (fun v u1 H locs hp hC => ?_)
  obtain ⟨r_1059, T2, rfl, hm, hu⟩ := hp; rw [hu] at hC; clear hu; try dsimp only at hm
  refine W.eq (g2 := F0 m 1062 ls [.long (lI (r_1059))]) rfl ?_
  have o4 : T2 43 0 0 = T1 43 0 0 := by rcases hm with ⟨-, hq⟩ | ⟨-, hq⟩ <;> first | (subst hq; rfl) | (subst hq; exact mdoe_ou.1) | (exact hq.2.2.1 43 0 0 (by omega) (by omega))
  obtain ⟨o1, o2, o3⟩ := op_mad hI hW hm
  refine lv_lstore (lv' := [(6, .long (lI (r_1059))), (5, .int (iI (r_1047))), (4, .int (iI (((i : Nat) : Int)))), (3, .ref (ad 43 0)), (2, .ref (ad 12 0)), (1, .ref (ad 0 0)), (0, .ref b)]) hM.1 hM.2.1 dL_law_1062 hl (by decide) rfl (fun ls hl => ?_)
  refine y_aload_n hM hl 4 rfl rfl dL_law_1064 ?_
  refine y_callV hM hC (c_M_thrown l hfl G b0 ks ad T2 P hMI1 o3.MN) (cwV 0 hM.2.2.2.2 gL_law_X4_thrown rfl rfl rfl (by decide +kernel) ⟨(Nat.le_of_ble_eq_true rfl), (Nat.le_of_ble_eq_true rfl)⟩) (y_recv hC hMI1.1 rfl rfl) rfl hl.1 rfl (Nat.le_of_ble_eq_true rfl) dL_law_1065 ⟨(show _ ≤ 601024 by omega), (show _ ≤ 7293034 by omega)⟩ (fun E ce q9 u1 H locs hx hC hce hcv hcl => hx.elim) (fun v u1 H locs hp hC => ?_)
  obtain ⟨r_1065, rfl, h_1065, hu⟩ := hp; rw [hu] at hC; clear hu
  try dsimp only at h_1065
  refine W.eq (g2 := F0 m 1068 ls [.int (iI (r_1065))]) rfl ?_
  rw [o1] at h_1065
  refine y_iload hM hl 1 rfl dL_law_1068 ?_
  refine y_icmp_eq hM (by constructor <;> omega) (by constructor <;> omega) (tgt := 1075) dL_law_1070 (by decide) (fun c_1070 => ?_) (fun c_1070 => False.elim (by omega))
  refine y_iload hM hl 1 rfl dL_law_1075 ?_
  refine y_if_ne hM (by constructor <;> omega) (tgt := 1091) dL_law_1077 (by decide) (fun c_1077 => ?_) (fun c_1077 => ?_)
  ·
    refine lv_goto (tgt := 1216) hM.1 hM.2.1 dL_law_1091 (by decide) ?_
    exact kk _ _ T2 _ _ _ _ _ ls (by omega) (by omega) hC o3 ⟨hl.1, hl.2.1, fun q hq => hl.2.2 q (List.mem_cons_of_mem _ (List.mem_cons_of_mem _ hq))⟩
  ·
    have e1 := o2 (by omega)
    rw [e1] at hl
    refine y_aload_n hM hl 3 rfl rfl dL_law_1080 ?_
    refine y_iconst hM dL_law_1081 ?_
    refine y_lald hM hC hk43 rfl ⟨by omega, by omega⟩ (by decide) (x := T2 43 0 0) rfl dL_law_1082 ?_
    refine y_lload hM hl 0 rfl dL_law_1083 ?_
    refine y_lcmpE hM dL_law_1085 ?_
    refine y_if_eq hM (by constructor <;> omega) (tgt := 1091) dL_law_1086 (by decide) (fun c_1086 => ?_) (fun c_1086 => False.elim (by omega))
    refine lv_goto (tgt := 1216) hM.1 hM.2.1 dL_law_1091 (by decide) ?_
    exact kk _ _ T2 _ _ _ _ _ ls (by omega) (by omega) hC o3 ⟨hl.1, hl.2.1, fun q hq => hl.2.2 q (List.mem_cons_of_mem _ (List.mem_cons_of_mem _ hq))⟩

set_option maxRecDepth 100000 in
set_option maxHeartbeats 8000000 in
theorem law_owes {p : Program} {e : Env} {s : State} {m : MethodId} {below : List Frame} {meth : Method} {c : Code} {Q : State → Prop} (l : Launch) (hfl : l.stackTraces = false) (G : GG) (b0 : Nat) {b L : Nat} {xs : Nat → Int32} (hM : CallFix p m c cL_law 8 s #[Value.ref b] wsL_law RL) (hN : NcX s) (hX : va_X b L xs s s.heap) (hbA : ¬ b0 ≤ b) (hbl : b < s.heap.size) (hL : L ≤ 1536) {ks : KK} {ad : AD} {T : TT} {P : PP} {H : Heap} {locs : List Loc} {cells slots : Nat} (hcl : cells + 10 ≤ 601024) (hsl : slots + 100 ≤ 7293034) (i : Nat) (hi : i + 3 ≤ L) {ls : Array Slot} (hl : lv_has ls 8 [(4, .int (iI ((i : Nat) : Int))), (3, .ref (ad 43 0)), (2, .ref (ad 12 0)), (1, .ref (ad 0 0)), (0, .ref b)]) (hC : Cur G b0 (ks, ad, T, P) s H locs) (hI : IV ks ad T P)
    (kk : ∀ (ks1 : KK) (ad1 : AD) (T1 : TT) (P1 : PP) (H1 : Heap) (locs1 : List Loc) (cells1 slots1 : Nat) (ls1 : Array Slot), cells1 ≤ cells + 10 → slots1 ≤ slots + 100 → Cur G b0 (ks1, ad1, T1, P1) s H1 locs1 → IV ks1 ad1 T1 P1 → lv_has ls1 8 [(4, .int (iI ((i : Nat) : Int))), (3, .ref (ad1 43 0)), (2, .ref (ad1 12 0)), (1, .ref (ad1 0 0)), (0, .ref b)] → W p l e room_1 s m #[Value.ref b] below meth c H1 locs1 cells1 slots1 Q (F0 m 1216 ls1 [])) :
    W p l e room_1 s m #[Value.ref b] below meth c H locs cells slots Q (F0 m 1094 ls []) := by
  refine y_aload_n hM hl 3 rfl rfl dL_law_1094 ?_
  refine y_aload_n hM hl 4 rfl rfl dL_law_1095 ?_
  refine y_iload hM hl 0 rfl dL_law_1096 ?_
  refine y_iconst hM dL_law_1098 ?_
  refine y_iadd hM dL_law_1099 ?_
  refine y_scr hM hX hbl hbA hC (k := i + 1) (by omega) (by omega) hL dL_law_1100 ?_
  refine y_aload_n hM hl 4 rfl rfl dL_law_1101 ?_
  refine y_iload hM hl 0 rfl dL_law_1102 ?_
  refine y_iconst hM dL_law_1104 ?_
  refine y_iadd hM dL_law_1105 ?_
  refine y_scr hM hX hbl hbA hC (k := i + 2) (by omega) (by omega) hL dL_law_1106 ?_
  refine y_aload_n hM hl 1 rfl rfl dL_law_1107 ?_
  refine y_callSX hM hN hC (c_L_owes l hfl G b0 ks ad T P ((xs (i + 1)).toInt) ((xs (i + 2)).toInt) (inI_of _) (inI_of _) hI) (vx_cwSW 4 hM.2.2.2.2 gL_law_L_owes rfl rfl rfl (by decide +kernel) ⟨(Nat.le_of_ble_eq_true rfl), (Nat.le_of_ble_eq_true rfl)⟩) rfl hl.1 rfl (Nat.le_of_ble_eq_true rfl) dL_law_1108 ⟨(show _ ≤ 601024 by omega), (show _ ≤ 7293034 by omega)⟩ (fun E ce q9 u1 H locs hx hC hce hcv hcl => hx.elim) (fun v u1 H locs hp hC => ?_)
  obtain ⟨r_1108, T1, rfl, ⟨hW, hin⟩, hu⟩ := hp; rw [hu] at hC; clear hu; try dsimp only at hW hin
  obtain ⟨hMI1, hk43, hk0, ea0, ea12, ea43⟩ := iv_Kp hI
  have hhi := Wq.hi hW
  refine W.eq (g2 := F0 m 1111 ls [.int (iI (r_1108))]) rfl ?_
  have hk : 0 ≤ r_1108 ∧ r_1108 ≤ 3 := by rcases hW with ⟨h, -⟩ | ⟨h, -⟩ <;> omega
  have hMN1 := iv_MN1 hI hhi
  refine lv_istore (lv' := [(5, .int (iI (r_1108))), (4, .int (iI (((i : Nat) : Int)))), (3, .ref (ad 43 0)), (2, .ref (ad 12 0)), (1, .ref (ad 0 0)), (0, .ref b)]) hM.1 hM.2.1 dL_law_1111 hl (by decide) rfl (fun ls hl => ?_)
  refine y_aload_n hM hl 3 rfl rfl dL_law_1113 ?_
  refine y_aload_n hM hl 5 rfl rfl dL_law_1114 ?_
  refine y_iload hM hl 1 rfl dL_law_1115 ?_
  refine y_iconst hM dL_law_1117 ?_
  refine y_iadd hM dL_law_1118 ?_
  refine y_scr hM hX hbl hbA hC (k := i + 1) (by omega) (by omega) hL dL_law_1119 ?_
  refine y_aload_n hM hl 5 rfl rfl dL_law_1120 ?_
  refine y_iload hM hl 1 rfl dL_law_1121 ?_
  refine y_iconst hM dL_law_1123 ?_
  refine y_iadd hM dL_law_1124 ?_
  refine y_scr hM hX hbl hbA hC (k := i + 2) (by omega) (by omega) hL dL_law_1125 ?_
  refine y_callV hM hC (c_M_owes l hfl G b0 ks ad T1 P ((xs (i + 1)).toInt) ((xs (i + 2)).toInt) (inI_of _) (inI_of _) hMI1 hMN1) (cwV 2 hM.2.2.2.2 gL_law_X4_owes rfl rfl rfl (by decide +kernel) ⟨(Nat.le_of_ble_eq_true rfl), (Nat.le_of_ble_eq_true rfl)⟩) (y_recv hC hMI1.1 rfl rfl) rfl hl.1 rfl (Nat.le_of_ble_eq_true rfl) dL_law_1126 ⟨(show _ ≤ 601024 by omega), (show _ ≤ 7293034 by omega)⟩ (fun E ce q9 u1 H locs hx hC hce hcv hcl => hx.elim) (fun v u1 H locs hp hC => ?_)
  obtain ⟨r_1126, T2, rfl, hm, hu⟩ := hp; rw [hu] at hC; clear hu; try dsimp only at hm
  refine W.eq (g2 := F0 m 1129 ls [.long (lI (r_1126))]) rfl ?_
  have o4 : T2 43 0 0 = T1 43 0 0 := by rcases hm with ⟨-, hq⟩ | ⟨-, hq⟩ <;> first | (subst hq; rfl) | (subst hq; exact mdoe_ou.1) | (exact hq.2.2.1 43 0 0 (by omega) (by omega))
  obtain ⟨o1, o2, o3⟩ := op_owe hI hW hm
  refine lv_lstore (lv' := [(6, .long (lI (r_1126))), (5, .int (iI (r_1108))), (4, .int (iI (((i : Nat) : Int)))), (3, .ref (ad 43 0)), (2, .ref (ad 12 0)), (1, .ref (ad 0 0)), (0, .ref b)]) hM.1 hM.2.1 dL_law_1129 hl (by decide) rfl (fun ls hl => ?_)
  refine y_aload_n hM hl 4 rfl rfl dL_law_1131 ?_
  refine y_callV hM hC (c_M_thrown l hfl G b0 ks ad T2 P hMI1 o3.MN) (cwV 0 hM.2.2.2.2 gL_law_X4_thrown rfl rfl rfl (by decide +kernel) ⟨(Nat.le_of_ble_eq_true rfl), (Nat.le_of_ble_eq_true rfl)⟩) (y_recv hC hMI1.1 rfl rfl) rfl hl.1 rfl (Nat.le_of_ble_eq_true rfl) dL_law_1132 ⟨(show _ ≤ 601024 by omega), (show _ ≤ 7293034 by omega)⟩ (fun E ce q9 u1 H locs hx hC hce hcv hcl => hx.elim) (fun v u1 H locs hp hC => ?_)
  obtain ⟨r_1132, rfl, h_1132, hu⟩ := hp; rw [hu] at hC; clear hu
  try dsimp only at h_1132
  refine W.eq (g2 := F0 m 1135 ls [.int (iI (r_1132))]) rfl ?_
  rw [o1] at h_1132
  refine y_iload hM hl 1 rfl dL_law_1135 ?_
  refine y_icmp_eq hM (by constructor <;> omega) (by constructor <;> omega) (tgt := 1142) dL_law_1137 (by decide) (fun c_1137 => ?_) (fun c_1137 => False.elim (by omega))
  refine y_iload hM hl 1 rfl dL_law_1142 ?_
  refine y_if_ne hM (by constructor <;> omega) (tgt := 1158) dL_law_1144 (by decide) (fun c_1144 => ?_) (fun c_1144 => ?_)
  ·
    refine lv_goto (tgt := 1216) hM.1 hM.2.1 dL_law_1158 (by decide) ?_
    exact kk _ _ T2 _ _ _ _ _ ls (by omega) (by omega) hC o3 ⟨hl.1, hl.2.1, fun q hq => hl.2.2 q (List.mem_cons_of_mem _ (List.mem_cons_of_mem _ hq))⟩
  ·
    have e1 := o2 (by omega)
    rw [e1] at hl
    refine y_aload_n hM hl 3 rfl rfl dL_law_1147 ?_
    refine y_iconst hM dL_law_1148 ?_
    refine y_lald hM hC hk43 rfl ⟨by omega, by omega⟩ (by decide) (x := T2 43 0 0) rfl dL_law_1149 ?_
    refine y_lload hM hl 0 rfl dL_law_1150 ?_
    refine y_lcmpE hM dL_law_1152 ?_
    refine y_if_eq hM (by constructor <;> omega) (tgt := 1158) dL_law_1153 (by decide) (fun c_1153 => ?_) (fun c_1153 => False.elim (by omega))
    refine lv_goto (tgt := 1216) hM.1 hM.2.1 dL_law_1158 (by decide) ?_
    exact kk _ _ T2 _ _ _ _ _ ls (by omega) (by omega) hC o3 ⟨hl.1, hl.2.1, fun q hq => hl.2.2 q (List.mem_cons_of_mem _ (List.mem_cons_of_mem _ hq))⟩

set_option maxRecDepth 100000 in
set_option maxHeartbeats 8000000 in
theorem law_losses {p : Program} {e : Env} {s : State} {m : MethodId} {below : List Frame} {meth : Method} {c : Code} {Q : State → Prop} (l : Launch) (hfl : l.stackTraces = false) (G : GG) (b0 : Nat) {b L : Nat} {xs : Nat → Int32} (hM : CallFix p m c cL_law 8 s #[Value.ref b] wsL_law RL) (hN : NcX s) (hX : va_X b L xs s s.heap) (hbA : ¬ b0 ≤ b) (hbl : b < s.heap.size) (hL : L ≤ 1536) {ks : KK} {ad : AD} {T : TT} {P : PP} {H : Heap} {locs : List Loc} {cells slots : Nat} (hcl : cells + 10 ≤ 601024) (hsl : slots + 100 ≤ 7293034) (i : Nat) (hi : i + 3 ≤ L) {ls : Array Slot} (hl : lv_has ls 8 [(4, .int (iI ((i : Nat) : Int))), (3, .ref (ad 43 0)), (2, .ref (ad 12 0)), (1, .ref (ad 0 0)), (0, .ref b)]) (hC : Cur G b0 (ks, ad, T, P) s H locs) (hI : IV ks ad T P)
    (kk : ∀ (ks1 : KK) (ad1 : AD) (T1 : TT) (P1 : PP) (H1 : Heap) (locs1 : List Loc) (cells1 slots1 : Nat) (ls1 : Array Slot), cells1 ≤ cells + 10 → slots1 ≤ slots + 100 → Cur G b0 (ks1, ad1, T1, P1) s H1 locs1 → IV ks1 ad1 T1 P1 → lv_has ls1 8 [(4, .int (iI ((i : Nat) : Int))), (3, .ref (ad1 43 0)), (2, .ref (ad1 12 0)), (1, .ref (ad1 0 0)), (0, .ref b)] → W p l e room_1 s m #[Value.ref b] below meth c H1 locs1 cells1 slots1 Q (F0 m 1216 ls1 [])) :
    W p l e room_1 s m #[Value.ref b] below meth c H locs cells slots Q (F0 m 1161 ls []) := by
  refine y_aload_n hM hl 3 rfl rfl dL_law_1161 ?_
  refine y_aload_n hM hl 4 rfl rfl dL_law_1162 ?_
  refine y_iload hM hl 0 rfl dL_law_1163 ?_
  refine y_iconst hM dL_law_1165 ?_
  refine y_iadd hM dL_law_1166 ?_
  refine y_scr hM hX hbl hbA hC (k := i + 1) (by omega) (by omega) hL dL_law_1167 ?_
  refine y_aload_n hM hl 1 rfl rfl dL_law_1168 ?_
  refine y_callSX hM hN hC (c_L_losses l hfl G b0 ks ad T P ((xs (i + 1)).toInt) (inI_of _) hI) (vx_cwSW 3 hM.2.2.2.2 gL_law_L_losses rfl rfl rfl (by decide +kernel) ⟨(Nat.le_of_ble_eq_true rfl), (Nat.le_of_ble_eq_true rfl)⟩) rfl hl.1 rfl (Nat.le_of_ble_eq_true rfl) dL_law_1169 ⟨(show _ ≤ 601024 by omega), (show _ ≤ 7293034 by omega)⟩ (fun E ce q9 u1 H locs hx hC hce hcv hcl => hx.elim) (fun v u1 H locs hp hC => ?_)
  obtain ⟨r_1169, T1, rfl, ⟨hW, hin⟩, hu⟩ := hp; rw [hu] at hC; clear hu; try dsimp only at hW hin
  obtain ⟨hMI1, hk43, hk0, ea0, ea12, ea43⟩ := iv_Kp hI
  have hhi := Wq.hi hW
  refine W.eq (g2 := F0 m 1172 ls [.int (iI (r_1169))]) rfl ?_
  have hk : 0 ≤ r_1169 ∧ r_1169 ≤ 3 := by rcases hW with ⟨h, -⟩ | ⟨h, -⟩ <;> omega
  have hMN1 := iv_MN1 hI hhi
  refine lv_istore (lv' := [(5, .int (iI (r_1169))), (4, .int (iI (((i : Nat) : Int)))), (3, .ref (ad 43 0)), (2, .ref (ad 12 0)), (1, .ref (ad 0 0)), (0, .ref b)]) hM.1 hM.2.1 dL_law_1172 hl (by decide) rfl (fun ls hl => ?_)
  refine y_aload_n hM hl 3 rfl rfl dL_law_1174 ?_
  refine y_aload_n hM hl 5 rfl rfl dL_law_1175 ?_
  refine y_iload hM hl 1 rfl dL_law_1176 ?_
  refine y_iconst hM dL_law_1178 ?_
  refine y_iadd hM dL_law_1179 ?_
  refine y_scr hM hX hbl hbA hC (k := i + 1) (by omega) (by omega) hL dL_law_1180 ?_
  refine y_callV hM hC (c_M_losses l hfl G b0 ks ad T1 P ((xs (i + 1)).toInt) (inI_of _) hMI1 hMN1) (cwV 1 hM.2.2.2.2 gL_law_X4_losses rfl rfl rfl (by decide +kernel) ⟨(Nat.le_of_ble_eq_true rfl), (Nat.le_of_ble_eq_true rfl)⟩) (y_recv hC hMI1.1 rfl rfl) rfl hl.1 rfl (Nat.le_of_ble_eq_true rfl) dL_law_1181 ⟨(show _ ≤ 601024 by omega), (show _ ≤ 7293034 by omega)⟩ (fun E ce q9 u1 H locs hx hC hce hcv hcl => hx.elim) (fun v u1 H locs hp hC => ?_)
  obtain ⟨r_1181, T2, rfl, hm, hu⟩ := hp; rw [hu] at hC; clear hu; try dsimp only at hm
  refine W.eq (g2 := F0 m 1184 ls [.long (lI (r_1181))]) rfl ?_
  have o4 : T2 43 0 0 = T1 43 0 0 := by rcases hm with ⟨-, hq⟩ | ⟨-, hq⟩ <;> first | (subst hq; rfl) | (subst hq; exact mdoe_ou.1) | (exact hq.2.2.1 43 0 0 (by omega) (by omega))
  obtain ⟨o1, o2, o3⟩ := op_los hI hW hm
  refine lv_lstore (lv' := [(6, .long (lI (r_1181))), (5, .int (iI (r_1169))), (4, .int (iI (((i : Nat) : Int)))), (3, .ref (ad 43 0)), (2, .ref (ad 12 0)), (1, .ref (ad 0 0)), (0, .ref b)]) hM.1 hM.2.1 dL_law_1184 hl (by decide) rfl (fun ls hl => ?_)
  refine y_aload_n hM hl 4 rfl rfl dL_law_1186 ?_
  refine y_callV hM hC (c_M_thrown l hfl G b0 ks ad T2 P hMI1 o3.MN) (cwV 0 hM.2.2.2.2 gL_law_X4_thrown rfl rfl rfl (by decide +kernel) ⟨(Nat.le_of_ble_eq_true rfl), (Nat.le_of_ble_eq_true rfl)⟩) (y_recv hC hMI1.1 rfl rfl) rfl hl.1 rfl (Nat.le_of_ble_eq_true rfl) dL_law_1187 ⟨(show _ ≤ 601024 by omega), (show _ ≤ 7293034 by omega)⟩ (fun E ce q9 u1 H locs hx hC hce hcv hcl => hx.elim) (fun v u1 H locs hp hC => ?_)
  obtain ⟨r_1187, rfl, h_1187, hu⟩ := hp; rw [hu] at hC; clear hu
  try dsimp only at h_1187
  refine W.eq (g2 := F0 m 1190 ls [.int (iI (r_1187))]) rfl ?_
  rw [o1] at h_1187
  refine y_iload hM hl 1 rfl dL_law_1190 ?_
  refine y_icmp_eq hM (by constructor <;> omega) (by constructor <;> omega) (tgt := 1197) dL_law_1192 (by decide) (fun c_1192 => ?_) (fun c_1192 => False.elim (by omega))
  refine y_iload hM hl 1 rfl dL_law_1197 ?_
  refine y_if_ne hM (by constructor <;> omega) (tgt := 1213) dL_law_1199 (by decide) (fun c_1199 => ?_) (fun c_1199 => ?_)
  ·
    refine lv_goto (tgt := 1216) hM.1 hM.2.1 dL_law_1213 (by decide) ?_
    exact kk _ _ T2 _ _ _ _ _ ls (by omega) (by omega) hC o3 ⟨hl.1, hl.2.1, fun q hq => hl.2.2 q (List.mem_cons_of_mem _ (List.mem_cons_of_mem _ hq))⟩
  ·
    have e1 := o2 (by omega)
    rw [e1] at hl
    refine y_aload_n hM hl 3 rfl rfl dL_law_1202 ?_
    refine y_iconst hM dL_law_1203 ?_
    refine y_lald hM hC hk43 rfl ⟨by omega, by omega⟩ (by decide) (x := T2 43 0 0) rfl dL_law_1204 ?_
    refine y_lload hM hl 0 rfl dL_law_1205 ?_
    refine y_lcmpE hM dL_law_1207 ?_
    refine y_if_eq hM (by constructor <;> omega) (tgt := 1213) dL_law_1208 (by decide) (fun c_1208 => ?_) (fun c_1208 => False.elim (by omega))
    refine lv_goto (tgt := 1216) hM.1 hM.2.1 dL_law_1213 (by decide) ?_
    exact kk _ _ T2 _ _ _ _ _ ls (by omega) (by omega) hC o3 ⟨hl.1, hl.2.1, fun q hq => hl.2.2 q (List.mem_cons_of_mem _ (List.mem_cons_of_mem _ hq))⟩
