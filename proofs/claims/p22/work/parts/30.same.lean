theorem lv_drop1 {ls : Array Slot} {n : Nat} {a b : Nat × Value} {r : List (Nat × Value)} (h : lv_has ls n (a :: b :: r)) : lv_has ls n (a :: r) :=
  ⟨h.1, h.2.1, fun q hq => h.2.2 q ((List.mem_cons.mp hq).elim (fun e => e ▸ List.mem_cons_self) (fun e => List.mem_cons_of_mem _ (List.mem_cons_of_mem _ e)))⟩

set_option maxRecDepth 100000 in
set_option maxHeartbeats 8000000 in
theorem c_L_same (l : Launch) (hfl : l.stackTraces = false) (G : GG) (b0 : Nat) (ks : KK) (ad : AD) (T : TT) (P : PP) (dy : Int) (hdy : 0 ≤ dy ∧ dy ≤ T 0 0 5) (hLK : LK ks) (hR : R2 T T) (hF : FI ks ad P) (hRK : RK ks ad P) (hRN : RN T) (hDN : DN T) (hSK : SK ks ad T P) (hSN : SN T) (hOK : OK1 ks ad T P) (hON : ON T) : vx_Met l yL_same wsL_same (rmX 10 300 2500 171) (va_Pc [.ref (ad 0 0), .ref (ad 50 0), .ref (ad 51 0), .ref (ad 52 0), .ref (ad 53 0), .ref (ad 54 0), .ref (ad 55 0), .ref (ad 56 0), .int (iI (dy))] (OkN G b0 (ks, ad, T, P))) (Qr (pI (fun r => r = 1) (ks, ad, T, P)) G b0) (Xr (noX) G b0) 300 2500 (Wx b0) := by
  refine vx_ofW (cc := cL_same) (maxL := 11) (ret := (some .boolean)) (by decide +kernel) rfl ?_
  intro p e s m args below meth c s₁ B hml hto hv
  obtain ⟨rfl, hok, hN⟩ := hv
  have hM : CallFix p m c cL_same 11 s _ wsL_same RL := ⟨B.exec, B.bytes, hml, findClass_of_methodNamed B.named, atoms_spec (ws := wsL_same) B.pre⟩
  have hr := B.returns
  have hlk := B.notSynchronized
  have hC := hok.cur
  have hl := lv_entry ([.ref (ad 0 0), .ref (ad 50 0), .ref (ad 51 0), .ref (ad 52 0), .ref (ad 53 0), .ref (ad 54 0), .ref (ad 55 0), .ref (ad 56 0), .int (iI (dy))]) (n := 11) (Nat.le_of_ble_eq_true rfl)
  rw [lg_entry_eq]
  generalize (lg_sl ([.ref (ad 0 0), .ref (ad 50 0), .ref (ad 51 0), .ref (ad 52 0), .ref (ad 53 0), .ref (ad 54 0), .ref (ad 55 0), .ref (ad 56 0), .int (iI (dy))]) ++ List.replicate (11 - (lg_sl ([.ref (ad 0 0), .ref (ad 50 0), .ref (ad 51 0), .ref (ad 52 0), .ref (ad 53 0), .ref (ad 54 0), .ref (ad 55 0), .ref (ad 56 0), .int (iI (dy))])).length) Slot.unset).toArray = ls at hl ⊢
  have hl : lv_has ls 11 [(0, .ref (ad 0 0)), (1, .ref (ad 50 0)), (2, .ref (ad 51 0)), (3, .ref (ad 52 0)), (4, .ref (ad 53 0)), (5, .ref (ad 54 0)), (6, .ref (ad 55 0)), (7, .ref (ad 56 0)), (8, .int (iI (dy)))] := hl
  obtain ⟨⟨hg1, h75, hg2, h87, hg3, h19, hg4, hg0⟩, -⟩ := id hR
  obtain ⟨hd0, hd1, hd2, hd3⟩ := id hDN
  have hs70 := hSK.1
  have ho80 := hOK.1
  have hlo4 : ∀ (m_ i : Nat) (H : Heap) (locs : List Loc) (cells slots : Nat) (ls : Array Slot), ((i + m_ : Nat) : Int) = 5 → cells + 3 * m_ + 3 ≤ 300 → slots + 18 * m_ + 18 ≤ 2500 → lv_has ls 11 [(9, .int (iI (((i : Nat) : Int)))), (0, .ref (ad 0 0)), (1, .ref (ad 50 0)), (2, .ref (ad 51 0)), (3, .ref (ad 52 0)), (4, .ref (ad 53 0)), (5, .ref (ad 54 0)), (6, .ref (ad 55 0)), (7, .ref (ad 56 0)), (8, .int (iI (dy)))] → Cur G b0 (ks, ad, T, P) s H locs → W p l e (headSpec wsL_same (rmX 10 300 2500 171)).room s m [.ref (ad 0 0), .ref (ad 50 0), .ref (ad 51 0), .ref (ad 52 0), .ref (ad 53 0), .ref (ad 54 0), .ref (ad 55 0), .ref (ad 56 0), .int (iI (dy))].toArray below meth c H locs cells slots (vx_MQ below (Qr (pI (fun r => r = 1) (ks, ad, T, P)) G b0) (Xr (noX) G b0) [.ref (ad 0 0), .ref (ad 50 0), .ref (ad 51 0), .ref (ad 52 0), .ref (ad 53 0), .ref (ad 54 0), .ref (ad 55 0), .ref (ad 56 0), .int (iI (dy))].toArray s 300 2500 (Wx b0)) (F0 m 277 ls []) := by
    intro m_
    induction m_ with
    | zero =>
      intro i H locs cells slots ls hn hcl hsl hl hC
      refine y_iload hM hl 0 rfl dL_same_277 ?_
      refine y_iconst hM dL_same_279 ?_
      refine y_icmp_ge hM (by constructor <;> omega) (by constructor <;> omega) (tgt := 328) dL_same_280 (by decide) (fun c_280 => ?_) (fun c_280 => False.elim (by omega))
      refine y_aload_n hM hl 1 rfl rfl dL_same_328 ?_
      refine y_callV hM hC (c_today l hfl G b0 ks ad T P   hF) (cwV 0 hM.2.2.2.2 gL_same_X3_today rfl rfl rfl (by decide +kernel) ⟨(Nat.le_of_ble_eq_true rfl), (Nat.le_of_ble_eq_true rfl)⟩) (y_recv hC hF.1 rfl rfl) rfl hl.1 rfl (Nat.le_of_ble_eq_true rfl) dL_same_329 ⟨(show _ ≤ 300 by omega), (show _ ≤ 2500 by omega)⟩ (fun E ce q9 u1 H locs hx hC hce hcv hcl => hx.elim) (fun v u1 H locs hp hC => ?_)
      obtain ⟨r_329, rfl, h_329, hu⟩ := hp; rw [hu] at hC; clear hu
      try dsimp only at h_329
      refine W.eq (g2 := F0 m 332 ls [.int (iI (r_329))]) rfl ?_
      refine y_aload hM hl 8 rfl dL_same_332 ?_
      refine y_iconst hM dL_same_334 ?_
      refine y_iald hM hC hLK.2.2.2.2.2.2 rfl ⟨by omega, by omega⟩ (by decide) (x := T 0 0 5) (by rw [show ((3 : Int)).toNat = 3 from rfl, hg3]) dL_same_335 ?_
      refine y_icmp_ne hM (by constructor <;> omega) (by constructor <;> omega) (tgt := 374) dL_same_336 (by decide) (fun c_336 => False.elim (by omega)) (fun c_336 => ?_)
      refine y_aload_n hM hl 1 rfl rfl dL_same_339 ?_
      refine y_bipush hM dL_same_340 (by decide) ?_
      refine y_aload hM hl 8 rfl dL_same_342 ?_
      refine y_iconst hM dL_same_344 ?_
      refine y_iald hM hC hLK.2.2.2.2.2.2 rfl ⟨by omega, by omega⟩ (by decide) (x := T 0 0 8) (by rw [show ((2 : Int)).toNat = 2 from rfl, hg2]) dL_same_345 ?_
      refine y_iconst hM dL_same_346 ?_
      refine y_callSX hM hN hC (c_ref_stage l hfl G b0 ks ad T P (T 0 0 8) (0) ⟨by omega, by omega⟩ ⟨by omega, by omega⟩ hF hRK hRN hDN hSK hSN hOK hON (by omega)) (vx_cwSW 4 hM.2.2.2.2 gL_same_L_refused rfl rfl rfl (by decide +kernel) ⟨(Nat.le_of_ble_eq_true rfl), (Nat.le_of_ble_eq_true rfl)⟩) rfl hl.1 rfl (Nat.le_of_ble_eq_true rfl) dL_same_347 ⟨(show _ ≤ 300 by omega), (show _ ≤ 2500 by omega)⟩ (fun E ce q9 u1 H locs hx hC hce hcv hcl => hx.elim) (fun v u1 H locs hp hC => ?_)
      obtain ⟨r_347, rfl, h_347, hu⟩ := hp; rw [hu] at hC; clear hu
      try dsimp only at h_347
      refine W.eq (g2 := F0 m 350 ls [.int (iI (r_347))]) rfl ?_
      refine y_iconst hM dL_same_350 ?_
      refine y_icmp_ne hM (by constructor <;> omega) (by constructor <;> omega) (tgt := 374) dL_same_351 (by decide) (fun c_351 => False.elim (by omega)) (fun c_351 => ?_)
      refine y_aload_n hM hl 1 rfl rfl dL_same_354 ?_
      refine y_iconst hM dL_same_355 ?_
      refine y_iconst hM dL_same_356 ?_
      refine y_aload hM hl 8 rfl dL_same_357 ?_
      refine y_iconst hM dL_same_359 ?_
      refine y_iald hM hC hLK.2.2.2.2.2.2 rfl ⟨by omega, by omega⟩ (by decide) (x := T 0 0 5) (by rw [show ((3 : Int)).toNat = 3 from rfl, hg3]) dL_same_360 ?_
      refine y_iconst hM dL_same_361 ?_
      refine y_iadd hM dL_same_362 ?_
      refine y_callSX hM hN hC (c_ref_price l hfl G b0 ks ad T P (0) ((T 0 0 5) + (1)) ⟨by omega, by omega⟩ ⟨by omega, by omega⟩ hF hRK hRN hDN hSK hSN hOK hON (by omega)) (vx_cwSW 4 hM.2.2.2.2 gL_same_L_refused rfl rfl rfl (by decide +kernel) ⟨(Nat.le_of_ble_eq_true rfl), (Nat.le_of_ble_eq_true rfl)⟩) rfl hl.1 rfl (Nat.le_of_ble_eq_true rfl) dL_same_363 ⟨(show _ ≤ 300 by omega), (show _ ≤ 2500 by omega)⟩ (fun E ce q9 u1 H locs hx hC hce hcv hcl => hx.elim) (fun v u1 H locs hp hC => ?_)
      obtain ⟨r_363, rfl, h_363, hu⟩ := hp; rw [hu] at hC; clear hu
      try dsimp only at h_363
      refine W.eq (g2 := F0 m 366 ls [.int (iI (r_363))]) rfl ?_
      refine y_iconst hM dL_same_366 ?_
      refine y_icmp_ne hM (by constructor <;> omega) (by constructor <;> omega) (tgt := 374) dL_same_367 (by decide) (fun c_367 => False.elim (by omega)) (fun c_367 => ?_)
      refine y_iconst hM dL_same_370 ?_
      refine lv_goto (tgt := 375) hM.1 hM.2.1 dL_same_371 (by decide) ?_
      exact y_zret hM hr hlk hC (by decide) ⟨_, rfl, rfl, rfl⟩ (by omega) (by omega) dL_same_375
    | succ m_ ih =>
      intro i H locs cells slots ls hn hcl hsl hl hC
      have hv4 := valT_in hRN (p := i) (by omega) dy
      have hls : T 55 0 (i + 25) = T 3 0 i := by
        rw [Nat.add_comm]
        exact hR.2.2.2.2.2 i (by omega)
      refine y_iload hM hl 0 rfl dL_same_277 ?_
      refine y_iconst hM dL_same_279 ?_
      refine y_icmp_ge hM (by constructor <;> omega) (by constructor <;> omega) (tgt := 328) dL_same_280 (by decide) (fun c_280 => False.elim (by omega)) (fun c_280 => ?_)
      refine y_aload_n hM hl 1 rfl rfl dL_same_283 ?_
      refine y_iload hM hl 0 rfl dL_same_284 ?_
      refine y_callV hM hC (c_losses l hfl G b0 ks ad T P (((i : Nat) : Int)) ⟨by omega, by omega⟩ hF) (cwV 1 hM.2.2.2.2 gL_same_X3_losses rfl rfl rfl (by decide +kernel) ⟨(Nat.le_of_ble_eq_true rfl), (Nat.le_of_ble_eq_true rfl)⟩) (y_recv hC hF.1 rfl rfl) rfl hl.1 rfl (Nat.le_of_ble_eq_true rfl) dL_same_286 ⟨(show _ ≤ 300 by omega), (show _ ≤ 2500 by omega)⟩ (fun E ce q9 u1 H locs hx hC hce hcv hcl => by
          obtain ⟨x, rfl, hx, hu⟩ := hx; rw [hu] at hC; clear hu; try dsimp only at hx
          exact False.elim ((by (try simp only [Int.toNat_natCast] at hx); omega))) (fun v u1 H locs hp hC => ?_)
      obtain ⟨r_286, rfl, h_286, hu⟩ := hp; rw [hu] at hC; clear hu
      try dsimp only at h_286
      refine W.eq (g2 := F0 m 289 ls [.long (lI (r_286))]) rfl ?_
      simp only [Int.toNat_natCast] at h_286
      obtain ⟨e_286, h_286⟩ := h_286
      subst e_286
      refine y_aload hM hl 7 rfl dL_same_289 ?_
      refine y_bipush hM dL_same_291 (by decide) ?_
      refine y_iload hM hl 0 rfl dL_same_293 ?_
      refine y_iadd hM dL_same_295 ?_
      refine y_lald hM hC hLK.2.2.2.2.2.1 rfl ⟨by omega, by omega⟩ (by decide) (x := T 3 0 i) (by rw [show ((25) + (((i : Nat) : Int)) : Int).toNat = i + 25 from by omega, hls]) dL_same_296 ?_
      refine y_lcmpE hM dL_same_297 ?_
      refine y_if_ne hM (by constructor <;> omega) (tgt := 320) dL_same_298 (by decide) (fun c_298 => False.elim (by omega)) (fun c_298 => ?_)
      refine y_aload_n hM hl 1 rfl rfl dL_same_301 ?_
      refine y_iload hM hl 0 rfl dL_same_302 ?_
      refine y_iload hM hl 9 rfl dL_same_304 ?_
      refine y_callV hM hC (c_price l hfl G b0 ks ad T P (((i : Nat) : Int)) (dy) ⟨by omega, by omega⟩ ⟨by omega, by omega⟩ hF hRK hRN hDN) (cwV 2 hM.2.2.2.2 gL_same_X3_price rfl rfl rfl (by decide +kernel) ⟨(Nat.le_of_ble_eq_true rfl), (Nat.le_of_ble_eq_true rfl)⟩) (y_recv hC hF.1 rfl rfl) rfl hl.1 rfl (Nat.le_of_ble_eq_true rfl) dL_same_306 ⟨(show _ ≤ 300 by omega), (show _ ≤ 2500 by omega)⟩ (fun E ce q9 u1 H locs hx hC hce hcv hcl => by
          obtain ⟨x, rfl, hx, hu⟩ := hx; rw [hu] at hC; clear hu; try dsimp only at hx
          exact False.elim ((by (try simp only [Int.toNat_natCast] at hx); omega))) (fun v u1 H locs hp hC => ?_)
      obtain ⟨r_306, rfl, h_306, hu⟩ := hp; rw [hu] at hC; clear hu
      try dsimp only at h_306
      refine W.eq (g2 := F0 m 309 ls [.int (iI (r_306))]) rfl ?_
      simp only [Int.toNat_natCast] at h_306
      obtain ⟨e_306, h_306⟩ := h_306
      subst e_306
      refine y_aload_n hM hl 2 rfl rfl dL_same_309 ?_
      refine y_iload hM hl 0 rfl dL_same_310 ?_
      refine y_iload hM hl 9 rfl dL_same_312 ?_
      refine y_callS hM hC (c_L_price l hfl G b0 ks ad T P (((i : Nat) : Int)) (dy) ⟨by omega, by omega⟩ ⟨by omega, by omega⟩ hLK.1 hR.2.1) (va_cwS 3 hM.2.2.2.2 gL_same_L_price rfl rfl rfl (by decide +kernel) ⟨(Nat.le_of_ble_eq_true rfl), (Nat.le_of_ble_eq_true rfl)⟩) rfl hl.1 rfl (Nat.le_of_ble_eq_true rfl) dL_same_314 ⟨(show _ ≤ 300 by omega), (show _ ≤ 2500 by omega)⟩ (fun E ce q9 u1 H locs hx hC hce hcv hcl => hx.elim) (fun v u1 H locs hp hC => ?_)
      obtain ⟨r_314, rfl, h_314, hu⟩ := hp; rw [hu] at hC; clear hu
      try dsimp only at h_314
      refine W.eq (g2 := F0 m 317 ls [.int (iI (r_314)), .int (iI (valT T i dy))]) rfl ?_
      simp only [Int.toNat_natCast] at h_314
      refine y_icmp_eq hM (by constructor <;> omega) (by constructor <;> omega) (tgt := 322) dL_same_317 (by decide) (fun c_317 => ?_) (fun c_317 => False.elim (by omega))
      refine lv_iinc (v := iI ((((i : Nat) : Int)) + (1))) (lv' := [(9, .int (iI ((((i : Nat) : Int)) + (1)))), (0, .ref (ad 0 0)), (1, .ref (ad 50 0)), (2, .ref (ad 51 0)), (3, .ref (ad 52 0)), (4, .ref (ad 53 0)), (5, .ref (ad 54 0)), (6, .ref (ad 55 0)), (7, .ref (ad 56 0)), (8, .int (iI (dy)))]) hM.1 hM.2.1 dL_same_322 hl (k := 0) rfl (iI_add _ _) (by decide) rfl (fun ls hl => ?_)
      refine lv_goto (tgt := 277) hM.1 hM.2.1 dL_same_325 (by decide) ?_
      have hz2 : (((i : Nat) : Int)) + (1) = ((i + 1 : Nat) : Int) := by omega
      rw [hz2] at hl
      exact ih (i + 1) _ _ _ _ ls (by omega) (by omega) (by omega) hl hC
  have hlo3 : ∀ (m_ i : Nat) (H : Heap) (locs : List Loc) (cells slots : Nat) (ls : Array Slot), ((i + m_ : Nat) : Int) = 25 → cells + 2 * m_ + 18 ≤ 300 → slots + 12 * m_ + 108 ≤ 2500 → lv_has ls 11 [(9, .int (iI (((i : Nat) : Int)))), (0, .ref (ad 0 0)), (1, .ref (ad 50 0)), (2, .ref (ad 51 0)), (3, .ref (ad 52 0)), (4, .ref (ad 53 0)), (5, .ref (ad 54 0)), (6, .ref (ad 55 0)), (7, .ref (ad 56 0)), (8, .int (iI (dy)))] → Cur G b0 (ks, ad, T, P) s H locs → W p l e (headSpec wsL_same (rmX 10 300 2500 171)).room s m [.ref (ad 0 0), .ref (ad 50 0), .ref (ad 51 0), .ref (ad 52 0), .ref (ad 53 0), .ref (ad 54 0), .ref (ad 55 0), .ref (ad 56 0), .int (iI (dy))].toArray below meth c H locs cells slots (vx_MQ below (Qr (pI (fun r => r = 1) (ks, ad, T, P)) G b0) (Xr (noX) G b0) [.ref (ad 0 0), .ref (ad 50 0), .ref (ad 51 0), .ref (ad 52 0), .ref (ad 53 0), .ref (ad 54 0), .ref (ad 55 0), .ref (ad 56 0), .int (iI (dy))].toArray s 300 2500 (Wx b0)) (F0 m 223 ls []) := by
    intro m_
    induction m_ with
    | zero =>
      intro i H locs cells slots ls hn hcl hsl hl hC
      refine y_iload hM hl 0 rfl dL_same_223 ?_
      refine y_bipush hM dL_same_225 (by decide) ?_
      refine y_icmp_ge hM (by constructor <;> omega) (by constructor <;> omega) (tgt := 274) dL_same_227 (by decide) (fun c_227 => ?_) (fun c_227 => False.elim (by omega))
      refine y_iconst hM dL_same_274 ?_
      refine lv_istore (lv' := [(9, .int (iI (0))), (0, .ref (ad 0 0)), (1, .ref (ad 50 0)), (2, .ref (ad 51 0)), (3, .ref (ad 52 0)), (4, .ref (ad 53 0)), (5, .ref (ad 54 0)), (6, .ref (ad 55 0)), (7, .ref (ad 56 0)), (8, .int (iI (dy)))]) hM.1 hM.2.1 dL_same_275 hl (by decide) rfl (fun ls hl => ?_)
      exact hlo4 5 0 _ _ _ _ ls (by omega) (by omega) (by omega) hl hC
    | succ m_ ih =>
      intro i H locs cells slots ls hn hcl hsl hl hC
      obtain ⟨p_, hp_⟩ : ∃ p_ : Nat, p_ = i / 5 := ⟨_, rfl⟩
      obtain ⟨q_, hq_⟩ : ∃ q_ : Nat, q_ = i % 5 := ⟨_, rfl⟩
      have hA := hR.2.2.2.2.1 p_ q_ (by omega) (by omega)
      rw [show 5 * p_ + q_ = i by omega] at hA
      have hB := hR.2.2.2.2.1 q_ p_ (by omega) (by omega)
      refine y_iload hM hl 0 rfl dL_same_223 ?_
      refine y_bipush hM dL_same_225 (by decide) ?_
      refine y_icmp_ge hM (by constructor <;> omega) (by constructor <;> omega) (tgt := 274) dL_same_227 (by decide) (fun c_227 => False.elim (by omega)) (fun c_227 => ?_)
      refine y_aload_n hM hl 1 rfl rfl dL_same_230 ?_
      refine y_iload hM hl 0 rfl dL_same_231 ?_
      refine y_iconst hM dL_same_233 ?_
      refine y_idiv hM ⟨by omega, by omega, by omega, by omega⟩ dL_same_234 ?_
      refine y_iload hM hl 0 rfl dL_same_235 ?_
      refine y_iconst hM dL_same_237 ?_
      refine y_irem hM ⟨by omega, by omega, by omega, by omega⟩ dL_same_238 ?_
      refine y_callV hM hC (c_owes l hfl G b0 ks ad T P ((((i : Nat) : Int)) / (5)) ((((i : Nat) : Int)) % (5)) ⟨by omega, by omega⟩ ⟨by omega, by omega⟩ hF hRK) (cwV 2 hM.2.2.2.2 gL_same_X3_owes rfl rfl rfl (by decide +kernel) ⟨(Nat.le_of_ble_eq_true rfl), (Nat.le_of_ble_eq_true rfl)⟩) (y_recv hC hF.1 rfl rfl) rfl hl.1 rfl (Nat.le_of_ble_eq_true rfl) dL_same_239 ⟨(show _ ≤ 300 by omega), (show _ ≤ 2500 by omega)⟩ (fun E ce q9 u1 H locs hx hC hce hcv hcl => by
          obtain ⟨x, rfl, hx, hu⟩ := hx; rw [hu] at hC; clear hu; try dsimp only at hx
          exact False.elim ((by (try simp only [Int.toNat_natCast] at hx); omega))) (fun v u1 H locs hp hC => ?_)
      obtain ⟨r_239, rfl, h_239, hu⟩ := hp; rw [hu] at hC; clear hu
      try dsimp only at h_239
      refine W.eq (g2 := F0 m 242 ls [.long (lI (r_239))]) rfl ?_
      rw [show ((((i : Nat) : Int)) / (5)).toNat = p_ from by omega, show ((((i : Nat) : Int)) % (5)).toNat = q_ from by omega] at h_239
      obtain ⟨e_239, h_239⟩ := h_239
      subst e_239
      refine y_aload hM hl 7 rfl dL_same_242 ?_
      refine y_iload hM hl 0 rfl dL_same_244 ?_
      refine y_lald hM hC hLK.2.2.2.2.2.1 rfl ⟨by omega, by omega⟩ (by decide) (x := T 9 p_ q_) (by rw [show (((i : Nat) : Int) : Int).toNat = i from by omega]; exact hA) dL_same_246 ?_
      refine y_aload hM hl 7 rfl dL_same_247 ?_
      refine y_iload hM hl 0 rfl dL_same_249 ?_
      refine y_iconst hM dL_same_251 ?_
      refine y_irem hM ⟨by omega, by omega, by omega, by omega⟩ dL_same_252 ?_
      refine y_iconst hM dL_same_253 ?_
      refine y_imul hM dL_same_254 ?_
      refine y_iload hM hl 0 rfl dL_same_255 ?_
      refine y_iconst hM dL_same_257 ?_
      refine y_idiv hM ⟨by omega, by omega, by omega, by omega⟩ dL_same_258 ?_
      refine y_iadd hM dL_same_259 ?_
      refine y_lald hM hC hLK.2.2.2.2.2.1 rfl ⟨by omega, by omega⟩ (by decide) (x := T 9 q_ p_) (by rw [show (((((i : Nat) : Int)) % (5)) * (5) + ((((i : Nat) : Int)) / (5))).toNat = 5 * q_ + p_ from by omega]; exact hB) dL_same_260 ?_
      refine y_lsub hM dL_same_261 ?_
      refine y_lcmpE hM dL_same_262 ?_
      refine y_if_eq hM (by constructor <;> omega) (tgt := 268) dL_same_263 (by decide) (fun c_263 => ?_) (fun c_263 => False.elim (by omega))
      refine lv_iinc (v := iI ((((i : Nat) : Int)) + (1))) (lv' := [(9, .int (iI ((((i : Nat) : Int)) + (1)))), (0, .ref (ad 0 0)), (1, .ref (ad 50 0)), (2, .ref (ad 51 0)), (3, .ref (ad 52 0)), (4, .ref (ad 53 0)), (5, .ref (ad 54 0)), (6, .ref (ad 55 0)), (7, .ref (ad 56 0)), (8, .int (iI (dy)))]) hM.1 hM.2.1 dL_same_268 hl (k := 0) rfl (iI_add _ _) (by decide) rfl (fun ls hl => ?_)
      refine lv_goto (tgt := 223) hM.1 hM.2.1 dL_same_271 (by decide) ?_
      have hz2 : (((i : Nat) : Int)) + (1) = ((i + 1 : Nat) : Int) := by omega
      rw [hz2] at hl
      exact ih (i + 1) _ _ _ _ ls (by omega) (by omega) (by omega) hl hC
  have hlo2 : ∀ (m_ i : Nat) (H : Heap) (locs : List Loc) (cells slots : Nat) (ls : Array Slot), ((i + m_ : Nat) : Int) = T 0 0 8 → cells + 6 * m_ + 68 ≤ 300 → slots + 36 * m_ + 408 ≤ 2500 → lv_has ls 11 [(9, .int (iI (((i : Nat) : Int)))), (0, .ref (ad 0 0)), (1, .ref (ad 50 0)), (2, .ref (ad 51 0)), (3, .ref (ad 52 0)), (4, .ref (ad 53 0)), (5, .ref (ad 54 0)), (6, .ref (ad 55 0)), (7, .ref (ad 56 0)), (8, .int (iI (dy)))] → Cur G b0 (ks, ad, T, P) s H locs → W p l e (headSpec wsL_same (rmX 10 300 2500 171)).room s m [.ref (ad 0 0), .ref (ad 50 0), .ref (ad 51 0), .ref (ad 52 0), .ref (ad 53 0), .ref (ad 54 0), .ref (ad 55 0), .ref (ad 56 0), .int (iI (dy))].toArray below meth c H locs cells slots (vx_MQ below (Qr (pI (fun r => r = 1) (ks, ad, T, P)) G b0) (Xr (noX) G b0) [.ref (ad 0 0), .ref (ad 50 0), .ref (ad 51 0), .ref (ad 52 0), .ref (ad 53 0), .ref (ad 54 0), .ref (ad 55 0), .ref (ad 56 0), .int (iI (dy))].toArray s 300 2500 (Wx b0)) (F0 m 52 ls []) := by
    intro m_
    induction m_ with
    | zero =>
      intro i H locs cells slots ls hn hcl hsl hl hC
      refine y_iload hM hl 0 rfl dL_same_52 ?_
      refine y_aload hM hl 8 rfl dL_same_54 ?_
      refine y_iconst hM dL_same_56 ?_
      refine y_iald hM hC hLK.2.2.2.2.2.2 rfl ⟨by omega, by omega⟩ (by decide) (x := T 0 0 8) (by rw [show ((2 : Int)).toNat = 2 from rfl, hg2]) dL_same_57 ?_
      refine y_icmp_ge hM (by constructor <;> omega) (by constructor <;> omega) (tgt := 220) dL_same_58 (by decide) (fun c_58 => ?_) (fun c_58 => False.elim (by omega))
      refine y_iconst hM dL_same_220 ?_
      refine lv_istore (lv' := [(9, .int (iI (0))), (0, .ref (ad 0 0)), (1, .ref (ad 50 0)), (2, .ref (ad 51 0)), (3, .ref (ad 52 0)), (4, .ref (ad 53 0)), (5, .ref (ad 54 0)), (6, .ref (ad 55 0)), (7, .ref (ad 56 0)), (8, .int (iI (dy)))]) hM.1 hM.2.1 dL_same_221 hl (by decide) rfl (fun ls hl => ?_)
      exact hlo3 25 0 _ _ _ _ ls (by omega) (by omega) (by omega) hl hC
    | succ m_ ih =>
      intro i H locs cells slots ls hn hcl hsl hl hC
      have hk8 : (i : Int) < T 0 0 8 := by omega
      have ho := hR.2.2.2.1.1 i hk8
      have hon := hON i hk8
      have h78 := ho.2.2.2.2.2.1
      have hdu : 0 ≤ dueT T i ∧ dueT T i ≤ 3000 := by unfold dueT; split <;> omega
      refine y_iload hM hl 0 rfl dL_same_52 ?_
      refine y_aload hM hl 8 rfl dL_same_54 ?_
      refine y_iconst hM dL_same_56 ?_
      refine y_iald hM hC hLK.2.2.2.2.2.2 rfl ⟨by omega, by omega⟩ (by decide) (x := T 0 0 8) (by rw [show ((2 : Int)).toNat = 2 from rfl, hg2]) dL_same_57 ?_
      refine y_icmp_ge hM (by constructor <;> omega) (by constructor <;> omega) (tgt := 220) dL_same_58 (by decide) (fun c_58 => False.elim (by omega)) (fun c_58 => ?_)
      refine y_aload hM hl 5 rfl dL_same_61 ?_
      refine y_bipush hM dL_same_63 (by decide) ?_
      refine y_iload hM hl 0 rfl dL_same_65 ?_
      refine y_imul hM dL_same_67 ?_
      refine y_bipush hM dL_same_68 (by decide) ?_
      refine y_iadd hM dL_same_70 ?_
      refine y_iald hM hC hLK.2.2.2.1 rfl ⟨by omega, by omega⟩ (by decide) (x := T 53 0 (9 * i + 7)) (by rw [show (((9) * (((i : Nat) : Int))) + (7) : Int).toNat = 9 * i + 7 from by omega]) dL_same_71 ?_
      refine y_aload hM hl 5 rfl dL_same_72 ?_
      refine y_bipush hM dL_same_74 (by decide) ?_
      refine y_iload hM hl 0 rfl dL_same_76 ?_
      refine y_imul hM dL_same_78 ?_
      refine y_bipush hM dL_same_79 (by decide) ?_
      refine y_iadd hM dL_same_81 ?_
      refine y_iald hM hC hLK.2.2.2.1 rfl ⟨by omega, by omega⟩ (by decide) (x := T 53 0 (9 * i + 8)) (by rw [show (((9) * (((i : Nat) : Int))) + (8) : Int).toNat = 9 * i + 8 from by omega]) dL_same_82 ?_
      refine y_iadd hM dL_same_83 ?_
      rw [show (T 53 0 (9 * i + 7)) + (T 53 0 (9 * i + 8)) = T 11 i 5 from (by omega)]
      refine y_aload hM hl 6 rfl dL_same_84 ?_
      refine y_iconst hM dL_same_86 ?_
      refine y_iload hM hl 0 rfl dL_same_87 ?_
      refine y_imul hM dL_same_89 ?_
      refine y_iconst hM dL_same_90 ?_
      refine y_iadd hM dL_same_91 ?_
      refine y_lald hM hC hLK.2.2.2.2.1 rfl ⟨by omega, by omega⟩ (by decide) (x := T 11 i 6) (by rw [show (((4) * (((i : Nat) : Int))) + (3) : Int).toNat = 4 * i + 3 from by omega, ho.2.2.2.2.2.2.2.2.2.2.2.2.2.1]) dL_same_92 ?_
      refine y_l2i hM dL_same_93 ?_
      refine y_iadd hM dL_same_94 ?_
      refine lv_istore (lv' := [(10, .int (iI ((T 11 i 5) + (T 11 i 6)))), (9, .int (iI (((i : Nat) : Int)))), (0, .ref (ad 0 0)), (1, .ref (ad 50 0)), (2, .ref (ad 51 0)), (3, .ref (ad 52 0)), (4, .ref (ad 53 0)), (5, .ref (ad 54 0)), (6, .ref (ad 55 0)), (7, .ref (ad 56 0)), (8, .int (iI (dy)))]) hM.1 hM.2.1 dL_same_95 hl (by decide) rfl (fun ls hl => ?_)
      refine y_aload_n hM hl 2 rfl rfl dL_same_97 ?_
      refine y_iload hM hl 1 rfl dL_same_98 ?_
      refine y_callV hM hC (c_stage l hfl G b0 ks ad T P (((i : Nat) : Int)) ⟨by omega, by omega⟩ hF hOK hON) (cwV 1 hM.2.2.2.2 gL_same_X3_stage rfl rfl rfl (by decide +kernel) ⟨(Nat.le_of_ble_eq_true rfl), (Nat.le_of_ble_eq_true rfl)⟩) (y_recv hC hF.1 rfl rfl) rfl hl.1 rfl (Nat.le_of_ble_eq_true rfl) dL_same_100 ⟨(show _ ≤ 300 by omega), (show _ ≤ 2500 by omega)⟩ (fun E ce q9 u1 H locs hx hC hce hcv hcl => by
          obtain ⟨x, rfl, hx, hu⟩ := hx; rw [hu] at hC; clear hu; try dsimp only at hx
          exact False.elim ((by (try simp only [Int.toNat_natCast] at hx); omega))) (fun v u1 H locs hp hC => ?_)
      obtain ⟨r_100, rfl, h_100, hu⟩ := hp; rw [hu] at hC; clear hu
      try dsimp only at h_100
      refine W.eq (g2 := F0 m 103 ls [.int (iI (r_100))]) rfl ?_
      simp only [Int.toNat_natCast] at h_100
      obtain ⟨e_100, h_100⟩ := h_100
      subst e_100
      refine y_aload hM hl 6 rfl dL_same_103 ?_
      refine y_bipush hM dL_same_105 (by decide) ?_
      refine y_iload hM hl 1 rfl dL_same_107 ?_
      refine y_imul hM dL_same_109 ?_
      refine y_iconst hM dL_same_110 ?_
      refine y_iadd hM dL_same_111 ?_
      refine y_iald hM hC hLK.2.2.2.1 rfl ⟨by omega, by omega⟩ (by decide) (x := T 11 i 3) (by rw [show (((9) * (((i : Nat) : Int))) + (3) : Int).toNat = 9 * i + 3 from by omega, ho.2.2.2.1]) dL_same_112 ?_
      refine y_icmp_ne hM (by constructor <;> omega) (by constructor <;> omega) (tgt := 165) dL_same_113 (by decide) (fun c_113 => False.elim (by omega)) (fun c_113 => ?_)
      refine y_aload_n hM hl 2 rfl rfl dL_same_116 ?_
      refine y_iload hM hl 1 rfl dL_same_117 ?_
      refine y_callV hM hC (c_late l hfl G b0 ks ad T P (((i : Nat) : Int)) ⟨by omega, by omega⟩ hF hOK hON) (cwV 1 hM.2.2.2.2 gL_same_X3_late rfl rfl rfl (by decide +kernel) ⟨(Nat.le_of_ble_eq_true rfl), (Nat.le_of_ble_eq_true rfl)⟩) (y_recv hC hF.1 rfl rfl) rfl hl.1 rfl (Nat.le_of_ble_eq_true rfl) dL_same_119 ⟨(show _ ≤ 300 by omega), (show _ ≤ 2500 by omega)⟩ (fun E ce q9 u1 H locs hx hC hce hcv hcl => by
          obtain ⟨x, rfl, hx, hu⟩ := hx; rw [hu] at hC; clear hu; try dsimp only at hx
          exact False.elim ((by (try simp only [Int.toNat_natCast] at hx); omega))) (fun v u1 H locs hp hC => ?_)
      obtain ⟨r_119, rfl, h_119, hu⟩ := hp; rw [hu] at hC; clear hu
      try dsimp only at h_119
      refine W.eq (g2 := F0 m 122 ls [.int (iI (r_119))]) rfl ?_
      simp only [Int.toNat_natCast] at h_119
      obtain ⟨e_119, h_119⟩ := h_119
      subst e_119
      refine y_iload hM hl 0 rfl dL_same_122 ?_
      refine y_icmp_ne hM (by constructor <;> omega) (by constructor <;> omega) (tgt := 165) dL_same_124 (by decide) (fun c_124 => False.elim (by omega)) (fun c_124 => ?_)
      refine y_aload_n hM hl 2 rfl rfl dL_same_127 ?_
      refine y_iload hM hl 1 rfl dL_same_128 ?_
      refine y_callV hM hC (c_money l hfl G b0 ks ad T P (((i : Nat) : Int)) ⟨by omega, by omega⟩ hF hOK hON) (cwV 1 hM.2.2.2.2 gL_same_X3_money rfl rfl rfl (by decide +kernel) ⟨(Nat.le_of_ble_eq_true rfl), (Nat.le_of_ble_eq_true rfl)⟩) (y_recv hC hF.1 rfl rfl) rfl hl.1 rfl (Nat.le_of_ble_eq_true rfl) dL_same_130 ⟨(show _ ≤ 300 by omega), (show _ ≤ 2500 by omega)⟩ (fun E ce q9 u1 H locs hx hC hce hcv hcl => by
          obtain ⟨x, rfl, hx, hu⟩ := hx; rw [hu] at hC; clear hu; try dsimp only at hx
          exact False.elim ((by (try simp only [Int.toNat_natCast] at hx); omega))) (fun v u1 H locs hp hC => ?_)
      obtain ⟨r_130, rfl, h_130, hu⟩ := hp; rw [hu] at hC; clear hu
      try dsimp only at h_130
      refine W.eq (g2 := F0 m 133 ls [.long (lI (r_130))]) rfl ?_
      simp only [Int.toNat_natCast] at h_130
      obtain ⟨e_130, h_130⟩ := h_130
      subst e_130
      refine y_aload hM hl 7 rfl dL_same_133 ?_
      refine y_iconst hM dL_same_135 ?_
      refine y_iload hM hl 1 rfl dL_same_136 ?_
      refine y_imul hM dL_same_138 ?_
      refine y_iconst hM dL_same_139 ?_
      refine y_iadd hM dL_same_140 ?_
      refine y_lald hM hC hLK.2.2.2.2.1 rfl ⟨by omega, by omega⟩ (by decide) (x := T 11 i 8) (by rw [show (((4) * (((i : Nat) : Int))) + (1) : Int).toNat = 4 * i + 1 from by omega, ho.2.2.2.2.2.2.2.2.2.2.2.1]) dL_same_141 ?_
      refine y_lcmpE hM dL_same_142 ?_
      refine y_if_ne hM (by constructor <;> omega) (tgt := 165) dL_same_143 (by decide) (fun c_143 => False.elim (by omega)) (fun c_143 => ?_)
      refine y_aload_n hM hl 2 rfl rfl dL_same_146 ?_
      refine y_iload hM hl 1 rfl dL_same_147 ?_
      refine y_callV hM hC (c_madeGood l hfl G b0 ks ad T P (((i : Nat) : Int)) ⟨by omega, by omega⟩ hF hOK hON) (cwV 1 hM.2.2.2.2 gL_same_X3_madeGood rfl rfl rfl (by decide +kernel) ⟨(Nat.le_of_ble_eq_true rfl), (Nat.le_of_ble_eq_true rfl)⟩) (y_recv hC hF.1 rfl rfl) rfl hl.1 rfl (Nat.le_of_ble_eq_true rfl) dL_same_149 ⟨(show _ ≤ 300 by omega), (show _ ≤ 2500 by omega)⟩ (fun E ce q9 u1 H locs hx hC hce hcv hcl => by
          obtain ⟨x, rfl, hx, hu⟩ := hx; rw [hu] at hC; clear hu; try dsimp only at hx
          exact False.elim ((by (try simp only [Int.toNat_natCast] at hx); omega))) (fun v u1 H locs hp hC => ?_)
      obtain ⟨r_149, rfl, h_149, hu⟩ := hp; rw [hu] at hC; clear hu
      try dsimp only at h_149
      refine W.eq (g2 := F0 m 152 ls [.long (lI (r_149))]) rfl ?_
      simp only [Int.toNat_natCast] at h_149
      obtain ⟨e_149, h_149⟩ := h_149
      subst e_149
      refine y_aload hM hl 7 rfl dL_same_152 ?_
      refine y_iconst hM dL_same_154 ?_
      refine y_iload hM hl 1 rfl dL_same_155 ?_
      refine y_imul hM dL_same_157 ?_
      refine y_iconst hM dL_same_158 ?_
      refine y_iadd hM dL_same_159 ?_
      refine y_lald hM hC hLK.2.2.2.2.1 rfl ⟨by omega, by omega⟩ (by decide) (x := T 11 i 9) (by rw [show (((4) * (((i : Nat) : Int))) + (2) : Int).toNat = 4 * i + 2 from by omega, ho.2.2.2.2.2.2.2.2.2.2.2.2.1]) dL_same_160 ?_
      refine y_lcmpE hM dL_same_161 ?_
      refine y_if_eq hM (by constructor <;> omega) (tgt := 167) dL_same_162 (by decide) (fun c_162 => ?_) (fun c_162 => False.elim (by omega))
      refine y_aload hM hl 6 rfl dL_same_167 ?_
      refine y_bipush hM dL_same_169 (by decide) ?_
      refine y_iload hM hl 1 rfl dL_same_171 ?_
      refine y_imul hM dL_same_173 ?_
      refine y_iconst hM dL_same_174 ?_
      refine y_iadd hM dL_same_175 ?_
      refine y_iald hM hC hLK.2.2.2.1 rfl ⟨by omega, by omega⟩ (by decide) (x := T 11 i 3) (by rw [show (((9) * (((i : Nat) : Int))) + (3) : Int).toNat = 9 * i + 3 from by omega, ho.2.2.2.1]) dL_same_176 ?_
      refine y_iconst hM dL_same_177 ?_
      refine y_icmp_ne hM (by constructor <;> omega) (by constructor <;> omega) (tgt := 196) dL_same_178 (by decide) (fun c_178 => ?_) (fun c_178 => ?_)
      ·
        refine y_aload_n hM hl 2 rfl rfl dL_same_196 ?_
        refine y_iload hM hl 1 rfl dL_same_197 ?_
        refine y_callV hM hC (c_due l hfl G b0 ks ad T P (((i : Nat) : Int)) ⟨by omega, by omega⟩ hF hOK hON) (cwV 1 hM.2.2.2.2 gL_same_X3_due rfl rfl rfl (by decide +kernel) ⟨(Nat.le_of_ble_eq_true rfl), (Nat.le_of_ble_eq_true rfl)⟩) (y_recv hC hF.1 rfl rfl) rfl hl.1 rfl (Nat.le_of_ble_eq_true rfl) dL_same_199 ⟨(show _ ≤ 300 by omega), (show _ ≤ 2500 by omega)⟩ (fun E ce q9 u1 H locs hx hC hce hcv hcl => by
            obtain ⟨x, rfl, hx, hu⟩ := hx; rw [hu] at hC; clear hu; try dsimp only at hx
            exact False.elim ((by (try simp only [Int.toNat_natCast] at hx); omega))) (fun v u1 H locs hp hC => ?_)
        obtain ⟨r_199, rfl, h_199, hu⟩ := hp; rw [hu] at hC; clear hu
        try dsimp only at h_199
        refine W.eq (g2 := F0 m 202 ls [.int (iI (r_199))]) rfl ?_
        simp only [Int.toNat_natCast] at h_199
        obtain ⟨e_199, h_199⟩ := h_199
        subst e_199
        refine y_aload hM hl 6 rfl dL_same_202 ?_
        refine y_iload hM hl 1 rfl dL_same_204 ?_
        refine y_callS hM hC (c_L_due l hfl G b0 ks ad T P i (by omega) hLK.2.2.2.1 ho ⟨by omega, by omega⟩) (va_cwS 2 hM.2.2.2.2 gL_same_L_due rfl rfl rfl (by decide +kernel) ⟨(Nat.le_of_ble_eq_true rfl), (Nat.le_of_ble_eq_true rfl)⟩) rfl hl.1 rfl (Nat.le_of_ble_eq_true rfl) dL_same_206 ⟨(show _ ≤ 300 by omega), (show _ ≤ 2500 by omega)⟩ (fun E ce q9 u1 H locs hx hC hce hcv hcl => hx.elim) (fun v u1 H locs hp hC => ?_)
        obtain ⟨r_206, rfl, h_206, hu⟩ := hp; rw [hu] at hC; clear hu
        try dsimp only at h_206
        refine W.eq (g2 := F0 m 209 ls [.int (iI (r_206)), .int (iI (dueT T i))]) rfl ?_
        refine y_icmp_eq hM (by constructor <;> omega) (by constructor <;> omega) (tgt := 214) dL_same_209 (by decide) (fun c_209 => ?_) (fun c_209 => False.elim (by omega))
        refine lv_iinc (v := iI ((((i : Nat) : Int)) + (1))) (lv' := [(9, .int (iI ((((i : Nat) : Int)) + (1)))), (10, .int (iI ((T 11 i 5) + (T 11 i 6)))), (0, .ref (ad 0 0)), (1, .ref (ad 50 0)), (2, .ref (ad 51 0)), (3, .ref (ad 52 0)), (4, .ref (ad 53 0)), (5, .ref (ad 54 0)), (6, .ref (ad 55 0)), (7, .ref (ad 56 0)), (8, .int (iI (dy)))]) hM.1 hM.2.1 dL_same_214 hl (k := 1) rfl (iI_add _ _) (by decide) rfl (fun ls hl => ?_)
        refine lv_goto (tgt := 52) hM.1 hM.2.1 dL_same_217 (by decide) ?_
        have hz2 : (((i : Nat) : Int)) + (1) = ((i + 1 : Nat) : Int) := by omega
        rw [hz2] at hl
        have hl := lv_drop1 hl
        exact ih (i + 1) _ _ _ _ ls (by omega) (by omega) (by omega) hl hC
      ·
        refine y_aload_n hM hl 2 rfl rfl dL_same_181 ?_
        refine y_iconst hM dL_same_182 ?_
        refine y_iload hM hl 1 rfl dL_same_183 ?_
        refine y_iconst hM dL_same_185 ?_
        refine y_callSX hM hN hC (c_ref_due l hfl G b0 ks ad T P (((i : Nat) : Int)) (0) ⟨by omega, by omega⟩ ⟨by omega, by omega⟩ hF hRK hRN hDN hSK hSN hOK hON (by rw [Int.toNat_natCast]; omega)) (vx_cwSW 4 hM.2.2.2.2 gL_same_L_refused rfl rfl rfl (by decide +kernel) ⟨(Nat.le_of_ble_eq_true rfl), (Nat.le_of_ble_eq_true rfl)⟩) rfl hl.1 rfl (Nat.le_of_ble_eq_true rfl) dL_same_186 ⟨(show _ ≤ 300 by omega), (show _ ≤ 2500 by omega)⟩ (fun E ce q9 u1 H locs hx hC hce hcv hcl => hx.elim) (fun v u1 H locs hp hC => ?_)
        obtain ⟨r_186, rfl, h_186, hu⟩ := hp; rw [hu] at hC; clear hu
        try dsimp only at h_186
        refine W.eq (g2 := F0 m 189 ls [.int (iI (r_186))]) rfl ?_
        refine y_iconst hM dL_same_189 ?_
        refine y_icmp_eq hM (by constructor <;> omega) (by constructor <;> omega) (tgt := 214) dL_same_190 (by decide) (fun c_190 => ?_) (fun c_190 => False.elim (by omega))
        refine lv_iinc (v := iI ((((i : Nat) : Int)) + (1))) (lv' := [(9, .int (iI ((((i : Nat) : Int)) + (1)))), (10, .int (iI ((T 11 i 5) + (T 11 i 6)))), (0, .ref (ad 0 0)), (1, .ref (ad 50 0)), (2, .ref (ad 51 0)), (3, .ref (ad 52 0)), (4, .ref (ad 53 0)), (5, .ref (ad 54 0)), (6, .ref (ad 55 0)), (7, .ref (ad 56 0)), (8, .int (iI (dy)))]) hM.1 hM.2.1 dL_same_214 hl (k := 1) rfl (iI_add _ _) (by decide) rfl (fun ls hl => ?_)
        refine lv_goto (tgt := 52) hM.1 hM.2.1 dL_same_217 (by decide) ?_
        have hz2 : (((i : Nat) : Int)) + (1) = ((i + 1 : Nat) : Int) := by omega
        rw [hz2] at hl
        have hl := lv_drop1 hl
        exact ih (i + 1) _ _ _ _ ls (by omega) (by omega) (by omega) hl hC
  have hlo1 : ∀ (m_ i : Nat) (H : Heap) (locs : List Loc) (cells slots : Nat) (ls : Array Slot), ((i + m_ : Nat) : Int) = T 0 0 7 → cells + 2 * m_ + 110 ≤ 300 → slots + 12 * m_ + 660 ≤ 2500 → lv_has ls 11 [(9, .int (iI (((i : Nat) : Int)))), (0, .ref (ad 0 0)), (1, .ref (ad 50 0)), (2, .ref (ad 51 0)), (3, .ref (ad 52 0)), (4, .ref (ad 53 0)), (5, .ref (ad 54 0)), (6, .ref (ad 55 0)), (7, .ref (ad 56 0)), (8, .int (iI (dy)))] → Cur G b0 (ks, ad, T, P) s H locs → W p l e (headSpec wsL_same (rmX 10 300 2500 171)).room s m [.ref (ad 0 0), .ref (ad 50 0), .ref (ad 51 0), .ref (ad 52 0), .ref (ad 53 0), .ref (ad 54 0), .ref (ad 55 0), .ref (ad 56 0), .int (iI (dy))].toArray below meth c H locs cells slots (vx_MQ below (Qr (pI (fun r => r = 1) (ks, ad, T, P)) G b0) (Xr (noX) G b0) [.ref (ad 0 0), .ref (ad 50 0), .ref (ad 51 0), .ref (ad 52 0), .ref (ad 53 0), .ref (ad 54 0), .ref (ad 55 0), .ref (ad 56 0), .int (iI (dy))].toArray s 300 2500 (Wx b0)) (F0 m 3 ls []) := by
    intro m_
    induction m_ with
    | zero =>
      intro i H locs cells slots ls hn hcl hsl hl hC
      refine y_iload hM hl 0 rfl dL_same_3 ?_
      refine y_aload hM hl 8 rfl dL_same_5 ?_
      refine y_iconst hM dL_same_7 ?_
      refine y_iald hM hC hLK.2.2.2.2.2.2 rfl ⟨by omega, by omega⟩ (by decide) (x := T 0 0 7) (by rw [show ((1 : Int)).toNat = 1 from rfl, hg1]) dL_same_8 ?_
      refine y_icmp_ge hM (by constructor <;> omega) (by constructor <;> omega) (tgt := 49) dL_same_9 (by decide) (fun c_9 => ?_) (fun c_9 => False.elim (by omega))
      refine y_iconst hM dL_same_49 ?_
      refine lv_istore (lv' := [(9, .int (iI (0))), (0, .ref (ad 0 0)), (1, .ref (ad 50 0)), (2, .ref (ad 51 0)), (3, .ref (ad 52 0)), (4, .ref (ad 53 0)), (5, .ref (ad 54 0)), (6, .ref (ad 55 0)), (7, .ref (ad 56 0)), (8, .int (iI (dy)))]) hM.1 hM.2.1 dL_same_50 hl (by decide) rfl (fun ls hl => ?_)
      exact hlo2 (T 0 0 8).toNat 0 _ _ _ _ ls (by omega) (by omega) (by omega) hl hC
    | succ m_ ih =>
      intro i H locs cells slots ls hn hcl hsl hl hC
      have hk7 : (i : Int) < T 0 0 7 := by omega
      have hsv := hR.2.2.1.1 i hk7
      have hsn := hSN i hk7
      refine y_iload hM hl 0 rfl dL_same_3 ?_
      refine y_aload hM hl 8 rfl dL_same_5 ?_
      refine y_iconst hM dL_same_7 ?_
      refine y_iald hM hC hLK.2.2.2.2.2.2 rfl ⟨by omega, by omega⟩ (by decide) (x := T 0 0 7) (by rw [show ((1 : Int)).toNat = 1 from rfl, hg1]) dL_same_8 ?_
      refine y_icmp_ge hM (by constructor <;> omega) (by constructor <;> omega) (tgt := 49) dL_same_9 (by decide) (fun c_9 => False.elim (by omega)) (fun c_9 => ?_)
      refine y_aload_n hM hl 1 rfl rfl dL_same_12 ?_
      refine y_iload hM hl 0 rfl dL_same_13 ?_
      refine y_callV hM hC (c_provider l hfl G b0 ks ad T P (((i : Nat) : Int)) ⟨by omega, by omega⟩ hF hSK hSN) (cwV 1 hM.2.2.2.2 gL_same_X3_provider rfl rfl rfl (by decide +kernel) ⟨(Nat.le_of_ble_eq_true rfl), (Nat.le_of_ble_eq_true rfl)⟩) (y_recv hC hF.1 rfl rfl) rfl hl.1 rfl (Nat.le_of_ble_eq_true rfl) dL_same_15 ⟨(show _ ≤ 300 by omega), (show _ ≤ 2500 by omega)⟩ (fun E ce q9 u1 H locs hx hC hce hcv hcl => by
          obtain ⟨x, rfl, hx, hu⟩ := hx; rw [hu] at hC; clear hu; try dsimp only at hx
          exact False.elim ((by (try simp only [Int.toNat_natCast] at hx); omega))) (fun v u1 H locs hp hC => ?_)
      obtain ⟨r_15, rfl, h_15, hu⟩ := hp; rw [hu] at hC; clear hu
      try dsimp only at h_15
      refine W.eq (g2 := F0 m 18 ls [.int (iI (r_15))]) rfl ?_
      simp only [Int.toNat_natCast] at h_15
      obtain ⟨e_15, h_15⟩ := h_15
      subst e_15
      refine y_aload_n hM hl 3 rfl rfl dL_same_18 ?_
      refine y_iconst hM dL_same_19 ?_
      refine y_iload hM hl 0 rfl dL_same_20 ?_
      refine y_imul hM dL_same_22 ?_
      refine y_iald hM hC hLK.2.1 rfl ⟨by omega, by omega⟩ (by decide) (x := T 10 i 0) (by rw [show ((2) * (((i : Nat) : Int)) : Int).toNat = 2 * i from by omega, hsv.1]) dL_same_23 ?_
      refine y_icmp_ne hM (by constructor <;> omega) (by constructor <;> omega) (tgt := 41) dL_same_24 (by decide) (fun c_24 => False.elim (by omega)) (fun c_24 => ?_)
      refine y_aload_n hM hl 1 rfl rfl dL_same_27 ?_
      refine y_iload hM hl 0 rfl dL_same_28 ?_
      refine y_callV hM hC (c_units l hfl G b0 ks ad T P (((i : Nat) : Int)) ⟨by omega, by omega⟩ hF hSK hSN) (cwV 1 hM.2.2.2.2 gL_same_X3_units rfl rfl rfl (by decide +kernel) ⟨(Nat.le_of_ble_eq_true rfl), (Nat.le_of_ble_eq_true rfl)⟩) (y_recv hC hF.1 rfl rfl) rfl hl.1 rfl (Nat.le_of_ble_eq_true rfl) dL_same_30 ⟨(show _ ≤ 300 by omega), (show _ ≤ 2500 by omega)⟩ (fun E ce q9 u1 H locs hx hC hce hcv hcl => by
          obtain ⟨x, rfl, hx, hu⟩ := hx; rw [hu] at hC; clear hu; try dsimp only at hx
          exact False.elim ((by (try simp only [Int.toNat_natCast] at hx); omega))) (fun v u1 H locs hp hC => ?_)
      obtain ⟨r_30, rfl, h_30, hu⟩ := hp; rw [hu] at hC; clear hu
      try dsimp only at h_30
      refine W.eq (g2 := F0 m 33 ls [.long (lI (r_30))]) rfl ?_
      simp only [Int.toNat_natCast] at h_30
      obtain ⟨e_30, h_30⟩ := h_30
      subst e_30
      refine y_aload_n hM hl 4 rfl rfl dL_same_33 ?_
      refine y_iload hM hl 0 rfl dL_same_34 ?_
      refine y_lald hM hC hLK.2.2.1 rfl ⟨by omega, by omega⟩ (by decide) (x := T 10 i 1) (by rw [show (((i : Nat) : Int) : Int).toNat = i from by omega, hsv.2.2]) dL_same_36 ?_
      refine y_lcmpE hM dL_same_37 ?_
      refine y_if_eq hM (by constructor <;> omega) (tgt := 43) dL_same_38 (by decide) (fun c_38 => ?_) (fun c_38 => False.elim (by omega))
      refine lv_iinc (v := iI ((((i : Nat) : Int)) + (1))) (lv' := [(9, .int (iI ((((i : Nat) : Int)) + (1)))), (0, .ref (ad 0 0)), (1, .ref (ad 50 0)), (2, .ref (ad 51 0)), (3, .ref (ad 52 0)), (4, .ref (ad 53 0)), (5, .ref (ad 54 0)), (6, .ref (ad 55 0)), (7, .ref (ad 56 0)), (8, .int (iI (dy)))]) hM.1 hM.2.1 dL_same_43 hl (k := 0) rfl (iI_add _ _) (by decide) rfl (fun ls hl => ?_)
      refine lv_goto (tgt := 3) hM.1 hM.2.1 dL_same_46 (by decide) ?_
      have hz2 : (((i : Nat) : Int)) + (1) = ((i + 1 : Nat) : Int) := by omega
      rw [hz2] at hl
      exact ih (i + 1) _ _ _ _ ls (by omega) (by omega) (by omega) hl hC
  refine y_iconst hM dL_same_0 ?_
  refine lv_istore (lv' := [(9, .int (iI (0))), (0, .ref (ad 0 0)), (1, .ref (ad 50 0)), (2, .ref (ad 51 0)), (3, .ref (ad 52 0)), (4, .ref (ad 53 0)), (5, .ref (ad 54 0)), (6, .ref (ad 55 0)), (7, .ref (ad 56 0)), (8, .int (iI (dy)))]) hM.1 hM.2.1 dL_same_1 hl (by decide) rfl (fun ls hl => ?_)
  exact hlo1 (T 0 0 7).toNat 0 _ _ _ _ ls (by omega) (by omega) (by omega) hl hC
