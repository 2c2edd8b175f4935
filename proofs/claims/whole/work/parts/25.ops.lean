/-! begin -/
theorem MI_new {ks : KK} {ad : AD} {P : PP} {t i q : Nat} (ht : t < 12) (h : MI ks ad P) : MI (ks ++ [(t, i)]) (upA ad t i q) (zrP P t i) := by
  refine ⟨List.mem_append_left _ h.1, fun k hk => ?_⟩
  obtain ⟨h1, h2⟩ := h.2 k hk
  refine ⟨List.mem_append_left _ h1, ?_⟩
  rw [zrP_ne (fun w => by have := w.1; omega), upA_ne (fun w => by have := w.1; omega)]
  exact h2
theorem MI_P {ks : KK} {ad : AD} {P : PP} {t i j : Nat} {v : Option Nat} (ht : t < 12) (h : MI ks ad P) : MI ks ad (upP P t i j v) := by
  refine ⟨h.1, fun k hk => ?_⟩
  rw [upP_ne (fun w => by have := w.1; omega)]
  exact h.2 k hk
theorem FI_P {ks : KK} {ad : AD} {P : PP} {t i j : Nat} {v : Option Nat} (ht : 0 < t) (h : FI ks ad P) : FI ks ad (upP P t i j v) := by
  unfold FI at h ⊢
  rw [upP_ne (fun w => by have := w.1; omega)]
  exact h
theorem RK_P {ks : KK} {ad : AD} {P : PP} {t i j : Nat} {v : Option Nat} (ht : t ≠ 1 ∧ t ≠ 2 ∧ t ≠ 6) (h : RK ks ad P) : RK ks ad (upP P t i j v) := by
  intro p hp
  rw [upP_ne (fun w => ht.1 w.1.symm), upP_ne (fun w => ht.2.1 w.1.symm), upP_ne (fun w => ht.2.2 w.1.symm)]
  exact h p hp
abbrev NS (T : TT) : Nat := (T 0 0 7).toNat
abbrev NO (T : TT) : Nat := (T 0 0 8).toNat
theorem begT_ne {T : TT} {z w : Int} {a b : Nat} (h : ¬ (a = 10 ∧ b = NS T)) (h0 : ¬ (a = 0 ∧ b = 0)) : begT T z w a b = T a b := by
  unfold begT
  rw [up_ne h0, up_ne h, up_ne h, up_ne h, zrT_ne h]
theorem begT_0 {T : TT} {z w : Int} {j : Nat} : begT T z w 0 0 j = if j = 7 then T 0 0 7 + 1 else T 0 0 j := by
  unfold begT
  by_cases e : j = 7
  · rw [if_pos e, up_at e]
  · rw [if_neg e, up_of (by omega), up_of (by omega), up_of (by omega), up_of (by omega), zrT_ne (by omega)]
theorem begT_hi {T : TT} {z w : Int} : HiE (begT T z w) T := by
  unfold begT
  exact ((((HiE.r.lz (by decide)).lo (by decide)).lo (by decide)).lo (by decide)).lo (by decide)
def Wbeg (ks : KK) (ad : AD) (T : TT) (P : PP) (z w k : Int) (u1 : St) : Prop := (k = 1 ∧ (z < 0 ∨ 5 ≤ z ∨ w < 0 ∨ 1000000 < w) ∧ u1 = (ks, ad, T, P)) ∨ (k = 2 ∧ (0 ≤ z ∧ z < 5 ∧ 0 ≤ w ∧ w ≤ 1000000 ∧ 10 ≤ T 0 0 7) ∧ u1 = (ks, ad, T, P)) ∨ (k = 0 ∧ (0 ≤ z ∧ z < 5 ∧ 0 ≤ w ∧ w ≤ 1000000 ∧ T 0 0 7 < 10) ∧ ∃ q : Nat, u1 = (ks ++ [(10, NS T)], upA ad 10 (NS T) q, up (begT T z w) 43 0 0 (T 0 0 7), upP (zrP P 10 (NS T)) 4 0 (NS T) (some q)))
/-- what stays in reach when the class makes a cell -/
def Kp (ad : AD) (ks1 : KK) (ad1 : AD) (P1 : PP) : Prop := MI ks1 ad1 P1 ∧ (43, 0) ∈ ks1 ∧ (0, 0) ∈ ks1 ∧ ad1 0 0 = ad 0 0 ∧ ad1 12 0 = ad 12 0 ∧ ad1 43 0 = ad 43 0
theorem iv_Kp {ks : KK} {ad : AD} {T : TT} {P : PP} (h : IV ks ad T P) : Kp ad ks ad P := ⟨h.1.2.2.2.2.2.1, h.1.2.2.2.2.2.2, h.1.1.1, rfl, rfl, rfl⟩
theorem Wbeg.kp {ks ks1 : KK} {ad ad1 : AD} {T T1 : TT} {P P1 : PP} {z w k : Int} (h : IV ks ad T P) (hw : Wbeg ks ad T P z w k (ks1, ad1, T1, P1)) : Kp ad ks1 ad1 P1 ∧ HiE T1 T := by
  rcases hw with ⟨-, -, e⟩ | ⟨-, -, e⟩ | ⟨-, -, q, e⟩ <;> cases e
  · exact ⟨(iv_Kp h), HiE.r⟩
  · exact ⟨(iv_Kp h), HiE.r⟩
  · obtain ⟨k1, k2, k3, -⟩ := (iv_Kp h)
    refine ⟨⟨MI_P (by decide) (MI_new (by decide) k1), List.mem_append_left _ k2, List.mem_append_left _ k3, upA_ne (by omega), upA_ne (by omega), upA_ne (by omega)⟩, begT_hi.ou⟩
theorem CK_beg {ks : KK} {ad : AD} {T T' : TT} {P : PP} {q : Nat} (h : CK ks ad T P) (h7 : T' 0 0 7 = T 0 0 7 + 1) (h10 : T 0 0 7 < 10) (h8 : T' 0 0 8 = T 0 0 8) (h11 : ∀ k, T' 11 k 0 = T 11 k 0) : CK (ks ++ [(10, NS T)]) (upA ad 10 (NS T) q) T' (upP (zrP P 10 (NS T)) 4 0 (NS T) (some q)) := by
  obtain ⟨a1, a2, ⟨s0, s1, s2, s3⟩, ⟨o0, o1, o2, o3⟩, ⟨f1, f2⟩, a6, a7⟩ := h
  have hns : ((NS T : Nat) : Int) = T 0 0 7 := Int.toNat_of_nonneg s0
  refine ⟨FI_P (by decide) (FI_new (by decide) a1), RK_P (by decide) (RK_new (by decide) a2), ⟨by omega, by omega, fun i hi => ?_, fun i hi => ?_⟩, ⟨by omega, by omega, fun k hk => ?_, fun k hk => ?_⟩, ⟨fun i hi => ?_, fun k hk => ?_⟩, MI_P (by decide) (MI_new (by decide) a6), List.mem_append_left _ a7⟩
  · by_cases e : i = NS T
    · subst e
      rw [if_pos (by omega), upA_s]
      exact if_pos ⟨rfl, rfl, rfl⟩
    · have e1 : upP (zrP P 10 (NS T)) 4 0 (NS T) (some q) 4 0 i = P 4 0 i := by
        rw [show upP (zrP P 10 (NS T)) 4 0 (NS T) (some q) 4 0 i = zrP P 10 (NS T) 4 0 i from if_neg (fun w => e w.2.2), zrP_ne (by omega)]
      rw [e1, s2 i hi, upA_ne (fun w => e w.2)]
      by_cases hl : (i : Int) < T 0 0 7
      · rw [if_pos hl, if_pos (by omega)]
      · rw [if_neg hl, if_neg (by omega)]
  · by_cases e : i = NS T
    · rw [e]
      exact List.mem_append_right _ List.mem_cons_self
    · exact List.mem_append_left _ (s3 i (by omega))
  · rw [upP_ne (by omega), zrP_ne (by omega), upA_ne (by omega), h8]
    exact o2 k hk
  · rw [h8] at hk
    obtain ⟨r1, r2, r3, r4⟩ := o3 k hk
    have hm : mvT T' k = mvT T k := by
      unfold mvT
      rw [h11]
    exact ⟨List.mem_append_left _ r1, trivial, by rw [h11]; exact r3, by rw [h11]; omega⟩
  · intro hm
    rcases List.mem_append.mp hm with hm | hm
    · exact f1 i (by omega) hm
    · have := List.mem_singleton.mp hm
      cases this
      omega
  · intro hm
    rcases List.mem_append.mp hm with hm | hm
    · exact f2 k (by omega) hm
    · have := List.mem_singleton.mp hm
      cases this
theorem op_beg {ks ks1 : KK} {ad ad1 : AD} {T T1 T2 : TT} {P P1 : PP} (h : IV ks ad T P) {z w k r : Int} (hw : Wbeg ks ad T P z w k (ks1, ad1, T1, P1))
    (hm : ((z < 0 ∨ 5 ≤ z ∨ w < 0 ∨ 1000000 < w) ∧ T2 = up T1 12 0 0 1) ∨ ((0 ≤ z ∧ z < 5 ∧ 0 ≤ w ∧ w ≤ 1000000 ∧ T1 12 0 6 = 10) ∧ T2 = up T1 12 0 0 2) ∨ ((0 ≤ z ∧ z < 5 ∧ 0 ≤ w ∧ w ≤ 1000000 ∧ T1 12 0 6 ≠ 10 ∧ r = T1 12 0 6) ∧ T2 = up (up (up (up T1 12 0 0 0) 27 0 (T1 12 0 6).toNat z) 28 0 (T1 12 0 6).toNat (thF w (mpr T1 z (T1 12 0 1)))) 12 0 6 (T1 12 0 6 + 1))) : T2 12 0 0 = k ∧ (k = 0 → r = T2 43 0 0) ∧ IV ks1 ad1 T2 P1 := by
  have hi := (hw.kp h).2
  have e1 : T1 12 0 1 = T 0 0 5 := (hi 12 0 1 (by omega) (by omega) (by omega)).trans h.2.2.1.1
  have e6 : T1 12 0 6 = T 0 0 7 := (hi 12 0 6 (by omega) (by omega) (by omega)).trans h.2.2.1.2.2.1
  have hk7 := h.1.2.2.1.1
  have hk7b := h.1.2.2.1.2.1
  have hns : ((NS T : Nat) : Int) = T 0 0 7 := Int.toNat_of_nonneg hk7
  rw [e6, e1] at hm
  rcases hw with ⟨rfl, c, e⟩ | ⟨rfl, c, e⟩ | ⟨rfl, c, q, e⟩
  · cases e
    rcases hm with ⟨m, rfl⟩ | ⟨m, rfl⟩ | ⟨m, m2⟩
    · exact ⟨rfl, fun q => by omega, h.th⟩
    · omega
    · omega
  · cases e
    rcases hm with ⟨m, rfl⟩ | ⟨m, rfl⟩ | ⟨m, m2⟩
    · omega
    · exact ⟨rfl, fun q => by omega, h.th⟩
    · omega
  · have hT1 : T1 = up (begT T z w) 43 0 0 (T 0 0 7) := congrArg (fun x => x.2.2.1) e
    rcases hm with ⟨m, rfl⟩ | ⟨m, rfl⟩ | ⟨m, hT2⟩
    · omega
    · omega
    · have hd := h.2.1.2.1
      have hv : mpr T1 z (T 0 0 5) = valT T z.toNat (T 0 0 5) := by
        rw [mpr_hi hi]
        have := (h.2.2.2.1 z.toNat (by omega)).2.2 (T 0 0 5) hd.1 (Int.le_refl _)
        rw [show ((z.toNat : Nat) : Int) = z by omega] at this
        exact this
      rw [hv] at hT2
      have hvi := valT_in h.2.1.1 (p := z.toNat) (by omega) (T 0 0 5)
      have ht1 := thF_nn (m := w) (pr := valT T z.toNat (T 0 0 5)) (by omega) (by omega)
      have ht2 := thF_le (m := w) (pr := valT T z.toNat (T 0 0 5)) (by omega) (by omega)
      have hlo : LoE T2 (begT T z w) := by
        rw [hT2, hT1]
        exact ((((LoE.r.hi (by decide)).hi (by decide)).hi (by decide)).hi (by decide)).hi (by decide)
      have hhi : HiE T2 (up (up (up T 27 0 (NS T) z) 28 0 (NS T) (thF w (valT T z.toNat (T 0 0 5)))) 12 0 6 (T 0 0 7 + 1)) := by
        rw [hT2, hT1]
        exact ((begT_hi.ou.th.hup rfl rfl).hup rfl rfl).hup rfl rfl
      have h0 : ∀ j, T2 0 0 j = if j = 7 then T 0 0 7 + 1 else T 0 0 j := fun j => by
        rw [hlo 0 0 (by omega), begT_0]
      have hb0 : ∀ j, begT T z w 0 0 j = if j = 7 then T 0 0 7 + 1 else T 0 0 j := fun j => begT_0
      have hb5 : begT T z w 0 0 5 = T 0 0 5 := hb0 5
      have hb6 : begT T z w 0 0 6 = T 0 0 6 := hb0 6
      have hb7 : begT T z w 0 0 7 = T 0 0 7 + 1 := hb0 7
      have hb8 : begT T z w 0 0 8 = T 0 0 8 := hb0 8
      have hmv : ∀ k, mvT (begT T z w) k = mvT T k := fun k => by
        unfold mvT
        rw [begT_ne (by omega) (by omega)]
      have hs0 : begT T z w 10 (NS T) 0 = z := by
        unfold begT
        rw [up_of (by omega), up_of (by omega), up_at rfl]
      have hs1 : begT T z w 10 (NS T) 1 = thF w (valT T z.toNat (T 0 0 5)) := by
        unfold begT
        rw [up_of (by omega), up_at rfl]
      have hs2 : begT T z w 10 (NS T) 2 = 0 := by
        unfold begT
        rw [up_of (by omega), up_of (by omega), up_of (by omega), up_at rfl]
      have e2 : (ks1, ad1, T2, P1) = (ks ++ [(10, NS T)], upA ad 10 (NS T) q, T2, upP (zrP P 10 (NS T)) 4 0 (NS T) (some q)) := by
        cases e
        rfl
      cases e2
      obtain ⟨hK, ⟨n1, n2, n3, n4, n5, n6, n7⟩, hR⟩ := h
      have hmb : ∀ k : Nat, (k : Int) < T 0 0 8 → mvT T k ≠ NS T := fun k hk => by
        have := (hK.2.2.2.1.2.2.2 k hk).2.2
        unfold mvT
        omega
      refine ⟨?_, fun _ => ?_, ?_, ?_, ?_⟩
      · rw [hT2, up_of (by omega), up_of (by omega), up_of (by omega), up_at rfl]
      · rw [hT2, up_of (by omega), up_of (by omega), up_of (by omega), up_of (by omega), hT1, up_at rfl]
        exact m.2.2.2.2.2
      · refine CK_beg hK ?_ c.2.2.2.2 ?_ (fun k => ?_)
        · rw [h0]
          exact if_pos rfl
        · rw [h0]
          exact if_neg (by omega)
        · rw [hlo 11 k (by omega), begT_ne (by omega) (by omega)]
      · refine CN.congr hlo ⟨?_, ?_, ?_, ?_, ?_, ?_, ?_⟩
        · exact RN_congr (fun p => begT_ne (by omega) (by omega)) (fun p => begT_ne (by omega) (by omega)) (fun p => begT_ne (by omega) (by omega)) n1
        · unfold DN
          rw [hb5, hb6]
          exact n2
        · intro i hi
          rw [hb7] at hi
          by_cases e : i = NS T
          · rw [e, hs0, hs1, hs2]
            omega
          · rw [begT_ne (fun w => e w.2) (by omega)]
            exact n3 i (by omega)
        · intro k hk
          rw [hb8] at hk
          rw [begT_ne (by omega) (by omega), hb5]
          exact n4 k hk
        · intro p hp
          rw [begT_ne (by omega) (by omega), begT_ne (by omega) (by omega), hb5]
          exact n5 p hp
        · intro k hk h3
          rw [hb8] at hk
          rw [begT_ne (by omega) (by omega)] at h3
          rw [hmv, begT_ne (by omega) (by omega), begT_ne (fun w => hmb k hk w.2) (by omega)]
          exact n6 k hk h3
        · intro k k' hk hk' h3 h3' hm
          rw [hb8] at hk hk'
          rw [begT_ne (by omega) (by omega)] at h3 h3'
          rw [hmv, hmv] at hm
          exact n7 k k' hk hk' h3 h3' hm
      · refine Rel.congr hlo hhi ?_
        obtain ⟨⟨b1, b2, b3, b4⟩, c5, c6, c6b, c7, c8, c9, c10⟩ := hR
        refine ⟨?_, fun p hp => ?_, fun i hi => ?_, fun i hi => ?_, fun k hk => ?_, fun k hk => ?_, fun p q hp hq => ?_, fun p hp => ?_⟩
        · rw [hb5, hb6, hb7, hb8]
          exact ⟨b1, b2, rfl, b4⟩
        · rw [begT_ne (by omega) (by omega), begT_ne (by omega) (by omega)]
          refine ⟨(c5 p hp).1, (c5 p hp).2.1, fun d h1 h2 => ?_⟩
          rw [hb5] at h2
          rw [valT_congr (begT_ne (by omega) (by omega)) (begT_ne (by omega) (by omega)) (begT_ne (by omega) (by omega))]
          exact (c5 p hp).2.2 d h1 h2
        · rw [hb7] at hi
          by_cases e : i = NS T
          · rw [e, hs0, hs1, hs2]
            refine ⟨?_, ?_, ?_⟩
            · rw [up_of (by omega), up_of (by omega), up_at rfl]
            · rw [up_of (by omega), up_at rfl]
            · exact c6b (NS T) (by omega)
          · rw [begT_ne (fun w => e w.2) (by omega), up_of (by omega), up_of (by omega), up_of (fun w => e w.2.2), up_of (by omega), up_of (fun w => e w.2.2), up_of (by omega), up_of (by omega), up_of (by omega), up_of (by omega)]
            exact c6 i (by omega)
        · rw [hb7] at hi
          exact c6b i (by omega)
        · rw [hb8] at hk
          rw [begT_ne (by omega) (by omega)]
          exact c7 k hk
        · rw [hb8] at hk
          exact c8 k hk
        · rw [begT_ne (by omega) (by omega)]
          exact c9 p q hp hq
        · rw [begT_ne (by omega) (by omega)]
          exact c10 p hp
