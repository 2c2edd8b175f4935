/-! order -/
theorem oriT_ne {T : TT} {k : Nat} {sv h to d : Int} {a b : Nat} (q : ¬ (a = 11 ∧ b = k)) : oriT T k sv h to d a b = T a b := by
  unfold oriT
  rw [up_ne q, up_ne q, up_ne q, up_ne q, up_ne q, up_ne q, up_ne q, up_ne q, up_ne q, up_ne q]
theorem ordT_ne {T : TT} {z w : Int} {a b : Nat} (h : ¬ (a = 11 ∧ b = NO T)) (h0 : ¬ (a = 0 ∧ b = 0)) (h1 : ¬ (a = 10 ∧ b = z.toNat)) : ordT T z w a b = T a b := by
  unfold ordT
  rw [up_ne h1, up_ne h0, oriT_ne h, zrT_ne h]
theorem ordT_0 {T : TT} {z w : Int} {j : Nat} : ordT T z w 0 0 j = if j = 8 then T 0 0 8 + 1 else T 0 0 j := by
  unfold ordT
  by_cases e : j = 8
  · rw [if_pos e, up_of (by omega), up_at e]
  · rw [if_neg e, up_of (by omega), up_of (by omega), oriT_ne (by omega), zrT_ne (by omega)]
theorem ordT_10 {T : TT} {z w : Int} {i j : Nat} : ordT T z w 10 i j = if i = z.toNat ∧ j = 2 then 1 else T 10 i j := by
  unfold ordT
  by_cases e : i = z.toNat ∧ j = 2
  · rw [if_pos e, e.1, up_at e.2]
  · rw [if_neg e, up_of (fun w => e w.2), up_of (by omega), oriT_ne (by omega), zrT_ne (by omega)]
theorem ordT_n {T : TT} {z w : Int} : ordT T z w 11 (NO T) 1 = T 10 z.toNat 0 ∧ ordT T z w 11 (NO T) 2 = w ∧ ordT T z w 11 (NO T) 3 = 0 ∧ ordT T z w 11 (NO T) 4 = T 0 0 5 ∧ ordT T z w 11 (NO T) 5 = 0 ∧ ordT T z w 11 (NO T) 6 = 0 ∧ ordT T z w 11 (NO T) 7 = 0 ∧ ordT T z w 11 (NO T) 8 = 0 ∧ ordT T z w 11 (NO T) 9 = 0 ∧ ordT T z w 11 (NO T) 0 = z := by
  refine ⟨?_, ?_, ?_, ?_, ?_, ?_, ?_, ?_, ?_, ?_⟩ <;> simp [ordT, oriT, up]
theorem ordT_hi {T : TT} {z w : Int} : HiE (ordT T z w) T := by
  unfold ordT oriT
  exact (((((((((((((HiE.r.lz (by decide)).lo (by decide)).lo (by decide)).lo (by decide)).lo (by decide)).lo (by decide)).lo (by decide)).lo (by decide)).lo (by decide)).lo (by decide)).lo (by decide)).lo (by decide)).lo (by decide))
def Word (ks : KK) (ad : AD) (T : TT) (P : PP) (z w k : Int) (u1 : St) : Prop := (k = 1 ∧ (z < 0 ∨ T 0 0 7 ≤ z) ∧ u1 = (ks, ad, T, P)) ∨ (k = 2 ∧ (0 ≤ z ∧ z < T 0 0 7 ∧ (w < 0 ∨ 5 ≤ w ∨ w = T 10 z.toNat 0)) ∧ u1 = (ks, ad, T, P)) ∨ (k = 3 ∧ (0 ≤ z ∧ z < T 0 0 7 ∧ 0 ≤ w ∧ w < 5 ∧ w ≠ T 10 z.toNat 0 ∧ (T 10 z.toNat 2 ≠ 0 ∨ 30 ≤ T 0 0 8)) ∧ u1 = (ks, ad, T, P)) ∨ (k = 0 ∧ (0 ≤ z ∧ z < T 0 0 7 ∧ 0 ≤ w ∧ w < 5 ∧ w ≠ T 10 z.toNat 0 ∧ T 10 z.toNat 2 = 0 ∧ T 0 0 8 < 30) ∧ ∃ q : Nat, u1 = (ks ++ [(11, NO T)], upA ad 11 (NO T) q, up (ordT T z w) 43 0 0 (T 0 0 8), upP (zrP P 11 (NO T)) 5 0 (NO T) (some q)))
theorem Word.kp {ks ks1 : KK} {ad ad1 : AD} {T T1 : TT} {P P1 : PP} {z w k : Int} (h : IV ks ad T P) (hw : Word ks ad T P z w k (ks1, ad1, T1, P1)) : Kp ad ks1 ad1 P1 ∧ HiE T1 T := by
  rcases hw with ⟨-, -, e⟩ | ⟨-, -, e⟩ | ⟨-, -, e⟩ | ⟨-, -, q, e⟩ <;> cases e
  · exact ⟨(iv_Kp h), HiE.r⟩
  · exact ⟨(iv_Kp h), HiE.r⟩
  · exact ⟨(iv_Kp h), HiE.r⟩
  · obtain ⟨k1, k2, k3, -⟩ := (iv_Kp h)
    refine ⟨⟨MI_P (by decide) (MI_new (by decide) k1), List.mem_append_left _ k2, List.mem_append_left _ k3, upA_ne (by omega), upA_ne (by omega), upA_ne (by omega)⟩, ordT_hi.ou⟩
theorem CK_ord {ks : KK} {ad : AD} {T T' : TT} {P : PP} {q : Nat} {z : Int} (h : CK ks ad T P) (hz : 0 ≤ z ∧ z < T 0 0 7) (h7 : T' 0 0 7 = T 0 0 7) (h30 : T 0 0 8 < 30) (h8 : T' 0 0 8 = T 0 0 8 + 1) (h11 : ∀ k, k ≠ NO T → T' 11 k 0 = T 11 k 0) (hn : T' 11 (NO T) 0 = z) : CK (ks ++ [(11, NO T)]) (upA ad 11 (NO T) q) T' (upP (zrP P 11 (NO T)) 5 0 (NO T) (some q)) := by
  obtain ⟨a1, a2, ⟨s0, s1, s2, s3⟩, ⟨o0, o1, o2, o3⟩, ⟨f1, f2⟩, a6, a7⟩ := h
  have hno : ((NO T : Nat) : Int) = T 0 0 8 := Int.toNat_of_nonneg o0
  refine ⟨FI_P (by decide) (FI_new (by decide) a1), RK_P (by decide) (RK_new (by decide) a2), ⟨by omega, by omega, fun i hi => ?_, fun i hi => ?_⟩, ⟨by omega, by omega, fun k hk => ?_, fun k hk => ?_⟩, ⟨fun i hi => ?_, fun k hk => ?_⟩, MI_P (by decide) (MI_new (by decide) a6), List.mem_append_left _ a7⟩
  · rw [upP_ne (by omega), zrP_ne (by omega), upA_ne (by omega), h7]
    exact s2 i hi
  · rw [h7] at hi
    exact List.mem_append_left _ (s3 i hi)
  · by_cases e : k = NO T
    · subst e
      rw [if_pos (by omega), upA_s]
      exact if_pos ⟨rfl, rfl, rfl⟩
    · have e1 : upP (zrP P 11 (NO T)) 5 0 (NO T) (some q) 5 0 k = P 5 0 k := by
        rw [show upP (zrP P 11 (NO T)) 5 0 (NO T) (some q) 5 0 k = zrP P 11 (NO T) 5 0 k from if_neg (fun w => e w.2.2), zrP_ne (by omega)]
      rw [e1, o2 k hk, upA_ne (fun w => e w.2)]
      by_cases hl : (k : Int) < T 0 0 8
      · rw [if_pos hl, if_pos (by omega)]
      · rw [if_neg hl, if_neg (by omega)]
  · by_cases e : k = NO T
    · have hm : mvT T' k = z.toNat := by
        unfold mvT
        rw [e, hn]
      refine ⟨?_, ?_, ?_, ?_⟩
      · rw [e]
        exact List.mem_append_right _ List.mem_cons_self
      · trivial
      · rw [e, hn]
        omega
      · rw [e, hn]
        omega
    · obtain ⟨r1, r2, r3, r4⟩ := o3 k (by omega)
      have hm : mvT T' k = mvT T k := by
        unfold mvT
        rw [h11 k e]
      exact ⟨List.mem_append_left _ r1, trivial, by rw [h11 k e]; exact r3, by rw [h11 k e]; omega⟩
  · intro hm
    rcases List.mem_append.mp hm with hm | hm
    · exact f1 i (by omega) hm
    · have := List.mem_singleton.mp hm
      cases this
  · intro hm
    rcases List.mem_append.mp hm with hm | hm
    · exact f2 k (by omega) hm
    · have := List.mem_singleton.mp hm
      cases this
      omega
theorem op_orde {ks ks1 : KK} {ad ad1 : AD} {T T1 T2 : TT} {P P1 : PP} (h : IV ks ad T P) {z w k r : Int} (hw : Word ks ad T P z w k (ks1, ad1, T1, P1))
    (hm : ((z < 0 ∨ T1 12 0 6 ≤ z) ∧ T2 = up T1 12 0 0 1) ∨ ((0 ≤ z ∧ z < T1 12 0 6 ∧ (w < 0 ∨ 5 ≤ w ∨ w = T1 27 0 z.toNat)) ∧ T2 = up (up T1 12 0 0 0) 12 0 0 2) ∨ ((0 ≤ z ∧ z < T1 12 0 6 ∧ 0 ≤ w ∧ w < 5 ∧ w ≠ T1 27 0 z.toNat ∧ (T1 29 0 z.toNat ≠ 0 ∨ T1 12 0 10 = 30)) ∧ T2 = up (up T1 12 0 0 0) 12 0 0 3) ∨
      ((0 ≤ z ∧ z < T1 12 0 6 ∧ 0 ≤ w ∧ w < 5 ∧ w ≠ T1 27 0 z.toNat ∧ T1 29 0 z.toNat = 0 ∧ T1 12 0 10 ≠ 30 ∧ r = T1 12 0 10) ∧ T2 = up (up (up (up (up (up (up T1 12 0 0 0) 12 0 0 0) 31 0 (T1 12 0 10).toNat z) 32 0 (T1 12 0 10).toNat w) 34 0 (T1 12 0 10).toNat (T1 12 0 1)) 29 0 z.toNat 1) 12 0 10 (T1 12 0 10 + 1))) : T2 12 0 0 = k ∧ (k = 0 → r = T2 43 0 0) ∧ IV ks1 ad1 T2 P1 := by
  have hi := (hw.kp h).2
  have e1 : T1 12 0 1 = T 0 0 5 := (hi 12 0 1 (by omega) (by omega) (by omega)).trans h.2.2.1.1
  have e6 : T1 12 0 6 = T 0 0 7 := (hi 12 0 6 (by omega) (by omega) (by omega)).trans h.2.2.1.2.2.1
  have ex : T1 12 0 10 = T 0 0 8 := (hi 12 0 10 (by omega) (by omega) (by omega)).trans h.2.2.1.2.2.2
  have hk8 := h.1.2.2.2.1.1
  have hk8b := h.1.2.2.2.1.2.1
  have hk7 := h.1.2.2.1.1
  have hno : ((NO T : Nat) : Int) = T 0 0 8 := Int.toNat_of_nonneg hk8
  rw [e6, e1, ex] at hm
  by_cases hz : 0 ≤ z ∧ z < T 0 0 7
  · have hc := h.2.2.2.2.1 z.toNat (by omega)
    have hs := h.2.1.2.2.1 z.toNat (by omega)
    have g27 : T1 27 0 z.toNat = T 10 z.toNat 0 := (hi 27 0 _ (by omega) (by omega) (by omega)).trans hc.1
    have g29 : T1 29 0 z.toNat = T 10 z.toNat 2 := (hi 29 0 _ (by omega) (by omega) (by omega)).trans hc.2.2
    rw [g27, g29] at hm
    rcases hw with ⟨rfl, c, e⟩ | ⟨rfl, c, e⟩ | ⟨rfl, c, e⟩ | ⟨rfl, c, q, e⟩
    · omega
    · cases e
      rcases hm with ⟨m, rfl⟩ | ⟨m, rfl⟩ | ⟨m, rfl⟩ | ⟨m, m2⟩
      · omega
      · exact ⟨rfl, fun q => by omega, h.th.th⟩
      · omega
      · omega
    · cases e
      rcases hm with ⟨m, rfl⟩ | ⟨m, rfl⟩ | ⟨m, rfl⟩ | ⟨m, m2⟩
      · omega
      · omega
      · exact ⟨rfl, fun q => by omega, h.th.th⟩
      · omega
    · have hT1 : T1 = up (ordT T z w) 43 0 0 (T 0 0 8) := congrArg (fun x => x.2.2.1) e
      rcases hm with ⟨m, rfl⟩ | ⟨m, rfl⟩ | ⟨m, rfl⟩ | ⟨m, hT2⟩
      · omega
      · omega
      · omega
      · have hd := h.2.1.2.1
        have hlo : LoE T2 (ordT T z w) := by
          rw [hT2, hT1]
          exact (((((((LoE.r.hi (by decide)).hi (by decide)).hi (by decide)).hi (by decide)).hi (by decide)).hi (by decide)).hi (by decide)).hi (by decide)
        have hhi : HiE T2 (up (up (up (up (up T 31 0 (NO T) z) 32 0 (NO T) w) 34 0 (NO T) (T 0 0 5)) 29 0 z.toNat 1) 12 0 10 (T 0 0 8 + 1)) := by
          rw [hT2, hT1]
          exact ((((ordT_hi.ou.th.th.hup rfl rfl).hup rfl rfl).hup rfl rfl).hup rfl rfl).hup rfl rfl
        have hb0 : ∀ j, ordT T z w 0 0 j = if j = 8 then T 0 0 8 + 1 else T 0 0 j := fun j => ordT_0
        have hb5 : ordT T z w 0 0 5 = T 0 0 5 := hb0 5
        have hb6 : ordT T z w 0 0 6 = T 0 0 6 := hb0 6
        have hb7 : ordT T z w 0 0 7 = T 0 0 7 := hb0 7
        have hb8 : ordT T z w 0 0 8 = T 0 0 8 + 1 := hb0 8
        obtain ⟨w1, w2, w3, w4, w5, w6, w7, w8, w9, wx⟩ := ordT_n (T := T) (z := z) (w := w)
        have h11 : ∀ k : Nat, k ≠ NO T → ordT T z w 11 k = T 11 k := fun k e => ordT_ne (fun q => e q.2) (by omega) (by omega)
        have hmv : ∀ k : Nat, k ≠ NO T → mvT (ordT T z w) k = mvT T k := fun k e => by
          unfold mvT
          rw [h11 k e]
        have hmn : mvT (ordT T z w) (NO T) = z.toNat := by
          unfold mvT
          rw [wx]
        have e2 : (ks1, ad1, T2, P1) = (ks ++ [(11, NO T)], upA ad 11 (NO T) q, T2, upP (zrP P 11 (NO T)) 5 0 (NO T) (some q)) := by
          cases e
          rfl
        cases e2
        obtain ⟨hK, ⟨n1, n2, n3, n4, n5, n6, n7⟩, hR⟩ := h
        refine ⟨?_, fun _ => ?_, ?_, ?_, ?_⟩
        · rw [hT2, up_of (by omega), up_of (by omega), up_of (by omega), up_of (by omega), up_of (by omega), up_at rfl]
        · rw [hT2, up_of (by omega), up_of (by omega), up_of (by omega), up_of (by omega), up_of (by omega), up_of (by omega), up_of (by omega), hT1, up_at rfl]
          exact m.2.2.2.2.2.2.2
        · refine CK_ord hK hz ?_ c.2.2.2.2.2.2 ?_ (fun k hk => ?_) ?_
          · rw [hlo 0 0 (by omega), hb7]
          · rw [hlo 0 0 (by omega), hb8]
          · rw [hlo 11 k (by omega), h11 k hk]
          · rw [hlo 11 _ (by omega), wx]
        · refine CN.congr hlo ⟨?_, ?_, ?_, ?_, ?_, ?_, ?_⟩
          · exact RN_congr (fun p => ordT_ne (by omega) (by omega) (by omega)) (fun p => ordT_ne (by omega) (by omega) (by omega)) (fun p => ordT_ne (by omega) (by omega) (by omega)) n1
          · unfold DN
            rw [hb5, hb6]
            exact n2
          · intro i hi
            rw [hb7] at hi
            rw [ordT_10, ordT_10, ordT_10, if_neg (by omega), if_neg (by omega)]
            have := n3 i hi
            split <;> omega
          · intro k hk
            rw [hb8] at hk
            by_cases e : k = NO T
            · rw [e, w1, w2, w3, w4, w5, w6, w7, w8, w9, hb5]
              have := n2.1
              refine ⟨hs.1, hs.2.1, by omega, by omega, by omega, by omega, by omega, by omega, by omega, fun _ => by omega, by omega, by omega, by omega, by omega, by omega, by omega, by omega, by omega, by omega⟩
            · rw [h11 k e, hb5]
              exact n4 k (by omega)
          · intro p hp
            rw [ordT_ne (by omega) (by omega) (by omega), ordT_ne (by omega) (by omega) (by omega), hb5]
            exact n5 p hp
          · intro k hk h3
            rw [hb8] at hk
            by_cases e : k = NO T
            · rw [e, hmn, w1, w6, ordT_10, ordT_10, if_neg (by omega), if_pos ⟨rfl, rfl⟩]
              exact ⟨rfl, rfl, rfl⟩
            · rw [h11 k e] at h3
              rw [hmv k e, h11 k e, ordT_10, ordT_10, if_neg (by omega)]
              have := n6 k (by omega) h3
              refine ⟨this.1, ?_, this.2.2⟩
              split
              · rfl
              · exact this.2.1
          · intro k k' hk hk' h3 h3' hm
            rw [hb8] at hk hk'
            have hx : ∀ k : Nat, (k : Int) < T 0 0 8 → T 11 k 3 < 3 → mvT T k ≠ z.toNat := fun k hk h3 hm => by
              have := (n6 k hk h3).2.1
              rw [hm] at this
              omega
            by_cases e : k = NO T
            · by_cases e' : k' = NO T
              · rw [e, e']
              · rw [h11 k' e'] at h3'
                rw [e, hmn, hmv k' e'] at hm
                exact absurd hm.symm (hx k' (by omega) h3')
            · rw [h11 k e] at h3
              by_cases e' : k' = NO T
              · rw [e', hmn, hmv k e] at hm
                exact absurd hm (hx k (by omega) h3)
              · rw [h11 k' e'] at h3'
                rw [hmv k e, hmv k' e'] at hm
                exact n7 k k' (by omega) (by omega) h3 h3' hm
        · refine Rel.congr hlo hhi ?_
          obtain ⟨⟨b1, b2, b3, b4⟩, c5, c6, c6b, c7, c8, c9, c10⟩ := hR
          refine ⟨?_, fun p hp => ?_, fun i hi => ?_, fun i hi => ?_, fun k hk => ?_, fun k hk => ?_, fun p q hp hq => ?_, fun p hp => ?_⟩
          · rw [hb5, hb6, hb7, hb8]
            exact ⟨b1, b2, b3, rfl⟩
          · rw [ordT_ne (by omega) (by omega) (by omega), ordT_ne (by omega) (by omega) (by omega)]
            refine ⟨(c5 p hp).1, (c5 p hp).2.1, fun d h1 h2 => ?_⟩
            rw [hb5] at h2
            rw [valT_congr (ordT_ne (by omega) (by omega) (by omega)) (ordT_ne (by omega) (by omega) (by omega)) (ordT_ne (by omega) (by omega) (by omega))]
            exact (c5 p hp).2.2 d h1 h2
          · rw [hb7] at hi
            have q := c6 i hi
            rw [ordT_10, ordT_10, ordT_10, if_neg (by omega), if_neg (by omega)]
            refine ⟨q.1, q.2.1, ?_⟩
            rw [up_of (by omega)]
            by_cases e : i = z.toNat
            · rw [e, up_at rfl, if_pos ⟨rfl, rfl⟩]
            · rw [up_of (fun w => e w.2.2), if_neg (fun w => e w.1), up_of (by omega), up_of (by omega), up_of (by omega)]
              exact q.2.2
          · rw [hb7] at hi
            rw [up_of (by omega), up_of (by omega), up_of (by omega), up_of (by omega), up_of (by omega)]
            exact c6b i hi
          · rw [hb8] at hk
            by_cases e : k = NO T
            · rw [e, w2, w3, w4, w5, w6, w7, w8, w9, wx]
              obtain ⟨d1, d2, d3, d4, d5, d6⟩ := c8 (NO T) (by omega)
              refine ⟨?_, ?_, ?_, ?_, ?_, ?_, ?_, ?_, ?_, fun q => by omega⟩
              · rw [up_of (by omega), up_of (by omega), up_of (by omega), up_of (by omega), up_at rfl]
              · rw [up_of (by omega), up_of (by omega), up_of (by omega), up_at rfl]
              · exact d1
              · rw [up_of (by omega), up_of (by omega), up_at rfl]
              · exact d2
              · exact d3
              · exact d4
              · exact d5
              · exact d6
            · rw [h11 k e]
              have z : ∀ t, 31 ≤ t → t ≤ 40 → up (up (up (up (up T 31 0 (NO T) z) 32 0 (NO T) w) 34 0 (NO T) (T 0 0 5)) 29 0 z.toNat 1) 12 0 10 (T 0 0 8 + 1) t 0 k = T t 0 k := fun t h1 h2 => by
                rw [up_of (by omega), up_of (by omega), up_of (fun w => e w.2.2), up_of (fun w => e w.2.2), up_of (fun w => e w.2.2)]
              rw [z 31 (by omega) (by omega), z 32 (by omega) (by omega), z 33 (by omega) (by omega), z 34 (by omega) (by omega), z 35 (by omega) (by omega), z 36 (by omega) (by omega), z 37 (by omega) (by omega), z 38 (by omega) (by omega), z 39 (by omega) (by omega), z 40 (by omega) (by omega)]
              exact c7 k (by omega)
          · rw [hb8] at hk
            exact c8 k (by omega)
          · rw [ordT_ne (by omega) (by omega) (by omega)]
            exact c9 p q hp hq
          · rw [ordT_ne (by omega) (by omega) (by omega)]
            exact c10 p hp
  · rcases hw with ⟨rfl, c, e⟩ | ⟨rfl, c, e⟩ | ⟨rfl, c, e⟩ | ⟨rfl, c, q, e⟩
    · cases e
      rcases hm with ⟨m, rfl⟩ | ⟨m, rfl⟩ | ⟨m, rfl⟩ | ⟨m, m2⟩
      · exact ⟨rfl, fun q => by omega, h.th⟩
      · omega
      · omega
      · omega
    · omega
    · omega
    · omega
