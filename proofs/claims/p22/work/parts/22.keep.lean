theorem putT_ne {T : TT} {p : Nat} {d v : Int} {a b : Nat} (h : ¬ ((a = 6 ∨ a = 7 ∨ a = 8) ∧ b = p)) : putT T p d v a b = T a b := by
  unfold putT
  split
  · exact up_ne (fun q => h ⟨Or.inr (Or.inr q.1), q.2⟩)
  · split
    · rfl
    · rw [up_ne (fun q => h ⟨Or.inl q.1, q.2⟩), up_ne (fun q => h ⟨Or.inl q.1, q.2⟩), up_ne (fun q => h ⟨Or.inl q.1, q.2⟩), up_ne (fun q => h ⟨Or.inr (Or.inr q.1), q.2⟩), up_ne (fun q => h ⟨Or.inr (Or.inl q.1), q.2⟩)]
theorem putT_hi {T : TT} {p : Nat} {d v : Int} : HiE (putT T p d v) T := fun a b c h1 => by
  rw [putT_ne (fun q => by omega)]
theorem idxT_cg {T T' : TT} {p : Nat} {d : Int} : ∀ n : Nat, (∀ j : Nat, j ≤ n → T' 7 p j = T 7 p j) → idxT T' p d n = idxT T p d n
  | 0, _ => rfl
  | n + 1, h => by
    unfold idxT
    rw [h (n + 1) (Nat.le_refl _), idxT_cg n (fun j hj => h j (by omega))]
/-- the row of prices after put, day and new price right -/
theorem putT_row {T : TT} {p : Nat} {D v : Int} (h6 : 0 ≤ T 6 p 2 ∧ T 6 p 2 ≤ 60) (hD : 0 ≤ D) (h70 : T 7 p 0 = 0) (hc : T 7 p (T 6 p 2).toNat = D ∨ T 6 p 2 < 60) :
    putT T p D v 6 p 2 = T 6 p 2 + (if T 7 p (T 6 p 2).toNat = D then 0 else 1) ∧ putT T p D v 7 p (putT T p D v 6 p 2).toNat = D ∧ putT T p D v 7 p 0 = 0 ∧ valT (putT T p D v) p D = v ∧ ∀ d : Int, 0 ≤ d → d < D → valT (putT T p D v) p d = valT T p d := by
  by_cases e : T 7 p (T 6 p 2).toNat = D
  · have hp : putT T p D v = up T 8 p (T 6 p 2).toNat v := by
      unfold putT
      rw [if_pos e]
    rw [hp, if_pos e]
    have k6 : up T 8 p (T 6 p 2).toNat v 6 p = T 6 p := up_ne (by omega)
    have k7 : up T 8 p (T 6 p 2).toNat v 7 p = T 7 p := up_ne (by omega)
    refine ⟨?_, ?_, ?_, ?_, ?_⟩
    · rw [k6]
      omega
    · rw [k6, k7]
      exact e
    · rw [k7]
      exact h70
    · unfold valT
      rw [idxT_congr k7, k6, idxT_top (by omega)]
      exact up_at rfl
    · intro d h1 h2
      unfold valT
      rw [idxT_congr k7, k6]
      refine up_of (fun q => ?_)
      have q3 := q.2.2
      cases hn : (T 6 p 2).toNat with
      | zero =>
        rw [hn] at e
        omega
      | succ n =>
        rw [hn] at q3 e
        have : idxT T p d (n + 1) = idxT T p d n := by
          show (if d < T 7 p (n + 1) then idxT T p d n else n + 1) = _
          exact if_pos (by omega)
        have := idxT_le T p d n
        omega
  · have hp : putT T p D v = up (up (up (up (up T 7 p (T 6 p 2 + 1).toNat D) 8 p (T 6 p 2 + 1).toNat v) 6 p 3 D) 6 p 4 (T 6 p 2 + 1 + 1)) 6 p 2 (T 6 p 2 + 1) := by
      unfold putT
      rw [if_neg e, if_neg (by omega)]
    rw [hp, if_neg e]
    have k6 : up (up (up (up (up T 7 p (T 6 p 2 + 1).toNat D) 8 p (T 6 p 2 + 1).toNat v) 6 p 3 D) 6 p 4 (T 6 p 2 + 1 + 1)) 6 p 2 (T 6 p 2 + 1) 6 p 2 = T 6 p 2 + 1 := by
      rw [up_at rfl]
    have k7 : ∀ j : Nat, up (up (up (up (up T 7 p (T 6 p 2 + 1).toNat D) 8 p (T 6 p 2 + 1).toNat v) 6 p 3 D) 6 p 4 (T 6 p 2 + 1 + 1)) 6 p 2 (T 6 p 2 + 1) 7 p j = if j = (T 6 p 2 + 1).toNat then D else T 7 p j := fun j => by
      rw [up_of (by omega), up_of (by omega), up_of (by omega), up_of (by omega)]
      by_cases hj : j = (T 6 p 2 + 1).toNat
      · rw [if_pos hj, up_at hj]
      · rw [if_neg hj, up_of (fun q => hj q.2.2)]
    refine ⟨k6, ?_, ?_, ?_, ?_⟩
    · rw [k6, k7, if_pos rfl]
    · rw [k7, if_neg (by omega)]
      exact h70
    · unfold valT
      rw [k6, idxT_top (by rw [k7, if_pos rfl]; omega), up_of (by omega), up_of (by omega), up_of (by omega)]
      exact up_at rfl
    · intro d h1 h2
      unfold valT
      rw [k6, show (T 6 p 2 + 1).toNat = (T 6 p 2).toNat + 1 by omega]
      have hs : ∀ X : TT, (X 7 p ((T 6 p 2).toNat + 1) = D) → idxT X p d ((T 6 p 2).toNat + 1) = idxT X p d (T 6 p 2).toNat := fun X hX => by
        show (if d < X 7 p ((T 6 p 2).toNat + 1) then idxT X p d (T 6 p 2).toNat else (T 6 p 2).toNat + 1) = _
        exact if_pos (by omega)
      rw [show (T 6 p 2 + 1).toNat = (T 6 p 2).toNat + 1 by omega] at k7
      rw [hs _ (by rw [k7, if_pos rfl]), idxT_cg (T := T) _ (fun j hj => by rw [k7, if_neg (by omega)])]
      have := idxT_le T p d (T 6 p 2).toNat
      rw [up_of (by omega), up_of (by omega), up_of (by omega), up_of (by omega), up_of (by omega)]
theorem putT_srt {T : TT} {p : Nat} {D v : Int} (h6 : 0 ≤ T 6 p 2 ∧ T 6 p 2 ≤ 60) (hD : inI D) (hl : T 7 p (T 6 p 2).toNat ≤ D) (hc : T 7 p (T 6 p 2).toNat = D ∨ T 6 p 2 < 60)
    (r : (∀ j : Nat, inI (T 7 p j)) ∧ T 7 p 0 = 0 ∧ T 6 p 3 = T 7 p (T 6 p 2).toNat ∧ T 6 p 4 = T 6 p 2 + 1 ∧ ∀ j : Nat, (j : Int) < T 6 p 2 → T 7 p j < T 7 p (j + 1)) :
    (∀ j : Nat, inI (putT T p D v 7 p j)) ∧ putT T p D v 7 p 0 = 0 ∧ putT T p D v 6 p 3 = putT T p D v 7 p (putT T p D v 6 p 2).toNat ∧ putT T p D v 6 p 4 = putT T p D v 6 p 2 + 1 ∧ ∀ j : Nat, (j : Int) < putT T p D v 6 p 2 → putT T p D v 7 p j < putT T p D v 7 p (j + 1) := by
  by_cases e : T 7 p (T 6 p 2).toNat = D
  · have hp : putT T p D v = up T 8 p (T 6 p 2).toNat v := by
      unfold putT
      rw [if_pos e]
    have k6 : up T 8 p (T 6 p 2).toNat v 6 p = T 6 p := up_ne (by omega)
    have k7 : up T 8 p (T 6 p 2).toNat v 7 p = T 7 p := up_ne (by omega)
    rw [hp, k6, k7]
    exact r
  · have hp : putT T p D v = up (up (up (up (up T 7 p (T 6 p 2 + 1).toNat D) 8 p (T 6 p 2 + 1).toNat v) 6 p 3 D) 6 p 4 (T 6 p 2 + 1 + 1)) 6 p 2 (T 6 p 2 + 1) := by
      unfold putT
      rw [if_neg e, if_neg (by omega)]
    have k2 : up (up (up (up (up T 7 p (T 6 p 2 + 1).toNat D) 8 p (T 6 p 2 + 1).toNat v) 6 p 3 D) 6 p 4 (T 6 p 2 + 1 + 1)) 6 p 2 (T 6 p 2 + 1) 6 p 2 = T 6 p 2 + 1 := by
      rw [up_at rfl]
    have k3 : up (up (up (up (up T 7 p (T 6 p 2 + 1).toNat D) 8 p (T 6 p 2 + 1).toNat v) 6 p 3 D) 6 p 4 (T 6 p 2 + 1 + 1)) 6 p 2 (T 6 p 2 + 1) 6 p 3 = D := by
      rw [up_of (by omega), up_of (by omega), up_at rfl]
    have k4 : up (up (up (up (up T 7 p (T 6 p 2 + 1).toNat D) 8 p (T 6 p 2 + 1).toNat v) 6 p 3 D) 6 p 4 (T 6 p 2 + 1 + 1)) 6 p 2 (T 6 p 2 + 1) 6 p 4 = T 6 p 2 + 1 + 1 := by
      rw [up_of (by omega), up_at rfl]
    have k7 : ∀ j : Nat, up (up (up (up (up T 7 p (T 6 p 2 + 1).toNat D) 8 p (T 6 p 2 + 1).toNat v) 6 p 3 D) 6 p 4 (T 6 p 2 + 1 + 1)) 6 p 2 (T 6 p 2 + 1) 7 p j = if j = (T 6 p 2 + 1).toNat then D else T 7 p j := fun j => by
      rw [up_of (by omega), up_of (by omega), up_of (by omega), up_of (by omega)]
      by_cases hj : j = (T 6 p 2 + 1).toNat
      · rw [if_pos hj, up_at hj]
      · rw [if_neg hj, up_of (fun q => hj q.2.2)]
    obtain ⟨r1, r2, r3, r4, r5⟩ := r
    rw [hp]
    refine ⟨fun j => ?_, ?_, ?_, ?_, fun j hj => ?_⟩
    · rw [k7]
      split
      · exact hD
      · exact r1 j
    · rw [k7, if_neg (by omega)]
      exact r2
    · rw [k3, k2, k7, if_pos rfl]
    · rw [k4, k2]
    · rw [k2] at hj
      rw [k7, k7, if_neg (by omega)]
      by_cases hj2 : (j : Int) = T 6 p 2
      · rw [if_pos (by omega), show j = (T 6 p 2).toNat by omega]
        omega
      · rw [if_neg (by omega)]
        exact r5 j (by omega)
theorem CN_put {T : TT} {p : Nat} {v : Int} (h : CN T) (hp : p < 5) (hv : 100 ≤ v ∧ v ≤ 10000) (hc : T 7 p (T 6 p 2).toNat = T 0 0 5 ∨ T 6 p 2 < 60) : CN (putT T p (T 0 0 5) v) := by
  obtain ⟨a1, a2, a3, a4, a5, a6, a7⟩ := h
  obtain ⟨r1, r2, r3, r4⟩ := a1 p hp
  have hR := putT_row (v := v) ⟨r1, r2⟩ a2.1 (a5 p hp).1 hc
  have h0 : putT T p (T 0 0 5) v 0 0 = T 0 0 := putT_ne (by omega)
  have h10 : ∀ i, putT T p (T 0 0 5) v 10 i = T 10 i := fun i => putT_ne (by omega)
  have h11 : ∀ i, putT T p (T 0 0 5) v 11 i = T 11 i := fun i => putT_ne (by omega)
  have hmv : ∀ k, mvT (putT T p (T 0 0 5) v) k = mvT T k := fun k => by
    unfold mvT
    rw [h11]
  refine ⟨?_, ?_, ?_, ?_, ?_, ?_, ?_⟩
  · intro q hq
    by_cases e : q = p
    · subst e
      refine ⟨by rw [hR.1]; split <;> omega, by rw [hR.1]; split <;> omega, putT_srt ⟨r1, r2⟩ ⟨by have := a2.1; omega, by have := a2.2.1; omega⟩ (a5 q hq).2 hc r3, fun j hj => ?_⟩
      · rw [hR.1] at hj
        unfold putT
        split at hj
        · next e1 =>
          rw [if_pos e1]
          by_cases hj2 : j = (T 6 q 2).toNat
          · rw [up_at hj2]
            exact hv
          · rw [up_of (fun w => hj2 w.2.2)]
            exact r4 j (by omega)
        · next e1 =>
          rw [if_neg e1, if_neg (by omega)]
          by_cases hj2 : j = (T 6 q 2 + 1).toNat
          · rw [up_of (by omega), up_of (by omega), up_of (by omega), up_at hj2]
            exact hv
          · rw [up_of (by omega), up_of (by omega), up_of (by omega), up_of (fun w => hj2 w.2.2), up_of (by omega)]
            exact r4 j (by omega)
    · rw [putT_ne (fun w => e w.2), putT_ne (fun w => e w.2), putT_ne (fun w => e w.2)]
      exact a1 q hq
  · unfold DN
    rw [h0]
    exact a2
  · intro i hi
    rw [h0] at hi
    rw [h10]
    exact a3 i hi
  · intro k hk
    rw [h0] at hk
    rw [h11, h0]
    exact a4 k hk
  · intro q hq
    by_cases e : q = p
    · subst e
      rw [hR.2.1, hR.2.2.1, h0]
      exact ⟨rfl, Int.le_refl _⟩
    · rw [putT_ne (fun w => e w.2), putT_ne (fun w => e w.2), h0]
      exact a5 q hq
  · intro k hk
    rw [h0] at hk
    rw [hmv, h11, h10]
    exact a6 k hk
  · intro k k' hk hk'
    rw [h0] at hk hk'
    rw [hmv, hmv, h11, h11]
    exact a7 k k' hk hk'
theorem CN_def {T : TT} {z : Int} (h : CN T) (hz : 100 ≤ z ∧ z ≤ 10000) : CN (up T 0 0 6 z) := by
  obtain ⟨a1, ⟨d1, d2, d3, d4⟩, a3, a4, a5, a6, a7⟩ := h
  exact ⟨a1, ⟨d1, d2, hz.1, hz.2⟩, a3, a4, a5, a6, a7⟩
theorem CN_pay {T : TT} {z w : Int} (h : CN T) (hz : 0 ≤ z ∧ z < T 0 0 7) (hw : 0 ≤ w ∧ T 10 z.toNat 1 + w ≤ 100000000) : CN (up T 10 z.toNat 1 (T 10 z.toNat 1 + w)) := by
  obtain ⟨n1, n2, n3, n4, n5, n6, n7⟩ := h
  refine ⟨n1, n2, ?_, n4, n5, ?_, n7⟩
  · intro i hi
    by_cases e : i = z.toNat
    · subst e
      have := n3 z.toNat hi
      rw [up_of (by omega), up_at rfl, up_of (by omega)]
      omega
    · rw [up_ne (fun q => e q.2)]
      exact n3 i hi
  · intro k hk h3
    have := n6 k hk h3
    show T 11 k 1 = up T 10 z.toNat 1 _ 10 (mvT T k) 0 ∧ up T 10 z.toNat 1 _ 10 (mvT T k) 2 = 1 ∧ T 11 k 6 = 0
    rw [up_of (by omega), up_of (by omega)]
    exact this
theorem FI_P {ks : KK} {ad : AD} {P : PP} {t i j : Nat} {v : Option Nat} (ht : 0 < t) (h : FI ks ad P) : FI ks ad (upP P t i j v) := by
  unfold FI at h ⊢
  rw [upP_ne (fun w => by have := w.1; omega)]
  exact h
theorem RK_P {ks : KK} {ad : AD} {P : PP} {t i j : Nat} {v : Option Nat} (ht : t ≠ 1 ∧ t ≠ 2 ∧ t ≠ 6) (h : RK ks ad P) : RK ks ad (upP P t i j v) := by
  intro p hp
  rw [upP_ne (fun w => ht.1 w.1.symm), upP_ne (fun w => ht.2.1 w.1.symm), upP_ne (fun w => ht.2.2 w.1.symm)]
  exact h p hp
abbrev NS (T : TT) : Nat := (T 0 0 7).toNat
abbrev NO (T : TT) : Nat := (T 0 0 8).toNat
theorem begT_ne {T : TT} {z w : Int} {a b : Nat} (h : ¬ (a = 10 ∧ b = NS T)) (h0 : ¬ (a = 0 ∧ b = 0)) : begT T z w a b = T a b := by
  unfold begT
  rw [up_ne h0, up_ne h, up_ne h, up_ne h, zrT_ne h]
theorem begT_0 {T : TT} {z w : Int} {j : Nat} : begT T z w 0 0 j = if j = 7 then T 0 0 7 + 1 else T 0 0 j := by
  unfold begT
  by_cases e : j = 7
  · rw [if_pos e, up_at e]
  · rw [if_neg e, up_of (by omega), up_of (by omega), up_of (by omega), up_of (by omega), zrT_ne (by omega)]
theorem begT_hi {T : TT} {z w : Int} : HiE (begT T z w) T := by
  unfold begT
  exact ((((HiE.r.lz (by decide)).lo (by decide)).lo (by decide)).lo (by decide)).lo (by decide)
theorem CK_beg {ks : KK} {ad : AD} {T T' : TT} {P : PP} {q : Nat} (h : CK ks ad T P) (h7 : T' 0 0 7 = T 0 0 7 + 1) (h10 : T 0 0 7 < 10) (h8 : T' 0 0 8 = T 0 0 8) (h11 : ∀ k, T' 11 k 0 = T 11 k 0) : CK (ks ++ [(10, NS T)]) (upA ad 10 (NS T) q) T' (upP (zrP P 10 (NS T)) 4 0 (NS T) (some q)) := by
  obtain ⟨a1, a2, ⟨s0, s1, s2, s3⟩, ⟨o0, o1, o2, o3⟩, ⟨f1, f2⟩, a6⟩ := h
  have hns : ((NS T : Nat) : Int) = T 0 0 7 := Int.toNat_of_nonneg s0
  refine ⟨FI_P (by decide) (FI_new (by decide) a1), RK_P (by decide) (RK_new (by decide) a2), ⟨by omega, by omega, fun i hi => ?_, fun i hi => ?_⟩, ⟨by omega, by omega, fun k hk => ?_, fun k hk => ?_⟩, ⟨fun i hi => ?_, fun k hk => ?_⟩, a6.app⟩
  · by_cases e : i = NS T
    · subst e
      rw [if_pos (by omega), upA_s]
      exact if_pos ⟨rfl, rfl, rfl⟩
    · have e1 : upP (zrP P 10 (NS T)) 4 0 (NS T) (some q) 4 0 i = P 4 0 i := by
        rw [show upP (zrP P 10 (NS T)) 4 0 (NS T) (some q) 4 0 i = zrP P 10 (NS T) 4 0 i from if_neg (fun w => e w.2.2), zrP_ne (by omega)]
      rw [e1, s2 i hi, upA_ne (fun w => e w.2)]
      by_cases hl : (i : Int) < T 0 0 7
      · rw [if_pos hl, if_pos (by omega)]
      · rw [if_neg hl, if_neg (by omega)]
  · by_cases e : i = NS T
    · rw [e]
      exact List.mem_append_right _ List.mem_cons_self
    · exact List.mem_append_left _ (s3 i (by omega))
  · rw [upP_ne (by omega), zrP_ne (by omega), upA_ne (by omega), h8]
    exact o2 k hk
  · rw [h8] at hk
    obtain ⟨r1, r2, r3, r4⟩ := o3 k hk
    have hm : mvT T' k = mvT T k := by
      unfold mvT
      rw [h11]
    exact ⟨List.mem_append_left _ r1, trivial, by rw [h11]; exact r3, by rw [h11]; omega⟩
  · intro hm
    rcases List.mem_append.mp hm with hm | hm
    · exact f1 i (by omega) hm
    · have := List.mem_singleton.mp hm
      cases this
      omega
  · intro hm
    rcases List.mem_append.mp hm with hm | hm
    · exact f2 k (by omega) hm
    · have := List.mem_singleton.mp hm
      cases this
theorem CN_beg {T : TT} {z w : Int} (h : CN T) (h7 : 0 ≤ T 0 0 7 ∧ T 0 0 7 < 10) (hmb : ∀ k : Nat, (k : Int) < T 0 0 8 → mvT T k ≠ NS T) (hz : 0 ≤ z ∧ z < 5) (hw : 0 ≤ w ∧ w ≤ 1000000) : CN (begT T z w) := by
  have hns : ((NS T : Nat) : Int) = T 0 0 7 := Int.toNat_of_nonneg h7.1
  have hvi := valT_in h.1 (p := z.toNat) (by omega) (T 0 0 5)
  have ht1 := thF_nn (m := w) (pr := valT T z.toNat (T 0 0 5)) (by omega) (by omega)
  have ht2 := thF_le (m := w) (pr := valT T z.toNat (T 0 0 5)) (by omega) (by omega)
  have hb0 : ∀ j, begT T z w 0 0 j = if j = 7 then T 0 0 7 + 1 else T 0 0 j := fun j => begT_0
  have hb5 : begT T z w 0 0 5 = T 0 0 5 := hb0 5
  have hb6 : begT T z w 0 0 6 = T 0 0 6 := hb0 6
  have hb7 : begT T z w 0 0 7 = T 0 0 7 + 1 := hb0 7
  have hb8 : begT T z w 0 0 8 = T 0 0 8 := hb0 8
  have hmv : ∀ k, mvT (begT T z w) k = mvT T k := fun k => by
    unfold mvT
    rw [begT_ne (by omega) (by omega)]
  have hs0 : begT T z w 10 (NS T) 0 = z := by
    unfold begT
    rw [up_of (by omega), up_of (by omega), up_at rfl]
  have hs1 : begT T z w 10 (NS T) 1 = thF w (valT T z.toNat (T 0 0 5)) := by
    unfold begT
    rw [up_of (by omega), up_at rfl]
  have hs2 : begT T z w 10 (NS T) 2 = 0 := by
    unfold begT
    rw [up_of (by omega), up_of (by omega), up_of (by omega), up_at rfl]
  obtain ⟨n1, n2, n3, n4, n5, n6, n7⟩ := h
  refine ⟨?_, ?_, ?_, ?_, ?_, ?_, ?_⟩
  · exact RN_congr (fun p => begT_ne (by omega) (by omega)) (fun p => begT_ne (by omega) (by omega)) (fun p => begT_ne (by omega) (by omega)) n1
  · unfold DN
    rw [hb5, hb6]
    exact n2
  · intro i hi
    rw [hb7] at hi
    by_cases e : i = NS T
    · rw [e, hs0, hs1, hs2]
      omega
    · rw [begT_ne (fun w => e w.2) (by omega)]
      exact n3 i (by omega)
  · intro k hk
    rw [hb8] at hk
    rw [begT_ne (by omega) (by omega), hb5]
    exact n4 k hk
  · intro p hp
    rw [begT_ne (by omega) (by omega), begT_ne (by omega) (by omega), hb5]
    exact n5 p hp
  · intro k hk h3
    rw [hb8] at hk
    rw [begT_ne (by omega) (by omega)] at h3
    rw [hmv, begT_ne (by omega) (by omega), begT_ne (fun w => hmb k hk w.2) (by omega)]
    exact n6 k hk h3
  · intro k k' hk hk' h3 h3' hm
    rw [hb8] at hk hk'
    rw [begT_ne (by omega) (by omega)] at h3 h3'
    rw [hmv, hmv] at hm
    exact n7 k k' hk hk' h3 h3' hm
theorem oriT_ne {T : TT} {k : Nat} {sv h to d : Int} {a b : Nat} (q : ¬ (a = 11 ∧ b = k)) : oriT T k sv h to d a b = T a b := by
  unfold oriT
  rw [up_ne q, up_ne q, up_ne q, up_ne q, up_ne q, up_ne q, up_ne q, up_ne q, up_ne q, up_ne q]
theorem ordT_ne {T : TT} {z w : Int} {a b : Nat} (h : ¬ (a = 11 ∧ b = NO T)) (h0 : ¬ (a = 0 ∧ b = 0)) (h1 : ¬ (a = 10 ∧ b = z.toNat)) : ordT T z w a b = T a b := by
  unfold ordT
  rw [up_ne h1, up_ne h0, oriT_ne h, zrT_ne h]
theorem ordT_0 {T : TT} {z w : Int} {j : Nat} : ordT T z w 0 0 j = if j = 8 then T 0 0 8 + 1 else T 0 0 j := by
  unfold ordT
  by_cases e : j = 8
  · rw [if_pos e, up_of (by omega), up_at e]
  · rw [if_neg e, up_of (by omega), up_of (by omega), oriT_ne (by omega), zrT_ne (by omega)]
theorem ordT_10 {T : TT} {z w : Int} {i j : Nat} : ordT T z w 10 i j = if i = z.toNat ∧ j = 2 then 1 else T 10 i j := by
  unfold ordT
  by_cases e : i = z.toNat ∧ j = 2
  · rw [if_pos e, e.1, up_at e.2]
  · rw [if_neg e, up_of (fun w => e w.2), up_of (by omega), oriT_ne (by omega), zrT_ne (by omega)]
theorem ordT_n {T : TT} {z w : Int} : ordT T z w 11 (NO T) 1 = T 10 z.toNat 0 ∧ ordT T z w 11 (NO T) 2 = w ∧ ordT T z w 11 (NO T) 3 = 0 ∧ ordT T z w 11 (NO T) 4 = T 0 0 5 ∧ ordT T z w 11 (NO T) 5 = 0 ∧ ordT T z w 11 (NO T) 6 = 0 ∧ ordT T z w 11 (NO T) 7 = 0 ∧ ordT T z w 11 (NO T) 8 = 0 ∧ ordT T z w 11 (NO T) 9 = 0 ∧ ordT T z w 11 (NO T) 0 = z := by
  refine ⟨?_, ?_, ?_, ?_, ?_, ?_, ?_, ?_, ?_, ?_⟩ <;> simp [ordT, oriT, up]
theorem ordT_hi {T : TT} {z w : Int} : HiE (ordT T z w) T := by
  unfold ordT oriT
  exact (((((((((((((HiE.r.lz (by decide)).lo (by decide)).lo (by decide)).lo (by decide)).lo (by decide)).lo (by decide)).lo (by decide)).lo (by decide)).lo (by decide)).lo (by decide)).lo (by decide)).lo (by decide)).lo (by decide))
theorem CK_ord {ks : KK} {ad : AD} {T T' : TT} {P : PP} {q : Nat} {z : Int} (h : CK ks ad T P) (hz : 0 ≤ z ∧ z < T 0 0 7) (h7 : T' 0 0 7 = T 0 0 7) (h30 : T 0 0 8 < 30) (h8 : T' 0 0 8 = T 0 0 8 + 1) (h11 : ∀ k, k ≠ NO T → T' 11 k 0 = T 11 k 0) (hn : T' 11 (NO T) 0 = z) : CK (ks ++ [(11, NO T)]) (upA ad 11 (NO T) q) T' (upP (zrP P 11 (NO T)) 5 0 (NO T) (some q)) := by
  obtain ⟨a1, a2, ⟨s0, s1, s2, s3⟩, ⟨o0, o1, o2, o3⟩, ⟨f1, f2⟩, a6⟩ := h
  have hno : ((NO T : Nat) : Int) = T 0 0 8 := Int.toNat_of_nonneg o0
  refine ⟨FI_P (by decide) (FI_new (by decide) a1), RK_P (by decide) (RK_new (by decide) a2), ⟨by omega, by omega, fun i hi => ?_, fun i hi => ?_⟩, ⟨by omega, by omega, fun k hk => ?_, fun k hk => ?_⟩, ⟨fun i hi => ?_, fun k hk => ?_⟩, a6.app⟩
  · rw [upP_ne (by omega), zrP_ne (by omega), upA_ne (by omega), h7]
    exact s2 i hi
  · rw [h7] at hi
    exact List.mem_append_left _ (s3 i hi)
  · by_cases e : k = NO T
    · subst e
      rw [if_pos (by omega), upA_s]
      exact if_pos ⟨rfl, rfl, rfl⟩
    · have e1 : upP (zrP P 11 (NO T)) 5 0 (NO T) (some q) 5 0 k = P 5 0 k := by
        rw [show upP (zrP P 11 (NO T)) 5 0 (NO T) (some q) 5 0 k = zrP P 11 (NO T) 5 0 k from if_neg (fun w => e w.2.2), zrP_ne (by omega)]
      rw [e1, o2 k hk, upA_ne (fun w => e w.2)]
      by_cases hl : (k : Int) < T 0 0 8
      · rw [if_pos hl, if_pos (by omega)]
      · rw [if_neg hl, if_neg (by omega)]
  · by_cases e : k = NO T
    · have hm : mvT T' k = z.toNat := by
        unfold mvT
        rw [e, hn]
      refine ⟨?_, ?_, ?_, ?_⟩
      · rw [e]
        exact List.mem_append_right _ List.mem_cons_self
      · trivial
      · rw [e, hn]
        omega
      · rw [e, hn]
        omega
    · obtain ⟨r1, r2, r3, r4⟩ := o3 k (by omega)
      have hm : mvT T' k = mvT T k := by
        unfold mvT
        rw [h11 k e]
      exact ⟨List.mem_append_left _ r1, trivial, by rw [h11 k e]; exact r3, by rw [h11 k e]; omega⟩
  · intro hm
    rcases List.mem_append.mp hm with hm | hm
    · exact f1 i (by omega) hm
    · have := List.mem_singleton.mp hm
      cases this
  · intro hm
    rcases List.mem_append.mp hm with hm | hm
    · exact f2 k (by omega) hm
    · have := List.mem_singleton.mp hm
      cases this
      omega
theorem CN_ord {T : TT} {z w : Int} (h : CN T) (hk8 : 0 ≤ T 0 0 8) (hz : 0 ≤ z ∧ z < T 0 0 7) (m : 0 ≤ w ∧ w < 5 ∧ w ≠ T 10 z.toNat 0 ∧ T 10 z.toNat 2 = 0) : CN (ordT T z w) := by
  have hno : ((NO T : Nat) : Int) = T 0 0 8 := Int.toNat_of_nonneg hk8
  have hs := h.2.2.1 z.toNat (by omega)
  have hb0 : ∀ j, ordT T z w 0 0 j = if j = 8 then T 0 0 8 + 1 else T 0 0 j := fun j => ordT_0
  have hb5 : ordT T z w 0 0 5 = T 0 0 5 := hb0 5
  have hb6 : ordT T z w 0 0 6 = T 0 0 6 := hb0 6
  have hb7 : ordT T z w 0 0 7 = T 0 0 7 := hb0 7
  have hb8 : ordT T z w 0 0 8 = T 0 0 8 + 1 := hb0 8
  obtain ⟨w1, w2, w3, w4, w5, w6, w7, w8, w9, wx⟩ := ordT_n (T := T) (z := z) (w := w)
  have h11 : ∀ k : Nat, k ≠ NO T → ordT T z w 11 k = T 11 k := fun k e => ordT_ne (fun q => e q.2) (by omega) (by omega)
  have hmv : ∀ k : Nat, k ≠ NO T → mvT (ordT T z w) k = mvT T k := fun k e => by
    unfold mvT
    rw [h11 k e]
  have hmn : mvT (ordT T z w) (NO T) = z.toNat := by
    unfold mvT
    rw [wx]
  obtain ⟨n1, n2, n3, n4, n5, n6, n7⟩ := h
  refine ⟨?_, ?_, ?_, ?_, ?_, ?_, ?_⟩
  · exact RN_congr (fun p => ordT_ne (by omega) (by omega) (by omega)) (fun p => ordT_ne (by omega) (by omega) (by omega)) (fun p => ordT_ne (by omega) (by omega) (by omega)) n1
  · unfold DN
    rw [hb5, hb6]
    exact n2
  · intro i hi
    rw [hb7] at hi
    rw [ordT_10, ordT_10, ordT_10, if_neg (by omega), if_neg (by omega)]
    have := n3 i hi
    split <;> omega
  · intro k hk
    rw [hb8] at hk
    by_cases e : k = NO T
    · rw [e, w1, w2, w3, w4, w5, w6, w7, w8, w9, hb5]
      have := n2.1
      refine ⟨hs.1, hs.2.1, by omega, by omega, by omega, by omega, by omega, by omega, by omega, fun _ => by omega, by omega, by omega, by omega, by omega, by omega, by omega, by omega, by omega, by omega⟩
    · rw [h11 k e, hb5]
      exact n4 k (by omega)
  · intro p hp
    rw [ordT_ne (by omega) (by omega) (by omega), ordT_ne (by omega) (by omega) (by omega), hb5]
    exact n5 p hp
  · intro k hk h3
    rw [hb8] at hk
    by_cases e : k = NO T
    · rw [e, hmn, w1, w6, ordT_10, ordT_10, if_neg (by omega), if_pos ⟨rfl, rfl⟩]
      exact ⟨rfl, rfl, rfl⟩
    · rw [h11 k e] at h3
      rw [hmv k e, h11 k e, ordT_10, ordT_10, if_neg (by omega)]
      have := n6 k (by omega) h3
      refine ⟨this.1, ?_, this.2.2⟩
      split
      · rfl
      · exact this.2.1
  · intro k k' hk hk' h3 h3' hm
    rw [hb8] at hk hk'
    have hx : ∀ k : Nat, (k : Int) < T 0 0 8 → T 11 k 3 < 3 → mvT T k ≠ z.toNat := fun k hk h3 hm => by
      have := (n6 k hk h3).2.1
      rw [hm] at this
      omega
    by_cases e : k = NO T
    · by_cases e' : k' = NO T
      · rw [e, e']
      · rw [h11 k' e'] at h3'
        rw [e, hmn, hmv k' e'] at hm
        exact absurd hm.symm (hx k' (by omega) h3')
    · rw [h11 k e] at h3
      by_cases e' : k' = NO T
      · rw [e', hmn, hmv k e] at hm
        exact absurd hm (hx k (by omega) h3)
      · rw [h11 k' e'] at h3'
        rw [hmv k e, hmv k' e'] at hm
        exact n7 k k' (by omega) (by omega) h3 h3' hm
