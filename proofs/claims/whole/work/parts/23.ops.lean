/-! setPrice -/
theorem putT_ne {T : TT} {p : Nat} {d v : Int} {a b : Nat} (h : ¬ ((a = 6 ∨ a = 7 ∨ a = 8) ∧ b = p)) : putT T p d v a b = T a b := by
  unfold putT
  split
  · exact up_ne (fun q => h ⟨Or.inr (Or.inr q.1), q.2⟩)
  · split
    · rfl
    · rw [up_ne (fun q => h ⟨Or.inl q.1, q.2⟩), up_ne (fun q => h ⟨Or.inl q.1, q.2⟩), up_ne (fun q => h ⟨Or.inl q.1, q.2⟩), up_ne (fun q => h ⟨Or.inr (Or.inr q.1), q.2⟩), up_ne (fun q => h ⟨Or.inr (Or.inl q.1), q.2⟩)]
theorem putT_hi {T : TT} {p : Nat} {d v : Int} : HiE (putT T p d v) T := fun a b c h1 h2 h3 => by
  rw [putT_ne (fun q => by omega)]
theorem idxT_cg {T T' : TT} {p : Nat} {d : Int} : ∀ n : Nat, (∀ j : Nat, j ≤ n → T' 7 p j = T 7 p j) → idxT T' p d n = idxT T p d n
  | 0, _ => rfl
  | n + 1, h => by
    unfold idxT
    rw [h (n + 1) (Nat.le_refl _), idxT_cg n (fun j hj => h j (by omega))]
/-- the row of prices after put, day and new price right -/
theorem putT_row {T : TT} {p : Nat} {D v : Int} (h6 : 0 ≤ T 6 p 2 ∧ T 6 p 2 ≤ 60) (hD : 0 ≤ D) (h70 : T 7 p 0 = 0) (hc : T 7 p (T 6 p 2).toNat = D ∨ T 6 p 2 < 60) :
    putT T p D v 6 p 2 = T 6 p 2 + (if T 7 p (T 6 p 2).toNat = D then 0 else 1) ∧ putT T p D v 7 p (putT T p D v 6 p 2).toNat = D ∧ putT T p D v 7 p 0 = 0 ∧ valT (putT T p D v) p D = v ∧ ∀ d : Int, 0 ≤ d → d < D → valT (putT T p D v) p d = valT T p d := by
  by_cases e : T 7 p (T 6 p 2).toNat = D
  · have hp : putT T p D v = up T 8 p (T 6 p 2).toNat v := by
      unfold putT
      rw [if_pos e]
    rw [hp, if_pos e]
    have k6 : up T 8 p (T 6 p 2).toNat v 6 p = T 6 p := up_ne (by omega)
    have k7 : up T 8 p (T 6 p 2).toNat v 7 p = T 7 p := up_ne (by omega)
    refine ⟨?_, ?_, ?_, ?_, ?_⟩
    · rw [k6]
      omega
    · rw [k6, k7]
      exact e
    · rw [k7]
      exact h70
    · unfold valT
      rw [idxT_congr k7, k6, idxT_top (by omega)]
      exact up_at rfl
    · intro d h1 h2
      unfold valT
      rw [idxT_congr k7, k6]
      refine up_of (fun q => ?_)
      have q3 := q.2.2
      cases hn : (T 6 p 2).toNat with
      | zero =>
        rw [hn] at e
        omega
      | succ n =>
        rw [hn] at q3 e
        have : idxT T p d (n + 1) = idxT T p d n := by
          show (if d < T 7 p (n + 1) then idxT T p d n else n + 1) = _
          exact if_pos (by omega)
        have := idxT_le T p d n
        omega
  · have hp : putT T p D v = up (up (up (up (up T 7 p (T 6 p 2 + 1).toNat D) 8 p (T 6 p 2 + 1).toNat v) 6 p 3 D) 6 p 4 (T 6 p 2 + 1 + 1)) 6 p 2 (T 6 p 2 + 1) := by
      unfold putT
      rw [if_neg e, if_neg (by omega)]
    rw [hp, if_neg e]
    have k6 : up (up (up (up (up T 7 p (T 6 p 2 + 1).toNat D) 8 p (T 6 p 2 + 1).toNat v) 6 p 3 D) 6 p 4 (T 6 p 2 + 1 + 1)) 6 p 2 (T 6 p 2 + 1) 6 p 2 = T 6 p 2 + 1 := by
      rw [up_at rfl]
    have k7 : ∀ j : Nat, up (up (up (up (up T 7 p (T 6 p 2 + 1).toNat D) 8 p (T 6 p 2 + 1).toNat v) 6 p 3 D) 6 p 4 (T 6 p 2 + 1 + 1)) 6 p 2 (T 6 p 2 + 1) 7 p j = if j = (T 6 p 2 + 1).toNat then D else T 7 p j := fun j => by
      rw [up_of (by omega), up_of (by omega), up_of (by omega), up_of (by omega)]
      by_cases hj : j = (T 6 p 2 + 1).toNat
      · rw [if_pos hj, up_at hj]
      · rw [if_neg hj, up_of (fun q => hj q.2.2)]
    refine ⟨k6, ?_, ?_, ?_, ?_⟩
    · rw [k6, k7, if_pos rfl]
    · rw [k7, if_neg (by omega)]
      exact h70
    · unfold valT
      rw [k6, idxT_top (by rw [k7, if_pos rfl]; omega), up_of (by omega), up_of (by omega), up_of (by omega)]
      exact up_at rfl
    · intro d h1 h2
      unfold valT
      rw [k6, show (T 6 p 2 + 1).toNat = (T 6 p 2).toNat + 1 by omega]
      have hs : ∀ X : TT, (X 7 p ((T 6 p 2).toNat + 1) = D) → idxT X p d ((T 6 p 2).toNat + 1) = idxT X p d (T 6 p 2).toNat := fun X hX => by
        show (if d < X 7 p ((T 6 p 2).toNat + 1) then idxT X p d (T 6 p 2).toNat else (T 6 p 2).toNat + 1) = _
        exact if_pos (by omega)
      rw [show (T 6 p 2 + 1).toNat = (T 6 p 2).toNat + 1 by omega] at k7
      rw [hs _ (by rw [k7, if_pos rfl]), idxT_cg (T := T) _ (fun j hj => by rw [k7, if_neg (by omega)])]
      have := idxT_le T p d (T 6 p 2).toNat
      rw [up_of (by omega), up_of (by omega), up_of (by omega), up_of (by omega), up_of (by omega)]
theorem putT_srt {T : TT} {p : Nat} {D v : Int} (h6 : 0 ≤ T 6 p 2 ∧ T 6 p 2 ≤ 60) (hD : inI D) (hl : T 7 p (T 6 p 2).toNat ≤ D) (hc : T 7 p (T 6 p 2).toNat = D ∨ T 6 p 2 < 60)
    (r : (∀ j : Nat, inI (T 7 p j)) ∧ T 7 p 0 = 0 ∧ T 6 p 3 = T 7 p (T 6 p 2).toNat ∧ T 6 p 4 = T 6 p 2 + 1 ∧ ∀ j : Nat, (j : Int) < T 6 p 2 → T 7 p j < T 7 p (j + 1)) :
    (∀ j : Nat, inI (putT T p D v 7 p j)) ∧ putT T p D v 7 p 0 = 0 ∧ putT T p D v 6 p 3 = putT T p D v 7 p (putT T p D v 6 p 2).toNat ∧ putT T p D v 6 p 4 = putT T p D v 6 p 2 + 1 ∧ ∀ j : Nat, (j : Int) < putT T p D v 6 p 2 → putT T p D v 7 p j < putT T p D v 7 p (j + 1) := by
  by_cases e : T 7 p (T 6 p 2).toNat = D
  · have hp : putT T p D v = up T 8 p (T 6 p 2).toNat v := by
      unfold putT
      rw [if_pos e]
    have k6 : up T 8 p (T 6 p 2).toNat v 6 p = T 6 p := up_ne (by omega)
    have k7 : up T 8 p (T 6 p 2).toNat v 7 p = T 7 p := up_ne (by omega)
    rw [hp, k6, k7]
    exact r
  · have hp : putT T p D v = up (up (up (up (up T 7 p (T 6 p 2 + 1).toNat D) 8 p (T 6 p 2 + 1).toNat v) 6 p 3 D) 6 p 4 (T 6 p 2 + 1 + 1)) 6 p 2 (T 6 p 2 + 1) := by
      unfold putT
      rw [if_neg e, if_neg (by omega)]
    have k2 : up (up (up (up (up T 7 p (T 6 p 2 + 1).toNat D) 8 p (T 6 p 2 + 1).toNat v) 6 p 3 D) 6 p 4 (T 6 p 2 + 1 + 1)) 6 p 2 (T 6 p 2 + 1) 6 p 2 = T 6 p 2 + 1 := by
      rw [up_at rfl]
    have k3 : up (up (up (up (up T 7 p (T 6 p 2 + 1).toNat D) 8 p (T 6 p 2 + 1).toNat v) 6 p 3 D) 6 p 4 (T 6 p 2 + 1 + 1)) 6 p 2 (T 6 p 2 + 1) 6 p 3 = D := by
      rw [up_of (by omega), up_of (by omega), up_at rfl]
    have k4 : up (up (up (up (up T 7 p (T 6 p 2 + 1).toNat D) 8 p (T 6 p 2 + 1).toNat v) 6 p 3 D) 6 p 4 (T 6 p 2 + 1 + 1)) 6 p 2 (T 6 p 2 + 1) 6 p 4 = T 6 p 2 + 1 + 1 := by
      rw [up_of (by omega), up_at rfl]
    have k7 : ∀ j : Nat, up (up (up (up (up T 7 p (T 6 p 2 + 1).toNat D) 8 p (T 6 p 2 + 1).toNat v) 6 p 3 D) 6 p 4 (T 6 p 2 + 1 + 1)) 6 p 2 (T 6 p 2 + 1) 7 p j = if j = (T 6 p 2 + 1).toNat then D else T 7 p j := fun j => by
      rw [up_of (by omega), up_of (by omega), up_of (by omega), up_of (by omega)]
      by_cases hj : j = (T 6 p 2 + 1).toNat
      · rw [if_pos hj, up_at hj]
      · rw [if_neg hj, up_of (fun q => hj q.2.2)]
    obtain ⟨r1, r2, r3, r4, r5⟩ := r
    rw [hp]
    refine ⟨fun j => ?_, ?_, ?_, ?_, fun j hj => ?_⟩
    · rw [k7]
      split
      · exact hD
      · exact r1 j
    · rw [k7, if_neg (by omega)]
      exact r2
    · rw [k3, k2, k7, if_pos rfl]
    · rw [k4, k2]
    · rw [k2] at hj
      rw [k7, k7, if_neg (by omega)]
      by_cases hj2 : (j : Int) = T 6 p 2
      · rw [if_pos (by omega), show j = (T 6 p 2).toNat by omega]
        omega
      · rw [if_neg (by omega)]
        exact r5 j (by omega)
theorem CN_put {T : TT} {p : Nat} {v : Int} (h : CN T) (hp : p < 5) (hv : 100 ≤ v ∧ v ≤ 10000) (hc : T 7 p (T 6 p 2).toNat = T 0 0 5 ∨ T 6 p 2 < 60) : CN (putT T p (T 0 0 5) v) := by
  obtain ⟨a1, a2, a3, a4, a5, a6, a7⟩ := h
  obtain ⟨r1, r2, r3, r4⟩ := a1 p hp
  have hR := putT_row (v := v) ⟨r1, r2⟩ a2.1 (a5 p hp).1 hc
  have h0 : putT T p (T 0 0 5) v 0 0 = T 0 0 := putT_ne (by omega)
  have h10 : ∀ i, putT T p (T 0 0 5) v 10 i = T 10 i := fun i => putT_ne (by omega)
  have h11 : ∀ i, putT T p (T 0 0 5) v 11 i = T 11 i := fun i => putT_ne (by omega)
  have hmv : ∀ k, mvT (putT T p (T 0 0 5) v) k = mvT T k := fun k => by
    unfold mvT
    rw [h11]
  refine ⟨?_, ?_, ?_, ?_, ?_, ?_, ?_⟩
  · intro q hq
    by_cases e : q = p
    · subst e
      refine ⟨by rw [hR.1]; split <;> omega, by rw [hR.1]; split <;> omega, putT_srt ⟨r1, r2⟩ ⟨by have := a2.1; omega, by have := a2.2.1; omega⟩ (a5 q hq).2 hc r3, fun j hj => ?_⟩
      · rw [hR.1] at hj
        unfold putT
        split at hj
        · next e1 =>
          rw [if_pos e1]
          by_cases hj2 : j = (T 6 q 2).toNat
          · rw [up_at hj2]
            exact hv
          · rw [up_of (fun w => hj2 w.2.2)]
            exact r4 j (by omega)
        · next e1 =>
          rw [if_neg e1, if_neg (by omega)]
          by_cases hj2 : j = (T 6 q 2 + 1).toNat
          · rw [up_of (by omega), up_of (by omega), up_of (by omega), up_at hj2]
            exact hv
          · rw [up_of (by omega), up_of (by omega), up_of (by omega), up_of (fun w => hj2 w.2.2), up_of (by omega)]
            exact r4 j (by omega)
    · rw [putT_ne (fun w => e w.2), putT_ne (fun w => e w.2), putT_ne (fun w => e w.2)]
      exact a1 q hq
  · unfold DN
    rw [h0]
    exact a2
  · intro i hi
    rw [h0] at hi
    rw [h10]
    exact a3 i hi
  · intro k hk
    rw [h0] at hk
    rw [h11, h0]
    exact a4 k hk
  · intro q hq
    by_cases e : q = p
    · subst e
      rw [hR.2.1, hR.2.2.1, h0]
      exact ⟨rfl, Int.le_refl _⟩
    · rw [putT_ne (fun w => e w.2), putT_ne (fun w => e w.2), h0]
      exact a5 q hq
  · intro k hk
    rw [h0] at hk
    rw [hmv, h11, h10]
    exact a6 k hk
  · intro k k' hk hk'
    rw [h0] at hk hk'
    rw [hmv, hmv, h11, h11]
    exact a7 k k' hk hk'
def Wset (T : TT) (z w k : Int) (T1 : TT) : Prop := (k = 1 ∧ (z < 0 ∨ 5 ≤ z ∨ w < 100 ∨ 10000 < w) ∧ T1 = T) ∨ (k = 2 ∧ (0 ≤ z ∧ z < 5 ∧ 100 ≤ w ∧ w ≤ 10000 ∧ T 7 z.toNat (T 6 z.toNat 2).toNat ≠ T 0 0 5 ∧ 60 ≤ T 6 z.toNat 2) ∧ T1 = T) ∨ (k = 0 ∧ (0 ≤ z ∧ z < 5 ∧ 100 ≤ w ∧ w ≤ 10000 ∧ (T 7 z.toNat (T 6 z.toNat 2).toNat = T 0 0 5 ∨ T 6 z.toNat 2 < 60)) ∧ T1 = up (putT T z.toNat (T 0 0 5) w) 43 0 0 (valT T z.toNat (T 0 0 5)))
theorem Wset.hi {T T1 : TT} {z w k : Int} (h : Wset T z w k T1) : HiE T1 T := by
  rcases h with ⟨-, -, rfl⟩ | ⟨-, -, rfl⟩ | ⟨-, -, rfl⟩
  · exact HiE.r
  · exact HiE.r
  · exact putT_hi.ou
theorem op_set {ks : KK} {ad : AD} {T : TT} {P : PP} (h : IV ks ad T P) {z w k r : Int} {T1 T2 : TT} (hw : Wset T z w k T1)
    (hm : ((z < 0 ∨ 5 ≤ z ∨ w < 100 ∨ 10000 < w) ∧ T2 = up T1 12 0 0 1) ∨ ((0 ≤ z ∧ z < 5 ∧ 100 ≤ w ∧ w ≤ 10000 ∧ T1 23 0 z.toNat = 61 ∧ T1 24 0 z.toNat ≠ T1 12 0 1) ∧ T2 = up (up T1 12 0 0 0) 12 0 0 2) ∨
      ((0 ≤ z ∧ z < 5 ∧ 100 ≤ w ∧ w ≤ 10000 ∧ (T1 23 0 z.toNat ≠ 61 ∨ T1 24 0 z.toNat = T1 12 0 1) ∧ r = mpr T1 z (T1 12 0 1)) ∧ T2 = up (up (up (up (up T1 12 0 0 0) 12 0 0 0) 23 0 z.toNat (T1 23 0 z.toNat + (if T1 24 0 z.toNat = T1 12 0 1 then 0 else 1))) 24 0 z.toNat (T1 12 0 1)) 22 0 (2001 * z + T1 12 0 1).toNat w)) : T2 12 0 0 = k ∧ (k = 0 → r = T2 43 0 0) ∧ IV ks ad T2 P := by
  have hi := hw.hi
  have e1 : T1 12 0 1 = T 0 0 5 := (hi 12 0 1 (by omega) (by omega) (by omega)).trans h.2.2.1.1
  by_cases hz : 0 ≤ z ∧ z < 5
  · have hzn : z.toNat < 5 := by omega
    have e2 : T1 23 0 z.toNat = T 6 z.toNat 2 + 1 := (hi 23 0 z.toNat (by omega) (by omega) (by omega)).trans (h.2.2.2.1 _ hzn).1
    have e3 : T1 24 0 z.toNat = T 7 z.toNat (T 6 z.toNat 2).toNat := (hi 24 0 z.toNat (by omega) (by omega) (by omega)).trans (h.2.2.2.1 _ hzn).2.1
    have hN := h.2.1
    obtain ⟨r1, r2, r3, r4⟩ := hN.1 _ hzn
    have hd := hN.2.1
    have hv : mpr T1 z (T1 12 0 1) = valT T z.toNat (T 0 0 5) := by
      rw [mpr_hi hi, e1]
      have := (h.2.2.2.1 _ hzn).2.2 (T 0 0 5) hd.1 (Int.le_refl _)
      rw [show ((z.toNat : Nat) : Int) = z by omega] at this
      exact this
    rw [e2, e3, hv, e1] at hm
    rcases hw with ⟨rfl, c, rfl⟩ | ⟨rfl, c, rfl⟩ | ⟨rfl, c, hT1⟩
    · rcases hm with ⟨m, rfl⟩ | ⟨m, rfl⟩ | ⟨m, m2⟩
      · exact ⟨rfl, fun q => by omega, h.congr (LoE.r.hi (by decide)) HiE.r.th⟩
      · omega
      · omega
    · rcases hm with ⟨m, rfl⟩ | ⟨m, rfl⟩ | ⟨m, m2⟩
      · omega
      · exact ⟨rfl, fun q => by omega, h.congr ((LoE.r.hi (by decide)).hi (by decide)) HiE.r.th.th⟩
      · omega
    · rcases hm with ⟨m, rfl⟩ | ⟨m, rfl⟩ | ⟨m, hT2⟩
      · omega
      · omega
      · have hlo : LoE T2 (putT T z.toNat (T 0 0 5) w) := by
          rw [hT2, hT1]
          exact (((((LoE.r.hi (by decide)).hi (by decide)).hi (by decide)).hi (by decide)).hi (by decide)).hi (by decide)
        have hhi : HiE T2 (up (up (up T 23 0 z.toNat (T 6 z.toNat 2 + 1 + (if T 7 z.toNat (T 6 z.toNat 2).toNat = T 0 0 5 then 0 else 1))) 24 0 z.toNat (T 0 0 5)) 22 0 (2001 * z + T 0 0 5).toNat w) := by
          rw [hT2, hT1]
          exact ((putT_hi.ou.th.th.hup rfl rfl).hup rfl rfl).hup rfl rfl
        have hrow := putT_row (v := w) ⟨r1, r2⟩ hd.1 (hN.2.2.2.2.1 _ hzn).1 c.2.2.2.2
        obtain ⟨hK, -, hR⟩ := h
        refine ⟨?_, fun _ => ?_, ?_, ?_, ?_⟩
        · rw [hT2, up_of (by omega), up_of (by omega), up_of (by omega), up_at rfl]
        · rw [hT2, up_of (by omega), up_of (by omega), up_of (by omega), up_of (by omega), up_of (by omega), hT1, up_at rfl]
          exact m.2.2.2.2.2
        · refine hK.congr ?_ ?_ (fun k => ?_)
          · rw [hlo 0 0 (by omega), putT_ne (by omega)]
          · rw [hlo 0 0 (by omega), putT_ne (by omega)]
          · rw [hlo 11 k (by omega), putT_ne (by omega)]
        · exact (CN_put hN hzn ⟨by omega, by omega⟩ c.2.2.2.2).congr hlo
        · refine Rel.congr hlo hhi ?_
          obtain ⟨⟨b1, b2, b3, b4⟩, c5, c6, c6b, c7, c8, c9, c10⟩ := hR
          have h0 : putT T z.toNat (T 0 0 5) w 0 0 = T 0 0 := putT_ne (by omega)
          have h10 : ∀ i, putT T z.toNat (T 0 0 5) w 10 i = T 10 i := fun i => putT_ne (by omega)
          have h11 : ∀ i, putT T z.toNat (T 0 0 5) w 11 i = T 11 i := fun i => putT_ne (by omega)
          have h9 : ∀ i, putT T z.toNat (T 0 0 5) w 9 i = T 9 i := fun i => putT_ne (by omega)
          have h3 : ∀ i, putT T z.toNat (T 0 0 5) w 3 i = T 3 i := fun i => putT_ne (by omega)
          refine ⟨?_, fun p hp => ?_, ?_, ?_, ?_, ?_, ?_, ?_⟩
          · rw [h0]
            exact ⟨b1, b2, b3, b4⟩
          · by_cases e : p = z.toNat
            · rw [e, h0]
              refine ⟨?_, ?_, fun d d1 d2 => ?_⟩
              · rw [up_of (by omega), up_of (by omega), up_at rfl, hrow.1]
                omega
              · rw [up_of (by omega), up_at rfl]
                exact hrow.2.1.symm
              · unfold mpr
                by_cases hd2 : d = T 0 0 5
                · rw [hd2, up_at (by omega)]
                  exact hrow.2.2.2.1.symm
                · rw [up_of (by omega), up_of (by omega), up_of (by omega), hrow.2.2.2.2 d d1 (by omega)]
                  exact (c5 _ hzn).2.2 d d1 d2
            · rw [putT_ne (fun q => e q.2), putT_ne (fun q => e q.2), h0, up_of (by omega), up_of (by omega), up_of (fun q => e q.2.2), up_of (by omega), up_of (fun q => e q.2.2), up_of (by omega)]
              refine ⟨(c5 p hp).1, (c5 p hp).2.1, fun d d1 d2 => ?_⟩
              rw [valT_congr (putT_ne (fun q => e q.2)) (putT_ne (fun q => e q.2)) (putT_ne (fun q => e q.2))]
              unfold mpr
              have hd1 := hd.1
              have hd2 := hd.2.1
              rw [up_of (by omega), up_of (by omega), up_of (by omega)]
              exact (c5 p hp).2.2 d d1 d2
          · rw [h0]
            intro i hi
            rw [h10]
            exact c6 i hi
          · rw [h0]
            exact c6b
          · rw [h0]
            intro k hk
            rw [h11]
            exact c7 k hk
          · rw [h0]
            exact c8
          · intro p q hp hq
            rw [h9]
            exact c9 p q hp hq
          · intro p hp
            rw [h3]
            exact c10 p hp
  · rcases hw with ⟨rfl, c, rfl⟩ | ⟨rfl, c, rfl⟩ | ⟨rfl, c, hT1⟩
    · rcases hm with ⟨m, rfl⟩ | ⟨m, rfl⟩ | ⟨m, m2⟩
      · exact ⟨rfl, fun q => by omega, h.congr (LoE.r.hi (by decide)) HiE.r.th⟩
      · omega
      · omega
    · omega
    · omega
