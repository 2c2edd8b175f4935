theorem goT_ne {C : TT} {k : Nat} {d lb : Int} {a b : Nat} (h : ¬ (a = 11 ∧ b = k)) : goT C k d lb a b = C a b := by
  unfold goT
  split
  · rw [up_ne h, up_ne h, up_ne h]
  · rw [up_ne h, up_ne h, up_ne h]
theorem goT_k {C : TT} {k : Nat} {d lb : Int} (j : Nat) : goT C k d lb 11 k j = if j = 3 then C 11 k 3 + 1 else if j = 4 then d else if j = 5 then C 11 k 5 + (if C 11 k 3 = 2 then 0 else lb) else if j = 6 then C 11 k 6 + (if C 11 k 3 = 2 then lb else 0) else C 11 k j := by
  unfold goT
  by_cases e : C 11 k 3 = 2
  · rw [if_pos e, if_pos e, if_pos e]
    by_cases j3 : j = 3
    · rw [up_at j3, if_pos j3]
    · rw [up_of (fun w => j3 w.2.2), if_neg j3]
      by_cases j4 : j = 4
      · rw [up_at j4, if_pos j4]
      · rw [up_of (fun w => j4 w.2.2), if_neg j4]
        by_cases j5 : j = 5
        · rw [if_pos j5, up_of (by omega), j5]
          omega
        · rw [if_neg j5]
          by_cases j6 : j = 6
          · rw [up_at j6, if_pos j6]
          · rw [up_of (fun w => j6 w.2.2), if_neg j6]
  · rw [if_neg e, if_neg e, if_neg e]
    by_cases j3 : j = 3
    · rw [up_at j3, if_pos j3]
    · rw [up_of (fun w => j3 w.2.2), if_neg j3]
      by_cases j4 : j = 4
      · rw [up_at j4, if_pos j4]
      · rw [up_of (fun w => j4 w.2.2), if_neg j4]
        by_cases j5 : j = 5
        · rw [up_at j5, if_pos j5]
        · rw [up_of (fun w => j5 w.2.2), if_neg j5]
          by_cases j6 : j = 6
          · rw [if_pos j6, j6]
            omega
          · rw [if_neg j6]
theorem sellT_k {T : TT} {k : Nat} {f : Int} (j : Nat) : sellT T k f 11 k j = if j = 7 then T 10 (mvT T k) 1 else if j = 8 then moF (T 10 (mvT T k) 1) (prF T (T 11 k 1).toNat f) else T 11 k j := by
  unfold sellT
  rw [up_of (by omega)]
  by_cases j8 : j = 8
  · rw [up_at j8, if_neg (by omega), if_pos j8]
  · rw [up_of (fun w => j8 w.2.2)]
    by_cases j7 : j = 7
    · rw [up_at j7, if_pos j7]
    · rw [up_of (fun w => j7 w.2.2), if_neg j7, if_neg j8]
theorem sellT_s {T : TT} {k : Nat} {f : Int} (i j : Nat) : sellT T k f 10 i j = if i = mvT T k ∧ j = 1 then 0 else T 10 i j := by
  unfold sellT
  by_cases e : i = mvT T k ∧ j = 1
  · rw [if_pos e, e.1, up_at e.2]
  · rw [if_neg e, up_of (fun w => e w.2), up_of (by omega), up_of (by omega)]
theorem coF_0 (p : Int) : coF 0 p = 0 := by
  unfold coF
  rw [Int.zero_mul]
  decide
/-- the model's reckoning is the class's -/
theorem shaT_9 {C : TT} {k : Nat} {co al : Int} (p q : Nat) : shaT C k co al 9 p q = C 9 p q + (if al ≤ 0 then 0 else if p = (C 11 k 1).toNat ∧ q = (C 11 k 2).toNat then co * C 11 k 5 / al else 0) := by
  unfold shaT
  by_cases e : al ≤ 0
  · rw [if_pos e, if_pos e]
    omega
  · rw [if_neg e, if_neg e, up_of (by omega)]
    by_cases q1 : p = (C 11 k 1).toNat ∧ q = (C 11 k 2).toNat
    · rw [if_pos q1, q1.1, q1.2, up_at rfl]
    · rw [if_neg q1, up_of (fun w => q1 w.2)]
      omega
theorem shaT_3 {C : TT} {k : Nat} {co al : Int} (q : Nat) : shaT C k co al 3 0 q = C 3 0 q + (if al ≤ 0 then 0 else if q = (C 11 k 2).toNat then co - co * C 11 k 5 / al else 0) := by
  unfold shaT
  by_cases e : al ≤ 0
  · rw [if_pos e, if_pos e]
    omega
  · rw [if_neg e, if_neg e]
    by_cases q1 : q = (C 11 k 2).toNat
    · rw [if_pos q1, q1, up_at rfl]
    · rw [if_neg q1, up_of (fun w => q1 w.2.2), up_of (by omega)]
      omega
theorem buyT_k {C : TT} {k : Nat} {lb f : Int} (j : Nat) : buyT C k lb f 11 k j = if j = 9 then lakT C k lb f else C 11 k j := by
  unfold buyT
  rw [arrT_at (by omega)]
  by_cases e : j = 9
  · rw [up_at e, if_pos e]
  · rw [up_of (fun w => e w.2.2), if_neg e, shaT_at k (by decide)]
theorem buyT_s {C : TT} {k : Nat} {lb f : Int} : buyT C k lb f 10 (mvT C k) 0 = C 11 k 2 ∧ buyT C k lb f 10 (mvT C k) 1 = gotT C k f + lakT C k lb f ∧ buyT C k lb f 10 (mvT C k) 2 = 0 := by
  unfold buyT arrT
  refine ⟨?_, ?_, ?_⟩
  · rw [up_of (by omega), up_of (by omega), up_at rfl]
  · rw [up_of (by omega), up_at rfl]
  · rw [up_at rfl]
theorem buyT_ne {C : TT} {k : Nat} {lb f : Int} {a b : Nat} (h : ¬ (a = 11 ∧ b = k)) (h1 : ¬ (a = 10 ∧ b = mvT C k)) (h2 : a ≠ 9 ∧ a ≠ 3) : buyT C k lb f a b = C a b := by
  unfold buyT
  rw [arrT_at h1, up_ne h, shaT_at b h2]
theorem buyT_9 {C : TT} {k : Nat} {lb f : Int} (p q : Nat) : buyT C k lb f 9 p q = C 9 p q + (if allL C k lb ≤ 0 then 0 else if p = (C 11 k 1).toNat ∧ q = (C 11 k 2).toNat then coF (lakT C k lb f) (valT C (C 11 k 2).toNat (C 0 0 5)) * C 11 k 5 / allL C k lb else 0) := by
  unfold buyT
  rw [arrT_at (by omega), up_of (by omega), shaT_9]
theorem buyT_r {C : TT} {k : Nat} {lb f : Int} (q : Nat) : buyT C k lb f 3 0 q = C 3 0 q + (if allL C k lb ≤ 0 then 0 else if q = (C 11 k 2).toNat then coF (lakT C k lb f) (valT C (C 11 k 2).toNat (C 0 0 5)) - coF (lakT C k lb f) (valT C (C 11 k 2).toNat (C 0 0 5)) * C 11 k 5 / allL C k lb else 0) := by
  unfold buyT
  rw [arrT_at (by omega), up_of (by omega), shaT_3]
theorem lateT_in2 {T : TT} {k : Nat} {d : Int} (h4 : 0 ≤ T 11 k 4 ∧ T 11 k 4 ≤ d) : 0 ≤ lateT T k d ∧ lateT T k d + T 11 k 4 ≤ d := by
  unfold lateT dueT
  split <;> split at * <;> omega
theorem goT_hi {X Y : TT} {k : Nat} {d lb : Int} (h : HiE X Y) : HiE (goT X k d lb) Y := by
  unfold goT
  split
  · exact ((h.lo (by decide)).lo (by decide)).lo (by decide)
  · exact ((h.lo (by decide)).lo (by decide)).lo (by decide)
theorem sellT_hi {X Y : TT} {k : Nat} {f : Int} (h : HiE X Y) : HiE (sellT X k f) Y := by
  unfold sellT
  exact ((h.lo (by decide)).lo (by decide)).lo (by decide)
theorem buyT_hi {X Y : TT} {k : Nat} {lb f : Int} (h : HiE X Y) : HiE (buyT X k lb f) Y := by
  unfold buyT arrT
  refine (((HiE.lo (by decide) ?_).lo (by decide)).lo (by decide)).lo (by decide)
  unfold shaT
  split
  · exact h
  · exact (h.lo (by decide)).lo (by decide)
theorem stpT_hi {T : TT} {k : Nat} {f : Int} : HiE (stpT T k f) T := by
  unfold stpT
  refine goT_hi ?_
  split
  · exact sellT_hi HiE.r
  · split
    · exact buyT_hi HiE.r
    · exact HiE.r
theorem CN_go {C : TT} {k : Nat} {lb : Int} (h : CN C) (hk : (k : Int) < C 0 0 8) (hst : C 11 k 3 ≤ 1) (hlb : 0 ≤ lb ∧ lb + C 11 k 4 ≤ C 0 0 5) : CN (goT C k (C 0 0 5) lb) := by
  obtain ⟨n1, n2, n3, n4, n5, n6, n7⟩ := h
  have hne : ∀ a b, a ≠ 11 → goT C k (C 0 0 5) lb a b = C a b := fun a b w => goT_ne (fun q => w q.1)
  have h00 := hne 0 0 (by omega)
  have hk1 : ∀ k', k' ≠ k → goT C k (C 0 0 5) lb 11 k' = C 11 k' := fun k' e => goT_ne (fun w => e w.2)
  have hmv : ∀ k', mvT (goT C k (C 0 0 5) lb) k' = mvT C k' := fun k' => by
    unfold mvT
    by_cases e : k' = k
    · rw [e, goT_k]
      rfl
    · rw [hk1 k' e]
  have h3 : ∀ k', goT C k (C 0 0 5) lb 11 k' 3 < 3 → C 11 k' 3 < 3 := fun k' => by
    by_cases e : k' = k
    · rw [e]
      omega
    · rw [hk1 k' e]
      exact id
  have hD1 := n2.1
  have hD2 := n2.2.1
  refine ⟨RN_congr (fun p => hne 6 p (by omega)) (fun p => hne 7 p (by omega)) (fun p => hne 8 p (by omega)) n1, ?_, ?_, ?_, ?_, ?_, ?_⟩
  · unfold DN
    rw [h00]
    exact n2
  · intro i hi
    rw [h00] at hi
    rw [hne 10 i (by omega)]
    exact n3 i hi
  · intro k' hk'
    rw [h00] at hk'
    have o := n4 k' hk'
    by_cases e : k' = k
    · subst e
      rw [h00, goT_k, goT_k, goT_k, goT_k, goT_k, goT_k, goT_k, goT_k, goT_k]
      show 0 ≤ C 11 k' 1 ∧ C 11 k' 1 < 5 ∧ 0 ≤ C 11 k' 2 ∧ C 11 k' 2 < 5 ∧ 0 ≤ C 11 k' 3 + 1 ∧ C 11 k' 3 + 1 ≤ 3 ∧ 0 ≤ C 0 0 5 ∧ C 0 0 5 ≤ C 0 0 5 ∧ 0 ≤ C 11 k' 5 + (if C 11 k' 3 = 2 then 0 else lb) ∧ (C 11 k' 3 + 1 ≤ 2 → C 11 k' 5 + (if C 11 k' 3 = 2 then 0 else lb) ≤ C 0 0 5) ∧ C 11 k' 5 + (if C 11 k' 3 = 2 then 0 else lb) ≤ 2000 ∧ 0 ≤ C 11 k' 6 + (if C 11 k' 3 = 2 then lb else 0) ∧ C 11 k' 6 + (if C 11 k' 3 = 2 then lb else 0) ≤ 2000 ∧ 0 ≤ C 11 k' 7 ∧ C 11 k' 7 ≤ 100000000 ∧ 0 ≤ C 11 k' 8 ∧ C 11 k' 8 ≤ 1000000000 ∧ 0 ≤ C 11 k' 9 ∧ C 11 k' 9 ≤ 100000000
      rw [if_neg (by omega), if_neg (by omega)]
      omega
    · rw [hk1 k' e, h00]
      exact o
  · intro p hp
    rw [hne 7 p (by omega), hne 6 p (by omega), h00]
    exact n5 p hp
  · intro k' hk' q3
    rw [h00] at hk'
    have q := n6 k' hk' (h3 k' q3)
    rw [hmv, hne 10 _ (by omega)]
    by_cases e : k' = k
    · subst e
      rw [goT_k, goT_k]
      show C 11 k' 1 = _ ∧ _ ∧ C 11 k' 6 + (if C 11 k' 3 = 2 then lb else 0) = 0
      rw [if_neg (by omega)]
      omega
    · rw [hk1 k' e]
      exact q
  · intro k' k'' hk' hk'' q1 q2 q3
    rw [h00] at hk' hk''
    rw [hmv, hmv] at q3
    exact n7 k' k'' hk' hk'' (h3 _ q1) (h3 _ q2) q3
theorem CN_sell {C : TT} {k : Nat} {f : Int} (h : CN C) (hk : (k : Int) < C 0 0 8) (hmv : 0 ≤ C 11 k 0 ∧ C 11 k 0 < C 0 0 7) : CN (sellT C k f) := by
  obtain ⟨n1, n2, n3, n4, n5, n6, n7⟩ := h
  have hat : ∀ a b, a ≠ 11 → a ≠ 10 → sellT C k f a b = C a b := fun a b q1 q2 => sellT_at (fun w => q1 w.1) q2
  have h00 := hat 0 0 (by omega) (by omega)
  have hk1 : ∀ k', k' ≠ k → sellT C k f 11 k' = C 11 k' := fun k' e => sellT_at (fun w => e w.2) (by omega)
  have hmv1 : ∀ k', mvT (sellT C k f) k' = mvT C k' := fun k' => by
    unfold mvT
    by_cases e : k' = k
    · rw [e, sellT_k]
      rfl
    · rw [hk1 k' e]
  have hc : ∀ k' j, j ≠ 7 → j ≠ 8 → sellT C k f 11 k' j = C 11 k' j := fun k' j q1 q2 => by
    by_cases e : k' = k
    · rw [e, sellT_k, if_neg q1, if_neg q2]
    · rw [hk1 k' e]
  have hs := n3 (mvT C k) (by unfold mvT; omega)
  have ho := n4 k hk
  refine ⟨RN_congr (fun p => hat 6 p (by omega) (by omega)) (fun p => hat 7 p (by omega) (by omega)) (fun p => hat 8 p (by omega) (by omega)) n1, ?_, ?_, ?_, ?_, ?_, ?_⟩
  · unfold DN
    rw [h00]
    exact n2
  · intro i hi
    rw [h00] at hi
    have s0 : sellT C k f 10 i 0 = C 10 i 0 := by rw [sellT_s, if_neg (by omega)]
    have s2 : sellT C k f 10 i 2 = C 10 i 2 := by rw [sellT_s, if_neg (by omega)]
    rw [s0, s2, sellT_s]
    have := n3 i hi
    split <;> omega
  · intro k' hk'
    rw [h00] at hk'
    have o := n4 k' hk'
    by_cases e : k' = k
    · subst e
      have hp := prF_in n1 n2 (p := (C 11 k' 1).toNat) (by omega) f
      have hm := moF_in (u := C 10 (mvT C k') 1) (pr := prF C (C 11 k' 1).toNat f) (by omega) (by omega)
      have j7 : sellT C k' f 11 k' 7 = C 10 (mvT C k') 1 := by rw [sellT_k, if_pos rfl]
      have j8 : sellT C k' f 11 k' 8 = moF (C 10 (mvT C k') 1) (prF C (C 11 k' 1).toNat f) := by rw [sellT_k, if_neg (by omega), if_pos rfl]
      rw [h00, j7, j8, hc _ _ (by omega) (by omega), hc _ _ (by omega) (by omega), hc _ _ (by omega) (by omega), hc _ _ (by omega) (by omega), hc _ _ (by omega) (by omega), hc _ _ (by omega) (by omega), hc _ _ (by omega) (by omega)]
      omega
    · rw [hk1 k' e, h00]
      exact o
  · intro p hp
    rw [hat 7 p (by omega) (by omega), hat 6 p (by omega) (by omega), h00]
    exact n5 p hp
  · intro k' hk' q3
    rw [h00] at hk'
    rw [hc _ _ (by omega) (by omega)] at q3
    have q := n6 k' hk' q3
    rw [hmv1, hc _ _ (by omega) (by omega), hc _ _ (by omega) (by omega), sellT_s, sellT_s, if_neg (by omega), if_neg (by omega)]
    exact q
  · intro k' k'' hk' hk'' q1 q2 q3
    rw [h00] at hk' hk''
    rw [hc _ _ (by omega) (by omega)] at q1 q2
    rw [hmv1, hmv1] at q3
    exact n7 k' k'' hk' hk'' q1 q2 q3
theorem CN_buy {C : TT} {k : Nat} {lb f : Int} (h : CN C) (hk : (k : Int) < C 0 0 8) (hmv : 0 ≤ C 11 k 0 ∧ C 11 k 0 < C 0 0 7) (hst : C 11 k 3 = 2) (hlb : 0 ≤ lb ∧ lb + C 11 k 4 ≤ C 0 0 5) (hov : gotT C k f + lakT C k lb f ≤ 100000000) : CN (goT (buyT C k lb f) k (C 0 0 5) lb) := by
  obtain ⟨n1, n2, n3, n4, n5, n6, n7⟩ := h
  have hD1 := n2.1
  have hD2 := n2.2.1
  have ho := n4 k hk
  have hx := n6 k hk (by omega)
  have hgn := gotT_nn n1 n2 (k := k) ho.2.2.2.1 (by omega) f
  have hln := lakT_nn C k lb f
  have hB3 : buyT C k lb f 11 k 3 = 2 := by rw [buyT_3, hst]
  have hat : ∀ a b, a ≠ 11 → a ≠ 10 → a ≠ 9 → a ≠ 3 → goT (buyT C k lb f) k (C 0 0 5) lb a b = C a b := fun a b q1 q2 q3 q4 => by
    rw [goT_ne (fun w => q1 w.1), buyT_ne (by omega) (by omega) ⟨q3, q4⟩]
  have h00 := hat 0 0 (by omega) (by omega) (by omega) (by omega)
  have hk1 : ∀ k', k' ≠ k → goT (buyT C k lb f) k (C 0 0 5) lb 11 k' = C 11 k' := fun k' e => by
    rw [goT_ne (fun w => e w.2), buyT_ne (fun w => e w.2) (by omega) (by omega)]
  have hkk : ∀ j, goT (buyT C k lb f) k (C 0 0 5) lb 11 k j = if j = 3 then 3 else if j = 4 then C 0 0 5 else if j = 6 then lb else if j = 9 then lakT C k lb f else C 11 k j := fun j => by
    rw [goT_k, hB3, if_pos rfl, if_pos rfl, buyT_k, buyT_k, buyT_k, if_neg (show ¬ (5 : Nat) = 9 by omega), if_neg (show ¬ (6 : Nat) = 9 by omega), hx.2.2]
    by_cases j3 : j = 3
    · rw [if_pos j3, if_pos j3]
      rfl
    · rw [if_neg j3, if_neg j3]
      by_cases j4 : j = 4
      · rw [if_pos j4, if_pos j4]
      · rw [if_neg j4, if_neg j4]
        by_cases j5 : j = 5
        · rw [if_pos j5, if_neg (by omega), if_neg (by omega), j5]
          omega
        · rw [if_neg j5]
          by_cases j6 : j = 6
          · rw [if_pos j6, if_pos j6]
            omega
          · rw [if_neg j6, if_neg j6]
  have hmv1 : ∀ k', mvT (goT (buyT C k lb f) k (C 0 0 5) lb) k' = mvT C k' := fun k' => by
    unfold mvT
    by_cases e : k' = k
    · rw [e, hkk]
      rfl
    · rw [hk1 k' e]
  have hne3 : ∀ k', goT (buyT C k lb f) k (C 0 0 5) lb 11 k' 3 < 3 → k' ≠ k := fun k' q e => by
    rw [e, hkk, if_pos rfl] at q
    omega
  refine ⟨RN_congr (fun p => hat 6 p (by omega) (by omega) (by omega) (by omega)) (fun p => hat 7 p (by omega) (by omega) (by omega) (by omega)) (fun p => hat 8 p (by omega) (by omega) (by omega) (by omega)) n1, ?_, ?_, ?_, ?_, ?_, ?_⟩
  · unfold DN
    rw [h00]
    exact n2
  · intro i hi
    rw [h00] at hi
    by_cases e : i = mvT C k
    · obtain ⟨s0, s1, s2⟩ := buyT_s (C := C) (k := k) (lb := lb) (f := f)
      rw [goT_ne (by omega), e, s0, s1, s2]
      omega
    · rw [goT_ne (by omega), buyT_ne (by omega) (fun w => e w.2) (by omega)]
      exact n3 i hi
  · intro k' hk'
    rw [h00] at hk'
    have o := n4 k' hk'
    by_cases e : k' = k
    · subst e
      rw [h00, hkk, hkk, hkk, hkk, hkk, hkk, hkk, hkk, hkk]
      show 0 ≤ C 11 k' 1 ∧ C 11 k' 1 < 5 ∧ 0 ≤ C 11 k' 2 ∧ C 11 k' 2 < 5 ∧ (0 : Int) ≤ 3 ∧ (3 : Int) ≤ 3 ∧ 0 ≤ C 0 0 5 ∧ C 0 0 5 ≤ C 0 0 5 ∧ 0 ≤ C 11 k' 5 ∧ ((3 : Int) ≤ 2 → C 11 k' 5 ≤ C 0 0 5) ∧ C 11 k' 5 ≤ 2000 ∧ 0 ≤ lb ∧ lb ≤ 2000 ∧ 0 ≤ C 11 k' 7 ∧ C 11 k' 7 ≤ 100000000 ∧ 0 ≤ C 11 k' 8 ∧ C 11 k' 8 ≤ 1000000000 ∧ 0 ≤ lakT C k' lb f ∧ lakT C k' lb f ≤ 100000000
      omega
    · rw [hk1 k' e, h00]
      exact o
  · intro p hp
    rw [hat 7 p (by omega) (by omega) (by omega) (by omega), hat 6 p (by omega) (by omega) (by omega) (by omega), h00]
    exact n5 p hp
  · intro k' hk' q3
    have e := hne3 k' q3
    rw [h00] at hk'
    rw [hk1 k' e] at q3
    have q := n6 k' hk' q3
    have hm : mvT C k' ≠ mvT C k := fun w => e (n7 k' k hk' hk q3 (by omega) w)
    rw [hmv1, hk1 k' e, goT_ne (by omega), buyT_ne (by omega) (fun w => hm w.2) (by omega)]
    exact q
  · intro k' k'' hk' hk'' q1 q2 q3
    have e1 := hne3 k' q1
    have e2 := hne3 k'' q2
    rw [h00] at hk' hk''
    rw [hk1 k' e1] at q1
    rw [hk1 k'' e2] at q2
    rw [hmv1, hmv1] at q3
    exact n7 k' k'' hk' hk'' q1 q2 q3
