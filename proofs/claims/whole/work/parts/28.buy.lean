/-! the purchase -/
theorem coF_0 (p : Int) : coF 0 p = 0 := by
  unfold coF
  rw [Int.zero_mul]
  decide
/-- the model's reckoning is the class's -/
theorem buy_vals {C M : TT} {z lb f : Int} (h : Rel C M) (hN : CN C) (hz : 0 ≤ z ∧ z < C 0 0 8) (hmv : 0 ≤ C 11 z.toNat 0 ∧ C 11 z.toNat 0 < C 0 0 7) (hst : C 11 z.toNat 3 = 2) (hlb : 0 ≤ lb ∧ lb + C 11 z.toNat 4 ≤ C 0 0 5) :
    (M 31 0 z.toNat).toNat = mvT C z.toNat ∧ M 27 0 (mvT C z.toNat) = C 11 z.toNat 1 ∧ M 32 0 z.toNat = C 11 z.toNat 2 ∧ M 37 0 z.toNat + lb = allL C z.toNat lb ∧ 0 ≤ allL C z.toNat lb ∧ mtim M z lb = (if allL C z.toNat lb = 0 then 0 else timT C z.toNat (allL C z.toNat lb)) ∧ mgot M z (mprF M (M 32 0 z.toNat) f) = gotT C z.toNat f ∧ mlak M z (mprF M (M 32 0 z.toNat) f) lb = lakT C z.toNat lb f ∧ mcos M z (mprF M (M 32 0 z.toNat) f) lb = coF (lakT C z.toNat lb f) (valT C (C 11 z.toNat 2).toNat (C 0 0 5)) ∧ msha M z (mprF M (M 32 0 z.toNat) f) lb = (if allL C z.toNat lb = 0 then 0 else coF (lakT C z.toNat lb f) (valT C (C 11 z.toNat 2).toNat (C 0 0 5)) * C 11 z.toNat 5 / allL C z.toNat lb) := by
  obtain ⟨e1, e2, e3, e4, e5, e6, e7, e8, e9, ex⟩ := h.2.2.2.2.1 z.toNat (by omega)
  have hxo := hN.2.2.2.2.2.1 z.toNat (by omega) (by omega)
  have hon := hN.2.2.2.1 z.toNat (by omega)
  have hD := hN.2.1
  have hmvN : (M 31 0 z.toNat).toNat = mvT C z.toNat := by
    unfold mvT
    rw [e1]
  have hs := h.2.2.1 (mvT C z.toNat) (by unfold mvT; omega)
  have hw : M 27 0 (mvT C z.toNat) = C 11 z.toNat 1 := by
    rw [hs.1, hxo.1]
  have hal : M 37 0 z.toNat + lb = allL C z.toNat lb := by
    unfold allL
    rw [e6, hxo.2.2]
    omega
  have hal0 : 0 ≤ allL C z.toNat lb := by
    unfold allL
    omega
  have hal1 : allL C z.toNat lb ≤ C 0 0 5 := by
    unfold allL
    omega
  have ex := ex hst
  have htim : mtim M z lb = (if allL C z.toNat lb = 0 then 0 else timT C z.toNat (allL C z.toNat lb)) := by
    unfold mtim timT
    rw [hal, hmvN, hw, ex, e5, e7, e2, h.1.1, mpr_val h ⟨hon.1, hon.2.1⟩ ⟨by omega, by omega⟩, mpr_val h ⟨hon.2.2.1, hon.2.2.2.1⟩ ⟨by omega, by omega⟩]
  have hgot : mgot M z (mprF M (M 32 0 z.toNat) f) = gotT C z.toNat f := by
    unfold mgot gotT
    rw [e8, e2, mprF_eq h hD.1 ⟨hon.2.2.1, hon.2.2.2.1⟩]
  have hgn := gotT_nn hN.1 hD (k := z.toNat) hon.2.2.2.1 (by omega) f
  have hlak : mlak M z (mprF M (M 32 0 z.toNat) f) lb = lakT C z.toNat lb f := by
    unfold mlak lakT
    rw [htim, hgot]
    by_cases e : allL C z.toNat lb = 0
    · rw [if_pos e, if_neg (by omega), if_neg (by omega)]
    · rw [if_neg e, if_pos (show 0 < allL C z.toNat lb by omega)]
      split <;> split <;> omega
  have hcos : mcos M z (mprF M (M 32 0 z.toNat) f) lb = coF (lakT C z.toNat lb f) (valT C (C 11 z.toNat 2).toNat (C 0 0 5)) := by
    unfold mcos
    rw [hlak, e2, h.1.1, mpr_val h ⟨hon.2.2.1, hon.2.2.2.1⟩ ⟨hD.1, Int.le_refl _⟩]
  refine ⟨hmvN, hw, e2, hal, hal0, htim, hgot, hlak, hcos, ?_⟩
  unfold msha
  rw [hal, hcos, e5]
theorem shaT_9 {C : TT} {k : Nat} {co al : Int} (p q : Nat) : shaT C k co al 9 p q = C 9 p q + (if al ≤ 0 then 0 else if p = (C 11 k 1).toNat ∧ q = (C 11 k 2).toNat then co * C 11 k 5 / al else 0) := by
  unfold shaT
  by_cases e : al ≤ 0
  · rw [if_pos e, if_pos e]
    omega
  · rw [if_neg e, if_neg e, up_of (by omega)]
    by_cases q1 : p = (C 11 k 1).toNat ∧ q = (C 11 k 2).toNat
    · rw [if_pos q1, q1.1, q1.2, up_at rfl]
    · rw [if_neg q1, up_of (fun w => q1 w.2)]
      omega
theorem shaT_3 {C : TT} {k : Nat} {co al : Int} (q : Nat) : shaT C k co al 3 0 q = C 3 0 q + (if al ≤ 0 then 0 else if q = (C 11 k 2).toNat then co - co * C 11 k 5 / al else 0) := by
  unfold shaT
  by_cases e : al ≤ 0
  · rw [if_pos e, if_pos e]
    omega
  · rw [if_neg e, if_neg e]
    by_cases q1 : q = (C 11 k 2).toNat
    · rw [if_pos q1, q1, up_at rfl]
    · rw [if_neg q1, up_of (fun w => q1 w.2.2), up_of (by omega)]
      omega
theorem buyT_k {C : TT} {k : Nat} {lb f : Int} (j : Nat) : buyT C k lb f 11 k j = if j = 9 then lakT C k lb f else C 11 k j := by
  unfold buyT
  rw [arrT_at (by omega)]
  by_cases e : j = 9
  · rw [up_at e, if_pos e]
  · rw [up_of (fun w => e w.2.2), if_neg e, shaT_at k (by decide)]
theorem buyT_s {C : TT} {k : Nat} {lb f : Int} : buyT C k lb f 10 (mvT C k) 0 = C 11 k 2 ∧ buyT C k lb f 10 (mvT C k) 1 = gotT C k f + lakT C k lb f ∧ buyT C k lb f 10 (mvT C k) 2 = 0 := by
  unfold buyT arrT
  refine ⟨?_, ?_, ?_⟩
  · rw [up_of (by omega), up_of (by omega), up_at rfl]
  · rw [up_of (by omega), up_at rfl]
  · rw [up_at rfl]
theorem buyT_ne {C : TT} {k : Nat} {lb f : Int} {a b : Nat} (h : ¬ (a = 11 ∧ b = k)) (h1 : ¬ (a = 10 ∧ b = mvT C k)) (h2 : a ≠ 9 ∧ a ≠ 3) : buyT C k lb f a b = C a b := by
  unfold buyT
  rw [arrT_at h1, up_ne h, shaT_at b h2]
theorem buyT_9 {C : TT} {k : Nat} {lb f : Int} (p q : Nat) : buyT C k lb f 9 p q = C 9 p q + (if allL C k lb ≤ 0 then 0 else if p = (C 11 k 1).toNat ∧ q = (C 11 k 2).toNat then coF (lakT C k lb f) (valT C (C 11 k 2).toNat (C 0 0 5)) * C 11 k 5 / allL C k lb else 0) := by
  unfold buyT
  rw [arrT_at (by omega), up_of (by omega), shaT_9]
theorem buyT_r {C : TT} {k : Nat} {lb f : Int} (q : Nat) : buyT C k lb f 3 0 q = C 3 0 q + (if allL C k lb ≤ 0 then 0 else if q = (C 11 k 2).toNat then coF (lakT C k lb f) (valT C (C 11 k 2).toNat (C 0 0 5)) - coF (lakT C k lb f) (valT C (C 11 k 2).toNat (C 0 0 5)) * C 11 k 5 / allL C k lb else 0) := by
  unfold buyT
  rw [arrT_at (by omega), up_of (by omega), shaT_3]
theorem Rel_buy {C M : TT} {z lb f : Int} (h : Rel C M) (hN : CN C) (hz : 0 ≤ z ∧ z < C 0 0 8) (hmv : 0 ≤ C 11 z.toNat 0 ∧ C 11 z.toNat 0 < C 0 0 7) (hst : C 11 z.toNat 3 = 2) (hlb : 0 ≤ lb ∧ lb + C 11 z.toNat 4 ≤ C 0 0 5) : Rel (buyT C z.toNat lb f) (mbuy M z (mprF M (M 32 0 z.toNat) f) lb) := by
  obtain ⟨v1, v2, v3, v4, v5, v6, v7, v8, v9, v10⟩ := buy_vals (f := f) h hN hz hmv hst hlb
  have hon := hN.2.2.2.1 z.toNat (by omega)
  have hM : mbuy M z (mprF M (M 32 0 z.toNat) f) lb = up (up (up (up (up (up M 41 0 (5 * C 11 z.toNat 1 + C 11 z.toNat 2).toNat (M 41 0 (5 * C 11 z.toNat 1 + C 11 z.toNat 2).toNat + (if allL C z.toNat lb = 0 then 0 else coF (lakT C z.toNat lb f) (valT C (C 11 z.toNat 2).toNat (C 0 0 5)) * C 11 z.toNat 5 / allL C z.toNat lb))) 42 0 (C 11 z.toNat 2).toNat (M 42 0 (C 11 z.toNat 2).toNat + (coF (lakT C z.toNat lb f) (valT C (C 11 z.toNat 2).toNat (C 0 0 5)) - (if allL C z.toNat lb = 0 then 0 else coF (lakT C z.toNat lb f) (valT C (C 11 z.toNat 2).toNat (C 0 0 5)) * C 11 z.toNat 5 / allL C z.toNat lb)))) 40 0 z.toNat (lakT C z.toNat lb f)) 28 0 (mvT C z.toNat) (gotT C z.toNat f + lakT C z.toNat lb f)) 27 0 (mvT C z.toNat) (C 11 z.toNat 2)) 29 0 (mvT C z.toNat) 0 := by
    unfold mbuy
    rw [v1, v10, v9, v8, v7, v2, v3]
  rw [hM]
  generalize hsh : (if allL C z.toNat lb = 0 then 0 else coF (lakT C z.toNat lb f) (valT C (C 11 z.toNat 2).toNat (C 0 0 5)) * C 11 z.toNat 5 / allL C z.toNat lb) = sh
  have hco0 : allL C z.toNat lb = 0 → coF (lakT C z.toNat lb f) (valT C (C 11 z.toNat 2).toNat (C 0 0 5)) = 0 := fun q => by
    rw [show lakT C z.toNat lb f = 0 from if_neg (by omega)]
    exact coF_0 _
  obtain ⟨⟨b1, b2, b3, b4⟩, c5, c6, c6b, c7, c8, c9, c10⟩ := h
  have hmvl : ((mvT C z.toNat : Nat) : Int) < C 0 0 7 := by unfold mvT; omega
  have hat : ∀ a b, a ≠ 11 → a ≠ 10 → a ≠ 9 → a ≠ 3 → buyT C z.toNat lb f a b = C a b := fun a b q1 q2 q3 q4 => buyT_ne (by omega) (by omega) ⟨q3, q4⟩
  have h00 := hat 0 0 (by omega) (by omega) (by omega) (by omega)
  refine ⟨?_, fun p hp => ?_, fun i hi => ?_, fun i hi => ?_, fun k hk => ?_, fun k hk => ?_, fun p q hp hq => ?_, fun p hp => ?_⟩
  · rw [h00]
    exact ⟨b1, b2, b3, b4⟩
  · rw [h00, hat 6 p (by omega) (by omega) (by omega) (by omega), hat 7 p (by omega) (by omega) (by omega) (by omega)]
    refine ⟨(c5 p hp).1, (c5 p hp).2.1, fun d h1 h2 => ?_⟩
    rw [valT_congr (hat 6 p (by omega) (by omega) (by omega) (by omega)) (hat 7 p (by omega) (by omega) (by omega) (by omega)) (hat 8 p (by omega) (by omega) (by omega) (by omega))]
    exact (c5 p hp).2.2 d h1 h2
  · rw [h00] at hi
    by_cases e : i = mvT C z.toNat
    · subst e
      obtain ⟨s0, s1, s2⟩ := buyT_s (C := C) (k := z.toNat) (lb := lb) (f := f)
      rw [s0, s1, s2]
      refine ⟨?_, ?_, ?_⟩
      · rw [up_of (by omega), up_at rfl]
      · rw [up_of (by omega), up_of (by omega), up_at rfl]
      · rw [up_at rfl]
    · have hm : ∀ t, t ≠ 41 → t ≠ 42 → t ≠ 40 → up (up (up (up (up (up M 41 0 (5 * C 11 z.toNat 1 + C 11 z.toNat 2).toNat (M 41 0 (5 * C 11 z.toNat 1 + C 11 z.toNat 2).toNat + sh)) 42 0 (C 11 z.toNat 2).toNat (M 42 0 (C 11 z.toNat 2).toNat + (coF (lakT C z.toNat lb f) (valT C (C 11 z.toNat 2).toNat (C 0 0 5)) - sh))) 40 0 z.toNat (lakT C z.toNat lb f)) 28 0 (mvT C z.toNat) (gotT C z.toNat f + lakT C z.toNat lb f)) 27 0 (mvT C z.toNat) (C 11 z.toNat 2)) 29 0 (mvT C z.toNat) 0 t 0 i = M t 0 i := fun t q1 q2 q3 => by
        rw [up_of (fun w => e w.2.2), up_of (fun w => e w.2.2), up_of (fun w => e w.2.2), up_of (fun w => q3 w.1), up_of (fun w => q2 w.1), up_of (fun w => q1 w.1)]
      rw [buyT_ne (by omega) (fun w => e w.2) (by omega), hm 27 (by omega) (by omega) (by omega), hm 28 (by omega) (by omega) (by omega), hm 29 (by omega) (by omega) (by omega)]
      exact c6 i hi
  · rw [h00] at hi
    rw [up_of (by omega), up_of (by omega), up_of (by omega), up_of (by omega), up_of (by omega), up_of (by omega)]
    exact c6b i hi
  · rw [h00] at hk
    have q := c7 k hk
    have hm : ∀ t, 31 ≤ t → t ≤ 39 → up (up (up (up (up (up M 41 0 (5 * C 11 z.toNat 1 + C 11 z.toNat 2).toNat (M 41 0 (5 * C 11 z.toNat 1 + C 11 z.toNat 2).toNat + sh)) 42 0 (C 11 z.toNat 2).toNat (M 42 0 (C 11 z.toNat 2).toNat + (coF (lakT C z.toNat lb f) (valT C (C 11 z.toNat 2).toNat (C 0 0 5)) - sh))) 40 0 z.toNat (lakT C z.toNat lb f)) 28 0 (mvT C z.toNat) (gotT C z.toNat f + lakT C z.toNat lb f)) 27 0 (mvT C z.toNat) (C 11 z.toNat 2)) 29 0 (mvT C z.toNat) 0 t 0 k = M t 0 k := fun t q1 q2 => by
      rw [up_of (by omega), up_of (by omega), up_of (by omega), up_of (by omega), up_of (by omega), up_of (by omega)]
    rw [hm 31 (by omega) (by omega), hm 32 (by omega) (by omega), hm 33 (by omega) (by omega), hm 34 (by omega) (by omega), hm 35 (by omega) (by omega), hm 36 (by omega) (by omega), hm 37 (by omega) (by omega), hm 38 (by omega) (by omega), hm 39 (by omega) (by omega), up_of (by omega), up_of (by omega), up_of (by omega)]
    by_cases e : k = z.toNat
    · subst e
      rw [up_at rfl, buyT_k, buyT_k, buyT_k, buyT_k, buyT_k, buyT_k, buyT_k, buyT_k, buyT_k]
      exact ⟨q.1, q.2.1, q.2.2.1, q.2.2.2.1, q.2.2.2.2.1, q.2.2.2.2.2.1, q.2.2.2.2.2.2.1, q.2.2.2.2.2.2.2.1, rfl, q.2.2.2.2.2.2.2.2.2⟩
    · rw [buyT_ne (fun w => e w.2) (by omega) (by omega), up_of (fun w => e w.2.2), up_of (by omega), up_of (by omega)]
      exact q
  · rw [h00] at hk
    have hm : ∀ t, 31 ≤ t → t ≤ 40 → up (up (up (up (up (up M 41 0 (5 * C 11 z.toNat 1 + C 11 z.toNat 2).toNat (M 41 0 (5 * C 11 z.toNat 1 + C 11 z.toNat 2).toNat + sh)) 42 0 (C 11 z.toNat 2).toNat (M 42 0 (C 11 z.toNat 2).toNat + (coF (lakT C z.toNat lb f) (valT C (C 11 z.toNat 2).toNat (C 0 0 5)) - sh))) 40 0 z.toNat (lakT C z.toNat lb f)) 28 0 (mvT C z.toNat) (gotT C z.toNat f + lakT C z.toNat lb f)) 27 0 (mvT C z.toNat) (C 11 z.toNat 2)) 29 0 (mvT C z.toNat) 0 t 0 k = M t 0 k := fun t q1 q2 => by
      rw [up_of (by omega), up_of (by omega), up_of (by omega), up_of (by omega), up_of (by omega), up_of (by omega)]
    rw [hm 33 (by omega) (by omega), hm 36 (by omega) (by omega), hm 37 (by omega) (by omega), hm 38 (by omega) (by omega), hm 39 (by omega) (by omega), hm 40 (by omega) (by omega)]
    exact c8 k hk
  · rw [up_of (by omega), up_of (by omega), up_of (by omega), up_of (by omega), up_of (by omega), buyT_9]
    have hc := c9 p q hp hq
    by_cases e : p = (C 11 z.toNat 1).toNat ∧ q = (C 11 z.toNat 2).toNat
    · have hix : 5 * p + q = (5 * C 11 z.toNat 1 + C 11 z.toNat 2).toNat := by omega
      rw [up_at hix, ← hix, hc, if_pos e, ← hsh]
      by_cases ea : allL C z.toNat lb = 0
      · rw [if_pos ea, if_pos (by omega)]
      · rw [if_neg ea, if_neg (by omega)]
    · rw [up_of (by omega), if_neg e, hc]
      split <;> omega
  · rw [up_of (by omega), up_of (by omega), up_of (by omega), up_of (by omega), buyT_r]
    have hc := c10 p hp
    by_cases e : p = (C 11 z.toNat 2).toNat
    · rw [up_at e, ← e, hc, if_pos rfl, ← hsh]
      by_cases ea : allL C z.toNat lb = 0
      · rw [if_pos ea, if_pos (by omega), e, hco0 ea]
        omega
      · rw [if_neg ea, if_neg (by omega), e]
    · rw [up_of (fun w => e w.2.2), up_of (by omega), if_neg e, hc]
      split <;> omega
