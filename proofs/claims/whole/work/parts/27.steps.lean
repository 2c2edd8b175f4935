/-! step and force -/
theorem goT_ne {C : TT} {k : Nat} {d lb : Int} {a b : Nat} (h : ¬ (a = 11 ∧ b = k)) : goT C k d lb a b = C a b := by
  unfold goT
  split
  · rw [up_ne h, up_ne h, up_ne h]
  · rw [up_ne h, up_ne h, up_ne h]
theorem goT_k {C : TT} {k : Nat} {d lb : Int} (j : Nat) : goT C k d lb 11 k j = if j = 3 then C 11 k 3 + 1 else if j = 4 then d else if j = 5 then C 11 k 5 + (if C 11 k 3 = 2 then 0 else lb) else if j = 6 then C 11 k 6 + (if C 11 k 3 = 2 then lb else 0) else C 11 k j := by
  unfold goT
  by_cases e : C 11 k 3 = 2
  · rw [if_pos e, if_pos e, if_pos e]
    by_cases j3 : j = 3
    · rw [up_at j3, if_pos j3]
    · rw [up_of (fun w => j3 w.2.2), if_neg j3]
      by_cases j4 : j = 4
      · rw [up_at j4, if_pos j4]
      · rw [up_of (fun w => j4 w.2.2), if_neg j4]
        by_cases j5 : j = 5
        · rw [if_pos j5, up_of (by omega), j5]
          omega
        · rw [if_neg j5]
          by_cases j6 : j = 6
          · rw [up_at j6, if_pos j6]
          · rw [up_of (fun w => j6 w.2.2), if_neg j6]
  · rw [if_neg e, if_neg e, if_neg e]
    by_cases j3 : j = 3
    · rw [up_at j3, if_pos j3]
    · rw [up_of (fun w => j3 w.2.2), if_neg j3]
      by_cases j4 : j = 4
      · rw [up_at j4, if_pos j4]
      · rw [up_of (fun w => j4 w.2.2), if_neg j4]
        by_cases j5 : j = 5
        · rw [up_at j5, if_pos j5]
        · rw [up_of (fun w => j5 w.2.2), if_neg j5]
          by_cases j6 : j = 6
          · rw [if_pos j6, j6]
            omega
          · rw [if_neg j6]
theorem mend_ne {T M : TT} {z lb : Int} {t i j : Nat} (h : ¬ ((t = 36 ∨ t = 37 ∨ t = 34 ∨ t = 33) ∧ i = 0 ∧ j = z.toNat)) : mend T M z lb t i j = M t i j := by
  unfold mend
  rw [up_of (fun w => h ⟨by omega, w.2⟩), up_of (fun w => h ⟨by omega, w.2⟩), up_of (fun w => h ⟨by omega, w.2⟩), up_of (fun w => h ⟨by omega, w.2⟩)]
theorem mend_k {T M : TT} {z lb : Int} : mend T M z lb 36 0 z.toNat = T 36 0 z.toNat + (if T 33 0 z.toNat = 2 then 0 else lb) ∧ mend T M z lb 37 0 z.toNat = T 37 0 z.toNat + lb ∧ mend T M z lb 34 0 z.toNat = T 12 0 1 ∧ mend T M z lb 33 0 z.toNat = T 33 0 z.toNat + 1 := by
  unfold mend
  refine ⟨?_, ?_, ?_, ?_⟩
  · rw [up_of (by omega), up_of (by omega), up_of (by omega), up_at rfl]
  · rw [up_of (by omega), up_of (by omega), up_at rfl]
  · rw [up_of (by omega), up_at rfl]
  · rw [up_at rfl]
theorem Rel_go {C T M : TT} {z lb : Int} (h : Rel C M) (hz : 0 ≤ z ∧ z < C 0 0 8) (hst : C 11 z.toNat 3 ≤ 2) (h35 : C 11 z.toNat 3 = 1 → M 35 0 z.toNat = C 0 0 5) (g1 : T 36 0 z.toNat = M 36 0 z.toNat) (g2 : T 37 0 z.toNat = M 37 0 z.toNat) (g3 : T 33 0 z.toNat = M 33 0 z.toNat) (g4 : T 12 0 1 = M 12 0 1) : Rel (goT C z.toNat (C 0 0 5) lb) (mend T M z lb) := by
  obtain ⟨⟨b1, b2, b3, b4⟩, c5, c6, c6b, c7, c8, c9, c10⟩ := h
  have hne : ∀ a b, a ≠ 11 → goT C z.toNat (C 0 0 5) lb a b = C a b := fun a b w => goT_ne (fun q => w q.1)
  have hme : ∀ t i j, t ≠ 36 → t ≠ 37 → t ≠ 34 → t ≠ 33 → mend T M z lb t i j = M t i j := fun t i j q1 q2 q3 q4 => mend_ne (fun q => by omega)
  have h00 := hne 0 0 (by omega)
  refine ⟨?_, fun p hp => ?_, fun i hi => ?_, fun i hi => ?_, fun k hk => ?_, fun k hk => ?_, fun p q hp hq => ?_, fun p hp => ?_⟩
  · rw [h00, hme _ _ _ (by omega) (by omega) (by omega) (by omega), hme _ _ _ (by omega) (by omega) (by omega) (by omega), hme _ _ _ (by omega) (by omega) (by omega) (by omega), hme _ _ _ (by omega) (by omega) (by omega) (by omega)]
    exact ⟨b1, b2, b3, b4⟩
  · rw [h00, hne 6 p (by omega), hne 7 p (by omega), hme _ _ _ (by omega) (by omega) (by omega) (by omega), hme _ _ _ (by omega) (by omega) (by omega) (by omega)]
    refine ⟨(c5 p hp).1, (c5 p hp).2.1, fun d h1 h2 => ?_⟩
    rw [valT_congr (hne 6 p (by omega)) (hne 7 p (by omega)) (hne 8 p (by omega))]
    have := (c5 p hp).2.2 d h1 h2
    unfold mpr at this ⊢
    rw [hme _ _ _ (by omega) (by omega) (by omega) (by omega)]
    exact this
  · rw [h00] at hi
    rw [hne 10 i (by omega), hme _ _ _ (by omega) (by omega) (by omega) (by omega), hme _ _ _ (by omega) (by omega) (by omega) (by omega), hme _ _ _ (by omega) (by omega) (by omega) (by omega)]
    exact c6 i hi
  · rw [h00] at hi
    rw [hme _ _ _ (by omega) (by omega) (by omega) (by omega)]
    exact c6b i hi
  · rw [h00] at hk
    obtain ⟨e1, e2, e3, e4, e5, e6, e7, e8, e9, ex⟩ := c7 k hk
    by_cases e : k = z.toNat
    · subst e
      obtain ⟨f1, f2, f3, f4⟩ := mend_k (T := T) (M := M) (z := z) (lb := lb)
      rw [f1, f2, f3, f4, hme 31 _ _ (by omega) (by omega) (by omega) (by omega), hme 32 _ _ (by omega) (by omega) (by omega) (by omega), hme 35 _ _ (by omega) (by omega) (by omega) (by omega), hme 38 _ _ (by omega) (by omega) (by omega) (by omega), hme 39 _ _ (by omega) (by omega) (by omega) (by omega), hme 40 _ _ (by omega) (by omega) (by omega) (by omega), goT_k, goT_k, goT_k, goT_k, goT_k, goT_k, goT_k, goT_k, goT_k, g1, g2, g3, g4, e1, e2, e3, e5, e6, e7, e8, e9, b1]
      refine ⟨rfl, rfl, rfl, rfl, rfl, ?_, rfl, rfl, rfl, fun q => ?_⟩
      · show C 11 z.toNat 5 + C 11 z.toNat 6 + lb = C 11 z.toNat 5 + (if C 11 z.toNat 3 = 2 then 0 else lb) + (C 11 z.toNat 6 + (if C 11 z.toNat 3 = 2 then lb else 0))
        split <;> omega
      · have q : C 11 z.toNat 3 + 1 = 2 := q
        exact h35 (by omega)
    · have hk1 : goT C z.toNat (C 0 0 5) lb 11 k = C 11 k := goT_ne (fun w => e w.2)
      have hm1 : ∀ t, mend T M z lb t 0 k = M t 0 k := fun t => mend_ne (fun w => e w.2.2)
      rw [hk1, hm1, hm1, hm1, hm1, hm1, hm1, hm1, hm1, hm1, hm1]
      exact c7 k hk
  · rw [h00] at hk
    have hm1 : ∀ t, mend T M z lb t 0 k = M t 0 k := fun t => mend_ne (fun w => by omega)
    rw [hm1, hm1, hm1, hm1, hm1, hm1]
    exact c8 k hk
  · rw [hne 9 p (by omega), hme _ _ _ (by omega) (by omega) (by omega) (by omega)]
    exact c9 p q hp hq
  · rw [hne 3 0 (by omega), hme _ _ _ (by omega) (by omega) (by omega) (by omega)]
    exact c10 p hp
/-! the sale -/
theorem sellT_k {T : TT} {k : Nat} {f : Int} (j : Nat) : sellT T k f 11 k j = if j = 7 then T 10 (mvT T k) 1 else if j = 8 then moF (T 10 (mvT T k) 1) (prF T (T 11 k 1).toNat f) else T 11 k j := by
  unfold sellT
  rw [up_of (by omega)]
  by_cases j8 : j = 8
  · rw [up_at j8, if_neg (by omega), if_pos j8]
  · rw [up_of (fun w => j8 w.2.2)]
    by_cases j7 : j = 7
    · rw [up_at j7, if_pos j7]
    · rw [up_of (fun w => j7 w.2.2), if_neg j7, if_neg j8]
theorem sellT_s {T : TT} {k : Nat} {f : Int} (i j : Nat) : sellT T k f 10 i j = if i = mvT T k ∧ j = 1 then 0 else T 10 i j := by
  unfold sellT
  by_cases e : i = mvT T k ∧ j = 1
  · rw [if_pos e, e.1, up_at e.2]
  · rw [if_neg e, up_of (fun w => e w.2), up_of (by omega), up_of (by omega)]
theorem mpr_val {C M : TT} (h : Rel C M) {p d : Int} (hp : 0 ≤ p ∧ p < 5) (hd : 0 ≤ d ∧ d ≤ C 0 0 5) : mpr M p d = valT C p.toNat d := by
  have := (h.2.1 p.toNat (by omega)).2.2 d hd.1 hd.2
  rw [show ((p.toNat : Nat) : Int) = p by omega] at this
  exact this
theorem mprF_eq {C M : TT} (h : Rel C M) (hD : 0 ≤ C 0 0 5) {p : Int} (hp : 0 ≤ p ∧ p < 5) (f : Int) : mprF M p f = prF C p.toNat f := by
  unfold mprF prF
  rw [h.1.1, h.1.2.1, mpr_val h hp ⟨hD, Int.le_refl _⟩]
theorem Rel_sell {C M : TT} {z f : Int} (h : Rel C M) (hN : CN C) (hz : 0 ≤ z ∧ z < C 0 0 8) (hmv : 0 ≤ C 11 z.toNat 0 ∧ C 11 z.toNat 0 < C 0 0 7) (hst : C 11 z.toNat 3 = 1) : Rel (sellT C z.toNat f) (msel M z f) ∧ msel M z f 35 0 z.toNat = C 0 0 5 := by
  obtain ⟨e1, e2, e3, e4, e5, e6, e7, e8, e9, ex⟩ := h.2.2.2.2.1 z.toNat (by omega)
  have hxo := hN.2.2.2.2.2.1 z.toNat (by omega) (by omega)
  have hon := hN.2.2.2.1 z.toNat (by omega)
  have hmvN : (M 31 0 z.toNat).toNat = mvT C z.toNat := by
    unfold mvT
    rw [e1]
  have hs := h.2.2.1 (mvT C z.toNat) (by unfold mvT; omega)
  have hpr : mprF M (M 27 0 (M 31 0 z.toNat).toNat) f = prF C (C 11 z.toNat 1).toNat f := by
    rw [hmvN, hs.1, ← hxo.1]
    exact mprF_eq h hN.2.1.1 ⟨hon.1, hon.2.1⟩ f
  have hun : M 28 0 (M 31 0 z.toNat).toNat = C 10 (mvT C z.toNat) 1 := by
    rw [hmvN]
    exact hs.2.1
  have hM : msel M z f = up (up (up (up M 38 0 z.toNat (C 10 (mvT C z.toNat) 1)) 39 0 z.toNat (moF (C 10 (mvT C z.toNat) 1) (prF C (C 11 z.toNat 1).toNat f))) 28 0 (mvT C z.toNat) 0) 35 0 z.toNat (C 0 0 5) := by
    unfold msel
    rw [hpr, hun, hmvN, h.1.1]
  rw [hM]
  refine ⟨?_, by rw [up_at rfl]⟩
  obtain ⟨⟨b1, b2, b3, b4⟩, c5, c6, c6b, c7, c8, c9, c10⟩ := h
  have hat : ∀ a b, a ≠ 11 → a ≠ 10 → sellT C z.toNat f a b = C a b := fun a b q1 q2 => sellT_at (fun w => q1 w.1) q2
  have h00 := hat 0 0 (by omega) (by omega)
  refine ⟨?_, fun p hp => ?_, fun i hi => ?_, fun i hi => ?_, fun k hk => ?_, fun k hk => ?_, fun p q hp hq => ?_, fun p hp => ?_⟩
  · rw [h00]
    exact ⟨b1, b2, b3, b4⟩
  · rw [h00, hat 6 p (by omega) (by omega), hat 7 p (by omega) (by omega)]
    refine ⟨(c5 p hp).1, (c5 p hp).2.1, fun d h1 h2 => ?_⟩
    rw [valT_congr (hat 6 p (by omega) (by omega)) (hat 7 p (by omega) (by omega)) (hat 8 p (by omega) (by omega))]
    exact (c5 p hp).2.2 d h1 h2
  · rw [h00] at hi
    have q := c6 i hi
    have s0 : sellT C z.toNat f 10 i 0 = C 10 i 0 := by rw [sellT_s, if_neg (by omega)]
    have s2 : sellT C z.toNat f 10 i 2 = C 10 i 2 := by rw [sellT_s, if_neg (by omega)]
    rw [s0, s2, sellT_s]
    refine ⟨q.1, ?_, q.2.2⟩
    rw [up_of (by omega)]
    by_cases e : i = mvT C z.toNat
    · rw [up_at e, if_pos ⟨e, rfl⟩]
    · rw [up_of (fun w => e w.2.2), if_neg (fun w => e w.1), up_of (by omega), up_of (by omega)]
      exact q.2.1
  · rw [h00] at hi
    exact c6b i hi
  · rw [h00] at hk
    have q := c7 k hk
    by_cases e : k = z.toNat
    · subst e
      rw [sellT_k, sellT_k, sellT_k, sellT_k, sellT_k, sellT_k, sellT_k, sellT_k, sellT_k]
      refine ⟨q.1, q.2.1, q.2.2.1, q.2.2.2.1, q.2.2.2.2.1, q.2.2.2.2.2.1, ?_, ?_, q.2.2.2.2.2.2.2.2.1, fun w => ?_⟩
      · rw [up_of (by omega), up_of (by omega), up_of (by omega), up_at rfl]
        rfl
      · rw [up_of (by omega), up_of (by omega), up_at rfl]
        rfl
      · have w : C 11 z.toNat 3 = 2 := w
        omega
    · have hk1 : sellT C z.toNat f 11 k = C 11 k := by
        unfold sellT
        rw [up_ne (by omega), up_ne (fun w => e w.2), up_ne (fun w => e w.2)]
      rw [hk1, up_of (by omega), up_of (by omega), up_of (by omega), up_of (by omega)]
      have hm : ∀ t, 31 ≤ t → up (up (up (up M 38 0 z.toNat (C 10 (mvT C z.toNat) 1)) 39 0 z.toNat (moF (C 10 (mvT C z.toNat) 1) (prF C (C 11 z.toNat 1).toNat f))) 28 0 (mvT C z.toNat) 0) 35 0 z.toNat (C 0 0 5) t 0 k = M t 0 k := fun t ht => by
        rw [up_of (fun w => e w.2.2), up_of (by omega), up_of (fun w => e w.2.2), up_of (fun w => e w.2.2)]
      rw [hm 32 (by omega), hm 33 (by omega), hm 34 (by omega), hm 35 (by omega), hm 36 (by omega), hm 37 (by omega), hm 38 (by omega), hm 39 (by omega), hm 40 (by omega)]
      exact q
  · rw [h00] at hk
    have e : k ≠ z.toNat := by omega
    rw [up_of (by omega), up_of (by omega), up_of (by omega), up_of (by omega)]
    have hm : ∀ t, 31 ≤ t → up (up (up (up M 38 0 z.toNat (C 10 (mvT C z.toNat) 1)) 39 0 z.toNat (moF (C 10 (mvT C z.toNat) 1) (prF C (C 11 z.toNat 1).toNat f))) 28 0 (mvT C z.toNat) 0) 35 0 z.toNat (C 0 0 5) t 0 k = M t 0 k := fun t ht => by
      rw [up_of (fun w => e w.2.2), up_of (by omega), up_of (fun w => e w.2.2), up_of (fun w => e w.2.2)]
    rw [hm 36 (by omega), hm 37 (by omega), hm 38 (by omega), hm 39 (by omega), hm 40 (by omega)]
    exact c8 k hk
  · rw [hat 9 p (by omega) (by omega)]
    exact c9 p q hp hq
  · rw [hat 3 0 (by omega) (by omega)]
    exact c10 p hp
