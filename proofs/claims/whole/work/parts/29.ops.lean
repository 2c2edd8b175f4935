/-! what holds of the class after a step -/
theorem lateT_in2 {T : TT} {k : Nat} {d : Int} (h4 : 0 ≤ T 11 k 4 ∧ T 11 k 4 ≤ d) : 0 ≤ lateT T k d ∧ lateT T k d + T 11 k 4 ≤ d := by
  unfold lateT dueT
  split <;> split at * <;> omega
theorem mlate_eq {C M : TT} (h : Rel C M) {z : Int} (h0 : 0 ≤ z) (h1 : z < C 0 0 8) : mlate M z = lateT C z.toNat (C 0 0 5) := by
  unfold mlate lateT
  rw [mdue_eq h h0 h1, h.1.1]
theorem mlate_hi {M M' : TT} (h : HiE M' M) (z : Int) : mlate M' z = mlate M z := by
  unfold mlate
  rw [mdue_hi h, h 12 0 1 (by omega) (by omega) (by omega)]
theorem mprF_hi {M M' : TT} (h : HiE M' M) (p f : Int) : mprF M' p f = mprF M p f := by
  unfold mprF
  rw [mpr_hi h, h 12 0 1 (by omega) (by omega) (by omega), h 12 0 5 (by omega) (by omega) (by omega)]
theorem mgot_hi {M M' : TT} (h : HiE M' M) (z pr : Int) : mgot M' z pr = mgot M z pr := by
  unfold mgot
  rw [h 39 0 _ (by omega) (by omega) (by omega)]
theorem mtim_hi {M M' : TT} (h : HiE M' M) (z lb : Int) : mtim M' z lb = mtim M z lb := by
  unfold mtim
  rw [h 37 0 _ (by omega) (by omega) (by omega), h 38 0 _ (by omega) (by omega) (by omega), h 31 0 _ (by omega) (by omega) (by omega), h 27 0 _ (by omega) (by omega) (by omega), h 35 0 _ (by omega) (by omega) (by omega), h 36 0 _ (by omega) (by omega) (by omega), h 32 0 _ (by omega) (by omega) (by omega), h 12 0 1 (by omega) (by omega) (by omega), mpr_hi h, mpr_hi h]
theorem mlak_hi {M M' : TT} (h : HiE M' M) (z pr lb : Int) : mlak M' z pr lb = mlak M z pr lb := by
  unfold mlak
  rw [mtim_hi h, mgot_hi h]
theorem mcos_hi {M M' : TT} (h : HiE M' M) (z pr lb : Int) : mcos M' z pr lb = mcos M z pr lb := by
  unfold mcos
  rw [mlak_hi h, h 32 0 _ (by omega) (by omega) (by omega), h 12 0 1 (by omega) (by omega) (by omega), mpr_hi h]
theorem msha_hi {M M' : TT} (h : HiE M' M) (z pr lb : Int) : msha M' z pr lb = msha M z pr lb := by
  unfold msha
  rw [mcos_hi h, h 37 0 _ (by omega) (by omega) (by omega), h 36 0 _ (by omega) (by omega) (by omega)]
theorem mbuy_hi {M M' : TT} (h : HiE M' M) (z pr lb : Int) : HiE (mbuy M' z pr lb) (mbuy M z pr lb) := by
  have e : ∀ t i j, 20 ≤ t → t ≤ 42 → M' t i j = M t i j := fun t i j q1 q2 => h t i j (by omega) (by omega) (by omega)
  unfold mbuy
  rw [msha_hi h, mcos_hi h, mlak_hi h, mgot_hi h, e 31 _ _ (by omega) (by omega), e 32 _ _ (by omega) (by omega), e 27 _ _ (by omega) (by omega), e 41 _ _ (by omega) (by omega), e 42 _ _ (by omega) (by omega)]
  exact (((((h.hup rfl rfl).hup rfl rfl).hup rfl rfl).hup rfl rfl).hup rfl rfl).hup rfl rfl
theorem msel_hi {M M' : TT} (h : HiE M' M) (z f : Int) : HiE (msel M' z f) (msel M z f) := by
  have e : ∀ t i j, 20 ≤ t → t ≤ 42 → M' t i j = M t i j := fun t i j q1 q2 => h t i j (by omega) (by omega) (by omega)
  unfold msel
  rw [mprF_hi h, e 31 _ _ (by omega) (by omega), e 28 _ _ (by omega) (by omega), e 27 _ _ (by omega) (by omega), h 12 0 1 (by omega) (by omega) (by omega)]
  exact (((h.hup rfl rfl).hup rfl rfl).hup rfl rfl).hup rfl rfl
theorem mend_hi {T' T M M' : TT} (hT : HiE T' T) (h : HiE M' M) (z lb : Int) : HiE (mend T' M' z lb) (mend T M z lb) := by
  unfold mend
  rw [hT 36 0 _ (by omega) (by omega) (by omega), hT 37 0 _ (by omega) (by omega) (by omega), hT 33 0 _ (by omega) (by omega) (by omega), hT 12 0 1 (by omega) (by omega) (by omega)]
  exact (((h.hup rfl rfl).hup rfl rfl).hup rfl rfl).hup rfl rfl
theorem mdoe_hi {M M' : TT} (h : HiE M' M) (z f : Int) : HiE (mdoe M' z f) (mdoe M z f) := by
  unfold mdoe
  rw [h 33 0 _ (by omega) (by omega) (by omega), h 32 0 _ (by omega) (by omega) (by omega), mprF_hi h, mlate_hi h]
  refine mend_hi h ?_ z _
  split
  · exact msel_hi h z f
  · split
    · exact mbuy_hi h _ _ _
    · exact h
theorem mdoe_lo {M : TT} {z f : Int} : LoE (mdoe M z f) M := by
  unfold mdoe mend
  refine (((LoE.hi (by decide) ?_).hi (by decide)).hi (by decide)).hi (by decide)
  split
  · unfold msel
    exact (((LoE.r.hi (by decide)).hi (by decide)).hi (by decide)).hi (by decide)
  · split
    · unfold mbuy
      exact (((((LoE.r.hi (by decide)).hi (by decide)).hi (by decide)).hi (by decide)).hi (by decide)).hi (by decide)
    · exact LoE.r
theorem mdoe_ou {M : TT} {z f : Int} : mdoe M z f 43 0 0 = M 43 0 0 ∧ mdoe M z f 12 0 0 = M 12 0 0 := by
  unfold mdoe
  rw [mend_ne (by omega), mend_ne (by omega)]
  split
  · unfold msel
    exact ⟨by rw [up_of (by omega), up_of (by omega), up_of (by omega), up_of (by omega)], by rw [up_of (by omega), up_of (by omega), up_of (by omega), up_of (by omega)]⟩
  · split
    · unfold mbuy
      exact ⟨by rw [up_of (by omega), up_of (by omega), up_of (by omega), up_of (by omega), up_of (by omega), up_of (by omega)], by rw [up_of (by omega), up_of (by omega), up_of (by omega), up_of (by omega), up_of (by omega), up_of (by omega)]⟩
    · exact ⟨rfl, rfl⟩
theorem goT_hi {X Y : TT} {k : Nat} {d lb : Int} (h : HiE X Y) : HiE (goT X k d lb) Y := by
  unfold goT
  split
  · exact ((h.lo (by decide)).lo (by decide)).lo (by decide)
  · exact ((h.lo (by decide)).lo (by decide)).lo (by decide)
theorem sellT_hi {X Y : TT} {k : Nat} {f : Int} (h : HiE X Y) : HiE (sellT X k f) Y := by
  unfold sellT
  exact ((h.lo (by decide)).lo (by decide)).lo (by decide)
theorem buyT_hi {X Y : TT} {k : Nat} {lb f : Int} (h : HiE X Y) : HiE (buyT X k lb f) Y := by
  unfold buyT arrT
  refine (((HiE.lo (by decide) ?_).lo (by decide)).lo (by decide)).lo (by decide)
  unfold shaT
  split
  · exact h
  · exact (h.lo (by decide)).lo (by decide)
theorem stpT_hi {T : TT} {k : Nat} {f : Int} : HiE (stpT T k f) T := by
  unfold stpT
  refine goT_hi ?_
  split
  · exact sellT_hi HiE.r
  · split
    · exact buyT_hi HiE.r
    · exact HiE.r
theorem CN_go {C : TT} {k : Nat} {lb : Int} (h : CN C) (hk : (k : Int) < C 0 0 8) (hst : C 11 k 3 ≤ 1) (hlb : 0 ≤ lb ∧ lb + C 11 k 4 ≤ C 0 0 5) : CN (goT C k (C 0 0 5) lb) := by
  obtain ⟨n1, n2, n3, n4, n5, n6, n7⟩ := h
  have hne : ∀ a b, a ≠ 11 → goT C k (C 0 0 5) lb a b = C a b := fun a b w => goT_ne (fun q => w q.1)
  have h00 := hne 0 0 (by omega)
  have hk1 : ∀ k', k' ≠ k → goT C k (C 0 0 5) lb 11 k' = C 11 k' := fun k' e => goT_ne (fun w => e w.2)
  have hmv : ∀ k', mvT (goT C k (C 0 0 5) lb) k' = mvT C k' := fun k' => by
    unfold mvT
    by_cases e : k' = k
    · rw [e, goT_k]
      rfl
    · rw [hk1 k' e]
  have h3 : ∀ k', goT C k (C 0 0 5) lb 11 k' 3 < 3 → C 11 k' 3 < 3 := fun k' => by
    by_cases e : k' = k
    · rw [e]
      omega
    · rw [hk1 k' e]
      exact id
  have hD1 := n2.1
  have hD2 := n2.2.1
  refine ⟨RN_congr (fun p => hne 6 p (by omega)) (fun p => hne 7 p (by omega)) (fun p => hne 8 p (by omega)) n1, ?_, ?_, ?_, ?_, ?_, ?_⟩
  · unfold DN
    rw [h00]
    exact n2
  · intro i hi
    rw [h00] at hi
    rw [hne 10 i (by omega)]
    exact n3 i hi
  · intro k' hk'
    rw [h00] at hk'
    have o := n4 k' hk'
    by_cases e : k' = k
    · subst e
      rw [h00, goT_k, goT_k, goT_k, goT_k, goT_k, goT_k, goT_k, goT_k, goT_k]
      show 0 ≤ C 11 k' 1 ∧ C 11 k' 1 < 5 ∧ 0 ≤ C 11 k' 2 ∧ C 11 k' 2 < 5 ∧ 0 ≤ C 11 k' 3 + 1 ∧ C 11 k' 3 + 1 ≤ 3 ∧ 0 ≤ C 0 0 5 ∧ C 0 0 5 ≤ C 0 0 5 ∧ 0 ≤ C 11 k' 5 + (if C 11 k' 3 = 2 then 0 else lb) ∧ (C 11 k' 3 + 1 ≤ 2 → C 11 k' 5 + (if C 11 k' 3 = 2 then 0 else lb) ≤ C 0 0 5) ∧ C 11 k' 5 + (if C 11 k' 3 = 2 then 0 else lb) ≤ 2000 ∧ 0 ≤ C 11 k' 6 + (if C 11 k' 3 = 2 then lb else 0) ∧ C 11 k' 6 + (if C 11 k' 3 = 2 then lb else 0) ≤ 2000 ∧ 0 ≤ C 11 k' 7 ∧ C 11 k' 7 ≤ 100000000 ∧ 0 ≤ C 11 k' 8 ∧ C 11 k' 8 ≤ 1000000000 ∧ 0 ≤ C 11 k' 9 ∧ C 11 k' 9 ≤ 100000000
      rw [if_neg (by omega), if_neg (by omega)]
      omega
    · rw [hk1 k' e, h00]
      exact o
  · intro p hp
    rw [hne 7 p (by omega), hne 6 p (by omega), h00]
    exact n5 p hp
  · intro k' hk' q3
    rw [h00] at hk'
    have q := n6 k' hk' (h3 k' q3)
    rw [hmv, hne 10 _ (by omega)]
    by_cases e : k' = k
    · subst e
      rw [goT_k, goT_k]
      show C 11 k' 1 = _ ∧ _ ∧ C 11 k' 6 + (if C 11 k' 3 = 2 then lb else 0) = 0
      rw [if_neg (by omega)]
      omega
    · rw [hk1 k' e]
      exact q
  · intro k' k'' hk' hk'' q1 q2 q3
    rw [h00] at hk' hk''
    rw [hmv, hmv] at q3
    exact n7 k' k'' hk' hk'' (h3 _ q1) (h3 _ q2) q3
theorem CN_sell {C : TT} {k : Nat} {f : Int} (h : CN C) (hk : (k : Int) < C 0 0 8) (hmv : 0 ≤ C 11 k 0 ∧ C 11 k 0 < C 0 0 7) : CN (sellT C k f) := by
  obtain ⟨n1, n2, n3, n4, n5, n6, n7⟩ := h
  have hat : ∀ a b, a ≠ 11 → a ≠ 10 → sellT C k f a b = C a b := fun a b q1 q2 => sellT_at (fun w => q1 w.1) q2
  have h00 := hat 0 0 (by omega) (by omega)
  have hk1 : ∀ k', k' ≠ k → sellT C k f 11 k' = C 11 k' := fun k' e => sellT_at (fun w => e w.2) (by omega)
  have hmv1 : ∀ k', mvT (sellT C k f) k' = mvT C k' := fun k' => by
    unfold mvT
    by_cases e : k' = k
    · rw [e, sellT_k]
      rfl
    · rw [hk1 k' e]
  have hc : ∀ k' j, j ≠ 7 → j ≠ 8 → sellT C k f 11 k' j = C 11 k' j := fun k' j q1 q2 => by
    by_cases e : k' = k
    · rw [e, sellT_k, if_neg q1, if_neg q2]
    · rw [hk1 k' e]
  have hs := n3 (mvT C k) (by unfold mvT; omega)
  have ho := n4 k hk
  refine ⟨RN_congr (fun p => hat 6 p (by omega) (by omega)) (fun p => hat 7 p (by omega) (by omega)) (fun p => hat 8 p (by omega) (by omega)) n1, ?_, ?_, ?_, ?_, ?_, ?_⟩
  · unfold DN
    rw [h00]
    exact n2
  · intro i hi
    rw [h00] at hi
    have s0 : sellT C k f 10 i 0 = C 10 i 0 := by rw [sellT_s, if_neg (by omega)]
    have s2 : sellT C k f 10 i 2 = C 10 i 2 := by rw [sellT_s, if_neg (by omega)]
    rw [s0, s2, sellT_s]
    have := n3 i hi
    split <;> omega
  · intro k' hk'
    rw [h00] at hk'
    have o := n4 k' hk'
    by_cases e : k' = k
    · subst e
      have hp := prF_in n1 n2 (p := (C 11 k' 1).toNat) (by omega) f
      have hm := moF_in (u := C 10 (mvT C k') 1) (pr := prF C (C 11 k' 1).toNat f) (by omega) (by omega)
      have j7 : sellT C k' f 11 k' 7 = C 10 (mvT C k') 1 := by rw [sellT_k, if_pos rfl]
      have j8 : sellT C k' f 11 k' 8 = moF (C 10 (mvT C k') 1) (prF C (C 11 k' 1).toNat f) := by rw [sellT_k, if_neg (by omega), if_pos rfl]
      rw [h00, j7, j8, hc _ _ (by omega) (by omega), hc _ _ (by omega) (by omega), hc _ _ (by omega) (by omega), hc _ _ (by omega) (by omega), hc _ _ (by omega) (by omega), hc _ _ (by omega) (by omega), hc _ _ (by omega) (by omega)]
      omega
    · rw [hk1 k' e, h00]
      exact o
  · intro p hp
    rw [hat 7 p (by omega) (by omega), hat 6 p (by omega) (by omega), h00]
    exact n5 p hp
  · intro k' hk' q3
    rw [h00] at hk'
    rw [hc _ _ (by omega) (by omega)] at q3
    have q := n6 k' hk' q3
    rw [hmv1, hc _ _ (by omega) (by omega), hc _ _ (by omega) (by omega), sellT_s, sellT_s, if_neg (by omega), if_neg (by omega)]
    exact q
  · intro k' k'' hk' hk'' q1 q2 q3
    rw [h00] at hk' hk''
    rw [hc _ _ (by omega) (by omega)] at q1 q2
    rw [hmv1, hmv1] at q3
    exact n7 k' k'' hk' hk'' q1 q2 q3
theorem CN_buy {C : TT} {k : Nat} {lb f : Int} (h : CN C) (hk : (k : Int) < C 0 0 8) (hmv : 0 ≤ C 11 k 0 ∧ C 11 k 0 < C 0 0 7) (hst : C 11 k 3 = 2) (hlb : 0 ≤ lb ∧ lb + C 11 k 4 ≤ C 0 0 5) (hov : gotT C k f + lakT C k lb f ≤ 100000000) : CN (goT (buyT C k lb f) k (C 0 0 5) lb) := by
  obtain ⟨n1, n2, n3, n4, n5, n6, n7⟩ := h
  have hD1 := n2.1
  have hD2 := n2.2.1
  have ho := n4 k hk
  have hx := n6 k hk (by omega)
  have hgn := gotT_nn n1 n2 (k := k) ho.2.2.2.1 (by omega) f
  have hln := lakT_nn C k lb f
  have hB3 : buyT C k lb f 11 k 3 = 2 := by rw [buyT_3, hst]
  have hat : ∀ a b, a ≠ 11 → a ≠ 10 → a ≠ 9 → a ≠ 3 → goT (buyT C k lb f) k (C 0 0 5) lb a b = C a b := fun a b q1 q2 q3 q4 => by
    rw [goT_ne (fun w => q1 w.1), buyT_ne (by omega) (by omega) ⟨q3, q4⟩]
  have h00 := hat 0 0 (by omega) (by omega) (by omega) (by omega)
  have hk1 : ∀ k', k' ≠ k → goT (buyT C k lb f) k (C 0 0 5) lb 11 k' = C 11 k' := fun k' e => by
    rw [goT_ne (fun w => e w.2), buyT_ne (fun w => e w.2) (by omega) (by omega)]
  have hkk : ∀ j, goT (buyT C k lb f) k (C 0 0 5) lb 11 k j = if j = 3 then 3 else if j = 4 then C 0 0 5 else if j = 6 then lb else if j = 9 then lakT C k lb f else C 11 k j := fun j => by
    rw [goT_k, hB3, if_pos rfl, if_pos rfl, buyT_k, buyT_k, buyT_k, if_neg (show ¬ (5 : Nat) = 9 by omega), if_neg (show ¬ (6 : Nat) = 9 by omega), hx.2.2]
    by_cases j3 : j = 3
    · rw [if_pos j3, if_pos j3]
      rfl
    · rw [if_neg j3, if_neg j3]
      by_cases j4 : j = 4
      · rw [if_pos j4, if_pos j4]
      · rw [if_neg j4, if_neg j4]
        by_cases j5 : j = 5
        · rw [if_pos j5, if_neg (by omega), if_neg (by omega), j5]
          omega
        · rw [if_neg j5]
          by_cases j6 : j = 6
          · rw [if_pos j6, if_pos j6]
            omega
          · rw [if_neg j6, if_neg j6]
  have hmv1 : ∀ k', mvT (goT (buyT C k lb f) k (C 0 0 5) lb) k' = mvT C k' := fun k' => by
    unfold mvT
    by_cases e : k' = k
    · rw [e, hkk]
      rfl
    · rw [hk1 k' e]
  have hne3 : ∀ k', goT (buyT C k lb f) k (C 0 0 5) lb 11 k' 3 < 3 → k' ≠ k := fun k' q e => by
    rw [e, hkk, if_pos rfl] at q
    omega
  refine ⟨RN_congr (fun p => hat 6 p (by omega) (by omega) (by omega) (by omega)) (fun p => hat 7 p (by omega) (by omega) (by omega) (by omega)) (fun p => hat 8 p (by omega) (by omega) (by omega) (by omega)) n1, ?_, ?_, ?_, ?_, ?_, ?_⟩
  · unfold DN
    rw [h00]
    exact n2
  · intro i hi
    rw [h00] at hi
    by_cases e : i = mvT C k
    · obtain ⟨s0, s1, s2⟩ := buyT_s (C := C) (k := k) (lb := lb) (f := f)
      rw [goT_ne (by omega), e, s0, s1, s2]
      omega
    · rw [goT_ne (by omega), buyT_ne (by omega) (fun w => e w.2) (by omega)]
      exact n3 i hi
  · intro k' hk'
    rw [h00] at hk'
    have o := n4 k' hk'
    by_cases e : k' = k
    · subst e
      rw [h00, hkk, hkk, hkk, hkk, hkk, hkk, hkk, hkk, hkk]
      show 0 ≤ C 11 k' 1 ∧ C 11 k' 1 < 5 ∧ 0 ≤ C 11 k' 2 ∧ C 11 k' 2 < 5 ∧ (0 : Int) ≤ 3 ∧ (3 : Int) ≤ 3 ∧ 0 ≤ C 0 0 5 ∧ C 0 0 5 ≤ C 0 0 5 ∧ 0 ≤ C 11 k' 5 ∧ ((3 : Int) ≤ 2 → C 11 k' 5 ≤ C 0 0 5) ∧ C 11 k' 5 ≤ 2000 ∧ 0 ≤ lb ∧ lb ≤ 2000 ∧ 0 ≤ C 11 k' 7 ∧ C 11 k' 7 ≤ 100000000 ∧ 0 ≤ C 11 k' 8 ∧ C 11 k' 8 ≤ 1000000000 ∧ 0 ≤ lakT C k' lb f ∧ lakT C k' lb f ≤ 100000000
      omega
    · rw [hk1 k' e, h00]
      exact o
  · intro p hp
    rw [hat 7 p (by omega) (by omega) (by omega) (by omega), hat 6 p (by omega) (by omega) (by omega) (by omega), h00]
    exact n5 p hp
  · intro k' hk' q3
    have e := hne3 k' q3
    rw [h00] at hk'
    rw [hk1 k' e] at q3
    have q := n6 k' hk' q3
    have hm : mvT C k' ≠ mvT C k := fun w => e (n7 k' k hk' hk q3 (by omega) w)
    rw [hmv1, hk1 k' e, goT_ne (by omega), buyT_ne (by omega) (fun w => hm w.2) (by omega)]
    exact q
  · intro k' k'' hk' hk'' q1 q2 q3
    have e1 := hne3 k' q1
    have e2 := hne3 k'' q2
    rw [h00] at hk' hk''
    rw [hk1 k' e1] at q1
    rw [hk1 k'' e2] at q2
    rw [hmv1, hmv1] at q3
    exact n7 k' k'' hk' hk'' q1 q2 q3
