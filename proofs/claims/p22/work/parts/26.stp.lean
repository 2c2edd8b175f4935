/-! ===== a step on both sides ===== -/
theorem stp_0 {C : TT} {k : Nat} {f : Int} (s : C 11 k 3 = 0) : stpT C k f = goT C k (C 0 0 5) (lateT C k (C 0 0 5)) := by
  unfold stpT
  rw [if_neg (by omega), if_neg (by omega)]
theorem stp_1 {C : TT} {k : Nat} {f : Int} (s : C 11 k 3 = 1) : stpT C k f = goT (sellT C k f) k (C 0 0 5) (lateT C k (C 0 0 5)) := by
  unfold stpT
  rw [if_pos s]
theorem stp_2 {C : TT} {k : Nat} {f : Int} (s : C 11 k 3 = 2) : stpT C k f = goT (buyT C k (lateT C k (C 0 0 5)) f) k (C 0 0 5) (lateT C k (C 0 0 5)) := by
  unfold stpT
  rw [if_neg (by omega), if_pos s]
theorem CN_stp {C : TT} {k : Nat} {f : Int} (hN : CN C) (hk : (k : Int) < C 0 0 8) (hmv : 0 ≤ C 11 k 0 ∧ C 11 k 0 < C 0 0 7) (h3 : C 11 k 3 ≠ 3) (hov : C 11 k 3 = 2 → gotT C k f + lakT C k (lateT C k (C 0 0 5)) f ≤ 100000000) : CN (stpT C k f) ∧ stpT C k f 0 0 = C 0 0 ∧ ∀ k', stpT C k f 11 k' 0 = C 11 k' 0 := by
  have ho := hN.2.2.2.1 k hk
  have hl := lateT_in2 (T := C) (k := k) (d := C 0 0 5) ⟨by omega, by omega⟩
  have h10 : ∀ (X : TT) (d lb : Int) (k' : Nat), goT X k d lb 11 k' 0 = X 11 k' 0 := fun X d lb k' => by
    by_cases e : k' = k
    · rw [e, goT_k]
      rfl
    · rw [goT_ne (fun w => e w.2)]
  rcases (show C 11 k 3 = 0 ∨ C 11 k 3 = 1 ∨ C 11 k 3 = 2 by omega) with s | s | s
  · rw [stp_0 s]
    exact ⟨CN_go hN hk (by omega) hl, goT_ne (by omega), fun k' => h10 C _ _ k'⟩
  · have h00 : sellT C k f 0 0 = C 0 0 := sellT_at (by omega) (by omega)
    have g3 : sellT C k f 11 k 3 = 1 := by rw [sellT_3, s]
    have g4 : sellT C k f 11 k 4 = C 11 k 4 := by
      rw [sellT_k]
      rfl
    rw [stp_1 s, show C 0 0 5 = sellT C k f 0 0 5 by rw [h00]]
    refine ⟨?_, ?_, fun k' => ?_⟩
    · refine CN_go (CN_sell hN hk hmv) (by rw [h00]; omega) (by omega) ?_
      rw [g4, h00]
      exact hl
    · rw [goT_ne (by omega), h00]
    · rw [h10]
      by_cases e : k' = k
      · rw [e, sellT_k]
        rfl
      · rw [sellT_at (fun w => e w.2) (by omega)]
  · rw [stp_2 s]
    refine ⟨CN_buy hN hk hmv s hl (hov s), ?_, fun k' => ?_⟩
    · rw [goT_ne (by omega), buyT_ne (by omega) (by omega) (by omega)]
    · rw [h10]
      by_cases e : k' = k
      · rw [e, buyT_k]
        rfl
      · rw [buyT_ne (fun w => e w.2) (by omega) (by omega)]
theorem R2_s0 {C M : TT} {k : Nat} {f c : Int} (h : R2 C M) (hN : CN C) (hk : (k : Int) < C 0 0 8) (s : C 11 k 3 = 0) (hc : c = 1) : R2 (stpT C k f) (up (up (up M 53 0 (9 * k + 5) (C 0 0 5)) 53 0 (9 * k + 7) (lateT C k (C 0 0 5))) 53 0 (9 * k + 3) c) := by
  subst hc
  rw [stp_0 s]
  have ho := hN.2.2.2.1 k hk
  have hl := lateT_in2 (T := C) (k := k) (d := C 0 0 5) ⟨by omega, by omega⟩
  have hat : ∀ a b, a ≠ 11 → goT C k (C 0 0 5) (lateT C k (C 0 0 5)) a b = C a b := fun a b q => goT_ne (fun w => q w.1)
  have hg : ∀ j, goT C k (C 0 0 5) (lateT C k (C 0 0 5)) 11 k j = if j = 3 then 1 else if j = 4 then C 0 0 5 else if j = 5 then C 11 k 5 + lateT C k (C 0 0 5) else if j = 6 then C 11 k 6 + 0 else C 11 k j := fun j => by
    rw [goT_k, s, if_neg (show ¬ (0 : Int) = 2 by omega), if_neg (show ¬ (0 : Int) = 2 by omega)]
    rfl
  obtain ⟨g, p, sv, o, d⟩ := h
  refine ⟨g.congr (hat 0 0 (by omega)) (by rw [up_ne (by omega), up_ne (by omega), up_ne (by omega)]), p.congr (fun p => hat 6 p (by omega)) (fun p => hat 7 p (by omega)) (fun p => hat 8 p (by omega)) (by rw [up_ne (by omega), up_ne (by omega), up_ne (by omega)]) (by rw [up_of (by omega), up_of (by omega), up_of (by omega)]), sv.congr (by rw [hat 0 0 (by omega)]) (fun i => hat 10 i (by omega)) (by rw [up_ne (by omega), up_ne (by omega), up_ne (by omega)]) (by rw [up_ne (by omega), up_ne (by omega), up_ne (by omega)]), ⟨fun k' hk' => ?_, fun k' hk' hk2 => ?_⟩, d.congr (fun p => hat 9 p (by omega)) (hat 3 0 (by omega)) (by rw [up_ne (by omega), up_ne (by omega), up_ne (by omega)])⟩
  · rw [hat 0 0 (by omega)] at hk'
    have q := o.1 k' hk'
    by_cases e : k' = k
    · subst e
      obtain ⟨q1, q2, q3, q4, q5, q6, q7, q8, q9, q10, q11, q12, q13, q14, q15⟩ := q
      have q7 := q7 s
      have q8 := q8 (by omega)
      unfold OR
      rw [hg, hg, hg, hg, hg, hg, hg, hg, hg, hg, up_ne (show ¬ (54 = 53 ∧ 0 = 0) by omega), up_ne (show ¬ (54 = 53 ∧ 0 = 0) by omega), up_ne (show ¬ (54 = 53 ∧ 0 = 0) by omega)]
      refine ⟨?_, ?_, ?_, ?_, fun _ => ?_, ?_, fun w => ?_, fun _ => ?_, ?_, ?_, q11, q12, q13, ?_, fun _ => q15 (by omega)⟩
      · rw [up_of (by omega), up_of (by omega), up_of (by omega)]
        exact q1
      · rw [up_of (by omega), up_of (by omega), up_of (by omega)]
        exact q2
      · rw [up_of (by omega), up_of (by omega), up_of (by omega)]
        exact q3
      · rw [up_at rfl]
        rfl
      · rw [show 9 * k' + 4 + (if (3 : Nat) = 3 then (1 : Int) else if (3 : Nat) = 4 then C 0 0 5 else if (3 : Nat) = 5 then C 11 k' 5 + lateT C k' (C 0 0 5) else if (3 : Nat) = 6 then C 11 k' 6 + 0 else C 11 k' 3).toNat = 9 * k' + 5 from rfl, up_of (by omega), up_of (by omega), up_at rfl]
        rfl
      · rw [up_of (by omega), up_at rfl, up_of (by omega), up_of (by omega), up_of (by omega), q8]
        show lateT C k' (C 0 0 5) + 0 = C 11 k' 5 + lateT C k' (C 0 0 5)
        omega
      · exact absurd (show (1 : Int) = 0 from w) (by decide)
      · rw [up_of (by omega), up_of (by omega), up_of (by omega)]
        exact q8
      · rw [up_of (by omega), up_at rfl]
        omega
      · rw [up_of (by omega), up_of (by omega), up_of (by omega)]
        exact q10
      · rw [q14]
        show C 11 k' 6 = C 11 k' 6 + 0
        omega
    · exact q.congr' (goT_ne (fun w => e w.2)) (fun j _ _ => by rw [up_of (by omega), up_of (by omega), up_of (by omega)]) (fun j _ _ => by rw [up_of (by omega), up_of (by omega), up_of (by omega)])
  · rw [hat 0 0 (by omega)] at hk2
    exact (o.2 k' hk' hk2).congr (fun j _ _ => by rw [up_of (by omega), up_of (by omega), up_of (by omega)]) (fun j _ _ => by rw [up_of (by omega), up_of (by omega), up_of (by omega)])
theorem R2_s1 {C M : TT} {k i : Nat} {f c u mo : Int} (h : R2 C M) (hN : CN C) (hk : (k : Int) < C 0 0 8) (hmv : i = mvT C k ∧ (i : Int) < C 0 0 7) (s : C 11 k 3 = 1) (hu : u = C 10 i 1) (hmo : mo = moF (C 10 i 1) (prF C (C 11 k 1).toNat f)) (hc : c = 2) : R2 (stpT C k f) (up (up (up (up (up (up M 54 0 (4 * k) u) 54 0 (4 * k + 1) mo) 52 0 i 0) 53 0 (9 * k + 6) (C 0 0 5)) 53 0 (9 * k + 8) (lateT C k (C 0 0 5))) 53 0 (9 * k + 3) c) := by
  subst hc
  subst hu
  obtain ⟨hi, hi7⟩ := hmv
  rw [stp_1 s]
  have ho := hN.2.2.2.1 k hk
  have hl := lateT_in2 (T := C) (k := k) (d := C 0 0 5) ⟨by omega, by omega⟩
  have hat : ∀ a b, a ≠ 11 → a ≠ 10 → goT (sellT C k f) k (C 0 0 5) (lateT C k (C 0 0 5)) a b = C a b := fun a b q1 q2 => by
    rw [goT_ne (fun w => q1 w.1), sellT_at (fun w => q1 w.1) q2]
  have hg : ∀ j, goT (sellT C k f) k (C 0 0 5) (lateT C k (C 0 0 5)) 11 k j = if j = 3 then 2 else if j = 4 then C 0 0 5 else if j = 5 then C 11 k 5 + lateT C k (C 0 0 5) else if j = 6 then C 11 k 6 + 0 else if j = 7 then C 10 i 1 else if j = 8 then mo else C 11 k j := fun j => by
    rw [goT_k, sellT_k, sellT_k, sellT_k, sellT_k, s, if_neg (show ¬ (3 : Nat) = 7 by omega), if_neg (show ¬ (3 : Nat) = 8 by omega), if_neg (show ¬ (1 : Int) = 2 by omega), if_neg (show ¬ (1 : Int) = 2 by omega), ← hi, ← hmo]
    rfl
  have hgk : ∀ k', k' ≠ k → goT (sellT C k f) k (C 0 0 5) (lateT C k (C 0 0 5)) 11 k' = C 11 k' := fun k' e => by
    rw [goT_ne (fun w => e w.2), sellT_at (fun w => e w.2) (by omega)]
  have hs : ∀ i' j, goT (sellT C k f) k (C 0 0 5) (lateT C k (C 0 0 5)) 10 i' j = if i' = i ∧ j = 1 then 0 else C 10 i' j := fun i' j => by
    rw [goT_ne (by omega), sellT_s, hi]
  obtain ⟨g, p, sv, o, d⟩ := h
  refine ⟨g.congr (hat 0 0 (by omega) (by omega)) (by rw [up_ne (by omega), up_ne (by omega), up_ne (by omega), up_ne (by omega), up_ne (by omega), up_ne (by omega)]), p.congr (fun p => hat 6 p (by omega) (by omega)) (fun p => hat 7 p (by omega) (by omega)) (fun p => hat 8 p (by omega) (by omega)) (by rw [up_ne (by omega), up_ne (by omega), up_ne (by omega), up_ne (by omega), up_ne (by omega), up_ne (by omega)]) (by rw [up_of (by omega), up_of (by omega), up_of (by omega), up_of (by omega), up_of (by omega), up_of (by omega)]), ⟨fun i' hi' => ?_, fun i' hi' hi2 => ?_⟩, ⟨fun k' hk' => ?_, fun k' hk' hk2 => ?_⟩, d.congr (fun p => hat 9 p (by omega) (by omega)) (hat 3 0 (by omega) (by omega)) (by rw [up_ne (by omega), up_ne (by omega), up_ne (by omega), up_ne (by omega), up_ne (by omega), up_ne (by omega)])⟩
  · rw [hat 0 0 (by omega) (by omega)] at hi'
    have q := sv.1 i' hi'
    rw [hs, hs, hs, if_neg (show ¬ (i' = i ∧ (0 : Nat) = 1) by omega), if_neg (show ¬ (i' = i ∧ (2 : Nat) = 1) by omega), up_of (by omega), up_of (by omega), up_of (by omega), up_of (by omega), up_of (by omega), up_of (by omega), up_of (by omega), up_of (by omega), up_of (by omega), up_of (by omega), up_of (by omega), up_of (by omega)]
    refine ⟨q.1, q.2.1, ?_⟩
    rw [up_of (by omega), up_of (by omega), up_of (by omega)]
    by_cases e : i' = i
    · rw [up_at e, if_pos ⟨e, rfl⟩]
    · rw [up_of (fun w => e w.2.2), if_neg (fun w => e w.1), up_of (by omega), up_of (by omega)]
      exact q.2.2
  · rw [hat 0 0 (by omega) (by omega)] at hi2
    rw [up_of (by omega), up_of (by omega), up_of (by omega), up_of (by omega), up_of (by omega), up_of (by omega)]
    exact sv.2 i' hi' hi2
  · rw [hat 0 0 (by omega) (by omega)] at hk'
    have q := o.1 k' hk'
    by_cases e : k' = k
    · subst e
      obtain ⟨q1, q2, q3, q4, q5, q6, q7, q8, q9, q10, q11, q12, q13, q14, q15⟩ := q
      have q8 := q8 (by omega)
      unfold OR
      rw [hg, hg, hg, hg, hg, hg, hg, hg, hg, hg]
      refine ⟨?_, ?_, ?_, ?_, fun _ => ?_, ?_, fun w => ?_, fun w => ?_, ?_, ?_, ?_, ?_, ?_, ?_, fun _ => q15 (by omega)⟩
      · rw [up_of (by omega), up_of (by omega), up_of (by omega), up_of (by omega), up_of (by omega), up_of (by omega)]
        exact q1
      · rw [up_of (by omega), up_of (by omega), up_of (by omega), up_of (by omega), up_of (by omega), up_of (by omega)]
        exact q2
      · rw [up_of (by omega), up_of (by omega), up_of (by omega), up_of (by omega), up_of (by omega), up_of (by omega)]
        exact q3
      · rw [up_at rfl]
        rfl
      · rw [show 9 * k' + 4 + (if (3 : Nat) = 3 then (2 : Int) else if (3 : Nat) = 4 then C 0 0 5 else if (3 : Nat) = 5 then C 11 k' 5 + lateT C k' (C 0 0 5) else if (3 : Nat) = 6 then C 11 k' 6 + 0 else if (3 : Nat) = 7 then C 10 i 1 else if (3 : Nat) = 8 then mo else C 11 k' 3).toNat = 9 * k' + 6 from rfl, up_of (by omega), up_of (by omega), up_at rfl]
        rfl
      · rw [up_of (by omega), up_of (by omega), up_of (by omega), up_of (by omega), up_of (by omega), up_of (by omega), up_of (by omega), up_at rfl]
        show M 53 0 (9 * k' + 7) + lateT C k' (C 0 0 5) = C 11 k' 5 + lateT C k' (C 0 0 5)
        omega
      · exact absurd (show (2 : Int) = 0 from w) (by decide)
      · exact absurd (show (2 : Int) ≤ 1 from w) (by decide)
      · rw [up_of (by omega), up_of (by omega), up_of (by omega), up_of (by omega), up_of (by omega), up_of (by omega)]
        exact q9
      · rw [up_of (by omega), up_at rfl]
        omega
      · rw [up_of (by omega), up_of (by omega), up_of (by omega), up_of (by omega), up_of (by omega), up_at rfl]
        rfl
      · rw [up_of (by omega), up_of (by omega), up_of (by omega), up_of (by omega), up_at rfl]
        rfl
      · rw [up_of (by omega), up_of (by omega), up_of (by omega), up_of (by omega), up_of (by omega), up_of (by omega)]
        exact q13
      · rw [up_of (by omega), up_of (by omega), up_of (by omega), up_of (by omega), up_of (by omega), up_of (by omega), q14]
        show C 11 k' 6 = C 11 k' 6 + 0
        omega
    · exact q.congr' (hgk k' e) (fun j _ _ => by rw [up_of (by omega), up_of (by omega), up_of (by omega), up_of (by omega), up_of (by omega), up_of (by omega)]) (fun j _ _ => by rw [up_of (by omega), up_of (by omega), up_of (by omega), up_of (by omega), up_of (by omega), up_of (by omega)])
  · rw [hat 0 0 (by omega) (by omega)] at hk2
    exact (o.2 k' hk' hk2).congr (fun j _ _ => by rw [up_of (by omega), up_of (by omega), up_of (by omega), up_of (by omega), up_of (by omega), up_of (by omega)]) (fun j _ _ => by rw [up_of (by omega), up_of (by omega), up_of (by omega), up_of (by omega), up_of (by omega), up_of (by omega)])
theorem R2_s2 {C M M' : TT} {k i : Nat} {f : Int} (h : R2 C M) (hN : CN C) (hk : (k : Int) < C 0 0 8) (hmv : i = mvT C k ∧ (i : Int) < C 0 0 7) (s : C 11 k 3 = 2)
    (m53 : ∀ j, j ≠ 9 * k + 3 → M' 53 0 j = M 53 0 j) (m533 : M' 53 0 (9 * k + 3) = 3) (m54 : ∀ j, j ≠ 4 * k + 2 → j ≠ 4 * k + 3 → M' 54 0 j = M 54 0 j) (m542 : M' 54 0 (4 * k + 2) = lakT C k (lateT C k (C 0 0 5)) f) (m543 : M' 54 0 (4 * k + 3) = lateT C k (C 0 0 5))
    (m52 : ∀ j, j ≠ i → M' 52 0 j = M 52 0 j) (m52i : M' 52 0 i = gotT C k f + lakT C k (lateT C k (C 0 0 5)) f) (m51 : ∀ j, j ≠ 2 * i → j ≠ 2 * i + 1 → M' 51 0 j = M 51 0 j) (m510 : M' 51 0 (2 * i) = C 11 k 2) (m511 : M' 51 0 (2 * i + 1) = 0)
    (m55 : ∀ p q : Nat, p < 5 → q < 5 → M' 55 0 (5 * p + q) = buyT C k (lateT C k (C 0 0 5)) f 9 p q) (m55b : ∀ p : Nat, p < 5 → M' 55 0 (25 + p) = buyT C k (lateT C k (C 0 0 5)) f 3 0 p) (m50 : M' 50 0 = M 50 0) (m56 : M' 56 0 = M 56 0) : R2 (stpT C k f) M' := by
  obtain ⟨hi, hi7⟩ := hmv
  rw [stp_2 s]
  have ho := hN.2.2.2.1 k hk
  have hx := hN.2.2.2.2.2.1 k hk (by omega)
  have hl := lateT_in2 (T := C) (k := k) (d := C 0 0 5) ⟨by omega, by omega⟩
  generalize hlb : lateT C k (C 0 0 5) = lb at *
  have hat : ∀ a b, a ≠ 11 → a ≠ 10 → a ≠ 9 → a ≠ 3 → goT (buyT C k lb f) k (C 0 0 5) lb a b = C a b := fun a b q1 q2 q3 q4 => by
    rw [goT_ne (fun w => q1 w.1), buyT_ne (fun w => q1 w.1) (fun w => q2 w.1) ⟨q3, q4⟩]
  have h00 := hat 0 0 (by omega) (by omega) (by omega) (by omega)
  have hgk : ∀ k', k' ≠ k → goT (buyT C k lb f) k (C 0 0 5) lb 11 k' = C 11 k' := fun k' e => by
    rw [goT_ne (fun w => e w.2), buyT_ne (fun w => e w.2) (by omega) (by omega)]
  have hg : ∀ j, goT (buyT C k lb f) k (C 0 0 5) lb 11 k j = if j = 3 then 3 else if j = 4 then C 0 0 5 else if j = 5 then C 11 k 5 + 0 else if j = 6 then lb else if j = 9 then lakT C k lb f else C 11 k j := fun j => by
    rw [goT_k, buyT_3, s, if_pos rfl, if_pos rfl, buyT_k, buyT_k, buyT_k, if_neg (show ¬ (5 : Nat) = 9 by omega), if_neg (show ¬ (6 : Nat) = 9 by omega), hx.2.2, Int.zero_add]
    rfl
  obtain ⟨s0, s1, s2⟩ := buyT_s (C := C) (k := k) (lb := lb) (f := f)
  obtain ⟨g, p, sv, o, d⟩ := h
  refine ⟨g.congr h00 m56, p.congr (fun p => hat 6 p (by omega) (by omega) (by omega) (by omega)) (fun p => hat 7 p (by omega) (by omega) (by omega) (by omega)) (fun p => hat 8 p (by omega) (by omega) (by omega) (by omega)) m50 (by rw [m56]), ⟨fun i' hi' => ?_, fun i' hi' hi2 => ?_⟩, ⟨fun k' hk' => ?_, fun k' hk' hk2 => ?_⟩, ⟨fun p q hp hq => ?_, fun p hp => ?_⟩⟩
  · rw [h00] at hi'
    by_cases e : i' = i
    · rw [e, m510, m511, m52i, goT_ne (by omega), hi, s0, s1, s2]
      exact ⟨rfl, rfl, rfl⟩
    · rw [goT_ne (by omega), buyT_ne (by omega) (fun w => e (w.2.trans hi.symm)) (by omega), m51 _ (by omega) (by omega), m51 _ (by omega) (by omega), m52 _ e]
      exact sv.1 i' hi'
  · rw [h00] at hi2
    rw [m51 _ (by omega) (by omega)]
    exact sv.2 i' hi' hi2
  · rw [h00] at hk'
    have q := o.1 k' hk'
    by_cases e : k' = k
    · subst e
      obtain ⟨q1, q2, q3, q4, q5, q6, q7, q8, q9, q10, q11, q12, q13, q14, q15⟩ := q
      unfold OR
      rw [hg, hg, hg, hg, hg, hg, hg, hg, hg, hg, m53 _ (by omega), m53 _ (by omega), m53 _ (by omega), m533, m53 (9 * k' + 7) (by omega), m53 (9 * k' + 8) (by omega), m54 _ (by omega) (by omega), m54 _ (by omega) (by omega), m542, m543]
      refine ⟨q1, q2, q3, rfl, fun w => absurd (show (3 : Int) ≤ 2 from w) (by decide), ?_, fun w => absurd (show (3 : Int) = 0 from w) (by decide), fun w => absurd (show (3 : Int) ≤ 1 from w) (by decide), q9, q10, q11, q12, rfl, rfl, fun w => absurd (show (3 : Int) < 3 from w) (by decide)⟩
      show M 53 0 (9 * k' + 7) + M 53 0 (9 * k' + 8) = C 11 k' 5 + 0
      omega
    · exact q.congr' (hgk k' e) (fun j _ _ => m53 j (by omega)) (fun j _ _ => m54 j (by omega) (by omega))
  · rw [h00] at hk2
    exact (o.2 k' hk' hk2).congr (fun j _ _ => m53 j (by omega)) (fun j _ _ => m54 j (by omega) (by omega))
  · rw [goT_ne (by omega)]
    exact m55 p q hp hq
  · rw [goT_ne (by omega)]
    exact m55b p hp
