theorem IV_init {ad : AD} {T : TT} {P : PP} (h : InitC ad T P) {q q2 : Nat} {ad1 : AD} {T1 : TT} {P1 : PP} (h1 : InitM (upA ad 12 0 q) (zrT T 12 0) (zrP P 12 0) ad1 T1 P1) : IV (K1 ++ [(43, 0)]) (upA ad1 43 0 q2) (zrT T1 43 0) (zrP P1 43 0) := by
  obtain ⟨hFI, hRK, ⟨t5, t6, t7, t8⟩, hp, h3, p4, p5⟩ := h
  obtain ⟨hMI, hA, hT, hP, ⟨-, m1, m5, m6, mx⟩, m22, m27⟩ := h1
  have A : ∀ t i : Nat, t < 12 → upA ad1 43 0 q2 t i = ad t i := fun t i ht => by
    rw [upA_ne (by omega), hA t i (by omega), upA_ne (by omega)]
  have C : LoE (zrT T1 43 0) T := fun t i ht => by
    rw [zrT_ne (by omega), hT t i ht, zrT_ne (by omega)]
  have Q : ∀ t i : Nat, t < 12 → zrP P1 43 0 t i = P t i := fun t i ht => by
    rw [zrP_ne (by omega), hP t i ht, zrP_ne (by omega)]
  have M : HiE (zrT T1 43 0) T1 := fun t i j a b c => by
    rw [zrT_ne (by omega)]
  have hKK : ∀ k ∈ K0, k ∈ K1 ++ [(43, 0)] := by decide
  have hN : CN T := by
    refine ⟨?_, ?_, ?_, ?_, ?_, ?_, ?_⟩
    · intro p hp5
      obtain ⟨a1, a2, a3, a4, a5, a6⟩ := hp p hp5
      refine ⟨by omega, by omega, ⟨fun j => ?_, a2 0, by rw [a5, a2], by omega, fun j hj => by omega⟩, fun j hj => ?_⟩
      · rw [a2 j]
        constructor <;> omega
      · have : j = 0 := by omega
        rw [this, a3]
        omega
    · exact ⟨by omega, by omega, by omega, by omega⟩
    · intro i hi
      omega
    · intro k hk
      omega
    · intro p hp5
      obtain ⟨a1, a2, a3, a4⟩ := hp p hp5
      refine ⟨a2 0, ?_⟩
      rw [a2]
      omega
    · intro k hk
      omega
    · intro k k' hk
      omega
  refine ⟨⟨?_, ?_, ?_, ?_, ?_, ?_, ?_⟩, hN.congr C, Rel.congr C M ?_⟩
  · obtain ⟨b0, b1, b2, b3, b4, b5, c0, c1, c2, c3, c4⟩ := hFI
    refine ⟨hKK _ b0, hKK _ b1, hKK _ b2, hKK _ b3, hKK _ b4, hKK _ b5, ?_, ?_, ?_, ?_, ?_⟩ <;> rw [Q 0 0 (by omega), A _ _ (by omega)] <;> assumption
  · intro p hp5
    obtain ⟨b6, b7, b8, b9, c1, c2, c3, c4⟩ := hRK p hp5
    refine ⟨hKK _ b6, hKK _ b7, hKK _ b8, hKK _ b9, ?_, ?_, ?_, ?_⟩ <;> rw [Q _ _ (by omega), A _ _ (by omega)] <;> assumption
  · have e7 : zrT T1 43 0 0 0 7 = 0 := by rw [C 0 0 (by omega), t7]
    refine ⟨by omega, by omega, fun i hi => ?_, fun i hi => ?_⟩
    · rw [Q 4 0 (by omega), p4, if_neg (by omega)]
    · omega
  · have e8 : zrT T1 43 0 0 0 8 = 0 := by rw [C 0 0 (by omega), t8]
    refine ⟨by omega, by omega, fun i hi => ?_, fun i hi => ?_⟩
    · rw [Q 5 0 (by omega), p5, if_neg (by omega)]
    · omega
  · refine ⟨fun i _ => ?_, fun k _ => ?_⟩
    · simp [K1, K0]
    · simp [K1, K0]
  · refine ⟨List.mem_append_left _ hMI.1, fun k hk => ?_⟩
    obtain ⟨b1, b2⟩ := hMI.2 k hk
    have hk22 : k ≤ 22 := (show ∀ k ∈ mks, k ≤ 22 by decide) k hk
    refine ⟨List.mem_append_left _ b1, ?_⟩
    rw [zrP_ne (by omega), upA_ne (by omega)]
    exact b2
  · exact List.mem_append_right _ List.mem_cons_self
  · refine ⟨⟨by omega, by omega, by omega, by omega⟩, fun p hp5 => ?_, fun i hi => ?_, fun i hi => ?_, fun k hk => ?_, fun k hk => ?_, fun p q hp5 hq5 => ?_, fun p hp5 => ?_⟩
    · obtain ⟨a1, a2, a3, a4⟩ := hp p hp5
      obtain ⟨b1, b2, b3⟩ := m22 p hp5
      refine ⟨by omega, ?_, fun d d1 d2 => ?_⟩
      · rw [a2, b3]
      · have hd : d = 0 := by omega
        subst hd
        have e1 : mpr T1 (p : Int) 0 = 1000 := by
          unfold mpr
          rw [show (2001 * (p : Int) + 0).toNat = 2001 * p by omega]
          exact b1
        have e2 : valT T p 0 = 1000 := by
          unfold valT
          rw [a1]
          exact a3
        rw [e1, e2]
    · omega
    · exact m27 29 (by decide) i
    · omega
    · exact ⟨m27 33 (by decide) k, m27 36 (by decide) k, m27 37 (by decide) k, m27 38 (by decide) k, m27 39 (by decide) k, m27 40 (by decide) k⟩
    · rw [m27 41 (by decide), (hp p hp5).2.2.2.1]
    · rw [m27 42 (by decide), h3]
