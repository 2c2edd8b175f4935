abbrev K2 : KK := ((((((K0 ++ [(50, 0)]) ++ [(51, 0)]) ++ [(52, 0)]) ++ [(53, 0)]) ++ [(54, 0)]) ++ [(55, 0)]) ++ [(56, 0)]
theorem IV_init {ad ad1 : AD} {T T1 : TT} {P P1 : PP} (h : InitC ad T P) (hA : ∀ t i : Nat, t < 12 → ad1 t i = ad t i) (hT : LoE T1 T) (hP : ∀ t i : Nat, t < 12 → P1 t i = P t i) (h0 : ∀ t j : Nat, 50 ≤ t → t ≤ 56 → ¬ (t = 56 ∧ j = 4) → T1 t 0 j = 0) (h4 : T1 56 0 4 = 1000) : IV K2 ad1 T1 P1 := by
  obtain ⟨hFI, hRK, ⟨t5, t6, t7, t8⟩, hp, h3, p4, p5⟩ := h
  have hKK : ∀ k ∈ K0, k ∈ K2 := by decide
  have hN : CN T := by
    refine ⟨?_, ?_, ?_, ?_, ?_, ?_, ?_⟩
    · intro p hp5
      obtain ⟨a1, a2, a3, a4, a5, a6⟩ := hp p hp5
      refine ⟨by omega, by omega, ⟨fun j => ?_, a2 0, by rw [a5, a2], by omega, fun j hj => by omega⟩, fun j hj => ?_⟩
      · rw [a2 j]
        constructor <;> omega
      · have : j = 0 := by omega
        rw [this, a3]
        omega
    · exact ⟨by omega, by omega, by omega, by omega⟩
    · intro i hi
      omega
    · intro k hk
      omega
    · intro p hp5
      obtain ⟨a1, a2, a3, a4⟩ := hp p hp5
      refine ⟨a2 0, ?_⟩
      rw [a2]
      omega
    · intro k hk
      omega
    · intro k k' hk
      omega
  have e7 : T1 0 0 7 = 0 := by rw [hT 0 0 (by omega), t7]
  have e8 : T1 0 0 8 = 0 := by rw [hT 0 0 (by omega), t8]
  have e5 : T1 0 0 5 = 0 := by rw [hT 0 0 (by omega), t5]
  have e6 : T1 0 0 6 = 1000 := by rw [hT 0 0 (by omega), t6]
  have z : ∀ t j : Nat, 50 ≤ t → t ≤ 55 → T1 t 0 j = 0 := fun t j q1 q2 => h0 t j q1 (by omega) (by omega)
  have g : ∀ j : Nat, j ≠ 4 → T1 56 0 j = 0 := fun j q => h0 56 j (by omega) (by omega) (fun w => q w.2)
  refine ⟨⟨?_, ?_, ?_, ?_, ?_, ?_⟩, hN.congr hT, ⟨?_, ?_, ?_, ?_, ?_⟩⟩
  · obtain ⟨b0, b1, b2, b3, b4, b5, c0, c1, c2, c3, c4⟩ := hFI
    refine ⟨hKK _ b0, hKK _ b1, hKK _ b2, hKK _ b3, hKK _ b4, hKK _ b5, ?_, ?_, ?_, ?_, ?_⟩ <;> rw [hP 0 0 (by omega), hA _ _ (by omega)] <;> assumption
  · intro p hp5
    obtain ⟨b6, b7, b8, b9, c1, c2, c3, c4⟩ := hRK p hp5
    refine ⟨hKK _ b6, hKK _ b7, hKK _ b8, hKK _ b9, ?_, ?_, ?_, ?_⟩ <;> rw [hP _ _ (by omega), hA _ _ (by omega)] <;> assumption
  · refine ⟨by omega, by omega, fun i hi => ?_, fun i hi => ?_⟩
    · rw [hP 4 0 (by omega), p4, if_neg (by omega)]
    · omega
  · refine ⟨by omega, by omega, fun i hi => ?_, fun i hi => ?_⟩
    · rw [hP 5 0 (by omega), p5, if_neg (by omega)]
    · omega
  · refine ⟨fun i _ => ?_, fun k _ => ?_⟩
    · simp [K2, K0]
    · simp [K2, K0]
  · unfold LK
    decide
  · refine ⟨?_, by omega, ?_, by omega, ?_, by omega, ?_, ?_⟩
    · rw [g 1 (by omega), e7]
    · rw [g 2 (by omega), e8]
    · rw [g 3 (by omega), e5]
    · rw [h4, e6]
    · rw [g 0 (by omega)]
      exact Int.le_refl _
  · refine ⟨⟨?_, fun i hi => ?_, fun i hi hi2 => z 50 _ (by omega) (by omega), fun i j hij hj => ?_⟩, fun i hi => ?_, fun p hp5 => ⟨?_, fun d hd => ?_⟩⟩
    · rw [g 0 (by omega)]
      decide
    · rw [g 0 (by omega)] at hi
      exact absurd hi (by simp)
    · rw [g 0 (by omega)] at hj
      exact absurd hj (by simp)
    · rw [g 0 (by omega)] at hi
      exact absurd hi (by simp)
    · rw [hT 6 p (by omega), (hp p hp5).1, g 0 (by omega)]
      exact Int.le_refl _
    · rw [g 0 (by omega)]
      show (1000 : Int) = _
      rw [valT_lo hT]
      unfold valT
      rw [(hp p hp5).1]
      exact (hp p hp5).2.2.1.symm
  · refine ⟨fun i hi => ?_, fun i hi hi2 => z 51 _ (by omega) (by omega)⟩
    omega
  · refine ⟨fun k hk => ?_, fun k hk hk2 => ?_⟩
    · omega
    · unfold OZ
      rw [z 53 _ (by omega) (by omega), z 53 _ (by omega) (by omega), z 53 _ (by omega) (by omega), z 54 _ (by omega) (by omega), z 54 _ (by omega) (by omega), z 54 _ (by omega) (by omega), z 54 _ (by omega) (by omega)]
      exact ⟨rfl, rfl, rfl, rfl, rfl, rfl, rfl⟩
  · refine ⟨fun p q hp5 hq5 => ?_, fun p hp5 => ?_⟩
    · rw [z 55 _ (by omega) (by omega), hT 9 p (by omega), (hp p hp5).2.2.2.1]
    · rw [z 55 _ (by omega) (by omega), hT 3 0 (by omega), h3]
