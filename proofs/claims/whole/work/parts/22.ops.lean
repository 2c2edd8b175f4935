def IV (ks : KK) (ad : AD) (T : TT) (P : PP) : Prop := CK ks ad T P ∧ CN T ∧ Rel T T
theorem IV.MN {ks : KK} {ad : AD} {T : TT} {P : PP} (h : IV ks ad T P) : MN T := by
  obtain ⟨⟨-, -, a3, a4, -⟩, hN, hR⟩ := h
  exact MN_of hN ⟨a3.1, a3.2.1⟩ ⟨a4.1, a4.2.1⟩ (fun k hk => (a4.2.2.2 k hk).2.2) hR
theorem iv_MN1 {ks : KK} {ad : AD} {T T1 : TT} {P : PP} (h : IV ks ad T P) (hi : HiE T1 T) : MN T1 := MN_congr hi h.MN
theorem IV.congr {ks : KK} {ad : AD} {T T' : TT} {P : PP} (hL : LoE T' T) (hH : HiE T' T) (h : IV ks ad T P) : IV ks ad T' P := by
  obtain ⟨a, b, c⟩ := h
  refine ⟨a.congr ?_ ?_ (fun k => ?_), b.congr hL, c.congr hL hH⟩
  · rw [hL 0 0 (by omega)]
  · rw [hL 0 0 (by omega)]
  · rw [hL 11 k (by omega)]
/-! pass -/
theorem idxT_top {T : TT} {p : Nat} {d : Int} {n : Nat} (h : T 7 p n ≤ d) : idxT T p d n = n := by
  cases n with
  | zero => rfl
  | succ n =>
    unfold idxT
    exact if_neg (by omega)
theorem valT_late {T : TT} {p : Nat} {d D : Int} (h : T 7 p (T 6 p 2).toNat ≤ D) (hd : D ≤ d) : valT T p d = valT T p D := by
  unfold valT
  rw [idxT_top h, idxT_top (by omega)]
theorem CN_day {T : TT} {D : Int} (h : CN T) (h1 : T 0 0 5 ≤ D) (h2 : D ≤ 2000) : CN (up T 0 0 5 D) := by
  obtain ⟨a1, ⟨d1, d2, d3, d4⟩, a3, a4, a5, a6, a7⟩ := h
  refine ⟨a1, ⟨?_, ?_, d3, d4⟩, a3, ?_, ?_, a6, a7⟩
  · show 0 ≤ D
    omega
  · exact h2
  · intro k hk
    have := a4 k hk
    show 0 ≤ T 11 k 1 ∧ T 11 k 1 < 5 ∧ 0 ≤ T 11 k 2 ∧ T 11 k 2 < 5 ∧ 0 ≤ T 11 k 3 ∧ T 11 k 3 ≤ 3 ∧ 0 ≤ T 11 k 4 ∧ T 11 k 4 ≤ D ∧ 0 ≤ T 11 k 5 ∧ (T 11 k 3 ≤ 2 → T 11 k 5 ≤ T 11 k 4) ∧ T 11 k 5 ≤ 2000 ∧ 0 ≤ T 11 k 6 ∧ T 11 k 6 ≤ 2000 ∧ 0 ≤ T 11 k 7 ∧ T 11 k 7 ≤ 100000000 ∧ 0 ≤ T 11 k 8 ∧ T 11 k 8 ≤ 1000000000 ∧ 0 ≤ T 11 k 9 ∧ T 11 k 9 ≤ 100000000
    refine ⟨this.1, this.2.1, this.2.2.1, this.2.2.2.1, this.2.2.2.2.1, this.2.2.2.2.2.1, this.2.2.2.2.2.2.1, ?_, this.2.2.2.2.2.2.2.2⟩
    have := this.2.2.2.2.2.2.2.1
    omega
  · intro p hp
    have := a5 p hp
    refine ⟨this.1, ?_⟩
    show T 7 p (T 6 p 2).toNat ≤ D
    omega
def Wpas (T : TT) (z k : Int) (T1 : TT) : Prop := (k = 1 ∧ (z < 1 ∨ 100 < z) ∧ T1 = T) ∨ (k = 2 ∧ (1 ≤ z ∧ z ≤ 100 ∧ 2000 < T 0 0 5 + z) ∧ T1 = T) ∨ (k = 0 ∧ (1 ≤ z ∧ z ≤ 100 ∧ T 0 0 5 + z ≤ 2000) ∧ T1 = up (up T 0 0 5 (T 0 0 5 + z)) 43 0 0 (T 0 0 5 + z))
theorem Wpas.hi {T T1 : TT} {z k : Int} (h : Wpas T z k T1) : HiE T1 T := by
  rcases h with ⟨-, -, rfl⟩ | ⟨-, -, rfl⟩ | ⟨-, -, rfl⟩
  · exact HiE.r
  · exact HiE.r
  · exact (HiE.r.lo (by decide)).ou
theorem op_pas {ks : KK} {ad : AD} {T : TT} {P : PP} (h : IV ks ad T P) {z k r : Int} {T1 T2 : TT} (hw : Wpas T z k T1)
    (hm : ((z < 1 ∨ 100 < z) ∧ T2 = up T1 12 0 0 1) ∨ ((1 ≤ z ∧ z ≤ 100 ∧ 2000 < T1 12 0 1 + z) ∧ T2 = up T1 12 0 0 2) ∨ ((1 ≤ z ∧ z ≤ 100 ∧ T1 12 0 1 + z ≤ 2000 ∧ r = T1 12 0 1 + z) ∧ mpas T1 z T2)) : T2 12 0 0 = k ∧ (k = 0 → r = T2 43 0 0) ∧ IV ks ad T2 P := by
  have hi := hw.hi
  have e1 : T1 12 0 1 = T 0 0 5 := (hi 12 0 1 (by omega) (by omega) (by omega)).trans h.2.2.1.1
  rw [e1] at hm
  rcases hw with ⟨rfl, c, rfl⟩ | ⟨rfl, c, rfl⟩ | ⟨rfl, c, hT1⟩
  · rcases hm with ⟨m, rfl⟩ | ⟨m, rfl⟩ | ⟨m, m2⟩
    · exact ⟨rfl, fun q => by omega, h.congr (LoE.r.hi (by decide)) HiE.r.th⟩
    · omega
    · omega
  · rcases hm with ⟨m, rfl⟩ | ⟨m, rfl⟩ | ⟨m, m2⟩
    · omega
    · exact ⟨rfl, fun q => by omega, h.congr (LoE.r.hi (by decide)) HiE.r.th⟩
    · omega
  · rcases hm with ⟨m, rfl⟩ | ⟨m, rfl⟩ | ⟨m, m0, m1, m2, m3⟩
    · omega
    · omega
    · have hlo : LoE T2 (up T 0 0 5 (T 0 0 5 + z)) := fun t i ht => by
        funext j
        rw [m2 t i j (by omega) (by omega), hT1, up_of (by omega)]
      have hhi : ∀ t i j : Nat, 12 < t → t ≠ 22 → t ≠ 43 → T2 t i j = T t i j := fun t i j h1 h2 h3 => by
        rw [m2 t i j (by omega) (by omega)]
        exact hi t i j (by omega) h3 (by omega)
      obtain ⟨hK, hN, hR⟩ := h
      refine ⟨m0, fun _ => ?_, ?_, ?_, ?_⟩
      · rw [m2 43 0 0 (by omega) (by omega), hT1, up_at rfl]
        omega
      · refine hK.congr ?_ ?_ (fun k => ?_)
        · rw [hlo 0 0 (by omega)]
          rfl
        · rw [hlo 0 0 (by omega)]
          rfl
        · rw [hlo 11 k (by omega)]
          rfl
      · exact (CN_day hN (by omega) (by omega)).congr hlo
      · refine Rel.congr hlo HiE.r ?_
        obtain ⟨⟨b1, b2, b3, b4⟩, c5, c6, c6b, c7, c8, c9, c10⟩ := hR
        refine ⟨⟨?_, ?_, ?_, ?_⟩, fun p hp => ?_, fun j hj => ?_, fun j hj => ?_, fun k hk => ?_, fun k hk => ?_, fun p q hp hq => ?_, fun p hp => ?_⟩
        · rw [m1, e1]
          rfl
        · rw [m2 12 0 5 (by omega) (by omega), hi 12 0 5 (by omega) (by omega) (by omega)]
          exact b2
        · rw [m2 12 0 6 (by omega) (by omega), hi 12 0 6 (by omega) (by omega) (by omega)]
          exact b3
        · rw [m2 12 0 10 (by omega) (by omega), hi 12 0 10 (by omega) (by omega) (by omega)]
          exact b4
        · rw [hhi 23 0 p (by omega) (by omega) (by omega), hhi 24 0 p (by omega) (by omega) (by omega)]
          refine ⟨(c5 p hp).1, (c5 p hp).2.1, fun d h1 h2 => ?_⟩
          have h2 : d ≤ T 0 0 5 + z := h2
          rw [valT_up (by decide)]
          rw [m3 p d (by omega) (by omega) h1 (by omega), mpr_hi hi, e1]
          by_cases hd : d ≤ T 0 0 5
          · rw [if_pos hd]
            exact (c5 p hp).2.2 d h1 hd
          · rw [if_neg hd, (c5 p hp).2.2 _ hN.2.1.1 (by omega)]
            exact (valT_late ((hN.2.2.2.2.1 p hp).2) (by omega)).symm
        · rw [hhi 27 0 j (by omega) (by omega) (by omega), hhi 28 0 j (by omega) (by omega) (by omega), hhi 29 0 j (by omega) (by omega) (by omega)]
          exact c6 j hj
        · rw [hhi 29 0 j (by omega) (by omega) (by omega)]
          exact c6b j hj
        · have z : ∀ t, 31 ≤ t → t ≤ 40 → T2 t 0 k = T t 0 k := fun t h1 h2 => hhi t 0 k (by omega) (by omega) (by omega)
          rw [z 31 (by omega) (by omega), z 32 (by omega) (by omega), z 33 (by omega) (by omega), z 34 (by omega) (by omega), z 35 (by omega) (by omega), z 36 (by omega) (by omega), z 37 (by omega) (by omega), z 38 (by omega) (by omega), z 39 (by omega) (by omega), z 40 (by omega) (by omega)]
          exact c7 k hk
        · have z : ∀ t, 31 ≤ t → t ≤ 40 → T2 t 0 k = T t 0 k := fun t h1 h2 => hhi t 0 k (by omega) (by omega) (by omega)
          rw [z 33 (by omega) (by omega), z 36 (by omega) (by omega), z 37 (by omega) (by omega), z 38 (by omega) (by omega), z 39 (by omega) (by omega), z 40 (by omega) (by omega)]
          exact c8 k hk
        · rw [hhi 41 0 (5 * p + q) (by omega) (by omega) (by omega)]
          exact c9 p q hp hq
        · rw [hhi 42 0 p (by omega) (by omega) (by omega)]
          exact c10 p hp
/-! setDefault -/
def Wdef (T : TT) (z k : Int) (T1 : TT) : Prop := (k = 1 ∧ (z < 100 ∨ 10000 < z) ∧ T1 = T) ∨ (k = 0 ∧ (100 ≤ z ∧ z ≤ 10000) ∧ T1 = up (up T 0 0 6 z) 43 0 0 (T 0 0 6))
theorem Wdef.hi {T T1 : TT} {z k : Int} (h : Wdef T z k T1) : HiE T1 T := by
  rcases h with ⟨-, -, rfl⟩ | ⟨-, -, rfl⟩
  · exact HiE.r
  · exact (HiE.r.lo (by decide)).ou
theorem op_def {ks : KK} {ad : AD} {T : TT} {P : PP} (h : IV ks ad T P) {z k r : Int} {T1 T2 : TT} (hw : Wdef T z k T1)
    (hm : ((z < 100 ∨ 10000 < z) ∧ T2 = up T1 12 0 0 1) ∨ ((100 ≤ z ∧ z ≤ 10000 ∧ r = T1 12 0 5) ∧ T2 = up (up T1 12 0 0 0) 12 0 5 z)) : T2 12 0 0 = k ∧ (k = 0 → r = T2 43 0 0) ∧ IV ks ad T2 P := by
  have hi := hw.hi
  have e1 : T1 12 0 5 = T 0 0 6 := (hi 12 0 5 (by omega) (by omega) (by omega)).trans h.2.2.1.2.1
  rw [e1] at hm
  rcases hw with ⟨rfl, c, rfl⟩ | ⟨rfl, c, hT1⟩
  · rcases hm with ⟨m, rfl⟩ | ⟨m, m2⟩
    · exact ⟨rfl, fun q => by omega, h.congr (LoE.r.hi (by decide)) HiE.r.th⟩
    · omega
  · rcases hm with ⟨m, rfl⟩ | ⟨m, rfl⟩
    · omega
    · subst hT1
      obtain ⟨hK, hN, hR⟩ := h
      have hlo : LoE (up (up (up (up T 0 0 6 z) 43 0 0 (T 0 0 6)) 12 0 0 0) 12 0 5 z) (up T 0 0 6 z) := ((LoE.r.hi (by decide)).hi (by decide)).hi (by decide)
      refine ⟨rfl, fun _ => m.2.2, ?_, ?_, ?_⟩
      · exact hK.congr rfl rfl (fun k => rfl)
      · refine CN.congr hlo ?_
        obtain ⟨a1, ⟨d1, d2, d3, d4⟩, a3, a4, a5, a6, a7⟩ := hN
        exact ⟨a1, ⟨d1, d2, m.1, m.2.1⟩, a3, a4, a5, a6, a7⟩
      · refine Rel.congr hlo (M := up T 12 0 5 z) ?_ ?_
        · exact ((HiE.r.lo (by decide)).ou.th).hup rfl rfl
        · obtain ⟨⟨b1, b2, b3, b4⟩, c5, c6, c6b, c7, c8, c9, c10⟩ := hR
          exact ⟨⟨b1, rfl, b3, b4⟩, fun p hp => ⟨(c5 p hp).1, (c5 p hp).2.1, fun d h1 h2 => by rw [valT_up (by decide)]; exact (c5 p hp).2.2 d h1 h2⟩, c6, c6b, c7, c8, c9, c10⟩
