/-! ===== class and model side by side ===== -/
def HiE (M' M : TT) : Prop := ∀ t i j : Nat, 12 ≤ t → t ≠ 43 → ¬ (t = 12 ∧ i = 0 ∧ j = 0) → M' t i j = M t i j
def LoE (C' C : TT) : Prop := ∀ t i : Nat, t < 12 → C' t i = C t i
theorem HiE.r {M : TT} : HiE M M := fun _ _ _ _ _ _ => rfl
theorem LoE.r {M : TT} : LoE M M := fun _ _ _ => rfl
theorem HiE.tr {A B C : TT} (h : HiE A B) (h2 : HiE B C) : HiE A C := fun t i j a b c => (h t i j a b c).trans (h2 t i j a b c)
theorem LoE.tr {A B C : TT} (h : LoE A B) (h2 : LoE B C) : LoE A C := fun t i a => (h t i a).trans (h2 t i a)
theorem HiE.lo {X Y : TT} {t i j : Nat} {v : Int} (ht : t < 12) (h : HiE X Y) : HiE (up X t i j v) Y := fun a b c h1 h2 h3 => by
  rw [up_of (fun q => by have := q.1; omega)]
  exact h a b c h1 h2 h3
theorem HiE.lz {X Y : TT} {t i : Nat} (ht : t < 12) (h : HiE X Y) : HiE (zrT X t i) Y := fun a b c h1 h2 h3 => by
  rw [zrT_ne (fun q => by have := q.1; omega)]
  exact h a b c h1 h2 h3
theorem HiE.th {X Y : TT} {v : Int} (h : HiE X Y) : HiE (up X 12 0 0 v) Y := fun a b c h1 h2 h3 => by
  rw [up_of h3]
  exact h a b c h1 h2 h3
theorem HiE.ou {X Y : TT} {i j : Nat} {v : Int} (h : HiE X Y) : HiE (up X 43 i j v) Y := fun a b c h1 h2 h3 => by
  rw [up_of (fun q => h2 q.1)]
  exact h a b c h1 h2 h3
theorem HiE.hup {X Y : TT} {t i j j' : Nat} {v v' : Int} (h : HiE X Y) (hv : v = v') (hj : j = j') : HiE (up X t i j v) (up Y t i j' v') := fun a b c h1 h2 h3 => by
  subst hv
  subst hj
  by_cases q : a = t ∧ b = i ∧ c = j
  · rw [show up X t i j v a b c = v from if_pos q]
    exact (if_pos q).symm
  · rw [up_of q, up_of q]
    exact h a b c h1 h2 h3
theorem LoE.hi {X Y : TT} {t i j : Nat} {v : Int} (ht : 12 ≤ t) (h : LoE X Y) : LoE (up X t i j v) Y := fun a b h1 => by
  rw [up_ne (fun q => by have := q.1; omega)]
  exact h a b h1
def Rel (C M : TT) : Prop :=
  (M 12 0 1 = C 0 0 5 ∧ M 12 0 5 = C 0 0 6 ∧ M 12 0 6 = C 0 0 7 ∧ M 12 0 10 = C 0 0 8) ∧
  (∀ p : Nat, p < 5 → M 23 0 p = C 6 p 2 + 1 ∧ M 24 0 p = C 7 p (C 6 p 2).toNat ∧ ∀ d : Int, 0 ≤ d → d ≤ C 0 0 5 → mpr M p d = valT C p d) ∧
  (∀ i : Nat, (i : Int) < C 0 0 7 → M 27 0 i = C 10 i 0 ∧ M 28 0 i = C 10 i 1 ∧ M 29 0 i = C 10 i 2) ∧
  (∀ i : Nat, C 0 0 7 ≤ (i : Int) → M 29 0 i = 0) ∧
  (∀ k : Nat, (k : Int) < C 0 0 8 → M 31 0 k = C 11 k 0 ∧ M 32 0 k = C 11 k 2 ∧ M 33 0 k = C 11 k 3 ∧ M 34 0 k = C 11 k 4 ∧ M 36 0 k = C 11 k 5 ∧ M 37 0 k = C 11 k 5 + C 11 k 6 ∧ M 38 0 k = C 11 k 7 ∧ M 39 0 k = C 11 k 8 ∧ M 40 0 k = C 11 k 9 ∧ (C 11 k 3 = 2 → M 35 0 k = C 11 k 4)) ∧
  (∀ k : Nat, C 0 0 8 ≤ (k : Int) → M 33 0 k = 0 ∧ M 36 0 k = 0 ∧ M 37 0 k = 0 ∧ M 38 0 k = 0 ∧ M 39 0 k = 0 ∧ M 40 0 k = 0) ∧
  (∀ p q : Nat, p < 5 → q < 5 → M 41 0 (5 * p + q) = C 9 p q) ∧ ∀ p : Nat, p < 5 → M 42 0 p = C 3 0 p
theorem mvT_lo {C C' : TT} (h : LoE C' C) (k : Nat) : mvT C' k = mvT C k := by
  unfold mvT
  rw [h 11 k (by omega)]
theorem valT_lo {C C' : TT} (h : LoE C' C) (p : Nat) (d : Int) : valT C' p d = valT C p d := valT_congr (h 6 p (by omega)) (h 7 p (by omega)) (h 8 p (by omega)) d
theorem mpr_hi {M M' : TT} (h : HiE M' M) (p d : Int) : mpr M' p d = mpr M p d := h 22 0 _ (by omega) (by omega) (by omega)
theorem Rel.congr {C C' M M' : TT} (hC : LoE C' C) (hM : HiE M' M) (h : Rel C M) : Rel C' M' := by
  obtain ⟨⟨a1, a2, a3, a4⟩, b, c, d, e, f, g, i⟩ := h
  have h0 := hC 0 0 (by omega)
  refine ⟨?_, fun p hp => ?_, fun j hj => ?_, fun j hj => ?_, fun k hk => ?_, fun k hk => ?_, fun p q hp hq => ?_, fun p hp => ?_⟩
  · rw [hM 12 0 1 (by omega) (by omega) (by omega), hM 12 0 5 (by omega) (by omega) (by omega), hM 12 0 6 (by omega) (by omega) (by omega), hM 12 0 10 (by omega) (by omega) (by omega), h0]
    exact ⟨a1, a2, a3, a4⟩
  · rw [hM 23 0 p (by omega) (by omega) (by omega), hM 24 0 p (by omega) (by omega) (by omega), hC 6 p (by omega), hC 7 p (by omega), h0]
    refine ⟨(b p hp).1, (b p hp).2.1, fun x h1 h2 => ?_⟩
    rw [mpr_hi hM, valT_lo hC]
    exact (b p hp).2.2 x h1 h2
  · rw [h0] at hj
    rw [hM 27 0 j (by omega) (by omega) (by omega), hM 28 0 j (by omega) (by omega) (by omega), hM 29 0 j (by omega) (by omega) (by omega), hC 10 j (by omega)]
    exact c j hj
  · rw [h0] at hj
    rw [hM 29 0 j (by omega) (by omega) (by omega)]
    exact d j hj
  · rw [h0] at hk
    have z : ∀ t, 31 ≤ t → t ≤ 40 → M' t 0 k = M t 0 k := fun t h1 h2 => hM t 0 k (by omega) (by omega) (by omega)
    rw [z 31 (by omega) (by omega), z 32 (by omega) (by omega), z 33 (by omega) (by omega), z 34 (by omega) (by omega), z 35 (by omega) (by omega), z 36 (by omega) (by omega), z 37 (by omega) (by omega), z 38 (by omega) (by omega), z 39 (by omega) (by omega), z 40 (by omega) (by omega), hC 11 k (by omega)]
    exact e k hk
  · rw [h0] at hk
    have z : ∀ t, 31 ≤ t → t ≤ 40 → M' t 0 k = M t 0 k := fun t h1 h2 => hM t 0 k (by omega) (by omega) (by omega)
    rw [z 33 (by omega) (by omega), z 36 (by omega) (by omega), z 37 (by omega) (by omega), z 38 (by omega) (by omega), z 39 (by omega) (by omega), z 40 (by omega) (by omega)]
    exact f k hk
  · rw [hM 41 0 (5 * p + q) (by omega) (by omega) (by omega), hC 9 p (by omega)]
    exact g p q hp hq
  · rw [hM 42 0 p (by omega) (by omega) (by omega), hC 3 0 (by omega)]
    exact i p hp
theorem MN_congr {M M' : TT} (hM : HiE M' M) (h : MN M) : MN M' := by
  obtain ⟨a1, a2, a3, a4, a5, a6, a7, a8⟩ := h
  have e1 := hM 12 0 1 (by omega) (by omega) (by omega)
  have e6 := hM 12 0 6 (by omega) (by omega) (by omega)
  have ex := hM 12 0 10 (by omega) (by omega) (by omega)
  refine ⟨?_, ?_, ?_, ?_, ?_, ?_, ?_, ?_⟩
  · rw [e1]; exact a1
  · rw [hM 12 0 5 (by omega) (by omega) (by omega)]; exact a2
  · rw [e6]; exact a3
  · rw [ex]; exact a4
  · intro p d
    rw [mpr_hi hM, e1]
    exact a5 p d
  · intro p hp
    rw [hM 23 0 p (by omega) (by omega) (by omega), hM 24 0 p (by omega) (by omega) (by omega)]
    exact a6 p hp
  · intro i hi
    rw [e6] at hi
    have := a7 i hi
    unfold MSv at this ⊢
    rw [hM 27 0 i (by omega) (by omega) (by omega), hM 28 0 i (by omega) (by omega) (by omega), hM 29 0 i (by omega) (by omega) (by omega)]
    exact this
  · intro k hk
    rw [ex] at hk
    have := a8 k hk
    have z : ∀ t, 31 ≤ t → t ≤ 40 → M' t 0 k = M t 0 k := fun t h1 h2 => hM t 0 k (by omega) (by omega) (by omega)
    unfold MOr at this ⊢
    rw [e6, e1, z 31 (by omega) (by omega), z 32 (by omega) (by omega), z 33 (by omega) (by omega), z 34 (by omega) (by omega), z 35 (by omega) (by omega), z 36 (by omega) (by omega), z 37 (by omega) (by omega), z 38 (by omega) (by omega), z 39 (by omega) (by omega)]
    exact this
/-! ===== what holds of the class besides ===== -/
def XP (T : TT) : Prop := ∀ p : Nat, p < 5 → T 7 p 0 = 0 ∧ T 7 p (T 6 p 2).toNat ≤ T 0 0 5
def XO (T : TT) : Prop := ∀ k : Nat, (k : Int) < T 0 0 8 → T 11 k 3 < 3 → T 11 k 1 = T 10 (mvT T k) 0 ∧ T 10 (mvT T k) 2 = 1 ∧ T 11 k 6 = 0
def XD (T : TT) : Prop := ∀ k k' : Nat, (k : Int) < T 0 0 8 → (k' : Int) < T 0 0 8 → T 11 k 3 < 3 → T 11 k' 3 < 3 → mvT T k = mvT T k' → k = k'
def KF (ks : KK) (T : TT) : Prop := (∀ i : Nat, T 0 0 7 ≤ (i : Int) → (10, i) ∉ ks) ∧ ∀ k : Nat, T 0 0 8 ≤ (k : Int) → (11, k) ∉ ks
def CN (T : TT) : Prop := RN T ∧ DN T ∧ SN T ∧ ON T ∧ XP T ∧ XO T ∧ XD T
def CK (ks : KK) (ad : AD) (T : TT) (P : PP) : Prop := FI ks ad P ∧ RK ks ad P ∧ SK ks ad T P ∧ OK1 ks ad T P ∧ KF ks T ∧ MI ks ad P ∧ (43, 0) ∈ ks
theorem CN.congr {C C' : TT} (hC : LoE C' C) (h : CN C) : CN C' := by
  obtain ⟨h1, h2, h3, h4, h5, h6, h7⟩ := h
  have h0 := hC 0 0 (by omega)
  refine ⟨RN_congr (fun p => hC 6 p (by omega)) (fun p => hC 7 p (by omega)) (fun p => hC 8 p (by omega)) h1, ?_, ?_, ?_, ?_, ?_, ?_⟩
  · unfold DN at h2 ⊢
    rw [h0]
    exact h2
  · intro i hi
    rw [h0] at hi
    rw [hC 10 i (by omega)]
    exact h3 i hi
  · intro k hk
    rw [h0] at hk
    rw [hC 11 k (by omega), h0]
    exact h4 k hk
  · intro p hp
    rw [hC 7 p (by omega), hC 6 p (by omega), h0]
    exact h5 p hp
  · intro k hk
    rw [h0] at hk
    rw [mvT_lo hC, hC 11 k (by omega), hC 10 _ (by omega)]
    exact h6 k hk
  · intro k k' hk hk'
    rw [h0] at hk hk'
    rw [mvT_lo hC, mvT_lo hC, hC 11 k (by omega), hC 11 k' (by omega)]
    exact h7 k k' hk hk'
theorem CK.congr {ks : KK} {ad : AD} {C C' : TT} {P : PP} (h7 : C' 0 0 7 = C 0 0 7) (h8 : C' 0 0 8 = C 0 0 8) (h11 : ∀ k : Nat, C' 11 k 0 = C 11 k 0) (h : CK ks ad C P) : CK ks ad C' P := by
  obtain ⟨a1, a2, a3, a4, a5, a6, a7⟩ := h
  refine ⟨a1, a2, ?_, ?_, ?_, a6, a7⟩
  · unfold SK at a3 ⊢
    rw [h7]
    exact a3
  · unfold OK1 at a4 ⊢
    simp only [h8, h7, h11]
    exact a4
  · unfold KF at a5 ⊢
    rw [h7, h8]
    exact a5
theorem MN_of {T : TT} (hN : CN T) (h7 : 0 ≤ T 0 0 7 ∧ T 0 0 7 ≤ 10) (h8 : 0 ≤ T 0 0 8 ∧ T 0 0 8 ≤ 30) (hmv : ∀ k : Nat, (k : Int) < T 0 0 8 → 0 ≤ T 11 k 0 ∧ T 11 k 0 < T 0 0 7) (hR : Rel T T) : MN T := by
  obtain ⟨h1, ⟨d1, d2, d3, d4⟩, h3, h4, h5, h6, -⟩ := hN
  obtain ⟨⟨a1, a2, a3, a4⟩, b, c, -, e, -, -, -⟩ := hR
  refine ⟨⟨by omega, by omega⟩, ⟨by omega, by omega⟩, ⟨by omega, by omega⟩, ⟨by omega, by omega⟩, ?_, ?_, ?_, ?_⟩
  · intro p d q1 q2 q3 q4
    have := (b p.toNat (by omega)).2.2 d q3 (by omega)
    rw [show ((p.toNat : Nat) : Int) = p by omega] at this
    rw [this]
    exact valT_in h1 (by omega) d
  · intro p hp
    obtain ⟨r1, r2, r3, r4⟩ := h1 p hp
    have := b p hp
    rw [this.1, this.2.1]
    exact ⟨by omega, by omega, r3.1 _⟩
  · intro i hi
    rw [a3] at hi
    have := h3 i hi
    obtain ⟨c1, c2, c3⟩ := c i hi
    unfold MSv
    rw [c1, c2, c3]
    exact this
  · intro k hk
    rw [a4] at hk
    have o := h4 k hk
    have x := h6 k hk
    have y := hmv k hk
    obtain ⟨e1, e2, e3, e4, e5, e6, e7, e8, e9, ex⟩ := e k hk
    unfold MOr
    rw [e1, e2, e3, e4, e5, e6, e7, e8, a3, a1]
    refine ⟨by omega, by omega, by omega, by omega, by omega, by omega, by omega, by omega, by omega, by omega, by omega, by omega, fun q => ?_, fun q => ⟨ex q, ?_⟩, by omega, by omega, by omega, by omega⟩
    · have := x (by omega)
      omega
    · have := x (by omega)
      omega
