/-! ===== the class's part of T (numbers below 12) and the law's (50 to 56) ===== -/
def HiE (M' M : TT) : Prop := ∀ t i j : Nat, 50 ≤ t → M' t i j = M t i j
def LoE (C' C : TT) : Prop := ∀ t i : Nat, t < 12 → C' t i = C t i
theorem HiE.r {M : TT} : HiE M M := fun _ _ _ _ => rfl
theorem LoE.r {M : TT} : LoE M M := fun _ _ _ => rfl
theorem HiE.tr {A B C : TT} (h : HiE A B) (h2 : HiE B C) : HiE A C := fun t i j a => (h t i j a).trans (h2 t i j a)
theorem LoE.tr {A B C : TT} (h : LoE A B) (h2 : LoE B C) : LoE A C := fun t i a => (h t i a).trans (h2 t i a)
theorem up_of {T : TT} {t i j : Nat} {v : Int} {a b c : Nat} (h : ¬ (a = t ∧ b = i ∧ c = j)) : up T t i j v a b c = T a b c := if_neg h
theorem up_at {T : TT} {t i j : Nat} {v : Int} {c : Nat} (h : c = j) : up T t i j v t i c = v := if_pos ⟨rfl, rfl, h⟩
theorem HiE.lo {X Y : TT} {t i j : Nat} {v : Int} (ht : t < 12) (h : HiE X Y) : HiE (up X t i j v) Y := fun a b c h1 => by
  rw [up_of (fun q => by have := q.1; omega)]
  exact h a b c h1
theorem HiE.lz {X Y : TT} {t i : Nat} (ht : t < 12) (h : HiE X Y) : HiE (zrT X t i) Y := fun a b c h1 => by
  rw [zrT_ne (fun q => by have := q.1; omega)]
  exact h a b c h1
theorem HiE.hup {X Y : TT} {t i j j' : Nat} {v v' : Int} (h : HiE X Y) (hv : v = v') (hj : j = j') : HiE (up X t i j v) (up Y t i j' v') := fun a b c h1 => by
  subst hv
  subst hj
  by_cases q : a = t ∧ b = i ∧ c = j
  · rw [show up X t i j v a b c = v from if_pos q]
    exact (if_pos q).symm
  · rw [up_of q, up_of q]
    exact h a b c h1
theorem LoE.hi {X Y : TT} {t i j : Nat} {v : Int} (ht : 12 ≤ t) (h : LoE X Y) : LoE (up X t i j v) Y := fun a b h1 => by
  rw [up_ne (fun q => by have := q.1; omega)]
  exact h a b h1
theorem mvT_lo {C C' : TT} (h : LoE C' C) (k : Nat) : mvT C' k = mvT C k := by
  unfold mvT
  rw [h 11 k (by omega)]
theorem valT_lo {C C' : TT} (h : LoE C' C) (p : Nat) (d : Int) : valT C' p d = valT C p d := valT_congr (h 6 p (by omega)) (h 7 p (by omega)) (h 8 p (by omega)) d
def XP (T : TT) : Prop := ∀ p : Nat, p < 5 → T 7 p 0 = 0 ∧ T 7 p (T 6 p 2).toNat ≤ T 0 0 5
def XO (T : TT) : Prop := ∀ k : Nat, (k : Int) < T 0 0 8 → T 11 k 3 < 3 → T 11 k 1 = T 10 (mvT T k) 0 ∧ T 10 (mvT T k) 2 = 1 ∧ T 11 k 6 = 0
def XD (T : TT) : Prop := ∀ k k' : Nat, (k : Int) < T 0 0 8 → (k' : Int) < T 0 0 8 → T 11 k 3 < 3 → T 11 k' 3 < 3 → mvT T k = mvT T k' → k = k'
def KF (ks : KK) (T : TT) : Prop := (∀ i : Nat, T 0 0 7 ≤ (i : Int) → (10, i) ∉ ks) ∧ ∀ k : Nat, T 0 0 8 ≤ (k : Int) → (11, k) ∉ ks
def CN (T : TT) : Prop := RN T ∧ DN T ∧ SN T ∧ ON T ∧ XP T ∧ XO T ∧ XD T
def LK (ks : KK) : Prop := (50, 0) ∈ ks ∧ (51, 0) ∈ ks ∧ (52, 0) ∈ ks ∧ (53, 0) ∈ ks ∧ (54, 0) ∈ ks ∧ (55, 0) ∈ ks ∧ (56, 0) ∈ ks
theorem LK.app {ks : KK} {x : Nat × Nat} (h : LK ks) : LK (ks ++ [x]) := ⟨List.mem_append_left _ h.1, List.mem_append_left _ h.2.1, List.mem_append_left _ h.2.2.1, List.mem_append_left _ h.2.2.2.1, List.mem_append_left _ h.2.2.2.2.1, List.mem_append_left _ h.2.2.2.2.2.1, List.mem_append_left _ h.2.2.2.2.2.2⟩
def CK (ks : KK) (ad : AD) (T : TT) (P : PP) : Prop := FI ks ad P ∧ RK ks ad P ∧ SK ks ad T P ∧ OK1 ks ad T P ∧ KF ks T ∧ LK ks
theorem CN.congr {C C' : TT} (hC : LoE C' C) (h : CN C) : CN C' := by
  obtain ⟨h1, h2, h3, h4, h5, h6, h7⟩ := h
  have h0 := hC 0 0 (by omega)
  refine ⟨RN_congr (fun p => hC 6 p (by omega)) (fun p => hC 7 p (by omega)) (fun p => hC 8 p (by omega)) h1, ?_, ?_, ?_, ?_, ?_, ?_⟩
  · unfold DN at h2 ⊢
    rw [h0]
    exact h2
  · intro i hi
    rw [h0] at hi
    rw [hC 10 i (by omega)]
    exact h3 i hi
  · intro k hk
    rw [h0] at hk
    rw [hC 11 k (by omega), h0]
    exact h4 k hk
  · intro p hp
    rw [hC 7 p (by omega), hC 6 p (by omega), h0]
    exact h5 p hp
  · intro k hk
    rw [h0] at hk
    rw [mvT_lo hC, hC 11 k (by omega), hC 10 _ (by omega)]
    exact h6 k hk
  · intro k k' hk hk'
    rw [h0] at hk hk'
    rw [mvT_lo hC, mvT_lo hC, hC 11 k (by omega), hC 11 k' (by omega)]
    exact h7 k k' hk hk'
theorem CK.congr {ks : KK} {ad : AD} {C C' : TT} {P : PP} (h7 : C' 0 0 7 = C 0 0 7) (h8 : C' 0 0 8 = C 0 0 8) (h11 : ∀ k : Nat, C' 11 k 0 = C 11 k 0) (h : CK ks ad C P) : CK ks ad C' P := by
  obtain ⟨a1, a2, a3, a4, a5, a6⟩ := h
  refine ⟨a1, a2, ?_, ?_, ?_, a6⟩
  · unfold SK at a3 ⊢
    rw [h7]
    exact a3
  · unfold OK1 at a4 ⊢
    simp only [h8, h7, h11]
    exact a4
  · unfold KF at a5 ⊢
    rw [h7, h8]
    exact a5
theorem idxT_top {T : TT} {p : Nat} {d : Int} {n : Nat} (h : T 7 p n ≤ d) : idxT T p d n = n := by
  cases n with
  | zero => rfl
  | succ n =>
    unfold idxT
    exact if_neg (by omega)
theorem valT_late {T : TT} {p : Nat} {d D : Int} (h : T 7 p (T 6 p 2).toNat ≤ D) (hd : D ≤ d) : valT T p d = valT T p D := by
  unfold valT
  rw [idxT_top h, idxT_top (by omega)]
theorem CN_day {T : TT} {D : Int} (h : CN T) (h1 : T 0 0 5 ≤ D) (h2 : D ≤ 2000) : CN (up T 0 0 5 D) := by
  obtain ⟨a1, ⟨d1, d2, d3, d4⟩, a3, a4, a5, a6, a7⟩ := h
  refine ⟨a1, ⟨?_, ?_, d3, d4⟩, a3, ?_, ?_, a6, a7⟩
  · show 0 ≤ D
    omega
  · exact h2
  · intro k hk
    have := a4 k hk
    show 0 ≤ T 11 k 1 ∧ T 11 k 1 < 5 ∧ 0 ≤ T 11 k 2 ∧ T 11 k 2 < 5 ∧ 0 ≤ T 11 k 3 ∧ T 11 k 3 ≤ 3 ∧ 0 ≤ T 11 k 4 ∧ T 11 k 4 ≤ D ∧ 0 ≤ T 11 k 5 ∧ (T 11 k 3 ≤ 2 → T 11 k 5 ≤ T 11 k 4) ∧ T 11 k 5 ≤ 2000 ∧ 0 ≤ T 11 k 6 ∧ T 11 k 6 ≤ 2000 ∧ 0 ≤ T 11 k 7 ∧ T 11 k 7 ≤ 100000000 ∧ 0 ≤ T 11 k 8 ∧ T 11 k 8 ≤ 1000000000 ∧ 0 ≤ T 11 k 9 ∧ T 11 k 9 ≤ 100000000
    refine ⟨this.1, this.2.1, this.2.2.1, this.2.2.2.1, this.2.2.2.2.1, this.2.2.2.2.2.1, this.2.2.2.2.2.2.1, ?_, this.2.2.2.2.2.2.2.2⟩
    have := this.2.2.2.2.2.2.2.1
    omega
  · intro p hp
    have := a5 p hp
    refine ⟨this.1, ?_⟩
    show T 7 p (T 6 p 2).toNat ≤ D
    omega
