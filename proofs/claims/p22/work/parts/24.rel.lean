/-! ===== the law's arrays beside the class ===== -/
/-- the law's list of changes: what it says of provider p on day d, of the first n changes -/
def lsF (f : Nat → Int) (p d : Int) : Nat → Int
  | 0 => 1000
  | n + 1 => if f (3 * n) = p ∧ f (3 * n + 1) ≤ d then f (3 * n + 2) else lsF f p d n
theorem lsF_0 {f : Nat → Int} {p d : Int} : lsF f p d 0 = 1000 := by rw [lsF]
def PCs (f : Nat → Int) (n : Nat) : Prop := n ≤ 20 ∧ (∀ i : Nat, i < n → 0 ≤ f (3 * i) ∧ f (3 * i) < 5 ∧ 0 ≤ f (3 * i + 1) ∧ f (3 * i + 1) ≤ 2000 ∧ 100 ≤ f (3 * i + 2) ∧ f (3 * i + 2) ≤ 10000) ∧ (∀ i : Nat, n ≤ i → i < 20 → f (3 * i + 2) = 0) ∧ ∀ i j : Nat, i ≤ j → j < n → f (3 * i + 1) ≤ f (3 * j + 1)
def OR (C M : TT) (k : Nat) : Prop := M 53 0 (9 * k) = C 11 k 0 ∧ M 53 0 (9 * k + 1) = C 11 k 1 ∧ M 53 0 (9 * k + 2) = C 11 k 2 ∧ M 53 0 (9 * k + 3) = C 11 k 3 ∧ (C 11 k 3 ≤ 2 → M 53 0 (9 * k + 4 + (C 11 k 3).toNat) = C 11 k 4) ∧ M 53 0 (9 * k + 7) + M 53 0 (9 * k + 8) = C 11 k 5 ∧ (C 11 k 3 = 0 → M 53 0 (9 * k + 7) = 0) ∧ (C 11 k 3 ≤ 1 → M 53 0 (9 * k + 8) = 0) ∧ 0 ≤ M 53 0 (9 * k + 7) ∧ 0 ≤ M 53 0 (9 * k + 8) ∧ M 54 0 (4 * k) = C 11 k 7 ∧ M 54 0 (4 * k + 1) = C 11 k 8 ∧ M 54 0 (4 * k + 2) = C 11 k 9 ∧ M 54 0 (4 * k + 3) = C 11 k 6 ∧ (C 11 k 3 < 3 → C 11 k 9 = 0)
def OZ (M : TT) (k : Nat) : Prop := M 53 0 (9 * k + 3) = 0 ∧ M 53 0 (9 * k + 7) = 0 ∧ M 53 0 (9 * k + 8) = 0 ∧ M 54 0 (4 * k) = 0 ∧ M 54 0 (4 * k + 1) = 0 ∧ M 54 0 (4 * k + 2) = 0 ∧ M 54 0 (4 * k + 3) = 0
def RG (C M : TT) : Prop := M 56 0 1 = C 0 0 7 ∧ C 0 0 7 ≤ 5 ∧ M 56 0 2 = C 0 0 8 ∧ C 0 0 8 ≤ 7 ∧ M 56 0 3 = C 0 0 5 ∧ C 0 0 5 ≤ 1900 ∧ M 56 0 4 = C 0 0 6 ∧ 0 ≤ M 56 0 0
def RP (C M : TT) : Prop := PCs (M 50 0) (M 56 0 0).toNat ∧ (∀ i : Nat, i < (M 56 0 0).toNat → M 50 0 (3 * i + 1) ≤ C 6 (M 50 0 (3 * i)).toNat 3) ∧ ∀ p : Nat, p < 5 → C 6 p 2 ≤ M 56 0 0 ∧ ∀ d : Int, 0 ≤ d → lsF (M 50 0) (p : Int) d (M 56 0 0).toNat = valT C p d
def RS (C M : TT) : Prop := (∀ i : Nat, (i : Int) < C 0 0 7 → M 51 0 (2 * i) = C 10 i 0 ∧ M 51 0 (2 * i + 1) = C 10 i 2 ∧ M 52 0 i = C 10 i 1) ∧ ∀ i : Nat, i < 5 → C 0 0 7 ≤ (i : Int) → M 51 0 (2 * i + 1) = 0
def RO (C M : TT) : Prop := (∀ k : Nat, (k : Int) < C 0 0 8 → OR C M k) ∧ ∀ k : Nat, k < 7 → C 0 0 8 ≤ (k : Int) → OZ M k
def RD (C M : TT) : Prop := (∀ p q : Nat, p < 5 → q < 5 → M 55 0 (5 * p + q) = C 9 p q) ∧ ∀ p : Nat, p < 5 → M 55 0 (25 + p) = C 3 0 p
def R2 (C M : TT) : Prop := RG C M ∧ RP C M ∧ RS C M ∧ RO C M ∧ RD C M
theorem RG.congr {C C' M M' : TT} (h0 : C' 0 0 = C 0 0) (h56 : M' 56 0 = M 56 0) (h : RG C M) : RG C' M' := by
  unfold RG at h ⊢
  rw [h0, h56]
  exact h
theorem lsF_congr {f g : Nat → Int} {p d : Int} : ∀ n : Nat, (∀ j : Nat, j < 3 * n → f j = g j) → lsF f p d n = lsF g p d n
  | 0, _ => rfl
  | n + 1, h => by
    unfold lsF
    rw [h (3 * n) (by omega), h (3 * n + 1) (by omega), h (3 * n + 2) (by omega), lsF_congr n (fun j hj => h j (by omega))]
theorem RP.congr {C C' M M' : TT} (h6 : ∀ p, C' 6 p = C 6 p) (h7 : ∀ p, C' 7 p = C 7 p) (h8 : ∀ p, C' 8 p = C 8 p) (h50 : M' 50 0 = M 50 0) (h56 : M' 56 0 0 = M 56 0 0) (h : RP C M) : RP C' M' := by
  obtain ⟨a, b, c⟩ := h
  refine ⟨by rw [h50, h56]; exact a, fun i hi => ?_, fun p hp => ?_⟩
  · rw [h56] at hi
    rw [h50, h6]
    exact b i hi
  · rw [h6, h56, h50]
    refine ⟨(c p hp).1, fun d hd => ?_⟩
    rw [valT_congr (h6 p) (h7 p) (h8 p)]
    exact (c p hp).2 d hd
theorem RS.congr {C C' M M' : TT} (h07 : C' 0 0 7 = C 0 0 7) (h10 : ∀ i, C' 10 i = C 10 i) (h51 : M' 51 0 = M 51 0) (h52 : M' 52 0 = M 52 0) (h : RS C M) : RS C' M' := by
  obtain ⟨a, b⟩ := h
  refine ⟨fun i hi => ?_, fun i hi hi2 => ?_⟩
  · rw [h07] at hi
    rw [h51, h52, h10]
    exact a i hi
  · rw [h07] at hi2
    rw [h51]
    exact b i hi hi2
theorem OR.congr {C C' M M' : TT} {k : Nat} (h11 : C' 11 k = C 11 k) (h53 : M' 53 0 = M 53 0) (h54 : M' 54 0 = M 54 0) (h : OR C M k) : OR C' M' k := by
  unfold OR at h ⊢
  rw [h11, h53, h54]
  exact h
theorem OR.congr' {C C' M M' : TT} {k : Nat} (h11 : C' 11 k = C 11 k) (h53 : ∀ j, 9 * k ≤ j → j < 9 * k + 9 → M' 53 0 j = M 53 0 j) (h54 : ∀ j, 4 * k ≤ j → j < 4 * k + 4 → M' 54 0 j = M 54 0 j) (h : OR C M k) : OR C' M' k := by
  unfold OR at h ⊢
  rw [h11, h53 (9 * k) (by omega) (by omega), h53 (9 * k + 1) (by omega) (by omega), h53 (9 * k + 2) (by omega) (by omega), h53 (9 * k + 3) (by omega) (by omega), h53 (9 * k + 7) (by omega) (by omega), h53 (9 * k + 8) (by omega) (by omega), h54 (4 * k) (by omega) (by omega), h54 (4 * k + 1) (by omega) (by omega), h54 (4 * k + 2) (by omega) (by omega), h54 (4 * k + 3) (by omega) (by omega)]
  refine ⟨h.1, h.2.1, h.2.2.1, h.2.2.2.1, fun q => ?_, h.2.2.2.2.2⟩
  rw [h53 _ (by omega) (by omega)]
  exact h.2.2.2.2.1 q
theorem OZ.congr {M M' : TT} {k : Nat} (h53 : ∀ j, 9 * k ≤ j → j < 9 * k + 9 → M' 53 0 j = M 53 0 j) (h54 : ∀ j, 4 * k ≤ j → j < 4 * k + 4 → M' 54 0 j = M 54 0 j) (h : OZ M k) : OZ M' k := by
  unfold OZ at h ⊢
  rw [h53 (9 * k + 3) (by omega) (by omega), h53 (9 * k + 7) (by omega) (by omega), h53 (9 * k + 8) (by omega) (by omega), h54 (4 * k) (by omega) (by omega), h54 (4 * k + 1) (by omega) (by omega), h54 (4 * k + 2) (by omega) (by omega), h54 (4 * k + 3) (by omega) (by omega)]
  exact h
theorem RO.congr {C C' M M' : TT} (h08 : C' 0 0 8 = C 0 0 8) (h11 : ∀ k, C' 11 k = C 11 k) (h53 : M' 53 0 = M 53 0) (h54 : M' 54 0 = M 54 0) (h : RO C M) : RO C' M' := by
  obtain ⟨a, b⟩ := h
  refine ⟨fun k hk => ?_, fun k hk hk2 => ?_⟩
  · rw [h08] at hk
    exact (a k hk).congr (h11 k) h53 h54
  · rw [h08] at hk2
    exact (b k hk hk2).congr (fun j _ _ => by rw [h53]) (fun j _ _ => by rw [h54])
theorem RD.congr {C C' M M' : TT} (h9 : ∀ p, C' 9 p = C 9 p) (h3 : C' 3 0 = C 3 0) (h55 : M' 55 0 = M 55 0) (h : RD C M) : RD C' M' := by
  obtain ⟨a, b⟩ := h
  refine ⟨fun p q hp hq => ?_, fun p hp => ?_⟩
  · rw [h9, h55]
    exact a p q hp hq
  · rw [h3, h55]
    exact b p hp
theorem R2.congr {C C' M M' : TT} (hC : LoE C' C) (hM : HiE M' M) (h : R2 C M) : R2 C' M' := by
  obtain ⟨g, p, s, o, d⟩ := h
  have hm : ∀ t, 50 ≤ t → M' t 0 = M t 0 := fun t ht => funext fun j => hM t 0 j ht
  refine ⟨g.congr (hC 0 0 (by omega)) (hm 56 (by omega)), p.congr (fun p => hC 6 p (by omega)) (fun p => hC 7 p (by omega)) (fun p => hC 8 p (by omega)) (hm 50 (by omega)) (hM 56 0 0 (by omega)), s.congr (by rw [hC 0 0 (by omega)]) (fun i => hC 10 i (by omega)) (hm 51 (by omega)) (hm 52 (by omega)), o.congr (by rw [hC 0 0 (by omega)]) (fun k => hC 11 k (by omega)) (hm 53 (by omega)) (hm 54 (by omega)), d.congr (fun p => hC 9 p (by omega)) (hC 3 0 (by omega)) (hm 55 (by omega))⟩
/-! prices: a change of the list -/
theorem lsF_in {f : Nat → Int} {n : Nat} {p d : Int} (h : ∀ i : Nat, i < n → 100 ≤ f (3 * i + 2) ∧ f (3 * i + 2) ≤ 10000) : ∀ k : Nat, k ≤ n → 100 ≤ lsF f p d k ∧ lsF f p d k ≤ 10000
  | 0, _ => by
    show (100 : Int) ≤ 1000 ∧ (1000 : Int) ≤ 10000
    omega
  | k + 1, hk => by
    unfold lsF
    split
    · exact h k (by omega)
    · exact lsF_in h k (by omega)
theorem PCs.val {f : Nat → Int} {n : Nat} (h : PCs f n) (p d : Int) : 100 ≤ lsF f p d n ∧ lsF f p d n ≤ 10000 := lsF_in (fun i hi => (h.2.1 i hi).2.2.2.2) n (Nat.le_refl _)
/-- no change behind k is of provider p by day d -/
theorem lsF_skip {f : Nat → Int} {p d : Int} (k : Nat) : ∀ n : Nat, k ≤ n → (∀ i : Nat, k ≤ i → i < n → ¬ (f (3 * i) = p ∧ f (3 * i + 1) ≤ d)) → lsF f p d n = lsF f p d k
  | 0, h, _ => by
    rw [show k = 0 by omega]
  | n + 1, h, hn => by
    by_cases e : k = n + 1
    · rw [e]
    · show (if f (3 * n) = p ∧ f (3 * n + 1) ≤ d then f (3 * n + 2) else lsF f p d n) = _
      rw [if_neg (hn n (by omega) (by omega))]
      exact lsF_skip k n (by omega) (fun i h1 h2 => hn i h1 (by omega))
/-- the list with change a set to (p, D, v): a the last change of p on day D, or a new one behind all -/
theorem lsF_set {f g : Nat → Int} {p D v : Int} {a n m : Nat} (hA : a < m) (hg0 : g (3 * a) = p) (hg1 : g (3 * a + 1) = D) (hg2 : g (3 * a + 2) = v) (hne : ∀ i : Nat, i < m → i ≠ a → g (3 * i) = f (3 * i) ∧ g (3 * i + 1) = f (3 * i + 1) ∧ g (3 * i + 2) = f (3 * i + 2)) (hday : ∀ i : Nat, i < n → f (3 * i + 1) ≤ D)
    (hs : ∀ i j : Nat, i ≤ j → j < n → f (3 * i + 1) ≤ f (3 * j + 1)) (hc : (a = n ∧ m = n + 1) ∨ (a < n ∧ m = n ∧ f (3 * a) = p ∧ f (3 * a + 1) = D ∧ ∀ i : Nat, a < i → i < n → ¬ (f (3 * i) = p ∧ f (3 * i + 1) = D))) (q d : Int) :
    lsF g q d m = if q = p ∧ D ≤ d then v else lsF f q d n := by
  have hlow : ∀ k : Nat, k ≤ a → k ≤ m → lsF g q d k = lsF f q d k := fun k h1 h2 => by
    induction k with
    | zero => rfl
    | succ k ih =>
      obtain ⟨e0, e1, e2⟩ := hne k (by omega) (by omega)
      unfold lsF
      rw [e0, e1, e2, ih (by omega) (by omega)]
  rcases hc with ⟨ha, hm⟩ | ⟨ha, hm, ha0, ha1, ha2⟩
  · subst hm
    subst ha
    show (if g (3 * a) = q ∧ g (3 * a + 1) ≤ d then g (3 * a + 2) else lsF g q d a) = _
    rw [hg0, hg1, hg2, hlow a (Nat.le_refl _) (by omega)]
    by_cases e : p = q ∧ D ≤ d
    · rw [if_pos e, if_pos ⟨e.1.symm, e.2⟩]
    · rw [if_neg e, if_neg (fun w => e ⟨w.1.symm, w.2⟩)]
  · subst hm
    have hup : ∀ k : Nat, a + 1 + k ≤ m → ¬ (q = p ∧ D ≤ d) → lsF g q d (a + 1 + k) = lsF f q d (a + 1 + k) := fun k => by
      induction k with
      | zero =>
        intro _ hn
        show (if g (3 * a) = q ∧ g (3 * a + 1) ≤ d then g (3 * a + 2) else lsF g q d a) = (if f (3 * a) = q ∧ f (3 * a + 1) ≤ d then f (3 * a + 2) else lsF f q d a)
        rw [hg0, hg1, ha0, ha1, if_neg (fun w => hn ⟨w.1.symm, w.2⟩), if_neg (fun w => hn ⟨w.1.symm, w.2⟩)]
        exact hlow a (Nat.le_refl _) (by omega)
      | succ k ih =>
        intro hk hn
        obtain ⟨e0, e1, e2⟩ := hne (a + 1 + k) (by omega) (by omega)
        show (if g (3 * (a + 1 + k)) = q ∧ g (3 * (a + 1 + k) + 1) ≤ d then g (3 * (a + 1 + k) + 2) else lsF g q d (a + 1 + k)) = (if f (3 * (a + 1 + k)) = q ∧ f (3 * (a + 1 + k) + 1) ≤ d then f (3 * (a + 1 + k) + 2) else lsF f q d (a + 1 + k))
        rw [e0, e1, e2, ih (by omega) hn]
    by_cases e : q = p ∧ D ≤ d
    · rw [if_pos e]
      rw [lsF_skip (a + 1) m (by omega) (fun i h1 h2 w => ?_)]
      · show (if g (3 * a) = q ∧ g (3 * a + 1) ≤ d then g (3 * a + 2) else lsF g q d a) = _
        rw [hg0, hg1, if_pos ⟨e.1.symm, e.2⟩, hg2]
      · obtain ⟨e0, e1, -⟩ := hne i h2 (by omega)
        rw [e0, e1] at w
        have h3 := hs a i (by omega) h2
        have h4 := hday i h2
        exact ha2 i (by omega) h2 ⟨by rw [w.1, e.1], by omega⟩
    · rw [if_neg e]
      have := hup (m - (a + 1)) (by omega) e
      rw [show a + 1 + (m - (a + 1)) = m by omega] at this
      exact this
