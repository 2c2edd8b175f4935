/-! ===== what an act makes of both sides ===== -/
theorem R2_pass {C M : TT} {D : Int} (h : R2 C M) (h2 : D ≤ 1900) : R2 (up C 0 0 5 D) (up M 56 0 3 D) := by
  obtain ⟨⟨a1, a2, a3, a4, a5, a6, a7, a8⟩, p, s, o, d⟩ := h
  refine ⟨⟨a1, a2, a3, a4, rfl, h2, a7, a8⟩, p.congr (fun p => up_ne (by omega)) (fun p => up_ne (by omega)) (fun p => up_ne (by omega)) (up_ne (by omega)) (up_of (by omega)), s.congr (up_of (by omega)) (fun i => up_ne (by omega)) (up_ne (by omega)) (up_ne (by omega)), o.congr (up_of (by omega)) (fun k => up_ne (by omega)) (up_ne (by omega)) (up_ne (by omega)), d.congr (fun p => up_ne (by omega)) (up_ne (by omega)) (up_ne (by omega))⟩
theorem R2_def {C M : TT} {z : Int} (h : R2 C M) : R2 (up C 0 0 6 z) (up M 56 0 4 z) := by
  obtain ⟨⟨a1, a2, a3, a4, a5, a6, a7, a8⟩, p, s, o, d⟩ := h
  refine ⟨⟨a1, a2, a3, a4, a5, a6, rfl, a8⟩, p.congr (fun p => up_ne (by omega)) (fun p => up_ne (by omega)) (fun p => up_ne (by omega)) (up_ne (by omega)) (up_of (by omega)), s.congr (up_of (by omega)) (fun i => up_ne (by omega)) (up_ne (by omega)) (up_ne (by omega)), o.congr (up_of (by omega)) (fun k => up_ne (by omega)) (up_ne (by omega)) (up_ne (by omega)), d.congr (fun p => up_ne (by omega)) (up_ne (by omega)) (up_ne (by omega))⟩
/-! setPrice -/
def mSet (M : TT) (p D v : Int) (a : Nat) (gn : Int) : TT := up (up (up (up M 56 0 0 gn) 50 0 (3 * a) p) 50 0 (3 * a + 1) D) 50 0 (3 * a + 2) v
theorem mSet_56 {M : TT} {p D v gn : Int} {a : Nat} (j : Nat) : mSet M p D v a gn 56 0 j = if j = 0 then gn else M 56 0 j := by
  unfold mSet
  rw [up_of (by omega), up_of (by omega), up_of (by omega)]
  by_cases e : j = 0
  · rw [if_pos e, up_at e]
  · rw [if_neg e, up_of (fun w => e w.2.2)]
theorem mSet_a {M : TT} {p D v gn : Int} {a : Nat} : mSet M p D v a gn 50 0 (3 * a) = p ∧ mSet M p D v a gn 50 0 (3 * a + 1) = D ∧ mSet M p D v a gn 50 0 (3 * a + 2) = v := by
  unfold mSet
  exact ⟨by rw [up_of (by omega), up_of (by omega), up_at rfl], by rw [up_of (by omega), up_at rfl], by rw [up_at rfl]⟩
theorem mSet_o {M : TT} {p D v gn : Int} {a i : Nat} (h : i ≠ a) : mSet M p D v a gn 50 0 (3 * i) = M 50 0 (3 * i) ∧ mSet M p D v a gn 50 0 (3 * i + 1) = M 50 0 (3 * i + 1) ∧ mSet M p D v a gn 50 0 (3 * i + 2) = M 50 0 (3 * i + 2) := by
  unfold mSet
  exact ⟨by rw [up_of (by omega), up_of (by omega), up_of (by omega), up_of (by omega)], by rw [up_of (by omega), up_of (by omega), up_of (by omega), up_of (by omega)], by rw [up_of (by omega), up_of (by omega), up_of (by omega), up_of (by omega)]⟩
theorem mSet_t {M : TT} {p D v gn : Int} {a t : Nat} (h : t ≠ 56 ∧ t ≠ 50) : mSet M p D v a gn t 0 = M t 0 := by
  unfold mSet
  rw [up_ne (by omega), up_ne (by omega), up_ne (by omega), up_ne (by omega)]
theorem R2_day {C M : TT} (h : R2 C M) (hN : CN C) : ∀ i : Nat, i < (M 56 0 0).toNat → M 50 0 (3 * i + 1) ≤ C 0 0 5 := fun i hi => by
  obtain ⟨-, ⟨⟨-, p2, -, -⟩, q, -⟩, -⟩ := h
  have h1 := q i hi
  obtain ⟨h2, h3, -⟩ := p2 i hi
  obtain ⟨-, -, ⟨-, -, h5, -, -⟩, -⟩ := hN.1 (M 50 0 (3 * i)).toNat (by omega)
  have h4 := (hN.2.2.2.2.1 (M 50 0 (3 * i)).toNat (by omega)).2
  omega
theorem R2_put {C M : TT} {p : Nat} {v gn : Int} {a : Nat} (h : R2 C M) (hN : CN C) (hp : p < 5) (hv : 100 ≤ v ∧ v ≤ 10000) (ha : a < 20)
    (hc : ((a : Int) = M 56 0 0 ∧ gn = M 56 0 0 + 1 ∧ ∀ i : Nat, i < a → ¬ (M 50 0 (3 * i) = (p : Int) ∧ M 50 0 (3 * i + 1) = C 0 0 5)) ∨ ((a : Int) < M 56 0 0 ∧ gn = M 56 0 0 ∧ M 50 0 (3 * a) = (p : Int) ∧ M 50 0 (3 * a + 1) = C 0 0 5 ∧ ∀ i : Nat, a < i → (i : Int) < M 56 0 0 → ¬ (M 50 0 (3 * i) = (p : Int) ∧ M 50 0 (3 * i + 1) = C 0 0 5))) :
    R2 (putT C p (C 0 0 5) v) (mSet M (p : Int) (C 0 0 5) v a gn) := by
  have hday := R2_day h hN
  obtain ⟨⟨a1, a2, a3, a4, a5, a6, a7, a8⟩, ⟨⟨p1, p2, p3, p4⟩, q, r⟩, s, o, d⟩ := h
  obtain ⟨n1, n2, ⟨n30, n31, n32, n33, n34⟩, n4⟩ := hN.1 p hp
  have hx := hN.2.2.2.2.1 p hp
  have hD := hN.2.1
  have hD1 := hD.1
  have hD2 := hD.2.1
  have hrp := r p hp
  have hcc : C 7 p (C 6 p 2).toNat = C 0 0 5 ∨ C 6 p 2 < 60 := Or.inr (by omega)
  have hrow := putT_row (v := v) ⟨n1, n2⟩ hD.1 hx.1 hcc
  have hsrt := putT_srt (v := v) ⟨n1, n2⟩ ⟨by omega, by omega⟩ hx.2 hcc ⟨n30, n31, n32, n33, n34⟩
  have h00 : putT C p (C 0 0 5) v 0 0 = C 0 0 := putT_ne (by omega)
  have h63 : putT C p (C 0 0 5) v 6 p 3 = C 0 0 5 := by rw [hsrt.2.2.1, hrow.2.1]
  have h6 : ∀ t p', p' ≠ p → putT C p (C 0 0 5) v t p' = C t p' := fun t p' e => putT_ne (fun w => e w.2)
  obtain ⟨g0, g1, g2⟩ := mSet_a (M := M) (p := (p : Int)) (D := C 0 0 5) (v := v) (gn := gn) (a := a)
  have e56 : mSet M (p : Int) (C 0 0 5) v a gn 56 0 0 = gn := by rw [mSet_56, if_pos rfl]
  have hcn : (a = (M 56 0 0).toNat ∧ gn.toNat = (M 56 0 0).toNat + 1) ∨ (a < (M 56 0 0).toNat ∧ gn.toNat = (M 56 0 0).toNat) := by omega
  refine ⟨⟨?_, ?_, ?_, ?_, ?_, ?_, ?_, ?_⟩, ⟨⟨?_, fun i hi => ?_, fun i hi hi2 => ?_, fun i j hij hj => ?_⟩, fun i hi => ?_, fun p' hp' => ⟨?_, fun x hx0 => ?_⟩⟩, s.congr (by rw [h00]) (fun i => putT_ne (by omega)) (mSet_t (by omega)) (mSet_t (by omega)), o.congr (by rw [h00]) (fun k => putT_ne (by omega)) (mSet_t (by omega)) (mSet_t (by omega)), d.congr (fun p => putT_ne (by omega)) (putT_ne (by omega)) (mSet_t (by omega))⟩
  · rw [mSet_56, if_neg (by omega), h00]
    exact a1
  · rw [h00]
    exact a2
  · rw [mSet_56, if_neg (by omega), h00]
    exact a3
  · rw [h00]
    exact a4
  · rw [mSet_56, if_neg (by omega), h00]
    exact a5
  · rw [h00]
    exact a6
  · rw [mSet_56, if_neg (by omega), h00]
    exact a7
  · rw [e56]
    omega
  · rw [e56]
    omega
  · rw [e56] at hi
    by_cases e : i = a
    · rw [e, g0, g1, g2]
      omega
    · obtain ⟨f0, f1, f2⟩ := mSet_o (M := M) (p := (p : Int)) (D := C 0 0 5) (v := v) (gn := gn) e
      rw [f0, f1, f2]
      exact p2 i (by omega)
  · rw [e56] at hi
    rw [(mSet_o (M := M) (p := (p : Int)) (D := C 0 0 5) (v := v) (gn := gn) (show i ≠ a by omega)).2.2]
    exact p3 i (by omega) hi2
  · rw [e56] at hj
    by_cases ei : i = a
    · by_cases ej : j = a
      · rw [ei, ej]
        exact Int.le_refl _
      · rw [ei, g1, (mSet_o (M := M) (p := (p : Int)) (D := C 0 0 5) (v := v) (gn := gn) ej).2.1]
        have := p4 a j (by omega) (by omega)
        omega
    · rw [(mSet_o (M := M) (p := (p : Int)) (D := C 0 0 5) (v := v) (gn := gn) ei).2.1]
      by_cases ej : j = a
      · rw [ej, g1]
        exact hday i (by omega)
      · rw [(mSet_o (M := M) (p := (p : Int)) (D := C 0 0 5) (v := v) (gn := gn) ej).2.1]
        exact p4 i j hij (by omega)
  · rw [e56] at hi
    by_cases e : i = a
    · rw [e, g0, g1, Int.toNat_natCast, h63]
      exact Int.le_refl _
    · obtain ⟨f0, f1, -⟩ := mSet_o (M := M) (p := (p : Int)) (D := C 0 0 5) (v := v) (gn := gn) e
      rw [f0, f1]
      by_cases e2 : (M 50 0 (3 * i)).toNat = p
      · rw [e2, h63]
        exact hday i (by omega)
      · rw [h6 6 _ e2]
        exact q i (by omega)
  · rw [e56]
    by_cases e : p' = p
    · rw [e, hrow.1]
      rcases hc with ⟨c1, c2, -⟩ | ⟨c1, c2, c3, c4, -⟩
      · split <;> omega
      · have hq := q a (by omega)
        rw [c3, c4, Int.toNat_natCast, n32] at hq
        rw [if_pos (by omega)]
        omega
    · rw [h6 6 p' e]
      have := (r p' hp').1
      omega
  · rw [e56]
    have hls := lsF_set (f := M 50 0) (g := mSet M (p : Int) (C 0 0 5) v a gn 50 0) (p := (p : Int)) (D := C 0 0 5) (v := v) (a := a) (n := (M 56 0 0).toNat) (m := gn.toNat) (by omega) g0 g1 g2 (fun i _ e => mSet_o e) hday p4 (by
      rcases hc with ⟨c1, c2, -⟩ | ⟨c1, c2, c3, c4, c5⟩
      · exact Or.inl (by omega)
      · exact Or.inr ⟨by omega, by omega, c3, c4, fun i h1 h2 => c5 i h1 (by omega)⟩) (p' : Int) x
    rw [hls]
    by_cases e : p' = p
    · subst e
      by_cases ex : C 0 0 5 ≤ x
      · rw [if_pos ⟨rfl, ex⟩, valT_late (D := C 0 0 5) (by rw [hrow.2.1]; exact Int.le_refl _) ex]
        exact hrow.2.2.2.1.symm
      · rw [if_neg (fun w => ex w.2), hrow.2.2.2.2 x hx0 (by omega)]
        exact hrp.2 x hx0
    · rw [if_neg (by omega), valT_congr (h6 6 p' e) (h6 7 p' e) (h6 8 p' e)]
      exact (r p' hp').2 x hx0
/-! begin, pay, order -/
def mBeg (M : TT) (n : Nat) (z u c : Int) : TT := up (up (up M 51 0 (2 * n) z) 52 0 n u) 56 0 1 c
theorem R2_beg {C M : TT} {z w : Int} (h : R2 C M) (h7 : 0 ≤ C 0 0 7 ∧ C 0 0 7 < 5) : R2 (begT C z w) (mBeg M (NS C) z (thF w (valT C z.toNat (C 0 0 5))) (C 0 0 7 + 1)) := by
  have hns : ((NS C : Nat) : Int) = C 0 0 7 := Int.toNat_of_nonneg h7.1
  have hb5 : begT C z w 0 0 5 = C 0 0 5 := begT_0
  have hb6 : begT C z w 0 0 6 = C 0 0 6 := begT_0
  have hb7 : begT C z w 0 0 7 = C 0 0 7 + 1 := begT_0
  have hb8 : begT C z w 0 0 8 = C 0 0 8 := begT_0
  have hs0 : begT C z w 10 (NS C) 0 = z := by
    unfold begT
    rw [up_of (by omega), up_of (by omega), up_at rfl]
  have hs1 : begT C z w 10 (NS C) 1 = thF w (valT C z.toNat (C 0 0 5)) := by
    unfold begT
    rw [up_of (by omega), up_at rfl]
  have hs2 : begT C z w 10 (NS C) 2 = 0 := by
    unfold begT
    rw [up_of (by omega), up_of (by omega), up_of (by omega), up_at rfl]
  have hm : ∀ t j, t ≠ 51 → t ≠ 52 → t ≠ 56 → mBeg M (NS C) z (thF w (valT C z.toNat (C 0 0 5))) (C 0 0 7 + 1) t 0 j = M t 0 j := fun t j q1 q2 q3 => by
    unfold mBeg
    rw [up_of (by omega), up_of (by omega), up_of (by omega)]
  have hf : ∀ t, t ≠ 51 → t ≠ 52 → t ≠ 56 → mBeg M (NS C) z (thF w (valT C z.toNat (C 0 0 5))) (C 0 0 7 + 1) t 0 = M t 0 := fun t q1 q2 q3 => funext fun j => hm t j q1 q2 q3
  have h56 : ∀ j, j ≠ 1 → mBeg M (NS C) z (thF w (valT C z.toNat (C 0 0 5))) (C 0 0 7 + 1) 56 0 j = M 56 0 j := fun j e => by
    unfold mBeg
    rw [up_of (fun w => e w.2.2), up_of (by omega), up_of (by omega)]
  obtain ⟨⟨a1, a2, a3, a4, a5, a6, a7, a8⟩, p, s, o, d⟩ := h
  refine ⟨⟨?_, ?_, ?_, ?_, ?_, ?_, ?_, ?_⟩, p.congr (fun p => begT_ne (by omega) (by omega)) (fun p => begT_ne (by omega) (by omega)) (fun p => begT_ne (by omega) (by omega)) (hf 50 (by omega) (by omega) (by omega)) (h56 0 (by omega)), ⟨fun i hi => ?_, fun i hi hi2 => ?_⟩, o.congr hb8 (fun k => begT_ne (by omega) (by omega)) (hf 53 (by omega) (by omega) (by omega)) (hf 54 (by omega) (by omega) (by omega)), d.congr (fun p => begT_ne (by omega) (by omega)) (begT_ne (by omega) (by omega)) (hf 55 (by omega) (by omega) (by omega))⟩
  · rw [hb7]
    unfold mBeg
    rw [up_at rfl]
  · rw [hb7]
    omega
  · rw [hb8, h56 2 (by omega)]
    exact a3
  · rw [hb8]
    exact a4
  · rw [hb5, h56 3 (by omega)]
    exact a5
  · rw [hb5]
    exact a6
  · rw [hb6, h56 4 (by omega)]
    exact a7
  · rw [h56 0 (by omega)]
    exact a8
  · rw [hb7] at hi
    unfold mBeg
    by_cases e : i = NS C
    · rw [e, hs0, hs1, hs2]
      refine ⟨?_, ?_, ?_⟩
      · rw [up_of (by omega), up_of (by omega), up_at rfl]
      · rw [up_of (by omega), up_of (by omega), up_of (by omega)]
        exact s.2 (NS C) (by omega) (by omega)
      · rw [up_of (by omega), up_at rfl]
    · rw [begT_ne (fun w => e w.2) (by omega), up_of (by omega), up_of (by omega), up_of (by omega), up_of (by omega), up_of (by omega), up_of (by omega), up_of (by omega), up_of (fun w => e w.2.2), up_of (by omega)]
      exact s.1 i (by omega)
  · rw [hb7] at hi2
    unfold mBeg
    rw [up_of (by omega), up_of (by omega), up_of (by omega)]
    exact s.2 i hi (by omega)
theorem R2_pay {C M : TT} {i : Nat} {u : Int} (h : R2 C M) : R2 (up C 10 i 1 u) (up M 52 0 i u) := by
  obtain ⟨g, p, s, o, d⟩ := h
  refine ⟨g.congr (up_ne (by omega)) (up_ne (by omega)), p.congr (fun p => up_ne (by omega)) (fun p => up_ne (by omega)) (fun p => up_ne (by omega)) (up_ne (by omega)) (up_of (by omega)), ⟨fun j hj => ?_, fun j hj hj2 => ?_⟩, o.congr (up_of (by omega)) (fun k => up_ne (by omega)) (up_ne (by omega)) (up_ne (by omega)), d.congr (fun p => up_ne (by omega)) (up_ne (by omega)) (up_ne (by omega))⟩
  · have q := s.1 j hj
    rw [up_of (by omega), up_of (by omega), up_of (by omega), up_of (by omega)]
    refine ⟨q.1, q.2.1, ?_⟩
    by_cases e : j = i
    · rw [e, up_at rfl, up_at rfl]
    · rw [up_of (fun w => e w.2.2), up_of (fun w => e w.2.1)]
      exact q.2.2
  · rw [up_of (by omega)]
    exact s.2 j hj hj2
def mOrd (M : TT) (n s : Nat) (h to D c : Int) : TT := up (up (up (up (up (up M 53 0 (9 * n) (s : Int)) 53 0 (9 * n + 1) h) 53 0 (9 * n + 2) to) 53 0 (9 * n + 4) D) 51 0 (2 * s + 1) 1) 56 0 2 c
theorem R2_ord {C M : TT} {s : Nat} {w : Int} (h : R2 C M) (h8 : 0 ≤ C 0 0 8 ∧ C 0 0 8 < 7) (hs : (s : Int) < C 0 0 7) : R2 (ordT C (s : Int) w) (mOrd M (NO C) s (C 10 s 0) w (C 0 0 5) (C 0 0 8 + 1)) := by
  have hno : ((NO C : Nat) : Int) = C 0 0 8 := Int.toNat_of_nonneg h8.1
  have hb5 : ordT C (s : Int) w 0 0 5 = C 0 0 5 := ordT_0
  have hb6 : ordT C (s : Int) w 0 0 6 = C 0 0 6 := ordT_0
  have hb7 : ordT C (s : Int) w 0 0 7 = C 0 0 7 := ordT_0
  have hb8 : ordT C (s : Int) w 0 0 8 = C 0 0 8 + 1 := ordT_0
  obtain ⟨w1, w2, w3, w4, w5, w6, w7, w8, w9, wx⟩ := ordT_n (T := C) (z := (s : Int)) (w := w)
  rw [Int.toNat_natCast] at w1
  have h11 : ∀ k : Nat, k ≠ NO C → ordT C (s : Int) w 11 k = C 11 k := fun k e => ordT_ne (fun q => e q.2) (by omega) (by omega)
  have hat : ∀ t i, t ≠ 0 → t ≠ 10 → t ≠ 11 → ordT C (s : Int) w t i = C t i := fun t i q1 q2 q3 => ordT_ne (by omega) (by omega) (by omega)
  have hm : ∀ t j, t ≠ 51 → t ≠ 53 → t ≠ 56 → mOrd M (NO C) s (C 10 s 0) w (C 0 0 5) (C 0 0 8 + 1) t 0 j = M t 0 j := fun t j q1 q2 q3 => by
    unfold mOrd
    rw [up_of (by omega), up_of (by omega), up_of (by omega), up_of (by omega), up_of (by omega), up_of (by omega)]
  have hf : ∀ t, t ≠ 51 → t ≠ 53 → t ≠ 56 → mOrd M (NO C) s (C 10 s 0) w (C 0 0 5) (C 0 0 8 + 1) t 0 = M t 0 := fun t q1 q2 q3 => funext fun j => hm t j q1 q2 q3
  have h56 : ∀ j, j ≠ 2 → mOrd M (NO C) s (C 10 s 0) w (C 0 0 5) (C 0 0 8 + 1) 56 0 j = M 56 0 j := fun j e => by
    unfold mOrd
    rw [up_of (fun w => e w.2.2), up_of (by omega), up_of (by omega), up_of (by omega), up_of (by omega), up_of (by omega)]
  have h51 : ∀ j, mOrd M (NO C) s (C 10 s 0) w (C 0 0 5) (C 0 0 8 + 1) 51 0 j = if j = 2 * s + 1 then 1 else M 51 0 j := fun j => by
    unfold mOrd
    rw [up_of (by omega)]
    by_cases e : j = 2 * s + 1
    · rw [up_at e, if_pos e]
    · rw [up_of (fun w => e w.2.2), if_neg e, up_of (by omega), up_of (by omega), up_of (by omega), up_of (by omega)]
  have h53 : ∀ j, ¬ (9 * NO C ≤ j ∧ j < 9 * NO C + 5 ∧ j ≠ 9 * NO C + 3) → mOrd M (NO C) s (C 10 s 0) w (C 0 0 5) (C 0 0 8 + 1) 53 0 j = M 53 0 j := fun j e => by
    unfold mOrd
    rw [up_of (by omega), up_of (by omega), up_of (by omega), up_of (by omega), up_of (by omega), up_of (by omega)]
  obtain ⟨⟨a1, a2, a3, a4, a5, a6, a7, a8⟩, p, sv, o, d⟩ := h
  refine ⟨⟨?_, ?_, ?_, ?_, ?_, ?_, ?_, ?_⟩, p.congr (fun p => hat 6 p (by omega) (by omega) (by omega)) (fun p => hat 7 p (by omega) (by omega) (by omega)) (fun p => hat 8 p (by omega) (by omega) (by omega)) (hf 50 (by omega) (by omega) (by omega)) (h56 0 (by omega)), ⟨fun i hi => ?_, fun i hi hi2 => ?_⟩, ⟨fun k hk => ?_, fun k hk hk2 => ?_⟩, d.congr (fun p => hat 9 p (by omega) (by omega) (by omega)) (hat 3 0 (by omega) (by omega) (by omega)) (hf 55 (by omega) (by omega) (by omega))⟩
  · rw [hb7, h56 1 (by omega)]
    exact a1
  · rw [hb7]
    exact a2
  · rw [hb8]
    unfold mOrd
    rw [up_at rfl]
  · rw [hb8]
    omega
  · rw [hb5, h56 3 (by omega)]
    exact a5
  · rw [hb5]
    exact a6
  · rw [hb6, h56 4 (by omega)]
    exact a7
  · rw [h56 0 (by omega)]
    exact a8
  · rw [hb7] at hi
    have q := sv.1 i hi
    rw [h51, h51, hf 52 (by omega) (by omega) (by omega), ordT_10, ordT_10, ordT_10, if_neg (show ¬ 2 * i = 2 * s + 1 by omega), if_neg (show ¬ (i = (s : Int).toNat ∧ (0 : Nat) = 2) by omega), if_neg (show ¬ (i = (s : Int).toNat ∧ (1 : Nat) = 2) by omega), Int.toNat_natCast]
    refine ⟨q.1, ?_, q.2.2⟩
    by_cases e : i = s
    · rw [if_pos (by omega), if_pos ⟨e, rfl⟩]
    · rw [if_neg (by omega), if_neg (fun w => e w.1)]
      exact q.2.1
  · rw [hb7] at hi2
    rw [h51, if_neg (by omega)]
    exact sv.2 i hi hi2
  · rw [hb8] at hk
    by_cases e : k = NO C
    · subst e
      obtain ⟨z1, z2, z3, z4, z5, z6, z7⟩ := o.2 (NO C) (by omega) (by omega)
      have m0 : mOrd M (NO C) s (C 10 s 0) w (C 0 0 5) (C 0 0 8 + 1) 53 0 (9 * NO C) = (s : Int) := by
        unfold mOrd
        rw [up_of (by omega), up_of (by omega), up_of (by omega), up_of (by omega), up_of (by omega), up_at rfl]
      have m1 : mOrd M (NO C) s (C 10 s 0) w (C 0 0 5) (C 0 0 8 + 1) 53 0 (9 * NO C + 1) = C 10 s 0 := by
        unfold mOrd
        rw [up_of (by omega), up_of (by omega), up_of (by omega), up_of (by omega), up_at rfl]
      have m2 : mOrd M (NO C) s (C 10 s 0) w (C 0 0 5) (C 0 0 8 + 1) 53 0 (9 * NO C + 2) = w := by
        unfold mOrd
        rw [up_of (by omega), up_of (by omega), up_of (by omega), up_at rfl]
      have m4 : mOrd M (NO C) s (C 10 s 0) w (C 0 0 5) (C 0 0 8 + 1) 53 0 (9 * NO C + 4 + (0 : Int).toNat) = C 0 0 5 := by
        unfold mOrd
        rw [up_of (by omega), up_of (by omega), up_at (show 9 * NO C + 4 + (0 : Int).toNat = 9 * NO C + 4 from rfl)]
      unfold OR
      rw [w1, w2, w3, w4, w5, w6, w7, w8, w9, wx, m0, m1, m2, m4, h53 (9 * NO C + 3) (by omega), h53 (9 * NO C + 7) (by omega), h53 (9 * NO C + 8) (by omega), hf 54 (by omega) (by omega) (by omega), z1, z2, z3, z4, z5, z6, z7]
      exact ⟨rfl, rfl, rfl, rfl, fun _ => rfl, by omega, fun _ => rfl, fun _ => rfl, by omega, by omega, rfl, rfl, rfl, rfl, fun _ => rfl⟩
    · exact (o.1 k (by omega)).congr' (h11 k e) (fun j q1 q2 => h53 j (by omega)) (fun j _ _ => by rw [hf 54 (by omega) (by omega) (by omega)])
  · rw [hb8] at hk2
    exact (o.2 k hk (by omega)).congr (fun j q1 q2 => h53 j (by omega)) (fun j _ _ => by rw [hf 54 (by omega) (by omega) (by omega)])
