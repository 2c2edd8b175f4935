/-! ===== an act keeps what holds ===== -/
def IV (ks : KK) (ad : AD) (T : TT) (P : PP) : Prop := CK ks ad T P ∧ CN T ∧ R2 T T
theorem IV.mid {ks : KK} {ad : AD} {T T1 : TT} {P : PP} (h : IV ks ad T P) (hlo : LoE T1 T) : CK ks ad T1 P ∧ CN T1 ∧ R2 T1 T ∧ T1 0 0 = T 0 0 := by
  have h0 := hlo 0 0 (by omega)
  exact ⟨h.1.congr (by rw [h0]) (by rw [h0]) (fun k => by rw [hlo 11 k (by omega)]), h.2.1.congr hlo, h.2.2.congr hlo HiE.r, h0⟩
theorem mSet_lo {T : TT} {p D v gn : Int} {a : Nat} : LoE (mSet T p D v a gn) T := by
  unfold mSet
  exact (((LoE.r.hi (by decide)).hi (by decide)).hi (by decide)).hi (by decide)
theorem op_put {ks : KK} {ad : AD} {T T1 : TT} {P : PP} (h : IV ks ad T P) {p a : Nat} {v gn : Int} (hp : p < 5) (hv : 100 ≤ v ∧ v ≤ 10000) (ha : a < 20)
    (hc : ((a : Int) = T 56 0 0 ∧ gn = T 56 0 0 + 1 ∧ ∀ i : Nat, i < a → ¬ (T 50 0 (3 * i) = (p : Int) ∧ T 50 0 (3 * i + 1) = T 0 0 5)) ∨ ((a : Int) < T 56 0 0 ∧ gn = T 56 0 0 ∧ T 50 0 (3 * a) = (p : Int) ∧ T 50 0 (3 * a + 1) = T 0 0 5 ∧ ∀ i : Nat, a < i → (i : Int) < T 56 0 0 → ¬ (T 50 0 (3 * i) = (p : Int) ∧ T 50 0 (3 * i + 1) = T 0 0 5)))
    (hT1 : T1 = mSet T (p : Int) (T 0 0 5) v a gn) : IV ks ad (putT T1 p (T1 0 0 5) v) P := by
  subst hT1
  obtain ⟨k1, n1, r1, z1⟩ := h.mid (mSet_lo (T := T) (p := (p : Int)) (D := T 0 0 5) (v := v) (gn := gn) (a := a))
  have e5 : T 0 0 5 = mSet T (p : Int) (T 0 0 5) v a gn 0 0 5 := by rw [z1]
  have h6 := (r1.2.1.2.2 p hp).1
  have h20 := r1.2.1.1.1
  have hr : R2 (putT (mSet T (p : Int) (T 0 0 5) v a gn) p (mSet T (p : Int) (T 0 0 5) v a gn 0 0 5) v) (mSet T (p : Int) (mSet T (p : Int) (T 0 0 5) v a gn 0 0 5) v a gn) := R2_put r1 n1 hp hv ha (by rw [z1]; exact hc)
  rw [← e5] at hr
  rw [← e5]
  refine ⟨k1.congr (by rw [putT_ne (by omega)]) (by rw [putT_ne (by omega)]) (fun k => by rw [putT_ne (by omega)]), ?_, hr.congr LoE.r putT_hi⟩
  have := CN_put (v := v) n1 hp hv (Or.inr (by omega))
  rw [← e5] at this
  exact this
theorem op_def {ks : KK} {ad : AD} {T T1 : TT} {P : PP} (h : IV ks ad T P) {z : Int} (hz : 100 ≤ z ∧ z ≤ 10000) (hT1 : T1 = up T 56 0 4 z) : IV ks ad (up T1 0 0 6 z) P := by
  subst hT1
  obtain ⟨k1, n1, r1, z1⟩ := h.mid (T1 := up T 56 0 4 z) (LoE.r.hi (by decide))
  exact ⟨k1.congr rfl rfl (fun k => rfl), CN_def n1 hz, (R2_def (z := z) r1).congr LoE.r (HiE.r.lo (by decide))⟩
theorem op_pas {ks : KK} {ad : AD} {T T1 : TT} {P : PP} (h : IV ks ad T P) {D : Int} (h1 : T 0 0 5 ≤ D) (h2 : D ≤ 1900) (hT1 : T1 = up T 56 0 3 D) : IV ks ad (up T1 0 0 5 D) P := by
  subst hT1
  obtain ⟨k1, n1, r1, z1⟩ := h.mid (T1 := up T 56 0 3 D) (LoE.r.hi (by decide))
  exact ⟨k1.congr rfl rfl (fun k => rfl), CN_day n1 (by rw [z1]; exact h1) (by omega), (R2_pass (D := D) r1 h2).congr LoE.r (HiE.r.lo (by decide))⟩
theorem op_beg {ks : KK} {ad : AD} {T T1 : TT} {P : PP} (h : IV ks ad T P) {z w : Int} {q : Nat} (hz : 0 ≤ z ∧ z < 5) (hw : 0 ≤ w ∧ w ≤ 1000000) (h5 : T 0 0 7 < 5) (hT1 : T1 = mBeg T (NS T) z (thF w (valT T z.toNat (T 0 0 5))) (T 0 0 7 + 1)) : IV (ks ++ [(10, NS T1)]) (upA ad 10 (NS T1) q) (begT T1 z w) (upP (zrP P 10 (NS T1)) 4 0 (NS T1) (some q)) := by
  have hlo : LoE T1 T := by
    rw [hT1]
    unfold mBeg
    exact ((LoE.r.hi (by decide)).hi (by decide)).hi (by decide)
  obtain ⟨k1, n1, r1, z1⟩ := h.mid hlo
  have h70 := k1.2.2.1.1
  have e7 : T1 0 0 7 = T 0 0 7 := by rw [z1]
  have hns : ((NS T1 : Nat) : Int) = T1 0 0 7 := Int.toNat_of_nonneg h70
  have hmb : ∀ k : Nat, (k : Int) < T1 0 0 8 → mvT T1 k ≠ NS T1 := fun k hk => by
    have := (k1.2.2.2.1.2.2.2 k hk).2.2
    unfold mvT
    omega
  have hr := R2_beg (z := z) (w := w) r1 ⟨h70, by omega⟩
  rw [show NS T1 = NS T by unfold NS; rw [e7], valT_lo hlo, z1] at hr
  refine ⟨CK_beg k1 ?_ (by omega) ?_ (fun k => ?_), CN_beg n1 ⟨h70, by omega⟩ hmb hz hw, hr.congr LoE.r (begT_hi.tr (by rw [hT1]; exact HiE.r))⟩
  · exact begT_0
  · exact begT_0
  · rw [begT_ne (by omega) (by omega)]
theorem op_pay {ks : KK} {ad : AD} {T T1 : TT} {P : PP} (h : IV ks ad T P) {i : Nat} {u : Int} (hi : (i : Int) < T 0 0 7) (hu : 0 ≤ u ∧ T 10 i 1 + u ≤ 100000000) (hT1 : T1 = up T 52 0 i (T 10 i 1 + u)) : IV ks ad (up T1 10 i 1 (T1 10 i 1 + u)) P := by
  subst hT1
  obtain ⟨k1, n1, r1, z1⟩ := h.mid (T1 := up T 52 0 i (T 10 i 1 + u)) (LoE.r.hi (by decide))
  have hc := CN_pay (z := (i : Int)) (w := u) n1 ⟨by omega, by rw [z1]; exact hi⟩ ⟨hu.1, hu.2⟩
  rw [Int.toNat_natCast] at hc
  exact ⟨k1.congr rfl rfl (fun k => rfl), hc, (R2_pay (i := i) (u := T 10 i 1 + u) r1).congr LoE.r (HiE.r.lo (by decide))⟩
theorem op_ord {ks : KK} {ad : AD} {T T1 : TT} {P : PP} (h : IV ks ad T P) {s : Nat} {w : Int} {q : Nat} (hs : (s : Int) < T 0 0 7) (hw : 0 ≤ w ∧ w < 5 ∧ w ≠ T 10 s 0 ∧ T 10 s 2 = 0) (h7 : T 0 0 8 < 7) (hT1 : T1 = mOrd T (NO T) s (T 10 s 0) w (T 0 0 5) (T 0 0 8 + 1)) : IV (ks ++ [(11, NO T1)]) (upA ad 11 (NO T1) q) (ordT T1 (s : Int) w) (upP (zrP P 11 (NO T1)) 5 0 (NO T1) (some q)) := by
  have hlo : LoE T1 T := by
    rw [hT1]
    unfold mOrd
    exact (((((LoE.r.hi (by decide)).hi (by decide)).hi (by decide)).hi (by decide)).hi (by decide)).hi (by decide)
  obtain ⟨k1, n1, r1, z1⟩ := h.mid hlo
  have h80 := k1.2.2.2.1.1
  have e8 : T1 0 0 8 = T 0 0 8 := by rw [z1]
  have e7 : T1 0 0 7 = T 0 0 7 := by rw [z1]
  have e10 : ∀ i, T1 10 i = T 10 i := fun i => hlo 10 i (by omega)
  have hr := R2_ord (s := s) (w := w) r1 ⟨h80, by omega⟩ (by omega)
  rw [show NO T1 = NO T by unfold NO; rw [e8], e10, z1] at hr
  refine ⟨CK_ord (z := (s : Int)) k1 ⟨by omega, by omega⟩ ?_ (by omega) ?_ (fun k hk => ?_) ?_, CN_ord n1 h80 ⟨by omega, by omega⟩ (by rw [Int.toNat_natCast, e10]; exact hw), hr.congr LoE.r (ordT_hi.tr (by rw [hT1]; exact HiE.r))⟩
  · exact ordT_0
  · exact ordT_0
  · rw [ordT_ne (fun q => hk q.2) (by omega) (by omega)]
  · exact ordT_n.2.2.2.2.2.2.2.2.2
theorem op_stp {ks : KK} {ad : AD} {T T1 : TT} {P : PP} (h : IV ks ad T P) {k : Nat} {f : Int} (hlo : LoE T1 T) (hk : (k : Int) < T 0 0 8) (h3 : T 11 k 3 ≠ 3) (hov : T 11 k 3 = 2 → gotT T k f + lakT T k (lateT T k (T 0 0 5)) f ≤ 100000000) (hr : R2 T1 T → CN T1 → R2 (stpT T1 k f) T1) : IV ks ad (stpT T1 k f) P := by
  obtain ⟨k1, n1, r1, z1⟩ := h.mid hlo
  have e8 : T1 0 0 8 = T 0 0 8 := by rw [z1]
  have e11 : T1 11 k = T 11 k := hlo 11 k (by omega)
  have hm := (k1.2.2.2.1.2.2.2 k (by omega)).2.2
  have hg : gotT T1 k f = gotT T k f := by
    unfold gotT prF
    rw [e11, z1, valT_lo hlo]
  have hl : lateT T1 k (T1 0 0 5) = lateT T k (T 0 0 5) := by
    unfold lateT dueT
    rw [e11, z1]
  have hlk : lakT T1 k (lateT T k (T 0 0 5)) f = lakT T k (lateT T k (T 0 0 5)) f := by
    unfold lakT timT allL
    rw [hg, e11, z1, valT_lo hlo, valT_lo hlo]
  obtain ⟨c1, c2, c3⟩ := CN_stp (f := f) n1 (by omega) hm (by rw [e11]; exact h3) (by rw [e11, hg, hl, hlk]; exact hov)
  exact ⟨k1.congr (by rw [c2]) (by rw [c2]) (fun k' => c3 k'), c1, (hr r1 n1).congr LoE.r stpT_hi⟩
theorem ov_iff {T : TT} {k : Nat} {lb f : Int} : gotT T k f + lakT T k lb f ≤ 100000000 ↔ (gotT T k f ≤ 100000000 ∧ (0 < allL T k lb → timT T k (allL T k lb) ≤ 100000000)) := by
  unfold lakT
  split
  · split <;> omega
  · omega
theorem stp_mid {T T1 : TT} (hlo : LoE T1 T) (k : Nat) (f : Int) : T1 11 k = T 11 k ∧ gotT T1 k f = gotT T k f ∧ lateT T1 k (T1 0 0 5) = lateT T k (T 0 0 5) ∧ ∀ lb, lakT T1 k lb f = lakT T k lb f := by
  have z1 := hlo 0 0 (by omega)
  have e11 : T1 11 k = T 11 k := hlo 11 k (by omega)
  have hg : gotT T1 k f = gotT T k f := by
    unfold gotT prF
    rw [e11, z1, valT_lo hlo]
  refine ⟨e11, hg, ?_, fun lb => ?_⟩
  · unfold lateT dueT
    rw [e11, z1]
  · unfold lakT timT allL
    rw [hg, e11, z1, valT_lo hlo, valT_lo hlo]
