theorem RN_up {T : TT} {t i j : Nat} {v : Int} (ht : t ≠ 6 ∧ t ≠ 7 ∧ t ≠ 8) (h : RN T) : RN (up T t i j v) := by
  intro p hp
  have h6 : up T t i j v 6 p = T 6 p := up_ne (fun q => ht.1 q.1.symm)
  have h7 : up T t i j v 7 p = T 7 p := up_ne (fun q => ht.2.1 q.1.symm)
  have h8 : up T t i j v 8 p = T 8 p := up_ne (fun q => ht.2.2 q.1.symm)
  rw [h6, h7, h8]
  exact h p hp
theorem idxT_congr {T T' : TT} {p : Nat} (h : T' 7 p = T 7 p) (d : Int) : ∀ n, idxT T' p d n = idxT T p d n
  | 0 => rfl
  | n + 1 => by
    unfold idxT
    rw [h, idxT_congr h d n]
theorem valT_congr {T T' : TT} {p : Nat} (h6 : T' 6 p = T 6 p) (h7 : T' 7 p = T 7 p) (h8 : T' 8 p = T 8 p) (d : Int) : valT T' p d = valT T p d := by
  unfold valT
  rw [idxT_congr h7, h6, h8]
theorem valT_up {T : TT} {t i j : Nat} {v : Int} (ht : t ≠ 6 ∧ t ≠ 7 ∧ t ≠ 8) (p : Nat) (d : Int) : valT (up T t i j v) p d = valT T p d :=
  valT_congr (up_ne (fun q => ht.1 q.1.symm)) (up_ne (fun q => ht.2.1 q.1.symm)) (up_ne (fun q => ht.2.2 q.1.symm)) d
theorem DN_up {T : TT} {t i j : Nat} {v : Int} (ht : t ≠ 0) (h : DN T) : DN (up T t i j v) := by
  have h0 : up T t i j v 0 0 = T 0 0 := up_ne (fun q => ht q.1.symm)
  unfold DN
  rw [h0]
  exact h
theorem moF_in {u pr : Int} (hu : 0 ≤ u ∧ u ≤ 100000000) (hp : 0 < pr ∧ pr ≤ 10000) : 0 ≤ moF u pr ∧ moF u pr ≤ 1000000000 := by
  have h1 : 0 ≤ u * pr := Int.mul_nonneg (by omega) (by omega)
  have h2 : u * pr ≤ 100000000 * 10000 := Int.mul_le_mul (by omega) (by omega) (by omega) (by omega)
  unfold moF
  omega
theorem thF_nn {m pr : Int} (hm : 0 ≤ m) (hp : 0 < pr) : 0 ≤ thF m pr := Int.ediv_nonneg (by omega) (by omega)
theorem thF_le {m pr : Int} (hm : 0 ≤ m) (hp : 100 ≤ pr) : thF m pr ≤ m * 10 := by
  unfold thF
  refine Int.ediv_le_of_le_mul (by omega) ?_
  have h1 := Int.mul_le_mul_of_nonneg_left hp (show 0 ≤ m * 10 by omega)
  omega
theorem coF_in {u pr : Int} (hu : 0 ≤ u ∧ u ≤ 100000000) (hp : 0 < pr ∧ pr ≤ 10000) : 0 ≤ coF u pr ∧ coF u pr ≤ 1000000000 := by
  have h1 : 0 ≤ u * pr := Int.mul_nonneg (by omega) (by omega)
  have h2 : u * pr ≤ 100000000 * 10000 := Int.mul_le_mul (by omega) (by omega) (by omega) (by omega)
  unfold coF
  omega
theorem shaT_at {T : TT} {k : Nat} {co al : Int} {a : Nat} (b : Nat) (h : a ≠ 9 ∧ a ≠ 3) : shaT T k co al a b = T a b := by
  unfold shaT
  split
  · rfl
  · rw [up_ne (fun q => h.2 q.1), up_ne (fun q => h.1 q.1)]
theorem lateT_in {T : TT} {k : Nat} {d : Int} (h : 0 ≤ T 11 k 4) (hd : 0 ≤ d ∧ d ≤ 2000) : 0 ≤ lateT T k d ∧ lateT T k d ≤ 2000 := by
  unfold lateT dueT
  split <;> split at * <;> omega
theorem prF_in {T : TT} (hN : RN T) (hD : DN T) {p : Nat} (hp : p < 5) (f : Int) : 100 ≤ prF T p f ∧ prF T p f ≤ 10000 := by
  unfold prF
  split
  · exact valT_in hN hp _
  · exact ⟨hD.2.2.1, hD.2.2.2⟩
theorem gotT_nn {T : TT} {k : Nat} (hN : RN T) (hD : DN T) (h2 : T 11 k 2 < 5) (h8 : 0 ≤ T 11 k 8) (f : Int) : 0 ≤ gotT T k f := by
  have := prF_in hN hD (p := (T 11 k 2).toNat) (by omega) f
  exact thF_nn h8 (by omega)
theorem lakT_nn (T : TT) (k : Nat) (lb f : Int) : 0 ≤ lakT T k lb f := by
  unfold lakT
  split
  · split <;> omega
  · omega
theorem sellT_at {T : TT} {k : Nat} {f : Int} {a b : Nat} (h : ¬ (a = 11 ∧ b = k)) (h2 : a ≠ 10) : sellT T k f a b = T a b := by
  unfold sellT
  rw [up_ne (fun q => h2 q.1), up_ne h, up_ne h]
theorem sellT_3 {T : TT} {k : Nat} {f : Int} : sellT T k f 11 k 3 = T 11 k 3 := by simp [sellT, up]
theorem arrT_at {T : TT} {i : Nat} {h u : Int} {a b : Nat} (h2 : ¬ (a = 10 ∧ b = i)) : arrT T i h u a b = T a b := by
  unfold arrT
  rw [up_ne h2, up_ne h2, up_ne h2]
theorem buyT_at {T : TT} {k : Nat} {lb f : Int} {a b : Nat} (h : ¬ (a = 11 ∧ b = k)) (h2 : a ≠ 10 ∧ a ≠ 9 ∧ a ≠ 3) : buyT T k lb f a b = T a b := by
  unfold buyT
  rw [arrT_at (fun q => h2.1 q.1), up_ne h, shaT_at b ⟨h2.2.1, h2.2.2⟩]
theorem buyT_3 {T : TT} {k : Nat} {lb f : Int} : buyT T k lb f 11 k 3 = T 11 k 3 := by
  unfold buyT
  rw [arrT_at (fun q => absurd q.1 (by decide)), up_row, uR, if_neg (by decide), shaT_at k (by decide)]
theorem gotT_le {T : TT} {k : Nat} (hN : RN T) (hD : DN T) (h2 : T 11 k 2 < 5) (h8 : 0 ≤ T 11 k 8 ∧ T 11 k 8 ≤ 1000000000) (f : Int) : gotT T k f ≤ 10000000000 := by
  have hp := prF_in hN hD (p := (T 11 k 2).toNat) (by omega) f
  have h1 := thF_le (m := T 11 k 8) (by omega) hp.1
  unfold gotT
  omega
theorem timT_in {T : TT} {k : Nat} (hN : RN T) (h1 : T 11 k 1 < 5) (h2 : T 11 k 2 < 5) (h7 : 0 ≤ T 11 k 7 ∧ T 11 k 7 ≤ 100000000) (al : Int) : 0 ≤ timT T k al ∧ timT T k al ≤ 10000000000 := by
  have hp := valT_in hN (p := (T 11 k 1).toNat) (by omega) (T 11 k 4 - T 11 k 5)
  have hq := valT_in hN (p := (T 11 k 2).toNat) (by omega) (T 0 0 5 - al)
  have hm := moF_in (u := T 11 k 7) (pr := valT T (T 11 k 1).toNat (T 11 k 4 - T 11 k 5)) h7 (by omega)
  have h3 := thF_le (m := moF (T 11 k 7) (valT T (T 11 k 1).toNat (T 11 k 4 - T 11 k 5))) hm.1 hq.1
  have h4 := thF_nn (m := moF (T 11 k 7) (valT T (T 11 k 1).toNat (T 11 k 4 - T 11 k 5))) (pr := valT T (T 11 k 2).toNat (T 0 0 5 - al)) hm.1 (by omega)
  unfold timT
  omega
theorem lakT_le {T : TT} {k : Nat} (hN : RN T) (hD : DN T) (h1 : T 11 k 1 < 5) (h2 : T 11 k 2 < 5) (h7 : 0 ≤ T 11 k 7 ∧ T 11 k 7 ≤ 100000000) (h8 : 0 ≤ T 11 k 8) (lb f : Int) : lakT T k lb f ≤ 10000000000 := by
  have ht := timT_in hN h1 h2 h7 (allL T k lb)
  have hg := gotT_nn hN hD h2 h8 f
  unfold lakT
  split
  · split <;> omega
  · omega
theorem lateT_dy {T : TT} {k : Nat} {d : Int} (h4 : T 11 k 4 ≤ d) : 0 ≤ lateT T k d ∧ lateT T k d + T 11 k 4 ≤ d := by
  unfold lateT dueT
  split <;> split at * <;> omega
