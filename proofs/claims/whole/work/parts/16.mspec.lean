/-! ===== the model: its cells, its numbers, what its methods do ===== -/
def mks : List Nat := [2, 3, 4, 7, 8, 9, 11, 12, 13, 14, 15, 16, 17, 18, 19, 20, 21, 22]
def MI (ks : KK) (ad : AD) (P : PP) : Prop := (12, 0) ∈ ks ∧ ∀ k ∈ mks, (20 + k, 0) ∈ ks ∧ P 12 0 k = some (ad (20 + k) 0)
def mpr (T : TT) (p d : Int) : Int := T 22 0 (2001 * p + d).toNat
def mdue (T : TT) (z : Int) : Int := T 34 0 z.toNat + (if T 33 0 z.toNat = 0 then 3 else 2)
def mlate (T : TT) (z : Int) : Int := if mdue T z < T 12 0 1 then T 12 0 1 - mdue T z else 0
def mtim (T : TT) (z lb : Int) : Int := if T 37 0 z.toNat + lb = 0 then 0 else thF (moF (T 38 0 z.toNat) (mpr T (T 27 0 (T 31 0 z.toNat).toNat) (T 35 0 z.toNat - T 36 0 z.toNat))) (mpr T (T 32 0 z.toNat) (T 12 0 1 - (T 37 0 z.toNat + lb)))
def mgot (T : TT) (z pr : Int) : Int := thF (T 39 0 z.toNat) pr
def mlak (T : TT) (z pr lb : Int) : Int := if 0 < mtim T z lb - mgot T z pr then mtim T z lb - mgot T z pr else 0
def mcos (T : TT) (z pr lb : Int) : Int := coF (mlak T z pr lb) (mpr T (T 32 0 z.toNat) (T 12 0 1))
def msha (T : TT) (z pr lb : Int) : Int := if T 37 0 z.toNat + lb = 0 then 0 else mcos T z pr lb * T 36 0 z.toNat / (T 37 0 z.toNat + lb)
def mbuy (T : TT) (z pr lb : Int) : TT :=
  up (up (up (up (up (up T 41 0 (5 * T 27 0 (T 31 0 z.toNat).toNat + T 32 0 z.toNat).toNat (T 41 0 (5 * T 27 0 (T 31 0 z.toNat).toNat + T 32 0 z.toNat).toNat + msha T z pr lb)) 42 0 (T 32 0 z.toNat).toNat (T 42 0 (T 32 0 z.toNat).toNat + (mcos T z pr lb - msha T z pr lb))) 40 0 z.toNat (mlak T z pr lb)) 28 0 (T 31 0 z.toNat).toNat (mgot T z pr + mlak T z pr lb)) 27 0 (T 31 0 z.toNat).toNat (T 32 0 z.toNat)) 29 0 (T 31 0 z.toNat).toNat 0
def mprF (T : TT) (p f : Int) : Int := if f = 0 then mpr T p (T 12 0 1) else T 12 0 5
def msel (T : TT) (z f : Int) : TT :=
  up (up (up (up T 38 0 z.toNat (T 28 0 (T 31 0 z.toNat).toNat)) 39 0 z.toNat (moF (T 28 0 (T 31 0 z.toNat).toNat) (mprF T (T 27 0 (T 31 0 z.toNat).toNat) f))) 28 0 (T 31 0 z.toNat).toNat 0) 35 0 z.toNat (T 12 0 1)
def mend (T X : TT) (z lb : Int) : TT :=
  up (up (up (up X 36 0 z.toNat (T 36 0 z.toNat + (if T 33 0 z.toNat = 2 then 0 else lb))) 37 0 z.toNat (T 37 0 z.toNat + lb)) 34 0 z.toNat (T 12 0 1)) 33 0 z.toNat (T 33 0 z.toNat + 1)
def mdoe (T : TT) (z f : Int) : TT :=
  mend T (if T 33 0 z.toNat = 1 then msel T z f else if T 33 0 z.toNat = 2 then mbuy T z (mprF T (T 32 0 z.toNat) f) (mlate T z) else T) z (mlate T z)
def MSv (T : TT) (i : Nat) : Prop := 0 ≤ T 27 0 i ∧ T 27 0 i < 5 ∧ 0 ≤ T 28 0 i ∧ T 28 0 i ≤ 100000000 ∧ 0 ≤ T 29 0 i ∧ T 29 0 i ≤ 1
def MOr (T : TT) (k : Nat) : Prop := 0 ≤ T 31 0 k ∧ T 31 0 k < T 12 0 6 ∧ 0 ≤ T 32 0 k ∧ T 32 0 k < 5 ∧ 0 ≤ T 33 0 k ∧ T 33 0 k ≤ 3 ∧ 0 ≤ T 34 0 k ∧ T 34 0 k ≤ T 12 0 1 ∧ 0 ≤ T 36 0 k ∧ T 36 0 k ≤ 2000 ∧ 0 ≤ T 37 0 k ∧ T 37 0 k ≤ 4000 ∧ (T 33 0 k ≤ 2 → T 37 0 k ≤ T 34 0 k) ∧ (T 33 0 k = 2 → T 35 0 k = T 34 0 k ∧ T 36 0 k = T 37 0 k) ∧ 0 ≤ T 38 0 k ∧ T 38 0 k ≤ 100000000 ∧ 0 ≤ T 39 0 k ∧ T 39 0 k ≤ 1000000000
def MN (T : TT) : Prop := (0 ≤ T 12 0 1 ∧ T 12 0 1 ≤ 2000) ∧ (100 ≤ T 12 0 5 ∧ T 12 0 5 ≤ 10000) ∧ (0 ≤ T 12 0 6 ∧ T 12 0 6 ≤ 10) ∧ (0 ≤ T 12 0 10 ∧ T 12 0 10 ≤ 30) ∧ (∀ p d : Int, 0 ≤ p → p < 5 → 0 ≤ d → d ≤ T 12 0 1 → 100 ≤ mpr T p d ∧ mpr T p d ≤ 10000) ∧ (∀ p : Nat, p < 5 → 0 ≤ T 23 0 p ∧ T 23 0 p ≤ 61 ∧ inI (T 24 0 p)) ∧ (∀ i : Nat, (i : Int) < T 12 0 6 → MSv T i) ∧ ∀ k : Nat, (k : Int) < T 12 0 10 → MOr T k
theorem MN_th {T : TT} {c : Int} (h : MN T) : MN (up T 12 0 0 c) := by
  have h2 : ∀ t i j, ¬ (t = 12 ∧ i = 0 ∧ j = 0) → up T 12 0 0 c t i j = T t i j := fun t i j q => if_neg q
  have e : ∀ t i j, (t ≠ 12 ∨ j ≠ 0) → up T 12 0 0 c t i j = T t i j := fun t i j q => h2 t i j (fun r => q.elim (fun w => w r.1) (fun w => w r.2.2))
  obtain ⟨a1, a2, a3, a4, a5, a6, a7, a8⟩ := h
  refine ⟨?_, ?_, ?_, ?_, ?_, ?_, ?_, ?_⟩
  · rw [e 12 0 1 (by decide)]; exact a1
  · rw [e 12 0 5 (by decide)]; exact a2
  · rw [e 12 0 6 (by decide)]; exact a3
  · rw [e 12 0 10 (by decide)]; exact a4
  · intro p d
    rw [e 12 0 1 (by decide)]
    show 0 ≤ p → p < 5 → 0 ≤ d → d ≤ T 12 0 1 → 100 ≤ mpr T p d ∧ mpr T p d ≤ 10000
    exact a5 p d
  · exact a6
  · intro i
    rw [e 12 0 6 (by decide)]
    exact a7 i
  · intro k
    rw [e 12 0 10 (by decide)]
    intro hk
    have := a8 k hk
    unfold MOr at this ⊢
    rw [e 12 0 6 (by decide), e 12 0 1 (by decide)]
    exact this
theorem mlate_in {T : TT} {z : Int} (h : 0 ≤ T 34 0 z.toNat ∧ T 34 0 z.toNat ≤ T 12 0 1) (hd : T 12 0 1 ≤ 2000) : 0 ≤ mlate T z ∧ mlate T z + T 34 0 z.toNat ≤ T 12 0 1 := by
  unfold mlate mdue
  split <;> split at * <;> omega
theorem mtim_in {T : TT} (hN : MN T) {z lb : Int} (hz : 0 ≤ z ∧ z < T 12 0 10) (hst : T 33 0 z.toNat = 2) (hlb : 0 ≤ lb ∧ lb + T 34 0 z.toNat ≤ T 12 0 1) : 0 ≤ mtim T z lb ∧ mtim T z lb ≤ 10000000000 := by
  obtain ⟨⟨a1, a2⟩, -, -, -, a5, -, a7, a8⟩ := hN
  obtain ⟨o1, o2, o3, o4, -, -, o5, o6, o7, o8, o9, o10, o11, o12, o13, o14, -, -⟩ := a8 z.toNat (by omega)
  obtain ⟨s1, s2, -⟩ := a7 (T 31 0 z.toNat).toNat (by omega)
  have o11 := o11 (by omega)
  have o12 := o12 hst
  unfold mtim
  split
  · omega
  · have hp := a5 (T 27 0 (T 31 0 z.toNat).toNat) (T 35 0 z.toNat - T 36 0 z.toNat) s1 s2 (by omega) (by omega)
    have hq := a5 (T 32 0 z.toNat) (T 12 0 1 - (T 37 0 z.toNat + lb)) o3 o4 (by omega) (by omega)
    have hm := moF_in (u := T 38 0 z.toNat) (pr := mpr T (T 27 0 (T 31 0 z.toNat).toNat) (T 35 0 z.toNat - T 36 0 z.toNat)) ⟨o13, o14⟩ (by omega)
    have h3 := thF_le (m := moF (T 38 0 z.toNat) (mpr T (T 27 0 (T 31 0 z.toNat).toNat) (T 35 0 z.toNat - T 36 0 z.toNat))) hm.1 hq.1
    have h4 := thF_nn (m := moF (T 38 0 z.toNat) (mpr T (T 27 0 (T 31 0 z.toNat).toNat) (T 35 0 z.toNat - T 36 0 z.toNat))) (pr := mpr T (T 32 0 z.toNat) (T 12 0 1 - (T 37 0 z.toNat + lb))) hm.1 (by omega)
    omega
theorem up_of {T : TT} {t i j : Nat} {v : Int} {a b c : Nat} (h : ¬ (a = t ∧ b = i ∧ c = j)) : up T t i j v a b c = T a b c := if_neg h
theorem up_at {T : TT} {t i j : Nat} {v : Int} {c : Nat} (h : c = j) : up T t i j v t i c = v := if_pos ⟨rfl, rfl, h⟩
def mpas (T : TT) (n : Int) (T1 : TT) : Prop := T1 12 0 0 = 0 ∧ T1 12 0 1 = T 12 0 1 + n ∧ (∀ t i j : Nat, ¬ (t = 12 ∧ i = 0 ∧ (j = 0 ∨ j = 1)) → ¬ (t = 22 ∧ i = 0) → T1 t i j = T t i j) ∧ ∀ p d : Int, 0 ≤ p → p < 5 → 0 ≤ d → d ≤ T 12 0 1 + n → mpr T1 p d = mpr T p (if d ≤ T 12 0 1 then d else T 12 0 1)
theorem mpas_0 {T : TT} (h0 : 0 ≤ T 12 0 1) : mpas T ((0 : Nat) : Int) (up T 12 0 0 0) := by
  refine ⟨rfl, ?_, ?_, ?_⟩
  · show T 12 0 1 = _
    omega
  · intro t i j h1 h2
    exact up_of (fun q => h1 ⟨q.1, q.2.1, Or.inl q.2.2⟩)
  · intro p d h1 h2 h3 h4
    rw [if_pos (by omega)]
    rfl
