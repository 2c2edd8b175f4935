theorem FI_new {ks : KK} {ad : AD} {P : PP} {t i q : Nat} (ht : 6 ≤ t) (h : FI ks ad P) : FI (ks ++ [(t, i)]) (upA ad t i q) (zrP P t i) := by
  obtain ⟨h0, h1, h2, h3, h4, h5, p0, p1, p2, p3, p4⟩ := h
  refine ⟨List.mem_append_left _ h0, List.mem_append_left _ h1, List.mem_append_left _ h2, List.mem_append_left _ h3, List.mem_append_left _ h4, List.mem_append_left _ h5, ?_, ?_, ?_, ?_, ?_⟩ <;> rw [zrP_ne (fun h => by have := h.1; omega), upA_ne (fun h => by have := h.1; omega)] <;> assumption
theorem RK_new {ks : KK} {ad : AD} {P : PP} {t i q : Nat} (ht : 10 ≤ t) (h : RK ks ad P) : RK (ks ++ [(t, i)]) (upA ad t i q) (zrP P t i) := by
  intro p hp
  obtain ⟨h6, h7, h8, h9, p1, p2, p3, p4⟩ := h p hp
  refine ⟨List.mem_append_left _ h6, List.mem_append_left _ h7, List.mem_append_left _ h8, List.mem_append_left _ h9, ?_, ?_, ?_, ?_⟩ <;> rw [zrP_ne (fun h => by have := h.1; omega), upA_ne (fun h => by have := h.1; omega)] <;> assumption
theorem RN_congr {T T' : TT} (h6 : ∀ p, T' 6 p = T 6 p) (h7 : ∀ p, T' 7 p = T 7 p) (h8 : ∀ p, T' 8 p = T 8 p) (h : RN T) : RN T' := by
  intro p hp
  rw [h6, h7, h8]
  exact h p hp
theorem RN_zr {T : TT} {t i : Nat} (ht : 10 ≤ t) (h : RN T) : RN (zrT T t i) := RN_congr (fun p => zrT_ne (fun q => by have := q.1; omega)) (fun p => zrT_ne (fun q => by have := q.1; omega)) (fun p => zrT_ne (fun q => by have := q.1; omega)) h
theorem valT_zr {T : TT} {t i : Nat} (ht : 10 ≤ t) (p : Nat) (d : Int) : valT (zrT T t i) p d = valT T p d :=
  valT_congr (zrT_ne (fun q => by have := q.1; omega)) (zrT_ne (fun q => by have := q.1; omega)) (zrT_ne (fun q => by have := q.1; omega)) d
theorem WO_ghost {G : GG} {ks : KK} {ad : AD} {T : TT} {P : PP} (k : Nat) (z : Int) : WO G (ks, ad, up T 11 k 10 z, P) = WO G (ks, ad, T, P) := by
  unfold WO
  apply List.map_congr_left
  rintro ⟨a, b⟩ -
  by_cases h : a = 11 ∧ b = k
  · obtain ⟨rfl, rfl⟩ := h
    refine congrArg (fun e => (ad 11 b, e)) ?_
    show cF G.2 11 (up T 11 b 10 z 11 b) (P 11 b) = cF G.2 11 (T 11 b) (P 11 b)
    rw [up_row]
    rfl
  · refine congrArg (fun e => (ad a b, e)) ?_
    show cF G.2 a (up T 11 k 10 z a b) (P a b) = cF G.2 a (T a b) (P a b)
    rw [up_ne h]
theorem Cur_ghost {G : GG} {b0 : Nat} {ks : KK} {ad : AD} {T : TT} {P : PP} {s : State} {H : Heap} {locs : List Loc} (k : Nat) (z : Int) (h : Cur G b0 (ks, ad, T, P) s H locs) : Cur G b0 (ks, ad, up T 11 k 10 z, P) s H locs := by
  unfold Cur At at h ⊢
  rw [WO_ghost]
  exact h
def oriT (T : TT) (k : Nat) (h to d : Int) : TT := up (up (up (up (up (up (up (up (up T 11 k 3 0) 11 k 5 0) 11 k 6 0) 11 k 7 0) 11 k 8 0) 11 k 9 0) 11 k 1 h) 11 k 2 to) 11 k 4 d
def begT (T : TT) (z v : Int) : TT := up (up (up (up (zrT T 10 (T 0 0 7).toNat) 10 (T 0 0 7).toNat 2 0) 10 (T 0 0 7).toNat 0 z) 10 (T 0 0 7).toNat 1 (thF v (valT T z.toNat (T 0 0 5)))) 0 0 7 (T 0 0 7 + 1)
def ordT (T : TT) (z to : Int) : TT := up (up (oriT (up (zrT T 11 (T 0 0 8).toNat) 11 (T 0 0 8).toNat 10 z) (T 0 0 8).toNat (T 10 z.toNat 0) to (T 0 0 5)) 0 0 8 (T 0 0 8 + 1)) 10 z.toNat 2 1
