/-! what reads the cells only -/
theorem IV.th {ks : KK} {ad : AD} {T : TT} {P : PP} (h : IV ks ad T P) {c : Int} : IV ks ad (up T 12 0 0 c) P := h.congr (LoE.r.hi (by decide)) HiE.r.th
theorem IV.ou {ks : KK} {ad : AD} {T : TT} {P : PP} (h : IV ks ad T P) {c : Int} : IV ks ad (up T 43 0 0 c) P := h.congr (LoE.r.hi (by decide)) HiE.r.ou
/-- a question: the class's answer v where C, code 1 where not -/
def Wq (C : Prop) (v : Int) (T : TT) (k : Int) (T1 : TT) : Prop := (k = 1 ∧ ¬ C ∧ T1 = T) ∨ (k = 0 ∧ C ∧ T1 = up T 43 0 0 v)
theorem Wq.hi {C : Prop} {v : Int} {T T1 : TT} {k : Int} (h : Wq C v T k T1) : HiE T1 T := by
  rcases h with ⟨-, -, rfl⟩ | ⟨-, -, rfl⟩
  · exact HiE.r
  · exact HiE.r.ou
theorem Wq.lo {C : Prop} {v : Int} {T T1 : TT} {k : Int} (h : Wq C v T k T1) : LoE T1 T := by
  rcases h with ⟨-, -, rfl⟩ | ⟨-, -, rfl⟩
  · exact LoE.r
  · exact LoE.r.hi (by decide)
theorem op_q {ks : KK} {ad : AD} {T : TT} {P : PP} (h : IV ks ad T P) {C : Prop} {v k r : Int} {T1 T2 : TT} (hw : Wq C v T k T1) {A B : Prop} {v2 : Int} (hA : A → ¬ C) (hB : B → C) (hv : C → v2 = v)
    (hm : (A ∧ T2 = up T1 12 0 0 1) ∨ ((B ∧ r = v2) ∧ T2 = up T1 12 0 0 0)) : T2 12 0 0 = k ∧ (k = 0 → r = T2 43 0 0) ∧ IV ks ad T2 P := by
  rcases hw with ⟨rfl, c, rfl⟩ | ⟨rfl, c, rfl⟩
  · rcases hm with ⟨m, rfl⟩ | ⟨m, rfl⟩
    · exact ⟨rfl, fun q => by omega, h.th⟩
    · exact absurd (hB m.1) c
  · rcases hm with ⟨m, rfl⟩ | ⟨m, rfl⟩
    · exact absurd c (hA m)
    · exact ⟨rfl, fun _ => m.2.trans (hv c), h.ou.th⟩
abbrev Wpri (T : TT) (z w k : Int) (T1 : TT) : Prop := Wq (0 ≤ z ∧ z < 5 ∧ 0 ≤ w ∧ w ≤ T 0 0 5) (valT T z.toNat w) T k T1
theorem op_pri {ks : KK} {ad : AD} {T : TT} {P : PP} (h : IV ks ad T P) {z w k r : Int} {T1 T2 : TT} (hw : Wpri T z w k T1)
    (hm : ((z < 0 ∨ 5 ≤ z ∨ w < 0 ∨ T1 12 0 1 < w) ∧ T2 = up T1 12 0 0 1) ∨ ((0 ≤ z ∧ z < 5 ∧ 0 ≤ w ∧ w ≤ T1 12 0 1 ∧ r = mpr T1 z w) ∧ T2 = up T1 12 0 0 0)) : T2 12 0 0 = k ∧ (k = 0 → r = T2 43 0 0) ∧ IV ks ad T2 P := by
  have hi := hw.hi
  have e1 : T1 12 0 1 = T 0 0 5 := (hi 12 0 1 (by omega) (by omega) (by omega)).trans h.2.2.1.1
  rw [e1] at hm
  refine op_q h hw (A := z < 0 ∨ 5 ≤ z ∨ w < 0 ∨ T 0 0 5 < w) (B := 0 ≤ z ∧ z < 5 ∧ 0 ≤ w ∧ w ≤ T 0 0 5) (v2 := mpr T1 z w) (fun q => by omega) (fun q => q) (fun q => ?_) (hm.imp id (fun q => ⟨⟨⟨q.1.1, q.1.2.1, q.1.2.2.1, q.1.2.2.2.1⟩, q.1.2.2.2.2⟩, q.2⟩))
  rw [mpr_hi hi]
  have := (h.2.2.2.1 z.toNat (by omega)).2.2 w q.2.2.1 q.2.2.2
  rw [show ((z.toNat : Nat) : Int) = z by omega] at this
  exact this
abbrev Wuni (T : TT) (z k : Int) (T1 : TT) : Prop := Wq (0 ≤ z ∧ z < T 0 0 7) (T 10 z.toNat 1) T k T1
abbrev Wpro (T : TT) (z k : Int) (T1 : TT) : Prop := Wq (0 ≤ z ∧ z < T 0 0 7) (T 10 z.toNat 0) T k T1
theorem op_uni {ks : KK} {ad : AD} {T : TT} {P : PP} (h : IV ks ad T P) {z k r : Int} {T1 T2 : TT} (hw : Wuni T z k T1)
    (hm : ((z < 0 ∨ T1 12 0 6 ≤ z) ∧ T2 = up T1 12 0 0 1) ∨ ((0 ≤ z ∧ z < T1 12 0 6 ∧ r = T1 28 0 z.toNat) ∧ T2 = up T1 12 0 0 0)) : T2 12 0 0 = k ∧ (k = 0 → r = T2 43 0 0) ∧ IV ks ad T2 P := by
  have hi := hw.hi
  have e1 : T1 12 0 6 = T 0 0 7 := (hi 12 0 6 (by omega) (by omega) (by omega)).trans h.2.2.1.2.2.1
  rw [e1] at hm
  refine op_q h hw (A := z < 0 ∨ T 0 0 7 ≤ z) (B := 0 ≤ z ∧ z < T 0 0 7) (v2 := T1 28 0 z.toNat) (fun q => by omega) (fun q => q) (fun q => ?_) (hm.imp id (fun q => ⟨⟨⟨q.1.1, q.1.2.1⟩, q.1.2.2⟩, q.2⟩))
  exact (hi 28 0 _ (by omega) (by omega) (by omega)).trans (h.2.2.2.2.1 z.toNat (by omega)).2.1
theorem op_pro {ks : KK} {ad : AD} {T : TT} {P : PP} (h : IV ks ad T P) {z k r : Int} {T1 T2 : TT} (hw : Wpro T z k T1)
    (hm : ((z < 0 ∨ T1 12 0 6 ≤ z) ∧ T2 = up T1 12 0 0 1) ∨ ((0 ≤ z ∧ z < T1 12 0 6 ∧ r = T1 27 0 z.toNat) ∧ T2 = up T1 12 0 0 0)) : T2 12 0 0 = k ∧ (k = 0 → r = T2 43 0 0) ∧ IV ks ad T2 P := by
  have hi := hw.hi
  have e1 : T1 12 0 6 = T 0 0 7 := (hi 12 0 6 (by omega) (by omega) (by omega)).trans h.2.2.1.2.2.1
  rw [e1] at hm
  refine op_q h hw (A := z < 0 ∨ T 0 0 7 ≤ z) (B := 0 ≤ z ∧ z < T 0 0 7) (v2 := T1 27 0 z.toNat) (fun q => by omega) (fun q => q) (fun q => ?_) (hm.imp id (fun q => ⟨⟨⟨q.1.1, q.1.2.1⟩, q.1.2.2⟩, q.2⟩))
  exact (hi 27 0 _ (by omega) (by omega) (by omega)).trans (h.2.2.2.2.1 z.toNat (by omega)).1
theorem op_ord {ks : KK} {ad : AD} {T : TT} {P : PP} (h : IV ks ad T P) {v z k r : Int} {t : Nat} (ht : 31 ≤ t ∧ t ≤ 40) {T1 T2 : TT} (hw : Wq (0 ≤ z ∧ z < T 0 0 8) v T k T1) (hv : 0 ≤ z → z < T 0 0 8 → T t 0 z.toNat = v)
    (hm : ((z < 0 ∨ T1 12 0 10 ≤ z) ∧ T2 = up T1 12 0 0 1) ∨ ((0 ≤ z ∧ z < T1 12 0 10 ∧ r = T1 t 0 z.toNat) ∧ T2 = up T1 12 0 0 0)) : T2 12 0 0 = k ∧ (k = 0 → r = T2 43 0 0) ∧ IV ks ad T2 P := by
  have hi := hw.hi
  have e1 : T1 12 0 10 = T 0 0 8 := (hi 12 0 10 (by omega) (by omega) (by omega)).trans h.2.2.1.2.2.2
  rw [e1] at hm
  refine op_q h hw (A := z < 0 ∨ T 0 0 8 ≤ z) (B := 0 ≤ z ∧ z < T 0 0 8) (v2 := T1 t 0 z.toNat) (fun q => by omega) (fun q => q) (fun q => ?_) (hm.imp id (fun q => ⟨⟨⟨q.1.1, q.1.2.1⟩, q.1.2.2⟩, q.2⟩))
  exact (hi t 0 _ (by omega) (by omega) (by omega)).trans (hv q.1 q.2)
abbrev Wstg (T : TT) (z k : Int) (T1 : TT) : Prop := Wq (0 ≤ z ∧ z < T 0 0 8) (T 11 z.toNat 3) T k T1
abbrev Wlat (T : TT) (z k : Int) (T1 : TT) : Prop := Wq (0 ≤ z ∧ z < T 0 0 8) (T 11 z.toNat 5 + T 11 z.toNat 6) T k T1
abbrev Wmon (T : TT) (z k : Int) (T1 : TT) : Prop := Wq (0 ≤ z ∧ z < T 0 0 8) (T 11 z.toNat 8) T k T1
abbrev Wmad (T : TT) (z k : Int) (T1 : TT) : Prop := Wq (0 ≤ z ∧ z < T 0 0 8) (T 11 z.toNat 9) T k T1
abbrev Wowe (T : TT) (z w k : Int) (T1 : TT) : Prop := Wq (0 ≤ z ∧ z < 5 ∧ 0 ≤ w ∧ w < 5) (T 9 z.toNat w.toNat - T 9 w.toNat z.toNat) T k T1
abbrev Wlos (T : TT) (z k : Int) (T1 : TT) : Prop := Wq (0 ≤ z ∧ z < 5) (T 3 0 z.toNat) T k T1
theorem op_owe {ks : KK} {ad : AD} {T : TT} {P : PP} (h : IV ks ad T P) {z w k r : Int} {T1 T2 : TT} (hw : Wowe T z w k T1)
    (hm : ((z < 0 ∨ 5 ≤ z ∨ w < 0 ∨ 5 ≤ w) ∧ T2 = up T1 12 0 0 1) ∨ ((0 ≤ z ∧ z < 5 ∧ 0 ≤ w ∧ w < 5 ∧ r = T1 41 0 (5 * z + w).toNat - T1 41 0 (5 * w + z).toNat) ∧ T2 = up T1 12 0 0 0)) : T2 12 0 0 = k ∧ (k = 0 → r = T2 43 0 0) ∧ IV ks ad T2 P := by
  have hi := hw.hi
  refine op_q h hw (A := z < 0 ∨ 5 ≤ z ∨ w < 0 ∨ 5 ≤ w) (B := 0 ≤ z ∧ z < 5 ∧ 0 ≤ w ∧ w < 5) (v2 := T1 41 0 (5 * z + w).toNat - T1 41 0 (5 * w + z).toNat) (fun q => by omega) (fun q => q) (fun q => ?_) (hm.imp id (fun q => ⟨⟨⟨q.1.1, q.1.2.1, q.1.2.2.1, q.1.2.2.2.1⟩, q.1.2.2.2.2⟩, q.2⟩))
  have g := h.2.2.2.2.2.2.2.2.1
  rw [hi 41 0 _ (by omega) (by omega) (by omega), hi 41 0 _ (by omega) (by omega) (by omega), show (5 * z + w).toNat = 5 * z.toNat + w.toNat by omega, show (5 * w + z).toNat = 5 * w.toNat + z.toNat by omega, g _ _ (by omega) (by omega), g _ _ (by omega) (by omega)]
theorem op_los {ks : KK} {ad : AD} {T : TT} {P : PP} (h : IV ks ad T P) {z k r : Int} {T1 T2 : TT} (hw : Wlos T z k T1)
    (hm : ((z < 0 ∨ 5 ≤ z) ∧ T2 = up T1 12 0 0 1) ∨ ((0 ≤ z ∧ z < 5 ∧ r = T1 42 0 z.toNat) ∧ T2 = up T1 12 0 0 0)) : T2 12 0 0 = k ∧ (k = 0 → r = T2 43 0 0) ∧ IV ks ad T2 P := by
  have hi := hw.hi
  refine op_q h hw (A := z < 0 ∨ 5 ≤ z) (B := 0 ≤ z ∧ z < 5) (v2 := T1 42 0 z.toNat) (fun q => by omega) (fun q => q) (fun q => ?_) (hm.imp id (fun q => ⟨⟨⟨q.1.1, q.1.2.1⟩, q.1.2.2⟩, q.2⟩))
  rw [hi 42 0 _ (by omega) (by omega) (by omega)]
  exact h.2.2.2.2.2.2.2.2.2 _ (by omega)
theorem op_stg {ks : KK} {ad : AD} {T : TT} {P : PP} (h : IV ks ad T P) {z k r : Int} {T1 T2 : TT} (hw : Wstg T z k T1)
    (hm : ((z < 0 ∨ T1 12 0 10 ≤ z) ∧ T2 = up T1 12 0 0 1) ∨ ((0 ≤ z ∧ z < T1 12 0 10 ∧ r = T1 33 0 z.toNat) ∧ T2 = up T1 12 0 0 0)) : T2 12 0 0 = k ∧ (k = 0 → r = T2 43 0 0) ∧ IV ks ad T2 P :=
  op_ord h (by decide) hw (fun a b => (h.2.2.2.2.2.2.1 z.toNat (by omega)).2.2.1) hm
theorem op_lat {ks : KK} {ad : AD} {T : TT} {P : PP} (h : IV ks ad T P) {z k r : Int} {T1 T2 : TT} (hw : Wlat T z k T1)
    (hm : ((z < 0 ∨ T1 12 0 10 ≤ z) ∧ T2 = up T1 12 0 0 1) ∨ ((0 ≤ z ∧ z < T1 12 0 10 ∧ r = T1 37 0 z.toNat) ∧ T2 = up T1 12 0 0 0)) : T2 12 0 0 = k ∧ (k = 0 → r = T2 43 0 0) ∧ IV ks ad T2 P :=
  op_ord h (by decide) hw (fun a b => (h.2.2.2.2.2.2.1 z.toNat (by omega)).2.2.2.2.2.1) hm
theorem op_mon {ks : KK} {ad : AD} {T : TT} {P : PP} (h : IV ks ad T P) {z k r : Int} {T1 T2 : TT} (hw : Wmon T z k T1)
    (hm : ((z < 0 ∨ T1 12 0 10 ≤ z) ∧ T2 = up T1 12 0 0 1) ∨ ((0 ≤ z ∧ z < T1 12 0 10 ∧ r = T1 39 0 z.toNat) ∧ T2 = up T1 12 0 0 0)) : T2 12 0 0 = k ∧ (k = 0 → r = T2 43 0 0) ∧ IV ks ad T2 P :=
  op_ord h (by decide) hw (fun a b => (h.2.2.2.2.2.2.1 z.toNat (by omega)).2.2.2.2.2.2.2.1) hm
theorem op_mad {ks : KK} {ad : AD} {T : TT} {P : PP} (h : IV ks ad T P) {z k r : Int} {T1 T2 : TT} (hw : Wmad T z k T1)
    (hm : ((z < 0 ∨ T1 12 0 10 ≤ z) ∧ T2 = up T1 12 0 0 1) ∨ ((0 ≤ z ∧ z < T1 12 0 10 ∧ r = T1 40 0 z.toNat) ∧ T2 = up T1 12 0 0 0)) : T2 12 0 0 = k ∧ (k = 0 → r = T2 43 0 0) ∧ IV ks ad T2 P :=
  op_ord h (by decide) hw (fun a b => (h.2.2.2.2.2.2.1 z.toNat (by omega)).2.2.2.2.2.2.2.2.1) hm
def Wdue (T : TT) (z k : Int) (T1 : TT) : Prop := (k = 1 ∧ (z < 0 ∨ T 0 0 8 ≤ z) ∧ T1 = T) ∨ (k = 2 ∧ (0 ≤ z ∧ z < T 0 0 8 ∧ T 11 z.toNat 3 = 3) ∧ T1 = T) ∨ (k = 0 ∧ (0 ≤ z ∧ z < T 0 0 8 ∧ T 11 z.toNat 3 ≠ 3) ∧ T1 = up T 43 0 0 (dueT T z.toNat))
theorem Wdue.hi {T T1 : TT} {z k : Int} (h : Wdue T z k T1) : HiE T1 T := by
  rcases h with ⟨-, -, rfl⟩ | ⟨-, -, rfl⟩ | ⟨-, -, rfl⟩
  · exact HiE.r
  · exact HiE.r
  · exact HiE.r.ou
theorem mdue_hi {M M' : TT} (h : HiE M' M) (z : Int) : mdue M' z = mdue M z := by
  unfold mdue
  rw [h 34 0 _ (by omega) (by omega) (by omega), h 33 0 _ (by omega) (by omega) (by omega)]
theorem mdue_eq {C M : TT} (h : Rel C M) {z : Int} (h0 : 0 ≤ z) (h1 : z < C 0 0 8) : mdue M z = dueT C z.toNat := by
  have e := h.2.2.2.2.1 z.toNat (by omega)
  unfold mdue dueT
  rw [e.2.2.2.1, e.2.2.1]
theorem op_due {ks : KK} {ad : AD} {T : TT} {P : PP} (h : IV ks ad T P) {z k r : Int} {T1 T2 : TT} (hw : Wdue T z k T1)
    (hm : ((z < 0 ∨ T1 12 0 10 ≤ z) ∧ T2 = up T1 12 0 0 1) ∨ ((0 ≤ z ∧ z < T1 12 0 10 ∧ T1 33 0 z.toNat = 3) ∧ T2 = up T1 12 0 0 2) ∨ ((0 ≤ z ∧ z < T1 12 0 10 ∧ T1 33 0 z.toNat ≠ 3 ∧ r = mdue T1 z) ∧ T2 = up T1 12 0 0 0)) : T2 12 0 0 = k ∧ (k = 0 → r = T2 43 0 0) ∧ IV ks ad T2 P := by
  have hi := hw.hi
  have e1 : T1 12 0 10 = T 0 0 8 := (hi 12 0 10 (by omega) (by omega) (by omega)).trans h.2.2.1.2.2.2
  rw [e1] at hm
  have hq : 0 ≤ z → z < T 0 0 8 → T1 33 0 z.toNat = T 11 z.toNat 3 := fun a b => (hi 33 0 _ (by omega) (by omega) (by omega)).trans (h.2.2.2.2.2.2.1 z.toNat (by omega)).2.2.1
  rcases hw with ⟨rfl, c, rfl⟩ | ⟨rfl, c, rfl⟩ | ⟨rfl, c, hT1⟩
  · rcases hm with ⟨m, rfl⟩ | ⟨m, rfl⟩ | ⟨m, rfl⟩
    · exact ⟨rfl, fun q => by omega, h.th⟩
    · omega
    · omega
  · have hq := hq c.1 c.2.1
    rcases hm with ⟨m, rfl⟩ | ⟨m, rfl⟩ | ⟨m, rfl⟩
    · omega
    · exact ⟨rfl, fun q => by omega, h.th⟩
    · omega
  · have hq := hq c.1 c.2.1
    rcases hm with ⟨m, rfl⟩ | ⟨m, rfl⟩ | ⟨m, rfl⟩
    · omega
    · omega
    · refine ⟨rfl, fun _ => ?_, ?_⟩
      · rw [m.2.2.2, mdue_hi hi, mdue_eq h.2.2 c.1 c.2.1, hT1]
        rfl
      · rw [hT1]
        exact h.ou.th
/-! pay -/
def morT (T : TT) (z w : Int) : Int := thF w (valT T (T 10 z.toNat 0).toNat (T 0 0 5))
def Wpay (T : TT) (z w k : Int) (T1 : TT) : Prop := (k = 1 ∧ (z < 0 ∨ T 0 0 7 ≤ z) ∧ T1 = T) ∨ (k = 2 ∧ (0 ≤ z ∧ z < T 0 0 7 ∧ (w < 1 ∨ 1000000 < w)) ∧ T1 = T) ∨ (k = 3 ∧ (0 ≤ z ∧ z < T 0 0 7 ∧ 1 ≤ w ∧ w ≤ 1000000 ∧ (T 10 z.toNat 2 ≠ 0 ∨ 100000000 < T 10 z.toNat 1 + morT T z w)) ∧ T1 = T) ∨ (k = 0 ∧ (0 ≤ z ∧ z < T 0 0 7 ∧ 1 ≤ w ∧ w ≤ 1000000 ∧ T 10 z.toNat 2 = 0 ∧ T 10 z.toNat 1 + morT T z w ≤ 100000000) ∧ T1 = up (up T 10 z.toNat 1 (T 10 z.toNat 1 + morT T z w)) 43 0 0 (morT T z w))
theorem Wpay.hi {T T1 : TT} {z w k : Int} (h : Wpay T z w k T1) : HiE T1 T := by
  rcases h with ⟨-, -, rfl⟩ | ⟨-, -, rfl⟩ | ⟨-, -, rfl⟩ | ⟨-, -, rfl⟩
  · exact HiE.r
  · exact HiE.r
  · exact HiE.r
  · exact (HiE.r.lo (by decide)).ou
theorem op_pay {ks : KK} {ad : AD} {T : TT} {P : PP} (h : IV ks ad T P) {z w k r : Int} {T1 T2 : TT} (hw : Wpay T z w k T1)
    (hm : ((z < 0 ∨ T1 12 0 6 ≤ z) ∧ T2 = up T1 12 0 0 1) ∨ ((0 ≤ z ∧ z < T1 12 0 6 ∧ (w < 1 ∨ 1000000 < w)) ∧ T2 = up T1 12 0 0 2) ∨ ((0 ≤ z ∧ z < T1 12 0 6 ∧ 1 ≤ w ∧ w ≤ 1000000 ∧ (T1 29 0 z.toNat ≠ 0 ∨ 100000000 < T1 28 0 z.toNat + thF w (mpr T1 (T1 27 0 z.toNat) (T1 12 0 1)))) ∧ T2 = up (up T1 12 0 0 0) 12 0 0 3) ∨
      ((0 ≤ z ∧ z < T1 12 0 6 ∧ 1 ≤ w ∧ w ≤ 1000000 ∧ T1 29 0 z.toNat = 0 ∧ T1 28 0 z.toNat + thF w (mpr T1 (T1 27 0 z.toNat) (T1 12 0 1)) ≤ 100000000 ∧ r = thF w (mpr T1 (T1 27 0 z.toNat) (T1 12 0 1))) ∧ T2 = up (up (up T1 12 0 0 0) 12 0 0 0) 28 0 z.toNat (T1 28 0 z.toNat + thF w (mpr T1 (T1 27 0 z.toNat) (T1 12 0 1))))) : T2 12 0 0 = k ∧ (k = 0 → r = T2 43 0 0) ∧ IV ks ad T2 P := by
  have hi := hw.hi
  have e1 : T1 12 0 1 = T 0 0 5 := (hi 12 0 1 (by omega) (by omega) (by omega)).trans h.2.2.1.1
  have e6 : T1 12 0 6 = T 0 0 7 := (hi 12 0 6 (by omega) (by omega) (by omega)).trans h.2.2.1.2.2.1
  rw [e6] at hm
  by_cases hz : 0 ≤ z ∧ z < T 0 0 7
  · have hc := h.2.2.2.2.1 z.toNat (by omega)
    have hs := h.2.1.2.2.1 z.toNat (by omega)
    have hd := h.2.1.2.1
    have g27 : T1 27 0 z.toNat = T 10 z.toNat 0 := (hi 27 0 _ (by omega) (by omega) (by omega)).trans hc.1
    have g28 : T1 28 0 z.toNat = T 10 z.toNat 1 := (hi 28 0 _ (by omega) (by omega) (by omega)).trans hc.2.1
    have g29 : T1 29 0 z.toNat = T 10 z.toNat 2 := (hi 29 0 _ (by omega) (by omega) (by omega)).trans hc.2.2
    have gm : thF w (mpr T1 (T 10 z.toNat 0) (T 0 0 5)) = morT T z w := by
      unfold morT
      rw [mpr_hi hi]
      have := (h.2.2.2.1 (T 10 z.toNat 0).toNat (by omega)).2.2 (T 0 0 5) hd.1 (Int.le_refl _)
      rw [show (((T 10 z.toNat 0).toNat : Nat) : Int) = T 10 z.toNat 0 by omega] at this
      rw [this]
    rw [e1, g27, g28, g29, gm] at hm
    rcases hw with ⟨rfl, c, rfl⟩ | ⟨rfl, c, rfl⟩ | ⟨rfl, c, rfl⟩ | ⟨rfl, c, hT1⟩
    · omega
    · rcases hm with ⟨m, rfl⟩ | ⟨m, rfl⟩ | ⟨m, rfl⟩ | ⟨m, rfl⟩
      · omega
      · exact ⟨rfl, fun q => by omega, h.th⟩
      · omega
      · omega
    · rcases hm with ⟨m, rfl⟩ | ⟨m, rfl⟩ | ⟨m, rfl⟩ | ⟨m, rfl⟩
      · omega
      · omega
      · exact ⟨rfl, fun q => by omega, h.th.th⟩
      · omega
    · rcases hm with ⟨m, rfl⟩ | ⟨m, rfl⟩ | ⟨m, rfl⟩ | ⟨m, hT2⟩
      · omega
      · omega
      · omega
      · have hmn : 0 ≤ morT T z w := by
          unfold morT
          exact thF_nn (by omega) (by have := valT_in h.2.1.1 (p := (T 10 z.toNat 0).toNat) (by omega) (T 0 0 5); omega)
        have hlo : LoE T2 (up T 10 z.toNat 1 (T 10 z.toNat 1 + morT T z w)) := by
          rw [hT2, hT1]
          exact (((LoE.r.hi (by decide)).hi (by decide)).hi (by decide)).hi (by decide)
        have hhi : HiE T2 (up T 28 0 z.toNat (T 10 z.toNat 1 + morT T z w)) := by
          rw [hT2, hT1]
          exact (HiE.r.lo (by decide)).ou.th.th.hup rfl rfl
        obtain ⟨hK, ⟨n1, n2, n3, n4, n5, n6, n7⟩, hR⟩ := h
        refine ⟨?_, fun _ => ?_, ?_, ?_, ?_⟩
        · rw [hT2, up_of (by omega), up_at rfl]
        · rw [hT2, up_of (by omega), up_of (by omega), up_of (by omega), hT1, up_at rfl]
          exact m.2.2.2.2.2.2
        · exact hK.congr (by rw [hlo 0 0 (by omega)]; rfl) (by rw [hlo 0 0 (by omega)]; rfl) (fun k => by rw [hlo 11 k (by omega)]; rfl)
        · refine CN.congr hlo ⟨n1, n2, ?_, n4, n5, ?_, n7⟩
          · intro i hi
            by_cases e : i = z.toNat
            · subst e
              have := n3 z.toNat hi
              rw [up_of (by omega), up_at rfl, up_of (by omega)]
              omega
            · rw [up_ne (fun q => e q.2)]
              exact n3 i hi
          · intro k hk h3
            have := n6 k hk h3
            show T 11 k 1 = up T 10 z.toNat 1 _ 10 (mvT T k) 0 ∧ up T 10 z.toNat 1 _ 10 (mvT T k) 2 = 1 ∧ T 11 k 6 = 0
            rw [up_of (by omega), up_of (by omega)]
            exact this
        · refine Rel.congr hlo hhi ?_
          obtain ⟨b, c5, c6, c6b, c7, c8, c9, c10⟩ := hR
          refine ⟨b, fun p hp => ⟨(c5 p hp).1, (c5 p hp).2.1, fun d h1 h2 => ?_⟩, fun i hi => ?_, c6b, c7, c8, c9, c10⟩
          · rw [valT_up (by decide)]
            exact (c5 p hp).2.2 d h1 h2
          · have q := c6 i hi
            refine ⟨?_, ?_, ?_⟩
            · rw [up_of (by omega), up_of (by omega)]
              exact q.1
            · by_cases e : i = z.toNat
              · rw [e, up_at rfl, up_at rfl]
              · rw [up_of (fun w => e w.2.2), up_of (fun w => e w.2.1)]
                exact q.2.1
            · rw [up_of (by omega), up_of (by omega)]
              exact q.2.2
  · rcases hw with ⟨rfl, c, rfl⟩ | ⟨rfl, c, rfl⟩ | ⟨rfl, c, rfl⟩ | ⟨rfl, c, hT1⟩
    · rcases hm with ⟨m, rfl⟩ | ⟨m, rfl⟩ | ⟨m, rfl⟩ | ⟨m, rfl⟩
      · exact ⟨rfl, fun q => by omega, h.th⟩
      · omega
      · omega
      · omega
    · omega
    · omega
    · omega
