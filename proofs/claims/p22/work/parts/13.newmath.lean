theorem FI_new {ks : KK} {ad : AD} {P : PP} {t i q : Nat} (ht : 6 ≤ t) (h : FI ks ad P) : FI (ks ++ [(t, i)]) (upA ad t i q) (zrP P t i) := by
  obtain ⟨h0, h1, h2, h3, h4, h5, p0, p1, p2, p3, p4⟩ := h
  refine ⟨List.mem_append_left _ h0, List.mem_append_left _ h1, List.mem_append_left _ h2, List.mem_append_left _ h3, List.mem_append_left _ h4, List.mem_append_left _ h5, ?_, ?_, ?_, ?_, ?_⟩ <;> rw [zrP_ne (fun h => by have := h.1; omega), upA_ne (fun h => by have := h.1; omega)] <;> assumption
theorem RK_new {ks : KK} {ad : AD} {P : PP} {t i q : Nat} (ht : 10 ≤ t) (h : RK ks ad P) : RK (ks ++ [(t, i)]) (upA ad t i q) (zrP P t i) := by
  intro p hp
  obtain ⟨h6, h7, h8, h9, p1, p2, p3, p4⟩ := h p hp
  refine ⟨List.mem_append_left _ h6, List.mem_append_left _ h7, List.mem_append_left _ h8, List.mem_append_left _ h9, ?_, ?_, ?_, ?_⟩ <;> rw [zrP_ne (fun h => by have := h.1; omega), upA_ne (fun h => by have := h.1; omega)] <;> assumption
theorem RN_congr {T T' : TT} (h6 : ∀ p, T' 6 p = T 6 p) (h7 : ∀ p, T' 7 p = T 7 p) (h8 : ∀ p, T' 8 p = T 8 p) (h : RN T) : RN T' := by
  intro p hp
  rw [h6, h7, h8]
  exact h p hp
theorem RN_zr {T : TT} {t i : Nat} (ht : 10 ≤ t) (h : RN T) : RN (zrT T t i) := RN_congr (fun p => zrT_ne (fun q => by have := q.1; omega)) (fun p => zrT_ne (fun q => by have := q.1; omega)) (fun p => zrT_ne (fun q => by have := q.1; omega)) h
theorem valT_zr {T : TT} {t i : Nat} (ht : 10 ≤ t) (p : Nat) (d : Int) : valT (zrT T t i) p d = valT T p d :=
  valT_congr (zrT_ne (fun q => by have := q.1; omega)) (zrT_ne (fun q => by have := q.1; omega)) (zrT_ne (fun q => by have := q.1; omega)) d
def oriT (T : TT) (k : Nat) (sv h to d : Int) : TT := up (up (up (up (up (up (up (up (up (up T 11 k 3 0) 11 k 5 0) 11 k 6 0) 11 k 7 0) 11 k 8 0) 11 k 9 0) 11 k 0 sv) 11 k 1 h) 11 k 2 to) 11 k 4 d
def begT (T : TT) (z v : Int) : TT := up (up (up (up (zrT T 10 (T 0 0 7).toNat) 10 (T 0 0 7).toNat 2 0) 10 (T 0 0 7).toNat 0 z) 10 (T 0 0 7).toNat 1 (thF v (valT T z.toNat (T 0 0 5)))) 0 0 7 (T 0 0 7 + 1)
def ordT (T : TT) (z to : Int) : TT := up (up (oriT (zrT T 11 (T 0 0 8).toNat) (T 0 0 8).toNat z (T 10 z.toNat 0) to (T 0 0 5)) 0 0 8 (T 0 0 8 + 1)) 10 z.toNat 2 1
def mnP (P : PP) (r : Nat → Nat) : PP := fun a b c => if a = 2 ∧ b = 0 then (if c < 5 then some (r c) else none) else P a b c
theorem mnP_row (P : PP) (r : Nat → Nat) : mnP P r 2 0 = fun c => if c < 5 then some (r c) else none := by
  funext c
  simp [mnP]
theorem mnP_ne {P : PP} {r : Nat → Nat} {a b : Nat} (h : ¬ (a = 2 ∧ b = 0)) : mnP P r a b = P a b := by
  funext c
  simp only [mnP]
  rw [if_neg h]
abbrev mnK (ks : KK) : KK := (((((ks ++ [(2, 0)]) ++ [(9, 0)]) ++ [(9, 1)]) ++ [(9, 2)]) ++ [(9, 3)]) ++ [(9, 4)]
abbrev mnA (ad : AD) (q : Nat) (r : Nat → Nat) : AD := upA (upA (upA (upA (upA (upA ad 2 0 q) 9 0 (r 0)) 9 1 (r 1)) 9 2 (r 2)) 9 3 (r 3)) 9 4 (r 4)
abbrev mnT (T : TT) : TT := zrT (zrT (zrT (zrT (zrT (zrT T 2 0) 9 0) 9 1) 9 2) 9 3) 9 4
abbrev mnQ (P : PP) (r : Nat → Nat) : PP := zrP (zrP (zrP (zrP (zrP (mnP P r) 9 0) 9 1) 9 2) 9 3) 9 4
section YM
variable {p : Program} {l : Launch} {e : Env} {R : Room} {s : State} {m : MethodId} {args : Array Value} {below : List Frame} {meth : Method} {c : Code} {H : Heap} {locs : List Loc} {cells slots : Nat} {Q : State → Prop}
variable {cc : ByteArray} {nL : Nat} {Ts : List Cond} {own : String} {pc : Nat} {ls : Array Slot} {rest : List Value}
variable {G : GG} {b0 : Nat} {ks : KK} {ad : AD} {T : TT} {P : PP}
theorem y_mna (hM : CallFix p m c cc nL s args Ts own) (hC : Cur G b0 (ks, ad, T, P) s H locs) {index : Nat} (h2 : (2, 0) ∉ ks) (h9 : ∀ i : Nat, (9, i) ∉ ks) (hw : Cond.classLink own index "[[J" ∈ Ts ∧ Cond.arrayClass .long ∈ Ts) (hR : cells + (1 + 5) ≤ R.cells ∧ slots + (5 + 5 * 5) ≤ R.slots) (hdg : decode cc pc = .ok (.multianewarray index 2, 4))
    (kk : ∀ (q : Nat) (r : Nat → Nat) (H1 : Heap), Cur G b0 (mnK ks, mnA ad q r, mnT T, mnQ P r) s H1 locs → W p l e R s m args below meth c H1 locs (cells + 1 + 5) (slots + 5 + 5 * 5) Q (F0 m (pc + 4) ls (.ref q :: rest))) : W p l e R s m args below meth c H locs cells slots Q (F0 m pc ls (.int (iI 5) :: .int (iI 5) :: rest)) := by
  obtain ⟨q1, q2, q3, q4, q5⟩ := hC
  have hi : inI 5 := ⟨by omega, by omega⟩
  have h5 : ¬ iI 5 < 0 := fun h => by have := (iI_lt hi ⟨by omega, by omega⟩ (b := 0)).mp h; omega
  have hcl : (iI 5).toNatClampNeg = 5 := iI_cl hi
  have e0 : "[" ++ (FieldType.array FieldType.long).toString = "[[J" := by decide +kernel
  have hl := hM.2.2.2.2 _ hw.1
  rw [← e0] at hl
  refine va_mna (X := WO G (ks, ad, T, P)) (L := []) (f := fun _ => .inr (0, [])) (ty := .long) (cy := G.2 2) (z := (5, .inr (.inl (fun _ => 0)))) hM.1 hM.2.1 hM.2.2.2.1 hl q3.2.2.2.2.2.2.2 (hM.2.2.2.2 _ hw.2) (q2.2 2 (G.2 2, .long) rfl).2 q2 (by simpa [va_pl] using q4.1) (by simpa [va_pl] using q4.2) q5 (fun q h => Nat.le_trans q1 h) h5 h5 hcl hcl (by decide) (by decide) (by decide) rfl rfl hR.1 hR.2 (fun c9 => arrV_new c9 5 (.long 0)) hdg (fun q r cA H1 hinj hnl hK1 hP1 hD1 hS1 => ?_)
  have h1 : s.vm.findClass ("[" ++ (FieldType.array FieldType.long).toString) = some cA := (hK1.2 6 (cA, .array .long) rfl).2
  have h2' : s.vm.findClass ("[" ++ (FieldType.array FieldType.long).toString) = some (G.2 1) := (q2.2 1 (G.2 1, .array .long) rfl).2
  have h3 : cA = G.2 1 := Option.some.inj (h1.symm.trans h2')
  subst h3
  generalize he9 : (Sum.inl (G.2 2, ((5, .inr (.inl (fun _ => 0))) : vp_A)) : va_E) = e9 at hP1 hD1
  have hpl : va_pl ([] ++ (List.range 5).map r) (vr_up (fun _ => .inr (0, [])) ((List.range 5).map r) e9) = [(r 0, e9), (r 1, e9), (r 2, e9), (r 3, e9), (r 4, e9)] := by
    have : ∀ a, a ∈ (List.range 5).map r → ((a, vr_up (fun _ => (.inr (0, []) : va_E)) ((List.range 5).map r) e9 a) : Nat × va_E) = (a, e9) := fun a h => by rw [vr_up_in h]
    unfold va_pl
    rw [List.nil_append, List.map_congr_left this]
    rfl
  rw [hpl] at hP1 hD1
  have hap : ∀ X : va_W, X ++ [(r 0, e9), (r 1, e9), (r 2, e9), (r 3, e9), (r 4, e9)] = ((((X ++ [(r 0, e9)]) ++ [(r 1, e9)]) ++ [(r 2, e9)]) ++ [(r 3, e9)]) ++ [(r 4, e9)] := fun X => by simp
  rw [hap] at hP1 hD1
  have k9 : ∀ (K : KK) (j : Nat), (∀ x ∈ K, x ∈ ks ∨ x = (2, 0) ∨ ∃ i, i < j ∧ x = (9, i)) → (9, j) ∉ K := by
    intro K j hK hm
    rcases hK _ hm with h | h | ⟨i, hi, h⟩
    · exact h9 j h
    · cases h
    · cases h
      omega
  rw [WO_push h2 (T' := zrT T 2 0) (P' := mnP P r) (by rw [mnP_row]; rfl) (fun a b h => zrT_ne (zr_in h2 h)) (fun a b h => mnP_ne (zr_in h2 h))] at hP1 hD1
  have f0 : (9, 0) ∉ ks ++ [(2, 0)] := fun h => by
    rcases List.mem_append.mp h with h | h
    · exact h9 0 h
    · simp at h
  rw [WO_push f0 (T' := zrT (zrT T 2 0) 9 0) (P' := zrP (mnP P r) 9 0) (cF_zr (by rw [← he9]; rfl)) (fun a b h => zrT_ne (zr_in f0 h)) (fun a b h => zrP_ne (zr_in f0 h))] at hP1 hD1
  have f1 : (9, 1) ∉ (ks ++ [(2, 0)]) ++ [(9, 0)] := fun h => by
    rcases List.mem_append.mp h with h | h
    · rcases List.mem_append.mp h with h | h
      · exact h9 1 h
      · simp at h
    · simp at h
  rw [WO_push f1 (T' := zrT (zrT (zrT T 2 0) 9 0) 9 1) (P' := zrP (zrP (mnP P r) 9 0) 9 1) (cF_zr (by rw [← he9]; rfl)) (fun a b h => zrT_ne (zr_in f1 h)) (fun a b h => zrP_ne (zr_in f1 h))] at hP1 hD1
  have f2 : (9, 2) ∉ ((ks ++ [(2, 0)]) ++ [(9, 0)]) ++ [(9, 1)] := fun h => by
    simp only [List.mem_append, List.mem_singleton, Prod.mk.injEq] at h
    have := h9 2
    simp_all
  rw [WO_push f2 (T' := zrT (zrT (zrT (zrT T 2 0) 9 0) 9 1) 9 2) (P' := zrP (zrP (zrP (mnP P r) 9 0) 9 1) 9 2) (cF_zr (by rw [← he9]; rfl)) (fun a b h => zrT_ne (zr_in f2 h)) (fun a b h => zrP_ne (zr_in f2 h))] at hP1 hD1
  have f3 : (9, 3) ∉ (((ks ++ [(2, 0)]) ++ [(9, 0)]) ++ [(9, 1)]) ++ [(9, 2)] := fun h => by
    simp only [List.mem_append, List.mem_singleton, Prod.mk.injEq] at h
    have := h9 3
    simp_all
  rw [WO_push f3 (T' := zrT (zrT (zrT (zrT (zrT T 2 0) 9 0) 9 1) 9 2) 9 3) (P' := zrP (zrP (zrP (zrP (mnP P r) 9 0) 9 1) 9 2) 9 3) (cF_zr (by rw [← he9]; rfl)) (fun a b h => zrT_ne (zr_in f3 h)) (fun a b h => zrP_ne (zr_in f3 h))] at hP1 hD1
  have f4 : (9, 4) ∉ ((((ks ++ [(2, 0)]) ++ [(9, 0)]) ++ [(9, 1)]) ++ [(9, 2)]) ++ [(9, 3)] := fun h => by
    simp only [List.mem_append, List.mem_singleton, Prod.mk.injEq] at h
    have := h9 4
    simp_all
  rw [WO_push f4 (T' := mnT T) (P' := mnQ P r) (cF_zr (by rw [← he9]; rfl)) (fun a b h => zrT_ne (zr_in f4 h)) (fun a b h => zrP_ne (zr_in f4 h))] at hP1 hD1
  exact kk q r H1 ⟨q1, q2, q3, ⟨hP1, hD1⟩, hS1⟩
end YM
