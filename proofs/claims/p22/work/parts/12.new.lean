def zrT (T : TT) (t i : Nat) : TT := fun a b c => if a = t ∧ b = i then 0 else T a b c
def zrP (P : PP) (t i : Nat) : PP := fun a b c => if a = t ∧ b = i then none else P a b c
theorem zrT_row (T : TT) (t i : Nat) : zrT T t i t i = fun _ => 0 := by
  funext c
  simp [zrT]
theorem zrP_row (P : PP) (t i : Nat) : zrP P t i t i = fun _ => none := by
  funext c
  simp [zrP]
theorem zrT_ne {T : TT} {t i a b : Nat} (h : ¬ (a = t ∧ b = i)) : zrT T t i a b = T a b := by
  funext c
  simp only [zrT]
  rw [if_neg h]
theorem zrP_ne {P : PP} {t i a b : Nat} (h : ¬ (a = t ∧ b = i)) : zrP P t i a b = P a b := by
  funext c
  simp only [zrP]
  rw [if_neg h]
theorem cF_zr {cy : Nat → ClassId} {t i : Nat} {e : va_E} {T : TT} {P : PP} (h : e = cF cy t (fun _ => 0) (fun _ => none)) : e = cF cy t (zrT T t i t i) (zrP P t i t i) := by
  rw [zrT_row, zrP_row]
  exact h
theorem zr_in {ks : KK} {t i a b : Nat} (hk : (t, i) ∉ ks) (h : (a, b) ∈ ks) : ¬ (a = t ∧ b = i) := fun ⟨h1, h2⟩ => hk (by rw [← h1, ← h2]; exact h)
section YN
variable {p : Program} {l : Launch} {e : Env} {R : Room} {s : State} {m : MethodId} {args : Array Value} {below : List Frame} {meth : Method} {c : Code} {H : Heap} {locs : List Loc} {cells slots : Nat} {Q : State → Prop}
variable {cc : ByteArray} {nL : Nat} {Ts : List Cond} {own : String} {pc : Nat} {ls : Array Slot} {rest : List Value}
variable {G : GG} {b0 : Nat} {ks : KK} {ad : AD} {T : TT} {P : PP}
theorem y_new (hM : CallFix p m c cc nL s args Ts own) (hC : Cur G b0 (ks, ad, T, P) s H locs) {t i ci index N : Nat} {C : String} {Tc : u_T} (hk : (t, i) ∉ ks) (hc : vwCl[ci]? = some (C, Tc, N)) (hin : ∀ w ∈ u_ws C Tc N, w ∈ Ts) (ty : Nat → FieldType) (hty : ∀ k, k < N → parseFieldDescriptor (Tc k).2.2.1 = some (ty k)) (hw : Cond.classLink own index C ∈ Ts ∧ Cond.instantiable C N ∈ Ts ∧ Cond.initialized C ∈ Ts) {fs : List Value} (hfs : ∀ j, j < N → defaultValue (ty j) = vp_V fs j) (he : .inr (ci, fs) = cF G.2 t (fun _ => 0) (fun _ => none)) (hR : cells + 1 ≤ R.cells ∧ slots + N ≤ R.slots) (hdg : decode cc pc = .ok (.new index, 3))
    (kk : ∀ (q : Nat) (H1 : Heap), Cur G b0 (ks ++ [(t, i)], upA ad t i q, zrT T t i, zrP P t i) s H1 locs → W p l e R s m args below meth c H1 locs (cells + 1) (slots + N) Q (F0 m (pc + 3) ls (.ref (upA ad t i q t i) :: rest))) : W p l e R s m args below meth c H locs cells slots Q (F0 m pc ls rest) := by
  obtain ⟨q1, q2, q3, q4, q5⟩ := hC
  refine va_new hM.1 hM.2.1 hM.2.2.2.2 hin ty hty hM.2.2.2.1 (hM.2.2.2.2 _ hw.1) (hM.2.2.2.2 _ hw.2.1) (hM.2.2.2.2 _ hw.2.2) q2 q4.1 q4.2 q5 (fun q h => Nat.le_trans q1 h) hc hfs hR.1 hR.2 hdg (fun q H1 hP1 hD1 hS1 => ?_)
  rw [WO_push hk (cF_zr he) (fun a b h => zrT_ne (zr_in hk h)) (fun a b h => zrP_ne (zr_in hk h))] at hP1 hD1
  have h := kk q H1 ⟨q1, q2, q3, ⟨hP1, hD1⟩, hS1⟩
  rw [upA_s] at h
  exact h
theorem y_newI (hM : CallFix p m c cc nL s args Ts own) (hC : Cur G b0 (ks, ad, T, P) s H locs) {t i n : Nat} (hk : (t, i) ∉ ks) (he : ∀ f g, cF G.2 t f g = eI (G.2 5) n f) (hn : n < 100000) (hw : Cond.arrayClass .int ∈ Ts) (hR : cells + 1 ≤ R.cells ∧ slots + n ≤ R.slots) (hdg : decode cc pc = .ok (.newarray .int, 2))
    (kk : ∀ (q : Nat) (H1 : Heap), Cur G b0 (ks ++ [(t, i)], upA ad t i q, zrT T t i, zrP P t i) s H1 locs → W p l e R s m args below meth c H1 locs (cells + 1) (slots + n) Q (F0 m (pc + 2) ls (.ref (upA ad t i q t i) :: rest))) : W p l e R s m args below meth c H locs cells slots Q (F0 m pc ls (.int (iI (n : Int)) :: rest)) := by
  obtain ⟨q1, q2, q3, q4, q5⟩ := hC
  have hi : inI (n : Int) := ⟨by omega, by omega⟩
  refine va_newa (atype := .int) (ty := .int) (a0 := (n, .inl (fun _ => 0))) hM.1 hM.2.1 (hM.2.2.2.2 _ hw) rfl q2 q4.1 q4.2 q5 (fun q h => Nat.le_trans q1 h) (fun _ => rfl) (fun h => by have := (iI_lt hi ⟨by omega, by omega⟩ (b := 0)).mp h; omega) (by rw [iI_cl hi]; exact Int.toNat_natCast n) (by show n * 4 ≤ _; omega) hR.1 hR.2 hdg (fun q cA H1 hK1 hP1 hD1 hS1 => ?_)
  have h1 : s.vm.findClass ("[" ++ FieldType.int.toString) = some cA := (hK1.2 6 (cA, .int) rfl).2
  have h2 : s.vm.findClass ("[" ++ FieldType.int.toString) = some (G.2 5) := (q2.2 5 (G.2 5, .int) rfl).2
  have h3 : cA = G.2 5 := Option.some.inj (h1.symm.trans h2)
  subst h3
  rw [WO_push hk (T' := zrT T t i) (P' := zrP P t i) (cF_zr (by rw [he]; rfl)) (fun a b h => zrT_ne (zr_in hk h)) (fun a b h => zrP_ne (zr_in hk h))] at hP1 hD1
  have h := kk q H1 ⟨q1, q2, q3, ⟨hP1, hD1⟩, hS1⟩
  rw [upA_s] at h
  exact h
theorem y_newJ (hM : CallFix p m c cc nL s args Ts own) (hC : Cur G b0 (ks, ad, T, P) s H locs) {t i n : Nat} (hk : (t, i) ∉ ks) (he : ∀ f g, cF G.2 t f g = eJ (G.2 2) n f) (hn : n < 100000) (hw : Cond.arrayClass .long ∈ Ts) (hR : cells + 1 ≤ R.cells ∧ slots + n ≤ R.slots) (hdg : decode cc pc = .ok (.newarray .long, 2))
    (kk : ∀ (q : Nat) (H1 : Heap), Cur G b0 (ks ++ [(t, i)], upA ad t i q, zrT T t i, zrP P t i) s H1 locs → W p l e R s m args below meth c H1 locs (cells + 1) (slots + n) Q (F0 m (pc + 2) ls (.ref (upA ad t i q t i) :: rest))) : W p l e R s m args below meth c H locs cells slots Q (F0 m pc ls (.int (iI (n : Int)) :: rest)) := by
  obtain ⟨q1, q2, q3, q4, q5⟩ := hC
  have hi : inI (n : Int) := ⟨by omega, by omega⟩
  refine va_newa (atype := .long) (ty := .long) (a0 := (n, .inr (.inl (fun _ => 0)))) hM.1 hM.2.1 (hM.2.2.2.2 _ hw) rfl q2 q4.1 q4.2 q5 (fun q h => Nat.le_trans q1 h) (fun _ => rfl) (fun h => by have := (iI_lt hi ⟨by omega, by omega⟩ (b := 0)).mp h; omega) (by rw [iI_cl hi]; exact Int.toNat_natCast n) (by show n * 8 ≤ _; omega) hR.1 hR.2 hdg (fun q cA H1 hK1 hP1 hD1 hS1 => ?_)
  have h1 : s.vm.findClass ("[" ++ FieldType.long.toString) = some cA := (hK1.2 6 (cA, .long) rfl).2
  have h2 : s.vm.findClass ("[" ++ FieldType.long.toString) = some (G.2 2) := (q2.2 2 (G.2 2, .long) rfl).2
  have h3 : cA = G.2 2 := Option.some.inj (h1.symm.trans h2)
  subst h3
  rw [WO_push hk (T' := zrT T t i) (P' := zrP P t i) (cF_zr (by rw [he]; rfl)) (fun a b h => zrT_ne (zr_in hk h)) (fun a b h => zrP_ne (zr_in hk h))] at hP1 hD1
  have h := kk q H1 ⟨q1, q2, q3, ⟨hP1, hD1⟩, hS1⟩
  rw [upA_s] at h
  exact h
theorem y_newQ (hM : CallFix p m c cc nL s args Ts own) (hC : Cur G b0 (ks, ad, T, P) s H locs) {t i n index : Nat} {C : String} {cA0 : ClassId} (t0 : Nat) (hk : (t, i) ∉ ks) (hCm : C ∈ [RX0, RX1, RX2]) (ht : (tyW G.2)[t0]? = some (cA0, .object C)) (he : ∀ f g, cF G.2 t f g = eQ cA0 n g) (hn : n < 100000) (hw : Cond.classLink own index C ∈ Ts) (hR : cells + 1 ≤ R.cells ∧ slots + n ≤ R.slots) (hdg : decode cc pc = .ok (.anewarray index, 3))
    (kk : ∀ (q : Nat) (H1 : Heap), Cur G b0 (ks ++ [(t, i)], upA ad t i q, zrT T t i, zrP P t i) s H1 locs → W p l e R s m args below meth c H1 locs (cells + 1) (slots + n) Q (F0 m (pc + 3) ls (.ref (upA ad t i q t i) :: rest))) : W p l e R s m args below meth c H locs cells slots Q (F0 m pc ls (.int (iI (n : Int)) :: rest)) := by
  obtain ⟨q1, q2, q3, q4, q5⟩ := hC
  have hi : inI (n : Int) := ⟨by omega, by omega⟩
  refine va_newq hM.1 hM.2.1 hM.2.2.2.1 (hM.2.2.2.2 _ hw) (q3.2.2.2.2.2.2.1 C hCm) q2 q4.1 q4.2 q5 (fun q h => Nat.le_trans q1 h) (fun h => by have := (iI_lt hi ⟨by omega, by omega⟩ (b := 0)).mp h; omega) (by rw [iI_cl hi]; exact Int.toNat_natCast n) (by omega) hR.1 hR.2 hdg (fun q cA H1 hK1 hP1 hD1 hS1 => ?_)
  obtain ⟨_, _, -, -, -, h1⟩ := (hK1.2 6 (cA, .object C) rfl).2
  obtain ⟨_, _, -, -, -, h2⟩ := (q2.2 t0 (cA0, .object C) ht).2
  have h3 : cA = cA0 := Option.some.inj (h1.symm.trans h2)
  subst h3
  rw [WO_push hk (T' := zrT T t i) (P' := zrP P t i) (cF_zr (by rw [he])) (fun a b h => zrT_ne (zr_in hk h)) (fun a b h => zrP_ne (zr_in hk h))] at hP1 hD1
  have h := kk q H1 ⟨q1, q2, q3, ⟨hP1, hD1⟩, hS1⟩
  rw [upA_s] at h
  exact h
theorem y_aast (hM : CallFix p m c cc nL s args Ts own) (hC : Cur G b0 (ks, ad, T, P) s H locs) {t i tv iv n ci : Nat} {cA : ClassId} {r : vw_C} {vs : List Value} (t0 : Nat) (hk : (t, i) ∈ ks) (hkv : (tv, iv) ∈ ks) (he : ∀ f g, cF G.2 t f g = eQ cA n g) (ht : (tyW G.2)[t0]? = some (cA, .object r.1)) (hev : cF G.2 tv (T tv iv) (P tv iv) = .inr (ci, vs)) (hc : vwCl[ci]? = some r) {z : Int} (hz : 0 ≤ z ∧ z < (n : Int)) (hn : n < 2147483648) (hdg : decode cc pc = .ok (.aastore, 1))
    (kk : ∀ (H1 : Heap) (locs1 : List Loc), Cur G b0 (ks, ad, T, upP P t i z.toNat (some (ad tv iv))) s H1 locs1 → W p l e R s m args below meth c H1 locs1 cells slots Q (F0 m (pc + 1) ls rest)) : W p l e R s m args below meth c H locs cells slots Q (F0 m pc ls (.ref (ad tv iv) :: .int (iI z) :: .ref (ad t i) :: rest)) := by
  obtain ⟨j, hj⟩ := List.getElem?_of_mem hk
  have he2 := WO_get (G := G) (ad := ad) (T := T) (P := P) hj
  rw [he] at he2
  obtain ⟨jv, hjv⟩ := List.getElem?_of_mem hkv
  have hev2 := WO_get (G := G) (ad := ad) (T := T) (P := P) hjv
  rw [hev] at hev2
  have hi : inI z := ⟨by omega, by omega⟩
  obtain ⟨q1, q2, q3, q4, q5⟩ := hC
  refine va_astq hM.1 hM.2.1 q2 q4.1 q4.2 q5 j t0 jv ci he2 ht hev2 hc (iI_in hz.1 hz.2 hn) hdg (fun H1 locs1 hP1 hD1 hS1 => ?_)
  rw [iI_cl hi] at hP1 hD1
  rw [WO_set q4.2 hj (T' := T) (P' := upP P t i z.toNat (some (ad tv iv))) (by
    rw [he, upP_row]
    rfl) (fun _ _ _ => rfl) (fun a b h => upP_ne h)] at hP1 hD1
  exact kk H1 locs1 ⟨q1, q2, q3, ⟨hP1, hD1⟩, hS1⟩
end YN
