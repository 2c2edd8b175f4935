/-! ===== whole numbers for ints and longs ===== -/
def iI (z : Int) : Int32 := Int32.ofInt z
def lI (z : Int) : Int64 := Int64.ofInt z
abbrev inI (z : Int) : Prop := -2147483648 ≤ z ∧ z < 2147483648
abbrev inJ (z : Int) : Prop := -9223372036854775808 ≤ z ∧ z < 9223372036854775808
theorem iI_T {z : Int} (h : inI z) : (iI z).toInt = z := Int32.toInt_ofInt_of_le (by have := h.1; omega) (by have := h.2; omega)
theorem lI_T {z : Int} (h : inJ z) : (lI z).toInt = z := Int64.toInt_ofInt_of_le (by have := h.1; omega) (by have := h.2; omega)
theorem iI_of (x : Int32) : x = iI x.toInt := (Int32.ofInt_toInt x).symm
theorem lI_of (x : Int64) : x = lI x.toInt := (Int64.ofInt_toInt x).symm
theorem inI_of (x : Int32) : inI x.toInt := ⟨by have := Int32.le_toInt x; omega, by have := Int32.toInt_lt x; omega⟩
theorem iI_add (a b : Int) : iI a + iI b = iI (a + b) := (Int32.ofInt_add a b).symm
theorem iI_sub (a b : Int) : iI a - iI b = iI (a - b) := (Int32.ofInt_sub a b).symm
theorem iI_mul (a b : Int) : iI a * iI b = iI (a * b) := (Int32.ofInt_mul a b).symm
theorem lI_add (a b : Int) : lI a + lI b = lI (a + b) := (Int64.ofInt_add a b).symm
theorem lI_sub (a b : Int) : lI a - lI b = lI (a - b) := (Int64.ofInt_sub a b).symm
theorem lI_mul (a b : Int) : lI a * lI b = lI (a * b) := (Int64.ofInt_mul a b).symm
theorem iI_le {a b : Int} (ha : inI a) (hb : inI b) : iI a ≤ iI b ↔ a ≤ b := by rw [Int32.le_iff_toInt_le, iI_T ha, iI_T hb]
theorem iI_lt {a b : Int} (ha : inI a) (hb : inI b) : iI a < iI b ↔ a < b := by rw [Int32.lt_iff_toInt_lt, iI_T ha, iI_T hb]
theorem iI_eq {a b : Int} (ha : inI a) (hb : inI b) : iI a = iI b ↔ a = b := by rw [← Int32.toInt_inj, iI_T ha, iI_T hb]
theorem lI_le {a b : Int} (ha : inJ a) (hb : inJ b) : lI a ≤ lI b ↔ a ≤ b := by rw [Int64.le_iff_toInt_le, lI_T ha, lI_T hb]
theorem lI_lt {a b : Int} (ha : inJ a) (hb : inJ b) : lI a < lI b ↔ a < b := by rw [Int64.lt_iff_toInt_lt, lI_T ha, lI_T hb]
theorem lI_eq {a b : Int} (ha : inJ a) (hb : inJ b) : lI a = lI b ↔ a = b := by rw [← Int64.toInt_inj, lI_T ha, lI_T hb]
theorem iI_cl {z : Int} (h : inI z) : (iI z).toNatClampNeg = z.toNat := by
  show (iI z).toInt.toNat = z.toNat
  rw [iI_T h]
theorem iI_l {z : Int} (h : inI z) : (iI z).toInt64 = lI z := by
  rw [← Int64.toInt_inj, Int32.toInt_toInt64, iI_T h, lI_T ⟨by have := h.1; omega, by have := h.2; omega⟩]
theorem lI_i (z : Int) : (lI z).toInt32 = iI z := Int64.toInt32_ofInt
theorem iI_in {z : Int} {n : Nat} (h0 : 0 ≤ z) (h1 : z < n) (hn : n < 2147483648) : vp_in (iI z) n := by
  have hz : inI z := ⟨by omega, by omega⟩
  rw [vp_in_iff, iI_T hz]
  exact ⟨h0, h1⟩
theorem lI_div {a b : Int} (ha : 0 ≤ a) (ha2 : a < 9223372036854775808) (hb : 0 < b) (hb2 : b < 9223372036854775808) : lI a / lI b = lI (a / b) := by
  have h1 : (lI b) ≠ -1 := by
    intro h
    have h2 := congrArg Int64.toInt h
    rw [lI_T ⟨by omega, hb2⟩] at h2
    have h3 : (-1 : Int64).toInt = -1 := by decide
    omega
  have hq : 0 ≤ a / b := Int.ediv_nonneg ha (by omega)
  have hq2 : a / b ≤ a := Int.ediv_le_self b ha
  rw [← Int64.toInt_inj, Int64.toInt_div_of_ne_right _ _ h1, lI_T ⟨by omega, ha2⟩, lI_T ⟨by omega, hb2⟩, lI_T ⟨by omega, by omega⟩, Int.tdiv_eq_ediv_of_nonneg ha]
theorem iI_0 : iI 0 = 0 := rfl
/-! ===== the state: keys of cells, their addresses, what stands in their slots ===== -/
abbrev TT : Type := Nat → Nat → Nat → Int
abbrev PP : Type := Nat → Nat → Nat → Option Nat
abbrev KK : Type := List (Nat × Nat)
abbrev AD : Type := Nat → Nat → Nat
abbrev St : Type := KK × AD × TT × PP
abbrev GG : Type := va_G × (Nat → ClassId)
abbrev eI (c : ClassId) (n : Nat) (f : Nat → Int) : va_E := .inl (c, n, .inl (fun j => iI (f j)))
abbrev eJ (c : ClassId) (n : Nat) (f : Nat → Int) : va_E := .inl (c, n, .inr (.inl (fun j => lI (f j))))
abbrev eQ (c : ClassId) (n : Nat) (g : Nat → Option Nat) : va_E := .inl (c, n, .inr (.inr (.inr (.inr g))))
def cF (cy : Nat → ClassId) (t : Nat) (f : Nat → Int) (g : Nat → Option Nat) : va_E := match t with
  | 0 => .inr (3, [va_rf (g 0), va_rf (g 1), va_rf (g 2), va_rf (g 3), va_rf (g 4), .int (iI (f 5)), .int (iI (f 6)), .int (iI (f 7)), .int (iI (f 8))])
  | 1 => eQ (cy 0) 5 g
  | 2 => eQ (cy 1) 5 g
  | 3 => eJ (cy 2) 5 f
  | 4 => eQ (cy 3) 10 g
  | 5 => eQ (cy 4) 30 g
  | 6 => .inr (1, [va_rf (g 0), va_rf (g 1), .int (iI (f 4)), .int (iI (f 3))])
  | 7 => eI (cy 5) 61 f
  | 8 => eI (cy 5) 61 f
  | 9 => eJ (cy 2) 5 f
  | 10 => .inr (2, [.int (iI (f 0)), .long (lI (f 1)), .int (iI (f 2))])
  | 11 => .inr (0, [.int (iI (f 0)), .int (iI (f 1)), .int (iI (f 2)), .int (iI (f 3)), .int (iI (f 4)), .int (iI (f 5)), .int (iI (f 6)), .long (lI (f 7)), .long (lI (f 8)), .long (lI (f 9))])
  | 50 => eI (cy 5) 60 f
  | 51 => eI (cy 5) 10 f
  | 52 => eJ (cy 2) 5 f
  | 53 => eI (cy 5) 63 f
  | 54 => eJ (cy 2) 28 f
  | 55 => eJ (cy 2) 30 f
  | 56 => eI (cy 5) 5 f
  | _ => .inr (9, [])
def up (T : TT) (t i j : Nat) (v : Int) : TT := fun a b c => if a = t ∧ b = i ∧ c = j then v else T a b c
def upP (P : PP) (t i j : Nat) (v : Option Nat) : PP := fun a b c => if a = t ∧ b = i ∧ c = j then v else P a b c
def upA (A : AD) (t i : Nat) (v : Nat) : AD := fun a b => if a = t ∧ b = i then v else A a b
def uR {α : Type} (f : Nat → α) (j : Nat) (v : α) : Nat → α := fun c => if c = j then v else f c
theorem up_row (T : TT) (t i j : Nat) (v : Int) : up T t i j v t i = uR (T t i) j v := by
  funext c
  simp [up, uR]
theorem upP_row (P : PP) (t i j : Nat) (v : Option Nat) : upP P t i j v t i = uR (P t i) j v := by
  funext c
  simp [upP, uR]
theorem up_ne {T : TT} {t i j : Nat} {v : Int} {a b : Nat} (h : ¬ (a = t ∧ b = i)) : up T t i j v a b = T a b := by
  funext c
  simp only [up]
  rw [if_neg (fun q => h ⟨q.1, q.2.1⟩)]
theorem upP_ne {P : PP} {t i j : Nat} {v : Option Nat} {a b : Nat} (h : ¬ (a = t ∧ b = i)) : upP P t i j v a b = P a b := by
  funext c
  simp only [upP]
  rw [if_neg (fun q => h ⟨q.1, q.2.1⟩)]
theorem upA_s {A : AD} {t i v : Nat} : upA A t i v t i = v := by simp [upA]
theorem upA_ne {A : AD} {t i v a b : Nat} (h : ¬ (a = t ∧ b = i)) : upA A t i v a b = A a b := if_neg h
def WO (G : GG) (u : St) : va_W := u.1.map (fun k => (u.2.1 k.1 k.2, cF G.2 k.1 (u.2.2.1 k.1 k.2) (u.2.2.2 k.1 k.2)))
theorem WO_get {G : GG} {ks : KK} {ad : AD} {T : TT} {P : PP} {t i j : Nat} (h : ks[j]? = some (t, i)) : (WO G (ks, ad, T, P))[j]? = some (ad t i, cF G.2 t (T t i) (P t i)) := by
  unfold WO
  rw [List.getElem?_map, h]
  rfl
theorem WO_set {G : GG} {A : Nat → Prop} {ks : KK} {ad : AD} {T T' : TT} {P P' : PP} {t i j : Nat} {e : va_E} (hD : va_D A (WO G (ks, ad, T, P))) (h : ks[j]? = some (t, i)) (he : e = cF G.2 t (T' t i) (P' t i)) (hT : ∀ a b, ¬ (a = t ∧ b = i) → T' a b = T a b) (hP : ∀ a b, ¬ (a = t ∧ b = i) → P' a b = P a b) : (WO G (ks, ad, T, P)).set j (ad t i, e) = WO G (ks, ad, T', P') := by
  have hl : j < (WO G (ks, ad, T, P)).length := (List.getElem?_eq_some_iff.mp (WO_get h)).1
  apply List.ext_getElem?
  intro n
  by_cases hn : j = n
  · subst hn
    rw [List.getElem?_set_self hl, WO_get h, he]
  · rw [List.getElem?_set_ne hn]
    cases hk : ks[n]? with
    | none =>
      unfold WO
      rw [List.getElem?_map, List.getElem?_map, hk]
      rfl
    | some q =>
      obtain ⟨q1, q2⟩ := q
      rw [WO_get hk, WO_get hk]
      have hq : ¬ (q1 = t ∧ q2 = i) := fun ⟨h1, h2⟩ => hn (hD.1 j n _ _ (WO_get h) (WO_get hk) (by rw [h1, h2]))
      rw [hT q1 q2 hq, hP q1 q2 hq]
theorem WO_push {G : GG} {ks : KK} {ad : AD} {T T' : TT} {P P' : PP} {t i q : Nat} {e : va_E} (h : (t, i) ∉ ks) (he : e = cF G.2 t (T' t i) (P' t i)) (hT : ∀ a b, (a, b) ∈ ks → T' a b = T a b) (hP : ∀ a b, (a, b) ∈ ks → P' a b = P a b) : WO G (ks, ad, T, P) ++ [(q, e)] = WO G (ks ++ [(t, i)], upA ad t i q, T', P') := by
  unfold WO
  simp only [List.map_append, List.map_cons, List.map_nil]
  congr 1
  · apply List.map_congr_left
    intro k hk
    have hne : ¬ (k.1 = t ∧ k.2 = i) := fun ⟨h1, h2⟩ => h (by rw [← h1, ← h2]; exact hk)
    rw [hT k.1 k.2 hk, hP k.1 k.2 hk, upA_ne hne]
  · rw [he, upA_s]
abbrev tyW (cy : Nat → ClassId) : List (ClassId × FieldType) := [(cy 0, .object RX1), (cy 1, .array .long), (cy 2, .long), (cy 3, .object RX2), (cy 4, .object RX0), (cy 5, .int)]
abbrev Wx (b0 : Nat) : Nat → Prop := fun q => b0 ≤ q
/-- the words of the tables that no list of a method holds: fields across the nest; and that an exception is of its own class -/
def nestWs : List Cond := [.fieldLinkNest RX3 102 RX2 "isMoving" "Z" RX3, .fieldLinkNest RX3 108 RX2 "holder" "I" RX3, .fieldLinkNest RX3 114 RX2 "thousandths" "J" RX3, .fieldLinkNest RX3 148 RX0 "nextStep" "I" RX3, .fieldLinkNest RX3 155 RX0 "lateOfOld" "I" RX3, .fieldLinkNest RX3 158 RX0 "lateOfNew" "I" RX3, .fieldLinkNest RX3 161 RX0 "proceeds" "J" RX3, .fieldLinkNest RX3 164 RX0 "replaced" "J" RX3, .fieldLinkNest RX3 179 RX0 "saver" "I" RX3, .fieldLinkNest RX3 182 RX0 "sold" "J" RX3, .fieldLinkNest RX3 185 RX0 "from" "I" RX3, .fieldLinkNest RX3 191 RX0 "to" "I" RX3, .fieldLinkNest RX3 214 RX0 "lastStepDay" "I" RX3]
abbrev eA : String := "java/lang/IllegalArgumentException"
abbrev eS : String := "java/lang/IllegalStateException"
abbrev eB : String := "java/lang/IndexOutOfBoundsException"
def castWs : List String := [eA, eS, eB]
def declWs : List MethodName := [Bundle.initS "java/lang/RuntimeException", Bundle.initS "java/lang/Exception", Bundle.initS Bundle.tN]
def strWs : List (Nat × String) := [(56, "days out of range"), (63, "later than the last day"), (82, "the provider has had all its prices"), (84, "day out of range"), (87, "money out of range"), (89, "no more savers"), (106, "an order of the saver goes on"), (125, "the saver is with that provider"), (127, "no more orders"), (143, "the step is not late enough to be forced"), (223, "provider out of range"), (225, "price out of range"), (229, "the saver would have too many thousandths"), (233, "no such saver"), (236, "no such order"), (238, "the order is done")]
def EnvX (b0 : Nat) (U : State) : Prop := (∀ (o : String) (i : Nat) (d n : String) (h : Nat), Cond.fieldLinkNest o i d n (if h = 0 then "I" else if h = 1 then "J" else if h = 2 then "Z" else "LFundMoves$Saver;") RX3 ∈ nestWs → va_Nw (.fieldLinkNest o i d n (if h = 0 then "I" else if h = 1 then "J" else if h = 2 then "Z" else "LFundMoves$Saver;") RX3) U) ∧ (∀ E ∈ castWs, va_Nw (.castable E E) U) ∧ ((∀ y ∈ declWs, va_Nw (.declares y) U) ∧ va_Nw (.methodLinkNest RX1 25 yX3_isOutside RX3) U) ∧ (∀ q ∈ strWs, ∃ sa : Nat, vk_R RX3 q.1 q.2 sa U) ∧
  vx_Zq Bundle.tN "UNASSIGNED_STACK" Bundle.steD (Wx b0) U U.heap ∧ vx_Zq Bundle.tN "SUPPRESSED_SENTINEL" Bundle.listD (Wx b0) U U.heap ∧ (∀ C ∈ [RX0, RX1, RX2], va_AO C U) ∧ va_AOA .long U
theorem EnvX.moved {b0 : Nat} {u U : State} (h : EnvX b0 u) (hW : u.WarmedH U.vm) (hk : ∀ a : Nat, a < u.heap.size → ¬ Wx b0 a → U.heap[a]? = u.heap[a]?) : EnvX b0 U := by
  obtain ⟨h1, h2, h2d, h3, h4, h5, h6, h7⟩ := h
  refine ⟨fun o i d n hh hm => va_Nw.warmF hW (h1 o i d n hh hm), fun E hE => va_Nw.warmC hW (h2 E hE), ⟨fun y hy => va_Nw.warmD hW (h2d.1 y hy), va_Nw.warmM hW h2d.2⟩, fun q hq => ?_, ?_, ?_, fun C hC => va_AO.moved hW.alike (h6 C hC), over_moved (a := #[]) (a' := #[]) hW.alike h7⟩
  · obtain ⟨sa, h⟩ := h3 q hq
    exact ⟨sa, h.warm hW⟩
  · exact vx_Zq.moved hW.alike (h4.kept hk)
  · exact vx_Zq.moved hW.alike (h5.kept hk)
def At (G : GG) (b0 : Nat) (u : St) (H : Heap) : Prop := va_P G.1 vwCl (WO G u) H ∧ va_D (Wx b0) (WO G u)
def Ok (G : GG) (b0 : Nat) (u : St) (U : State) : Prop := b0 ≤ U.heap.size ∧ At G b0 u U.heap ∧ va_K G.1 vwCl (tyW G.2) U ∧ EnvX b0 U
def Qr (post : Option Value → St → Prop) (G : GG) (b0 : Nat) : Array Value → State → Outcome → State → Prop := fun _ st oc t => (∃ (v : Option Value) (u : St), oc = .returned v ∧ post v u ∧ At G b0 u t.heap) ∧ va_F (Wx b0) st t
def Xr (px : String → St → Prop) (G : GG) (b0 : Nat) : String → State → State → Prop := fun E st t => (∃ u : St, px E u ∧ At G b0 u t.heap) ∧ va_F (Wx b0) st t
def Cur (G : GG) (b0 : Nat) (u : St) (s : State) (H : Heap) (locs : List Loc) : Prop := b0 ≤ s.heap.size ∧ va_K G.1 vwCl (tyW G.2) s ∧ EnvX b0 s ∧ At G b0 u H ∧ va_S (Wx b0) s.heap H locs
theorem Ok.cur {G : GG} {b0 : Nat} {u : St} {s : State} (h : Ok G b0 u s) : Cur G b0 u s s.heap [] := ⟨h.1, h.2.2.1, h.2.2.2, h.2.1, va_S.rf⟩
theorem Cur.ok {G : GG} {b0 : Nat} {u : St} {s U : State} {H : Heap} {locs : List Loc} (h : Cur G b0 u s H locs) (hU : U.heap = H) (hW : s.WarmedH U.vm) : Ok G b0 u U := by
  obtain ⟨h1, h2, h3, h4, h5⟩ := h
  refine ⟨by rw [hU]; exact Nat.le_trans h1 h5.1, by rw [hU]; exact h4, va_K.moved hW.alike h2, h3.moved hW (fun a ha hn => by rw [hU]; exact h5.2.1 a ha hn)⟩
theorem okBlind {G : GG} {b0 : Nat} {u : St} {As : List Value} : FrameBlind (va_Pc As (Ok G b0 u)) := by
  intro a U g mk h
  obtain ⟨h1, h2, h3, h4, h5⟩ := h
  exact ⟨h1, h2, h3, va_K.moved (u := U) (U := U.calling g mk a) (Vm.Alike.refl U.vm) h4, h5.moved (State.WarmedH.refl U) (fun _ _ _ => rfl)⟩
