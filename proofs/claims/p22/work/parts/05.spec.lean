/-- which exception -/
def exn : Nat → String
  | 1 => eA
  | 2 => eS
  | _ => eB
/-- how the ends of methods are told: an int, a long, nothing, a thing; and what is thrown -/
abbrev pI (F : Int → Prop) (U : St) : Option Value → St → Prop := fun v u1 => ∃ r : Int, v = some (.int (iI r)) ∧ F r ∧ u1 = U
abbrev pJ (F : Int → Prop) (U : St) : Option Value → St → Prop := fun v u1 => ∃ r : Int, v = some (.long (lI r)) ∧ F r ∧ u1 = U
abbrev pV (F : Prop) (U : St) : Option Value → St → Prop := fun v u1 => v = none ∧ F ∧ u1 = U
abbrev pA (a : Nat) (F : Prop) (U : St) : Option Value → St → Prop := fun v u1 => v = some (.ref a) ∧ F ∧ u1 = U
abbrev pX (F : Nat → Prop) (U : St) : String → St → Prop := fun E u1 => ∃ x : Nat, E = exn x ∧ F x ∧ u1 = U
/-! ===== prices ===== -/
def idxT (T : TT) (p : Nat) (d : Int) : Nat → Nat
  | 0 => 0
  | n + 1 => if d < T 7 p (n + 1) then idxT T p d n else n + 1
def valT (T : TT) (p : Nat) (d : Int) : Int := T 8 p (idxT T p d (T 6 p 2).toNat)
def putT (T : TT) (p : Nat) (d v : Int) : TT :=
  if T 7 p (T 6 p 2).toNat = d then up T 8 p (T 6 p 2).toNat v
  else if 60 ≤ T 6 p 2 then T
  else up (up (up (up (up T 7 p (T 6 p 2 + 1).toNat d) 8 p (T 6 p 2 + 1).toNat v) 6 p 3 d) 6 p 4 (T 6 p 2 + 1 + 1)) 6 p 2 (T 6 p 2 + 1)
theorem idxT_le (T : TT) (p : Nat) (d : Int) : ∀ n, idxT T p d n ≤ n
  | 0 => Nat.le_refl _
  | n + 1 => by
    unfold idxT
    split
    · exact Nat.le_succ_of_le (idxT_le T p d n)
    · exact Nat.le_refl _
/-! ===== orders ===== -/
def dueT (T : TT) (k : Nat) : Int := T 11 k 4 + (if T 11 k 3 = 0 then 3 else 2)
def lateT (T : TT) (k : Nat) (d : Int) : Int := if dueT T k < d then d - dueT T k else 0
def goT (T : TT) (k : Nat) (d lb : Int) : TT :=
  if T 11 k 3 = 2 then up (up (up T 11 k 6 (T 11 k 6 + lb)) 11 k 4 d) 11 k 3 (T 11 k 3 + 1)
  else up (up (up T 11 k 5 (T 11 k 5 + lb)) 11 k 4 d) 11 k 3 (T 11 k 3 + 1)
def thF (m pr : Int) : Int := m * 1000 / pr
def moF (u pr : Int) : Int := u * pr / 1000
def coF (u pr : Int) : Int := (u * pr + 1000 - 1) / 1000
/-- the price of a sale or a purchase at provider p -/
def prF (T : TT) (p : Nat) (f : Int) : Int := if f = 0 then valT T p (T 0 0 5) else T 0 0 6
/-- which saver an order moves -/
def mvT (T : TT) (k : Nat) : Nat := (T 11 k 0).toNat
def sellT (T : TT) (k : Nat) (f : Int) : TT :=
  up (up (up T 11 k 7 (T 10 (mvT T k) 1)) 11 k 8 (moF (T 10 (mvT T k) 1) (prF T (T 11 k 1).toNat f))) 10 (mvT T k) 1 0
def allL (T : TT) (k : Nat) (lb : Int) : Int := T 11 k 5 + lb
def timT (T : TT) (k : Nat) (al : Int) : Int := thF (moF (T 11 k 7) (valT T (T 11 k 1).toNat (T 11 k 4 - T 11 k 5))) (valT T (T 11 k 2).toNat (T 0 0 5 - al))
def gotT (T : TT) (k : Nat) (f : Int) : Int := thF (T 11 k 8) (prF T (T 11 k 2).toNat f)
def lakT (T : TT) (k : Nat) (lb f : Int) : Int := if 0 < allL T k lb then (if gotT T k f < timT T k (allL T k lb) then timT T k (allL T k lb) - gotT T k f else 0) else 0
def shaT (T : TT) (k : Nat) (co al : Int) : TT :=
  if al ≤ 0 then T
  else up (up T 9 (T 11 k 1).toNat (T 11 k 2).toNat (T 9 (T 11 k 1).toNat (T 11 k 2).toNat + co * T 11 k 5 / al)) 3 0 (T 11 k 2).toNat (T 3 0 (T 11 k 2).toNat + (co - co * T 11 k 5 / al))
def arrT (T : TT) (i : Nat) (h u : Int) : TT := up (up (up T 10 i 0 h) 10 i 1 u) 10 i 2 0
def buyT (T : TT) (k : Nat) (lb f : Int) : TT :=
  arrT (up (shaT T k (coF (lakT T k lb f) (valT T (T 11 k 2).toNat (T 0 0 5))) (allL T k lb)) 11 k 9 (lakT T k lb f)) (mvT T k) (T 11 k 2) (gotT T k f + lakT T k lb f)
def stpT (T : TT) (k : Nat) (f : Int) : TT :=
  goT (if T 11 k 3 = 1 then sellT T k f else if T 11 k 3 = 2 then buyT T k (lateT T k (T 0 0 5)) f else T) k (T 0 0 5) (lateT T k (T 0 0 5))
/-! ===== what the class's methods take as given: keys and pointers; numbers ===== -/
def FI (ks : KK) (ad : AD) (P : PP) : Prop := (0, 0) ∈ ks ∧ (1, 0) ∈ ks ∧ (2, 0) ∈ ks ∧ (3, 0) ∈ ks ∧ (4, 0) ∈ ks ∧ (5, 0) ∈ ks ∧ P 0 0 0 = some (ad 1 0) ∧ P 0 0 1 = some (ad 2 0) ∧ P 0 0 2 = some (ad 3 0) ∧ P 0 0 3 = some (ad 4 0) ∧ P 0 0 4 = some (ad 5 0)
def RK (ks : KK) (ad : AD) (P : PP) : Prop := ∀ p : Nat, p < 5 → (6, p) ∈ ks ∧ (7, p) ∈ ks ∧ (8, p) ∈ ks ∧ (9, p) ∈ ks ∧ P 1 0 p = some (ad 6 p) ∧ P 2 0 p = some (ad 9 p) ∧ P 6 p 0 = some (ad 7 p) ∧ P 6 p 1 = some (ad 8 p)
def RN (T : TT) : Prop := ∀ p : Nat, p < 5 → 0 ≤ T 6 p 2 ∧ T 6 p 2 ≤ 60 ∧ ((∀ j : Nat, inI (T 7 p j)) ∧ T 7 p 0 = 0 ∧ T 6 p 3 = T 7 p (T 6 p 2).toNat ∧ T 6 p 4 = T 6 p 2 + 1 ∧ ∀ j : Nat, (j : Int) < T 6 p 2 → T 7 p j < T 7 p (j + 1)) ∧ (∀ j : Nat, (j : Int) ≤ T 6 p 2 → 100 ≤ T 8 p j ∧ T 8 p j ≤ 10000)
def DN (T : TT) : Prop := 0 ≤ T 0 0 5 ∧ T 0 0 5 ≤ 2000 ∧ 100 ≤ T 0 0 6 ∧ T 0 0 6 ≤ 10000
def SK (ks : KK) (ad : AD) (T : TT) (P : PP) : Prop := 0 ≤ T 0 0 7 ∧ T 0 0 7 ≤ 10 ∧ (∀ i : Nat, i < 10 → P 4 0 i = if (i : Int) < T 0 0 7 then some (ad 10 i) else none) ∧ ∀ i : Nat, (i : Int) < T 0 0 7 → (10, i) ∈ ks
def SN (T : TT) : Prop := ∀ i : Nat, (i : Int) < T 0 0 7 → 0 ≤ T 10 i 0 ∧ T 10 i 0 < 5 ∧ 0 ≤ T 10 i 1 ∧ T 10 i 1 ≤ 100000000 ∧ 0 ≤ T 10 i 2 ∧ T 10 i 2 ≤ 1
def OK1 (ks : KK) (ad : AD) (T : TT) (P : PP) : Prop := 0 ≤ T 0 0 8 ∧ T 0 0 8 ≤ 30 ∧ (∀ k : Nat, k < 30 → P 5 0 k = if (k : Int) < T 0 0 8 then some (ad 11 k) else none) ∧ ∀ k : Nat, (k : Int) < T 0 0 8 → (11, k) ∈ ks ∧ True ∧ 0 ≤ T 11 k 0 ∧ T 11 k 0 < T 0 0 7
def ON (T : TT) : Prop := ∀ k : Nat, (k : Int) < T 0 0 8 → 0 ≤ T 11 k 1 ∧ T 11 k 1 < 5 ∧ 0 ≤ T 11 k 2 ∧ T 11 k 2 < 5 ∧ 0 ≤ T 11 k 3 ∧ T 11 k 3 ≤ 3 ∧ 0 ≤ T 11 k 4 ∧ T 11 k 4 ≤ T 0 0 5 ∧ 0 ≤ T 11 k 5 ∧ (T 11 k 3 ≤ 2 → T 11 k 5 ≤ T 11 k 4) ∧ T 11 k 5 ≤ 2000 ∧ 0 ≤ T 11 k 6 ∧ T 11 k 6 ≤ 2000 ∧ 0 ≤ T 11 k 7 ∧ T 11 k 7 ≤ 100000000 ∧ 0 ≤ T 11 k 8 ∧ T 11 k 8 ≤ 1000000000 ∧ 0 ≤ T 11 k 9 ∧ T 11 k 9 ≤ 100000000
theorem valT_in {T : TT} (h : RN T) {p : Nat} (hp : p < 5) (d : Int) : 100 ≤ valT T p d ∧ valT T p d ≤ 10000 := by
  obtain ⟨h1, h2, h3, h4⟩ := h p hp
  refine h4 _ ?_
  have := idxT_le T p d (T 6 p 2).toNat
  omega
/-- room -/
abbrev rmX (f c n lo : Nat) : Room := { frames := f, cells := c, slots := n, locals := lo }
theorem ngA : ∀ w ∈ (vx_atS RX3 58 eA excN).filter (fun w => !goodWord w), w ∈ ngL eA := by decide +kernel
theorem ngS : ∀ w ∈ (vx_atS RX3 65 eS excN).filter (fun w => !goodWord w), w ∈ ngL eS := by decide +kernel
theorem ngB : ∀ w ∈ (vx_atS RX3 235 eB excN).filter (fun w => !goodWord w), w ∈ ngL eB := by decide +kernel
theorem goA : ∀ w ∈ Cond.classLink RX3 54 eA :: Cond.initialized eA :: vx_atS RX3 58 eA excN, vx_ot w = true := by decide +kernel
theorem goS : ∀ w ∈ Cond.classLink RX3 61 eS :: Cond.initialized eS :: vx_atS RX3 65 eS excN, vx_ot w = true := by decide +kernel
theorem goB : ∀ w ∈ Cond.classLink RX3 231 eB :: Cond.initialized eB :: vx_atS RX3 235 eB excN, vx_ot w = true := by decide +kernel
theorem caA : eA ∈ castWs ∧ Bundle.fit eA = true := by decide +kernel
theorem caS : eS ∈ castWs ∧ Bundle.fit eS = true := by decide +kernel
theorem caB : eB ∈ castWs ∧ Bundle.fit eB = true := by decide +kernel
/-! a row of prices: the latest index (T 6 p 2) is a ghost, the count stands in T 6 p 4 -/
theorem WO_ghost {G : GG} {ks : KK} {ad : AD} {T : TT} {P : PP} (k : Nat) (z : Int) : WO G (ks, ad, up T 6 k 2 z, P) = WO G (ks, ad, T, P) := by
  unfold WO
  apply List.map_congr_left
  rintro ⟨a, b⟩ -
  by_cases h : a = 6 ∧ b = k
  · obtain ⟨rfl, rfl⟩ := h
    refine congrArg (fun e => (ad 6 b, e)) ?_
    show cF G.2 6 (up T 6 b 2 z 6 b) (P 6 b) = cF G.2 6 (T 6 b) (P 6 b)
    rw [up_row]
    rfl
  · refine congrArg (fun e => (ad a b, e)) ?_
    show cF G.2 a (up T 6 k 2 z a b) (P a b) = cF G.2 a (T a b) (P a b)
    rw [up_ne h]
theorem Cur_ghost {G : GG} {b0 : Nat} {ks : KK} {ad : AD} {T : TT} {P : PP} {s : State} {H : Heap} {locs : List Loc} (k : Nat) (z : Int) (h : Cur G b0 (ks, ad, T, P) s H locs) : Cur G b0 (ks, ad, up T 6 k 2 z, P) s H locs := by
  unfold Cur At at h ⊢
  rw [WO_ghost]
  exact h
theorem idxT_tp {T : TT} {p : Nat} {d : Int} {n : Nat} (h : T 7 p n ≤ d) : idxT T p d n = n := by
  cases n with
  | zero => rfl
  | succ n =>
    unfold idxT
    exact if_neg (by omega)
theorem row_up {T : TT} {p L : Nat} (hs : ∀ j : Nat, j < L → T 7 p j < T 7 p (j + 1)) (n : Nat) : ∀ k : Nat, n + k ≤ L → T 7 p n ≤ T 7 p (n + k)
  | 0, _ => Int.le_refl _
  | k + 1, h => by
    have h1 := row_up hs n k (by omega)
    have h2 := hs (n + k) (by omega)
    rw [show n + (k + 1) = n + k + 1 by omega]
    omega
theorem idxT_md {T : TT} {p L n : Nat} {d : Int} (hs : ∀ j : Nat, j < L → T 7 p j < T 7 p (j + 1)) (h1 : T 7 p n ≤ d) (h2 : d < T 7 p (n + 1)) : ∀ k : Nat, n + k ≤ L → idxT T p d (n + k) = n
  | 0, _ => idxT_tp h1
  | k + 1, h => by
    have h3 := row_up hs (n + 1) k (by omega)
    rw [show n + (k + 1) = (n + k) + 1 by omega]
    unfold idxT
    rw [show n + 1 + k = n + k + 1 by omega] at h3
    rw [if_pos (by omega)]
    exact idxT_md hs h1 h2 k (by omega)
theorem idxT_mid {T : TT} {p n : Nat} {d : Int} (hs : ∀ j : Nat, (j : Int) < T 6 p 2 → T 7 p j < T 7 p (j + 1)) (h1 : T 7 p n ≤ d) (h2 : d < T 7 p (n + 1)) (k : Nat) (h : n + k = (T 6 p 2).toNat) : idxT T p d (n + k) = n :=
  idxT_md (L := (T 6 p 2).toNat) (fun j hj => hs j (by omega)) h1 h2 k (by omega)
theorem up_id {T : TT} {t i j : Nat} {v : Int} (h : v = T t i j) : up T t i j v = T := by
  funext a b c
  simp only [up]
  by_cases q : a = t ∧ b = i ∧ c = j
  · rw [if_pos q, h, q.1, q.2.1, q.2.2]
  · rw [if_neg q]
theorem put_same {T : TT} {p : Nat} {d v x y : Int} (h3 : T 6 p 3 = T 7 p (T 6 p 2).toNat) (hd : d = T 6 p 3) (h4 : T 6 p 4 = T 6 p 2 + 1) (hx : x = T 6 p 2) (hy : y = T 6 p 2 + 1) : up (up (up (up T 7 p x.toNat d) 8 p x.toNat v) 6 p 3 d) 6 p 4 y = up T 8 p (T 6 p 2).toNat v := by
  subst hx
  rw [up_id (T := T) (by rw [hd, h3])]
  have e3 : up T 8 p (T 6 p 2).toNat v 6 p 3 = T 6 p 3 := if_neg (by omega)
  have e4 : up T 8 p (T 6 p 2).toNat v 6 p 4 = T 6 p 4 := if_neg (by omega)
  rw [up_id (T := up T 8 p (T 6 p 2).toNat v) (by rw [e3, hd]), up_id (by rw [e4, h4, hy])]
