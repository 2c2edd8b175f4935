section YR
variable {p : Program} {l : Launch} {e : Env} {R : Room} {s : State} {m : MethodId} {args : Array Value} {below : List Frame} {meth : Method} {c : Code} {H : Heap} {locs : List Loc} {cells slots : Nat} {Q : State → Prop}
variable {cc : ByteArray} {nL : Nat} {Ts : List Cond} {own : String} {pc : Nat} {ls : Array Slot} {rest : List Value} {lv : List (Nat × Value)}
variable {G : GG} {b0 : Nat} {ks : KK} {ad : AD} {T : TT} {P : PP}
/-! constants -/
theorem y_iconst (hM : CallFix p m c cc nL s args Ts own) {n : Int} (hdg : decode cc pc = .ok (.iconst n, 1)) (k : W p l e R s m args below meth c H locs cells slots Q (F0 m (pc + 1) ls (.int (iI n) :: rest))) : W p l e R s m args below meth c H locs cells slots Q (F0 m pc ls rest) := lv_iconst hM.1 hM.2.1 hdg rfl k
theorem y_bipush (hM : CallFix p m c cc nL s args Ts own) {n : Int} (hdg : decode cc pc = .ok (.bipush n, 2)) (hv : (Int8.ofInt n).toInt32 = iI n) (k : W p l e R s m args below meth c H locs cells slots Q (F0 m (pc + 2) ls (.int (iI n) :: rest))) : W p l e R s m args below meth c H locs cells slots Q (F0 m pc ls rest) := lv_bipush hM.1 hM.2.1 hdg hv k
theorem y_sipush (hM : CallFix p m c cc nL s args Ts own) {n : Int} (hdg : decode cc pc = .ok (.sipush n, 3)) (hv : (Int16.ofInt n).toInt32 = iI n) (k : W p l e R s m args below meth c H locs cells slots Q (F0 m (pc + 3) ls (.int (iI n) :: rest))) : W p l e R s m args below meth c H locs cells slots Q (F0 m pc ls rest) := lv_sipush hM.1 hM.2.1 hdg hv k
theorem y_lconst (hM : CallFix p m c cc nL s args Ts own) {n : Fin 2} (z : Int) (hz : Int64.ofNat (n : Nat) = lI z) (hdg : decode cc pc = .ok (.lconst n, 1)) (k : W p l e R s m args below meth c H locs cells slots Q (F0 m (pc + 1) ls (.long (lI z) :: rest))) : W p l e R s m args below meth c H locs cells slots Q (F0 m pc ls rest) := lv_lconst hM.1 hM.2.1 hdg hz k
theorem y_ldc (hM : CallFix p m c cc nL s args Ts own) {index : Nat} {v : Int32} (z : Int) (hz : v = iI z) (hconst : Cond.constant own index v ∈ Ts) (hdg : decode cc pc = .ok (.ldc index, 2)) (k : W p l e R s m args below meth c H locs cells slots Q (F0 m (pc + 2) ls (.int (iI z) :: rest))) : W p l e R s m args below meth c H locs cells slots Q (F0 m pc ls rest) := by
  subst hz
  exact lv_ldc hM.1 hM.2.1 hM.2.2.2.1 (hM.2.2.2.2 _ hconst) hdg k
theorem y_ldc2 (hM : CallFix p m c cc nL s args Ts own) {index : Nat} {v : Int64} (z : Int) (hz : v = lI z) (hconst : Cond.constantLong own index v ∈ Ts) (hdg : decode cc pc = .ok (.ldc2_w index, 3)) (k : W p l e R s m args below meth c H locs cells slots Q (F0 m (pc + 3) ls (.long (lI z) :: rest))) : W p l e R s m args below meth c H locs cells slots Q (F0 m pc ls rest) := by
  subst hz
  exact lv_ldc2 hM.1 hM.2.1 hM.2.2.2.1 (hM.2.2.2.2 _ hconst) hdg k
/-! arithmetic -/
theorem y_iadd (hM : CallFix p m c cc nL s args Ts own) {a b : Int} (hdg : decode cc pc = .ok (.iadd, 1)) (k : W p l e R s m args below meth c H locs cells slots Q (F0 m (pc + 1) ls (.int (iI (a + b)) :: rest))) : W p l e R s m args below meth c H locs cells slots Q (F0 m pc ls (.int (iI b) :: .int (iI a) :: rest)) := lv_iadd hM.1 hM.2.1 hdg (by rw [iI_add]; exact k)
theorem y_isub (hM : CallFix p m c cc nL s args Ts own) {a b : Int} (hdg : decode cc pc = .ok (.isub, 1)) (k : W p l e R s m args below meth c H locs cells slots Q (F0 m (pc + 1) ls (.int (iI (a - b)) :: rest))) : W p l e R s m args below meth c H locs cells slots Q (F0 m pc ls (.int (iI b) :: .int (iI a) :: rest)) := lv_isub hM.1 hM.2.1 hdg (by rw [iI_sub]; exact k)
theorem y_imul (hM : CallFix p m c cc nL s args Ts own) {a b : Int} (hdg : decode cc pc = .ok (.imul, 1)) (k : W p l e R s m args below meth c H locs cells slots Q (F0 m (pc + 1) ls (.int (iI (a * b)) :: rest))) : W p l e R s m args below meth c H locs cells slots Q (F0 m pc ls (.int (iI b) :: .int (iI a) :: rest)) := lv_imul hM.1 hM.2.1 hdg (by rw [iI_mul]; exact k)
theorem y_ladd (hM : CallFix p m c cc nL s args Ts own) {a b : Int} (hdg : decode cc pc = .ok (.ladd, 1)) (k : W p l e R s m args below meth c H locs cells slots Q (F0 m (pc + 1) ls (.long (lI (a + b)) :: rest))) : W p l e R s m args below meth c H locs cells slots Q (F0 m pc ls (.long (lI b) :: .long (lI a) :: rest)) := lv_ladd hM.1 hM.2.1 hdg (by rw [lI_add]; exact k)
theorem y_lsub (hM : CallFix p m c cc nL s args Ts own) {a b : Int} (hdg : decode cc pc = .ok (.lsub, 1)) (k : W p l e R s m args below meth c H locs cells slots Q (F0 m (pc + 1) ls (.long (lI (a - b)) :: rest))) : W p l e R s m args below meth c H locs cells slots Q (F0 m pc ls (.long (lI b) :: .long (lI a) :: rest)) := lv_lsub hM.1 hM.2.1 hdg (by rw [lI_sub]; exact k)
theorem y_lmul (hM : CallFix p m c cc nL s args Ts own) {a b : Int} (hdg : decode cc pc = .ok (.lmul, 1)) (k : W p l e R s m args below meth c H locs cells slots Q (F0 m (pc + 1) ls (.long (lI (a * b)) :: rest))) : W p l e R s m args below meth c H locs cells slots Q (F0 m pc ls (.long (lI b) :: .long (lI a) :: rest)) := lv_lmul hM.1 hM.2.1 hdg (by rw [lI_mul]; exact k)
theorem y_ldiv (hM : CallFix p m c cc nL s args Ts own) {a b : Int} (h : 0 ≤ a ∧ a < 9223372036854775808 ∧ 0 < b ∧ b < 9223372036854775808) (hdg : decode cc pc = .ok (.ldiv, 1)) (k : W p l e R s m args below meth c H locs cells slots Q (F0 m (pc + 1) ls (.long (lI (a / b)) :: rest))) : W p l e R s m args below meth c H locs cells slots Q (F0 m pc ls (.long (lI b) :: .long (lI a) :: rest)) := lv_ldiv hM.1 hM.2.1 hdg (fun q => by
  have h2 := congrArg Int64.toInt q
  rw [lI_T ⟨by omega, by omega⟩] at h2
  have h3 : (0 : Int64).toInt = 0 := by decide
  omega) (by rw [lI_div h.1 h.2.1 h.2.2.1 h.2.2.2]; exact k)
theorem y_i2l (hM : CallFix p m c cc nL s args Ts own) {a : Int} (ha : inI a) (hdg : decode cc pc = .ok (.i2l, 1)) (k : W p l e R s m args below meth c H locs cells slots Q (F0 m (pc + 1) ls (.long (lI a) :: rest))) : W p l e R s m args below meth c H locs cells slots Q (F0 m pc ls (.int (iI a) :: rest)) := lv_i2l hM.1 hM.2.1 hdg (iI_l ha) k
theorem y_l2i (hM : CallFix p m c cc nL s args Ts own) {a : Int} (hdg : decode cc pc = .ok (.l2i, 1)) (k : W p l e R s m args below meth c H locs cells slots Q (F0 m (pc + 1) ls (.int (iI a) :: rest))) : W p l e R s m args below meth c H locs cells slots Q (F0 m pc ls (.long (lI a) :: rest)) := lv_l2i hM.1 hM.2.1 hdg (lI_i a) k
def cmpI (a b : Int) : Int := if b < a then 1 else if a = b then 0 else -1
theorem cmpI_le (a b : Int) : cmpI a b ≤ 0 ↔ a ≤ b := by unfold cmpI; split <;> (try split) <;> omega
theorem cmpI_gt (a b : Int) : 0 < cmpI a b ↔ b < a := by unfold cmpI; split <;> (try split) <;> omega
theorem cmpI_eq (a b : Int) : cmpI a b = 0 ↔ a = b := by unfold cmpI; split <;> (try split) <;> omega
theorem cmpI_in (a b : Int) : inI (cmpI a b) := by unfold cmpI; split <;> (try split) <;> (constructor <;> omega)
theorem y_lcmp (hM : CallFix p m c cc nL s args Ts own) {a b : Int} (ha : inJ a) (hb : inJ b) (hdg : decode cc pc = .ok (.lcmp, 1)) (k : W p l e R s m args below meth c H locs cells slots Q (F0 m (pc + 1) ls (.int (iI (cmpI a b)) :: rest))) : W p l e R s m args below meth c H locs cells slots Q (F0 m pc ls (.long (lI b) :: .long (lI a) :: rest)) := by
  have hx : lg_cmp (lI a) (lI b) = iI (cmpI a b) := by
    unfold lg_cmp cmpI
    simp only [lI_lt hb ha, lI_eq ha hb]
    split
    · rfl
    · split <;> rfl
  exact W.lcmp hM.1 hM.2.1 hdg (by rw [hx]; exact k)
/-! locals -/
theorem y_iload_n (hM : CallFix p m c cc nL s args Ts own) (hl : lv_has ls nL lv) {k : Fin 4} {i : Nat} {x : Int32} (pl : Nat) (hp : lv[pl]? = some (i, .int x)) (hi : (k : Nat) = i) (hdg : decode cc pc = .ok (.iload_n k, 1)) (kk : W p l e R s m args below meth c H locs cells slots Q (F0 m (pc + 1) ls (.int x :: rest))) : W p l e R s m args below meth c H locs cells slots Q (F0 m pc ls rest) := lv_iload_n hM.1 hM.2.1 hdg hi (lv_at hl pl hp) kk
theorem y_iload (hM : CallFix p m c cc nL s args Ts own) (hl : lv_has ls nL lv) {i : Nat} {x : Int32} (pl : Nat) (hp : lv[pl]? = some (i, .int x)) (hdg : decode cc pc = .ok (.iload i, 2)) (kk : W p l e R s m args below meth c H locs cells slots Q (F0 m (pc + 2) ls (.int x :: rest))) : W p l e R s m args below meth c H locs cells slots Q (F0 m pc ls rest) := lv_iload hM.1 hM.2.1 hdg (lv_at hl pl hp) kk
theorem y_lload_n (hM : CallFix p m c cc nL s args Ts own) (hl : lv_has ls nL lv) {k : Fin 4} {i : Nat} {x : Int64} (pl : Nat) (hp : lv[pl]? = some (i, .long x)) (hi : (k : Nat) = i) (hdg : decode cc pc = .ok (.lload_n k, 1)) (kk : W p l e R s m args below meth c H locs cells slots Q (F0 m (pc + 1) ls (.long x :: rest))) : W p l e R s m args below meth c H locs cells slots Q (F0 m pc ls rest) := lv_lload_n hM.1 hM.2.1 hdg hi (lv_at hl pl hp) kk
theorem y_lload (hM : CallFix p m c cc nL s args Ts own) (hl : lv_has ls nL lv) {i : Nat} {x : Int64} (pl : Nat) (hp : lv[pl]? = some (i, .long x)) (hdg : decode cc pc = .ok (.lload i, 2)) (kk : W p l e R s m args below meth c H locs cells slots Q (F0 m (pc + 2) ls (.long x :: rest))) : W p l e R s m args below meth c H locs cells slots Q (F0 m pc ls rest) := lv_lload hM.1 hM.2.1 hdg (lv_at hl pl hp) kk
theorem y_aload_n (hM : CallFix p m c cc nL s args Ts own) (hl : lv_has ls nL lv) {k : Fin 4} {i : Nat} {x : Nat} (pl : Nat) (hp : lv[pl]? = some (i, .ref x)) (hi : (k : Nat) = i) (hdg : decode cc pc = .ok (.aload_n k, 1)) (kk : W p l e R s m args below meth c H locs cells slots Q (F0 m (pc + 1) ls (.ref x :: rest))) : W p l e R s m args below meth c H locs cells slots Q (F0 m pc ls rest) := lv_aload_n hM.1 hM.2.1 hdg hi (lv_at hl pl hp) kk
theorem y_aload (hM : CallFix p m c cc nL s args Ts own) (hl : lv_has ls nL lv) {i : Nat} {x : Nat} (pl : Nat) (hp : lv[pl]? = some (i, .ref x)) (hdg : decode cc pc = .ok (.aload i, 2)) (kk : W p l e R s m args below meth c H locs cells slots Q (F0 m (pc + 2) ls (.ref x :: rest))) : W p l e R s m args below meth c H locs cells slots Q (F0 m pc ls rest) := lv_aload hM.1 hM.2.1 hdg (lv_at hl pl hp) kk
theorem y_aload_nN (hM : CallFix p m c cc nL s args Ts own) (hl : lv_has ls nL lv) {k : Fin 4} {i : Nat} (pl : Nat) (hp : lv[pl]? = some (i, .null)) (hi : (k : Nat) = i) (hdg : decode cc pc = .ok (.aload_n k, 1)) (kk : W p l e R s m args below meth c H locs cells slots Q (F0 m (pc + 1) ls (.null :: rest))) : W p l e R s m args below meth c H locs cells slots Q (F0 m pc ls rest) := lv_aload_nN hM.1 hM.2.1 hdg hi (lv_at hl pl hp) kk
/-! branches -/
theorem y_if_eq (hM : CallFix p m c cc nL s args Ts own) {a : Int} (ha : inI a) {off : Int} {tgt : Nat} (hdg : decode cc pc = .ok (.ifCond .eq off, 3)) (ht : (pc : Int) + off = (tgt : Int)) (kt : a = 0 → W p l e R s m args below meth c H locs cells slots Q (F0 m tgt ls rest)) (kf : ¬ a = 0 → W p l e R s m args below meth c H locs cells slots Q (F0 m (pc + 3) ls rest)) : W p l e R s m args below meth c H locs cells slots Q (F0 m pc ls (.int (iI a) :: rest)) :=
  lv_if_eq hM.1 hM.2.1 hdg ht (fun h => kt ((iI_eq ha ⟨by omega, by omega⟩).mp h)) (fun h => kf (fun q => h ((iI_eq ha ⟨by omega, by omega⟩).mpr q)))
theorem y_if_ne (hM : CallFix p m c cc nL s args Ts own) {a : Int} (ha : inI a) {off : Int} {tgt : Nat} (hdg : decode cc pc = .ok (.ifCond .ne off, 3)) (ht : (pc : Int) + off = (tgt : Int)) (kt : ¬ a = 0 → W p l e R s m args below meth c H locs cells slots Q (F0 m tgt ls rest)) (kf : a = 0 → W p l e R s m args below meth c H locs cells slots Q (F0 m (pc + 3) ls rest)) : W p l e R s m args below meth c H locs cells slots Q (F0 m pc ls (.int (iI a) :: rest)) :=
  lv_if_ne hM.1 hM.2.1 hdg ht (fun h => kt (fun q => h ((iI_eq ha ⟨by omega, by omega⟩).mpr q))) (fun h => kf ((iI_eq ha ⟨by omega, by omega⟩).mp h))
theorem y_if_gt (hM : CallFix p m c cc nL s args Ts own) {a : Int} (ha : inI a) {off : Int} {tgt : Nat} (hdg : decode cc pc = .ok (.ifCond .gt off, 3)) (ht : (pc : Int) + off = (tgt : Int)) (kt : 0 < a → W p l e R s m args below meth c H locs cells slots Q (F0 m tgt ls rest)) (kf : ¬ 0 < a → W p l e R s m args below meth c H locs cells slots Q (F0 m (pc + 3) ls rest)) : W p l e R s m args below meth c H locs cells slots Q (F0 m pc ls (.int (iI a) :: rest)) :=
  lv_if_gt hM.1 hM.2.1 hdg ht (fun h => kt ((iI_lt ⟨by omega, by omega⟩ ha).mp h)) (fun h => kf (fun q => h ((iI_lt ⟨by omega, by omega⟩ ha).mpr q)))
theorem y_if_le (hM : CallFix p m c cc nL s args Ts own) {a : Int} (ha : inI a) {off : Int} {tgt : Nat} (hdg : decode cc pc = .ok (.ifCond .le off, 3)) (ht : (pc : Int) + off = (tgt : Int)) (kt : a ≤ 0 → W p l e R s m args below meth c H locs cells slots Q (F0 m tgt ls rest)) (kf : ¬ a ≤ 0 → W p l e R s m args below meth c H locs cells slots Q (F0 m (pc + 3) ls rest)) : W p l e R s m args below meth c H locs cells slots Q (F0 m pc ls (.int (iI a) :: rest)) :=
  lv_if_le hM.1 hM.2.1 hdg ht (fun h => kt ((iI_le ha ⟨by omega, by omega⟩).mp h)) (fun h => kf (fun q => h ((iI_le ha ⟨by omega, by omega⟩).mpr q)))
theorem y_icmp_eq (hM : CallFix p m c cc nL s args Ts own) {a b : Int} (ha : inI a) (hb : inI b) {off : Int} {tgt : Nat} (hdg : decode cc pc = .ok (.if_icmp .eq off, 3)) (ht : (pc : Int) + off = (tgt : Int)) (kt : a = b → W p l e R s m args below meth c H locs cells slots Q (F0 m tgt ls rest)) (kf : ¬ a = b → W p l e R s m args below meth c H locs cells slots Q (F0 m (pc + 3) ls rest)) : W p l e R s m args below meth c H locs cells slots Q (F0 m pc ls (.int (iI b) :: .int (iI a) :: rest)) :=
  lv_icmp_eq hM.1 hM.2.1 hdg ht (fun h => kt ((iI_eq ha hb).mp h)) (fun h => kf (fun q => h ((iI_eq ha hb).mpr q)))
theorem y_icmp_ne (hM : CallFix p m c cc nL s args Ts own) {a b : Int} (ha : inI a) (hb : inI b) {off : Int} {tgt : Nat} (hdg : decode cc pc = .ok (.if_icmp .ne off, 3)) (ht : (pc : Int) + off = (tgt : Int)) (kt : ¬ a = b → W p l e R s m args below meth c H locs cells slots Q (F0 m tgt ls rest)) (kf : a = b → W p l e R s m args below meth c H locs cells slots Q (F0 m (pc + 3) ls rest)) : W p l e R s m args below meth c H locs cells slots Q (F0 m pc ls (.int (iI b) :: .int (iI a) :: rest)) :=
  lv_icmp_ne hM.1 hM.2.1 hdg ht (fun h => kt (fun q => h ((iI_eq ha hb).mpr q))) (fun h => kf ((iI_eq ha hb).mp h))
theorem y_icmp_lt (hM : CallFix p m c cc nL s args Ts own) {a b : Int} (ha : inI a) (hb : inI b) {off : Int} {tgt : Nat} (hdg : decode cc pc = .ok (.if_icmp .lt off, 3)) (ht : (pc : Int) + off = (tgt : Int)) (kt : a < b → W p l e R s m args below meth c H locs cells slots Q (F0 m tgt ls rest)) (kf : ¬ a < b → W p l e R s m args below meth c H locs cells slots Q (F0 m (pc + 3) ls rest)) : W p l e R s m args below meth c H locs cells slots Q (F0 m pc ls (.int (iI b) :: .int (iI a) :: rest)) :=
  lv_icmp_lt hM.1 hM.2.1 hdg ht (fun h => kt ((iI_lt ha hb).mp h)) (fun h => kf (fun q => h ((iI_lt ha hb).mpr q)))
theorem y_icmp_ge (hM : CallFix p m c cc nL s args Ts own) {a b : Int} (ha : inI a) (hb : inI b) {off : Int} {tgt : Nat} (hdg : decode cc pc = .ok (.if_icmp .ge off, 3)) (ht : (pc : Int) + off = (tgt : Int)) (kt : b ≤ a → W p l e R s m args below meth c H locs cells slots Q (F0 m tgt ls rest)) (kf : ¬ b ≤ a → W p l e R s m args below meth c H locs cells slots Q (F0 m (pc + 3) ls rest)) : W p l e R s m args below meth c H locs cells slots Q (F0 m pc ls (.int (iI b) :: .int (iI a) :: rest)) :=
  lv_icmp_ge hM.1 hM.2.1 hdg ht (fun h => kt ((iI_le hb ha).mp h)) (fun h => kf (fun q => h ((iI_le hb ha).mpr q)))
theorem y_icmp_gt (hM : CallFix p m c cc nL s args Ts own) {a b : Int} (ha : inI a) (hb : inI b) {off : Int} {tgt : Nat} (hdg : decode cc pc = .ok (.if_icmp .gt off, 3)) (ht : (pc : Int) + off = (tgt : Int)) (kt : b < a → W p l e R s m args below meth c H locs cells slots Q (F0 m tgt ls rest)) (kf : ¬ b < a → W p l e R s m args below meth c H locs cells slots Q (F0 m (pc + 3) ls rest)) : W p l e R s m args below meth c H locs cells slots Q (F0 m pc ls (.int (iI b) :: .int (iI a) :: rest)) :=
  lv_icmp_gt hM.1 hM.2.1 hdg ht (fun h => kt ((iI_lt hb ha).mp h)) (fun h => kf (fun q => h ((iI_lt hb ha).mpr q)))
theorem y_icmp_le (hM : CallFix p m c cc nL s args Ts own) {a b : Int} (ha : inI a) (hb : inI b) {off : Int} {tgt : Nat} (hdg : decode cc pc = .ok (.if_icmp .le off, 3)) (ht : (pc : Int) + off = (tgt : Int)) (kt : a ≤ b → W p l e R s m args below meth c H locs cells slots Q (F0 m tgt ls rest)) (kf : ¬ a ≤ b → W p l e R s m args below meth c H locs cells slots Q (F0 m (pc + 3) ls rest)) : W p l e R s m args below meth c H locs cells slots Q (F0 m pc ls (.int (iI b) :: .int (iI a) :: rest)) :=
  lv_icmp_le hM.1 hM.2.1 hdg ht (fun h => kt ((iI_le ha hb).mp h)) (fun h => kf (fun q => h ((iI_le ha hb).mpr q)))
/-! fields -/
theorem y_get (hM : CallFix p m c cc nL s args Ts own) (hC : Cur G b0 (ks, ad, T, P) s H locs) {t i : Nat} (hk : (t, i) ∈ ks) {C : String} {Tc : u_T} {N ci index : Nat} {ref nm ds : String} {fs : List Value} (he : cF G.2 t (T t i) (P t i) = .inr (ci, fs)) (hc : vwCl[ci]? = some (C, Tc, N)) (hin : ∀ w ∈ u_ws C Tc N, w ∈ Ts) (k : Nat) (hk2 : k < N ∧ (Tc k).1 = ref ∧ (Tc k).2.1 = nm ∧ (Tc k).2.2.1 = ds) (hlink : Cond.fieldLink own index ref nm ds ∈ Ts) {v : Value} (hv : fs[k]? = some v) (hdg : decode cc pc = .ok (.getfield index, 3))
    (kk : W p l e R s m args below meth c H locs cells slots Q (F0 m (pc + 3) ls (v :: rest))) : W p l e R s m args below meth c H locs cells slots Q (F0 m pc ls (.ref (ad t i) :: rest)) := by
  obtain ⟨hkN, rfl, rfl, rfl⟩ := hk2
  obtain ⟨j, hj⟩ := List.getElem?_of_mem hk
  have he2 := WO_get (G := G) (ad := ad) (T := T) (P := P) hj
  rw [he] at he2
  exact va_get hM.1 hM.2.1 hM.2.2.2.2 hin hM.2.2.2.1 hC.2.1 hC.2.2.2.1.1 j he2 hc k hkN (hM.2.2.2.2 _ hlink) (fun _ h => h) hv hdg kk
theorem y_getN (hM : CallFix p m c cc nL s args Ts own) (hC : Cur G b0 (ks, ad, T, P) s H locs) {t i : Nat} (hk : (t, i) ∈ ks) {C : String} {Tc : u_T} {N ci index : Nat} {ref nm : String} {fs : List Value} (he : cF G.2 t (T t i) (P t i) = .inr (ci, fs)) (hc : vwCl[ci]? = some (C, Tc, N)) (hin : ∀ w ∈ u_ws C Tc N, w ∈ Ts) (k h : Nat) (hk2 : k < N ∧ (Tc k).1 = ref ∧ (Tc k).2.1 = nm ∧ (Tc k).2.2.1 = (if h = 0 then "I" else if h = 1 then "J" else if h = 2 then "Z" else "LFundMoves$Saver;")) (hlink : Cond.fieldLinkNest own index ref nm (if h = 0 then "I" else if h = 1 then "J" else if h = 2 then "Z" else "LFundMoves$Saver;") RX3 ∈ nestWs) {v : Value} (hv : fs[k]? = some v) (hdg : decode cc pc = .ok (.getfield index, 3))
    (kk : W p l e R s m args below meth c H locs cells slots Q (F0 m (pc + 3) ls (v :: rest))) : W p l e R s m args below meth c H locs cells slots Q (F0 m pc ls (.ref (ad t i) :: rest)) := by
  obtain ⟨hkN, rfl, rfl, h4⟩ := hk2
  obtain ⟨j, hj⟩ := List.getElem?_of_mem hk
  have he2 := WO_get (G := G) (ad := ad) (T := T) (P := P) hj
  rw [he] at he2
  have hn := hC.2.2.1.1 _ _ _ _ _ hlink
  rw [← h4] at hn
  exact va_getN hM.1 hM.2.1 hM.2.2.2.2 hin hM.2.2.2.1 hC.2.1 hC.2.2.2.1.1 j he2 hc k hkN (va_Nw.use rfl hn) (fun _ h => h) hv hdg kk
theorem y_put (hM : CallFix p m c cc nL s args Ts own) (hC : Cur G b0 (ks, ad, T, P) s H locs) {t i : Nat} (hk : (t, i) ∈ ks) {C : String} {Tc : u_T} {N ci index : Nat} {ref nm ds : String} {fs : List Value} (he : cF G.2 t (T t i) (P t i) = .inr (ci, fs)) (hc : vwCl[ci]? = some (C, Tc, N)) (hin : ∀ w ∈ u_ws C Tc N, w ∈ Ts) (ty0 : Nat → FieldType) (hty : ∀ k, k < N → parseFieldDescriptor (Tc k).2.2.1 = some (ty0 k)) (hnm : ∀ a, a < N → ∀ b, b < N → a ≠ b → (Tc a).2.1 ≠ (Tc b).2.1) (k : Nat) (hk2 : k < N ∧ (Tc k).1 = ref ∧ (Tc k).2.1 = nm ∧ (Tc k).2.2.1 = ds ∧ (Tc k).2.2.2 = false) (hlink : Cond.fieldLink own index ref nm ds ∈ Ts) {v : Value} {ty : FieldType} (hd : parseFieldDescriptor ds = some ty) (hn : narrow ty v = v) (hfit : fits ty v = true) (hl : k < fs.length) {T' : TT} {P' : PP} (he2 : .inr (ci, fs.set k v) = cF G.2 t (T' t i) (P' t i)) (hT : ∀ a b, ¬ (a = t ∧ b = i) → T' a b = T a b) (hP : ∀ a b, ¬ (a = t ∧ b = i) → P' a b = P a b) (hdg : decode cc pc = .ok (.putfield index, 3))
    (kk : ∀ (H1 : Heap) (locs1 : List Loc), Cur G b0 (ks, ad, T', P') s H1 locs1 → W p l e R s m args below meth c H1 locs1 cells slots Q (F0 m (pc + 3) ls rest)) : W p l e R s m args below meth c H locs cells slots Q (F0 m pc ls (v :: .ref (ad t i) :: rest)) := by
  obtain ⟨hkN, rfl, rfl, rfl, hfin⟩ := hk2
  obtain ⟨j, hj⟩ := List.getElem?_of_mem hk
  have h1 := WO_get (G := G) (ad := ad) (T := T) (P := P) hj
  rw [he] at h1
  obtain ⟨q1, q2, q3, q4, q5⟩ := hC
  refine va_put hM.1 hM.2.1 hM.2.2.2.2 hin ty0 hty hnm hM.2.2.2.1 q2 q4.1 q4.2 q5 j h1 hc k hkN (hM.2.2.2.2 _ hlink) (fun _ h => h) hfin hd hn hfit hl hdg (fun H1 locs1 hP1 hD1 hS1 => ?_)
  rw [WO_set q4.2 hj he2 hT hP] at hP1 hD1
  exact kk H1 locs1 ⟨q1, q2, q3, ⟨hP1, hD1⟩, hS1⟩
theorem y_putF (hM : CallFix p m c cc nL s args Ts own) (hin2 : meth.name = "<init>") (hC : Cur G b0 (ks, ad, T, P) s H locs) {t i : Nat} (hk : (t, i) ∈ ks) {C : String} {Tc : u_T} {N ci index : Nat} {ref nm ds : String} {fs : List Value} (he : cF G.2 t (T t i) (P t i) = .inr (ci, fs)) (hc : vwCl[ci]? = some (C, Tc, N)) (hin : ∀ w ∈ u_ws C Tc N, w ∈ Ts) (ty0 : Nat → FieldType) (hty : ∀ k, k < N → parseFieldDescriptor (Tc k).2.2.1 = some (ty0 k)) (hnm : ∀ a, a < N → ∀ b, b < N → a ≠ b → (Tc a).2.1 ≠ (Tc b).2.1) (k : Nat) (hk2 : k < N ∧ (Tc k).1 = ref ∧ (Tc k).2.1 = nm ∧ (Tc k).2.2.1 = ds ∧ (Tc k).2.2.2 = true ∧ ref = own) (hlink : Cond.fieldLink own index ref nm ds ∈ Ts) {v : Value} {ty : FieldType} (hd : parseFieldDescriptor ds = some ty) (hn : narrow ty v = v) (hfit : fits ty v = true) (hl : k < fs.length) {T' : TT} {P' : PP} (he2 : .inr (ci, fs.set k v) = cF G.2 t (T' t i) (P' t i)) (hT : ∀ a b, ¬ (a = t ∧ b = i) → T' a b = T a b) (hP : ∀ a b, ¬ (a = t ∧ b = i) → P' a b = P a b) (hdg : decode cc pc = .ok (.putfield index, 3))
    (kk : ∀ (H1 : Heap) (locs1 : List Loc), Cur G b0 (ks, ad, T', P') s H1 locs1 → W p l e R s m args below meth c H1 locs1 cells slots Q (F0 m (pc + 3) ls rest)) : W p l e R s m args below meth c H locs cells slots Q (F0 m pc ls (v :: .ref (ad t i) :: rest)) := by
  obtain ⟨hkN, h8, rfl, rfl, hfin, h9⟩ := hk2
  obtain ⟨j, hj⟩ := List.getElem?_of_mem hk
  have h1 := WO_get (G := G) (ad := ad) (T := T) (P := P) hj
  rw [he] at h1
  obtain ⟨q1, q2, q3, q4, q5⟩ := hC
  refine va_putF hM.1 hM.2.1 hM.2.2.2.2 hin ty0 hty hnm hM.2.2.2.1 q2 q4.1 q4.2 q5 j h1 hc k hkN (hM.2.2.2.2 _ hlink) (fun _ h => by rw [← h8]; exact h) hfin hin2 (h8.trans h9) hd hn hfit hl hdg (fun H1 locs1 hP1 hD1 hS1 => ?_)
  rw [WO_set q4.2 hj he2 hT hP] at hP1 hD1
  exact kk H1 locs1 ⟨q1, q2, q3, ⟨hP1, hD1⟩, hS1⟩
theorem y_putN (hM : CallFix p m c cc nL s args Ts own) (hC : Cur G b0 (ks, ad, T, P) s H locs) {t i : Nat} (hk : (t, i) ∈ ks) {C : String} {Tc : u_T} {N ci index : Nat} {ref nm : String} {fs : List Value} (he : cF G.2 t (T t i) (P t i) = .inr (ci, fs)) (hc : vwCl[ci]? = some (C, Tc, N)) (hin : ∀ w ∈ u_ws C Tc N, w ∈ Ts) (ty0 : Nat → FieldType) (hty : ∀ k, k < N → parseFieldDescriptor (Tc k).2.2.1 = some (ty0 k)) (hnm : ∀ a, a < N → ∀ b, b < N → a ≠ b → (Tc a).2.1 ≠ (Tc b).2.1) (k h : Nat) (hk2 : k < N ∧ (Tc k).1 = ref ∧ (Tc k).2.1 = nm ∧ (Tc k).2.2.1 = (if h = 0 then "I" else if h = 1 then "J" else if h = 2 then "Z" else "LFundMoves$Saver;") ∧ (Tc k).2.2.2 = false) (hlink : Cond.fieldLinkNest own index ref nm (if h = 0 then "I" else if h = 1 then "J" else if h = 2 then "Z" else "LFundMoves$Saver;") RX3 ∈ nestWs) {v : Value} {ty : FieldType} (hd : parseFieldDescriptor (if h = 0 then "I" else if h = 1 then "J" else if h = 2 then "Z" else "LFundMoves$Saver;") = some ty) (hn : narrow ty v = v) (hfit : fits ty v = true) (hl : k < fs.length) {T' : TT} {P' : PP} (he2 : .inr (ci, fs.set k v) = cF G.2 t (T' t i) (P' t i)) (hT : ∀ a b, ¬ (a = t ∧ b = i) → T' a b = T a b) (hP : ∀ a b, ¬ (a = t ∧ b = i) → P' a b = P a b) (hdg : decode cc pc = .ok (.putfield index, 3))
    (kk : ∀ (H1 : Heap) (locs1 : List Loc), Cur G b0 (ks, ad, T', P') s H1 locs1 → W p l e R s m args below meth c H1 locs1 cells slots Q (F0 m (pc + 3) ls rest)) : W p l e R s m args below meth c H locs cells slots Q (F0 m pc ls (v :: .ref (ad t i) :: rest)) := by
  obtain ⟨hkN, rfl, rfl, h4, hfin⟩ := hk2
  obtain ⟨j, hj⟩ := List.getElem?_of_mem hk
  have h1 := WO_get (G := G) (ad := ad) (T := T) (P := P) hj
  rw [he] at h1
  obtain ⟨q1, q2, q3, q4, q5⟩ := hC
  have hnw := q3.1 _ _ _ _ _ hlink
  rw [← h4] at hnw hd
  refine va_putN hM.1 hM.2.1 hM.2.2.2.2 hin ty0 hty hnm hM.2.2.2.1 q2 q4.1 q4.2 q5 j h1 hc k hkN (va_Nw.use rfl hnw) (fun _ h => h) hfin hd hn hfit hl hdg (fun H1 locs1 hP1 hD1 hS1 => ?_)
  rw [WO_set q4.2 hj he2 hT hP] at hP1 hD1
  exact kk H1 locs1 ⟨q1, q2, q3, ⟨hP1, hD1⟩, hS1⟩
/-! arrays -/
theorem y_iald (hM : CallFix p m c cc nL s args Ts own) (hC : Cur G b0 (ks, ad, T, P) s H locs) {t i : Nat} (hk : (t, i) ∈ ks) {n : Nat} (he : cF G.2 t (T t i) (P t i) = eI (G.2 5) n (T t i)) {z : Int} (hz : 0 ≤ z ∧ z < (n : Int)) (hn : n < 2147483648) {x : Int} (hx : T t i z.toNat = x) (hdg : decode cc pc = .ok (.iaload, 1)) (kk : W p l e R s m args below meth c H locs cells slots Q (F0 m (pc + 1) ls (.int (iI x) :: rest))) : W p l e R s m args below meth c H locs cells slots Q (F0 m pc ls (.int (iI z) :: .ref (ad t i) :: rest)) := by
  obtain ⟨j, hj⟩ := List.getElem?_of_mem hk
  have he2 := WO_get (G := G) (ad := ad) (T := T) (P := P) hj
  rw [he] at he2
  have hi : inI z := ⟨by omega, by omega⟩
  refine va_iald hM.1 hM.2.1 hC.2.1 hC.2.2.2.1.1 j 5 he2 rfl (iI_in hz.1 hz.2 hn) hdg ?_
  rw [iI_cl hi, hx]
  exact kk
theorem y_lald (hM : CallFix p m c cc nL s args Ts own) (hC : Cur G b0 (ks, ad, T, P) s H locs) {t i : Nat} (hk : (t, i) ∈ ks) {n : Nat} (he : cF G.2 t (T t i) (P t i) = eJ (G.2 2) n (T t i)) {z : Int} (hz : 0 ≤ z ∧ z < (n : Int)) (hn : n < 2147483648) {x : Int} (hx : T t i z.toNat = x) (hdg : decode cc pc = .ok (.laload, 1)) (kk : W p l e R s m args below meth c H locs cells slots Q (F0 m (pc + 1) ls (.long (lI x) :: rest))) : W p l e R s m args below meth c H locs cells slots Q (F0 m pc ls (.int (iI z) :: .ref (ad t i) :: rest)) := by
  obtain ⟨j, hj⟩ := List.getElem?_of_mem hk
  have he2 := WO_get (G := G) (ad := ad) (T := T) (P := P) hj
  rw [he] at he2
  have hi : inI z := ⟨by omega, by omega⟩
  refine va_lald hM.1 hM.2.1 hC.2.1 hC.2.2.2.1.1 j 2 he2 rfl (iI_in hz.1 hz.2 hn) hdg ?_
  rw [iI_cl hi, hx]
  exact kk
theorem y_aald (hM : CallFix p m c cc nL s args Ts own) (hC : Cur G b0 (ks, ad, T, P) s H locs) {t i : Nat} (hk : (t, i) ∈ ks) {n : Nat} {cA : ClassId} {C : String} (t0 : Nat) (he : cF G.2 t (T t i) (P t i) = eQ cA n (P t i)) (ht : (tyW G.2)[t0]? = some (cA, .object C)) {z : Int} (hz : 0 ≤ z ∧ z < (n : Int)) (hn : n < 2147483648) {r : Option Nat} (hr : P t i z.toNat = r) (hdg : decode cc pc = .ok (.aaload, 1)) (kk : W p l e R s m args below meth c H locs cells slots Q (F0 m (pc + 1) ls (va_rf r :: rest))) : W p l e R s m args below meth c H locs cells slots Q (F0 m pc ls (.int (iI z) :: .ref (ad t i) :: rest)) := by
  obtain ⟨j, hj⟩ := List.getElem?_of_mem hk
  have he2 := WO_get (G := G) (ad := ad) (T := T) (P := P) hj
  rw [he] at he2
  have hi : inI z := ⟨by omega, by omega⟩
  refine va_aldq hM.1 hM.2.1 hC.2.1 hC.2.2.2.1.1 j t0 he2 ht (iI_in hz.1 hz.2 hn) hdg ?_
  rw [iI_cl hi, hr]
  exact kk
/-- a row of long[][] -/
theorem y_aaldA (hM : CallFix p m c cc nL s args Ts own) (hC : Cur G b0 (ks, ad, T, P) s H locs) {t i : Nat} (hk : (t, i) ∈ ks) {n : Nat} (he : cF G.2 t (T t i) (P t i) = eQ (G.2 1) n (P t i)) {z : Int} (hz : 0 ≤ z ∧ z < (n : Int)) (hn : n < 2147483648) {r : Option Nat} (hr : P t i z.toNat = r) (hdg : decode cc pc = .ok (.aaload, 1)) (kk : W p l e R s m args below meth c H locs cells slots Q (F0 m (pc + 1) ls (va_rf r :: rest))) : W p l e R s m args below meth c H locs cells slots Q (F0 m pc ls (.int (iI z) :: .ref (ad t i) :: rest)) := by
  obtain ⟨j, hj⟩ := List.getElem?_of_mem hk
  have he2 := WO_get (G := G) (ad := ad) (T := T) (P := P) hj
  rw [he] at he2
  have hi : inI z := ⟨by omega, by omega⟩
  have hin := iI_in hz.1 hz.2 hn
  have hlt : (iI z).toNatClampNeg < n := Nat.not_le.mp fun q => hin (Or.inr q)
  refine W.aald (v := va_rf (P t i (iI z).toNatClampNeg)) (ty := .array .long) hM.1 hM.2.1 (hC.2.2.2.1.1 j _ he2) ((hC.2.1.2 1 _ rfl).1 n (fun j => va_rf (P t i j))) rfl (fun q => by cases q) (by show ¬ (iI z < 0 ∨ (arrV _ _ _).slots.size ≤ _); rw [arrV_size]; exact hin) (by show (arrV _ _ _).slots[_]? = _; rw [arrV_read _ _ hlt]) rfl rfl hdg ?_
  rw [iI_cl hi, hr]
  exact kk
theorem uR_f {α β : Type} (f : Nat → α) (g : α → β) (k : Nat) (v : α) : (fun j => g (uR f k v j)) = fun j => if j = k then g v else g (f j) := by
  funext j
  unfold uR
  split <;> rfl
theorem y_iast (hM : CallFix p m c cc nL s args Ts own) (hC : Cur G b0 (ks, ad, T, P) s H locs) {t i : Nat} (hk : (t, i) ∈ ks) {n : Nat} (he : ∀ f g, cF G.2 t f g = eI (G.2 5) n f) {z x : Int} (hz : 0 ≤ z ∧ z < (n : Int)) (hn : n < 2147483648) (hdg : decode cc pc = .ok (.iastore, 1)) (kk : ∀ (H1 : Heap) (locs1 : List Loc), Cur G b0 (ks, ad, up T t i z.toNat x, P) s H1 locs1 → W p l e R s m args below meth c H1 locs1 cells slots Q (F0 m (pc + 1) ls rest)) : W p l e R s m args below meth c H locs cells slots Q (F0 m pc ls (.int (iI x) :: .int (iI z) :: .ref (ad t i) :: rest)) := by
  obtain ⟨j, hj⟩ := List.getElem?_of_mem hk
  have he2 := WO_get (G := G) (ad := ad) (T := T) (P := P) hj
  rw [he] at he2
  have hi : inI z := ⟨by omega, by omega⟩
  obtain ⟨q1, q2, q3, q4, q5⟩ := hC
  refine va_iast hM.1 hM.2.1 q2 q4.1 q4.2 q5 j 5 he2 rfl (iI_in hz.1 hz.2 hn) hdg (fun H1 locs1 hP1 hD1 hS1 => ?_)
  rw [iI_cl hi] at hP1 hD1
  rw [WO_set q4.2 hj (T' := up T t i z.toNat x) (P' := P) (by
    rw [he, up_row]
    refine congrArg (fun q => (Sum.inl (G.2 5, n, Sum.inl q) : va_E)) ?_
    funext a
    unfold uR upd
    split <;> rfl) (fun a b h => up_ne h) (fun _ _ _ => rfl)] at hP1 hD1
  exact kk H1 locs1 ⟨q1, q2, q3, ⟨hP1, hD1⟩, hS1⟩
theorem y_last (hM : CallFix p m c cc nL s args Ts own) (hC : Cur G b0 (ks, ad, T, P) s H locs) {t i : Nat} (hk : (t, i) ∈ ks) {n : Nat} (he : ∀ f g, cF G.2 t f g = eJ (G.2 2) n f) {z x : Int} (hz : 0 ≤ z ∧ z < (n : Int)) (hn : n < 2147483648) (hdg : decode cc pc = .ok (.lastore, 1)) (kk : ∀ (H1 : Heap) (locs1 : List Loc), Cur G b0 (ks, ad, up T t i z.toNat x, P) s H1 locs1 → W p l e R s m args below meth c H1 locs1 cells slots Q (F0 m (pc + 1) ls rest)) : W p l e R s m args below meth c H locs cells slots Q (F0 m pc ls (.long (lI x) :: .int (iI z) :: .ref (ad t i) :: rest)) := by
  obtain ⟨j, hj⟩ := List.getElem?_of_mem hk
  have he2 := WO_get (G := G) (ad := ad) (T := T) (P := P) hj
  rw [he] at he2
  have hi : inI z := ⟨by omega, by omega⟩
  obtain ⟨q1, q2, q3, q4, q5⟩ := hC
  refine va_last hM.1 hM.2.1 q2 q4.1 q4.2 q5 j 2 he2 rfl (iI_in hz.1 hz.2 hn) hdg (fun H1 locs1 hP1 hD1 hS1 => ?_)
  rw [iI_cl hi] at hP1 hD1
  rw [WO_set q4.2 hj (T' := up T t i z.toNat x) (P' := P) (by
    rw [he, up_row]
    refine congrArg (fun q => (Sum.inl (G.2 2, n, Sum.inr (Sum.inl q)) : va_E)) ?_
    funext a
    unfold uR vp_updL
    split <;> rfl) (fun a b h => up_ne h) (fun _ _ _ => rfl)] at hP1 hD1
  exact kk H1 locs1 ⟨q1, q2, q3, ⟨hP1, hD1⟩, hS1⟩
/-! the end of a method -/
theorem y_iret {post : Option Value → St → Prop} {px : String → St → Prop} {mc ms : Nat} {u : St} {x : Int32} (hM : CallFix p m c cc nL s args Ts own) (hr : meth.sig.returnType = some .int) (hlk : meth.locks = false) (hC : Cur G b0 u s H locs) (hp : post (some (.int x)) u) (hc : cells ≤ mc) (hs : slots ≤ ms) (hdg : decode cc pc = .ok (.ireturn, 1)) : W p l e R s m args below meth c H locs cells slots (vx_MQ below (Qr post G b0) (Xr px G b0) args s mc ms (Wx b0)) (F0 m pc ls [.int x]) :=
  W.widen hc hs (vx_ret (W.iret hM.1 hM.2.1 hr (fun t ht hW => ⟨⟨_, u, rfl, hp, by rw [ht]; exact hC.2.2.2.1⟩, hC.2.2.2.2.F ht⟩) hC.2.2.2.2.2.2 hdg hlk))
theorem y_zret {post : Option Value → St → Prop} {px : String → St → Prop} {mc ms : Nat} {u : St} {x : Int32} (hM : CallFix p m c cc nL s args Ts own) (hr : meth.sig.returnType = some .boolean) (hlk : meth.locks = false) (hC : Cur G b0 u s H locs) (hn : narrow .boolean (.int x) = .int x) (hp : post (some (.int x)) u) (hc : cells ≤ mc) (hs : slots ≤ ms) (hdg : decode cc pc = .ok (.ireturn, 1)) : W p l e R s m args below meth c H locs cells slots (vx_MQ below (Qr post G b0) (Xr px G b0) args s mc ms (Wx b0)) (F0 m pc ls [.int x]) :=
  W.widen hc hs (vx_ret (W.zret hM.1 hM.2.1 hr hn (fun t ht hW => ⟨⟨_, u, rfl, hp, by rw [ht]; exact hC.2.2.2.1⟩, hC.2.2.2.2.F ht⟩) hC.2.2.2.2.2.2 hdg hlk))
theorem y_lret {post : Option Value → St → Prop} {px : String → St → Prop} {mc ms : Nat} {u : St} {x : Int64} (hM : CallFix p m c cc nL s args Ts own) (hr : meth.sig.returnType = some .long) (hlk : meth.locks = false) (hC : Cur G b0 u s H locs) (hp : post (some (.long x)) u) (hc : cells ≤ mc) (hs : slots ≤ ms) (hdg : decode cc pc = .ok (.lreturn, 1)) : W p l e R s m args below meth c H locs cells slots (vx_MQ below (Qr post G b0) (Xr px G b0) args s mc ms (Wx b0)) (F0 m pc ls [.long x]) :=
  W.widen hc hs (vx_ret (W.lret hM.1 hM.2.1 hr (fun t ht hW => ⟨⟨_, u, rfl, hp, by rw [ht]; exact hC.2.2.2.1⟩, hC.2.2.2.2.F ht⟩) hC.2.2.2.2.2.2 hdg hlk))
theorem y_aret {post : Option Value → St → Prop} {px : String → St → Prop} {mc ms : Nat} {u : St} {a : Nat} {C : String} (hM : CallFix p m c cc nL s args Ts own) (hr : meth.sig.returnType = some (.object C)) (hlk : meth.locks = false) (hC : Cur G b0 u s H locs) (hp : post (some (.ref a)) u) (hc : cells ≤ mc) (hs : slots ≤ ms) (hdg : decode cc pc = .ok (.areturn, 1)) : W p l e R s m args below meth c H locs cells slots (vx_MQ below (Qr post G b0) (Xr px G b0) args s mc ms (Wx b0)) (F0 m pc ls [.ref a]) :=
  W.widen hc hs (vx_ret (W.aret hM.1 hM.2.1 hr (Or.inl ⟨_, rfl⟩) (Or.inr ⟨_, rfl⟩) (fun t ht hW => ⟨⟨_, u, rfl, hp, by rw [ht]; exact hC.2.2.2.1⟩, hC.2.2.2.2.F ht⟩) hC.2.2.2.2.2.2 hdg hlk))
theorem y_vret {post : Option Value → St → Prop} {px : String → St → Prop} {mc ms : Nat} {u : St} (hM : CallFix p m c cc nL s args Ts own) (hr : meth.sig.returnType = none) (hlk : meth.locks = false) (hC : Cur G b0 u s H locs) (hp : post none u) (hc : cells ≤ mc) (hs : slots ≤ ms) (hdg : decode cc pc = .ok (.return_, 1)) : W p l e R s m args below meth c H locs cells slots (vx_MQ below (Qr post G b0) (Xr px G b0) args s mc ms (Wx b0)) (F0 m pc ls []) :=
  W.widen hc hs (vx_ret (W.vret hM.1 hM.2.1 hr (fun t ht hW => ⟨⟨_, u, rfl, hp, by rw [ht]; exact hC.2.2.2.1⟩, hC.2.2.2.2.F ht⟩) hC.2.2.2.2.2.2 hdg hlk))
/-- an exception that isn't caught here -/
theorem y_out {post : Option Value → St → Prop} {px : String → St → Prop} {mc ms : Nat} {u : St} {E : String} {ce : Cell} {q : Addr} (hto : ∀ x ∈ c.exceptionTable.toList, False) (hlk : meth.locks = false) (hC : Cur G b0 u s H locs) (hcell : H[q]? = some ce) (hv : ce.vm = .none) (hcl : s.vm.findClass E = some ce.cls) (hp : px E u) (hc : cells ≤ mc) (hs : slots ≤ ms) : vx_W p l e R s m args below meth c H locs cells slots (vx_MQ below (Qr post G b0) (Xr px G b0) args s mc ms (Wx b0)) (F0 m pc ls rest) q :=
  vx_out (fun x hx => (hto x hx).elim) hlk hcell hv hcl (fun t ht hA => ⟨⟨u, hp, by rw [ht]; exact hC.2.2.2.1⟩, hC.2.2.2.2.F ht⟩) hC.2.2.2.2.2.2 hc hs
abbrev excN : List String := ["java/lang/RuntimeException", "java/lang/Exception"]
abbrev ngL (cls : String) : List Cond := [Cond.castable cls cls, .declares (Bundle.initS "java/lang/RuntimeException"), .declares (Bundle.initS "java/lang/Exception"), .declares (Bundle.initS Bundle.tN)]
theorem y_throw {post : Option Value → St → Prop} {px : String → St → Prop} {mc ms : Nat} {u : St} (hM : CallFix p m c cc nL s args Ts RX3) (hto : ∀ x ∈ c.exceptionTable.toList, False) (hfl : l.stackTraces = false) (hlk : meth.locks = false) (hls : ls.size = nL) (hC : Cur G b0 u s H locs) {cls text : String} {ik is ic : Nat} (hcls : cls ∈ castWs ∧ Bundle.fit cls = true) (hstr : (is, text) ∈ strWs) (hng : ∀ w ∈ (vx_atS RX3 ic cls excN).filter (fun w => !goodWord w), w ∈ ngL cls) (hgood : ∀ w ∈ Cond.classLink RX3 ik cls :: Cond.initialized cls :: vx_atS RX3 ic cls excN, vx_ot w = true) (hkw : Cond.classLink RX3 ik cls ∈ Ts ∧ Cond.initialized cls ∈ Ts) (hgw : ∀ w ∈ (vx_atS RX3 ic cls excN).filter goodWord, w ∈ Ts)
    (d0 : decode cc pc = .ok (.new ik, 3)) (d3 : decode cc (pc + 3) = .ok (.dup, 1)) (d4 : decode cc (pc + 4) = .ok (.ldc is, 2)) (d6 : decode cc (pc + 6) = .ok (.invokespecial ic, 3)) (d9 : decode cc (pc + 9) = .ok (.athrow, 1))
    (hR : 5 < R.frames ∧ (rest.map fun v => v.category).sum + 82 ≤ R.locals ∧ cells + 1 ≤ R.cells ∧ slots + 6 ≤ R.slots) (hp : px cls u) (hc : cells + 1 ≤ mc) (hs : slots + 6 ≤ ms) : W p l e R s m args below meth c H locs cells slots (vx_MQ below (Qr post G b0) (Xr px G b0) args s mc ms (Wx b0)) (F0 m pc ls rest) := by
  obtain ⟨q1, q2, q3, q4, q5⟩ := hC
  obtain ⟨sa, hsa⟩ := q3.2.2.2.1 _ hstr
  refine vx_throwS (A := Wx b0) (names := excN) hM.1 hM.2.1 hfl hM.2.2.2.1 hcls.2 (by decide +kernel) (hM.2.2.2.2 _ hkw.1) (hM.2.2.2.2 _ hkw.2) hsa (vx_hat (fun w hw => hM.2.2.2.2 _ (hgw w hw)) hng (vx_c (va_Nw.use rfl (q3.2.1 _ hcls.1)) (vx_c (va_Nw.use rfl (q3.2.2.1.1 _ (by decide +kernel))) (vx_c (va_Nw.use rfl (q3.2.2.1.1 _ (by decide +kernel))) (vx_c (va_Nw.use rfl (q3.2.2.1.1 _ (by decide +kernel))) vx_n))))) hgood q3.2.2.2.2.1 q3.2.2.2.2.2.1 q5 (hls.trans hM.2.2.1.symm) d0 d3 d4 d6 d9 (fun x hx => (hto x hx).elim) hR.1 (by have := hR.2.1; simp only [List.length_cons, List.length_nil]; omega) hR.2.2.1 hR.2.2.2 hlk (fun t hA hz hk => ⟨⟨u, hp, ⟨q4.1.kept (fun k q hq => hk q.1 (q4.1 k q hq).lt), q4.2⟩⟩, ⟨Nat.le_trans q5.1 hz, fun q h1 h2 => ?_⟩⟩) q5.2.2 hc hs
  rw [hk q (Nat.lt_of_lt_of_le h1 q5.1)]
  exact q5.2.1 q h1 h2
/-! calls -/
theorem y_recv (hC : Cur G b0 (ks, ad, T, P) s H locs) {t i : Nat} (hk : (t, i) ∈ ks) {C : String} {Tc : u_T} {N ci : Nat} {fs : List Value} (he : cF G.2 t (T t i) (P t i) = .inr (ci, fs)) (hc : vwCl[ci]? = some (C, Tc, N)) : ∃ cell : Cell, H[ad t i]? = some cell ∧ cell.vm.isStatics = false ∧ s.vm.findClass C = some cell.cls := by
  obtain ⟨j, hj⟩ := List.getElem?_of_mem hk
  have he2 := WO_get (G := G) (ad := ad) (T := T) (P := P) hj
  rw [he] at he2
  exact va_recv hC.2.1 hC.2.2.2.1.1 hc he2
theorem y_run {y : MethodName} {mc ms : Nat} {post : Option Value → St → Prop} {px : String → St → Prop} {u : St} {a : Array Value} {st0 : List Value} (hr : vx_Run p l e R s m args below meth c H locs cells slots mc ms (F0 m pc ls st0) rest (Qr post G b0 a) (Xr px G b0) (Wx b0)) (hC : Cur G b0 u s H locs)
    (kx : ∀ (E : String) (ce : Cell) (q9 : Addr) (u1 : St) (H1 : Heap) (locs1 : List Loc), px E u1 → Cur G b0 u1 s H1 locs1 → H1[q9]? = some ce → ce.vm = .none → s.vm.findClass E = some ce.cls → vx_W p l e R s m args below meth c H1 locs1 (cells + mc) (slots + ms) Q (F0 m pc ls rest) q9)
    (kk : ∀ (v : Option Value) (u1 : St) (H1 : Heap) (locs1 : List Loc), post v u1 → Cur G b0 u1 s H1 locs1 → W p l e R s m args below meth c H1 locs1 (cells + mc) (slots + ms) Q (F0 m (pc + 3) ls (v.toList ++ rest))) : W p l e R s m args below meth c H locs cells slots Q (F0 m pc ls st0) := by
  obtain ⟨q1, q2, q3, q4, q5⟩ := hC
  intro T hT X
  rcases hr T hT X with ⟨v, st₀, t, T', L, h0, X', hL, e1, e2, ⟨⟨v2, u1, hv, hp, hat⟩, hF⟩, st⟩ | ⟨q, st₀, t, T', L, E, ce, h0, X', hL, e1, e2, ⟨⟨u1, hp, hat⟩, hF⟩, hce, hcv, hcl, st⟩
  · cases hv
    obtain ⟨k1, k2, k3⟩ := vx_keep h0 e1 q5 (fun _ _ h => h) (fun _ h => h) hL hF
    obtain ⟨t2, a1, b1⟩ := kk v u1 T'.heap (locs ++ L) hp ⟨q1, q2, q3, by rw [e1]; exact hat, k3⟩ T' rfl X'
    exact ⟨t2, st t2 a1, b1⟩
  · obtain ⟨k1, k2, k3⟩ := vx_keep h0 e1 q5 (fun _ _ h => h) (fun _ h => h) hL hF
    obtain ⟨t2, a1, b1⟩ := kx E ce q u1 T'.heap (locs ++ L) hp ⟨q1, q2, q3, by rw [e1]; exact hat, k3⟩ (by rw [e1]; exact hce) hcv hcl T' rfl X'
    exact ⟨t2, st.trans a1, b1⟩
theorem y_callV {y : MethodName} {bytes : ByteArray} {maxL mc ms n index : Nat} {ret : Option FieldType} {ws : List Cond} {rm : Room} {post : Option Value → St → Prop} {px : String → St → Prop} {u : St} {C : String} {b : Addr} {As st0 : List Value} (hM : CallFix p m c cc nL s args Ts own) (hC : Cur G b0 u s H locs) (hMet : vx_Met l y ws rm (va_Pc (.ref b :: As) (Ok G b0 u)) (Qr post G b0) (Xr px G b0) mc ms (Wx b0)) (cw : CallW R s args own C index y bytes maxL ret ws rm mc ms n) (hrv : ∃ cell : Cell, H[b]? = some cell ∧ cell.vm.isStatics = false ∧ s.vm.findClass C = some cell.cls) (hn : As.length = n) (hls : ls.size = nL) (hst : st0 = As.reverse ++ .ref b :: rest) (hW : (rest.map fun v => v.category).sum ≤ 8) (hdg : decode cc pc = .ok (.invokevirtual index, 3)) (hf : cells + mc ≤ R.cells ∧ slots + ms ≤ R.slots)
    (kx : ∀ (E : String) (ce : Cell) (q9 : Addr) (u1 : St) (H1 : Heap) (locs1 : List Loc), px E u1 → Cur G b0 u1 s H1 locs1 → H1[q9]? = some ce → ce.vm = .none → s.vm.findClass E = some ce.cls → vx_W p l e R s m args below meth c H1 locs1 (cells + mc) (slots + ms) Q (F0 m pc ls rest) q9)
    (kk : ∀ (v : Option Value) (u1 : St) (H1 : Heap) (locs1 : List Loc), post v u1 → Cur G b0 u1 s H1 locs1 → W p l e R s m args below meth c H1 locs1 (cells + mc) (slots + ms) Q (F0 m (pc + 3) ls (v.toList ++ rest))) : W p l e R s m args below meth c H locs cells slots Q (F0 m pc ls st0) :=
  y_run (y := y) (vx_runV hM hMet cw ⟨okBlind, hrv, fun U hU hW => ⟨rfl, hC.ok hU hW⟩⟩ rfl hn hls hst (lv_room hW) hdg hf) hC kx kk
theorem y_callS {y : MethodName} {bytes : ByteArray} {maxL mc ms n index : Nat} {ret : Option FieldType} {ws : List Cond} {rm : Room} {post : Option Value → St → Prop} {px : String → St → Prop} {u : St} {As st0 : List Value} (hM : CallFix p m c cc nL s args Ts own) (hC : Cur G b0 u s H locs) (hMet : vx_Met l y ws rm (va_Pc As (Ok G b0 u)) (Qr post G b0) (Xr px G b0) mc ms (Wx b0)) (cw : CallB R s args own index y bytes maxL ret ws rm mc ms n ∧ (Cond.static y).before args s = true) (hn : As.length = n) (hls : ls.size = nL) (hst : st0 = As.reverse ++ rest) (hW : (rest.map fun v => v.category).sum ≤ 8) (hdg : decode cc pc = .ok (.invokestatic index, 3)) (hf : cells + mc ≤ R.cells ∧ slots + ms ≤ R.slots)
    (kx : ∀ (E : String) (ce : Cell) (q9 : Addr) (u1 : St) (H1 : Heap) (locs1 : List Loc), px E u1 → Cur G b0 u1 s H1 locs1 → H1[q9]? = some ce → ce.vm = .none → s.vm.findClass E = some ce.cls → vx_W p l e R s m args below meth c H1 locs1 (cells + mc) (slots + ms) Q (F0 m pc ls rest) q9)
    (kk : ∀ (v : Option Value) (u1 : St) (H1 : Heap) (locs1 : List Loc), post v u1 → Cur G b0 u1 s H1 locs1 → W p l e R s m args below meth c H1 locs1 (cells + mc) (slots + ms) Q (F0 m (pc + 3) ls (v.toList ++ rest))) : W p l e R s m args below meth c H locs cells slots Q (F0 m pc ls st0) :=
  y_run (y := y) (vx_runS hM hMet cw ⟨okBlind, fun U hU hW => ⟨rfl, hC.ok hU hW⟩⟩ rfl hn hls hst (lv_room hW) hdg hf) hC kx kk
end YR
/-- a method that throws nothing -/
abbrev noX : String → St → Prop := fun _ _ => False
theorem met_of_vx {l : Launch} {y : MethodName} {ws : List Cond} {rm : Room} {Pc : Array Value → State → Prop} {Qc : Array Value → State → Outcome → State → Prop} {mc ms : Nat} {free : Addr → Prop} {G : GG} {b0 : Nat} (h : vx_Met l y ws rm Pc Qc (Xr noX G b0) mc ms free) : Met l y ws rm Pc Qc mc ms free := by
  intro p e h1 h2 h3 s m args below h4 h5 h6 h7
  obtain ⟨n, o, a1, a2, a3, a4⟩ := h p e h1 h2 h3 s m args below h4 h5 h6 h7
  refine ⟨n, o, a1, a2, a3, ?_⟩
  rcases a4 with a4 | ⟨q, -, E, ce, L, ⟨⟨u, hu, -⟩, -⟩, -⟩
  · exact a4
  · exact hu.elim
section YI
variable {p : Program} {l : Launch} {e : Env} {R : Room} {s : State} {m : MethodId} {args : Array Value} {below : List Frame} {meth : Method} {c : Code} {H : Heap} {locs : List Loc} {cells slots : Nat} {Q : State → Prop}
variable {cc : ByteArray} {nL : Nat} {Ts : List Cond} {own : String} {pc : Nat} {ls : Array Slot} {rest : List Value}
variable {G : GG} {b0 : Nat} {ks : KK} {ad : AD} {T : TT} {P : PP}
/-- a constructor that throws nothing -/
theorem y_callI {y : MethodName} {bytes : ByteArray} {maxL mc ms n index : Nat} {ws : List Cond} {rm : Room} {post : Option Value → St → Prop} {u : St} {b : Addr} {As st0 : List Value} (hM : CallFix p m c cc nL s args Ts own) (hC : Cur G b0 u s H locs) (hMet : vx_Met l y ws rm (va_Pc (.ref b :: As) (Ok G b0 u)) (Qr post G b0) (Xr noX G b0) mc ms (Wx b0)) (cw : CallB R s args own index y bytes maxL none ws rm mc ms n ∧ y.name = "<init>" ∧ (Cond.instanceMethod y).before args s = true) (hn : As.length = n) (hls : ls.size = nL) (hst : st0 = As.reverse ++ .ref b :: rest) (hW : (rest.map fun v => v.category).sum ≤ 8) (hdg : decode cc pc = .ok (.invokespecial index, 3)) (hf : cells + mc ≤ R.cells ∧ slots + ms ≤ R.slots)
    (kk : ∀ (v : Option Value) (u1 : St) (H1 : Heap) (locs1 : List Loc), post v u1 → Cur G b0 u1 s H1 locs1 → W p l e R s m args below meth c H1 locs1 (cells + mc) (slots + ms) Q (F0 m (pc + 3) ls (v.toList ++ rest))) : W p l e R s m args below meth c H locs cells slots Q (F0 m pc ls st0) := by
  have hr := va_runI (H := H) (locs := locs) (cells := cells) (slots := slots) (e := e) (below := below) (meth := meth) (g := F0 m pc ls st0) (rest := rest) hM (met_of_vx hMet) cw ⟨okBlind, fun U hU hW => ⟨rfl, hC.ok hU hW⟩⟩ rfl hn hls hst (lv_room hW) hdg hf
  obtain ⟨q1, q2, q3, q4, q5⟩ := hC
  intro T hT X
  obtain ⟨v, st₀, t, T', L, h0, X', hL, e1, e2, ⟨⟨v2, u1, hv, hp, hat⟩, hF⟩, st⟩ := hr T hT X
  cases hv
  obtain ⟨k1, k2, k3⟩ := vx_keep h0 e1 q5 (fun _ _ h => h) (fun _ h => h) hL hF
  obtain ⟨t2, a1, b1⟩ := kk v u1 T'.heap (locs ++ L) hp ⟨q1, q2, q3, by rw [e1]; exact hat, k3⟩ T' rfl X'
  exact ⟨t2, st t2 a1, b1⟩
theorem y_callSN {host : String} {y : MethodName} {bytes : ByteArray} {maxL mc ms n index : Nat} {ret : Option FieldType} {ws : List Cond} {rm : Room} {post : Option Value → St → Prop} {u : St} {As st0 : List Value} (hM : CallFix p m c cc nL s args Ts own) (hC : Cur G b0 u s H locs) (hMet : vx_Met l y ws rm (va_Pc As (Ok G b0 u)) (Qr post G b0) (Xr noX G b0) mc ms (Wx b0)) (cw : va_CN R s args own index y host bytes maxL ret ws rm mc ms n ∧ (Cond.static y).before args s = true ∧ True) (hn : As.length = n) (hls : ls.size = nL) (hst : st0 = As.reverse ++ rest) (hW : (rest.map fun v => v.category).sum ≤ 8) (hdg : decode cc pc = .ok (.invokestatic index, 3)) (hf : cells + mc ≤ R.cells ∧ slots + ms ≤ R.slots)
    (kk : ∀ (v : Option Value) (u1 : St) (H1 : Heap) (locs1 : List Loc), post v u1 → Cur G b0 u1 s H1 locs1 → W p l e R s m args below meth c H1 locs1 (cells + mc) (slots + ms) Q (F0 m (pc + 3) ls (v.toList ++ rest))) : W p l e R s m args below meth c H locs cells slots Q (F0 m pc ls st0) := by
  have hr := va_runSN (H := H) (locs := locs) (cells := cells) (slots := slots) (e := e) (below := below) (meth := meth) (g := F0 m pc ls st0) (rest := rest) hM (met_of_vx hMet) cw ⟨okBlind, fun U hU hW => ⟨rfl, hC.ok hU hW⟩⟩ rfl hn hls hst (lv_room hW) hdg hf
  obtain ⟨q1, q2, q3, q4, q5⟩ := hC
  intro T hT X
  obtain ⟨v, st₀, t, T', L, h0, X', hL, e1, e2, ⟨⟨v2, u1, hv, hp, hat⟩, hF⟩, st⟩ := hr T hT X
  cases hv
  obtain ⟨k1, k2, k3⟩ := vx_keep h0 e1 q5 (fun _ _ h => h) (fun _ h => h) hL hF
  obtain ⟨t2, a1, b1⟩ := kk v u1 T'.heap (locs ++ L) hp ⟨q1, q2, q3, by rw [e1]; exact hat, k3⟩ T' rfl X'
  exact ⟨t2, st t2 a1, b1⟩
end YI
theorem cF_up {cy : Nat → ClassId} {t i k : Nat} {z : Int} {e : va_E} {T : TT} {g : Nat → Option Nat} (h : e = cF cy t (uR (T t i) k z) g) : e = cF cy t (up T t i k z t i) g := by
  rw [up_row]
  exact h
theorem cF_upP {cy : Nat → ClassId} {t i k : Nat} {z : Option Nat} {e : va_E} {P : PP} {f : Nat → Int} (h : e = cF cy t f (uR (P t i) k z)) : e = cF cy t f (upP P t i k z t i) := by
  rw [upP_row]
  exact h
