/-! ===== rows that the law wants ===== -/
theorem nI_iI (j : Nat) : nI j = iI (j : Int) := by
  unfold nI iI
  exact (Int32.ofInt_eq_ofNat).symm
theorem iI_div {a b : Int} (ha : 0 ≤ a) (ha2 : a < 2147483648) (hb : 0 < b) (hb2 : b < 2147483648) : iI a / iI b = iI (a / b) := by
  have h1 : (iI b) ≠ -1 := by
    intro h
    have h2 := congrArg Int32.toInt h
    rw [iI_T ⟨by omega, hb2⟩] at h2
    have h3 : (-1 : Int32).toInt = -1 := by decide
    omega
  have hq : 0 ≤ a / b := Int.ediv_nonneg ha (by omega)
  have hq2 : a / b ≤ a := Int.ediv_le_self b ha
  rw [← Int32.toInt_inj, Int32.toInt_div_of_ne_right _ _ h1, iI_T ⟨by omega, ha2⟩, iI_T ⟨by omega, hb2⟩, iI_T ⟨by omega, by omega⟩, Int.tdiv_eq_ediv_of_nonneg ha]
theorem emod_eq (a b : Int) : a - a / b * b = a % b := by
  rw [Int.emod_def, Int.mul_comm]
section YL
variable {p : Program} {l : Launch} {e : Env} {R : Room} {s : State} {m : MethodId} {args : Array Value} {below : List Frame} {meth : Method} {c : Code} {H : Heap} {locs : List Loc} {cells slots : Nat} {Q : State → Prop}
variable {cc : ByteArray} {nL : Nat} {Ts : List Cond} {own : String} {pc : Nat} {ls : Array Slot} {rest : List Value}
variable {G : GG} {b0 : Nat} {u : St} {b L : Nat} {xs : Nat → Int32}
theorem y_idiv (hM : CallFix p m c cc nL s args Ts own) {a b : Int} (h : 0 ≤ a ∧ a < 2147483648 ∧ 0 < b ∧ b < 2147483648) (hdg : decode cc pc = .ok (.idiv, 1)) (k : W p l e R s m args below meth c H locs cells slots Q (F0 m (pc + 1) ls (.int (iI (a / b)) :: rest))) : W p l e R s m args below meth c H locs cells slots Q (F0 m pc ls (.int (iI b) :: .int (iI a) :: rest)) := lv_idiv hM.1 hM.2.1 hdg (fun q => by
  have h2 := congrArg Int32.toInt q
  rw [iI_T ⟨by omega, by omega⟩] at h2
  have h3 : (0 : Int32).toInt = 0 := by decide
  omega) (by rw [iI_div h.1 h.2.1 h.2.2.1 h.2.2.2]; exact k)
theorem y_irem (hM : CallFix p m c cc nL s args Ts own) {a b : Int} (h : 0 ≤ a ∧ a < 2147483648 ∧ 0 < b ∧ b < 2147483648) (hdg : decode cc pc = .ok (.irem, 1)) (k : W p l e R s m args below meth c H locs cells slots Q (F0 m (pc + 1) ls (.int (iI (a % b)) :: rest))) : W p l e R s m args below meth c H locs cells slots Q (F0 m pc ls (.int (iI b) :: .int (iI a) :: rest)) := lv_irem hM.1 hM.2.1 hdg (fun q => by
  have h2 := congrArg Int32.toInt q
  rw [iI_T ⟨by omega, by omega⟩] at h2
  have h3 : (0 : Int32).toInt = 0 := by decide
  omega) (by rw [iI_div h.1 h.2.1 h.2.2.1 h.2.2.2, iI_mul, iI_sub, emod_eq]; exact k)
theorem y_lrem (hM : CallFix p m c cc nL s args Ts own) {a b : Int} (h : 0 ≤ a ∧ a < 9223372036854775808 ∧ 0 < b ∧ b < 9223372036854775808) (hdg : decode cc pc = .ok (.lrem, 1)) (k : W p l e R s m args below meth c H locs cells slots Q (F0 m (pc + 1) ls (.long (lI (a % b)) :: rest))) : W p l e R s m args below meth c H locs cells slots Q (F0 m pc ls (.long (lI b) :: .long (lI a) :: rest)) := lv_lrem hM.1 hM.2.1 hdg (fun q => by
  have h2 := congrArg Int64.toInt q
  rw [lI_T ⟨by omega, by omega⟩] at h2
  have h3 : (0 : Int64).toInt = 0 := by decide
  omega) (by rw [lI_div h.1 h.2.1 h.2.2.1 h.2.2.2, lI_mul, lI_sub, emod_eq]; exact k)
theorem y_scr (hM : CallFix p m c cc nL s args Ts own) (hX : va_X b L xs s s.heap) (hbl : b < s.heap.size) (hbA : ¬ b0 ≤ b) (hC : Cur G b0 u s H locs) {z : Int} {k : Nat} (hz : z = (k : Int)) (hk : k < L) (hL : L ≤ 260) (hdg : decode cc pc = .ok (.iaload, 1)) (kk : W p l e R s m args below meth c H locs cells slots Q (F0 m (pc + 1) ls (.int (iI (xs k).toInt) :: rest))) : W p l e R s m args below meth c H locs cells slots Q (F0 m pc ls (.int (iI z) :: .ref b :: rest)) := by
  subst hz
  refine va_sld (A := Wx b0) hM.1 hM.2.1 hX hbl hbA hC.2.2.2.2 (iI_in (by omega) (by omega) (by omega)) hdg ?_
  rw [iI_cl ⟨by omega, by omega⟩, Int.toNat_natCast]
  rw [← iI_of (xs k)] at kk
  exact kk
theorem y_slen (hM : CallFix p m c cc nL s args Ts own) (hX : va_X b L xs s s.heap) (hbl : b < s.heap.size) (hbA : ¬ b0 ≤ b) (hC : Cur G b0 u s H locs) (hdg : decode cc pc = .ok (.arraylength, 1)) (kk : W p l e R s m args below meth c H locs cells slots Q (F0 m (pc + 1) ls (.int (iI (L : Int)) :: rest))) : W p l e R s m args below meth c H locs cells slots Q (F0 m pc ls (.ref b :: rest)) :=
  va_slen (A := Wx b0) hM.1 hM.2.1 hX hbl hbA hC.2.2.2.2 hdg kk
end YL
/-! a call that is handed the script -/
def OkS (b L : Nat) (xs : Nat → Int32) (G : GG) (b0 : Nat) (u : St) (U : State) : Prop := Ok G b0 u U ∧ va_X b L xs U U.heap ∧ b < U.heap.size
theorem okSBlind {b L : Nat} {xs : Nat → Int32} {G : GG} {b0 : Nat} {u : St} {As : List Value} : FrameBlind (va_Pc As (OkS b L xs G b0 u)) := by
  intro a U g mk h
  obtain ⟨h1, h2, h3, h4⟩ := h
  obtain ⟨h5, h6⟩ := okBlind (As := As) a U g mk ⟨h1, h2⟩
  exact ⟨h5, h6, h3.moved (u := U) (U := U.calling g mk a) (Vm.Alike.refl U.vm), h4⟩
section YK
variable {p : Program} {l : Launch} {e : Env} {R : Room} {s : State} {m : MethodId} {args : Array Value} {below : List Frame} {meth : Method} {c : Code} {H : Heap} {locs : List Loc} {cells slots : Nat} {Q : State → Prop}
variable {cc : ByteArray} {nL : Nat} {Ts : List Cond} {own : String} {pc : Nat} {ls : Array Slot} {rest : List Value}
variable {G : GG} {b0 : Nat} {b L : Nat} {xs : Nat → Int32}
theorem y_callSS {y : MethodName} {bytes : ByteArray} {maxL mc ms n index : Nat} {ret : Option FieldType} {ws : List Cond} {rm : Room} {post : Option Value → St → Prop} {px : String → St → Prop} {u : St} {As st0 : List Value} (hM : CallFix p m c cc nL s args Ts own) (hX : va_X b L xs s s.heap) (hbl : b < s.heap.size) (hbA : ¬ b0 ≤ b) (hC : Cur G b0 u s H locs) (hMet : vx_Met l y ws rm (va_Pc As (OkS b L xs G b0 u)) (Qr post G b0) (Xr px G b0) mc ms (Wx b0)) (cw : CallB R s args own index y bytes maxL ret ws rm mc ms n ∧ (Cond.static y).before args s = true) (hn : As.length = n) (hls : ls.size = nL) (hst : st0 = As.reverse ++ rest) (hW : (rest.map fun v => v.category).sum ≤ 8) (hdg : decode cc pc = .ok (.invokestatic index, 3)) (hf : cells + mc ≤ R.cells ∧ slots + ms ≤ R.slots)
    (kx : ∀ (E : String) (ce : Cell) (q9 : Addr) (u1 : St) (H1 : Heap) (locs1 : List Loc), px E u1 → Cur G b0 u1 s H1 locs1 → H1[q9]? = some ce → ce.vm = .none → s.vm.findClass E = some ce.cls → vx_W p l e R s m args below meth c H1 locs1 (cells + mc) (slots + ms) Q (F0 m pc ls rest) q9)
    (kk : ∀ (v : Option Value) (u1 : St) (H1 : Heap) (locs1 : List Loc), post v u1 → Cur G b0 u1 s H1 locs1 → W p l e R s m args below meth c H1 locs1 (cells + mc) (slots + ms) Q (F0 m (pc + 3) ls (v.toList ++ rest))) : W p l e R s m args below meth c H locs cells slots Q (F0 m pc ls st0) :=
  y_run (y := y) (vx_runS hM hMet cw ⟨okSBlind, fun U hU hW => ⟨rfl, hC.ok hU hW, (hX.moved hW.alike).kept (by rw [hU]; exact hC.2.2.2.2.2.1 b hbl hbA), by rw [hU]; exact Nat.lt_of_lt_of_le hbl hC.2.2.2.2.1⟩⟩ rfl hn hls hst (lv_room hW) hdg hf) hC kx kk
theorem y_callSY {y : MethodName} {bytes : ByteArray} {maxL mc ms n index : Nat} {ret : Option FieldType} {ws : List Cond} {rm : Room} {post : Option Value → St → Prop} {px : String → St → Prop} {u : St} {As st0 : List Value} (hM : CallFix p m c cc nL s args Ts own) (hN : NcX s) (hC : Cur G b0 u s H locs) (hMet : vx_Met l y ws rm (va_Pc As (OkN G b0 u)) (Qr post G b0) (Xr px G b0) mc ms (Wx b0)) (cw : CallB R s args own index y bytes maxL ret ws rm mc ms n ∧ (Cond.static y).before args s = true) (hn : As.length = n) (hls : ls.size = nL) (hst : st0 = As.reverse ++ rest) (hW : (rest.map fun v => v.category).sum ≤ 8) (hdg : decode cc pc = .ok (.invokestatic index, 3)) (hf : cells + mc ≤ R.cells ∧ slots + ms ≤ R.slots)
    (kx : ∀ (E : String) (ce : Cell) (q9 : Addr) (u1 : St) (H1 : Heap) (locs1 : List Loc), px E u1 → Cur G b0 u1 s H1 locs1 → H1[q9]? = some ce → ce.vm = .none → s.vm.findClass E = some ce.cls → vx_W p l e R s m args below meth c H1 locs1 (cells + mc) (slots + ms) Q (F0 m pc ls rest) q9)
    (kk : ∀ (v : Option Value) (u1 : St) (H1 : Heap) (locs1 : List Loc), post v u1 → Cur G b0 u1 s H1 locs1 → W p l e R s m args below meth c H1 locs1 (cells + mc) (slots + ms) Q (F0 m (pc + 3) ls (v.toList ++ rest))) : W p l e R s m args below meth c H locs cells slots Q (F0 m pc ls st0) :=
  y_run (y := y) (vx_runS hM hMet cw ⟨okNBlind, fun U hU hW => ⟨rfl, hC.ok hU hW, hN.moved hW.alike⟩⟩ rfl hn hls hst (lv_room hW) hdg hf) hC kx kk
end YK
