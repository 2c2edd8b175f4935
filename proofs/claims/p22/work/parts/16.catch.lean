/-! ===== calls that are caught ===== -/
def NcX (U : State) : Prop := ∀ E ∈ castWs, ∀ F ∈ castWs, E ≠ F → va_Nc E F U
theorem NcX.moved {u U : State} (hW : u.vm.Alike U.vm) (h : NcX u) : NcX U := fun E hE F hF hn => va_Nc.moved hW (h E hE F hF hn)
def OkN (G : GG) (b0 : Nat) (u : St) (U : State) : Prop := Ok G b0 u U ∧ NcX U
theorem okNBlind {G : GG} {b0 : Nat} {u : St} {As : List Value} : FrameBlind (va_Pc As (OkN G b0 u)) := by
  intro a U g mk h
  obtain ⟨h1, h2, h3⟩ := h
  obtain ⟨h4, h5⟩ := okBlind (As := As) a U g mk ⟨h1, h2⟩
  exact ⟨h4, h5, h3.moved (u := U) (U := U.calling g mk a) (Vm.Alike.refl U.vm)⟩
section YC
variable {p : Program} {l : Launch} {e : Env} {R : Room} {s : State} {m : MethodId} {args : Array Value} {below : List Frame} {meth : Method} {c : Code} {H : Heap} {locs : List Loc} {cells slots : Nat} {Q : State → Prop}
variable {cc : ByteArray} {nL : Nat} {Ts : List Cond} {own : String} {pc : Nat} {ls : Array Slot} {rest : List Value}
variable {G : GG} {b0 : Nat} {ks : KK} {ad : AD} {T : TT} {P : PP}
theorem y_catch {E : String} {ce : Cell} {q : Addr} {u : St} {hp : Nat} (hM : CallFix p m c cc nL s args Ts own) (hN : NcX s) (hC : Cur G b0 u s H locs) {hh : List (Nat × Nat × Nat × Nat)} (htb : c.exceptionTable.toList = tableOf hh) (pre : List (Nat × Nat × Nat × Nat)) (x : Nat × Nat × Nat × Nat) (suf : List (Nat × Nat × Nat × Nat)) (hsplit : hh = pre ++ x :: suf)
    (hE : E ∈ castWs) (hpass : ∀ z ∈ pre, z.2.2.2 ≠ 0 ∧ ∃ nm ∈ castWs, Cond.classLink own z.2.2.2 nm ∈ Ts ∧ E ≠ nm) (hx : covers ⟨x.1, x.2.1, x.2.2.1, x.2.2.2⟩ pc = true) (h0 : x.2.2.2 ≠ 0) (hlink : Cond.classLink own x.2.2.2 E ∈ Ts) (hcell : H[q]? = some ce) (hv : ce.vm = .none) (hcl : s.vm.findClass E = some ce.cls) (hpp : x.2.2.1 = hp)
    (kk : W p l e R s m args below meth c H locs cells slots Q (F0 m hp ls [.ref q])) : vx_W p l e R s m args below meth c H locs cells slots Q (F0 m pc ls rest) q := by
  subst hpp
  refine vx_catch (own := own) (name := E) hM.2.2.2.1 (tableOf pre) ⟨x.1, x.2.1, x.2.2.1, x.2.2.2⟩ (tableOf suf) (by rw [htb, hsplit]; simp [tableOf]) (fun z hz => ?_) hx h0 (hM.2.2.2.2 _ hlink) (va_Nw.use rfl (hC.2.2.1.2.1 E hE)) hcell hv hcl kk
  obtain ⟨y, hy, rfl⟩ := List.mem_map.mp hz
  obtain ⟨h1, nm, h2, h3, h4⟩ := hpass y hy
  exact Or.inr ⟨h1, nm, hM.2.2.2.2 _ h3, hN E hE nm h2 h4⟩
theorem y_callSX {y : MethodName} {bytes : ByteArray} {maxL mc ms n index : Nat} {ret : Option FieldType} {hh : List (Nat × Nat × Nat × Nat)} {ws : List Cond} {rm : Room} {post : Option Value → St → Prop} {px : String → St → Prop} {u : St} {As st0 : List Value} (hM : CallFix p m c cc nL s args Ts own) (hN : NcX s) (hC : Cur G b0 u s H locs) (hMet : vx_Met l y ws rm (va_Pc As (OkN G b0 u)) (Qr post G b0) (Xr px G b0) mc ms (Wx b0)) (cw : vx_CSW R s args own index y bytes maxL ret hh ws rm mc ms n) (hn : As.length = n) (hls : ls.size = nL) (hst : st0 = As.reverse ++ rest) (hW : (rest.map fun v => v.category).sum ≤ 8) (hdg : decode cc pc = .ok (.invokestatic index, 3)) (hf : cells + mc ≤ R.cells ∧ slots + ms ≤ R.slots)
    (kx : ∀ (E : String) (ce : Cell) (q9 : Addr) (u1 : St) (H1 : Heap) (locs1 : List Loc), px E u1 → Cur G b0 u1 s H1 locs1 → H1[q9]? = some ce → ce.vm = .none → s.vm.findClass E = some ce.cls → vx_W p l e R s m args below meth c H1 locs1 (cells + mc) (slots + ms) Q (F0 m pc ls rest) q9)
    (kk : ∀ (v : Option Value) (u1 : St) (H1 : Heap) (locs1 : List Loc), post v u1 → Cur G b0 u1 s H1 locs1 → W p l e R s m args below meth c H1 locs1 (cells + mc) (slots + ms) Q (F0 m (pc + 3) ls (v.toList ++ rest))) : W p l e R s m args below meth c H locs cells slots Q (F0 m pc ls st0) :=
  y_run (y := y) (vx_runSX hM hMet cw ⟨okNBlind, fun U hU hW => ⟨rfl, hC.ok hU hW, hN.moved hW.alike⟩⟩ rfl hn hls hst (lv_room hW) hdg hf) hC kx kk
theorem y_lcmpE {x : Int64} (hM : CallFix p m c cc nL s args Ts own) (hdg : decode cc pc = .ok (.lcmp, 1)) (kk : W p l e R s m args below meth c H locs cells slots Q (F0 m (pc + 1) ls (.int (iI 0) :: rest))) : W p l e R s m args below meth c H locs cells slots Q (F0 m pc ls (.long x :: .long x :: rest)) := by
  have hx : lg_cmp x x = iI 0 := by
    unfold lg_cmp
    rw [if_neg (show ¬ x < x from fun h => by simp at h), if_pos rfl]
    try rfl
  exact W.lcmp hM.1 hM.2.1 hdg (by rw [hx]; exact kk)
end YC
